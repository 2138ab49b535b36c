/-! ===== the plain machine: contracts, calls, returns ===== -/
def Inv (g : Gl) (M : Mem) (U : State) : Prop := World g M U.heap ∧ va_K (gl_D g) classes (gl_tys g) U ∧ gl_E g U ∧ GOK g
/-- the method Y called with av in the memory M answers r, the memory is M2 then -/
def Calls (g : Gl) (Y : Meth) (n : Nat) (av : List Value) (M : Mem) (r : Option Value) (M2 : Mem) : Prop :=
  (mZ M ≤ mZ M2 ∧ mL M ≤ mL M2) ∧ ∀ d : Nat, n ≤ d → Met (gl_l g) Y.1 (wsY Y) { frames := d, cells := mZ M2 - mZ M, slots := mL M2 - mL M, locals := 41 * d } (va_Pc (av.map (tv g)) (Inv g M)) (fun _ _ o t => o = .returned (r.map (tv g)) ∧ Inv g M2 t) (mZ M2 - mZ M) (mL M2 - mL M) (fun q => gl_b g ≤ q)
def Cw (g : Gl) (Y : Meth) (n : Nat) (av : List Value) (M : Mem) (Q : Option Value → Mem → Prop) : Prop := ∃ (r : Option Value) (M2 : Mem), Calls g Y n av M r M2 ∧ Q r M2
theorem Cw.mono {g : Gl} {Y : Meth} {n : Nat} {av : List Value} {M : Mem} {Q Q2 : Option Value → Mem → Prop} (h : Cw g Y n av M Q) (hq : ∀ r M2, Q r M2 → Q2 r M2) : Cw g Y n av M Q2 := by
  obtain ⟨r, M2, h1, h2⟩ := h
  exact ⟨r, M2, h1, hq r M2 h2⟩
theorem Cw.le {g : Gl} {Y : Meth} {n n2 : Nat} {av : List Value} {M : Mem} {Q : Option Value → Mem → Prop} (hn : n ≤ n2) (h : Cw g Y n av M Q) : Cw g Y n2 av M Q := by
  obtain ⟨r, M2, ⟨h1, h2⟩, h3⟩ := h
  exact ⟨r, M2, ⟨h1, fun d hd => h2 d (Nat.le_trans hn hd)⟩, h3⟩
abbrev Ci (g : Gl) (Y : Meth) (n : Nat) (av : List Value) (M : Mem) (Q : Int32 → Mem → Prop) : Prop := Cw g Y n av M (fun r M2 => ∃ x, r = some (.int x) ∧ Q x M2)
abbrev Cl (g : Gl) (Y : Meth) (n : Nat) (av : List Value) (M : Mem) (Q : Int64 → Mem → Prop) : Prop := Cw g Y n av M (fun r M2 => ∃ x, r = some (.long x) ∧ Q x M2)
abbrev Cv (g : Gl) (Y : Meth) (n : Nat) (av : List Value) (M : Mem) (Q : Mem → Prop) : Prop := Cw g Y n av M (fun r M2 => r = none ∧ Q M2)
abbrev Ca (g : Gl) (Y : Meth) (n : Nat) (av : List Value) (M : Mem) (Q : Option Nat → Mem → Prop) : Prop := Cw g Y n av M (fun r M2 => ∃ x, r = some (va_rf x) ∧ Q x M2)
theorem Ci.to {g : Gl} {Y : Meth} {n : Nat} {av : List Value} {M : Mem} {Q Q2 : Int32 → Mem → Prop} (h : Ci g Y n av M Q) (hq : ∀ x M2, Q x M2 → Q2 x M2) : Ci g Y n av M Q2 := Cw.mono h (fun _ M2 ⟨x, e, q⟩ => ⟨x, e, hq x M2 q⟩)
theorem Cl.to {g : Gl} {Y : Meth} {n : Nat} {av : List Value} {M : Mem} {Q Q2 : Int64 → Mem → Prop} (h : Cl g Y n av M Q) (hq : ∀ x M2, Q x M2 → Q2 x M2) : Cl g Y n av M Q2 := Cw.mono h (fun _ M2 ⟨x, e, q⟩ => ⟨x, e, hq x M2 q⟩)
theorem Cv.to {g : Gl} {Y : Meth} {n : Nat} {av : List Value} {M : Mem} {Q Q2 : Mem → Prop} (h : Cv g Y n av M Q) (hq : ∀ M2, Q M2 → Q2 M2) : Cv g Y n av M Q2 := Cw.mono h (fun _ M2 ⟨e, q⟩ => ⟨e, hq M2 q⟩)
theorem Ca.to {g : Gl} {Y : Meth} {n : Nat} {av : List Value} {M : Mem} {Q Q2 : Option Nat → Mem → Prop} (h : Ca g Y n av M Q) (hq : ∀ x M2, Q x M2 → Q2 x M2) : Ca g Y n av M Q2 := Cw.mono h (fun _ M2 ⟨x, e, q⟩ => ⟨x, e, hq x M2 q⟩)
/-- the locals with which a method begins -/
def entL : List Value → List (Option Value)
  | [] => []
  | v :: vs => if v.category = 2 then some v :: none :: entL vs else some v :: entL vs
theorem entL_toL {g : Gl} : ∀ (vs : List Value) (k i : Nat), toL g i (entL vs ++ List.replicate k none) = lv_args i (vs.map (tv g))
  | [], k, i => by
    show toL g i (List.replicate k none) = []
    induction k generalizing i with
    | zero => rfl
    | succ k ih => rw [List.replicate_succ, toL]; exact ih (i + 1)
  | v :: vs, k, i => by
    by_cases h : v.category = 2
    · rw [entL, if_pos h, List.map_cons, lv_args, tv_cat, if_pos h]
      show toL g i (some v :: none :: (entL vs ++ List.replicate k none)) = _
      rw [toL, toL, entL_toL vs k (i + 1 + 1)]
    · rw [entL, if_neg h, List.map_cons, lv_args, tv_cat, if_neg h]
      show toL g i (some v :: (entL vs ++ List.replicate k none)) = _
      rw [toL, entL_toL vs k (i + 1)]
theorem FrameBlind.inv (g : Gl) (av : List Value) (M : Mem) : FrameBlind (va_Pc av (Inv g M)) := by
  intro a U fr mk ⟨h1, hW, hK, hE, hG⟩
  exact ⟨h1, hW, va_K.moved (u := U) (U := U.calling fr mk a) (Vm.Alike.refl U.vm) hK, hG.1 U _ (State.WarmedH.refl U) hE, hG⟩
theorem lw_good : ∀ w ∈ gd_tbl, goodWord w = true := fun _ h => (List.mem_filter.mp h).2
theorem good_ws {Y : Meth} (h : Cond.code Y.1 Y.2.1 Y.2.2.1 Y.2.2.2 ∈ gd_tbl) : GoodIn gd_tbl (wsY Y) := fun w hw => by
  rcases List.mem_cons.mp hw with rfl | hw
  · exact ⟨h, good_of_word (lw_good _ h)⟩
  · exact ⟨hw, good_of_word (lw_good _ hw)⟩
theorem met_ofW {l : Launch} {y : MethodName} {ws ws' : List Cond} {rm : Room} {Pc : Array Value → State → Prop} {Qc : Array Value → State → Outcome → State → Prop} {mc ms : Nat} {free : Addr → Prop} {cc : ByteArray} {maxL : Nat} {ret : Option FieldType}
    (hy : plainFor y = true) (hw : ws = Cond.code y cc maxL ret :: ws')
    (body : ∀ p e s m args below meth c s₁, BodyLoose p l y (headSpec ws rm) cc maxL ret e s m args below meth c s₁ → c.maxLocals = maxL → Pc args s →
      W p l e (headSpec ws rm).room s m args below meth c s.heap [] 0 0 (MQ below Qc args s mc ms free) (entryFrame m args maxL)) : Met l y ws rm Pc Qc mc ms free := by
  refine MetFree.of_bodySF (code := cc) (maxLocals := maxL) (ret := ret) hy ?_ ?_
  · intro args s m h hn
    obtain ⟨meth, c, h1, h2, h3, h4, h5, h6, -, -⟩ := Cond.code_spec hn (atoms_spec (ws := ws) h _ (by rw [hw]; exact List.mem_cons_self))
    exact ⟨meth, c, h1, h2, h3, h4, h5, h6⟩
  · intro p e s m args below meth c s₁ B hml hP _
    have hh0 : s₁.heap = s.heap := by rw [B.state]; rfl
    obtain ⟨t, a1, o, b1, b2, b3⟩ := body p e s m args below meth c s₁ B hml hP s₁ hh0 (Stand.of_body B)
    exact ⟨t, o, a1, b1, b2, ⟨b3.1, b3.2⟩⟩
section ENT
variable {g : Gl} {Y : Meth} {n pc : Nat} {lv : List (Option Value)} {st : List Value} {M : Mem} {Q : Option Value → Mem → Prop}
/-- a method's contract out of its walk -/
theorem cw_entry {av : List Value} (k : Nat) (hy : plainFor Y.1 = true) (hL : (lg_sl av).length + k = Y.2.2.1) (h : Wp g Y n 0 (entL av ++ List.replicate k none) [] M Q) : Cw g Y n av M Q := by
  obtain ⟨r, M2, ⟨hm, hR⟩, hQ⟩ := h
  refine ⟨r, M2, ⟨hm, fun d hd => ?_⟩, hQ⟩
  refine met_ofW (cc := Y.2.1) (maxL := Y.2.2.1) (ret := Y.2.2.2) hy rfl ?_
  intro p e s m args below meth c s₁ B hml hv
  obtain ⟨rfl, hW, hK, hE, hG⟩ := hv
  have hts := atoms_spec (ws := wsY Y) B.pre
  have hsl : (lg_sl (av.map (tv g))).length = (lg_sl av).length := by
    unfold lg_sl
    clear hR hQ hm hW hK hE hG hL hts B hml
    induction av with
    | nil => rfl
    | cons v t ih =>
      rw [List.map_cons, List.flatMap_cons, List.flatMap_cons, List.length_append, List.length_append, ih, tv_cat]
      by_cases h : v.category = 2 <;> simp [h]
  have hl := lv_entry (av.map (tv g)) (n := Y.2.2.1) (by omega)
  rw [lg_entry_eq]
  generalize (lg_sl (av.map (tv g)) ++ List.replicate (Y.2.2.1 - (lg_sl (av.map (tv g))).length) Slot.unset).toArray = ls at hl ⊢
  have hl2 : LH g ls Y.2.2.1 (entL av ++ List.replicate k none) := by
    unfold LH; rw [entL_toL]; exact hl
  have hF : FrameOK g Y n p (headSpec (wsY Y) { frames := d, cells := mZ M2 - mZ M, slots := mL M2 - mL M, locals := 41 * d }).room s m (av.map (tv g)).toArray meth c :=
    ⟨⟨B.exec, B.bytes, hml, B.returns, B.notSynchronized, (name_of_methodNamed B.named B.method).1⟩, findClass_of_methodNamed B.named, fun w hw => hts w (List.mem_cons_of_mem _ hw), hK, hE, hG, hd, Nat.mul_le_mul_left 41 hd, by rw [hW.1]; exact Nat.le_add_right _ _⟩
  have key := hR p e (headSpec (wsY Y) { frames := d, cells := mZ M2 - mZ M, slots := mL M2 - mL M, locals := 41 * d }).room s m (av.map (tv g)).toArray below meth c s.heap [] (mZ M) (mL M) (MQ below (fun _ _ o t => o = .returned (r.map (tv g)) ∧ Inv g M2 t) (av.map (tv g)).toArray s (mZ M2 - mZ M) (mL M2 - mL M) (fun q => gl_b g ≤ q)) ls hF hW (fun q hq => by cases hq) hl2 (Nat.le_refl _) (Nat.le_refl _) (Nat.le_refl _) (Nat.le_refl _) ?_
  · rw [Nat.sub_self, Nat.sub_self] at key
    exact key
  · intro pc2 ls2 H2 locs2 hW2 hL2 hret
    have hq : ∀ (o : Option Value), o = r.map (tv g) → ∀ t : State, t.heap = H2 → s.WarmedH t.vm → ((fun _ _ o t => o = Outcome.returned (r.map (tv g)) ∧ Inv g M2 t : Array Value → State → Outcome → State → Prop) (av.map (tv g)).toArray s (.returned o) t) :=
      fun o ho t ht hwm => ⟨by rw [ho], by rw [ht]; exact hW2, va_K.moved hwm.alike hK, hG.1 _ _ hwm hE, hG⟩
    rcases hret with ⟨rfl, hr, hd2⟩ | ⟨x, ty, rfl, hr, hn, hd2⟩ | ⟨x, rfl, hr, hd2⟩ | ⟨q, ty, rfl, hr, hk, hd2⟩
    · exact W.vret B.exec B.bytes (B.returns.trans hr) (hq none rfl) hL2 hd2 B.notSynchronized
    · exact W.zret B.exec B.bytes (B.returns.trans hr) hn (hq (some (.int x)) rfl) hL2 hd2 B.notSynchronized
    · exact W.lret B.exec B.bytes (B.returns.trans hr) (hq (some (.long x)) rfl) hL2 hd2 B.notSynchronized
    · refine W.aret (v := tv g (va_rf q)) B.exec B.bytes (B.returns.trans hr) ?_ ?_ (hq (some (tv g (va_rf q))) rfl) hL2 hd2 B.notSynchronized
      · cases ty <;> simp [fkd] at hk
        · exact Or.inl ⟨_, rfl⟩
        · exact Or.inr ⟨_, rfl⟩
      · cases q
        · exact Or.inl rfl
        · exact Or.inr ⟨_, rfl⟩
theorem wp_ret0 {r : Option Value} (hr : RetAt Y pc r) (hst : st = r.toList) (h : Q r M) : Wp g Y n pc lv st M Q := by
  refine ⟨r, M, ⟨⟨Nat.le_refl _, Nat.le_refl _⟩, fun p e R s m args below meth c H locs z0 l0 Q ls hF hW hL hlv hz hl hc hs hk => ?_⟩, h⟩
  subst hst
  exact hk pc ls H locs hW hL hr
theorem wp_ireturn {x : Int32} {ty : FieldType} (hd : decode Y.2.1 pc = .ok (.ireturn, 1)) (hY : Y.2.2.2 = some ty) (hx : narrow ty (.int x) = .int x) (h : Q (some (.int x)) M) : Wp g Y n pc lv [.int x] M Q := wp_ret0 (r := some (.int x)) (Or.inr (Or.inl ⟨x, ty, rfl, hY, hx, hd⟩)) rfl h
theorem wp_lreturn {x : Int64} (hd : decode Y.2.1 pc = .ok (.lreturn, 1)) (hY : Y.2.2.2 = some .long) (h : Q (some (.long x)) M) : Wp g Y n pc lv [.long x] M Q := wp_ret0 (r := some (.long x)) (Or.inr (Or.inr (Or.inl ⟨x, rfl, hY, hd⟩))) rfl h
theorem wp_areturn {x : Nat} {ty : FieldType} (hd : decode Y.2.1 pc = .ok (.areturn, 1)) (hY : Y.2.2.2 = some ty) (hk : fkd ty = 2) (h : Q (some (va_rf (some x))) M) : Wp g Y n pc lv [.ref x] M Q := wp_ret0 (r := some (va_rf (some x))) (Or.inr (Or.inr (Or.inr ⟨some x, ty, rfl, hY, hk, hd⟩))) rfl h
theorem wp_areturnN {ty : FieldType} (hd : decode Y.2.1 pc = .ok (.areturn, 1)) (hY : Y.2.2.2 = some ty) (hk : fkd ty = 2) (h : Q (some (va_rf none)) M) : Wp g Y n pc lv [.null] M Q := wp_ret0 (r := some (va_rf none)) (Or.inr (Or.inr (Or.inr ⟨none, ty, rfl, hY, hk, hd⟩))) rfl h
theorem wp_return (hd : decode Y.2.1 pc = .ok (.return_, 1)) (hY : Y.2.2.2 = none) (h : Q none M) : Wp g Y n pc lv [] M Q := wp_ret0 (r := none) (Or.inl ⟨rfl, hY, hd⟩) rfl h
/-- behind a call -/
theorem wp_run {stk : List Value} {r : Option Value} {M1 : Mem} (hm : mZ M ≤ mZ M1 ∧ mL M ≤ mL M1)
    (h : ∀ (p : Program) (e : Env) (R : Room) (s : State) (m : MethodId) (args : Array Value) (below : List Frame) (meth : Method) (c : Code) (H : Heap) (locs : List Loc) (cells slots : Nat) (ls : Array Slot), FrameOK g Y n p R s m args meth c → LH g ls Y.2.2.1 lv → World g M H → cells + (mZ M1 - mZ M) ≤ R.cells → slots + (mL M1 - mL M) ≤ R.slots →
      va_Run p (gl_l g) e R s m args below meth c H locs cells slots (mZ M1 - mZ M) (mL M1 - mL M) (F0 m pc ls (stk.map (tv g))) (st.map (tv g)) (fun _ o t => o = .returned (r.map (tv g)) ∧ Inv g M1 t) (fun q => gl_b g ≤ q))
    (k : Wp g Y n (pc + 3) lv (r.toList ++ st) M1 Q) : Wp g Y n pc lv stk M Q := by
  refine wp_mem (dz := mZ M1 - mZ M) (dl := mL M1 - mL M) (M2 := M1) (by omega) (by omega) (fun p e R s m args below meth c H locs cells slots Q ls hF hlv hW hL hcs hss k0 => ?_) k
  intro T hT X
  obtain ⟨v, st₀, t, T', L, h0, X', hL2, e1, e2, ⟨hv, hI⟩, stp⟩ := h p e R s m args below meth c H locs cells slots ls hF hlv hW hcs hss T hT X
  cases hv
  obtain ⟨t2, a1, b1⟩ := k0 T'.heap (locs ++ L) (by rw [e1]; exact hI.1) (fun q hq => by
    rcases List.mem_append.mp hq with h | h
    · exact hL q h
    · exact hL2 q h) T' rfl X'
  refine ⟨t2, stp t2 ?_, b1⟩
  rw [List.map_append] at a1
  cases r <;> exact a1
/-- a method that is called: its words -/
def YOK (Y2 : Meth) (k : Nat) : Prop := Cond.code Y2.1 Y2.2.1 Y2.2.2.1 Y2.2.2.2 ∈ gd_tbl ∧ Cond.initialized Y2.1.cls ∈ gd_tbl ∧ (Y2.1.cls ≠ "java/lang/invoke/MethodHandle" ∧ Y2.1.cls ≠ "java/lang/invoke/VarHandle" ∧ (parseMethodDescriptor Y2.1.desc).map (fun d => d.parameters.length) = some k) ∧ Y2.2.2.1 ≤ 22
def VLk (own : String) (ix : Nat) (Y2 : Meth) (k ci : Nat) : Prop := YOK Y2 k ∧ Cond.methodLink own ix Y2.1 ∈ gd_tbl ∧ Cond.instanceMethod Y2.1 ∈ gd_tbl ∧ Cond.selects Y2.1.cls Y2.1 Y2.1 ∈ gd_tbl ∧ ∃ (T : u_T) (N : Nat), classes[ci]? = some (Y2.1.cls, T, N)
def SLk (own : String) (ix : Nat) (Y2 : Meth) (k : Nat) : Prop := YOK Y2 k ∧ Cond.methodLink own ix Y2.1 ∈ gd_tbl ∧ Cond.static Y2.1 ∈ gd_tbl
def SNk (own : String) (ix : Nat) (Y2 : Meth) (k : Nat) : Prop := YOK Y2 k ∧ (∃ host, Cond.methodLinkNest own ix Y2.1 host ∈ xw_tbl) ∧ Cond.static Y2.1 ∈ gd_tbl
def ILk (own : String) (ix : Nat) (Y2 : Meth) (k : Nat) : Prop := YOK Y2 k ∧ Cond.methodLink own ix Y2.1 ∈ gd_tbl ∧ Cond.instanceMethod Y2.1 ∈ gd_tbl ∧ Y2.1.name = "<init>" ∧ Y2.2.2.2 = none
def INk (own : String) (ix : Nat) (Y2 : Meth) (k : Nat) : Prop := YOK Y2 k ∧ (∃ host, Cond.methodLinkNest own ix Y2.1 host ∈ xw_tbl) ∧ Cond.instanceMethod Y2.1 ∈ gd_tbl ∧ Y2.1.name = "<init>" ∧ Y2.2.2.2 = none
theorem room_ok {n n2 : Nat} {R : Room} {Y2 : Meth} (hn : n2 + 1 ≤ n) (h1 : n ≤ R.frames) (h2 : 41 * n ≤ R.locals) (h3 : Y2.2.2.1 ≤ 22) : n2 + 1 ≤ R.frames ∧ 8 + (Y2.2.2.1 + 11) + 41 * n2 ≤ R.locals := by
  constructor
  · omega
  · omega
theorem cats_ok {m : MethodId} {pc : Nat} {ls : Array Slot} {x : List Value} (h : (st.map fun v => v.category).sum ≤ 8) : 2 * (F0 m pc ls x).monitorRoom + ((st.map (tv g)).map fun v => v.category).sum ≤ 8 := by
  rw [tv_cats]; exact lv_room h
theorem wp_callV {ix n2 b ci len : Nat} {Y2 : Meth} {As : List Value} (hd : decode Y.2.1 pc = .ok (.invokevirtual ix, 3)) (hl : VLk Y.1.cls ix Y2 As.length ci) (hn : n2 + 1 ≤ n) (hst : (st.map fun v => v.category).sum ≤ 8) (hT : mT M b = (ci, len)) (hc : Cw g Y2 n2 (.ref b :: As) M (fun r M1 => Wp g Y n (pc + 3) lv (r.toList ++ st) M1 Q)) : Wp g Y n pc lv (As.reverse ++ .ref b :: st) M Q := by
  obtain ⟨r, M1, ⟨hm, hM⟩, k⟩ := hc
  refine wp_run hm (fun p e R s m args below meth c H locs cells slots ls hF hlv hW hcs hss => ?_) k
  obtain ⟨⟨hx, hb, hml, -⟩, hown, hts, hK, hE, hG, hfr, hlo, -⟩ := hF
  obtain ⟨⟨w1, w2, w3, w4⟩, w5, w6, w7, T, N, w8⟩ := hl
  obtain ⟨-, cell, c1, c2, c3, -⟩ := hW.obj hT (cls_ok w8).1
  have hrecv : ∃ cellB : Cell, H[gl_b g + b]? = some cellB ∧ cellB.vm.isStatics = false ∧ s.vm.findClass Y2.1.cls = some cellB.cls := ⟨cell, c1, by rw [c3]; rfl, by rw [c2]; exact (hK.1 ci _ w8).2.1⟩
  have := va_runV (e := e) (below := below) (meth := meth) (locs := locs) (cells := cells) (slots := slots) (b := gl_b g + b) (As := As.map (tv g)) (rest := st.map (tv g)) (g := F0 m pc ls ((As.reverse ++ .ref b :: st).map (tv g))) ⟨hx, hb, hml, hown, hts⟩ (hM n2 (Nat.le_refl _))
    (C := Y2.1.cls) (index := ix) (n := As.length) ⟨callB_of As.length hts (good_ws w1) rfl rfl rfl (hts _ w2) (hts _ w5) w3 (room_ok hn hfr hlo w4), hts _ w6, hts _ w7⟩ ⟨FrameBlind.inv g _ M, hrecv, fun U hU hwm => ⟨rfl, by rw [hU]; exact hW, va_K.moved hwm.alike hK, hG.1 _ _ hwm hE, hG⟩⟩ rfl (by rw [List.length_map]) hlv.1 (by rw [List.map_append, List.map_reverse]; rfl) (cats_ok hst) hd ⟨hcs, hss⟩
  exact this
theorem wp_callS {ix n2 : Nat} {Y2 : Meth} {As : List Value} (hd : decode Y.2.1 pc = .ok (.invokestatic ix, 3)) (hl : SLk Y.1.cls ix Y2 As.length) (hn : n2 + 1 ≤ n) (hst : (st.map fun v => v.category).sum ≤ 8) (hc : Cw g Y2 n2 As M (fun r M1 => Wp g Y n (pc + 3) lv (r.toList ++ st) M1 Q)) : Wp g Y n pc lv (As.reverse ++ st) M Q := by
  obtain ⟨r, M1, ⟨hm, hM⟩, k⟩ := hc
  refine wp_run hm (fun p e R s m args below meth c H locs cells slots ls hF hlv hW hcs hss => ?_) k
  obtain ⟨⟨hx, hb, hml, -⟩, hown, hts, hK, hE, hG, hfr, hlo, -⟩ := hF
  obtain ⟨⟨w1, w2, w3, w4⟩, w5, w6⟩ := hl
  have := va_runS (e := e) (below := below) (meth := meth) (locs := locs) (cells := cells) (slots := slots) (As := As.map (tv g)) (rest := st.map (tv g)) (g := F0 m pc ls ((As.reverse ++ st).map (tv g))) ⟨hx, hb, hml, hown, hts⟩ (hM n2 (Nat.le_refl _))
    (index := ix) (n := As.length) ⟨callB_of As.length hts (good_ws w1) rfl rfl rfl (hts _ w2) (hts _ w5) w3 (room_ok hn hfr hlo w4), hts _ w6⟩ ⟨FrameBlind.inv g _ M, fun U hU hwm => ⟨rfl, by rw [hU]; exact hW, va_K.moved hwm.alike hK, hG.1 _ _ hwm hE, hG⟩⟩ rfl (by rw [List.length_map]) hlv.1 (by rw [List.map_append, List.map_reverse]) (cats_ok hst) hd ⟨hcs, hss⟩
  exact this
theorem wp_callSN {ix n2 : Nat} {Y2 : Meth} {As : List Value} (hd : decode Y.2.1 pc = .ok (.invokestatic ix, 3)) (hl : SNk Y.1.cls ix Y2 As.length) (hn : n2 + 1 ≤ n) (hst : (st.map fun v => v.category).sum ≤ 8) (hc : Cw g Y2 n2 As M (fun r M1 => Wp g Y n (pc + 3) lv (r.toList ++ st) M1 Q)) : Wp g Y n pc lv (As.reverse ++ st) M Q := by
  obtain ⟨r, M1, ⟨hm, hM⟩, k⟩ := hc
  refine wp_run hm (fun p e R s m args below meth c H locs cells slots ls hF hlv hW hcs hss => ?_) k
  obtain ⟨⟨hx, hb, hml, -⟩, hown, hts, hK, hE, hG, hfr, hlo, -⟩ := hF
  obtain ⟨⟨w1, w2, w3, w4⟩, ⟨host, w5⟩, w6⟩ := hl
  have := va_runSN (e := e) (below := below) (meth := meth) (locs := locs) (cells := cells) (slots := slots) (As := As.map (tv g)) (rest := st.map (tv g)) (g := F0 m pc ls ((As.reverse ++ st).map (tv g))) ⟨hx, hb, hml, hown, hts⟩ (hM n2 (Nat.le_refl _))
    (index := ix) (n := As.length) (host := host) ⟨va_cnB As.length hts (good_ws w1) rfl rfl rfl (hG.2 s hE _ w5) (hts _ w2) w3 (room_ok hn hfr hlo w4), hts _ w6, trivial⟩ ⟨FrameBlind.inv g _ M, fun U hU hwm => ⟨rfl, by rw [hU]; exact hW, va_K.moved hwm.alike hK, hG.1 _ _ hwm hE, hG⟩⟩ rfl (by rw [List.length_map]) hlv.1 (by rw [List.map_append, List.map_reverse]) (cats_ok hst) hd ⟨hcs, hss⟩
  exact this
theorem wp_callI {ix n2 b : Nat} {Y2 : Meth} {As : List Value} (hd : decode Y.2.1 pc = .ok (.invokespecial ix, 3)) (hl : ILk Y.1.cls ix Y2 As.length) (hn : n2 + 1 ≤ n) (hst : (st.map fun v => v.category).sum ≤ 8) (hc : Cw g Y2 n2 (.ref b :: As) M (fun r M1 => Wp g Y n (pc + 3) lv (r.toList ++ st) M1 Q)) : Wp g Y n pc lv (As.reverse ++ .ref b :: st) M Q := by
  obtain ⟨r, M1, ⟨hm, hM⟩, k⟩ := hc
  refine wp_run hm (fun p e R s m args below meth c H locs cells slots ls hF hlv hW hcs hss => ?_) k
  obtain ⟨⟨hx, hb, hml, -⟩, hown, hts, hK, hE, hG, hfr, hlo, -⟩ := hF
  obtain ⟨⟨w1, w2, w3, w4⟩, w5, w6, w7, w8⟩ := hl
  rw [w8] at w1
  have hM2 := hM n2 (Nat.le_refl _)
  unfold wsY at hM2
  rw [w8] at hM2
  have hgd : GoodIn gd_tbl (Cond.code Y2.1 Y2.2.1 Y2.2.2.1 none :: gd_tbl) := good_ws (Y := (Y2.1, Y2.2.1, Y2.2.2.1, none)) w1
  have := va_runI (e := e) (below := below) (meth := meth) (locs := locs) (cells := cells) (slots := slots) (b := gl_b g + b) (As := As.map (tv g)) (rest := st.map (tv g)) (g := F0 m pc ls ((As.reverse ++ .ref b :: st).map (tv g))) ⟨hx, hb, hml, hown, hts⟩ hM2
    (index := ix) (n := As.length) ⟨callB_of As.length hts hgd rfl rfl rfl (hts _ w2) (hts _ w5) w3 (room_ok hn hfr hlo w4), w7, hts _ w6⟩ ⟨FrameBlind.inv g _ M, fun U hU hwm => ⟨rfl, by rw [hU]; exact hW, va_K.moved hwm.alike hK, hG.1 _ _ hwm hE, hG⟩⟩ rfl (by rw [List.length_map]) hlv.1 (by rw [List.map_append, List.map_reverse]; rfl) (cats_ok hst) hd ⟨hcs, hss⟩
  exact this
theorem wp_callIN {ix n2 b : Nat} {Y2 : Meth} {As : List Value} (hd : decode Y.2.1 pc = .ok (.invokespecial ix, 3)) (hl : INk Y.1.cls ix Y2 As.length) (hn : n2 + 1 ≤ n) (hst : (st.map fun v => v.category).sum ≤ 8) (hc : Cw g Y2 n2 (.ref b :: As) M (fun r M1 => Wp g Y n (pc + 3) lv (r.toList ++ st) M1 Q)) : Wp g Y n pc lv (As.reverse ++ .ref b :: st) M Q := by
  obtain ⟨r, M1, ⟨hm, hM⟩, k⟩ := hc
  refine wp_run hm (fun p e R s m args below meth c H locs cells slots ls hF hlv hW hcs hss => ?_) k
  obtain ⟨⟨hx, hb, hml, -⟩, hown, hts, hK, hE, hG, hfr, hlo, -⟩ := hF
  obtain ⟨⟨w1, w2, w3, w4⟩, ⟨host, w5⟩, w6, w7, w8⟩ := hl
  rw [w8] at w1
  have hM2 := hM n2 (Nat.le_refl _)
  unfold wsY at hM2
  rw [w8] at hM2
  have hgd : GoodIn gd_tbl (Cond.code Y2.1 Y2.2.1 Y2.2.2.1 none :: gd_tbl) := good_ws (Y := (Y2.1, Y2.2.1, Y2.2.2.1, none)) w1
  have := va_runIN (e := e) (below := below) (meth := meth) (locs := locs) (cells := cells) (slots := slots) (b := gl_b g + b) (As := As.map (tv g)) (rest := st.map (tv g)) (g := F0 m pc ls ((As.reverse ++ .ref b :: st).map (tv g))) ⟨hx, hb, hml, hown, hts⟩ hM2
    (index := ix) (n := As.length) (host := host) ⟨va_cnB As.length hts hgd rfl rfl rfl (hG.2 s hE _ w5) (hts _ w2) w3 (room_ok hn hfr hlo w4), w7, hts _ w6⟩ ⟨FrameBlind.inv g _ M, fun U hU hwm => ⟨rfl, by rw [hU]; exact hW, va_K.moved hwm.alike hK, hG.1 _ _ hwm hE, hG⟩⟩ rfl (by rw [List.length_map]) hlv.1 (by rw [List.map_append, List.map_reverse]; rfl) (cats_ok hst) hd ⟨hcs, hss⟩
  exact this
theorem wp_objInit {ix b : Nat} (hd : decode Y.2.1 pc = .ok (.invokespecial ix, 3)) (hw : Cond.methodLink Y.1.cls ix Lib.objectInit ∈ gd_tbl) (hw2 : Cond.instanceMethod Lib.objectInit ∈ gd_tbl ∧ Cond.code Lib.objectInit ⟨#[0xb1]⟩ 1 none ∈ gd_tbl) (hn : 1 ≤ n) (hst : (st.map fun v => v.category).sum ≤ 8) (k : Wp g Y n (pc + 3) lv st M Q) : Wp g Y n pc lv (.ref b :: st) M Q := by
  refine wp_pure (fun p e R s m args below meth c H locs cells slots Q ls hF hlv hW k0 => ?_) k
  obtain ⟨⟨hx, hb, hml, -⟩, hown, hts, hK, hE, hG, hfr, hlo, -⟩ := hF
  refine W.objInit hx hb hown (hts _ hw) (hts _ hw2.1) (hts _ hw2.2) rfl (hlv.1.trans hml.symm) rfl hd (by omega) ?_ k0
  have := cats_ok (g := g) (st := st) (m := m) (pc := pc) (ls := ls) (x := st.map (tv g)) hst
  exact Nat.le_trans (Nat.add_le_add_right this 12) (by omega)
end ENT

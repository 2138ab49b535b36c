-- ===== end of PART A; then your names; then what follows =====
/-! THE CLAIM OUT OF ONE WALK OF THE LAW'S BODY. Your part is whole_start (and what it stands on); all else here is the same for every law, but numbers. -/
def R_law : String := "MissCurvesLaw"
def lw_P (b : Addr) (xs : List Int32) (args : Array Value) (s : State) : Prop := args = #[.ref b] ∧ s.IntsAt b xs ∧ xs.length ≤ 3072 ∧ (Jvm.Cond.and given_1 narrow_1).before args s = true
def lw_Q (_ : Array Value) (s : State) (o : Outcome) (t : State) : Prop := o = .returned (some (.int 1)) ∧ Framed s o t [] room_1.cells room_1.slots
/-- the law's own use of room (at most 20000 and 2200000) is far below what the claim has, whatever TURN measured -/
theorem lw_room : 20000 ≤ room_1.cells ∧ 2200000 ≤ room_1.slots := ⟨Nat.le_of_ble_eq_true rfl, Nat.le_of_ble_eq_true rfl⟩
def lw_Z (below : List Frame) (a : Array Value) (s : State) : State → Prop := fun t => ∃ o, t.status = .running ∧ Ended t below o ∧ lw_Q a s o t
/-- the law's own end, with 1 on the stack, nothing written that was there before, its room as the claim has it -/
theorem lw_ret {p : Program} {l : Launch} {e : Env} {s : State} {m : MethodId} {below : List Frame} {meth : Method} {c : Code} {b : Nat} (hx : p.tables.exec = Jvm.exec) (hb : c.code = code) (hr : meth.sig.returnType = ret) (hlocks : meth.locks = false) {pc : Nat} {H : Heap} {ls : Array Slot} (hdg : decode code pc = .ok (.ireturn, 1)) : W p l e room_1 s m #[Value.ref b] below meth c H [] room_1.cells room_1.slots (lw_Z below #[Value.ref b] s) (F0 m pc ls [.int 1]) := by
  intro T hT X
  obtain ⟨fs, hret, hrun, hended, hW, hframe⟩ := X.leave (v := some (.int 1)) (hlocks := hlocks) (fun h => by rw [hr] at h; cases h)
  have hmeth' : T.vm.method? m = some meth := X.method'
  refine ⟨T.setFrames fs, ?_, .returned (some (.int 1)), hrun, hended, rfl, ⟨_, rfl⟩, hW, hframe⟩
  jvm_step X.here [X.here.top, hx, hb, hdg, hmeth', hr, ret, narrow_b1]
  (try refine ⟨rfl, ?_⟩); (try refine ⟨rfl, ?_⟩)
  first | (intro acts; rw [hret _ acts rfl rfl rfl]) | rw [hret _ _ rfl rfl rfl]
  exact Steps.refl _
/-- what holds at the law's entry: the machine, the code, the tables' words (any of lw_tbl by 'hts w (by decide +kernel)'), the script of L ints xs at the cell b, what the Statement gives of the start (any of its parts by flat_of_before) -/
def lw_At (p : Program) (s : State) (m : MethodId) (meth : Method) (c : Code) (b L : Nat) (xs : Nat → Int32) : Prop :=
  p.tables.exec = Jvm.exec ∧ c.code = code ∧ meth.sig.returnType = ret ∧ c.maxLocals = 4 ∧ s.vm.findClass R_law = some m.cls ∧ (∀ w ∈ lw_tbl, w.before #[Value.ref b] s = true) ∧ va_X b L xs s s.heap ∧ b < s.heap.size ∧ meth.locks = false ∧ (Jvm.Cond.and given_1 narrow_1).before #[Value.ref b] s = true
/-! ===== the top: the claim out of one Wp of the law ===== -/
theorem xw_warm {s U : State} (hW : s.WarmedH U.vm) (h : ∀ w ∈ xw_tbl, w.before #[] s = true) : ∀ w ∈ xw_tbl, w.before #[] U = true := by
  intro w hw
  have hx := (List.mem_filter.mp hw).2
  have h1 := h w hw
  cases w with
  | methodLinkNest a i x ho => exact va_Nw.warmM hW h1
  | arrayOver ty =>
    have h2 : (Cond.arrayOver ty).before #[] (s.setVm U.vm) = true := by rw [Cond.arrayOver_setVmC hW.alike]; exact h1
    exact h2
  | _ => exact absurd (show false = true from hx) Bool.false_ne_true
theorem inst_ok {ci : Nat} {C : String} {T : u_T} {N : Nat} (h : classes[ci]? = some (C, T, N)) : Cond.instantiable C N ∈ gd_tbl := by
  match ci, h with
  | 0, h => obtain ⟨_, _, _, hc, -, hi, -⟩ := cl_Mc_77; cases hc.symm.trans h; exact hi
  | 1, h => obtain ⟨_, _, _, hc, -, hi, -⟩ := cl_Mc_84; cases hc.symm.trans h; exact hi
  | 2, h => obtain ⟨_, _, _, hc, -, hi, -⟩ := cl_Mc_63; cases hc.symm.trans h; exact hi
  | 3, h => obtain ⟨_, _, _, hc, -, hi, -⟩ := cl_Mc_56; cases hc.symm.trans h; exact hi
  | 4, h => obtain ⟨_, _, _, hc, -, hi, -⟩ := cl_Sh_41; cases hc.symm.trans h; exact hi
  | 5, h => obtain ⟨_, _, _, hc, -, hi, -⟩ := cl_Mc_70; cases hc.symm.trans h; exact hi
  | 6, h => obtain ⟨_, _, _, hc, -, hi, -⟩ := cl_Mc_9; cases hc.symm.trans h; exact hi
  | 7, h => obtain ⟨_, _, _, hc, -, hi, -⟩ := cl_Wo_9; cases hc.symm.trans h; exact hi
  | 8, h => obtain ⟨_, _, _, hc, -, hi, -⟩ := cl_Mc_16; cases hc.symm.trans h; exact hi
  | 9, h => obtain ⟨_, _, _, hc, -, hi, -⟩ := cl_Sh_9; cases hc.symm.trans h; exact hi
  | 10, h => obtain ⟨_, _, _, hc, -, hi, -⟩ := cl_La_7; cases hc.symm.trans h; exact hi
  | 11, h => obtain ⟨_, _, _, hc, -, hi, -⟩ := cl_La_10; cases hc.symm.trans h; exact hi
  | 12, h => obtain ⟨_, _, _, hc, -, hi, -⟩ := cl_Cu_19; cases hc.symm.trans h; exact hi
  | q + 13, h => simp [classes] at h
/-- what is said of outside: the words that the machine may note, the script, Strings and statics -/
def EX (b L : Nat) (xs : Nat → Int32) (ad : Nat → Nat × Nat) (o t : Nat) (fv : Value) (Hx : Heap) (U : State) : Prop := (∀ w ∈ xw_tbl, w.before #[] U = true) ∧ va_X b L xs U Hx ∧ OutP ad o t fv (fun q => Hx.size ≤ q) U Hx
/-- where the things outside are -/
def exA (b : Nat) (ad : Nat → Nat × Nat) (o t q : Nat) (k : Nat) : Nat := if k = 0 then b else if k = 90 then q else if k = 91 then o else if k = 92 then t else if k < 90 then (ad (k - 1)).1 else (ad (k - 101)).2
theorem top_of {p : Program} {e : Env} {s : State} {m : MethodId} {below : List Frame} {meth : Method} {c : Code} (l : Launch) {b L : Nat} {xs : Nat → Int32} (C0 : lw_At p s m meth c b L xs)
    (HW : ∀ (g : Gl) (nm : String), GOK g → ScrOK g L xs → OutOK g → DgOK g → PvOK g → Wp g (Y_La nm) 2048 0 [some (.retAddr 0), none, none, none] [] (ofL []) laQ) :
    W p l e room_1 s m #[Value.ref b] below meth c s.heap [] 0 0 (lw_Z below #[Value.ref b] s) (entryFrame m ([Value.ref b] : List Value).toArray 4) := by
  obtain ⟨hx, hb, hr, hml, hown, hts, hX, hbl, hlocks, hgv⟩ := C0
  have hg : ∀ w ∈ gd_tbl, w.before #[Value.ref b] s = true := fun w hw => hts w (List.mem_filter.mp hw).1
  have hxw : ∀ w ∈ xw_tbl, w.before #[] s = true := by
    intro w hw
    have h1 := hts w (List.mem_filter.mp hw).1
    have hx2 := (List.mem_filter.mp hw).2
    cases w with
    | methodLinkNest a i x ho => exact va_any rfl h1
    | arrayOver ty => exact h1
    | _ => exact absurd (show false = true from hx2) Bool.false_ne_true
  have hK1 : ∀ ci : Nat, ∃ q : ClassId × (Nat → Nat), ∀ r : vw_C, classes[ci]? = some r → u_Kn s r.1 r.2.1 r.2.2 q.1 q.2 := by
    intro ci
    cases hq : classes[ci]? with
    | none => exact ⟨(0, fun _ => 0), fun r hr2 => by cases hr2⟩
    | some r =>
      obtain ⟨C, T, N⟩ := r
      obtain ⟨-, hin, -⟩ := cls_ok hq
      obtain ⟨cC, iS, hk⟩ := u_known (C := C) (T := T) (N := N) (n := N) hg hin (hg _ (inst_ok hq))
      exact ⟨(cC, iS), fun r hr2 => by cases hr2; exact hk⟩
  have hprim : ∀ ty : FieldType, (∀ C, ty ≠ .object C) → Cond.arrayClass ty ∈ gd_tbl → ∃ cA : ClassId, ArrOfT s cA ty ∧ va_RA s cA ty := by
    intro ty hno hw
    obtain ⟨cA, kA, comp, f1, f2, f3⟩ := Cond.arrayClass_spec (hg _ hw)
    refine ⟨cA, fun N z => ⟨(fun k h => by cases h), kA, f2, comp, f3⟩, ?_⟩
    cases ty with
    | object C => exact absurd rfl (hno C)
    | _ => exact f1
  have hobj : ∀ C : String, Cond.arrayOver (.object C) ∈ xw_tbl → ∃ cA : ClassId, ArrOfT s cA (.object C) ∧ va_RA s cA (.object C) := by
    intro C hw
    obtain ⟨comp, cA, kA, f0, -, f2, f3, f1⟩ := Cond.arrayOver_spec (hxw _ hw)
    exact ⟨cA, fun N z => ⟨(fun k h => by cases h), kA, f2, comp, f3⟩, kA, comp, f2, f3, f0, f1⟩
  have hA1 : ∀ κ : Nat, ∃ cA : ClassId, 20 ≤ κ → κ < 28 → ArrOfT s cA (aty κ) ∧ va_RA s cA (aty κ) := by
    intro κ
    by_cases hk : 20 ≤ κ ∧ κ < 28
    · have hres : ∃ cA : ClassId, ArrOfT s cA (aty κ) ∧ va_RA s cA (aty κ) := by
        rcases (show κ = 20 ∨ κ = 21 ∨ κ = 22 ∨ κ = 23 ∨ κ = 24 ∨ κ = 25 ∨ κ = 26 ∨ κ = 27 by omega) with rfl | rfl | rfl | rfl | rfl | rfl | rfl | rfl
        · exact hprim .int (fun C h => by cases h) ac_int
        · exact hprim .long (fun C h => by cases h) ac_long
        · exact hprim .byte (fun C h => by cases h) ac_byte
        · exact hprim .boolean (fun C h => by cases h) ac_boolean
        · exact hobj _ al_Wo_9.2
        · exact hobj _ al_Sh_9.2
        · exact hobj _ al_Mc_9.2
        · exact hobj _ al_Sh_41.2
      obtain ⟨cA, hh⟩ := hres
      exact ⟨cA, fun _ _ => hh⟩
    · exact ⟨0, fun h1 h2 => absurd ⟨h1, h2⟩ hk⟩
  obtain ⟨ad, o, t, fv, hfv, hout⟩ := out_of (A := fun q => s.heap.size ≤ q) hts hgv (fun a ha q => absurd (Nat.lt_of_lt_of_le ha q) (Nat.lt_irrefl _))
  obtain ⟨q0, v0, hv0, hv1⟩ : ∃ (q0 : Nat) (v0 : Value), (v0 = .null ∨ v0 = .retAddr 90) ∧ ∀ g : Gl, gl_ext g 90 = q0 → tv g v0 = fv := by
    rcases hfv with rfl | ⟨q, rfl⟩
    · exact ⟨0, .null, Or.inl rfl, fun g _ => rfl⟩
    · exact ⟨q, .retAddr 90, Or.inr rfl, fun g e => by show Value.ref (gl_ext g 90) = _; rw [e]⟩
  let g : Gl := (l, (fun ci => (hK1 ci).choose.1, fun ci => (hK1 ci).choose.2), (fun κ => (hA1 κ).choose), exA b ad o t q0, s.heap, EX b L xs ad o t fv s.heap)
  have hK : va_K (gl_D g) classes (gl_tys g) s := by
    refine ⟨fun ci r hr2 => (hK1 ci).choose_spec r hr2, fun k q hq => ?_⟩
    have hlt : k < 8 := (List.getElem?_eq_some_iff.mp hq).1
    have hat := tys_at g (κ := 20 + k) (by omega) (by omega)
    rw [show 20 + k - 20 = k by omega] at hat
    cases hq.symm.trans hat
    exact (hA1 (20 + k)).choose_spec (by omega) (by omega)
  have hG : GOK g := ⟨fun u U hW hE => ⟨xw_warm hW hE.1, hE.2.1.moved hW.alike, hE.2.2.warm hW⟩, fun U hE => hE.1⟩
  have e1 : ∀ i, i < 28 → gl_ext g (1 + i) = (ad i).1 := fun i hi => by
    show exA b ad o t q0 (1 + i) = _
    unfold exA
    rw [if_neg (by omega), if_neg (by omega), if_neg (by omega), if_neg (by omega), if_pos (by omega), Nat.add_sub_cancel_left]
  have e101 : ∀ i, i < 28 → gl_ext g (101 + i) = (ad i).2 := fun i hi => by
    show exA b ad o t q0 (101 + i) = _
    unfold exA
    rw [if_neg (by omega), if_neg (by omega), if_neg (by omega), if_neg (by omega), if_neg (by omega), Nat.add_sub_cancel_left]
  have hScr : ScrOK g L xs := ⟨fun U hE => hE.2.1, hbl⟩
  have hStr : StrOK g := fun U hE => ⟨fun i hi => by
    rw [e1 i hi, e101 i hi]
    exact hE.2.2.1 i hi, hE.2.2.2.1⟩
  have hFmt : FmtOK g v0 := ⟨hv0, fun U hE => by
    rw [hv1 g rfl]
    exact hE.2.2.2.2.1⟩
  have hDg : DgOK g := fun U hE => hE.2.2.2.2.2.1
  have hPv : PvOK g := fun U hE => hE.2.2.2.2.2.2
  obtain ⟨r, M2, ⟨hm, hR⟩, hr1, hz, hl⟩ := HW g meth.name hG hScr ⟨hStr, v0, hFmt⟩ hDg hPv
  subst hr1
  have hle := lv_entry ([Value.ref b]) (n := 4) (Nat.le_of_ble_eq_true rfl)
  rw [lg_entry_eq]
  generalize (lg_sl ([Value.ref b]) ++ List.replicate (4 - (lg_sl ([Value.ref b])).length) Slot.unset).toArray = ls at hle ⊢
  have hLH : LH g ls 4 [some (.retAddr 0), none, none, none] := hle
  have hret : ret = some .boolean := rfl
  have hF : FrameOK g (Y_La meth.name) 2048 p room_1 s m #[Value.ref b] meth c := ⟨⟨hx, hb, hml, hr, hlocks, rfl⟩, hown, hg, hK, ⟨hxw, hX, hout⟩, hG, Nat.le_of_ble_eq_true rfl, by decide, Nat.le_refl _⟩
  have hW0 : World g (ofL []) s.heap := ⟨rfl, fun q _ => rfl, fun a ha => absurd ha (by show ¬ (28 < 28); decide)⟩
  refine hR p e room_1 s m #[Value.ref b] below meth c s.heap [] 0 0 (lw_Z below #[Value.ref b] s) ls hF hW0 (fun q hq => by cases hq) hLH (Nat.zero_le _) (Nat.zero_le _) (Nat.le_trans hz lw_room.1) (Nat.le_trans hl lw_room.2) ?_
  intro pc2 ls2 H2 locs2 hW2 hL2 hret2
  refine va_forget (fun q hq => hL2 q hq) ?_
  refine W.widen (k := room_1.cells) (n := room_1.slots) (Nat.le_trans hz lw_room.1) (Nat.le_trans hl lw_room.2) ?_
  rcases hret2 with ⟨q1, -⟩ | ⟨x, ty, q1, q2, q3, q4⟩ | ⟨x, q1, -⟩ | ⟨q, ty, q1, -⟩
  · cases q1
  · exact lw_ret hx hb hr hlocks q4
  · cases q1
  · cases q <;> cases q1
/-- from the entry, for every script, the law comes to its end with true -/
theorem whole_start {p : Program} {e : Env} {s : State} {m : MethodId} {below : List Frame} {meth : Method} {c : Code} (l : Launch) {b L : Nat} {xs : Nat → Int32} (hL : L ≤ 3072) (C0 : lw_At p s m meth c b L xs) : W p l e room_1 s m #[Value.ref b] below meth c s.heap [] 0 0 (lw_Z below #[Value.ref b] s) (entryFrame m ([Value.ref b] : List Value).toArray 4) :=
  top_of l C0 (fun g nm _ hX hS hD hP => la_start hX hS hD hP hL)

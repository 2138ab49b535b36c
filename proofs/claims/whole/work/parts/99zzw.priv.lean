/-! ===== a private method of a class above, on an object of a class below ===== -/
section PRV
theorem sel_priv {s : State} {args : Array Value} {y : MethodName} {C : String} {cC : ClassId} (hc : s.vm.findClass C = some cC) (hsm : (Cond.sameMethod y.cls y.cls y.name y.desc).before args s = true) (hp : (Cond.privateMethod y).before args s = true) (hi : (Cond.instanceMethod y).before args s = true) : (Cond.selects C y y).before args s = true := by
  obtain ⟨mk, methM, hnamed, hmethM, -, -⟩ := Cond.instanceMethod_spec hi
  have hsel : selectMethod {} s.vm cC mk = .method mk := selectMethod_private hmethM (Cond.privateMethod_at hp mk methM hnamed hmethM)
  have hcl := findClass_of_methodNamed hnamed
  have hn2 : s.methodNamed? ⟨y.cls, y.name, y.desc⟩ = some mk := hnamed
  cases hf : s.methodFound? y.cls y.name y.desc with
  | none =>
    simp [Cond.before, Cond.holds, Cond.value, hcl, hf, hn2] at hsm
  | some r =>
    simp [Cond.before, Cond.holds, Cond.value, hcl, hf, hn2] at hsm
    obtain ⟨rfl, h2⟩ := hsm
    simp only [Cond.before, Cond.holds, Cond.value, hc, hf, hnamed, hsel]
    simpa using h2
def PLk (own : String) (ix : Nat) (Y2 : Meth) (k : Nat) : Prop := YOK Y2 k ∧ Cond.methodLink own ix Y2.1 ∈ gd_tbl ∧ Cond.instanceMethod Y2.1 ∈ gd_tbl ∧ Cond.sameMethod Y2.1.cls Y2.1.cls Y2.1.name Y2.1.desc ∈ gd_tbl
/-- what is said of the two private ones -/
def PvOK (g : Gl) : Prop := ∀ U, gl_E g U → ∀ a : Array Value, (Cond.privateMethod Y_As_ensureCapacityInternal.1).before a U = true ∧ (Cond.privateMethod Y_As_newCapacity.1).before a U = true
abbrev PvY (g : Gl) (Y2 : Meth) : Prop := ∀ U, gl_E g U → ∀ a : Array Value, (Cond.privateMethod Y2.1).before a U = true
variable {g : Gl} {Y : Meth} {n pc : Nat} {lv : List (Option Value)} {st : List Value} {M : Mem} {Q : Option Value → Mem → Prop}
theorem wp_callP {ix n2 b ci len : Nat} {Y2 : Meth} {As : List Value} (hd : decode Y.2.1 pc = .ok (.invokevirtual ix, 3)) (hl : PLk Y.1.cls ix Y2 As.length) (hp : PvY g Y2) (hn : n2 + 1 ≤ n) (hst : (st.map fun v => v.category).sum ≤ 8) (hci : ∃ (C : String) (T : u_T) (N : Nat), classes[ci]? = some (C, T, N)) (hT : mT M b = (ci, len)) (hc : Cw g Y2 n2 (.ref b :: As) M (fun r M1 => Wp g Y n (pc + 3) lv (r.toList ++ st) M1 Q)) : Wp g Y n pc lv (As.reverse ++ .ref b :: st) M Q := by
  obtain ⟨r, M1, ⟨hm, hM⟩, k⟩ := hc
  refine wp_run hm (fun p e R s m args below meth c H locs cells slots ls hF hlv hW hcs hss => ?_) k
  obtain ⟨⟨hx, hb, hml, -⟩, hown, hts, hK, hE, hG, hfr, hlo, -⟩ := hF
  obtain ⟨⟨w1, w2, w3, w4⟩, w5, w6, w7⟩ := hl
  obtain ⟨C, T, N, w8⟩ := hci
  obtain ⟨-, cell, c1, c2, c3, -⟩ := hW.obj hT (cls_ok w8).1
  have hfc : s.vm.findClass C = some cell.cls := by rw [c2]; exact (hK.1 ci _ w8).2.1
  have hrecv : ∃ cellB : Cell, H[gl_b g + b]? = some cellB ∧ cellB.vm.isStatics = false ∧ s.vm.findClass C = some cellB.cls := ⟨cell, c1, by rw [c3]; rfl, hfc⟩
  have := va_runV (e := e) (below := below) (meth := meth) (locs := locs) (cells := cells) (slots := slots) (b := gl_b g + b) (As := As.map (tv g)) (rest := st.map (tv g)) (g := F0 m pc ls ((As.reverse ++ .ref b :: st).map (tv g))) ⟨hx, hb, hml, hown, hts⟩ (hM n2 (Nat.le_refl _))
    (C := C) (index := ix) (n := As.length) ⟨callB_of As.length hts (good_ws w1) rfl rfl rfl (hts _ w2) (hts _ w5) w3 (room_ok hn hfr hlo w4), hts _ w6, sel_priv hfc (hts _ w7) (hp s hE args) (hts _ w6)⟩ ⟨FrameBlind.inv g _ M, hrecv, fun U hU hwm => ⟨rfl, by rw [hU]; exact hW, va_K.moved hwm.alike hK, hG.1 _ _ hwm hE, hG⟩⟩ rfl (by rw [List.length_map]) hlv.1 (by rw [List.map_append, List.map_reverse]; rfl) (cats_ok hst) hd ⟨hcs, hss⟩
  exact this
theorem ml_As_100 : PLk "java/lang/AbstractStringBuilder" 100 Y_As_ensureCapacityInternal 1 := ⟨yk_As_ensureCapacityInternal, (tm5 21 rfl rfl), (tm5 23 rfl rfl), (tm9 146 rfl rfl)⟩
theorem ml_As_104 : PLk "java/lang/AbstractStringBuilder" 104 Y_As_newCapacity 1 := ⟨yk_As_newCapacity, (tm5 25 rfl rfl), (tm5 27 rfl rfl), (tm9 147 rfl rfl)⟩
theorem wp_cP1v {ix n2 b ci len : Nat} {Y2 : Meth} {v1 : Value} (hd : decode Y.2.1 pc = .ok (.invokevirtual ix, 3)) (hl : PLk Y.1.cls ix Y2 1) (hp : PvY g Y2) (hn : n2 + 1 ≤ n) (hst : (st.map fun v => v.category).sum ≤ 8) (hci : ∃ (C : String) (T : u_T) (N : Nat), classes[ci]? = some (C, T, N)) (hT : mT M b = (ci, len)) (hc : Cv g Y2 n2 [.ref b, v1] M (fun M1 => Wp g Y n (pc + 3) lv st M1 Q)) : Wp g Y n pc lv (v1 :: .ref b :: st) M Q := wp_callP (As := [v1]) hd hl hp hn hst hci hT (Cw.mono hc (fun r M1 ⟨e, h⟩ => by subst e; exact h))
theorem wp_cP1i {ix n2 b ci len : Nat} {Y2 : Meth} {v1 : Value} (hd : decode Y.2.1 pc = .ok (.invokevirtual ix, 3)) (hl : PLk Y.1.cls ix Y2 1) (hp : PvY g Y2) (hn : n2 + 1 ≤ n) (hst : (st.map fun v => v.category).sum ≤ 8) (hci : ∃ (C : String) (T : u_T) (N : Nat), classes[ci]? = some (C, T, N)) (hT : mT M b = (ci, len)) (hc : Ci g Y2 n2 [.ref b, v1] M (fun x M1 => Wp g Y n (pc + 3) lv (.int x :: st) M1 Q)) : Wp g Y n pc lv (v1 :: .ref b :: st) M Q := wp_callP (As := [v1]) hd hl hp hn hst hci hT (Cw.mono hc (fun r M1 ⟨x, e, h⟩ => by subst e; exact h))
theorem wp_cW0i {ix n2 b ci len : Nat} {C : String} {Y2 : Meth} (hd : decode Y.2.1 pc = .ok (.invokevirtual ix, 3)) (hl : WLk Y.1.cls ix Y2 0 ci C) (hn : n2 + 1 ≤ n) (hst : (st.map fun v => v.category).sum ≤ 8) (hT : mT M b = (ci, len)) (hc : Ci g Y2 n2 [.ref b] M (fun x M1 => Wp g Y n (pc + 3) lv (.int x :: st) M1 Q)) : Wp g Y n pc lv (.ref b :: st) M Q := wp_callW (As := []) hd hl hn hst hT (Cw.mono hc (fun r M1 ⟨x, e, h⟩ => by subst e; exact h))
theorem wp_cZ1v {ix n2 b ci len : Nat} {Y2 : Meth} {v1 : Value} (hd : decode Y.2.1 pc = .ok (.invokespecial ix, 3)) (hl : ZLk Y.1.cls ix Y2 1) (hn : n2 + 1 ≤ n) (hst : (st.map fun v => v.category).sum ≤ 8) (hci : ∃ (C : String) (T : u_T) (N : Nat), classes[ci]? = some (C, T, N)) (hT : mT M b = (ci, len)) (hc : Cv g Y2 n2 [.ref b, v1] M (fun M1 => Wp g Y n (pc + 3) lv st M1 Q)) : Wp g Y n pc lv (v1 :: .ref b :: st) M Q := wp_callZ (As := [v1]) hd hl hn hst hci hT (Cw.mono hc (fun r M1 ⟨e, h⟩ => by subst e; exact h))
theorem wp_cZ1a {ix n2 b ci len : Nat} {Y2 : Meth} {v1 : Value} (hd : decode Y.2.1 pc = .ok (.invokespecial ix, 3)) (hl : ZLk Y.1.cls ix Y2 1) (hn : n2 + 1 ≤ n) (hst : (st.map fun v => v.category).sum ≤ 8) (hci : ∃ (C : String) (T : u_T) (N : Nat), classes[ci]? = some (C, T, N)) (hT : mT M b = (ci, len)) (hc : Ca g Y2 n2 [.ref b, v1] M (fun x M1 => Wp g Y n (pc + 3) lv (va_rf x :: st) M1 Q)) : Wp g Y n pc lv (v1 :: .ref b :: st) M Q := wp_callZ (As := [v1]) hd hl hn hst hci hT (Cw.mono hc (fun r M1 ⟨x, e, h⟩ => by subst e; exact h))
end PRV

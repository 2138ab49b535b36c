/-! ===== how long a report is ===== -/
section SBL
variable {g : Gl} {Y : Meth} {n pc : Nat} {lv : List (Option Value)} {st : List Value} {M : Mem} {Q : Option Value → Mem → Prop}
theorem wp_cZ0i {ix n2 b ci len : Nat} {Y2 : Meth} (hd : decode Y.2.1 pc = .ok (.invokespecial ix, 3)) (hl : ZLk Y.1.cls ix Y2 0) (hn : n2 + 1 ≤ n) (hst : (st.map fun v => v.category).sum ≤ 8) (hci : ∃ (C : String) (T : u_T) (N : Nat), classes[ci]? = some (C, T, N)) (hT : mT M b = (ci, len)) (hc : Ci g Y2 n2 [.ref b] M (fun x M1 => Wp g Y n (pc + 3) lv (.int x :: st) M1 Q)) : Wp g Y n pc lv (.ref b :: st) M Q := wp_callZ (As := []) hd hl hn hst hci hT (Cw.mono hc (fun r M1 ⟨x, e, h⟩ => by subst e; exact h))
theorem wp_cZ1i {ix n2 b ci len : Nat} {Y2 : Meth} {v1 : Value} (hd : decode Y.2.1 pc = .ok (.invokespecial ix, 3)) (hl : ZLk Y.1.cls ix Y2 1) (hn : n2 + 1 ≤ n) (hst : (st.map fun v => v.category).sum ≤ 8) (hci : ∃ (C : String) (T : u_T) (N : Nat), classes[ci]? = some (C, T, N)) (hT : mT M b = (ci, len)) (hc : Ci g Y2 n2 [.ref b, v1] M (fun x M1 => Wp g Y n (pc + 3) lv (.int x :: st) M1 Q)) : Wp g Y n pc lv (v1 :: .ref b :: st) M Q := wp_callZ (As := [v1]) hd hl hn hst hci hT (Cw.mono hc (fun r M1 ⟨x, e, h⟩ => by subst e; exact h))
theorem c_asLength {b : Nat} (hT : mT M b = (12, 0)) : Ci g Y_As_length 0 [.ref b] M (fun x M2 => x = mI M b 3 ∧ M2 = M) := by
  refine cw_entry 0 pf_As_length rfl ?_
  refine wp_aload_n rfl (ck_get kk_As_length 0 rfl) ?_
  refine wp_getIv (v := mI M b 3) (ck_get kk_As_length 1 rfl) fl_As_79 (by assumption) (rfl) ?_
  refine wp_ireturn (ck_get kk_As_length 2 rfl) rfl rfl ⟨_, rfl, ?_⟩
  exact ⟨rfl, rfl⟩
theorem c_sbLength {b : Nat} (hT : mT M b = (12, 0)) : Ci g Y_Sb_length 1 [.ref b] M (fun x M2 => x = mI M b 3 ∧ M2 = M) := by
  refine cw_entry 0 pf_Sb_length rfl ?_
  refine wp_aload_n rfl (ck_get kk_Sb_length 0 rfl) ?_
  refine wp_cZ0i (ck_get kk_Sb_length 1 rfl) ml_Sb_343 (by omega) (Nat.le_of_ble_eq_true rfl) cl12 hT (Ci.to (c_asLength hT) ?_)
  rintro _ M1 ⟨rfl, eqm1⟩
  obtain rfl := eqm1.symm
  refine wp_ireturn (ck_get kk_Sb_length 2 rfl) rfl rfl ⟨_, rfl, ?_⟩
  exact ⟨rfl, rfl⟩
end SBL

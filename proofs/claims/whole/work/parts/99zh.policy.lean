/-! ===== policy ===== -/
section POL
variable {g : Gl} {M : Mem}
/-- the class's own numbers, its shop, what no call reads, the parser's text were changed -/
theorem CR.gen {c L2 : Nat} {z : ST} {s2 : SH} {b p cd f : Int32} {I2 : Nat → Nat → Int32} {J2 : Nat → Nat → Int64} {R2 : Nat → Nat → Option Nat} (h : CR c z M) (hR : ∀ x k, ¬ (x = 924 ∧ k = 2) → R2 x k = mR M x k) (hI : ∀ x, ¬ scX x → x ≠ 0 → x ≠ 924 → x < 1 ∨ 31 ≤ x → I2 x = mI M x ∧ J2 x = mJ M x) (h5 : I2 0 5 = mI M 0 5) (h9 : I2 0 9 = nI L2) (h15 : I2 0 15 = b) (h16 : I2 0 16 = p) (h17 : I2 0 17 = cd) (hf : I2 924 1 = f) (hS : ShC (mT M) R2 I2 J2 1 s2) : CR (c + 1) (s2, zU z, zI z, zD z, (L2, (zT z).2), (b, p, cd, f), zR z, zG z) (mk5 M I2 J2 R2) := by
  obtain ⟨pf, pg, hL, h1, h2, h3, h4, h5', h6, h7, h8⟩ := h
  have hP := hL.2.2.2.2.2.2.2.2.2.2.2.2.2.2.2
  have hRx : ∀ x, x ≠ 924 → R2 x = mR M x := fun x hx => funext fun k => hR x k (fun q => hx q.1)
  have e4 : ∀ x, ¬ scX x → x ≠ 0 → x ≠ 924 → x < 1 ∨ 31 ≤ x → I2 x = mI M x ∧ J2 x = mJ M x := hI
  have hk : HiK (mT M) (mR M) (mI M) (mT M) R2 I2 := fun x hx _ => ⟨rfl, hRx x (by omega), (e4 x (by unfold scX; omega) (by omega) (by omega) (by omega)).1⟩
  exact ⟨pf, pg, hL.kk (fun _ _ => rfl) (fun x _ _ _ _ _ k hk => hR x k (fun q => hk q.1 q.2)), hS, h2.kept ⟨(e4 31 (by unfold scX; omega) (by omega) (by omega) (by omega)).1, (e4 33 (by unfold scX; omega) (by omega) (by omega) (by omega)).1⟩ (fun s hs x q1 q2 => by have := slA_lt (hP.1 s hs).1; exact e4 x (by unfold scX; omega) (by omega) (by omega) (by omega)), h3.kept (e4 922 (by unfold scX; omega) (by omega) (by omega) (by omega)).1 (fun x q1 q2 => e4 x (by unfold scX; omega) (by omega) (by omega) (by omega)) ⟨hRx 989 (by omega), hRx 1019 (by omega)⟩ hk, h4.kept h5 (fun x q1 q2 => e4 x (by unfold scX; omega) (by omega) (by omega) (by omega)), ⟨h9, fun j hj => (congrFun (e4 923 (by unfold scX; omega) (by omega) (by omega) (by omega)).1 j).trans (h5'.2 j hj)⟩, ⟨h15, h16, h17, hf, fun j hj => (congrFun (e4 959 (by unfold scX; omega) (by omega) (by omega) (by omega)).1 j).trans (h6.2.2.2.2 j hj)⟩, h7.kept (hRx 949 (by omega)) (e4 949 (by unfold scX; omega) (by omega) (by omega) (by omega)).1 (fun v hv _ => ⟨rfl, (e4 v (by unfold scX; omega) (by omega) (by omega) (by omega)).1⟩), h8.le (by omega)⟩
theorem MR.gen {L2 : Nat} {z : ST} {s2 : SH} {b p cd f : Int32} {I2 : Nat → Nat → Int32} {J2 : Nat → Nat → Int64} (h : MR z M) (hI : ∀ x, moK x → I2 x = mI M x) (hJ : ∀ x, x = 1025 ∨ x = 1037 → J2 x = mJ M x) (hF : ∀ k, k = 36 ∨ k = 42 ∨ k = 62 → I2 1020 k = mI M 1020 k) (h27 : ∃ b, I2 1020 27 = bI b) (h16 : I2 1020 16 = nI L2) (h9 : I2 1020 9 = b) (h54 : I2 1020 54 = p) (h0 : I2 1020 0 = cd) (h17 : I2 1020 17 = f) (hS : ShM (I2 1022) (J2 1023) s2) : MR (s2, zU z, zI z, zD z, (L2, (zT z).2), (b, p, cd, f), zR z, zG z) (mk2 M I2 J2) := by
  obtain ⟨hM, h1, h2, h3, h4, h5, h6, h7⟩ := h
  refine ⟨hM, hS, ?_, ?_, ?_, ⟨h16, ?_, ?_⟩, ⟨h9, h54, h0, h17, h27, ?_⟩, ?_⟩
  · show MRu I2 J2 (zU z)
    unfold MRu at h2 ⊢
    rw [hF 36 (by omega), hI 1036 (by unfold moK; omega), hJ 1037 (by omega)]; exact h2
  · show MRi I2 J2 (zI z)
    unfold MRi at h3 ⊢
    rw [hI 1024 (by unfold moK; omega), hI 1026 (by unfold moK; omega), hJ 1025 (by omega)]; exact h3
  · show MRd I2 (zD z)
    unfold MRd at h4 ⊢
    rw [hF 62 (by omega), hI 1055 (by unfold moK; omega)]; exact h4
  · show ∀ j, j < 400 → I2 1030 j = sgb ((zT z).2 j)
    rw [hI 1030 (by unfold moK; omega)]; exact h5.2.1
  · show ∀ j, j < 131 → I2 1029 j = nI (wdA j)
    rw [hI 1029 (by unfold moK; omega)]; exact h5.2.2
  · show ∀ c, c < 7 → I2 1021 c = zR z c
    rw [hI 1021 (by unfold moK; omega)]; exact h6.2.2.2.2.2
  · show MRb I2 (zG z)
    unfold MRb at h7 ⊢
    rw [hF 42 (by omega), hI 1043 (by unfold moK; omega)]; exact h7
theorem m_fineG (hM : MoAt (mT M) (mR M) 1020) : Ci g Y_Mo_fine 0 [.ref 1020] M (fun x M2 => x = bI (decide (mI M 1020 24 = -1)) ∧ M2 = M) := by
  have to0 := hM.1
  refine cw_entry 0 pf_Mo_fine rfl ?_
  refine wp_aload_n rfl (ck_get kk_Mo_fine 0 rfl) ?_
  refine wp_getIv (v := mI M 1020 24) (ck_get kk_Mo_fine 1 rfl) fl_Mo_201 (by assumption) (rfl) ?_
  refine wp_iconst (v := (-1)) (by decide) (ck_get kk_Mo_fine 2 rfl) ?_
  refine wp_icmp_ne (t := 12) (ck_get kk_Mo_fine 3 rfl) (by decide) (fun hc5 => ?_) (fun hc5 => ?_)
  · refine wp_iconst (v := nI 0) (by decide) (ck_get kk_Mo_fine 6 rfl) ?_
    refine wp_ireturn (ck_get kk_Mo_fine 7 rfl) rfl rfl ⟨_, rfl, ?_⟩
    exact ⟨by rw [decide_eq_false hc5]; rfl, rfl⟩
  · refine wp_iconst (v := nI 1) (by decide) (ck_get kk_Mo_fine 4 rfl) ?_
    refine wp_goto (t := 13) (ck_get kk_Mo_fine 5 rfl) (by decide) ?_
    refine wp_ireturn (ck_get kk_Mo_fine 7 rfl) rfl rfl ⟨_, rfl, ?_⟩
    exact ⟨by rw [decide_eq_true hc5]; rfl, rfl⟩
theorem m_faultsG {i : Nat} (hM : MoAt (mT M) (mR M) 1020) (h24 : mI M 1020 24 = -1) (h22 : mI M 1020 22 = nI i) (hi : i ≤ 400) : Cv g Y_Mo_faults 1 [.ref 1020] M (fun M2 => M2 = sI M 1020 24 (mI M 1034 i)) := by
  have to0 := hM.1
  have rfplaced := MoAt.r hM 13 rfl
  have tfplaced := MoAt.t hM 13 rfl
  refine cw_entry 0 pf_Mo_faults rfl ?_
  refine wp_aload_n rfl (ck_get kk_Mo_faults 0 rfl) ?_
  refine wp_cV0i (ck_get kk_Mo_faults 1 rfl) ml_Mo_204 (by omega) (Nat.le_of_ble_eq_true rfl) (by assumption) (Ci.to (m_fineG hM) ?_)
  rintro _ M1 ⟨rfl, eqm1⟩
  obtain rfl := eqm1.symm
  rw [(decide_eq_true h24)]
  first | refine wp_if_eqN (t := 20) (ck_get kk_Mo_faults 2 rfl) (by decide) (by omega) (fun hc4 => ?_) (fun hc4 => ?_) | refine wp_if_eq (t := 20) (ck_get kk_Mo_faults 2 rfl) (by decide) (fun hc4 => ?_) (fun hc4 => ?_)
  · exact absurd hc4 (by decide)
  · refine wp_aload_n rfl (ck_get kk_Mo_faults 3 rfl) ?_
    refine wp_aload_n rfl (ck_get kk_Mo_faults 4 rfl) ?_
    refine wp_getR (ck_get kk_Mo_faults 5 rfl) fl_Mo_70 (by assumption) (by assumption) ?_
    refine wp_aload_n rfl (ck_get kk_Mo_faults 6 rfl) ?_
    refine wp_getIv (v := nI i) (ck_get kk_Mo_faults 7 rfl) fl_Mo_208 (by assumption) (h22) ?_
    refine wp_iald (ck_get kk_Mo_faults 8 rfl) (by assumption) (ixk_nI (k := i) (by omega) (by omega)) ?_
    refine wp_putI (ck_get kk_Mo_faults 9 rfl) fl_Mo_201 (by decide +kernel) (by assumption) (okI_int _) ?_
    refine wp_return (ck_get kk_Mo_faults 10 rfl) rfl ⟨rfl, ?_⟩
    rfl
theorem sub24 {a : Nat} (h : a < 400) : inB (nI a - nI 24) 5 = decide (24 ≤ a ∧ a ≤ 28) := by
  have e := pk_sub_toInt (a := a) (b := 24) (by omega) (by omega)
  have z0 : (0 : Int32).toInt = 0 := by decide
  unfold inB
  by_cases c : 24 ≤ a ∧ a ≤ 28
  · rw [decide_eq_true c, decide_eq_true (p := ¬ nI a - nI 24 < 0) (fun q => by have := Int32.lt_iff_toInt_lt.mp q; omega), decide_eq_true (p := nI a - nI 24 < nI 5) (Int32.lt_iff_toInt_lt.mpr (by rw [e, nI_toInt (by omega)]; omega))]; rfl
  · rw [decide_eq_false c]
    by_cases c2 : a < 24
    · rw [decide_eq_false (p := ¬ nI a - nI 24 < 0) (fun q => q (Int32.lt_iff_toInt_lt.mpr (by omega)))]; rfl
    · rw [decide_eq_false (p := nI a - nI 24 < nI 5) (fun q => by have := Int32.lt_iff_toInt_lt.mp q; rw [e, nI_toInt (by omega)] at this; omega)]; exact Bool.and_false _
end POL

/-! ===== refused, or good ===== -/
section FIN
variable {g : Gl} {M : Mem}
theorem up2_o {α : Type} {f : Nat → Nat → α} {a k x : Nat} {v : α} (h : x ≠ a) : up2 f a k v x = f x := by rw [up2_up1, up1_ne h]
theorem up2_k {α : Type} {f : Nat → Nat → α} {a k y : Nat} {v : α} (h : y ≠ k) : up2 f a k v a y = f a y := by rw [up2_up1, up1_eq, up1_ne h]
theorem up2_v {α : Type} {f : Nat → Nat → α} {a k : Nat} {v : α} : up2 f a k v a k = v := by rw [up2_up1, up1_eq, up1_eq]
def zBad (z : ST) (k : Nat) : ST := (zS z, zU z, zI z, zD z, zT z, (zB z, zP z, -nI k, zF z), up1 (zR z) k (zR z k + 1), zG z)
def zGood (z : ST) : ST := (zS z, zU z, zI z, zD z, zT z, (zB z, zP z, nI 0, zF z), zR z, zG z)
theorem ZOK.bad {c k : Nat} {z : ST} (h : ZOK c z) : ZOK c (zBad z k) := h
theorem ZOK.good {c : Nat} {z : ST} (h : ZOK c z) : ZOK c (zGood z) := h
abbrev bdM (M : Mem) (v : Int32) (k : Nat) : Mem := mk2 M (up2 (up2 (mI M) 0 17 v) 959 k (mI M 959 k + 1)) (mJ M)
abbrev acM (M : Mem) : Mem := sI M 0 17 (nI 0)
theorem c_refuse {v : Int32} {k : Nat} (hv : v = -nI k) (h1 : 1 ≤ k) (h6 : k ≤ 6) {pf pg : Nat → Nat} (hL : LayC (mT M) (mR M) pf pg) : Ci g Y_Mc_refuse 0 [.ref 0, .int v] M (fun x M2 => x = v ∧ M2 = bdM M v k) := by
  obtain ⟨t0, -, -, -, -, -, -, -, -, -, -, -, -, -, ⟨r018, t959⟩, -⟩ := id hL
  have hge : ¬ (0 ≤ v) := by
    subst hv
    rcases (show k = 1 ∨ k = 2 ∨ k = 3 ∨ k = 4 ∨ k = 5 ∨ k = 6 by omega) with rfl | rfl | rfl | rfl | rfl | rfl <;> decide
  have hlt : ¬ (v < -6) := by
    subst hv
    rcases (show k = 1 ∨ k = 2 ∨ k = 3 ∨ k = 4 ∨ k = 5 ∨ k = 6 by omega) with rfl | rfl | rfl | rfl | rfl | rfl <;> decide
  have hng : -v = nI k := by
    subst hv
    rcases (show k = 1 ∨ k = 2 ∨ k = 3 ∨ k = 4 ∨ k = 5 ∨ k = 6 by omega) with rfl | rfl | rfl | rfl | rfl | rfl <;> decide
  refine cw_entry 0 pf_Mc_refuse rfl ?_
  refine wp_aload_n rfl (ck_get kk_Mc_refuse 0 rfl) ?_
  refine wp_iload_n rfl (ck_get kk_Mc_refuse 1 rfl) ?_
  refine wp_putI (ck_get kk_Mc_refuse 2 rfl) fl_Mc_97 (by decide +kernel) (by assumption) (okI_int _) ?_
  refine wp_iload_n rfl (ck_get kk_Mc_refuse 3 rfl) ?_
  refine wp_if_ge (t := 26) (ck_get kk_Mc_refuse 4 rfl) (by decide) (fun hc6 => ?_) (fun hc6 => ?_)
  · exact absurd hc6 hge
  · refine wp_iload_n rfl (ck_get kk_Mc_refuse 5 rfl) ?_
    refine wp_bipush (v := (-6)) (by decide) (ck_get kk_Mc_refuse 6 rfl) ?_
    refine wp_icmp_lt (t := 26) (ck_get kk_Mc_refuse 7 rfl) (by decide) (fun hc12 => ?_) (fun hc12 => ?_)
    · exact absurd hc12 hlt
    · refine wp_aload_n rfl (ck_get kk_Mc_refuse 8 rfl) ?_
      refine wp_getR (ck_get kk_Mc_refuse 9 rfl) fl_Mc_100 (by assumption) (by assumption) ?_
      refine wp_iload_n rfl (ck_get kk_Mc_refuse 10 rfl) ?_
      refine wp_ineg (ck_get kk_Mc_refuse 11 rfl) ?_
      rw [hng]
      first | refine wp_dup2l rfl (ck_get kk_Mc_refuse 12 rfl) ?_ | refine wp_dup2 rfl rfl (ck_get kk_Mc_refuse 12 rfl) ?_
      refine wp_ialdv (v := mI M 959 k) (ck_get kk_Mc_refuse 13 rfl) (by assumption) (ixk_nI (k := k) (by omega) (by omega)) (show up2 (mI M) 0 17 v 959 k = _ by rw [up2_o (by omega)]) ?_
      refine wp_iconst (v := nI 1) (by decide) (ck_get kk_Mc_refuse 14 rfl) ?_
      first | refine wp_iaddN (ck_get kk_Mc_refuse 15 rfl) ?_ | refine wp_iadd (ck_get kk_Mc_refuse 15 rfl) ?_
      refine wp_iast (ck_get kk_Mc_refuse 16 rfl) (by assumption) (ixk_nI (k := k) (by omega) (by omega)) ?_
      refine wp_iload_n rfl (ck_get kk_Mc_refuse 17 rfl) ?_
      refine wp_ireturn (ck_get kk_Mc_refuse 18 rfl) rfl rfl ⟨_, rfl, ?_⟩
      exact ⟨rfl, rfl⟩
theorem c_accept {v : Int32} {pf pg : Nat → Nat} (hL : LayC (mT M) (mR M) pf pg) : Ci g Y_Mc_accept 0 [.ref 0, .int v] M (fun x M2 => x = v ∧ M2 = acM M) := by
  have t0 := hL.1
  refine cw_entry 0 pf_Mc_accept rfl ?_
  refine wp_aload_n rfl (ck_get kk_Mc_accept 0 rfl) ?_
  refine wp_iconst (v := nI 0) (by decide) (ck_get kk_Mc_accept 1 rfl) ?_
  refine wp_putI (ck_get kk_Mc_accept 2 rfl) fl_Mc_97 (by decide +kernel) (by assumption) (okI_int _) ?_
  refine wp_iload_n rfl (ck_get kk_Mc_accept 3 rfl) ?_
  refine wp_ireturn (ck_get kk_Mc_accept 4 rfl) rfl rfl ⟨_, rfl, ?_⟩
  exact ⟨rfl, rfl⟩
theorem c_settleB {v : Int32} {k : Nat} (hv : v = -nI k) (h1 : 1 ≤ k) (h6 : k ≤ 6) {pf pg : Nat → Nat} (hL : LayC (mT M) (mR M) pf pg) : Ci g Y_Mc_settle 1 [.ref 0, .int v] M (fun x M2 => x = v ∧ M2 = bdM M v k) := by
  have t0 := hL.1
  have hge : ¬ (0 ≤ v) := by
    subst hv
    rcases (show k = 1 ∨ k = 2 ∨ k = 3 ∨ k = 4 ∨ k = 5 ∨ k = 6 by omega) with rfl | rfl | rfl | rfl | rfl | rfl <;> decide
  refine cw_entry 0 pf_Mc_settle rfl ?_
  refine wp_iload_n rfl (ck_get kk_Mc_settle 0 rfl) ?_
  refine wp_if_ge (t := 12) (ck_get kk_Mc_settle 1 rfl) (by decide) (fun hc1 => ?_) (fun hc1 => ?_)
  · exact absurd hc1 hge
  · refine wp_aload_n rfl (ck_get kk_Mc_settle 2 rfl) ?_
    refine wp_iload_n rfl (ck_get kk_Mc_settle 3 rfl) ?_
    refine wp_cV1i (ck_get kk_Mc_settle 4 rfl) ml_Mc_172 (by omega) (Nat.le_of_ble_eq_true rfl) (by assumption) (Ci.to (c_refuse hv h1 h6 hL) ?_)
    rintro x M1 ⟨e1, e2⟩
    refine wp_goto (t := 17) (ck_get kk_Mc_settle 5 rfl) (by decide) ?_
    refine wp_ireturn (ck_get kk_Mc_settle 9 rfl) rfl rfl ⟨_, rfl, ?_⟩
    exact ⟨e1, e2⟩
theorem c_settleG {v : Int32} (hv : 0 ≤ v) {pf pg : Nat → Nat} (hL : LayC (mT M) (mR M) pf pg) : Ci g Y_Mc_settle 1 [.ref 0, .int v] M (fun x M2 => x = v ∧ M2 = acM M) := by
  have t0 := hL.1
  refine cw_entry 0 pf_Mc_settle rfl ?_
  refine wp_iload_n rfl (ck_get kk_Mc_settle 0 rfl) ?_
  refine wp_if_ge (t := 12) (ck_get kk_Mc_settle 1 rfl) (by decide) (fun hc1 => ?_) (fun hc1 => ?_)
  · refine wp_aload_n rfl (ck_get kk_Mc_settle 6 rfl) ?_
    refine wp_iload_n rfl (ck_get kk_Mc_settle 7 rfl) ?_
    refine wp_cV1i (ck_get kk_Mc_settle 8 rfl) ml_Mc_185 (by omega) (Nat.le_of_ble_eq_true rfl) (by assumption) (Ci.to (c_accept hL) ?_)
    rintro x M1 ⟨e1, e2⟩
    refine wp_ireturn (ck_get kk_Mc_settle 9 rfl) rfl rfl ⟨_, rfl, ?_⟩
    exact ⟨e1, e2⟩
  · exact absurd hv hc1
theorem m_goodOrB {v : Int32} {k : Nat} (hv : v = -nI k) (h1 : 1 ≤ k) (h6 : k ≤ 6) (hM : MoAt (mT M) (mR M) 1020) : Ci g Y_Mo_goodOr 1 [.ref 1020, .int v] M (fun x M2 => x = v ∧ M2 = rfM M 1020 v k) := by
  have hge : ¬ (0 ≤ v) := by
    subst hv
    rcases (show k = 1 ∨ k = 2 ∨ k = 3 ∨ k = 4 ∨ k = 5 ∨ k = 6 by omega) with rfl | rfl | rfl | rfl | rfl | rfl <;> decide
  refine cw_entry 0 pf_Mo_goodOr rfl ?_
  have to0 := hM.1
  refine wp_iload_n rfl (ck_get kk_Mo_goodOr 0 rfl) ?_
  refine wp_if_ge (t := 12) (ck_get kk_Mo_goodOr 1 rfl) (by decide) (fun hc1 => ?_) (fun hc1 => ?_)
  · exact absurd hc1 hge
  · refine wp_aload_n rfl (ck_get kk_Mo_goodOr 2 rfl) ?_
    refine wp_iload_n rfl (ck_get kk_Mo_goodOr 3 rfl) ?_
    refine wp_cV1i (ck_get kk_Mo_goodOr 4 rfl) ml_Mo_146 (by omega) (Nat.le_of_ble_eq_true rfl) (by assumption) (Ci.to (m_refusesV hv hM (by omega)) ?_)
    rintro x M1 ⟨e1, e2⟩
    refine wp_goto (t := 17) (ck_get kk_Mo_goodOr 5 rfl) (by decide) ?_
    refine wp_ireturn (ck_get kk_Mo_goodOr 9 rfl) rfl rfl ⟨_, rfl, ?_⟩
    exact ⟨e1, e2⟩
theorem m_goodOrG {v : Int32} (hv : 0 ≤ v) (hM : MoAt (mT M) (mR M) 1020) : Ci g Y_Mo_goodOr 1 [.ref 1020, .int v] M (fun x M2 => x = v ∧ M2 = gdM M 1020) := by
  refine cw_entry 0 pf_Mo_goodOr rfl ?_
  have to0 := hM.1
  refine wp_iload_n rfl (ck_get kk_Mo_goodOr 0 rfl) ?_
  refine wp_if_ge (t := 12) (ck_get kk_Mo_goodOr 1 rfl) (by decide) (fun hc1 => ?_) (fun hc1 => ?_)
  · refine wp_aload_n rfl (ck_get kk_Mo_goodOr 6 rfl) ?_
    refine wp_iload_n rfl (ck_get kk_Mo_goodOr 7 rfl) ?_
    refine wp_cV1i (ck_get kk_Mo_goodOr 8 rfl) ml_Mo_14 (by omega) (Nat.le_of_ble_eq_true rfl) (by assumption) (Ci.to (m_good hM) ?_)
    rintro x M1 ⟨e1, e2⟩
    refine wp_ireturn (ck_get kk_Mo_goodOr 9 rfl) rfl rfl ⟨_, rfl, ?_⟩
    exact ⟨e1, e2⟩
  · exact absurd hv hc1
theorem bd_I {v : Int32} {k x : Nat} (h : x ≠ 0) (h2 : x ≠ 959) : mI (bdM M v k) x = mI M x := by
  show up2 (up2 (mI M) 0 17 v) 959 k _ x = _
  rw [up2_o h2, up2_o h]
theorem CRs_up0 {z : ST} {I2 : Nat → Nat → Int32} {J2 : Nat → Nat → Int64} (h : ShC (mT M) (mR M) (mI M) (mJ M) 1 (zS z)) (hI : ∀ x, x ≠ 0 → x ≠ 959 → I2 x = mI M x ∧ J2 x = mJ M x) : ShC (mT M) (mR M) I2 J2 1 (zS z) := h.kept (fun x q1 q2 => hI x (by omega) (by omega)) rfl (HiK.same (fun x hx => (hI x (by omega) (by omega)).1))
/-- the class's own numbers and refusals alone were changed -/
theorem CR.own {c : Nat} {z : ST} {I2 : Nat → Nat → Int32} {b p cd : Int32} {r : Nat → Int32} (h : CR c z M) (hI : ∀ x, x ≠ 0 → x ≠ 959 → I2 x = mI M x) (h5 : I2 0 5 = mI M 0 5) (h9 : I2 0 9 = mI M 0 9) (h15 : I2 0 15 = b) (h16 : I2 0 16 = p) (h17 : I2 0 17 = cd) (hr : ∀ j, j < 7 → I2 959 j = r j) : CR c (zS z, zU z, zI z, zD z, zT z, (b, p, cd, zF z), r, zG z) (mk2 M I2 (mJ M)) := by
  obtain ⟨pf, pg, hL, h1, h2, h3, h4, h5', h6, h7, h8⟩ := h
  have hP := hL.2.2.2.2.2.2.2.2.2.2.2.2.2.2.2
  have e4 : ∀ x, x ≠ 0 → x ≠ 959 → I2 x = mI M x ∧ mJ M x = mJ M x := fun x a b => ⟨hI x a b, rfl⟩
  have hk : HiK (mT M) (mR M) (mI M) (mT M) (mR M) I2 := HiK.same (fun x hx => hI x (by omega) (by omega))
  exact ⟨pf, pg, hL, h1.kept (fun x q1 q2 => e4 x (by omega) (by omega)) rfl hk, h2.kept ⟨hI 31 (by omega) (by omega), hI 33 (by omega) (by omega)⟩ (fun s hs x q1 q2 => e4 x (by have := slA_lt (hP.1 s hs).1; omega) (by have := slA_lt (hP.1 s hs).1; omega)), h3.kept (hI 922 (by omega) (by omega)) (fun x q1 q2 => e4 x (by omega) (by omega)) ⟨rfl, rfl⟩ hk, h4.kept h5 (fun x q1 q2 => e4 x (by omega) (by omega)), h5'.kept h9 (hI 923 (by omega) (by omega)), ⟨h15, h16, h17, (congrFun (hI 924 (by omega) (by omega)) 1).trans h6.2.2.2.1, hr⟩, h7.kept rfl (hI 949 (by omega) (by omega)) (fun v hv _ => ⟨rfl, hI v (by omega) (by omega)⟩), h8⟩
theorem CR.bad {c k : Nat} {z : ST} (h : CR c z M) (hk : k < 7) : CR c (zBad z k) (bdM M (-nI k) k) := by
  have hn := h
  obtain ⟨-, -, -, -, -, -, -, -, h6, -⟩ := hn
  obtain ⟨a1, a2, a3, a4, a5⟩ := h6
  refine h.own (fun x q1 q2 => bd_I (M := M) q1 q2) ?_ ?_ ?_ ?_ ?_ ?_
  · show up2 (up2 (mI M) 0 17 _) 959 k _ 0 5 = _
    rw [up2_o (by omega), up2_k (by omega)]
  · show up2 (up2 (mI M) 0 17 _) 959 k _ 0 9 = _
    rw [up2_o (by omega), up2_k (by omega)]
  · show up2 (up2 (mI M) 0 17 _) 959 k _ 0 15 = _
    rw [up2_o (by omega), up2_k (by omega)]; exact a1
  · show up2 (up2 (mI M) 0 17 _) 959 k _ 0 16 = _
    rw [up2_o (by omega), up2_k (by omega)]; exact a2
  · show up2 (up2 (mI M) 0 17 _) 959 k _ 0 17 = _
    rw [up2_o (by omega), up2_v]
  · intro j hj
    show up2 (up2 (mI M) 0 17 _) 959 k (mI M 959 k + 1) 959 j = up1 (zR z) k (zR z k + 1) j
    by_cases e : j = k
    · subst e; rw [up2_v, up1_eq, a5 j hj]
    · rw [up2_k e, up2_o (by omega), up1_ne e, a5 j hj]
theorem CR.good {c : Nat} {z : ST} (h : CR c z M) : CR c (zGood z) (acM M) := by
  have hn := h
  obtain ⟨-, -, -, -, -, -, -, -, h6, -⟩ := hn
  obtain ⟨a1, a2, a3, a4, a5⟩ := h6
  refine h.own (I2 := up2 (mI M) 0 17 (nI 0)) (fun x q1 q2 => up2_o q1) (up2_k (by omega)) (up2_k (by omega)) ?_ ?_ up2_v ?_
  · rw [up2_k (by omega)]; exact a1
  · rw [up2_k (by omega)]; exact a2
  · intro j hj
    rw [up2_o (by omega)]; exact a5 j hj
theorem MSame.bd {v : Int32} {k : Nat} : MSame M (bdM M v k) := MSame.mk2 (fun x q1 q2 => ⟨bd_I (M := M) (by omega) (by omega), rfl⟩)
theorem MSame.ac : MSame M (acM M) := MSame.mk2 (fun x q1 q2 => ⟨up2_o (by omega), rfl⟩)
theorem MSame.s {a k : Nat} {v : Int32} (h : a < 1020 ∨ 1056 ≤ a) : MSame M (sI M a k v) := MSame.mk2 (fun x q1 q2 => ⟨up2_o (by omega), rfl⟩)
theorem CSame.s {a k : Nat} {v : Int32} (h : 1020 ≤ a ∧ a < 1056) : CSame M (sI M a k v) := CSame.mk2 (fun x q => ⟨up2_o (by omega), rfl⟩)
theorem s_o {a k x : Nat} {v : Int32} (h : x ≠ a) : mI (sI M a k v) x = mI M x := up2_o h
theorem s_k {a k y : Nat} {v : Int32} (h : y ≠ k) : mI (sI M a k v) a y = mI M a y := up2_k h
theorem s_v {a k : Nat} {v : Int32} : mI (sI M a k v) a k = v := up2_v
/-- the model's own numbers and refusals alone were changed -/
theorem MR.own {z : ST} {I2 : Nat → Nat → Int32} {b p cd f : Int32} {r : Nat → Int32} (h : MR z M) (hI : ∀ x, x ≠ 1020 → x ≠ 1021 → I2 x = mI M x) (hF : ∀ k, k = 36 ∨ k = 62 ∨ k = 16 ∨ k = 42 → I2 1020 k = mI M 1020 k) (h27 : ∃ b, I2 1020 27 = bI b) (h9 : I2 1020 9 = b) (h54 : I2 1020 54 = p) (h0 : I2 1020 0 = cd) (h17 : I2 1020 17 = f) (hr : ∀ j, j < 7 → I2 1021 j = r j) : MR (zS z, zU z, zI z, zD z, zT z, (b, p, cd, f), r, zG z) (mk2 M I2 (mJ M)) := by
  obtain ⟨hM, h1, h2, h3, h4, h5, h6, h7⟩ := h
  refine ⟨hM, ?_, ?_, ?_, ?_, ?_, ⟨h9, h54, h0, h17, h27, hr⟩, ?_⟩
  · show ShM (I2 1022) (mJ M 1023) (zS z)
    rw [hI 1022 (by omega) (by omega)]; exact h1
  · show MRu I2 (mJ M) (zU z)
    unfold MRu at h2 ⊢
    rw [hF 36 (by omega), hI 1036 (by omega) (by omega)]; exact h2
  · show MRi I2 (mJ M) (zI z)
    unfold MRi at h3 ⊢
    rw [hI 1024 (by omega) (by omega), hI 1026 (by omega) (by omega)]; exact h3
  · show MRd I2 (zD z)
    unfold MRd at h4 ⊢
    rw [hF 62 (by omega), hI 1055 (by omega) (by omega)]; exact h4
  · show MRp I2 (zT z)
    unfold MRp at h5 ⊢
    rw [hF 16 (by omega), hI 1030 (by omega) (by omega), hI 1029 (by omega) (by omega)]; exact h5
  · show MRb I2 (zG z)
    unfold MRb at h7 ⊢
    rw [hF 42 (by omega), hI 1043 (by omega) (by omega)]; exact h7
theorem MR.bad {k : Nat} {z : ST} (h : MR z M) (hk : k < 7) : MR (zBad z k) (rfM M 1020 (-nI k) k) := by
  have hn := h
  obtain ⟨-, -, -, -, -, -, h6, -⟩ := hn
  obtain ⟨a1, a2, a3, a4, a5, a6⟩ := h6
  have e : ∀ q, q ≠ 0 → up2 (up2 (mI M) 1020 0 (-nI k)) (1020 + 1) k (mI M (1020 + 1) k + 1) 1020 q = mI M 1020 q := fun q hq => by rw [up2_o (by omega), up2_k hq]
  refine h.own (I2 := up2 (up2 (mI M) 1020 0 (-nI k)) (1020 + 1) k (mI M (1020 + 1) k + 1)) (fun x q1 q2 => by rw [up2_o (by omega), up2_o q1]) (fun q hq => e q (by omega)) (by rw [e 27 (by omega)]; exact a5) (by rw [e 9 (by omega)]; exact a1) (by rw [e 54 (by omega)]; exact a2) (by rw [up2_o (by omega), up2_v]) (by rw [e 17 (by omega)]; exact a4) ?_
  intro j hj
  show up2 (up2 (mI M) 1020 0 (-nI k)) 1021 k (mI M 1021 k + 1) 1021 j = up1 (zR z) k (zR z k + 1) j
  by_cases e : j = k
  · subst e; rw [up2_v, up1_eq, a6 j hj]
  · rw [up2_k e, up2_o (by omega), up1_ne e, a6 j hj]
theorem MR.good {z : ST} (h : MR z M) : MR (zGood z) (gdM M 1020) := by
  have hn := h
  obtain ⟨-, -, -, -, -, -, h6, -⟩ := hn
  obtain ⟨a1, a2, a3, a4, a5, a6⟩ := h6
  have e : ∀ q, q ≠ 0 → up2 (mI M) 1020 0 (nI 0) 1020 q = mI M 1020 q := fun q hq => by rw [up2_k hq]
  refine h.own (I2 := up2 (mI M) 1020 0 (nI 0)) (fun x q1 q2 => by rw [up2_o q1]) (fun q hq => e q (by omega)) (by rw [e 27 (by omega)]; exact a5) (by rw [e 9 (by omega)]; exact a1) (by rw [e 54 (by omega)]; exact a2) up2_v (by rw [e 17 (by omega)]; exact a4) ?_
  intro j hj
  rw [up2_o (by omega)]; exact a6 j hj
theorem CSame.rf {v : Int32} {k : Nat} : CSame M (rfM M 1020 v k) := CSame.mk2 (fun x q1 => ⟨by rw [up2_o (by omega), up2_o (by omega)], rfl⟩)
theorem CSame.gd : CSame M (gdM M 1020) := CSame.mk2 (fun x q1 => ⟨by rw [up2_o (by omega)], rfl⟩)
theorem m_liesG {v a b : Int32} : Ci g Y_Mo_lies 0 [.int v, .int a, .int b] M (fun x M2 => x = bI (decide (a ≤ v ∧ v ≤ b)) ∧ M2 = M) := by
  refine cw_entry 0 pf_Mo_lies rfl ?_
  refine wp_iload_n rfl (ck_get kk_Mo_lies 0 rfl) ?_
  refine wp_iload_n rfl (ck_get kk_Mo_lies 1 rfl) ?_
  refine wp_icmp_lt (t := 14) (ck_get kk_Mo_lies 2 rfl) (by decide) (fun hc2 => ?_) (fun hc2 => ?_)
  · refine wp_iconst (v := nI 0) (by decide) (ck_get kk_Mo_lies 8 rfl) ?_
    refine wp_ireturn (ck_get kk_Mo_lies 9 rfl) rfl rfl ⟨_, rfl, ?_⟩
    refine ⟨?_, rfl⟩
    rw [decide_eq_false (fun q => ?_)]; rfl
    have := Int32.lt_iff_toInt_lt.mp hc2
    have := Int32.le_iff_toInt_le.mp q.1
    omega
  · refine wp_iload_n rfl (ck_get kk_Mo_lies 3 rfl) ?_
    refine wp_iload_n rfl (ck_get kk_Mo_lies 4 rfl) ?_
    refine wp_icmp_gt (t := 14) (ck_get kk_Mo_lies 5 rfl) (by decide) (fun hc7 => ?_) (fun hc7 => ?_)
    · refine wp_iconst (v := nI 0) (by decide) (ck_get kk_Mo_lies 8 rfl) ?_
      refine wp_ireturn (ck_get kk_Mo_lies 9 rfl) rfl rfl ⟨_, rfl, ?_⟩
      refine ⟨?_, rfl⟩
      rw [decide_eq_false (fun q => ?_)]; rfl
      have := Int32.lt_iff_toInt_lt.mp hc7
      have := Int32.le_iff_toInt_le.mp q.2
      omega
    · refine wp_iconst (v := nI 1) (by decide) (ck_get kk_Mo_lies 6 rfl) ?_
      refine wp_goto (t := 15) (ck_get kk_Mo_lies 7 rfl) (by decide) ?_
      refine wp_ireturn (ck_get kk_Mo_lies 9 rfl) rfl rfl ⟨_, rfl, ?_⟩
      refine ⟨?_, rfl⟩
      have u1 := mt Int32.lt_iff_toInt_lt.mpr hc2
      have u2 := mt Int32.lt_iff_toInt_lt.mpr hc7
      rw [decide_eq_true ⟨Int32.le_iff_toInt_le.mpr (by omega), Int32.le_iff_toInt_le.mpr (by omega)⟩]; rfl
/-- the shop alone was changed, and cells that no call reads -/
theorem CR.shop {c : Nat} {z : ST} {s2 : SH} {I2 : Nat → Nat → Int32} {J2 : Nat → Nat → Int64} (h : CR c z M) (hI : ∀ x, ¬ scX x → x < 1 ∨ 31 ≤ x → I2 x = mI M x ∧ J2 x = mJ M x) (hS : ShC (mT M) (mR M) I2 J2 1 s2) : CR (c + 1) (s2, z.2) (mk2 M I2 J2) := by
  obtain ⟨pf, pg, hL, h1, h2, h3, h4, h5, h6, h7, h8⟩ := h
  have hk : HiK (mT M) (mR M) (mI M) (mT M) (mR M) I2 := HiK.same (fun x hx => (hI x (by unfold scX; omega) (by omega)).1)
  have hP := hL.2.2.2.2.2.2.2.2.2.2.2.2.2.2.2
  have e4 : ∀ x, ¬ scX x → x < 1 ∨ 31 ≤ x → I2 x = mI M x ∧ J2 x = mJ M x := hI
  exact ⟨pf, pg, hL, hS, h2.kept ⟨(e4 31 (by unfold scX; omega) (by omega)).1, (e4 33 (by unfold scX; omega) (by omega)).1⟩ (fun s hs x q1 q2 => e4 x (by have := slA_lt (hP.1 s hs).1; unfold scX; omega) (by have := slA_lt (hP.1 s hs).1; omega)), h3.kept (e4 922 (by unfold scX; omega) (by omega)).1 (fun x q1 q2 => e4 x (by unfold scX; omega) (by omega)) ⟨rfl, rfl⟩ hk, h4.kept (congrFun (e4 0 (by unfold scX; omega) (by omega)).1 5) (fun x q1 q2 => e4 x (by unfold scX; omega) (by omega)), h5.kept (congrFun (e4 0 (by unfold scX; omega) (by omega)).1 9) (e4 923 (by unfold scX; omega) (by omega)).1, h6.kept ⟨congrFun (e4 0 (by unfold scX; omega) (by omega)).1 15, congrFun (e4 0 (by unfold scX; omega) (by omega)).1 16, congrFun (e4 0 (by unfold scX; omega) (by omega)).1 17⟩ (congrFun (e4 924 (by unfold scX; omega) (by omega)).1 1) (e4 959 (by unfold scX; omega) (by omega)).1, h7.kept rfl (e4 949 (by unfold scX; omega) (by omega)).1 (fun v hv _ => ⟨rfl, (e4 v (by unfold scX; omega) (by omega)).1⟩), h8.le (by omega)⟩
/-- the model's cells and fields that calls read -/
def moK (x : Nat) : Prop := x = 1021 ∨ x = 1024 ∨ x = 1026 ∨ x = 1029 ∨ x = 1030 ∨ x = 1036 ∨ x = 1043 ∨ x = 1055
def moW (k : Nat) : Prop := k = 0 ∨ k = 9 ∨ k = 16 ∨ k = 17 ∨ k = 36 ∨ k = 42 ∨ k = 54 ∨ k = 62
theorem MR.shop {z : ST} {s2 : SH} {I2 : Nat → Nat → Int32} {J2 : Nat → Nat → Int64} (h : MR z M) (hI : ∀ x, moK x → I2 x = mI M x) (hJ : ∀ x, x = 1025 ∨ x = 1037 → J2 x = mJ M x) (hF : ∀ k, moW k → I2 1020 k = mI M 1020 k) (h27 : ∃ b, I2 1020 27 = bI b) (hS : ShM (I2 1022) (J2 1023) s2) : MR (s2, z.2) (mk2 M I2 J2) := by
  obtain ⟨hM, h1, h2, h3, h4, h5, h6, h7⟩ := h
  refine ⟨hM, hS, ?_, ?_, ?_, ?_, ?_, ?_⟩
  · show MRu I2 J2 (zU z)
    unfold MRu at h2 ⊢
    rw [hF 36 (by unfold moW; omega), hI 1036 (by unfold moK; omega), hJ 1037 (by omega)]; exact h2
  · show MRi I2 J2 (zI z)
    unfold MRi at h3 ⊢
    rw [hI 1024 (by unfold moK; omega), hI 1026 (by unfold moK; omega), hJ 1025 (by omega)]; exact h3
  · show MRd I2 (zD z)
    unfold MRd at h4 ⊢
    rw [hF 62 (by unfold moW; omega), hI 1055 (by unfold moK; omega)]; exact h4
  · show MRp I2 (zT z)
    unfold MRp at h5 ⊢
    rw [hF 16 (by unfold moW; omega), hI 1030 (by unfold moK; omega), hI 1029 (by unfold moK; omega)]; exact h5
  · show MRn I2 z
    obtain ⟨a1, a2, a3, a4, a5, a6⟩ := h6
    refine ⟨by rw [hF 9 (by unfold moW; omega)]; exact a1, by rw [hF 54 (by unfold moW; omega)]; exact a2, by rw [hF 0 (by unfold moW; omega)]; exact a3, by rw [hF 17 (by unfold moW; omega)]; exact a4, h27, by rw [hI 1021 (by unfold moK; omega)]; exact a6⟩
  · show MRb I2 (zG z)
    unfold MRb at h7 ⊢
    rw [hF 42 (by unfold moW; omega), hI 1043 (by unfold moK; omega)]; exact h7
theorem MR.sc {z : ST} {I2 : Nat → Nat → Int32} {J2 : Nat → Nat → Int64} (h : MR z M) (hI : ∀ x, moK x ∨ x = 1022 → I2 x = mI M x) (hJ : ∀ x, x = 1023 ∨ x = 1025 ∨ x = 1037 → J2 x = mJ M x) (hF : ∀ k, moW k → I2 1020 k = mI M 1020 k) (h27 : ∃ b, I2 1020 27 = bI b) : MR z (mk2 M I2 J2) :=
  h.shop (s2 := zS z) (fun x hx => hI x (Or.inl hx)) (fun x hx => hJ x (Or.inr hx)) hF h27 (by rw [hI 1022 (Or.inr rfl), hJ 1023 (Or.inl rfl)]; exact h.2.1)
end FIN

/-! ===== the model obeys an order ===== -/
def obQ (res : (Nat → Int32) → Int32 × Int32) (md salt : Nat) (M : Mem) (o : Nat) (U : Nat → Int32) (UP : Nat → Int64) (K : Nat → Int32) (P : Nat → Int64) (A F : Nat → Int32) (n : Nat) (u : UF) (kd : Nat) (ws : WS) (t a b x : Int32) (M2 : Mem) : Prop :=
  (¬ acV kd ws t a b = 0 ∧ x = acV kd ws t a b ∧ M2 = wkM (ubM M o U UP) o K P A F) ∨
  (acV kd ws t a b = 0 ∧ x = nI (acW res md salt kd ws t.toNatClampNeg a.toNatClampNeg b.toNatClampNeg).1 ∧ ∃ U2 UP2 K2 P2 A2 F2, M2 = wkM (ubM M o U2 UP2) o K2 P2 A2 F2 ∧ MwHas K2 P2 0 0 (acW res md salt kd ws t.toNatClampNeg a.toNatClampNeg b.toNatClampNeg).2 ∧ MuHas U2 UP2 (nsz n) (psU n u (kd, ws)) ∧ (∀ x, 369 ≤ x → K2 x = K x) ∧ F2 36 = nI (nsz n) ∧ F2 31 = (if kd ≤ 1 then nI (acW res md salt kd ws t.toNatClampNeg a.toNatClampNeg b.toNatClampNeg).1 else F 31) ∧ (∀ k, k < 25 ∨ 29 ≤ k → k ≠ 36 → k ≠ 31 → F2 k = F k) ∧ ∃ b, F2 27 = bI b)
section OBY
variable {g : Gl} {M : Mem} {o : Nat} {K A F U : Nat → Int32} {P UP : Nat → Int64} {res : (Nat → Int32) → Int32 × Int32} {md salt n B : Nat} {u : UF} {ws : WS}
theorem mkQ.ob {kd : Nat} {t a b x : Int32} {M2 : Mem} (h : mkQ res md salt M o U UP K P A F n u kd ws t a b x M2) (hk : 1 < kd) : obQ res md salt M o U UP K P A F n u kd ws t a b x M2 := by
  rcases h with h | ⟨h1, h2, U2, UP2, K2, P2, A2, F2, h3, h4, h5, h6, h7, h8⟩
  · exact Or.inl h
  · refine Or.inr ⟨h1, h2, U2, UP2, K2, P2, A2, F2, h3, h4, h5, h6, h7, ?_, fun k q1 q2 _ => h8.1 k q1 q2, h8.2⟩
    rw [if_neg (by omega)]; exact h8.1 31 (by omega) (by omega)
theorem mkQ.ob2 {kd : Nat} {t a b x : Int32} {M2 : Mem} (h : mkQ res md salt M o U UP K P A F n u kd ws t a b x M2) (hk : kd ≤ 1) (hx : 0 ≤ x → acV kd ws t a b = 0) : 0 ≤ x → obQ res md salt M o U UP K P A F n u kd ws t a b x (sI M2 o 31 x) := by
  intro hx2
  rcases h with h | ⟨h1, h2, U2, UP2, K2, P2, A2, F2, h3, h4, h5, h6, h7, h8⟩
  · exact absurd (hx hx2) h.1
  · refine Or.inr ⟨h1, h2, U2, UP2, K2, P2, A2, up1 F2 31 x, by rw [h3, wk_sF], h4, h5, h6, by rw [up1_ne (by omega)]; exact h7, ?_, fun k q1 q2 q3 => by rw [up1_ne q3]; exact h8.1 k q1 q2, by rw [up1_ne (by omega)]; exact h8.2⟩
    rw [if_pos hk, up1_eq]; exact h2
theorem mkQ.ob1 {kd : Nat} {t a b x : Int32} {M2 : Mem} (h : mkQ res md salt M o U UP K P A F n u kd ws t a b x M2) (hl : acV kd ws t a b = 0 → 0 ≤ x) (hx2 : ¬ 0 ≤ x) : mI M2 o 31 = F 31 ∧ obQ res md salt M o U UP K P A F n u kd ws t a b x (sI M2 o 31 (F 31)) := by
  rcases h with h | ⟨h1, h2, -⟩
  · refine ⟨by rw [h.2.2, wk_o], Or.inl ⟨h.1, h.2.1, ?_⟩⟩
    rw [h.2.2, wk_sF, up1_self]
  · exact absurd (hl h1) hx2
theorem mkQ.T {kd : Nat} {t a b x : Int32} {M2 : Mem} (h : mkQ res md salt M o U UP K P A F n u kd ws t a b x M2) : mT M2 = mT M ∧ mR M2 = mR M := by
  rcases h with h | ⟨h1, h2, U2, UP2, K2, P2, A2, F2, h3, -⟩
  · rw [h.2.2]; exact ⟨rfl, rfl⟩
  · rw [h3]; exact ⟨rfl, rfl⟩
theorem i32_nlt {x : Int32} (h : 0 ≤ x) (h2 : x < 0) : False := by
  rw [Int32.le_iff_toInt_le] at h
  rw [Int32.lt_iff_toInt_lt] at h2
  omega
theorem nI_nn {k : Nat} (h : k < 2147483648) : 0 ≤ nI k := by
  rw [Int32.le_iff_toInt_le, nI_toInt h]
  have : (0 : Int32).toInt = 0 := by decide
  omega
theorem ob_J {q : Nat} : mJ (wkM (ubM M o U UP) o K P A F) (o + 34) q = mJ M (o + 34) q := by
  show up1 (up1 (mJ M) (o + 17) UP) (o + 3) P (o + 34) q = _
  rw [up1_ne (by omega), up1_ne (by omega)]
theorem m_obeys {kd hd : Nat} (hM : MoAt (mT M) (mR M) o) (hs : MwHas K P 0 0 ws) (hT : WOK ws) (hB : tot ws < 2147483648) (hU : MuHas U UP n u) (hO : UOK n u B) (h36 : F 36 = nI n) (hN : MoN K res md salt) (hb : ∃ b, F 27 = bI b) (h57 : F 57 = nI hd) (hk : (kd = 0 ∧ hd = 17) ∨ (kd = 1 ∧ hd = 19) ∨ (kd = 2 ∧ hd = 21) ∨ (kd = 3 ∧ hd = 22)) :
    Ci g Y_Mo_obeys 140 [.ref o] (wkM (ubM M o U UP) o K P A F) (fun x M2 => obQ res md salt M o U UP K P A F n u kd ws (if kd = 3 then 0 else if kd = 1 then smI (mJ M (o + 34) 2) else smI (mJ M (o + 34) 1)) (if kd = 3 then 0 else smI (mJ M (o + 34) 0)) (if kd = 3 then 0 else if kd = 1 then smI (mJ M (o + 34) 1) else smI (mJ M (o + 34) 0)) x M2) := by
  have hM0 := hM
  have to0 := hM.1
  have rfsums := MoAt.r hM 33 rfl
  have tfsums := MoAt.t hM 33 rfl
  have hR := hN.2.2.2.ok
  refine cw_entry 1 pf_Mo_obeys rfl ?_
  have hneg : ∀ {t a b x : Int32} {M2 : Mem}, mkQ res md salt M o U UP K P A F n u kd ws t a b x M2 → (0 ≤ x → acV kd ws t a b = 0) ∧ (acV kd ws t a b = 0 → 0 ≤ x) := by
    intro t a b x M2 h
    rcases h with h | ⟨h1, h2, -⟩
    · exact ⟨fun q => absurd (acV_neg h.1) (by rw [← h.2.1]; exact fun z => i32_nlt q z), fun q => absurd q h.1⟩
    · refine ⟨fun _ => h1, fun _ => ?_⟩
      have := (acW_lt (md := md) (salt := salt) hR hT (by omega) hB h1).1
      rw [h2]
      exact nI_nn this
  rcases hk with ⟨rfl, rfl⟩ | ⟨rfl, rfl⟩ | ⟨rfl, rfl⟩ | ⟨rfl, rfl⟩
  · skip
    refine wp_aload_n rfl (ck_get kk_Mo_obeys 0 rfl) ?_
    refine wp_getIv (v := nI 17) (ck_get kk_Mo_obeys 1 rfl) fl_Mo_524 (by assumption) (by rw [wk_o]; exact h57) ?_
    refine wp_lookup (t := 60) (off := 56) (ck_get kk_Mo_obeys 2 rfl) (by decide) (by first | rfl | decide) (by decide) ?_
    refine wp_aload_n rfl (ck_get kk_Mo_obeys 19 rfl) ?_
    refine wp_getIv (v := nI 17) (ck_get kk_Mo_obeys 20 rfl) fl_Mo_524 (by assumption) (by rw [wk_o]; exact h57) ?_
    refine wp_bipush (v := nI 17) (by decide) (ck_get kk_Mo_obeys 21 rfl) ?_
    first | refine wp_icmp_neN (t := 94) (ck_get kk_Mo_obeys 22 rfl) (by decide) (by omega) (by omega) (fun hc66 => ?_) (fun hc66 => ?_) | refine wp_icmp_ne (t := 94) (ck_get kk_Mo_obeys 22 rfl) (by decide) (fun hc66 => ?_) (fun hc66 => ?_)
    · exact absurd rfl hc66
    · refine wp_aload_n rfl (ck_get kk_Mo_obeys 23 rfl) ?_
      refine wp_aload_n rfl (ck_get kk_Mo_obeys 24 rfl) ?_
      refine wp_getR (ck_get kk_Mo_obeys 25 rfl) fl_Mo_133 (by assumption) (by assumption) ?_
      refine wp_iconst (v := nI 1) (by decide) (ck_get kk_Mo_obeys 26 rfl) ?_
      refine wp_laldv (v := mJ M (o + 34) 1) (ck_get kk_Mo_obeys 27 rfl) (by assumption) (by first | assumption | exact ixk_nI (by omega) (by omega)) (ob_J) ?_
      refine wp_cS1i (ck_get kk_Mo_obeys 28 rfl) ml_Mo_536 (by omega) (Nat.le_of_ble_eq_true rfl) (Ci.to (m_small) ?_)
      rintro _ M1 ⟨rfl, eqm1⟩
      obtain rfl := eqm1.symm
      refine wp_aload_n rfl (ck_get kk_Mo_obeys 29 rfl) ?_
      refine wp_getR (ck_get kk_Mo_obeys 30 rfl) fl_Mo_133 (by assumption) (by assumption) ?_
      refine wp_iconst (v := nI 0) (by decide) (ck_get kk_Mo_obeys 31 rfl) ?_
      refine wp_laldv (v := mJ M (o + 34) 0) (ck_get kk_Mo_obeys 32 rfl) (by assumption) (by first | assumption | exact ixk_nI (by omega) (by omega)) (ob_J) ?_
      refine wp_cS1i (ck_get kk_Mo_obeys 33 rfl) ml_Mo_536 (by omega) (Nat.le_of_ble_eq_true rfl) (Ci.to (m_small) ?_)
      rintro _ M1 ⟨rfl, eqm1⟩
      obtain rfl := eqm1.symm
      refine wp_cV2i (ck_get kk_Mo_obeys 34 rfl) ml_Mo_389 (by omega) (Nat.le_of_ble_eq_true rfl) (by assumption) (Ci.to (m_readsKept (by exact hM0) hs hT hU hO h36 hN hb) ?_)
      rintro x₁ M₁ hQ
      refine wp_goto (t := 125) (ck_get kk_Mo_obeys 35 rfl) (by decide) ?_
      refine wp_istore_n (ck_get kk_Mo_obeys 53 rfl) (by decide) rfl ?_
      have to1 : mT M₁ o = (11, 0) := by rw [hQ.T.1]; exact to0
      refine wp_aload_n rfl (ck_get kk_Mo_obeys 54 rfl) ?_
      refine wp_iload_n rfl (ck_get kk_Mo_obeys 55 rfl) ?_
      first | refine wp_if_geN (t := 138) (ck_get kk_Mo_obeys 56 rfl) (by decide) (by omega) (fun hc128 => ?_) (fun hc128 => ?_) | refine wp_if_ge (t := 138) (ck_get kk_Mo_obeys 56 rfl) (by decide) (fun hc128 => ?_) (fun hc128 => ?_)
      · refine wp_iload_n rfl (ck_get kk_Mo_obeys 60 rfl) ?_
        refine wp_putI (ck_get kk_Mo_obeys 61 rfl) fl_Mo_333 (by decide +kernel) (by assumption) (okI_int _) ?_
        refine wp_iload_n rfl (ck_get kk_Mo_obeys 62 rfl) ?_
        refine wp_ireturn (ck_get kk_Mo_obeys 63 rfl) rfl rfl ⟨_, rfl, ?_⟩
        exact hQ.ob2 (by omega) (hneg hQ).1 hc128
      · refine wp_aload_n rfl (ck_get kk_Mo_obeys 57 rfl) ?_
        refine wp_getIv (v := F 31) (ck_get kk_Mo_obeys 58 rfl) fl_Mo_333 (by assumption) ((hQ.ob1 (hneg hQ).2 hc128).1) ?_
        refine wp_goto (t := 139) (ck_get kk_Mo_obeys 59 rfl) (by decide) ?_
        refine wp_putI (ck_get kk_Mo_obeys 61 rfl) fl_Mo_333 (by decide +kernel) (by assumption) (okI_int _) ?_
        refine wp_iload_n rfl (ck_get kk_Mo_obeys 62 rfl) ?_
        refine wp_ireturn (ck_get kk_Mo_obeys 63 rfl) rfl rfl ⟨_, rfl, ?_⟩
        exact (hQ.ob1 (hneg hQ).2 hc128).2
  · skip
    refine wp_aload_n rfl (ck_get kk_Mo_obeys 0 rfl) ?_
    refine wp_getIv (v := nI 19) (ck_get kk_Mo_obeys 1 rfl) fl_Mo_524 (by assumption) (by rw [wk_o]; exact h57) ?_
    refine wp_lookup (t := 60) (off := 56) (ck_get kk_Mo_obeys 2 rfl) (by decide) (by first | rfl | decide) (by decide) ?_
    refine wp_aload_n rfl (ck_get kk_Mo_obeys 19 rfl) ?_
    refine wp_getIv (v := nI 19) (ck_get kk_Mo_obeys 20 rfl) fl_Mo_524 (by assumption) (by rw [wk_o]; exact h57) ?_
    refine wp_bipush (v := nI 17) (by decide) (ck_get kk_Mo_obeys 21 rfl) ?_
    first | refine wp_icmp_neN (t := 94) (ck_get kk_Mo_obeys 22 rfl) (by decide) (by omega) (by omega) (fun hc66 => ?_) (fun hc66 => ?_) | refine wp_icmp_ne (t := 94) (ck_get kk_Mo_obeys 22 rfl) (by decide) (fun hc66 => ?_) (fun hc66 => ?_)
    · refine wp_aload_n rfl (ck_get kk_Mo_obeys 36 rfl) ?_
      refine wp_aload_n rfl (ck_get kk_Mo_obeys 37 rfl) ?_
      refine wp_getR (ck_get kk_Mo_obeys 38 rfl) fl_Mo_133 (by assumption) (by assumption) ?_
      refine wp_iconst (v := nI 2) (by decide) (ck_get kk_Mo_obeys 39 rfl) ?_
      refine wp_laldv (v := mJ M (o + 34) 2) (ck_get kk_Mo_obeys 40 rfl) (by assumption) (by first | assumption | exact ixk_nI (by omega) (by omega)) (ob_J) ?_
      refine wp_cS1i (ck_get kk_Mo_obeys 41 rfl) ml_Mo_536 (by omega) (Nat.le_of_ble_eq_true rfl) (Ci.to (m_small) ?_)
      rintro _ M1 ⟨rfl, eqm1⟩
      obtain rfl := eqm1.symm
      refine wp_aload_n rfl (ck_get kk_Mo_obeys 42 rfl) ?_
      refine wp_getR (ck_get kk_Mo_obeys 43 rfl) fl_Mo_133 (by assumption) (by assumption) ?_
      refine wp_iconst (v := nI 0) (by decide) (ck_get kk_Mo_obeys 44 rfl) ?_
      refine wp_laldv (v := mJ M (o + 34) 0) (ck_get kk_Mo_obeys 45 rfl) (by assumption) (by first | assumption | exact ixk_nI (by omega) (by omega)) (ob_J) ?_
      refine wp_cS1i (ck_get kk_Mo_obeys 46 rfl) ml_Mo_536 (by omega) (Nat.le_of_ble_eq_true rfl) (Ci.to (m_small) ?_)
      rintro _ M1 ⟨rfl, eqm1⟩
      obtain rfl := eqm1.symm
      refine wp_aload_n rfl (ck_get kk_Mo_obeys 47 rfl) ?_
      refine wp_getR (ck_get kk_Mo_obeys 48 rfl) fl_Mo_133 (by assumption) (by assumption) ?_
      refine wp_iconst (v := nI 1) (by decide) (ck_get kk_Mo_obeys 49 rfl) ?_
      refine wp_laldv (v := mJ M (o + 34) 1) (ck_get kk_Mo_obeys 50 rfl) (by assumption) (by first | assumption | exact ixk_nI (by omega) (by omega)) (ob_J) ?_
      refine wp_cS1i (ck_get kk_Mo_obeys 51 rfl) ml_Mo_536 (by omega) (Nat.le_of_ble_eq_true rfl) (Ci.to (m_small) ?_)
      rintro _ M1 ⟨rfl, eqm1⟩
      obtain rfl := eqm1.symm
      refine wp_cV3i (ck_get kk_Mo_obeys 52 rfl) ml_Mo_395 (by omega) (Nat.le_of_ble_eq_true rfl) (by assumption) (Ci.to (m_loopsKept (by exact hM0) hs hT hU hO h36 hN hb) ?_)
      rintro x₁ M₁ hQ
      refine wp_istore_n (ck_get kk_Mo_obeys 53 rfl) (by decide) rfl ?_
      have to1 : mT M₁ o = (11, 0) := by rw [hQ.T.1]; exact to0
      refine wp_aload_n rfl (ck_get kk_Mo_obeys 54 rfl) ?_
      refine wp_iload_n rfl (ck_get kk_Mo_obeys 55 rfl) ?_
      first | refine wp_if_geN (t := 138) (ck_get kk_Mo_obeys 56 rfl) (by decide) (by omega) (fun hc128 => ?_) (fun hc128 => ?_) | refine wp_if_ge (t := 138) (ck_get kk_Mo_obeys 56 rfl) (by decide) (fun hc128 => ?_) (fun hc128 => ?_)
      · refine wp_iload_n rfl (ck_get kk_Mo_obeys 60 rfl) ?_
        refine wp_putI (ck_get kk_Mo_obeys 61 rfl) fl_Mo_333 (by decide +kernel) (by assumption) (okI_int _) ?_
        refine wp_iload_n rfl (ck_get kk_Mo_obeys 62 rfl) ?_
        refine wp_ireturn (ck_get kk_Mo_obeys 63 rfl) rfl rfl ⟨_, rfl, ?_⟩
        exact hQ.ob2 (by omega) (hneg hQ).1 hc128
      · refine wp_aload_n rfl (ck_get kk_Mo_obeys 57 rfl) ?_
        refine wp_getIv (v := F 31) (ck_get kk_Mo_obeys 58 rfl) fl_Mo_333 (by assumption) ((hQ.ob1 (hneg hQ).2 hc128).1) ?_
        refine wp_goto (t := 139) (ck_get kk_Mo_obeys 59 rfl) (by decide) ?_
        refine wp_putI (ck_get kk_Mo_obeys 61 rfl) fl_Mo_333 (by decide +kernel) (by assumption) (okI_int _) ?_
        refine wp_iload_n rfl (ck_get kk_Mo_obeys 62 rfl) ?_
        refine wp_ireturn (ck_get kk_Mo_obeys 63 rfl) rfl rfl ⟨_, rfl, ?_⟩
        exact (hQ.ob1 (hneg hQ).2 hc128).2
    · exact absurd hc66 (by decide)
  · skip
    refine wp_aload_n rfl (ck_get kk_Mo_obeys 0 rfl) ?_
    refine wp_getIv (v := nI 21) (ck_get kk_Mo_obeys 1 rfl) fl_Mo_524 (by assumption) (by rw [wk_o]; exact h57) ?_
    refine wp_lookup (t := 32) (off := 28) (ck_get kk_Mo_obeys 2 rfl) (by decide) (by first | rfl | decide) (by decide) ?_
    refine wp_aload_n rfl (ck_get kk_Mo_obeys 3 rfl) ?_
    refine wp_aload_n rfl (ck_get kk_Mo_obeys 4 rfl) ?_
    refine wp_getR (ck_get kk_Mo_obeys 5 rfl) fl_Mo_133 (by assumption) (by assumption) ?_
    refine wp_iconst (v := nI 1) (by decide) (ck_get kk_Mo_obeys 6 rfl) ?_
    refine wp_laldv (v := mJ M (o + 34) 1) (ck_get kk_Mo_obeys 7 rfl) (by assumption) (by first | assumption | exact ixk_nI (by omega) (by omega)) (ob_J) ?_
    refine wp_cS1i (ck_get kk_Mo_obeys 8 rfl) ml_Mo_536 (by omega) (Nat.le_of_ble_eq_true rfl) (Ci.to (m_small) ?_)
    rintro _ M1 ⟨rfl, eqm1⟩
    obtain rfl := eqm1.symm
    refine wp_aload_n rfl (ck_get kk_Mo_obeys 9 rfl) ?_
    refine wp_getR (ck_get kk_Mo_obeys 10 rfl) fl_Mo_133 (by assumption) (by assumption) ?_
    refine wp_iconst (v := nI 0) (by decide) (ck_get kk_Mo_obeys 11 rfl) ?_
    refine wp_laldv (v := mJ M (o + 34) 0) (ck_get kk_Mo_obeys 12 rfl) (by assumption) (by first | assumption | exact ixk_nI (by omega) (by omega)) (ob_J) ?_
    refine wp_cS1i (ck_get kk_Mo_obeys 13 rfl) ml_Mo_536 (by omega) (Nat.le_of_ble_eq_true rfl) (Ci.to (m_small) ?_)
    rintro _ M1 ⟨rfl, eqm1⟩
    obtain rfl := eqm1.symm
    refine wp_cV2i (ck_get kk_Mo_obeys 14 rfl) ml_Mo_398 (by omega) (Nat.le_of_ble_eq_true rfl) (by assumption) (Ci.to (m_dropsKept (res := res) (md := md) (salt := salt) (by exact hM0) hs hT hU hO h36 hb) ?_)
    rintro x₁ M₁ hQ
    refine wp_ireturn (ck_get kk_Mo_obeys 15 rfl) rfl rfl ⟨_, rfl, ?_⟩
    exact hQ.ob (by omega)
  · skip
    refine wp_aload_n rfl (ck_get kk_Mo_obeys 0 rfl) ?_
    refine wp_getIv (v := nI 22) (ck_get kk_Mo_obeys 1 rfl) fl_Mo_524 (by assumption) (by rw [wk_o]; exact h57) ?_
    refine wp_lookup (t := 55) (off := 51) (ck_get kk_Mo_obeys 2 rfl) (by decide) (by first | rfl | decide) (by decide) ?_
    refine wp_aload_n rfl (ck_get kk_Mo_obeys 16 rfl) ?_
    refine wp_cV0i (ck_get kk_Mo_obeys 17 rfl) ml_Mo_401 (by omega) (Nat.le_of_ble_eq_true rfl) (by assumption) (Ci.to (m_passesKept (res := res) (md := md) (salt := salt) (t := 0) (a := 0) (b := 0) (by exact hM0) hs hT hB hU hO h36 hb) ?_)
    rintro x₁ M₁ hQ
    refine wp_ireturn (ck_get kk_Mo_obeys 18 rfl) rfl rfl ⟨_, rfl, ?_⟩
    exact hQ.ob (by omega)
end OBY

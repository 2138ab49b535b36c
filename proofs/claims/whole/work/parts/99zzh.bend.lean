/-! ===== bends: longs; the class's next one; the model's lines ===== -/
section BND
abbrev jI (x : Int) : Int64 := Int64.ofInt x
theorem jI_i {x : Int} (h1 : -9223372036854775808 ≤ x) (h2 : x < 9223372036854775808) : (jI x).toInt = x := Int64.toInt_ofInt_of_le (by omega) (by omega)
theorem jI_lt {x y : Int} (h1 : -9223372036854775808 ≤ x) (h2 : x < 9223372036854775808) (h3 : -9223372036854775808 ≤ y) (h4 : y < 9223372036854775808) : jI x < jI y ↔ x < y := by
  rw [Int64.lt_iff_toInt_lt, jI_i h1 h2, jI_i h3 h4]
theorem j_nI {n : Nat} (h : n < 2147483648) : (nI n).toInt64 = jI n := by
  refine Int64.toInt_inj.mp ?_
  rw [Int32.toInt_toInt64, nI_toInt h, jI_i (by omega) (by omega)]
theorem j_sub {a b : Nat} (h : b ≤ a) (ha : a < 2147483648) : (nI (a - b)).toInt64 = jI ((a : Int) - b) := by
  rw [j_nI (by omega), Int.ofNat_sub h]
theorem prd {x u : Int} (h1 : -400000000 ≤ x) (h2 : x ≤ 400000000) (hu : 0 ≤ u) (hu2 : u ≤ 25) : -10000000000 ≤ x * u ∧ x * u ≤ 10000000000 := by
  have a := Int.mul_le_mul_of_nonneg_right h1 hu
  have b := Int.mul_le_mul_of_nonneg_right h2 hu
  omega
/-- misses by size, as whole numbers -/
abbrev mz (w : WS) (t : Nat) : Nat → Int := fun c => (msN w t c : Int)
variable {g : Gl} {M : Mem}
theorem c_nextBend {f : Nat → Int} {at0 : Nat} (hCu : CuAt (mT M) (mR M) 947) (hf : ∀ c, c < 25 → mJ M 951 c = jI (f c)) (hb : ∀ c, c < 25 → 0 ≤ f c ∧ f c ≤ 400000000) (h : at0 < 24) : Ci g Y_Cu_nextBend 0 [.ref 947, .int (nI at0)] M (fun x M2 => x = nI (nxB f at0) ∧ M2 = M) := by
  obtain ⟨t947, -, -, -, -, r3, t951⟩ := hCu
  have r3' : mR M 947 3 = some 951 := r3
  have t951' : mT M 951 = (21, 25) := t951
  have hlp : ∀ e d, at0 + 1 + d + e = 24 → Wp g Y_Cu_nextBend 0 8 [some (.ref 947), some (.int (nI at0)), some (.int (nI (nxD f at0 d))), some (.int (nI (at0 + 2 + d)))] [] M (fun r M2 => ∃ x, r = some (.int x) ∧ x = nI (nxB f at0) ∧ M2 = M) := by
    intro e
    induction e with
    | zero =>
      intro d h1
      refine wp_iload_n rfl (ck_get kk_Cu_nextBend 8 rfl) ?_
      refine wp_bipush (v := nI 24) (by decide) (ck_get kk_Cu_nextBend 9 rfl) ?_
      first | refine wp_icmp_gtN (t := 62) (ck_get kk_Cu_nextBend 10 rfl) (by decide) (by omega) (by omega) (fun hc11 => ?_) (fun hc11 => ?_) | refine wp_icmp_gt (t := 62) (ck_get kk_Cu_nextBend 10 rfl) (by decide) (fun hc11 => ?_) (fun hc11 => ?_)
      · refine wp_iload_n rfl (ck_get kk_Cu_nextBend 45 rfl) ?_
        refine wp_ireturn (ck_get kk_Cu_nextBend 46 rfl) rfl rfl ⟨_, rfl, ?_⟩
        exact ⟨by rw [show d = 23 - at0 by omega], rfl⟩
      · omega
    | succ e ih =>
      intro d h1
      obtain ⟨k1, k2, -, -⟩ := nxD_ok (f := f) (at0 := at0) d
      have e0 : nxD f at0 (d + 1) = if (f (at0 + 2 + d) - f at0) * ((nxD f at0 d : Int) - at0) ≤ (f (nxD f at0 d) - f at0) * (((at0 + 2 + d : Nat) : Int) - at0) then at0 + 2 + d else nxD f at0 d := rfl
      have ih2 := ih (d + 1) (by omega)
      rw [e0] at ih2
      generalize nxD f at0 d = to at *
      have b1 := hb at0 (by omega)
      have b2 := hb to (by omega)
      have b3 := hb (at0 + 2 + d) (by omega)
      have p1 := prd (x := f (at0 + 2 + d) - f at0) (u := (to : Int) - at0) (by omega) (by omega) (by omega) (by omega)
      have p2 := prd (x := f to - f at0) (u := ((at0 + 2 + d : Nat) : Int) - at0) (by omega) (by omega) (by omega) (by omega)
      refine wp_iload_n rfl (ck_get kk_Cu_nextBend 8 rfl) ?_
      refine wp_bipush (v := nI 24) (by decide) (ck_get kk_Cu_nextBend 9 rfl) ?_
      first | refine wp_icmp_gtN (t := 62) (ck_get kk_Cu_nextBend 10 rfl) (by decide) (by omega) (by omega) (fun hc11 => ?_) (fun hc11 => ?_) | refine wp_icmp_gt (t := 62) (ck_get kk_Cu_nextBend 10 rfl) (by decide) (fun hc11 => ?_) (fun hc11 => ?_)
      · omega
      · refine wp_aload_n rfl (ck_get kk_Cu_nextBend 11 rfl) ?_
        refine wp_getR (ck_get kk_Cu_nextBend 12 rfl) fl_Cu_26 (by assumption) (by assumption) ?_
        refine wp_iload_n rfl (ck_get kk_Cu_nextBend 13 rfl) ?_
        refine wp_laldv (v := jI (f (at0 + 2 + d))) (ck_get kk_Cu_nextBend 14 rfl) (by assumption) (ixk_nI (k := at0 + 2 + d) (by omega) (by omega)) (hf _ (by omega)) ?_
        refine wp_aload_n rfl (ck_get kk_Cu_nextBend 15 rfl) ?_
        refine wp_getR (ck_get kk_Cu_nextBend 16 rfl) fl_Cu_26 (by assumption) (by assumption) ?_
        refine wp_iload_n rfl (ck_get kk_Cu_nextBend 17 rfl) ?_
        refine wp_laldv (v := jI (f at0)) (ck_get kk_Cu_nextBend 18 rfl) (by assumption) (ixk_nI (k := at0) (by omega) (by omega)) (hf _ (by omega)) ?_
        refine wp_lsub (ck_get kk_Cu_nextBend 19 rfl) ?_
        rw [← Int64.ofInt_sub]
        refine wp_iload_n rfl (ck_get kk_Cu_nextBend 20 rfl) ?_
        refine wp_iload_n rfl (ck_get kk_Cu_nextBend 21 rfl) ?_
        first | refine wp_isubN (ck_get kk_Cu_nextBend 22 rfl) (by omega) ?_ | refine wp_isub (ck_get kk_Cu_nextBend 22 rfl) ?_
        refine wp_i2l (ck_get kk_Cu_nextBend 23 rfl) ?_
        rw [j_sub (by omega) (by omega)]
        refine wp_lmul (ck_get kk_Cu_nextBend 24 rfl) ?_
        rw [← Int64.ofInt_mul]
        refine wp_aload_n rfl (ck_get kk_Cu_nextBend 25 rfl) ?_
        refine wp_getR (ck_get kk_Cu_nextBend 26 rfl) fl_Cu_26 (by assumption) (by assumption) ?_
        refine wp_iload_n rfl (ck_get kk_Cu_nextBend 27 rfl) ?_
        refine wp_laldv (v := jI (f to)) (ck_get kk_Cu_nextBend 28 rfl) (by assumption) (ixk_nI (k := to) (by omega) (by omega)) (hf _ (by omega)) ?_
        refine wp_aload_n rfl (ck_get kk_Cu_nextBend 29 rfl) ?_
        refine wp_getR (ck_get kk_Cu_nextBend 30 rfl) fl_Cu_26 (by assumption) (by assumption) ?_
        refine wp_iload_n rfl (ck_get kk_Cu_nextBend 31 rfl) ?_
        refine wp_laldv (v := jI (f at0)) (ck_get kk_Cu_nextBend 32 rfl) (by assumption) (ixk_nI (k := at0) (by omega) (by omega)) (hf _ (by omega)) ?_
        refine wp_lsub (ck_get kk_Cu_nextBend 33 rfl) ?_
        rw [← Int64.ofInt_sub]
        refine wp_iload_n rfl (ck_get kk_Cu_nextBend 34 rfl) ?_
        refine wp_iload_n rfl (ck_get kk_Cu_nextBend 35 rfl) ?_
        first | refine wp_isubN (ck_get kk_Cu_nextBend 36 rfl) (by omega) ?_ | refine wp_isub (ck_get kk_Cu_nextBend 36 rfl) ?_
        refine wp_i2l (ck_get kk_Cu_nextBend 37 rfl) ?_
        rw [j_sub (by omega) (by omega)]
        refine wp_lmul (ck_get kk_Cu_nextBend 38 rfl) ?_
        rw [← Int64.ofInt_mul]
        refine wp_lcmp (ck_get kk_Cu_nextBend 39 rfl) ?_
        refine wp_if_gt (t := 56) (ck_get kk_Cu_nextBend 40 rfl) (by decide) (fun hc51 => ?_) (fun hc51 => ?_)
        · first | refine wp_iincN (ck_get kk_Cu_nextBend 43 rfl) rfl (by decide) rfl ?_ | refine wp_iinc (ck_get kk_Cu_nextBend 43 rfl) rfl (by decide) rfl ?_
          refine wp_goto (t := 8) (ck_get kk_Cu_nextBend 44 rfl) (by decide) ?_
          have q := (jI_lt (by omega) (by omega) (by omega) (by omega)).mp ((lcmp_gt _ _).mp hc51)
          rw [if_neg (by omega)] at ih2
          exact ih2
        · refine wp_iload_n rfl (ck_get kk_Cu_nextBend 41 rfl) ?_
          refine wp_istore_n (ck_get kk_Cu_nextBend 42 rfl) (by decide) rfl ?_
          first | refine wp_iincN (ck_get kk_Cu_nextBend 43 rfl) rfl (by decide) rfl ?_ | refine wp_iinc (ck_get kk_Cu_nextBend 43 rfl) rfl (by decide) rfl ?_
          refine wp_goto (t := 8) (ck_get kk_Cu_nextBend 44 rfl) (by decide) ?_
          have q := mt (jI_lt (by omega) (by omega) (by omega) (by omega)).mpr (mt (lcmp_gt _ _).mpr hc51)
          rw [if_pos (by omega)] at ih2
          exact ih2
  refine cw_entry 2 pf_Cu_nextBend rfl ?_
  refine wp_iload_n rfl (ck_get kk_Cu_nextBend 0 rfl) ?_
  refine wp_iconst (v := nI 1) (by decide) (ck_get kk_Cu_nextBend 1 rfl) ?_
  first | refine wp_iaddN (ck_get kk_Cu_nextBend 2 rfl) ?_ | refine wp_iadd (ck_get kk_Cu_nextBend 2 rfl) ?_
  refine wp_istore_n (ck_get kk_Cu_nextBend 3 rfl) (by decide) rfl ?_
  refine wp_iload_n rfl (ck_get kk_Cu_nextBend 4 rfl) ?_
  refine wp_iconst (v := nI 2) (by decide) (ck_get kk_Cu_nextBend 5 rfl) ?_
  first | refine wp_iaddN (ck_get kk_Cu_nextBend 6 rfl) ?_ | refine wp_iadd (ck_get kk_Cu_nextBend 6 rfl) ?_
  refine wp_istore_n (ck_get kk_Cu_nextBend 7 rfl) (by decide) rfl ?_
  exact hlp (23 - at0) 0 (by omega)
theorem m_lineAt {W : Mem} {f : Nat → Int} {t a b c : Nat} (hM : MoAt (mT W) (mR W) 1020) (ht : t < 4) (hf : ∀ c, c < 25 → ∃ n : Nat, mI W 1040 (25 * t + c) = nI n ∧ f c = n ∧ n ≤ 400000000) (h1 : a ≤ c) (h2 : c ≤ b) (h3 : b < 25) : Cl g Y_Mo_lineAt 1 [.ref 1020, .int (nI t), .int (nI a), .int (nI b), .int (nI c)] W (fun x M2 => x = jI (f a * ((b : Int) - c) + f b * ((c : Int) - a)) ∧ M2 = W) := by
  have to0 := hM.1
  obtain ⟨na, a1, a2, a3⟩ := hf a (by omega)
  obtain ⟨nb, b1, b2, b3⟩ := hf b (by omega)
  refine cw_entry 0 pf_Mo_lineAt rfl ?_
  refine wp_aload_n rfl (ck_get kk_Mo_lineAt 0 rfl) ?_
  refine wp_iload_n rfl (ck_get kk_Mo_lineAt 1 rfl) ?_
  refine wp_iload_n rfl (ck_get kk_Mo_lineAt 2 rfl) ?_
  refine wp_cV2i (ck_get kk_Mo_lineAt 3 rfl) ml_Mo_410 (by omega) (Nat.le_of_ble_eq_true rfl) (by assumption) (Ci.to (m_missAt hM ht (by omega)) ?_)
  rintro x M1 ⟨w1, w2⟩
  rw [a1] at w1
  subst w1 w2
  refine wp_i2l (ck_get kk_Mo_lineAt 4 rfl) ?_
  rw [j_nI (by omega), ← a2]
  refine wp_iload_n rfl (ck_get kk_Mo_lineAt 5 rfl) ?_
  refine wp_iload rfl (ck_get kk_Mo_lineAt 6 rfl) ?_
  first | refine wp_isubN (ck_get kk_Mo_lineAt 7 rfl) (by omega) ?_ | refine wp_isub (ck_get kk_Mo_lineAt 7 rfl) ?_
  refine wp_i2l (ck_get kk_Mo_lineAt 8 rfl) ?_
  rw [j_sub (by omega) (by omega)]
  refine wp_lmul (ck_get kk_Mo_lineAt 9 rfl) ?_
  rw [← Int64.ofInt_mul]
  refine wp_aload_n rfl (ck_get kk_Mo_lineAt 10 rfl) ?_
  refine wp_iload_n rfl (ck_get kk_Mo_lineAt 11 rfl) ?_
  refine wp_iload_n rfl (ck_get kk_Mo_lineAt 12 rfl) ?_
  refine wp_cV2i (ck_get kk_Mo_lineAt 13 rfl) ml_Mo_410 (by omega) (Nat.le_of_ble_eq_true rfl) (by assumption) (Ci.to (m_missAt hM ht (by omega)) ?_)
  rintro x M1 ⟨w1, w2⟩
  rw [b1] at w1
  subst w1 w2
  refine wp_i2l (ck_get kk_Mo_lineAt 14 rfl) ?_
  rw [j_nI (by omega), ← b2]
  refine wp_iload rfl (ck_get kk_Mo_lineAt 15 rfl) ?_
  refine wp_iload_n rfl (ck_get kk_Mo_lineAt 16 rfl) ?_
  first | refine wp_isubN (ck_get kk_Mo_lineAt 17 rfl) (by omega) ?_ | refine wp_isub (ck_get kk_Mo_lineAt 17 rfl) ?_
  refine wp_i2l (ck_get kk_Mo_lineAt 18 rfl) ?_
  rw [j_sub (by omega) (by omega)]
  refine wp_lmul (ck_get kk_Mo_lineAt 19 rfl) ?_
  rw [← Int64.ofInt_mul]
  refine wp_ladd (ck_get kk_Mo_lineAt 20 rfl) ?_
  rw [← Int64.ofInt_add]
  refine wp_lreturn (ck_get kk_Mo_lineAt 21 rfl) rfl ⟨_, rfl, ?_⟩
  exact ⟨rfl, rfl⟩
theorem m_isBend {W : Mem} {f : Nat → Int} {t c : Nat} (hM : MoAt (mT W) (mR W) 1020) (ht : t < 4) (hf : ∀ c, c < 25 → ∃ n : Nat, mI W 1040 (25 * t + c) = nI n ∧ f c = n ∧ n ≤ 400000000) (hc : c < 25) : Ci g Y_Mo_isBend 2 [.ref 1020, .int (nI t), .int (nI c)] W (fun x M2 => (∃ bb : Bool, x = bI bb ∧ (bb = true ↔ IsB f c)) ∧ M2 = W) := by
  have to0 := hM.1
  have hb : ∀ c, c < 25 → 0 ≤ f c ∧ f c ≤ 400000000 := fun c hc => by
    obtain ⟨n, -, e2, e3⟩ := hf c hc
    omega
  obtain ⟨nc, c1, c2, c3⟩ := hf c hc
  have hin : ∀ {Q : Option Value → Mem → Prop} (a : Nat), a < c → ∀ e b (bb : Bool), b + e = 25 → c < b → (bb = true ↔ (∀ a2 b2, (a2 < a ∧ c < b2 ∧ b2 ≤ 24 ∨ a2 = a ∧ c < b2 ∧ b2 < b) → f c * ((b2 : Int) - a2) < f a2 * ((b2 : Int) - c) + f b2 * ((c : Int) - a2))) → (∀ bb : Bool, (bb = true ↔ (∀ a2 b2, (a2 < a + 1 ∧ c < b2 ∧ b2 ≤ 24) → f c * ((b2 : Int) - a2) < f a2 * ((b2 : Int) - c) + f b2 * ((c : Int) - a2))) → Wp g Y_Mo_isBend 2 67 [some (.ref 1020), some (.int (nI t)), some (.int (nI c)), some (.int (bI bb)), some (.int (nI a)), some (.int (nI 25))] [] W Q) → Wp g Y_Mo_isBend 2 16 [some (.ref 1020), some (.int (nI t)), some (.int (nI c)), some (.int (bI bb)), some (.int (nI a)), some (.int (nI b))] [] W Q := by
    intro Q a ha e
    induction e with
    | zero =>
      intro b bb h1 h2 hq K
      obtain rfl : b = 25 := by omega
      refine wp_iload rfl (ck_get kk_Mo_isBend 11 rfl) ?_
      refine wp_bipush (v := nI 24) (by decide) (ck_get kk_Mo_isBend 12 rfl) ?_
      first | refine wp_icmp_gtN (t := 67) (ck_get kk_Mo_isBend 13 rfl) (by decide) (by omega) (by omega) (fun hc20 => ?_) (fun hc20 => ?_) | refine wp_icmp_gt (t := 67) (ck_get kk_Mo_isBend 13 rfl) (by decide) (fun hc20 => ?_) (fun hc20 => ?_)
      · exact K bb (hq.trans ⟨fun q a2 b2 h => q a2 b2 (by omega), fun q a2 b2 h => q a2 b2 (by omega)⟩)
      · omega
    | succ e ih =>
      intro b bb h1 h2 hq K
      have b1 := hb a (by omega)
      have b2 := hb b (by omega)
      have b3 := hb c (by omega)
      have p1 := prd (x := f c) (u := (b : Int) - a) (by omega) (by omega) (by omega) (by omega)
      have p2 := prd (x := f a) (u := (b : Int) - c) (by omega) (by omega) (by omega) (by omega)
      have p3 := prd (x := f b) (u := (c : Int) - a) (by omega) (by omega) (by omega) (by omega)
      cases bb with
      | false =>
        refine wp_iload rfl (ck_get kk_Mo_isBend 11 rfl) ?_
        refine wp_bipush (v := nI 24) (by decide) (ck_get kk_Mo_isBend 12 rfl) ?_
        first | refine wp_icmp_gtN (t := 67) (ck_get kk_Mo_isBend 13 rfl) (by decide) (by omega) (by omega) (fun hc20 => ?_) (fun hc20 => ?_) | refine wp_icmp_gt (t := 67) (ck_get kk_Mo_isBend 13 rfl) (by decide) (fun hc20 => ?_) (fun hc20 => ?_)
        · omega
        · refine wp_iload_n rfl (ck_get kk_Mo_isBend 14 rfl) ?_
          first | refine wp_if_eqN (t := 59) (ck_get kk_Mo_isBend 15 rfl) (by decide) (by omega) (fun hc24 => ?_) (fun hc24 => ?_) | refine wp_if_eq (t := 59) (ck_get kk_Mo_isBend 15 rfl) (by decide) (fun hc24 => ?_) (fun hc24 => ?_)
          · refine wp_iconst (v := nI 0) (by decide) (ck_get kk_Mo_isBend 36 rfl) ?_
            refine wp_istore_n (ck_get kk_Mo_isBend 37 rfl) (by decide) rfl ?_
            first | refine wp_iincN (ck_get kk_Mo_isBend 38 rfl) rfl (by decide) rfl ?_ | refine wp_iinc (ck_get kk_Mo_isBend 38 rfl) rfl (by decide) rfl ?_
            refine wp_goto (t := 16) (ck_get kk_Mo_isBend 39 rfl) (by decide) ?_
            refine ih (b + 1) false (by omega) (by omega) ⟨fun q => (by cases q), fun q => ?_⟩ K
            exact hq.mpr (fun a2 b2 h => q a2 b2 (by omega))
          · exact absurd (by decide) hc24
      | true =>
        have hq1 := hq.mp rfl
        refine wp_iload rfl (ck_get kk_Mo_isBend 11 rfl) ?_
        refine wp_bipush (v := nI 24) (by decide) (ck_get kk_Mo_isBend 12 rfl) ?_
        first | refine wp_icmp_gtN (t := 67) (ck_get kk_Mo_isBend 13 rfl) (by decide) (by omega) (by omega) (fun hc20 => ?_) (fun hc20 => ?_) | refine wp_icmp_gt (t := 67) (ck_get kk_Mo_isBend 13 rfl) (by decide) (fun hc20 => ?_) (fun hc20 => ?_)
        · omega
        · refine wp_iload_n rfl (ck_get kk_Mo_isBend 14 rfl) ?_
          first | refine wp_if_eqN (t := 59) (ck_get kk_Mo_isBend 15 rfl) (by decide) (by omega) (fun hc24 => ?_) (fun hc24 => ?_) | refine wp_if_eq (t := 59) (ck_get kk_Mo_isBend 15 rfl) (by decide) (fun hc24 => ?_) (fun hc24 => ?_)
          · exact absurd hc24 (by decide)
          · refine wp_aload_n rfl (ck_get kk_Mo_isBend 16 rfl) ?_
            refine wp_iload_n rfl (ck_get kk_Mo_isBend 17 rfl) ?_
            refine wp_iload_n rfl (ck_get kk_Mo_isBend 18 rfl) ?_
            refine wp_cV2i (ck_get kk_Mo_isBend 19 rfl) ml_Mo_410 (by omega) (Nat.le_of_ble_eq_true rfl) (by assumption) (Ci.to (m_missAt hM ht hc) ?_)
            rintro x M1 ⟨w1, w2⟩
            rw [c1] at w1
            subst w1 w2
            refine wp_i2l (ck_get kk_Mo_isBend 20 rfl) ?_
            rw [j_nI (by omega), ← c2]
            refine wp_iload rfl (ck_get kk_Mo_isBend 21 rfl) ?_
            refine wp_iload rfl (ck_get kk_Mo_isBend 22 rfl) ?_
            first | refine wp_isubN (ck_get kk_Mo_isBend 23 rfl) (by omega) ?_ | refine wp_isub (ck_get kk_Mo_isBend 23 rfl) ?_
            refine wp_i2l (ck_get kk_Mo_isBend 24 rfl) ?_
            rw [j_sub (by omega) (by omega)]
            refine wp_lmul (ck_get kk_Mo_isBend 25 rfl) ?_
            rw [← Int64.ofInt_mul]
            refine wp_aload_n rfl (ck_get kk_Mo_isBend 26 rfl) ?_
            refine wp_iload_n rfl (ck_get kk_Mo_isBend 27 rfl) ?_
            refine wp_iload rfl (ck_get kk_Mo_isBend 28 rfl) ?_
            refine wp_iload rfl (ck_get kk_Mo_isBend 29 rfl) ?_
            refine wp_iload_n rfl (ck_get kk_Mo_isBend 30 rfl) ?_
            refine wp_cV4l (ck_get kk_Mo_isBend 31 rfl) ml_Mo_417 (by omega) (Nat.le_of_ble_eq_true rfl) (by assumption) (Cl.to (m_lineAt hM ht hf (by omega) (by omega) (by omega)) ?_)
            rintro _ M1 ⟨rfl, eqm1⟩
            obtain rfl := eqm1.symm
            refine wp_lcmp (ck_get kk_Mo_isBend 32 rfl) ?_
            refine wp_if_ge (t := 59) (ck_get kk_Mo_isBend 33 rfl) (by decide) (fun hc52 => ?_) (fun hc52 => ?_)
            · refine wp_iconst (v := nI 0) (by decide) (ck_get kk_Mo_isBend 36 rfl) ?_
              refine wp_istore_n (ck_get kk_Mo_isBend 37 rfl) (by decide) rfl ?_
              first | refine wp_iincN (ck_get kk_Mo_isBend 38 rfl) rfl (by decide) rfl ?_ | refine wp_iinc (ck_get kk_Mo_isBend 38 rfl) rfl (by decide) rfl ?_
              refine wp_goto (t := 16) (ck_get kk_Mo_isBend 39 rfl) (by decide) ?_
              have q := mt (jI_lt (by omega) (by omega) (by omega) (by omega)).mpr ((lcmp_ge _ _).mp hc52)
              refine ih (b + 1) false (by omega) (by omega) ⟨fun q2 => (by cases q2), fun q2 => ?_⟩ K
              exact absurd (q2 a b (by omega)) q
            · refine wp_iconst (v := nI 1) (by decide) (ck_get kk_Mo_isBend 34 rfl) ?_
              refine wp_goto (t := 60) (ck_get kk_Mo_isBend 35 rfl) (by decide) ?_
              refine wp_istore_n (ck_get kk_Mo_isBend 37 rfl) (by decide) rfl ?_
              first | refine wp_iincN (ck_get kk_Mo_isBend 38 rfl) rfl (by decide) rfl ?_ | refine wp_iinc (ck_get kk_Mo_isBend 38 rfl) rfl (by decide) rfl ?_
              refine wp_goto (t := 16) (ck_get kk_Mo_isBend 39 rfl) (by decide) ?_
              have q := (jI_lt (by omega) (by omega) (by omega) (by omega)).mp (Decidable.not_not.mp (mt (lcmp_ge _ _).mpr hc52))
              refine ih (b + 1) true (by omega) (by omega) ⟨fun _ a2 b2 h => ?_, fun _ => rfl⟩ K
              by_cases e : a2 = a ∧ b2 = b
              · obtain ⟨rfl, rfl⟩ := e
                exact q
              · exact hq1 a2 b2 (by omega)
  have hlp : ∀ e a (bb : Bool) (x5 : Option Value), a + e = c → (bb = true ↔ (∀ a2 b2, (a2 < a ∧ c < b2 ∧ b2 ≤ 24) → f c * ((b2 : Int) - a2) < f a2 * ((b2 : Int) - c) + f b2 * ((c : Int) - a2))) → Wp g Y_Mo_isBend 2 5 [some (.ref 1020), some (.int (nI t)), some (.int (nI c)), some (.int (bI bb)), some (.int (nI a)), x5] [] W (fun r M2 => ∃ x, r = some (.int x) ∧ (∃ bb : Bool, x = bI bb ∧ (bb = true ↔ IsB f c)) ∧ M2 = W) := by
    intro e
    induction e with
    | zero =>
      intro a bb x5 h1 hq
      obtain rfl : a = c := by omega
      refine wp_iload rfl (ck_get kk_Mo_isBend 4 rfl) ?_
      refine wp_iload_n rfl (ck_get kk_Mo_isBend 5 rfl) ?_
      first | refine wp_icmp_geN (t := 73) (ck_get kk_Mo_isBend 6 rfl) (by decide) (by omega) (by omega) (fun hc8 => ?_) (fun hc8 => ?_) | refine wp_icmp_ge (t := 73) (ck_get kk_Mo_isBend 6 rfl) (by decide) (fun hc8 => ?_) (fun hc8 => ?_)
      · refine wp_iload_n rfl (ck_get kk_Mo_isBend 42 rfl) ?_
        refine wp_ireturn (ck_get kk_Mo_isBend 43 rfl) rfl (by cases bb <;> decide) ⟨_, rfl, ?_⟩
        exact ⟨⟨bb, rfl, hq.trans ⟨fun q a2 b2 h1 h2 h3 => q a2 b2 ⟨h1, h2, h3⟩, fun q a2 b2 h => q a2 b2 h.1 h.2.1 h.2.2⟩⟩, rfl⟩
      · omega
    | succ e ih =>
      intro a bb x5 h1 hq
      refine wp_iload rfl (ck_get kk_Mo_isBend 4 rfl) ?_
      refine wp_iload_n rfl (ck_get kk_Mo_isBend 5 rfl) ?_
      first | refine wp_icmp_geN (t := 73) (ck_get kk_Mo_isBend 6 rfl) (by decide) (by omega) (by omega) (fun hc8 => ?_) (fun hc8 => ?_) | refine wp_icmp_ge (t := 73) (ck_get kk_Mo_isBend 6 rfl) (by decide) (fun hc8 => ?_) (fun hc8 => ?_)
      · omega
      · refine wp_iload_n rfl (ck_get kk_Mo_isBend 7 rfl) ?_
        refine wp_iconst (v := nI 1) (by decide) (ck_get kk_Mo_isBend 8 rfl) ?_
        first | refine wp_iaddN (ck_get kk_Mo_isBend 9 rfl) ?_ | refine wp_iadd (ck_get kk_Mo_isBend 9 rfl) ?_
        refine wp_istore (ck_get kk_Mo_isBend 10 rfl) (by decide) rfl ?_
        refine hin a (by omega) (24 - c) (c + 1) bb (by omega) (by omega) (hq.trans ⟨fun q a2 b2 h => q a2 b2 (by omega), fun q a2 b2 h => q a2 b2 (by omega)⟩) (fun bb hq => ?_)
        first | refine wp_iincN (ck_get kk_Mo_isBend 40 rfl) rfl (by decide) rfl ?_ | refine wp_iinc (ck_get kk_Mo_isBend 40 rfl) rfl (by decide) rfl ?_
        refine wp_goto (t := 5) (ck_get kk_Mo_isBend 41 rfl) (by decide) ?_
        exact ih (a + 1) bb _ (by omega) hq
  refine cw_entry 3 pf_Mo_isBend rfl ?_
  refine wp_iconst (v := nI 1) (by decide) (ck_get kk_Mo_isBend 0 rfl) ?_
  refine wp_istore_n (ck_get kk_Mo_isBend 1 rfl) (by decide) rfl ?_
  refine wp_iconst (v := nI 0) (by decide) (ck_get kk_Mo_isBend 2 rfl) ?_
  refine wp_istore (ck_get kk_Mo_isBend 3 rfl) (by decide) rfl ?_
  exact hlp c 0 true none (by omega) ⟨fun _ a2 b2 h => by omega, fun _ => rfl⟩
end BND

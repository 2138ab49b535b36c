/-! ===== hull: numbers; the class ===== -/
section HUL
/-- a line between two sizes, at one, a thousandfold -/
abbrev liX (f : Nat → Int) (a b c : Nat) : Int := f a * ((b : Int) - c) + f b * ((c : Int) - a)
abbrev liD (f : Nat → Int) (a b c : Nat) : Int := (1000 * liX f a b c).tdiv ((b : Int) - a)
theorem li_b {f : Nat → Int} (hf : ∀ c, c < 25 → 0 ≤ f c ∧ f c ≤ 400000000) {a b c : Nat} (h1 : a ≤ c) (h2 : c ≤ b) (h3 : b < 25) : 0 ≤ liX f a b c ∧ liX f a b c ≤ 20000000000 := by
  have p1 := prd (x := f a) (u := (b : Int) - c) (by have := hf a (by omega); omega) (hf a (by omega)).2 (by omega) (by omega)
  have p2 := prd (x := f b) (u := (c : Int) - a) (by have := hf b (by omega); omega) (hf b (by omega)).2 (by omega) (by omega)
  have q1 := Int.mul_nonneg (hf a (by omega)).1 (show 0 ≤ (b : Int) - c by omega)
  have q2 := Int.mul_nonneg (hf b (by omega)).1 (show 0 ≤ (c : Int) - a by omega)
  show 0 ≤ f a * ((b : Int) - c) + f b * ((c : Int) - a) ∧ f a * ((b : Int) - c) + f b * ((c : Int) - a) ≤ _
  omega
theorem li_e {f : Nat → Int} (hf : ∀ c, c < 25 → 0 ≤ f c ∧ f c ≤ 400000000) {a b c : Nat} (h1 : a ≤ c) (h2 : c ≤ b) (h3 : b < 25) : liD f a b c = 1000 * liX f a b c / ((b : Int) - a) := Int.tdiv_eq_ediv_of_nonneg (by have := li_b hf h1 h2 h3; omega)
theorem i_div {X p Y q : Int} (hp : 0 < p) (hq : 0 < q) (h : X * q ≤ Y * p) : X / p ≤ Y / q := by
  refine (Int.le_ediv_iff_mul_le hq).mpr ?_
  have h1 := Int.ediv_mul_le X (Int.ne_of_gt hp)
  generalize X / p = d at *
  refine Int.not_lt.mp (fun q2 => ?_)
  have a1 := Int.mul_lt_mul_of_pos_right q2 hp
  have a2 := Int.mul_le_mul_of_nonneg_right h1 (Int.le_of_lt hq)
  simp only [Int.mul_assoc, Int.mul_comm, Int.mul_left_comm] at a1 a2 h
  omega
theorem i_alg2 {at0 to a b c A T fa fb : Int} (h1 : A * (to - a) + T * (a - at0) ≤ (to - at0) * fa) (h2 : A * (to - b) + T * (b - at0) ≤ (to - at0) * fb) (hb : 0 ≤ b - c) (ha : 0 ≤ c - a) : (A * (to - c) + T * (c - at0)) * (b - a) ≤ (fa * (b - c) + fb * (c - a)) * (to - at0) := by
  have x1 := Int.mul_le_mul_of_nonneg_left h1 hb
  have x2 := Int.mul_le_mul_of_nonneg_left h2 ha
  simp only [Int.mul_add, Int.add_mul, Int.mul_sub, Int.sub_mul, Int.mul_assoc, Int.mul_comm, Int.mul_left_comm] at x1 x2 ⊢
  omega
/-- the bend ahead of a size -/
def SgI (f : Nat → Int) (c i : Nat) : Prop := i < nbL f ∧ (i = 0 ∨ nbI f i < c) ∧ c ≤ nbI f (i + 1)
theorem sg_ex {f : Nat → Int} {c : Nat} (hc : c ≤ 24) : ∃ i, SgI f c i := by
  have h : ∀ d i, i + 1 + d = nbL f → (i = 0 ∨ nbI f i < c) → ∃ i, SgI f c i := by
    intro d
    induction d with
    | zero =>
      intro i h1 h2
      exact ⟨i, by omega, h2, by rw [show i + 1 = nbL f by omega, (nbL_ok (f := f)).1]; exact hc⟩
    | succ d ih =>
      intro i h1 h2
      by_cases e : c ≤ nbI f (i + 1)
      · exact ⟨i, by omega, h2, e⟩
      · exact ih (i + 1) (by omega) (Or.inr (by omega))
  have := nbL_1 (f := f)
  exact h (nbL f - 1) 0 (by omega) (Or.inl rfl)
theorem sg_un {f : Nat → Int} {c i j : Nat} (h1 : SgI f c i) (h2 : SgI f c j) : i = j := by
  obtain ⟨-, a2, a3⟩ := h1
  obtain ⟨-, b2, b3⟩ := h2
  refine Classical.byContradiction (fun q => ?_)
  rcases (show i < j ∨ j < i by omega) with q | q
  · have : nbI f (i + 1) ≤ nbI f j := by
      by_cases e : i + 1 = j
      · rw [e]; exact Nat.le_refl _
      · exact Nat.le_of_lt (nb_mono (by omega))
    omega
  · have : nbI f (j + 1) ≤ nbI f i := by
      by_cases e : j + 1 = i
      · rw [e]; exact Nat.le_refl _
      · exact Nat.le_of_lt (nb_mono (by omega))
    omega
theorem sg_le {f : Nat → Int} {c i : Nat} (h : SgI f c i) : nbI f i ≤ c ∧ nbI f i < 24 ∧ nbI f (i + 1) ≤ 24 ∧ nbI f i < nbI f (i + 1) := by
  have h1 : nbI f i < 24 := nbL_lt.mpr h.1
  refine ⟨?_, h1, nb_st h1, nb_lt⟩
  rcases h.2.1 with e | e
  · subst e; exact Nat.zero_le _
  · omega
/-- the hull's value, a thousandfold -/
abbrev hlV (f : Nat → Int) (c i : Nat) : Int := liD f (nbI f i) (nbI f (i + 1)) c
section HN
variable {f : Nat → Int} {c i : Nat}
theorem hl_le (hf : ∀ c, c < 25 → 0 ≤ f c ∧ f c ≤ 400000000) (hs : SgI f c i) {a b : Nat} (ha : a < c) (hb : c < b) (hb2 : b ≤ 24) : hlV f c i ≤ liD f a b c := by
  obtain ⟨q1, q2, q3, q4⟩ := sg_le hs
  have q5 := hs.2.2
  rw [show hlV f c i = 1000 * liX f (nbI f i) (nbI f (i + 1)) c / ((nbI f (i + 1) : Int) - nbI f i) from li_e hf q1 q5 (by omega), li_e hf (by omega) (by omega) (by omega)]
  have x1 := nx_above q2 (nb_b i (by omega)) (x := a) (by omega)
  have x2 := nx_above q2 (nb_b i (by omega)) (x := b) (by omega)
  have x3 := i_alg2 (c := (c : Int)) x1 x2 (by omega) (by omega)
  refine i_div (by omega) (by omega) ?_
  rw [Int.mul_assoc, Int.mul_assoc]
  exact Int.mul_le_mul_of_nonneg_left x3 (by omega)
theorem hl_c (hf : ∀ c, c < 25 → 0 ≤ f c ∧ f c ≤ 400000000) (hs : SgI f c i) (hc : c ≤ 24) : hlV f c i ≤ 1000 * f c := by
  obtain ⟨q1, q2, q3, q4⟩ := sg_le hs
  have q5 := hs.2.2
  rw [show hlV f c i = 1000 * liX f (nbI f i) (nbI f (i + 1)) c / ((nbI f (i + 1) : Int) - nbI f i) from li_e hf q1 q5 (by omega)]
  have x1 := nx_above q2 (nb_b i (by omega)) (x := c) (by omega)
  refine Int.ediv_le_of_le_mul (by omega) ?_
  rw [Int.mul_assoc, Int.mul_comm (f c)]
  exact Int.mul_le_mul_of_nonneg_left x1 (by omega)
theorem hl_at (hf : ∀ c, c < 25 → 0 ≤ f c ∧ f c ≤ 400000000) (hs : SgI f c i) (h : c = nbI f i ∨ c = nbI f (i + 1)) : hlV f c i = 1000 * f c := by
  obtain ⟨q1, q2, q3, q4⟩ := sg_le hs
  have q5 := hs.2.2
  rw [show hlV f c i = 1000 * liX f (nbI f i) (nbI f (i + 1)) c / ((nbI f (i + 1) : Int) - nbI f i) from li_e hf q1 q5 (by omega)]
  rcases h with h | h
  · rw [show liX f (nbI f i) (nbI f (i + 1)) c = f c * ((nbI f (i + 1) : Int) - nbI f i) by
      show f (nbI f i) * ((nbI f (i + 1) : Int) - c) + f (nbI f (i + 1)) * ((c : Int) - nbI f i) = _
      rw [← h, Int.sub_self, Int.mul_zero, Int.add_zero], ← Int.mul_assoc]
    exact Int.mul_ediv_cancel _ (by omega)
  · rw [show liX f (nbI f i) (nbI f (i + 1)) c = f c * ((nbI f (i + 1) : Int) - nbI f i) by
      show f (nbI f i) * ((nbI f (i + 1) : Int) - c) + f (nbI f (i + 1)) * ((c : Int) - nbI f i) = _
      rw [← h, Int.sub_self, Int.mul_zero, Int.zero_add], ← Int.mul_assoc]
    exact Int.mul_ediv_cancel _ (by omega)
theorem hl_0 (hf : ∀ c, c < 25 → 0 ≤ f c ∧ f c ≤ 400000000) (hs : SgI f c i) : 0 ≤ hlV f c i := by
  obtain ⟨q1, q2, q3, q4⟩ := sg_le hs
  have q5 := hs.2.2
  rw [show hlV f c i = 1000 * liX f (nbI f i) (nbI f (i + 1)) c / ((nbI f (i + 1) : Int) - nbI f i) from li_e hf q1 q5 (by omega)]
  exact Int.ediv_nonneg (by have := (li_b hf q1 q5 (by omega)).1; omega) (by omega)
end HN
theorem j_div {x y : Int} (h1 : 0 ≤ x) (h2 : x ≤ 100000000000000) (h3 : 0 < y) (h4 : y ≤ 25) : jI x / jI y = jI (x.tdiv y) := by
  have a : Int64.minValue.toInt = -9223372036854775808 := by decide
  have b : Int64.maxValue.toInt = 9223372036854775807 := by decide
  exact (Int64.ofInt_tdiv (by omega) (by omega) (by omega) (by omega)).symm
theorem j_ne0 {y : Int} (h3 : 0 < y) (h4 : y ≤ 25) : ¬ jI y = 0 := fun q => by
  have := congrArg Int64.toInt q
  rw [jI_i (by omega) (by omega)] at this
  have z : (0 : Int64).toInt = 0 := by decide
  omega
theorem j1000 : (1000 : Int64) = jI 1000 := by decide
variable {g : Gl} {M : Mem}
theorem c_bendFrom {f : Nat → Int} {c : Nat} (hCu : CuAt (mT M) (mR M) 947) (hb : ∀ i, i ≤ nbL f → mI M 948 i = nI (nbI f i)) (hr : mI M 947 1 = nI (nbL f + 1)) (hc : c ≤ 24) : Ci g Y_Cu_bendFrom 0 [.ref 947, .int (nI c)] M (fun x M2 => ∃ i, x = nI (i + 1) ∧ SgI f c i ∧ M2 = M) := by
  obtain ⟨t947, r0, t948, -⟩ := hCu
  have r0' : mR M 947 0 = some 948 := r0
  have t948' : mT M 948 = (20, 25) := t948
  have hl := nbL_ok (f := f)
  have hlp : ∀ e i, i + 1 + e = nbL f → (i = 0 ∨ nbI f i < c) → Wp g Y_Cu_bendFrom 0 2 [some (.ref 947), some (.int (nI c)), some (.int (nI (i + 1)))] [] M (fun r M2 => ∃ x, r = some (.int x) ∧ ∃ i, x = nI (i + 1) ∧ SgI f c i ∧ M2 = M) := by
    intro e
    induction e with
    | zero =>
      intro i h1 h2
      have h24 : nbI f (i + 1) = 24 := by rw [show i + 1 = nbL f by omega]; exact hl.1
      refine wp_iload_n rfl (ck_get kk_Cu_bendFrom 2 rfl) ?_
      refine wp_aload_n rfl (ck_get kk_Cu_bendFrom 3 rfl) ?_
      refine wp_getIv (v := nI (nbL f + 1)) (ck_get kk_Cu_bendFrom 4 rfl) fl_Cu_15 (by assumption) (hr) ?_
      first | refine wp_icmp_geN (t := 28) (ck_get kk_Cu_bendFrom 5 rfl) (by decide) (by omega) (by omega) (fun hc7 => ?_) (fun hc7 => ?_) | refine wp_icmp_ge (t := 28) (ck_get kk_Cu_bendFrom 5 rfl) (by decide) (fun hc7 => ?_) (fun hc7 => ?_)
      · omega
      · refine wp_aload_n rfl (ck_get kk_Cu_bendFrom 6 rfl) ?_
        refine wp_getR (ck_get kk_Cu_bendFrom 7 rfl) fl_Cu_9 (by assumption) (by assumption) ?_
        refine wp_iload_n rfl (ck_get kk_Cu_bendFrom 8 rfl) ?_
        refine wp_ialdv (v := nI (nbI f (i + 1))) (ck_get kk_Cu_bendFrom 9 rfl) (by assumption) (ixk_nI (k := i + 1) (by omega) (by omega)) (hb _ (by omega)) ?_
        refine wp_iload_n rfl (ck_get kk_Cu_bendFrom 10 rfl) ?_
        first | refine wp_icmp_ltN (t := 22) (ck_get kk_Cu_bendFrom 11 rfl) (by decide) (by omega) (by omega) (fun hc17 => ?_) (fun hc17 => ?_) | refine wp_icmp_lt (t := 22) (ck_get kk_Cu_bendFrom 11 rfl) (by decide) (fun hc17 => ?_) (fun hc17 => ?_)
        · omega
        · refine wp_iload_n rfl (ck_get kk_Cu_bendFrom 12 rfl) ?_
          refine wp_ireturn (ck_get kk_Cu_bendFrom 13 rfl) rfl rfl ⟨_, rfl, ?_⟩
          exact ⟨i, rfl, ⟨by omega, h2, by omega⟩, rfl⟩
    | succ e ih =>
      intro i h1 h2
      have h24 : nbI f (i + 1) < 24 := nbL_lt.mpr (by omega)
      refine wp_iload_n rfl (ck_get kk_Cu_bendFrom 2 rfl) ?_
      refine wp_aload_n rfl (ck_get kk_Cu_bendFrom 3 rfl) ?_
      refine wp_getIv (v := nI (nbL f + 1)) (ck_get kk_Cu_bendFrom 4 rfl) fl_Cu_15 (by assumption) (hr) ?_
      first | refine wp_icmp_geN (t := 28) (ck_get kk_Cu_bendFrom 5 rfl) (by decide) (by omega) (by omega) (fun hc7 => ?_) (fun hc7 => ?_) | refine wp_icmp_ge (t := 28) (ck_get kk_Cu_bendFrom 5 rfl) (by decide) (fun hc7 => ?_) (fun hc7 => ?_)
      · omega
      · refine wp_aload_n rfl (ck_get kk_Cu_bendFrom 6 rfl) ?_
        refine wp_getR (ck_get kk_Cu_bendFrom 7 rfl) fl_Cu_9 (by assumption) (by assumption) ?_
        refine wp_iload_n rfl (ck_get kk_Cu_bendFrom 8 rfl) ?_
        refine wp_ialdv (v := nI (nbI f (i + 1))) (ck_get kk_Cu_bendFrom 9 rfl) (by assumption) (ixk_nI (k := i + 1) (by omega) (by omega)) (hb _ (by omega)) ?_
        refine wp_iload_n rfl (ck_get kk_Cu_bendFrom 10 rfl) ?_
        first | refine wp_icmp_ltN (t := 22) (ck_get kk_Cu_bendFrom 11 rfl) (by decide) (by omega) (by omega) (fun hc17 => ?_) (fun hc17 => ?_) | refine wp_icmp_lt (t := 22) (ck_get kk_Cu_bendFrom 11 rfl) (by decide) (fun hc17 => ?_) (fun hc17 => ?_)
        · first | refine wp_iincN (ck_get kk_Cu_bendFrom 14 rfl) rfl (by decide) rfl ?_ | refine wp_iinc (ck_get kk_Cu_bendFrom 14 rfl) rfl (by decide) rfl ?_
          refine wp_goto (t := 2) (ck_get kk_Cu_bendFrom 15 rfl) (by decide) ?_
          exact ih (i + 1) (by omega) (Or.inr (by omega))
        · refine wp_iload_n rfl (ck_get kk_Cu_bendFrom 12 rfl) ?_
          refine wp_ireturn (ck_get kk_Cu_bendFrom 13 rfl) rfl rfl ⟨_, rfl, ?_⟩
          exact ⟨i, rfl, ⟨by omega, h2, by omega⟩, rfl⟩
  have h1 := nbL_1 (f := f)
  refine cw_entry 1 pf_Cu_bendFrom rfl ?_
  refine wp_iconst (v := nI 1) (by decide) (ck_get kk_Cu_bendFrom 0 rfl) ?_
  refine wp_istore_n (ck_get kk_Cu_bendFrom 1 rfl) (by decide) rfl ?_
  exact hlp (nbL f - 1) 0 (by omega) (Or.inl rfl)
theorem c_hullAt {f : Nat → Int} {c i : Nat} (hCu : CuAt (mT M) (mR M) 947) (hj : ∀ c, c < 25 → mJ M 951 c = jI (f c)) (hb : ∀ i, i ≤ nbL f → mI M 948 i = nI (nbI f i)) (hr : mI M 947 1 = nI (nbL f + 1)) (hf : ∀ c, c < 25 → 0 ≤ f c ∧ f c ≤ 400000000) (hc : c ≤ 24) (hi : SgI f c i) : Cl g Y_Cu_hullAt 1 [.ref 947, .int (nI c)] M (fun x M2 => x = jI (hlV f c i) ∧ M2 = M) := by
  have hCu0 := hCu
  obtain ⟨t947, r0, t948, -, -, r3, t951⟩ := hCu
  have r0' : mR M 947 0 = some 948 := r0
  have t948' : mT M 948 = (20, 25) := t948
  have r3' : mR M 947 3 = some 951 := r3
  have t951' : mT M 951 = (21, 25) := t951
  have hl := nbL_ok (f := f)
  obtain ⟨q1, q2, q3, q4⟩ := sg_le hi
  have q5 := hi.2.2
  have q6 := hi.1
  have lb := li_b hf q1 q5 (by omega)
  have lb' : 0 ≤ f (nbI f i) * ((nbI f (i + 1) : Int) - c) + f (nbI f (i + 1)) * ((c : Int) - nbI f i) ∧ f (nbI f i) * ((nbI f (i + 1) : Int) - c) + f (nbI f (i + 1)) * ((c : Int) - nbI f i) ≤ 20000000000 := lb
  refine cw_entry 3 pf_Cu_hullAt rfl ?_
  refine wp_aload_n rfl (ck_get kk_Cu_hullAt 0 rfl) ?_
  refine wp_iload_n rfl (ck_get kk_Cu_hullAt 1 rfl) ?_
  refine wp_cV1i (ck_get kk_Cu_hullAt 2 rfl) ml_Cu_39 (by omega) (Nat.le_of_ble_eq_true rfl) (by assumption) (Ci.to (c_bendFrom hCu0 hb hr hc) ?_)
  rintro x M1 ⟨i2, w1, w2, w3⟩
  obtain rfl := sg_un w2 hi
  subst w1 w3
  refine wp_istore_n (ck_get kk_Cu_hullAt 3 rfl) (by decide) rfl ?_
  refine wp_aload_n rfl (ck_get kk_Cu_hullAt 4 rfl) ?_
  refine wp_getR (ck_get kk_Cu_hullAt 5 rfl) fl_Cu_9 (by assumption) (by assumption) ?_
  refine wp_iload_n rfl (ck_get kk_Cu_hullAt 6 rfl) ?_
  refine wp_iconst (v := nI 1) (by decide) (ck_get kk_Cu_hullAt 7 rfl) ?_
  first | refine wp_isubN (ck_get kk_Cu_hullAt 8 rfl) (by omega) ?_ | refine wp_isub (ck_get kk_Cu_hullAt 8 rfl) ?_
  refine wp_ialdv (v := nI (nbI f i2)) (ck_get kk_Cu_hullAt 9 rfl) (by assumption) (ixk_nI (k := i2 + 1 - 1) (by omega) (by omega)) (hb i2 (by omega)) ?_
  refine wp_istore_n (ck_get kk_Cu_hullAt 10 rfl) (by decide) rfl ?_
  refine wp_aload_n rfl (ck_get kk_Cu_hullAt 11 rfl) ?_
  refine wp_getR (ck_get kk_Cu_hullAt 12 rfl) fl_Cu_9 (by assumption) (by assumption) ?_
  refine wp_iload_n rfl (ck_get kk_Cu_hullAt 13 rfl) ?_
  refine wp_ialdv (v := nI (nbI f (i2 + 1))) (ck_get kk_Cu_hullAt 14 rfl) (by assumption) (ixk_nI (k := i2 + 1) (by omega) (by omega)) (hb _ (by omega)) ?_
  refine wp_istore (ck_get kk_Cu_hullAt 15 rfl) (by decide) rfl ?_
  refine wp_iload_n rfl (ck_get kk_Cu_hullAt 16 rfl) ?_
  refine wp_iload rfl (ck_get kk_Cu_hullAt 17 rfl) ?_
  first | refine wp_icmp_geN (t := 67) (ck_get kk_Cu_hullAt 18 rfl) (by decide) (by omega) (by omega) (fun hc26 => ?_) (fun hc26 => ?_) | refine wp_icmp_ge (t := 67) (ck_get kk_Cu_hullAt 18 rfl) (by decide) (fun hc26 => ?_) (fun hc26 => ?_)
  · omega
  · refine wp_ldc2 kl_Cu_42 (ck_get kk_Cu_hullAt 19 rfl) ?_
    rw [j1000]
    refine wp_aload_n rfl (ck_get kk_Cu_hullAt 20 rfl) ?_
    refine wp_getR (ck_get kk_Cu_hullAt 21 rfl) fl_Cu_26 (by assumption) (by assumption) ?_
    refine wp_iload_n rfl (ck_get kk_Cu_hullAt 22 rfl) ?_
    refine wp_laldv (v := jI (f (nbI f i2))) (ck_get kk_Cu_hullAt 23 rfl) (by assumption) (ixk_nI (k := nbI f i2) (by omega) (by omega)) (hj _ (by omega)) ?_
    refine wp_iload rfl (ck_get kk_Cu_hullAt 24 rfl) ?_
    refine wp_iload_n rfl (ck_get kk_Cu_hullAt 25 rfl) ?_
    first | refine wp_isubN (ck_get kk_Cu_hullAt 26 rfl) (by omega) ?_ | refine wp_isub (ck_get kk_Cu_hullAt 26 rfl) ?_
    refine wp_i2l (ck_get kk_Cu_hullAt 27 rfl) ?_
    rw [j_sub (by omega) (by omega)]
    refine wp_lmul (ck_get kk_Cu_hullAt 28 rfl) ?_
    rw [← Int64.ofInt_mul]
    refine wp_aload_n rfl (ck_get kk_Cu_hullAt 29 rfl) ?_
    refine wp_getR (ck_get kk_Cu_hullAt 30 rfl) fl_Cu_26 (by assumption) (by assumption) ?_
    refine wp_iload rfl (ck_get kk_Cu_hullAt 31 rfl) ?_
    refine wp_laldv (v := jI (f (nbI f (i2 + 1)))) (ck_get kk_Cu_hullAt 32 rfl) (by assumption) (ixk_nI (k := nbI f (i2 + 1)) (by omega) (by omega)) (hj _ (by omega)) ?_
    refine wp_iload_n rfl (ck_get kk_Cu_hullAt 33 rfl) ?_
    refine wp_iload_n rfl (ck_get kk_Cu_hullAt 34 rfl) ?_
    first | refine wp_isubN (ck_get kk_Cu_hullAt 35 rfl) (by omega) ?_ | refine wp_isub (ck_get kk_Cu_hullAt 35 rfl) ?_
    refine wp_i2l (ck_get kk_Cu_hullAt 36 rfl) ?_
    rw [j_sub (by omega) (by omega)]
    refine wp_lmul (ck_get kk_Cu_hullAt 37 rfl) ?_
    rw [← Int64.ofInt_mul]
    refine wp_ladd (ck_get kk_Cu_hullAt 38 rfl) ?_
    rw [← Int64.ofInt_add]
    refine wp_lmul (ck_get kk_Cu_hullAt 39 rfl) ?_
    rw [← Int64.ofInt_mul]
    refine wp_iload rfl (ck_get kk_Cu_hullAt 40 rfl) ?_
    refine wp_iload_n rfl (ck_get kk_Cu_hullAt 41 rfl) ?_
    first | refine wp_isubN (ck_get kk_Cu_hullAt 42 rfl) (by omega) ?_ | refine wp_isub (ck_get kk_Cu_hullAt 42 rfl) ?_
    refine wp_i2l (ck_get kk_Cu_hullAt 43 rfl) ?_
    rw [j_sub (by omega) (by omega)]
    refine wp_ldiv (j_ne0 (by omega) (by omega)) (ck_get kk_Cu_hullAt 44 rfl) ?_
    rw [j_div (by omega) (by omega) (by omega) (by omega)]
    refine wp_goto (t := 77) (ck_get kk_Cu_hullAt 45 rfl) (by decide) ?_
    refine wp_lreturn (ck_get kk_Cu_hullAt 52 rfl) rfl ⟨_, rfl, ?_⟩
    exact ⟨rfl, rfl⟩
end HUL

/-! ===== MissCurves$Judge: weigh's walk ===== -/
theorem nI_nem1 {t : Nat} (h : t < 2147483648) : ¬ nI t = -1 := fun q => by
  have h1 := nI_pos (n := t) h
  rw [q] at h1
  exact h1 (by decide)
section WH
variable {g : Gl} {M : Mem} {j p h wd tn a cl cn nc : Nat} {V : Nat → Int32} {x4 x5 x8 x9 : Option Value}
theorem wgM_b {c b b2 : Int32} {S : Nat → Int64} : sI (wgM M j V c b S) j 1 b2 = wgM M j V c b2 S := by
  show mk2 M (up2 (up1 (up1 (mI M) (j + 2) V) j (up1 (up1 (mI M j) 0 c) 1 b)) j 1 b2) (up1 (mJ M) (j + 3) S) = _
  rw [up2_up1, up1_eq, up1_up1, up1_up1]
theorem wgM_c {c b c2 : Int32} {S : Nat → Int64} : sI (wgM M j V c b S) j 0 c2 = wgM M j V c2 b S := by
  show mk2 M (up2 (up1 (up1 (mI M) (j + 2) V) j (up1 (up1 (mI M j) 0 c) 1 b)) j 0 c2) (up1 (mJ M) (j + 3) S) = _
  rw [up2_up1, up1_eq, up1_up1, up1_comm (up1 (mI M j) 0 c) (show 1 ≠ 0 by omega), up1_up1]
theorem wgM_s {c b : Int32} {S S2 : Nat → Int64} : evM (wgM M j V c b S) j S2 = wgM M j V c b S2 := by
  show mk2 M _ (up1 (up1 (mJ M) (j + 3) S) (j + 3) S2) = _
  rw [up1_up1]
theorem wgM_p {c b : Int32} {S : Nat → Int64} (hd : p + 8 ≤ j ∨ j + 4 ≤ p) {k : Nat} (hk : k < 8) : mI (wgM M j V c b S) (p + k) = mI M (p + k) := by
  show up1 (up1 (mI M) (j + 2) V) j _ (p + k) = _
  rw [up1_ne (by omega), up1_ne (by omega)]
theorem wgM_w {c b : Int32} {S : Nat → Int64} : mI (wgM M j V c b S) (j + 2) = V := by
  show up1 (up1 (mI M) (j + 2) V) j _ (j + 2) = _
  rw [up1_ne (by omega), up1_eq]
theorem l_wg204 {n : Nat} {N : Mem} {Q : Option Value → Mem → Prop} {x1 x3 y8 y9 : Option Value} (K : ∀ y8 y9, Wp g Y_Ju_weigh 2 97 [some (.ref j), x1, some (.ref p), x3, x4, x5, some (.ref tn), some (.int (nI (n + 1))), y8, y9] [] N Q) : Wp g Y_Ju_weigh 2 204 [some (.ref j), x1, some (.ref p), x3, x4, x5, some (.ref tn), some (.int (nI n)), y8, y9] [] N Q := by
  first | refine wp_iincN (ck_get kk_Ju_weigh 110 rfl) rfl (by decide) rfl ?_ | refine wp_iinc (ck_get kk_Ju_weigh 110 rfl) rfl (by decide) rfl ?_
  refine wp_goto (t := 97) (ck_get kk_Ju_weigh 111 rfl) (by decide) ?_
  exact K y8 y9
theorem l_wg141 {n : Nat} {c b : Int32} {S : Nat → Int64} {Q : Option Value → Mem → Prop} {x1 x3 y8 y9 : Option Value} (hJ : JuAt (mT M) (mR M) j) (hP : PrAt (mT M) (mR M) p cn) (h8 : mI M p 8 = nI cl) (hcl : cl ≤ cn) (hcn : cn ≤ 1024) (hd : p + 8 ≤ j ∨ j + 4 ≤ p) (hn : n < 12) (hC : CodeW (mI M (p + 7)) cl 6)
    (hk : mI M (p + 1) n = nI 5 ∨ (mI M (p + 1) n = nI 4 ∧ ∃ t, t ≤ cl ∧ t % 2 = 0 ∧ mI M (p + 4) n = nI t))
    (K : ∀ c2 b2 S2, (mI M (p + 1) n = nI 5 → c2 = c ∧ b2 = nI 1) → (¬ mI M (p + 1) n = nI 5 → b2 = b ∧ c2 = if ev0 (mI M (p + 7)) cl V 6 (mI M (p + 4) n).toNatClampNeg = brk then c else clmp (ev0 (mI M (p + 7)) cl V 6 (mI M (p + 4) n).toNatClampNeg)) → ∀ y8 y9, Wp g Y_Ju_weigh 2 97 [some (.ref j), x1, some (.ref p), x3, x4, x5, some (.ref tn), some (.int (nI (n + 1))), y8, y9] [] (wgM M j V c2 b2 S2) Q) :
    Wp g Y_Ju_weigh 2 141 [some (.ref j), x1, some (.ref p), x3, x4, x5, some (.ref tn), some (.int (nI n)), y8, y9] [] (wgM M j V c b S) Q := by
  have hJ0 := hJ
  have hP0 := hP
  obtain ⟨tj0, rj2, tj1, rj3, tj2, rj4, tj3⟩ := hJ
  obtain ⟨tp0, rpk, tpk, tp7⟩ := hP
  have rp1 := rpk 1 (by omega) (by omega)
  have tp1 := tpk 1 (by omega) (by omega)
  have rp4 := rpk 4 (by omega) (by omega)
  have tp4 := tpk 4 (by omega) (by omega)
  rcases hk with h5 | ⟨h4, t, ht1, ht2, ht3⟩
  · skip
    refine wp_aload_n rfl (ck_get kk_Ju_weigh 78 rfl) ?_
    refine wp_getR (ck_get kk_Ju_weigh 79 rfl) fl_Ju_71 (by assumption) (by assumption) ?_
    refine wp_iload rfl (ck_get kk_Ju_weigh 80 rfl) ?_
    refine wp_ialdv (v := nI 5) (ck_get kk_Ju_weigh 81 rfl) (by assumption) (by first | assumption | exact ixk_nI (by omega) (by omega)) (by rw [wgM_p hd (by omega)]; exact h5) ?_
    refine wp_iconst (v := nI 5) (by decide) (ck_get kk_Ju_weigh 82 rfl) ?_
    first | refine wp_icmp_neN (t := 160) (ck_get kk_Ju_weigh 83 rfl) (by decide) (by omega) (by omega) (fun hc149 => ?_) (fun hc149 => ?_) | refine wp_icmp_ne (t := 160) (ck_get kk_Ju_weigh 83 rfl) (by decide) (fun hc149 => ?_) (fun hc149 => ?_)
    · omega
    · refine wp_aload_n rfl (ck_get kk_Ju_weigh 84 rfl) ?_
      refine wp_iconst (v := nI 1) (by decide) (ck_get kk_Ju_weigh 85 rfl) ?_
      refine wp_putI (ck_get kk_Ju_weigh 86 rfl) fl_Ju_15 (by decide +kernel) (by assumption) (by first | exact okI_b0 | exact okI_b1) ?_
      refine wp_goto (t := 204) (ck_get kk_Ju_weigh 87 rfl) (by decide) ?_
      rw [wgM_b]
      exact l_wg204 (fun y8 y9 => K c (nI 1) S (fun _ => ⟨rfl, rfl⟩) (fun hh => absurd h5 hh) y8 y9)
  · have hne : ¬ mI M (p + 1) n = nI 5 := by rw [h4]; decide
    have hcl2 : (mI M (p + 4) n).toNatClampNeg = t := by rw [ht3]; exact nI_clamp (by omega)
    rw [hcl2] at K
    refine wp_aload_n rfl (ck_get kk_Ju_weigh 78 rfl) ?_
    refine wp_getR (ck_get kk_Ju_weigh 79 rfl) fl_Ju_71 (by assumption) (by assumption) ?_
    refine wp_iload rfl (ck_get kk_Ju_weigh 80 rfl) ?_
    refine wp_ialdv (v := nI 4) (ck_get kk_Ju_weigh 81 rfl) (by assumption) (by first | assumption | exact ixk_nI (by omega) (by omega)) (by rw [wgM_p hd (by omega)]; exact h4) ?_
    refine wp_iconst (v := nI 5) (by decide) (ck_get kk_Ju_weigh 82 rfl) ?_
    first | refine wp_icmp_neN (t := 160) (ck_get kk_Ju_weigh 83 rfl) (by decide) (by omega) (by omega) (fun hc149 => ?_) (fun hc149 => ?_) | refine wp_icmp_ne (t := 160) (ck_get kk_Ju_weigh 83 rfl) (by decide) (fun hc149 => ?_) (fun hc149 => ?_)
    · refine wp_aload_n rfl (ck_get kk_Ju_weigh 88 rfl) ?_
      refine wp_aload_n rfl (ck_get kk_Ju_weigh 89 rfl) ?_
      refine wp_aload_n rfl (ck_get kk_Ju_weigh 90 rfl) ?_
      refine wp_getR (ck_get kk_Ju_weigh 91 rfl) fl_Ju_74 (by assumption) (by assumption) ?_
      refine wp_iload rfl (ck_get kk_Ju_weigh 92 rfl) ?_
      refine wp_ialdv (v := nI t) (ck_get kk_Ju_weigh 93 rfl) (by assumption) (by first | assumption | exact ixk_nI (by omega) (by omega)) (by rw [wgM_p hd (by omega)]; exact ht3) ?_
      refine wp_aload_n rfl (ck_get kk_Ju_weigh 94 rfl) ?_
      refine wp_getR (ck_get kk_Ju_weigh 95 rfl) fl_Ju_23 (by assumption) (by assumption) ?_
      refine wp_cV3l (ck_get kk_Ju_weigh 96 rfl) ml_Ju_67 (by omega) (Nat.le_of_ble_eq_true rfl) (by assumption) (Cl.to (c_eval0 (cl := cl) (cn := cn) (vn := 6) (fr := t) (by exact hJ0) (by exact hP0) (by rw [show mI (wgM M j V c b S) p = mI M p from wgM_p (k := 0) hd (by omega)]; exact h8) hcl hcn (by exact tj2) (by omega) (by rw [wgM_p hd (by omega)]; exact hC) ht2 ht1) ?_)
      rintro x2 N2 ⟨hx2, S2, rfl⟩
      rw [wgM_s]
      rw [wgM_p hd (by omega), wgM_w] at hx2
      refine wp_lstore (ck_get kk_Ju_weigh 97 rfl) (by decide) rfl ?_
      refine wp_lload rfl (ck_get kk_Ju_weigh 98 rfl) ?_
      refine wp_ldc2 kl_Ju_77 (ck_get kk_Ju_weigh 99 rfl) ?_
      refine wp_lcmp (ck_get kk_Ju_weigh 100 rfl) ?_
      refine wp_if_eq (t := 204) (ck_get kk_Ju_weigh 101 rfl) (by decide) (fun hc184 => ?_) (fun hc184 => ?_)
      · have hb1 : x2 = brk := (lcmp_eq _ _).mp hc184
        exact l_wg204 (fun y8 y9 => K c b S2 (fun hh => absurd hh hne) (fun _ => ⟨rfl, by rw [← hx2, if_pos hb1]⟩) y8 y9)
      · refine wp_aload_n rfl (ck_get kk_Ju_weigh 102 rfl) ?_
        refine wp_lconst (v := 0) (by decide) (ck_get kk_Ju_weigh 103 rfl) ?_
        refine wp_lload rfl (ck_get kk_Ju_weigh 104 rfl) ?_
        refine wp_ldc2 kl_Ju_79 (ck_get kk_Ju_weigh 105 rfl) ?_
        refine wp_cS2l (ck_get kk_Ju_weigh 106 rfl) ml_Ju_81 (by omega) (Nat.le_of_ble_eq_true rfl) (Cl.to (c_minJ) ?_)
        rintro _ M1 ⟨rfl, eqm1⟩
        obtain rfl := eqm1.symm
        refine wp_cS2l (ck_get kk_Ju_weigh 107 rfl) ml_Ju_87 (by omega) (Nat.le_of_ble_eq_true rfl) (Cl.to (c_maxJ) ?_)
        rintro _ M1 ⟨rfl, eqm1⟩
        obtain rfl := eqm1.symm
        refine wp_l2i (ck_get kk_Ju_weigh 108 rfl) ?_
        refine wp_putI (ck_get kk_Ju_weigh 109 rfl) fl_Ju_9 (by decide +kernel) (by assumption) (okI_int _) ?_
        have hb1 : ¬ x2 = brk := fun hh => hc184 ((lcmp_eq _ _).mpr hh)
        rw [wgM_c]
        exact l_wg204 (fun y8 y9 => K (clmp x2) b S2 (fun hh => absurd hh hne) (fun _ => ⟨rfl, by rw [← hx2, if_neg hb1]⟩) y8 y9)
    · omega
end WH

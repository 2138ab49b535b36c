section COS
variable {g : Gl} {M : Mem} {pf pg : Nat → Nat} {res : (Nat → Int32) → Int32 × Int32} {md salt B : Nat} {u0 : UF}
theorem l_co66 {cn nc : Nat} {R : OS ⊕ Nat} {ln : Int32} (hL : LayC (mT M) (mR M) pf pg) (hP : CoP M res md salt cn nc) (hB : B + 63360 * 13 < 2147483648) {Q : Option Value → Mem → Prop}
    (H1 : ∀ (s2 : OS) (W2 : Mem) (x4 x5 x6 : Option Value), R = .inl s2 → OOK s2 (B + 63360 * 12) → CoO M pg u0 s2 W2 → Wp g Y_Mc_orders 240 213 [some (.ref 0), some (.int ln), some (.int (nI s2.2.2.1)), some (.int s2.2.2.2), x4, x5, x6] [] W2 Q)
    (H2 : ∀ (n2 : Nat) (s2 : OS) (W2 : Mem) (x2 x3 x5 x6 : Option Value), R = .inr n2 → n2 < nc → CoO M pg u0 s2 W2 → Wp g Y_Mc_orders 240 147 [some (.ref 0), some (.int ln), x2, x3, some (.int (nI n2)), x5, x6] [] W2 Q) :
    ∀ (d n : Nat) (s : OS) (W : Mem) (x5 x6 : Option Value), n + d = nc → CoO M pg u0 s W → OOK s (B + 63360 * n) → oAll res md salt (mI M 932) cn (fun m k => mI M (925 + k) m) d n s = R → Wp g Y_Mc_orders 240 66 [some (.ref 0), some (.int ln), some (.int (nI s.2.2.1)), some (.int s.2.2.2), some (.int (nI n)), x5, x6] [] W Q := by
  have hL0 := hL
  have hP0 := hP
  obtain ⟨t0, -, -, -, -, -, -, -, -, ⟨r10, hPa⟩, -, -, -, -, -, hPf⟩ := hL
  obtain ⟨pa0, pa1, hPr, -⟩ := hPa
  have tp0 := hPr.1
  obtain ⟨hN, h8, hcn, hnc0, hnc, hC, hKc⟩ := hP
  have hRes := hN.2.2.2.ok
  intro d
  induction d with
  | zero =>
    intro n s W x5 x6 hn hs hok hR
    have hs0 := hs
    obtain ⟨I2, J2, f, rfl, h1, h2, h3⟩ := hs
    have e0 : I2 925 0 = nI nc := by rw [(h3.hi hPf (by omega) (by omega)).1]; exact hnc0
    refine wp_iload rfl (ck_get kk_Mc_orders 36 rfl) ?_
    refine wp_aload_n rfl (ck_get kk_Mc_orders 37 rfl) ?_
    refine wp_getR (ck_get kk_Mc_orders 38 rfl) fl_Mc_59 (by assumption) (by assumption) ?_
    refine wp_getR (ck_get kk_Mc_orders 39 rfl) fl_Mc_220 (by assumption) (by assumption) ?_
    refine wp_getIv (v := nI nc) (ck_get kk_Mc_orders 40 rfl) fl_Mc_234 (by assumption) (e0) ?_
    first | refine wp_icmp_geN (t := 213) (ck_get kk_Mc_orders 41 rfl) (by decide) (by omega) (by omega) (fun hc78 => ?_) (fun hc78 => ?_) | refine wp_icmp_ge (t := 213) (ck_get kk_Mc_orders 41 rfl) (by decide) (fun hc78 => ?_) (fun hc78 => ?_)
    · exact H1 s _ _ _ _ hR.symm (hok.le (by omega)) hs0
    · omega
  | succ d ih =>
    intro n s W x5 x6 hn hs hok hR
    have hs0 := hs
    obtain ⟨kd, k1, k2, k3, tm, k4, k5⟩ := OkOK.kd (by have := (hKc n (by omega)).2; rwa [if_pos rfl] at this)
    have k2' : mI M (925 + 1) n = nI kd := k2
    have k5' : mI M (925 + 2) n = nI tm := k5
    obtain ⟨I2, J2, f, rfl, h1, h2, h3⟩ := hs
    have e0 : I2 925 0 = nI nc := by rw [(h3.hi hPf (by omega) (by omega)).1]; exact hnc0
    have hc1 : (mI M (925 + 1) n).toNatClampNeg < 4 := by rw [k2', nI_clamp (by omega)]; exact k1
    have hc2 : (mI M (925 + 2) n).toNatClampNeg = tm := by rw [k5']; exact nI_clamp (by omega)
    have hin := l_co84 (g := g) (ln := ln) (u0 := u0) (B := B + 63360 * n) (Q := Q) hL0 hP0 (show n < nc by omega) (by omega) k1 k2 k4 k5 k3 (R := oR res md salt (mI M 932) cn (fun k => mI M (925 + k) n) tm s) ?_ ?_ tm 0 s (mk2 M I2 J2) x6 (by omega) hs0 (by rw [Nat.mul_zero, Nat.add_zero]; exact hok) rfl
    · skip
      refine wp_iload rfl (ck_get kk_Mc_orders 36 rfl) ?_
      refine wp_aload_n rfl (ck_get kk_Mc_orders 37 rfl) ?_
      refine wp_getR (ck_get kk_Mc_orders 38 rfl) fl_Mc_59 (by assumption) (by assumption) ?_
      refine wp_getR (ck_get kk_Mc_orders 39 rfl) fl_Mc_220 (by assumption) (by assumption) ?_
      refine wp_getIv (v := nI nc) (ck_get kk_Mc_orders 40 rfl) fl_Mc_234 (by assumption) (e0) ?_
      first | refine wp_icmp_geN (t := 213) (ck_get kk_Mc_orders 41 rfl) (by decide) (by omega) (by omega) (fun hc78 => ?_) (fun hc78 => ?_) | refine wp_icmp_ge (t := 213) (ck_get kk_Mc_orders 41 rfl) (by decide) (fun hc78 => ?_) (fun hc78 => ?_)
      · omega
      · refine wp_iconst (v := nI 0) (by decide) (ck_get kk_Mc_orders 42 rfl) ?_
        refine wp_istore (ck_get kk_Mc_orders 43 rfl) (by decide) rfl ?_
        exact hin
    · intro s2 W2 y5 y6 q1 q2
      have hok2 : OOK s2 (B + 63360 * (n + 1)) := (oR_ok hRes hc1 _ s s2 _ hok (by omega) q1).le (by omega)
      have hR2 : oAll res md salt (mI M 932) cn (fun m k => mI M (925 + k) m) d (n + 1) s2 = R := by
        rw [← hR]
        refine (oAll_go ?_).symm
        show oR res md salt (mI M 932) cn (fun k => mI M (925 + k) n) (mI M (925 + 2) n).toNatClampNeg s = some s2
        rw [hc2]; exact q1
      have hih := ih (n + 1) s2 W2 y5 y6 (by omega) q2 hok2 hR2
      first | refine wp_iincN (ck_get kk_Mc_orders 101 rfl) rfl (by decide) rfl ?_ | refine wp_iinc (ck_get kk_Mc_orders 101 rfl) rfl (by decide) rfl ?_
      refine wp_goto (t := 66) (ck_get kk_Mc_orders 102 rfl) (by decide) ?_
      exact hih
    · intro s2 W2 y2 y3 y5 y6 q1 q2
      refine H2 n s2 W2 y2 y3 y5 y6 ?_ (by omega) q2
      rw [← hR]
      refine oAll_no ?_
      show oR res md salt (mI M 932) cn (fun k => mI M (925 + k) n) (mI M (925 + 2) n).toNatClampNeg s = none
      rw [hc2]; exact q1
end COS

/-! ===== MissCurves$Judge: weigh, its contract ===== -/
theorem wg_step {P : Nat → Nat → Int32} {cl : Nat} {V : Nat → Int32} {n : Nat} {c2 b2 : Int32} (hc : P 3 n = -1 ∨ ev0 (P 7) cl V 6 (P 3 n).toNatClampNeg = 1) (h1 : P 1 n = nI 5 → c2 = (wgF P cl V n).1 ∧ b2 = nI 1)
    (h2 : ¬ P 1 n = nI 5 → b2 = (wgF P cl V n).2 ∧ c2 = if ev0 (P 7) cl V 6 (P 4 n).toNatClampNeg = brk then (wgF P cl V n).1 else clmp (ev0 (P 7) cl V 6 (P 4 n).toNatClampNeg)) : wgF P cl V (n + 1) = (c2, b2) := by
  rw [wgF, if_pos hc]
  by_cases h5 : P 1 n = nI 5
  · obtain ⟨q1, q2⟩ := h1 h5
    rw [if_pos h5, q1, q2]
  · obtain ⟨q1, q2⟩ := h2 h5
    rw [if_neg h5, q1, q2]
    by_cases hb : ev0 (P 7) cl V 6 (P 4 n).toNatClampNeg = brk
    · rw [if_pos hb, if_pos hb]
    · rw [if_neg hb, if_neg hb]
section WI
variable {g : Gl} {M : Mem} {j p h wd tn cl cn nc : Nat} {V : Nat → Int32} {x4 x5 : Option Value}
theorem l_wg97 {x1 x3 : Option Value} (hJ : JuAt (mT M) (mR M) j) (hP : PrAt (mT M) (mR M) p cn) (h8 : mI M p 8 = nI cl) (hcl : cl ≤ cn) (hcn : cn ≤ 1024) (hd : p + 8 ≤ j ∨ j + 4 ≤ p) (h0 : mI M p 0 = nI nc) (hL : LawOK (fun k => mI M (p + k)) cl nc) :
    ∀ k n, nc = n + k → ∀ (S : Nat → Int64) (y8 y9 : Option Value), Wp g Y_Ju_weigh 2 97 [some (.ref j), x1, some (.ref p), x3, x4, x5, some (.ref tn), some (.int (nI n)), y8, y9] [] (wgM M j V (wgF (fun k => mI M (p + k)) cl V n).1 (wgF (fun k => mI M (p + k)) cl V n).2 S) (fun r M2 => r = none ∧ ∃ S2, M2 = wgM M j V (wgF (fun k => mI M (p + k)) cl V nc).1 (wgF (fun k => mI M (p + k)) cl V nc).2 S2) := by
  have hJ0 := hJ
  have hP0 := hP
  obtain ⟨tj0, rj2, tj1, rj3, tj2, rj4, tj3⟩ := hJ
  obtain ⟨tp0, rpk, tpk, tp7⟩ := hP
  have rp3 := rpk 3 (by omega) (by omega)
  have tp3 := tpk 3 (by omega) (by omega)
  obtain ⟨hnc, hC, hcs⟩ := hL
  intro k
  induction k with
  | zero =>
    intro n h1 S y8 y9
    refine wp_iload rfl (ck_get kk_Ju_weigh 55 rfl) ?_
    refine wp_aload_n rfl (ck_get kk_Ju_weigh 56 rfl) ?_
    refine wp_getIv (v := nI nc) (ck_get kk_Ju_weigh 57 rfl) fl_Ju_59 (by assumption) (by rw [show mI (wgM M j V _ _ S) p = mI M p from wgM_p (k := 0) hd (by omega)]; exact h0) ?_
    first | refine wp_icmp_geN (t := 210) (ck_get kk_Ju_weigh 58 rfl) (by decide) (by omega) (by omega) (fun hc103 => ?_) (fun hc103 => ?_) | refine wp_icmp_ge (t := 210) (ck_get kk_Ju_weigh 58 rfl) (by decide) (fun hc103 => ?_) (fun hc103 => ?_)
    · refine wp_return (ck_get kk_Ju_weigh 112 rfl) rfl ⟨rfl, ?_⟩
      subst h1; exact ⟨S, rfl⟩
    · omega
  | succ k ih =>
    intro n h1 S y8 y9
    obtain ⟨hts, hks⟩ := hcs n (by omega)
    rcases hts with ht | ⟨t, ht1, ht2, ht3⟩
    · skip
      refine wp_iload rfl (ck_get kk_Ju_weigh 55 rfl) ?_
      refine wp_aload_n rfl (ck_get kk_Ju_weigh 56 rfl) ?_
      refine wp_getIv (v := nI nc) (ck_get kk_Ju_weigh 57 rfl) fl_Ju_59 (by assumption) (by rw [show mI (wgM M j V _ _ S) p = mI M p from wgM_p (k := 0) hd (by omega)]; exact h0) ?_
      first | refine wp_icmp_geN (t := 210) (ck_get kk_Ju_weigh 58 rfl) (by decide) (by omega) (by omega) (fun hc103 => ?_) (fun hc103 => ?_) | refine wp_icmp_ge (t := 210) (ck_get kk_Ju_weigh 58 rfl) (by decide) (fun hc103 => ?_) (fun hc103 => ?_)
      · omega
      · refine wp_aload_n rfl (ck_get kk_Ju_weigh 59 rfl) ?_
        refine wp_getR (ck_get kk_Ju_weigh 60 rfl) fl_Ju_64 (by assumption) (by assumption) ?_
        refine wp_iload rfl (ck_get kk_Ju_weigh 61 rfl) ?_
        refine wp_ialdv (v := (-1)) (ck_get kk_Ju_weigh 62 rfl) (by assumption) (by first | assumption | exact ixk_nI (by omega) (by omega)) (by rw [wgM_p hd (by omega)]; exact ht) ?_
        refine wp_iconst (v := (-1)) (by decide) (ck_get kk_Ju_weigh 63 rfl) ?_
        first | refine wp_icmp_eqN (t := 141) (ck_get kk_Ju_weigh 64 rfl) (by decide) (by omega) (by omega) (fun hc114 => ?_) (fun hc114 => ?_) | refine wp_icmp_eq (t := 141) (ck_get kk_Ju_weigh 64 rfl) (by decide) (fun hc114 => ?_) (fun hc114 => ?_)
        · refine l_wg141 hJ0 hP0 h8 hcl hcn hd (by omega) hC hks (fun c2 b2 S2 q1 q2 y8 y9 => ?_)
          have hw1 := wg_step (P := fun k => mI M (p + k)) (cl := cl) (V := V) (n := n) (Or.inl ht) q1 q2
          have hi1 := ih (n + 1) (by omega) S2 y8 y9
          rw [hw1] at hi1
          exact hi1
        · exact absurd rfl hc114
    · have ht3 : mI M (p + 3) n = nI t := ht3
      have hcl3 : (mI M (p + 3) n).toNatClampNeg = t := by rw [ht3]; exact nI_clamp (by omega)
      refine wp_iload rfl (ck_get kk_Ju_weigh 55 rfl) ?_
      refine wp_aload_n rfl (ck_get kk_Ju_weigh 56 rfl) ?_
      refine wp_getIv (v := nI nc) (ck_get kk_Ju_weigh 57 rfl) fl_Ju_59 (by assumption) (by rw [show mI (wgM M j V _ _ S) p = mI M p from wgM_p (k := 0) hd (by omega)]; exact h0) ?_
      first | refine wp_icmp_geN (t := 210) (ck_get kk_Ju_weigh 58 rfl) (by decide) (by omega) (by omega) (fun hc103 => ?_) (fun hc103 => ?_) | refine wp_icmp_ge (t := 210) (ck_get kk_Ju_weigh 58 rfl) (by decide) (fun hc103 => ?_) (fun hc103 => ?_)
      · omega
      · refine wp_aload_n rfl (ck_get kk_Ju_weigh 59 rfl) ?_
        refine wp_getR (ck_get kk_Ju_weigh 60 rfl) fl_Ju_64 (by assumption) (by assumption) ?_
        refine wp_iload rfl (ck_get kk_Ju_weigh 61 rfl) ?_
        refine wp_ialdv (v := nI t) (ck_get kk_Ju_weigh 62 rfl) (by assumption) (by first | assumption | exact ixk_nI (by omega) (by omega)) (by rw [wgM_p hd (by omega)]; exact ht3) ?_
        refine wp_iconst (v := (-1)) (by decide) (ck_get kk_Ju_weigh 63 rfl) ?_
        first | refine wp_icmp_eqN (t := 141) (ck_get kk_Ju_weigh 64 rfl) (by decide) (by omega) (by omega) (fun hc114 => ?_) (fun hc114 => ?_) | refine wp_icmp_eq (t := 141) (ck_get kk_Ju_weigh 64 rfl) (by decide) (fun hc114 => ?_) (fun hc114 => ?_)
        · exact absurd hc114 (nI_nem1 (by omega))
        · refine wp_aload_n rfl (ck_get kk_Ju_weigh 65 rfl) ?_
          refine wp_aload_n rfl (ck_get kk_Ju_weigh 66 rfl) ?_
          refine wp_aload_n rfl (ck_get kk_Ju_weigh 67 rfl) ?_
          refine wp_getR (ck_get kk_Ju_weigh 68 rfl) fl_Ju_64 (by assumption) (by assumption) ?_
          refine wp_iload rfl (ck_get kk_Ju_weigh 69 rfl) ?_
          refine wp_ialdv (v := nI t) (ck_get kk_Ju_weigh 70 rfl) (by assumption) (by first | assumption | exact ixk_nI (by omega) (by omega)) (by rw [wgM_p hd (by omega)]; exact ht3) ?_
          refine wp_aload_n rfl (ck_get kk_Ju_weigh 71 rfl) ?_
          refine wp_getR (ck_get kk_Ju_weigh 72 rfl) fl_Ju_23 (by assumption) (by assumption) ?_
          refine wp_cV3l (ck_get kk_Ju_weigh 73 rfl) ml_Ju_67 (by omega) (Nat.le_of_ble_eq_true rfl) (by assumption) (Cl.to (c_eval0 (cl := cl) (cn := cn) (vn := 6) (fr := t) (by exact hJ0) (by exact hP0) (by rw [show mI (wgM M j V _ _ S) p = mI M p from wgM_p (k := 0) hd (by omega)]; exact h8) hcl hcn (by exact tj2) (by omega) (by rw [wgM_p hd (by omega)]; exact hC) ht2 ht1) ?_)
          rintro x2 N2 ⟨hx2, S2, rfl⟩
          rw [wgM_s]
          rw [wgM_p hd (by omega), wgM_w] at hx2
          refine wp_lconst (v := 1) (by decide) (ck_get kk_Ju_weigh 74 rfl) ?_
          refine wp_lcmp (ck_get kk_Ju_weigh 75 rfl) ?_
          refine wp_if_eq (t := 141) (ck_get kk_Ju_weigh 76 rfl) (by decide) (fun hc135 => ?_) (fun hc135 => ?_)
          · have hone : x2 = 1 := (lcmp_eq _ _).mp hc135
            refine l_wg141 hJ0 hP0 h8 hcl hcn hd (by omega) hC hks (fun c2 b2 S3 q1 q2 y8 y9 => ?_)
            have hw1 := wg_step (P := fun k => mI M (p + k)) (cl := cl) (V := V) (n := n) (Or.inr (show ev0 (mI M (p + 7)) cl V 6 (mI M (p + 3) n).toNatClampNeg = 1 by rw [hcl3, ← hx2, hone])) q1 q2
            have hi1 := ih (n + 1) (by omega) S3 y8 y9
            rw [hw1] at hi1
            exact hi1
          · refine wp_goto (t := 204) (ck_get kk_Ju_weigh 77 rfl) (by decide) ?_
            have hone : ¬ x2 = 1 := fun hh => hc135 ((lcmp_eq _ _).mpr hh)
            refine l_wg204 (fun y8 y9 => ?_)
            have hw1 : wgF (fun k => mI M (p + k)) cl V (n + 1) = wgF (fun k => mI M (p + k)) cl V n := by
              rw [wgF, if_neg (fun hh => ?_)]
              rcases hh with hh | hh
              · exact absurd (ht3.symm.trans hh) (nI_nem1 (by omega))
              · exact hone (by rw [hx2, ← hcl3]; exact hh)
            have hi1 := ih (n + 1) (by omega) S2 y8 y9
            rw [hw1] at hi1
            exact hi1
/-- the words of a law about a read -/
def lwV (f : Nat → Int32) (t key reads far time mood : Int32) : Nat → Int32 := up1 (up1 (up1 (up1 (up1 (up1 f 0 t) 1 key) 2 reads) 3 far) 4 time) 5 mood
theorem c_weighN {t : Nat} {key : Int32} (hJ : JuAt (mT M) (mR M) j) : Cv g Y_Ju_weigh 2 [.ref j, .ref h, .null, .ref wd, .int (nI t), .int key] M (fun M2 => M2 = sI (sI M j 0 (nI 1)) j 1 (nI 0)) := by
  obtain ⟨tj0, rj2, tj1, rj3, tj2, rj4, tj3⟩ := hJ
  refine cw_entry 4 pf_Ju_weigh rfl ?_
  refine wp_aload_n rfl (ck_get kk_Ju_weigh 0 rfl) ?_
  refine wp_iconst (v := nI 1) (by decide) (ck_get kk_Ju_weigh 1 rfl) ?_
  refine wp_putI (ck_get kk_Ju_weigh 2 rfl) fl_Ju_9 (by decide +kernel) (by assumption) (okI_int _) ?_
  refine wp_aload_n rfl (ck_get kk_Ju_weigh 3 rfl) ?_
  refine wp_iconst (v := nI 0) (by decide) (ck_get kk_Ju_weigh 4 rfl) ?_
  refine wp_putI (ck_get kk_Ju_weigh 5 rfl) fl_Ju_15 (by decide +kernel) (by assumption) (by first | exact okI_b0 | exact okI_b1) ?_
  refine wp_aload_nN rfl (ck_get kk_Ju_weigh 6 rfl) ?_
  refine wp_ifnonnullN (ck_get kk_Ju_weigh 7 rfl) ?_
  refine wp_return (ck_get kk_Ju_weigh 8 rfl) rfl ⟨rfl, ?_⟩
  rfl
theorem c_weigh {t sn rn : Nat} {key : Int32} (hJ : JuAt (mT M) (mR M) j) (hP : PrAt (mT M) (mR M) p cn) (h8 : mI M p 8 = nI cl) (hcl : cl ≤ cn) (hcn : cn ≤ 1024) (hd : p + 8 ≤ j ∨ j + 4 ≤ p) (h0 : mI M p 0 = nI nc) (hL : LawOK (fun k => mI M (p + k)) cl nc) (hS : mT M h = (6, 0)) (hW : WoAt (mT M) (mR M) wd) (hdw : wd + 26 ≤ j ∨ j + 4 ≤ wd) (hdh : h < j ∨ j + 4 ≤ h) (ht : t < 4) (hsn : mI M (wd + 2 + 6 * t) 1 = nI sn) (hsn2 : sn ≤ 24) (hrn : mI M (wd + 2 + 6 * t) 8 = nI rn) (hrn2 : rn ≤ 32) :
    Cv g Y_Ju_weigh 2 [.ref j, .ref h, .ref p, .ref wd, .int (nI t), .int key] M (fun M2 => ∃ V S2, V = lwV (mI M (j + 2)) (nI t) key (nI (cntI (mI M (wd + 2 + 6 * t + 5)) key rn)) (nI (fnd (mI M (wd + 2 + 6 * t + 1)) sn key)) (mI M wd 1) (mI M h 3) ∧ M2 = wgM M j V (wgF (fun k => mI M (p + k)) cl V nc).1 (wgF (fun k => mI M (p + k)) cl V nc).2 S2) := by
  have hJ0 := hJ
  have hP0 := hP
  obtain ⟨tj0, rj2, tj1, rj3, tj2, rj4, tj3⟩ := hJ
  obtain ⟨tw0, rw0, tw1, hwt⟩ := hW
  obtain ⟨rwt, hTe⟩ := hwt t ht
  have hTe0 := hTe
  obtain ⟨t0, r0, r2, r3, r6, r7, t1, t2, t3, t4, t5⟩ := hTe
  refine cw_entry 4 pf_Ju_weigh rfl ?_
  have hfr : ∀ (x : Nat) (v0 v1 : Int32) (f2 : Nat → Int32), x < j ∨ j + 4 ≤ x → mI (mk2 M (up1 (up2 (up2 (mI M) j 0 v0) j 1 v1) (j + 2) f2) (mJ M)) x = mI M x := by
    intro x v0 v1 f2 hx
    show up1 (up2 (up2 (mI M) j 0 v0) j 1 v1) (j + 2) f2 x = mI M x
    rw [up1_ne (by omega), up2_up1, up1_ne (by omega), up2_up1, up1_ne (by omega)]
  have hnorm : ∀ (v0 v1 : Int32) (f2 : Nat → Int32) (q : Nat) (v : Int32), up2 (up1 (up2 (up2 (mI M) j 0 v0) j 1 v1) (j + 2) f2) (j + 2) q v = up1 (up2 (up2 (mI M) j 0 v0) j 1 v1) (j + 2) (up1 f2 q v) := by
    intro v0 v1 f2 q v
    rw [up2_up1, up1_eq, up1_up1]
  have hfst : up2 (up2 (mI M) j 0 (nI 1)) j 1 (nI 0) = up1 (up2 (up2 (mI M) j 0 (nI 1)) j 1 (nI 0)) (j + 2) (mI M (j + 2)) := (up1_id (by rw [up2_up1, up1_ne (by omega), up2_up1, up1_ne (by omega)])).symm
  refine wp_aload_n rfl (ck_get kk_Ju_weigh 0 rfl) ?_
  refine wp_iconst (v := nI 1) (by decide) (ck_get kk_Ju_weigh 1 rfl) ?_
  refine wp_putI (ck_get kk_Ju_weigh 2 rfl) fl_Ju_9 (by decide +kernel) (by assumption) (okI_int _) ?_
  refine wp_aload_n rfl (ck_get kk_Ju_weigh 3 rfl) ?_
  refine wp_iconst (v := nI 0) (by decide) (ck_get kk_Ju_weigh 4 rfl) ?_
  refine wp_putI (ck_get kk_Ju_weigh 5 rfl) fl_Ju_15 (by decide +kernel) (by assumption) (by first | exact okI_b0 | exact okI_b1) ?_
  refine wp_aload_n rfl (ck_get kk_Ju_weigh 6 rfl) ?_
  refine wp_ifnonnull (t := 15) (ck_get kk_Ju_weigh 7 rfl) (by decide) ?_
  rw [show sI (sI M j 0 (nI 1)) j 1 (nI 0) = mk2 M (up1 (up2 (up2 (mI M) j 0 (nI 1)) j 1 (nI 0)) (j + 2) (mI M (j + 2))) (mJ M) from congrArg (fun I => mk2 M I (mJ M)) hfst]
  refine wp_aload_n rfl (ck_get kk_Ju_weigh 9 rfl) ?_
  refine wp_getR (ck_get kk_Ju_weigh 10 rfl) fl_Ju_30 (by assumption) (by assumption) ?_
  refine wp_iload rfl (ck_get kk_Ju_weigh 11 rfl) ?_
  refine wp_aald (ck_get kk_Ju_weigh 12 rfl) (by assumption) (by first | assumption | exact ixk_nI (by omega) (by omega)) (by assumption) ?_
  refine wp_astore (ck_get kk_Ju_weigh 13 rfl) (by decide) rfl ?_
  refine wp_aload_n rfl (ck_get kk_Ju_weigh 14 rfl) ?_
  refine wp_getR (ck_get kk_Ju_weigh 15 rfl) fl_Ju_23 (by assumption) (by assumption) ?_
  refine wp_iconst (v := nI 0) (by decide) (ck_get kk_Ju_weigh 16 rfl) ?_
  refine wp_iload rfl (ck_get kk_Ju_weigh 17 rfl) ?_
  refine wp_iast (ck_get kk_Ju_weigh 18 rfl) (by assumption) (by first | assumption | exact ixk_nI (by omega) (by omega)) ?_
  rw [show sI (mk2 M (up1 (up2 (up2 (mI M) j 0 (nI 1)) j 1 (nI 0)) (j + 2) (mI M (j + 2))) (mJ M)) (j + 2) 0 (nI t) = mk2 M _ (mJ M) from congrArg (fun I => mk2 M I (mJ M)) (hnorm _ _ _ _ _)]
  refine wp_aload_n rfl (ck_get kk_Ju_weigh 19 rfl) ?_
  refine wp_getR (ck_get kk_Ju_weigh 20 rfl) fl_Ju_23 (by assumption) (by assumption) ?_
  refine wp_iconst (v := nI 1) (by decide) (ck_get kk_Ju_weigh 21 rfl) ?_
  refine wp_iload rfl (ck_get kk_Ju_weigh 22 rfl) ?_
  refine wp_iast (ck_get kk_Ju_weigh 23 rfl) (by assumption) (by first | assumption | exact ixk_nI (by omega) (by omega)) ?_
  rw [show sI (mk2 M (up1 (up2 (up2 (mI M) j 0 (nI 1)) j 1 (nI 0)) (j + 2) _) (mJ M)) (j + 2) 1 key = mk2 M _ (mJ M) from congrArg (fun I => mk2 M I (mJ M)) (hnorm _ _ _ _ _)]
  refine wp_aload_n rfl (ck_get kk_Ju_weigh 24 rfl) ?_
  refine wp_getR (ck_get kk_Ju_weigh 25 rfl) fl_Ju_23 (by assumption) (by assumption) ?_
  refine wp_iconst (v := nI 2) (by decide) (ck_get kk_Ju_weigh 26 rfl) ?_
  refine wp_aload rfl (ck_get kk_Ju_weigh 27 rfl) ?_
  refine wp_iload rfl (ck_get kk_Ju_weigh 28 rfl) ?_
  refine wp_cV1i (ck_get kk_Ju_weigh 29 rfl) ml_Ju_36 (by omega) (Nat.le_of_ble_eq_true rfl) (by assumption) (Ci.to (c_timesRecorded (a := wd + 2 + 6 * t) (rn := rn) (by exact hTe0) (by rw [hfr _ _ _ _ (by omega)]; exact hrn) hrn2) ?_)
  rintro x2 N2 ⟨hx2, hn2⟩
  obtain rfl := hn2.symm
  rw [hfr _ _ _ _ (by omega)] at hx2
  subst hx2
  refine wp_iast (ck_get kk_Ju_weigh 30 rfl) (by assumption) (by first | assumption | exact ixk_nI (by omega) (by omega)) ?_
  rw [show sI (mk2 M (up1 (up2 (up2 (mI M) j 0 (nI 1)) j 1 (nI 0)) (j + 2) _) (mJ M)) (j + 2) 2 _ = mk2 M _ (mJ M) from congrArg (fun I => mk2 M I (mJ M)) (hnorm _ _ _ _ _)]
  refine wp_aload_n rfl (ck_get kk_Ju_weigh 31 rfl) ?_
  refine wp_getR (ck_get kk_Ju_weigh 32 rfl) fl_Ju_23 (by assumption) (by assumption) ?_
  refine wp_iconst (v := nI 3) (by decide) (ck_get kk_Ju_weigh 33 rfl) ?_
  refine wp_aload rfl (ck_get kk_Ju_weigh 34 rfl) ?_
  refine wp_getR (ck_get kk_Ju_weigh 35 rfl) fl_Ju_42 (by assumption) (by assumption) ?_
  refine wp_aload rfl (ck_get kk_Ju_weigh 36 rfl) ?_
  refine wp_getIv (v := nI sn) (ck_get kk_Ju_weigh 37 rfl) fl_Ju_44 (by assumption) (by rw [hfr _ _ _ _ (by omega)]; exact hsn) ?_
  refine wp_iload rfl (ck_get kk_Ju_weigh 38 rfl) ?_
  refine wp_cSN3i (ck_get kk_Ju_weigh 39 rfl) ml_Ju_47 (by omega) (Nat.le_of_ble_eq_true rfl) (Ci.to (c_placeIn (len := 24) (sz := sn) (by exact t1) hsn2 (by decide)) ?_)
  rintro x3 N3 ⟨hx3, hn3⟩
  obtain rfl := hn3.symm
  rw [hfr _ _ _ _ (by omega)] at hx3
  subst hx3
  refine wp_iast (ck_get kk_Ju_weigh 40 rfl) (by assumption) (by first | assumption | exact ixk_nI (by omega) (by omega)) ?_
  rw [show sI (mk2 M (up1 (up2 (up2 (mI M) j 0 (nI 1)) j 1 (nI 0)) (j + 2) _) (mJ M)) (j + 2) 3 _ = mk2 M _ (mJ M) from congrArg (fun I => mk2 M I (mJ M)) (hnorm _ _ _ _ _)]
  refine wp_aload_n rfl (ck_get kk_Ju_weigh 41 rfl) ?_
  refine wp_getR (ck_get kk_Ju_weigh 42 rfl) fl_Ju_23 (by assumption) (by assumption) ?_
  refine wp_iconst (v := nI 4) (by decide) (ck_get kk_Ju_weigh 43 rfl) ?_
  refine wp_aload_n rfl (ck_get kk_Ju_weigh 44 rfl) ?_
  refine wp_getIv (v := mI M wd 1) (ck_get kk_Ju_weigh 45 rfl) fl_Ju_51 (by assumption) (by rw [hfr _ _ _ _ (by omega)]) ?_
  refine wp_iast (ck_get kk_Ju_weigh 46 rfl) (by assumption) (by first | assumption | exact ixk_nI (by omega) (by omega)) ?_
  rw [show sI (mk2 M (up1 (up2 (up2 (mI M) j 0 (nI 1)) j 1 (nI 0)) (j + 2) _) (mJ M)) (j + 2) 4 _ = mk2 M _ (mJ M) from congrArg (fun I => mk2 M I (mJ M)) (hnorm _ _ _ _ _)]
  refine wp_aload_n rfl (ck_get kk_Ju_weigh 47 rfl) ?_
  refine wp_getR (ck_get kk_Ju_weigh 48 rfl) fl_Ju_23 (by assumption) (by assumption) ?_
  refine wp_iconst (v := nI 5) (by decide) (ck_get kk_Ju_weigh 49 rfl) ?_
  refine wp_aload_n rfl (ck_get kk_Ju_weigh 50 rfl) ?_
  refine wp_getIv (v := mI M h 3) (ck_get kk_Ju_weigh 51 rfl) fl_Ju_54 (by assumption) (by rw [hfr _ _ _ _ (by omega)]) ?_
  refine wp_iast (ck_get kk_Ju_weigh 52 rfl) (by assumption) (by first | assumption | exact ixk_nI (by omega) (by omega)) ?_
  rw [show sI (mk2 M (up1 (up2 (up2 (mI M) j 0 (nI 1)) j 1 (nI 0)) (j + 2) _) (mJ M)) (j + 2) 5 _ = mk2 M _ (mJ M) from congrArg (fun I => mk2 M I (mJ M)) (hnorm _ _ _ _ _)]
  refine wp_iconst (v := nI 0) (by decide) (ck_get kk_Ju_weigh 53 rfl) ?_
  refine wp_istore (ck_get kk_Ju_weigh 54 rfl) (by decide) rfl ?_
  have hme : wgM M j (lwV (mI M (j + 2)) (nI t) key (nI (cntI (mI M (wd + 2 + 6 * t + 5)) key rn)) (nI (fnd (mI M (wd + 2 + 6 * t + 1)) sn key)) (mI M wd 1) (mI M h 3)) (nI 1) (nI 0) (mJ M (j + 3)) = mk2 M (up1 (up2 (up2 (mI M) j 0 (nI 1)) j 1 (nI 0)) (j + 2) (lwV (mI M (j + 2)) (nI t) key (nI (cntI (mI M (wd + 2 + 6 * t + 5)) key rn)) (nI (fnd (mI M (wd + 2 + 6 * t + 1)) sn key)) (mI M wd 1) (mI M h 3))) (mJ M) := by
    rw [wgM, up1_self, up2_up1 (up2 (mI M) j 0 (nI 1)), up2_up1 (mI M), up1_eq, up1_up1, up1_comm (mI M) (show j + 2 ≠ j by omega)]
  have hx : Wp g Y_Ju_weigh 2 97 [some (.ref j), some (.ref h), some (.ref p), some (.ref wd), some (.int (nI t)), some (.int key), some (.ref (wd + 2 + 6 * t)), some (.int (nI 0)), none, none] [] (wgM M j (lwV (mI M (j + 2)) (nI t) key (nI (cntI (mI M (wd + 2 + 6 * t + 5)) key rn)) (nI (fnd (mI M (wd + 2 + 6 * t + 1)) sn key)) (mI M wd 1) (mI M h 3)) (nI 1) (nI 0) (mJ M (j + 3))) _ := l_wg97 (V := (lwV (mI M (j + 2)) (nI t) key (nI (cntI (mI M (wd + 2 + 6 * t + 5)) key rn)) (nI (fnd (mI M (wd + 2 + 6 * t + 1)) sn key)) (mI M wd 1) (mI M h 3))) hJ0 hP0 h8 hcl hcn hd h0 hL nc 0 (by omega) (mJ M (j + 3)) none none
  rw [hme] at hx
  refine Wp.mono hx ?_
  rintro r M2 ⟨hr1, S2, hr2⟩
  exact ⟨hr1, _, S2, rfl, hr2⟩
end WI

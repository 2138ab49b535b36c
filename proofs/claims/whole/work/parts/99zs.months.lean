/-! ===== months, by the class ===== -/
section MON
variable {g : Gl} {M : Mem} {res : (Nat → Int32) → Int32 × Int32} {md salt : Nat}
theorem c_nextA {s : Int64} {x a : Nat} (ha : dw x = a) (hs : s.toInt = x) (hx : x ≤ 1000003) : Cl g Y_Mc_nextDraw 0 [.long s] M (fun v M2 => v.toInt = (a : Int) ∧ M2 = M) := by
  subst ha; exact c_nextDraw hs hx
theorem l_months {n B : Nat} {sd : Int32} {pf pg : Nat → Nat} (hL : LayC (mT M) (mR M) pf pg) (hN : ShN (mT M) (mR M) (mI M) res md salt) (hR : ResOK res) (hn : n ≤ 60) (hB : B < 1000000000) {R : Nat × WS} {Q : Option Value → Mem → Prop}
    (Kc : ∀ I J (lv : Int32) (x4 x6 x7 x8 x9 : Option Value), WoHas I J 895 R.2 → CFr 895 (mI M) (mJ M) I J → R.1 ≤ 60 → Wp g Y_Mc_months 300 195 [some (.ref 0), some (.int sd), some (.int (nI n)), some (.int (nI R.1)), x4, none, x6, x7, x8, x9] [] (mk2 M I J) Q) :
    ∀ (d i x cold : Nat) (ws : WS) (s : Int64) I J (x7 x8 x9 : Option Value), i + d = n → s.toInt = (x : Int) → x ≤ 1000003 → cold ≤ i → WOK ws → tot ws ≤ B + 99 * i → WoHas I J 895 ws → CFr 895 (mI M) (mJ M) I J → dmR res md salt d x cold ws R → Wp g Y_Mc_months 300 56 [some (.ref 0), some (.int sd), some (.int (nI n)), some (.int (nI cold)), some (.long s), none, some (.int (nI i)), x7, x8, x9] [] (mk2 M I J) Q := by
  obtain ⟨t0, ⟨r00, hSh⟩, -, -, -, ⟨r04, hWp⟩, -⟩ := id hL
  have t895 : mT M 895 = (9, 0) := hWp.1
  have r895 : mR M 895 0 = some 896 := hWp.2.1
  have t896 : mT M 896 = (24, 4) := hWp.2.2.1
  intro d
  induction d with
  | zero =>
    intro i x cold ws s I J x7 x8 x9 h1 hs hx hco hO hb hW hF hD
    have hD2 : R = (cold, ws) := hD
    subst hD2
    refine wp_iload rfl (ck_get kk_Mc_months 31 rfl) ?_
    refine wp_iload_n rfl (ck_get kk_Mc_months 32 rfl) ?_
    first | refine wp_icmp_geN (t := 195) (ck_get kk_Mc_months 33 rfl) (by decide) (by omega) (by omega) (fun hc59 => ?_) (fun hc59 => ?_) | refine wp_icmp_ge (t := 195) (ck_get kk_Mc_months 33 rfl) (by decide) (fun hc59 => ?_) (fun hc59 => ?_)
    · exact Kc I J sd _ _ _ _ _ hW hF (by show cold ≤ 60; omega)
    · omega
  | succ d ih =>
    intro i x cold ws s I J x7 x8 x9 h1 hs hx hco hO hb hW hF hD
    have e1 : I 895 1 = nI ws.1 := hW.1
    have h999 := hO.1
    rcases hD with ⟨hD1, hD2⟩ | ⟨hD1, a, b, c, ha, hb', hc', hD2⟩
    · subst hD2
      refine wp_iload rfl (ck_get kk_Mc_months 31 rfl) ?_
      refine wp_iload_n rfl (ck_get kk_Mc_months 32 rfl) ?_
      first | refine wp_icmp_geN (t := 195) (ck_get kk_Mc_months 33 rfl) (by decide) (by omega) (by omega) (fun hc59 => ?_) (fun hc59 => ?_) | refine wp_icmp_ge (t := 195) (ck_get kk_Mc_months 33 rfl) (by decide) (fun hc59 => ?_) (fun hc59 => ?_)
      · omega
      · refine wp_aload_n rfl (ck_get kk_Mc_months 34 rfl) ?_
        refine wp_getR (ck_get kk_Mc_months 35 rfl) fl_Mc_33 (by assumption) (by assumption) ?_
        refine wp_getIv (v := nI ws.1) (ck_get kk_Mc_months 36 rfl) fl_Mc_369 (by assumption) (e1) ?_
        refine wp_sipush (v := nI 999) (by decide) (ck_get kk_Mc_months 37 rfl) ?_
        first | refine wp_icmp_geN (t := 195) (ck_get kk_Mc_months 38 rfl) (by decide) (by omega) (by omega) (fun hc72 => ?_) (fun hc72 => ?_) | refine wp_icmp_ge (t := 195) (ck_get kk_Mc_months 38 rfl) (by decide) (fun hc72 => ?_) (fun hc72 => ?_)
        · exact Kc I J sd _ _ _ _ _ hW hF (by show cold ≤ 60; omega)
        · omega
    · have da : a < 1000003 := by rw [← ha]; exact dw_lt x
      have db : b < 1000003 := by rw [← hb']; exact dw_lt a
      have dc : c < 1000003 := by rw [← hc']; exact dw_lt b
      have q1 := fun {M : Mem} => c_nextA (g := g) (M := M) ha hs hx
      have q2 := fun {M : Mem} {v : Int64} (hv : v.toInt = (a : Int)) => c_nextA (g := g) (M := M) hb' hv (by omega)
      have q3 := fun {M : Mem} {v : Int64} (hv : v.toInt = (b : Int)) => c_nextA (g := g) (M := M) hc' hv (by omega)
      clear ha hb' hc'
      have hok := daW_ok (res := res) (md := md) (salt := salt) (w := c % 8) hR hO (show a % 4 < 4 by omega) (show b % 20 < 1000 by omega) hD1
      have hN2 : ShN (mT M) (mR M) I res md salt := hN.kept (hF 1 (by omega) (by omega)).1 (fun x hx => (hF x (by omega) (by omega)).1)
      refine wp_iload rfl (ck_get kk_Mc_months 31 rfl) ?_
      refine wp_iload_n rfl (ck_get kk_Mc_months 32 rfl) ?_
      first | refine wp_icmp_geN (t := 195) (ck_get kk_Mc_months 33 rfl) (by decide) (by omega) (by omega) (fun hc59 => ?_) (fun hc59 => ?_) | refine wp_icmp_ge (t := 195) (ck_get kk_Mc_months 33 rfl) (by decide) (fun hc59 => ?_) (fun hc59 => ?_)
      · omega
      · refine wp_aload_n rfl (ck_get kk_Mc_months 34 rfl) ?_
        refine wp_getR (ck_get kk_Mc_months 35 rfl) fl_Mc_33 (by assumption) (by assumption) ?_
        refine wp_getIv (v := nI ws.1) (ck_get kk_Mc_months 36 rfl) fl_Mc_369 (by assumption) (e1) ?_
        refine wp_sipush (v := nI 999) (by decide) (ck_get kk_Mc_months 37 rfl) ?_
        first | refine wp_icmp_geN (t := 195) (ck_get kk_Mc_months 38 rfl) (by decide) (by omega) (by omega) (fun hc72 => ?_) (fun hc72 => ?_) | refine wp_icmp_ge (t := 195) (ck_get kk_Mc_months 38 rfl) (by decide) (fun hc72 => ?_) (fun hc72 => ?_)
        · omega
        · refine wp_lload rfl (ck_get kk_Mc_months 39 rfl) ?_
          refine wp_cS1l (ck_get kk_Mc_months 40 rfl) ml_Mc_372 (by omega) (Nat.le_of_ble_eq_true rfl) (Cl.to (q1) ?_)
          rintro v1 M1 ⟨hv1, rfl⟩
          refine wp_lstore (ck_get kk_Mc_months 41 rfl) (by decide) rfl ?_
          refine wp_lload rfl (ck_get kk_Mc_months 42 rfl) ?_
          refine wp_ldc2 kl_Mc_376 (ck_get kk_Mc_months 43 rfl) ?_
          refine wp_lrem (by decide) (ck_get kk_Mc_months 44 rfl) ?_
          refine wp_l2i (ck_get kk_Mc_months 45 rfl) ?_
          rw [show (v1 - v1 / 4 * 4).toInt32 = nI (a % 4) from l2i_nat (lrem_nat (x := a) (y := 4) hv1 (by decide) (by omega) (by omega)) (by omega)]
          refine wp_istore (ck_get kk_Mc_months 46 rfl) (by decide) rfl ?_
          refine wp_lload rfl (ck_get kk_Mc_months 47 rfl) ?_
          refine wp_cS1l (ck_get kk_Mc_months 48 rfl) ml_Mc_372 (by omega) (Nat.le_of_ble_eq_true rfl) (Cl.to (q2 hv1) ?_)
          rintro v2 M1 ⟨hv2, rfl⟩
          refine wp_lstore (ck_get kk_Mc_months 49 rfl) (by decide) rfl ?_
          refine wp_lload rfl (ck_get kk_Mc_months 50 rfl) ?_
          refine wp_ldc2 kl_Mc_378 (ck_get kk_Mc_months 51 rfl) ?_
          refine wp_lrem (by decide) (ck_get kk_Mc_months 52 rfl) ?_
          refine wp_l2i (ck_get kk_Mc_months 53 rfl) ?_
          rw [show (v2 - v2 / 20 * 20).toInt32 = nI (b % 20) from l2i_nat (lrem_nat (x := b) (y := 20) hv2 (by decide) (by omega) (by omega)) (by omega)]
          refine wp_istore (ck_get kk_Mc_months 54 rfl) (by decide) rfl ?_
          refine wp_lload rfl (ck_get kk_Mc_months 55 rfl) ?_
          refine wp_cS1l (ck_get kk_Mc_months 56 rfl) ml_Mc_372 (by omega) (Nat.le_of_ble_eq_true rfl) (Cl.to (q3 hv2) ?_)
          rintro v3 M1 ⟨hv3, rfl⟩
          refine wp_lstore (ck_get kk_Mc_months 57 rfl) (by decide) rfl ?_
          refine wp_lload rfl (ck_get kk_Mc_months 58 rfl) ?_
          refine wp_ldc2 kl_Mc_380 (ck_get kk_Mc_months 59 rfl) ?_
          refine wp_lrem (by decide) (ck_get kk_Mc_months 60 rfl) ?_
          refine wp_l2i (ck_get kk_Mc_months 61 rfl) ?_
          rw [show (v3 - v3 / 8 * 8).toInt32 = nI (c % 8) from l2i_nat (lrem_nat (x := c) (y := 8) hv3 (by decide) (by omega) (by omega)) (by omega)]
          refine wp_istore (ck_get kk_Mc_months 62 rfl) (by decide) rfl ?_
          clear q1 q2 q3
          generalize ht : a % 4 = t at hok hD2 ⊢
          generalize hk : b % 20 = k at hok hD2 ⊢
          generalize hw : c % 8 = w at hok hD2 ⊢
          have t4 : t < 4 := by omega
          have k20 : k < 20 := by omega
          have w8 : w < 8 := by omega
          have rTe : mR M 896 t = some (895 + 2 + 6 * t) := (hWp.2.2.2 t t4).1
          have hTA : TeAt (mT M) (mR M) (895 + 2 + 6 * t) := (hWp.2.2.2 t t4).2
          have tTe := hTA.1
          have hnx : ∀ (I2 : Nat → Nat → Int32) (J2 : Nat → Nat → Int64) (z8 z9 : Option Value), WoHas I2 J2 895 (daW res md salt ws t k w).2 → CFr 895 I J I2 J2 → Wp g Y_Mc_months 300 56 [some (.ref 0), some (.int sd), some (.int (nI n)), some (.int (nI (cold + (daW res md salt ws t k w).1))), some (.long v3), none, some (.int (nI (i + 1))), some (.int (nI t)), z8, z9] [] (mk2 M I2 J2) Q := fun I2 J2 z8 z9 p1 p2 => ih (i + 1) c (cold + (daW res md salt ws t k w).1) (daW res md salt ws t k w).2 v3 I2 J2 _ z8 z9 (by omega) hv3 (by omega) (by omega) hok.1 (by omega) p1 (hF.trans p2) hD2
          by_cases h6 : w < 6
          · have hrl := rxA_le (res := res) (md := md) (k := k) hO t4
            have ed : daW res md salt ws t k w = ((if rxA res md ws t k = 0 then 1 else 0), rdA res md salt ws t k) := by unfold daW; rw [if_pos h6]
            rw [ed] at hnx
            refine wp_iload rfl (ck_get kk_Mc_months 63 rfl) ?_
            refine wp_iconst (v := nI 5) (by decide) (ck_get kk_Mc_months 64 rfl) ?_
            first | refine wp_icmp_gtN (t := 155) (ck_get kk_Mc_months 65 rfl) (by decide) (by omega) (by omega) (fun hc126 => ?_) (fun hc126 => ?_) | refine wp_icmp_gt (t := 155) (ck_get kk_Mc_months 65 rfl) (by decide) (fun hc126 => ?_) (fun hc126 => ?_)
            · omega
            · refine wp_iload_n rfl (ck_get kk_Mc_months 66 rfl) ?_
              refine wp_aload_n rfl (ck_get kk_Mc_months 67 rfl) ?_
              refine wp_aload_n rfl (ck_get kk_Mc_months 68 rfl) ?_
              refine wp_getR (ck_get kk_Mc_months 69 rfl) fl_Mc_33 (by assumption) (by assumption) ?_
              refine wp_iload rfl (ck_get kk_Mc_months 70 rfl) ?_
              refine wp_iload rfl (ck_get kk_Mc_months 71 rfl) ?_
              refine wp_cV3i (ck_get kk_Mc_months 72 rfl) ml_Mc_204 (by omega) (Nat.le_of_ble_eq_true rfl) (by assumption) (Ci.to (c_readA (w := 895) (res := res) (md := md) (salt := salt) (by exact hL) (by exact hWp) (by omega) (by omega) (by exact hW) hO t4 (by omega) (by exact hN2)) ?_)
              rintro y M1 ⟨hx1, I2, J2, e2, b1, b2⟩
              subst e2 hx1
              first | refine wp_if_neN (t := 149) (ck_get kk_Mc_months 73 rfl) (by decide) (by omega) (fun hc142 => ?_) (fun hc142 => ?_) | refine wp_if_ne (t := 149) (ck_get kk_Mc_months 73 rfl) (by decide) (fun hc142 => ?_) (fun hc142 => ?_)
              · refine wp_iconst (v := nI 0) (by decide) (ck_get kk_Mc_months 76 rfl) ?_
                first | refine wp_iaddN (ck_get kk_Mc_months 77 rfl) ?_ | refine wp_iadd (ck_get kk_Mc_months 77 rfl) ?_
                refine wp_istore_n (ck_get kk_Mc_months 78 rfl) (by decide) rfl ?_
                refine wp_goto (t := 189) (ck_get kk_Mc_months 79 rfl) (by decide) ?_
                first | refine wp_iincN (ck_get kk_Mc_months 96 rfl) rfl (by decide) rfl ?_ | refine wp_iinc (ck_get kk_Mc_months 96 rfl) rfl (by decide) rfl ?_
                refine wp_goto (t := 56) (ck_get kk_Mc_months 97 rfl) (by decide) ?_
                have e := hnx I2 J2 (some (.int (nI k))) (some (.int (nI w))) b1 b2
                rw [show (if rxA res md ws t k = 0 then 1 else 0) = 0 from if_neg (by omega)] at e
                exact e
              · refine wp_iconst (v := nI 1) (by decide) (ck_get kk_Mc_months 74 rfl) ?_
                refine wp_goto (t := 150) (ck_get kk_Mc_months 75 rfl) (by decide) ?_
                first | refine wp_iaddN (ck_get kk_Mc_months 77 rfl) ?_ | refine wp_iadd (ck_get kk_Mc_months 77 rfl) ?_
                refine wp_istore_n (ck_get kk_Mc_months 78 rfl) (by decide) rfl ?_
                refine wp_goto (t := 189) (ck_get kk_Mc_months 79 rfl) (by decide) ?_
                first | refine wp_iincN (ck_get kk_Mc_months 96 rfl) rfl (by decide) rfl ?_ | refine wp_iinc (ck_get kk_Mc_months 96 rfl) rfl (by decide) rfl ?_
                refine wp_goto (t := 56) (ck_get kk_Mc_months 97 rfl) (by decide) ?_
                have e := hnx I2 J2 (some (.int (nI k))) (some (.int (nI w))) b1 b2
                rw [show (if rxA res md ws t k = 0 then 1 else 0) = 1 from if_pos (by omega)] at e
                exact e
          · by_cases h7 : w = 7
            · have ed : daW res md salt ws t k w = (0, hvW ws) := by unfold daW; rw [if_neg h6, if_pos h7]
              rw [ed] at hnx
              refine wp_iload rfl (ck_get kk_Mc_months 63 rfl) ?_
              refine wp_iconst (v := nI 5) (by decide) (ck_get kk_Mc_months 64 rfl) ?_
              first | refine wp_icmp_gtN (t := 155) (ck_get kk_Mc_months 65 rfl) (by decide) (by omega) (by omega) (fun hc126 => ?_) (fun hc126 => ?_) | refine wp_icmp_gt (t := 155) (ck_get kk_Mc_months 65 rfl) (by decide) (fun hc126 => ?_) (fun hc126 => ?_)
              · refine wp_iload rfl (ck_get kk_Mc_months 80 rfl) ?_
                refine wp_bipush (v := nI 6) (by decide) (ck_get kk_Mc_months 81 rfl) ?_
                first | refine wp_icmp_neN (t := 181) (ck_get kk_Mc_months 82 rfl) (by decide) (by omega) (by omega) (fun hc159 => ?_) (fun hc159 => ?_) | refine wp_icmp_ne (t := 181) (ck_get kk_Mc_months 82 rfl) (by decide) (fun hc159 => ?_) (fun hc159 => ?_)
                · refine wp_aload_n rfl (ck_get kk_Mc_months 92 rfl) ?_
                  refine wp_getR (ck_get kk_Mc_months 93 rfl) fl_Mc_33 (by assumption) (by assumption) ?_
                  refine wp_cV0i (ck_get kk_Mc_months 94 rfl) ml_Mc_385 (by omega) (Nat.le_of_ble_eq_true rfl) (by assumption) (Ci.to (c_timeT (w := 895) (by exact hWp) (by exact hW) (by omega)) ?_)
                  rintro y M1 ⟨hx1, I2, J2, e2, b1, b2⟩
                  subst e2
                  refine wp_pop rfl (ck_get kk_Mc_months 95 rfl) ?_
                  first | refine wp_iincN (ck_get kk_Mc_months 96 rfl) rfl (by decide) rfl ?_ | refine wp_iinc (ck_get kk_Mc_months 96 rfl) rfl (by decide) rfl ?_
                  refine wp_goto (t := 56) (ck_get kk_Mc_months 97 rfl) (by decide) ?_
                  exact hnx I2 J2 _ _ b1 (fun x q1 q2 => b2 x (by omega))
                · omega
              · omega
            · have ed : daW res md salt ws t k w = (0, setT ws t (drT (ws.2 t) k)) := by unfold daW; rw [if_neg h6, if_neg h7]
              rw [ed] at hnx
              refine wp_iload rfl (ck_get kk_Mc_months 63 rfl) ?_
              refine wp_iconst (v := nI 5) (by decide) (ck_get kk_Mc_months 64 rfl) ?_
              first | refine wp_icmp_gtN (t := 155) (ck_get kk_Mc_months 65 rfl) (by decide) (by omega) (by omega) (fun hc126 => ?_) (fun hc126 => ?_) | refine wp_icmp_gt (t := 155) (ck_get kk_Mc_months 65 rfl) (by decide) (fun hc126 => ?_) (fun hc126 => ?_)
              · refine wp_iload rfl (ck_get kk_Mc_months 80 rfl) ?_
                refine wp_bipush (v := nI 6) (by decide) (ck_get kk_Mc_months 81 rfl) ?_
                first | refine wp_icmp_neN (t := 181) (ck_get kk_Mc_months 82 rfl) (by decide) (by omega) (by omega) (fun hc159 => ?_) (fun hc159 => ?_) | refine wp_icmp_ne (t := 181) (ck_get kk_Mc_months 82 rfl) (by decide) (fun hc159 => ?_) (fun hc159 => ?_)
                · omega
                · refine wp_aload_n rfl (ck_get kk_Mc_months 83 rfl) ?_
                  refine wp_getR (ck_get kk_Mc_months 84 rfl) fl_Mc_33 (by assumption) (by assumption) ?_
                  refine wp_getR (ck_get kk_Mc_months 85 rfl) fl_Mc_110 (by assumption) (by assumption) ?_
                  refine wp_iload rfl (ck_get kk_Mc_months 86 rfl) ?_
                  refine wp_aald (ck_get kk_Mc_months 87 rfl) (by assumption) (by first | assumption | exact ixk_nI (by omega) (by omega)) (by assumption) ?_
                  refine wp_iload rfl (ck_get kk_Mc_months 88 rfl) ?_
                  refine wp_cV1i (ck_get kk_Mc_months 89 rfl) ml_Mc_382 (by omega) (Nat.le_of_ble_eq_true rfl) (by assumption) (Ci.to (c_drT (s := ws.2 t) (k := k) (by exact hTA) (by exact hW.2 t t4) (hO.2 t t4)) ?_)
                  rintro y M1 ⟨hx1, I2, e2, b1, b2⟩
                  subst e2
                  refine wp_pop rfl (ck_get kk_Mc_months 90 rfl) ?_
                  refine wp_goto (t := 189) (ck_get kk_Mc_months 91 rfl) (by decide) ?_
                  first | refine wp_iincN (ck_get kk_Mc_months 96 rfl) rfl (by decide) rfl ?_ | refine wp_iinc (ck_get kk_Mc_months 96 rfl) rfl (by decide) rfl ?_
                  refine wp_goto (t := 56) (ck_get kk_Mc_months 97 rfl) (by decide) ?_
                  exact hnx I2 J _ _ (hW.set b1 b2) (fun x q1 q2 => b2 x (by omega))
              · omega
end MON

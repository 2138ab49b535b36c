/-! ===== share: who gets one more, by the model ===== -/
section SHV
variable {g : Gl} {M : Mem}
theorem m_whoGets {F : Nat → Nat → Int} {d : Nat → Nat} {f b n gt q : Nat → Int32} {jj : Nat → Int64} (hM : MoAt (mT M) (mR M) 1020) (hf : ∀ t c, t < 4 → c < 25 → ∃ k : Nat, f (25 * t + c) = nI k ∧ F t c = k ∧ k ≤ 400000000) (hb : ∀ t, t < 4 → BeL (F t) t b n) (hd : ∀ u, u < 4 → gt u = nI (d u)) (hd24 : ∀ u, u < 4 → d u ≤ 24) : Ci g Y_Mo_whoGets 2 [.ref 1020] (sgM M f b n gt q jj) (fun x M2 => x = oI (shW (flT F) (wdT F) d 4) ∧ ∃ q2 jj2, M2 = sgM M f b n gt q2 jj2 ∧ ∀ k, k ≠ 45 → q2 k = q k) := by
  have to0 := hM.1
  have rfgets := MoAt.r hM 24 rfl
  have tfgets := MoAt.t hM 24 rfl
  have hF : ∀ t c, t < 4 → c < 25 → 0 ≤ F t c ∧ F t c ≤ 400000000 := fun t c ht hc => by
    obtain ⟨k, -, e2, e3⟩ := hf t c ht hc
    omega
  have hlp : ∀ e t (q2 : Nat → Int32) (jj2 : Nat → Int64) (x2 : Int64) (x4 : Int32), t + e = 4 → (∀ k, k ≠ 45 → q2 k = q k) → (∀ m, shW (flT F) (wdT F) d t = some m → x2 = jI (flT F m (d m)) ∧ x4.toInt64 = jI (wdT F m (d m))) → Wp g Y_Mo_whoGets 2 10 [some (.ref 1020), some (.int (oI (shW (flT F) (wdT F) d t))), some (.long x2), none, some (.int x4), some (.int (nI t))] [] (sgM M f b n gt q2 jj2) (fun r M2 => ∃ x, r = some (.int x) ∧ x = oI (shW (flT F) (wdT F) d 4) ∧ ∃ q2 jj2, M2 = sgM M f b n gt q2 jj2 ∧ ∀ k, k ≠ 45 → q2 k = q k) := by
    intro e
    induction e with
    | zero =>
      intro t q2 jj2 x2 x4 h1 hq hx
      obtain rfl : t = 4 := by omega
      refine wp_iload rfl (ck_get kk_Mo_whoGets 8 rfl) ?_
      refine wp_iconst (v := nI 4) (by decide) (ck_get kk_Mo_whoGets 9 rfl) ?_
      first | refine wp_icmp_geN (t := 91) (ck_get kk_Mo_whoGets 10 rfl) (by decide) (by omega) (by omega) (fun hc13 => ?_) (fun hc13 => ?_) | refine wp_icmp_ge (t := 91) (ck_get kk_Mo_whoGets 10 rfl) (by decide) (fun hc13 => ?_) (fun hc13 => ?_)
      · refine wp_iload_n rfl (ck_get kk_Mo_whoGets 51 rfl) ?_
        refine wp_ireturn (ck_get kk_Mo_whoGets 52 rfl) rfl rfl ⟨_, rfl, ?_⟩
        exact ⟨rfl, q2, jj2, rfl, hq⟩
      · omega
    | succ e ih =>
      intro t q2 jj2 x2 x4 h1 hq hx
      have ht : t < 4 := by omega
      have hdt := hd24 t ht
      have hv : ∀ q2 jj2, mI (sgM M f b n gt q2 jj2) 1045 t = nI (d t) := fun q2 jj2 => by rw [sg_g]; exact hd t ht
      have ih2 := fun q2 jj2 x2 x4 => ih (t + 1) q2 jj2 x2 x4 (by omega)
      rw [show shW (flT F) (wdT F) d (t + 1) = shT (flT F) (wdT F) d t (shW (flT F) (wdT F) d t) from rfl] at ih2
      by_cases qd : d t < 24
      · obtain ⟨s1, s2, s3, s4⟩ := sg_le (sgF_ok (f := F t) qd)
        have hq2 : ∀ v : Int32, ∀ k, k ≠ 45 → up1 q2 45 v k = q k := fun v k hk => by rw [up1_ne hk]; exact hq k hk
        have hwt : (nI (nbI (F t) (sgF (F t) (d t) + 1) - nbI (F t) (sgF (F t) (d t)))).toInt64 = jI (wdT F t (d t)) := j_sub (by omega) (by omega)
        cases hw : shW (flT F) (wdT F) d t with
        | none =>
          rw [hw, shT_n qd] at ih2
          refine wp_iload rfl (ck_get kk_Mo_whoGets 8 rfl) ?_
          refine wp_iconst (v := nI 4) (by decide) (ck_get kk_Mo_whoGets 9 rfl) ?_
          first | refine wp_icmp_geN (t := 91) (ck_get kk_Mo_whoGets 10 rfl) (by decide) (by omega) (by omega) (fun hc13 => ?_) (fun hc13 => ?_) | refine wp_icmp_ge (t := 91) (ck_get kk_Mo_whoGets 10 rfl) (by decide) (fun hc13 => ?_) (fun hc13 => ?_)
          · omega
          · refine wp_aload_n rfl (ck_get kk_Mo_whoGets 11 rfl) ?_
            refine wp_getR (ck_get kk_Mo_whoGets 12 rfl) fl_Mo_103 (by assumption) (by assumption) ?_
            refine wp_iload rfl (ck_get kk_Mo_whoGets 13 rfl) ?_
            refine wp_ialdv (v := nI (d t)) (ck_get kk_Mo_whoGets 14 rfl) (by assumption) (ixk_nI (k := t) (by omega) (by omega)) (hv _ _) ?_
            refine wp_bipush (v := nI 24) (by decide) (ck_get kk_Mo_whoGets 15 rfl) ?_
            first | refine wp_icmp_neN (t := 31) (ck_get kk_Mo_whoGets 16 rfl) (by decide) (by omega) (by omega) (fun hc25 => ?_) (fun hc25 => ?_) | refine wp_icmp_ne (t := 31) (ck_get kk_Mo_whoGets 16 rfl) (by decide) (fun hc25 => ?_) (fun hc25 => ?_)
            · refine wp_aload_n rfl (ck_get kk_Mo_whoGets 18 rfl) ?_
              refine wp_iload rfl (ck_get kk_Mo_whoGets 19 rfl) ?_
              refine wp_aload_n rfl (ck_get kk_Mo_whoGets 20 rfl) ?_
              refine wp_getR (ck_get kk_Mo_whoGets 21 rfl) fl_Mo_103 (by assumption) (by assumption) ?_
              refine wp_iload rfl (ck_get kk_Mo_whoGets 22 rfl) ?_
              refine wp_ialdv (v := nI (d t)) (ck_get kk_Mo_whoGets 23 rfl) (by assumption) (ixk_nI (k := t) (by omega) (by omega)) (hv _ _) ?_
              refine wp_cV2v (ck_get kk_Mo_whoGets 24 rfl) ml_Mo_449 (by omega) (Nat.le_of_ble_eq_true rfl) (by assumption) (Cv.to (m_laysFall (F := F t) (c := d t) hM ht (fun c hc => hf t c ht hc) (hb t ht) qd) ?_)
              rintro M1 w1
              subst w1
              refine wp_iload_n rfl (ck_get kk_Mo_whoGets 25 rfl) ?_
              refine wp_iconst (v := (-1)) (by decide) (ck_get kk_Mo_whoGets 26 rfl) ?_
              refine wp_icmp_eq (t := 71) (ck_get kk_Mo_whoGets 27 rfl) (by decide) (fun hc46 => ?_) (fun hc46 => ?_)
              · refine wp_iload rfl (ck_get kk_Mo_whoGets 41 rfl) ?_
                refine wp_istore_n (ck_get kk_Mo_whoGets 42 rfl) (by decide) rfl ?_
                refine wp_aload_n rfl (ck_get kk_Mo_whoGets 43 rfl) ?_
                refine wp_getJ (ck_get kk_Mo_whoGets 44 rfl) fl_Mo_439 (by assumption) ?_
                rw [sg_j, up1_eq]
                refine wp_lstore_n (ck_get kk_Mo_whoGets 45 rfl) (by decide) rfl ?_
                refine wp_aload_n rfl (ck_get kk_Mo_whoGets 46 rfl) ?_
                refine wp_getIv (v := nI (nbI (F t) (sgF (F t) (d t) + 1) - nbI (F t) (sgF (F t) (d t)))) (ck_get kk_Mo_whoGets 47 rfl) fl_Mo_443 (by assumption) ((by rw [sg_q, up1_eq])) ?_
                refine wp_istore (ck_get kk_Mo_whoGets 48 rfl) (by decide) rfl ?_
                first | refine wp_iincN (ck_get kk_Mo_whoGets 49 rfl) rfl (by decide) rfl ?_ | refine wp_iinc (ck_get kk_Mo_whoGets 49 rfl) rfl (by decide) rfl ?_
                refine wp_goto (t := 10) (ck_get kk_Mo_whoGets 50 rfl) (by decide) ?_
                exact ih2 _ _ _ _ (hq2 _) (fun m hm => by cases hm; exact ⟨rfl, hwt⟩)
              · exact absurd rfl hc46
            · omega
        | some m =>
          obtain ⟨m1, m2⟩ := shW_s t m hw
          obtain ⟨y1, y2⟩ := hx m hw
          rw [hw, shT_s qd] at ih2
          obtain ⟨a1, a2, a3, a4⟩ := fw_b (F := F) (t := t) (c := d t) (fun c hc => hF t c ht hc) qd
          obtain ⟨b1, b2, b3, b4⟩ := fw_b (F := F) (t := m) (c := d m) (fun c hc => hF m c (by omega) hc) m2
          have p1 := prd a1 a2 b3 b4
          have p2 := prd b1 b2 a3 a4
          refine wp_iload rfl (ck_get kk_Mo_whoGets 8 rfl) ?_
          refine wp_iconst (v := nI 4) (by decide) (ck_get kk_Mo_whoGets 9 rfl) ?_
          first | refine wp_icmp_geN (t := 91) (ck_get kk_Mo_whoGets 10 rfl) (by decide) (by omega) (by omega) (fun hc13 => ?_) (fun hc13 => ?_) | refine wp_icmp_ge (t := 91) (ck_get kk_Mo_whoGets 10 rfl) (by decide) (fun hc13 => ?_) (fun hc13 => ?_)
          · omega
          · refine wp_aload_n rfl (ck_get kk_Mo_whoGets 11 rfl) ?_
            refine wp_getR (ck_get kk_Mo_whoGets 12 rfl) fl_Mo_103 (by assumption) (by assumption) ?_
            refine wp_iload rfl (ck_get kk_Mo_whoGets 13 rfl) ?_
            refine wp_ialdv (v := nI (d t)) (ck_get kk_Mo_whoGets 14 rfl) (by assumption) (ixk_nI (k := t) (by omega) (by omega)) (hv _ _) ?_
            refine wp_bipush (v := nI 24) (by decide) (ck_get kk_Mo_whoGets 15 rfl) ?_
            first | refine wp_icmp_neN (t := 31) (ck_get kk_Mo_whoGets 16 rfl) (by decide) (by omega) (by omega) (fun hc25 => ?_) (fun hc25 => ?_) | refine wp_icmp_ne (t := 31) (ck_get kk_Mo_whoGets 16 rfl) (by decide) (fun hc25 => ?_) (fun hc25 => ?_)
            · refine wp_aload_n rfl (ck_get kk_Mo_whoGets 18 rfl) ?_
              refine wp_iload rfl (ck_get kk_Mo_whoGets 19 rfl) ?_
              refine wp_aload_n rfl (ck_get kk_Mo_whoGets 20 rfl) ?_
              refine wp_getR (ck_get kk_Mo_whoGets 21 rfl) fl_Mo_103 (by assumption) (by assumption) ?_
              refine wp_iload rfl (ck_get kk_Mo_whoGets 22 rfl) ?_
              refine wp_ialdv (v := nI (d t)) (ck_get kk_Mo_whoGets 23 rfl) (by assumption) (ixk_nI (k := t) (by omega) (by omega)) (hv _ _) ?_
              refine wp_cV2v (ck_get kk_Mo_whoGets 24 rfl) ml_Mo_449 (by omega) (Nat.le_of_ble_eq_true rfl) (by assumption) (Cv.to (m_laysFall (F := F t) (c := d t) hM ht (fun c hc => hf t c ht hc) (hb t ht) qd) ?_)
              rintro M1 w1
              subst w1
              refine wp_iload_n rfl (ck_get kk_Mo_whoGets 25 rfl) ?_
              refine wp_iconst (v := (-1)) (by decide) (ck_get kk_Mo_whoGets 26 rfl) ?_
              refine wp_icmp_eq (t := 71) (ck_get kk_Mo_whoGets 27 rfl) (by decide) (fun hc46 => ?_) (fun hc46 => ?_)
              · exact absurd hc46 (nI_ne1 (by omega))
              · refine wp_aload_n rfl (ck_get kk_Mo_whoGets 28 rfl) ?_
                refine wp_getJ (ck_get kk_Mo_whoGets 29 rfl) fl_Mo_439 (by assumption) ?_
                rw [sg_j, up1_eq]
                refine wp_iload rfl (ck_get kk_Mo_whoGets 30 rfl) ?_
                refine wp_i2l (ck_get kk_Mo_whoGets 31 rfl) ?_
                rw [y2]
                refine wp_lmul (ck_get kk_Mo_whoGets 32 rfl) ?_
                rw [← Int64.ofInt_mul]
                refine wp_lload_n rfl (ck_get kk_Mo_whoGets 33 rfl) ?_
                rw [y1]
                refine wp_aload_n rfl (ck_get kk_Mo_whoGets 34 rfl) ?_
                refine wp_getIv (v := nI (nbI (F t) (sgF (F t) (d t) + 1) - nbI (F t) (sgF (F t) (d t)))) (ck_get kk_Mo_whoGets 35 rfl) fl_Mo_443 (by assumption) ((by rw [sg_q, up1_eq])) ?_
                refine wp_i2l (ck_get kk_Mo_whoGets 36 rfl) ?_
                rw [hwt]
                refine wp_lmul (ck_get kk_Mo_whoGets 37 rfl) ?_
                rw [← Int64.ofInt_mul]
                refine wp_lcmp (ck_get kk_Mo_whoGets 38 rfl) ?_
                refine wp_if_gt (t := 71) (ck_get kk_Mo_whoGets 39 rfl) (by decide) (fun hc65 => ?_) (fun hc65 => ?_)
                · refine wp_iload rfl (ck_get kk_Mo_whoGets 41 rfl) ?_
                  refine wp_istore_n (ck_get kk_Mo_whoGets 42 rfl) (by decide) rfl ?_
                  refine wp_aload_n rfl (ck_get kk_Mo_whoGets 43 rfl) ?_
                  refine wp_getJ (ck_get kk_Mo_whoGets 44 rfl) fl_Mo_439 (by assumption) ?_
                  rw [sg_j, up1_eq]
                  refine wp_lstore_n (ck_get kk_Mo_whoGets 45 rfl) (by decide) rfl ?_
                  refine wp_aload_n rfl (ck_get kk_Mo_whoGets 46 rfl) ?_
                  refine wp_getIv (v := nI (nbI (F t) (sgF (F t) (d t) + 1) - nbI (F t) (sgF (F t) (d t)))) (ck_get kk_Mo_whoGets 47 rfl) fl_Mo_443 (by assumption) ((by rw [sg_q, up1_eq])) ?_
                  refine wp_istore (ck_get kk_Mo_whoGets 48 rfl) (by decide) rfl ?_
                  first | refine wp_iincN (ck_get kk_Mo_whoGets 49 rfl) rfl (by decide) rfl ?_ | refine wp_iinc (ck_get kk_Mo_whoGets 49 rfl) rfl (by decide) rfl ?_
                  refine wp_goto (t := 10) (ck_get kk_Mo_whoGets 50 rfl) (by decide) ?_
                  have qq := (jI_lt (x := flT F m (d m) * wdT F t (d t)) (y := flT F t (d t) * wdT F m (d m)) (by omega) (by omega) (by omega) (by omega)).mp ((lcmp_gt _ _).mp hc65)
                  rw [if_pos qq] at ih2
                  exact ih2 _ _ _ _ (hq2 _) (fun m hm => by cases hm; exact ⟨rfl, hwt⟩)
                · refine wp_goto (t := 85) (ck_get kk_Mo_whoGets 40 rfl) (by decide) ?_
                  first | refine wp_iincN (ck_get kk_Mo_whoGets 49 rfl) rfl (by decide) rfl ?_ | refine wp_iinc (ck_get kk_Mo_whoGets 49 rfl) rfl (by decide) rfl ?_
                  refine wp_goto (t := 10) (ck_get kk_Mo_whoGets 50 rfl) (by decide) ?_
                  have qq := mt (jI_lt (x := flT F m (d m) * wdT F t (d t)) (y := flT F t (d t) * wdT F m (d m)) (by omega) (by omega) (by omega) (by omega)).mpr (mt (lcmp_gt _ _).mpr hc65)
                  rw [if_neg qq] at ih2
                  exact ih2 _ _ _ _ (hq2 _) (fun m2 hm => by cases hm; exact ⟨rfl, y2⟩)
            · omega
      · rw [shT_f qd] at ih2
        refine wp_iload rfl (ck_get kk_Mo_whoGets 8 rfl) ?_
        refine wp_iconst (v := nI 4) (by decide) (ck_get kk_Mo_whoGets 9 rfl) ?_
        first | refine wp_icmp_geN (t := 91) (ck_get kk_Mo_whoGets 10 rfl) (by decide) (by omega) (by omega) (fun hc13 => ?_) (fun hc13 => ?_) | refine wp_icmp_ge (t := 91) (ck_get kk_Mo_whoGets 10 rfl) (by decide) (fun hc13 => ?_) (fun hc13 => ?_)
        · omega
        · refine wp_aload_n rfl (ck_get kk_Mo_whoGets 11 rfl) ?_
          refine wp_getR (ck_get kk_Mo_whoGets 12 rfl) fl_Mo_103 (by assumption) (by assumption) ?_
          refine wp_iload rfl (ck_get kk_Mo_whoGets 13 rfl) ?_
          refine wp_ialdv (v := nI (d t)) (ck_get kk_Mo_whoGets 14 rfl) (by assumption) (ixk_nI (k := t) (by omega) (by omega)) (hv _ _) ?_
          refine wp_bipush (v := nI 24) (by decide) (ck_get kk_Mo_whoGets 15 rfl) ?_
          first | refine wp_icmp_neN (t := 31) (ck_get kk_Mo_whoGets 16 rfl) (by decide) (by omega) (by omega) (fun hc25 => ?_) (fun hc25 => ?_) | refine wp_icmp_ne (t := 31) (ck_get kk_Mo_whoGets 16 rfl) (by decide) (fun hc25 => ?_) (fun hc25 => ?_)
          · omega
          · refine wp_goto (t := 85) (ck_get kk_Mo_whoGets 17 rfl) (by decide) ?_
            first | refine wp_iincN (ck_get kk_Mo_whoGets 49 rfl) rfl (by decide) rfl ?_ | refine wp_iinc (ck_get kk_Mo_whoGets 49 rfl) rfl (by decide) rfl ?_
            refine wp_goto (t := 10) (ck_get kk_Mo_whoGets 50 rfl) (by decide) ?_
            exact ih2 _ _ _ _ hq hx
  refine cw_entry 5 pf_Mo_whoGets rfl ?_
  refine wp_iconst (v := (-1)) (by decide) (ck_get kk_Mo_whoGets 0 rfl) ?_
  refine wp_istore_n (ck_get kk_Mo_whoGets 1 rfl) (by decide) rfl ?_
  refine wp_lconst (v := 0) (by decide) (ck_get kk_Mo_whoGets 2 rfl) ?_
  refine wp_lstore_n (ck_get kk_Mo_whoGets 3 rfl) (by decide) rfl ?_
  refine wp_iconst (v := nI 1) (by decide) (ck_get kk_Mo_whoGets 4 rfl) ?_
  refine wp_istore (ck_get kk_Mo_whoGets 5 rfl) (by decide) rfl ?_
  refine wp_iconst (v := nI 0) (by decide) (ck_get kk_Mo_whoGets 6 rfl) ?_
  refine wp_istore (ck_get kk_Mo_whoGets 7 rfl) (by decide) rfl ?_
  exact hlp 4 0 q jj _ _ (by omega) (fun _ _ => rfl) (fun m hm => by cases hm)
end SHV

/-! ===== share: the model ===== -/
section SHU
variable {g : Gl} {M : Mem}
abbrev gtM (M : Mem) (gt : Nat → Int32) : Mem := mk2 M (up1 (mI M) 1045 gt) (mJ M)
abbrev fdM (M : Mem) (q : Nat → Int32) (jj : Nat → Int64) : Mem := mk2 M (up1 (mI M) 1020 q) (up1 (mJ M) 1020 jj)
abbrev sgM (M : Mem) (f b n gt q : Nat → Int32) (jj : Nat → Int64) : Mem := mfM (beM (gtM (fdM M q jj) gt) b n) f
section SGM
variable {f b n gt q : Nat → Int32} {jj : Nat → Int64}
theorem sg_g : mI (sgM M f b n gt q jj) 1045 = gt := by
  show up1 (up1 (up1 (up1 (up1 (mI M) 1020 q) 1045 gt) 1041 b) 1042 n) 1040 f 1045 = gt
  rw [up1_ne (by omega), up1_ne (by omega), up1_ne (by omega), up1_eq]
theorem sg_q : mI (sgM M f b n gt q jj) 1020 = q := by
  show up1 (up1 (up1 (up1 (up1 (mI M) 1020 q) 1045 gt) 1041 b) 1042 n) 1040 f 1020 = q
  rw [up1_ne (by omega), up1_ne (by omega), up1_ne (by omega), up1_ne (by omega), up1_eq]
theorem sg_j : mJ (sgM M f b n gt q jj) 1020 = jj := by
  show up1 (mJ M) 1020 jj 1020 = jj
  rw [up1_eq]
theorem sg_22 : mI (gtM (fdM M q jj) gt) 1022 = mI M 1022 := by
  show up1 (up1 (mI M) 1020 q) 1045 gt 1022 = _
  rw [up1_ne (by omega), up1_ne (by omega)]
theorem sg_id : sgM M (mI M 1040) (mI M 1041) (mI M 1042) (mI M 1045) (mI M 1020) (mJ M 1020) = M := by
  show mk2 M (up1 (up1 (up1 (up1 (up1 (mI M) 1020 (mI M 1020)) 1045 (mI M 1045)) 1041 (mI M 1041)) 1042 (mI M 1042)) 1040 (mI M 1040)) (up1 (mJ M) 1020 (mJ M 1020)) = M
  rw [up1_self, up1_self, up1_self, up1_self, up1_self, up1_self]
theorem sg_sg {k : Nat} {v : Int32} : sI (sgM M f b n gt q jj) 1045 k v = sgM M f b n (up1 gt k v) q jj := by
  refine mk2_ext (M := M) ?_ rfl
  show up2 (up1 (up1 (up1 (up1 (up1 (mI M) 1020 q) 1045 gt) 1041 b) 1042 n) 1040 f) 1045 k v = _
  rw [up2_up1, show up1 (up1 (up1 (up1 (up1 (mI M) 1020 q) 1045 gt) 1041 b) 1042 n) 1040 f 1045 = gt from sg_g (M := M) (f := f) (b := b) (n := n) (gt := gt) (q := q) (jj := jj), up1_comm _ (show 1040 ≠ 1045 by omega), up1_comm _ (show 1042 ≠ 1045 by omega), up1_comm _ (show 1041 ≠ 1045 by omega), up1_up1]
theorem sg_sq {k : Nat} {v : Int32} : sI (sgM M f b n gt q jj) 1020 k v = sgM M f b n gt (up1 q k v) jj := by
  refine mk2_ext (M := M) ?_ rfl
  show up2 (up1 (up1 (up1 (up1 (up1 (mI M) 1020 q) 1045 gt) 1041 b) 1042 n) 1040 f) 1020 k v = _
  rw [up2_up1, show up1 (up1 (up1 (up1 (up1 (mI M) 1020 q) 1045 gt) 1041 b) 1042 n) 1040 f 1020 = q from sg_q (M := M) (f := f) (b := b) (n := n) (gt := gt) (q := q) (jj := jj), up1_comm _ (show 1040 ≠ 1020 by omega), up1_comm _ (show 1042 ≠ 1020 by omega), up1_comm _ (show 1041 ≠ 1020 by omega), up1_comm _ (show 1045 ≠ 1020 by omega), up1_up1]
theorem sg_sj {k : Nat} {v : Int64} : sJ (sgM M f b n gt q jj) 1020 k v = sgM M f b n gt q (up1 jj k v) := by
  refine mk2_ext (M := M) rfl ?_
  show up2 (up1 (mJ M) 1020 jj) 1020 k v = _
  rw [up2_up1, up1_eq, up1_up1]
theorem MR.sg {z : ST} (h : MR z M) (hq : ∀ k, k ≠ 45 → q k = mI M 1020 k) : MR z (sgM M f b n gt q jj) := by
  refine MR.be (M := gtM (fdM M q jj) gt) (h.sc (I2 := up1 (up1 (mI M) 1020 q) 1045 gt) (J2 := up1 (mJ M) 1020 jj) (fun x p => ?_) (fun x p => up1_ne (by omega)) (fun k p => ?_) ?_)
  · unfold moK at p
    rw [up1_ne (by omega), up1_ne (by omega)]
  · unfold moW at p
    rw [up1_ne (by omega), up1_eq]
    exact hq k (by omega)
  · rw [up1_ne (by omega), up1_eq, hq 27 (by omega)]
    exact h.2.2.2.2.2.2.1.2.2.2.2.1
theorem CSame.sg : CSame M (sgM M f b n gt q jj) := CSame.trans (M2 := gtM (fdM M q jj) gt) (CSame.mk2 (M := M) (I := up1 (up1 (mI M) 1020 q) 1045 gt) (J := up1 (mJ M) 1020 jj) (fun x p => ⟨by rw [up1_ne (by omega), up1_ne (by omega)], up1_ne (by omega)⟩)) CSame.be
end SGM
theorem j_subI {a b : Nat} (ha : a < 1073741824) (hb : b < 1073741824) : (nI a - nI b).toInt64 = jI ((a : Int) - b) := by
  refine Int64.toInt_inj.mp ?_
  rw [Int32.toInt_toInt64, pk_sub_toInt ha hb, jI_i (by omega) (by omega)]
theorem m_laysFall {F : Nat → Int} {t c : Nat} {f b n gt q : Nat → Int32} {jj : Nat → Int64} (hM : MoAt (mT M) (mR M) 1020) (ht : t < 4) (hf : ∀ c, c < 25 → ∃ k : Nat, f (25 * t + c) = nI k ∧ F c = k ∧ k ≤ 400000000) (hb : BeL F t b n) (hc : c < 24) : Cv g Y_Mo_laysFall 1 [.ref 1020, .int (nI t), .int (nI c)] (sgM M f b n gt q jj) (fun M2 => M2 = sgM M f b n gt (up1 q 45 (nI (nbI F (sgF F c + 1) - nbI F (sgF F c)))) (up1 jj 44 (jI (flF F c)))) := by
  have to0 := hM.1
  have rfbends := MoAt.r hM 20 rfl
  have tfbends := MoAt.t hM 20 rfl
  have hl := nbL_ok (f := F)
  have hl1 := nbL_1 (f := F)
  have hv : ∀ i, i ≤ nbL F → mI (sgM M f b n gt q jj) 1041 (25 * t + i) = nI (nbI F i) := fun i hi => by rw [be_b]; exact hb.2 i hi
  have hs := sgF_ok (f := F) hc
  have hlp : ∀ e k (x4 x5 : Option Value), k + 1 + e = nbL F → (k = 0 ∨ nbI F k < c + 1) → Wp g Y_Mo_laysFall 1 2 [some (.ref 1020), some (.int (nI t)), some (.int (nI c)), some (.int (nI k)), x4, x5] [] (sgM M f b n gt q jj) (fun r M2 => r = none ∧ M2 = sgM M f b n gt (up1 q 45 (nI (nbI F (sgF F c + 1) - nbI F (sgF F c)))) (up1 jj 44 (jI (flF F c)))) := by
    have hend : ∀ k (x4 x5 : Option Value), SgI F (c + 1) k → Wp g Y_Mo_laysFall 1 25 [some (.ref 1020), some (.int (nI t)), some (.int (nI c)), some (.int (nI k)), x4, x5] [] (sgM M f b n gt q jj) (fun r M2 => r = none ∧ M2 = sgM M f b n gt (up1 q 45 (nI (nbI F (sgF F c + 1) - nbI F (sgF F c)))) (up1 jj 44 (jI (flF F c)))) := by
      intro k x4 x5 hk
      have e0 : k = sgF F c := sg_un hk hs
      rw [e0]
      rw [e0] at hk
      obtain ⟨q1, q2, q3, q4⟩ := sg_le hk
      have q6 := hk.1
      obtain ⟨ka, a1, a2, a3⟩ := hf (nbI F (sgF F c)) (by omega)
      obtain ⟨kb, b1, b2, b3⟩ := hf (nbI F (sgF F c + 1)) (by omega)
      have efl : flF F c = (ka : Int) - kb := by
        show F (nbI F (sgF F c)) - F (nbI F (sgF F c + 1)) = _
        rw [a2, b2]
      rw [efl]
      generalize sgF F c = i at *
      refine wp_aload_n rfl (ck_get kk_Mo_laysFall 16 rfl) ?_
      refine wp_getR (ck_get kk_Mo_laysFall 17 rfl) fl_Mo_91 (by assumption) (by assumption) ?_
      refine wp_bipush (v := nI 25) (by decide) (ck_get kk_Mo_laysFall 18 rfl) ?_
      refine wp_iload_n rfl (ck_get kk_Mo_laysFall 19 rfl) ?_
      first | refine wp_imulN (ck_get kk_Mo_laysFall 20 rfl) ?_ | refine wp_imul (ck_get kk_Mo_laysFall 20 rfl) ?_
      refine wp_iload_n rfl (ck_get kk_Mo_laysFall 21 rfl) ?_
      first | refine wp_iaddN (ck_get kk_Mo_laysFall 22 rfl) ?_ | refine wp_iadd (ck_get kk_Mo_laysFall 22 rfl) ?_
      refine wp_ialdv (v := nI (nbI F i)) (ck_get kk_Mo_laysFall 23 rfl) (by assumption) (ixk_nI (k := 25 * t + i) (by omega) (by omega)) (hv i (by omega)) ?_
      refine wp_istore (ck_get kk_Mo_laysFall 24 rfl) (by decide) rfl ?_
      refine wp_aload_n rfl (ck_get kk_Mo_laysFall 25 rfl) ?_
      refine wp_getR (ck_get kk_Mo_laysFall 26 rfl) fl_Mo_91 (by assumption) (by assumption) ?_
      refine wp_bipush (v := nI 25) (by decide) (ck_get kk_Mo_laysFall 27 rfl) ?_
      refine wp_iload_n rfl (ck_get kk_Mo_laysFall 28 rfl) ?_
      first | refine wp_imulN (ck_get kk_Mo_laysFall 29 rfl) ?_ | refine wp_imul (ck_get kk_Mo_laysFall 29 rfl) ?_
      refine wp_iload_n rfl (ck_get kk_Mo_laysFall 30 rfl) ?_
      first | refine wp_iaddN (ck_get kk_Mo_laysFall 31 rfl) ?_ | refine wp_iadd (ck_get kk_Mo_laysFall 31 rfl) ?_
      refine wp_iconst (v := nI 1) (by decide) (ck_get kk_Mo_laysFall 32 rfl) ?_
      first | refine wp_iaddN (ck_get kk_Mo_laysFall 33 rfl) ?_ | refine wp_iadd (ck_get kk_Mo_laysFall 33 rfl) ?_
      refine wp_ialdv (v := nI (nbI F (i + 1))) (ck_get kk_Mo_laysFall 34 rfl) (by assumption) (ixk_nI (k := 25 * t + i + 1) (by omega) (by omega)) (hv (i + 1) (by omega)) ?_
      refine wp_istore (ck_get kk_Mo_laysFall 35 rfl) (by decide) rfl ?_
      refine wp_aload_n rfl (ck_get kk_Mo_laysFall 36 rfl) ?_
      refine wp_aload_n rfl (ck_get kk_Mo_laysFall 37 rfl) ?_
      refine wp_iload_n rfl (ck_get kk_Mo_laysFall 38 rfl) ?_
      refine wp_iload rfl (ck_get kk_Mo_laysFall 39 rfl) ?_
      refine wp_cV2i (ck_get kk_Mo_laysFall 40 rfl) ml_Mo_410 (by omega) (Nat.le_of_ble_eq_true rfl) (by assumption) (Ci.to (m_missAt (c := nbI F i) (by exact hM) ht (by omega)) ?_)
      rintro x M1 ⟨w1, w2⟩
      rw [mf_40, a1] at w1
      subst w1 w2
      refine wp_aload_n rfl (ck_get kk_Mo_laysFall 41 rfl) ?_
      refine wp_iload_n rfl (ck_get kk_Mo_laysFall 42 rfl) ?_
      refine wp_iload rfl (ck_get kk_Mo_laysFall 43 rfl) ?_
      refine wp_cV2i (ck_get kk_Mo_laysFall 44 rfl) ml_Mo_410 (by omega) (Nat.le_of_ble_eq_true rfl) (by assumption) (Ci.to (m_missAt (c := nbI F (i + 1)) (by exact hM) ht (by omega)) ?_)
      rintro x M1 ⟨w1, w2⟩
      rw [mf_40, b1] at w1
      subst w1 w2
      refine wp_isub (ck_get kk_Mo_laysFall 45 rfl) ?_
      refine wp_i2l (ck_get kk_Mo_laysFall 46 rfl) ?_
      rw [j_subI (by omega) (by omega)]
      refine wp_putJ (ck_get kk_Mo_laysFall 47 rfl) fl_Mo_439 (by decide +kernel) (by assumption) ?_
      rw [sg_sj]
      refine wp_aload_n rfl (ck_get kk_Mo_laysFall 48 rfl) ?_
      refine wp_iload rfl (ck_get kk_Mo_laysFall 49 rfl) ?_
      refine wp_iload rfl (ck_get kk_Mo_laysFall 50 rfl) ?_
      first | refine wp_isubN (ck_get kk_Mo_laysFall 51 rfl) (by omega) ?_ | refine wp_isub (ck_get kk_Mo_laysFall 51 rfl) ?_
      refine wp_putI (ck_get kk_Mo_laysFall 52 rfl) fl_Mo_443 (by decide +kernel) (by assumption) (okI_int _) ?_
      rw [sg_sq]
      refine wp_return (ck_get kk_Mo_laysFall 53 rfl) rfl ⟨rfl, ?_⟩
      rfl
    intro e
    induction e with
    | zero =>
      intro k x4 x5 h1 h2
      have h24 : nbI F (k + 1) = 24 := by rw [show k + 1 = nbL F by omega]; exact hl.1
      refine wp_aload_n rfl (ck_get kk_Mo_laysFall 2 rfl) ?_
      refine wp_getR (ck_get kk_Mo_laysFall 3 rfl) fl_Mo_91 (by assumption) (by assumption) ?_
      refine wp_bipush (v := nI 25) (by decide) (ck_get kk_Mo_laysFall 4 rfl) ?_
      refine wp_iload_n rfl (ck_get kk_Mo_laysFall 5 rfl) ?_
      first | refine wp_imulN (ck_get kk_Mo_laysFall 6 rfl) ?_ | refine wp_imul (ck_get kk_Mo_laysFall 6 rfl) ?_
      refine wp_iload_n rfl (ck_get kk_Mo_laysFall 7 rfl) ?_
      first | refine wp_iaddN (ck_get kk_Mo_laysFall 8 rfl) ?_ | refine wp_iadd (ck_get kk_Mo_laysFall 8 rfl) ?_
      refine wp_iconst (v := nI 1) (by decide) (ck_get kk_Mo_laysFall 9 rfl) ?_
      first | refine wp_iaddN (ck_get kk_Mo_laysFall 10 rfl) ?_ | refine wp_iadd (ck_get kk_Mo_laysFall 10 rfl) ?_
      refine wp_ialdv (v := nI (nbI F (k + 1))) (ck_get kk_Mo_laysFall 11 rfl) (by assumption) (ixk_nI (k := 25 * t + k + 1) (by omega) (by omega)) (hv (k + 1) (by omega)) ?_
      refine wp_iload_n rfl (ck_get kk_Mo_laysFall 12 rfl) ?_
      first | refine wp_icmp_gtN (t := 25) (ck_get kk_Mo_laysFall 13 rfl) (by decide) (by omega) (by omega) (fun hc16 => ?_) (fun hc16 => ?_) | refine wp_icmp_gt (t := 25) (ck_get kk_Mo_laysFall 13 rfl) (by decide) (fun hc16 => ?_) (fun hc16 => ?_)
      · exact hend k _ _ ⟨by omega, h2, by omega⟩
      · omega
    | succ e ih =>
      intro k x4 x5 h1 h2
      have h24 : nbI F (k + 1) < 24 := nbL_lt.mpr (by omega)
      refine wp_aload_n rfl (ck_get kk_Mo_laysFall 2 rfl) ?_
      refine wp_getR (ck_get kk_Mo_laysFall 3 rfl) fl_Mo_91 (by assumption) (by assumption) ?_
      refine wp_bipush (v := nI 25) (by decide) (ck_get kk_Mo_laysFall 4 rfl) ?_
      refine wp_iload_n rfl (ck_get kk_Mo_laysFall 5 rfl) ?_
      first | refine wp_imulN (ck_get kk_Mo_laysFall 6 rfl) ?_ | refine wp_imul (ck_get kk_Mo_laysFall 6 rfl) ?_
      refine wp_iload_n rfl (ck_get kk_Mo_laysFall 7 rfl) ?_
      first | refine wp_iaddN (ck_get kk_Mo_laysFall 8 rfl) ?_ | refine wp_iadd (ck_get kk_Mo_laysFall 8 rfl) ?_
      refine wp_iconst (v := nI 1) (by decide) (ck_get kk_Mo_laysFall 9 rfl) ?_
      first | refine wp_iaddN (ck_get kk_Mo_laysFall 10 rfl) ?_ | refine wp_iadd (ck_get kk_Mo_laysFall 10 rfl) ?_
      refine wp_ialdv (v := nI (nbI F (k + 1))) (ck_get kk_Mo_laysFall 11 rfl) (by assumption) (ixk_nI (k := 25 * t + k + 1) (by omega) (by omega)) (hv (k + 1) (by omega)) ?_
      refine wp_iload_n rfl (ck_get kk_Mo_laysFall 12 rfl) ?_
      first | refine wp_icmp_gtN (t := 25) (ck_get kk_Mo_laysFall 13 rfl) (by decide) (by omega) (by omega) (fun hc16 => ?_) (fun hc16 => ?_) | refine wp_icmp_gt (t := 25) (ck_get kk_Mo_laysFall 13 rfl) (by decide) (fun hc16 => ?_) (fun hc16 => ?_)
      · exact hend k _ _ ⟨by omega, h2, by omega⟩
      · first | refine wp_iincN (ck_get kk_Mo_laysFall 14 rfl) rfl (by decide) rfl ?_ | refine wp_iinc (ck_get kk_Mo_laysFall 14 rfl) rfl (by decide) rfl ?_
        refine wp_goto (t := 2) (ck_get kk_Mo_laysFall 15 rfl) (by decide) ?_
        exact ih (k + 1) _ _ (by omega) (Or.inr (by omega))
  refine cw_entry 3 pf_Mo_laysFall rfl ?_
  refine wp_iconst (v := nI 0) (by decide) (ck_get kk_Mo_laysFall 0 rfl) ?_
  refine wp_istore_n (ck_get kk_Mo_laysFall 1 rfl) (by decide) rfl ?_
  exact hlp (nbL F - 1) 0 none none (by omega) (Or.inl rfl)
end SHU

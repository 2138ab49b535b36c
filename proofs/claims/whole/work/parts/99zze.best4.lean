/-! ===== best: the model ===== -/
section BEV
variable {g : Gl} {M : Mem}
/-- the model's memory with another table of the fewest -/
abbrev frM (M : Mem) (a : Nat → Int32) : Mem := mk2 M (up1 (mI M) 1046 a) (mJ M)
section FRM
variable {f a : Nat → Int32}
theorem fr_46 : mI (mfM (frM M a) f) 1046 = a := by
  show up1 (up1 (mI M) 1046 a) 1040 f 1046 = a
  rw [up1_ne (by omega), up1_eq]
theorem fr_s {k : Nat} {v : Int32} : sI (mfM (frM M a) f) 1046 k v = mfM (frM M (up1 a k v)) f := by
  refine mk2_ext (M := M) ?_ rfl
  show up2 (up1 (up1 (mI M) 1046 a) 1040 f) 1046 k v = _
  rw [up2_up1, show up1 (up1 (mI M) 1046 a) 1040 f 1046 = a from fr_46 (M := M) (f := f) (a := a), up1_comm _ (show 1040 ≠ 1046 by omega), up1_up1]
theorem fr_id : mfM (frM M (mI M 1046)) (mI M 1040) = M := by
  show mk2 M (up1 (up1 (mI M) 1046 (mI M 1046)) 1040 (mI M 1040)) (mJ M) = M
  rw [up1_self, up1_self]
theorem fr_22 : mI (frM M a) 1022 = mI M 1022 := by
  show up1 (mI M) 1046 a 1022 = _
  rw [up1_ne (by omega)]
end FRM
theorem m_fewAt {W : Mem} {t l : Nat} (hM : MoAt (mT W) (mR W) 1020) (ht : t ≤ 4) (hl : l ≤ 48) : Ci g Y_Mo_fewestAt 0 [.ref 1020, .int (nI t), .int (nI l)] W (fun x M2 => x = mI W 1046 (49 * t + l) ∧ M2 = W) := by
  have to0 := hM.1
  have rffewest := MoAt.r hM 25 rfl
  have tffewest := MoAt.t hM 25 rfl
  refine cw_entry 0 pf_Mo_fewestAt rfl ?_
  refine wp_aload_n rfl (ck_get kk_Mo_fewestAt 0 rfl) ?_
  refine wp_getR (ck_get kk_Mo_fewestAt 1 rfl) fl_Mo_106 (by assumption) (by assumption) ?_
  refine wp_bipush (v := nI 49) (by decide) (ck_get kk_Mo_fewestAt 2 rfl) ?_
  refine wp_iload_n rfl (ck_get kk_Mo_fewestAt 3 rfl) ?_
  first | refine wp_imulN (ck_get kk_Mo_fewestAt 4 rfl) ?_ | refine wp_imul (ck_get kk_Mo_fewestAt 4 rfl) ?_
  refine wp_iload_n rfl (ck_get kk_Mo_fewestAt 5 rfl) ?_
  first | refine wp_iaddN (ck_get kk_Mo_fewestAt 6 rfl) ?_ | refine wp_iadd (ck_get kk_Mo_fewestAt 6 rfl) ?_
  refine wp_iald (ck_get kk_Mo_fewestAt 7 rfl) (by assumption) (ixk_nI (k := 49 * t + l) (by omega) (by omega)) ?_
  refine wp_ireturn (ck_get kk_Mo_fewestAt 8 rfl) rfl rfl ⟨_, rfl, ?_⟩
  exact ⟨rfl, rfl⟩
theorem m_missBy {W : Mem} {t l c p q : Nat} (hM : MoAt (mT W) (mR W) 1020) (ht : t < 4) (hl : l ≤ 48) (hc : c < 25) (hcl : c ≤ l) (h1 : mI W 1040 (25 * t + c) = nI p) (h2 : mI W 1046 (49 * (t + 1) + (l - c)) = nI q) : Ci g Y_Mo_missesBy 1 [.ref 1020, .int (nI t), .int (nI l), .int (nI c)] W (fun x M2 => x = nI (p + q) ∧ M2 = W) := by
  have to0 := hM.1
  refine cw_entry 0 pf_Mo_missesBy rfl ?_
  refine wp_aload_n rfl (ck_get kk_Mo_missesBy 0 rfl) ?_
  refine wp_iload_n rfl (ck_get kk_Mo_missesBy 1 rfl) ?_
  refine wp_iload_n rfl (ck_get kk_Mo_missesBy 2 rfl) ?_
  refine wp_cV2i (ck_get kk_Mo_missesBy 3 rfl) ml_Mo_410 (by omega) (Nat.le_of_ble_eq_true rfl) (by assumption) (Ci.to (m_missAt hM ht hc) ?_)
  rintro x M1 ⟨w1, w2⟩
  rw [h1] at w1
  subst w1 w2
  refine wp_aload_n rfl (ck_get kk_Mo_missesBy 4 rfl) ?_
  refine wp_iload_n rfl (ck_get kk_Mo_missesBy 5 rfl) ?_
  refine wp_iconst (v := nI 1) (by decide) (ck_get kk_Mo_missesBy 6 rfl) ?_
  first | refine wp_iaddN (ck_get kk_Mo_missesBy 7 rfl) ?_ | refine wp_iadd (ck_get kk_Mo_missesBy 7 rfl) ?_
  refine wp_iload_n rfl (ck_get kk_Mo_missesBy 8 rfl) ?_
  refine wp_iload_n rfl (ck_get kk_Mo_missesBy 9 rfl) ?_
  first | refine wp_isubN (ck_get kk_Mo_missesBy 10 rfl) (by omega) ?_ | refine wp_isub (ck_get kk_Mo_missesBy 10 rfl) ?_
  refine wp_cV2i (ck_get kk_Mo_missesBy 11 rfl) ml_Mo_452 (by omega) (Nat.le_of_ble_eq_true rfl) (by assumption) (Ci.to (m_fewAt (t := t + 1) (l := l - c) hM (by omega) (by omega)) ?_)
  rintro x M1 ⟨w1, w2⟩
  rw [h2] at w1
  subst w1 w2
  first | refine wp_iaddN (ck_get kk_Mo_missesBy 12 rfl) ?_ | refine wp_iadd (ck_get kk_Mo_missesBy 12 rfl) ?_
  refine wp_ireturn (ck_get kk_Mo_missesBy 13 rfl) rfl rfl ⟨_, rfl, ?_⟩
  exact ⟨rfl, rfl⟩
theorem m_laysFew {w : WS} {s0 : Nat → Nat} {P : Nat → Int64} {z : Nat} (hM : MoAt (mT M) (mR M) 1020) (hW : MwHas (mI M 1022) P 0 0 w) (hm : ∀ t c, t < 4 → c < 25 → msN w t c ≤ s0 t) (hs : sfx s0 4 < 1000000000) (hz : z ≤ 48) :
    Cv g Y_Mo_laysFewest 2 [.ref 1020, .int (nI z)] M (fun M2 => ∃ f a, M2 = mfM (frM M a) f ∧ MsN f w (fun _ => True) ∧ DpX (vA (msN w)) a (fun _ l => l ≤ z) ∧ ∀ j, j ≤ z → a (196 + j) = nI 0) := by
  have to0 := hM.1
  have rffewest := MoAt.r hM 25 rfl
  have tffewest := MoAt.t hM 25 rfl
  have hin : ∀ {Q : Option Value → Mem → Prop} (f a : Nat → Int32) (t d j : Nat), t + d = 3 → j ≤ 48 → (∀ c, c < 25 → f (25 * t + c) = nI (msN w t c)) → (∀ i, i ≤ j → a (49 * (t + 1) + i) = nI (bstT (msN w) d i).2) → (∀ x5, Wp g Y_Mo_laysFewest 2 97 [some (.ref 1020), some (.int (nI z)), some (.int (nI t)), some (.int (nI j)), some (.int (nI (bstT (msN w) (d + 1) j).2)), x5] [] (mfM (frM M a) f) Q) → ∀ e k, k + e = min 24 j → Wp g Y_Mo_laysFewest 2 50 [some (.ref 1020), some (.int (nI z)), some (.int (nI t)), some (.int (nI j)), some (.int (nI (akF (bstH (msN w) t d j) k).2)), some (.int (nI (k + 1)))] [] (mfM (frM M a) f) Q := by
    intro Q f a t d j hd hj hf ha K e
    rw [bst_s (m := msN w) (l := j) hd] at K
    have hH := fun c hc => bstH_le (m := msN w) (s := s0) hm (t := t) (d := d) (l := j) (c := c) hd hc
    induction e with
    | zero =>
      intro k h1
      obtain rfl : k = min 24 j := by omega
      refine wp_iload rfl (ck_get kk_Mo_laysFewest 30 rfl) ?_
      refine wp_bipush (v := nI 24) (by decide) (ck_get kk_Mo_laysFewest 31 rfl) ?_
      first | refine wp_icmp_gtN (t := 97) (ck_get kk_Mo_laysFewest 32 rfl) (by decide) (by omega) (by omega) (fun hc54 => ?_) (fun hc54 => ?_) | refine wp_icmp_gt (t := 97) (ck_get kk_Mo_laysFewest 32 rfl) (by decide) (fun hc54 => ?_) (fun hc54 => ?_)
      · exact K _
      · refine wp_iload rfl (ck_get kk_Mo_laysFewest 33 rfl) ?_
        refine wp_iload_n rfl (ck_get kk_Mo_laysFewest 34 rfl) ?_
        first | refine wp_icmp_gtN (t := 97) (ck_get kk_Mo_laysFewest 35 rfl) (by decide) (by omega) (by omega) (fun hc60 => ?_) (fun hc60 => ?_) | refine wp_icmp_gt (t := 97) (ck_get kk_Mo_laysFewest 35 rfl) (by decide) (fun hc60 => ?_) (fun hc60 => ?_)
        · exact K _
        · omega
    | succ e ih =>
      intro k h1
      have b1 := hH (k + 1) (by omega)
      have b1' : msN w t (k + 1) + (bstT (msN w) d (j - (k + 1))).2 < 1000000000 := by
        have : bstH (msN w) t d j (k + 1) = msN w t (k + 1) + (bstT (msN w) d (j - (k + 1))).2 := rfl
        omega
      have b2 := (akF_mn (h := bstH (msN w) t d j) k).2.2.2 0 (by omega)
      have b3 := hH 0 (by omega)
      have e0 : akF (bstH (msN w) t d j) (k + 1) = if msN w t (k + 1) + (bstT (msN w) d (j - (k + 1))).2 < (akF (bstH (msN w) t d j) k).2 then (k + 1, msN w t (k + 1) + (bstT (msN w) d (j - (k + 1))).2) else akF (bstH (msN w) t d j) k := rfl
      have ih2 := ih (k + 1) (by omega)
      rw [e0] at ih2
      have v1 : mI (mfM (frM M a) f) 1040 (25 * t + (k + 1)) = nI (msN w t (k + 1)) := by rw [mf_40]; exact hf _ (by omega)
      have v2 : mI (mfM (frM M a) f) 1046 (49 * (t + 1) + (j - (k + 1))) = nI (bstT (msN w) d (j - (k + 1))).2 := by rw [fr_46]; exact ha _ (by omega)
      refine wp_iload rfl (ck_get kk_Mo_laysFewest 30 rfl) ?_
      refine wp_bipush (v := nI 24) (by decide) (ck_get kk_Mo_laysFewest 31 rfl) ?_
      first | refine wp_icmp_gtN (t := 97) (ck_get kk_Mo_laysFewest 32 rfl) (by decide) (by omega) (by omega) (fun hc54 => ?_) (fun hc54 => ?_) | refine wp_icmp_gt (t := 97) (ck_get kk_Mo_laysFewest 32 rfl) (by decide) (fun hc54 => ?_) (fun hc54 => ?_)
      · omega
      · refine wp_iload rfl (ck_get kk_Mo_laysFewest 33 rfl) ?_
        refine wp_iload_n rfl (ck_get kk_Mo_laysFewest 34 rfl) ?_
        first | refine wp_icmp_gtN (t := 97) (ck_get kk_Mo_laysFewest 35 rfl) (by decide) (by omega) (by omega) (fun hc60 => ?_) (fun hc60 => ?_) | refine wp_icmp_gt (t := 97) (ck_get kk_Mo_laysFewest 35 rfl) (by decide) (fun hc60 => ?_) (fun hc60 => ?_)
        · omega
        · refine wp_aload_n rfl (ck_get kk_Mo_laysFewest 36 rfl) ?_
          refine wp_iload_n rfl (ck_get kk_Mo_laysFewest 37 rfl) ?_
          refine wp_iload_n rfl (ck_get kk_Mo_laysFewest 38 rfl) ?_
          refine wp_iload rfl (ck_get kk_Mo_laysFewest 39 rfl) ?_
          refine wp_cV3i (ck_get kk_Mo_laysFewest 40 rfl) ml_Mo_456 (by omega) (Nat.le_of_ble_eq_true rfl) (by assumption) (Ci.to (m_missBy (by exact hM) (by omega) hj (by omega) (by omega) v1 v2) ?_)
          rintro _ M1 ⟨rfl, eqm1⟩
          obtain rfl := eqm1.symm
          refine wp_iload rfl (ck_get kk_Mo_laysFewest 41 rfl) ?_
          first | refine wp_icmp_geN (t := 87) (ck_get kk_Mo_laysFewest 42 rfl) (by decide) (by omega) (by omega) (fun hc73 => ?_) (fun hc73 => ?_) | refine wp_icmp_ge (t := 87) (ck_get kk_Mo_laysFewest 42 rfl) (by decide) (fun hc73 => ?_) (fun hc73 => ?_)
          · refine wp_iload rfl (ck_get kk_Mo_laysFewest 49 rfl) ?_
            refine wp_istore (ck_get kk_Mo_laysFewest 50 rfl) (by decide) rfl ?_
            first | refine wp_iincN (ck_get kk_Mo_laysFewest 51 rfl) rfl (by decide) rfl ?_ | refine wp_iinc (ck_get kk_Mo_laysFewest 51 rfl) rfl (by decide) rfl ?_
            refine wp_goto (t := 50) (ck_get kk_Mo_laysFewest 52 rfl) (by decide) ?_
            rw [if_neg (by omega)] at ih2
            exact ih2
          · refine wp_aload_n rfl (ck_get kk_Mo_laysFewest 43 rfl) ?_
            refine wp_iload_n rfl (ck_get kk_Mo_laysFewest 44 rfl) ?_
            refine wp_iload_n rfl (ck_get kk_Mo_laysFewest 45 rfl) ?_
            refine wp_iload rfl (ck_get kk_Mo_laysFewest 46 rfl) ?_
            refine wp_cV3i (ck_get kk_Mo_laysFewest 47 rfl) ml_Mo_456 (by omega) (Nat.le_of_ble_eq_true rfl) (by assumption) (Ci.to (m_missBy (by exact hM) (by omega) hj (by omega) (by omega) v1 v2) ?_)
            rintro _ M1 ⟨rfl, eqm1⟩
            obtain rfl := eqm1.symm
            refine wp_goto (t := 89) (ck_get kk_Mo_laysFewest 48 rfl) (by decide) ?_
            refine wp_istore (ck_get kk_Mo_laysFewest 50 rfl) (by decide) rfl ?_
            first | refine wp_iincN (ck_get kk_Mo_laysFewest 51 rfl) rfl (by decide) rfl ?_ | refine wp_iinc (ck_get kk_Mo_laysFewest 51 rfl) rfl (by decide) rfl ?_
            refine wp_goto (t := 50) (ck_get kk_Mo_laysFewest 52 rfl) (by decide) ?_
            rw [if_pos (by omega)] at ih2
            exact ih2
  have hmid : ∀ {Q : Option Value → Mem → Prop} (f : Nat → Int32) (t d : Nat), t + d = 3 → (∀ c, c < 25 → f (25 * t + c) = nI (msN w t c)) → (∀ (a : Nat → Int32) (x4 x5 : Option Value), (∀ j, j ≤ z → a (196 + j) = nI 0) → DpX (vA (msN w)) a (fun u l => t ≤ u ∧ l ≤ z) → Wp g Y_Mo_laysFewest 2 116 [some (.ref 1020), some (.int (nI z)), some (.int (nI t)), some (.int (nI (z + 1))), x4, x5] [] (mfM (frM M a) f) Q) → ∀ e j (a : Nat → Int32) (x4 x5 : Option Value), j + e = z + 1 → (∀ j, j ≤ z → a (196 + j) = nI 0) → DpX (vA (msN w)) a (fun u l => (t < u ∧ l ≤ z) ∨ (u = t ∧ l < j)) → Wp g Y_Mo_laysFewest 2 37 [some (.ref 1020), some (.int (nI z)), some (.int (nI t)), some (.int (nI j)), x4, x5] [] (mfM (frM M a) f) Q := by
    intro Q f t d hd hf K e
    induction e with
    | zero =>
      intro j a x4 x5 h1 h0 hA
      obtain rfl : j = z + 1 := by omega
      refine wp_iload_n rfl (ck_get kk_Mo_laysFewest 23 rfl) ?_
      refine wp_iload_n rfl (ck_get kk_Mo_laysFewest 24 rfl) ?_
      first | refine wp_icmp_gtN (t := 116) (ck_get kk_Mo_laysFewest 25 rfl) (by decide) (by omega) (by omega) (fun hc39 => ?_) (fun hc39 => ?_) | refine wp_icmp_gt (t := 116) (ck_get kk_Mo_laysFewest 25 rfl) (by decide) (fun hc39 => ?_) (fun hc39 => ?_)
      · exact K a _ _ h0 (hA.to (fun u l p => by omega))
      · omega
    | succ e ih =>
      intro j a x4 x5 h1 h0 hA
      have hrow := hA.row hd (l := j) (fun i hi => h0 i (by omega)) (by omega) (fun i hi => by omega)
      have b3 := bstH_le (m := msN w) (s := s0) hm (t := t) (d := d) (l := j) (c := 0) hd (by omega)
      have b3' : msN w t 0 + (bstT (msN w) d (j - 0)).2 < 1000000000 := by
        have : bstH (msN w) t d j 0 = msN w t 0 + (bstT (msN w) d (j - 0)).2 := rfl
        omega
      have v1 : mI (mfM (frM M a) f) 1040 (25 * t + 0) = nI (msN w t 0) := by rw [mf_40]; exact hf _ (by omega)
      have v2 : mI (mfM (frM M a) f) 1046 (49 * (t + 1) + (j - 0)) = nI (bstT (msN w) d (j - 0)).2 := by rw [fr_46]; exact hrow _ (by omega)
      refine wp_iload_n rfl (ck_get kk_Mo_laysFewest 23 rfl) ?_
      refine wp_iload_n rfl (ck_get kk_Mo_laysFewest 24 rfl) ?_
      first | refine wp_icmp_gtN (t := 116) (ck_get kk_Mo_laysFewest 25 rfl) (by decide) (by omega) (by omega) (fun hc39 => ?_) (fun hc39 => ?_) | refine wp_icmp_gt (t := 116) (ck_get kk_Mo_laysFewest 25 rfl) (by decide) (fun hc39 => ?_) (fun hc39 => ?_)
      · omega
      · refine wp_ldcw kl_Mo_455 (ck_get kk_Mo_laysFewest 26 rfl) ?_
        rw [i9m]
        refine wp_istore (ck_get kk_Mo_laysFewest 27 rfl) (by decide) rfl ?_
        refine wp_iconst (v := nI 0) (by decide) (ck_get kk_Mo_laysFewest 28 rfl) ?_
        refine wp_istore (ck_get kk_Mo_laysFewest 29 rfl) (by decide) rfl ?_
        skip
        refine wp_iload rfl (ck_get kk_Mo_laysFewest 30 rfl) ?_
        refine wp_bipush (v := nI 24) (by decide) (ck_get kk_Mo_laysFewest 31 rfl) ?_
        first | refine wp_icmp_gtN (t := 97) (ck_get kk_Mo_laysFewest 32 rfl) (by decide) (by omega) (by omega) (fun hc54 => ?_) (fun hc54 => ?_) | refine wp_icmp_gt (t := 97) (ck_get kk_Mo_laysFewest 32 rfl) (by decide) (fun hc54 => ?_) (fun hc54 => ?_)
        · omega
        · refine wp_iload rfl (ck_get kk_Mo_laysFewest 33 rfl) ?_
          refine wp_iload_n rfl (ck_get kk_Mo_laysFewest 34 rfl) ?_
          first | refine wp_icmp_gtN (t := 97) (ck_get kk_Mo_laysFewest 35 rfl) (by decide) (by omega) (by omega) (fun hc60 => ?_) (fun hc60 => ?_) | refine wp_icmp_gt (t := 97) (ck_get kk_Mo_laysFewest 35 rfl) (by decide) (fun hc60 => ?_) (fun hc60 => ?_)
          · omega
          · refine wp_aload_n rfl (ck_get kk_Mo_laysFewest 36 rfl) ?_
            refine wp_iload_n rfl (ck_get kk_Mo_laysFewest 37 rfl) ?_
            refine wp_iload_n rfl (ck_get kk_Mo_laysFewest 38 rfl) ?_
            refine wp_iload rfl (ck_get kk_Mo_laysFewest 39 rfl) ?_
            refine wp_cV3i (ck_get kk_Mo_laysFewest 40 rfl) ml_Mo_456 (by omega) (Nat.le_of_ble_eq_true rfl) (by assumption) (Ci.to (m_missBy (c := 0) (by exact hM) (by omega) (by omega) (by omega) (by omega) v1 v2) ?_)
            rintro _ M1 ⟨rfl, eqm1⟩
            obtain rfl := eqm1.symm
            refine wp_iload rfl (ck_get kk_Mo_laysFewest 41 rfl) ?_
            first | refine wp_icmp_geN (t := 87) (ck_get kk_Mo_laysFewest 42 rfl) (by decide) (by omega) (by omega) (fun hc73 => ?_) (fun hc73 => ?_) | refine wp_icmp_ge (t := 87) (ck_get kk_Mo_laysFewest 42 rfl) (by decide) (fun hc73 => ?_) (fun hc73 => ?_)
            · omega
            · refine wp_aload_n rfl (ck_get kk_Mo_laysFewest 43 rfl) ?_
              refine wp_iload_n rfl (ck_get kk_Mo_laysFewest 44 rfl) ?_
              refine wp_iload_n rfl (ck_get kk_Mo_laysFewest 45 rfl) ?_
              refine wp_iload rfl (ck_get kk_Mo_laysFewest 46 rfl) ?_
              refine wp_cV3i (ck_get kk_Mo_laysFewest 47 rfl) ml_Mo_456 (by omega) (Nat.le_of_ble_eq_true rfl) (by assumption) (Ci.to (m_missBy (c := 0) (by exact hM) (by omega) (by omega) (by omega) (by omega) v1 v2) ?_)
              rintro _ M1 ⟨rfl, eqm1⟩
              obtain rfl := eqm1.symm
              refine wp_goto (t := 89) (ck_get kk_Mo_laysFewest 48 rfl) (by decide) ?_
              refine wp_istore (ck_get kk_Mo_laysFewest 50 rfl) (by decide) rfl ?_
              first | refine wp_iincN (ck_get kk_Mo_laysFewest 51 rfl) rfl (by decide) rfl ?_ | refine wp_iinc (ck_get kk_Mo_laysFewest 51 rfl) rfl (by decide) rfl ?_
              refine wp_goto (t := 50) (ck_get kk_Mo_laysFewest 52 rfl) (by decide) ?_
              refine hin f a t d j hd (by omega) hf hrow (fun x5 => ?_) (min 24 j) 0 (by omega)
              refine wp_aload_n rfl (ck_get kk_Mo_laysFewest 53 rfl) ?_
              refine wp_getR (ck_get kk_Mo_laysFewest 54 rfl) fl_Mo_106 (by assumption) (by assumption) ?_
              refine wp_bipush (v := nI 49) (by decide) (ck_get kk_Mo_laysFewest 55 rfl) ?_
              refine wp_iload_n rfl (ck_get kk_Mo_laysFewest 56 rfl) ?_
              first | refine wp_imulN (ck_get kk_Mo_laysFewest 57 rfl) ?_ | refine wp_imul (ck_get kk_Mo_laysFewest 57 rfl) ?_
              refine wp_iload_n rfl (ck_get kk_Mo_laysFewest 58 rfl) ?_
              first | refine wp_iaddN (ck_get kk_Mo_laysFewest 59 rfl) ?_ | refine wp_iadd (ck_get kk_Mo_laysFewest 59 rfl) ?_
              refine wp_iload rfl (ck_get kk_Mo_laysFewest 60 rfl) ?_
              refine wp_iast (ck_get kk_Mo_laysFewest 61 rfl) (by assumption) (ixk_nI (k := 49 * t + j) (by omega) (by omega)) ?_
              rw [fr_s]
              first | refine wp_iincN (ck_get kk_Mo_laysFewest 62 rfl) rfl (by decide) rfl ?_ | refine wp_iinc (ck_get kk_Mo_laysFewest 62 rfl) rfl (by decide) rfl ?_
              refine wp_goto (t := 37) (ck_get kk_Mo_laysFewest 63 rfl) (by decide) ?_
              have e1 : bstT (msN w) (d + 1) j = bstT (msN w) (4 - t) j := by rw [show 4 - t = d + 1 by omega]
              rw [e1]
              refine ih (j + 1) _ _ _ (by omega) (fun i hi => ?_) (hA.put (by omega) (by omega) (fun u l p => by omega))
              rw [up1_ne (by omega)]; exact h0 i hi
  have hout : ∀ t d (f a : Nat → Int32) (x3 x4 x5 : Option Value), t + d = 3 → (∀ j, j ≤ z → a (196 + j) = nI 0) → MsN f w (fun u => t < u) → DpX (vA (msN w)) a (fun u l => t < u ∧ l ≤ z) → Wp g Y_Mo_laysFewest 2 26 [some (.ref 1020), some (.int (nI z)), some (.int (nI t)), x3, x4, x5] [] (mfM (frM M a) f) (fun r M2 => r = none ∧ ∃ f a, M2 = mfM (frM M a) f ∧ MsN f w (fun _ => True) ∧ DpX (vA (msN w)) a (fun _ l => l ≤ z) ∧ ∀ j, j ≤ z → a (196 + j) = nI 0) := by
    have hlay : ∀ t (f : Nat → Int32), t < 4 → MsN f w (fun u => t < u) → MsN (lmF f (mI M 1022) t 0) w (fun u => t ≤ u) := fun t f ht hf u c hu hp hc => by
      by_cases e : u = t
      · subst e; rw [lm_at hW hu hc, msW_nI]
      · have : lmF f (mI M 1022) t 0 (25 * u + c) = f (25 * u + c) := by
          unfold lmF
          rw [if_neg (by omega)]
        rw [this]; exact hf u c hu (by omega) hc
    intro t
    induction t with
    | zero =>
      intro d f a x3 x4 x5 hd h0 hf hA
      have hf2 := hlay 0 f (by omega) hf
      refine wp_iload_n rfl (ck_get kk_Mo_laysFewest 16 rfl) ?_
      first | refine wp_if_ltN (t := 122) (ck_get kk_Mo_laysFewest 17 rfl) (by decide) (by omega) (fun hc27 => ?_) (fun hc27 => ?_) | refine wp_if_lt (t := 122) (ck_get kk_Mo_laysFewest 17 rfl) (by decide) (fun hc27 => ?_) (fun hc27 => ?_)
      · exact hc27.elim
      · refine wp_aload_n rfl (ck_get kk_Mo_laysFewest 18 rfl) ?_
        refine wp_iload_n rfl (ck_get kk_Mo_laysFewest 19 rfl) ?_
        refine wp_cV1v (ck_get kk_Mo_laysFewest 20 rfl) ml_Mo_407 (by omega) (Nat.le_of_ble_eq_true rfl) (by assumption) (Cv.to (m_laysMisses (o := 1020) (t := 0) (by exact hM) (by omega)) ?_)
        rintro M1 w1
        rw [mf_lm, fr_22] at w1
        subst w1
        refine wp_iconst (v := nI 0) (by decide) (ck_get kk_Mo_laysFewest 21 rfl) ?_
        refine wp_istore_n (ck_get kk_Mo_laysFewest 22 rfl) (by decide) rfl ?_
        refine hmid _ 0 d hd (fun c hc => hf2 0 c (by omega) (by omega) hc) (fun a x4 x5 h0 hA => ?_) (z + 1) 0 a _ _ (by omega) h0 (hA.to (fun u l p => by omega))
        first | refine wp_iincD (ck_get kk_Mo_laysFewest 64 rfl) rfl (by decide) rfl ?_ | refine wp_iinc (ck_get kk_Mo_laysFewest 64 rfl) rfl (by decide) rfl ?_
        refine wp_goto (t := 26) (ck_get kk_Mo_laysFewest 65 rfl) (by decide) ?_
        skip
        refine wp_iload_n rfl (ck_get kk_Mo_laysFewest 16 rfl) ?_
        refine wp_if_lt (t := 122) (ck_get kk_Mo_laysFewest 17 rfl) (by decide) (fun hc27 => ?_) (fun hc27 => ?_)
        · refine wp_return (ck_get kk_Mo_laysFewest 66 rfl) rfl ⟨rfl, ?_⟩
          exact ⟨_, a, rfl, fun u c hu _ hc => hf2 u c hu (by omega) hc, hA.to (fun u l p => by omega), h0⟩
        · exact absurd (by decide) hc27
    | succ t ih =>
      intro d f a x3 x4 x5 hd h0 hf hA
      have hf2 := hlay (t + 1) f (by omega) hf
      refine wp_iload_n rfl (ck_get kk_Mo_laysFewest 16 rfl) ?_
      first | refine wp_if_ltN (t := 122) (ck_get kk_Mo_laysFewest 17 rfl) (by decide) (by omega) (fun hc27 => ?_) (fun hc27 => ?_) | refine wp_if_lt (t := 122) (ck_get kk_Mo_laysFewest 17 rfl) (by decide) (fun hc27 => ?_) (fun hc27 => ?_)
      · exact hc27.elim
      · refine wp_aload_n rfl (ck_get kk_Mo_laysFewest 18 rfl) ?_
        refine wp_iload_n rfl (ck_get kk_Mo_laysFewest 19 rfl) ?_
        refine wp_cV1v (ck_get kk_Mo_laysFewest 20 rfl) ml_Mo_407 (by omega) (Nat.le_of_ble_eq_true rfl) (by assumption) (Cv.to (m_laysMisses (o := 1020) (t := t + 1) (by exact hM) (by omega)) ?_)
        rintro M1 w1
        rw [mf_lm, fr_22] at w1
        subst w1
        refine wp_iconst (v := nI 0) (by decide) (ck_get kk_Mo_laysFewest 21 rfl) ?_
        refine wp_istore_n (ck_get kk_Mo_laysFewest 22 rfl) (by decide) rfl ?_
        refine hmid _ (t + 1) d hd (fun c hc => hf2 (t + 1) c (by omega) (by omega) hc) (fun a x4 x5 h0 hA => ?_) (z + 1) 0 a _ _ (by omega) h0 (hA.to (fun u l p => by omega))
        first | refine wp_iincD (ck_get kk_Mo_laysFewest 64 rfl) rfl (by decide) rfl ?_ | refine wp_iinc (ck_get kk_Mo_laysFewest 64 rfl) rfl (by decide) rfl ?_
        refine wp_goto (t := 26) (ck_get kk_Mo_laysFewest 65 rfl) (by decide) ?_
        exact ih (d + 1) _ a _ _ _ (by omega) h0 (fun u c hu hp hc => hf2 u c hu (by omega) hc) (hA.to (fun u l p => by omega))
  have hzero : ∀ e j (a : Nat → Int32) (x3 x4 x5 : Option Value), j + e = z + 1 → (∀ i, i < j → a (196 + i) = nI 0) → Wp g Y_Mo_laysFewest 2 2 [some (.ref 1020), some (.int (nI z)), some (.int (nI j)), x3, x4, x5] [] (mfM (frM M a) (mI M 1040)) (fun r M2 => r = none ∧ ∃ f a, M2 = mfM (frM M a) f ∧ MsN f w (fun _ => True) ∧ DpX (vA (msN w)) a (fun _ l => l ≤ z) ∧ ∀ j, j ≤ z → a (196 + j) = nI 0) := by
    intro e
    induction e with
    | zero =>
      intro j a x3 x4 x5 h1 h0
      refine wp_iload_n rfl (ck_get kk_Mo_laysFewest 2 rfl) ?_
      refine wp_iload_n rfl (ck_get kk_Mo_laysFewest 3 rfl) ?_
      first | refine wp_icmp_gtN (t := 24) (ck_get kk_Mo_laysFewest 4 rfl) (by decide) (by omega) (by omega) (fun hc4 => ?_) (fun hc4 => ?_) | refine wp_icmp_gt (t := 24) (ck_get kk_Mo_laysFewest 4 rfl) (by decide) (fun hc4 => ?_) (fun hc4 => ?_)
      · refine wp_iconst (v := nI 3) (by decide) (ck_get kk_Mo_laysFewest 14 rfl) ?_
        refine wp_istore_n (ck_get kk_Mo_laysFewest 15 rfl) (by decide) rfl ?_
        exact hout 3 0 _ a _ _ _ (by omega) (fun i hi => h0 i (by omega)) (fun u c hu hp hc => by omega) (fun u l hu hl hp => by omega)
      · omega
    | succ e ih =>
      intro j a x3 x4 x5 h1 h0
      refine wp_iload_n rfl (ck_get kk_Mo_laysFewest 2 rfl) ?_
      refine wp_iload_n rfl (ck_get kk_Mo_laysFewest 3 rfl) ?_
      first | refine wp_icmp_gtN (t := 24) (ck_get kk_Mo_laysFewest 4 rfl) (by decide) (by omega) (by omega) (fun hc4 => ?_) (fun hc4 => ?_) | refine wp_icmp_gt (t := 24) (ck_get kk_Mo_laysFewest 4 rfl) (by decide) (fun hc4 => ?_) (fun hc4 => ?_)
      · omega
      · refine wp_aload_n rfl (ck_get kk_Mo_laysFewest 5 rfl) ?_
        refine wp_getR (ck_get kk_Mo_laysFewest 6 rfl) fl_Mo_106 (by assumption) (by assumption) ?_
        refine wp_sipush (v := nI 196) (by decide) (ck_get kk_Mo_laysFewest 7 rfl) ?_
        refine wp_iload_n rfl (ck_get kk_Mo_laysFewest 8 rfl) ?_
        first | refine wp_iaddN (ck_get kk_Mo_laysFewest 9 rfl) ?_ | refine wp_iadd (ck_get kk_Mo_laysFewest 9 rfl) ?_
        refine wp_iconst (v := nI 0) (by decide) (ck_get kk_Mo_laysFewest 10 rfl) ?_
        refine wp_iast (ck_get kk_Mo_laysFewest 11 rfl) (by assumption) (ixk_nI (k := 196 + j) (by omega) (by omega)) ?_
        rw [fr_s]
        first | refine wp_iincN (ck_get kk_Mo_laysFewest 12 rfl) rfl (by decide) rfl ?_ | refine wp_iinc (ck_get kk_Mo_laysFewest 12 rfl) rfl (by decide) rfl ?_
        refine wp_goto (t := 2) (ck_get kk_Mo_laysFewest 13 rfl) (by decide) ?_
        refine ih (j + 1) _ _ _ _ (by omega) (fun i hi => ?_)
        by_cases e : i = j
        · subst e; rw [up1_eq]
        · rw [up1_ne (by omega)]; exact h0 i (by omega)
  refine cw_entry 4 pf_Mo_laysFewest rfl ?_
  have hz0 := hzero (z + 1) 0 (mI M 1046) none none none (by omega) (fun i hi => by omega)
  rw [fr_id] at hz0
  refine wp_iconst (v := nI 0) (by decide) (ck_get kk_Mo_laysFewest 0 rfl) ?_
  refine wp_istore_n (ck_get kk_Mo_laysFewest 1 rfl) (by decide) rfl ?_
  exact hz0
end BEV

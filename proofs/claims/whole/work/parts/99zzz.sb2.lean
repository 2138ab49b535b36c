/-! ===== the class writes signs and numbers ===== -/
section SBE
variable {g : Gl} {M : Mem}
theorem SbV.ne {M0 : Mem} {rp : List Nat} {v cap : Nat} (h : SbV M0 M rp v cap) : v ≠ 949 := by
  have := h.1.2.2.2.1
  omega
theorem SbV.push {M0 : Mem} {rp : List Nat} {v cap ch : Nat} (h : SbV M0 M rp v cap) (hl : rp.length + 1 ≤ cap) (hc : ch < 128) : SbV M0 (sI (sI M 949 3 (nI (rp.length + 1))) v rp.length (nI ch)) (rp ++ [ch]) v cap := by
  have hne := h.ne
  have eL : (rp ++ [ch]).length = rp.length + 1 := by rw [List.length_append]; rfl
  have e9 : ∀ k, up2 (up2 (mI M) 949 3 (nI (rp.length + 1))) v rp.length (nI ch) 949 k = up1 (mI M 949) 3 (nI (rp.length + 1)) k := fun k => by
    rw [up2_up1, up1_ne (Ne.symm hne), up2_up1, up1_eq]
  have ev : ∀ k, up2 (up2 (mI M) 949 3 (nI (rp.length + 1))) v rp.length (nI ch) v k = up1 (mI M v) rp.length (nI ch) k := fun k => by
    rw [up2_up1, up1_eq, up2_up1, up1_ne hne]
  refine h.wr (I2 := up2 (up2 (mI M) 949 3 (nI (rp.length + 1))) v rp.length (nI ch)) ?_ ?_ ?_ (fun i => ?_) (fun i hi => ?_) (fun x q1 q2 => ?_)
  · rw [e9, up1_ne (by omega)]; exact h.1.2.2.2.2.1
  · rw [e9, up1_eq, eL]
  · omega
  · rw [ev]
    by_cases q : i = rp.length
    · subst q; rw [up1_eq]; exact ob_nI hc
    · rw [up1_ne q]; exact h.2.1.2.2.2.1 i
  · rw [ev]
    by_cases q : i = rp.length
    · subst q; rw [up1_eq, gd_r rfl]
    · rw [up1_ne q, gd_l (by omega)]; exact h.2.1.2.2.2.2 i (by omega)
  · rw [up2_up1, up1_ne q2, up2_up1, up1_ne q1]
theorem SbV.num {M0 : Mem} {rp l : List Nat} {v cap : Nat} (h : SbV M0 M rp v cap) (hl : rp.length + l.length ≤ cap) (hc : ∀ c ∈ l, c < 128) : SbV M0 (sI (mk2 M (up1 (mI M) v (wrF (mI M v) rp.length l)) (mJ M)) 949 3 (nI (rp.length + l.length))) (rp ++ l) v cap := by
  have hne := h.ne
  have e9 : ∀ k, up2 (up1 (mI M) v (wrF (mI M v) rp.length l)) 949 3 (nI (rp.length + l.length)) 949 k = up1 (mI M 949) 3 (nI (rp.length + l.length)) k := fun k => by
    rw [up2_up1, up1_eq, up1_ne (Ne.symm hne)]
  have ev : ∀ k, up2 (up1 (mI M) v (wrF (mI M v) rp.length l)) 949 3 (nI (rp.length + l.length)) v k = wrF (mI M v) rp.length l k := fun k => by
    rw [up2_up1, up1_ne hne, up1_eq]
  refine h.wr (I2 := up2 (up1 (mI M) v (wrF (mI M v) rp.length l)) 949 3 (nI (rp.length + l.length))) ?_ ?_ ?_ (fun i => ?_) (fun i hi => ?_) (fun x q1 q2 => ?_)
  · rw [e9, up1_ne (by omega)]; exact h.1.2.2.2.2.1
  · rw [e9, up1_eq, List.length_append]
  · rw [List.length_append]; omega
  · rw [ev]
    by_cases q : rp.length ≤ i ∧ i < rp.length + l.length
    · have e1 : wrF (mI M v) rp.length l i = nI (l.getD (i - rp.length) 0) := if_pos q
      rw [e1]
      refine ob_nI (hc _ ?_)
      rw [List.getD_eq_getElem?_getD, List.getElem?_eq_getElem (by omega)]
      exact List.getElem_mem _
    · have e1 : wrF (mI M v) rp.length l i = mI M v i := if_neg q
      rw [e1]; exact h.2.1.2.2.2.1 i
  · rw [ev]
    rw [List.length_append] at hi
    by_cases q : rp.length ≤ i
    · have e1 : wrF (mI M v) rp.length l i = nI (l.getD (i - rp.length) 0) := if_pos ⟨q, hi⟩
      rw [e1, List.getD_eq_getElem?_getD, List.getD_eq_getElem?_getD, List.getElem?_append_right q]
    · rw [wrF_lo (by omega), gd_l (by omega)]; exact h.2.1.2.2.2.2 i (by omega)
  · rw [up2_up1, up1_ne q1, up1_ne q2]
theorem c_asAppC {M0 : Mem} {rp : List Nat} {v cap ch : Nat} (hP : PvOK g) (hS : StrOK g) (h : SbV M0 M rp v cap) (hc : ch < 128) (hl : rp.length < 440) : Ca g Y_As_append_0 4 [.ref 949, .int (nI ch)] M (fun x M2 => x = some 949 ∧ ∃ v2 cap2, SbV M0 M2 (rp ++ [ch]) v2 cap2) := by
  have hV := h
  obtain ⟨⟨a1, a2, a3, a4, a5, a6⟩, ⟨b1, b2, b3, b4, b5⟩, -⟩ := h
  refine cw_entry 0 pf_As_append_0 rfl ?_
  refine wp_aload_n rfl (ck_get kk_As_append_0 0 rfl) ?_
  refine wp_aload_n rfl (ck_get kk_As_append_0 1 rfl) ?_
  refine wp_getIv (v := nI rp.length) (ck_get kk_As_append_0 2 rfl) fl_As_79 (by assumption) (b1) ?_
  refine wp_iconst (v := nI 1) (by decide) (ck_get kk_As_append_0 3 rfl) ?_
  first | refine wp_iaddN (ck_get kk_As_append_0 4 rfl) ?_ | refine wp_iadd (ck_get kk_As_append_0 4 rfl) ?_
  refine wp_cP1v (ck_get kk_As_append_0 5 rfl) ml_As_100 (fun U hU a => (hP U hU a).1) (by omega) (Nat.le_of_ble_eq_true rfl) cl12 a1 (Cv.to (c_ensure (mn := rp.length + 1) hP hV (by omega)) ?_)
  clear hV a1 a2 a3 a4 a5 a6 b1 b2 b3 b4 b5
  rintro M1 ⟨v2, cap2, hV, hm⟩
  obtain ⟨⟨a1, a2, a3, a4, a5, a6⟩, ⟨b1, b2, b3, b4, b5⟩, -⟩ := id hV
  refine wp_aload_n rfl (ck_get kk_As_append_0 6 rfl) ?_
  refine wp_cW0i (ck_get kk_As_append_0 7 rfl) ml_As_83 (by omega) (Nat.le_of_ble_eq_true rfl) a1 (Ci.to (s_isLat hS a1 a5) ?_)
  rintro _ M2 ⟨rfl, eqm1⟩
  obtain rfl := eqm1.symm
  first | refine wp_if_eqN (t := 45) (ck_get kk_As_append_0 8 rfl) (by decide) (by omega) (fun hc14 => ?_) (fun hc14 => ?_) | refine wp_if_eq (t := 45) (ck_get kk_As_append_0 8 rfl) (by decide) (fun hc14 => ?_) (fun hc14 => ?_)
  · exact absurd hc14 (by decide)
  · refine wp_iload_n rfl (ck_get kk_As_append_0 9 rfl) ?_
    refine wp_cS1i (ck_get kk_As_append_0 10 rfl) ml_As_191 (by omega) (Nat.le_of_ble_eq_true rfl) (Ci.to (c_canEnc hc) ?_)
    rintro _ M1 ⟨rfl, eqm1⟩
    obtain rfl := eqm1.symm
    first | refine wp_if_eqN (t := 45) (ck_get kk_As_append_0 11 rfl) (by decide) (by omega) (fun hc21 => ?_) (fun hc21 => ?_) | refine wp_if_eq (t := 45) (ck_get kk_As_append_0 11 rfl) (by decide) (fun hc21 => ?_) (fun hc21 => ?_)
    · exact absurd hc21 (by decide)
    · refine wp_aload_n rfl (ck_get kk_As_append_0 12 rfl) ?_
      refine wp_getR (ck_get kk_As_append_0 13 rfl) fl_As_15 (by assumption) (by assumption) ?_
      refine wp_aload_n rfl (ck_get kk_As_append_0 14 rfl) ?_
      refine wp_dup rfl (ck_get kk_As_append_0 15 rfl) ?_
      refine wp_getIv (v := nI rp.length) (ck_get kk_As_append_0 16 rfl) fl_As_79 (by assumption) (b1) ?_
      refine wp_dup_x1 rfl rfl (ck_get kk_As_append_0 17 rfl) ?_
      refine wp_iconst (v := nI 1) (by decide) (ck_get kk_As_append_0 18 rfl) ?_
      first | refine wp_iaddN (ck_get kk_As_append_0 19 rfl) ?_ | refine wp_iadd (ck_get kk_As_append_0 19 rfl) ?_
      refine wp_putI (ck_get kk_As_append_0 20 rfl) fl_As_79 (by decide +kernel) (by assumption) (okI_int _) ?_
      refine wp_iload_n rfl (ck_get kk_As_append_0 21 rfl) ?_
      refine wp_i2b (ck_get kk_As_append_0 22 rfl) ?_
      rw [b8 hc]
      first | refine wp_bast (ck_get kk_As_append_0 23 rfl) (by assumption) (ixk_nI (k := rp.length) (by omega) (by omega)) ?_ | refine wp_zast (ck_get kk_As_append_0 23 rfl) (by assumption) (ixk_nI (k := rp.length) (by omega) (by omega)) ?_
      rw [b8 hc]
      refine wp_goto (t := 75) (ck_get kk_As_append_0 24 rfl) (by decide) ?_
      refine wp_aload_n rfl (ck_get kk_As_append_0 41 rfl) ?_
      first | refine wp_areturn (ck_get kk_As_append_0 42 rfl) rfl rfl ⟨_, rfl, ?_⟩ | refine wp_areturnN (ck_get kk_As_append_0 42 rfl) rfl rfl ⟨_, rfl, ?_⟩
      exact ⟨rfl, v2, cap2, hV.push hm hc⟩
theorem c_appC {M0 : Mem} {rp : List Nat} {v cap ch : Nat} (hP : PvOK g) (hS : StrOK g) (h : SbV M0 M rp v cap) (hc : ch < 128) (hl : rp.length < 440) : Ca g Y_Sb_append_0 5 [.ref 949, .int (nI ch)] M (fun x M2 => x = some 949 ∧ ∃ v2 cap2, SbV M0 M2 (rp ++ [ch]) v2 cap2) := by
  refine cw_entry 0 pf_Sb_append_0 rfl ?_
  refine wp_aload_n rfl (ck_get kk_Sb_append_0 0 rfl) ?_
  refine wp_iload_n rfl (ck_get kk_Sb_append_0 1 rfl) ?_
  refine wp_cZ1a (ck_get kk_Sb_append_0 2 rfl) ml_Sb_50 (by omega) (Nat.le_of_ble_eq_true rfl) cl12 h.1.1 (Ca.to (c_asAppC hP hS h hc hl) ?_)
  rintro _ M1 ⟨rfl, hx⟩
  refine wp_pop rfl (ck_get kk_Sb_append_0 3 rfl) ?_
  refine wp_aload_n rfl (ck_get kk_Sb_append_0 4 rfl) ?_
  first | refine wp_areturn (ck_get kk_Sb_append_0 5 rfl) rfl rfl ⟨_, rfl, ?_⟩ | refine wp_areturnN (ck_get kk_Sb_append_0 5 rfl) rfl rfl ⟨_, rfl, ?_⟩
  exact ⟨rfl, hx⟩
theorem c_asAppI {M0 : Mem} {rp : List Nat} {v cap n : Nat} (hP : PvOK g) (hS : StrOK g) (hD : DgOK g) (h : SbV M0 M rp v cap) (hn : n < 2147483648) (hl : rp.length < 440) : Ca g Y_As_append_1 4 [.ref 949, .int (nI n)] M (fun x M2 => x = some 949 ∧ ∃ v2 cap2, SbV M0 M2 (rp ++ dg n) v2 cap2) := by
  have hV := h
  have hd := dg_le n
  obtain ⟨⟨a1, a2, a3, a4, a5, a6⟩, ⟨b1, b2, b3, b4, b5⟩, -⟩ := h
  refine cw_entry 2 pf_As_append_1 rfl ?_
  refine wp_aload_n rfl (ck_get kk_As_append_1 0 rfl) ?_
  refine wp_getIv (v := nI rp.length) (ck_get kk_As_append_1 1 rfl) fl_As_79 (by assumption) (b1) ?_
  refine wp_istore_n (ck_get kk_As_append_1 2 rfl) (by decide) rfl ?_
  refine wp_iload_n rfl (ck_get kk_As_append_1 3 rfl) ?_
  refine wp_iload_n rfl (ck_get kk_As_append_1 4 rfl) ?_
  refine wp_cS1i (ck_get kk_As_append_1 5 rfl) ml_As_245 (by omega) (Nat.le_of_ble_eq_true rfl) (Ci.to (c_stringSize hn) ?_)
  rintro _ M1 ⟨rfl, eqm1⟩
  obtain rfl := eqm1.symm
  first | refine wp_iaddN (ck_get kk_As_append_1 6 rfl) ?_ | refine wp_iadd (ck_get kk_As_append_1 6 rfl) ?_
  refine wp_istore_n (ck_get kk_As_append_1 7 rfl) (by decide) rfl ?_
  refine wp_aload_n rfl (ck_get kk_As_append_1 8 rfl) ?_
  refine wp_iload_n rfl (ck_get kk_As_append_1 9 rfl) ?_
  refine wp_cP1v (ck_get kk_As_append_1 10 rfl) ml_As_100 (fun U hU a => (hP U hU a).1) (by omega) (Nat.le_of_ble_eq_true rfl) cl12 a1 (Cv.to (c_ensure (mn := rp.length + (dg n).length) hP hV (by omega)) ?_)
  clear hV a1 a2 a3 a4 a5 a6 b1 b2 b3 b4 b5
  rintro M1 ⟨v2, cap2, hV, hm⟩
  obtain ⟨⟨a1, a2, a3, a4, a5, a6⟩, ⟨b1, b2, b3, b4, b5⟩, -⟩ := id hV
  refine wp_aload_n rfl (ck_get kk_As_append_1 11 rfl) ?_
  refine wp_cW0i (ck_get kk_As_append_1 12 rfl) ml_As_83 (by omega) (Nat.le_of_ble_eq_true rfl) a1 (Ci.to (s_isLat hS a1 a5) ?_)
  rintro _ M2 ⟨rfl, eqm1⟩
  obtain rfl := eqm1.symm
  first | refine wp_if_eqN (t := 37) (ck_get kk_As_append_1 13 rfl) (by decide) (by omega) (fun hc21 => ?_) (fun hc21 => ?_) | refine wp_if_eq (t := 37) (ck_get kk_As_append_1 13 rfl) (by decide) (fun hc21 => ?_) (fun hc21 => ?_)
  · exact absurd hc21 (by decide)
  · refine wp_iload_n rfl (ck_get kk_As_append_1 14 rfl) ?_
    refine wp_iload_n rfl (ck_get kk_As_append_1 15 rfl) ?_
    refine wp_aload_n rfl (ck_get kk_As_append_1 16 rfl) ?_
    refine wp_getR (ck_get kk_As_append_1 17 rfl) fl_As_15 (by assumption) (by assumption) ?_
    refine wp_cS3i (ck_get kk_As_append_1 18 rfl) ml_As_248 (by omega) (Nat.le_of_ble_eq_true rfl) (Ci.to (c_getChars (s := rp.length) hD a3 b3 hn hm) ?_)
    rintro x M3 w1
    subst w1
    refine wp_pop rfl (ck_get kk_As_append_1 19 rfl) ?_
    refine wp_goto (t := 48) (ck_get kk_As_append_1 20 rfl) (by decide) ?_
    refine wp_aload_n rfl (ck_get kk_As_append_1 28 rfl) ?_
    refine wp_iload_n rfl (ck_get kk_As_append_1 29 rfl) ?_
    refine wp_putI (ck_get kk_As_append_1 30 rfl) fl_As_79 (by decide +kernel) (by assumption) (okI_int _) ?_
    refine wp_aload_n rfl (ck_get kk_As_append_1 31 rfl) ?_
    first | refine wp_areturn (ck_get kk_As_append_1 32 rfl) rfl rfl ⟨_, rfl, ?_⟩ | refine wp_areturnN (ck_get kk_As_append_1 32 rfl) rfl rfl ⟨_, rfl, ?_⟩
    exact ⟨rfl, v2, cap2, hV.num hm (fun c hc => by have := dg_c hc; omega)⟩
theorem c_appI {M0 : Mem} {rp : List Nat} {v cap n : Nat} (hP : PvOK g) (hS : StrOK g) (hD : DgOK g) (h : SbV M0 M rp v cap) (hn : n < 2147483648) (hl : rp.length < 440) : Ca g Y_Sb_append_1 5 [.ref 949, .int (nI n)] M (fun x M2 => x = some 949 ∧ ∃ v2 cap2, SbV M0 M2 (rp ++ dg n) v2 cap2) := by
  refine cw_entry 0 pf_Sb_append_1 rfl ?_
  refine wp_aload_n rfl (ck_get kk_Sb_append_1 0 rfl) ?_
  refine wp_iload_n rfl (ck_get kk_Sb_append_1 1 rfl) ?_
  refine wp_cZ1a (ck_get kk_Sb_append_1 2 rfl) ml_Sb_53 (by omega) (Nat.le_of_ble_eq_true rfl) cl12 h.1.1 (Ca.to (c_asAppI hP hS hD h hn hl) ?_)
  rintro _ M1 ⟨rfl, hx⟩
  refine wp_pop rfl (ck_get kk_Sb_append_1 3 rfl) ?_
  refine wp_aload_n rfl (ck_get kk_Sb_append_1 4 rfl) ?_
  first | refine wp_areturn (ck_get kk_Sb_append_1 5 rfl) rfl rfl ⟨_, rfl, ?_⟩ | refine wp_areturnN (ck_get kk_Sb_append_1 5 rfl) rfl rfl ⟨_, rfl, ?_⟩
  exact ⟨rfl, hx⟩
theorem SbV.zero {M0 : Mem} {rp : List Nat} {v cap : Nat} {F : Nat → Int32} (h : SbV M0 M rp v cap) (h1 : F 1 = 0) (h3 : F 3 = nI 0) : SbV M0 (mk2 M (up1 (mI M) 949 F) (mJ M)) [] v cap := by
  have hne := h.ne
  refine h.wr (I2 := up1 (mI M) 949 F) ?_ ?_ (Nat.zero_le _) (fun i => ?_) (fun i hi => absurd hi (Nat.not_lt_zero _)) (fun x q1 q2 => up1_ne q1)
  · rw [up1_eq]; exact h1
  · rw [up1_eq]; exact h3
  · rw [up1_ne hne]; exact h.2.1.2.2.2.1 i
theorem c_asSetLen {M0 : Mem} {rp : List Nat} {v cap : Nat} (hP : PvOK g) (h : SbV M0 M rp v cap) (hl : rp.length < 440) : Cv g Y_As_setLength 4 [.ref 949, .int (nI 0)] M (fun M2 => ∃ v2 cap2, SbV M0 M2 [] v2 cap2) := by
  have hV := h
  obtain ⟨⟨a1, a2, a3, a4, a5, a6⟩, ⟨b1, b2, b3, b4, b5⟩, -⟩ := h
  refine cw_entry 0 pf_As_setLength rfl ?_
  refine wp_iload_n rfl (ck_get kk_As_setLength 0 rfl) ?_
  refine wp_if_ge (t := 13) (ck_get kk_As_setLength 1 rfl) (by decide) (fun hc1 => ?_) (fun hc1 => ?_)
  · refine wp_aload_n rfl (ck_get kk_As_setLength 7 rfl) ?_
    refine wp_iload_n rfl (ck_get kk_As_setLength 8 rfl) ?_
    refine wp_cP1v (ck_get kk_As_setLength 9 rfl) ml_As_100 (fun U hU a => (hP U hU a).1) (by omega) (Nat.le_of_ble_eq_true rfl) cl12 a1 (Cv.to (c_ensure (mn := 0) hP hV (by omega)) ?_)
    clear hV a1 a2 a3 a4 a5 a6 b1 b2 b3 b4 b5
    rintro M1 ⟨v2, cap2, hV, hm⟩
    obtain ⟨⟨a1, a2, a3, a4, a5, a6⟩, ⟨b1, b2, b3, b4, b5⟩, -⟩ := id hV
    refine wp_aload_n rfl (ck_get kk_As_setLength 10 rfl) ?_
    refine wp_getIv (v := nI rp.length) (ck_get kk_As_setLength 11 rfl) fl_As_79 (by assumption) (b1) ?_
    refine wp_iload_n rfl (ck_get kk_As_setLength 12 rfl) ?_
    first | refine wp_icmp_geN (t := 63) (ck_get kk_As_setLength 13 rfl) (by decide) (by omega) (by omega) (fun hc23 => ?_) (fun hc23 => ?_) | refine wp_icmp_ge (t := 63) (ck_get kk_As_setLength 13 rfl) (by decide) (fun hc23 => ?_) (fun hc23 => ?_)
    · refine wp_aload_n rfl (ck_get kk_As_setLength 31 rfl) ?_
      refine wp_getIv (v := nI rp.length) (ck_get kk_As_setLength 32 rfl) fl_As_79 (by assumption) (b1) ?_
      refine wp_iload_n rfl (ck_get kk_As_setLength 33 rfl) ?_
      first | refine wp_icmp_leN (t := 76) (ck_get kk_As_setLength 34 rfl) (by decide) (by omega) (by omega) (fun hc68 => ?_) (fun hc68 => ?_) | refine wp_icmp_le (t := 76) (ck_get kk_As_setLength 34 rfl) (by decide) (fun hc68 => ?_) (fun hc68 => ?_)
      · refine wp_aload_n rfl (ck_get kk_As_setLength 38 rfl) ?_
        refine wp_iload_n rfl (ck_get kk_As_setLength 39 rfl) ?_
        refine wp_putI (ck_get kk_As_setLength 40 rfl) fl_As_79 (by decide +kernel) (by assumption) (okI_int _) ?_
        refine wp_return (ck_get kk_As_setLength 41 rfl) rfl ⟨rfl, ?_⟩
        refine ⟨v2, cap2, ?_⟩
        have e : sI M1 949 3 (nI 0) = mk2 M1 (up1 (mI M1) 949 (up1 (mI M1 949) 3 (nI 0))) (mJ M1) := mk2_ext (M := M1) (up2_up1 _ _ _ _) rfl
        rw [e]
        exact hV.zero (by rw [up1_ne (by omega)]; exact a5) up1_eq
      · refine wp_aload_n rfl (ck_get kk_As_setLength 35 rfl) ?_
        refine wp_iconst (v := nI 1) (by decide) (ck_get kk_As_setLength 36 rfl) ?_
        refine wp_putI (ck_get kk_As_setLength 37 rfl) fl_As_73 (by decide +kernel) (by assumption) (by first | exact okI_b0 | exact okI_b1) ?_
        refine wp_aload_n rfl (ck_get kk_As_setLength 38 rfl) ?_
        refine wp_iload_n rfl (ck_get kk_As_setLength 39 rfl) ?_
        refine wp_putI (ck_get kk_As_setLength 40 rfl) fl_As_79 (by decide +kernel) (by assumption) (okI_int _) ?_
        refine wp_return (ck_get kk_As_setLength 41 rfl) rfl ⟨rfl, ?_⟩
        refine ⟨v2, cap2, ?_⟩
        have e : sI (sI M1 949 2 (nI 1)) 949 3 (nI 0) = mk2 M1 (up1 (mI M1) 949 (up1 (up1 (mI M1 949) 2 (nI 1)) 3 (nI 0))) (mJ M1) := mk2_ext (M := M1) (by
          show up2 (up2 (mI M1) 949 2 (nI 1)) 949 3 (nI 0) = _
          rw [up2_up1, up2_up1, up1_up1, up1_eq]) rfl
        rw [e]
        exact hV.zero (by rw [up1_ne (by omega), up1_ne (by omega)]; exact a5) up1_eq
    · omega
  · exact absurd (by decide) hc1
theorem c_setLen {M0 : Mem} {rp : List Nat} {v cap : Nat} (hP : PvOK g) (h : SbV M0 M rp v cap) (hl : rp.length < 440) : Cv g Y_Sb_setLength 5 [.ref 949, .int (nI 0)] M (fun M2 => ∃ v2 cap2, SbV M0 M2 [] v2 cap2) := by
  refine cw_entry 0 pf_Sb_setLength rfl ?_
  refine wp_aload_n rfl (ck_get kk_Sb_setLength 0 rfl) ?_
  refine wp_iload_n rfl (ck_get kk_Sb_setLength 1 rfl) ?_
  refine wp_cZ1v (ck_get kk_Sb_setLength 2 rfl) ml_Sb_333 (by omega) (Nat.le_of_ble_eq_true rfl) cl12 h.1.1 (Cv.to (c_asSetLen hP h hl) ?_)
  rintro M1 hx
  refine wp_return (ck_get kk_Sb_setLength 3 rfl) rfl ⟨rfl, ?_⟩
  exact hx
/-- what a report says of the first k bends -/
def rpL (nb ms : Nat → Nat) : Nat → List Nat
  | 0 => []
  | k + 1 => rpL nb ms k ++ (if 0 < k then [44] else []) ++ dg (nb k) ++ [58] ++ dg (ms (nb k))
theorem rpL_len {nb ms : Nat → Nat} {n : Nat} (h : ∀ i, i < n → nb i ≤ 24) : ∀ k, k ≤ n → (rpL nb ms k).length ≤ 14 * k := by
  intro k
  induction k with
  | zero => intro _; exact Nat.le_refl 0
  | succ k ih =>
    intro hk
    have h1 := ih (by omega)
    have h2 := dg_2 (n := nb k) (by have := h k (by omega); omega)
    have h3 := dg_le (ms (nb k))
    have h4 : (if 0 < k then [44] else ([] : List Nat)).length ≤ 1 := by split <;> simp
    show (rpL nb ms k ++ (if 0 < k then [44] else []) ++ dg (nb k) ++ [58] ++ dg (ms (nb k))).length ≤ _
    simp only [List.length_append, List.length_singleton]
    omega
theorem rpL_c {nb ms : Nat → Nat} : ∀ k, ∀ c ∈ rpL nb ms k, c < 128 := by
  intro k
  induction k with
  | zero => intro c h; exact absurd h (by simp [rpL])
  | succ k ih =>
    intro c h
    have h : c ∈ rpL nb ms k ++ (if 0 < k then [44] else []) ++ dg (nb k) ++ [58] ++ dg (ms (nb k)) := h
    rcases List.mem_append.mp h with h | h
    · rcases List.mem_append.mp h with h | h
      · rcases List.mem_append.mp h with h | h
        · rcases List.mem_append.mp h with h | h
          · exact ih c h
          · split at h
            · have := List.mem_singleton.mp h
              omega
            · exact absurd h (by simp)
        · have := dg_c h
          omega
      · have := List.mem_singleton.mp h
        omega
    · have := dg_c h
      omega
end SBE

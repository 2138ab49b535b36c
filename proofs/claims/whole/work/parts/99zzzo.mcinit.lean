/-! ===== the class at the start ===== -/
section MCI
variable {g : Gl} {M : Mem}
theorem shC_len (a : Nat) : (shC a).length = 30 := by
  show ((([] : List Cel) ++ woC (a + 1)) ++ [cN 20 6 6] ++ [cN 20 6 6] ++ [cN 27 6 6]).length + 1 = 30
  rw [List.length_append, List.length_append, List.length_append, List.length_append, woC_len]; rfl
theorem mz_of {o : Cel} {S : List Cel} {n : Nat} (h : S.length = n) : mZ (ofL ([] ++ o :: S)) = n + 1 := by
  show S.length + 1 = n + 1
  rw [h]
theorem lz_of {o : Cel} {S : List Cel} {n : Nat} (h : S.length = n) : (([] : List Cel) ++ o :: S).length = n + 1 := by
  show S.length + 1 = n + 1
  rw [h]
def mS1 : List Cel := ([] : List Cel) ++ shC 1
theorem mS1_len : mS1.length = 30 := shC_len 1
def mS2 : List Cel := mS1 ++ trC 31
theorem mS2_len : mS2.length = 449 := by
  unfold mS2
  rw [List.length_append, mS1_len, trC_len 31]
def mS3 : List Cel := mS2 ++ trC 450
theorem mS3_len : mS3.length = 868 := by
  unfold mS3
  rw [List.length_append, mS2_len, trC_len 450]
def mS4 : List Cel := mS3 ++ woC 869
theorem mS4_len : mS4.length = 894 := by
  unfold mS4
  rw [List.length_append, mS3_len, woC_len 869]
def mS5 : List Cel := mS4 ++ woC 895
theorem mS5_len : mS5.length = 920 := by
  unfold mS5
  rw [List.length_append, mS4_len, woC_len 895]
def mS (t : Nat) (R : List Cel) : List Cel := mS5 ++ cX 26 2 960 30 t :: R
theorem mS_len {t n : Nat} {R : List Cel} (h : R.length = n) : (mS t R).length = 921 + n := by
  unfold mS
  rw [List.length_append, mS5_len, List.length_cons, h]; omega
theorem mS_app {t : Nat} {R Y : List Cel} : mS t R ++ Y = mS t (R ++ Y) := by
  unfold mS
  rw [List.append_assoc, List.cons_append]
def mR1 : List Cel := ([] : List Cel) ++ [cN 23 2 2]
theorem mR1_len : mR1.length = 1 := by
  unfold mR1
  rw [List.length_append, show ([] : List Cel).length = 0 from rfl, show ([cN 23 2 2] : List Cel).length = 1 from rfl]
def mR2 : List Cel := mR1 ++ [cN 20 400 400]
theorem mR2_len : mR2.length = 2 := by
  unfold mR2
  rw [List.length_append, mR1_len, show ([cN 20 400 400] : List Cel).length = 1 from rfl]
def mR3 : List Cel := mR2 ++ paC 924
theorem mR3_len : mR3.length = 12 := by
  unfold mR3
  rw [List.length_append, mR2_len, show (paC 924).length = 10 from rfl]
def mR4 : List Cel := mR3 ++ juC 934
theorem mR4_len : mR4.length = 16 := by
  unfold mR4
  rw [List.length_append, mR3_len, show (juC 934).length = 4 from rfl]
def mR5 : List Cel := mR4 ++ reC 938
theorem mR5_len : mR5.length = 25 := by
  unfold mR5
  rw [List.length_append, mR4_len, show (reC 938).length = 9 from rfl]
def mR6 : List Cel := mR5 ++ cuC 947
theorem mR6_len : mR6.length = 30 := by
  unfold mR6
  rw [List.length_append, mR5_len, show (cuC 947).length = 5 from rfl]
def mR7 : List Cel := mR6 ++ deC 952
theorem mR7_len : mR7.length = 37 := by
  unfold mR7
  rw [List.length_append, mR6_len, show (deC 952).length = 7 from rfl]
def mR8 : List Cel := mR7 ++ [cN 20 7 7]
theorem mR8_len : mR8.length = 38 := by
  unfold mR8
  rw [List.length_append, mR7_len, show ([cN 20 7 7] : List Cel).length = 1 from rfl]
def mR9 : List Cel := mR8 ++ shC 960
def mR10 : List Cel := mR9 ++ shC 990
theorem mR9_len : mR9.length = 68 := by
  unfold mR9
  rw [List.length_append, mR8_len, shC_len]
theorem mR10_len : mR10.length = 98 := by
  unfold mR10
  rw [List.length_append, mR9_len, shC_len]
def mcO : Cel := cR (cI (cI (cI (cR (cR (cR (cR (cR (cI (cR (cR (cR (cI (cR (cR (cR (cR (cR (cN 10 0 (NF 10)) 0 (some 1)) 1 (some 31)) 2 (some 450)) 3 (some 869)) 4 (some 895)) 5 (nI 0)) 6 (some 921)) 7 (some 922)) 8 (some 923)) 9 (nI 0)) 10 (some 924)) 11 (some 934)) 12 (some 938)) 13 (some 947)) 14 (some 952)) 15 (nI 0)) 16 ((-1))) 17 (nI 0)) 18 (some 959)
def mcC : List Cel := mcO :: mS 2 mR10
theorem mcC_len : mcC.length = 1020 := by
  show (mS 2 mR10).length + 1 = 1020
  rw [mS_len mR10_len]
theorem mS_v {o : Cel} {t : Nat} {R : List Cel} : ([] : List Cel) ++ o :: mS t R = ([] ++ o :: mS5) ++ cX 26 2 960 30 t :: R := rfl
theorem mS_T {o : Cel} {t : Nat} {R : List Cel} : mT (ofL ([] ++ o :: mS t R)) 921 = (26, 2) := by
  rw [mS_v]; exact ofL_T (lz_of mS5_len)
theorem mS_s {o : Cel} {t : Nat} {R : List Cel} : sR (ofL ([] ++ o :: mS t R)) 921 t (some (960 + 30 * t)) = ofL ([] ++ o :: mS (t + 1) R) := by
  rw [mS_v, ofL_sR (lz_of mS5_len), cX_s, ← mS_v]
theorem i_Mc (hS : StrOK g) : Cv g Y_Mc_init 6 [.ref 0] (ofL [cN 10 0 (NF 10)]) (fun M2 => M2 = ofL mcC) := by
  have h0 : ([] : List Cel).length = 0 := rfl
  refine cw_entry 1 pf_Mc_init rfl ?_
  show Wp g Y_Mc_init 6 0 [some (.ref 0), none] [] (ofL ([] ++ cN 10 0 (NF 10) :: [])) _
  refine wp_aload_n rfl (ck_get kk_Mc_init 0 rfl) ?_
  refine wp_objInit (ck_get kk_Mc_init 1 rfl) ol_Mc_3 oi_ok (by omega) (Nat.le_of_ble_eq_true rfl) ?_
  refine wp_aload_n rfl (ck_get kk_Mc_init 2 rfl) ?_
  refine wp_new (ck_get kk_Mc_init 3 rfl) cl_Mc_9 ?_
  rw [mz_of (show ([] : List Cel).length = 0 from rfl), ofL_n1]
  refine wp_dup rfl (ck_get kk_Mc_init 4 rfl) ?_
  refine wp_cIN0v (ck_get kk_Mc_init 5 rfl) ml_Mc_11 (by omega) (Nat.le_of_ble_eq_true rfl) (Cv.to (i_Sh (lz_of (show ([] : List Cel).length = 0 from rfl))) ?_)
  rintro M1 rfl
  rw [ofL_a]
  rw [show ([] : List Cel) ++ shC 1 = mS1 from rfl]
  refine wp_putR (ck_get kk_Mc_init 6 rfl) fl_Mc_12 (by decide +kernel) (ofL_T h0) ?_
  rw [ofL_sR h0]
  refine wp_aload_n rfl (ck_get kk_Mc_init 7 rfl) ?_
  refine wp_new (ck_get kk_Mc_init 8 rfl) cl_Mc_16 ?_
  rw [mz_of mS1_len, ofL_n1]
  refine wp_dup rfl (ck_get kk_Mc_init 9 rfl) ?_
  refine wp_cI0v (ck_get kk_Mc_init 10 rfl) ml_Mc_18 (by omega) (Nat.le_of_ble_eq_true rfl) (Cv.to (i_Tr (lz_of mS1_len)) ?_)
  rintro M1 rfl
  rw [ofL_a]
  rw [show mS1 ++ trC 31 = mS2 from rfl]
  refine wp_putR (ck_get kk_Mc_init 11 rfl) fl_Mc_19 (by decide +kernel) (ofL_T h0) ?_
  rw [ofL_sR h0]
  refine wp_aload_n rfl (ck_get kk_Mc_init 12 rfl) ?_
  refine wp_new (ck_get kk_Mc_init 13 rfl) cl_Mc_16 ?_
  rw [mz_of mS2_len, ofL_n1]
  refine wp_dup rfl (ck_get kk_Mc_init 14 rfl) ?_
  refine wp_cI0v (ck_get kk_Mc_init 15 rfl) ml_Mc_18 (by omega) (Nat.le_of_ble_eq_true rfl) (Cv.to (i_Tr (lz_of mS2_len)) ?_)
  rintro M1 rfl
  rw [ofL_a]
  rw [show mS2 ++ trC 450 = mS3 from rfl]
  refine wp_putR (ck_get kk_Mc_init 16 rfl) fl_Mc_23 (by decide +kernel) (ofL_T h0) ?_
  rw [ofL_sR h0]
  refine wp_aload_n rfl (ck_get kk_Mc_init 17 rfl) ?_
  refine wp_new (ck_get kk_Mc_init 18 rfl) cl_Mc_26 ?_
  rw [mz_of mS3_len, ofL_n1]
  refine wp_dup rfl (ck_get kk_Mc_init 19 rfl) ?_
  refine wp_cI0v (ck_get kk_Mc_init 20 rfl) ml_Mc_28 (by omega) (Nat.le_of_ble_eq_true rfl) (Cv.to (i_Wo (lz_of mS3_len)) ?_)
  rintro M1 rfl
  rw [ofL_a]
  rw [show mS3 ++ woC 869 = mS4 from rfl]
  refine wp_putR (ck_get kk_Mc_init 21 rfl) fl_Mc_29 (by decide +kernel) (ofL_T h0) ?_
  rw [ofL_sR h0]
  refine wp_aload_n rfl (ck_get kk_Mc_init 22 rfl) ?_
  refine wp_new (ck_get kk_Mc_init 23 rfl) cl_Mc_26 ?_
  rw [mz_of mS4_len, ofL_n1]
  refine wp_dup rfl (ck_get kk_Mc_init 24 rfl) ?_
  refine wp_cI0v (ck_get kk_Mc_init 25 rfl) ml_Mc_28 (by omega) (Nat.le_of_ble_eq_true rfl) (Cv.to (i_Wo (lz_of mS4_len)) ?_)
  rintro M1 rfl
  rw [ofL_a]
  rw [show mS4 ++ woC 895 = mS5 from rfl]
  refine wp_putR (ck_get kk_Mc_init 26 rfl) fl_Mc_33 (by decide +kernel) (ofL_T h0) ?_
  rw [ofL_sR h0]
  refine wp_aload_n rfl (ck_get kk_Mc_init 27 rfl) ?_
  refine wp_iconst (v := nI 0) (by decide) (ck_get kk_Mc_init 28 rfl) ?_
  refine wp_putI (ck_get kk_Mc_init 29 rfl) fl_Mc_36 (by decide +kernel) (ofL_T h0) (by first | exact okI_b0 | exact okI_b1) ?_
  rw [ofL_sI h0]
  refine wp_aload_n rfl (ck_get kk_Mc_init 30 rfl) ?_
  refine wp_iconst (v := nI 2) (by decide) (ck_get kk_Mc_init 31 rfl) ?_
  refine wp_anew (κ := 26) (len := 2) (ck_get kk_Mc_init 32 rfl) rfl al_Mc_9.1 al_Mc_9.2 (by decide) rfl (by decide) ?_
  rw [mz_of mS5_len, ofL_nw]
  rw [show mS5 ++ [cN 26 2 2] = mS 0 [] by rw [← cX_0 (b := 960) (d := 30)]; rfl]
  refine wp_putR (ck_get kk_Mc_init 33 rfl) fl_Mc_40 (by decide +kernel) (ofL_T h0) ?_
  rw [ofL_sR h0]
  refine wp_aload_n rfl (ck_get kk_Mc_init 34 rfl) ?_
  refine wp_iconst (v := nI 2) (by decide) (ck_get kk_Mc_init 35 rfl) ?_
  refine wp_newarr (κ := 23) (len := 2) (ck_get kk_Mc_init 36 rfl) rfl ac_boolean (by decide) rfl (by decide) ?_
  rw [mz_of (mS_len (t := 0) (R := []) rfl), ofL_nw]
  rw [show mS 0 [] ++ [cN 23 2 2] = mS 0 mR1 by unfold mR1; exact mS_app]
  refine wp_putR (ck_get kk_Mc_init 37 rfl) fl_Mc_44 (by decide +kernel) (ofL_T h0) ?_
  rw [ofL_sR h0]
  refine wp_aload_n rfl (ck_get kk_Mc_init 38 rfl) ?_
  refine wp_sipush (v := nI 400) (by decide) (ck_get kk_Mc_init 39 rfl) ?_
  refine wp_newarr (κ := 20) (len := 400) (ck_get kk_Mc_init 40 rfl) rfl ac_int (by decide) rfl (by decide) ?_
  rw [mz_of (mS_len (t := 0) mR1_len), ofL_nw]
  rw [show mS 0 mR1 ++ [cN 20 400 400] = mS 0 mR2 by unfold mR2; exact mS_app]
  refine wp_putR (ck_get kk_Mc_init 41 rfl) fl_Mc_48 (by decide +kernel) (ofL_T h0) ?_
  rw [ofL_sR h0]
  refine wp_aload_n rfl (ck_get kk_Mc_init 42 rfl) ?_
  refine wp_iconst (v := nI 0) (by decide) (ck_get kk_Mc_init 43 rfl) ?_
  refine wp_putI (ck_get kk_Mc_init 44 rfl) fl_Mc_52 (by decide +kernel) (ofL_T h0) (okI_int _) ?_
  rw [ofL_sI h0]
  refine wp_aload_n rfl (ck_get kk_Mc_init 45 rfl) ?_
  refine wp_new (ck_get kk_Mc_init 46 rfl) cl_Mc_56 ?_
  rw [mz_of (mS_len (t := 0) mR2_len), ofL_n1]
  refine wp_dup rfl (ck_get kk_Mc_init 47 rfl) ?_
  refine wp_cIN0v (ck_get kk_Mc_init 48 rfl) ml_Mc_58 (by omega) (Nat.le_of_ble_eq_true rfl) (Cv.to (i_Pa (lz_of (mS_len (t := 0) mR2_len))) ?_)
  rintro M1 rfl
  rw [ofL_a]
  rw [show mS 0 mR2 ++ paC 924 = mS 0 mR3 by unfold mR3; exact mS_app]
  refine wp_putR (ck_get kk_Mc_init 49 rfl) fl_Mc_59 (by decide +kernel) (ofL_T h0) ?_
  rw [ofL_sR h0]
  refine wp_aload_n rfl (ck_get kk_Mc_init 50 rfl) ?_
  refine wp_new (ck_get kk_Mc_init 51 rfl) cl_Mc_63 ?_
  rw [mz_of (mS_len (t := 0) mR3_len), ofL_n1]
  refine wp_dup rfl (ck_get kk_Mc_init 52 rfl) ?_
  refine wp_cIN0v (ck_get kk_Mc_init 53 rfl) ml_Mc_65 (by omega) (Nat.le_of_ble_eq_true rfl) (Cv.to (i_Ju (lz_of (mS_len (t := 0) mR3_len))) ?_)
  rintro M1 rfl
  rw [ofL_a]
  rw [show mS 0 mR3 ++ juC 934 = mS 0 mR4 by unfold mR4; exact mS_app]
  refine wp_putR (ck_get kk_Mc_init 54 rfl) fl_Mc_66 (by decide +kernel) (ofL_T h0) ?_
  rw [ofL_sR h0]
  refine wp_aload_n rfl (ck_get kk_Mc_init 55 rfl) ?_
  refine wp_new (ck_get kk_Mc_init 56 rfl) cl_Mc_70 ?_
  rw [mz_of (mS_len (t := 0) mR4_len), ofL_n1]
  refine wp_dup rfl (ck_get kk_Mc_init 57 rfl) ?_
  refine wp_cIN0v (ck_get kk_Mc_init 58 rfl) ml_Mc_72 (by omega) (Nat.le_of_ble_eq_true rfl) (Cv.to (i_Re (lz_of (mS_len (t := 0) mR4_len))) ?_)
  rintro M1 rfl
  rw [ofL_a]
  rw [show mS 0 mR4 ++ reC 938 = mS 0 mR5 by unfold mR5; exact mS_app]
  refine wp_putR (ck_get kk_Mc_init 59 rfl) fl_Mc_73 (by decide +kernel) (ofL_T h0) ?_
  rw [ofL_sR h0]
  refine wp_aload_n rfl (ck_get kk_Mc_init 60 rfl) ?_
  refine wp_new (ck_get kk_Mc_init 61 rfl) cl_Mc_77 ?_
  rw [mz_of (mS_len (t := 0) mR5_len), ofL_n1]
  refine wp_dup rfl (ck_get kk_Mc_init 62 rfl) ?_
  refine wp_cIN0v (ck_get kk_Mc_init 63 rfl) ml_Mc_79 (by omega) (Nat.le_of_ble_eq_true rfl) (Cv.to (i_Cu hS (lz_of (mS_len (t := 0) mR5_len))) ?_)
  rintro M1 rfl
  rw [ofL_a]
  rw [show mS 0 mR5 ++ cuC 947 = mS 0 mR6 by unfold mR6; exact mS_app]
  refine wp_putR (ck_get kk_Mc_init 64 rfl) fl_Mc_80 (by decide +kernel) (ofL_T h0) ?_
  rw [ofL_sR h0]
  refine wp_aload_n rfl (ck_get kk_Mc_init 65 rfl) ?_
  refine wp_new (ck_get kk_Mc_init 66 rfl) cl_Mc_84 ?_
  rw [mz_of (mS_len (t := 0) mR6_len), ofL_n1]
  refine wp_dup rfl (ck_get kk_Mc_init 67 rfl) ?_
  refine wp_cIN0v (ck_get kk_Mc_init 68 rfl) ml_Mc_86 (by omega) (Nat.le_of_ble_eq_true rfl) (Cv.to (i_De (lz_of (mS_len (t := 0) mR6_len))) ?_)
  rintro M1 rfl
  rw [ofL_a]
  rw [show mS 0 mR6 ++ deC 952 = mS 0 mR7 by unfold mR7; exact mS_app]
  refine wp_putR (ck_get kk_Mc_init 69 rfl) fl_Mc_87 (by decide +kernel) (ofL_T h0) ?_
  rw [ofL_sR h0]
  refine wp_aload_n rfl (ck_get kk_Mc_init 70 rfl) ?_
  refine wp_iconst (v := nI 0) (by decide) (ck_get kk_Mc_init 71 rfl) ?_
  refine wp_putI (ck_get kk_Mc_init 72 rfl) fl_Mc_91 (by decide +kernel) (ofL_T h0) (okI_int _) ?_
  rw [ofL_sI h0]
  refine wp_aload_n rfl (ck_get kk_Mc_init 73 rfl) ?_
  refine wp_iconst (v := (-1)) (by decide) (ck_get kk_Mc_init 74 rfl) ?_
  refine wp_putI (ck_get kk_Mc_init 75 rfl) fl_Mc_94 (by decide +kernel) (ofL_T h0) (okI_int _) ?_
  rw [ofL_sI h0]
  refine wp_aload_n rfl (ck_get kk_Mc_init 76 rfl) ?_
  refine wp_iconst (v := nI 0) (by decide) (ck_get kk_Mc_init 77 rfl) ?_
  refine wp_putI (ck_get kk_Mc_init 78 rfl) fl_Mc_97 (by decide +kernel) (ofL_T h0) (okI_int _) ?_
  rw [ofL_sI h0]
  refine wp_aload_n rfl (ck_get kk_Mc_init 79 rfl) ?_
  refine wp_bipush (v := nI 7) (by decide) (ck_get kk_Mc_init 80 rfl) ?_
  refine wp_newarr (κ := 20) (len := 7) (ck_get kk_Mc_init 81 rfl) rfl ac_int (by decide) rfl (by decide) ?_
  rw [mz_of (mS_len (t := 0) mR7_len), ofL_nw]
  rw [show mS 0 mR7 ++ [cN 20 7 7] = mS 0 mR8 by unfold mR8; exact mS_app]
  refine wp_putR (ck_get kk_Mc_init 82 rfl) fl_Mc_100 (by decide +kernel) (ofL_T h0) ?_
  rw [ofL_sR h0]
  show Wp g Y_Mc_init 6 171 [some (.ref 0), none] [] (ofL ([] ++ mcO :: mS 0 mR8)) _
  have q0 : ∀ t R, mT (ofL ([] ++ mcO :: mS t R)) 0 = (10, 0) := fun t R => ofL_T h0
  have q6 : ∀ t R, mR (ofL ([] ++ mcO :: mS t R)) 0 6 = some 921 := fun t R => by rw [ofL_R h0]; rfl
  have qa : ∀ t R, mT (ofL ([] ++ mcO :: mS t R)) 921 = (26, 2) := fun t R => mS_T
  refine wp_iconst (v := nI 0) (by decide) (ck_get kk_Mc_init 83 rfl) ?_
  refine wp_istore_n (ck_get kk_Mc_init 84 rfl) (by decide) rfl ?_
  refine wp_iload_n rfl (ck_get kk_Mc_init 85 rfl) ?_
  refine wp_iconst (v := nI 2) (by decide) (ck_get kk_Mc_init 86 rfl) ?_
  first | refine wp_icmp_geN (t := 197) (ck_get kk_Mc_init 87 rfl) (by decide) (by omega) (by omega) (fun hc175 => ?_) (fun hc175 => ?_) | refine wp_icmp_ge (t := 197) (ck_get kk_Mc_init 87 rfl) (by decide) (fun hc175 => ?_) (fun hc175 => ?_)
  · omega
  · skip
    refine wp_aload_n rfl (ck_get kk_Mc_init 88 rfl) ?_
    refine wp_getR (ck_get kk_Mc_init 89 rfl) fl_Mc_40 (by first | exact q0 _ _ | exact q6 _ _ | exact qa _ _) (by first | exact q0 _ _ | exact q6 _ _ | exact qa _ _) ?_
    refine wp_iload_n rfl (ck_get kk_Mc_init 90 rfl) ?_
    refine wp_new (ck_get kk_Mc_init 91 rfl) cl_Mc_9 ?_
    rw [mz_of (mS_len (t := 0) mR8_len), ofL_n1]
    refine wp_dup rfl (ck_get kk_Mc_init 92 rfl) ?_
    refine wp_cIN0v (ck_get kk_Mc_init 93 rfl) ml_Mc_11 (by omega) (Nat.le_of_ble_eq_true rfl) (Cv.to (i_Sh (lz_of (mS_len (t := 0) mR8_len))) ?_)
    rintro M1 w1
    subst w1
    rw [ofL_a, show mS 0 mR8 ++ shC 960 = mS 0 mR9 by unfold mR9; exact mS_app]
    have qs : mT (ofL ([] ++ mcO :: mS 0 mR9)) 960 = (6, 0) := by
      rw [show ([] : List Cel) ++ mcO :: mS 0 mR9 = ([] ++ mcO :: mS 0 mR8) ++ shC 960 by unfold mR9; rw [← mS_app]; rfl]
      exact ofL_T (lz_of (mS_len (t := 0) mR8_len))
    refine wp_aast (κ := 26) (ck_get kk_Mc_init 94 rfl) (qa 0 mR9) (ixk_nI (k := 0) (by omega) (by omega)) qs ?_
    show Wp g Y_Mc_init 6 _ _ _ (sR (ofL ([] ++ mcO :: mS 0 mR9)) 921 0 (some (960 + 30 * 0))) _
    rw [mS_s]
    first | refine wp_iincN (ck_get kk_Mc_init 95 rfl) rfl (by decide) rfl ?_ | refine wp_iinc (ck_get kk_Mc_init 95 rfl) rfl (by decide) rfl ?_
    refine wp_goto (t := 173) (ck_get kk_Mc_init 96 rfl) (by decide) ?_
    skip
    refine wp_iload_n rfl (ck_get kk_Mc_init 85 rfl) ?_
    refine wp_iconst (v := nI 2) (by decide) (ck_get kk_Mc_init 86 rfl) ?_
    first | refine wp_icmp_geN (t := 197) (ck_get kk_Mc_init 87 rfl) (by decide) (by omega) (by omega) (fun hc175 => ?_) (fun hc175 => ?_) | refine wp_icmp_ge (t := 197) (ck_get kk_Mc_init 87 rfl) (by decide) (fun hc175 => ?_) (fun hc175 => ?_)
    · omega
    · skip
      refine wp_aload_n rfl (ck_get kk_Mc_init 88 rfl) ?_
      refine wp_getR (ck_get kk_Mc_init 89 rfl) fl_Mc_40 (by first | exact q0 _ _ | exact q6 _ _ | exact qa _ _) (by first | exact q0 _ _ | exact q6 _ _ | exact qa _ _) ?_
      refine wp_iload_n rfl (ck_get kk_Mc_init 90 rfl) ?_
      refine wp_new (ck_get kk_Mc_init 91 rfl) cl_Mc_9 ?_
      rw [mz_of (mS_len (t := 0 + 1) mR9_len), ofL_n1]
      refine wp_dup rfl (ck_get kk_Mc_init 92 rfl) ?_
      refine wp_cIN0v (ck_get kk_Mc_init 93 rfl) ml_Mc_11 (by omega) (Nat.le_of_ble_eq_true rfl) (Cv.to (i_Sh (lz_of (mS_len (t := 0 + 1) mR9_len))) ?_)
      rintro M1 w1
      subst w1
      rw [ofL_a, show mS (0 + 1) mR9 ++ shC 990 = mS (0 + 1) mR10 by unfold mR10; exact mS_app]
      have qs : mT (ofL ([] ++ mcO :: mS (0 + 1) mR10)) 990 = (6, 0) := by
        rw [show ([] : List Cel) ++ mcO :: mS (0 + 1) mR10 = ([] ++ mcO :: mS (0 + 1) mR9) ++ shC 990 by unfold mR10; rw [← mS_app]; rfl]
        exact ofL_T (lz_of (mS_len (t := 0 + 1) mR9_len))
      refine wp_aast (κ := 26) (ck_get kk_Mc_init 94 rfl) (qa (0 + 1) mR10) (ixk_nI (k := 0 + 1) (by omega) (by omega)) qs ?_
      show Wp g Y_Mc_init 6 _ _ _ (sR (ofL ([] ++ mcO :: mS (0 + 1) mR10)) 921 (0 + 1) (some (960 + 30 * (0 + 1)))) _
      rw [mS_s]
      first | refine wp_iincN (ck_get kk_Mc_init 95 rfl) rfl (by decide) rfl ?_ | refine wp_iinc (ck_get kk_Mc_init 95 rfl) rfl (by decide) rfl ?_
      refine wp_goto (t := 173) (ck_get kk_Mc_init 96 rfl) (by decide) ?_
      skip
      refine wp_iload_n rfl (ck_get kk_Mc_init 85 rfl) ?_
      refine wp_iconst (v := nI 2) (by decide) (ck_get kk_Mc_init 86 rfl) ?_
      first | refine wp_icmp_geN (t := 197) (ck_get kk_Mc_init 87 rfl) (by decide) (by omega) (by omega) (fun hc175 => ?_) (fun hc175 => ?_) | refine wp_icmp_ge (t := 197) (ck_get kk_Mc_init 87 rfl) (by decide) (fun hc175 => ?_) (fun hc175 => ?_)
      · refine wp_return (ck_get kk_Mc_init 97 rfl) rfl ⟨rfl, ?_⟩
        rfl
      · omega
end MCI

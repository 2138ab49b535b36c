/-! ===== the class's text of a report ===== -/
section SBD
theorem ob_nI {b : Nat} (h : b < 128) : okB (nI b) := by
  refine ⟨Int32.le_iff_toInt_le.mpr ?_, Int32.le_iff_toInt_le.mpr ?_⟩
  · rw [nI_toInt (by omega), show (-128 : Int32).toInt = -128 by decide]; omega
  · rw [nI_toInt (by omega), show (127 : Int32).toInt = 127 by decide]; omega
theorem fits_b {x : Int32} (h : okB x) : fits .byte (.int x) = true := by
  show (decide (-128 ≤ x) && decide (x ≤ 127)) = true
  rw [decide_eq_true h.1, decide_eq_true h.2]; rfl
section
variable {g : Gl} {Y : Meth} {n pc : Nat} {lv : List (Option Value)} {st : List Value} {M : Mem} {Q : Option Value → Mem → Prop}
theorem wp_copyB {ix a0 a l0 l1 sp dp k : Nat} {i0 i1 i2 : Int32} (hd : decode Y.2.1 pc = .ok (.invokestatic ix, 3)) (hl : ACk Y.1.cls ix) (hT0 : mT M a0 = (22, l0)) (hT1 : mT M a = (22, l1)) (h0 : nnk i0 sp) (h1 : nnk i1 dp) (h2 : nnk i2 k) (hs : sp + k ≤ l0) (hdn : dp + k ≤ l1) (hf : ∀ i, okB (mI M a0 i)) (hn : 1 ≤ n) (hst : (st.map fun v => v.category).sum ≤ 8)
    (kk : Wp g Y n (pc + 3) lv st (cpI M a0 sp a dp k) Q) : Wp g Y n pc lv (.int i2 :: .int i1 :: .ref a :: .int i0 :: .ref a0 :: st) M Q :=
  wp_copy (M2 := cpI M a0 sp a dp k) hd hl hT0 hT1 (by decide) (by decide) h0 h1 h2 hs hdn (fun i _ => by rw [vl_int rfl]; exact fits_b (hf _)) rfl rfl rfl (fun _ _ _ h => vl_cpI h) (fun j => by
    rw [vl_int rfl]
    unfold va_cpy
    show Value.int (if a = a ∧ dp ≤ j ∧ j < dp + k then M.2.2.1 a0 (sp + (j - dp)) else M.2.2.1 a j) = _
    by_cases h : dp ≤ j ∧ j < dp + k
    · rw [if_pos ⟨rfl, h⟩, if_pos h]; exact (vl_int rfl).symm
    · rw [if_neg (fun q => h q.2), if_neg h]; exact (vl_int rfl).symm) hn hst kk
end
variable {g : Gl} {M : Mem}
def SbF (M0 M : Mem) (v cap : Nat) : Prop := ∃ k v0, mR M0 949 0 = some v0 ∧ (mT M0 v0).1 = 22 ∧ mZ M = mZ M0 + k ∧ 2 ^ k ≤ cap + 2 ∧ mL M ≤ mL M0 + 2 * cap ∧ (∀ x, mZ M ≤ x → mT M x = (28, 0)) ∧ 1056 ≤ mZ M0 ∧ (v = v0 ∨ mZ M0 ≤ v) ∧ ∀ x, x < mZ M0 → mT M x = mT M0 x ∧ mJ M x = mJ M0 x ∧ (x ≠ 949 → mR M x = mR M0 x) ∧ (x ≠ 949 → x ≠ v0 → mI M x = mI M0 x)
def SbV (M0 M : Mem) (rp : List Nat) (v cap : Nat) : Prop := (mT M 949 = (12, 0) ∧ mR M 949 0 = some v ∧ mT M v = (22, cap) ∧ (v = 950 ∨ 1056 ≤ v) ∧ mI M 949 1 = 0 ∧ v < mZ M) ∧ (mI M 949 3 = nI rp.length ∧ rp.length ≤ cap ∧ cap ≤ 1000 ∧ (∀ i, okB (mI M v i)) ∧ ∀ i, i < rp.length → mI M v i = nI (rp.getD i 0)) ∧ SbF M0 M v cap
theorem SbV.wr {M0 : Mem} {rp rp2 : List Nat} {v cap : Nat} {I2 : Nat → Nat → Int32} (h : SbV M0 M rp v cap) (h1 : I2 949 1 = 0) (h3 : I2 949 3 = nI rp2.length) (hl : rp2.length ≤ cap) (hok : ∀ i, okB (I2 v i)) (hv : ∀ i, i < rp2.length → I2 v i = nI (rp2.getD i 0)) (ho : ∀ x, x ≠ 949 → x ≠ v → I2 x = mI M x) : SbV M0 (mk2 M I2 (mJ M)) rp2 v cap := by
  obtain ⟨⟨a1, a2, a3, a4, a5, a6⟩, ⟨b1, b2, b3, b4, b5⟩, k, v0, c1, c2, c3, c4, c5, c6, c7, c8, c9⟩ := h
  refine ⟨⟨a1, a2, a3, a4, h1, a6⟩, ⟨h3, hl, b3, hok, hv⟩, k, v0, c1, c2, c3, c4, c5, c6, c7, c8, fun x hx => ?_⟩
  obtain ⟨d1, d2, d3, d4⟩ := c9 x hx
  exact ⟨d1, d2, d3, fun q1 q2 => (ho x q1 (by omega)).trans (d4 q1 q2)⟩
theorem s_isLat {b : Nat} (hS : StrOK g) (hT : mT M b = (12, 0)) (h1 : mI M b 1 = 0) : Ci g Y_As_isLatin1 0 [.ref b] M (fun x M2 => x = nI 1 ∧ M2 = M) := by
  refine cw_entry 0 pf_As_isLatin1 rfl ?_
  refine wp_gets (v := .int (nI 1)) (fun U hU => (hS U hU).2) rfl xf_As_18 (ck_get kk_As_isLatin1 0 rfl) ?_
  first | refine wp_if_eqN (t := 17) (ck_get kk_As_isLatin1 1 rfl) (by decide) (by omega) (fun hc3 => ?_) (fun hc3 => ?_) | refine wp_if_eq (t := 17) (ck_get kk_As_isLatin1 1 rfl) (by decide) (fun hc3 => ?_) (fun hc3 => ?_)
  · exact absurd hc3 (by decide)
  · refine wp_aload_n rfl (ck_get kk_As_isLatin1 2 rfl) ?_
    refine wp_getIv (v := (0 : Int32)) (ck_get kk_As_isLatin1 3 rfl) fl_As_22 (by assumption) (h1) ?_
    refine wp_if_ne (t := 17) (ck_get kk_As_isLatin1 4 rfl) (by decide) (fun hc10 => ?_) (fun hc10 => ?_)
    · exact absurd rfl hc10
    · refine wp_iconst (v := nI 1) (by decide) (ck_get kk_As_isLatin1 5 rfl) ?_
      refine wp_goto (t := 18) (ck_get kk_As_isLatin1 6 rfl) (by decide) ?_
      refine wp_ireturn (ck_get kk_As_isLatin1 8 rfl) rfl rfl ⟨_, rfl, ?_⟩
      exact ⟨rfl, rfl⟩
theorem c_canEnc {c : Nat} (h : c < 128) : Ci g Y_Sl_canEncode 0 [.int (nI c)] M (fun x M2 => x = nI 1 ∧ M2 = M) := by
  refine cw_entry 0 pf_Sl_canEncode rfl ?_
  refine wp_iload_n rfl (ck_get kk_Sl_canEncode 0 rfl) ?_
  refine wp_sipush (v := nI 255) (by decide) (ck_get kk_Sl_canEncode 1 rfl) ?_
  first | refine wp_icmp_gtN (t := 11) (ck_get kk_Sl_canEncode 2 rfl) (by decide) (by omega) (by omega) (fun hc4 => ?_) (fun hc4 => ?_) | refine wp_icmp_gt (t := 11) (ck_get kk_Sl_canEncode 2 rfl) (by decide) (fun hc4 => ?_) (fun hc4 => ?_)
  · omega
  · refine wp_iconst (v := nI 1) (by decide) (ck_get kk_Sl_canEncode 3 rfl) ?_
    refine wp_goto (t := 12) (ck_get kk_Sl_canEncode 4 rfl) (by decide) ?_
    refine wp_ireturn (ck_get kk_Sl_canEncode 6 rfl) rfl rfl ⟨_, rfl, ?_⟩
    exact ⟨rfl, rfl⟩
theorem c_newLength {a b d : Nat} (ha : a ≤ 1000) (hb : b ≤ 1000) (hd : d ≤ 2000) (h0 : 0 < d) : Ci g Y_Au_newLength 1 [.int (nI a), .int (nI b), .int (nI d)] M (fun x M2 => x = nI (a + max b d) ∧ M2 = M) := by
  refine cw_entry 1 pf_Au_newLength rfl ?_
  refine wp_iload_n rfl (ck_get kk_Au_newLength 0 rfl) ?_
  refine wp_iload_n rfl (ck_get kk_Au_newLength 1 rfl) ?_
  refine wp_iload_n rfl (ck_get kk_Au_newLength 2 rfl) ?_
  refine wp_cS2i (ck_get kk_Au_newLength 3 rfl) ml_Au_194 (by omega) (Nat.le_of_ble_eq_true rfl) (Ci.to (c_max (a := b) (b := d) (by omega) (by omega)) ?_)
  rintro _ M1 ⟨rfl, eqm1⟩
  obtain rfl := eqm1.symm
  first | refine wp_iaddN (ck_get kk_Au_newLength 4 rfl) ?_ | refine wp_iadd (ck_get kk_Au_newLength 4 rfl) ?_
  refine wp_istore_n (ck_get kk_Au_newLength 5 rfl) (by decide) rfl ?_
  refine wp_iconst (v := nI 0) (by decide) (ck_get kk_Au_newLength 6 rfl) ?_
  refine wp_iload_n rfl (ck_get kk_Au_newLength 7 rfl) ?_
  first | refine wp_icmp_geN (t := 21) (ck_get kk_Au_newLength 8 rfl) (by decide) (by omega) (by omega) (fun hc10 => ?_) (fun hc10 => ?_) | refine wp_icmp_ge (t := 21) (ck_get kk_Au_newLength 8 rfl) (by decide) (fun hc10 => ?_) (fun hc10 => ?_)
  · omega
  · refine wp_iload_n rfl (ck_get kk_Au_newLength 9 rfl) ?_
    refine wp_ldc kl_Au_200 (ck_get kk_Au_newLength 10 rfl) ?_
    refine wp_icmp_gt (t := 21) (ck_get kk_Au_newLength 11 rfl) (by decide) (fun hc16 => ?_) (fun hc16 => ?_)
    · exact absurd hc16 (Int32.not_lt.mpr (by rw [show (2147483639 : Int32) = nI 2147483639 by decide]; exact (nI_leI (by omega) (by decide)).mpr (by omega)))
    · refine wp_iload_n rfl (ck_get kk_Au_newLength 12 rfl) ?_
      refine wp_ireturn (ck_get kk_Au_newLength 13 rfl) rfl rfl ⟨_, rfl, ?_⟩
      exact ⟨rfl, rfl⟩
theorem shl0 {x : Int32} : x <<< ((0 : Int32) &&& 31) = x := by
  rw [show (0 : Int32) &&& 31 = 0 by decide]
  exact Int32.shiftLeft_zero
theorem c_newCap {b v cap mn : Nat} (hT : mT M b = (12, 0)) (hR : mR M b 0 = some v) (hTv : mT M v = (22, cap)) (h1 : mI M b 1 = 0) (hcap : cap ≤ 1000) (hm : cap < mn) (hm2 : mn ≤ 450) : Ci g Y_As_newCapacity 2 [.ref b, .int (nI mn)] M (fun x M2 => x = nI (cap + max (mn - cap) (cap + 2)) ∧ M2 = M) := by
  refine cw_entry 4 pf_As_newCapacity rfl ?_
  refine wp_aload_n rfl (ck_get kk_As_newCapacity 0 rfl) ?_
  refine wp_getR (ck_get kk_As_newCapacity 1 rfl) fl_As_15 (by assumption) (by assumption) ?_
  refine wp_alen (ck_get kk_As_newCapacity 2 rfl) (by assumption) ?_
  refine wp_istore_n (ck_get kk_As_newCapacity 3 rfl) (by decide) rfl ?_
  refine wp_iload_n rfl (ck_get kk_As_newCapacity 4 rfl) ?_
  refine wp_aload_n rfl (ck_get kk_As_newCapacity 5 rfl) ?_
  refine wp_getIv (v := (0 : Int32)) (ck_get kk_As_newCapacity 6 rfl) fl_As_22 (by assumption) (h1) ?_
  refine wp_ishl (ck_get kk_As_newCapacity 7 rfl) ?_
  rw [shl0]
  refine wp_istore_n (ck_get kk_As_newCapacity 8 rfl) (by decide) rfl ?_
  refine wp_iload_n rfl (ck_get kk_As_newCapacity 9 rfl) ?_
  refine wp_iload_n rfl (ck_get kk_As_newCapacity 10 rfl) ?_
  first | refine wp_isubN (ck_get kk_As_newCapacity 11 rfl) (by omega) ?_ | refine wp_isub (ck_get kk_As_newCapacity 11 rfl) ?_
  refine wp_istore (ck_get kk_As_newCapacity 12 rfl) (by decide) rfl ?_
  refine wp_iload_n rfl (ck_get kk_As_newCapacity 13 rfl) ?_
  refine wp_iload rfl (ck_get kk_As_newCapacity 14 rfl) ?_
  refine wp_iload_n rfl (ck_get kk_As_newCapacity 15 rfl) ?_
  refine wp_iconst (v := nI 2) (by decide) (ck_get kk_As_newCapacity 16 rfl) ?_
  refine wp_aload_n rfl (ck_get kk_As_newCapacity 17 rfl) ?_
  refine wp_getIv (v := (0 : Int32)) (ck_get kk_As_newCapacity 18 rfl) fl_As_22 (by assumption) (h1) ?_
  refine wp_ishl (ck_get kk_As_newCapacity 19 rfl) ?_
  rw [shl0]
  first | refine wp_iaddN (ck_get kk_As_newCapacity 20 rfl) ?_ | refine wp_iadd (ck_get kk_As_newCapacity 20 rfl) ?_
  refine wp_cS3i (ck_get kk_As_newCapacity 21 rfl) ml_As_114 (by omega) (Nat.le_of_ble_eq_true rfl) (Ci.to (c_newLength (a := cap) (b := mn - cap) (d := cap + 2) (by omega) (by omega) (by omega) (by omega)) ?_)
  rintro _ M1 ⟨rfl, eqm1⟩
  obtain rfl := eqm1.symm
  refine wp_istore (ck_get kk_As_newCapacity 22 rfl) (by decide) rfl ?_
  refine wp_iload rfl (ck_get kk_As_newCapacity 23 rfl) ?_
  refine wp_ldc kl_As_39 (ck_get kk_As_newCapacity 24 rfl) ?_
  refine wp_icmp_ne (t := 51) (ck_get kk_As_newCapacity 25 rfl) (by decide) (fun hc38 => ?_) (fun hc38 => ?_)
  · refine wp_iload rfl (ck_get kk_As_newCapacity 31 rfl) ?_
    refine wp_aload_n rfl (ck_get kk_As_newCapacity 32 rfl) ?_
    refine wp_getIv (v := (0 : Int32)) (ck_get kk_As_newCapacity 33 rfl) fl_As_22 (by assumption) (h1) ?_
    refine wp_ishr (ck_get kk_As_newCapacity 34 rfl) ?_
    rw [sc_shr0' (by omega)]
    refine wp_ireturn (ck_get kk_As_newCapacity 35 rfl) rfl rfl ⟨_, rfl, ?_⟩
    exact ⟨rfl, rfl⟩
  · exact absurd hc38 (fun q => by
      have : nI (cap + max (mn - cap) (cap + 2)) = nI 2147483647 := q
      have := (nI_eq (by omega) (by decide)).mp this
      omega)
theorem c_copyOf {v cap nc : Nat} (hTv : mT M v = (22, cap)) (hv : v < mZ M) (hb : ∀ i, okB (mI M v i)) (h : cap < nc) (hn : nc ≤ 2000) : Ca g Y_Ar_copyOf 1 [.ref v, .int (nI nc)] M (fun x M2 => x = some (mZ M) ∧ M2 = cpI (mNew M 22 nc nc) v 0 (mZ M) 0 cap) := by
  have hT2 : mT (mNew M 22 nc nc) v = (22, cap) := by
    show up1 (mT M) (mZ M) (22, nc) v = _
    rw [up1_ne (by omega)]; exact hTv
  have hT3 : mT (mNew M 22 nc nc) (mZ M) = (22, nc) := up1_eq
  have hb2 : ∀ i, okB (mI (mNew M 22 nc nc) v i) := fun i => by
    show okB (up1 (mI M) (mZ M) (fun _ => 0) v i)
    rw [up1_ne (by omega)]; exact hb i
  refine cw_entry 1 pf_Ar_copyOf rfl ?_
  refine wp_iload_n rfl (ck_get kk_Ar_copyOf 0 rfl) ?_
  refine wp_aload_n rfl (ck_get kk_Ar_copyOf 1 rfl) ?_
  refine wp_alen (ck_get kk_Ar_copyOf 2 rfl) (by assumption) ?_
  first | refine wp_icmp_neN (t := 14) (ck_get kk_Ar_copyOf 3 rfl) (by decide) (by omega) (by omega) (fun hc3 => ?_) (fun hc3 => ?_) | refine wp_icmp_ne (t := 14) (ck_get kk_Ar_copyOf 3 rfl) (by decide) (fun hc3 => ?_) (fun hc3 => ?_)
  · refine wp_iload_n rfl (ck_get kk_Ar_copyOf 8 rfl) ?_
    refine wp_newarr (κ := 22) (ck_get kk_Ar_copyOf 9 rfl) rfl ac_byte (nI_pos (by omega)) (nI_clamp (by omega)) (by show nc * 1 ≤ 536870912; omega) ?_
    refine wp_astore_n (ck_get kk_Ar_copyOf 10 rfl) (by decide) rfl ?_
    refine wp_aload_n rfl (ck_get kk_Ar_copyOf 11 rfl) ?_
    refine wp_iconst (v := nI 0) (by decide) (ck_get kk_Ar_copyOf 12 rfl) ?_
    refine wp_aload_n rfl (ck_get kk_Ar_copyOf 13 rfl) ?_
    refine wp_iconst (v := nI 0) (by decide) (ck_get kk_Ar_copyOf 14 rfl) ?_
    refine wp_aload_n rfl (ck_get kk_Ar_copyOf 15 rfl) ?_
    refine wp_alen (ck_get kk_Ar_copyOf 16 rfl) (by assumption) ?_
    refine wp_iload_n rfl (ck_get kk_Ar_copyOf 17 rfl) ?_
    refine wp_cS2i (ck_get kk_Ar_copyOf 18 rfl) ml_Ar_304 (by omega) (Nat.le_of_ble_eq_true rfl) (Ci.to (c_min (a := cap) (b := nc) (by omega) (by omega)) ?_)
    rintro _ M1 ⟨rfl, eqm1⟩
    obtain rfl := eqm1.symm
    refine wp_copyB (ck_get kk_Ar_copyOf 19 rfl) ak_Ar_150 hT2 hT3 (nnk_nI (by decide)) (nnk_nI (by decide)) (nnk_nI (by omega)) (by omega) (by omega) hb2 (by omega) (Nat.le_of_ble_eq_true rfl) ?_
    refine wp_aload_n rfl (ck_get kk_Ar_copyOf 20 rfl) ?_
    first | refine wp_areturn (ck_get kk_Ar_copyOf 21 rfl) rfl rfl ⟨_, rfl, ?_⟩ | refine wp_areturnN (ck_get kk_Ar_copyOf 21 rfl) rfl rfl ⟨_, rfl, ?_⟩
    exact ⟨rfl, by rw [Nat.min_eq_left (by omega)]⟩
  · omega
theorem c_ensure {M0 : Mem} {rp : List Nat} {v cap mn : Nat} (hP : PvOK g) (h : SbV M0 M rp v cap) (hm : mn ≤ 450) : Cv g Y_As_ensureCapacityInternal 3 [.ref 949, .int (nI mn)] M (fun M2 => ∃ v2 cap2, SbV M0 M2 rp v2 cap2 ∧ mn ≤ cap2) := by
  have hV := h
  obtain ⟨⟨a1, a2, a3, a4, a5, a6⟩, ⟨b1, b2, b3, b4, b5⟩, k, v0, c1, c2, c3, c4, c5, c6, c7, c8, c9⟩ := h
  refine cw_entry 1 pf_As_ensureCapacityInternal rfl ?_
  rcases Nat.lt_or_ge cap mn with q | q
  · skip
    refine wp_aload_n rfl (ck_get kk_As_ensureCapacityInternal 0 rfl) ?_
    refine wp_getR (ck_get kk_As_ensureCapacityInternal 1 rfl) fl_As_15 (by assumption) (by assumption) ?_
    refine wp_alen (ck_get kk_As_ensureCapacityInternal 2 rfl) (by assumption) ?_
    refine wp_aload_n rfl (ck_get kk_As_ensureCapacityInternal 3 rfl) ?_
    refine wp_getIv (v := (0 : Int32)) (ck_get kk_As_ensureCapacityInternal 4 rfl) fl_As_22 (by assumption) (a5) ?_
    refine wp_ishr (ck_get kk_As_ensureCapacityInternal 5 rfl) ?_
    rw [sc_shr0' (by omega)]
    refine wp_istore_n (ck_get kk_As_ensureCapacityInternal 6 rfl) (by decide) rfl ?_
    refine wp_iload_n rfl (ck_get kk_As_ensureCapacityInternal 7 rfl) ?_
    refine wp_iload_n rfl (ck_get kk_As_ensureCapacityInternal 8 rfl) ?_
    first | refine wp_isubN (ck_get kk_As_ensureCapacityInternal 9 rfl) (by omega) ?_ | refine wp_isub (ck_get kk_As_ensureCapacityInternal 9 rfl) ?_
    first | refine wp_if_leN (t := 38) (ck_get kk_As_ensureCapacityInternal 10 rfl) (by decide) (by omega) (fun hc14 => ?_) (fun hc14 => ?_) | refine wp_if_le (t := 38) (ck_get kk_As_ensureCapacityInternal 10 rfl) (by decide) (fun hc14 => ?_) (fun hc14 => ?_)
    · omega
    · refine wp_aload_n rfl (ck_get kk_As_ensureCapacityInternal 11 rfl) ?_
      refine wp_aload_n rfl (ck_get kk_As_ensureCapacityInternal 12 rfl) ?_
      refine wp_getR (ck_get kk_As_ensureCapacityInternal 13 rfl) fl_As_15 (by assumption) (by assumption) ?_
      refine wp_aload_n rfl (ck_get kk_As_ensureCapacityInternal 14 rfl) ?_
      refine wp_iload_n rfl (ck_get kk_As_ensureCapacityInternal 15 rfl) ?_
      refine wp_cP1i (ck_get kk_As_ensureCapacityInternal 16 rfl) ml_As_104 (fun U hU a => (hP U hU a).2) (by omega) (Nat.le_of_ble_eq_true rfl) cl12 a1 (Ci.to (c_newCap (cap := cap) (mn := mn) a1 a2 a3 a5 b3 q hm) ?_)
      rintro _ M1 ⟨rfl, eqm1⟩
      obtain rfl := eqm1.symm
      refine wp_aload_n rfl (ck_get kk_As_ensureCapacityInternal 17 rfl) ?_
      refine wp_getIv (v := (0 : Int32)) (ck_get kk_As_ensureCapacityInternal 18 rfl) fl_As_22 (by assumption) (a5) ?_
      refine wp_ishl (ck_get kk_As_ensureCapacityInternal 19 rfl) ?_
      rw [shl0]
      refine wp_cS2a (ck_get kk_As_ensureCapacityInternal 20 rfl) ml_As_108 (by omega) (Nat.le_of_ble_eq_true rfl) (Ca.to (c_copyOf (cap := cap) a3 a6 b4 (by omega) (by omega)) ?_)
      rintro _ M2 ⟨rfl, rfl⟩
      have t9 : mT (cpI (mNew M 22 (cap + max (mn - cap) (cap + 2)) (cap + max (mn - cap) (cap + 2))) v 0 (mZ M) 0 cap) 949 = (12, 0) := (up1_ne (show 949 ≠ mZ M by omega)).trans a1
      refine wp_putR (ck_get kk_As_ensureCapacityInternal 21 rfl) fl_As_15 (by decide +kernel) (by assumption) ?_
      refine wp_return (ck_get kk_As_ensureCapacityInternal 22 rfl) rfl ⟨rfl, ?_⟩
      skip
      have hz : 949 ≠ mZ M := by omega
      have hvz : v ≠ mZ M := by omega
      generalize hnc : cap + max (mn - cap) (cap + 2) = nc
      have n1 : mn ≤ nc := by omega
      have n2 : 2 * cap + 2 ≤ nc := by omega
      have n3 : nc ≤ 1000 := by omega
      have eT : ∀ x, x ≠ mZ M → up1 (mT M) (mZ M) (22, nc) x = mT M x := fun x hx => up1_ne hx
      have eI : ∀ x y, x ≠ mZ M → mI (cpI (mNew M 22 nc nc) v 0 (mZ M) 0 cap) x y = mI M x y := fun x y hx => by
        show (if x = mZ M ∧ _ then _ else up1 (mI M) (mZ M) (fun _ => 0) x y) = _
        rw [if_neg (fun q => hx q.1), up1_ne hx]
      have eN : ∀ y, mI (cpI (mNew M 22 nc nc) v 0 (mZ M) 0 cap) (mZ M) y = if y < cap then mI M v y else 0 := fun y => by
        show (if mZ M = mZ M ∧ 0 ≤ y ∧ y < 0 + cap then up1 (mI M) (mZ M) (fun _ => 0) v (0 + (y - 0)) else up1 (mI M) (mZ M) (fun _ => 0) (mZ M) y) = _
        by_cases w : y < cap
        · rw [if_pos ⟨rfl, Nat.zero_le _, by omega⟩, if_pos w, up1_ne hvz, show 0 + (y - 0) = y by omega]
        · rw [if_neg (fun q => by omega), if_neg w, up1_eq]
      refine ⟨mZ M, nc, ⟨⟨(eT 949 hz).trans a1, ?_, up1_eq, Or.inr (by omega), (eI 949 1 hz).trans a5, Nat.lt_succ_self _⟩, ⟨(eI 949 3 hz).trans b1, by omega, n3, fun i => ?_, fun i hi => ?_⟩, k + 1, v0, c1, c2, by show mZ M + 1 = _; omega, by rw [Nat.pow_succ]; omega, by show mL M + nc ≤ _; omega, fun x hx => ?_, c7, Or.inr (by omega), fun x hx => ?_⟩, n1⟩
      · show up2 (up1 (mR M) (mZ M) (fun _ => none)) 949 0 (some (mZ M)) 949 0 = _
        rw [up2_up1, up1_eq, up1_eq]
      · rw [eN]
        by_cases w : i < cap
        · rw [if_pos w]; exact b4 i
        · rw [if_neg w]; exact ⟨by decide, by decide⟩
      · rw [eN, if_pos (by omega)]; exact b5 i hi
      · have hx2 : mZ M + 1 ≤ x := hx
        exact (eT x (by omega)).trans (c6 x (by omega))
      · have hxm : x ≠ mZ M := by omega
        obtain ⟨d1, d2, d3, d4⟩ := c9 x hx
        refine ⟨(eT x hxm).trans d1, (up1_ne hxm).trans d2, fun e => ?_, fun e1 e2 => ?_⟩
        · show up2 (up1 (mR M) (mZ M) (fun _ => none)) 949 0 (some (mZ M)) x = _
          rw [up2_up1, up1_ne e, up1_ne hxm]; exact d3 e
        · exact (funext fun y => eI x y hxm).trans (d4 e1 e2)
  · have hle : nI mn - nI cap ≤ 0 := sub_le0 q (by omega)
    refine wp_aload_n rfl (ck_get kk_As_ensureCapacityInternal 0 rfl) ?_
    refine wp_getR (ck_get kk_As_ensureCapacityInternal 1 rfl) fl_As_15 (by assumption) (by assumption) ?_
    refine wp_alen (ck_get kk_As_ensureCapacityInternal 2 rfl) (by assumption) ?_
    refine wp_aload_n rfl (ck_get kk_As_ensureCapacityInternal 3 rfl) ?_
    refine wp_getIv (v := (0 : Int32)) (ck_get kk_As_ensureCapacityInternal 4 rfl) fl_As_22 (by assumption) (a5) ?_
    refine wp_ishr (ck_get kk_As_ensureCapacityInternal 5 rfl) ?_
    rw [sc_shr0' (by omega)]
    refine wp_istore_n (ck_get kk_As_ensureCapacityInternal 6 rfl) (by decide) rfl ?_
    refine wp_iload_n rfl (ck_get kk_As_ensureCapacityInternal 7 rfl) ?_
    refine wp_iload_n rfl (ck_get kk_As_ensureCapacityInternal 8 rfl) ?_
    refine wp_isub (ck_get kk_As_ensureCapacityInternal 9 rfl) ?_
    refine wp_if_le (t := 38) (ck_get kk_As_ensureCapacityInternal 10 rfl) (by decide) (fun hc14 => ?_) (fun hc14 => ?_)
    · refine wp_return (ck_get kk_As_ensureCapacityInternal 22 rfl) rfl ⟨rfl, ?_⟩
      exact ⟨v, cap, hV, q⟩
    · exact absurd hle hc14
end SBD

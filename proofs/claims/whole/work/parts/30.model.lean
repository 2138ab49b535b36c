/-! ===== MissCurvesModel: its cells, small helpers, rows of keys ===== -/
def moF : List (Nat × Nat × Nat × Nat) := [(1, 1, 20, 7), (2, 2, 20, 5995), (3, 3, 21, 100), (4, 4, 20, 11990), (5, 5, 21, 200), (6, 6, 23, 2), (7, 7, 20, 738), (8, 8, 21, 200), (10, 9, 22, 131), (14, 10, 22, 400), (15, 11, 20, 5), (18, 12, 20, 401), (19, 13, 20, 401), (20, 14, 20, 401), (29, 15, 20, 6), (32, 16, 20, 5920), (33, 17, 21, 1600), (34, 18, 20, 5920), (35, 19, 21, 1600), (37, 20, 20, 100), (38, 21, 20, 100), (39, 22, 20, 4), (40, 23, 22, 400), (41, 24, 22, 12), (43, 25, 20, 4), (46, 26, 20, 245), (47, 27, 20, 32), (48, 28, 20, 32), (49, 29, 20, 32), (50, 30, 21, 25), (51, 31, 20, 800), (52, 32, 20, 25), (53, 33, 21, 21), (60, 34, 21, 3), (61, 35, 20, 100)]
/-- the model's cells: itself at o, its rows behind it -/
def MoAt (T : Nat → Nat × Nat) (R : Nat → Nat → Option Nat) (o : Nat) : Prop := T o = (11, 0) ∧ ∀ q ∈ moF, R o q.1 = some (o + q.2.1) ∧ T (o + q.2.1) = (q.2.2.1, q.2.2.2)
theorem MoAt.r {T : Nat → Nat × Nat} {R : Nat → Nat → Option Nat} {o : Nat} (h : MoAt T R o) (i : Nat) {k j κ len : Nat} (hi : moF[i]? = some (k, j, κ, len)) : R o k = some (o + j) := (h.2 _ (List.mem_of_getElem? hi)).1
theorem MoAt.t {T : Nat → Nat × Nat} {R : Nat → Nat → Option Nat} {o : Nat} (h : MoAt T R o) (i : Nat) {k j κ len : Nat} (hi : moF[i]? = some (k, j, κ, len)) : T (o + j) = (κ, len) := (h.2 _ (List.mem_of_getElem? hi)).2
section MO
variable {g : Gl} {M : Mem} {o : Nat}
theorem m_lies {v : Int32} {hi : Nat} (hh : hi < 2147483647) : Ci g Y_Mo_lies 0 [.int v, .int (nI 0), .int (nI hi)] M (fun x M2 => x = bI (inB v (hi + 1)) ∧ M2 = M) := by
  refine cw_entry 0 pf_Mo_lies rfl ?_
  refine wp_iload_n rfl (ck_get kk_Mo_lies 0 rfl) ?_
  refine wp_iload_n rfl (ck_get kk_Mo_lies 1 rfl) ?_
  first | refine wp_icmp_ltN (t := 14) (ck_get kk_Mo_lies 2 rfl) (by decide) (by omega) (by omega) (fun hc2 => ?_) (fun hc2 => ?_) | refine wp_icmp_lt (t := 14) (ck_get kk_Mo_lies 2 rfl) (by decide) (fun hc2 => ?_) (fun hc2 => ?_)
  · refine wp_iconst (v := nI 0) (by decide) (ck_get kk_Mo_lies 8 rfl) ?_
    refine wp_ireturn (ck_get kk_Mo_lies 9 rfl) rfl rfl ⟨_, rfl, ?_⟩
    have h0 : v < 0 := hc2
    exact ⟨by simp [bI, inB, h0], rfl⟩
  · refine wp_iload_n rfl (ck_get kk_Mo_lies 3 rfl) ?_
    refine wp_iload_n rfl (ck_get kk_Mo_lies 4 rfl) ?_
    first | refine wp_icmp_gtN (t := 14) (ck_get kk_Mo_lies 5 rfl) (by decide) (by omega) (by omega) (fun hc7 => ?_) (fun hc7 => ?_) | refine wp_icmp_gt (t := 14) (ck_get kk_Mo_lies 5 rfl) (by decide) (fun hc7 => ?_) (fun hc7 => ?_)
    · refine wp_iconst (v := nI 0) (by decide) (ck_get kk_Mo_lies 8 rfl) ?_
      refine wp_ireturn (ck_get kk_Mo_lies 9 rfl) rfl rfl ⟨_, rfl, ?_⟩
      have h6 : ¬ v < nI (hi + 1) := fun h => by
        have h0 : ¬ v < 0 := hc2
        obtain ⟨k, hk, rfl⟩ := nI_of h0
        have := (nI_ltI hk (by omega)).mp h
        have := (nI_ltI (by omega) hk).mp hc7
        omega
      exact ⟨by simp [bI, inB, h6], rfl⟩
    · refine wp_iconst (v := nI 1) (by decide) (ck_get kk_Mo_lies 6 rfl) ?_
      refine wp_goto (t := 15) (ck_get kk_Mo_lies 7 rfl) (by decide) ?_
      refine wp_ireturn (ck_get kk_Mo_lies 9 rfl) rfl rfl ⟨_, rfl, ?_⟩
      have h0 : ¬ v < 0 := hc2
      have h6 : v < nI (hi + 1) := by
        obtain ⟨k, hk, rfl⟩ := nI_of h0
        have h7 := mt (nI_ltI (a := hi) (b := k) (by omega) hk).mpr hc7
        exact (nI_ltI hk (by omega)).mpr (by omega)
      exact ⟨by simp [bI, inB, h0, h6], rfl⟩
theorem bI_ok (b : Bool) : narrow .boolean (.int (bI b)) = .int (bI b) := by cases b <;> rfl
theorem m_isTenant {t : Int32} : Ci g Y_Mo_isTenant 1 [.int t] M (fun x M2 => x = bI (inB t 4) ∧ M2 = M) := by
  refine cw_entry 0 pf_Mo_isTenant rfl ?_
  refine wp_iload_n rfl (ck_get kk_Mo_isTenant 0 rfl) ?_
  refine wp_iconst (v := nI 0) (by decide) (ck_get kk_Mo_isTenant 1 rfl) ?_
  refine wp_iconst (v := nI 3) (by decide) (ck_get kk_Mo_isTenant 2 rfl) ?_
  refine wp_cS3i (ck_get kk_Mo_isTenant 3 rfl) ml_Mo_18 (by omega) (Nat.le_of_ble_eq_true rfl) (Ci.to (m_lies (by decide)) ?_)
  rintro _ M1 ⟨rfl, e1⟩
  obtain rfl := e1.symm
  refine wp_ireturn (ck_get kk_Mo_isTenant 4 rfl) rfl (bI_ok _) ⟨_, rfl, ?_⟩
  exact ⟨rfl, rfl⟩
theorem m_isKey {t : Int32} : Ci g Y_Mo_isKey 1 [.int t] M (fun x M2 => x = bI (inB t 1000) ∧ M2 = M) := by
  refine cw_entry 0 pf_Mo_isKey rfl ?_
  refine wp_iload_n rfl (ck_get kk_Mo_isKey 0 rfl) ?_
  refine wp_iconst (v := nI 0) (by decide) (ck_get kk_Mo_isKey 1 rfl) ?_
  refine wp_sipush (v := nI 999) (by decide) (ck_get kk_Mo_isKey 2 rfl) ?_
  refine wp_cS3i (ck_get kk_Mo_isKey 3 rfl) ml_Mo_18 (by omega) (Nat.le_of_ble_eq_true rfl) (Ci.to (m_lies (by decide)) ?_)
  rintro _ M1 ⟨rfl, e1⟩
  obtain rfl := e1.symm
  refine wp_ireturn (ck_get kk_Mo_isKey 4 rfl) rfl (bI_ok _) ⟨_, rfl, ?_⟩
  exact ⟨rfl, rfl⟩
theorem m_isSize {t : Int32} : Ci g Y_Mo_isSize 1 [.int t] M (fun x M2 => x = bI (inB t 25) ∧ M2 = M) := by
  refine cw_entry 0 pf_Mo_isSize rfl ?_
  refine wp_iload_n rfl (ck_get kk_Mo_isSize 0 rfl) ?_
  refine wp_iconst (v := nI 0) (by decide) (ck_get kk_Mo_isSize 1 rfl) ?_
  refine wp_bipush (v := nI 24) (by decide) (ck_get kk_Mo_isSize 2 rfl) ?_
  refine wp_cS3i (ck_get kk_Mo_isSize 3 rfl) ml_Mo_18 (by omega) (Nat.le_of_ble_eq_true rfl) (Ci.to (m_lies (by decide)) ?_)
  rintro _ M1 ⟨rfl, e1⟩
  obtain rfl := e1.symm
  refine wp_ireturn (ck_get kk_Mo_isSize 4 rfl) rfl (bI_ok _) ⟨_, rfl, ?_⟩
  exact ⟨rfl, rfl⟩
theorem m_at {t k : Nat} : Ci g Y_Mo_at 0 [.int (nI t), .int (nI k)] M (fun x M2 => x = nI (92 * t + k) ∧ M2 = M) := by
  refine cw_entry 0 pf_Mo_at rfl ?_
  refine wp_bipush (v := nI 92) (by decide) (ck_get kk_Mo_at 0 rfl) ?_
  refine wp_iload_n rfl (ck_get kk_Mo_at 1 rfl) ?_
  first | refine wp_imulN (ck_get kk_Mo_at 2 rfl) ?_ | refine wp_imul (ck_get kk_Mo_at 2 rfl) ?_
  refine wp_iload_n rfl (ck_get kk_Mo_at 3 rfl) ?_
  first | refine wp_iaddN (ck_get kk_Mo_at 4 rfl) ?_ | refine wp_iadd (ck_get kk_Mo_at 4 rfl) ?_
  refine wp_ireturn (ck_get kk_Mo_at 5 rfl) rfl rfl ⟨_, rfl, ?_⟩
  exact ⟨rfl, rfl⟩
theorem m_good {v : Int32} (hM : MoAt (mT M) (mR M) o) : Ci g Y_Mo_good 0 [.ref o, .int v] M (fun x M2 => x = v ∧ M2 = mk2 M (up2 (mI M) o 0 (nI 0)) (mJ M)) := by
  refine cw_entry 0 pf_Mo_good rfl ?_
  have to0 := hM.1
  refine wp_aload_n rfl (ck_get kk_Mo_good 0 rfl) ?_
  refine wp_iconst (v := nI 0) (by decide) (ck_get kk_Mo_good 1 rfl) ?_
  refine wp_putI (ck_get kk_Mo_good 2 rfl) fl_Mo_3 (by decide +kernel) (by assumption) (okI_int _) ?_
  refine wp_iload_n rfl (ck_get kk_Mo_good 3 rfl) ?_
  refine wp_ireturn (ck_get kk_Mo_good 4 rfl) rfl rfl ⟨_, rfl, ?_⟩
  exact ⟨rfl, rfl⟩
theorem m_settled {v : Int32} (hM : MoAt (mT M) (mR M) o) : Ci g Y_Mo_settled 1 [.ref o, .int v] M (fun x M2 => x = v ∧ M2 = mk2 M (up2 (up2 (mI M) o 36 (nI 0)) o 0 (nI 0)) (mJ M)) := by
  refine cw_entry 0 pf_Mo_settled rfl ?_
  have to0 := hM.1
  refine wp_aload_n rfl (ck_get kk_Mo_settled 0 rfl) ?_
  refine wp_iconst (v := nI 0) (by decide) (ck_get kk_Mo_settled 1 rfl) ?_
  refine wp_putI (ck_get kk_Mo_settled 2 rfl) fl_Mo_11 (by decide +kernel) (by assumption) (okI_int _) ?_
  refine wp_aload_n rfl (ck_get kk_Mo_settled 3 rfl) ?_
  refine wp_iload_n rfl (ck_get kk_Mo_settled 4 rfl) ?_
  refine wp_cV1i (ck_get kk_Mo_settled 5 rfl) ml_Mo_14 (by omega) (Nat.le_of_ble_eq_true rfl) (by assumption) (Ci.to (m_good hM) ?_)
  rintro x M2 ⟨rfl, rfl⟩
  refine wp_ireturn (ck_get kk_Mo_settled 6 rfl) rfl rfl ⟨_, rfl, ?_⟩
  exact ⟨rfl, rfl⟩
theorem m_refuses {c : Nat} (hM : MoAt (mT M) (mR M) o) (hc : c < 7) : Ci g Y_Mo_refuses 0 [.ref o, .int (-nI c)] M (fun x M2 => x = -nI c ∧ M2 = mk2 M (up2 (up2 (mI M) o 0 (-nI c)) (o + 1) c (mI M (o + 1) c + 1)) (mJ M)) := by
  refine cw_entry 0 pf_Mo_refuses rfl ?_
  have to0 := hM.1
  have rfrefused := MoAt.r hM 0 rfl
  have tfrefused := MoAt.t hM 0 rfl
  refine wp_aload_n rfl (ck_get kk_Mo_refuses 0 rfl) ?_
  refine wp_iload_n rfl (ck_get kk_Mo_refuses 1 rfl) ?_
  refine wp_putI (ck_get kk_Mo_refuses 2 rfl) fl_Mo_3 (by decide +kernel) (by assumption) (okI_int _) ?_
  refine wp_aload_n rfl (ck_get kk_Mo_refuses 3 rfl) ?_
  refine wp_getR (ck_get kk_Mo_refuses 4 rfl) fl_Mo_7 (by assumption) (by assumption) ?_
  refine wp_iload_n rfl (ck_get kk_Mo_refuses 5 rfl) ?_
  refine wp_ineg (ck_get kk_Mo_refuses 6 rfl) ?_
  rw [Int32.neg_neg]
  first | refine wp_dup2l rfl (ck_get kk_Mo_refuses 7 rfl) ?_ | refine wp_dup2 rfl rfl (ck_get kk_Mo_refuses 7 rfl) ?_
  refine wp_ialdv (v := mI M (o + 1) c) (ck_get kk_Mo_refuses 8 rfl) (by assumption) (by first | assumption | exact ixk_nI (by omega) (by omega)) (by rw [mI_sI, if_neg (by omega)]) ?_
  refine wp_iconst (v := nI 1) (by decide) (ck_get kk_Mo_refuses 9 rfl) ?_
  first | refine wp_iaddN (ck_get kk_Mo_refuses 10 rfl) ?_ | refine wp_iadd (ck_get kk_Mo_refuses 10 rfl) ?_
  refine wp_iast (ck_get kk_Mo_refuses 11 rfl) (by assumption) (by first | assumption | exact ixk_nI (by omega) (by omega)) ?_
  refine wp_iload_n rfl (ck_get kk_Mo_refuses 12 rfl) ?_
  refine wp_ireturn (ck_get kk_Mo_refuses 13 rfl) rfl rfl ⟨_, rfl, ?_⟩
  exact ⟨rfl, rfl⟩
theorem l_moPlace {t row n : Nat} {key : Int32} (hM : MoAt (mT M) (mR M) o) (hn : mI M (o + 2) (92 * t + row) = nI n) (hb : 92 * t + row + n < 5995) : ∀ k i, n ≤ i + k → i ≤ n → Wp g Y_Mo_placeIn 1 15 [some (.ref o), some (.int (nI t)), some (.int (nI row)), some (.int key), some (.int (nI n)), some (.int (nI (i + 1)))] [] M (fun r M2 => ∃ x, r = some (.int x) ∧ x = nI (fndF (fun j => mI M (o + 2) (92 * t + row + 1 + j)) n key k i) ∧ M2 = M) := by
  have to0 := hM.1
  have rfkept := MoAt.r hM 1 rfl
  have tfkept := MoAt.t hM 1 rfl
  intro k
  induction k with
  | zero =>
    intro i h1 h2
    refine wp_iload rfl (ck_get kk_Mo_placeIn 9 rfl) ?_
    refine wp_iload rfl (ck_get kk_Mo_placeIn 10 rfl) ?_
    first | refine wp_icmp_gtN (t := 48) (ck_get kk_Mo_placeIn 11 rfl) (by decide) (by omega) (by omega) (fun hc19 => ?_) (fun hc19 => ?_) | refine wp_icmp_gt (t := 48) (ck_get kk_Mo_placeIn 11 rfl) (by decide) (fun hc19 => ?_) (fun hc19 => ?_)
    · refine wp_iconst (v := nI 0) (by decide) (ck_get kk_Mo_placeIn 26 rfl) ?_
      refine wp_ireturn (ck_get kk_Mo_placeIn 27 rfl) rfl rfl ⟨_, rfl, ?_⟩
      exact ⟨rfl, rfl⟩
    · omega
  | succ k ih =>
    intro i h1 h2
    refine wp_iload rfl (ck_get kk_Mo_placeIn 9 rfl) ?_
    refine wp_iload rfl (ck_get kk_Mo_placeIn 10 rfl) ?_
    first | refine wp_icmp_gtN (t := 48) (ck_get kk_Mo_placeIn 11 rfl) (by decide) (by omega) (by omega) (fun hc19 => ?_) (fun hc19 => ?_) | refine wp_icmp_gt (t := 48) (ck_get kk_Mo_placeIn 11 rfl) (by decide) (fun hc19 => ?_) (fun hc19 => ?_)
    · refine wp_iconst (v := nI 0) (by decide) (ck_get kk_Mo_placeIn 26 rfl) ?_
      refine wp_ireturn (ck_get kk_Mo_placeIn 27 rfl) rfl rfl ⟨_, rfl, ?_⟩
      exact ⟨by rw [fndF, if_neg (by omega)], rfl⟩
    · refine wp_aload_n rfl (ck_get kk_Mo_placeIn 12 rfl) ?_
      refine wp_getR (ck_get kk_Mo_placeIn 13 rfl) fl_Mo_28 (by assumption) (by assumption) ?_
      refine wp_iload_n rfl (ck_get kk_Mo_placeIn 14 rfl) ?_
      refine wp_iload_n rfl (ck_get kk_Mo_placeIn 15 rfl) ?_
      refine wp_iload rfl (ck_get kk_Mo_placeIn 16 rfl) ?_
      first | refine wp_iaddN (ck_get kk_Mo_placeIn 17 rfl) ?_ | refine wp_iadd (ck_get kk_Mo_placeIn 17 rfl) ?_
      refine wp_cS2i (ck_get kk_Mo_placeIn 18 rfl) ml_Mo_142 (by omega) (Nat.le_of_ble_eq_true rfl) (Ci.to (m_at) ?_)
      rintro _ M1 ⟨rfl, e1⟩
      obtain rfl := e1.symm
      refine wp_ialdv (v := mI M (o + 2) (92 * t + row + 1 + i)) (ck_get kk_Mo_placeIn 19 rfl) (by assumption) (ixk_nI (k := 92 * t + (row + (i + 1))) (by omega) (by omega)) (by rw [show 92 * t + row + 1 + i = 92 * t + (row + (i + 1)) by omega]) ?_
      refine wp_iload_n rfl (ck_get kk_Mo_placeIn 20 rfl) ?_
      first | refine wp_icmp_neN (t := 42) (ck_get kk_Mo_placeIn 21 rfl) (by decide) (by omega) (by omega) (fun hc36 => ?_) (fun hc36 => ?_) | refine wp_icmp_ne (t := 42) (ck_get kk_Mo_placeIn 21 rfl) (by decide) (fun hc36 => ?_) (fun hc36 => ?_)
      · first | refine wp_iincN (ck_get kk_Mo_placeIn 24 rfl) rfl (by decide) rfl ?_ | refine wp_iinc (ck_get kk_Mo_placeIn 24 rfl) rfl (by decide) rfl ?_
        refine wp_goto (t := 15) (ck_get kk_Mo_placeIn 25 rfl) (by decide) ?_
        exact (ih (i + 1) (by omega) (by omega)).mono (fun r M2 ⟨x, e1, e2, e3⟩ => ⟨x, e1, by rw [e2, fndF, if_pos (by omega), if_neg hc36], e3⟩)
      · refine wp_iload rfl (ck_get kk_Mo_placeIn 22 rfl) ?_
        refine wp_ireturn (ck_get kk_Mo_placeIn 23 rfl) rfl rfl ⟨_, rfl, ?_⟩
        exact ⟨by rw [fndF, if_pos (by omega), if_pos hc36], rfl⟩
theorem m_placeIn {t row n : Nat} {key : Int32} (hM : MoAt (mT M) (mR M) o) (hn : mI M (o + 2) (92 * t + row) = nI n) (hb : 92 * t + row + n < 5995) : Ci g Y_Mo_placeIn 1 [.ref o, .int (nI t), .int (nI row), .int key] M (fun x M2 => x = nI (fnd (fun j => mI M (o + 2) (92 * t + row + 1 + j)) n key) ∧ M2 = M) := by
  refine cw_entry 2 pf_Mo_placeIn rfl ?_
  have hM0 := hM
  have to0 := hM.1
  have rfkept := MoAt.r hM 1 rfl
  have tfkept := MoAt.t hM 1 rfl
  refine wp_aload_n rfl (ck_get kk_Mo_placeIn 0 rfl) ?_
  refine wp_getR (ck_get kk_Mo_placeIn 1 rfl) fl_Mo_28 (by assumption) (by assumption) ?_
  refine wp_iload_n rfl (ck_get kk_Mo_placeIn 2 rfl) ?_
  refine wp_iload_n rfl (ck_get kk_Mo_placeIn 3 rfl) ?_
  refine wp_cS2i (ck_get kk_Mo_placeIn 4 rfl) ml_Mo_142 (by omega) (Nat.le_of_ble_eq_true rfl) (Ci.to (m_at) ?_)
  rintro _ M1 ⟨rfl, e1⟩
  obtain rfl := e1.symm
  refine wp_ialdv (v := nI n) (ck_get kk_Mo_placeIn 5 rfl) (by assumption) (by first | assumption | exact ixk_nI (by omega) (by omega)) (hn) ?_
  refine wp_istore (ck_get kk_Mo_placeIn 6 rfl) (by decide) rfl ?_
  refine wp_iconst (v := nI 1) (by decide) (ck_get kk_Mo_placeIn 7 rfl) ?_
  refine wp_istore (ck_get kk_Mo_placeIn 8 rfl) (by decide) rfl ?_
  exact l_moPlace hM0 hn hb n 0 (by omega) (by omega)
theorem m_hashOf {key s : Nat} (hM : MoAt (mT M) (mR M) o) (hs : mI M (o + 2) 384 = nI s) (h1 : key < 1000) (h2 : s < 1000) : Ci g Y_Mo_hashOf 0 [.ref o, .int (nI key)] M (fun x M2 => x = nI (hsh key s) ∧ M2 = M) := by
  refine cw_entry 0 pf_Mo_hashOf rfl ?_
  have to0 := hM.1
  have rfkept := MoAt.r hM 1 rfl
  have tfkept := MoAt.t hM 1 rfl
  refine wp_sipush (v := nI 617) (by decide) (ck_get kk_Mo_hashOf 0 rfl) ?_
  refine wp_iload_n rfl (ck_get kk_Mo_hashOf 1 rfl) ?_
  first | refine wp_imulN (ck_get kk_Mo_hashOf 2 rfl) ?_ | refine wp_imul (ck_get kk_Mo_hashOf 2 rfl) ?_
  refine wp_aload_n rfl (ck_get kk_Mo_hashOf 3 rfl) ?_
  refine wp_getR (ck_get kk_Mo_hashOf 4 rfl) fl_Mo_28 (by assumption) (by assumption) ?_
  refine wp_sipush (v := nI 384) (by decide) (ck_get kk_Mo_hashOf 5 rfl) ?_
  refine wp_ialdv (v := nI s) (ck_get kk_Mo_hashOf 6 rfl) (by assumption) (by first | assumption | exact ixk_nI (by omega) (by omega)) (hs) ?_
  first | refine wp_iaddN (ck_get kk_Mo_hashOf 7 rfl) ?_ | refine wp_iadd (ck_get kk_Mo_hashOf 7 rfl) ?_
  refine wp_sipush (v := nI 1000) (by decide) (ck_get kk_Mo_hashOf 8 rfl) ?_
  first | refine wp_iremN (ck_get kk_Mo_hashOf 9 rfl) (by omega) (by omega) (by omega) ?_ | refine wp_irem (by decide) (ck_get kk_Mo_hashOf 9 rfl) ?_
  refine wp_ireturn (ck_get kk_Mo_hashOf 10 rfl) rfl rfl ⟨_, rfl, ?_⟩
  exact ⟨rfl, rfl⟩
/-- a key goes out of the row at b (how many there are stands there) -/
def goF (K : Nat → Int32) (b p n i y : Nat) : Int32 := if b + p ≤ y ∧ y < b + i then K (y + 1) else K y
theorem goF_succ {I : Nat → Nat → Int32} {a b p n i : Nat} (hp : p ≤ i) : up2 (up1 I a (goF (I a) b p n i)) a (b + i) (I a (b + i + 1)) = up1 I a (goF (I a) b p n (i + 1)) := by
  funext x y
  unfold up2 up1 goF
  by_cases hx : x = a
  · subst hx
    simp only [true_and, if_true]
    by_cases hy : y = b + i
    · subst hy; rw [if_pos rfl, if_pos (by omega)]
    · rw [if_neg hy]
      by_cases h2 : b + p ≤ y ∧ y < b + i
      · rw [if_pos h2, if_pos (by omega)]
      · rw [if_neg h2, if_neg (by omega)]
  · simp [hx]
theorem l_goesOut {t row p n : Nat} (hM : MoAt (mT M) (mR M) o) (hp : 1 ≤ p) (hb : 92 * t + row + n < 5995) {Q : Option Value → Mem → Prop} (K : Wp g Y_Mo_goesOut 1 56 [some (.ref o), some (.int (nI t)), some (.int (nI row)), some (.int (nI p)), some (.int (nI n)), some (.int (nI n))] [] (mk2 M (up1 (mI M) (o + 2) (goF (mI M (o + 2)) (92 * t + row) p n n)) (mJ M)) Q) :
    ∀ k i, n = i + k → p ≤ i → Wp g Y_Mo_goesOut 1 15 [some (.ref o), some (.int (nI t)), some (.int (nI row)), some (.int (nI p)), some (.int (nI n)), some (.int (nI i))] [] (mk2 M (up1 (mI M) (o + 2) (goF (mI M (o + 2)) (92 * t + row) p n i)) (mJ M)) Q := by
  have to0 := hM.1
  have rfkept := MoAt.r hM 1 rfl
  have tfkept := MoAt.t hM 1 rfl
  intro k
  induction k with
  | zero =>
    intro i h1 h2
    refine wp_iload rfl (ck_get kk_Mo_goesOut 9 rfl) ?_
    refine wp_iload rfl (ck_get kk_Mo_goesOut 10 rfl) ?_
    first | refine wp_icmp_geN (t := 56) (ck_get kk_Mo_goesOut 11 rfl) (by decide) (by omega) (by omega) (fun hc19 => ?_) (fun hc19 => ?_) | refine wp_icmp_ge (t := 56) (ck_get kk_Mo_goesOut 11 rfl) (by decide) (fun hc19 => ?_) (fun hc19 => ?_)
    · subst h1; exact K
    · omega
  | succ k ih =>
    intro i h1 h2
    refine wp_iload rfl (ck_get kk_Mo_goesOut 9 rfl) ?_
    refine wp_iload rfl (ck_get kk_Mo_goesOut 10 rfl) ?_
    first | refine wp_icmp_geN (t := 56) (ck_get kk_Mo_goesOut 11 rfl) (by decide) (by omega) (by omega) (fun hc19 => ?_) (fun hc19 => ?_) | refine wp_icmp_ge (t := 56) (ck_get kk_Mo_goesOut 11 rfl) (by decide) (fun hc19 => ?_) (fun hc19 => ?_)
    · omega
    · refine wp_aload_n rfl (ck_get kk_Mo_goesOut 12 rfl) ?_
      refine wp_getR (ck_get kk_Mo_goesOut 13 rfl) fl_Mo_28 (by assumption) (by assumption) ?_
      refine wp_iload_n rfl (ck_get kk_Mo_goesOut 14 rfl) ?_
      refine wp_iload_n rfl (ck_get kk_Mo_goesOut 15 rfl) ?_
      refine wp_iload rfl (ck_get kk_Mo_goesOut 16 rfl) ?_
      first | refine wp_iaddN (ck_get kk_Mo_goesOut 17 rfl) ?_ | refine wp_iadd (ck_get kk_Mo_goesOut 17 rfl) ?_
      refine wp_cS2i (ck_get kk_Mo_goesOut 18 rfl) ml_Mo_142 (by omega) (Nat.le_of_ble_eq_true rfl) (Ci.to (m_at) ?_)
      rintro _ M1 ⟨rfl, e1⟩
      obtain rfl := e1.symm
      refine wp_aload_n rfl (ck_get kk_Mo_goesOut 19 rfl) ?_
      refine wp_getR (ck_get kk_Mo_goesOut 20 rfl) fl_Mo_28 (by assumption) (by assumption) ?_
      refine wp_iload_n rfl (ck_get kk_Mo_goesOut 21 rfl) ?_
      refine wp_iload_n rfl (ck_get kk_Mo_goesOut 22 rfl) ?_
      refine wp_iload rfl (ck_get kk_Mo_goesOut 23 rfl) ?_
      first | refine wp_iaddN (ck_get kk_Mo_goesOut 24 rfl) ?_ | refine wp_iadd (ck_get kk_Mo_goesOut 24 rfl) ?_
      refine wp_iconst (v := nI 1) (by decide) (ck_get kk_Mo_goesOut 25 rfl) ?_
      first | refine wp_iaddN (ck_get kk_Mo_goesOut 26 rfl) ?_ | refine wp_iadd (ck_get kk_Mo_goesOut 26 rfl) ?_
      refine wp_cS2i (ck_get kk_Mo_goesOut 27 rfl) ml_Mo_142 (by omega) (Nat.le_of_ble_eq_true rfl) (Ci.to (m_at) ?_)
      rintro _ M1 ⟨rfl, e1⟩
      obtain rfl := e1.symm
      refine wp_ialdv (v := mI M (o + 2) (92 * t + (row + i) + 1)) (ck_get kk_Mo_goesOut 28 rfl) (by assumption) (ixk_nI (k := 92 * t + (row + i + 1)) (by omega) (by omega)) (show up1 (mI M) (o + 2) _ (o + 2) (92 * t + (row + i + 1)) = _ by rw [up1_eq, goF, if_neg (by omega), show 92 * t + (row + i + 1) = 92 * t + (row + i) + 1 by omega]) ?_
      refine wp_iast (ck_get kk_Mo_goesOut 29 rfl) (by assumption) (ixk_nI (k := 92 * t + (row + i)) (by omega) (by omega)) ?_
      first | refine wp_iincN (ck_get kk_Mo_goesOut 30 rfl) rfl (by decide) rfl ?_ | refine wp_iinc (ck_get kk_Mo_goesOut 30 rfl) rfl (by decide) rfl ?_
      refine wp_goto (t := 15) (ck_get kk_Mo_goesOut 31 rfl) (by decide) ?_
      have e := ih (i + 1) (by omega) (by omega)
      rw [← goF_succ h2] at e
      rw [show 92 * t + row + i = 92 * t + (row + i) by omega] at e
      exact e
theorem l_goesOut2 {t row n : Nat} {f : Nat → Int32} {x3 x5 : Option Value} (hM : MoAt (mT M) (mR M) o) (hn : 1 ≤ n) (hb : 92 * t + row + n < 5995) : Wp g Y_Mo_goesOut 1 56 [some (.ref o), some (.int (nI t)), some (.int (nI row)), x3, some (.int (nI n)), x5] [] (mk2 M (up1 (mI M) (o + 2) f) (mJ M)) (fun r M2 => r = none ∧ M2 = mk2 M (up1 (mI M) (o + 2) (up1 f (92 * t + row) (nI (n - 1)))) (mJ M)) := by
  have to0 := hM.1
  have rfkept := MoAt.r hM 1 rfl
  have tfkept := MoAt.t hM 1 rfl
  refine wp_aload_n rfl (ck_get kk_Mo_goesOut 32 rfl) ?_
  refine wp_getR (ck_get kk_Mo_goesOut 33 rfl) fl_Mo_28 (by assumption) (by assumption) ?_
  refine wp_iload_n rfl (ck_get kk_Mo_goesOut 34 rfl) ?_
  refine wp_iload_n rfl (ck_get kk_Mo_goesOut 35 rfl) ?_
  refine wp_cS2i (ck_get kk_Mo_goesOut 36 rfl) ml_Mo_142 (by omega) (Nat.le_of_ble_eq_true rfl) (Ci.to (m_at) ?_)
  rintro _ M1 ⟨rfl, e1⟩
  obtain rfl := e1.symm
  refine wp_iload rfl (ck_get kk_Mo_goesOut 37 rfl) ?_
  refine wp_iconst (v := nI 1) (by decide) (ck_get kk_Mo_goesOut 38 rfl) ?_
  first | refine wp_isubN (ck_get kk_Mo_goesOut 39 rfl) (by omega) ?_ | refine wp_isub (ck_get kk_Mo_goesOut 39 rfl) ?_
  refine wp_iast (ck_get kk_Mo_goesOut 40 rfl) (by assumption) (by first | assumption | exact ixk_nI (by omega) (by omega)) ?_
  refine wp_return (ck_get kk_Mo_goesOut 41 rfl) rfl ⟨rfl, ?_⟩
  refine congrArg (fun I => mk2 M I (mJ M)) ?_
  show up2 (up1 (mI M) (o + 2) f) (o + 2) (92 * t + row) (nI (n - 1)) = _
  rw [up2_up1, up1_eq, up1_up1]
theorem m_goesOut {t row p n : Nat} (hM : MoAt (mT M) (mR M) o) (hn : mI M (o + 2) (92 * t + row) = nI n) (hp : 1 ≤ p) (hpn : p ≤ n) (hb : 92 * t + row + n < 5995) : Cv g Y_Mo_goesOut 1 [.ref o, .int (nI t), .int (nI row), .int (nI p)] M (fun M2 => M2 = mk2 M (up1 (mI M) (o + 2) (up1 (goF (mI M (o + 2)) (92 * t + row) p n n) (92 * t + row) (nI (n - 1)))) (mJ M)) := by
  refine cw_entry 2 pf_Mo_goesOut rfl ?_
  have hM0 := hM
  have to0 := hM.1
  have rfkept := MoAt.r hM 1 rfl
  have tfkept := MoAt.t hM 1 rfl
  refine wp_aload_n rfl (ck_get kk_Mo_goesOut 0 rfl) ?_
  refine wp_getR (ck_get kk_Mo_goesOut 1 rfl) fl_Mo_28 (by assumption) (by assumption) ?_
  refine wp_iload_n rfl (ck_get kk_Mo_goesOut 2 rfl) ?_
  refine wp_iload_n rfl (ck_get kk_Mo_goesOut 3 rfl) ?_
  refine wp_cS2i (ck_get kk_Mo_goesOut 4 rfl) ml_Mo_142 (by omega) (Nat.le_of_ble_eq_true rfl) (Ci.to (m_at) ?_)
  rintro _ M1 ⟨rfl, e1⟩
  obtain rfl := e1.symm
  refine wp_ialdv (v := nI n) (ck_get kk_Mo_goesOut 5 rfl) (by assumption) (by first | assumption | exact ixk_nI (by omega) (by omega)) (hn) ?_
  refine wp_istore (ck_get kk_Mo_goesOut 6 rfl) (by decide) rfl ?_
  refine wp_iload_n rfl (ck_get kk_Mo_goesOut 7 rfl) ?_
  refine wp_istore (ck_get kk_Mo_goesOut 8 rfl) (by decide) rfl ?_
  have e0 : up1 (mI M) (o + 2) (goF (mI M (o + 2)) (92 * t + row) p n p) = mI M := by
    refine up1_id ?_
    funext y
    unfold goF
    rw [if_neg (by omega)]
  refine Eq.mp ?_ (l_goesOut (g := g) (Q := fun r M2 => r = none ∧ (fun M2 => M2 = mk2 M (up1 (mI M) (o + 2) (up1 (goF (mI M (o + 2)) (92 * t + row) p n n) (92 * t + row) (nI (n - 1)))) (mJ M)) M2) hM0 hp hb ?_ (n - p) p (by omega) (by omega))
  · rw [e0]; rfl
  · exact l_goesOut2 hM0 (by omega) hb
/-- a key comes first in the row at b; the last ones above i have moved up -/
def cfF (K : Nat → Int32) (b n i y : Nat) : Int32 := if b + 1 + i < y ∧ y ≤ b + 1 + n then K (y - 1) else K y
theorem cfF_pred {I : Nat → Nat → Int32} {a b n i : Nat} (hi : i + 1 ≤ n) : up2 (up1 I a (cfF (I a) b n (i + 1))) a (b + (i + 1) + 1) (I a (b + (i + 1))) = up1 I a (cfF (I a) b n i) := by
  funext x y
  unfold up2 up1 cfF
  by_cases hx : x = a
  · subst hx
    simp only [true_and, if_true]
    by_cases hy : y = b + (i + 1) + 1
    · subst hy; rw [if_pos rfl, if_pos (by omega)]; rfl
    · rw [if_neg hy]
      by_cases h2 : b + 1 + (i + 1) < y ∧ y ≤ b + 1 + n
      · rw [if_pos h2, if_pos (by omega)]
      · rw [if_neg h2, if_neg (by omega)]
  · simp [hx]
theorem l_comesFirst {t row n : Nat} {key : Int32} (hM : MoAt (mT M) (mR M) o) (hb : 92 * t + row + n + 1 < 5995) {Q : Option Value → Mem → Prop} (K : Wp g Y_Mo_comesFirst 1 56 [some (.ref o), some (.int (nI t)), some (.int (nI row)), some (.int key), some (.int (nI n)), some (.int (nI 0))] [] (mk2 M (up1 (mI M) (o + 2) (cfF (mI M (o + 2)) (92 * t + row) n 0)) (mJ M)) Q) :
    ∀ i, i ≤ n → Wp g Y_Mo_comesFirst 1 16 [some (.ref o), some (.int (nI t)), some (.int (nI row)), some (.int key), some (.int (nI n)), some (.int (nI i))] [] (mk2 M (up1 (mI M) (o + 2) (cfF (mI M (o + 2)) (92 * t + row) n i)) (mJ M)) Q := by
  have to0 := hM.1
  have rfkept := MoAt.r hM 1 rfl
  have tfkept := MoAt.t hM 1 rfl
  intro i
  induction i with
  | zero =>
    intro h1
    refine wp_iload rfl (ck_get kk_Mo_comesFirst 9 rfl) ?_
    refine wp_iconst (v := nI 1) (by decide) (ck_get kk_Mo_comesFirst 10 rfl) ?_
    first | refine wp_icmp_ltN (t := 56) (ck_get kk_Mo_comesFirst 11 rfl) (by decide) (by omega) (by omega) (fun hc19 => ?_) (fun hc19 => ?_) | refine wp_icmp_lt (t := 56) (ck_get kk_Mo_comesFirst 11 rfl) (by decide) (fun hc19 => ?_) (fun hc19 => ?_)
    · exact K
    · omega
  | succ i ih =>
    intro h1
    refine wp_iload rfl (ck_get kk_Mo_comesFirst 9 rfl) ?_
    refine wp_iconst (v := nI 1) (by decide) (ck_get kk_Mo_comesFirst 10 rfl) ?_
    first | refine wp_icmp_ltN (t := 56) (ck_get kk_Mo_comesFirst 11 rfl) (by decide) (by omega) (by omega) (fun hc19 => ?_) (fun hc19 => ?_) | refine wp_icmp_lt (t := 56) (ck_get kk_Mo_comesFirst 11 rfl) (by decide) (fun hc19 => ?_) (fun hc19 => ?_)
    · omega
    · refine wp_aload_n rfl (ck_get kk_Mo_comesFirst 12 rfl) ?_
      refine wp_getR (ck_get kk_Mo_comesFirst 13 rfl) fl_Mo_28 (by assumption) (by assumption) ?_
      refine wp_iload_n rfl (ck_get kk_Mo_comesFirst 14 rfl) ?_
      refine wp_iload_n rfl (ck_get kk_Mo_comesFirst 15 rfl) ?_
      refine wp_iload rfl (ck_get kk_Mo_comesFirst 16 rfl) ?_
      first | refine wp_iaddN (ck_get kk_Mo_comesFirst 17 rfl) ?_ | refine wp_iadd (ck_get kk_Mo_comesFirst 17 rfl) ?_
      refine wp_iconst (v := nI 1) (by decide) (ck_get kk_Mo_comesFirst 18 rfl) ?_
      first | refine wp_iaddN (ck_get kk_Mo_comesFirst 19 rfl) ?_ | refine wp_iadd (ck_get kk_Mo_comesFirst 19 rfl) ?_
      refine wp_cS2i (ck_get kk_Mo_comesFirst 20 rfl) ml_Mo_142 (by omega) (Nat.le_of_ble_eq_true rfl) (Ci.to (m_at) ?_)
      rintro _ M1 ⟨rfl, e1⟩
      obtain rfl := e1.symm
      refine wp_aload_n rfl (ck_get kk_Mo_comesFirst 21 rfl) ?_
      refine wp_getR (ck_get kk_Mo_comesFirst 22 rfl) fl_Mo_28 (by assumption) (by assumption) ?_
      refine wp_iload_n rfl (ck_get kk_Mo_comesFirst 23 rfl) ?_
      refine wp_iload_n rfl (ck_get kk_Mo_comesFirst 24 rfl) ?_
      refine wp_iload rfl (ck_get kk_Mo_comesFirst 25 rfl) ?_
      first | refine wp_iaddN (ck_get kk_Mo_comesFirst 26 rfl) ?_ | refine wp_iadd (ck_get kk_Mo_comesFirst 26 rfl) ?_
      refine wp_cS2i (ck_get kk_Mo_comesFirst 27 rfl) ml_Mo_142 (by omega) (Nat.le_of_ble_eq_true rfl) (Ci.to (m_at) ?_)
      rintro _ M1 ⟨rfl, e1⟩
      obtain rfl := e1.symm
      refine wp_ialdv (v := mI M (o + 2) (92 * t + row + (i + 1))) (ck_get kk_Mo_comesFirst 28 rfl) (by assumption) (ixk_nI (k := 92 * t + (row + (i + 1))) (by omega) (by omega)) (show up1 (mI M) (o + 2) _ (o + 2) (92 * t + (row + (i + 1))) = _ by rw [up1_eq, cfF, if_neg (by omega), show 92 * t + (row + (i + 1)) = 92 * t + row + (i + 1) by omega]) ?_
      refine wp_iast (ck_get kk_Mo_comesFirst 29 rfl) (by assumption) (ixk_nI (k := 92 * t + (row + (i + 1) + 1)) (by omega) (by omega)) ?_
      first | refine wp_iincD (ck_get kk_Mo_comesFirst 30 rfl) rfl (by decide) rfl ?_ | refine wp_iinc (ck_get kk_Mo_comesFirst 30 rfl) rfl (by decide) rfl ?_
      refine wp_goto (t := 16) (ck_get kk_Mo_comesFirst 31 rfl) (by decide) ?_
      have e := ih (by omega)
      rw [← cfF_pred h1] at e
      rw [show 92 * t + row + (i + 1) + 1 = 92 * t + (row + (i + 1) + 1) by omega] at e
      exact e
theorem l_comesFirst2 {t row n : Nat} {key : Int32} {f : Nat → Int32} {x5 : Option Value} (hM : MoAt (mT M) (mR M) o) (hb : 92 * t + row + n + 1 < 5995) : Wp g Y_Mo_comesFirst 1 56 [some (.ref o), some (.int (nI t)), some (.int (nI row)), some (.int key), some (.int (nI n)), x5] [] (mk2 M (up1 (mI M) (o + 2) f) (mJ M)) (fun r M2 => r = none ∧ M2 = mk2 M (up1 (mI M) (o + 2) (up1 (up1 f (92 * t + row + 1) key) (92 * t + row) (nI (n + 1)))) (mJ M)) := by
  have to0 := hM.1
  have rfkept := MoAt.r hM 1 rfl
  have tfkept := MoAt.t hM 1 rfl
  refine wp_aload_n rfl (ck_get kk_Mo_comesFirst 32 rfl) ?_
  refine wp_getR (ck_get kk_Mo_comesFirst 33 rfl) fl_Mo_28 (by assumption) (by assumption) ?_
  refine wp_iload_n rfl (ck_get kk_Mo_comesFirst 34 rfl) ?_
  refine wp_iload_n rfl (ck_get kk_Mo_comesFirst 35 rfl) ?_
  refine wp_iconst (v := nI 1) (by decide) (ck_get kk_Mo_comesFirst 36 rfl) ?_
  first | refine wp_iaddN (ck_get kk_Mo_comesFirst 37 rfl) ?_ | refine wp_iadd (ck_get kk_Mo_comesFirst 37 rfl) ?_
  refine wp_cS2i (ck_get kk_Mo_comesFirst 38 rfl) ml_Mo_142 (by omega) (Nat.le_of_ble_eq_true rfl) (Ci.to (m_at) ?_)
  rintro _ M1 ⟨rfl, e1⟩
  obtain rfl := e1.symm
  refine wp_iload_n rfl (ck_get kk_Mo_comesFirst 39 rfl) ?_
  refine wp_iast (ck_get kk_Mo_comesFirst 40 rfl) (by assumption) (ixk_nI (k := 92 * t + (row + 1)) (by omega) (by omega)) ?_
  refine wp_aload_n rfl (ck_get kk_Mo_comesFirst 41 rfl) ?_
  refine wp_getR (ck_get kk_Mo_comesFirst 42 rfl) fl_Mo_28 (by assumption) (by assumption) ?_
  refine wp_iload_n rfl (ck_get kk_Mo_comesFirst 43 rfl) ?_
  refine wp_iload_n rfl (ck_get kk_Mo_comesFirst 44 rfl) ?_
  refine wp_cS2i (ck_get kk_Mo_comesFirst 45 rfl) ml_Mo_142 (by omega) (Nat.le_of_ble_eq_true rfl) (Ci.to (m_at) ?_)
  rintro _ M1 ⟨rfl, e1⟩
  obtain rfl := e1.symm
  refine wp_iload rfl (ck_get kk_Mo_comesFirst 46 rfl) ?_
  refine wp_iconst (v := nI 1) (by decide) (ck_get kk_Mo_comesFirst 47 rfl) ?_
  first | refine wp_iaddN (ck_get kk_Mo_comesFirst 48 rfl) ?_ | refine wp_iadd (ck_get kk_Mo_comesFirst 48 rfl) ?_
  refine wp_iast (ck_get kk_Mo_comesFirst 49 rfl) (by assumption) (ixk_nI (k := 92 * t + row) (by omega) (by omega)) ?_
  refine wp_return (ck_get kk_Mo_comesFirst 50 rfl) rfl ⟨rfl, ?_⟩
  refine congrArg (fun I => mk2 M I (mJ M)) ?_
  show up2 (up2 (up1 (mI M) (o + 2) f) (o + 2) (92 * t + (row + 1)) key) (o + 2) (92 * t + row) (nI (n + 1)) = _
  rw [up2_up1, up2_up1, up1_eq, up1_up1, up1_eq, up1_up1]
  rfl
theorem m_comesFirst {t row n : Nat} {key : Int32} (hM : MoAt (mT M) (mR M) o) (hn : mI M (o + 2) (92 * t + row) = nI n) (hb : 92 * t + row + n + 1 < 5995) : Cv g Y_Mo_comesFirst 1 [.ref o, .int (nI t), .int (nI row), .int key] M (fun M2 => M2 = mk2 M (up1 (mI M) (o + 2) (up1 (up1 (cfF (mI M (o + 2)) (92 * t + row) n 0) (92 * t + row + 1) key) (92 * t + row) (nI (n + 1)))) (mJ M)) := by
  refine cw_entry 2 pf_Mo_comesFirst rfl ?_
  have hM0 := hM
  have to0 := hM.1
  have rfkept := MoAt.r hM 1 rfl
  have tfkept := MoAt.t hM 1 rfl
  refine wp_aload_n rfl (ck_get kk_Mo_comesFirst 0 rfl) ?_
  refine wp_getR (ck_get kk_Mo_comesFirst 1 rfl) fl_Mo_28 (by assumption) (by assumption) ?_
  refine wp_iload_n rfl (ck_get kk_Mo_comesFirst 2 rfl) ?_
  refine wp_iload_n rfl (ck_get kk_Mo_comesFirst 3 rfl) ?_
  refine wp_cS2i (ck_get kk_Mo_comesFirst 4 rfl) ml_Mo_142 (by omega) (Nat.le_of_ble_eq_true rfl) (Ci.to (m_at) ?_)
  rintro _ M1 ⟨rfl, e1⟩
  obtain rfl := e1.symm
  refine wp_ialdv (v := nI n) (ck_get kk_Mo_comesFirst 5 rfl) (by assumption) (by first | assumption | exact ixk_nI (by omega) (by omega)) (hn) ?_
  refine wp_istore (ck_get kk_Mo_comesFirst 6 rfl) (by decide) rfl ?_
  refine wp_iload rfl (ck_get kk_Mo_comesFirst 7 rfl) ?_
  refine wp_istore (ck_get kk_Mo_comesFirst 8 rfl) (by decide) rfl ?_
  have e0 : up1 (mI M) (o + 2) (cfF (mI M (o + 2)) (92 * t + row) n n) = mI M := by
    refine up1_id ?_
    funext y
    unfold cfF
    rw [if_neg (by omega)]
  refine Eq.mp ?_ (l_comesFirst (g := g) (key := key) (Q := fun r M2 => r = none ∧ (fun M2 => M2 = mk2 M (up1 (mI M) (o + 2) (up1 (up1 (cfF (mI M (o + 2)) (92 * t + row) n 0) (92 * t + row + 1) key) (92 * t + row) (nI (n + 1)))) (mJ M)) M2) hM0 hb ?_ n (Nat.le_refl _))
  · rw [e0]; rfl
  · exact l_comesFirst2 hM0 hb
theorem m_comesLast {t row n : Nat} {key : Int32} (hM : MoAt (mT M) (mR M) o) (hn : mI M (o + 2) (92 * t + row) = nI n) (hb : 92 * t + row + n + 1 < 5995) : Cv g Y_Mo_comesLast 1 [.ref o, .int (nI t), .int (nI row), .int key] M (fun M2 => M2 = mk2 M (up1 (mI M) (o + 2) (up1 (up1 (mI M (o + 2)) (92 * t + row + n + 1) key) (92 * t + row) (nI (n + 1)))) (mJ M)) := by
  refine cw_entry 1 pf_Mo_comesLast rfl ?_
  have to0 := hM.1
  have rfkept := MoAt.r hM 1 rfl
  have tfkept := MoAt.t hM 1 rfl
  refine wp_aload_n rfl (ck_get kk_Mo_comesLast 0 rfl) ?_
  refine wp_getR (ck_get kk_Mo_comesLast 1 rfl) fl_Mo_28 (by assumption) (by assumption) ?_
  refine wp_iload_n rfl (ck_get kk_Mo_comesLast 2 rfl) ?_
  refine wp_iload_n rfl (ck_get kk_Mo_comesLast 3 rfl) ?_
  refine wp_cS2i (ck_get kk_Mo_comesLast 4 rfl) ml_Mo_142 (by omega) (Nat.le_of_ble_eq_true rfl) (Ci.to (m_at) ?_)
  rintro _ M1 ⟨rfl, e1⟩
  obtain rfl := e1.symm
  refine wp_ialdv (v := nI n) (ck_get kk_Mo_comesLast 5 rfl) (by assumption) (by first | assumption | exact ixk_nI (by omega) (by omega)) (hn) ?_
  refine wp_iconst (v := nI 1) (by decide) (ck_get kk_Mo_comesLast 6 rfl) ?_
  first | refine wp_iaddN (ck_get kk_Mo_comesLast 7 rfl) ?_ | refine wp_iadd (ck_get kk_Mo_comesLast 7 rfl) ?_
  refine wp_istore (ck_get kk_Mo_comesLast 8 rfl) (by decide) rfl ?_
  refine wp_aload_n rfl (ck_get kk_Mo_comesLast 9 rfl) ?_
  refine wp_getR (ck_get kk_Mo_comesLast 10 rfl) fl_Mo_28 (by assumption) (by assumption) ?_
  refine wp_iload_n rfl (ck_get kk_Mo_comesLast 11 rfl) ?_
  refine wp_iload_n rfl (ck_get kk_Mo_comesLast 12 rfl) ?_
  refine wp_iload rfl (ck_get kk_Mo_comesLast 13 rfl) ?_
  first | refine wp_iaddN (ck_get kk_Mo_comesLast 14 rfl) ?_ | refine wp_iadd (ck_get kk_Mo_comesLast 14 rfl) ?_
  refine wp_cS2i (ck_get kk_Mo_comesLast 15 rfl) ml_Mo_142 (by omega) (Nat.le_of_ble_eq_true rfl) (Ci.to (m_at) ?_)
  rintro _ M1 ⟨rfl, e1⟩
  obtain rfl := e1.symm
  refine wp_iload_n rfl (ck_get kk_Mo_comesLast 16 rfl) ?_
  refine wp_iast (ck_get kk_Mo_comesLast 17 rfl) (by assumption) (ixk_nI (k := 92 * t + (row + (n + 1))) (by omega) (by omega)) ?_
  refine wp_aload_n rfl (ck_get kk_Mo_comesLast 18 rfl) ?_
  refine wp_getR (ck_get kk_Mo_comesLast 19 rfl) fl_Mo_28 (by assumption) (by assumption) ?_
  refine wp_iload_n rfl (ck_get kk_Mo_comesLast 20 rfl) ?_
  refine wp_iload_n rfl (ck_get kk_Mo_comesLast 21 rfl) ?_
  refine wp_cS2i (ck_get kk_Mo_comesLast 22 rfl) ml_Mo_142 (by omega) (Nat.le_of_ble_eq_true rfl) (Ci.to (m_at) ?_)
  rintro _ M1 ⟨rfl, e1⟩
  obtain rfl := e1.symm
  refine wp_iload rfl (ck_get kk_Mo_comesLast 23 rfl) ?_
  refine wp_iast (ck_get kk_Mo_comesLast 24 rfl) (by assumption) (ixk_nI (k := 92 * t + row) (by omega) (by omega)) ?_
  refine wp_return (ck_get kk_Mo_comesLast 25 rfl) rfl ⟨rfl, ?_⟩
  refine congrArg (fun I => mk2 M I (mJ M)) ?_
  show up2 (up2 (mI M) (o + 2) (92 * t + (row + (n + 1))) key) (o + 2) (92 * t + row) (nI (n + 1)) = _
  rw [up2_up1, up2_up1, up1_eq, up1_up1, show 92 * t + (row + (n + 1)) = 92 * t + row + n + 1 by omega]
end MO

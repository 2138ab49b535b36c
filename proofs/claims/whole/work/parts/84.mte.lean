/-! ===== the model's tenants as lists ===== -/
/-- the model's memory while it works: what is kept, parts, what is asked, its own numbers -/
abbrev wkM (M : Mem) (o : Nat) (K : Nat → Int32) (P : Nat → Int64) (A F : Nat → Int32) : Mem := mk2 M (up1 (up1 (up1 (mI M) (o + 2) K) (o + 15) A) o F) (up1 (mJ M) (o + 3) P)
section MTE
variable {g : Gl} {M : Mem} {o : Nat} {K A F : Nat → Int32} {P : Nat → Int64}
theorem wk_2 : mI (wkM M o K P A F) (o + 2) = K := by
  show up1 (up1 (up1 (mI M) (o + 2) K) (o + 15) A) o F (o + 2) = K
  rw [up1_ne (by omega), up1_ne (by omega), up1_eq]
theorem wk_15 : mI (wkM M o K P A F) (o + 15) = A := by
  show up1 (up1 (up1 (mI M) (o + 2) K) (o + 15) A) o F (o + 15) = A
  rw [up1_ne (by omega), up1_eq]
theorem wk_o : mI (wkM M o K P A F) o = F := up1_eq
theorem wk_x {x : Nat} (h : x ≠ o) (h2 : x ≠ o + 2) (h3 : x ≠ o + 15) : mI (wkM M o K P A F) x = mI M x := by
  show up1 (up1 (up1 (mI M) (o + 2) K) (o + 15) A) o F x = mI M x
  rw [up1_ne h, up1_ne h3, up1_ne h2]
theorem wk_J : mJ (wkM M o K P A F) (o + 3) = P := up1_eq
theorem wk_K {K2 : Nat → Int32} : mk2 (wkM M o K P A F) (up1 (mI (wkM M o K P A F)) (o + 2) K2) (mJ (wkM M o K P A F)) = wkM M o K2 P A F := by
  refine congrArg (fun I => mk2 M I (up1 (mJ M) (o + 3) P)) ?_
  show up1 (up1 (up1 (up1 (mI M) (o + 2) K) (o + 15) A) o F) (o + 2) K2 = _
  rw [up1_comm _ (by omega : o ≠ o + 2), up1_comm _ (by omega : o + 15 ≠ o + 2), up1_up1]
theorem wk_A {A2 : Nat → Int32} : mk2 (wkM M o K P A F) (up1 (mI (wkM M o K P A F)) (o + 15) A2) (mJ (wkM M o K P A F)) = wkM M o K P A2 F := by
  refine congrArg (fun I => mk2 M I (up1 (mJ M) (o + 3) P)) ?_
  show up1 (up1 (up1 (up1 (mI M) (o + 2) K) (o + 15) A) o F) (o + 15) A2 = _
  rw [up1_comm _ (by omega : o ≠ o + 15), up1_up1]
theorem wk_F {F2 : Nat → Int32} : mk2 (wkM M o K P A F) (up1 (mI (wkM M o K P A F)) o F2) (mJ (wkM M o K P A F)) = wkM M o K P A F2 := by
  refine congrArg (fun I => mk2 M I (up1 (mJ M) (o + 3) P)) ?_
  show up1 (up1 (up1 (up1 (mI M) (o + 2) K) (o + 15) A) o F) o F2 = _
  rw [up1_up1]
theorem wk_sK {q : Nat} {v : Int32} : sI (wkM M o K P A F) (o + 2) q v = wkM M o (up1 K q v) P A F := by
  refine congrArg (fun I => mk2 M I (up1 (mJ M) (o + 3) P)) ?_
  show up2 (up1 (up1 (up1 (mI M) (o + 2) K) (o + 15) A) o F) (o + 2) q v = _
  rw [up2_up1, up1_ne (by omega), up1_ne (by omega), up1_eq, up1_comm _ (by omega : o ≠ o + 2), up1_comm _ (by omega : o + 15 ≠ o + 2), up1_up1]
theorem wk_sF {q : Nat} {v : Int32} : sI (wkM M o K P A F) o q v = wkM M o K P A (up1 F q v) := by
  refine congrArg (fun I => mk2 M I (up1 (mJ M) (o + 3) P)) ?_
  show up2 (up1 (up1 (up1 (mI M) (o + 2) K) (o + 15) A) o F) o q v = _
  rw [up2_up1, up1_eq, up1_up1]
theorem wk_sP {q : Nat} {v : Int64} : sJ (wkM M o K P A F) (o + 3) q v = wkM M o K (up1 P q v) A F := by
  refine congrArg (fun J => mk2 M (up1 (up1 (up1 (mI M) (o + 2) K) (o + 15) A) o F) J) ?_
  show up2 (up1 (mJ M) (o + 3) P) (o + 3) q v = _
  rw [up2_up1, up1_eq, up1_up1]
theorem wk_id : wkM M o (mI M (o + 2)) (mJ M (o + 3)) (mI M (o + 15)) (mI M o) = M := by
  show mk2 M (up1 (up1 (up1 (mI M) (o + 2) (mI M (o + 2))) (o + 15) (mI M (o + 15))) o (mI M o)) (up1 (mJ M) (o + 3) (mJ M (o + 3))) = M
  rw [up1_self, up1_self, up1_self, up1_self]
theorem m_greater {a b : Nat} (ha : a < 2147483648) (hb : b < 2147483648) : Ci g Y_Mo_greater 0 [.int (nI a), .int (nI b)] M (fun x M2 => x = nI (max a b) ∧ M2 = M) := by
  refine cw_entry 0 pf_Mo_greater rfl ?_
  refine wp_iload_n rfl (ck_get kk_Mo_greater 0 rfl) ?_
  refine wp_iload_n rfl (ck_get kk_Mo_greater 1 rfl) ?_
  first | refine wp_icmp_leN (t := 9) (ck_get kk_Mo_greater 2 rfl) (by decide) (by omega) (by omega) (fun hc2 => ?_) (fun hc2 => ?_) | refine wp_icmp_le (t := 9) (ck_get kk_Mo_greater 2 rfl) (by decide) (fun hc2 => ?_) (fun hc2 => ?_)
  · refine wp_iload_n rfl (ck_get kk_Mo_greater 5 rfl) ?_
    refine wp_ireturn (ck_get kk_Mo_greater 6 rfl) rfl rfl ⟨_, rfl, ?_⟩
    exact ⟨congrArg nI (by omega), rfl⟩
  · refine wp_iload_n rfl (ck_get kk_Mo_greater 3 rfl) ?_
    refine wp_goto (t := 10) (ck_get kk_Mo_greater 4 rfl) (by decide) ?_
    refine wp_ireturn (ck_get kk_Mo_greater 6 rfl) rfl rfl ⟨_, rfl, ?_⟩
    exact ⟨congrArg nI (by omega), rfl⟩
theorem take_getD {L : List Nat} {k : Nat} (h : k < L.length) : L.take (k + 1) = L.take k ++ [L.getD k 0] := by
  rw [List.take_succ, List.getD_eq_getElem?_getD, List.getElem?_eq_getElem h]; rfl
theorem drop_getD {L : List Nat} {k : Nat} (h : k < L.length) : L.drop k = L.getD k 0 :: L.drop (k + 1) := by
  rw [List.drop_eq_getElem_cons h, List.getD_eq_getElem?_getD, List.getElem?_eq_getElem h]; rfl
theorem l_thin1 {t s : Nat} {L : List Nat} (hM : MoAt (mT M) (mR M) o) (ht : t < 4) (hR : RowC (mI M (o + 2)) (92 * t + 50) L) (hL : L.length ≤ 7) (hk : ∀ x ∈ L, x < 1000) (hs : mI M (o + 2) 384 = nI s) (hs2 : s < 1000) {Q : Option Value → Mem → Prop} (Kc : Wp g Y_Mo_thins 2 47 [some (.ref o), some (.int (nI t)), some (.int (nI (mxF L s L.length))), some (.int (nI (L.length + 1)))] [] M Q) : ∀ k i, L.length = i + k → Wp g Y_Mo_thins 2 4 [some (.ref o), some (.int (nI t)), some (.int (nI (mxF L s i))), some (.int (nI (i + 1)))] [] M Q := by
  have hM0 := hM
  have to0 := hM.1
  have rfkept := MoAt.r hM 1 rfl
  have tfkept := MoAt.t hM 1 rfl
  intro k
  induction k with
  | zero =>
    intro i hi
    have hi2 : i = L.length := by omega
    subst hi2
    refine wp_iload_n rfl (ck_get kk_Mo_thins 4 rfl) ?_
    refine wp_aload_n rfl (ck_get kk_Mo_thins 5 rfl) ?_
    refine wp_getR (ck_get kk_Mo_thins 6 rfl) fl_Mo_28 (by assumption) (by assumption) ?_
    refine wp_iload_n rfl (ck_get kk_Mo_thins 7 rfl) ?_
    refine wp_bipush (v := nI 50) (by decide) (ck_get kk_Mo_thins 8 rfl) ?_
    refine wp_cS2i (ck_get kk_Mo_thins 9 rfl) ml_Mo_142 (by omega) (Nat.le_of_ble_eq_true rfl) (Ci.to (m_at) ?_)
    rintro _ M1 ⟨rfl, eqm1⟩
    obtain rfl := eqm1.symm
    refine wp_ialdv (v := nI L.length) (ck_get kk_Mo_thins 10 rfl) (by assumption) (ixk_nI (k := 92 * t + 50) (by omega) (by omega)) (hR.1) ?_
    first | refine wp_icmp_gtN (t := 47) (ck_get kk_Mo_thins 11 rfl) (by decide) (by omega) (by omega) (fun hc16 => ?_) (fun hc16 => ?_) | refine wp_icmp_gt (t := 47) (ck_get kk_Mo_thins 11 rfl) (by decide) (fun hc16 => ?_) (fun hc16 => ?_)
    · exact Kc
    · omega
  | succ k ih =>
    intro i hi
    have hv := hR.2 i (by omega)
    have hx := getD_lt hk i
    have h1 := mxF_lt (L := L) (s := s) i
    have h2 := hsh_lt (L.getD i 0) s
    refine wp_iload_n rfl (ck_get kk_Mo_thins 4 rfl) ?_
    refine wp_aload_n rfl (ck_get kk_Mo_thins 5 rfl) ?_
    refine wp_getR (ck_get kk_Mo_thins 6 rfl) fl_Mo_28 (by assumption) (by assumption) ?_
    refine wp_iload_n rfl (ck_get kk_Mo_thins 7 rfl) ?_
    refine wp_bipush (v := nI 50) (by decide) (ck_get kk_Mo_thins 8 rfl) ?_
    refine wp_cS2i (ck_get kk_Mo_thins 9 rfl) ml_Mo_142 (by omega) (Nat.le_of_ble_eq_true rfl) (Ci.to (m_at) ?_)
    rintro _ M1 ⟨rfl, eqm1⟩
    obtain rfl := eqm1.symm
    refine wp_ialdv (v := nI L.length) (ck_get kk_Mo_thins 10 rfl) (by assumption) (ixk_nI (k := 92 * t + 50) (by omega) (by omega)) (hR.1) ?_
    first | refine wp_icmp_gtN (t := 47) (ck_get kk_Mo_thins 11 rfl) (by decide) (by omega) (by omega) (fun hc16 => ?_) (fun hc16 => ?_) | refine wp_icmp_gt (t := 47) (ck_get kk_Mo_thins 11 rfl) (by decide) (fun hc16 => ?_) (fun hc16 => ?_)
    · omega
    · refine wp_iload_n rfl (ck_get kk_Mo_thins 12 rfl) ?_
      refine wp_aload_n rfl (ck_get kk_Mo_thins 13 rfl) ?_
      refine wp_aload_n rfl (ck_get kk_Mo_thins 14 rfl) ?_
      refine wp_getR (ck_get kk_Mo_thins 15 rfl) fl_Mo_28 (by assumption) (by assumption) ?_
      refine wp_iload_n rfl (ck_get kk_Mo_thins 16 rfl) ?_
      refine wp_bipush (v := nI 50) (by decide) (ck_get kk_Mo_thins 17 rfl) ?_
      refine wp_iload_n rfl (ck_get kk_Mo_thins 18 rfl) ?_
      first | refine wp_iaddN (ck_get kk_Mo_thins 19 rfl) ?_ | refine wp_iadd (ck_get kk_Mo_thins 19 rfl) ?_
      refine wp_cS2i (ck_get kk_Mo_thins 20 rfl) ml_Mo_142 (by omega) (Nat.le_of_ble_eq_true rfl) (Ci.to (m_at) ?_)
      rintro _ M1 ⟨rfl, eqm1⟩
      obtain rfl := eqm1.symm
      refine wp_ialdv (v := nI (L.getD i 0)) (ck_get kk_Mo_thins 21 rfl) (by assumption) (ixk_nI (k := 92 * t + (50 + (i + 1))) (by omega) (by omega)) (by rw [← hv]; congr 1; omega) ?_
      refine wp_cV1i (ck_get kk_Mo_thins 22 rfl) ml_Mo_163 (by omega) (Nat.le_of_ble_eq_true rfl) (by assumption) (Ci.to (m_hashOf hM0 hs hx hs2) ?_)
      rintro _ M1 ⟨rfl, eqm1⟩
      obtain rfl := eqm1.symm
      refine wp_cS2i (ck_get kk_Mo_thins 23 rfl) ml_Mo_374 (by omega) (Nat.le_of_ble_eq_true rfl) (Ci.to (m_greater (by omega) (by omega)) ?_)
      rintro _ M1 ⟨rfl, eqm1⟩
      obtain rfl := eqm1.symm
      refine wp_istore_n (ck_get kk_Mo_thins 24 rfl) (by decide) rfl ?_
      first | refine wp_iincN (ck_get kk_Mo_thins 25 rfl) rfl (by decide) rfl ?_ | refine wp_iinc (ck_get kk_Mo_thins 25 rfl) rfl (by decide) rfl ?_
      refine wp_goto (t := 4) (ck_get kk_Mo_thins 26 rfl) (by decide) ?_
      exact ih (i + 1) (by omega)
theorem l_thin2 {t s lim : Nat} {L : List Nat} (hM : MoAt (mT M) (mR M) o) (ht : t < 4) (hL : L.length ≤ 7) (hk : ∀ x ∈ L, x < 1000) (hs2 : s < 1000) (hlm : lim < 1000) : ∀ (k : Nat) (K : Nat → Int32), k ≤ L.length → K 384 = nI s → RowC K (92 * t + 50) (L.take k ++ stayL (L.drop k) s lim) → Wp g Y_Mo_thins 2 71 [some (.ref o), some (.int (nI t)), some (.int (nI lim)), some (.int (nI k))] [] (wkM M o K P A F) (fun r M2 => r = none ∧ ∃ K2, M2 = wkM M o K2 P A F ∧ RowC K2 (92 * t + 50) (stayL L s lim) ∧ KUp K K2 (92 * t + 50) (92 * t + 58)) := by
  have hM0 := hM
  have to0 := hM.1
  have rfkept := MoAt.r hM 1 rfl
  have tfkept := MoAt.t hM 1 rfl
  intro k
  induction k with
  | zero =>
    intro K hk0 hs hR
    refine wp_iload_n rfl (ck_get kk_Mo_thins 41 rfl) ?_
    refine wp_iconst (v := nI 1) (by decide) (ck_get kk_Mo_thins 42 rfl) ?_
    first | refine wp_icmp_ltN (t := 111) (ck_get kk_Mo_thins 43 rfl) (by decide) (by omega) (by omega) (fun hc73 => ?_) (fun hc73 => ?_) | refine wp_icmp_lt (t := 111) (ck_get kk_Mo_thins 43 rfl) (by decide) (fun hc73 => ?_) (fun hc73 => ?_)
    · refine wp_return (ck_get kk_Mo_thins 63 rfl) rfl ⟨rfl, ?_⟩
      refine ⟨K, rfl, ?_, fun x _ => rfl⟩
      rw [List.take_zero, List.drop_zero, List.nil_append] at hR
      exact hR
    · omega
  | succ k ih =>
    intro K hk0 hs hR
    have hst := stayL_len (L := L) (s := s) (lim := lim) (i := L.length)
    have hx := getD_lt hk k
    have h2 := hsh_lt (L.getD k 0) s
    have htk := take_getD (L := L) (k := k) (by omega)
    have hdr := drop_getD (L := L) (k := k) (by omega)
    have hl1 : (L.take k).length = k := by rw [List.length_take]; omega
    have hlX : (stayL (L.drop (k + 1)) s lim).length ≤ L.length - (k + 1) := by
      unfold stayL
      have := List.length_filter_le (fun q => decide (hsh q s < lim)) (L.drop (k + 1))
      rw [List.length_drop] at this
      exact this
    have hlen : (L.take (k + 1) ++ stayL (L.drop (k + 1)) s lim).length = k + 1 + (stayL (L.drop (k + 1)) s lim).length := by
      rw [List.length_append, List.length_take]; omega
    have hv := hR.2 k (by omega)
    have hgd : (L.take (k + 1) ++ stayL (L.drop (k + 1)) s lim).getD k 0 = L.getD k 0 := by
      rw [htk, List.append_assoc, List.getD_eq_getElem?_getD, List.getElem?_append_right (by omega), hl1, Nat.sub_self]; rfl
    rw [hgd] at hv
    by_cases hh : hsh (L.getD k 0) s < lim
    · have e : stayL (L.drop k) s lim = L.getD k 0 :: stayL (L.drop (k + 1)) s lim := by
        rw [hdr]
        unfold stayL
        rw [List.filter_cons, if_pos (by rw [decide_eq_true_eq]; exact hh)]
      rw [htk, List.append_assoc, List.singleton_append, ← e] at hR
      refine wp_iload_n rfl (ck_get kk_Mo_thins 41 rfl) ?_
      refine wp_iconst (v := nI 1) (by decide) (ck_get kk_Mo_thins 42 rfl) ?_
      first | refine wp_icmp_ltN (t := 111) (ck_get kk_Mo_thins 43 rfl) (by decide) (by omega) (by omega) (fun hc73 => ?_) (fun hc73 => ?_) | refine wp_icmp_lt (t := 111) (ck_get kk_Mo_thins 43 rfl) (by decide) (fun hc73 => ?_) (fun hc73 => ?_)
      · omega
      · refine wp_aload_n rfl (ck_get kk_Mo_thins 44 rfl) ?_
        refine wp_aload_n rfl (ck_get kk_Mo_thins 45 rfl) ?_
        refine wp_getR (ck_get kk_Mo_thins 46 rfl) fl_Mo_28 (by assumption) (by assumption) ?_
        refine wp_iload_n rfl (ck_get kk_Mo_thins 47 rfl) ?_
        refine wp_bipush (v := nI 50) (by decide) (ck_get kk_Mo_thins 48 rfl) ?_
        refine wp_iload_n rfl (ck_get kk_Mo_thins 49 rfl) ?_
        first | refine wp_iaddN (ck_get kk_Mo_thins 50 rfl) ?_ | refine wp_iadd (ck_get kk_Mo_thins 50 rfl) ?_
        refine wp_cS2i (ck_get kk_Mo_thins 51 rfl) ml_Mo_142 (by omega) (Nat.le_of_ble_eq_true rfl) (Ci.to (m_at) ?_)
        rintro _ M1 ⟨rfl, eqm1⟩
        obtain rfl := eqm1.symm
        refine wp_ialdv (v := nI (L.getD k 0)) (ck_get kk_Mo_thins 52 rfl) (by assumption) (ixk_nI (k := 92 * t + (50 + (k + 1))) (by omega) (by omega)) (by rw [wk_2, ← hv]; congr 1; omega) ?_
        refine wp_cV1i (ck_get kk_Mo_thins 53 rfl) ml_Mo_163 (by omega) (Nat.le_of_ble_eq_true rfl) (by assumption) (Ci.to (m_hashOf (by exact hM0) (by rw [wk_2]; exact hs) hx hs2) ?_)
        rintro _ M1 ⟨rfl, eqm1⟩
        obtain rfl := eqm1.symm
        refine wp_iload_n rfl (ck_get kk_Mo_thins 54 rfl) ?_
        first | refine wp_icmp_ltN (t := 105) (ck_get kk_Mo_thins 55 rfl) (by decide) (by omega) (by omega) (fun hc94 => ?_) (fun hc94 => ?_) | refine wp_icmp_lt (t := 105) (ck_get kk_Mo_thins 55 rfl) (by decide) (fun hc94 => ?_) (fun hc94 => ?_)
        · first | refine wp_iincD (ck_get kk_Mo_thins 61 rfl) rfl (by decide) rfl ?_ | refine wp_iinc (ck_get kk_Mo_thins 61 rfl) rfl (by decide) rfl ?_
          refine wp_goto (t := 71) (ck_get kk_Mo_thins 62 rfl) (by decide) ?_
          exact ih K (by omega) hs hR
        · omega
    · have e : stayL (L.drop k) s lim = stayL (L.drop (k + 1)) s lim := by
        rw [hdr]
        unfold stayL
        rw [List.filter_cons, if_neg (by rw [decide_eq_true_eq]; exact hh)]
      refine wp_iload_n rfl (ck_get kk_Mo_thins 41 rfl) ?_
      refine wp_iconst (v := nI 1) (by decide) (ck_get kk_Mo_thins 42 rfl) ?_
      first | refine wp_icmp_ltN (t := 111) (ck_get kk_Mo_thins 43 rfl) (by decide) (by omega) (by omega) (fun hc73 => ?_) (fun hc73 => ?_) | refine wp_icmp_lt (t := 111) (ck_get kk_Mo_thins 43 rfl) (by decide) (fun hc73 => ?_) (fun hc73 => ?_)
      · omega
      · refine wp_aload_n rfl (ck_get kk_Mo_thins 44 rfl) ?_
        refine wp_aload_n rfl (ck_get kk_Mo_thins 45 rfl) ?_
        refine wp_getR (ck_get kk_Mo_thins 46 rfl) fl_Mo_28 (by assumption) (by assumption) ?_
        refine wp_iload_n rfl (ck_get kk_Mo_thins 47 rfl) ?_
        refine wp_bipush (v := nI 50) (by decide) (ck_get kk_Mo_thins 48 rfl) ?_
        refine wp_iload_n rfl (ck_get kk_Mo_thins 49 rfl) ?_
        first | refine wp_iaddN (ck_get kk_Mo_thins 50 rfl) ?_ | refine wp_iadd (ck_get kk_Mo_thins 50 rfl) ?_
        refine wp_cS2i (ck_get kk_Mo_thins 51 rfl) ml_Mo_142 (by omega) (Nat.le_of_ble_eq_true rfl) (Ci.to (m_at) ?_)
        rintro _ M1 ⟨rfl, eqm1⟩
        obtain rfl := eqm1.symm
        refine wp_ialdv (v := nI (L.getD k 0)) (ck_get kk_Mo_thins 52 rfl) (by assumption) (ixk_nI (k := 92 * t + (50 + (k + 1))) (by omega) (by omega)) (by rw [wk_2, ← hv]; congr 1; omega) ?_
        refine wp_cV1i (ck_get kk_Mo_thins 53 rfl) ml_Mo_163 (by omega) (Nat.le_of_ble_eq_true rfl) (by assumption) (Ci.to (m_hashOf (by exact hM0) (by rw [wk_2]; exact hs) hx hs2) ?_)
        rintro _ M1 ⟨rfl, eqm1⟩
        obtain rfl := eqm1.symm
        refine wp_iload_n rfl (ck_get kk_Mo_thins 54 rfl) ?_
        first | refine wp_icmp_ltN (t := 105) (ck_get kk_Mo_thins 55 rfl) (by decide) (by omega) (by omega) (fun hc94 => ?_) (fun hc94 => ?_) | refine wp_icmp_lt (t := 105) (ck_get kk_Mo_thins 55 rfl) (by decide) (fun hc94 => ?_) (fun hc94 => ?_)
        · omega
        · refine wp_aload_n rfl (ck_get kk_Mo_thins 56 rfl) ?_
          refine wp_iload_n rfl (ck_get kk_Mo_thins 57 rfl) ?_
          refine wp_bipush (v := nI 50) (by decide) (ck_get kk_Mo_thins 58 rfl) ?_
          refine wp_iload_n rfl (ck_get kk_Mo_thins 59 rfl) ?_
          refine wp_cV3v (ck_get kk_Mo_thins 60 rfl) ml_Mo_356 (by omega) (Nat.le_of_ble_eq_true rfl) (by assumption) (Cv.to (m_out (L := L.take (k + 1) ++ stayL (L.drop (k + 1)) s lim) (by exact hM0) (by rw [wk_2]; exact hR) (by omega) (by omega) (by omega)) ?_)
          rintro M₁ ⟨K2, rfl, hR2, hU⟩
          first | refine wp_iincD (ck_get kk_Mo_thins 61 rfl) rfl (by decide) rfl ?_ | refine wp_iinc (ck_get kk_Mo_thins 61 rfl) rfl (by decide) rfl ?_
          refine wp_goto (t := 71) (ck_get kk_Mo_thins 62 rfl) (by decide) ?_
          rw [wk_K]
          rw [wk_2] at hU
          have hR3 : RowC K2 (92 * t + 50) (L.take k ++ stayL (L.drop k) s lim) := by
            rw [show k + 1 - 1 = k by omega, htk, List.append_assoc, List.eraseIdx_append_of_length_le (by omega), hl1, Nat.sub_self] at hR2
            rw [e]
            exact hR2
          refine Wp.mono (ih K2 (by omega) (by rw [hU 384 (by omega)]; exact hs) hR3) ?_
          rintro r M₂ ⟨hr, K3, hM3, hR4, hU2⟩
          exact ⟨hr, K3, hM3, hR4, fun x hx => (hU2 x hx).trans (hU x (by omega))⟩
theorem m_thins {t s : Nat} {L : List Nat} (hM : MoAt (mT M) (mR M) o) (ht : t < 4) (hR : RowC K (92 * t + 50) L) (hL : L.length ≤ 7) (hk : ∀ x ∈ L, x < 1000) (hs : K 384 = nI s) (hs2 : s < 1000) : Cv g Y_Mo_thins 2 [.ref o, .int (nI t)] (wkM M o K P A F) (fun M2 => ∃ K2, M2 = wkM M o K2 P A F ∧ RowC K2 (92 * t + 50) (stayL L s (mxF L s L.length)) ∧ K2 (92 * t + 58) = nI (mxF L s L.length) ∧ KUp K K2 (92 * t + 50) (92 * t + 59)) := by
  have hM0 := hM
  have hmx := mxF_lt (L := L) (s := s) L.length
  have to0 := hM.1
  have rfkept := MoAt.r hM 1 rfl
  have tfkept := MoAt.t hM 1 rfl
  refine cw_entry 2 pf_Mo_thins rfl ?_
  have hU : ∀ x, x ≠ 92 * t + 58 → up1 K (92 * t + 58) (nI (mxF L s L.length)) x = K x := fun x hx => up1_ne hx
  refine wp_iconst (v := nI 0) (by decide) (ck_get kk_Mo_thins 0 rfl) ?_
  refine wp_istore_n (ck_get kk_Mo_thins 1 rfl) (by decide) rfl ?_
  refine wp_iconst (v := nI 1) (by decide) (ck_get kk_Mo_thins 2 rfl) ?_
  refine wp_istore_n (ck_get kk_Mo_thins 3 rfl) (by decide) rfl ?_
  refine l_thin1 (by exact hM0) ht (by rw [wk_2]; exact hR) hL hk (by rw [wk_2]; exact hs) hs2 ?_ L.length 0 (by omega)
  refine wp_aload_n rfl (ck_get kk_Mo_thins 27 rfl) ?_
  refine wp_getR (ck_get kk_Mo_thins 28 rfl) fl_Mo_28 (by assumption) (by assumption) ?_
  refine wp_iload_n rfl (ck_get kk_Mo_thins 29 rfl) ?_
  refine wp_bipush (v := nI 58) (by decide) (ck_get kk_Mo_thins 30 rfl) ?_
  refine wp_cS2i (ck_get kk_Mo_thins 31 rfl) ml_Mo_142 (by omega) (Nat.le_of_ble_eq_true rfl) (Ci.to (m_at) ?_)
  rintro _ M1 ⟨rfl, eqm1⟩
  obtain rfl := eqm1.symm
  refine wp_iload_n rfl (ck_get kk_Mo_thins 32 rfl) ?_
  refine wp_iast (ck_get kk_Mo_thins 33 rfl) (by assumption) (ixk_nI (k := 92 * t + 58) (by omega) (by omega)) ?_
  rw [wk_sK]
  refine wp_aload_n rfl (ck_get kk_Mo_thins 34 rfl) ?_
  refine wp_getR (ck_get kk_Mo_thins 35 rfl) fl_Mo_28 (by assumption) (by assumption) ?_
  refine wp_iload_n rfl (ck_get kk_Mo_thins 36 rfl) ?_
  refine wp_bipush (v := nI 50) (by decide) (ck_get kk_Mo_thins 37 rfl) ?_
  refine wp_cS2i (ck_get kk_Mo_thins 38 rfl) ml_Mo_142 (by omega) (Nat.le_of_ble_eq_true rfl) (Ci.to (m_at) ?_)
  rintro _ M1 ⟨rfl, eqm1⟩
  obtain rfl := eqm1.symm
  refine wp_ialdv (v := nI L.length) (ck_get kk_Mo_thins 39 rfl) (by assumption) (ixk_nI (k := 92 * t + 50) (by omega) (by omega)) (by rw [wk_2, hU _ (by omega)]; exact hR.1) ?_
  refine wp_istore_n (ck_get kk_Mo_thins 40 rfl) (by decide) rfl ?_
  refine Wp.mono (l_thin2 (L := L) (s := s) hM0 ht hL hk hs2 hmx L.length (up1 K (92 * t + 58) (nI (mxF L s L.length))) (by omega) (by rw [hU _ (by omega)]; exact hs) ?_) ?_
  · rw [List.take_length, List.drop_length, show stayL [] s (mxF L s L.length) = [] from rfl, List.append_nil]
    exact hR.kept (fun x h1 h2 => hU x (by omega))
  · rintro r M₂ ⟨hr, K3, hM3, hR4, hU2⟩
    exact ⟨hr, K3, hM3, hR4, by rw [hU2 _ (by omega), up1_eq], fun x hx => (hU2 x (by omega)).trans (hU x (by omega))⟩
end MTE

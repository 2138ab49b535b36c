/-! ===== report ===== -/
section RPT
variable {g : Gl} {M : Mem}
def zRp (z : ST) (rp : List Nat) : ST := (zS z, zU z, zI z, zD z, zT z, (zB z, zP z, zC z, zF z), zR z, rp)
/-- the class's curve, loaded -/
def CuW (M : Mem) (n : Nat) (nb ms : Nat → Nat) : Prop := CuAt (mT M) (mR M) 947 ∧ mI M 947 1 = nI n ∧ (∀ i, i < n → mI M 948 i = nI (nb i)) ∧ (∀ c, c < 25 → mJ M 951 c = jI (ms c)) ∧ ∀ v0, mR M 949 0 = some v0 → v0 = 950 ∨ 1056 ≤ v0
theorem SbV.fr {M0 : Mem} {rp : List Nat} {v cap : Nat} (h : SbV M0 M rp v cap) (hv : ∀ v0, mR M0 949 0 = some v0 → v0 = 950 ∨ 1056 ≤ v0) {x : Nat} (hx : x < 1056) (h9 : x ≠ 949) (h5 : x ≠ 950) : mT M x = mT M0 x ∧ mR M x = mR M0 x ∧ mI M x = mI M0 x ∧ mJ M x = mJ M0 x := by
  obtain ⟨-, -, k, v0, c1, c2, c3, c4, c5, c6, c7, c8, c9⟩ := h
  have := hv v0 c1
  obtain ⟨d1, d2, d3, d4⟩ := c9 x (by omega)
  exact ⟨d1, d3 h9, d4 h9 (by omega), d2⟩
theorem SbV.cu {M0 : Mem} {rp : List Nat} {v cap n : Nat} {nb ms : Nat → Nat} (h : SbV M0 M rp v cap) (hW : CuW M0 n nb ms) : (mT M 947 = (0, 0) ∧ mR M 947 0 = some 948 ∧ mT M 948 = (20, 25) ∧ mR M 947 2 = some 949 ∧ mT M 949 = (12, 0) ∧ mR M 947 3 = some 951 ∧ mT M 951 = (21, 25)) ∧ mI M 947 1 = nI n ∧ (∀ i, i < n → mI M 948 i = nI (nb i)) ∧ ∀ c, c < 25 → mJ M 951 c = jI (ms c) := by
  obtain ⟨⟨p1, p2, p3, p4, p5, p6, p7⟩, q1, q2, q3, q4⟩ := hW
  obtain ⟨a1, a2, a3, a4⟩ := h.fr q4 (x := 947) (by omega) (by omega) (by omega)
  obtain ⟨b1, b2, b3, b4⟩ := h.fr q4 (x := 948) (by omega) (by omega) (by omega)
  obtain ⟨d1, d2, d3, d4⟩ := h.fr q4 (x := 951) (by omega) (by omega) (by omega)
  exact ⟨⟨a1.trans p1, by rw [a2]; exact p2, b1.trans p3, by rw [a2]; exact p4, h.1.1, by rw [a2]; exact p6, d1.trans p7⟩, by rw [a3]; exact q1, by rw [b3]; exact q2, by rw [d4]; exact q3⟩
theorem l_wr {M0 : Mem} {n : Nat} {nb ms : Nat → Nat} (hP : PvOK g) (hS : StrOK g) (hD : DgOK g) (hW : CuW M0 n nb ms) (hn : n ≤ 25) (hnb : ∀ i, i < n → nb i ≤ 24) (hms : ∀ c, c < 25 → ms c < 2147483648) : ∀ k i M v cap, i + k = n → SbV M0 M (rpL nb ms i) v cap → Wp g Y_Cu_writeReport 6 10 [some (.ref 947), some (.int (nI i))] [] M (fun r M2 => ∃ x, r = some (.int x) ∧ x = nI (rpL nb ms n ++ [46]).length ∧ ∃ v cap, SbV M0 M2 (rpL nb ms n ++ [46]) v cap) := by
  intro k
  induction k with
  | zero =>
    intro i M v cap h1 hV
    obtain rfl : i = n := by omega
    have hl := rpL_len (ms := ms) hnb i (Nat.le_refl _)
    obtain ⟨⟨p1, p2, p3, p4, p5, p6, p7⟩, q1, q2, q3⟩ := hV.cu hW
    refine wp_iload_n rfl (ck_get kk_Cu_writeReport 6 rfl) ?_
    refine wp_aload_n rfl (ck_get kk_Cu_writeReport 7 rfl) ?_
    refine wp_getIv (v := nI i) (ck_get kk_Cu_writeReport 8 rfl) fl_Cu_15 (by assumption) (q1) ?_
    first | refine wp_icmp_geN (t := 82) (ck_get kk_Cu_writeReport 9 rfl) (by decide) (by omega) (by omega) (fun hc15 => ?_) (fun hc15 => ?_) | refine wp_icmp_ge (t := 82) (ck_get kk_Cu_writeReport 9 rfl) (by decide) (fun hc15 => ?_) (fun hc15 => ?_)
    · refine wp_aload_n rfl (ck_get kk_Cu_writeReport 44 rfl) ?_
      refine wp_getR (ck_get kk_Cu_writeReport 45 rfl) fl_Cu_22 (by assumption) (by assumption) ?_
      refine wp_bipush (v := nI 46) (by decide) (ck_get kk_Cu_writeReport 46 rfl) ?_
      refine wp_cV1a (ck_get kk_Cu_writeReport 47 rfl) ml_Cu_48 (by omega) (Nat.le_of_ble_eq_true rfl) (by assumption) (Ca.to (c_appC hP hS hV (ch := 46) (by decide) (by omega)) ?_)
      rintro _ M1 ⟨rfl, v1, c1, hV1⟩
      obtain ⟨⟨u1, u2, u3, u4, u5, u6, u7⟩, -, -, -⟩ := hV1.cu hW
      refine wp_pop rfl (ck_get kk_Cu_writeReport 48 rfl) ?_
      refine wp_aload_n rfl (ck_get kk_Cu_writeReport 49 rfl) ?_
      refine wp_getR (ck_get kk_Cu_writeReport 50 rfl) fl_Cu_22 (by assumption) (by assumption) ?_
      refine wp_cV0i (ck_get kk_Cu_writeReport 51 rfl) ml_Cu_55 (by omega) (Nat.le_of_ble_eq_true rfl) (by assumption) (Ci.to (c_sbLength u5) ?_)
      rintro _ M1 ⟨rfl, eqm1⟩
      obtain rfl := eqm1.symm
      refine wp_ireturn (ck_get kk_Cu_writeReport 52 rfl) rfl rfl ⟨_, rfl, ?_⟩
      exact ⟨hV1.2.1.1, v1, c1, hV1⟩
    · omega
  | succ k ih =>
    intro i M v cap h1 hV
    have hl := rpL_len (ms := ms) hnb i (by omega)
    have hb := hnb i (by omega)
    have hmb := hms (nb i) (by omega)
    have hd2 := dg_2 (n := nb i) (by omega)
    have hif : (if 0 < i then [44] else ([] : List Nat)).length ≤ 1 := by split <;> simp
    have h32 : ∀ M v cap, SbV M0 M (rpL nb ms i ++ (if 0 < i then [44] else [])) v cap → Wp g Y_Cu_writeReport 6 32 [some (.ref 947), some (.int (nI i))] [] M (fun r M2 => ∃ x, r = some (.int x) ∧ x = nI (rpL nb ms n ++ [46]).length ∧ ∃ v cap, SbV M0 M2 (rpL nb ms n ++ [46]) v cap) := by
      intro M v cap hV
      obtain ⟨⟨p1, p2, p3, p4, p5, p6, p7⟩, q1, q2, q3⟩ := hV.cu hW
      refine wp_aload_n rfl (ck_get kk_Cu_writeReport 17 rfl) ?_
      refine wp_getR (ck_get kk_Cu_writeReport 18 rfl) fl_Cu_22 (by assumption) (by assumption) ?_
      refine wp_aload_n rfl (ck_get kk_Cu_writeReport 19 rfl) ?_
      refine wp_getR (ck_get kk_Cu_writeReport 20 rfl) fl_Cu_9 (by assumption) (by assumption) ?_
      refine wp_iload_n rfl (ck_get kk_Cu_writeReport 21 rfl) ?_
      refine wp_ialdv (v := nI (nb i)) (ck_get kk_Cu_writeReport 22 rfl) (by assumption) (ixk_nI (k := i) (by omega) (by omega)) (q2 i (by omega)) ?_
      refine wp_cV1a (ck_get kk_Cu_writeReport 23 rfl) ml_Cu_52 (by omega) (Nat.le_of_ble_eq_true rfl) (by assumption) (Ca.to (c_appI hP hS hD hV (n := nb i) (by omega) (by rw [List.length_append]; omega)) ?_)
      rintro _ M1 ⟨rfl, v1, c1, hV1⟩
      obtain ⟨⟨u1, u2, u3, u4, u5, u6, u7⟩, r1, r2, r3⟩ := hV1.cu hW
      refine wp_pop rfl (ck_get kk_Cu_writeReport 24 rfl) ?_
      refine wp_aload_n rfl (ck_get kk_Cu_writeReport 25 rfl) ?_
      refine wp_getR (ck_get kk_Cu_writeReport 26 rfl) fl_Cu_22 (by assumption) (by assumption) ?_
      refine wp_bipush (v := nI 58) (by decide) (ck_get kk_Cu_writeReport 27 rfl) ?_
      refine wp_cV1a (ck_get kk_Cu_writeReport 28 rfl) ml_Cu_48 (by omega) (Nat.le_of_ble_eq_true rfl) (by assumption) (Ca.to (c_appC hP hS hV1 (ch := 58) (by decide) (by rw [List.length_append, List.length_append]; omega)) ?_)
      rintro _ M2 ⟨rfl, v2, c2, hV2⟩
      obtain ⟨⟨x1, x2, x3, x4, x5, x6, x7⟩, s1, s2, s3⟩ := hV2.cu hW
      refine wp_pop rfl (ck_get kk_Cu_writeReport 29 rfl) ?_
      refine wp_aload_n rfl (ck_get kk_Cu_writeReport 30 rfl) ?_
      refine wp_getR (ck_get kk_Cu_writeReport 31 rfl) fl_Cu_22 (by assumption) (by assumption) ?_
      refine wp_aload_n rfl (ck_get kk_Cu_writeReport 32 rfl) ?_
      refine wp_getR (ck_get kk_Cu_writeReport 33 rfl) fl_Cu_26 (by assumption) (by assumption) ?_
      refine wp_aload_n rfl (ck_get kk_Cu_writeReport 34 rfl) ?_
      refine wp_getR (ck_get kk_Cu_writeReport 35 rfl) fl_Cu_9 (by assumption) (by assumption) ?_
      refine wp_iload_n rfl (ck_get kk_Cu_writeReport 36 rfl) ?_
      refine wp_ialdv (v := nI (nb i)) (ck_get kk_Cu_writeReport 37 rfl) (by assumption) (ixk_nI (k := i) (by omega) (by omega)) (s2 i (by omega)) ?_
      refine wp_laldv (v := jI (ms (nb i))) (ck_get kk_Cu_writeReport 38 rfl) (by assumption) (ixk_nI (k := nb i) (by omega) (by omega)) (s3 (nb i) (by omega)) ?_
      refine wp_l2i (ck_get kk_Cu_writeReport 39 rfl) ?_
      rw [l2i_nat (x := ms (nb i)) (jI_i (by omega) (by omega)) hmb]
      refine wp_cV1a (ck_get kk_Cu_writeReport 40 rfl) ml_Cu_52 (by omega) (Nat.le_of_ble_eq_true rfl) (by assumption) (Ca.to (c_appI hP hS hD hV2 (n := ms (nb i)) hmb (by rw [List.length_append, List.length_append, List.length_append, List.length_singleton]; omega)) ?_)
      rintro _ M3 ⟨rfl, v3, c3, hV3⟩
      refine wp_pop rfl (ck_get kk_Cu_writeReport 41 rfl) ?_
      first | refine wp_iincN (ck_get kk_Cu_writeReport 42 rfl) rfl (by decide) rfl ?_ | refine wp_iinc (ck_get kk_Cu_writeReport 42 rfl) rfl (by decide) rfl ?_
      refine wp_goto (t := 10) (ck_get kk_Cu_writeReport 43 rfl) (by decide) ?_
      exact ih (i + 1) _ _ _ (by omega) hV3
    obtain ⟨⟨p1, p2, p3, p4, p5, p6, p7⟩, q1, q2, q3⟩ := hV.cu hW
    refine wp_iload_n rfl (ck_get kk_Cu_writeReport 6 rfl) ?_
    refine wp_aload_n rfl (ck_get kk_Cu_writeReport 7 rfl) ?_
    refine wp_getIv (v := nI n) (ck_get kk_Cu_writeReport 8 rfl) fl_Cu_15 (by assumption) (q1) ?_
    first | refine wp_icmp_geN (t := 82) (ck_get kk_Cu_writeReport 9 rfl) (by decide) (by omega) (by omega) (fun hc15 => ?_) (fun hc15 => ?_) | refine wp_icmp_ge (t := 82) (ck_get kk_Cu_writeReport 9 rfl) (by decide) (fun hc15 => ?_) (fun hc15 => ?_)
    · omega
    · refine wp_iload_n rfl (ck_get kk_Cu_writeReport 10 rfl) ?_
      first | refine wp_if_leN (t := 32) (ck_get kk_Cu_writeReport 11 rfl) (by decide) (by omega) (fun hc19 => ?_) (fun hc19 => ?_) | refine wp_if_le (t := 32) (ck_get kk_Cu_writeReport 11 rfl) (by decide) (fun hc19 => ?_) (fun hc19 => ?_)
      · refine h32 _ v cap ?_
        rw [if_neg (by omega), List.append_nil]; exact hV
      · refine wp_aload_n rfl (ck_get kk_Cu_writeReport 12 rfl) ?_
        refine wp_getR (ck_get kk_Cu_writeReport 13 rfl) fl_Cu_22 (by assumption) (by assumption) ?_
        refine wp_bipush (v := nI 44) (by decide) (ck_get kk_Cu_writeReport 14 rfl) ?_
        refine wp_cV1a (ck_get kk_Cu_writeReport 15 rfl) ml_Cu_48 (by omega) (Nat.le_of_ble_eq_true rfl) (by assumption) (Ca.to (c_appC hP hS hV (ch := 44) (by decide) (by omega)) ?_)
        rintro _ M1 ⟨rfl, v1, c1, hV1⟩
        refine wp_pop rfl (ck_get kk_Cu_writeReport 16 rfl) ?_
        refine h32 _ v1 c1 ?_
        rw [if_pos (by omega)]; exact hV1
theorem c_writeReport {M0 : Mem} {n v cap : Nat} {rp : List Nat} {nb ms : Nat → Nat} (hP : PvOK g) (hS : StrOK g) (hD : DgOK g) (hW : CuW M0 n nb ms) (hn : n ≤ 25) (hnb : ∀ i, i < n → nb i ≤ 24) (hms : ∀ c, c < 25 → ms c < 2147483648) (hV : SbV M0 M0 rp v cap) (hl : rp.length < 440) : Ci g Y_Cu_writeReport 6 [.ref 947] M0 (fun x M2 => x = nI (rpL nb ms n ++ [46]).length ∧ ∃ v cap, SbV M0 M2 (rpL nb ms n ++ [46]) v cap) := by
  obtain ⟨⟨p1, p2, p3, p4, p5, p6, p7⟩, q1, q2, q3⟩ := hV.cu hW
  refine cw_entry 1 pf_Cu_writeReport rfl ?_
  refine wp_aload_n rfl (ck_get kk_Cu_writeReport 0 rfl) ?_
  refine wp_getR (ck_get kk_Cu_writeReport 1 rfl) fl_Cu_22 (by assumption) (by assumption) ?_
  refine wp_iconst (v := nI 0) (by decide) (ck_get kk_Cu_writeReport 2 rfl) ?_
  refine wp_cV1v (ck_get kk_Cu_writeReport 3 rfl) ml_Cu_44 (by omega) (Nat.le_of_ble_eq_true rfl) (by assumption) (Cv.to (c_setLen hP hV hl) ?_)
  rintro M1 ⟨v1, c1, hV1⟩
  refine wp_iconst (v := nI 0) (by decide) (ck_get kk_Cu_writeReport 4 rfl) ?_
  refine wp_istore_n (ck_get kk_Cu_writeReport 5 rfl) (by decide) rfl ?_
  exact l_wr hP hS hD hW hn hnb hms n 0 M1 v1 c1 (by omega) hV1
theorem CR.sbV {c : Nat} {z : ST} (h : CR c z M) : ∃ v cap, SbV M M (zG z) v cap := by
  obtain ⟨pf, pg, hL, h1, h2, h3, h4, h5, h6, ⟨v, cap, g1, g2, g3, g4, g5, g6, g7, g8⟩, z1, z2, z3, z4⟩ := h
  have hv : v < mZ M := by
    rcases Nat.lt_or_ge v (mZ M) with q | q
    · exact q
    · exact absurd (g2.symm.trans (z1 v q)) (by intro e; exact absurd (show (22 : Nat) = 28 from congrArg Prod.fst e) (by decide))
  exact ⟨v, cap, ⟨hL.2.2.2.2.2.2.2.2.2.2.2.2.1.2.2.2.2.2.1, g1, g2, g3, g4, hv⟩, ⟨g5, g6, g7.1, g7.2, g8⟩, 0, v, g1, by rw [g2], by omega, by rw [Nat.pow_zero]; omega, by omega, z1, z2, Or.inl rfl, fun x _ => ⟨rfl, rfl, fun _ => rfl, fun _ _ => rfl⟩⟩
theorem CR.sb {c v cap : Nat} {z : ST} {M0 : Mem} {rp : List Nat} (h : CR (c + 1) z M0) (hz : CRz c M0) (hV : SbV M0 M rp v cap) : CR (c + 1) (zRp z rp) M ∧ MSame M0 M := by
  obtain ⟨pf, pg, hL, h1, h2, h3, h4, h5, h6, ⟨w, cp, g1, g2, g3, g4, g5, g6, g7, g8⟩, -⟩ := h
  obtain ⟨z1, z2, z3, z4⟩ := hz
  have hP := hL.2.2.2.2.2.2.2.2.2.2.2.2.2.2.2
  have hq : ∀ v0, mR M0 949 0 = some v0 → v0 = 950 ∨ 1056 ≤ v0 := fun v0 e => by
    obtain rfl := Option.some.inj (g1.symm.trans e)
    exact g3
  have hfr := fun x (q1 : x < 1056) (q2 : x ≠ 949) (q3 : x ≠ 950) => hV.fr hq q1 q2 q3
  obtain ⟨⟨a1, a2, a3, a4, a5, a6⟩, ⟨b1, b2, b3, b4, b5⟩, k, v0, c1, c2, c3, c4, c5, c6, c7, c8, c9⟩ := hV
  have hk9 : k ≤ 9 := by
    rcases Nat.lt_or_ge k 10 with q | q
    · omega
    · have := Nat.pow_le_pow_right (show 0 < 2 by omega) q
      have : 2 ^ 10 = 1024 := rfl
      omega
  have eI : ∀ x, x < 1056 → x ≠ 949 → x ≠ 950 → mI M x = mI M0 x ∧ mJ M x = mJ M0 x := fun x q1 q2 q3 => ⟨(hfr x q1 q2 q3).2.2.1, (hfr x q1 q2 q3).2.2.2⟩
  have eR : ∀ x, x < 1056 → x ≠ 949 → x ≠ 950 → mR M x = mR M0 x := fun x q1 q2 q3 => (hfr x q1 q2 q3).2.1
  have hkk : HiK (mT M0) (mR M0) (mI M0) (mT M) (mR M) (mI M) := fun x q1 q2 => by
    have hlt : x < mZ M0 := by
      rcases Nat.lt_or_ge x (mZ M0) with q | q
      · exact q
      · rw [z1 x q] at q2; exact absurd q2 (by decide)
    have hne : x ≠ v0 := fun e => by rw [← e] at c2; omega
    obtain ⟨d1, d2, d3, d4⟩ := c9 x hlt
    exact ⟨d1, d3 (by omega), d4 (by omega) hne⟩
  refine ⟨⟨pf, pg, hL.kk (fun x q => (c9 x (by omega)).1) (fun x q _ _ _ q9 k _ => congrFun ((c9 x (by omega)).2.2.1 q9) k), h1.kept (fun x q1 q2 => eI x (by omega) (by omega) (by omega)) (eR 30 (by omega) (by omega) (by omega)) hkk, h2.kept ⟨(eI 31 (by omega) (by omega) (by omega)).1, (eI 33 (by omega) (by omega) (by omega)).1⟩ (fun s hs x q1 q2 => by have := slA_lt (hP.1 s hs).1; exact eI x (by omega) (by omega) (by omega)), h3.kept (eI 922 (by omega) (by omega) (by omega)).1 (fun x q1 q2 => eI x (by omega) (by omega) (by omega)) ⟨eR 989 (by omega) (by omega) (by omega), eR 1019 (by omega) (by omega) (by omega)⟩ hkk, h4.kept (congrFun (eI 0 (by omega) (by omega) (by omega)).1 5) (fun x q1 q2 => eI x (by omega) (by omega) (by omega)), h5.kept (congrFun (eI 0 (by omega) (by omega) (by omega)).1 9) (eI 923 (by omega) (by omega) (by omega)).1, h6.kept ⟨congrFun (eI 0 (by omega) (by omega) (by omega)).1 15, congrFun (eI 0 (by omega) (by omega) (by omega)).1 16, congrFun (eI 0 (by omega) (by omega) (by omega)).1 17⟩ (congrFun (eI 924 (by omega) (by omega) (by omega)).1 1) (eI 959 (by omega) (by omega) (by omega)).1, ⟨v, cap, a2, a3, a4, a5, b1, b2, ⟨b3, b4⟩, b5⟩, c6, by omega, by omega, by omega⟩, fun x q1 q2 => ?_⟩
  have := hfr x q2 (by omega) (by omega)
  exact ⟨this.1, this.2.1, this.2.2.1, this.2.2.2⟩
end RPT

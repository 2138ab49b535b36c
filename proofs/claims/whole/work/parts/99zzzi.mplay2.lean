/-! ===== the model reads a record again: one read ===== -/
section MPM
variable {g : Gl} {M : Mem} {ks : Nat → Int32} {n : Nat}
/-- what the model's rows are of: the record, the policy -/
def RcM (M : Mem) (t : Nat) (ks : Nat → Int32) (n pol : Nat) : Prop := mI M 1022 (92 * t + 59) = nI n ∧ (∀ i, i < n → mI M 1022 (92 * t + 60 + i) = ks i) ∧ mI M 1022 369 = nI pol
def MnA (ks : Nat → Int32) (n i : Nat) (G : Nat → Nat → Int32) : Prop := (∀ j, j < n → G 0 j = nI (fp ks j)) ∧ (∀ k, k < n → G 2 k = nI (og ks i k)) ∧ ∀ k, k < n → 0 < og ks i k → G 1 k = nI (la ks i k)
def HwJ (w : Int64) (h : Nat → Bool) : Prop := (∀ k, k < 32 → btJ w k = h k) ∧ ∀ k, 32 ≤ k → btJ w k = false
def McA (c : Nat) (x : PS) (G : Nat → Nat → Int32) (H : Nat → Int64) : Prop := HwJ (H c) x.1 ∧ (∀ k, x.1 k = true → G 4 (32 * c + k) = nI (x.2.1 k)) ∧ G 5 c = nI x.2.2
def faI (j : Nat) : Int32 := if j = 32 then nI 1000000000 else nI j
theorem faI_lt {a b : Nat} (ha : a ≤ 32) (hb : b ≤ 32) : faI a < faI b ↔ a < b := by
  unfold faI
  by_cases c1 : a = 32
  · by_cases c2 : b = 32
    · rw [if_pos c1, if_pos c2, nI_ltI (by decide) (by decide)]; omega
    · rw [if_pos c1, if_neg c2, nI_ltI (by decide) (by omega)]; omega
  · by_cases c2 : b = 32
    · rw [if_neg c1, if_pos c2, nI_ltI (by omega) (by decide)]; omega
    · rw [if_neg c1, if_neg c2, nI_ltI (by omega) (by omega)]
theorem faI_eq {a b : Nat} (ha : a ≤ 32) (hb : b ≤ 32) : faI a = faI b ↔ a = b := by
  constructor
  · intro e
    rcases Nat.lt_trichotomy a b with q | q | q
    · have := (faI_lt ha hb).mpr q
      rw [e] at this
      exact (Int32.lt_irrefl this).elim
    · exact q
    · have := (faI_lt hb ha).mpr q
      rw [e] at this
      exact (Int32.lt_irrefl this).elim
  · intro e; rw [e]
theorem m_againAt {t k b pol i : Nat} {G : Nat → Nat → Int32} {H : Nat → Int64} (hM : MoAt (mT M) (mR M) 1020) (ht : t < 4) (hR : RcM M t ks n pol) (hA : MnA ks n i G) (hn : n ≤ 32) (hk : k < 32) (hb : b < n) : Ci g Y_Mo_againAt 1 [.ref 1020, .int (nI t), .int (nI k), .int (nI b)] (rmM M G H) (fun x M2 => x = faI (sr ks n k (b + 1)) ∧ M2 = rmM M G H) := by
  have to0 := hM.1
  have rfkept := MoAt.r hM 1 rfl
  have tfkept := MoAt.t hM 1 rfl
  have rffirst := MoAt.r hM 26 rfl
  have tffirst := MoAt.t hM 26 rfl
  have vn : mI (rmM M G H) 1022 (92 * t + 59) = nI n := by rw [rm_ot (by omega)]; exact hR.1
  have hlp : ∀ d j, j + d = n → Wp g Y_Mo_againAt 1 18 [some (.ref 1020), some (.int (nI t)), some (.int (nI k)), some (.int (nI b)), some (.int (nI n)), some (.int (nI j))] [] (rmM M G H) (fun r M2 => ∃ x, r = some (.int x) ∧ x = faI (sr ks n k j) ∧ M2 = rmM M G H) := by
    intro d
    induction d with
    | zero =>
      intro j hj
      refine wp_iload rfl (ck_get kk_Mo_againAt 11 rfl) ?_
      refine wp_iload rfl (ck_get kk_Mo_againAt 12 rfl) ?_
      first | refine wp_icmp_geN (t := 45) (ck_get kk_Mo_againAt 13 rfl) (by decide) (by omega) (by omega) (fun hc22 => ?_) (fun hc22 => ?_) | refine wp_icmp_ge (t := 45) (ck_get kk_Mo_againAt 13 rfl) (by decide) (fun hc22 => ?_) (fun hc22 => ?_)
      · refine wp_ldcw kl_Mo_455 (ck_get kk_Mo_againAt 24 rfl) ?_
        refine wp_ireturn (ck_get kk_Mo_againAt 25 rfl) rfl rfl ⟨_, rfl, ?_⟩
        exact ⟨by rw [sr_end (by omega)]; rfl, rfl⟩
      · omega
    | succ d ih =>
      intro j hj
      have hfj := fp_le (ks := ks) j
      have v0 : mI (rmM M G H) 1047 j = nI (fp ks j) := by rw [rm_r0]; exact hA.1 j (by omega)
      by_cases c : fp ks j = k
      · skip
        refine wp_iload rfl (ck_get kk_Mo_againAt 11 rfl) ?_
        refine wp_iload rfl (ck_get kk_Mo_againAt 12 rfl) ?_
        first | refine wp_icmp_geN (t := 45) (ck_get kk_Mo_againAt 13 rfl) (by decide) (by omega) (by omega) (fun hc22 => ?_) (fun hc22 => ?_) | refine wp_icmp_ge (t := 45) (ck_get kk_Mo_againAt 13 rfl) (by decide) (fun hc22 => ?_) (fun hc22 => ?_)
        · omega
        · refine wp_aload_n rfl (ck_get kk_Mo_againAt 14 rfl) ?_
          refine wp_getR (ck_get kk_Mo_againAt 15 rfl) fl_Mo_109 (by assumption) (by assumption) ?_
          refine wp_iload rfl (ck_get kk_Mo_againAt 16 rfl) ?_
          refine wp_ialdv (v := nI (fp ks j)) (ck_get kk_Mo_againAt 17 rfl) (by assumption) (ixk_nI (k := j) (by omega) (by omega)) (v0) ?_
          refine wp_iload_n rfl (ck_get kk_Mo_againAt 18 rfl) ?_
          first | refine wp_icmp_neN (t := 39) (ck_get kk_Mo_againAt 19 rfl) (by decide) (by omega) (by omega) (fun hc33 => ?_) (fun hc33 => ?_) | refine wp_icmp_ne (t := 39) (ck_get kk_Mo_againAt 19 rfl) (by decide) (fun hc33 => ?_) (fun hc33 => ?_)
          · omega
          · refine wp_iload rfl (ck_get kk_Mo_againAt 20 rfl) ?_
            refine wp_ireturn (ck_get kk_Mo_againAt 21 rfl) rfl rfl ⟨_, rfl, ?_⟩
            exact ⟨by rw [sr_yes (by omega) c]; exact (if_neg (by omega)).symm, rfl⟩
      · skip
        refine wp_iload rfl (ck_get kk_Mo_againAt 11 rfl) ?_
        refine wp_iload rfl (ck_get kk_Mo_againAt 12 rfl) ?_
        first | refine wp_icmp_geN (t := 45) (ck_get kk_Mo_againAt 13 rfl) (by decide) (by omega) (by omega) (fun hc22 => ?_) (fun hc22 => ?_) | refine wp_icmp_ge (t := 45) (ck_get kk_Mo_againAt 13 rfl) (by decide) (fun hc22 => ?_) (fun hc22 => ?_)
        · omega
        · refine wp_aload_n rfl (ck_get kk_Mo_againAt 14 rfl) ?_
          refine wp_getR (ck_get kk_Mo_againAt 15 rfl) fl_Mo_109 (by assumption) (by assumption) ?_
          refine wp_iload rfl (ck_get kk_Mo_againAt 16 rfl) ?_
          refine wp_ialdv (v := nI (fp ks j)) (ck_get kk_Mo_againAt 17 rfl) (by assumption) (ixk_nI (k := j) (by omega) (by omega)) (v0) ?_
          refine wp_iload_n rfl (ck_get kk_Mo_againAt 18 rfl) ?_
          first | refine wp_icmp_neN (t := 39) (ck_get kk_Mo_againAt 19 rfl) (by decide) (by omega) (by omega) (fun hc33 => ?_) (fun hc33 => ?_) | refine wp_icmp_ne (t := 39) (ck_get kk_Mo_againAt 19 rfl) (by decide) (fun hc33 => ?_) (fun hc33 => ?_)
          · first | refine wp_iincN (ck_get kk_Mo_againAt 22 rfl) rfl (by decide) rfl ?_ | refine wp_iinc (ck_get kk_Mo_againAt 22 rfl) rfl (by decide) rfl ?_
            refine wp_goto (t := 18) (ck_get kk_Mo_againAt 23 rfl) (by decide) ?_
            rw [sr_no (by omega) c]; exact ih (j + 1) (by omega)
          · omega
  refine cw_entry 2 pf_Mo_againAt rfl ?_
  refine wp_aload_n rfl (ck_get kk_Mo_againAt 0 rfl) ?_
  refine wp_getR (ck_get kk_Mo_againAt 1 rfl) fl_Mo_28 (by assumption) (by assumption) ?_
  refine wp_iload_n rfl (ck_get kk_Mo_againAt 2 rfl) ?_
  refine wp_bipush (v := nI 59) (by decide) (ck_get kk_Mo_againAt 3 rfl) ?_
  refine wp_cS2i (ck_get kk_Mo_againAt 4 rfl) ml_Mo_142 (by omega) (Nat.le_of_ble_eq_true rfl) (Ci.to (m_at (t := t) (k := 59)) ?_)
  rintro _ M1 ⟨rfl, eqm1⟩
  obtain rfl := eqm1.symm
  refine wp_ialdv (v := nI n) (ck_get kk_Mo_againAt 5 rfl) (by assumption) (ixk_nI (k := 92 * t + 59) (by omega) (by omega)) (vn) ?_
  refine wp_istore (ck_get kk_Mo_againAt 6 rfl) (by decide) rfl ?_
  refine wp_iload_n rfl (ck_get kk_Mo_againAt 7 rfl) ?_
  refine wp_iconst (v := nI 1) (by decide) (ck_get kk_Mo_againAt 8 rfl) ?_
  first | refine wp_iaddN (ck_get kk_Mo_againAt 9 rfl) ?_ | refine wp_iadd (ck_get kk_Mo_againAt 9 rfl) ?_
  refine wp_istore (ck_get kk_Mo_againAt 10 rfl) (by decide) rfl ?_
  exact hlp (n - (b + 1)) (b + 1) (by omega)
theorem m_leavesAhead {t pol i c k o : Nat} {x : PS} {G : Nat → Nat → Int32} {H : Nat → Int64} (hM : MoAt (mT M) (mR M) 1020) (ht : t < 4) (hR : RcM M t ks n pol) (hA : MnA ks n i G) (hC : HwJ (H c) x.1) (hC2 : ∀ k, x.1 k = true → G 4 (32 * c + k) = nI (x.2.1 k)) (hO : POK ks c i x) (hi : i < n) (hn : n ≤ 32) (hp : pol < 5) (hc : c < 25) (hk : x.1 k = true) (ho : x.1 o = true) : Ci g Y_Mo_leavesAhead 2 [.ref 1020, .int (nI t), .int (nI k), .int (nI o), .int (nI i), .int (nI c)] (rmM M G H) (fun y M2 => y = bI (lvA pol ks n i x.2.1 k o) ∧ M2 = rmM M G H) := by
  have to0 := hM.1
  have rfkept := MoAt.r hM 1 rfl
  have tfkept := MoAt.t hM 1 rfl
  have rflastRead := MoAt.r hM 27 rfl
  have tflastRead := MoAt.t hM 27 rfl
  have rfoftenRead := MoAt.r hM 28 rfl
  have tfoftenRead := MoAt.t hM 28 rfl
  have rfsince := MoAt.r hM 30 rfl
  have tfsince := MoAt.t hM 30 rfl
  obtain ⟨k1, k2⟩ := hO.1 k hk
  obtain ⟨o1, o2⟩ := hO.1 o ho
  have kg := (og_pos k1 i).mp k2
  have og2 := (og_pos o1 i).mp o2
  have kl := la_ok k i kg
  have ol := la_ok o i og2
  have kle := og_le (ks := ks) k i
  have ole := og_le (ks := ks) o i
  have vp : mI (rmM M G H) 1022 369 = nI pol := by rw [rm_ot (by omega)]; exact hR.2.2
  have vk : mI (rmM M G H) 1048 k = nI (la ks i k) := by rw [rm_r1]; exact hA.2.2 k (by omega) kg
  have vo : mI (rmM M G H) 1048 o = nI (la ks i o) := by rw [rm_r1]; exact hA.2.2 o (by omega) og2
  rcases (show pol = 0 ∨ pol = 1 ∨ pol = 2 ∨ pol = 3 ∨ pol = 4 by omega) with rfl | rfl | rfl | rfl | rfl
  · have hB : lvA 0 ks n i x.2.1 k o = decide (la ks i k < la ks i o) := rfl
    rw [hB]
    refine cw_entry 2 pf_Mo_leavesAhead rfl ?_
    refine wp_aload_n rfl (ck_get kk_Mo_leavesAhead 0 rfl) ?_
    refine wp_getR (ck_get kk_Mo_leavesAhead 1 rfl) fl_Mo_28 (by assumption) (by assumption) ?_
    refine wp_sipush (v := nI 369) (by decide) (ck_get kk_Mo_leavesAhead 2 rfl) ?_
    refine wp_ialdv (v := nI 0) (ck_get kk_Mo_leavesAhead 3 rfl) (by assumption) (ixk_nI (k := 369) (by omega) (by omega)) (vp) ?_
    refine wp_tabIn (t := 40) (off := 32) (ck_get kk_Mo_leavesAhead 4 rfl) (by decide) (by decide) rfl (by decide) ?_
    refine wp_aload_n rfl (ck_get kk_Mo_leavesAhead 5 rfl) ?_
    refine wp_getR (ck_get kk_Mo_leavesAhead 6 rfl) fl_Mo_112 (by assumption) (by assumption) ?_
    refine wp_iload_n rfl (ck_get kk_Mo_leavesAhead 7 rfl) ?_
    refine wp_ialdv (v := nI (la ks i k)) (ck_get kk_Mo_leavesAhead 8 rfl) (by assumption) (ixk_nI (k := k) (by omega) (by omega)) (vk) ?_
    refine wp_aload_n rfl (ck_get kk_Mo_leavesAhead 9 rfl) ?_
    refine wp_getR (ck_get kk_Mo_leavesAhead 10 rfl) fl_Mo_112 (by assumption) (by assumption) ?_
    refine wp_iload_n rfl (ck_get kk_Mo_leavesAhead 11 rfl) ?_
    refine wp_ialdv (v := nI (la ks i o)) (ck_get kk_Mo_leavesAhead 12 rfl) (by assumption) (ixk_nI (k := o) (by omega) (by omega)) (vo) ?_
    first | refine wp_icmp_geN (t := 59) (ck_get kk_Mo_leavesAhead 13 rfl) (by decide) (by omega) (by omega) (fun hc52 => ?_) (fun hc52 => ?_) | refine wp_icmp_ge (t := 59) (ck_get kk_Mo_leavesAhead 13 rfl) (by decide) (fun hc52 => ?_) (fun hc52 => ?_)
    · refine wp_iconst (v := nI 0) (by decide) (ck_get kk_Mo_leavesAhead 16 rfl) ?_
      refine wp_ireturn (ck_get kk_Mo_leavesAhead 17 rfl) rfl rfl ⟨_, rfl, ?_⟩
      exact ⟨by rw [decide_eq_false (by omega)]; rfl, rfl⟩
    · refine wp_iconst (v := nI 1) (by decide) (ck_get kk_Mo_leavesAhead 14 rfl) ?_
      refine wp_goto (t := 60) (ck_get kk_Mo_leavesAhead 15 rfl) (by decide) ?_
      refine wp_ireturn (ck_get kk_Mo_leavesAhead 17 rfl) rfl rfl ⟨_, rfl, ?_⟩
      exact ⟨by rw [decide_eq_true (by omega)]; rfl, rfl⟩
  · have hB : lvA 1 ks n i x.2.1 k o = decide (la ks i o < la ks i k) := rfl
    rw [hB]
    refine cw_entry 2 pf_Mo_leavesAhead rfl ?_
    refine wp_aload_n rfl (ck_get kk_Mo_leavesAhead 0 rfl) ?_
    refine wp_getR (ck_get kk_Mo_leavesAhead 1 rfl) fl_Mo_28 (by assumption) (by assumption) ?_
    refine wp_sipush (v := nI 369) (by decide) (ck_get kk_Mo_leavesAhead 2 rfl) ?_
    refine wp_ialdv (v := nI 1) (ck_get kk_Mo_leavesAhead 3 rfl) (by assumption) (ixk_nI (k := 369) (by omega) (by omega)) (vp) ?_
    refine wp_tabIn (t := 61) (off := 53) (ck_get kk_Mo_leavesAhead 4 rfl) (by decide) (by decide) rfl (by decide) ?_
    refine wp_aload_n rfl (ck_get kk_Mo_leavesAhead 18 rfl) ?_
    refine wp_getR (ck_get kk_Mo_leavesAhead 19 rfl) fl_Mo_112 (by assumption) (by assumption) ?_
    refine wp_iload_n rfl (ck_get kk_Mo_leavesAhead 20 rfl) ?_
    refine wp_ialdv (v := nI (la ks i k)) (ck_get kk_Mo_leavesAhead 21 rfl) (by assumption) (ixk_nI (k := k) (by omega) (by omega)) (vk) ?_
    refine wp_aload_n rfl (ck_get kk_Mo_leavesAhead 22 rfl) ?_
    refine wp_getR (ck_get kk_Mo_leavesAhead 23 rfl) fl_Mo_112 (by assumption) (by assumption) ?_
    refine wp_iload_n rfl (ck_get kk_Mo_leavesAhead 24 rfl) ?_
    refine wp_ialdv (v := nI (la ks i o)) (ck_get kk_Mo_leavesAhead 25 rfl) (by assumption) (ixk_nI (k := o) (by omega) (by omega)) (vo) ?_
    first | refine wp_icmp_leN (t := 80) (ck_get kk_Mo_leavesAhead 26 rfl) (by decide) (by omega) (by omega) (fun hc73 => ?_) (fun hc73 => ?_) | refine wp_icmp_le (t := 80) (ck_get kk_Mo_leavesAhead 26 rfl) (by decide) (fun hc73 => ?_) (fun hc73 => ?_)
    · refine wp_iconst (v := nI 0) (by decide) (ck_get kk_Mo_leavesAhead 29 rfl) ?_
      refine wp_ireturn (ck_get kk_Mo_leavesAhead 30 rfl) rfl rfl ⟨_, rfl, ?_⟩
      exact ⟨by rw [decide_eq_false (by omega)]; rfl, rfl⟩
    · refine wp_iconst (v := nI 1) (by decide) (ck_get kk_Mo_leavesAhead 27 rfl) ?_
      refine wp_goto (t := 81) (ck_get kk_Mo_leavesAhead 28 rfl) (by decide) ?_
      refine wp_ireturn (ck_get kk_Mo_leavesAhead 30 rfl) rfl rfl ⟨_, rfl, ?_⟩
      exact ⟨by rw [decide_eq_true (by omega)]; rfl, rfl⟩
  · have hB : lvA 2 ks n i x.2.1 k o = decide (x.2.1 k < x.2.1 o) := rfl
    have sk : mI (rmM M G H) 1051 (32 * c + k) = nI (x.2.1 k) := by rw [rm_r4]; exact hC2 k hk
    have so : mI (rmM M G H) 1051 (32 * c + o) = nI (x.2.1 o) := by rw [rm_r4]; exact hC2 o ho
    have sk2 := hO.2.2.2 k hk
    have so2 := hO.2.2.2 o ho
    rw [hB]
    refine cw_entry 2 pf_Mo_leavesAhead rfl ?_
    refine wp_aload_n rfl (ck_get kk_Mo_leavesAhead 0 rfl) ?_
    refine wp_getR (ck_get kk_Mo_leavesAhead 1 rfl) fl_Mo_28 (by assumption) (by assumption) ?_
    refine wp_sipush (v := nI 369) (by decide) (ck_get kk_Mo_leavesAhead 2 rfl) ?_
    refine wp_ialdv (v := nI 2) (ck_get kk_Mo_leavesAhead 3 rfl) (by assumption) (ixk_nI (k := 369) (by omega) (by omega)) (vp) ?_
    refine wp_tabIn (t := 82) (off := 74) (ck_get kk_Mo_leavesAhead 4 rfl) (by decide) (by decide) rfl (by decide) ?_
    refine wp_aload_n rfl (ck_get kk_Mo_leavesAhead 31 rfl) ?_
    refine wp_getR (ck_get kk_Mo_leavesAhead 32 rfl) fl_Mo_121 (by assumption) (by assumption) ?_
    refine wp_bipush (v := nI 32) (by decide) (ck_get kk_Mo_leavesAhead 33 rfl) ?_
    refine wp_iload rfl (ck_get kk_Mo_leavesAhead 34 rfl) ?_
    first | refine wp_imulN (ck_get kk_Mo_leavesAhead 35 rfl) ?_ | refine wp_imul (ck_get kk_Mo_leavesAhead 35 rfl) ?_
    refine wp_iload_n rfl (ck_get kk_Mo_leavesAhead 36 rfl) ?_
    first | refine wp_iaddN (ck_get kk_Mo_leavesAhead 37 rfl) ?_ | refine wp_iadd (ck_get kk_Mo_leavesAhead 37 rfl) ?_
    refine wp_ialdv (v := nI (x.2.1 k)) (ck_get kk_Mo_leavesAhead 38 rfl) (by assumption) (ixk_nI (k := 32 * c + k) (by omega) (by omega)) (sk) ?_
    refine wp_aload_n rfl (ck_get kk_Mo_leavesAhead 39 rfl) ?_
    refine wp_getR (ck_get kk_Mo_leavesAhead 40 rfl) fl_Mo_121 (by assumption) (by assumption) ?_
    refine wp_bipush (v := nI 32) (by decide) (ck_get kk_Mo_leavesAhead 41 rfl) ?_
    refine wp_iload rfl (ck_get kk_Mo_leavesAhead 42 rfl) ?_
    first | refine wp_imulN (ck_get kk_Mo_leavesAhead 43 rfl) ?_ | refine wp_imul (ck_get kk_Mo_leavesAhead 43 rfl) ?_
    refine wp_iload_n rfl (ck_get kk_Mo_leavesAhead 44 rfl) ?_
    first | refine wp_iaddN (ck_get kk_Mo_leavesAhead 45 rfl) ?_ | refine wp_iadd (ck_get kk_Mo_leavesAhead 45 rfl) ?_
    refine wp_ialdv (v := nI (x.2.1 o)) (ck_get kk_Mo_leavesAhead 46 rfl) (by assumption) (ixk_nI (k := 32 * c + o) (by omega) (by omega)) (so) ?_
    first | refine wp_icmp_geN (t := 113) (ck_get kk_Mo_leavesAhead 47 rfl) (by decide) (by omega) (by omega) (fun hc106 => ?_) (fun hc106 => ?_) | refine wp_icmp_ge (t := 113) (ck_get kk_Mo_leavesAhead 47 rfl) (by decide) (fun hc106 => ?_) (fun hc106 => ?_)
    · refine wp_iconst (v := nI 0) (by decide) (ck_get kk_Mo_leavesAhead 50 rfl) ?_
      refine wp_ireturn (ck_get kk_Mo_leavesAhead 51 rfl) rfl rfl ⟨_, rfl, ?_⟩
      exact ⟨by rw [decide_eq_false (by omega)]; rfl, rfl⟩
    · refine wp_iconst (v := nI 1) (by decide) (ck_get kk_Mo_leavesAhead 48 rfl) ?_
      refine wp_goto (t := 114) (ck_get kk_Mo_leavesAhead 49 rfl) (by decide) ?_
      refine wp_ireturn (ck_get kk_Mo_leavesAhead 51 rfl) rfl rfl ⟨_, rfl, ?_⟩
      exact ⟨by rw [decide_eq_true (by omega)]; rfl, rfl⟩
  · have hB : lvA 3 ks n i x.2.1 k o = decide (og ks i k < og ks i o ∨ (og ks i k = og ks i o ∧ la ks i k < la ks i o)) := rfl
    have sk : mI (rmM M G H) 1049 k = nI (og ks i k) := by rw [rm_r2]; exact hA.2.1 k (by omega)
    have so : mI (rmM M G H) 1049 o = nI (og ks i o) := by rw [rm_r2]; exact hA.2.1 o (by omega)
    rw [hB]
    refine cw_entry 2 pf_Mo_leavesAhead rfl ?_
    refine wp_aload_n rfl (ck_get kk_Mo_leavesAhead 0 rfl) ?_
    refine wp_getR (ck_get kk_Mo_leavesAhead 1 rfl) fl_Mo_28 (by assumption) (by assumption) ?_
    refine wp_sipush (v := nI 369) (by decide) (ck_get kk_Mo_leavesAhead 2 rfl) ?_
    refine wp_ialdv (v := nI 3) (ck_get kk_Mo_leavesAhead 3 rfl) (by assumption) (ixk_nI (k := 369) (by omega) (by omega)) (vp) ?_
    refine wp_tabIn (t := 115) (off := 107) (ck_get kk_Mo_leavesAhead 4 rfl) (by decide) (by decide) rfl (by decide) ?_
    refine wp_aload_n rfl (ck_get kk_Mo_leavesAhead 52 rfl) ?_
    refine wp_getR (ck_get kk_Mo_leavesAhead 53 rfl) fl_Mo_115 (by assumption) (by assumption) ?_
    refine wp_iload_n rfl (ck_get kk_Mo_leavesAhead 54 rfl) ?_
    refine wp_ialdv (v := nI (og ks i k)) (ck_get kk_Mo_leavesAhead 55 rfl) (by assumption) (ixk_nI (k := k) (by omega) (by omega)) (sk) ?_
    refine wp_aload_n rfl (ck_get kk_Mo_leavesAhead 56 rfl) ?_
    refine wp_getR (ck_get kk_Mo_leavesAhead 57 rfl) fl_Mo_115 (by assumption) (by assumption) ?_
    refine wp_iload_n rfl (ck_get kk_Mo_leavesAhead 58 rfl) ?_
    refine wp_ialdv (v := nI (og ks i o)) (ck_get kk_Mo_leavesAhead 59 rfl) (by assumption) (ixk_nI (k := o) (by omega) (by omega)) (so) ?_
    first | refine wp_icmp_ltN (t := 160) (ck_get kk_Mo_leavesAhead 60 rfl) (by decide) (by omega) (by omega) (fun hc127 => ?_) (fun hc127 => ?_) | refine wp_icmp_lt (t := 160) (ck_get kk_Mo_leavesAhead 60 rfl) (by decide) (fun hc127 => ?_) (fun hc127 => ?_)
    · refine wp_iconst (v := nI 1) (by decide) (ck_get kk_Mo_leavesAhead 79 rfl) ?_
      refine wp_goto (t := 165) (ck_get kk_Mo_leavesAhead 80 rfl) (by decide) ?_
      refine wp_ireturn (ck_get kk_Mo_leavesAhead 82 rfl) rfl rfl ⟨_, rfl, ?_⟩
      exact ⟨by rw [decide_eq_true (by omega)]; rfl, rfl⟩
    · refine wp_aload_n rfl (ck_get kk_Mo_leavesAhead 61 rfl) ?_
      refine wp_getR (ck_get kk_Mo_leavesAhead 62 rfl) fl_Mo_115 (by assumption) (by assumption) ?_
      refine wp_iload_n rfl (ck_get kk_Mo_leavesAhead 63 rfl) ?_
      refine wp_ialdv (v := nI (og ks i k)) (ck_get kk_Mo_leavesAhead 64 rfl) (by assumption) (ixk_nI (k := k) (by omega) (by omega)) (sk) ?_
      refine wp_aload_n rfl (ck_get kk_Mo_leavesAhead 65 rfl) ?_
      refine wp_getR (ck_get kk_Mo_leavesAhead 66 rfl) fl_Mo_115 (by assumption) (by assumption) ?_
      refine wp_iload_n rfl (ck_get kk_Mo_leavesAhead 67 rfl) ?_
      refine wp_ialdv (v := nI (og ks i o)) (ck_get kk_Mo_leavesAhead 68 rfl) (by assumption) (ixk_nI (k := o) (by omega) (by omega)) (so) ?_
      first | refine wp_icmp_neN (t := 164) (ck_get kk_Mo_leavesAhead 69 rfl) (by decide) (by omega) (by omega) (fun hc142 => ?_) (fun hc142 => ?_) | refine wp_icmp_ne (t := 164) (ck_get kk_Mo_leavesAhead 69 rfl) (by decide) (fun hc142 => ?_) (fun hc142 => ?_)
      · refine wp_iconst (v := nI 0) (by decide) (ck_get kk_Mo_leavesAhead 81 rfl) ?_
        refine wp_ireturn (ck_get kk_Mo_leavesAhead 82 rfl) rfl rfl ⟨_, rfl, ?_⟩
        exact ⟨by rw [decide_eq_false (by omega)]; rfl, rfl⟩
      · refine wp_aload_n rfl (ck_get kk_Mo_leavesAhead 70 rfl) ?_
        refine wp_getR (ck_get kk_Mo_leavesAhead 71 rfl) fl_Mo_112 (by assumption) (by assumption) ?_
        refine wp_iload_n rfl (ck_get kk_Mo_leavesAhead 72 rfl) ?_
        refine wp_ialdv (v := nI (la ks i k)) (ck_get kk_Mo_leavesAhead 73 rfl) (by assumption) (ixk_nI (k := k) (by omega) (by omega)) (vk) ?_
        refine wp_aload_n rfl (ck_get kk_Mo_leavesAhead 74 rfl) ?_
        refine wp_getR (ck_get kk_Mo_leavesAhead 75 rfl) fl_Mo_112 (by assumption) (by assumption) ?_
        refine wp_iload_n rfl (ck_get kk_Mo_leavesAhead 76 rfl) ?_
        refine wp_ialdv (v := nI (la ks i o)) (ck_get kk_Mo_leavesAhead 77 rfl) (by assumption) (ixk_nI (k := o) (by omega) (by omega)) (vo) ?_
        first | refine wp_icmp_geN (t := 164) (ck_get kk_Mo_leavesAhead 78 rfl) (by decide) (by omega) (by omega) (fun hc157 => ?_) (fun hc157 => ?_) | refine wp_icmp_ge (t := 164) (ck_get kk_Mo_leavesAhead 78 rfl) (by decide) (fun hc157 => ?_) (fun hc157 => ?_)
        · refine wp_iconst (v := nI 0) (by decide) (ck_get kk_Mo_leavesAhead 81 rfl) ?_
          refine wp_ireturn (ck_get kk_Mo_leavesAhead 82 rfl) rfl rfl ⟨_, rfl, ?_⟩
          exact ⟨by rw [decide_eq_false (by omega)]; rfl, rfl⟩
        · refine wp_iconst (v := nI 1) (by decide) (ck_get kk_Mo_leavesAhead 79 rfl) ?_
          refine wp_goto (t := 165) (ck_get kk_Mo_leavesAhead 80 rfl) (by decide) ?_
          refine wp_ireturn (ck_get kk_Mo_leavesAhead 82 rfl) rfl rfl ⟨_, rfl, ?_⟩
          exact ⟨by rw [decide_eq_true (by omega)]; rfl, rfl⟩
  · have hB : lvA 4 ks n i x.2.1 k o = decide (sr ks n o (i + 1) < sr ks n k (i + 1) ∨ (sr ks n k (i + 1) = sr ks n o (i + 1) ∧ ks k < ks o)) := rfl
    have bk := sr_b (ks := ks) (k := k) hn (n - (i + 1)) (i + 1) (by omega)
    have bo := sr_b (ks := ks) (k := o) hn (n - (i + 1)) (i + 1) (by omega)
    have flt := faI_lt (a := sr ks n o (i + 1)) (b := sr ks n k (i + 1)) (by omega) (by omega)
    have feq := faI_eq (a := sr ks n k (i + 1)) (b := sr ks n o (i + 1)) (by omega) (by omega)
    have ak := m_againAt (g := g) (k := k) (b := i) (H := H) hM ht hR hA hn (by omega) hi
    have ao := m_againAt (g := g) (k := o) (b := i) (H := H) hM ht hR hA hn (by omega) hi
    have xk : xR M t k = ks k := hR.2.1 k (by omega)
    have xo : xR M t o = ks o := hR.2.1 o (by omega)
    rw [hB]
    generalize sr ks n k (i + 1) = sk at *
    generalize sr ks n o (i + 1) = so at *
    refine cw_entry 2 pf_Mo_leavesAhead rfl ?_
    refine wp_aload_n rfl (ck_get kk_Mo_leavesAhead 0 rfl) ?_
    refine wp_getR (ck_get kk_Mo_leavesAhead 1 rfl) fl_Mo_28 (by assumption) (by assumption) ?_
    refine wp_sipush (v := nI 369) (by decide) (ck_get kk_Mo_leavesAhead 2 rfl) ?_
    refine wp_ialdv (v := nI 4) (ck_get kk_Mo_leavesAhead 3 rfl) (by assumption) (ixk_nI (k := 369) (by omega) (by omega)) (vp) ?_
    refine wp_tabOut (t := 166) (ck_get kk_Mo_leavesAhead 4 rfl) (by decide) (by decide) ?_
    refine wp_aload_n rfl (ck_get kk_Mo_leavesAhead 83 rfl) ?_
    refine wp_iload_n rfl (ck_get kk_Mo_leavesAhead 84 rfl) ?_
    refine wp_iload_n rfl (ck_get kk_Mo_leavesAhead 85 rfl) ?_
    refine wp_iload rfl (ck_get kk_Mo_leavesAhead 86 rfl) ?_
    refine wp_cV3i (ck_get kk_Mo_leavesAhead 87 rfl) ml_Mo_465 (by omega) (Nat.le_of_ble_eq_true rfl) (by assumption) (Ci.to (ak) ?_)
    rintro _ M1 ⟨rfl, eqm1⟩
    obtain rfl := eqm1.symm
    refine wp_istore (ck_get kk_Mo_leavesAhead 88 rfl) (by decide) rfl ?_
    refine wp_aload_n rfl (ck_get kk_Mo_leavesAhead 89 rfl) ?_
    refine wp_iload_n rfl (ck_get kk_Mo_leavesAhead 90 rfl) ?_
    refine wp_iload_n rfl (ck_get kk_Mo_leavesAhead 91 rfl) ?_
    refine wp_iload rfl (ck_get kk_Mo_leavesAhead 92 rfl) ?_
    refine wp_cV3i (ck_get kk_Mo_leavesAhead 93 rfl) ml_Mo_465 (by omega) (Nat.le_of_ble_eq_true rfl) (by assumption) (Ci.to (ao) ?_)
    rintro _ M1 ⟨rfl, eqm1⟩
    obtain rfl := eqm1.symm
    refine wp_istore (ck_get kk_Mo_leavesAhead 94 rfl) (by decide) rfl ?_
    refine wp_iload rfl (ck_get kk_Mo_leavesAhead 95 rfl) ?_
    refine wp_iload rfl (ck_get kk_Mo_leavesAhead 96 rfl) ?_
    refine wp_icmp_gt (t := 215) (ck_get kk_Mo_leavesAhead 97 rfl) (by decide) (fun hc190 => ?_) (fun hc190 => ?_)
    · refine wp_iconst (v := nI 1) (by decide) (ck_get kk_Mo_leavesAhead 110 rfl) ?_
      refine wp_goto (t := 220) (ck_get kk_Mo_leavesAhead 111 rfl) (by decide) ?_
      refine wp_ireturn (ck_get kk_Mo_leavesAhead 113 rfl) rfl rfl ⟨_, rfl, ?_⟩
      exact ⟨by rw [decide_eq_true (Or.inl (flt.mp hc190))]; rfl, rfl⟩
    · refine wp_iload rfl (ck_get kk_Mo_leavesAhead 98 rfl) ?_
      refine wp_iload rfl (ck_get kk_Mo_leavesAhead 99 rfl) ?_
      refine wp_icmp_ne (t := 219) (ck_get kk_Mo_leavesAhead 100 rfl) (by decide) (fun hc197 => ?_) (fun hc197 => ?_)
      · refine wp_iconst (v := nI 0) (by decide) (ck_get kk_Mo_leavesAhead 112 rfl) ?_
        refine wp_ireturn (ck_get kk_Mo_leavesAhead 113 rfl) rfl rfl ⟨_, rfl, ?_⟩
        exact ⟨by rw [decide_eq_false (fun q => q.elim (fun a => hc190 (flt.mpr a)) (fun a => hc197 (feq.mpr a.1)))]; rfl, rfl⟩
      · refine wp_aload_n rfl (ck_get kk_Mo_leavesAhead 101 rfl) ?_
        refine wp_iload_n rfl (ck_get kk_Mo_leavesAhead 102 rfl) ?_
        refine wp_iload_n rfl (ck_get kk_Mo_leavesAhead 103 rfl) ?_
        refine wp_cV2i (ck_get kk_Mo_leavesAhead 104 rfl) ml_Mo_462 (by omega) (Nat.le_of_ble_eq_true rfl) (by assumption) (Ci.to (m_recAt (by exact hM) ht (i := k) (by omega)) ?_)
        rintro _ M1 ⟨rfl, eqm1⟩
        obtain rfl := eqm1.symm
        refine wp_aload_n rfl (ck_get kk_Mo_leavesAhead 105 rfl) ?_
        refine wp_iload_n rfl (ck_get kk_Mo_leavesAhead 106 rfl) ?_
        refine wp_iload_n rfl (ck_get kk_Mo_leavesAhead 107 rfl) ?_
        refine wp_cV2i (ck_get kk_Mo_leavesAhead 108 rfl) ml_Mo_462 (by omega) (Nat.le_of_ble_eq_true rfl) (by assumption) (Ci.to (m_recAt (by exact hM) ht (i := o) (by omega)) ?_)
        rintro _ M1 ⟨rfl, eqm1⟩
        obtain rfl := eqm1.symm
        refine wp_icmp_ge (t := 219) (ck_get kk_Mo_leavesAhead 109 rfl) (by decide) (fun hc212 => ?_) (fun hc212 => ?_)
        · refine wp_iconst (v := nI 0) (by decide) (ck_get kk_Mo_leavesAhead 112 rfl) ?_
          refine wp_ireturn (ck_get kk_Mo_leavesAhead 113 rfl) rfl rfl ⟨_, rfl, ?_⟩
          rw [xk, xo] at hc212
          exact ⟨by rw [decide_eq_false (fun q => q.elim (fun a => hc190 (flt.mpr a)) (fun a => absurd a.2 (Int32.not_lt.mpr hc212)))]; rfl, rfl⟩
        · refine wp_iconst (v := nI 1) (by decide) (ck_get kk_Mo_leavesAhead 110 rfl) ?_
          refine wp_goto (t := 220) (ck_get kk_Mo_leavesAhead 111 rfl) (by decide) ?_
          refine wp_ireturn (ck_get kk_Mo_leavesAhead 113 rfl) rfl rfl ⟨_, rfl, ?_⟩
          rw [xk, xo] at hc212
          exact ⟨by rw [decide_eq_true (Or.inr ⟨feq.mp (by simpa using hc197), Int32.not_le.mp hc212⟩)]; rfl, rfl⟩
def enJ : Option Nat → Int32
  | none => -1
  | some k => nI k
theorem m_isInB {w : Int64} {k : Nat} (hk : k < 32) : Ci g Y_Mo_isIn 0 [.long w, .int (nI k)] M (fun x M2 => x = bI (btJ w k) ∧ M2 = M) := by
  refine Cw.mono (m_isIn (s := w) (k := nI k)) ?_
  rintro r M2 ⟨x, e, h1, h2⟩
  exact ⟨x, e, by rw [h1, bt_askJ hk], h2⟩
theorem m_whoLeaves {t pol i c : Nat} {x : PS} {G : Nat → Nat → Int32} {H : Nat → Int64} (hM : MoAt (mT M) (mR M) 1020) (ht : t < 4) (hR : RcM M t ks n pol) (hA : MnA ks n i G) (hC : HwJ (H c) x.1) (hC2 : ∀ k, x.1 k = true → G 4 (32 * c + k) = nI (x.2.1 k)) (hO : POK ks c i x) (hi : i < n) (hn : n ≤ 32) (hp : pol < 5) (hc : c < 25) (hcn : cnt x.1 32 = c) (h0 : c ≠ 0) : Ci g Y_Mo_whoLeaves 3 [.ref 1020, .int (nI t), .int (nI i), .int (nI c)] (rmM M G H) (fun y M2 => y = nI (leaveP pol ks n i x) ∧ M2 = rmM M G H) := by
  have to0 := hM.1
  have rfholds := MoAt.r hM 29 rfl
  have tfholds := MoAt.t hM 29 rfl
  obtain ⟨l1, l2, l3⟩ := hO.leave (pol := pol) (n := n) hcn h0
  have vh : mJ (rmM M G H) 1050 c = H c := by rw [rm_h]
  have hlp : ∀ d k, k + d = 32 → Wp g Y_Mo_whoLeaves 3 6 [some (.ref 1020), some (.int (nI t)), some (.int (nI i)), some (.int (nI c)), some (.int (enJ (wh x.1 (lvA pol ks n i x.2.1) k))), some (.int (nI k))] [] (rmM M G H) (fun r M2 => ∃ y, r = some (.int y) ∧ y = nI (leaveP pol ks n i x) ∧ M2 = rmM M G H) := by
    intro d
    induction d with
    | zero =>
      intro k hk
      obtain rfl : k = 32 := by omega
      rw [l3]
      refine wp_iload rfl (ck_get kk_Mo_whoLeaves 4 rfl) ?_
      refine wp_bipush (v := nI 32) (by decide) (ck_get kk_Mo_whoLeaves 5 rfl) ?_
      first | refine wp_icmp_geN (t := 57) (ck_get kk_Mo_whoLeaves 6 rfl) (by decide) (by omega) (by omega) (fun hc10 => ?_) (fun hc10 => ?_) | refine wp_icmp_ge (t := 57) (ck_get kk_Mo_whoLeaves 6 rfl) (by decide) (fun hc10 => ?_) (fun hc10 => ?_)
      · refine wp_iload rfl (ck_get kk_Mo_whoLeaves 29 rfl) ?_
        refine wp_ireturn (ck_get kk_Mo_whoLeaves 30 rfl) rfl rfl ⟨_, rfl, ?_⟩
        exact ⟨rfl, rfl⟩
      · omega
    | succ d ih =>
      intro k hk
      have ih := ih (k + 1) (by omega)
      have hw1 : wh x.1 (lvA pol ks n i x.2.1) (k + 1) = whN x.1 (lvA pol ks n i x.2.1) k (wh x.1 (lvA pol ks n i x.2.1) k) := rfl
      have hbit : btJ (H c) k = x.1 k := hC.1 k (by omega)
      cases hb : x.1 k with
      | false =>
        rw [hb] at hbit
        have e : wh x.1 (lvA pol ks n i x.2.1) (k + 1) = wh x.1 (lvA pol ks n i x.2.1) k := by rw [hw1]; unfold whN; rw [if_neg (fun q => by rw [hb] at q; exact absurd q.1 (by decide))]
        rw [e] at ih
        refine wp_iload rfl (ck_get kk_Mo_whoLeaves 4 rfl) ?_
        refine wp_bipush (v := nI 32) (by decide) (ck_get kk_Mo_whoLeaves 5 rfl) ?_
        first | refine wp_icmp_geN (t := 57) (ck_get kk_Mo_whoLeaves 6 rfl) (by decide) (by omega) (by omega) (fun hc10 => ?_) (fun hc10 => ?_) | refine wp_icmp_ge (t := 57) (ck_get kk_Mo_whoLeaves 6 rfl) (by decide) (fun hc10 => ?_) (fun hc10 => ?_)
        · omega
        · refine wp_aload_n rfl (ck_get kk_Mo_whoLeaves 7 rfl) ?_
          refine wp_getR (ck_get kk_Mo_whoLeaves 8 rfl) fl_Mo_118 (by assumption) (by assumption) ?_
          refine wp_iload_n rfl (ck_get kk_Mo_whoLeaves 9 rfl) ?_
          refine wp_laldv (v := H c) (ck_get kk_Mo_whoLeaves 10 rfl) (by assumption) (ixk_nI (k := c) (by omega) (by omega)) (vh) ?_
          refine wp_iload rfl (ck_get kk_Mo_whoLeaves 11 rfl) ?_
          refine wp_cS2i (ck_get kk_Mo_whoLeaves 12 rfl) ml_Mo_468 (by omega) (Nat.le_of_ble_eq_true rfl) (Ci.to (m_isInB (by omega)) ?_)
          rintro _ M1 ⟨rfl, eqm1⟩
          obtain rfl := eqm1.symm
          rw [hbit]
          first | refine wp_if_eqN (t := 51) (ck_get kk_Mo_whoLeaves 13 rfl) (by decide) (by omega) (fun hc24 => ?_) (fun hc24 => ?_) | refine wp_if_eq (t := 51) (ck_get kk_Mo_whoLeaves 13 rfl) (by decide) (fun hc24 => ?_) (fun hc24 => ?_)
          · first | refine wp_iincN (ck_get kk_Mo_whoLeaves 27 rfl) rfl (by decide) rfl ?_ | refine wp_iinc (ck_get kk_Mo_whoLeaves 27 rfl) rfl (by decide) rfl ?_
            refine wp_goto (t := 6) (ck_get kk_Mo_whoLeaves 28 rfl) (by decide) ?_
            exact ih
          · exact absurd (by decide) hc24
      | true =>
        rw [hb] at hbit
        cases hwm : wh x.1 (lvA pol ks n i x.2.1) k with
        | none =>
          have e : wh x.1 (lvA pol ks n i x.2.1) (k + 1) = some k := by rw [hw1]; unfold whN; rw [if_pos ⟨hb, fun o q => by rw [hwm] at q; cases q⟩]
          rw [e] at ih
          show Wp g Y_Mo_whoLeaves 3 6 [some (.ref 1020), some (.int (nI t)), some (.int (nI i)), some (.int (nI c)), some (.int (-1)), some (.int (nI k))] [] (rmM M G H) _
          refine wp_iload rfl (ck_get kk_Mo_whoLeaves 4 rfl) ?_
          refine wp_bipush (v := nI 32) (by decide) (ck_get kk_Mo_whoLeaves 5 rfl) ?_
          first | refine wp_icmp_geN (t := 57) (ck_get kk_Mo_whoLeaves 6 rfl) (by decide) (by omega) (by omega) (fun hc10 => ?_) (fun hc10 => ?_) | refine wp_icmp_ge (t := 57) (ck_get kk_Mo_whoLeaves 6 rfl) (by decide) (fun hc10 => ?_) (fun hc10 => ?_)
          · omega
          · refine wp_aload_n rfl (ck_get kk_Mo_whoLeaves 7 rfl) ?_
            refine wp_getR (ck_get kk_Mo_whoLeaves 8 rfl) fl_Mo_118 (by assumption) (by assumption) ?_
            refine wp_iload_n rfl (ck_get kk_Mo_whoLeaves 9 rfl) ?_
            refine wp_laldv (v := H c) (ck_get kk_Mo_whoLeaves 10 rfl) (by assumption) (ixk_nI (k := c) (by omega) (by omega)) (vh) ?_
            refine wp_iload rfl (ck_get kk_Mo_whoLeaves 11 rfl) ?_
            refine wp_cS2i (ck_get kk_Mo_whoLeaves 12 rfl) ml_Mo_468 (by omega) (Nat.le_of_ble_eq_true rfl) (Ci.to (m_isInB (by omega)) ?_)
            rintro _ M1 ⟨rfl, eqm1⟩
            obtain rfl := eqm1.symm
            rw [hbit]
            first | refine wp_if_eqN (t := 51) (ck_get kk_Mo_whoLeaves 13 rfl) (by decide) (by omega) (fun hc24 => ?_) (fun hc24 => ?_) | refine wp_if_eq (t := 51) (ck_get kk_Mo_whoLeaves 13 rfl) (by decide) (fun hc24 => ?_) (fun hc24 => ?_)
            · exact absurd hc24 (by decide)
            · refine wp_iload rfl (ck_get kk_Mo_whoLeaves 14 rfl) ?_
              refine wp_iconst (v := (-1)) (by decide) (ck_get kk_Mo_whoLeaves 15 rfl) ?_
              refine wp_icmp_eq (t := 47) (ck_get kk_Mo_whoLeaves 16 rfl) (by decide) (fun hc30 => ?_) (fun hc30 => ?_)
              · refine wp_iload rfl (ck_get kk_Mo_whoLeaves 25 rfl) ?_
                refine wp_istore (ck_get kk_Mo_whoLeaves 26 rfl) (by decide) rfl ?_
                first | refine wp_iincN (ck_get kk_Mo_whoLeaves 27 rfl) rfl (by decide) rfl ?_ | refine wp_iinc (ck_get kk_Mo_whoLeaves 27 rfl) rfl (by decide) rfl ?_
                refine wp_goto (t := 6) (ck_get kk_Mo_whoLeaves 28 rfl) (by decide) ?_
                exact ih
              · exact absurd rfl hc30
        | some o =>
          obtain ⟨o1, o2⟩ := wh_ok k hwm
          show Wp g Y_Mo_whoLeaves 3 6 [some (.ref 1020), some (.int (nI t)), some (.int (nI i)), some (.int (nI c)), some (.int (nI o)), some (.int (nI k))] [] (rmM M G H) _
          cases hB : lvA pol ks n i x.2.1 k o with
          | true =>
            have e : wh x.1 (lvA pol ks n i x.2.1) (k + 1) = some k := by rw [hw1]; unfold whN; rw [if_pos ⟨hb, fun o9 q => by rw [hwm] at q; obtain rfl := Option.some.inj q; exact hB⟩]
            rw [e] at ih
            refine wp_iload rfl (ck_get kk_Mo_whoLeaves 4 rfl) ?_
            refine wp_bipush (v := nI 32) (by decide) (ck_get kk_Mo_whoLeaves 5 rfl) ?_
            first | refine wp_icmp_geN (t := 57) (ck_get kk_Mo_whoLeaves 6 rfl) (by decide) (by omega) (by omega) (fun hc10 => ?_) (fun hc10 => ?_) | refine wp_icmp_ge (t := 57) (ck_get kk_Mo_whoLeaves 6 rfl) (by decide) (fun hc10 => ?_) (fun hc10 => ?_)
            · omega
            · refine wp_aload_n rfl (ck_get kk_Mo_whoLeaves 7 rfl) ?_
              refine wp_getR (ck_get kk_Mo_whoLeaves 8 rfl) fl_Mo_118 (by assumption) (by assumption) ?_
              refine wp_iload_n rfl (ck_get kk_Mo_whoLeaves 9 rfl) ?_
              refine wp_laldv (v := H c) (ck_get kk_Mo_whoLeaves 10 rfl) (by assumption) (ixk_nI (k := c) (by omega) (by omega)) (vh) ?_
              refine wp_iload rfl (ck_get kk_Mo_whoLeaves 11 rfl) ?_
              refine wp_cS2i (ck_get kk_Mo_whoLeaves 12 rfl) ml_Mo_468 (by omega) (Nat.le_of_ble_eq_true rfl) (Ci.to (m_isInB (by omega)) ?_)
              rintro _ M1 ⟨rfl, eqm1⟩
              obtain rfl := eqm1.symm
              rw [hbit]
              first | refine wp_if_eqN (t := 51) (ck_get kk_Mo_whoLeaves 13 rfl) (by decide) (by omega) (fun hc24 => ?_) (fun hc24 => ?_) | refine wp_if_eq (t := 51) (ck_get kk_Mo_whoLeaves 13 rfl) (by decide) (fun hc24 => ?_) (fun hc24 => ?_)
              · exact absurd hc24 (by decide)
              · refine wp_iload rfl (ck_get kk_Mo_whoLeaves 14 rfl) ?_
                refine wp_iconst (v := (-1)) (by decide) (ck_get kk_Mo_whoLeaves 15 rfl) ?_
                refine wp_icmp_eq (t := 47) (ck_get kk_Mo_whoLeaves 16 rfl) (by decide) (fun hc30 => ?_) (fun hc30 => ?_)
                · exact absurd hc30 (nI_ne1 (by omega))
                · refine wp_aload_n rfl (ck_get kk_Mo_whoLeaves 17 rfl) ?_
                  refine wp_iload_n rfl (ck_get kk_Mo_whoLeaves 18 rfl) ?_
                  refine wp_iload rfl (ck_get kk_Mo_whoLeaves 19 rfl) ?_
                  refine wp_iload rfl (ck_get kk_Mo_whoLeaves 20 rfl) ?_
                  refine wp_iload_n rfl (ck_get kk_Mo_whoLeaves 21 rfl) ?_
                  refine wp_iload_n rfl (ck_get kk_Mo_whoLeaves 22 rfl) ?_
                  refine wp_cV5i (ck_get kk_Mo_whoLeaves 23 rfl) ml_Mo_472 (by omega) (Nat.le_of_ble_eq_true rfl) (by assumption) (Ci.to (m_leavesAhead (by exact hM) ht hR hA hC hC2 hO hi hn hp hc hb o2) ?_)
                  rintro _ M1 ⟨rfl, eqm1⟩
                  obtain rfl := eqm1.symm
                  rw [hB]
                  first | refine wp_if_eqN (t := 51) (ck_get kk_Mo_whoLeaves 24 rfl) (by decide) (by omega) (fun hc44 => ?_) (fun hc44 => ?_) | refine wp_if_eq (t := 51) (ck_get kk_Mo_whoLeaves 24 rfl) (by decide) (fun hc44 => ?_) (fun hc44 => ?_)
                  · exact absurd hc44 (by decide)
                  · refine wp_iload rfl (ck_get kk_Mo_whoLeaves 25 rfl) ?_
                    refine wp_istore (ck_get kk_Mo_whoLeaves 26 rfl) (by decide) rfl ?_
                    first | refine wp_iincN (ck_get kk_Mo_whoLeaves 27 rfl) rfl (by decide) rfl ?_ | refine wp_iinc (ck_get kk_Mo_whoLeaves 27 rfl) rfl (by decide) rfl ?_
                    refine wp_goto (t := 6) (ck_get kk_Mo_whoLeaves 28 rfl) (by decide) ?_
                    exact ih
          | false =>
            have e : wh x.1 (lvA pol ks n i x.2.1) (k + 1) = some o := by rw [hw1]; unfold whN; rw [hwm, if_neg (fun q => by have := q.2 o rfl; rw [hB] at this; cases this)]
            rw [e] at ih
            refine wp_iload rfl (ck_get kk_Mo_whoLeaves 4 rfl) ?_
            refine wp_bipush (v := nI 32) (by decide) (ck_get kk_Mo_whoLeaves 5 rfl) ?_
            first | refine wp_icmp_geN (t := 57) (ck_get kk_Mo_whoLeaves 6 rfl) (by decide) (by omega) (by omega) (fun hc10 => ?_) (fun hc10 => ?_) | refine wp_icmp_ge (t := 57) (ck_get kk_Mo_whoLeaves 6 rfl) (by decide) (fun hc10 => ?_) (fun hc10 => ?_)
            · omega
            · refine wp_aload_n rfl (ck_get kk_Mo_whoLeaves 7 rfl) ?_
              refine wp_getR (ck_get kk_Mo_whoLeaves 8 rfl) fl_Mo_118 (by assumption) (by assumption) ?_
              refine wp_iload_n rfl (ck_get kk_Mo_whoLeaves 9 rfl) ?_
              refine wp_laldv (v := H c) (ck_get kk_Mo_whoLeaves 10 rfl) (by assumption) (ixk_nI (k := c) (by omega) (by omega)) (vh) ?_
              refine wp_iload rfl (ck_get kk_Mo_whoLeaves 11 rfl) ?_
              refine wp_cS2i (ck_get kk_Mo_whoLeaves 12 rfl) ml_Mo_468 (by omega) (Nat.le_of_ble_eq_true rfl) (Ci.to (m_isInB (by omega)) ?_)
              rintro _ M1 ⟨rfl, eqm1⟩
              obtain rfl := eqm1.symm
              rw [hbit]
              first | refine wp_if_eqN (t := 51) (ck_get kk_Mo_whoLeaves 13 rfl) (by decide) (by omega) (fun hc24 => ?_) (fun hc24 => ?_) | refine wp_if_eq (t := 51) (ck_get kk_Mo_whoLeaves 13 rfl) (by decide) (fun hc24 => ?_) (fun hc24 => ?_)
              · exact absurd hc24 (by decide)
              · refine wp_iload rfl (ck_get kk_Mo_whoLeaves 14 rfl) ?_
                refine wp_iconst (v := (-1)) (by decide) (ck_get kk_Mo_whoLeaves 15 rfl) ?_
                refine wp_icmp_eq (t := 47) (ck_get kk_Mo_whoLeaves 16 rfl) (by decide) (fun hc30 => ?_) (fun hc30 => ?_)
                · exact absurd hc30 (nI_ne1 (by omega))
                · refine wp_aload_n rfl (ck_get kk_Mo_whoLeaves 17 rfl) ?_
                  refine wp_iload_n rfl (ck_get kk_Mo_whoLeaves 18 rfl) ?_
                  refine wp_iload rfl (ck_get kk_Mo_whoLeaves 19 rfl) ?_
                  refine wp_iload rfl (ck_get kk_Mo_whoLeaves 20 rfl) ?_
                  refine wp_iload_n rfl (ck_get kk_Mo_whoLeaves 21 rfl) ?_
                  refine wp_iload_n rfl (ck_get kk_Mo_whoLeaves 22 rfl) ?_
                  refine wp_cV5i (ck_get kk_Mo_whoLeaves 23 rfl) ml_Mo_472 (by omega) (Nat.le_of_ble_eq_true rfl) (by assumption) (Ci.to (m_leavesAhead (by exact hM) ht hR hA hC hC2 hO hi hn hp hc hb o2) ?_)
                  rintro _ M1 ⟨rfl, eqm1⟩
                  obtain rfl := eqm1.symm
                  rw [hB]
                  first | refine wp_if_eqN (t := 51) (ck_get kk_Mo_whoLeaves 24 rfl) (by decide) (by omega) (fun hc44 => ?_) (fun hc44 => ?_) | refine wp_if_eq (t := 51) (ck_get kk_Mo_whoLeaves 24 rfl) (by decide) (fun hc44 => ?_) (fun hc44 => ?_)
                  · first | refine wp_iincN (ck_get kk_Mo_whoLeaves 27 rfl) rfl (by decide) rfl ?_ | refine wp_iinc (ck_get kk_Mo_whoLeaves 27 rfl) rfl (by decide) rfl ?_
                    refine wp_goto (t := 6) (ck_get kk_Mo_whoLeaves 28 rfl) (by decide) ?_
                    exact ih
                  · exact absurd (by decide) hc44
  refine cw_entry 2 pf_Mo_whoLeaves rfl ?_
  refine wp_iconst (v := (-1)) (by decide) (ck_get kk_Mo_whoLeaves 0 rfl) ?_
  refine wp_istore (ck_get kk_Mo_whoLeaves 1 rfl) (by decide) rfl ?_
  refine wp_iconst (v := nI 0) (by decide) (ck_get kk_Mo_whoLeaves 2 rfl) ?_
  refine wp_istore (ck_get kk_Mo_whoLeaves 3 rfl) (by decide) rfl ?_
  exact hlp 32 0 (by omega)
theorem m_heldMany {c : Nat} {h : Nat → Bool} {G : Nat → Nat → Int32} {H : Nat → Int64} (hM : MoAt (mT M) (mR M) 1020) (hh : HwJ (H c) h) (hc : c < 25) : Ci g Y_Mo_heldMany 1 [.ref 1020, .int (nI c)] (rmM M G H) (fun y M2 => y = nI (cnt h 32) ∧ M2 = rmM M G H) := by
  have to0 := hM.1
  have rfholds := MoAt.r hM 29 rfl
  have tfholds := MoAt.t hM 29 rfl
  have vh : mJ (rmM M G H) 1050 c = H c := by rw [rm_h]
  have hlp : ∀ d k, k + d = 32 → Wp g Y_Mo_heldMany 1 4 [some (.ref 1020), some (.int (nI c)), some (.int (nI (cnt h k))), some (.int (nI k))] [] (rmM M G H) (fun r M2 => ∃ y, r = some (.int y) ∧ y = nI (cnt h 32) ∧ M2 = rmM M G H) := by
    intro d
    induction d with
    | zero =>
      intro k hk
      obtain rfl : k = 32 := by omega
      refine wp_iload_n rfl (ck_get kk_Mo_heldMany 4 rfl) ?_
      refine wp_bipush (v := nI 32) (by decide) (ck_get kk_Mo_heldMany 5 rfl) ?_
      first | refine wp_icmp_geN (t := 37) (ck_get kk_Mo_heldMany 6 rfl) (by decide) (by omega) (by omega) (fun hc7 => ?_) (fun hc7 => ?_) | refine wp_icmp_ge (t := 37) (ck_get kk_Mo_heldMany 6 rfl) (by decide) (fun hc7 => ?_) (fun hc7 => ?_)
      · refine wp_iload_n rfl (ck_get kk_Mo_heldMany 22 rfl) ?_
        refine wp_ireturn (ck_get kk_Mo_heldMany 23 rfl) rfl rfl ⟨_, rfl, ?_⟩
        exact ⟨rfl, rfl⟩
      · omega
    | succ d ih =>
      intro k hk
      have ih := ih (k + 1) (by omega)
      have hbit : btJ (H c) k = h k := hh.1 k (by omega)
      cases hb : h k with
      | false =>
        rw [hb] at hbit
        have e : cnt h (k + 1) = cnt h k + 0 := by show cnt h k + _ = _; rw [hb]; rfl
        rw [e] at ih
        refine wp_iload_n rfl (ck_get kk_Mo_heldMany 4 rfl) ?_
        refine wp_bipush (v := nI 32) (by decide) (ck_get kk_Mo_heldMany 5 rfl) ?_
        first | refine wp_icmp_geN (t := 37) (ck_get kk_Mo_heldMany 6 rfl) (by decide) (by omega) (by omega) (fun hc7 => ?_) (fun hc7 => ?_) | refine wp_icmp_ge (t := 37) (ck_get kk_Mo_heldMany 6 rfl) (by decide) (fun hc7 => ?_) (fun hc7 => ?_)
        · omega
        · refine wp_iload_n rfl (ck_get kk_Mo_heldMany 7 rfl) ?_
          refine wp_aload_n rfl (ck_get kk_Mo_heldMany 8 rfl) ?_
          refine wp_getR (ck_get kk_Mo_heldMany 9 rfl) fl_Mo_118 (by assumption) (by assumption) ?_
          refine wp_iload_n rfl (ck_get kk_Mo_heldMany 10 rfl) ?_
          refine wp_laldv (v := H c) (ck_get kk_Mo_heldMany 11 rfl) (by assumption) (ixk_nI (k := c) (by omega) (by omega)) (vh) ?_
          refine wp_iload_n rfl (ck_get kk_Mo_heldMany 12 rfl) ?_
          refine wp_cS2i (ck_get kk_Mo_heldMany 13 rfl) ml_Mo_468 (by omega) (Nat.le_of_ble_eq_true rfl) (Ci.to (m_isInB (by omega)) ?_)
          rintro _ M1 ⟨rfl, eqm1⟩
          obtain rfl := eqm1.symm
          rw [hbit]
          first | refine wp_if_eqN (t := 28) (ck_get kk_Mo_heldMany 14 rfl) (by decide) (by omega) (fun hc21 => ?_) (fun hc21 => ?_) | refine wp_if_eq (t := 28) (ck_get kk_Mo_heldMany 14 rfl) (by decide) (fun hc21 => ?_) (fun hc21 => ?_)
          · refine wp_iconst (v := nI 0) (by decide) (ck_get kk_Mo_heldMany 17 rfl) ?_
            first | refine wp_iaddN (ck_get kk_Mo_heldMany 18 rfl) ?_ | refine wp_iadd (ck_get kk_Mo_heldMany 18 rfl) ?_
            refine wp_istore_n (ck_get kk_Mo_heldMany 19 rfl) (by decide) rfl ?_
            first | refine wp_iincN (ck_get kk_Mo_heldMany 20 rfl) rfl (by decide) rfl ?_ | refine wp_iinc (ck_get kk_Mo_heldMany 20 rfl) rfl (by decide) rfl ?_
            refine wp_goto (t := 4) (ck_get kk_Mo_heldMany 21 rfl) (by decide) ?_
            exact ih
          · exact absurd (by decide) hc21
      | true =>
        rw [hb] at hbit
        have e : cnt h (k + 1) = cnt h k + 1 := by show cnt h k + _ = _; rw [hb]; rfl
        rw [e] at ih
        refine wp_iload_n rfl (ck_get kk_Mo_heldMany 4 rfl) ?_
        refine wp_bipush (v := nI 32) (by decide) (ck_get kk_Mo_heldMany 5 rfl) ?_
        first | refine wp_icmp_geN (t := 37) (ck_get kk_Mo_heldMany 6 rfl) (by decide) (by omega) (by omega) (fun hc7 => ?_) (fun hc7 => ?_) | refine wp_icmp_ge (t := 37) (ck_get kk_Mo_heldMany 6 rfl) (by decide) (fun hc7 => ?_) (fun hc7 => ?_)
        · omega
        · refine wp_iload_n rfl (ck_get kk_Mo_heldMany 7 rfl) ?_
          refine wp_aload_n rfl (ck_get kk_Mo_heldMany 8 rfl) ?_
          refine wp_getR (ck_get kk_Mo_heldMany 9 rfl) fl_Mo_118 (by assumption) (by assumption) ?_
          refine wp_iload_n rfl (ck_get kk_Mo_heldMany 10 rfl) ?_
          refine wp_laldv (v := H c) (ck_get kk_Mo_heldMany 11 rfl) (by assumption) (ixk_nI (k := c) (by omega) (by omega)) (vh) ?_
          refine wp_iload_n rfl (ck_get kk_Mo_heldMany 12 rfl) ?_
          refine wp_cS2i (ck_get kk_Mo_heldMany 13 rfl) ml_Mo_468 (by omega) (Nat.le_of_ble_eq_true rfl) (Ci.to (m_isInB (by omega)) ?_)
          rintro _ M1 ⟨rfl, eqm1⟩
          obtain rfl := eqm1.symm
          rw [hbit]
          first | refine wp_if_eqN (t := 28) (ck_get kk_Mo_heldMany 14 rfl) (by decide) (by omega) (fun hc21 => ?_) (fun hc21 => ?_) | refine wp_if_eq (t := 28) (ck_get kk_Mo_heldMany 14 rfl) (by decide) (fun hc21 => ?_) (fun hc21 => ?_)
          · exact absurd hc21 (by decide)
          · refine wp_iconst (v := nI 1) (by decide) (ck_get kk_Mo_heldMany 15 rfl) ?_
            refine wp_goto (t := 29) (ck_get kk_Mo_heldMany 16 rfl) (by decide) ?_
            first | refine wp_iaddN (ck_get kk_Mo_heldMany 18 rfl) ?_ | refine wp_iadd (ck_get kk_Mo_heldMany 18 rfl) ?_
            refine wp_istore_n (ck_get kk_Mo_heldMany 19 rfl) (by decide) rfl ?_
            first | refine wp_iincN (ck_get kk_Mo_heldMany 20 rfl) rfl (by decide) rfl ?_ | refine wp_iinc (ck_get kk_Mo_heldMany 20 rfl) rfl (by decide) rfl ?_
            refine wp_goto (t := 4) (ck_get kk_Mo_heldMany 21 rfl) (by decide) ?_
            exact ih
  refine cw_entry 2 pf_Mo_heldMany rfl ?_
  refine wp_iconst (v := nI 0) (by decide) (ck_get kk_Mo_heldMany 0 rfl) ?_
  refine wp_istore_n (ck_get kk_Mo_heldMany 1 rfl) (by decide) rfl ?_
  refine wp_iconst (v := nI 0) (by decide) (ck_get kk_Mo_heldMany 2 rfl) ?_
  refine wp_istore_n (ck_get kk_Mo_heldMany 3 rfl) (by decide) rfl ?_
  exact hlp 32 0 (by omega)
end MPM

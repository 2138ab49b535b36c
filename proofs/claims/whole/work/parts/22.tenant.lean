/-! ===== MissCurves$Tenant ===== -/
/-- a tenant's cells: itself, stack, costs, sample, parts, record -/
def TeAt (T : Nat → Nat × Nat) (R : Nat → Nat → Option Nat) (a : Nat) : Prop :=
  T a = (7, 0) ∧ R a 0 = some (a + 1) ∧ R a 2 = some (a + 2) ∧ R a 3 = some (a + 3) ∧ R a 6 = some (a + 4) ∧ R a 7 = some (a + 5) ∧
  T (a + 1) = (20, 24) ∧ T (a + 2) = (20, 25) ∧ T (a + 3) = (20, 7) ∧ T (a + 4) = (21, 25) ∧ T (a + 5) = (20, 32)
/-- what MISSES are at a size, out of the costs -/
def msA (f : Nat → Int32) (k : Nat) : Int32 := f 0 + sumI f (k + 1) (24 - k)
def gsA (f : Nat → Int64) (k : Nat) : Int64 := f 0 + sumJ f (k + 1) (24 - k)
section TE
variable {g : Gl} {M : Mem} {a : Nat}
theorem l_timesRecorded {rn : Nat} {key : Int32} (hA : TeAt (mT M) (mR M) a) (h8 : mI M a 8 = nI rn) (hr : rn ≤ 32) : ∀ k i, rn = i + k → Wp g Y_Te_timesRecorded 0 4 [some (.ref a), some (.int key), some (.int (nI (cntI (mI M (a + 5)) key i))), some (.int (nI i))] [] M (fun r M2 => ∃ x, r = some (.int x) ∧ x = nI (cntI (mI M (a + 5)) key rn) ∧ M2 = M) := by
  obtain ⟨t0, r0, r2, r3, r6, r7, t1, t2, t3, t4, t5⟩ := hA
  intro k
  induction k with
  | zero =>
    intro i h1
    refine wp_iload_n rfl (ck_get kk_Te_timesRecorded 4 rfl) ?_
    refine wp_aload_n rfl (ck_get kk_Te_timesRecorded 5 rfl) ?_
    first | refine wp_getIv (ck_get kk_Te_timesRecorded 6 rfl) fl_Te_38 (by assumption) (by assumption) ?_ | refine wp_getI (ck_get kk_Te_timesRecorded 6 rfl) fl_Te_38 (by assumption) ?_
    first | refine wp_icmp_geN (t := 36) (ck_get kk_Te_timesRecorded 7 rfl) (by decide) (by omega) (by omega) (fun hc9 => ?_) (fun hc9 => ?_) | refine wp_icmp_ge (t := 36) (ck_get kk_Te_timesRecorded 7 rfl) (by decide) (fun hc9 => ?_) (fun hc9 => ?_)
    · refine wp_iload_n rfl (ck_get kk_Te_timesRecorded 22 rfl) ?_
      refine wp_ireturn (ck_get kk_Te_timesRecorded 23 rfl) rfl rfl ⟨_, rfl, ?_⟩
      exact ⟨by rw [h1]; rfl, rfl⟩
    · omega
  | succ k ih =>
    intro i h1
    refine wp_iload_n rfl (ck_get kk_Te_timesRecorded 4 rfl) ?_
    refine wp_aload_n rfl (ck_get kk_Te_timesRecorded 5 rfl) ?_
    first | refine wp_getIv (ck_get kk_Te_timesRecorded 6 rfl) fl_Te_38 (by assumption) (by assumption) ?_ | refine wp_getI (ck_get kk_Te_timesRecorded 6 rfl) fl_Te_38 (by assumption) ?_
    first | refine wp_icmp_geN (t := 36) (ck_get kk_Te_timesRecorded 7 rfl) (by decide) (by omega) (by omega) (fun hc9 => ?_) (fun hc9 => ?_) | refine wp_icmp_ge (t := 36) (ck_get kk_Te_timesRecorded 7 rfl) (by decide) (fun hc9 => ?_) (fun hc9 => ?_)
    · omega
    · refine wp_iload_n rfl (ck_get kk_Te_timesRecorded 8 rfl) ?_
      refine wp_aload_n rfl (ck_get kk_Te_timesRecorded 9 rfl) ?_
      refine wp_getR (ck_get kk_Te_timesRecorded 10 rfl) fl_Te_35 (by assumption) (by assumption) ?_
      refine wp_iload_n rfl (ck_get kk_Te_timesRecorded 11 rfl) ?_
      refine wp_iald (ck_get kk_Te_timesRecorded 12 rfl) (by assumption) (by first | assumption | exact ixk_nI (by omega) (by omega)) ?_
      refine wp_iload_n rfl (ck_get kk_Te_timesRecorded 13 rfl) ?_
      first | refine wp_icmp_neN (t := 27) (ck_get kk_Te_timesRecorded 14 rfl) (by decide) (by omega) (by omega) (fun hc20 => ?_) (fun hc20 => ?_) | refine wp_icmp_ne (t := 27) (ck_get kk_Te_timesRecorded 14 rfl) (by decide) (fun hc20 => ?_) (fun hc20 => ?_)
      · refine wp_iconst (v := nI 0) (by decide) (ck_get kk_Te_timesRecorded 17 rfl) ?_
        first | refine wp_iaddN (ck_get kk_Te_timesRecorded 18 rfl) ?_ | refine wp_iadd (ck_get kk_Te_timesRecorded 18 rfl) ?_
        refine wp_istore_n (ck_get kk_Te_timesRecorded 19 rfl) (by decide) rfl ?_
        first | refine wp_iincN (ck_get kk_Te_timesRecorded 20 rfl) rfl (by decide) rfl ?_ | refine wp_iinc (ck_get kk_Te_timesRecorded 20 rfl) rfl (by decide) rfl ?_
        refine wp_goto (t := 4) (ck_get kk_Te_timesRecorded 21 rfl) (by decide) ?_
        have e := ih (i + 1) (by omega)
        rw [cntI, if_neg hc20] at e
        exact e
      · refine wp_iconst (v := nI 1) (by decide) (ck_get kk_Te_timesRecorded 15 rfl) ?_
        refine wp_goto (t := 28) (ck_get kk_Te_timesRecorded 16 rfl) (by decide) ?_
        first | refine wp_iaddN (ck_get kk_Te_timesRecorded 18 rfl) ?_ | refine wp_iadd (ck_get kk_Te_timesRecorded 18 rfl) ?_
        refine wp_istore_n (ck_get kk_Te_timesRecorded 19 rfl) (by decide) rfl ?_
        first | refine wp_iincN (ck_get kk_Te_timesRecorded 20 rfl) rfl (by decide) rfl ?_ | refine wp_iinc (ck_get kk_Te_timesRecorded 20 rfl) rfl (by decide) rfl ?_
        refine wp_goto (t := 4) (ck_get kk_Te_timesRecorded 21 rfl) (by decide) ?_
        have e := ih (i + 1) (by omega)
        rw [cntI, if_pos hc20] at e
        exact e
theorem c_timesRecorded {rn : Nat} {key : Int32} (hA : TeAt (mT M) (mR M) a) (h8 : mI M a 8 = nI rn) (hr : rn ≤ 32) : Ci g Y_Te_timesRecorded 0 [.ref a, .int key] M (fun x M2 => x = nI (cntI (mI M (a + 5)) key rn) ∧ M2 = M) := by
  refine cw_entry 2 pf_Te_timesRecorded rfl ?_
  refine wp_iconst (v := nI 0) (by decide) (ck_get kk_Te_timesRecorded 0 rfl) ?_
  refine wp_istore_n (ck_get kk_Te_timesRecorded 1 rfl) (by decide) rfl ?_
  refine wp_iconst (v := nI 0) (by decide) (ck_get kk_Te_timesRecorded 2 rfl) ?_
  refine wp_istore_n (ck_get kk_Te_timesRecorded 3 rfl) (by decide) rfl ?_
  exact l_timesRecorded hA h8 hr rn 0 (by omega)
theorem l_missesAt {c : Nat} (hA : TeAt (mT M) (mR M) a) (hc : c ≤ 24) : ∀ k i, 24 - c = i + k → Wp g Y_Te_missesAt 0 11 [some (.ref a), some (.int (nI c)), some (.int (mI M (a + 2) 0 + sumI (mI M (a + 2)) (c + 1) i)), some (.int (nI (c + 1 + i)))] [] M (fun r M2 => ∃ x, r = some (.int x) ∧ x = msA (mI M (a + 2)) c ∧ M2 = M) := by
  obtain ⟨t0, r0, r2, r3, r6, r7, t1, t2, t3, t4, t5⟩ := hA
  intro k
  induction k with
  | zero =>
    intro i h1
    refine wp_iload_n rfl (ck_get kk_Te_missesAt 9 rfl) ?_
    refine wp_bipush (v := nI 24) (by decide) (ck_get kk_Te_missesAt 10 rfl) ?_
    first | refine wp_icmp_gtN (t := 32) (ck_get kk_Te_missesAt 11 rfl) (by decide) (by omega) (by omega) (fun hc14 => ?_) (fun hc14 => ?_) | refine wp_icmp_gt (t := 32) (ck_get kk_Te_missesAt 11 rfl) (by decide) (fun hc14 => ?_) (fun hc14 => ?_)
    · refine wp_iload_n rfl (ck_get kk_Te_missesAt 21 rfl) ?_
      refine wp_ireturn (ck_get kk_Te_missesAt 22 rfl) rfl rfl ⟨_, rfl, ?_⟩
      exact ⟨by rw [msA, h1]; rfl, rfl⟩
    · omega
  | succ k ih =>
    intro i h1
    refine wp_iload_n rfl (ck_get kk_Te_missesAt 9 rfl) ?_
    refine wp_bipush (v := nI 24) (by decide) (ck_get kk_Te_missesAt 10 rfl) ?_
    first | refine wp_icmp_gtN (t := 32) (ck_get kk_Te_missesAt 11 rfl) (by decide) (by omega) (by omega) (fun hc14 => ?_) (fun hc14 => ?_) | refine wp_icmp_gt (t := 32) (ck_get kk_Te_missesAt 11 rfl) (by decide) (fun hc14 => ?_) (fun hc14 => ?_)
    · omega
    · refine wp_iload_n rfl (ck_get kk_Te_missesAt 12 rfl) ?_
      refine wp_aload_n rfl (ck_get kk_Te_missesAt 13 rfl) ?_
      refine wp_getR (ck_get kk_Te_missesAt 14 rfl) fl_Te_19 (by assumption) (by assumption) ?_
      refine wp_iload_n rfl (ck_get kk_Te_missesAt 15 rfl) ?_
      refine wp_iald (ck_get kk_Te_missesAt 16 rfl) (by assumption) (by first | assumption | exact ixk_nI (by omega) (by omega)) ?_
      first | refine wp_iaddN (ck_get kk_Te_missesAt 17 rfl) ?_ | refine wp_iadd (ck_get kk_Te_missesAt 17 rfl) ?_
      refine wp_istore_n (ck_get kk_Te_missesAt 18 rfl) (by decide) rfl ?_
      first | refine wp_iincN (ck_get kk_Te_missesAt 19 rfl) rfl (by decide) rfl ?_ | refine wp_iinc (ck_get kk_Te_missesAt 19 rfl) rfl (by decide) rfl ?_
      refine wp_goto (t := 11) (ck_get kk_Te_missesAt 20 rfl) (by decide) ?_
      have e := ih (i + 1) (by omega)
      rw [sumI, ← Int32.add_assoc] at e
      exact e
theorem c_missesAt {c : Nat} (hA : TeAt (mT M) (mR M) a) (hc : c ≤ 24) : Ci g Y_Te_missesAt 0 [.ref a, .int (nI c)] M (fun x M2 => x = msA (mI M (a + 2)) c ∧ M2 = M) := by
  have hA0 := hA
  obtain ⟨t0, r0, r2, r3, r6, r7, t1, t2, t3, t4, t5⟩ := hA
  refine cw_entry 2 pf_Te_missesAt rfl ?_
  refine wp_aload_n rfl (ck_get kk_Te_missesAt 0 rfl) ?_
  refine wp_getR (ck_get kk_Te_missesAt 1 rfl) fl_Te_19 (by assumption) (by assumption) ?_
  refine wp_iconst (v := nI 0) (by decide) (ck_get kk_Te_missesAt 2 rfl) ?_
  refine wp_iald (ck_get kk_Te_missesAt 3 rfl) (by assumption) (ixk_nI (k := 0) (by omega) (by omega)) ?_
  refine wp_istore_n (ck_get kk_Te_missesAt 4 rfl) (by decide) rfl ?_
  refine wp_iload_n rfl (ck_get kk_Te_missesAt 5 rfl) ?_
  refine wp_iconst (v := nI 1) (by decide) (ck_get kk_Te_missesAt 6 rfl) ?_
  first | refine wp_iaddN (ck_get kk_Te_missesAt 7 rfl) ?_ | refine wp_iadd (ck_get kk_Te_missesAt 7 rfl) ?_
  refine wp_istore_n (ck_get kk_Te_missesAt 8 rfl) (by decide) rfl ?_
  have e := l_missesAt (g := g) hA0 hc (24 - c) 0 (by omega)
  rw [sumI, Int32.add_zero] at e
  exact e
theorem l_guessAt {c : Nat} (hA : TeAt (mT M) (mR M) a) (hc : c ≤ 24) : ∀ k i, 24 - c = i + k → Wp g Y_Te_guessAt 1 12 [some (.ref a), some (.int (nI c)), some (.long (mJ M (a + 4) 0 + sumJ (mJ M (a + 4)) (c + 1) i)), none, some (.int (nI (c + 1 + i)))] [] M (fun r M2 => ∃ x, r = some (.int x) ∧ x = (minJ (gsA (mJ M (a + 4)) c / 1000) 2000000000).toInt32 ∧ M2 = M) := by
  obtain ⟨t0, r0, r2, r3, r6, r7, t1, t2, t3, t4, t5⟩ := hA
  intro k
  induction k with
  | zero =>
    intro i h1
    refine wp_iload rfl (ck_get kk_Te_guessAt 9 rfl) ?_
    refine wp_bipush (v := nI 24) (by decide) (ck_get kk_Te_guessAt 10 rfl) ?_
    first | refine wp_icmp_gtN (t := 35) (ck_get kk_Te_guessAt 11 rfl) (by decide) (by omega) (by omega) (fun hc16 => ?_) (fun hc16 => ?_) | refine wp_icmp_gt (t := 35) (ck_get kk_Te_guessAt 11 rfl) (by decide) (fun hc16 => ?_) (fun hc16 => ?_)
    · refine wp_lload_n rfl (ck_get kk_Te_guessAt 21 rfl) ?_
      refine wp_ldc2 kl_Te_76 (ck_get kk_Te_guessAt 22 rfl) ?_
      refine wp_ldiv (by decide) (ck_get kk_Te_guessAt 23 rfl) ?_
      refine wp_ldc2 kl_Te_78 (ck_get kk_Te_guessAt 24 rfl) ?_
      refine wp_cS2l (ck_get kk_Te_guessAt 25 rfl) ml_Te_80 (by omega) (Nat.le_of_ble_eq_true rfl) (Cl.to (c_minJ) ?_)
      rintro x M2 ⟨rfl, rfl⟩
      refine wp_l2i (ck_get kk_Te_guessAt 26 rfl) ?_
      refine wp_ireturn (ck_get kk_Te_guessAt 27 rfl) rfl rfl ⟨_, rfl, ?_⟩
      exact ⟨by rw [gsA, h1]; rfl, rfl⟩
    · omega
  | succ k ih =>
    intro i h1
    refine wp_iload rfl (ck_get kk_Te_guessAt 9 rfl) ?_
    refine wp_bipush (v := nI 24) (by decide) (ck_get kk_Te_guessAt 10 rfl) ?_
    first | refine wp_icmp_gtN (t := 35) (ck_get kk_Te_guessAt 11 rfl) (by decide) (by omega) (by omega) (fun hc16 => ?_) (fun hc16 => ?_) | refine wp_icmp_gt (t := 35) (ck_get kk_Te_guessAt 11 rfl) (by decide) (fun hc16 => ?_) (fun hc16 => ?_)
    · omega
    · refine wp_lload_n rfl (ck_get kk_Te_guessAt 12 rfl) ?_
      refine wp_aload_n rfl (ck_get kk_Te_guessAt 13 rfl) ?_
      refine wp_getR (ck_get kk_Te_guessAt 14 rfl) fl_Te_31 (by assumption) (by assumption) ?_
      refine wp_iload rfl (ck_get kk_Te_guessAt 15 rfl) ?_
      refine wp_lald (ck_get kk_Te_guessAt 16 rfl) (by assumption) (by first | assumption | exact ixk_nI (by omega) (by omega)) ?_
      refine wp_ladd (ck_get kk_Te_guessAt 17 rfl) ?_
      refine wp_lstore_n (ck_get kk_Te_guessAt 18 rfl) (by decide) rfl ?_
      first | refine wp_iincN (ck_get kk_Te_guessAt 19 rfl) rfl (by decide) rfl ?_ | refine wp_iinc (ck_get kk_Te_guessAt 19 rfl) rfl (by decide) rfl ?_
      refine wp_goto (t := 12) (ck_get kk_Te_guessAt 20 rfl) (by decide) ?_
      have e := ih (i + 1) (by omega)
      rw [sumJ, ← Int64.add_assoc] at e
      exact e
theorem c_guessAt {c : Nat} (hA : TeAt (mT M) (mR M) a) (hc : c ≤ 24) : Ci g Y_Te_guessAt 1 [.ref a, .int (nI c)] M (fun x M2 => x = (minJ (gsA (mJ M (a + 4)) c / 1000) 2000000000).toInt32 ∧ M2 = M) := by
  have hA0 := hA
  obtain ⟨t0, r0, r2, r3, r6, r7, t1, t2, t3, t4, t5⟩ := hA
  refine cw_entry 3 pf_Te_guessAt rfl ?_
  refine wp_aload_n rfl (ck_get kk_Te_guessAt 0 rfl) ?_
  refine wp_getR (ck_get kk_Te_guessAt 1 rfl) fl_Te_31 (by assumption) (by assumption) ?_
  refine wp_iconst (v := nI 0) (by decide) (ck_get kk_Te_guessAt 2 rfl) ?_
  refine wp_lald (ck_get kk_Te_guessAt 3 rfl) (by assumption) (ixk_nI (k := 0) (by omega) (by omega)) ?_
  refine wp_lstore_n (ck_get kk_Te_guessAt 4 rfl) (by decide) rfl ?_
  refine wp_iload_n rfl (ck_get kk_Te_guessAt 5 rfl) ?_
  refine wp_iconst (v := nI 1) (by decide) (ck_get kk_Te_guessAt 6 rfl) ?_
  first | refine wp_iaddN (ck_get kk_Te_guessAt 7 rfl) ?_ | refine wp_iadd (ck_get kk_Te_guessAt 7 rfl) ?_
  refine wp_istore (ck_get kk_Te_guessAt 8 rfl) (by decide) rfl ?_
  have e := l_guessAt (g := g) hA0 hc (24 - c) 0 (by omega)
  rw [sumJ, Int64.add_zero] at e
  exact e
/-- the first k places halved -/
def hvI (f : Nat → Int32) (k : Nat) (y : Nat) : Int32 := if y < k then f y / 2 else f y
def hvJ (f : Nat → Int64) (k : Nat) (y : Nat) : Int64 := if y < k then f y / 2 else f y
theorem hvI_succ {I : Nat → Nat → Int32} {f : Nat → Int32} {a k : Nat} : up2 (up1 I a (hvI f k)) a k (f k / 2) = up1 I a (hvI f (k + 1)) := by
  funext x y
  unfold up2 up1 hvI
  by_cases hx : x = a
  · subst hx
    simp only [true_and, if_true]
    by_cases hy : y = k
    · subst hy; rw [if_pos rfl, if_pos (by omega)]
    · rw [if_neg hy]
      by_cases h2 : y < k
      · rw [if_pos h2, if_pos (by omega)]
      · rw [if_neg h2, if_neg (by omega)]
  · simp [hx]
theorem hvJ_succ {I : Nat → Nat → Int64} {f : Nat → Int64} {a k : Nat} : up2 (up1 I a (hvJ f k)) a k (f k / 2) = up1 I a (hvJ f (k + 1)) := by
  funext x y
  unfold up2 up1 hvJ
  by_cases hx : x = a
  · subst hx
    simp only [true_and, if_true]
    by_cases hy : y = k
    · subst hy; rw [if_pos rfl, if_pos (by omega)]
    · rw [if_neg hy]
      by_cases h2 : y < k
      · rw [if_pos h2, if_pos (by omega)]
      · rw [if_neg h2, if_neg (by omega)]
  · simp [hx]
abbrev hvM (M : Mem) (a k : Nat) : Mem := mk2 M (up1 (mI M) (a + 2) (hvI (mI M (a + 2)) k)) (up1 (mJ M) (a + 4) (hvJ (mJ M (a + 4)) k))
theorem hvM_I {M : Mem} {a k : Nat} : mI (hvM M a k) (a + 2) = hvI (mI M (a + 2)) k := up1_eq
theorem hvM_J {M : Mem} {a k : Nat} : mJ (hvM M a k) (a + 4) = hvJ (mJ M (a + 4)) k := up1_eq
theorem l_halve (hA : TeAt (mT M) (mR M) a) : ∀ k i, 25 = i + k → Wp g Y_Te_halve 0 4 [some (.ref a), some (.int (sumI (hvI (mI M (a + 2)) 25) 0 i)), some (.int (nI i))] [] (hvM M a i) (fun r M2 => ∃ x, r = some (.int x) ∧ x = sumI (hvI (mI M (a + 2)) 25) 0 25 ∧ M2 = hvM M a 25) := by
  obtain ⟨t0, r0, r2, r3, r6, r7, t1, t2, t3, t4, t5⟩ := hA
  intro k
  induction k with
  | zero =>
    intro i h1
    refine wp_iload_n rfl (ck_get kk_Te_halve 4 rfl) ?_
    refine wp_bipush (v := nI 24) (by decide) (ck_get kk_Te_halve 5 rfl) ?_
    first | refine wp_icmp_gtN (t := 47) (ck_get kk_Te_halve 6 rfl) (by decide) (by omega) (by omega) (fun hc7 => ?_) (fun hc7 => ?_) | refine wp_icmp_gt (t := 47) (ck_get kk_Te_halve 6 rfl) (by decide) (fun hc7 => ?_) (fun hc7 => ?_)
    · refine wp_iload_n rfl (ck_get kk_Te_halve 32 rfl) ?_
      refine wp_ireturn (ck_get kk_Te_halve 33 rfl) rfl rfl ⟨_, rfl, ?_⟩
      subst h1; exact ⟨rfl, rfl⟩
    · omega
  | succ k ih =>
    intro i h1
    have e1 : mI (hvM M a i) (a + 2) i = mI M (a + 2) i := by rw [hvM_I, hvI, if_neg (by omega)]
    have e2 : mJ (hvM M a i) (a + 4) i = mJ M (a + 4) i := by rw [hvM_J, hvJ, if_neg (by omega)]
    refine wp_iload_n rfl (ck_get kk_Te_halve 4 rfl) ?_
    refine wp_bipush (v := nI 24) (by decide) (ck_get kk_Te_halve 5 rfl) ?_
    first | refine wp_icmp_gtN (t := 47) (ck_get kk_Te_halve 6 rfl) (by decide) (by omega) (by omega) (fun hc7 => ?_) (fun hc7 => ?_) | refine wp_icmp_gt (t := 47) (ck_get kk_Te_halve 6 rfl) (by decide) (fun hc7 => ?_) (fun hc7 => ?_)
    · omega
    · refine wp_aload_n rfl (ck_get kk_Te_halve 7 rfl) ?_
      refine wp_getR (ck_get kk_Te_halve 8 rfl) fl_Te_19 (by assumption) (by assumption) ?_
      refine wp_iload_n rfl (ck_get kk_Te_halve 9 rfl) ?_
      first | refine wp_dup2l rfl (ck_get kk_Te_halve 10 rfl) ?_ | refine wp_dup2 rfl rfl (ck_get kk_Te_halve 10 rfl) ?_
      refine wp_ialdv (ck_get kk_Te_halve 11 rfl) (by assumption) (by first | assumption | exact ixk_nI (by omega) (by omega)) (e1) ?_
      refine wp_iconst (v := nI 2) (by decide) (ck_get kk_Te_halve 12 rfl) ?_
      refine wp_idiv (by decide) (ck_get kk_Te_halve 13 rfl) ?_
      refine wp_iast (ck_get kk_Te_halve 14 rfl) (by assumption) (by first | assumption | exact ixk_nI (by omega) (by omega)) ?_
      refine wp_aload_n rfl (ck_get kk_Te_halve 15 rfl) ?_
      refine wp_getR (ck_get kk_Te_halve 16 rfl) fl_Te_31 (by assumption) (by assumption) ?_
      refine wp_iload_n rfl (ck_get kk_Te_halve 17 rfl) ?_
      first | refine wp_dup2l rfl (ck_get kk_Te_halve 18 rfl) ?_ | refine wp_dup2 rfl rfl (ck_get kk_Te_halve 18 rfl) ?_
      refine wp_laldv (ck_get kk_Te_halve 19 rfl) (by assumption) (by first | assumption | exact ixk_nI (by omega) (by omega)) (e2) ?_
      refine wp_ldc2 kl_Te_84 (ck_get kk_Te_halve 20 rfl) ?_
      refine wp_ldiv (by decide) (ck_get kk_Te_halve 21 rfl) ?_
      refine wp_last (ck_get kk_Te_halve 22 rfl) (by assumption) (by first | assumption | exact ixk_nI (by omega) (by omega)) ?_
      refine wp_iload_n rfl (ck_get kk_Te_halve 23 rfl) ?_
      refine wp_aload_n rfl (ck_get kk_Te_halve 24 rfl) ?_
      refine wp_getR (ck_get kk_Te_halve 25 rfl) fl_Te_19 (by assumption) (by assumption) ?_
      refine wp_iload_n rfl (ck_get kk_Te_halve 26 rfl) ?_
      refine wp_ialdv (ck_get kk_Te_halve 27 rfl) (by assumption) (by first | assumption | exact ixk_nI (by omega) (by omega)) (show up2 (up1 (mI M) (a + 2) (hvI (mI M (a + 2)) i)) (a + 2) i (mI M (a + 2) i / 2) (a + 2) i = hvI (mI M (a + 2)) 25 i by
        rw [hvI_succ, up1_eq, hvI, hvI, if_pos (by omega), if_pos (by omega)]) ?_
      first | refine wp_iaddN (ck_get kk_Te_halve 28 rfl) ?_ | refine wp_iadd (ck_get kk_Te_halve 28 rfl) ?_
      refine wp_istore_n (ck_get kk_Te_halve 29 rfl) (by decide) rfl ?_
      first | refine wp_iincN (ck_get kk_Te_halve 30 rfl) rfl (by decide) rfl ?_ | refine wp_iinc (ck_get kk_Te_halve 30 rfl) rfl (by decide) rfl ?_
      refine wp_goto (t := 4) (ck_get kk_Te_halve 31 rfl) (by decide) ?_
      have e := ih (i + 1) (by omega)
      rw [sumI, Nat.zero_add] at e
      have hI := @hvI_succ (mI M) (mI M (a + 2)) (a + 2) i
      have hJ := @hvJ_succ (mJ M) (mJ M (a + 4)) (a + 4) i
      have em : hvM M a (i + 1) = mk2 M (up2 (up1 (mI M) (a + 2) (hvI (mI M (a + 2)) i)) (a + 2) i (mI M (a + 2) i / 2)) (up2 (up1 (mJ M) (a + 4) (hvJ (mJ M (a + 4)) i)) (a + 4) i (mJ M (a + 4) i / 2)) := by
        rw [hI, hJ]
      rw [em] at e
      exact e
theorem hvM_0 {M : Mem} {a : Nat} : hvM M a 0 = M := by
  have e1 : hvI (mI M (a + 2)) 0 = mI M (a + 2) := by funext y; exact if_neg (by omega)
  have e2 : hvJ (mJ M (a + 4)) 0 = mJ M (a + 4) := by funext y; exact if_neg (by omega)
  show mk2 M (up1 (mI M) (a + 2) (hvI (mI M (a + 2)) 0)) (up1 (mJ M) (a + 4) (hvJ (mJ M (a + 4)) 0)) = M
  rw [e1, e2, up1_self, up1_self]
theorem c_halve (hA : TeAt (mT M) (mR M) a) : Ci g Y_Te_halve 0 [.ref a] M (fun x M2 => x = sumI (hvI (mI M (a + 2)) 25) 0 25 ∧ M2 = hvM M a 25) := by
  refine cw_entry 2 pf_Te_halve rfl ?_
  refine wp_iconst (v := nI 0) (by decide) (ck_get kk_Te_halve 0 rfl) ?_
  refine wp_istore_n (ck_get kk_Te_halve 1 rfl) (by decide) rfl ?_
  refine wp_iconst (v := nI 0) (by decide) (ck_get kk_Te_halve 2 rfl) ?_
  refine wp_istore_n (ck_get kk_Te_halve 3 rfl) (by decide) rfl ?_
  have e := l_halve (g := g) hA 25 0 (by omega)
  rw [hvM_0] at e
  exact e
theorem c_emptySample (hA : TeAt (mT M) (mR M) a) : Cv g Y_Te_emptySample 1 [.ref a] M (fun M2 => M2 = mk2 M (up2 (up2 (mI M) a 4 (nI 0)) a 5 (nI 1000)) (up1 (mJ M) (a + 4) (flJ (mJ M (a + 4)) 25 0))) := by
  obtain ⟨t0, r0, r2, r3, r6, r7, t1, t2, t3, t4, t5⟩ := hA
  refine cw_entry 0 pf_Te_emptySample rfl ?_
  refine wp_aload_n rfl (ck_get kk_Te_emptySample 0 rfl) ?_
  refine wp_iconst (v := nI 0) (by decide) (ck_get kk_Te_emptySample 1 rfl) ?_
  refine wp_putI (ck_get kk_Te_emptySample 2 rfl) fl_Te_25 (by decide +kernel) (by assumption) (okI_int _) ?_
  refine wp_aload_n rfl (ck_get kk_Te_emptySample 3 rfl) ?_
  refine wp_sipush (v := nI 1000) (by decide) (ck_get kk_Te_emptySample 4 rfl) ?_
  refine wp_putI (ck_get kk_Te_emptySample 5 rfl) fl_Te_28 (by decide +kernel) (by assumption) (okI_int _) ?_
  refine wp_aload_n rfl (ck_get kk_Te_emptySample 6 rfl) ?_
  refine wp_getR (ck_get kk_Te_emptySample 7 rfl) fl_Te_31 (by assumption) (by assumption) ?_
  refine wp_lconst (v := 0) (by decide) (ck_get kk_Te_emptySample 8 rfl) ?_
  refine wp_cS2v (ck_get kk_Te_emptySample 9 rfl) ml_Te_70 (by omega) (Nat.le_of_ble_eq_true rfl) (Cv.to (c_fillJ (len := 25) t4 (by decide)) ?_)
  rintro M2 rfl
  refine wp_return (ck_get kk_Te_emptySample 10 rfl) rfl ⟨rfl, ?_⟩
  rfl
end TE

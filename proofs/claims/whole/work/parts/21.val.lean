/-! ===== reads with a known value; sums, counts, fills; Math and Arrays ===== -/
section VR
variable {g : Gl} {Y : Meth} {n pc : Nat} {lv : List (Option Value)} {st : List Value} {M : Mem} {Q : Option Value → Mem → Prop}
theorem wp_getIv {ix ci k a len : Nat} {v : Int32} (hd : decode Y.2.1 pc = .ok (.getfield ix, 3)) (hl : FLk Y.1.cls ix ci k) (hT : mT M a = (ci, len)) (hv : mI M a k = v) (kk : Wp g Y n (pc + 3) lv (.int v :: st) M Q) (hk : fkd (tyOf ci k) = 0 := by rfl) : Wp g Y n pc lv (.ref a :: st) M Q := wp_getI hd hl hT (by rw [hv]; exact kk) hk
theorem wp_ialdv {a len k : Nat} {i v : Int32} (hd : decode Y.2.1 pc = .ok (.iaload, 1)) (hT : mT M a = (20, len)) (hi : ixk i len k) (hv : mI M a k = v) (kk : Wp g Y n (pc + 1) lv (.int v :: st) M Q) : Wp g Y n pc lv (.int i :: .ref a :: st) M Q := wp_iald hd hT hi (by rw [hv]; exact kk)
theorem wp_laldv {a len k : Nat} {i : Int32} {v : Int64} (hd : decode Y.2.1 pc = .ok (.laload, 1)) (hT : mT M a = (21, len)) (hi : ixk i len k) (hv : mJ M a k = v) (kk : Wp g Y n (pc + 1) lv (.long v :: st) M Q) : Wp g Y n pc lv (.int i :: .ref a :: st) M Q := wp_lald hd hT hi (by rw [hv]; exact kk)
end VR
def sumI (f : Nat → Int32) (lo : Nat) : Nat → Int32
  | 0 => 0
  | k + 1 => sumI f lo k + f (lo + k)
def sumJ (f : Nat → Int64) (lo : Nat) : Nat → Int64
  | 0 => 0
  | k + 1 => sumJ f lo k + f (lo + k)
theorem sumI_congr {f f2 : Nat → Int32} {lo : Nat} : ∀ {k : Nat}, (∀ i, i < k → f (lo + i) = f2 (lo + i)) → sumI f lo k = sumI f2 lo k
  | 0, _ => rfl
  | k + 1, h => by rw [sumI, sumI, sumI_congr (fun i hi => h i (by omega)), h k (by omega)]
theorem sumJ_congr {f f2 : Nat → Int64} {lo : Nat} : ∀ {k : Nat}, (∀ i, i < k → f (lo + i) = f2 (lo + i)) → sumJ f lo k = sumJ f2 lo k
  | 0, _ => rfl
  | k + 1, h => by rw [sumJ, sumJ, sumJ_congr (fun i hi => h i (by omega)), h k (by omega)]
def cntI (f : Nat → Int32) (key : Int32) : Nat → Nat
  | 0 => 0
  | k + 1 => cntI f key k + (if f k = key then 1 else 0)
theorem cntI_congr {f f2 : Nat → Int32} {key : Int32} : ∀ {k : Nat}, (∀ i, i < k → f i = f2 i) → cntI f key k = cntI f2 key k
  | 0, _ => rfl
  | k + 1, h => by rw [cntI, cntI, cntI_congr (fun i hi => h i (by omega)), h k (by omega)]
theorem cntI_le {f : Nat → Int32} {key : Int32} : ∀ {k : Nat}, cntI f key k ≤ k
  | 0 => Nat.le_refl _
  | k + 1 => by
    have := @cntI_le f key k
    rw [cntI]
    by_cases h : f k = key
    · rw [if_pos h]; omega
    · rw [if_neg h]; omega
def minJ (a b : Int64) : Int64 := if b < a then b else a
def maxJ (a b : Int64) : Int64 := if a < b then b else a
section MA
variable {g : Gl} {M : Mem}
theorem c_max {a b : Nat} (ha : a < 2147483648) (hb : b < 2147483648) : Ci g Y_Ma_max_0 0 [.int (nI a), .int (nI b)] M (fun x M2 => x = nI (max a b) ∧ M2 = M) := by
  refine cw_entry 0 pf_Ma_max_0 rfl ?_
  refine wp_iload_n rfl (ck_get kk_Ma_max_0 0 rfl) ?_
  refine wp_iload_n rfl (ck_get kk_Ma_max_0 1 rfl) ?_
  first | refine wp_icmp_ltN (t := 9) (ck_get kk_Ma_max_0 2 rfl) (by decide) (by omega) (by omega) (fun hc2 => ?_) (fun hc2 => ?_) | refine wp_icmp_lt (t := 9) (ck_get kk_Ma_max_0 2 rfl) (by decide) (fun hc2 => ?_) (fun hc2 => ?_)
  · refine wp_iload_n rfl (ck_get kk_Ma_max_0 5 rfl) ?_
    refine wp_ireturn (ck_get kk_Ma_max_0 6 rfl) rfl rfl ⟨_, rfl, ?_⟩
    exact ⟨by rw [Nat.max_eq_right (by omega)], rfl⟩
  · refine wp_iload_n rfl (ck_get kk_Ma_max_0 3 rfl) ?_
    refine wp_goto (t := 10) (ck_get kk_Ma_max_0 4 rfl) (by decide) ?_
    refine wp_ireturn (ck_get kk_Ma_max_0 6 rfl) rfl rfl ⟨_, rfl, ?_⟩
    exact ⟨by rw [Nat.max_eq_left (by omega)], rfl⟩
theorem c_min {a b : Nat} (ha : a < 2147483648) (hb : b < 2147483648) : Ci g Y_Ma_min_0 0 [.int (nI a), .int (nI b)] M (fun x M2 => x = nI (min a b) ∧ M2 = M) := by
  refine cw_entry 0 pf_Ma_min_0 rfl ?_
  refine wp_iload_n rfl (ck_get kk_Ma_min_0 0 rfl) ?_
  refine wp_iload_n rfl (ck_get kk_Ma_min_0 1 rfl) ?_
  first | refine wp_icmp_gtN (t := 9) (ck_get kk_Ma_min_0 2 rfl) (by decide) (by omega) (by omega) (fun hc2 => ?_) (fun hc2 => ?_) | refine wp_icmp_gt (t := 9) (ck_get kk_Ma_min_0 2 rfl) (by decide) (fun hc2 => ?_) (fun hc2 => ?_)
  · refine wp_iload_n rfl (ck_get kk_Ma_min_0 5 rfl) ?_
    refine wp_ireturn (ck_get kk_Ma_min_0 6 rfl) rfl rfl ⟨_, rfl, ?_⟩
    exact ⟨by rw [Nat.min_eq_right (by omega)], rfl⟩
  · refine wp_iload_n rfl (ck_get kk_Ma_min_0 3 rfl) ?_
    refine wp_goto (t := 10) (ck_get kk_Ma_min_0 4 rfl) (by decide) ?_
    refine wp_ireturn (ck_get kk_Ma_min_0 6 rfl) rfl rfl ⟨_, rfl, ?_⟩
    exact ⟨by rw [Nat.min_eq_left (by omega)], rfl⟩
theorem lcmp_lt (x y : Int64) : lg_cmp x y < 0 ↔ x < y := by
  unfold lg_cmp
  by_cases h1 : x > y
  · rw [if_pos h1]
    exact ⟨fun h => absurd h (by decide), fun h => absurd h (Int64.lt_asymm h1)⟩
  · rw [if_neg h1]
    by_cases h2 : x = y
    · rw [if_pos h2]
      exact ⟨fun h => absurd h (by decide), fun h => by rw [h2] at h; exact absurd h (Int64.lt_irrefl)⟩
    · rw [if_neg h2]
      refine ⟨fun _ => ?_, fun _ => by decide⟩
      rcases Int64.lt_or_eq_of_le (Int64.not_lt.mp h1) with h | h
      · exact h
      · exact absurd h h2
theorem lcmp_gt (x y : Int64) : 0 < lg_cmp x y ↔ y < x := by
  unfold lg_cmp
  by_cases h1 : x > y
  · rw [if_pos h1]
    exact ⟨fun _ => h1, fun _ => by decide⟩
  · rw [if_neg h1]
    by_cases h2 : x = y
    · rw [if_pos h2]
      exact ⟨fun h => absurd h (by decide), fun h => absurd h h1⟩
    · rw [if_neg h2]
      exact ⟨fun h => absurd h (by decide), fun h => absurd h h1⟩
theorem lcmp_eq (x y : Int64) : lg_cmp x y = 0 ↔ x = y := by
  unfold lg_cmp
  by_cases h1 : x > y
  · rw [if_pos h1]
    refine ⟨fun h => absurd h (by decide), fun h => ?_⟩
    rw [h] at h1; exact absurd h1 (Int64.lt_irrefl)
  · rw [if_neg h1]
    by_cases h2 : x = y
    · rw [if_pos h2]; exact ⟨fun _ => h2, fun _ => rfl⟩
    · rw [if_neg h2]; exact ⟨fun h => absurd h (by decide), fun h => absurd h h2⟩
theorem c_minJ {a b : Int64} : Cl g Y_Ma_min_1 0 [.long a, .long b] M (fun x M2 => x = minJ a b ∧ M2 = M) := by
  refine cw_entry 0 pf_Ma_min_1 rfl ?_
  refine wp_lload_n rfl (ck_get kk_Ma_min_1 0 rfl) ?_
  refine wp_lload_n rfl (ck_get kk_Ma_min_1 1 rfl) ?_
  refine wp_lcmp (ck_get kk_Ma_min_1 2 rfl) ?_
  first | refine wp_if_gtN (t := 10) (ck_get kk_Ma_min_1 3 rfl) (by decide) (by omega) (fun hc3 => ?_) (fun hc3 => ?_) | refine wp_if_gt (t := 10) (ck_get kk_Ma_min_1 3 rfl) (by decide) (fun hc3 => ?_) (fun hc3 => ?_)
  · refine wp_lload_n rfl (ck_get kk_Ma_min_1 6 rfl) ?_
    refine wp_lreturn (ck_get kk_Ma_min_1 7 rfl) rfl ⟨_, rfl, ?_⟩
    exact ⟨by rw [minJ, if_pos ((lcmp_gt a b).mp hc3)], rfl⟩
  · refine wp_lload_n rfl (ck_get kk_Ma_min_1 4 rfl) ?_
    refine wp_goto (t := 11) (ck_get kk_Ma_min_1 5 rfl) (by decide) ?_
    refine wp_lreturn (ck_get kk_Ma_min_1 7 rfl) rfl ⟨_, rfl, ?_⟩
    exact ⟨by rw [minJ, if_neg (fun h => hc3 ((lcmp_gt a b).mpr h))], rfl⟩
theorem c_maxJ {a b : Int64} : Cl g Y_Ma_max_1 0 [.long a, .long b] M (fun x M2 => x = maxJ a b ∧ M2 = M) := by
  refine cw_entry 0 pf_Ma_max_1 rfl ?_
  refine wp_lload_n rfl (ck_get kk_Ma_max_1 0 rfl) ?_
  refine wp_lload_n rfl (ck_get kk_Ma_max_1 1 rfl) ?_
  refine wp_lcmp (ck_get kk_Ma_max_1 2 rfl) ?_
  first | refine wp_if_ltN (t := 10) (ck_get kk_Ma_max_1 3 rfl) (by decide) (by omega) (fun hc3 => ?_) (fun hc3 => ?_) | refine wp_if_lt (t := 10) (ck_get kk_Ma_max_1 3 rfl) (by decide) (fun hc3 => ?_) (fun hc3 => ?_)
  · refine wp_lload_n rfl (ck_get kk_Ma_max_1 6 rfl) ?_
    refine wp_lreturn (ck_get kk_Ma_max_1 7 rfl) rfl ⟨_, rfl, ?_⟩
    exact ⟨by rw [maxJ, if_pos ((lcmp_lt a b).mp hc3)], rfl⟩
  · refine wp_lload_n rfl (ck_get kk_Ma_max_1 4 rfl) ?_
    refine wp_goto (t := 11) (ck_get kk_Ma_max_1 5 rfl) (by decide) ?_
    refine wp_lreturn (ck_get kk_Ma_max_1 7 rfl) rfl ⟨_, rfl, ?_⟩
    exact ⟨by rw [maxJ, if_neg (fun h => hc3 ((lcmp_lt a b).mpr h))], rfl⟩
/-- the first k places of a row hold v -/
def flI (f : Nat → Int32) (k : Nat) (v : Int32) (y : Nat) : Int32 := if y < k then v else f y
def flJ (f : Nat → Int64) (k : Nat) (v : Int64) (y : Nat) : Int64 := if y < k then v else f y
theorem flI_succ {I : Nat → Nat → Int32} {f : Nat → Int32} {a k : Nat} {v : Int32} : up2 (up1 I a (flI f k v)) a k v = up1 I a (flI f (k + 1) v) := by
  funext x y
  unfold up2 up1 flI
  by_cases hx : x = a
  · subst hx
    simp only [true_and, if_true]
    by_cases hy : y = k
    · rw [if_pos hy, if_pos (by omega)]
    · rw [if_neg hy]
      by_cases h2 : y < k
      · rw [if_pos h2, if_pos (by omega)]
      · rw [if_neg h2, if_neg (by omega)]
  · simp [hx]
theorem flJ_succ {I : Nat → Nat → Int64} {f : Nat → Int64} {a k : Nat} {v : Int64} : up2 (up1 I a (flJ f k v)) a k v = up1 I a (flJ f (k + 1) v) := by
  funext x y
  unfold up2 up1 flJ
  by_cases hx : x = a
  · subst hx
    simp only [true_and, if_true]
    by_cases hy : y = k
    · rw [if_pos hy, if_pos (by omega)]
    · rw [if_neg hy]
      by_cases h2 : y < k
      · rw [if_pos h2, if_pos (by omega)]
      · rw [if_neg h2, if_neg (by omega)]
  · simp [hx]
theorem up1_self {α : Type} (f : Nat → α) (a : Nat) : up1 f a (f a) = f := by
  funext x; unfold up1; by_cases h : x = a
  · rw [if_pos h, h]
  · rw [if_neg h]
theorem l_fillI {a len : Nat} {v : Int32} (hT : mT M a = (20, len)) (hl : len < 2147483648) : ∀ k i, len = i + k → Wp g Y_Ar_fill_1 0 5 [some (.ref a), some (.int v), some (.int (nI i)), some (.int (nI len))] [] (mk2 M (up1 (mI M) a (flI (mI M a) i v)) (mJ M)) (fun r M2 => r = none ∧ M2 = mk2 M (up1 (mI M) a (flI (mI M a) len v)) (mJ M)) := by
  intro k
  induction k with
  | zero =>
    intro i h1
    refine wp_iload_n rfl (ck_get kk_Ar_fill_1 5 rfl) ?_
    refine wp_iload_n rfl (ck_get kk_Ar_fill_1 6 rfl) ?_
    first | refine wp_icmp_geN (t := 20) (ck_get kk_Ar_fill_1 7 rfl) (by decide) (by omega) (by omega) (fun hc7 => ?_) (fun hc7 => ?_) | refine wp_icmp_ge (t := 20) (ck_get kk_Ar_fill_1 7 rfl) (by decide) (fun hc7 => ?_) (fun hc7 => ?_)
    · refine wp_return (ck_get kk_Ar_fill_1 14 rfl) rfl ⟨rfl, ?_⟩
      subst h1; rfl
    · omega
  | succ k ih =>
    intro i h1
    refine wp_iload_n rfl (ck_get kk_Ar_fill_1 5 rfl) ?_
    refine wp_iload_n rfl (ck_get kk_Ar_fill_1 6 rfl) ?_
    first | refine wp_icmp_geN (t := 20) (ck_get kk_Ar_fill_1 7 rfl) (by decide) (by omega) (by omega) (fun hc7 => ?_) (fun hc7 => ?_) | refine wp_icmp_ge (t := 20) (ck_get kk_Ar_fill_1 7 rfl) (by decide) (fun hc7 => ?_) (fun hc7 => ?_)
    · omega
    · refine wp_aload_n rfl (ck_get kk_Ar_fill_1 8 rfl) ?_
      refine wp_iload_n rfl (ck_get kk_Ar_fill_1 9 rfl) ?_
      refine wp_iload_n rfl (ck_get kk_Ar_fill_1 10 rfl) ?_
      refine wp_iast (ck_get kk_Ar_fill_1 11 rfl) (by assumption) (by first | assumption | exact ixk_nI (by omega) (by omega)) ?_
      first | refine wp_iincN (ck_get kk_Ar_fill_1 12 rfl) rfl (by decide) rfl ?_ | refine wp_iinc (ck_get kk_Ar_fill_1 12 rfl) rfl (by decide) rfl ?_
      refine wp_goto (t := 5) (ck_get kk_Ar_fill_1 13 rfl) (by decide) ?_
      have e := ih (i + 1) (by omega)
      rw [← flI_succ] at e
      exact e
theorem c_fillI {a len : Nat} {v : Int32} (hT : mT M a = (20, len)) (hl : len < 2147483648) : Cv g Y_Ar_fill_1 0 [.ref a, .int v] M (fun M2 => M2 = mk2 M (up1 (mI M) a (flI (mI M a) len v)) (mJ M)) := by
  refine cw_entry 2 pf_Ar_fill_1 rfl ?_
  refine wp_iconst (v := nI 0) (by decide) (ck_get kk_Ar_fill_1 0 rfl) ?_
  refine wp_istore_n (ck_get kk_Ar_fill_1 1 rfl) (by decide) rfl ?_
  refine wp_aload_n rfl (ck_get kk_Ar_fill_1 2 rfl) ?_
  refine wp_alen (ck_get kk_Ar_fill_1 3 rfl) (by assumption) ?_
  refine wp_istore_n (ck_get kk_Ar_fill_1 4 rfl) (by decide) rfl ?_
  have e := l_fillI (g := g) (v := v) hT hl len 0 (by omega)
  have e0 : up1 (mI M) a (flI (mI M a) 0 v) = mI M := by
    have : flI (mI M a) 0 v = mI M a := by funext y; exact if_neg (by omega)
    rw [this, up1_self]
  rw [e0] at e
  exact e
theorem l_fillJ {a len : Nat} {v : Int64} (hT : mT M a = (21, len)) (hl : len < 2147483648) : ∀ k i, len = i + k → Wp g Y_Ar_fill_2 0 6 [some (.ref a), some (.long v), none, some (.int (nI i)), some (.int (nI len))] [] (mk2 M (mI M) (up1 (mJ M) a (flJ (mJ M a) i v))) (fun r M2 => r = none ∧ M2 = mk2 M (mI M) (up1 (mJ M) a (flJ (mJ M a) len v))) := by
  intro k
  induction k with
  | zero =>
    intro i h1
    refine wp_iload_n rfl (ck_get kk_Ar_fill_2 5 rfl) ?_
    refine wp_iload rfl (ck_get kk_Ar_fill_2 6 rfl) ?_
    first | refine wp_icmp_geN (t := 22) (ck_get kk_Ar_fill_2 7 rfl) (by decide) (by omega) (by omega) (fun hc9 => ?_) (fun hc9 => ?_) | refine wp_icmp_ge (t := 22) (ck_get kk_Ar_fill_2 7 rfl) (by decide) (fun hc9 => ?_) (fun hc9 => ?_)
    · refine wp_return (ck_get kk_Ar_fill_2 14 rfl) rfl ⟨rfl, ?_⟩
      subst h1; rfl
    · omega
  | succ k ih =>
    intro i h1
    refine wp_iload_n rfl (ck_get kk_Ar_fill_2 5 rfl) ?_
    refine wp_iload rfl (ck_get kk_Ar_fill_2 6 rfl) ?_
    first | refine wp_icmp_geN (t := 22) (ck_get kk_Ar_fill_2 7 rfl) (by decide) (by omega) (by omega) (fun hc9 => ?_) (fun hc9 => ?_) | refine wp_icmp_ge (t := 22) (ck_get kk_Ar_fill_2 7 rfl) (by decide) (fun hc9 => ?_) (fun hc9 => ?_)
    · omega
    · refine wp_aload_n rfl (ck_get kk_Ar_fill_2 8 rfl) ?_
      refine wp_iload_n rfl (ck_get kk_Ar_fill_2 9 rfl) ?_
      refine wp_lload_n rfl (ck_get kk_Ar_fill_2 10 rfl) ?_
      refine wp_last (ck_get kk_Ar_fill_2 11 rfl) (by assumption) (by first | assumption | exact ixk_nI (by omega) (by omega)) ?_
      first | refine wp_iincN (ck_get kk_Ar_fill_2 12 rfl) rfl (by decide) rfl ?_ | refine wp_iinc (ck_get kk_Ar_fill_2 12 rfl) rfl (by decide) rfl ?_
      refine wp_goto (t := 6) (ck_get kk_Ar_fill_2 13 rfl) (by decide) ?_
      have e := ih (i + 1) (by omega)
      rw [← flJ_succ] at e
      exact e
theorem c_fillJ {a len : Nat} {v : Int64} (hT : mT M a = (21, len)) (hl : len < 2147483648) : Cv g Y_Ar_fill_2 0 [.ref a, .long v] M (fun M2 => M2 = mk2 M (mI M) (up1 (mJ M) a (flJ (mJ M a) len v))) := by
  refine cw_entry 2 pf_Ar_fill_2 rfl ?_
  refine wp_iconst (v := nI 0) (by decide) (ck_get kk_Ar_fill_2 0 rfl) ?_
  refine wp_istore_n (ck_get kk_Ar_fill_2 1 rfl) (by decide) rfl ?_
  refine wp_aload_n rfl (ck_get kk_Ar_fill_2 2 rfl) ?_
  refine wp_alen (ck_get kk_Ar_fill_2 3 rfl) (by assumption) ?_
  refine wp_istore (ck_get kk_Ar_fill_2 4 rfl) (by decide) rfl ?_
  have e := l_fillJ (g := g) (v := v) hT hl len 0 (by omega)
  have e0 : up1 (mJ M) a (flJ (mJ M a) 0 v) = mJ M := by
    have : flJ (mJ M a) 0 v = mJ M a := by funext y; exact if_neg (by omega)
    rw [this, up1_self]
  rw [e0] at e
  exact e
end MA

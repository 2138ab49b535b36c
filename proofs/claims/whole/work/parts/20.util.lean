/-! ===== MissCurves: its small helpers ===== -/
/-- memory with other numbers -/
abbrev mk2 (M : Mem) (I : Nat → Nat → Int32) (J : Nat → Nat → Int64) : Mem := (M.1, M.2.1, I, J, M.2.2.2.2)
/-- whether a number lies within 0 .. n - 1 -/
def inB (t : Int32) (n : Nat) : Bool := decide (¬ t < 0) && decide (t < nI n)
def bI (b : Bool) : Int32 := if b then nI 1 else nI 0
theorem inB_t {t : Int32} {n : Nat} (h : inB t n = true) (hn : n < 2147483648) : ∃ k, k < n ∧ t = nI k := by
  simp only [inB, Bool.and_eq_true, decide_eq_true_eq] at h
  obtain ⟨k, hk, rfl⟩ := nI_of h.1
  exact ⟨k, (nI_ltI hk hn).mp h.2, rfl⟩
theorem inB_nI {k n : Nat} (h : k < n) (hn : n < 2147483648) : inB (nI k) n = true := by
  simp only [inB, Bool.and_eq_true, decide_eq_true_eq]
  exact ⟨nI_pos (by omega), (nI_ltI (by omega) hn).mpr h⟩
/-- where a key is in a row: 0 not there, else its place from 1 on -/
def fndF (f : Nat → Int32) (n : Nat) (key : Int32) : Nat → Nat → Nat
  | 0, _ => 0
  | k + 1, i => if i < n then (if f i = key then i + 1 else fndF f n key k (i + 1)) else 0
def fnd (f : Nat → Int32) (n : Nat) (key : Int32) : Nat := fndF f n key n 0
theorem fndF_congr {f f2 : Nat → Int32} {n : Nat} {key : Int32} (h : ∀ i, i < n → f i = f2 i) : ∀ k i, fndF f n key k i = fndF f2 n key k i
  | 0, i => rfl
  | k + 1, i => by
    unfold fndF
    by_cases hi : i < n
    · rw [if_pos hi, if_pos hi, h i hi, fndF_congr h k (i + 1)]
    · rw [if_neg hi, if_neg hi]
theorem fnd_congr {f f2 : Nat → Int32} {n : Nat} {key : Int32} (h : ∀ i, i < n → f i = f2 i) : fnd f n key = fnd f2 n key := fndF_congr h n 0
theorem fndF_le {f : Nat → Int32} {n : Nat} {key : Int32} : ∀ k i, fndF f n key k i ≤ n
  | 0, i => Nat.zero_le _
  | k + 1, i => by
    unfold fndF
    by_cases hi : i < n
    · rw [if_pos hi]
      by_cases h : f i = key
      · rw [if_pos h]; omega
      · rw [if_neg h]; exact fndF_le k (i + 1)
    · rw [if_neg hi]; exact Nat.zero_le _
theorem fnd_le {f : Nat → Int32} {n : Nat} {key : Int32} : fnd f n key ≤ n := fndF_le n 0
theorem fndF_at {f : Nat → Int32} {n : Nat} {key : Int32} : ∀ k i, fndF f n key k i ≠ 0 → i < fndF f n key k i ∧ f (fndF f n key k i - 1) = key
  | 0, i => by intro h; exact absurd rfl h
  | k + 1, i => by
    unfold fndF
    by_cases hi : i < n
    · rw [if_pos hi]
      by_cases h : f i = key
      · rw [if_pos h]; intro _; exact ⟨by omega, by simpa using h⟩
      · rw [if_neg h]; intro hz
        have := fndF_at k (i + 1) hz
        exact ⟨by omega, this.2⟩
    · rw [if_neg hi]; intro h; exact absurd rfl h
theorem fnd_at {f : Nat → Int32} {n : Nat} {key : Int32} (h : fnd f n key ≠ 0) : f (fnd f n key - 1) = key := (fndF_at n 0 h).2
theorem fndF_none {f : Nat → Int32} {n : Nat} {key : Int32} : ∀ k i, n ≤ i + k → fndF f n key k i = 0 → ∀ j, i ≤ j → j < n → f j ≠ key
  | 0, i, hk, _ => by intro j h1 h2; omega
  | k + 1, i, hk, hz => by
    intro j h1 h2
    unfold fndF at hz
    by_cases hi : i < n
    · rw [if_pos hi] at hz
      by_cases h : f i = key
      · rw [if_pos h] at hz; omega
      · rw [if_neg h] at hz
        by_cases hij : i = j
        · subst hij; exact h
        · exact fndF_none k (i + 1) (by omega) hz j (by omega) h2
    · omega
theorem fnd_none {f : Nat → Int32} {n : Nat} {key : Int32} (h : fnd f n key = 0) : ∀ j, j < n → f j ≠ key := fun j hj => fndF_none n 0 (by omega) h j (Nat.zero_le _) hj
section UT
variable {g : Gl} {M : Mem}
theorem c_isTenant {t : Int32} : Ci g Y_Mc_isTenant 0 [.int t] M (fun x M2 => x = bI (inB t 4) ∧ M2 = M) := by
  refine cw_entry 0 pf_Mc_isTenant rfl ?_
  refine wp_iload_n rfl (ck_get kk_Mc_isTenant 0 rfl) ?_
  first | refine wp_if_ltN (t := 13) (ck_get kk_Mc_isTenant 1 rfl) (by decide) (by omega) (fun hc1 => ?_) (fun hc1 => ?_) | refine wp_if_lt (t := 13) (ck_get kk_Mc_isTenant 1 rfl) (by decide) (fun hc1 => ?_) (fun hc1 => ?_)
  · refine wp_iconst (v := nI 0) (by decide) (ck_get kk_Mc_isTenant 7 rfl) ?_
    refine wp_ireturn (ck_get kk_Mc_isTenant 8 rfl) rfl rfl ⟨_, rfl, ?_⟩
    exact ⟨by simp [bI, inB, hc1], rfl⟩
  · refine wp_iload_n rfl (ck_get kk_Mc_isTenant 2 rfl) ?_
    refine wp_iconst (v := nI 4) (by decide) (ck_get kk_Mc_isTenant 3 rfl) ?_
    first | refine wp_icmp_geN (t := 13) (ck_get kk_Mc_isTenant 4 rfl) (by decide) (by omega) (by omega) (fun hc6 => ?_) (fun hc6 => ?_) | refine wp_icmp_ge (t := 13) (ck_get kk_Mc_isTenant 4 rfl) (by decide) (fun hc6 => ?_) (fun hc6 => ?_)
    · refine wp_iconst (v := nI 0) (by decide) (ck_get kk_Mc_isTenant 7 rfl) ?_
      refine wp_ireturn (ck_get kk_Mc_isTenant 8 rfl) rfl rfl ⟨_, rfl, ?_⟩
      have h6 : ¬ t < nI 4 := Int32.not_lt.mpr hc6
      exact ⟨by simp [bI, inB, h6], rfl⟩
    · refine wp_iconst (v := nI 1) (by decide) (ck_get kk_Mc_isTenant 5 rfl) ?_
      refine wp_goto (t := 14) (ck_get kk_Mc_isTenant 6 rfl) (by decide) ?_
      refine wp_ireturn (ck_get kk_Mc_isTenant 8 rfl) rfl rfl ⟨_, rfl, ?_⟩
      have h6 : t < nI 4 := Int32.not_le.mp hc6
      exact ⟨by simp [bI, inB, hc1, h6], rfl⟩
theorem c_isKey {t : Int32} : Ci g Y_Mc_isKey 0 [.int t] M (fun x M2 => x = bI (inB t 1000) ∧ M2 = M) := by
  refine cw_entry 0 pf_Mc_isKey rfl ?_
  refine wp_iload_n rfl (ck_get kk_Mc_isKey 0 rfl) ?_
  first | refine wp_if_ltN (t := 15) (ck_get kk_Mc_isKey 1 rfl) (by decide) (by omega) (fun hc1 => ?_) (fun hc1 => ?_) | refine wp_if_lt (t := 15) (ck_get kk_Mc_isKey 1 rfl) (by decide) (fun hc1 => ?_) (fun hc1 => ?_)
  · refine wp_iconst (v := nI 0) (by decide) (ck_get kk_Mc_isKey 7 rfl) ?_
    refine wp_ireturn (ck_get kk_Mc_isKey 8 rfl) rfl rfl ⟨_, rfl, ?_⟩
    exact ⟨by simp [bI, inB, hc1], rfl⟩
  · refine wp_iload_n rfl (ck_get kk_Mc_isKey 2 rfl) ?_
    refine wp_sipush (v := nI 1000) (by decide) (ck_get kk_Mc_isKey 3 rfl) ?_
    first | refine wp_icmp_geN (t := 15) (ck_get kk_Mc_isKey 4 rfl) (by decide) (by omega) (by omega) (fun hc8 => ?_) (fun hc8 => ?_) | refine wp_icmp_ge (t := 15) (ck_get kk_Mc_isKey 4 rfl) (by decide) (fun hc8 => ?_) (fun hc8 => ?_)
    · refine wp_iconst (v := nI 0) (by decide) (ck_get kk_Mc_isKey 7 rfl) ?_
      refine wp_ireturn (ck_get kk_Mc_isKey 8 rfl) rfl rfl ⟨_, rfl, ?_⟩
      have h6 : ¬ t < nI 1000 := Int32.not_lt.mpr hc8
      exact ⟨by simp [bI, inB, h6], rfl⟩
    · refine wp_iconst (v := nI 1) (by decide) (ck_get kk_Mc_isKey 5 rfl) ?_
      refine wp_goto (t := 16) (ck_get kk_Mc_isKey 6 rfl) (by decide) ?_
      refine wp_ireturn (ck_get kk_Mc_isKey 8 rfl) rfl rfl ⟨_, rfl, ?_⟩
      have h6 : t < nI 1000 := Int32.not_le.mp hc8
      exact ⟨by simp [bI, inB, hc1, h6], rfl⟩
theorem l_placeIn {a len sz : Nat} {key : Int32} (hT : mT M a = (20, len)) (hs : sz ≤ len) (hl : len < 2147483648) : ∀ k i, sz ≤ i + k → i ≤ sz → Wp g Y_Mc_placeIn 0 2 [some (.ref a), some (.int (nI sz)), some (.int key), some (.int (nI i))] [] M (fun r M2 => ∃ x, r = some (.int x) ∧ x = nI (fndF (mI M a) sz key k i) ∧ M2 = M) := by
  intro k
  induction k with
  | zero =>
    intro i h1 h2
    refine wp_iload_n rfl (ck_get kk_Mc_placeIn 2 rfl) ?_
    refine wp_iload_n rfl (ck_get kk_Mc_placeIn 3 rfl) ?_
    first | refine wp_icmp_geN (t := 24) (ck_get kk_Mc_placeIn 4 rfl) (by decide) (by omega) (by omega) (fun hc4 => ?_) (fun hc4 => ?_) | refine wp_icmp_ge (t := 24) (ck_get kk_Mc_placeIn 4 rfl) (by decide) (fun hc4 => ?_) (fun hc4 => ?_)
    · refine wp_iconst (v := nI 0) (by decide) (ck_get kk_Mc_placeIn 16 rfl) ?_
      refine wp_ireturn (ck_get kk_Mc_placeIn 17 rfl) rfl rfl ⟨_, rfl, ?_⟩
      exact ⟨rfl, rfl⟩
    · omega
  | succ k ih =>
    intro i h1 h2
    refine wp_iload_n rfl (ck_get kk_Mc_placeIn 2 rfl) ?_
    refine wp_iload_n rfl (ck_get kk_Mc_placeIn 3 rfl) ?_
    first | refine wp_icmp_geN (t := 24) (ck_get kk_Mc_placeIn 4 rfl) (by decide) (by omega) (by omega) (fun hc4 => ?_) (fun hc4 => ?_) | refine wp_icmp_ge (t := 24) (ck_get kk_Mc_placeIn 4 rfl) (by decide) (fun hc4 => ?_) (fun hc4 => ?_)
    · refine wp_iconst (v := nI 0) (by decide) (ck_get kk_Mc_placeIn 16 rfl) ?_
      refine wp_ireturn (ck_get kk_Mc_placeIn 17 rfl) rfl rfl ⟨_, rfl, ?_⟩
      exact ⟨by rw [fndF, if_neg (by omega)], rfl⟩
    · refine wp_aload_n rfl (ck_get kk_Mc_placeIn 5 rfl) ?_
      refine wp_iload_n rfl (ck_get kk_Mc_placeIn 6 rfl) ?_
      refine wp_iald (ck_get kk_Mc_placeIn 7 rfl) (by assumption) (by first | assumption | exact ixk_nI (by omega) (by omega)) ?_
      refine wp_iload_n rfl (ck_get kk_Mc_placeIn 8 rfl) ?_
      first | refine wp_icmp_neN (t := 18) (ck_get kk_Mc_placeIn 9 rfl) (by decide) (by omega) (by omega) (fun hc11 => ?_) (fun hc11 => ?_) | refine wp_icmp_ne (t := 18) (ck_get kk_Mc_placeIn 9 rfl) (by decide) (fun hc11 => ?_) (fun hc11 => ?_)
      · first | refine wp_iincN (ck_get kk_Mc_placeIn 14 rfl) rfl (by decide) rfl ?_ | refine wp_iinc (ck_get kk_Mc_placeIn 14 rfl) rfl (by decide) rfl ?_
        refine wp_goto (t := 2) (ck_get kk_Mc_placeIn 15 rfl) (by decide) ?_
        exact (ih (i + 1) (by omega) (by omega)).mono (fun r M2 ⟨x, e1, e2, e3⟩ => ⟨x, e1, by rw [e2, fndF, if_pos (by omega), if_neg hc11], e3⟩)
      · refine wp_iload_n rfl (ck_get kk_Mc_placeIn 10 rfl) ?_
        refine wp_iconst (v := nI 1) (by decide) (ck_get kk_Mc_placeIn 11 rfl) ?_
        first | refine wp_iaddN (ck_get kk_Mc_placeIn 12 rfl) ?_ | refine wp_iadd (ck_get kk_Mc_placeIn 12 rfl) ?_
        refine wp_ireturn (ck_get kk_Mc_placeIn 13 rfl) rfl rfl ⟨_, rfl, ?_⟩
        exact ⟨by rw [fndF, if_pos (by omega), if_pos hc11], rfl⟩
theorem c_placeIn {a len sz : Nat} {key : Int32} (hT : mT M a = (20, len)) (hs : sz ≤ len) (hl : len < 2147483648) : Ci g Y_Mc_placeIn 0 [.ref a, .int (nI sz), .int key] M (fun x M2 => x = nI (fnd (mI M a) sz key) ∧ M2 = M) := by
  refine cw_entry 1 pf_Mc_placeIn rfl ?_
  refine wp_iconst (v := nI 0) (by decide) (ck_get kk_Mc_placeIn 0 rfl) ?_
  refine wp_istore_n (ck_get kk_Mc_placeIn 1 rfl) (by decide) rfl ?_
  exact l_placeIn hT hs hl sz 0 (by omega) (by omega)
/-- a key comes first in a row; those ahead of the hole go one place on -/
def shf (f : Nat → Int32) (hole : Nat) (key : Int32) (i : Nat) : Int32 := if i = 0 then key else if i ≤ hole then f (i - 1) else f i
theorem c_putFirst {a len hole : Nat} {key : Int32} (hT : mT M a = (20, len)) (hs : hole < len) (hl : len < 2147483648) : Cv g Y_Mc_putFirst 1 [.ref a, .int (nI hole), .int key] M (fun M2 => M2 = mk2 M (up1 (mI M) a (shf (mI M a) hole key)) (mJ M)) := by
  refine cw_entry 0 pf_Mc_putFirst rfl ?_
  refine wp_aload_n rfl (ck_get kk_Mc_putFirst 0 rfl) ?_
  refine wp_iconst (v := nI 0) (by decide) (ck_get kk_Mc_putFirst 1 rfl) ?_
  refine wp_aload_n rfl (ck_get kk_Mc_putFirst 2 rfl) ?_
  refine wp_iconst (v := nI 1) (by decide) (ck_get kk_Mc_putFirst 3 rfl) ?_
  refine wp_iload_n rfl (ck_get kk_Mc_putFirst 4 rfl) ?_
  refine wp_copyI (sp := 0) (dp := 1) (k := hole) (ck_get kk_Mc_putFirst 5 rfl) ak_Mc_397 hT hT (nnk_nI (by decide)) (nnk_nI (by decide)) (nnk_nI (by omega)) (by omega) (by omega) (by omega) (Nat.le_of_ble_eq_true rfl) ?_
  refine wp_aload_n rfl (ck_get kk_Mc_putFirst 6 rfl) ?_
  refine wp_iconst (v := nI 0) (by decide) (ck_get kk_Mc_putFirst 7 rfl) ?_
  refine wp_iload_n rfl (ck_get kk_Mc_putFirst 8 rfl) ?_
  refine wp_iast (ck_get kk_Mc_putFirst 9 rfl) (by assumption) (ixk_nI (k := 0) (by omega) (by omega)) ?_
  refine wp_return (ck_get kk_Mc_putFirst 10 rfl) rfl ⟨rfl, ?_⟩
  have e : up2 (fun x y => if x = a ∧ 1 ≤ y ∧ y < 1 + hole then mI M a (0 + (y - 1)) else mI M x y) a 0 key = up1 (mI M) a (shf (mI M a) hole key) := by
    funext x y
    unfold up2 up1 shf
    by_cases hx : x = a
    · subst hx
      simp only [true_and, if_true]
      by_cases hy : y = 0
      · rw [if_pos hy, if_pos hy]
      · rw [if_neg hy, if_neg hy]
        by_cases hy2 : y ≤ hole
        · rw [if_pos (by omega), if_pos hy2, Nat.zero_add]
        · rw [if_neg (by omega), if_neg hy2]
    · simp [hx]
  exact congrArg (fun I => mk2 M I (mJ M)) e
/-- the hash of a key by a salt -/
def hsh (key salt : Nat) : Nat := (617 * key + salt) % 1000
theorem c_hashOf {key salt : Nat} (h1 : key < 1000) (h2 : salt < 1000) : Ci g Y_Mc_hashOf 0 [.int (nI key), .int (nI salt)] M (fun x M2 => x = nI (hsh key salt) ∧ M2 = M) := by
  refine cw_entry 0 pf_Mc_hashOf rfl ?_
  refine wp_sipush (v := nI 617) (by decide) (ck_get kk_Mc_hashOf 0 rfl) ?_
  refine wp_iload_n rfl (ck_get kk_Mc_hashOf 1 rfl) ?_
  first | refine wp_imulN (ck_get kk_Mc_hashOf 2 rfl) ?_ | refine wp_imul (ck_get kk_Mc_hashOf 2 rfl) ?_
  refine wp_iload_n rfl (ck_get kk_Mc_hashOf 3 rfl) ?_
  first | refine wp_iaddN (ck_get kk_Mc_hashOf 4 rfl) ?_ | refine wp_iadd (ck_get kk_Mc_hashOf 4 rfl) ?_
  refine wp_sipush (v := nI 1000) (by decide) (ck_get kk_Mc_hashOf 5 rfl) ?_
  first | refine wp_iremN (ck_get kk_Mc_hashOf 6 rfl) (by omega) (by omega) (by omega) ?_ | refine wp_irem (by decide) (ck_get kk_Mc_hashOf 6 rfl) ?_
  refine wp_ireturn (ck_get kk_Mc_hashOf 7 rfl) rfl rfl ⟨_, rfl, ?_⟩
  exact ⟨rfl, rfl⟩
end UT

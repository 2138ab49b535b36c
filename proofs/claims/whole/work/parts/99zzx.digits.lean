/-! ===== numbers as signs ===== -/
section DGT
def dl : Nat → Nat → List Nat
  | 0, _ => []
  | f + 1, n => if n < 10 then [48 + n] else dl f (n / 10) ++ [48 + n % 10]
def dg (n : Nat) : List Nat := dl 10 n
theorem dl_lt {f n : Nat} (h : n < 10) : dl (f + 1) n = [48 + n] := if_pos h
theorem dl_ge {f n : Nat} (h : ¬ n < 10) : dl (f + 1) n = dl f (n / 10) ++ [48 + n % 10] := if_neg h
theorem dl_up : ∀ f n, n < 10 ^ (f + 1) → dl (f + 2) n = dl (f + 1) n := by
  intro f
  induction f with
  | zero =>
    intro n h
    have h1 : n < 10 := h
    rw [dl_lt h1, dl_lt h1]
  | succ f ih =>
    intro n h
    by_cases c : n < 10
    · rw [dl_lt c, dl_lt c]
    · rw [dl_ge c, dl_ge (f := f + 1) c, ih (n / 10) (by rw [Nat.pow_succ] at h; omega)]
theorem dg_lt {n : Nat} (h : n < 10) : dg n = [48 + n] := dl_lt h
theorem dg_ge {n : Nat} (h : ¬ n < 10) (h2 : n < 10000000000) : dg n = dg (n / 10) ++ [48 + n % 10] := by
  unfold dg
  rw [dl_ge (f := 9) h, dl_up 8 (n / 10) (by show n / 10 < 1000000000; omega)]
theorem dg_100 {n : Nat} (h : 100 ≤ n) (h2 : n < 10000000000) : dg n = dg (n / 100) ++ [48 + n % 100 / 10] ++ [48 + n % 100 % 10] := by
  rw [dg_ge (by omega) h2, dg_ge (n := n / 10) (by omega) (by omega)]
  rw [show n / 10 / 10 = n / 100 by omega, show n / 10 % 10 = n % 100 / 10 by omega, show n % 10 = n % 100 % 10 by omega]
theorem dl_len : ∀ i f n, i ≤ f → 1 ≤ i → n < 10 ^ i → (i = 1 ∨ 10 ^ (i - 1) ≤ n) → (dl f n).length = i := by
  intro i
  induction i with
  | zero => intro f n h1 h2 h3 h4; omega
  | succ i ih =>
    intro f n h1 h2 h3 h4
    obtain ⟨f, rfl⟩ : ∃ q, f = q + 1 := ⟨f - 1, by omega⟩
    by_cases c : i = 0
    · subst c
      rw [dl_lt (by simpa using h3)]; rfl
    · obtain ⟨j, rfl⟩ : ∃ q, i = q + 1 := ⟨i - 1, by omega⟩
      have h5 : 10 ^ (j + 1) ≤ n := by
        rcases h4 with h4 | h4
        · omega
        · exact h4
      have h6 : 1 ≤ 10 ^ j := Nat.one_le_pow _ _ (by omega)
      rw [Nat.pow_succ] at h5 h3
      rw [Nat.pow_succ] at h3
      rw [dl_ge (by omega), List.length_append, ih f (n / 10) (by omega) (by omega) (by rw [Nat.pow_succ]; omega) (Or.inr (by show 10 ^ j ≤ n / 10; omega))]
      rfl
theorem dg_len {i n : Nat} (h0 : i ≤ 10) (h1 : 1 ≤ i) (h : n < 10 ^ i) (h2 : i = 1 ∨ 10 ^ (i - 1) ≤ n) : (dg n).length = i := dl_len i 10 n h0 h1 h h2
theorem dl_c : ∀ f n, ∀ c ∈ dl f n, 48 ≤ c ∧ c < 58 := by
  intro f
  induction f with
  | zero => intro n c h; exact absurd h (by simp [dl])
  | succ f ih =>
    intro n c h
    by_cases q : n < 10
    · rw [dl_lt q] at h
      have := List.mem_singleton.mp h
      omega
    · rw [dl_ge q] at h
      rcases List.mem_append.mp h with h | h
      · exact ih _ c h
      · have := List.mem_singleton.mp h
        omega
theorem dl_le : ∀ f n, (dl f n).length ≤ f := by
  intro f
  induction f with
  | zero => intro n; exact Nat.le_refl 0
  | succ f ih =>
    intro n
    by_cases q : n < 10
    · rw [dl_lt q]; exact Nat.succ_le_succ (Nat.zero_le _)
    · rw [dl_ge q, List.length_append]
      have := ih (n / 10)
      exact Nat.succ_le_succ this
theorem dg_c {n c : Nat} (h : c ∈ dg n) : 48 ≤ c ∧ c < 58 := dl_c 10 n c h
theorem dg_le (n : Nat) : (dg n).length ≤ 10 := dl_le 10 n
theorem dg_pos (n : Nat) : 1 ≤ (dg n).length := by
  by_cases q : n < 10
  · rw [dg_lt q]; exact Nat.le_refl 1
  · show 1 ≤ (dl 10 n).length
    rw [dl_ge (f := 9) q, List.length_append]; exact Nat.le_add_left 1 _
theorem dg_2 {n : Nat} (h : n < 100) : (dg n).length ≤ 2 := by
  by_cases q : n < 10
  · rw [dg_lt q]; exact Nat.le_succ 1
  · rw [dg_ge q (by omega), dg_lt (by omega)]; exact Nat.le_refl 2
/-- these signs written from s on -/
def wrF (f : Nat → Int32) (s : Nat) (l : List Nat) : Nat → Int32 := fun j => if s ≤ j ∧ j < s + l.length then nI (l.getD (j - s) 0) else f j
theorem wrF_nil (f : Nat → Int32) (s : Nat) : wrF f s [] = f := by
  funext j
  exact if_neg (fun h => by have : j < s + 0 := h.2; omega)
theorem gd_l {l l2 : List Nat} {i : Nat} (h : i < l.length) : (l ++ l2).getD i 0 = l.getD i 0 := by
  rw [List.getD_eq_getElem?_getD, List.getD_eq_getElem?_getD, List.getElem?_append_left h]
theorem gd_r {l : List Nat} {a i : Nat} (h : i = l.length) : (l ++ [a]).getD i 0 = a := by
  subst h
  rw [List.getD_eq_getElem?_getD, List.getElem?_append_right (Nat.le_refl _), Nat.sub_self]; rfl
theorem wrF_st {f : Nat → Int32} {s a : Nat} {l : List Nat} : wrF (up1 f (s + l.length) (nI a)) s l = wrF f s (l ++ [a]) := by
  funext j
  have e : (l ++ [a]).length = l.length + 1 := by rw [List.length_append]; rfl
  unfold wrF
  rw [e]
  by_cases c : s ≤ j ∧ j < s + l.length
  · rw [if_pos c, if_pos ⟨c.1, by omega⟩, gd_l (by omega)]
  · rw [if_neg c]
    by_cases d : j = s + l.length
    · subst d
      rw [up1_eq, if_pos ⟨by omega, by omega⟩, gd_r (by omega)]
    · rw [up1_ne d, if_neg (fun q => by omega)]
theorem wrF_app {f : Nat → Int32} {s : Nat} {l r : List Nat} : wrF (wrF f s l) (s + l.length) r = wrF f s (l ++ r) := by
  funext j
  unfold wrF
  rw [List.length_append]
  by_cases c : s + l.length ≤ j ∧ j < s + l.length + r.length
  · rw [if_pos c, if_pos ⟨by omega, by omega⟩, List.getD_eq_getElem?_getD, List.getD_eq_getElem?_getD, List.getElem?_append_right (by omega), show j - s - l.length = j - (s + l.length) by omega]
  · rw [if_neg c]
    by_cases d : s ≤ j ∧ j < s + l.length
    · rw [if_pos d, if_pos ⟨d.1, by omega⟩, gd_l (by omega)]
    · rw [if_neg d, if_neg (fun q => by omega)]
theorem wrF_at {f : Nat → Int32} {s i : Nat} {l : List Nat} (h : i < l.length) : wrF f s l (s + i) = nI (l.getD i 0) := by
  unfold wrF
  rw [if_pos ⟨by omega, by omega⟩, show s + i - s = i by omega]
theorem wrF_lo {f : Nat → Int32} {s j : Nat} {l : List Nat} (h : j < s) : wrF f s l j = f j := if_neg (fun q => by omega)
theorem ng_toInt {a : Nat} (h : a < 2147483648) : (-nI a).toInt = -(a : Int) := by
  rw [Int32.toInt_neg, nI_toInt h, Int.bmod_def]
  split <;> omega
theorem ng_le {a b : Nat} (ha : a < 2147483648) (hb : b < 2147483648) : -nI a ≤ -nI b ↔ b ≤ a := by
  rw [Int32.le_iff_toInt_le, ng_toInt ha, ng_toInt hb]
  omega
theorem ng_lt {a b : Nat} (ha : a < 2147483648) (hb : b < 2147483648) : -nI a < -nI b ↔ b < a := by
  rw [Int32.lt_iff_toInt_lt, ng_toInt ha, ng_toInt hb]
  omega
theorem ng_div {m : Nat} (h : m < 2147483648) : -nI m / nI 100 = -nI (m / 100) := by
  refine Int32.toInt_inj.mp ?_
  rw [Int32.toInt_div, ng_toInt h, ng_toInt (by omega), show (nI 100).toInt = 100 by decide, Int.neg_tdiv, show ((m : Int).tdiv 100) = ((m / 100 : Nat) : Int) from rfl, Int.bmod_def]
  split <;> omega
theorem ng_mul (m k : Nat) : nI k * -nI m = -nI (k * m) := by
  rw [Int32.mul_neg]
  congr 1
  exact (Int32.ofNat_mul k m).symm
theorem ng_rem (m : Nat) : -nI (m / 100) * nI 100 - -nI m = nI (m % 100) := by
  rw [Int32.mul_comm, ng_mul, Int32.sub_eq_add_neg, Int32.neg_neg]
  have h : nI m = nI (100 * (m / 100)) + nI (m % 100) := by
    rw [show nI (100 * (m / 100)) + nI (m % 100) = nI (100 * (m / 100) + m % 100) from (Int32.ofNat_add _ _).symm]
    congr 1
    omega
  rw [h, ← Int32.add_assoc, Int32.add_left_neg, Int32.zero_add]
theorem nI_dec' (q : Nat) : nI (q + 1) + Int32.ofInt (-1) = nI q := by
  rw [← nI_inc q, Int32.add_assoc, show Int32.ofInt 1 + Int32.ofInt (-1) = 0 by decide, Int32.add_zero]
theorem b8 {b : Nat} (h : b < 128) : (nI b).toInt8.toInt32 = nI b := (sgb_t b (by omega)).1 h
theorem sub_le0 {a b : Nat} (h : a ≤ b) (hb : b < 2147483648) : nI a - nI b ≤ 0 := by
  rcases Nat.lt_or_ge a b with q | q
  · exact Int32.le_of_lt (nI_sub_neg hb q)
  · obtain rfl : a = b := by omega
    rw [Int32.sub_self]; exact Int32.le_refl 0
variable {g : Gl} {M : Mem}
/-- Integer's two tables of digits -/
def DgOK (g : Gl) : Prop := ∀ U, gl_E g U → va_Z "java/lang/Integer" "DigitOnes" "[B" (.ref (gl_ext g 91)) (aOut g) U (gl_H g) ∧ va_T .byte (gl_ext g 91) 100 (fun j => .int (nI (48 + j % 10))) (aOut g) U (gl_H g) ∧ va_Z "java/lang/Integer" "DigitTens" "[B" (.ref (gl_ext g 92)) (aOut g) U (gl_H g) ∧ va_T .byte (gl_ext g 92) 100 (fun j => .int (nI (48 + j / 10))) (aOut g) U (gl_H g)
theorem l_ss {n : Nat} (hn : n < 2147483648) : ∀ k i (p : Int32), i + k = 10 → 1 ≤ i → p = -nI (10 ^ i) → (i = 1 ∨ 10 ^ (i - 1) ≤ n) → Wp g Y_In_stringSize 0 16 [some (.int (-nI n)), some (.int (nI 0)), some (.int p), some (.int (nI i))] [] M (fun r M2 => ∃ x, r = some (.int x) ∧ x = nI (dg n).length ∧ M2 = M) := by
  intro k
  induction k with
  | zero =>
    intro i p h1 h2 h3 h4
    obtain rfl : i = 10 := by omega
    refine wp_iload_n rfl (ck_get kk_In_stringSize 13 rfl) ?_
    refine wp_bipush (v := nI 10) (by decide) (ck_get kk_In_stringSize 14 rfl) ?_
    first | refine wp_icmp_geN (t := 42) (ck_get kk_In_stringSize 15 rfl) (by decide) (by omega) (by omega) (fun hc19 => ?_) (fun hc19 => ?_) | refine wp_icmp_ge (t := 42) (ck_get kk_In_stringSize 15 rfl) (by decide) (fun hc19 => ?_) (fun hc19 => ?_)
    · refine wp_bipush (v := nI 10) (by decide) (ck_get kk_In_stringSize 29 rfl) ?_
      refine wp_iload_n rfl (ck_get kk_In_stringSize 30 rfl) ?_
      first | refine wp_iaddN (ck_get kk_In_stringSize 31 rfl) ?_ | refine wp_iadd (ck_get kk_In_stringSize 31 rfl) ?_
      refine wp_ireturn (ck_get kk_In_stringSize 32 rfl) rfl rfl ⟨_, rfl, ?_⟩
      exact ⟨by rw [dg_len (i := 10) (by omega) (by omega) (by show n < 10000000000; omega) h4], rfl⟩
    · omega
  | succ k ih =>
    intro i p h1 h2 h3 h4
    have hp : 10 ^ i < 2147483648 := Nat.lt_of_le_of_lt (Nat.pow_le_pow_right (by omega) (show i ≤ 9 by omega)) (by decide)
    subst h3
    refine wp_iload_n rfl (ck_get kk_In_stringSize 13 rfl) ?_
    refine wp_bipush (v := nI 10) (by decide) (ck_get kk_In_stringSize 14 rfl) ?_
    first | refine wp_icmp_geN (t := 42) (ck_get kk_In_stringSize 15 rfl) (by decide) (by omega) (by omega) (fun hc19 => ?_) (fun hc19 => ?_) | refine wp_icmp_ge (t := 42) (ck_get kk_In_stringSize 15 rfl) (by decide) (fun hc19 => ?_) (fun hc19 => ?_)
    · omega
    · refine wp_iload_n rfl (ck_get kk_In_stringSize 16 rfl) ?_
      refine wp_iload_n rfl (ck_get kk_In_stringSize 17 rfl) ?_
      first | refine wp_icmp_leN (t := 31) (ck_get kk_In_stringSize 18 rfl) (by decide) (by omega) (by omega) (fun hc24 => ?_) (fun hc24 => ?_) | refine wp_icmp_le (t := 31) (ck_get kk_In_stringSize 18 rfl) (by decide) (fun hc24 => ?_) (fun hc24 => ?_)
      · refine wp_bipush (v := nI 10) (by decide) (ck_get kk_In_stringSize 23 rfl) ?_
        refine wp_iload_n rfl (ck_get kk_In_stringSize 24 rfl) ?_
        refine wp_imul (ck_get kk_In_stringSize 25 rfl) ?_
        rw [ng_mul, show 10 * 10 ^ i = 10 ^ (i + 1) by rw [Nat.pow_succ, Nat.mul_comm]]
        refine wp_istore_n (ck_get kk_In_stringSize 26 rfl) (by decide) rfl ?_
        first | refine wp_iincN (ck_get kk_In_stringSize 27 rfl) rfl (by decide) rfl ?_ | refine wp_iinc (ck_get kk_In_stringSize 27 rfl) rfl (by decide) rfl ?_
        refine wp_goto (t := 16) (ck_get kk_In_stringSize 28 rfl) (by decide) ?_
        exact ih (i + 1) _ (by omega) (by omega) rfl (Or.inr ((ng_le hn hp).mp hc24))
      · refine wp_iload_n rfl (ck_get kk_In_stringSize 19 rfl) ?_
        refine wp_iload_n rfl (ck_get kk_In_stringSize 20 rfl) ?_
        first | refine wp_iaddN (ck_get kk_In_stringSize 21 rfl) ?_ | refine wp_iadd (ck_get kk_In_stringSize 21 rfl) ?_
        refine wp_ireturn (ck_get kk_In_stringSize 22 rfl) rfl rfl ⟨_, rfl, ?_⟩
        exact ⟨by rw [dg_len (i := i) (by omega) h2 (by have := mt (ng_le hn hp).mpr hc24; omega) h4]; rfl, rfl⟩
theorem c_stringSize {n : Nat} (hn : n < 2147483648) : Ci g Y_In_stringSize 0 [.int (nI n)] M (fun x M2 => x = nI (dg n).length ∧ M2 = M) := by
  refine cw_entry 3 pf_In_stringSize rfl ?_
  refine wp_iconst (v := nI 1) (by decide) (ck_get kk_In_stringSize 0 rfl) ?_
  refine wp_istore_n (ck_get kk_In_stringSize 1 rfl) (by decide) rfl ?_
  refine wp_iload_n rfl (ck_get kk_In_stringSize 2 rfl) ?_
  first | refine wp_if_ltN (t := 11) (ck_get kk_In_stringSize 3 rfl) (by decide) (by omega) (fun hc3 => ?_) (fun hc3 => ?_) | refine wp_if_lt (t := 11) (ck_get kk_In_stringSize 3 rfl) (by decide) (fun hc3 => ?_) (fun hc3 => ?_)
  · exact hc3.elim
  · refine wp_iconst (v := nI 0) (by decide) (ck_get kk_In_stringSize 4 rfl) ?_
    refine wp_istore_n (ck_get kk_In_stringSize 5 rfl) (by decide) rfl ?_
    refine wp_iload_n rfl (ck_get kk_In_stringSize 6 rfl) ?_
    refine wp_ineg (ck_get kk_In_stringSize 7 rfl) ?_
    refine wp_istore_n (ck_get kk_In_stringSize 8 rfl) (by decide) rfl ?_
    refine wp_bipush (v := (-10)) (by decide) (ck_get kk_In_stringSize 9 rfl) ?_
    refine wp_istore_n (ck_get kk_In_stringSize 10 rfl) (by decide) rfl ?_
    refine wp_iconst (v := nI 1) (by decide) (ck_get kk_In_stringSize 11 rfl) ?_
    refine wp_istore_n (ck_get kk_In_stringSize 12 rfl) (by decide) rfl ?_
    exact l_ss hn 9 1 _ rfl (Nat.le_refl 1) (by decide) (Or.inl rfl)
theorem bv_st {v k : Nat} {f : Nat → Int32} {x : Int32} : sI (mk2 M (up1 (mI M) v f) (mJ M)) v k x = mk2 M (up1 (mI M) v (up1 f k x)) (mJ M) := by
  refine mk2_ext (M := M) ?_ rfl
  show up2 (up1 (mI M) v f) v k x = _
  rw [up2_up1, up1_up1, up1_eq]
theorem l_gc {v cap s e : Nat} (hD : DgOK g) (hT : mT M v = (22, cap)) (hcap : cap ≤ 1000) {Q : Option Value → Mem → Prop} : ∀ m f (x3 x4 : Option Value) N, (x4 = none ∨ ∃ y, x4 = some (.int y)) → m < 2147483648 → s + (dg m).length ≤ cap → N = mk2 M (up1 (mI M) v f) (mJ M) →
    (∀ x0 y3 y4, Wp g Y_In_getChars 0 104 [x0, some (.int (nI e)), some (.ref v), y3, y4, some (.int (nI s)), some (.int (nI 0))] [] (mk2 M (up1 (mI M) v (wrF f s (dg m))) (mJ M)) Q) →
    Wp g Y_In_getChars 0 22 [some (.int (-nI m)), some (.int (nI e)), some (.ref v), x3, x4, some (.int (nI (s + (dg m).length))), some (.int (nI 0))] [] N Q := by
  intro m
  induction m using Nat.strongRecOn with
  | ind m ih =>
    intro f x3 x4 N hx4 hm hs hN Kc
    subst hN
    rcases Nat.lt_or_ge m 100 with c | c
    · rcases Nat.lt_or_ge m 10 with d | d
      · have e1 : dg m = [48 + m] := dg_lt d
        rw [e1] at hs Kc ⊢
        have hs1 : s + 1 ≤ cap := hs
        have hw : wrF f s [48 + m] = up1 f s (nI (48 + m)) := by
          have := wrF_st (f := f) (s := s) (a := 48 + m) (l := [])
          rw [wrF_nil] at this
          exact this.symm
        rw [hw] at Kc
        show Wp g Y_In_getChars 0 22 [some (.int (-nI m)), some (.int (nI e)), some (.ref v), x3, x4, some (.int (nI (s + 1))), some (.int (nI 0))] [] _ Q
        refine wp_iload_n rfl (ck_get kk_In_getChars 13 rfl) ?_
        refine wp_bipush (v := (-100)) (by decide) (ck_get kk_In_getChars 14 rfl) ?_
        first | refine wp_icmp_gtN (t := 72) (ck_get kk_In_getChars 15 rfl) (by decide) (by omega) (by omega) (fun hc25 => ?_) (fun hc25 => ?_) | refine wp_icmp_gt (t := 72) (ck_get kk_In_getChars 15 rfl) (by decide) (fun hc25 => ?_) (fun hc25 => ?_)
        · refine wp_aload_n rfl (ck_get kk_In_getChars 43 rfl) ?_
          refine wp_iincD (ck_get kk_In_getChars 44 rfl) rfl (by decide) (by rcases hx4 with rfl | ⟨y, rfl⟩ <;> rfl) ?_
          refine wp_iload rfl (ck_get kk_In_getChars 45 rfl) ?_
          refine wp_gets (v := .retAddr 91) (fun U hU => (hD U hU).1) rfl xf_In_83 (ck_get kk_In_getChars 46 rfl) ?_
          refine wp_iload_n rfl (ck_get kk_In_getChars 47 rfl) ?_
          refine wp_ineg (ck_get kk_In_getChars 48 rfl) ?_
          rw [Int32.neg_neg]
          refine wp_baldX (f := fun j => nI (48 + j % 10)) (k0 := m) (fun U hU => (hD U hU).2.1) (ck_get kk_In_getChars 49 rfl) (ixk_nI (by omega) (by omega)) ?_
          first | refine wp_bast (ck_get kk_In_getChars 50 rfl) (by assumption) (ixk_nI (k := s) (by omega) (by omega)) ?_ | refine wp_zast (ck_get kk_In_getChars 50 rfl) (by assumption) (ixk_nI (k := s) (by omega) (by omega)) ?_
          rw [show m % 10 = m by omega, b8 (by omega), bv_st]
          refine wp_iload_n rfl (ck_get kk_In_getChars 51 rfl) ?_
          refine wp_bipush (v := (-9)) (by decide) (ck_get kk_In_getChars 52 rfl) ?_
          first | refine wp_icmp_geN (t := 104) (ck_get kk_In_getChars 53 rfl) (by decide) (by omega) (by omega) (fun hc88 => ?_) (fun hc88 => ?_) | refine wp_icmp_ge (t := 104) (ck_get kk_In_getChars 53 rfl) (by decide) (fun hc88 => ?_) (fun hc88 => ?_)
          · exact Kc _ _ _
          · exact absurd ((ng_lt (b := 9) hm (by decide)).mp (Int32.not_le.mp hc88)) (by omega)
        · exact absurd ((ng_le (b := 100) hm (by decide)).mp (Int32.not_lt.mp hc25)) (by omega)
      · have e1 : dg m = [48 + m / 10] ++ [48 + m % 10] := by rw [dg_ge (by omega) (by omega), dg_lt (by omega)]
        rw [e1] at hs Kc ⊢
        have hs1 : s + 2 ≤ cap := hs
        have hw : wrF f s ([48 + m / 10] ++ [48 + m % 10]) = up1 (up1 f (s + 1) (nI (48 + m % 10))) s (nI (48 + m / 10)) := by
          have := wrF_st (f := up1 f (s + 1) (nI (48 + m % 10))) (s := s) (a := 48 + m / 10) (l := [])
          rw [wrF_nil] at this
          rw [← wrF_st (l := [48 + m / 10])]
          exact this.symm
        rw [hw] at Kc
        show Wp g Y_In_getChars 0 22 [some (.int (-nI m)), some (.int (nI e)), some (.ref v), x3, x4, some (.int (nI (s + 2))), some (.int (nI 0))] [] _ Q
        refine wp_iload_n rfl (ck_get kk_In_getChars 13 rfl) ?_
        refine wp_bipush (v := (-100)) (by decide) (ck_get kk_In_getChars 14 rfl) ?_
        first | refine wp_icmp_gtN (t := 72) (ck_get kk_In_getChars 15 rfl) (by decide) (by omega) (by omega) (fun hc25 => ?_) (fun hc25 => ?_) | refine wp_icmp_gt (t := 72) (ck_get kk_In_getChars 15 rfl) (by decide) (fun hc25 => ?_) (fun hc25 => ?_)
        · refine wp_aload_n rfl (ck_get kk_In_getChars 43 rfl) ?_
          refine wp_iincD (ck_get kk_In_getChars 44 rfl) rfl (by decide) (by rcases hx4 with rfl | ⟨y, rfl⟩ <;> rfl) ?_
          refine wp_iload rfl (ck_get kk_In_getChars 45 rfl) ?_
          refine wp_gets (v := .retAddr 91) (fun U hU => (hD U hU).1) rfl xf_In_83 (ck_get kk_In_getChars 46 rfl) ?_
          refine wp_iload_n rfl (ck_get kk_In_getChars 47 rfl) ?_
          refine wp_ineg (ck_get kk_In_getChars 48 rfl) ?_
          rw [Int32.neg_neg]
          refine wp_baldX (f := fun j => nI (48 + j % 10)) (k0 := m) (fun U hU => (hD U hU).2.1) (ck_get kk_In_getChars 49 rfl) (ixk_nI (by omega) (by omega)) ?_
          first | refine wp_bast (ck_get kk_In_getChars 50 rfl) (by assumption) (ixk_nI (k := s + 1) (by omega) (by omega)) ?_ | refine wp_zast (ck_get kk_In_getChars 50 rfl) (by assumption) (ixk_nI (k := s + 1) (by omega) (by omega)) ?_
          rw [b8 (by omega), bv_st]
          refine wp_iload_n rfl (ck_get kk_In_getChars 51 rfl) ?_
          refine wp_bipush (v := (-9)) (by decide) (ck_get kk_In_getChars 52 rfl) ?_
          first | refine wp_icmp_geN (t := 104) (ck_get kk_In_getChars 53 rfl) (by decide) (by omega) (by omega) (fun hc88 => ?_) (fun hc88 => ?_) | refine wp_icmp_ge (t := 104) (ck_get kk_In_getChars 53 rfl) (by decide) (fun hc88 => ?_) (fun hc88 => ?_)
          · exact absurd ((ng_le (a := 9) (b := m) (by decide) hm).mp hc88) (by omega)
          · refine wp_aload_n rfl (ck_get kk_In_getChars 54 rfl) ?_
            refine wp_iincD (ck_get kk_In_getChars 55 rfl) rfl (by decide) (by rcases hx4 with rfl | ⟨y, rfl⟩ <;> rfl) ?_
            refine wp_iload rfl (ck_get kk_In_getChars 56 rfl) ?_
            refine wp_gets (v := .retAddr 92) (fun U hU => (hD U hU).2.2.1) rfl xf_In_87 (ck_get kk_In_getChars 57 rfl) ?_
            refine wp_iload_n rfl (ck_get kk_In_getChars 58 rfl) ?_
            refine wp_ineg (ck_get kk_In_getChars 59 rfl) ?_
            rw [Int32.neg_neg]
            refine wp_baldX (f := fun j => nI (48 + j / 10)) (k0 := m) (fun U hU => (hD U hU).2.2.2) (ck_get kk_In_getChars 60 rfl) (ixk_nI (by omega) (by omega)) ?_
            first | refine wp_bast (ck_get kk_In_getChars 61 rfl) (by assumption) (ixk_nI (k := s) (by omega) (by omega)) ?_ | refine wp_zast (ck_get kk_In_getChars 61 rfl) (by assumption) (ixk_nI (k := s) (by omega) (by omega)) ?_
            rw [b8 (by omega), bv_st]
            exact Kc _ _ _
        · exact absurd ((ng_le (b := 100) hm (by decide)).mp (Int32.not_lt.mp hc25)) (by omega)
    · have e1 : dg m = dg (m / 100) ++ [48 + m % 100 / 10] ++ [48 + m % 100 % 10] := dg_100 c (by omega)
      have e2 : (dg m).length = (dg (m / 100)).length + 2 := by rw [e1, List.length_append, List.length_append]; rfl
      have hw : wrF f s (dg m) = wrF (up1 (up1 f (s + (dg (m / 100)).length + 1) (nI (48 + m % 100 % 10))) (s + (dg (m / 100)).length) (nI (48 + m % 100 / 10))) s (dg (m / 100)) := by
        rw [wrF_st, e1, ← wrF_st (l := dg (m / 100) ++ [48 + m % 100 / 10]), List.length_append]
        rfl
      rw [hw] at Kc
      rw [e2] at hs ⊢
      show Wp g Y_In_getChars 0 22 [some (.int (-nI m)), some (.int (nI e)), some (.ref v), x3, x4, some (.int (nI (s + (dg (m / 100)).length + 2))), some (.int (nI 0))] [] _ Q
      have hih := ih (m / 100) (by omega)
      generalize (dg (m / 100)).length = L at *
      refine wp_iload_n rfl (ck_get kk_In_getChars 13 rfl) ?_
      refine wp_bipush (v := (-100)) (by decide) (ck_get kk_In_getChars 14 rfl) ?_
      first | refine wp_icmp_gtN (t := 72) (ck_get kk_In_getChars 15 rfl) (by decide) (by omega) (by omega) (fun hc25 => ?_) (fun hc25 => ?_) | refine wp_icmp_gt (t := 72) (ck_get kk_In_getChars 15 rfl) (by decide) (fun hc25 => ?_) (fun hc25 => ?_)
      · exact absurd ((ng_lt (a := 100) (b := m) (by decide) hm).mp hc25) (by omega)
      · refine wp_iload_n rfl (ck_get kk_In_getChars 16 rfl) ?_
        refine wp_bipush (v := nI 100) (by decide) (ck_get kk_In_getChars 17 rfl) ?_
        first | refine wp_idivN (ck_get kk_In_getChars 18 rfl) (by omega) (by omega) (by omega) ?_ | refine wp_idiv (by decide) (ck_get kk_In_getChars 18 rfl) ?_
        rw [ng_div hm]
        refine wp_istore_n (ck_get kk_In_getChars 19 rfl) (by decide) rfl ?_
        refine wp_iload_n rfl (ck_get kk_In_getChars 20 rfl) ?_
        refine wp_bipush (v := nI 100) (by decide) (ck_get kk_In_getChars 21 rfl) ?_
        refine wp_imul (ck_get kk_In_getChars 22 rfl) ?_
        refine wp_iload_n rfl (ck_get kk_In_getChars 23 rfl) ?_
        first | refine wp_isubN (ck_get kk_In_getChars 24 rfl) (by omega) ?_ | refine wp_isub (ck_get kk_In_getChars 24 rfl) ?_
        rw [ng_rem]
        refine wp_istore (ck_get kk_In_getChars 25 rfl) (by decide) rfl ?_
        refine wp_iload_n rfl (ck_get kk_In_getChars 26 rfl) ?_
        refine wp_istore_n (ck_get kk_In_getChars 27 rfl) (by decide) rfl ?_
        refine wp_aload_n rfl (ck_get kk_In_getChars 28 rfl) ?_
        first | refine wp_iincD (ck_get kk_In_getChars 29 rfl) rfl (by decide) rfl ?_ | refine wp_iinc (ck_get kk_In_getChars 29 rfl) rfl (by decide) rfl ?_
        refine wp_iload rfl (ck_get kk_In_getChars 30 rfl) ?_
        refine wp_gets (v := .retAddr 91) (fun U hU => (hD U hU).1) rfl xf_In_83 (ck_get kk_In_getChars 31 rfl) ?_
        refine wp_iload rfl (ck_get kk_In_getChars 32 rfl) ?_
        refine wp_baldX (f := fun j => nI (48 + j % 10)) (k0 := m % 100) (fun U hU => (hD U hU).2.1) (ck_get kk_In_getChars 33 rfl) (ixk_nI (by omega) (by omega)) ?_
        first | refine wp_bast (ck_get kk_In_getChars 34 rfl) (by assumption) (ixk_nI (k := s + L + 1) (by omega) (by omega)) ?_ | refine wp_zast (ck_get kk_In_getChars 34 rfl) (by assumption) (ixk_nI (k := s + L + 1) (by omega) (by omega)) ?_
        rw [b8 (by omega), bv_st]
        refine wp_aload_n rfl (ck_get kk_In_getChars 35 rfl) ?_
        first | refine wp_iincD (ck_get kk_In_getChars 36 rfl) rfl (by decide) rfl ?_ | refine wp_iinc (ck_get kk_In_getChars 36 rfl) rfl (by decide) rfl ?_
        refine wp_iload rfl (ck_get kk_In_getChars 37 rfl) ?_
        refine wp_gets (v := .retAddr 92) (fun U hU => (hD U hU).2.2.1) rfl xf_In_87 (ck_get kk_In_getChars 38 rfl) ?_
        refine wp_iload rfl (ck_get kk_In_getChars 39 rfl) ?_
        refine wp_baldX (f := fun j => nI (48 + j / 10)) (k0 := m % 100) (fun U hU => (hD U hU).2.2.2) (ck_get kk_In_getChars 40 rfl) (ixk_nI (by omega) (by omega)) ?_
        first | refine wp_bast (ck_get kk_In_getChars 41 rfl) (by assumption) (ixk_nI (k := s + L) (by omega) (by omega)) ?_ | refine wp_zast (ck_get kk_In_getChars 41 rfl) (by assumption) (ixk_nI (k := s + L) (by omega) (by omega)) ?_
        rw [b8 (by omega), bv_st]
        refine wp_goto (t := 22) (ck_get kk_In_getChars 42 rfl) (by decide) ?_
        exact hih _ _ _ _ (Or.inr ⟨_, rfl⟩) (by omega) (by omega) rfl Kc
theorem c_getChars {n v cap s : Nat} (hD : DgOK g) (hT : mT M v = (22, cap)) (hcap : cap ≤ 1000) (hn : n < 2147483648) (hs : s + (dg n).length ≤ cap) : Ci g Y_In_getChars 0 [.int (nI n), .int (nI (s + (dg n).length)), .ref v] M (fun x M2 => M2 = mk2 M (up1 (mI M) v (wrF (mI M v) s (dg n))) (mJ M)) := by
  refine cw_entry 4 pf_In_getChars rfl ?_
  have hid : M = mk2 M (up1 (mI M) v (mI M v)) (mJ M) := by
    rw [up1_self]
  refine wp_iload_n rfl (ck_get kk_In_getChars 0 rfl) ?_
  refine wp_istore (ck_get kk_In_getChars 1 rfl) (by decide) rfl ?_
  refine wp_iload_n rfl (ck_get kk_In_getChars 2 rfl) ?_
  first | refine wp_if_geN (t := 11) (ck_get kk_In_getChars 3 rfl) (by decide) (by omega) (fun hc4 => ?_) (fun hc4 => ?_) | refine wp_if_ge (t := 11) (ck_get kk_In_getChars 3 rfl) (by decide) (fun hc4 => ?_) (fun hc4 => ?_)
  · refine wp_iconst (v := nI 0) (by decide) (ck_get kk_In_getChars 6 rfl) ?_
    refine wp_istore (ck_get kk_In_getChars 7 rfl) (by decide) rfl ?_
    refine wp_iload rfl (ck_get kk_In_getChars 8 rfl) ?_
    first | refine wp_if_neN (t := 22) (ck_get kk_In_getChars 9 rfl) (by decide) (by omega) (fun hc16 => ?_) (fun hc16 => ?_) | refine wp_if_ne (t := 22) (ck_get kk_In_getChars 9 rfl) (by decide) (fun hc16 => ?_) (fun hc16 => ?_)
    · exact absurd rfl hc16
    · refine wp_iload_n rfl (ck_get kk_In_getChars 10 rfl) ?_
      refine wp_ineg (ck_get kk_In_getChars 11 rfl) ?_
      refine wp_istore_n (ck_get kk_In_getChars 12 rfl) (by decide) rfl ?_
      refine l_gc hD hT hcap n (mI M v) none none M (Or.inl rfl) hn hs hid (fun x0 y3 y4 => ?_)
      refine wp_iload rfl (ck_get kk_In_getChars 62 rfl) ?_
      first | refine wp_if_eqN (t := 118) (ck_get kk_In_getChars 63 rfl) (by decide) (by omega) (fun hc106 => ?_) (fun hc106 => ?_) | refine wp_if_eq (t := 118) (ck_get kk_In_getChars 63 rfl) (by decide) (fun hc106 => ?_) (fun hc106 => ?_)
      · refine wp_iload rfl (ck_get kk_In_getChars 69 rfl) ?_
        refine wp_ireturn (ck_get kk_In_getChars 70 rfl) rfl rfl ⟨_, rfl, ?_⟩
        rfl
      · exact absurd rfl hc106
  · exact hc4.elim
end DGT

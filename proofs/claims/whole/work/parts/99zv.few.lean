/-! ===== few ===== -/
section FEW
variable {g : Gl} {M : Mem}
def BothJ (g : Gl) (Y Y2 : Meth) (av : List Value) : Prop := ∀ (c : Nat) (z : ST), c < 512 → ZOK c z → ∃ (x : Int64), (∀ M, CR c z M → Cl g Y 300 (.ref 0 :: av) M (fun y M2 => y = x ∧ CR (c + 1) z M2 ∧ MSame M M2)) ∧ ∀ M, MR z M → Cl g Y2 300 (.ref 1020 :: av) M (fun y M2 => y = x ∧ MR z M2 ∧ CSame M M2)
/-- one more cell was made -/
theorem CR.alloc {c s : Nat} {z : ST} {M2 : Mem} (h : CR c z M) (hs : s ≤ 4000) (hz : mZ M2 = mZ M + 1) (hl : mL M2 = mL M + s) (hx : ∀ x, x ≠ mZ M → mT M2 x = mT M x ∧ mI M2 x = mI M x ∧ mJ M2 x = mJ M x ∧ mR M2 x = mR M x) : CR (c + 1) z M2 ∧ MSame M M2 := by
  obtain ⟨pf, pg, hL, h1, h2, h3, h4, h5, h6, h7, z1, z2, z3, z4⟩ := h
  have hP := hL.2.2.2.2.2.2.2.2.2.2.2.2.2.2.2
  have hlt : ∀ x, (mT M x).1 < 28 → x ≠ mZ M := fun x q e => by rw [e, z1 _ (Nat.le_refl _)] at q; exact absurd q (by decide)
  have eI : ∀ x, x < 1056 → mI M2 x = mI M x ∧ mJ M2 x = mJ M x := fun x q => ⟨(hx x (by omega)).2.1, (hx x (by omega)).2.2.1⟩
  have hk : HiK (mT M) (mR M) (mI M) (mT M2) (mR M2) (mI M2) := fun x _ q => by
    have := hlt x (by omega)
    exact ⟨(hx x this).1, (hx x this).2.2.2, (hx x this).2.1⟩
  refine ⟨⟨pf, pg, hL.kk (fun x q => (hx x (by omega)).1) (fun x q _ _ _ _ k _ => congrFun (hx x (by omega)).2.2.2 k), h1.kept (fun x q1 q2 => eI x (by omega)) (hx 30 (by omega)).2.2.2 hk, h2.kept ⟨(eI 31 (by omega)).1, (eI 33 (by omega)).1⟩ (fun s hs x q1 q2 => by have := slA_lt (hP.1 s hs).1; exact eI x (by omega)), h3.kept (eI 922 (by omega)).1 (fun x q1 q2 => eI x (by omega)) ⟨(hx 989 (by omega)).2.2.2, (hx 1019 (by omega)).2.2.2⟩ hk, h4.kept (congrFun (eI 0 (by omega)).1 5) (fun x q1 q2 => eI x (by omega)), h5.kept (congrFun (eI 0 (by omega)).1 9) (eI 923 (by omega)).1, h6.kept ⟨congrFun (eI 0 (by omega)).1 15, congrFun (eI 0 (by omega)).1 16, congrFun (eI 0 (by omega)).1 17⟩ (congrFun (eI 924 (by omega)).1 1) (eI 959 (by omega)).1, h7.kept (hx 949 (by omega)).2.2.2 (eI 949 (by omega)).1 (fun v hv q => ?_), ?_, ?_, ?_, ?_⟩, fun x a b => ?_⟩
  · have := hlt v (by omega)
    exact ⟨(hx v this).1, (hx v this).2.1⟩
  · intro x q
    rw [(hx x (by omega)).1]; exact z1 x (by omega)
  · omega
  · omega
  · omega
  · have := hx x (by omega)
    exact ⟨this.1, this.2.2.2, this.2.1, this.2.2.1⟩
/-- one more of them is asked -/
def fwS (S : Nat → Int64) (l m : Int64) (i : Nat) : Int64 := if i = 0 then S 0 * m / 10 else S i * m / 10 + S (i - 1) * l / 10
def fwI (l m : Int64) : Nat → (Nat → Int64) → Nat → Int64
  | 0, S => S
  | n + 1, S => fwI l m n (fwS S l m)
theorem fwS_c {S S2 : Nat → Int64} {l m : Int64} {k : Nat} (h : ∀ i, i < k → S i = S2 i) : ∀ i, i < k → fwS S l m i = fwS S2 l m i := fun i hi => by
  unfold fwS
  by_cases c : i = 0
  · rw [if_pos c, if_pos c, h 0 (by omega)]
  · rw [if_neg c, if_neg c, h i hi, h (i - 1) (by omega)]
theorem l_few1 {p k l : Nat} {x2 : Int32} {x4 : Int32} {S : Nat → Int64} {J0 : Nat → Nat → Int64} (t0 : mT M 0 = (10, 0)) (r00 : mR M 0 0 = some 1) (t1 : mT M 1 = (6, 0)) (e2 : mI M 1 2 = nI l) (hl : l ≤ 10) (tp : mT M p = (21, 20)) (hk : k ≤ 20) {Q : Option Value → Mem → Prop}
    (Kc : ∀ f (x6 : Option Value), (∀ j, j < k → f j = fwS S (nI l).toInt64 (nI (10 - l)).toInt64 j) → Wp g Y_Mc_few 300 118 [some (.ref 0), some (.int (nI k)), some (.int x2), some (.ref p), some (.int x4), some (.int (-1)), x6, none] [] (mk2 M (mI M) (up1 J0 p f)) Q) :
    ∀ i f (x6 : Option Value), i < k → (∀ j, j ≤ i → f j = S j) → (∀ j, i < j → j < k → f j = fwS S (nI l).toInt64 (nI (10 - l)).toInt64 j) → Wp g Y_Mc_few 300 50 [some (.ref 0), some (.int (nI k)), some (.int x2), some (.ref p), some (.int x4), some (.int (nI i)), x6, none] [] (mk2 M (mI M) (up1 J0 p f)) Q := by
  intro i
  induction i with
  | zero =>
    intro f x6 h1 h2 h3
    have hv : mJ (mk2 M (mI M) (up1 J0 p f)) p 0 = S 0 := by show up1 J0 p f p 0 = _; rw [up1_eq]; exact h2 0 (Nat.le_refl _)
    have eM : sJ (mk2 M (mI M) (up1 J0 p f)) p 0 (S 0 * (nI (10 - l)).toInt64 / 10 + 0) = mk2 M (mI M) (up1 J0 p (up1 f 0 (S 0 * (nI (10 - l)).toInt64 / 10))) := by
      refine mk2_ext (M := M) rfl ?_
      show up2 (up1 J0 p f) p 0 _ = _
      rw [up2_up1, up1_up1, up1_eq, Int64.add_zero]
    refine wp_iload rfl (ck_get kk_Mc_few 29 rfl) ?_
    first | refine wp_if_ltN (t := 118) (ck_get kk_Mc_few 30 rfl) (by decide) (by omega) (fun hc52 => ?_) (fun hc52 => ?_) | refine wp_if_lt (t := 118) (ck_get kk_Mc_few 30 rfl) (by decide) (fun hc52 => ?_) (fun hc52 => ?_)
    · exact hc52.elim
    · refine wp_iload rfl (ck_get kk_Mc_few 31 rfl) ?_
      first | refine wp_if_leN (t := 82) (ck_get kk_Mc_few 32 rfl) (by decide) (by omega) (fun hc57 => ?_) (fun hc57 => ?_) | refine wp_if_le (t := 82) (ck_get kk_Mc_few 32 rfl) (by decide) (fun hc57 => ?_) (fun hc57 => ?_)
      · refine wp_lconst (v := 0) (by decide) (ck_get kk_Mc_few 46 rfl) ?_
        refine wp_lstore (ck_get kk_Mc_few 47 rfl) (by decide) rfl ?_
        refine wp_aload_n rfl (ck_get kk_Mc_few 48 rfl) ?_
        refine wp_iload rfl (ck_get kk_Mc_few 49 rfl) ?_
        refine wp_aload_n rfl (ck_get kk_Mc_few 50 rfl) ?_
        refine wp_iload rfl (ck_get kk_Mc_few 51 rfl) ?_
        refine wp_laldv (v := S 0) (ck_get kk_Mc_few 52 rfl) (by assumption) (ixk_nI (k := 0) (by omega) (by omega)) (hv) ?_
        refine wp_bipush (v := nI 10) (by decide) (ck_get kk_Mc_few 53 rfl) ?_
        refine wp_aload_n rfl (ck_get kk_Mc_few 54 rfl) ?_
        refine wp_getR (ck_get kk_Mc_few 55 rfl) fl_Mc_12 (by assumption) (by assumption) ?_
        first | refine wp_getIv (ck_get kk_Mc_few 56 rfl) fl_Mc_363 (by assumption) (by assumption) ?_ | refine wp_getI (ck_get kk_Mc_few 56 rfl) fl_Mc_363 (by assumption) ?_
        refine wp_isubN (ck_get kk_Mc_few 57 rfl) (by omega) ?_
        refine wp_i2l (ck_get kk_Mc_few 58 rfl) ?_
        refine wp_lmul (ck_get kk_Mc_few 59 rfl) ?_
        refine wp_ldc2 kl_Mc_366 (ck_get kk_Mc_few 60 rfl) ?_
        refine wp_ldiv (by decide) (ck_get kk_Mc_few 61 rfl) ?_
        refine wp_lload rfl (ck_get kk_Mc_few 62 rfl) ?_
        refine wp_ladd (ck_get kk_Mc_few 63 rfl) ?_
        refine wp_last (ck_get kk_Mc_few 64 rfl) (by assumption) (ixk_nI (k := 0) (by omega) (by omega)) ?_
        refine wp_iinc (ck_get kk_Mc_few 65 rfl) rfl (by decide) rfl ?_
        refine wp_goto (t := 50) (ck_get kk_Mc_few 66 rfl) (by decide) ?_
        rw [show nI 0 + Int32.ofInt (-1) = -1 by decide, eM]
        refine wp_iload rfl (ck_get kk_Mc_few 29 rfl) ?_
        refine wp_if_lt (t := 118) (ck_get kk_Mc_few 30 rfl) (by decide) (fun hc52 => ?_) (fun hc52 => ?_)
        · refine Kc _ _ (fun j hj => ?_)
          by_cases e : j = 0
          · subst e; rw [up1_eq]; unfold fwS; rw [if_pos rfl]
          · rw [up1_ne e]; exact h3 j (by omega) hj
        · exact absurd (show (-1 : Int32) < 0 by decide) hc52
      · omega
  | succ i ih =>
    intro f x6 h1 h2 h3
    have hv : mJ (mk2 M (mI M) (up1 J0 p f)) p (i + 1) = S (i + 1) := by show up1 J0 p f p (i + 1) = _; rw [up1_eq]; exact h2 _ (Nat.le_refl _)
    have hv1 : mJ (mk2 M (mI M) (up1 J0 p f)) p i = S i := by show up1 J0 p f p i = _; rw [up1_eq]; exact h2 _ (Nat.le_succ _)
    have eM : sJ (mk2 M (mI M) (up1 J0 p f)) p (i + 1) (S (i + 1) * (nI (10 - l)).toInt64 / 10 + S i * (nI l).toInt64 / 10) = mk2 M (mI M) (up1 J0 p (up1 f (i + 1) (S (i + 1) * (nI (10 - l)).toInt64 / 10 + S i * (nI l).toInt64 / 10))) := by
      refine mk2_ext (M := M) rfl ?_
      show up2 (up1 J0 p f) p (i + 1) _ = _
      rw [up2_up1, up1_up1, up1_eq]
    refine wp_iload rfl (ck_get kk_Mc_few 29 rfl) ?_
    first | refine wp_if_ltN (t := 118) (ck_get kk_Mc_few 30 rfl) (by decide) (by omega) (fun hc52 => ?_) (fun hc52 => ?_) | refine wp_if_lt (t := 118) (ck_get kk_Mc_few 30 rfl) (by decide) (fun hc52 => ?_) (fun hc52 => ?_)
    · exact hc52.elim
    · refine wp_iload rfl (ck_get kk_Mc_few 31 rfl) ?_
      first | refine wp_if_leN (t := 82) (ck_get kk_Mc_few 32 rfl) (by decide) (by omega) (fun hc57 => ?_) (fun hc57 => ?_) | refine wp_if_le (t := 82) (ck_get kk_Mc_few 32 rfl) (by decide) (fun hc57 => ?_) (fun hc57 => ?_)
      · omega
      · refine wp_aload_n rfl (ck_get kk_Mc_few 33 rfl) ?_
        refine wp_iload rfl (ck_get kk_Mc_few 34 rfl) ?_
        refine wp_iconst (v := nI 1) (by decide) (ck_get kk_Mc_few 35 rfl) ?_
        refine wp_isubN (ck_get kk_Mc_few 36 rfl) (by omega) ?_
        refine wp_laldv (v := S i) (ck_get kk_Mc_few 37 rfl) (by assumption) (ixk_nI (k := i) (by omega) (by omega)) (hv1) ?_
        refine wp_aload_n rfl (ck_get kk_Mc_few 38 rfl) ?_
        refine wp_getR (ck_get kk_Mc_few 39 rfl) fl_Mc_12 (by assumption) (by assumption) ?_
        first | refine wp_getIv (ck_get kk_Mc_few 40 rfl) fl_Mc_363 (by assumption) (by assumption) ?_ | refine wp_getI (ck_get kk_Mc_few 40 rfl) fl_Mc_363 (by assumption) ?_
        refine wp_i2l (ck_get kk_Mc_few 41 rfl) ?_
        refine wp_lmul (ck_get kk_Mc_few 42 rfl) ?_
        refine wp_ldc2 kl_Mc_366 (ck_get kk_Mc_few 43 rfl) ?_
        refine wp_ldiv (by decide) (ck_get kk_Mc_few 44 rfl) ?_
        refine wp_goto (t := 83) (ck_get kk_Mc_few 45 rfl) (by decide) ?_
        refine wp_lstore (ck_get kk_Mc_few 47 rfl) (by decide) rfl ?_
        refine wp_aload_n rfl (ck_get kk_Mc_few 48 rfl) ?_
        refine wp_iload rfl (ck_get kk_Mc_few 49 rfl) ?_
        refine wp_aload_n rfl (ck_get kk_Mc_few 50 rfl) ?_
        refine wp_iload rfl (ck_get kk_Mc_few 51 rfl) ?_
        refine wp_laldv (v := S (i + 1)) (ck_get kk_Mc_few 52 rfl) (by assumption) (ixk_nI (k := i + 1) (by omega) (by omega)) (hv) ?_
        refine wp_bipush (v := nI 10) (by decide) (ck_get kk_Mc_few 53 rfl) ?_
        refine wp_aload_n rfl (ck_get kk_Mc_few 54 rfl) ?_
        refine wp_getR (ck_get kk_Mc_few 55 rfl) fl_Mc_12 (by assumption) (by assumption) ?_
        first | refine wp_getIv (ck_get kk_Mc_few 56 rfl) fl_Mc_363 (by assumption) (by assumption) ?_ | refine wp_getI (ck_get kk_Mc_few 56 rfl) fl_Mc_363 (by assumption) ?_
        refine wp_isubN (ck_get kk_Mc_few 57 rfl) (by omega) ?_
        refine wp_i2l (ck_get kk_Mc_few 58 rfl) ?_
        refine wp_lmul (ck_get kk_Mc_few 59 rfl) ?_
        refine wp_ldc2 kl_Mc_366 (ck_get kk_Mc_few 60 rfl) ?_
        refine wp_ldiv (by decide) (ck_get kk_Mc_few 61 rfl) ?_
        refine wp_lload rfl (ck_get kk_Mc_few 62 rfl) ?_
        refine wp_ladd (ck_get kk_Mc_few 63 rfl) ?_
        refine wp_last (ck_get kk_Mc_few 64 rfl) (by assumption) (ixk_nI (k := i + 1) (by omega) (by omega)) ?_
        first | refine wp_iincD (ck_get kk_Mc_few 65 rfl) rfl (by decide) rfl ?_ | refine wp_iinc (ck_get kk_Mc_few 65 rfl) rfl (by decide) rfl ?_
        refine wp_goto (t := 50) (ck_get kk_Mc_few 66 rfl) (by decide) ?_
        rw [eM]
        refine ih _ _ (by omega) (fun j hj => ?_) (fun j hj hj2 => ?_)
        · rw [up1_ne (by omega)]; exact h2 j (by omega)
        · by_cases e : j = i + 1
          · subst e; rw [up1_eq]; unfold fwS; rw [if_neg (by omega), Nat.add_sub_cancel]
          · rw [up1_ne e]; exact h3 j (by omega) hj2
theorem l_few2 {p k l n : Nat} {J0 : Nat → Nat → Int64} {X : Int64} (t0 : mT M 0 = (10, 0)) (r00 : mR M 0 0 = some 1) (t1 : mT M 1 = (6, 0)) (e2 : mI M 1 2 = nI l) (hl : l ≤ 10) (tp : mT M p = (21, 20)) (hk : k ≤ 20) (hk0 : 1 ≤ k) (hn : n ≤ 99) {Q : Option Value → Mem → Prop}
    (Kc : ∀ f, sumJ f 0 k = X → Wp g Y_Mc_few 300 151 [some (.ref 0), some (.int (nI k)), some (.int (nI n)), some (.ref p), some (.long X), none, some (.int (nI k)), none] [] (mk2 M (mI M) (up1 J0 p f)) Q) :
    ∀ d i S f (x5 x6 : Option Value), i + d = n → (∀ j, j < k → f j = S j) → sumJ (fwI (nI l).toInt64 (nI (10 - l)).toInt64 d S) 0 k = X → Wp g Y_Mc_few 300 39 [some (.ref 0), some (.int (nI k)), some (.int (nI n)), some (.ref p), some (.int (nI i)), x5, x6, none] [] (mk2 M (mI M) (up1 J0 p f)) Q := by
  intro d
  induction d with
  | zero =>
    intro i S f x5 x6 h1 h2 h3
    have h3' : sumJ f 0 k = X := by rw [← h3]; exact sumJ_congr (fun j hj => by rw [Nat.zero_add]; exact h2 j hj)
    have hlp : ∀ d j, j + d = k → Wp g Y_Mc_few 300 130 [some (.ref 0), some (.int (nI k)), some (.int (nI n)), some (.ref p), some (.long (sumJ f 0 j)), none, some (.int (nI j)), none] [] (mk2 M (mI M) (up1 J0 p f)) Q := by
      intro d
      induction d with
      | zero =>
        intro j hj
        obtain rfl : j = k := by omega
        refine wp_iload rfl (ck_get kk_Mc_few 73 rfl) ?_
        refine wp_iload_n rfl (ck_get kk_Mc_few 74 rfl) ?_
        first | refine wp_icmp_geN (t := 151) (ck_get kk_Mc_few 75 rfl) (by decide) (by omega) (by omega) (fun hc133 => ?_) (fun hc133 => ?_) | refine wp_icmp_ge (t := 151) (ck_get kk_Mc_few 75 rfl) (by decide) (fun hc133 => ?_) (fun hc133 => ?_)
        · rw [h3']; exact Kc f h3'
        · omega
      | succ d ih =>
        intro j hj
        refine wp_iload rfl (ck_get kk_Mc_few 73 rfl) ?_
        refine wp_iload_n rfl (ck_get kk_Mc_few 74 rfl) ?_
        first | refine wp_icmp_geN (t := 151) (ck_get kk_Mc_few 75 rfl) (by decide) (by omega) (by omega) (fun hc133 => ?_) (fun hc133 => ?_) | refine wp_icmp_ge (t := 151) (ck_get kk_Mc_few 75 rfl) (by decide) (fun hc133 => ?_) (fun hc133 => ?_)
        · omega
        · refine wp_lload rfl (ck_get kk_Mc_few 76 rfl) ?_
          refine wp_aload_n rfl (ck_get kk_Mc_few 77 rfl) ?_
          refine wp_iload rfl (ck_get kk_Mc_few 78 rfl) ?_
          refine wp_laldv (v := f j) (ck_get kk_Mc_few 79 rfl) (by assumption) (ixk_nI (k := j) (by omega) (by omega)) ((by show up1 J0 p f p j = _; rw [up1_eq])) ?_
          refine wp_ladd (ck_get kk_Mc_few 80 rfl) ?_
          refine wp_lstore (ck_get kk_Mc_few 81 rfl) (by decide) rfl ?_
          first | refine wp_iincN (ck_get kk_Mc_few 82 rfl) rfl (by decide) rfl ?_ | refine wp_iinc (ck_get kk_Mc_few 82 rfl) rfl (by decide) rfl ?_
          refine wp_goto (t := 130) (ck_get kk_Mc_few 83 rfl) (by decide) ?_
          have e := ih (j + 1) (by omega)
          rw [show sumJ f 0 (j + 1) = sumJ f 0 j + f j by show sumJ f 0 j + f (0 + j) = _; rw [Nat.zero_add]] at e
          exact e
    refine wp_iload rfl (ck_get kk_Mc_few 22 rfl) ?_
    refine wp_iload_n rfl (ck_get kk_Mc_few 23 rfl) ?_
    first | refine wp_icmp_geN (t := 124) (ck_get kk_Mc_few 24 rfl) (by decide) (by omega) (by omega) (fun hc42 => ?_) (fun hc42 => ?_) | refine wp_icmp_ge (t := 124) (ck_get kk_Mc_few 24 rfl) (by decide) (fun hc42 => ?_) (fun hc42 => ?_)
    · refine wp_lconst (v := 0) (by decide) (ck_get kk_Mc_few 69 rfl) ?_
      refine wp_lstore (ck_get kk_Mc_few 70 rfl) (by decide) rfl ?_
      refine wp_iconst (v := nI 0) (by decide) (ck_get kk_Mc_few 71 rfl) ?_
      refine wp_istore (ck_get kk_Mc_few 72 rfl) (by decide) rfl ?_
      exact hlp k 0 (by omega)
    · omega
  | succ d ih =>
    intro i S f x5 x6 h1 h2 h3
    refine wp_iload rfl (ck_get kk_Mc_few 22 rfl) ?_
    refine wp_iload_n rfl (ck_get kk_Mc_few 23 rfl) ?_
    first | refine wp_icmp_geN (t := 124) (ck_get kk_Mc_few 24 rfl) (by decide) (by omega) (by omega) (fun hc42 => ?_) (fun hc42 => ?_) | refine wp_icmp_ge (t := 124) (ck_get kk_Mc_few 24 rfl) (by decide) (fun hc42 => ?_) (fun hc42 => ?_)
    · omega
    · refine wp_iload_n rfl (ck_get kk_Mc_few 25 rfl) ?_
      refine wp_iconst (v := nI 1) (by decide) (ck_get kk_Mc_few 26 rfl) ?_
      refine wp_isubN (ck_get kk_Mc_few 27 rfl) (by omega) ?_
      refine wp_istore (ck_get kk_Mc_few 28 rfl) (by decide) rfl ?_
      refine l_few1 (k := k) (S := S) t0 r00 t1 e2 hl tp hk (fun f2 x6 hf2 => ?_) (k - 1) f _ (by omega) (fun j hj => h2 j (by omega)) (fun j hj hj2 => by omega)
      first | refine wp_iincN (ck_get kk_Mc_few 67 rfl) rfl (by decide) rfl ?_ | refine wp_iinc (ck_get kk_Mc_few 67 rfl) rfl (by decide) rfl ?_
      refine wp_goto (t := 39) (ck_get kk_Mc_few 68 rfl) (by decide) ?_
      exact ih (i + 1) _ f2 _ _ (by omega) hf2 h3
end FEW

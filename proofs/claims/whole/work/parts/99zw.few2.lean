/-! ===== few ===== -/
section FEX
variable {g : Gl} {M : Mem}
/-- the model's row behind a place -/
def fwP (S f : Nat → Int64) (l m : Int64) (k i : Nat) : Prop := (∀ j, j ≤ i → f j = S j) ∧ (i + 1 < k → f (i + 1) = S (i + 1) * m / 10) ∧ ∀ j, i + 1 < j → j < k → f j = fwS S l m j
theorem l_moFew1 {k l : Nat} {x2 x3 : Int32} {x5 : Option Value} {S : Nat → Int64} (hM : MoAt (mT M) (mR M) 1020) (e2 : mI M (1020 + 2) 382 = nI l) (hl : l ≤ 10) (hk : k ≤ 20) {Q : Option Value → Mem → Prop}
    (Kc : ∀ f, (∀ j, j < k → f j = fwS S (nI l).toInt64 (nI (10 - l)).toInt64 j) → Wp g Y_Mo_few 300 142 [some (.ref 1020), some (.int (nI k)), some (.int x2), some (.int x3), some (.int (-1)), x5] [] (mk2 M (mI M) (up1 (mJ M) 1053 f)) Q) :
    ∀ i f, i < k → fwP S f (nI l).toInt64 (nI (10 - l)).toInt64 k i → Wp g Y_Mo_few 300 67 [some (.ref 1020), some (.int (nI k)), some (.int x2), some (.int x3), some (.int (nI i)), x5] [] (mk2 M (mI M) (up1 (mJ M) 1053 f)) Q := by
  have to0 := hM.1
  have rfshares := MoAt.r hM 32 rfl
  have tfshares := MoAt.t hM 32 rfl
  have rfkept := MoAt.r hM 1 rfl
  have tfkept := MoAt.t hM 1 rfl
  have eM : ∀ f i v w, sJ (sJ (mk2 M (mI M) (up1 (mJ M) 1053 f)) (1020 + 33) (i + 1) v) (1020 + 33) i w = mk2 M (mI M) (up1 (mJ M) 1053 (up1 (up1 f (i + 1) v) i w)) := fun f i v w => by
    refine mk2_ext (M := M) rfl ?_
    show up2 (up2 (up1 (mJ M) 1053 f) (1020 + 33) (i + 1) v) (1020 + 33) i w = _
    rw [show 1020 + 33 = 1053 from rfl, up2_up1, up2_up1, up1_up1, up1_up1, up1_eq, up1_eq]
  have hv : ∀ f j, mJ (mk2 M (mI M) (up1 (mJ M) 1053 f)) (1020 + 33) j = f j := fun f j => by show up1 (mJ M) 1053 f 1053 j = _; rw [up1_eq]
  have hv2 : ∀ f i v, mJ (sJ (mk2 M (mI M) (up1 (mJ M) 1053 f)) (1020 + 33) (i + 1) v) (1020 + 33) i = f i := fun f i v => by
    show up2 (up1 (mJ M) 1053 f) 1053 (i + 1) v 1053 i = _
    rw [up2_k (by omega), up1_eq]
  intro i
  induction i with
  | zero =>
    intro f h1 hP
    obtain ⟨p1, p2, p3⟩ := hP
    have s0 := p1 0 (Nat.le_refl _)
    refine wp_iload rfl (ck_get kk_Mo_few 37 rfl) ?_
    first | refine wp_if_ltN (t := 142) (ck_get kk_Mo_few 38 rfl) (by decide) (by omega) (fun hc69 => ?_) (fun hc69 => ?_) | refine wp_if_lt (t := 142) (ck_get kk_Mo_few 38 rfl) (by decide) (fun hc69 => ?_) (fun hc69 => ?_)
    · exact hc69.elim
    · refine wp_aload_n rfl (ck_get kk_Mo_few 39 rfl) ?_
      refine wp_getR (ck_get kk_Mo_few 40 rfl) fl_Mo_127 (by assumption) (by assumption) ?_
      refine wp_iload rfl (ck_get kk_Mo_few 41 rfl) ?_
      refine wp_iconst (v := nI 1) (by decide) (ck_get kk_Mo_few 42 rfl) ?_
      first | refine wp_iaddN (ck_get kk_Mo_few 43 rfl) ?_ | refine wp_iadd (ck_get kk_Mo_few 43 rfl) ?_
      first | refine wp_dup2l rfl (ck_get kk_Mo_few 44 rfl) ?_ | refine wp_dup2 rfl rfl (ck_get kk_Mo_few 44 rfl) ?_
      refine wp_laldv (v := f (0 + 1)) (ck_get kk_Mo_few 45 rfl) (by assumption) (ixk_nI (k := 0 + 1) (by omega) (by omega)) (hv f (0 + 1)) ?_
      refine wp_aload_n rfl (ck_get kk_Mo_few 46 rfl) ?_
      refine wp_getR (ck_get kk_Mo_few 47 rfl) fl_Mo_127 (by assumption) (by assumption) ?_
      refine wp_iload rfl (ck_get kk_Mo_few 48 rfl) ?_
      refine wp_laldv (v := S 0) (ck_get kk_Mo_few 49 rfl) (by assumption) (ixk_nI (k := 0) (by omega) (by omega)) ((by rw [hv f 0]; exact s0)) ?_
      refine wp_aload_n rfl (ck_get kk_Mo_few 50 rfl) ?_
      refine wp_getR (ck_get kk_Mo_few 51 rfl) fl_Mo_28 (by assumption) (by assumption) ?_
      refine wp_sipush (v := nI 382) (by decide) (ck_get kk_Mo_few 52 rfl) ?_
      refine wp_ialdv (v := nI l) (ck_get kk_Mo_few 53 rfl) (by assumption) (ixk_nI (k := 382) (by omega) (by omega)) (e2) ?_
      refine wp_i2l (ck_get kk_Mo_few 54 rfl) ?_
      refine wp_lmul (ck_get kk_Mo_few 55 rfl) ?_
      refine wp_ldc2 kl_Mo_506 (ck_get kk_Mo_few 56 rfl) ?_
      refine wp_ldiv (by decide) (ck_get kk_Mo_few 57 rfl) ?_
      refine wp_ladd (ck_get kk_Mo_few 58 rfl) ?_
      refine wp_last (ck_get kk_Mo_few 59 rfl) (by assumption) (ixk_nI (k := 0 + 1) (by omega) (by omega)) ?_
      refine wp_aload_n rfl (ck_get kk_Mo_few 60 rfl) ?_
      refine wp_getR (ck_get kk_Mo_few 61 rfl) fl_Mo_127 (by assumption) (by assumption) ?_
      refine wp_iload rfl (ck_get kk_Mo_few 62 rfl) ?_
      refine wp_aload_n rfl (ck_get kk_Mo_few 63 rfl) ?_
      refine wp_getR (ck_get kk_Mo_few 64 rfl) fl_Mo_127 (by assumption) (by assumption) ?_
      refine wp_iload rfl (ck_get kk_Mo_few 65 rfl) ?_
      refine wp_laldv (v := S 0) (ck_get kk_Mo_few 66 rfl) (by assumption) (ixk_nI (k := 0) (by omega) (by omega)) ((by rw [hv2 f 0]; exact s0)) ?_
      refine wp_bipush (v := nI 10) (by decide) (ck_get kk_Mo_few 67 rfl) ?_
      refine wp_aload_n rfl (ck_get kk_Mo_few 68 rfl) ?_
      refine wp_getR (ck_get kk_Mo_few 69 rfl) fl_Mo_28 (by assumption) (by assumption) ?_
      refine wp_sipush (v := nI 382) (by decide) (ck_get kk_Mo_few 70 rfl) ?_
      refine wp_ialdv (v := nI l) (ck_get kk_Mo_few 71 rfl) (by assumption) (ixk_nI (k := 382) (by omega) (by omega)) (e2) ?_
      refine wp_isubN (ck_get kk_Mo_few 72 rfl) (by omega) ?_
      refine wp_i2l (ck_get kk_Mo_few 73 rfl) ?_
      refine wp_lmul (ck_get kk_Mo_few 74 rfl) ?_
      refine wp_ldc2 kl_Mo_506 (ck_get kk_Mo_few 75 rfl) ?_
      refine wp_ldiv (by decide) (ck_get kk_Mo_few 76 rfl) ?_
      refine wp_last (ck_get kk_Mo_few 77 rfl) (by assumption) (ixk_nI (k := 0) (by omega) (by omega)) ?_
      refine wp_iinc (ck_get kk_Mo_few 78 rfl) rfl (by decide) rfl ?_
      refine wp_goto (t := 67) (ck_get kk_Mo_few 79 rfl) (by decide) ?_
      rw [show nI 0 + Int32.ofInt (-1) = -1 by decide, eM]
      refine wp_iload rfl (ck_get kk_Mo_few 37 rfl) ?_
      refine wp_if_lt (t := 142) (ck_get kk_Mo_few 38 rfl) (by decide) (fun hc69 => ?_) (fun hc69 => ?_)
      · refine Kc _ (fun j hj => ?_)
        by_cases e : j = 0
        · subst e; rw [up1_eq]; unfold fwS; rw [if_pos rfl]
        · rw [up1_ne e]
          by_cases e1 : j = 0 + 1
          · subst e1
            rw [up1_eq, p2 hj]
            unfold fwS
            rw [if_neg (by omega)]
          · rw [up1_ne e1]; exact p3 j (by omega) hj
      · exact absurd (show (-1 : Int32) < 0 by decide) hc69
  | succ i ih =>
    intro f h1 hP
    obtain ⟨p1, p2, p3⟩ := hP
    have s0 := p1 (i + 1) (Nat.le_refl _)
    refine wp_iload rfl (ck_get kk_Mo_few 37 rfl) ?_
    first | refine wp_if_ltN (t := 142) (ck_get kk_Mo_few 38 rfl) (by decide) (by omega) (fun hc69 => ?_) (fun hc69 => ?_) | refine wp_if_lt (t := 142) (ck_get kk_Mo_few 38 rfl) (by decide) (fun hc69 => ?_) (fun hc69 => ?_)
    · exact hc69.elim
    · refine wp_aload_n rfl (ck_get kk_Mo_few 39 rfl) ?_
      refine wp_getR (ck_get kk_Mo_few 40 rfl) fl_Mo_127 (by assumption) (by assumption) ?_
      refine wp_iload rfl (ck_get kk_Mo_few 41 rfl) ?_
      refine wp_iconst (v := nI 1) (by decide) (ck_get kk_Mo_few 42 rfl) ?_
      first | refine wp_iaddN (ck_get kk_Mo_few 43 rfl) ?_ | refine wp_iadd (ck_get kk_Mo_few 43 rfl) ?_
      first | refine wp_dup2l rfl (ck_get kk_Mo_few 44 rfl) ?_ | refine wp_dup2 rfl rfl (ck_get kk_Mo_few 44 rfl) ?_
      refine wp_laldv (v := f (i + 1 + 1)) (ck_get kk_Mo_few 45 rfl) (by assumption) (ixk_nI (k := i + 1 + 1) (by omega) (by omega)) (hv f (i + 1 + 1)) ?_
      refine wp_aload_n rfl (ck_get kk_Mo_few 46 rfl) ?_
      refine wp_getR (ck_get kk_Mo_few 47 rfl) fl_Mo_127 (by assumption) (by assumption) ?_
      refine wp_iload rfl (ck_get kk_Mo_few 48 rfl) ?_
      refine wp_laldv (v := S (i + 1)) (ck_get kk_Mo_few 49 rfl) (by assumption) (ixk_nI (k := i + 1) (by omega) (by omega)) ((by rw [hv f (i + 1)]; exact s0)) ?_
      refine wp_aload_n rfl (ck_get kk_Mo_few 50 rfl) ?_
      refine wp_getR (ck_get kk_Mo_few 51 rfl) fl_Mo_28 (by assumption) (by assumption) ?_
      refine wp_sipush (v := nI 382) (by decide) (ck_get kk_Mo_few 52 rfl) ?_
      refine wp_ialdv (v := nI l) (ck_get kk_Mo_few 53 rfl) (by assumption) (ixk_nI (k := 382) (by omega) (by omega)) (e2) ?_
      refine wp_i2l (ck_get kk_Mo_few 54 rfl) ?_
      refine wp_lmul (ck_get kk_Mo_few 55 rfl) ?_
      refine wp_ldc2 kl_Mo_506 (ck_get kk_Mo_few 56 rfl) ?_
      refine wp_ldiv (by decide) (ck_get kk_Mo_few 57 rfl) ?_
      refine wp_ladd (ck_get kk_Mo_few 58 rfl) ?_
      refine wp_last (ck_get kk_Mo_few 59 rfl) (by assumption) (ixk_nI (k := i + 1 + 1) (by omega) (by omega)) ?_
      refine wp_aload_n rfl (ck_get kk_Mo_few 60 rfl) ?_
      refine wp_getR (ck_get kk_Mo_few 61 rfl) fl_Mo_127 (by assumption) (by assumption) ?_
      refine wp_iload rfl (ck_get kk_Mo_few 62 rfl) ?_
      refine wp_aload_n rfl (ck_get kk_Mo_few 63 rfl) ?_
      refine wp_getR (ck_get kk_Mo_few 64 rfl) fl_Mo_127 (by assumption) (by assumption) ?_
      refine wp_iload rfl (ck_get kk_Mo_few 65 rfl) ?_
      refine wp_laldv (v := S (i + 1)) (ck_get kk_Mo_few 66 rfl) (by assumption) (ixk_nI (k := i + 1) (by omega) (by omega)) ((by rw [hv2 f (i + 1)]; exact s0)) ?_
      refine wp_bipush (v := nI 10) (by decide) (ck_get kk_Mo_few 67 rfl) ?_
      refine wp_aload_n rfl (ck_get kk_Mo_few 68 rfl) ?_
      refine wp_getR (ck_get kk_Mo_few 69 rfl) fl_Mo_28 (by assumption) (by assumption) ?_
      refine wp_sipush (v := nI 382) (by decide) (ck_get kk_Mo_few 70 rfl) ?_
      refine wp_ialdv (v := nI l) (ck_get kk_Mo_few 71 rfl) (by assumption) (ixk_nI (k := 382) (by omega) (by omega)) (e2) ?_
      refine wp_isubN (ck_get kk_Mo_few 72 rfl) (by omega) ?_
      refine wp_i2l (ck_get kk_Mo_few 73 rfl) ?_
      refine wp_lmul (ck_get kk_Mo_few 74 rfl) ?_
      refine wp_ldc2 kl_Mo_506 (ck_get kk_Mo_few 75 rfl) ?_
      refine wp_ldiv (by decide) (ck_get kk_Mo_few 76 rfl) ?_
      refine wp_last (ck_get kk_Mo_few 77 rfl) (by assumption) (ixk_nI (k := i + 1) (by omega) (by omega)) ?_
      first | refine wp_iincD (ck_get kk_Mo_few 78 rfl) rfl (by decide) rfl ?_ | refine wp_iinc (ck_get kk_Mo_few 78 rfl) rfl (by decide) rfl ?_
      refine wp_goto (t := 67) (ck_get kk_Mo_few 79 rfl) (by decide) ?_
      rw [eM]
      refine ih _ (by omega) ⟨fun j hj => ?_, fun _ => ?_, fun j hj hj2 => ?_⟩
      · rw [up1_ne (by omega), up1_ne (by omega)]; exact p1 j (by omega)
      · rw [up1_eq]
      · rw [up1_ne (by omega)]
        by_cases e1 : j = i + 1 + 1
        · subst e1
          rw [up1_eq, p2 hj2]
          unfold fwS
          rw [if_neg (by omega), Nat.add_sub_cancel]
        · rw [up1_ne e1]; exact p3 j (by omega) hj2
theorem l_moFew2 {k l n : Nat} {X : Int64} (hM : MoAt (mT M) (mR M) 1020) (e2 : mI M (1020 + 2) 382 = nI l) (hl : l ≤ 10) (hk : k ≤ 20) (hk0 : 1 ≤ k) (hn : n ≤ 99) {Q : Option Value → Mem → Prop}
    (Kc : ∀ f, Wp g Y_Mo_few 300 175 [some (.ref 1020), some (.int (nI k)), some (.int (nI n)), some (.long X), none, some (.int (nI k))] [] (mk2 M (mI M) (up1 (mJ M) 1053 f)) Q) :
    ∀ d i S f (x4 x5 : Option Value), i + d = n → (∀ j, j < k → f j = S j) → sumJ (fwI (nI l).toInt64 (nI (10 - l)).toInt64 d S) 0 k = X → Wp g Y_Mo_few 300 57 [some (.ref 1020), some (.int (nI k)), some (.int (nI n)), some (.int (nI i)), x4, x5] [] (mk2 M (mI M) (up1 (mJ M) 1053 f)) Q := by
  have to0 := hM.1
  have rfshares := MoAt.r hM 32 rfl
  have tfshares := MoAt.t hM 32 rfl
  intro d
  induction d with
  | zero =>
    intro i S f x4 x5 h1 h2 h3
    have h3' : sumJ f 0 k = X := by rw [← h3]; exact sumJ_congr (fun j hj => by rw [Nat.zero_add]; exact h2 j hj)
    have hlp : ∀ d j, j + d = k → Wp g Y_Mo_few 300 153 [some (.ref 1020), some (.int (nI k)), some (.int (nI n)), some (.long (sumJ f 0 j)), none, some (.int (nI j))] [] (mk2 M (mI M) (up1 (mJ M) 1053 f)) Q := by
      intro d
      induction d with
      | zero =>
        intro j hj
        obtain rfl : j = k := by omega
        refine wp_iload rfl (ck_get kk_Mo_few 86 rfl) ?_
        refine wp_iload_n rfl (ck_get kk_Mo_few 87 rfl) ?_
        first | refine wp_icmp_geN (t := 175) (ck_get kk_Mo_few 88 rfl) (by decide) (by omega) (by omega) (fun hc156 => ?_) (fun hc156 => ?_) | refine wp_icmp_ge (t := 175) (ck_get kk_Mo_few 88 rfl) (by decide) (fun hc156 => ?_) (fun hc156 => ?_)
        · rw [h3']; exact Kc f
        · omega
      | succ d ih =>
        intro j hj
        refine wp_iload rfl (ck_get kk_Mo_few 86 rfl) ?_
        refine wp_iload_n rfl (ck_get kk_Mo_few 87 rfl) ?_
        first | refine wp_icmp_geN (t := 175) (ck_get kk_Mo_few 88 rfl) (by decide) (by omega) (by omega) (fun hc156 => ?_) (fun hc156 => ?_) | refine wp_icmp_ge (t := 175) (ck_get kk_Mo_few 88 rfl) (by decide) (fun hc156 => ?_) (fun hc156 => ?_)
        · omega
        · refine wp_lload_n rfl (ck_get kk_Mo_few 89 rfl) ?_
          refine wp_aload_n rfl (ck_get kk_Mo_few 90 rfl) ?_
          refine wp_getR (ck_get kk_Mo_few 91 rfl) fl_Mo_127 (by assumption) (by assumption) ?_
          refine wp_iload rfl (ck_get kk_Mo_few 92 rfl) ?_
          refine wp_laldv (v := f j) (ck_get kk_Mo_few 93 rfl) (by assumption) (ixk_nI (k := j) (by omega) (by omega)) ((by show up1 (mJ M) 1053 f 1053 j = _; rw [up1_eq])) ?_
          refine wp_ladd (ck_get kk_Mo_few 94 rfl) ?_
          refine wp_lstore_n (ck_get kk_Mo_few 95 rfl) (by decide) rfl ?_
          first | refine wp_iincN (ck_get kk_Mo_few 96 rfl) rfl (by decide) rfl ?_ | refine wp_iinc (ck_get kk_Mo_few 96 rfl) rfl (by decide) rfl ?_
          refine wp_goto (t := 153) (ck_get kk_Mo_few 97 rfl) (by decide) ?_
          have e := ih (j + 1) (by omega)
          rw [show sumJ f 0 (j + 1) = sumJ f 0 j + f j by show sumJ f 0 j + f (0 + j) = _; rw [Nat.zero_add]] at e
          exact e
    refine wp_iload_n rfl (ck_get kk_Mo_few 30 rfl) ?_
    refine wp_iload_n rfl (ck_get kk_Mo_few 31 rfl) ?_
    first | refine wp_icmp_geN (t := 148) (ck_get kk_Mo_few 32 rfl) (by decide) (by omega) (by omega) (fun hc59 => ?_) (fun hc59 => ?_) | refine wp_icmp_ge (t := 148) (ck_get kk_Mo_few 32 rfl) (by decide) (fun hc59 => ?_) (fun hc59 => ?_)
    · refine wp_lconst (v := 0) (by decide) (ck_get kk_Mo_few 82 rfl) ?_
      refine wp_lstore_n (ck_get kk_Mo_few 83 rfl) (by decide) rfl ?_
      refine wp_iconst (v := nI 0) (by decide) (ck_get kk_Mo_few 84 rfl) ?_
      refine wp_istore (ck_get kk_Mo_few 85 rfl) (by decide) rfl ?_
      exact hlp k 0 (by omega)
    · omega
  | succ d ih =>
    intro i S f x4 x5 h1 h2 h3
    refine wp_iload_n rfl (ck_get kk_Mo_few 30 rfl) ?_
    refine wp_iload_n rfl (ck_get kk_Mo_few 31 rfl) ?_
    first | refine wp_icmp_geN (t := 148) (ck_get kk_Mo_few 32 rfl) (by decide) (by omega) (by omega) (fun hc59 => ?_) (fun hc59 => ?_) | refine wp_icmp_ge (t := 148) (ck_get kk_Mo_few 32 rfl) (by decide) (fun hc59 => ?_) (fun hc59 => ?_)
    · omega
    · refine wp_iload_n rfl (ck_get kk_Mo_few 33 rfl) ?_
      refine wp_iconst (v := nI 1) (by decide) (ck_get kk_Mo_few 34 rfl) ?_
      refine wp_isubN (ck_get kk_Mo_few 35 rfl) (by omega) ?_
      refine wp_istore (ck_get kk_Mo_few 36 rfl) (by decide) rfl ?_
      refine l_moFew1 (k := k) (S := S) hM e2 hl hk (fun f2 hf2 => ?_) (k - 1) f (by omega) ⟨fun j hj => h2 j (by omega), fun q => by omega, fun j hj hj2 => by omega⟩
      first | refine wp_iincN (ck_get kk_Mo_few 80 rfl) rfl (by decide) rfl ?_ | refine wp_iinc (ck_get kk_Mo_few 80 rfl) rfl (by decide) rfl ?_
      refine wp_goto (t := 57) (ck_get kk_Mo_few 81 rfl) (by decide) ?_
      exact ih (i + 1) _ f2 _ _ (by omega) hf2 h3
def fw0 (j : Nat) : Int64 := if j = 0 then 1000000000000 else 0
theorem l_moFew0 {k n : Nat} (hM : MoAt (mT M) (mR M) 1020) {Q : Option Value → Mem → Prop}
    (Kc : ∀ f, (∀ j, j < 21 → f j = fw0 j) → Wp g Y_Mo_few 300 55 [some (.ref 1020), some (.int (nI k)), some (.int (nI n)), some (.int (nI 21)), none, none] [] (mk2 M (mI M) (up1 (mJ M) 1053 f)) Q) :
    ∀ d i f, i + d = 21 → (∀ j, j < i → f j = fw0 j) → Wp g Y_Mo_few 300 26 [some (.ref 1020), some (.int (nI k)), some (.int (nI n)), some (.int (nI i)), none, none] [] (mk2 M (mI M) (up1 (mJ M) 1053 f)) Q := by
  have to0 := hM.1
  have rfshares := MoAt.r hM 32 rfl
  have tfshares := MoAt.t hM 32 rfl
  have eM : ∀ f i v, sJ (mk2 M (mI M) (up1 (mJ M) 1053 f)) (1020 + 33) i v = mk2 M (mI M) (up1 (mJ M) 1053 (up1 f i v)) := fun f i v => by
    refine mk2_ext (M := M) rfl ?_
    show up2 (up1 (mJ M) 1053 f) (1020 + 33) i v = _
    rw [show 1020 + 33 = 1053 from rfl, up2_up1, up1_up1, up1_eq]
  intro d
  induction d with
  | zero =>
    intro i f h1 h2
    obtain rfl : i = 21 := by omega
    refine wp_iload_n rfl (ck_get kk_Mo_few 14 rfl) ?_
    refine wp_bipush (v := nI 20) (by decide) (ck_get kk_Mo_few 15 rfl) ?_
    first | refine wp_icmp_gtN (t := 55) (ck_get kk_Mo_few 16 rfl) (by decide) (by omega) (by omega) (fun hc29 => ?_) (fun hc29 => ?_) | refine wp_icmp_gt (t := 55) (ck_get kk_Mo_few 16 rfl) (by decide) (fun hc29 => ?_) (fun hc29 => ?_)
    · exact Kc f h2
    · omega
  | succ d ih =>
    intro i f h1 h2
    by_cases h0 : i = 0
    · subst h0
      refine wp_iload_n rfl (ck_get kk_Mo_few 14 rfl) ?_
      refine wp_bipush (v := nI 20) (by decide) (ck_get kk_Mo_few 15 rfl) ?_
      first | refine wp_icmp_gtN (t := 55) (ck_get kk_Mo_few 16 rfl) (by decide) (by omega) (by omega) (fun hc29 => ?_) (fun hc29 => ?_) | refine wp_icmp_gt (t := 55) (ck_get kk_Mo_few 16 rfl) (by decide) (fun hc29 => ?_) (fun hc29 => ?_)
      · omega
      · refine wp_aload_n rfl (ck_get kk_Mo_few 17 rfl) ?_
        refine wp_getR (ck_get kk_Mo_few 18 rfl) fl_Mo_127 (by assumption) (by assumption) ?_
        refine wp_iload_n rfl (ck_get kk_Mo_few 19 rfl) ?_
        refine wp_iload_n rfl (ck_get kk_Mo_few 20 rfl) ?_
        first | refine wp_if_neN (t := 47) (ck_get kk_Mo_few 21 rfl) (by decide) (by omega) (fun hc38 => ?_) (fun hc38 => ?_) | refine wp_if_ne (t := 47) (ck_get kk_Mo_few 21 rfl) (by decide) (fun hc38 => ?_) (fun hc38 => ?_)
        · omega
        · refine wp_ldc2 kl_Mo_504 (ck_get kk_Mo_few 22 rfl) ?_
          refine wp_goto (t := 48) (ck_get kk_Mo_few 23 rfl) (by decide) ?_
          refine wp_last (ck_get kk_Mo_few 25 rfl) (by assumption) (ixk_nI (k := 0) (by omega) (by omega)) ?_
          first | refine wp_iincN (ck_get kk_Mo_few 26 rfl) rfl (by decide) rfl ?_ | refine wp_iinc (ck_get kk_Mo_few 26 rfl) rfl (by decide) rfl ?_
          refine wp_goto (t := 26) (ck_get kk_Mo_few 27 rfl) (by decide) ?_
          rw [eM]
          refine ih (0 + 1) _ (by omega) (fun j hj => ?_)
          obtain rfl : j = 0 := by omega
          rw [up1_eq]; rfl
    · skip
      refine wp_iload_n rfl (ck_get kk_Mo_few 14 rfl) ?_
      refine wp_bipush (v := nI 20) (by decide) (ck_get kk_Mo_few 15 rfl) ?_
      first | refine wp_icmp_gtN (t := 55) (ck_get kk_Mo_few 16 rfl) (by decide) (by omega) (by omega) (fun hc29 => ?_) (fun hc29 => ?_) | refine wp_icmp_gt (t := 55) (ck_get kk_Mo_few 16 rfl) (by decide) (fun hc29 => ?_) (fun hc29 => ?_)
      · omega
      · refine wp_aload_n rfl (ck_get kk_Mo_few 17 rfl) ?_
        refine wp_getR (ck_get kk_Mo_few 18 rfl) fl_Mo_127 (by assumption) (by assumption) ?_
        refine wp_iload_n rfl (ck_get kk_Mo_few 19 rfl) ?_
        refine wp_iload_n rfl (ck_get kk_Mo_few 20 rfl) ?_
        first | refine wp_if_neN (t := 47) (ck_get kk_Mo_few 21 rfl) (by decide) (by omega) (fun hc38 => ?_) (fun hc38 => ?_) | refine wp_if_ne (t := 47) (ck_get kk_Mo_few 21 rfl) (by decide) (fun hc38 => ?_) (fun hc38 => ?_)
        · refine wp_lconst (v := 0) (by decide) (ck_get kk_Mo_few 24 rfl) ?_
          refine wp_last (ck_get kk_Mo_few 25 rfl) (by assumption) (ixk_nI (k := i) (by omega) (by omega)) ?_
          first | refine wp_iincN (ck_get kk_Mo_few 26 rfl) rfl (by decide) rfl ?_ | refine wp_iinc (ck_get kk_Mo_few 26 rfl) rfl (by decide) rfl ?_
          refine wp_goto (t := 26) (ck_get kk_Mo_few 27 rfl) (by decide) ?_
          rw [eM]
          refine ih (i + 1) _ (by omega) (fun j hj => ?_)
          by_cases e : j = i
          · subst e; rw [up1_eq]; unfold fw0; rw [if_neg h0]
          · rw [up1_ne e]; exact h2 j (by omega)
        · omega
theorem b_few {a b : Int32} : BothJ g Y_Mc_few Y_Mo_few [.int a, .int b] := by
  intro c z hc hO
  have hlo := hO.1.2.2.2.1
  by_cases hin : inB a 21 = true ∧ ¬ a = nI 0 ∧ inB b 100 = true
  · obtain ⟨ba, ha0, bb⟩ := hin
    obtain ⟨k, hk, rfl⟩ := inB_t ba (by omega)
    obtain ⟨n, hn, rfl⟩ := inB_t bb (by omega)
    have hk0 : 1 ≤ k := by
      rcases Nat.eq_zero_or_pos k with e | e
      · subst e; exact absurd rfl ha0
      · exact e
    refine ⟨sumJ (fwI (nI (sLo (zS z))).toInt64 (nI (10 - sLo (zS z))).toInt64 n fw0) 0 k, fun M h => ?_, fun M h => ?_⟩
    · have hCR := h
      have hC' := h.le (Nat.le_succ c)
      obtain ⟨pf, pg, hL, hSC, hTC, hIC, hDC, hPC, hNC, hBC, hZC⟩ := h
      obtain ⟨t0, ⟨r00, hSh⟩, ⟨r01, hTr⟩, ⟨r02, hTg⟩, ⟨r03, hWa⟩, ⟨r04, hWp⟩, ⟨r06, t921, r921a, r921b, hS0, hS1⟩, ⟨r07, t922⟩, ⟨r08, t923⟩, ⟨r010, hPa⟩, ⟨r011, hJu⟩, ⟨r012, hRe⟩, ⟨r013, hCu⟩, ⟨r014, hDe⟩, ⟨r018, t959⟩, hPf⟩ := id hL
      have t1 : mT M 1 = (6, 0) := hSh.1
      have r10 : mR M 1 0 = some 2 := hSh.2.1
      have hW2 : WoAt (mT M) (mR M) 2 := hSh.2.2.1
      have t2 : mT M 2 = (9, 0) := hW2.1
      have r20 : mR M 2 0 = some 3 := hW2.2.1
      have t3 : mT M 3 = (24, 4) := hW2.2.2.1
      have t31 : mT M 31 = (8, 0) := hTr.1
      have t924 : mT M 924 = (3, 0) := hPa.1
      have t934 : mT M 934 = (2, 0) := hJu.1
      have t938 : mT M 938 = (5, 0) := hRe.1
      have t947 : mT M 947 = (0, 0) := hCu.1
      have t952 : mT M 952 = (1, 0) := hDe.1
      have e12 : mI M 1 2 = nI (sLo (zS z)) := hSC.2.2.1
      have hz := hZC.2.1
      have hzx : ∀ x, x < 1056 → mT (mNew M 21 20 20) x = mT M x := fun x q => up1_ne (by omega)
      have u0 : mT (mNew M 21 20 20) 0 = (10, 0) := (hzx 0 (by omega)).trans t0
      have u1 : mT (mNew M 21 20 20) 1 = (6, 0) := (hzx 1 (by omega)).trans t1
      have up : mT (mNew M 21 20 20) (mZ M) = (21, 20) := up1_eq
      have v00 : mR (mNew M 21 20 20) 0 0 = some 1 := (congrFun (up1_ne (f := mR M) (a := mZ M) (x := 0) (v := fun _ => none) (by omega)) 0).trans r00
      have w12 : mI (mNew M 21 20 20) 1 2 = nI (sLo (zS z)) := (congrFun (up1_ne (f := mI M) (a := mZ M) (x := 1) (v := fun _ => 0) (by omega)) 2).trans e12
      refine cw_entry 5 pf_Mc_few rfl ?_
      refine wp_iload_n rfl (ck_get kk_Mc_few 0 rfl) ?_
      refine wp_iconst (v := nI 1) (by decide) (ck_get kk_Mc_few 1 rfl) ?_
      first | refine wp_icmp_ltN (t := 21) (ck_get kk_Mc_few 2 rfl) (by decide) (by omega) (by omega) (fun hc2 => ?_) (fun hc2 => ?_) | refine wp_icmp_lt (t := 21) (ck_get kk_Mc_few 2 rfl) (by decide) (fun hc2 => ?_) (fun hc2 => ?_)
      · omega
      · refine wp_iload_n rfl (ck_get kk_Mc_few 3 rfl) ?_
        refine wp_bipush (v := nI 20) (by decide) (ck_get kk_Mc_few 4 rfl) ?_
        first | refine wp_icmp_gtN (t := 21) (ck_get kk_Mc_few 5 rfl) (by decide) (by omega) (by omega) (fun hc8 => ?_) (fun hc8 => ?_) | refine wp_icmp_gt (t := 21) (ck_get kk_Mc_few 5 rfl) (by decide) (fun hc8 => ?_) (fun hc8 => ?_)
        · omega
        · refine wp_iload_n rfl (ck_get kk_Mc_few 6 rfl) ?_
          first | refine wp_if_ltN (t := 21) (ck_get kk_Mc_few 7 rfl) (by decide) (by omega) (fun hc12 => ?_) (fun hc12 => ?_) | refine wp_if_lt (t := 21) (ck_get kk_Mc_few 7 rfl) (by decide) (fun hc12 => ?_) (fun hc12 => ?_)
          · exact hc12.elim
          · refine wp_iload_n rfl (ck_get kk_Mc_few 8 rfl) ?_
            refine wp_bipush (v := nI 99) (by decide) (ck_get kk_Mc_few 9 rfl) ?_
            first | refine wp_icmp_leN (t := 25) (ck_get kk_Mc_few 10 rfl) (by decide) (by omega) (by omega) (fun hc18 => ?_) (fun hc18 => ?_) | refine wp_icmp_le (t := 25) (ck_get kk_Mc_few 10 rfl) (by decide) (fun hc18 => ?_) (fun hc18 => ?_)
            · refine wp_bipush (v := nI 20) (by decide) (ck_get kk_Mc_few 13 rfl) ?_
              refine wp_newarr (κ := 21) (len := 20) (ck_get kk_Mc_few 14 rfl) rfl ac_long (by decide) rfl (by decide) ?_
              refine wp_astore_n (ck_get kk_Mc_few 15 rfl) (by decide) rfl ?_
              refine wp_aload_n rfl (ck_get kk_Mc_few 16 rfl) ?_
              refine wp_iconst (v := nI 0) (by decide) (ck_get kk_Mc_few 17 rfl) ?_
              refine wp_ldc2 kl_Mc_361 (ck_get kk_Mc_few 18 rfl) ?_
              refine wp_last (ck_get kk_Mc_few 19 rfl) (by assumption) (ixk_nI (k := 0) (by omega) (by omega)) ?_
              refine wp_iconst (v := nI 0) (by decide) (ck_get kk_Mc_few 20 rfl) ?_
              refine wp_istore (ck_get kk_Mc_few 21 rfl) (by decide) rfl ?_
              have eM : sJ (mNew M 21 20 20) (mZ M) 0 1000000000000 = mk2 (mNew M 21 20 20) (mI (mNew M 21 20 20)) (up1 (mJ (mNew M 21 20 20)) (mZ M) (up1 (fun _ => 0) 0 1000000000000)) := by
                refine mk2_ext (M := mNew M 21 20 20) rfl ?_
                show up2 (up1 (mJ M) (mZ M) (fun _ => 0)) (mZ M) 0 1000000000000 = up1 (up1 (mJ M) (mZ M) (fun _ => 0)) (mZ M) (up1 (fun _ => 0) 0 1000000000000)
                rw [up2_up1, up1_eq]
              rw [eM]
              refine l_few2 (M := mNew M 21 20 20) (p := mZ M) (k := k) (l := sLo (zS z)) (n := n) u0 v00 u1 w12 hlo up (by omega) hk0 (by omega) (fun f hf => ?_) n 0 fw0 _ none none (by omega) (fun j hj => ?_) rfl
              · skip
                refine wp_lload rfl (ck_get kk_Mc_few 84 rfl) ?_
                refine wp_lreturn (ck_get kk_Mc_few 85 rfl) rfl ⟨_, rfl, ?_⟩
                obtain ⟨d1, d2⟩ := hCR.alloc (M2 := mk2 (mNew M 21 20 20) (mI (mNew M 21 20 20)) (up1 (mJ (mNew M 21 20 20)) (mZ M) f)) (s := 20) (by omega) rfl rfl (fun x hx => ⟨up1_ne hx, up1_ne hx, by
                  show up1 (up1 (mJ M) (mZ M) (fun _ => 0)) (mZ M) f x = _
                  rw [up1_ne hx, up1_ne hx], up1_ne hx⟩)
                exact ⟨rfl, d1, d2⟩
              · unfold fw0
                by_cases e : j = 0
                · subst e; rw [up1_eq, if_pos rfl]
                · rw [up1_ne e, if_neg e]
            · omega
    · skip
      obtain ⟨hM, hSM, hUM, hIM, hDM, hPM, hNM, hBM⟩ := id h
      have to0 := hM.1
      have hl1 : decide (nI 1 ≤ nI k ∧ nI k ≤ nI 20) = true := decide_eq_true ⟨nI_le (by omega) (by omega), nI_le (by omega) (by omega)⟩
      have e382 : mI M (1020 + 2) 382 = nI (sLo (zS z)) := hSM.2.2.2.1
      have em : mk2 M (mI M) (up1 (mJ M) 1053 (mJ M 1053)) = M := by rw [show up1 (mJ M) 1053 (mJ M 1053) = mJ M from up1_id rfl]
      refine cw_entry 3 pf_Mo_few rfl ?_
      refine wp_iload_n rfl (ck_get kk_Mo_few 0 rfl) ?_
      refine wp_iconst (v := nI 1) (by decide) (ck_get kk_Mo_few 1 rfl) ?_
      refine wp_bipush (v := nI 20) (by decide) (ck_get kk_Mo_few 2 rfl) ?_
      refine wp_cS3i (ck_get kk_Mo_few 3 rfl) ml_Mo_18 (by omega) (Nat.le_of_ble_eq_true rfl) (Ci.to (m_liesG) ?_)
      rintro _ M1 ⟨rfl, eqm1⟩
      obtain rfl := eqm1.symm
      rw [hl1]
      first | refine wp_if_eqN (t := 20) (ck_get kk_Mo_few 4 rfl) (by decide) (by omega) (fun hc7 => ?_) (fun hc7 => ?_) | refine wp_if_eq (t := 20) (ck_get kk_Mo_few 4 rfl) (by decide) (fun hc7 => ?_) (fun hc7 => ?_)
      · exact absurd hc7 (by decide)
      · refine wp_iload_n rfl (ck_get kk_Mo_few 5 rfl) ?_
        refine wp_iconst (v := nI 0) (by decide) (ck_get kk_Mo_few 6 rfl) ?_
        refine wp_bipush (v := nI 99) (by decide) (ck_get kk_Mo_few 7 rfl) ?_
        refine wp_cS3i (ck_get kk_Mo_few 8 rfl) ml_Mo_18 (by omega) (Nat.le_of_ble_eq_true rfl) (Ci.to (m_lies (by omega)) ?_)
        rintro _ M1 ⟨rfl, eqm1⟩
        obtain rfl := eqm1.symm
        rw [bb]
        first | refine wp_if_neN (t := 24) (ck_get kk_Mo_few 9 rfl) (by decide) (by omega) (fun hc17 => ?_) (fun hc17 => ?_) | refine wp_if_ne (t := 24) (ck_get kk_Mo_few 9 rfl) (by decide) (fun hc17 => ?_) (fun hc17 => ?_)
        · refine wp_iconst (v := nI 0) (by decide) (ck_get kk_Mo_few 12 rfl) ?_
          refine wp_istore_n (ck_get kk_Mo_few 13 rfl) (by decide) rfl ?_
          rw [← em]
          refine l_moFew0 (M := M) (k := k) (n := n) hM (fun f hf => ?_) 21 0 (mJ M 1053) (by omega) (fun j hj => absurd hj (Nat.not_lt_zero j))
          refine wp_iconst (v := nI 0) (by decide) (ck_get kk_Mo_few 28 rfl) ?_
          refine wp_istore_n (ck_get kk_Mo_few 29 rfl) (by decide) rfl ?_
          refine l_moFew2 (M := M) (k := k) (l := sLo (zS z)) (n := n) hM e382 hlo (by omega) hk0 (by omega) (fun f2 => ?_) n 0 fw0 f none none (by omega) (fun j hj => hf j (by omega)) rfl
          refine wp_lload_n rfl (ck_get kk_Mo_few 98 rfl) ?_
          refine wp_lreturn (ck_get kk_Mo_few 99 rfl) rfl ⟨_, rfl, ?_⟩
          exact ⟨rfl, h.sc (I2 := mI M) (J2 := up1 (mJ M) 1053 f2) (fun _ _ => rfl) (fun x q => up1_ne (by omega)) (fun _ _ => rfl) hNM.2.2.2.2.1, by rw [em]; exact CSame.mk2 (fun x q => ⟨rfl, up1_ne (by omega)⟩)⟩
        · exact absurd hc17 (by decide)
  · have hno : ∀ (q1 : ¬ a < nI 1) (q2 : ¬ nI 20 < a) (q3 : ¬ b < nI 0) (q4 : ¬ nI 99 < b), False := fun q1 q2 q3 q4 => by
      rcases i32c a 21 (by omega) with ⟨j, hj, rfl⟩ | e
      · rcases i32c b 100 (by omega) with ⟨k, hk, rfl⟩ | e
        · refine hin ⟨inB_nI hj (by omega), fun e => ?_, inB_nI hk (by omega)⟩
          rw [e] at q1
          exact q1 (by decide)
        · exact i32o e 0 99 rfl (by omega) (by omega) q3 q4
      · exact i32o e 1 20 rfl (by omega) (by omega) q1 q2
    refine ⟨-1, fun M h => ?_, fun M h => ?_⟩
    · skip
      have hC' := h.le (Nat.le_succ c)
      obtain ⟨pf, pg, hL, hSC, hTC, hIC, hDC, hPC, hNC, hBC, hZC⟩ := h
      obtain ⟨t0, ⟨r00, hSh⟩, ⟨r01, hTr⟩, ⟨r02, hTg⟩, ⟨r03, hWa⟩, ⟨r04, hWp⟩, ⟨r06, t921, r921a, r921b, hS0, hS1⟩, ⟨r07, t922⟩, ⟨r08, t923⟩, ⟨r010, hPa⟩, ⟨r011, hJu⟩, ⟨r012, hRe⟩, ⟨r013, hCu⟩, ⟨r014, hDe⟩, ⟨r018, t959⟩, hPf⟩ := id hL
      have t1 : mT M 1 = (6, 0) := hSh.1
      have r10 : mR M 1 0 = some 2 := hSh.2.1
      have hW2 : WoAt (mT M) (mR M) 2 := hSh.2.2.1
      have t2 : mT M 2 = (9, 0) := hW2.1
      have r20 : mR M 2 0 = some 3 := hW2.2.1
      have t3 : mT M 3 = (24, 4) := hW2.2.2.1
      have t31 : mT M 31 = (8, 0) := hTr.1
      have t924 : mT M 924 = (3, 0) := hPa.1
      have t934 : mT M 934 = (2, 0) := hJu.1
      have t938 : mT M 938 = (5, 0) := hRe.1
      have t947 : mT M 947 = (0, 0) := hCu.1
      have t952 : mT M 952 = (1, 0) := hDe.1
      refine cw_entry 5 pf_Mc_few rfl ?_
      refine wp_iload_n rfl (ck_get kk_Mc_few 0 rfl) ?_
      refine wp_iconst (v := nI 1) (by decide) (ck_get kk_Mc_few 1 rfl) ?_
      refine wp_icmp_lt (t := 21) (ck_get kk_Mc_few 2 rfl) (by decide) (fun hc2 => ?_) (fun hc2 => ?_)
      · refine wp_ldc2 kl_Mc_281 (ck_get kk_Mc_few 11 rfl) ?_
        refine wp_lreturn (ck_get kk_Mc_few 12 rfl) rfl ⟨_, rfl, ?_⟩
        exact ⟨rfl, hC', MSame.refl _⟩
      · refine wp_iload_n rfl (ck_get kk_Mc_few 3 rfl) ?_
        refine wp_bipush (v := nI 20) (by decide) (ck_get kk_Mc_few 4 rfl) ?_
        refine wp_icmp_gt (t := 21) (ck_get kk_Mc_few 5 rfl) (by decide) (fun hc8 => ?_) (fun hc8 => ?_)
        · refine wp_ldc2 kl_Mc_281 (ck_get kk_Mc_few 11 rfl) ?_
          refine wp_lreturn (ck_get kk_Mc_few 12 rfl) rfl ⟨_, rfl, ?_⟩
          exact ⟨rfl, hC', MSame.refl _⟩
        · refine wp_iload_n rfl (ck_get kk_Mc_few 6 rfl) ?_
          refine wp_if_lt (t := 21) (ck_get kk_Mc_few 7 rfl) (by decide) (fun hc12 => ?_) (fun hc12 => ?_)
          · refine wp_ldc2 kl_Mc_281 (ck_get kk_Mc_few 11 rfl) ?_
            refine wp_lreturn (ck_get kk_Mc_few 12 rfl) rfl ⟨_, rfl, ?_⟩
            exact ⟨rfl, hC', MSame.refl _⟩
          · refine wp_iload_n rfl (ck_get kk_Mc_few 8 rfl) ?_
            refine wp_bipush (v := nI 99) (by decide) (ck_get kk_Mc_few 9 rfl) ?_
            refine wp_icmp_le (t := 25) (ck_get kk_Mc_few 10 rfl) (by decide) (fun hc18 => ?_) (fun hc18 => ?_)
            · exact (hno hc2 hc8 hc12 (fun h => by have a := Int32.lt_iff_toInt_lt.mp h; have b := Int32.le_iff_toInt_le.mp hc18; omega)).elim
            · refine wp_ldc2 kl_Mc_281 (ck_get kk_Mc_few 11 rfl) ?_
              refine wp_lreturn (ck_get kk_Mc_few 12 rfl) rfl ⟨_, rfl, ?_⟩
              exact ⟨rfl, hC', MSame.refl _⟩
    · skip
      obtain ⟨hM, hSM, hUM, hIM, hDM, hPM, hNM, hBM⟩ := id h
      have to0 := hM.1
      refine cw_entry 3 pf_Mo_few rfl ?_
      refine wp_iload_n rfl (ck_get kk_Mo_few 0 rfl) ?_
      refine wp_iconst (v := nI 1) (by decide) (ck_get kk_Mo_few 1 rfl) ?_
      refine wp_bipush (v := nI 20) (by decide) (ck_get kk_Mo_few 2 rfl) ?_
      refine wp_cS3i (ck_get kk_Mo_few 3 rfl) ml_Mo_18 (by omega) (Nat.le_of_ble_eq_true rfl) (Ci.to (m_liesG) ?_)
      rintro _ M1 ⟨rfl, eqm1⟩
      obtain rfl := eqm1.symm
      refine wp_if_eq (t := 20) (ck_get kk_Mo_few 4 rfl) (by decide) (fun hc7 => ?_) (fun hc7 => ?_)
      · refine wp_ldc2 kl_Mo_413 (ck_get kk_Mo_few 10 rfl) ?_
        refine wp_lreturn (ck_get kk_Mo_few 11 rfl) rfl ⟨_, rfl, ?_⟩
        exact ⟨rfl, h, CSame.refl _⟩
      · refine wp_iload_n rfl (ck_get kk_Mo_few 5 rfl) ?_
        refine wp_iconst (v := nI 0) (by decide) (ck_get kk_Mo_few 6 rfl) ?_
        refine wp_bipush (v := nI 99) (by decide) (ck_get kk_Mo_few 7 rfl) ?_
        refine wp_cS3i (ck_get kk_Mo_few 8 rfl) ml_Mo_18 (by omega) (Nat.le_of_ble_eq_true rfl) (Ci.to (m_lies (by omega)) ?_)
        rintro _ M1 ⟨rfl, eqm1⟩
        obtain rfl := eqm1.symm
        refine wp_if_ne (t := 24) (ck_get kk_Mo_few 9 rfl) (by decide) (fun hc17 => ?_) (fun hc17 => ?_)
        · exfalso
          have q := of_decide_eq_true (bI_1 hc7)
          obtain ⟨j, hj, rfl⟩ := inB_t (bI_1 hc17) (by omega)
          exact hno (fun h => by have a := Int32.lt_iff_toInt_lt.mp h; have b := Int32.le_iff_toInt_le.mp q.1; omega) (fun h => by have a := Int32.lt_iff_toInt_lt.mp h; have b := Int32.le_iff_toInt_le.mp q.2; omega) (nI_pos (by omega)) (fun h => by have := (nI_ltI (by omega) (by omega)).mp h; omega)
        · refine wp_ldc2 kl_Mo_413 (ck_get kk_Mo_few 10 rfl) ?_
          refine wp_lreturn (ck_get kk_Mo_few 11 rfl) rfl ⟨_, rfl, ?_⟩
          exact ⟨rfl, h, CSame.refl _⟩
end FEX

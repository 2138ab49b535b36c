/-! ===== MissCurvesModel: what is laid aside, images, what can be undone ===== -/
/-- k places of s from c on come to f from d on -/
def cpL {α : Type} (f s : Nat → α) (d c i y : Nat) : α := if d ≤ y ∧ y < d + i then s (c + (y - d)) else f y
theorem cpL_succ {α : Type} {I : Nat → Nat → α} {s : Nat → α} {a d c i x y : Nat} (hx : d + i = x) (hy : c + i = y) : up2 (up1 I a (cpL (I a) s d c i)) a x (s y) = up1 I a (cpL (I a) s d c (i + 1)) := by
  subst hx; subst hy
  funext u v
  unfold up2 up1 cpL
  by_cases hu : u = a
  · subst hu
    simp only [true_and, if_true]
    by_cases hv : v = d + i
    · subst hv; rw [if_pos rfl, if_pos (by omega), show c + (d + i - d) = c + i by omega]
    · rw [if_neg hv]
      by_cases h2 : d ≤ v ∧ v < d + i
      · rw [if_pos h2, if_pos (by omega)]
      · rw [if_neg h2, if_neg (by omega)]
  · simp [hu]
theorem cpL_0 {α : Type} {I : Nat → Nat → α} {s : Nat → α} {a d c : Nat} : up1 I a (cpL (I a) s d c 0) = I := up1_id (by funext y; unfold cpL; rw [if_neg (by omega)])
section MC
variable {g : Gl} {M : Mem} {o : Nat}
theorem l_aside1 {t : Nat} (hM : MoAt (mT M) (mR M) o) (ht : t < 2) {Q : Option Value → Mem → Prop} (K : Wp g Y_Mo_laysAside 0 33 [some (.ref o), some (.int (nI t)), some (.int (nI (369)))] [] (mk2 M (up1 (mI M) (o + 7) (cpL (mI M (o + 7)) (mI M (o + 2)) (369 * t) (0) (369))) (mJ M)) Q) : ∀ k i, 369 = i + k → Wp g Y_Mo_laysAside 0 2 [some (.ref o), some (.int (nI t)), some (.int (nI i))] [] (mk2 M (up1 (mI M) (o + 7) (cpL (mI M (o + 7)) (mI M (o + 2)) (369 * t) (0) (i))) (mJ M)) Q := by
  have to0 := hM.1
  have rfkept := MoAt.r hM 1 rfl
  have tfkept := MoAt.t hM 1 rfl
  have rfaside := MoAt.r hM 6 rfl
  have tfaside := MoAt.t hM 6 rfl
  intro k
  induction k with
  | zero =>
    intro i h1
    refine wp_iload_n rfl (ck_get kk_Mo_laysAside 2 rfl) ?_
    refine wp_sipush (v := nI 369) (by decide) (ck_get kk_Mo_laysAside 3 rfl) ?_
    first | refine wp_icmp_geN (t := 33) (ck_get kk_Mo_laysAside 4 rfl) (by decide) (by omega) (by omega) (fun hc6 => ?_) (fun hc6 => ?_) | refine wp_icmp_ge (t := 33) (ck_get kk_Mo_laysAside 4 rfl) (by decide) (fun hc6 => ?_) (fun hc6 => ?_)
    · subst h1; exact K
    · omega
  | succ k ih =>
    intro i h1
    refine wp_iload_n rfl (ck_get kk_Mo_laysAside 2 rfl) ?_
    refine wp_sipush (v := nI 369) (by decide) (ck_get kk_Mo_laysAside 3 rfl) ?_
    first | refine wp_icmp_geN (t := 33) (ck_get kk_Mo_laysAside 4 rfl) (by decide) (by omega) (by omega) (fun hc6 => ?_) (fun hc6 => ?_) | refine wp_icmp_ge (t := 33) (ck_get kk_Mo_laysAside 4 rfl) (by decide) (fun hc6 => ?_) (fun hc6 => ?_)
    · omega
    · refine wp_aload_n rfl (ck_get kk_Mo_laysAside 5 rfl) ?_
      refine wp_getR (ck_get kk_Mo_laysAside 6 rfl) fl_Mo_45 (by assumption) (by assumption) ?_
      refine wp_sipush (v := nI 369) (by decide) (ck_get kk_Mo_laysAside 7 rfl) ?_
      refine wp_iload_n rfl (ck_get kk_Mo_laysAside 8 rfl) ?_
      first | refine wp_imulN (ck_get kk_Mo_laysAside 9 rfl) ?_ | refine wp_imul (ck_get kk_Mo_laysAside 9 rfl) ?_
      refine wp_iload_n rfl (ck_get kk_Mo_laysAside 10 rfl) ?_
      first | refine wp_iaddN (ck_get kk_Mo_laysAside 11 rfl) ?_ | refine wp_iadd (ck_get kk_Mo_laysAside 11 rfl) ?_
      refine wp_aload_n rfl (ck_get kk_Mo_laysAside 12 rfl) ?_
      refine wp_getR (ck_get kk_Mo_laysAside 13 rfl) fl_Mo_28 (by assumption) (by assumption) ?_
      refine wp_iload_n rfl (ck_get kk_Mo_laysAside 14 rfl) ?_
      refine wp_ialdv (v := mI M (o + 2) (i)) (ck_get kk_Mo_laysAside 15 rfl) (by assumption) (ixk_nI (k := i) (by omega) (by omega)) (show up1 (mI M) (o + 7) _ (o + 2) (i) = _ by rw [up1_ne (by omega)]) ?_
      refine wp_iast (ck_get kk_Mo_laysAside 16 rfl) (by assumption) (ixk_nI (k := 369 * t + i) (by omega) (by omega)) ?_
      first | refine wp_iincN (ck_get kk_Mo_laysAside 17 rfl) rfl (by decide) rfl ?_ | refine wp_iinc (ck_get kk_Mo_laysAside 17 rfl) rfl (by decide) rfl ?_
      refine wp_goto (t := 2) (ck_get kk_Mo_laysAside 18 rfl) (by decide) ?_
      have e := ih (i + 1) (by omega)
      rw [← cpL_succ (show 369 * t + i = 369 * t + i by omega) (show 0 + i = i by omega)] at e
      exact e
theorem l_aside1_0 {t : Nat} (hM : MoAt (mT M) (mR M) o) (ht : t < 2) {Q : Option Value → Mem → Prop} (K : Wp g Y_Mo_laysAside 0 33 [some (.ref o), some (.int (nI t)), some (.int (nI (369)))] [] (mk2 M (up1 (mI M) (o + 7) (cpL (mI M (o + 7)) (mI M (o + 2)) (369 * t) (0) (369))) (mJ M)) Q) : Wp g Y_Mo_laysAside 0 2 [some (.ref o), some (.int (nI t)), some (.int (nI 0))] [] M Q := by
  have e := l_aside1 hM ht K (369) 0 (by omega)
  rw [cpL_0] at e
  exact e
theorem l_aside2 {t : Nat} (hM : MoAt (mT M) (mR M) o) (ht : t < 2) {Q : Option Value → Mem → Prop} (K : Wp g Y_Mo_laysAside 0 64 [some (.ref o), some (.int (nI t)), some (.int (nI (100)))] [] (mk2 M (mI M) (up1 (mJ M) (o + 8) (cpL (mJ M (o + 8)) (mJ M (o + 3)) (100 * t) (0) (100)))) Q) : ∀ k i, 100 = i + k → Wp g Y_Mo_laysAside 0 35 [some (.ref o), some (.int (nI t)), some (.int (nI i))] [] (mk2 M (mI M) (up1 (mJ M) (o + 8) (cpL (mJ M (o + 8)) (mJ M (o + 3)) (100 * t) (0) (i)))) Q := by
  have to0 := hM.1
  have rfparts := MoAt.r hM 2 rfl
  have tfparts := MoAt.t hM 2 rfl
  have rfasideParts := MoAt.r hM 7 rfl
  have tfasideParts := MoAt.t hM 7 rfl
  intro k
  induction k with
  | zero =>
    intro i h1
    refine wp_iload_n rfl (ck_get kk_Mo_laysAside 21 rfl) ?_
    refine wp_bipush (v := nI 100) (by decide) (ck_get kk_Mo_laysAside 22 rfl) ?_
    first | refine wp_icmp_geN (t := 64) (ck_get kk_Mo_laysAside 23 rfl) (by decide) (by omega) (by omega) (fun hc38 => ?_) (fun hc38 => ?_) | refine wp_icmp_ge (t := 64) (ck_get kk_Mo_laysAside 23 rfl) (by decide) (fun hc38 => ?_) (fun hc38 => ?_)
    · subst h1; exact K
    · omega
  | succ k ih =>
    intro i h1
    refine wp_iload_n rfl (ck_get kk_Mo_laysAside 21 rfl) ?_
    refine wp_bipush (v := nI 100) (by decide) (ck_get kk_Mo_laysAside 22 rfl) ?_
    first | refine wp_icmp_geN (t := 64) (ck_get kk_Mo_laysAside 23 rfl) (by decide) (by omega) (by omega) (fun hc38 => ?_) (fun hc38 => ?_) | refine wp_icmp_ge (t := 64) (ck_get kk_Mo_laysAside 23 rfl) (by decide) (fun hc38 => ?_) (fun hc38 => ?_)
    · omega
    · refine wp_aload_n rfl (ck_get kk_Mo_laysAside 24 rfl) ?_
      refine wp_getR (ck_get kk_Mo_laysAside 25 rfl) fl_Mo_48 (by assumption) (by assumption) ?_
      refine wp_bipush (v := nI 100) (by decide) (ck_get kk_Mo_laysAside 26 rfl) ?_
      refine wp_iload_n rfl (ck_get kk_Mo_laysAside 27 rfl) ?_
      first | refine wp_imulN (ck_get kk_Mo_laysAside 28 rfl) ?_ | refine wp_imul (ck_get kk_Mo_laysAside 28 rfl) ?_
      refine wp_iload_n rfl (ck_get kk_Mo_laysAside 29 rfl) ?_
      first | refine wp_iaddN (ck_get kk_Mo_laysAside 30 rfl) ?_ | refine wp_iadd (ck_get kk_Mo_laysAside 30 rfl) ?_
      refine wp_aload_n rfl (ck_get kk_Mo_laysAside 31 rfl) ?_
      refine wp_getR (ck_get kk_Mo_laysAside 32 rfl) fl_Mo_31 (by assumption) (by assumption) ?_
      refine wp_iload_n rfl (ck_get kk_Mo_laysAside 33 rfl) ?_
      refine wp_laldv (v := mJ M (o + 3) (i)) (ck_get kk_Mo_laysAside 34 rfl) (by assumption) (ixk_nI (k := i) (by omega) (by omega)) (show up1 (mJ M) (o + 8) _ (o + 3) (i) = _ by rw [up1_ne (by omega)]) ?_
      refine wp_last (ck_get kk_Mo_laysAside 35 rfl) (by assumption) (ixk_nI (k := 100 * t + i) (by omega) (by omega)) ?_
      first | refine wp_iincN (ck_get kk_Mo_laysAside 36 rfl) rfl (by decide) rfl ?_ | refine wp_iinc (ck_get kk_Mo_laysAside 36 rfl) rfl (by decide) rfl ?_
      refine wp_goto (t := 35) (ck_get kk_Mo_laysAside 37 rfl) (by decide) ?_
      have e := ih (i + 1) (by omega)
      rw [← cpL_succ (show 100 * t + i = 100 * t + i by omega) (show 0 + i = i by omega)] at e
      exact e
theorem l_aside2_0 {t : Nat} (hM : MoAt (mT M) (mR M) o) (ht : t < 2) {Q : Option Value → Mem → Prop} (K : Wp g Y_Mo_laysAside 0 64 [some (.ref o), some (.int (nI t)), some (.int (nI (100)))] [] (mk2 M (mI M) (up1 (mJ M) (o + 8) (cpL (mJ M (o + 8)) (mJ M (o + 3)) (100 * t) (0) (100)))) Q) : Wp g Y_Mo_laysAside 0 35 [some (.ref o), some (.int (nI t)), some (.int (nI 0))] [] M Q := by
  have e := l_aside2 hM ht K (100) 0 (by omega)
  rw [cpL_0] at e
  exact e
theorem l_takes1 {t : Nat} (hM : MoAt (mT M) (mR M) o) (ht : t < 2) {Q : Option Value → Mem → Prop} (K : Wp g Y_Mo_takesBack 0 33 [some (.ref o), some (.int (nI t)), some (.int (nI (369)))] [] (mk2 M (up1 (mI M) (o + 2) (cpL (mI M (o + 2)) (mI M (o + 7)) (0) (369 * t) (369))) (mJ M)) Q) : ∀ k i, 369 = i + k → Wp g Y_Mo_takesBack 0 2 [some (.ref o), some (.int (nI t)), some (.int (nI i))] [] (mk2 M (up1 (mI M) (o + 2) (cpL (mI M (o + 2)) (mI M (o + 7)) (0) (369 * t) (i))) (mJ M)) Q := by
  have to0 := hM.1
  have rfkept := MoAt.r hM 1 rfl
  have tfkept := MoAt.t hM 1 rfl
  have rfaside := MoAt.r hM 6 rfl
  have tfaside := MoAt.t hM 6 rfl
  intro k
  induction k with
  | zero =>
    intro i h1
    refine wp_iload_n rfl (ck_get kk_Mo_takesBack 2 rfl) ?_
    refine wp_sipush (v := nI 369) (by decide) (ck_get kk_Mo_takesBack 3 rfl) ?_
    first | refine wp_icmp_geN (t := 33) (ck_get kk_Mo_takesBack 4 rfl) (by decide) (by omega) (by omega) (fun hc6 => ?_) (fun hc6 => ?_) | refine wp_icmp_ge (t := 33) (ck_get kk_Mo_takesBack 4 rfl) (by decide) (fun hc6 => ?_) (fun hc6 => ?_)
    · subst h1; exact K
    · omega
  | succ k ih =>
    intro i h1
    refine wp_iload_n rfl (ck_get kk_Mo_takesBack 2 rfl) ?_
    refine wp_sipush (v := nI 369) (by decide) (ck_get kk_Mo_takesBack 3 rfl) ?_
    first | refine wp_icmp_geN (t := 33) (ck_get kk_Mo_takesBack 4 rfl) (by decide) (by omega) (by omega) (fun hc6 => ?_) (fun hc6 => ?_) | refine wp_icmp_ge (t := 33) (ck_get kk_Mo_takesBack 4 rfl) (by decide) (fun hc6 => ?_) (fun hc6 => ?_)
    · omega
    · refine wp_aload_n rfl (ck_get kk_Mo_takesBack 5 rfl) ?_
      refine wp_getR (ck_get kk_Mo_takesBack 6 rfl) fl_Mo_28 (by assumption) (by assumption) ?_
      refine wp_iload_n rfl (ck_get kk_Mo_takesBack 7 rfl) ?_
      refine wp_aload_n rfl (ck_get kk_Mo_takesBack 8 rfl) ?_
      refine wp_getR (ck_get kk_Mo_takesBack 9 rfl) fl_Mo_45 (by assumption) (by assumption) ?_
      refine wp_sipush (v := nI 369) (by decide) (ck_get kk_Mo_takesBack 10 rfl) ?_
      refine wp_iload_n rfl (ck_get kk_Mo_takesBack 11 rfl) ?_
      first | refine wp_imulN (ck_get kk_Mo_takesBack 12 rfl) ?_ | refine wp_imul (ck_get kk_Mo_takesBack 12 rfl) ?_
      refine wp_iload_n rfl (ck_get kk_Mo_takesBack 13 rfl) ?_
      first | refine wp_iaddN (ck_get kk_Mo_takesBack 14 rfl) ?_ | refine wp_iadd (ck_get kk_Mo_takesBack 14 rfl) ?_
      refine wp_ialdv (v := mI M (o + 7) (369 * t + i)) (ck_get kk_Mo_takesBack 15 rfl) (by assumption) (ixk_nI (k := 369 * t + i) (by omega) (by omega)) (show up1 (mI M) (o + 2) _ (o + 7) (369 * t + i) = _ by rw [up1_ne (by omega)]) ?_
      refine wp_iast (ck_get kk_Mo_takesBack 16 rfl) (by assumption) (ixk_nI (k := i) (by omega) (by omega)) ?_
      first | refine wp_iincN (ck_get kk_Mo_takesBack 17 rfl) rfl (by decide) rfl ?_ | refine wp_iinc (ck_get kk_Mo_takesBack 17 rfl) rfl (by decide) rfl ?_
      refine wp_goto (t := 2) (ck_get kk_Mo_takesBack 18 rfl) (by decide) ?_
      have e := ih (i + 1) (by omega)
      rw [← cpL_succ (show 0 + i = i by omega) (show 369 * t + i = 369 * t + i by omega)] at e
      exact e
theorem l_takes1_0 {t : Nat} (hM : MoAt (mT M) (mR M) o) (ht : t < 2) {Q : Option Value → Mem → Prop} (K : Wp g Y_Mo_takesBack 0 33 [some (.ref o), some (.int (nI t)), some (.int (nI (369)))] [] (mk2 M (up1 (mI M) (o + 2) (cpL (mI M (o + 2)) (mI M (o + 7)) (0) (369 * t) (369))) (mJ M)) Q) : Wp g Y_Mo_takesBack 0 2 [some (.ref o), some (.int (nI t)), some (.int (nI 0))] [] M Q := by
  have e := l_takes1 hM ht K (369) 0 (by omega)
  rw [cpL_0] at e
  exact e
theorem l_takes2 {t : Nat} (hM : MoAt (mT M) (mR M) o) (ht : t < 2) {Q : Option Value → Mem → Prop} (K : Wp g Y_Mo_takesBack 0 64 [some (.ref o), some (.int (nI t)), some (.int (nI (100)))] [] (mk2 M (mI M) (up1 (mJ M) (o + 3) (cpL (mJ M (o + 3)) (mJ M (o + 8)) (0) (100 * t) (100)))) Q) : ∀ k i, 100 = i + k → Wp g Y_Mo_takesBack 0 35 [some (.ref o), some (.int (nI t)), some (.int (nI i))] [] (mk2 M (mI M) (up1 (mJ M) (o + 3) (cpL (mJ M (o + 3)) (mJ M (o + 8)) (0) (100 * t) (i)))) Q := by
  have to0 := hM.1
  have rfparts := MoAt.r hM 2 rfl
  have tfparts := MoAt.t hM 2 rfl
  have rfasideParts := MoAt.r hM 7 rfl
  have tfasideParts := MoAt.t hM 7 rfl
  intro k
  induction k with
  | zero =>
    intro i h1
    refine wp_iload_n rfl (ck_get kk_Mo_takesBack 21 rfl) ?_
    refine wp_bipush (v := nI 100) (by decide) (ck_get kk_Mo_takesBack 22 rfl) ?_
    first | refine wp_icmp_geN (t := 64) (ck_get kk_Mo_takesBack 23 rfl) (by decide) (by omega) (by omega) (fun hc38 => ?_) (fun hc38 => ?_) | refine wp_icmp_ge (t := 64) (ck_get kk_Mo_takesBack 23 rfl) (by decide) (fun hc38 => ?_) (fun hc38 => ?_)
    · subst h1; exact K
    · omega
  | succ k ih =>
    intro i h1
    refine wp_iload_n rfl (ck_get kk_Mo_takesBack 21 rfl) ?_
    refine wp_bipush (v := nI 100) (by decide) (ck_get kk_Mo_takesBack 22 rfl) ?_
    first | refine wp_icmp_geN (t := 64) (ck_get kk_Mo_takesBack 23 rfl) (by decide) (by omega) (by omega) (fun hc38 => ?_) (fun hc38 => ?_) | refine wp_icmp_ge (t := 64) (ck_get kk_Mo_takesBack 23 rfl) (by decide) (fun hc38 => ?_) (fun hc38 => ?_)
    · omega
    · refine wp_aload_n rfl (ck_get kk_Mo_takesBack 24 rfl) ?_
      refine wp_getR (ck_get kk_Mo_takesBack 25 rfl) fl_Mo_31 (by assumption) (by assumption) ?_
      refine wp_iload_n rfl (ck_get kk_Mo_takesBack 26 rfl) ?_
      refine wp_aload_n rfl (ck_get kk_Mo_takesBack 27 rfl) ?_
      refine wp_getR (ck_get kk_Mo_takesBack 28 rfl) fl_Mo_48 (by assumption) (by assumption) ?_
      refine wp_bipush (v := nI 100) (by decide) (ck_get kk_Mo_takesBack 29 rfl) ?_
      refine wp_iload_n rfl (ck_get kk_Mo_takesBack 30 rfl) ?_
      first | refine wp_imulN (ck_get kk_Mo_takesBack 31 rfl) ?_ | refine wp_imul (ck_get kk_Mo_takesBack 31 rfl) ?_
      refine wp_iload_n rfl (ck_get kk_Mo_takesBack 32 rfl) ?_
      first | refine wp_iaddN (ck_get kk_Mo_takesBack 33 rfl) ?_ | refine wp_iadd (ck_get kk_Mo_takesBack 33 rfl) ?_
      refine wp_laldv (v := mJ M (o + 8) (100 * t + i)) (ck_get kk_Mo_takesBack 34 rfl) (by assumption) (ixk_nI (k := 100 * t + i) (by omega) (by omega)) (show up1 (mJ M) (o + 3) _ (o + 8) (100 * t + i) = _ by rw [up1_ne (by omega)]) ?_
      refine wp_last (ck_get kk_Mo_takesBack 35 rfl) (by assumption) (ixk_nI (k := i) (by omega) (by omega)) ?_
      first | refine wp_iincN (ck_get kk_Mo_takesBack 36 rfl) rfl (by decide) rfl ?_ | refine wp_iinc (ck_get kk_Mo_takesBack 36 rfl) rfl (by decide) rfl ?_
      refine wp_goto (t := 35) (ck_get kk_Mo_takesBack 37 rfl) (by decide) ?_
      have e := ih (i + 1) (by omega)
      rw [← cpL_succ (show 0 + i = i by omega) (show 100 * t + i = 100 * t + i by omega)] at e
      exact e
theorem l_takes2_0 {t : Nat} (hM : MoAt (mT M) (mR M) o) (ht : t < 2) {Q : Option Value → Mem → Prop} (K : Wp g Y_Mo_takesBack 0 64 [some (.ref o), some (.int (nI t)), some (.int (nI (100)))] [] (mk2 M (mI M) (up1 (mJ M) (o + 3) (cpL (mJ M (o + 3)) (mJ M (o + 8)) (0) (100 * t) (100)))) Q) : Wp g Y_Mo_takesBack 0 35 [some (.ref o), some (.int (nI t)), some (.int (nI 0))] [] M Q := by
  have e := l_takes2 hM ht K (100) 0 (by omega)
  rw [cpL_0] at e
  exact e
theorem l_aside1_y {t : Nat} {x : Option Value} : Wp g Y_Mo_laysAside 0 64 [some (.ref o), some (.int (nI t)), x] [] M (fun r M2 => r = none ∧ M2 = M) := by
  refine wp_return (ck_get kk_Mo_laysAside 38 rfl) rfl ⟨rfl, ?_⟩
  rfl
theorem l_aside1_x {t : Nat} (hM : MoAt (mT M) (mR M) o) (ht : t < 2) : Wp g Y_Mo_laysAside 0 33 [some (.ref o), some (.int (nI t)), some (.int (nI 369))] [] (mk2 M (up1 (mI M) (o + 7) (cpL (mI M (o + 7)) (mI M (o + 2)) (369 * t) (0) 369)) (mJ M)) (fun r M2 => r = none ∧ M2 = mk2 M (up1 (mI M) (o + 7) (cpL (mI M (o + 7)) (mI M (o + 2)) (369 * t) (0) 369)) (up1 (mJ M) (o + 8) (cpL (mJ M (o + 8)) (mJ M (o + 3)) (100 * t) (0) 100))) := by
  refine wp_iconst (v := nI 0) (by decide) (ck_get kk_Mo_laysAside 19 rfl) ?_
  refine wp_istore_n (ck_get kk_Mo_laysAside 20 rfl) (by decide) rfl ?_
  have e := l_aside2 (g := g) (M := mk2 M (up1 (mI M) (o + 7) (cpL (mI M (o + 7)) (mI M (o + 2)) (369 * t) (0) 369)) (mJ M)) (Q := fun r M2 => r = none ∧ M2 = mk2 M (up1 (mI M) (o + 7) (cpL (mI M (o + 7)) (mI M (o + 2)) (369 * t) (0) 369)) (up1 (mJ M) (o + 8) (cpL (mJ M (o + 8)) (mJ M (o + 3)) (100 * t) (0) 100))) hM ht ?_ 100 0 (by omega)
  · rw [cpL_0] at e; exact e
  · exact l_aside1_y
theorem m_laysAside {t : Nat} (hM : MoAt (mT M) (mR M) o) (ht : t < 2) : Cv g Y_Mo_laysAside 0 [.ref o, .int (nI t)] M (fun M2 => M2 = mk2 M (up1 (mI M) (o + 7) (cpL (mI M (o + 7)) (mI M (o + 2)) (369 * t) (0) 369)) (up1 (mJ M) (o + 8) (cpL (mJ M (o + 8)) (mJ M (o + 3)) (100 * t) (0) 100))) := by
  refine cw_entry 1 pf_Mo_laysAside rfl ?_
  refine wp_iconst (v := nI 0) (by decide) (ck_get kk_Mo_laysAside 0 rfl) ?_
  refine wp_istore_n (ck_get kk_Mo_laysAside 1 rfl) (by decide) rfl ?_
  have e := l_aside1 (g := g) (Q := fun r M2 => r = none ∧ (fun M2 => M2 = mk2 M (up1 (mI M) (o + 7) (cpL (mI M (o + 7)) (mI M (o + 2)) (369 * t) (0) 369)) (up1 (mJ M) (o + 8) (cpL (mJ M (o + 8)) (mJ M (o + 3)) (100 * t) (0) 100))) M2) hM ht ?_ 369 0 (by omega)
  · rw [cpL_0] at e; exact e
  · exact l_aside1_x hM ht
theorem l_takes1_y {t : Nat} {x : Option Value} : Wp g Y_Mo_takesBack 0 64 [some (.ref o), some (.int (nI t)), x] [] M (fun r M2 => r = none ∧ M2 = M) := by
  refine wp_return (ck_get kk_Mo_takesBack 38 rfl) rfl ⟨rfl, ?_⟩
  rfl
theorem l_takes1_x {t : Nat} (hM : MoAt (mT M) (mR M) o) (ht : t < 2) : Wp g Y_Mo_takesBack 0 33 [some (.ref o), some (.int (nI t)), some (.int (nI 369))] [] (mk2 M (up1 (mI M) (o + 2) (cpL (mI M (o + 2)) (mI M (o + 7)) (0) (369 * t) 369)) (mJ M)) (fun r M2 => r = none ∧ M2 = mk2 M (up1 (mI M) (o + 2) (cpL (mI M (o + 2)) (mI M (o + 7)) (0) (369 * t) 369)) (up1 (mJ M) (o + 3) (cpL (mJ M (o + 3)) (mJ M (o + 8)) (0) (100 * t) 100))) := by
  refine wp_iconst (v := nI 0) (by decide) (ck_get kk_Mo_takesBack 19 rfl) ?_
  refine wp_istore_n (ck_get kk_Mo_takesBack 20 rfl) (by decide) rfl ?_
  have e := l_takes2 (g := g) (M := mk2 M (up1 (mI M) (o + 2) (cpL (mI M (o + 2)) (mI M (o + 7)) (0) (369 * t) 369)) (mJ M)) (Q := fun r M2 => r = none ∧ M2 = mk2 M (up1 (mI M) (o + 2) (cpL (mI M (o + 2)) (mI M (o + 7)) (0) (369 * t) 369)) (up1 (mJ M) (o + 3) (cpL (mJ M (o + 3)) (mJ M (o + 8)) (0) (100 * t) 100))) hM ht ?_ 100 0 (by omega)
  · rw [cpL_0] at e; exact e
  · exact l_takes1_y
theorem m_takesBack {t : Nat} (hM : MoAt (mT M) (mR M) o) (ht : t < 2) : Cv g Y_Mo_takesBack 0 [.ref o, .int (nI t)] M (fun M2 => M2 = mk2 M (up1 (mI M) (o + 2) (cpL (mI M (o + 2)) (mI M (o + 7)) (0) (369 * t) 369)) (up1 (mJ M) (o + 3) (cpL (mJ M (o + 3)) (mJ M (o + 8)) (0) (100 * t) 100))) := by
  refine cw_entry 1 pf_Mo_takesBack rfl ?_
  refine wp_iconst (v := nI 0) (by decide) (ck_get kk_Mo_takesBack 0 rfl) ?_
  refine wp_istore_n (ck_get kk_Mo_takesBack 1 rfl) (by decide) rfl ?_
  have e := l_takes1 (g := g) (Q := fun r M2 => r = none ∧ (fun M2 => M2 = mk2 M (up1 (mI M) (o + 2) (cpL (mI M (o + 2)) (mI M (o + 7)) (0) (369 * t) 369)) (up1 (mJ M) (o + 3) (cpL (mJ M (o + 3)) (mJ M (o + 8)) (0) (100 * t) 100))) M2) hM ht ?_ 369 0 (by omega)
  · rw [cpL_0] at e; exact e
  · exact l_takes1_x hM ht
end MC

/-! ===== the model lays tokens, and what can be undone ===== -/
section LYA
variable {g : Gl} {M : Mem} {o : Nat}
theorem l_lu1 {a b c d : Nat} (hta : mT M a = (20, 5920)) (htc : mT M c = (20, 5920)) (hac : c ≠ a) {Q : Option Value → Mem → Prop} (K : Wp g Y_Mo_laysUndone 0 25 [some (.ref o), some (.ref a), some (.ref b), some (.ref c), some (.ref d), some (.int (nI 5920))] [] (cI2 M a c 0 0 5920) Q) :
    ∀ k i, i + k = 5920 → Wp g Y_Mo_laysUndone 0 3 [some (.ref o), some (.ref a), some (.ref b), some (.ref c), some (.ref d), some (.int (nI i))] [] (cI2 M a c 0 0 i) Q := by
  intro k
  induction k with
  | zero =>
    intro i h1
    refine wp_iload rfl (ck_get kk_Mo_laysUndone 2 rfl) ?_
    refine wp_sipush (v := nI 5920) (by decide) (ck_get kk_Mo_laysUndone 3 rfl) ?_
    first | refine wp_icmp_geN (t := 25) (ck_get kk_Mo_laysUndone 4 rfl) (by decide) (by omega) (by omega) (fun hc8 => ?_) (fun hc8 => ?_) | refine wp_icmp_ge (t := 25) (ck_get kk_Mo_laysUndone 4 rfl) (by decide) (fun hc8 => ?_) (fun hc8 => ?_)
    · rw [show i = 5920 by omega]; exact K
    · omega
  | succ k ih =>
    intro i h1
    refine wp_iload rfl (ck_get kk_Mo_laysUndone 2 rfl) ?_
    refine wp_sipush (v := nI 5920) (by decide) (ck_get kk_Mo_laysUndone 3 rfl) ?_
    first | refine wp_icmp_geN (t := 25) (ck_get kk_Mo_laysUndone 4 rfl) (by decide) (by omega) (by omega) (fun hc8 => ?_) (fun hc8 => ?_) | refine wp_icmp_ge (t := 25) (ck_get kk_Mo_laysUndone 4 rfl) (by decide) (fun hc8 => ?_) (fun hc8 => ?_)
    · omega
    · refine wp_aload_n rfl (ck_get kk_Mo_laysUndone 5 rfl) ?_
      refine wp_iload rfl (ck_get kk_Mo_laysUndone 6 rfl) ?_
      refine wp_aload_n rfl (ck_get kk_Mo_laysUndone 7 rfl) ?_
      refine wp_iload rfl (ck_get kk_Mo_laysUndone 8 rfl) ?_
      refine wp_ialdv (v := mI M c i) (ck_get kk_Mo_laysUndone 9 rfl) (by assumption) (ixk_nI (k := i) (by omega) (by omega)) (show up1 (mI M) a _ c i = _ by rw [up1_ne hac]) ?_
      refine wp_iast (ck_get kk_Mo_laysUndone 10 rfl) (by assumption) (ixk_nI (k := i) (by omega) (by omega)) ?_
      first | refine wp_iincN (ck_get kk_Mo_laysUndone 11 rfl) rfl (by decide) rfl ?_ | refine wp_iinc (ck_get kk_Mo_laysUndone 11 rfl) rfl (by decide) rfl ?_
      refine wp_goto (t := 3) (ck_get kk_Mo_laysUndone 12 rfl) (by decide) ?_
      have e := ih (i + 1) (by omega)
      unfold cI2 at e
      rw [← cpL_succ (show 0 + i = i by omega) (show 0 + i = i by omega)] at e
      exact e
theorem l_lu2 {a b c d : Nat} {x5 : Option Value} (htb : mT M b = (21, 1600)) (htd : mT M d = (21, 1600)) (hbd : d ≠ b) {Q : Option Value → Mem → Prop} (K : Q none (cJ2 M b d 0 0 1600)) :
    ∀ k i, i + k = 1600 → Wp g Y_Mo_laysUndone 0 28 [some (.ref o), some (.ref a), some (.ref b), some (.ref c), some (.ref d), some (.int (nI i))] [] (cJ2 M b d 0 0 i) (fun r M2 => r = none ∧ Q none M2) := by
  intro k
  induction k with
  | zero =>
    intro i h1
    refine wp_iload rfl (ck_get kk_Mo_laysUndone 15 rfl) ?_
    refine wp_sipush (v := nI 1600) (by decide) (ck_get kk_Mo_laysUndone 16 rfl) ?_
    first | refine wp_icmp_geN (t := 51) (ck_get kk_Mo_laysUndone 17 rfl) (by decide) (by omega) (by omega) (fun hc33 => ?_) (fun hc33 => ?_) | refine wp_icmp_ge (t := 51) (ck_get kk_Mo_laysUndone 17 rfl) (by decide) (fun hc33 => ?_) (fun hc33 => ?_)
    · refine wp_return (ck_get kk_Mo_laysUndone 26 rfl) rfl ⟨rfl, ?_⟩
      rw [show i = 1600 by omega]; exact K
    · omega
  | succ k ih =>
    intro i h1
    refine wp_iload rfl (ck_get kk_Mo_laysUndone 15 rfl) ?_
    refine wp_sipush (v := nI 1600) (by decide) (ck_get kk_Mo_laysUndone 16 rfl) ?_
    first | refine wp_icmp_geN (t := 51) (ck_get kk_Mo_laysUndone 17 rfl) (by decide) (by omega) (by omega) (fun hc33 => ?_) (fun hc33 => ?_) | refine wp_icmp_ge (t := 51) (ck_get kk_Mo_laysUndone 17 rfl) (by decide) (fun hc33 => ?_) (fun hc33 => ?_)
    · omega
    · refine wp_aload_n rfl (ck_get kk_Mo_laysUndone 18 rfl) ?_
      refine wp_iload rfl (ck_get kk_Mo_laysUndone 19 rfl) ?_
      refine wp_aload rfl (ck_get kk_Mo_laysUndone 20 rfl) ?_
      refine wp_iload rfl (ck_get kk_Mo_laysUndone 21 rfl) ?_
      refine wp_laldv (v := mJ M d i) (ck_get kk_Mo_laysUndone 22 rfl) (by assumption) (ixk_nI (k := i) (by omega) (by omega)) (show up1 (mJ M) b _ d i = _ by rw [up1_ne hbd]) ?_
      refine wp_last (ck_get kk_Mo_laysUndone 23 rfl) (by assumption) (ixk_nI (k := i) (by omega) (by omega)) ?_
      first | refine wp_iincN (ck_get kk_Mo_laysUndone 24 rfl) rfl (by decide) rfl ?_ | refine wp_iinc (ck_get kk_Mo_laysUndone 24 rfl) rfl (by decide) rfl ?_
      refine wp_goto (t := 28) (ck_get kk_Mo_laysUndone 25 rfl) (by decide) ?_
      have e := ih (i + 1) (by omega)
      unfold cJ2 at e
      rw [← cpL_succ (show 0 + i = i by omega) (show 0 + i = i by omega)] at e
      exact e
theorem m_laysUndone {a b c d : Nat} (hta : mT M a = (20, 5920)) (htb : mT M b = (21, 1600)) (htc : mT M c = (20, 5920)) (htd : mT M d = (21, 1600)) (hac : c ≠ a) (hbd : d ≠ b) :
    Cv g Y_Mo_laysUndone 0 [.ref o, .ref a, .ref b, .ref c, .ref d] M (fun M2 => M2 = cJ2 (cI2 M a c 0 0 5920) b d 0 0 1600) := by
  refine cw_entry 1 pf_Mo_laysUndone rfl ?_
  have e0 : cI2 M a c 0 0 0 = M := by show mk2 M (up1 (mI M) a (cpL (mI M a) (mI M c) 0 0 0)) (mJ M) = M; rw [cpL_0]
  refine wp_iconst (v := nI 0) (by decide) (ck_get kk_Mo_laysUndone 0 rfl) ?_
  refine wp_istore (ck_get kk_Mo_laysUndone 1 rfl) (by decide) rfl ?_
  have e1 := l_lu1 (g := g) (o := o) (b := b) (d := d) hta htc hac (Q := fun r M2 => r = none ∧ M2 = cJ2 (cI2 M a c 0 0 5920) b d 0 0 1600) ?_ 5920 0 (by omega)
  · rw [e0] at e1; exact e1
  · have e2 := l_lu2 (g := g) (M := cI2 M a c 0 0 5920) (o := o) (a := a) (c := c) (x5 := none) (by exact htb) (by exact htd) hbd (Q := fun _ M2 => M2 = cJ2 (cI2 M a c 0 0 5920) b d 0 0 1600) rfl 1600 0 (by omega)
    have e3 : cJ2 (cI2 M a c 0 0 5920) b d 0 0 0 = cI2 M a c 0 0 5920 := by show mk2 (cI2 M a c 0 0 5920) (mI (cI2 M a c 0 0 5920)) (up1 (mJ M) b (cpL (mJ M b) (mJ M d) 0 0 0)) = _; rw [cpL_0]
    rw [e3] at e2
    refine wp_iconst (v := nI 0) (by decide) (ck_get kk_Mo_laysUndone 13 rfl) ?_
    refine wp_istore (ck_get kk_Mo_laysUndone 14 rfl) (by decide) rfl ?_
    exact e2
/-- the tokens laid as text t -/
def lyK (K C V : Nat → Int32) (N t k : Nat) : Nat → Int32 := fun x => if x = 388 + t then nI N else if 395 + 400 * t ≤ x ∧ x < 395 + 400 * t + k then C (x - (395 + 400 * t)) else if 3195 + 400 * t ≤ x ∧ x < 3195 + 400 * t + k then V (x - (3195 + 400 * t)) else K x
theorem lyK_0 {K C V : Nat → Int32} {N t : Nat} : lyK K C V N t 0 = up1 K (388 + t) (nI N) := by
  funext x
  unfold lyK up1
  by_cases h : x = 388 + t
  · rw [if_pos h, if_pos h]
  · rw [if_neg h, if_neg h, if_neg (by omega), if_neg (by omega)]
theorem lyK_succ {K C V : Nat → Int32} {N t k : Nat} (ht : t < 7) (hk : k < 400) : up1 (up1 (lyK K C V N t k) (395 + 400 * t + k) (C k)) (3195 + 400 * t + k) (V k) = lyK K C V N t (k + 1) := by
  funext x
  unfold lyK up1
  by_cases h1 : x = 3195 + 400 * t + k
  · subst h1
    rw [if_pos rfl, if_neg (by omega), if_neg (by omega), if_pos (by omega), Nat.add_sub_cancel_left]
  · rw [if_neg h1]
    by_cases h2 : x = 395 + 400 * t + k
    · subst h2
      rw [if_pos rfl, if_neg (by omega), if_pos (by omega), Nat.add_sub_cancel_left]
    · rw [if_neg h2]
      dsimp only
      by_cases h3 : x = 388 + t
      · rw [if_pos h3, if_pos h3]
      · rw [if_neg h3, if_neg h3]
        by_cases h4 : 395 + 400 * t ≤ x ∧ x < 395 + 400 * t + k
        · rw [if_pos h4, if_pos (by omega)]
        · rw [if_neg h4, if_neg (show ¬ (395 + 400 * t ≤ x ∧ x < 395 + 400 * t + (k + 1)) by omega)]
          by_cases h5 : 3195 + 400 * t ≤ x ∧ x < 3195 + 400 * t + k
          · rw [if_pos h5, if_pos (by omega)]
          · rw [if_neg h5, if_neg (by omega)]
abbrev lyM (M : Mem) (o N t k : Nat) : Mem := mk2 M (up1 (mI M) (o + 2) (lyK (mI M (o + 2)) (mI M (o + 12)) (mI M (o + 13)) N t k)) (mJ M)
theorem m_lays {N t : Nat} (hM : MoAt (mT M) (mR M) o) (h21 : mI M o 21 = nI N) (hN : N ≤ 400) (ht : t < 7) : Cv g Y_Mo_lays 0 [.ref o, .int (nI t)] M (fun M2 => M2 = lyM M o N t N) := by
  have to0 := hM.1
  have rfkept := MoAt.r hM 1 rfl
  have tfkept := MoAt.t hM 1 rfl
  have rfcode := MoAt.r hM 11 rfl
  have tfcode := MoAt.t hM 11 rfl
  have rfvalue := MoAt.r hM 12 rfl
  have tfvalue := MoAt.t hM 12 rfl
  have hloop : ∀ d k, k + d = N → Wp g Y_Mo_lays 0 16 [some (.ref o), some (.int (nI t)), some (.int (nI k))] [] (lyM M o N t k) (fun r M2 => r = none ∧ M2 = lyM M o N t N) := by
    intro d
    induction d with
    | zero =>
      intro k hk
      refine wp_iload_n rfl (ck_get kk_Mo_lays 10 rfl) ?_
      refine wp_aload_n rfl (ck_get kk_Mo_lays 11 rfl) ?_
      refine wp_getIv (v := nI N) (ck_get kk_Mo_lays 12 rfl) fl_Mo_188 (by assumption) (show up1 (mI M) (o + 2) _ o 21 = _ by rw [up1_ne (by omega)]; exact h21) ?_
      first | refine wp_icmp_geN (t := 74) (ck_get kk_Mo_lays 13 rfl) (by decide) (by omega) (by omega) (fun hc21 => ?_) (fun hc21 => ?_) | refine wp_icmp_ge (t := 74) (ck_get kk_Mo_lays 13 rfl) (by decide) (fun hc21 => ?_) (fun hc21 => ?_)
      · refine wp_return (ck_get kk_Mo_lays 44 rfl) rfl ⟨rfl, ?_⟩
        rw [show k = N by omega]
      · omega
    | succ d ih =>
      intro k hk
      refine wp_iload_n rfl (ck_get kk_Mo_lays 10 rfl) ?_
      refine wp_aload_n rfl (ck_get kk_Mo_lays 11 rfl) ?_
      refine wp_getIv (v := nI N) (ck_get kk_Mo_lays 12 rfl) fl_Mo_188 (by assumption) (show up1 (mI M) (o + 2) _ o 21 = _ by rw [up1_ne (by omega)]; exact h21) ?_
      first | refine wp_icmp_geN (t := 74) (ck_get kk_Mo_lays 13 rfl) (by decide) (by omega) (by omega) (fun hc21 => ?_) (fun hc21 => ?_) | refine wp_icmp_ge (t := 74) (ck_get kk_Mo_lays 13 rfl) (by decide) (fun hc21 => ?_) (fun hc21 => ?_)
      · omega
      · refine wp_aload_n rfl (ck_get kk_Mo_lays 14 rfl) ?_
        refine wp_getR (ck_get kk_Mo_lays 15 rfl) fl_Mo_28 (by assumption) (by assumption) ?_
        refine wp_sipush (v := nI 395) (by decide) (ck_get kk_Mo_lays 16 rfl) ?_
        refine wp_sipush (v := nI 400) (by decide) (ck_get kk_Mo_lays 17 rfl) ?_
        refine wp_iload_n rfl (ck_get kk_Mo_lays 18 rfl) ?_
        first | refine wp_imulN (ck_get kk_Mo_lays 19 rfl) ?_ | refine wp_imul (ck_get kk_Mo_lays 19 rfl) ?_
        first | refine wp_iaddN (ck_get kk_Mo_lays 20 rfl) ?_ | refine wp_iadd (ck_get kk_Mo_lays 20 rfl) ?_
        refine wp_iload_n rfl (ck_get kk_Mo_lays 21 rfl) ?_
        first | refine wp_iaddN (ck_get kk_Mo_lays 22 rfl) ?_ | refine wp_iadd (ck_get kk_Mo_lays 22 rfl) ?_
        refine wp_aload_n rfl (ck_get kk_Mo_lays 23 rfl) ?_
        refine wp_getR (ck_get kk_Mo_lays 24 rfl) fl_Mo_64 (by assumption) (by assumption) ?_
        refine wp_iload_n rfl (ck_get kk_Mo_lays 25 rfl) ?_
        refine wp_ialdv (v := mI M (o + 12) k) (ck_get kk_Mo_lays 26 rfl) (by assumption) (ixk_nI (k := k) (by omega) (by omega)) (show up1 (mI M) (o + 2) _ (o + 12) k = _ by rw [up1_ne (by omega)]) ?_
        refine wp_iast (ck_get kk_Mo_lays 27 rfl) (by assumption) (ixk_nI (k := 395 + 400 * t + k) (by omega) (by omega)) ?_
        refine wp_aload_n rfl (ck_get kk_Mo_lays 28 rfl) ?_
        refine wp_getR (ck_get kk_Mo_lays 29 rfl) fl_Mo_28 (by assumption) (by assumption) ?_
        refine wp_sipush (v := nI 3195) (by decide) (ck_get kk_Mo_lays 30 rfl) ?_
        refine wp_sipush (v := nI 400) (by decide) (ck_get kk_Mo_lays 31 rfl) ?_
        refine wp_iload_n rfl (ck_get kk_Mo_lays 32 rfl) ?_
        first | refine wp_imulN (ck_get kk_Mo_lays 33 rfl) ?_ | refine wp_imul (ck_get kk_Mo_lays 33 rfl) ?_
        first | refine wp_iaddN (ck_get kk_Mo_lays 34 rfl) ?_ | refine wp_iadd (ck_get kk_Mo_lays 34 rfl) ?_
        refine wp_iload_n rfl (ck_get kk_Mo_lays 35 rfl) ?_
        first | refine wp_iaddN (ck_get kk_Mo_lays 36 rfl) ?_ | refine wp_iadd (ck_get kk_Mo_lays 36 rfl) ?_
        refine wp_aload_n rfl (ck_get kk_Mo_lays 37 rfl) ?_
        refine wp_getR (ck_get kk_Mo_lays 38 rfl) fl_Mo_67 (by assumption) (by assumption) ?_
        refine wp_iload_n rfl (ck_get kk_Mo_lays 39 rfl) ?_
        refine wp_ialdv (v := mI M (o + 13) k) (ck_get kk_Mo_lays 40 rfl) (by assumption) (ixk_nI (k := k) (by omega) (by omega)) (show up2 (up1 (mI M) (o + 2) _) (o + 2) _ _ (o + 13) k = _ by rw [up2_up1, up1_ne (by omega), up1_ne (by omega)]) ?_
        refine wp_iast (ck_get kk_Mo_lays 41 rfl) (by assumption) (ixk_nI (k := 3195 + 400 * t + k) (by omega) (by omega)) ?_
        first | refine wp_iincN (ck_get kk_Mo_lays 42 rfl) rfl (by decide) rfl ?_ | refine wp_iinc (ck_get kk_Mo_lays 42 rfl) rfl (by decide) rfl ?_
        refine wp_goto (t := 16) (ck_get kk_Mo_lays 43 rfl) (by decide) ?_
        have e := ih (k + 1) (by omega)
        refine Eq.mp (congrArg (fun m => Wp g Y_Mo_lays 0 16 [some (.ref o), some (.int (nI t)), some (.int (nI (k + 1)))] [] m _) ?_) e
        refine mk2_ext (M := M) ?_ rfl
        show up1 (mI M) (o + 2) (lyK _ _ _ N t (k + 1)) = up2 (up2 (up1 (mI M) (o + 2) _) (o + 2) _ _) (o + 2) _ _
        rw [up2_up1, up2_up1, up1_eq, up1_up1, up1_eq, up1_up1, lyK_succ ht (by omega)]
  have hst := hloop N 0 (by omega)
  have e0 : lyM M o N t 0 = sI M (o + 2) (388 + t) (nI N) := by
    refine mk2_ext (M := M) ?_ rfl
    rw [lyK_0, up2_up1]
  rw [e0] at hst
  refine cw_entry 1 pf_Mo_lays rfl ?_
  refine wp_aload_n rfl (ck_get kk_Mo_lays 0 rfl) ?_
  refine wp_getR (ck_get kk_Mo_lays 1 rfl) fl_Mo_28 (by assumption) (by assumption) ?_
  refine wp_sipush (v := nI 388) (by decide) (ck_get kk_Mo_lays 2 rfl) ?_
  refine wp_iload_n rfl (ck_get kk_Mo_lays 3 rfl) ?_
  first | refine wp_iaddN (ck_get kk_Mo_lays 4 rfl) ?_ | refine wp_iadd (ck_get kk_Mo_lays 4 rfl) ?_
  refine wp_aload_n rfl (ck_get kk_Mo_lays 5 rfl) ?_
  refine wp_getIv (v := nI N) (ck_get kk_Mo_lays 6 rfl) fl_Mo_188 (by assumption) (h21) ?_
  refine wp_iast (ck_get kk_Mo_lays 7 rfl) (by assumption) (ixk_nI (k := 388 + t) (by omega) (by omega)) ?_
  refine wp_iconst (v := nI 0) (by decide) (ck_get kk_Mo_lays 8 rfl) ?_
  refine wp_istore_n (ck_get kk_Mo_lays 9 rfl) (by decide) rfl ?_
  exact hst
end LYA

/-! ===== MissCurvesModel: samples emptied, time ===== -/
section MT
variable {g : Gl} {M : Mem} {o : Nat}
/-- behind the first i tenants: no sample, the limit 1000 -/
def esF (K : Nat → Int32) (i y : Nat) : Int32 := if y < 92 * i ∧ y % 92 = 58 then nI 1000 else if y < 92 * i ∧ y % 92 = 50 then nI 0 else K y
theorem esF_succ {I : Nat → Nat → Int32} {a i : Nat} : up2 (up2 (up1 I a (esF (I a) i)) a (92 * i + 50) (nI 0)) a (92 * i + 58) (nI 1000) = up1 I a (esF (I a) (i + 1)) := by
  funext x y
  unfold up2 up1 esF
  by_cases hx : x = a
  · subst hx
    simp only [true_and, if_true]
    repeat' split
    all_goals first | rfl | (exfalso; omega)
  · simp [hx]
theorem l_empties1 (hM : MoAt (mT M) (mR M) o) {Q : Option Value → Mem → Prop} (K : Wp g Y_Mo_emptiesSamples 1 39 [some (.ref o), some (.int (nI 4))] [] (mk2 M (up1 (mI M) (o + 2) (esF (mI M (o + 2)) 4)) (mJ M)) Q) : ∀ k i, 4 = i + k → Wp g Y_Mo_emptiesSamples 1 2 [some (.ref o), some (.int (nI i))] [] (mk2 M (up1 (mI M) (o + 2) (esF (mI M (o + 2)) i)) (mJ M)) Q := by
  have to0 := hM.1
  have rfkept := MoAt.r hM 1 rfl
  have tfkept := MoAt.t hM 1 rfl
  intro k
  induction k with
  | zero =>
    intro i h1
    refine wp_iload_n rfl (ck_get kk_Mo_emptiesSamples 2 rfl) ?_
    refine wp_iconst (v := nI 4) (by decide) (ck_get kk_Mo_emptiesSamples 3 rfl) ?_
    first | refine wp_icmp_geN (t := 39) (ck_get kk_Mo_emptiesSamples 4 rfl) (by decide) (by omega) (by omega) (fun hc4 => ?_) (fun hc4 => ?_) | refine wp_icmp_ge (t := 39) (ck_get kk_Mo_emptiesSamples 4 rfl) (by decide) (fun hc4 => ?_) (fun hc4 => ?_)
    · subst h1; exact K
    · omega
  | succ k ih =>
    intro i h1
    refine wp_iload_n rfl (ck_get kk_Mo_emptiesSamples 2 rfl) ?_
    refine wp_iconst (v := nI 4) (by decide) (ck_get kk_Mo_emptiesSamples 3 rfl) ?_
    first | refine wp_icmp_geN (t := 39) (ck_get kk_Mo_emptiesSamples 4 rfl) (by decide) (by omega) (by omega) (fun hc4 => ?_) (fun hc4 => ?_) | refine wp_icmp_ge (t := 39) (ck_get kk_Mo_emptiesSamples 4 rfl) (by decide) (fun hc4 => ?_) (fun hc4 => ?_)
    · omega
    · refine wp_aload_n rfl (ck_get kk_Mo_emptiesSamples 5 rfl) ?_
      refine wp_getR (ck_get kk_Mo_emptiesSamples 6 rfl) fl_Mo_28 (by assumption) (by assumption) ?_
      refine wp_iload_n rfl (ck_get kk_Mo_emptiesSamples 7 rfl) ?_
      refine wp_bipush (v := nI 50) (by decide) (ck_get kk_Mo_emptiesSamples 8 rfl) ?_
      refine wp_cS2i (ck_get kk_Mo_emptiesSamples 9 rfl) ml_Mo_142 (by omega) (Nat.le_of_ble_eq_true rfl) (Ci.to (m_at) ?_)
      rintro _ M1 ⟨rfl, eqm1⟩
      obtain rfl := eqm1.symm
      refine wp_iconst (v := nI 0) (by decide) (ck_get kk_Mo_emptiesSamples 10 rfl) ?_
      refine wp_iast (ck_get kk_Mo_emptiesSamples 11 rfl) (by assumption) (ixk_nI (k := 92 * i + 50) (by omega) (by omega)) ?_
      refine wp_aload_n rfl (ck_get kk_Mo_emptiesSamples 12 rfl) ?_
      refine wp_getR (ck_get kk_Mo_emptiesSamples 13 rfl) fl_Mo_28 (by assumption) (by assumption) ?_
      refine wp_iload_n rfl (ck_get kk_Mo_emptiesSamples 14 rfl) ?_
      refine wp_bipush (v := nI 58) (by decide) (ck_get kk_Mo_emptiesSamples 15 rfl) ?_
      refine wp_cS2i (ck_get kk_Mo_emptiesSamples 16 rfl) ml_Mo_142 (by omega) (Nat.le_of_ble_eq_true rfl) (Ci.to (m_at) ?_)
      rintro _ M1 ⟨rfl, eqm1⟩
      obtain rfl := eqm1.symm
      refine wp_sipush (v := nI 1000) (by decide) (ck_get kk_Mo_emptiesSamples 17 rfl) ?_
      refine wp_iast (ck_get kk_Mo_emptiesSamples 18 rfl) (by assumption) (ixk_nI (k := 92 * i + 58) (by omega) (by omega)) ?_
      first | refine wp_iincN (ck_get kk_Mo_emptiesSamples 19 rfl) rfl (by decide) rfl ?_ | refine wp_iinc (ck_get kk_Mo_emptiesSamples 19 rfl) rfl (by decide) rfl ?_
      refine wp_goto (t := 2) (ck_get kk_Mo_emptiesSamples 20 rfl) (by decide) ?_
      have e := ih (i + 1) (by omega)
      rw [← esF_succ] at e
      exact e
theorem l_empties2 (hM : MoAt (mT M) (mR M) o) : ∀ k i, 100 = i + k → Wp g Y_Mo_emptiesSamples 1 41 [some (.ref o), some (.int (nI i))] [] (mk2 M (mI M) (up1 (mJ M) (o + 3) (flJ (mJ M (o + 3)) i 0))) (fun r M2 => r = none ∧ M2 = mk2 M (mI M) (up1 (mJ M) (o + 3) (flJ (mJ M (o + 3)) 100 0))) := by
  have to0 := hM.1
  have rfparts := MoAt.r hM 2 rfl
  have tfparts := MoAt.t hM 2 rfl
  intro k
  induction k with
  | zero =>
    intro i h1
    refine wp_iload_n rfl (ck_get kk_Mo_emptiesSamples 23 rfl) ?_
    refine wp_bipush (v := nI 100) (by decide) (ck_get kk_Mo_emptiesSamples 24 rfl) ?_
    first | refine wp_icmp_geN (t := 60) (ck_get kk_Mo_emptiesSamples 25 rfl) (by decide) (by omega) (by omega) (fun hc44 => ?_) (fun hc44 => ?_) | refine wp_icmp_ge (t := 60) (ck_get kk_Mo_emptiesSamples 25 rfl) (by decide) (fun hc44 => ?_) (fun hc44 => ?_)
    · refine wp_return (ck_get kk_Mo_emptiesSamples 33 rfl) rfl ⟨rfl, ?_⟩
      subst h1; rfl
    · omega
  | succ k ih =>
    intro i h1
    refine wp_iload_n rfl (ck_get kk_Mo_emptiesSamples 23 rfl) ?_
    refine wp_bipush (v := nI 100) (by decide) (ck_get kk_Mo_emptiesSamples 24 rfl) ?_
    first | refine wp_icmp_geN (t := 60) (ck_get kk_Mo_emptiesSamples 25 rfl) (by decide) (by omega) (by omega) (fun hc44 => ?_) (fun hc44 => ?_) | refine wp_icmp_ge (t := 60) (ck_get kk_Mo_emptiesSamples 25 rfl) (by decide) (fun hc44 => ?_) (fun hc44 => ?_)
    · omega
    · refine wp_aload_n rfl (ck_get kk_Mo_emptiesSamples 26 rfl) ?_
      refine wp_getR (ck_get kk_Mo_emptiesSamples 27 rfl) fl_Mo_31 (by assumption) (by assumption) ?_
      refine wp_iload_n rfl (ck_get kk_Mo_emptiesSamples 28 rfl) ?_
      refine wp_lconst (v := 0) (by decide) (ck_get kk_Mo_emptiesSamples 29 rfl) ?_
      refine wp_last (ck_get kk_Mo_emptiesSamples 30 rfl) (by assumption) (by first | assumption | exact ixk_nI (by omega) (by omega)) ?_
      first | refine wp_iincN (ck_get kk_Mo_emptiesSamples 31 rfl) rfl (by decide) rfl ?_ | refine wp_iinc (ck_get kk_Mo_emptiesSamples 31 rfl) rfl (by decide) rfl ?_
      refine wp_goto (t := 41) (ck_get kk_Mo_emptiesSamples 32 rfl) (by decide) ?_
      have e := ih (i + 1) (by omega)
      rw [← flJ_succ] at e
      exact e
abbrev esM (M : Mem) (o : Nat) : Mem := mk2 M (up1 (mI M) (o + 2) (esF (mI M (o + 2)) 4)) (up1 (mJ M) (o + 3) (flJ (mJ M (o + 3)) 100 0))
theorem l_empties3 (hM : MoAt (mT M) (mR M) o) : Wp g Y_Mo_emptiesSamples 1 39 [some (.ref o), some (.int (nI 4))] [] (mk2 M (up1 (mI M) (o + 2) (esF (mI M (o + 2)) 4)) (mJ M)) (fun r M2 => r = none ∧ M2 = esM M o) := by
  have e1 : up1 (mJ M) (o + 3) (flJ (mJ M (o + 3)) 0 0) = mJ M := up1_id (by funext y; unfold flJ; rw [if_neg (by omega)])
  refine wp_iconst (v := nI 0) (by decide) (ck_get kk_Mo_emptiesSamples 21 rfl) ?_
  refine wp_istore_n (ck_get kk_Mo_emptiesSamples 22 rfl) (by decide) rfl ?_
  have e := l_empties2 (g := g) (M := mk2 M (up1 (mI M) (o + 2) (esF (mI M (o + 2)) 4)) (mJ M)) hM 100 0 (by omega)
  rw [e1] at e
  exact e
theorem m_emptiesSamples (hM : MoAt (mT M) (mR M) o) : Cv g Y_Mo_emptiesSamples 1 [.ref o] M (fun M2 => M2 = esM M o) := by
  refine cw_entry 1 pf_Mo_emptiesSamples rfl ?_
  have hM0 := hM
  have e0 : up1 (mI M) (o + 2) (esF (mI M (o + 2)) 0) = mI M := up1_id (by funext y; unfold esF; rw [if_neg (by omega), if_neg (by omega)])
  refine wp_iconst (v := nI 0) (by decide) (ck_get kk_Mo_emptiesSamples 0 rfl) ?_
  refine wp_istore_n (ck_get kk_Mo_emptiesSamples 1 rfl) (by decide) rfl ?_
  have e := l_empties1 (g := g) (Q := fun r M2 => r = none ∧ (fun M2 => M2 = esM M o) M2) hM0 ?_ 4 0 (by omega)
  · rw [e0] at e; exact e
  · exact l_empties3 hM0
/-- costs of the first i tenants halved, of the next one at the first c places -/
def tpF (K : Nat → Int32) (i c y : Nat) : Int32 := if (y < 92 * i ∧ 25 ≤ y % 92 ∧ y % 92 < 50) ∨ (92 * i + 25 ≤ y ∧ y < 92 * i + 25 + c) then K y / 2 else K y
theorem tpF_succ {I : Nat → Nat → Int32} {a i c : Nat} (hc : c < 25) : up2 (up1 I a (tpF (I a) i c)) a (92 * i + (25 + c)) (I a (92 * i + (25 + c)) / 2) = up1 I a (tpF (I a) i (c + 1)) := by
  funext x y
  unfold up2 up1 tpF
  by_cases hx : x = a
  · subst hx
    simp only [true_and, if_true]
    by_cases h1 : y = 92 * i + (25 + c)
    · subst h1; rw [if_pos rfl, if_pos (by omega)]
    · rw [if_neg h1]
      by_cases h2 : (y < 92 * i ∧ 25 ≤ y % 92 ∧ y % 92 < 50) ∨ (92 * i + 25 ≤ y ∧ y < 92 * i + 25 + c)
      · rw [if_pos h2, if_pos (by omega)]
      · rw [if_neg h2, if_neg (by omega)]
  · simp [hx]
theorem tpF_next {K : Nat → Int32} {i : Nat} : tpF K i 25 = tpF K (i + 1) 0 := by
  funext y
  unfold tpF
  by_cases h2 : (y < 92 * i ∧ 25 ≤ y % 92 ∧ y % 92 < 50) ∨ (92 * i + 25 ≤ y ∧ y < 92 * i + 25 + 25)
  · rw [if_pos h2, if_pos (by omega)]
  · rw [if_neg h2, if_neg (by omega)]
/-- the sum of the halved costs: of tenant i the first c, and of all tenants ahead -/
def tpS (K : Nat → Int32) : Nat → Int32
  | 0 => 0
  | i + 1 => tpS K i + sumI (fun y => K (92 * i + 25 + y) / 2) 0 25
theorem l_time1 {i : Nat} (hM : MoAt (mT M) (mR M) o) (hi : i < 4) {Q : Option Value → Mem → Prop} (K : Wp g Y_Mo_timePasses 1 56 [some (.ref o), some (.int (tpS (mI M (o + 2)) (i + 1))), some (.int (nI i)), some (.int (nI 25))] [] (mk2 M (up1 (mI M) (o + 2) (tpF (mI M (o + 2)) i 25)) (mJ M)) Q) : ∀ k c, 25 = c + k → Wp g Y_Mo_timePasses 1 11 [some (.ref o), some (.int (tpS (mI M (o + 2)) i + sumI (fun y => mI M (o + 2) (92 * i + 25 + y) / 2) 0 c)), some (.int (nI i)), some (.int (nI c))] [] (mk2 M (up1 (mI M) (o + 2) (tpF (mI M (o + 2)) i c)) (mJ M)) Q := by
  have to0 := hM.1
  have rfkept := MoAt.r hM 1 rfl
  have tfkept := MoAt.t hM 1 rfl
  intro k
  induction k with
  | zero =>
    intro c h1
    refine wp_iload_n rfl (ck_get kk_Mo_timePasses 9 rfl) ?_
    refine wp_bipush (v := nI 25) (by decide) (ck_get kk_Mo_timePasses 10 rfl) ?_
    first | refine wp_icmp_geN (t := 56) (ck_get kk_Mo_timePasses 11 rfl) (by decide) (by omega) (by omega) (fun hc14 => ?_) (fun hc14 => ?_) | refine wp_icmp_ge (t := 56) (ck_get kk_Mo_timePasses 11 rfl) (by decide) (fun hc14 => ?_) (fun hc14 => ?_)
    · subst h1; exact K
    · omega
  | succ k ih =>
    intro c h1
    have ev1 : up1 (mI M) (o + 2) (tpF (mI M (o + 2)) i c) (o + 2) (92 * i + (25 + c)) = mI M (o + 2) (92 * i + (25 + c)) := by rw [up1_eq, tpF, if_neg (by omega)]
    refine wp_iload_n rfl (ck_get kk_Mo_timePasses 9 rfl) ?_
    refine wp_bipush (v := nI 25) (by decide) (ck_get kk_Mo_timePasses 10 rfl) ?_
    first | refine wp_icmp_geN (t := 56) (ck_get kk_Mo_timePasses 11 rfl) (by decide) (by omega) (by omega) (fun hc14 => ?_) (fun hc14 => ?_) | refine wp_icmp_ge (t := 56) (ck_get kk_Mo_timePasses 11 rfl) (by decide) (fun hc14 => ?_) (fun hc14 => ?_)
    · omega
    · refine wp_aload_n rfl (ck_get kk_Mo_timePasses 12 rfl) ?_
      refine wp_getR (ck_get kk_Mo_timePasses 13 rfl) fl_Mo_28 (by assumption) (by assumption) ?_
      refine wp_iload_n rfl (ck_get kk_Mo_timePasses 14 rfl) ?_
      refine wp_bipush (v := nI 25) (by decide) (ck_get kk_Mo_timePasses 15 rfl) ?_
      refine wp_iload_n rfl (ck_get kk_Mo_timePasses 16 rfl) ?_
      first | refine wp_iaddN (ck_get kk_Mo_timePasses 17 rfl) ?_ | refine wp_iadd (ck_get kk_Mo_timePasses 17 rfl) ?_
      refine wp_cS2i (ck_get kk_Mo_timePasses 18 rfl) ml_Mo_142 (by omega) (Nat.le_of_ble_eq_true rfl) (Ci.to (m_at) ?_)
      rintro _ M1 ⟨rfl, eqm1⟩
      obtain rfl := eqm1.symm
      first | refine wp_dup2l rfl (ck_get kk_Mo_timePasses 19 rfl) ?_ | refine wp_dup2 rfl rfl (ck_get kk_Mo_timePasses 19 rfl) ?_
      refine wp_ialdv (v := mI M (o + 2) (92 * i + (25 + c))) (ck_get kk_Mo_timePasses 20 rfl) (by assumption) (ixk_nI (k := 92 * i + (25 + c)) (by omega) (by omega)) (ev1) ?_
      refine wp_iconst (v := nI 2) (by decide) (ck_get kk_Mo_timePasses 21 rfl) ?_
      refine wp_idiv (by decide) (ck_get kk_Mo_timePasses 22 rfl) ?_
      refine wp_iast (ck_get kk_Mo_timePasses 23 rfl) (by assumption) (ixk_nI (k := 92 * i + (25 + c)) (by omega) (by omega)) ?_
      refine wp_iload_n rfl (ck_get kk_Mo_timePasses 24 rfl) ?_
      refine wp_aload_n rfl (ck_get kk_Mo_timePasses 25 rfl) ?_
      refine wp_getR (ck_get kk_Mo_timePasses 26 rfl) fl_Mo_28 (by assumption) (by assumption) ?_
      refine wp_iload_n rfl (ck_get kk_Mo_timePasses 27 rfl) ?_
      refine wp_bipush (v := nI 25) (by decide) (ck_get kk_Mo_timePasses 28 rfl) ?_
      refine wp_iload_n rfl (ck_get kk_Mo_timePasses 29 rfl) ?_
      first | refine wp_iaddN (ck_get kk_Mo_timePasses 30 rfl) ?_ | refine wp_iadd (ck_get kk_Mo_timePasses 30 rfl) ?_
      refine wp_cS2i (ck_get kk_Mo_timePasses 31 rfl) ml_Mo_142 (by omega) (Nat.le_of_ble_eq_true rfl) (Ci.to (m_at) ?_)
      rintro _ M1 ⟨rfl, eqm1⟩
      obtain rfl := eqm1.symm
      refine wp_ialdv (v := mI M (o + 2) (92 * i + (25 + c)) / 2) (ck_get kk_Mo_timePasses 32 rfl) (by assumption) (ixk_nI (k := 92 * i + (25 + c)) (by omega) (by omega)) (show up2 (up1 (mI M) (o + 2) (tpF (mI M (o + 2)) i c)) (o + 2) (92 * i + (25 + c)) _ (o + 2) (92 * i + (25 + c)) = _ by rw [up2_up1, up1_eq, up1_eq]; rfl) ?_
      first | refine wp_iaddN (ck_get kk_Mo_timePasses 33 rfl) ?_ | refine wp_iadd (ck_get kk_Mo_timePasses 33 rfl) ?_
      refine wp_istore_n (ck_get kk_Mo_timePasses 34 rfl) (by decide) rfl ?_
      first | refine wp_iincN (ck_get kk_Mo_timePasses 35 rfl) rfl (by decide) rfl ?_ | refine wp_iinc (ck_get kk_Mo_timePasses 35 rfl) rfl (by decide) rfl ?_
      refine wp_goto (t := 11) (ck_get kk_Mo_timePasses 36 rfl) (by decide) ?_
      have e := ih (c + 1) (by omega)
      rw [sumI, ← Int32.add_assoc, ← tpF_succ (by omega), show 92 * i + 25 + (0 + c) = 92 * i + (25 + c) by omega] at e
      exact e
theorem l_time1x {i : Nat} {v : Int32} {x3 : Option Value} {Q : Option Value → Mem → Prop} (K : Wp g Y_Mo_timePasses 1 4 [some (.ref o), some (.int v), some (.int (nI (i + 1))), x3] [] M Q) : Wp g Y_Mo_timePasses 1 56 [some (.ref o), some (.int v), some (.int (nI i)), x3] [] M Q := by
  first | refine wp_iincN (ck_get kk_Mo_timePasses 37 rfl) rfl (by decide) rfl ?_ | refine wp_iinc (ck_get kk_Mo_timePasses 37 rfl) rfl (by decide) rfl ?_
  refine wp_goto (t := 4) (ck_get kk_Mo_timePasses 38 rfl) (by decide) ?_
  exact K
theorem l_time2 (hM : MoAt (mT M) (mR M) o) {Q : Option Value → Mem → Prop} (K : Wp g Y_Mo_timePasses 1 62 [some (.ref o), some (.int (tpS (mI M (o + 2)) 4)), some (.int (nI 4)), some (.int (nI 25))] [] (mk2 M (up1 (mI M) (o + 2) (tpF (mI M (o + 2)) 4 0)) (mJ M)) Q) : ∀ k i x3, 4 = i + k → (k = 0 → x3 = some (.int (nI 25))) → Wp g Y_Mo_timePasses 1 4 [some (.ref o), some (.int (tpS (mI M (o + 2)) i)), some (.int (nI i)), x3] [] (mk2 M (up1 (mI M) (o + 2) (tpF (mI M (o + 2)) i 0)) (mJ M)) Q := by
  have hM0 := hM
  have to0 := hM.1
  have rfkept := MoAt.r hM 1 rfl
  have tfkept := MoAt.t hM 1 rfl
  intro k
  induction k with
  | zero =>
    intro i x3 h1 h2
    rw [h2 rfl]
    refine wp_iload_n rfl (ck_get kk_Mo_timePasses 4 rfl) ?_
    refine wp_iconst (v := nI 4) (by decide) (ck_get kk_Mo_timePasses 5 rfl) ?_
    first | refine wp_icmp_geN (t := 62) (ck_get kk_Mo_timePasses 6 rfl) (by decide) (by omega) (by omega) (fun hc6 => ?_) (fun hc6 => ?_) | refine wp_icmp_ge (t := 62) (ck_get kk_Mo_timePasses 6 rfl) (by decide) (fun hc6 => ?_) (fun hc6 => ?_)
    · subst h1; exact K
    · omega
  | succ k ih =>
    intro i x3 h1 h2
    refine wp_iload_n rfl (ck_get kk_Mo_timePasses 4 rfl) ?_
    refine wp_iconst (v := nI 4) (by decide) (ck_get kk_Mo_timePasses 5 rfl) ?_
    first | refine wp_icmp_geN (t := 62) (ck_get kk_Mo_timePasses 6 rfl) (by decide) (by omega) (by omega) (fun hc6 => ?_) (fun hc6 => ?_) | refine wp_icmp_ge (t := 62) (ck_get kk_Mo_timePasses 6 rfl) (by decide) (fun hc6 => ?_) (fun hc6 => ?_)
    · omega
    · refine wp_iconst (v := nI 0) (by decide) (ck_get kk_Mo_timePasses 7 rfl) ?_
      refine wp_istore_n (ck_get kk_Mo_timePasses 8 rfl) (by decide) rfl ?_
      have e := l_time1 (g := g) (Q := Q) (i := i) hM0 (by omega) ?_ 25 0 (by omega)
      · rw [sumI, Int32.add_zero] at e; exact e
      · exact l_time1x (by rw [tpF_next]; exact ih (i + 1) _ (by omega) (fun _ => rfl))
def hvK (f : Nat → Int64) (i y : Nat) : Int64 := if y < i then f y / 2 else f y
theorem l_time3 (hM : MoAt (mT M) (mR M) o) {v : Int32} {x3 : Option Value} {Q : Option Value → Mem → Prop} (K : Wp g Y_Mo_timePasses 1 88 [some (.ref o), some (.int v), some (.int (nI 100)), x3] [] (mk2 M (mI M) (up1 (mJ M) (o + 3) (hvJ (mJ M (o + 3)) 100))) Q) : ∀ k i, 100 = i + k → Wp g Y_Mo_timePasses 1 64 [some (.ref o), some (.int v), some (.int (nI i)), x3] [] (mk2 M (mI M) (up1 (mJ M) (o + 3) (hvJ (mJ M (o + 3)) i))) Q := by
  have to0 := hM.1
  have rfparts := MoAt.r hM 2 rfl
  have tfparts := MoAt.t hM 2 rfl
  intro k
  induction k with
  | zero =>
    intro i h1
    refine wp_iload_n rfl (ck_get kk_Mo_timePasses 41 rfl) ?_
    refine wp_bipush (v := nI 100) (by decide) (ck_get kk_Mo_timePasses 42 rfl) ?_
    first | refine wp_icmp_geN (t := 88) (ck_get kk_Mo_timePasses 43 rfl) (by decide) (by omega) (by omega) (fun hc67 => ?_) (fun hc67 => ?_) | refine wp_icmp_ge (t := 88) (ck_get kk_Mo_timePasses 43 rfl) (by decide) (fun hc67 => ?_) (fun hc67 => ?_)
    · subst h1; exact K
    · omega
  | succ k ih =>
    intro i h1
    refine wp_iload_n rfl (ck_get kk_Mo_timePasses 41 rfl) ?_
    refine wp_bipush (v := nI 100) (by decide) (ck_get kk_Mo_timePasses 42 rfl) ?_
    first | refine wp_icmp_geN (t := 88) (ck_get kk_Mo_timePasses 43 rfl) (by decide) (by omega) (by omega) (fun hc67 => ?_) (fun hc67 => ?_) | refine wp_icmp_ge (t := 88) (ck_get kk_Mo_timePasses 43 rfl) (by decide) (fun hc67 => ?_) (fun hc67 => ?_)
    · omega
    · refine wp_aload_n rfl (ck_get kk_Mo_timePasses 44 rfl) ?_
      refine wp_getR (ck_get kk_Mo_timePasses 45 rfl) fl_Mo_31 (by assumption) (by assumption) ?_
      refine wp_iload_n rfl (ck_get kk_Mo_timePasses 46 rfl) ?_
      first | refine wp_dup2l rfl (ck_get kk_Mo_timePasses 47 rfl) ?_ | refine wp_dup2 rfl rfl (ck_get kk_Mo_timePasses 47 rfl) ?_
      refine wp_laldv (v := mJ M (o + 3) i) (ck_get kk_Mo_timePasses 48 rfl) (by assumption) (by first | assumption | exact ixk_nI (by omega) (by omega)) (show up1 (mJ M) (o + 3) _ (o + 3) i = _ by rw [up1_eq, hvJ, if_neg (by omega)]) ?_
      refine wp_ldc2 kl_Mo_377 (ck_get kk_Mo_timePasses 49 rfl) ?_
      refine wp_ldiv (by decide) (ck_get kk_Mo_timePasses 50 rfl) ?_
      refine wp_last (ck_get kk_Mo_timePasses 51 rfl) (by assumption) (by first | assumption | exact ixk_nI (by omega) (by omega)) ?_
      first | refine wp_iincN (ck_get kk_Mo_timePasses 52 rfl) rfl (by decide) rfl ?_ | refine wp_iinc (ck_get kk_Mo_timePasses 52 rfl) rfl (by decide) rfl ?_
      refine wp_goto (t := 64) (ck_get kk_Mo_timePasses 53 rfl) (by decide) ?_
      have e := ih (i + 1) (by omega)
      rw [← hvJ_succ] at e
      exact e
theorem l_time2_0 (hM : MoAt (mT M) (mR M) o) {Q : Option Value → Mem → Prop} (K : Wp g Y_Mo_timePasses 1 62 [some (.ref o), some (.int (tpS (mI M (o + 2)) 4)), some (.int (nI 4)), some (.int (nI 25))] [] (mk2 M (up1 (mI M) (o + 2) (tpF (mI M (o + 2)) 4 0)) (mJ M)) Q) : Wp g Y_Mo_timePasses 1 4 [some (.ref o), some (.int 0), some (.int (nI 0)), none] [] M Q := by
  have hx := l_time2 hM K 4 0 none (by omega) (fun h => absurd h (by decide))
  rw [up1_id (show mI M (o + 2) = tpF (mI M (o + 2)) 0 0 by funext y; unfold tpF; rw [if_neg (by omega)])] at hx
  exact hx
theorem l_time3_0 (hM : MoAt (mT M) (mR M) o) {v : Int32} {x3 : Option Value} {Q : Option Value → Mem → Prop} (K : Wp g Y_Mo_timePasses 1 88 [some (.ref o), some (.int v), some (.int (nI 100)), x3] [] (mk2 M (mI M) (up1 (mJ M) (o + 3) (hvJ (mJ M (o + 3)) 100))) Q) : Wp g Y_Mo_timePasses 1 64 [some (.ref o), some (.int v), some (.int (nI 0)), x3] [] M Q := by
  have hx := l_time3 hM K 100 0 (by omega)
  rw [up1_id (show mJ M (o + 3) = hvJ (mJ M (o + 3)) 0 by funext y; unfold hvJ; rw [if_neg (by omega)])] at hx
  exact hx
abbrev tpM (M : Mem) (o : Nat) : Mem := sI (mk2 M (up1 (mI M) (o + 2) (tpF (mI M (o + 2)) 4 0)) (up1 (mJ M) (o + 3) (hvJ (mJ M (o + 3)) 100))) (o + 2) 368 (mI M (o + 2) 368 + nI 1)
theorem m_timePasses (hM : MoAt (mT M) (mR M) o) : Ci g Y_Mo_timePasses 1 [.ref o] M (fun x M2 => x = tpS (mI M (o + 2)) 4 ∧ M2 = tpM M o) := by
  refine cw_entry 3 pf_Mo_timePasses rfl ?_
  have hM0 := hM
  have to0 := hM.1
  have rfkept := MoAt.r hM 1 rfl
  have tfkept := MoAt.t hM 1 rfl
  refine wp_iconst (v := nI 0) (by decide) (ck_get kk_Mo_timePasses 0 rfl) ?_
  refine wp_istore_n (ck_get kk_Mo_timePasses 1 rfl) (by decide) rfl ?_
  refine wp_iconst (v := nI 0) (by decide) (ck_get kk_Mo_timePasses 2 rfl) ?_
  refine wp_istore_n (ck_get kk_Mo_timePasses 3 rfl) (by decide) rfl ?_
  refine l_time2_0 (by exact hM0) ?_
  refine wp_iconst (v := nI 0) (by decide) (ck_get kk_Mo_timePasses 39 rfl) ?_
  refine wp_istore_n (ck_get kk_Mo_timePasses 40 rfl) (by decide) rfl ?_
  refine l_time3_0 (by exact hM0) ?_
  refine wp_aload_n rfl (ck_get kk_Mo_timePasses 54 rfl) ?_
  refine wp_getR (ck_get kk_Mo_timePasses 55 rfl) fl_Mo_28 (by assumption) (by assumption) ?_
  refine wp_sipush (v := nI 368) (by decide) (ck_get kk_Mo_timePasses 56 rfl) ?_
  first | refine wp_dup2l rfl (ck_get kk_Mo_timePasses 57 rfl) ?_ | refine wp_dup2 rfl rfl (ck_get kk_Mo_timePasses 57 rfl) ?_
  refine wp_ialdv (v := mI M (o + 2) 368) (ck_get kk_Mo_timePasses 58 rfl) (by assumption) (by first | assumption | exact ixk_nI (by omega) (by omega)) (show up1 (mI M) (o + 2) _ (o + 2) 368 = _ by rw [up1_eq, tpF, if_neg (by omega)]) ?_
  refine wp_iconst (v := nI 1) (by decide) (ck_get kk_Mo_timePasses 59 rfl) ?_
  first | refine wp_iaddN (ck_get kk_Mo_timePasses 60 rfl) ?_ | refine wp_iadd (ck_get kk_Mo_timePasses 60 rfl) ?_
  refine wp_iast (ck_get kk_Mo_timePasses 61 rfl) (by assumption) (by first | assumption | exact ixk_nI (by omega) (by omega)) ?_
  refine wp_iload_n rfl (ck_get kk_Mo_timePasses 62 rfl) ?_
  refine wp_ireturn (ck_get kk_Mo_timePasses 63 rfl) rfl rfl ⟨_, rfl, ?_⟩
  exact ⟨rfl, rfl⟩
end MT

/-! ===== MissCurvesModel: images, what can be undone ===== -/
section MU
variable {g : Gl} {M : Mem} {o : Nat}
abbrev rfM (M : Mem) (o : Nat) (v : Int32) (c : Nat) : Mem := mk2 M (up2 (up2 (mI M) o 0 v) (o + 1) c (mI M (o + 1) c + 1)) (mJ M)
abbrev gdM (M : Mem) (o : Nat) : Mem := mk2 M (up2 (mI M) o 0 (nI 0)) (mJ M)
theorem m_refusesV {v : Int32} {c : Nat} (hv : v = -nI c) (hM : MoAt (mT M) (mR M) o) (hc : c < 7) : Ci g Y_Mo_refuses 0 [.ref o, .int v] M (fun x M2 => x = v ∧ M2 = rfM M o v c) := by
  subst hv; exact m_refuses hM hc
abbrev cI2 (M : Mem) (d s : Nat) (D C n : Nat) : Mem := mk2 M (up1 (mI M) d (cpL (mI M d) (mI M s) D C n)) (mJ M)
abbrev cJ2 (M : Mem) (d s : Nat) (D C n : Nat) : Mem := mk2 M (mI M) (up1 (mJ M) d (cpL (mJ M d) (mJ M s) D C n))
theorem bI_1 {b : Bool} (h : ¬ bI b = 0) : b = true := by cases b; exact absurd rfl h; rfl
theorem bI_0 {b : Bool} (h : bI b = 0) : b = false := by cases b; rfl; exact absurd h (by decide)
theorem l_image1 {t : Nat} (hM : MoAt (mT M) (mR M) o) (ht : t < 2) {Q : Option Value → Mem → Prop} (K : Wp g Y_Mo_image 1 48 [some (.ref o), some (.int (nI t)), some (.int (nI (5995)))] [] (mk2 M (up1 (mI M) (o + 4) (cpL (mI M (o + 4)) (mI M (o + 2)) (5995 * t) (0) (5995))) (mJ M)) Q) : ∀ k i, 5995 = i + k → Wp g Y_Mo_image 1 17 [some (.ref o), some (.int (nI t)), some (.int (nI i))] [] (mk2 M (up1 (mI M) (o + 4) (cpL (mI M (o + 4)) (mI M (o + 2)) (5995 * t) (0) (i))) (mJ M)) Q := by
  have to0 := hM.1
  have rfkept := MoAt.r hM 1 rfl
  have tfkept := MoAt.t hM 1 rfl
  have rfimages := MoAt.r hM 3 rfl
  have tfimages := MoAt.t hM 3 rfl
  intro k
  induction k with
  | zero =>
    intro i h1
    refine wp_iload_n rfl (ck_get kk_Mo_image 11 rfl) ?_
    refine wp_sipush (v := nI 5995) (by decide) (ck_get kk_Mo_image 12 rfl) ?_
    first | refine wp_icmp_geN (t := 48) (ck_get kk_Mo_image 13 rfl) (by decide) (by omega) (by omega) (fun hc21 => ?_) (fun hc21 => ?_) | refine wp_icmp_ge (t := 48) (ck_get kk_Mo_image 13 rfl) (by decide) (fun hc21 => ?_) (fun hc21 => ?_)
    · subst h1; exact K
    · omega
  | succ k ih =>
    intro i h1
    refine wp_iload_n rfl (ck_get kk_Mo_image 11 rfl) ?_
    refine wp_sipush (v := nI 5995) (by decide) (ck_get kk_Mo_image 12 rfl) ?_
    first | refine wp_icmp_geN (t := 48) (ck_get kk_Mo_image 13 rfl) (by decide) (by omega) (by omega) (fun hc21 => ?_) (fun hc21 => ?_) | refine wp_icmp_ge (t := 48) (ck_get kk_Mo_image 13 rfl) (by decide) (fun hc21 => ?_) (fun hc21 => ?_)
    · omega
    · refine wp_aload_n rfl (ck_get kk_Mo_image 14 rfl) ?_
      refine wp_getR (ck_get kk_Mo_image 15 rfl) fl_Mo_35 (by assumption) (by assumption) ?_
      refine wp_sipush (v := nI 5995) (by decide) (ck_get kk_Mo_image 16 rfl) ?_
      refine wp_iload_n rfl (ck_get kk_Mo_image 17 rfl) ?_
      first | refine wp_imulN (ck_get kk_Mo_image 18 rfl) ?_ | refine wp_imul (ck_get kk_Mo_image 18 rfl) ?_
      refine wp_iload_n rfl (ck_get kk_Mo_image 19 rfl) ?_
      first | refine wp_iaddN (ck_get kk_Mo_image 20 rfl) ?_ | refine wp_iadd (ck_get kk_Mo_image 20 rfl) ?_
      refine wp_aload_n rfl (ck_get kk_Mo_image 21 rfl) ?_
      refine wp_getR (ck_get kk_Mo_image 22 rfl) fl_Mo_28 (by assumption) (by assumption) ?_
      refine wp_iload_n rfl (ck_get kk_Mo_image 23 rfl) ?_
      refine wp_ialdv (v := mI M (o + 2) (i)) (ck_get kk_Mo_image 24 rfl) (by assumption) (ixk_nI (k := i) (by omega) (by omega)) (show up1 (mI M) (o + 4) _ (o + 2) (i) = _ by rw [up1_ne (by omega)]) ?_
      refine wp_iast (ck_get kk_Mo_image 25 rfl) (by assumption) (ixk_nI (k := 5995 * t + i) (by omega) (by omega)) ?_
      first | refine wp_iincN (ck_get kk_Mo_image 26 rfl) rfl (by decide) rfl ?_ | refine wp_iinc (ck_get kk_Mo_image 26 rfl) rfl (by decide) rfl ?_
      refine wp_goto (t := 17) (ck_get kk_Mo_image 27 rfl) (by decide) ?_
      have e := ih (i + 1) (by omega)
      rw [← cpL_succ (show 5995 * t + i = 5995 * t + i by omega) (show 0 + i = i by omega)] at e
      exact e
theorem l_image1_0 {t : Nat} (hM : MoAt (mT M) (mR M) o) (ht : t < 2) {Q : Option Value → Mem → Prop} (K : Wp g Y_Mo_image 1 48 [some (.ref o), some (.int (nI t)), some (.int (nI (5995)))] [] (mk2 M (up1 (mI M) (o + 4) (cpL (mI M (o + 4)) (mI M (o + 2)) (5995 * t) (0) (5995))) (mJ M)) Q) : Wp g Y_Mo_image 1 17 [some (.ref o), some (.int (nI t)), some (.int (nI 0))] [] M Q := by
  have e := l_image1 hM ht K (5995) 0 (by omega)
  rw [cpL_0] at e
  exact e
theorem l_image2 {t : Nat} (hM : MoAt (mT M) (mR M) o) (ht : t < 2) {Q : Option Value → Mem → Prop} (K : Wp g Y_Mo_image 1 79 [some (.ref o), some (.int (nI t)), some (.int (nI (100)))] [] (mk2 M (mI M) (up1 (mJ M) (o + 5) (cpL (mJ M (o + 5)) (mJ M (o + 3)) (100 * t) (0) (100)))) Q) : ∀ k i, 100 = i + k → Wp g Y_Mo_image 1 50 [some (.ref o), some (.int (nI t)), some (.int (nI i))] [] (mk2 M (mI M) (up1 (mJ M) (o + 5) (cpL (mJ M (o + 5)) (mJ M (o + 3)) (100 * t) (0) (i)))) Q := by
  have to0 := hM.1
  have rfparts := MoAt.r hM 2 rfl
  have tfparts := MoAt.t hM 2 rfl
  have rfimageParts := MoAt.r hM 4 rfl
  have tfimageParts := MoAt.t hM 4 rfl
  intro k
  induction k with
  | zero =>
    intro i h1
    refine wp_iload_n rfl (ck_get kk_Mo_image 30 rfl) ?_
    refine wp_bipush (v := nI 100) (by decide) (ck_get kk_Mo_image 31 rfl) ?_
    first | refine wp_icmp_geN (t := 79) (ck_get kk_Mo_image 32 rfl) (by decide) (by omega) (by omega) (fun hc53 => ?_) (fun hc53 => ?_) | refine wp_icmp_ge (t := 79) (ck_get kk_Mo_image 32 rfl) (by decide) (fun hc53 => ?_) (fun hc53 => ?_)
    · subst h1; exact K
    · omega
  | succ k ih =>
    intro i h1
    refine wp_iload_n rfl (ck_get kk_Mo_image 30 rfl) ?_
    refine wp_bipush (v := nI 100) (by decide) (ck_get kk_Mo_image 31 rfl) ?_
    first | refine wp_icmp_geN (t := 79) (ck_get kk_Mo_image 32 rfl) (by decide) (by omega) (by omega) (fun hc53 => ?_) (fun hc53 => ?_) | refine wp_icmp_ge (t := 79) (ck_get kk_Mo_image 32 rfl) (by decide) (fun hc53 => ?_) (fun hc53 => ?_)
    · omega
    · refine wp_aload_n rfl (ck_get kk_Mo_image 33 rfl) ?_
      refine wp_getR (ck_get kk_Mo_image 34 rfl) fl_Mo_38 (by assumption) (by assumption) ?_
      refine wp_bipush (v := nI 100) (by decide) (ck_get kk_Mo_image 35 rfl) ?_
      refine wp_iload_n rfl (ck_get kk_Mo_image 36 rfl) ?_
      first | refine wp_imulN (ck_get kk_Mo_image 37 rfl) ?_ | refine wp_imul (ck_get kk_Mo_image 37 rfl) ?_
      refine wp_iload_n rfl (ck_get kk_Mo_image 38 rfl) ?_
      first | refine wp_iaddN (ck_get kk_Mo_image 39 rfl) ?_ | refine wp_iadd (ck_get kk_Mo_image 39 rfl) ?_
      refine wp_aload_n rfl (ck_get kk_Mo_image 40 rfl) ?_
      refine wp_getR (ck_get kk_Mo_image 41 rfl) fl_Mo_31 (by assumption) (by assumption) ?_
      refine wp_iload_n rfl (ck_get kk_Mo_image 42 rfl) ?_
      refine wp_laldv (v := mJ M (o + 3) (i)) (ck_get kk_Mo_image 43 rfl) (by assumption) (ixk_nI (k := i) (by omega) (by omega)) (show up1 (mJ M) (o + 5) _ (o + 3) (i) = _ by rw [up1_ne (by omega)]) ?_
      refine wp_last (ck_get kk_Mo_image 44 rfl) (by assumption) (ixk_nI (k := 100 * t + i) (by omega) (by omega)) ?_
      first | refine wp_iincN (ck_get kk_Mo_image 45 rfl) rfl (by decide) rfl ?_ | refine wp_iinc (ck_get kk_Mo_image 45 rfl) rfl (by decide) rfl ?_
      refine wp_goto (t := 50) (ck_get kk_Mo_image 46 rfl) (by decide) ?_
      have e := ih (i + 1) (by omega)
      rw [← cpL_succ (show 100 * t + i = 100 * t + i by omega) (show 0 + i = i by omega)] at e
      exact e
theorem l_image2_0 {t : Nat} (hM : MoAt (mT M) (mR M) o) (ht : t < 2) {Q : Option Value → Mem → Prop} (K : Wp g Y_Mo_image 1 79 [some (.ref o), some (.int (nI t)), some (.int (nI (100)))] [] (mk2 M (mI M) (up1 (mJ M) (o + 5) (cpL (mJ M (o + 5)) (mJ M (o + 3)) (100 * t) (0) (100)))) Q) : Wp g Y_Mo_image 1 50 [some (.ref o), some (.int (nI t)), some (.int (nI 0))] [] M Q := by
  have e := l_image2 hM ht K (100) 0 (by omega)
  rw [cpL_0] at e
  exact e
theorem l_back1 {t : Nat} (hM : MoAt (mT M) (mR M) o) (ht : t < 2) {Q : Option Value → Mem → Prop} (K : Wp g Y_Mo_back 2 64 [some (.ref o), some (.int (nI t)), some (.int (nI (5995)))] [] (mk2 M (up1 (mI M) (o + 2) (cpL (mI M (o + 2)) (mI M (o + 4)) (0) (5995 * t) (5995))) (mJ M)) Q) : ∀ k i, 5995 = i + k → Wp g Y_Mo_back 2 33 [some (.ref o), some (.int (nI t)), some (.int (nI i))] [] (mk2 M (up1 (mI M) (o + 2) (cpL (mI M (o + 2)) (mI M (o + 4)) (0) (5995 * t) (i))) (mJ M)) Q := by
  have to0 := hM.1
  have rfkept := MoAt.r hM 1 rfl
  have tfkept := MoAt.t hM 1 rfl
  have rfimages := MoAt.r hM 3 rfl
  have tfimages := MoAt.t hM 3 rfl
  intro k
  induction k with
  | zero =>
    intro i h1
    refine wp_iload_n rfl (ck_get kk_Mo_back 20 rfl) ?_
    refine wp_sipush (v := nI 5995) (by decide) (ck_get kk_Mo_back 21 rfl) ?_
    first | refine wp_icmp_geN (t := 64) (ck_get kk_Mo_back 22 rfl) (by decide) (by omega) (by omega) (fun hc37 => ?_) (fun hc37 => ?_) | refine wp_icmp_ge (t := 64) (ck_get kk_Mo_back 22 rfl) (by decide) (fun hc37 => ?_) (fun hc37 => ?_)
    · subst h1; exact K
    · omega
  | succ k ih =>
    intro i h1
    refine wp_iload_n rfl (ck_get kk_Mo_back 20 rfl) ?_
    refine wp_sipush (v := nI 5995) (by decide) (ck_get kk_Mo_back 21 rfl) ?_
    first | refine wp_icmp_geN (t := 64) (ck_get kk_Mo_back 22 rfl) (by decide) (by omega) (by omega) (fun hc37 => ?_) (fun hc37 => ?_) | refine wp_icmp_ge (t := 64) (ck_get kk_Mo_back 22 rfl) (by decide) (fun hc37 => ?_) (fun hc37 => ?_)
    · omega
    · refine wp_aload_n rfl (ck_get kk_Mo_back 23 rfl) ?_
      refine wp_getR (ck_get kk_Mo_back 24 rfl) fl_Mo_28 (by assumption) (by assumption) ?_
      refine wp_iload_n rfl (ck_get kk_Mo_back 25 rfl) ?_
      refine wp_aload_n rfl (ck_get kk_Mo_back 26 rfl) ?_
      refine wp_getR (ck_get kk_Mo_back 27 rfl) fl_Mo_35 (by assumption) (by assumption) ?_
      refine wp_sipush (v := nI 5995) (by decide) (ck_get kk_Mo_back 28 rfl) ?_
      refine wp_iload_n rfl (ck_get kk_Mo_back 29 rfl) ?_
      first | refine wp_imulN (ck_get kk_Mo_back 30 rfl) ?_ | refine wp_imul (ck_get kk_Mo_back 30 rfl) ?_
      refine wp_iload_n rfl (ck_get kk_Mo_back 31 rfl) ?_
      first | refine wp_iaddN (ck_get kk_Mo_back 32 rfl) ?_ | refine wp_iadd (ck_get kk_Mo_back 32 rfl) ?_
      refine wp_ialdv (v := mI M (o + 4) (5995 * t + i)) (ck_get kk_Mo_back 33 rfl) (by assumption) (ixk_nI (k := 5995 * t + i) (by omega) (by omega)) (show up1 (mI M) (o + 2) _ (o + 4) (5995 * t + i) = _ by rw [up1_ne (by omega)]) ?_
      refine wp_iast (ck_get kk_Mo_back 34 rfl) (by assumption) (ixk_nI (k := i) (by omega) (by omega)) ?_
      first | refine wp_iincN (ck_get kk_Mo_back 35 rfl) rfl (by decide) rfl ?_ | refine wp_iinc (ck_get kk_Mo_back 35 rfl) rfl (by decide) rfl ?_
      refine wp_goto (t := 33) (ck_get kk_Mo_back 36 rfl) (by decide) ?_
      have e := ih (i + 1) (by omega)
      rw [← cpL_succ (show 0 + i = i by omega) (show 5995 * t + i = 5995 * t + i by omega)] at e
      exact e
theorem l_back1_0 {t : Nat} (hM : MoAt (mT M) (mR M) o) (ht : t < 2) {Q : Option Value → Mem → Prop} (K : Wp g Y_Mo_back 2 64 [some (.ref o), some (.int (nI t)), some (.int (nI (5995)))] [] (mk2 M (up1 (mI M) (o + 2) (cpL (mI M (o + 2)) (mI M (o + 4)) (0) (5995 * t) (5995))) (mJ M)) Q) : Wp g Y_Mo_back 2 33 [some (.ref o), some (.int (nI t)), some (.int (nI 0))] [] M Q := by
  have e := l_back1 hM ht K (5995) 0 (by omega)
  rw [cpL_0] at e
  exact e
theorem l_back2 {t : Nat} (hM : MoAt (mT M) (mR M) o) (ht : t < 2) {Q : Option Value → Mem → Prop} (K : Wp g Y_Mo_back 2 95 [some (.ref o), some (.int (nI t)), some (.int (nI (100)))] [] (mk2 M (mI M) (up1 (mJ M) (o + 3) (cpL (mJ M (o + 3)) (mJ M (o + 5)) (0) (100 * t) (100)))) Q) : ∀ k i, 100 = i + k → Wp g Y_Mo_back 2 66 [some (.ref o), some (.int (nI t)), some (.int (nI i))] [] (mk2 M (mI M) (up1 (mJ M) (o + 3) (cpL (mJ M (o + 3)) (mJ M (o + 5)) (0) (100 * t) (i)))) Q := by
  have to0 := hM.1
  have rfparts := MoAt.r hM 2 rfl
  have tfparts := MoAt.t hM 2 rfl
  have rfimageParts := MoAt.r hM 4 rfl
  have tfimageParts := MoAt.t hM 4 rfl
  intro k
  induction k with
  | zero =>
    intro i h1
    refine wp_iload_n rfl (ck_get kk_Mo_back 39 rfl) ?_
    refine wp_bipush (v := nI 100) (by decide) (ck_get kk_Mo_back 40 rfl) ?_
    first | refine wp_icmp_geN (t := 95) (ck_get kk_Mo_back 41 rfl) (by decide) (by omega) (by omega) (fun hc69 => ?_) (fun hc69 => ?_) | refine wp_icmp_ge (t := 95) (ck_get kk_Mo_back 41 rfl) (by decide) (fun hc69 => ?_) (fun hc69 => ?_)
    · subst h1; exact K
    · omega
  | succ k ih =>
    intro i h1
    refine wp_iload_n rfl (ck_get kk_Mo_back 39 rfl) ?_
    refine wp_bipush (v := nI 100) (by decide) (ck_get kk_Mo_back 40 rfl) ?_
    first | refine wp_icmp_geN (t := 95) (ck_get kk_Mo_back 41 rfl) (by decide) (by omega) (by omega) (fun hc69 => ?_) (fun hc69 => ?_) | refine wp_icmp_ge (t := 95) (ck_get kk_Mo_back 41 rfl) (by decide) (fun hc69 => ?_) (fun hc69 => ?_)
    · omega
    · refine wp_aload_n rfl (ck_get kk_Mo_back 42 rfl) ?_
      refine wp_getR (ck_get kk_Mo_back 43 rfl) fl_Mo_31 (by assumption) (by assumption) ?_
      refine wp_iload_n rfl (ck_get kk_Mo_back 44 rfl) ?_
      refine wp_aload_n rfl (ck_get kk_Mo_back 45 rfl) ?_
      refine wp_getR (ck_get kk_Mo_back 46 rfl) fl_Mo_38 (by assumption) (by assumption) ?_
      refine wp_bipush (v := nI 100) (by decide) (ck_get kk_Mo_back 47 rfl) ?_
      refine wp_iload_n rfl (ck_get kk_Mo_back 48 rfl) ?_
      first | refine wp_imulN (ck_get kk_Mo_back 49 rfl) ?_ | refine wp_imul (ck_get kk_Mo_back 49 rfl) ?_
      refine wp_iload_n rfl (ck_get kk_Mo_back 50 rfl) ?_
      first | refine wp_iaddN (ck_get kk_Mo_back 51 rfl) ?_ | refine wp_iadd (ck_get kk_Mo_back 51 rfl) ?_
      refine wp_laldv (v := mJ M (o + 5) (100 * t + i)) (ck_get kk_Mo_back 52 rfl) (by assumption) (ixk_nI (k := 100 * t + i) (by omega) (by omega)) (show up1 (mJ M) (o + 3) _ (o + 5) (100 * t + i) = _ by rw [up1_ne (by omega)]) ?_
      refine wp_last (ck_get kk_Mo_back 53 rfl) (by assumption) (ixk_nI (k := i) (by omega) (by omega)) ?_
      first | refine wp_iincN (ck_get kk_Mo_back 54 rfl) rfl (by decide) rfl ?_ | refine wp_iinc (ck_get kk_Mo_back 54 rfl) rfl (by decide) rfl ?_
      refine wp_goto (t := 66) (ck_get kk_Mo_back 55 rfl) (by decide) ?_
      have e := ih (i + 1) (by omega)
      rw [← cpL_succ (show 0 + i = i by omega) (show 100 * t + i = 100 * t + i by omega)] at e
      exact e
theorem l_back2_0 {t : Nat} (hM : MoAt (mT M) (mR M) o) (ht : t < 2) {Q : Option Value → Mem → Prop} (K : Wp g Y_Mo_back 2 95 [some (.ref o), some (.int (nI t)), some (.int (nI (100)))] [] (mk2 M (mI M) (up1 (mJ M) (o + 3) (cpL (mJ M (o + 3)) (mJ M (o + 5)) (0) (100 * t) (100)))) Q) : Wp g Y_Mo_back 2 66 [some (.ref o), some (.int (nI t)), some (.int (nI 0))] [] M Q := by
  have e := l_back2 hM ht K (100) 0 (by omega)
  rw [cpL_0] at e
  exact e
abbrev imgM (M : Mem) (o t : Nat) : Mem := sI (cJ2 (cI2 M (o + 4) (o + 2) (5995 * t) 0 5995) (o + 5) (o + 3) (100 * t) 0 100) (o + 6) t (nI 1)
theorem m_image {k : Int32} (hM : MoAt (mT M) (mR M) o) : Ci g Y_Mo_image 1 [.ref o, .int k] M (fun x M2 => (inB k 2 = false ∧ x = -1 ∧ M2 = rfM M o (-1) 1) ∨ (∃ t, t < 2 ∧ k = nI t ∧ x = nI 0 ∧ M2 = gdM (imgM M o t) o)) := by
  refine cw_entry 1 pf_Mo_image rfl ?_
  have hM0 := hM
  have to0 := hM.1
  have rfhasImage := MoAt.r hM 5 rfl
  have tfhasImage := MoAt.t hM 5 rfl
  refine wp_iload_n rfl (ck_get kk_Mo_image 0 rfl) ?_
  refine wp_iconst (v := nI 0) (by decide) (ck_get kk_Mo_image 1 rfl) ?_
  refine wp_iconst (v := nI 1) (by decide) (ck_get kk_Mo_image 2 rfl) ?_
  refine wp_cS3i (ck_get kk_Mo_image 3 rfl) ml_Mo_18 (by omega) (Nat.le_of_ble_eq_true rfl) (Ci.to (m_lies (by decide)) ?_)
  rintro _ M1 ⟨rfl, e1⟩
  obtain rfl := e1.symm
  first | refine wp_if_neN (t := 15) (ck_get kk_Mo_image 4 rfl) (by decide) (by omega) (fun hc6 => ?_) (fun hc6 => ?_) | refine wp_if_ne (t := 15) (ck_get kk_Mo_image 4 rfl) (by decide) (fun hc6 => ?_) (fun hc6 => ?_)
  · obtain ⟨t, ht, rfl⟩ := inB_t (bI_1 hc6) (by decide)
    refine wp_iconst (v := nI 0) (by decide) (ck_get kk_Mo_image 9 rfl) ?_
    refine wp_istore_n (ck_get kk_Mo_image 10 rfl) (by decide) rfl ?_
    refine l_image1_0 (by exact hM0) ht ?_
    refine wp_iconst (v := nI 0) (by decide) (ck_get kk_Mo_image 28 rfl) ?_
    refine wp_istore_n (ck_get kk_Mo_image 29 rfl) (by decide) rfl ?_
    refine l_image2_0 (by exact hM0) ht ?_
    refine wp_aload_n rfl (ck_get kk_Mo_image 47 rfl) ?_
    refine wp_getR (ck_get kk_Mo_image 48 rfl) fl_Mo_41 (by assumption) (by assumption) ?_
    refine wp_iload_n rfl (ck_get kk_Mo_image 49 rfl) ?_
    refine wp_iconst (v := nI 1) (by decide) (ck_get kk_Mo_image 50 rfl) ?_
    first | refine wp_bast (ck_get kk_Mo_image 51 rfl) (by assumption) (ixk_nI (k := t) (by omega) (by omega)) ?_ | refine wp_zast (ck_get kk_Mo_image 51 rfl) (by assumption) (ixk_nI (k := t) (by omega) (by omega)) ?_
    refine wp_aload_n rfl (ck_get kk_Mo_image 52 rfl) ?_
    refine wp_iconst (v := nI 0) (by decide) (ck_get kk_Mo_image 53 rfl) ?_
    refine wp_cV1i (ck_get kk_Mo_image 54 rfl) ml_Mo_14 (by omega) (Nat.le_of_ble_eq_true rfl) (by assumption) (Ci.to (m_good hM0) ?_)
    rintro x M2 ⟨rfl, rfl⟩
    refine wp_ireturn (ck_get kk_Mo_image 55 rfl) rfl rfl ⟨_, rfl, ?_⟩
    exact Or.inr ⟨t, ht, rfl, rfl, rfl⟩
  · refine wp_aload_n rfl (ck_get kk_Mo_image 5 rfl) ?_
    refine wp_iconst (v := (-1)) (by decide) (ck_get kk_Mo_image 6 rfl) ?_
    refine wp_cV1i (ck_get kk_Mo_image 7 rfl) ml_Mo_146 (by omega) (Nat.le_of_ble_eq_true rfl) (by assumption) (Ci.to (m_refusesV (c := 1) (by decide) hM0 (by decide)) ?_)
    rintro x M2 ⟨rfl, rfl⟩
    refine wp_ireturn (ck_get kk_Mo_image 8 rfl) rfl rfl ⟨_, rfl, ?_⟩
    exact Or.inl ⟨bI_0 hc6, rfl, rfl⟩
abbrev bakM (M : Mem) (o t : Nat) : Mem := cJ2 (cI2 M (o + 2) (o + 4) 0 (5995 * t) 5995) (o + 3) (o + 5) 0 (100 * t) 100
abbrev stM (M : Mem) (o : Nat) : Mem := mk2 M (up2 (up2 (mI M) o 36 (nI 0)) o 0 (nI 0)) (mJ M)
theorem m_back {k : Int32} (hM : MoAt (mT M) (mR M) o) : Ci g Y_Mo_back 2 [.ref o, .int k] M (fun x M2 => (inB k 2 = false ∧ x = -1 ∧ M2 = rfM M o (-1) 1) ∨ (∃ t, t < 2 ∧ k = nI t ∧ ((mI M (o + 6) t = 0 ∧ x = -2 ∧ M2 = rfM M o (-2) 2) ∨ (¬ mI M (o + 6) t = 0 ∧ x = nI 0 ∧ M2 = stM (bakM M o t) o)))) := by
  refine cw_entry 1 pf_Mo_back rfl ?_
  have hM0 := hM
  have to0 := hM.1
  have rfhasImage := MoAt.r hM 5 rfl
  have tfhasImage := MoAt.t hM 5 rfl
  refine wp_iload_n rfl (ck_get kk_Mo_back 0 rfl) ?_
  refine wp_iconst (v := nI 0) (by decide) (ck_get kk_Mo_back 1 rfl) ?_
  refine wp_iconst (v := nI 1) (by decide) (ck_get kk_Mo_back 2 rfl) ?_
  refine wp_cS3i (ck_get kk_Mo_back 3 rfl) ml_Mo_18 (by omega) (Nat.le_of_ble_eq_true rfl) (Ci.to (m_lies (by decide)) ?_)
  rintro _ M1 ⟨rfl, e1⟩
  obtain rfl := e1.symm
  first | refine wp_if_neN (t := 15) (ck_get kk_Mo_back 4 rfl) (by decide) (by omega) (fun hc6 => ?_) (fun hc6 => ?_) | refine wp_if_ne (t := 15) (ck_get kk_Mo_back 4 rfl) (by decide) (fun hc6 => ?_) (fun hc6 => ?_)
  · obtain ⟨t, ht, rfl⟩ := inB_t (bI_1 hc6) (by decide)
    refine wp_aload_n rfl (ck_get kk_Mo_back 9 rfl) ?_
    refine wp_getR (ck_get kk_Mo_back 10 rfl) fl_Mo_41 (by assumption) (by assumption) ?_
    refine wp_iload_n rfl (ck_get kk_Mo_back 11 rfl) ?_
    first | refine wp_bald (ck_get kk_Mo_back 12 rfl) (by assumption) (ixk_nI (k := t) (by omega) (by omega)) ?_ | refine wp_zald (ck_get kk_Mo_back 12 rfl) (by assumption) (ixk_nI (k := t) (by omega) (by omega)) ?_
    first | refine wp_if_neN (t := 31) (ck_get kk_Mo_back 13 rfl) (by decide) (by omega) (fun hc21 => ?_) (fun hc21 => ?_) | refine wp_if_ne (t := 31) (ck_get kk_Mo_back 13 rfl) (by decide) (fun hc21 => ?_) (fun hc21 => ?_)
    · refine wp_iconst (v := nI 0) (by decide) (ck_get kk_Mo_back 18 rfl) ?_
      refine wp_istore_n (ck_get kk_Mo_back 19 rfl) (by decide) rfl ?_
      refine l_back1_0 (by exact hM0) ht ?_
      refine wp_iconst (v := nI 0) (by decide) (ck_get kk_Mo_back 37 rfl) ?_
      refine wp_istore_n (ck_get kk_Mo_back 38 rfl) (by decide) rfl ?_
      refine l_back2_0 (by exact hM0) ht ?_
      refine wp_aload_n rfl (ck_get kk_Mo_back 56 rfl) ?_
      refine wp_iconst (v := nI 0) (by decide) (ck_get kk_Mo_back 57 rfl) ?_
      refine wp_cV1i (ck_get kk_Mo_back 58 rfl) ml_Mo_149 (by omega) (Nat.le_of_ble_eq_true rfl) (by assumption) (Ci.to (m_settled hM0) ?_)
      rintro x M2 ⟨rfl, rfl⟩
      refine wp_ireturn (ck_get kk_Mo_back 59 rfl) rfl rfl ⟨_, rfl, ?_⟩
      exact Or.inr ⟨t, ht, rfl, Or.inr ⟨hc21, rfl, rfl⟩⟩
    · refine wp_aload_n rfl (ck_get kk_Mo_back 14 rfl) ?_
      refine wp_bipush (v := (-2)) (by decide) (ck_get kk_Mo_back 15 rfl) ?_
      refine wp_cV1i (ck_get kk_Mo_back 16 rfl) ml_Mo_146 (by omega) (Nat.le_of_ble_eq_true rfl) (by assumption) (Ci.to (m_refusesV (c := 2) (by decide) hM0 (by decide)) ?_)
      rintro x M2 ⟨rfl, rfl⟩
      refine wp_ireturn (ck_get kk_Mo_back 17 rfl) rfl rfl ⟨_, rfl, ?_⟩
      exact Or.inr ⟨t, ht, rfl, Or.inl ⟨hc21, rfl, rfl⟩⟩
  · refine wp_aload_n rfl (ck_get kk_Mo_back 5 rfl) ?_
    refine wp_iconst (v := (-1)) (by decide) (ck_get kk_Mo_back 6 rfl) ?_
    refine wp_cV1i (ck_get kk_Mo_back 7 rfl) ml_Mo_146 (by omega) (Nat.le_of_ble_eq_true rfl) (by assumption) (Ci.to (m_refusesV (c := 1) (by decide) hM0 (by decide)) ?_)
    rintro x M2 ⟨rfl, rfl⟩
    refine wp_ireturn (ck_get kk_Mo_back 8 rfl) rfl rfl ⟨_, rfl, ?_⟩
    exact Or.inl ⟨bI_0 hc6, rfl, rfl⟩
theorem l_keep1 {w : Int32} (hM : MoAt (mT M) (mR M) o) {Q : Option Value → Mem → Prop} (K : Wp g Y_Mo_keeps 0 43 [some (.ref o), some (.int w), some (.int (nI 370)), some (.int (nI (5550)))] [] (mk2 M (up1 (mI M) (o + 16) (cpL (mI M (o + 16)) (mI M (o + 16)) (0) (370) (5550))) (mJ M)) Q) : ∀ k i, 5550 = i + k → Wp g Y_Mo_keeps 0 15 [some (.ref o), some (.int w), some (.int (nI 370)), some (.int (nI i))] [] (mk2 M (up1 (mI M) (o + 16) (cpL (mI M (o + 16)) (mI M (o + 16)) (0) (370) (i))) (mJ M)) Q := by
  have to0 := hM.1
  have rfleft0 := MoAt.r hM 15 rfl
  have tfleft0 := MoAt.t hM 15 rfl
  intro k
  induction k with
  | zero =>
    intro i h1
    refine wp_iload_n rfl (ck_get kk_Mo_keeps 8 rfl) ?_
    refine wp_bipush (v := nI 15) (by decide) (ck_get kk_Mo_keeps 9 rfl) ?_
    refine wp_iload_n rfl (ck_get kk_Mo_keeps 10 rfl) ?_
    first | refine wp_imulN (ck_get kk_Mo_keeps 11 rfl) ?_ | refine wp_imul (ck_get kk_Mo_keeps 11 rfl) ?_
    first | refine wp_icmp_geN (t := 43) (ck_get kk_Mo_keeps 12 rfl) (by decide) (by omega) (by omega) (fun hc20 => ?_) (fun hc20 => ?_) | refine wp_icmp_ge (t := 43) (ck_get kk_Mo_keeps 12 rfl) (by decide) (fun hc20 => ?_) (fun hc20 => ?_)
    · subst h1; exact K
    · omega
  | succ k ih =>
    intro i h1
    refine wp_iload_n rfl (ck_get kk_Mo_keeps 8 rfl) ?_
    refine wp_bipush (v := nI 15) (by decide) (ck_get kk_Mo_keeps 9 rfl) ?_
    refine wp_iload_n rfl (ck_get kk_Mo_keeps 10 rfl) ?_
    first | refine wp_imulN (ck_get kk_Mo_keeps 11 rfl) ?_ | refine wp_imul (ck_get kk_Mo_keeps 11 rfl) ?_
    first | refine wp_icmp_geN (t := 43) (ck_get kk_Mo_keeps 12 rfl) (by decide) (by omega) (by omega) (fun hc20 => ?_) (fun hc20 => ?_) | refine wp_icmp_ge (t := 43) (ck_get kk_Mo_keeps 12 rfl) (by decide) (fun hc20 => ?_) (fun hc20 => ?_)
    · omega
    · refine wp_aload_n rfl (ck_get kk_Mo_keeps 13 rfl) ?_
      refine wp_getR (ck_get kk_Mo_keeps 14 rfl) fl_Mo_76 (by assumption) (by assumption) ?_
      refine wp_iload_n rfl (ck_get kk_Mo_keeps 15 rfl) ?_
      refine wp_aload_n rfl (ck_get kk_Mo_keeps 16 rfl) ?_
      refine wp_getR (ck_get kk_Mo_keeps 17 rfl) fl_Mo_76 (by assumption) (by assumption) ?_
      refine wp_iload_n rfl (ck_get kk_Mo_keeps 18 rfl) ?_
      refine wp_iload_n rfl (ck_get kk_Mo_keeps 19 rfl) ?_
      first | refine wp_iaddN (ck_get kk_Mo_keeps 20 rfl) ?_ | refine wp_iadd (ck_get kk_Mo_keeps 20 rfl) ?_
      refine wp_ialdv (v := mI M (o + 16) (i + 370)) (ck_get kk_Mo_keeps 21 rfl) (by assumption) (ixk_nI (k := i + 370) (by omega) (by omega)) (show up1 (mI M) (o + 16) _ (o + 16) (i + 370) = _ by rw [up1_eq, cpL, if_neg (by omega)]) ?_
      refine wp_iast (ck_get kk_Mo_keeps 22 rfl) (by assumption) (ixk_nI (k := i) (by omega) (by omega)) ?_
      first | refine wp_iincN (ck_get kk_Mo_keeps 23 rfl) rfl (by decide) rfl ?_ | refine wp_iinc (ck_get kk_Mo_keeps 23 rfl) rfl (by decide) rfl ?_
      refine wp_goto (t := 15) (ck_get kk_Mo_keeps 24 rfl) (by decide) ?_
      have e := ih (i + 1) (by omega)
      rw [← cpL_succ (show 0 + i = i by omega) (show 370 + i = i + 370 by omega)] at e
      exact e
theorem l_keep1_0 {w : Int32} (hM : MoAt (mT M) (mR M) o) {Q : Option Value → Mem → Prop} (K : Wp g Y_Mo_keeps 0 43 [some (.ref o), some (.int w), some (.int (nI 370)), some (.int (nI (5550)))] [] (mk2 M (up1 (mI M) (o + 16) (cpL (mI M (o + 16)) (mI M (o + 16)) (0) (370) (5550))) (mJ M)) Q) : Wp g Y_Mo_keeps 0 15 [some (.ref o), some (.int w), some (.int (nI 370)), some (.int (nI 0))] [] M Q := by
  have e := l_keep1 hM K (5550) 0 (by omega)
  rw [cpL_0] at e
  exact e
theorem l_keep2 {w : Int32} (hM : MoAt (mT M) (mR M) o) {Q : Option Value → Mem → Prop} (K : Wp g Y_Mo_keeps 0 73 [some (.ref o), some (.int w), some (.int (nI 370)), some (.int (nI (1500)))] [] (mk2 M (mI M) (up1 (mJ M) (o + 17) (cpL (mJ M (o + 17)) (mJ M (o + 17)) (0) (100) (1500)))) Q) : ∀ k i, 1500 = i + k → Wp g Y_Mo_keeps 0 45 [some (.ref o), some (.int w), some (.int (nI 370)), some (.int (nI i))] [] (mk2 M (mI M) (up1 (mJ M) (o + 17) (cpL (mJ M (o + 17)) (mJ M (o + 17)) (0) (100) (i)))) Q := by
  have to0 := hM.1
  have rfleftParts := MoAt.r hM 16 rfl
  have tfleftParts := MoAt.t hM 16 rfl
  intro k
  induction k with
  | zero =>
    intro i h1
    refine wp_iload_n rfl (ck_get kk_Mo_keeps 27 rfl) ?_
    refine wp_sipush (v := nI 1500) (by decide) (ck_get kk_Mo_keeps 28 rfl) ?_
    first | refine wp_icmp_geN (t := 73) (ck_get kk_Mo_keeps 29 rfl) (by decide) (by omega) (by omega) (fun hc49 => ?_) (fun hc49 => ?_) | refine wp_icmp_ge (t := 73) (ck_get kk_Mo_keeps 29 rfl) (by decide) (fun hc49 => ?_) (fun hc49 => ?_)
    · subst h1; exact K
    · omega
  | succ k ih =>
    intro i h1
    refine wp_iload_n rfl (ck_get kk_Mo_keeps 27 rfl) ?_
    refine wp_sipush (v := nI 1500) (by decide) (ck_get kk_Mo_keeps 28 rfl) ?_
    first | refine wp_icmp_geN (t := 73) (ck_get kk_Mo_keeps 29 rfl) (by decide) (by omega) (by omega) (fun hc49 => ?_) (fun hc49 => ?_) | refine wp_icmp_ge (t := 73) (ck_get kk_Mo_keeps 29 rfl) (by decide) (fun hc49 => ?_) (fun hc49 => ?_)
    · omega
    · refine wp_aload_n rfl (ck_get kk_Mo_keeps 30 rfl) ?_
      refine wp_getR (ck_get kk_Mo_keeps 31 rfl) fl_Mo_79 (by assumption) (by assumption) ?_
      refine wp_iload_n rfl (ck_get kk_Mo_keeps 32 rfl) ?_
      refine wp_aload_n rfl (ck_get kk_Mo_keeps 33 rfl) ?_
      refine wp_getR (ck_get kk_Mo_keeps 34 rfl) fl_Mo_79 (by assumption) (by assumption) ?_
      refine wp_iload_n rfl (ck_get kk_Mo_keeps 35 rfl) ?_
      refine wp_bipush (v := nI 100) (by decide) (ck_get kk_Mo_keeps 36 rfl) ?_
      first | refine wp_iaddN (ck_get kk_Mo_keeps 37 rfl) ?_ | refine wp_iadd (ck_get kk_Mo_keeps 37 rfl) ?_
      refine wp_laldv (v := mJ M (o + 17) (i + 100)) (ck_get kk_Mo_keeps 38 rfl) (by assumption) (ixk_nI (k := i + 100) (by omega) (by omega)) (show up1 (mJ M) (o + 17) _ (o + 17) (i + 100) = _ by rw [up1_eq, cpL, if_neg (by omega)]) ?_
      refine wp_last (ck_get kk_Mo_keeps 39 rfl) (by assumption) (ixk_nI (k := i) (by omega) (by omega)) ?_
      first | refine wp_iincN (ck_get kk_Mo_keeps 40 rfl) rfl (by decide) rfl ?_ | refine wp_iinc (ck_get kk_Mo_keeps 40 rfl) rfl (by decide) rfl ?_
      refine wp_goto (t := 45) (ck_get kk_Mo_keeps 41 rfl) (by decide) ?_
      have e := ih (i + 1) (by omega)
      rw [← cpL_succ (show 0 + i = i by omega) (show 100 + i = i + 100 by omega)] at e
      exact e
theorem l_keep2_0 {w : Int32} (hM : MoAt (mT M) (mR M) o) {Q : Option Value → Mem → Prop} (K : Wp g Y_Mo_keeps 0 73 [some (.ref o), some (.int w), some (.int (nI 370)), some (.int (nI (1500)))] [] (mk2 M (mI M) (up1 (mJ M) (o + 17) (cpL (mJ M (o + 17)) (mJ M (o + 17)) (0) (100) (1500)))) Q) : Wp g Y_Mo_keeps 0 45 [some (.ref o), some (.int w), some (.int (nI 370)), some (.int (nI 0))] [] M Q := by
  have e := l_keep2 hM K (1500) 0 (by omega)
  rw [cpL_0] at e
  exact e
theorem l_keep3 {u : Nat} {w : Int32} (hM : MoAt (mT M) (mR M) o) (hu : mI M o 36 = nI u) (hl : u < 16) {Q : Option Value → Mem → Prop} (K : Wp g Y_Mo_keeps 0 117 [some (.ref o), some (.int w), some (.int (nI 370)), some (.int (nI (369)))] [] (mk2 M (up1 (mI M) (o + 16) (cpL (mI M (o + 16)) (mI M (o + 2)) (370 * u) (0) (369))) (mJ M)) Q) : ∀ k i, 369 = i + k → Wp g Y_Mo_keeps 0 85 [some (.ref o), some (.int w), some (.int (nI 370)), some (.int (nI i))] [] (mk2 M (up1 (mI M) (o + 16) (cpL (mI M (o + 16)) (mI M (o + 2)) (370 * u) (0) (i))) (mJ M)) Q := by
  have to0 := hM.1
  have rfleft0 := MoAt.r hM 15 rfl
  have tfleft0 := MoAt.t hM 15 rfl
  have rfkept := MoAt.r hM 1 rfl
  have tfkept := MoAt.t hM 1 rfl
  intro k
  induction k with
  | zero =>
    intro i h1
    refine wp_iload_n rfl (ck_get kk_Mo_keeps 50 rfl) ?_
    refine wp_sipush (v := nI 369) (by decide) (ck_get kk_Mo_keeps 51 rfl) ?_
    first | refine wp_icmp_geN (t := 117) (ck_get kk_Mo_keeps 52 rfl) (by decide) (by omega) (by omega) (fun hc89 => ?_) (fun hc89 => ?_) | refine wp_icmp_ge (t := 117) (ck_get kk_Mo_keeps 52 rfl) (by decide) (fun hc89 => ?_) (fun hc89 => ?_)
    · subst h1; exact K
    · omega
  | succ k ih =>
    intro i h1
    refine wp_iload_n rfl (ck_get kk_Mo_keeps 50 rfl) ?_
    refine wp_sipush (v := nI 369) (by decide) (ck_get kk_Mo_keeps 51 rfl) ?_
    first | refine wp_icmp_geN (t := 117) (ck_get kk_Mo_keeps 52 rfl) (by decide) (by omega) (by omega) (fun hc89 => ?_) (fun hc89 => ?_) | refine wp_icmp_ge (t := 117) (ck_get kk_Mo_keeps 52 rfl) (by decide) (fun hc89 => ?_) (fun hc89 => ?_)
    · omega
    · refine wp_aload_n rfl (ck_get kk_Mo_keeps 53 rfl) ?_
      refine wp_getR (ck_get kk_Mo_keeps 54 rfl) fl_Mo_76 (by assumption) (by assumption) ?_
      refine wp_iload_n rfl (ck_get kk_Mo_keeps 55 rfl) ?_
      refine wp_aload_n rfl (ck_get kk_Mo_keeps 56 rfl) ?_
      refine wp_getIv (v := nI u) (ck_get kk_Mo_keeps 57 rfl) fl_Mo_11 (by assumption) (show up1 (mI M) (o + 16) _ o 36 = _ by rw [up1_ne (by omega)]; exact hu) ?_
      first | refine wp_imulN (ck_get kk_Mo_keeps 58 rfl) ?_ | refine wp_imul (ck_get kk_Mo_keeps 58 rfl) ?_
      refine wp_iload_n rfl (ck_get kk_Mo_keeps 59 rfl) ?_
      first | refine wp_iaddN (ck_get kk_Mo_keeps 60 rfl) ?_ | refine wp_iadd (ck_get kk_Mo_keeps 60 rfl) ?_
      refine wp_aload_n rfl (ck_get kk_Mo_keeps 61 rfl) ?_
      refine wp_getR (ck_get kk_Mo_keeps 62 rfl) fl_Mo_28 (by assumption) (by assumption) ?_
      refine wp_iload_n rfl (ck_get kk_Mo_keeps 63 rfl) ?_
      refine wp_ialdv (v := mI M (o + 2) (i)) (ck_get kk_Mo_keeps 64 rfl) (by assumption) (ixk_nI (k := i) (by omega) (by omega)) (show up1 (mI M) (o + 16) _ (o + 2) (i) = _ by rw [up1_ne (by omega)]) ?_
      refine wp_iast (ck_get kk_Mo_keeps 65 rfl) (by assumption) (ixk_nI (k := 370 * u + i) (by omega) (by omega)) ?_
      first | refine wp_iincN (ck_get kk_Mo_keeps 66 rfl) rfl (by decide) rfl ?_ | refine wp_iinc (ck_get kk_Mo_keeps 66 rfl) rfl (by decide) rfl ?_
      refine wp_goto (t := 85) (ck_get kk_Mo_keeps 67 rfl) (by decide) ?_
      have e := ih (i + 1) (by omega)
      rw [← cpL_succ (show 370 * u + i = 370 * u + i by omega) (show 0 + i = i by omega)] at e
      exact e
theorem l_keep3_0 {u : Nat} {w : Int32} (hM : MoAt (mT M) (mR M) o) (hu : mI M o 36 = nI u) (hl : u < 16) {Q : Option Value → Mem → Prop} (K : Wp g Y_Mo_keeps 0 117 [some (.ref o), some (.int w), some (.int (nI 370)), some (.int (nI (369)))] [] (mk2 M (up1 (mI M) (o + 16) (cpL (mI M (o + 16)) (mI M (o + 2)) (370 * u) (0) (369))) (mJ M)) Q) : Wp g Y_Mo_keeps 0 85 [some (.ref o), some (.int w), some (.int (nI 370)), some (.int (nI 0))] [] M Q := by
  have e := l_keep3 hM hu hl K (369) 0 (by omega)
  rw [cpL_0] at e
  exact e
theorem l_keep4 {u : Nat} {w : Int32} (hM : MoAt (mT M) (mR M) o) (hu : mI M o 36 = nI u) (hl : u < 16) {Q : Option Value → Mem → Prop} (K : Wp g Y_Mo_keeps 0 151 [some (.ref o), some (.int w), some (.int (nI 370)), some (.int (nI (100)))] [] (mk2 M (mI M) (up1 (mJ M) (o + 17) (cpL (mJ M (o + 17)) (mJ M (o + 3)) (100 * u) (0) (100)))) Q) : ∀ k i, 100 = i + k → Wp g Y_Mo_keeps 0 119 [some (.ref o), some (.int w), some (.int (nI 370)), some (.int (nI i))] [] (mk2 M (mI M) (up1 (mJ M) (o + 17) (cpL (mJ M (o + 17)) (mJ M (o + 3)) (100 * u) (0) (i)))) Q := by
  have to0 := hM.1
  have rfleftParts := MoAt.r hM 16 rfl
  have tfleftParts := MoAt.t hM 16 rfl
  have rfparts := MoAt.r hM 2 rfl
  have tfparts := MoAt.t hM 2 rfl
  intro k
  induction k with
  | zero =>
    intro i h1
    refine wp_iload_n rfl (ck_get kk_Mo_keeps 70 rfl) ?_
    refine wp_bipush (v := nI 100) (by decide) (ck_get kk_Mo_keeps 71 rfl) ?_
    first | refine wp_icmp_geN (t := 151) (ck_get kk_Mo_keeps 72 rfl) (by decide) (by omega) (by omega) (fun hc122 => ?_) (fun hc122 => ?_) | refine wp_icmp_ge (t := 151) (ck_get kk_Mo_keeps 72 rfl) (by decide) (fun hc122 => ?_) (fun hc122 => ?_)
    · subst h1; exact K
    · omega
  | succ k ih =>
    intro i h1
    refine wp_iload_n rfl (ck_get kk_Mo_keeps 70 rfl) ?_
    refine wp_bipush (v := nI 100) (by decide) (ck_get kk_Mo_keeps 71 rfl) ?_
    first | refine wp_icmp_geN (t := 151) (ck_get kk_Mo_keeps 72 rfl) (by decide) (by omega) (by omega) (fun hc122 => ?_) (fun hc122 => ?_) | refine wp_icmp_ge (t := 151) (ck_get kk_Mo_keeps 72 rfl) (by decide) (fun hc122 => ?_) (fun hc122 => ?_)
    · omega
    · refine wp_aload_n rfl (ck_get kk_Mo_keeps 73 rfl) ?_
      refine wp_getR (ck_get kk_Mo_keeps 74 rfl) fl_Mo_79 (by assumption) (by assumption) ?_
      refine wp_bipush (v := nI 100) (by decide) (ck_get kk_Mo_keeps 75 rfl) ?_
      refine wp_aload_n rfl (ck_get kk_Mo_keeps 76 rfl) ?_
      refine wp_getIv (v := nI u) (ck_get kk_Mo_keeps 77 rfl) fl_Mo_11 (by assumption) (hu) ?_
      first | refine wp_imulN (ck_get kk_Mo_keeps 78 rfl) ?_ | refine wp_imul (ck_get kk_Mo_keeps 78 rfl) ?_
      refine wp_iload_n rfl (ck_get kk_Mo_keeps 79 rfl) ?_
      first | refine wp_iaddN (ck_get kk_Mo_keeps 80 rfl) ?_ | refine wp_iadd (ck_get kk_Mo_keeps 80 rfl) ?_
      refine wp_aload_n rfl (ck_get kk_Mo_keeps 81 rfl) ?_
      refine wp_getR (ck_get kk_Mo_keeps 82 rfl) fl_Mo_31 (by assumption) (by assumption) ?_
      refine wp_iload_n rfl (ck_get kk_Mo_keeps 83 rfl) ?_
      refine wp_laldv (v := mJ M (o + 3) (i)) (ck_get kk_Mo_keeps 84 rfl) (by assumption) (ixk_nI (k := i) (by omega) (by omega)) (show up1 (mJ M) (o + 17) _ (o + 3) (i) = _ by rw [up1_ne (by omega)]) ?_
      refine wp_last (ck_get kk_Mo_keeps 85 rfl) (by assumption) (ixk_nI (k := 100 * u + i) (by omega) (by omega)) ?_
      first | refine wp_iincN (ck_get kk_Mo_keeps 86 rfl) rfl (by decide) rfl ?_ | refine wp_iinc (ck_get kk_Mo_keeps 86 rfl) rfl (by decide) rfl ?_
      refine wp_goto (t := 119) (ck_get kk_Mo_keeps 87 rfl) (by decide) ?_
      have e := ih (i + 1) (by omega)
      rw [← cpL_succ (show 100 * u + i = 100 * u + i by omega) (show 0 + i = i by omega)] at e
      exact e
theorem l_keep4_0 {u : Nat} {w : Int32} (hM : MoAt (mT M) (mR M) o) (hu : mI M o 36 = nI u) (hl : u < 16) {Q : Option Value → Mem → Prop} (K : Wp g Y_Mo_keeps 0 151 [some (.ref o), some (.int w), some (.int (nI 370)), some (.int (nI (100)))] [] (mk2 M (mI M) (up1 (mJ M) (o + 17) (cpL (mJ M (o + 17)) (mJ M (o + 3)) (100 * u) (0) (100)))) Q) : Wp g Y_Mo_keeps 0 119 [some (.ref o), some (.int w), some (.int (nI 370)), some (.int (nI 0))] [] M Q := by
  have e := l_keep4 hM hu hl K (100) 0 (by omega)
  rw [cpL_0] at e
  exact e
/-- one more can be undone: room is made, if there are sixteen -/
abbrev kpA (M : Mem) (o : Nat) : Mem := sI (cJ2 (cI2 M (o + 16) (o + 16) 0 370 5550) (o + 17) (o + 17) 0 100 1500) o 36 (nI 15)
abbrev kpB (M : Mem) (o u : Nat) (w : Int32) : Mem := sI (sI (cJ2 (cI2 M (o + 16) (o + 2) (370 * u) 0 369) (o + 17) (o + 3) (100 * u) 0 100) (o + 16) (370 * u + 369) w) o 36 (nI (u + 1))
theorem l_keepB {u : Nat} {w : Int32} {x3 : Option Value} (hM : MoAt (mT M) (mR M) o) (hu : mI M o 36 = nI u) (hl : u < 16) : Wp g Y_Mo_keeps 0 83 [some (.ref o), some (.int w), some (.int (nI 370)), x3] [] M (fun r M2 => r = none ∧ M2 = kpB M o u w) := by
  have hM0 := hM
  have to0 := hM.1
  have rfleft0 := MoAt.r hM 15 rfl
  have tfleft0 := MoAt.t hM 15 rfl
  have hu2 : mI (cJ2 (cI2 M (o + 16) (o + 2) (370 * u) 0 369) (o + 17) (o + 3) (100 * u) 0 100) o 36 = nI u := by
    show up1 (mI M) (o + 16) _ o 36 = _
    rw [up1_ne (by omega)]; exact hu
  refine wp_iconst (v := nI 0) (by decide) (ck_get kk_Mo_keeps 48 rfl) ?_
  refine wp_istore_n (ck_get kk_Mo_keeps 49 rfl) (by decide) rfl ?_
  refine l_keep3_0 (u := u) (by exact hM0) hu hl ?_
  refine wp_iconst (v := nI 0) (by decide) (ck_get kk_Mo_keeps 68 rfl) ?_
  refine wp_istore_n (ck_get kk_Mo_keeps 69 rfl) (by decide) rfl ?_
  refine l_keep4_0 (u := u) (by exact hM0) (by show up1 (mI M) (o + 16) _ o 36 = _; rw [up1_ne (by omega)]; exact hu) hl ?_
  refine wp_aload_n rfl (ck_get kk_Mo_keeps 88 rfl) ?_
  refine wp_getR (ck_get kk_Mo_keeps 89 rfl) fl_Mo_76 (by assumption) (by assumption) ?_
  refine wp_iload_n rfl (ck_get kk_Mo_keeps 90 rfl) ?_
  refine wp_aload_n rfl (ck_get kk_Mo_keeps 91 rfl) ?_
  refine wp_getIv (v := nI u) (ck_get kk_Mo_keeps 92 rfl) fl_Mo_11 (by assumption) (hu2) ?_
  first | refine wp_imulN (ck_get kk_Mo_keeps 93 rfl) ?_ | refine wp_imul (ck_get kk_Mo_keeps 93 rfl) ?_
  refine wp_sipush (v := nI 369) (by decide) (ck_get kk_Mo_keeps 94 rfl) ?_
  first | refine wp_iaddN (ck_get kk_Mo_keeps 95 rfl) ?_ | refine wp_iadd (ck_get kk_Mo_keeps 95 rfl) ?_
  refine wp_iload_n rfl (ck_get kk_Mo_keeps 96 rfl) ?_
  refine wp_iast (ck_get kk_Mo_keeps 97 rfl) (by assumption) (ixk_nI (k := 370 * u + 369) (by omega) (by omega)) ?_
  refine wp_aload_n rfl (ck_get kk_Mo_keeps 98 rfl) ?_
  refine wp_dup rfl (ck_get kk_Mo_keeps 99 rfl) ?_
  refine wp_getIv (v := nI u) (ck_get kk_Mo_keeps 100 rfl) fl_Mo_11 (by assumption) (by rw [mI_sI, if_neg (by omega)]; exact hu2) ?_
  refine wp_iconst (v := nI 1) (by decide) (ck_get kk_Mo_keeps 101 rfl) ?_
  first | refine wp_iaddN (ck_get kk_Mo_keeps 102 rfl) ?_ | refine wp_iadd (ck_get kk_Mo_keeps 102 rfl) ?_
  refine wp_putI (ck_get kk_Mo_keeps 103 rfl) fl_Mo_11 (by decide +kernel) (by assumption) (okI_int _) ?_
  refine wp_return (ck_get kk_Mo_keeps 104 rfl) rfl ⟨rfl, ?_⟩
  rfl
theorem m_keeps {u : Nat} {w : Int32} (hM : MoAt (mT M) (mR M) o) (hu : mI M o 36 = nI u) (hl : u ≤ 16) : Cv g Y_Mo_keeps 0 [.ref o, .int w] M (fun M2 => M2 = if u = 16 then kpB (kpA M o) o 15 w else kpB M o u w) := by
  refine cw_entry 2 pf_Mo_keeps rfl ?_
  have hM0 := hM
  have to0 := hM.1
  have rfleft0 := MoAt.r hM 15 rfl
  have tfleft0 := MoAt.t hM 15 rfl
  refine wp_sipush (v := nI 370) (by decide) (ck_get kk_Mo_keeps 0 rfl) ?_
  refine wp_istore_n (ck_get kk_Mo_keeps 1 rfl) (by decide) rfl ?_
  refine wp_aload_n rfl (ck_get kk_Mo_keeps 2 rfl) ?_
  refine wp_getIv (v := nI u) (ck_get kk_Mo_keeps 3 rfl) fl_Mo_11 (by assumption) (hu) ?_
  refine wp_bipush (v := nI 16) (by decide) (ck_get kk_Mo_keeps 4 rfl) ?_
  first | refine wp_icmp_neN (t := 83) (ck_get kk_Mo_keeps 5 rfl) (by decide) (by omega) (by omega) (fun hc10 => ?_) (fun hc10 => ?_) | refine wp_icmp_ne (t := 83) (ck_get kk_Mo_keeps 5 rfl) (by decide) (fun hc10 => ?_) (fun hc10 => ?_)
  · refine (l_keepB hM0 hu (by omega)).mono (fun r M2 ⟨e1, e2⟩ => ⟨e1, ?_⟩)
    rw [if_neg hc10]; exact e2
  · refine wp_iconst (v := nI 0) (by decide) (ck_get kk_Mo_keeps 6 rfl) ?_
    refine wp_istore_n (ck_get kk_Mo_keeps 7 rfl) (by decide) rfl ?_
    refine l_keep1_0 (by exact hM0) ?_
    refine wp_iconst (v := nI 0) (by decide) (ck_get kk_Mo_keeps 25 rfl) ?_
    refine wp_istore_n (ck_get kk_Mo_keeps 26 rfl) (by decide) rfl ?_
    refine l_keep2_0 (by exact hM0) ?_
    refine wp_aload_n rfl (ck_get kk_Mo_keeps 42 rfl) ?_
    refine wp_dup rfl (ck_get kk_Mo_keeps 43 rfl) ?_
    refine wp_getIv (v := nI u) (ck_get kk_Mo_keeps 44 rfl) fl_Mo_11 (by assumption) (show up1 (mI M) (o + 16) _ o 36 = _ by rw [up1_ne (by omega)]; exact hu) ?_
    refine wp_iconst (v := nI 1) (by decide) (ck_get kk_Mo_keeps 45 rfl) ?_
    first | refine wp_isubN (ck_get kk_Mo_keeps 46 rfl) (by omega) ?_ | refine wp_isub (ck_get kk_Mo_keeps 46 rfl) ?_
    refine wp_putI (ck_get kk_Mo_keeps 47 rfl) fl_Mo_11 (by decide +kernel) (by assumption) (okI_int _) ?_
    subst hc10
    refine (l_keepB (u := 15) (M := kpA M o) hM0 (by rw [mI_sI, if_pos ⟨rfl, rfl⟩]) (by omega)).mono (fun r M2 ⟨e1, e2⟩ => ⟨e1, ?_⟩)
    rw [if_pos rfl]; exact e2
theorem l_undo1 {u : Nat} (hM : MoAt (mT M) (mR M) o) (hl : u < 16) {Q : Option Value → Mem → Prop} (K : Wp g Y_Mo_undo 1 62 [some (.ref o), some (.int (nI (370 * u))), some (.int (nI (369)))] [] (mk2 M (up1 (mI M) (o + 2) (cpL (mI M (o + 2)) (mI M (o + 16)) (0) (370 * u) (369))) (mJ M)) Q) : ∀ k i, 369 = i + k → Wp g Y_Mo_undo 1 35 [some (.ref o), some (.int (nI (370 * u))), some (.int (nI i))] [] (mk2 M (up1 (mI M) (o + 2) (cpL (mI M (o + 2)) (mI M (o + 16)) (0) (370 * u) (i))) (mJ M)) Q := by
  have to0 := hM.1
  have rfleft0 := MoAt.r hM 15 rfl
  have tfleft0 := MoAt.t hM 15 rfl
  have rfkept := MoAt.r hM 1 rfl
  have tfkept := MoAt.t hM 1 rfl
  intro k
  induction k with
  | zero =>
    intro i h1
    refine wp_iload_n rfl (ck_get kk_Mo_undo 20 rfl) ?_
    refine wp_sipush (v := nI 369) (by decide) (ck_get kk_Mo_undo 21 rfl) ?_
    first | refine wp_icmp_geN (t := 62) (ck_get kk_Mo_undo 22 rfl) (by decide) (by omega) (by omega) (fun hc39 => ?_) (fun hc39 => ?_) | refine wp_icmp_ge (t := 62) (ck_get kk_Mo_undo 22 rfl) (by decide) (fun hc39 => ?_) (fun hc39 => ?_)
    · subst h1; exact K
    · omega
  | succ k ih =>
    intro i h1
    refine wp_iload_n rfl (ck_get kk_Mo_undo 20 rfl) ?_
    refine wp_sipush (v := nI 369) (by decide) (ck_get kk_Mo_undo 21 rfl) ?_
    first | refine wp_icmp_geN (t := 62) (ck_get kk_Mo_undo 22 rfl) (by decide) (by omega) (by omega) (fun hc39 => ?_) (fun hc39 => ?_) | refine wp_icmp_ge (t := 62) (ck_get kk_Mo_undo 22 rfl) (by decide) (fun hc39 => ?_) (fun hc39 => ?_)
    · omega
    · refine wp_aload_n rfl (ck_get kk_Mo_undo 23 rfl) ?_
      refine wp_getR (ck_get kk_Mo_undo 24 rfl) fl_Mo_28 (by assumption) (by assumption) ?_
      refine wp_iload_n rfl (ck_get kk_Mo_undo 25 rfl) ?_
      refine wp_aload_n rfl (ck_get kk_Mo_undo 26 rfl) ?_
      refine wp_getR (ck_get kk_Mo_undo 27 rfl) fl_Mo_76 (by assumption) (by assumption) ?_
      refine wp_iload_n rfl (ck_get kk_Mo_undo 28 rfl) ?_
      refine wp_iload_n rfl (ck_get kk_Mo_undo 29 rfl) ?_
      first | refine wp_iaddN (ck_get kk_Mo_undo 30 rfl) ?_ | refine wp_iadd (ck_get kk_Mo_undo 30 rfl) ?_
      refine wp_ialdv (v := mI M (o + 16) (370 * u + i)) (ck_get kk_Mo_undo 31 rfl) (by assumption) (ixk_nI (k := 370 * u + i) (by omega) (by omega)) (show up1 (mI M) (o + 2) _ (o + 16) (370 * u + i) = _ by rw [up1_ne (by omega)]) ?_
      refine wp_iast (ck_get kk_Mo_undo 32 rfl) (by assumption) (ixk_nI (k := i) (by omega) (by omega)) ?_
      first | refine wp_iincN (ck_get kk_Mo_undo 33 rfl) rfl (by decide) rfl ?_ | refine wp_iinc (ck_get kk_Mo_undo 33 rfl) rfl (by decide) rfl ?_
      refine wp_goto (t := 35) (ck_get kk_Mo_undo 34 rfl) (by decide) ?_
      have e := ih (i + 1) (by omega)
      rw [← cpL_succ (show 0 + i = i by omega) (show 370 * u + i = 370 * u + i by omega)] at e
      exact e
theorem l_undo1_0 {u : Nat} (hM : MoAt (mT M) (mR M) o) (hl : u < 16) {Q : Option Value → Mem → Prop} (K : Wp g Y_Mo_undo 1 62 [some (.ref o), some (.int (nI (370 * u))), some (.int (nI (369)))] [] (mk2 M (up1 (mI M) (o + 2) (cpL (mI M (o + 2)) (mI M (o + 16)) (0) (370 * u) (369))) (mJ M)) Q) : Wp g Y_Mo_undo 1 35 [some (.ref o), some (.int (nI (370 * u))), some (.int (nI 0))] [] M Q := by
  have e := l_undo1 hM hl K (369) 0 (by omega)
  rw [cpL_0] at e
  exact e
theorem l_undo2 {u : Nat} (hM : MoAt (mT M) (mR M) o) (hu : mI M o 36 = nI u) (hl : u < 16) {Q : Option Value → Mem → Prop} (K : Wp g Y_Mo_undo 1 96 [some (.ref o), some (.int (nI (370 * u))), some (.int (nI (100)))] [] (mk2 M (mI M) (up1 (mJ M) (o + 3) (cpL (mJ M (o + 3)) (mJ M (o + 17)) (0) (100 * u) (100)))) Q) : ∀ k i, 100 = i + k → Wp g Y_Mo_undo 1 64 [some (.ref o), some (.int (nI (370 * u))), some (.int (nI i))] [] (mk2 M (mI M) (up1 (mJ M) (o + 3) (cpL (mJ M (o + 3)) (mJ M (o + 17)) (0) (100 * u) (i)))) Q := by
  have to0 := hM.1
  have rfleftParts := MoAt.r hM 16 rfl
  have tfleftParts := MoAt.t hM 16 rfl
  have rfparts := MoAt.r hM 2 rfl
  have tfparts := MoAt.t hM 2 rfl
  intro k
  induction k with
  | zero =>
    intro i h1
    refine wp_iload_n rfl (ck_get kk_Mo_undo 37 rfl) ?_
    refine wp_bipush (v := nI 100) (by decide) (ck_get kk_Mo_undo 38 rfl) ?_
    first | refine wp_icmp_geN (t := 96) (ck_get kk_Mo_undo 39 rfl) (by decide) (by omega) (by omega) (fun hc67 => ?_) (fun hc67 => ?_) | refine wp_icmp_ge (t := 96) (ck_get kk_Mo_undo 39 rfl) (by decide) (fun hc67 => ?_) (fun hc67 => ?_)
    · subst h1; exact K
    · omega
  | succ k ih =>
    intro i h1
    refine wp_iload_n rfl (ck_get kk_Mo_undo 37 rfl) ?_
    refine wp_bipush (v := nI 100) (by decide) (ck_get kk_Mo_undo 38 rfl) ?_
    first | refine wp_icmp_geN (t := 96) (ck_get kk_Mo_undo 39 rfl) (by decide) (by omega) (by omega) (fun hc67 => ?_) (fun hc67 => ?_) | refine wp_icmp_ge (t := 96) (ck_get kk_Mo_undo 39 rfl) (by decide) (fun hc67 => ?_) (fun hc67 => ?_)
    · omega
    · refine wp_aload_n rfl (ck_get kk_Mo_undo 40 rfl) ?_
      refine wp_getR (ck_get kk_Mo_undo 41 rfl) fl_Mo_31 (by assumption) (by assumption) ?_
      refine wp_iload_n rfl (ck_get kk_Mo_undo 42 rfl) ?_
      refine wp_aload_n rfl (ck_get kk_Mo_undo 43 rfl) ?_
      refine wp_getR (ck_get kk_Mo_undo 44 rfl) fl_Mo_79 (by assumption) (by assumption) ?_
      refine wp_bipush (v := nI 100) (by decide) (ck_get kk_Mo_undo 45 rfl) ?_
      refine wp_aload_n rfl (ck_get kk_Mo_undo 46 rfl) ?_
      refine wp_getIv (v := nI u) (ck_get kk_Mo_undo 47 rfl) fl_Mo_11 (by assumption) (hu) ?_
      first | refine wp_imulN (ck_get kk_Mo_undo 48 rfl) ?_ | refine wp_imul (ck_get kk_Mo_undo 48 rfl) ?_
      refine wp_iload_n rfl (ck_get kk_Mo_undo 49 rfl) ?_
      first | refine wp_iaddN (ck_get kk_Mo_undo 50 rfl) ?_ | refine wp_iadd (ck_get kk_Mo_undo 50 rfl) ?_
      refine wp_laldv (v := mJ M (o + 17) (100 * u + i)) (ck_get kk_Mo_undo 51 rfl) (by assumption) (ixk_nI (k := 100 * u + i) (by omega) (by omega)) (show up1 (mJ M) (o + 3) _ (o + 17) (100 * u + i) = _ by rw [up1_ne (by omega)]) ?_
      refine wp_last (ck_get kk_Mo_undo 52 rfl) (by assumption) (ixk_nI (k := i) (by omega) (by omega)) ?_
      first | refine wp_iincN (ck_get kk_Mo_undo 53 rfl) rfl (by decide) rfl ?_ | refine wp_iinc (ck_get kk_Mo_undo 53 rfl) rfl (by decide) rfl ?_
      refine wp_goto (t := 64) (ck_get kk_Mo_undo 54 rfl) (by decide) ?_
      have e := ih (i + 1) (by omega)
      rw [← cpL_succ (show 0 + i = i by omega) (show 100 * u + i = 100 * u + i by omega)] at e
      exact e
theorem l_undo2_0 {u : Nat} (hM : MoAt (mT M) (mR M) o) (hu : mI M o 36 = nI u) (hl : u < 16) {Q : Option Value → Mem → Prop} (K : Wp g Y_Mo_undo 1 96 [some (.ref o), some (.int (nI (370 * u))), some (.int (nI (100)))] [] (mk2 M (mI M) (up1 (mJ M) (o + 3) (cpL (mJ M (o + 3)) (mJ M (o + 17)) (0) (100 * u) (100)))) Q) : Wp g Y_Mo_undo 1 64 [some (.ref o), some (.int (nI (370 * u))), some (.int (nI 0))] [] M Q := by
  have e := l_undo2 hM hu hl K (100) 0 (by omega)
  rw [cpL_0] at e
  exact e
abbrev unM (M : Mem) (o u : Nat) : Mem := cJ2 (cI2 (sI M o 36 (nI u)) (o + 2) (o + 16) 0 (370 * u) 369) (o + 3) (o + 17) 0 (100 * u) 100
theorem m_undo {u : Nat} (hM : MoAt (mT M) (mR M) o) (hu : mI M o 36 = nI u) (hl : u ≤ 16) : Ci g Y_Mo_undo 1 [.ref o] M (fun x M2 => (u = 0 ∧ x = -3 ∧ M2 = rfM M o (-3) 3) ∨ (¬ u = 0 ∧ x = mI M (o + 16) (370 * (u - 1) + 369) ∧ M2 = gdM (unM M o (u - 1)) o)) := by
  refine cw_entry 2 pf_Mo_undo rfl ?_
  have hM0 := hM
  have to0 := hM.1
  have rfleft0 := MoAt.r hM 15 rfl
  have tfleft0 := MoAt.t hM 15 rfl
  refine wp_aload_n rfl (ck_get kk_Mo_undo 0 rfl) ?_
  refine wp_getIv (v := nI u) (ck_get kk_Mo_undo 1 rfl) fl_Mo_11 (by assumption) (hu) ?_
  first | refine wp_if_neN (t := 14) (ck_get kk_Mo_undo 2 rfl) (by decide) (by omega) (fun hc4 => ?_) (fun hc4 => ?_) | refine wp_if_ne (t := 14) (ck_get kk_Mo_undo 2 rfl) (by decide) (fun hc4 => ?_) (fun hc4 => ?_)
  · refine wp_aload_n rfl (ck_get kk_Mo_undo 7 rfl) ?_
    refine wp_dup rfl (ck_get kk_Mo_undo 8 rfl) ?_
    refine wp_getIv (v := nI u) (ck_get kk_Mo_undo 9 rfl) fl_Mo_11 (by assumption) (hu) ?_
    refine wp_iconst (v := nI 1) (by decide) (ck_get kk_Mo_undo 10 rfl) ?_
    first | refine wp_isubN (ck_get kk_Mo_undo 11 rfl) (by omega) ?_ | refine wp_isub (ck_get kk_Mo_undo 11 rfl) ?_
    refine wp_putI (ck_get kk_Mo_undo 12 rfl) fl_Mo_11 (by decide +kernel) (by assumption) (okI_int _) ?_
    refine wp_sipush (v := nI 370) (by decide) (ck_get kk_Mo_undo 13 rfl) ?_
    refine wp_aload_n rfl (ck_get kk_Mo_undo 14 rfl) ?_
    refine wp_getIv (v := nI (u - 1)) (ck_get kk_Mo_undo 15 rfl) fl_Mo_11 (by assumption) (by rw [mI_sI, if_pos ⟨rfl, rfl⟩]) ?_
    first | refine wp_imulN (ck_get kk_Mo_undo 16 rfl) ?_ | refine wp_imul (ck_get kk_Mo_undo 16 rfl) ?_
    refine wp_istore_n (ck_get kk_Mo_undo 17 rfl) (by decide) rfl ?_
    refine wp_iconst (v := nI 0) (by decide) (ck_get kk_Mo_undo 18 rfl) ?_
    refine wp_istore_n (ck_get kk_Mo_undo 19 rfl) (by decide) rfl ?_
    refine l_undo1_0 (u := u - 1) (by exact hM0) (by omega) ?_
    refine wp_iconst (v := nI 0) (by decide) (ck_get kk_Mo_undo 35 rfl) ?_
    refine wp_istore_n (ck_get kk_Mo_undo 36 rfl) (by decide) rfl ?_
    refine l_undo2_0 (u := u - 1) (by exact hM0) (by show up1 (up2 (mI M) o 36 (nI (u - 1))) (o + 2) _ o 36 = _; rw [up1_ne (by omega), up2_up1, up1_eq, up1_eq]) (by omega) ?_
    refine wp_aload_n rfl (ck_get kk_Mo_undo 55 rfl) ?_
    refine wp_aload_n rfl (ck_get kk_Mo_undo 56 rfl) ?_
    refine wp_getR (ck_get kk_Mo_undo 57 rfl) fl_Mo_76 (by assumption) (by assumption) ?_
    refine wp_iload_n rfl (ck_get kk_Mo_undo 58 rfl) ?_
    refine wp_sipush (v := nI 369) (by decide) (ck_get kk_Mo_undo 59 rfl) ?_
    first | refine wp_iaddN (ck_get kk_Mo_undo 60 rfl) ?_ | refine wp_iadd (ck_get kk_Mo_undo 60 rfl) ?_
    refine wp_ialdv (v := mI M (o + 16) (370 * (u - 1) + 369)) (ck_get kk_Mo_undo 61 rfl) (by assumption) (ixk_nI (k := 370 * (u - 1) + 369) (by omega) (by omega)) (show up1 (up2 (mI M) o 36 (nI (u - 1))) (o + 2) _ (o + 16) _ = _ by rw [up1_ne (by omega), up2_up1, up1_ne (by omega)]) ?_
    refine wp_cV1i (ck_get kk_Mo_undo 62 rfl) ml_Mo_14 (by omega) (Nat.le_of_ble_eq_true rfl) (by assumption) (Ci.to (m_good hM0) ?_)
    rintro x M2 ⟨rfl, rfl⟩
    refine wp_ireturn (ck_get kk_Mo_undo 63 rfl) rfl rfl ⟨_, rfl, ?_⟩
    exact Or.inr ⟨hc4, rfl, rfl⟩
  · refine wp_aload_n rfl (ck_get kk_Mo_undo 3 rfl) ?_
    refine wp_bipush (v := (-3)) (by decide) (ck_get kk_Mo_undo 4 rfl) ?_
    refine wp_cV1i (ck_get kk_Mo_undo 5 rfl) ml_Mo_146 (by omega) (Nat.le_of_ble_eq_true rfl) (by assumption) (Ci.to (m_refusesV (c := 3) (by decide) hM0 (by decide)) ?_)
    rintro x M2 ⟨rfl, rfl⟩
    refine wp_ireturn (ck_get kk_Mo_undo 6 rfl) rfl rfl ⟨_, rfl, ?_⟩
    exact Or.inl ⟨hc4, rfl, rfl⟩
end MU

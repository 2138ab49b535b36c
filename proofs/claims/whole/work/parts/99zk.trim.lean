/-! ===== a program, trimmed ===== -/
section TRI
variable {g : Gl} {M : Mem}
theorem l_trim {a : Nat} {I1 : Nat → Nat → Int32} {J1 : Nat → Nat → Int64} (hP : PrAt (mT M) (mR M) 925 1024) (ta : mT M a = (4, 0)) (hr : ∀ k, 1 ≤ k → k ≤ 7 → mR M a k = some (a + k)) (ht : ∀ k, 1 ≤ k → k ≤ 6 → mT M (a + k) = (20, 12)) (ha : 1056 ≤ a) {Q : Option Value → Mem → Prop}
    (K : ∀ I, (∀ x, x < a + 1 ∨ a + 7 ≤ x → I x = I1 x) → (∀ k, 1 ≤ k → k ≤ 6 → ∀ y, y < 12 → I (a + k) y = I1 (925 + k) y) → Wp g Y_Pr_trimmed 3 114 [some (.ref 925), some (.ref a), some (.int (nI 12))] [] (mk2 M I J1) Q) :
    ∀ d i I, i + d = 12 → (∀ x, x < a + 1 ∨ a + 7 ≤ x → I x = I1 x) → (∀ k, 1 ≤ k → k ≤ 6 → ∀ y, y < i → I (a + k) y = I1 (925 + k) y) → Wp g Y_Pr_trimmed 3 30 [some (.ref 925), some (.ref a), some (.int (nI i))] [] (mk2 M I J1) Q := by
  obtain ⟨p0, p1, p2, p3⟩ := hP
  have s1 : mR M 925 1 = some (925 + 1) := p1 1 (by omega) (by omega)
  have st1 : mT M (925 + 1) = (20, 12) := p2 1 (by omega) (by omega)
  have d1 : mR M a 1 = some (a + 1) := hr 1 (by omega) (by omega)
  have dt1 : mT M (a + 1) = (20, 12) := ht 1 (by omega) (by omega)
  have s2 : mR M 925 2 = some (925 + 2) := p1 2 (by omega) (by omega)
  have st2 : mT M (925 + 2) = (20, 12) := p2 2 (by omega) (by omega)
  have d2 : mR M a 2 = some (a + 2) := hr 2 (by omega) (by omega)
  have dt2 : mT M (a + 2) = (20, 12) := ht 2 (by omega) (by omega)
  have s3 : mR M 925 3 = some (925 + 3) := p1 3 (by omega) (by omega)
  have st3 : mT M (925 + 3) = (20, 12) := p2 3 (by omega) (by omega)
  have d3 : mR M a 3 = some (a + 3) := hr 3 (by omega) (by omega)
  have dt3 : mT M (a + 3) = (20, 12) := ht 3 (by omega) (by omega)
  have s4 : mR M 925 4 = some (925 + 4) := p1 4 (by omega) (by omega)
  have st4 : mT M (925 + 4) = (20, 12) := p2 4 (by omega) (by omega)
  have d4 : mR M a 4 = some (a + 4) := hr 4 (by omega) (by omega)
  have dt4 : mT M (a + 4) = (20, 12) := ht 4 (by omega) (by omega)
  have s5 : mR M 925 5 = some (925 + 5) := p1 5 (by omega) (by omega)
  have st5 : mT M (925 + 5) = (20, 12) := p2 5 (by omega) (by omega)
  have d5 : mR M a 5 = some (a + 5) := hr 5 (by omega) (by omega)
  have dt5 : mT M (a + 5) = (20, 12) := ht 5 (by omega) (by omega)
  have s6 : mR M 925 6 = some (925 + 6) := p1 6 (by omega) (by omega)
  have st6 : mT M (925 + 6) = (20, 12) := p2 6 (by omega) (by omega)
  have d6 : mR M a 6 = some (a + 6) := hr 6 (by omega) (by omega)
  have dt6 : mT M (a + 6) = (20, 12) := ht 6 (by omega) (by omega)
  intro d
  induction d with
  | zero =>
    intro i I h1 h2 h3
    refine wp_iload_n rfl (ck_get kk_Pr_trimmed 16 rfl) ?_
    refine wp_bipush (v := nI 12) (by decide) (ck_get kk_Pr_trimmed 17 rfl) ?_
    first | refine wp_icmp_geN (t := 114) (ck_get kk_Pr_trimmed 18 rfl) (by decide) (by omega) (by omega) (fun hc33 => ?_) (fun hc33 => ?_) | refine wp_icmp_ge (t := 114) (ck_get kk_Pr_trimmed 18 rfl) (by decide) (fun hc33 => ?_) (fun hc33 => ?_)
    · obtain rfl : i = 12 := by omega
      exact K I h2 h3
    · omega
  | succ d ih =>
    intro i I h1 h2 h3
    refine wp_iload_n rfl (ck_get kk_Pr_trimmed 16 rfl) ?_
    refine wp_bipush (v := nI 12) (by decide) (ck_get kk_Pr_trimmed 17 rfl) ?_
    first | refine wp_icmp_geN (t := 114) (ck_get kk_Pr_trimmed 18 rfl) (by decide) (by omega) (by omega) (fun hc33 => ?_) (fun hc33 => ?_) | refine wp_icmp_ge (t := 114) (ck_get kk_Pr_trimmed 18 rfl) (by decide) (fun hc33 => ?_) (fun hc33 => ?_)
    · omega
    · refine wp_aload_n rfl (ck_get kk_Pr_trimmed 19 rfl) ?_
      refine wp_getR (ck_get kk_Pr_trimmed 20 rfl) fl_Pr_15 (by assumption) (by assumption) ?_
      refine wp_iload_n rfl (ck_get kk_Pr_trimmed 21 rfl) ?_
      refine wp_aload_n rfl (ck_get kk_Pr_trimmed 22 rfl) ?_
      refine wp_getR (ck_get kk_Pr_trimmed 23 rfl) fl_Pr_15 (by assumption) (by assumption) ?_
      refine wp_iload_n rfl (ck_get kk_Pr_trimmed 24 rfl) ?_
      refine wp_ialdv (v := I1 (925 + 1) i) (ck_get kk_Pr_trimmed 25 rfl) (by assumption) (ixk_nI (k := i) (by omega) (by omega)) ((congrFun (h2 (925 + 1) (by omega)) i)) ?_
      refine wp_iast (ck_get kk_Pr_trimmed 26 rfl) (by assumption) (ixk_nI (k := i) (by omega) (by omega)) ?_
      refine wp_aload_n rfl (ck_get kk_Pr_trimmed 27 rfl) ?_
      refine wp_getR (ck_get kk_Pr_trimmed 28 rfl) fl_Pr_19 (by assumption) (by assumption) ?_
      refine wp_iload_n rfl (ck_get kk_Pr_trimmed 29 rfl) ?_
      refine wp_aload_n rfl (ck_get kk_Pr_trimmed 30 rfl) ?_
      refine wp_getR (ck_get kk_Pr_trimmed 31 rfl) fl_Pr_19 (by assumption) (by assumption) ?_
      refine wp_iload_n rfl (ck_get kk_Pr_trimmed 32 rfl) ?_
      refine wp_ialdv (v := I1 (925 + 2) i) (ck_get kk_Pr_trimmed 33 rfl) (by assumption) (ixk_nI (k := i) (by omega) (by omega)) ((congrFun (s_o (by omega)) i).trans ((congrFun (h2 (925 + 2) (by omega)) i))) ?_
      refine wp_iast (ck_get kk_Pr_trimmed 34 rfl) (by assumption) (ixk_nI (k := i) (by omega) (by omega)) ?_
      refine wp_aload_n rfl (ck_get kk_Pr_trimmed 35 rfl) ?_
      refine wp_getR (ck_get kk_Pr_trimmed 36 rfl) fl_Pr_22 (by assumption) (by assumption) ?_
      refine wp_iload_n rfl (ck_get kk_Pr_trimmed 37 rfl) ?_
      refine wp_aload_n rfl (ck_get kk_Pr_trimmed 38 rfl) ?_
      refine wp_getR (ck_get kk_Pr_trimmed 39 rfl) fl_Pr_22 (by assumption) (by assumption) ?_
      refine wp_iload_n rfl (ck_get kk_Pr_trimmed 40 rfl) ?_
      refine wp_ialdv (v := I1 (925 + 3) i) (ck_get kk_Pr_trimmed 41 rfl) (by assumption) (ixk_nI (k := i) (by omega) (by omega)) ((congrFun (s_o (by omega)) i).trans ((congrFun (s_o (by omega)) i).trans ((congrFun (h2 (925 + 3) (by omega)) i)))) ?_
      refine wp_iast (ck_get kk_Pr_trimmed 42 rfl) (by assumption) (ixk_nI (k := i) (by omega) (by omega)) ?_
      refine wp_aload_n rfl (ck_get kk_Pr_trimmed 43 rfl) ?_
      refine wp_getR (ck_get kk_Pr_trimmed 44 rfl) fl_Pr_25 (by assumption) (by assumption) ?_
      refine wp_iload_n rfl (ck_get kk_Pr_trimmed 45 rfl) ?_
      refine wp_aload_n rfl (ck_get kk_Pr_trimmed 46 rfl) ?_
      refine wp_getR (ck_get kk_Pr_trimmed 47 rfl) fl_Pr_25 (by assumption) (by assumption) ?_
      refine wp_iload_n rfl (ck_get kk_Pr_trimmed 48 rfl) ?_
      refine wp_ialdv (v := I1 (925 + 4) i) (ck_get kk_Pr_trimmed 49 rfl) (by assumption) (ixk_nI (k := i) (by omega) (by omega)) ((congrFun (s_o (by omega)) i).trans ((congrFun (s_o (by omega)) i).trans ((congrFun (s_o (by omega)) i).trans ((congrFun (h2 (925 + 4) (by omega)) i))))) ?_
      refine wp_iast (ck_get kk_Pr_trimmed 50 rfl) (by assumption) (ixk_nI (k := i) (by omega) (by omega)) ?_
      refine wp_aload_n rfl (ck_get kk_Pr_trimmed 51 rfl) ?_
      refine wp_getR (ck_get kk_Pr_trimmed 52 rfl) fl_Pr_28 (by assumption) (by assumption) ?_
      refine wp_iload_n rfl (ck_get kk_Pr_trimmed 53 rfl) ?_
      refine wp_aload_n rfl (ck_get kk_Pr_trimmed 54 rfl) ?_
      refine wp_getR (ck_get kk_Pr_trimmed 55 rfl) fl_Pr_28 (by assumption) (by assumption) ?_
      refine wp_iload_n rfl (ck_get kk_Pr_trimmed 56 rfl) ?_
      refine wp_ialdv (v := I1 (925 + 5) i) (ck_get kk_Pr_trimmed 57 rfl) (by assumption) (ixk_nI (k := i) (by omega) (by omega)) ((congrFun (s_o (by omega)) i).trans ((congrFun (s_o (by omega)) i).trans ((congrFun (s_o (by omega)) i).trans ((congrFun (s_o (by omega)) i).trans ((congrFun (h2 (925 + 5) (by omega)) i)))))) ?_
      refine wp_iast (ck_get kk_Pr_trimmed 58 rfl) (by assumption) (ixk_nI (k := i) (by omega) (by omega)) ?_
      refine wp_aload_n rfl (ck_get kk_Pr_trimmed 59 rfl) ?_
      refine wp_getR (ck_get kk_Pr_trimmed 60 rfl) fl_Pr_31 (by assumption) (by assumption) ?_
      refine wp_iload_n rfl (ck_get kk_Pr_trimmed 61 rfl) ?_
      refine wp_aload_n rfl (ck_get kk_Pr_trimmed 62 rfl) ?_
      refine wp_getR (ck_get kk_Pr_trimmed 63 rfl) fl_Pr_31 (by assumption) (by assumption) ?_
      refine wp_iload_n rfl (ck_get kk_Pr_trimmed 64 rfl) ?_
      refine wp_ialdv (v := I1 (925 + 6) i) (ck_get kk_Pr_trimmed 65 rfl) (by assumption) (ixk_nI (k := i) (by omega) (by omega)) ((congrFun (s_o (by omega)) i).trans ((congrFun (s_o (by omega)) i).trans ((congrFun (s_o (by omega)) i).trans ((congrFun (s_o (by omega)) i).trans ((congrFun (s_o (by omega)) i).trans ((congrFun (h2 (925 + 6) (by omega)) i))))))) ?_
      refine wp_iast (ck_get kk_Pr_trimmed 66 rfl) (by assumption) (ixk_nI (k := i) (by omega) (by omega)) ?_
      first | refine wp_iincN (ck_get kk_Pr_trimmed 67 rfl) rfl (by decide) rfl ?_ | refine wp_iinc (ck_get kk_Pr_trimmed 67 rfl) rfl (by decide) rfl ?_
      refine wp_goto (t := 30) (ck_get kk_Pr_trimmed 68 rfl) (by decide) ?_
      generalize hI6 : up2 (up2 (up2 (up2 (up2 (up2 (I) (a + 1) i (I1 (925 + 1) i)) (a + 2) i (I1 (925 + 2) i)) (a + 3) i (I1 (925 + 3) i)) (a + 4) i (I1 (925 + 4) i)) (a + 5) i (I1 (925 + 5) i)) (a + 6) i (I1 (925 + 6) i) = I6
      have f6 : ∀ x, x < a + 1 ∨ a + 7 ≤ x → I6 x = I x := fun x hx => by
        rw [← hI6, up2_o (by omega), up2_o (by omega), up2_o (by omega), up2_o (by omega), up2_o (by omega), up2_o (by omega)]
      have g6 : ∀ k, 1 ≤ k → k ≤ 6 → I6 (a + k) = up1 (I (a + k)) i (I1 (925 + k) i) := fun k q1 q2 => by
        rw [← hI6]
        rcases (show k = 1 ∨ k = 2 ∨ k = 3 ∨ k = 4 ∨ k = 5 ∨ k = 6 by omega) with rfl | rfl | rfl | rfl | rfl | rfl
        · rw [up2_o (by omega), up2_o (by omega), up2_o (by omega), up2_o (by omega), up2_o (by omega), up2_up1, up1_eq]
        · rw [up2_o (by omega), up2_o (by omega), up2_o (by omega), up2_o (by omega), up2_up1, up1_eq, up2_o (by omega)]
        · rw [up2_o (by omega), up2_o (by omega), up2_o (by omega), up2_up1, up1_eq, up2_o (by omega), up2_o (by omega)]
        · rw [up2_o (by omega), up2_o (by omega), up2_up1, up1_eq, up2_o (by omega), up2_o (by omega), up2_o (by omega)]
        · rw [up2_o (by omega), up2_up1, up1_eq, up2_o (by omega), up2_o (by omega), up2_o (by omega), up2_o (by omega)]
        · rw [up2_up1, up1_eq, up2_o (by omega), up2_o (by omega), up2_o (by omega), up2_o (by omega), up2_o (by omega)]
      rw [show sI (sI (sI (sI (sI (sI (mk2 M I J1) (a + 1) i (I1 (925 + 1) i)) (a + 2) i (I1 (925 + 2) i)) (a + 3) i (I1 (925 + 3) i)) (a + 4) i (I1 (925 + 4) i)) (a + 5) i (I1 (925 + 5) i)) (a + 6) i (I1 (925 + 6) i) = mk2 M I6 J1 by rw [← hI6]]
      refine ih (i + 1) I6 (by omega) (fun x hx => (f6 x hx).trans (h2 x hx)) (fun k q1 q2 y hy => ?_)
      rw [g6 k q1 q2]
      by_cases e : y = i
      · subst e; rw [up1_eq]
      · rw [up1_ne e]; exact h3 k q1 q2 y (by omega)
theorem c_trimmed {cn nc : Nat} (hP : PrAt (mT M) (mR M) 925 1024) (hz : 1056 ≤ mZ M) (h8 : mI M 925 8 = nI cn) (h0 : mI M 925 0 = nI nc) (hcn : cn ≤ 1024) : Ca g Y_Pr_trimmed 3 [.ref 925] M (fun x M2 => x = some (mZ M) ∧ (mZ M2 = mZ M + 8 ∧ mL M2 = mL M + (81 + cn)) ∧ PrAt (mT M2) (mR M2) (mZ M) cn ∧ mI M2 (mZ M) 8 = nI cn ∧ mI M2 (mZ M) 0 = nI nc ∧ (∀ k, 1 ≤ k → k ≤ 6 → ∀ y, y < 12 → mI M2 (mZ M + k) y = mI M (925 + k) y) ∧ (∀ y, y < cn → mI M2 (mZ M + 7) y = mI M 932 y) ∧ ∀ x, x < mZ M ∨ mZ M + 8 ≤ x → mT M2 x = mT M x ∧ mI M2 x = mI M x ∧ mJ M2 x = mJ M x ∧ mR M2 x = mR M x) := by
  have hP0 := hP
  obtain ⟨p0, p1, p2, p3⟩ := hP
  generalize ha : mZ M = a at hz ⊢
  have eT : ∀ x, x ≠ a → mT (mNew M 4 0 (NF 4)) x = mT M x := fun x hx => up1_ne (by omega)
  have eI : ∀ x, x ≠ a → mI (mNew M 4 0 (NF 4)) x = mI M x := fun x hx => up1_ne (by omega)
  have eJ : ∀ x, x ≠ a → mJ (mNew M 4 0 (NF 4)) x = mJ M x := fun x hx => up1_ne (by omega)
  have eR : ∀ x, x ≠ a → mR (mNew M 4 0 (NF 4)) x = mR M x := fun x hx => up1_ne (by omega)
  have eZ : mZ (mNew M 4 0 (NF 4)) = a + 1 := by show mZ M + 1 = a + 1; rw [ha]
  have eL : mL (mNew M 4 0 (NF 4)) = mL M + 9 := rfl
  have tA : mT (mNew M 4 0 (NF 4)) a = (4, 0) := by show up1 (mT M) (mZ M) (4, 0) a = _; rw [ha, up1_eq]
  have t925 : mT (mNew M 4 0 (NF 4)) 925 = (4, 0) := (eT 925 (by omega)).trans p0
  have i8 : mI (mNew M 4 0 (NF 4)) 925 8 = nI cn := (congrFun (eI 925 (by omega)) 8).trans h8
  refine cw_entry 2 pf_Pr_trimmed rfl ?_
  refine wp_new (ck_get kk_Pr_trimmed 0 rfl) cl_Pr_10 ?_
  rw [ha]
  refine wp_dup rfl (ck_get kk_Pr_trimmed 1 rfl) ?_
  refine wp_aload_n rfl (ck_get kk_Pr_trimmed 2 rfl) ?_
  first | refine wp_getIv (ck_get kk_Pr_trimmed 3 rfl) fl_Pr_34 (by assumption) (by assumption) ?_ | refine wp_getI (ck_get kk_Pr_trimmed 3 rfl) fl_Pr_34 (by assumption) ?_
  refine wp_cI1v (ck_get kk_Pr_trimmed 4 rfl) ml_Pr_46 (by omega) (Nat.le_of_ble_eq_true rfl) (Cv.to (c_PrInit (a := a) (cn := cn) (by omega) tA hcn) ?_)
  rintro W ⟨F, G, hN, hF0, hF8, hG⟩
  obtain ⟨⟨w1, w2⟩, w3, w4, w5, w6, w7, w8⟩ := hN
  rw [eZ] at w1 w3 w4
  have wx : ∀ x, x < a → mT W x = mT M x ∧ mI W x = mI M x ∧ mJ W x = mJ M x ∧ mR W x = mR M x := fun x hx => by
    obtain ⟨b1, b2, b3, b4⟩ := w3 x (by omega) (by omega)
    exact ⟨b1.trans (eT x (by omega)), b2.trans (eI x (by omega)), b3.trans (eJ x (by omega)), b4.trans (eR x (by omega))⟩
  have tW : mT W a = (4, 0) := w5.trans tA
  have tW925 : mT W 925 = (4, 0) := (wx 925 (by omega)).1.trans p0
  have rW : ∀ k, 1 ≤ k → k ≤ 7 → mR W a k = some (a + k) := fun k q1 q2 => by
    rw [w8, hG k q1 q2, eZ, show a + 1 + (k - 1) = a + k by omega]
  have tWk : ∀ k, 1 ≤ k → k ≤ 6 → mT W (a + k) = (20, 12) := fun k q1 q2 => by
    have := (w4 (k - 1) (by omega)).1
    dsimp only at this
    rw [show a + 1 + (k - 1) = a + k by omega, if_pos (by omega)] at this; exact this
  have tW7 : mT W (a + 7) = (20, cn) := by
    have := (w4 6 (by omega)).1
    rw [show a + 1 + 6 = a + 7 by omega] at this; exact this
  have hPW : PrAt (mT W) (mR W) 925 1024 := ⟨tW925, fun k q1 q2 => by rw [(wx 925 (by omega)).2.2.2]; exact p1 k q1 q2, fun k q1 q2 => by rw [(wx (925 + k) (by omega)).1]; exact p2 k q1 q2, by rw [(wx (925 + 7) (by omega)).1]; exact p3⟩
  refine wp_astore_n (ck_get kk_Pr_trimmed 5 rfl) (by decide) rfl ?_
  refine wp_aload_n rfl (ck_get kk_Pr_trimmed 6 rfl) ?_
  refine wp_aload_n rfl (ck_get kk_Pr_trimmed 7 rfl) ?_
  refine wp_getIv (v := nI nc) (ck_get kk_Pr_trimmed 8 rfl) fl_Pr_9 (by assumption) ((by rw [(wx 925 (by omega)).2.1]; exact h0)) ?_
  refine wp_putI (ck_get kk_Pr_trimmed 9 rfl) fl_Pr_9 (by decide +kernel) (by assumption) (okI_int _) ?_
  refine wp_aload_n rfl (ck_get kk_Pr_trimmed 10 rfl) ?_
  refine wp_aload_n rfl (ck_get kk_Pr_trimmed 11 rfl) ?_
  refine wp_getIv (v := nI cn) (ck_get kk_Pr_trimmed 12 rfl) fl_Pr_34 (by assumption) ((congrFun (s_o (by omega)) 8).trans (by rw [(wx 925 (by omega)).2.1]; exact h8)) ?_
  refine wp_putI (ck_get kk_Pr_trimmed 13 rfl) fl_Pr_34 (by decide +kernel) (by assumption) (okI_int _) ?_
  refine wp_iconst (v := nI 0) (by decide) (ck_get kk_Pr_trimmed 14 rfl) ?_
  refine wp_istore_n (ck_get kk_Pr_trimmed 15 rfl) (by decide) rfl ?_
  refine l_trim (M := W) (a := a) (I1 := up2 (up2 (mI W) a 0 (nI nc)) a 8 (nI cn)) (J1 := mJ W) hPW tW rW tWk hz (fun I q1 q2 => ?_) 12 0 _ (by omega) (fun _ _ => rfl) (fun k _ _ y hy => absurd hy (Nat.not_lt_zero y))
  have r7 : mR W 925 7 = some (925 + 7) := hPW.2.1 7 (by omega) (by omega)
  have t7 : mT W (925 + 7) = (20, 1024) := hPW.2.2.2
  have r7a := rW 7 (by omega) (by omega)
  have i8b : I 925 8 = nI cn := by rw [q1 925 (by omega), up2_o (by omega), up2_o (by omega), (wx 925 (by omega)).2.1]; exact h8
  refine wp_aload_n rfl (ck_get kk_Pr_trimmed 69 rfl) ?_
  refine wp_getR (ck_get kk_Pr_trimmed 70 rfl) fl_Pr_43 (by assumption) (by assumption) ?_
  refine wp_iconst (v := nI 0) (by decide) (ck_get kk_Pr_trimmed 71 rfl) ?_
  refine wp_aload_n rfl (ck_get kk_Pr_trimmed 72 rfl) ?_
  refine wp_getR (ck_get kk_Pr_trimmed 73 rfl) fl_Pr_43 (by assumption) (by assumption) ?_
  refine wp_iconst (v := nI 0) (by decide) (ck_get kk_Pr_trimmed 74 rfl) ?_
  refine wp_aload_n rfl (ck_get kk_Pr_trimmed 75 rfl) ?_
  refine wp_getIv (v := nI cn) (ck_get kk_Pr_trimmed 76 rfl) fl_Pr_34 (by assumption) (i8b) ?_
  refine wp_copyI (ck_get kk_Pr_trimmed 77 rfl) ak_Pr_49 (by exact t7) (by exact tW7) (nnk_nI (by omega)) (nnk_nI (by omega)) (nnk_nI (k := cn) (by omega)) (by omega) (by omega) (by omega) (Nat.le_of_ble_eq_true rfl) ?_
  refine wp_aload_n rfl (ck_get kk_Pr_trimmed 78 rfl) ?_
  first | refine wp_areturn (ck_get kk_Pr_trimmed 79 rfl) rfl rfl ⟨_, rfl, ?_⟩ | refine wp_areturnN (ck_get kk_Pr_trimmed 79 rfl) rfl rfl ⟨_, rfl, ?_⟩
  have f : ∀ x, x ≠ a + 7 → mI (cpI (mk2 W I (mJ W)) (925 + 7) 0 (a + 7) 0 cn) x = I x := fun x hx => by
    funext y
    show (if x = a + 7 ∧ 0 ≤ y ∧ y < 0 + cn then _ else I x y) = I x y
    rw [if_neg (fun q => hx q.1)]
  have f7 : ∀ y, y < cn → mI (cpI (mk2 W I (mJ W)) (925 + 7) 0 (a + 7) 0 cn) (a + 7) y = I (925 + 7) y := fun y hy => by
    show (if a + 7 = a + 7 ∧ 0 ≤ y ∧ y < 0 + cn then I (925 + 7) (0 + (y - 0)) else _) = _
    rw [if_pos ⟨rfl, by omega, by omega⟩, show 0 + (y - 0) = y by omega]
  have hs : ∀ x, x < a → I x = mI M x := fun x hx => by rw [q1 x (by omega), up2_o (by omega), up2_o (by omega), (wx x hx).2.1]
  refine ⟨rfl, ⟨?_, ?_⟩, ⟨tW, rW, tWk, tW7⟩, ?_, ?_, fun k k1 k2 y hy => ?_, fun y hy => ?_, fun x hx => ?_⟩
  · show mZ W = a + 8
    omega
  · show mL W = _
    rw [w2, eL]; omega
  · rw [f a (by omega), q1 a (by omega), up2_v]
  · rw [f a (by omega), q1 a (by omega), up2_k (by omega), up2_v]
  · rw [f (a + k) (by omega), q2 k k1 k2 y hy, up2_o (by omega), up2_o (by omega), (wx (925 + k) (by omega)).2.1]
  · rw [f7 y hy, hs (925 + 7) (by omega)]
  · rcases hx with hx | hx
    · exact ⟨(wx x hx).1, (f x (by omega)).trans (hs x hx), (wx x hx).2.2.1, (wx x hx).2.2.2⟩
    · obtain ⟨b1, b2, b3, b4⟩ := w3 x (by omega) (by omega)
      exact ⟨b1.trans (eT x (by omega)), by rw [f x (by omega), q1 x (by omega), up2_o (by omega), up2_o (by omega)]; exact b2.trans (eI x (by omega)), b3.trans (eJ x (by omega)), b4.trans (eR x (by omega))⟩
end TRI

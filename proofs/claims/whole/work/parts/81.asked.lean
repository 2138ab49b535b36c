/-! ===== the model's cost of a read, and whether it is barred ===== -/
/-- a law in the model's rows: its place, its tokens -/
def LawT (K : Nat → Int32) (t N : Nat) (tc tv : Nat → Nat) : Prop := K (388 + t) = nI N ∧ N ≤ 400 ∧ (∀ i, i < N → K (395 + (400 * t + i)) = nI (tc i) ∧ ∃ v, K (3195 + (400 * t + i)) = nI v ∧ v < 20000000 ∧ (tc i = 50 → min v 1001 = tv i)) ∧ (∀ i, tc i ≠ 0 → i < N) ∧ ∀ i, tc i < 400
/-- the class's program of it -/
def LawR (K : Nat → Int32) (t : Nat) (P : Nat → Nat → Int32) (cn nc : Nat) : Prop := ∃ N tc tv en r sg f, LawT K t N tc tv ∧ (∀ j, en j = true ↔ ¬ j < N) ∧ ChS tc tv false f en (fun m k => P k m) nc r 0 0 0 0 sg ∧ Hd (P 7) 0 sg ∧ sg.length = cn ∧ cn ≤ 1024 ∧ nc ≤ 12
theorem LawR.ok {K : Nat → Int32} {t cn nc : Nat} {P : Nat → Nat → Int32} (h : LawR K t P cn nc) : LawOK P cn nc := by
  obtain ⟨N, tc, tv, en, r, sg, f, -, -, hCh, hC, rfl, hcn2, hnc⟩ := h
  obtain ⟨q1, q2, q3⟩ := ChS_cw hCh rfl
  refine ⟨hnc, CodeW_of q1 hC, fun n hn => ?_⟩
  obtain ⟨u1, u2⟩ := q3 n (Nat.zero_le _) hn
  rw [if_neg (by decide), Nat.zero_add] at u2
  rw [Nat.zero_add] at u1
  refine ⟨u1, ?_⟩
  rcases u2 with u2 | ⟨u2, u3⟩
  · exact Or.inl u2
  · exact Or.inr ⟨u2, u3⟩
/-- where a law is told again: other places of the row may differ -/
theorem LawR.kept {K K2 : Nat → Int32} {t cn nc : Nat} {P P2 : Nat → Nat → Int32} (h : LawR K t P cn nc) (ht : t < 7) (hK : ∀ x, 388 ≤ x → K2 x = K x) (hP : P2 = P) : LawR K2 t P2 cn nc := by
  subst hP
  obtain ⟨N, tc, tv, en, r, sg, f, ⟨a1, a2, a3, a4⟩, h2⟩ := h
  refine ⟨N, tc, tv, en, r, sg, f, ⟨by rw [hK _ (by omega)]; exact a1, a2, fun i hi => ?_, a4⟩, h2⟩
  rw [hK _ (by omega), hK _ (by omega)]
  exact a3 i hi
section ASK
variable {g : Gl} {M : Mem} {o : Nat}
/-- only these numbers of the model's own were changed: where it goes, what it asks -/
def FrO (F F2 : Nat → Int32) : Prop := (∀ k, k < 25 ∨ 29 ≤ k → F2 k = F k) ∧ ∃ b, F2 27 = bI b
theorem m_tells {t cn nc hd : Nat} {P : Nat → Nat → Int32} {V : Nat → Int32} (hM : MoAt (mT M) (mR M) o) (h387 : mI M (o + 2) 387 = nI t) (ht : t < 7) (hL : LawR (mI M (o + 2)) t P cn nc) (hV : ∀ c, 7 ≤ c → c ≤ 12 → V (wIx false c 0) = mI M (o + 15) (c - 7)) (hVn : ∀ k, k < 6 → -1 ≤ (V k).toInt) (hb : ∃ b, mI M o 27 = bI b) (hh : hd = 1 ∨ hd = 2) : Ci g Y_Mo_tells 100 [.ref o, .int (nI hd), .int (nI (2 - hd))] M (fun x M2 => x = cmpW hd (wgF P cn V nc) ∧ ∃ F, M2 = mk2 M (up1 (mI M) o F) (mJ M) ∧ FrO (mI M o) F) := by
  obtain ⟨N, tc, tv, en, r, sg, f, ⟨a1, a2, a3, a4, a5⟩, hen, hCh, hC, hcn, hcn2, hnc⟩ := hL
  obtain ⟨b, hb⟩ := hb
  have hM0 := hM
  have to0 := hM.1
  have rfkept := MoAt.r hM 1 rfl
  have tfkept := MoAt.t hM 1 rfl
  have e2 : ∀ x y v, mI (sI M o x v) (o + 2) y = mI M (o + 2) y := fun x y v => by
    show up2 (mI M) o x v (o + 2) y = _
    rw [up2_up1, up1_ne (by omega)]
  have hem : sI (sI (sI M o 28 (nI 0)) o 25 (nI (400 * t))) o 26 (nI (400 * t + N)) = emM (sI (sI M o 28 (nI 0)) o 26 (nI (400 * t + N))) o (400 * t + 0) b := by
    refine congrArg (fun I => mk2 M I (mJ M)) ?_
    show up2 (up2 (up2 (mI M) o 28 (nI 0)) o 25 (nI (400 * t))) o 26 (nI (400 * t + N)) = up1 (up2 (up2 (mI M) o 28 (nI 0)) o 26 (nI (400 * t + N))) o (up1 (up1 (up2 (up2 (mI M) o 28 (nI 0)) o 26 (nI (400 * t + N)) o) 25 (nI (400 * t + 0))) 27 (bI b))
    simp only [up2_up1, up1_eq, up1_up1]
    refine congrArg (up1 (mI M) o) ?_
    funext k
    by_cases k27 : k = 27
    · subst k27; simp [up1, hb]
    by_cases k25 : k = 25
    · subst k25; simp [up1]
    by_cases k26 : k = 26
    · subst k26; simp [up1]
    by_cases k28 : k = 28
    · subst k28; simp [up1]
    simp [up1, k25, k26, k27, k28]
  have hE : EvH (sI (sI M o 28 (nI 0)) o 26 (nI (400 * t + N))) o (400 * t + N) (400 * t) N tc tv false V 6 := by
    have eo : ∀ x, x ≠ o → mI (sI (sI M o 28 (nI 0)) o 26 (nI (400 * t + N))) x = mI M x := fun x hx => by
      show up2 (up2 (mI M) o 28 (nI 0)) o 26 _ x = _
      rw [up2_up1, up1_ne hx, up2_up1, up1_ne hx]
    refine ⟨hM0, ?_, rfl, by omega, ?_, a4, a5, fun _ => ⟨?_, rfl, ?_⟩, fun q => absurd q (by decide), hVn⟩
    · show up2 (up2 (mI M) o 28 (nI 0)) o 26 (nI (400 * t + N)) o 26 = _
      unfold up2; rw [if_pos ⟨rfl, rfl⟩]
    · intro i hi
      rw [eo (o + 2) (by omega)]
      exact a3 i hi
    · show up2 (up2 (mI M) o 28 (nI 0)) o 26 (nI (400 * t + N)) o 28 = _
      simp [up2]; rfl
    · intro c h7 h12
      rw [eo (o + 15) (by omega)]
      exact hV c h7 h12
  refine cw_entry 7 pf_Mo_tells rfl ?_
  refine wp_aload_n rfl (ck_get kk_Mo_tells 0 rfl) ?_
  refine wp_getR (ck_get kk_Mo_tells 1 rfl) fl_Mo_28 (by assumption) (by assumption) ?_
  refine wp_sipush (v := nI 387) (by decide) (ck_get kk_Mo_tells 2 rfl) ?_
  refine wp_ialdv (v := nI t) (ck_get kk_Mo_tells 3 rfl) (by assumption) (ixk_nI (k := 387) (by omega) (by omega)) (h387) ?_
  refine wp_iconst (v := (-1)) (by decide) (ck_get kk_Mo_tells 4 rfl) ?_
  refine wp_icmp_ne (t := 14) (ck_get kk_Mo_tells 5 rfl) (by decide) (fun hc9 => ?_) (fun hc9 => ?_)
  · refine wp_aload_n rfl (ck_get kk_Mo_tells 8 rfl) ?_
    refine wp_iconst (v := nI 0) (by decide) (ck_get kk_Mo_tells 9 rfl) ?_
    refine wp_putI (ck_get kk_Mo_tells 10 rfl) fl_Mo_324 (by decide +kernel) (by assumption) (by first | exact okI_b0 | exact okI_b1) ?_
    refine wp_iload_n rfl (ck_get kk_Mo_tells 11 rfl) ?_
    refine wp_i2l (ck_get kk_Mo_tells 12 rfl) ?_
    refine wp_lstore_n (ck_get kk_Mo_tells 13 rfl) (by decide) rfl ?_
    refine wp_aload_n rfl (ck_get kk_Mo_tells 14 rfl) ?_
    refine wp_sipush (v := nI 400) (by decide) (ck_get kk_Mo_tells 15 rfl) ?_
    refine wp_aload_n rfl (ck_get kk_Mo_tells 16 rfl) ?_
    refine wp_getR (ck_get kk_Mo_tells 17 rfl) fl_Mo_28 (by assumption) (by assumption) ?_
    refine wp_sipush (v := nI 387) (by decide) (ck_get kk_Mo_tells 18 rfl) ?_
    refine wp_ialdv (v := nI t) (ck_get kk_Mo_tells 19 rfl) (by assumption) (ixk_nI (k := 387) (by omega) (by omega)) (by rw [e2]; exact h387) ?_
    first | refine wp_imulN (ck_get kk_Mo_tells 20 rfl) ?_ | refine wp_imul (ck_get kk_Mo_tells 20 rfl) ?_
    refine wp_putI (ck_get kk_Mo_tells 21 rfl) fl_Mo_294 (by decide +kernel) (by assumption) (okI_int _) ?_
    refine wp_aload_n rfl (ck_get kk_Mo_tells 22 rfl) ?_
    refine wp_aload_n rfl (ck_get kk_Mo_tells 23 rfl) ?_
    refine wp_getIv (v := nI (400 * t)) (ck_get kk_Mo_tells 24 rfl) fl_Mo_294 (by assumption) (by show up2 (up2 (mI M) o 28 (nI 0)) o 25 (nI (400 * t)) o 25 = _; unfold up2; rw [if_pos ⟨rfl, rfl⟩]) ?_
    refine wp_aload_n rfl (ck_get kk_Mo_tells 25 rfl) ?_
    refine wp_getR (ck_get kk_Mo_tells 26 rfl) fl_Mo_28 (by assumption) (by assumption) ?_
    refine wp_sipush (v := nI 388) (by decide) (ck_get kk_Mo_tells 27 rfl) ?_
    refine wp_aload_n rfl (ck_get kk_Mo_tells 28 rfl) ?_
    refine wp_getR (ck_get kk_Mo_tells 29 rfl) fl_Mo_28 (by assumption) (by assumption) ?_
    refine wp_sipush (v := nI 387) (by decide) (ck_get kk_Mo_tells 30 rfl) ?_
    refine wp_ialdv (v := nI t) (ck_get kk_Mo_tells 31 rfl) (by assumption) (ixk_nI (k := 387) (by omega) (by omega)) (by show up2 (up2 (mI M) o 28 (nI 0)) o 25 (nI (400 * t)) (o + 2) 387 = _; rw [up2_up1, up1_ne (by omega), up2_up1, up1_ne (by omega)]; exact h387) ?_
    first | refine wp_iaddN (ck_get kk_Mo_tells 32 rfl) ?_ | refine wp_iadd (ck_get kk_Mo_tells 32 rfl) ?_
    refine wp_ialdv (v := nI N) (ck_get kk_Mo_tells 33 rfl) (by assumption) (ixk_nI (k := 388 + t) (by omega) (by omega)) (by show up2 (up2 (mI M) o 28 (nI 0)) o 25 (nI (400 * t)) (o + 2) (388 + t) = _; rw [up2_up1, up1_ne (by omega), up2_up1, up1_ne (by omega)]; exact a1) ?_
    first | refine wp_iaddN (ck_get kk_Mo_tells 34 rfl) ?_ | refine wp_iadd (ck_get kk_Mo_tells 34 rfl) ?_
    refine wp_putI (ck_get kk_Mo_tells 35 rfl) fl_Mo_291 (by decide +kernel) (by assumption) (okI_int _) ?_
    rw [hem]
    refine Wp.mono (l_tells (C := P 7) (hd := hd) (nc := nc) (P := P) (cn := cn) (f := f) (en := en) hE rfl hcn2 hen hh r 0 0 0 0 sg _ b _ _ _ _ _ hCh hC (by omega) (by omega) ?_) ?_
    · rcases hh with rfl | rfl <;> rfl
    · rintro q M₂ ⟨x, rfl, hx, i2, b2, rfl⟩
      refine ⟨x, rfl, hx, up1 (up1 (mI (sI (sI M o 28 (nI 0)) o 26 (nI (400 * t + N))) o) 25 (nI i2)) 27 (bI b2), ?_, ?_⟩
      · refine congrArg (fun I => mk2 M I (mJ M)) ?_
        show up1 (up2 (up2 (mI M) o 28 (nI 0)) o 26 _) o _ = up1 (mI M) o _
        simp only [up2_up1, up1_up1]
      · refine ⟨fun k hk => ?_, b2, up1_eq⟩
        rw [up1_ne (by omega), up1_ne (by omega)]
        show up2 (up2 (mI M) o 28 (nI 0)) o 26 _ o k = _
        unfold up2
        rw [if_neg (by omega), if_neg (by omega)]
  · exact absurd hc9 (nI_nem1 (by omega))
theorem m_tellsN {hd : Nat} {w : Int32} (hM : MoAt (mT M) (mR M) o) (h387 : mI M (o + 2) 387 = -1) : Ci g Y_Mo_tells 100 [.ref o, .int (nI hd), .int w] M (fun x M2 => x = w ∧ M2 = M) := by
  have to0 := hM.1
  have rfkept := MoAt.r hM 1 rfl
  have tfkept := MoAt.t hM 1 rfl
  refine cw_entry 7 pf_Mo_tells rfl ?_
  refine wp_aload_n rfl (ck_get kk_Mo_tells 0 rfl) ?_
  refine wp_getR (ck_get kk_Mo_tells 1 rfl) fl_Mo_28 (by assumption) (by assumption) ?_
  refine wp_sipush (v := nI 387) (by decide) (ck_get kk_Mo_tells 2 rfl) ?_
  refine wp_ialdv (v := -1) (ck_get kk_Mo_tells 3 rfl) (by assumption) (ixk_nI (k := 387) (by omega) (by omega)) (h387) ?_
  refine wp_iconst (v := (-1)) (by decide) (ck_get kk_Mo_tells 4 rfl) ?_
  refine wp_icmp_ne (t := 14) (ck_get kk_Mo_tells 5 rfl) (by decide) (fun hc9 => ?_) (fun hc9 => ?_)
  · exact absurd rfl hc9
  · refine wp_iload_n rfl (ck_get kk_Mo_tells 6 rfl) ?_
    refine wp_ireturn (ck_get kk_Mo_tells 7 rfl) rfl rfl ⟨_, rfl, ?_⟩
    exact ⟨rfl, rfl⟩
/-- what is asked -/
abbrev akA (A : Nat → Int32) (t : Nat) (key : Int32) (r fr : Nat) (md tm : Int32) : Nat → Int32 := up1 (up1 (up1 (up1 (up1 (up1 A 0 (nI t)) 1 key) 2 (nI r)) 3 (nI fr)) 4 md) 5 tm
theorem l_asked {t rn : Nat} {key : Int32} (hM : MoAt (mT M) (mR M) o) (ht : t < 4) (hrn : mI M (o + 2) (92 * t + 59) = nI rn) (hr : rn ≤ 32) {Q : Option Value → Mem → Prop} (K : Wp g Y_Mo_setsAsked 2 53 [some (.ref o), some (.int (nI t)), some (.int key), some (.int (nI (cntI (fun j => mI M (o + 2) (92 * t + 60 + j)) key rn))), some (.int (nI (rn + 1)))] [] M Q) : ∀ k i, rn = i + k → Wp g Y_Mo_setsAsked 2 5 [some (.ref o), some (.int (nI t)), some (.int key), some (.int (nI (cntI (fun j => mI M (o + 2) (92 * t + 60 + j)) key i))), some (.int (nI (i + 1)))] [] M Q := by
  have to0 := hM.1
  have rfkept := MoAt.r hM 1 rfl
  have tfkept := MoAt.t hM 1 rfl
  intro k
  induction k with
  | zero =>
    intro i hi
    have hi2 : i = rn := by omega
    subst hi2
    refine wp_iload rfl (ck_get kk_Mo_setsAsked 4 rfl) ?_
    refine wp_aload_n rfl (ck_get kk_Mo_setsAsked 5 rfl) ?_
    refine wp_getR (ck_get kk_Mo_setsAsked 6 rfl) fl_Mo_28 (by assumption) (by assumption) ?_
    refine wp_iload_n rfl (ck_get kk_Mo_setsAsked 7 rfl) ?_
    refine wp_bipush (v := nI 59) (by decide) (ck_get kk_Mo_setsAsked 8 rfl) ?_
    refine wp_cS2i (ck_get kk_Mo_setsAsked 9 rfl) ml_Mo_142 (by omega) (Nat.le_of_ble_eq_true rfl) (Ci.to (m_at) ?_)
    rintro _ M1 ⟨rfl, eqm1⟩
    obtain rfl := eqm1.symm
    refine wp_ialdv (v := nI i) (ck_get kk_Mo_setsAsked 10 rfl) (by assumption) (ixk_nI (k := 92 * t + 59) (by omega) (by omega)) (hrn) ?_
    first | refine wp_icmp_gtN (t := 53) (ck_get kk_Mo_setsAsked 11 rfl) (by decide) (by omega) (by omega) (fun hc18 => ?_) (fun hc18 => ?_) | refine wp_icmp_gt (t := 53) (ck_get kk_Mo_setsAsked 11 rfl) (by decide) (fun hc18 => ?_) (fun hc18 => ?_)
    · exact K
    · omega
  | succ k ih =>
    intro i hi
    have e := ih (i + 1) (by omega)
    rw [cntI] at e
    refine wp_iload rfl (ck_get kk_Mo_setsAsked 4 rfl) ?_
    refine wp_aload_n rfl (ck_get kk_Mo_setsAsked 5 rfl) ?_
    refine wp_getR (ck_get kk_Mo_setsAsked 6 rfl) fl_Mo_28 (by assumption) (by assumption) ?_
    refine wp_iload_n rfl (ck_get kk_Mo_setsAsked 7 rfl) ?_
    refine wp_bipush (v := nI 59) (by decide) (ck_get kk_Mo_setsAsked 8 rfl) ?_
    refine wp_cS2i (ck_get kk_Mo_setsAsked 9 rfl) ml_Mo_142 (by omega) (Nat.le_of_ble_eq_true rfl) (Ci.to (m_at) ?_)
    rintro _ M1 ⟨rfl, eqm1⟩
    obtain rfl := eqm1.symm
    refine wp_ialdv (v := nI rn) (ck_get kk_Mo_setsAsked 10 rfl) (by assumption) (ixk_nI (k := 92 * t + 59) (by omega) (by omega)) (hrn) ?_
    first | refine wp_icmp_gtN (t := 53) (ck_get kk_Mo_setsAsked 11 rfl) (by decide) (by omega) (by omega) (fun hc18 => ?_) (fun hc18 => ?_) | refine wp_icmp_gt (t := 53) (ck_get kk_Mo_setsAsked 11 rfl) (by decide) (fun hc18 => ?_) (fun hc18 => ?_)
    · omega
    · refine wp_iload_n rfl (ck_get kk_Mo_setsAsked 12 rfl) ?_
      refine wp_aload_n rfl (ck_get kk_Mo_setsAsked 13 rfl) ?_
      refine wp_getR (ck_get kk_Mo_setsAsked 14 rfl) fl_Mo_28 (by assumption) (by assumption) ?_
      refine wp_iload_n rfl (ck_get kk_Mo_setsAsked 15 rfl) ?_
      refine wp_bipush (v := nI 59) (by decide) (ck_get kk_Mo_setsAsked 16 rfl) ?_
      refine wp_iload rfl (ck_get kk_Mo_setsAsked 17 rfl) ?_
      first | refine wp_iaddN (ck_get kk_Mo_setsAsked 18 rfl) ?_ | refine wp_iadd (ck_get kk_Mo_setsAsked 18 rfl) ?_
      refine wp_cS2i (ck_get kk_Mo_setsAsked 19 rfl) ml_Mo_142 (by omega) (Nat.le_of_ble_eq_true rfl) (Ci.to (m_at) ?_)
      rintro _ M1 ⟨rfl, eqm1⟩
      obtain rfl := eqm1.symm
      refine wp_ialdv (v := mI M (o + 2) (92 * t + 60 + i)) (ck_get kk_Mo_setsAsked 20 rfl) (by assumption) (ixk_nI (k := 92 * t + (59 + (i + 1))) (by omega) (by omega)) (by congr 1; omega) ?_
      refine wp_iload_n rfl (ck_get kk_Mo_setsAsked 21 rfl) ?_
      refine wp_icmp_ne (t := 44) (ck_get kk_Mo_setsAsked 22 rfl) (by decide) (fun hc37 => ?_) (fun hc37 => ?_)
      · refine wp_iconst (v := nI 0) (by decide) (ck_get kk_Mo_setsAsked 25 rfl) ?_
        first | refine wp_iaddN (ck_get kk_Mo_setsAsked 26 rfl) ?_ | refine wp_iadd (ck_get kk_Mo_setsAsked 26 rfl) ?_
        refine wp_istore_n (ck_get kk_Mo_setsAsked 27 rfl) (by decide) rfl ?_
        first | refine wp_iincN (ck_get kk_Mo_setsAsked 28 rfl) rfl (by decide) rfl ?_ | refine wp_iinc (ck_get kk_Mo_setsAsked 28 rfl) rfl (by decide) rfl ?_
        refine wp_goto (t := 5) (ck_get kk_Mo_setsAsked 29 rfl) (by decide) ?_
        rw [if_neg hc37] at e
        exact e
      · refine wp_iconst (v := nI 1) (by decide) (ck_get kk_Mo_setsAsked 23 rfl) ?_
        refine wp_goto (t := 45) (ck_get kk_Mo_setsAsked 24 rfl) (by decide) ?_
        first | refine wp_iaddN (ck_get kk_Mo_setsAsked 26 rfl) ?_ | refine wp_iadd (ck_get kk_Mo_setsAsked 26 rfl) ?_
        refine wp_istore_n (ck_get kk_Mo_setsAsked 27 rfl) (by decide) rfl ?_
        first | refine wp_iincN (ck_get kk_Mo_setsAsked 28 rfl) rfl (by decide) rfl ?_ | refine wp_iinc (ck_get kk_Mo_setsAsked 28 rfl) rfl (by decide) rfl ?_
        refine wp_goto (t := 5) (ck_get kk_Mo_setsAsked 29 rfl) (by decide) ?_
        rw [if_pos hc37] at e
        exact e
theorem m_setsAsked {t sn rn : Nat} {key : Int32} (hM : MoAt (mT M) (mR M) o) (ht : t < 4) (hrn : mI M (o + 2) (92 * t + 59) = nI rn) (hr : rn ≤ 32) (hsn : mI M (o + 2) (92 * t) = nI sn) (hs : sn ≤ 24) : Cv g Y_Mo_setsAsked 2 [.ref o, .int (nI t), .int key] M (fun M2 => M2 = mk2 M (up1 (mI M) (o + 15) (akA (mI M (o + 15)) t key (cntI (fun j => mI M (o + 2) (92 * t + 60 + j)) key rn) (fnd (fun j => mI M (o + 2) (92 * t + 1 + j)) sn key) (mI M (o + 2) 383) (mI M (o + 2) 368))) (mJ M)) := by
  have hM0 := hM
  have to0 := hM.1
  have rfkept := MoAt.r hM 1 rfl
  have tfkept := MoAt.t hM 1 rfl
  have rfasked := MoAt.r hM 14 rfl
  have tfasked := MoAt.t hM 14 rfl
  refine cw_entry 2 pf_Mo_setsAsked rfl ?_
  have e1 : ∀ (M1 : Mem) (k : Nat) (v : Int32), mI (sI M1 (o + 15) k v) (o + 2) = mI M1 (o + 2) := fun M1 k v => by
    show up2 (mI M1) (o + 15) k v (o + 2) = _
    rw [up2_up1, up1_ne (by omega)]
  refine wp_iconst (v := nI 0) (by decide) (ck_get kk_Mo_setsAsked 0 rfl) ?_
  refine wp_istore_n (ck_get kk_Mo_setsAsked 1 rfl) (by decide) rfl ?_
  refine wp_iconst (v := nI 1) (by decide) (ck_get kk_Mo_setsAsked 2 rfl) ?_
  refine wp_istore (ck_get kk_Mo_setsAsked 3 rfl) (by decide) rfl ?_
  refine l_asked hM0 ht hrn hr ?_ rn 0 (by omega)
  have hpl := m_placeIn (g := g) (M := sI (sI (sI M (o + 15) 0 (nI t)) (o + 15) 1 key) (o + 15) 2 (nI (cntI (fun j => mI M (o + 2) (92 * t + 60 + j)) key rn))) (t := t) (row := 0) (n := sn) (key := key) (by exact hM0) (by rw [e1, e1, e1]; exact hsn) (by omega)
  simp only [e1] at hpl
  refine wp_aload_n rfl (ck_get kk_Mo_setsAsked 30 rfl) ?_
  refine wp_getR (ck_get kk_Mo_setsAsked 31 rfl) fl_Mo_73 (by assumption) (by assumption) ?_
  refine wp_iconst (v := nI 0) (by decide) (ck_get kk_Mo_setsAsked 32 rfl) ?_
  refine wp_iload_n rfl (ck_get kk_Mo_setsAsked 33 rfl) ?_
  refine wp_iast (ck_get kk_Mo_setsAsked 34 rfl) (by assumption) (ixk_nI (k := 0) (by omega) (by omega)) ?_
  refine wp_aload_n rfl (ck_get kk_Mo_setsAsked 35 rfl) ?_
  refine wp_getR (ck_get kk_Mo_setsAsked 36 rfl) fl_Mo_73 (by assumption) (by assumption) ?_
  refine wp_iconst (v := nI 1) (by decide) (ck_get kk_Mo_setsAsked 37 rfl) ?_
  refine wp_iload_n rfl (ck_get kk_Mo_setsAsked 38 rfl) ?_
  refine wp_iast (ck_get kk_Mo_setsAsked 39 rfl) (by assumption) (ixk_nI (k := 1) (by omega) (by omega)) ?_
  refine wp_aload_n rfl (ck_get kk_Mo_setsAsked 40 rfl) ?_
  refine wp_getR (ck_get kk_Mo_setsAsked 41 rfl) fl_Mo_73 (by assumption) (by assumption) ?_
  refine wp_iconst (v := nI 2) (by decide) (ck_get kk_Mo_setsAsked 42 rfl) ?_
  refine wp_iload_n rfl (ck_get kk_Mo_setsAsked 43 rfl) ?_
  refine wp_iast (ck_get kk_Mo_setsAsked 44 rfl) (by assumption) (ixk_nI (k := 2) (by omega) (by omega)) ?_
  refine wp_aload_n rfl (ck_get kk_Mo_setsAsked 45 rfl) ?_
  refine wp_getR (ck_get kk_Mo_setsAsked 46 rfl) fl_Mo_73 (by assumption) (by assumption) ?_
  refine wp_iconst (v := nI 3) (by decide) (ck_get kk_Mo_setsAsked 47 rfl) ?_
  refine wp_aload_n rfl (ck_get kk_Mo_setsAsked 48 rfl) ?_
  refine wp_iload_n rfl (ck_get kk_Mo_setsAsked 49 rfl) ?_
  refine wp_iconst (v := nI 0) (by decide) (ck_get kk_Mo_setsAsked 50 rfl) ?_
  refine wp_iload_n rfl (ck_get kk_Mo_setsAsked 51 rfl) ?_
  refine wp_cV3i (ck_get kk_Mo_setsAsked 52 rfl) ml_Mo_159 (by omega) (Nat.le_of_ble_eq_true rfl) (by assumption) (Ci.to (hpl) ?_)
  rintro _ M1 ⟨rfl, eqm1⟩
  obtain rfl := eqm1.symm
  refine wp_iast (ck_get kk_Mo_setsAsked 53 rfl) (by assumption) (ixk_nI (k := 3) (by omega) (by omega)) ?_
  refine wp_aload_n rfl (ck_get kk_Mo_setsAsked 54 rfl) ?_
  refine wp_getR (ck_get kk_Mo_setsAsked 55 rfl) fl_Mo_73 (by assumption) (by assumption) ?_
  refine wp_iconst (v := nI 4) (by decide) (ck_get kk_Mo_setsAsked 56 rfl) ?_
  refine wp_aload_n rfl (ck_get kk_Mo_setsAsked 57 rfl) ?_
  refine wp_getR (ck_get kk_Mo_setsAsked 58 rfl) fl_Mo_28 (by assumption) (by assumption) ?_
  refine wp_sipush (v := nI 383) (by decide) (ck_get kk_Mo_setsAsked 59 rfl) ?_
  refine wp_ialdv (v := mI M (o + 2) 383) (ck_get kk_Mo_setsAsked 60 rfl) (by assumption) (ixk_nI (k := 383) (by omega) (by omega)) (by rw [e1, e1, e1, e1]) ?_
  refine wp_iast (ck_get kk_Mo_setsAsked 61 rfl) (by assumption) (ixk_nI (k := 4) (by omega) (by omega)) ?_
  refine wp_aload_n rfl (ck_get kk_Mo_setsAsked 62 rfl) ?_
  refine wp_getR (ck_get kk_Mo_setsAsked 63 rfl) fl_Mo_73 (by assumption) (by assumption) ?_
  refine wp_iconst (v := nI 5) (by decide) (ck_get kk_Mo_setsAsked 64 rfl) ?_
  refine wp_aload_n rfl (ck_get kk_Mo_setsAsked 65 rfl) ?_
  refine wp_getR (ck_get kk_Mo_setsAsked 66 rfl) fl_Mo_28 (by assumption) (by assumption) ?_
  refine wp_sipush (v := nI 368) (by decide) (ck_get kk_Mo_setsAsked 67 rfl) ?_
  refine wp_ialdv (v := mI M (o + 2) 368) (ck_get kk_Mo_setsAsked 68 rfl) (by assumption) (ixk_nI (k := 368) (by omega) (by omega)) (by rw [e1, e1, e1, e1, e1]) ?_
  refine wp_iast (ck_get kk_Mo_setsAsked 69 rfl) (by assumption) (ixk_nI (k := 5) (by omega) (by omega)) ?_
  refine wp_return (ck_get kk_Mo_setsAsked 70 rfl) rfl ⟨rfl, ?_⟩
  refine congrArg (fun I => mk2 M I (mJ M)) ?_
  show up2 (up2 (up2 (up2 (up2 (up2 (mI M) (o + 15) 0 _) (o + 15) 1 _) (o + 15) 2 _) (o + 15) 3 _) (o + 15) 4 _) (o + 15) 5 _ = up1 (mI M) (o + 15) _
  simp only [up2_up1, up1_up1, up1_eq]
end ASK

/-! ===== law, by the model ===== -/
section LWN
variable {g : Gl} {M : Mem}
/-- the model's memory behind a text that was read -/
def RdI (I I2 : Nat → Nat → Int32) (N : Nat) (C V : Nat → Int32) : Prop := (∀ x, x ≠ 1020 → x ≠ 1032 → x ≠ 1033 → x ≠ 1034 → I2 x = I x) ∧ (∀ k, k ≠ 11 → k ≠ 12 → k ≠ 13 → k ≠ 16 → k ≠ 17 → k ≠ 21 → k ≠ 22 → k ≠ 23 → k ≠ 24 → I2 1020 k = I 1020 k) ∧ I2 1020 16 = nI 0 ∧ I2 1020 21 = nI N ∧ I2 1032 = C ∧ I2 1033 = V
theorem RdI_of {od : Bool} {N i lf : Nat} {C V P : Nat → Int32} {b f : Int32} : RdI (mI M) (mI (sI (rdM (tkM (asM M 1020 od) 1020 N C V P) 1020 i lf b) 1020 17 f)) N C V ∧ mI (sI (rdM (tkM (asM M 1020 od) 1020 N C V P) 1020 i lf b) 1020 17 f) 1020 17 = f := by
  have eg : ∀ k, k ≠ 22 → k ≠ 23 → k ≠ 24 → ∀ M' : Mem, mI (rdM M' 1020 i lf b) 1020 k = mI M' 1020 k := fun k a1 a2 a3 M' => by
    show up1 (mI M') 1020 (up1 (up1 (up1 (mI M' 1020) 22 (nI i)) 23 (nI lf)) 24 b) 1020 k = _
    rw [up1_eq, up1_ne a3, up1_ne a2, up1_ne a1]
  refine ⟨⟨fun x q1 q2 q3 q4 => ?_, fun k q1 q2 q3 q4 q5 q6 q7 q8 q9 => ?_, ?_, ?_, ?_, ?_⟩, s_v⟩
  · rw [s_o q1, rdM_a q1, spM_o q1 q2 q3 q4, s_o q1, asM_a q1]
  · rw [s_k q5, eg k q7 q8 q9, spM_f q6, s_k q4, asM_f q1 q2 q3]
  · rw [s_k (by omega), eg 16 (by omega) (by omega) (by omega), spM_f (by omega), s_v]
  · rw [s_k (by omega), eg 21 (by omega) (by omega) (by omega), spM_n]
  · rw [s_o (by omega), rdM_a (by omega)]; exact spM_C
  · rw [s_o (by omega), rdM_a (by omega)]; exact spM_V
theorem m_readsT {od : Bool} {z : ST} {c : Nat} (h : MR z M) (hO : ZOK c z) : Ci g Y_Mo_readsAs 231 [.ref 1020, .int (bI od)] M (fun x M2 => ∃ N C V P I2, N ≤ 400 ∧ (∀ i, i ≤ N → LxT (zT z).2 (zT z).1 C V P i) ∧ (∀ i, i < N ↔ tS (zT z).2 (zT z).1 i < (zT z).1) ∧ M2 = mk2 M I2 (mJ M) ∧ RdI (mI M) I2 N C V ∧ ((∃ j lf sg, zPc z od = (true, j, lf, sg) ∧ x = nI 1 ∧ I2 1020 17 = -1) ∨ (∃ j lf sg, zPc z od = (false, j, lf, sg) ∧ x = nI 0 ∧ I2 1020 17 = nI (tS (zT z).2 (zT z).1 j)))) := by
  obtain ⟨hM, hSM, hUM, hIM, hDM, hPM, hNM, hBM⟩ := id h
  refine (m_readsAs (od := od) (f := 12 * (zT z).1 + 6) hM ⟨hPM.2.1, hO.2.2.2.2.1, hPM.2.2⟩ hPM.1 hO.2.2.2.1 (Nat.le_refl _)).to ?_
  rintro x M2 ⟨N, C, V, P, q1, q2, q3, q4⟩
  rcases q4 with ⟨j, lf, sg, e1, e2, e3⟩ | ⟨j, lf, sg, i2, lf2, e1, e2, e3⟩
  · subst e3
    obtain ⟨f1, f2⟩ := RdI_of (M := M) (od := od) (N := N) (i := j) (lf := lf) (C := C) (V := V) (P := P) (b := -1) (f := -1)
    exact ⟨N, C, V, P, _, q1, q2, q3, rfl, f1, Or.inl ⟨j, lf, sg, e1, e2, f2⟩⟩
  · subst e3
    obtain ⟨f1, f2⟩ := RdI_of (M := M) (od := od) (N := N) (i := i2) (lf := lf2) (C := C) (V := V) (P := P) (b := nI (tS (zT z).2 (zT z).1 j)) (f := nI (tS (zT z).2 (zT z).1 j))
    exact ⟨N, C, V, P, _, q1, q2, q3, rfl, f1, Or.inr ⟨j, lf, sg, e1, e2, f2⟩⟩
theorem RdI.csame {I2 : Nat → Nat → Int32} {N : Nat} {C V : Nat → Int32} (h : RdI (mI M) I2 N C V) : CSame M (mk2 M I2 (mJ M)) := CSame.mk2 (fun x q => ⟨h.1 x (by omega) (by omega) (by omega) (by omega), rfl⟩)
theorem MR.rd {z : ST} {I2 : Nat → Nat → Int32} {N : Nat} {C V : Nat → Int32} {f : Int32} (h : MR z M) (hR : RdI (mI M) I2 N C V) (hf : I2 1020 17 = f) : MR (zTp z (zS z) f) (mk2 M I2 (mJ M)) := by
  have hNM := h.2.2.2.2.2.2.1
  obtain ⟨r1, r2, r3, r4, r5, r6⟩ := hR
  refine h.gen (I2 := I2) (J2 := mJ M) (L2 := 0) (s2 := zS z) (b := zB z) (p := zP z) (cd := zC z) (f := f) (fun x q => r1 x (by unfold moK at q; omega) (by unfold moK at q; omega) (by unfold moK at q; omega) (by unfold moK at q; omega)) (fun x _ => rfl) (fun k hk => r2 k (by omega) (by omega) (by omega) (by omega) (by omega) (by omega) (by omega) (by omega) (by omega)) ?_ r3 ?_ ?_ ?_ hf ?_
  · rw [r2 27 (by omega) (by omega) (by omega) (by omega) (by omega) (by omega) (by omega) (by omega) (by omega)]; exact hNM.2.2.2.2.1
  · rw [r2 9 (by omega) (by omega) (by omega) (by omega) (by omega) (by omega) (by omega) (by omega) (by omega)]; exact hNM.1
  · rw [r2 54 (by omega) (by omega) (by omega) (by omega) (by omega) (by omega) (by omega) (by omega) (by omega)]; exact hNM.2.1
  · rw [r2 0 (by omega) (by omega) (by omega) (by omega) (by omega) (by omega) (by omega) (by omega) (by omega)]; exact hNM.2.2.1
  · rw [r1 1022 (by omega) (by omega) (by omega) (by omega)]; exact h.2.1
theorem LawR.at {K K2 : Nat → Int32} {t cn nc : Nat} {P : Nat → Nat → Int32} (h : LawR K t P cn nc) (h1 : K2 (388 + t) = K (388 + t)) (h2 : ∀ x, x < 400 → K2 (395 + (400 * t + x)) = K (395 + (400 * t + x)) ∧ K2 (3195 + (400 * t + x)) = K (3195 + (400 * t + x))) : LawR K2 t P cn nc := by
  obtain ⟨N, tc, tv, en, r, sg, f, ⟨a1, a2, a3, a4, a5⟩, h3⟩ := h
  refine ⟨N, tc, tv, en, r, sg, f, ⟨by rw [h1]; exact a1, a2, fun i hi => ?_, a4, a5⟩, h3⟩
  rw [(h2 i (by omega)).1, (h2 i (by omega)).2]
  exact a3 i hi
theorem m_lawA {c : Nat} {z : ST} (h : MR z M) (hO : ZOK c z) (hc : c < 512) :
    (∀ j lf sg P nc, sLn (zS z) < 6 → zPc z false = (true, j, lf, sg) → LwF z sg P nc → CaM g Y_Mo_law [] M (nI (sLn (zS z))) (zGood (zTp z (addL (zS z) (P, sg.length, nc)) (-1)))) ∧ (∀ j lf sg, sLn (zS z) < 6 → zPc z false = (false, j, lf, sg) → CaM g Y_Mo_law [] M (-6) (zBad (zTp z (zS z) (nI (tS (zT z).2 (zT z).1 j))) 6)) ∧ (sLn (zS z) = 6 → CaM g Y_Mo_law [] M (-5) (zBad (zTp z (zS z) (zF z)) 5)) := by
  obtain ⟨hM, hSM, hUM, hIM, hDM, hPM, hNM, hBM⟩ := id h
  have to0 := hM.1
  have rfkept := MoAt.r hM 1 rfl
  have tfkept := MoAt.t hM 1 rfl
  have h400 := hO.2.2.2.1
  have e386 : mI M (1020 + 2) 386 = nI (sLn (zS z)) := hSM.2.2.2.2.2.2.2.1
  refine ⟨fun j lf sg P nc hn hp hF => ?_, fun j lf sg hn hp => ?_, fun hn => ?_⟩
  · have hsg := sg_1024 h400 hp
    refine cw_entry 0 pf_Mo_law rfl ?_
    refine wp_aload_n rfl (ck_get kk_Mo_law 0 rfl) ?_
    refine wp_getR (ck_get kk_Mo_law 1 rfl) fl_Mo_28 (by assumption) (by assumption) ?_
    refine wp_sipush (v := nI 386) (by decide) (ck_get kk_Mo_law 2 rfl) ?_
    refine wp_ialdv (v := nI (sLn (zS z))) (ck_get kk_Mo_law 3 rfl) (by assumption) (ixk_nI (k := 386) (by omega) (by omega)) (e386) ?_
    refine wp_bipush (v := nI 6) (by decide) (ck_get kk_Mo_law 4 rfl) ?_
    first | refine wp_icmp_neN (t := 25) (ck_get kk_Mo_law 5 rfl) (by decide) (by omega) (by omega) (fun hc10 => ?_) (fun hc10 => ?_) | refine wp_icmp_ne (t := 25) (ck_get kk_Mo_law 5 rfl) (by decide) (fun hc10 => ?_) (fun hc10 => ?_)
    · refine wp_aload_n rfl (ck_get kk_Mo_law 13 rfl) ?_
      refine wp_iconst (v := nI 0) (by decide) (ck_get kk_Mo_law 14 rfl) ?_
      refine wp_cV1i (ck_get kk_Mo_law 15 rfl) ml_Mo_281 (by omega) (Nat.le_of_ble_eq_true rfl) (by assumption) (Ci.to (m_readsT (od := false) h hO) ?_)
      rintro x M1 ⟨N, C, V, Pp, I2, q1, q2, q3, e1, q5, q6⟩
      subst e1
      obtain ⟨j2, lf2, sg2, -, rfl, f17⟩ | ⟨j2, lf2, sg2, u1, -⟩ := q6
      · obtain ⟨r1, r2, r3, r4, r5, r6⟩ := id q5
        have k386 : I2 (1020 + 2) 386 = nI (sLn (zS z)) := by rw [r1 1022 (by omega) (by omega) (by omega) (by omega)]; exact e386
        first | refine wp_if_neN (t := 40) (ck_get kk_Mo_law 16 rfl) (by decide) (by omega) (fun hc30 => ?_) (fun hc30 => ?_) | refine wp_if_ne (t := 40) (ck_get kk_Mo_law 16 rfl) (by decide) (fun hc30 => ?_) (fun hc30 => ?_)
        · refine wp_aload_n rfl (ck_get kk_Mo_law 21 rfl) ?_
          refine wp_aload_n rfl (ck_get kk_Mo_law 22 rfl) ?_
          refine wp_getR (ck_get kk_Mo_law 23 rfl) fl_Mo_28 (by assumption) (by assumption) ?_
          refine wp_sipush (v := nI 386) (by decide) (ck_get kk_Mo_law 24 rfl) ?_
          refine wp_ialdv (v := nI (sLn (zS z))) (ck_get kk_Mo_law 25 rfl) (by assumption) (ixk_nI (k := 386) (by omega) (by omega)) (k386) ?_
          refine wp_cV1v (ck_get kk_Mo_law 26 rfl) ml_Mo_285 (by omega) (Nat.le_of_ble_eq_true rfl) (by assumption) (Cv.to (m_lays (N := N) (by exact hM) (by exact r4) q1 (by omega)) ?_)
          rintro M3 e3
          subst e3
          have eK2 : mI (lyM (mk2 M I2 (mJ M)) 1020 N (sLn (zS z)) N) (1020 + 2) = lyK (mI M 1022) C V N (sLn (zS z)) N := by
            show up1 I2 (1020 + 2) (lyK (I2 (1020 + 2)) (I2 (1020 + 12)) (I2 (1020 + 13)) N (sLn (zS z)) N) (1020 + 2) = _
            rw [up1_eq, r1 (1020 + 2) (by omega) (by omega) (by omega) (by omega), show I2 (1020 + 12) = C from r5, show I2 (1020 + 13) = V from r6]
          have l386 : mI (lyM (mk2 M I2 (mJ M)) 1020 N (sLn (zS z)) N) (1020 + 2) 386 = nI (sLn (zS z)) := by
            rw [eK2]
            unfold lyK
            rw [if_neg (by omega), if_neg (by omega), if_neg (by omega)]; exact e386
          refine wp_aload_n rfl (ck_get kk_Mo_law 27 rfl) ?_
          refine wp_getR (ck_get kk_Mo_law 28 rfl) fl_Mo_28 (by assumption) (by assumption) ?_
          refine wp_sipush (v := nI 386) (by decide) (ck_get kk_Mo_law 29 rfl) ?_
          first | refine wp_dup2l rfl (ck_get kk_Mo_law 30 rfl) ?_ | refine wp_dup2 rfl rfl (ck_get kk_Mo_law 30 rfl) ?_
          refine wp_ialdv (v := nI (sLn (zS z))) (ck_get kk_Mo_law 31 rfl) (by assumption) (ixk_nI (k := 386) (by omega) (by omega)) (l386) ?_
          refine wp_iconst (v := nI 1) (by decide) (ck_get kk_Mo_law 32 rfl) ?_
          first | refine wp_iaddN (ck_get kk_Mo_law 33 rfl) ?_ | refine wp_iadd (ck_get kk_Mo_law 33 rfl) ?_
          refine wp_iast (ck_get kk_Mo_law 34 rfl) (by assumption) (ixk_nI (k := 386) (by omega) (by omega)) ?_
          refine wp_aload_n rfl (ck_get kk_Mo_law 35 rfl) ?_
          refine wp_aload_n rfl (ck_get kk_Mo_law 36 rfl) ?_
          refine wp_getR (ck_get kk_Mo_law 37 rfl) fl_Mo_28 (by assumption) (by assumption) ?_
          refine wp_sipush (v := nI 386) (by decide) (ck_get kk_Mo_law 38 rfl) ?_
          refine wp_ialdv (v := nI (sLn (zS z) + 1)) (ck_get kk_Mo_law 39 rfl) (by assumption) (ixk_nI (k := 386) (by omega) (by omega)) (s_v) ?_
          refine wp_iconst (v := nI 1) (by decide) (ck_get kk_Mo_law 40 rfl) ?_
          first | refine wp_isubN (ck_get kk_Mo_law 41 rfl) (by omega) ?_ | refine wp_isub (ck_get kk_Mo_law 41 rfl) ?_
          refine wp_cV1i (ck_get kk_Mo_law 42 rfl) ml_Mo_14 (by omega) (Nat.le_of_ble_eq_true rfl) (by assumption) (Ci.to (m_good (by exact hM)) ?_)
          rintro x M5 ⟨f1, f2⟩
          refine wp_ireturn (ck_get kk_Mo_law 43 rfl) rfl rfl ⟨_, rfl, ?_⟩
          rw [f2]
          have hR := h.rd q5 f17
          generalize hK3 : up1 (lyK (mI M 1022) C V N (sLn (zS z)) N) 386 (nI (sLn (zS z) + 1)) = K3
          have eM : sI (lyM (mk2 M I2 (mJ M)) 1020 N (sLn (zS z)) N) (1020 + 2) 386 (nI (sLn (zS z) + 1)) = mk2 (mk2 M I2 (mJ M)) (up1 I2 1022 K3) (mJ M) := by
            refine mk2_ext (M := M) ?_ rfl
            show up2 (up1 I2 (1020 + 2) (lyK (I2 (1020 + 2)) (I2 (1020 + 12)) (I2 (1020 + 13)) N (sLn (zS z)) N)) (1020 + 2) 386 (nI (sLn (zS z) + 1)) = up1 I2 1022 K3
            rw [up2_up1, up1_up1, up1_eq, r1 (1020 + 2) (by omega) (by omega) (by omega) (by omega), show I2 (1020 + 12) = C from r5, show I2 (1020 + 13) = V from r6, ← hK3]
          have eKl : ∀ x, x < 388 → x ≠ 386 → K3 x = mI M 1022 x := fun x a b => by
            rw [← hK3, up1_ne b]
            unfold lyK
            rw [if_neg (by omega), if_neg (by omega), if_neg (by omega)]
          have hS3 : ShM K3 (mJ M 1023) (addL (zS z) (P, sg.length, nc)) := by
            obtain ⟨s1, s2, s3, s4, s5, s6, s7, s8, s9, s10⟩ := hSM
            have h6 := hO.1.2.2.2.2.2.2.1
            refine ⟨s1.kept hO.1.1 (fun x a b => eKl x (by omega) (by omega)) (fun x _ _ => rfl), by rw [eKl _ (by omega) (by omega)]; exact s2, fun i hi => ?_, by rw [eKl _ (by omega) (by omega)]; exact s4, by rw [eKl _ (by omega) (by omega)]; exact s5, by rw [eKl _ (by omega) (by omega)]; exact s6, by rw [eKl _ (by omega) (by omega)]; exact s7, by rw [← hK3, up1_eq]; rfl, by rw [eKl _ (by omega) (by omega)]; exact s9, fun i hi => ?_⟩
            · have hi2 : i < sSn (zS z) := hi
              rw [eKl _ (by omega) (by omega), eKl _ (by omega) (by omega)]; exact s3 i hi2
            · have hi2 : i < sLn (zS z) + 1 := hi
              show LawR K3 i (up1 (sLw (zS z)) (sLn (zS z)) (P, sg.length, nc) i).1 (up1 (sLw (zS z)) (sLn (zS z)) (P, sg.length, nc) i).2.1 (up1 (sLw (zS z)) (sLn (zS z)) (P, sg.length, nc) i).2.2
              by_cases e : i = sLn (zS z)
              · subst e
                rw [up1_eq]
                refine ⟨N, tC (zT z).2 (zT z).1, tV (zT z).2 (zT z).1, enT (zT z).2 (zT z).1, 12, sg, 12 * (zT z).1 + 6, ⟨?_, q1, fun i hi => ?_, fun i hi => (q3 i).mpr (tC_lt hi), fun i => tC_400 hO.2.2.2.2.1⟩, en_ok q3, hF.1, hF.2.1, rfl, hsg, hF.2.2⟩
                · rw [← hK3, up1_ne (by omega)]
                  unfold lyK
                  rw [if_pos rfl]
                · obtain ⟨x1, x2, x3⟩ := q2 i (by omega)
                  rw [← hK3, up1_ne (by omega), up1_ne (by omega)]
                  unfold lyK
                  rw [if_neg (by omega), if_pos (by omega), if_neg (by omega), if_neg (by omega), if_pos (by omega), show 395 + (400 * sLn (zS z) + i) - (395 + 400 * sLn (zS z)) = i by omega, show 3195 + (400 * sLn (zS z) + i) - (3195 + 400 * sLn (zS z)) = i by omega]
                  exact ⟨x1, x2⟩
              · rw [up1_ne e]
                refine (s10 i (by omega)).at ?_ (fun x hx => ?_)
                · rw [← hK3, up1_ne (by omega)]
                  unfold lyK
                  rw [if_neg (by omega), if_neg (by omega), if_neg (by omega)]
                · rw [← hK3, up1_ne (by omega), up1_ne (by omega)]
                  unfold lyK
                  rw [if_neg (by omega), if_neg (by omega), if_neg (by omega), if_neg (by omega), if_neg (by omega), if_neg (by omega)]
                  exact ⟨rfl, rfl⟩
          have hR2 := hR.shop (s2 := addL (zS z) (P, sg.length, nc)) (I2 := up1 I2 1022 K3) (J2 := mJ M) (fun x q => up1_ne (by unfold moK at q; omega)) (fun x _ => rfl) (fun k _ => by rw [up1_ne (by omega)]) (by rw [up1_ne (by omega)]; exact hR.2.2.2.2.2.2.1.2.2.2.2.1) (by rw [up1_eq]; exact hS3)
          refine ⟨f1.trans (by rw [show sLn (zS z) + 1 - 1 = sLn (zS z) by omega]), ?_, ?_⟩
          · rw [eM]; exact hR2.good
          · rw [eM]
            exact (q5.csame.trans (CSame.mk2 (fun x q => ⟨up1_ne (by omega), rfl⟩))).trans CSame.gd
        · exact absurd hc30 (by decide)
      · rw [hp] at u1; cases u1
    · omega
  · refine cw_entry 0 pf_Mo_law rfl ?_
    refine wp_aload_n rfl (ck_get kk_Mo_law 0 rfl) ?_
    refine wp_getR (ck_get kk_Mo_law 1 rfl) fl_Mo_28 (by assumption) (by assumption) ?_
    refine wp_sipush (v := nI 386) (by decide) (ck_get kk_Mo_law 2 rfl) ?_
    refine wp_ialdv (v := nI (sLn (zS z))) (ck_get kk_Mo_law 3 rfl) (by assumption) (ixk_nI (k := 386) (by omega) (by omega)) (e386) ?_
    refine wp_bipush (v := nI 6) (by decide) (ck_get kk_Mo_law 4 rfl) ?_
    first | refine wp_icmp_neN (t := 25) (ck_get kk_Mo_law 5 rfl) (by decide) (by omega) (by omega) (fun hc10 => ?_) (fun hc10 => ?_) | refine wp_icmp_ne (t := 25) (ck_get kk_Mo_law 5 rfl) (by decide) (fun hc10 => ?_) (fun hc10 => ?_)
    · refine wp_aload_n rfl (ck_get kk_Mo_law 13 rfl) ?_
      refine wp_iconst (v := nI 0) (by decide) (ck_get kk_Mo_law 14 rfl) ?_
      refine wp_cV1i (ck_get kk_Mo_law 15 rfl) ml_Mo_281 (by omega) (Nat.le_of_ble_eq_true rfl) (by assumption) (Ci.to (m_readsT (od := false) h hO) ?_)
      rintro x M1 ⟨N, C, V, Pp, I2, q1, q2, q3, e1, q5, q6⟩
      subst e1
      obtain ⟨j2, lf2, sg2, u1, -⟩ | ⟨j2, lf2, sg2, u1, rfl, f17⟩ := q6
      · rw [hp] at u1; cases u1
      · obtain rfl : j2 = j := by rw [hp] at u1; exact (Prod.mk.inj (Prod.mk.inj u1).2).1.symm
        first | refine wp_if_neN (t := 40) (ck_get kk_Mo_law 16 rfl) (by decide) (by omega) (fun hc30 => ?_) (fun hc30 => ?_) | refine wp_if_ne (t := 40) (ck_get kk_Mo_law 16 rfl) (by decide) (fun hc30 => ?_) (fun hc30 => ?_)
        · exact absurd (by decide) hc30
        · refine wp_aload_n rfl (ck_get kk_Mo_law 17 rfl) ?_
          refine wp_bipush (v := (-6)) (by decide) (ck_get kk_Mo_law 18 rfl) ?_
          refine wp_cV1i (ck_get kk_Mo_law 19 rfl) ml_Mo_146 (by omega) (Nat.le_of_ble_eq_true rfl) (by assumption) (Ci.to (m_refusesV (c := 6) (by decide) (by exact hM) (by omega)) ?_)
          rintro x M1 ⟨e1, e2⟩
          refine wp_ireturn (ck_get kk_Mo_law 20 rfl) rfl rfl ⟨_, rfl, ?_⟩
          exact ⟨e1, by rw [e2]; exact (h.rd q5 f17).bad (k := 6) (by omega), by rw [e2]; exact q5.csame.trans CSame.rf⟩
    · omega
  · refine cw_entry 0 pf_Mo_law rfl ?_
    refine wp_aload_n rfl (ck_get kk_Mo_law 0 rfl) ?_
    refine wp_getR (ck_get kk_Mo_law 1 rfl) fl_Mo_28 (by assumption) (by assumption) ?_
    refine wp_sipush (v := nI 386) (by decide) (ck_get kk_Mo_law 2 rfl) ?_
    refine wp_ialdv (v := nI (sLn (zS z))) (ck_get kk_Mo_law 3 rfl) (by assumption) (ixk_nI (k := 386) (by omega) (by omega)) (e386) ?_
    refine wp_bipush (v := nI 6) (by decide) (ck_get kk_Mo_law 4 rfl) ?_
    first | refine wp_icmp_neN (t := 25) (ck_get kk_Mo_law 5 rfl) (by decide) (by omega) (by omega) (fun hc10 => ?_) (fun hc10 => ?_) | refine wp_icmp_ne (t := 25) (ck_get kk_Mo_law 5 rfl) (by decide) (fun hc10 => ?_) (fun hc10 => ?_)
    · omega
    · refine wp_aload_n rfl (ck_get kk_Mo_law 6 rfl) ?_
      refine wp_iconst (v := nI 0) (by decide) (ck_get kk_Mo_law 7 rfl) ?_
      refine wp_putI (ck_get kk_Mo_law 8 rfl) fl_Mo_179 (by decide +kernel) (by assumption) (okI_int _) ?_
      refine wp_aload_n rfl (ck_get kk_Mo_law 9 rfl) ?_
      refine wp_bipush (v := (-5)) (by decide) (ck_get kk_Mo_law 10 rfl) ?_
      refine wp_cV1i (ck_get kk_Mo_law 11 rfl) ml_Mo_146 (by omega) (Nat.le_of_ble_eq_true rfl) (by assumption) (Ci.to (m_refusesV (c := 5) (by decide) (by exact hM) (by omega)) ?_)
      rintro x M1 ⟨e1, e2⟩
      refine wp_ireturn (ck_get kk_Mo_law 12 rfl) rfl rfl ⟨_, rfl, ?_⟩
      rw [e2]
      have hG := h.tape (I2 := up2 (mI M) 1020 16 (nI 0)) (t := (0, (zT z).2)) (fun x q1 q2 q3 => up2_o q1) (fun k hk => up2_k hk) up2_v (fun j hj => by rw [up2_o (by omega)]; exact hPM.2.1 j hj)
      exact ⟨e1, hG.bad (k := 5) (by omega), (CSame.s (by omega)).trans CSame.rf⟩
theorem b_law (hS : OutOK g) : Both2 g Y_Mc_law Y_Mo_law [] := by
  intro c z M hc hO hC
  have hO1 : ZOK (c + 1) z := hO.le (Nat.le_succ c)
  have hln := hO.1.2.2.2.2.2.2.2.2.1
  by_cases hn : sLn (zS z) = 6
  · exact ⟨-5, _, (hO1.tp hO1.1).bad, c_lawN hC hO hc hn, fun M2 h => (m_lawA h hO hc).2.2 hn⟩
  · cases hp : zPc z false with
    | mk b r =>
      obtain ⟨j, lf, sg⟩ := r
      cases b with
      | true =>
        obtain ⟨r, M2, hcall, x, e0, P, nc, e1, hF, h1, h2⟩ := c_lawT hS hC hO hc (by omega) hp
        refine ⟨nI (sLn (zS z)), zGood (zTp z (addL (zS z) (P, sg.length, nc)) (-1)), (hO1.tp ?_).good, ⟨r, M2, hcall, x, e0, e1, h1, h2⟩, fun M2 h => (m_lawA h hO hc).1 j lf sg P nc (by omega) hp hF⟩
        exact hO1.1.addL (by omega) (LawOK_of hF.1 hF.2.1 hF.2.2) (sg_1024 hO.2.2.2.1 hp)
      | false => exact ⟨-6, _, (hO1.tp hO1.1).bad, c_lawF hS hC hO hc (by omega) hp, fun M2 h => (m_lawA h hO hc).2.1 j lf sg (by omega) hp⟩
end LWN

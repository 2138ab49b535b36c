/-! ===== MissCurves$Parser: clauses ===== -/
/-- only the n-th numbers of the program's rows were changed -/
def EnU (I I2 : Nat → Nat → Int32) (pa n : Nat) : Prop := (∀ x, x < pa + 2 ∨ pa + 8 ≤ x → I2 x = I x) ∧ ∀ x m, m ≠ n → I2 x m = I x m
theorem EnU.refl {I : Nat → Nat → Int32} {pa n : Nat} : EnU I I pa n := ⟨fun _ _ => rfl, fun _ _ _ => rfl⟩
theorem EnU.set {I I2 : Nat → Nat → Int32} {pa n x : Nat} {v : Int32} (h : EnU I I2 pa n) (h1 : pa + 2 ≤ x) (h2 : x < pa + 8) : EnU I (up2 I2 x n v) pa n := by
  refine ⟨fun y hy => ?_, fun y m hm => ?_⟩
  · rw [up2_up1, up1_ne (by omega)]; exact h.1 y hy
  · unfold up2
    rw [if_neg (fun q => hm q.2)]
    exact h.2 y m hm
theorem EnU.trans {I I2 I3 : Nat → Nat → Int32} {pa n : Nat} (h : EnU I I2 pa n) (h2 : EnU I2 I3 pa n) : EnU I I3 pa n := ⟨fun x hx => (h2.1 x hx).trans (h.1 x hx), fun x m hm => (h2.2 x m hm).trans (h.2 x m hm)⟩
section PG
variable {g : Gl} {M : Mem} {pa tp L : Nat} {bt : Nat → Nat} {od : Bool} {f : Nat}
theorem cS_ent {x q lf k s e v cl : Nat} {cd : Nat → Int32} {w : Int32} (h1 : x ≠ pa) (h2 : x ≠ pa + 1) (h3 : x ≠ pa + 8) : sI (cS M pa lf k s e v cl cd) x q w = cS (sI M x q w) pa lf k s e v cl cd := by
  have a1 : mI (sI M x q w) pa = mI M pa := by show up2 (mI M) x q w pa = mI M pa; rw [up2_up1, up1_ne h1.symm]
  have a2 : mI (sI M x q w) (pa + 1) = mI M (pa + 1) := by show up2 (mI M) x q w (pa + 1) = mI M (pa + 1); rw [up2_up1, up1_ne h2.symm]
  refine congrArg (fun I => mk2 M I (mJ M)) ?_
  rw [a1, a2]
  show up2 (up1 (up1 (up1 (mI M) pa _) (pa + 1) _) (pa + 8) cd) x q w = up1 (up1 (up1 (up2 (mI M) x q w) pa _) (pa + 1) _) (pa + 8) cd
  rw [up2_up1, up2_up1, up1_ne h3, up1_ne h2, up1_ne h1, up1_comm _ h3.symm, up1_comm _ h2.symm, up1_comm _ h1.symm]
theorem TxOK.en {I2 : Nat → Nat → Int32} {n : Nat} (hX : TxOK M pa tp L bt) (h : EnU (mI M) I2 pa n) : TxOK (mk2 M I2 (mJ M)) pa tp L bt := by
  obtain ⟨hP, h3, hL, hbt, hb2⟩ := hX
  refine ⟨hP, ?_, hL, ?_, hb2⟩
  · show I2 pa 3 = nI L
    rw [h.1 pa (by omega)]; exact h3
  · intro j hj
    show I2 tp j = nI (bt j)
    rw [h.1 tp (by have := hP.2.2.2.2.2; omega)]; exact hbt j hj
theorem cS_en {x q lf k s e v cl : Nat} {I2 : Nat → Nat → Int32} {cd : Nat → Int32} {w : Int32} (h1 : pa + 2 ≤ x) (h3 : x < pa + 8) : sI (cS (mk2 M I2 (mJ M)) pa lf k s e v cl cd) x q w = cS (mk2 M (up2 I2 x q w) (mJ M)) pa lf k s e v cl cd := cS_ent (M := mk2 M I2 (mJ M)) (by omega) (by omega) (by omega)
theorem c_sumBehind (hS : OutOK g) (hX : TxOK M pa tp L bt) (hod : mI M pa 4 = bI od) (hf : 12 * L + 6 ≤ f) {i lf cl n k : Nat} {cd : Nat → Int32} {I1 : Nat → Nat → Int32} (hI : EnU (mI M) I1 pa n) (hk : 4 ≤ k) (hk2 : k ≤ 6) (hn : n < 12) (hi : i < L) (hlf : lf ≤ 50) (hcl : cl ≤ 2 * i) : Ci g Y_Pa_sumBehind 200 [.ref pa, .ref (pa + 1 + k), .int (nI n)] (cTk (mk2 M I1 (mJ M)) pa L bt (tS bt L i) lf cl cd) (fun x M2 => pOK (mk2 M (up2 I1 (pa + 1 + k) n (nI cl)) (mJ M)) pa L bt cl cd (pSm (tC bt L) (tV bt L) od f (i + 1) lf cl) x M2) := by
  refine cw_entry 0 pf_Pa_sumBehind rfl ?_
  have hX0 := hX.en hI
  have hI2 : EnU (mI M) (up2 I1 (pa + 1 + k) n (nI cl)) pa n := hI.set (by omega) (by omega)
  have hX2 := hX.en hI2
  have hod2 : mI (mk2 M (up2 I1 (pa + 1 + k) n (nI cl)) (mJ M)) pa 4 = bI od := by rw [← hod]; exact congrFun (hI2.1 pa (by omega)) 4
  obtain ⟨⟨t0, r0, hPr, r2, t2, htp⟩, h3, hL, hbt, hb2⟩ := hX
  have p0 := hPr.1
  have tk := hPr.2.2.1 k (by omega) (by omega)
  have hal := pa_all hS hX2 hod2 f
  refine wp_aload_n rfl (ck_get kk_Pa_sumBehind 0 rfl) ?_
  refine wp_cV0v (ck_get kk_Pa_sumBehind 1 rfl) ml_Pa_68 (by omega) (Nat.le_of_ble_eq_true rfl) (by assumption) (Cv.to (c_advanceT hX0) ?_)
  rintro M₁ rfl
  refine wp_aload_n rfl (ck_get kk_Pa_sumBehind 2 rfl) ?_
  refine wp_iload_n rfl (ck_get kk_Pa_sumBehind 3 rfl) ?_
  refine wp_aload_n rfl (ck_get kk_Pa_sumBehind 4 rfl) ?_
  refine wp_getR (ck_get kk_Pa_sumBehind 5 rfl) fl_Pa_14 (by assumption) (by assumption) ?_
  refine wp_getIv (v := nI cl) (ck_get kk_Pa_sumBehind 6 rfl) fl_Pa_78 (by assumption) (cS_8) ?_
  refine wp_iast (ck_get kk_Pa_sumBehind 7 rfl) (by assumption) (by first | assumption | exact ixk_nI (by omega) (by omega)) ?_
  rw [cS_en (by omega) (by omega)]
  refine wp_aload_n rfl (ck_get kk_Pa_sumBehind 8 rfl) ?_
  refine wp_iconst (v := nI 0) (by decide) (ck_get kk_Pa_sumBehind 9 rfl) ?_
  refine wp_cV1i (ck_get kk_Pa_sumBehind 10 rfl) ml_Pa_161 (by omega) (Nat.le_of_ble_eq_true rfl) (by assumption) (Ci.to (hal.2.2.2.2.1 0 (i + 1) lf cl cd (by omega) (by omega) hlf (by omega) (by omega)) ?_)
  rintro x₁ M₁ hq₁
  first | refine wp_if_neN (t := 24) (ck_get kk_Pa_sumBehind 11 rfl) (by decide) (by omega) (fun hc19 => ?_) (fun hc19 => ?_) | refine wp_if_ne (t := 24) (ck_get kk_Pa_sumBehind 11 rfl) (by decide) (fun hc19 => ?_) (fun hc19 => ?_)
  · obtain ⟨j, lf2, sg, cd2, hr, rfl, hE⟩ := hq₁.t hc19
    obtain ⟨g1, g2, g3, g4, g5⟩ := psr_ok (N := L) (fun i h => tC_N h) f 4 0 (i + 1) lf cl j lf2 sg (by omega) hr (by omega) hlf
    rw [show ntk 4 = 1 from rfl] at g1
    rw [show ntx 4 = 0 from rfl] at g4
    refine wp_aload_n rfl (ck_get kk_Pa_sumBehind 14 rfl) ?_
    refine wp_getR (ck_get kk_Pa_sumBehind 15 rfl) fl_Pa_14 (by assumption) (by assumption) ?_
    refine wp_iconst (v := nI 0) (by decide) (ck_get kk_Pa_sumBehind 16 rfl) ?_
    refine wp_iconst (v := nI 0) (by decide) (ck_get kk_Pa_sumBehind 17 rfl) ?_
    refine wp_cV2v (ck_get kk_Pa_sumBehind 18 rfl) ml_Pa_157 (by omega) (Nat.le_of_ble_eq_true rfl) (by assumption) (Cv.to (c_emit hX2 (by omega)) ?_)
    rintro M₁ rfl
    refine wp_iconst (v := nI 1) (by decide) (ck_get kk_Pa_sumBehind 19 rfl) ?_
    refine wp_ireturn (ck_get kk_Pa_sumBehind 20 rfl) rfl rfl ⟨_, rfl, ?_⟩
    have e1 : cl + (sg ++ [nI 0, nI 0]).length = cl + sg.length + 2 := by rw [List.length_append, ← Nat.add_assoc]; rfl
    have e2 := pOK.yes (M := mk2 M (up2 I1 (pa + 1 + k) n (nI cl)) (mJ M)) (pa := pa) (L := L) (bt := bt) (j := j) (lf := lf2) (hE.app rfl (Ext.two (a := nI 0) (b := nI 0)))
    rw [e1] at e2
    unfold pSm
    rw [hr, pbd_y]
    exact e2
  · refine wp_iconst (v := nI 0) (by decide) (ck_get kk_Pa_sumBehind 12 rfl) ?_
    refine wp_ireturn (ck_get kk_Pa_sumBehind 13 rfl) rfl rfl ⟨_, rfl, ?_⟩
    exact hq₁.no hc19
theorem c_times (hS : OutOK g) (hX : TxOK M pa tp L bt) {i lf cl n : Nat} {cd : Nat → Int32} {I1 : Nat → Nat → Int32} (hI : EnU (mI M) I1 pa n) (hn : n < 12) (hi : i ≤ L) : Ci g Y_Pa_times 200 [.ref pa, .int (nI n)] (cTk (mk2 M I1 (mJ M)) pa L bt (tS bt L i) lf cl cd) (fun x M2 => ∃ tm, (¬ x = 0 → tm = tmV (tC bt L) (tV bt L) i) ∧ pOK (mk2 M (up2 I1 (pa + 3) n (nI tm)) (mJ M)) pa L bt cl cd (pTm (tC bt L) (tV bt L) i lf) x M2) := by
  refine cw_entry 0 pf_Pa_times rfl ?_
  have hI2 : ∀ v, EnU (mI M) (up2 I1 (pa + 3) n v) pa n := fun v => hI.set (by omega) (by omega)
  have hX2 := hX.en (hI2 (nI 1))
  have hS1 := hS.1
  obtain ⟨⟨t0, r0, hPr, r2, t2, htp⟩, h3, hL, hbt, hb2⟩ := hX
  have p0 := hPr.1
  have rk := hPr.2.1 2 (by omega) (by omega)
  have tk := hPr.2.2.1 2 (by omega) (by omega)
  have hkl1 : kOf bt L (tS bt L (i + 1)) ≤ 3 := kOf_le
  have hvl1 : vOf bt L (tS bt L (i + 1)) ≤ 1001 := vOf_le hb2
  have e6 : ∀ M i lf cl cd, mI (cTk M pa L bt (tS bt L i) lf cl cd) pa 6 = nI (kOf bt L (tS bt L i)) := fun M i lf cl cd => by rw [cS_pa]; rfl
  have e9 : ∀ M i lf cl cd, mI (cTk M pa L bt (tS bt L i) lf cl cd) pa 9 = nI (vOf bt L (tS bt L i)) := fun M i lf cl cd => by rw [cS_pa]; rfl
  unfold pTm tmV
  by_cases h0 : tC bt L i = 22 + 1
  · have hiL := tC_N (bt := bt) (L := L) (i := i) (by omega)
    rw [if_pos h0, if_pos h0]
    by_cases h1 : tC bt L (i + 1) = 50 ∧ 1 ≤ tV bt L (i + 1) ∧ tV bt L (i + 1) ≤ 20
    · have hk2 : kOf bt L (tS bt L (i + 1)) = 2 := tC_num.mp h1.1
      have hv1 : 1 ≤ vOf bt L (tS bt L (i + 1)) := h1.2.1
      have hv2 : vOf bt L (tS bt L (i + 1)) ≤ 20 := h1.2.2
      rw [if_pos h1]
      refine wp_aload_n rfl (ck_get kk_Pa_times 0 rfl) ?_
      refine wp_getR (ck_get kk_Pa_times 1 rfl) fl_Pa_14 (by assumption) (by assumption) ?_
      refine wp_getR (ck_get kk_Pa_times 2 rfl) fl_Pa_146 (by assumption) (by assumption) ?_
      refine wp_iload_n rfl (ck_get kk_Pa_times 3 rfl) ?_
      refine wp_iconst (v := nI 1) (by decide) (ck_get kk_Pa_times 4 rfl) ?_
      refine wp_iast (ck_get kk_Pa_times 5 rfl) (by assumption) (by first | assumption | exact ixk_nI (by omega) (by omega)) ?_
      rw [cS_en (by omega) (by omega)]
      refine wp_aload_n rfl (ck_get kk_Pa_times 6 rfl) ?_
      refine wp_ldcs (i := 22) hS1 (by decide) rfl rfl (ck_get kk_Pa_times 7 rfl) ?_
      refine wp_cV1i (ck_get kk_Pa_times 8 rfl) ml_Pa_56 (by omega) (Nat.le_of_ble_eq_true rfl) (by assumption) (Ci.to (c_isWordY hS hX2 (by decide) h0) ?_)
      rintro _ M1 ⟨rfl, eqm1⟩
      obtain rfl := eqm1.symm
      first | refine wp_if_neN (t := 21) (ck_get kk_Pa_times 9 rfl) (by decide) (by omega) (fun hc16 => ?_) (fun hc16 => ?_) | refine wp_if_ne (t := 21) (ck_get kk_Pa_times 9 rfl) (by decide) (fun hc16 => ?_) (fun hc16 => ?_)
      · refine wp_aload_n rfl (ck_get kk_Pa_times 12 rfl) ?_
        refine wp_cV0v (ck_get kk_Pa_times 13 rfl) ml_Pa_68 (by omega) (Nat.le_of_ble_eq_true rfl) (by assumption) (Cv.to (c_advanceT hX2) ?_)
        rintro M₁ rfl
        refine wp_aload_n rfl (ck_get kk_Pa_times 14 rfl) ?_
        refine wp_getIv (v := nI (kOf bt L (tS bt L (i + 1)))) (ck_get kk_Pa_times 15 rfl) fl_Pa_38 (by assumption) (e6 _ _ _ _ _) ?_
        refine wp_iconst (v := nI 2) (by decide) (ck_get kk_Pa_times 16 rfl) ?_
        first | refine wp_icmp_neN (t := 50) (ck_get kk_Pa_times 17 rfl) (by decide) (by omega) (by omega) (fun hc30 => ?_) (fun hc30 => ?_) | refine wp_icmp_ne (t := 50) (ck_get kk_Pa_times 17 rfl) (by decide) (fun hc30 => ?_) (fun hc30 => ?_)
        · omega
        · refine wp_aload_n rfl (ck_get kk_Pa_times 18 rfl) ?_
          refine wp_getIv (v := nI (vOf bt L (tS bt L (i + 1)))) (ck_get kk_Pa_times 19 rfl) fl_Pa_47 (by assumption) (e9 _ _ _ _ _) ?_
          refine wp_iconst (v := nI 1) (by decide) (ck_get kk_Pa_times 20 rfl) ?_
          first | refine wp_icmp_ltN (t := 50) (ck_get kk_Pa_times 21 rfl) (by decide) (by omega) (by omega) (fun hc38 => ?_) (fun hc38 => ?_) | refine wp_icmp_lt (t := 50) (ck_get kk_Pa_times 21 rfl) (by decide) (fun hc38 => ?_) (fun hc38 => ?_)
          · omega
          · refine wp_aload_n rfl (ck_get kk_Pa_times 22 rfl) ?_
            refine wp_getIv (v := nI (vOf bt L (tS bt L (i + 1)))) (ck_get kk_Pa_times 23 rfl) fl_Pa_47 (by assumption) (e9 _ _ _ _ _) ?_
            refine wp_bipush (v := nI 20) (by decide) (ck_get kk_Pa_times 24 rfl) ?_
            first | refine wp_icmp_leN (t := 55) (ck_get kk_Pa_times 25 rfl) (by decide) (by omega) (by omega) (fun hc47 => ?_) (fun hc47 => ?_) | refine wp_icmp_le (t := 55) (ck_get kk_Pa_times 25 rfl) (by decide) (fun hc47 => ?_) (fun hc47 => ?_)
            · refine wp_aload_n rfl (ck_get kk_Pa_times 29 rfl) ?_
              refine wp_getR (ck_get kk_Pa_times 30 rfl) fl_Pa_14 (by assumption) (by assumption) ?_
              refine wp_getR (ck_get kk_Pa_times 31 rfl) fl_Pa_146 (by assumption) (by assumption) ?_
              refine wp_iload_n rfl (ck_get kk_Pa_times 32 rfl) ?_
              refine wp_aload_n rfl (ck_get kk_Pa_times 33 rfl) ?_
              refine wp_getIv (v := nI (vOf bt L (tS bt L (i + 1)))) (ck_get kk_Pa_times 34 rfl) fl_Pa_47 (by assumption) (e9 _ _ _ _ _) ?_
              refine wp_iast (ck_get kk_Pa_times 35 rfl) (by assumption) (by first | assumption | exact ixk_nI (by omega) (by omega)) ?_
              rw [cS_en (by omega) (by omega)]
              refine wp_aload_n rfl (ck_get kk_Pa_times 36 rfl) ?_
              refine wp_cV0v (ck_get kk_Pa_times 37 rfl) ml_Pa_68 (by omega) (Nat.le_of_ble_eq_true rfl) (by assumption) (Cv.to (c_advanceT (hX2.en (M := mk2 M (up2 I1 (pa + 3) n (nI 1)) (mJ M)) (n := n) (EnU.refl.set (by omega) (by omega)))) ?_)
              rintro M₁ rfl
              refine wp_iconst (v := nI 1) (by decide) (ck_get kk_Pa_times 38 rfl) ?_
              refine wp_ireturn (ck_get kk_Pa_times 39 rfl) rfl rfl ⟨_, rfl, ?_⟩
              refine ⟨_, fun _ => rfl, ?_⟩
              have e2 : up2 (up2 I1 (pa + 3) n (nI 1)) (pa + 3) n (nI (vOf bt L (tS bt L (i + 1)))) = up2 I1 (pa + 3) n (nI (tV bt L (i + 1))) := by
                rw [up2_up1, up2_up1, up1_eq, up1_up1, up1_up1, ← up2_up1]; rfl
              rw [show pa + 1 + 2 = pa + 3 from rfl, e2]
              exact pOK.yes (sg := []) Ext.nil
            · omega
      · omega
    · rw [if_neg h1]
      refine wp_aload_n rfl (ck_get kk_Pa_times 0 rfl) ?_
      refine wp_getR (ck_get kk_Pa_times 1 rfl) fl_Pa_14 (by assumption) (by assumption) ?_
      refine wp_getR (ck_get kk_Pa_times 2 rfl) fl_Pa_146 (by assumption) (by assumption) ?_
      refine wp_iload_n rfl (ck_get kk_Pa_times 3 rfl) ?_
      refine wp_iconst (v := nI 1) (by decide) (ck_get kk_Pa_times 4 rfl) ?_
      refine wp_iast (ck_get kk_Pa_times 5 rfl) (by assumption) (by first | assumption | exact ixk_nI (by omega) (by omega)) ?_
      rw [cS_en (by omega) (by omega)]
      refine wp_aload_n rfl (ck_get kk_Pa_times 6 rfl) ?_
      refine wp_ldcs (i := 22) hS1 (by decide) rfl rfl (ck_get kk_Pa_times 7 rfl) ?_
      refine wp_cV1i (ck_get kk_Pa_times 8 rfl) ml_Pa_56 (by omega) (Nat.le_of_ble_eq_true rfl) (by assumption) (Ci.to (c_isWordY hS hX2 (by decide) h0) ?_)
      rintro _ M1 ⟨rfl, eqm1⟩
      obtain rfl := eqm1.symm
      first | refine wp_if_neN (t := 21) (ck_get kk_Pa_times 9 rfl) (by decide) (by omega) (fun hc16 => ?_) (fun hc16 => ?_) | refine wp_if_ne (t := 21) (ck_get kk_Pa_times 9 rfl) (by decide) (fun hc16 => ?_) (fun hc16 => ?_)
      · refine wp_aload_n rfl (ck_get kk_Pa_times 12 rfl) ?_
        refine wp_cV0v (ck_get kk_Pa_times 13 rfl) ml_Pa_68 (by omega) (Nat.le_of_ble_eq_true rfl) (by assumption) (Cv.to (c_advanceT hX2) ?_)
        rintro M₁ rfl
        refine wp_aload_n rfl (ck_get kk_Pa_times 14 rfl) ?_
        refine wp_getIv (v := nI (kOf bt L (tS bt L (i + 1)))) (ck_get kk_Pa_times 15 rfl) fl_Pa_38 (by assumption) (e6 _ _ _ _ _) ?_
        refine wp_iconst (v := nI 2) (by decide) (ck_get kk_Pa_times 16 rfl) ?_
        first | refine wp_icmp_neN (t := 50) (ck_get kk_Pa_times 17 rfl) (by decide) (by omega) (by omega) (fun hc30 => ?_) (fun hc30 => ?_) | refine wp_icmp_ne (t := 50) (ck_get kk_Pa_times 17 rfl) (by decide) (fun hc30 => ?_) (fun hc30 => ?_)
        · refine wp_aload_n rfl (ck_get kk_Pa_times 26 rfl) ?_
          refine wp_cV0i (ck_get kk_Pa_times 27 rfl) ml_Pa_71 (by omega) (Nat.le_of_ble_eq_true rfl) (by assumption) (Ci.to (c_failT hX2 (lf0 := lf) (cl0 := cl) (cd0 := cd) (sg := [])) ?_)
          rintro x₁ M₁ hq₁
          refine wp_ireturn (ck_get kk_Pa_times 28 rfl) rfl hq₁.nar ⟨_, rfl, ?_⟩
          refine ⟨1, fun hx => ?_, hq₁⟩
          obtain ⟨_, _, _, _, hr, -⟩ := hq₁.t hx
          exact (fls_tru hr).elim
        · refine wp_aload_n rfl (ck_get kk_Pa_times 18 rfl) ?_
          refine wp_getIv (v := nI (vOf bt L (tS bt L (i + 1)))) (ck_get kk_Pa_times 19 rfl) fl_Pa_47 (by assumption) (e9 _ _ _ _ _) ?_
          refine wp_iconst (v := nI 1) (by decide) (ck_get kk_Pa_times 20 rfl) ?_
          first | refine wp_icmp_ltN (t := 50) (ck_get kk_Pa_times 21 rfl) (by decide) (by omega) (by omega) (fun hc38 => ?_) (fun hc38 => ?_) | refine wp_icmp_lt (t := 50) (ck_get kk_Pa_times 21 rfl) (by decide) (fun hc38 => ?_) (fun hc38 => ?_)
          · refine wp_aload_n rfl (ck_get kk_Pa_times 26 rfl) ?_
            refine wp_cV0i (ck_get kk_Pa_times 27 rfl) ml_Pa_71 (by omega) (Nat.le_of_ble_eq_true rfl) (by assumption) (Ci.to (c_failT hX2 (lf0 := lf) (cl0 := cl) (cd0 := cd) (sg := [])) ?_)
            rintro x₁ M₁ hq₁
            refine wp_ireturn (ck_get kk_Pa_times 28 rfl) rfl hq₁.nar ⟨_, rfl, ?_⟩
            refine ⟨1, fun hx => ?_, hq₁⟩
            obtain ⟨_, _, _, _, hr, -⟩ := hq₁.t hx
            exact (fls_tru hr).elim
          · refine wp_aload_n rfl (ck_get kk_Pa_times 22 rfl) ?_
            refine wp_getIv (v := nI (vOf bt L (tS bt L (i + 1)))) (ck_get kk_Pa_times 23 rfl) fl_Pa_47 (by assumption) (e9 _ _ _ _ _) ?_
            refine wp_bipush (v := nI 20) (by decide) (ck_get kk_Pa_times 24 rfl) ?_
            first | refine wp_icmp_leN (t := 55) (ck_get kk_Pa_times 25 rfl) (by decide) (by omega) (by omega) (fun hc47 => ?_) (fun hc47 => ?_) | refine wp_icmp_le (t := 55) (ck_get kk_Pa_times 25 rfl) (by decide) (fun hc47 => ?_) (fun hc47 => ?_)
            · exact absurd ⟨tC_num.mpr (by omega), (show 1 ≤ vOf bt L (tS bt L (i + 1)) by omega), (show vOf bt L (tS bt L (i + 1)) ≤ 20 by omega)⟩ h1
            · refine wp_aload_n rfl (ck_get kk_Pa_times 26 rfl) ?_
              refine wp_cV0i (ck_get kk_Pa_times 27 rfl) ml_Pa_71 (by omega) (Nat.le_of_ble_eq_true rfl) (by assumption) (Ci.to (c_failT hX2 (lf0 := lf) (cl0 := cl) (cd0 := cd) (sg := [])) ?_)
              rintro x₁ M₁ hq₁
              refine wp_ireturn (ck_get kk_Pa_times 28 rfl) rfl hq₁.nar ⟨_, rfl, ?_⟩
              refine ⟨1, fun hx => ?_, hq₁⟩
              obtain ⟨_, _, _, _, hr, -⟩ := hq₁.t hx
              exact (fls_tru hr).elim
      · omega
  · rw [if_neg h0, if_neg h0]
    refine wp_aload_n rfl (ck_get kk_Pa_times 0 rfl) ?_
    refine wp_getR (ck_get kk_Pa_times 1 rfl) fl_Pa_14 (by assumption) (by assumption) ?_
    refine wp_getR (ck_get kk_Pa_times 2 rfl) fl_Pa_146 (by assumption) (by assumption) ?_
    refine wp_iload_n rfl (ck_get kk_Pa_times 3 rfl) ?_
    refine wp_iconst (v := nI 1) (by decide) (ck_get kk_Pa_times 4 rfl) ?_
    refine wp_iast (ck_get kk_Pa_times 5 rfl) (by assumption) (by first | assumption | exact ixk_nI (by omega) (by omega)) ?_
    rw [cS_en (by omega) (by omega)]
    refine wp_aload_n rfl (ck_get kk_Pa_times 6 rfl) ?_
    refine wp_ldcs (i := 22) hS1 (by decide) rfl rfl (ck_get kk_Pa_times 7 rfl) ?_
    refine wp_cV1i (ck_get kk_Pa_times 8 rfl) ml_Pa_56 (by omega) (Nat.le_of_ble_eq_true rfl) (by assumption) (Ci.to (c_isWordN hS hX2 (by decide) h0) ?_)
    rintro _ M1 ⟨rfl, eqm1⟩
    obtain rfl := eqm1.symm
    first | refine wp_if_neN (t := 21) (ck_get kk_Pa_times 9 rfl) (by decide) (by omega) (fun hc16 => ?_) (fun hc16 => ?_) | refine wp_if_ne (t := 21) (ck_get kk_Pa_times 9 rfl) (by decide) (fun hc16 => ?_) (fun hc16 => ?_)
    · omega
    · refine wp_iconst (v := nI 1) (by decide) (ck_get kk_Pa_times 10 rfl) ?_
      refine wp_ireturn (ck_get kk_Pa_times 11 rfl) rfl rfl ⟨_, rfl, ?_⟩
      exact ⟨1, fun _ => rfl, pOK.yes (sg := []) Ext.nil⟩
theorem c_condition (hS : OutOK g) (hX : TxOK M pa tp L bt) (hod : mI M pa 4 = bI od) (hf : 12 * L + 6 ≤ f) {i lf cl n : Nat} {cd : Nat → Int32} {I1 : Nat → Nat → Int32} (hI : EnU (mI M) I1 pa n) (hn : n < 12) (hi : i ≤ L) (hlf : lf ≤ 50) (hcl : cl ≤ 2 * i) : Ci g Y_Pa_condition 200 [.ref pa, .int (nI n)] (cTk (mk2 M I1 (mJ M)) pa L bt (tS bt L i) lf cl cd) (fun x M2 => pOK (mk2 M (up2 I1 (pa + 4) n (if tC bt L i = 3 then nI cl else -1)) (mJ M)) pa L bt cl cd (pIf (tC bt L) (tV bt L) od f i lf cl) x M2) := by
  refine cw_entry 0 pf_Pa_condition rfl ?_
  have hI2 : ∀ v, EnU (mI M) (up2 I1 (pa + 4) n v) pa n := fun v => hI.set (by omega) (by omega)
  have hXm := hX.en (hI2 (-1))
  have hX2 := hX.en (hI2 (nI cl))
  have hod2 : mI (mk2 M (up2 I1 (pa + 4) n (nI cl)) (mJ M)) pa 4 = bI od := by rw [← hod]; exact congrFun ((hI2 _).1 pa (by omega)) 4
  have hS1 := hS.1
  have hal := pa_all hS hX2 hod2 f
  obtain ⟨⟨t0, r0, hPr, r2, t2, htp⟩, h3, hL, hbt, hb2⟩ := hX
  have p0 := hPr.1
  have rk := hPr.2.1 3 (by omega) (by omega)
  have tk := hPr.2.2.1 3 (by omega) (by omega)
  unfold pIf
  by_cases h0 : tC bt L i = 2 + 1
  · have hiL := tC_N (bt := bt) (L := L) (i := i) (by omega)
    rw [if_pos h0, if_pos h0]
    have e2 : up2 (up2 I1 (pa + 1 + 3) n (-1)) (pa + 1 + 3) n (nI cl) = up2 I1 (pa + 4) n (nI cl) := by
      rw [up2_up1, up2_up1, up1_eq, up1_up1, up1_up1, ← up2_up1]
    refine wp_aload_n rfl (ck_get kk_Pa_condition 0 rfl) ?_
    refine wp_getR (ck_get kk_Pa_condition 1 rfl) fl_Pa_14 (by assumption) (by assumption) ?_
    refine wp_getR (ck_get kk_Pa_condition 2 rfl) fl_Pa_149 (by assumption) (by assumption) ?_
    refine wp_iload_n rfl (ck_get kk_Pa_condition 3 rfl) ?_
    refine wp_iconst (v := (-1)) (by decide) (ck_get kk_Pa_condition 4 rfl) ?_
    refine wp_iast (ck_get kk_Pa_condition 5 rfl) (by assumption) (by first | assumption | exact ixk_nI (by omega) (by omega)) ?_
    rw [cS_en (by omega) (by omega)]
    refine wp_aload_n rfl (ck_get kk_Pa_condition 6 rfl) ?_
    refine wp_ldcs (i := 2) hS1 (by decide) rfl rfl (ck_get kk_Pa_condition 7 rfl) ?_
    refine wp_cV1i (ck_get kk_Pa_condition 8 rfl) ml_Pa_56 (by omega) (Nat.le_of_ble_eq_true rfl) (by assumption) (Ci.to (c_isWordY hS hXm (by decide) h0) ?_)
    rintro _ M1 ⟨rfl, eqm1⟩
    obtain rfl := eqm1.symm
    first | refine wp_if_neN (t := 21) (ck_get kk_Pa_condition 9 rfl) (by decide) (by omega) (fun hc16 => ?_) (fun hc16 => ?_) | refine wp_if_ne (t := 21) (ck_get kk_Pa_condition 9 rfl) (by decide) (fun hc16 => ?_) (fun hc16 => ?_)
    · refine wp_aload_n rfl (ck_get kk_Pa_condition 12 rfl) ?_
      refine wp_cV0v (ck_get kk_Pa_condition 13 rfl) ml_Pa_68 (by omega) (Nat.le_of_ble_eq_true rfl) (by assumption) (Cv.to (c_advanceT hXm) ?_)
      rintro M₁ rfl
      refine wp_aload_n rfl (ck_get kk_Pa_condition 14 rfl) ?_
      refine wp_getR (ck_get kk_Pa_condition 15 rfl) fl_Pa_14 (by assumption) (by assumption) ?_
      refine wp_getR (ck_get kk_Pa_condition 16 rfl) fl_Pa_149 (by assumption) (by assumption) ?_
      refine wp_iload_n rfl (ck_get kk_Pa_condition 17 rfl) ?_
      refine wp_aload_n rfl (ck_get kk_Pa_condition 18 rfl) ?_
      refine wp_getR (ck_get kk_Pa_condition 19 rfl) fl_Pa_14 (by assumption) (by assumption) ?_
      refine wp_getIv (v := nI cl) (ck_get kk_Pa_condition 20 rfl) fl_Pa_78 (by assumption) (cS_8) ?_
      refine wp_iast (ck_get kk_Pa_condition 21 rfl) (by assumption) (by first | assumption | exact ixk_nI (by omega) (by omega)) ?_
      rw [cS_en (by omega) (by omega), e2]
      refine wp_aload_n rfl (ck_get kk_Pa_condition 22 rfl) ?_
      refine wp_iconst (v := nI 0) (by decide) (ck_get kk_Pa_condition 23 rfl) ?_
      refine wp_cV1i (ck_get kk_Pa_condition 24 rfl) ml_Pa_154 (by omega) (Nat.le_of_ble_eq_true rfl) (by assumption) (Ci.to (hal.2.2.2.2.2.2.2.2.2 0 (i + 1) lf cl cd (by omega) (by omega) hlf (by omega) (by omega)) ?_)
      rintro x₁ M₁ hq₁
      first | refine wp_if_neN (t := 51) (ck_get kk_Pa_condition 25 rfl) (by decide) (by omega) (fun hc46 => ?_) (fun hc46 => ?_) | refine wp_if_ne (t := 51) (ck_get kk_Pa_condition 25 rfl) (by decide) (fun hc46 => ?_) (fun hc46 => ?_)
      · obtain ⟨j, lf2, sg, cd2, hr, rfl, hE⟩ := hq₁.t hc46
        obtain ⟨g1, g2, g3, g4, g5⟩ := psr_ok (N := L) (fun i h => tC_N h) f 10 0 (i + 1) lf cl j lf2 sg (by omega) hr (by omega) hlf
        rw [show ntk 10 = 1 from rfl] at g1
        rw [show ntx 10 = 0 from rfl] at g4
        refine wp_aload_n rfl (ck_get kk_Pa_condition 28 rfl) ?_
        refine wp_getR (ck_get kk_Pa_condition 29 rfl) fl_Pa_14 (by assumption) (by assumption) ?_
        refine wp_iconst (v := nI 0) (by decide) (ck_get kk_Pa_condition 30 rfl) ?_
        refine wp_iconst (v := nI 0) (by decide) (ck_get kk_Pa_condition 31 rfl) ?_
        refine wp_cV2v (ck_get kk_Pa_condition 32 rfl) ml_Pa_157 (by omega) (Nat.le_of_ble_eq_true rfl) (by assumption) (Cv.to (c_emit hX2 (by omega)) ?_)
        rintro M₁ rfl
        refine wp_iconst (v := nI 1) (by decide) (ck_get kk_Pa_condition 33 rfl) ?_
        refine wp_ireturn (ck_get kk_Pa_condition 34 rfl) rfl rfl ⟨_, rfl, ?_⟩
        have e1 : cl + (sg ++ [nI 0, nI 0]).length = cl + sg.length + 2 := by rw [List.length_append, ← Nat.add_assoc]; rfl
        have e3 := pOK.yes (M := mk2 M (up2 I1 (pa + 4) n (nI cl)) (mJ M)) (pa := pa) (L := L) (bt := bt) (j := j) (lf := lf2) (hE.app rfl (Ext.two (a := nI 0) (b := nI 0)))
        rw [e1] at e3
        rw [hr, pbd_y]
        exact e3
      · refine wp_iconst (v := nI 0) (by decide) (ck_get kk_Pa_condition 26 rfl) ?_
        refine wp_ireturn (ck_get kk_Pa_condition 27 rfl) rfl rfl ⟨_, rfl, ?_⟩
        exact hq₁.no hc46
    · omega
  · rw [if_neg h0, if_neg h0]
    refine wp_aload_n rfl (ck_get kk_Pa_condition 0 rfl) ?_
    refine wp_getR (ck_get kk_Pa_condition 1 rfl) fl_Pa_14 (by assumption) (by assumption) ?_
    refine wp_getR (ck_get kk_Pa_condition 2 rfl) fl_Pa_149 (by assumption) (by assumption) ?_
    refine wp_iload_n rfl (ck_get kk_Pa_condition 3 rfl) ?_
    refine wp_iconst (v := (-1)) (by decide) (ck_get kk_Pa_condition 4 rfl) ?_
    refine wp_iast (ck_get kk_Pa_condition 5 rfl) (by assumption) (by first | assumption | exact ixk_nI (by omega) (by omega)) ?_
    rw [cS_en (by omega) (by omega)]
    refine wp_aload_n rfl (ck_get kk_Pa_condition 6 rfl) ?_
    refine wp_ldcs (i := 2) hS1 (by decide) rfl rfl (ck_get kk_Pa_condition 7 rfl) ?_
    refine wp_cV1i (ck_get kk_Pa_condition 8 rfl) ml_Pa_56 (by omega) (Nat.le_of_ble_eq_true rfl) (by assumption) (Ci.to (c_isWordN hS hXm (by decide) h0) ?_)
    rintro _ M1 ⟨rfl, eqm1⟩
    obtain rfl := eqm1.symm
    first | refine wp_if_neN (t := 21) (ck_get kk_Pa_condition 9 rfl) (by decide) (by omega) (fun hc16 => ?_) (fun hc16 => ?_) | refine wp_if_ne (t := 21) (ck_get kk_Pa_condition 9 rfl) (by decide) (fun hc16 => ?_) (fun hc16 => ?_)
    · omega
    · refine wp_iconst (v := nI 1) (by decide) (ck_get kk_Pa_condition 10 rfl) ?_
      refine wp_ireturn (ck_get kk_Pa_condition 11 rfl) rfl rfl ⟨_, rfl, ?_⟩
      exact pOK.yes (sg := []) Ext.nil
/-- a head: it could (what the program's rows hold then), or it could not -/
def hdQ (M : Mem) (pa L : Nat) (bt : Nat → Nat) (n cl : Nat) (cd : Nat → Int32) (I1 : Nat → Nat → Int32) (r : PRes) (P : (Nat → Int32) → Nat → Nat → List Int32 → Prop) (x : Int32) (M2 : Mem) : Prop := ∃ I2, EnU I1 I2 pa n ∧ pOK (mk2 M I2 (mJ M)) pa L bt cl cd r x M2 ∧ ∀ j lf2 sg, r = (true, j, lf2, sg) → P (fun k => I2 (pa + 1 + k) n) j lf2 sg
theorem hdQ.nar {n cl : Nat} {cd : Nat → Int32} {I1 : Nat → Nat → Int32} {r : PRes} {P : (Nat → Int32) → Nat → Nat → List Int32 → Prop} {x : Int32} {M2 : Mem} (h : hdQ M pa L bt n cl cd I1 r P x M2) : narrow .boolean (.int x) = .int x := by
  obtain ⟨I2, -, h, -⟩ := h
  exact h.nar
def LhS (tc tv : Nat → Nat) (od : Bool) (f i lf cl : Nat) (e : Nat → Int32) (j lf2 : Nat) (sg : List Int32) : Prop := (tc i = 2 ∧ e 1 = nI 5 ∧ j = i + 1 ∧ lf2 = lf ∧ sg = []) ∨ (tc i = 1 ∧ e 1 = nI 4 ∧ e 4 = nI cl ∧ ∃ s1, psr tc tv od f 4 0 (i + 1) lf cl = (true, j, lf2, s1) ∧ sg = s1 ++ [nI 0, nI 0])
theorem c_lawHead (hS : OutOK g) (hX : TxOK M pa tp L bt) (hod : mI M pa 4 = bI od) (hf : 12 * L + 6 ≤ f) {i lf cl n : Nat} {cd : Nat → Int32} {I1 : Nat → Nat → Int32} (hI : EnU (mI M) I1 pa n) (hn : n < 12) (hi : i ≤ L) (hlf : lf ≤ 50) (hcl : cl ≤ 2 * i) : Ci g Y_Pa_lawHead 210 [.ref pa, .int (nI n)] (cTk (mk2 M I1 (mJ M)) pa L bt (tS bt L i) lf cl cd) (fun x M2 => hdQ M pa L bt n cl cd I1 (pLaw (tC bt L) (tV bt L) od f i lf cl) (LhS (tC bt L) (tV bt L) od f i lf cl) x M2) := by
  refine cw_entry 0 pf_Pa_lawHead rfl ?_
  have hX1 := hX.en hI
  have hI2 : ∀ v, EnU (mI M) (up2 I1 (pa + 2) n v) pa n := fun v => hI.set (by omega) (by omega)
  have hX5 := hX.en (hI2 (nI 5))
  have hX4 := hX.en (hI2 (nI 4))
  have hS1 := hS.1
  have hX0 := hX
  obtain ⟨⟨t0, r0, hPr, r2, t2, htp⟩, h3, hL, hbt, hb2⟩ := hX
  have p0 := hPr.1
  have rk := hPr.2.1 1 (by omega) (by omega)
  have tk := hPr.2.2.1 1 (by omega) (by omega)
  have rk4 := hPr.2.1 4 (by omega) (by omega)
  unfold pLaw
  by_cases h0 : tC bt L i = 1 + 1
  · rw [if_pos h0]
    refine wp_aload_n rfl (ck_get kk_Pa_lawHead 0 rfl) ?_
    refine wp_ldcs (i := 1) hS1 (by decide) rfl rfl (ck_get kk_Pa_lawHead 1 rfl) ?_
    refine wp_cV1i (ck_get kk_Pa_lawHead 2 rfl) ml_Pa_56 (by omega) (Nat.le_of_ble_eq_true rfl) (by assumption) (Ci.to (c_isWordY hS hX1 (by decide) h0) ?_)
    rintro _ M1 ⟨rfl, eqm1⟩
    obtain rfl := eqm1.symm
    first | refine wp_if_eqN (t := 25) (ck_get kk_Pa_lawHead 3 rfl) (by decide) (by omega) (fun hc6 => ?_) (fun hc6 => ?_) | refine wp_if_eq (t := 25) (ck_get kk_Pa_lawHead 3 rfl) (by decide) (fun hc6 => ?_) (fun hc6 => ?_)
    · omega
    · refine wp_aload_n rfl (ck_get kk_Pa_lawHead 4 rfl) ?_
      refine wp_getR (ck_get kk_Pa_lawHead 5 rfl) fl_Pa_14 (by assumption) (by assumption) ?_
      refine wp_getR (ck_get kk_Pa_lawHead 6 rfl) fl_Pa_115 (by assumption) (by assumption) ?_
      refine wp_iload_n rfl (ck_get kk_Pa_lawHead 7 rfl) ?_
      refine wp_iconst (v := nI 5) (by decide) (ck_get kk_Pa_lawHead 8 rfl) ?_
      refine wp_iast (ck_get kk_Pa_lawHead 9 rfl) (by assumption) (by first | assumption | exact ixk_nI (by omega) (by omega)) ?_
      rw [cS_en (by omega) (by omega)]
      refine wp_aload_n rfl (ck_get kk_Pa_lawHead 10 rfl) ?_
      refine wp_cV0v (ck_get kk_Pa_lawHead 11 rfl) ml_Pa_68 (by omega) (Nat.le_of_ble_eq_true rfl) (by assumption) (Cv.to (c_advanceT hX5) ?_)
      rintro M₁ rfl
      refine wp_iconst (v := nI 1) (by decide) (ck_get kk_Pa_lawHead 12 rfl) ?_
      refine wp_ireturn (ck_get kk_Pa_lawHead 13 rfl) rfl rfl ⟨_, rfl, ?_⟩
      refine ⟨up2 I1 (pa + 2) n (nI 5), EnU.refl.set (by omega) (by omega), pOK.yes (sg := []) Ext.nil, ?_⟩
      intro j lf2 sg hr
      obtain ⟨rfl, rfl, rfl⟩ := tru_inj hr
      exact Or.inl ⟨h0, by simp [up2], rfl, rfl, rfl⟩
  rw [if_neg h0]
  by_cases h1 : tC bt L i = 0 + 1
  · have hiL := tC_N (bt := bt) (L := L) (i := i) (by omega)
    rw [if_pos h1]
    refine wp_aload_n rfl (ck_get kk_Pa_lawHead 0 rfl) ?_
    refine wp_ldcs (i := 1) hS1 (by decide) rfl rfl (ck_get kk_Pa_lawHead 1 rfl) ?_
    refine wp_cV1i (ck_get kk_Pa_lawHead 2 rfl) ml_Pa_56 (by omega) (Nat.le_of_ble_eq_true rfl) (by assumption) (Ci.to (c_isWordN hS hX1 (by decide) h0) ?_)
    rintro _ M1 ⟨rfl, eqm1⟩
    obtain rfl := eqm1.symm
    first | refine wp_if_eqN (t := 25) (ck_get kk_Pa_lawHead 3 rfl) (by decide) (by omega) (fun hc6 => ?_) (fun hc6 => ?_) | refine wp_if_eq (t := 25) (ck_get kk_Pa_lawHead 3 rfl) (by decide) (fun hc6 => ?_) (fun hc6 => ?_)
    · refine wp_aload_n rfl (ck_get kk_Pa_lawHead 14 rfl) ?_
      refine wp_ldcs (i := 0) hS1 (by decide) rfl rfl (ck_get kk_Pa_lawHead 15 rfl) ?_
      refine wp_cV1i (ck_get kk_Pa_lawHead 16 rfl) ml_Pa_56 (by omega) (Nat.le_of_ble_eq_true rfl) (by assumption) (Ci.to (c_isWordY hS hX1 (by decide) h1) ?_)
      rintro _ M1 ⟨rfl, eqm1⟩
      obtain rfl := eqm1.symm
      first | refine wp_if_neN (t := 39) (ck_get kk_Pa_lawHead 17 rfl) (by decide) (by omega) (fun hc31 => ?_) (fun hc31 => ?_) | refine wp_if_ne (t := 39) (ck_get kk_Pa_lawHead 17 rfl) (by decide) (fun hc31 => ?_) (fun hc31 => ?_)
      · refine wp_aload_n rfl (ck_get kk_Pa_lawHead 21 rfl) ?_
        refine wp_getR (ck_get kk_Pa_lawHead 22 rfl) fl_Pa_14 (by assumption) (by assumption) ?_
        refine wp_getR (ck_get kk_Pa_lawHead 23 rfl) fl_Pa_115 (by assumption) (by assumption) ?_
        refine wp_iload_n rfl (ck_get kk_Pa_lawHead 24 rfl) ?_
        refine wp_iconst (v := nI 4) (by decide) (ck_get kk_Pa_lawHead 25 rfl) ?_
        refine wp_iast (ck_get kk_Pa_lawHead 26 rfl) (by assumption) (by first | assumption | exact ixk_nI (by omega) (by omega)) ?_
        rw [cS_en (by omega) (by omega)]
        refine wp_aload_n rfl (ck_get kk_Pa_lawHead 27 rfl) ?_
        refine wp_aload_n rfl (ck_get kk_Pa_lawHead 28 rfl) ?_
        refine wp_getR (ck_get kk_Pa_lawHead 29 rfl) fl_Pa_14 (by assumption) (by assumption) ?_
        refine wp_getR (ck_get kk_Pa_lawHead 30 rfl) fl_Pa_120 (by assumption) (by assumption) ?_
        refine wp_iload_n rfl (ck_get kk_Pa_lawHead 31 rfl) ?_
        refine wp_cV2i (ck_get kk_Pa_lawHead 32 rfl) ml_Pa_123 (by omega) (Nat.le_of_ble_eq_true rfl) (by assumption) (Ci.to (c_sumBehind hS hX0 hod hf (k := 4) (hI2 (nI 4)) (by omega) (by omega) hn hiL hlf hcl) ?_)
        rintro x₁ M₁ hq₁
        refine wp_ireturn (ck_get kk_Pa_lawHead 33 rfl) rfl hq₁.nar ⟨_, rfl, ?_⟩
        refine ⟨_, (EnU.refl.set (v := nI 4) (x := pa + 2) (by omega) (by omega)).trans (EnU.refl.set (by omega) (by omega)), hq₁, ?_⟩
        intro j lf2 sg hr
        obtain ⟨s1, q1, q2, -⟩ := pSm_ok (N := L) (fun i h => tC_N h) hr (by omega) hlf
        exact Or.inr ⟨h1, by simp [up2], by simp [up2], s1, q1, q2⟩
      · omega
    · omega
  rw [if_neg h1]
  refine wp_aload_n rfl (ck_get kk_Pa_lawHead 0 rfl) ?_
  refine wp_ldcs (i := 1) hS1 (by decide) rfl rfl (ck_get kk_Pa_lawHead 1 rfl) ?_
  refine wp_cV1i (ck_get kk_Pa_lawHead 2 rfl) ml_Pa_56 (by omega) (Nat.le_of_ble_eq_true rfl) (by assumption) (Ci.to (c_isWordN hS hX1 (by decide) h0) ?_)
  rintro _ M1 ⟨rfl, eqm1⟩
  obtain rfl := eqm1.symm
  first | refine wp_if_eqN (t := 25) (ck_get kk_Pa_lawHead 3 rfl) (by decide) (by omega) (fun hc6 => ?_) (fun hc6 => ?_) | refine wp_if_eq (t := 25) (ck_get kk_Pa_lawHead 3 rfl) (by decide) (fun hc6 => ?_) (fun hc6 => ?_)
  · refine wp_aload_n rfl (ck_get kk_Pa_lawHead 14 rfl) ?_
    refine wp_ldcs (i := 0) hS1 (by decide) rfl rfl (ck_get kk_Pa_lawHead 15 rfl) ?_
    refine wp_cV1i (ck_get kk_Pa_lawHead 16 rfl) ml_Pa_56 (by omega) (Nat.le_of_ble_eq_true rfl) (by assumption) (Ci.to (c_isWordN hS hX1 (by decide) h1) ?_)
    rintro _ M1 ⟨rfl, eqm1⟩
    obtain rfl := eqm1.symm
    first | refine wp_if_neN (t := 39) (ck_get kk_Pa_lawHead 17 rfl) (by decide) (by omega) (fun hc31 => ?_) (fun hc31 => ?_) | refine wp_if_ne (t := 39) (ck_get kk_Pa_lawHead 17 rfl) (by decide) (fun hc31 => ?_) (fun hc31 => ?_)
    · omega
    · refine wp_aload_n rfl (ck_get kk_Pa_lawHead 18 rfl) ?_
      refine wp_cV0i (ck_get kk_Pa_lawHead 19 rfl) ml_Pa_71 (by omega) (Nat.le_of_ble_eq_true rfl) (by assumption) (Ci.to (c_failT hX1 (lf0 := lf) (cl0 := cl) (cd0 := cd) (sg := [])) ?_)
      rintro x₁ M₁ hq₁
      refine wp_ireturn (ck_get kk_Pa_lawHead 20 rfl) rfl hq₁.nar ⟨_, rfl, ?_⟩
      exact ⟨I1, EnU.refl, hq₁, fun j lf2 sg hr => (fls_tru hr).elim⟩
  · omega
end PG

/-! ===== MissCurves$Parser: parts, products, sums ===== -/
section PD
variable {g : Gl} {M : Mem} {pa tp L : Nat} {bt : Nat → Nat} {od : Bool} {f : Nat}
/-- a reading method follows the parser over tokens -/
def SN (g : Gl) (M : Mem) (pa L : Nat) (bt : Nat → Nat) (od : Bool) (Y : Meth) (n0 nt rk f : Nat) : Prop := ∀ (d i lf cl : Nat) (cd : Nat → Int32), d ≤ 8 → i ≤ L → lf ≤ 50 → cl ≤ 2 * i → 12 * (L - i) + rk ≤ f → Ci g Y (20 * (9 - d) + n0) [.ref pa, .int (nI d)] (cTk M pa L bt (tS bt L i) lf cl cd) (fun x M2 => pOK M pa L bt cl cd (psr (tC bt L) (tV bt L) od f nt d i lf cl) x M2)
/-- its loop -/
def SR (g : Gl) (M : Mem) (pa L : Nat) (bt : Nat → Nat) (od : Bool) (Y : Meth) (n0 nt f : Nat) : Prop := ∀ (d i lf cl : Nat) (cd : Nat → Int32) (q : Nat) (x3 : Option Value), d ≤ 8 → i ≤ L → lf ≤ 50 → cl ≤ 2 * i → q ≤ i → 12 * (L - i) + 1 ≤ f → Wp g Y (20 * (9 - d) + n0) 12 [some (.ref pa), some (.int (nI d)), some (.int (nI q)), x3] [] (cTk M pa L bt (tS bt L i) lf cl cd) (fun r M2 => ∃ x, r = some (.int x) ∧ pOK M pa L bt cl cd (psr (tC bt L) (tV bt L) od f nt d i lf cl) x M2)
theorem pa_prodR (hS : OutOK g) (hX : TxOK M pa tp L bt) (h1 : SN g M pa L bt od Y_Pa_part 7 0 1 f) (h2 : SR g M pa L bt od Y_Pa_product 8 1 f) : SR g M pa L bt od Y_Pa_product 8 1 (f + 1) := by
  intro d i lf cl cd q x3 hd hi hlf hcl hq hf
  have hX0 := hX
  obtain ⟨⟨t0, r0, hPr, r2, t2, htp⟩, h3, hL, hbt, hb2⟩ := hX
  have p0 := hPr.1
  have hS1 := hS.1
  rw [psr_1]
  by_cases hs0 : tC bt L i = 100 + 42
  · have hiL := tC_N (bt := bt) (L := L) (i := i) (by omega)
    rw [if_pos (by omega)]
    have hop : tC bt L i - 100 = 42 := by omega
    refine wp_iload_n rfl (ck_get kk_Pa_product 8 rfl) ?_
    refine wp_sipush (v := nI 400) (by decide) (ck_get kk_Pa_product 9 rfl) ?_
    first | refine wp_icmp_geN (t := 80) (ck_get kk_Pa_product 10 rfl) (by decide) (by omega) (by omega) (fun hc16 => ?_) (fun hc16 => ?_) | refine wp_icmp_ge (t := 80) (ck_get kk_Pa_product 10 rfl) (by decide) (fun hc16 => ?_) (fun hc16 => ?_)
    · omega
    · refine wp_aload_n rfl (ck_get kk_Pa_product 11 rfl) ?_
      refine wp_bipush (v := nI 42) (by decide) (ck_get kk_Pa_product 12 rfl) ?_
      refine wp_cV1i (ck_get kk_Pa_product 13 rfl) ml_Pa_91 (by omega) (Nat.le_of_ble_eq_true rfl) (by assumption) (Ci.to (c_isSignY hX0 (by omega) hs0) ?_)
      rintro _ M1 ⟨rfl, eqm1⟩
      obtain rfl := eqm1.symm
      first | refine wp_if_neN (t := 46) (ck_get kk_Pa_product 14 rfl) (by decide) (by omega) (fun hc25 => ?_) (fun hc25 => ?_) | refine wp_if_ne (t := 46) (ck_get kk_Pa_product 14 rfl) (by decide) (fun hc25 => ?_) (fun hc25 => ?_)
      · refine wp_aload_n rfl (ck_get kk_Pa_product 23 rfl) ?_
        refine wp_getIv (v := nI 42) (ck_get kk_Pa_product 24 rfl) fl_Pa_47 (by assumption) (by rw [cS_pa]; exact congrArg nI (tC_val hs0)) ?_
        refine wp_istore_n (ck_get kk_Pa_product 25 rfl) (by decide) rfl ?_
        refine wp_aload_n rfl (ck_get kk_Pa_product 26 rfl) ?_
        refine wp_cV0v (ck_get kk_Pa_product 27 rfl) ml_Pa_68 (by omega) (Nat.le_of_ble_eq_true rfl) (by assumption) (Cv.to (c_advanceT hX0) ?_)
        rintro M₁ rfl
        refine wp_aload_n rfl (ck_get kk_Pa_product 28 rfl) ?_
        refine wp_iload_n rfl (ck_get kk_Pa_product 29 rfl) ?_
        refine wp_cV1i (ck_get kk_Pa_product 30 rfl) ml_Pa_189 (by omega) (Nat.le_of_ble_eq_true rfl) (by assumption) (Ci.to (h1 d (i + 1) lf cl cd hd (by omega) hlf (by omega) (by omega)) ?_)
        rintro x₁ M₁ hq₁
        first | refine wp_if_neN (t := 65) (ck_get kk_Pa_product 31 rfl) (by decide) (by omega) (fun hc60 => ?_) (fun hc60 => ?_) | refine wp_if_ne (t := 65) (ck_get kk_Pa_product 31 rfl) (by decide) (fun hc60 => ?_) (fun hc60 => ?_)
        · obtain ⟨j, lf2, sg, cd2, hr, rfl, hE⟩ := hq₁.t hc60
          obtain ⟨g1, g2, g3, g4, g5⟩ := psr_ok (N := L) (fun i h => tC_N h) f 0 d (i + 1) lf cl j lf2 sg (by omega) hr (by omega) hlf
          rw [show ntk 0 = 1 from rfl] at g1
          rw [show ntx 0 = 0 from rfl] at g4
          refine wp_aload_n rfl (ck_get kk_Pa_product 34 rfl) ?_
          refine wp_getR (ck_get kk_Pa_product 35 rfl) fl_Pa_14 (by assumption) (by assumption) ?_
          refine wp_iload_n rfl (ck_get kk_Pa_product 36 rfl) ?_
          refine wp_iconst (v := nI 0) (by decide) (ck_get kk_Pa_product 37 rfl) ?_
          refine wp_cV2v (ck_get kk_Pa_product 38 rfl) ml_Pa_157 (by omega) (Nat.le_of_ble_eq_true rfl) (by assumption) (Cv.to (c_emit hX0 (by omega)) ?_)
          rintro M₁ rfl
          first | refine wp_iincN (ck_get kk_Pa_product 39 rfl) rfl (by decide) rfl ?_ | refine wp_iinc (ck_get kk_Pa_product 39 rfl) rfl (by decide) rfl ?_
          refine wp_goto (t := 12) (ck_get kk_Pa_product 40 rfl) (by decide) ?_
          refine Wp.mono (h2 d j lf2 (cl + sg.length + 2) _ (q + 1) _ hd g2 g3 (by omega) (by omega) (by omega)) ?_
          rintro r₂ M₂ ⟨x₂, hr₂, hq₂⟩
          refine ⟨x₂, hr₂, ?_⟩
          rw [hr, pbd_y, hop]
          have e1 : cl + (sg ++ [nI 42, nI 0]).length = cl + sg.length + 2 := by rw [List.length_append, ← Nat.add_assoc]; rfl
          rw [e1]
          exact pOK.bd (hE.app rfl Ext.two) e1.symm hq₂
        · refine wp_iconst (v := nI 0) (by decide) (ck_get kk_Pa_product 32 rfl) ?_
          refine wp_ireturn (ck_get kk_Pa_product 33 rfl) rfl rfl ⟨_, rfl, ?_⟩
          exact hq₁.no hc60
      · omega
  by_cases hs1 : tC bt L i = 100 + 47
  · have hiL := tC_N (bt := bt) (L := L) (i := i) (by omega)
    rw [if_pos (by omega)]
    have hop : tC bt L i - 100 = 47 := by omega
    refine wp_iload_n rfl (ck_get kk_Pa_product 8 rfl) ?_
    refine wp_sipush (v := nI 400) (by decide) (ck_get kk_Pa_product 9 rfl) ?_
    first | refine wp_icmp_geN (t := 80) (ck_get kk_Pa_product 10 rfl) (by decide) (by omega) (by omega) (fun hc16 => ?_) (fun hc16 => ?_) | refine wp_icmp_ge (t := 80) (ck_get kk_Pa_product 10 rfl) (by decide) (fun hc16 => ?_) (fun hc16 => ?_)
    · omega
    · refine wp_aload_n rfl (ck_get kk_Pa_product 11 rfl) ?_
      refine wp_bipush (v := nI 42) (by decide) (ck_get kk_Pa_product 12 rfl) ?_
      refine wp_cV1i (ck_get kk_Pa_product 13 rfl) ml_Pa_91 (by omega) (Nat.le_of_ble_eq_true rfl) (by assumption) (Ci.to (c_isSignN hX0 (by omega) hs0) ?_)
      rintro _ M1 ⟨rfl, eqm1⟩
      obtain rfl := eqm1.symm
      first | refine wp_if_neN (t := 46) (ck_get kk_Pa_product 14 rfl) (by decide) (by omega) (fun hc25 => ?_) (fun hc25 => ?_) | refine wp_if_ne (t := 46) (ck_get kk_Pa_product 14 rfl) (by decide) (fun hc25 => ?_) (fun hc25 => ?_)
      · omega
      · refine wp_aload_n rfl (ck_get kk_Pa_product 15 rfl) ?_
        refine wp_bipush (v := nI 47) (by decide) (ck_get kk_Pa_product 16 rfl) ?_
        refine wp_cV1i (ck_get kk_Pa_product 17 rfl) ml_Pa_91 (by omega) (Nat.le_of_ble_eq_true rfl) (by assumption) (Ci.to (c_isSignY hX0 (by omega) hs1) ?_)
        rintro _ M1 ⟨rfl, eqm1⟩
        obtain rfl := eqm1.symm
        first | refine wp_if_neN (t := 46) (ck_get kk_Pa_product 18 rfl) (by decide) (by omega) (fun hc34 => ?_) (fun hc34 => ?_) | refine wp_if_ne (t := 46) (ck_get kk_Pa_product 18 rfl) (by decide) (fun hc34 => ?_) (fun hc34 => ?_)
        · refine wp_aload_n rfl (ck_get kk_Pa_product 23 rfl) ?_
          refine wp_getIv (v := nI 47) (ck_get kk_Pa_product 24 rfl) fl_Pa_47 (by assumption) (by rw [cS_pa]; exact congrArg nI (tC_val hs1)) ?_
          refine wp_istore_n (ck_get kk_Pa_product 25 rfl) (by decide) rfl ?_
          refine wp_aload_n rfl (ck_get kk_Pa_product 26 rfl) ?_
          refine wp_cV0v (ck_get kk_Pa_product 27 rfl) ml_Pa_68 (by omega) (Nat.le_of_ble_eq_true rfl) (by assumption) (Cv.to (c_advanceT hX0) ?_)
          rintro M₁ rfl
          refine wp_aload_n rfl (ck_get kk_Pa_product 28 rfl) ?_
          refine wp_iload_n rfl (ck_get kk_Pa_product 29 rfl) ?_
          refine wp_cV1i (ck_get kk_Pa_product 30 rfl) ml_Pa_189 (by omega) (Nat.le_of_ble_eq_true rfl) (by assumption) (Ci.to (h1 d (i + 1) lf cl cd hd (by omega) hlf (by omega) (by omega)) ?_)
          rintro x₁ M₁ hq₁
          first | refine wp_if_neN (t := 65) (ck_get kk_Pa_product 31 rfl) (by decide) (by omega) (fun hc60 => ?_) (fun hc60 => ?_) | refine wp_if_ne (t := 65) (ck_get kk_Pa_product 31 rfl) (by decide) (fun hc60 => ?_) (fun hc60 => ?_)
          · obtain ⟨j, lf2, sg, cd2, hr, rfl, hE⟩ := hq₁.t hc60
            obtain ⟨g1, g2, g3, g4, g5⟩ := psr_ok (N := L) (fun i h => tC_N h) f 0 d (i + 1) lf cl j lf2 sg (by omega) hr (by omega) hlf
            rw [show ntk 0 = 1 from rfl] at g1
            rw [show ntx 0 = 0 from rfl] at g4
            refine wp_aload_n rfl (ck_get kk_Pa_product 34 rfl) ?_
            refine wp_getR (ck_get kk_Pa_product 35 rfl) fl_Pa_14 (by assumption) (by assumption) ?_
            refine wp_iload_n rfl (ck_get kk_Pa_product 36 rfl) ?_
            refine wp_iconst (v := nI 0) (by decide) (ck_get kk_Pa_product 37 rfl) ?_
            refine wp_cV2v (ck_get kk_Pa_product 38 rfl) ml_Pa_157 (by omega) (Nat.le_of_ble_eq_true rfl) (by assumption) (Cv.to (c_emit hX0 (by omega)) ?_)
            rintro M₁ rfl
            first | refine wp_iincN (ck_get kk_Pa_product 39 rfl) rfl (by decide) rfl ?_ | refine wp_iinc (ck_get kk_Pa_product 39 rfl) rfl (by decide) rfl ?_
            refine wp_goto (t := 12) (ck_get kk_Pa_product 40 rfl) (by decide) ?_
            refine Wp.mono (h2 d j lf2 (cl + sg.length + 2) _ (q + 1) _ hd g2 g3 (by omega) (by omega) (by omega)) ?_
            rintro r₂ M₂ ⟨x₂, hr₂, hq₂⟩
            refine ⟨x₂, hr₂, ?_⟩
            rw [hr, pbd_y, hop]
            have e1 : cl + (sg ++ [nI 47, nI 0]).length = cl + sg.length + 2 := by rw [List.length_append, ← Nat.add_assoc]; rfl
            rw [e1]
            exact pOK.bd (hE.app rfl Ext.two) e1.symm hq₂
          · refine wp_iconst (v := nI 0) (by decide) (ck_get kk_Pa_product 32 rfl) ?_
            refine wp_ireturn (ck_get kk_Pa_product 33 rfl) rfl rfl ⟨_, rfl, ?_⟩
            exact hq₁.no hc60
        · omega
  by_cases hs2 : tC bt L i = 100 + 37
  · have hiL := tC_N (bt := bt) (L := L) (i := i) (by omega)
    rw [if_pos (by omega)]
    have hop : tC bt L i - 100 = 37 := by omega
    refine wp_iload_n rfl (ck_get kk_Pa_product 8 rfl) ?_
    refine wp_sipush (v := nI 400) (by decide) (ck_get kk_Pa_product 9 rfl) ?_
    first | refine wp_icmp_geN (t := 80) (ck_get kk_Pa_product 10 rfl) (by decide) (by omega) (by omega) (fun hc16 => ?_) (fun hc16 => ?_) | refine wp_icmp_ge (t := 80) (ck_get kk_Pa_product 10 rfl) (by decide) (fun hc16 => ?_) (fun hc16 => ?_)
    · omega
    · refine wp_aload_n rfl (ck_get kk_Pa_product 11 rfl) ?_
      refine wp_bipush (v := nI 42) (by decide) (ck_get kk_Pa_product 12 rfl) ?_
      refine wp_cV1i (ck_get kk_Pa_product 13 rfl) ml_Pa_91 (by omega) (Nat.le_of_ble_eq_true rfl) (by assumption) (Ci.to (c_isSignN hX0 (by omega) hs0) ?_)
      rintro _ M1 ⟨rfl, eqm1⟩
      obtain rfl := eqm1.symm
      first | refine wp_if_neN (t := 46) (ck_get kk_Pa_product 14 rfl) (by decide) (by omega) (fun hc25 => ?_) (fun hc25 => ?_) | refine wp_if_ne (t := 46) (ck_get kk_Pa_product 14 rfl) (by decide) (fun hc25 => ?_) (fun hc25 => ?_)
      · omega
      · refine wp_aload_n rfl (ck_get kk_Pa_product 15 rfl) ?_
        refine wp_bipush (v := nI 47) (by decide) (ck_get kk_Pa_product 16 rfl) ?_
        refine wp_cV1i (ck_get kk_Pa_product 17 rfl) ml_Pa_91 (by omega) (Nat.le_of_ble_eq_true rfl) (by assumption) (Ci.to (c_isSignN hX0 (by omega) hs1) ?_)
        rintro _ M1 ⟨rfl, eqm1⟩
        obtain rfl := eqm1.symm
        first | refine wp_if_neN (t := 46) (ck_get kk_Pa_product 18 rfl) (by decide) (by omega) (fun hc34 => ?_) (fun hc34 => ?_) | refine wp_if_ne (t := 46) (ck_get kk_Pa_product 18 rfl) (by decide) (fun hc34 => ?_) (fun hc34 => ?_)
        · omega
        · refine wp_aload_n rfl (ck_get kk_Pa_product 19 rfl) ?_
          refine wp_bipush (v := nI 37) (by decide) (ck_get kk_Pa_product 20 rfl) ?_
          refine wp_cV1i (ck_get kk_Pa_product 21 rfl) ml_Pa_91 (by omega) (Nat.le_of_ble_eq_true rfl) (by assumption) (Ci.to (c_isSignY hX0 (by omega) hs2) ?_)
          rintro _ M1 ⟨rfl, eqm1⟩
          obtain rfl := eqm1.symm
          first | refine wp_if_eqN (t := 80) (ck_get kk_Pa_product 22 rfl) (by decide) (by omega) (fun hc43 => ?_) (fun hc43 => ?_) | refine wp_if_eq (t := 80) (ck_get kk_Pa_product 22 rfl) (by decide) (fun hc43 => ?_) (fun hc43 => ?_)
          · omega
          · refine wp_aload_n rfl (ck_get kk_Pa_product 23 rfl) ?_
            refine wp_getIv (v := nI 37) (ck_get kk_Pa_product 24 rfl) fl_Pa_47 (by assumption) (by rw [cS_pa]; exact congrArg nI (tC_val hs2)) ?_
            refine wp_istore_n (ck_get kk_Pa_product 25 rfl) (by decide) rfl ?_
            refine wp_aload_n rfl (ck_get kk_Pa_product 26 rfl) ?_
            refine wp_cV0v (ck_get kk_Pa_product 27 rfl) ml_Pa_68 (by omega) (Nat.le_of_ble_eq_true rfl) (by assumption) (Cv.to (c_advanceT hX0) ?_)
            rintro M₁ rfl
            refine wp_aload_n rfl (ck_get kk_Pa_product 28 rfl) ?_
            refine wp_iload_n rfl (ck_get kk_Pa_product 29 rfl) ?_
            refine wp_cV1i (ck_get kk_Pa_product 30 rfl) ml_Pa_189 (by omega) (Nat.le_of_ble_eq_true rfl) (by assumption) (Ci.to (h1 d (i + 1) lf cl cd hd (by omega) hlf (by omega) (by omega)) ?_)
            rintro x₁ M₁ hq₁
            first | refine wp_if_neN (t := 65) (ck_get kk_Pa_product 31 rfl) (by decide) (by omega) (fun hc60 => ?_) (fun hc60 => ?_) | refine wp_if_ne (t := 65) (ck_get kk_Pa_product 31 rfl) (by decide) (fun hc60 => ?_) (fun hc60 => ?_)
            · obtain ⟨j, lf2, sg, cd2, hr, rfl, hE⟩ := hq₁.t hc60
              obtain ⟨g1, g2, g3, g4, g5⟩ := psr_ok (N := L) (fun i h => tC_N h) f 0 d (i + 1) lf cl j lf2 sg (by omega) hr (by omega) hlf
              rw [show ntk 0 = 1 from rfl] at g1
              rw [show ntx 0 = 0 from rfl] at g4
              refine wp_aload_n rfl (ck_get kk_Pa_product 34 rfl) ?_
              refine wp_getR (ck_get kk_Pa_product 35 rfl) fl_Pa_14 (by assumption) (by assumption) ?_
              refine wp_iload_n rfl (ck_get kk_Pa_product 36 rfl) ?_
              refine wp_iconst (v := nI 0) (by decide) (ck_get kk_Pa_product 37 rfl) ?_
              refine wp_cV2v (ck_get kk_Pa_product 38 rfl) ml_Pa_157 (by omega) (Nat.le_of_ble_eq_true rfl) (by assumption) (Cv.to (c_emit hX0 (by omega)) ?_)
              rintro M₁ rfl
              first | refine wp_iincN (ck_get kk_Pa_product 39 rfl) rfl (by decide) rfl ?_ | refine wp_iinc (ck_get kk_Pa_product 39 rfl) rfl (by decide) rfl ?_
              refine wp_goto (t := 12) (ck_get kk_Pa_product 40 rfl) (by decide) ?_
              refine Wp.mono (h2 d j lf2 (cl + sg.length + 2) _ (q + 1) _ hd g2 g3 (by omega) (by omega) (by omega)) ?_
              rintro r₂ M₂ ⟨x₂, hr₂, hq₂⟩
              refine ⟨x₂, hr₂, ?_⟩
              rw [hr, pbd_y, hop]
              have e1 : cl + (sg ++ [nI 37, nI 0]).length = cl + sg.length + 2 := by rw [List.length_append, ← Nat.add_assoc]; rfl
              rw [e1]
              exact pOK.bd (hE.app rfl Ext.two) e1.symm hq₂
            · refine wp_iconst (v := nI 0) (by decide) (ck_get kk_Pa_product 32 rfl) ?_
              refine wp_ireturn (ck_get kk_Pa_product 33 rfl) rfl rfl ⟨_, rfl, ?_⟩
              exact hq₁.no hc60
  rw [if_neg (by omega)]
  refine wp_iload_n rfl (ck_get kk_Pa_product 8 rfl) ?_
  refine wp_sipush (v := nI 400) (by decide) (ck_get kk_Pa_product 9 rfl) ?_
  first | refine wp_icmp_geN (t := 80) (ck_get kk_Pa_product 10 rfl) (by decide) (by omega) (by omega) (fun hc16 => ?_) (fun hc16 => ?_) | refine wp_icmp_ge (t := 80) (ck_get kk_Pa_product 10 rfl) (by decide) (fun hc16 => ?_) (fun hc16 => ?_)
  · refine wp_iconst (v := nI 1) (by decide) (ck_get kk_Pa_product 41 rfl) ?_
    refine wp_ireturn (ck_get kk_Pa_product 42 rfl) rfl rfl ⟨_, rfl, ?_⟩
    exact pOK.yes Ext.nil
  · refine wp_aload_n rfl (ck_get kk_Pa_product 11 rfl) ?_
    refine wp_bipush (v := nI 42) (by decide) (ck_get kk_Pa_product 12 rfl) ?_
    refine wp_cV1i (ck_get kk_Pa_product 13 rfl) ml_Pa_91 (by omega) (Nat.le_of_ble_eq_true rfl) (by assumption) (Ci.to (c_isSignN hX0 (by omega) hs0) ?_)
    rintro _ M1 ⟨rfl, eqm1⟩
    obtain rfl := eqm1.symm
    first | refine wp_if_neN (t := 46) (ck_get kk_Pa_product 14 rfl) (by decide) (by omega) (fun hc25 => ?_) (fun hc25 => ?_) | refine wp_if_ne (t := 46) (ck_get kk_Pa_product 14 rfl) (by decide) (fun hc25 => ?_) (fun hc25 => ?_)
    · omega
    · refine wp_aload_n rfl (ck_get kk_Pa_product 15 rfl) ?_
      refine wp_bipush (v := nI 47) (by decide) (ck_get kk_Pa_product 16 rfl) ?_
      refine wp_cV1i (ck_get kk_Pa_product 17 rfl) ml_Pa_91 (by omega) (Nat.le_of_ble_eq_true rfl) (by assumption) (Ci.to (c_isSignN hX0 (by omega) hs1) ?_)
      rintro _ M1 ⟨rfl, eqm1⟩
      obtain rfl := eqm1.symm
      first | refine wp_if_neN (t := 46) (ck_get kk_Pa_product 18 rfl) (by decide) (by omega) (fun hc34 => ?_) (fun hc34 => ?_) | refine wp_if_ne (t := 46) (ck_get kk_Pa_product 18 rfl) (by decide) (fun hc34 => ?_) (fun hc34 => ?_)
      · omega
      · refine wp_aload_n rfl (ck_get kk_Pa_product 19 rfl) ?_
        refine wp_bipush (v := nI 37) (by decide) (ck_get kk_Pa_product 20 rfl) ?_
        refine wp_cV1i (ck_get kk_Pa_product 21 rfl) ml_Pa_91 (by omega) (Nat.le_of_ble_eq_true rfl) (by assumption) (Ci.to (c_isSignN hX0 (by omega) hs2) ?_)
        rintro _ M1 ⟨rfl, eqm1⟩
        obtain rfl := eqm1.symm
        first | refine wp_if_eqN (t := 80) (ck_get kk_Pa_product 22 rfl) (by decide) (by omega) (fun hc43 => ?_) (fun hc43 => ?_) | refine wp_if_eq (t := 80) (ck_get kk_Pa_product 22 rfl) (by decide) (fun hc43 => ?_) (fun hc43 => ?_)
        · refine wp_iconst (v := nI 1) (by decide) (ck_get kk_Pa_product 41 rfl) ?_
          refine wp_ireturn (ck_get kk_Pa_product 42 rfl) rfl rfl ⟨_, rfl, ?_⟩
          exact pOK.yes Ext.nil
        · omega
theorem pa_prod (hS : OutOK g) (hX : TxOK M pa tp L bt) (h1 : SN g M pa L bt od Y_Pa_part 7 0 1 f) (h2 : SR g M pa L bt od Y_Pa_product 8 1 f) : SN g M pa L bt od Y_Pa_product 8 2 2 (f + 1) := by
  intro d i lf cl cd hd hi hlf hcl hf
  refine cw_entry 2 pf_Pa_product rfl ?_
  have hX0 := hX
  obtain ⟨⟨t0, r0, hPr, r2, t2, htp⟩, h3, hL, hbt, hb2⟩ := hX
  have p0 := hPr.1
  have hS1 := hS.1
  rw [psr_2]
  refine wp_aload_n rfl (ck_get kk_Pa_product 0 rfl) ?_
  refine wp_iload_n rfl (ck_get kk_Pa_product 1 rfl) ?_
  refine wp_cV1i (ck_get kk_Pa_product 2 rfl) ml_Pa_189 (by omega) (Nat.le_of_ble_eq_true rfl) (by assumption) (Ci.to (h1 d i lf cl cd hd hi hlf hcl (by omega)) ?_)
  rintro x₁ M₁ hq₁
  first | refine wp_if_neN (t := 10) (ck_get kk_Pa_product 3 rfl) (by decide) (by omega) (fun hc5 => ?_) (fun hc5 => ?_) | refine wp_if_ne (t := 10) (ck_get kk_Pa_product 3 rfl) (by decide) (fun hc5 => ?_) (fun hc5 => ?_)
  · obtain ⟨j, lf2, sg, cd2, hr, rfl, hE⟩ := hq₁.t hc5
    obtain ⟨g1, g2, g3, g4, g5⟩ := psr_ok (N := L) (fun i h => tC_N h) f 0 d i lf cl j lf2 sg (by omega) hr hi hlf
    rw [show ntk 0 = 1 from rfl] at g1
    rw [show ntx 0 = 0 from rfl] at g4
    refine wp_iconst (v := nI 0) (by decide) (ck_get kk_Pa_product 6 rfl) ?_
    refine wp_istore_n (ck_get kk_Pa_product 7 rfl) (by decide) rfl ?_
    refine Wp.mono (h2 d j lf2 (cl + sg.length) cd2 0 _ hd g2 g3 (by omega) (by omega) (by omega)) ?_
    rintro r₂ M₂ ⟨x₂, hr₂, hq₂⟩
    refine ⟨x₂, hr₂, ?_⟩
    rw [hr, pbd_y]
    exact pOK.bd hE rfl hq₂
  · refine wp_iconst (v := nI 0) (by decide) (ck_get kk_Pa_product 4 rfl) ?_
    refine wp_ireturn (ck_get kk_Pa_product 5 rfl) rfl rfl ⟨_, rfl, ?_⟩
    exact hq₁.no hc5
theorem pa_sumR (hS : OutOK g) (hX : TxOK M pa tp L bt) (h1 : SN g M pa L bt od Y_Pa_product 8 2 2 f) (h2 : SR g M pa L bt od Y_Pa_sum 9 3 f) : SR g M pa L bt od Y_Pa_sum 9 3 (f + 1) := by
  intro d i lf cl cd q x3 hd hi hlf hcl hq hf
  have hX0 := hX
  obtain ⟨⟨t0, r0, hPr, r2, t2, htp⟩, h3, hL, hbt, hb2⟩ := hX
  have p0 := hPr.1
  have hS1 := hS.1
  rw [psr_3]
  by_cases hs0 : tC bt L i = 100 + 43
  · have hiL := tC_N (bt := bt) (L := L) (i := i) (by omega)
    rw [if_pos (by omega)]
    have hop : tC bt L i - 100 = 43 := by omega
    refine wp_iload_n rfl (ck_get kk_Pa_sum 8 rfl) ?_
    refine wp_sipush (v := nI 400) (by decide) (ck_get kk_Pa_sum 9 rfl) ?_
    first | refine wp_icmp_geN (t := 71) (ck_get kk_Pa_sum 10 rfl) (by decide) (by omega) (by omega) (fun hc16 => ?_) (fun hc16 => ?_) | refine wp_icmp_ge (t := 71) (ck_get kk_Pa_sum 10 rfl) (by decide) (fun hc16 => ?_) (fun hc16 => ?_)
    · omega
    · refine wp_aload_n rfl (ck_get kk_Pa_sum 11 rfl) ?_
      refine wp_bipush (v := nI 43) (by decide) (ck_get kk_Pa_sum 12 rfl) ?_
      refine wp_cV1i (ck_get kk_Pa_sum 13 rfl) ml_Pa_91 (by omega) (Nat.le_of_ble_eq_true rfl) (by assumption) (Ci.to (c_isSignY hX0 (by omega) hs0) ?_)
      rintro _ M1 ⟨rfl, eqm1⟩
      obtain rfl := eqm1.symm
      first | refine wp_if_neN (t := 37) (ck_get kk_Pa_sum 14 rfl) (by decide) (by omega) (fun hc25 => ?_) (fun hc25 => ?_) | refine wp_if_ne (t := 37) (ck_get kk_Pa_sum 14 rfl) (by decide) (fun hc25 => ?_) (fun hc25 => ?_)
      · refine wp_aload_n rfl (ck_get kk_Pa_sum 19 rfl) ?_
        refine wp_getIv (v := nI 43) (ck_get kk_Pa_sum 20 rfl) fl_Pa_47 (by assumption) (by rw [cS_pa]; exact congrArg nI (tC_val hs0)) ?_
        refine wp_istore_n (ck_get kk_Pa_sum 21 rfl) (by decide) rfl ?_
        refine wp_aload_n rfl (ck_get kk_Pa_sum 22 rfl) ?_
        refine wp_cV0v (ck_get kk_Pa_sum 23 rfl) ml_Pa_68 (by omega) (Nat.le_of_ble_eq_true rfl) (by assumption) (Cv.to (c_advanceT hX0) ?_)
        rintro M₁ rfl
        refine wp_aload_n rfl (ck_get kk_Pa_sum 24 rfl) ?_
        refine wp_iload_n rfl (ck_get kk_Pa_sum 25 rfl) ?_
        refine wp_cV1i (ck_get kk_Pa_sum 26 rfl) ml_Pa_186 (by omega) (Nat.le_of_ble_eq_true rfl) (by assumption) (Ci.to (h1 d (i + 1) lf cl cd hd (by omega) hlf (by omega) (by omega)) ?_)
        rintro x₁ M₁ hq₁
        first | refine wp_if_neN (t := 56) (ck_get kk_Pa_sum 27 rfl) (by decide) (by omega) (fun hc51 => ?_) (fun hc51 => ?_) | refine wp_if_ne (t := 56) (ck_get kk_Pa_sum 27 rfl) (by decide) (fun hc51 => ?_) (fun hc51 => ?_)
        · obtain ⟨j, lf2, sg, cd2, hr, rfl, hE⟩ := hq₁.t hc51
          obtain ⟨g1, g2, g3, g4, g5⟩ := psr_ok (N := L) (fun i h => tC_N h) f 2 d (i + 1) lf cl j lf2 sg (by omega) hr (by omega) hlf
          rw [show ntk 2 = 1 from rfl] at g1
          rw [show ntx 2 = 0 from rfl] at g4
          refine wp_aload_n rfl (ck_get kk_Pa_sum 30 rfl) ?_
          refine wp_getR (ck_get kk_Pa_sum 31 rfl) fl_Pa_14 (by assumption) (by assumption) ?_
          refine wp_iload_n rfl (ck_get kk_Pa_sum 32 rfl) ?_
          refine wp_iconst (v := nI 0) (by decide) (ck_get kk_Pa_sum 33 rfl) ?_
          refine wp_cV2v (ck_get kk_Pa_sum 34 rfl) ml_Pa_157 (by omega) (Nat.le_of_ble_eq_true rfl) (by assumption) (Cv.to (c_emit hX0 (by omega)) ?_)
          rintro M₁ rfl
          first | refine wp_iincN (ck_get kk_Pa_sum 35 rfl) rfl (by decide) rfl ?_ | refine wp_iinc (ck_get kk_Pa_sum 35 rfl) rfl (by decide) rfl ?_
          refine wp_goto (t := 12) (ck_get kk_Pa_sum 36 rfl) (by decide) ?_
          refine Wp.mono (h2 d j lf2 (cl + sg.length + 2) _ (q + 1) _ hd g2 g3 (by omega) (by omega) (by omega)) ?_
          rintro r₂ M₂ ⟨x₂, hr₂, hq₂⟩
          refine ⟨x₂, hr₂, ?_⟩
          rw [hr, pbd_y, hop]
          have e1 : cl + (sg ++ [nI 43, nI 0]).length = cl + sg.length + 2 := by rw [List.length_append, ← Nat.add_assoc]; rfl
          rw [e1]
          exact pOK.bd (hE.app rfl Ext.two) e1.symm hq₂
        · refine wp_iconst (v := nI 0) (by decide) (ck_get kk_Pa_sum 28 rfl) ?_
          refine wp_ireturn (ck_get kk_Pa_sum 29 rfl) rfl rfl ⟨_, rfl, ?_⟩
          exact hq₁.no hc51
      · omega
  by_cases hs1 : tC bt L i = 100 + 45
  · have hiL := tC_N (bt := bt) (L := L) (i := i) (by omega)
    rw [if_pos (by omega)]
    have hop : tC bt L i - 100 = 45 := by omega
    refine wp_iload_n rfl (ck_get kk_Pa_sum 8 rfl) ?_
    refine wp_sipush (v := nI 400) (by decide) (ck_get kk_Pa_sum 9 rfl) ?_
    first | refine wp_icmp_geN (t := 71) (ck_get kk_Pa_sum 10 rfl) (by decide) (by omega) (by omega) (fun hc16 => ?_) (fun hc16 => ?_) | refine wp_icmp_ge (t := 71) (ck_get kk_Pa_sum 10 rfl) (by decide) (fun hc16 => ?_) (fun hc16 => ?_)
    · omega
    · refine wp_aload_n rfl (ck_get kk_Pa_sum 11 rfl) ?_
      refine wp_bipush (v := nI 43) (by decide) (ck_get kk_Pa_sum 12 rfl) ?_
      refine wp_cV1i (ck_get kk_Pa_sum 13 rfl) ml_Pa_91 (by omega) (Nat.le_of_ble_eq_true rfl) (by assumption) (Ci.to (c_isSignN hX0 (by omega) hs0) ?_)
      rintro _ M1 ⟨rfl, eqm1⟩
      obtain rfl := eqm1.symm
      first | refine wp_if_neN (t := 37) (ck_get kk_Pa_sum 14 rfl) (by decide) (by omega) (fun hc25 => ?_) (fun hc25 => ?_) | refine wp_if_ne (t := 37) (ck_get kk_Pa_sum 14 rfl) (by decide) (fun hc25 => ?_) (fun hc25 => ?_)
      · omega
      · refine wp_aload_n rfl (ck_get kk_Pa_sum 15 rfl) ?_
        refine wp_bipush (v := nI 45) (by decide) (ck_get kk_Pa_sum 16 rfl) ?_
        refine wp_cV1i (ck_get kk_Pa_sum 17 rfl) ml_Pa_91 (by omega) (Nat.le_of_ble_eq_true rfl) (by assumption) (Ci.to (c_isSignY hX0 (by omega) hs1) ?_)
        rintro _ M1 ⟨rfl, eqm1⟩
        obtain rfl := eqm1.symm
        first | refine wp_if_eqN (t := 71) (ck_get kk_Pa_sum 18 rfl) (by decide) (by omega) (fun hc34 => ?_) (fun hc34 => ?_) | refine wp_if_eq (t := 71) (ck_get kk_Pa_sum 18 rfl) (by decide) (fun hc34 => ?_) (fun hc34 => ?_)
        · omega
        · refine wp_aload_n rfl (ck_get kk_Pa_sum 19 rfl) ?_
          refine wp_getIv (v := nI 45) (ck_get kk_Pa_sum 20 rfl) fl_Pa_47 (by assumption) (by rw [cS_pa]; exact congrArg nI (tC_val hs1)) ?_
          refine wp_istore_n (ck_get kk_Pa_sum 21 rfl) (by decide) rfl ?_
          refine wp_aload_n rfl (ck_get kk_Pa_sum 22 rfl) ?_
          refine wp_cV0v (ck_get kk_Pa_sum 23 rfl) ml_Pa_68 (by omega) (Nat.le_of_ble_eq_true rfl) (by assumption) (Cv.to (c_advanceT hX0) ?_)
          rintro M₁ rfl
          refine wp_aload_n rfl (ck_get kk_Pa_sum 24 rfl) ?_
          refine wp_iload_n rfl (ck_get kk_Pa_sum 25 rfl) ?_
          refine wp_cV1i (ck_get kk_Pa_sum 26 rfl) ml_Pa_186 (by omega) (Nat.le_of_ble_eq_true rfl) (by assumption) (Ci.to (h1 d (i + 1) lf cl cd hd (by omega) hlf (by omega) (by omega)) ?_)
          rintro x₁ M₁ hq₁
          first | refine wp_if_neN (t := 56) (ck_get kk_Pa_sum 27 rfl) (by decide) (by omega) (fun hc51 => ?_) (fun hc51 => ?_) | refine wp_if_ne (t := 56) (ck_get kk_Pa_sum 27 rfl) (by decide) (fun hc51 => ?_) (fun hc51 => ?_)
          · obtain ⟨j, lf2, sg, cd2, hr, rfl, hE⟩ := hq₁.t hc51
            obtain ⟨g1, g2, g3, g4, g5⟩ := psr_ok (N := L) (fun i h => tC_N h) f 2 d (i + 1) lf cl j lf2 sg (by omega) hr (by omega) hlf
            rw [show ntk 2 = 1 from rfl] at g1
            rw [show ntx 2 = 0 from rfl] at g4
            refine wp_aload_n rfl (ck_get kk_Pa_sum 30 rfl) ?_
            refine wp_getR (ck_get kk_Pa_sum 31 rfl) fl_Pa_14 (by assumption) (by assumption) ?_
            refine wp_iload_n rfl (ck_get kk_Pa_sum 32 rfl) ?_
            refine wp_iconst (v := nI 0) (by decide) (ck_get kk_Pa_sum 33 rfl) ?_
            refine wp_cV2v (ck_get kk_Pa_sum 34 rfl) ml_Pa_157 (by omega) (Nat.le_of_ble_eq_true rfl) (by assumption) (Cv.to (c_emit hX0 (by omega)) ?_)
            rintro M₁ rfl
            first | refine wp_iincN (ck_get kk_Pa_sum 35 rfl) rfl (by decide) rfl ?_ | refine wp_iinc (ck_get kk_Pa_sum 35 rfl) rfl (by decide) rfl ?_
            refine wp_goto (t := 12) (ck_get kk_Pa_sum 36 rfl) (by decide) ?_
            refine Wp.mono (h2 d j lf2 (cl + sg.length + 2) _ (q + 1) _ hd g2 g3 (by omega) (by omega) (by omega)) ?_
            rintro r₂ M₂ ⟨x₂, hr₂, hq₂⟩
            refine ⟨x₂, hr₂, ?_⟩
            rw [hr, pbd_y, hop]
            have e1 : cl + (sg ++ [nI 45, nI 0]).length = cl + sg.length + 2 := by rw [List.length_append, ← Nat.add_assoc]; rfl
            rw [e1]
            exact pOK.bd (hE.app rfl Ext.two) e1.symm hq₂
          · refine wp_iconst (v := nI 0) (by decide) (ck_get kk_Pa_sum 28 rfl) ?_
            refine wp_ireturn (ck_get kk_Pa_sum 29 rfl) rfl rfl ⟨_, rfl, ?_⟩
            exact hq₁.no hc51
  rw [if_neg (by omega)]
  refine wp_iload_n rfl (ck_get kk_Pa_sum 8 rfl) ?_
  refine wp_sipush (v := nI 400) (by decide) (ck_get kk_Pa_sum 9 rfl) ?_
  first | refine wp_icmp_geN (t := 71) (ck_get kk_Pa_sum 10 rfl) (by decide) (by omega) (by omega) (fun hc16 => ?_) (fun hc16 => ?_) | refine wp_icmp_ge (t := 71) (ck_get kk_Pa_sum 10 rfl) (by decide) (fun hc16 => ?_) (fun hc16 => ?_)
  · refine wp_iconst (v := nI 1) (by decide) (ck_get kk_Pa_sum 37 rfl) ?_
    refine wp_ireturn (ck_get kk_Pa_sum 38 rfl) rfl rfl ⟨_, rfl, ?_⟩
    exact pOK.yes Ext.nil
  · refine wp_aload_n rfl (ck_get kk_Pa_sum 11 rfl) ?_
    refine wp_bipush (v := nI 43) (by decide) (ck_get kk_Pa_sum 12 rfl) ?_
    refine wp_cV1i (ck_get kk_Pa_sum 13 rfl) ml_Pa_91 (by omega) (Nat.le_of_ble_eq_true rfl) (by assumption) (Ci.to (c_isSignN hX0 (by omega) hs0) ?_)
    rintro _ M1 ⟨rfl, eqm1⟩
    obtain rfl := eqm1.symm
    first | refine wp_if_neN (t := 37) (ck_get kk_Pa_sum 14 rfl) (by decide) (by omega) (fun hc25 => ?_) (fun hc25 => ?_) | refine wp_if_ne (t := 37) (ck_get kk_Pa_sum 14 rfl) (by decide) (fun hc25 => ?_) (fun hc25 => ?_)
    · omega
    · refine wp_aload_n rfl (ck_get kk_Pa_sum 15 rfl) ?_
      refine wp_bipush (v := nI 45) (by decide) (ck_get kk_Pa_sum 16 rfl) ?_
      refine wp_cV1i (ck_get kk_Pa_sum 17 rfl) ml_Pa_91 (by omega) (Nat.le_of_ble_eq_true rfl) (by assumption) (Ci.to (c_isSignN hX0 (by omega) hs1) ?_)
      rintro _ M1 ⟨rfl, eqm1⟩
      obtain rfl := eqm1.symm
      first | refine wp_if_eqN (t := 71) (ck_get kk_Pa_sum 18 rfl) (by decide) (by omega) (fun hc34 => ?_) (fun hc34 => ?_) | refine wp_if_eq (t := 71) (ck_get kk_Pa_sum 18 rfl) (by decide) (fun hc34 => ?_) (fun hc34 => ?_)
      · refine wp_iconst (v := nI 1) (by decide) (ck_get kk_Pa_sum 37 rfl) ?_
        refine wp_ireturn (ck_get kk_Pa_sum 38 rfl) rfl rfl ⟨_, rfl, ?_⟩
        exact pOK.yes Ext.nil
      · omega
theorem pa_sum (hS : OutOK g) (hX : TxOK M pa tp L bt) (h1 : SN g M pa L bt od Y_Pa_product 8 2 2 f) (h2 : SR g M pa L bt od Y_Pa_sum 9 3 f) : SN g M pa L bt od Y_Pa_sum 9 4 3 (f + 1) := by
  intro d i lf cl cd hd hi hlf hcl hf
  refine cw_entry 2 pf_Pa_sum rfl ?_
  have hX0 := hX
  obtain ⟨⟨t0, r0, hPr, r2, t2, htp⟩, h3, hL, hbt, hb2⟩ := hX
  have p0 := hPr.1
  have hS1 := hS.1
  rw [psr_4]
  refine wp_aload_n rfl (ck_get kk_Pa_sum 0 rfl) ?_
  refine wp_iload_n rfl (ck_get kk_Pa_sum 1 rfl) ?_
  refine wp_cV1i (ck_get kk_Pa_sum 2 rfl) ml_Pa_186 (by omega) (Nat.le_of_ble_eq_true rfl) (by assumption) (Ci.to (h1 d i lf cl cd hd hi hlf hcl (by omega)) ?_)
  rintro x₁ M₁ hq₁
  first | refine wp_if_neN (t := 10) (ck_get kk_Pa_sum 3 rfl) (by decide) (by omega) (fun hc5 => ?_) (fun hc5 => ?_) | refine wp_if_ne (t := 10) (ck_get kk_Pa_sum 3 rfl) (by decide) (fun hc5 => ?_) (fun hc5 => ?_)
  · obtain ⟨j, lf2, sg, cd2, hr, rfl, hE⟩ := hq₁.t hc5
    obtain ⟨g1, g2, g3, g4, g5⟩ := psr_ok (N := L) (fun i h => tC_N h) f 2 d i lf cl j lf2 sg (by omega) hr hi hlf
    rw [show ntk 2 = 1 from rfl] at g1
    rw [show ntx 2 = 0 from rfl] at g4
    refine wp_iconst (v := nI 0) (by decide) (ck_get kk_Pa_sum 6 rfl) ?_
    refine wp_istore_n (ck_get kk_Pa_sum 7 rfl) (by decide) rfl ?_
    refine Wp.mono (h2 d j lf2 (cl + sg.length) cd2 0 _ hd g2 g3 (by omega) (by omega) (by omega)) ?_
    rintro r₂ M₂ ⟨x₂, hr₂, hq₂⟩
    refine ⟨x₂, hr₂, ?_⟩
    rw [hr, pbd_y]
    exact pOK.bd hE rfl hq₂
  · refine wp_iconst (v := nI 0) (by decide) (ck_get kk_Pa_sum 4 rfl) ?_
    refine wp_ireturn (ck_get kk_Pa_sum 5 rfl) rfl rfl ⟨_, rfl, ?_⟩
    exact hq₁.no hc5
end PD

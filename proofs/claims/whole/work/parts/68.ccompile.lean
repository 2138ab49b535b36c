/-! ===== MissCurves$Parser: orders' heads, whole texts ===== -/
section PH
variable {g : Gl} {M : Mem} {pa tp L : Nat} {bt : Nat → Nat} {od : Bool} {f : Nat}
theorem EnU.en {I I2 I3 : Nat → Nat → Int32} {pa n : Nat} (h : EnU I I3 pa n) (h2 : EnU I I2 pa n) : EnU I2 I3 pa n := ⟨fun x hx => (h.1 x hx).trans (h2.1 x hx).symm, fun x m hm => (h.2 x m hm).trans (h2.2 x m hm).symm⟩
theorem psq_y {j l : Nat} {sg : List Int32} {k : Nat → Nat → Nat → PRes} : psq (true, j, l, sg) k = pbd (k j l sg.length) (fun j2 l2 sg2 => (true, j2, l2, sg ++ sg2)) := rfl
/-- behind what was read: "by", the tenant, how often -/
theorem l_oh142 (hS : OutOK g) (hX : TxOK M pa tp L bt) (hod : mI M pa 4 = bI od) (hf : 12 * L + 6 ≤ f) {i lf cl n : Nat} {cd : Nat → Int32} {I1 : Nat → Nat → Int32} {x2 : Option Value} (hI : EnU (mI M) I1 pa n) (hn : n < 12) (hi : i ≤ L) (hlf : lf ≤ 50) (hcl : cl ≤ 2 * i) : Wp g Y_Pa_orderHead 210 142 [some (.ref pa), some (.int (nI n)), x2] [] (cTk (mk2 M I1 (mJ M)) pa L bt (tS bt L i) lf cl cd) (fun r M2 => ∃ x, r = some (.int x) ∧ hdQ M pa L bt n cl cd I1 (pBy (tC bt L) (tV bt L) od f i lf cl) (fun e j lf2 sg => ByS (tC bt L) (tV bt L) od f e i lf cl j lf2 sg ∧ e 1 = I1 (pa + 2) n ∧ e 4 = I1 (pa + 5) n ∧ e 5 = I1 (pa + 6) n) x M2) := by
  have hX1 := hX.en hI
  have hS1 := hS.1
  have hX0 := hX
  obtain ⟨⟨t0, r0, hPr, r2, t2, htp⟩, h3, hL, hbt, hb2⟩ := hX
  have p0 := hPr.1
  have rk6 := hPr.2.1 6 (by omega) (by omega)
  unfold pBy
  by_cases h0 : tC bt L i = 17 + 1
  · have hiL := tC_N (bt := bt) (L := L) (i := i) (by omega)
    rw [if_pos h0]
    refine wp_aload_n rfl (ck_get kk_Pa_orderHead 75 rfl) ?_
    refine wp_ldcs (i := 17) hS1 (by decide) rfl rfl (ck_get kk_Pa_orderHead 76 rfl) ?_
    refine wp_cV1i (ck_get kk_Pa_orderHead 77 rfl) ml_Pa_56 (by omega) (Nat.le_of_ble_eq_true rfl) (by assumption) (Ci.to (c_isWordY hS hX1 (by decide) h0) ?_)
    rintro _ M1 ⟨rfl, eqm1⟩
    obtain rfl := eqm1.symm
    first | refine wp_if_neN (t := 156) (ck_get kk_Pa_orderHead 78 rfl) (by decide) (by omega) (fun hc148 => ?_) (fun hc148 => ?_) | refine wp_if_ne (t := 156) (ck_get kk_Pa_orderHead 78 rfl) (by decide) (fun hc148 => ?_) (fun hc148 => ?_)
    · refine wp_aload_n rfl (ck_get kk_Pa_orderHead 82 rfl) ?_
      refine wp_aload_n rfl (ck_get kk_Pa_orderHead 83 rfl) ?_
      refine wp_getR (ck_get kk_Pa_orderHead 84 rfl) fl_Pa_14 (by assumption) (by assumption) ?_
      refine wp_getR (ck_get kk_Pa_orderHead 85 rfl) fl_Pa_144 (by assumption) (by assumption) ?_
      refine wp_iload_n rfl (ck_get kk_Pa_orderHead 86 rfl) ?_
      refine wp_cV2i (ck_get kk_Pa_orderHead 87 rfl) ml_Pa_123 (by omega) (Nat.le_of_ble_eq_true rfl) (by assumption) (Ci.to (c_sumBehind hS hX0 hod hf (k := 6) hI (by omega) (by omega) hn hiL hlf hcl) ?_)
      rintro x₁ M₁ hq₁
      first | refine wp_if_eqN (t := 183) (ck_get kk_Pa_orderHead 88 rfl) (by decide) (by omega) (fun hc168 => ?_) (fun hc168 => ?_) | refine wp_if_eq (t := 183) (ck_get kk_Pa_orderHead 88 rfl) (by decide) (fun hc168 => ?_) (fun hc168 => ?_)
      · refine wp_iconst (v := nI 0) (by decide) (ck_get kk_Pa_orderHead 95 rfl) ?_
        refine wp_ireturn (ck_get kk_Pa_orderHead 96 rfl) rfl rfl ⟨_, rfl, ?_⟩
        refine ⟨_, EnU.refl.set (by omega) (by omega), hq₁.no hc168, ?_⟩
        intro j lf2 sg hr
        obtain ⟨j1, l1, s1, e1, h1⟩ := pbd_t hr
        obtain ⟨_, _, _, _, _, _, q, -⟩ := hq₁.f hc168
        rw [e1] at q
        exact (fls_tru q.symm).elim
      · obtain ⟨j1, lf1, s1, cd1, hr, rfl, hE⟩ := hq₁.t hc168
        obtain ⟨s0, q1, q2, q3, q4, q5, q6, q7⟩ := pSm_ok (N := L) (fun i h => tC_N h) hr (by omega) hlf
        refine wp_aload_n rfl (ck_get kk_Pa_orderHead 89 rfl) ?_
        refine wp_iload_n rfl (ck_get kk_Pa_orderHead 90 rfl) ?_
        refine wp_cV1i (ck_get kk_Pa_orderHead 91 rfl) ml_Pa_135 (by omega) (Nat.le_of_ble_eq_true rfl) (by assumption) (Ci.to (c_times hS hX0 (hI.set (by omega) (by omega)) hn q4) ?_)
        rintro x₂ M₂ ⟨tm, htm, hq₂⟩
        first | refine wp_if_eqN (t := 183) (ck_get kk_Pa_orderHead 92 rfl) (by decide) (by omega) (fun hc176 => ?_) (fun hc176 => ?_) | refine wp_if_eq (t := 183) (ck_get kk_Pa_orderHead 92 rfl) (by decide) (fun hc176 => ?_) (fun hc176 => ?_)
        · refine wp_iconst (v := nI 0) (by decide) (ck_get kk_Pa_orderHead 95 rfl) ?_
          refine wp_ireturn (ck_get kk_Pa_orderHead 96 rfl) rfl rfl ⟨_, rfl, ?_⟩
          refine ⟨_, (EnU.refl.set (x := pa + 7) (v := nI cl) (by omega) (by omega)).trans (EnU.refl.set (x := pa + 3) (v := nI tm) (by omega) (by omega)), ?_, ?_⟩
          · rw [hr, psq_y]
            exact hq₂.no hc176
          · intro j lf2 sg hr2
            rw [hr, psq_y] at hr2
            obtain ⟨j1, l1, s1, e1, h1⟩ := pbd_t hr2
            obtain ⟨_, _, _, _, _, _, q, -⟩ := hq₂.f hc176
            rw [e1] at q
            exact (fls_tru q.symm).elim
        · refine wp_iconst (v := nI 1) (by decide) (ck_get kk_Pa_orderHead 93 rfl) ?_
          refine wp_goto (t := 184) (ck_get kk_Pa_orderHead 94 rfl) (by decide) ?_
          refine wp_ireturn (ck_get kk_Pa_orderHead 96 rfl) rfl rfl ⟨_, rfl, ?_⟩
          refine ⟨_, (EnU.refl.set (x := pa + 7) (v := nI cl) (by omega) (by omega)).trans (EnU.refl.set (x := pa + 3) (v := nI tm) (by omega) (by omega)), ?_, ?_⟩
          · rw [hr, psq_y]
            have h1 : x₂ = nI 1 := by
              rcases hq₂ with ⟨_, _, _, _, h1, -⟩ | ⟨_, _, _, _, h1, -⟩
              · exact h1
              · exact absurd h1 hc176
            exact h1 ▸ pOK.bd hE rfl hq₂
          · intro j lf2 sg hr2
            rw [hr, psq_y] at hr2
            obtain ⟨j2, l2, s2, e2, h2⟩ := pbd_t hr2
            obtain ⟨rfl, rfl, rfl⟩ := tru_inj h2
            obtain ⟨rfl, rfl, -⟩ := pTm_ok e2
            rw [htm hc176]
            refine ⟨⟨h0, ?_, j1, s0, q1, ?_, e2, ?_⟩, ?_, ?_, ?_⟩
            · simp [up2]
            · rw [List.append_nil]; exact q2
            · simp [up2]
            · simp [up2]
            · simp [up2]
            · simp [up2]
    · omega
  · rw [if_neg h0]
    refine wp_aload_n rfl (ck_get kk_Pa_orderHead 75 rfl) ?_
    refine wp_ldcs (i := 17) hS1 (by decide) rfl rfl (ck_get kk_Pa_orderHead 76 rfl) ?_
    refine wp_cV1i (ck_get kk_Pa_orderHead 77 rfl) ml_Pa_56 (by omega) (Nat.le_of_ble_eq_true rfl) (by assumption) (Ci.to (c_isWordN hS hX1 (by decide) h0) ?_)
    rintro _ M1 ⟨rfl, eqm1⟩
    obtain rfl := eqm1.symm
    first | refine wp_if_neN (t := 156) (ck_get kk_Pa_orderHead 78 rfl) (by decide) (by omega) (fun hc148 => ?_) (fun hc148 => ?_) | refine wp_if_ne (t := 156) (ck_get kk_Pa_orderHead 78 rfl) (by decide) (fun hc148 => ?_) (fun hc148 => ?_)
    · omega
    · refine wp_aload_n rfl (ck_get kk_Pa_orderHead 79 rfl) ?_
      refine wp_cV0i (ck_get kk_Pa_orderHead 80 rfl) ml_Pa_71 (by omega) (Nat.le_of_ble_eq_true rfl) (by assumption) (Ci.to (c_failT hX1 (lf0 := lf) (cl0 := cl) (cd0 := cd) (sg := [])) ?_)
      rintro x₁ M₁ hq₁
      refine wp_ireturn (ck_get kk_Pa_orderHead 81 rfl) rfl hq₁.nar ⟨_, rfl, ?_⟩
      exact ⟨I1, EnU.refl, hq₁, fun j lf2 sg hr => (fls_tru hr).elim⟩
theorem hdQ.seq {n cl cl1 : Nat} {cd cd1 : Nat → Int32} {I0 I1 : Nat → Nat → Int32} {r : PRes} {s1 : List Int32} {P P2 : (Nat → Int32) → Nat → Nat → List Int32 → Prop} {x : Int32} {M2 : Mem} (h : hdQ M pa L bt n cl1 cd1 I1 r P x M2) (hI : EnU I0 I1 pa n) (hE : Ext cd cl s1 cd1) (e : cl1 = cl + s1.length) (hP : ∀ E j lf2 sg, P E j lf2 sg → P2 E j lf2 (s1 ++ sg)) : hdQ M pa L bt n cl cd I0 (pbd r (fun j2 l2 sg2 => (true, j2, l2, s1 ++ sg2))) P2 x M2 := by
  obtain ⟨I2, h1, h2, h3⟩ := h
  refine ⟨I2, hI.trans h1, pOK.bd hE e h2, fun j lf2 sg hr => ?_⟩
  obtain ⟨j2, l2, s2, e2, h4⟩ := pbd_t hr
  obtain ⟨rfl, rfl, rfl⟩ := tru_inj h4
  exact hP _ _ _ _ (h3 _ _ _ e2)
/-- a sum that could not be read -/
theorem hdQ.no {n cl : Nat} {cd : Nat → Int32} {I0 I1 : Nat → Nat → Int32} {r : PRes} {k : Nat → Nat → List Int32 → PRes} {P : (Nat → Int32) → Nat → Nat → List Int32 → Prop} {x : Int32} {M2 : Mem} (h : pOK (mk2 M I1 (mJ M)) pa L bt cl cd r x M2) (hx : x = 0) (hI : EnU I0 I1 pa n) : hdQ M pa L bt n cl cd I0 (pbd r k) P (nI 0) M2 := by
  refine ⟨I1, hI, h.no hx, fun j lf2 sg hr => ?_⟩
  obtain ⟨j1, l1, s1, e1, h1⟩ := pbd_t hr
  obtain ⟨_, _, _, _, _, _, q, -⟩ := h.f hx
  rw [e1] at q
  exact (fls_tru q.symm).elim
/-- an order's head, its word known -/
theorem l_oh64 (hS : OutOK g) (hX : TxOK M pa tp L bt) (hod : mI M pa 4 = bI od) (hf : 12 * L + 6 ≤ f) {i lf cl n w : Nat} {cd : Nat → Int32} {I1 : Nat → Nat → Int32} (hI : EnU (mI M) I1 pa n) (hn : n < 12) (hi : i < L) (hlf : lf ≤ 50) (hcl : cl ≤ 2 * i) (hw : (tC bt L i = 17 ∧ w = 0) ∨ (tC bt L i = 19 ∧ w = 1) ∨ (tC bt L i = 21 ∧ w = 2) ∨ (tC bt L i = 22 ∧ w = 3)) : Wp g Y_Pa_orderHead 210 64 [some (.ref pa), some (.int (nI n)), some (.int (nI w))] [] (cTk (mk2 M I1 (mJ M)) pa L bt (tS bt L i) lf cl cd) (fun r M2 => ∃ x, r = some (.int x) ∧ hdQ M pa L bt n cl cd I1 (pOrd (tC bt L) (tV bt L) od f i lf cl) (fun e j lf2 sg => OrS (tC bt L) (tV bt L) od f e i lf cl j lf2 sg) x M2) := by
  have hI2 : EnU (mI M) (up2 I1 (pa + 2) n (nI w)) pa n := hI.set (by omega) (by omega)
  have hX2 := hX.en hI2
  have hS1 := hS.1
  have hX0 := hX
  obtain ⟨⟨t0, r0, hPr, r2, t2, htp⟩, h3, hL, hbt, hb2⟩ := hX
  have p0 := hPr.1
  have rk1 := hPr.2.1 1 (by omega) (by omega)
  have tk1 := hPr.2.2.1 1 (by omega) (by omega)
  have rk4 := hPr.2.1 4 (by omega) (by omega)
  have rk5 := hPr.2.1 5 (by omega) (by omega)
  unfold pOrd
  by_cases hp : w = 3
  · have ht : tC bt L i = 22 := by omega
    subst hp
    rw [if_neg (by omega), if_neg (by omega), if_pos ht]
    refine wp_aload_n rfl (ck_get kk_Pa_orderHead 32 rfl) ?_
    refine wp_getR (ck_get kk_Pa_orderHead 33 rfl) fl_Pa_14 (by assumption) (by assumption) ?_
    refine wp_getR (ck_get kk_Pa_orderHead 34 rfl) fl_Pa_115 (by assumption) (by assumption) ?_
    refine wp_iload_n rfl (ck_get kk_Pa_orderHead 35 rfl) ?_
    refine wp_iload_n rfl (ck_get kk_Pa_orderHead 36 rfl) ?_
    refine wp_iast (ck_get kk_Pa_orderHead 37 rfl) (by assumption) (by first | assumption | exact ixk_nI (by omega) (by omega)) ?_
    rw [cS_en (by omega) (by omega)]
    refine wp_iload_n rfl (ck_get kk_Pa_orderHead 38 rfl) ?_
    refine wp_iconst (v := nI 3) (by decide) (ck_get kk_Pa_orderHead 39 rfl) ?_
    first | refine wp_icmp_neN (t := 89) (ck_get kk_Pa_orderHead 40 rfl) (by decide) (by omega) (by omega) (fun hc76 => ?_) (fun hc76 => ?_) | refine wp_icmp_ne (t := 89) (ck_get kk_Pa_orderHead 40 rfl) (by decide) (fun hc76 => ?_) (fun hc76 => ?_)
    · omega
    · refine wp_aload_n rfl (ck_get kk_Pa_orderHead 41 rfl) ?_
      refine wp_cV0v (ck_get kk_Pa_orderHead 42 rfl) ml_Pa_68 (by omega) (Nat.le_of_ble_eq_true rfl) (by assumption) (Cv.to (c_advanceT hX2) ?_)
      rintro M₁ rfl
      refine wp_aload_n rfl (ck_get kk_Pa_orderHead 43 rfl) ?_
      refine wp_iload_n rfl (ck_get kk_Pa_orderHead 44 rfl) ?_
      refine wp_cV1i (ck_get kk_Pa_orderHead 45 rfl) ml_Pa_135 (by omega) (Nat.le_of_ble_eq_true rfl) (by assumption) (Ci.to (c_times hS hX0 hI2 hn (by omega)) ?_)
      rintro x₂ M₂ ⟨tm, htm, hq₂⟩
      refine wp_ireturn (ck_get kk_Pa_orderHead 46 rfl) rfl hq₂.nar ⟨_, rfl, ?_⟩
      refine ⟨_, (EnU.refl.set (x := pa + 2) (v := nI 3) (by omega) (by omega)).trans (EnU.refl.set (x := pa + 3) (by omega) (by omega)), hq₂, ?_⟩
      intro j lf2 sg hr
      obtain ⟨q1, q2, -⟩ := pTm_ok hr
      have hx : ¬ x₂ = 0 := fun hx => by
        obtain ⟨_, _, _, _, _, _, q, -⟩ := hq₂.f hx
        rw [hr] at q
        exact (fls_tru q.symm).elim
      rw [htm hx]
      subst q1 q2
      exact Or.inr (Or.inr ⟨ht, by simp [up2], hr, by simp [up2], rfl, rfl⟩)
  by_cases hl : w = 1
  · have ht : tC bt L i = 19 := by omega
    subst hl
    rw [if_neg (by omega), if_pos ht]
    refine wp_aload_n rfl (ck_get kk_Pa_orderHead 32 rfl) ?_
    refine wp_getR (ck_get kk_Pa_orderHead 33 rfl) fl_Pa_14 (by assumption) (by assumption) ?_
    refine wp_getR (ck_get kk_Pa_orderHead 34 rfl) fl_Pa_115 (by assumption) (by assumption) ?_
    refine wp_iload_n rfl (ck_get kk_Pa_orderHead 35 rfl) ?_
    refine wp_iload_n rfl (ck_get kk_Pa_orderHead 36 rfl) ?_
    refine wp_iast (ck_get kk_Pa_orderHead 37 rfl) (by assumption) (by first | assumption | exact ixk_nI (by omega) (by omega)) ?_
    rw [cS_en (by omega) (by omega)]
    refine wp_iload_n rfl (ck_get kk_Pa_orderHead 38 rfl) ?_
    refine wp_iconst (v := nI 3) (by decide) (ck_get kk_Pa_orderHead 39 rfl) ?_
    first | refine wp_icmp_neN (t := 89) (ck_get kk_Pa_orderHead 40 rfl) (by decide) (by omega) (by omega) (fun hc76 => ?_) (fun hc76 => ?_) | refine wp_icmp_ne (t := 89) (ck_get kk_Pa_orderHead 40 rfl) (by decide) (fun hc76 => ?_) (fun hc76 => ?_)
    · refine wp_aload_n rfl (ck_get kk_Pa_orderHead 47 rfl) ?_
      refine wp_aload_n rfl (ck_get kk_Pa_orderHead 48 rfl) ?_
      refine wp_getR (ck_get kk_Pa_orderHead 49 rfl) fl_Pa_14 (by assumption) (by assumption) ?_
      refine wp_getR (ck_get kk_Pa_orderHead 50 rfl) fl_Pa_120 (by assumption) (by assumption) ?_
      refine wp_iload_n rfl (ck_get kk_Pa_orderHead 51 rfl) ?_
      refine wp_cV2i (ck_get kk_Pa_orderHead 52 rfl) ml_Pa_123 (by omega) (Nat.le_of_ble_eq_true rfl) (by assumption) (Ci.to (c_sumBehind hS hX0 hod hf (k := 4) hI2 (by omega) (by omega) hn hi hlf hcl) ?_)
      rintro x₁ M₁ hq₁
      first | refine wp_if_neN (t := 106) (ck_get kk_Pa_orderHead 53 rfl) (by decide) (by omega) (fun hc101 => ?_) (fun hc101 => ?_) | refine wp_if_ne (t := 106) (ck_get kk_Pa_orderHead 53 rfl) (by decide) (fun hc101 => ?_) (fun hc101 => ?_)
      · refine wp_iload_n rfl (ck_get kk_Pa_orderHead 56 rfl) ?_
        refine wp_iconst (v := nI 1) (by decide) (ck_get kk_Pa_orderHead 57 rfl) ?_
        first | refine wp_icmp_neN (t := 142) (ck_get kk_Pa_orderHead 58 rfl) (by decide) (by omega) (by omega) (fun hc108 => ?_) (fun hc108 => ?_) | refine wp_icmp_ne (t := 142) (ck_get kk_Pa_orderHead 58 rfl) (by decide) (fun hc108 => ?_) (fun hc108 => ?_)
        · omega
        · obtain ⟨j1, lf1, s1, cd1, hr, rfl, hE⟩ := hq₁.t hc101
          obtain ⟨s0, q1, q2, q3, q4, q5, q6, q7⟩ := pSm_ok (N := L) (fun i h => tC_N h) hr (by omega) hlf
          have hs1 : s1.length = s0.length + 2 := by rw [q2]; exact len_app2 _ _ _
          have hI3 : EnU (mI M) (up2 (up2 I1 (pa + 2) n (nI 1)) (pa + 1 + 4) n (nI cl)) pa n := hI2.set (by omega) (by omega)
          have hX3 := hX0.en hI3
          rw [hr, psq_y]
          by_cases hto : tC bt L j1 = 19 + 1
          · have hj1 := tC_N (bt := bt) (L := L) (i := j1) (by omega)
            rw [if_pos hto]
            refine wp_aload_n rfl (ck_get kk_Pa_orderHead 59 rfl) ?_
            refine wp_ldcs (i := 19) hS1 (by decide) rfl rfl (ck_get kk_Pa_orderHead 60 rfl) ?_
            refine wp_cV1i (ck_get kk_Pa_orderHead 61 rfl) ml_Pa_56 (by omega) (Nat.le_of_ble_eq_true rfl) (by assumption) (Ci.to (c_isWordY hS hX3 (by decide) hto) ?_)
            rintro _ M1 ⟨rfl, eqm1⟩
            obtain rfl := eqm1.symm
            first | refine wp_if_neN (t := 125) (ck_get kk_Pa_orderHead 62 rfl) (by decide) (by omega) (fun hc117 => ?_) (fun hc117 => ?_) | refine wp_if_ne (t := 125) (ck_get kk_Pa_orderHead 62 rfl) (by decide) (fun hc117 => ?_) (fun hc117 => ?_)
            · refine wp_aload_n rfl (ck_get kk_Pa_orderHead 66 rfl) ?_
              refine wp_aload_n rfl (ck_get kk_Pa_orderHead 67 rfl) ?_
              refine wp_getR (ck_get kk_Pa_orderHead 68 rfl) fl_Pa_14 (by assumption) (by assumption) ?_
              refine wp_getR (ck_get kk_Pa_orderHead 69 rfl) fl_Pa_140 (by assumption) (by assumption) ?_
              refine wp_iload_n rfl (ck_get kk_Pa_orderHead 70 rfl) ?_
              refine wp_cV2i (ck_get kk_Pa_orderHead 71 rfl) ml_Pa_123 (by omega) (Nat.le_of_ble_eq_true rfl) (by assumption) (Ci.to (c_sumBehind hS hX0 hod hf (k := 5) hI3 (by omega) (by omega) hn hj1 q5 (by omega)) ?_)
              rintro x₂ M₂ hq₂
              first | refine wp_if_neN (t := 142) (ck_get kk_Pa_orderHead 72 rfl) (by decide) (by omega) (fun hc137 => ?_) (fun hc137 => ?_) | refine wp_if_ne (t := 142) (ck_get kk_Pa_orderHead 72 rfl) (by decide) (fun hc137 => ?_) (fun hc137 => ?_)
              · obtain ⟨j2, lf2, s2, cd2, hr2, rfl, hE2⟩ := hq₂.t hc137
                obtain ⟨s02, u1, u2, u3, u4, u5, u6, u7⟩ := pSm_ok (N := L) (fun i h => tC_N h) hr2 (by omega) q5
                have hs2 : s2.length = s02.length + 2 := by rw [u2]; exact len_app2 _ _ _
                have hI4 : EnU (mI M) (up2 (up2 (up2 I1 (pa + 2) n (nI 1)) (pa + 1 + 4) n (nI cl)) (pa + 1 + 5) n (nI (cl + s1.length))) pa n := hI3.set (by omega) (by omega)
                refine Wp.mono (l_oh142 hS hX0 hod hf hI4 hn u4 u5 (by omega)) ?_
                rintro r₃ M₃ ⟨x₃, rfl, hq₃⟩
                refine ⟨x₃, rfl, ?_⟩
                rw [hr2, psq_y]
                have k1 := hq₃.seq (P2 := fun e j lf2 sg => OrS (tC bt L) (tV bt L) od f e i lf cl j lf2 (s1 ++ sg)) EnU.refl hE2 rfl ?_
                · refine k1.seq ((hI4.en hI)) hE rfl (fun E j lf2 sg h => h)
                · rintro E j lf3 sg ⟨hB, v1, v4, v5⟩
                  refine Or.inr (Or.inl ⟨ht, ?_, ?_, j1, lf1, s0, j2, lf2, s02, sg, q1, hto, ?_, ?_, ?_, ?_⟩)
                  · rw [v1]; simp [up2]
                  · rw [v4]; simp [up2]
                  · rw [v5]; simp [up2, hs1, Nat.add_assoc]
                  · rw [Nat.add_assoc cl, ← hs1]; exact u1
                  · rw [Nat.add_assoc cl, ← hs1, Nat.add_assoc (cl + s1.length), ← hs2]; exact hB
                  · rw [q2, u2]
              · refine wp_iconst (v := nI 0) (by decide) (ck_get kk_Pa_orderHead 73 rfl) ?_
                refine wp_ireturn (ck_get kk_Pa_orderHead 74 rfl) rfl rfl ⟨_, rfl, ?_⟩
                have q := hdQ.no (I0 := I1) (k := fun j l sg => pbd (pBy (tC bt L) (tV bt L) od f j l (cl + s1.length + sg.length)) (fun j2 l2 sg2 => (true, j2, l2, sg ++ sg2))) (P := fun e j lf2 sg => OrS (tC bt L) (tV bt L) od f e i lf cl j lf2 (s1 ++ sg)) hq₂ hc137 (((EnU.refl.set (x := pa + 2) (by omega) (by omega)).trans (EnU.refl.set (x := pa + 1 + 4) (by omega) (by omega))).trans (EnU.refl.set (by omega) (by omega)))
                exact q.seq EnU.refl hE rfl (fun E j lf2 sg h => h)
            · omega
          · rw [if_neg hto]
            refine wp_aload_n rfl (ck_get kk_Pa_orderHead 59 rfl) ?_
            refine wp_ldcs (i := 19) hS1 (by decide) rfl rfl (ck_get kk_Pa_orderHead 60 rfl) ?_
            refine wp_cV1i (ck_get kk_Pa_orderHead 61 rfl) ml_Pa_56 (by omega) (Nat.le_of_ble_eq_true rfl) (by assumption) (Ci.to (c_isWordN hS hX3 (by decide) hto) ?_)
            rintro _ M1 ⟨rfl, eqm1⟩
            obtain rfl := eqm1.symm
            first | refine wp_if_neN (t := 125) (ck_get kk_Pa_orderHead 62 rfl) (by decide) (by omega) (fun hc117 => ?_) (fun hc117 => ?_) | refine wp_if_ne (t := 125) (ck_get kk_Pa_orderHead 62 rfl) (by decide) (fun hc117 => ?_) (fun hc117 => ?_)
            · omega
            · refine wp_aload_n rfl (ck_get kk_Pa_orderHead 63 rfl) ?_
              refine wp_cV0i (ck_get kk_Pa_orderHead 64 rfl) ml_Pa_71 (by omega) (Nat.le_of_ble_eq_true rfl) (by assumption) (Ci.to (c_failT hX3 (lf0 := lf1) (cl0 := cl) (cd0 := cd) (sg := [])) ?_)
              rintro x₂ M₂ hq₂
              refine wp_ireturn (ck_get kk_Pa_orderHead 65 rfl) rfl hq₂.nar ⟨_, rfl, ?_⟩
              exact ⟨_, (EnU.refl.set (x := pa + 2) (by omega) (by omega)).trans (EnU.refl.set (by omega) (by omega)), hq₂, fun j lf2 sg hr => (fls_tru hr).elim⟩
      · refine wp_iconst (v := nI 0) (by decide) (ck_get kk_Pa_orderHead 54 rfl) ?_
        refine wp_ireturn (ck_get kk_Pa_orderHead 55 rfl) rfl rfl ⟨_, rfl, ?_⟩
        exact hdQ.no hq₁ hc101 ((EnU.refl.set (x := pa + 2) (by omega) (by omega)).trans (EnU.refl.set (by omega) (by omega)))
    · omega
  · rw [if_pos (by omega)]
    refine wp_aload_n rfl (ck_get kk_Pa_orderHead 32 rfl) ?_
    refine wp_getR (ck_get kk_Pa_orderHead 33 rfl) fl_Pa_14 (by assumption) (by assumption) ?_
    refine wp_getR (ck_get kk_Pa_orderHead 34 rfl) fl_Pa_115 (by assumption) (by assumption) ?_
    refine wp_iload_n rfl (ck_get kk_Pa_orderHead 35 rfl) ?_
    refine wp_iload_n rfl (ck_get kk_Pa_orderHead 36 rfl) ?_
    refine wp_iast (ck_get kk_Pa_orderHead 37 rfl) (by assumption) (by first | assumption | exact ixk_nI (by omega) (by omega)) ?_
    rw [cS_en (by omega) (by omega)]
    refine wp_iload_n rfl (ck_get kk_Pa_orderHead 38 rfl) ?_
    refine wp_iconst (v := nI 3) (by decide) (ck_get kk_Pa_orderHead 39 rfl) ?_
    first | refine wp_icmp_neN (t := 89) (ck_get kk_Pa_orderHead 40 rfl) (by decide) (by omega) (by omega) (fun hc76 => ?_) (fun hc76 => ?_) | refine wp_icmp_ne (t := 89) (ck_get kk_Pa_orderHead 40 rfl) (by decide) (fun hc76 => ?_) (fun hc76 => ?_)
    · refine wp_aload_n rfl (ck_get kk_Pa_orderHead 47 rfl) ?_
      refine wp_aload_n rfl (ck_get kk_Pa_orderHead 48 rfl) ?_
      refine wp_getR (ck_get kk_Pa_orderHead 49 rfl) fl_Pa_14 (by assumption) (by assumption) ?_
      refine wp_getR (ck_get kk_Pa_orderHead 50 rfl) fl_Pa_120 (by assumption) (by assumption) ?_
      refine wp_iload_n rfl (ck_get kk_Pa_orderHead 51 rfl) ?_
      refine wp_cV2i (ck_get kk_Pa_orderHead 52 rfl) ml_Pa_123 (by omega) (Nat.le_of_ble_eq_true rfl) (by assumption) (Ci.to (c_sumBehind hS hX0 hod hf (k := 4) hI2 (by omega) (by omega) hn hi hlf hcl) ?_)
      rintro x₁ M₁ hq₁
      first | refine wp_if_neN (t := 106) (ck_get kk_Pa_orderHead 53 rfl) (by decide) (by omega) (fun hc101 => ?_) (fun hc101 => ?_) | refine wp_if_ne (t := 106) (ck_get kk_Pa_orderHead 53 rfl) (by decide) (fun hc101 => ?_) (fun hc101 => ?_)
      · refine wp_iload_n rfl (ck_get kk_Pa_orderHead 56 rfl) ?_
        refine wp_iconst (v := nI 1) (by decide) (ck_get kk_Pa_orderHead 57 rfl) ?_
        first | refine wp_icmp_neN (t := 142) (ck_get kk_Pa_orderHead 58 rfl) (by decide) (by omega) (by omega) (fun hc108 => ?_) (fun hc108 => ?_) | refine wp_icmp_ne (t := 142) (ck_get kk_Pa_orderHead 58 rfl) (by decide) (fun hc108 => ?_) (fun hc108 => ?_)
        · obtain ⟨j1, lf1, s1, cd1, hr, rfl, hE⟩ := hq₁.t hc101
          obtain ⟨s0, q1, q2, q3, q4, q5, q6, q7⟩ := pSm_ok (N := L) (fun i h => tC_N h) hr (by omega) hlf
          have hs1 : s1.length = s0.length + 2 := by rw [q2]; exact len_app2 _ _ _
          have hI3 : EnU (mI M) (up2 (up2 I1 (pa + 2) n (nI w)) (pa + 1 + 4) n (nI cl)) pa n := hI2.set (by omega) (by omega)
          refine Wp.mono (l_oh142 hS hX0 hod hf hI3 hn q4 q5 (by omega)) ?_
          rintro r₃ M₃ ⟨x₃, rfl, hq₃⟩
          refine ⟨x₃, rfl, ?_⟩
          rw [hr, psq_y]
          refine hq₃.seq (hI3.en hI) hE rfl ?_
          rintro E j lf3 sg ⟨hB, v1, v4, v5⟩
          refine Or.inl ⟨?_, ?_, j1, lf1, s0, sg, q1, ?_, ?_⟩
          · rw [v1, show up2 (up2 I1 (pa + 2) n (nI w)) (pa + 1 + 4) n (nI cl) (pa + 2) n = nI w by simp [up2]]
            rcases hw with ⟨a, b⟩ | ⟨a, b⟩ | ⟨a, b⟩ | ⟨a, b⟩
            · exact Or.inl ⟨a, by rw [b]⟩
            · exact absurd b hl
            · exact Or.inr ⟨a, by rw [b]⟩
            · exact absurd b hp
          · rw [v4]; simp [up2]
          · rw [Nat.add_assoc cl, ← hs1]; exact hB
          · rw [q2]
        · omega
      · refine wp_iconst (v := nI 0) (by decide) (ck_get kk_Pa_orderHead 54 rfl) ?_
        refine wp_ireturn (ck_get kk_Pa_orderHead 55 rfl) rfl rfl ⟨_, rfl, ?_⟩
        exact hdQ.no hq₁ hc101 ((EnU.refl.set (x := pa + 2) (by omega) (by omega)).trans (EnU.refl.set (by omega) (by omega)))
    · omega
theorem c_orderHead (hS : OutOK g) (hX : TxOK M pa tp L bt) (hod : mI M pa 4 = bI od) (hf : 12 * L + 6 ≤ f) {i lf cl n : Nat} {cd : Nat → Int32} {I1 : Nat → Nat → Int32} (hI : EnU (mI M) I1 pa n) (hn : n < 12) (hi : i ≤ L) (hlf : lf ≤ 50) (hcl : cl ≤ 2 * i) : Ci g Y_Pa_orderHead 210 [.ref pa, .int (nI n)] (cTk (mk2 M I1 (mJ M)) pa L bt (tS bt L i) lf cl cd) (fun x M2 => hdQ M pa L bt n cl cd I1 (pOrd (tC bt L) (tV bt L) od f i lf cl) (fun e j lf2 sg => OrS (tC bt L) (tV bt L) od f e i lf cl j lf2 sg) x M2) := by
  refine cw_entry 1 pf_Pa_orderHead rfl ?_
  have hX1 := hX.en hI
  have hS1 := hS.1
  have t0 := hX.1.1
  by_cases h0 : tC bt L i = 16 + 1
  · have hiL := tC_N (bt := bt) (L := L) (i := i) (by omega)
    refine wp_aload_n rfl (ck_get kk_Pa_orderHead 0 rfl) ?_
    refine wp_ldcs (i := 16) hS1 (by decide) rfl rfl (ck_get kk_Pa_orderHead 1 rfl) ?_
    refine wp_cV1i (ck_get kk_Pa_orderHead 2 rfl) ml_Pa_56 (by omega) (Nat.le_of_ble_eq_true rfl) (by assumption) (Ci.to (c_isWordY hS hX1 (by decide) h0) ?_)
    rintro _ M1 ⟨rfl, eqm1⟩
    obtain rfl := eqm1.symm
    first | refine wp_if_eqN (t := 13) (ck_get kk_Pa_orderHead 3 rfl) (by decide) (by omega) (fun hc6 => ?_) (fun hc6 => ?_) | refine wp_if_eq (t := 13) (ck_get kk_Pa_orderHead 3 rfl) (by decide) (fun hc6 => ?_) (fun hc6 => ?_)
    · omega
    · refine wp_iconst (v := nI 0) (by decide) (ck_get kk_Pa_orderHead 4 rfl) ?_
      refine wp_goto (t := 53) (ck_get kk_Pa_orderHead 5 rfl) (by decide) ?_
      refine wp_istore_n (ck_get kk_Pa_orderHead 25 rfl) (by decide) rfl ?_
      refine wp_iload_n rfl (ck_get kk_Pa_orderHead 26 rfl) ?_
      refine wp_iconst (v := (-1)) (by decide) (ck_get kk_Pa_orderHead 27 rfl) ?_
      refine wp_icmp_ne (t := 64) (ck_get kk_Pa_orderHead 28 rfl) (by decide) (fun hc56 => ?_) (fun hc56 => ?_)
      · exact l_oh64 hS hX hod hf hI hn hiL hlf hcl (Or.inl ⟨h0, rfl⟩)
      · exact absurd hc56 (by decide)
  by_cases h1 : tC bt L i = 18 + 1
  · have hiL := tC_N (bt := bt) (L := L) (i := i) (by omega)
    refine wp_aload_n rfl (ck_get kk_Pa_orderHead 0 rfl) ?_
    refine wp_ldcs (i := 16) hS1 (by decide) rfl rfl (ck_get kk_Pa_orderHead 1 rfl) ?_
    refine wp_cV1i (ck_get kk_Pa_orderHead 2 rfl) ml_Pa_56 (by omega) (Nat.le_of_ble_eq_true rfl) (by assumption) (Ci.to (c_isWordN hS hX1 (by decide) h0) ?_)
    rintro _ M1 ⟨rfl, eqm1⟩
    obtain rfl := eqm1.symm
    first | refine wp_if_eqN (t := 13) (ck_get kk_Pa_orderHead 3 rfl) (by decide) (by omega) (fun hc6 => ?_) (fun hc6 => ?_) | refine wp_if_eq (t := 13) (ck_get kk_Pa_orderHead 3 rfl) (by decide) (fun hc6 => ?_) (fun hc6 => ?_)
    · refine wp_aload_n rfl (ck_get kk_Pa_orderHead 6 rfl) ?_
      refine wp_ldcs (i := 18) hS1 (by decide) rfl rfl (ck_get kk_Pa_orderHead 7 rfl) ?_
      refine wp_cV1i (ck_get kk_Pa_orderHead 8 rfl) ml_Pa_56 (by omega) (Nat.le_of_ble_eq_true rfl) (by assumption) (Ci.to (c_isWordY hS hX1 (by decide) h1) ?_)
      rintro _ M1 ⟨rfl, eqm1⟩
      obtain rfl := eqm1.symm
      first | refine wp_if_eqN (t := 26) (ck_get kk_Pa_orderHead 9 rfl) (by decide) (by omega) (fun hc19 => ?_) (fun hc19 => ?_) | refine wp_if_eq (t := 26) (ck_get kk_Pa_orderHead 9 rfl) (by decide) (fun hc19 => ?_) (fun hc19 => ?_)
      · omega
      · refine wp_iconst (v := nI 1) (by decide) (ck_get kk_Pa_orderHead 10 rfl) ?_
        refine wp_goto (t := 53) (ck_get kk_Pa_orderHead 11 rfl) (by decide) ?_
        refine wp_istore_n (ck_get kk_Pa_orderHead 25 rfl) (by decide) rfl ?_
        refine wp_iload_n rfl (ck_get kk_Pa_orderHead 26 rfl) ?_
        refine wp_iconst (v := (-1)) (by decide) (ck_get kk_Pa_orderHead 27 rfl) ?_
        refine wp_icmp_ne (t := 64) (ck_get kk_Pa_orderHead 28 rfl) (by decide) (fun hc56 => ?_) (fun hc56 => ?_)
        · exact l_oh64 hS hX hod hf hI hn hiL hlf hcl (Or.inr (Or.inl ⟨h1, rfl⟩))
        · exact absurd hc56 (by decide)
    · omega
  by_cases h2 : tC bt L i = 20 + 1
  · have hiL := tC_N (bt := bt) (L := L) (i := i) (by omega)
    refine wp_aload_n rfl (ck_get kk_Pa_orderHead 0 rfl) ?_
    refine wp_ldcs (i := 16) hS1 (by decide) rfl rfl (ck_get kk_Pa_orderHead 1 rfl) ?_
    refine wp_cV1i (ck_get kk_Pa_orderHead 2 rfl) ml_Pa_56 (by omega) (Nat.le_of_ble_eq_true rfl) (by assumption) (Ci.to (c_isWordN hS hX1 (by decide) h0) ?_)
    rintro _ M1 ⟨rfl, eqm1⟩
    obtain rfl := eqm1.symm
    first | refine wp_if_eqN (t := 13) (ck_get kk_Pa_orderHead 3 rfl) (by decide) (by omega) (fun hc6 => ?_) (fun hc6 => ?_) | refine wp_if_eq (t := 13) (ck_get kk_Pa_orderHead 3 rfl) (by decide) (fun hc6 => ?_) (fun hc6 => ?_)
    · refine wp_aload_n rfl (ck_get kk_Pa_orderHead 6 rfl) ?_
      refine wp_ldcs (i := 18) hS1 (by decide) rfl rfl (ck_get kk_Pa_orderHead 7 rfl) ?_
      refine wp_cV1i (ck_get kk_Pa_orderHead 8 rfl) ml_Pa_56 (by omega) (Nat.le_of_ble_eq_true rfl) (by assumption) (Ci.to (c_isWordN hS hX1 (by decide) h1) ?_)
      rintro _ M1 ⟨rfl, eqm1⟩
      obtain rfl := eqm1.symm
      first | refine wp_if_eqN (t := 26) (ck_get kk_Pa_orderHead 9 rfl) (by decide) (by omega) (fun hc19 => ?_) (fun hc19 => ?_) | refine wp_if_eq (t := 26) (ck_get kk_Pa_orderHead 9 rfl) (by decide) (fun hc19 => ?_) (fun hc19 => ?_)
      · refine wp_aload_n rfl (ck_get kk_Pa_orderHead 12 rfl) ?_
        refine wp_ldcs (i := 20) hS1 (by decide) rfl rfl (ck_get kk_Pa_orderHead 13 rfl) ?_
        refine wp_cV1i (ck_get kk_Pa_orderHead 14 rfl) ml_Pa_56 (by omega) (Nat.le_of_ble_eq_true rfl) (by assumption) (Ci.to (c_isWordY hS hX1 (by decide) h2) ?_)
        rintro _ M1 ⟨rfl, eqm1⟩
        obtain rfl := eqm1.symm
        first | refine wp_if_eqN (t := 39) (ck_get kk_Pa_orderHead 15 rfl) (by decide) (by omega) (fun hc32 => ?_) (fun hc32 => ?_) | refine wp_if_eq (t := 39) (ck_get kk_Pa_orderHead 15 rfl) (by decide) (fun hc32 => ?_) (fun hc32 => ?_)
        · omega
        · refine wp_iconst (v := nI 2) (by decide) (ck_get kk_Pa_orderHead 16 rfl) ?_
          refine wp_goto (t := 53) (ck_get kk_Pa_orderHead 17 rfl) (by decide) ?_
          refine wp_istore_n (ck_get kk_Pa_orderHead 25 rfl) (by decide) rfl ?_
          refine wp_iload_n rfl (ck_get kk_Pa_orderHead 26 rfl) ?_
          refine wp_iconst (v := (-1)) (by decide) (ck_get kk_Pa_orderHead 27 rfl) ?_
          refine wp_icmp_ne (t := 64) (ck_get kk_Pa_orderHead 28 rfl) (by decide) (fun hc56 => ?_) (fun hc56 => ?_)
          · exact l_oh64 hS hX hod hf hI hn hiL hlf hcl (Or.inr (Or.inr (Or.inl ⟨h2, rfl⟩)))
          · exact absurd hc56 (by decide)
      · omega
    · omega
  by_cases h3 : tC bt L i = 21 + 1
  · have hiL := tC_N (bt := bt) (L := L) (i := i) (by omega)
    refine wp_aload_n rfl (ck_get kk_Pa_orderHead 0 rfl) ?_
    refine wp_ldcs (i := 16) hS1 (by decide) rfl rfl (ck_get kk_Pa_orderHead 1 rfl) ?_
    refine wp_cV1i (ck_get kk_Pa_orderHead 2 rfl) ml_Pa_56 (by omega) (Nat.le_of_ble_eq_true rfl) (by assumption) (Ci.to (c_isWordN hS hX1 (by decide) h0) ?_)
    rintro _ M1 ⟨rfl, eqm1⟩
    obtain rfl := eqm1.symm
    first | refine wp_if_eqN (t := 13) (ck_get kk_Pa_orderHead 3 rfl) (by decide) (by omega) (fun hc6 => ?_) (fun hc6 => ?_) | refine wp_if_eq (t := 13) (ck_get kk_Pa_orderHead 3 rfl) (by decide) (fun hc6 => ?_) (fun hc6 => ?_)
    · refine wp_aload_n rfl (ck_get kk_Pa_orderHead 6 rfl) ?_
      refine wp_ldcs (i := 18) hS1 (by decide) rfl rfl (ck_get kk_Pa_orderHead 7 rfl) ?_
      refine wp_cV1i (ck_get kk_Pa_orderHead 8 rfl) ml_Pa_56 (by omega) (Nat.le_of_ble_eq_true rfl) (by assumption) (Ci.to (c_isWordN hS hX1 (by decide) h1) ?_)
      rintro _ M1 ⟨rfl, eqm1⟩
      obtain rfl := eqm1.symm
      first | refine wp_if_eqN (t := 26) (ck_get kk_Pa_orderHead 9 rfl) (by decide) (by omega) (fun hc19 => ?_) (fun hc19 => ?_) | refine wp_if_eq (t := 26) (ck_get kk_Pa_orderHead 9 rfl) (by decide) (fun hc19 => ?_) (fun hc19 => ?_)
      · refine wp_aload_n rfl (ck_get kk_Pa_orderHead 12 rfl) ?_
        refine wp_ldcs (i := 20) hS1 (by decide) rfl rfl (ck_get kk_Pa_orderHead 13 rfl) ?_
        refine wp_cV1i (ck_get kk_Pa_orderHead 14 rfl) ml_Pa_56 (by omega) (Nat.le_of_ble_eq_true rfl) (by assumption) (Ci.to (c_isWordN hS hX1 (by decide) h2) ?_)
        rintro _ M1 ⟨rfl, eqm1⟩
        obtain rfl := eqm1.symm
        first | refine wp_if_eqN (t := 39) (ck_get kk_Pa_orderHead 15 rfl) (by decide) (by omega) (fun hc32 => ?_) (fun hc32 => ?_) | refine wp_if_eq (t := 39) (ck_get kk_Pa_orderHead 15 rfl) (by decide) (fun hc32 => ?_) (fun hc32 => ?_)
        · refine wp_aload_n rfl (ck_get kk_Pa_orderHead 18 rfl) ?_
          refine wp_ldcs (i := 21) hS1 (by decide) rfl rfl (ck_get kk_Pa_orderHead 19 rfl) ?_
          refine wp_cV1i (ck_get kk_Pa_orderHead 20 rfl) ml_Pa_56 (by omega) (Nat.le_of_ble_eq_true rfl) (by assumption) (Ci.to (c_isWordY hS hX1 (by decide) h3) ?_)
          rintro _ M1 ⟨rfl, eqm1⟩
          obtain rfl := eqm1.symm
          first | refine wp_if_eqN (t := 52) (ck_get kk_Pa_orderHead 21 rfl) (by decide) (by omega) (fun hc45 => ?_) (fun hc45 => ?_) | refine wp_if_eq (t := 52) (ck_get kk_Pa_orderHead 21 rfl) (by decide) (fun hc45 => ?_) (fun hc45 => ?_)
          · omega
          · refine wp_iconst (v := nI 3) (by decide) (ck_get kk_Pa_orderHead 22 rfl) ?_
            refine wp_goto (t := 53) (ck_get kk_Pa_orderHead 23 rfl) (by decide) ?_
            refine wp_istore_n (ck_get kk_Pa_orderHead 25 rfl) (by decide) rfl ?_
            refine wp_iload_n rfl (ck_get kk_Pa_orderHead 26 rfl) ?_
            refine wp_iconst (v := (-1)) (by decide) (ck_get kk_Pa_orderHead 27 rfl) ?_
            refine wp_icmp_ne (t := 64) (ck_get kk_Pa_orderHead 28 rfl) (by decide) (fun hc56 => ?_) (fun hc56 => ?_)
            · exact l_oh64 hS hX hod hf hI hn hiL hlf hcl (Or.inr (Or.inr (Or.inr ⟨h3, rfl⟩)))
            · exact absurd hc56 (by decide)
        · omega
      · omega
    · omega
  unfold pOrd
  rw [if_neg (by omega), if_neg (by omega), if_neg (by omega)]
  refine wp_aload_n rfl (ck_get kk_Pa_orderHead 0 rfl) ?_
  refine wp_ldcs (i := 16) hS1 (by decide) rfl rfl (ck_get kk_Pa_orderHead 1 rfl) ?_
  refine wp_cV1i (ck_get kk_Pa_orderHead 2 rfl) ml_Pa_56 (by omega) (Nat.le_of_ble_eq_true rfl) (by assumption) (Ci.to (c_isWordN hS hX1 (by decide) h0) ?_)
  rintro _ M1 ⟨rfl, eqm1⟩
  obtain rfl := eqm1.symm
  first | refine wp_if_eqN (t := 13) (ck_get kk_Pa_orderHead 3 rfl) (by decide) (by omega) (fun hc6 => ?_) (fun hc6 => ?_) | refine wp_if_eq (t := 13) (ck_get kk_Pa_orderHead 3 rfl) (by decide) (fun hc6 => ?_) (fun hc6 => ?_)
  · refine wp_aload_n rfl (ck_get kk_Pa_orderHead 6 rfl) ?_
    refine wp_ldcs (i := 18) hS1 (by decide) rfl rfl (ck_get kk_Pa_orderHead 7 rfl) ?_
    refine wp_cV1i (ck_get kk_Pa_orderHead 8 rfl) ml_Pa_56 (by omega) (Nat.le_of_ble_eq_true rfl) (by assumption) (Ci.to (c_isWordN hS hX1 (by decide) h1) ?_)
    rintro _ M1 ⟨rfl, eqm1⟩
    obtain rfl := eqm1.symm
    first | refine wp_if_eqN (t := 26) (ck_get kk_Pa_orderHead 9 rfl) (by decide) (by omega) (fun hc19 => ?_) (fun hc19 => ?_) | refine wp_if_eq (t := 26) (ck_get kk_Pa_orderHead 9 rfl) (by decide) (fun hc19 => ?_) (fun hc19 => ?_)
    · refine wp_aload_n rfl (ck_get kk_Pa_orderHead 12 rfl) ?_
      refine wp_ldcs (i := 20) hS1 (by decide) rfl rfl (ck_get kk_Pa_orderHead 13 rfl) ?_
      refine wp_cV1i (ck_get kk_Pa_orderHead 14 rfl) ml_Pa_56 (by omega) (Nat.le_of_ble_eq_true rfl) (by assumption) (Ci.to (c_isWordN hS hX1 (by decide) h2) ?_)
      rintro _ M1 ⟨rfl, eqm1⟩
      obtain rfl := eqm1.symm
      first | refine wp_if_eqN (t := 39) (ck_get kk_Pa_orderHead 15 rfl) (by decide) (by omega) (fun hc32 => ?_) (fun hc32 => ?_) | refine wp_if_eq (t := 39) (ck_get kk_Pa_orderHead 15 rfl) (by decide) (fun hc32 => ?_) (fun hc32 => ?_)
      · refine wp_aload_n rfl (ck_get kk_Pa_orderHead 18 rfl) ?_
        refine wp_ldcs (i := 21) hS1 (by decide) rfl rfl (ck_get kk_Pa_orderHead 19 rfl) ?_
        refine wp_cV1i (ck_get kk_Pa_orderHead 20 rfl) ml_Pa_56 (by omega) (Nat.le_of_ble_eq_true rfl) (by assumption) (Ci.to (c_isWordN hS hX1 (by decide) h3) ?_)
        rintro _ M1 ⟨rfl, eqm1⟩
        obtain rfl := eqm1.symm
        first | refine wp_if_eqN (t := 52) (ck_get kk_Pa_orderHead 21 rfl) (by decide) (by omega) (fun hc45 => ?_) (fun hc45 => ?_) | refine wp_if_eq (t := 52) (ck_get kk_Pa_orderHead 21 rfl) (by decide) (fun hc45 => ?_) (fun hc45 => ?_)
        · refine wp_iconst (v := (-1)) (by decide) (ck_get kk_Pa_orderHead 24 rfl) ?_
          refine wp_istore_n (ck_get kk_Pa_orderHead 25 rfl) (by decide) rfl ?_
          refine wp_iload_n rfl (ck_get kk_Pa_orderHead 26 rfl) ?_
          refine wp_iconst (v := (-1)) (by decide) (ck_get kk_Pa_orderHead 27 rfl) ?_
          refine wp_icmp_ne (t := 64) (ck_get kk_Pa_orderHead 28 rfl) (by decide) (fun hc56 => ?_) (fun hc56 => ?_)
          · exact absurd rfl hc56
          · refine wp_aload_n rfl (ck_get kk_Pa_orderHead 29 rfl) ?_
            refine wp_cV0i (ck_get kk_Pa_orderHead 30 rfl) ml_Pa_71 (by omega) (Nat.le_of_ble_eq_true rfl) (by assumption) (Ci.to (c_failT hX1 (lf0 := lf) (cl0 := cl) (cd0 := cd) (sg := [])) ?_)
            rintro x₁ M₁ hq₁
            refine wp_ireturn (ck_get kk_Pa_orderHead 31 rfl) rfl hq₁.nar ⟨_, rfl, ?_⟩
            exact ⟨I1, EnU.refl, hq₁, fun j lf2 sg hr => (fls_tru hr).elim⟩
        · omega
      · omega
    · omega
  · omega
end PH

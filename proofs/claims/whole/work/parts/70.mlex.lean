/-! ===== policies' names; the model's words and tokens ===== -/
section PPO
variable {g : Gl} {M : Mem} {pa tp L : Nat} {bt : Nat → Nat}
/-- a policy's name: its number, or the token at fault -/
def plF (tc : Nat → Nat) (en : Nat → Bool) : Bool × Nat := if 24 ≤ tc 0 ∧ tc 0 ≤ 28 then (if en 1 = true then (true, tc 0 - 24) else (false, 1)) else (false, 0)
def plQ (M : Mem) (pa tp L : Nat) (bt : Nat → Nat) (x : Int32) (M2 : Mem) : Prop := ∃ I2, M2 = (M.1, M.2.1, I2, M.2.2.2.1, up2 (mR M) pa 2 (some tp)) ∧ (∀ x, x < pa ∨ pa + 9 ≤ x → I2 x = mI M x) ∧ ((∃ k, k < 5 ∧ plF (tC bt L) (enT bt L) = (true, k) ∧ x = nI k ∧ I2 pa 1 = -1) ∨ (∃ j, plF (tC bt L) (enT bt L) = (false, j) ∧ x = -1 ∧ I2 pa 1 = nI (tS bt L j)))
theorem plQ.no {j lf cl : Nat} {cd : Nat → Int32} {x : Int32} {M2 : Mem} {sg : List Int32} {lf0 : Nat} (h : pOK (bgM M pa tp L) pa L bt cl cd (false, j, lf0, sg) x M2) (hp : plF (tC bt L) (enT bt L) = (false, j)) : plQ M pa tp L bt (-1) M2 := by
  rcases h with ⟨_, _, _, h, -⟩ | ⟨j2, lf2, sg2, hr, rfl, F, G, cd2, hF, rfl⟩
  · exact (fls_tru h).elim
  · injection hr with _ h2
    injection h2 with h3 h4
    subst h3
    refine ⟨up1 (up1 (up1 (up1 (mI M) pa (up1 (up1 (mI M pa) 3 (nI L)) 1 (-1))) pa F) (pa + 1) G) (pa + 8) cd2, rfl, ?_, Or.inr ⟨j, hp, rfl, ?_⟩⟩
    · intro x hx
      rw [up1_ne (by omega), up1_ne (by omega), up1_ne (by omega), up1_ne (by omega)]
    · rw [up1_ne (by omega), up1_ne (by omega), up1_eq]; exact hF
theorem plQ.yes {k lf cl : Nat} {cd : Nat → Int32} {s : Nat} (hk : k < 5) (hp : plF (tC bt L) (enT bt L) = (true, k)) : plQ M pa tp L bt (nI k) (cTk (bgM M pa tp L) pa L bt s lf cl cd) := by
  refine ⟨up1 (up1 (up1 (up1 (mI M) pa (up1 (up1 (mI M pa) 3 (nI L)) 1 (-1))) pa (paF (up1 (mI M) pa (up1 (up1 (mI M pa) 3 (nI L)) 1 (-1)) pa) lf (kOf bt L s) s (eOf bt L s) (vOf bt L s))) (pa + 1) (up1 (up1 (mI M) pa (up1 (up1 (mI M pa) 3 (nI L)) 1 (-1)) (pa + 1)) 8 (nI cl))) (pa + 8) cd, rfl, ?_, Or.inl ⟨k, hk, hp, rfl, ?_⟩⟩
  · intro x hx
    rw [up1_ne (by omega), up1_ne (by omega), up1_ne (by omega), up1_ne (by omega)]
  · rw [up1_ne (by omega), up1_ne (by omega), up1_eq]
    show paF (up1 (mI M) pa (up1 (up1 (mI M pa) 3 (nI L)) 1 (-1)) pa) lf _ s _ _ 1 = -1
    rw [up1_eq]
    simp [paF, up1]
theorem c_namedPolicy (hS : OutOK g) (hP : PaA0 (mT M) (mR M) pa tp) (hL : L ≤ 400) (hbt : ∀ j, j < 400 → mI M tp j = nI (bt j)) (hb2 : ∀ j, bt j < 256) : Ci g Y_Pa_namedPolicy 10 [.ref pa, .ref tp, .int (nI L)] M (fun x M2 => plQ M pa tp L bt x M2) := by
  have hX := TxOK.begin hP hL hbt hb2
  have hS1 := hS.1
  have hP0 := hP
  obtain ⟨t0, r0, hPr, t2, htp⟩ := hP
  have hkl1 : kOf bt L (tS bt L 1) ≤ 3 := kOf_le
  have e6 : ∀ M i lf cl cd, mI (cTk M pa L bt (tS bt L i) lf cl cd) pa 6 = nI (kOf bt L (tS bt L i)) := fun M i lf cl cd => by rw [cS_pa]; rfl
  refine cw_entry 1 pf_Pa_namedPolicy rfl ?_
  by_cases h0 : tC bt L 0 = 23 + 1
  · by_cases he : kOf bt L (tS bt L 1) = 0
    · have hp : plF (tC bt L) (enT bt L) = (true, 0) := by
        unfold plF
        rw [if_pos (by omega), if_pos (decide_eq_true he), h0]
      refine wp_aload_n rfl (ck_get kk_Pa_namedPolicy 0 rfl) ?_
      refine wp_aload_n rfl (ck_get kk_Pa_namedPolicy 1 rfl) ?_
      refine wp_iload_n rfl (ck_get kk_Pa_namedPolicy 2 rfl) ?_
      refine wp_cV2v (ck_get kk_Pa_namedPolicy 3 rfl) ml_Pa_50 (by omega) (Nat.le_of_ble_eq_true rfl) (by assumption) (Cv.to (c_begin hP0 hL hbt hb2) ?_)
      rintro M₁ ⟨lf, cl, cd, rfl⟩
      refine wp_aload_n rfl (ck_get kk_Pa_namedPolicy 4 rfl) ?_
      refine wp_ldcs (i := 23) hS1 (by decide) rfl rfl (ck_get kk_Pa_namedPolicy 5 rfl) ?_
      refine wp_cV1i (ck_get kk_Pa_namedPolicy 6 rfl) ml_Pa_56 (by omega) (Nat.le_of_ble_eq_true rfl) (by assumption) (Ci.to (c_isWordY hS hX (by decide) h0) ?_)
      rintro _ M1 ⟨rfl, eqm1⟩
      obtain rfl := eqm1.symm
      first | refine wp_if_eqN (t := 19) (ck_get kk_Pa_namedPolicy 7 rfl) (by decide) (by omega) (fun hc12 => ?_) (fun hc12 => ?_) | refine wp_if_eq (t := 19) (ck_get kk_Pa_namedPolicy 7 rfl) (by decide) (fun hc12 => ?_) (fun hc12 => ?_)
      · omega
      · refine wp_iconst (v := nI 0) (by decide) (ck_get kk_Pa_namedPolicy 8 rfl) ?_
        refine wp_goto (t := 72) (ck_get kk_Pa_namedPolicy 9 rfl) (by decide) ?_
        refine wp_istore_n (ck_get kk_Pa_namedPolicy 35 rfl) (by decide) rfl ?_
        refine wp_iload_n rfl (ck_get kk_Pa_namedPolicy 36 rfl) ?_
        refine wp_iconst (v := (-1)) (by decide) (ck_get kk_Pa_namedPolicy 37 rfl) ?_
        refine wp_icmp_eq (t := 82) (ck_get kk_Pa_namedPolicy 38 rfl) (by decide) (fun hc75 => ?_) (fun hc75 => ?_)
        · exact absurd hc75 (by decide)
        · refine wp_aload_n rfl (ck_get kk_Pa_namedPolicy 39 rfl) ?_
          refine wp_cV0v (ck_get kk_Pa_namedPolicy 40 rfl) ml_Pa_68 (by omega) (Nat.le_of_ble_eq_true rfl) (by assumption) (Cv.to (c_advanceT hX) ?_)
          rintro M₁ rfl
          refine wp_iload_n rfl (ck_get kk_Pa_namedPolicy 41 rfl) ?_
          refine wp_iconst (v := (-1)) (by decide) (ck_get kk_Pa_namedPolicy 42 rfl) ?_
          refine wp_icmp_eq (t := 94) (ck_get kk_Pa_namedPolicy 43 rfl) (by decide) (fun hc84 => ?_) (fun hc84 => ?_)
          · exact absurd hc84 (by decide)
          · refine wp_aload_n rfl (ck_get kk_Pa_namedPolicy 44 rfl) ?_
            refine wp_getIv (v := nI (kOf bt L (tS bt L 1))) (ck_get kk_Pa_namedPolicy 45 rfl) fl_Pa_38 (by assumption) (e6 _ _ _ _ _) ?_
            first | refine wp_if_eqN (t := 101) (ck_get kk_Pa_namedPolicy 46 rfl) (by decide) (by omega) (fun hc91 => ?_) (fun hc91 => ?_) | refine wp_if_eq (t := 101) (ck_get kk_Pa_namedPolicy 46 rfl) (by decide) (fun hc91 => ?_) (fun hc91 => ?_)
            · refine wp_iload_n rfl (ck_get kk_Pa_namedPolicy 52 rfl) ?_
              refine wp_ireturn (ck_get kk_Pa_namedPolicy 53 rfl) rfl rfl ⟨_, rfl, ?_⟩
              exact plQ.yes (by decide) hp
            · omega
    · have hp : plF (tC bt L) (enT bt L) = (false, 1) := by
        unfold plF
        rw [if_pos (by omega), if_neg (by rw [decide_eq_true_eq]; exact he)]
      refine wp_aload_n rfl (ck_get kk_Pa_namedPolicy 0 rfl) ?_
      refine wp_aload_n rfl (ck_get kk_Pa_namedPolicy 1 rfl) ?_
      refine wp_iload_n rfl (ck_get kk_Pa_namedPolicy 2 rfl) ?_
      refine wp_cV2v (ck_get kk_Pa_namedPolicy 3 rfl) ml_Pa_50 (by omega) (Nat.le_of_ble_eq_true rfl) (by assumption) (Cv.to (c_begin hP0 hL hbt hb2) ?_)
      rintro M₁ ⟨lf, cl, cd, rfl⟩
      refine wp_aload_n rfl (ck_get kk_Pa_namedPolicy 4 rfl) ?_
      refine wp_ldcs (i := 23) hS1 (by decide) rfl rfl (ck_get kk_Pa_namedPolicy 5 rfl) ?_
      refine wp_cV1i (ck_get kk_Pa_namedPolicy 6 rfl) ml_Pa_56 (by omega) (Nat.le_of_ble_eq_true rfl) (by assumption) (Ci.to (c_isWordY hS hX (by decide) h0) ?_)
      rintro _ M1 ⟨rfl, eqm1⟩
      obtain rfl := eqm1.symm
      first | refine wp_if_eqN (t := 19) (ck_get kk_Pa_namedPolicy 7 rfl) (by decide) (by omega) (fun hc12 => ?_) (fun hc12 => ?_) | refine wp_if_eq (t := 19) (ck_get kk_Pa_namedPolicy 7 rfl) (by decide) (fun hc12 => ?_) (fun hc12 => ?_)
      · omega
      · refine wp_iconst (v := nI 0) (by decide) (ck_get kk_Pa_namedPolicy 8 rfl) ?_
        refine wp_goto (t := 72) (ck_get kk_Pa_namedPolicy 9 rfl) (by decide) ?_
        refine wp_istore_n (ck_get kk_Pa_namedPolicy 35 rfl) (by decide) rfl ?_
        refine wp_iload_n rfl (ck_get kk_Pa_namedPolicy 36 rfl) ?_
        refine wp_iconst (v := (-1)) (by decide) (ck_get kk_Pa_namedPolicy 37 rfl) ?_
        refine wp_icmp_eq (t := 82) (ck_get kk_Pa_namedPolicy 38 rfl) (by decide) (fun hc75 => ?_) (fun hc75 => ?_)
        · exact absurd hc75 (by decide)
        · refine wp_aload_n rfl (ck_get kk_Pa_namedPolicy 39 rfl) ?_
          refine wp_cV0v (ck_get kk_Pa_namedPolicy 40 rfl) ml_Pa_68 (by omega) (Nat.le_of_ble_eq_true rfl) (by assumption) (Cv.to (c_advanceT hX) ?_)
          rintro M₁ rfl
          refine wp_iload_n rfl (ck_get kk_Pa_namedPolicy 41 rfl) ?_
          refine wp_iconst (v := (-1)) (by decide) (ck_get kk_Pa_namedPolicy 42 rfl) ?_
          refine wp_icmp_eq (t := 94) (ck_get kk_Pa_namedPolicy 43 rfl) (by decide) (fun hc84 => ?_) (fun hc84 => ?_)
          · exact absurd hc84 (by decide)
          · refine wp_aload_n rfl (ck_get kk_Pa_namedPolicy 44 rfl) ?_
            refine wp_getIv (v := nI (kOf bt L (tS bt L 1))) (ck_get kk_Pa_namedPolicy 45 rfl) fl_Pa_38 (by assumption) (e6 _ _ _ _ _) ?_
            first | refine wp_if_eqN (t := 101) (ck_get kk_Pa_namedPolicy 46 rfl) (by decide) (by omega) (fun hc91 => ?_) (fun hc91 => ?_) | refine wp_if_eq (t := 101) (ck_get kk_Pa_namedPolicy 46 rfl) (by decide) (fun hc91 => ?_) (fun hc91 => ?_)
            · omega
            · refine wp_aload_n rfl (ck_get kk_Pa_namedPolicy 47 rfl) ?_
              refine wp_cV0i (ck_get kk_Pa_namedPolicy 48 rfl) ml_Pa_71 (by omega) (Nat.le_of_ble_eq_true rfl) (by assumption) (Ci.to (c_failT hX (lf0 := 0) (cl0 := cl) (cd0 := cd) (sg := [])) ?_)
              rintro x₁ M₁ hq₁
              refine wp_pop rfl (ck_get kk_Pa_namedPolicy 49 rfl) ?_
              refine wp_iconst (v := (-1)) (by decide) (ck_get kk_Pa_namedPolicy 50 rfl) ?_
              refine wp_ireturn (ck_get kk_Pa_namedPolicy 51 rfl) rfl rfl ⟨_, rfl, ?_⟩
              exact plQ.no (lf := 0) hq₁ hp
  by_cases h1 : tC bt L 0 = 24 + 1
  · by_cases he : kOf bt L (tS bt L 1) = 0
    · have hp : plF (tC bt L) (enT bt L) = (true, 1) := by
        unfold plF
        rw [if_pos (by omega), if_pos (decide_eq_true he), h1]
      refine wp_aload_n rfl (ck_get kk_Pa_namedPolicy 0 rfl) ?_
      refine wp_aload_n rfl (ck_get kk_Pa_namedPolicy 1 rfl) ?_
      refine wp_iload_n rfl (ck_get kk_Pa_namedPolicy 2 rfl) ?_
      refine wp_cV2v (ck_get kk_Pa_namedPolicy 3 rfl) ml_Pa_50 (by omega) (Nat.le_of_ble_eq_true rfl) (by assumption) (Cv.to (c_begin hP0 hL hbt hb2) ?_)
      rintro M₁ ⟨lf, cl, cd, rfl⟩
      refine wp_aload_n rfl (ck_get kk_Pa_namedPolicy 4 rfl) ?_
      refine wp_ldcs (i := 23) hS1 (by decide) rfl rfl (ck_get kk_Pa_namedPolicy 5 rfl) ?_
      refine wp_cV1i (ck_get kk_Pa_namedPolicy 6 rfl) ml_Pa_56 (by omega) (Nat.le_of_ble_eq_true rfl) (by assumption) (Ci.to (c_isWordN hS hX (by decide) h0) ?_)
      rintro _ M1 ⟨rfl, eqm1⟩
      obtain rfl := eqm1.symm
      first | refine wp_if_eqN (t := 19) (ck_get kk_Pa_namedPolicy 7 rfl) (by decide) (by omega) (fun hc12 => ?_) (fun hc12 => ?_) | refine wp_if_eq (t := 19) (ck_get kk_Pa_namedPolicy 7 rfl) (by decide) (fun hc12 => ?_) (fun hc12 => ?_)
      · refine wp_aload_n rfl (ck_get kk_Pa_namedPolicy 10 rfl) ?_
        refine wp_ldcs (i := 24) hS1 (by decide) rfl rfl (ck_get kk_Pa_namedPolicy 11 rfl) ?_
        refine wp_cV1i (ck_get kk_Pa_namedPolicy 12 rfl) ml_Pa_56 (by omega) (Nat.le_of_ble_eq_true rfl) (by assumption) (Ci.to (c_isWordY hS hX (by decide) h1) ?_)
        rintro _ M1 ⟨rfl, eqm1⟩
        obtain rfl := eqm1.symm
        first | refine wp_if_eqN (t := 32) (ck_get kk_Pa_namedPolicy 13 rfl) (by decide) (by omega) (fun hc25 => ?_) (fun hc25 => ?_) | refine wp_if_eq (t := 32) (ck_get kk_Pa_namedPolicy 13 rfl) (by decide) (fun hc25 => ?_) (fun hc25 => ?_)
        · omega
        · refine wp_iconst (v := nI 1) (by decide) (ck_get kk_Pa_namedPolicy 14 rfl) ?_
          refine wp_goto (t := 72) (ck_get kk_Pa_namedPolicy 15 rfl) (by decide) ?_
          refine wp_istore_n (ck_get kk_Pa_namedPolicy 35 rfl) (by decide) rfl ?_
          refine wp_iload_n rfl (ck_get kk_Pa_namedPolicy 36 rfl) ?_
          refine wp_iconst (v := (-1)) (by decide) (ck_get kk_Pa_namedPolicy 37 rfl) ?_
          refine wp_icmp_eq (t := 82) (ck_get kk_Pa_namedPolicy 38 rfl) (by decide) (fun hc75 => ?_) (fun hc75 => ?_)
          · exact absurd hc75 (by decide)
          · refine wp_aload_n rfl (ck_get kk_Pa_namedPolicy 39 rfl) ?_
            refine wp_cV0v (ck_get kk_Pa_namedPolicy 40 rfl) ml_Pa_68 (by omega) (Nat.le_of_ble_eq_true rfl) (by assumption) (Cv.to (c_advanceT hX) ?_)
            rintro M₁ rfl
            refine wp_iload_n rfl (ck_get kk_Pa_namedPolicy 41 rfl) ?_
            refine wp_iconst (v := (-1)) (by decide) (ck_get kk_Pa_namedPolicy 42 rfl) ?_
            refine wp_icmp_eq (t := 94) (ck_get kk_Pa_namedPolicy 43 rfl) (by decide) (fun hc84 => ?_) (fun hc84 => ?_)
            · exact absurd hc84 (by decide)
            · refine wp_aload_n rfl (ck_get kk_Pa_namedPolicy 44 rfl) ?_
              refine wp_getIv (v := nI (kOf bt L (tS bt L 1))) (ck_get kk_Pa_namedPolicy 45 rfl) fl_Pa_38 (by assumption) (e6 _ _ _ _ _) ?_
              first | refine wp_if_eqN (t := 101) (ck_get kk_Pa_namedPolicy 46 rfl) (by decide) (by omega) (fun hc91 => ?_) (fun hc91 => ?_) | refine wp_if_eq (t := 101) (ck_get kk_Pa_namedPolicy 46 rfl) (by decide) (fun hc91 => ?_) (fun hc91 => ?_)
              · refine wp_iload_n rfl (ck_get kk_Pa_namedPolicy 52 rfl) ?_
                refine wp_ireturn (ck_get kk_Pa_namedPolicy 53 rfl) rfl rfl ⟨_, rfl, ?_⟩
                exact plQ.yes (by decide) hp
              · omega
      · omega
    · have hp : plF (tC bt L) (enT bt L) = (false, 1) := by
        unfold plF
        rw [if_pos (by omega), if_neg (by rw [decide_eq_true_eq]; exact he)]
      refine wp_aload_n rfl (ck_get kk_Pa_namedPolicy 0 rfl) ?_
      refine wp_aload_n rfl (ck_get kk_Pa_namedPolicy 1 rfl) ?_
      refine wp_iload_n rfl (ck_get kk_Pa_namedPolicy 2 rfl) ?_
      refine wp_cV2v (ck_get kk_Pa_namedPolicy 3 rfl) ml_Pa_50 (by omega) (Nat.le_of_ble_eq_true rfl) (by assumption) (Cv.to (c_begin hP0 hL hbt hb2) ?_)
      rintro M₁ ⟨lf, cl, cd, rfl⟩
      refine wp_aload_n rfl (ck_get kk_Pa_namedPolicy 4 rfl) ?_
      refine wp_ldcs (i := 23) hS1 (by decide) rfl rfl (ck_get kk_Pa_namedPolicy 5 rfl) ?_
      refine wp_cV1i (ck_get kk_Pa_namedPolicy 6 rfl) ml_Pa_56 (by omega) (Nat.le_of_ble_eq_true rfl) (by assumption) (Ci.to (c_isWordN hS hX (by decide) h0) ?_)
      rintro _ M1 ⟨rfl, eqm1⟩
      obtain rfl := eqm1.symm
      first | refine wp_if_eqN (t := 19) (ck_get kk_Pa_namedPolicy 7 rfl) (by decide) (by omega) (fun hc12 => ?_) (fun hc12 => ?_) | refine wp_if_eq (t := 19) (ck_get kk_Pa_namedPolicy 7 rfl) (by decide) (fun hc12 => ?_) (fun hc12 => ?_)
      · refine wp_aload_n rfl (ck_get kk_Pa_namedPolicy 10 rfl) ?_
        refine wp_ldcs (i := 24) hS1 (by decide) rfl rfl (ck_get kk_Pa_namedPolicy 11 rfl) ?_
        refine wp_cV1i (ck_get kk_Pa_namedPolicy 12 rfl) ml_Pa_56 (by omega) (Nat.le_of_ble_eq_true rfl) (by assumption) (Ci.to (c_isWordY hS hX (by decide) h1) ?_)
        rintro _ M1 ⟨rfl, eqm1⟩
        obtain rfl := eqm1.symm
        first | refine wp_if_eqN (t := 32) (ck_get kk_Pa_namedPolicy 13 rfl) (by decide) (by omega) (fun hc25 => ?_) (fun hc25 => ?_) | refine wp_if_eq (t := 32) (ck_get kk_Pa_namedPolicy 13 rfl) (by decide) (fun hc25 => ?_) (fun hc25 => ?_)
        · omega
        · refine wp_iconst (v := nI 1) (by decide) (ck_get kk_Pa_namedPolicy 14 rfl) ?_
          refine wp_goto (t := 72) (ck_get kk_Pa_namedPolicy 15 rfl) (by decide) ?_
          refine wp_istore_n (ck_get kk_Pa_namedPolicy 35 rfl) (by decide) rfl ?_
          refine wp_iload_n rfl (ck_get kk_Pa_namedPolicy 36 rfl) ?_
          refine wp_iconst (v := (-1)) (by decide) (ck_get kk_Pa_namedPolicy 37 rfl) ?_
          refine wp_icmp_eq (t := 82) (ck_get kk_Pa_namedPolicy 38 rfl) (by decide) (fun hc75 => ?_) (fun hc75 => ?_)
          · exact absurd hc75 (by decide)
          · refine wp_aload_n rfl (ck_get kk_Pa_namedPolicy 39 rfl) ?_
            refine wp_cV0v (ck_get kk_Pa_namedPolicy 40 rfl) ml_Pa_68 (by omega) (Nat.le_of_ble_eq_true rfl) (by assumption) (Cv.to (c_advanceT hX) ?_)
            rintro M₁ rfl
            refine wp_iload_n rfl (ck_get kk_Pa_namedPolicy 41 rfl) ?_
            refine wp_iconst (v := (-1)) (by decide) (ck_get kk_Pa_namedPolicy 42 rfl) ?_
            refine wp_icmp_eq (t := 94) (ck_get kk_Pa_namedPolicy 43 rfl) (by decide) (fun hc84 => ?_) (fun hc84 => ?_)
            · exact absurd hc84 (by decide)
            · refine wp_aload_n rfl (ck_get kk_Pa_namedPolicy 44 rfl) ?_
              refine wp_getIv (v := nI (kOf bt L (tS bt L 1))) (ck_get kk_Pa_namedPolicy 45 rfl) fl_Pa_38 (by assumption) (e6 _ _ _ _ _) ?_
              first | refine wp_if_eqN (t := 101) (ck_get kk_Pa_namedPolicy 46 rfl) (by decide) (by omega) (fun hc91 => ?_) (fun hc91 => ?_) | refine wp_if_eq (t := 101) (ck_get kk_Pa_namedPolicy 46 rfl) (by decide) (fun hc91 => ?_) (fun hc91 => ?_)
              · omega
              · refine wp_aload_n rfl (ck_get kk_Pa_namedPolicy 47 rfl) ?_
                refine wp_cV0i (ck_get kk_Pa_namedPolicy 48 rfl) ml_Pa_71 (by omega) (Nat.le_of_ble_eq_true rfl) (by assumption) (Ci.to (c_failT hX (lf0 := 0) (cl0 := cl) (cd0 := cd) (sg := [])) ?_)
                rintro x₁ M₁ hq₁
                refine wp_pop rfl (ck_get kk_Pa_namedPolicy 49 rfl) ?_
                refine wp_iconst (v := (-1)) (by decide) (ck_get kk_Pa_namedPolicy 50 rfl) ?_
                refine wp_ireturn (ck_get kk_Pa_namedPolicy 51 rfl) rfl rfl ⟨_, rfl, ?_⟩
                exact plQ.no (lf := 0) hq₁ hp
      · omega
  by_cases h2 : tC bt L 0 = 25 + 1
  · by_cases he : kOf bt L (tS bt L 1) = 0
    · have hp : plF (tC bt L) (enT bt L) = (true, 2) := by
        unfold plF
        rw [if_pos (by omega), if_pos (decide_eq_true he), h2]
      refine wp_aload_n rfl (ck_get kk_Pa_namedPolicy 0 rfl) ?_
      refine wp_aload_n rfl (ck_get kk_Pa_namedPolicy 1 rfl) ?_
      refine wp_iload_n rfl (ck_get kk_Pa_namedPolicy 2 rfl) ?_
      refine wp_cV2v (ck_get kk_Pa_namedPolicy 3 rfl) ml_Pa_50 (by omega) (Nat.le_of_ble_eq_true rfl) (by assumption) (Cv.to (c_begin hP0 hL hbt hb2) ?_)
      rintro M₁ ⟨lf, cl, cd, rfl⟩
      refine wp_aload_n rfl (ck_get kk_Pa_namedPolicy 4 rfl) ?_
      refine wp_ldcs (i := 23) hS1 (by decide) rfl rfl (ck_get kk_Pa_namedPolicy 5 rfl) ?_
      refine wp_cV1i (ck_get kk_Pa_namedPolicy 6 rfl) ml_Pa_56 (by omega) (Nat.le_of_ble_eq_true rfl) (by assumption) (Ci.to (c_isWordN hS hX (by decide) h0) ?_)
      rintro _ M1 ⟨rfl, eqm1⟩
      obtain rfl := eqm1.symm
      first | refine wp_if_eqN (t := 19) (ck_get kk_Pa_namedPolicy 7 rfl) (by decide) (by omega) (fun hc12 => ?_) (fun hc12 => ?_) | refine wp_if_eq (t := 19) (ck_get kk_Pa_namedPolicy 7 rfl) (by decide) (fun hc12 => ?_) (fun hc12 => ?_)
      · refine wp_aload_n rfl (ck_get kk_Pa_namedPolicy 10 rfl) ?_
        refine wp_ldcs (i := 24) hS1 (by decide) rfl rfl (ck_get kk_Pa_namedPolicy 11 rfl) ?_
        refine wp_cV1i (ck_get kk_Pa_namedPolicy 12 rfl) ml_Pa_56 (by omega) (Nat.le_of_ble_eq_true rfl) (by assumption) (Ci.to (c_isWordN hS hX (by decide) h1) ?_)
        rintro _ M1 ⟨rfl, eqm1⟩
        obtain rfl := eqm1.symm
        first | refine wp_if_eqN (t := 32) (ck_get kk_Pa_namedPolicy 13 rfl) (by decide) (by omega) (fun hc25 => ?_) (fun hc25 => ?_) | refine wp_if_eq (t := 32) (ck_get kk_Pa_namedPolicy 13 rfl) (by decide) (fun hc25 => ?_) (fun hc25 => ?_)
        · refine wp_aload_n rfl (ck_get kk_Pa_namedPolicy 16 rfl) ?_
          refine wp_ldcs (i := 25) hS1 (by decide) rfl rfl (ck_get kk_Pa_namedPolicy 17 rfl) ?_
          refine wp_cV1i (ck_get kk_Pa_namedPolicy 18 rfl) ml_Pa_56 (by omega) (Nat.le_of_ble_eq_true rfl) (by assumption) (Ci.to (c_isWordY hS hX (by decide) h2) ?_)
          rintro _ M1 ⟨rfl, eqm1⟩
          obtain rfl := eqm1.symm
          first | refine wp_if_eqN (t := 45) (ck_get kk_Pa_namedPolicy 19 rfl) (by decide) (by omega) (fun hc38 => ?_) (fun hc38 => ?_) | refine wp_if_eq (t := 45) (ck_get kk_Pa_namedPolicy 19 rfl) (by decide) (fun hc38 => ?_) (fun hc38 => ?_)
          · omega
          · refine wp_iconst (v := nI 2) (by decide) (ck_get kk_Pa_namedPolicy 20 rfl) ?_
            refine wp_goto (t := 72) (ck_get kk_Pa_namedPolicy 21 rfl) (by decide) ?_
            refine wp_istore_n (ck_get kk_Pa_namedPolicy 35 rfl) (by decide) rfl ?_
            refine wp_iload_n rfl (ck_get kk_Pa_namedPolicy 36 rfl) ?_
            refine wp_iconst (v := (-1)) (by decide) (ck_get kk_Pa_namedPolicy 37 rfl) ?_
            refine wp_icmp_eq (t := 82) (ck_get kk_Pa_namedPolicy 38 rfl) (by decide) (fun hc75 => ?_) (fun hc75 => ?_)
            · exact absurd hc75 (by decide)
            · refine wp_aload_n rfl (ck_get kk_Pa_namedPolicy 39 rfl) ?_
              refine wp_cV0v (ck_get kk_Pa_namedPolicy 40 rfl) ml_Pa_68 (by omega) (Nat.le_of_ble_eq_true rfl) (by assumption) (Cv.to (c_advanceT hX) ?_)
              rintro M₁ rfl
              refine wp_iload_n rfl (ck_get kk_Pa_namedPolicy 41 rfl) ?_
              refine wp_iconst (v := (-1)) (by decide) (ck_get kk_Pa_namedPolicy 42 rfl) ?_
              refine wp_icmp_eq (t := 94) (ck_get kk_Pa_namedPolicy 43 rfl) (by decide) (fun hc84 => ?_) (fun hc84 => ?_)
              · exact absurd hc84 (by decide)
              · refine wp_aload_n rfl (ck_get kk_Pa_namedPolicy 44 rfl) ?_
                refine wp_getIv (v := nI (kOf bt L (tS bt L 1))) (ck_get kk_Pa_namedPolicy 45 rfl) fl_Pa_38 (by assumption) (e6 _ _ _ _ _) ?_
                first | refine wp_if_eqN (t := 101) (ck_get kk_Pa_namedPolicy 46 rfl) (by decide) (by omega) (fun hc91 => ?_) (fun hc91 => ?_) | refine wp_if_eq (t := 101) (ck_get kk_Pa_namedPolicy 46 rfl) (by decide) (fun hc91 => ?_) (fun hc91 => ?_)
                · refine wp_iload_n rfl (ck_get kk_Pa_namedPolicy 52 rfl) ?_
                  refine wp_ireturn (ck_get kk_Pa_namedPolicy 53 rfl) rfl rfl ⟨_, rfl, ?_⟩
                  exact plQ.yes (by decide) hp
                · omega
        · omega
      · omega
    · have hp : plF (tC bt L) (enT bt L) = (false, 1) := by
        unfold plF
        rw [if_pos (by omega), if_neg (by rw [decide_eq_true_eq]; exact he)]
      refine wp_aload_n rfl (ck_get kk_Pa_namedPolicy 0 rfl) ?_
      refine wp_aload_n rfl (ck_get kk_Pa_namedPolicy 1 rfl) ?_
      refine wp_iload_n rfl (ck_get kk_Pa_namedPolicy 2 rfl) ?_
      refine wp_cV2v (ck_get kk_Pa_namedPolicy 3 rfl) ml_Pa_50 (by omega) (Nat.le_of_ble_eq_true rfl) (by assumption) (Cv.to (c_begin hP0 hL hbt hb2) ?_)
      rintro M₁ ⟨lf, cl, cd, rfl⟩
      refine wp_aload_n rfl (ck_get kk_Pa_namedPolicy 4 rfl) ?_
      refine wp_ldcs (i := 23) hS1 (by decide) rfl rfl (ck_get kk_Pa_namedPolicy 5 rfl) ?_
      refine wp_cV1i (ck_get kk_Pa_namedPolicy 6 rfl) ml_Pa_56 (by omega) (Nat.le_of_ble_eq_true rfl) (by assumption) (Ci.to (c_isWordN hS hX (by decide) h0) ?_)
      rintro _ M1 ⟨rfl, eqm1⟩
      obtain rfl := eqm1.symm
      first | refine wp_if_eqN (t := 19) (ck_get kk_Pa_namedPolicy 7 rfl) (by decide) (by omega) (fun hc12 => ?_) (fun hc12 => ?_) | refine wp_if_eq (t := 19) (ck_get kk_Pa_namedPolicy 7 rfl) (by decide) (fun hc12 => ?_) (fun hc12 => ?_)
      · refine wp_aload_n rfl (ck_get kk_Pa_namedPolicy 10 rfl) ?_
        refine wp_ldcs (i := 24) hS1 (by decide) rfl rfl (ck_get kk_Pa_namedPolicy 11 rfl) ?_
        refine wp_cV1i (ck_get kk_Pa_namedPolicy 12 rfl) ml_Pa_56 (by omega) (Nat.le_of_ble_eq_true rfl) (by assumption) (Ci.to (c_isWordN hS hX (by decide) h1) ?_)
        rintro _ M1 ⟨rfl, eqm1⟩
        obtain rfl := eqm1.symm
        first | refine wp_if_eqN (t := 32) (ck_get kk_Pa_namedPolicy 13 rfl) (by decide) (by omega) (fun hc25 => ?_) (fun hc25 => ?_) | refine wp_if_eq (t := 32) (ck_get kk_Pa_namedPolicy 13 rfl) (by decide) (fun hc25 => ?_) (fun hc25 => ?_)
        · refine wp_aload_n rfl (ck_get kk_Pa_namedPolicy 16 rfl) ?_
          refine wp_ldcs (i := 25) hS1 (by decide) rfl rfl (ck_get kk_Pa_namedPolicy 17 rfl) ?_
          refine wp_cV1i (ck_get kk_Pa_namedPolicy 18 rfl) ml_Pa_56 (by omega) (Nat.le_of_ble_eq_true rfl) (by assumption) (Ci.to (c_isWordY hS hX (by decide) h2) ?_)
          rintro _ M1 ⟨rfl, eqm1⟩
          obtain rfl := eqm1.symm
          first | refine wp_if_eqN (t := 45) (ck_get kk_Pa_namedPolicy 19 rfl) (by decide) (by omega) (fun hc38 => ?_) (fun hc38 => ?_) | refine wp_if_eq (t := 45) (ck_get kk_Pa_namedPolicy 19 rfl) (by decide) (fun hc38 => ?_) (fun hc38 => ?_)
          · omega
          · refine wp_iconst (v := nI 2) (by decide) (ck_get kk_Pa_namedPolicy 20 rfl) ?_
            refine wp_goto (t := 72) (ck_get kk_Pa_namedPolicy 21 rfl) (by decide) ?_
            refine wp_istore_n (ck_get kk_Pa_namedPolicy 35 rfl) (by decide) rfl ?_
            refine wp_iload_n rfl (ck_get kk_Pa_namedPolicy 36 rfl) ?_
            refine wp_iconst (v := (-1)) (by decide) (ck_get kk_Pa_namedPolicy 37 rfl) ?_
            refine wp_icmp_eq (t := 82) (ck_get kk_Pa_namedPolicy 38 rfl) (by decide) (fun hc75 => ?_) (fun hc75 => ?_)
            · exact absurd hc75 (by decide)
            · refine wp_aload_n rfl (ck_get kk_Pa_namedPolicy 39 rfl) ?_
              refine wp_cV0v (ck_get kk_Pa_namedPolicy 40 rfl) ml_Pa_68 (by omega) (Nat.le_of_ble_eq_true rfl) (by assumption) (Cv.to (c_advanceT hX) ?_)
              rintro M₁ rfl
              refine wp_iload_n rfl (ck_get kk_Pa_namedPolicy 41 rfl) ?_
              refine wp_iconst (v := (-1)) (by decide) (ck_get kk_Pa_namedPolicy 42 rfl) ?_
              refine wp_icmp_eq (t := 94) (ck_get kk_Pa_namedPolicy 43 rfl) (by decide) (fun hc84 => ?_) (fun hc84 => ?_)
              · exact absurd hc84 (by decide)
              · refine wp_aload_n rfl (ck_get kk_Pa_namedPolicy 44 rfl) ?_
                refine wp_getIv (v := nI (kOf bt L (tS bt L 1))) (ck_get kk_Pa_namedPolicy 45 rfl) fl_Pa_38 (by assumption) (e6 _ _ _ _ _) ?_
                first | refine wp_if_eqN (t := 101) (ck_get kk_Pa_namedPolicy 46 rfl) (by decide) (by omega) (fun hc91 => ?_) (fun hc91 => ?_) | refine wp_if_eq (t := 101) (ck_get kk_Pa_namedPolicy 46 rfl) (by decide) (fun hc91 => ?_) (fun hc91 => ?_)
                · omega
                · refine wp_aload_n rfl (ck_get kk_Pa_namedPolicy 47 rfl) ?_
                  refine wp_cV0i (ck_get kk_Pa_namedPolicy 48 rfl) ml_Pa_71 (by omega) (Nat.le_of_ble_eq_true rfl) (by assumption) (Ci.to (c_failT hX (lf0 := 0) (cl0 := cl) (cd0 := cd) (sg := [])) ?_)
                  rintro x₁ M₁ hq₁
                  refine wp_pop rfl (ck_get kk_Pa_namedPolicy 49 rfl) ?_
                  refine wp_iconst (v := (-1)) (by decide) (ck_get kk_Pa_namedPolicy 50 rfl) ?_
                  refine wp_ireturn (ck_get kk_Pa_namedPolicy 51 rfl) rfl rfl ⟨_, rfl, ?_⟩
                  exact plQ.no (lf := 0) hq₁ hp
        · omega
      · omega
  by_cases h3 : tC bt L 0 = 26 + 1
  · by_cases he : kOf bt L (tS bt L 1) = 0
    · have hp : plF (tC bt L) (enT bt L) = (true, 3) := by
        unfold plF
        rw [if_pos (by omega), if_pos (decide_eq_true he), h3]
      refine wp_aload_n rfl (ck_get kk_Pa_namedPolicy 0 rfl) ?_
      refine wp_aload_n rfl (ck_get kk_Pa_namedPolicy 1 rfl) ?_
      refine wp_iload_n rfl (ck_get kk_Pa_namedPolicy 2 rfl) ?_
      refine wp_cV2v (ck_get kk_Pa_namedPolicy 3 rfl) ml_Pa_50 (by omega) (Nat.le_of_ble_eq_true rfl) (by assumption) (Cv.to (c_begin hP0 hL hbt hb2) ?_)
      rintro M₁ ⟨lf, cl, cd, rfl⟩
      refine wp_aload_n rfl (ck_get kk_Pa_namedPolicy 4 rfl) ?_
      refine wp_ldcs (i := 23) hS1 (by decide) rfl rfl (ck_get kk_Pa_namedPolicy 5 rfl) ?_
      refine wp_cV1i (ck_get kk_Pa_namedPolicy 6 rfl) ml_Pa_56 (by omega) (Nat.le_of_ble_eq_true rfl) (by assumption) (Ci.to (c_isWordN hS hX (by decide) h0) ?_)
      rintro _ M1 ⟨rfl, eqm1⟩
      obtain rfl := eqm1.symm
      first | refine wp_if_eqN (t := 19) (ck_get kk_Pa_namedPolicy 7 rfl) (by decide) (by omega) (fun hc12 => ?_) (fun hc12 => ?_) | refine wp_if_eq (t := 19) (ck_get kk_Pa_namedPolicy 7 rfl) (by decide) (fun hc12 => ?_) (fun hc12 => ?_)
      · refine wp_aload_n rfl (ck_get kk_Pa_namedPolicy 10 rfl) ?_
        refine wp_ldcs (i := 24) hS1 (by decide) rfl rfl (ck_get kk_Pa_namedPolicy 11 rfl) ?_
        refine wp_cV1i (ck_get kk_Pa_namedPolicy 12 rfl) ml_Pa_56 (by omega) (Nat.le_of_ble_eq_true rfl) (by assumption) (Ci.to (c_isWordN hS hX (by decide) h1) ?_)
        rintro _ M1 ⟨rfl, eqm1⟩
        obtain rfl := eqm1.symm
        first | refine wp_if_eqN (t := 32) (ck_get kk_Pa_namedPolicy 13 rfl) (by decide) (by omega) (fun hc25 => ?_) (fun hc25 => ?_) | refine wp_if_eq (t := 32) (ck_get kk_Pa_namedPolicy 13 rfl) (by decide) (fun hc25 => ?_) (fun hc25 => ?_)
        · refine wp_aload_n rfl (ck_get kk_Pa_namedPolicy 16 rfl) ?_
          refine wp_ldcs (i := 25) hS1 (by decide) rfl rfl (ck_get kk_Pa_namedPolicy 17 rfl) ?_
          refine wp_cV1i (ck_get kk_Pa_namedPolicy 18 rfl) ml_Pa_56 (by omega) (Nat.le_of_ble_eq_true rfl) (by assumption) (Ci.to (c_isWordN hS hX (by decide) h2) ?_)
          rintro _ M1 ⟨rfl, eqm1⟩
          obtain rfl := eqm1.symm
          first | refine wp_if_eqN (t := 45) (ck_get kk_Pa_namedPolicy 19 rfl) (by decide) (by omega) (fun hc38 => ?_) (fun hc38 => ?_) | refine wp_if_eq (t := 45) (ck_get kk_Pa_namedPolicy 19 rfl) (by decide) (fun hc38 => ?_) (fun hc38 => ?_)
          · refine wp_aload_n rfl (ck_get kk_Pa_namedPolicy 22 rfl) ?_
            refine wp_ldcs (i := 26) hS1 (by decide) rfl rfl (ck_get kk_Pa_namedPolicy 23 rfl) ?_
            refine wp_cV1i (ck_get kk_Pa_namedPolicy 24 rfl) ml_Pa_56 (by omega) (Nat.le_of_ble_eq_true rfl) (by assumption) (Ci.to (c_isWordY hS hX (by decide) h3) ?_)
            rintro _ M1 ⟨rfl, eqm1⟩
            obtain rfl := eqm1.symm
            first | refine wp_if_eqN (t := 58) (ck_get kk_Pa_namedPolicy 25 rfl) (by decide) (by omega) (fun hc51 => ?_) (fun hc51 => ?_) | refine wp_if_eq (t := 58) (ck_get kk_Pa_namedPolicy 25 rfl) (by decide) (fun hc51 => ?_) (fun hc51 => ?_)
            · omega
            · refine wp_iconst (v := nI 3) (by decide) (ck_get kk_Pa_namedPolicy 26 rfl) ?_
              refine wp_goto (t := 72) (ck_get kk_Pa_namedPolicy 27 rfl) (by decide) ?_
              refine wp_istore_n (ck_get kk_Pa_namedPolicy 35 rfl) (by decide) rfl ?_
              refine wp_iload_n rfl (ck_get kk_Pa_namedPolicy 36 rfl) ?_
              refine wp_iconst (v := (-1)) (by decide) (ck_get kk_Pa_namedPolicy 37 rfl) ?_
              refine wp_icmp_eq (t := 82) (ck_get kk_Pa_namedPolicy 38 rfl) (by decide) (fun hc75 => ?_) (fun hc75 => ?_)
              · exact absurd hc75 (by decide)
              · refine wp_aload_n rfl (ck_get kk_Pa_namedPolicy 39 rfl) ?_
                refine wp_cV0v (ck_get kk_Pa_namedPolicy 40 rfl) ml_Pa_68 (by omega) (Nat.le_of_ble_eq_true rfl) (by assumption) (Cv.to (c_advanceT hX) ?_)
                rintro M₁ rfl
                refine wp_iload_n rfl (ck_get kk_Pa_namedPolicy 41 rfl) ?_
                refine wp_iconst (v := (-1)) (by decide) (ck_get kk_Pa_namedPolicy 42 rfl) ?_
                refine wp_icmp_eq (t := 94) (ck_get kk_Pa_namedPolicy 43 rfl) (by decide) (fun hc84 => ?_) (fun hc84 => ?_)
                · exact absurd hc84 (by decide)
                · refine wp_aload_n rfl (ck_get kk_Pa_namedPolicy 44 rfl) ?_
                  refine wp_getIv (v := nI (kOf bt L (tS bt L 1))) (ck_get kk_Pa_namedPolicy 45 rfl) fl_Pa_38 (by assumption) (e6 _ _ _ _ _) ?_
                  first | refine wp_if_eqN (t := 101) (ck_get kk_Pa_namedPolicy 46 rfl) (by decide) (by omega) (fun hc91 => ?_) (fun hc91 => ?_) | refine wp_if_eq (t := 101) (ck_get kk_Pa_namedPolicy 46 rfl) (by decide) (fun hc91 => ?_) (fun hc91 => ?_)
                  · refine wp_iload_n rfl (ck_get kk_Pa_namedPolicy 52 rfl) ?_
                    refine wp_ireturn (ck_get kk_Pa_namedPolicy 53 rfl) rfl rfl ⟨_, rfl, ?_⟩
                    exact plQ.yes (by decide) hp
                  · omega
          · omega
        · omega
      · omega
    · have hp : plF (tC bt L) (enT bt L) = (false, 1) := by
        unfold plF
        rw [if_pos (by omega), if_neg (by rw [decide_eq_true_eq]; exact he)]
      refine wp_aload_n rfl (ck_get kk_Pa_namedPolicy 0 rfl) ?_
      refine wp_aload_n rfl (ck_get kk_Pa_namedPolicy 1 rfl) ?_
      refine wp_iload_n rfl (ck_get kk_Pa_namedPolicy 2 rfl) ?_
      refine wp_cV2v (ck_get kk_Pa_namedPolicy 3 rfl) ml_Pa_50 (by omega) (Nat.le_of_ble_eq_true rfl) (by assumption) (Cv.to (c_begin hP0 hL hbt hb2) ?_)
      rintro M₁ ⟨lf, cl, cd, rfl⟩
      refine wp_aload_n rfl (ck_get kk_Pa_namedPolicy 4 rfl) ?_
      refine wp_ldcs (i := 23) hS1 (by decide) rfl rfl (ck_get kk_Pa_namedPolicy 5 rfl) ?_
      refine wp_cV1i (ck_get kk_Pa_namedPolicy 6 rfl) ml_Pa_56 (by omega) (Nat.le_of_ble_eq_true rfl) (by assumption) (Ci.to (c_isWordN hS hX (by decide) h0) ?_)
      rintro _ M1 ⟨rfl, eqm1⟩
      obtain rfl := eqm1.symm
      first | refine wp_if_eqN (t := 19) (ck_get kk_Pa_namedPolicy 7 rfl) (by decide) (by omega) (fun hc12 => ?_) (fun hc12 => ?_) | refine wp_if_eq (t := 19) (ck_get kk_Pa_namedPolicy 7 rfl) (by decide) (fun hc12 => ?_) (fun hc12 => ?_)
      · refine wp_aload_n rfl (ck_get kk_Pa_namedPolicy 10 rfl) ?_
        refine wp_ldcs (i := 24) hS1 (by decide) rfl rfl (ck_get kk_Pa_namedPolicy 11 rfl) ?_
        refine wp_cV1i (ck_get kk_Pa_namedPolicy 12 rfl) ml_Pa_56 (by omega) (Nat.le_of_ble_eq_true rfl) (by assumption) (Ci.to (c_isWordN hS hX (by decide) h1) ?_)
        rintro _ M1 ⟨rfl, eqm1⟩
        obtain rfl := eqm1.symm
        first | refine wp_if_eqN (t := 32) (ck_get kk_Pa_namedPolicy 13 rfl) (by decide) (by omega) (fun hc25 => ?_) (fun hc25 => ?_) | refine wp_if_eq (t := 32) (ck_get kk_Pa_namedPolicy 13 rfl) (by decide) (fun hc25 => ?_) (fun hc25 => ?_)
        · refine wp_aload_n rfl (ck_get kk_Pa_namedPolicy 16 rfl) ?_
          refine wp_ldcs (i := 25) hS1 (by decide) rfl rfl (ck_get kk_Pa_namedPolicy 17 rfl) ?_
          refine wp_cV1i (ck_get kk_Pa_namedPolicy 18 rfl) ml_Pa_56 (by omega) (Nat.le_of_ble_eq_true rfl) (by assumption) (Ci.to (c_isWordN hS hX (by decide) h2) ?_)
          rintro _ M1 ⟨rfl, eqm1⟩
          obtain rfl := eqm1.symm
          first | refine wp_if_eqN (t := 45) (ck_get kk_Pa_namedPolicy 19 rfl) (by decide) (by omega) (fun hc38 => ?_) (fun hc38 => ?_) | refine wp_if_eq (t := 45) (ck_get kk_Pa_namedPolicy 19 rfl) (by decide) (fun hc38 => ?_) (fun hc38 => ?_)
          · refine wp_aload_n rfl (ck_get kk_Pa_namedPolicy 22 rfl) ?_
            refine wp_ldcs (i := 26) hS1 (by decide) rfl rfl (ck_get kk_Pa_namedPolicy 23 rfl) ?_
            refine wp_cV1i (ck_get kk_Pa_namedPolicy 24 rfl) ml_Pa_56 (by omega) (Nat.le_of_ble_eq_true rfl) (by assumption) (Ci.to (c_isWordY hS hX (by decide) h3) ?_)
            rintro _ M1 ⟨rfl, eqm1⟩
            obtain rfl := eqm1.symm
            first | refine wp_if_eqN (t := 58) (ck_get kk_Pa_namedPolicy 25 rfl) (by decide) (by omega) (fun hc51 => ?_) (fun hc51 => ?_) | refine wp_if_eq (t := 58) (ck_get kk_Pa_namedPolicy 25 rfl) (by decide) (fun hc51 => ?_) (fun hc51 => ?_)
            · omega
            · refine wp_iconst (v := nI 3) (by decide) (ck_get kk_Pa_namedPolicy 26 rfl) ?_
              refine wp_goto (t := 72) (ck_get kk_Pa_namedPolicy 27 rfl) (by decide) ?_
              refine wp_istore_n (ck_get kk_Pa_namedPolicy 35 rfl) (by decide) rfl ?_
              refine wp_iload_n rfl (ck_get kk_Pa_namedPolicy 36 rfl) ?_
              refine wp_iconst (v := (-1)) (by decide) (ck_get kk_Pa_namedPolicy 37 rfl) ?_
              refine wp_icmp_eq (t := 82) (ck_get kk_Pa_namedPolicy 38 rfl) (by decide) (fun hc75 => ?_) (fun hc75 => ?_)
              · exact absurd hc75 (by decide)
              · refine wp_aload_n rfl (ck_get kk_Pa_namedPolicy 39 rfl) ?_
                refine wp_cV0v (ck_get kk_Pa_namedPolicy 40 rfl) ml_Pa_68 (by omega) (Nat.le_of_ble_eq_true rfl) (by assumption) (Cv.to (c_advanceT hX) ?_)
                rintro M₁ rfl
                refine wp_iload_n rfl (ck_get kk_Pa_namedPolicy 41 rfl) ?_
                refine wp_iconst (v := (-1)) (by decide) (ck_get kk_Pa_namedPolicy 42 rfl) ?_
                refine wp_icmp_eq (t := 94) (ck_get kk_Pa_namedPolicy 43 rfl) (by decide) (fun hc84 => ?_) (fun hc84 => ?_)
                · exact absurd hc84 (by decide)
                · refine wp_aload_n rfl (ck_get kk_Pa_namedPolicy 44 rfl) ?_
                  refine wp_getIv (v := nI (kOf bt L (tS bt L 1))) (ck_get kk_Pa_namedPolicy 45 rfl) fl_Pa_38 (by assumption) (e6 _ _ _ _ _) ?_
                  first | refine wp_if_eqN (t := 101) (ck_get kk_Pa_namedPolicy 46 rfl) (by decide) (by omega) (fun hc91 => ?_) (fun hc91 => ?_) | refine wp_if_eq (t := 101) (ck_get kk_Pa_namedPolicy 46 rfl) (by decide) (fun hc91 => ?_) (fun hc91 => ?_)
                  · omega
                  · refine wp_aload_n rfl (ck_get kk_Pa_namedPolicy 47 rfl) ?_
                    refine wp_cV0i (ck_get kk_Pa_namedPolicy 48 rfl) ml_Pa_71 (by omega) (Nat.le_of_ble_eq_true rfl) (by assumption) (Ci.to (c_failT hX (lf0 := 0) (cl0 := cl) (cd0 := cd) (sg := [])) ?_)
                    rintro x₁ M₁ hq₁
                    refine wp_pop rfl (ck_get kk_Pa_namedPolicy 49 rfl) ?_
                    refine wp_iconst (v := (-1)) (by decide) (ck_get kk_Pa_namedPolicy 50 rfl) ?_
                    refine wp_ireturn (ck_get kk_Pa_namedPolicy 51 rfl) rfl rfl ⟨_, rfl, ?_⟩
                    exact plQ.no (lf := 0) hq₁ hp
          · omega
        · omega
      · omega
  by_cases h4 : tC bt L 0 = 27 + 1
  · by_cases he : kOf bt L (tS bt L 1) = 0
    · have hp : plF (tC bt L) (enT bt L) = (true, 4) := by
        unfold plF
        rw [if_pos (by omega), if_pos (decide_eq_true he), h4]
      refine wp_aload_n rfl (ck_get kk_Pa_namedPolicy 0 rfl) ?_
      refine wp_aload_n rfl (ck_get kk_Pa_namedPolicy 1 rfl) ?_
      refine wp_iload_n rfl (ck_get kk_Pa_namedPolicy 2 rfl) ?_
      refine wp_cV2v (ck_get kk_Pa_namedPolicy 3 rfl) ml_Pa_50 (by omega) (Nat.le_of_ble_eq_true rfl) (by assumption) (Cv.to (c_begin hP0 hL hbt hb2) ?_)
      rintro M₁ ⟨lf, cl, cd, rfl⟩
      refine wp_aload_n rfl (ck_get kk_Pa_namedPolicy 4 rfl) ?_
      refine wp_ldcs (i := 23) hS1 (by decide) rfl rfl (ck_get kk_Pa_namedPolicy 5 rfl) ?_
      refine wp_cV1i (ck_get kk_Pa_namedPolicy 6 rfl) ml_Pa_56 (by omega) (Nat.le_of_ble_eq_true rfl) (by assumption) (Ci.to (c_isWordN hS hX (by decide) h0) ?_)
      rintro _ M1 ⟨rfl, eqm1⟩
      obtain rfl := eqm1.symm
      first | refine wp_if_eqN (t := 19) (ck_get kk_Pa_namedPolicy 7 rfl) (by decide) (by omega) (fun hc12 => ?_) (fun hc12 => ?_) | refine wp_if_eq (t := 19) (ck_get kk_Pa_namedPolicy 7 rfl) (by decide) (fun hc12 => ?_) (fun hc12 => ?_)
      · refine wp_aload_n rfl (ck_get kk_Pa_namedPolicy 10 rfl) ?_
        refine wp_ldcs (i := 24) hS1 (by decide) rfl rfl (ck_get kk_Pa_namedPolicy 11 rfl) ?_
        refine wp_cV1i (ck_get kk_Pa_namedPolicy 12 rfl) ml_Pa_56 (by omega) (Nat.le_of_ble_eq_true rfl) (by assumption) (Ci.to (c_isWordN hS hX (by decide) h1) ?_)
        rintro _ M1 ⟨rfl, eqm1⟩
        obtain rfl := eqm1.symm
        first | refine wp_if_eqN (t := 32) (ck_get kk_Pa_namedPolicy 13 rfl) (by decide) (by omega) (fun hc25 => ?_) (fun hc25 => ?_) | refine wp_if_eq (t := 32) (ck_get kk_Pa_namedPolicy 13 rfl) (by decide) (fun hc25 => ?_) (fun hc25 => ?_)
        · refine wp_aload_n rfl (ck_get kk_Pa_namedPolicy 16 rfl) ?_
          refine wp_ldcs (i := 25) hS1 (by decide) rfl rfl (ck_get kk_Pa_namedPolicy 17 rfl) ?_
          refine wp_cV1i (ck_get kk_Pa_namedPolicy 18 rfl) ml_Pa_56 (by omega) (Nat.le_of_ble_eq_true rfl) (by assumption) (Ci.to (c_isWordN hS hX (by decide) h2) ?_)
          rintro _ M1 ⟨rfl, eqm1⟩
          obtain rfl := eqm1.symm
          first | refine wp_if_eqN (t := 45) (ck_get kk_Pa_namedPolicy 19 rfl) (by decide) (by omega) (fun hc38 => ?_) (fun hc38 => ?_) | refine wp_if_eq (t := 45) (ck_get kk_Pa_namedPolicy 19 rfl) (by decide) (fun hc38 => ?_) (fun hc38 => ?_)
          · refine wp_aload_n rfl (ck_get kk_Pa_namedPolicy 22 rfl) ?_
            refine wp_ldcs (i := 26) hS1 (by decide) rfl rfl (ck_get kk_Pa_namedPolicy 23 rfl) ?_
            refine wp_cV1i (ck_get kk_Pa_namedPolicy 24 rfl) ml_Pa_56 (by omega) (Nat.le_of_ble_eq_true rfl) (by assumption) (Ci.to (c_isWordN hS hX (by decide) h3) ?_)
            rintro _ M1 ⟨rfl, eqm1⟩
            obtain rfl := eqm1.symm
            first | refine wp_if_eqN (t := 58) (ck_get kk_Pa_namedPolicy 25 rfl) (by decide) (by omega) (fun hc51 => ?_) (fun hc51 => ?_) | refine wp_if_eq (t := 58) (ck_get kk_Pa_namedPolicy 25 rfl) (by decide) (fun hc51 => ?_) (fun hc51 => ?_)
            · refine wp_aload_n rfl (ck_get kk_Pa_namedPolicy 28 rfl) ?_
              refine wp_ldcs (i := 27) hS1 (by decide) rfl rfl (ck_get kk_Pa_namedPolicy 29 rfl) ?_
              refine wp_cV1i (ck_get kk_Pa_namedPolicy 30 rfl) ml_Pa_56 (by omega) (Nat.le_of_ble_eq_true rfl) (by assumption) (Ci.to (c_isWordY hS hX (by decide) h4) ?_)
              rintro _ M1 ⟨rfl, eqm1⟩
              obtain rfl := eqm1.symm
              first | refine wp_if_eqN (t := 71) (ck_get kk_Pa_namedPolicy 31 rfl) (by decide) (by omega) (fun hc64 => ?_) (fun hc64 => ?_) | refine wp_if_eq (t := 71) (ck_get kk_Pa_namedPolicy 31 rfl) (by decide) (fun hc64 => ?_) (fun hc64 => ?_)
              · omega
              · refine wp_iconst (v := nI 4) (by decide) (ck_get kk_Pa_namedPolicy 32 rfl) ?_
                refine wp_goto (t := 72) (ck_get kk_Pa_namedPolicy 33 rfl) (by decide) ?_
                refine wp_istore_n (ck_get kk_Pa_namedPolicy 35 rfl) (by decide) rfl ?_
                refine wp_iload_n rfl (ck_get kk_Pa_namedPolicy 36 rfl) ?_
                refine wp_iconst (v := (-1)) (by decide) (ck_get kk_Pa_namedPolicy 37 rfl) ?_
                refine wp_icmp_eq (t := 82) (ck_get kk_Pa_namedPolicy 38 rfl) (by decide) (fun hc75 => ?_) (fun hc75 => ?_)
                · exact absurd hc75 (by decide)
                · refine wp_aload_n rfl (ck_get kk_Pa_namedPolicy 39 rfl) ?_
                  refine wp_cV0v (ck_get kk_Pa_namedPolicy 40 rfl) ml_Pa_68 (by omega) (Nat.le_of_ble_eq_true rfl) (by assumption) (Cv.to (c_advanceT hX) ?_)
                  rintro M₁ rfl
                  refine wp_iload_n rfl (ck_get kk_Pa_namedPolicy 41 rfl) ?_
                  refine wp_iconst (v := (-1)) (by decide) (ck_get kk_Pa_namedPolicy 42 rfl) ?_
                  refine wp_icmp_eq (t := 94) (ck_get kk_Pa_namedPolicy 43 rfl) (by decide) (fun hc84 => ?_) (fun hc84 => ?_)
                  · exact absurd hc84 (by decide)
                  · refine wp_aload_n rfl (ck_get kk_Pa_namedPolicy 44 rfl) ?_
                    refine wp_getIv (v := nI (kOf bt L (tS bt L 1))) (ck_get kk_Pa_namedPolicy 45 rfl) fl_Pa_38 (by assumption) (e6 _ _ _ _ _) ?_
                    first | refine wp_if_eqN (t := 101) (ck_get kk_Pa_namedPolicy 46 rfl) (by decide) (by omega) (fun hc91 => ?_) (fun hc91 => ?_) | refine wp_if_eq (t := 101) (ck_get kk_Pa_namedPolicy 46 rfl) (by decide) (fun hc91 => ?_) (fun hc91 => ?_)
                    · refine wp_iload_n rfl (ck_get kk_Pa_namedPolicy 52 rfl) ?_
                      refine wp_ireturn (ck_get kk_Pa_namedPolicy 53 rfl) rfl rfl ⟨_, rfl, ?_⟩
                      exact plQ.yes (by decide) hp
                    · omega
            · omega
          · omega
        · omega
      · omega
    · have hp : plF (tC bt L) (enT bt L) = (false, 1) := by
        unfold plF
        rw [if_pos (by omega), if_neg (by rw [decide_eq_true_eq]; exact he)]
      refine wp_aload_n rfl (ck_get kk_Pa_namedPolicy 0 rfl) ?_
      refine wp_aload_n rfl (ck_get kk_Pa_namedPolicy 1 rfl) ?_
      refine wp_iload_n rfl (ck_get kk_Pa_namedPolicy 2 rfl) ?_
      refine wp_cV2v (ck_get kk_Pa_namedPolicy 3 rfl) ml_Pa_50 (by omega) (Nat.le_of_ble_eq_true rfl) (by assumption) (Cv.to (c_begin hP0 hL hbt hb2) ?_)
      rintro M₁ ⟨lf, cl, cd, rfl⟩
      refine wp_aload_n rfl (ck_get kk_Pa_namedPolicy 4 rfl) ?_
      refine wp_ldcs (i := 23) hS1 (by decide) rfl rfl (ck_get kk_Pa_namedPolicy 5 rfl) ?_
      refine wp_cV1i (ck_get kk_Pa_namedPolicy 6 rfl) ml_Pa_56 (by omega) (Nat.le_of_ble_eq_true rfl) (by assumption) (Ci.to (c_isWordN hS hX (by decide) h0) ?_)
      rintro _ M1 ⟨rfl, eqm1⟩
      obtain rfl := eqm1.symm
      first | refine wp_if_eqN (t := 19) (ck_get kk_Pa_namedPolicy 7 rfl) (by decide) (by omega) (fun hc12 => ?_) (fun hc12 => ?_) | refine wp_if_eq (t := 19) (ck_get kk_Pa_namedPolicy 7 rfl) (by decide) (fun hc12 => ?_) (fun hc12 => ?_)
      · refine wp_aload_n rfl (ck_get kk_Pa_namedPolicy 10 rfl) ?_
        refine wp_ldcs (i := 24) hS1 (by decide) rfl rfl (ck_get kk_Pa_namedPolicy 11 rfl) ?_
        refine wp_cV1i (ck_get kk_Pa_namedPolicy 12 rfl) ml_Pa_56 (by omega) (Nat.le_of_ble_eq_true rfl) (by assumption) (Ci.to (c_isWordN hS hX (by decide) h1) ?_)
        rintro _ M1 ⟨rfl, eqm1⟩
        obtain rfl := eqm1.symm
        first | refine wp_if_eqN (t := 32) (ck_get kk_Pa_namedPolicy 13 rfl) (by decide) (by omega) (fun hc25 => ?_) (fun hc25 => ?_) | refine wp_if_eq (t := 32) (ck_get kk_Pa_namedPolicy 13 rfl) (by decide) (fun hc25 => ?_) (fun hc25 => ?_)
        · refine wp_aload_n rfl (ck_get kk_Pa_namedPolicy 16 rfl) ?_
          refine wp_ldcs (i := 25) hS1 (by decide) rfl rfl (ck_get kk_Pa_namedPolicy 17 rfl) ?_
          refine wp_cV1i (ck_get kk_Pa_namedPolicy 18 rfl) ml_Pa_56 (by omega) (Nat.le_of_ble_eq_true rfl) (by assumption) (Ci.to (c_isWordN hS hX (by decide) h2) ?_)
          rintro _ M1 ⟨rfl, eqm1⟩
          obtain rfl := eqm1.symm
          first | refine wp_if_eqN (t := 45) (ck_get kk_Pa_namedPolicy 19 rfl) (by decide) (by omega) (fun hc38 => ?_) (fun hc38 => ?_) | refine wp_if_eq (t := 45) (ck_get kk_Pa_namedPolicy 19 rfl) (by decide) (fun hc38 => ?_) (fun hc38 => ?_)
          · refine wp_aload_n rfl (ck_get kk_Pa_namedPolicy 22 rfl) ?_
            refine wp_ldcs (i := 26) hS1 (by decide) rfl rfl (ck_get kk_Pa_namedPolicy 23 rfl) ?_
            refine wp_cV1i (ck_get kk_Pa_namedPolicy 24 rfl) ml_Pa_56 (by omega) (Nat.le_of_ble_eq_true rfl) (by assumption) (Ci.to (c_isWordN hS hX (by decide) h3) ?_)
            rintro _ M1 ⟨rfl, eqm1⟩
            obtain rfl := eqm1.symm
            first | refine wp_if_eqN (t := 58) (ck_get kk_Pa_namedPolicy 25 rfl) (by decide) (by omega) (fun hc51 => ?_) (fun hc51 => ?_) | refine wp_if_eq (t := 58) (ck_get kk_Pa_namedPolicy 25 rfl) (by decide) (fun hc51 => ?_) (fun hc51 => ?_)
            · refine wp_aload_n rfl (ck_get kk_Pa_namedPolicy 28 rfl) ?_
              refine wp_ldcs (i := 27) hS1 (by decide) rfl rfl (ck_get kk_Pa_namedPolicy 29 rfl) ?_
              refine wp_cV1i (ck_get kk_Pa_namedPolicy 30 rfl) ml_Pa_56 (by omega) (Nat.le_of_ble_eq_true rfl) (by assumption) (Ci.to (c_isWordY hS hX (by decide) h4) ?_)
              rintro _ M1 ⟨rfl, eqm1⟩
              obtain rfl := eqm1.symm
              first | refine wp_if_eqN (t := 71) (ck_get kk_Pa_namedPolicy 31 rfl) (by decide) (by omega) (fun hc64 => ?_) (fun hc64 => ?_) | refine wp_if_eq (t := 71) (ck_get kk_Pa_namedPolicy 31 rfl) (by decide) (fun hc64 => ?_) (fun hc64 => ?_)
              · omega
              · refine wp_iconst (v := nI 4) (by decide) (ck_get kk_Pa_namedPolicy 32 rfl) ?_
                refine wp_goto (t := 72) (ck_get kk_Pa_namedPolicy 33 rfl) (by decide) ?_
                refine wp_istore_n (ck_get kk_Pa_namedPolicy 35 rfl) (by decide) rfl ?_
                refine wp_iload_n rfl (ck_get kk_Pa_namedPolicy 36 rfl) ?_
                refine wp_iconst (v := (-1)) (by decide) (ck_get kk_Pa_namedPolicy 37 rfl) ?_
                refine wp_icmp_eq (t := 82) (ck_get kk_Pa_namedPolicy 38 rfl) (by decide) (fun hc75 => ?_) (fun hc75 => ?_)
                · exact absurd hc75 (by decide)
                · refine wp_aload_n rfl (ck_get kk_Pa_namedPolicy 39 rfl) ?_
                  refine wp_cV0v (ck_get kk_Pa_namedPolicy 40 rfl) ml_Pa_68 (by omega) (Nat.le_of_ble_eq_true rfl) (by assumption) (Cv.to (c_advanceT hX) ?_)
                  rintro M₁ rfl
                  refine wp_iload_n rfl (ck_get kk_Pa_namedPolicy 41 rfl) ?_
                  refine wp_iconst (v := (-1)) (by decide) (ck_get kk_Pa_namedPolicy 42 rfl) ?_
                  refine wp_icmp_eq (t := 94) (ck_get kk_Pa_namedPolicy 43 rfl) (by decide) (fun hc84 => ?_) (fun hc84 => ?_)
                  · exact absurd hc84 (by decide)
                  · refine wp_aload_n rfl (ck_get kk_Pa_namedPolicy 44 rfl) ?_
                    refine wp_getIv (v := nI (kOf bt L (tS bt L 1))) (ck_get kk_Pa_namedPolicy 45 rfl) fl_Pa_38 (by assumption) (e6 _ _ _ _ _) ?_
                    first | refine wp_if_eqN (t := 101) (ck_get kk_Pa_namedPolicy 46 rfl) (by decide) (by omega) (fun hc91 => ?_) (fun hc91 => ?_) | refine wp_if_eq (t := 101) (ck_get kk_Pa_namedPolicy 46 rfl) (by decide) (fun hc91 => ?_) (fun hc91 => ?_)
                    · omega
                    · refine wp_aload_n rfl (ck_get kk_Pa_namedPolicy 47 rfl) ?_
                      refine wp_cV0i (ck_get kk_Pa_namedPolicy 48 rfl) ml_Pa_71 (by omega) (Nat.le_of_ble_eq_true rfl) (by assumption) (Ci.to (c_failT hX (lf0 := 0) (cl0 := cl) (cd0 := cd) (sg := [])) ?_)
                      rintro x₁ M₁ hq₁
                      refine wp_pop rfl (ck_get kk_Pa_namedPolicy 49 rfl) ?_
                      refine wp_iconst (v := (-1)) (by decide) (ck_get kk_Pa_namedPolicy 50 rfl) ?_
                      refine wp_ireturn (ck_get kk_Pa_namedPolicy 51 rfl) rfl rfl ⟨_, rfl, ?_⟩
                      exact plQ.no (lf := 0) hq₁ hp
            · omega
          · omega
        · omega
      · omega
  have hp : plF (tC bt L) (enT bt L) = (false, 0) := by
    unfold plF
    rw [if_neg (by omega)]
  refine wp_aload_n rfl (ck_get kk_Pa_namedPolicy 0 rfl) ?_
  refine wp_aload_n rfl (ck_get kk_Pa_namedPolicy 1 rfl) ?_
  refine wp_iload_n rfl (ck_get kk_Pa_namedPolicy 2 rfl) ?_
  refine wp_cV2v (ck_get kk_Pa_namedPolicy 3 rfl) ml_Pa_50 (by omega) (Nat.le_of_ble_eq_true rfl) (by assumption) (Cv.to (c_begin hP0 hL hbt hb2) ?_)
  rintro M₁ ⟨lf, cl, cd, rfl⟩
  refine wp_aload_n rfl (ck_get kk_Pa_namedPolicy 4 rfl) ?_
  refine wp_ldcs (i := 23) hS1 (by decide) rfl rfl (ck_get kk_Pa_namedPolicy 5 rfl) ?_
  refine wp_cV1i (ck_get kk_Pa_namedPolicy 6 rfl) ml_Pa_56 (by omega) (Nat.le_of_ble_eq_true rfl) (by assumption) (Ci.to (c_isWordN hS hX (by decide) h0) ?_)
  rintro _ M1 ⟨rfl, eqm1⟩
  obtain rfl := eqm1.symm
  first | refine wp_if_eqN (t := 19) (ck_get kk_Pa_namedPolicy 7 rfl) (by decide) (by omega) (fun hc12 => ?_) (fun hc12 => ?_) | refine wp_if_eq (t := 19) (ck_get kk_Pa_namedPolicy 7 rfl) (by decide) (fun hc12 => ?_) (fun hc12 => ?_)
  · refine wp_aload_n rfl (ck_get kk_Pa_namedPolicy 10 rfl) ?_
    refine wp_ldcs (i := 24) hS1 (by decide) rfl rfl (ck_get kk_Pa_namedPolicy 11 rfl) ?_
    refine wp_cV1i (ck_get kk_Pa_namedPolicy 12 rfl) ml_Pa_56 (by omega) (Nat.le_of_ble_eq_true rfl) (by assumption) (Ci.to (c_isWordN hS hX (by decide) h1) ?_)
    rintro _ M1 ⟨rfl, eqm1⟩
    obtain rfl := eqm1.symm
    first | refine wp_if_eqN (t := 32) (ck_get kk_Pa_namedPolicy 13 rfl) (by decide) (by omega) (fun hc25 => ?_) (fun hc25 => ?_) | refine wp_if_eq (t := 32) (ck_get kk_Pa_namedPolicy 13 rfl) (by decide) (fun hc25 => ?_) (fun hc25 => ?_)
    · refine wp_aload_n rfl (ck_get kk_Pa_namedPolicy 16 rfl) ?_
      refine wp_ldcs (i := 25) hS1 (by decide) rfl rfl (ck_get kk_Pa_namedPolicy 17 rfl) ?_
      refine wp_cV1i (ck_get kk_Pa_namedPolicy 18 rfl) ml_Pa_56 (by omega) (Nat.le_of_ble_eq_true rfl) (by assumption) (Ci.to (c_isWordN hS hX (by decide) h2) ?_)
      rintro _ M1 ⟨rfl, eqm1⟩
      obtain rfl := eqm1.symm
      first | refine wp_if_eqN (t := 45) (ck_get kk_Pa_namedPolicy 19 rfl) (by decide) (by omega) (fun hc38 => ?_) (fun hc38 => ?_) | refine wp_if_eq (t := 45) (ck_get kk_Pa_namedPolicy 19 rfl) (by decide) (fun hc38 => ?_) (fun hc38 => ?_)
      · refine wp_aload_n rfl (ck_get kk_Pa_namedPolicy 22 rfl) ?_
        refine wp_ldcs (i := 26) hS1 (by decide) rfl rfl (ck_get kk_Pa_namedPolicy 23 rfl) ?_
        refine wp_cV1i (ck_get kk_Pa_namedPolicy 24 rfl) ml_Pa_56 (by omega) (Nat.le_of_ble_eq_true rfl) (by assumption) (Ci.to (c_isWordN hS hX (by decide) h3) ?_)
        rintro _ M1 ⟨rfl, eqm1⟩
        obtain rfl := eqm1.symm
        first | refine wp_if_eqN (t := 58) (ck_get kk_Pa_namedPolicy 25 rfl) (by decide) (by omega) (fun hc51 => ?_) (fun hc51 => ?_) | refine wp_if_eq (t := 58) (ck_get kk_Pa_namedPolicy 25 rfl) (by decide) (fun hc51 => ?_) (fun hc51 => ?_)
        · refine wp_aload_n rfl (ck_get kk_Pa_namedPolicy 28 rfl) ?_
          refine wp_ldcs (i := 27) hS1 (by decide) rfl rfl (ck_get kk_Pa_namedPolicy 29 rfl) ?_
          refine wp_cV1i (ck_get kk_Pa_namedPolicy 30 rfl) ml_Pa_56 (by omega) (Nat.le_of_ble_eq_true rfl) (by assumption) (Ci.to (c_isWordN hS hX (by decide) h4) ?_)
          rintro _ M1 ⟨rfl, eqm1⟩
          obtain rfl := eqm1.symm
          first | refine wp_if_eqN (t := 71) (ck_get kk_Pa_namedPolicy 31 rfl) (by decide) (by omega) (fun hc64 => ?_) (fun hc64 => ?_) | refine wp_if_eq (t := 71) (ck_get kk_Pa_namedPolicy 31 rfl) (by decide) (fun hc64 => ?_) (fun hc64 => ?_)
          · refine wp_iconst (v := (-1)) (by decide) (ck_get kk_Pa_namedPolicy 34 rfl) ?_
            refine wp_istore_n (ck_get kk_Pa_namedPolicy 35 rfl) (by decide) rfl ?_
            refine wp_iload_n rfl (ck_get kk_Pa_namedPolicy 36 rfl) ?_
            refine wp_iconst (v := (-1)) (by decide) (ck_get kk_Pa_namedPolicy 37 rfl) ?_
            refine wp_icmp_eq (t := 82) (ck_get kk_Pa_namedPolicy 38 rfl) (by decide) (fun hc75 => ?_) (fun hc75 => ?_)
            · refine wp_iload_n rfl (ck_get kk_Pa_namedPolicy 41 rfl) ?_
              refine wp_iconst (v := (-1)) (by decide) (ck_get kk_Pa_namedPolicy 42 rfl) ?_
              refine wp_icmp_eq (t := 94) (ck_get kk_Pa_namedPolicy 43 rfl) (by decide) (fun hc84 => ?_) (fun hc84 => ?_)
              · refine wp_aload_n rfl (ck_get kk_Pa_namedPolicy 47 rfl) ?_
                refine wp_cV0i (ck_get kk_Pa_namedPolicy 48 rfl) ml_Pa_71 (by omega) (Nat.le_of_ble_eq_true rfl) (by assumption) (Ci.to (c_failT hX (lf0 := 0) (cl0 := cl) (cd0 := cd) (sg := [])) ?_)
                rintro x₁ M₁ hq₁
                refine wp_pop rfl (ck_get kk_Pa_namedPolicy 49 rfl) ?_
                refine wp_iconst (v := (-1)) (by decide) (ck_get kk_Pa_namedPolicy 50 rfl) ?_
                refine wp_ireturn (ck_get kk_Pa_namedPolicy 51 rfl) rfl rfl ⟨_, rfl, ?_⟩
                exact plQ.no (lf := 0) hq₁ hp
              · exact absurd rfl hc84
            · exact absurd rfl hc75
          · omega
        · omega
      · omega
    · omega
  · omega
end PPO
/-- a byte as the model keeps it -/
def sgb (b : Nat) : Int32 := (nI b).toInt8.toInt32
theorem sgb_t : ∀ b, b < 256 → (b < 128 → sgb b = nI b) ∧ (¬ b < 128 → sgb b < 0) ∧ sgb b &&& nI 255 = nI b ∧ (sgb b < nI 97 ↔ 128 ≤ b ∨ b < 97) ∧ (nI 122 < sgb b ↔ 122 < b ∧ b < 128) ∧ (sgb b < nI 48 ↔ 128 ≤ b ∨ b < 48) ∧ (nI 57 < sgb b ↔ 57 < b ∧ b < 128) ∧ (sgb b = nI 32 ↔ b = 32) := by decide +kernel
theorem kdN_1 {b : Nat} : kdN b = 1 ↔ 97 ≤ b ∧ b ≤ 122 := by
  unfold kdN
  by_cases h : 97 ≤ b ∧ b ≤ 122
  · rw [if_pos h]; exact ⟨fun _ => h, fun _ => rfl⟩
  · rw [if_neg h]
    by_cases h2 : 48 ≤ b ∧ b ≤ 57
    · rw [if_pos h2]; exact ⟨fun q => absurd q (by omega), fun q => absurd q h⟩
    · rw [if_neg h2]; exact ⟨fun q => absurd q (by omega), fun q => absurd q h⟩
theorem kdN_2 {b : Nat} : kdN b = 2 ↔ 48 ≤ b ∧ b ≤ 57 := by
  unfold kdN
  by_cases h : 97 ≤ b ∧ b ≤ 122
  · rw [if_pos h]; exact ⟨fun q => absurd q (by omega), fun q => absurd q (by omega)⟩
  · rw [if_neg h]
    by_cases h2 : 48 ≤ b ∧ b ≤ 57
    · rw [if_pos h2]; exact ⟨fun _ => h2, fun _ => rfl⟩
    · rw [if_neg h2]; exact ⟨fun q => absurd q (by omega), fun q => absurd q h2⟩
theorem sgb_eq {a b : Nat} (ha : a < 128) (hb : b < 256) : nI a = sgb b ↔ a = b := by
  by_cases h : b < 128
  · rw [(sgb_t b hb).1 h]
    exact nI_eq (by omega) (by omega)
  · constructor
    · intro q
      have h1 := (sgb_t b hb).2.1 h
      rw [← q] at h1
      exact absurd h1 (nI_pos (by omega))
    · intro q; omega
def wdA (j : Nat) : Nat := ([99, 111, 115, 116, 115, 32, 98, 97, 114, 115, 32, 105, 102, 32, 111, 114, 32, 97, 110, 100, 32, 110, 111, 116, 32, 116, 101, 110, 97, 110, 116, 32, 107, 101, 121, 32, 114, 101, 97, 100, 115, 32, 102, 97, 114, 32, 109, 111, 111, 100, 32, 116, 105, 109, 101, 32, 100, 111, 110, 101, 32, 108, 97, 116, 101, 115, 116, 32, 99, 111, 108, 100, 32, 100, 101, 101, 112, 32, 114, 101, 97, 100, 32, 98, 121, 32, 108, 111, 111, 112, 32, 116, 111, 32, 100, 114, 111, 112, 32, 112, 97, 115, 115, 32, 116, 105, 109, 101, 115, 32, 108, 114, 117, 32, 109, 114, 117, 32, 102, 105, 102, 111, 32, 108, 102, 117, 32, 109, 105, 110, 32] : List Nat).getD j 0
def ksP (w : Nat) : Nat := ([0, 6, 11, 14, 17, 21, 25, 32, 36, 42, 46, 51, 56, 61, 68, 73, 78, 83, 86, 91, 94, 99, 104, 110, 114, 118, 123, 127, 131] : List Nat).getD w 0
abbrev wdL (w : Nat) : Nat := (wdN.getD w []).length
theorem wd_t : ∀ w, w < 28 → ksP w + wdL w < 131 ∧ wdA (ksP w + wdL w) = 32 ∧ ksP (w + 1) = ksP w + (wdL w + 1) ∧ 1 ≤ wdL w ∧ wdL w ≤ 8 ∧ ∀ j, j < 8 → j < wdL w → wdA (ksP w + j) = (wdN.getD w []).getD j 0 ∧ ¬ wdA (ksP w + j) = 32 ∧ wdA (ksP w + j) < 128 := by decide +kernel
section MLX
variable {g : Gl} {M : Mem} {o L : Nat} {bt : Nat → Nat}
theorem m_isSmall {b : Nat} (hb : b < 256) : Ci g Y_Mo_isSmall 0 [.int (sgb b)] M (fun x M2 => x = bI (decide (kdN b = 1)) ∧ M2 = M) := by
  have h := sgb_t b hb
  refine cw_entry 0 pf_Mo_isSmall rfl ?_
  refine wp_iload_n rfl (ck_get kk_Mo_isSmall 0 rfl) ?_
  refine wp_bipush (v := nI 97) (by decide) (ck_get kk_Mo_isSmall 1 rfl) ?_
  refine wp_icmp_lt (t := 16) (ck_get kk_Mo_isSmall 2 rfl) (by decide) (fun hc3 => ?_) (fun hc3 => ?_)
  · refine wp_iconst (v := nI 0) (by decide) (ck_get kk_Mo_isSmall 8 rfl) ?_
    refine wp_ireturn (ck_get kk_Mo_isSmall 9 rfl) rfl rfl ⟨_, rfl, ?_⟩
    refine ⟨?_, rfl⟩
    rw [decide_eq_false (by rw [kdN_1]; have := h.2.2.2.1.mp hc3; omega)]; rfl
  · refine wp_iload_n rfl (ck_get kk_Mo_isSmall 3 rfl) ?_
    refine wp_bipush (v := nI 122) (by decide) (ck_get kk_Mo_isSmall 4 rfl) ?_
    refine wp_icmp_gt (t := 16) (ck_get kk_Mo_isSmall 5 rfl) (by decide) (fun hc9 => ?_) (fun hc9 => ?_)
    · refine wp_iconst (v := nI 0) (by decide) (ck_get kk_Mo_isSmall 8 rfl) ?_
      refine wp_ireturn (ck_get kk_Mo_isSmall 9 rfl) rfl rfl ⟨_, rfl, ?_⟩
      refine ⟨?_, rfl⟩
      rw [decide_eq_false (by rw [kdN_1]; have := h.2.2.2.2.1.mp hc9; omega)]; rfl
    · refine wp_iconst (v := nI 1) (by decide) (ck_get kk_Mo_isSmall 6 rfl) ?_
      refine wp_goto (t := 17) (ck_get kk_Mo_isSmall 7 rfl) (by decide) ?_
      refine wp_ireturn (ck_get kk_Mo_isSmall 9 rfl) rfl rfl ⟨_, rfl, ?_⟩
      refine ⟨?_, rfl⟩
      rw [decide_eq_true (by rw [kdN_1]; have q1 : ¬ (128 ≤ b ∨ b < 97) := fun q => hc3 (h.2.2.2.1.mpr q); have q2 : ¬ (122 < b ∧ b < 128) := fun q => hc9 (h.2.2.2.2.1.mpr q); omega)]; rfl
theorem m_isDigit {b : Nat} (hb : b < 256) : Ci g Y_Mo_isDigit 0 [.int (sgb b)] M (fun x M2 => x = bI (decide (kdN b = 2)) ∧ M2 = M) := by
  have h := sgb_t b hb
  refine cw_entry 0 pf_Mo_isDigit rfl ?_
  refine wp_iload_n rfl (ck_get kk_Mo_isDigit 0 rfl) ?_
  refine wp_bipush (v := nI 48) (by decide) (ck_get kk_Mo_isDigit 1 rfl) ?_
  refine wp_icmp_lt (t := 16) (ck_get kk_Mo_isDigit 2 rfl) (by decide) (fun hc3 => ?_) (fun hc3 => ?_)
  · refine wp_iconst (v := nI 0) (by decide) (ck_get kk_Mo_isDigit 8 rfl) ?_
    refine wp_ireturn (ck_get kk_Mo_isDigit 9 rfl) rfl rfl ⟨_, rfl, ?_⟩
    refine ⟨?_, rfl⟩
    rw [decide_eq_false (by rw [kdN_2]; have := h.2.2.2.2.2.1.mp hc3; omega)]; rfl
  · refine wp_iload_n rfl (ck_get kk_Mo_isDigit 3 rfl) ?_
    refine wp_bipush (v := nI 57) (by decide) (ck_get kk_Mo_isDigit 4 rfl) ?_
    refine wp_icmp_gt (t := 16) (ck_get kk_Mo_isDigit 5 rfl) (by decide) (fun hc9 => ?_) (fun hc9 => ?_)
    · refine wp_iconst (v := nI 0) (by decide) (ck_get kk_Mo_isDigit 8 rfl) ?_
      refine wp_ireturn (ck_get kk_Mo_isDigit 9 rfl) rfl rfl ⟨_, rfl, ?_⟩
      refine ⟨?_, rfl⟩
      rw [decide_eq_false (by rw [kdN_2]; have := h.2.2.2.2.2.2.1.mp hc9; omega)]; rfl
    · refine wp_iconst (v := nI 1) (by decide) (ck_get kk_Mo_isDigit 6 rfl) ?_
      refine wp_goto (t := 17) (ck_get kk_Mo_isDigit 7 rfl) (by decide) ?_
      refine wp_ireturn (ck_get kk_Mo_isDigit 9 rfl) rfl rfl ⟨_, rfl, ?_⟩
      refine ⟨?_, rfl⟩
      rw [decide_eq_true (by rw [kdN_2]; have q1 : ¬ (128 ≤ b ∨ b < 48) := fun q => hc3 (h.2.2.2.2.2.1.mpr q); have q2 : ¬ (57 < b ∧ b < 128) := fun q => hc9 (h.2.2.2.2.2.2.1.mpr q); omega)]; rfl
/-- the model's text: its bytes, and the words -/
def MtOK (M : Mem) (o : Nat) (bt : Nat → Nat) : Prop := (∀ j, j < 400 → mI M (o + 10) j = sgb (bt j)) ∧ (∀ j, bt j < 256) ∧ ∀ j, j < 131 → mI M (o + 9) j = nI (wdA j)
theorem l_scan {w : Nat} {x1 x2 x6 x7 : Option Value} (hM : MoAt (mT M) (mR M) o) (hX : MtOK M o bt) (hw : w < 28) {Q : Option Value → Mem → Prop} (K : Wp g Y_Mo_wordOf 0 39 [some (.ref o), x1, x2, some (.int (nI (w + 1))), some (.int (nI (ksP w))), some (.int (nI (wdL w))), x6, x7] [] M Q) : ∀ f n, n + f = wdL w → Wp g Y_Mo_wordOf 0 18 [some (.ref o), x1, x2, some (.int (nI (w + 1))), some (.int (nI (ksP w))), some (.int (nI n)), x6, x7] [] M Q := by
  have to0 := hM.1
  have rfwords := MoAt.r hM 8 rfl
  have tfwords := MoAt.t hM 8 rfl
  obtain ⟨k1, k2, k3, k4, k5, k6⟩ := wd_t w hw
  intro f
  induction f with
  | zero =>
    intro n hn
    have hn2 : n = wdL w := by omega
    subst hn2
    have hv := hX.2.2 (ksP w + wdL w) k1
    rw [k2] at hv
    refine wp_aload_n rfl (ck_get kk_Mo_wordOf 11 rfl) ?_
    refine wp_getR (ck_get kk_Mo_wordOf 12 rfl) fl_Mo_51 (by assumption) (by assumption) ?_
    refine wp_iload rfl (ck_get kk_Mo_wordOf 13 rfl) ?_
    refine wp_iload rfl (ck_get kk_Mo_wordOf 14 rfl) ?_
    first | refine wp_iaddN (ck_get kk_Mo_wordOf 15 rfl) ?_ | refine wp_iadd (ck_get kk_Mo_wordOf 15 rfl) ?_
    first | refine wp_bald (ck_get kk_Mo_wordOf 16 rfl) (by assumption) (ixk_nI (k := ksP w + wdL w) (by omega) (by omega)) ?_ | refine wp_zald (ck_get kk_Mo_wordOf 16 rfl) (by assumption) (ixk_nI (k := ksP w + wdL w) (by omega) (by omega)) ?_
    rw [hv]
    refine wp_bipush (v := nI 32) (by decide) (ck_get kk_Mo_wordOf 17 rfl) ?_
    first | refine wp_icmp_eqN (t := 39) (ck_get kk_Mo_wordOf 18 rfl) (by decide) (by omega) (by omega) (fun hc30 => ?_) (fun hc30 => ?_) | refine wp_icmp_eq (t := 39) (ck_get kk_Mo_wordOf 18 rfl) (by decide) (fun hc30 => ?_) (fun hc30 => ?_)
    · exact K
    · omega
  | succ f ih =>
    intro n hn
    obtain ⟨q1, q2, q3⟩ := k6 n (by omega) (by omega)
    have hv := hX.2.2 (ksP w + n) (by omega)
    refine wp_aload_n rfl (ck_get kk_Mo_wordOf 11 rfl) ?_
    refine wp_getR (ck_get kk_Mo_wordOf 12 rfl) fl_Mo_51 (by assumption) (by assumption) ?_
    refine wp_iload rfl (ck_get kk_Mo_wordOf 13 rfl) ?_
    refine wp_iload rfl (ck_get kk_Mo_wordOf 14 rfl) ?_
    first | refine wp_iaddN (ck_get kk_Mo_wordOf 15 rfl) ?_ | refine wp_iadd (ck_get kk_Mo_wordOf 15 rfl) ?_
    first | refine wp_bald (ck_get kk_Mo_wordOf 16 rfl) (by assumption) (ixk_nI (k := ksP w + n) (by omega) (by omega)) ?_ | refine wp_zald (ck_get kk_Mo_wordOf 16 rfl) (by assumption) (ixk_nI (k := ksP w + n) (by omega) (by omega)) ?_
    rw [hv]
    refine wp_bipush (v := nI 32) (by decide) (ck_get kk_Mo_wordOf 17 rfl) ?_
    first | refine wp_icmp_eqN (t := 39) (ck_get kk_Mo_wordOf 18 rfl) (by decide) (by omega) (by omega) (fun hc30 => ?_) (fun hc30 => ?_) | refine wp_icmp_eq (t := 39) (ck_get kk_Mo_wordOf 18 rfl) (by decide) (fun hc30 => ?_) (fun hc30 => ?_)
    · omega
    · first | refine wp_iincN (ck_get kk_Mo_wordOf 19 rfl) rfl (by decide) rfl ?_ | refine wp_iinc (ck_get kk_Mo_wordOf 19 rfl) rfl (by decide) rfl ?_
      refine wp_goto (t := 18) (ck_get kk_Mo_wordOf 20 rfl) (by decide) ?_
      exact ih (n + 1) (by omega)
/-- the word is the same up to its i-th letter -/
def smF (bt : Nat → Nat) (s e w i : Nat) : Bool := decide (e - s = wdL w) && (List.range i).all (fun j => decide (bt (s + j) = (wdN.getD w []).getD j 0))
theorem smF_0 {s e w : Nat} : smF bt s e w 0 = decide (e - s = wdL w) := by
  unfold smF
  rw [List.range_zero, List.all_nil, Bool.and_true]
theorem smF_succ {s e w i : Nat} : smF bt s e w (i + 1) = (smF bt s e w i && decide (bt (s + i) = (wdN.getD w []).getD i 0)) := by
  unfold smF
  rw [List.range_succ, List.all_append, List.all_cons, List.all_nil, Bool.and_true, Bool.and_assoc]
theorem smF_no {s e w i : Nat} (h : smF bt s e w i = false) : ∀ k, smF bt s e w (i + k) = false
  | 0 => h
  | k + 1 => by rw [← Nat.add_assoc, smF_succ, smF_no h k]; rfl
theorem l_same {s e w : Nat} (hM : MoAt (mT M) (mR M) o) (hX : MtOK M o bt) (hw : w < 28) (hse : s ≤ e) (he : e ≤ 400) {Q : Option Value → Mem → Prop} (K : ∀ x7, Wp g Y_Mo_wordOf 0 104 [some (.ref o), some (.int (nI s)), some (.int (nI e)), some (.int (nI (w + 1))), some (.int (nI (ksP w))), some (.int (nI (wdL w))), some (.int (bI (smF bt s e w (wdL w)))), x7] [] M Q) : ∀ f i, i + f = wdL w → Wp g Y_Mo_wordOf 0 57 [some (.ref o), some (.int (nI s)), some (.int (nI e)), some (.int (nI (w + 1))), some (.int (nI (ksP w))), some (.int (nI (wdL w))), some (.int (bI (smF bt s e w i))), some (.int (nI i))] [] M Q := by
  have to0 := hM.1
  have rfwords := MoAt.r hM 8 rfl
  have tfwords := MoAt.t hM 8 rfl
  have rftape := MoAt.r hM 9 rfl
  have tftape := MoAt.t hM 9 rfl
  obtain ⟨k1, k2, k3, k4, k5, k6⟩ := wd_t w hw
  intro f
  induction f with
  | zero =>
    intro i hi
    have hi2 : i = wdL w := by omega
    subst hi2
    refine wp_iload rfl (ck_get kk_Mo_wordOf 32 rfl) ?_
    refine wp_iload rfl (ck_get kk_Mo_wordOf 33 rfl) ?_
    first | refine wp_icmp_geN (t := 104) (ck_get kk_Mo_wordOf 34 rfl) (by decide) (by omega) (by omega) (fun hc61 => ?_) (fun hc61 => ?_) | refine wp_icmp_ge (t := 104) (ck_get kk_Mo_wordOf 34 rfl) (by decide) (fun hc61 => ?_) (fun hc61 => ?_)
    · exact K _
    · omega
  | succ f ih =>
    intro i hi
    obtain ⟨q1, q2, q3⟩ := k6 i (by omega) (by omega)
    have hv := hX.2.2 (ksP w + i) (by omega)
    cases hsm : smF bt s e w i with
    | false =>
      have hno := smF_no hsm (f + 1)
      rw [show i + (f + 1) = wdL w from hi] at hno
      rw [hno] at K
      refine wp_iload rfl (ck_get kk_Mo_wordOf 32 rfl) ?_
      refine wp_iload rfl (ck_get kk_Mo_wordOf 33 rfl) ?_
      first | refine wp_icmp_geN (t := 104) (ck_get kk_Mo_wordOf 34 rfl) (by decide) (by omega) (by omega) (fun hc61 => ?_) (fun hc61 => ?_) | refine wp_icmp_ge (t := 104) (ck_get kk_Mo_wordOf 34 rfl) (by decide) (fun hc61 => ?_) (fun hc61 => ?_)
      · omega
      · refine wp_iload rfl (ck_get kk_Mo_wordOf 35 rfl) ?_
        first | refine wp_if_eqN (t := 104) (ck_get kk_Mo_wordOf 36 rfl) (by decide) (by omega) (fun hc66 => ?_) (fun hc66 => ?_) | refine wp_if_eq (t := 104) (ck_get kk_Mo_wordOf 36 rfl) (by decide) (fun hc66 => ?_) (fun hc66 => ?_)
        · exact K _
        · exact absurd rfl hc66
    | true =>
      have hes : e - s = wdL w := by
        unfold smF at hsm
        rw [Bool.and_eq_true, decide_eq_true_eq] at hsm
        exact hsm.1
      have hb := hX.2.1 (s + i)
      have hu := hX.1 (s + i) (by omega)
      have ih2 := ih (i + 1) (by omega)
      rw [smF_succ, hsm, Bool.true_and] at ih2
      refine wp_iload rfl (ck_get kk_Mo_wordOf 32 rfl) ?_
      refine wp_iload rfl (ck_get kk_Mo_wordOf 33 rfl) ?_
      first | refine wp_icmp_geN (t := 104) (ck_get kk_Mo_wordOf 34 rfl) (by decide) (by omega) (by omega) (fun hc61 => ?_) (fun hc61 => ?_) | refine wp_icmp_ge (t := 104) (ck_get kk_Mo_wordOf 34 rfl) (by decide) (fun hc61 => ?_) (fun hc61 => ?_)
      · omega
      · refine wp_iload rfl (ck_get kk_Mo_wordOf 35 rfl) ?_
        first | refine wp_if_eqN (t := 104) (ck_get kk_Mo_wordOf 36 rfl) (by decide) (by omega) (fun hc66 => ?_) (fun hc66 => ?_) | refine wp_if_eq (t := 104) (ck_get kk_Mo_wordOf 36 rfl) (by decide) (fun hc66 => ?_) (fun hc66 => ?_)
        · exact absurd hc66 (by decide)
        · refine wp_aload_n rfl (ck_get kk_Mo_wordOf 37 rfl) ?_
          refine wp_getR (ck_get kk_Mo_wordOf 38 rfl) fl_Mo_51 (by assumption) (by assumption) ?_
          refine wp_iload rfl (ck_get kk_Mo_wordOf 39 rfl) ?_
          refine wp_iload rfl (ck_get kk_Mo_wordOf 40 rfl) ?_
          first | refine wp_iaddN (ck_get kk_Mo_wordOf 41 rfl) ?_ | refine wp_iadd (ck_get kk_Mo_wordOf 41 rfl) ?_
          first | refine wp_bald (ck_get kk_Mo_wordOf 42 rfl) (by assumption) (ixk_nI (k := ksP w + i) (by omega) (by omega)) ?_ | refine wp_zald (ck_get kk_Mo_wordOf 42 rfl) (by assumption) (ixk_nI (k := ksP w + i) (by omega) (by omega)) ?_
          rw [hv]
          refine wp_aload_n rfl (ck_get kk_Mo_wordOf 43 rfl) ?_
          refine wp_getR (ck_get kk_Mo_wordOf 44 rfl) fl_Mo_55 (by assumption) (by assumption) ?_
          refine wp_iload_n rfl (ck_get kk_Mo_wordOf 45 rfl) ?_
          refine wp_iload rfl (ck_get kk_Mo_wordOf 46 rfl) ?_
          first | refine wp_iaddN (ck_get kk_Mo_wordOf 47 rfl) ?_ | refine wp_iadd (ck_get kk_Mo_wordOf 47 rfl) ?_
          first | refine wp_bald (ck_get kk_Mo_wordOf 48 rfl) (by assumption) (ixk_nI (k := s + i) (by omega) (by omega)) ?_ | refine wp_zald (ck_get kk_Mo_wordOf 48 rfl) (by assumption) (ixk_nI (k := s + i) (by omega) (by omega)) ?_
          rw [hu]
          refine wp_icmp_ne (t := 95) (ck_get kk_Mo_wordOf 49 rfl) (by decide) (fun hc88 => ?_) (fun hc88 => ?_)
          · refine wp_iconst (v := nI 0) (by decide) (ck_get kk_Mo_wordOf 52 rfl) ?_
            refine wp_istore (ck_get kk_Mo_wordOf 53 rfl) (by decide) rfl ?_
            first | refine wp_iincN (ck_get kk_Mo_wordOf 54 rfl) rfl (by decide) rfl ?_ | refine wp_iinc (ck_get kk_Mo_wordOf 54 rfl) rfl (by decide) rfl ?_
            refine wp_goto (t := 57) (ck_get kk_Mo_wordOf 55 rfl) (by decide) ?_
            rw [decide_eq_false (fun q => hc88 ((sgb_eq q3 hb).mpr (by rw [q1, q])))] at ih2
            exact ih2
          · refine wp_iconst (v := nI 1) (by decide) (ck_get kk_Mo_wordOf 50 rfl) ?_
            refine wp_goto (t := 96) (ck_get kk_Mo_wordOf 51 rfl) (by decide) ?_
            refine wp_istore (ck_get kk_Mo_wordOf 53 rfl) (by decide) rfl ?_
            first | refine wp_iincN (ck_get kk_Mo_wordOf 54 rfl) rfl (by decide) rfl ?_ | refine wp_iinc (ck_get kk_Mo_wordOf 54 rfl) rfl (by decide) rfl ?_
            refine wp_goto (t := 57) (ck_get kk_Mo_wordOf 55 rfl) (by decide) ?_
            rw [decide_eq_true (by rw [← q1]; exact ((sgb_eq q3 hb).mp hc88).symm)] at ih2
            exact ih2
theorem l_wordOf {s e : Nat} {x5 x6 x7 : Option Value} (hM : MoAt (mT M) (mR M) o) (hX : MtOK M o bt) (hse : s ≤ e) (he : e ≤ 400) : ∀ f w (x5 x6 x7 : Option Value), w + f = 28 → Wp g Y_Mo_wordOf 0 5 [some (.ref o), some (.int (nI s)), some (.int (nI e)), some (.int (nI (w + 1))), some (.int (nI (ksP w))), x5, x6, x7] [] M (fun r M2 => ∃ x, r = some (.int x) ∧ x = nI (wnF bt s e f w) ∧ M2 = M) := by
  have hM0 := hM
  have to0 := hM.1
  have rfwords := MoAt.r hM 8 rfl
  have tfwords := MoAt.t hM 8 rfl
  intro f
  induction f with
  | zero =>
    intro w x5 x6 x7 hw
    have hw2 : w = 28 := by omega
    subst hw2
    have hk : ksP 28 = 131 := by decide
    rw [hk]
    refine wp_iload rfl (ck_get kk_Mo_wordOf 4 rfl) ?_
    refine wp_aload_n rfl (ck_get kk_Mo_wordOf 5 rfl) ?_
    refine wp_getR (ck_get kk_Mo_wordOf 6 rfl) fl_Mo_51 (by assumption) (by assumption) ?_
    refine wp_alen (ck_get kk_Mo_wordOf 7 rfl) (by assumption) ?_
    first | refine wp_icmp_geN (t := 126) (ck_get kk_Mo_wordOf 8 rfl) (by decide) (by omega) (by omega) (fun hc12 => ?_) (fun hc12 => ?_) | refine wp_icmp_ge (t := 126) (ck_get kk_Mo_wordOf 8 rfl) (by decide) (fun hc12 => ?_) (fun hc12 => ?_)
    · refine wp_iconst (v := nI 0) (by decide) (ck_get kk_Mo_wordOf 68 rfl) ?_
      refine wp_ireturn (ck_get kk_Mo_wordOf 69 rfl) rfl rfl ⟨_, rfl, ?_⟩
      exact ⟨rfl, rfl⟩
    · omega
  | succ f ih =>
    intro w x5 x6 x7 hw
    obtain ⟨k1, k2, k3, k4, k5, k6⟩ := wd_t w (by omega)
    have K : ∀ (b : Bool) x7, b = smF bt s e w (wdL w) → Wp g Y_Mo_wordOf 0 104 [some (.ref o), some (.int (nI s)), some (.int (nI e)), some (.int (nI (w + 1))), some (.int (nI (ksP w))), some (.int (nI (wdL w))), some (.int (bI b)), x7] [] M (fun r M2 => ∃ x, r = some (.int x) ∧ x = nI (wnF bt s e (f + 1) w) ∧ M2 = M) := by
      intro b x7 hb
      have hmt : mtW bt s e w = b := hb.symm
      cases b with
      | true =>
        refine wp_iload rfl (ck_get kk_Mo_wordOf 56 rfl) ?_
        first | refine wp_if_eqN (t := 111) (ck_get kk_Mo_wordOf 57 rfl) (by decide) (by omega) (fun hc106 => ?_) (fun hc106 => ?_) | refine wp_if_eq (t := 111) (ck_get kk_Mo_wordOf 57 rfl) (by decide) (fun hc106 => ?_) (fun hc106 => ?_)
        · exact absurd hc106 (by decide)
        · refine wp_iload_n rfl (ck_get kk_Mo_wordOf 58 rfl) ?_
          refine wp_ireturn (ck_get kk_Mo_wordOf 59 rfl) rfl rfl ⟨_, rfl, ?_⟩
          refine ⟨?_, rfl⟩
          rw [wnF, if_pos hmt]
      | false =>
        have ih2 := ih (w + 1) (some (.int (nI (wdL w)))) (some (.int (bI false))) x7 (by omega)
        rw [k3] at ih2
        have e1 : wnF bt s e (f + 1) w = wnF bt s e f (w + 1) := by rw [wnF, if_neg (by rw [hmt]; decide)]
        rw [e1]
        refine wp_iload rfl (ck_get kk_Mo_wordOf 56 rfl) ?_
        first | refine wp_if_eqN (t := 111) (ck_get kk_Mo_wordOf 57 rfl) (by decide) (by omega) (fun hc106 => ?_) (fun hc106 => ?_) | refine wp_if_eq (t := 111) (ck_get kk_Mo_wordOf 57 rfl) (by decide) (fun hc106 => ?_) (fun hc106 => ?_)
        · refine wp_iload rfl (ck_get kk_Mo_wordOf 60 rfl) ?_
          refine wp_iload rfl (ck_get kk_Mo_wordOf 61 rfl) ?_
          refine wp_iconst (v := nI 1) (by decide) (ck_get kk_Mo_wordOf 62 rfl) ?_
          first | refine wp_iaddN (ck_get kk_Mo_wordOf 63 rfl) ?_ | refine wp_iadd (ck_get kk_Mo_wordOf 63 rfl) ?_
          first | refine wp_iaddN (ck_get kk_Mo_wordOf 64 rfl) ?_ | refine wp_iadd (ck_get kk_Mo_wordOf 64 rfl) ?_
          refine wp_istore (ck_get kk_Mo_wordOf 65 rfl) (by decide) rfl ?_
          first | refine wp_iincN (ck_get kk_Mo_wordOf 66 rfl) rfl (by decide) rfl ?_ | refine wp_iinc (ck_get kk_Mo_wordOf 66 rfl) rfl (by decide) rfl ?_
          refine wp_goto (t := 5) (ck_get kk_Mo_wordOf 67 rfl) (by decide) ?_
          exact ih2
        · exact absurd rfl hc106
    have hs := l_scan (w := w) (x1 := some (.int (nI s))) (x2 := some (.int (nI e))) (x6 := x6) (x7 := x7) (g := g) hM0 hX (by omega) (Q := fun r M2 => ∃ x, r = some (.int x) ∧ x = nI (wnF bt s e (f + 1) w) ∧ M2 = M) ?_ (wdL w) 0 (by omega)
    · skip
      refine wp_iload rfl (ck_get kk_Mo_wordOf 4 rfl) ?_
      refine wp_aload_n rfl (ck_get kk_Mo_wordOf 5 rfl) ?_
      refine wp_getR (ck_get kk_Mo_wordOf 6 rfl) fl_Mo_51 (by assumption) (by assumption) ?_
      refine wp_alen (ck_get kk_Mo_wordOf 7 rfl) (by assumption) ?_
      first | refine wp_icmp_geN (t := 126) (ck_get kk_Mo_wordOf 8 rfl) (by decide) (by omega) (by omega) (fun hc12 => ?_) (fun hc12 => ?_) | refine wp_icmp_ge (t := 126) (ck_get kk_Mo_wordOf 8 rfl) (by decide) (fun hc12 => ?_) (fun hc12 => ?_)
      · omega
      · refine wp_iconst (v := nI 0) (by decide) (ck_get kk_Mo_wordOf 9 rfl) ?_
        refine wp_istore (ck_get kk_Mo_wordOf 10 rfl) (by decide) rfl ?_
        exact hs
    · have hsm := l_same (g := g) hM0 hX (by omega) hse he (fun x7 => K _ x7 rfl) (wdL w) 0 (by omega)
      rw [smF_0] at hsm
      by_cases hl : e - s = wdL w
      · rw [decide_eq_true hl] at hsm
        refine wp_iload rfl (ck_get kk_Mo_wordOf 21 rfl) ?_
        refine wp_iload_n rfl (ck_get kk_Mo_wordOf 22 rfl) ?_
        refine wp_iload_n rfl (ck_get kk_Mo_wordOf 23 rfl) ?_
        first | refine wp_isubN (ck_get kk_Mo_wordOf 24 rfl) (by omega) ?_ | refine wp_isub (ck_get kk_Mo_wordOf 24 rfl) ?_
        first | refine wp_icmp_neN (t := 51) (ck_get kk_Mo_wordOf 25 rfl) (by decide) (by omega) (by omega) (fun hc44 => ?_) (fun hc44 => ?_) | refine wp_icmp_ne (t := 51) (ck_get kk_Mo_wordOf 25 rfl) (by decide) (fun hc44 => ?_) (fun hc44 => ?_)
        · omega
        · refine wp_iconst (v := nI 1) (by decide) (ck_get kk_Mo_wordOf 26 rfl) ?_
          refine wp_goto (t := 52) (ck_get kk_Mo_wordOf 27 rfl) (by decide) ?_
          refine wp_istore (ck_get kk_Mo_wordOf 29 rfl) (by decide) rfl ?_
          refine wp_iconst (v := nI 0) (by decide) (ck_get kk_Mo_wordOf 30 rfl) ?_
          refine wp_istore (ck_get kk_Mo_wordOf 31 rfl) (by decide) rfl ?_
          exact hsm
      · rw [decide_eq_false hl] at hsm
        refine wp_iload rfl (ck_get kk_Mo_wordOf 21 rfl) ?_
        refine wp_iload_n rfl (ck_get kk_Mo_wordOf 22 rfl) ?_
        refine wp_iload_n rfl (ck_get kk_Mo_wordOf 23 rfl) ?_
        first | refine wp_isubN (ck_get kk_Mo_wordOf 24 rfl) (by omega) ?_ | refine wp_isub (ck_get kk_Mo_wordOf 24 rfl) ?_
        first | refine wp_icmp_neN (t := 51) (ck_get kk_Mo_wordOf 25 rfl) (by decide) (by omega) (by omega) (fun hc44 => ?_) (fun hc44 => ?_) | refine wp_icmp_ne (t := 51) (ck_get kk_Mo_wordOf 25 rfl) (by decide) (fun hc44 => ?_) (fun hc44 => ?_)
        · refine wp_iconst (v := nI 0) (by decide) (ck_get kk_Mo_wordOf 28 rfl) ?_
          refine wp_istore (ck_get kk_Mo_wordOf 29 rfl) (by decide) rfl ?_
          refine wp_iconst (v := nI 0) (by decide) (ck_get kk_Mo_wordOf 30 rfl) ?_
          refine wp_istore (ck_get kk_Mo_wordOf 31 rfl) (by decide) rfl ?_
          exact hsm
        · omega
theorem m_wordOf {s e : Nat} (hM : MoAt (mT M) (mR M) o) (hX : MtOK M o bt) (hse : s ≤ e) (he : e ≤ 400) : Ci g Y_Mo_wordOf 0 [.ref o, .int (nI s), .int (nI e)] M (fun x M2 => x = nI (wnum bt s e) ∧ M2 = M) := by
  refine cw_entry 5 pf_Mo_wordOf rfl ?_
  refine wp_iconst (v := nI 1) (by decide) (ck_get kk_Mo_wordOf 0 rfl) ?_
  refine wp_istore_n (ck_get kk_Mo_wordOf 1 rfl) (by decide) rfl ?_
  refine wp_iconst (v := nI 0) (by decide) (ck_get kk_Mo_wordOf 2 rfl) ?_
  refine wp_istore (ck_get kk_Mo_wordOf 3 rfl) (by decide) rfl ?_
  exact l_wordOf (x5 := none) (x6 := none) (x7 := none) hM hX hse he 28 0 none none none (by omega)
end MLX

/-! ===== MissCurves$Parser: tokens ===== -/
section PX
variable {g : Gl} {M : Mem} {pa tp L : Nat} {bt : Nat → Nat}
/-- a text is laid: its length, its bytes -/
def TxOK (M : Mem) (pa tp L : Nat) (bt : Nat → Nat) : Prop := PaAt (mT M) (mR M) pa tp ∧ mI M pa 3 = nI L ∧ L ≤ 400 ∧ (∀ j, j < 400 → mI M tp j = nI (bt j)) ∧ ∀ j, bt j < 256
theorem l_adv93 (hX : TxOK M pa tp L bt) : ∀ f p k s e v lf cl cd, p ≤ L → L - p = f → v < 100000 → (k = 0 → L ≤ p) → k < 100000 → Wp g Y_Pa_advance 1 93 [some (.ref pa), some (.int (nI p))] [] (cS M pa lf k s e v cl cd) (fun r M2 => r = none ∧ M2 = cS M pa lf k s (if k = 3 then p else rn bt L k p) (if k = 2 then dv bt L p v else v) cl cd) := by
  obtain ⟨⟨t0, r0, hPr, r2, t2, htp⟩, h3, hL, hbt, hb2⟩ := hX
  have hT : ∀ lf k s e v cl cd j, j < 400 → mI (cS M pa lf k s e v cl cd) tp j = nI (bt j) := fun lf k s e v cl cd j hj => by
    rw [cS_o (by omega) (by omega) (by omega)]; exact hbt j hj
  have h33 : ∀ lf k s e v cl cd, mI (cS M pa lf k s e v cl cd) pa 3 = nI L := fun lf k s e v cl cd => by rw [cS_pa]; exact h3
  have h66 : ∀ lf k s e v cl cd, mI (cS M pa lf k s e v cl cd) pa 6 = nI k := fun lf k s e v cl cd => by rw [cS_pa]; rfl
  have h99 : ∀ lf k s e v cl cd, mI (cS M pa lf k s e v cl cd) pa 9 = nI v := fun lf k s e v cl cd => by rw [cS_pa]; rfl
  intro f
  induction f with
  | zero =>
    intro p k s e v lf cl cd hp hf hv hk0 hkk
    refine wp_iload_n rfl (ck_get kk_Pa_advance 48 rfl) ?_
    refine wp_aload_n rfl (ck_get kk_Pa_advance 49 rfl) ?_
    refine wp_getIv (v := nI L) (ck_get kk_Pa_advance 50 rfl) fl_Pa_28 (by assumption) (h33 _ _ _ _ _ _ _) ?_
    first | refine wp_icmp_geN (t := 166) (ck_get kk_Pa_advance 51 rfl) (by decide) (by omega) (by omega) (fun hc98 => ?_) (fun hc98 => ?_) | refine wp_icmp_ge (t := 166) (ck_get kk_Pa_advance 51 rfl) (by decide) (fun hc98 => ?_) (fun hc98 => ?_)
    · refine wp_aload_n rfl (ck_get kk_Pa_advance 85 rfl) ?_
      refine wp_iload_n rfl (ck_get kk_Pa_advance 86 rfl) ?_
      refine wp_putI (ck_get kk_Pa_advance 87 rfl) fl_Pa_44 (by decide +kernel) (by assumption) (okI_int _) ?_
      rw [cS_w8]
      refine wp_return (ck_get kk_Pa_advance 88 rfl) rfl ⟨rfl, ?_⟩
      rw [rn_out (by omega), dv_out (by omega), ite_self, ite_self]
    · omega
  | succ f ih =>
    intro p k s e v lf cl cd hp hf hv hk0 hkk
    by_cases hk3 : k = 3
    · subst hk3
      refine wp_iload_n rfl (ck_get kk_Pa_advance 48 rfl) ?_
      refine wp_aload_n rfl (ck_get kk_Pa_advance 49 rfl) ?_
      refine wp_getIv (v := nI L) (ck_get kk_Pa_advance 50 rfl) fl_Pa_28 (by assumption) (h33 _ _ _ _ _ _ _) ?_
      first | refine wp_icmp_geN (t := 166) (ck_get kk_Pa_advance 51 rfl) (by decide) (by omega) (by omega) (fun hc98 => ?_) (fun hc98 => ?_) | refine wp_icmp_ge (t := 166) (ck_get kk_Pa_advance 51 rfl) (by decide) (fun hc98 => ?_) (fun hc98 => ?_)
      · omega
      · refine wp_aload_n rfl (ck_get kk_Pa_advance 52 rfl) ?_
        refine wp_getIv (v := nI 3) (ck_get kk_Pa_advance 53 rfl) fl_Pa_38 (by assumption) (h66 _ _ _ _ _ _ _) ?_
        refine wp_iconst (v := nI 3) (by decide) (ck_get kk_Pa_advance 54 rfl) ?_
        first | refine wp_icmp_eqN (t := 166) (ck_get kk_Pa_advance 55 rfl) (by decide) (by omega) (by omega) (fun hc106 => ?_) (fun hc106 => ?_) | refine wp_icmp_eq (t := 166) (ck_get kk_Pa_advance 55 rfl) (by decide) (fun hc106 => ?_) (fun hc106 => ?_)
        · refine wp_aload_n rfl (ck_get kk_Pa_advance 85 rfl) ?_
          refine wp_iload_n rfl (ck_get kk_Pa_advance 86 rfl) ?_
          refine wp_putI (ck_get kk_Pa_advance 87 rfl) fl_Pa_44 (by decide +kernel) (by assumption) (okI_int _) ?_
          rw [cS_w8]
          refine wp_return (ck_get kk_Pa_advance 88 rfl) rfl ⟨rfl, ?_⟩
          rw [if_pos rfl, if_neg (by decide)]
        · omega
    by_cases hkd : kdN (bt p) = k
    · by_cases hk2 : k = 2
      · subst hk2
        have hd : 48 ≤ bt p ∧ bt p ≤ 57 := by
          revert hkd; unfold kdN; split
          · omega
          · split
            · intro _; assumption
            · omega
        refine wp_iload_n rfl (ck_get kk_Pa_advance 48 rfl) ?_
        refine wp_aload_n rfl (ck_get kk_Pa_advance 49 rfl) ?_
        refine wp_getIv (v := nI L) (ck_get kk_Pa_advance 50 rfl) fl_Pa_28 (by assumption) (h33 _ _ _ _ _ _ _) ?_
        first | refine wp_icmp_geN (t := 166) (ck_get kk_Pa_advance 51 rfl) (by decide) (by omega) (by omega) (fun hc98 => ?_) (fun hc98 => ?_) | refine wp_icmp_ge (t := 166) (ck_get kk_Pa_advance 51 rfl) (by decide) (fun hc98 => ?_) (fun hc98 => ?_)
        · omega
        · refine wp_aload_n rfl (ck_get kk_Pa_advance 52 rfl) ?_
          refine wp_getIv (v := nI 2) (ck_get kk_Pa_advance 53 rfl) fl_Pa_38 (by assumption) (h66 _ _ _ _ _ _ _) ?_
          refine wp_iconst (v := nI 3) (by decide) (ck_get kk_Pa_advance 54 rfl) ?_
          first | refine wp_icmp_eqN (t := 166) (ck_get kk_Pa_advance 55 rfl) (by decide) (by omega) (by omega) (fun hc106 => ?_) (fun hc106 => ?_) | refine wp_icmp_eq (t := 166) (ck_get kk_Pa_advance 55 rfl) (by decide) (fun hc106 => ?_) (fun hc106 => ?_)
          · omega
          · refine wp_aload_n rfl (ck_get kk_Pa_advance 56 rfl) ?_
            refine wp_getR (ck_get kk_Pa_advance 57 rfl) fl_Pa_24 (by assumption) (by assumption) ?_
            refine wp_iload_n rfl (ck_get kk_Pa_advance 58 rfl) ?_
            refine wp_ialdv (v := nI (bt p)) (ck_get kk_Pa_advance 59 rfl) (by assumption) (ixk_nI (k := p) (by omega) (by omega)) (hT _ _ _ _ _ _ _ _ (by omega)) ?_
            refine wp_cS1i (ck_get kk_Pa_advance 60 rfl) ml_Pa_100 (by omega) (Nat.le_of_ble_eq_true rfl) (Ci.to (c_kindOf (hb2 _)) ?_)
            rintro _ M1 ⟨rfl, eqm1⟩
            obtain rfl := eqm1.symm
            refine wp_aload_n rfl (ck_get kk_Pa_advance 61 rfl) ?_
            refine wp_getIv (v := nI 2) (ck_get kk_Pa_advance 62 rfl) fl_Pa_38 (by assumption) (h66 _ _ _ _ _ _ _) ?_
            have kle := kdN_le (bt p)
            first | refine wp_icmp_neN (t := 166) (ck_get kk_Pa_advance 63 rfl) (by decide) (by omega) (by omega) (fun hc122 => ?_) (fun hc122 => ?_) | refine wp_icmp_ne (t := 166) (ck_get kk_Pa_advance 63 rfl) (by decide) (fun hc122 => ?_) (fun hc122 => ?_)
            · omega
            · refine wp_aload_n rfl (ck_get kk_Pa_advance 64 rfl) ?_
              refine wp_getIv (v := nI 2) (ck_get kk_Pa_advance 65 rfl) fl_Pa_38 (by assumption) (h66 _ _ _ _ _ _ _) ?_
              refine wp_iconst (v := nI 2) (by decide) (ck_get kk_Pa_advance 66 rfl) ?_
              first | refine wp_icmp_neN (t := 160) (ck_get kk_Pa_advance 67 rfl) (by decide) (by omega) (by omega) (fun hc130 => ?_) (fun hc130 => ?_) | refine wp_icmp_ne (t := 160) (ck_get kk_Pa_advance 67 rfl) (by decide) (fun hc130 => ?_) (fun hc130 => ?_)
              · omega
              · refine wp_aload_n rfl (ck_get kk_Pa_advance 68 rfl) ?_
                refine wp_bipush (v := nI 10) (by decide) (ck_get kk_Pa_advance 69 rfl) ?_
                refine wp_aload_n rfl (ck_get kk_Pa_advance 70 rfl) ?_
                refine wp_getIv (v := nI v) (ck_get kk_Pa_advance 71 rfl) fl_Pa_47 (by assumption) (h99 _ _ _ _ _ _ _) ?_
                first | refine wp_imulN (ck_get kk_Pa_advance 72 rfl) ?_ | refine wp_imul (ck_get kk_Pa_advance 72 rfl) ?_
                refine wp_aload_n rfl (ck_get kk_Pa_advance 73 rfl) ?_
                refine wp_getR (ck_get kk_Pa_advance 74 rfl) fl_Pa_24 (by assumption) (by assumption) ?_
                refine wp_iload_n rfl (ck_get kk_Pa_advance 75 rfl) ?_
                refine wp_ialdv (v := nI (bt p)) (ck_get kk_Pa_advance 76 rfl) (by assumption) (ixk_nI (k := p) (by omega) (by omega)) (hT _ _ _ _ _ _ _ _ (by omega)) ?_
                first | refine wp_iaddN (ck_get kk_Pa_advance 77 rfl) ?_ | refine wp_iadd (ck_get kk_Pa_advance 77 rfl) ?_
                refine wp_bipush (v := nI 48) (by decide) (ck_get kk_Pa_advance 78 rfl) ?_
                refine wp_isubN (ck_get kk_Pa_advance 79 rfl) (by omega) ?_
                refine wp_sipush (v := nI 1001) (by decide) (ck_get kk_Pa_advance 80 rfl) ?_
                refine wp_cS2i (ck_get kk_Pa_advance 81 rfl) ml_Pa_95 (by omega) (Nat.le_of_ble_eq_true rfl) (Ci.to (c_min (by omega) (by omega)) ?_)
                rintro _ M1 ⟨rfl, eqm1⟩
                obtain rfl := eqm1.symm
                refine wp_putI (ck_get kk_Pa_advance 82 rfl) fl_Pa_47 (by decide +kernel) (by assumption) (okI_int _) ?_
                rw [cS_w9]
                first | refine wp_iincN (ck_get kk_Pa_advance 83 rfl) rfl (by decide) rfl ?_ | refine wp_iinc (ck_get kk_Pa_advance 83 rfl) rfl (by decide) rfl ?_
                refine wp_goto (t := 93) (ck_get kk_Pa_advance 84 rfl) (by decide) ?_
                refine Wp.mono (ih (p + 1) 2 s e _ lf cl cd (by omega) (by omega) (by omega) (by omega) (by omega)) ?_
                rintro r₁ M₁ ⟨hr₁, hM₁⟩
                refine ⟨hr₁, hM₁.trans ?_⟩
                rw [if_neg (by decide), if_pos rfl, if_neg (by decide), if_pos rfl, rn_in (by omega) hkd, dv_in (by omega) hkd]
      · skip
        refine wp_iload_n rfl (ck_get kk_Pa_advance 48 rfl) ?_
        refine wp_aload_n rfl (ck_get kk_Pa_advance 49 rfl) ?_
        refine wp_getIv (v := nI L) (ck_get kk_Pa_advance 50 rfl) fl_Pa_28 (by assumption) (h33 _ _ _ _ _ _ _) ?_
        first | refine wp_icmp_geN (t := 166) (ck_get kk_Pa_advance 51 rfl) (by decide) (by omega) (by omega) (fun hc98 => ?_) (fun hc98 => ?_) | refine wp_icmp_ge (t := 166) (ck_get kk_Pa_advance 51 rfl) (by decide) (fun hc98 => ?_) (fun hc98 => ?_)
        · omega
        · refine wp_aload_n rfl (ck_get kk_Pa_advance 52 rfl) ?_
          refine wp_getIv (v := nI k) (ck_get kk_Pa_advance 53 rfl) fl_Pa_38 (by assumption) (h66 _ _ _ _ _ _ _) ?_
          refine wp_iconst (v := nI 3) (by decide) (ck_get kk_Pa_advance 54 rfl) ?_
          first | refine wp_icmp_eqN (t := 166) (ck_get kk_Pa_advance 55 rfl) (by decide) (by omega) (by omega) (fun hc106 => ?_) (fun hc106 => ?_) | refine wp_icmp_eq (t := 166) (ck_get kk_Pa_advance 55 rfl) (by decide) (fun hc106 => ?_) (fun hc106 => ?_)
          · omega
          · refine wp_aload_n rfl (ck_get kk_Pa_advance 56 rfl) ?_
            refine wp_getR (ck_get kk_Pa_advance 57 rfl) fl_Pa_24 (by assumption) (by assumption) ?_
            refine wp_iload_n rfl (ck_get kk_Pa_advance 58 rfl) ?_
            refine wp_ialdv (v := nI (bt p)) (ck_get kk_Pa_advance 59 rfl) (by assumption) (ixk_nI (k := p) (by omega) (by omega)) (hT _ _ _ _ _ _ _ _ (by omega)) ?_
            refine wp_cS1i (ck_get kk_Pa_advance 60 rfl) ml_Pa_100 (by omega) (Nat.le_of_ble_eq_true rfl) (Ci.to (c_kindOf (hb2 _)) ?_)
            rintro _ M1 ⟨rfl, eqm1⟩
            obtain rfl := eqm1.symm
            refine wp_aload_n rfl (ck_get kk_Pa_advance 61 rfl) ?_
            refine wp_getIv (v := nI k) (ck_get kk_Pa_advance 62 rfl) fl_Pa_38 (by assumption) (h66 _ _ _ _ _ _ _) ?_
            have kle := kdN_le (bt p)
            first | refine wp_icmp_neN (t := 166) (ck_get kk_Pa_advance 63 rfl) (by decide) (by omega) (by omega) (fun hc122 => ?_) (fun hc122 => ?_) | refine wp_icmp_ne (t := 166) (ck_get kk_Pa_advance 63 rfl) (by decide) (fun hc122 => ?_) (fun hc122 => ?_)
            · omega
            · refine wp_aload_n rfl (ck_get kk_Pa_advance 64 rfl) ?_
              refine wp_getIv (v := nI k) (ck_get kk_Pa_advance 65 rfl) fl_Pa_38 (by assumption) (h66 _ _ _ _ _ _ _) ?_
              refine wp_iconst (v := nI 2) (by decide) (ck_get kk_Pa_advance 66 rfl) ?_
              first | refine wp_icmp_neN (t := 160) (ck_get kk_Pa_advance 67 rfl) (by decide) (by omega) (by omega) (fun hc130 => ?_) (fun hc130 => ?_) | refine wp_icmp_ne (t := 160) (ck_get kk_Pa_advance 67 rfl) (by decide) (fun hc130 => ?_) (fun hc130 => ?_)
              · first | refine wp_iincN (ck_get kk_Pa_advance 83 rfl) rfl (by decide) rfl ?_ | refine wp_iinc (ck_get kk_Pa_advance 83 rfl) rfl (by decide) rfl ?_
                refine wp_goto (t := 93) (ck_get kk_Pa_advance 84 rfl) (by decide) ?_
                refine Wp.mono (ih (p + 1) k s e v lf cl cd (by omega) (by omega) hv (by omega) hkk) ?_
                rintro r₁ M₁ ⟨hr₁, hM₁⟩
                refine ⟨hr₁, hM₁.trans ?_⟩
                rw [if_neg hk3, if_neg hk2, if_neg hk3, if_neg hk2, rn_in (by omega) hkd]
              · omega
    · skip
      refine wp_iload_n rfl (ck_get kk_Pa_advance 48 rfl) ?_
      refine wp_aload_n rfl (ck_get kk_Pa_advance 49 rfl) ?_
      refine wp_getIv (v := nI L) (ck_get kk_Pa_advance 50 rfl) fl_Pa_28 (by assumption) (h33 _ _ _ _ _ _ _) ?_
      first | refine wp_icmp_geN (t := 166) (ck_get kk_Pa_advance 51 rfl) (by decide) (by omega) (by omega) (fun hc98 => ?_) (fun hc98 => ?_) | refine wp_icmp_ge (t := 166) (ck_get kk_Pa_advance 51 rfl) (by decide) (fun hc98 => ?_) (fun hc98 => ?_)
      · omega
      · refine wp_aload_n rfl (ck_get kk_Pa_advance 52 rfl) ?_
        refine wp_getIv (v := nI k) (ck_get kk_Pa_advance 53 rfl) fl_Pa_38 (by assumption) (h66 _ _ _ _ _ _ _) ?_
        refine wp_iconst (v := nI 3) (by decide) (ck_get kk_Pa_advance 54 rfl) ?_
        first | refine wp_icmp_eqN (t := 166) (ck_get kk_Pa_advance 55 rfl) (by decide) (by omega) (by omega) (fun hc106 => ?_) (fun hc106 => ?_) | refine wp_icmp_eq (t := 166) (ck_get kk_Pa_advance 55 rfl) (by decide) (fun hc106 => ?_) (fun hc106 => ?_)
        · omega
        · refine wp_aload_n rfl (ck_get kk_Pa_advance 56 rfl) ?_
          refine wp_getR (ck_get kk_Pa_advance 57 rfl) fl_Pa_24 (by assumption) (by assumption) ?_
          refine wp_iload_n rfl (ck_get kk_Pa_advance 58 rfl) ?_
          refine wp_ialdv (v := nI (bt p)) (ck_get kk_Pa_advance 59 rfl) (by assumption) (ixk_nI (k := p) (by omega) (by omega)) (hT _ _ _ _ _ _ _ _ (by omega)) ?_
          refine wp_cS1i (ck_get kk_Pa_advance 60 rfl) ml_Pa_100 (by omega) (Nat.le_of_ble_eq_true rfl) (Ci.to (c_kindOf (hb2 _)) ?_)
          rintro _ M1 ⟨rfl, eqm1⟩
          obtain rfl := eqm1.symm
          refine wp_aload_n rfl (ck_get kk_Pa_advance 61 rfl) ?_
          refine wp_getIv (v := nI k) (ck_get kk_Pa_advance 62 rfl) fl_Pa_38 (by assumption) (h66 _ _ _ _ _ _ _) ?_
          have kle := kdN_le (bt p)
          first | refine wp_icmp_neN (t := 166) (ck_get kk_Pa_advance 63 rfl) (by decide) (by omega) (by omega) (fun hc122 => ?_) (fun hc122 => ?_) | refine wp_icmp_ne (t := 166) (ck_get kk_Pa_advance 63 rfl) (by decide) (fun hc122 => ?_) (fun hc122 => ?_)
          · refine wp_aload_n rfl (ck_get kk_Pa_advance 85 rfl) ?_
            refine wp_iload_n rfl (ck_get kk_Pa_advance 86 rfl) ?_
            refine wp_putI (ck_get kk_Pa_advance 87 rfl) fl_Pa_44 (by decide +kernel) (by assumption) (okI_int _) ?_
            rw [cS_w8]
            refine wp_return (ck_get kk_Pa_advance 88 rfl) rfl ⟨rfl, ?_⟩
            rw [if_neg hk3, rn_out (by omega)]
            by_cases hk2 : k = 2
            · subst hk2
              rw [if_pos rfl, dv_out (by omega)]
            · rw [if_neg hk2]
          · omega
/-- the memory with the token that begins at s -/
abbrev cTk (M : Mem) (pa L : Nat) (bt : Nat → Nat) (s lf cl : Nat) (cd : Nat → Int32) : Mem := cS M pa lf (kOf bt L s) s (eOf bt L s) (vOf bt L s) cl cd
theorem l_adv30 (hX : TxOK M pa tp L bt) {p k s e v lf cl : Nat} {cd : Nat → Int32} (hp : p ≤ L) : Wp g Y_Pa_advance 1 30 [some (.ref pa), some (.int (nI p))] [] (cS M pa lf k s e v cl cd) (fun r M2 => r = none ∧ M2 = cTk M pa L bt p lf cl cd) := by
  have hX0 := hX
  obtain ⟨⟨t0, r0, hPr, r2, t2, htp⟩, h3, hL, hbt, hb2⟩ := hX
  have hT : ∀ lf k s e v cl cd j, j < 400 → mI (cS M pa lf k s e v cl cd) tp j = nI (bt j) := fun lf k s e v cl cd j hj => by
    rw [cS_o (by omega) (by omega) (by omega)]; exact hbt j hj
  have h33 : ∀ lf k s e v cl cd, mI (cS M pa lf k s e v cl cd) pa 3 = nI L := fun lf k s e v cl cd => by rw [cS_pa]; exact h3
  have h66 : ∀ lf k s e v cl cd, mI (cS M pa lf k s e v cl cd) pa 6 = nI k := fun lf k s e v cl cd => by rw [cS_pa]; rfl
  have kle := kdN_le (bt p)
  have bl := hb2 p
  refine wp_aload_n rfl (ck_get kk_Pa_advance 15 rfl) ?_
  refine wp_iload_n rfl (ck_get kk_Pa_advance 16 rfl) ?_
  refine wp_putI (ck_get kk_Pa_advance 17 rfl) fl_Pa_41 (by decide +kernel) (by assumption) (okI_int _) ?_
  rw [cS_w7]
  refine wp_aload_n rfl (ck_get kk_Pa_advance 18 rfl) ?_
  refine wp_iload_n rfl (ck_get kk_Pa_advance 19 rfl) ?_
  refine wp_aload_n rfl (ck_get kk_Pa_advance 20 rfl) ?_
  refine wp_getIv (v := nI L) (ck_get kk_Pa_advance 21 rfl) fl_Pa_28 (by assumption) (h33 _ _ _ _ _ _ _) ?_
  first | refine wp_icmp_geN (t := 56) (ck_get kk_Pa_advance 22 rfl) (by decide) (by omega) (by omega) (fun hc41 => ?_) (fun hc41 => ?_) | refine wp_icmp_ge (t := 56) (ck_get kk_Pa_advance 22 rfl) (by decide) (fun hc41 => ?_) (fun hc41 => ?_)
  · refine wp_iconst (v := nI 0) (by decide) (ck_get kk_Pa_advance 29 rfl) ?_
    refine wp_putI (ck_get kk_Pa_advance 30 rfl) fl_Pa_38 (by decide +kernel) (by assumption) (okI_int _) ?_
    rw [cS_w6]
    refine wp_aload_n rfl (ck_get kk_Pa_advance 31 rfl) ?_
    refine wp_aload_n rfl (ck_get kk_Pa_advance 32 rfl) ?_
    refine wp_getIv (v := nI 0) (ck_get kk_Pa_advance 33 rfl) fl_Pa_38 (by assumption) (h66 _ _ _ _ _ _ _) ?_
    refine wp_iconst (v := nI 3) (by decide) (ck_get kk_Pa_advance 34 rfl) ?_
    first | refine wp_icmp_neN (t := 78) (ck_get kk_Pa_advance 35 rfl) (by decide) (by omega) (by omega) (fun hc66 => ?_) (fun hc66 => ?_) | refine wp_icmp_ne (t := 78) (ck_get kk_Pa_advance 35 rfl) (by decide) (fun hc66 => ?_) (fun hc66 => ?_)
    · refine wp_iconst (v := nI 0) (by decide) (ck_get kk_Pa_advance 41 rfl) ?_
      refine wp_putI (ck_get kk_Pa_advance 42 rfl) fl_Pa_47 (by decide +kernel) (by assumption) (okI_int _) ?_
      rw [cS_w9]
      refine wp_aload_n rfl (ck_get kk_Pa_advance 43 rfl) ?_
      refine wp_getIv (v := nI 0) (ck_get kk_Pa_advance 44 rfl) fl_Pa_38 (by assumption) (h66 _ _ _ _ _ _ _) ?_
      refine wp_iconst (v := nI 3) (by decide) (ck_get kk_Pa_advance 45 rfl) ?_
      first | refine wp_icmp_neN (t := 93) (ck_get kk_Pa_advance 46 rfl) (by decide) (by omega) (by omega) (fun hc87 => ?_) (fun hc87 => ?_) | refine wp_icmp_ne (t := 93) (ck_get kk_Pa_advance 46 rfl) (by decide) (fun hc87 => ?_) (fun hc87 => ?_)
      · refine Wp.mono (l_adv93 hX0 (L - p) p 0 _ _ 0 lf cl cd (by omega) rfl (by omega) (by omega) (by omega)) ?_
        rintro r₁ M₁ ⟨hr₁, hM₁⟩
        refine ⟨hr₁, hM₁.trans ?_⟩
        rw [cTk, kOf, eOf, vOf, if_neg (by omega), if_neg (by omega), if_neg (by omega), if_neg (by omega), if_neg (by omega), rn_out (by omega)]
      · omega
    · omega
  · refine wp_aload_n rfl (ck_get kk_Pa_advance 23 rfl) ?_
    refine wp_getR (ck_get kk_Pa_advance 24 rfl) fl_Pa_24 (by assumption) (by assumption) ?_
    refine wp_iload_n rfl (ck_get kk_Pa_advance 25 rfl) ?_
    refine wp_ialdv (v := nI (bt p)) (ck_get kk_Pa_advance 26 rfl) (by assumption) (ixk_nI (k := p) (by omega) (by omega)) (hT _ _ _ _ _ _ _ _ (by omega)) ?_
    refine wp_cS1i (ck_get kk_Pa_advance 27 rfl) ml_Pa_100 (by omega) (Nat.le_of_ble_eq_true rfl) (Ci.to (c_kindOf (hb2 _)) ?_)
    rintro _ M1 ⟨rfl, eqm1⟩
    obtain rfl := eqm1.symm
    refine wp_goto (t := 57) (ck_get kk_Pa_advance 28 rfl) (by decide) ?_
    refine wp_putI (ck_get kk_Pa_advance 30 rfl) fl_Pa_38 (by decide +kernel) (by assumption) (okI_int _) ?_
    rw [cS_w6]
    refine wp_aload_n rfl (ck_get kk_Pa_advance 31 rfl) ?_
    refine wp_aload_n rfl (ck_get kk_Pa_advance 32 rfl) ?_
    refine wp_getIv (v := nI (kdN (bt p))) (ck_get kk_Pa_advance 33 rfl) fl_Pa_38 (by assumption) (h66 _ _ _ _ _ _ _) ?_
    refine wp_iconst (v := nI 3) (by decide) (ck_get kk_Pa_advance 34 rfl) ?_
    first | refine wp_icmp_neN (t := 78) (ck_get kk_Pa_advance 35 rfl) (by decide) (by omega) (by omega) (fun hc66 => ?_) (fun hc66 => ?_) | refine wp_icmp_ne (t := 78) (ck_get kk_Pa_advance 35 rfl) (by decide) (fun hc66 => ?_) (fun hc66 => ?_)
    · refine wp_iconst (v := nI 0) (by decide) (ck_get kk_Pa_advance 41 rfl) ?_
      refine wp_putI (ck_get kk_Pa_advance 42 rfl) fl_Pa_47 (by decide +kernel) (by assumption) (okI_int _) ?_
      rw [cS_w9]
      refine wp_aload_n rfl (ck_get kk_Pa_advance 43 rfl) ?_
      refine wp_getIv (v := nI (kdN (bt p))) (ck_get kk_Pa_advance 44 rfl) fl_Pa_38 (by assumption) (h66 _ _ _ _ _ _ _) ?_
      refine wp_iconst (v := nI 3) (by decide) (ck_get kk_Pa_advance 45 rfl) ?_
      first | refine wp_icmp_neN (t := 93) (ck_get kk_Pa_advance 46 rfl) (by decide) (by omega) (by omega) (fun hc87 => ?_) (fun hc87 => ?_) | refine wp_icmp_ne (t := 93) (ck_get kk_Pa_advance 46 rfl) (by decide) (fun hc87 => ?_) (fun hc87 => ?_)
      · refine Wp.mono (l_adv93 hX0 (L - p) p (kdN (bt p)) _ _ 0 lf cl cd (by omega) rfl (by omega) (by omega) (by omega)) ?_
        rintro r₁ M₁ ⟨hr₁, hM₁⟩
        refine ⟨hr₁, hM₁.trans ?_⟩
        simp only [cTk, kOf, eOf, vOf, if_pos (show p < L by omega), if_neg (show ¬ kdN (bt p) = 3 by omega)]
      · omega
    · refine wp_aload_n rfl (ck_get kk_Pa_advance 36 rfl) ?_
      refine wp_getR (ck_get kk_Pa_advance 37 rfl) fl_Pa_24 (by assumption) (by assumption) ?_
      refine wp_iload_n rfl (ck_get kk_Pa_advance 38 rfl) ?_
      refine wp_ialdv (v := nI (bt p)) (ck_get kk_Pa_advance 39 rfl) (by assumption) (ixk_nI (k := p) (by omega) (by omega)) (hT _ _ _ _ _ _ _ _ (by omega)) ?_
      refine wp_goto (t := 79) (ck_get kk_Pa_advance 40 rfl) (by decide) ?_
      refine wp_putI (ck_get kk_Pa_advance 42 rfl) fl_Pa_47 (by decide +kernel) (by assumption) (okI_int _) ?_
      rw [cS_w9]
      refine wp_aload_n rfl (ck_get kk_Pa_advance 43 rfl) ?_
      refine wp_getIv (v := nI (kdN (bt p))) (ck_get kk_Pa_advance 44 rfl) fl_Pa_38 (by assumption) (h66 _ _ _ _ _ _ _) ?_
      refine wp_iconst (v := nI 3) (by decide) (ck_get kk_Pa_advance 45 rfl) ?_
      first | refine wp_icmp_neN (t := 93) (ck_get kk_Pa_advance 46 rfl) (by decide) (by omega) (by omega) (fun hc87 => ?_) (fun hc87 => ?_) | refine wp_icmp_ne (t := 93) (ck_get kk_Pa_advance 46 rfl) (by decide) (fun hc87 => ?_) (fun hc87 => ?_)
      · omega
      · first | refine wp_iincN (ck_get kk_Pa_advance 47 rfl) rfl (by decide) rfl ?_ | refine wp_iinc (ck_get kk_Pa_advance 47 rfl) rfl (by decide) rfl ?_
        refine Wp.mono (l_adv93 hX0 (L - (p + 1)) (p + 1) (kdN (bt p)) _ _ (bt p) lf cl cd (by omega) rfl (by omega) (by omega) (by omega)) ?_
        rintro r₁ M₁ ⟨hr₁, hM₁⟩
        refine ⟨hr₁, hM₁.trans ?_⟩
        have hk3 : kdN (bt p) = 3 := by omega
        simp only [cTk, kOf, eOf, vOf, if_pos (show p < L by omega), if_pos hk3, if_neg (show ¬ kdN (bt p) = 2 by omega)]
theorem l_adv5 (hX : TxOK M pa tp L bt) : ∀ f p k s e v lf cl cd, p ≤ L → L - p = f → Wp g Y_Pa_advance 1 5 [some (.ref pa), some (.int (nI p))] [] (cS M pa lf k s e v cl cd) (fun r M2 => r = none ∧ M2 = cTk M pa L bt (sk bt L p) lf cl cd) := by
  have hX0 := hX
  obtain ⟨⟨t0, r0, hPr, r2, t2, htp⟩, h3, hL, hbt, hb2⟩ := hX
  have hT : ∀ lf k s e v cl cd j, j < 400 → mI (cS M pa lf k s e v cl cd) tp j = nI (bt j) := fun lf k s e v cl cd j hj => by
    rw [cS_o (by omega) (by omega) (by omega)]; exact hbt j hj
  have h33 : ∀ lf k s e v cl cd, mI (cS M pa lf k s e v cl cd) pa 3 = nI L := fun lf k s e v cl cd => by rw [cS_pa]; exact h3
  intro f
  induction f with
  | zero =>
    intro p k s e v lf cl cd hp hf
    refine wp_iload_n rfl (ck_get kk_Pa_advance 3 rfl) ?_
    refine wp_aload_n rfl (ck_get kk_Pa_advance 4 rfl) ?_
    refine wp_getIv (v := nI L) (ck_get kk_Pa_advance 5 rfl) fl_Pa_28 (by assumption) (h33 _ _ _ _ _ _ _) ?_
    first | refine wp_icmp_geN (t := 30) (ck_get kk_Pa_advance 6 rfl) (by decide) (by omega) (by omega) (fun hc10 => ?_) (fun hc10 => ?_) | refine wp_icmp_ge (t := 30) (ck_get kk_Pa_advance 6 rfl) (by decide) (fun hc10 => ?_) (fun hc10 => ?_)
    · rw [sk_out (by omega)]
      exact l_adv30 hX0 hp
    · omega
  | succ f ih =>
    intro p k s e v lf cl cd hp hf
    have bl := hb2 p
    refine wp_iload_n rfl (ck_get kk_Pa_advance 3 rfl) ?_
    refine wp_aload_n rfl (ck_get kk_Pa_advance 4 rfl) ?_
    refine wp_getIv (v := nI L) (ck_get kk_Pa_advance 5 rfl) fl_Pa_28 (by assumption) (h33 _ _ _ _ _ _ _) ?_
    first | refine wp_icmp_geN (t := 30) (ck_get kk_Pa_advance 6 rfl) (by decide) (by omega) (by omega) (fun hc10 => ?_) (fun hc10 => ?_) | refine wp_icmp_ge (t := 30) (ck_get kk_Pa_advance 6 rfl) (by decide) (fun hc10 => ?_) (fun hc10 => ?_)
    · omega
    · refine wp_aload_n rfl (ck_get kk_Pa_advance 7 rfl) ?_
      refine wp_getR (ck_get kk_Pa_advance 8 rfl) fl_Pa_24 (by assumption) (by assumption) ?_
      refine wp_iload_n rfl (ck_get kk_Pa_advance 9 rfl) ?_
      refine wp_ialdv (v := nI (bt p)) (ck_get kk_Pa_advance 10 rfl) (by assumption) (ixk_nI (k := p) (by omega) (by omega)) (hT _ _ _ _ _ _ _ _ (by omega)) ?_
      refine wp_bipush (v := nI 32) (by decide) (ck_get kk_Pa_advance 11 rfl) ?_
      first | refine wp_icmp_neN (t := 30) (ck_get kk_Pa_advance 12 rfl) (by decide) (by omega) (by omega) (fun hc21 => ?_) (fun hc21 => ?_) | refine wp_icmp_ne (t := 30) (ck_get kk_Pa_advance 12 rfl) (by decide) (fun hc21 => ?_) (fun hc21 => ?_)
      · rw [sk_out (by omega)]
        exact l_adv30 hX0 hp
      · first | refine wp_iincN (ck_get kk_Pa_advance 13 rfl) rfl (by decide) rfl ?_ | refine wp_iinc (ck_get kk_Pa_advance 13 rfl) rfl (by decide) rfl ?_
        refine wp_goto (t := 5) (ck_get kk_Pa_advance 14 rfl) (by decide) ?_
        rw [sk_in (by omega) (by omega)]
        exact ih (p + 1) k s e v lf cl cd (by omega) (by omega)
theorem c_advance (hX : TxOK M pa tp L bt) {k s e v lf cl : Nat} {cd : Nat → Int32} (he : e ≤ L) : Cv g Y_Pa_advance 1 [.ref pa] (cS M pa lf k s e v cl cd) (fun M2 => M2 = cTk M pa L bt (sk bt L e) lf cl cd) := by
  refine cw_entry 1 pf_Pa_advance rfl ?_
  have t0 := hX.1.1
  refine wp_aload_n rfl (ck_get kk_Pa_advance 0 rfl) ?_
  refine wp_getIv (v := nI e) (ck_get kk_Pa_advance 1 rfl) fl_Pa_44 (by assumption) (by rw [cS_pa]; rfl) ?_
  refine wp_istore_n (ck_get kk_Pa_advance 2 rfl) (by decide) rfl ?_
  exact l_adv5 hX (L - e) e k s e v lf cl cd he rfl
theorem c_isSign (hX : TxOK M pa tp L bt) {k s e v lf cl c : Nat} {cd : Nat → Int32} (hk : k < 1000) (hv : v < 100000) (hc : c < 1000) : Ci g Y_Pa_isSign 0 [.ref pa, .int (nI c)] (cS M pa lf k s e v cl cd) (fun x M2 => x = bI (decide (k = 3 ∧ v = c)) ∧ M2 = cS M pa lf k s e v cl cd) := by
  refine cw_entry 0 pf_Pa_isSign rfl ?_
  have t0 := hX.1.1
  refine wp_aload_n rfl (ck_get kk_Pa_isSign 0 rfl) ?_
  refine wp_getIv (v := nI k) (ck_get kk_Pa_isSign 1 rfl) fl_Pa_38 (by assumption) (by rw [cS_pa]; rfl) ?_
  refine wp_iconst (v := nI 3) (by decide) (ck_get kk_Pa_isSign 2 rfl) ?_
  first | refine wp_icmp_neN (t := 20) (ck_get kk_Pa_isSign 3 rfl) (by decide) (by omega) (by omega) (fun hc5 => ?_) (fun hc5 => ?_) | refine wp_icmp_ne (t := 20) (ck_get kk_Pa_isSign 3 rfl) (by decide) (fun hc5 => ?_) (fun hc5 => ?_)
  · refine wp_iconst (v := nI 0) (by decide) (ck_get kk_Pa_isSign 10 rfl) ?_
    refine wp_ireturn (ck_get kk_Pa_isSign 11 rfl) rfl rfl ⟨_, rfl, ?_⟩
    exact ⟨by rw [decide_eq_false (by omega)]; rfl, rfl⟩
  · refine wp_aload_n rfl (ck_get kk_Pa_isSign 4 rfl) ?_
    refine wp_getIv (v := nI v) (ck_get kk_Pa_isSign 5 rfl) fl_Pa_47 (by assumption) (by rw [cS_pa]; rfl) ?_
    refine wp_iload_n rfl (ck_get kk_Pa_isSign 6 rfl) ?_
    first | refine wp_icmp_neN (t := 20) (ck_get kk_Pa_isSign 7 rfl) (by decide) (by omega) (by omega) (fun hc13 => ?_) (fun hc13 => ?_) | refine wp_icmp_ne (t := 20) (ck_get kk_Pa_isSign 7 rfl) (by decide) (fun hc13 => ?_) (fun hc13 => ?_)
    · refine wp_iconst (v := nI 0) (by decide) (ck_get kk_Pa_isSign 10 rfl) ?_
      refine wp_ireturn (ck_get kk_Pa_isSign 11 rfl) rfl rfl ⟨_, rfl, ?_⟩
      exact ⟨by rw [decide_eq_false (by omega)]; rfl, rfl⟩
    · refine wp_iconst (v := nI 1) (by decide) (ck_get kk_Pa_isSign 8 rfl) ?_
      refine wp_goto (t := 21) (ck_get kk_Pa_isSign 9 rfl) (by decide) ?_
      refine wp_ireturn (ck_get kk_Pa_isSign 11 rfl) rfl rfl ⟨_, rfl, ?_⟩
      exact ⟨by rw [decide_eq_true (by omega)]; rfl, rfl⟩
/-- the memory when a text was refused: where -/
abbrev cFl (M : Mem) (pa : Nat) (F G cd : Nat → Int32) : Mem := mk2 M (up1 (up1 (up1 (mI M) pa F) (pa + 1) G) (pa + 8) cd) (mJ M)
theorem c_fail (hX : TxOK M pa tp L bt) {k s e v lf cl : Nat} {cd : Nat → Int32} : Ci g Y_Pa_fail 0 [.ref pa] (cS M pa lf k s e v cl cd) (fun x M2 => x = nI 0 ∧ ∃ F G cd2, F 1 = nI s ∧ M2 = cFl M pa F G cd2) := by
  refine cw_entry 0 pf_Pa_fail rfl ?_
  have t0 := hX.1.1
  refine wp_aload_n rfl (ck_get kk_Pa_fail 0 rfl) ?_
  refine wp_aload_n rfl (ck_get kk_Pa_fail 1 rfl) ?_
  refine wp_getIv (v := nI s) (ck_get kk_Pa_fail 2 rfl) fl_Pa_41 (by assumption) (by rw [cS_pa]; rfl) ?_
  refine wp_putI (ck_get kk_Pa_fail 3 rfl) fl_Pa_20 (by decide +kernel) (by assumption) (okI_int _) ?_
  refine wp_iconst (v := nI 0) (by decide) (ck_get kk_Pa_fail 4 rfl) ?_
  refine wp_ireturn (ck_get kk_Pa_fail 5 rfl) rfl rfl ⟨_, rfl, ?_⟩
  exact ⟨rfl, _, _, _, up1_eq, cS_wp rfl⟩
theorem c_emit (hX : TxOK M pa tp L bt) {k s e v lf cl : Nat} {cd : Nat → Int32} {op x : Int32} (hcl : cl + 2 ≤ 1024) : Cv g Y_Pr_emit 0 [.ref (pa + 1), .int op, .int x] (cS M pa lf k s e v cl cd) (fun M2 => M2 = cS M pa lf k s e v (cl + 2) (up1 (up1 cd cl op) (cl + 1) x)) := by
  refine cw_entry 0 pf_Pr_emit rfl ?_
  obtain ⟨⟨t0, r0, ⟨p0, p1, p2, p3⟩, r2, t2, htp⟩, h3, hL, hbt, hb2⟩ := hX
  have p17 := p1 7 (by omega) (by omega)
  refine wp_aload_n rfl (ck_get kk_Pr_emit 0 rfl) ?_
  refine wp_getIv (v := nI cl) (ck_get kk_Pr_emit 1 rfl) fl_Pr_34 (by assumption) (cS_8) ?_
  refine wp_iconst (v := nI 2) (by decide) (ck_get kk_Pr_emit 2 rfl) ?_
  first | refine wp_iaddN (ck_get kk_Pr_emit 3 rfl) ?_ | refine wp_iadd (ck_get kk_Pr_emit 3 rfl) ?_
  refine wp_aload_n rfl (ck_get kk_Pr_emit 4 rfl) ?_
  refine wp_getR (ck_get kk_Pr_emit 5 rfl) fl_Pr_43 (by assumption) (by assumption) ?_
  refine wp_alen (ck_get kk_Pr_emit 6 rfl) (by assumption) ?_
  first | refine wp_icmp_gtN (t := 46) (ck_get kk_Pr_emit 7 rfl) (by decide) (by omega) (by omega) (fun hc11 => ?_) (fun hc11 => ?_) | refine wp_icmp_gt (t := 46) (ck_get kk_Pr_emit 7 rfl) (by decide) (fun hc11 => ?_) (fun hc11 => ?_)
  · omega
  · refine wp_aload_n rfl (ck_get kk_Pr_emit 8 rfl) ?_
    refine wp_getR (ck_get kk_Pr_emit 9 rfl) fl_Pr_43 (by assumption) (by assumption) ?_
    refine wp_aload_n rfl (ck_get kk_Pr_emit 10 rfl) ?_
    refine wp_getIv (v := nI cl) (ck_get kk_Pr_emit 11 rfl) fl_Pr_34 (by assumption) (cS_8) ?_
    refine wp_iload_n rfl (ck_get kk_Pr_emit 12 rfl) ?_
    refine wp_iast (ck_get kk_Pr_emit 13 rfl) (by assumption) (ixk_nI (k := cl) (by omega) (by omega)) ?_
    rw [cS_wc]
    refine wp_aload_n rfl (ck_get kk_Pr_emit 14 rfl) ?_
    refine wp_getR (ck_get kk_Pr_emit 15 rfl) fl_Pr_43 (by assumption) (by assumption) ?_
    refine wp_aload_n rfl (ck_get kk_Pr_emit 16 rfl) ?_
    refine wp_getIv (v := nI cl) (ck_get kk_Pr_emit 17 rfl) fl_Pr_34 (by assumption) (cS_8) ?_
    refine wp_iconst (v := nI 1) (by decide) (ck_get kk_Pr_emit 18 rfl) ?_
    first | refine wp_iaddN (ck_get kk_Pr_emit 19 rfl) ?_ | refine wp_iadd (ck_get kk_Pr_emit 19 rfl) ?_
    refine wp_iload_n rfl (ck_get kk_Pr_emit 20 rfl) ?_
    refine wp_iast (ck_get kk_Pr_emit 21 rfl) (by assumption) (ixk_nI (k := cl + 1) (by omega) (by omega)) ?_
    rw [cS_wc]
    refine wp_aload_n rfl (ck_get kk_Pr_emit 22 rfl) ?_
    refine wp_dup rfl (ck_get kk_Pr_emit 23 rfl) ?_
    refine wp_getIv (v := nI cl) (ck_get kk_Pr_emit 24 rfl) fl_Pr_34 (by assumption) (cS_8) ?_
    refine wp_iconst (v := nI 2) (by decide) (ck_get kk_Pr_emit 25 rfl) ?_
    first | refine wp_iaddN (ck_get kk_Pr_emit 26 rfl) ?_ | refine wp_iadd (ck_get kk_Pr_emit 26 rfl) ?_
    refine wp_putI (ck_get kk_Pr_emit 27 rfl) fl_Pr_34 (by decide +kernel) (by assumption) (okI_int _) ?_
    rw [cS_wl]
    refine wp_return (ck_get kk_Pr_emit 28 rfl) rfl ⟨rfl, ?_⟩
    rfl
theorem c_land (hX : TxOK M pa tp L bt) {k s e v lf cl q : Nat} {cd : Nat → Int32} (hq : 2 ≤ q) (hq2 : q ≤ cl) (hcl : cl ≤ 1024) : Cv g Y_Pr_land 0 [.ref (pa + 1), .int (nI q)] (cS M pa lf k s e v cl cd) (fun M2 => M2 = cS M pa lf k s e v cl (up1 cd (q - 1) (nI cl))) := by
  refine cw_entry 0 pf_Pr_land rfl ?_
  obtain ⟨⟨t0, r0, ⟨p0, p1, p2, p3⟩, r2, t2, htp⟩, h3, hL, hbt, hb2⟩ := hX
  have p17 := p1 7 (by omega) (by omega)
  refine wp_iload_n rfl (ck_get kk_Pr_land 0 rfl) ?_
  refine wp_iconst (v := nI 2) (by decide) (ck_get kk_Pr_land 1 rfl) ?_
  first | refine wp_icmp_ltN (t := 25) (ck_get kk_Pr_land 2 rfl) (by decide) (by omega) (by omega) (fun hc2 => ?_) (fun hc2 => ?_) | refine wp_icmp_lt (t := 25) (ck_get kk_Pr_land 2 rfl) (by decide) (fun hc2 => ?_) (fun hc2 => ?_)
  · omega
  · refine wp_iload_n rfl (ck_get kk_Pr_land 3 rfl) ?_
    refine wp_aload_n rfl (ck_get kk_Pr_land 4 rfl) ?_
    refine wp_getIv (v := nI cl) (ck_get kk_Pr_land 5 rfl) fl_Pr_34 (by assumption) (cS_8) ?_
    first | refine wp_icmp_gtN (t := 25) (ck_get kk_Pr_land 6 rfl) (by decide) (by omega) (by omega) (fun hc10 => ?_) (fun hc10 => ?_) | refine wp_icmp_gt (t := 25) (ck_get kk_Pr_land 6 rfl) (by decide) (fun hc10 => ?_) (fun hc10 => ?_)
    · omega
    · refine wp_aload_n rfl (ck_get kk_Pr_land 7 rfl) ?_
      refine wp_getR (ck_get kk_Pr_land 8 rfl) fl_Pr_43 (by assumption) (by assumption) ?_
      refine wp_iload_n rfl (ck_get kk_Pr_land 9 rfl) ?_
      refine wp_iconst (v := nI 1) (by decide) (ck_get kk_Pr_land 10 rfl) ?_
      refine wp_isubN (ck_get kk_Pr_land 11 rfl) (by omega) ?_
      refine wp_aload_n rfl (ck_get kk_Pr_land 12 rfl) ?_
      refine wp_getIv (v := nI cl) (ck_get kk_Pr_land 13 rfl) fl_Pr_34 (by assumption) (cS_8) ?_
      refine wp_iast (ck_get kk_Pr_land 14 rfl) (by assumption) (ixk_nI (k := q - 1) (by omega) (by omega)) ?_
      rw [cS_wc]
      refine wp_return (ck_get kk_Pr_land 15 rfl) rfl ⟨rfl, ?_⟩
      rfl
end PX

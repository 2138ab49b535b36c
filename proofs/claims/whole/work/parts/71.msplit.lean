/-! ===== the model's tokens ===== -/
theorem rn_all {bt : Nat → Nat} {L k : Nat} : ∀ f p, L - p = f → ∀ q, p ≤ q → q < rn bt L k p → q < L ∧ kdN (bt q) = k
  | 0, p, hf, q, h1, h2 => by
    rw [rn_out (by omega)] at h2
    omega
  | f + 1, p, hf, q, h1, h2 => by
    by_cases hk : kdN (bt p) = k
    · rw [rn_in (by omega) hk] at h2
      by_cases hq : q = p
      · subst hq; exact ⟨by omega, hk⟩
      · exact rn_all f (p + 1) (by omega) q (by omega) h2
    · rw [rn_out (fun h => hk h.2)] at h2
      omega
theorem rn_end {bt : Nat → Nat} {L k : Nat} : ∀ f p, L - p = f → ¬ (rn bt L k p < L ∧ kdN (bt (rn bt L k p)) = k)
  | 0, p, hf => by rw [rn_out (by omega)]; omega
  | f + 1, p, hf => by
    by_cases hk : kdN (bt p) = k
    · rw [rn_in (by omega) hk]
      exact rn_end f (p + 1) (by omega)
    · rw [rn_out (fun h => hk h.2)]
      exact fun h => hk h.2
section MSP
variable {g : Gl} {M : Mem} {o L : Nat} {bt : Nat → Nat}
/-- the memory while a text is split: n tokens, their codes, values, places -/
abbrev spM (M : Mem) (o n : Nat) (C V P : Nat → Int32) : Mem := mk2 M (up1 (up1 (up1 (up1 (mI M) o (up1 (mI M o) 21 (nI n))) (o + 12) C) (o + 13) V) (o + 14) P) (mJ M)
theorem spM_n {n : Nat} {C V P : Nat → Int32} : mI (spM M o n C V P) o 21 = nI n := by
  show up1 (up1 (up1 (up1 (mI M) o (up1 (mI M o) 21 (nI n))) (o + 12) C) (o + 13) V) (o + 14) P o 21 = nI n
  rw [up1_ne (by omega), up1_ne (by omega), up1_ne (by omega), up1_eq, up1_eq]
theorem spM_f {n k : Nat} {C V P : Nat → Int32} (hk : k ≠ 21) : mI (spM M o n C V P) o k = mI M o k := by
  show up1 (up1 (up1 (up1 (mI M) o (up1 (mI M o) 21 (nI n))) (o + 12) C) (o + 13) V) (o + 14) P o k = mI M o k
  rw [up1_ne (by omega), up1_ne (by omega), up1_ne (by omega), up1_eq, up1_ne hk]
theorem spM_C {n : Nat} {C V P : Nat → Int32} : mI (spM M o n C V P) (o + 12) = C := by
  show up1 (up1 (up1 (up1 (mI M) o (up1 (mI M o) 21 (nI n))) (o + 12) C) (o + 13) V) (o + 14) P (o + 12) = C
  rw [up1_ne (by omega), up1_ne (by omega), up1_eq]
theorem spM_V {n : Nat} {C V P : Nat → Int32} : mI (spM M o n C V P) (o + 13) = V := by
  show up1 (up1 (up1 (up1 (mI M) o (up1 (mI M o) 21 (nI n))) (o + 12) C) (o + 13) V) (o + 14) P (o + 13) = V
  rw [up1_ne (by omega), up1_eq]
theorem spM_P {n : Nat} {C V P : Nat → Int32} : mI (spM M o n C V P) (o + 14) = P := by
  show up1 (up1 (up1 (up1 (mI M) o (up1 (mI M o) 21 (nI n))) (o + 12) C) (o + 13) V) (o + 14) P (o + 14) = P
  rw [up1_eq]
theorem spM_o {n x : Nat} {C V P : Nat → Int32} (h : x ≠ o) (h1 : x ≠ o + 12) (h2 : x ≠ o + 13) (h3 : x ≠ o + 14) : mI (spM M o n C V P) x = mI M x := by
  show up1 (up1 (up1 (up1 (mI M) o (up1 (mI M o) 21 (nI n))) (o + 12) C) (o + 13) V) (o + 14) P x = mI M x
  rw [up1_ne h3, up1_ne h2, up1_ne h1, up1_ne h]
theorem spM_wC {n q : Nat} {C V P : Nat → Int32} {v : Int32} : sI (spM M o n C V P) (o + 12) q v = spM M o n (up1 C q v) V P := by
  refine congrArg (fun I => mk2 M I (mJ M)) ?_
  show up2 (up1 (up1 (up1 (up1 (mI M) o (up1 (mI M o) 21 (nI n))) (o + 12) C) (o + 13) V) (o + 14) P) (o + 12) q v = _
  rw [up2_up1, up1_ne (by omega), up1_ne (by omega), up1_eq, up1_comm _ (by omega : o + 14 ≠ o + 12), up1_comm _ (by omega : o + 13 ≠ o + 12), up1_up1]
theorem spM_wV {n q : Nat} {C V P : Nat → Int32} {v : Int32} : sI (spM M o n C V P) (o + 13) q v = spM M o n C (up1 V q v) P := by
  refine congrArg (fun I => mk2 M I (mJ M)) ?_
  show up2 (up1 (up1 (up1 (up1 (mI M) o (up1 (mI M o) 21 (nI n))) (o + 12) C) (o + 13) V) (o + 14) P) (o + 13) q v = _
  rw [up2_up1, up1_ne (by omega), up1_eq, up1_comm _ (by omega : o + 14 ≠ o + 13), up1_up1]
theorem spM_wP {n q : Nat} {C V P : Nat → Int32} {v : Int32} : sI (spM M o n C V P) (o + 14) q v = spM M o n C V (up1 P q v) := by
  refine congrArg (fun I => mk2 M I (mJ M)) ?_
  show up2 (up1 (up1 (up1 (up1 (mI M) o (up1 (mI M o) 21 (nI n))) (o + 12) C) (o + 13) V) (o + 14) P) (o + 14) q v = _
  rw [up2_up1, up1_eq, up1_up1]
theorem spM_wn {n q : Nat} {C V P : Nat → Int32} : sI (spM M o n C V P) o 21 (nI q) = spM M o q C V P := by
  refine congrArg (fun I => mk2 M I (mJ M)) ?_
  show up2 (up1 (up1 (up1 (up1 (mI M) o (up1 (mI M o) 21 (nI n))) (o + 12) C) (o + 13) V) (o + 14) P) o 21 (nI q) = _
  rw [up2_up1, up1_ne (by omega), up1_ne (by omega), up1_ne (by omega), up1_eq, up1_comm _ (by omega : o + 14 ≠ o), up1_comm _ (by omega : o + 13 ≠ o), up1_comm _ (by omega : o + 12 ≠ o), up1_up1, up1_up1]
theorem spM_Mt {n : Nat} {C V P : Nat → Int32} (h : MtOK M o bt) : MtOK (spM M o n C V P) o bt := by
  refine ⟨fun j hj => ?_, h.2.1, fun j hj => ?_⟩
  · rw [spM_o (by omega) (by omega) (by omega) (by omega)]; exact h.1 j hj
  · rw [spM_o (by omega) (by omega) (by omega) (by omega)]; exact h.2.2 j hj
/-- letters to their end -/
theorem l_run1 {n s : Nat} {C V P : Nat → Int32} {y3 : Int32} {x5 : Option Value} (hM : MoAt (mT M) (mR M) o) (hX : MtOK M o bt) (hL : L ≤ 400) {Q : Option Value → Mem → Prop} (p0 : Nat) (K : Wp g Y_Mo_splits 1 68 [some (.ref o), some (.int (nI L)), some (.int (nI s)), some (.int y3), some (.int (nI (rn bt L 1 p0))), x5] [] (spM M o n C V P) Q) : ∀ f p, L - p = f → p ≤ L → rn bt L 1 p = rn bt L 1 p0 → Wp g Y_Mo_splits 1 43 [some (.ref o), some (.int (nI L)), some (.int (nI s)), some (.int y3), some (.int (nI p)), x5] [] (spM M o n C V P) Q := by
  have to0 := hM.1
  have rftape := MoAt.r hM 9 rfl
  have tftape := MoAt.t hM 9 rfl
  intro f
  induction f with
  | zero =>
    intro p hf hp hr
    rw [rn_out (by omega)] at hr
    rw [← hr] at K
    refine wp_iload rfl (ck_get kk_Mo_splits 25 rfl) ?_
    refine wp_iload_n rfl (ck_get kk_Mo_splits 26 rfl) ?_
    first | refine wp_icmp_geN (t := 68) (ck_get kk_Mo_splits 27 rfl) (by decide) (by omega) (by omega) (fun hc46 => ?_) (fun hc46 => ?_) | refine wp_icmp_ge (t := 68) (ck_get kk_Mo_splits 27 rfl) (by decide) (fun hc46 => ?_) (fun hc46 => ?_)
    · exact K
    · omega
  | succ f ih =>
    intro p hf hp hr
    have hu := hX.1 p (by omega)
    have hb := hX.2.1 p
    by_cases hk : kdN (bt p) = 1
    · rw [rn_in (by omega) hk] at hr
      refine wp_iload rfl (ck_get kk_Mo_splits 25 rfl) ?_
      refine wp_iload_n rfl (ck_get kk_Mo_splits 26 rfl) ?_
      first | refine wp_icmp_geN (t := 68) (ck_get kk_Mo_splits 27 rfl) (by decide) (by omega) (by omega) (fun hc46 => ?_) (fun hc46 => ?_) | refine wp_icmp_ge (t := 68) (ck_get kk_Mo_splits 27 rfl) (by decide) (fun hc46 => ?_) (fun hc46 => ?_)
      · omega
      · refine wp_aload_n rfl (ck_get kk_Mo_splits 28 rfl) ?_
        refine wp_getR (ck_get kk_Mo_splits 29 rfl) fl_Mo_55 (by assumption) (by assumption) ?_
        refine wp_iload rfl (ck_get kk_Mo_splits 30 rfl) ?_
        first | refine wp_bald (ck_get kk_Mo_splits 31 rfl) (by assumption) (ixk_nI (k := p) (by omega) (by omega)) ?_ | refine wp_zald (ck_get kk_Mo_splits 31 rfl) (by assumption) (ixk_nI (k := p) (by omega) (by omega)) ?_
        rw [spM_o (by omega) (by omega) (by omega) (by omega), hu]
        refine wp_cS1i (ck_get kk_Mo_splits 32 rfl) ml_Mo_191 (by omega) (Nat.le_of_ble_eq_true rfl) (Ci.to (m_isSmall hb) ?_)
        rintro _ M1 ⟨rfl, eqm1⟩
        obtain rfl := eqm1.symm
        rw [decide_eq_true hk]
        first | refine wp_if_eqN (t := 68) (ck_get kk_Mo_splits 33 rfl) (by decide) (by omega) (fun hc59 => ?_) (fun hc59 => ?_) | refine wp_if_eq (t := 68) (ck_get kk_Mo_splits 33 rfl) (by decide) (fun hc59 => ?_) (fun hc59 => ?_)
        · exact absurd hc59 (by decide)
        · first | refine wp_iincN (ck_get kk_Mo_splits 34 rfl) rfl (by decide) rfl ?_ | refine wp_iinc (ck_get kk_Mo_splits 34 rfl) rfl (by decide) rfl ?_
          refine wp_goto (t := 43) (ck_get kk_Mo_splits 35 rfl) (by decide) ?_
          exact ih (p + 1) (by omega) (by omega) hr
    · rw [rn_out (fun h => hk h.2)] at hr
      rw [← hr] at K
      refine wp_iload rfl (ck_get kk_Mo_splits 25 rfl) ?_
      refine wp_iload_n rfl (ck_get kk_Mo_splits 26 rfl) ?_
      first | refine wp_icmp_geN (t := 68) (ck_get kk_Mo_splits 27 rfl) (by decide) (by omega) (by omega) (fun hc46 => ?_) (fun hc46 => ?_) | refine wp_icmp_ge (t := 68) (ck_get kk_Mo_splits 27 rfl) (by decide) (fun hc46 => ?_) (fun hc46 => ?_)
      · omega
      · refine wp_aload_n rfl (ck_get kk_Mo_splits 28 rfl) ?_
        refine wp_getR (ck_get kk_Mo_splits 29 rfl) fl_Mo_55 (by assumption) (by assumption) ?_
        refine wp_iload rfl (ck_get kk_Mo_splits 30 rfl) ?_
        first | refine wp_bald (ck_get kk_Mo_splits 31 rfl) (by assumption) (ixk_nI (k := p) (by omega) (by omega)) ?_ | refine wp_zald (ck_get kk_Mo_splits 31 rfl) (by assumption) (ixk_nI (k := p) (by omega) (by omega)) ?_
        rw [spM_o (by omega) (by omega) (by omega) (by omega), hu]
        refine wp_cS1i (ck_get kk_Mo_splits 32 rfl) ml_Mo_191 (by omega) (Nat.le_of_ble_eq_true rfl) (Ci.to (m_isSmall hb) ?_)
        rintro _ M1 ⟨rfl, eqm1⟩
        obtain rfl := eqm1.symm
        rw [decide_eq_false hk]
        first | refine wp_if_eqN (t := 68) (ck_get kk_Mo_splits 33 rfl) (by decide) (by omega) (fun hc59 => ?_) (fun hc59 => ?_) | refine wp_if_eq (t := 68) (ck_get kk_Mo_splits 33 rfl) (by decide) (fun hc59 => ?_) (fun hc59 => ?_)
        · exact K
        · exact absurd rfl hc59
theorem l_run2 {n s : Nat} {C V P : Nat → Int32} {y3 : Int32} {x5 : Option Value} (hM : MoAt (mT M) (mR M) o) (hX : MtOK M o bt) (hL : L ≤ 400) {Q : Option Value → Mem → Prop} (p0 : Nat) (K : Wp g Y_Mo_splits 1 100 [some (.ref o), some (.int (nI L)), some (.int (nI s)), some (.int y3), some (.int (nI (rn bt L 2 p0))), x5] [] (spM M o n C V P) Q) : ∀ f p, L - p = f → p ≤ L → rn bt L 2 p = rn bt L 2 p0 → Wp g Y_Mo_splits 1 75 [some (.ref o), some (.int (nI L)), some (.int (nI s)), some (.int y3), some (.int (nI p)), x5] [] (spM M o n C V P) Q := by
  have to0 := hM.1
  have rftape := MoAt.r hM 9 rfl
  have tftape := MoAt.t hM 9 rfl
  intro f
  induction f with
  | zero =>
    intro p hf hp hr
    rw [rn_out (by omega)] at hr
    rw [← hr] at K
    refine wp_iload rfl (ck_get kk_Mo_splits 39 rfl) ?_
    refine wp_iload_n rfl (ck_get kk_Mo_splits 40 rfl) ?_
    first | refine wp_icmp_geN (t := 100) (ck_get kk_Mo_splits 41 rfl) (by decide) (by omega) (by omega) (fun hc78 => ?_) (fun hc78 => ?_) | refine wp_icmp_ge (t := 100) (ck_get kk_Mo_splits 41 rfl) (by decide) (fun hc78 => ?_) (fun hc78 => ?_)
    · exact K
    · omega
  | succ f ih =>
    intro p hf hp hr
    have hu := hX.1 p (by omega)
    have hb := hX.2.1 p
    by_cases hk : kdN (bt p) = 2
    · rw [rn_in (by omega) hk] at hr
      refine wp_iload rfl (ck_get kk_Mo_splits 39 rfl) ?_
      refine wp_iload_n rfl (ck_get kk_Mo_splits 40 rfl) ?_
      first | refine wp_icmp_geN (t := 100) (ck_get kk_Mo_splits 41 rfl) (by decide) (by omega) (by omega) (fun hc78 => ?_) (fun hc78 => ?_) | refine wp_icmp_ge (t := 100) (ck_get kk_Mo_splits 41 rfl) (by decide) (fun hc78 => ?_) (fun hc78 => ?_)
      · omega
      · refine wp_aload_n rfl (ck_get kk_Mo_splits 42 rfl) ?_
        refine wp_getR (ck_get kk_Mo_splits 43 rfl) fl_Mo_55 (by assumption) (by assumption) ?_
        refine wp_iload rfl (ck_get kk_Mo_splits 44 rfl) ?_
        first | refine wp_bald (ck_get kk_Mo_splits 45 rfl) (by assumption) (ixk_nI (k := p) (by omega) (by omega)) ?_ | refine wp_zald (ck_get kk_Mo_splits 45 rfl) (by assumption) (ixk_nI (k := p) (by omega) (by omega)) ?_
        rw [spM_o (by omega) (by omega) (by omega) (by omega), hu]
        refine wp_cS1i (ck_get kk_Mo_splits 46 rfl) ml_Mo_194 (by omega) (Nat.le_of_ble_eq_true rfl) (Ci.to (m_isDigit hb) ?_)
        rintro _ M1 ⟨rfl, eqm1⟩
        obtain rfl := eqm1.symm
        rw [decide_eq_true hk]
        first | refine wp_if_eqN (t := 100) (ck_get kk_Mo_splits 47 rfl) (by decide) (by omega) (fun hc91 => ?_) (fun hc91 => ?_) | refine wp_if_eq (t := 100) (ck_get kk_Mo_splits 47 rfl) (by decide) (fun hc91 => ?_) (fun hc91 => ?_)
        · exact absurd hc91 (by decide)
        · first | refine wp_iincN (ck_get kk_Mo_splits 48 rfl) rfl (by decide) rfl ?_ | refine wp_iinc (ck_get kk_Mo_splits 48 rfl) rfl (by decide) rfl ?_
          refine wp_goto (t := 75) (ck_get kk_Mo_splits 49 rfl) (by decide) ?_
          exact ih (p + 1) (by omega) (by omega) hr
    · rw [rn_out (fun h => hk h.2)] at hr
      rw [← hr] at K
      refine wp_iload rfl (ck_get kk_Mo_splits 39 rfl) ?_
      refine wp_iload_n rfl (ck_get kk_Mo_splits 40 rfl) ?_
      first | refine wp_icmp_geN (t := 100) (ck_get kk_Mo_splits 41 rfl) (by decide) (by omega) (by omega) (fun hc78 => ?_) (fun hc78 => ?_) | refine wp_icmp_ge (t := 100) (ck_get kk_Mo_splits 41 rfl) (by decide) (fun hc78 => ?_) (fun hc78 => ?_)
      · omega
      · refine wp_aload_n rfl (ck_get kk_Mo_splits 42 rfl) ?_
        refine wp_getR (ck_get kk_Mo_splits 43 rfl) fl_Mo_55 (by assumption) (by assumption) ?_
        refine wp_iload rfl (ck_get kk_Mo_splits 44 rfl) ?_
        first | refine wp_bald (ck_get kk_Mo_splits 45 rfl) (by assumption) (ixk_nI (k := p) (by omega) (by omega)) ?_ | refine wp_zald (ck_get kk_Mo_splits 45 rfl) (by assumption) (ixk_nI (k := p) (by omega) (by omega)) ?_
        rw [spM_o (by omega) (by omega) (by omega) (by omega), hu]
        refine wp_cS1i (ck_get kk_Mo_splits 46 rfl) ml_Mo_194 (by omega) (Nat.le_of_ble_eq_true rfl) (Ci.to (m_isDigit hb) ?_)
        rintro _ M1 ⟨rfl, eqm1⟩
        obtain rfl := eqm1.symm
        rw [decide_eq_false hk]
        first | refine wp_if_eqN (t := 100) (ck_get kk_Mo_splits 47 rfl) (by decide) (by omega) (fun hc91 => ?_) (fun hc91 => ?_) | refine wp_if_eq (t := 100) (ck_get kk_Mo_splits 47 rfl) (by decide) (fun hc91 => ?_) (fun hc91 => ?_)
        · exact K
        · exact absurd rfl hc91
/-- a number's value -/
theorem l_val {n s e b : Nat} {C V P : Nat → Int32} (hM : MoAt (mT M) (mR M) o) (hX : MtOK M o bt) (he : e ≤ 400) (hn : n ≤ 400) (hb : b < 256) (hk : kdN b = 2) (hd : ∀ q, s ≤ q → q < e → q < L ∧ kdN (bt q) = 2) (hend : ¬ (e < L ∧ kdN (bt e) = 2)) {Q : Option Value → Mem → Prop} (vF : Nat) (K : ∀ v, v < 20000000 → min v 1001 = vF → Wp g Y_Mo_splits 1 247 [some (.ref o), some (.int (nI L)), some (.int (nI s)), some (.int (sgb b)), some (.int (nI e)), some (.int (nI e))] [] (spM M o n C (up1 V n (nI v)) P) Q) : ∀ f p v, e - p = f → s ≤ p → p ≤ e → v < 20000000 → dv bt L p (min v 1001) = vF → Wp g Y_Mo_splits 1 169 [some (.ref o), some (.int (nI L)), some (.int (nI s)), some (.int (sgb b)), some (.int (nI e)), some (.int (nI p))] [] (spM M o n C (up1 V n (nI v)) P) Q := by
  have hM0 := hM
  have to0 := hM.1
  have rftape := MoAt.r hM 9 rfl
  have tftape := MoAt.t hM 9 rfl
  have rfvalue := MoAt.r hM 12 rfl
  have tfvalue := MoAt.t hM 12 rfl
  intro f
  induction f with
  | zero =>
    intro p v hf hs hp hv hdv
    have hp2 : p = e := by omega
    subst hp2
    rw [dv_out hend] at hdv
    refine wp_iload rfl (ck_get kk_Mo_splits 87 rfl) ?_
    refine wp_iload rfl (ck_get kk_Mo_splits 88 rfl) ?_
    first | refine wp_icmp_geN (t := 247) (ck_get kk_Mo_splits 89 rfl) (by decide) (by omega) (by omega) (fun hc173 => ?_) (fun hc173 => ?_) | refine wp_icmp_ge (t := 247) (ck_get kk_Mo_splits 89 rfl) (by decide) (fun hc173 => ?_) (fun hc173 => ?_)
    · exact K v hv hdv
    · omega
  | succ f ih =>
    intro p v hf hs hp hv hdv
    obtain ⟨h1, h2⟩ := hd p hs (by omega)
    have hu := hX.1 p (by omega)
    have hbp := hX.2.1 p
    have hk2 := kdN_2.mp h2
    have hsg := (sgb_t (bt p) hbp).1 (by omega)
    rw [dv_in h1 h2] at hdv
    have eV : mI (spM M o n C (up1 V n (nI v)) P) (o + 13) n = nI v := by rw [spM_V, up1_eq]
    refine wp_iload rfl (ck_get kk_Mo_splits 87 rfl) ?_
    refine wp_iload rfl (ck_get kk_Mo_splits 88 rfl) ?_
    first | refine wp_icmp_geN (t := 247) (ck_get kk_Mo_splits 89 rfl) (by decide) (by omega) (by omega) (fun hc173 => ?_) (fun hc173 => ?_) | refine wp_icmp_ge (t := 247) (ck_get kk_Mo_splits 89 rfl) (by decide) (fun hc173 => ?_) (fun hc173 => ?_)
    · omega
    · refine wp_iload_n rfl (ck_get kk_Mo_splits 90 rfl) ?_
      refine wp_cS1i (ck_get kk_Mo_splits 91 rfl) ml_Mo_194 (by omega) (Nat.le_of_ble_eq_true rfl) (Ci.to (m_isDigit hb) ?_)
      rintro _ M1 ⟨rfl, eqm1⟩
      obtain rfl := eqm1.symm
      rw [decide_eq_true hk]
      first | refine wp_if_eqN (t := 247) (ck_get kk_Mo_splits 92 rfl) (by decide) (by omega) (fun hc180 => ?_) (fun hc180 => ?_) | refine wp_if_eq (t := 247) (ck_get kk_Mo_splits 92 rfl) (by decide) (fun hc180 => ?_) (fun hc180 => ?_)
      · exact absurd hc180 (by decide)
      · refine wp_aload_n rfl (ck_get kk_Mo_splits 93 rfl) ?_
        refine wp_getR (ck_get kk_Mo_splits 94 rfl) fl_Mo_67 (by assumption) (by assumption) ?_
        refine wp_aload_n rfl (ck_get kk_Mo_splits 95 rfl) ?_
        refine wp_getIv (v := nI n) (ck_get kk_Mo_splits 96 rfl) fl_Mo_188 (by assumption) (spM_n) ?_
        refine wp_aload_n rfl (ck_get kk_Mo_splits 97 rfl) ?_
        refine wp_getR (ck_get kk_Mo_splits 98 rfl) fl_Mo_67 (by assumption) (by assumption) ?_
        refine wp_aload_n rfl (ck_get kk_Mo_splits 99 rfl) ?_
        refine wp_getIv (v := nI n) (ck_get kk_Mo_splits 100 rfl) fl_Mo_188 (by assumption) (spM_n) ?_
        refine wp_ialdv (v := nI v) (ck_get kk_Mo_splits 101 rfl) (by assumption) (ixk_nI (k := n) (by omega) (by omega)) (eV) ?_
        refine wp_ldc kl_Mo_200 (ck_get kk_Mo_splits 102 rfl) ?_
        rw [show (1000000 : Int32) = nI 1000000 by decide]
        first | refine wp_icmp_leN (t := 217) (ck_get kk_Mo_splits 103 rfl) (by decide) (by omega) (by omega) (fun hc202 => ?_) (fun hc202 => ?_) | refine wp_icmp_le (t := 217) (ck_get kk_Mo_splits 103 rfl) (by decide) (fun hc202 => ?_) (fun hc202 => ?_)
        · refine wp_bipush (v := nI 10) (by decide) (ck_get kk_Mo_splits 110 rfl) ?_
          refine wp_aload_n rfl (ck_get kk_Mo_splits 111 rfl) ?_
          refine wp_getR (ck_get kk_Mo_splits 112 rfl) fl_Mo_67 (by assumption) (by assumption) ?_
          refine wp_aload_n rfl (ck_get kk_Mo_splits 113 rfl) ?_
          refine wp_getIv (v := nI n) (ck_get kk_Mo_splits 114 rfl) fl_Mo_188 (by assumption) (spM_n) ?_
          refine wp_ialdv (v := nI v) (ck_get kk_Mo_splits 115 rfl) (by assumption) (ixk_nI (k := n) (by omega) (by omega)) (eV) ?_
          first | refine wp_imulN (ck_get kk_Mo_splits 116 rfl) ?_ | refine wp_imul (ck_get kk_Mo_splits 116 rfl) ?_
          refine wp_aload_n rfl (ck_get kk_Mo_splits 117 rfl) ?_
          refine wp_getR (ck_get kk_Mo_splits 118 rfl) fl_Mo_55 (by assumption) (by assumption) ?_
          refine wp_iload rfl (ck_get kk_Mo_splits 119 rfl) ?_
          first | refine wp_bald (ck_get kk_Mo_splits 120 rfl) (by assumption) (ixk_nI (k := p) (by omega) (by omega)) ?_ | refine wp_zald (ck_get kk_Mo_splits 120 rfl) (by assumption) (ixk_nI (k := p) (by omega) (by omega)) ?_
          rw [spM_o (by omega) (by omega) (by omega) (by omega), hu, hsg]
          first | refine wp_iaddN (ck_get kk_Mo_splits 121 rfl) ?_ | refine wp_iadd (ck_get kk_Mo_splits 121 rfl) ?_
          refine wp_bipush (v := nI 48) (by decide) (ck_get kk_Mo_splits 122 rfl) ?_
          first | refine wp_isubN (ck_get kk_Mo_splits 123 rfl) (by omega) ?_ | refine wp_isub (ck_get kk_Mo_splits 123 rfl) ?_
          refine wp_iast (ck_get kk_Mo_splits 124 rfl) (by assumption) (ixk_nI (k := n) (by omega) (by omega)) ?_
          rw [spM_wV, up1_up1]
          first | refine wp_iincN (ck_get kk_Mo_splits 125 rfl) rfl (by decide) rfl ?_ | refine wp_iinc (ck_get kk_Mo_splits 125 rfl) rfl (by decide) rfl ?_
          refine wp_goto (t := 169) (ck_get kk_Mo_splits 126 rfl) (by decide) ?_
          refine ih (p + 1) (10 * v + bt p - 48) (by omega) (by omega) (by omega) (by omega) ?_
          rw [← hdv]
          congr 1
          omega
        · refine wp_aload_n rfl (ck_get kk_Mo_splits 104 rfl) ?_
          refine wp_getR (ck_get kk_Mo_splits 105 rfl) fl_Mo_67 (by assumption) (by assumption) ?_
          refine wp_aload_n rfl (ck_get kk_Mo_splits 106 rfl) ?_
          refine wp_getIv (v := nI n) (ck_get kk_Mo_splits 107 rfl) fl_Mo_188 (by assumption) (spM_n) ?_
          refine wp_ialdv (v := nI v) (ck_get kk_Mo_splits 108 rfl) (by assumption) (ixk_nI (k := n) (by omega) (by omega)) (eV) ?_
          refine wp_goto (t := 240) (ck_get kk_Mo_splits 109 rfl) (by decide) ?_
          refine wp_iast (ck_get kk_Mo_splits 124 rfl) (by assumption) (ixk_nI (k := n) (by omega) (by omega)) ?_
          rw [spM_wV, up1_up1]
          first | refine wp_iincN (ck_get kk_Mo_splits 125 rfl) rfl (by decide) rfl ?_ | refine wp_iinc (ck_get kk_Mo_splits 125 rfl) rfl (by decide) rfl ?_
          refine wp_goto (t := 169) (ck_get kk_Mo_splits 126 rfl) (by decide) ?_
          refine ih (p + 1) v (by omega) (by omega) (by omega) hv ?_
          rw [← hdv]
          congr 1
          omega
/-- what the tokens hold -/
def LxT (bt : Nat → Nat) (L : Nat) (C V P : Nat → Int32) (i : Nat) : Prop := C i = nI (tC bt L i) ∧ (∃ v, V i = nI v ∧ v < 20000000 ∧ (tC bt L i = 50 → min v 1001 = tV bt L i)) ∧ P i = nI (tS bt L i)
theorem LxT.up {C V P : Nat → Int32} {i n : Nat} {a b c : Int32} (h : LxT bt L C V P i) (hn : i ≠ n) : LxT bt L (up1 C n a) (up1 V n b) (up1 P n c) i := by
  unfold LxT
  rw [up1_ne hn, up1_ne hn, up1_ne hn]
  exact h
abbrev spQ (M : Mem) (o L : Nat) (bt : Nat → Nat) : Option Value → Mem → Prop := fun r M2 => r = none ∧ ∃ N C V P, M2 = spM M o N C V P ∧ N ≤ 400 ∧ (∀ i, i ≤ N → LxT bt L C V P i) ∧ ∀ i, i < N ↔ tS bt L i < L
theorem tS_mono {i : Nat} (h : L ≤ tS bt L i) : ∀ k, tS bt L (i + k) = L
  | 0 => by have := tS_le (bt := bt) (L := L) i; show tS bt L i = L; omega
  | k + 1 => by
    have h1 := tS_mono h k
    show sk bt L (eOf bt L (tS bt L (i + k))) = L
    rw [h1]
    have h2 : eOf bt L L = L := by unfold eOf; rw [if_neg (by omega)]
    rw [h2, sk_out (by omega)]
theorem l_spEnd {n : Nat} {C V P : Nat → Int32} {x2 x3 x4 x5 : Option Value} (hM : MoAt (mT M) (mR M) o) (hn : n ≤ 400) (hT : ∀ i, i < n → LxT bt L C V P i ∧ tS bt L i < L) (he : tS bt L n = L) : Wp g Y_Mo_splits 1 263 [some (.ref o), some (.int (nI L)), x2, x3, x4, x5] [] (spM M o n C V P) (spQ M o L bt) := by
  have to0 := hM.1
  have rfplaced := MoAt.r hM 13 rfl
  have tfplaced := MoAt.t hM 13 rfl
  have rfcode := MoAt.r hM 11 rfl
  have tfcode := MoAt.t hM 11 rfl
  have rfvalue := MoAt.r hM 12 rfl
  have tfvalue := MoAt.t hM 12 rfl
  refine wp_aload_n rfl (ck_get kk_Mo_splits 136 rfl) ?_
  refine wp_getR (ck_get kk_Mo_splits 137 rfl) fl_Mo_70 (by assumption) (by assumption) ?_
  refine wp_aload_n rfl (ck_get kk_Mo_splits 138 rfl) ?_
  refine wp_getIv (v := nI n) (ck_get kk_Mo_splits 139 rfl) fl_Mo_188 (by assumption) (spM_n) ?_
  refine wp_iload_n rfl (ck_get kk_Mo_splits 140 rfl) ?_
  refine wp_iast (ck_get kk_Mo_splits 141 rfl) (by assumption) (ixk_nI (k := n) (by omega) (by omega)) ?_
  rw [spM_wP]
  refine wp_aload_n rfl (ck_get kk_Mo_splits 142 rfl) ?_
  refine wp_getR (ck_get kk_Mo_splits 143 rfl) fl_Mo_64 (by assumption) (by assumption) ?_
  refine wp_aload_n rfl (ck_get kk_Mo_splits 144 rfl) ?_
  refine wp_getIv (v := nI n) (ck_get kk_Mo_splits 145 rfl) fl_Mo_188 (by assumption) (spM_n) ?_
  refine wp_iconst (v := nI 0) (by decide) (ck_get kk_Mo_splits 146 rfl) ?_
  refine wp_iast (ck_get kk_Mo_splits 147 rfl) (by assumption) (ixk_nI (k := n) (by omega) (by omega)) ?_
  rw [spM_wC]
  refine wp_aload_n rfl (ck_get kk_Mo_splits 148 rfl) ?_
  refine wp_getR (ck_get kk_Mo_splits 149 rfl) fl_Mo_67 (by assumption) (by assumption) ?_
  refine wp_aload_n rfl (ck_get kk_Mo_splits 150 rfl) ?_
  refine wp_getIv (v := nI n) (ck_get kk_Mo_splits 151 rfl) fl_Mo_188 (by assumption) (spM_n) ?_
  refine wp_iconst (v := nI 0) (by decide) (ck_get kk_Mo_splits 152 rfl) ?_
  refine wp_iast (ck_get kk_Mo_splits 153 rfl) (by assumption) (ixk_nI (k := n) (by omega) (by omega)) ?_
  rw [spM_wV]
  refine wp_return (ck_get kk_Mo_splits 154 rfl) rfl ⟨rfl, ?_⟩
  refine ⟨n, _, _, _, rfl, hn, fun i hi => ?_, fun i => ?_⟩
  · by_cases h : i = n
    · subst h
      have h0 : tC bt L i = 0 := by unfold tC tcS; rw [if_neg (by omega)]
      refine ⟨by rw [up1_eq, h0], ⟨0, by rw [up1_eq], by omega, fun q => by omega⟩, by rw [up1_eq, he]⟩
    · exact (hT i (by omega)).1.up h
  · constructor
    · intro h; exact (hT i h).2
    · intro h
      by_cases h2 : i < n
      · exact h2
      · have := tS_mono (bt := bt) (L := L) (i := n) (by omega) (i - n)
        rw [show n + (i - n) = i by omega] at this
        omega
/-- a token begins at s -/
theorem l_spTok {n s : Nat} {C V P : Nat → Int32} {x4 x5 : Option Value} (hM : MoAt (mT M) (mR M) o) (hX : MtOK M o bt) (hL : L ≤ 400) (hs : s < L) (hn : n ≤ 400) (hts : tS bt L n = s) {Q : Option Value → Mem → Prop}
    (ih : ∀ (a b c : Int32) (x3 x4 x5 : Option Value), LxT bt L (up1 C n a) (up1 V n b) (up1 P n c) n → Wp g Y_Mo_splits 1 7 [some (.ref o), some (.int (nI L)), some (.int (nI (eOf bt L s))), x3, x4, x5] [] (spM M o (n + 1) (up1 C n a) (up1 V n b) (up1 P n c)) Q) :
    Wp g Y_Mo_splits 1 31 [some (.ref o), some (.int (nI L)), some (.int (nI s)), some (.int (sgb (bt s))), x4, x5] [] (spM M o n C V P) Q := by
  have hM0 := hM
  have hb := hX.2.1 s
  have htc : tC bt L n = if kdN (bt s) = 1 then wnum bt s (eOf bt L s) else if kdN (bt s) = 2 then 50 else 100 + bt s := by unfold tC tcS; rw [hts, if_pos hs]
  have htv : tV bt L n = vOf bt L s := by unfold tV; rw [hts]
  have hel := eOf_le (bt := bt) (L := L) (s := s) (by omega)
  have to0 := hM.1
  have rfplaced := MoAt.r hM 13 rfl
  have tfplaced := MoAt.t hM 13 rfl
  have rfcode := MoAt.r hM 11 rfl
  have tfcode := MoAt.t hM 11 rfl
  have rfvalue := MoAt.r hM 12 rfl
  have tfvalue := MoAt.t hM 12 rfl
  -- behind the token's code
  have fin : ∀ (a b c : Int32) (x3 x5 : Option Value), LxT bt L (up1 C n a) (up1 V n b) (up1 P n c) n → Wp g Y_Mo_splits 1 247 [some (.ref o), some (.int (nI L)), some (.int (nI s)), x3, some (.int (nI (eOf bt L s))), x5] [] (spM M o n (up1 C n a) (up1 V n b) (up1 P n c)) Q := by
    intro a b c x3 x5 hT
    refine wp_aload_n rfl (ck_get kk_Mo_splits 127 rfl) ?_
    refine wp_dup rfl (ck_get kk_Mo_splits 128 rfl) ?_
    refine wp_getIv (v := nI n) (ck_get kk_Mo_splits 129 rfl) fl_Mo_188 (by assumption) (spM_n) ?_
    refine wp_iconst (v := nI 1) (by decide) (ck_get kk_Mo_splits 130 rfl) ?_
    first | refine wp_iaddN (ck_get kk_Mo_splits 131 rfl) ?_ | refine wp_iadd (ck_get kk_Mo_splits 131 rfl) ?_
    refine wp_putI (ck_get kk_Mo_splits 132 rfl) fl_Mo_188 (by decide +kernel) (by assumption) (okI_int _) ?_
    rw [spM_wn]
    refine wp_iload rfl (ck_get kk_Mo_splits 133 rfl) ?_
    refine wp_istore_n (ck_get kk_Mo_splits 134 rfl) (by decide) rfl ?_
    refine wp_goto (t := 7) (ck_get kk_Mo_splits 135 rfl) (by decide) ?_
    exact ih a b c _ _ _ hT
  by_cases h1 : kdN (bt s) = 1
  · have hee : eOf bt L s = rn bt L 1 (s + 1) := by unfold eOf; rw [if_pos hs, h1, if_neg (by omega), rn_in hs h1]
    have hr := l_run1 (g := g) (n := n) (s := s) (C := C) (V := V) (P := P) (y3 := sgb (bt s)) (x5 := x5) hM0 hX hL (Q := Q) (s + 1) ?_ (L - (s + 1)) (s + 1) rfl (by omega) rfl
    · skip
      refine wp_iload_n rfl (ck_get kk_Mo_splits 18 rfl) ?_
      refine wp_iconst (v := nI 1) (by decide) (ck_get kk_Mo_splits 19 rfl) ?_
      first | refine wp_iaddN (ck_get kk_Mo_splits 20 rfl) ?_ | refine wp_iadd (ck_get kk_Mo_splits 20 rfl) ?_
      refine wp_istore (ck_get kk_Mo_splits 21 rfl) (by decide) rfl ?_
      refine wp_iload_n rfl (ck_get kk_Mo_splits 22 rfl) ?_
      refine wp_cS1i (ck_get kk_Mo_splits 23 rfl) ml_Mo_191 (by omega) (Nat.le_of_ble_eq_true rfl) (Ci.to (m_isSmall hb) ?_)
      rintro _ M1 ⟨rfl, eqm1⟩
      obtain rfl := eqm1.symm
      rw [decide_eq_true h1]
      first | refine wp_if_eqN (t := 68) (ck_get kk_Mo_splits 24 rfl) (by decide) (by omega) (fun hc40 => ?_) (fun hc40 => ?_) | refine wp_if_eq (t := 68) (ck_get kk_Mo_splits 24 rfl) (by decide) (fun hc40 => ?_) (fun hc40 => ?_)
      · exact absurd hc40 (by decide)
      · exact hr
    · rw [← hee]
      refine wp_iload_n rfl (ck_get kk_Mo_splits 36 rfl) ?_
      refine wp_cS1i (ck_get kk_Mo_splits 37 rfl) ml_Mo_194 (by omega) (Nat.le_of_ble_eq_true rfl) (Ci.to (m_isDigit hb) ?_)
      rintro _ M1 ⟨rfl, eqm1⟩
      obtain rfl := eqm1.symm
      rw [decide_eq_false (by omega)]
      first | refine wp_if_eqN (t := 100) (ck_get kk_Mo_splits 38 rfl) (by decide) (by omega) (fun hc72 => ?_) (fun hc72 => ?_) | refine wp_if_eq (t := 100) (ck_get kk_Mo_splits 38 rfl) (by decide) (fun hc72 => ?_) (fun hc72 => ?_)
      · refine wp_aload_n rfl (ck_get kk_Mo_splits 50 rfl) ?_
        refine wp_getR (ck_get kk_Mo_splits 51 rfl) fl_Mo_70 (by assumption) (by assumption) ?_
        refine wp_aload_n rfl (ck_get kk_Mo_splits 52 rfl) ?_
        refine wp_getIv (v := nI n) (ck_get kk_Mo_splits 53 rfl) fl_Mo_188 (by assumption) (spM_n) ?_
        refine wp_iload_n rfl (ck_get kk_Mo_splits 54 rfl) ?_
        refine wp_iast (ck_get kk_Mo_splits 55 rfl) (by assumption) (ixk_nI (k := n) (by omega) (by omega)) ?_
        rw [spM_wP]
        refine wp_aload_n rfl (ck_get kk_Mo_splits 56 rfl) ?_
        refine wp_getR (ck_get kk_Mo_splits 57 rfl) fl_Mo_67 (by assumption) (by assumption) ?_
        refine wp_aload_n rfl (ck_get kk_Mo_splits 58 rfl) ?_
        refine wp_getIv (v := nI n) (ck_get kk_Mo_splits 59 rfl) fl_Mo_188 (by assumption) (spM_n) ?_
        refine wp_iconst (v := nI 0) (by decide) (ck_get kk_Mo_splits 60 rfl) ?_
        refine wp_iast (ck_get kk_Mo_splits 61 rfl) (by assumption) (ixk_nI (k := n) (by omega) (by omega)) ?_
        rw [spM_wV]
        refine wp_aload_n rfl (ck_get kk_Mo_splits 62 rfl) ?_
        refine wp_getR (ck_get kk_Mo_splits 63 rfl) fl_Mo_64 (by assumption) (by assumption) ?_
        refine wp_aload_n rfl (ck_get kk_Mo_splits 64 rfl) ?_
        refine wp_getIv (v := nI n) (ck_get kk_Mo_splits 65 rfl) fl_Mo_188 (by assumption) (spM_n) ?_
        refine wp_iload_n rfl (ck_get kk_Mo_splits 66 rfl) ?_
        refine wp_cS1i (ck_get kk_Mo_splits 67 rfl) ml_Mo_191 (by omega) (Nat.le_of_ble_eq_true rfl) (Ci.to (m_isSmall hb) ?_)
        rintro _ M1 ⟨rfl, eqm1⟩
        obtain rfl := eqm1.symm
        rw [decide_eq_true h1]
        first | refine wp_if_eqN (t := 145) (ck_get kk_Mo_splits 68 rfl) (by decide) (by omega) (fun hc132 => ?_) (fun hc132 => ?_) | refine wp_if_eq (t := 145) (ck_get kk_Mo_splits 68 rfl) (by decide) (fun hc132 => ?_) (fun hc132 => ?_)
        · exact absurd hc132 (by decide)
        · refine wp_aload_n rfl (ck_get kk_Mo_splits 69 rfl) ?_
          refine wp_iload_n rfl (ck_get kk_Mo_splits 70 rfl) ?_
          refine wp_iload rfl (ck_get kk_Mo_splits 71 rfl) ?_
          refine wp_cV2i (ck_get kk_Mo_splits 72 rfl) ml_Mo_197 (by omega) (Nat.le_of_ble_eq_true rfl) (by assumption) (Ci.to (m_wordOf hM0 (spM_Mt hX) (by omega) (by omega)) ?_)
          rintro _ M1 ⟨rfl, eqm1⟩
          obtain rfl := eqm1.symm
          refine wp_goto (t := 165) (ck_get kk_Mo_splits 73 rfl) (by decide) ?_
          refine wp_iast (ck_get kk_Mo_splits 84 rfl) (by assumption) (ixk_nI (k := n) (by omega) (by omega)) ?_
          rw [spM_wC]
          refine wp_iload_n rfl (ck_get kk_Mo_splits 85 rfl) ?_
          refine wp_istore (ck_get kk_Mo_splits 86 rfl) (by decide) rfl ?_
          refine wp_iload rfl (ck_get kk_Mo_splits 87 rfl) ?_
          refine wp_iload rfl (ck_get kk_Mo_splits 88 rfl) ?_
          first | refine wp_icmp_geN (t := 247) (ck_get kk_Mo_splits 89 rfl) (by decide) (by omega) (by omega) (fun hc173 => ?_) (fun hc173 => ?_) | refine wp_icmp_ge (t := 247) (ck_get kk_Mo_splits 89 rfl) (by decide) (fun hc173 => ?_) (fun hc173 => ?_)
          · omega
          · refine wp_iload_n rfl (ck_get kk_Mo_splits 90 rfl) ?_
            refine wp_cS1i (ck_get kk_Mo_splits 91 rfl) ml_Mo_194 (by omega) (Nat.le_of_ble_eq_true rfl) (Ci.to (m_isDigit hb) ?_)
            rintro _ M1 ⟨rfl, eqm1⟩
            obtain rfl := eqm1.symm
            rw [decide_eq_false (by omega)]
            first | refine wp_if_eqN (t := 247) (ck_get kk_Mo_splits 92 rfl) (by decide) (by omega) (fun hc180 => ?_) (fun hc180 => ?_) | refine wp_if_eq (t := 247) (ck_get kk_Mo_splits 92 rfl) (by decide) (fun hc180 => ?_) (fun hc180 => ?_)
            · refine fin _ _ _ _ _ ⟨?_, ⟨0, up1_eq, by omega, fun q => ?_⟩, ?_⟩
              · rw [up1_eq, htc, if_pos h1]
              · have := wnum_le bt s (eOf bt L s)
                rw [htc, if_pos h1] at q
                omega
              · rw [up1_eq, hts]
            · exact absurd rfl hc180
      · exact absurd rfl hc72
  by_cases h2 : kdN (bt s) = 2
  · have hee : eOf bt L s = rn bt L 2 (s + 1) := by unfold eOf; rw [if_pos hs, h2, if_neg (by omega), rn_in hs h2]
    have hee2 : eOf bt L s = rn bt L 2 s := by unfold eOf; rw [if_pos hs, h2, if_neg (by omega)]
    have hr := l_run2 (g := g) (n := n) (s := s) (C := C) (V := V) (P := P) (y3 := sgb (bt s)) (x5 := x5) hM0 hX hL (Q := Q) (s + 1) ?_ (L - (s + 1)) (s + 1) rfl (by omega) rfl
    · skip
      refine wp_iload_n rfl (ck_get kk_Mo_splits 18 rfl) ?_
      refine wp_iconst (v := nI 1) (by decide) (ck_get kk_Mo_splits 19 rfl) ?_
      first | refine wp_iaddN (ck_get kk_Mo_splits 20 rfl) ?_ | refine wp_iadd (ck_get kk_Mo_splits 20 rfl) ?_
      refine wp_istore (ck_get kk_Mo_splits 21 rfl) (by decide) rfl ?_
      refine wp_iload_n rfl (ck_get kk_Mo_splits 22 rfl) ?_
      refine wp_cS1i (ck_get kk_Mo_splits 23 rfl) ml_Mo_191 (by omega) (Nat.le_of_ble_eq_true rfl) (Ci.to (m_isSmall hb) ?_)
      rintro _ M1 ⟨rfl, eqm1⟩
      obtain rfl := eqm1.symm
      rw [decide_eq_false h1]
      first | refine wp_if_eqN (t := 68) (ck_get kk_Mo_splits 24 rfl) (by decide) (by omega) (fun hc40 => ?_) (fun hc40 => ?_) | refine wp_if_eq (t := 68) (ck_get kk_Mo_splits 24 rfl) (by decide) (fun hc40 => ?_) (fun hc40 => ?_)
      · refine wp_iload_n rfl (ck_get kk_Mo_splits 36 rfl) ?_
        refine wp_cS1i (ck_get kk_Mo_splits 37 rfl) ml_Mo_194 (by omega) (Nat.le_of_ble_eq_true rfl) (Ci.to (m_isDigit hb) ?_)
        rintro _ M1 ⟨rfl, eqm1⟩
        obtain rfl := eqm1.symm
        rw [decide_eq_true h2]
        first | refine wp_if_eqN (t := 100) (ck_get kk_Mo_splits 38 rfl) (by decide) (by omega) (fun hc72 => ?_) (fun hc72 => ?_) | refine wp_if_eq (t := 100) (ck_get kk_Mo_splits 38 rfl) (by decide) (fun hc72 => ?_) (fun hc72 => ?_)
        · exact absurd hc72 (by decide)
        · exact hr
      · exact absurd rfl hc40
    · rw [← hee]
      have hd : ∀ q, s ≤ q → q < eOf bt L s → q < L ∧ kdN (bt q) = 2 := by rw [hee2]; exact rn_all (L - s) s rfl
      have hend : ¬ (eOf bt L s < L ∧ kdN (bt (eOf bt L s)) = 2) := by rw [hee2]; exact rn_end (L - s) s rfl
      have hvo : vOf bt L s = dv bt L s 0 := by unfold vOf; rw [if_pos hs, if_neg (by omega), if_pos h2]
      have hv := l_val (g := g) (n := n) (s := s) (e := eOf bt L s) (b := bt s) (C := up1 C n (nI 50)) (V := V) (P := up1 P n (nI s)) hM0 hX (by omega) hn hb h2 hd hend (Q := Q) (tV bt L n) ?_ (eOf bt L s - s) s 0 rfl (by omega) (by omega) (by omega) (by rw [htv, hvo]; rfl)
      · skip
        refine wp_aload_n rfl (ck_get kk_Mo_splits 50 rfl) ?_
        refine wp_getR (ck_get kk_Mo_splits 51 rfl) fl_Mo_70 (by assumption) (by assumption) ?_
        refine wp_aload_n rfl (ck_get kk_Mo_splits 52 rfl) ?_
        refine wp_getIv (v := nI n) (ck_get kk_Mo_splits 53 rfl) fl_Mo_188 (by assumption) (spM_n) ?_
        refine wp_iload_n rfl (ck_get kk_Mo_splits 54 rfl) ?_
        refine wp_iast (ck_get kk_Mo_splits 55 rfl) (by assumption) (ixk_nI (k := n) (by omega) (by omega)) ?_
        rw [spM_wP]
        refine wp_aload_n rfl (ck_get kk_Mo_splits 56 rfl) ?_
        refine wp_getR (ck_get kk_Mo_splits 57 rfl) fl_Mo_67 (by assumption) (by assumption) ?_
        refine wp_aload_n rfl (ck_get kk_Mo_splits 58 rfl) ?_
        refine wp_getIv (v := nI n) (ck_get kk_Mo_splits 59 rfl) fl_Mo_188 (by assumption) (spM_n) ?_
        refine wp_iconst (v := nI 0) (by decide) (ck_get kk_Mo_splits 60 rfl) ?_
        refine wp_iast (ck_get kk_Mo_splits 61 rfl) (by assumption) (ixk_nI (k := n) (by omega) (by omega)) ?_
        rw [spM_wV]
        refine wp_aload_n rfl (ck_get kk_Mo_splits 62 rfl) ?_
        refine wp_getR (ck_get kk_Mo_splits 63 rfl) fl_Mo_64 (by assumption) (by assumption) ?_
        refine wp_aload_n rfl (ck_get kk_Mo_splits 64 rfl) ?_
        refine wp_getIv (v := nI n) (ck_get kk_Mo_splits 65 rfl) fl_Mo_188 (by assumption) (spM_n) ?_
        refine wp_iload_n rfl (ck_get kk_Mo_splits 66 rfl) ?_
        refine wp_cS1i (ck_get kk_Mo_splits 67 rfl) ml_Mo_191 (by omega) (Nat.le_of_ble_eq_true rfl) (Ci.to (m_isSmall hb) ?_)
        rintro _ M1 ⟨rfl, eqm1⟩
        obtain rfl := eqm1.symm
        rw [decide_eq_false h1]
        first | refine wp_if_eqN (t := 145) (ck_get kk_Mo_splits 68 rfl) (by decide) (by omega) (fun hc132 => ?_) (fun hc132 => ?_) | refine wp_if_eq (t := 145) (ck_get kk_Mo_splits 68 rfl) (by decide) (fun hc132 => ?_) (fun hc132 => ?_)
        · refine wp_iload_n rfl (ck_get kk_Mo_splits 74 rfl) ?_
          refine wp_cS1i (ck_get kk_Mo_splits 75 rfl) ml_Mo_194 (by omega) (Nat.le_of_ble_eq_true rfl) (Ci.to (m_isDigit hb) ?_)
          rintro _ M1 ⟨rfl, eqm1⟩
          obtain rfl := eqm1.symm
          rw [decide_eq_true h2]
          first | refine wp_if_eqN (t := 157) (ck_get kk_Mo_splits 76 rfl) (by decide) (by omega) (fun hc149 => ?_) (fun hc149 => ?_) | refine wp_if_eq (t := 157) (ck_get kk_Mo_splits 76 rfl) (by decide) (fun hc149 => ?_) (fun hc149 => ?_)
          · exact absurd hc149 (by decide)
          · refine wp_bipush (v := nI 50) (by decide) (ck_get kk_Mo_splits 77 rfl) ?_
            refine wp_goto (t := 165) (ck_get kk_Mo_splits 78 rfl) (by decide) ?_
            refine wp_iast (ck_get kk_Mo_splits 84 rfl) (by assumption) (ixk_nI (k := n) (by omega) (by omega)) ?_
            rw [spM_wC]
            refine wp_iload_n rfl (ck_get kk_Mo_splits 85 rfl) ?_
            refine wp_istore (ck_get kk_Mo_splits 86 rfl) (by decide) rfl ?_
            exact hv
        · exact absurd rfl hc132
      · intro v hv1 hv2
        refine fin _ _ _ _ _ ⟨?_, ⟨v, up1_eq, hv1, fun _ => hv2⟩, ?_⟩
        · rw [up1_eq, htc, if_neg h1, if_pos h2]
        · rw [up1_eq, hts]
  · have h3 : kdN (bt s) = 3 := by have := kdN_le (bt s); omega
    have hee : eOf bt L s = s + 1 := by unfold eOf; rw [if_pos hs, if_pos h3]
    refine wp_iload_n rfl (ck_get kk_Mo_splits 18 rfl) ?_
    refine wp_iconst (v := nI 1) (by decide) (ck_get kk_Mo_splits 19 rfl) ?_
    first | refine wp_iaddN (ck_get kk_Mo_splits 20 rfl) ?_ | refine wp_iadd (ck_get kk_Mo_splits 20 rfl) ?_
    refine wp_istore (ck_get kk_Mo_splits 21 rfl) (by decide) rfl ?_
    refine wp_iload_n rfl (ck_get kk_Mo_splits 22 rfl) ?_
    refine wp_cS1i (ck_get kk_Mo_splits 23 rfl) ml_Mo_191 (by omega) (Nat.le_of_ble_eq_true rfl) (Ci.to (m_isSmall hb) ?_)
    rintro _ M1 ⟨rfl, eqm1⟩
    obtain rfl := eqm1.symm
    rw [decide_eq_false h1]
    first | refine wp_if_eqN (t := 68) (ck_get kk_Mo_splits 24 rfl) (by decide) (by omega) (fun hc40 => ?_) (fun hc40 => ?_) | refine wp_if_eq (t := 68) (ck_get kk_Mo_splits 24 rfl) (by decide) (fun hc40 => ?_) (fun hc40 => ?_)
    · refine wp_iload_n rfl (ck_get kk_Mo_splits 36 rfl) ?_
      refine wp_cS1i (ck_get kk_Mo_splits 37 rfl) ml_Mo_194 (by omega) (Nat.le_of_ble_eq_true rfl) (Ci.to (m_isDigit hb) ?_)
      rintro _ M1 ⟨rfl, eqm1⟩
      obtain rfl := eqm1.symm
      rw [decide_eq_false h2]
      first | refine wp_if_eqN (t := 100) (ck_get kk_Mo_splits 38 rfl) (by decide) (by omega) (fun hc72 => ?_) (fun hc72 => ?_) | refine wp_if_eq (t := 100) (ck_get kk_Mo_splits 38 rfl) (by decide) (fun hc72 => ?_) (fun hc72 => ?_)
      · refine wp_aload_n rfl (ck_get kk_Mo_splits 50 rfl) ?_
        refine wp_getR (ck_get kk_Mo_splits 51 rfl) fl_Mo_70 (by assumption) (by assumption) ?_
        refine wp_aload_n rfl (ck_get kk_Mo_splits 52 rfl) ?_
        refine wp_getIv (v := nI n) (ck_get kk_Mo_splits 53 rfl) fl_Mo_188 (by assumption) (spM_n) ?_
        refine wp_iload_n rfl (ck_get kk_Mo_splits 54 rfl) ?_
        refine wp_iast (ck_get kk_Mo_splits 55 rfl) (by assumption) (ixk_nI (k := n) (by omega) (by omega)) ?_
        rw [spM_wP]
        refine wp_aload_n rfl (ck_get kk_Mo_splits 56 rfl) ?_
        refine wp_getR (ck_get kk_Mo_splits 57 rfl) fl_Mo_67 (by assumption) (by assumption) ?_
        refine wp_aload_n rfl (ck_get kk_Mo_splits 58 rfl) ?_
        refine wp_getIv (v := nI n) (ck_get kk_Mo_splits 59 rfl) fl_Mo_188 (by assumption) (spM_n) ?_
        refine wp_iconst (v := nI 0) (by decide) (ck_get kk_Mo_splits 60 rfl) ?_
        refine wp_iast (ck_get kk_Mo_splits 61 rfl) (by assumption) (ixk_nI (k := n) (by omega) (by omega)) ?_
        rw [spM_wV]
        refine wp_aload_n rfl (ck_get kk_Mo_splits 62 rfl) ?_
        refine wp_getR (ck_get kk_Mo_splits 63 rfl) fl_Mo_64 (by assumption) (by assumption) ?_
        refine wp_aload_n rfl (ck_get kk_Mo_splits 64 rfl) ?_
        refine wp_getIv (v := nI n) (ck_get kk_Mo_splits 65 rfl) fl_Mo_188 (by assumption) (spM_n) ?_
        refine wp_iload_n rfl (ck_get kk_Mo_splits 66 rfl) ?_
        refine wp_cS1i (ck_get kk_Mo_splits 67 rfl) ml_Mo_191 (by omega) (Nat.le_of_ble_eq_true rfl) (Ci.to (m_isSmall hb) ?_)
        rintro _ M1 ⟨rfl, eqm1⟩
        obtain rfl := eqm1.symm
        rw [decide_eq_false h1]
        first | refine wp_if_eqN (t := 145) (ck_get kk_Mo_splits 68 rfl) (by decide) (by omega) (fun hc132 => ?_) (fun hc132 => ?_) | refine wp_if_eq (t := 145) (ck_get kk_Mo_splits 68 rfl) (by decide) (fun hc132 => ?_) (fun hc132 => ?_)
        · refine wp_iload_n rfl (ck_get kk_Mo_splits 74 rfl) ?_
          refine wp_cS1i (ck_get kk_Mo_splits 75 rfl) ml_Mo_194 (by omega) (Nat.le_of_ble_eq_true rfl) (Ci.to (m_isDigit hb) ?_)
          rintro _ M1 ⟨rfl, eqm1⟩
          obtain rfl := eqm1.symm
          rw [decide_eq_false h2]
          first | refine wp_if_eqN (t := 157) (ck_get kk_Mo_splits 76 rfl) (by decide) (by omega) (fun hc149 => ?_) (fun hc149 => ?_) | refine wp_if_eq (t := 157) (ck_get kk_Mo_splits 76 rfl) (by decide) (fun hc149 => ?_) (fun hc149 => ?_)
          · refine wp_bipush (v := nI 100) (by decide) (ck_get kk_Mo_splits 79 rfl) ?_
            refine wp_iload_n rfl (ck_get kk_Mo_splits 80 rfl) ?_
            refine wp_sipush (v := nI 255) (by decide) (ck_get kk_Mo_splits 81 rfl) ?_
            refine wp_iand (ck_get kk_Mo_splits 82 rfl) ?_
            rw [(sgb_t (bt s) hb).2.2.1]
            first | refine wp_iaddN (ck_get kk_Mo_splits 83 rfl) ?_ | refine wp_iadd (ck_get kk_Mo_splits 83 rfl) ?_
            refine wp_iast (ck_get kk_Mo_splits 84 rfl) (by assumption) (ixk_nI (k := n) (by omega) (by omega)) ?_
            rw [spM_wC]
            refine wp_iload_n rfl (ck_get kk_Mo_splits 85 rfl) ?_
            refine wp_istore (ck_get kk_Mo_splits 86 rfl) (by decide) rfl ?_
            refine wp_iload rfl (ck_get kk_Mo_splits 87 rfl) ?_
            refine wp_iload rfl (ck_get kk_Mo_splits 88 rfl) ?_
            first | refine wp_icmp_geN (t := 247) (ck_get kk_Mo_splits 89 rfl) (by decide) (by omega) (by omega) (fun hc173 => ?_) (fun hc173 => ?_) | refine wp_icmp_ge (t := 247) (ck_get kk_Mo_splits 89 rfl) (by decide) (fun hc173 => ?_) (fun hc173 => ?_)
            · omega
            · refine wp_iload_n rfl (ck_get kk_Mo_splits 90 rfl) ?_
              refine wp_cS1i (ck_get kk_Mo_splits 91 rfl) ml_Mo_194 (by omega) (Nat.le_of_ble_eq_true rfl) (Ci.to (m_isDigit hb) ?_)
              rintro _ M1 ⟨rfl, eqm1⟩
              obtain rfl := eqm1.symm
              rw [decide_eq_false h2]
              first | refine wp_if_eqN (t := 247) (ck_get kk_Mo_splits 92 rfl) (by decide) (by omega) (fun hc180 => ?_) (fun hc180 => ?_) | refine wp_if_eq (t := 247) (ck_get kk_Mo_splits 92 rfl) (by decide) (fun hc180 => ?_) (fun hc180 => ?_)
              · have fin2 := fin (nI (100 + bt s)) (nI 0) (nI s) (some (.int (sgb (bt s)))) (some (.int (nI s))) ⟨?_, ⟨0, up1_eq, by omega, fun q => ?_⟩, ?_⟩
                · rw [hee] at fin2
                  exact fin2
                · rw [up1_eq, htc, if_neg h1, if_neg h2]
                · rw [htc, if_neg h1, if_neg h2] at q
                  omega
                · rw [up1_eq, hts]
              · exact absurd rfl hc180
          · exact absurd rfl hc149
        · exact absurd rfl hc132
      · exact absurd rfl hc72
    · exact absurd rfl hc40
theorem l_splits (hM : MoAt (mT M) (mR M) o) (hX : MtOK M o bt) (hL : L ≤ 400) : ∀ f p n (C V P : Nat → Int32) (x3 x4 x5 : Option Value), L - p = f → p ≤ L → n ≤ 400 → sk bt L p = tS bt L n → (∀ i, i < n → LxT bt L C V P i ∧ tS bt L i < L) → Wp g Y_Mo_splits 1 7 [some (.ref o), some (.int (nI L)), some (.int (nI p)), x3, x4, x5] [] (spM M o n C V P) (spQ M o L bt) := by
  have hM0 := hM
  have to0 := hM.1
  have rftape := MoAt.r hM 9 rfl
  have tftape := MoAt.t hM 9 rfl
  intro f
  induction f using Nat.strongRecOn with
  | ind f ih =>
    intro p n C V P x3 x4 x5 hf hp hn hsk hT
    by_cases hpL : p < L
    · have hu := hX.1 p (by omega)
      have hb := hX.2.1 p
      have h32 := (sgb_t (bt p) hb).2.2.2.2.2.2.2
      by_cases hbl : bt p = 32
      · rw [sk_in hpL hbl] at hsk
        refine wp_iload_n rfl (ck_get kk_Mo_splits 5 rfl) ?_
        refine wp_iload_n rfl (ck_get kk_Mo_splits 6 rfl) ?_
        first | refine wp_icmp_geN (t := 263) (ck_get kk_Mo_splits 7 rfl) (by decide) (by omega) (by omega) (fun hc9 => ?_) (fun hc9 => ?_) | refine wp_icmp_ge (t := 263) (ck_get kk_Mo_splits 7 rfl) (by decide) (fun hc9 => ?_) (fun hc9 => ?_)
        · omega
        · refine wp_aload_n rfl (ck_get kk_Mo_splits 8 rfl) ?_
          refine wp_getR (ck_get kk_Mo_splits 9 rfl) fl_Mo_55 (by assumption) (by assumption) ?_
          refine wp_iload_n rfl (ck_get kk_Mo_splits 10 rfl) ?_
          first | refine wp_bald (ck_get kk_Mo_splits 11 rfl) (by assumption) (ixk_nI (k := p) (by omega) (by omega)) ?_ | refine wp_zald (ck_get kk_Mo_splits 11 rfl) (by assumption) (ixk_nI (k := p) (by omega) (by omega)) ?_
          rw [spM_o (by omega) (by omega) (by omega) (by omega), hu]
          refine wp_istore_n (ck_get kk_Mo_splits 12 rfl) (by decide) rfl ?_
          refine wp_iload_n rfl (ck_get kk_Mo_splits 13 rfl) ?_
          refine wp_bipush (v := nI 32) (by decide) (ck_get kk_Mo_splits 14 rfl) ?_
          refine wp_icmp_ne (t := 31) (ck_get kk_Mo_splits 15 rfl) (by decide) (fun hc22 => ?_) (fun hc22 => ?_)
          · exact absurd (h32.mpr hbl) hc22
          · first | refine wp_iincN (ck_get kk_Mo_splits 16 rfl) rfl (by decide) rfl ?_ | refine wp_iinc (ck_get kk_Mo_splits 16 rfl) rfl (by decide) rfl ?_
            refine wp_goto (t := 7) (ck_get kk_Mo_splits 17 rfl) (by decide) ?_
            exact ih (L - (p + 1)) (by omega) (p + 1) n C V P _ _ _ rfl (by omega) hn hsk hT
      · rw [sk_out (fun h => hbl h.2)] at hsk
        have hel := eOf_le (bt := bt) (L := L) (s := p) hp
        have hge := tS_ge (bt := bt) (L := L) (i := n) (by omega)
        have htok := l_spTok (g := g) (C := C) (V := V) (P := P) (x4 := x4) (x5 := x5) hM0 hX hL hpL hn hsk.symm (Q := spQ M o L bt) ?_
        · skip
          refine wp_iload_n rfl (ck_get kk_Mo_splits 5 rfl) ?_
          refine wp_iload_n rfl (ck_get kk_Mo_splits 6 rfl) ?_
          first | refine wp_icmp_geN (t := 263) (ck_get kk_Mo_splits 7 rfl) (by decide) (by omega) (by omega) (fun hc9 => ?_) (fun hc9 => ?_) | refine wp_icmp_ge (t := 263) (ck_get kk_Mo_splits 7 rfl) (by decide) (fun hc9 => ?_) (fun hc9 => ?_)
          · omega
          · refine wp_aload_n rfl (ck_get kk_Mo_splits 8 rfl) ?_
            refine wp_getR (ck_get kk_Mo_splits 9 rfl) fl_Mo_55 (by assumption) (by assumption) ?_
            refine wp_iload_n rfl (ck_get kk_Mo_splits 10 rfl) ?_
            first | refine wp_bald (ck_get kk_Mo_splits 11 rfl) (by assumption) (ixk_nI (k := p) (by omega) (by omega)) ?_ | refine wp_zald (ck_get kk_Mo_splits 11 rfl) (by assumption) (ixk_nI (k := p) (by omega) (by omega)) ?_
            rw [spM_o (by omega) (by omega) (by omega) (by omega), hu]
            refine wp_istore_n (ck_get kk_Mo_splits 12 rfl) (by decide) rfl ?_
            refine wp_iload_n rfl (ck_get kk_Mo_splits 13 rfl) ?_
            refine wp_bipush (v := nI 32) (by decide) (ck_get kk_Mo_splits 14 rfl) ?_
            refine wp_icmp_ne (t := 31) (ck_get kk_Mo_splits 15 rfl) (by decide) (fun hc22 => ?_) (fun hc22 => ?_)
            · exact htok
            · exact absurd (h32.mp hc22) hbl
        · intro a b c y3 y4 y5 hN
          refine ih (L - eOf bt L p) (by omega) (eOf bt L p) (n + 1) _ _ _ _ _ _ rfl (by omega) (by omega) ?_ ?_
          · rw [hsk]; rfl
          · intro i hi
            by_cases h : i = n
            · subst h; exact ⟨hN, by omega⟩
            · exact ⟨(hT i (by omega)).1.up h, (hT i (by omega)).2⟩
    · rw [sk_out (by omega)] at hsk
      refine wp_iload_n rfl (ck_get kk_Mo_splits 5 rfl) ?_
      refine wp_iload_n rfl (ck_get kk_Mo_splits 6 rfl) ?_
      first | refine wp_icmp_geN (t := 263) (ck_get kk_Mo_splits 7 rfl) (by decide) (by omega) (by omega) (fun hc9 => ?_) (fun hc9 => ?_) | refine wp_icmp_ge (t := 263) (ck_get kk_Mo_splits 7 rfl) (by decide) (fun hc9 => ?_) (fun hc9 => ?_)
      · exact l_spEnd hM0 hn hT (by omega)
      · omega
theorem m_splits (hM : MoAt (mT M) (mR M) o) (hX : MtOK M o bt) (hL : L ≤ 400) : Cv g Y_Mo_splits 1 [.ref o, .int (nI L)] M (fun M2 => ∃ N C V P, M2 = spM M o N C V P ∧ N ≤ 400 ∧ (∀ i, i ≤ N → LxT bt L C V P i) ∧ ∀ i, i < N ↔ tS bt L i < L) := by
  have hM0 := hM
  have to0 := hM.1
  have rftape := MoAt.r hM 9 rfl
  have tftape := MoAt.t hM 9 rfl
  refine cw_entry 4 pf_Mo_splits rfl ?_
  have e0 : sI M o 21 (nI 0) = spM M o 0 (mI M (o + 12)) (mI M (o + 13)) (mI M (o + 14)) := by
    refine congrArg (fun I => mk2 M I (mJ M)) ?_
    show up2 (mI M) o 21 (nI 0) = _
    rw [up2_up1, up1_id (f := up1 (mI M) o _) (up1_ne (by omega)), up1_id (f := up1 (mI M) o _) (up1_ne (by omega)), up1_id (f := up1 (mI M) o _) (up1_ne (by omega))]
  refine wp_aload_n rfl (ck_get kk_Mo_splits 0 rfl) ?_
  refine wp_iconst (v := nI 0) (by decide) (ck_get kk_Mo_splits 1 rfl) ?_
  refine wp_putI (ck_get kk_Mo_splits 2 rfl) fl_Mo_188 (by decide +kernel) (by assumption) (okI_int _) ?_
  rw [e0]
  refine wp_iconst (v := nI 0) (by decide) (ck_get kk_Mo_splits 3 rfl) ?_
  refine wp_istore_n (ck_get kk_Mo_splits 4 rfl) (by decide) rfl ?_
  exact l_splits hM0 hX hL (L - 0) 0 0 _ _ _ none none none rfl (by omega) (by omega) rfl (fun i hi => absurd hi (by omega))
end MSP

/-! ===== MissCurves$Parser: whole texts ===== -/
theorem exI (x : Int32) : ∃ n : Nat, x = nI n := ⟨x.toUInt32.toNat, by
  unfold nI
  apply Int32.toBitVec_inj.mp
  apply BitVec.eq_of_toNat_eq
  simp⟩
section PI
variable {g : Gl} {M : Mem} {pa tp L : Nat} {bt : Nat → Nat} {od : Bool} {f : Nat}
/-- the parser's cells, whatever text it has -/
def PaA0 (T : Nat → Nat × Nat) (R : Nat → Nat → Option Nat) (pa tp : Nat) : Prop := T pa = (3, 0) ∧ R pa 0 = some (pa + 1) ∧ PrAt T R (pa + 1) 1024 ∧ T tp = (20, 400) ∧ (tp < pa ∨ pa + 9 ≤ tp)
/-- the text is laid, no fault told -/
abbrev bgM (M : Mem) (pa tp L : Nat) : Mem := (M.1, M.2.1, up1 (mI M) pa (up1 (up1 (mI M pa) 3 (nI L)) 1 (-1)), M.2.2.2.1, up2 (mR M) pa 2 (some tp))
theorem PrAt.upR {T : Nat → Nat × Nat} {R : Nat → Nat → Option Nat} {p cn a k : Nat} {v : Option Nat} (h : PrAt T R p cn) (ha : a ≠ p) : PrAt T (up2 R a k v) p cn := ⟨h.1, fun q h1 h2 => by rw [up2_up1, up1_ne ha.symm]; exact h.2.1 q h1 h2, h.2.2⟩
theorem TxOK.begin (hP : PaA0 (mT M) (mR M) pa tp) (hL : L ≤ 400) (hbt : ∀ j, j < 400 → mI M tp j = nI (bt j)) (hb2 : ∀ j, bt j < 256) : TxOK (bgM M pa tp L) pa tp L bt := by
  obtain ⟨t0, r0, hPr, t2, htp⟩ := hP
  refine ⟨⟨t0, ?_, hPr.upR (by omega), ?_, t2, htp⟩, ?_, hL, ?_, hb2⟩
  · show up2 (mR M) pa 2 (some tp) pa 0 = some (pa + 1)
    unfold up2
    rw [if_neg (by omega)]; exact r0
  · show up2 (mR M) pa 2 (some tp) pa 2 = some tp
    unfold up2
    rw [if_pos ⟨rfl, rfl⟩]
  · show up1 (mI M) pa _ pa 3 = nI L
    rw [up1_eq, up1_ne (by omega), up1_eq]
  · intro j hj
    show up1 (mI M) pa _ tp j = nI (bt j)
    rw [up1_ne (by omega)]; exact hbt j hj
theorem bg_cS {lf k s v cl : Nat} (h5 : mI M pa 5 = nI lf) (h6 : mI M pa 6 = nI k) (h7 : mI M pa 7 = nI s) (h9 : mI M pa 9 = nI v) (hc : mI M (pa + 1) 8 = nI cl) : sI (sI (sI (sR M pa 2 (some tp)) pa 3 (nI L)) pa 8 (nI 0)) pa 1 (-1) = cS (bgM M pa tp L) pa lf k s 0 v cl (mI M (pa + 8)) := by
  refine congrArg (fun I => ((M.1, M.2.1, I, M.2.2.2.1, up2 (mR M) pa 2 (some tp)) : Mem)) ?_
  funext x y
  by_cases hx : x = pa
  · subst hx
    show up2 (up2 (up2 (mI M) x 3 (nI L)) x 8 (nI 0)) x 1 (-1) x y = up1 (up1 (up1 (up1 (mI M) x _) x (paF _ lf k s 0 v)) (x + 1) _) (x + 8) _ x y
    rw [up1_ne (by omega), up1_ne (by omega), up1_eq]
    show _ = paF (up1 (mI M) x (up1 (up1 (mI M x) 3 (nI L)) 1 (-1)) x) lf k s 0 v y
    rw [up1_eq]
    by_cases y5 : y = 5
    · subst y5; simp [up2, paF, h5]
    by_cases y6 : y = 6
    · subst y6; simp [up2, paF, h6]
    by_cases y7 : y = 7
    · subst y7; simp [up2, paF, h7]
    by_cases y9 : y = 9
    · subst y9; simp [up2, paF, h9]
    by_cases y8 : y = 8
    · subst y8; simp [up2, paF]
    simp [up2, up1, paF, y5, y6, y7, y8, y9]
  · show up2 (up2 (up2 (mI M) pa 3 (nI L)) pa 8 (nI 0)) pa 1 (-1) x y = up1 (up1 (up1 (up1 (mI M) pa _) pa _) (pa + 1) (up1 (up1 (mI M) pa _ (pa + 1)) 8 (nI cl))) (pa + 8) (mI M (pa + 8)) x y
    rw [up2_up1, up1_ne hx, up2_up1, up1_ne hx, up2_up1, up1_ne hx]
    by_cases h8 : x = pa + 8
    · subst h8; rw [up1_eq]
    rw [up1_ne h8]
    by_cases h1 : x = pa + 1
    · subst h1; rw [up1_eq]
      by_cases y8 : y = 8
      · subst y8; rw [up1_eq]; exact hc
      · rw [up1_ne y8, up1_ne (by omega)]
    rw [up1_ne h1, up1_ne hx, up1_ne hx]
theorem c_begin (hP : PaA0 (mT M) (mR M) pa tp) (hL : L ≤ 400) (hbt : ∀ j, j < 400 → mI M tp j = nI (bt j)) (hb2 : ∀ j, bt j < 256) : Cv g Y_Pa_begin 5 [.ref pa, .ref tp, .int (nI L)] M (fun M2 => ∃ lf cl cd, M2 = cTk (bgM M pa tp L) pa L bt (tS bt L 0) lf cl cd) := by
  have hX := TxOK.begin hP hL hbt hb2
  obtain ⟨t0, r0, hPr, t2, htp⟩ := hP
  obtain ⟨lf, h5⟩ := exI (mI M pa 5)
  obtain ⟨k, h6⟩ := exI (mI M pa 6)
  obtain ⟨s, h7⟩ := exI (mI M pa 7)
  obtain ⟨v, h9⟩ := exI (mI M pa 9)
  obtain ⟨cl, hc⟩ := exI (mI M (pa + 1) 8)
  refine cw_entry 0 pf_Pa_begin rfl ?_
  refine wp_aload_n rfl (ck_get kk_Pa_begin 0 rfl) ?_
  refine wp_aload_n rfl (ck_get kk_Pa_begin 1 rfl) ?_
  refine wp_putR (ck_get kk_Pa_begin 2 rfl) fl_Pa_24 (by decide +kernel) (by assumption) ?_
  refine wp_aload_n rfl (ck_get kk_Pa_begin 3 rfl) ?_
  refine wp_iload_n rfl (ck_get kk_Pa_begin 4 rfl) ?_
  refine wp_aload_n rfl (ck_get kk_Pa_begin 5 rfl) ?_
  refine wp_alen (ck_get kk_Pa_begin 6 rfl) (by assumption) ?_
  refine wp_cS2i (ck_get kk_Pa_begin 7 rfl) ml_Pa_95 (by omega) (Nat.le_of_ble_eq_true rfl) (Ci.to (c_min (a := L) (b := 400) (by omega) (by omega)) ?_)
  rintro _ M1 ⟨rfl, eqm1⟩
  obtain rfl := eqm1.symm
  rw [Nat.min_eq_left hL]
  refine wp_putI (ck_get kk_Pa_begin 8 rfl) fl_Pa_28 (by decide +kernel) (by assumption) (okI_int _) ?_
  refine wp_aload_n rfl (ck_get kk_Pa_begin 9 rfl) ?_
  refine wp_iconst (v := nI 0) (by decide) (ck_get kk_Pa_begin 10 rfl) ?_
  refine wp_putI (ck_get kk_Pa_begin 11 rfl) fl_Pa_44 (by decide +kernel) (by assumption) (okI_int _) ?_
  refine wp_aload_n rfl (ck_get kk_Pa_begin 12 rfl) ?_
  refine wp_iconst (v := (-1)) (by decide) (ck_get kk_Pa_begin 13 rfl) ?_
  refine wp_putI (ck_get kk_Pa_begin 14 rfl) fl_Pa_20 (by decide +kernel) (by assumption) (okI_int _) ?_
  rw [bg_cS h5 h6 h7 h9 hc]
  refine wp_aload_n rfl (ck_get kk_Pa_begin 15 rfl) ?_
  refine wp_cV0v (ck_get kk_Pa_begin 16 rfl) ml_Pa_68 (by omega) (Nat.le_of_ble_eq_true rfl) (by assumption) (Cv.to (c_advance hX (Nat.zero_le _)) ?_)
  rintro M₁ rfl
  refine wp_return (ck_get kk_Pa_begin 17 rfl) rfl ⟨rfl, ?_⟩
  exact ⟨lf, cl, _, rfl⟩
/-- a clause's rows in the base memory -/
theorem cS_c0 {lf k s e v cl q : Nat} {cd : Nat → Int32} {w : Int32} (hq : q ≠ 8) : sI (cS M pa lf k s e v cl cd) (pa + 1) q w = cS (sI M (pa + 1) q w) pa lf k s e v cl cd := by
  have a1 : mI (sI M (pa + 1) q w) pa = mI M pa := by show up2 (mI M) (pa + 1) q w pa = mI M pa; rw [up2_up1, up1_ne (by omega)]
  have a2 : mI (sI M (pa + 1) q w) (pa + 1) = up1 (mI M (pa + 1)) q w := by show up2 (mI M) (pa + 1) q w (pa + 1) = _; rw [up2_up1, up1_eq]
  refine congrArg (fun I => mk2 M I (mJ M)) ?_
  rw [a1, a2]
  show up2 (up1 (up1 (up1 (mI M) pa _) (pa + 1) _) (pa + 8) cd) (pa + 1) q w = up1 (up1 (up1 (up2 (mI M) (pa + 1) q w) pa _) (pa + 1) _) (pa + 8) cd
  rw [up2_up1, up2_up1, up1_ne (by omega), up1_eq, up1_comm _ (by omega : pa + 8 ≠ pa + 1), up1_up1, up1_comm _ hq.symm, up1_comm (mI M) (by omega : pa + 1 ≠ pa), up1_up1]
def CpU (I I2 : Nat → Nat → Int32) (pa n : Nat) : Prop := (∀ x, x < pa + 1 ∨ pa + 8 ≤ x → I2 x = I x) ∧ ∀ x m, pa + 2 ≤ x → m < n → I2 x m = I x m
theorem EnU.cp {I I2 : Nat → Nat → Int32} {pa n : Nat} (h : EnU I I2 pa n) : CpU I I2 pa n := ⟨fun x hx => h.1 x (by omega), fun x m _ hm => h.2 x m (by omega)⟩
theorem CpU.trans {I I2 I3 : Nat → Nat → Int32} {pa n n2 : Nat} (h : CpU I I2 pa n) (h2 : CpU I2 I3 pa n2) (hn : n ≤ n2) : CpU I I3 pa n := ⟨fun x hx => (h2.1 x hx).trans (h.1 x hx), fun x m hx hm => (h2.2 x m hx (by omega)).trans (h.2 x m hx hm)⟩
theorem CpU.cl {I : Nat → Nat → Int32} {pa n q : Nat} {w : Int32} : CpU I (up2 I (pa + 1) q w) pa n := ⟨fun x hx => by rw [up2_up1, up1_ne (by omega)], fun x m hx _ => by rw [up2_up1, up1_ne (by omega)]⟩
theorem TxOK.cp {I2 : Nat → Nat → Int32} {n : Nat} (hX : TxOK M pa tp L bt) (h : CpU (mI M) I2 pa n) : TxOK (mk2 M I2 (mJ M)) pa tp L bt := by
  obtain ⟨hP, h3, hL, hbt, hb2⟩ := hX
  refine ⟨hP, ?_, hL, ?_, hb2⟩
  · show I2 pa 3 = nI L
    rw [h.1 pa (by omega)]; exact h3
  · intro j hj
    show I2 tp j = nI (bt j)
    rw [h.1 tp (by have := hP.2.2.2.2.2; omega)]; exact hbt j hj
abbrev enT (bt : Nat → Nat) (L j : Nat) : Bool := decide (kOf bt L (tS bt L j) = 0)
/-- clauses from the n-th on -/
def cpQ (M : Mem) (pa L : Nat) (bt : Nat → Nat) (od : Bool) (f r n i lf cl : Nat) (cd : Nat → Int32) (I1 : Nat → Nat → Int32) (x : Int32) (M2 : Mem) : Prop := ∃ I2, CpU I1 I2 pa n ∧ pOK (mk2 M I2 (mJ M)) pa L bt cl cd (pcF (tC bt L) (tV bt L) od f (enT bt L) r i lf cl) x M2 ∧ ∀ j lf2 sg, pcF (tC bt L) (tV bt L) od f (enT bt L) r i lf cl = (true, j, lf2, sg) → ∃ nc, nc ≤ n + r ∧ I2 (pa + 1) 0 = nI nc ∧ ChS (tC bt L) (tV bt L) od f (enT bt L) (fun m k => I2 (pa + 1 + k) m) nc r n i lf cl sg
theorem ClS_ok {tc tv : Nat → Nat} {i lf cl j lf2 : Nat} {sg : List Int32} (N : Nat) (hN : ∀ i, tc i ≠ 0 → i < N) (h : pIf tc tv od f i lf cl = (true, j, lf2, sg)) (hi : i ≤ N) (hl : lf ≤ 50) : i ≤ j ∧ j ≤ N ∧ lf2 ≤ 50 ∧ sg.length ≤ 2 * (j - i) ∧ sg.length % 2 = 0 ∧ ∀ e : Nat → Int32, e 3 = (if tc i = 3 then nI cl else -1) → CnS tc tv od f e i lf cl j sg := by
  unfold pIf at h
  by_cases h0 : tc i = 3
  · rw [if_pos h0] at h
    obtain ⟨j1, l1, s1, e1, h1⟩ := pbd_t h
    obtain ⟨rfl, rfl, rfl⟩ := tru_inj h1
    have hiN := hN i (by omega)
    obtain ⟨p1, p2, p3, p4, p5⟩ := psr_ok hN f 10 0 (i + 1) lf cl j1 l1 s1 (by omega) e1 (by omega) hl
    rw [show ntk 10 = 1 from rfl] at p1
    rw [show ntx 10 = 0 from rfl] at p4
    rw [len_app2]
    refine ⟨by omega, p2, p3, by omega, by omega, fun e he => Or.inr ⟨h0, ?_, l1, s1, e1, rfl⟩⟩
    rw [he, if_pos h0]
  · rw [if_neg h0] at h
    obtain ⟨rfl, rfl, rfl⟩ := tru_inj h
    refine ⟨Nat.le_refl _, hi, hl, Nat.zero_le _, rfl, fun e he => Or.inl ⟨h0, ?_, rfl, rfl⟩⟩
    rw [he, if_neg h0]
theorem pLaw_ok {tc tv : Nat → Nat} {i lf cl j lf2 : Nat} {sg : List Int32} (N : Nat) (hN : ∀ i, tc i ≠ 0 → i < N) (h : pLaw tc tv od f i lf cl = (true, j, lf2, sg)) (hl : lf ≤ 50) : i < j ∧ j ≤ N ∧ lf2 ≤ 50 ∧ sg.length ≤ 2 * (j - i) ∧ sg.length % 2 = 0 := by
  unfold pLaw at h
  by_cases h0 : tc i = 2
  · rw [if_pos h0] at h
    obtain ⟨rfl, rfl, rfl⟩ := tru_inj h
    have hiN := hN i (by omega)
    exact ⟨by omega, by omega, hl, Nat.zero_le _, rfl⟩
  rw [if_neg h0] at h
  by_cases h1 : tc i = 1
  · rw [if_pos h1] at h
    have hiN := hN i (by omega)
    obtain ⟨s1, -, rfl, q3, q4, q5, q6, q7⟩ := pSm_ok hN h (by omega) hl
    rw [len_app2]
    exact ⟨by omega, q4, q5, by omega, by omega⟩
  · rw [if_neg h1] at h; exact (fls_tru h).elim
theorem pBy_ok {tc tv : Nat → Nat} {i lf cl j lf2 : Nat} {sg : List Int32} (N : Nat) (hN : ∀ i, tc i ≠ 0 → i < N) (h : pBy tc tv od f i lf cl = (true, j, lf2, sg)) (hl : lf ≤ 50) : i < j ∧ j ≤ N ∧ lf2 ≤ 50 ∧ sg.length ≤ 2 * (j - i) ∧ sg.length % 2 = 0 := by
  unfold pBy at h
  by_cases h0 : tc i = 18
  · rw [if_pos h0] at h
    have hiN := hN i (by omega)
    obtain ⟨j1, l1, s1, e1, h1⟩ := pbd_t h
    obtain ⟨j2, l2, s2, e2, h2⟩ := pbd_t h1
    obtain ⟨rfl, rfl, rfl⟩ := tru_inj h2
    obtain ⟨s0, -, rfl, q3, q4, q5, q6, q7⟩ := pSm_ok hN e1 (by omega) hl
    obtain ⟨rfl, rfl, hx⟩ := pTm_ok e2
    rw [List.append_nil, len_app2]
    rcases hx with ⟨a1, a2, -, -, a3⟩ | ⟨a1, a2⟩
    · have := hN (j1 + 1) (by omega)
      exact ⟨by omega, by omega, q5, by omega, by omega⟩
    · exact ⟨by omega, by omega, q5, by omega, by omega⟩
  · rw [if_neg h0] at h; exact (fls_tru h).elim
theorem pOrd_ok {tc tv : Nat → Nat} {i lf cl j lf2 : Nat} {sg : List Int32} (N : Nat) (hN : ∀ i, tc i ≠ 0 → i < N) (h : pOrd tc tv od f i lf cl = (true, j, lf2, sg)) (hl : lf ≤ 50) : i < j ∧ j ≤ N ∧ lf2 ≤ 50 ∧ sg.length ≤ 2 * (j - i) ∧ sg.length % 2 = 0 := by
  unfold pOrd at h
  by_cases h0 : tc i = 17 ∨ tc i = 21
  · rw [if_pos h0] at h
    have hiN := hN i (by omega)
    obtain ⟨j1, l1, s1, e1, h1⟩ := pbd_t h
    obtain ⟨j2, l2, s2, e2, h2⟩ := pbd_t h1
    obtain ⟨rfl, rfl, rfl⟩ := tru_inj h2
    obtain ⟨s0, -, rfl, q3, q4, q5, q6, q7⟩ := pSm_ok hN e1 (by omega) hl
    obtain ⟨u1, u2, u3, u4, u5⟩ := pBy_ok N hN e2 q5
    rw [List.length_append, len_app2]
    exact ⟨by omega, u2, u3, by omega, by omega⟩
  rw [if_neg h0] at h
  by_cases h1 : tc i = 19
  · rw [if_pos h1] at h
    have hiN := hN i (by omega)
    obtain ⟨j1, l1, s1, e1, h1⟩ := pbd_t h
    obtain ⟨j2, l2, s2, e2, h2⟩ := pbd_t h1
    obtain ⟨rfl, rfl, rfl⟩ := tru_inj h2
    obtain ⟨s0, -, rfl, q3, q4, q5, q6, q7⟩ := pSm_ok hN e1 (by omega) hl
    dsimp only at e2
    by_cases ht : tc j1 = 20
    · rw [if_pos ht] at e2
      have hjN := hN j1 (by omega)
      obtain ⟨j3, l3, s3, e3, h3⟩ := pbd_t e2
      obtain ⟨j4, l4, s4, e4, h4⟩ := pbd_t h3
      obtain ⟨rfl, rfl, rfl⟩ := tru_inj h4
      obtain ⟨s5, -, rfl, v3, v4, v5, v6, v7⟩ := pSm_ok hN e3 (by omega) q5
      obtain ⟨u1, u2, u3, u4, u5⟩ := pBy_ok N hN e4 v5
      rw [List.length_append, len_app2, List.length_append, len_app2]
      exact ⟨by omega, u2, u3, by omega, by omega⟩
    · rw [if_neg ht] at e2; exact (fls_tru e2).elim
  rw [if_neg h1] at h
  by_cases h2 : tc i = 22
  · rw [if_pos h2] at h
    have hiN := hN i (by omega)
    obtain ⟨rfl, rfl, hx⟩ := pTm_ok h
    rcases hx with ⟨a1, a2, -, -, a3⟩ | ⟨a1, a2⟩
    · have := hN (i + 1 + 1) (by omega)
      exact ⟨by omega, by omega, hl, Nat.zero_le _, rfl⟩
    · exact ⟨by omega, by omega, hl, Nat.zero_le _, rfl⟩
  · rw [if_neg h2] at h; exact (fls_tru h).elim
theorem kOf0 {i : Nat} (h : ¬ kOf bt L (tS bt L i) = 0) : i < L := by
  have h1 : tS bt L i < L := by
    unfold kOf at h
    by_cases h2 : tS bt L i < L
    · exact h2
    · rw [if_neg h2] at h; exact absurd rfl h
  exact Nat.lt_of_le_of_lt (tS_ge h1) h1
theorem ClS_kept {tc tv : Nat → Nat} {e e2 : Nat → Int32} {i lf cl j : Nat} {sg : List Int32} (h : ∀ k, 1 ≤ k ∧ k ≤ 6 → e2 k = e k) (hC : ClS tc tv od f e i lf cl j sg) : ClS tc tv od f e2 i lf cl j sg := by
  have h1 := h 1 (by omega)
  have h2 := h 2 (by omega)
  have h3 := h 3 (by omega)
  have h4 := h 4 (by omega)
  have h5 := h 5 (by omega)
  have h6 := h 6 (by omega)
  simp only [ClS, OrS, LwS, ByS, CnS, h1, h2, h3, h4, h5, h6] at hC ⊢
  exact hC
theorem OrS_kept {tc tv : Nat → Nat} {e e2 : Nat → Int32} {i lf cl j lf2 : Nat} {sg : List Int32} (h : ∀ k, (1 ≤ k ∧ k ≤ 6) ∧ k ≠ 3 → e2 k = e k) (hC : OrS tc tv od f e i lf cl j lf2 sg) : OrS tc tv od f e2 i lf cl j lf2 sg := by
  have h1 := h 1 (by omega)
  have h2 := h 2 (by omega)
  have h4 := h 4 (by omega)
  have h5 := h 5 (by omega)
  have h6 := h 6 (by omega)
  simp only [OrS, ByS, h1, h2, h4, h5, h6] at hC ⊢
  exact hC
theorem ChS_kept6 {tc tv : Nat → Nat} {en : Nat → Bool} {E E2 : Nat → Nat → Int32} {nc : Nat} (hE : ∀ m k, 1 ≤ k ∧ k ≤ 6 → E2 m k = E m k) : ∀ {r n i lf cl : Nat} {sg : List Int32}, ChS tc tv od f en E nc r n i lf cl sg → ChS tc tv od f en E2 nc r n i lf cl sg
  | 0, _, _, _, _, _, h => h.elim
  | r + 1, n, i, lf, cl, sg, h => by
    obtain ⟨j, lf1, s1, s2, h1, h2, h3, h4⟩ := h
    refine ⟨j, lf1, s1, s2, h1, ClS_kept (fun k hk => hE n k hk) h2, h3, ?_⟩
    rcases h4 with h4 | ⟨h5, h6, h7⟩
    · exact Or.inl h4
    · exact Or.inr ⟨h5, h6, ChS_kept6 hE h7⟩
theorem cS_p4 {lf k s e v cl : Nat} {cd : Nat → Int32} {w : Int32} : sI (cS M pa lf k s e v cl cd) pa 4 w = cS (sI M pa 4 w) pa lf k s e v cl cd := by
  have a1 : mI (sI M pa 4 w) pa = up1 (mI M pa) 4 w := by show up2 (mI M) pa 4 w pa = _; rw [up2_up1, up1_eq]
  have a2 : mI (sI M pa 4 w) (pa + 1) = mI M (pa + 1) := by show up2 (mI M) pa 4 w (pa + 1) = _; rw [up2_up1, up1_ne (by omega)]
  refine congrArg (fun I => mk2 M I (mJ M)) ?_
  rw [a1, a2]
  show up2 (up1 (up1 (up1 (mI M) pa _) (pa + 1) _) (pa + 8) cd) pa 4 w = up1 (up1 (up1 (up2 (mI M) pa 4 w) pa _) (pa + 1) _) (pa + 8) cd
  have hF : up1 (paF (mI M pa) lf k s e v) 4 w = paF (up1 (mI M pa) 4 w) lf k s e v := by
    funext y
    by_cases y4 : y = 4
    · subst y4; rw [up1_eq]; simp [paF, up1]
    · rw [up1_ne y4]; simp [paF, up1, y4]
  rw [up2_up1, up2_up1, up1_ne (by omega), up1_ne (by omega), up1_eq, hF, up1_comm _ (by omega : pa + 8 ≠ pa), up1_comm _ (by omega : pa + 1 ≠ pa), up1_up1, up1_up1]
theorem TxOK.p4 {w : Int32} (hX : TxOK M pa tp L bt) : TxOK (sI M pa 4 w) pa tp L bt := by
  obtain ⟨hP, h3, hL, hbt, hb2⟩ := hX
  refine ⟨hP, ?_, hL, ?_, hb2⟩
  · show up2 (mI M) pa 4 w pa 3 = nI L
    unfold up2; rw [if_neg (by omega)]; exact h3
  · intro j hj
    show up2 (mI M) pa 4 w tp j = nI (bt j)
    rw [up2_up1, up1_ne (by have := hP.2.2.2.2.2; omega)]; exact hbt j hj
/-- behind a clause -/
theorem l_cp78 (hS : OutOK g) (hX : TxOK M pa tp L bt) {r n i lf cl j lf1 : Nat} {cd cd1 : Nat → Int32} {s1 : List Int32} {I1 I2 : Nat → Nat → Int32} {x1 x2 : Option Value} (hI2 : CpU (mI M) I2 pa 0) (hU : EnU I1 I2 pa n) (hn : n < 12) (h12 : 12 = n + (r + 1)) (hp : p1F (tC bt L) (tV bt L) od f i lf cl = (true, j, lf1, s1)) (hC : ClS (tC bt L) (tV bt L) od f (fun k => I2 (pa + 1 + k) n) i lf cl j s1) (hE : Ext cd cl s1 cd1) (hij : i < j) (hj : j ≤ L) (hl1 : lf1 ≤ 50) (hc1 : cl + s1.length ≤ 2 * j)
    (ih : ∀ (I1 : Nat → Nat → Int32) (i lf cl : Nat) (cd : Nat → Int32), CpU (mI M) I1 pa 0 → i ≤ L → lf ≤ 50 → cl ≤ 2 * i → Wp g Y_Pa_compile 220 35 [some (.ref pa), x1, x2, some (.int (bI od)), some (.int (nI (n + 1)))] [] (cTk (mk2 M I1 (mJ M)) pa L bt (tS bt L i) lf cl cd) (fun q M2 => ∃ x, q = some (.int x) ∧ cpQ M pa L bt od f r (n + 1) i lf cl cd I1 x M2)) :
    Wp g Y_Pa_compile 220 78 [some (.ref pa), x1, x2, some (.int (bI od)), some (.int (nI n))] [] (cTk (mk2 M I2 (mJ M)) pa L bt (tS bt L j) lf1 (cl + s1.length) cd1) (fun q M2 => ∃ x, q = some (.int x) ∧ cpQ M pa L bt od f (r + 1) n i lf cl cd I1 x M2) := by
  have hX2 := hX.cp hI2
  have hI3 : CpU (mI M) (up2 I2 (pa + 1) 0 (nI (n + 1))) pa 0 := hI2.trans (CpU.cl (n := 0)) (by omega)
  have hX3 := hX.cp hI3
  have hU3 : CpU I1 (up2 I2 (pa + 1) 0 (nI (n + 1))) pa n := hU.cp.trans (CpU.cl (n := n)) (by omega)
  obtain ⟨⟨t0, r0, hPr, r2, t2, htp⟩, h3, hL, hbt, hb2⟩ := hX
  have p0 := hPr.1
  have hkl : kOf bt L (tS bt L j) ≤ 3 := kOf_le
  have e6 : ∀ M i lf cl cd, mI (cTk M pa L bt (tS bt L i) lf cl cd) pa 6 = nI (kOf bt L (tS bt L i)) := fun M i lf cl cd => by rw [cS_pa]; rfl
  by_cases hk : kOf bt L (tS bt L j) = 0
  · have hpc : pcF (tC bt L) (tV bt L) od f (enT bt L) (r + 1) i lf cl = (true, j, lf1, s1 ++ []) := by
      rw [pcF, hp]
      show pbd (if enT bt L j = true then _ else _) _ = _
      rw [if_pos (decide_eq_true hk)]
      rfl
    refine wp_aload_n rfl (ck_get kk_Pa_compile 40 rfl) ?_
    refine wp_getR (ck_get kk_Pa_compile 41 rfl) fl_Pa_14 (by assumption) (by assumption) ?_
    refine wp_iload rfl (ck_get kk_Pa_compile 42 rfl) ?_
    refine wp_iconst (v := nI 1) (by decide) (ck_get kk_Pa_compile 43 rfl) ?_
    first | refine wp_iaddN (ck_get kk_Pa_compile 44 rfl) ?_ | refine wp_iadd (ck_get kk_Pa_compile 44 rfl) ?_
    refine wp_putI (ck_get kk_Pa_compile 45 rfl) fl_Pa_75 (by decide +kernel) (by assumption) (okI_int _) ?_
    rw [cS_c0 (by omega)]
    refine wp_aload_n rfl (ck_get kk_Pa_compile 46 rfl) ?_
    refine wp_getIv (v := nI (kOf bt L (tS bt L j))) (ck_get kk_Pa_compile 47 rfl) fl_Pa_38 (by assumption) (e6 _ _ _ _ _) ?_
    first | refine wp_if_neN (t := 98) (ck_get kk_Pa_compile 48 rfl) (by decide) (by omega) (fun hc93 => ?_) (fun hc93 => ?_) | refine wp_if_ne (t := 98) (ck_get kk_Pa_compile 48 rfl) (by decide) (fun hc93 => ?_) (fun hc93 => ?_)
    · omega
    · refine wp_iconst (v := nI 1) (by decide) (ck_get kk_Pa_compile 49 rfl) ?_
      refine wp_ireturn (ck_get kk_Pa_compile 50 rfl) rfl rfl ⟨_, rfl, ?_⟩
      refine ⟨_, hU3, ?_, ?_⟩
      · rw [hpc, List.append_nil]
        exact pOK.yes hE
      · intro j2 lf2 sg hr
        rw [hpc] at hr
        obtain ⟨rfl, rfl, rfl⟩ := tru_inj hr
        refine ⟨n + 1, by omega, by simp [up2], j, lf1, s1, [], hp, ?_, rfl, Or.inl ⟨decide_eq_true hk, rfl, rfl⟩⟩
        exact ClS_kept (fun k hk => by show up2 I2 (pa + 1) 0 (nI (n + 1)) (pa + 1 + k) n = I2 (pa + 1 + k) n; rw [up2_up1, up1_ne (by omega)]) hC
  by_cases hs : tC bt L j = 100 + 59
  · have hpc : pcF (tC bt L) (tV bt L) od f (enT bt L) (r + 1) i lf cl = pbd (pcF (tC bt L) (tV bt L) od f (enT bt L) r (j + 1) lf1 (cl + s1.length)) (fun j2 l2 sg2 => (true, j2, l2, s1 ++ sg2)) := by
      rw [pcF, hp]
      show pbd (if enT bt L j = true then _ else _) _ = _
      rw [if_neg (by rw [decide_eq_true_eq]; exact hk), if_pos hs]
    have hjL := kOf0 hk
    refine wp_aload_n rfl (ck_get kk_Pa_compile 40 rfl) ?_
    refine wp_getR (ck_get kk_Pa_compile 41 rfl) fl_Pa_14 (by assumption) (by assumption) ?_
    refine wp_iload rfl (ck_get kk_Pa_compile 42 rfl) ?_
    refine wp_iconst (v := nI 1) (by decide) (ck_get kk_Pa_compile 43 rfl) ?_
    first | refine wp_iaddN (ck_get kk_Pa_compile 44 rfl) ?_ | refine wp_iadd (ck_get kk_Pa_compile 44 rfl) ?_
    refine wp_putI (ck_get kk_Pa_compile 45 rfl) fl_Pa_75 (by decide +kernel) (by assumption) (okI_int _) ?_
    rw [cS_c0 (by omega)]
    refine wp_aload_n rfl (ck_get kk_Pa_compile 46 rfl) ?_
    refine wp_getIv (v := nI (kOf bt L (tS bt L j))) (ck_get kk_Pa_compile 47 rfl) fl_Pa_38 (by assumption) (e6 _ _ _ _ _) ?_
    first | refine wp_if_neN (t := 98) (ck_get kk_Pa_compile 48 rfl) (by decide) (by omega) (fun hc93 => ?_) (fun hc93 => ?_) | refine wp_if_ne (t := 98) (ck_get kk_Pa_compile 48 rfl) (by decide) (fun hc93 => ?_) (fun hc93 => ?_)
    · refine wp_aload_n rfl (ck_get kk_Pa_compile 51 rfl) ?_
      refine wp_bipush (v := nI 59) (by decide) (ck_get kk_Pa_compile 52 rfl) ?_
      refine wp_cV1i (ck_get kk_Pa_compile 53 rfl) ml_Pa_91 (by omega) (Nat.le_of_ble_eq_true rfl) (by assumption) (Ci.to (c_isSignY hX3 (by omega) hs) ?_)
      rintro _ M1 ⟨rfl, eqm1⟩
      obtain rfl := eqm1.symm
      first | refine wp_if_neN (t := 112) (ck_get kk_Pa_compile 54 rfl) (by decide) (by omega) (fun hc104 => ?_) (fun hc104 => ?_) | refine wp_if_ne (t := 112) (ck_get kk_Pa_compile 54 rfl) (by decide) (fun hc104 => ?_) (fun hc104 => ?_)
      · refine wp_aload_n rfl (ck_get kk_Pa_compile 58 rfl) ?_
        refine wp_cV0v (ck_get kk_Pa_compile 59 rfl) ml_Pa_68 (by omega) (Nat.le_of_ble_eq_true rfl) (by assumption) (Cv.to (c_advanceT hX3) ?_)
        rintro M₁ rfl
        first | refine wp_iincN (ck_get kk_Pa_compile 60 rfl) rfl (by decide) rfl ?_ | refine wp_iinc (ck_get kk_Pa_compile 60 rfl) rfl (by decide) rfl ?_
        refine wp_goto (t := 35) (ck_get kk_Pa_compile 61 rfl) (by decide) ?_
        refine Wp.mono (ih _ (j + 1) lf1 (cl + s1.length) cd1 hI3 (by omega) hl1 (by omega)) ?_
        rintro q₂ M₂ ⟨x₂, hr₂, I4, a1, a2, a3⟩
        refine ⟨x₂, hr₂, I4, hU3.trans a1 (by omega), ?_, ?_⟩
        · rw [hpc]
          exact pOK.bd hE rfl a2
        · intro j2 lf2 sg hr
          rw [hpc] at hr
          obtain ⟨j3, l3, s3, e3, h4⟩ := pbd_t hr
          obtain ⟨rfl, rfl, rfl⟩ := tru_inj h4
          obtain ⟨nc, b1, b2, b3⟩ := a3 _ _ _ e3
          refine ⟨nc, by omega, b2, j, lf1, s1, s3, hp, ?_, rfl, Or.inr ⟨decide_eq_false hk, hs, b3⟩⟩
          refine ClS_kept (fun k hk => ?_) hC
          show I4 (pa + 1 + k) n = I2 (pa + 1 + k) n
          rw [a1.2 (pa + 1 + k) n (by omega) (by omega), up2_up1, up1_ne (by omega)]
      · omega
    · omega
  · have hpc : pcF (tC bt L) (tV bt L) od f (enT bt L) (r + 1) i lf cl = (false, j, lf1, []) := by
      rw [pcF, hp]
      show pbd (if enT bt L j = true then _ else _) _ = _
      rw [if_neg (by rw [decide_eq_true_eq]; exact hk), if_neg hs]
      rfl
    refine wp_aload_n rfl (ck_get kk_Pa_compile 40 rfl) ?_
    refine wp_getR (ck_get kk_Pa_compile 41 rfl) fl_Pa_14 (by assumption) (by assumption) ?_
    refine wp_iload rfl (ck_get kk_Pa_compile 42 rfl) ?_
    refine wp_iconst (v := nI 1) (by decide) (ck_get kk_Pa_compile 43 rfl) ?_
    first | refine wp_iaddN (ck_get kk_Pa_compile 44 rfl) ?_ | refine wp_iadd (ck_get kk_Pa_compile 44 rfl) ?_
    refine wp_putI (ck_get kk_Pa_compile 45 rfl) fl_Pa_75 (by decide +kernel) (by assumption) (okI_int _) ?_
    rw [cS_c0 (by omega)]
    refine wp_aload_n rfl (ck_get kk_Pa_compile 46 rfl) ?_
    refine wp_getIv (v := nI (kOf bt L (tS bt L j))) (ck_get kk_Pa_compile 47 rfl) fl_Pa_38 (by assumption) (e6 _ _ _ _ _) ?_
    first | refine wp_if_neN (t := 98) (ck_get kk_Pa_compile 48 rfl) (by decide) (by omega) (fun hc93 => ?_) (fun hc93 => ?_) | refine wp_if_ne (t := 98) (ck_get kk_Pa_compile 48 rfl) (by decide) (fun hc93 => ?_) (fun hc93 => ?_)
    · refine wp_aload_n rfl (ck_get kk_Pa_compile 51 rfl) ?_
      refine wp_bipush (v := nI 59) (by decide) (ck_get kk_Pa_compile 52 rfl) ?_
      refine wp_cV1i (ck_get kk_Pa_compile 53 rfl) ml_Pa_91 (by omega) (Nat.le_of_ble_eq_true rfl) (by assumption) (Ci.to (c_isSignN hX3 (by omega) hs) ?_)
      rintro _ M1 ⟨rfl, eqm1⟩
      obtain rfl := eqm1.symm
      first | refine wp_if_neN (t := 112) (ck_get kk_Pa_compile 54 rfl) (by decide) (by omega) (fun hc104 => ?_) (fun hc104 => ?_) | refine wp_if_ne (t := 112) (ck_get kk_Pa_compile 54 rfl) (by decide) (fun hc104 => ?_) (fun hc104 => ?_)
      · omega
      · refine wp_aload_n rfl (ck_get kk_Pa_compile 55 rfl) ?_
        refine wp_cV0i (ck_get kk_Pa_compile 56 rfl) ml_Pa_71 (by omega) (Nat.le_of_ble_eq_true rfl) (by assumption) (Ci.to (c_failT hX3 (lf0 := lf1) (cl0 := cl) (cd0 := cd) (sg := [])) ?_)
        rintro x₁ M₁ hq₁
        refine wp_ireturn (ck_get kk_Pa_compile 57 rfl) rfl hq₁.nar ⟨_, rfl, ?_⟩
        refine ⟨_, hU3, by rw [hpc]; exact hq₁, fun j2 lf2 sg hr => ?_⟩
        rw [hpc] at hr
        exact (fls_tru hr).elim
    · omega
theorem l_comp (hS : OutOK g) (hX : TxOK M pa tp L bt) (hod : mI M pa 4 = bI od) (hf : 12 * L + 6 ≤ f) {x1 x2 : Option Value} : ∀ (r n : Nat), 12 = n + r → ∀ (I1 : Nat → Nat → Int32) (i lf cl : Nat) (cd : Nat → Int32), CpU (mI M) I1 pa 0 → i ≤ L → lf ≤ 50 → cl ≤ 2 * i → Wp g Y_Pa_compile 220 35 [some (.ref pa), x1, x2, some (.int (bI od)), some (.int (nI n))] [] (cTk (mk2 M I1 (mJ M)) pa L bt (tS bt L i) lf cl cd) (fun q M2 => ∃ x, q = some (.int x) ∧ cpQ M pa L bt od f r n i lf cl cd I1 x M2) := by
  intro r
  induction r with
  | zero =>
    intro n hn I1 i lf cl cd hI hi hlf hcl
    have hX1 := hX.cp hI
    have t0 := hX.1.1
    refine wp_iload rfl (ck_get kk_Pa_compile 20 rfl) ?_
    refine wp_bipush (v := nI 12) (by decide) (ck_get kk_Pa_compile 21 rfl) ?_
    first | refine wp_icmp_geN (t := 122) (ck_get kk_Pa_compile 22 rfl) (by decide) (by omega) (by omega) (fun hc39 => ?_) (fun hc39 => ?_) | refine wp_icmp_ge (t := 122) (ck_get kk_Pa_compile 22 rfl) (by decide) (fun hc39 => ?_) (fun hc39 => ?_)
    · refine wp_aload_n rfl (ck_get kk_Pa_compile 62 rfl) ?_
      refine wp_cV0i (ck_get kk_Pa_compile 63 rfl) ml_Pa_71 (by omega) (Nat.le_of_ble_eq_true rfl) (by assumption) (Ci.to (c_failT hX1 (lf0 := lf) (cl0 := cl) (cd0 := cd) (sg := [])) ?_)
      rintro x₁ M₁ hq₁
      refine wp_ireturn (ck_get kk_Pa_compile 64 rfl) rfl hq₁.nar ⟨_, rfl, ?_⟩
      exact ⟨I1, ⟨fun _ _ => rfl, fun _ _ _ _ => rfl⟩, hq₁, fun j2 lf2 sg hr => (fls_tru hr).elim⟩
    · omega
  | succ r ih =>
    intro n hn I1 i lf cl cd hI hi hlf hcl
    have hX1 := hX.cp hI
    have hod1 : mI (mk2 M I1 (mJ M)) pa 4 = bI od := by rw [← hod]; exact congrFun (hI.1 pa (by omega)) 4
    have t0 := hX.1.1
    have ih1 := ih (n + 1) (by omega)
    by_cases ho : od = true
    · subst ho
      have hp0 : p1F (tC bt L) (tV bt L) true f i lf cl = psq (pOrd (tC bt L) (tV bt L) true f i lf cl) (fun j l n => pIf (tC bt L) (tV bt L) true f j l (cl + n)) := by
        rw [p1F, if_pos rfl]
      have hno : ∀ (k : Nat → Nat → List Int32 → PRes) (r0 : PRes) (I2 : Nat → Nat → Int32) (x : Int32) (M2 : Mem), EnU I1 I2 pa n → pOK (mk2 M I2 (mJ M)) pa L bt cl cd r0 x M2 → x = 0 → p1F (tC bt L) (tV bt L) true f i lf cl = pbd r0 k → cpQ M pa L bt true f (r + 1) n i lf cl cd I1 (nI 0) M2 := by
        intro k r0 I2 x M2 hU hq hx he
        have hb : pbd r0 k = (false, (pbd r0 k).2.1, (pbd r0 k).2.2.1, []) := by
          obtain ⟨j, l, sg, F, G, cd2, rfl, -, -⟩ := hq.f hx
          rfl
        have he2 : pcF (tC bt L) (tV bt L) true f (enT bt L) (r + 1) i lf cl = pbd r0 (fun _ _ _ => (false, 0, 0, [])) := by
          obtain ⟨j, l, sg, F, G, cd2, rfl, -, -⟩ := hq.f hx
          rw [pcF, he]; rfl
        refine ⟨I2, hU.cp, ?_, fun j lf2 sg hr => ?_⟩
        · rw [he2]; exact hq.no hx
        · obtain ⟨j2, l2, sg2, F, G, cd2, rfl, -, -⟩ := hq.f hx
          rw [he2] at hr
          exact (fls_tru hr).elim
      refine wp_iload rfl (ck_get kk_Pa_compile 20 rfl) ?_
      refine wp_bipush (v := nI 12) (by decide) (ck_get kk_Pa_compile 21 rfl) ?_
      first | refine wp_icmp_geN (t := 122) (ck_get kk_Pa_compile 22 rfl) (by decide) (by omega) (by omega) (fun hc39 => ?_) (fun hc39 => ?_) | refine wp_icmp_ge (t := 122) (ck_get kk_Pa_compile 22 rfl) (by decide) (fun hc39 => ?_) (fun hc39 => ?_)
      · omega
      · refine wp_iload_n rfl (ck_get kk_Pa_compile 23 rfl) ?_
        first | refine wp_if_eqN (t := 58) (ck_get kk_Pa_compile 24 rfl) (by decide) (by omega) (fun hc43 => ?_) (fun hc43 => ?_) | refine wp_if_eq (t := 58) (ck_get kk_Pa_compile 24 rfl) (by decide) (fun hc43 => ?_) (fun hc43 => ?_)
        · omega
        · refine wp_aload_n rfl (ck_get kk_Pa_compile 25 rfl) ?_
          refine wp_iload rfl (ck_get kk_Pa_compile 26 rfl) ?_
          refine wp_cV1i (ck_get kk_Pa_compile 27 rfl) ml_Pa_81 (by omega) (Nat.le_of_ble_eq_true rfl) (by assumption) (Ci.to (c_orderHead hS hX1 hod1 hf (I1 := I1) EnU.refl (by omega) hi hlf hcl) ?_)
          rintro x₁ M₁ ⟨I2, hU, hq₁, hP⟩
          first | refine wp_if_eqN (t := 76) (ck_get kk_Pa_compile 28 rfl) (by decide) (by omega) (fun hc52 => ?_) (fun hc52 => ?_) | refine wp_if_eq (t := 76) (ck_get kk_Pa_compile 28 rfl) (by decide) (fun hc52 => ?_) (fun hc52 => ?_)
          · refine wp_iconst (v := nI 0) (by decide) (ck_get kk_Pa_compile 38 rfl) ?_
            refine wp_ireturn (ck_get kk_Pa_compile 39 rfl) rfl rfl ⟨_, rfl, ?_⟩
            exact hno _ _ I2 x₁ M₁ hU hq₁ hc52 hp0
          · refine wp_goto (t := 67) (ck_get kk_Pa_compile 29 rfl) (by decide) ?_
            obtain ⟨j, lf1, s1, cd1, hr, rfl, hE⟩ := hq₁.t hc52
            obtain ⟨u1, u2, u3, u4, u5⟩ := pOrd_ok L (fun i h => tC_N h) hr hlf
            have hI2 : CpU (mI M) I2 pa 0 := hI.trans hU.cp (by omega)
            have hX2 := hX.cp hI2
            refine wp_aload_n rfl (ck_get kk_Pa_compile 34 rfl) ?_
            refine wp_iload rfl (ck_get kk_Pa_compile 35 rfl) ?_
            refine wp_cV1i (ck_get kk_Pa_compile 36 rfl) ml_Pa_88 (by omega) (Nat.le_of_ble_eq_true rfl) (by assumption) (Ci.to (c_condition hS hX1 hod1 hf hU (by omega) u2 u3 (by omega)) ?_)
            rintro x₂ M₂ hq₂
            first | refine wp_if_neN (t := 78) (ck_get kk_Pa_compile 37 rfl) (by decide) (by omega) (fun hc73 => ?_) (fun hc73 => ?_) | refine wp_if_ne (t := 78) (ck_get kk_Pa_compile 37 rfl) (by decide) (fun hc73 => ?_) (fun hc73 => ?_)
            · obtain ⟨j2, lf2, s2, cd2, hr2, rfl, hE2⟩ := hq₂.t hc73
              obtain ⟨v1, v2, v3, v4, v5, v6⟩ := ClS_ok L (fun i h => tC_N h) hr2 u2 u3
              have e2 : cl + (s1 ++ s2).length = cl + s1.length + s2.length := by rw [List.length_append]; omega
              rw [← e2]
              refine l_cp78 hS hX (hI2.trans (EnU.cp (EnU.refl.set (n := n) (by omega) (by omega))) (by omega)) (hU.set (by omega) (by omega)) (by omega) hn ?_ ?_ (hE.app rfl hE2) (by omega) v2 v3 (by omega) ih1
              · rw [hp0, hr, psq_y, hr2, pbd_y]
              · unfold ClS
                rw [if_pos rfl]
                refine ⟨j, lf1, s1, s2, ?_, v6 _ (by simp [up2]), rfl⟩
                exact OrS_kept (fun k hk => by show up2 I2 (pa + 4) n _ (pa + 1 + k) n = I2 (pa + 1 + k) n; rw [up2_up1, up1_ne (by omega)]) (hP _ _ _ hr)
            · refine wp_iconst (v := nI 0) (by decide) (ck_get kk_Pa_compile 38 rfl) ?_
              refine wp_ireturn (ck_get kk_Pa_compile 39 rfl) rfl rfl ⟨_, rfl, ?_⟩
              refine hno (fun j2 l2 sg2 => (true, j2, l2, s1 ++ sg2)) (pIf (tC bt L) (tV bt L) true f j lf1 (cl + s1.length)) (up2 I2 (pa + 4) n (if tC bt L j = 3 then nI (cl + s1.length) else -1)) x₂ M₂ ?_ ?_ hc73 ?_
              · exact hU.set (by omega) (by omega)
              · obtain ⟨j2, l2, sg2, F, G, cd2, hr2, q1, q2⟩ := hq₂.f hc73
                exact Or.inr ⟨j2, l2, sg2, hr2, hc73, F, G, cd2, q1, q2⟩
              · rw [hp0, hr, psq_y]
    · have ho2 : od = false := by cases od; rfl; exact absurd rfl ho
      subst ho2
      have hp0 : p1F (tC bt L) (tV bt L) false f i lf cl = psq (pLaw (tC bt L) (tV bt L) false f i lf cl) (fun j l n => pIf (tC bt L) (tV bt L) false f j l (cl + n)) := by
        rw [p1F, if_neg (by decide)]
      have hno : ∀ (k : Nat → Nat → List Int32 → PRes) (r0 : PRes) (I2 : Nat → Nat → Int32) (x : Int32) (M2 : Mem), EnU I1 I2 pa n → pOK (mk2 M I2 (mJ M)) pa L bt cl cd r0 x M2 → x = 0 → p1F (tC bt L) (tV bt L) false f i lf cl = pbd r0 k → cpQ M pa L bt false f (r + 1) n i lf cl cd I1 (nI 0) M2 := by
        intro k r0 I2 x M2 hU hq hx he
        have he2 : pcF (tC bt L) (tV bt L) false f (enT bt L) (r + 1) i lf cl = pbd r0 (fun _ _ _ => (false, 0, 0, [])) := by
          obtain ⟨j, l, sg, F, G, cd2, rfl, -, -⟩ := hq.f hx
          rw [pcF, he]; rfl
        refine ⟨I2, hU.cp, ?_, fun j lf2 sg hr => ?_⟩
        · rw [he2]; exact hq.no hx
        · obtain ⟨j2, l2, sg2, F, G, cd2, rfl, -, -⟩ := hq.f hx
          rw [he2] at hr
          exact (fls_tru hr).elim
      refine wp_iload rfl (ck_get kk_Pa_compile 20 rfl) ?_
      refine wp_bipush (v := nI 12) (by decide) (ck_get kk_Pa_compile 21 rfl) ?_
      first | refine wp_icmp_geN (t := 122) (ck_get kk_Pa_compile 22 rfl) (by decide) (by omega) (by omega) (fun hc39 => ?_) (fun hc39 => ?_) | refine wp_icmp_ge (t := 122) (ck_get kk_Pa_compile 22 rfl) (by decide) (fun hc39 => ?_) (fun hc39 => ?_)
      · omega
      · refine wp_iload_n rfl (ck_get kk_Pa_compile 23 rfl) ?_
        first | refine wp_if_eqN (t := 58) (ck_get kk_Pa_compile 24 rfl) (by decide) (by omega) (fun hc43 => ?_) (fun hc43 => ?_) | refine wp_if_eq (t := 58) (ck_get kk_Pa_compile 24 rfl) (by decide) (fun hc43 => ?_) (fun hc43 => ?_)
        · refine wp_aload_n rfl (ck_get kk_Pa_compile 30 rfl) ?_
          refine wp_iload rfl (ck_get kk_Pa_compile 31 rfl) ?_
          refine wp_cV1i (ck_get kk_Pa_compile 32 rfl) ml_Pa_85 (by omega) (Nat.le_of_ble_eq_true rfl) (by assumption) (Ci.to (c_lawHead hS hX1 hod1 hf (I1 := I1) EnU.refl (by omega) hi hlf hcl) ?_)
          rintro x₁ M₁ ⟨I2, hU, hq₁, hP⟩
          first | refine wp_if_eqN (t := 76) (ck_get kk_Pa_compile 33 rfl) (by decide) (by omega) (fun hc64 => ?_) (fun hc64 => ?_) | refine wp_if_eq (t := 76) (ck_get kk_Pa_compile 33 rfl) (by decide) (fun hc64 => ?_) (fun hc64 => ?_)
          · refine wp_iconst (v := nI 0) (by decide) (ck_get kk_Pa_compile 38 rfl) ?_
            refine wp_ireturn (ck_get kk_Pa_compile 39 rfl) rfl rfl ⟨_, rfl, ?_⟩
            exact hno _ _ I2 x₁ M₁ hU hq₁ hc64 hp0
          · obtain ⟨j, lf1, s1, cd1, hr, rfl, hE⟩ := hq₁.t hc64
            obtain ⟨u1, u2, u3, u4, u5⟩ := pLaw_ok L (fun i h => tC_N h) hr hlf
            have hI2 : CpU (mI M) I2 pa 0 := hI.trans hU.cp (by omega)
            have hX2 := hX.cp hI2
            refine wp_aload_n rfl (ck_get kk_Pa_compile 34 rfl) ?_
            refine wp_iload rfl (ck_get kk_Pa_compile 35 rfl) ?_
            refine wp_cV1i (ck_get kk_Pa_compile 36 rfl) ml_Pa_88 (by omega) (Nat.le_of_ble_eq_true rfl) (by assumption) (Ci.to (c_condition hS hX1 hod1 hf hU (by omega) u2 u3 (by omega)) ?_)
            rintro x₂ M₂ hq₂
            first | refine wp_if_neN (t := 78) (ck_get kk_Pa_compile 37 rfl) (by decide) (by omega) (fun hc73 => ?_) (fun hc73 => ?_) | refine wp_if_ne (t := 78) (ck_get kk_Pa_compile 37 rfl) (by decide) (fun hc73 => ?_) (fun hc73 => ?_)
            · obtain ⟨j2, lf2, s2, cd2, hr2, rfl, hE2⟩ := hq₂.t hc73
              obtain ⟨v1, v2, v3, v4, v5, v6⟩ := ClS_ok L (fun i h => tC_N h) hr2 u2 u3
              have e2 : cl + (s1 ++ s2).length = cl + s1.length + s2.length := by rw [List.length_append]; omega
              rw [← e2]
              refine l_cp78 hS hX (hI2.trans (EnU.cp (EnU.refl.set (n := n) (by omega) (by omega))) (by omega)) (hU.set (by omega) (by omega)) (by omega) hn ?_ ?_ (hE.app rfl hE2) (by omega) v2 v3 (by omega) ih1
              · rw [hp0, hr, psq_y, hr2, pbd_y]
              · unfold ClS
                rw [if_neg (by decide)]
                have hc := v6 (fun k => up2 I2 (pa + 4) n (if tC bt L j = 3 then nI (cl + s1.length) else -1) (pa + 1 + k) n) (by simp [up2])
                have ek : ∀ k, k ≠ 3 → up2 I2 (pa + 4) n (if tC bt L j = 3 then nI (cl + s1.length) else -1) (pa + 1 + k) n = I2 (pa + 1 + k) n := fun k hk => by rw [up2_up1, up1_ne (by omega)]
                rcases hP _ _ _ hr with ⟨a1, a2, rfl, rfl, rfl⟩ | ⟨a1, a2, a3, s3, a4, rfl⟩
                · exact Or.inl ⟨a1, (ek 1 (by omega)).trans a2, hc⟩
                · refine Or.inr ⟨a1, (ek 1 (by omega)).trans a2, (ek 4 (by omega)).trans a3, j, lf1, s3, s2, a4, ?_, rfl⟩
                  rw [len_app2, ← Nat.add_assoc] at hc ⊢
                  exact hc
            · refine wp_iconst (v := nI 0) (by decide) (ck_get kk_Pa_compile 38 rfl) ?_
              refine wp_ireturn (ck_get kk_Pa_compile 39 rfl) rfl rfl ⟨_, rfl, ?_⟩
              refine hno (fun j2 l2 sg2 => (true, j2, l2, s1 ++ sg2)) (pIf (tC bt L) (tV bt L) false f j lf1 (cl + s1.length)) (up2 I2 (pa + 4) n (if tC bt L j = 3 then nI (cl + s1.length) else -1)) x₂ M₂ ?_ ?_ hc73 ?_
              · exact hU.set (by omega) (by omega)
              · obtain ⟨j2, l2, sg2, F, G, cd2, hr2, q1, q2⟩ := hq₂.f hc73
                exact Or.inr ⟨j2, l2, sg2, hr2, hc73, F, G, cd2, q1, q2⟩
              · rw [hp0, hr, psq_y]
        · omega
/-- a text compiled: the program's rows and code, or the fault -/
theorem c_compile (hS : OutOK g) (hP : PaA0 (mT M) (mR M) pa tp) (hL : L ≤ 400) (hbt : ∀ j, j < 400 → mI M tp j = nI (bt j)) (hb2 : ∀ j, bt j < 256) (hf : 12 * L + 6 ≤ f) : Ci g Y_Pa_compile 220 [.ref pa, .ref tp, .int (nI L), .int (bI od)] M (fun x M2 => ∃ I2, M2 = (M.1, M.2.1, I2, M.2.2.2.1, up2 (mR M) pa 2 (some tp)) ∧ (∀ x, x < pa ∨ pa + 9 ≤ x → I2 x = mI M x) ∧
    ((x = nI 1 ∧ ∃ j lf sg nc, pcF (tC bt L) (tV bt L) od f (enT bt L) 12 0 0 0 = (true, j, lf, sg) ∧ I2 pa 1 = -1 ∧ I2 (pa + 1) 0 = nI nc ∧ nc ≤ 12 ∧ I2 (pa + 1) 8 = nI sg.length ∧ (∀ q, q < sg.length → I2 (pa + 8) q = sg.getD q 0) ∧ ChS (tC bt L) (tV bt L) od f (enT bt L) (fun m k => I2 (pa + 1 + k) m) nc 12 0 0 0 0 sg) ∨
    (x = nI 0 ∧ ∃ j lf sg, pcF (tC bt L) (tV bt L) od f (enT bt L) 12 0 0 0 = (false, j, lf, sg) ∧ I2 pa 1 = nI (tS bt L j)))) := by
  have hX := TxOK.begin hP hL hbt hb2
  have hP0 := hP
  obtain ⟨t0, r0, hPr, t2, htp⟩ := hP
  have p0 := hPr.1
  have r0' : up2 (mR M) pa 2 (some tp) pa 0 = some (pa + 1) := hX.1.2.1
  refine cw_entry 1 pf_Pa_compile rfl ?_
  refine wp_aload_n rfl (ck_get kk_Pa_compile 0 rfl) ?_
  refine wp_aload_n rfl (ck_get kk_Pa_compile 1 rfl) ?_
  refine wp_iload_n rfl (ck_get kk_Pa_compile 2 rfl) ?_
  refine wp_cV2v (ck_get kk_Pa_compile 3 rfl) ml_Pa_50 (by omega) (Nat.le_of_ble_eq_true rfl) (by assumption) (Cv.to (c_begin hP0 hL hbt hb2) ?_)
  rintro M₁ ⟨lf, cl, cd, rfl⟩
  refine wp_aload_n rfl (ck_get kk_Pa_compile 4 rfl) ?_
  refine wp_iload_n rfl (ck_get kk_Pa_compile 5 rfl) ?_
  refine wp_putI (ck_get kk_Pa_compile 6 rfl) fl_Pa_31 (by decide +kernel) (by assumption) (by cases od; exact okI_b0; exact okI_b1) ?_
  rw [show sI (cTk (bgM M pa tp L) pa L bt (tS bt L 0) lf cl cd) pa 4 (bI od) = cTk (sI (bgM M pa tp L) pa 4 (bI od)) pa L bt (tS bt L 0) lf cl cd from cS_p4]
  refine wp_aload_n rfl (ck_get kk_Pa_compile 7 rfl) ?_
  refine wp_iconst (v := nI 0) (by decide) (ck_get kk_Pa_compile 8 rfl) ?_
  refine wp_putI (ck_get kk_Pa_compile 9 rfl) fl_Pa_35 (by decide +kernel) (by assumption) (okI_int _) ?_
  rw [cS_w5]
  refine wp_aload_n rfl (ck_get kk_Pa_compile 10 rfl) ?_
  refine wp_getR (ck_get kk_Pa_compile 11 rfl) fl_Pa_14 (by assumption) (by assumption) ?_
  refine wp_iconst (v := nI 0) (by decide) (ck_get kk_Pa_compile 12 rfl) ?_
  refine wp_putI (ck_get kk_Pa_compile 13 rfl) fl_Pa_75 (by decide +kernel) (by assumption) (okI_int _) ?_
  rw [cS_c0 (by omega)]
  refine wp_aload_n rfl (ck_get kk_Pa_compile 14 rfl) ?_
  refine wp_getR (ck_get kk_Pa_compile 15 rfl) fl_Pa_14 (by assumption) (by assumption) ?_
  refine wp_iconst (v := nI 0) (by decide) (ck_get kk_Pa_compile 16 rfl) ?_
  refine wp_putI (ck_get kk_Pa_compile 17 rfl) fl_Pa_78 (by decide +kernel) (by assumption) (okI_int _) ?_
  rw [cS_wl]
  refine wp_iconst (v := nI 0) (by decide) (ck_get kk_Pa_compile 18 rfl) ?_
  refine wp_istore (ck_get kk_Pa_compile 19 rfl) (by decide) rfl ?_
  have hX2 : TxOK (sI (bgM M pa tp L) pa 4 (bI od)) pa tp L bt := hX.p4
  have hod : mI (sI (bgM M pa tp L) pa 4 (bI od)) pa 4 = bI od := by
    show up2 _ pa 4 (bI od) pa 4 = bI od
    unfold up2; rw [if_pos ⟨rfl, rfl⟩]
  refine Wp.mono (l_comp hS hX2 hod hf 12 0 rfl (up2 (mI (sI (bgM M pa tp L) pa 4 (bI od))) (pa + 1) 0 (nI 0)) 0 0 0 cd CpU.cl (by omega) (by omega) (by omega)) ?_
  rintro q M₂ ⟨x, rfl, I2, a1, a2, a3⟩
  refine ⟨x, rfl, ?_⟩
  have a0 : CpU (mI (sI (bgM M pa tp L) pa 4 (bI od))) I2 pa 0 := (CpU.cl (n := 0)).trans a1 (by omega)
  have hout : ∀ x, x < pa ∨ pa + 9 ≤ x → I2 x = mI M x := by
    intro x hx
    rw [a0.1 x (by omega)]
    show up2 (up1 (mI M) pa _) pa 4 (bI od) x = mI M x
    rw [up2_up1, up1_ne (by omega), up1_ne (by omega)]
  have hpa1 : I2 pa 1 = -1 := by
    rw [a0.1 pa (by omega)]
    show up2 (up1 (mI M) pa _) pa 4 (bI od) pa 1 = -1
    unfold up2
    rw [if_neg (by omega), up1_eq, up1_eq]
  rcases a2 with ⟨j, lf2, sg, hr, rfl, cd2, rfl, hE⟩ | ⟨j, lf2, sg, hr, rfl, F, G, cd2, hF, rfl⟩
  · obtain ⟨nc, b1, b2, b3⟩ := a3 _ _ _ hr
    refine ⟨up1 (up1 (up1 I2 pa (paF (I2 pa) lf2 (kOf bt L (tS bt L j)) (tS bt L j) (eOf bt L (tS bt L j)) (vOf bt L (tS bt L j)))) (pa + 1) (up1 (I2 (pa + 1)) 8 (nI (0 + sg.length)))) (pa + 8) cd2, rfl, ?_, Or.inl ⟨rfl, j, lf2, sg, nc, hr, ?_, ?_, by omega, ?_, ?_, ?_⟩⟩
    · intro x hx
      rw [up1_ne (by omega), up1_ne (by omega), up1_ne (by omega)]; exact hout x hx
    · rw [up1_ne (by omega), up1_ne (by omega), up1_eq]; exact hpa1
    · rw [up1_ne (by omega), up1_eq, up1_ne (by omega)]; exact b2
    · rw [up1_ne (by omega), up1_eq, up1_eq, Nat.zero_add]
    · intro q hq
      rw [up1_eq]
      have := hE.2 q hq
      rw [Nat.zero_add] at this
      exact this
    · refine ChS_kept6 (fun m k hk => ?_) b3
      show up1 (up1 (up1 I2 pa _) (pa + 1) _) (pa + 8) cd2 (pa + 1 + k) m = I2 (pa + 1 + k) m
      rw [up1_ne (by omega), up1_ne (by omega), up1_ne (by omega)]
  · refine ⟨up1 (up1 (up1 I2 pa F) (pa + 1) G) (pa + 8) cd2, rfl, ?_, Or.inr ⟨rfl, j, lf2, sg, hr, ?_⟩⟩
    · intro x hx
      rw [up1_ne (by omega), up1_ne (by omega), up1_ne (by omega)]; exact hout x hx
    · rw [up1_ne (by omega), up1_ne (by omega), up1_eq]; exact hF
end PI

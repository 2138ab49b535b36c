/-! ===== the model reads a whole text ===== -/
section MWT
variable {g : Gl} {M : Mem} {o N L : Nat} {bt : Nat → Nat} {od : Bool} {f : Nat}
theorem tC_400 {i : Nat} (hb : ∀ j, bt j < 256) : tC bt L i < 400 := by
  unfold tC tcS
  have h1 := hb (tS bt L i)
  have h2 := wnum_le bt (tS bt L i) (eOf bt L (tS bt L i))
  by_cases h3 : tS bt L i < L
  · rw [if_pos h3]
    by_cases h4 : kdN (bt (tS bt L i)) = 1
    · rw [if_pos h4]; omega
    rw [if_neg h4]
    by_cases h5 : kdN (bt (tS bt L i)) = 2
    · rw [if_pos h5]; omega
    rw [if_neg h5]; omega
  · rw [if_neg h3]; omega
theorem spM_s {n : Nat} {C V P : Nat → Int32} {k : Nat} {v : Int32} (hk : k ≠ 21) : sI (spM M o n C V P) o k v = spM (sI M o k v) o n C V P := by
  refine congrArg (fun I => mk2 M I (mJ M)) ?_
  show up2 (up1 (up1 (up1 (up1 (mI M) o (up1 (mI M o) 21 (nI n))) (o + 12) C) (o + 13) V) (o + 14) P) o k v = up1 (up1 (up1 (up1 (up2 (mI M) o k v) o (up1 (up2 (mI M) o k v o) 21 (nI n))) (o + 12) C) (o + 13) V) (o + 14) P
  rw [up2_up1, up2_up1, up1_ne (by omega), up1_ne (by omega), up1_ne (by omega), up1_eq, up1_eq, up1_comm _ (by omega : o + 14 ≠ o), up1_comm _ (by omega : o + 13 ≠ o), up1_comm _ (by omega : o + 12 ≠ o), up1_up1, up1_up1, up1_comm _ hk.symm]
theorem rd_ent {i lf : Nat} {b : Int32} : sI (sI (sI M o 22 (nI i)) o 23 (nI lf)) o 24 b = rdM M o i lf b := by
  refine congrArg (fun I => mk2 M I (mJ M)) ?_
  show up2 (up2 (up2 (mI M) o 22 (nI i)) o 23 (nI lf)) o 24 b = _
  rw [up2_up1, up2_up1, up2_up1, up1_up1, up1_up1, up1_eq, up1_eq]
/-- the memory behind the tokens: no text any more -/
abbrev tkM (M : Mem) (o N : Nat) (C V P : Nat → Int32) : Mem := spM (sI M o 16 (nI 0)) o N C V P
theorem tk_ok {C V P : Nat → Int32} (hM : MoAt (mT M) (mR M) o) (hX : MtOK M o bt) (hL : L ≤ 400) (hN : N ≤ 400) (hT : ∀ i, i ≤ N → LxT bt L C V P i) (hS : ∀ i, i < N ↔ tS bt L i < L) (h13 : mI M o 13 = bI od) (h11 : mI M o 11 = nI (if od = true then 12 else 7)) (h12 : mI M o 12 = nI (if od = true then 16 else 12)) : TkOK (tkM M o N C V P) o N (tC bt L) (tV bt L) (tS bt L) od := by
  have e : ∀ k, k ≠ 16 → mI (sI M o 16 (nI 0)) o k = mI M o k := fun k hk => by
    show up2 (mI M) o 16 (nI 0) o k = _
    unfold up2; rw [if_neg (by omega)]
  refine ⟨hM, hN, fun i hi => (hS i).mpr (tC_lt hi), fun i => tC_400 hX.2.1, fun i => ?_, fun i hi => ?_, ?_, ?_, ?_⟩
  · have := tS_le (bt := bt) (L := L) i; omega
  · obtain ⟨a, b, c⟩ := hT i hi
    refine ⟨?_, ?_, ?_⟩
    · rw [spM_C]; exact a
    · rw [spM_V]; exact b
    · rw [spM_P]; exact c
  · rw [spM_f (by omega), e 13 (by omega)]; exact h13
  · rw [spM_f (by omega), e 11 (by omega)]; exact h11
  · rw [spM_f (by omega), e 12 (by omega)]; exact h12
theorem en_ok (hS : ∀ i, i < N ↔ tS bt L i < L) : ∀ j, enT bt L j = true ↔ ¬ j < N := by
  intro j
  rw [decide_eq_true_eq, hS]
  unfold kOf
  by_cases h : tS bt L j < L
  · rw [if_pos h]
    have := kdN_le (bt (tS bt L j))
    omega
  · rw [if_neg h]
    exact ⟨fun _ => h, fun _ => rfl⟩
theorem tS_leL (hS : ∀ i, i < N ↔ tS bt L i < L) : N ≤ L := by
  by_cases h : N ≤ L
  · exact h
  · have h1 : L < N := by omega
    have h2 := (hS L).mp h1
    have h3 := tS_ge h2
    omega
theorem m_reads (hM : MoAt (mT M) (mR M) o) (hX : MtOK M o bt) (h16 : mI M o 16 = nI L) (hL : L ≤ 400) (h13 : mI M o 13 = bI od) (h11 : mI M o 11 = nI (if od = true then 12 else 7)) (h12 : mI M o 12 = nI (if od = true then 16 else 12)) (hf : 12 * L + 6 ≤ f) : Ci g Y_Mo_reads 230 [.ref o] M (fun x M2 => ∃ N C V P, N ≤ 400 ∧ (∀ i, i ≤ N → LxT bt L C V P i) ∧ (∀ i, i < N ↔ tS bt L i < L) ∧ rdF (tkM M o N C V P) o (tS bt L) (pcF (tC bt L) (tV bt L) od f (enT bt L) 12 0 0 0) x M2) := by
  have hM0 := hM
  have to0 := hM.1
  refine cw_entry 1 pf_Mo_reads rfl ?_
  refine wp_aload_n rfl (ck_get kk_Mo_reads 0 rfl) ?_
  refine wp_aload_n rfl (ck_get kk_Mo_reads 1 rfl) ?_
  refine wp_getIv (v := nI L) (ck_get kk_Mo_reads 2 rfl) fl_Mo_179 (by assumption) (h16) ?_
  refine wp_cV1v (ck_get kk_Mo_reads 3 rfl) ml_Mo_272 (by omega) (Nat.le_of_ble_eq_true rfl) (by assumption) (Cv.to (m_splits hM0 hX hL) ?_)
  rintro M₁ ⟨N, C, V, P, rfl, hN, hT, hS⟩
  refine wp_aload_n rfl (ck_get kk_Mo_reads 4 rfl) ?_
  refine wp_iconst (v := nI 0) (by decide) (ck_get kk_Mo_reads 5 rfl) ?_
  refine wp_putI (ck_get kk_Mo_reads 6 rfl) fl_Mo_179 (by decide +kernel) (by assumption) (okI_int _) ?_
  rw [spM_s (by omega)]
  refine wp_aload_n rfl (ck_get kk_Mo_reads 7 rfl) ?_
  refine wp_iconst (v := nI 0) (by decide) (ck_get kk_Mo_reads 8 rfl) ?_
  refine wp_putI (ck_get kk_Mo_reads 9 rfl) fl_Mo_208 (by decide +kernel) (by assumption) (okI_int _) ?_
  refine wp_aload_n rfl (ck_get kk_Mo_reads 10 rfl) ?_
  refine wp_iconst (v := nI 0) (by decide) (ck_get kk_Mo_reads 11 rfl) ?_
  refine wp_putI (ck_get kk_Mo_reads 12 rfl) fl_Mo_217 (by decide +kernel) (by assumption) (okI_int _) ?_
  refine wp_aload_n rfl (ck_get kk_Mo_reads 13 rfl) ?_
  refine wp_iconst (v := (-1)) (by decide) (ck_get kk_Mo_reads 14 rfl) ?_
  refine wp_putI (ck_get kk_Mo_reads 15 rfl) fl_Mo_201 (by decide +kernel) (by assumption) (okI_int _) ?_
  rw [rd_ent]
  have hTk := tk_ok hM0 hX hL hN hT hS h13 h11 h12
  have hNL := tS_leL hS
  have h21 : mI (tkM M o N C V P) o 21 = nI N := spM_n
  have ho := mc_one (g := g) (i := 0) (lf := 0) (cl := 0) hTk (show 12 * N + 6 ≤ f by omega) (by omega) (by omega)
  have hR : ∀ r, pcF (tC bt L) (tV bt L) od f (enT bt L) 12 0 0 0 = r → Wp g Y_Mo_reads 230 28 [some (.ref o), none] [] (rdM (tkM M o N C V P) o 0 0 (-1)) (fun q M2 => ∃ x, q = some (.int x) ∧ rdF (tkM M o N C V P) o (tS bt L) r x M2) := by
    intro r hr
    refine wp_aload_n rfl (ck_get kk_Mo_reads 16 rfl) ?_
    refine wp_cV0v (ck_get kk_Mo_reads 17 rfl) ml_Mo_275 (by omega) (Nat.le_of_ble_eq_true rfl) (by assumption) (Cv.to (ho) ?_)
    rintro M₁ hq₁
    refine wp_iconst (v := nI 1) (by decide) (ck_get kk_Mo_reads 18 rfl) ?_
    refine wp_istore_n (ck_get kk_Mo_reads 19 rfl) (by decide) rfl ?_
    rw [pcF] at hr
    subst hr
    rcases hq₁ with ⟨j, l, s, hr, rfl⟩ | ⟨j, l, s, i2, lf3, hr, rfl⟩
    · obtain ⟨g1, g2, g3⟩ := p1F_ok (N := N) hTk.2.2.1 hr (by omega) (by omega)
      rw [hr, psq_y]
      refine Wp.mono (mc_34 hTk h21 (en_ok hS) (show 12 * N + 6 ≤ f by omega) 11 1 j l (0 + s.length) (by omega) g2 g3) ?_
      rintro q M₂ ⟨x, rfl, hq⟩
      exact ⟨x, rfl, hq.pb⟩
    · exact mc_badF hTk (by rw [hr]; rfl)
  refine Wp.mono (hR _ rfl) ?_
  rintro q M₂ ⟨x, rfl, hq⟩
  exact ⟨x, rfl, N, C, V, P, hN, hT, hS, hq⟩
/-- the memory while a text of one language is read -/
abbrev asM (M : Mem) (o : Nat) (od : Bool) : Mem := sI (sI (sI M o 13 (bI od)) o 11 (nI (if od = true then 12 else 7))) o 12 (nI (if od = true then 16 else 12))
theorem asM_a {x : Nat} (h : x ≠ o) : mI (asM M o od) x = mI M x := by
  show up2 (up2 (up2 (mI M) o 13 _) o 11 _) o 12 _ x = mI M x
  rw [up2_up1, up1_ne h, up2_up1, up1_ne h, up2_up1, up1_ne h]
theorem asM_f {k : Nat} (h : k ≠ 11) (h1 : k ≠ 12) (h2 : k ≠ 13) : mI (asM M o od) o k = mI M o k := by
  show up2 (up2 (up2 (mI M) o 13 _) o 11 _) o 12 _ o k = mI M o k
  simp only [up2]
  rw [if_neg (by omega), if_neg (by omega), if_neg (by omega)]
theorem m_readsAs (hM : MoAt (mT M) (mR M) o) (hX : MtOK M o bt) (h16 : mI M o 16 = nI L) (hL : L ≤ 400) (hf : 12 * L + 6 ≤ f) : Ci g Y_Mo_readsAs 231 [.ref o, .int (bI od)] M (fun x M2 => ∃ N C V P, N ≤ 400 ∧ (∀ i, i ≤ N → LxT bt L C V P i) ∧ (∀ i, i < N ↔ tS bt L i < L) ∧ rdF (tkM (asM M o od) o N C V P) o (tS bt L) (pcF (tC bt L) (tV bt L) od f (enT bt L) 12 0 0 0) x M2) := by
  have hM0 := hM
  have to0 := hM.1
  have hX2 : MtOK (asM M o od) o bt := ⟨fun j hj => by rw [asM_a (by omega)]; exact hX.1 j hj, hX.2.1, fun j hj => by rw [asM_a (by omega)]; exact hX.2.2 j hj⟩
  have h162 : mI (asM M o od) o 16 = nI L := by rw [asM_f (by omega) (by omega) (by omega)]; exact h16
  have h13 : mI (asM M o od) o 13 = bI od := by
    show up2 (up2 (up2 (mI M) o 13 _) o 11 _) o 12 _ o 13 = _
    simp [up2]
  have h11 : mI (asM M o od) o 11 = nI (if od = true then 12 else 7) := by
    show up2 (up2 (up2 (mI M) o 13 _) o 11 _) o 12 _ o 11 = _
    simp [up2]
  have h12 : mI (asM M o od) o 12 = nI (if od = true then 16 else 12) := by
    show up2 (up2 (up2 (mI M) o 13 _) o 11 _) o 12 _ o 12 = _
    simp [up2]
  have hR := m_reads (g := g) (M := asM M o od) hM0 hX2 h162 hL h13 h11 h12 hf
  refine cw_entry 0 pf_Mo_readsAs rfl ?_
  cases od with
  | true =>
    refine wp_aload_n rfl (ck_get kk_Mo_readsAs 0 rfl) ?_
    refine wp_iload_n rfl (ck_get kk_Mo_readsAs 1 rfl) ?_
    refine wp_putI (ck_get kk_Mo_readsAs 2 rfl) fl_Mo_237 (by decide +kernel) (by assumption) (by first | exact okI_b0 | exact okI_b1) ?_
    refine wp_aload_n rfl (ck_get kk_Mo_readsAs 3 rfl) ?_
    refine wp_iload_n rfl (ck_get kk_Mo_readsAs 4 rfl) ?_
    first | refine wp_if_eqN (t := 15) (ck_get kk_Mo_readsAs 5 rfl) (by decide) (by omega) (fun hc7 => ?_) (fun hc7 => ?_) | refine wp_if_eq (t := 15) (ck_get kk_Mo_readsAs 5 rfl) (by decide) (fun hc7 => ?_) (fun hc7 => ?_)
    · omega
    · refine wp_bipush (v := nI 12) (by decide) (ck_get kk_Mo_readsAs 6 rfl) ?_
      refine wp_goto (t := 17) (ck_get kk_Mo_readsAs 7 rfl) (by decide) ?_
      refine wp_putI (ck_get kk_Mo_readsAs 9 rfl) fl_Mo_263 (by decide +kernel) (by assumption) (okI_int _) ?_
      refine wp_aload_n rfl (ck_get kk_Mo_readsAs 10 rfl) ?_
      refine wp_iload_n rfl (ck_get kk_Mo_readsAs 11 rfl) ?_
      first | refine wp_if_eqN (t := 30) (ck_get kk_Mo_readsAs 12 rfl) (by decide) (by omega) (fun hc22 => ?_) (fun hc22 => ?_) | refine wp_if_eq (t := 30) (ck_get kk_Mo_readsAs 12 rfl) (by decide) (fun hc22 => ?_) (fun hc22 => ?_)
      · omega
      · refine wp_bipush (v := nI 16) (by decide) (ck_get kk_Mo_readsAs 13 rfl) ?_
        refine wp_goto (t := 32) (ck_get kk_Mo_readsAs 14 rfl) (by decide) ?_
        refine wp_putI (ck_get kk_Mo_readsAs 16 rfl) fl_Mo_266 (by decide +kernel) (by assumption) (okI_int _) ?_
        refine wp_aload_n rfl (ck_get kk_Mo_readsAs 17 rfl) ?_
        refine wp_cV0i (ck_get kk_Mo_readsAs 18 rfl) ml_Mo_278 (by omega) (Nat.le_of_ble_eq_true rfl) (by assumption) (Ci.to (hR) ?_)
        rintro x₁ M₁ ⟨N, C, V, P, hN, hT, hS, hq⟩
        refine wp_ireturn (ck_get kk_Mo_readsAs 19 rfl) rfl (by rcases hq with ⟨_, _, _, _, h, _⟩ | ⟨_, _, _, _, _, _, h, _⟩ <;> rw [h] <;> rfl) ⟨_, rfl, ?_⟩
        exact ⟨N, C, V, P, hN, hT, hS, hq⟩
  | false =>
    refine wp_aload_n rfl (ck_get kk_Mo_readsAs 0 rfl) ?_
    refine wp_iload_n rfl (ck_get kk_Mo_readsAs 1 rfl) ?_
    refine wp_putI (ck_get kk_Mo_readsAs 2 rfl) fl_Mo_237 (by decide +kernel) (by assumption) (by first | exact okI_b0 | exact okI_b1) ?_
    refine wp_aload_n rfl (ck_get kk_Mo_readsAs 3 rfl) ?_
    refine wp_iload_n rfl (ck_get kk_Mo_readsAs 4 rfl) ?_
    first | refine wp_if_eqN (t := 15) (ck_get kk_Mo_readsAs 5 rfl) (by decide) (by omega) (fun hc7 => ?_) (fun hc7 => ?_) | refine wp_if_eq (t := 15) (ck_get kk_Mo_readsAs 5 rfl) (by decide) (fun hc7 => ?_) (fun hc7 => ?_)
    · refine wp_bipush (v := nI 7) (by decide) (ck_get kk_Mo_readsAs 8 rfl) ?_
      refine wp_putI (ck_get kk_Mo_readsAs 9 rfl) fl_Mo_263 (by decide +kernel) (by assumption) (okI_int _) ?_
      refine wp_aload_n rfl (ck_get kk_Mo_readsAs 10 rfl) ?_
      refine wp_iload_n rfl (ck_get kk_Mo_readsAs 11 rfl) ?_
      first | refine wp_if_eqN (t := 30) (ck_get kk_Mo_readsAs 12 rfl) (by decide) (by omega) (fun hc22 => ?_) (fun hc22 => ?_) | refine wp_if_eq (t := 30) (ck_get kk_Mo_readsAs 12 rfl) (by decide) (fun hc22 => ?_) (fun hc22 => ?_)
      · refine wp_bipush (v := nI 12) (by decide) (ck_get kk_Mo_readsAs 15 rfl) ?_
        refine wp_putI (ck_get kk_Mo_readsAs 16 rfl) fl_Mo_266 (by decide +kernel) (by assumption) (okI_int _) ?_
        refine wp_aload_n rfl (ck_get kk_Mo_readsAs 17 rfl) ?_
        refine wp_cV0i (ck_get kk_Mo_readsAs 18 rfl) ml_Mo_278 (by omega) (Nat.le_of_ble_eq_true rfl) (by assumption) (Ci.to (hR) ?_)
        rintro x₁ M₁ ⟨N, C, V, P, hN, hT, hS, hq⟩
        refine wp_ireturn (ck_get kk_Mo_readsAs 19 rfl) rfl (by rcases hq with ⟨_, _, _, _, h, _⟩ | ⟨_, _, _, _, _, _, h, _⟩ <;> rw [h] <;> rfl) ⟨_, rfl, ?_⟩
        exact ⟨N, C, V, P, hN, hT, hS, hq⟩
      · omega
    · omega
end MWT

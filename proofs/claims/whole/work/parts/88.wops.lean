/-! ===== worlds: time, drops, samples emptied, copies ===== -/
def smN (f : Nat → Nat) : Nat → Nat
  | 0 => 0
  | n + 1 => smN f n + f n
theorem smN_congr {f f2 : Nat → Nat} : ∀ {n : Nat}, (∀ i, i < n → f i = f2 i) → smN f n = smN f2 n
  | 0, _ => rfl
  | n + 1, h => by
    show smN f n + f n = smN f2 n + f2 n
    rw [smN_congr (fun i hi => h i (by omega)), h n (by omega)]
theorem smN_le {f f2 : Nat → Nat} : ∀ {n : Nat}, (∀ i, i < n → f i ≤ f2 i) → smN f n ≤ smN f2 n
  | 0, _ => Nat.le_refl _
  | n + 1, h => Nat.add_le_add (smN_le (fun i hi => h i (by omega))) (h n (by omega))
theorem smN_at {f : Nat → Nat} : ∀ {n i : Nat}, i < n → f i ≤ smN f n
  | n + 1, i, h => by
    show f i ≤ smN f n + f n
    by_cases hi : i = n
    · subst hi; omega
    · have := smN_at (f := f) (n := n) (i := i) (by omega); omega
theorem smN_up {f : Nat → Nat} {p v : Nat} : ∀ {n : Nat}, smN (up1 f p (f p + v)) n ≤ smN f n + v
  | 0 => Nat.zero_le _
  | n + 1 => by
    show smN (up1 f p (f p + v)) n + up1 f p (f p + v) n ≤ smN f n + f n + v
    by_cases hp : n = p
    · subst hp
      rw [up1_eq, smN_congr (f := up1 f n (f n + v)) (f2 := f) (fun i hi => up1_ne (by omega))]; omega
    · rw [up1_ne hp]
      have := smN_up (f := f) (p := p) (v := v) (n := n); omega
theorem sumI_nI {f : Nat → Int32} {q : Nat → Nat} {lo : Nat} : ∀ {n : Nat}, (∀ i, i < n → f (lo + i) = nI (q i)) → sumI f lo n = nI (smN q n)
  | 0, _ => rfl
  | n + 1, h => by
    show sumI f lo n + f (lo + n) = nI (smN q n + q n)
    rw [sumI_nI (fun i hi => h i (by omega)), h n (by omega), nI_add]
/-- all costs together -/
def tot (ws : WS) : Nat := smN (fun t => smN (tCo (ws.2 t)) 25) 4
def hvW (ws : WS) : WS := (ws.1 + 1, fun t => hvT (ws.2 t))
def emW (ws : WS) : WS := (ws.1, fun t => emT (ws.2 t))
theorem tot_at {ws : WS} {t i : Nat} (ht : t < 4) (hi : i < 25) : tCo (ws.2 t) i ≤ tot ws := Nat.le_trans (smN_at hi) (smN_at (f := fun t => smN (tCo (ws.2 t)) 25) ht)
theorem tot_hv {ws : WS} : tot (hvW ws) ≤ tot ws := smN_le (fun t _ => smN_le (fun i _ => Nat.div_le_self _ _))
theorem tot_set {ws : WS} {t c : Nat} {s : TS} (h : smN (tCo s) 25 ≤ smN (tCo (ws.2 t)) 25 + c) : tot (setT ws t s) ≤ tot ws + c := by
  have e : ∀ n, smN (fun u => smN (tCo ((setT ws t s).2 u)) 25) n ≤ smN (up1 (fun u => smN (tCo (ws.2 u)) 25) t (smN (tCo (ws.2 t)) 25 + c)) n := fun n => smN_le (fun u _ => by
    show smN (tCo (if u = t then s else ws.2 u)) 25 ≤ up1 (fun u => smN (tCo (ws.2 u)) 25) t (smN (tCo (ws.2 t)) 25 + c) u
    by_cases hu : u = t
    · subst hu; rw [if_pos rfl, up1_eq]; exact h
    · rw [if_neg hu, up1_ne hu]; exact Nat.le_refl _)
  exact Nat.le_trans (e 4) smN_up
theorem tot_rd {ws : WS} {t k c salt : Nat} {br : Bool} : tot (rdW ws t k c salt br) ≤ tot ws + c := by
  unfold rdW
  refine tot_set ?_
  cases br with
  | true => rw [if_pos rfl]; exact smN_up
  | false =>
    rw [if_neg (by decide)]
    have e : tCo (rdT (ws.2 t) k c salt) = cos1 (tCo (ws.2 t)) (posL (tSt (ws.2 t)) k) c := by
      unfold rdT samT
      by_cases hh : hsh k salt < tLi (topT (ws.2 t) k c)
      · rw [if_pos hh]; rfl
      · rw [if_neg hh]; rfl
    rw [e]
    exact smN_up
theorem tot_dr {ws : WS} {t k : Nat} : tot (setT ws t (drT (ws.2 t) k)) ≤ tot ws := by
  have e : tCo (drT (ws.2 t) k) = tCo (ws.2 t) := by
    unfold drT
    by_cases h0 : posL (tSt (ws.2 t)) k = 0
    · rw [if_pos h0]
    · rw [if_neg h0]
  have := tot_set (ws := ws) (t := t) (c := 0) (s := drT (ws.2 t) k) (by rw [e]; omega)
  omega
theorem WOK.hv {ws : WS} (h : WOK ws) (ht : ws.1 < 999) : WOK (hvW ws) := ⟨by show ws.1 + 1 ≤ 999; omega, fun t q => h.2 t q⟩
theorem WOK.em {ws : WS} (h : WOK ws) : WOK (emW ws) := ⟨h.1, fun t q => (h.2 t q).em⟩
theorem WOK.rd {ws : WS} {t k c salt : Nat} {br : Bool} (h : WOK ws) (ht : t < 4) (hk : k < 1000) : WOK (rdW ws t k c salt br) := by
  refine h.set ?_
  cases br with
  | true => rw [if_pos rfl]; exact h.2 t ht
  | false => rw [if_neg (by decide)]; exact (h.2 t ht).rd hk
theorem nI_half {c : Nat} (h : c < 2147483648) : nI c / 2 = nI (c / 2) := pk_div (d := 2) h (by omega) (by omega)
section WOP
variable {g : Gl} {M : Mem} {o : Nat} {K A F : Nat → Int32} {P : Nat → Int64}
theorem m_timeT {ws : WS} (hM : MoAt (mT M) (mR M) o) (hs : MwHas K P 0 0 ws) (hT : WOK ws) (hB : tot ws < 2147483648) : Ci g Y_Mo_timePasses 1 [.ref o] (wkM M o K P A F) (fun x M2 => x = nI (tot (hvW ws)) ∧ ∃ K2 P2, M2 = wkM M o K2 P2 A F ∧ MwHas K2 P2 0 0 (hvW ws) ∧ ∀ x, 369 ≤ x → K2 x = K x) := by
  refine (m_timePasses (g := g) (M := wkM M o K P A F) hM).to (fun x M2 ⟨e1, e2⟩ => ?_)
  rw [wk_2] at e1
  have hc : ∀ t i, t < 4 → i < 25 → K (92 * t + 25 + i) / 2 = nI (tCo (ws.2 t) i / 2) := by
    intro t i ht hi
    rw [(hs.t (b := 0) (pb := 0) ht).2.1 i hi]
    exact nI_half (Nat.lt_of_le_of_lt (tot_at ht hi) hB)
  have hx : tpS K 4 = nI (tot (hvW ws)) := by
    have h1 : ∀ n, n ≤ 4 → tpS K n = nI (smN (fun t => smN (tCo ((hvW ws).2 t)) 25) n) := by
      intro n
      induction n with
      | zero => intro _; rfl
      | succ n ih =>
        intro hn
        show tpS K n + sumI (fun y => K (92 * n + 25 + y) / 2) 0 25 = nI (smN _ n + smN (tCo ((hvW ws).2 n)) 25)
        rw [ih (by omega), sumI_nI (q := fun i => tCo (ws.2 n) i / 2) (fun i hi => by rw [Nat.zero_add]; exact hc n i (by omega) hi), nI_add]
        rfl
    exact h1 4 (by omega)
  refine ⟨e1.trans hx, up1 (tpF K 4 0) 368 (K 368 + nI 1), hvJ P 100, ?_, ⟨?_, fun t ht => ?_⟩, fun x hx => ?_⟩
  · rw [e2]
    show sI (mk2 (wkM M o K P A F) (up1 (mI (wkM M o K P A F)) (o + 2) (tpF (mI (wkM M o K P A F) (o + 2)) 4 0)) (up1 (mJ (wkM M o K P A F)) (o + 3) (hvJ (mJ (wkM M o K P A F) (o + 3)) 100))) (o + 2) 368 (mI (wkM M o K P A F) (o + 2) 368 + nI 1) = _
    rw [wk_2, wk_J]
    have e3 : mk2 (wkM M o K P A F) (up1 (mI (wkM M o K P A F)) (o + 2) (tpF K 4 0)) (up1 (mJ (wkM M o K P A F)) (o + 3) (hvJ P 100)) = wkM M o (tpF K 4 0) (hvJ P 100) A F := by
      have e4 := wk_K (M := M) (o := o) (K := K) (A := A) (F := F) (P := P) (K2 := tpF K 4 0)
      have e5 : mk2 (wkM M o K P A F) (up1 (mI (wkM M o K P A F)) (o + 2) (tpF K 4 0)) (up1 (mJ (wkM M o K P A F)) (o + 3) (hvJ P 100)) = mk2 (mk2 (wkM M o K P A F) (up1 (mI (wkM M o K P A F)) (o + 2) (tpF K 4 0)) (mJ (wkM M o K P A F))) (mI (mk2 (wkM M o K P A F) (up1 (mI (wkM M o K P A F)) (o + 2) (tpF K 4 0)) (mJ (wkM M o K P A F)))) (up1 (mJ (wkM M o K P A F)) (o + 3) (hvJ P 100)) := rfl
      rw [e5, e4]
      refine congrArg (fun J => mk2 M (up1 (up1 (up1 (mI M) (o + 2) (tpF K 4 0)) (o + 15) A) o F) J) ?_
      show up1 (up1 (mJ M) (o + 3) P) (o + 3) (hvJ P 100) = _
      rw [up1_up1]
    rw [e3, wk_sK]
  · rw [Nat.zero_add, up1_eq]
    have := hs.1
    rw [Nat.zero_add] at this
    rw [this, nI_add]; rfl
  · rw [Nat.zero_add, Nat.zero_add]
    obtain ⟨h1, h2, h3, h4, h5, h6⟩ := hs.t (b := 0) (pb := 0) ht
    obtain ⟨t1, t2, t3, -⟩ := hT.2 t ht
    have hk : ∀ x, 92 * t ≤ x → x < 92 * t + 92 → ¬ (92 * t + 25 ≤ x ∧ x < 92 * t + 50) → up1 (tpF K 4 0) 368 (K 368 + nI 1) x = K x := by
      intro x a1 a2 a3
      rw [up1_ne (by omega)]
      unfold tpF
      rw [if_neg (by omega)]
    refine ⟨h1.kept (fun x a1 a2 => hk x (by omega) (by omega) (by omega)), fun i hi => ?_, h3.kept (fun x a1 a2 => hk x (by omega) (by omega) (by omega)), by rw [hk _ (by omega) (by omega) (by omega)]; exact h4, fun i hi => ?_, h6.kept (fun x a1 a2 => hk x (by omega) (by omega) (by omega))⟩
    · rw [up1_ne (by omega)]
      unfold tpF
      rw [if_pos (by omega)]
      exact hc t i ht hi
    · show hvJ P 100 (25 * t + i) = tPa (ws.2 t) i / 2
      unfold hvJ
      rw [if_pos (by omega), h5 i hi]
  · rw [up1_ne (by omega)]
    unfold tpF
    rw [if_neg (by omega)]
theorem m_dropT {t k : Nat} {ws : WS} (hM : MoAt (mT M) (mR M) o) (hs : MwHas K P 0 0 ws) (hT : WOK ws) (ht : t < 4) (hp : posL (tSt (ws.2 t)) k ≠ 0) : Cv g Y_Mo_drops 3 [.ref o, .int (nI t), .int (nI k)] (wkM M o K P A F) (fun M2 => ∃ K2, M2 = wkM M o K2 P A F ∧ MwHas K2 P 0 0 (setT ws t (drT (ws.2 t) k)) ∧ ∀ x, 369 ≤ x → K2 x = K x) := by
  have hM0 := hM
  obtain ⟨h1, h2, h3, h4, h5, h6⟩ := hs.t (b := 0) (pb := 0) ht
  obtain ⟨t1, t2, t3, -⟩ := hT.2 t ht
  have hpl := posL_le (L := tSt (ws.2 t)) (k := k)
  have hpl2 := posL_le (L := tSa (ws.2 t)) (k := k)
  have to0 := hM.1
  have fin : ∀ K2 : Nat → Int32, RowC K2 (92 * t) (rmL (tSt (ws.2 t)) (posL (tSt (ws.2 t)) k)) → RowC K2 (92 * t + 50) (rmL (tSa (ws.2 t)) (posL (tSa (ws.2 t)) k)) → (∀ x, x < 92 * t ∨ (92 * t + 25 ≤ x ∧ x < 92 * t + 50) ∨ 92 * t + 58 ≤ x → K2 x = K x) → MwHas K2 P 0 0 (setT ws t (drT (ws.2 t) k)) := by
    intro K2 q1 q2 q3
    refine hs.set hT ht ?_ (fun x hx => q3 x (by omega)) (fun x _ => rfl)
    rw [Nat.zero_add, Nat.zero_add]
    unfold drT
    rw [if_neg hp]
    exact ⟨q1, fun i hi => by rw [q3 _ (by omega)]; exact h2 i hi, q2, by rw [q3 _ (by omega)]; exact h4, h5, h6.kept (fun x a1 a2 => q3 x (by omega))⟩
  have e1 : rmL (tSt (ws.2 t)) (posL (tSt (ws.2 t)) k) = (tSt (ws.2 t)).eraseIdx (posL (tSt (ws.2 t)) k - 1) := if_neg hp
  refine cw_entry 1 pf_Mo_drops rfl ?_
  refine wp_aload_n rfl (ck_get kk_Mo_drops 0 rfl) ?_
  refine wp_iload_n rfl (ck_get kk_Mo_drops 1 rfl) ?_
  refine wp_iconst (v := nI 0) (by decide) (ck_get kk_Mo_drops 2 rfl) ?_
  refine wp_aload_n rfl (ck_get kk_Mo_drops 3 rfl) ?_
  refine wp_iload_n rfl (ck_get kk_Mo_drops 4 rfl) ?_
  refine wp_iconst (v := nI 0) (by decide) (ck_get kk_Mo_drops 5 rfl) ?_
  refine wp_iload_n rfl (ck_get kk_Mo_drops 6 rfl) ?_
  refine wp_cV3i (ck_get kk_Mo_drops 7 rfl) ml_Mo_159 (by omega) (Nat.le_of_ble_eq_true rfl) (by assumption) (Ci.to (m_place (L := tSt (ws.2 t)) (by exact hM0) (by rw [wk_2]; exact h1) (by omega)) ?_)
  rintro _ M1 ⟨rfl, eqm1⟩
  obtain rfl := eqm1.symm
  refine wp_cV3v (ck_get kk_Mo_drops 8 rfl) ml_Mo_356 (by omega) (Nat.le_of_ble_eq_true rfl) (by assumption) (Cv.to (m_out (row := 0) (L := tSt (ws.2 t)) (by exact hM0) (by rw [wk_2]; exact h1) (by omega) hpl (by omega)) ?_)
  rintro M₁ ⟨K2, rfl, hR2, hU2⟩
  rw [wk_K]
  rw [wk_2] at hU2
  have h32 : RowC K2 (92 * t + 50) (tSa (ws.2 t)) := h3.kept (fun x a1 a2 => hU2 x (by omega))
  by_cases h0 : posL (tSa (ws.2 t)) k = 0
  · have e2 : rmL (tSa (ws.2 t)) (posL (tSa (ws.2 t)) k) = tSa (ws.2 t) := if_pos h0
    refine wp_aload_n rfl (ck_get kk_Mo_drops 9 rfl) ?_
    refine wp_iload_n rfl (ck_get kk_Mo_drops 10 rfl) ?_
    refine wp_bipush (v := nI 50) (by decide) (ck_get kk_Mo_drops 11 rfl) ?_
    refine wp_iload_n rfl (ck_get kk_Mo_drops 12 rfl) ?_
    refine wp_cV3i (ck_get kk_Mo_drops 13 rfl) ml_Mo_159 (by omega) (Nat.le_of_ble_eq_true rfl) (by assumption) (Ci.to (m_place (L := tSa (ws.2 t)) (by exact hM0) (by rw [wk_2]; exact h32) (by omega)) ?_)
    rintro _ M1 ⟨rfl, eqm1⟩
    obtain rfl := eqm1.symm
    refine wp_istore_n (ck_get kk_Mo_drops 14 rfl) (by decide) rfl ?_
    refine wp_iload_n rfl (ck_get kk_Mo_drops 15 rfl) ?_
    first | refine wp_if_leN (t := 34) (ck_get kk_Mo_drops 16 rfl) (by decide) (by omega) (fun hc23 => ?_) (fun hc23 => ?_) | refine wp_if_le (t := 34) (ck_get kk_Mo_drops 16 rfl) (by decide) (fun hc23 => ?_) (fun hc23 => ?_)
    · refine wp_return (ck_get kk_Mo_drops 22 rfl) rfl ⟨rfl, ?_⟩
      exact ⟨K2, rfl, fin K2 (by rw [e1]; exact hR2) (by rw [e2]; exact h32) (fun x hx => hU2 x (by omega)), fun x hx => hU2 x (by omega)⟩
    · omega
  · have e2 : rmL (tSa (ws.2 t)) (posL (tSa (ws.2 t)) k) = (tSa (ws.2 t)).eraseIdx (posL (tSa (ws.2 t)) k - 1) := if_neg h0
    have hel := eraseIdx_len (L := tSt (ws.2 t)) (p := posL (tSt (ws.2 t)) k - 1) (by omega)
    refine wp_aload_n rfl (ck_get kk_Mo_drops 9 rfl) ?_
    refine wp_iload_n rfl (ck_get kk_Mo_drops 10 rfl) ?_
    refine wp_bipush (v := nI 50) (by decide) (ck_get kk_Mo_drops 11 rfl) ?_
    refine wp_iload_n rfl (ck_get kk_Mo_drops 12 rfl) ?_
    refine wp_cV3i (ck_get kk_Mo_drops 13 rfl) ml_Mo_159 (by omega) (Nat.le_of_ble_eq_true rfl) (by assumption) (Ci.to (m_place (L := tSa (ws.2 t)) (by exact hM0) (by rw [wk_2]; exact h32) (by omega)) ?_)
    rintro _ M1 ⟨rfl, eqm1⟩
    obtain rfl := eqm1.symm
    refine wp_istore_n (ck_get kk_Mo_drops 14 rfl) (by decide) rfl ?_
    refine wp_iload_n rfl (ck_get kk_Mo_drops 15 rfl) ?_
    first | refine wp_if_leN (t := 34) (ck_get kk_Mo_drops 16 rfl) (by decide) (by omega) (fun hc23 => ?_) (fun hc23 => ?_) | refine wp_if_le (t := 34) (ck_get kk_Mo_drops 16 rfl) (by decide) (fun hc23 => ?_) (fun hc23 => ?_)
    · omega
    · refine wp_aload_n rfl (ck_get kk_Mo_drops 17 rfl) ?_
      refine wp_iload_n rfl (ck_get kk_Mo_drops 18 rfl) ?_
      refine wp_bipush (v := nI 50) (by decide) (ck_get kk_Mo_drops 19 rfl) ?_
      refine wp_iload_n rfl (ck_get kk_Mo_drops 20 rfl) ?_
      refine wp_cV3v (ck_get kk_Mo_drops 21 rfl) ml_Mo_356 (by omega) (Nat.le_of_ble_eq_true rfl) (by assumption) (Cv.to (m_out (L := tSa (ws.2 t)) (by exact hM0) (by rw [wk_2]; exact h32) (by omega) hpl2 (by omega)) ?_)
      rintro M₁ ⟨K3, rfl, hR3, hU3⟩
      refine wp_return (ck_get kk_Mo_drops 22 rfl) rfl ⟨rfl, ?_⟩
      rw [wk_2] at hU3
      refine ⟨K3, wk_K, fin K3 ?_ (by rw [e2]; exact hR3) (fun x hx => (hU3 x (by omega)).trans (hU2 x (by omega))), fun x hx => (hU3 x (by omega)).trans (hU2 x (by omega))⟩
      rw [e1]
      exact RowC.kept hR2 (fun x a1 a2 => hU3 x (by omega))
theorem m_emptyT {ws : WS} (hM : MoAt (mT M) (mR M) o) (hs : MwHas K P 0 0 ws) (hT : WOK ws) : Cv g Y_Mo_emptiesSamples 1 [.ref o] (wkM M o K P A F) (fun M2 => ∃ K2 P2, M2 = wkM M o K2 P2 A F ∧ MwHas K2 P2 0 0 (emW ws) ∧ ∀ x, 369 ≤ x → K2 x = K x) := by
  refine (m_emptiesSamples (g := g) (M := wkM M o K P A F) hM).to (fun M2 e => ?_)
  refine ⟨esF K 4, flJ P 100 0, ?_, ⟨?_, fun t ht => ?_⟩, fun x hx => ?_⟩
  · rw [e]
    show mk2 (wkM M o K P A F) (up1 (mI (wkM M o K P A F)) (o + 2) (esF (mI (wkM M o K P A F) (o + 2)) 4)) (up1 (mJ (wkM M o K P A F)) (o + 3) (flJ (mJ (wkM M o K P A F) (o + 3)) 100 0)) = _
    rw [wk_2, wk_J]
    have e4 := wk_K (M := M) (o := o) (K := K) (A := A) (F := F) (P := P) (K2 := esF K 4)
    have e5 : mk2 (wkM M o K P A F) (up1 (mI (wkM M o K P A F)) (o + 2) (esF K 4)) (up1 (mJ (wkM M o K P A F)) (o + 3) (flJ P 100 0)) = mk2 (mk2 (wkM M o K P A F) (up1 (mI (wkM M o K P A F)) (o + 2) (esF K 4)) (mJ (wkM M o K P A F))) (mI (mk2 (wkM M o K P A F) (up1 (mI (wkM M o K P A F)) (o + 2) (esF K 4)) (mJ (wkM M o K P A F)))) (up1 (mJ (wkM M o K P A F)) (o + 3) (flJ P 100 0)) := rfl
    rw [e5, e4]
    refine congrArg (fun J => mk2 M (up1 (up1 (up1 (mI M) (o + 2) (esF K 4)) (o + 15) A) o F) J) ?_
    show up1 (up1 (mJ M) (o + 3) P) (o + 3) (flJ P 100 0) = _
    rw [up1_up1]
  · unfold esF
    rw [if_neg (by omega), if_neg (by omega)]; exact hs.1
  · rw [Nat.zero_add, Nat.zero_add]
    obtain ⟨h1, h2, h3, h4, h5, h6⟩ := hs.t (b := 0) (pb := 0) ht
    obtain ⟨t1, t2, t3, -⟩ := hT.2 t ht
    have hk : ∀ x, 92 * t ≤ x → x < 92 * t + 92 → x ≠ 92 * t + 50 → x ≠ 92 * t + 58 → esF K 4 x = K x := by
      intro x a1 a2 a3 a4
      unfold esF
      rw [if_neg (by omega), if_neg (by omega)]
    refine ⟨h1.kept (fun x a1 a2 => hk x (by omega) (by omega) (by omega) (by omega)), fun i hi => by rw [hk _ (by omega) (by omega) (by omega) (by omega)]; exact h2 i hi, ⟨?_, fun i hi => absurd hi (Nat.not_lt_zero _)⟩, ?_, fun i hi => ?_, h6.kept (fun x a1 a2 => hk x (by omega) (by omega) (by omega) (by omega))⟩
    · unfold esF
      rw [if_neg (by omega), if_pos (by omega)]; rfl
    · unfold esF
      rw [if_pos (by omega)]; rfl
    · unfold flJ
      rw [if_pos (by omega)]; rfl
  · unfold esF
    rw [if_neg (by omega), if_neg (by omega)]
end WOP
section COP
variable {g : Gl} {M : Mem}
theorem c_timeT {w : Nat} {ws : WS} (hW : WoAt (mT M) (mR M) w) (hs : WoHas (mI M) (mJ M) w ws) (hB : tot ws < 2147483648) : Ci g Y_Wo_passTime 1 [.ref w] M (fun x M2 => x = nI (tot (hvW ws)) ∧ ∃ I2 J2, M2 = mk2 M I2 J2 ∧ WoHas I2 J2 w (hvW ws) ∧ Frm w (w + 26) (mI M) (mJ M) I2 J2) := by
  refine (c_passTime (g := g) hW).to (fun x M2 ⟨e1, e2⟩ => ?_)
  have hc : ∀ t i, t < 4 → i < 25 → mI M (w + 4 + 6 * t) i / 2 = nI (tCo (ws.2 t) i / 2) := by
    intro t i ht hi
    have := (hs.2 t ht).2.2.1 i hi
    rw [show w + 4 + 6 * t = w + 2 + 6 * t + 2 by omega, this]
    exact nI_half (Nat.lt_of_le_of_lt (tot_at ht hi) hB)
  have hx : pvS (mI M) w 4 = nI (tot (hvW ws)) := by
    have h1 : ∀ n, n ≤ 4 → pvS (mI M) w n = nI (smN (fun t => smN (tCo ((hvW ws).2 t)) 25) n) := by
      intro n
      induction n with
      | zero => intro _; rfl
      | succ n ih =>
        intro hn
        show pvS (mI M) w n + sumI (hvI (mI M (w + 4 + 6 * n)) 25) 0 25 = nI (smN _ n + smN (tCo ((hvW ws).2 n)) 25)
        rw [ih (by omega), sumI_nI (q := fun i => tCo (ws.2 n) i / 2) (fun i hi => by unfold hvI; rw [Nat.zero_add, if_pos hi]; exact hc n i (by omega) hi), nI_add]
        rfl
    exact h1 4 (by omega)
  refine ⟨e1.trans hx, up2 (pvI (mI M) w 4) w 1 (mI M w 1 + nI 1), pvJ (mJ M) w 4, e2, ⟨?_, fun t ht => ?_⟩, fun x hx => ⟨?_, ?_⟩⟩
  · rw [up2_up1, up1_eq, up1_eq, hs.1, nI_add]; rfl
  · obtain ⟨d1, d2, d3, d4, d5, d6, d7, d8, d9⟩ := hs.2 t ht
    have hI : ∀ q, q < 6 → q ≠ 2 → up2 (pvI (mI M) w 4) w 1 (mI M w 1 + nI 1) (w + 2 + 6 * t + q) = mI M (w + 2 + 6 * t + q) := by
      intro q h1 h2
      rw [up2_up1, up1_ne (by omega)]
      unfold pvI
      rw [if_neg (by omega)]
    refine ⟨?_, ?_, fun i hi => ?_, ?_, ?_, ?_, fun i hi => ?_, ?_, ?_⟩
    · rw [show w + 2 + 6 * t = w + 2 + 6 * t + 0 from rfl, hI 0 (by omega) (by omega)]; exact d1
    · rw [hI 1 (by omega) (by omega)]; exact d2
    · rw [up2_up1, up1_ne (by omega)]
      unfold pvI
      rw [if_pos (by omega)]
      unfold hvI
      rw [if_pos hi, show w + 2 + 6 * t + 2 = w + 4 + 6 * t by omega]
      exact hc t i ht hi
    · rw [show w + 2 + 6 * t = w + 2 + 6 * t + 0 from rfl, hI 0 (by omega) (by omega)]; exact d4
    · rw [hI 3 (by omega) (by omega)]; exact d5
    · rw [show w + 2 + 6 * t = w + 2 + 6 * t + 0 from rfl, hI 0 (by omega) (by omega)]; exact d6
    · unfold pvJ
      rw [if_pos (by omega)]
      unfold hvJ
      rw [if_pos hi, d7 i hi]; rfl
    · rw [show w + 2 + 6 * t = w + 2 + 6 * t + 0 from rfl, hI 0 (by omega) (by omega)]; exact d8
    · rw [hI 5 (by omega) (by omega)]; exact d9
  · rw [up2_up1, up1_ne (by omega)]
    unfold pvI
    rw [if_neg (by omega)]
  · unfold pvJ
    rw [if_neg (by omega)]
end COP

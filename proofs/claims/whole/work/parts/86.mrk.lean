/-! ===== the model: reads, drops, time, samples emptied, on worlds ===== -/
section MRW2
variable {g : Gl} {M : Mem} {o : Nat} {K A F : Nat → Int32} {P : Nat → Int64}
theorem FrO.trans {F F2 F3 : Nat → Int32} (h : FrO F F2) (h2 : FrO F2 F3) : FrO F F3 := ⟨fun k hk => (h2.1 k hk).trans (h.1 k hk), h2.2⟩
theorem MoHas.kept {K K2 : Nat → Int32} {P P2 : Nat → Int64} {b pb : Nat} {s : TS} (h : MoHas K P b pb s) (hT : TOK s) (hK : ∀ x, b ≤ x → x < b + 92 → K2 x = K x) (hP : ∀ x, pb ≤ x → x < pb + 25 → P2 x = P x) : MoHas K2 P2 b pb s := by
  obtain ⟨h1, h2, h3, h4, h5, h6⟩ := h
  obtain ⟨t1, t2, t3, -⟩ := hT
  exact ⟨h1.kept (fun x q1 q2 => hK x (by omega) (by omega)), fun i hi => by rw [hK _ (by omega) (by omega)]; exact h2 i hi, h3.kept (fun x q1 q2 => hK x (by omega) (by omega)), by rw [hK _ (by omega) (by omega)]; exact h4, fun i hi => by rw [hP _ (by omega) (by omega)]; exact h5 i hi, h6.kept (fun x q1 q2 => hK x (by omega) (by omega))⟩
theorem MwHas.set {K K2 : Nat → Int32} {P P2 : Nat → Int64} {b pb t : Nat} {ws : WS} {s : TS} (h : MwHas K P b pb ws) (hT : WOK ws) (ht : t < 4) (hs : MoHas K2 P2 (b + 92 * t) (pb + 25 * t) s) (hK : ∀ x, x < b + 92 * t ∨ b + 92 * t + 92 ≤ x → K2 x = K x) (hP : ∀ x, x < pb + 25 * t ∨ pb + 25 * t + 25 ≤ x → P2 x = P x) : MwHas K2 P2 b pb (setT ws t s) := by
  refine ⟨by rw [hK _ (by omega)]; exact h.1, fun i hi => ?_⟩
  show MoHas K2 P2 (b + 92 * i) (pb + 25 * i) (if i = t then s else ws.2 i)
  by_cases hit : i = t
  · subst hit; rw [if_pos rfl]; exact hs
  · rw [if_neg hit]
    exact (h.2 i hi).kept (hT.2 i hi) (fun x q1 q2 => hK x (by omega)) (fun x q1 q2 => hP x (by omega))
theorem MwHas.kept {K K2 : Nat → Int32} {P P2 : Nat → Int64} {b pb : Nat} {ws : WS} (h : MwHas K P b pb ws) (hT : WOK ws) (hK : ∀ x, b ≤ x → x < b + 369 → K2 x = K x) (hP : ∀ x, pb ≤ x → x < pb + 100 → P2 x = P x) : MwHas K2 P2 b pb ws := ⟨by rw [hK _ (by omega) (by omega)]; exact h.1, fun i hi => (h.2 i hi).kept (hT.2 i hi) (fun x q1 q2 => hK x (by omega) (by omega)) (fun x q1 q2 => hP x (by omega) (by omega))⟩
theorem MwHas.t {b pb t : Nat} {ws : WS} (h : MwHas K P 0 0 ws) (ht : t < 4) : MoHas K P (92 * t) (25 * t) (ws.2 t) := by
  have := h.2 t ht
  rwa [Nat.zero_add, Nat.zero_add] at this
/-- what is read of a key -/
def rdW (ws : WS) (t k c salt : Nat) (br : Bool) : WS := setT ws t (if br = true then barT (ws.2 t) c else rdT (ws.2 t) k c salt)
def rdX (ws : WS) (t k : Nat) (br : Bool) : Nat := if br = true then 0 else posL (tSt (ws.2 t)) k
theorem m_readsKey {t k md c salt : Nat} {ws : WS} {V : Nat → Int32} {res : (Nat → Int32) → Int32 × Int32} {br : Bool} (hM : MoAt (mT M) (mR M) o) (hs : MwHas K P 0 0 ws) (hT : WOK ws) (ht : t < 4) (hk : k < 1000) (hmd : K 383 = nI md) (hmx : md ≤ 9) (hsl : K 384 = nI salt) (hs2 : salt < 1000) (hR : TlR K res) (hV : VOK V t k (cntL (tRe (ws.2 t)) k) (posL (tSt (ws.2 t)) k) ws.1 md) (hb : ∃ b, F 27 = bI b) (hres : res V = (nI c, bI br)) :
    Ci g Y_Mo_readsKey 110 [.ref o, .int (nI t), .int (nI k)] (wkM M o K P A F) (fun x M2 => x = nI (rdX ws t k br) ∧ ∃ K2 P2 A2 F2, M2 = wkM M o K2 P2 A2 F2 ∧ MwHas K2 P2 0 0 (rdW ws t k c salt br) ∧ (∀ x, 369 ≤ x → K2 x = K x) ∧ FrO F F2) := by
  have hM0 := hM
  have hs1 := hs.t (b := 0) (pb := 0) ht
  have hs10 := hs1
  obtain ⟨h1, h2, h3, h4, h5, h6⟩ := hs1
  have hTt := hT.2 t ht
  have hpl := posL_le (L := tSt (ws.2 t)) (k := k)
  have hc1 : (res V).1 = nI c := by rw [hres]
  have hc2 : (res V).2 = bI br := by rw [hres]
  have hl24 := hTt.1
  have hl32 := hTt.2.2.1
  have hl6 := hTt.2.1
  have to0 := hM.1
  have rfkept := MoAt.r hM 1 rfl
  have tfkept := MoAt.t hM 1 rfl
  -- behind cost and bar: not barred
  have fin : ∀ A2 F2 : Nat → Int32, FrO F F2 → Wp g Y_Mo_readsKey 110 43 [some (.ref o), some (.int (nI t)), some (.int (nI k)), some (.int (nI (posL (tSt (ws.2 t)) k))), some (.int (nI c))] [] (wkM M o K P A2 F2) (fun r M2 => ∃ x, r = some (.int x) ∧ x = nI (posL (tSt (ws.2 t)) k) ∧ ∃ K2 P2 A2 F2, M2 = wkM M o K2 P2 A2 F2 ∧ MoHas K2 P2 (92 * t) (25 * t) (rdT (ws.2 t) k c salt) ∧ (∀ x, x < 92 * t ∨ 92 * t + 92 ≤ x → K2 x = K x) ∧ (∀ x, x < 25 * t ∨ 25 * t + 25 ≤ x → P2 x = P x) ∧ FrO F F2) := by
    intro A2 F2 hF
    -- behind the stack and the record
    have fin3 : ∀ K2 : Nat → Int32, MoHas K2 P (92 * t) (25 * t) (topT (ws.2 t) k c) → (∀ x, x < 92 * t ∨ 92 * t + 92 ≤ x → K2 x = K x) → Wp g Y_Mo_readsKey 110 137 [some (.ref o), some (.int (nI t)), some (.int (nI k)), some (.int (nI (posL (tSt (ws.2 t)) k))), some (.int (nI c))] [] (wkM M o K2 P A2 F2) (fun r M2 => ∃ x, r = some (.int x) ∧ x = nI (posL (tSt (ws.2 t)) k) ∧ ∃ K2 P2 A2 F2, M2 = wkM M o K2 P2 A2 F2 ∧ MoHas K2 P2 (92 * t) (25 * t) (rdT (ws.2 t) k c salt) ∧ (∀ x, x < 92 * t ∨ 92 * t + 92 ≤ x → K2 x = K x) ∧ (∀ x, x < 25 * t ∨ 25 * t + 25 ≤ x → P2 x = P x) ∧ FrO F F2) := by
      intro K2 hs2' hU
      have hTp := hTt.top (c := c) hk
      have hsl2 : K2 384 = nI salt := by rw [hU _ (by omega)]; exact hsl
      have hh2 := hsh_lt k salt
      have hli := hTt.2.2.2.1
      by_cases hh : hsh k salt < tLi (ws.2 t)
      · skip
        refine wp_aload_n rfl (ck_get kk_Mo_readsKey 84 rfl) ?_
        refine wp_iload_n rfl (ck_get kk_Mo_readsKey 85 rfl) ?_
        refine wp_cV1i (ck_get kk_Mo_readsKey 86 rfl) ml_Mo_163 (by omega) (Nat.le_of_ble_eq_true rfl) (by assumption) (Ci.to (m_hashOf (by exact hM0) (by rw [wk_2]; exact hsl2) hk hs2) ?_)
        rintro _ M1 ⟨rfl, eqm1⟩
        obtain rfl := eqm1.symm
        refine wp_aload_n rfl (ck_get kk_Mo_readsKey 87 rfl) ?_
        refine wp_getR (ck_get kk_Mo_readsKey 88 rfl) fl_Mo_28 (by assumption) (by assumption) ?_
        refine wp_iload_n rfl (ck_get kk_Mo_readsKey 89 rfl) ?_
        refine wp_bipush (v := nI 58) (by decide) (ck_get kk_Mo_readsKey 90 rfl) ?_
        refine wp_cS2i (ck_get kk_Mo_readsKey 91 rfl) ml_Mo_142 (by omega) (Nat.le_of_ble_eq_true rfl) (Ci.to (m_at) ?_)
        rintro _ M1 ⟨rfl, eqm1⟩
        obtain rfl := eqm1.symm
        refine wp_ialdv (v := nI (tLi (ws.2 t))) (ck_get kk_Mo_readsKey 92 rfl) (by assumption) (ixk_nI (k := 92 * t + 58) (by omega) (by omega)) (by rw [wk_2]; exact hs2'.2.2.2.1) ?_
        first | refine wp_icmp_geN (t := 164) (ck_get kk_Mo_readsKey 93 rfl) (by decide) (by omega) (by omega) (fun hc153 => ?_) (fun hc153 => ?_) | refine wp_icmp_ge (t := 164) (ck_get kk_Mo_readsKey 93 rfl) (by decide) (fun hc153 => ?_) (fun hc153 => ?_)
        · omega
        · refine wp_aload_n rfl (ck_get kk_Mo_readsKey 94 rfl) ?_
          refine wp_iload_n rfl (ck_get kk_Mo_readsKey 95 rfl) ?_
          refine wp_iload_n rfl (ck_get kk_Mo_readsKey 96 rfl) ?_
          refine wp_iload rfl (ck_get kk_Mo_readsKey 97 rfl) ?_
          refine wp_cV3v (ck_get kk_Mo_readsKey 98 rfl) ml_Mo_366 (by omega) (Nat.le_of_ble_eq_true rfl) (by assumption) (Cv.to (m_samples hM0 ht hs2' hTp hk hsl2 hs2 hh) ?_)
          rintro M₁ ⟨K3, P3, rfl, hs3, hU3, hP3⟩
          refine wp_iload_n rfl (ck_get kk_Mo_readsKey 99 rfl) ?_
          refine wp_ireturn (ck_get kk_Mo_readsKey 100 rfl) rfl rfl ⟨_, rfl, ?_⟩
          exact ⟨rfl, K3, P3, A2, F2, rfl, hs3, fun x hx => (hU3 x (by omega)).trans (hU x hx), hP3, hF⟩
      · have e : rdT (ws.2 t) k c salt = topT (ws.2 t) k c := if_neg hh
        refine wp_aload_n rfl (ck_get kk_Mo_readsKey 84 rfl) ?_
        refine wp_iload_n rfl (ck_get kk_Mo_readsKey 85 rfl) ?_
        refine wp_cV1i (ck_get kk_Mo_readsKey 86 rfl) ml_Mo_163 (by omega) (Nat.le_of_ble_eq_true rfl) (by assumption) (Ci.to (m_hashOf (by exact hM0) (by rw [wk_2]; exact hsl2) hk hs2) ?_)
        rintro _ M1 ⟨rfl, eqm1⟩
        obtain rfl := eqm1.symm
        refine wp_aload_n rfl (ck_get kk_Mo_readsKey 87 rfl) ?_
        refine wp_getR (ck_get kk_Mo_readsKey 88 rfl) fl_Mo_28 (by assumption) (by assumption) ?_
        refine wp_iload_n rfl (ck_get kk_Mo_readsKey 89 rfl) ?_
        refine wp_bipush (v := nI 58) (by decide) (ck_get kk_Mo_readsKey 90 rfl) ?_
        refine wp_cS2i (ck_get kk_Mo_readsKey 91 rfl) ml_Mo_142 (by omega) (Nat.le_of_ble_eq_true rfl) (Ci.to (m_at) ?_)
        rintro _ M1 ⟨rfl, eqm1⟩
        obtain rfl := eqm1.symm
        refine wp_ialdv (v := nI (tLi (ws.2 t))) (ck_get kk_Mo_readsKey 92 rfl) (by assumption) (ixk_nI (k := 92 * t + 58) (by omega) (by omega)) (by rw [wk_2]; exact hs2'.2.2.2.1) ?_
        first | refine wp_icmp_geN (t := 164) (ck_get kk_Mo_readsKey 93 rfl) (by decide) (by omega) (by omega) (fun hc153 => ?_) (fun hc153 => ?_) | refine wp_icmp_ge (t := 164) (ck_get kk_Mo_readsKey 93 rfl) (by decide) (fun hc153 => ?_) (fun hc153 => ?_)
        · refine wp_iload_n rfl (ck_get kk_Mo_readsKey 99 rfl) ?_
          refine wp_ireturn (ck_get kk_Mo_readsKey 100 rfl) rfl rfl ⟨_, rfl, ?_⟩
          exact ⟨rfl, K2, P, A2, F2, rfl, by rw [e]; exact hs2', hU, fun x _ => rfl, hF⟩
        · omega
    -- behind the stack
    have fin2 : ∀ K2 : Nat → Int32, RowC K2 (92 * t) (stk1 (tSt (ws.2 t)) k) → (∀ i, i < 25 → K2 (92 * t + 25 + i) = nI (cos1 (tCo (ws.2 t)) (posL (tSt (ws.2 t)) k) c i)) → (∀ x, x < 92 * t ∨ 92 * t + 50 ≤ x → K2 x = K x) → Wp g Y_Mo_readsKey 110 105 [some (.ref o), some (.int (nI t)), some (.int (nI k)), some (.int (nI (posL (tSt (ws.2 t)) k))), some (.int (nI c))] [] (wkM M o K2 P A2 F2) (fun r M2 => ∃ x, r = some (.int x) ∧ x = nI (posL (tSt (ws.2 t)) k) ∧ ∃ K2 P2 A2 F2, M2 = wkM M o K2 P2 A2 F2 ∧ MoHas K2 P2 (92 * t) (25 * t) (rdT (ws.2 t) k c salt) ∧ (∀ x, x < 92 * t ∨ 92 * t + 92 ≤ x → K2 x = K x) ∧ (∀ x, x < 25 * t ∨ 25 * t + 25 ≤ x → P2 x = P x) ∧ FrO F F2) := by
      intro K2 hr1 hr2 hU
      have hr6 : RowC K2 (92 * t + 59) (tRe (ws.2 t)) := h6.kept (fun x q1 q2 => hU x (by omega))
      have hmk : ∀ K3 : Nat → Int32, RowC K3 (92 * t + 59) (rec1 (tRe (ws.2 t)) k) → KUp K2 K3 (92 * t + 59) (92 * t + 92) → MoHas K3 P (92 * t) (25 * t) (topT (ws.2 t) k c) := by
        intro K3 q1 q2
        have hsl := (stk1_len (k := k) hl24).2
        refine ⟨hr1.kept (fun x a b => q2 x (by omega)), fun i hi => by rw [q2 _ (by omega)]; exact hr2 i hi, h3.kept (fun x a b => (q2 x (by omega)).trans (hU x (by omega))), by rw [q2 _ (by omega), hU _ (by omega)]; exact h4, h5, q1⟩
      by_cases h32 : (tRe (ws.2 t)).length = 32
      · have e1 : rec1 (tRe (ws.2 t)) k = (tRe (ws.2 t)).eraseIdx (1 - 1) ++ [k] := by
          unfold rec1
          rw [if_neg (by omega), Nat.sub_self, List.eraseIdx_zero, List.drop_one]
        have hel := eraseIdx_len (L := tRe (ws.2 t)) (p := 1 - 1) (by omega)
        refine wp_aload_n rfl (ck_get kk_Mo_readsKey 66 rfl) ?_
        refine wp_getR (ck_get kk_Mo_readsKey 67 rfl) fl_Mo_28 (by assumption) (by assumption) ?_
        refine wp_iload_n rfl (ck_get kk_Mo_readsKey 68 rfl) ?_
        refine wp_bipush (v := nI 59) (by decide) (ck_get kk_Mo_readsKey 69 rfl) ?_
        refine wp_cS2i (ck_get kk_Mo_readsKey 70 rfl) ml_Mo_142 (by omega) (Nat.le_of_ble_eq_true rfl) (Ci.to (m_at) ?_)
        rintro _ M1 ⟨rfl, eqm1⟩
        obtain rfl := eqm1.symm
        refine wp_ialdv (v := nI 32) (ck_get kk_Mo_readsKey 71 rfl) (by assumption) (ixk_nI (k := 92 * t + 59) (by omega) (by omega)) (by rw [wk_2, hr6.1, h32]) ?_
        refine wp_bipush (v := nI 32) (by decide) (ck_get kk_Mo_readsKey 72 rfl) ?_
        first | refine wp_icmp_neN (t := 129) (ck_get kk_Mo_readsKey 73 rfl) (by decide) (by omega) (by omega) (fun hc118 => ?_) (fun hc118 => ?_) | refine wp_icmp_ne (t := 129) (ck_get kk_Mo_readsKey 73 rfl) (by decide) (fun hc118 => ?_) (fun hc118 => ?_)
        · omega
        · refine wp_aload_n rfl (ck_get kk_Mo_readsKey 74 rfl) ?_
          refine wp_iload_n rfl (ck_get kk_Mo_readsKey 75 rfl) ?_
          refine wp_bipush (v := nI 59) (by decide) (ck_get kk_Mo_readsKey 76 rfl) ?_
          refine wp_iconst (v := nI 1) (by decide) (ck_get kk_Mo_readsKey 77 rfl) ?_
          refine wp_cV3v (ck_get kk_Mo_readsKey 78 rfl) ml_Mo_356 (by omega) (Nat.le_of_ble_eq_true rfl) (by assumption) (Cv.to (m_out (L := tRe (ws.2 t)) (by exact hM0) (by rw [wk_2]; exact hr6) (by omega) (by omega) (by omega)) ?_)
          rintro M₁ ⟨K3, rfl, hR3, hU3⟩
          rw [wk_K]
          rw [wk_2] at hU3
          refine wp_aload_n rfl (ck_get kk_Mo_readsKey 79 rfl) ?_
          refine wp_iload_n rfl (ck_get kk_Mo_readsKey 80 rfl) ?_
          refine wp_bipush (v := nI 59) (by decide) (ck_get kk_Mo_readsKey 81 rfl) ?_
          refine wp_iload_n rfl (ck_get kk_Mo_readsKey 82 rfl) ?_
          refine wp_cV3v (ck_get kk_Mo_readsKey 83 rfl) ml_Mo_363 (by omega) (Nat.le_of_ble_eq_true rfl) (by assumption) (Cv.to (m_last (L := (tRe (ws.2 t)).eraseIdx (1 - 1)) (by exact hM0) (by rw [wk_2]; exact hR3) (by omega)) ?_)
          rintro M₁ ⟨K4, rfl, hR4, hU4⟩
          rw [wk_K]
          rw [wk_2] at hU4
          have hU5 : KUp K2 K4 (92 * t + 59) (92 * t + 92) := fun x hx => (hU4 x (by omega)).trans (hU3 x (by omega))
          exact fin3 K4 (hmk K4 (by rw [e1]; exact hR4) hU5) (fun x hx => (hU5 x (by omega)).trans (hU x (by omega)))
      · have e1 : rec1 (tRe (ws.2 t)) k = tRe (ws.2 t) ++ [k] := by
          unfold rec1
          rw [if_pos (by omega)]
        refine wp_aload_n rfl (ck_get kk_Mo_readsKey 66 rfl) ?_
        refine wp_getR (ck_get kk_Mo_readsKey 67 rfl) fl_Mo_28 (by assumption) (by assumption) ?_
        refine wp_iload_n rfl (ck_get kk_Mo_readsKey 68 rfl) ?_
        refine wp_bipush (v := nI 59) (by decide) (ck_get kk_Mo_readsKey 69 rfl) ?_
        refine wp_cS2i (ck_get kk_Mo_readsKey 70 rfl) ml_Mo_142 (by omega) (Nat.le_of_ble_eq_true rfl) (Ci.to (m_at) ?_)
        rintro _ M1 ⟨rfl, eqm1⟩
        obtain rfl := eqm1.symm
        refine wp_ialdv (v := nI (tRe (ws.2 t)).length) (ck_get kk_Mo_readsKey 71 rfl) (by assumption) (ixk_nI (k := 92 * t + 59) (by omega) (by omega)) (by rw [wk_2]; exact hr6.1) ?_
        refine wp_bipush (v := nI 32) (by decide) (ck_get kk_Mo_readsKey 72 rfl) ?_
        first | refine wp_icmp_neN (t := 129) (ck_get kk_Mo_readsKey 73 rfl) (by decide) (by omega) (by omega) (fun hc118 => ?_) (fun hc118 => ?_) | refine wp_icmp_ne (t := 129) (ck_get kk_Mo_readsKey 73 rfl) (by decide) (fun hc118 => ?_) (fun hc118 => ?_)
        · refine wp_aload_n rfl (ck_get kk_Mo_readsKey 79 rfl) ?_
          refine wp_iload_n rfl (ck_get kk_Mo_readsKey 80 rfl) ?_
          refine wp_bipush (v := nI 59) (by decide) (ck_get kk_Mo_readsKey 81 rfl) ?_
          refine wp_iload_n rfl (ck_get kk_Mo_readsKey 82 rfl) ?_
          refine wp_cV3v (ck_get kk_Mo_readsKey 83 rfl) ml_Mo_363 (by omega) (Nat.le_of_ble_eq_true rfl) (by assumption) (Cv.to (m_last (L := tRe (ws.2 t)) (by exact hM0) (by rw [wk_2]; exact hr6) (by omega)) ?_)
          rintro M₁ ⟨K4, rfl, hR4, hU4⟩
          rw [wk_K]
          rw [wk_2] at hU4
          have hU5 : KUp K2 K4 (92 * t + 59) (92 * t + 92) := fun x hx => hU4 x (by omega)
          exact fin3 K4 (hmk K4 (by rw [e1]; exact hR4) hU5) (fun x hx => (hU5 x (by omega)).trans (hU x (by omega)))
        · omega
    have hK1 : ∀ x, x ≠ 92 * t + (25 + posL (tSt (ws.2 t)) k) → up1 K (92 * t + (25 + posL (tSt (ws.2 t)) k)) (nI (tCo (ws.2 t) (posL (tSt (ws.2 t)) k) + c)) x = K x := fun x hx => up1_ne hx
    have hco : ∀ i, i < 25 → up1 K (92 * t + (25 + posL (tSt (ws.2 t)) k)) (nI (tCo (ws.2 t) (posL (tSt (ws.2 t)) k) + c)) (92 * t + 25 + i) = nI (cos1 (tCo (ws.2 t)) (posL (tSt (ws.2 t)) k) c i) := by
      intro i hi
      unfold cos1
      by_cases hp : i = posL (tSt (ws.2 t)) k
      · rw [hp, show 92 * t + 25 + posL (tSt (ws.2 t)) k = 92 * t + (25 + posL (tSt (ws.2 t)) k) by omega, up1_eq, up1_eq]
      · rw [up1_ne (by omega), up1_ne hp]; exact h2 i hi
    have hr1 : RowC (up1 K (92 * t + (25 + posL (tSt (ws.2 t)) k)) (nI (tCo (ws.2 t) (posL (tSt (ws.2 t)) k) + c))) (92 * t + 0) (tSt (ws.2 t)) := h1.kept (fun x a b => hK1 x (by omega))
    by_cases h0 : posL (tSt (ws.2 t)) k = 0
    · by_cases h24 : (tSt (ws.2 t)).length = 24
      · have e1 : stk1 (tSt (ws.2 t)) k = k :: (tSt (ws.2 t)).eraseIdx (24 - 1) := by
          unfold stk1
          rw [if_pos h0]
          congr 1
          rw [List.eraseIdx_eq_take_drop_succ, show 24 - 1 + 1 = 24 from rfl, List.drop_of_length_le (by omega), List.append_nil]
        have hel := eraseIdx_len (L := tSt (ws.2 t)) (p := 24 - 1) (by omega)
        refine wp_aload_n rfl (ck_get kk_Mo_readsKey 28 rfl) ?_
        refine wp_getR (ck_get kk_Mo_readsKey 29 rfl) fl_Mo_28 (by assumption) (by assumption) ?_
        refine wp_iload_n rfl (ck_get kk_Mo_readsKey 30 rfl) ?_
        refine wp_bipush (v := nI 25) (by decide) (ck_get kk_Mo_readsKey 31 rfl) ?_
        refine wp_iload_n rfl (ck_get kk_Mo_readsKey 32 rfl) ?_
        first | refine wp_iaddN (ck_get kk_Mo_readsKey 33 rfl) ?_ | refine wp_iadd (ck_get kk_Mo_readsKey 33 rfl) ?_
        refine wp_cS2i (ck_get kk_Mo_readsKey 34 rfl) ml_Mo_142 (by omega) (Nat.le_of_ble_eq_true rfl) (Ci.to (m_at) ?_)
        rintro _ M1 ⟨rfl, eqm1⟩
        obtain rfl := eqm1.symm
        first | refine wp_dup2l rfl (ck_get kk_Mo_readsKey 35 rfl) ?_ | refine wp_dup2 rfl rfl (ck_get kk_Mo_readsKey 35 rfl) ?_
        refine wp_ialdv (v := nI (tCo (ws.2 t) (posL (tSt (ws.2 t)) k))) (ck_get kk_Mo_readsKey 36 rfl) (by assumption) (ixk_nI (k := 92 * t + (25 + posL (tSt (ws.2 t)) k)) (by omega) (by omega)) (by rw [wk_2, ← h2 _ (by omega : posL (tSt (ws.2 t)) k < 25)]; congr 1; omega) ?_
        refine wp_iload rfl (ck_get kk_Mo_readsKey 37 rfl) ?_
        first | refine wp_iaddN (ck_get kk_Mo_readsKey 38 rfl) ?_ | refine wp_iadd (ck_get kk_Mo_readsKey 38 rfl) ?_
        refine wp_iast (ck_get kk_Mo_readsKey 39 rfl) (by assumption) (ixk_nI (k := 92 * t + (25 + posL (tSt (ws.2 t)) k)) (by omega) (by omega)) ?_
        rw [wk_sK]
        refine wp_iload_n rfl (ck_get kk_Mo_readsKey 40 rfl) ?_
        first | refine wp_if_leN (t := 75) (ck_get kk_Mo_readsKey 41 rfl) (by decide) (by omega) (fun hc62 => ?_) (fun hc62 => ?_) | refine wp_if_le (t := 75) (ck_get kk_Mo_readsKey 41 rfl) (by decide) (fun hc62 => ?_) (fun hc62 => ?_)
        · refine wp_aload_n rfl (ck_get kk_Mo_readsKey 48 rfl) ?_
          refine wp_getR (ck_get kk_Mo_readsKey 49 rfl) fl_Mo_28 (by assumption) (by assumption) ?_
          refine wp_iload_n rfl (ck_get kk_Mo_readsKey 50 rfl) ?_
          refine wp_iconst (v := nI 0) (by decide) (ck_get kk_Mo_readsKey 51 rfl) ?_
          refine wp_cS2i (ck_get kk_Mo_readsKey 52 rfl) ml_Mo_142 (by omega) (Nat.le_of_ble_eq_true rfl) (Ci.to (m_at) ?_)
          rintro _ M1 ⟨rfl, eqm1⟩
          obtain rfl := eqm1.symm
          refine wp_ialdv (v := nI 24) (ck_get kk_Mo_readsKey 53 rfl) (by assumption) (ixk_nI (k := 92 * t + 0) (by omega) (by omega)) (by rw [wk_2, hr1.1, h24]) ?_
          refine wp_bipush (v := nI 24) (by decide) (ck_get kk_Mo_readsKey 54 rfl) ?_
          first | refine wp_icmp_neN (t := 98) (ck_get kk_Mo_readsKey 55 rfl) (by decide) (by omega) (by omega) (fun hc87 => ?_) (fun hc87 => ?_) | refine wp_icmp_ne (t := 98) (ck_get kk_Mo_readsKey 55 rfl) (by decide) (fun hc87 => ?_) (fun hc87 => ?_)
          · omega
          · refine wp_aload_n rfl (ck_get kk_Mo_readsKey 56 rfl) ?_
            refine wp_iload_n rfl (ck_get kk_Mo_readsKey 57 rfl) ?_
            refine wp_iconst (v := nI 0) (by decide) (ck_get kk_Mo_readsKey 58 rfl) ?_
            refine wp_bipush (v := nI 24) (by decide) (ck_get kk_Mo_readsKey 59 rfl) ?_
            refine wp_cV3v (ck_get kk_Mo_readsKey 60 rfl) ml_Mo_356 (by omega) (Nat.le_of_ble_eq_true rfl) (by assumption) (Cv.to (m_out (L := tSt (ws.2 t)) (by exact hM0) (by rw [wk_2]; exact hr1) (by omega) (by omega) (by omega)) ?_)
            rintro M₁ ⟨K3, rfl, hR3, hU3⟩
            rw [wk_K]
            rw [wk_2] at hU3
            refine wp_aload_n rfl (ck_get kk_Mo_readsKey 61 rfl) ?_
            refine wp_iload_n rfl (ck_get kk_Mo_readsKey 62 rfl) ?_
            refine wp_iconst (v := nI 0) (by decide) (ck_get kk_Mo_readsKey 63 rfl) ?_
            refine wp_iload_n rfl (ck_get kk_Mo_readsKey 64 rfl) ?_
            refine wp_cV3v (ck_get kk_Mo_readsKey 65 rfl) ml_Mo_360 (by omega) (Nat.le_of_ble_eq_true rfl) (by assumption) (Cv.to (m_first (L := (tSt (ws.2 t)).eraseIdx (24 - 1)) (by exact hM0) (by rw [wk_2]; exact hR3) (by omega)) ?_)
            rintro M₁ ⟨K4, rfl, hR4, hU4⟩
            rw [wk_K]
            rw [wk_2] at hU4
            have hU5 : ∀ x, x < 92 * t ∨ 92 * t + 25 ≤ x → K4 x = _ := fun x hx => (hU4 x (by omega)).trans (hU3 x (by omega))
            exact fin2 K4 (by rw [e1]; exact hR4) (fun i hi => by rw [hU5 _ (by omega)]; exact hco i hi) (fun x hx => (hU5 x (by omega)).trans (hK1 x (by omega)))
        · omega
      · have e1 : stk1 (tSt (ws.2 t)) k = k :: tSt (ws.2 t) := by
          unfold stk1
          rw [if_pos h0, List.take_of_length_le (by omega)]
        refine wp_aload_n rfl (ck_get kk_Mo_readsKey 28 rfl) ?_
        refine wp_getR (ck_get kk_Mo_readsKey 29 rfl) fl_Mo_28 (by assumption) (by assumption) ?_
        refine wp_iload_n rfl (ck_get kk_Mo_readsKey 30 rfl) ?_
        refine wp_bipush (v := nI 25) (by decide) (ck_get kk_Mo_readsKey 31 rfl) ?_
        refine wp_iload_n rfl (ck_get kk_Mo_readsKey 32 rfl) ?_
        first | refine wp_iaddN (ck_get kk_Mo_readsKey 33 rfl) ?_ | refine wp_iadd (ck_get kk_Mo_readsKey 33 rfl) ?_
        refine wp_cS2i (ck_get kk_Mo_readsKey 34 rfl) ml_Mo_142 (by omega) (Nat.le_of_ble_eq_true rfl) (Ci.to (m_at) ?_)
        rintro _ M1 ⟨rfl, eqm1⟩
        obtain rfl := eqm1.symm
        first | refine wp_dup2l rfl (ck_get kk_Mo_readsKey 35 rfl) ?_ | refine wp_dup2 rfl rfl (ck_get kk_Mo_readsKey 35 rfl) ?_
        refine wp_ialdv (v := nI (tCo (ws.2 t) (posL (tSt (ws.2 t)) k))) (ck_get kk_Mo_readsKey 36 rfl) (by assumption) (ixk_nI (k := 92 * t + (25 + posL (tSt (ws.2 t)) k)) (by omega) (by omega)) (by rw [wk_2, ← h2 _ (by omega : posL (tSt (ws.2 t)) k < 25)]; congr 1; omega) ?_
        refine wp_iload rfl (ck_get kk_Mo_readsKey 37 rfl) ?_
        first | refine wp_iaddN (ck_get kk_Mo_readsKey 38 rfl) ?_ | refine wp_iadd (ck_get kk_Mo_readsKey 38 rfl) ?_
        refine wp_iast (ck_get kk_Mo_readsKey 39 rfl) (by assumption) (ixk_nI (k := 92 * t + (25 + posL (tSt (ws.2 t)) k)) (by omega) (by omega)) ?_
        rw [wk_sK]
        refine wp_iload_n rfl (ck_get kk_Mo_readsKey 40 rfl) ?_
        first | refine wp_if_leN (t := 75) (ck_get kk_Mo_readsKey 41 rfl) (by decide) (by omega) (fun hc62 => ?_) (fun hc62 => ?_) | refine wp_if_le (t := 75) (ck_get kk_Mo_readsKey 41 rfl) (by decide) (fun hc62 => ?_) (fun hc62 => ?_)
        · refine wp_aload_n rfl (ck_get kk_Mo_readsKey 48 rfl) ?_
          refine wp_getR (ck_get kk_Mo_readsKey 49 rfl) fl_Mo_28 (by assumption) (by assumption) ?_
          refine wp_iload_n rfl (ck_get kk_Mo_readsKey 50 rfl) ?_
          refine wp_iconst (v := nI 0) (by decide) (ck_get kk_Mo_readsKey 51 rfl) ?_
          refine wp_cS2i (ck_get kk_Mo_readsKey 52 rfl) ml_Mo_142 (by omega) (Nat.le_of_ble_eq_true rfl) (Ci.to (m_at) ?_)
          rintro _ M1 ⟨rfl, eqm1⟩
          obtain rfl := eqm1.symm
          refine wp_ialdv (v := nI (tSt (ws.2 t)).length) (ck_get kk_Mo_readsKey 53 rfl) (by assumption) (ixk_nI (k := 92 * t + 0) (by omega) (by omega)) (by rw [wk_2]; exact hr1.1) ?_
          refine wp_bipush (v := nI 24) (by decide) (ck_get kk_Mo_readsKey 54 rfl) ?_
          first | refine wp_icmp_neN (t := 98) (ck_get kk_Mo_readsKey 55 rfl) (by decide) (by omega) (by omega) (fun hc87 => ?_) (fun hc87 => ?_) | refine wp_icmp_ne (t := 98) (ck_get kk_Mo_readsKey 55 rfl) (by decide) (fun hc87 => ?_) (fun hc87 => ?_)
          · refine wp_aload_n rfl (ck_get kk_Mo_readsKey 61 rfl) ?_
            refine wp_iload_n rfl (ck_get kk_Mo_readsKey 62 rfl) ?_
            refine wp_iconst (v := nI 0) (by decide) (ck_get kk_Mo_readsKey 63 rfl) ?_
            refine wp_iload_n rfl (ck_get kk_Mo_readsKey 64 rfl) ?_
            refine wp_cV3v (ck_get kk_Mo_readsKey 65 rfl) ml_Mo_360 (by omega) (Nat.le_of_ble_eq_true rfl) (by assumption) (Cv.to (m_first (L := tSt (ws.2 t)) (by exact hM0) (by rw [wk_2]; exact hr1) (by omega)) ?_)
            rintro M₁ ⟨K4, rfl, hR4, hU4⟩
            rw [wk_K]
            rw [wk_2] at hU4
            have hU5 : ∀ x, x < 92 * t ∨ 92 * t + 25 ≤ x → K4 x = _ := fun x hx => hU4 x (by omega)
            exact fin2 K4 (by rw [e1]; exact hR4) (fun i hi => by rw [hU5 _ (by omega)]; exact hco i hi) (fun x hx => (hU5 x (by omega)).trans (hK1 x (by omega)))
          · omega
        · omega
    · have e1 : stk1 (tSt (ws.2 t)) k = k :: (tSt (ws.2 t)).eraseIdx (posL (tSt (ws.2 t)) k - 1) := by
        unfold stk1
        rw [if_neg h0]
      have hel := eraseIdx_len (L := tSt (ws.2 t)) (p := posL (tSt (ws.2 t)) k - 1) (by omega)
      refine wp_aload_n rfl (ck_get kk_Mo_readsKey 28 rfl) ?_
      refine wp_getR (ck_get kk_Mo_readsKey 29 rfl) fl_Mo_28 (by assumption) (by assumption) ?_
      refine wp_iload_n rfl (ck_get kk_Mo_readsKey 30 rfl) ?_
      refine wp_bipush (v := nI 25) (by decide) (ck_get kk_Mo_readsKey 31 rfl) ?_
      refine wp_iload_n rfl (ck_get kk_Mo_readsKey 32 rfl) ?_
      first | refine wp_iaddN (ck_get kk_Mo_readsKey 33 rfl) ?_ | refine wp_iadd (ck_get kk_Mo_readsKey 33 rfl) ?_
      refine wp_cS2i (ck_get kk_Mo_readsKey 34 rfl) ml_Mo_142 (by omega) (Nat.le_of_ble_eq_true rfl) (Ci.to (m_at) ?_)
      rintro _ M1 ⟨rfl, eqm1⟩
      obtain rfl := eqm1.symm
      first | refine wp_dup2l rfl (ck_get kk_Mo_readsKey 35 rfl) ?_ | refine wp_dup2 rfl rfl (ck_get kk_Mo_readsKey 35 rfl) ?_
      refine wp_ialdv (v := nI (tCo (ws.2 t) (posL (tSt (ws.2 t)) k))) (ck_get kk_Mo_readsKey 36 rfl) (by assumption) (ixk_nI (k := 92 * t + (25 + posL (tSt (ws.2 t)) k)) (by omega) (by omega)) (by rw [wk_2, ← h2 _ (by omega : posL (tSt (ws.2 t)) k < 25)]; congr 1; omega) ?_
      refine wp_iload rfl (ck_get kk_Mo_readsKey 37 rfl) ?_
      first | refine wp_iaddN (ck_get kk_Mo_readsKey 38 rfl) ?_ | refine wp_iadd (ck_get kk_Mo_readsKey 38 rfl) ?_
      refine wp_iast (ck_get kk_Mo_readsKey 39 rfl) (by assumption) (ixk_nI (k := 92 * t + (25 + posL (tSt (ws.2 t)) k)) (by omega) (by omega)) ?_
      rw [wk_sK]
      refine wp_iload_n rfl (ck_get kk_Mo_readsKey 40 rfl) ?_
      first | refine wp_if_leN (t := 75) (ck_get kk_Mo_readsKey 41 rfl) (by decide) (by omega) (fun hc62 => ?_) (fun hc62 => ?_) | refine wp_if_le (t := 75) (ck_get kk_Mo_readsKey 41 rfl) (by decide) (fun hc62 => ?_) (fun hc62 => ?_)
      · omega
      · refine wp_aload_n rfl (ck_get kk_Mo_readsKey 42 rfl) ?_
        refine wp_iload_n rfl (ck_get kk_Mo_readsKey 43 rfl) ?_
        refine wp_iconst (v := nI 0) (by decide) (ck_get kk_Mo_readsKey 44 rfl) ?_
        refine wp_iload_n rfl (ck_get kk_Mo_readsKey 45 rfl) ?_
        refine wp_cV3v (ck_get kk_Mo_readsKey 46 rfl) ml_Mo_356 (by omega) (Nat.le_of_ble_eq_true rfl) (by assumption) (Cv.to (m_out (L := tSt (ws.2 t)) (by exact hM0) (by rw [wk_2]; exact hr1) (by omega) hpl (by omega)) ?_)
        rintro M₁ ⟨K3, rfl, hR3, hU3⟩
        rw [wk_K]
        rw [wk_2] at hU3
        refine wp_goto (t := 98) (ck_get kk_Mo_readsKey 47 rfl) (by decide) ?_
        refine wp_aload_n rfl (ck_get kk_Mo_readsKey 61 rfl) ?_
        refine wp_iload_n rfl (ck_get kk_Mo_readsKey 62 rfl) ?_
        refine wp_iconst (v := nI 0) (by decide) (ck_get kk_Mo_readsKey 63 rfl) ?_
        refine wp_iload_n rfl (ck_get kk_Mo_readsKey 64 rfl) ?_
        refine wp_cV3v (ck_get kk_Mo_readsKey 65 rfl) ml_Mo_360 (by omega) (Nat.le_of_ble_eq_true rfl) (by assumption) (Cv.to (m_first (L := (tSt (ws.2 t)).eraseIdx (posL (tSt (ws.2 t)) k - 1)) (by exact hM0) (by rw [wk_2]; exact hR3) (by omega)) ?_)
        rintro M₁ ⟨K4, rfl, hR4, hU4⟩
        rw [wk_K]
        rw [wk_2] at hU4
        have hU5 : ∀ x, x < 92 * t ∨ 92 * t + 25 ≤ x → K4 x = _ := fun x hx => (hU4 x (by omega)).trans (hU3 x (by omega))
        exact fin2 K4 (by rw [e1]; exact hR4) (fun i hi => by rw [hU5 _ (by omega)]; exact hco i hi) (fun x hx => (hU5 x (by omega)).trans (hK1 x (by omega)))
  refine cw_entry 2 pf_Mo_readsKey rfl ?_
  cases br with
  | true =>
    refine wp_aload_n rfl (ck_get kk_Mo_readsKey 0 rfl) ?_
    refine wp_iload_n rfl (ck_get kk_Mo_readsKey 1 rfl) ?_
    refine wp_iconst (v := nI 0) (by decide) (ck_get kk_Mo_readsKey 2 rfl) ?_
    refine wp_iload_n rfl (ck_get kk_Mo_readsKey 3 rfl) ?_
    refine wp_cV3i (ck_get kk_Mo_readsKey 4 rfl) ml_Mo_159 (by omega) (Nat.le_of_ble_eq_true rfl) (by assumption) (Ci.to (m_place (L := tSt (ws.2 t)) (by exact hM0) (by rw [wk_2]; exact h1) (by omega)) ?_)
    rintro _ M1 ⟨rfl, eqm1⟩
    obtain rfl := eqm1.symm
    refine wp_istore_n (ck_get kk_Mo_readsKey 5 rfl) (by decide) rfl ?_
    refine wp_aload_n rfl (ck_get kk_Mo_readsKey 6 rfl) ?_
    refine wp_iload_n rfl (ck_get kk_Mo_readsKey 7 rfl) ?_
    refine wp_iload_n rfl (ck_get kk_Mo_readsKey 8 rfl) ?_
    refine wp_cV2i (ck_get kk_Mo_readsKey 9 rfl) ml_Mo_166 (by omega) (Nat.le_of_ble_eq_true rfl) (by assumption) (Ci.to (m_costsFor hM0 hs hT ht hk hmd hmx hR hV hb) ?_)
    rintro x₁ M₁ ⟨hx1, A2, F2, rfl, hF2⟩
    rw [hx1, hc1]
    refine wp_istore (ck_get kk_Mo_readsKey 10 rfl) (by decide) rfl ?_
    refine wp_aload_n rfl (ck_get kk_Mo_readsKey 11 rfl) ?_
    refine wp_iload_n rfl (ck_get kk_Mo_readsKey 12 rfl) ?_
    refine wp_iload_n rfl (ck_get kk_Mo_readsKey 13 rfl) ?_
    refine wp_cV2i (ck_get kk_Mo_readsKey 14 rfl) ml_Mo_169 (by omega) (Nat.le_of_ble_eq_true rfl) (by assumption) (Ci.to (m_isBarred hM0 hs hT ht hk hmd hmx hR hV hF2.2 hc2) ?_)
    rintro x₂ M₂ ⟨hx2, A3, F3, rfl, hF3⟩
    rw [hx2]
    first | refine wp_if_eqN (t := 43) (ck_get kk_Mo_readsKey 15 rfl) (by decide) (by omega) (fun hc22 => ?_) (fun hc22 => ?_) | refine wp_if_eq (t := 43) (ck_get kk_Mo_readsKey 15 rfl) (by decide) (fun hc22 => ?_) (fun hc22 => ?_)
    · exact absurd hc22 (by decide)
    · refine wp_aload_n rfl (ck_get kk_Mo_readsKey 16 rfl) ?_
      refine wp_getR (ck_get kk_Mo_readsKey 17 rfl) fl_Mo_28 (by assumption) (by assumption) ?_
      refine wp_iload_n rfl (ck_get kk_Mo_readsKey 18 rfl) ?_
      refine wp_bipush (v := nI 25) (by decide) (ck_get kk_Mo_readsKey 19 rfl) ?_
      refine wp_cS2i (ck_get kk_Mo_readsKey 20 rfl) ml_Mo_142 (by omega) (Nat.le_of_ble_eq_true rfl) (Ci.to (m_at) ?_)
      rintro _ M1 ⟨rfl, eqm1⟩
      obtain rfl := eqm1.symm
      first | refine wp_dup2l rfl (ck_get kk_Mo_readsKey 21 rfl) ?_ | refine wp_dup2 rfl rfl (ck_get kk_Mo_readsKey 21 rfl) ?_
      refine wp_ialdv (v := nI (tCo (ws.2 t) 0)) (ck_get kk_Mo_readsKey 22 rfl) (by assumption) (ixk_nI (k := 92 * t + 25) (by omega) (by omega)) (by rw [wk_2]; exact h2 0 (by omega)) ?_
      refine wp_iload rfl (ck_get kk_Mo_readsKey 23 rfl) ?_
      first | refine wp_iaddN (ck_get kk_Mo_readsKey 24 rfl) ?_ | refine wp_iadd (ck_get kk_Mo_readsKey 24 rfl) ?_
      refine wp_iast (ck_get kk_Mo_readsKey 25 rfl) (by assumption) (ixk_nI (k := 92 * t + 25) (by omega) (by omega)) ?_
      rw [wk_sK]
      refine wp_iconst (v := nI 0) (by decide) (ck_get kk_Mo_readsKey 26 rfl) ?_
      refine wp_ireturn (ck_get kk_Mo_readsKey 27 rfl) rfl rfl ⟨_, rfl, ?_⟩
      refine ⟨rfl, _, P, A3, F3, rfl, ?_, fun x hx => up1_ne (by omega), hF2.trans hF3⟩
      unfold rdW
      rw [if_pos rfl]
      refine hs.set hT ht ?_ (fun x hx => up1_ne (by omega)) (fun x _ => rfl)
      rw [Nat.zero_add, Nat.zero_add]
      refine ⟨h1.kept (fun x a b => up1_ne (by omega)), fun i hi => ?_, h3.kept (fun x a b => up1_ne (by omega)), by rw [up1_ne (by omega)]; exact h4, h5, h6.kept (fun x a b => up1_ne (by omega))⟩
      show _ = nI (cos1 (tCo (ws.2 t)) 0 c i)
      unfold cos1
      by_cases hi0 : i = 0
      · subst hi0; rw [Nat.add_zero, up1_eq, up1_eq]
      · rw [up1_ne (by omega), up1_ne hi0]; exact h2 i hi
  | false =>
    refine wp_aload_n rfl (ck_get kk_Mo_readsKey 0 rfl) ?_
    refine wp_iload_n rfl (ck_get kk_Mo_readsKey 1 rfl) ?_
    refine wp_iconst (v := nI 0) (by decide) (ck_get kk_Mo_readsKey 2 rfl) ?_
    refine wp_iload_n rfl (ck_get kk_Mo_readsKey 3 rfl) ?_
    refine wp_cV3i (ck_get kk_Mo_readsKey 4 rfl) ml_Mo_159 (by omega) (Nat.le_of_ble_eq_true rfl) (by assumption) (Ci.to (m_place (L := tSt (ws.2 t)) (by exact hM0) (by rw [wk_2]; exact h1) (by omega)) ?_)
    rintro _ M1 ⟨rfl, eqm1⟩
    obtain rfl := eqm1.symm
    refine wp_istore_n (ck_get kk_Mo_readsKey 5 rfl) (by decide) rfl ?_
    refine wp_aload_n rfl (ck_get kk_Mo_readsKey 6 rfl) ?_
    refine wp_iload_n rfl (ck_get kk_Mo_readsKey 7 rfl) ?_
    refine wp_iload_n rfl (ck_get kk_Mo_readsKey 8 rfl) ?_
    refine wp_cV2i (ck_get kk_Mo_readsKey 9 rfl) ml_Mo_166 (by omega) (Nat.le_of_ble_eq_true rfl) (by assumption) (Ci.to (m_costsFor hM0 hs hT ht hk hmd hmx hR hV hb) ?_)
    rintro x₁ M₁ ⟨hx1, A2, F2, rfl, hF2⟩
    rw [hx1, hc1]
    refine wp_istore (ck_get kk_Mo_readsKey 10 rfl) (by decide) rfl ?_
    refine wp_aload_n rfl (ck_get kk_Mo_readsKey 11 rfl) ?_
    refine wp_iload_n rfl (ck_get kk_Mo_readsKey 12 rfl) ?_
    refine wp_iload_n rfl (ck_get kk_Mo_readsKey 13 rfl) ?_
    refine wp_cV2i (ck_get kk_Mo_readsKey 14 rfl) ml_Mo_169 (by omega) (Nat.le_of_ble_eq_true rfl) (by assumption) (Ci.to (m_isBarred hM0 hs hT ht hk hmd hmx hR hV hF2.2 hc2) ?_)
    rintro x₂ M₂ ⟨hx2, A3, F3, rfl, hF3⟩
    rw [hx2]
    first | refine wp_if_eqN (t := 43) (ck_get kk_Mo_readsKey 15 rfl) (by decide) (by omega) (fun hc22 => ?_) (fun hc22 => ?_) | refine wp_if_eq (t := 43) (ck_get kk_Mo_readsKey 15 rfl) (by decide) (fun hc22 => ?_) (fun hc22 => ?_)
    · refine Wp.mono (fin A3 F3 (hF2.trans hF3)) ?_
      rintro r M₃ ⟨x, rfl, hx, K2, P2, A4, F4, hM4, hs4, hU4, hP4, hF4⟩
      refine ⟨x, rfl, hx, K2, P2, A4, F4, hM4, ?_, fun x hx => hU4 x (by omega), hF4⟩
      unfold rdW
      rw [if_neg (by decide)]
      refine hs.set hT ht ?_ (fun x hx => hU4 x (by omega)) (fun x hx => hP4 x (by omega))
      rw [Nat.zero_add, Nat.zero_add]
      exact hs4
    · exact absurd rfl hc22
end MRW2

/-! ===== months: an act that is drawn ===== -/
theorem setT_self {ws : WS} {t : Nat} : setT ws t (ws.2 t) = ws := by
  refine Prod.ext rfl ?_
  funext i
  show (if i = t then ws.2 t else ws.2 i) = ws.2 i
  by_cases h : i = t
  · subst h; rw [if_pos rfl]
  · rw [if_neg h]
section DAC
variable (res : (Nat → Int32) → Int32 × Int32) (md salt : Nat)
/-- tenant t, key k, what w: is a read cold, the world then -/
def daW (ws : WS) (t k w : Nat) : Nat × WS :=
  if w < 6 then ((if rxA res md ws t k = 0 then 1 else 0), rdA res md salt ws t k)
  else if w = 7 then (0, hvW ws) else (0, setT ws t (drT (ws.2 t) k))
def dmR : Nat → Nat → Nat → WS → Nat × WS → Prop
  | 0, _, cold, ws, R => R = (cold, ws)
  | n + 1, x, cold, ws, R => (¬ ws.1 < 999 ∧ R = (cold, ws)) ∨ (ws.1 < 999 ∧ ∃ a b c, dw x = a ∧ dw a = b ∧ dw b = c ∧ dmR n c (cold + (daW res md salt ws (a % 4) (b % 20) (c % 8)).1) (daW res md salt ws (a % 4) (b % 20) (c % 8)).2 R)
theorem dmR_ex : ∀ n x cold (ws : WS), ∃ R, dmR res md salt n x cold ws R
  | 0, _, cold, ws => ⟨(cold, ws), rfl⟩
  | n + 1, x, cold, ws => by
    by_cases h : ws.1 < 999
    · obtain ⟨R, hR⟩ := dmR_ex n (dw (dw (dw x))) (cold + (daW res md salt ws (dw x % 4) (dw (dw x) % 20) (dw (dw (dw x)) % 8)).1) (daW res md salt ws (dw x % 4) (dw (dw x) % 20) (dw (dw (dw x)) % 8)).2
      exact ⟨R, Or.inr ⟨h, dw x, dw (dw x), dw (dw (dw x)), rfl, rfl, rfl, hR⟩⟩
    · exact ⟨(cold, ws), Or.inl ⟨h, rfl⟩⟩
end DAC
section DAD
variable {res : (Nat → Int32) → Int32 × Int32} {md salt : Nat}
theorem daW_ok (hR : ResOK res) {ws : WS} {t k w : Nat} (h : WOK ws) (ht : t < 4) (hk : k < 1000) (h9 : ws.1 < 999) : WOK (daW res md salt ws t k w).2 ∧ tot (daW res md salt ws t k w).2 ≤ tot ws + 99 ∧ (daW res md salt ws t k w).1 ≤ 1 := by
  unfold daW
  by_cases c : w < 6
  · rw [if_pos c]
    refine ⟨h.rdA ht hk, tot_rdA hR, ?_⟩
    show (if rxA res md ws t k = 0 then 1 else 0) ≤ 1
    split <;> omega
  · rw [if_neg c]
    by_cases c2 : w = 7
    · rw [if_pos c2]
      exact ⟨h.hv h9, Nat.le_trans tot_hv (Nat.le_add_right _ _), Nat.zero_le _⟩
    · rw [if_neg c2]
      exact ⟨h.set (h.2 t ht).dr, Nat.le_trans tot_dr (Nat.le_add_right _ _), Nat.zero_le _⟩
variable {g : Gl} {M : Mem} {K A F : Nat → Int32} {P : Nat → Int64}
theorem m_drawsA {x a k : Nat} (ha : dw x = a) (hM : MoAt (mT M) (mR M) 1020) (h63 : F 63 = nI x) (hx : x ≤ 1000003) (hk : 0 < k) (hk2 : k < 1000) : Ci g Y_Mo_draws 0 [.ref 1020, .int (nI k)] (wkM M 1020 K P A F) (fun v M2 => v = nI (a % k) ∧ M2 = wkM M 1020 K P A (up1 F 63 (nI a))) := by
  subst ha
  have q := m_draws (g := g) (M := wkM M 1020 K P A F) (k := k) (x := x) (by exact hM) (by rw [wk_o]; exact h63) hx hk hk2
  rw [wk_sF] at q
  exact q
theorem m_drawnAct {x a b c : Nat} {ws : WS} (ha : dw x = a) (hb : dw a = b) (hc : dw b = c) (hM : MoAt (mT M) (mR M) 1020) (hs : MwHas K P 0 0 ws) (hT : WOK ws) (hB : tot ws < 2147483648) (hN : MoN K res md salt) (h27 : ∃ b, F 27 = bI b) (h63 : F 63 = nI x) (hx : x ≤ 1000003) :
    Ci g Y_Mo_drawnAct 130 [.ref 1020] (wkM M 1020 K P A F) (fun v M2 => v = nI (daW res md salt ws (a % 4) (b % 20) (c % 8)).1 ∧ ∃ K2 P2 A2 F2, M2 = wkM M 1020 K2 P2 A2 F2 ∧ MwHas K2 P2 0 0 (daW res md salt ws (a % 4) (b % 20) (c % 8)).2 ∧ (∀ y, 369 ≤ y → K2 y = K y) ∧ F2 63 = nI c ∧ (∀ k, k < 25 ∨ 29 ≤ k → k ≠ 63 → F2 k = F k) ∧ ∃ b, F2 27 = bI b) := by
  have da : a < 1000003 := by rw [← ha]; exact dw_lt x
  have db : b < 1000003 := by rw [← hb]; exact dw_lt a
  have dc : c < 1000003 := by rw [← hc]; exact dw_lt b
  have q1 := m_drawsA (g := g) (K := K) (P := P) (A := A) (k := 4) ha hM h63 hx (by omega) (by omega)
  have q2 := m_drawsA (g := g) (K := K) (P := P) (A := A) (F := up1 F 63 (nI a)) (k := 20) hb hM up1_eq (by omega) (by omega) (by omega)
  have q3 := m_drawsA (g := g) (K := K) (P := P) (A := A) (F := up1 (up1 F 63 (nI a)) 63 (nI b)) (k := 8) hc hM up1_eq (by omega) (by omega) (by omega)
  clear ha hb hc
  rw [up1_up1] at q2
  rw [up1_up1, up1_up1] at q3
  generalize ht : a % 4 = t at q1 ⊢
  generalize hk : b % 20 = k at q2 ⊢
  generalize hw : c % 8 = w at q3 ⊢
  have t4 : t < 4 := by omega
  have k20 : k < 20 := by omega
  have w8 : w < 8 := by omega
  have h27' : ∃ b, up1 F 63 (nI c) 27 = bI b := by rw [up1_ne (by omega)]; exact h27
  have hF3 : ∀ k, k < 25 ∨ 29 ≤ k → k ≠ 63 → up1 F 63 (nI c) k = F k := fun k _ h => up1_ne h
  have to0 := hM.1
  have hTt := hT.2 t t4
  have hl24 := hTt.1
  have hpl := posL_le (L := tSt (ws.2 t)) (k := k)
  have hRow := (hs.t (b := 0) (pb := 0) t4).1
  refine cw_entry 3 pf_Mo_drawnAct rfl ?_
  refine wp_aload_n rfl (ck_get kk_Mo_drawnAct 0 rfl) ?_
  refine wp_iconst (v := nI 4) (by decide) (ck_get kk_Mo_drawnAct 1 rfl) ?_
  refine wp_cV1i (ck_get kk_Mo_drawnAct 2 rfl) ml_Mo_556 (by omega) (Nat.le_of_ble_eq_true rfl) (by assumption) (Ci.to (q1) ?_)
  rintro v M1 ⟨rfl, rfl⟩
  refine wp_istore_n (ck_get kk_Mo_drawnAct 3 rfl) (by decide) rfl ?_
  refine wp_aload_n rfl (ck_get kk_Mo_drawnAct 4 rfl) ?_
  refine wp_bipush (v := nI 20) (by decide) (ck_get kk_Mo_drawnAct 5 rfl) ?_
  refine wp_cV1i (ck_get kk_Mo_drawnAct 6 rfl) ml_Mo_556 (by omega) (Nat.le_of_ble_eq_true rfl) (by assumption) (Ci.to (q2) ?_)
  rintro v M1 ⟨rfl, rfl⟩
  refine wp_istore_n (ck_get kk_Mo_drawnAct 7 rfl) (by decide) rfl ?_
  refine wp_aload_n rfl (ck_get kk_Mo_drawnAct 8 rfl) ?_
  refine wp_bipush (v := nI 8) (by decide) (ck_get kk_Mo_drawnAct 9 rfl) ?_
  refine wp_cV1i (ck_get kk_Mo_drawnAct 10 rfl) ml_Mo_556 (by omega) (Nat.le_of_ble_eq_true rfl) (by assumption) (Ci.to (q3) ?_)
  rintro v M1 ⟨rfl, rfl⟩
  refine wp_istore_n (ck_get kk_Mo_drawnAct 11 rfl) (by decide) rfl ?_
  by_cases h6 : w < 6
  · have hrl := rxA_le (res := res) (md := md) (k := k) hT t4
    unfold daW
    rw [if_pos h6]
    refine wp_iload_n rfl (ck_get kk_Mo_drawnAct 12 rfl) ?_
    refine wp_bipush (v := nI 6) (by decide) (ck_get kk_Mo_drawnAct 13 rfl) ?_
    first | refine wp_icmp_geN (t := 41) (ck_get kk_Mo_drawnAct 14 rfl) (by decide) (by omega) (by omega) (fun hc23 => ?_) (fun hc23 => ?_) | refine wp_icmp_ge (t := 41) (ck_get kk_Mo_drawnAct 14 rfl) (by decide) (fun hc23 => ?_) (fun hc23 => ?_)
    · omega
    · refine wp_aload_n rfl (ck_get kk_Mo_drawnAct 15 rfl) ?_
      refine wp_iload_n rfl (ck_get kk_Mo_drawnAct 16 rfl) ?_
      refine wp_iload_n rfl (ck_get kk_Mo_drawnAct 17 rfl) ?_
      refine wp_cV2i (ck_get kk_Mo_drawnAct 18 rfl) ml_Mo_185 (by omega) (Nat.le_of_ble_eq_true rfl) (by assumption) (Ci.to (m_readA (res := res) (md := md) (salt := salt) (by exact hM) hs hT t4 (by omega) hN h27') ?_)
      rintro y M1 ⟨hx1, K2, P2, A2, F2, e1, b1, b2, b3⟩
      subst e1 hx1
      first | refine wp_if_neN (t := 39) (ck_get kk_Mo_drawnAct 19 rfl) (by decide) (by omega) (fun hc32 => ?_) (fun hc32 => ?_) | refine wp_if_ne (t := 39) (ck_get kk_Mo_drawnAct 19 rfl) (by decide) (fun hc32 => ?_) (fun hc32 => ?_)
      · refine wp_iconst (v := nI 0) (by decide) (ck_get kk_Mo_drawnAct 22 rfl) ?_
        refine wp_ireturn (ck_get kk_Mo_drawnAct 23 rfl) rfl rfl ⟨_, rfl, ?_⟩
        refine ⟨?_, K2, P2, A2, F2, rfl, b1, b2, by rw [b3.1 63 (by omega), up1_eq], fun k z1 z2 => by rw [b3.1 k z1]; exact hF3 k z1 z2, b3.2⟩
        show nI 0 = nI (if rxA res md ws t k = 0 then 1 else 0)
        rw [if_neg (by omega)]
      · refine wp_iconst (v := nI 1) (by decide) (ck_get kk_Mo_drawnAct 20 rfl) ?_
        refine wp_goto (t := 40) (ck_get kk_Mo_drawnAct 21 rfl) (by decide) ?_
        refine wp_ireturn (ck_get kk_Mo_drawnAct 23 rfl) rfl rfl ⟨_, rfl, ?_⟩
        refine ⟨?_, K2, P2, A2, F2, rfl, b1, b2, by rw [b3.1 63 (by omega), up1_eq], fun k z1 z2 => by rw [b3.1 k z1]; exact hF3 k z1 z2, b3.2⟩
        show nI 1 = nI (if rxA res md ws t k = 0 then 1 else 0)
        rw [if_pos (by omega)]
  · by_cases h7 : w = 7
    · unfold daW
      rw [if_neg h6, if_pos h7]
      refine wp_iload_n rfl (ck_get kk_Mo_drawnAct 12 rfl) ?_
      refine wp_bipush (v := nI 6) (by decide) (ck_get kk_Mo_drawnAct 13 rfl) ?_
      first | refine wp_icmp_geN (t := 41) (ck_get kk_Mo_drawnAct 14 rfl) (by decide) (by omega) (by omega) (fun hc23 => ?_) (fun hc23 => ?_) | refine wp_icmp_ge (t := 41) (ck_get kk_Mo_drawnAct 14 rfl) (by decide) (fun hc23 => ?_) (fun hc23 => ?_)
      · refine wp_iload_n rfl (ck_get kk_Mo_drawnAct 24 rfl) ?_
        refine wp_bipush (v := nI 7) (by decide) (ck_get kk_Mo_drawnAct 25 rfl) ?_
        first | refine wp_icmp_neN (t := 55) (ck_get kk_Mo_drawnAct 26 rfl) (by decide) (by omega) (by omega) (fun hc44 => ?_) (fun hc44 => ?_) | refine wp_icmp_ne (t := 55) (ck_get kk_Mo_drawnAct 26 rfl) (by decide) (fun hc44 => ?_) (fun hc44 => ?_)
        · omega
        · refine wp_aload_n rfl (ck_get kk_Mo_drawnAct 27 rfl) ?_
          refine wp_cV0i (ck_get kk_Mo_drawnAct 28 rfl) ml_Mo_385 (by omega) (Nat.le_of_ble_eq_true rfl) (by assumption) (Ci.to (m_timeT (by exact hM) hs hT hB) ?_)
          rintro y M1 ⟨hx1, K2, P2, e1, b1, b2⟩
          subst e1
          refine wp_pop rfl (ck_get kk_Mo_drawnAct 29 rfl) ?_
          refine wp_goto (t := 71) (ck_get kk_Mo_drawnAct 30 rfl) (by decide) ?_
          refine wp_iconst (v := nI 0) (by decide) (ck_get kk_Mo_drawnAct 41 rfl) ?_
          refine wp_ireturn (ck_get kk_Mo_drawnAct 42 rfl) rfl rfl ⟨_, rfl, ?_⟩
          exact ⟨rfl, K2, P2, A, _, rfl, b1, b2, up1_eq, hF3, h27'⟩
      · omega
    · unfold daW
      rw [if_neg h6, if_neg h7]
      refine wp_iload_n rfl (ck_get kk_Mo_drawnAct 12 rfl) ?_
      refine wp_bipush (v := nI 6) (by decide) (ck_get kk_Mo_drawnAct 13 rfl) ?_
      first | refine wp_icmp_geN (t := 41) (ck_get kk_Mo_drawnAct 14 rfl) (by decide) (by omega) (by omega) (fun hc23 => ?_) (fun hc23 => ?_) | refine wp_icmp_ge (t := 41) (ck_get kk_Mo_drawnAct 14 rfl) (by decide) (fun hc23 => ?_) (fun hc23 => ?_)
      · refine wp_iload_n rfl (ck_get kk_Mo_drawnAct 24 rfl) ?_
        refine wp_bipush (v := nI 7) (by decide) (ck_get kk_Mo_drawnAct 25 rfl) ?_
        first | refine wp_icmp_neN (t := 55) (ck_get kk_Mo_drawnAct 26 rfl) (by decide) (by omega) (by omega) (fun hc44 => ?_) (fun hc44 => ?_) | refine wp_icmp_ne (t := 55) (ck_get kk_Mo_drawnAct 26 rfl) (by decide) (fun hc44 => ?_) (fun hc44 => ?_)
        · refine wp_aload_n rfl (ck_get kk_Mo_drawnAct 31 rfl) ?_
          refine wp_iload_n rfl (ck_get kk_Mo_drawnAct 32 rfl) ?_
          refine wp_iconst (v := nI 0) (by decide) (ck_get kk_Mo_drawnAct 33 rfl) ?_
          refine wp_iload_n rfl (ck_get kk_Mo_drawnAct 34 rfl) ?_
          refine wp_cV3i (ck_get kk_Mo_drawnAct 35 rfl) ml_Mo_159 (by omega) (Nat.le_of_ble_eq_true rfl) (by assumption) (Ci.to (m_place (row := 0) (L := tSt (ws.2 t)) (by exact hM) (by rw [wk_2]; exact hRow) (by omega)) ?_)
          rintro _ M1 ⟨rfl, eqm1⟩
          obtain rfl := eqm1.symm
          by_cases h0 : posL (tSt (ws.2 t)) k = 0
          · have ed : drT (ws.2 t) k = ws.2 t := by unfold drT; rw [if_pos h0]
            rw [ed, setT_self]
            first | refine wp_if_leN (t := 71) (ck_get kk_Mo_drawnAct 36 rfl) (by decide) (by omega) (fun hc62 => ?_) (fun hc62 => ?_) | refine wp_if_le (t := 71) (ck_get kk_Mo_drawnAct 36 rfl) (by decide) (fun hc62 => ?_) (fun hc62 => ?_)
            · refine wp_iconst (v := nI 0) (by decide) (ck_get kk_Mo_drawnAct 41 rfl) ?_
              refine wp_ireturn (ck_get kk_Mo_drawnAct 42 rfl) rfl rfl ⟨_, rfl, ?_⟩
              exact ⟨rfl, K, P, A, _, rfl, hs, fun _ _ => rfl, up1_eq, hF3, h27'⟩
            · omega
          · skip
            first | refine wp_if_leN (t := 71) (ck_get kk_Mo_drawnAct 36 rfl) (by decide) (by omega) (fun hc62 => ?_) (fun hc62 => ?_) | refine wp_if_le (t := 71) (ck_get kk_Mo_drawnAct 36 rfl) (by decide) (fun hc62 => ?_) (fun hc62 => ?_)
            · omega
            · refine wp_aload_n rfl (ck_get kk_Mo_drawnAct 37 rfl) ?_
              refine wp_iload_n rfl (ck_get kk_Mo_drawnAct 38 rfl) ?_
              refine wp_iload_n rfl (ck_get kk_Mo_drawnAct 39 rfl) ?_
              refine wp_cV2v (ck_get kk_Mo_drawnAct 40 rfl) ml_Mo_382 (by omega) (Nat.le_of_ble_eq_true rfl) (by assumption) (Cv.to (m_dropT (by exact hM) hs hT t4 h0) ?_)
              rintro M1 ⟨K2, e1, b1, b2⟩
              subst e1
              refine wp_iconst (v := nI 0) (by decide) (ck_get kk_Mo_drawnAct 41 rfl) ?_
              refine wp_ireturn (ck_get kk_Mo_drawnAct 42 rfl) rfl rfl ⟨_, rfl, ?_⟩
              exact ⟨rfl, K2, P, A, _, rfl, b1, b2, up1_eq, hF3, h27'⟩
        · omega
      · omega
end DAD

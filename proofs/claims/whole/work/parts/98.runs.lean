/-! ===== the model runs a clause of orders ===== -/
abbrev lgM (M : Mem) (o : Nat) (Sm : Nat → Int64) : Mem := mk2 M (mI M) (up1 (mJ M) (o + 34) Sm)
/-- the model's memory while orders run -/
def MoO (M : Mem) (o : Nat) (K0 F0 : Nat → Int32) (p : Nat × UF) (s : OS) (M2 : Mem) : Prop := ∃ Sm U UP K P A F, M2 = wkM (ubM (lgM M o Sm) o U UP) o K P A F ∧ MwHas K P 0 0 s.1 ∧ MuHas U UP (psL s.2.1 p).1 (psL s.2.1 p).2 ∧ (∀ x, 369 ≤ x → K x = K0 x) ∧ F 36 = nI (psL s.2.1 p).1 ∧ F 30 = nI s.2.2.1 ∧ F 31 = s.2.2.2 ∧ (∃ b, F 27 = bI b) ∧ ∀ k, k < 25 ∨ (29 ≤ k ∧ k < 56) ∨ 60 ≤ k → k ≠ 36 → k ≠ 30 → k ≠ 31 → F k = F0 k
section RNA
variable {M : Mem} {o : Nat} {K A F U K0 F0 : Nat → Int32} {P UP Sm : Nat → Int64} {p : Nat × UF} {s : OS}
theorem GaR.wk {M2 : Mem} (h : GaR (wkM (ubM (lgM M o Sm) o U UP) o K P A F) o M2) : ∃ Sm2 F2, M2 = wkM (ubM (lgM M o Sm2) o U UP) o K P A F2 ∧ ∀ k, k < 25 ∨ (29 ≤ k ∧ k < 56) ∨ 60 ≤ k → F2 k = F k := by
  obtain ⟨F2, Sm2, rfl, h2⟩ := h
  refine ⟨Sm2, F2, ?_, fun k hk => by rw [h2 k hk, wk_o]⟩
  refine mk2_ext (M := M) ?_ ?_
  · show up1 (up1 (up1 (up1 (up1 (mI M) (o + 16) U) (o + 2) K) (o + 15) A) o F) o F2 = up1 (up1 (up1 (up1 (mI M) (o + 16) U) (o + 2) K) (o + 15) A) o F2
    rw [up1_up1]
  · show up1 (up1 (up1 (up1 (mJ M) (o + 34) Sm) (o + 17) UP) (o + 3) P) (o + 34) Sm2 = up1 (up1 (up1 (mJ M) (o + 34) Sm2) (o + 17) UP) (o + 3) P
    rw [up1_comm _ (by omega : o + 3 ≠ o + 34), up1_comm _ (by omega : o + 17 ≠ o + 34), up1_up1]
theorem lg_J {q : Nat} : mJ (wkM (ubM (lgM M o Sm) o U UP) o K P A F) (o + 34) q = Sm q := by
  rw [ob_J]; show up1 (mJ M) (o + 34) Sm (o + 34) q = _; rw [up1_eq]
theorem MoO.ga {W M2 : Mem} (h : MoO M o K0 F0 p s W) (hG : GaR W o M2) (hb : ∃ b, mI M2 o 27 = bI b) : MoO M o K0 F0 p s M2 := by
  obtain ⟨Sm, U, UP, K, P, A, F, rfl, a1, a2, a3, a4, a5, a6, a7, a8⟩ := h
  obtain ⟨Sm2, F2, rfl, h2⟩ := hG.wk
  rw [wk_o] at hb
  exact ⟨Sm2, U, UP, K, P, A, F2, rfl, a1, a2, a3, by rw [h2 36 (by omega)]; exact a4, by rw [h2 30 (by omega)]; exact a5, by rw [h2 31 (by omega)]; exact a6, hb, fun k q1 q2 q3 q4 => by rw [h2 k q1]; exact a8 k q1 q2 q3 q4⟩
theorem MoO.T {W : Mem} (h : MoO M o K0 F0 p s W) : mT W = mT M ∧ mR W = mR M := by
  obtain ⟨Sm, U, UP, K, P, A, F, rfl, -⟩ := h
  exact ⟨rfl, rfl⟩
theorem MoO.fd {W : Mem} (h : MoO M o K0 F0 p s W) {k : Nat} (q1 : k < 25 ∨ (29 ≤ k ∧ k < 56) ∨ 60 ≤ k) (q2 : k ≠ 36) (q3 : k ≠ 30) (q4 : k ≠ 31) : mI W o k = F0 k := by
  obtain ⟨Sm, U, UP, K, P, A, F, rfl, a1, a2, a3, a4, a5, a6, a7, a8⟩ := h
  rw [wk_o]; exact a8 k q1 q2 q3 q4
/-- the tokens of the orders, as kept -/
def TkO (K0 : Nat → Int32) (ge bs N : Nat) (tc tv : Nat → Nat) : Prop := ge = bs + N ∧ ge ≤ 2800 ∧ (∀ i, i < N → K0 (395 + (bs + i)) = nI (tc i) ∧ ∃ v, K0 (3195 + (bs + i)) = nI v ∧ v < 20000000 ∧ (tc i = 50 → min v 1001 = tv i)) ∧ (∀ i, tc i ≠ 0 → i < N) ∧ ∀ i, tc i < 400
theorem MoO.ev {W : Mem} {ge bs N : Nat} {tc tv : Nat → Nat} (hM : MoAt (mT M) (mR M) o) (h : MoO M o K0 F0 p s W) (hK : TkO K0 ge bs N tc tv) (hV : ∀ k, k < 11 → -1 ≤ (oV s k).toInt) : EvH (sI (sI W o 28 (nI 1)) o 26 (nI ge)) o ge bs N tc tv true (oV s) 11 := by
  obtain ⟨Sm, U, UP, K, P, A, F, rfl, a1, a2, a3, a4, a5, a6, a7, a8⟩ := h
  obtain ⟨b1, b2, b3, b4, b5⟩ := hK
  rw [wk_sF, wk_sF]
  unfold EvH
  rw [wk_2, wk_o, wk_15]
  refine ⟨hM, up1_eq, b1, b2, fun i hi => ?_, b4, b5, fun q => absurd q (by decide), fun _ => ⟨?_, rfl, ?_, ?_, ?_, fun k hk => ⟨?_, ?_⟩⟩, hV⟩
  · rw [a3 _ (by omega), a3 _ (by omega)]; exact b3 i hi
  · rw [up1_ne (by omega), up1_eq]
  · have := a1.1; rw [Nat.zero_add] at this; rw [this]; rfl
  · rw [up1_ne (by omega), up1_ne (by omega), a5]; rfl
  · rw [up1_ne (by omega), up1_ne (by omega), a6]; rfl
  · have := (a1.2 k hk).2.1 0 (by omega)
    rw [Nat.zero_add, Nat.add_zero] at this
    rw [this]
    unfold oV
    rw [if_neg (by omega), if_neg (by omega), if_neg (by omega), if_pos (by omega), Nat.add_sub_cancel_left]
  · have := (a1.2 k hk).1.1
    rw [Nat.zero_add] at this
    rw [this]
    unfold oV
    rw [if_neg (by omega), if_neg (by omega), if_neg (by omega), if_neg (by omega), Nat.add_sub_cancel_left]
end RNA
section RNB
variable {C : Nat → Int32} {cn : Nat}
theorem ob_args {e : Nat → Int32} {kd : Nat} {S : Nat → Int64} {s : OS} (hkd : e 1 = nI kd) (hk4 : kd < 4) (hS : ∀ q, q < (ksO e).length → S q = ev0 C cn (oV s) 11 ((ksO e).getD q 0) ∧ inR (S q)) :
    (acV kd s.1 (if kd = 3 then 0 else if kd = 1 then smI (S 2) else smI (S 1)) (if kd = 3 then 0 else smI (S 0)) (if kd = 3 then 0 else if kd = 1 then smI (S 1) else smI (S 0)) = 0 ↔ acV kd s.1 (oA3 C cn s e).1 (oA3 C cn s e).2.1 (oA3 C cn s e).2.2 = 0) ∧
    (acV kd s.1 (oA3 C cn s e).1 (oA3 C cn s e).2.1 (oA3 C cn s e).2.2 = 0 → (if kd = 3 then 0 else if kd = 1 then smI (S 2) else smI (S 1)) = (oA3 C cn s e).1 ∧ (if kd = 3 then 0 else smI (S 0)) = (oA3 C cn s e).2.1 ∧ (if kd = 3 then 0 else if kd = 1 then smI (S 1) else smI (S 0)) = (oA3 C cn s e).2.2) := by
  unfold oA3 oX
  unfold ksO at hS
  rw [hkd] at hS ⊢
  by_cases k3 : kd = 3
  · subst k3
    rw [if_pos rfl, if_pos rfl, if_pos rfl]
    exact ⟨Iff.rfl, fun _ => ⟨rfl, rfl, rfl⟩⟩
  · have n3 : ¬ nI kd = nI 3 := nIne (by omega) (by omega) k3
    rw [if_neg n3] at hS ⊢
    rw [if_neg k3, if_neg k3, if_neg k3]
    by_cases k1 : kd = 1
    · subst k1
      rw [if_pos rfl] at hS ⊢
      rw [if_pos rfl, if_pos rfl]
      obtain ⟨s0, r0⟩ := hS 0 (by show 0 < 3; omega)
      obtain ⟨s1, r1⟩ := hS 1 (by show 1 < 3; omega)
      obtain ⟨s2, r2⟩ := hS 2 (by show 2 < 3; omega)
      have := acV_sm (kd := 1) (ws := s.1) r2 r0 r1 k3
      rw [s0, s1, s2] at this
      rw [s0, s1, s2]
      exact this
    · have n1 : ¬ nI kd = nI 1 := nIne (by omega) (by omega) k1
      rw [if_neg n1] at hS ⊢
      rw [if_neg k1, if_neg k1]
      obtain ⟨s0, r0⟩ := hS 0 (by show 0 < 2; omega)
      obtain ⟨s1, r1⟩ := hS 1 (by show 1 < 2; omega)
      have := acV_sm (kd := kd) (ws := s.1) r1 r0 r0 k3
      rw [s0, s1] at this
      rw [s0, s1]
      exact this
end RNB

/-! ===== MissCurves$Judge: weigh ===== -/
theorem evF_indep {C : Nat → Int32} {cl : Nat} {V : Nat → Int32} {vn : Nat} : ∀ f i sz (S S2 : Nat → Int64), (∀ k, k < sz → S k = S2 k) → evF C cl V vn f i sz S = evF C cl V vn f i sz S2
  | 0, _, _, _, _, _ => rfl
  | f + 1, i, sz, S, S2, h => by
    rw [evF, evF]
    have hup : ∀ (q : Nat) (v : Int64), q ≤ sz → ∀ k, k < q + 1 → up1 S q v k = up1 S2 q v k := by
      intro q v hq k hk
      by_cases hkq : k = q
      · subst hkq; rw [up1_eq, up1_eq]
      · rw [up1_ne hkq, up1_ne hkq]; exact h k (by omega)
    by_cases hi : i + 1 < cl
    · rw [if_pos hi, if_pos hi]
      by_cases c0 : C i = nI 0
      · rw [if_pos c0, if_pos c0]
        by_cases hs : 0 < sz
        · rw [if_pos hs, if_pos hs]; exact h _ (by omega)
        · rw [if_neg hs, if_neg hs]
      rw [if_neg c0, if_neg c0]
      by_cases c1 : C i = nI 1
      · rw [if_pos c1, if_pos c1, evF_indep f (i + 2) (sz + 1) _ _ (hup sz _ (Nat.le_refl _))]
      rw [if_neg c1, if_neg c1]
      by_cases c2 : C i = nI 2
      · rw [if_pos c2, if_pos c2, evF_indep f (i + 2) (sz + 1) _ _ (hup sz _ (Nat.le_refl _))]
      rw [if_neg c2, if_neg c2]
      by_cases hs : sz < 1
      · rw [if_pos hs, if_pos hs]
      rw [if_neg hs, if_neg hs]
      have hl : S (sz - 1) = S2 (sz - 1) := h _ (by omega)
      by_cases c3 : C i = nI 3
      · rw [if_pos c3, if_pos c3, hl]
        exact evF_indep f (i + 2) sz _ _ (fun k hk => hup (sz - 1) _ (by omega) k (by omega))
      rw [if_neg c3, if_neg c3]
      have e1 := evF_indep (C := C) (cl := cl) (V := V) (vn := vn) f (max i ((C (i + 1)).toNatClampNeg - 2) + 2) sz S S2 h
      have e2 := evF_indep (C := C) (cl := cl) (V := V) (vn := vn) f (i + 2) (sz - 1) S S2 (fun k hk => h k (by omega))
      by_cases c4 : C i = nI 4
      · rw [if_pos c4, if_pos c4, hl, e1, e2]
      rw [if_neg c4, if_neg c4]
      by_cases c5 : C i = nI 5
      · rw [if_pos c5, if_pos c5, hl, e1, e2]
      rw [if_neg c5, if_neg c5]
      by_cases hs2 : sz < 2
      · rw [if_pos hs2, if_pos hs2]
      rw [if_neg hs2, if_neg hs2, hl, h (sz - 2) (by omega)]
      rw [evF_indep f (i + 2) (sz - 1) _ _ (fun k hk => hup (sz - 2) _ (by omega) k (by omega))]
    · rw [if_neg hi, if_neg hi]
/-- what a piece of code tells -/
def ev0 (C : Nat → Int32) (cl : Nat) (V : Nat → Int32) (vn fr : Nat) : Int64 := evF C cl V vn cl fr 0 (fun _ => 0)
def clmp (v : Int64) : Int32 := (maxJ 0 (minJ v 99)).toInt32
/-- whether a clause's test lets it: tests are places in the code, -1 without -/
def tsOK (C : Nat → Int32) (cl : Nat) (V : Nat → Int32) (vn : Nat) (t : Int32) : Prop := t = -1 ∨ ev0 C cl V vn t.toNatClampNeg = 1
/-- cost and whether barred behind the first n clauses of a law -/
def wgF (P : Nat → Nat → Int32) (cl : Nat) (V : Nat → Int32) : Nat → Int32 × Int32
  | 0 => (nI 1, nI 0)
  | n + 1 =>
    if P 3 n = -1 ∨ ev0 (P 7) cl V 6 (P 3 n).toNatClampNeg = 1 then
      (if P 1 n = nI 5 then ((wgF P cl V n).1, nI 1)
       else if ev0 (P 7) cl V 6 (P 4 n).toNatClampNeg = brk then wgF P cl V n
       else (clmp (ev0 (P 7) cl V 6 (P 4 n).toNatClampNeg), (wgF P cl V n).2))
    else wgF P cl V n
/-- a law as the parser makes it: its clauses' kinds, tests, sums -/
def LawOK (P : Nat → Nat → Int32) (cl nc : Nat) : Prop := nc ≤ 12 ∧ CodeW (P 7) cl 6 ∧ ∀ n, n < nc → (P 3 n = -1 ∨ ∃ t, t ≤ cl ∧ t % 2 = 0 ∧ P 3 n = nI t) ∧ (P 1 n = nI 5 ∨ (P 1 n = nI 4 ∧ ∃ t, t ≤ cl ∧ t % 2 = 0 ∧ P 4 n = nI t))
section WG
variable {g : Gl} {M : Mem} {j p w cl cn vn : Nat}
theorem c_eval0 (hJ : JuAt (mT M) (mR M) j) (hP : PrAt (mT M) (mR M) p cn) (h8 : mI M p 8 = nI cl) (hcl : cl ≤ cn) (hcn : cn ≤ 1024) (hw : mT M w = (20, vn)) (hvn : vn < 100) (hC : CodeW (mI M (p + 7)) cl vn) {fr : Nat} (hfr : fr % 2 = 0) (hfl : fr ≤ cl) : Cl g Y_Ju_evaluate 1 [.ref j, .ref p, .int (nI fr), .ref w] M (fun x M2 => x = ev0 (mI M (p + 7)) cl (mI M w) vn fr ∧ ∃ S2, M2 = evM M j S2) :=
  (c_evaluate hJ hP h8 hcl hcn hw hvn hC hfr hfl).to (fun x M2 ⟨h1, h2⟩ => ⟨h1.trans (evF_indep cl fr 0 _ _ (fun k hk => absurd hk (Nat.not_lt_zero k))), h2⟩)
/-- the judge's memory: cost, barred, its stack's leavings -/
abbrev wgM (M : Mem) (j : Nat) (V : Nat → Int32) (c b : Int32) (S : Nat → Int64) : Mem := mk2 M (up1 (up1 (mI M) (j + 2) V) j (up1 (up1 (mI M j) 0 c) 1 b)) (up1 (mJ M) (j + 3) S)
end WG

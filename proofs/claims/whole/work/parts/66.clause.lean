/-! ===== clauses over tokens, for both ===== -/
section CLP
variable (tc tv : Nat → Nat) (od : Bool) (f : Nat)
def pSm (i lf cl : Nat) : PRes := pbd (psr tc tv od f 4 0 i lf cl) (fun j l sg => (true, j, l, sg ++ [nI 0, nI 0]))
def pIf (i lf cl : Nat) : PRes := if tc i = 3 then pbd (psr tc tv od f 10 0 (i + 1) lf cl) (fun j l sg => (true, j, l, sg ++ [nI 0, nI 0])) else (true, i, lf, [])
def pTm (i lf : Nat) : PRes := if tc i = 23 then (if tc (i + 1) = 50 ∧ 1 ≤ tv (i + 1) ∧ tv (i + 1) ≤ 20 then (true, i + 2, lf, []) else (false, i + 1, lf, [])) else (true, i, lf, [])
def tmV (i : Nat) : Nat := if tc i = 23 then tv (i + 1) else 1
abbrev psq (r : PRes) (k : Nat → Nat → Nat → PRes) : PRes := pbd r (fun j l sg => pbd (k j l sg.length) (fun j2 l2 sg2 => (true, j2, l2, sg ++ sg2)))
/-- a sum for the tenant behind "by", then how often -/
def pBy (i lf cl : Nat) : PRes := if tc i = 18 then psq (pSm tc tv od f (i + 1) lf cl) (fun j l _ => pTm tc tv j l) else (false, i, lf, [])
def pLaw (i lf cl : Nat) : PRes := if tc i = 2 then (true, i + 1, lf, []) else if tc i = 1 then pSm tc tv od f (i + 1) lf cl else (false, i, lf, [])
def pOrd (i lf cl : Nat) : PRes :=
  if tc i = 17 ∨ tc i = 21 then psq (pSm tc tv od f (i + 1) lf cl) (fun j l n => pBy tc tv od f j l (cl + n))
  else if tc i = 19 then psq (pSm tc tv od f (i + 1) lf cl) (fun j l n => if tc j = 20 then psq (pSm tc tv od f (j + 1) l (cl + n)) (fun j2 l2 n2 => pBy tc tv od f j2 l2 (cl + n + n2)) else (false, j, l, []))
  else if tc i = 22 then pTm tc tv (i + 1) lf else (false, i, lf, [])
def p1F (i lf cl : Nat) : PRes := psq (if od = true then pOrd tc tv od f i lf cl else pLaw tc tv od f i lf cl) (fun j l n => pIf tc tv od f j l (cl + n))
def pcF (en : Nat → Bool) : Nat → Nat → Nat → Nat → PRes
  | 0, i, lf, _ => (false, i, lf, [])
  | r + 1, i, lf, cl => psq (p1F tc tv od f i lf cl) (fun j l n => if en j = true then (true, j, l, []) else if tc j = 159 then pcF en r (j + 1) l (cl + n) else (false, j, l, []))
/-- what the class keeps of a clause: e k is its number in the program's row k -/
def CnS (e : Nat → Int32) (i lf cl j : Nat) (sg : List Int32) : Prop :=
  (¬ tc i = 3 ∧ e 3 = -1 ∧ j = i ∧ sg = []) ∨ (tc i = 3 ∧ e 3 = nI cl ∧ ∃ lf1 s1, psr tc tv od f 10 0 (i + 1) lf cl = (true, j, lf1, s1) ∧ sg = s1 ++ [nI 0, nI 0])
def LwS (e : Nat → Int32) (i lf cl j : Nat) (sg : List Int32) : Prop :=
  (tc i = 2 ∧ e 1 = nI 5 ∧ CnS tc tv od f e (i + 1) lf cl j sg) ∨
  (tc i = 1 ∧ e 1 = nI 4 ∧ e 4 = nI cl ∧ ∃ j1 lf1 s1 s2, psr tc tv od f 4 0 (i + 1) lf cl = (true, j1, lf1, s1) ∧ CnS tc tv od f e j1 lf1 (cl + s1.length + 2) j s2 ∧ sg = (s1 ++ [nI 0, nI 0]) ++ s2)
/-- the tenant's sum, how often -/
def ByS (e : Nat → Int32) (i lf cl j lf2 : Nat) (sg : List Int32) : Prop := tc i = 18 ∧ e 6 = nI cl ∧ ∃ j1 s1, psr tc tv od f 4 0 (i + 1) lf cl = (true, j1, lf2, s1) ∧ sg = s1 ++ [nI 0, nI 0] ∧ pTm tc tv j1 lf2 = (true, j, lf2, []) ∧ e 2 = nI (tmV tc tv j1)
def OrS (e : Nat → Int32) (i lf cl j lf2 : Nat) (sg : List Int32) : Prop :=
  (((tc i = 17 ∧ e 1 = nI 0) ∨ (tc i = 21 ∧ e 1 = nI 2)) ∧ e 4 = nI cl ∧ ∃ j1 lf1 s1 s2, psr tc tv od f 4 0 (i + 1) lf cl = (true, j1, lf1, s1) ∧ ByS tc tv od f e j1 lf1 (cl + s1.length + 2) j lf2 s2 ∧ sg = (s1 ++ [nI 0, nI 0]) ++ s2) ∨
  (tc i = 19 ∧ e 1 = nI 1 ∧ e 4 = nI cl ∧ ∃ j1 lf1 s1 j2 lf3 s2 s3, psr tc tv od f 4 0 (i + 1) lf cl = (true, j1, lf1, s1) ∧ tc j1 = 20 ∧ e 5 = nI (cl + s1.length + 2) ∧ psr tc tv od f 4 0 (j1 + 1) lf1 (cl + s1.length + 2) = (true, j2, lf3, s2) ∧ ByS tc tv od f e j2 lf3 (cl + s1.length + 2 + s2.length + 2) j lf2 s3 ∧ sg = (s1 ++ [nI 0, nI 0]) ++ ((s2 ++ [nI 0, nI 0]) ++ s3)) ∨
  (tc i = 22 ∧ e 1 = nI 3 ∧ pTm tc tv (i + 1) lf = (true, j, lf2, []) ∧ e 2 = nI (tmV tc tv (i + 1)) ∧ lf2 = lf ∧ sg = [])
def ClS (e : Nat → Int32) (i lf cl j : Nat) (sg : List Int32) : Prop :=
  if od = true then ∃ j1 lf1 s1 s2, OrS tc tv od f e i lf cl j1 lf1 s1 ∧ CnS tc tv od f e j1 lf1 (cl + s1.length) j s2 ∧ sg = s1 ++ s2 else LwS tc tv od f e i lf cl j sg
/-- clauses from the n-th on, nc in all -/
def ChS (en : Nat → Bool) (E : Nat → Nat → Int32) (nc : Nat) : Nat → Nat → Nat → Nat → Nat → List Int32 → Prop
  | 0, _, _, _, _, _ => False
  | r + 1, n, i, lf, cl, sg => ∃ j lf1 s1 s2, p1F tc tv od f i lf cl = (true, j, lf1, s1) ∧ ClS tc tv od f (E n) i lf cl j s1 ∧ sg = s1 ++ s2 ∧ ((en j = true ∧ s2 = [] ∧ nc = n + 1) ∨ (en j = false ∧ tc j = 159 ∧ ChS en E nc r (n + 1) (j + 1) lf1 (cl + s1.length) s2))
end CLP
section CLQ
variable {tc tv : Nat → Nat} {od : Bool} {f : Nat}
theorem len_app2 (s : List Int32) (a b : Int32) : (s ++ [a, b]).length = s.length + 2 := by rw [List.length_append]; rfl
theorem pSm_ok {N i lf cl j lf2 : Nat} {sg : List Int32} (hN : ∀ i, tc i ≠ 0 → i < N) (h : pSm tc tv od f i lf cl = (true, j, lf2, sg)) (hi : i ≤ N) (hl : lf ≤ 50) : ∃ s1, psr tc tv od f 4 0 i lf cl = (true, j, lf2, s1) ∧ sg = s1 ++ [nI 0, nI 0] ∧ i + 1 ≤ j ∧ j ≤ N ∧ lf2 ≤ 50 ∧ s1.length ≤ 2 * (j - i) ∧ s1.length % 2 = 0 := by
  obtain ⟨j1, l1, s1, e1, h1⟩ := pbd_t h
  obtain ⟨rfl, rfl, rfl⟩ := tru_inj h1
  obtain ⟨p1, p2, p3, p4, p5⟩ := psr_ok hN f 4 0 i lf cl j1 l1 s1 (by omega) e1 hi hl
  exact ⟨s1, e1, rfl, p1, p2, p3, p4, p5⟩
theorem pTm_ok {i lf j lf2 : Nat} {sg : List Int32} (h : pTm tc tv i lf = (true, j, lf2, sg)) : lf2 = lf ∧ sg = [] ∧ ((tc i = 23 ∧ tc (i + 1) = 50 ∧ 1 ≤ tv (i + 1) ∧ tv (i + 1) ≤ 20 ∧ j = i + 2) ∨ (¬ tc i = 23 ∧ j = i)) := by
  unfold pTm at h
  by_cases h0 : tc i = 23
  · rw [if_pos h0] at h
    by_cases h1 : tc (i + 1) = 50 ∧ 1 ≤ tv (i + 1) ∧ tv (i + 1) ≤ 20
    · rw [if_pos h1] at h
      obtain ⟨rfl, rfl, rfl⟩ := tru_inj h
      exact ⟨rfl, rfl, Or.inl ⟨h0, h1.1, h1.2.1, h1.2.2, rfl⟩⟩
    · rw [if_neg h1] at h; exact (fls_tru h).elim
  · rw [if_neg h0] at h
    obtain ⟨rfl, rfl, rfl⟩ := tru_inj h
    exact ⟨rfl, rfl, Or.inr ⟨h0, rfl⟩⟩
/-- where clauses are laid, the parser could read them -/
theorem ChS_congr {en : Nat → Bool} {E E2 : Nat → Nat → Int32} {nc : Nat} : ∀ {r n i lf cl : Nat} {sg : List Int32}, (∀ m, n ≤ m → E m = E2 m) → ChS tc tv od f en E nc r n i lf cl sg → ChS tc tv od f en E2 nc r n i lf cl sg
  | 0, _, _, _, _, _, _, h => h.elim
  | r + 1, n, i, lf, cl, sg, hE, h => by
    obtain ⟨j, lf1, s1, s2, h1, h2, h3, h4⟩ := h
    refine ⟨j, lf1, s1, s2, h1, hE n (Nat.le_refl _) ▸ h2, h3, ?_⟩
    rcases h4 with h4 | ⟨h5, h6, h7⟩
    · exact Or.inl h4
    · exact Or.inr ⟨h5, h6, ChS_congr (fun m hm => hE m (by omega)) h7⟩
end CLQ

/-! ===== one parser over tokens for both: whether, the token behind (or at fault), parts so far, the code ===== -/
abbrev PRes : Type := Bool × Nat × Nat × List Int32
def pbd (r : PRes) (k : Nat → Nat → List Int32 → PRes) : PRes := match r with
  | (true, j, lf, sg) => k j lf sg
  | (false, j, lf, _) => (false, j, lf, [])
theorem pbd_t {r : PRes} {k : Nat → Nat → List Int32 → PRes} {j lf : Nat} {sg : List Int32} (h : pbd r k = (true, j, lf, sg)) : ∃ j1 lf1 sg1, r = (true, j1, lf1, sg1) ∧ k j1 lf1 sg1 = (true, j, lf, sg) := by
  obtain ⟨b, j1, lf1, sg1⟩ := r
  cases b with
  | true => exact ⟨j1, lf1, sg1, rfl, h⟩
  | false => exact absurd (congrArg Prod.fst h) (by decide : ¬ (false = true))
theorem pbd_y {j lf : Nat} {sg : List Int32} {k : Nat → Nat → List Int32 → PRes} : pbd (true, j, lf, sg) k = k j lf sg := rfl
theorem pbd_n {j lf : Nat} {sg : List Int32} {k : Nat → Nat → List Int32 → PRes} : pbd (false, j, lf, sg) k = (false, j, lf, []) := rfl
/-- words of the language -/
def isLW (od : Bool) (c : Nat) : Bool := if od = true then decide (12 ≤ c ∧ c ≤ 16) else decide (7 ≤ c ∧ c ≤ 12)
/-- a word's place in the class's row -/
def wIx (od : Bool) (c k : Nat) : Nat := if od = true then (if c = 15 then 3 + k else if c = 16 then 7 + k else c - 12) else (if c = 11 then 5 else if c = 12 then 4 else c - 7)
/-- 0 a part, 1 what stands behind a part, 2 a term, 3 behind a term, 4 a sum, 5 a plain test, 6 one that is turned, 7 behind a plain one, 8 both, 9 behind both, 10 a test -/
def psr (tc tv : Nat → Nat) (od : Bool) : Nat → Nat → Nat → Nat → Nat → Nat → PRes
  | 0, _, _, i, lf, _ => (false, i, lf, [])
  | f + 1, nt, d, i, lf, cl =>
    if nt = 0 then
      if tc i = 191 then (if 8 ≤ d then (false, i, lf, []) else pbd (psr tc tv od f 4 (d + 1) (i + 1) lf cl) (fun j lf2 sg => if tc j = 193 then (true, j + 1, lf2, sg) else (false, j, lf2, [])))
      else if tc i = 50 ∧ tv i ≤ 1000 then (if 50 ≤ lf then (false, i, lf, []) else (true, i + 1, lf + 1, [nI 1, nI (tv i)]))
      else if isLW od (tc i) = true then
        (if 50 ≤ lf then (false, i, lf, [])
        else if od = true ∧ 15 ≤ tc i then (if tc (i + 1) = 50 ∧ tv (i + 1) < 4 then (true, i + 2, lf + 1, [nI 2, nI (wIx od (tc i) (tv (i + 1)))]) else (false, i + 1, lf + 1, []))
        else (true, i + 1, lf + 1, [nI 2, nI (wIx od (tc i) 0)]))
      else (false, i, lf, [])
    else if nt = 1 then
      if tc i = 142 ∨ tc i = 147 ∨ tc i = 137 then pbd (psr tc tv od f 0 d (i + 1) lf cl) (fun j lf2 sg => pbd (psr tc tv od f 1 d j lf2 (cl + (sg ++ [nI (tc i - 100), nI 0]).length)) (fun j2 lf3 sg2 => (true, j2, lf3, (sg ++ [nI (tc i - 100), nI 0]) ++ sg2)))
      else (true, i, lf, [])
    else if nt = 2 then pbd (psr tc tv od f 0 d i lf cl) (fun j lf2 sg => pbd (psr tc tv od f 1 d j lf2 (cl + sg.length)) (fun j2 lf3 sg2 => (true, j2, lf3, sg ++ sg2)))
    else if nt = 3 then
      if tc i = 143 ∨ tc i = 145 then pbd (psr tc tv od f 2 d (i + 1) lf cl) (fun j lf2 sg => pbd (psr tc tv od f 3 d j lf2 (cl + (sg ++ [nI (tc i - 100), nI 0]).length)) (fun j2 lf3 sg2 => (true, j2, lf3, (sg ++ [nI (tc i - 100), nI 0]) ++ sg2)))
      else (true, i, lf, [])
    else if nt = 4 then pbd (psr tc tv od f 2 d i lf cl) (fun j lf2 sg => pbd (psr tc tv od f 3 d j lf2 (cl + sg.length)) (fun j2 lf3 sg2 => (true, j2, lf3, sg ++ sg2)))
    else if nt = 5 ∨ nt = 6 then
      if tc i = 6 then psr tc tv od f (11 - nt) d (i + 1) lf cl
      else pbd (if tc i = 140 then (if 8 ≤ d then (false, i, lf, []) else pbd (psr tc tv od f 10 (d + 1) (i + 1) lf cl) (fun j lf2 sg => if tc j = 141 then (true, j + 1, lf2, sg) else (false, j, lf2, [])))
        else pbd (psr tc tv od f 4 d i lf cl) (fun j lf2 sg => if tc j = 160 ∨ tc j = 162 ∨ tc j = 161 then pbd (psr tc tv od f 4 d (j + 1) lf2 (cl + sg.length)) (fun j2 lf3 sg2 => (true, j2, lf3, (sg ++ sg2) ++ [nI (tc j - 100), nI 0])) else (false, j, lf2, [])))
        (fun j lf2 sg => (true, j, lf2, sg ++ (if nt = 6 then [nI 3, nI 0] else [])))
    else if nt = 7 then
      if tc i = 5 then pbd (psr tc tv od f 5 d (i + 1) lf (cl + 2)) (fun j lf2 sg => pbd (psr tc tv od f 7 d j lf2 (cl + ([nI 5, nI (cl + 2 + sg.length)] ++ sg).length)) (fun j2 lf3 sg2 => (true, j2, lf3, ([nI 5, nI (cl + 2 + sg.length)] ++ sg) ++ sg2)))
      else (true, i, lf, [])
    else if nt = 8 then pbd (psr tc tv od f 5 d i lf cl) (fun j lf2 sg => pbd (psr tc tv od f 7 d j lf2 (cl + sg.length)) (fun j2 lf3 sg2 => (true, j2, lf3, sg ++ sg2)))
    else if nt = 9 then
      if tc i = 4 then pbd (psr tc tv od f 8 d (i + 1) lf (cl + 2)) (fun j lf2 sg => pbd (psr tc tv od f 9 d j lf2 (cl + ([nI 4, nI (cl + 2 + sg.length)] ++ sg).length)) (fun j2 lf3 sg2 => (true, j2, lf3, ([nI 4, nI (cl + 2 + sg.length)] ++ sg) ++ sg2)))
      else (true, i, lf, [])
    else pbd (psr tc tv od f 8 d i lf cl) (fun j lf2 sg => pbd (psr tc tv od f 9 d j lf2 (cl + sg.length)) (fun j2 lf3 sg2 => (true, j2, lf3, sg ++ sg2)))
section PSR
variable {tc tv : Nat → Nat} {od : Bool} {f d i lf cl : Nat}
theorem psr_0 : psr tc tv od (f + 1) 0 d i lf cl = if tc i = 191 then (if 8 ≤ d then (false, i, lf, []) else pbd (psr tc tv od f 4 (d + 1) (i + 1) lf cl) (fun j lf2 sg => if tc j = 193 then (true, j + 1, lf2, sg) else (false, j, lf2, [])))
      else if tc i = 50 ∧ tv i ≤ 1000 then (if 50 ≤ lf then (false, i, lf, []) else (true, i + 1, lf + 1, [nI 1, nI (tv i)]))
      else if isLW od (tc i) = true then
        (if 50 ≤ lf then (false, i, lf, [])
        else if od = true ∧ 15 ≤ tc i then (if tc (i + 1) = 50 ∧ tv (i + 1) < 4 then (true, i + 2, lf + 1, [nI 2, nI (wIx od (tc i) (tv (i + 1)))]) else (false, i + 1, lf + 1, []))
        else (true, i + 1, lf + 1, [nI 2, nI (wIx od (tc i) 0)]))
      else (false, i, lf, []) := rfl
theorem psr_1 : psr tc tv od (f + 1) 1 d i lf cl = if tc i = 142 ∨ tc i = 147 ∨ tc i = 137 then pbd (psr tc tv od f 0 d (i + 1) lf cl) (fun j lf2 sg => pbd (psr tc tv od f 1 d j lf2 (cl + (sg ++ [nI (tc i - 100), nI 0]).length)) (fun j2 lf3 sg2 => (true, j2, lf3, (sg ++ [nI (tc i - 100), nI 0]) ++ sg2)))
      else (true, i, lf, []) := rfl
theorem psr_2 : psr tc tv od (f + 1) 2 d i lf cl = pbd (psr tc tv od f 0 d i lf cl) (fun j lf2 sg => pbd (psr tc tv od f 1 d j lf2 (cl + sg.length)) (fun j2 lf3 sg2 => (true, j2, lf3, sg ++ sg2))) := rfl
theorem psr_3 : psr tc tv od (f + 1) 3 d i lf cl = if tc i = 143 ∨ tc i = 145 then pbd (psr tc tv od f 2 d (i + 1) lf cl) (fun j lf2 sg => pbd (psr tc tv od f 3 d j lf2 (cl + (sg ++ [nI (tc i - 100), nI 0]).length)) (fun j2 lf3 sg2 => (true, j2, lf3, (sg ++ [nI (tc i - 100), nI 0]) ++ sg2)))
      else (true, i, lf, []) := rfl
theorem psr_4 : psr tc tv od (f + 1) 4 d i lf cl = pbd (psr tc tv od f 2 d i lf cl) (fun j lf2 sg => pbd (psr tc tv od f 3 d j lf2 (cl + sg.length)) (fun j2 lf3 sg2 => (true, j2, lf3, sg ++ sg2))) := rfl
/-- what is tested -/
def psc (tc tv : Nat → Nat) (od : Bool) (f d i lf cl : Nat) : PRes := if tc i = 140 then (if 8 ≤ d then (false, i, lf, []) else pbd (psr tc tv od f 10 (d + 1) (i + 1) lf cl) (fun j lf2 sg => if tc j = 141 then (true, j + 1, lf2, sg) else (false, j, lf2, [])))
        else pbd (psr tc tv od f 4 d i lf cl) (fun j lf2 sg => if tc j = 160 ∨ tc j = 162 ∨ tc j = 161 then pbd (psr tc tv od f 4 d (j + 1) lf2 (cl + sg.length)) (fun j2 lf3 sg2 => (true, j2, lf3, (sg ++ sg2) ++ [nI (tc j - 100), nI 0])) else (false, j, lf2, []))
theorem psr_5 : psr tc tv od (f + 1) 5 d i lf cl = if tc i = 6 then psr tc tv od f 6 d (i + 1) lf cl else pbd (psc tc tv od f d i lf cl) (fun j lf2 sg => (true, j, lf2, sg ++ [])) := rfl
theorem psr_6 : psr tc tv od (f + 1) 6 d i lf cl = if tc i = 6 then psr tc tv od f 5 d (i + 1) lf cl else pbd (psc tc tv od f d i lf cl) (fun j lf2 sg => (true, j, lf2, sg ++ [nI 3, nI 0])) := rfl
theorem psr_7 : psr tc tv od (f + 1) 7 d i lf cl = if tc i = 5 then pbd (psr tc tv od f 5 d (i + 1) lf (cl + 2)) (fun j lf2 sg => pbd (psr tc tv od f 7 d j lf2 (cl + ([nI 5, nI (cl + 2 + sg.length)] ++ sg).length)) (fun j2 lf3 sg2 => (true, j2, lf3, ([nI 5, nI (cl + 2 + sg.length)] ++ sg) ++ sg2)))
      else (true, i, lf, []) := rfl
theorem psr_8 : psr tc tv od (f + 1) 8 d i lf cl = pbd (psr tc tv od f 5 d i lf cl) (fun j lf2 sg => pbd (psr tc tv od f 7 d j lf2 (cl + sg.length)) (fun j2 lf3 sg2 => (true, j2, lf3, sg ++ sg2))) := rfl
theorem psr_9 : psr tc tv od (f + 1) 9 d i lf cl = if tc i = 4 then pbd (psr tc tv od f 8 d (i + 1) lf (cl + 2)) (fun j lf2 sg => pbd (psr tc tv od f 9 d j lf2 (cl + ([nI 4, nI (cl + 2 + sg.length)] ++ sg).length)) (fun j2 lf3 sg2 => (true, j2, lf3, ([nI 4, nI (cl + 2 + sg.length)] ++ sg) ++ sg2)))
      else (true, i, lf, []) := rfl
theorem psr_10 : psr tc tv od (f + 1) 10 d i lf cl = pbd (psr tc tv od f 8 d i lf cl) (fun j lf2 sg => pbd (psr tc tv od f 9 d j lf2 (cl + sg.length)) (fun j2 lf3 sg2 => (true, j2, lf3, sg ++ sg2))) := rfl
/-- what a good result is: it goes on, within the tokens, the code is even and short -/
def pGd (N i k : Nat) (j lf2 : Nat) (sg : List Int32) (ex : Nat) : Prop := i + k ≤ j ∧ j ≤ N ∧ lf2 ≤ 50 ∧ sg.length ≤ 2 * (j - i) + ex ∧ sg.length % 2 = 0
theorem tru_inj {j j2 lf lf2 : Nat} {sg sg2 : List Int32} (h : ((true, j, lf, sg) : PRes) = (true, j2, lf2, sg2)) : j = j2 ∧ lf = lf2 ∧ sg = sg2 := by
  injection h with _ h2
  injection h2 with h3 h4
  injection h4 with h5 h6
  exact ⟨h3, h5, h6⟩
theorem fls_tru {j j2 lf lf2 : Nat} {sg sg2 : List Int32} (h : ((false, j, lf, sg) : PRes) = (true, j2, lf2, sg2)) : False := by
  injection h with h1 _
  exact absurd h1 (by decide)
def ntk (nt : Nat) : Nat := if nt = 1 ∨ nt = 3 ∨ nt = 7 ∨ nt = 9 then 0 else 1
def ntx (nt : Nat) : Nat := if nt = 6 then 2 else 0
theorem psr_ok {N : Nat} (hN : ∀ i, tc i ≠ 0 → i < N) : ∀ f nt d i lf cl j lf2 sg, nt ≤ 10 → psr tc tv od f nt d i lf cl = (true, j, lf2, sg) → i ≤ N → lf ≤ 50 → pGd N i (ntk nt) j lf2 sg (ntx nt) := by
  intro f
  induction f with
  | zero => intro nt d i lf cl j lf2 sg _ h; exact (fls_tru h).elim
  | succ f ih =>
    have seq : ∀ (a b : Nat) (d i lf cl j lf2 : Nat) (sg : List Int32), a ≤ 10 → b ≤ 10 → ntk a = 1 → ntk b = 0 → ntx a = 0 → ntx b = 0 → pbd (psr tc tv od f a d i lf cl) (fun j lf2 sg => pbd (psr tc tv od f b d j lf2 (cl + sg.length)) (fun j2 lf3 sg2 => (true, j2, lf3, sg ++ sg2))) = (true, j, lf2, sg) → i ≤ N → lf ≤ 50 → pGd N i 1 j lf2 sg 0 := by
      intro a b d i lf cl j lf2 sg ha hb ka kb xa xb h hi hl
      obtain ⟨j1, l1, s1, e1, h1⟩ := pbd_t h
      obtain ⟨j2, l2, s2, e2, h2⟩ := pbd_t h1
      obtain ⟨rfl, rfl, rfl⟩ := tru_inj h2
      obtain ⟨p1, p2, p3, p4, p5⟩ := ih a d i lf cl j1 l1 s1 ha e1 hi hl
      obtain ⟨q1, q2, q3, q4, q5⟩ := ih b d j1 l1 _ j2 l2 s2 hb e2 p2 p3
      rw [ka] at p1; rw [kb] at q1; rw [xa] at p4; rw [xb] at q4
      refine ⟨by omega, q2, q3, ?_, ?_⟩
      · rw [List.length_append]; omega
      · rw [List.length_append]; omega
    have pst : ∀ (a b : Nat) (c : Int32) (d i lf cl j lf2 : Nat) (sg : List Int32), a ≤ 10 → b ≤ 10 → ntk a = 1 → ntk b = 0 → ntx a = 0 → ntx b = 0 → tc i ≠ 0 → pbd (psr tc tv od f a d (i + 1) lf cl) (fun j lf2 sg => pbd (psr tc tv od f b d j lf2 (cl + (sg ++ [c, nI 0]).length)) (fun j2 lf3 sg2 => (true, j2, lf3, (sg ++ [c, nI 0]) ++ sg2))) = (true, j, lf2, sg) → i ≤ N → lf ≤ 50 → pGd N i 0 j lf2 sg 0 := by
      intro a b c d i lf cl j lf2 sg ha hb ka kb xa xb hne h hi hl
      have hiN := hN i hne
      obtain ⟨j1, l1, s1, e1, h1⟩ := pbd_t h
      obtain ⟨j2, l2, s2, e2, h2⟩ := pbd_t h1
      obtain ⟨rfl, rfl, rfl⟩ := tru_inj h2
      obtain ⟨p1, p2, p3, p4, p5⟩ := ih a d (i + 1) lf cl j1 l1 s1 ha e1 (by omega) hl
      obtain ⟨q1, q2, q3, q4, q5⟩ := ih b d j1 l1 _ j2 l2 s2 hb e2 p2 p3
      rw [ka] at p1; rw [kb] at q1; rw [xa] at p4; rw [xb] at q4
      refine ⟨by omega, q2, q3, ?_, ?_⟩
      · rw [List.length_append, List.length_append, List.length_cons, List.length_cons, List.length_nil]; omega
      · rw [List.length_append, List.length_append, List.length_cons, List.length_cons, List.length_nil]; omega
    have jmp : ∀ (a b : Nat) (c : Int32) (d i lf cl j lf2 : Nat) (sg : List Int32), a ≤ 10 → b ≤ 10 → ntk a = 1 → ntk b = 0 → ntx a = 0 → ntx b = 0 → tc i ≠ 0 → pbd (psr tc tv od f a d (i + 1) lf (cl + 2)) (fun j lf2 sg => pbd (psr tc tv od f b d j lf2 (cl + ([c, nI (cl + 2 + sg.length)] ++ sg).length)) (fun j2 lf3 sg2 => (true, j2, lf3, ([c, nI (cl + 2 + sg.length)] ++ sg) ++ sg2))) = (true, j, lf2, sg) → i ≤ N → lf ≤ 50 → pGd N i 0 j lf2 sg 0 := by
      intro a b c d i lf cl j lf2 sg ha hb ka kb xa xb hne h hi hl
      have hiN := hN i hne
      obtain ⟨j1, l1, s1, e1, h1⟩ := pbd_t h
      obtain ⟨j2, l2, s2, e2, h2⟩ := pbd_t h1
      obtain ⟨rfl, rfl, rfl⟩ := tru_inj h2
      obtain ⟨p1, p2, p3, p4, p5⟩ := ih a d (i + 1) lf (cl + 2) j1 l1 s1 ha e1 (by omega) hl
      obtain ⟨q1, q2, q3, q4, q5⟩ := ih b d j1 l1 _ j2 l2 s2 hb e2 p2 p3
      rw [ka] at p1; rw [kb] at q1; rw [xa] at p4; rw [xb] at q4
      refine ⟨by omega, q2, q3, ?_, ?_⟩
      · rw [List.length_append, List.length_append, List.length_cons, List.length_cons, List.length_nil]; omega
      · rw [List.length_append, List.length_append, List.length_cons, List.length_cons, List.length_nil]; omega
    have brk0 : ∀ (a c d i lf cl j lf2 : Nat) (sg : List Int32), a ≤ 10 → ntk a = 1 → ntx a = 0 → c ≠ 0 → tc i ≠ 0 → (if 8 ≤ d then ((false, i, lf, []) : PRes) else pbd (psr tc tv od f a (d + 1) (i + 1) lf cl) (fun j lf2 sg => if tc j = c then (true, j + 1, lf2, sg) else (false, j, lf2, []))) = (true, j, lf2, sg) → i ≤ N → lf ≤ 50 → pGd N i 1 j lf2 sg 0 := by
      intro a c d i lf cl j lf2 sg ha ka xa hc hne h hi hl
      have hiN := hN i hne
      by_cases h8 : 8 ≤ d
      · rw [if_pos h8] at h; exact (fls_tru h).elim
      rw [if_neg h8] at h
      obtain ⟨j1, l1, s1, e1, h1⟩ := pbd_t h
      by_cases hj : tc j1 = c
      · rw [if_pos hj] at h1
        obtain ⟨rfl, rfl, rfl⟩ := tru_inj h1
        obtain ⟨p1, p2, p3, p4, p5⟩ := ih a (d + 1) (i + 1) lf cl j1 l1 s1 ha e1 (by omega) hl
        rw [ka] at p1; rw [xa] at p4
        have := hN j1 (by omega)
        exact ⟨by omega, by omega, p3, by omega, p5⟩
      · rw [if_neg hj] at h1; exact (fls_tru h1).elim
    have cor : ∀ (d i lf cl j lf2 : Nat) (sg : List Int32), psc tc tv od f d i lf cl = (true, j, lf2, sg) → i ≤ N → lf ≤ 50 → pGd N i 1 j lf2 sg 0 := by
      intro d i lf cl j lf2 sg h hi hl
      unfold psc at h
      by_cases h0 : tc i = 140
      · rw [if_pos h0] at h
        exact brk0 10 141 d i lf cl j lf2 sg (by omega) rfl rfl (by omega) (by omega) h hi hl
      · rw [if_neg h0] at h
        obtain ⟨j1, l1, s1, e1, h1⟩ := pbd_t h
        by_cases hj : tc j1 = 160 ∨ tc j1 = 162 ∨ tc j1 = 161
        · rw [if_pos hj] at h1
          obtain ⟨j2, l2, s2, e2, h2⟩ := pbd_t h1
          obtain ⟨rfl, rfl, rfl⟩ := tru_inj h2
          obtain ⟨p1, p2, p3, p4, p5⟩ := ih 4 d i lf cl j1 l1 s1 (by omega) e1 hi hl
          have := hN j1 (by omega)
          obtain ⟨q1, q2, q3, q4, q5⟩ := ih 4 d (j1 + 1) l1 _ j2 l2 s2 (by omega) e2 (by omega) p3
          rw [show ntk 4 = 1 from rfl] at p1 q1; rw [show ntx 4 = 0 from rfl] at p4 q4
          refine ⟨by omega, q2, q3, ?_, ?_⟩
          · rw [List.length_append, List.length_append, List.length_cons, List.length_cons, List.length_nil]; omega
          · rw [List.length_append, List.length_append, List.length_cons, List.length_cons, List.length_nil]; omega
        · rw [if_neg hj] at h1; exact (fls_tru h1).elim
    intro nt d i lf cl j lf2 sg hnt h hi hl
    match nt, hnt with
    | 0, _ =>
      rw [psr_0] at h
      by_cases h0 : tc i = 191
      · rw [if_pos h0] at h
        exact brk0 4 193 d i lf cl j lf2 sg (by omega) rfl rfl (by omega) (by omega) h hi hl
      rw [if_neg h0] at h
      by_cases h1 : tc i = 50 ∧ tv i ≤ 1000
      · rw [if_pos h1] at h
        by_cases h5 : 50 ≤ lf
        · rw [if_pos h5] at h; exact (fls_tru h).elim
        · rw [if_neg h5] at h
          obtain ⟨rfl, rfl, rfl⟩ := tru_inj h
          have := hN i (by omega)
          exact ⟨Nat.le_refl _, by omega, by omega, by rw [List.length_cons, List.length_cons, List.length_nil]; omega, by rw [List.length_cons, List.length_cons, List.length_nil]⟩
      rw [if_neg h1] at h
      by_cases h2 : isLW od (tc i) = true
      · rw [if_pos h2] at h
        have hne : tc i ≠ 0 := by
          intro h0
          rw [h0] at h2
          revert h2
          cases od <;> decide
        have := hN i hne
        by_cases h5 : 50 ≤ lf
        · rw [if_pos h5] at h; exact (fls_tru h).elim
        rw [if_neg h5] at h
        by_cases h6 : od = true ∧ 15 ≤ tc i
        · rw [if_pos h6] at h
          by_cases h7 : tc (i + 1) = 50 ∧ tv (i + 1) < 4
          · rw [if_pos h7] at h
            obtain ⟨rfl, rfl, rfl⟩ := tru_inj h
            have := hN (i + 1) (by omega)
            exact ⟨by rw [show ntk 0 = 1 from rfl]; omega, by omega, by omega, by rw [List.length_cons, List.length_cons, List.length_nil]; omega, by rw [List.length_cons, List.length_cons, List.length_nil]⟩
          · rw [if_neg h7] at h; exact (fls_tru h).elim
        · rw [if_neg h6] at h
          obtain ⟨rfl, rfl, rfl⟩ := tru_inj h
          exact ⟨Nat.le_refl _, by omega, by omega, by rw [List.length_cons, List.length_cons, List.length_nil]; omega, by rw [List.length_cons, List.length_cons, List.length_nil]⟩
      · rw [if_neg h2] at h; exact (fls_tru h).elim
    | 1, _ =>
      rw [psr_1] at h
      by_cases h0 : tc i = 142 ∨ tc i = 147 ∨ tc i = 137
      · rw [if_pos h0] at h
        exact pst 0 1 _ d i lf cl j lf2 sg (by omega) (by omega) rfl rfl rfl rfl (by omega) h hi hl
      · rw [if_neg h0] at h
        obtain ⟨rfl, rfl, rfl⟩ := tru_inj h
        exact ⟨Nat.le_refl _, hi, hl, by rw [List.length_nil]; omega, rfl⟩
    | 2, _ => rw [psr_2] at h; exact seq 0 1 d i lf cl j lf2 sg (by omega) (by omega) rfl rfl rfl rfl h hi hl
    | 3, _ =>
      rw [psr_3] at h
      by_cases h0 : tc i = 143 ∨ tc i = 145
      · rw [if_pos h0] at h
        exact pst 2 3 _ d i lf cl j lf2 sg (by omega) (by omega) rfl rfl rfl rfl (by omega) h hi hl
      · rw [if_neg h0] at h
        obtain ⟨rfl, rfl, rfl⟩ := tru_inj h
        exact ⟨Nat.le_refl _, hi, hl, by rw [List.length_nil]; omega, rfl⟩
    | 4, _ => rw [psr_4] at h; exact seq 2 3 d i lf cl j lf2 sg (by omega) (by omega) rfl rfl rfl rfl h hi hl
    | 5, _ =>
      rw [psr_5] at h
      by_cases h0 : tc i = 6
      · rw [if_pos h0] at h
        have := hN i (by omega)
        obtain ⟨p1, p2, p3, p4, p5⟩ := ih 6 d (i + 1) lf cl j lf2 sg (by omega) h (by omega) hl
        rw [show ntk 6 = 1 from rfl] at p1; rw [show ntx 6 = 2 from rfl] at p4
        exact ⟨by rw [show ntk 5 = 1 from rfl]; omega, p2, p3, by rw [show ntx 5 = 0 from rfl]; omega, p5⟩
      · rw [if_neg h0] at h
        obtain ⟨j1, l1, s1, e1, h1⟩ := pbd_t h
        obtain ⟨rfl, rfl, rfl⟩ := tru_inj h1
        rw [List.append_nil]
        exact cor d i lf cl _ _ _ e1 hi hl
    | 6, _ =>
      rw [psr_6] at h
      by_cases h0 : tc i = 6
      · rw [if_pos h0] at h
        have := hN i (by omega)
        obtain ⟨p1, p2, p3, p4, p5⟩ := ih 5 d (i + 1) lf cl j lf2 sg (by omega) h (by omega) hl
        rw [show ntk 5 = 1 from rfl] at p1; rw [show ntx 5 = 0 from rfl] at p4
        exact ⟨by rw [show ntk 6 = 1 from rfl]; omega, p2, p3, by rw [show ntx 6 = 2 from rfl]; omega, p5⟩
      · rw [if_neg h0] at h
        obtain ⟨j1, l1, s1, e1, h1⟩ := pbd_t h
        obtain ⟨rfl, rfl, rfl⟩ := tru_inj h1
        obtain ⟨p1, p2, p3, p4, p5⟩ := cor d i lf cl _ _ _ e1 hi hl
        refine ⟨p1, p2, p3, ?_, ?_⟩
        · rw [List.length_append, List.length_cons, List.length_cons, List.length_nil, show ntx 6 = 2 from rfl]; omega
        · rw [List.length_append, List.length_cons, List.length_cons, List.length_nil]; omega
    | 7, _ =>
      rw [psr_7] at h
      by_cases h0 : tc i = 5
      · rw [if_pos h0] at h
        exact jmp 5 7 _ d i lf cl j lf2 sg (by omega) (by omega) rfl rfl rfl rfl (by omega) h hi hl
      · rw [if_neg h0] at h
        obtain ⟨rfl, rfl, rfl⟩ := tru_inj h
        exact ⟨Nat.le_refl _, hi, hl, by rw [List.length_nil]; omega, rfl⟩
    | 8, _ => rw [psr_8] at h; exact seq 5 7 d i lf cl j lf2 sg (by omega) (by omega) rfl rfl rfl rfl h hi hl
    | 9, _ =>
      rw [psr_9] at h
      by_cases h0 : tc i = 4
      · rw [if_pos h0] at h
        exact jmp 8 9 _ d i lf cl j lf2 sg (by omega) (by omega) rfl rfl rfl rfl (by omega) h hi hl
      · rw [if_neg h0] at h
        obtain ⟨rfl, rfl, rfl⟩ := tru_inj h
        exact ⟨Nat.le_refl _, hi, hl, by rw [List.length_nil]; omega, rfl⟩
    | 10, _ => rw [psr_10] at h; exact seq 8 9 d i lf cl j lf2 sg (by omega) (by omega) rfl rfl rfl rfl h hi hl
end PSR

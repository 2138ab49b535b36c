/-! ===== bends and the hull: numbers ===== -/
section HUM
/-- a size is a bend: strictly below each line from a lesser one to a greater one -/
def IsB (f : Nat → Int) (c : Nat) : Prop := ∀ a b, a < c → c < b → b ≤ 24 → f c * ((b : Int) - a) < f a * ((b : Int) - c) + f b * ((c : Int) - a)
/-- the size to which the line from this one falls most steeply, among d more; of alike ones the last -/
def nxD (f : Nat → Int) (at0 : Nat) : Nat → Nat
  | 0 => at0 + 1
  | d + 1 => if (f (at0 + 2 + d) - f at0) * ((nxD f at0 d : Int) - at0) ≤ (f (nxD f at0 d) - f at0) * (((at0 + 2 + d : Nat) : Int) - at0) then at0 + 2 + d else nxD f at0 d
abbrev nxB (f : Nat → Int) (at0 : Nat) : Nat := nxD f at0 (23 - at0)
theorem i_alg1 {p u v F T A C : Int} (hp : 0 < p) (hu : 0 < u) (hv : 0 < v) (h1 : F * u + T * (p - u) ≤ p * A) (h2 : T * (p + v) - F * v < p * C) : T * (u + v) < A * v + C * u := by
  have a1 := Int.mul_le_mul_of_nonneg_left h1 (Int.le_of_lt hv)
  have a2 := Int.mul_lt_mul_of_pos_left h2 hu
  refine Int.not_le.mp (fun q => ?_)
  have a3 := Int.mul_le_mul_of_nonneg_left q (Int.le_of_lt hp)
  simp only [Int.mul_add, Int.add_mul, Int.mul_sub, Int.sub_mul, Int.mul_assoc, Int.mul_comm, Int.mul_left_comm] at a1 a2 a3
  omega
/-- among those looked at none falls more steeply, behind it each less -/
theorem nxD_ok {f : Nat → Int} {at0 : Nat} : ∀ d, at0 < nxD f at0 d ∧ nxD f at0 d ≤ at0 + 1 + d ∧ (∀ c, at0 < c → c ≤ nxD f at0 d → (f (nxD f at0 d) - f at0) * ((c : Int) - at0) ≤ (f c - f at0) * ((nxD f at0 d : Int) - at0)) ∧ (∀ c, nxD f at0 d < c → c ≤ at0 + 1 + d → (f (nxD f at0 d) - f at0) * ((c : Int) - at0) < (f c - f at0) * ((nxD f at0 d : Int) - at0))
  | 0 => by
    refine ⟨Nat.lt_succ_self _, Nat.le_refl _, fun c h1 h2 => ?_, fun c h1 h2 => ?_⟩
    · obtain rfl : c = at0 + 1 := by have : nxD f at0 0 = at0 + 1 := rfl; omega
      exact Int.le_refl _
    · have : nxD f at0 0 = at0 + 1 := rfl
      omega
  | d + 1 => by
    obtain ⟨a1, a2, a3, a4⟩ := nxD_ok (f := f) (at0 := at0) d
    have e0 : nxD f at0 (d + 1) = if (f (at0 + 2 + d) - f at0) * ((nxD f at0 d : Int) - at0) ≤ (f (nxD f at0 d) - f at0) * (((at0 + 2 + d : Nat) : Int) - at0) then at0 + 2 + d else nxD f at0 d := rfl
    generalize nxD f at0 d = to at a1 a2 a3 a4 e0
    by_cases q : (f (at0 + 2 + d) - f at0) * ((to : Int) - at0) ≤ (f to - f at0) * (((at0 + 2 + d : Nat) : Int) - at0)
    · rw [if_pos q] at e0
      rw [e0]
      refine ⟨by omega, by omega, fun c h1 h2 => ?_, fun c h1 h2 => by omega⟩
      by_cases e : c = at0 + 2 + d
      · subst e; exact Int.le_refl _
      · have h3 : (f to - f at0) * ((c : Int) - at0) ≤ (f c - f at0) * ((to : Int) - at0) := by
          by_cases h : c ≤ to
          · exact a3 c h1 h
          · exact Int.le_of_lt (a4 c (by omega) (by omega))
        -- slopes: the new one, to, c
        have hp : (0 : Int) < (to : Int) - at0 := by omega
        have hu : (0 : Int) < (c : Int) - at0 := by omega
        have hw : (0 : Int) < ((at0 + 2 + d : Nat) : Int) - at0 := by omega
        generalize f (at0 + 2 + d) - f at0 = N at q
        generalize f to - f at0 = T at q h3
        generalize f c - f at0 = C at h3
        generalize (to : Int) - at0 = p at q h3 hp
        generalize (c : Int) - at0 = u at h3 hu
        generalize ((at0 + 2 + d : Nat) : Int) - at0 = w at q hw
        have b1 := Int.mul_le_mul_of_nonneg_right q (Int.le_of_lt hu)
        have b2 := Int.mul_le_mul_of_nonneg_right h3 (Int.le_of_lt hw)
        refine Int.not_lt.mp (fun q2 => ?_)
        have b3 := Int.mul_lt_mul_of_pos_right q2 hp
        simp only [Int.mul_assoc, Int.mul_comm, Int.mul_left_comm] at b1 b2 b3
        omega
    · rw [if_neg q] at e0
      rw [e0]
      refine ⟨a1, by omega, a3, fun c h1 h2 => ?_⟩
      by_cases e : c = at0 + 2 + d
      · subst e; exact Int.not_le.mp q
      · exact a4 c h1 (by omega)
theorem nxB_ok {f : Nat → Int} {at0 : Nat} (h : at0 < 24) : at0 < nxB f at0 ∧ nxB f at0 ≤ 24 ∧ (∀ c, at0 < c → c ≤ nxB f at0 → (f (nxB f at0) - f at0) * ((c : Int) - at0) ≤ (f c - f at0) * ((nxB f at0 : Int) - at0)) ∧ (∀ c, nxB f at0 < c → c ≤ 24 → (f (nxB f at0) - f at0) * ((c : Int) - at0) < (f c - f at0) * ((nxB f at0 : Int) - at0)) := by
  obtain ⟨a1, a2, a3, a4⟩ := nxD_ok (f := f) (at0 := at0) (23 - at0)
  exact ⟨a1, by have : nxB f at0 ≤ at0 + 1 + (23 - at0) := a2; omega, a3, fun c h1 h2 => a4 c h1 (by omega)⟩
/-- no size is below the line from a bend to the next one -/
theorem nx_above {f : Nat → Int} {at0 : Nat} (h : at0 < 24) (hb : IsB f at0) {x : Nat} (hx : x ≤ 24) : f at0 * ((nxB f at0 : Int) - x) + f (nxB f at0) * ((x : Int) - at0) ≤ ((nxB f at0 : Int) - at0) * f x := by
  obtain ⟨a1, a2, a3, a4⟩ := nxB_ok (f := f) h
  generalize nxB f at0 = to at a1 a2 a3 a4
  by_cases e : x = at0
  · subst e
    simp only [Int.mul_sub, Int.sub_mul, Int.mul_comm]
    omega
  by_cases h1 : x < at0
  · have := hb x to h1 a1 a2
    simp only [Int.mul_sub, Int.sub_mul, Int.mul_comm] at this ⊢
    omega
  · have : (f to - f at0) * ((x : Int) - at0) ≤ (f x - f at0) * ((to : Int) - at0) := by
      by_cases h2 : x ≤ to
      · exact a3 x (by omega) h2
      · exact Int.le_of_lt (a4 x (by omega) hx)
    simp only [Int.mul_sub, Int.sub_mul, Int.mul_comm] at this ⊢
    omega
theorem nx_beh {f : Nat → Int} {at0 : Nat} (h : at0 < 24) {x : Nat} (h1 : nxB f at0 < x) (hx : x ≤ 24) : f at0 * ((nxB f at0 : Int) - x) + f (nxB f at0) * ((x : Int) - at0) < ((nxB f at0 : Int) - at0) * f x := by
  obtain ⟨a1, a2, a3, a4⟩ := nxB_ok (f := f) h
  have := a4 x h1 hx
  simp only [Int.mul_sub, Int.sub_mul, Int.mul_comm] at this ⊢
  omega
/-- behind a bend the next one is one -/
theorem nx_bend {f : Nat → Int} {at0 : Nat} (h : at0 < 24) (hb : IsB f at0) : IsB f (nxB f at0) := fun a c ha hc hc2 => by
  have q1 := nx_above h hb (x := a) (by omega)
  have q2 := nx_beh h (x := c) hc hc2
  obtain ⟨a1, a2, -, -⟩ := nxB_ok (f := f) h
  have := i_alg1 (p := (nxB f at0 : Int) - at0) (u := (nxB f at0 : Int) - a) (v := (c : Int) - nxB f at0) (F := f at0) (T := f (nxB f at0)) (A := f a) (C := f c) (by omega) (by omega) (by omega) (by rw [show (nxB f at0 : Int) - at0 - ((nxB f at0 : Int) - a) = (a : Int) - at0 by omega]; exact q1) (by
    rw [show (nxB f at0 : Int) - at0 + ((c : Int) - nxB f at0) = (c : Int) - at0 by omega]
    have e : f at0 * ((nxB f at0 : Int) - c) = -(f at0 * ((c : Int) - nxB f at0)) := by
      rw [← Int.mul_neg, Int.neg_sub]
    omega)
  rw [show (nxB f at0 : Int) - a + ((c : Int) - nxB f at0) = (c : Int) - a by omega] at this
  exact this
/-- between both none is -/
theorem nx_not {f : Nat → Int} {at0 c : Nat} (h : at0 < 24) (h1 : at0 < c) (h2 : c < nxB f at0) : ¬ IsB f c := fun q => by
  obtain ⟨a1, a2, a3, -⟩ := nxB_ok (f := f) h
  have x1 := q at0 (nxB f at0) h1 h2 a2
  have x2 := a3 c h1 (by omega)
  simp only [Int.mul_sub, Int.sub_mul, Int.mul_comm] at x1 x2
  omega
theorem isB_0 {f : Nat → Int} : IsB f 0 := fun a b h => absurd h (Nat.not_lt_zero _)
/-- the bends, one after another; behind the last one 25 -/
def nbI (f : Nat → Int) : Nat → Nat
  | 0 => 0
  | i + 1 => nxB f (nbI f i)
theorem nb_lt {f : Nat → Int} {i : Nat} : nbI f i < nbI f (i + 1) := (nxD_ok (f := f) (at0 := nbI f i) _).1
theorem nb_st {f : Nat → Int} {i : Nat} (h : nbI f i < 24) : nbI f (i + 1) ≤ 24 := (nxB_ok (f := f) h).2.1
theorem nb_la {f : Nat → Int} {i : Nat} (h : nbI f i = 24) : nbI f (i + 1) = 25 := by
  show nxB f (nbI f i) = 25
  rw [h]; rfl
theorem nb_ge {f : Nat → Int} : ∀ i, i ≤ nbI f i
  | 0 => Nat.zero_le _
  | i + 1 => by
    have := nb_ge (f := f) i
    have := nb_lt (f := f) (i := i)
    omega
theorem nb_b {f : Nat → Int} : ∀ i, nbI f i ≤ 24 → IsB f (nbI f i)
  | 0, _ => isB_0
  | i + 1, h => by
    have h1 := nb_lt (f := f) (i := i)
    exact nx_bend (f := f) (by omega) (nb_b i (by omega))
theorem nb_mono {f : Nat → Int} {i : Nat} : ∀ {j}, i < j → nbI f i < nbI f j
  | j + 1, h => by
    have h1 := nb_lt (f := f) (i := j)
    by_cases e : i = j
    · subst e; exact h1
    · have := nb_mono (f := f) (i := i) (j := j) (by omega)
      omega
/-- at each size: it is the bend that is due, or none is there -/
theorem nb_step {f : Nat → Int} {c n : Nat} (hc : c ≤ 24) (h1 : c ≤ nbI f n) (h2 : n = 0 ∨ nbI f (n - 1) < c) : (c = nbI f n ∧ IsB f c) ∨ (c < nbI f n ∧ ¬ IsB f c) := by
  by_cases e : c = nbI f n
  · exact Or.inl ⟨e, e ▸ nb_b n (by omega)⟩
  · refine Or.inr ⟨by omega, ?_⟩
    cases n with
    | zero =>
      have : nbI f 0 = 0 := rfl
      omega
    | succ n =>
      have h3 : nbI f n < c := by
        rcases h2 with h2 | h2
        · omega
        · exact h2
      exact nx_not (f := f) (at0 := nbI f n) (by omega) h3 (by show c < nbI f (n + 1); omega)
/-- which bend is the last one -/
def nbS (f : Nat → Int) : Nat → Nat → Nat
  | 0, i => i
  | d + 1, i => if nbI f i < 24 then nbS f d (i + 1) else i
theorem nbS_ok {f : Nat → Int} : ∀ d i, i + d = 24 → nbI f i ≤ 24 → nbI f (nbS f d i) = 24 ∧ nbS f d i ≤ 24 ∧ i ≤ nbS f d i
  | 0, i, h, h1 => by
    have := nb_ge (f := f) i
    refine ⟨?_, by show i ≤ 24; omega, Nat.le_refl _⟩
    show nbI f i = 24
    omega
  | d + 1, i, h, h1 => by
    unfold nbS
    by_cases q : nbI f i < 24
    · rw [if_pos q]
      have := nbS_ok (f := f) d (i + 1) (by omega) (nb_st q)
      exact ⟨this.1, this.2.1, by omega⟩
    · rw [if_neg q]
      exact ⟨by omega, by omega, Nat.le_refl _⟩
abbrev nbL (f : Nat → Int) : Nat := nbS f 24 0
theorem nbL_ok {f : Nat → Int} : nbI f (nbL f) = 24 ∧ nbL f ≤ 24 := ⟨(nbS_ok 24 0 rfl (Nat.zero_le _)).1, (nbS_ok 24 0 rfl (Nat.zero_le _)).2.1⟩
theorem nbL_lt {f : Nat → Int} {i : Nat} : nbI f i < 24 ↔ i < nbL f := by
  have h := (nbL_ok (f := f)).1
  constructor
  · intro q
    refine Nat.not_le.mp (fun r => ?_)
    by_cases e : i = nbL f
    · rw [e] at q; omega
    · have := nb_mono (f := f) (i := nbL f) (j := i) (by omega); omega
  · intro q
    have := nb_mono (f := f) q
    omega
theorem nbL_1 {f : Nat → Int} : 0 < nbL f := nbL_lt.mp (by show (0 : Nat) < 24; omega)
/-- behind all sizes all bends were met -/
theorem nb_end {f : Nat → Int} {n : Nat} (h1 : 25 ≤ nbI f n) (h2 : n = 0 ∨ nbI f (n - 1) < 25) : n = nbL f + 1 := by
  cases n with
  | zero => exact absurd h1 (by show ¬ 25 ≤ 0; omega)
  | succ n =>
    have h3 : nbI f n < 25 := by
      rcases h2 with h2 | h2
      · omega
      · exact h2
    have h4 : ¬ nbI f n < 24 := fun q => by have := nb_st q; omega
    have h5 := nbL_ok (f := f)
    by_cases e : n = nbL f
    · omega
    · by_cases q : n < nbL f
      · exact absurd (nbL_lt.mpr q) h4
      · have := nb_mono (f := f) (i := nbL f) (j := n) (by omega); omega
end HUM

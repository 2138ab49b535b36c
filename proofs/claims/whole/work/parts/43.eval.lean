/-! ===== MissCurves$Judge: evaluate, as a machine on a stack of numbers ===== -/
/-- one step's number: what (a sign as its byte) of two numbers -/
def isSg (c : Nat) : Bool := c == 60 || c == 62 || c == 61 || c == 43 || c == 45 || c == 42 || c == 47 || c == 37
/-- the machine: code C (pairs), how long it is, words W, how many; how far, how many wait, the numbers -/
def evF (C : Nat → Int32) (cl : Nat) (V : Nat → Int32) (vl : Nat) : Nat → Nat → Nat → (Nat → Int64) → Int64
  | 0, _, _, _ => brk
  | f + 1, i, sz, S =>
    if i + 1 < cl then
      if C i = nI 0 then (if 0 < sz then S (sz - 1) else brk)
      else if C i = nI 1 then (if sz < 64 then evF C cl V vl f (i + 2) (sz + 1) (up1 S sz (C (i + 1)).toInt64) else brk)
      else if C i = nI 2 then (if sz < 64 ∧ inB (C (i + 1)) vl = true then evF C cl V vl f (i + 2) (sz + 1) (up1 S sz (V (C (i + 1)).toNatClampNeg).toInt64) else brk)
      else if sz < 1 then brk
      else if C i = nI 3 then evF C cl V vl f (i + 2) sz (up1 S (sz - 1) (1 - S (sz - 1)))
      else if C i = nI 4 then (if S (sz - 1) = 1 then evF C cl V vl f (max i ((C (i + 1)).toNatClampNeg - 2) + 2) sz S else evF C cl V vl f (i + 2) (sz - 1) S)
      else if C i = nI 5 then (if S (sz - 1) = 0 then evF C cl V vl f (max i ((C (i + 1)).toNatClampNeg - 2) + 2) sz S else evF C cl V vl f (i + 2) (sz - 1) S)
      else if sz < 2 then brk
      else if cmb (C i).toNatClampNeg (S (sz - 2)) (S (sz - 1)) = brk then brk
      else evF C cl V vl f (i + 2) (sz - 1) (up1 S (sz - 2) (cmb (C i).toNatClampNeg (S (sz - 2)) (S (sz - 1))))
    else brk
/-- code that the parser makes: signs are bytes, jumps go within -/
def CodeOK (C : Nat → Int32) (cl : Nat) : Prop := ∀ i, i + 1 < cl → i % 2 = 0 → (∃ c, c < 256 ∧ C i = nI c ∧ (6 ≤ c → isSg c = true)) ∧ (C i = nI 4 ∨ C i = nI 5 → ∃ v, 2 ≤ v ∧ v ≤ cl ∧ v % 2 = 0 ∧ C (i + 1) = nI v)
section EV
variable {g : Gl} {M : Mem}
theorem c_combine {c : Nat} {a b : Int64} (hc : isSg c = true) : Cl g Y_Ju_combine 0 [.int (nI c), .long a, .long b] M (fun x M2 => x = cmb c a b ∧ M2 = M) := by
  simp only [isSg, Bool.or_eq_true, beq_iff_eq] at hc
  rcases hc with ((((((rfl | rfl) | rfl) | rfl) | rfl) | rfl) | rfl) | rfl
  · exact c_cmb60
  · exact c_cmb62
  · exact c_cmb61
  · exact c_cmb43
  · exact c_cmb45
  · exact c_cmb42
  · exact c_cmb47
  · exact c_cmb37
end EV

/-! ===== the machine of code, its fuel away ===== -/
section EVN
variable (C : Nat → Int32) (cl : Nat) (V : Nat → Int32) (vl : Nat)
def stE (rec : Nat → Nat → (Nat → Int64) → Int64) (i sz : Nat) (S : Nat → Int64) : Int64 :=
    if i + 1 < cl then
      if C i = nI 0 then (if 0 < sz then S (sz - 1) else brk)
      else if C i = nI 1 then (if sz < 64 then rec (i + 2) (sz + 1) (up1 S sz (C (i + 1)).toInt64) else brk)
      else if C i = nI 2 then (if sz < 64 ∧ inB (C (i + 1)) vl = true then rec (i + 2) (sz + 1) (up1 S sz (V (C (i + 1)).toNatClampNeg).toInt64) else brk)
      else if sz < 1 then brk
      else if C i = nI 3 then rec (i + 2) sz (up1 S (sz - 1) (1 - S (sz - 1)))
      else if C i = nI 4 then (if S (sz - 1) = 1 then rec (max i ((C (i + 1)).toNatClampNeg - 2) + 2) sz S else rec (i + 2) (sz - 1) S)
      else if C i = nI 5 then (if S (sz - 1) = 0 then rec (max i ((C (i + 1)).toNatClampNeg - 2) + 2) sz S else rec (i + 2) (sz - 1) S)
      else if sz < 2 then brk
      else if cmb (C i).toNatClampNeg (S (sz - 2)) (S (sz - 1)) = brk then brk
      else rec (i + 2) (sz - 1) (up1 S (sz - 2) (cmb (C i).toNatClampNeg (S (sz - 2)) (S (sz - 1))))
    else brk
theorem evF_st (f i sz : Nat) (S : Nat → Int64) : evF C cl V vl (f + 1) i sz S = stE C cl V vl (evF C cl V vl f) i sz S := rfl
theorem stE_congr {r1 r2 : Nat → Nat → (Nat → Int64) → Int64} {i sz : Nat} {S : Nat → Int64} (h : ∀ j, i + 2 ≤ j → ∀ sz S, r1 j sz S = r2 j sz S) : stE C cl V vl r1 i sz S = stE C cl V vl r2 i sz S := by
  have h1 := fun sz S => h (i + 2) (Nat.le_refl _) sz S
  have h2 := fun q sz S => h (max i q + 2) (by omega) sz S
  unfold stE
  simp only [h1, h2]
theorem evF_fuel : ∀ f f2 i sz (S : Nat → Int64), cl ≤ i + 2 * f → cl ≤ i + 2 * f2 → evF C cl V vl f i sz S = evF C cl V vl f2 i sz S
  | 0, 0, _, _, _, _, _ => rfl
  | 0, f2 + 1, i, sz, S, h, _ => by
    rw [evF_st]
    unfold stE
    rw [if_neg (by omega)]; rfl
  | f + 1, 0, i, sz, S, _, h => by
    rw [evF_st]
    unfold stE
    rw [if_neg (by omega)]; rfl
  | f + 1, f2 + 1, i, sz, S, h, h2 => by
    rw [evF_st, evF_st]
    exact stE_congr C cl V vl (fun j hj sz S => evF_fuel f f2 j sz S (by omega) (by omega))
def evN (i sz : Nat) (S : Nat → Int64) : Int64 := evF C cl V vl cl i sz S
theorem evN_st (i sz : Nat) (S : Nat → Int64) : evN C cl V vl i sz S = stE C cl V vl (evN C cl V vl) i sz S := by
  have h := evF_fuel C cl V vl cl (cl + 1) i sz S (by omega) (by omega)
  unfold evN
  rw [h, evF_st]
theorem evN_indep {i sz : Nat} {S S2 : Nat → Int64} (h : ∀ k, k < sz → S k = S2 k) : evN C cl V vl i sz S = evN C cl V vl i sz S2 := evF_indep cl i sz S S2 h
end EVN
section EVO
variable {C : Nat → Int32} {cl : Nat} {V : Nat → Int32} {vl : Nat} {i sz : Nat} {S : Nat → Int64}
theorem nIne {a b : Nat} (ha : a < 1000) (hb : b < 1000) (h : a ≠ b) : ¬ nI a = nI b := fun q => h ((nI_eq (by omega) (by omega)).mp q)
theorem evN_stop (hi : i + 1 < cl) (hc : C i = nI 0) : evN C cl V vl i (sz + 1) S = S sz := by
  rw [evN_st]
  unfold stE
  rw [if_pos hi, if_pos hc, if_pos (by omega)]; rfl
theorem evN_num (hi : i + 1 < cl) (hc : C i = nI 1) (hs : sz < 64) : evN C cl V vl i sz S = evN C cl V vl (i + 2) (sz + 1) (up1 S sz (C (i + 1)).toInt64) := by
  rw [evN_st]
  unfold stE
  rw [if_pos hi, if_neg (by rw [hc]; exact nIne (by omega) (by omega) (by omega)), if_pos hc, if_pos hs]
theorem evN_word {u : Nat} (hi : i + 1 < cl) (hc : C i = nI 2) (hu : C (i + 1) = nI u) (hv : u < vl) (hv2 : vl < 100) (hs : sz < 64) : evN C cl V vl i sz S = evN C cl V vl (i + 2) (sz + 1) (up1 S sz (V u).toInt64) := by
  rw [evN_st]
  unfold stE
  rw [if_pos hi, if_neg (by rw [hc]; exact nIne (by omega) (by omega) (by omega)), if_neg (by rw [hc]; exact nIne (by omega) (by omega) (by omega)), if_pos hc, hu, if_pos ⟨hs, inB_nI hv (by omega)⟩, nI_clamp (by omega)]
theorem evN_not (hi : i + 1 < cl) (hc : C i = nI 3) : evN C cl V vl i (sz + 1) S = evN C cl V vl (i + 2) (sz + 1) (up1 S sz (1 - S sz)) := by
  rw [evN_st]
  unfold stE
  rw [if_pos hi, if_neg (by rw [hc]; exact nIne (by omega) (by omega) (by omega)), if_neg (by rw [hc]; exact nIne (by omega) (by omega) (by omega)), if_neg (by rw [hc]; exact nIne (by omega) (by omega) (by omega)), if_neg (by omega), if_pos hc]; rfl
theorem evN_or {t : Nat} (hi : i + 1 < cl) (hc : C i = nI 4) (ht : C (i + 1) = nI t) (ht2 : t < 10000) : evN C cl V vl i (sz + 1) S = if S sz = 1 then evN C cl V vl (max i (t - 2) + 2) (sz + 1) S else evN C cl V vl (i + 2) sz S := by
  rw [evN_st]
  unfold stE
  rw [if_pos hi, if_neg (by rw [hc]; exact nIne (by omega) (by omega) (by omega)), if_neg (by rw [hc]; exact nIne (by omega) (by omega) (by omega)), if_neg (by rw [hc]; exact nIne (by omega) (by omega) (by omega)), if_neg (by omega), if_neg (by rw [hc]; exact nIne (by omega) (by omega) (by omega)), if_pos hc, ht, nI_clamp (by omega)]; rfl
theorem evN_and {t : Nat} (hi : i + 1 < cl) (hc : C i = nI 5) (ht : C (i + 1) = nI t) (ht2 : t < 10000) : evN C cl V vl i (sz + 1) S = if S sz = 0 then evN C cl V vl (max i (t - 2) + 2) (sz + 1) S else evN C cl V vl (i + 2) sz S := by
  rw [evN_st]
  unfold stE
  rw [if_pos hi, if_neg (by rw [hc]; exact nIne (by omega) (by omega) (by omega)), if_neg (by rw [hc]; exact nIne (by omega) (by omega) (by omega)), if_neg (by rw [hc]; exact nIne (by omega) (by omega) (by omega)), if_neg (by omega), if_neg (by rw [hc]; exact nIne (by omega) (by omega) (by omega)), if_neg (by rw [hc]; exact nIne (by omega) (by omega) (by omega)), if_pos hc, ht, nI_clamp (by omega)]; rfl
theorem evN_op {c : Nat} (hi : i + 1 < cl) (hc : C i = nI c) (h6 : 6 ≤ c) (h7 : c < 256) : evN C cl V vl i (sz + 2) S = if cmb c (S sz) (S (sz + 1)) = brk then brk else evN C cl V vl (i + 2) (sz + 1) (up1 S sz (cmb c (S sz) (S (sz + 1)))) := by
  rw [evN_st]
  unfold stE
  rw [if_pos hi, if_neg (by rw [hc]; exact nIne (by omega) (by omega) (by omega)), if_neg (by rw [hc]; exact nIne (by omega) (by omega) (by omega)), if_neg (by rw [hc]; exact nIne (by omega) (by omega) (by omega)), if_neg (by omega), if_neg (by rw [hc]; exact nIne (by omega) (by omega) (by omega)), if_neg (by rw [hc]; exact nIne (by omega) (by omega) (by omega)), if_neg (by rw [hc]; exact nIne (by omega) (by omega) (by omega)), if_neg (by omega), hc, nI_clamp (by omega)]; rfl
end EVO
/-- code that is laid -/
def Hd (C : Nat → Int32) (cl : Nat) (sg : List Int32) : Prop := ∀ j, j < sg.length → C (cl + j) = sg.getD j 0
theorem Hd.l {C : Nat → Int32} {cl : Nat} {a b : List Int32} (h : Hd C cl (a ++ b)) : Hd C cl a := fun j hj => by
  rw [h j (by rw [List.length_append]; omega), getD_app_l hj]
theorem Hd.r {C : Nat → Int32} {cl : Nat} {a b : List Int32} (h : Hd C cl (a ++ b)) : Hd C (cl + a.length) b := fun j hj => by
  rw [Nat.add_assoc, h (a.length + j) (by rw [List.length_append]; omega), getD_app_r (by omega)]
  congr 1
  omega
theorem Hd.two {C : Nat → Int32} {cl : Nat} {a b : Int32} (h : Hd C cl [a, b]) : C cl = a ∧ C (cl + 1) = b := ⟨h 0 (by show 0 < 2; omega), h 1 (by show 1 < 2; omega)⟩
/-- what the model does of two numbers: the number, whether it broke -/
theorem bnd_bb {v : Int64} : bnd v = (if bbr v true false = true then brk else v) ∧ (bbr v true false = false → ¬ v = brk) := by
  unfold bnd bbr
  by_cases h1 : v < -1000000000
  · rw [if_pos h1, decide_eq_true h1]
    simp
  · rw [if_neg h1]
    by_cases h2 : 1000000000 < v
    · rw [if_pos h2, decide_eq_true h2]
      simp
    · rw [if_neg h2, decide_eq_false h1, decide_eq_false h2]
      refine ⟨by simp, fun _ h3 => ?_⟩
      rw [h3] at h1
      exact h1 (by decide)
theorem bbv_no {v : Int64} {live b : Bool} (h : bbr v live b = false) : bbv v live b = v := by unfold bbv; rw [h]; rfl
theorem bbv_br {v : Int64} {live b : Bool} (h : bbr v live b = true) : bbv v live b = 0 := by unfold bbv; rw [h]; rfl
theorem bb_dead {live b : Bool} (h : live = false ∨ b = true) : bbr 0 live b = b ∧ bbv 0 live b = 0 := by
  unfold bbv bbr
  rcases h with rfl | rfl
  · cases b <;> decide
  · cases live <;> decide
theorem bb_brk {v : Int64} {live : Bool} : bbr v live true = true ∧ bbv v live true = 0 := ⟨rfl, rfl⟩
theorem dv_dead {live b : Bool} (h : live = false ∨ b = true) : dvb 0 live b = b := by
  unfold dvb
  rcases h with rfl | rfl
  · cases b <;> rfl
  · cases live <;> rfl

/-! ===== MissCurves$Judge: combine ===== -/
/-- BROKEN, as the class has it -/
def brk : Int64 := -2000000000
def bnd (v : Int64) : Int64 := if v < -1000000000 then brk else if 1000000000 < v then brk else v
/-- two numbers by a sign: < > = + - * / % -/
def cmb (c : Nat) (a b : Int64) : Int64 :=
  if c = 60 then (if a < b then 1 else 0) else if c = 62 then (if b < a then 1 else 0) else if c = 61 then (if a = b then 1 else 0)
  else if c = 43 then bnd (a + b) else if c = 45 then bnd (a - b) else if c = 42 then bnd (a * b)
  else if c = 47 then (if b = 0 then brk else bnd (a / b)) else if c = 37 then (if b = 0 then brk else bnd (a - a / b * b)) else brk
section CB
variable {g : Gl} {M : Mem}
theorem lcmp_ge (x y : Int64) : 0 ≤ lg_cmp x y ↔ ¬ x < y := by
  rw [← lcmp_lt]
  exact Int32.not_lt.symm
theorem lcmp_le (x y : Int64) : lg_cmp x y ≤ 0 ↔ ¬ y < x := by
  rw [← lcmp_gt]
  exact Int32.not_lt.symm
theorem l_bnd {x0 x1 x3 : Option Value} {v : Int64} : Wp g Y_Ju_combine 0 224 [x0, x1, none, x3, none, some (.long v), none] [] M (fun r M2 => ∃ x, r = some (.long x) ∧ x = bnd v ∧ M2 = M) := by
  refine wp_lload rfl (ck_get kk_Ju_combine 65 rfl) ?_
  refine wp_ldc2 kl_Ju_103 (ck_get kk_Ju_combine 66 rfl) ?_
  refine wp_lcmp (ck_get kk_Ju_combine 67 rfl) ?_
  refine wp_if_lt (t := 242) (ck_get kk_Ju_combine 68 rfl) (by decide) (fun hc230 => ?_) (fun hc230 => ?_)
  · refine wp_ldc2 kl_Ju_77 (ck_get kk_Ju_combine 73 rfl) ?_
    refine wp_goto (t := 250) (ck_get kk_Ju_combine 74 rfl) (by decide) ?_
    refine wp_lreturn (ck_get kk_Ju_combine 76 rfl) rfl ⟨_, rfl, ?_⟩
    have hlt : v < -1000000000 := (lcmp_lt _ _).mp hc230
    exact ⟨by rw [bnd, if_pos hlt]; rfl, rfl⟩
  · refine wp_lload rfl (ck_get kk_Ju_combine 69 rfl) ?_
    refine wp_ldc2 kl_Ju_105 (ck_get kk_Ju_combine 70 rfl) ?_
    refine wp_lcmp (ck_get kk_Ju_combine 71 rfl) ?_
    refine wp_if_le (t := 248) (ck_get kk_Ju_combine 72 rfl) (by decide) (fun hc239 => ?_) (fun hc239 => ?_)
    · refine wp_lload rfl (ck_get kk_Ju_combine 75 rfl) ?_
      refine wp_lreturn (ck_get kk_Ju_combine 76 rfl) rfl ⟨_, rfl, ?_⟩
      have h1 : ¬ v < -1000000000 := fun h => hc230 ((lcmp_lt _ _).mpr h)
      have h2 : ¬ 1000000000 < v := (lcmp_le _ _).mp hc239
      exact ⟨by rw [bnd, if_neg h1, if_neg h2], rfl⟩
    · refine wp_ldc2 kl_Ju_77 (ck_get kk_Ju_combine 73 rfl) ?_
      refine wp_goto (t := 250) (ck_get kk_Ju_combine 74 rfl) (by decide) ?_
      refine wp_lreturn (ck_get kk_Ju_combine 76 rfl) rfl ⟨_, rfl, ?_⟩
      have h1 : ¬ v < -1000000000 := fun h => hc230 ((lcmp_lt _ _).mpr h)
      have h2 : 1000000000 < v := Classical.not_not.mp (fun h => hc239 ((lcmp_le _ _).mpr h))
      exact ⟨by rw [bnd, if_neg h1, if_pos h2]; rfl, rfl⟩
theorem c_cmb60 {a b : Int64} : Cl g Y_Ju_combine 0 [.int (nI 60), .long a, .long b] M (fun x M2 => x = cmb 60 a b ∧ M2 = M) := by
  refine cw_entry 2 pf_Ju_combine rfl ?_
  refine wp_iload_n rfl (ck_get kk_Ju_combine 0 rfl) ?_
  refine wp_tabIn (t := 120) (off := 119) (ck_get kk_Ju_combine 1 rfl) (by decide) (by decide) rfl (by decide) ?_
  refine wp_lload_n rfl (ck_get kk_Ju_combine 2 rfl) ?_
  refine wp_lload_n rfl (ck_get kk_Ju_combine 3 rfl) ?_
  refine wp_lcmp (ck_get kk_Ju_combine 4 rfl) ?_
  refine wp_if_ge (t := 130) (ck_get kk_Ju_combine 5 rfl) (by decide) (fun hc123 => ?_) (fun hc123 => ?_)
  · refine wp_lconst (v := 0) (by decide) (ck_get kk_Ju_combine 8 rfl) ?_
    refine wp_lreturn (ck_get kk_Ju_combine 9 rfl) rfl ⟨_, rfl, ?_⟩
    have h1 : ¬ a < b := (lcmp_ge _ _).mp hc123
    exact ⟨by rw [cmb, if_pos rfl, if_neg h1], rfl⟩
  · refine wp_lconst (v := 1) (by decide) (ck_get kk_Ju_combine 6 rfl) ?_
    refine wp_goto (t := 131) (ck_get kk_Ju_combine 7 rfl) (by decide) ?_
    refine wp_lreturn (ck_get kk_Ju_combine 9 rfl) rfl ⟨_, rfl, ?_⟩
    have h1 : a < b := Classical.not_not.mp (fun h => hc123 ((lcmp_ge _ _).mpr h))
    exact ⟨by rw [cmb, if_pos rfl, if_pos h1], rfl⟩
theorem c_cmb62 {a b : Int64} : Cl g Y_Ju_combine 0 [.int (nI 62), .long a, .long b] M (fun x M2 => x = cmb 62 a b ∧ M2 = M) := by
  refine cw_entry 2 pf_Ju_combine rfl ?_
  refine wp_iload_n rfl (ck_get kk_Ju_combine 0 rfl) ?_
  refine wp_tabIn (t := 132) (off := 131) (ck_get kk_Ju_combine 1 rfl) (by decide) (by decide) rfl (by decide) ?_
  refine wp_lload_n rfl (ck_get kk_Ju_combine 10 rfl) ?_
  refine wp_lload_n rfl (ck_get kk_Ju_combine 11 rfl) ?_
  refine wp_lcmp (ck_get kk_Ju_combine 12 rfl) ?_
  refine wp_if_le (t := 142) (ck_get kk_Ju_combine 13 rfl) (by decide) (fun hc135 => ?_) (fun hc135 => ?_)
  · refine wp_lconst (v := 0) (by decide) (ck_get kk_Ju_combine 16 rfl) ?_
    refine wp_lreturn (ck_get kk_Ju_combine 17 rfl) rfl ⟨_, rfl, ?_⟩
    have h1 : ¬ b < a := (lcmp_le _ _).mp hc135
    exact ⟨by rw [cmb, if_neg (by decide), if_pos rfl, if_neg h1], rfl⟩
  · refine wp_lconst (v := 1) (by decide) (ck_get kk_Ju_combine 14 rfl) ?_
    refine wp_goto (t := 143) (ck_get kk_Ju_combine 15 rfl) (by decide) ?_
    refine wp_lreturn (ck_get kk_Ju_combine 17 rfl) rfl ⟨_, rfl, ?_⟩
    have h1 : b < a := Classical.not_not.mp (fun h => hc135 ((lcmp_le _ _).mpr h))
    exact ⟨by rw [cmb, if_neg (by decide), if_pos rfl, if_pos h1], rfl⟩
theorem c_cmb61 {a b : Int64} : Cl g Y_Ju_combine 0 [.int (nI 61), .long a, .long b] M (fun x M2 => x = cmb 61 a b ∧ M2 = M) := by
  refine cw_entry 2 pf_Ju_combine rfl ?_
  refine wp_iload_n rfl (ck_get kk_Ju_combine 0 rfl) ?_
  refine wp_tabIn (t := 144) (off := 143) (ck_get kk_Ju_combine 1 rfl) (by decide) (by decide) rfl (by decide) ?_
  refine wp_lload_n rfl (ck_get kk_Ju_combine 18 rfl) ?_
  refine wp_lload_n rfl (ck_get kk_Ju_combine 19 rfl) ?_
  refine wp_lcmp (ck_get kk_Ju_combine 20 rfl) ?_
  refine wp_if_ne (t := 154) (ck_get kk_Ju_combine 21 rfl) (by decide) (fun hc147 => ?_) (fun hc147 => ?_)
  · refine wp_lconst (v := 0) (by decide) (ck_get kk_Ju_combine 24 rfl) ?_
    refine wp_lreturn (ck_get kk_Ju_combine 25 rfl) rfl ⟨_, rfl, ?_⟩
    have h1 : ¬ a = b := fun h => hc147 ((lcmp_eq _ _).mpr h)
    exact ⟨by rw [cmb, if_neg (by decide), if_neg (by decide), if_pos rfl, if_neg h1], rfl⟩
  · refine wp_lconst (v := 1) (by decide) (ck_get kk_Ju_combine 22 rfl) ?_
    refine wp_goto (t := 155) (ck_get kk_Ju_combine 23 rfl) (by decide) ?_
    refine wp_lreturn (ck_get kk_Ju_combine 25 rfl) rfl ⟨_, rfl, ?_⟩
    have h1 : a = b := (lcmp_eq _ _).mp hc147
    exact ⟨by rw [cmb, if_neg (by decide), if_neg (by decide), if_pos rfl, if_pos h1], rfl⟩
theorem c_cmb43 {a b : Int64} : Cl g Y_Ju_combine 0 [.int (nI 43), .long a, .long b] M (fun x M2 => x = cmb 43 a b ∧ M2 = M) := by
  refine cw_entry 2 pf_Ju_combine rfl ?_
  refine wp_iload_n rfl (ck_get kk_Ju_combine 0 rfl) ?_
  refine wp_tabIn (t := 156) (off := 155) (ck_get kk_Ju_combine 1 rfl) (by decide) (by decide) rfl (by decide) ?_
  refine wp_lload_n rfl (ck_get kk_Ju_combine 26 rfl) ?_
  refine wp_lload_n rfl (ck_get kk_Ju_combine 27 rfl) ?_
  refine wp_ladd (ck_get kk_Ju_combine 28 rfl) ?_
  refine wp_lstore (ck_get kk_Ju_combine 29 rfl) (by decide) rfl ?_
  refine wp_goto (t := 224) (ck_get kk_Ju_combine 30 rfl) (by decide) ?_
  refine l_bnd.mono (fun r M2 ⟨x, e1, e2, e3⟩ => ⟨x, e1, ?_, e3⟩)
  rw [e2, cmb, if_neg (by decide), if_neg (by decide), if_neg (by decide), if_pos rfl]
theorem c_cmb45 {a b : Int64} : Cl g Y_Ju_combine 0 [.int (nI 45), .long a, .long b] M (fun x M2 => x = cmb 45 a b ∧ M2 = M) := by
  refine cw_entry 2 pf_Ju_combine rfl ?_
  refine wp_iload_n rfl (ck_get kk_Ju_combine 0 rfl) ?_
  refine wp_tabIn (t := 164) (off := 163) (ck_get kk_Ju_combine 1 rfl) (by decide) (by decide) rfl (by decide) ?_
  refine wp_lload_n rfl (ck_get kk_Ju_combine 31 rfl) ?_
  refine wp_lload_n rfl (ck_get kk_Ju_combine 32 rfl) ?_
  refine wp_lsub (ck_get kk_Ju_combine 33 rfl) ?_
  refine wp_lstore (ck_get kk_Ju_combine 34 rfl) (by decide) rfl ?_
  refine wp_goto (t := 224) (ck_get kk_Ju_combine 35 rfl) (by decide) ?_
  refine l_bnd.mono (fun r M2 ⟨x, e1, e2, e3⟩ => ⟨x, e1, ?_, e3⟩)
  rw [e2, cmb, if_neg (by decide), if_neg (by decide), if_neg (by decide), if_neg (by decide), if_pos rfl]
theorem c_cmb42 {a b : Int64} : Cl g Y_Ju_combine 0 [.int (nI 42), .long a, .long b] M (fun x M2 => x = cmb 42 a b ∧ M2 = M) := by
  refine cw_entry 2 pf_Ju_combine rfl ?_
  refine wp_iload_n rfl (ck_get kk_Ju_combine 0 rfl) ?_
  refine wp_tabIn (t := 172) (off := 171) (ck_get kk_Ju_combine 1 rfl) (by decide) (by decide) rfl (by decide) ?_
  refine wp_lload_n rfl (ck_get kk_Ju_combine 36 rfl) ?_
  refine wp_lload_n rfl (ck_get kk_Ju_combine 37 rfl) ?_
  refine wp_lmul (ck_get kk_Ju_combine 38 rfl) ?_
  refine wp_lstore (ck_get kk_Ju_combine 39 rfl) (by decide) rfl ?_
  refine wp_goto (t := 224) (ck_get kk_Ju_combine 40 rfl) (by decide) ?_
  refine l_bnd.mono (fun r M2 ⟨x, e1, e2, e3⟩ => ⟨x, e1, ?_, e3⟩)
  rw [e2, cmb, if_neg (by decide), if_neg (by decide), if_neg (by decide), if_neg (by decide), if_neg (by decide), if_pos rfl]
theorem bnd_brk : bnd brk = brk := by decide
theorem c_cmb47 {a b : Int64} : Cl g Y_Ju_combine 0 [.int (nI 47), .long a, .long b] M (fun x M2 => x = cmb 47 a b ∧ M2 = M) := by
  refine cw_entry 2 pf_Ju_combine rfl ?_
  refine wp_iload_n rfl (ck_get kk_Ju_combine 0 rfl) ?_
  refine wp_tabIn (t := 180) (off := 179) (ck_get kk_Ju_combine 1 rfl) (by decide) (by decide) rfl (by decide) ?_
  refine wp_lload_n rfl (ck_get kk_Ju_combine 41 rfl) ?_
  refine wp_lconst (v := 0) (by decide) (ck_get kk_Ju_combine 42 rfl) ?_
  refine wp_lcmp (ck_get kk_Ju_combine 43 rfl) ?_
  refine wp_if_ne (t := 192) (ck_get kk_Ju_combine 44 rfl) (by decide) (fun hc183 => ?_) (fun hc183 => ?_)
  · refine wp_lload_n rfl (ck_get kk_Ju_combine 47 rfl) ?_
    refine wp_lload_n rfl (ck_get kk_Ju_combine 48 rfl) ?_
    refine wp_ldiv (fun h => hc183 ((lcmp_eq _ _).mpr h)) (ck_get kk_Ju_combine 49 rfl) ?_
    refine wp_lstore (ck_get kk_Ju_combine 50 rfl) (by decide) rfl ?_
    refine wp_goto (t := 224) (ck_get kk_Ju_combine 51 rfl) (by decide) ?_
    refine l_bnd.mono (fun r M2 ⟨x, e1, e2, e3⟩ => ⟨x, e1, ?_, e3⟩)
    rw [e2, cmb, if_neg (by decide), if_neg (by decide), if_neg (by decide), if_neg (by decide), if_neg (by decide), if_neg (by decide), if_pos rfl, if_neg (fun h => hc183 ((lcmp_eq _ _).mpr h))]
  · refine wp_ldc2 kl_Ju_77 (ck_get kk_Ju_combine 45 rfl) ?_
    refine wp_goto (t := 195) (ck_get kk_Ju_combine 46 rfl) (by decide) ?_
    refine wp_lstore (ck_get kk_Ju_combine 50 rfl) (by decide) rfl ?_
    refine wp_goto (t := 224) (ck_get kk_Ju_combine 51 rfl) (by decide) ?_
    have h1 : b = 0 := (lcmp_eq _ _).mp hc183
    refine l_bnd.mono (fun r M2 ⟨x, e1, e2, e3⟩ => ⟨x, e1, ?_, e3⟩)
    rw [e2, cmb, if_neg (by decide), if_neg (by decide), if_neg (by decide), if_neg (by decide), if_neg (by decide), if_neg (by decide), if_pos rfl, if_pos h1]
    exact bnd_brk
theorem c_cmb37 {a b : Int64} : Cl g Y_Ju_combine 0 [.int (nI 37), .long a, .long b] M (fun x M2 => x = cmb 37 a b ∧ M2 = M) := by
  refine cw_entry 2 pf_Ju_combine rfl ?_
  refine wp_iload_n rfl (ck_get kk_Ju_combine 0 rfl) ?_
  refine wp_tabIn (t := 200) (off := 199) (ck_get kk_Ju_combine 1 rfl) (by decide) (by decide) rfl (by decide) ?_
  refine wp_lload_n rfl (ck_get kk_Ju_combine 52 rfl) ?_
  refine wp_lconst (v := 0) (by decide) (ck_get kk_Ju_combine 53 rfl) ?_
  refine wp_lcmp (ck_get kk_Ju_combine 54 rfl) ?_
  refine wp_if_ne (t := 212) (ck_get kk_Ju_combine 55 rfl) (by decide) (fun hc203 => ?_) (fun hc203 => ?_)
  · refine wp_lload_n rfl (ck_get kk_Ju_combine 58 rfl) ?_
    refine wp_lload_n rfl (ck_get kk_Ju_combine 59 rfl) ?_
    refine wp_lrem (fun h => hc203 ((lcmp_eq _ _).mpr h)) (ck_get kk_Ju_combine 60 rfl) ?_
    refine wp_lstore (ck_get kk_Ju_combine 61 rfl) (by decide) rfl ?_
    refine wp_goto (t := 224) (ck_get kk_Ju_combine 62 rfl) (by decide) ?_
    refine l_bnd.mono (fun r M2 ⟨x, e1, e2, e3⟩ => ⟨x, e1, ?_, e3⟩)
    rw [e2, cmb, if_neg (by decide), if_neg (by decide), if_neg (by decide), if_neg (by decide), if_neg (by decide), if_neg (by decide), if_neg (by decide), if_pos rfl, if_neg (fun h => hc203 ((lcmp_eq _ _).mpr h))]
  · refine wp_ldc2 kl_Ju_77 (ck_get kk_Ju_combine 56 rfl) ?_
    refine wp_goto (t := 215) (ck_get kk_Ju_combine 57 rfl) (by decide) ?_
    refine wp_lstore (ck_get kk_Ju_combine 61 rfl) (by decide) rfl ?_
    refine wp_goto (t := 224) (ck_get kk_Ju_combine 62 rfl) (by decide) ?_
    have h1 : b = 0 := (lcmp_eq _ _).mp hc203
    refine l_bnd.mono (fun r M2 ⟨x, e1, e2, e3⟩ => ⟨x, e1, ?_, e3⟩)
    rw [e2, cmb, if_neg (by decide), if_neg (by decide), if_neg (by decide), if_neg (by decide), if_neg (by decide), if_neg (by decide), if_neg (by decide), if_pos rfl, if_pos h1]
    exact bnd_brk
end CB

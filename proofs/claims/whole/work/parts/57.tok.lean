/-! ===== texts: bytes, tokens; the parser's lexical part ===== -/
def wdN : List (List Nat) := [[99, 111, 115, 116, 115], [98, 97, 114, 115], [105, 102], [111, 114], [97, 110, 100], [110, 111, 116], [116, 101, 110, 97, 110, 116], [107, 101, 121], [114, 101, 97, 100, 115], [102, 97, 114], [109, 111, 111, 100], [116, 105, 109, 101], [100, 111, 110, 101], [108, 97, 116, 101, 115, 116], [99, 111, 108, 100], [100, 101, 101, 112], [114, 101, 97, 100], [98, 121], [108, 111, 111, 112], [116, 111], [100, 114, 111, 112], [112, 97, 115, 115], [116, 105, 109, 101, 115], [108, 114, 117], [109, 114, 117], [102, 105, 102, 111], [108, 102, 117], [109, 105, 110]]
/-- a byte's kind: 1 a letter, 2 a digit, 3 else -/
def kdN (b : Nat) : Nat := if 97 ≤ b ∧ b ≤ 122 then 1 else if 48 ≤ b ∧ b ≤ 57 then 2 else 3
theorem kdN_le (b : Nat) : 1 ≤ kdN b ∧ kdN b ≤ 3 := by
  unfold kdN
  split
  · omega
  · split <;> omega
/-- behind blanks -/
def skF (bt : Nat → Nat) (L : Nat) : Nat → Nat → Nat
  | 0, p => p
  | f + 1, p => if p < L ∧ bt p = 32 then skF bt L f (p + 1) else p
def sk (bt : Nat → Nat) (L p : Nat) : Nat := skF bt L (L - p) p
theorem sk_out {bt : Nat → Nat} {L p : Nat} (h : ¬ (p < L ∧ bt p = 32)) : sk bt L p = p := by
  unfold sk
  cases hf : L - p with
  | zero => rfl
  | succ f => rw [skF, if_neg h]
theorem sk_in {bt : Nat → Nat} {L p : Nat} (h : p < L) (h2 : bt p = 32) : sk bt L p = sk bt L (p + 1) := by
  unfold sk
  rw [show L - p = (L - (p + 1)) + 1 by omega, skF, if_pos ⟨h, h2⟩]
theorem skF_le {bt : Nat → Nat} {L : Nat} : ∀ f p, p ≤ L → p ≤ skF bt L f p ∧ skF bt L f p ≤ L
  | 0, p, h => ⟨Nat.le_refl _, h⟩
  | f + 1, p, h => by
    rw [skF]
    by_cases hc : p < L ∧ bt p = 32
    · rw [if_pos hc]
      have := skF_le (bt := bt) (L := L) f (p + 1) (by omega)
      omega
    · rw [if_neg hc]; omega
theorem sk_le {bt : Nat → Nat} {L p : Nat} (h : p ≤ L) : p ≤ sk bt L p ∧ sk bt L p ≤ L := skF_le _ _ h
/-- behind those of a kind -/
def rnF (bt : Nat → Nat) (L k : Nat) : Nat → Nat → Nat
  | 0, p => p
  | f + 1, p => if p < L ∧ kdN (bt p) = k then rnF bt L k f (p + 1) else p
def rn (bt : Nat → Nat) (L k p : Nat) : Nat := rnF bt L k (L - p) p
theorem rn_out {bt : Nat → Nat} {L k p : Nat} (h : ¬ (p < L ∧ kdN (bt p) = k)) : rn bt L k p = p := by
  unfold rn
  cases hf : L - p with
  | zero => rfl
  | succ f => rw [rnF, if_neg h]
theorem rn_in {bt : Nat → Nat} {L k p : Nat} (h : p < L) (h2 : kdN (bt p) = k) : rn bt L k p = rn bt L k (p + 1) := by
  unfold rn
  rw [show L - p = (L - (p + 1)) + 1 by omega, rnF, if_pos ⟨h, h2⟩]
theorem rnF_le {bt : Nat → Nat} {L k : Nat} : ∀ f p, p ≤ L → p ≤ rnF bt L k f p ∧ rnF bt L k f p ≤ L
  | 0, p, h => ⟨Nat.le_refl _, h⟩
  | f + 1, p, h => by
    rw [rnF]
    by_cases hc : p < L ∧ kdN (bt p) = k
    · rw [if_pos hc]
      have := rnF_le (bt := bt) (L := L) (k := k) f (p + 1) (by omega)
      omega
    · rw [if_neg hc]; omega
theorem rn_le {bt : Nat → Nat} {L k p : Nat} (h : p ≤ L) : p ≤ rn bt L k p ∧ rn bt L k p ≤ L := rnF_le _ _ h
/-- a number's value, cut at 1001 -/
def dvF (bt : Nat → Nat) (L : Nat) : Nat → Nat → Nat → Nat
  | 0, _, v => v
  | f + 1, p, v => if p < L ∧ kdN (bt p) = 2 then dvF bt L f (p + 1) (min (10 * v + bt p - 48) 1001) else v
def dv (bt : Nat → Nat) (L p v : Nat) : Nat := dvF bt L (L - p) p v
theorem dv_out {bt : Nat → Nat} {L p v : Nat} (h : ¬ (p < L ∧ kdN (bt p) = 2)) : dv bt L p v = v := by
  unfold dv
  cases hf : L - p with
  | zero => rfl
  | succ f => rw [dvF, if_neg h]
theorem dv_in {bt : Nat → Nat} {L p v : Nat} (h : p < L) (h2 : kdN (bt p) = 2) : dv bt L p v = dv bt L (p + 1) (min (10 * v + bt p - 48) 1001) := by
  unfold dv
  rw [show L - p = (L - (p + 1)) + 1 by omega, dvF, if_pos ⟨h, h2⟩]
/-- of the token that begins at s: its kind, what is behind it, its value -/
def kOf (bt : Nat → Nat) (L s : Nat) : Nat := if s < L then kdN (bt s) else 0
def eOf (bt : Nat → Nat) (L s : Nat) : Nat := if s < L then (if kdN (bt s) = 3 then s + 1 else rn bt L (kdN (bt s)) s) else s
def vOf (bt : Nat → Nat) (L s : Nat) : Nat := if s < L then (if kdN (bt s) = 3 then bt s else if kdN (bt s) = 2 then dv bt L s 0 else 0) else 0
/-- where token i begins -/
def tS (bt : Nat → Nat) (L : Nat) : Nat → Nat
  | 0 => sk bt L 0
  | i + 1 => sk bt L (eOf bt L (tS bt L i))
theorem eOf_le {bt : Nat → Nat} {L s : Nat} (h : s ≤ L) : s ≤ eOf bt L s ∧ eOf bt L s ≤ L ∧ (s < L → s < eOf bt L s) := by
  unfold eOf
  by_cases h1 : s < L
  · rw [if_pos h1]
    by_cases h3 : kdN (bt s) = 3
    · rw [if_pos h3]; omega
    · rw [if_neg h3, rn_in h1 rfl]
      have := rn_le (bt := bt) (k := kdN (bt s)) (p := s + 1) (L := L) (by omega)
      omega
  · rw [if_neg h1]; omega
theorem tS_le {bt : Nat → Nat} {L : Nat} : ∀ i, tS bt L i ≤ L
  | 0 => (sk_le (Nat.zero_le _)).2
  | i + 1 => by
    rw [tS]
    exact (sk_le (eOf_le (tS_le i)).2.1).2
theorem tS_lt {bt : Nat → Nat} {L i : Nat} (h : tS bt L i < L) : tS bt L i < tS bt L (i + 1) := by
  rw [tS]
  have h1 := eOf_le (bt := bt) (tS_le (bt := bt) (L := L) i)
  have h2 := sk_le (bt := bt) (p := eOf bt L (tS bt L i)) h1.2.1
  have := h1.2.2 h
  omega
/-- the parser's cells: itself, its program's behind it, the text -/
def PaAt (T : Nat → Nat × Nat) (R : Nat → Nat → Option Nat) (pa tp : Nat) : Prop := T pa = (3, 0) ∧ R pa 0 = some (pa + 1) ∧ PrAt T R (pa + 1) 1024 ∧ R pa 2 = some tp ∧ T tp = (20, 400) ∧ (tp < pa ∨ pa + 9 ≤ tp)
/-- the parser's numbers: parts, kind, start, behind, value -/
def paF (base : Nat → Int32) (lf k s e v : Nat) : Nat → Int32 := fun j => if j = 5 then nI lf else if j = 6 then nI k else if j = 7 then nI s else if j = 8 then nI e else if j = 9 then nI v else base j
theorem paF_5 {base : Nat → Int32} {lf k s e v x : Nat} : up1 (paF base lf k s e v) 5 (nI x) = paF base x k s e v := by
  funext j; unfold up1 paF; by_cases h5 : j = 5 <;> simp [h5]
theorem paF_6 {base : Nat → Int32} {lf k s e v x : Nat} : up1 (paF base lf k s e v) 6 (nI x) = paF base lf x s e v := by
  funext j; unfold up1 paF; by_cases h6 : j = 6 <;> simp [h6]
theorem paF_7 {base : Nat → Int32} {lf k s e v x : Nat} : up1 (paF base lf k s e v) 7 (nI x) = paF base lf k x e v := by
  funext j; unfold up1 paF; by_cases h7 : j = 7 <;> simp [h7]
theorem paF_8 {base : Nat → Int32} {lf k s e v x : Nat} : up1 (paF base lf k s e v) 8 (nI x) = paF base lf k s x v := by
  funext j; unfold up1 paF; by_cases h8 : j = 8 <;> simp [h8]
theorem paF_9 {base : Nat → Int32} {lf k s e v x : Nat} : up1 (paF base lf k s e v) 9 (nI x) = paF base lf k s e x := by
  funext j; unfold up1 paF; by_cases h9 : j = 9 <;> simp [h9]
/-- the memory while a text is read -/
abbrev cS (M : Mem) (pa lf k s e v cl : Nat) (cd : Nat → Int32) : Mem := mk2 M (up1 (up1 (up1 (mI M) pa (paF (mI M pa) lf k s e v)) (pa + 1) (up1 (mI M (pa + 1)) 8 (nI cl))) (pa + 8) cd) (mJ M)
section CSr
variable {M : Mem} {pa lf k s e v cl : Nat} {cd : Nat → Int32}
theorem cS_pa : mI (cS M pa lf k s e v cl cd) pa = paF (mI M pa) lf k s e v := by
  show up1 (up1 (up1 (mI M) pa _) (pa + 1) _) (pa + 8) cd pa = _
  rw [up1_ne (by omega), up1_ne (by omega), up1_eq]
theorem cS_8 : mI (cS M pa lf k s e v cl cd) (pa + 1) 8 = nI cl := by
  show up1 (up1 (up1 (mI M) pa _) (pa + 1) _) (pa + 8) cd (pa + 1) 8 = _
  rw [up1_ne (by omega), up1_eq, up1_eq]
theorem cS_cd : mI (cS M pa lf k s e v cl cd) (pa + 8) = cd := by
  show up1 (up1 (up1 (mI M) pa _) (pa + 1) _) (pa + 8) cd (pa + 8) = _
  rw [up1_eq]
theorem cS_o {x : Nat} (h : x ≠ pa) (h1 : x ≠ pa + 1) (h8 : x ≠ pa + 8) : mI (cS M pa lf k s e v cl cd) x = mI M x := by
  show up1 (up1 (up1 (mI M) pa _) (pa + 1) _) (pa + 8) cd x = _
  rw [up1_ne h8, up1_ne h1, up1_ne h]
theorem cS_wp {q : Nat} {x : Int32} {F : Nat → Int32} (h : up1 (paF (mI M pa) lf k s e v) q x = F) : sI (cS M pa lf k s e v cl cd) pa q x = mk2 M (up1 (up1 (up1 (mI M) pa F) (pa + 1) (up1 (mI M (pa + 1)) 8 (nI cl))) (pa + 8) cd) (mJ M) := by
  show mk2 M (up2 (up1 (up1 (up1 (mI M) pa (paF (mI M pa) lf k s e v)) (pa + 1) (up1 (mI M (pa + 1)) 8 (nI cl))) (pa + 8) cd) pa q x) (mJ M) = _
  rw [up2_up1, up1_comm _ (show pa + 8 ≠ pa by omega), up1_comm _ (show pa + 1 ≠ pa by omega), up1_up1, up1_ne (by omega), up1_ne (by omega), up1_eq, h]
theorem cS_w5 {x : Nat} : sI (cS M pa lf k s e v cl cd) pa 5 (nI x) = cS M pa x k s e v cl cd := cS_wp paF_5
theorem cS_w6 {x : Nat} : sI (cS M pa lf k s e v cl cd) pa 6 (nI x) = cS M pa lf x s e v cl cd := cS_wp paF_6
theorem cS_w7 {x : Nat} : sI (cS M pa lf k s e v cl cd) pa 7 (nI x) = cS M pa lf k x e v cl cd := cS_wp paF_7
theorem cS_w8 {x : Nat} : sI (cS M pa lf k s e v cl cd) pa 8 (nI x) = cS M pa lf k s x v cl cd := cS_wp paF_8
theorem cS_w9 {x : Nat} : sI (cS M pa lf k s e v cl cd) pa 9 (nI x) = cS M pa lf k s e x cl cd := cS_wp paF_9
theorem cS_wl {x : Nat} : sI (cS M pa lf k s e v cl cd) (pa + 1) 8 (nI x) = cS M pa lf k s e v x cd := by
  show mk2 M (up2 (up1 (up1 (up1 (mI M) pa (paF (mI M pa) lf k s e v)) (pa + 1) (up1 (mI M (pa + 1)) 8 (nI cl))) (pa + 8) cd) (pa + 1) 8 (nI x)) (mJ M) = _
  rw [up2_up1, up1_comm _ (show pa + 8 ≠ pa + 1 by omega), up1_up1, up1_ne (by omega), up1_eq, up1_up1]
theorem cS_wc {q : Nat} {x : Int32} : sI (cS M pa lf k s e v cl cd) (pa + 8) q x = cS M pa lf k s e v cl (up1 cd q x) := by
  show mk2 M (up2 (up1 (up1 (up1 (mI M) pa (paF (mI M pa) lf k s e v)) (pa + 1) (up1 (mI M (pa + 1)) 8 (nI cl))) (pa + 8) cd) (pa + 8) q x) (mJ M) = _
  rw [up2_up1, up1_up1, up1_eq]
end CSr
section PL
variable {g : Gl} {M : Mem} {pa tp L : Nat} {bt : Nat → Nat}
theorem c_kindOf {b : Nat} (hb : b < 256) : Ci g Y_Pa_kindOf 0 [.int (nI b)] M (fun x M2 => x = nI (kdN b) ∧ M2 = M) := by
  refine cw_entry 0 pf_Pa_kindOf rfl ?_
  refine wp_iload_n rfl (ck_get kk_Pa_kindOf 0 rfl) ?_
  refine wp_bipush (v := nI 97) (by decide) (ck_get kk_Pa_kindOf 1 rfl) ?_
  first | refine wp_icmp_ltN (t := 14) (ck_get kk_Pa_kindOf 2 rfl) (by decide) (by omega) (by omega) (fun hc3 => ?_) (fun hc3 => ?_) | refine wp_icmp_lt (t := 14) (ck_get kk_Pa_kindOf 2 rfl) (by decide) (fun hc3 => ?_) (fun hc3 => ?_)
  · refine wp_iload_n rfl (ck_get kk_Pa_kindOf 8 rfl) ?_
    refine wp_bipush (v := nI 48) (by decide) (ck_get kk_Pa_kindOf 9 rfl) ?_
    first | refine wp_icmp_ltN (t := 30) (ck_get kk_Pa_kindOf 10 rfl) (by decide) (by omega) (by omega) (fun hc17 => ?_) (fun hc17 => ?_) | refine wp_icmp_lt (t := 30) (ck_get kk_Pa_kindOf 10 rfl) (by decide) (fun hc17 => ?_) (fun hc17 => ?_)
    · refine wp_iconst (v := nI 3) (by decide) (ck_get kk_Pa_kindOf 16 rfl) ?_
      refine wp_ireturn (ck_get kk_Pa_kindOf 17 rfl) rfl rfl ⟨_, rfl, ?_⟩
      exact ⟨by rw [kdN, if_neg (by omega), if_neg (by omega)], rfl⟩
    · refine wp_iload_n rfl (ck_get kk_Pa_kindOf 11 rfl) ?_
      refine wp_bipush (v := nI 57) (by decide) (ck_get kk_Pa_kindOf 12 rfl) ?_
      first | refine wp_icmp_gtN (t := 30) (ck_get kk_Pa_kindOf 13 rfl) (by decide) (by omega) (by omega) (fun hc23 => ?_) (fun hc23 => ?_) | refine wp_icmp_gt (t := 30) (ck_get kk_Pa_kindOf 13 rfl) (by decide) (fun hc23 => ?_) (fun hc23 => ?_)
      · refine wp_iconst (v := nI 3) (by decide) (ck_get kk_Pa_kindOf 16 rfl) ?_
        refine wp_ireturn (ck_get kk_Pa_kindOf 17 rfl) rfl rfl ⟨_, rfl, ?_⟩
        exact ⟨by rw [kdN, if_neg (by omega), if_neg (by omega)], rfl⟩
      · refine wp_iconst (v := nI 2) (by decide) (ck_get kk_Pa_kindOf 14 rfl) ?_
        refine wp_goto (t := 31) (ck_get kk_Pa_kindOf 15 rfl) (by decide) ?_
        refine wp_ireturn (ck_get kk_Pa_kindOf 17 rfl) rfl rfl ⟨_, rfl, ?_⟩
        exact ⟨by rw [kdN, if_neg (by omega), if_pos (by omega)], rfl⟩
  · refine wp_iload_n rfl (ck_get kk_Pa_kindOf 3 rfl) ?_
    refine wp_bipush (v := nI 122) (by decide) (ck_get kk_Pa_kindOf 4 rfl) ?_
    first | refine wp_icmp_gtN (t := 14) (ck_get kk_Pa_kindOf 5 rfl) (by decide) (by omega) (by omega) (fun hc9 => ?_) (fun hc9 => ?_) | refine wp_icmp_gt (t := 14) (ck_get kk_Pa_kindOf 5 rfl) (by decide) (fun hc9 => ?_) (fun hc9 => ?_)
    · refine wp_iload_n rfl (ck_get kk_Pa_kindOf 8 rfl) ?_
      refine wp_bipush (v := nI 48) (by decide) (ck_get kk_Pa_kindOf 9 rfl) ?_
      first | refine wp_icmp_ltN (t := 30) (ck_get kk_Pa_kindOf 10 rfl) (by decide) (by omega) (by omega) (fun hc17 => ?_) (fun hc17 => ?_) | refine wp_icmp_lt (t := 30) (ck_get kk_Pa_kindOf 10 rfl) (by decide) (fun hc17 => ?_) (fun hc17 => ?_)
      · refine wp_iconst (v := nI 3) (by decide) (ck_get kk_Pa_kindOf 16 rfl) ?_
        refine wp_ireturn (ck_get kk_Pa_kindOf 17 rfl) rfl rfl ⟨_, rfl, ?_⟩
        exact ⟨by rw [kdN, if_neg (by omega), if_neg (by omega)], rfl⟩
      · refine wp_iload_n rfl (ck_get kk_Pa_kindOf 11 rfl) ?_
        refine wp_bipush (v := nI 57) (by decide) (ck_get kk_Pa_kindOf 12 rfl) ?_
        first | refine wp_icmp_gtN (t := 30) (ck_get kk_Pa_kindOf 13 rfl) (by decide) (by omega) (by omega) (fun hc23 => ?_) (fun hc23 => ?_) | refine wp_icmp_gt (t := 30) (ck_get kk_Pa_kindOf 13 rfl) (by decide) (fun hc23 => ?_) (fun hc23 => ?_)
        · refine wp_iconst (v := nI 3) (by decide) (ck_get kk_Pa_kindOf 16 rfl) ?_
          refine wp_ireturn (ck_get kk_Pa_kindOf 17 rfl) rfl rfl ⟨_, rfl, ?_⟩
          exact ⟨by rw [kdN, if_neg (by omega), if_neg (by omega)], rfl⟩
        · refine wp_iconst (v := nI 2) (by decide) (ck_get kk_Pa_kindOf 14 rfl) ?_
          refine wp_goto (t := 31) (ck_get kk_Pa_kindOf 15 rfl) (by decide) ?_
          refine wp_ireturn (ck_get kk_Pa_kindOf 17 rfl) rfl rfl ⟨_, rfl, ?_⟩
          exact ⟨by rw [kdN, if_neg (by omega), if_pos (by omega)], rfl⟩
    · refine wp_iconst (v := nI 1) (by decide) (ck_get kk_Pa_kindOf 6 rfl) ?_
      refine wp_ireturn (ck_get kk_Pa_kindOf 7 rfl) rfl rfl ⟨_, rfl, ?_⟩
      exact ⟨by rw [kdN, if_pos (by omega)], rfl⟩
end PL

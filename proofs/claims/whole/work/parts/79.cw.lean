/-! ===== code that the parser makes is well formed ===== -/
def CWl (vn cl : Nat) (sg : List Int32) : Prop := sg.length % 2 = 0 ∧ ∀ j, j < sg.length → j % 2 = 0 → (∃ c, c < 256 ∧ sg.getD j 0 = nI c ∧ (6 ≤ c → isSg c = true)) ∧ (sg.getD j 0 = nI 4 ∨ sg.getD j 0 = nI 5 → ∃ v, 2 ≤ v ∧ v ≤ cl + sg.length ∧ v % 2 = 0 ∧ sg.getD (j + 1) 0 = nI v) ∧ (sg.getD j 0 = nI 2 → ∃ u, u < vn ∧ sg.getD (j + 1) 0 = nI u)
theorem CWl.nil {vn cl : Nat} : CWl vn cl [] := ⟨rfl, fun j hj => absurd hj (Nat.not_lt_zero j)⟩
theorem CWl.app {vn cl : Nat} {a b : List Int32} (h1 : CWl vn cl a) (h2 : CWl vn (cl + a.length) b) : CWl vn cl (a ++ b) := by
  have he := h1.1
  refine ⟨by rw [List.length_append]; have := h2.1; omega, fun j hj hj2 => ?_⟩
  rw [List.length_append] at hj ⊢
  by_cases hja : j < a.length
  · obtain ⟨q1, q2, q3⟩ := h1.2 j hja hj2
    rw [getD_app_l hja, getD_app_l (by omega)]
    refine ⟨q1, fun h => ?_, q3⟩
    obtain ⟨v, v1, v2, v3, v4⟩ := q2 h
    exact ⟨v, v1, by omega, v3, v4⟩
  · obtain ⟨q1, q2, q3⟩ := h2.2 (j - a.length) (by omega) (by omega)
    rw [getD_app_r (by omega), getD_app_r (by omega), show j + 1 - a.length = j - a.length + 1 by omega]
    refine ⟨q1, fun h => ?_, q3⟩
    obtain ⟨v, v1, v2, v3, v4⟩ := q2 h
    exact ⟨v, v1, by omega, v3, v4⟩
theorem CWl.two {vn cl c : Nat} {x : Int32} (hc : c < 256) (h6 : 6 ≤ c → isSg c = true) (h4 : c = 4 ∨ c = 5 → ∃ v, 2 ≤ v ∧ v ≤ cl + 2 ∧ v % 2 = 0 ∧ x = nI v) (h2 : c = 2 → ∃ u, u < vn ∧ x = nI u) : CWl vn cl [nI c, x] := by
  refine ⟨by show 2 % 2 = 0; rfl, fun j hj hj2 => ?_⟩
  have hj0 : j = 0 := by have : j < 2 := hj; omega
  subst hj0
  refine ⟨⟨c, hc, rfl, h6⟩, fun h => ?_, fun h => ?_⟩
  · refine h4 ?_
    rcases h with h | h
    · exact Or.inl ((nI_eq (by omega) (by omega)).mp h)
    · exact Or.inr ((nI_eq (by omega) (by omega)).mp h)
  · exact h2 ((nI_eq (by omega) (by omega)).mp h)
/-- a jump over code -/
theorem CWl.jmp {vn cl c : Nat} {s : List Int32} (hc : c = 4 ∨ c = 5) (hcl : cl % 2 = 0) (h : CWl vn (cl + 2) s) : CWl vn cl ([nI c, nI (cl + 2 + s.length)] ++ s) := by
  have he := h.1
  refine ⟨by rw [List.length_append]; show (2 + s.length) % 2 = 0; omega, fun j hj hj2 => ?_⟩
  rw [List.length_append] at hj ⊢
  have hj3 : j < 2 + s.length := hj
  show _ ∧ (_ → ∃ v, 2 ≤ v ∧ v ≤ cl + (2 + s.length) ∧ v % 2 = 0 ∧ _) ∧ _
  by_cases hj0 : j = 0
  · subst hj0
    refine ⟨⟨c, by omega, rfl, fun h6 => by omega⟩, fun _ => ⟨cl + 2 + s.length, by omega, by omega, by omega, rfl⟩, fun h => ?_⟩
    have := (nI_eq (a := c) (b := 2) (by omega) (by omega)).mp h
    omega
  · obtain ⟨q1, q2, q3⟩ := h.2 (j - 2) (by omega) (by omega)
    rw [getD_app_r (show ([nI c, nI (cl + 2 + s.length)] : List Int32).length ≤ j by show 2 ≤ j; omega), getD_app_r (show ([nI c, nI (cl + 2 + s.length)] : List Int32).length ≤ j + 1 by show 2 ≤ j + 1; omega)]
    rw [show j - ([nI c, nI (cl + 2 + s.length)] : List Int32).length = j - 2 from rfl, show j + 1 - ([nI c, nI (cl + 2 + s.length)] : List Int32).length = j - 2 + 1 by show j + 1 - 2 = _; omega]
    refine ⟨q1, fun h => ?_, q3⟩
    obtain ⟨v, v1, v2, v3, v4⟩ := q2 h
    exact ⟨v, v1, by omega, v3, v4⟩
theorem wIx_lt {od : Bool} {c k : Nat} (h : isLW od c = true) (hk : k < 4) : wIx od c k < if od = true then 11 else 6 := by
  cases od with
  | true =>
    have h1 : 12 ≤ c ∧ c ≤ 16 := of_decide_eq_true h
    unfold wIx
    rw [if_pos rfl, if_pos rfl]
    by_cases h15 : c = 15
    · rw [if_pos h15]; omega
    rw [if_neg h15]
    by_cases h16 : c = 16
    · rw [if_pos h16]; omega
    rw [if_neg h16]; omega
  | false =>
    have h1 : 7 ≤ c ∧ c ≤ 12 := of_decide_eq_true h
    unfold wIx
    rw [if_neg Bool.false_ne_true, if_neg Bool.false_ne_true]
    by_cases h15 : c = 11
    · rw [if_pos h15]; omega
    rw [if_neg h15]
    by_cases h16 : c = 12
    · rw [if_pos h16]; omega
    rw [if_neg h16]; omega
theorem cw_stop {vn cl : Nat} : CWl vn cl [nI 0, nI 0] := CWl.two (by omega) (by omega) (by omega) (by omega)
section PCW
variable {tc tv : Nat → Nat} {od : Bool}
abbrev vnO (od : Bool) : Nat := if od = true then 11 else 6
theorem psr_cw : ∀ f nt d i lf cl j lf2 sg, nt ≤ 10 → psr tc tv od f nt d i lf cl = (true, j, lf2, sg) → cl % 2 = 0 → CWl (vnO od) cl sg := by
  intro f
  induction f with
  | zero => intro nt d i lf cl j lf2 sg _ h; exact (fls_tru h).elim
  | succ f ih =>
    have seq : ∀ (a b d i lf cl j lf2 : Nat) (sg : List Int32), a ≤ 10 → b ≤ 10 → pbd (psr tc tv od f a d i lf cl) (fun j lf2 sg => pbd (psr tc tv od f b d j lf2 (cl + sg.length)) (fun j2 lf3 sg2 => (true, j2, lf3, sg ++ sg2))) = (true, j, lf2, sg) → cl % 2 = 0 → CWl (vnO od) cl sg := by
      intro a b d i lf cl j lf2 sg ha hb h hc
      obtain ⟨j1, l1, s1, e1, h1⟩ := pbd_t h
      obtain ⟨j2, l2, s2, e2, h2⟩ := pbd_t h1
      obtain ⟨rfl, rfl, rfl⟩ := tru_inj h2
      have p := ih a d i lf cl j1 l1 s1 ha e1 hc
      have q := ih b d j1 l1 _ j2 l2 s2 hb e2 (by have := p.1; omega)
      exact p.app q
    have pst : ∀ (a b c d i lf cl j lf2 : Nat) (sg : List Int32), a ≤ 10 → b ≤ 10 → isSg c = true → c < 256 → 6 ≤ c → pbd (psr tc tv od f a d (i + 1) lf cl) (fun j lf2 sg => pbd (psr tc tv od f b d j lf2 (cl + (sg ++ [nI c, nI 0]).length)) (fun j2 lf3 sg2 => (true, j2, lf3, (sg ++ [nI c, nI 0]) ++ sg2))) = (true, j, lf2, sg) → cl % 2 = 0 → CWl (vnO od) cl sg := by
      intro a b c d i lf cl j lf2 sg ha hb hs hc2 hc6 h hc
      obtain ⟨j1, l1, s1, e1, h1⟩ := pbd_t h
      obtain ⟨j2, l2, s2, e2, h2⟩ := pbd_t h1
      obtain ⟨rfl, rfl, rfl⟩ := tru_inj h2
      have p := ih a d (i + 1) lf cl j1 l1 s1 ha e1 hc
      have p2 : CWl (vnO od) cl (s1 ++ [nI c, nI 0]) := p.app (CWl.two hc2 (fun _ => hs) (by omega) (by omega))
      have q := ih b d j1 l1 _ j2 l2 s2 hb e2 (by have := p2.1; omega)
      exact p2.app q
    have jmp : ∀ (a b c d i lf cl j lf2 : Nat) (sg : List Int32), a ≤ 10 → b ≤ 10 → c = 4 ∨ c = 5 → pbd (psr tc tv od f a d (i + 1) lf (cl + 2)) (fun j lf2 sg => pbd (psr tc tv od f b d j lf2 (cl + ([nI c, nI (cl + 2 + sg.length)] ++ sg).length)) (fun j2 lf3 sg2 => (true, j2, lf3, ([nI c, nI (cl + 2 + sg.length)] ++ sg) ++ sg2))) = (true, j, lf2, sg) → cl % 2 = 0 → CWl (vnO od) cl sg := by
      intro a b c d i lf cl j lf2 sg ha hb hc4 h hc
      obtain ⟨j1, l1, s1, e1, h1⟩ := pbd_t h
      obtain ⟨j2, l2, s2, e2, h2⟩ := pbd_t h1
      obtain ⟨rfl, rfl, rfl⟩ := tru_inj h2
      have p := (ih a d (i + 1) lf (cl + 2) j1 l1 s1 ha e1 (by omega)).jmp hc4 hc
      have q := ih b d j1 l1 _ j2 l2 s2 hb e2 (by have := p.1; omega)
      exact p.app q
    have brk0 : ∀ (a c d i lf cl j lf2 : Nat) (sg : List Int32), a ≤ 10 → (if 8 ≤ d then ((false, i, lf, []) : PRes) else pbd (psr tc tv od f a (d + 1) (i + 1) lf cl) (fun j lf2 sg => if tc j = c then (true, j + 1, lf2, sg) else (false, j, lf2, []))) = (true, j, lf2, sg) → cl % 2 = 0 → CWl (vnO od) cl sg := by
      intro a c d i lf cl j lf2 sg ha h hc
      by_cases h8 : 8 ≤ d
      · rw [if_pos h8] at h; exact (fls_tru h).elim
      rw [if_neg h8] at h
      obtain ⟨j1, l1, s1, e1, h1⟩ := pbd_t h
      by_cases hj : tc j1 = c
      · rw [if_pos hj] at h1
        obtain ⟨rfl, rfl, rfl⟩ := tru_inj h1
        exact ih a (d + 1) (i + 1) lf cl j1 l1 s1 ha e1 hc
      · rw [if_neg hj] at h1; exact (fls_tru h1).elim
    have cor : ∀ (d i lf cl j lf2 : Nat) (sg : List Int32), psc tc tv od f d i lf cl = (true, j, lf2, sg) → cl % 2 = 0 → CWl (vnO od) cl sg := by
      intro d i lf cl j lf2 sg h hc
      unfold psc at h
      by_cases h0 : tc i = 140
      · rw [if_pos h0] at h
        exact brk0 10 141 d i lf cl j lf2 sg (by omega) h hc
      · rw [if_neg h0] at h
        obtain ⟨j1, l1, s1, e1, h1⟩ := pbd_t h
        by_cases hj : tc j1 = 160 ∨ tc j1 = 162 ∨ tc j1 = 161
        · rw [if_pos hj] at h1
          obtain ⟨j2, l2, s2, e2, h2⟩ := pbd_t h1
          obtain ⟨rfl, rfl, rfl⟩ := tru_inj h2
          have p := ih 4 d i lf cl j1 l1 s1 (by omega) e1 hc
          have q := ih 4 d (j1 + 1) l1 _ j2 l2 s2 (by omega) e2 (by have := p.1; omega)
          have hs : isSg (tc j1 - 100) = true := by rcases hj with e | e | e <;> rw [e] <;> decide
          exact (p.app q).app (CWl.two (by omega) (fun _ => hs) (by omega) (by omega))
        · rw [if_neg hj] at h1; exact (fls_tru h1).elim
    intro nt d i lf cl j lf2 sg hnt h hc
    match nt, hnt with
    | 0, _ =>
      rw [psr_0] at h
      by_cases h0 : tc i = 191
      · rw [if_pos h0] at h
        exact brk0 4 193 d i lf cl j lf2 sg (by omega) h hc
      rw [if_neg h0] at h
      by_cases h1 : tc i = 50 ∧ tv i ≤ 1000
      · rw [if_pos h1] at h
        by_cases h5 : 50 ≤ lf
        · rw [if_pos h5] at h; exact (fls_tru h).elim
        · rw [if_neg h5] at h
          obtain ⟨rfl, rfl, rfl⟩ := tru_inj h
          exact CWl.two (by omega) (by omega) (by omega) (by omega)
      rw [if_neg h1] at h
      by_cases h2 : isLW od (tc i) = true
      · rw [if_pos h2] at h
        by_cases h5 : 50 ≤ lf
        · rw [if_pos h5] at h; exact (fls_tru h).elim
        rw [if_neg h5] at h
        by_cases h6 : od = true ∧ 15 ≤ tc i
        · rw [if_pos h6] at h
          by_cases h7 : tc (i + 1) = 50 ∧ tv (i + 1) < 4
          · rw [if_pos h7] at h
            obtain ⟨rfl, rfl, rfl⟩ := tru_inj h
            exact CWl.two (by omega) (by omega) (by omega) (fun _ => ⟨_, wIx_lt h2 h7.2, rfl⟩)
          · rw [if_neg h7] at h; exact (fls_tru h).elim
        · rw [if_neg h6] at h
          obtain ⟨rfl, rfl, rfl⟩ := tru_inj h
          exact CWl.two (by omega) (by omega) (by omega) (fun _ => ⟨_, wIx_lt h2 (by omega), rfl⟩)
      · rw [if_neg h2] at h; exact (fls_tru h).elim
    | 1, _ =>
      rw [psr_1] at h
      by_cases h0 : tc i = 142 ∨ tc i = 147 ∨ tc i = 137
      · rw [if_pos h0] at h
        have hs : isSg (tc i - 100) = true := by rcases h0 with e | e | e <;> rw [e] <;> decide
        exact pst 0 1 _ d i lf cl j lf2 sg (by omega) (by omega) hs (by omega) (by omega) h hc
      · rw [if_neg h0] at h
        obtain ⟨rfl, rfl, rfl⟩ := tru_inj h
        exact CWl.nil
    | 2, _ => rw [psr_2] at h; exact seq 0 1 d i lf cl j lf2 sg (by omega) (by omega) h hc
    | 3, _ =>
      rw [psr_3] at h
      by_cases h0 : tc i = 143 ∨ tc i = 145
      · rw [if_pos h0] at h
        have hs : isSg (tc i - 100) = true := by rcases h0 with e | e <;> rw [e] <;> decide
        exact pst 2 3 _ d i lf cl j lf2 sg (by omega) (by omega) hs (by omega) (by omega) h hc
      · rw [if_neg h0] at h
        obtain ⟨rfl, rfl, rfl⟩ := tru_inj h
        exact CWl.nil
    | 4, _ => rw [psr_4] at h; exact seq 2 3 d i lf cl j lf2 sg (by omega) (by omega) h hc
    | 5, _ =>
      rw [psr_5] at h
      by_cases h0 : tc i = 6
      · rw [if_pos h0] at h
        exact ih 6 d (i + 1) lf cl j lf2 sg (by omega) h hc
      · rw [if_neg h0] at h
        obtain ⟨j1, l1, s1, e1, h1⟩ := pbd_t h
        obtain ⟨rfl, rfl, rfl⟩ := tru_inj h1
        rw [List.append_nil]
        exact cor d i lf cl _ _ _ e1 hc
    | 6, _ =>
      rw [psr_6] at h
      by_cases h0 : tc i = 6
      · rw [if_pos h0] at h
        exact ih 5 d (i + 1) lf cl j lf2 sg (by omega) h hc
      · rw [if_neg h0] at h
        obtain ⟨j1, l1, s1, e1, h1⟩ := pbd_t h
        obtain ⟨rfl, rfl, rfl⟩ := tru_inj h1
        have p := cor d i lf cl _ _ _ e1 hc
        exact p.app (CWl.two (by omega) (by omega) (by omega) (by omega))
    | 7, _ =>
      rw [psr_7] at h
      by_cases h0 : tc i = 5
      · rw [if_pos h0] at h
        exact jmp 5 7 5 d i lf cl j lf2 sg (by omega) (by omega) (by omega) h hc
      · rw [if_neg h0] at h
        obtain ⟨rfl, rfl, rfl⟩ := tru_inj h
        exact CWl.nil
    | 8, _ => rw [psr_8] at h; exact seq 5 7 d i lf cl j lf2 sg (by omega) (by omega) h hc
    | 9, _ =>
      rw [psr_9] at h
      by_cases h0 : tc i = 4
      · rw [if_pos h0] at h
        exact jmp 8 9 4 d i lf cl j lf2 sg (by omega) (by omega) (by omega) h hc
      · rw [if_neg h0] at h
        obtain ⟨rfl, rfl, rfl⟩ := tru_inj h
        exact CWl.nil
    | 10, _ => rw [psr_10] at h; exact seq 8 9 d i lf cl j lf2 sg (by omega) (by omega) h hc
/-- a clause: its code is well formed; where its sums and its test begin -/
def EtOK (e : Nat → Int32) (k hi : Nat) : Prop := ∃ t, t ≤ hi ∧ t % 2 = 0 ∧ e k = nI t
theorem CnS_cw {e : Nat → Int32} {f i lf cl j : Nat} {sg : List Int32} (h : CnS tc tv od f e i lf cl j sg) (hc : cl % 2 = 0) : CWl (vnO od) cl sg ∧ (e 3 = -1 ∨ EtOK e 3 (cl + sg.length)) := by
  rcases h with ⟨-, h1, -, rfl⟩ | ⟨-, h1, lf1, s1, h2, rfl⟩
  · exact ⟨CWl.nil, Or.inl h1⟩
  · have p := psr_cw f 10 0 _ _ _ _ _ _ (by omega) h2 hc
    exact ⟨p.app cw_stop, Or.inr ⟨cl, by omega, hc, h1⟩⟩
theorem LwS_cw {e : Nat → Int32} {f i lf cl j : Nat} {sg : List Int32} (h : LwS tc tv od f e i lf cl j sg) (hc : cl % 2 = 0) : CWl (vnO od) cl sg ∧ (e 3 = -1 ∨ EtOK e 3 (cl + sg.length)) ∧ (e 1 = nI 5 ∨ (e 1 = nI 4 ∧ EtOK e 4 (cl + sg.length))) := by
  rcases h with ⟨-, h1, h2⟩ | ⟨-, h1, h2, j1, lf1, s1, s2, h3, h4, rfl⟩
  · obtain ⟨q1, q2⟩ := CnS_cw h2 hc
    exact ⟨q1, q2, Or.inl h1⟩
  · have p := psr_cw f 4 0 _ _ _ _ _ _ (by omega) h3 hc
    have p2 : CWl (vnO od) cl (s1 ++ [nI 0, nI 0]) := p.app cw_stop
    obtain ⟨q1, q2⟩ := CnS_cw h4 (by have := p.1; omega)
    have e2 : cl + s1.length + 2 = cl + (s1 ++ [nI 0, nI 0]).length := by rw [len_app2]; omega
    rw [e2] at q1 q2
    refine ⟨p2.app q1, ?_, Or.inr ⟨h1, cl, by omega, hc, h2⟩⟩
    rcases q2 with q2 | ⟨t, t1, t2, t3⟩
    · exact Or.inl q2
    · exact Or.inr ⟨t, by rw [List.length_append]; omega, t2, t3⟩
theorem ByS_cw {e : Nat → Int32} {f i lf cl j lf2 : Nat} {sg : List Int32} (h : ByS tc tv od f e i lf cl j lf2 sg) (hc : cl % 2 = 0) : CWl (vnO od) cl sg ∧ EtOK e 6 (cl + sg.length) := by
  obtain ⟨-, h1, j1, s1, h2, rfl, -, -⟩ := h
  have p := psr_cw f 4 0 _ _ _ _ _ _ (by omega) h2 hc
  exact ⟨p.app cw_stop, cl, by omega, hc, h1⟩
/-- an order's kind and the places of its sums -/
def OkOK (e : Nat → Int32) (hi : Nat) : Prop := (e 1 = nI 3 ∧ ∃ tm, tm ≤ 20 ∧ e 2 = nI tm) ∨ (((e 1 = nI 0 ∨ e 1 = nI 2) ∨ (e 1 = nI 1 ∧ EtOK e 5 hi)) ∧ EtOK e 4 hi ∧ EtOK e 6 hi ∧ ∃ tm, tm ≤ 20 ∧ e 2 = nI tm)
theorem tm_le {i lf j lf2 : Nat} {sg : List Int32} (h : pTm tc tv i lf = (true, j, lf2, sg)) : tmV tc tv i ≤ 20 := by
  obtain ⟨-, -, h⟩ := pTm_ok h
  unfold tmV
  rcases h with ⟨a, b, c, d, -⟩ | ⟨a, -⟩
  · rw [if_pos a]; exact d
  · rw [if_neg a]; omega
theorem OrS_cw {e : Nat → Int32} {f i lf cl j lf2 : Nat} {sg : List Int32} (h : OrS tc tv od f e i lf cl j lf2 sg) (hc : cl % 2 = 0) : CWl (vnO od) cl sg ∧ OkOK e (cl + sg.length) := by
  rcases h with ⟨hk, h4, j1, lf1, s1, s2, h5, hB, rfl⟩ | ⟨-, hk, h4, j1, lf1, s1, j2, lf3, s2, s3, h5, -, h6, h7, hB, rfl⟩ | ⟨-, hk, h2, h3, -, rfl⟩
  · have p := psr_cw f 4 0 _ _ _ _ _ _ (by omega) h5 hc
    have p2 : CWl (vnO od) cl (s1 ++ [nI 0, nI 0]) := p.app cw_stop
    have hB0 := hB
    obtain ⟨q1, t, t1, t2, t3⟩ := ByS_cw hB (by have := p.1; omega)
    have e2 : cl + s1.length + 2 = cl + (s1 ++ [nI 0, nI 0]).length := by rw [len_app2]; omega
    rw [e2] at q1 t1
    obtain ⟨-, -, j3, s3, -, -, hT, hT2⟩ := hB0
    refine ⟨p2.app q1, Or.inr ⟨Or.inl ?_, ⟨cl, by omega, hc, h4⟩, ⟨t, by rw [List.length_append]; omega, t2, t3⟩, _, tm_le hT, hT2⟩⟩
    rcases hk with hk | hk
    · exact Or.inl hk.2
    · exact Or.inr hk.2
  · have p := psr_cw f 4 0 _ _ _ _ _ _ (by omega) h5 hc
    have p2 : CWl (vnO od) cl (s1 ++ [nI 0, nI 0]) := p.app cw_stop
    have p3 := psr_cw f 4 0 _ _ _ _ _ _ (by omega) h7 (by have := p.1; omega)
    have e2 : cl + s1.length + 2 = cl + (s1 ++ [nI 0, nI 0]).length := by rw [len_app2]; omega
    have hB0 := hB
    obtain ⟨q1, t, t1, t2, t3⟩ := ByS_cw hB (by have := p.1; have := p3.1; omega)
    have p4 : CWl (vnO od) (cl + s1.length + 2) (s2 ++ [nI 0, nI 0]) := p3.app cw_stop
    have e3 : cl + s1.length + 2 + s2.length + 2 = cl + s1.length + 2 + (s2 ++ [nI 0, nI 0]).length := by rw [len_app2]; omega
    rw [e3] at q1 t1
    have p5 := p4.app q1
    rw [e2] at p5
    obtain ⟨-, -, j3, s4, -, -, hT, hT2⟩ := hB0
    have hlen : cl + s1.length + 2 + (s2 ++ [nI 0, nI 0]).length + s3.length = cl + ((s1 ++ [nI 0, nI 0]) ++ ((s2 ++ [nI 0, nI 0]) ++ s3)).length := by
      simp only [List.length_append, List.length_cons, List.length_nil]; omega
    refine ⟨p2.app p5, Or.inr ⟨Or.inr ⟨hk, cl + s1.length + 2, by rw [← hlen]; omega, by have := p.1; omega, h6⟩, ⟨cl, by omega, hc, h4⟩, ⟨t, by rw [← hlen]; omega, t2, t3⟩, _, tm_le hT, hT2⟩⟩
  · exact ⟨CWl.nil, Or.inl ⟨hk, _, tm_le h2, h3⟩⟩
/-- all clauses -/
theorem EtOK.le {e : Nat → Int32} {k a b : Nat} (h : EtOK e k a) (hab : a ≤ b) : EtOK e k b := by
  obtain ⟨t, t1, t2, t3⟩ := h
  exact ⟨t, by omega, t2, t3⟩
def KcOK (od : Bool) (e : Nat → Int32) (hi : Nat) : Prop := (e 3 = -1 ∨ EtOK e 3 hi) ∧ (if od = true then OkOK e hi else (e 1 = nI 5 ∨ (e 1 = nI 4 ∧ EtOK e 4 hi)))
theorem OkOK.le {e : Nat → Int32} {a b : Nat} (h : OkOK e a) (hab : a ≤ b) : OkOK e b := by
  rcases h with h | ⟨h1, h2, h3, h4⟩
  · exact Or.inl h
  · refine Or.inr ⟨?_, h2.le hab, h3.le hab, h4⟩
    rcases h1 with h1 | ⟨h1, h5⟩
    · exact Or.inl h1
    · exact Or.inr ⟨h1, h5.le hab⟩
theorem KcOK.le {e : Nat → Int32} {a b : Nat} (h : KcOK od e a) (hab : a ≤ b) : KcOK od e b := by
  obtain ⟨h1, h2⟩ := h
  refine ⟨?_, ?_⟩
  · rcases h1 with h1 | h1
    · exact Or.inl h1
    · exact Or.inr (h1.le hab)
  · cases od with
    | true => rw [if_pos rfl] at h2 ⊢; exact h2.le hab
    | false =>
      rw [if_neg (by decide)] at h2 ⊢
      rcases h2 with h2 | ⟨h2, h3⟩
      · exact Or.inl h2
      · exact Or.inr ⟨h2, h3.le hab⟩
theorem ClS_cw {e : Nat → Int32} {f i lf cl j : Nat} {sg : List Int32} (h : ClS tc tv od f e i lf cl j sg) (hc : cl % 2 = 0) : CWl (vnO od) cl sg ∧ KcOK od e (cl + sg.length) := by
  unfold ClS at h
  unfold KcOK
  by_cases ho : od = true
  · rw [if_pos ho] at h ⊢
    obtain ⟨j1, lf1, s1, s2, h1, h2, rfl⟩ := h
    obtain ⟨q1, q2⟩ := OrS_cw h1 hc
    obtain ⟨q3, q4⟩ := CnS_cw h2 (by have := q1.1; omega)
    rw [List.length_append, ← Nat.add_assoc]
    exact ⟨q1.app q3, q4, q2.le (by omega)⟩
  · rw [if_neg ho] at h ⊢
    exact LwS_cw h hc
theorem ChS_cw {en : Nat → Bool} {E : Nat → Nat → Int32} {nc f : Nat} : ∀ {r n i lf cl : Nat} {sg : List Int32}, ChS tc tv od f en E nc r n i lf cl sg → cl % 2 = 0 → CWl (vnO od) cl sg ∧ n < nc ∧ ∀ m, n ≤ m → m < nc → KcOK od (E m) (cl + sg.length)
  | 0, _, _, _, _, _, h, _ => h.elim
  | r + 1, n, i, lf, cl, sg, h, hc => by
    obtain ⟨j, lf1, s1, s2, -, h2, rfl, h4⟩ := h
    obtain ⟨q1, q2⟩ := ClS_cw h2 hc
    rcases h4 with ⟨-, rfl, rfl⟩ | ⟨-, -, h5⟩
    · rw [List.append_nil]
      refine ⟨q1, by omega, fun m h1 h2 => ?_⟩
      have : m = n := by omega
      subst this
      exact q2
    · obtain ⟨u1, u2, u3⟩ := ChS_cw h5 (by have := q1.1; omega)
      rw [List.length_append, ← Nat.add_assoc]
      refine ⟨q1.app u1, by omega, fun m h1 h2 => ?_⟩
      by_cases hm : m = n
      · subst hm; exact q2.le (by omega)
      · exact u3 m (by omega) h2
end PCW
/-- code that is laid is well formed in the class's row -/
theorem CodeW_of {C : Nat → Int32} {vn : Nat} {sg : List Int32} (h : CWl vn 0 sg) (hC : Hd C 0 sg) : CodeW C sg.length vn := by
  have hC2 : ∀ j, j < sg.length → C j = sg.getD j 0 := fun j hj => by
    have := hC j hj
    rwa [Nat.zero_add] at this
  refine ⟨fun i hi hi2 => ?_, fun i hi hi2 hc => ?_⟩
  · obtain ⟨q1, q2, q3⟩ := h.2 i (by omega) hi2
    rw [hC2 i (by omega), hC2 (i + 1) hi]
    refine ⟨q1, fun q => ?_⟩
    obtain ⟨v, v1, v2, v3, v4⟩ := q2 q
    exact ⟨v, v1, by omega, v3, v4⟩
  · obtain ⟨q1, q2, q3⟩ := h.2 i (by omega) hi2
    rw [hC2 i (by omega)] at hc
    rw [hC2 (i + 1) hi]
    exact q3 hc

/-! ===== tenants as lists; rows of the model as lists ===== -/
def RowI (f : Nat → Int32) (b : Nat) (L : List Nat) : Prop := ∀ i, i < L.length → f (b + i) = nI (L.getD i 0)
def RowC (K : Nat → Int32) (b : Nat) (L : List Nat) : Prop := K b = nI L.length ∧ RowI K (b + 1) L
theorem RowI.kept {f f2 : Nat → Int32} {b : Nat} {L : List Nat} (h : RowI f b L) (hk : ∀ x, b ≤ x → x < b + L.length → f2 x = f x) : RowI f2 b L := fun i hi => by rw [hk _ (by omega) (by omega)]; exact h i hi
theorem RowC.kept {f f2 : Nat → Int32} {b : Nat} {L : List Nat} (h : RowC f b L) (hk : ∀ x, b ≤ x → x ≤ b + L.length → f2 x = f x) : RowC f2 b L := ⟨by rw [hk _ (by omega) (by omega)]; exact h.1, h.2.kept (fun x h1 h2 => hk x (by omega) (by omega))⟩
theorem RowI.fnd {f : Nat → Int32} {b : Nat} {L : List Nat} {k : Nat} (h : RowI f b L) : fnd (fun j => f (b + j)) L.length (nI k) = posL L k := fnd_congr (fun i hi => h i hi)
theorem getD_cons0 (k : Nat) (L : List Nat) : (k :: L).getD 0 0 = k := rfl
theorem getD_consS (k : Nat) (L : List Nat) (i : Nat) : (k :: L).getD (i + 1) 0 = L.getD i 0 := rfl
theorem eraseIdx_len {L : List Nat} {p : Nat} (h : p < L.length) : (L.eraseIdx p).length = L.length - 1 := by rw [List.length_eraseIdx, if_pos h]
theorem RowC_out {K : Nat → Int32} {b p : Nat} {L : List Nat} (h : RowC K b L) (hp : 1 ≤ p) (hpn : p ≤ L.length) : RowC (up1 (goF K b p L.length L.length) b (nI (L.length - 1))) b (L.eraseIdx (p - 1)) := by
  have hl := eraseIdx_len (L := L) (p := p - 1) (by omega)
  refine ⟨by rw [up1_eq, hl], fun i hi => ?_⟩
  rw [up1_ne (by omega), getD_eraseIdx]
  rw [hl] at hi
  unfold goF
  by_cases h1 : i < p - 1
  · rw [if_pos h1, if_neg (by omega)]
    exact h.2 i (by omega)
  · rw [if_neg h1, if_pos (by omega)]
    have := h.2 (i + 1) (by omega)
    rw [← this]
    congr 1
theorem RowC_first {K : Nat → Int32} {b key : Nat} {L : List Nat} (h : RowC K b L) : RowC (up1 (up1 (cfF K b L.length 0) (b + 1) (nI key)) b (nI (L.length + 1))) b (key :: L) := by
  refine ⟨by rw [up1_eq]; rfl, fun i hi => ?_⟩
  have hi2 : i < L.length + 1 := hi
  rw [up1_ne (by omega)]
  cases i with
  | zero => rw [Nat.add_zero, up1_eq]; rfl
  | succ i =>
    rw [up1_ne (by omega), getD_consS]
    unfold cfF
    rw [if_pos (by omega)]
    have := h.2 i (by omega)
    rw [← this]
    congr 1
theorem RowC_last {K : Nat → Int32} {b key : Nat} {L : List Nat} (h : RowC K b L) : RowC (up1 (up1 K (b + L.length + 1) (nI key)) b (nI (L.length + 1))) b (L ++ [key]) := by
  refine ⟨by rw [up1_eq, List.length_append]; rfl, fun i hi => ?_⟩
  rw [List.length_append] at hi
  have hi2 : i < L.length + 1 := hi
  rw [up1_ne (by omega), getD_snoc _ _ _ hi2]
  by_cases hk : i = L.length
  · subst hk; rw [if_pos rfl, show b + 1 + L.length = b + L.length + 1 by omega, up1_eq]
  · rw [if_neg hk, up1_ne (by omega)]
    exact h.2 i (by omega)
section MRW
variable {g : Gl} {M : Mem} {o : Nat}
/-- the model's row alone was changed, from a place to a place -/
def KUp (K K2 : Nat → Int32) (lo hi : Nat) : Prop := ∀ x, x < lo ∨ hi ≤ x → K2 x = K x
theorem m_out {t row p : Nat} {L : List Nat} (hM : MoAt (mT M) (mR M) o) (h : RowC (mI M (o + 2)) (92 * t + row) L) (hp : 1 ≤ p) (hpn : p ≤ L.length) (hb : 92 * t + row + L.length < 5995) : Cv g Y_Mo_goesOut 1 [.ref o, .int (nI t), .int (nI row), .int (nI p)] M (fun M2 => ∃ K2, M2 = mk2 M (up1 (mI M) (o + 2) K2) (mJ M) ∧ RowC K2 (92 * t + row) (L.eraseIdx (p - 1)) ∧ KUp (mI M (o + 2)) K2 (92 * t + row) (92 * t + row + L.length + 1)) := by
  refine (m_goesOut hM h.1 hp hpn hb).to (fun M2 e => ⟨_, e, RowC_out h hp hpn, fun x hx => ?_⟩)
  rw [up1_ne (by omega)]
  unfold goF
  rw [if_neg (by omega)]
theorem m_first {t row key : Nat} {L : List Nat} (hM : MoAt (mT M) (mR M) o) (h : RowC (mI M (o + 2)) (92 * t + row) L) (hb : 92 * t + row + L.length + 1 < 5995) : Cv g Y_Mo_comesFirst 1 [.ref o, .int (nI t), .int (nI row), .int (nI key)] M (fun M2 => ∃ K2, M2 = mk2 M (up1 (mI M) (o + 2) K2) (mJ M) ∧ RowC K2 (92 * t + row) (key :: L) ∧ KUp (mI M (o + 2)) K2 (92 * t + row) (92 * t + row + L.length + 2)) := by
  refine (m_comesFirst hM h.1 hb).to (fun M2 e => ⟨_, e, RowC_first h, fun x hx => ?_⟩)
  rw [up1_ne (by omega), up1_ne (by omega)]
  unfold cfF
  rw [if_neg (by omega)]
theorem m_last {t row key : Nat} {L : List Nat} (hM : MoAt (mT M) (mR M) o) (h : RowC (mI M (o + 2)) (92 * t + row) L) (hb : 92 * t + row + L.length + 1 < 5995) : Cv g Y_Mo_comesLast 1 [.ref o, .int (nI t), .int (nI row), .int (nI key)] M (fun M2 => ∃ K2, M2 = mk2 M (up1 (mI M) (o + 2) K2) (mJ M) ∧ RowC K2 (92 * t + row) (L ++ [key]) ∧ KUp (mI M (o + 2)) K2 (92 * t + row) (92 * t + row + L.length + 2)) := by
  refine (m_comesLast hM h.1 hb).to (fun M2 e => ⟨_, e, RowC_last h, fun x hx => ?_⟩)
  rw [up1_ne (by omega), up1_ne (by omega)]
theorem m_place {t row key : Nat} {L : List Nat} (hM : MoAt (mT M) (mR M) o) (h : RowC (mI M (o + 2)) (92 * t + row) L) (hb : 92 * t + row + L.length < 5995) : Ci g Y_Mo_placeIn 1 [.ref o, .int (nI t), .int (nI row), .int (nI key)] M (fun x M2 => x = nI (posL L key) ∧ M2 = M) := by
  have q := m_placeIn (g := g) (key := nI key) hM h.1 hb
  rw [h.2.fnd] at q
  exact q
end MRW
/-- a tenant: stack, costs, sample, limit, parts, record -/
abbrev TS : Type := List Nat × (Nat → Nat) × List Nat × Nat × (Nat → Int64) × List Nat
abbrev tSt (s : TS) : List Nat := s.1
abbrev tCo (s : TS) : Nat → Nat := s.2.1
abbrev tSa (s : TS) : List Nat := s.2.2.1
abbrev tLi (s : TS) : Nat := s.2.2.2.1
abbrev tPa (s : TS) : Nat → Int64 := s.2.2.2.2.1
abbrev tRe (s : TS) : List Nat := s.2.2.2.2.2
def TOK (s : TS) : Prop := (tSt s).length ≤ 24 ∧ (tSa s).length ≤ 6 ∧ (tRe s).length ≤ 32 ∧ tLi s ≤ 1000 ∧ (∀ x ∈ tSt s, x < 1000) ∧ (∀ x ∈ tSa s, x < 1000) ∧ ∀ x ∈ tRe s, x < 1000
def TeHas (I : Nat → Nat → Int32) (J : Nat → Nat → Int64) (a : Nat) (s : TS) : Prop := I a 1 = nI (tSt s).length ∧ RowI (I (a + 1)) 0 (tSt s) ∧ (∀ i, i < 25 → I (a + 2) i = nI (tCo s i)) ∧ I a 4 = nI (tSa s).length ∧ RowI (I (a + 3)) 0 (tSa s) ∧ I a 5 = nI (tLi s) ∧ (∀ i, i < 25 → J (a + 4) i = tPa s i) ∧ I a 8 = nI (tRe s).length ∧ RowI (I (a + 5)) 0 (tRe s)
def MoHas (K : Nat → Int32) (P : Nat → Int64) (b pb : Nat) (s : TS) : Prop := RowC K b (tSt s) ∧ (∀ i, i < 25 → K (b + 25 + i) = nI (tCo s i)) ∧ RowC K (b + 50) (tSa s) ∧ K (b + 58) = nI (tLi s) ∧ (∀ i, i < 25 → P (pb + i) = tPa s i) ∧ RowC K (b + 59) (tRe s)
/-- what is done with a tenant: a key comes on top -/
def stk1 (L : List Nat) (k : Nat) : List Nat := k :: (if posL L k = 0 then L.take 23 else L.eraseIdx (posL L k - 1))
def rec1 (L : List Nat) (k : Nat) : List Nat := (if L.length < 32 then L else L.drop 1) ++ [k]
def cos1 (C : Nat → Nat) (p c : Nat) : Nat → Nat := up1 C p (C p + c)
def topT (s : TS) (k c : Nat) : TS := (stk1 (tSt s) k, cos1 (tCo s) (posL (tSt s) k) c, tSa s, tLi s, tPa s, rec1 (tRe s) k)
def samT (s : TS) (k c salt : Nat) : TS := if hsh k salt < tLi s then (tSt s, tCo s, smp2 (smp1 (tSa s) k) salt, lim2 (smp1 (tSa s) k) salt (tLi s), up1 (tPa s) (ptX (posL (tSa s) k) (tLi s)) (tPa s (ptX (posL (tSa s) k) (tLi s)) + ptV (nI c) (tLi s)), tRe s) else s
def rdT (s : TS) (k c salt : Nat) : TS := samT (topT s k c) k c salt
def barT (s : TS) (c : Nat) : TS := (tSt s, cos1 (tCo s) 0 c, tSa s, tLi s, tPa s, tRe s)
def rmL (L : List Nat) (p : Nat) : List Nat := if p = 0 then L else L.eraseIdx (p - 1)
def drT (s : TS) (k : Nat) : TS := if posL (tSt s) k = 0 then s else (rmL (tSt s) (posL (tSt s) k), tCo s, rmL (tSa s) (posL (tSa s) k), tLi s, tPa s, tRe s)
def hvT (s : TS) : TS := (tSt s, fun i => tCo s i / 2, tSa s, tLi s, fun i => tPa s i / 2, tRe s)
def emT (s : TS) : TS := (tSt s, tCo s, [], 1000, fun _ => 0, tRe s)
theorem mem_eraseIdx' {L : List Nat} {p x : Nat} (h : x ∈ L.eraseIdx p) : x ∈ L := List.mem_of_mem_eraseIdx h
theorem rmL_keys {L : List Nat} {p : Nat} (h : ∀ x ∈ L, x < 1000) : ∀ x ∈ rmL L p, x < 1000 := by
  intro x hx
  unfold rmL at hx
  by_cases hp : p = 0
  · rw [if_pos hp] at hx; exact h x hx
  · rw [if_neg hp] at hx; exact h x (mem_eraseIdx' hx)
theorem rmL_len {L : List Nat} {p : Nat} : (rmL L p).length ≤ L.length := by
  unfold rmL
  by_cases hp : p = 0
  · rw [if_pos hp]; omega
  · rw [if_neg hp, List.length_eraseIdx]
    by_cases h2 : p - 1 < L.length
    · rw [if_pos h2]; omega
    · rw [if_neg h2]; omega
theorem stk1_len {L : List Nat} {k : Nat} (h : L.length ≤ 24) : (stk1 L k).length = (if posL L k = 0 then min (L.length + 1) 24 else L.length) ∧ (stk1 L k).length ≤ 24 := by
  unfold stk1
  have hp := posL_le (L := L) (k := k)
  by_cases h0 : posL L k = 0
  · rw [if_pos h0, if_pos h0, List.length_cons, List.length_take]; omega
  · rw [if_neg h0, if_neg h0, List.length_cons, eraseIdx_len (by omega)]; omega
theorem stk1_keys {L : List Nat} {k : Nat} (hk : k < 1000) (h : ∀ x ∈ L, x < 1000) : ∀ x ∈ stk1 L k, x < 1000 := by
  intro x hx
  unfold stk1 at hx
  rcases List.mem_cons.mp hx with rfl | hx
  · exact hk
  · by_cases h0 : posL L k = 0
    · rw [if_pos h0] at hx; exact h x (List.mem_of_mem_take hx)
    · rw [if_neg h0] at hx; exact h x (mem_eraseIdx' hx)
theorem rec1_len {L : List Nat} {k : Nat} (h : L.length ≤ 32) : (rec1 L k).length = rn2 L.length ∧ (rec1 L k).length ≤ 32 := by
  unfold rec1 rn2
  rw [List.length_append]
  by_cases h0 : L.length < 32
  · rw [if_pos h0, if_pos h0]; exact ⟨rfl, by show L.length + 1 ≤ 32; omega⟩
  · rw [if_neg h0, if_neg h0, List.length_drop]
    constructor
    · show L.length - 1 + 1 = L.length; omega
    · show L.length - 1 + 1 ≤ 32; omega
theorem rec1_keys {L : List Nat} {k : Nat} (hk : k < 1000) (h : ∀ x ∈ L, x < 1000) : ∀ x ∈ rec1 L k, x < 1000 := by
  intro x hx
  unfold rec1 at hx
  rcases List.mem_append.mp hx with hx | hx
  · by_cases h0 : L.length < 32
    · rw [if_pos h0] at hx; exact h x hx
    · rw [if_neg h0] at hx; exact h x (List.mem_of_mem_drop hx)
  · rw [List.mem_singleton.mp hx]; exact hk
theorem mxF_at {L : List Nat} {s : Nat} : ∀ n, ∃ i, i < n + 1 ∧ mxF L s (n + 1) ≤ hsh (L.getD i 0) s
  | 0 => ⟨0, by omega, by show max 0 (hsh (L.getD 0 0) s) ≤ _; omega⟩
  | n + 1 => by
    obtain ⟨i, h1, h2⟩ := mxF_at n (L := L) (s := s)
    by_cases h : mxF L s (n + 1) ≤ hsh (L.getD (n + 1) 0) s
    · exact ⟨n + 1, by omega, by show max (mxF L s (n + 1)) (hsh (L.getD (n + 1) 0) s) ≤ _; omega⟩
    · exact ⟨i, by omega, by show max (mxF L s (n + 1)) (hsh (L.getD (n + 1) 0) s) ≤ _; omega⟩
theorem getD_mem {L : List Nat} {i : Nat} (h : i < L.length) : L.getD i 0 ∈ L := by
  rw [List.getD_eq_getElem?_getD, List.getElem?_eq_getElem h]
  exact List.getElem_mem h
theorem stayL_max {L : List Nat} {s : Nat} (h : L.length ≤ 7) : (smp2 L s).length ≤ 6 := by
  unfold smp2
  by_cases h6 : L.length ≤ 6
  · rw [if_pos h6]; exact h6
  · rw [if_neg h6]
    obtain ⟨i, h1, h2⟩ := mxF_at (L := L) (s := s) 6
    have h7 : L.length = 6 + 1 := by omega
    have h3 : (stayL L s (mxF L s L.length)).length < L.length := by
      unfold stayL
      have hle := List.length_filter_le (fun k => decide (hsh k s < mxF L s L.length)) L
      have hne : (L.filter (fun k => decide (hsh k s < mxF L s L.length))).length ≠ L.length := by
        intro q
        have q2 := List.length_filter_eq_length_iff.mp q (L.getD i 0) (getD_mem (by omega))
        rw [h7, decide_eq_true_eq] at q2
        omega
      omega
    omega
theorem smp2_keys {L : List Nat} {s : Nat} (h : ∀ x ∈ L, x < 1000) : ∀ x ∈ smp2 L s, x < 1000 := by
  intro x hx
  unfold smp2 at hx
  by_cases h6 : L.length ≤ 6
  · rw [if_pos h6] at hx; exact h x hx
  · rw [if_neg h6] at hx; exact h x (List.mem_filter.mp hx).1
theorem lim2_le {L : List Nat} {s lim : Nat} (h : lim ≤ 1000) : lim2 L s lim ≤ 1000 := by
  unfold lim2
  by_cases h6 : L.length ≤ 6
  · rw [if_pos h6]; exact h
  · rw [if_neg h6]; have := mxF_lt (L := L) (s := s) L.length; omega
theorem smp1_le {L : List Nat} {k : Nat} (h : L.length ≤ 6) : (smp1 L k).length ≤ 7 := by
  rw [smp1_len]
  by_cases h0 : posL L k = 0
  · rw [if_pos h0]; omega
  · rw [if_neg h0]; omega
/-- what is done keeps a tenant well formed -/
theorem TOK.top {s : TS} {k c : Nat} (h : TOK s) (hk : k < 1000) : TOK (topT s k c) := by
  obtain ⟨h1, h2, h3, h4, h5, h6, h7⟩ := h
  exact ⟨(stk1_len h1).2, h2, (rec1_len h3).2, h4, stk1_keys hk h5, h6, rec1_keys hk h7⟩
theorem TOK.sam {s : TS} {k c salt : Nat} (h : TOK s) (hk : k < 1000) : TOK (samT s k c salt) := by
  unfold samT
  by_cases hh : hsh k salt < tLi s
  · rw [if_pos hh]
    obtain ⟨h1, h2, h3, h4, h5, h6, h7⟩ := h
    exact ⟨h1, stayL_max (smp1_le h2), h3, lim2_le h4, h5, smp2_keys (smp1_keys hk h6), h7⟩
  · rw [if_neg hh]; exact h
theorem TOK.rd {s : TS} {k c salt : Nat} (h : TOK s) (hk : k < 1000) : TOK (rdT s k c salt) := (h.top hk).sam hk
theorem TOK.dr {s : TS} {k : Nat} (h : TOK s) : TOK (drT s k) := by
  unfold drT
  by_cases h0 : posL (tSt s) k = 0
  · rw [if_pos h0]; exact h
  · rw [if_neg h0]
    obtain ⟨h1, h2, h3, h4, h5, h6, h7⟩ := h
    exact ⟨Nat.le_trans rmL_len h1, Nat.le_trans rmL_len h2, h3, h4, rmL_keys h5, rmL_keys h6, h7⟩
theorem TOK.em {s : TS} (h : TOK s) : TOK (emT s) := by
  obtain ⟨h1, h2, h3, h4, h5, h6, h7⟩ := h
  exact ⟨h1, Nat.zero_le _, h3, Nat.le_refl _, h5, fun x hx => (List.not_mem_nil hx).elim, h7⟩
section CTE
theorem shf_stk {f : Nat → Int32} {L : List Nat} {k : Nat} (h : RowI f 0 L) (hl : L.length ≤ 24) : RowI (shf f (hol (posL L k) L.length) (nI k)) 0 (stk1 L k) ∧ sn2 (posL L k) L.length = (stk1 L k).length := by
  have hp := posL_le (L := L) (k := k)
  obtain ⟨e1, e2⟩ := stk1_len (k := k) hl
  refine ⟨fun i hi => ?_, ?_⟩
  · rw [e1] at hi
    rw [Nat.zero_add]
    have hf : ∀ j, j < L.length → f j = nI (L.getD j 0) := fun j hj => by have := h j hj; rwa [Nat.zero_add] at this
    unfold shf
    cases i with
    | zero => rw [if_pos rfl]; rfl
    | succ i =>
      rw [if_neg (by omega)]
      unfold stk1
      rw [getD_consS]
      by_cases h0 : posL L k = 0
      · rw [if_pos h0] at hi ⊢
        rw [show hol (posL L k) L.length = sn2 (posL L k) L.length - 1 from if_pos h0]
        have hs : sn2 (posL L k) L.length = min (L.length + 1) 24 := by
          unfold sn2
          by_cases hq : L.length < 24
          · rw [if_pos ⟨h0, hq⟩]; omega
          · rw [if_neg (fun q => hq q.2)]; omega
        rw [hs, if_pos (by omega), show i + 1 - 1 = i by omega, hf i (by omega)]
        congr 1
        rw [List.getD_eq_getElem?_getD, List.getD_eq_getElem?_getD, List.getElem?_take, if_pos (by omega)]
      · rw [if_neg h0] at hi ⊢
        rw [show hol (posL L k) L.length = posL L k - 1 from if_neg h0, getD_eraseIdx]
        by_cases hq : i < posL L k - 1
        · rw [if_pos (by omega), if_pos hq, show i + 1 - 1 = i by omega, hf i (by omega)]
        · rw [if_neg (by omega), if_neg hq, hf (i + 1) (by omega)]
  · rw [e1]
    unfold sn2
    by_cases h0 : posL L k = 0
    · rw [if_pos h0]
      by_cases hq : L.length < 24
      · rw [if_pos ⟨h0, hq⟩]; omega
      · rw [if_neg (fun q => hq q.2)]; omega
    · rw [if_neg h0, if_neg (fun q => h0 q.1)]
theorem rcd_rec {f : Nat → Int32} {L : List Nat} {k : Nat} (h : RowI f 0 L) (hl : L.length ≤ 32) : RowI (rcd f L.length (nI k)) 0 (rec1 L k) := by
  have hf : ∀ j, j < L.length → f j = nI (L.getD j 0) := fun j hj => by have := h j hj; rwa [Nat.zero_add] at this
  intro i hi
  rw [(rec1_len hl).1] at hi
  rw [Nat.zero_add]
  unfold rcd rec1
  unfold rn2 at hi
  by_cases h0 : L.length < 32
  · rw [if_pos h0] at hi ⊢
    rw [if_pos h0, getD_snoc _ _ _ hi]
    by_cases hk : i = L.length
    · rw [if_pos hk, hk, up1_eq]
    · rw [if_neg hk, up1_ne hk, hf i (by omega)]
  · rw [if_neg h0] at hi ⊢
    have h32 : L.length = 32 := by omega
    rw [if_neg h0, getD_snoc _ _ _ (by rw [List.length_drop]; omega), List.length_drop]
    by_cases hk : i = 31
    · rw [if_pos (by omega), hk, up1_eq]
    · rw [if_neg (by omega), up1_ne hk, if_pos (by omega), hf (i + 1) (by omega)]
      congr 1
      rw [List.getD_eq_getElem?_getD, List.getD_eq_getElem?_getD, List.getElem?_drop, Nat.add_comm 1 i]
end CTE

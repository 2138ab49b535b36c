/-! ===== MissCurves$Parser: words; tokens by their numbers ===== -/
/-- the word w stands from s to e -/
def mtW (bt : Nat → Nat) (s e w : Nat) : Bool := decide (e - s = (wdN.getD w []).length) && (List.range (wdN.getD w []).length).all (fun j => decide (bt (s + j) = (wdN.getD w []).getD j 0))
def wnF (bt : Nat → Nat) (s e : Nat) : Nat → Nat → Nat
  | 0, _ => 0
  | f + 1, w => if mtW bt s e w = true then w + 1 else wnF bt s e f (w + 1)
/-- the number of the word from s to e, 0: none of these -/
def wnum (bt : Nat → Nat) (s e : Nat) : Nat := wnF bt s e 28 0
/-- the code of the token that begins at s -/
def tcS (bt : Nat → Nat) (L s : Nat) : Nat := if s < L then (if kdN (bt s) = 1 then wnum bt s (eOf bt L s) else if kdN (bt s) = 2 then 50 else 100 + bt s) else 0
/-- code and value of token i -/
def tC (bt : Nat → Nat) (L i : Nat) : Nat := tcS bt L (tS bt L i)
def tV (bt : Nat → Nat) (L i : Nat) : Nat := vOf bt L (tS bt L i)
theorem wdN_apart : ∀ v, v < 28 → ∀ w, w < 28 → wdN.getD v [] = wdN.getD w [] → v = w := by decide
theorem list_ext_getD {a b : List Nat} (hl : a.length = b.length) (h : ∀ j, j < a.length → a.getD j 0 = b.getD j 0) : a = b := by
  apply List.ext_getElem hl
  intro j h1 h2
  have := h j h1
  rw [List.getD_eq_getElem?_getD, List.getD_eq_getElem?_getD, List.getElem?_eq_getElem h1, List.getElem?_eq_getElem h2] at this
  exact this
theorem mtW_iff {bt : Nat → Nat} {s e w : Nat} : mtW bt s e w = true ↔ e - s = (wdN.getD w []).length ∧ ∀ j, j < (wdN.getD w []).length → bt (s + j) = (wdN.getD w []).getD j 0 := by
  unfold mtW
  rw [Bool.and_eq_true, decide_eq_true_eq, List.all_eq_true]
  constructor
  · rintro ⟨h1, h2⟩
    exact ⟨h1, fun j hj => by simpa using h2 j (List.mem_range.mpr hj)⟩
  · rintro ⟨h1, h2⟩
    exact ⟨h1, fun j hj => by simpa using h2 j (List.mem_range.mp hj)⟩
theorem mtW_apart {bt : Nat → Nat} {s e v w : Nat} (hv : v < 28) (hw : w < 28) (h1 : mtW bt s e v = true) (h2 : mtW bt s e w = true) : v = w := by
  obtain ⟨a1, a2⟩ := mtW_iff.mp h1
  obtain ⟨b1, b2⟩ := mtW_iff.mp h2
  refine wdN_apart v hv w hw (list_ext_getD (a1.symm.trans b1) (fun j hj => ?_))
  rw [← a2 j hj, b2 j (by omega)]
theorem wnF_some {bt : Nat → Nat} {s e w : Nat} (hw : w < 28) (h : mtW bt s e w = true) : ∀ f v, v ≤ w → w < v + f → v + f ≤ 28 → wnF bt s e f v = w + 1
  | 0, v, h1, h2, _ => by omega
  | f + 1, v, h1, h2, h3 => by
    rw [wnF]
    by_cases hm : mtW bt s e v = true
    · rw [if_pos hm, mtW_apart (by omega) hw hm h]
    · rw [if_neg hm]
      have hne : v ≠ w := fun q => hm (by rw [q]; exact h)
      exact wnF_some hw h f (v + 1) (by omega) (by omega) (by omega)
theorem wnF_back {bt : Nat → Nat} {s e w : Nat} : ∀ f v, wnF bt s e f v = w + 1 → mtW bt s e w = true
  | 0, v, h => by rw [wnF] at h; omega
  | f + 1, v, h => by
    rw [wnF] at h
    by_cases hm : mtW bt s e v = true
    · rw [if_pos hm] at h
      have : v = w := by omega
      rw [← this]; exact hm
    · rw [if_neg hm] at h
      exact wnF_back f (v + 1) h
theorem wnF_le {bt : Nat → Nat} {s e : Nat} : ∀ f v, wnF bt s e f v ≤ v + f
  | 0, v => by rw [wnF]; omega
  | f + 1, v => by
    rw [wnF]
    by_cases hm : mtW bt s e v = true
    · rw [if_pos hm]; omega
    · rw [if_neg hm]
      have := wnF_le (bt := bt) (s := s) (e := e) f (v + 1)
      omega
theorem wnum_le (bt : Nat → Nat) (s e : Nat) : wnum bt s e ≤ 28 := by
  have := wnF_le (bt := bt) (s := s) (e := e) 28 0
  unfold wnum
  omega
theorem wnum_iff {bt : Nat → Nat} {s e w : Nat} (hw : w < 28) : wnum bt s e = w + 1 ↔ mtW bt s e w = true := ⟨fun h => wnF_back 28 0 h, fun h => wnF_some hw h 28 0 (by omega) (by omega) (by omega)⟩
theorem kdN_3 {b : Nat} (h : b = 32) : kdN b = 3 := by subst h; decide
/-- a word by its number -/
theorem tcS_word {bt : Nat → Nat} {L s w : Nat} (hw : w < 28) : tcS bt L s = w + 1 ↔ kOf bt L s = 1 ∧ mtW bt s (eOf bt L s) w = true := by
  unfold tcS kOf
  by_cases hs : s < L
  · rw [if_pos hs, if_pos hs]
    by_cases h1 : kdN (bt s) = 1
    · rw [if_pos h1, wnum_iff hw]
      exact ⟨fun h => ⟨h1, h⟩, fun h => h.2⟩
    · rw [if_neg h1]
      by_cases h2 : kdN (bt s) = 2
      · rw [if_pos h2]
        exact ⟨fun h => by omega, fun h => absurd h.1 h1⟩
      · rw [if_neg h2]
        exact ⟨fun h => by omega, fun h => absurd h.1 h1⟩
  · rw [if_neg hs, if_neg hs]
    exact ⟨fun h => by omega, fun h => by omega⟩
/-- a single byte by its number -/
theorem tcS_sign {bt : Nat → Nat} {L s c : Nat} : tcS bt L s = 100 + c ↔ kOf bt L s = 3 ∧ vOf bt L s = c := by
  unfold tcS kOf vOf
  have hle := kdN_le (bt s)
  by_cases hs : s < L
  · rw [if_pos hs, if_pos hs, if_pos hs]
    by_cases h1 : kdN (bt s) = 1
    · rw [if_pos h1]
      have := wnum_le bt s (eOf bt L s)
      exact ⟨fun h => by omega, fun h => by omega⟩
    · rw [if_neg h1]
      by_cases h2 : kdN (bt s) = 2
      · rw [if_pos h2]
        exact ⟨fun h => by omega, fun h => by omega⟩
      · have h3 : kdN (bt s) = 3 := by omega
        rw [if_neg h2, if_pos h3]
        exact ⟨fun h => ⟨h3, by omega⟩, fun h => by omega⟩
  · rw [if_neg hs, if_neg hs, if_neg hs]
    exact ⟨fun h => by omega, fun h => by omega⟩
theorem tcS_num {bt : Nat → Nat} {L s : Nat} : tcS bt L s = 50 ↔ kOf bt L s = 2 := by
  unfold tcS kOf
  have hle := kdN_le (bt s)
  by_cases hs : s < L
  · rw [if_pos hs, if_pos hs]
    by_cases h1 : kdN (bt s) = 1
    · rw [if_pos h1]
      have := wnum_le bt s (eOf bt L s)
      exact ⟨fun h => by omega, fun h => by omega⟩
    · rw [if_neg h1]
      by_cases h2 : kdN (bt s) = 2
      · rw [if_pos h2]
        exact ⟨fun _ => h2, fun _ => rfl⟩
      · rw [if_neg h2]
        exact ⟨fun h => by omega, fun h => absurd h h2⟩
  · rw [if_neg hs, if_neg hs]
    exact ⟨fun h => by omega, fun h => by omega⟩
theorem dvF_le {bt : Nat → Nat} {L : Nat} : ∀ f p v, v ≤ 1001 → dvF bt L f p v ≤ 1001
  | 0, p, v, h => by rw [dvF]; exact h
  | f + 1, p, v, h => by
    rw [dvF]
    by_cases hc : p < L ∧ kdN (bt p) = 2
    · rw [if_pos hc]; exact dvF_le f (p + 1) _ (Nat.min_le_right _ _)
    · rw [if_neg hc]; exact h
theorem vOf_le {bt : Nat → Nat} {L s : Nat} (hb : ∀ j, bt j < 256) : vOf bt L s ≤ 1001 := by
  unfold vOf
  by_cases hs : s < L
  · rw [if_pos hs]
    by_cases h3 : kdN (bt s) = 3
    · rw [if_pos h3]; have := hb s; omega
    · rw [if_neg h3]
      by_cases h2 : kdN (bt s) = 2
      · rw [if_pos h2]; exact dvF_le _ _ _ (by omega)
      · rw [if_neg h2]; omega
  · rw [if_neg hs]; omega
theorem kOf_le {bt : Nat → Nat} {L s : Nat} : kOf bt L s ≤ 3 := by
  unfold kOf
  have := kdN_le (bt s)
  by_cases hs : s < L
  · rw [if_pos hs]; omega
  · rw [if_neg hs]; omega
theorem wdBN : ∀ w, w < 28 → (wdB.getD w []).length = (wdN.getD w []).length ∧ (wdN.getD w []).length ≤ 8 ∧ ∀ j, j < 8 → (wdB.getD w []).getD j 0 = nI ((wdN.getD w []).getD j 0) ∧ (wdN.getD w []).getD j 0 < 256 := by decide
section PW
variable {g : Gl} {M : Mem} {pa tp L : Nat} {bt : Nat → Nat}
/-- constants and the formatter as they lie outside -/
def OutOK (g : Gl) : Prop := StrOK g ∧ ∃ v, FmtOK g v
theorem l_isWord (hS : OutOK g) (hX : TxOK M pa tp L bt) {s lf cl w : Nat} {cd : Nat → Int32} (hw : w < 28) (hs : s ≤ L) (hk : kOf bt L s = 1) (hl : eOf bt L s - s = (wdN.getD w []).length) : ∀ f j, (wdN.getD w []).length = j + f → (∀ q, q < j → bt (s + q) = (wdN.getD w []).getD q 0) → Wp g Y_Pa_isWord 4 28 [some (.ref pa), some (.retAddr (1 + w)), some (.int (nI j))] [] (cTk M pa L bt s lf cl cd) (fun r M2 => ∃ x, r = some (.int x) ∧ x = bI (mtW bt s (eOf bt L s) w) ∧ M2 = cTk M pa L bt s lf cl cd) := by
  have hX0 := hX
  obtain ⟨⟨t0, r0, hPr, r2, t2, htp⟩, h3, hL, hbt, hb2⟩ := hX
  obtain ⟨hS1, v, hv⟩ := hS
  obtain ⟨hlen, hl8, hby⟩ := wdBN w hw
  have hT : ∀ lf k s e v cl cd j, j < 400 → mI (cS M pa lf k s e v cl cd) tp j = nI (bt j) := fun lf k s e v cl cd j hj => by
    rw [cS_o (by omega) (by omega) (by omega)]; exact hbt j hj
  have he := eOf_le (bt := bt) hs
  intro f
  induction f with
  | zero =>
    intro j h1 h2
    refine wp_iload_n rfl (ck_get kk_Pa_isWord 16 rfl) ?_
    refine wp_aload_nX rfl (ck_get kk_Pa_isWord 17 rfl) ?_
    refine wp_cX0i (ck_get kk_Pa_isWord 18 rfl) xl_Pa_104 (by omega) (Nat.le_of_ble_eq_true rfl) (fun U hU => ((hS1 U hU).1 w hw).2.1) (Ci.to (s_length hS1 hw) ?_)
    rintro x₁ M₁ ⟨rfl, eqm⟩
    obtain rfl := eqm.symm
    first | refine wp_icmp_geN (t := 63) (ck_get kk_Pa_isWord 19 rfl) (by decide) (by omega) (by omega) (fun hc33 => ?_) (fun hc33 => ?_) | refine wp_icmp_ge (t := 63) (ck_get kk_Pa_isWord 19 rfl) (by decide) (fun hc33 => ?_) (fun hc33 => ?_)
    · refine wp_iconst (v := nI 1) (by decide) (ck_get kk_Pa_isWord 35 rfl) ?_
      refine wp_ireturn (ck_get kk_Pa_isWord 36 rfl) rfl rfl ⟨_, rfl, ?_⟩
      exact ⟨by rw [mtW_iff.mpr ⟨hl, fun q hq => h2 q (by omega)⟩]; rfl, rfl⟩
    · omega
  | succ f ih =>
    intro j h1 h2
    have hbj := hby j (by omega)
    have hbb := hb2 (s + j)
    refine wp_iload_n rfl (ck_get kk_Pa_isWord 16 rfl) ?_
    refine wp_aload_nX rfl (ck_get kk_Pa_isWord 17 rfl) ?_
    refine wp_cX0i (ck_get kk_Pa_isWord 18 rfl) xl_Pa_104 (by omega) (Nat.le_of_ble_eq_true rfl) (fun U hU => ((hS1 U hU).1 w hw).2.1) (Ci.to (s_length hS1 hw) ?_)
    rintro x₁ M₁ ⟨rfl, eqm⟩
    obtain rfl := eqm.symm
    first | refine wp_icmp_geN (t := 63) (ck_get kk_Pa_isWord 19 rfl) (by decide) (by omega) (by omega) (fun hc33 => ?_) (fun hc33 => ?_) | refine wp_icmp_ge (t := 63) (ck_get kk_Pa_isWord 19 rfl) (by decide) (fun hc33 => ?_) (fun hc33 => ?_)
    · omega
    · refine wp_aload_n rfl (ck_get kk_Pa_isWord 20 rfl) ?_
      refine wp_getR (ck_get kk_Pa_isWord 21 rfl) fl_Pa_24 (by assumption) (by assumption) ?_
      refine wp_aload_n rfl (ck_get kk_Pa_isWord 22 rfl) ?_
      refine wp_getIv (v := nI s) (ck_get kk_Pa_isWord 23 rfl) fl_Pa_41 (by assumption) (by rw [cS_pa]; rfl) ?_
      refine wp_iload_n rfl (ck_get kk_Pa_isWord 24 rfl) ?_
      first | refine wp_iaddN (ck_get kk_Pa_isWord 25 rfl) ?_ | refine wp_iadd (ck_get kk_Pa_isWord 25 rfl) ?_
      refine wp_ialdv (v := nI (bt (s + j))) (ck_get kk_Pa_isWord 26 rfl) (by assumption) (ixk_nI (k := s + j) (by omega) (by omega)) (hT _ _ _ _ _ _ _ _ (by omega)) ?_
      refine wp_aload_nX rfl (ck_get kk_Pa_isWord 27 rfl) ?_
      refine wp_iload_n rfl (ck_get kk_Pa_isWord 28 rfl) ?_
      refine wp_cX1i (ck_get kk_Pa_isWord 29 rfl) xl_Pa_109 (by omega) (Nat.le_of_ble_eq_true rfl) (fun U hU => ((hS1 U hU).1 w hw).2.1) (Ci.to (s_charAt hS1 hv hw (by omega)) ?_)
      rintro x₁ M₁ ⟨rfl, eqm⟩
      obtain rfl := eqm.symm
      rw [hbj.1]
      first | refine wp_icmp_eqN (t := 57) (ck_get kk_Pa_isWord 30 rfl) (by decide) (by omega) (by omega) (fun hc52 => ?_) (fun hc52 => ?_) | refine wp_icmp_eq (t := 57) (ck_get kk_Pa_isWord 30 rfl) (by decide) (fun hc52 => ?_) (fun hc52 => ?_)
      · first | refine wp_iincN (ck_get kk_Pa_isWord 33 rfl) rfl (by decide) rfl ?_ | refine wp_iinc (ck_get kk_Pa_isWord 33 rfl) rfl (by decide) rfl ?_
        refine wp_goto (t := 28) (ck_get kk_Pa_isWord 34 rfl) (by decide) ?_
        exact ih (j + 1) (by omega) (fun q hq => by
          by_cases hqj : q = j
          · subst hqj; omega
          · exact h2 q (by omega))
      · refine wp_iconst (v := nI 0) (by decide) (ck_get kk_Pa_isWord 31 rfl) ?_
        refine wp_ireturn (ck_get kk_Pa_isWord 32 rfl) rfl rfl ⟨_, rfl, ?_⟩
        refine ⟨?_, rfl⟩
        have : mtW bt s (eOf bt L s) w = false := by
          rw [Bool.eq_false_iff]
          intro hm
          have := (mtW_iff.mp hm).2 j (by omega)
          omega
        rw [this]; rfl
theorem c_isWord (hS : OutOK g) (hX : TxOK M pa tp L bt) {s lf cl w : Nat} {cd : Nat → Int32} (hw : w < 28) (hs : s ≤ L) : Ci g Y_Pa_isWord 4 [.ref pa, .retAddr (1 + w)] (cTk M pa L bt s lf cl cd) (fun x M2 => x = bI (decide (tcS bt L s = w + 1)) ∧ M2 = cTk M pa L bt s lf cl cd) := by
  refine cw_entry 1 pf_Pa_isWord rfl ?_
  have hX0 := hX
  have hS0 := hS
  obtain ⟨⟨t0, r0, hPr, r2, t2, htp⟩, h3, hL, hbt, hb2⟩ := hX
  obtain ⟨hS1, v, hv⟩ := hS
  have hk3 := kOf_le (bt := bt) (L := L) (s := s)
  have he := eOf_le (bt := bt) hs
  obtain ⟨hlen, hl8, hby⟩ := wdBN w hw
  have hno : (¬ (kOf bt L s = 1 ∧ eOf bt L s - s = (wdN.getD w []).length)) → bI (decide (tcS bt L s = w + 1)) = nI 0 := by
    intro hc
    rw [decide_eq_false (fun h => hc ⟨((tcS_word hw).mp h).1, (mtW_iff.mp ((tcS_word hw).mp h).2).1⟩)]
    rfl
  refine wp_aload_n rfl (ck_get kk_Pa_isWord 0 rfl) ?_
  refine wp_getIv (v := nI (kOf bt L s)) (ck_get kk_Pa_isWord 1 rfl) fl_Pa_38 (by assumption) (by rw [cS_pa]; rfl) ?_
  refine wp_iconst (v := nI 1) (by decide) (ck_get kk_Pa_isWord 2 rfl) ?_
  first | refine wp_icmp_neN (t := 24) (ck_get kk_Pa_isWord 3 rfl) (by decide) (by omega) (by omega) (fun hc5 => ?_) (fun hc5 => ?_) | refine wp_icmp_ne (t := 24) (ck_get kk_Pa_isWord 3 rfl) (by decide) (fun hc5 => ?_) (fun hc5 => ?_)
  · refine wp_iconst (v := nI 0) (by decide) (ck_get kk_Pa_isWord 12 rfl) ?_
    refine wp_ireturn (ck_get kk_Pa_isWord 13 rfl) rfl rfl ⟨_, rfl, ?_⟩
    exact ⟨(hno (by omega)).symm, rfl⟩
  · refine wp_aload_n rfl (ck_get kk_Pa_isWord 4 rfl) ?_
    refine wp_getIv (v := nI (eOf bt L s)) (ck_get kk_Pa_isWord 5 rfl) fl_Pa_44 (by assumption) (by rw [cS_pa]; rfl) ?_
    refine wp_aload_n rfl (ck_get kk_Pa_isWord 6 rfl) ?_
    refine wp_getIv (v := nI s) (ck_get kk_Pa_isWord 7 rfl) fl_Pa_41 (by assumption) (by rw [cS_pa]; rfl) ?_
    refine wp_isubN (ck_get kk_Pa_isWord 8 rfl) (by omega) ?_
    refine wp_aload_nX rfl (ck_get kk_Pa_isWord 9 rfl) ?_
    refine wp_cX0i (ck_get kk_Pa_isWord 10 rfl) xl_Pa_104 (by omega) (Nat.le_of_ble_eq_true rfl) (fun U hU => ((hS1 U hU).1 w hw).2.1) (Ci.to (s_length hS1 hw) ?_)
    rintro x₁ M₁ ⟨rfl, eqm⟩
    obtain rfl := eqm.symm
    first | refine wp_icmp_eqN (t := 26) (ck_get kk_Pa_isWord 11 rfl) (by decide) (by omega) (by omega) (fun hc21 => ?_) (fun hc21 => ?_) | refine wp_icmp_eq (t := 26) (ck_get kk_Pa_isWord 11 rfl) (by decide) (fun hc21 => ?_) (fun hc21 => ?_)
    · refine wp_iconst (v := nI 0) (by decide) (ck_get kk_Pa_isWord 14 rfl) ?_
      refine wp_istore_n (ck_get kk_Pa_isWord 15 rfl) (by decide) rfl ?_
      refine Wp.mono (l_isWord hS0 hX0 hw hs (by omega) (by omega) _ 0 (by rw [Nat.zero_add]) (fun q hq => by omega)) ?_
      rintro r₁ M₁ ⟨x₁, hr₁, hx₁, hM₁⟩
      refine ⟨x₁, hr₁, hx₁.trans ?_, hM₁⟩
      have hk1 : kOf bt L s = 1 := by omega
      congr 1
      rw [Bool.eq_iff_iff, decide_eq_true_eq, tcS_word hw]
      exact ⟨fun h => ⟨hk1, h⟩, fun h => h.2⟩
    · refine wp_iconst (v := nI 0) (by decide) (ck_get kk_Pa_isWord 12 rfl) ?_
      refine wp_ireturn (ck_get kk_Pa_isWord 13 rfl) rfl rfl ⟨_, rfl, ?_⟩
      exact ⟨(hno (by omega)).symm, rfl⟩
theorem c_isSignT (hX : TxOK M pa tp L bt) {s lf cl c : Nat} {cd : Nat → Int32} (hc : c < 256) : Ci g Y_Pa_isSign 0 [.ref pa, .int (nI c)] (cTk M pa L bt s lf cl cd) (fun x M2 => x = bI (decide (tcS bt L s = 100 + c)) ∧ M2 = cTk M pa L bt s lf cl cd) := by
  have hk3 := kOf_le (bt := bt) (L := L) (s := s)
  have hv := vOf_le (L := L) (s := s) hX.2.2.2.2
  refine Cw.mono (c_isSign hX (k := kOf bt L s) (s := s) (e := eOf bt L s) (v := vOf bt L s) (lf := lf) (cl := cl) (cd := cd) (by omega) (by omega) (show c < 1000 by omega)) ?_
  rintro r₁ M₁ ⟨x₁, hr₁, hx₁, hM₁⟩
  refine ⟨x₁, hr₁, hx₁.trans ?_, hM₁⟩
  congr 1
  rw [Bool.eq_iff_iff, decide_eq_true_eq, decide_eq_true_eq, tcS_sign]
theorem c_advanceT (hX : TxOK M pa tp L bt) {i lf cl : Nat} {cd : Nat → Int32} : Cv g Y_Pa_advance 1 [.ref pa] (cTk M pa L bt (tS bt L i) lf cl cd) (fun M2 => M2 = cTk M pa L bt (tS bt L (i + 1)) lf cl cd) := c_advance hX (eOf_le (tS_le i)).2.1
end PW

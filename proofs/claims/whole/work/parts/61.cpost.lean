/-! ===== MissCurves$Parser: what its reading methods leave ===== -/
/-- code that was laid behind cl -/
def Ext (cd : Nat → Int32) (cl : Nat) (sg : List Int32) (cd2 : Nat → Int32) : Prop := (∀ j, j < cl → cd2 j = cd j) ∧ ∀ j, j < sg.length → cd2 (cl + j) = sg.getD j 0
theorem Ext.nil {cd : Nat → Int32} {cl : Nat} : Ext cd cl [] cd := ⟨fun _ _ => rfl, fun j hj => by simp at hj⟩
theorem getD_app_l {a b : List Int32} {j : Nat} (h : j < a.length) : (a ++ b).getD j 0 = a.getD j 0 := by
  rw [List.getD_eq_getElem?_getD, List.getD_eq_getElem?_getD, List.getElem?_append_left h]
theorem getD_app_r {a b : List Int32} {j : Nat} (h : a.length ≤ j) : (a ++ b).getD j 0 = b.getD (j - a.length) 0 := by
  rw [List.getD_eq_getElem?_getD, List.getD_eq_getElem?_getD, List.getElem?_append_right h]
theorem Ext.app {cd cd1 cd2 : Nat → Int32} {cl cl1 : Nat} {s1 s2 : List Int32} (h1 : Ext cd cl s1 cd1) (e : cl1 = cl + s1.length) (h2 : Ext cd1 cl1 s2 cd2) : Ext cd cl (s1 ++ s2) cd2 := by
  subst e
  refine ⟨fun j hj => by rw [h2.1 j (by omega), h1.1 j hj], fun j hj => ?_⟩
  rw [List.length_append] at hj
  by_cases hc : j < s1.length
  · rw [getD_app_l hc, h2.1 _ (by omega), h1.2 j hc]
  · rw [getD_app_r (by omega), ← h2.2 (j - s1.length) (by omega)]
    congr 1; omega
theorem Ext.two {cd : Nat → Int32} {cl : Nat} {a b : Int32} : Ext cd cl [a, b] (up1 (up1 cd cl a) (cl + 1) b) := by
  refine ⟨fun j hj => by rw [up1_ne (by omega), up1_ne (by omega)], fun j hj => ?_⟩
  rw [List.length_cons, List.length_cons, List.length_nil] at hj
  match j, hj with
  | 0, _ =>
    show up1 (up1 cd cl a) (cl + 1) b cl = a
    rw [up1_ne (by omega), up1_eq]
  | 1, _ => rw [up1_eq]; rfl
  | q + 2, h => omega
theorem Ext.land {cd cd1 cd2 : Nat → Int32} {cl : Nat} {a b v : Int32} {s : List Int32} (h1 : Ext cd cl [a, b] cd1) (h2 : Ext cd1 (cl + 2) s cd2) : Ext cd cl ([a, v] ++ s) (up1 cd2 (cl + 2 - 1) v) := by
  refine ⟨fun j hj => by rw [up1_ne (by omega), h2.1 j (by omega), h1.1 j hj], fun j hj => ?_⟩
  match j, hj with
  | 0, _ =>
    show up1 cd2 (cl + 2 - 1) v cl = a
    rw [up1_ne (by omega), h2.1 cl (by omega)]
    exact h1.2 0 (Nat.le_of_ble_eq_true rfl)
  | 1, _ => rw [show cl + 2 - 1 = cl + 1 by omega, up1_eq]; rfl
  | q + 2, h =>
    rw [up1_ne (by omega), show cl + (q + 2) = cl + 2 + q by omega]
    have hq : q < s.length := by
      rw [List.length_append, List.length_cons, List.length_cons, List.length_nil] at h; omega
    rw [h2.2 q hq]
    rfl
/-- behind a reading method: it could (the token behind, parts, code), or it could not (where) -/
def pOK (M : Mem) (pa L : Nat) (bt : Nat → Nat) (cl : Nat) (cd : Nat → Int32) (r : PRes) (x : Int32) (M2 : Mem) : Prop :=
  (∃ j lf sg, r = (true, j, lf, sg) ∧ x = nI 1 ∧ ∃ cd2, M2 = cTk M pa L bt (tS bt L j) lf (cl + sg.length) cd2 ∧ Ext cd cl sg cd2) ∨
  (∃ j lf sg, r = (false, j, lf, sg) ∧ x = nI 0 ∧ ∃ F G cd2, F 1 = nI (tS bt L j) ∧ M2 = cFl M pa F G cd2)
section PK
variable {M M2 : Mem} {pa L cl : Nat} {bt : Nat → Nat} {cd : Nat → Int32} {r : PRes} {x : Int32}
theorem pOK.t (h : pOK M pa L bt cl cd r x M2) (hx : ¬ x = 0) : ∃ j lf sg cd2, r = (true, j, lf, sg) ∧ M2 = cTk M pa L bt (tS bt L j) lf (cl + sg.length) cd2 ∧ Ext cd cl sg cd2 := by
  rcases h with ⟨j, lf, sg, h1, h2, cd2, h3, h4⟩ | ⟨j, lf, sg, h1, h2, -⟩
  · exact ⟨j, lf, sg, cd2, h1, h3, h4⟩
  · exact absurd h2 hx
theorem pOK.f (h : pOK M pa L bt cl cd r x M2) (hx : x = 0) : ∃ j lf sg F G cd2, r = (false, j, lf, sg) ∧ F 1 = nI (tS bt L j) ∧ M2 = cFl M pa F G cd2 := by
  rcases h with ⟨j, lf, sg, h1, h2, -⟩ | ⟨j, lf, sg, h1, h2, F, G, cd2, h3, h4⟩
  · rw [hx] at h2; exact absurd h2 (by decide)
  · exact ⟨j, lf, sg, F, G, cd2, h1, h3, h4⟩
theorem pOK.nar (h : pOK M pa L bt cl cd r x M2) : narrow .boolean (.int x) = .int x := by
  rcases h with ⟨_, _, _, _, h2, -⟩ | ⟨_, _, _, _, h2, -⟩
  · rw [h2]; rfl
  · rw [h2]; rfl
/-- it could not: nor can what goes on from it -/
theorem pOK.no {cl0 : Nat} {cd0 : Nat → Int32} {k : Nat → Nat → List Int32 → PRes} (h : pOK M pa L bt cl cd r x M2) (hx : x = 0) : pOK M pa L bt cl0 cd0 (pbd r k) (nI 0) M2 := by
  obtain ⟨j, lf, sg, F, G, cd2, rfl, h3, h4⟩ := h.f hx
  exact Or.inr ⟨j, lf, [], rfl, rfl, F, G, cd2, h3, h4⟩
theorem pOK.yes {j lf : Nat} {sg : List Int32} {cd2 : Nat → Int32} (hE : Ext cd cl sg cd2) : pOK M pa L bt cl cd (true, j, lf, sg) (nI 1) (cTk M pa L bt (tS bt L j) lf (cl + sg.length) cd2) := Or.inl ⟨j, lf, sg, rfl, rfl, cd2, rfl, hE⟩
/-- what stands behind code that was laid -/
theorem pOK.bd {cl1 : Nat} {cd1 : Nat → Int32} {s1 : List Int32} (hE : Ext cd cl s1 cd1) (e : cl1 = cl + s1.length) (h : pOK M pa L bt cl1 cd1 r x M2) : pOK M pa L bt cl cd (pbd r (fun j2 lf3 sg2 => (true, j2, lf3, s1 ++ sg2))) x M2 := by
  rcases h with ⟨j, lf, sg, rfl, h2, cd2, h3, h4⟩ | ⟨j, lf, sg, rfl, h2, F, G, cd2, h3, h4⟩
  · refine Or.inl ⟨j, lf, s1 ++ sg, rfl, h2, cd2, ?_, hE.app e h4⟩
    rw [h3, e, List.length_append, Nat.add_assoc]
  · exact Or.inr ⟨j, lf, [], rfl, h2, F, G, cd2, h3, h4⟩
end PK
section PN
variable {g : Gl} {M : Mem} {pa tp L : Nat} {bt : Nat → Nat}
theorem c_failT (hX : TxOK M pa tp L bt) {i lf cl lf0 cl0 : Nat} {cd cd0 : Nat → Int32} {sg : List Int32} : Ci g Y_Pa_fail 0 [.ref pa] (cTk M pa L bt (tS bt L i) lf cl cd) (fun x M2 => pOK M pa L bt cl0 cd0 (false, i, lf0, sg) x M2) := by
  refine Cw.mono (c_fail hX) ?_
  rintro r₁ M₁ ⟨x₁, hr₁, hx₁, F, G, cd2, h1, h2⟩
  exact ⟨x₁, hr₁, Or.inr ⟨i, lf0, sg, rfl, hx₁, F, G, cd2, h1, h2⟩⟩
theorem c_isWordY (hS : OutOK g) (hX : TxOK M pa tp L bt) {i lf cl w : Nat} {cd : Nat → Int32} (hw : w < 28) (h : tC bt L i = w + 1) : Ci g Y_Pa_isWord 4 [.ref pa, .retAddr (1 + w)] (cTk M pa L bt (tS bt L i) lf cl cd) (fun x M2 => x = nI 1 ∧ M2 = cTk M pa L bt (tS bt L i) lf cl cd) := by
  refine Cw.mono (c_isWord hS hX hw (tS_le i)) ?_
  rintro r₁ M₁ ⟨x₁, hr₁, hx₁, h1⟩
  exact ⟨x₁, hr₁, by rw [hx₁, decide_eq_true (show tcS bt L (tS bt L i) = w + 1 from h)]; rfl, h1⟩
theorem c_isWordN (hS : OutOK g) (hX : TxOK M pa tp L bt) {i lf cl w : Nat} {cd : Nat → Int32} (hw : w < 28) (h : ¬ tC bt L i = w + 1) : Ci g Y_Pa_isWord 4 [.ref pa, .retAddr (1 + w)] (cTk M pa L bt (tS bt L i) lf cl cd) (fun x M2 => x = nI 0 ∧ M2 = cTk M pa L bt (tS bt L i) lf cl cd) := by
  refine Cw.mono (c_isWord hS hX hw (tS_le i)) ?_
  rintro r₁ M₁ ⟨x₁, hr₁, hx₁, h1⟩
  exact ⟨x₁, hr₁, by rw [hx₁, decide_eq_false (show ¬ tcS bt L (tS bt L i) = w + 1 from h)]; rfl, h1⟩
theorem c_isSignY (hX : TxOK M pa tp L bt) {i lf cl c : Nat} {cd : Nat → Int32} (hc : c < 256) (h : tC bt L i = 100 + c) : Ci g Y_Pa_isSign 0 [.ref pa, .int (nI c)] (cTk M pa L bt (tS bt L i) lf cl cd) (fun x M2 => x = nI 1 ∧ M2 = cTk M pa L bt (tS bt L i) lf cl cd) := by
  refine Cw.mono (c_isSignT hX hc) ?_
  rintro r₁ M₁ ⟨x₁, hr₁, hx₁, h1⟩
  exact ⟨x₁, hr₁, by rw [hx₁, decide_eq_true (show tcS bt L (tS bt L i) = 100 + c from h)]; rfl, h1⟩
theorem c_isSignN (hX : TxOK M pa tp L bt) {i lf cl c : Nat} {cd : Nat → Int32} (hc : c < 256) (h : ¬ tC bt L i = 100 + c) : Ci g Y_Pa_isSign 0 [.ref pa, .int (nI c)] (cTk M pa L bt (tS bt L i) lf cl cd) (fun x M2 => x = nI 0 ∧ M2 = cTk M pa L bt (tS bt L i) lf cl cd) := by
  refine Cw.mono (c_isSignT hX hc) ?_
  rintro r₁ M₁ ⟨x₁, hr₁, hx₁, h1⟩
  exact ⟨x₁, hr₁, by rw [hx₁, decide_eq_false (show ¬ tcS bt L (tS bt L i) = 100 + c from h)]; rfl, h1⟩
/-- the value of a single byte -/
theorem tC_val {i c : Nat} (h : tC bt L i = 100 + c) : vOf bt L (tS bt L i) = c := (tcS_sign.mp h).2
theorem tC_num {i : Nat} : tC bt L i = 50 ↔ kOf bt L (tS bt L i) = 2 := tcS_num
theorem tC_lt {i : Nat} (h : tC bt L i ≠ 0) : tS bt L i < L := by
  by_cases hs : tS bt L i < L
  · exact hs
  · exact absurd (show tcS bt L (tS bt L i) = 0 by unfold tcS; rw [if_neg hs]) h
theorem tS_ge {i : Nat} : tS bt L i < L → i ≤ tS bt L i := by
  induction i with
  | zero => intro _; omega
  | succ i ih =>
    intro h
    by_cases h1 : tS bt L i < L
    · have := tS_lt h1
      have := ih h1
      omega
    · exfalso
      have h2 : tS bt L i = L := Nat.le_antisymm (tS_le i) (by omega)
      have h3 := eOf_le (bt := bt) (L := L) (s := tS bt L i) (tS_le i)
      have h4 := sk_le (bt := bt) (p := eOf bt L (tS bt L i)) h3.2.1
      rw [tS] at h
      omega
theorem tC_N {i : Nat} (h : tC bt L i ≠ 0) : i < L := Nat.lt_of_le_of_lt (tS_ge (tC_lt h)) (tC_lt h)
end PN

/-! ===== the class's tenant as a list ===== -/
section CTF
variable {g : Gl} {M : Mem} {a : Nat}
def put1 (s : TS) (k c : Nat) : TS := (stk1 (tSt s) k, cos1 (tCo s) (posL (tSt s) k) c, tSa s, tLi s, tPa s, tRe s)
def note1 (s : TS) (k : Nat) : TS := (tSt s, tCo s, tSa s, tLi s, tPa s, rec1 (tRe s) k)
theorem topT_eq (s : TS) (k c : Nat) : topT s k c = note1 (put1 s k c) k := rfl
theorem Row0 {f : Nat → Int32} {L : List Nat} (h : RowI f 0 L) : ∀ i, i < L.length → f i = nI (L.getD i 0) := fun i hi => by have := h i hi; rwa [Nat.zero_add] at this
theorem Row0.fnd {f : Nat → Int32} {L : List Nat} {k : Nat} (h : RowI f 0 L) : fnd f L.length (nI k) = posL L k := fnd_congr (fun i hi => Row0 h i hi)
theorem TeHas.kept {I I2 : Nat → Nat → Int32} {J J2 : Nat → Nat → Int64} {s : TS} (h : TeHas I J a s) (hk : ∀ x, a ≤ x → x < a + 6 → I2 x = I x ∧ J2 x = J x) : TeHas I2 J2 a s := by
  obtain ⟨h1, h2, h3, h4, h5, h6, h7, h8, h9⟩ := h
  unfold TeHas
  rw [(hk a (by omega) (by omega)).1, (hk (a + 1) (by omega) (by omega)).1, (hk (a + 2) (by omega) (by omega)).1, (hk (a + 3) (by omega) (by omega)).1, (hk (a + 4) (by omega) (by omega)).2, (hk (a + 5) (by omega) (by omega)).1]
  exact ⟨h1, h2, h3, h4, h5, h6, h7, h8, h9⟩
theorem c_putT {s : TS} {k c : Nat} (hA : TeAt (mT M) (mR M) a) (hs : TeHas (mI M) (mJ M) a s) (hT : TOK s) : Ci g Y_Te_putOnTop 2 [.ref a, .int (nI k), .int (nI c)] M (fun x M2 => x = nI (posL (tSt s) k) ∧ ∃ I2, M2 = mk2 M I2 (mJ M) ∧ TeHas I2 (mJ M) a (put1 s k c) ∧ Frm a (a + 6) (mI M) (mJ M) I2 (mJ M)) := by
  obtain ⟨h1, h2, h3, h4, h5, h6, h7, h8, h9⟩ := hs
  have hf := Row0.fnd (k := k) h2
  have hpl := posL_le (L := tSt s) (k := k)
  have q := c_putOnTop (g := g) (key := nI k) (cost := nI c) hA h1 hT.1
  rw [hf] at q
  refine q.to (fun x M2 ⟨e1, e2⟩ => ⟨e1, _, e2, ?_, ?_⟩)
  · obtain ⟨r1, r2⟩ := shf_stk (k := k) h2 hT.1
    unfold ptI
    refine ⟨?_, ?_, ?_, ?_, ?_, ?_, h7, ?_, ?_⟩
    · rw [up1_ne (by omega), up1_eq, up1_eq, r2]; rfl
    · rw [up1_eq]; exact r1
    · intro i hi
      rw [up1_ne (by omega), up1_ne (by omega), up1_eq]
      show up1 (mI M (a + 2)) _ _ i = nI (cos1 (tCo s) _ c i)
      unfold cos1
      by_cases hp : i = posL (tSt s) k
      · rw [hp, up1_eq, up1_eq, h3 _ (by have := hT.1; omega), nI_add]
      · rw [up1_ne hp, up1_ne hp, h3 i hi]
    · rw [up1_ne (by omega), up1_eq, up1_ne (by omega)]; exact h4
    · rw [up1_ne (by omega), up1_ne (by omega), up1_ne (by omega)]; exact h5
    · rw [up1_ne (by omega), up1_eq, up1_ne (by omega)]; exact h6
    · rw [up1_ne (by omega), up1_eq, up1_ne (by omega)]; exact h8
    · rw [up1_ne (by omega), up1_ne (by omega), up1_ne (by omega)]; exact h9
  · intro x hx
    exact ⟨by unfold ptI; rw [up1_ne (by omega), up1_ne (by omega), up1_ne (by omega)], rfl⟩
theorem c_noteT {s : TS} {k : Nat} (hA : TeAt (mT M) (mR M) a) (hs : TeHas (mI M) (mJ M) a s) (hT : TOK s) : Cv g Y_Te_noteRead 1 [.ref a, .int (nI k)] M (fun M2 => ∃ I2, M2 = mk2 M I2 (mJ M) ∧ TeHas I2 (mJ M) a (note1 s k) ∧ Frm a (a + 6) (mI M) (mJ M) I2 (mJ M)) := by
  obtain ⟨h1, h2, h3, h4, h5, h6, h7, h8, h9⟩ := hs
  refine (c_noteRead (g := g) (key := nI k) hA h8 hT.2.2.1).to (fun M2 e2 => ⟨_, e2, ?_, ?_⟩)
  · refine ⟨?_, ?_, ?_, ?_, ?_, ?_, h7, ?_, ?_⟩
    · rw [up1_ne (by omega), up1_eq, up1_ne (by omega)]; exact h1
    · rw [up1_ne (by omega), up1_ne (by omega)]; exact h2
    · rw [up1_ne (by omega), up1_ne (by omega)]; exact h3
    · rw [up1_ne (by omega), up1_eq, up1_ne (by omega)]; exact h4
    · rw [up1_ne (by omega), up1_ne (by omega)]; exact h5
    · rw [up1_ne (by omega), up1_eq, up1_ne (by omega)]; exact h6
    · rw [up1_ne (by omega), up1_eq, up1_eq]; exact congrArg nI (rec1_len hT.2.2.1).1.symm
    · rw [up1_eq]; exact rcd_rec h9 hT.2.2.1
  · intro x hx
    exact ⟨by rw [up1_ne (by omega), up1_ne (by omega)], rfl⟩
theorem c_samT {s : TS} {k c salt : Nat} (hA : TeAt (mT M) (mR M) a) (hs : TeHas (mI M) (mJ M) a s) (hT : TOK s) (hk : k < 1000) (hsl : salt < 1000) : Cv g Y_Te_takeSample 2 [.ref a, .int (nI k), .int (nI c), .int (nI salt)] M (fun M2 => ∃ I2 J2, M2 = mk2 M I2 J2 ∧ TeHas I2 J2 a (samT s k c salt) ∧ Frm a (a + 6) (mI M) (mJ M) I2 J2) := by
  have hs0 := hs
  obtain ⟨h1, h2, h3, h4, h5, h6, h7, h8, h9⟩ := hs
  refine (c_takeSample (g := g) (cost := nI c) hA h4 hT.2.1 (Row0 h5) hT.2.2.2.2.2.1 h6 hT.2.2.2.1 hk hsl).to (fun M2 e => ?_)
  unfold samT
  rcases e with ⟨hn, e⟩ | ⟨hy, f3, e3, e⟩
  · rw [if_neg hn]
    exact ⟨mI M, mJ M, e, hs0, fun x hx => ⟨rfl, rfl⟩⟩
  · rw [if_pos hy]
    refine ⟨_, _, e, ⟨?_, ?_, ?_, ?_, ?_, ?_, ?_, ?_, ?_⟩, ?_⟩
    · rw [up1_ne (by omega), up1_eq, up1_ne (by omega), up1_ne (by omega)]; exact h1
    · rw [up1_ne (by omega), up1_ne (by omega)]; exact h2
    · rw [up1_ne (by omega), up1_ne (by omega)]; exact h3
    · rw [up1_ne (by omega), up1_eq, up1_eq]
    · rw [up1_eq]
      intro i hi
      rw [Nat.zero_add]
      exact e3 i hi
    · rw [up1_ne (by omega), up1_eq, up1_ne (by omega), up1_eq]
    · intro i hi
      rw [up1_eq]
      have hx : ptX (posL (tSa s) k) (tLi s) < 25 := by
        unfold ptX
        by_cases hq : 24 < posL (tSa s) k * 1000 / tLi s
        · rw [if_pos hq]; omega
        · rw [if_neg hq]; omega
      show up1 (mJ M (a + 4)) _ _ i = up1 (tPa s) _ _ i
      by_cases hp : i = ptX (posL (tSa s) k) (tLi s)
      · rw [hp, up1_eq, up1_eq, h7 _ hx]
      · rw [up1_ne hp, up1_ne hp, h7 i hi]
    · rw [up1_ne (by omega), up1_eq, up1_ne (by omega), up1_ne (by omega)]; exact h8
    · rw [up1_ne (by omega), up1_ne (by omega)]; exact h9
    · intro x hx
      exact ⟨by rw [up1_ne (by omega), up1_ne (by omega)], by rw [up1_ne (by omega)]⟩
theorem rmv_row {f : Nat → Int32} {L : List Nat} {p : Nat} (h : RowI f 0 L) (hp : 1 ≤ p) (hpn : p ≤ L.length) : RowI (rmv f (p - 1) L.length) 0 (L.eraseIdx (p - 1)) := by
  have hl := eraseIdx_len (L := L) (p := p - 1) (by omega)
  intro i hi
  rw [hl] at hi
  rw [Nat.zero_add, getD_eraseIdx]
  unfold rmv
  by_cases hq : i < p - 1
  · rw [if_pos hq, if_neg (by omega), Row0 h i (by omega)]
  · rw [if_neg hq, if_pos (by omega), Row0 h (i + 1) (by omega)]
theorem c_drT {s : TS} {k : Nat} (hA : TeAt (mT M) (mR M) a) (hs : TeHas (mI M) (mJ M) a s) (hT : TOK s) : Ci g Y_Te_removeKey 1 [.ref a, .int (nI k)] M (fun x M2 => x = nI (posL (tSt s) k) ∧ ∃ I2, M2 = mk2 M I2 (mJ M) ∧ TeHas I2 (mJ M) a (drT s k) ∧ Frm a (a + 6) (mI M) (mJ M) I2 (mJ M)) := by
  have hs0 := hs
  obtain ⟨h1, h2, h3, h4, h5, h6, h7, h8, h9⟩ := hs
  have hf := Row0.fnd (k := k) h2
  have hf2 := Row0.fnd (k := k) h5
  have hpl := posL_le (L := tSt s) (k := k)
  have hpl2 := posL_le (L := tSa s) (k := k)
  have q := c_removeKey (g := g) (key := nI k) hA h1 hT.1 h4 (by have := hT.2.1; omega)
  rw [hf, hf2] at q
  refine q.to (fun x M2 ⟨e1, e2⟩ => ⟨e1, _, e2, ?_, ?_⟩)
  · unfold drT
    by_cases h0 : posL (tSt s) k = 0
    · rw [if_pos h0, if_pos h0]; exact hs0
    · rw [if_neg h0, if_neg h0]
      unfold rmI
      refine ⟨?_, ?_, ?_, ?_, ?_, ?_, h7, ?_, ?_⟩
      · rw [up1_ne (by omega), up1_ne (by omega), up1_eq, up1_ne (by omega), up1_eq]
        refine congrArg nI ?_
        show _ = (rmL (tSt s) (posL (tSt s) k)).length
        unfold rmL
        rw [if_neg h0, eraseIdx_len (by omega)]
      · rw [up1_ne (by omega), up1_eq]
        show RowI _ 0 (rmL (tSt s) (posL (tSt s) k))
        unfold rmL
        rw [if_neg h0]
        exact rmv_row h2 (by omega) hpl
      · rw [up1_ne (by omega), up1_ne (by omega), up1_ne (by omega)]; exact h3
      · rw [up1_ne (by omega), up1_ne (by omega), up1_eq, up1_eq]
        refine congrArg nI ?_
        show mq _ _ = (rmL (tSa s) (posL (tSa s) k)).length
        unfold rmL mq
        by_cases h00 : posL (tSa s) k = 0
        · rw [if_pos h00, if_pos h00]
        · rw [if_neg h00, if_neg h00, eraseIdx_len (by omega)]
      · rw [up1_eq]
        show RowI _ 0 (rmL (tSa s) (posL (tSa s) k))
        unfold rmL smq
        by_cases h00 : posL (tSa s) k = 0
        · rw [if_pos h00, if_pos h00]; exact h5
        · rw [if_neg h00, if_neg h00]
          exact rmv_row h5 (by omega) hpl2
      · rw [up1_ne (by omega), up1_ne (by omega), up1_eq, up1_ne (by omega), up1_ne (by omega)]; exact h6
      · rw [up1_ne (by omega), up1_ne (by omega), up1_eq, up1_ne (by omega), up1_ne (by omega)]; exact h8
      · rw [up1_ne (by omega), up1_ne (by omega), up1_ne (by omega)]; exact h9
  · intro x hx
    by_cases h0 : posL (tSt s) k = 0
    · rw [if_pos h0]; exact ⟨rfl, rfl⟩
    · rw [if_neg h0]
      exact ⟨by unfold rmI; rw [up1_ne (by omega), up1_ne (by omega), up1_ne (by omega)], rfl⟩
end CTF
abbrev WS : Type := Nat × (Nat → TS)
def setT (ws : WS) (t : Nat) (s : TS) : WS := (ws.1, fun i => if i = t then s else ws.2 i)
def WoHas (I : Nat → Nat → Int32) (J : Nat → Nat → Int64) (w : Nat) (ws : WS) : Prop := I w 1 = nI ws.1 ∧ ∀ t, t < 4 → TeHas I J (w + 2 + 6 * t) (ws.2 t)
def MwHas (K : Nat → Int32) (P : Nat → Int64) (b pb : Nat) (ws : WS) : Prop := K (b + 368) = nI ws.1 ∧ ∀ t, t < 4 → MoHas K P (b + 92 * t) (pb + 25 * t) (ws.2 t)
def WOK (ws : WS) : Prop := ws.1 ≤ 999 ∧ ∀ t, t < 4 → TOK (ws.2 t)
/-- the world's cells alone were changed -/
theorem WoHas.kept {I I2 : Nat → Nat → Int32} {J J2 : Nat → Nat → Int64} {w : Nat} {ws : WS} (h : WoHas I J w ws) (hk : ∀ x, w ≤ x → x < w + 26 → I2 x = I x ∧ J2 x = J x) : WoHas I2 J2 w ws := ⟨by rw [(hk w (by omega) (by omega)).1]; exact h.1, fun t ht => (h.2 t ht).kept (fun x h1 h2 => hk x (by omega) (by omega))⟩
theorem WoHas.set {I I2 : Nat → Nat → Int32} {J J2 : Nat → Nat → Int64} {w t : Nat} {ws : WS} {s : TS} (h : WoHas I J w ws) (hs : TeHas I2 J2 (w + 2 + 6 * t) s) (hf : Frm (w + 2 + 6 * t) (w + 2 + 6 * t + 6) I J I2 J2) : WoHas I2 J2 w (setT ws t s) := by
  refine ⟨by rw [(hf w (by omega)).1]; exact h.1, fun i hi => ?_⟩
  show TeHas I2 J2 (w + 2 + 6 * i) (if i = t then s else ws.2 i)
  by_cases hit : i = t
  · subst hit; rw [if_pos rfl]; exact hs
  · rw [if_neg hit]
    exact (h.2 i hi).kept (fun x h1 h2 => hf x (by omega))
theorem WOK.set {ws : WS} {t : Nat} {s : TS} (h : WOK ws) (hs : TOK s) : WOK (setT ws t s) := by
  refine ⟨h.1, fun i hi => ?_⟩
  show TOK (if i = t then s else ws.2 i)
  by_cases hit : i = t
  · rw [if_pos hit]; exact hs
  · rw [if_neg hit]; exact h.2 i hi

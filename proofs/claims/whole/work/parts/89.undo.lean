/-! ===== what can be undone, as a row of worlds ===== -/
theorem TeSame.has {I I2 : Nat → Nat → Int32} {J J2 : Nat → Nat → Int64} {a b : Nat} {s : TS} (h : TeSame I J a I2 J2 b) (hs : TeHas I J a s) (hT : TOK s) : TeHas I2 J2 b s := by
  obtain ⟨e1, e4, e5, e8, r1, r2, r3, r4, r5⟩ := h
  obtain ⟨h1, h2, h3, h4, h5, h6, h7, h8, h9⟩ := hs
  obtain ⟨t1, t2, t3, -⟩ := hT
  refine ⟨e1.trans h1, fun i hi => ?_, fun i hi => (r2 i hi).trans (h3 i hi), e4.trans h4, fun i hi => ?_, e5.trans h6, fun i hi => (r4 i hi).trans (h7 i hi), e8.trans h8, fun i hi => ?_⟩
  · rw [Nat.zero_add, r1 i (by omega)]; exact Row0 h2 i hi
  · rw [Nat.zero_add, r3 i (by omega)]; exact Row0 h5 i hi
  · rw [Nat.zero_add, r5 i (by omega)]; exact Row0 h9 i hi
theorem WoSame.has {I I2 : Nat → Nat → Int32} {J J2 : Nat → Nat → Int64} {v w : Nat} {ws : WS} (h : WoSame I J v I2 J2 w) (hs : WoHas I J v ws) (hT : WOK ws) : WoHas I2 J2 w ws := ⟨h.1.trans hs.1, fun t ht => (h.2 t ht).has (hs.2 t ht) (hT.2 t ht)⟩
abbrev UF : Type := Nat → Nat × WS
def psU (n : Nat) (u : UF) (x : Nat × WS) : UF := if n < 16 then up1 u n x else up1 (fun i => u (i + 1)) 15 x
/-- each is well formed, its costs bounded -/
def UOK (n : Nat) (u : UF) (B : Nat) : Prop := n ≤ 16 ∧ ∀ i, i < n → (u i).1 < 4 ∧ WOK (u i).2 ∧ tot (u i).2 ≤ B
theorem nsz_le (n : Nat) (h : n ≤ 16) : nsz n ≤ 16 := by
  unfold nsz
  by_cases hn : n < 16
  · rw [if_pos hn]; omega
  · rw [if_neg hn]; omega
theorem psU_last {n : Nat} {u : UF} {x : Nat × WS} (h : n ≤ 16) : psU n u x (nsz n - 1) = x := by
  unfold psU nsz
  by_cases hn : n < 16
  · rw [if_pos hn, if_pos hn, show n + 1 - 1 = n by omega, up1_eq]
  · rw [if_neg hn, if_neg hn, show n - 1 = 15 by omega, up1_eq]
theorem psU_old {n : Nat} {u : UF} {x : Nat × WS} {i : Nat} (h : n ≤ 16) (hi : i < nsz n - 1) : psU n u x i = u (if n < 16 then i else i + 1) ∧ (if n < 16 then i else i + 1) < n := by
  unfold psU
  unfold nsz at hi
  by_cases hn : n < 16
  · rw [if_pos hn] at hi ⊢
    rw [if_pos hn, up1_ne (by omega)]; exact ⟨rfl, by omega⟩
  · rw [if_neg hn] at hi ⊢
    rw [if_neg hn, up1_ne (by omega)]; exact ⟨rfl, by omega⟩
theorem UOK.push {n : Nat} {u : UF} {B : Nat} {k : Nat} {ws : WS} (h : UOK n u B) (hk : k < 4) (hT : WOK ws) (hB : tot ws ≤ B) : UOK (nsz n) (psU n u (k, ws)) B := by
  refine ⟨nsz_le n h.1, fun i hi => ?_⟩
  by_cases hl : i = nsz n - 1
  · subst hl; rw [psU_last h.1]; exact ⟨hk, hT, hB⟩
  · obtain ⟨e1, e2⟩ := psU_old (u := u) (x := (k, ws)) h.1 (i := i) (by omega)
    rw [e1]; exact h.2 _ e2
def TrHas (I : Nat → Nat → Int32) (J : Nat → Nat → Int64) (a : Nat) (wf : Nat → Nat) (f n : Nat) (u : UF) : Prop := I a 2 = nI f ∧ f < 16 ∧ I a 3 = nI n ∧ n ≤ 16 ∧ ∀ i, i < n → I (a + 2) ((f + i) % 16) = nI (u i).1 ∧ WoHas I J (wf ((f + i) % 16)) (u i).2
theorem nfi_lt (f n : Nat) (h : f < 16) : nfi f n < 16 := by
  unfold nfi
  by_cases hn : n < 16
  · rw [if_pos hn]; exact h
  · rw [if_neg hn]; exact Nat.mod_lt _ (by decide)
theorem nsl_old {f n i : Nat} (hf : f < 16) (hn : n ≤ 16) (hi : i < nsz n - 1) : (nfi f n + i) % 16 = (f + (if n < 16 then i else i + 1)) % 16 ∧ (nfi f n + i) % 16 ≠ nsl f n := by
  unfold nsl nfi
  unfold nsz at hi ⊢
  by_cases h : n < 16
  · rw [if_pos h] at hi
    rw [if_pos h, if_pos h, if_pos h]
    exact ⟨rfl, by omega⟩
  · rw [if_neg h] at hi
    rw [if_neg h, if_neg h, if_neg h]
    constructor <;> omega
section CUN
variable {g : Gl} {M : Mem} {a : Nat} {wf : Nat → Nat}
theorem c_pushT {f n v k : Nat} {u : UF} {ws : WS} (hA : TrAt (mT M) (mR M) a wf) (hU : TrHas (mI M) (mJ M) a wf f n u) (hV : WoAt (mT M) (mR M) v) (hs : WoHas (mI M) (mJ M) v ws) (hT : WOK ws) (hd : ∀ s, s < 16 → v + 26 ≤ wf s ∨ wf s + 26 ≤ v) (hda : a + 3 ≤ v ∨ v + 26 ≤ a) (hdb : ∀ s, s < 16 → a + 3 ≤ wf s ∨ wf s + 26 ≤ a) (hdi : ∀ s r, s < 16 → r < 16 → s ≠ r → wf s + 26 ≤ wf r ∨ wf r + 26 ≤ wf s) :
    Cv g Y_Tr_push 3 [.ref a, .int (nI k), .ref v] M (fun M2 => ∃ I2 J2, M2 = mk2 M I2 J2 ∧ TrHas I2 J2 a wf (nfi f n) (nsz n) (psU n u (k, ws)) ∧ ∀ x, (x < a ∨ a + 3 ≤ x) → (∀ s, s < 16 → x < wf s ∨ wf s + 26 ≤ x) → I2 x = mI M x ∧ J2 x = mJ M x) := by
  obtain ⟨u1, u2, u3, u4, u5⟩ := hU
  have hsl := nsl_lt f n
  refine (c_push (g := g) (kind := nI k) hA u1 u2 u3 u4 hV (hd _ hsl) hda).to (fun M2 e => ?_)
  obtain ⟨I2, J2, e1, e2, e3⟩ := e
  have hb := hdb _ hsl
  have e2a : ∀ y, I2 a y = up2 (up2 (up2 (mI M) a 2 (nI (nfi f n))) a 3 (nI (nsz n))) (a + 2) (nsl f n) (nI k) a y := fun y => by rw [(e3 a (by omega)).1]
  have e2b : ∀ y, I2 (a + 2) y = up2 (up2 (up2 (mI M) a 2 (nI (nfi f n))) a 3 (nI (nsz n))) (a + 2) (nsl f n) (nI k) (a + 2) y := fun y => by rw [(e3 (a + 2) (by omega)).1]
  refine ⟨I2, J2, e1, ⟨?_, nfi_lt f n u2, ?_, nsz_le n u4, fun i hi => ?_⟩, fun x hx1 hx2 => ?_⟩
  · rw [e2a]; simp [up2]
  · rw [e2a]; simp [up2]
  · by_cases hl : i = nsz n - 1
    · have hp : (nfi f n + i) % 16 = nsl f n := by
        rw [hl]; unfold nsl
        congr 1
        unfold nsz at hi ⊢
        by_cases h : n < 16
        · rw [if_pos h]; omega
        · rw [if_neg h] at hi ⊢; omega
      rw [hp, hl, psU_last u4, e2b]
      refine ⟨by simp [up2], e2.has hs hT⟩
    · obtain ⟨q1, q2⟩ := psU_old (u := u) (x := (k, ws)) u4 (i := i) (by omega)
      obtain ⟨q3, q4⟩ := nsl_old (f := f) (n := n) (i := i) u2 u4 (by omega)
      have h16 : (nfi f n + i) % 16 < 16 := Nat.mod_lt _ (by decide)
      obtain ⟨q5, q6⟩ := u5 _ q2
      rw [q1, q3, e2b]
      rw [q3] at q4 h16
      refine ⟨?_, q6.kept (fun x hx1 hx2 => ?_)⟩
      · unfold up2
        rw [if_neg (fun q => q4 q.2), if_neg (by omega), if_neg (by omega)]
        exact q5
      · have hz := hdi _ _ h16 hsl q4
        have hz2 := hdb _ h16
        rw [(e3 x (by omega)).1, (e3 x (by omega)).2]
        exact ⟨by rw [up2_up1, up1_ne (by omega), up2_up1, up1_ne (by omega), up2_up1, up1_ne (by omega)], rfl⟩
  · have hz := hx2 _ hsl
    rw [(e3 x (by omega)).1, (e3 x (by omega)).2]
    exact ⟨by rw [up2_up1, up1_ne (by omega), up2_up1, up1_ne (by omega), up2_up1, up1_ne (by omega)], rfl⟩
theorem c_popT {f n v : Nat} {u : UF} (hA : TrAt (mT M) (mR M) a wf) (hU : TrHas (mI M) (mJ M) a wf f n u) (hO : ∀ i, i < n → WOK (u i).2) (hV : WoAt (mT M) (mR M) v) (hd : ∀ s, s < 16 → v + 26 ≤ wf s ∨ wf s + 26 ≤ v) (hda : a + 3 ≤ v ∨ v + 26 ≤ a) (hdb : ∀ s, s < 16 → a + 3 ≤ wf s ∨ wf s + 26 ≤ a) :
    Ci g Y_Tr_popInto 3 [.ref a, .ref v] M (fun x M2 => (n = 0 ∧ x = -1 ∧ M2 = M) ∨ (¬ n = 0 ∧ x = nI (u (n - 1)).1 ∧ ∃ I2 J2, M2 = mk2 M I2 J2 ∧ WoHas I2 J2 v (u (n - 1)).2 ∧ TrHas I2 J2 a wf f (n - 1) u ∧ ∀ x, x ≠ a → x < v ∨ v + 26 ≤ x → I2 x = mI M x ∧ J2 x = mJ M x)) := by
  obtain ⟨u1, u2, u3, u4, u5⟩ := hU
  refine (c_popInto (g := g) hA u1 u2 u3 u4 hV hd hda hdb).to (fun x M2 e => ?_)
  rcases e with e | ⟨h0, h1, I2, J2, h2, h3, h4⟩
  · exact Or.inl e
  · obtain ⟨q1, q2⟩ := u5 (n - 1) (by omega)
    have hfr : ∀ x, x ≠ a → x < v ∨ v + 26 ≤ x → I2 x = mI M x ∧ J2 x = mJ M x := fun x hx1 hx2 => by
      rw [(h4 x hx2).1, (h4 x hx2).2]
      exact ⟨by rw [up2_up1, up1_ne hx1], rfl⟩
    refine Or.inr ⟨h0, h1.trans q1, I2, J2, h2, h3.has q2 (hO _ (by omega)), ⟨?_, u2, ?_, by omega, fun i hi => ?_⟩, hfr⟩
    · rw [(h4 a (by omega)).1]; unfold up2; rw [if_neg (by omega)]; exact u1
    · rw [(h4 a (by omega)).1]; unfold up2; rw [if_pos ⟨rfl, rfl⟩]
    · obtain ⟨q3, q4⟩ := u5 i (by omega)
      have h16 : (f + i) % 16 < 16 := Nat.mod_lt _ (by decide)
      have hz := hd _ h16
      have hz2 := hdb _ h16
      refine ⟨by rw [(hfr (a + 2) (by omega) (by omega)).1]; exact q3, q4.kept (fun x hx1 hx2 => hfr x (by omega) (by omega))⟩
end CUN
/-- the model's rows of what can be undone -/
def MuHas (U : Nat → Int32) (UP : Nat → Int64) (n : Nat) (u : UF) : Prop := ∀ i, i < n → MwHas U UP (370 * i) (100 * i) (u i).2 ∧ U (370 * i + 369) = nI (u i).1
abbrev ubM (M : Mem) (o : Nat) (U : Nat → Int32) (UP : Nat → Int64) : Mem := mk2 M (up1 (mI M) (o + 16) U) (up1 (mJ M) (o + 17) UP)
theorem MwHas.move {K K2 : Nat → Int32} {P P2 : Nat → Int64} {b pb b2 pb2 : Nat} {ws : WS} (h : MwHas K P b pb ws) (hT : WOK ws) (hK : ∀ x, x < 369 → K2 (b2 + x) = K (b + x)) (hP : ∀ x, x < 100 → P2 (pb2 + x) = P (pb + x)) : MwHas K2 P2 b2 pb2 ws := by
  refine ⟨by rw [hK 368 (by omega)]; exact h.1, fun t ht => ?_⟩
  obtain ⟨h1, h2, h3, h4, h5, h6⟩ := h.2 t ht
  obtain ⟨t1, t2, t3, -⟩ := hT.2 t ht
  have hk : ∀ y, y < 92 → K2 (b2 + 92 * t + y) = K (b + 92 * t + y) := fun y hy => by
    rw [Nat.add_assoc, hK _ (by omega), Nat.add_assoc]
  refine ⟨⟨?_, fun i hi => ?_⟩, fun i hi => ?_, ⟨?_, fun i hi => ?_⟩, ?_, fun i hi => ?_, ⟨?_, fun i hi => ?_⟩⟩
  · rw [← Nat.add_zero (b2 + 92 * t), hk 0 (by omega)]; exact h1.1
  · rw [Nat.add_assoc, hk _ (by omega), ← Nat.add_assoc]; exact h1.2 i hi
  · rw [Nat.add_assoc, hk _ (by omega), ← Nat.add_assoc]; exact h2 i hi
  · rw [hk _ (by omega)]; exact h3.1
  · rw [show b2 + 92 * t + 50 + 1 + i = b2 + 92 * t + (51 + i) by omega, hk _ (by omega), show b + 92 * t + (51 + i) = b + 92 * t + 50 + 1 + i by omega]; exact h3.2 i hi
  · rw [hk _ (by omega)]; exact h4
  · rw [Nat.add_assoc, hP _ (by omega), ← Nat.add_assoc]; exact h5 i hi
  · rw [hk _ (by omega)]; exact h6.1
  · rw [show b2 + 92 * t + 59 + 1 + i = b2 + 92 * t + (60 + i) by omega, hk _ (by omega), show b + 92 * t + (60 + i) = b + 92 * t + 59 + 1 + i by omega]; exact h6.2 i hi
section MUN
variable {g : Gl} {M : Mem} {o : Nat} {K A F U : Nat → Int32} {P UP : Nat → Int64}
theorem ub_16 : mI (wkM (ubM M o U UP) o K P A F) (o + 16) = U := by
  rw [wk_x (by omega) (by omega) (by omega)]; exact up1_eq
theorem ub_17 : mJ (wkM (ubM M o U UP) o K P A F) (o + 17) = UP := by
  show up1 (up1 (mJ M) (o + 17) UP) (o + 3) P (o + 17) = UP
  rw [up1_ne (by omega), up1_eq]
theorem mk2_ext {M : Mem} {I I2 : Nat → Nat → Int32} {J J2 : Nat → Nat → Int64} (h1 : I = I2) (h2 : J = J2) : mk2 M I J = mk2 M I2 J2 := by rw [h1, h2]
/-- any memory with these rows changed -/
theorem ub_mk {U2 F2 : Nat → Int32} {UP2 : Nat → Int64} : mk2 (wkM (ubM M o U UP) o K P A F) (up1 (up1 (mI (wkM (ubM M o U UP) o K P A F)) (o + 16) U2) o F2) (up1 (mJ (wkM (ubM M o U UP) o K P A F)) (o + 17) UP2) = wkM (ubM M o U2 UP2) o K P A F2 := by
  have e1 : up1 (up1 (up1 (up1 (up1 (up1 (mI M) (o + 16) U) (o + 2) K) (o + 15) A) o F) (o + 16) U2) o F2 = up1 (up1 (up1 (up1 (mI M) (o + 16) U2) (o + 2) K) (o + 15) A) o F2 := by
    rw [up1_comm _ (by omega : o ≠ o + 16), up1_comm _ (by omega : o + 15 ≠ o + 16), up1_comm _ (by omega : o + 2 ≠ o + 16), up1_up1, up1_up1]
  have e2 : up1 (up1 (up1 (mJ M) (o + 17) UP) (o + 3) P) (o + 17) UP2 = up1 (up1 (mJ M) (o + 17) UP2) (o + 3) P := by
    rw [up1_comm _ (by omega : o + 3 ≠ o + 17), up1_up1]
  show mk2 M (up1 (up1 (up1 (up1 (up1 (up1 (mI M) (o + 16) U) (o + 2) K) (o + 15) A) o F) (o + 16) U2) o F2) (up1 (up1 (up1 (mJ M) (o + 17) UP) (o + 3) P) (o + 17) UP2) = _
  rw [e1, e2]
theorem kpB_eq {u : Nat} {w : Int32} : kpB (wkM (ubM M o U UP) o K P A F) o u w = wkM (ubM M o (up1 (cpL U K (370 * u) 0 369) (370 * u + 369) w) (cpL UP P (100 * u) 0 100)) o K P A (up1 F 36 (nI (u + 1))) := by
  refine Eq.trans ?_ (ub_mk (U := U) (UP := UP) (F := F))
  refine mk2_ext (M := wkM (ubM M o U UP) o K P A F) ?_ ?_
  · show up2 (up2 (up1 (mI (wkM (ubM M o U UP) o K P A F)) (o + 16) (cpL (mI (wkM (ubM M o U UP) o K P A F) (o + 16)) (mI (wkM (ubM M o U UP) o K P A F) (o + 2)) (370 * u) 0 369)) (o + 16) (370 * u + 369) w) o 36 (nI (u + 1)) = _
    rw [ub_16, wk_2, up2_up1, up2_up1, up1_eq, up1_up1, up1_ne (by omega), wk_o]
  · show up1 (mJ (wkM (ubM M o U UP) o K P A F)) (o + 17) (cpL (mJ (wkM (ubM M o U UP) o K P A F) (o + 17)) (mJ (wkM (ubM M o U UP) o K P A F) (o + 3)) (100 * u) 0 100) = _
    rw [ub_17, wk_J]
theorem kpA_eq : kpA (wkM (ubM M o U UP) o K P A F) o = wkM (ubM M o (cpL U U 0 370 5550) (cpL UP UP 0 100 1500)) o K P A (up1 F 36 (nI 15)) := by
  refine Eq.trans ?_ (ub_mk (U := U) (UP := UP) (F := F))
  refine mk2_ext (M := wkM (ubM M o U UP) o K P A F) ?_ ?_
  · show up2 (up1 (mI (wkM (ubM M o U UP) o K P A F)) (o + 16) (cpL (mI (wkM (ubM M o U UP) o K P A F) (o + 16)) (mI (wkM (ubM M o U UP) o K P A F) (o + 16)) 0 370 5550)) o 36 (nI 15) = _
    rw [ub_16, up2_up1, up1_ne (by omega), wk_o]
  · show up1 (mJ (wkM (ubM M o U UP) o K P A F)) (o + 17) (cpL (mJ (wkM (ubM M o U UP) o K P A F) (o + 17)) (mJ (wkM (ubM M o U UP) o K P A F) (o + 17)) 0 100 1500) = _
    rw [ub_17]
theorem m_keepsT {n k B : Nat} {u : UF} {ws : WS} (hM : MoAt (mT M) (mR M) o) (h36 : F 36 = nI n) (hU : MuHas U UP n u) (hO : UOK n u B) (hs : MwHas K P 0 0 ws) (hT : WOK ws) : Cv g Y_Mo_keeps 0 [.ref o, .int (nI k)] (wkM (ubM M o U UP) o K P A F) (fun M2 => ∃ U2 UP2, M2 = wkM (ubM M o U2 UP2) o K P A (up1 F 36 (nI (nsz n))) ∧ MuHas U2 UP2 (nsz n) (psU n u (k, ws))) := by
  refine (m_keeps (g := g) (M := wkM (ubM M o U UP) o K P A F) (u := n) (w := nI k) hM (by rw [wk_o]; exact h36) hO.1).to (fun M2 e => ?_)
  -- the new row
  have new : ∀ (U0 : Nat → Int32) (UP0 : Nat → Int64) (m : Nat), MwHas (up1 (cpL U0 K (370 * m) 0 369) (370 * m + 369) (nI k)) (cpL UP0 P (100 * m) 0 100) (370 * m) (100 * m) ws := by
    intro U0 UP0 m
    refine hs.move hT (fun x hx => ?_) (fun x hx => ?_)
    · rw [up1_ne (by omega)]
      unfold cpL
      rw [if_pos (by omega)]
      congr 1; omega
    · unfold cpL
      rw [if_pos (by omega)]
      congr 1; omega
  by_cases h16 : n = 16
  · rw [if_pos h16, kpA_eq, kpB_eq, up1_up1] at e
    have hns : nsz n = 16 := by unfold nsz; rw [if_neg (by omega)]; exact h16
    refine ⟨_, _, by rw [hns]; exact e, fun i hi => ?_⟩
    rw [hns] at hi
    by_cases hl : i = 15
    · subst hl
      have hp := psU_last (n := n) (u := u) (x := (k, ws)) hO.1
      rw [hns] at hp
      rw [show psU n u (k, ws) 15 = (k, ws) from hp]
      exact ⟨new _ _ 15, by rw [up1_eq]⟩
    · have hp := (psU_old (u := u) (x := (k, ws)) hO.1 (i := i) (by rw [hns]; omega)).1
      rw [if_neg (by omega)] at hp
      rw [hp]
      obtain ⟨q1, q2⟩ := hU (i + 1) (by omega)
      refine ⟨q1.move (hO.2 (i + 1) (by omega)).2.1 (fun x hx => ?_) (fun x hx => ?_), ?_⟩
      · rw [up1_ne (by omega)]
        unfold cpL
        rw [if_neg (by omega), if_pos (by omega)]
        congr 1; omega
      · unfold cpL
        rw [if_neg (by omega), if_pos (by omega)]
        congr 1; omega
      · rw [up1_ne (by omega)]
        unfold cpL
        rw [if_neg (by omega), if_pos (by omega)]
        exact (congrArg U (by omega)).trans q2
  · rw [if_neg h16, kpB_eq] at e
    have hlt : n < 16 := by have := hO.1; omega
    have hns : nsz n = n + 1 := by unfold nsz; rw [if_pos hlt]
    refine ⟨_, _, by rw [hns]; exact e, fun i hi => ?_⟩
    rw [hns] at hi
    by_cases hl : i = n
    · subst hl
      have hp := psU_last (n := i) (u := u) (x := (k, ws)) hO.1
      rw [hns, show i + 1 - 1 = i by omega] at hp
      rw [hp]
      exact ⟨new _ _ i, by rw [up1_eq]⟩
    · have hp := (psU_old (u := u) (x := (k, ws)) hO.1 (i := i) (by rw [hns]; omega)).1
      rw [if_pos hlt] at hp
      rw [hp]
      obtain ⟨q1, q2⟩ := hU i (by omega)
      refine ⟨q1.move (hO.2 i (by omega)).2.1 (fun x hx => ?_) (fun x hx => ?_), ?_⟩
      · rw [up1_ne (by omega)]
        unfold cpL
        rw [if_neg (by omega)]
      · unfold cpL
        rw [if_neg (by omega)]
      · rw [up1_ne (by omega)]
        unfold cpL
        rw [if_neg (by omega)]
        exact q2
end MUN

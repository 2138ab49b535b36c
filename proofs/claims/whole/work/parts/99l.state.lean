/-! ===== the state of both, as one ===== -/
section STA
/-- a law: its program's rows, how long its code is, how many clauses -/
abbrev LW : Type := (Nat → Nat → Int32) × Nat × Nat
/-- all that images keep: world; policy, losses, mood, salt; what was seen; laws; the one in force -/
abbrev SH : Type := WS × (Nat × Nat × Nat × Nat) × (Nat × (Nat → Nat × Nat)) × (Nat × (Nat → LW)) × Int32
abbrev sWo (s : SH) : WS := s.1
abbrev sPo (s : SH) : Nat := s.2.1.1
abbrev sLo (s : SH) : Nat := s.2.1.2.1
abbrev sMd (s : SH) : Nat := s.2.1.2.2.1
abbrev sSl (s : SH) : Nat := s.2.1.2.2.2
abbrev sSn (s : SH) : Nat := s.2.2.1.1
abbrev sSe (s : SH) : Nat → Nat × Nat := s.2.2.1.2
abbrev sLn (s : SH) : Nat := s.2.2.2.1.1
abbrev sLw (s : SH) : Nat → LW := s.2.2.2.1.2
abbrev sFo (s : SH) : Int32 := s.2.2.2.2
def LqOK (ln : Nat) (q : Int32) : Prop := q = -1 ∨ ∃ t, t < ln ∧ q = nI t
def SHOK (s : SH) (B : Nat) : Prop := WOK (sWo s) ∧ tot (sWo s) ≤ B ∧ sPo s < 5 ∧ sLo s ≤ 10 ∧ sMd s ≤ 9 ∧ sSl s < 1000 ∧ sSn s ≤ 6 ∧ (∀ i, i < sSn s → (sSe s i).1 ≤ 24 ∧ (sSe s i).2 ≤ 99999) ∧ sLn s ≤ 6 ∧ (∀ i, i < sLn s → LawOK (sLw s i).1 (sLw s i).2.1 (sLw s i).2.2 ∧ (sLw s i).2.1 ≤ 1024) ∧ LqOK (sLn s) (sFo s)
/-- what a law tells -/
def resQ (s : SH) (q : Int32) : (Nat → Int32) → Int32 × Int32 := fun V => if q = -1 then (nI 1, nI 0) else wgF (sLw s q.toNatClampNeg).1 (sLw s q.toNatClampNeg).2.1 V (sLw s q.toNatClampNeg).2.2
theorem wgF_P {P P2 : Nat → Nat → Int32} {cl : Nat} {V : Nat → Int32} (h : ∀ k, 1 ≤ k → k ≤ 7 → P k = P2 k) : ∀ n, wgF P cl V n = wgF P2 cl V n
  | 0 => rfl
  | n + 1 => by
    unfold wgF
    rw [wgF_P h n, h 1 (by omega) (by omega), h 3 (by omega) (by omega), h 4 (by omega) (by omega), h 7 (by omega) (by omega)]
theorem LawOK.P {P P2 : Nat → Nat → Int32} {cl nc : Nat} (h : ∀ k, 1 ≤ k → k ≤ 7 → P k = P2 k) (hL : LawOK P cl nc) : LawOK P2 cl nc := by
  unfold LawOK at hL ⊢
  rw [← h 1 (by omega) (by omega), ← h 3 (by omega) (by omega), ← h 4 (by omega) (by omega), ← h 7 (by omega) (by omega)]
  exact hL
/-- a law's program in the class's memory -/
def PgC (T : Nat → Nat × Nat) (R : Nat → Nat → Option Nat) (I : Nat → Nat → Int32) (p : Nat) (w : LW) : Prop := 1056 ≤ p ∧ (∃ cn2, PrAt T R p cn2 ∧ w.2.1 ≤ cn2 ∧ cn2 ≤ 1024) ∧ I p 8 = nI w.2.1 ∧ I p 0 = nI w.2.2 ∧ ∀ k, 1 ≤ k → k ≤ 7 → I (p + k) = w.1 k
def LwT (T : Nat → Nat × Nat) (R : Nat → Nat → Option Nat) (a : Nat) : Prop := ∀ i, i < 6 → R a i = none ∨ ∃ p, R a i = some p ∧ 1056 ≤ p ∧ T p = (4, 0)
def ShC (T : Nat → Nat × Nat) (R : Nat → Nat → Option Nat) (I : Nat → Nat → Int32) (J : Nat → Nat → Int64) (a : Nat) (s : SH) : Prop :=
  WoHas I J (a + 1) (sWo s) ∧ I a 1 = nI (sPo s) ∧ I a 2 = nI (sLo s) ∧ I a 3 = nI (sMd s) ∧ I a 4 = nI (sSl s) ∧ I a 7 = nI (sSn s) ∧ (∀ i, i < sSn s → I (a + 27) i = nI (sSe s i).1 ∧ I (a + 28) i = nI (sSe s i).2) ∧ I a 9 = nI (sLn s) ∧ I a 10 = sFo s ∧ LwT T R (a + 29) ∧ ∀ i, i < sLn s → ∃ p, R (a + 29) i = some p ∧ PgC T R I p (sLw s i)
/-- programs of laws stay as they are -/
def HiK (T : Nat → Nat × Nat) (R : Nat → Nat → Option Nat) (I : Nat → Nat → Int32) (T2 : Nat → Nat × Nat) (R2 : Nat → Nat → Option Nat) (I2 : Nat → Nat → Int32) : Prop := ∀ x, 1056 ≤ x → (T x).1 = 4 ∨ (T x).1 = 20 → T2 x = T x ∧ R2 x = R x ∧ I2 x = I x
variable {T T2 : Nat → Nat × Nat} {R R2 : Nat → Nat → Option Nat} {I I2 : Nat → Nat → Int32} {J J2 : Nat → Nat → Int64}
theorem PgC.kept {p : Nat} {w : LW} (h : PgC T R I p w) (hk : HiK T R I T2 R2 I2) : PgC T2 R2 I2 p w := by
  obtain ⟨h1, ⟨cn2, ⟨p1, p2, p3, p4⟩, h3, h4⟩, h5, h6, h7⟩ := h
  have e0 := hk p h1 (by rw [p1]; exact Or.inl rfl)
  have e7 := hk (p + 7) (by omega) (by rw [p4]; exact Or.inr rfl)
  have ek : ∀ k, 1 ≤ k → k ≤ 6 → T2 (p + k) = T (p + k) ∧ R2 (p + k) = R (p + k) ∧ I2 (p + k) = I (p + k) := fun k q1 q2 => hk (p + k) (by omega) (by rw [p3 k q1 q2]; exact Or.inr rfl)
  refine ⟨h1, ⟨cn2, ⟨by rw [e0.1]; exact p1, fun k q1 q2 => by rw [e0.2.1]; exact p2 k q1 q2, fun k q1 q2 => by rw [(ek k q1 q2).1]; exact p3 k q1 q2, by rw [e7.1]; exact p4⟩, h3, h4⟩, by rw [e0.2.2]; exact h5, by rw [e0.2.2]; exact h6, fun k q1 q2 => ?_⟩
  by_cases q : k = 7
  · subst q; rw [e7.2.2]; exact h7 7 q1 q2
  · rw [(ek k q1 (by omega)).2.2]; exact h7 k q1 q2
theorem LwT.kept {a : Nat} (h : LwT T R a) (hr : R2 a = R a) (hk : HiK T R I T2 R2 I2) : LwT T2 R2 a := by
  intro i hi
  rw [hr]
  rcases h i hi with h | ⟨p, h1, h2, h3⟩
  · exact Or.inl h
  · exact Or.inr ⟨p, h1, h2, by rw [(hk p h2 (by rw [h3]; exact Or.inl rfl)).1]; exact h3⟩
theorem ShC.kept {a : Nat} {s : SH} (h : ShC T R I J a s) (hI : ∀ x, a ≤ x → x < a + 30 → I2 x = I x ∧ J2 x = J x) (hr : R2 (a + 29) = R (a + 29)) (hk : HiK T R I T2 R2 I2) : ShC T2 R2 I2 J2 a s := by
  obtain ⟨h1, h2, h3, h4, h5, h6, h7, h8, h9, h10, h11⟩ := h
  have e0 := (hI a (by omega) (by omega)).1
  refine ⟨h1.kept (fun x q1 q2 => hI x (by omega) (by omega)), by rw [e0]; exact h2, by rw [e0]; exact h3, by rw [e0]; exact h4, by rw [e0]; exact h5, by rw [e0]; exact h6, fun i hi => ?_, by rw [e0]; exact h8, by rw [e0]; exact h9, h10.kept hr hk, fun i hi => ?_⟩
  · rw [(hI (a + 27) (by omega) (by omega)).1, (hI (a + 28) (by omega) (by omega)).1]; exact h7 i hi
  · obtain ⟨p, q1, q2⟩ := h11 i hi
    exact ⟨p, by rw [hr]; exact q1, q2.kept hk⟩
theorem HiK.same (h : ∀ x, 1056 ≤ x → I2 x = I x) : HiK T R I T R I2 := fun x hx _ => ⟨rfl, rfl, h x hx⟩
/-- the law in force, or another one -/
theorem ShC.cl {s : SH} {B : Nat} {q : Int32} (h : ShC T R I J 1 s) (hO : SHOK s B) (hq : LqOK (sLn s) q) : ClL T R I q (resQ s q) := by
  rcases hq with rfl | ⟨t, ht, rfl⟩
  · exact Or.inl ⟨rfl, fun V => if_pos rfl⟩
  · obtain ⟨-, -, -, -, -, -, -, h8, -, -, h11⟩ := h
    obtain ⟨-, -, -, -, -, -, -, -, o9, o10, -⟩ := hO
    obtain ⟨p, r1, r2, r3, r4, r5, r6⟩ := h11 t ht
    have ec := nI_clamp (n := t) (by omega)
    obtain ⟨cn2, r7, r8, r9⟩ := r3
    refine Or.inr ⟨t, sLn s, p, (sLw s t).2.1, (sLw s t).2.2, rfl, ht, o9, h8, r1, ⟨r2, cn2, r7, r8, r9, r4, r5, ?_⟩, fun V => ?_⟩
    · exact LawOK.P (fun k q1 q2 => (r6 k q1 q2).symm) (o10 t ht).1
    · show (if nI t = -1 then _ else _) = _
      rw [if_neg (nI_ne1 (by omega)), ec]
      exact wgF_P (fun k q1 q2 => (r6 k q1 q2).symm) _
theorem ShC.n {s : SH} {B : Nat} (h : ShC T R I J 1 s) (hO : SHOK s B) : ShN T R I (resQ s (sFo s)) (sMd s) (sSl s) := by
  have hc := h.cl hO hO.2.2.2.2.2.2.2.2.2.2
  obtain ⟨-, -, -, h4, h5, -, -, -, h9, -⟩ := h
  refine ⟨h4, h5, hO.2.2.2.2.2.1, ?_⟩
  rw [h9]; exact hc
/-- the same in the model's rows -/
def ShM (K : Nat → Int32) (P : Nat → Int64) (s : SH) : Prop :=
  MwHas K P 0 0 (sWo s) ∧ K 369 = nI (sPo s) ∧ (∀ i, i < sSn s → K (370 + 2 * i) = nI (sSe s i).1 ∧ K (371 + 2 * i) = nI (sSe s i).2) ∧ K 382 = nI (sLo s) ∧ K 383 = nI (sMd s) ∧ K 384 = nI (sSl s) ∧ K 385 = nI (sSn s) ∧ K 386 = nI (sLn s) ∧ K 387 = sFo s ∧ ∀ i, i < sLn s → LawR K i (sLw s i).1 (sLw s i).2.1 (sLw s i).2.2
theorem TlR_of {K : Nat → Int32} {s : SH} {q : Int32} (h : ∀ i, i < sLn s → LawR K i (sLw s i).1 (sLw s i).2.1 (sLw s i).2.2) (h6 : sLn s ≤ 6) (hK : K 387 = q) (hq : LqOK (sLn s) q) : TlR K (resQ s q) := by
  rcases hq with rfl | ⟨t, ht, rfl⟩
  · exact Or.inl ⟨hK, fun V => if_pos rfl⟩
  · refine Or.inr ⟨t, _, _, _, hK, by omega, h t ht, fun V => ?_⟩
    show (if nI t = -1 then _ else _) = _
    rw [if_neg (nI_ne1 (by omega)), nI_clamp (by omega)]
theorem ShM.n {K : Nat → Int32} {P : Nat → Int64} {s : SH} {B : Nat} (h : ShM K P s) (hO : SHOK s B) : MoN K (resQ s (sFo s)) (sMd s) (sSl s) := by
  obtain ⟨-, -, -, -, h5, h6, -, -, h9, h10⟩ := h
  exact ⟨h5, h6, ⟨hO.2.2.2.2.2.1, hO.2.2.2.2.1⟩, TlR_of h10 hO.2.2.2.2.2.2.2.2.1 h9 hO.2.2.2.2.2.2.2.2.2.2⟩
/-- another world, the rest as it was -/
theorem ShM.wo {K K2 : Nat → Int32} {P P2 : Nat → Int64} {s : SH} {w : WS} (h : ShM K P s) (hw : MwHas K2 P2 0 0 w) (h6 : sLn s ≤ 6) (hK : ∀ x, 369 ≤ x → K2 x = K x) : ShM K2 P2 (w, s.2) := by
  obtain ⟨-, h2, h3, h4, h5, h6', h7, h8, h9, h10⟩ := h
  refine ⟨hw, by rw [hK _ (by omega)]; exact h2, fun i hi => by rw [hK _ (by omega), hK _ (by omega)]; exact h3 i hi, by rw [hK _ (by omega)]; exact h4, by rw [hK _ (by omega)]; exact h5, by rw [hK _ (by omega)]; exact h6', by rw [hK _ (by omega)]; exact h7, by rw [hK _ (by omega)]; exact h8, by rw [hK _ (by omega)]; exact h9, fun i hi => (h10 i hi).kept (show i < 7 from Nat.lt_of_lt_of_le hi (Nat.le_trans h6 (by omega))) (fun x q => hK x (by omega)) rfl⟩
theorem ShC.wo {a : Nat} {s : SH} {w : WS} (h : ShC T R I J a s) (hw : WoHas I2 J2 (a + 1) w) (h0 : I2 a = I a ∧ I2 (a + 27) = I (a + 27) ∧ I2 (a + 28) = I (a + 28)) (hr : R2 (a + 29) = R (a + 29)) (hk : HiK T R I T2 R2 I2) : ShC T2 R2 I2 J2 a (w, s.2) := by
  obtain ⟨h1, h2, h3, h4, h5, h6, h7, h8, h9, h10, h11⟩ := h
  obtain ⟨e0, e1, e2⟩ := h0
  refine ⟨hw, by rw [e0]; exact h2, by rw [e0]; exact h3, by rw [e0]; exact h4, by rw [e0]; exact h5, by rw [e0]; exact h6, fun i hi => ?_, by rw [e0]; exact h8, by rw [e0]; exact h9, h10.kept hr hk, fun i hi => ?_⟩
  · rw [e1, e2]; exact h7 i hi
  · obtain ⟨p, q1, q2⟩ := h11 i hi
    exact ⟨p, by rw [hr]; exact q1, q2.kept hk⟩
theorem SHOK.wo {s : SH} {B : Nat} {w : WS} (h : SHOK s B) (hw : WOK w) {B2 : Nat} (hB : tot w ≤ B2) : SHOK (w, s.2) B2 := ⟨hw, hB, h.2.2⟩
theorem SHOK.le {s : SH} {B B2 : Nat} (h : SHOK s B) (hB : B ≤ B2) : SHOK s B2 := ⟨h.1, Nat.le_trans h.2.1 hB, h.2.2⟩
end STA

/-! ===== both at the start ===== -/
section STT
theorem moS3_sl (f f2 : Nat → Int32) : slN (moS3 f) = slN (moS3 f2) := by
  unfold moS3
  rw [slN_a, slN_a]; rfl
theorem moS4_sl (f f2 : Nat → Int32) : slN (moS4 f) = slN (moS4 f2) := by
  unfold moS4
  simp only [slN_a]
  rw [moS3_sl f f2]
theorem moS5_sl (f f2 : Nat → Int32) : slN (moS5 f) = slN (moS5 f2) := by
  unfold moS5
  simp only [slN_a]
  rw [moS4_sl f f2]
theorem moS6_sl (f f2 : Nat → Int32) : slN (moS6 f) = slN (moS6 f2) := by
  unfold moS6
  simp only [slN_a]
  rw [moS5_sl f f2]
theorem moS7_sl (f f2 : Nat → Int32) : slN (moS7 f) = slN (moS7 f2) := by
  unfold moS7
  simp only [slN_a]
  rw [moS6_sl f f2]
theorem moS8_sl (f f2 : Nat → Int32) : slN (moS8 f) = slN (moS8 f2) := by
  unfold moS8
  simp only [slN_a]
  rw [moS7_sl f f2]
def InL (X : List Cel) (b : Nat) (C : List Cel) : Prop := ∀ i, i < C.length → X.getD (b + i) cD = C.getD i cD
section
variable {X C C1 C2 : List Cel} {c : Cel} {b : Nat}
theorem InL.l (h : InL X b (C1 ++ C2)) : InL X b C1 := fun i hi => by
  rw [h i (by rw [List.length_append]; omega), List.getD_eq_getElem?_getD, List.getD_eq_getElem?_getD, List.getElem?_append_left hi]
theorem InL.r {n : Nat} (h : InL X b (C1 ++ C2)) (hn : C1.length = n) : InL X (b + n) C2 := fun i hi => by
  subst hn
  rw [Nat.add_assoc, h (C1.length + i) (by rw [List.length_append]; omega), List.getD_eq_getElem?_getD, List.getD_eq_getElem?_getD, List.getElem?_append_right (Nat.le_add_right _ _), Nat.add_sub_cancel_left]
theorem InL.h (h : InL X b (c :: C)) : X.getD b cD = c := h 0 (by rw [List.length_cons]; omega)
theorem InL.t (h : InL X b (c :: C)) : InL X (b + 1) C := fun i hi => by
  have := h (i + 1) (by rw [List.length_cons]; omega)
  rw [show b + 1 + i = b + (i + 1) by omega, this]; rfl
theorem InL.T (h : X.getD b cD = c) : mT (ofL X) b = c.1 := congrArg (fun c => c.1) h
theorem InL.I (h : X.getD b cD = c) : mI (ofL X) b = c.2.2.1 := congrArg (fun c => c.2.2.1) h
theorem InL.J (h : X.getD b cD = c) : mJ (ofL X) b = c.2.2.2.1 := congrArg (fun c => c.2.2.2.1) h
theorem InL.R (h : X.getD b cD = c) : mR (ofL X) b = c.2.2.2.2 := congrArg (fun c => c.2.2.2.2) h
end
def te0 : TS := ([], fun _ => 0, [], 1000, fun _ => 0, [])
def wo0 : WS := (0, fun _ => te0)
variable {X : List Cel}
theorem te_of {b : Nat} (h : InL X b (teC b)) : TeAt (mT (ofL X)) (mR (ofL X)) b ∧ TeHas (mI (ofL X)) (mJ (ofL X)) b te0 := by
  have h0 := h.h
  have h1 := h.t.h
  have h2 := h.t.t.h
  have h3 := h.t.t.t.h
  have h4 := h.t.t.t.t.h
  have h5 := h.t.t.t.t.t.h
  have r0 := InL.R h0
  have i0 := InL.I h0
  refine ⟨⟨InL.T h0, by rw [r0]; rfl, by rw [r0]; rfl, by rw [r0]; rfl, by rw [r0]; rfl, by rw [r0]; rfl, InL.T h1, InL.T h2, InL.T h3, InL.T h4, InL.T h5⟩, by rw [i0]; rfl, fun i hi => absurd hi (Nat.not_lt_zero _), fun i _ => congrFun (InL.I h2) i, by rw [i0]; rfl, fun i hi => absurd hi (Nat.not_lt_zero _), by rw [i0]; rfl, fun i _ => congrFun (InL.J h4) i, by rw [i0]; rfl, fun i hi => absurd hi (Nat.not_lt_zero _)⟩
theorem tes_in {a : Nat} : ∀ t, InL X a (tesC a t) → ∀ s, s < t → InL X (a + 6 * s) (teC (a + 6 * s)) := by
  intro t
  induction t with
  | zero => intro _ s hs; exact absurd hs (Nat.not_lt_zero _)
  | succ t ih =>
    intro h s hs
    have h : InL X a (tesC a t ++ teC (a + 6 * t)) := h
    by_cases e : s = t
    · subst e; exact h.r (tesC_len a s)
    · exact ih h.l s (by omega)
theorem wo_of {b : Nat} (h : InL X b (woC b)) : WoAt (mT (ofL X)) (mR (ofL X)) b ∧ WoHas (mI (ofL X)) (mJ (ofL X)) b wo0 := by
  have h0 : X.getD b cD = woO b := h.h
  have h1 : X.getD (b + 1) cD = cX 24 4 (b + 2) 6 4 := h.t.h
  have h2 : InL X (b + 2) (tesC (b + 2) 4) := h.t.t
  have ht := fun t (q : t < 4) => te_of (tes_in 4 h2 t q)
  refine ⟨⟨InL.T h0, by rw [InL.R h0]; rfl, InL.T h1, fun t q => ⟨?_, (ht t q).1⟩⟩, by rw [InL.I h0]; rfl, fun t q => (ht t q).2⟩
  rw [InL.R h1]
  exact if_pos q
theorem wos_in {a : Nat} : ∀ t, InL X a (wosC a t) → ∀ s, s < t → InL X (a + 26 * s) (woC (a + 26 * s)) := by
  intro t
  induction t with
  | zero => intro _ s hs; exact absurd hs (Nat.not_lt_zero _)
  | succ t ih =>
    intro h s hs
    have h : InL X a (wosC a t ++ woC (a + 26 * t)) := h
    by_cases e : s = t
    · subst e; exact h.r (wosC_len a s)
    · exact ih h.l s (by omega)
theorem tr_of {a : Nat} {wf : Nat → Nat} (h : InL X a (trC a)) (hw : ∀ s, s < 16 → wf s = a + 3 + 26 * s) : TrAt (mT (ofL X)) (mR (ofL X)) a wf ∧ mI (ofL X) a 2 = nI 0 ∧ mI (ofL X) a 3 = nI 0 := by
  have h0 : X.getD a cD = trO a := h.h
  have h1 : X.getD (a + 1) cD = cX 25 16 (a + 3) 26 16 := h.t.h
  have h2 : X.getD (a + 2) cD = cN 20 16 16 := h.t.t.h
  have h3 : InL X (a + 3) (wosC (a + 3) 16) := h.t.t.t
  refine ⟨⟨InL.T h0, by rw [InL.R h0]; rfl, InL.T h1, by rw [InL.R h0]; rfl, InL.T h2, fun s q => ⟨?_, ?_⟩⟩, by rw [InL.I h0]; rfl, by rw [InL.I h0]; rfl⟩
  · rw [InL.R h1, hw s q]
    exact if_pos q
  · rw [hw s q]
    exact (wo_of (wos_in 16 h3 s q)).1
def sh0 : SH := (wo0, (0, 1, 0, 0), (0, fun _ => (0, 0)), (0, fun _ => (fun _ _ => 0, 0, 0)), -1)
theorem sh_of {b : Nat} (h : InL X b (shC b)) : ShAt (mT (ofL X)) (mR (ofL X)) b ∧ ShC (mT (ofL X)) (mR (ofL X)) (mI (ofL X)) (mJ (ofL X)) b sh0 ∧ LwT (mT (ofL X)) (mR (ofL X)) (b + 29) := by
  have h0 := h.h
  have hr : InL X (b + 1) (((([] ++ woC (b + 1)) ++ [cN 20 6 6]) ++ [cN 20 6 6]) ++ [cN 27 6 6]) := h.t
  have hw := wo_of (show InL X (b + 1) (woC (b + 1)) from hr.l.l.l.r (n := 0) rfl)
  have h27 : X.getD (b + 27) cD = cN 20 6 6 := (show InL X (b + 1 + 26) [cN 20 6 6] from hr.l.l.r (by rw [List.length_append, woC_len]; rfl)).h
  have h28 : X.getD (b + 28) cD = cN 20 6 6 := (show InL X (b + 1 + 27) [cN 20 6 6] from hr.l.r (by rw [List.length_append, List.length_append, woC_len]; rfl)).h
  have h29 : X.getD (b + 29) cD = cN 27 6 6 := (show InL X (b + 1 + 28) [cN 27 6 6] from hr.r (by rw [List.length_append, List.length_append, List.length_append, woC_len]; rfl)).h
  have r0 := InL.R h0
  have i0 := InL.I h0
  have hl : LwT (mT (ofL X)) (mR (ofL X)) (b + 29) := fun i _ => Or.inl (by rw [InL.R h29]; rfl)
  refine ⟨⟨InL.T h0, by rw [r0]; rfl, hw.1, by rw [r0]; rfl, InL.T h27, by rw [r0]; rfl, InL.T h28, by rw [r0]; rfl, InL.T h29⟩, ⟨hw.2, by rw [i0]; rfl, by rw [i0]; rfl, by rw [i0]; rfl, by rw [i0]; rfl, by rw [i0]; rfl, fun i hi => absurd hi (Nat.not_lt_zero _), by rw [i0]; rfl, by rw [i0]; rfl, hl, fun i hi => absurd hi (Nat.not_lt_zero _)⟩, hl⟩
theorem pr_of {b len : Nat} (h : InL X b (prC b len)) : PrAt (mT (ofL X)) (mR (ofL X)) b len := by
  have h0 := h.h
  have r0 := InL.R h0
  refine ⟨InL.T h0, fun k q1 q2 => ?_, fun k q1 q2 => ?_, InL.T h.t.t.t.t.t.t.t.h⟩
  · rw [r0]
    rcases (show k = 1 ∨ k = 2 ∨ k = 3 ∨ k = 4 ∨ k = 5 ∨ k = 6 ∨ k = 7 by omega) with rfl | rfl | rfl | rfl | rfl | rfl | rfl <;> rfl
  · rcases (show k = 1 ∨ k = 2 ∨ k = 3 ∨ k = 4 ∨ k = 5 ∨ k = 6 by omega) with rfl | rfl | rfl | rfl | rfl | rfl
    · exact InL.T h.t.h
    · exact InL.T h.t.t.h
    · exact InL.T h.t.t.t.h
    · exact InL.T h.t.t.t.t.h
    · exact InL.T h.t.t.t.t.t.h
    · exact InL.T h.t.t.t.t.t.t.h
theorem re_of {b : Nat} (h : InL X b (reC b)) : ReAt (mT (ofL X)) (mR (ofL X)) b := by
  have h0 := h.h
  have r0 := InL.R h0
  refine ⟨InL.T h0, fun k q1 q2 => ?_⟩
  rw [r0]
  rcases (show k = 2 ∨ k = 3 ∨ k = 4 ∨ k = 5 ∨ k = 6 ∨ k = 7 ∨ k = 8 ∨ k = 9 by omega) with rfl | rfl | rfl | rfl | rfl | rfl | rfl | rfl
  · exact ⟨rfl, InL.T h.t.h⟩
  · exact ⟨rfl, InL.T h.t.t.h⟩
  · exact ⟨rfl, InL.T h.t.t.t.h⟩
  · exact ⟨rfl, InL.T h.t.t.t.t.h⟩
  · exact ⟨rfl, InL.T h.t.t.t.t.t.h⟩
  · exact ⟨rfl, InL.T h.t.t.t.t.t.t.h⟩
  · exact ⟨rfl, InL.T h.t.t.t.t.t.t.t.h⟩
  · exact ⟨rfl, InL.T h.t.t.t.t.t.t.t.t.h⟩
theorem ju_of {b : Nat} (h : InL X b (juC b)) : JuAt (mT (ofL X)) (mR (ofL X)) b := by
  have r0 := InL.R h.h
  exact ⟨InL.T h.h, by rw [r0]; rfl, InL.T h.t.h, by rw [r0]; rfl, InL.T h.t.t.h, by rw [r0]; rfl, InL.T h.t.t.t.h⟩
theorem de_of {b : Nat} (h : InL X b (deC b)) : DeAt (mT (ofL X)) (mR (ofL X)) b ∧ X.getD (b + 5) cD = cN 20 245 245 := by
  have r0 := InL.R h.h
  exact ⟨⟨InL.T h.h, by rw [r0]; rfl, InL.T h.t.h, by rw [r0]; rfl, InL.T h.t.t.h, by rw [r0]; rfl, InL.T h.t.t.t.h, by rw [r0]; rfl, InL.T h.t.t.t.t.h, by rw [r0]; rfl, InL.T h.t.t.t.t.t.h, by rw [r0]; rfl, InL.T h.t.t.t.t.t.t.h⟩, h.t.t.t.t.t.h⟩
theorem cu_of {b : Nat} (h : InL X b (cuC b)) : CuAt (mT (ofL X)) (mR (ofL X)) b ∧ X.getD (b + 2) cD = cI (cR (cN 12 0 (NF 12)) 0 (some (b + 2 + 1))) 1 (nI 0) ∧ X.getD (b + 3) cD = cN 22 16 16 := by
  have r0 := InL.R h.h
  exact ⟨⟨InL.T h.h, by rw [r0]; rfl, InL.T h.t.h, by rw [r0]; rfl, InL.T h.t.t.h, by rw [r0]; rfl, InL.T h.t.t.t.t.h⟩, h.t.t.h, h.t.t.t.h⟩
theorem pa_of {b tp : Nat} (h : InL X b (paC b)) (ht : mT (ofL X) tp = (20, 400)) (hp : tp < b ∨ b + 9 ≤ tp) : PaA0 (mT (ofL X)) (mR (ofL X)) b tp ∧ mI (ofL X) b 1 = -1 := by
  have r0 := InL.R h.h
  have hr : InL X (b + 1) (([] ++ prC (b + 1) 1024) ++ [cN 20 0 0]) := h.t
  exact ⟨⟨InL.T h.h, by rw [r0]; rfl, pr_of (show InL X (b + 1) (prC (b + 1) 1024) from hr.l.r (n := 0) rfl), ht, hp⟩, by rw [InL.I h.h]; rfl⟩
def z0 : ST := (sh0, (0, fun _ => (0, wo0)), (fun _ => none), none, (0, fun _ => 0), (0, -1, 0, -1), (fun _ => 0), [])
theorem z0_ok : ZOK 0 z0 := by
  have ht : TOK te0 := ⟨Nat.zero_le _, Nat.zero_le _, Nat.zero_le _, Nat.le_refl _, fun x h => (List.not_mem_nil h).elim, fun x h => (List.not_mem_nil h).elim, fun x h => (List.not_mem_nil h).elim⟩
  have hw : WOK wo0 := ⟨Nat.zero_le _, fun t _ => ht⟩
  refine ⟨⟨hw, Nat.le_refl 0, by decide, by decide, by decide, by decide, Nat.zero_le _, fun i hi => absurd hi (Nat.not_lt_zero _), Nat.zero_le _, fun i hi => absurd hi (Nat.not_lt_zero _), Or.inl rfl⟩, ⟨Nat.zero_le _, fun i hi => absurd hi (Nat.not_lt_zero _)⟩, fun k s _ e => (by cases e), Nat.zero_le _, fun j => (by show 0 < 256; decide), Nat.zero_le _, fun i hi => absurd hi (Nat.not_lt_zero _)⟩
theorem CR0 {f : Nat → Int32} : CR 0 z0 (ofL (mcC ++ moC f)) := by
  have hX : InL (mcC ++ moC f) 0 (mcC ++ moC f) := fun i _ => by rw [Nat.zero_add]
  have hlX : (mcC ++ moC f).length = 1056 := by
    rw [List.length_append, mcC_len]
    show 1020 + ((moS8 f).length + 1) = 1056
    rw [moS8_len]
  have hsX : slN (mcC ++ moC f) ≤ 100000 := by
    rw [slN_a]
    have e1 : slN mcC ≤ 60000 := by decide +kernel
    have e2 : slN (moC f) = slN (moC (fun _ => 0)) := by
      show moO.2.1 + slN (moS8 f) = moO.2.1 + slN (moS8 (fun _ => 0))
      rw [moS8_sl f (fun _ => 0)]
    have e3 : slN (moC (fun _ => 0)) ≤ 40000 := by decide +kernel
    omega
  have hm : InL (mcC ++ moC f) 0 (mcO :: mS 2 mR10) := hX.l
  generalize mcC ++ moC f = X at *
  have g0 : X.getD 0 cD = mcO := hm.h
  have hS : InL X 1 (mS5 ++ cX 26 2 960 30 2 :: mR10) := hm.t
  have h5 : InL X 1 (mS4 ++ woC 895) := hS.l
  have h4 : InL X 1 (mS3 ++ woC 869) := h5.l
  have h3 : InL X 1 (mS2 ++ trC 450) := h4.l
  have h2 : InL X 1 (mS1 ++ trC 31) := h3.l
  have c1 := sh_of (show InL X 1 (shC 1) from h2.l.r (n := 0) rfl)
  have c31 := tr_of (wf := fun s => slA s) (show InL X 31 (trC 31) from h2.r mS1_len) (fun s q => if_pos q)
  have c450 := tr_of (wf := fun s => slA (s + 16)) (show InL X 450 (trC 450) from h3.r mS2_len) (fun s q => by
    show (if s + 16 < 16 then _ else 453 + 26 * (s + 16 - 16)) = _
    rw [if_neg (by omega), Nat.add_sub_cancel])
  have c869 := wo_of (show InL X 869 (woC 869) from h4.r mS3_len)
  have c895 := wo_of (show InL X 895 (woC 895) from h5.r mS4_len)
  have hR : InL X 921 (cX 26 2 960 30 2 :: mR10) := hS.r mS5_len
  have g921 : X.getD 921 cD = cX 26 2 960 30 2 := hR.h
  have r10 : InL X 922 (mR9 ++ shC 990) := hR.t
  have r9 : InL X 922 (mR8 ++ shC 960) := r10.l
  have r8 : InL X 922 (mR7 ++ [cN 20 7 7]) := r9.l
  have r7 : InL X 922 (mR6 ++ deC 952) := r8.l
  have r6 : InL X 922 (mR5 ++ cuC 947) := r7.l
  have r5 : InL X 922 (mR4 ++ reC 938) := r6.l
  have r4 : InL X 922 (mR3 ++ juC 934) := r5.l
  have r3 : InL X 922 (mR2 ++ paC 924) := r4.l
  have r2 : InL X 922 (mR1 ++ [cN 20 400 400]) := r3.l
  have g922 : X.getD 922 cD = cN 23 2 2 := (show InL X 922 [cN 23 2 2] from r2.l.r (n := 0) rfl).h
  have g923 : X.getD 923 cD = cN 20 400 400 := (show InL X 923 [cN 20 400 400] from r2.r mR1_len).h
  have c924 := pa_of (tp := 923) (show InL X 924 (paC 924) from r3.r mR2_len) (InL.T g923) (by omega)
  have c934 := ju_of (show InL X 934 (juC 934) from r4.r mR3_len)
  have c938 := re_of (show InL X 938 (reC 938) from r5.r mR4_len)
  have c947 := cu_of (show InL X 947 (cuC 947) from r6.r mR5_len)
  have c952 := de_of (show InL X 952 (deC 952) from r7.r mR6_len)
  have g959 : X.getD 959 cD = cN 20 7 7 := (show InL X 959 [cN 20 7 7] from r8.r mR7_len).h
  have c960 := sh_of (show InL X 960 (shC 960) from r9.r mR8_len)
  have c990 := sh_of (show InL X 990 (shC 990) from r10.r mR9_len)
  have r0 := InL.R g0
  have i0 := InL.I g0
  have r921 := InL.R g921
  have i949 := InL.I c947.2.1
  have fz : FwZ (mI (ofL X)) := fun j _ _ => congrFun (InL.I c952.2) j
  refine ⟨fun s => s, fun s => s + 16, ⟨InL.T g0, ⟨by rw [r0]; rfl, c1.1⟩, ⟨by rw [r0]; rfl, c31.1⟩, ⟨by rw [r0]; rfl, c450.1⟩, ⟨by rw [r0]; rfl, c869.1⟩, ⟨by rw [r0]; rfl, c895.1⟩, ⟨by rw [r0]; rfl, InL.T g921, by rw [r921]; rfl, by rw [r921]; rfl, c960.1, c990.1⟩, ⟨by rw [r0]; rfl, InL.T g922⟩, ⟨by rw [r0]; rfl, InL.T g923⟩, ⟨by rw [r0]; rfl, c924.1⟩, ⟨by rw [r0]; rfl, c934⟩, ⟨by rw [r0]; rfl, c938⟩, ⟨by rw [r0]; rfl, c947.1⟩, ⟨by rw [r0]; rfl, c952.1⟩, ⟨by rw [r0]; rfl, InL.T g959⟩, ⟨fun s q => ⟨by show s < 32; omega, by show s + 16 < 32; omega⟩, fun s u _ _ e => e, fun s u _ _ e => by have : s + 16 = u + 16 := e; omega, fun s u h1 h2 e => by have : s = u + 16 := e; omega⟩⟩, c1.2.1, ⟨0, c31.2.1, by decide, c31.2.2, Nat.zero_le _, fun i hi => absurd hi (Nat.not_lt_zero _)⟩, fun k hk => ⟨congrFun (InL.I g922) k, ⟨?_, fz⟩, fun s e => by cases e⟩, ⟨by rw [i0]; rfl, fun w e => by cases e⟩, ⟨by rw [i0]; rfl, fun j _ => congrFun (InL.I g923) j⟩, ⟨by rw [i0]; rfl, by rw [i0]; rfl, by rw [i0]; rfl, c924.2, fun j _ => congrFun (InL.I g959) j⟩, ⟨950, 16, by rw [InL.R c947.2.1]; rfl, InL.T c947.2.2, Or.inl rfl, by rw [i949]; rfl, by rw [i949]; rfl, Nat.zero_le _, ⟨by decide, fun i => by rw [InL.I c947.2.2]; show okB 0; exact ⟨by decide, by decide⟩⟩, fun i hi => absurd hi (Nat.not_lt_zero _)⟩, fun x hx => ?_, ?_, ?_, ?_⟩
  · rcases (show k = 0 ∨ k = 1 by omega) with rfl | rfl
    · exact c960.2.2
    · exact c990.2.2
  · show (X.getD x cD).1 = (28, 0)
    have hx2 : X.length ≤ x := hx
    rw [List.getD_eq_getElem?_getD, List.getElem?_eq_none hx2]; rfl
  · show 1056 ≤ X.length
    omega
  · show X.length ≤ _
    omega
  · show slN X ≤ _
    omega
/-- the model's numbers at the start -/
def k0 : Nat → Int32 := esF (up1 (up1 (fun _ => 0) 382 (nI 1)) 387 (-1)) 4
theorem k0_z {y : Nat} (h1 : y ≠ 382) (h2 : y ≠ 387) (h3 : ¬ (y < 368 ∧ y % 92 = 58)) : k0 y = nI 0 := by
  unfold k0 esF
  rw [if_neg (by omega)]
  by_cases c : y < 92 * 4 ∧ y % 92 = 50
  · rw [if_pos c]
  · rw [if_neg c, up1_ne h2, up1_ne h1]; rfl
abbrev startM (f : Nat → Int32) : Mem := esM (sI (sI (ofL (mcC ++ moC f)) 1022 382 (nI 1)) 1022 387 (-1)) 1020
theorem es_K {W : Mem} : mI (esM (sI (sI W 1022 382 (nI 1)) 1022 387 (-1)) 1020) 1022 = esF (up1 (up1 (mI W 1022) 382 (nI 1)) 387 (-1)) 4 := by
  show up1 (up2 (up2 (mI W) 1022 382 (nI 1)) 1022 387 (-1)) 1022 (esF (up2 (up2 (mI W) 1022 382 (nI 1)) 1022 387 (-1) 1022) 4) 1022 = _
  rw [up1_eq, up2_up1, up1_eq, up2_up1, up1_eq]
theorem es_P {W : Mem} {y : Nat} (h : y < 100) : mJ (esM (sI (sI W 1022 382 (nI 1)) 1022 387 (-1)) 1020) 1023 y = 0 := by
  show up1 (mJ W) 1023 (flJ (mJ W 1023) 100 0) 1023 y = 0
  rw [up1_eq]
  exact if_pos h
theorem MR0 {f : Nat → Int32} (hf : WdP 131 f) : MR z0 (startM f) ∧ CSame (ofL (mcC ++ moC f)) (startM f) := by
  have hI : ∀ x, x ≠ 1022 → mI (startM f) x = mI (ofL (mcC ++ moC f)) x := fun x hx => by
    show up1 (up2 (up2 (mI (ofL (mcC ++ moC f))) 1022 382 (nI 1)) 1022 387 (-1)) 1022 _ x = _
    rw [up1_ne hx, up2_up1, up1_ne hx, up2_up1, up1_ne hx]
  have hJ : ∀ x, x ≠ 1023 → mJ (startM f) x = mJ (ofL (mcC ++ moC f)) x := fun x hx => by
    show up1 (mJ (ofL (mcC ++ moC f))) 1023 _ x = _
    rw [up1_ne hx]
  have s9 : InL (mcC ++ moC f) 1020 (moO8 :: moS8 f) := fun i hi => by rw [gdR mcC_len]; rfl
  have s8 : InL (mcC ++ moC f) 1021 (((((moS7 f) ++ [cN 21 21 21]) ++ [cN 21 3 3]) ++ [cN 20 100 100])) := s9.t
  have s7 : InL (mcC ++ moC f) 1021 ((((((((moS6 f) ++ [cN 20 32 32]) ++ [cN 20 32 32]) ++ [cN 20 32 32]) ++ [cN 21 25 25]) ++ [cN 20 800 800]) ++ [cN 20 25 25])) := s8.l.l.l
  have s6 : InL (mcC ++ moC f) 1021 ((((((((moS5 f) ++ [cN 20 100 100]) ++ [cN 20 4 4]) ++ [cN 22 400 400]) ++ [cN 22 12 12]) ++ [cN 20 4 4]) ++ [cN 20 245 245])) := s7.l.l.l.l.l.l
  have s5 : InL (mcC ++ moC f) 1021 ((((((((moS4 f) ++ [cN 20 6 6]) ++ [cN 20 5920 5920]) ++ [cN 21 1600 1600]) ++ [cN 20 5920 5920]) ++ [cN 21 1600 1600]) ++ [cN 20 100 100])) := s6.l.l.l.l.l.l
  have s4 : InL (mcC ++ moC f) 1021 (((((((moS3 f) ++ [cN 22 400 400]) ++ [cN 20 5 5]) ++ [cN 20 401 401]) ++ [cN 20 401 401]) ++ [cN 20 401 401])) := s5.l.l.l.l.l.l
  have s3 : InL (mcC ++ moC f) 1021 (moS2 ++ [cF f]) := s4.l.l.l.l.l
  have s2 : InL (mcC ++ moC f) 1021 (((moS1 ++ [cN 20 738 738]) ++ [cN 21 200 200])) := s3.l
  have s1 : InL (mcC ++ moC f) 1021 (((((((moS0 ++ [cN 20 7 7]) ++ [cN 20 5995 5995]) ++ [cN 21 100 100]) ++ [cN 20 11990 11990]) ++ [cN 21 200 200]) ++ [cN 23 2 2])) := s2.l.l
  have g1021 : (mcC ++ moC f).getD 1021 cD = cN 20 7 7 := (show InL (mcC ++ moC f) 1021 [cN 20 7 7] from s1.l.l.l.l.l.r (n := 0) rfl).h
  have g1022 : (mcC ++ moC f).getD 1022 cD = cN 20 5995 5995 := (show InL (mcC ++ moC f) 1022 [cN 20 5995 5995] from s1.l.l.l.l.r (n := 1) rfl).h
  have g1026 : (mcC ++ moC f).getD 1026 cD = cN 23 2 2 := (show InL (mcC ++ moC f) 1026 [cN 23 2 2] from s1.r (n := 5) rfl).h
  have g1029 : (mcC ++ moC f).getD 1029 cD = cF f := (show InL (mcC ++ moC f) 1029 [cF f] from s3.r (n := 8) moS2_len).h
  have g1030 : (mcC ++ moC f).getD 1030 cD = cN 22 400 400 := (show InL (mcC ++ moC f) 1030 [cN 22 400 400] from s4.l.l.l.l.r (n := 9) (moS3_len f)).h
  have g1020 : (mcC ++ moC f).getD 1020 cD = moO8 := s9.h
  clear s1 s2 s3 s4 s5 s6 s7 s8 s9
  have hK : mI (startM f) 1022 = k0 := by
    rw [es_K, InL.I g1022]; rfl
  have hP : ∀ y, y < 100 → mJ (startM f) 1023 y = 0 := fun y hy => es_P hy
  have hO : mI (startM f) 1020 = moO.2.2.1 := by rw [hI 1020 (by omega)]; exact InL.I g1020
  refine ⟨⟨mo_at f mcC_len, ?_, ?_, ?_, ?_, ?_, ?_, ?_⟩, ⟨rfl, rfl, rfl, fun x q => ⟨hI x (by omega), hJ x (by omega)⟩⟩⟩
  · rw [hK]
    refine ⟨⟨k0_z (by omega) (by omega) (by omega), fun t ht => ⟨⟨k0_z (by omega) (by omega) (by omega), fun i hi => absurd hi (Nat.not_lt_zero _)⟩, fun i hi => k0_z (by omega) (by omega) (by omega), ⟨k0_z (by omega) (by omega) (by omega), fun i hi => absurd hi (Nat.not_lt_zero _)⟩, ?_, fun i hi => hP _ (by omega), ⟨k0_z (by omega) (by omega) (by omega), fun i hi => absurd hi (Nat.not_lt_zero _)⟩⟩⟩, k0_z (by omega) (by omega) (by omega), fun i hi => absurd hi (Nat.not_lt_zero _), ?_, k0_z (by omega) (by omega) (by omega), k0_z (by omega) (by omega) (by omega), k0_z (by omega) (by omega) (by omega), k0_z (by omega) (by omega) (by omega), ?_, fun i hi => absurd hi (Nat.not_lt_zero _)⟩
    · show k0 (0 + 92 * t + 58) = nI 1000
      unfold k0 esF
      rw [if_pos (by omega)]
    · decide
    · decide
  · exact ⟨by rw [hO]; rfl, fun i hi => absurd hi (Nat.not_lt_zero _)⟩
  · intro k hk
    refine ⟨?_, fun s e => by cases e⟩
    rw [hI 1026 (by omega)]
    exact congrFun (InL.I g1026) k
  · exact ⟨by rw [hO]; rfl, fun w e => by cases e⟩
  · refine ⟨by rw [hO]; rfl, fun j hj => ?_, fun j hj => ?_⟩
    · rw [hI 1030 (by omega)]
      exact (congrFun (InL.I g1030) j).trans (show (0 : Int32) = sgb 0 by decide)
    · rw [hI 1029 (by omega)]
      exact (congrFun (InL.I g1029) j).trans (hf j hj)
  · refine ⟨by rw [hO]; rfl, by rw [hO]; rfl, by rw [hO]; rfl, by rw [hO]; rfl, ⟨false, by rw [hO]; rfl⟩, fun j hj => ?_⟩
    rw [hI 1021 (by omega)]
    exact congrFun (InL.I g1021) j
  · exact ⟨by rw [hO]; rfl, fun i hi => absurd hi (Nat.not_lt_zero _)⟩
theorem start_ok {f : Nat → Int32} (hf : WdP 131 f) : CR 0 z0 (startM f) ∧ MR z0 (startM f) := ⟨CR0.csame (MR0 hf).2, (MR0 hf).1⟩
end STT

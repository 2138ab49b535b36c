/-! ===== law ===== -/
section LWL
variable {g : Gl} {M : Mem}
/-- both answer alike: what is kept then may be told by the class's memory -/
def Both2 (g : Gl) (Y Y2 : Meth) (av : List Value) : Prop := ∀ (c : Nat) (z : ST) (M : Mem), c < 512 → ZOK c z → CR c z M → ∃ (x : Int32) (z2 : ST), ZOK (c + 1) z2 ∧ CaC g Y av c M x z2 ∧ ∀ M2, MR z M2 → CaM g Y2 av M2 x z2
theorem Both.two {Y Y2 : Meth} {av : List Value} (h : Both g Y Y2 av) : Both2 g Y Y2 av := fun c z M hc hO hC => by
  obtain ⟨x, z2, h1, h2, h3⟩ := h c z hc hO
  exact ⟨x, z2, h1, h2 M hC, h3⟩
def addL (s : SH) (w : LW) : SH := (s.1, s.2.1, s.2.2.1, (sLn s + 1, up1 (sLw s) (sLn s) w), s.2.2.2.2)
theorem LawOK_of {tc tv : Nat → Nat} {f r nc : Nat} {en : Nat → Bool} {P : Nat → Nat → Int32} {sg : List Int32} (hCh : ChS tc tv false f en (fun m k => P k m) nc r 0 0 0 0 sg) (hC : Hd (P 7) 0 sg) (hnc : nc ≤ 12) : LawOK P sg.length nc := by
  obtain ⟨q1, q2, q3⟩ := ChS_cw hCh rfl
  refine ⟨hnc, CodeW_of q1 hC, fun n hn => ?_⟩
  obtain ⟨u1, u2⟩ := q3 n (Nat.zero_le _) hn
  rw [if_neg (by decide), Nat.zero_add] at u2
  rw [Nat.zero_add] at u1
  refine ⟨u1, ?_⟩
  rcases u2 with u2 | ⟨u2, u3⟩
  · exact Or.inl u2
  · exact Or.inr ⟨u2, u3⟩
theorem SHOK.addL {s : SH} {B : Nat} {w : LW} (h : SHOK s B) (hn : sLn s < 6) (hw : LawOK w.1 w.2.1 w.2.2) (hc : w.2.1 ≤ 1024) : SHOK (addL s w) B := by
  obtain ⟨o1, o2, o3, o4, o5, o6, o7, o8, o9, o10, o11⟩ := h
  refine ⟨o1, o2, o3, o4, o5, o6, o7, o8, by show sLn s + 1 ≤ 6; omega, fun i hi => ?_, ?_⟩
  · have hi2 : i < sLn s + 1 := hi
    show LawOK (up1 (sLw s) (sLn s) w i).1 (up1 (sLw s) (sLn s) w i).2.1 (up1 (sLw s) (sLn s) w i).2.2 ∧ (up1 (sLw s) (sLn s) w i).2.1 ≤ 1024
    by_cases e : i = sLn s
    · rw [e, up1_eq]; exact ⟨hw, hc⟩
    · rw [up1_ne e]; exact o10 i (by omega)
  · rcases o11 with q | ⟨t, q1, q2⟩
    · exact Or.inl q
    · exact Or.inr ⟨t, by show t < sLn s + 1; omega, q2⟩
/-- a law was made and laid -/
theorem CR.law {c cn nc : Nat} {z : ST} {I2 : Nat → Nat → Int32} {M3 : Mem} (h : CR c z M) (hc : c < 512) (hn : sLn (zS z) < 6) (hcn : cn ≤ 1024) (hz3 : mZ M3 = mZ M + 8) (hl3 : mL M3 = mL M + (81 + cn)) (hPr : PrAt (mT M3) (mR M3) (mZ M) cn) (h8 : mI M3 (mZ M) 8 = nI cn) (h0 : mI M3 (mZ M) 0 = nI nc) (hx : ∀ x, x < mZ M ∨ mZ M + 8 ≤ x → mT M3 x = mT M x ∧ mI M3 x = I2 x ∧ mJ M3 x = mJ M x ∧ mR M3 x = up2 (mR M) 924 2 (some 923) x) (hI2 : ∀ x, x < 924 ∨ 933 ≤ x → I2 x = up2 (mI M) 0 9 (nI 0) x) (hf : I2 924 1 = -1) :
    CR (c + 1) (zTp z (addL (zS z) ((fun k => mI M3 (mZ M + k)), cn, nc)) (-1)) (sI (sR M3 30 (sLn (zS z)) (some (mZ M))) 1 9 (nI (sLn (zS z) + 1))) ∧ MSame M (sI (sR M3 30 (sLn (zS z)) (some (mZ M))) 1 9 (nI (sLn (zS z) + 1))) ∧ ∃ pf pg, LayC (mT M3) (up2 (mR M3) 30 (sLn (zS z)) (some (mZ M))) pf pg := by
  obtain ⟨pf, pg, hL, hSC, hTC, hIC, hDC, hPC, hNC, hBC, z1, z2, z3, z4⟩ := h
  have hPf := hL.2.2.2.2.2.2.2.2.2.2.2.2.2.2.2
  generalize hp : mZ M = p at *
  have eT : ∀ x, x < p ∨ p + 8 ≤ x → mT M3 x = mT M x := fun x q => (hx x q).1
  have eI : ∀ x, x < p ∨ p + 8 ≤ x → x ≠ 0 → x ≠ 1 → x < 924 ∨ 933 ≤ x → up2 (mI M3) 1 9 (nI (sLn (zS z) + 1)) x = mI M x ∧ mJ M3 x = mJ M x := fun x q1 q2 q3 q4 => ⟨by rw [up2_o q3, (hx x q1).2.1, hI2 x q4, up2_o q2], (hx x q1).2.2.1⟩
  have eI1 : ∀ y, y ≠ 9 → up2 (mI M3) 1 9 (nI (sLn (zS z) + 1)) 1 y = mI M 1 y := fun y hy => by rw [up2_k hy, (hx 1 (by omega)).2.1, hI2 1 (by omega), up2_o (by omega)]
  have eI0 : ∀ y, y ≠ 9 → up2 (mI M3) 1 9 (nI (sLn (zS z) + 1)) 0 y = mI M 0 y := fun y hy => by rw [up2_o (by omega), (hx 0 (by omega)).2.1, hI2 0 (by omega), up2_k hy]
  have eI09 : up2 (mI M3) 1 9 (nI (sLn (zS z) + 1)) 0 9 = nI 0 := by rw [up2_o (by omega), (hx 0 (by omega)).2.1, hI2 0 (by omega), up2_v]
  have eR : ∀ x, x < p ∨ p + 8 ≤ x → ∀ k, x ≠ 30 → ¬ (x = 924 ∧ k = 2) → up2 (mR M3) 30 (sLn (zS z)) (some p) x k = mR M x k := fun x q1 k q2 q3 => by
    rw [up2_o q2, (hx x q1).2.2.2]
    unfold up2; rw [if_neg q3]
  have eR30 : ∀ k, k ≠ sLn (zS z) → up2 (mR M3) 30 (sLn (zS z)) (some p) 30 k = mR M 30 k := fun k hk => by
    rw [up2_k hk, (hx 30 (by omega)).2.2.2]
    unfold up2; rw [if_neg (by omega)]
  have hL2 : LayC (mT M3) (up2 (mR M3) 30 (sLn (zS z)) (some p)) pf pg := hL.kk (fun x q => eT x (by omega)) (fun x q1 q2 q3 q4 q5 k q6 => eR x (by omega) k q2 (fun q => q6 q.1 q.2))
  have hlt : ∀ x, (mT M x).1 = 4 ∨ (mT M x).1 = 20 → x < p := fun x q => by
    apply Decidable.not_not.mp
    intro q2
    rw [z1 x (by omega)] at q
    omega
  have hk : HiK (mT M) (mR M) (mI M) (mT M3) (up2 (mR M3) 30 (sLn (zS z)) (some p)) (up2 (mI M3) 1 9 (nI (sLn (zS z) + 1))) := fun x q1 q2 => ⟨eT x (Or.inl (hlt x q2)), funext fun k => eR x (Or.inl (hlt x q2)) k (by omega) (by omega), (eI x (Or.inl (hlt x q2)) (by omega) (by omega) (by omega)).1⟩
  refine ⟨⟨pf, pg, hL2, ?_, hTC.kept ⟨(eI 31 (by omega) (by omega) (by omega) (by omega)).1, (eI 33 (by omega) (by omega) (by omega) (by omega)).1⟩ (fun s hs x q1 q2 => by have := slA_lt (hPf.1 s hs).1; exact eI x (by omega) (by omega) (by omega) (by omega)), hIC.kept (eI 922 (by omega) (by omega) (by omega) (by omega)).1 (fun x q1 q2 => eI x (by omega) (by omega) (by omega) (by omega)) ⟨funext fun k => eR 989 (by omega) k (by omega) (by omega), funext fun k => eR 1019 (by omega) k (by omega) (by omega)⟩ hk, hDC.kept (eI0 5 (by omega)) (fun x q1 q2 => eI x (by omega) (by omega) (by omega) (by omega)), ⟨eI09, fun j hj => (congrFun (eI 923 (by omega) (by omega) (by omega) (by omega)).1 j).trans (hPC.2 j hj)⟩, ⟨(eI0 15 (by omega)).trans hNC.1, (eI0 16 (by omega)).trans hNC.2.1, (eI0 17 (by omega)).trans hNC.2.2.1, ?_, fun j hj => (congrFun (eI 959 (by omega) (by omega) (by omega) (by omega)).1 j).trans (hNC.2.2.2.2 j hj)⟩, hBC.kept (funext fun k => eR 949 (by omega) k (by omega) (by omega)) (eI 949 (by omega) (by omega) (by omega) (by omega)).1 (fun v hv q => ?_), ?_⟩, ?_, ⟨pf, pg, hL2⟩⟩
  · obtain ⟨s1, s2, s3, s4, s5, s6, s7, s8, s9, s10, s11⟩ := hSC
    refine ⟨s1.kept (fun x q1 q2 => eI x (by omega) (by omega) (by omega) (by omega)), (eI1 1 (by omega)).trans s2, (eI1 2 (by omega)).trans s3, (eI1 3 (by omega)).trans s4, (eI1 4 (by omega)).trans s5, (eI1 7 (by omega)).trans s6, fun i hi => ⟨(congrFun (eI (1 + 27) (by omega) (by omega) (by omega) (by omega)).1 i).trans (s7 i hi).1, (congrFun (eI (1 + 28) (by omega) (by omega) (by omega) (by omega)).1 i).trans (s7 i hi).2⟩, (up2_v : up2 (mI M3) 1 9 (nI (sLn (zS z) + 1)) 1 9 = _), (eI1 10 (by omega)).trans s9, fun i hi => ?_, fun i hi => ?_⟩
    · show up2 (mR M3) 30 (sLn (zS z)) (some p) 30 i = none ∨ ∃ q, up2 (mR M3) 30 (sLn (zS z)) (some p) 30 i = some q ∧ 1056 ≤ q ∧ mT M3 q = (4, 0)
      by_cases e : i = sLn (zS z)
      · rw [e, up2_v]
        exact Or.inr ⟨p, rfl, z2, hPr.1⟩
      · rw [eR30 i e]
        rcases s10 i hi with q | ⟨q, q1, q2, q3⟩
        · exact Or.inl q
        · exact Or.inr ⟨q, q1, q2, by rw [eT q (Or.inl (hlt q (by rw [q3]; exact Or.inl rfl)))]; exact q3⟩
    · have hi2 : i < sLn (zS z) + 1 := hi
      show ∃ q, up2 (mR M3) 30 (sLn (zS z)) (some p) 30 i = some q ∧ PgC (mT M3) (up2 (mR M3) 30 (sLn (zS z)) (some p)) (up2 (mI M3) 1 9 (nI (sLn (zS z) + 1))) q (up1 (sLw (zS z)) (sLn (zS z)) ((fun k => mI M3 (p + k)), cn, nc) i)
      by_cases e : i = sLn (zS z)
      · rw [e, up2_v, up1_eq]
        refine ⟨p, rfl, z2, ⟨cn, ⟨hPr.1, fun k q1 q2 => ?_, hPr.2.2.1, hPr.2.2.2⟩, Nat.le_refl _, hcn⟩, ?_, ?_, fun k q1 q2 => ?_⟩
        · rw [up2_o (by omega)]; exact hPr.2.1 k q1 q2
        · rw [up2_o (by omega)]; exact h8
        · rw [up2_o (by omega)]; exact h0
        · rw [up2_o (by omega)]
      · rw [eR30 i e, up1_ne e]
        obtain ⟨q, q1, q2⟩ := s11 i (by omega)
        exact ⟨q, q1, q2.kept hk⟩
  · show up2 (mI M3) 1 9 (nI (sLn (zS z) + 1)) 924 1 = -1
    rw [up2_o (by omega), (hx 924 (by omega)).2.1]; exact hf
  · have hv2 : v < p := by
      apply Decidable.not_not.mp
      intro q2
      rw [z1 v (by omega)] at q
      omega
    exact ⟨eT v (Or.inl hv2), (eI v (Or.inl hv2) (by omega) (by omega) (by omega)).1⟩
  · refine ⟨fun x q => ?_, ?_, ?_, ?_⟩
    · have q' : mZ M3 ≤ x := q
      show mT M3 x = (28, 0)
      rw [eT x (by omega)]; exact z1 x (by omega)
    · show 1056 ≤ mZ M3
      omega
    · show mZ M3 ≤ _
      omega
    · show mL M3 ≤ _
      omega
  · intro x a b
    exact ⟨eT x (by omega), funext fun k => eR x (by omega) k (by omega) (by omega), (eI x (by omega) (by omega) (by omega) (by omega)).1, (eI x (by omega) (by omega) (by omega) (by omega)).2⟩
end LWL

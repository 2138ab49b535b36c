/-! ===== what holds between calls ===== -/
section REL
/-- shop; what can be undone; images; what was drawn; tape; blanks, stopped, status, fault; refusals; report -/
abbrev ST : Type := SH × (Nat × UF) × (Nat → Option SH) × Option WS × (Nat × (Nat → Nat)) × (Int32 × Int32 × Int32 × Int32) × (Nat → Int32) × List Nat
abbrev zS (z : ST) : SH := z.1
abbrev zU (z : ST) : Nat × UF := z.2.1
abbrev zI (z : ST) : Nat → Option SH := z.2.2.1
abbrev zD (z : ST) : Option WS := z.2.2.2.1
abbrev zT (z : ST) : Nat × (Nat → Nat) := z.2.2.2.2.1
abbrev zB (z : ST) : Int32 := z.2.2.2.2.2.1.1
abbrev zP (z : ST) : Int32 := z.2.2.2.2.2.1.2.1
abbrev zC (z : ST) : Int32 := z.2.2.2.2.2.1.2.2.1
abbrev zF (z : ST) : Int32 := z.2.2.2.2.2.1.2.2.2
abbrev zR (z : ST) : Nat → Int32 := z.2.2.2.2.2.2.1
abbrev zG (z : ST) : List Nat := z.2.2.2.2.2.2.2
/-- costs together, at most, behind c calls -/
abbrev bC (c : Nat) : Nat := 760320 * c
def ZOK (c : Nat) (z : ST) : Prop := SHOK (zS z) (bC c) ∧ UOK (zU z).1 (zU z).2 (bC c) ∧ (∀ k s, k < 2 → zI z k = some s → SHOK s (bC c)) ∧ (zT z).1 ≤ 400 ∧ (∀ j, (zT z).2 j < 256) ∧ (zG z).length ≤ 400 ∧ ∀ i, i < (zG z).length → (zG z).getD i 0 < 128
def CRt (I : Nat → Nat → Int32) (J : Nat → Nat → Int64) (pf : Nat → Nat) (u : Nat × UF) : Prop := ∃ f, TrHas I J 31 (fun s => slA (pf s)) f u.1 u.2
/-- the class's fewest misses of no tenant -/
def FwZ (I : Nat → Nat → Int32) : Prop := ∀ j, 196 ≤ j → j < 245 → I 957 j = nI 0
def CRi (T : Nat → Nat × Nat) (R : Nat → Nat → Option Nat) (I : Nat → Nat → Int32) (J : Nat → Nat → Int64) (im : Nat → Option SH) : Prop := ∀ k, k < 2 → I 922 k = bI (im k).isSome ∧ (LwT T R (960 + 30 * k + 29) ∧ FwZ I) ∧ ∀ s, im k = some s → ShC T R I J (960 + 30 * k) s
def CRd (I : Nat → Nat → Int32) (J : Nat → Nat → Int64) (d : Option WS) : Prop := I 0 5 = bI d.isSome ∧ ∀ w, d = some w → WoHas I J 895 w
def CRp (I : Nat → Nat → Int32) (t : Nat × (Nat → Nat)) : Prop := I 0 9 = nI t.1 ∧ ∀ j, j < 400 → I 923 j = nI (t.2 j)
def CRn (I : Nat → Nat → Int32) (z : ST) : Prop := I 0 15 = zB z ∧ I 0 16 = zP z ∧ I 0 17 = zC z ∧ I 924 1 = zF z ∧ ∀ c, c < 7 → I 959 c = zR z c
abbrev okB (x : Int32) : Prop := -128 ≤ x ∧ x ≤ 127
def CRb (T : Nat → Nat × Nat) (R : Nat → Nat → Option Nat) (I : Nat → Nat → Int32) (rp : List Nat) : Prop := ∃ v cap, R 949 0 = some v ∧ T v = (22, cap) ∧ (v = 950 ∨ 1056 ≤ v) ∧ I 949 1 = 0 ∧ I 949 3 = nI rp.length ∧ rp.length ≤ cap ∧ (cap ≤ 1000 ∧ ∀ i, okB (I v i)) ∧ ∀ i, i < rp.length → I v i = nI (rp.getD i 0)
def CRz (c : Nat) (M : Mem) : Prop := (∀ x, mZ M ≤ x → mT M x = (28, 0)) ∧ 1056 ≤ mZ M ∧ mZ M ≤ 1056 + 30 * c ∧ mL M ≤ 100000 + 4000 * c
def CR (c : Nat) (z : ST) (M : Mem) : Prop := ∃ pf pg, LayC (mT M) (mR M) pf pg ∧ ShC (mT M) (mR M) (mI M) (mJ M) 1 (zS z) ∧ CRt (mI M) (mJ M) pf (zU z) ∧ CRi (mT M) (mR M) (mI M) (mJ M) (zI z) ∧ CRd (mI M) (mJ M) (zD z) ∧ CRp (mI M) (zT z) ∧ CRn (mI M) z ∧ CRb (mT M) (mR M) (mI M) (zG z) ∧ CRz c M
def MRi (I : Nat → Nat → Int32) (J : Nat → Nat → Int64) (im : Nat → Option SH) : Prop := ∀ k, k < 2 → I 1026 k = bI (im k).isSome ∧ ∀ s, im k = some s → ShM (fun y => I 1024 (5995 * k + y)) (fun y => J 1025 (100 * k + y)) s
/-- misses of a world, as the model lays them -/
def msW (w : WS) (t c : Nat) : Int32 := msA (fun i => nI (tCo (w.2 t) i)) c
def MRd (I : Nat → Nat → Int32) (d : Option WS) : Prop := I 1020 62 = bI d.isSome ∧ ∀ w, d = some w → ∀ t c, t < 4 → c < 25 → I 1055 (25 * t + c) = msW w t c
def MRp (I : Nat → Nat → Int32) (t : Nat × (Nat → Nat)) : Prop := I 1020 16 = nI t.1 ∧ (∀ j, j < 400 → I 1030 j = sgb (t.2 j)) ∧ ∀ j, j < 131 → I 1029 j = nI (wdA j)
def MRn (I : Nat → Nat → Int32) (z : ST) : Prop := I 1020 9 = zB z ∧ I 1020 54 = zP z ∧ I 1020 0 = zC z ∧ I 1020 17 = zF z ∧ (∃ b, I 1020 27 = bI b) ∧ ∀ c, c < 7 → I 1021 c = zR z c
def MRb (I : Nat → Nat → Int32) (rp : List Nat) : Prop := I 1020 42 = nI rp.length ∧ ∀ i, i < rp.length → I 1043 i = nI (rp.getD i 0)
def MRu (I : Nat → Nat → Int32) (J : Nat → Nat → Int64) (u : Nat × UF) : Prop := I 1020 36 = nI u.1 ∧ MuHas (I 1036) (J 1037) u.1 u.2
def MR (z : ST) (M : Mem) : Prop := MoAt (mT M) (mR M) 1020 ∧ ShM (mI M 1022) (mJ M 1023) (zS z) ∧ MRu (mI M) (mJ M) (zU z) ∧ MRi (mI M) (mJ M) (zI z) ∧ MRd (mI M) (zD z) ∧ MRp (mI M) (zT z) ∧ MRn (mI M) z ∧ MRb (mI M) (zG z)
def MSame (M M2 : Mem) : Prop := ∀ x, 1020 ≤ x → x < 1056 → mT M2 x = mT M x ∧ mR M2 x = mR M x ∧ mI M2 x = mI M x ∧ mJ M2 x = mJ M x
def CSame (M M2 : Mem) : Prop := M2.1 = M.1 ∧ mT M2 = mT M ∧ mR M2 = mR M ∧ ∀ x, x < 1020 ∨ 1056 ≤ x → mI M2 x = mI M x ∧ mJ M2 x = mJ M x
theorem CSame.refl (M : Mem) : CSame M M := ⟨rfl, rfl, rfl, fun _ _ => ⟨rfl, rfl⟩⟩
theorem MSame.refl (M : Mem) : MSame M M := fun _ _ _ => ⟨rfl, rfl, rfl, rfl⟩
theorem MSame.trans {M M2 M3 : Mem} (h : MSame M M2) (h2 : MSame M2 M3) : MSame M M3 := fun x a b => ⟨(h2 x a b).1.trans (h x a b).1, (h2 x a b).2.1.trans (h x a b).2.1, (h2 x a b).2.2.1.trans (h x a b).2.2.1, (h2 x a b).2.2.2.trans (h x a b).2.2.2⟩
theorem CSame.trans {M M2 M3 : Mem} (h : CSame M M2) (h2 : CSame M2 M3) : CSame M M3 := ⟨h2.1.trans h.1, h2.2.1.trans h.2.1, h2.2.2.1.trans h.2.2.1, fun x a => ⟨(h2.2.2.2 x a).1.trans (h.2.2.2 x a).1, (h2.2.2.2 x a).2.trans (h.2.2.2 x a).2⟩⟩
theorem MSame.mk2 {M : Mem} {I : Nat → Nat → Int32} {J : Nat → Nat → Int64} (h : ∀ x, 1020 ≤ x → x < 1056 → I x = mI M x ∧ J x = mJ M x) : MSame M (mk2 M I J) := fun x a b => ⟨rfl, rfl, (h x a b).1, (h x a b).2⟩
theorem CSame.mk2 {M : Mem} {I : Nat → Nat → Int32} {J : Nat → Nat → Int64} (h : ∀ x, x < 1020 ∨ 1056 ≤ x → I x = mI M x ∧ J x = mJ M x) : CSame M (mk2 M I J) := ⟨rfl, rfl, rfl, h⟩
variable {T T2 : Nat → Nat × Nat} {R R2 : Nat → Nat → Option Nat} {I I2 : Nat → Nat → Int32} {J J2 : Nat → Nat → Int64}
theorem CRt.kept {pf : Nat → Nat} {u : Nat × UF} (h : CRt I J pf u) (h1 : I2 31 = I 31 ∧ I2 33 = I 33) (h2 : ∀ s, s < 16 → ∀ x, slA (pf s) ≤ x → x < slA (pf s) + 26 → I2 x = I x ∧ J2 x = J x) : CRt I2 J2 pf u := by
  obtain ⟨f, h⟩ := h
  exact ⟨f, h.kept h1 h2⟩
theorem CRi.kept {im : Nat → Option SH} (h : CRi T R I J im) (h1 : I2 922 = I 922) (h2 : ∀ x, 960 ≤ x ∨ x = 957 → x < 1020 → I2 x = I x ∧ J2 x = J x) (h3 : R2 989 = R 989 ∧ R2 1019 = R 1019) (hk : HiK T R I T2 R2 I2) : CRi T2 R2 I2 J2 im := by
  intro k hk2
  obtain ⟨a1, a2, a3⟩ := h k hk2
  have hr : R2 (960 + 30 * k + 29) = R (960 + 30 * k + 29) := by
    rcases (show k = 0 ∨ k = 1 by omega) with rfl | rfl
    · exact h3.1
    · exact h3.2
  exact ⟨by rw [h1]; exact a1, ⟨a2.1.kept hr hk, fun j p q => (congrFun (h2 957 (Or.inr rfl) (by omega)).1 j).trans (a2.2 j p q)⟩, fun s hs => (a3 s hs).kept (fun x q1 q2 => h2 x (by omega) (by omega)) hr hk⟩
theorem CRd.kept {d : Option WS} (h : CRd I J d) (h1 : I2 0 5 = I 0 5) (h2 : ∀ x, 895 ≤ x → x < 921 → I2 x = I x ∧ J2 x = J x) : CRd I2 J2 d := ⟨by rw [h1]; exact h.1, fun w hw => (h.2 w hw).kept (fun x q1 q2 => h2 x q1 (by omega))⟩
theorem CRp.kept {t : Nat × (Nat → Nat)} (h : CRp I t) (h1 : I2 0 9 = I 0 9) (h2 : I2 923 = I 923) : CRp I2 t := ⟨by rw [h1]; exact h.1, by rw [h2]; exact h.2⟩
theorem CRn.kept {z : ST} (h : CRn I z) (h1 : I2 0 15 = I 0 15 ∧ I2 0 16 = I 0 16 ∧ I2 0 17 = I 0 17) (h2 : I2 924 1 = I 924 1) (h3 : I2 959 = I 959) : CRn I2 z := by
  obtain ⟨a1, a2, a3, a4, a5⟩ := h
  exact ⟨h1.1.trans a1, h1.2.1.trans a2, h1.2.2.trans a3, h2.trans a4, by rw [h3]; exact a5⟩
theorem CRb.kept {rp : List Nat} (h : CRb T R I rp) (h1 : R2 949 = R 949) (h2 : I2 949 = I 949) (h3 : ∀ v, v = 950 ∨ 1056 ≤ v → (T v).1 = 22 → T2 v = T v ∧ I2 v = I v) : CRb T2 R2 I2 rp := by
  obtain ⟨v, cap, a1, a2, a3, a4, a5, a6, a7, a8⟩ := h
  have e := h3 v a3 (by rw [a2])
  exact ⟨v, cap, by rw [h1]; exact a1, by rw [e.1]; exact a2, a3, by rw [h2]; exact a4, by rw [h2]; exact a5, a6, ⟨a7.1, by rw [e.2]; exact a7.2⟩, by rw [e.2]; exact a8⟩
theorem CRz.le {c c2 : Nat} {M : Mem} (h : CRz c M) (hc : c ≤ c2) : CRz c2 M := ⟨h.1, h.2.1, by have := h.2.2.1; omega, by have := h.2.2.2; omega⟩
/-- only the model's cells have changed -/
theorem CR.csame {c : Nat} {z : ST} {M M2 : Mem} (h : CR c z M) (hs : CSame M M2) : CR c z M2 := by
  obtain ⟨pf, pg, hL, h1, h2, h3, h4, h5, h6, h7, h8⟩ := h
  obtain ⟨e1, e2, e3, e4⟩ := hs
  have hk : HiK (mT M) (mR M) (mI M) (mT M2) (mR M2) (mI M2) := fun x hx _ => ⟨by rw [e2], by rw [e3], (e4 x (Or.inr hx)).1⟩
  have hP := hL.2.2.2.2.2.2.2.2.2.2.2.2.2.2.2
  refine ⟨pf, pg, by rw [e2, e3]; exact hL, h1.kept (fun x q1 q2 => e4 x (by omega)) (by rw [e3]) hk, h2.kept ⟨(e4 31 (by omega)).1, (e4 33 (by omega)).1⟩ (fun s hs x q1 q2 => e4 x (by have := slA_lt (hP.1 s hs).1; omega)), h3.kept (e4 922 (by omega)).1 (fun x q1 q2 => e4 x (by omega)) ⟨by rw [e3], by rw [e3]⟩ hk, h4.kept (congrFun (e4 0 (by omega)).1 5) (fun x q1 q2 => e4 x (by omega)), h5.kept (congrFun (e4 0 (by omega)).1 9) (e4 923 (by omega)).1, h6.kept ⟨congrFun (e4 0 (by omega)).1 15, congrFun (e4 0 (by omega)).1 16, congrFun (e4 0 (by omega)).1 17⟩ (congrFun (e4 924 (by omega)).1 1) (e4 959 (by omega)).1, h7.kept (by rw [e3]) (e4 949 (by omega)).1 (fun v hv _ => ⟨by rw [e2], (e4 v (by omega)).1⟩), ?_⟩
  unfold CRz at h8 ⊢
  have : mZ M2 = mZ M := congrArg Prod.fst e1
  have l : mL M2 = mL M := congrArg Prod.snd e1
  rw [this, l, e2]; exact h8
/-- only the class's cells have changed -/
theorem MR.msame {z : ST} {M M2 : Mem} (h : MR z M) (hs : MSame M M2) : MR z M2 := by
  obtain ⟨h0, h1, h2, h3, h4, h5, h6, h7⟩ := h
  have eI : ∀ x, 1020 ≤ x → x < 1056 → mI M2 x = mI M x := fun x a b => (hs x a b).2.2.1
  have eJ : ∀ x, 1020 ≤ x → x < 1056 → mJ M2 x = mJ M x := fun x a b => (hs x a b).2.2.2
  refine ⟨⟨by rw [(hs 1020 (by omega) (by omega)).1]; exact h0.1, fun q hq => ?_⟩, ?_, ?_, ?_, ?_, ?_, ?_, ?_⟩
  · have hb : q.2.1 < 36 := by
      have : ∀ q ∈ moF, q.2.1 < 36 := by decide
      exact this q hq
    rw [(hs 1020 (by omega) (by omega)).2.1, (hs (1020 + q.2.1) (by omega) (by omega)).1]
    exact h0.2 q hq
  · rw [eI 1022 (by omega) (by omega), eJ 1023 (by omega) (by omega)]; exact h1
  · unfold MRu at h2 ⊢
    rw [eI 1020 (by omega) (by omega), eI 1036 (by omega) (by omega), eJ 1037 (by omega) (by omega)]; exact h2
  · unfold MRi at h3 ⊢
    rw [eI 1024 (by omega) (by omega), eI 1026 (by omega) (by omega), eJ 1025 (by omega) (by omega)]; exact h3
  · unfold MRd at h4 ⊢
    rw [eI 1020 (by omega) (by omega), eI 1055 (by omega) (by omega)]; exact h4
  · unfold MRp at h5 ⊢
    rw [eI 1020 (by omega) (by omega), eI 1030 (by omega) (by omega), eI 1029 (by omega) (by omega)]; exact h5
  · unfold MRn at h6 ⊢
    rw [eI 1020 (by omega) (by omega), eI 1021 (by omega) (by omega)]; exact h6
  · unfold MRb at h7 ⊢
    rw [eI 1020 (by omega) (by omega), eI 1043 (by omega) (by omega)]; exact h7
/-- cells that no call between others reads: judge, replayer, curves, dealer, parser's own, the trail of orders, the world ahead -/
def scX (x : Nat) : Prop := (869 ≤ x ∧ x < 895) ∨ (925 ≤ x ∧ x < 949) ∨ (951 ≤ x ∧ x < 957) ∨ x = 958
theorem CR.sc {c : Nat} {z : ST} {M : Mem} {I2 : Nat → Nat → Int32} {J2 : Nat → Nat → Int64} (h : CR c z M) (hs : ∀ x, ¬ scX x → I2 x = mI M x ∧ J2 x = mJ M x) : CR (c + 1) z (mk2 M I2 J2) := by
  obtain ⟨pf, pg, hL, h1, h2, h3, h4, h5, h6, h7, h8⟩ := h
  have e4 : ∀ x, ¬ scX x → I2 x = mI M x ∧ J2 x = mJ M x := hs
  have hk : HiK (mT M) (mR M) (mI M) (mT M) (mR M) I2 := HiK.same (fun x hx => (e4 x (by unfold scX; omega)).1)
  have hP := hL.2.2.2.2.2.2.2.2.2.2.2.2.2.2.2
  exact ⟨pf, pg, hL, h1.kept (fun x q1 q2 => e4 x (by unfold scX; omega)) rfl hk, h2.kept ⟨(e4 31 (by unfold scX; omega)).1, (e4 33 (by unfold scX; omega)).1⟩ (fun s hs x q1 q2 => e4 x (by have := slA_lt (hP.1 s hs).1; unfold scX; omega)), h3.kept (e4 922 (by unfold scX; omega)).1 (fun x q1 q2 => e4 x (by unfold scX; omega)) ⟨rfl, rfl⟩ hk, h4.kept (congrFun (e4 0 (by unfold scX; omega)).1 5) (fun x q1 q2 => e4 x (by unfold scX; omega)), h5.kept (congrFun (e4 0 (by unfold scX; omega)).1 9) (e4 923 (by unfold scX; omega)).1, h6.kept ⟨congrFun (e4 0 (by unfold scX; omega)).1 15, congrFun (e4 0 (by unfold scX; omega)).1 16, congrFun (e4 0 (by unfold scX; omega)).1 17⟩ (congrFun (e4 924 (by unfold scX; omega)).1 1) (e4 959 (by unfold scX; omega)).1, h7.kept rfl (e4 949 (by unfold scX; omega)).1 (fun v hv _ => ⟨rfl, (e4 v (by unfold scX; omega)).1⟩), h8.le (by omega)⟩
theorem CR.le {c c2 : Nat} {z : ST} {M : Mem} (h : CR c z M) (hc : c ≤ c2) : CR c2 z M := by
  obtain ⟨pf, pg, hL, h1, h2, h3, h4, h5, h6, h7, h8⟩ := h
  exact ⟨pf, pg, hL, h1, h2, h3, h4, h5, h6, h7, h8.le hc⟩
theorem ZOK.le {c c2 : Nat} {z : ST} (h : ZOK c z) (hc : c ≤ c2) : ZOK c2 z := by
  obtain ⟨h1, h2, h3, h4⟩ := h
  have hb : bC c ≤ bC c2 := by unfold bC; omega
  exact ⟨h1.le hb, ⟨h2.1, fun i hi => ⟨(h2.2 i hi).1, (h2.2 i hi).2.1, Nat.le_trans (h2.2 i hi).2.2 hb⟩⟩, fun k s q1 q2 => (h3 k s q1 q2).le hb, h4⟩
/-- a call of the class, a call of the model -/
abbrev CaC (g : Gl) (Y : Meth) (av : List Value) (c : Nat) (M : Mem) (x : Int32) (z2 : ST) : Prop := Ci g Y 300 (.ref 0 :: av) M (fun y M2 => y = x ∧ CR (c + 1) z2 M2 ∧ MSame M M2)
abbrev CaM (g : Gl) (Y : Meth) (av : List Value) (M : Mem) (x : Int32) (z2 : ST) : Prop := Ci g Y 300 (.ref 1020 :: av) M (fun y M2 => y = x ∧ MR z2 M2 ∧ CSame M M2)
/-- both answer alike -/
def Both (g : Gl) (Y Y2 : Meth) (av : List Value) : Prop := ∀ (c : Nat) (z : ST), c < 512 → ZOK c z → ∃ (x : Int32) (z2 : ST), ZOK (c + 1) z2 ∧ (∀ M, CR c z M → CaC g Y av c M x z2) ∧ ∀ M, MR z M → CaM g Y2 av M x z2
end REL

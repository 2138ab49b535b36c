/-! ===== read, loop, drop, pass ===== -/
section ACS
variable {g : Gl} {M : Mem}
abbrev zRes (z : ST) : (Nat → Int32) → Int32 × Int32 := resQ (zS z) (sFo (zS z))
abbrev zAw (z : ST) (kd : Nat) (t a b : Int32) : Nat × WS := acW (zRes z) (sMd (zS z)) (sSl (zS z)) kd (sWo (zS z)) t.toNatClampNeg a.toNatClampNeg b.toNatClampNeg
def zAct (z : ST) (kd : Nat) (t a b : Int32) : ST := (((zAw z kd t a b).2, (zS z).2), (nsz (zU z).1, psU (zU z).1 (zU z).2 (kd, sWo (zS z))), z.2.2)
theorem resQ_ok (s : SH) (q : Int32) : ResOK (resQ s q) := by
  by_cases h : q = -1
  · exact ResOK.no (fun V => if_pos h)
  · exact ResOK.wg (P := (sLw s q.toNatClampNeg).1) (cn := (sLw s q.toNatClampNeg).2.1) (nc := (sLw s q.toNatClampNeg).2.2) (fun V => if_neg h)
theorem acV_3 {kd : Nat} {ws : WS} {t a b : Int32} : acV kd ws t a b = 0 ∨ acV kd ws t a b = -1 ∨ acV kd ws t a b = -3 := by
  unfold acV
  split
  · split
    · exact Or.inl rfl
    · exact Or.inr (Or.inr rfl)
  · split
    · split
      · exact Or.inr (Or.inl rfl)
      · split
        · exact Or.inr (Or.inr rfl)
        · exact Or.inl rfl
    · exact Or.inr (Or.inl rfl)
theorem UOK.le {n : Nat} {u : UF} {B B2 : Nat} (h : UOK n u B) (hB : B ≤ B2) : UOK n u B2 := ⟨h.1, fun i hi => ⟨(h.2 i hi).1, (h.2 i hi).2.1, Nat.le_trans (h.2 i hi).2.2 hB⟩⟩
theorem ZOK.act {c kd : Nat} {z : ST} {t a b : Int32} (h : ZOK c z) (hc : c < 512) (hk : kd < 4) (hv : acV kd (sWo (zS z)) t a b = 0) : ZOK (c + 1) (zAct z kd t a b) ∧ (zAw z kd t a b).1 < 2147483648 := by
  have h1 : ZOK (c + 1) z := h.le (Nat.le_succ c)
  have hB : tot (sWo (zS z)) ≤ bC c := h.1.2.1
  have hb : bC c + 760320 = bC (c + 1) := by unfold bC; omega
  have hb2 : bC c < 400000000 := by unfold bC; omega
  obtain ⟨q1, q2, q3⟩ := acW_lt (res := zRes z) (md := sMd (zS z)) (salt := sSl (zS z)) (resQ_ok _ _) h.1.1 hk (by omega) hv
  exact ⟨⟨h1.1.wo q2 (by omega), h1.2.1.push hk h1.1.1 (by omega), h1.2.2⟩, q1⟩
/-- the world, the trail and the judge alone were changed -/
theorem CR.act {c f : Nat} {z : ST} {pf pg : Nat → Nat} {w : WS} {u : Nat × UF} {I2 : Nat → Nat → Int32} {J2 : Nat → Nat → Int64} (hL : LayC (mT M) (mR M) pf pg) (h1 : ShC (mT M) (mR M) (mI M) (mJ M) 1 (zS z)) (h3 : CRi (mT M) (mR M) (mI M) (mJ M) (zI z)) (h4 : CRd (mI M) (mJ M) (zD z)) (h5 : CRp (mI M) (zT z)) (h6 : CRn (mI M) z) (h7 : CRb (mT M) (mR M) (mI M) (zG z)) (h8 : CRz c M) (hw : WoHas I2 J2 2 w) (hU : TrHas I2 J2 31 (fun s => slA (pf s)) f u.1 u.2) (hA : AFr 31 (fun s => slA (pf s)) (mI M) (mJ M) I2 J2) : CR (c + 1) ((w, (zS z).2), u, z.2.2) (mk2 M I2 J2) ∧ MSame M (mk2 M I2 J2) := by
  have hP := hL.2.2.2.2.2.2.2.2.2.2.2.2.2.2.2
  have e4 : ∀ x, x < 2 ∨ (28 ≤ x ∧ x < 31) ∨ 869 ≤ x → x < 934 ∨ 938 ≤ x → I2 x = mI M x ∧ J2 x = mJ M x := fun x a b => hA x (by omega) (fun s hs => by have := slA_lt (hP.1 s hs).1; show x < slA (pf s) ∨ slA (pf s) + 26 ≤ x; omega) (by omega) b
  have hk : HiK (mT M) (mR M) (mI M) (mT M) (mR M) I2 := HiK.same (fun x hx => (e4 x (by omega) (by omega)).1)
  refine ⟨⟨pf, pg, hL, h1.wo hw ⟨(e4 1 (by omega) (by omega)).1, (e4 28 (by omega) (by omega)).1, (e4 29 (by omega) (by omega)).1⟩ rfl hk, ⟨f, hU⟩, h3.kept (e4 922 (by omega) (by omega)).1 (fun x q1 q2 => e4 x (by omega) (by omega)) ⟨rfl, rfl⟩ hk, h4.kept (congrFun (e4 0 (by omega) (by omega)).1 5) (fun x q1 q2 => e4 x (by omega) (by omega)), h5.kept (congrFun (e4 0 (by omega) (by omega)).1 9) (e4 923 (by omega) (by omega)).1, h6.kept ⟨congrFun (e4 0 (by omega) (by omega)).1 15, congrFun (e4 0 (by omega) (by omega)).1 16, congrFun (e4 0 (by omega) (by omega)).1 17⟩ (congrFun (e4 924 (by omega) (by omega)).1 1) (e4 959 (by omega) (by omega)).1, h7.kept rfl (e4 949 (by omega) (by omega)).1 (fun v hv _ => ⟨rfl, (e4 v (by omega) (by omega)).1⟩), h8.le (by omega)⟩, MSame.mk2 (fun x a b => e4 x (by omega) (by omega))⟩
def zActQ (R : ST → Mem → Prop) (z : ST) (kd : Nat) (t a b : Int32) (M : Mem) (x : Int32) (M2 : Mem) : Prop := (¬ acV kd (sWo (zS z)) t a b = 0 ∧ x = acV kd (sWo (zS z)) t a b ∧ M2 = M) ∨ (acV kd (sWo (zS z)) t a b = 0 ∧ x = nI (zAw z kd t a b).1 ∧ R (zAct z kd t a b) M2)
theorem c_actS {c kd : Nat} {z : ST} {t a b : Int32} (h : CR c z M) (hO : ZOK c z) (hc : c < 512) (hk : kd < 4) : Ci g Y_Mc_act 15 [.ref 0, .ref 31, .int (nI kd), .int t, .int a, .int b] M (fun x M2 => zActQ (fun z2 M2 => CR (c + 1) z2 M2 ∧ MSame M M2) z kd t a b M x M2) := by
  have hC' := h.le (Nat.le_succ c)
  obtain ⟨pf, pg, hL, hSC, hTC, hIC, hDC, hPC, hNC, hBC, hZC⟩ := h
  obtain ⟨t0, ⟨r00, hSh⟩, ⟨r01, hTr⟩, ⟨r02, hTg⟩, ⟨r03, hWa⟩, ⟨r04, hWp⟩, ⟨r06, t921, r921a, r921b, hS0, hS1⟩, ⟨r07, t922⟩, ⟨r08, t923⟩, ⟨r010, hPa⟩, ⟨r011, hJu⟩, ⟨r012, hRe⟩, ⟨r013, hCu⟩, ⟨r014, hDe⟩, ⟨r018, t959⟩, hPf⟩ := id hL
  have t1 : mT M 1 = (6, 0) := hSh.1
  have r10 : mR M 1 0 = some 2 := hSh.2.1
  have hW2 : WoAt (mT M) (mR M) 2 := hSh.2.2.1
  have t2 : mT M 2 = (9, 0) := hW2.1
  have r20 : mR M 2 0 = some 3 := hW2.2.1
  have t3 : mT M 3 = (24, 4) := hW2.2.2.1
  have t31 : mT M 31 = (8, 0) := hTr.1
  have t924 : mT M 924 = (3, 0) := hPa.1
  have t934 : mT M 934 = (2, 0) := hJu.1
  have t938 : mT M 938 = (5, 0) := hRe.1
  have t947 : mT M 947 = (0, 0) := hCu.1
  have t952 : mT M 952 = (1, 0) := hDe.1
  obtain ⟨f, hTC⟩ := hTC
  have hB : tot (sWo (zS z)) ≤ bC c := hO.1.2.1
  have hb2 : bC c < 400000000 := by unfold bC; omega
  refine (c_act (res := zRes z) (md := sMd (zS z)) (salt := sSl (zS z)) hL hTr (TrP.f hPf) hTC (by exact hSC.1) hO.1.1 (by omega) (hSC.n hO.1) hk).to ?_
  rintro x M2 (⟨q1, q2, q3⟩ | ⟨q1, q2, I2, J2, rfl, q4, q5, q6⟩)
  · exact Or.inl ⟨q1, q2, q3⟩
  · exact Or.inr ⟨q1, q2, CR.act (u := (nsz (zU z).1, psU (zU z).1 (zU z).2 (kd, sWo (zS z)))) hL hSC hIC hDC hPC hNC hBC hZC q4 q5 q6⟩
theorem mkQ.z {kd B : Nat} {z : ST} {t a b : Int32} {x : Int32} {M2 : Mem} (h : MR z M) (hO : SHOK (zS z) B) (hq : mkQ (zRes z) (sMd (zS z)) (sSl (zS z)) M 1020 (mI M (1020 + 16)) (mJ M (1020 + 17)) (mI M (1020 + 2)) (mJ M (1020 + 3)) (mI M (1020 + 15)) (mI M 1020) (zU z).1 (zU z).2 kd (sWo (zS z)) t a b x M2) : zActQ (fun z2 M2 => MR z2 M2 ∧ CSame M M2) z kd t a b M x M2 := by
  have eM : wkM (ubM M 1020 (mI M (1020 + 16)) (mJ M (1020 + 17))) 1020 (mI M (1020 + 2)) (mJ M (1020 + 3)) (mI M (1020 + 15)) (mI M 1020) = M := by
    rw [show ubM M 1020 (mI M (1020 + 16)) (mJ M (1020 + 17)) = M from mk2_ext (M := M) (up1_id rfl) (up1_id rfl), wk_id]
  rcases hq with ⟨q1, q2, q3⟩ | ⟨q1, q2, U2, UP2, K2, P2, A2, F2, rfl, q4, q5, q6, q7, q8⟩
  · exact Or.inl ⟨q1, q2, q3.trans eM⟩
  · refine Or.inr ⟨q1, q2, ?_, CSame.wu⟩
    exact h.wu (u2 := (nsz (zU z).1, psU (zU z).1 (zU z).2 (kd, sWo (zS z)))) (h.2.1.wo q4 hO.2.2.2.2.2.2.2.2.1 q6) q7 q5 (fun k a b => q8.1 k (by unfold moW at a; omega) b) q8.2
theorem m_at0 {z : ST} (h : MR z M) : wkM (ubM M 1020 (mI M (1020 + 16)) (mJ M (1020 + 17))) 1020 (mI M (1020 + 2)) (mJ M (1020 + 3)) (mI M (1020 + 15)) (mI M 1020) = M := by
  rw [show ubM M 1020 (mI M (1020 + 16)) (mJ M (1020 + 17)) = M from mk2_ext (M := M) (up1_id rfl) (up1_id rfl), wk_id]
theorem m_actR {c : Nat} {z : ST} {t a : Int32} (h : MR z M) (hO : ZOK c z) : Ci g Y_Mo_readsKept 130 [.ref 1020, .int t, .int a] M (fun x M2 => zActQ (fun z2 M2 => MR z2 M2 ∧ CSame M M2) z 0 t a a M x M2) := by
  have q := m_readsKept (g := g) (res := zRes z) (md := sMd (zS z)) (salt := sSl (zS z)) (t := t) (a := a) (U := mI M (1020 + 16)) (UP := mJ M (1020 + 17)) (K := mI M (1020 + 2)) (P := mJ M (1020 + 3)) (A := mI M (1020 + 15)) (F := mI M 1020) h.1 h.2.1.1 hO.1.1 h.2.2.1.2 hO.2.1 h.2.2.1.1 (h.2.1.n hO.1) h.2.2.2.2.2.2.1.2.2.2.2.1
  rw [m_at0 h] at q
  exact q.to (fun x M2 hq => hq.z h hO.1)
theorem m_actD {c : Nat} {z : ST} {t a : Int32} (h : MR z M) (hO : ZOK c z) : Ci g Y_Mo_dropsKept 130 [.ref 1020, .int t, .int a] M (fun x M2 => zActQ (fun z2 M2 => MR z2 M2 ∧ CSame M M2) z 2 t a a M x M2) := by
  have q := m_dropsKept (g := g) (res := zRes z) (md := sMd (zS z)) (salt := sSl (zS z)) (t := t) (a := a) (U := mI M (1020 + 16)) (UP := mJ M (1020 + 17)) (K := mI M (1020 + 2)) (P := mJ M (1020 + 3)) (A := mI M (1020 + 15)) (F := mI M 1020) h.1 h.2.1.1 hO.1.1 h.2.2.1.2 hO.2.1 h.2.2.1.1 h.2.2.2.2.2.2.1.2.2.2.2.1
  rw [m_at0 h] at q
  exact q.to (fun x M2 hq => hq.z h hO.1)
theorem m_actP {c : Nat} {z : ST} {t a b : Int32} (h : MR z M) (hO : ZOK c z) (hc : c < 512) : Ci g Y_Mo_passesKept 130 [.ref 1020] M (fun x M2 => zActQ (fun z2 M2 => MR z2 M2 ∧ CSame M M2) z 3 t a b M x M2) := by
  have hB : tot (sWo (zS z)) ≤ bC c := hO.1.2.1
  have hb2 : bC c < 400000000 := by unfold bC; omega
  have q := m_passesKept (g := g) (res := zRes z) (md := sMd (zS z)) (salt := sSl (zS z)) (t := t) (a := a) (b := b) (U := mI M (1020 + 16)) (UP := mJ M (1020 + 17)) (K := mI M (1020 + 2)) (P := mJ M (1020 + 3)) (A := mI M (1020 + 15)) (F := mI M 1020) h.1 h.2.1.1 hO.1.1 (by omega) h.2.2.1.2 hO.2.1 h.2.2.1.1 h.2.2.2.2.2.2.1.2.2.2.2.1
  rw [m_at0 h] at q
  exact q.to (fun x M2 hq => hq.z h hO.1)
theorem m_actL {c : Nat} {z : ST} {t a b : Int32} (h : MR z M) (hO : ZOK c z) : Ci g Y_Mo_loopsKept 120 [.ref 1020, .int t, .int a, .int b] M (fun x M2 => zActQ (fun z2 M2 => MR z2 M2 ∧ CSame M M2) z 1 t a b M x M2) := by
  have q := m_loopsKept (g := g) (res := zRes z) (md := sMd (zS z)) (salt := sSl (zS z)) (t := t) (a := a) (b := b) (U := mI M (1020 + 16)) (UP := mJ M (1020 + 17)) (K := mI M (1020 + 2)) (P := mJ M (1020 + 3)) (A := mI M (1020 + 15)) (F := mI M 1020) h.1 h.2.1.1 hO.1.1 h.2.2.1.2 hO.2.1 h.2.2.1.1 (h.2.1.n hO.1) h.2.2.2.2.2.2.1.2.2.2.2.1
  rw [m_at0 h] at q
  exact q.to (fun x M2 hq => hq.z h hO.1)
/-- settled, by the class -/
theorem c_settleA {c kd : Nat} {z : ST} {t a b : Int32} {x : Int32} {M2 : Mem} (h : CR c z M) (hO : ZOK c z) (hc : c < 512) (hk : kd < 4) (hq : zActQ (fun z2 M2 => CR (c + 1) z2 M2 ∧ MSame M M2) z kd t a b M x M2) : Ci g Y_Mc_settle 1 [.ref 0, .int x] M2 (fun y M3 => y = x ∧ CR (c + 1) (if acV kd (sWo (zS z)) t a b = 0 then zGood (zAct z kd t a b) else zBad z (if acV kd (sWo (zS z)) t a b = -1 then 1 else 3)) M3 ∧ MSame M M3) := by
  rcases hq with ⟨q1, rfl, rfl⟩ | ⟨q1, rfl, q2, q3⟩
  · rw [if_neg q1]
    obtain ⟨pf, pg, hL, -⟩ := id h
    rcases acV_3 (kd := kd) (ws := sWo (zS z)) (t := t) (a := a) (b := b) with e | e | e
    · exact absurd e q1
    · rw [if_pos e, e]
      refine (c_settleB (k := 1) (by decide) (by omega) (by omega) hL).to ?_
      rintro y M3 ⟨rfl, rfl⟩
      exact ⟨rfl, (h.le (Nat.le_succ c)).bad (k := 1) (by omega), MSame.bd⟩
    · rw [if_neg (by rw [e]; decide), e]
      refine (c_settleB (k := 3) (by decide) (by omega) (by omega) hL).to ?_
      rintro y M3 ⟨rfl, rfl⟩
      exact ⟨rfl, (h.le (Nat.le_succ c)).bad (k := 3) (by omega), MSame.bd⟩
  · rw [if_pos q1]
    obtain ⟨pf, pg, hL, -⟩ := id q2
    refine (c_settleG (nI_nn (hO.act hc hk q1).2) hL).to ?_
    rintro y M3 ⟨rfl, rfl⟩
    exact ⟨rfl, q2.good, q3.trans MSame.ac⟩
theorem m_settleA {c kd : Nat} {z : ST} {t a b : Int32} {x : Int32} {M2 : Mem} (h : MR z M) (hO : ZOK c z) (hc : c < 512) (hk : kd < 4) (hq : zActQ (fun z2 M2 => MR z2 M2 ∧ CSame M M2) z kd t a b M x M2) : Ci g Y_Mo_goodOr 1 [.ref 1020, .int x] M2 (fun y M3 => y = x ∧ MR (if acV kd (sWo (zS z)) t a b = 0 then zGood (zAct z kd t a b) else zBad z (if acV kd (sWo (zS z)) t a b = -1 then 1 else 3)) M3 ∧ CSame M M3) := by
  rcases hq with ⟨q1, rfl, rfl⟩ | ⟨q1, rfl, q2, q3⟩
  · rw [if_neg q1]
    rcases acV_3 (kd := kd) (ws := sWo (zS z)) (t := t) (a := a) (b := b) with e | e | e
    · exact absurd e q1
    · rw [if_pos e, e]
      refine (m_goodOrB (k := 1) (by decide) (by omega) (by omega) h.1).to ?_
      rintro y M3 ⟨rfl, rfl⟩
      exact ⟨rfl, h.bad (k := 1) (by omega), CSame.rf⟩
    · rw [if_neg (by rw [e]; decide), e]
      refine (m_goodOrB (k := 3) (by decide) (by omega) (by omega) h.1).to ?_
      rintro y M3 ⟨rfl, rfl⟩
      exact ⟨rfl, h.bad (k := 3) (by omega), CSame.rf⟩
  · rw [if_pos q1]
    refine (m_goodOrG (nI_nn (hO.act hc hk q1).2) q2.1).to ?_
    rintro y M3 ⟨rfl, rfl⟩
    exact ⟨rfl, q2.good, q3.trans CSame.gd⟩
def zActX (z : ST) (kd : Nat) (t a b : Int32) : Int32 := if acV kd (sWo (zS z)) t a b = 0 then nI (zAw z kd t a b).1 else acV kd (sWo (zS z)) t a b
theorem zActQ.x {R : ST → Mem → Prop} {z : ST} {kd : Nat} {t a b x : Int32} {M2 : Mem} (h : zActQ R z kd t a b M x M2) : x = zActX z kd t a b := by
  unfold zActX
  rcases h with ⟨q1, q2, -⟩ | ⟨q1, q2, -⟩
  · rw [if_neg q1]; exact q2
  · rw [if_pos q1]; exact q2
theorem zActQ.t0 {c kd : Nat} {z : ST} {t a b x : Int32} {M2 : Mem} (h : zActQ (fun z2 M2 => CR (c + 1) z2 M2 ∧ MSame M M2) z kd t a b M x M2) (t0 : mT M 0 = (10, 0)) : mT M2 0 = (10, 0) := by
  rcases h with ⟨-, -, rfl⟩ | ⟨-, -, ⟨pf, pg, hL, -⟩, -⟩
  · exact t0
  · exact hL.1
theorem zActQ.t2 {kd : Nat} {z : ST} {t a b x : Int32} {M2 : Mem} (h : zActQ (fun z2 M2 => MR z2 M2 ∧ CSame M M2) z kd t a b M x M2) (t0 : mT M 1020 = (11, 0)) : mT M2 1020 = (11, 0) := by
  rcases h with ⟨-, -, rfl⟩ | ⟨-, -, h, -⟩
  · exact t0
  · exact h.1.1
theorem ZOK.actS {c kd : Nat} {z : ST} {t a b : Int32} (h : ZOK c z) (hc : c < 512) (hk : kd < 4) : ZOK (c + 1) (if acV kd (sWo (zS z)) t a b = 0 then zGood (zAct z kd t a b) else zBad z (if acV kd (sWo (zS z)) t a b = -1 then 1 else 3)) := by
  by_cases q : acV kd (sWo (zS z)) t a b = 0
  · rw [if_pos q]; exact (h.act hc hk q).1.good
  · rw [if_neg q]; exact (h.le (Nat.le_succ c)).bad
theorem b_read {t a : Int32} : Both g Y_Mc_read Y_Mo_read [.int t, .int a] := by
  intro c z hc hO
  refine ⟨zActX z 0 t a a, _, hO.actS (kd := 0) (t := t) (a := a) (b := a) hc (by omega), fun M h => ?_, fun M h => ?_⟩
  · have hCR := h
    have hC' := h.le (Nat.le_succ c)
    obtain ⟨pf, pg, hL, hSC, hTC, hIC, hDC, hPC, hNC, hBC, hZC⟩ := h
    obtain ⟨t0, ⟨r00, hSh⟩, ⟨r01, hTr⟩, ⟨r02, hTg⟩, ⟨r03, hWa⟩, ⟨r04, hWp⟩, ⟨r06, t921, r921a, r921b, hS0, hS1⟩, ⟨r07, t922⟩, ⟨r08, t923⟩, ⟨r010, hPa⟩, ⟨r011, hJu⟩, ⟨r012, hRe⟩, ⟨r013, hCu⟩, ⟨r014, hDe⟩, ⟨r018, t959⟩, hPf⟩ := id hL
    have t1 : mT M 1 = (6, 0) := hSh.1
    have r10 : mR M 1 0 = some 2 := hSh.2.1
    have hW2 : WoAt (mT M) (mR M) 2 := hSh.2.2.1
    have t2 : mT M 2 = (9, 0) := hW2.1
    have r20 : mR M 2 0 = some 3 := hW2.2.1
    have t3 : mT M 3 = (24, 4) := hW2.2.2.1
    have t31 : mT M 31 = (8, 0) := hTr.1
    have t924 : mT M 924 = (3, 0) := hPa.1
    have t934 : mT M 934 = (2, 0) := hJu.1
    have t938 : mT M 938 = (5, 0) := hRe.1
    have t947 : mT M 947 = (0, 0) := hCu.1
    have t952 : mT M 952 = (1, 0) := hDe.1
    refine cw_entry 0 pf_Mc_read rfl ?_
    refine wp_aload_n rfl (ck_get kk_Mc_read 0 rfl) ?_
    refine wp_aload_n rfl (ck_get kk_Mc_read 1 rfl) ?_
    refine wp_aload_n rfl (ck_get kk_Mc_read 2 rfl) ?_
    refine wp_getR (ck_get kk_Mc_read 3 rfl) fl_Mc_19 (by assumption) (by assumption) ?_
    refine wp_iconst (v := nI 0) (by decide) (ck_get kk_Mc_read 4 rfl) ?_
    refine wp_iload_n rfl (ck_get kk_Mc_read 5 rfl) ?_
    refine wp_iload_n rfl (ck_get kk_Mc_read 6 rfl) ?_
    refine wp_iload_n rfl (ck_get kk_Mc_read 7 rfl) ?_
    refine wp_cV5i (ck_get kk_Mc_read 8 rfl) ml_Mc_264 (by omega) (Nat.le_of_ble_eq_true rfl) (by assumption) (Ci.to (c_actS (kd := 0) hCR hO hc (by omega)) ?_)
    rintro x M1 e1
    have tm1 := e1.t0 t0
    refine wp_cV1i (ck_get kk_Mc_read 9 rfl) ml_Mc_268 (by omega) (Nat.le_of_ble_eq_true rfl) (by assumption) (Ci.to (c_settleA hCR hO hc (by omega) e1) ?_)
    rintro x M1 ⟨e2, e3, e4⟩
    refine wp_ireturn (ck_get kk_Mc_read 10 rfl) rfl rfl ⟨_, rfl, ?_⟩
    exact ⟨e2.trans e1.x, e3, e4⟩
  · skip
    obtain ⟨hM, hSM, hUM, hIM, hDM, hPM, hNM, hBM⟩ := id h
    have to0 := hM.1
    refine cw_entry 0 pf_Mo_read rfl ?_
    refine wp_aload_n rfl (ck_get kk_Mo_read 0 rfl) ?_
    refine wp_aload_n rfl (ck_get kk_Mo_read 1 rfl) ?_
    refine wp_iload_n rfl (ck_get kk_Mo_read 2 rfl) ?_
    refine wp_iload_n rfl (ck_get kk_Mo_read 3 rfl) ?_
    refine wp_cV2i (ck_get kk_Mo_read 4 rfl) ml_Mo_389 (by omega) (Nat.le_of_ble_eq_true rfl) (by assumption) (Ci.to (m_actR h hO) ?_)
    rintro x M1 e1
    have tm1 := e1.t2 to0
    refine wp_cV1i (ck_get kk_Mo_read 5 rfl) ml_Mo_392 (by omega) (Nat.le_of_ble_eq_true rfl) (by assumption) (Ci.to (m_settleA h hO hc (by omega) e1) ?_)
    rintro x M1 ⟨e2, e3, e4⟩
    refine wp_ireturn (ck_get kk_Mo_read 6 rfl) rfl rfl ⟨_, rfl, ?_⟩
    exact ⟨e2.trans e1.x, e3, e4⟩
theorem b_drop {t a : Int32} : Both g Y_Mc_drop Y_Mo_drop [.int t, .int a] := by
  intro c z hc hO
  refine ⟨zActX z 2 t a a, _, hO.actS (kd := 2) (t := t) (a := a) (b := a) hc (by omega), fun M h => ?_, fun M h => ?_⟩
  · have hCR := h
    have hC' := h.le (Nat.le_succ c)
    obtain ⟨pf, pg, hL, hSC, hTC, hIC, hDC, hPC, hNC, hBC, hZC⟩ := h
    obtain ⟨t0, ⟨r00, hSh⟩, ⟨r01, hTr⟩, ⟨r02, hTg⟩, ⟨r03, hWa⟩, ⟨r04, hWp⟩, ⟨r06, t921, r921a, r921b, hS0, hS1⟩, ⟨r07, t922⟩, ⟨r08, t923⟩, ⟨r010, hPa⟩, ⟨r011, hJu⟩, ⟨r012, hRe⟩, ⟨r013, hCu⟩, ⟨r014, hDe⟩, ⟨r018, t959⟩, hPf⟩ := id hL
    have t1 : mT M 1 = (6, 0) := hSh.1
    have r10 : mR M 1 0 = some 2 := hSh.2.1
    have hW2 : WoAt (mT M) (mR M) 2 := hSh.2.2.1
    have t2 : mT M 2 = (9, 0) := hW2.1
    have r20 : mR M 2 0 = some 3 := hW2.2.1
    have t3 : mT M 3 = (24, 4) := hW2.2.2.1
    have t31 : mT M 31 = (8, 0) := hTr.1
    have t924 : mT M 924 = (3, 0) := hPa.1
    have t934 : mT M 934 = (2, 0) := hJu.1
    have t938 : mT M 938 = (5, 0) := hRe.1
    have t947 : mT M 947 = (0, 0) := hCu.1
    have t952 : mT M 952 = (1, 0) := hDe.1
    refine cw_entry 0 pf_Mc_drop rfl ?_
    refine wp_aload_n rfl (ck_get kk_Mc_drop 0 rfl) ?_
    refine wp_aload_n rfl (ck_get kk_Mc_drop 1 rfl) ?_
    refine wp_aload_n rfl (ck_get kk_Mc_drop 2 rfl) ?_
    refine wp_getR (ck_get kk_Mc_drop 3 rfl) fl_Mc_19 (by assumption) (by assumption) ?_
    refine wp_iconst (v := nI 2) (by decide) (ck_get kk_Mc_drop 4 rfl) ?_
    refine wp_iload_n rfl (ck_get kk_Mc_drop 5 rfl) ?_
    refine wp_iload_n rfl (ck_get kk_Mc_drop 6 rfl) ?_
    refine wp_iload_n rfl (ck_get kk_Mc_drop 7 rfl) ?_
    refine wp_cV5i (ck_get kk_Mc_drop 8 rfl) ml_Mc_264 (by omega) (Nat.le_of_ble_eq_true rfl) (by assumption) (Ci.to (c_actS (kd := 2) hCR hO hc (by omega)) ?_)
    rintro x M1 e1
    have tm1 := e1.t0 t0
    refine wp_cV1i (ck_get kk_Mc_drop 9 rfl) ml_Mc_268 (by omega) (Nat.le_of_ble_eq_true rfl) (by assumption) (Ci.to (c_settleA hCR hO hc (by omega) e1) ?_)
    rintro x M1 ⟨e2, e3, e4⟩
    refine wp_ireturn (ck_get kk_Mc_drop 10 rfl) rfl rfl ⟨_, rfl, ?_⟩
    exact ⟨e2.trans e1.x, e3, e4⟩
  · skip
    obtain ⟨hM, hSM, hUM, hIM, hDM, hPM, hNM, hBM⟩ := id h
    have to0 := hM.1
    refine cw_entry 0 pf_Mo_drop rfl ?_
    refine wp_aload_n rfl (ck_get kk_Mo_drop 0 rfl) ?_
    refine wp_aload_n rfl (ck_get kk_Mo_drop 1 rfl) ?_
    refine wp_iload_n rfl (ck_get kk_Mo_drop 2 rfl) ?_
    refine wp_iload_n rfl (ck_get kk_Mo_drop 3 rfl) ?_
    refine wp_cV2i (ck_get kk_Mo_drop 4 rfl) ml_Mo_398 (by omega) (Nat.le_of_ble_eq_true rfl) (by assumption) (Ci.to (m_actD h hO) ?_)
    rintro x M1 e1
    have tm1 := e1.t2 to0
    refine wp_cV1i (ck_get kk_Mo_drop 5 rfl) ml_Mo_392 (by omega) (Nat.le_of_ble_eq_true rfl) (by assumption) (Ci.to (m_settleA h hO hc (by omega) e1) ?_)
    rintro x M1 ⟨e2, e3, e4⟩
    refine wp_ireturn (ck_get kk_Mo_drop 6 rfl) rfl rfl ⟨_, rfl, ?_⟩
    exact ⟨e2.trans e1.x, e3, e4⟩
theorem b_loop {t a b : Int32} : Both g Y_Mc_loop Y_Mo_loop [.int t, .int a, .int b] := by
  intro c z hc hO
  refine ⟨zActX z 1 t a b, _, hO.actS (kd := 1) (t := t) (a := a) (b := b) hc (by omega), fun M h => ?_, fun M h => ?_⟩
  · have hCR := h
    have hC' := h.le (Nat.le_succ c)
    obtain ⟨pf, pg, hL, hSC, hTC, hIC, hDC, hPC, hNC, hBC, hZC⟩ := h
    obtain ⟨t0, ⟨r00, hSh⟩, ⟨r01, hTr⟩, ⟨r02, hTg⟩, ⟨r03, hWa⟩, ⟨r04, hWp⟩, ⟨r06, t921, r921a, r921b, hS0, hS1⟩, ⟨r07, t922⟩, ⟨r08, t923⟩, ⟨r010, hPa⟩, ⟨r011, hJu⟩, ⟨r012, hRe⟩, ⟨r013, hCu⟩, ⟨r014, hDe⟩, ⟨r018, t959⟩, hPf⟩ := id hL
    have t1 : mT M 1 = (6, 0) := hSh.1
    have r10 : mR M 1 0 = some 2 := hSh.2.1
    have hW2 : WoAt (mT M) (mR M) 2 := hSh.2.2.1
    have t2 : mT M 2 = (9, 0) := hW2.1
    have r20 : mR M 2 0 = some 3 := hW2.2.1
    have t3 : mT M 3 = (24, 4) := hW2.2.2.1
    have t31 : mT M 31 = (8, 0) := hTr.1
    have t924 : mT M 924 = (3, 0) := hPa.1
    have t934 : mT M 934 = (2, 0) := hJu.1
    have t938 : mT M 938 = (5, 0) := hRe.1
    have t947 : mT M 947 = (0, 0) := hCu.1
    have t952 : mT M 952 = (1, 0) := hDe.1
    refine cw_entry 0 pf_Mc_loop rfl ?_
    refine wp_aload_n rfl (ck_get kk_Mc_loop 0 rfl) ?_
    refine wp_aload_n rfl (ck_get kk_Mc_loop 1 rfl) ?_
    refine wp_aload_n rfl (ck_get kk_Mc_loop 2 rfl) ?_
    refine wp_getR (ck_get kk_Mc_loop 3 rfl) fl_Mc_19 (by assumption) (by assumption) ?_
    refine wp_iconst (v := nI 1) (by decide) (ck_get kk_Mc_loop 4 rfl) ?_
    refine wp_iload_n rfl (ck_get kk_Mc_loop 5 rfl) ?_
    refine wp_iload_n rfl (ck_get kk_Mc_loop 6 rfl) ?_
    refine wp_iload_n rfl (ck_get kk_Mc_loop 7 rfl) ?_
    refine wp_cV5i (ck_get kk_Mc_loop 8 rfl) ml_Mc_264 (by omega) (Nat.le_of_ble_eq_true rfl) (by assumption) (Ci.to (c_actS (kd := 1) hCR hO hc (by omega)) ?_)
    rintro x M1 e1
    have tm1 := e1.t0 t0
    refine wp_cV1i (ck_get kk_Mc_loop 9 rfl) ml_Mc_268 (by omega) (Nat.le_of_ble_eq_true rfl) (by assumption) (Ci.to (c_settleA hCR hO hc (by omega) e1) ?_)
    rintro x M1 ⟨e2, e3, e4⟩
    refine wp_ireturn (ck_get kk_Mc_loop 10 rfl) rfl rfl ⟨_, rfl, ?_⟩
    exact ⟨e2.trans e1.x, e3, e4⟩
  · skip
    obtain ⟨hM, hSM, hUM, hIM, hDM, hPM, hNM, hBM⟩ := id h
    have to0 := hM.1
    refine cw_entry 0 pf_Mo_loop rfl ?_
    refine wp_aload_n rfl (ck_get kk_Mo_loop 0 rfl) ?_
    refine wp_aload_n rfl (ck_get kk_Mo_loop 1 rfl) ?_
    refine wp_iload_n rfl (ck_get kk_Mo_loop 2 rfl) ?_
    refine wp_iload_n rfl (ck_get kk_Mo_loop 3 rfl) ?_
    refine wp_iload_n rfl (ck_get kk_Mo_loop 4 rfl) ?_
    refine wp_cV3i (ck_get kk_Mo_loop 5 rfl) ml_Mo_395 (by omega) (Nat.le_of_ble_eq_true rfl) (by assumption) (Ci.to (m_actL h hO) ?_)
    rintro x M1 e1
    have tm1 := e1.t2 to0
    refine wp_cV1i (ck_get kk_Mo_loop 6 rfl) ml_Mo_392 (by omega) (Nat.le_of_ble_eq_true rfl) (by assumption) (Ci.to (m_settleA h hO hc (by omega) e1) ?_)
    rintro x M1 ⟨e2, e3, e4⟩
    refine wp_ireturn (ck_get kk_Mo_loop 7 rfl) rfl rfl ⟨_, rfl, ?_⟩
    exact ⟨e2.trans e1.x, e3, e4⟩
theorem b_pass : Both g Y_Mc_pass Y_Mo_pass [] := by
  intro c z hc hO
  refine ⟨zActX z 3 (nI 0) (nI 0) (nI 0), _, hO.actS (kd := 3) (t := nI 0) (a := nI 0) (b := nI 0) hc (by omega), fun M h => ?_, fun M h => ?_⟩
  · have hCR := h
    have hC' := h.le (Nat.le_succ c)
    obtain ⟨pf, pg, hL, hSC, hTC, hIC, hDC, hPC, hNC, hBC, hZC⟩ := h
    obtain ⟨t0, ⟨r00, hSh⟩, ⟨r01, hTr⟩, ⟨r02, hTg⟩, ⟨r03, hWa⟩, ⟨r04, hWp⟩, ⟨r06, t921, r921a, r921b, hS0, hS1⟩, ⟨r07, t922⟩, ⟨r08, t923⟩, ⟨r010, hPa⟩, ⟨r011, hJu⟩, ⟨r012, hRe⟩, ⟨r013, hCu⟩, ⟨r014, hDe⟩, ⟨r018, t959⟩, hPf⟩ := id hL
    have t1 : mT M 1 = (6, 0) := hSh.1
    have r10 : mR M 1 0 = some 2 := hSh.2.1
    have hW2 : WoAt (mT M) (mR M) 2 := hSh.2.2.1
    have t2 : mT M 2 = (9, 0) := hW2.1
    have r20 : mR M 2 0 = some 3 := hW2.2.1
    have t3 : mT M 3 = (24, 4) := hW2.2.2.1
    have t31 : mT M 31 = (8, 0) := hTr.1
    have t924 : mT M 924 = (3, 0) := hPa.1
    have t934 : mT M 934 = (2, 0) := hJu.1
    have t938 : mT M 938 = (5, 0) := hRe.1
    have t947 : mT M 947 = (0, 0) := hCu.1
    have t952 : mT M 952 = (1, 0) := hDe.1
    refine cw_entry 0 pf_Mc_pass rfl ?_
    refine wp_aload_n rfl (ck_get kk_Mc_pass 0 rfl) ?_
    refine wp_aload_n rfl (ck_get kk_Mc_pass 1 rfl) ?_
    refine wp_aload_n rfl (ck_get kk_Mc_pass 2 rfl) ?_
    refine wp_getR (ck_get kk_Mc_pass 3 rfl) fl_Mc_19 (by assumption) (by assumption) ?_
    refine wp_iconst (v := nI 3) (by decide) (ck_get kk_Mc_pass 4 rfl) ?_
    refine wp_iconst (v := nI 0) (by decide) (ck_get kk_Mc_pass 5 rfl) ?_
    refine wp_iconst (v := nI 0) (by decide) (ck_get kk_Mc_pass 6 rfl) ?_
    refine wp_iconst (v := nI 0) (by decide) (ck_get kk_Mc_pass 7 rfl) ?_
    refine wp_cV5i (ck_get kk_Mc_pass 8 rfl) ml_Mc_264 (by omega) (Nat.le_of_ble_eq_true rfl) (by assumption) (Ci.to (c_actS (kd := 3) hCR hO hc (by omega)) ?_)
    rintro x M1 e1
    have tm1 := e1.t0 t0
    refine wp_cV1i (ck_get kk_Mc_pass 9 rfl) ml_Mc_268 (by omega) (Nat.le_of_ble_eq_true rfl) (by assumption) (Ci.to (c_settleA hCR hO hc (by omega) e1) ?_)
    rintro x M1 ⟨e2, e3, e4⟩
    refine wp_ireturn (ck_get kk_Mc_pass 10 rfl) rfl rfl ⟨_, rfl, ?_⟩
    exact ⟨e2.trans e1.x, e3, e4⟩
  · skip
    obtain ⟨hM, hSM, hUM, hIM, hDM, hPM, hNM, hBM⟩ := id h
    have to0 := hM.1
    refine cw_entry 0 pf_Mo_pass rfl ?_
    refine wp_aload_n rfl (ck_get kk_Mo_pass 0 rfl) ?_
    refine wp_aload_n rfl (ck_get kk_Mo_pass 1 rfl) ?_
    refine wp_cV0i (ck_get kk_Mo_pass 2 rfl) ml_Mo_401 (by omega) (Nat.le_of_ble_eq_true rfl) (by assumption) (Ci.to (m_actP (t := nI 0) (a := nI 0) (b := nI 0) h hO hc) ?_)
    rintro x M1 e1
    have tm1 := e1.t2 to0
    refine wp_cV1i (ck_get kk_Mo_pass 3 rfl) ml_Mo_392 (by omega) (Nat.le_of_ble_eq_true rfl) (by assumption) (Ci.to (m_settleA h hO hc (by omega) e1) ?_)
    rintro x M1 ⟨e2, e3, e4⟩
    refine wp_ireturn (ck_get kk_Mo_pass 4 rfl) rfl rfl ⟨_, rfl, ?_⟩
    exact ⟨e2.trans e1.x, e3, e4⟩
theorem un_eq {u : Nat} : unM M 1020 u = wkM (ubM M 1020 (mI M (1020 + 16)) (mJ M (1020 + 17))) 1020 (cpL (mI M (1020 + 2)) (mI M (1020 + 16)) 0 (370 * u) 369) (cpL (mJ M (1020 + 3)) (mJ M (1020 + 17)) 0 (100 * u) 100) (mI M (1020 + 15)) (up1 (mI M 1020) 36 (nI u)) := by
  rw [show ubM M 1020 (mI M (1020 + 16)) (mJ M (1020 + 17)) = M from mk2_ext (M := M) (up1_id rfl) (up1_id rfl)]
  refine mk2_ext (M := M) ?_ rfl
  funext x
  show up1 (up2 (mI M) 1020 36 (nI u)) (1020 + 2) (cpL (up2 (mI M) 1020 36 (nI u) (1020 + 2)) (up2 (mI M) 1020 36 (nI u) (1020 + 16)) 0 (370 * u) 369) x = up1 (up1 (up1 (mI M) (1020 + 2) (cpL (mI M (1020 + 2)) (mI M (1020 + 16)) 0 (370 * u) 369)) (1020 + 15) (mI M (1020 + 15))) 1020 (up1 (mI M 1020) 36 (nI u)) x
  rw [up2_o (show 1020 + 2 ≠ 1020 by omega), up2_o (show 1020 + 16 ≠ 1020 by omega)]
  by_cases c : x = 1020
  · subst c
    rw [up1_ne (by omega), up1_eq, up2_up1, up1_eq]
  · rw [up1_ne (a := 1020) c]
    by_cases c1 : x = 1020 + 15
    · subst c1
      rw [up1_ne (by omega), up1_eq, up2_o (by omega)]
    · rw [up1_ne c1]
      by_cases c2 : x = 1020 + 2
      · subst c2
        rw [up1_eq, up1_eq]
      · rw [up1_ne c2, up1_ne c2, up2_o c]
/-- undone -/
theorem b_undo : Both g Y_Mc_undo Y_Mo_undo [] := by
  intro c z hc hO
  have h16 := hO.2.1.1
  by_cases h0 : (zU z).1 = 0
  · refine ⟨-3, zBad z 3, (hO.le (Nat.le_succ c)).bad, fun M h => ?_, fun M h => ?_⟩
    · skip
      have hC' := h.le (Nat.le_succ c)
      obtain ⟨pf, pg, hL, hSC, hTC, hIC, hDC, hPC, hNC, hBC, hZC⟩ := h
      obtain ⟨t0, ⟨r00, hSh⟩, ⟨r01, hTr⟩, ⟨r02, hTg⟩, ⟨r03, hWa⟩, ⟨r04, hWp⟩, ⟨r06, t921, r921a, r921b, hS0, hS1⟩, ⟨r07, t922⟩, ⟨r08, t923⟩, ⟨r010, hPa⟩, ⟨r011, hJu⟩, ⟨r012, hRe⟩, ⟨r013, hCu⟩, ⟨r014, hDe⟩, ⟨r018, t959⟩, hPf⟩ := id hL
      have t1 : mT M 1 = (6, 0) := hSh.1
      have r10 : mR M 1 0 = some 2 := hSh.2.1
      have hW2 : WoAt (mT M) (mR M) 2 := hSh.2.2.1
      have t2 : mT M 2 = (9, 0) := hW2.1
      have r20 : mR M 2 0 = some 3 := hW2.2.1
      have t3 : mT M 3 = (24, 4) := hW2.2.2.1
      have t31 : mT M 31 = (8, 0) := hTr.1
      have t924 : mT M 924 = (3, 0) := hPa.1
      have t934 : mT M 934 = (2, 0) := hJu.1
      have t938 : mT M 938 = (5, 0) := hRe.1
      have t947 : mT M 947 = (0, 0) := hCu.1
      have t952 : mT M 952 = (1, 0) := hDe.1
      obtain ⟨f, hTC⟩ := hTC
      refine cw_entry 1 pf_Mc_undo rfl ?_
      refine wp_aload_n rfl (ck_get kk_Mc_undo 0 rfl) ?_
      refine wp_getR (ck_get kk_Mc_undo 1 rfl) fl_Mc_19 (by assumption) (by assumption) ?_
      refine wp_aload_n rfl (ck_get kk_Mc_undo 2 rfl) ?_
      refine wp_getR (ck_get kk_Mc_undo 3 rfl) fl_Mc_12 (by assumption) (by assumption) ?_
      refine wp_getR (ck_get kk_Mc_undo 4 rfl) fl_Mc_107 (by assumption) (by assumption) ?_
      refine wp_cV1i (ck_get kk_Mc_undo 5 rfl) ml_Mc_271 (by omega) (Nat.le_of_ble_eq_true rfl) (by assumption) (Ci.to (c_popT (by exact hTr) hTC (fun i hi => (hO.2.1.2 i hi).2.1) (by exact hW2) (fun s hs => by have := slA_lt (hPf.1 s hs).1; omega) (by omega) (fun s hs => by have := slA_lt (hPf.1 s hs).1; omega)) ?_)
      rintro x M1 e1
      have e1' : (zU z).1 = 0 ∧ x = -1 ∧ M1 = M := e1.resolve_right (fun q => q.1 h0)
      obtain ⟨-, rfl, rfl⟩ := e1'
      refine wp_istore_n (ck_get kk_Mc_undo 6 rfl) (by decide) rfl ?_
      refine wp_iload_n rfl (ck_get kk_Mc_undo 7 rfl) ?_
      refine wp_iconst (v := (-1)) (by decide) (ck_get kk_Mc_undo 8 rfl) ?_
      first | refine wp_icmp_neN (t := 29) (ck_get kk_Mc_undo 9 rfl) (by decide) (by omega) (by omega) (fun hc17 => ?_) (fun hc17 => ?_) | refine wp_icmp_ne (t := 29) (ck_get kk_Mc_undo 9 rfl) (by decide) (fun hc17 => ?_) (fun hc17 => ?_)
      · exact absurd rfl hc17
      · refine wp_aload_n rfl (ck_get kk_Mc_undo 10 rfl) ?_
        refine wp_bipush (v := (-3)) (by decide) (ck_get kk_Mc_undo 11 rfl) ?_
        refine wp_cV1i (ck_get kk_Mc_undo 12 rfl) ml_Mc_172 (by omega) (Nat.le_of_ble_eq_true rfl) (by assumption) (Ci.to (c_refuse (k := 3) (by decide) (by omega) (by omega) hL) ?_)
        rintro x M1 ⟨e1, e2⟩
        refine wp_goto (t := 34) (ck_get kk_Mc_undo 13 rfl) (by decide) ?_
        refine wp_ireturn (ck_get kk_Mc_undo 17 rfl) rfl rfl ⟨_, rfl, ?_⟩
        exact ⟨e1, by rw [e2]; exact hC'.bad (by omega), by rw [e2]; exact MSame.bd⟩
    · skip
      obtain ⟨hM, hSM, hUM, hIM, hDM, hPM, hNM, hBM⟩ := id h
      refine Ci.to (Cw.le (n2 := 300) (by omega) (m_undo hM hUM.1 h16)) ?_
      rintro x M2 (⟨-, rfl, rfl⟩ | ⟨q, -⟩)
      · exact ⟨rfl, h.bad (k := 3) (by omega), CSame.rf⟩
      · exact absurd h0 q
  · have hu := hO.2.1.2 ((zU z).1 - 1) (by omega)
    refine ⟨nI ((zU z).2 ((zU z).1 - 1)).1, zGood ((((zU z).2 ((zU z).1 - 1)).2, (zS z).2), ((zU z).1 - 1, (zU z).2), z.2.2), ZOK.good ?_, fun M h => ?_, fun M h => ?_⟩
    · have h1 := hO.le (Nat.le_succ c)
      have hu1 := h1.2.1.2 ((zU z).1 - 1) (by omega)
      exact ⟨h1.1.wo hu1.2.1 hu1.2.2, ⟨by show (zU z).1 - 1 ≤ 16; omega, fun i hi => h1.2.1.2 i (by have : i < (zU z).1 - 1 := hi; omega)⟩, h1.2.2⟩
    · skip
      have hC' := h.le (Nat.le_succ c)
      obtain ⟨pf, pg, hL, hSC, hTC, hIC, hDC, hPC, hNC, hBC, hZC⟩ := h
      obtain ⟨t0, ⟨r00, hSh⟩, ⟨r01, hTr⟩, ⟨r02, hTg⟩, ⟨r03, hWa⟩, ⟨r04, hWp⟩, ⟨r06, t921, r921a, r921b, hS0, hS1⟩, ⟨r07, t922⟩, ⟨r08, t923⟩, ⟨r010, hPa⟩, ⟨r011, hJu⟩, ⟨r012, hRe⟩, ⟨r013, hCu⟩, ⟨r014, hDe⟩, ⟨r018, t959⟩, hPf⟩ := id hL
      have t1 : mT M 1 = (6, 0) := hSh.1
      have r10 : mR M 1 0 = some 2 := hSh.2.1
      have hW2 : WoAt (mT M) (mR M) 2 := hSh.2.2.1
      have t2 : mT M 2 = (9, 0) := hW2.1
      have r20 : mR M 2 0 = some 3 := hW2.2.1
      have t3 : mT M 3 = (24, 4) := hW2.2.2.1
      have t31 : mT M 31 = (8, 0) := hTr.1
      have t924 : mT M 924 = (3, 0) := hPa.1
      have t934 : mT M 934 = (2, 0) := hJu.1
      have t938 : mT M 938 = (5, 0) := hRe.1
      have t947 : mT M 947 = (0, 0) := hCu.1
      have t952 : mT M 952 = (1, 0) := hDe.1
      obtain ⟨f, hTC⟩ := hTC
      refine cw_entry 1 pf_Mc_undo rfl ?_
      refine wp_aload_n rfl (ck_get kk_Mc_undo 0 rfl) ?_
      refine wp_getR (ck_get kk_Mc_undo 1 rfl) fl_Mc_19 (by assumption) (by assumption) ?_
      refine wp_aload_n rfl (ck_get kk_Mc_undo 2 rfl) ?_
      refine wp_getR (ck_get kk_Mc_undo 3 rfl) fl_Mc_12 (by assumption) (by assumption) ?_
      refine wp_getR (ck_get kk_Mc_undo 4 rfl) fl_Mc_107 (by assumption) (by assumption) ?_
      refine wp_cV1i (ck_get kk_Mc_undo 5 rfl) ml_Mc_271 (by omega) (Nat.le_of_ble_eq_true rfl) (by assumption) (Ci.to (c_popT (by exact hTr) hTC (fun i hi => (hO.2.1.2 i hi).2.1) (by exact hW2) (fun s hs => by have := slA_lt (hPf.1 s hs).1; omega) (by omega) (fun s hs => by have := slA_lt (hPf.1 s hs).1; omega)) ?_)
      rintro x M1 e1
      obtain ⟨-, rfl, I2, J2, rfl, e3, e4, e5⟩ := e1.resolve_left (fun q => h0 q.1)
      refine wp_istore_n (ck_get kk_Mc_undo 6 rfl) (by decide) rfl ?_
      refine wp_iload_n rfl (ck_get kk_Mc_undo 7 rfl) ?_
      refine wp_iconst (v := (-1)) (by decide) (ck_get kk_Mc_undo 8 rfl) ?_
      refine wp_icmp_ne (t := 29) (ck_get kk_Mc_undo 9 rfl) (by decide) (fun hc17 => ?_) (fun hc17 => ?_)
      · refine wp_aload_n rfl (ck_get kk_Mc_undo 14 rfl) ?_
        refine wp_iload_n rfl (ck_get kk_Mc_undo 15 rfl) ?_
        refine wp_cV1i (ck_get kk_Mc_undo 16 rfl) ml_Mc_185 (by omega) (Nat.le_of_ble_eq_true rfl) (by assumption) (Ci.to (c_accept (pf := pf) (pg := pg) (by exact hL)) ?_)
        rintro x M1 ⟨e6, e7⟩
        refine wp_ireturn (ck_get kk_Mc_undo 17 rfl) rfl rfl ⟨_, rfl, ?_⟩
        obtain ⟨d1, d2⟩ := CR.act (u := ((zU z).1 - 1, (zU z).2)) hL hSC hIC hDC hPC hNC hBC hZC e3 e4 (fun x a b c _ => e5 x (by omega) (by omega))
        exact ⟨e6, by rw [e7]; exact d1.good, by rw [e7]; exact d2.trans MSame.ac⟩
      · exact absurd hc17 (nI_ne1 (by have := hu.1; omega))
    · skip
      obtain ⟨hM, hSM, hUM, hIM, hDM, hPM, hNM, hBM⟩ := id h
      refine Ci.to (Cw.le (n2 := 300) (by omega) (m_undo hM hUM.1 h16)) ?_
      rintro x M2 (⟨q, -⟩ | ⟨-, rfl, rfl⟩)
      · exact absurd q h0
      have hmu := hUM.2 ((zU z).1 - 1) (by omega)
      refine ⟨hmu.2, ?_, ?_⟩
      · rw [un_eq]
        refine MR.good (h.wu (u2 := ((zU z).1 - 1, (zU z).2)) (h.2.1.wo (w := ((zU z).2 ((zU z).1 - 1)).2) ?_ hO.1.2.2.2.2.2.2.2.2.1 (fun x hx => ?_)) up1_eq (fun i hi => hUM.2 i (by have : i < (zU z).1 - 1 := hi; omega)) (fun k a b => up1_ne b) ?_)
        · refine MwHas.move hmu.1 hu.2.1 (fun x hx => ?_) (fun x hx => ?_)
          · unfold cpL; rw [if_pos (by omega), show 0 + x - 0 = x by omega]
          · unfold cpL; rw [if_pos (by omega), show 0 + x - 0 = x by omega]
        · unfold cpL; rw [if_neg (by omega)]
        · rw [up1_ne (by omega)]; exact hNM.2.2.2.2.1
      · rw [un_eq]
        exact CSame.wu.trans CSame.gd
end ACS

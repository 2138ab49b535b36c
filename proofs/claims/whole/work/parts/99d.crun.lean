/-! ===== the class runs a clause once ===== -/
section CRN
variable {g : Gl} {M : Mem} {pf pg : Nat → Nat} {res : (Nat → Int32) → Int32 × Int32} {md salt : Nat}
theorem evM_evM {j : Nat} {S S2 : Nat → Int64} : evM (evM M j S) j S2 = evM M j S2 := by
  refine mk2_ext (M := M) rfl ?_
  show up1 (up1 (mJ M) (j + 3) S) (j + 3) S2 = _
  rw [up1_up1]
theorem evM_J {S : Nat → Int64} {x : Nat} (h : x ≠ 937) : mJ (evM M 934 S) x = mJ M x := by
  show up1 (mJ M) (934 + 3) S x = _
  rw [up1_ne (by omega)]
/-- behind a clause that was run once -/
def rcQ (res : (Nat → Int32) → Int32 × Int32) (md salt : Nat) (M : Mem) (wf : Nat → Nat) (f n : Nat) (u : UF) (C : Nat → Int32) (cn : Nat) (s : OS) (e : Nat → Int32) (kd : Nat) (x : Int32) (M2 : Mem) : Prop :=
  (¬ oCan C cn s e ∧ x < 0 ∧ ∃ S2, M2 = evM M 934 S2) ∨
  (oCan C cn s e ∧ x = nI (acW res md salt kd s.1 (oA3 C cn s e).1.toNatClampNeg (oA3 C cn s e).2.1.toNatClampNeg (oA3 C cn s e).2.2.toNatClampNeg).1 ∧ ∃ I2 J2, M2 = mk2 M I2 J2 ∧ WoHas I2 J2 2 (acW res md salt kd s.1 (oA3 C cn s e).1.toNatClampNeg (oA3 C cn s e).2.1.toNatClampNeg (oA3 C cn s e).2.2.toNatClampNeg).2 ∧ TrHas I2 J2 450 wf (nfi f n) (nsz n) (psU n u (kd, s.1)) ∧ AFr 450 wf (mI M) (mJ M) I2 J2)
theorem c_runClause {n cn kd f m : Nat} {u : UF} {s : OS} (hL : LayC (mT M) (mR M) pf pg) (hU : TrHas (mI M) (mJ M) 450 (fun s => slA (pg s)) f m u) (hs : WoHas (mI M) (mJ M) 2 s.1) (hT : WOK s.1) (hB : tot s.1 < 2147483648) (hN : ShN (mT M) (mR M) (mI M) res md salt) (hn : n < 12) (h8 : mI M 925 8 = nI cn) (hcn : cn ≤ 1024) (hC : CodeW (mI M 932) cn 11) (hV : ∀ k, k < 11 → mI M 935 k = oV s k) (hk1 : mI M 926 n = nI kd) (hk4 : kd < 4) (hO : kd = 3 ∨ (EtOK (fun k => mI M (925 + k) n) 4 cn ∧ EtOK (fun k => mI M (925 + k) n) 6 cn ∧ (kd = 1 → EtOK (fun k => mI M (925 + k) n) 5 cn))) :
    Ci g Y_Mc_runClause 20 [.ref 0, .ref 925, .int (nI n)] M (fun x M2 => rcQ res md salt M (fun s => slA (pg s)) f m u (mI M 932) cn s (fun k => mI M (925 + k) n) kd x M2) := by
  have hL0 := hL
  obtain ⟨t0, -, -, ⟨r2, hTr⟩, -, -, -, -, -, ⟨r10, hPa⟩, ⟨r11, hJu⟩, -, -, -, -, hPf⟩ := hL
  have hPr := hPa.2.2.1
  have tp0 := hPr.1
  have rp1 := hPr.2.1 1 (by omega) (by omega)
  have tp1 := hPr.2.2.1 1 (by omega) (by omega)
  have rp4 := hPr.2.1 4 (by omega) (by omega)
  have tp4 := hPr.2.2.1 4 (by omega) (by omega)
  have rp5 := hPr.2.1 5 (by omega) (by omega)
  have tp5 := hPr.2.2.1 5 (by omega) (by omega)
  have rp6 := hPr.2.1 6 (by omega) (by omega)
  have tp6 := hPr.2.2.1 6 (by omega) (by omega)
  have hJ0 := hJu
  obtain ⟨tj0, rj2, tj1, -⟩ := hJu
  have e1 : (mI M (925 + 1) n) = nI kd := hk1
  have hcl1 : (mI M (925 + 1) n).toNatClampNeg = kd := by rw [e1]; exact nI_clamp (by omega)
  -- what is done, from a memory that the judge has used
  have hact : ∀ (S : Nat → Int64) (t a b : Int32), Ci g Y_Mc_act 15 [.ref 0, .ref 450, .int (nI kd), .int t, .int a, .int b] (evM M 934 S) (fun x M2 => (¬ acV kd s.1 t a b = 0 ∧ x < 0 ∧ ∃ S2, M2 = evM M 934 S2) ∨ (acV kd s.1 t a b = 0 ∧ x = nI (acW res md salt kd s.1 t.toNatClampNeg a.toNatClampNeg b.toNatClampNeg).1 ∧ ∃ I2 J2, M2 = mk2 M I2 J2 ∧ WoHas I2 J2 2 (acW res md salt kd s.1 t.toNatClampNeg a.toNatClampNeg b.toNatClampNeg).2 ∧ TrHas I2 J2 450 (fun s => slA (pg s)) (nfi f m) (nsz m) (psU m u (kd, s.1)) ∧ AFr 450 (fun s => slA (pg s)) (mI M) (mJ M) I2 J2)) := by
    intro S t a b
    have hU2 : TrHas (mI (evM M 934 S)) (mJ (evM M 934 S)) 450 (fun s => slA (pg s)) f m u := hU.kept ⟨rfl, rfl⟩ (fun q hq x h1 h2 => ⟨rfl, evM_J (by have := slA_lt (hPf.1 q hq).2; have h2' : x < slA (pg q) + 26 := h2; omega)⟩)
    have hs2 : WoHas (mI (evM M 934 S)) (mJ (evM M 934 S)) 2 s.1 := hs.kept (fun x h1 h2 => ⟨rfl, evM_J (by omega)⟩)
    refine (c_act (g := g) (M := evM M 934 S) (kd := kd) (t := t) (a := a) (b := b) (by exact hL0) (by exact hTr) (TrP.gg hPf) hU2 hs2 hT hB (by exact hN) hk4).to (fun x M2 h => ?_)
    rcases h with ⟨h1, h2, h3⟩ | ⟨h1, h2, I2, J2, h3, h4, h5, h6⟩
    · exact Or.inl ⟨h1, by rw [h2]; exact acV_neg h1, S, h3⟩
    · refine Or.inr ⟨h1, h2, I2, J2, h3, h4, h5, fun x q1 q2 q3 q4 => ?_⟩
      obtain ⟨z1, z2⟩ := h6 x q1 q2 q3 q4
      exact ⟨z1, z2.trans (evM_J (by omega))⟩
  have hev : ∀ (S : Nat → Int64) (fr : Nat), fr % 2 = 0 → fr ≤ cn → Cl g Y_Ju_evaluate 1 [.ref 934, .ref 925, .int (nI fr), .ref 935] (evM M 934 S) (fun x M2 => x = ev0 (mI M 932) cn (oV s) 11 fr ∧ ∃ S2, M2 = evM M 934 S2) := by
    intro S fr h1 h2
    refine (c_eval0 (g := g) (M := evM M 934 S) (j := 934) (p := 925) (w := 935) (fr := fr) (by exact hJ0) (by exact hPr) (by exact h8) hcn (by omega) (by exact tj1) (by omega) (by exact hC) h1 h2).to (fun x M2 h => ?_)
    obtain ⟨h3, S2, h4⟩ := h
    exact ⟨h3.trans (ev0_V hV fr), S2, h4.trans evM_evM⟩
  have fin : ∀ (t a b : Int32) (x : Int32) (M2 : Mem), oA3 (mI M 932) cn s (fun k => mI M (925 + k) n) = (t, a, b) → oSum (mI M 932) cn s (fun k => mI M (925 + k) n) → ((¬ acV kd s.1 t a b = 0 ∧ x < 0 ∧ ∃ S2, M2 = evM M 934 S2) ∨ (acV kd s.1 t a b = 0 ∧ x = nI (acW res md salt kd s.1 t.toNatClampNeg a.toNatClampNeg b.toNatClampNeg).1 ∧ ∃ I2 J2, M2 = mk2 M I2 J2 ∧ WoHas I2 J2 2 (acW res md salt kd s.1 t.toNatClampNeg a.toNatClampNeg b.toNatClampNeg).2 ∧ TrHas I2 J2 450 (fun s => slA (pg s)) (nfi f m) (nsz m) (psU m u (kd, s.1)) ∧ AFr 450 (fun s => slA (pg s)) (mI M) (mJ M) I2 J2)) → rcQ res md salt M (fun s => slA (pg s)) f m u (mI M 932) cn s (fun k => mI M (925 + k) n) kd x M2 := by
    intro t a b x M2 hA hS hQ
    unfold rcQ oCan
    rw [hA]
    show (¬ (_ ∧ acV (mI M (925 + 1) n).toNatClampNeg s.1 t a b = 0) ∧ _) ∨ ((_ ∧ acV (mI M (925 + 1) n).toNatClampNeg s.1 t a b = 0) ∧ _)
    rw [hcl1]
    rcases hQ with ⟨h1, h2, h3⟩ | ⟨h1, h2, h3⟩
    · exact Or.inl ⟨fun q => h1 q.2, h2, h3⟩
    · exact Or.inr ⟨⟨hS, h1⟩, h2, h3⟩
  have hid : evM M 934 (mJ M 937) = M := by show mk2 M (mI M) (up1 (mJ M) 937 (mJ M 937)) = M; rw [up1_self]
  refine cw_entry 7 pf_Mc_runClause rfl ?_
  by_cases k3 : kd = 3
  · subst k3
    have hact0 := hact (mJ M 937) 0 0 0
    rw [hid] at hact0
    have hA : oA3 (mI M 932) cn s (fun k => mI M (925 + k) n) = (0, 0, 0) := by unfold oA3; rw [if_pos e1]
    have hS : oSum (mI M 932) cn s (fun k => mI M (925 + k) n) := by
      intro c hc
      unfold ksO at hc
      rw [if_pos e1] at hc
      exact absurd hc List.not_mem_nil
    refine wp_aload_n rfl (ck_get kk_Mc_runClause 0 rfl) ?_
    refine wp_getR (ck_get kk_Mc_runClause 1 rfl) fl_Mc_251 (by assumption) (by assumption) ?_
    refine wp_iload_n rfl (ck_get kk_Mc_runClause 2 rfl) ?_
    refine wp_ialdv (v := nI 3) (ck_get kk_Mc_runClause 3 rfl) (by assumption) (ixk_nI (k := n) (by omega) (by omega)) (hk1) ?_
    refine wp_istore_n (ck_get kk_Mc_runClause 4 rfl) (by decide) rfl ?_
    refine wp_iload_n rfl (ck_get kk_Mc_runClause 5 rfl) ?_
    refine wp_iconst (v := nI 3) (by decide) (ck_get kk_Mc_runClause 6 rfl) ?_
    first | refine wp_icmp_neN (t := 25) (ck_get kk_Mc_runClause 7 rfl) (by decide) (by omega) (by omega) (fun hc9 => ?_) (fun hc9 => ?_) | refine wp_icmp_ne (t := 25) (ck_get kk_Mc_runClause 7 rfl) (by decide) (fun hc9 => ?_) (fun hc9 => ?_)
    · omega
    · refine wp_aload_n rfl (ck_get kk_Mc_runClause 8 rfl) ?_
      refine wp_aload_n rfl (ck_get kk_Mc_runClause 9 rfl) ?_
      refine wp_getR (ck_get kk_Mc_runClause 10 rfl) fl_Mc_23 (by assumption) (by assumption) ?_
      refine wp_iconst (v := nI 3) (by decide) (ck_get kk_Mc_runClause 11 rfl) ?_
      refine wp_iconst (v := nI 0) (by decide) (ck_get kk_Mc_runClause 12 rfl) ?_
      refine wp_iconst (v := nI 0) (by decide) (ck_get kk_Mc_runClause 13 rfl) ?_
      refine wp_iconst (v := nI 0) (by decide) (ck_get kk_Mc_runClause 14 rfl) ?_
      refine wp_cV5i (ck_get kk_Mc_runClause 15 rfl) ml_Mc_264 (by omega) (Nat.le_of_ble_eq_true rfl) (by assumption) (Ci.to (hact0) ?_)
      rintro x₁ M₁ hQ
      refine wp_ireturn (ck_get kk_Mc_runClause 16 rfl) rfl rfl ⟨_, rfl, ?_⟩
      exact fin 0 0 0 _ _ hA hS hQ
  · obtain ⟨⟨a4, b4, c4, d4⟩, ⟨a6, b6, c6, d6⟩, h5⟩ := hO.resolve_left k3
    have d4' : mI M 929 n = nI a4 := d4
    have d6' : mI M 931 n = nI a6 := d6
    have n3 : ¬ mI M (925 + 1) n = nI 3 := by rw [e1]; exact nIne (by omega) (by omega) k3
    have hev0 := hev (mJ M 937) a4 c4 b4
    rw [hid] at hev0
    have x4 : oX (mI M 932) cn s (mI M (925 + 4) n) = ev0 (mI M 932) cn (oV s) 11 a4 := by unfold oX; rw [d4', nI_clamp (by omega)]
    have x6 : oX (mI M 932) cn s (mI M (925 + 6) n) = ev0 (mI M 932) cn (oV s) 11 a6 := by unfold oX; rw [d6', nI_clamp (by omega)]
    by_cases k1 : kd = 1
    · subst k1
      obtain ⟨a5, b5, c5, d5⟩ := h5 rfl
      have d5' : mI M 930 n = nI a5 := d5
      have x5 : oX (mI M 932) cn s (mI M (925 + 5) n) = ev0 (mI M 932) cn (oV s) 11 a5 := by unfold oX; rw [d5', nI_clamp (by omega)]
      have hA : oA3 (mI M 932) cn s (fun k => mI M (925 + k) n) = ((ev0 (mI M 932) cn (oV s) 11 a6).toInt32, (ev0 (mI M 932) cn (oV s) 11 a4).toInt32, (ev0 (mI M 932) cn (oV s) 11 a5).toInt32) := by
        unfold oA3; rw [if_neg n3, if_pos e1, x4, x5, x6]
      have hS : oSum (mI M 932) cn s (fun k => mI M (925 + k) n) ↔ (¬ ev0 (mI M 932) cn (oV s) 11 a4 = brk ∧ ¬ ev0 (mI M 932) cn (oV s) 11 a5 = brk ∧ ¬ ev0 (mI M 932) cn (oV s) 11 a6 = brk) := by
        unfold oSum ksO
        rw [if_neg n3, if_pos e1]
        simp only [List.mem_cons, List.not_mem_nil, or_false, forall_eq_or_imp, forall_eq]
        rw [show mI M (925 + 4) n = nI a4 from d4, show mI M (925 + 5) n = nI a5 from d5, show mI M (925 + 6) n = nI a6 from d6, nI_clamp (by omega), nI_clamp (by omega), nI_clamp (by omega)]
      have hno : (ev0 (mI M 932) cn (oV s) 11 a4 = brk ∨ ev0 (mI M 932) cn (oV s) 11 a5 = brk ∨ ev0 (mI M 932) cn (oV s) 11 a6 = brk) → ¬ oCan (mI M 932) cn s (fun k => mI M (925 + k) n) := fun q z => by
        obtain ⟨z1, z2, z3⟩ := hS.mp z.1
        rcases q with q | q | q
        · exact z1 q
        · exact z2 q
        · exact z3 q
      refine wp_aload_n rfl (ck_get kk_Mc_runClause 0 rfl) ?_
      refine wp_getR (ck_get kk_Mc_runClause 1 rfl) fl_Mc_251 (by assumption) (by assumption) ?_
      refine wp_iload_n rfl (ck_get kk_Mc_runClause 2 rfl) ?_
      refine wp_ialdv (v := nI 1) (ck_get kk_Mc_runClause 3 rfl) (by assumption) (ixk_nI (k := n) (by omega) (by omega)) (hk1) ?_
      refine wp_istore_n (ck_get kk_Mc_runClause 4 rfl) (by decide) rfl ?_
      refine wp_iload_n rfl (ck_get kk_Mc_runClause 5 rfl) ?_
      refine wp_iconst (v := nI 3) (by decide) (ck_get kk_Mc_runClause 6 rfl) ?_
      first | refine wp_icmp_neN (t := 25) (ck_get kk_Mc_runClause 7 rfl) (by decide) (by omega) (by omega) (fun hc9 => ?_) (fun hc9 => ?_) | refine wp_icmp_ne (t := 25) (ck_get kk_Mc_runClause 7 rfl) (by decide) (fun hc9 => ?_) (fun hc9 => ?_)
      · refine wp_aload_n rfl (ck_get kk_Mc_runClause 17 rfl) ?_
        refine wp_getR (ck_get kk_Mc_runClause 18 rfl) fl_Mc_66 (by assumption) (by assumption) ?_
        refine wp_aload_n rfl (ck_get kk_Mc_runClause 19 rfl) ?_
        refine wp_aload_n rfl (ck_get kk_Mc_runClause 20 rfl) ?_
        refine wp_getR (ck_get kk_Mc_runClause 21 rfl) fl_Mc_435 (by assumption) (by assumption) ?_
        refine wp_iload_n rfl (ck_get kk_Mc_runClause 22 rfl) ?_
        refine wp_ialdv (v := nI a4) (ck_get kk_Mc_runClause 23 rfl) (by assumption) (ixk_nI (k := n) (by omega) (by omega)) (d4') ?_
        refine wp_aload_n rfl (ck_get kk_Mc_runClause 24 rfl) ?_
        refine wp_getR (ck_get kk_Mc_runClause 25 rfl) fl_Mc_66 (by assumption) (by assumption) ?_
        refine wp_getR (ck_get kk_Mc_runClause 26 rfl) fl_Mc_425 (by assumption) (by assumption) ?_
        refine wp_cV3l (ck_get kk_Mc_runClause 27 rfl) ml_Mc_431 (by omega) (Nat.le_of_ble_eq_true rfl) (by assumption) (Cl.to (hev0) ?_)
        rintro v₁ M₁ ⟨hv1, S1, rfl⟩
        refine wp_lstore (ck_get kk_Mc_runClause 28 rfl) (by decide) rfl ?_
        refine wp_iload_n rfl (ck_get kk_Mc_runClause 29 rfl) ?_
        refine wp_iconst (v := nI 1) (by decide) (ck_get kk_Mc_runClause 30 rfl) ?_
        first | refine wp_icmp_neN (t := 77) (ck_get kk_Mc_runClause 31 rfl) (by decide) (by omega) (by omega) (fun hc50 => ?_) (fun hc50 => ?_) | refine wp_icmp_ne (t := 77) (ck_get kk_Mc_runClause 31 rfl) (by decide) (fun hc50 => ?_) (fun hc50 => ?_)
        · omega
        · refine wp_aload_n rfl (ck_get kk_Mc_runClause 32 rfl) ?_
          refine wp_getR (ck_get kk_Mc_runClause 33 rfl) fl_Mc_66 (by assumption) (by assumption) ?_
          refine wp_aload_n rfl (ck_get kk_Mc_runClause 34 rfl) ?_
          refine wp_aload_n rfl (ck_get kk_Mc_runClause 35 rfl) ?_
          refine wp_getR (ck_get kk_Mc_runClause 36 rfl) fl_Mc_438 (by assumption) (by assumption) ?_
          refine wp_iload_n rfl (ck_get kk_Mc_runClause 37 rfl) ?_
          refine wp_ialdv (v := nI a5) (ck_get kk_Mc_runClause 38 rfl) (by assumption) (ixk_nI (k := n) (by omega) (by omega)) (d5') ?_
          refine wp_aload_n rfl (ck_get kk_Mc_runClause 39 rfl) ?_
          refine wp_getR (ck_get kk_Mc_runClause 40 rfl) fl_Mc_66 (by assumption) (by assumption) ?_
          refine wp_getR (ck_get kk_Mc_runClause 41 rfl) fl_Mc_425 (by assumption) (by assumption) ?_
          refine wp_cV3l (ck_get kk_Mc_runClause 42 rfl) ml_Mc_431 (by omega) (Nat.le_of_ble_eq_true rfl) (by assumption) (Cl.to (hev S1 a5 c5 b5) ?_)
          rintro v₂ M₂ ⟨hv2, S2, rfl⟩
          refine wp_goto (t := 79) (ck_get kk_Mc_runClause 43 rfl) (by decide) ?_
          refine wp_lstore (ck_get kk_Mc_runClause 45 rfl) (by decide) rfl ?_
          refine wp_aload_n rfl (ck_get kk_Mc_runClause 46 rfl) ?_
          refine wp_getR (ck_get kk_Mc_runClause 47 rfl) fl_Mc_66 (by assumption) (by assumption) ?_
          refine wp_aload_n rfl (ck_get kk_Mc_runClause 48 rfl) ?_
          refine wp_aload_n rfl (ck_get kk_Mc_runClause 49 rfl) ?_
          refine wp_getR (ck_get kk_Mc_runClause 50 rfl) fl_Mc_441 (by assumption) (by assumption) ?_
          refine wp_iload_n rfl (ck_get kk_Mc_runClause 51 rfl) ?_
          refine wp_ialdv (v := nI a6) (ck_get kk_Mc_runClause 52 rfl) (by assumption) (ixk_nI (k := n) (by omega) (by omega)) (d6') ?_
          refine wp_aload_n rfl (ck_get kk_Mc_runClause 53 rfl) ?_
          refine wp_getR (ck_get kk_Mc_runClause 54 rfl) fl_Mc_66 (by assumption) (by assumption) ?_
          refine wp_getR (ck_get kk_Mc_runClause 55 rfl) fl_Mc_425 (by assumption) (by assumption) ?_
          refine wp_cV3l (ck_get kk_Mc_runClause 56 rfl) ml_Mc_431 (by omega) (Nat.le_of_ble_eq_true rfl) (by assumption) (Cl.to (hev S2 a6 c6 b6) ?_)
          rintro v₃ M₃ ⟨hv3, S3, rfl⟩
          refine wp_lstore (ck_get kk_Mc_runClause 57 rfl) (by decide) rfl ?_
          refine wp_lload rfl (ck_get kk_Mc_runClause 58 rfl) ?_
          refine wp_ldc2 kl_Mc_444 (ck_get kk_Mc_runClause 59 rfl) ?_
          refine wp_lcmp (ck_get kk_Mc_runClause 60 rfl) ?_
          refine wp_if_eq (t := 131) (ck_get kk_Mc_runClause 61 rfl) (by decide) (fun hc110 => ?_) (fun hc110 => ?_)
          · refine wp_bipush (v := (-3)) (by decide) (ck_get kk_Mc_runClause 70 rfl) ?_
            refine wp_ireturn (ck_get kk_Mc_runClause 71 rfl) rfl rfl ⟨_, rfl, ?_⟩
            exact Or.inl ⟨hno (Or.inl (hv1.symm.trans ((lcmp_eq _ _).mp hc110))), by decide, S3, rfl⟩
          · refine wp_lload rfl (ck_get kk_Mc_runClause 62 rfl) ?_
            refine wp_ldc2 kl_Mc_444 (ck_get kk_Mc_runClause 63 rfl) ?_
            refine wp_lcmp (ck_get kk_Mc_runClause 64 rfl) ?_
            refine wp_if_eq (t := 131) (ck_get kk_Mc_runClause 65 rfl) (by decide) (fun hc119 => ?_) (fun hc119 => ?_)
            · refine wp_bipush (v := (-3)) (by decide) (ck_get kk_Mc_runClause 70 rfl) ?_
              refine wp_ireturn (ck_get kk_Mc_runClause 71 rfl) rfl rfl ⟨_, rfl, ?_⟩
              exact Or.inl ⟨hno (Or.inr (Or.inl (hv2.symm.trans ((lcmp_eq _ _).mp hc119)))), by decide, S3, rfl⟩
            · refine wp_lload rfl (ck_get kk_Mc_runClause 66 rfl) ?_
              refine wp_ldc2 kl_Mc_444 (ck_get kk_Mc_runClause 67 rfl) ?_
              refine wp_lcmp (ck_get kk_Mc_runClause 68 rfl) ?_
              refine wp_if_ne (t := 134) (ck_get kk_Mc_runClause 69 rfl) (by decide) (fun hc128 => ?_) (fun hc128 => ?_)
              · refine wp_aload_n rfl (ck_get kk_Mc_runClause 72 rfl) ?_
                refine wp_aload_n rfl (ck_get kk_Mc_runClause 73 rfl) ?_
                refine wp_getR (ck_get kk_Mc_runClause 74 rfl) fl_Mc_23 (by assumption) (by assumption) ?_
                refine wp_iload_n rfl (ck_get kk_Mc_runClause 75 rfl) ?_
                refine wp_lload rfl (ck_get kk_Mc_runClause 76 rfl) ?_
                refine wp_l2i (ck_get kk_Mc_runClause 77 rfl) ?_
                refine wp_lload rfl (ck_get kk_Mc_runClause 78 rfl) ?_
                refine wp_l2i (ck_get kk_Mc_runClause 79 rfl) ?_
                refine wp_lload rfl (ck_get kk_Mc_runClause 80 rfl) ?_
                refine wp_l2i (ck_get kk_Mc_runClause 81 rfl) ?_
                refine wp_cV5i (ck_get kk_Mc_runClause 82 rfl) ml_Mc_264 (by omega) (Nat.le_of_ble_eq_true rfl) (by assumption) (Ci.to (hact S3 _ _ _) ?_)
                rintro x₁ M₄ hQ
                refine wp_ireturn (ck_get kk_Mc_runClause 83 rfl) rfl rfl ⟨_, rfl, ?_⟩
                refine fin _ _ _ _ _ hA (hS.mpr ⟨?_, ?_, ?_⟩) ?_
                · exact fun q => hc110 ((lcmp_eq _ _).mpr (hv1.trans q))
                · exact fun q => hc119 ((lcmp_eq _ _).mpr (hv2.trans q))
                · exact fun q => hc128 ((lcmp_eq _ _).mpr (hv3.trans q))
                · rw [← hv1, ← hv2, ← hv3]; exact hQ
              · refine wp_bipush (v := (-3)) (by decide) (ck_get kk_Mc_runClause 70 rfl) ?_
                refine wp_ireturn (ck_get kk_Mc_runClause 71 rfl) rfl rfl ⟨_, rfl, ?_⟩
                exact Or.inl ⟨hno (Or.inr (Or.inr (hv3.symm.trans ((lcmp_eq _ _).mp hc128)))), by decide, S3, rfl⟩
      · omega
    · have n1 : ¬ mI M (925 + 1) n = nI 1 := by rw [e1]; exact nIne (by omega) (by omega) k1
      have hA : oA3 (mI M 932) cn s (fun k => mI M (925 + k) n) = ((ev0 (mI M 932) cn (oV s) 11 a6).toInt32, (ev0 (mI M 932) cn (oV s) 11 a4).toInt32, (ev0 (mI M 932) cn (oV s) 11 a4).toInt32) := by
        unfold oA3; rw [if_neg n3, if_neg n1, x4, x6]
      have hS : oSum (mI M 932) cn s (fun k => mI M (925 + k) n) ↔ (¬ ev0 (mI M 932) cn (oV s) 11 a4 = brk ∧ ¬ ev0 (mI M 932) cn (oV s) 11 a6 = brk) := by
        unfold oSum ksO
        rw [if_neg n3, if_neg n1]
        simp only [List.mem_cons, List.not_mem_nil, or_false, forall_eq_or_imp, forall_eq]
        rw [show mI M (925 + 4) n = nI a4 from d4, show mI M (925 + 6) n = nI a6 from d6, nI_clamp (by omega), nI_clamp (by omega)]
      have hno : (ev0 (mI M 932) cn (oV s) 11 a4 = brk ∨ ev0 (mI M 932) cn (oV s) 11 a6 = brk) → ¬ oCan (mI M 932) cn s (fun k => mI M (925 + k) n) := fun q z => by
        obtain ⟨z1, z3⟩ := hS.mp z.1
        rcases q with q | q
        · exact z1 q
        · exact z3 q
      refine wp_aload_n rfl (ck_get kk_Mc_runClause 0 rfl) ?_
      refine wp_getR (ck_get kk_Mc_runClause 1 rfl) fl_Mc_251 (by assumption) (by assumption) ?_
      refine wp_iload_n rfl (ck_get kk_Mc_runClause 2 rfl) ?_
      refine wp_ialdv (v := nI kd) (ck_get kk_Mc_runClause 3 rfl) (by assumption) (ixk_nI (k := n) (by omega) (by omega)) (hk1) ?_
      refine wp_istore_n (ck_get kk_Mc_runClause 4 rfl) (by decide) rfl ?_
      refine wp_iload_n rfl (ck_get kk_Mc_runClause 5 rfl) ?_
      refine wp_iconst (v := nI 3) (by decide) (ck_get kk_Mc_runClause 6 rfl) ?_
      first | refine wp_icmp_neN (t := 25) (ck_get kk_Mc_runClause 7 rfl) (by decide) (by omega) (by omega) (fun hc9 => ?_) (fun hc9 => ?_) | refine wp_icmp_ne (t := 25) (ck_get kk_Mc_runClause 7 rfl) (by decide) (fun hc9 => ?_) (fun hc9 => ?_)
      · refine wp_aload_n rfl (ck_get kk_Mc_runClause 17 rfl) ?_
        refine wp_getR (ck_get kk_Mc_runClause 18 rfl) fl_Mc_66 (by assumption) (by assumption) ?_
        refine wp_aload_n rfl (ck_get kk_Mc_runClause 19 rfl) ?_
        refine wp_aload_n rfl (ck_get kk_Mc_runClause 20 rfl) ?_
        refine wp_getR (ck_get kk_Mc_runClause 21 rfl) fl_Mc_435 (by assumption) (by assumption) ?_
        refine wp_iload_n rfl (ck_get kk_Mc_runClause 22 rfl) ?_
        refine wp_ialdv (v := nI a4) (ck_get kk_Mc_runClause 23 rfl) (by assumption) (ixk_nI (k := n) (by omega) (by omega)) (d4') ?_
        refine wp_aload_n rfl (ck_get kk_Mc_runClause 24 rfl) ?_
        refine wp_getR (ck_get kk_Mc_runClause 25 rfl) fl_Mc_66 (by assumption) (by assumption) ?_
        refine wp_getR (ck_get kk_Mc_runClause 26 rfl) fl_Mc_425 (by assumption) (by assumption) ?_
        refine wp_cV3l (ck_get kk_Mc_runClause 27 rfl) ml_Mc_431 (by omega) (Nat.le_of_ble_eq_true rfl) (by assumption) (Cl.to (hev0) ?_)
        rintro v₁ M₁ ⟨hv1, S1, rfl⟩
        refine wp_lstore (ck_get kk_Mc_runClause 28 rfl) (by decide) rfl ?_
        refine wp_iload_n rfl (ck_get kk_Mc_runClause 29 rfl) ?_
        refine wp_iconst (v := nI 1) (by decide) (ck_get kk_Mc_runClause 30 rfl) ?_
        first | refine wp_icmp_neN (t := 77) (ck_get kk_Mc_runClause 31 rfl) (by decide) (by omega) (by omega) (fun hc50 => ?_) (fun hc50 => ?_) | refine wp_icmp_ne (t := 77) (ck_get kk_Mc_runClause 31 rfl) (by decide) (fun hc50 => ?_) (fun hc50 => ?_)
        · refine wp_lload rfl (ck_get kk_Mc_runClause 44 rfl) ?_
          refine wp_lstore (ck_get kk_Mc_runClause 45 rfl) (by decide) rfl ?_
          refine wp_aload_n rfl (ck_get kk_Mc_runClause 46 rfl) ?_
          refine wp_getR (ck_get kk_Mc_runClause 47 rfl) fl_Mc_66 (by assumption) (by assumption) ?_
          refine wp_aload_n rfl (ck_get kk_Mc_runClause 48 rfl) ?_
          refine wp_aload_n rfl (ck_get kk_Mc_runClause 49 rfl) ?_
          refine wp_getR (ck_get kk_Mc_runClause 50 rfl) fl_Mc_441 (by assumption) (by assumption) ?_
          refine wp_iload_n rfl (ck_get kk_Mc_runClause 51 rfl) ?_
          refine wp_ialdv (v := nI a6) (ck_get kk_Mc_runClause 52 rfl) (by assumption) (ixk_nI (k := n) (by omega) (by omega)) (d6') ?_
          refine wp_aload_n rfl (ck_get kk_Mc_runClause 53 rfl) ?_
          refine wp_getR (ck_get kk_Mc_runClause 54 rfl) fl_Mc_66 (by assumption) (by assumption) ?_
          refine wp_getR (ck_get kk_Mc_runClause 55 rfl) fl_Mc_425 (by assumption) (by assumption) ?_
          refine wp_cV3l (ck_get kk_Mc_runClause 56 rfl) ml_Mc_431 (by omega) (Nat.le_of_ble_eq_true rfl) (by assumption) (Cl.to (hev S1 a6 c6 b6) ?_)
          rintro v₃ M₃ ⟨hv3, S3, rfl⟩
          refine wp_lstore (ck_get kk_Mc_runClause 57 rfl) (by decide) rfl ?_
          refine wp_lload rfl (ck_get kk_Mc_runClause 58 rfl) ?_
          refine wp_ldc2 kl_Mc_444 (ck_get kk_Mc_runClause 59 rfl) ?_
          refine wp_lcmp (ck_get kk_Mc_runClause 60 rfl) ?_
          refine wp_if_eq (t := 131) (ck_get kk_Mc_runClause 61 rfl) (by decide) (fun hc110 => ?_) (fun hc110 => ?_)
          · refine wp_bipush (v := (-3)) (by decide) (ck_get kk_Mc_runClause 70 rfl) ?_
            refine wp_ireturn (ck_get kk_Mc_runClause 71 rfl) rfl rfl ⟨_, rfl, ?_⟩
            exact Or.inl ⟨hno (Or.inl (hv1.symm.trans ((lcmp_eq _ _).mp hc110))), by decide, S3, rfl⟩
          · refine wp_lload rfl (ck_get kk_Mc_runClause 62 rfl) ?_
            refine wp_ldc2 kl_Mc_444 (ck_get kk_Mc_runClause 63 rfl) ?_
            refine wp_lcmp (ck_get kk_Mc_runClause 64 rfl) ?_
            refine wp_if_eq (t := 131) (ck_get kk_Mc_runClause 65 rfl) (by decide) (fun hc119 => ?_) (fun hc119 => ?_)
            · exact absurd hc119 hc110
            · refine wp_lload rfl (ck_get kk_Mc_runClause 66 rfl) ?_
              refine wp_ldc2 kl_Mc_444 (ck_get kk_Mc_runClause 67 rfl) ?_
              refine wp_lcmp (ck_get kk_Mc_runClause 68 rfl) ?_
              refine wp_if_ne (t := 134) (ck_get kk_Mc_runClause 69 rfl) (by decide) (fun hc128 => ?_) (fun hc128 => ?_)
              · refine wp_aload_n rfl (ck_get kk_Mc_runClause 72 rfl) ?_
                refine wp_aload_n rfl (ck_get kk_Mc_runClause 73 rfl) ?_
                refine wp_getR (ck_get kk_Mc_runClause 74 rfl) fl_Mc_23 (by assumption) (by assumption) ?_
                refine wp_iload_n rfl (ck_get kk_Mc_runClause 75 rfl) ?_
                refine wp_lload rfl (ck_get kk_Mc_runClause 76 rfl) ?_
                refine wp_l2i (ck_get kk_Mc_runClause 77 rfl) ?_
                refine wp_lload rfl (ck_get kk_Mc_runClause 78 rfl) ?_
                refine wp_l2i (ck_get kk_Mc_runClause 79 rfl) ?_
                refine wp_lload rfl (ck_get kk_Mc_runClause 80 rfl) ?_
                refine wp_l2i (ck_get kk_Mc_runClause 81 rfl) ?_
                refine wp_cV5i (ck_get kk_Mc_runClause 82 rfl) ml_Mc_264 (by omega) (Nat.le_of_ble_eq_true rfl) (by assumption) (Ci.to (hact S3 _ _ _) ?_)
                rintro x₁ M₄ hQ
                refine wp_ireturn (ck_get kk_Mc_runClause 83 rfl) rfl rfl ⟨_, rfl, ?_⟩
                refine fin _ _ _ _ _ hA (hS.mpr ⟨?_, ?_⟩) ?_
                · exact fun q => hc110 ((lcmp_eq _ _).mpr (hv1.trans q))
                · exact fun q => hc128 ((lcmp_eq _ _).mpr (hv3.trans q))
                · rw [← hv1, ← hv3]; exact hQ
              · refine wp_bipush (v := (-3)) (by decide) (ck_get kk_Mc_runClause 70 rfl) ?_
                refine wp_ireturn (ck_get kk_Mc_runClause 71 rfl) rfl rfl ⟨_, rfl, ?_⟩
                exact Or.inl ⟨hno (Or.inr (hv3.symm.trans ((lcmp_eq _ _).mp hc128))), by decide, S3, rfl⟩
        · omega
      · omega
end CRN

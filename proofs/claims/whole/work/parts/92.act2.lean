/-! ===== what is done, by both ===== -/
section ACD
variable {g : Gl} {M : Mem} {pf pg : Nat → Nat} {res : (Nat → Int32) → Int32 × Int32} {md salt : Nat}
/-- a trail and the worlds that it has, the shop's world, the judge: these alone were changed -/
def AFr (tr : Nat) (wf : Nat → Nat) (I : Nat → Nat → Int32) (J : Nat → Nat → Int64) (I2 : Nat → Nat → Int32) (J2 : Nat → Nat → Int64) : Prop := ∀ x, x < tr ∨ tr + 3 ≤ x → (∀ s, s < 16 → x < wf s ∨ wf s + 26 ≤ x) → x < 2 ∨ 28 ≤ x → x < 934 ∨ 938 ≤ x → I2 x = I x ∧ J2 x = J x
/-- a trail's place, apart from worlds -/
def TrP (tr : Nat) (wf : Nat → Nat) : Prop := (tr = 31 ∨ tr = 450) ∧ (∀ s, s < 16 → 34 ≤ wf s ∧ wf s + 26 ≤ 869 ∧ (wf s + 26 ≤ 450 ∨ 453 ≤ wf s)) ∧ ∀ s r, s < 16 → r < 16 → s ≠ r → wf s + 26 ≤ wf r ∨ wf r + 26 ≤ wf s
theorem TrP.f (h : PfOK pf pg) : TrP 31 (fun s => slA (pf s)) := ⟨Or.inl rfl, fun s hs => slA_lt (h.1 s hs).1, fun s r hs hr hn => slA_apart (h.1 s hs).1 (h.1 r hr).1 (fun q => hn (h.2.1 s r hs hr q))⟩
theorem TrP.gg (h : PfOK pf pg) : TrP 450 (fun s => slA (pg s)) := ⟨Or.inr rfl, fun s hs => slA_lt (h.1 s hs).2, fun s r hs hr hn => slA_apart (h.1 s hs).2 (h.1 r hr).2 (fun q => hn (h.2.2.1 s r hs hr q))⟩
/-- behind the push: the trail stays as it is -/
theorem TrHas.kept {I I2 : Nat → Nat → Int32} {J J2 : Nat → Nat → Int64} {a f n : Nat} {wf : Nat → Nat} {u : UF} (h : TrHas I J a wf f n u) (h1 : I2 a = I a ∧ I2 (a + 2) = I (a + 2)) (h2 : ∀ s, s < 16 → ∀ x, wf s ≤ x → x < wf s + 26 → I2 x = I x ∧ J2 x = J x) : TrHas I2 J2 a wf f n u := by
  obtain ⟨a1, a2, a3, a4, a5⟩ := h
  refine ⟨by rw [h1.1]; exact a1, a2, by rw [h1.1]; exact a3, a4, fun i hi => ?_⟩
  obtain ⟨b1, b2⟩ := a5 i hi
  exact ⟨by rw [h1.2]; exact b1, b2.kept (fun x q1 q2 => h2 _ (Nat.mod_lt _ (by decide)) x q1 q2)⟩
theorem c_act {kd tr f n : Nat} {wf : Nat → Nat} {u : UF} {ws : WS} {t a b : Int32} (hL : LayC (mT M) (mR M) pf pg) (hA : TrAt (mT M) (mR M) tr wf) (hP : TrP tr wf) (hU : TrHas (mI M) (mJ M) tr wf f n u) (hs : WoHas (mI M) (mJ M) 2 ws) (hT : WOK ws) (hB : tot ws < 2147483648) (hN : ShN (mT M) (mR M) (mI M) res md salt) (hk : kd < 4) :
    Ci g Y_Mc_act 15 [.ref 0, .ref tr, .int (nI kd), .int t, .int a, .int b] M (fun x M2 => (¬ acV kd ws t a b = 0 ∧ x = acV kd ws t a b ∧ M2 = M) ∨ (acV kd ws t a b = 0 ∧ x = nI (acW res md salt kd ws t.toNatClampNeg a.toNatClampNeg b.toNatClampNeg).1 ∧ ∃ I2 J2, M2 = mk2 M I2 J2 ∧ WoHas I2 J2 2 (acW res md salt kd ws t.toNatClampNeg a.toNatClampNeg b.toNatClampNeg).2 ∧ TrHas I2 J2 tr wf (nfi f n) (nsz n) (psU n u (kd, ws)) ∧ AFr tr wf (mI M) (mJ M) I2 J2)) := by
  have hL0 := hL
  obtain ⟨t0, ⟨r0, hSh⟩, -⟩ := hL
  have sh0 := hSh.1
  have sr0 := hSh.2.1
  have hW := hSh.2.2.1
  have tw := hW.1
  have rww := hW.2.1
  have twa := hW.2.2.1
  have ta := hA.1
  obtain ⟨hP1, hP2, hP3⟩ := hP
  have hneg : ∀ q : Int32, q = acV kd ws t a b → (q = 0 ∨ q < 0) := by
    intro q hq
    rw [hq]
    unfold acV
    split
    · split
      · exact Or.inl rfl
      · exact Or.inr (by decide)
    · split
      · split
        · exact Or.inr (by decide)
        · split
          · exact Or.inr (by decide)
          · exact Or.inl rfl
      · exact Or.inr (by decide)
  refine cw_entry 1 pf_Mc_act rfl ?_
  by_cases hv : acV kd ws t a b = 0
  · -- it is done
    have hpush := c_pushT (g := g) (k := kd) hA hU hW hs hT (fun s hs => by have := hP2 s hs; omega) (by omega) (fun s hs => by have := hP2 s hs; omega) hP3
    have after : ∀ I1 J1, TrHas I1 J1 tr wf (nfi f n) (nsz n) (psU n u (kd, ws)) → (∀ x, (x < tr ∨ tr + 3 ≤ x) → (∀ s, s < 16 → x < wf s ∨ wf s + 26 ≤ x) → I1 x = mI M x ∧ J1 x = mJ M x) → Wp g Y_Mc_act 15 32 [some (.ref 0), some (.ref tr), some (.int (nI kd)), some (.int t), some (.int a), some (.int b), some (.int 0)] [] (mk2 M I1 J1) (fun r M2 => ∃ x, r = some (.int x) ∧ ((¬ acV kd ws t a b = 0 ∧ x = acV kd ws t a b ∧ M2 = M) ∨ (acV kd ws t a b = 0 ∧ x = nI (acW res md salt kd ws t.toNatClampNeg a.toNatClampNeg b.toNatClampNeg).1 ∧ ∃ I2 J2, M2 = mk2 M I2 J2 ∧ WoHas I2 J2 2 (acW res md salt kd ws t.toNatClampNeg a.toNatClampNeg b.toNatClampNeg).2 ∧ TrHas I2 J2 tr wf (nfi f n) (nsz n) (psU n u (kd, ws)) ∧ AFr tr wf (mI M) (mJ M) I2 J2))) := by
      intro I1 J1 hU1 hf1
      have hs1 : WoHas I1 J1 2 ws := hs.kept (fun x q1 q2 => hf1 x (by omega) (fun s hs => by have := hP2 s hs; omega))
      have hN1 : ShN (mT M) (mR M) I1 res md salt := hN.kept (hf1 1 (by omega) (fun s hs => by have := hP2 s hs; omega)).1 (fun x hx => (hf1 x (by omega) (fun s hs => by have := hP2 s hs; omega)).1)
      -- the world behind it, with the trail
      have fin : ∀ (I2 : Nat → Nat → Int32) (J2 : Nat → Nat → Int64) (x : Int32), x = nI (acW res md salt kd ws t.toNatClampNeg a.toNatClampNeg b.toNatClampNeg).1 → WoHas I2 J2 2 (acW res md salt kd ws t.toNatClampNeg a.toNatClampNeg b.toNatClampNeg).2 → CFr 2 I1 J1 I2 J2 → (¬ acV kd ws t a b = 0 ∧ x = acV kd ws t a b ∧ mk2 M I2 J2 = M) ∨ (acV kd ws t a b = 0 ∧ x = nI (acW res md salt kd ws t.toNatClampNeg a.toNatClampNeg b.toNatClampNeg).1 ∧ ∃ I3 J3, mk2 M I2 J2 = mk2 M I3 J3 ∧ WoHas I3 J3 2 (acW res md salt kd ws t.toNatClampNeg a.toNatClampNeg b.toNatClampNeg).2 ∧ TrHas I3 J3 tr wf (nfi f n) (nsz n) (psU n u (kd, ws)) ∧ AFr tr wf (mI M) (mJ M) I3 J3) := by
        intro I2 J2 x hx hw hf
        refine Or.inr ⟨hv, hx, I2, J2, rfl, hw, ?_, ?_⟩
        · refine hU1.kept ⟨(hf tr (by omega) (by omega)).1, (hf (tr + 2) (by omega) (by omega)).1⟩ (fun s hs x q1 q2 => ?_)
          have := hP2 s hs
          exact hf x (by omega) (by omega)
        · intro x q1 q2 q3 q4
          exact ⟨(hf x (by omega) q4).1.trans (hf1 x q1 q2).1, (hf x (by omega) q4).2.trans (hf1 x q1 q2).2⟩
      by_cases h3 : kd = 3
      · subst h3
        have e : acW res md salt 3 ws t.toNatClampNeg a.toNatClampNeg b.toNatClampNeg = (tot (hvW ws), hvW ws) := rfl
        refine wp_iload_n rfl (ck_get kk_Mc_act 17 rfl) ?_
        refine wp_tabOut (t := 103) (ck_get kk_Mc_act 18 rfl) (by decide) (by decide) ?_
        refine wp_aload_n rfl (ck_get kk_Mc_act 42 rfl) ?_
        refine wp_getR (ck_get kk_Mc_act 43 rfl) fl_Mc_12 (by assumption) (by assumption) ?_
        refine wp_getR (ck_get kk_Mc_act 44 rfl) fl_Mc_107 (by assumption) (by assumption) ?_
        refine wp_cV0i (ck_get kk_Mc_act 45 rfl) ml_Mc_385 (by omega) (Nat.le_of_ble_eq_true rfl) (by assumption) (Ci.to (c_timeT (w := 2) (ws := ws) (M := mk2 M I1 J1) hW hs1 hB) ?_)
        rintro x₁ M₁ ⟨hx1, I2, J2, rfl, hw2, hf2⟩
        refine wp_ireturn (ck_get kk_Mc_act 46 rfl) rfl rfl ⟨_, rfl, ?_⟩
        exact fin I2 J2 _ hx1 hw2 (fun x q1 q2 => hf2 x q1)
      obtain ⟨t', k, k2, rfl, rfl, rfl, ht, hk1, hk2, hlp, hdr⟩ := acV_ok (ws := ws) (by omega) hv
      have ct : (nI t').toNatClampNeg = t' := nI_clamp (by omega)
      have ck : (nI k).toNatClampNeg = k := nI_clamp (by omega)
      have ck2 : (nI k2).toNatClampNeg = k2 := nI_clamp (by omega)
      rw [ct, ck, ck2] at fin ⊢
      obtain ⟨rwt, hTe⟩ := hW.2.2.2 t' ht
      have te0 := hTe.1
      by_cases h0 : kd = 0
      · subst h0
        refine wp_iload_n rfl (ck_get kk_Mc_act 17 rfl) ?_
        refine wp_tabIn (t := 60) (off := 27) (ck_get kk_Mc_act 18 rfl) (by decide) (by decide) rfl (by decide) ?_
        refine wp_aload_n rfl (ck_get kk_Mc_act 19 rfl) ?_
        refine wp_aload_n rfl (ck_get kk_Mc_act 20 rfl) ?_
        refine wp_getR (ck_get kk_Mc_act 21 rfl) fl_Mc_12 (by assumption) (by assumption) ?_
        refine wp_getR (ck_get kk_Mc_act 22 rfl) fl_Mc_107 (by assumption) (by assumption) ?_
        refine wp_iload_n rfl (ck_get kk_Mc_act 23 rfl) ?_
        refine wp_iload rfl (ck_get kk_Mc_act 24 rfl) ?_
        refine wp_cV3i (ck_get kk_Mc_act 25 rfl) ml_Mc_204 (by omega) (Nat.le_of_ble_eq_true rfl) (by assumption) (Ci.to (c_readA (M := mk2 M I1 J1) hL0 hW (by omega) (by omega) hs1 hT ht hk1 hN1) ?_)
        rintro x₁ M₁ ⟨hx1, I2, J2, rfl, hw2, hf2⟩
        refine wp_ireturn (ck_get kk_Mc_act 26 rfl) rfl rfl ⟨_, rfl, ?_⟩
        exact fin I2 J2 _ hx1 hw2 hf2
      by_cases h1 : kd = 1
      · subst h1
        have hlp1 := hlp rfl
        have hcr := c_readKeysA (g := g) (M := mk2 M I1 J1) (res := res) (md := md) (salt := salt) (t := t') (k := k) (n := k2 - k + 1) hL0 ht (by omega) (by omega) hs1 hT hN1
        rw [show k + (k2 - k + 1) - 1 = k2 by omega] at hcr
        refine wp_iload_n rfl (ck_get kk_Mc_act 17 rfl) ?_
        refine wp_tabIn (t := 75) (off := 42) (ck_get kk_Mc_act 18 rfl) (by decide) (by decide) rfl (by decide) ?_
        refine wp_aload_n rfl (ck_get kk_Mc_act 27 rfl) ?_
        refine wp_iload_n rfl (ck_get kk_Mc_act 28 rfl) ?_
        refine wp_iload rfl (ck_get kk_Mc_act 29 rfl) ?_
        refine wp_iload rfl (ck_get kk_Mc_act 30 rfl) ?_
        refine wp_cV3i (ck_get kk_Mc_act 31 rfl) ml_Mc_411 (by omega) (Nat.le_of_ble_eq_true rfl) (by assumption) (Ci.to (hcr) ?_)
        rintro x₁ M₁ ⟨hx1, I2, J2, rfl, hw2, hf2⟩
        refine wp_ireturn (ck_get kk_Mc_act 32 rfl) rfl rfl ⟨_, rfl, ?_⟩
        exact fin I2 J2 _ hx1 hw2 hf2
      · have h2 : kd = 2 := by omega
        subst h2
        refine wp_iload_n rfl (ck_get kk_Mc_act 17 rfl) ?_
        refine wp_tabIn (t := 85) (off := 52) (ck_get kk_Mc_act 18 rfl) (by decide) (by decide) rfl (by decide) ?_
        refine wp_aload_n rfl (ck_get kk_Mc_act 33 rfl) ?_
        refine wp_getR (ck_get kk_Mc_act 34 rfl) fl_Mc_12 (by assumption) (by assumption) ?_
        refine wp_getR (ck_get kk_Mc_act 35 rfl) fl_Mc_107 (by assumption) (by assumption) ?_
        refine wp_getR (ck_get kk_Mc_act 36 rfl) fl_Mc_110 (by assumption) (by assumption) ?_
        refine wp_iload_n rfl (ck_get kk_Mc_act 37 rfl) ?_
        refine wp_aald (ck_get kk_Mc_act 38 rfl) (by assumption) (ixk_nI (k := t') (by omega) (by omega)) (by assumption) ?_
        refine wp_iload rfl (ck_get kk_Mc_act 39 rfl) ?_
        refine wp_cV1i (ck_get kk_Mc_act 40 rfl) ml_Mc_382 (by omega) (Nat.le_of_ble_eq_true rfl) (by assumption) (Ci.to (c_drT (M := mk2 M I1 J1) (k := k) hTe (hs1.2 t' ht) (hT.2 t' ht)) ?_)
        rintro x₁ M₁ ⟨hx1, I2, rfl, hw2, hf2⟩
        refine wp_ireturn (ck_get kk_Mc_act 41 rfl) rfl rfl ⟨_, rfl, ?_⟩
        exact fin I2 J1 _ hx1 (hs1.set hw2 hf2) (fun x q1 q2 => hf2 x (by omega))
    refine wp_aload_n rfl (ck_get kk_Mc_act 0 rfl) ?_
    refine wp_iload_n rfl (ck_get kk_Mc_act 1 rfl) ?_
    refine wp_iload_n rfl (ck_get kk_Mc_act 2 rfl) ?_
    refine wp_iload rfl (ck_get kk_Mc_act 3 rfl) ?_
    refine wp_iload rfl (ck_get kk_Mc_act 4 rfl) ?_
    refine wp_cV4i (ck_get kk_Mc_act 5 rfl) ml_Mc_403 (by omega) (Nat.le_of_ble_eq_true rfl) (by assumption) (Ci.to (c_refusalOf hL0 hs hT hk) ?_)
    rintro x₁ M₁ ⟨hx1, rfl⟩
    obtain rfl := hx1.trans hv
    refine wp_istore (ck_get kk_Mc_act 6 rfl) (by decide) rfl ?_
    refine wp_iload rfl (ck_get kk_Mc_act 7 rfl) ?_
    first | refine wp_if_geN (t := 20) (ck_get kk_Mc_act 8 rfl) (by decide) (by omega) (fun hc14 => ?_) (fun hc14 => ?_) | refine wp_if_ge (t := 20) (ck_get kk_Mc_act 8 rfl) (by decide) (fun hc14 => ?_) (fun hc14 => ?_)
    · refine wp_aload_n rfl (ck_get kk_Mc_act 11 rfl) ?_
      refine wp_iload_n rfl (ck_get kk_Mc_act 12 rfl) ?_
      refine wp_aload_n rfl (ck_get kk_Mc_act 13 rfl) ?_
      refine wp_getR (ck_get kk_Mc_act 14 rfl) fl_Mc_12 (by assumption) (by assumption) ?_
      refine wp_getR (ck_get kk_Mc_act 15 rfl) fl_Mc_107 (by assumption) (by assumption) ?_
      refine wp_cV2v (ck_get kk_Mc_act 16 rfl) ml_Mc_407 (by omega) (Nat.le_of_ble_eq_true rfl) (by assumption) (Cv.to (hpush) ?_)
      rintro M₁ ⟨I1, J1, rfl, hU1, hf1⟩
      exact after I1 J1 hU1 hf1
    · exact absurd (by decide) hc14
  · skip
    refine wp_aload_n rfl (ck_get kk_Mc_act 0 rfl) ?_
    refine wp_iload_n rfl (ck_get kk_Mc_act 1 rfl) ?_
    refine wp_iload_n rfl (ck_get kk_Mc_act 2 rfl) ?_
    refine wp_iload rfl (ck_get kk_Mc_act 3 rfl) ?_
    refine wp_iload rfl (ck_get kk_Mc_act 4 rfl) ?_
    refine wp_cV4i (ck_get kk_Mc_act 5 rfl) ml_Mc_403 (by omega) (Nat.le_of_ble_eq_true rfl) (by assumption) (Ci.to (c_refusalOf hL0 hs hT hk) ?_)
    rintro x₁ M₁ ⟨hx1, rfl⟩
    refine wp_istore (ck_get kk_Mc_act 6 rfl) (by decide) rfl ?_
    refine wp_iload rfl (ck_get kk_Mc_act 7 rfl) ?_
    first | refine wp_if_geN (t := 20) (ck_get kk_Mc_act 8 rfl) (by decide) (by omega) (fun hc14 => ?_) (fun hc14 => ?_) | refine wp_if_ge (t := 20) (ck_get kk_Mc_act 8 rfl) (by decide) (fun hc14 => ?_) (fun hc14 => ?_)
    · rcases hneg x₁ hx1 with q | q
      · exact absurd (hx1.symm.trans q) hv
      · exact absurd hc14 (Int32.not_le.mpr q)
    · refine wp_iload rfl (ck_get kk_Mc_act 9 rfl) ?_
      refine wp_ireturn (ck_get kk_Mc_act 10 rfl) rfl rfl ⟨_, rfl, ?_⟩
      exact Or.inl ⟨hv, hx1, rfl⟩
end ACD

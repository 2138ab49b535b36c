/-! ===== a trail takes another's worlds ===== -/
abbrev mk4 (M : Mem) (I : Nat → Nat → Int32) (R : Nat → Nat → Option Nat) : Mem := (M.1, M.2.1, I, mJ M, R)
def lsU (u : UF) (i : Nat) : List (Nat × WS) := (List.range i).map u
theorem lsU_succ {u : UF} {i : Nat} : lsU u (i + 1) = lsU u i ++ [u i] := by
  unfold lsU; rw [List.range_succ, List.map_append]; rfl
section TKE
variable {g : Gl} {M : Mem}
def tkQ (M : Mem) (I0 : Nat → Nat → Int32) (R0 : Nat → Nat → Option Nat) (L : List (Nat × WS)) (p : Nat × UF) (M2 : Mem) : Prop := ∃ pf pg I2 R2 f, M2 = mk4 M I2 R2 ∧ LayC (mT M) R2 pf pg ∧ (∀ x, x ≠ 32 → x ≠ 451 → R2 x = R0 x) ∧ (∀ x, x ≠ 31 → x ≠ 33 → x ≠ 450 → I2 x = I0 x) ∧ TrHas I2 (mJ M) 31 (fun s => slA (pf s)) f (psL L p).1 (psL L p).2 ∧ I2 450 2 = nI 0 ∧ I2 450 3 = nI 0
theorem TrHas.take {I I2 : Nat → Nat → Int32} {J : Nat → Nat → Int64} {pf : Nat → Nat} {f n w : Nat} {u : UF} {x : Nat × WS} (hp : ∀ s, s < 16 → pf s < 32) (h : TrHas I J 31 (fun s => slA (pf s)) f n u) (hI : I2 = up2 (up2 (up2 I 31 2 (nI (nfi f n))) 31 3 (nI (nsz n))) 33 (nsl f n) (nI x.1)) (hw : w < 32) (hW : WoHas I J (slA w) x.2) : TrHas I2 J 31 (fun s => slA (up1 pf (nsl f n) w s)) (nfi f n) (nsz n) (psU n u x) := by
  obtain ⟨u1, u2, u3, u4, u5⟩ := h
  have hx : ∀ y, y ≠ 31 → y ≠ 33 → I2 y = I y := fun y q1 q2 => by rw [hI, up2_up1, up1_ne q2, up2_up1, up1_ne q1, up2_up1, up1_ne q1]
  have h33 : ∀ q, I2 33 q = up1 (I 33) (nsl f n) (nI x.1) q := fun q => by
    have z : up2 (up2 I 31 2 (nI (nfi f n))) 31 3 (nI (nsz n)) 33 = I 33 := by rw [up2_up1, up1_ne (by omega), up2_up1, up1_ne (by omega)]
    rw [hI, up2_up1, up1_eq, z]
  have wk : ∀ i, i < 32 → ∀ ws, WoHas I J (slA i) ws → WoHas I2 J (slA i) ws := fun i hi ws h => h.kept (fun y q1 q2 => by have := slA_lt hi; exact ⟨hx y (by omega) (by omega), rfl⟩)
  have e1 : I2 31 2 = nI (nfi f n) := by rw [hI]; simp [up2]
  have e2 : I2 31 3 = nI (nsz n) := by rw [hI]; simp [up2]
  refine ⟨e1, nfi_lt f n u2, e2, nsz_le n u4, fun i hi => ?_⟩
  show I2 33 _ = _ ∧ _
  rw [h33]
  by_cases hl : i = nsz n - 1
  · have hnz : 1 ≤ nsz n := by omega
    have hsl : (nfi f n + i) % 16 = nsl f n := by unfold nsl; rw [hl, Nat.add_sub_assoc hnz]
    rw [hsl, hl, psU_last u4, up1_eq]
    refine ⟨rfl, ?_⟩
    show WoHas I2 J (slA (up1 pf (nsl f n) w (nsl f n))) x.2
    rw [up1_eq]; exact wk w hw _ hW
  · obtain ⟨a1, a2⟩ := psU_old (u := u) (x := x) u4 (i := i) (by omega)
    obtain ⟨b1, b2⟩ := nsl_old u2 u4 (i := i) (by omega)
    obtain ⟨c1, c2⟩ := u5 _ a2
    rw [a1, up1_ne b2, b1]
    refine ⟨c1, ?_⟩
    show WoHas I2 J (slA (up1 pf (nsl f n) w _)) _
    rw [up1_ne (by rw [← b1]; exact b2)]
    exact wk _ (hp _ (Nat.mod_lt _ (by decide))) _ c2
theorem l_take {fF nF : Nat} {uF : UF} {p : Nat × UF} {I0 : Nat → Nat → Int32} {R0 : Nat → Nat → Option Nat} (hf : fF < 16) (hnF : nF ≤ 16) :
    ∀ (d i : Nat) (I : Nat → Nat → Int32) (R : Nat → Nat → Option Nat) (pf pg : Nat → Nat) (f : Nat) (x3 x4 x5 : Option Value), i + d = nF → LayC (mT M) R pf pg → (∀ x, x ≠ 32 → x ≠ 451 → R x = R0 x) → (∀ x, x ≠ 31 → x ≠ 33 → I x = I0 x) → I 450 2 = nI fF → I 450 3 = nI nF → TrHas I (mJ M) 31 (fun s => slA (pf s)) f (psL (lsU uF i) p).1 (psL (lsU uF i) p).2 → (∀ j, i ≤ j → j < nF → I 452 ((fF + j) % 16) = nI (uF j).1 ∧ WoHas I (mJ M) (slA (pg ((fF + j) % 16))) (uF j).2) →
      Wp g Y_Tr_take 1 2 [some (.ref 31), some (.ref 450), some (.int (nI i)), x3, x4, x5] [] (mk4 M I R) (fun r M2 => r = none ∧ tkQ M I0 R0 (lsU uF nF) p M2) := by
  intro d
  induction d with
  | zero =>
    intro i I R pf pg f x3 x4 x5 hi hL hR hI h2 h3 hU hr
    have hL0 := hL
    obtain ⟨t0, -, -, ⟨r2, hT2⟩, -⟩ := hL
    have hT20 := hT2
    obtain ⟨b1, b2, b3, b4, b5, b6⟩ := hT2
    have hcl := c_Trclear (g := g) (M := mk4 M I R) (a := 450) (wf := fun s => slA (pg s)) (by exact hT20)
    refine wp_iload_n rfl (ck_get kk_Tr_take 2 rfl) ?_
    refine wp_aload_n rfl (ck_get kk_Tr_take 3 rfl) ?_
    refine wp_getIv (v := nI nF) (ck_get kk_Tr_take 4 rfl) fl_Tr_25 (by assumption) (h3) ?_
    first | refine wp_icmp_geN (t := 75) (ck_get kk_Tr_take 5 rfl) (by decide) (by omega) (by omega) (fun hc7 => ?_) (fun hc7 => ?_) | refine wp_icmp_ge (t := 75) (ck_get kk_Tr_take 5 rfl) (by decide) (fun hc7 => ?_) (fun hc7 => ?_)
    · refine wp_aload_n rfl (ck_get kk_Tr_take 44 rfl) ?_
      refine wp_cV0v (ck_get kk_Tr_take 45 rfl) ml_Tr_37 (by omega) (Nat.le_of_ble_eq_true rfl) (by assumption) (Cv.to (hcl) ?_)
      rintro M₁ rfl
      refine wp_return (ck_get kk_Tr_take 46 rfl) rfl ⟨rfl, ?_⟩
      refine ⟨pf, pg, up2 (up2 I 450 2 (nI 0)) 450 3 (nI 0), R, f, rfl, hL0, hR, fun x q1 q2 q3 => ?_, ?_, ?_, ?_⟩
      · rw [up2_up1, up1_ne q3, up2_up1, up1_ne q3]; exact hI x q1 q2
      · rw [show nF = i by omega]
        have hxx : ∀ y, y ≠ 450 → up2 (up2 I 450 2 (nI 0)) 450 3 (nI 0) y = I y := fun y q => by rw [up2_up1, up1_ne q, up2_up1, up1_ne q]
        have hPf := hL0.2.2.2.2.2.2.2.2.2.2.2.2.2.2.2
        exact hU.kept ⟨hxx _ (by omega), hxx _ (by omega)⟩ (fun q hq x q1 q2 => ⟨hxx x (by have := slA_lt (hPf.1 q hq).1; have q3 : x < slA (pf q) + 26 := q2; have q4 : slA (pf q) ≤ x := q1; omega), rfl⟩)
      · simp [up2]
      · simp [up2]
    · omega
  | succ d ih =>
    intro i I R pf pg f x3 x4 x5 hi hL hR hI h2 h3 hU hr
    have hL0 := hL
    obtain ⟨t0, -, ⟨r1, hT1⟩, ⟨r2, hT2⟩, -⟩ := hL
    have hPf := hL0.2.2.2.2.2.2.2.2.2.2.2.2.2.2.2
    have hT10 := hT1
    obtain ⟨a1, a2, a3, a4, a5, a6⟩ := hT1
    obtain ⟨b1, b2, b3, b4, b5, b6⟩ := hT2
    have hU0 := hU
    obtain ⟨u1, u2, u3, u4, u5⟩ := hU
    obtain ⟨v1, v2⟩ := hr i (by omega) (by omega)
    have hsl := nsl_lt f (psL (lsU uF i) p).1
    have hfr : (fF + i) % 16 < 16 := Nat.mod_lt _ (by decide)
    have rs := (a6 _ hsl).1
    have ts := (a6 _ hsl).2.1
    have rf := (b6 _ hfr).1
    have tf := (b6 _ hfr).2.1
    have hns := c_nextSlot (g := g) (M := mk4 M I R) (a := 31) (wf := fun s => slA (pf s)) (by exact hT10) (by exact u1) u2 (by exact u3) u4
    generalize hsd : nsl f (psL (lsU uF i) p).1 = sl at hsl rs ts hns
    generalize hfd : (fF + i) % 16 = fr at hfr rf tf v1 v2
    have v1' : ∀ X Y : Int32, up2 (up2 I 31 2 X) 31 3 Y 452 fr = nI (uF i).1 := fun X Y => by rw [up2_up1, up1_ne (by omega), up2_up1, up1_ne (by omega)]; exact v1
    have hnx := ih (i + 1) (up2 (up2 (up2 I 31 2 (nI (nfi f (psL (lsU uF i) p).1))) 31 3 (nI (nsz (psL (lsU uF i) p).1))) 33 sl (nI (uF i).1)) (up2 (up2 R 32 sl (some (slA (pg fr)))) 451 fr (some (slA (pf sl)))) (up1 pf sl (pg fr)) (up1 pg fr (pf sl)) (nfi f (psL (lsU uF i) p).1) (some (.int (nI fr))) (some (.int (nI sl))) (some (.ref (slA (pf sl)))) (by omega) (hL0.swap hsl hfr) ?_ ?_ ?_ ?_ ?_ ?_
    · skip
      refine wp_iload_n rfl (ck_get kk_Tr_take 2 rfl) ?_
      refine wp_aload_n rfl (ck_get kk_Tr_take 3 rfl) ?_
      refine wp_getIv (v := nI nF) (ck_get kk_Tr_take 4 rfl) fl_Tr_25 (by assumption) (h3) ?_
      first | refine wp_icmp_geN (t := 75) (ck_get kk_Tr_take 5 rfl) (by decide) (by omega) (by omega) (fun hc7 => ?_) (fun hc7 => ?_) | refine wp_icmp_ge (t := 75) (ck_get kk_Tr_take 5 rfl) (by decide) (fun hc7 => ?_) (fun hc7 => ?_)
      · omega
      · refine wp_aload_n rfl (ck_get kk_Tr_take 6 rfl) ?_
        refine wp_getIv (v := nI fF) (ck_get kk_Tr_take 7 rfl) fl_Tr_21 (by assumption) (h2) ?_
        refine wp_iload_n rfl (ck_get kk_Tr_take 8 rfl) ?_
        first | refine wp_iaddN (ck_get kk_Tr_take 9 rfl) ?_ | refine wp_iadd (ck_get kk_Tr_take 9 rfl) ?_
        refine wp_bipush (v := nI 16) (by decide) (ck_get kk_Tr_take 10 rfl) ?_
        first | refine wp_iremN (ck_get kk_Tr_take 11 rfl) (by omega) (by omega) (by omega) ?_ | refine wp_irem (by decide) (ck_get kk_Tr_take 11 rfl) ?_
        rw [hfd]
        refine wp_istore_n (ck_get kk_Tr_take 12 rfl) (by decide) rfl ?_
        refine wp_aload_n rfl (ck_get kk_Tr_take 13 rfl) ?_
        refine wp_cV0i (ck_get kk_Tr_take 14 rfl) ml_Tr_29 (by omega) (Nat.le_of_ble_eq_true rfl) (by assumption) (Ci.to (hns) ?_)
        rintro _ M1 ⟨rfl, eqm1⟩
        obtain rfl := eqm1.symm
        refine wp_istore (ck_get kk_Tr_take 15 rfl) (by decide) rfl ?_
        refine wp_aload_n rfl (ck_get kk_Tr_take 16 rfl) ?_
        refine wp_getR (ck_get kk_Tr_take 17 rfl) fl_Tr_17 (by assumption) (by assumption) ?_
        refine wp_iload rfl (ck_get kk_Tr_take 18 rfl) ?_
        refine wp_aload_n rfl (ck_get kk_Tr_take 19 rfl) ?_
        refine wp_getR (ck_get kk_Tr_take 20 rfl) fl_Tr_17 (by assumption) (by assumption) ?_
        refine wp_iload_n rfl (ck_get kk_Tr_take 21 rfl) ?_
        refine wp_ialdv (v := nI (uF i).1) (ck_get kk_Tr_take 22 rfl) (by assumption) (ixk_nI (k := fr) (by omega) (by omega)) (v1' (nI (nfi f (psL (lsU uF i) p).1)) (nI (nsz (psL (lsU uF i) p).1))) ?_
        refine wp_iast (ck_get kk_Tr_take 23 rfl) (by assumption) (ixk_nI (k := sl) (by omega) (by omega)) ?_
        refine wp_aload_n rfl (ck_get kk_Tr_take 24 rfl) ?_
        refine wp_getR (ck_get kk_Tr_take 25 rfl) fl_Tr_11 (by assumption) (by assumption) ?_
        refine wp_iload rfl (ck_get kk_Tr_take 26 rfl) ?_
        refine wp_aald (ck_get kk_Tr_take 27 rfl) (by assumption) (ixk_nI (k := sl) (by omega) (by omega)) (by assumption) ?_
        refine wp_astore (ck_get kk_Tr_take 28 rfl) (by decide) rfl ?_
        refine wp_aload_n rfl (ck_get kk_Tr_take 29 rfl) ?_
        refine wp_getR (ck_get kk_Tr_take 30 rfl) fl_Tr_11 (by assumption) (by assumption) ?_
        refine wp_iload rfl (ck_get kk_Tr_take 31 rfl) ?_
        refine wp_aload_n rfl (ck_get kk_Tr_take 32 rfl) ?_
        refine wp_getR (ck_get kk_Tr_take 33 rfl) fl_Tr_11 (by assumption) (by assumption) ?_
        refine wp_iload_n rfl (ck_get kk_Tr_take 34 rfl) ?_
        refine wp_aald (ck_get kk_Tr_take 35 rfl) (by assumption) (ixk_nI (k := fr) (by omega) (by omega)) (by assumption) ?_
        refine wp_aast (ck_get kk_Tr_take 36 rfl) (by assumption) (ixk_nI (k := sl) (by omega) (by omega)) (by assumption) ?_
        refine wp_aload_n rfl (ck_get kk_Tr_take 37 rfl) ?_
        refine wp_getR (ck_get kk_Tr_take 38 rfl) fl_Tr_11 (by assumption) (by assumption) ?_
        refine wp_iload_n rfl (ck_get kk_Tr_take 39 rfl) ?_
        refine wp_aload rfl (ck_get kk_Tr_take 40 rfl) ?_
        refine wp_aast (ck_get kk_Tr_take 41 rfl) (by assumption) (ixk_nI (k := fr) (by omega) (by omega)) (by assumption) ?_
        first | refine wp_iincN (ck_get kk_Tr_take 42 rfl) rfl (by decide) rfl ?_ | refine wp_iinc (ck_get kk_Tr_take 42 rfl) rfl (by decide) rfl ?_
        refine wp_goto (t := 2) (ck_get kk_Tr_take 43 rfl) (by decide) ?_
        exact hnx
    · intro x q1 q2
      rw [up2_up1, up1_ne q2, up2_up1, up1_ne q1]; exact hR x q1 q2
    · intro x q1 q2
      rw [up2_up1, up1_ne q2, up2_up1, up1_ne q1, up2_up1, up1_ne q1]; exact hI x q1 q2
    · rw [up2_up1, up1_ne (by omega), up2_up1, up1_ne (by omega), up2_up1, up1_ne (by omega)]; exact h2
    · rw [up2_up1, up1_ne (by omega), up2_up1, up1_ne (by omega), up2_up1, up1_ne (by omega)]; exact h3
    · rw [lsU_succ, psL_snoc]
      have := hU0.take (x := uF i) (w := pg fr) (fun q hq => (hPf.1 q hq).1) rfl (hPf.1 fr hfr).2 v2
      rw [hsd] at this
      exact this
    · intro j q1 q2
      obtain ⟨w1, w2⟩ := hr j (by omega) q2
      have hne : (fF + j) % 16 ≠ fr := by omega
      refine ⟨?_, ?_⟩
      · rw [up2_up1, up1_ne (by omega), up2_up1, up1_ne (by omega), up2_up1, up1_ne (by omega)]; exact w1
      · rw [up1_ne hne]
        refine w2.kept (fun y z1 z2 => ⟨?_, rfl⟩)
        have := slA_lt (hPf.1 ((fF + j) % 16) (Nat.mod_lt _ (by decide))).2
        rw [up2_up1, up1_ne (by omega), up2_up1, up1_ne (by omega), up2_up1, up1_ne (by omega)]
theorem c_take {pf pg : Nat → Nat} {f n fF nF : Nat} {u uF : UF} (hL : LayC (mT M) (mR M) pf pg) (hU : TrHas (mI M) (mJ M) 31 (fun s => slA (pf s)) f n u) (hF : TrHas (mI M) (mJ M) 450 (fun s => slA (pg s)) fF nF uF) : Cv g Y_Tr_take 1 [.ref 31, .ref 450] M (fun M2 => tkQ M (mI M) (mR M) (lsU uF nF) (n, u) M2) := by
  obtain ⟨h2, hf, h3, hnF, hr⟩ := hF
  have hl := l_take (g := g) (M := M) (uF := uF) (p := (n, u)) (I0 := mI M) (R0 := mR M) hf hnF nF 0 (mI M) (mR M) pf pg f none none none (by omega) hL (fun _ _ _ => rfl) (fun _ _ _ => rfl) h2 h3 hU (fun j _ hj => hr j hj)
  refine cw_entry 4 pf_Tr_take rfl ?_
  refine wp_iconst (v := nI 0) (by decide) (ck_get kk_Tr_take 0 rfl) ?_
  refine wp_istore_n (ck_get kk_Tr_take 1 rfl) (by decide) rfl ?_
  exact hl
end TKE

section RNC
variable {g : Gl} {M : Mem} {o ge bs N : Nat} {K0 F0 : Nat → Int32} {tc tv : Nat → Nat} {C : Nat → Int32} {cn : Nat} {f : Nat} {p : Nat × UF} {res : (Nat → Int32) → Int32 × Int32} {md salt B : Nat}
/-- behind a clause of orders run -/
def rnQ (res : (Nat → Int32) → Int32 × Int32) (md salt : Nat) (C : Nat → Int32) (cn : Nat) (M : Mem) (o : Nat) (K0 F0 : Nat → Int32) (p : Nat × UF) (e : Nat → Int32) (d : Nat) (s : OS) (be : Int32) (x : Int32) (M2 : Mem) : Prop :=
  (oR res md salt C cn e d s = none ∧ x = 0 ∧ ∃ s2, MoO M o K0 F0 p s2 M2) ∨ ∃ s2, oR res md salt C cn e d s = some s2 ∧ x = nI 1 ∧ MoO M o K0 (up1 F0 55 be) p s2 M2
theorem oR_no {e : Nat → Int32} {d : Nat} {s : OS} (h : o1 res md salt C cn s e = none) : oR res md salt C cn e (d + 1) s = none := by
  show (o1 res md salt C cn s e).bind _ = none
  rw [h]; rfl
theorem rnQ.step {e : Nat → Int32} {d : Nat} {s s2 : OS} {be x : Int32} {M2 : Mem} (h : o1 res md salt C cn s e = some s2) (h2 : rnQ res md salt C cn M o K0 F0 p e d s2 be x M2) : rnQ res md salt C cn M o K0 F0 p e (d + 1) s be x M2 := by
  have e1 : oR res md salt C cn e (d + 1) s = oR res md salt C cn e d s2 := by
    show (o1 res md salt C cn s e).bind _ = _
    rw [h]; rfl
  unfold rnQ
  rw [e1]; exact h2
theorem MoO.st55 {s : OS} {W : Mem} {v : Int32} (h : MoO M o K0 F0 p s W) : MoO M o K0 (up1 F0 55 v) p s (sI W o 55 v) := by
  obtain ⟨Sm, U, UP, K, P, A, F, rfl, a1, a2, a3, a4, a5, a6, a7, a8⟩ := h
  refine ⟨Sm, U, UP, K, P, A, up1 F 55 v, wk_sF, a1, a2, a3, by rw [up1_ne (by omega)]; exact a4, by rw [up1_ne (by omega)]; exact a5, by rw [up1_ne (by omega)]; exact a6, by rw [up1_ne (by omega)]; exact a7, fun k q1 q2 q3 q4 => ?_⟩
  by_cases h5 : k = 55
  · subst h5; rw [up1_eq, up1_eq]
  · rw [up1_ne h5, up1_ne h5]; exact a8 k q1 q2 q3 q4
theorem l_runs {e : Nat → Int32} {i lf cl j1 lf1 j tm : Nat} {s1 s2 : List Int32} {be : Int32} (hM : MoAt (mT M) (mR M) o) (hK : TkO K0 ge bs N tc tv) (hN : MoN K0 res md salt) (h55 : F0 55 = nI (bs + i)) (hO : OrS tc tv true f e i lf cl j1 lf1 s1) (hCn : CnS tc tv true f e j1 lf1 (cl + s1.length) j s2) (hC : Hd C cl (s1 ++ s2)) (hcl : cl + (s1 ++ s2).length ≤ cn) (hcn2 : cn ≤ 1024) (hi : i ≤ N) (hl : lf ≤ 50) (htm : tm ≤ 20) (hB : B + 63360 < 2147483648) (hp : UOK p.1 p.2 B) :
    ∀ d k (s : OS) (W : Mem), k + d = tm → MoO M o K0 F0 p s W → OOK s (B + 3168 * k) → Wp g Y_Mo_runs 160 19 [some (.ref o), some (.int (nI ge)), some (.int (nI tm)), some (.int be), some (.int (nI k))] [] W (fun r M2 => ∃ x, r = some (.int x) ∧ rnQ res md salt C cn M o K0 F0 p e d s be x M2) := by
  have to0 := hM.1
  have hkd : ∃ kd, kd < 4 ∧ e 1 = nI kd ∧ ((kd = 0 ∧ tc i = 17) ∨ (kd = 1 ∧ tc i = 19) ∨ (kd = 2 ∧ tc i = 21) ∨ (kd = 3 ∧ tc i = 22)) := by
    rcases hO with ⟨⟨h, h1⟩ | ⟨h, h1⟩, -⟩ | ⟨h, h1, -⟩ | ⟨h, h1, -⟩
    · exact ⟨0, by omega, h1, by omega⟩
    · exact ⟨2, by omega, h1, by omega⟩
    · exact ⟨1, by omega, h1, by omega⟩
    · exact ⟨3, by omega, h1, by omega⟩
  obtain ⟨kd, hk4, he1, hhd⟩ := hkd
  have hcl1 : (e 1).toNatClampNeg = kd := by rw [he1]; exact nI_clamp (by omega)
  intro d
  induction d with
  | zero =>
    intro k s W hk hs hok
    have toW : mT W o = (11, 0) := by rw [hs.T.1]; exact to0
    refine wp_iload rfl (ck_get kk_Mo_runs 12 rfl) ?_
    refine wp_iload_n rfl (ck_get kk_Mo_runs 13 rfl) ?_
    first | refine wp_icmp_geN (t := 73) (ck_get kk_Mo_runs 14 rfl) (by decide) (by omega) (by omega) (fun hc22 => ?_) (fun hc22 => ?_) | refine wp_icmp_ge (t := 73) (ck_get kk_Mo_runs 14 rfl) (by decide) (fun hc22 => ?_) (fun hc22 => ?_)
    · refine wp_aload_n rfl (ck_get kk_Mo_runs 39 rfl) ?_
      refine wp_iload_n rfl (ck_get kk_Mo_runs 40 rfl) ?_
      refine wp_putI (ck_get kk_Mo_runs 41 rfl) fl_Mo_515 (by decide +kernel) (by assumption) (okI_int _) ?_
      refine wp_iconst (v := nI 1) (by decide) (ck_get kk_Mo_runs 42 rfl) ?_
      refine wp_ireturn (ck_get kk_Mo_runs 43 rfl) rfl rfl ⟨_, rfl, ?_⟩
      exact Or.inr ⟨s, rfl, rfl, hs.st55⟩
    · omega
  | succ d ih =>
    intro k s W hk hs hok
    have toW : mT W o = (11, 0) := by rw [hs.T.1]; exact to0
    have hev := hs.ev hM hK (hok.nn (by omega))
    have hb : ∃ b, mI W o 27 = bI b := by
      obtain ⟨Sm, U, UP, K, P, A, F, rfl, a1, a2, a3, a4, a5, a6, a7, a8⟩ := hs
      rw [wk_o]; exact a7
    have hga := m_goesAlong (g := g) (live := true) hev (by rw [hs.fd (by omega) (by omega) (by omega) (by omega)]; exact h55) hb hO hCn hC hcl hcn2 hi hl
    refine wp_iload rfl (ck_get kk_Mo_runs 12 rfl) ?_
    refine wp_iload_n rfl (ck_get kk_Mo_runs 13 rfl) ?_
    first | refine wp_icmp_geN (t := 73) (ck_get kk_Mo_runs 14 rfl) (by decide) (by omega) (by omega) (fun hc22 => ?_) (fun hc22 => ?_) | refine wp_icmp_ge (t := 73) (ck_get kk_Mo_runs 14 rfl) (by decide) (fun hc22 => ?_) (fun hc22 => ?_)
    · omega
    · refine wp_aload_n rfl (ck_get kk_Mo_runs 15 rfl) ?_
      refine wp_iload_n rfl (ck_get kk_Mo_runs 16 rfl) ?_
      refine wp_iconst (v := nI 1) (by decide) (ck_get kk_Mo_runs 17 rfl) ?_
      refine wp_cV2v (ck_get kk_Mo_runs 18 rfl) ml_Mo_540 (by omega) (Nat.le_of_ble_eq_true rfl) (by assumption) (Cv.to (hga) ?_)
      rintro M₁ hQ
      obtain ⟨g1, g2, g3, g4, g5, g6⟩ := hQ
      obtain ⟨sa, wt, w1, w2, w3, w4, w5⟩ := g6 rfl
      have hs1 := hs.ga g1 g3
      have toW1 : mT M₁ o = (11, 0) := by rw [hs1.T.1]; exact to0
      have hnext : ∀ (s2 : OS) (W2 : Mem), o1 res md salt C cn s e = some s2 → MoO M o K0 F0 p s2 W2 → Wp g Y_Mo_runs 160 67 [some (.ref o), some (.int (nI ge)), some (.int (nI tm)), some (.int be), some (.int (nI k))] [] W2 (fun r M2 => ∃ x, r = some (.int x) ∧ rnQ res md salt C cn M o K0 F0 p e (d + 1) s be x M2) := by
        intro s2 W2 q1 q2
        have q3 := ih (k + 1) s2 W2 (by omega) q2 (by have := (o1_ok hN.2.2.2.ok (by omega) hok (by omega) q1).1; rw [show B + 3168 * (k + 1) = B + 3168 * k + 3168 by omega]; exact this)
        first | refine wp_iincN (ck_get kk_Mo_runs 37 rfl) rfl (by decide) rfl ?_ | refine wp_iinc (ck_get kk_Mo_runs 37 rfl) rfl (by decide) rfl ?_
        refine wp_goto (t := 19) (ck_get kk_Mo_runs 38 rfl) (by decide) ?_
        refine Wp.mono q3 (fun r M2 h => ?_)
        obtain ⟨x, h1, h2⟩ := h
        exact ⟨x, h1, h2.step q1⟩
      cases wt with
      | false =>
        refine wp_aload_n rfl (ck_get kk_Mo_runs 19 rfl) ?_
        refine wp_getIv (v := bI false) (ck_get kk_Mo_runs 20 rfl) fl_Mo_533 (by assumption) (w2) ?_
        first | refine wp_if_neN (t := 41) (ck_get kk_Mo_runs 21 rfl) (by decide) (by omega) (fun hc35 => ?_) (fun hc35 => ?_) | refine wp_if_ne (t := 41) (ck_get kk_Mo_runs 21 rfl) (by decide) (fun hc35 => ?_) (fun hc35 => ?_)
        · exact absurd rfl hc35
        · refine wp_goto (t := 67) (ck_get kk_Mo_runs 22 rfl) (by decide) ?_
          refine hnext s M₁ ?_ hs1
          unfold o1
          rw [if_neg (fun q => absurd (w3.mpr q) (by decide))]
      | true =>
        have hw : oWant C cn s e := w3.mp rfl
        cases sa with
        | false =>
          refine wp_aload_n rfl (ck_get kk_Mo_runs 19 rfl) ?_
          refine wp_getIv (v := bI true) (ck_get kk_Mo_runs 20 rfl) fl_Mo_533 (by assumption) (w2) ?_
          first | refine wp_if_neN (t := 41) (ck_get kk_Mo_runs 21 rfl) (by decide) (by omega) (fun hc35 => ?_) (fun hc35 => ?_) | refine wp_if_ne (t := 41) (ck_get kk_Mo_runs 21 rfl) (by decide) (fun hc35 => ?_) (fun hc35 => ?_)
          · refine wp_aload_n rfl (ck_get kk_Mo_runs 23 rfl) ?_
            refine wp_getIv (v := bI false) (ck_get kk_Mo_runs 24 rfl) fl_Mo_527 (by assumption) (w1) ?_
            first | refine wp_if_eqN (t := 55) (ck_get kk_Mo_runs 25 rfl) (by decide) (by omega) (fun hc45 => ?_) (fun hc45 => ?_) | refine wp_if_eq (t := 55) (ck_get kk_Mo_runs 25 rfl) (by decide) (fun hc45 => ?_) (fun hc45 => ?_)
            · refine wp_iconst (v := nI 0) (by decide) (ck_get kk_Mo_runs 29 rfl) ?_
              refine wp_ireturn (ck_get kk_Mo_runs 30 rfl) rfl rfl ⟨_, rfl, ?_⟩
              refine Or.inl ⟨oR_no ?_, rfl, s, hs1⟩
              unfold o1
              rw [if_pos hw, if_neg (fun q => absurd (w4.mpr q.1) (by decide))]
            · exact absurd rfl hc45
          · exact absurd hc35 (by decide)
        | true =>
          have hsum : oSum C cn s e := w4.mp rfl
          have hS := w5 rfl
          have hok1 := psL_ok hok.2.2.1 (p := p) (B := B + 3168 * k) ⟨hp.1, fun i hi => ⟨(hp.2 i hi).1, (hp.2 i hi).2.1, by have := (hp.2 i hi).2.2; omega⟩⟩
          obtain ⟨Sm, U, UP, K, P, A, F, rfl, a1, a2, a3, a4, a5, a6, a7, a8⟩ := hs1
          have hS2 : ∀ q, q < (ksO e).length → Sm q = ev0 C cn (oV s) 11 ((ksO e).getD q 0) ∧ inR (Sm q) := fun q hq => by have := hS q hq; rwa [lg_J] at this
          obtain ⟨r1, r2⟩ := ob_args (C := C) (cn := cn) (s := s) he1 hk4 hS2
          rw [wk_o] at g5
          have hlj : ∀ q, mJ (lgM M o Sm) (o + 34) q = Sm q := fun q => by show up1 (mJ M) (o + 34) Sm (o + 34) q = _; rw [up1_eq]
          have hob := m_obeys (g := g) (M := lgM M o Sm) (A := A) (by exact hM) a1 hok.1 (by have := hok.2.1; omega) a2 hok1 a4 (hN.kept a3) a7 g5 hhd
          rw [hlj, hlj, hlj] at hob
          have hme : MoO M o K0 F0 p s (wkM (ubM (lgM M o Sm) o U UP) o K P A F) := ⟨Sm, U, UP, K, P, A, F, rfl, a1, a2, a3, a4, a5, a6, a7, a8⟩
          refine wp_aload_n rfl (ck_get kk_Mo_runs 19 rfl) ?_
          refine wp_getIv (v := bI true) (ck_get kk_Mo_runs 20 rfl) fl_Mo_533 (by assumption) (w2) ?_
          first | refine wp_if_neN (t := 41) (ck_get kk_Mo_runs 21 rfl) (by decide) (by omega) (fun hc35 => ?_) (fun hc35 => ?_) | refine wp_if_ne (t := 41) (ck_get kk_Mo_runs 21 rfl) (by decide) (fun hc35 => ?_) (fun hc35 => ?_)
          · refine wp_aload_n rfl (ck_get kk_Mo_runs 23 rfl) ?_
            refine wp_getIv (v := bI true) (ck_get kk_Mo_runs 24 rfl) fl_Mo_527 (by assumption) (w1) ?_
            first | refine wp_if_eqN (t := 55) (ck_get kk_Mo_runs 25 rfl) (by decide) (by omega) (fun hc45 => ?_) (fun hc45 => ?_) | refine wp_if_eq (t := 55) (ck_get kk_Mo_runs 25 rfl) (by decide) (fun hc45 => ?_) (fun hc45 => ?_)
            · exact absurd hc45 (by decide)
            · refine wp_aload_n rfl (ck_get kk_Mo_runs 26 rfl) ?_
              refine wp_cV0i (ck_get kk_Mo_runs 27 rfl) ml_Mo_544 (by omega) (Nat.le_of_ble_eq_true rfl) (by assumption) (Ci.to (hob) ?_)
              rintro x₁ M₂ hQ2
              rcases hQ2 with ⟨b1, b2, rfl⟩ | ⟨b1, b2, U2, UP2, K2, P2, A2, F2, rfl, b3, b4, b5, b6, b7, b8, b9⟩
              · have hx0 : x₁ < 0 := by rw [b2]; exact acV_neg b1
                have hno : o1 res md salt C cn s e = none := by
                  unfold o1
                  rw [if_pos hw, if_neg (fun q => b1 (r1.mpr (by have := q.2; rwa [hcl1] at this)))]
                clear r1 r2 b1 b2 hob hS hS2 hlj
                refine wp_if_ge (t := 57) (ck_get kk_Mo_runs 28 rfl) (by decide) (fun hc52 => ?_) (fun hc52 => ?_)
                · exact absurd hc52 (fun q => i32_nlt q hx0)
                · refine wp_iconst (v := nI 0) (by decide) (ck_get kk_Mo_runs 29 rfl) ?_
                  refine wp_ireturn (ck_get kk_Mo_runs 30 rfl) rfl rfl ⟨_, rfl, ?_⟩
                  exact Or.inl ⟨oR_no hno, rfl, s, hme⟩
              · have z := r1.mp b1
                obtain ⟨z1, z2, z3⟩ := r2 z
                rw [z1, z2, z3] at b2 b3 b7
                have hx0 : 0 ≤ x₁ := by rw [b2]; exact nI_nn (acW_lt (res := res) (md := md) (salt := salt) hN.2.2.2.ok hok.1 hk4 (by have := hok.2.1; omega) z).1
                have hst : o1 res md salt C cn s e = some (oDo res md salt s kd (oA3 C cn s e)) := by
                  unfold o1
                  rw [if_pos hw, if_pos ⟨hsum, by rw [hcl1]; exact z⟩, hcl1]
                have hmo : MoO M o K0 F0 p (oDo res md salt s kd (oA3 C cn s e)) (sI (wkM (ubM (lgM M o Sm) o U2 UP2) o K2 P2 A2 F2) o 30 (nI (s.2.2.1 + 1))) := by
                  refine ⟨Sm, U2, UP2, K2, P2, A2, up1 F2 30 (nI (s.2.2.1 + 1)), wk_sF, b3, ?_, fun x hx => (b5 x hx).trans (a3 x hx), ?_, up1_eq, ?_, ?_, fun k q1 q2 q3 q4 => ?_⟩
                  · show MuHas U2 UP2 (psL (s.2.1 ++ [(kd, s.1)]) p).1 (psL (s.2.1 ++ [(kd, s.1)]) p).2
                    rw [psL_snoc]; exact b4
                  · show up1 F2 30 _ 36 = nI (psL (s.2.1 ++ [(kd, s.1)]) p).1
                    rw [psL_snoc, up1_ne (by omega)]; exact b6
                  · rw [up1_ne (by omega), b7]
                    show _ = (if kd ≤ 1 then _ else s.2.2.2)
                    rw [a6]
                  · rw [up1_ne (by omega)]; exact b9
                  · rw [up1_ne q3, b8 k (by omega) q2 q4]; exact a8 k q1 q2 q3 q4
                have h30 : mI (wkM (ubM (lgM M o Sm) o U2 UP2) o K2 P2 A2 F2) o 30 = nI s.2.2.1 := by rw [wk_o, b8 30 (by omega) (by omega) (by omega)]; exact a5
                clear r1 r2 b1 b2 b3 b7 z z1 z2 z3 hob hS hS2 hlj
                refine wp_if_ge (t := 57) (ck_get kk_Mo_runs 28 rfl) (by decide) (fun hc52 => ?_) (fun hc52 => ?_)
                · refine wp_aload_n rfl (ck_get kk_Mo_runs 31 rfl) ?_
                  refine wp_dup rfl (ck_get kk_Mo_runs 32 rfl) ?_
                  refine wp_getIv (v := nI s.2.2.1) (ck_get kk_Mo_runs 33 rfl) fl_Mo_330 (by assumption) (h30) ?_
                  refine wp_iconst (v := nI 1) (by decide) (ck_get kk_Mo_runs 34 rfl) ?_
                  first | refine wp_iaddN (ck_get kk_Mo_runs 35 rfl) ?_ | refine wp_iadd (ck_get kk_Mo_runs 35 rfl) ?_
                  refine wp_putI (ck_get kk_Mo_runs 36 rfl) fl_Mo_330 (by decide +kernel) (by assumption) (okI_int _) ?_
                  exact hnext (oDo res md salt s kd (oA3 C cn s e)) _ hst hmo
                · exact absurd hx0 hc52
          · exact absurd hc35 (by decide)
theorem m_runs {e : Nat → Int32} {i lf cl j1 lf1 j : Nat} {s1 s2 : List Int32} {s : OS} {W : Mem} (hM : MoAt (mT M) (mR M) o) (hK : TkO K0 ge bs N tc tv) (hN : MoN K0 res md salt) (h55 : F0 55 = nI (bs + i)) (hO : OrS tc tv true f e i lf cl j1 lf1 s1) (hCn : CnS tc tv true f e j1 lf1 (cl + s1.length) j s2) (hC : Hd C cl (s1 ++ s2)) (hcl : cl + (s1 ++ s2).length ≤ cn) (hcn2 : cn ≤ 1024) (hi : i ≤ N) (hl : lf ≤ 50) (hB : B + 63360 < 2147483648) (hp : UOK p.1 p.2 B) (hs : MoO M o K0 F0 p s W) (hok : OOK s B) :
    Ci g Y_Mo_runs 160 [.ref o, .int (nI ge)] W (fun x M2 => (e 2).toNatClampNeg ≤ 20 ∧ rnQ res md salt C cn M o K0 F0 p e (e 2).toNatClampNeg s (nI (bs + (j + 1))) x M2) := by
  have to0 := hM.1
  have hb : ∃ b, mI W o 27 = bI b := by
    obtain ⟨Sm, U, UP, K, P, A, F, rfl, a1, a2, a3, a4, a5, a6, a7, a8⟩ := hs
    rw [wk_o]; exact a7
  have toW : mT W o = (11, 0) := by rw [hs.T.1]; exact to0
  have hga := m_goesAlong (g := g) (live := false) (hs.ev hM hK (hok.nn (by omega))) (by rw [hs.fd (by omega) (by omega) (by omega) (by omega)]; exact h55) hb hO hCn hC hcl hcn2 hi hl
  refine cw_entry 3 pf_Mo_runs rfl ?_
  refine wp_aload_n rfl (ck_get kk_Mo_runs 0 rfl) ?_
  refine wp_iload_n rfl (ck_get kk_Mo_runs 1 rfl) ?_
  refine wp_iconst (v := nI 0) (by decide) (ck_get kk_Mo_runs 2 rfl) ?_
  refine wp_cV2v (ck_get kk_Mo_runs 3 rfl) ml_Mo_540 (by omega) (Nat.le_of_ble_eq_true rfl) (by assumption) (Cv.to (hga) ?_)
  rintro M₁ hQ
  obtain ⟨g1, g2, g3, ⟨tm, g4, g5, g6⟩, -⟩ := hQ
  have hs1 := hs.ga g1 g3
  have toW1 : mT M₁ o = (11, 0) := by rw [hs1.T.1]; exact to0
  have ht2 : (e 2).toNatClampNeg = tm := by rw [g5]; exact nI_clamp (by omega)
  rw [ht2]
  have hl0 := l_runs (g := g) (be := nI (bs + (j + 1))) hM hK hN h55 hO hCn hC hcl hcn2 hi hl g4 hB hp tm 0 s M₁ (by omega) hs1 (by rw [Nat.mul_zero, Nat.add_zero]; exact hok)
  refine wp_aload_n rfl (ck_get kk_Mo_runs 4 rfl) ?_
  refine wp_getIv (v := nI tm) (ck_get kk_Mo_runs 5 rfl) fl_Mo_530 (by assumption) (g6) ?_
  refine wp_istore_n (ck_get kk_Mo_runs 6 rfl) (by decide) rfl ?_
  refine wp_aload_n rfl (ck_get kk_Mo_runs 7 rfl) ?_
  refine wp_getIv (v := nI (bs + (j + 1))) (ck_get kk_Mo_runs 8 rfl) fl_Mo_294 (by assumption) (g2) ?_
  refine wp_istore_n (ck_get kk_Mo_runs 9 rfl) (by decide) rfl ?_
  refine wp_iconst (v := nI 0) (by decide) (ck_get kk_Mo_runs 10 rfl) ?_
  refine wp_istore (ck_get kk_Mo_runs 11 rfl) (by decide) rfl ?_
  refine Wp.mono hl0 (fun r M2 h => ?_)
  obtain ⟨x, h1, h2⟩ := h
  exact ⟨x, h1, g4, h2⟩
end RNC

/-! ===== months, by the model ===== -/
section MOO
variable {g : Gl} {M : Mem} {res : (Nat → Int32) → Int32 × Int32} {md salt : Nat}
theorem l_moMon {n B : Nat} {sd : Int32} {K0 F0 : Nat → Int32} (hM : MoAt (mT M) (mR M) 1020) (hR : ResOK res) (hn : n ≤ 60) (hB : B < 1000000000) {R : Nat × WS} {Q : Option Value → Mem → Prop}
    (Kc : ∀ K P A F (x4 : Option Value), MwHas K P 0 0 R.2 → (∀ y, 369 ≤ y → K y = K0 y) → (∀ k, k < 25 ∨ 29 ≤ k → k ≠ 63 → F k = F0 k) → (∃ b, F 27 = bI b) → Wp g Y_Mo_months 300 79 [some (.ref 1020), some (.int sd), some (.int (nI n)), some (.int (nI R.1)), x4] [] (wkM M 1020 K P A F) Q) :
    ∀ (d i x cold : Nat) (ws : WS) K P A F, i + d = n → x ≤ 1000003 → cold ≤ i → WOK ws → tot ws ≤ B + 99 * i → MwHas K P 0 0 ws → (∀ y, 369 ≤ y → K y = K0 y) → MoN K res md salt → F 63 = nI x → (∀ k, k < 25 ∨ 29 ≤ k → k ≠ 63 → F k = F0 k) → (∃ b, F 27 = bI b) → dmR res md salt d x cold ws R → Wp g Y_Mo_months 300 46 [some (.ref 1020), some (.int sd), some (.int (nI n)), some (.int (nI cold)), some (.int (nI i))] [] (wkM M 1020 K P A F) Q := by
  have to0 := hM.1
  have rfkept := MoAt.r hM 1 rfl
  have tfkept := MoAt.t hM 1 rfl
  intro d
  induction d with
  | zero =>
    intro i x cold ws K P A F h1 hx hco hO hb hW hK hN h63 hF h27 hD
    have hD2 : R = (cold, ws) := hD
    subst hD2
    refine wp_iload rfl (ck_get kk_Mo_months 27 rfl) ?_
    refine wp_iload_n rfl (ck_get kk_Mo_months 28 rfl) ?_
    first | refine wp_icmp_geN (t := 79) (ck_get kk_Mo_months 29 rfl) (by decide) (by omega) (by omega) (fun hc49 => ?_) (fun hc49 => ?_) | refine wp_icmp_ge (t := 79) (ck_get kk_Mo_months 29 rfl) (by decide) (fun hc49 => ?_) (fun hc49 => ?_)
    · exact Kc K P A F _ hW hK hF h27
    · omega
  | succ d ih =>
    intro i x cold ws K P A F h1 hx hco hO hb hW hK hN h63 hF h27 hD
    have e368 : mI (wkM M 1020 K P A F) (1020 + 2) 368 = nI ws.1 := by rw [wk_2]; exact hW.1
    have h999 := hO.1
    rcases hD with ⟨hD1, hD2⟩ | ⟨hD1, a, b, c, ha, hb', hc', hD2⟩
    · subst hD2
      refine wp_iload rfl (ck_get kk_Mo_months 27 rfl) ?_
      refine wp_iload_n rfl (ck_get kk_Mo_months 28 rfl) ?_
      first | refine wp_icmp_geN (t := 79) (ck_get kk_Mo_months 29 rfl) (by decide) (by omega) (by omega) (fun hc49 => ?_) (fun hc49 => ?_) | refine wp_icmp_ge (t := 79) (ck_get kk_Mo_months 29 rfl) (by decide) (fun hc49 => ?_) (fun hc49 => ?_)
      · omega
      · refine wp_aload_n rfl (ck_get kk_Mo_months 30 rfl) ?_
        refine wp_getR (ck_get kk_Mo_months 31 rfl) fl_Mo_28 (by assumption) (by assumption) ?_
        refine wp_sipush (v := nI 368) (by decide) (ck_get kk_Mo_months 32 rfl) ?_
        refine wp_ialdv (v := nI ws.1) (ck_get kk_Mo_months 33 rfl) (by assumption) (ixk_nI (k := 368) (by omega) (by omega)) (e368) ?_
        refine wp_sipush (v := nI 999) (by decide) (ck_get kk_Mo_months 34 rfl) ?_
        first | refine wp_icmp_geN (t := 79) (ck_get kk_Mo_months 35 rfl) (by decide) (by omega) (by omega) (fun hc63 => ?_) (fun hc63 => ?_) | refine wp_icmp_ge (t := 79) (ck_get kk_Mo_months 35 rfl) (by decide) (fun hc63 => ?_) (fun hc63 => ?_)
        · exact Kc K P A F _ hW hK hF h27
        · omega
    · have hok := daW_ok (res := res) (md := md) (salt := salt) (w := c % 8) hR hO (show a % 4 < 4 by omega) (show b % 20 < 1000 by omega) hD1
      have q := m_drawnAct (g := g) (A := A) ha hb' hc' hM hW hO (by omega) hN h27 h63 hx
      have dc : c < 1000003 := by rw [← hc']; exact dw_lt b
      clear ha hb' hc'
      refine wp_iload rfl (ck_get kk_Mo_months 27 rfl) ?_
      refine wp_iload_n rfl (ck_get kk_Mo_months 28 rfl) ?_
      first | refine wp_icmp_geN (t := 79) (ck_get kk_Mo_months 29 rfl) (by decide) (by omega) (by omega) (fun hc49 => ?_) (fun hc49 => ?_) | refine wp_icmp_ge (t := 79) (ck_get kk_Mo_months 29 rfl) (by decide) (fun hc49 => ?_) (fun hc49 => ?_)
      · omega
      · refine wp_aload_n rfl (ck_get kk_Mo_months 30 rfl) ?_
        refine wp_getR (ck_get kk_Mo_months 31 rfl) fl_Mo_28 (by assumption) (by assumption) ?_
        refine wp_sipush (v := nI 368) (by decide) (ck_get kk_Mo_months 32 rfl) ?_
        refine wp_ialdv (v := nI ws.1) (ck_get kk_Mo_months 33 rfl) (by assumption) (ixk_nI (k := 368) (by omega) (by omega)) (e368) ?_
        refine wp_sipush (v := nI 999) (by decide) (ck_get kk_Mo_months 34 rfl) ?_
        first | refine wp_icmp_geN (t := 79) (ck_get kk_Mo_months 35 rfl) (by decide) (by omega) (by omega) (fun hc63 => ?_) (fun hc63 => ?_) | refine wp_icmp_ge (t := 79) (ck_get kk_Mo_months 35 rfl) (by decide) (fun hc63 => ?_) (fun hc63 => ?_)
        · omega
        · refine wp_iload_n rfl (ck_get kk_Mo_months 36 rfl) ?_
          refine wp_aload_n rfl (ck_get kk_Mo_months 37 rfl) ?_
          refine wp_cV0i (ck_get kk_Mo_months 38 rfl) ml_Mo_562 (by omega) (Nat.le_of_ble_eq_true rfl) (by assumption) (Ci.to (q) ?_)
          rintro v M1 ⟨e1, K2, P2, A2, F2, e2, b1, b2, b3, b4, b5⟩
          subst e1 e2
          first | refine wp_iaddN (ck_get kk_Mo_months 39 rfl) ?_ | refine wp_iadd (ck_get kk_Mo_months 39 rfl) ?_
          refine wp_istore_n (ck_get kk_Mo_months 40 rfl) (by decide) rfl ?_
          first | refine wp_iincN (ck_get kk_Mo_months 41 rfl) rfl (by decide) rfl ?_ | refine wp_iinc (ck_get kk_Mo_months 41 rfl) rfl (by decide) rfl ?_
          refine wp_goto (t := 46) (ck_get kk_Mo_months 42 rfl) (by decide) ?_
          exact ih (i + 1) c (cold + (daW res md salt ws (a % 4) (b % 20) (c % 8)).1) _ K2 P2 A2 F2 (by omega) (by omega) (by omega) hok.1 (by omega) b1 (fun y hy => (b2 y hy).trans (hK y hy)) (hN.kept b2) b3 (fun k z1 z2 => (b4 k z1 z2).trans (hF k z1 z2)) b5 hD2
theorem l_moMis {ws : WS} {P : Nat → Int64} {x1 x2 x3 : Int32} (hM : MoAt (mT M) (mR M) 1020) (hW : MwHas (mI M 1022) P 0 0 ws) {Q : Option Value → Mem → Prop}
    (Kc : ∀ f, (∀ t c, t < 4 → c < 25 → f (25 * t + c) = msW ws t c) → Wp g Y_Mo_months 300 100 [some (.ref 1020), some (.int x1), some (.int x2), some (.int x3), some (.int (nI 4))] [] (mk2 M (up1 (mI M) 1040 f) (mJ M)) Q) :
    ∀ d t f, t + d = 4 → (∀ t' c, t' < t → c < 25 → f (25 * t' + c) = msW ws t' c) → Wp g Y_Mo_months 300 82 [some (.ref 1020), some (.int x1), some (.int x2), some (.int x3), some (.int (nI t))] [] (mk2 M (up1 (mI M) 1040 f) (mJ M)) Q := by
  have to0 := hM.1
  intro d
  induction d with
  | zero =>
    intro t f h1 hf
    obtain rfl : t = 4 := by omega
    refine wp_iload rfl (ck_get kk_Mo_months 45 rfl) ?_
    refine wp_iconst (v := nI 4) (by decide) (ck_get kk_Mo_months 46 rfl) ?_
    first | refine wp_icmp_geN (t := 100) (ck_get kk_Mo_months 47 rfl) (by decide) (by omega) (by omega) (fun hc85 => ?_) (fun hc85 => ?_) | refine wp_icmp_ge (t := 100) (ck_get kk_Mo_months 47 rfl) (by decide) (fun hc85 => ?_) (fun hc85 => ?_)
    · exact Kc f hf
    · omega
  | succ d ih =>
    intro t f h1 hf
    have hlt : t < 4 := by omega
    refine wp_iload rfl (ck_get kk_Mo_months 45 rfl) ?_
    refine wp_iconst (v := nI 4) (by decide) (ck_get kk_Mo_months 46 rfl) ?_
    first | refine wp_icmp_geN (t := 100) (ck_get kk_Mo_months 47 rfl) (by decide) (by omega) (by omega) (fun hc85 => ?_) (fun hc85 => ?_) | refine wp_icmp_ge (t := 100) (ck_get kk_Mo_months 47 rfl) (by decide) (fun hc85 => ?_) (fun hc85 => ?_)
    · omega
    · refine wp_aload_n rfl (ck_get kk_Mo_months 48 rfl) ?_
      refine wp_iload rfl (ck_get kk_Mo_months 49 rfl) ?_
      refine wp_cV1v (ck_get kk_Mo_months 50 rfl) ml_Mo_407 (by omega) (Nat.le_of_ble_eq_true rfl) (by assumption) (Cv.to (m_laysMisses (t := t) (by exact hM) hlt) ?_)
      rintro M1 e1
      first | refine wp_iincN (ck_get kk_Mo_months 51 rfl) rfl (by decide) rfl ?_ | refine wp_iinc (ck_get kk_Mo_months 51 rfl) rfl (by decide) rfl ?_
      refine wp_goto (t := 82) (ck_get kk_Mo_months 52 rfl) (by decide) ?_
      have e2 : M1 = mk2 M (up1 (mI M) 1040 (lmF f (mI M 1022) t 0)) (mJ M) := by
        rw [e1]
        refine mk2_ext (M := M) ?_ rfl
        show up1 (up1 (mI M) 1040 f) (1020 + 20) (lmF (up1 (mI M) 1040 f (1020 + 20)) (up1 (mI M) 1040 f (1020 + 2)) t 0) = _
        rw [show 1020 + 20 = 1040 from rfl, up1_up1, up1_eq, up1_ne (show 1020 + 2 ≠ 1040 by omega)]
      rw [e2]
      refine ih (t + 1) _ (by omega) (fun t' c q1 q2 => ?_)
      by_cases e : t' = t
      · subst e
        exact lm_at hW hlt q2
      · have : lmF f (mI M 1022) t 0 (25 * t' + c) = f (25 * t' + c) := by
          unfold lmF
          rw [if_neg (by omega)]
        rw [this]
        exact hf t' c (by omega) q2
theorem l_moCpy {x1 x2 x3 : Int32} (hM : MoAt (mT M) (mR M) 1020) {Q : Option Value → Mem → Prop}
    (Kc : ∀ f, (∀ y, y < 100 → f y = mI M 1040 y) → Wp g Y_Mo_months 300 130 [some (.ref 1020), some (.int x1), some (.int x2), some (.int x3), some (.int (nI 100))] [] (mk2 M (up1 (mI M) 1055 f) (mJ M)) Q) :
    ∀ d i f, i + d = 100 → (∀ y, y < i → f y = mI M 1040 y) → Wp g Y_Mo_months 300 103 [some (.ref 1020), some (.int x1), some (.int x2), some (.int x3), some (.int (nI i))] [] (mk2 M (up1 (mI M) 1055 f) (mJ M)) Q := by
  have to0 := hM.1
  have rfdrawnMisses := MoAt.r hM 34 rfl
  have tfdrawnMisses := MoAt.t hM 34 rfl
  have rfmissed := MoAt.r hM 19 rfl
  have tfmissed := MoAt.t hM 19 rfl
  intro d
  induction d with
  | zero =>
    intro i f h1 hf
    obtain rfl : i = 100 := by omega
    refine wp_iload rfl (ck_get kk_Mo_months 55 rfl) ?_
    refine wp_bipush (v := nI 100) (by decide) (ck_get kk_Mo_months 56 rfl) ?_
    first | refine wp_icmp_geN (t := 130) (ck_get kk_Mo_months 57 rfl) (by decide) (by omega) (by omega) (fun hc107 => ?_) (fun hc107 => ?_) | refine wp_icmp_ge (t := 130) (ck_get kk_Mo_months 57 rfl) (by decide) (fun hc107 => ?_) (fun hc107 => ?_)
    · exact Kc f hf
    · omega
  | succ d ih =>
    intro i f h1 hf
    refine wp_iload rfl (ck_get kk_Mo_months 55 rfl) ?_
    refine wp_bipush (v := nI 100) (by decide) (ck_get kk_Mo_months 56 rfl) ?_
    first | refine wp_icmp_geN (t := 130) (ck_get kk_Mo_months 57 rfl) (by decide) (by omega) (by omega) (fun hc107 => ?_) (fun hc107 => ?_) | refine wp_icmp_ge (t := 130) (ck_get kk_Mo_months 57 rfl) (by decide) (fun hc107 => ?_) (fun hc107 => ?_)
    · omega
    · refine wp_aload_n rfl (ck_get kk_Mo_months 58 rfl) ?_
      refine wp_getR (ck_get kk_Mo_months 59 rfl) fl_Mo_136 (by assumption) (by assumption) ?_
      refine wp_iload rfl (ck_get kk_Mo_months 60 rfl) ?_
      refine wp_aload_n rfl (ck_get kk_Mo_months 61 rfl) ?_
      refine wp_getR (ck_get kk_Mo_months 62 rfl) fl_Mo_88 (by assumption) (by assumption) ?_
      refine wp_iload rfl (ck_get kk_Mo_months 63 rfl) ?_
      refine wp_ialdv (v := mI M 1040 i) (ck_get kk_Mo_months 64 rfl) (by assumption) (ixk_nI (k := i) (by omega) (by omega)) ((congrFun (up1_ne (f := mI M) (a := 1055) (x := 1020 + 20) (v := f) (by omega)) i)) ?_
      refine wp_iast (ck_get kk_Mo_months 65 rfl) (by assumption) (ixk_nI (k := i) (by omega) (by omega)) ?_
      first | refine wp_iincN (ck_get kk_Mo_months 66 rfl) rfl (by decide) rfl ?_ | refine wp_iinc (ck_get kk_Mo_months 66 rfl) rfl (by decide) rfl ?_
      refine wp_goto (t := 103) (ck_get kk_Mo_months 67 rfl) (by decide) ?_
      have e9 : sI (mk2 M (up1 (mI M) 1055 f) (mJ M)) (1020 + 35) i (mI M 1040 i) = mk2 M (up1 (mI M) 1055 (up1 f i (mI M 1040 i))) (mJ M) := by
        refine mk2_ext (M := M) ?_ rfl
        show up2 (up1 (mI M) 1055 f) (1020 + 35) i _ = _
        rw [up2_up1, show 1020 + 35 = 1055 from rfl, up1_up1, up1_eq]
      rw [e9]
      refine ih (i + 1) _ (by omega) (fun y hy => ?_)
      by_cases e : y = i
      · subst e; rw [up1_eq]
      · rw [up1_ne e]; exact hf y (by omega)
end MOO

/-! ===== the model goes along a clause of orders ===== -/
section GAL
variable {g : Gl} {M : Mem} {o ge bs N : Nat} {tc tv : Nat → Nat} {C : Nat → Int32} {cn : Nat} {V : Nat → Int32} {f : Nat}
theorem emM_s {i k : Nat} {b : Bool} {v : Int32} (h1 : k ≠ 25) (h2 : k ≠ 27) : sI (emM M o i b) o k v = emM (sI M o k v) o i b := by
  refine congrArg (fun I => mk2 M I (mJ M)) ?_
  show up2 (up1 (mI M) o (up1 (up1 (mI M o) 25 (nI i)) 27 (bI b))) o k v = up1 (up2 (mI M) o k v) o (up1 (up1 (up2 (mI M) o k v o) 25 (nI i)) 27 (bI b))
  rw [up2_up1, up2_up1, up1_eq, up1_eq, up1_up1, up1_up1, up1_comm _ h2.symm, up1_comm _ h1.symm]
theorem emM_sJ {i a k : Nat} {b : Bool} {v : Int64} : sJ (emM M o i b) a k v = emM (sJ M a k v) o i b := rfl
/-- what goes along keeps: rows of the model but for numbers of its own and the sums -/
theorem EvH.up {M2 : Mem} (h : EvH M o ge bs N tc tv true V 11) (ht : mT M2 = mT M) (hr : mR M2 = mR M) (h2 : mI M2 (o + 2) = mI M (o + 2)) (hf : ∀ k, k = 26 ∨ k = 28 ∨ k = 30 ∨ k = 31 → mI M2 o k = mI M o k) : EvH M2 o ge bs N tc tv true V 11 := by
  obtain ⟨a1, a2, a3, a4, a5, a6, a7, a8, a9, a10⟩ := h
  refine ⟨by rw [ht, hr]; exact a1, by rw [hf 26 (by omega)]; exact a2, a3, a4, by rw [h2]; exact a5, a6, a7, fun q => absurd q (by decide), fun q => ?_, a10⟩
  obtain ⟨b1, b2, b3, b4, b5, b6⟩ := a9 q
  exact ⟨by rw [hf 28 (by omega)]; exact b1, b2, by rw [h2]; exact b3, by rw [hf 30 (by omega)]; exact b4, by rw [hf 31 (by omega)]; exact b5, by rw [h2]; exact b6⟩
abbrev gaM (M : Mem) (o k : Nat) (x : Int64) (sa : Bool) : Mem := sI (sJ M (o + 34) k x) o 58 (bI sa)
theorem EvH.ga {k : Nat} {x : Int64} {sa : Bool} (h : EvH M o ge bs N tc tv true V 11) : EvH (gaM M o k x sa) o ge bs N tc tv true V 11 := by
  refine h.up rfl rfl ?_ ?_
  · show up2 (mI M) o 58 (bI sa) (o + 2) = mI M (o + 2)
    rw [up2_up1, up1_ne (by omega)]
  · intro q hq
    show up2 (mI M) o 58 (bI sa) o q = mI M o q
    unfold up2
    rw [if_neg (by omega)]
theorem ev_stop11 {cl : Nat} {s1 : List Int32} {v : Int64} {bk : Bool} (hC : Hd C cl (s1 ++ [nI 0, nI 0])) (hcn : cl + (s1 ++ [nI 0, nI 0]).length ≤ cn) (h : ∀ (sz : Nat) (S : Nat → Int64), sz + 2 * (8 - 0) + 4 ≤ 64 → evN C cn V 11 cl sz S = if bk = true then brk else evN C cn V 11 (cl + s1.length) (sz + 1) (up1 S sz v)) : ev0 C cn V 11 cl = if bk = true then brk else v := by
  rw [len_app2] at hcn
  obtain ⟨c1, c2⟩ := hC.r.two
  have h1 := h 0 (fun _ => 0) (by omega)
  rw [evN_stop (by omega) c1, up1_eq] at h1
  exact h1
/-- one sum -/
theorem l_gaS {i lf cl j lf2 k n : Nat} {sg : List Int32} {live sa b : Bool} {en : Int32} (hE : EvH M o ge bs N tc tv true V 11) (hp : psr tc tv true f 4 0 i lf cl = (true, j, lf2, sg)) (hC : Hd C cl (sg ++ [nI 0, nI 0])) (hcn : cl + (sg ++ [nI 0, nI 0]).length ≤ cn) (hi : i ≤ N) (hl : lf ≤ 50) (h58 : mI M o 58 = bI sa) (hk : k < 3) {Q : Option Value → Mem → Prop}
    (Kc : ∀ (x : Int64) (bk : Bool), (live = true → ev0 C cn V 11 cl = (if bk = true then brk else x) ∧ (bk = false → inR x)) → Wp g Y_Mo_goesAlong 150 76 [some (.ref o), some (.int en), some (.int (bI live)), some (.int (nI n)), some (.int (nI (k + 1)))] [] (emM (gaM M o k x (sa && !bk)) o (bs + j) bk) Q) :
    Wp g Y_Mo_goesAlong 150 97 [some (.ref o), some (.int en), some (.int (bI live)), some (.int (nI n)), some (.int (nI k))] [] (emM M o (bs + i) b) Q := by
  have hM := hE.1
  have hM0 := hM
  have to0 := hM.1
  have rfsums := MoAt.r hM 33 rfl
  have tfsums := MoAt.t hM 33 rfl
  have hcn2 := hcn
  rw [len_app2] at hcn2
  obtain ⟨v, bk, a0, a1, a2, a3⟩ := (ev_all (g := g) (C := C) (cn := cn) hE f).2.2.2.2.1 0 i lf cl j lf2 sg (by omega) hp hC.l (by omega) hi hl
  have hev := ev_stop11 (v := v) hC hcn (fun sz S h => a3 sz S (by omega))
  -- what is put into sumsAre
  have fin : ∀ (x : Int64) (bk : Bool), (live = true → ev0 C cn V 11 cl = (if bk = true then brk else x) ∧ (bk = false → inR x)) → Wp g Y_Mo_goesAlong 150 114 [some (.ref o), some (.int en), some (.int (bI live)), some (.int (nI n)), some (.int (nI k))] [] (emM (sJ M (o + 34) k x) o (bs + j) bk) Q := by
    intro x bk hx
    have hK := Kc x bk hx
    cases sa with
    | false =>
      refine wp_aload_n rfl (ck_get kk_Mo_goesAlong 62 rfl) ?_
      refine wp_aload_n rfl (ck_get kk_Mo_goesAlong 63 rfl) ?_
      refine wp_getIv (v := bI false) (ck_get kk_Mo_goesAlong 64 rfl) fl_Mo_527 (by assumption) (by rw [emM_f (by omega) (by omega)]; exact h58) ?_
      first | refine wp_if_eqN (t := 133) (ck_get kk_Mo_goesAlong 65 rfl) (by decide) (by omega) (fun hc119 => ?_) (fun hc119 => ?_) | refine wp_if_eq (t := 133) (ck_get kk_Mo_goesAlong 65 rfl) (by decide) (fun hc119 => ?_) (fun hc119 => ?_)
      · refine wp_iconst (v := nI 0) (by decide) (ck_get kk_Mo_goesAlong 71 rfl) ?_
        refine wp_putI (ck_get kk_Mo_goesAlong 72 rfl) fl_Mo_527 (by decide +kernel) (by assumption) (by first | exact okI_b0 | exact okI_b1) ?_
        rw [emM_s (by omega) (by omega)]
        first | refine wp_iincN (ck_get kk_Mo_goesAlong 73 rfl) rfl (by decide) rfl ?_ | refine wp_iinc (ck_get kk_Mo_goesAlong 73 rfl) rfl (by decide) rfl ?_
        refine wp_goto (t := 76) (ck_get kk_Mo_goesAlong 74 rfl) (by decide) ?_
        exact hK
      · exact absurd rfl hc119
    | true =>
      cases bk with
      | true =>
        refine wp_aload_n rfl (ck_get kk_Mo_goesAlong 62 rfl) ?_
        refine wp_aload_n rfl (ck_get kk_Mo_goesAlong 63 rfl) ?_
        refine wp_getIv (v := bI true) (ck_get kk_Mo_goesAlong 64 rfl) fl_Mo_527 (by assumption) (by rw [emM_f (by omega) (by omega)]; exact h58) ?_
        first | refine wp_if_eqN (t := 133) (ck_get kk_Mo_goesAlong 65 rfl) (by decide) (by omega) (fun hc119 => ?_) (fun hc119 => ?_) | refine wp_if_eq (t := 133) (ck_get kk_Mo_goesAlong 65 rfl) (by decide) (fun hc119 => ?_) (fun hc119 => ?_)
        · exact absurd hc119 (by decide)
        · refine wp_aload_n rfl (ck_get kk_Mo_goesAlong 66 rfl) ?_
          refine wp_getIv (v := bI true) (ck_get kk_Mo_goesAlong 67 rfl) fl_Mo_304 (by assumption) (emM_27) ?_
          first | refine wp_if_neN (t := 133) (ck_get kk_Mo_goesAlong 68 rfl) (by decide) (by omega) (fun hc126 => ?_) (fun hc126 => ?_) | refine wp_if_ne (t := 133) (ck_get kk_Mo_goesAlong 68 rfl) (by decide) (fun hc126 => ?_) (fun hc126 => ?_)
          · refine wp_iconst (v := nI 0) (by decide) (ck_get kk_Mo_goesAlong 71 rfl) ?_
            refine wp_putI (ck_get kk_Mo_goesAlong 72 rfl) fl_Mo_527 (by decide +kernel) (by assumption) (by first | exact okI_b0 | exact okI_b1) ?_
            rw [emM_s (by omega) (by omega)]
            first | refine wp_iincN (ck_get kk_Mo_goesAlong 73 rfl) rfl (by decide) rfl ?_ | refine wp_iinc (ck_get kk_Mo_goesAlong 73 rfl) rfl (by decide) rfl ?_
            refine wp_goto (t := 76) (ck_get kk_Mo_goesAlong 74 rfl) (by decide) ?_
            exact hK
          · exact absurd hc126 (by decide)
      | false =>
        refine wp_aload_n rfl (ck_get kk_Mo_goesAlong 62 rfl) ?_
        refine wp_aload_n rfl (ck_get kk_Mo_goesAlong 63 rfl) ?_
        refine wp_getIv (v := bI true) (ck_get kk_Mo_goesAlong 64 rfl) fl_Mo_527 (by assumption) (by rw [emM_f (by omega) (by omega)]; exact h58) ?_
        first | refine wp_if_eqN (t := 133) (ck_get kk_Mo_goesAlong 65 rfl) (by decide) (by omega) (fun hc119 => ?_) (fun hc119 => ?_) | refine wp_if_eq (t := 133) (ck_get kk_Mo_goesAlong 65 rfl) (by decide) (fun hc119 => ?_) (fun hc119 => ?_)
        · exact absurd hc119 (by decide)
        · refine wp_aload_n rfl (ck_get kk_Mo_goesAlong 66 rfl) ?_
          refine wp_getIv (v := bI false) (ck_get kk_Mo_goesAlong 67 rfl) fl_Mo_304 (by assumption) (emM_27) ?_
          first | refine wp_if_neN (t := 133) (ck_get kk_Mo_goesAlong 68 rfl) (by decide) (by omega) (fun hc126 => ?_) (fun hc126 => ?_) | refine wp_if_ne (t := 133) (ck_get kk_Mo_goesAlong 68 rfl) (by decide) (fun hc126 => ?_) (fun hc126 => ?_)
          · exact absurd rfl hc126
          · refine wp_iconst (v := nI 1) (by decide) (ck_get kk_Mo_goesAlong 69 rfl) ?_
            refine wp_goto (t := 134) (ck_get kk_Mo_goesAlong 70 rfl) (by decide) ?_
            refine wp_putI (ck_get kk_Mo_goesAlong 72 rfl) fl_Mo_527 (by decide +kernel) (by assumption) (by first | exact okI_b0 | exact okI_b1) ?_
            rw [emM_s (by omega) (by omega)]
            first | refine wp_iincN (ck_get kk_Mo_goesAlong 73 rfl) rfl (by decide) rfl ?_ | refine wp_iinc (ck_get kk_Mo_goesAlong 73 rfl) rfl (by decide) rfl ?_
            refine wp_goto (t := 76) (ck_get kk_Mo_goesAlong 74 rfl) (by decide) ?_
            exact hK
  cases live with
  | true =>
    refine wp_aload_n rfl (ck_get kk_Mo_goesAlong 52 rfl) ?_
    refine wp_iconst (v := nI 0) (by decide) (ck_get kk_Mo_goesAlong 53 rfl) ?_
    refine wp_putI (ck_get kk_Mo_goesAlong 54 rfl) fl_Mo_304 (by decide +kernel) (by assumption) (by first | exact okI_b0 | exact okI_b1) ?_
    rw [emM_br0]
    refine wp_aload_n rfl (ck_get kk_Mo_goesAlong 55 rfl) ?_
    refine wp_getR (ck_get kk_Mo_goesAlong 56 rfl) fl_Mo_133 (by assumption) (by assumption) ?_
    refine wp_iload rfl (ck_get kk_Mo_goesAlong 57 rfl) ?_
    refine wp_aload_n rfl (ck_get kk_Mo_goesAlong 58 rfl) ?_
    refine wp_iload_n rfl (ck_get kk_Mo_goesAlong 59 rfl) ?_
    refine wp_cV1l (ck_get kk_Mo_goesAlong 60 rfl) ml_Mo_321 (by omega) (Nat.le_of_ble_eq_true rfl) (by assumption) (Cl.to (a1) ?_)
    rintro _ M1 ⟨rfl, eqm1⟩
    obtain rfl := eqm1.symm
    refine wp_last (ck_get kk_Mo_goesAlong 61 rfl) (by assumption) (ixk_nI (k := k) (by omega) (by omega)) ?_
    rw [emM_sJ]
    refine fin _ bk (fun _ => ⟨?_, fun q => ?_⟩)
    · rw [hev]; cases bk <;> rfl
    · rw [q]; exact a0 q
  | false =>
    refine wp_aload_n rfl (ck_get kk_Mo_goesAlong 52 rfl) ?_
    refine wp_iconst (v := nI 0) (by decide) (ck_get kk_Mo_goesAlong 53 rfl) ?_
    refine wp_putI (ck_get kk_Mo_goesAlong 54 rfl) fl_Mo_304 (by decide +kernel) (by assumption) (by first | exact okI_b0 | exact okI_b1) ?_
    rw [emM_br0]
    refine wp_aload_n rfl (ck_get kk_Mo_goesAlong 55 rfl) ?_
    refine wp_getR (ck_get kk_Mo_goesAlong 56 rfl) fl_Mo_133 (by assumption) (by assumption) ?_
    refine wp_iload rfl (ck_get kk_Mo_goesAlong 57 rfl) ?_
    refine wp_aload_n rfl (ck_get kk_Mo_goesAlong 58 rfl) ?_
    refine wp_iload_n rfl (ck_get kk_Mo_goesAlong 59 rfl) ?_
    refine wp_cV1l (ck_get kk_Mo_goesAlong 60 rfl) ml_Mo_321 (by omega) (Nat.le_of_ble_eq_true rfl) (by assumption) (Cl.to (a2 false false (Or.inl rfl)) ?_)
    rintro _ M1 ⟨rfl, eqm1⟩
    obtain rfl := eqm1.symm
    refine wp_last (ck_get kk_Mo_goesAlong 61 rfl) (by assumption) (ixk_nI (k := k) (by omega) (by omega)) ?_
    rw [emM_sJ]
    exact fin _ false (fun q => absurd q (by decide))
/-- behind the sums: how often, the test -/
theorem l_ga143 {e : Nat → Int32} {j1 lf1 j2 lf2 j cl : Nat} {s2 : List Int32} {live b : Bool} {en : Int32} {x3 x4 : Option Value} (hE : EvH M o ge bs N tc tv true V 11) (hT : pTm tc tv j1 lf1 = (true, j2, lf2, [])) (hCn : CnS tc tv true f e j2 lf2 cl j s2) (hC : Hd C cl s2) (hcl : cl + s2.length ≤ cn) (hcn2 : cn ≤ 1024) (hj1 : j1 ≤ N) (hl1 : lf1 ≤ 50) {Q : Option Value → Mem → Prop}
    (Kc : ∀ (bk wt : Bool), (live = true → (wt = true ↔ (e 3 = -1 ∨ ev0 C cn V 11 (e 3).toNatClampNeg = 1))) → Q none (emM (sI (sI M o 56 (nI (tmV tc tv j1))) o 59 (bI wt)) o (bs + (j + 1)) bk)) :
    Wp g Y_Mo_goesAlong 150 143 [some (.ref o), some (.int en), some (.int (bI live)), x3, x4] [] (emM M o (bs + j1) b) Q := by
  have hE0 := hE
  have hM := hE.1
  obtain ⟨-, hge, hg1, hg2, hK, hN, hT4, hlaw, hord⟩ := hE
  have hM0 := hM
  have to0 := hM.1
  have rfkept := MoAt.r hM 1 rfl
  have tfkept := MoAt.t hM 1 rfl
  obtain ⟨q1, -, q3⟩ := pTm_ok hT
  have hj2 : j2 ≤ N := by
    rcases q3 with ⟨a, b, -, -, c⟩ | ⟨a, c⟩
    · have := hN (j1 + 1) (by omega); omega
    · omega
  have hf56 : ∀ (v : Int32) (k : Nat), k ≠ 56 → mI (sI M o 56 v) o k = mI M o k := fun v k hk => by
    show up2 (mI M) o 56 v o k = _
    unfold up2; rw [if_neg (by omega)]
  have hEt : EvH (sI M o 56 (nI (tmV tc tv j1))) o ge bs N tc tv true V 11 := hE0.up rfl rfl (by show up2 (mI M) o 56 _ (o + 2) = _; rw [up2_up1, up1_ne (by omega)]) (fun k hk => hf56 _ k (by omega))
  -- the end
  have fin2 : ∀ (bk wt0 wt : Bool), wt = (wt0 && !bk) → (live = true → (wt = true ↔ (e 3 = -1 ∨ ev0 C cn V 11 (e 3).toNatClampNeg = 1))) → ∀ M9, M9 = sI (sI M o 56 (nI (tmV tc tv j1))) o 59 (bI wt0) → Wp g Y_Mo_goesAlong 150 214 [some (.ref o), some (.int en), some (.int (bI live)), x3, x4] [] (emM M9 o (bs + j) bk) (fun r M2 => r = none ∧ Q none M2) := by
    intro bk wt0 wt hwt hiff M9 hM9
    have hK := Kc bk wt hiff
    have h59 : mI M9 o 59 = bI wt0 := by
      rw [hM9]
      show up2 (up2 (mI M) o 56 _) o 59 (bI wt0) o 59 = _
      unfold up2; rw [if_pos ⟨rfl, rfl⟩]
    have e59 : sI M9 o 59 (bI wt) = sI (sI M o 56 (nI (tmV tc tv j1))) o 59 (bI wt) := by
      rw [hM9]
      refine congrArg (fun I => mk2 M I (mJ M)) ?_
      show up2 (up2 (up2 (mI M) o 56 _) o 59 (bI wt0)) o 59 (bI wt) = up2 (up2 (mI M) o 56 _) o 59 (bI wt)
      simp only [up2_up1, up1_up1, up1_eq]
    have to9 : mT M9 o = (11, 0) := by rw [hM9]; exact to0
    subst hwt
    cases wt0 with
    | false =>
      refine wp_aload_n rfl (ck_get kk_Mo_goesAlong 113 rfl) ?_
      refine wp_aload_n rfl (ck_get kk_Mo_goesAlong 114 rfl) ?_
      refine wp_getIv (v := bI false) (ck_get kk_Mo_goesAlong 115 rfl) fl_Mo_533 (by assumption) (by rw [emM_f (by omega) (by omega)]; exact h59) ?_
      first | refine wp_if_eqN (t := 233) (ck_get kk_Mo_goesAlong 116 rfl) (by decide) (by omega) (fun hc219 => ?_) (fun hc219 => ?_) | refine wp_if_eq (t := 233) (ck_get kk_Mo_goesAlong 116 rfl) (by decide) (fun hc219 => ?_) (fun hc219 => ?_)
      · refine wp_iconst (v := nI 0) (by decide) (ck_get kk_Mo_goesAlong 122 rfl) ?_
        refine wp_putI (ck_get kk_Mo_goesAlong 123 rfl) fl_Mo_533 (by decide +kernel) (by assumption) (by first | exact okI_b0 | exact okI_b1) ?_
        rw [emM_s (by omega) (by omega)]
        refine wp_aload_n rfl (ck_get kk_Mo_goesAlong 124 rfl) ?_
        refine wp_dup rfl (ck_get kk_Mo_goesAlong 125 rfl) ?_
        refine wp_getIv (v := nI (bs + j)) (ck_get kk_Mo_goesAlong 126 rfl) fl_Mo_294 (by assumption) (emM_25) ?_
        refine wp_iconst (v := nI 1) (by decide) (ck_get kk_Mo_goesAlong 127 rfl) ?_
        first | refine wp_iaddN (ck_get kk_Mo_goesAlong 128 rfl) ?_ | refine wp_iadd (ck_get kk_Mo_goesAlong 128 rfl) ?_
        refine wp_putI (ck_get kk_Mo_goesAlong 129 rfl) fl_Mo_294 (by decide +kernel) (by assumption) (okI_int _) ?_
        rw [emM_go, Nat.add_assoc]
        refine wp_return (ck_get kk_Mo_goesAlong 130 rfl) rfl ⟨rfl, ?_⟩
        rw [show (sI M9 o 59 (nI 0)) = sI (sI M o 56 (nI (tmV tc tv j1))) o 59 (bI (false && !bk)) from e59]
        exact hK
      · exact absurd rfl hc219
    | true =>
      cases bk with
      | true =>
        refine wp_aload_n rfl (ck_get kk_Mo_goesAlong 113 rfl) ?_
        refine wp_aload_n rfl (ck_get kk_Mo_goesAlong 114 rfl) ?_
        refine wp_getIv (v := bI true) (ck_get kk_Mo_goesAlong 115 rfl) fl_Mo_533 (by assumption) (by rw [emM_f (by omega) (by omega)]; exact h59) ?_
        first | refine wp_if_eqN (t := 233) (ck_get kk_Mo_goesAlong 116 rfl) (by decide) (by omega) (fun hc219 => ?_) (fun hc219 => ?_) | refine wp_if_eq (t := 233) (ck_get kk_Mo_goesAlong 116 rfl) (by decide) (fun hc219 => ?_) (fun hc219 => ?_)
        · exact absurd hc219 (by decide)
        · refine wp_aload_n rfl (ck_get kk_Mo_goesAlong 117 rfl) ?_
          refine wp_getIv (v := bI true) (ck_get kk_Mo_goesAlong 118 rfl) fl_Mo_304 (by assumption) (emM_27) ?_
          first | refine wp_if_neN (t := 233) (ck_get kk_Mo_goesAlong 119 rfl) (by decide) (by omega) (fun hc226 => ?_) (fun hc226 => ?_) | refine wp_if_ne (t := 233) (ck_get kk_Mo_goesAlong 119 rfl) (by decide) (fun hc226 => ?_) (fun hc226 => ?_)
          · refine wp_iconst (v := nI 0) (by decide) (ck_get kk_Mo_goesAlong 122 rfl) ?_
            refine wp_putI (ck_get kk_Mo_goesAlong 123 rfl) fl_Mo_533 (by decide +kernel) (by assumption) (by first | exact okI_b0 | exact okI_b1) ?_
            rw [emM_s (by omega) (by omega)]
            refine wp_aload_n rfl (ck_get kk_Mo_goesAlong 124 rfl) ?_
            refine wp_dup rfl (ck_get kk_Mo_goesAlong 125 rfl) ?_
            refine wp_getIv (v := nI (bs + j)) (ck_get kk_Mo_goesAlong 126 rfl) fl_Mo_294 (by assumption) (emM_25) ?_
            refine wp_iconst (v := nI 1) (by decide) (ck_get kk_Mo_goesAlong 127 rfl) ?_
            first | refine wp_iaddN (ck_get kk_Mo_goesAlong 128 rfl) ?_ | refine wp_iadd (ck_get kk_Mo_goesAlong 128 rfl) ?_
            refine wp_putI (ck_get kk_Mo_goesAlong 129 rfl) fl_Mo_294 (by decide +kernel) (by assumption) (okI_int _) ?_
            rw [emM_go, Nat.add_assoc]
            refine wp_return (ck_get kk_Mo_goesAlong 130 rfl) rfl ⟨rfl, ?_⟩
            rw [show (sI M9 o 59 (nI 0)) = sI (sI M o 56 (nI (tmV tc tv j1))) o 59 (bI (true && !true)) from e59]
            exact hK
          · exact absurd hc226 (by decide)
      | false =>
        refine wp_aload_n rfl (ck_get kk_Mo_goesAlong 113 rfl) ?_
        refine wp_aload_n rfl (ck_get kk_Mo_goesAlong 114 rfl) ?_
        refine wp_getIv (v := bI true) (ck_get kk_Mo_goesAlong 115 rfl) fl_Mo_533 (by assumption) (by rw [emM_f (by omega) (by omega)]; exact h59) ?_
        first | refine wp_if_eqN (t := 233) (ck_get kk_Mo_goesAlong 116 rfl) (by decide) (by omega) (fun hc219 => ?_) (fun hc219 => ?_) | refine wp_if_eq (t := 233) (ck_get kk_Mo_goesAlong 116 rfl) (by decide) (fun hc219 => ?_) (fun hc219 => ?_)
        · exact absurd hc219 (by decide)
        · refine wp_aload_n rfl (ck_get kk_Mo_goesAlong 117 rfl) ?_
          refine wp_getIv (v := bI false) (ck_get kk_Mo_goesAlong 118 rfl) fl_Mo_304 (by assumption) (emM_27) ?_
          first | refine wp_if_neN (t := 233) (ck_get kk_Mo_goesAlong 119 rfl) (by decide) (by omega) (fun hc226 => ?_) (fun hc226 => ?_) | refine wp_if_ne (t := 233) (ck_get kk_Mo_goesAlong 119 rfl) (by decide) (fun hc226 => ?_) (fun hc226 => ?_)
          · exact absurd rfl hc226
          · refine wp_iconst (v := nI 1) (by decide) (ck_get kk_Mo_goesAlong 120 rfl) ?_
            refine wp_goto (t := 234) (ck_get kk_Mo_goesAlong 121 rfl) (by decide) ?_
            refine wp_putI (ck_get kk_Mo_goesAlong 123 rfl) fl_Mo_533 (by decide +kernel) (by assumption) (by first | exact okI_b0 | exact okI_b1) ?_
            rw [emM_s (by omega) (by omega)]
            refine wp_aload_n rfl (ck_get kk_Mo_goesAlong 124 rfl) ?_
            refine wp_dup rfl (ck_get kk_Mo_goesAlong 125 rfl) ?_
            refine wp_getIv (v := nI (bs + j)) (ck_get kk_Mo_goesAlong 126 rfl) fl_Mo_294 (by assumption) (emM_25) ?_
            refine wp_iconst (v := nI 1) (by decide) (ck_get kk_Mo_goesAlong 127 rfl) ?_
            first | refine wp_iaddN (ck_get kk_Mo_goesAlong 128 rfl) ?_ | refine wp_iadd (ck_get kk_Mo_goesAlong 128 rfl) ?_
            refine wp_putI (ck_get kk_Mo_goesAlong 129 rfl) fl_Mo_294 (by decide +kernel) (by assumption) (okI_int _) ?_
            rw [emM_go, Nat.add_assoc]
            refine wp_return (ck_get kk_Mo_goesAlong 130 rfl) rfl ⟨rfl, ?_⟩
            rw [show (sI M9 o 59 (nI 1)) = sI (sI M o 56 (nI (tmV tc tv j1))) o 59 (bI (true && !false)) from e59]
            exact hK
  -- the test
  have tst : ∀ b2 : Bool, Wp g Y_Mo_goesAlong 150 184 [some (.ref o), some (.int en), some (.int (bI live)), x3, x4] [] (emM (sI M o 56 (nI (tmV tc tv j1))) o (bs + j2) b2) (fun r M2 => r = none ∧ Q none M2) := by
    intro b2
    have hix := ev_ix hEt hj2
    have hcl2 := hcl
    rcases hCn with ⟨h3, he3, rfl, rfl⟩ | ⟨h3, he3, lf3, s1, hp, rfl⟩
    · have htk : ¬ tcd (mI (sI M o 56 (nI (tmV tc tv j1))) (o + 2)) ge (bs + j) = nI 3 := ev_ne hEt hj2 (by omega) h3
      have hps := m_passes (g := g) (i := bs + j) (b := false) (c := 3) hEt.1 hEt.2.1 hg2 hix
      rw [if_neg htk, decide_eq_false htk] at hps
      refine wp_aload_n rfl (ck_get kk_Mo_goesAlong 97 rfl) ?_
      refine wp_iconst (v := nI 0) (by decide) (ck_get kk_Mo_goesAlong 98 rfl) ?_
      refine wp_putI (ck_get kk_Mo_goesAlong 99 rfl) fl_Mo_304 (by decide +kernel) (by assumption) (by first | exact okI_b0 | exact okI_b1) ?_
      rw [emM_br0]
      refine wp_aload_n rfl (ck_get kk_Mo_goesAlong 100 rfl) ?_
      refine wp_aload_n rfl (ck_get kk_Mo_goesAlong 101 rfl) ?_
      refine wp_iconst (v := nI 3) (by decide) (ck_get kk_Mo_goesAlong 102 rfl) ?_
      refine wp_cV1i (ck_get kk_Mo_goesAlong 103 rfl) ml_Mo_318 (by omega) (Nat.le_of_ble_eq_true rfl) (by assumption) (Ci.to (hps) ?_)
      rintro _ M1 ⟨rfl, eqm1⟩
      obtain rfl := eqm1.symm
      first | refine wp_if_eqN (t := 206) (ck_get kk_Mo_goesAlong 104 rfl) (by decide) (by omega) (fun hc195 => ?_) (fun hc195 => ?_) | refine wp_if_eq (t := 206) (ck_get kk_Mo_goesAlong 104 rfl) (by decide) (fun hc195 => ?_) (fun hc195 => ?_)
      · refine wp_iconst (v := nI 1) (by decide) (ck_get kk_Mo_goesAlong 109 rfl) ?_
        refine wp_goto (t := 211) (ck_get kk_Mo_goesAlong 110 rfl) (by decide) ?_
        refine wp_putI (ck_get kk_Mo_goesAlong 112 rfl) fl_Mo_533 (by decide +kernel) (by assumption) (by first | exact okI_b0 | exact okI_b1) ?_
        rw [emM_s (by omega) (by omega)]
        exact fin2 false true true rfl (fun _ => ⟨fun _ => Or.inl he3, fun _ => rfl⟩) _ rfl
      · exact absurd rfl hc195
    · have hjN := hN j2 (by omega)
      have htk : tcd (mI (sI M o 56 (nI (tmV tc tv j1))) (o + 2)) ge (bs + j2) = nI 3 := ev_eq hEt hj2 h3
      have hps := m_passes (g := g) (i := bs + j2) (b := false) (c := 3) hEt.1 hEt.2.1 hg2 hix
      rw [if_pos htk, decide_eq_true htk, Nat.add_assoc] at hps
      rw [len_app2] at hcl2
      obtain ⟨v, bk, a1, a2, a3⟩ := (ev_all (g := g) (C := C) (cn := cn) hEt f).2.2.2.2.2.2.2.2.2 0 (j2 + 1) lf2 cl j lf3 s1 (by omega) hp hC.l (by omega) hcn2 (by omega) (by omega)
      have hev := ev_stop11 (v := bJ v) hC hcl a3
      have hclm : (e 3).toNatClampNeg = cl := by rw [he3]; exact nI_clamp (by omega)
      have hiff : ((v && !bk) = true) ↔ (e 3 = -1 ∨ ev0 C cn V 11 (e 3).toNatClampNeg = 1) := by
        rw [hclm, hev]
        constructor
        · intro q
          cases v <;> cases bk <;> first | exact absurd q (by decide) | exact Or.inr rfl
        · rintro (q | q)
          · rw [he3] at q; exact absurd q (nI_nem1 (by omega))
          · cases bk with
            | true => rw [if_pos rfl] at q; exact absurd q (by decide)
            | false =>
              rw [if_neg (by decide)] at q
              rw [bJ_1.mp q]; rfl
      cases live with
      | true =>
        cases v with
        | true =>
          refine wp_aload_n rfl (ck_get kk_Mo_goesAlong 97 rfl) ?_
          refine wp_iconst (v := nI 0) (by decide) (ck_get kk_Mo_goesAlong 98 rfl) ?_
          refine wp_putI (ck_get kk_Mo_goesAlong 99 rfl) fl_Mo_304 (by decide +kernel) (by assumption) (by first | exact okI_b0 | exact okI_b1) ?_
          rw [emM_br0]
          refine wp_aload_n rfl (ck_get kk_Mo_goesAlong 100 rfl) ?_
          refine wp_aload_n rfl (ck_get kk_Mo_goesAlong 101 rfl) ?_
          refine wp_iconst (v := nI 3) (by decide) (ck_get kk_Mo_goesAlong 102 rfl) ?_
          refine wp_cV1i (ck_get kk_Mo_goesAlong 103 rfl) ml_Mo_318 (by omega) (Nat.le_of_ble_eq_true rfl) (by assumption) (Ci.to (hps) ?_)
          rintro _ M1 ⟨rfl, eqm1⟩
          obtain rfl := eqm1.symm
          first | refine wp_if_eqN (t := 206) (ck_get kk_Mo_goesAlong 104 rfl) (by decide) (by omega) (fun hc195 => ?_) (fun hc195 => ?_) | refine wp_if_eq (t := 206) (ck_get kk_Mo_goesAlong 104 rfl) (by decide) (fun hc195 => ?_) (fun hc195 => ?_)
          · exact absurd hc195 (by decide)
          · refine wp_aload_n rfl (ck_get kk_Mo_goesAlong 105 rfl) ?_
            refine wp_iload_n rfl (ck_get kk_Mo_goesAlong 106 rfl) ?_
            refine wp_cV1i (ck_get kk_Mo_goesAlong 107 rfl) ml_Mo_345 (by omega) (Nat.le_of_ble_eq_true rfl) (by assumption) (Ci.to (a1) ?_)
            rintro _ M1 ⟨rfl, eqm1⟩
            obtain rfl := eqm1.symm
            first | refine wp_if_eqN (t := 210) (ck_get kk_Mo_goesAlong 108 rfl) (by decide) (by omega) (fun hc203 => ?_) (fun hc203 => ?_) | refine wp_if_eq (t := 210) (ck_get kk_Mo_goesAlong 108 rfl) (by decide) (fun hc203 => ?_) (fun hc203 => ?_)
            · exact absurd hc203 (by decide)
            · refine wp_iconst (v := nI 1) (by decide) (ck_get kk_Mo_goesAlong 109 rfl) ?_
              refine wp_goto (t := 211) (ck_get kk_Mo_goesAlong 110 rfl) (by decide) ?_
              refine wp_putI (ck_get kk_Mo_goesAlong 112 rfl) fl_Mo_533 (by decide +kernel) (by assumption) (by first | exact okI_b0 | exact okI_b1) ?_
              rw [emM_s (by omega) (by omega)]
              exact fin2 bk true _ rfl (fun _ => hiff) _ rfl
        | false =>
          refine wp_aload_n rfl (ck_get kk_Mo_goesAlong 97 rfl) ?_
          refine wp_iconst (v := nI 0) (by decide) (ck_get kk_Mo_goesAlong 98 rfl) ?_
          refine wp_putI (ck_get kk_Mo_goesAlong 99 rfl) fl_Mo_304 (by decide +kernel) (by assumption) (by first | exact okI_b0 | exact okI_b1) ?_
          rw [emM_br0]
          refine wp_aload_n rfl (ck_get kk_Mo_goesAlong 100 rfl) ?_
          refine wp_aload_n rfl (ck_get kk_Mo_goesAlong 101 rfl) ?_
          refine wp_iconst (v := nI 3) (by decide) (ck_get kk_Mo_goesAlong 102 rfl) ?_
          refine wp_cV1i (ck_get kk_Mo_goesAlong 103 rfl) ml_Mo_318 (by omega) (Nat.le_of_ble_eq_true rfl) (by assumption) (Ci.to (hps) ?_)
          rintro _ M1 ⟨rfl, eqm1⟩
          obtain rfl := eqm1.symm
          first | refine wp_if_eqN (t := 206) (ck_get kk_Mo_goesAlong 104 rfl) (by decide) (by omega) (fun hc195 => ?_) (fun hc195 => ?_) | refine wp_if_eq (t := 206) (ck_get kk_Mo_goesAlong 104 rfl) (by decide) (fun hc195 => ?_) (fun hc195 => ?_)
          · exact absurd hc195 (by decide)
          · refine wp_aload_n rfl (ck_get kk_Mo_goesAlong 105 rfl) ?_
            refine wp_iload_n rfl (ck_get kk_Mo_goesAlong 106 rfl) ?_
            refine wp_cV1i (ck_get kk_Mo_goesAlong 107 rfl) ml_Mo_345 (by omega) (Nat.le_of_ble_eq_true rfl) (by assumption) (Ci.to (a1) ?_)
            rintro _ M1 ⟨rfl, eqm1⟩
            obtain rfl := eqm1.symm
            first | refine wp_if_eqN (t := 210) (ck_get kk_Mo_goesAlong 108 rfl) (by decide) (by omega) (fun hc203 => ?_) (fun hc203 => ?_) | refine wp_if_eq (t := 210) (ck_get kk_Mo_goesAlong 108 rfl) (by decide) (fun hc203 => ?_) (fun hc203 => ?_)
            · refine wp_iconst (v := nI 0) (by decide) (ck_get kk_Mo_goesAlong 111 rfl) ?_
              refine wp_putI (ck_get kk_Mo_goesAlong 112 rfl) fl_Mo_533 (by decide +kernel) (by assumption) (by first | exact okI_b0 | exact okI_b1) ?_
              rw [emM_s (by omega) (by omega)]
              exact fin2 bk false _ rfl (fun _ => hiff) _ rfl
            · exact absurd rfl hc203
      | false =>
        obtain ⟨w, hw⟩ := a2 false false (Or.inl rfl)
        cases w with
        | true =>
          refine wp_aload_n rfl (ck_get kk_Mo_goesAlong 97 rfl) ?_
          refine wp_iconst (v := nI 0) (by decide) (ck_get kk_Mo_goesAlong 98 rfl) ?_
          refine wp_putI (ck_get kk_Mo_goesAlong 99 rfl) fl_Mo_304 (by decide +kernel) (by assumption) (by first | exact okI_b0 | exact okI_b1) ?_
          rw [emM_br0]
          refine wp_aload_n rfl (ck_get kk_Mo_goesAlong 100 rfl) ?_
          refine wp_aload_n rfl (ck_get kk_Mo_goesAlong 101 rfl) ?_
          refine wp_iconst (v := nI 3) (by decide) (ck_get kk_Mo_goesAlong 102 rfl) ?_
          refine wp_cV1i (ck_get kk_Mo_goesAlong 103 rfl) ml_Mo_318 (by omega) (Nat.le_of_ble_eq_true rfl) (by assumption) (Ci.to (hps) ?_)
          rintro _ M1 ⟨rfl, eqm1⟩
          obtain rfl := eqm1.symm
          first | refine wp_if_eqN (t := 206) (ck_get kk_Mo_goesAlong 104 rfl) (by decide) (by omega) (fun hc195 => ?_) (fun hc195 => ?_) | refine wp_if_eq (t := 206) (ck_get kk_Mo_goesAlong 104 rfl) (by decide) (fun hc195 => ?_) (fun hc195 => ?_)
          · exact absurd hc195 (by decide)
          · refine wp_aload_n rfl (ck_get kk_Mo_goesAlong 105 rfl) ?_
            refine wp_iload_n rfl (ck_get kk_Mo_goesAlong 106 rfl) ?_
            refine wp_cV1i (ck_get kk_Mo_goesAlong 107 rfl) ml_Mo_345 (by omega) (Nat.le_of_ble_eq_true rfl) (by assumption) (Ci.to (hw) ?_)
            rintro _ M1 ⟨rfl, eqm1⟩
            obtain rfl := eqm1.symm
            first | refine wp_if_eqN (t := 210) (ck_get kk_Mo_goesAlong 108 rfl) (by decide) (by omega) (fun hc203 => ?_) (fun hc203 => ?_) | refine wp_if_eq (t := 210) (ck_get kk_Mo_goesAlong 108 rfl) (by decide) (fun hc203 => ?_) (fun hc203 => ?_)
            · exact absurd hc203 (by decide)
            · refine wp_iconst (v := nI 1) (by decide) (ck_get kk_Mo_goesAlong 109 rfl) ?_
              refine wp_goto (t := 211) (ck_get kk_Mo_goesAlong 110 rfl) (by decide) ?_
              refine wp_putI (ck_get kk_Mo_goesAlong 112 rfl) fl_Mo_533 (by decide +kernel) (by assumption) (by first | exact okI_b0 | exact okI_b1) ?_
              rw [emM_s (by omega) (by omega)]
              exact fin2 false true _ rfl (fun q => absurd q (by decide)) _ rfl
        | false =>
          refine wp_aload_n rfl (ck_get kk_Mo_goesAlong 97 rfl) ?_
          refine wp_iconst (v := nI 0) (by decide) (ck_get kk_Mo_goesAlong 98 rfl) ?_
          refine wp_putI (ck_get kk_Mo_goesAlong 99 rfl) fl_Mo_304 (by decide +kernel) (by assumption) (by first | exact okI_b0 | exact okI_b1) ?_
          rw [emM_br0]
          refine wp_aload_n rfl (ck_get kk_Mo_goesAlong 100 rfl) ?_
          refine wp_aload_n rfl (ck_get kk_Mo_goesAlong 101 rfl) ?_
          refine wp_iconst (v := nI 3) (by decide) (ck_get kk_Mo_goesAlong 102 rfl) ?_
          refine wp_cV1i (ck_get kk_Mo_goesAlong 103 rfl) ml_Mo_318 (by omega) (Nat.le_of_ble_eq_true rfl) (by assumption) (Ci.to (hps) ?_)
          rintro _ M1 ⟨rfl, eqm1⟩
          obtain rfl := eqm1.symm
          first | refine wp_if_eqN (t := 206) (ck_get kk_Mo_goesAlong 104 rfl) (by decide) (by omega) (fun hc195 => ?_) (fun hc195 => ?_) | refine wp_if_eq (t := 206) (ck_get kk_Mo_goesAlong 104 rfl) (by decide) (fun hc195 => ?_) (fun hc195 => ?_)
          · exact absurd hc195 (by decide)
          · refine wp_aload_n rfl (ck_get kk_Mo_goesAlong 105 rfl) ?_
            refine wp_iload_n rfl (ck_get kk_Mo_goesAlong 106 rfl) ?_
            refine wp_cV1i (ck_get kk_Mo_goesAlong 107 rfl) ml_Mo_345 (by omega) (Nat.le_of_ble_eq_true rfl) (by assumption) (Ci.to (hw) ?_)
            rintro _ M1 ⟨rfl, eqm1⟩
            obtain rfl := eqm1.symm
            first | refine wp_if_eqN (t := 210) (ck_get kk_Mo_goesAlong 108 rfl) (by decide) (by omega) (fun hc203 => ?_) (fun hc203 => ?_) | refine wp_if_eq (t := 210) (ck_get kk_Mo_goesAlong 108 rfl) (by decide) (fun hc203 => ?_) (fun hc203 => ?_)
            · refine wp_iconst (v := nI 0) (by decide) (ck_get kk_Mo_goesAlong 111 rfl) ?_
              refine wp_putI (ck_get kk_Mo_goesAlong 112 rfl) fl_Mo_533 (by decide +kernel) (by assumption) (by first | exact okI_b0 | exact okI_b1) ?_
              rw [emM_s (by omega) (by omega)]
              exact fin2 false false _ rfl (fun q => absurd q (by decide)) _ rfl
            · exact absurd rfl hc203
  have hix1 := ev_ix hE0 hj1
  refine Wp.mono (Q := fun r M2 => r = none ∧ Q none M2) ?_ (fun r M2 q => by obtain ⟨rfl, q⟩ := q; exact q)
  have h56 : ∀ (v w : Int32), sI (sI M o 56 v) o 56 w = sI M o 56 w := fun v w => by
    refine congrArg (fun I => mk2 M I (mJ M)) ?_
    show up2 (up2 (mI M) o 56 v) o 56 w = up2 (mI M) o 56 w
    simp only [up2_up1, up1_up1, up1_eq]
  have hE1 : EvH (sI M o 56 (nI 1)) o ge bs N tc tv true V 11 := hE0.up rfl rfl (by show up2 (mI M) o 56 _ (o + 2) = _; rw [up2_up1, up1_ne (by omega)]) (fun k hk => hf56 _ k (by omega))
  rcases q3 with ⟨a1, a2, a3, a4, a5⟩ | ⟨a1, a5⟩
  · have hN1 := hN (j1 + 1) (by omega)
    obtain ⟨k1, v, k2, k3, k4⟩ := hK (j1 + 1) hN1
    have k5 := k4 a2
    have k6 : v = tv (j1 + 1) := by omega
    have htm : tmV tc tv j1 = tv (j1 + 1) := if_pos a1
    have htk : tcd (mI (sI M o 56 (nI 1)) (o + 2)) ge (bs + j1) = nI 23 := ev_eq hE1 hj1 a1
    have hps := m_passes (g := g) (i := bs + j1) (b := b) (c := 23) hE1.1 hE1.2.1 hg2 hix1
    rw [if_pos htk, decide_eq_true htk, Nat.add_assoc] at hps
    have hk2 : mI (sI M o 56 (nI 1)) (o + 2) = mI M (o + 2) := by show up2 (mI M) o 56 _ (o + 2) = _; rw [up2_up1, up1_ne (by omega)]
    rw [htm] at tst
    subst a5
    refine wp_aload_n rfl (ck_get kk_Mo_goesAlong 75 rfl) ?_
    refine wp_iconst (v := nI 1) (by decide) (ck_get kk_Mo_goesAlong 76 rfl) ?_
    refine wp_putI (ck_get kk_Mo_goesAlong 77 rfl) fl_Mo_530 (by decide +kernel) (by assumption) (okI_int _) ?_
    rw [emM_s (by omega) (by omega)]
    refine wp_aload_n rfl (ck_get kk_Mo_goesAlong 78 rfl) ?_
    refine wp_bipush (v := nI 23) (by decide) (ck_get kk_Mo_goesAlong 79 rfl) ?_
    refine wp_cV1i (ck_get kk_Mo_goesAlong 80 rfl) ml_Mo_318 (by omega) (Nat.le_of_ble_eq_true rfl) (by assumption) (Ci.to (hps) ?_)
    rintro _ M1 ⟨rfl, eqm1⟩
    obtain rfl := eqm1.symm
    first | refine wp_if_eqN (t := 184) (ck_get kk_Mo_goesAlong 81 rfl) (by decide) (by omega) (fun hc154 => ?_) (fun hc154 => ?_) | refine wp_if_eq (t := 184) (ck_get kk_Mo_goesAlong 81 rfl) (by decide) (fun hc154 => ?_) (fun hc154 => ?_)
    · exact absurd hc154 (by decide)
    · refine wp_aload_n rfl (ck_get kk_Mo_goesAlong 82 rfl) ?_
      refine wp_aload_n rfl (ck_get kk_Mo_goesAlong 83 rfl) ?_
      refine wp_getR (ck_get kk_Mo_goesAlong 84 rfl) fl_Mo_28 (by assumption) (by assumption) ?_
      refine wp_sipush (v := nI 3195) (by decide) (ck_get kk_Mo_goesAlong 85 rfl) ?_
      refine wp_aload_n rfl (ck_get kk_Mo_goesAlong 86 rfl) ?_
      refine wp_getIv (v := nI (bs + (j1 + 1))) (ck_get kk_Mo_goesAlong 87 rfl) fl_Mo_294 (by assumption) (emM_25) ?_
      first | refine wp_iaddN (ck_get kk_Mo_goesAlong 88 rfl) ?_ | refine wp_iadd (ck_get kk_Mo_goesAlong 88 rfl) ?_
      refine wp_ialdv (v := nI (tv (j1 + 1))) (ck_get kk_Mo_goesAlong 89 rfl) (by assumption) (ixk_nI (k := 3195 + (bs + (j1 + 1))) (by omega) (by omega)) (by rw [emM_a (by omega), hk2, k2, k6]) ?_
      refine wp_putI (ck_get kk_Mo_goesAlong 90 rfl) fl_Mo_530 (by decide +kernel) (by assumption) (okI_int _) ?_
      rw [emM_s (by omega) (by omega), h56]
      refine wp_aload_n rfl (ck_get kk_Mo_goesAlong 91 rfl) ?_
      refine wp_dup rfl (ck_get kk_Mo_goesAlong 92 rfl) ?_
      refine wp_getIv (v := nI (bs + (j1 + 1))) (ck_get kk_Mo_goesAlong 93 rfl) fl_Mo_294 (by assumption) (emM_25) ?_
      refine wp_iconst (v := nI 1) (by decide) (ck_get kk_Mo_goesAlong 94 rfl) ?_
      first | refine wp_iaddN (ck_get kk_Mo_goesAlong 95 rfl) ?_ | refine wp_iadd (ck_get kk_Mo_goesAlong 95 rfl) ?_
      refine wp_putI (ck_get kk_Mo_goesAlong 96 rfl) fl_Mo_294 (by decide +kernel) (by assumption) (okI_int _) ?_
      rw [emM_go, Nat.add_assoc, Nat.add_assoc]
      exact tst b
  · have htm : tmV tc tv j1 = 1 := if_neg a1
    have htk : ¬ tcd (mI (sI M o 56 (nI 1)) (o + 2)) ge (bs + j1) = nI 23 := ev_ne hE1 hj1 (by omega) a1
    have hps := m_passes (g := g) (i := bs + j1) (b := b) (c := 23) hE1.1 hE1.2.1 hg2 hix1
    rw [if_neg htk, decide_eq_false htk] at hps
    rw [htm] at tst
    subst a5
    refine wp_aload_n rfl (ck_get kk_Mo_goesAlong 75 rfl) ?_
    refine wp_iconst (v := nI 1) (by decide) (ck_get kk_Mo_goesAlong 76 rfl) ?_
    refine wp_putI (ck_get kk_Mo_goesAlong 77 rfl) fl_Mo_530 (by decide +kernel) (by assumption) (okI_int _) ?_
    rw [emM_s (by omega) (by omega)]
    refine wp_aload_n rfl (ck_get kk_Mo_goesAlong 78 rfl) ?_
    refine wp_bipush (v := nI 23) (by decide) (ck_get kk_Mo_goesAlong 79 rfl) ?_
    refine wp_cV1i (ck_get kk_Mo_goesAlong 80 rfl) ml_Mo_318 (by omega) (Nat.le_of_ble_eq_true rfl) (by assumption) (Ci.to (hps) ?_)
    rintro _ M1 ⟨rfl, eqm1⟩
    obtain rfl := eqm1.symm
    first | refine wp_if_eqN (t := 184) (ck_get kk_Mo_goesAlong 81 rfl) (by decide) (by omega) (fun hc154 => ?_) (fun hc154 => ?_) | refine wp_if_eq (t := 184) (ck_get kk_Mo_goesAlong 81 rfl) (by decide) (fun hc154 => ?_) (fun hc154 => ?_)
    · exact tst b
    · exact absurd rfl hc154
end GAL

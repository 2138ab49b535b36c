/-! ===== replay, odd ===== -/
section MPO
variable {g : Gl} {M : Mem} {ks : Nat → Int32} {n : Nat}
theorem m_wasRead {i : Nat} {G : Nat → Nat → Int32} {H : Nat → Int64} (hM : MoAt (mT M) (mR M) 1020) (hA : MnA ks n i G) (hi : i < n) (hn : n ≤ 32) : Cv g Y_Mo_wasRead 0 [.ref 1020, .int (nI i)] (rmM M G H) (fun M2 => ∃ G2, M2 = rmM M G2 H ∧ MnA ks n (i + 1) G2 ∧ G2 4 = G 4 ∧ G2 5 = G 5) := by
  have to0 := hM.1
  have rffirst := MoAt.r hM 26 rfl
  have tffirst := MoAt.t hM 26 rfl
  have rflastRead := MoAt.r hM 27 rfl
  have tflastRead := MoAt.t hM 27 rfl
  have rfoftenRead := MoAt.r hM 28 rfl
  have tfoftenRead := MoAt.t hM 28 rfl
  have hfi := fp_le (ks := ks) i
  have hol := og_le (ks := ks) (fp ks i) i
  have v0 : mI (rmM M G H) 1047 i = nI (fp ks i) := by rw [rm_r0]; exact hA.1 i hi
  have v1 : mI (rmM M (up2 G 1 (fp ks i) (nI i)) H) 1047 i = nI (fp ks i) := by rw [rm_r0, u2n (by omega)]; exact hA.1 i hi
  have v2 : mI (rmM M (up2 G 1 (fp ks i) (nI i)) H) 1049 (fp ks i) = nI (og ks i (fp ks i)) := by rw [rm_r2, u2n (by omega)]; exact hA.2.1 _ (by omega)
  refine cw_entry 0 pf_Mo_wasRead rfl ?_
  refine wp_aload_n rfl (ck_get kk_Mo_wasRead 0 rfl) ?_
  refine wp_getR (ck_get kk_Mo_wasRead 1 rfl) fl_Mo_112 (by assumption) (by assumption) ?_
  refine wp_aload_n rfl (ck_get kk_Mo_wasRead 2 rfl) ?_
  refine wp_getR (ck_get kk_Mo_wasRead 3 rfl) fl_Mo_109 (by assumption) (by assumption) ?_
  refine wp_iload_n rfl (ck_get kk_Mo_wasRead 4 rfl) ?_
  refine wp_ialdv (v := nI (fp ks i)) (ck_get kk_Mo_wasRead 5 rfl) (by assumption) (ixk_nI (k := i) (by omega) (by omega)) (v0) ?_
  refine wp_iload_n rfl (ck_get kk_Mo_wasRead 6 rfl) ?_
  refine wp_iast (ck_get kk_Mo_wasRead 7 rfl) (by assumption) (ixk_nI (k := fp ks i) (by omega) (by omega)) ?_
  rw [rm_s1]
  refine wp_aload_n rfl (ck_get kk_Mo_wasRead 8 rfl) ?_
  refine wp_getR (ck_get kk_Mo_wasRead 9 rfl) fl_Mo_115 (by assumption) (by assumption) ?_
  refine wp_aload_n rfl (ck_get kk_Mo_wasRead 10 rfl) ?_
  refine wp_getR (ck_get kk_Mo_wasRead 11 rfl) fl_Mo_109 (by assumption) (by assumption) ?_
  refine wp_iload_n rfl (ck_get kk_Mo_wasRead 12 rfl) ?_
  refine wp_ialdv (v := nI (fp ks i)) (ck_get kk_Mo_wasRead 13 rfl) (by assumption) (ixk_nI (k := i) (by omega) (by omega)) (v1) ?_
  first | refine wp_dup2l rfl (ck_get kk_Mo_wasRead 14 rfl) ?_ | refine wp_dup2 rfl rfl (ck_get kk_Mo_wasRead 14 rfl) ?_
  refine wp_ialdv (v := nI (og ks i (fp ks i))) (ck_get kk_Mo_wasRead 15 rfl) (by assumption) (ixk_nI (k := fp ks i) (by omega) (by omega)) (v2) ?_
  refine wp_iconst (v := nI 1) (by decide) (ck_get kk_Mo_wasRead 16 rfl) ?_
  first | refine wp_iaddN (ck_get kk_Mo_wasRead 17 rfl) ?_ | refine wp_iadd (ck_get kk_Mo_wasRead 17 rfl) ?_
  refine wp_iast (ck_get kk_Mo_wasRead 18 rfl) (by assumption) (ixk_nI (k := fp ks i) (by omega) (by omega)) ?_
  rw [rm_s2]
  refine wp_return (ck_get kk_Mo_wasRead 19 rfl) rfl ⟨rfl, ?_⟩
  refine ⟨_, rfl, ⟨fun j hj => ?_, fun k hk => ?_, fun k hk q => ?_⟩, by rw [u2n (by omega), u2n (by omega)], by rw [u2n (by omega), u2n (by omega)]⟩
  · rw [u2n (by omega), u2n (by omega)]; exact hA.1 j hj
  · by_cases e : k = fp ks i
    · subst e; rw [u2e, og_1]
    · rw [u2k e, u2n (by omega), og_2 (Ne.symm e)]; exact hA.2.1 k hk
  · rw [u2n (by omega)]
    by_cases e : k = fp ks i
    · subst e; rw [u2e, la_1]
    · rw [og_2 (Ne.symm e)] at q
      rw [u2k e, la_2 (Ne.symm e)]; exact hA.2.2 k hk q
theorem McA.k {c c2 : Nat} {x : PS} {G G2 : Nat → Nat → Int32} {H H2 : Nat → Int64} (h : McA c2 x G H) (hne : c2 ≠ c) (hx : ∀ k, x.1 k = true → k < 32) (h1 : Mc1 c G G2 H H2) : McA c2 x G2 H2 := by
  obtain ⟨a1, a2, a3⟩ := h
  refine ⟨by rw [(h1.2.1 c2 hne).1]; exact a1, fun k hk => ?_, by rw [(h1.2.1 c2 hne).2]; exact a3⟩
  have := hx k hk
  rw [h1.2.2 _ (by omega)]; exact a2 k hk
/-- all sizes at read i: those below cc have read it -/
def McL (pol : Nat) (ks : Nat → Int32) (n i cc : Nat) (G : Nat → Nat → Int32) (H : Nat → Int64) : Prop := ∀ c, c < 25 → McA c (simP pol ks n c (if c < cc then i + 1 else i)) G H
theorem l_sizes {t pol i : Nat} (hM : MoAt (mT M) (mR M) 1020) (ht : t < 4) (hR : RcM M t ks n pol) (hi : i < n) (hn : n ≤ 32) (hp : pol < 5) {c : Nat} {G : Nat → Nat → Int32} {H : Nat → Int64} (hA : MnA ks n i G) (hL : McL pol ks n i c G H) (hc : c < 25) : Cv g Y_Mo_readsAgain 4 [.ref 1020, .int (nI t), .int (nI i), .int (nI c)] (rmM M G H) (fun M2 => ∃ G2 H2, M2 = rmM M G2 H2 ∧ MnA ks n i G2 ∧ McL pol ks n i (c + 1) G2 H2) := by
  have h0 := hL c hc
  rw [if_neg (Nat.lt_irrefl c)] at h0
  refine Cw.mono (m_readsAgain hM ht hR hA h0 (simP_ok i (by omega)) hi hn hp hc) ?_
  rintro r M2 ⟨e, G2, H2, e2, h1, h2⟩
  refine ⟨e, G2, H2, e2, ⟨by rw [h2.1 0 (by omega)]; exact hA.1, by rw [h2.1 2 (by omega)]; exact hA.2.1, by rw [h2.1 1 (by omega)]; exact hA.2.2⟩, fun q hq => ?_⟩
  by_cases e : q = c
  · subst e; rw [if_pos (Nat.lt_succ_self _)]; exact h1
  · have h3 := hL q hq
    have e3 : (if q < c + 1 then i + 1 else i) = if q < c then i + 1 else i := by
      by_cases w : q < c
      · rw [if_pos w, if_pos (by omega)]
      · rw [if_neg w, if_neg (by omega)]
    rw [e3]
    refine h3.k e (fun k hk => ?_) h2
    have := ((simP_ok (pol := pol) (n := n) (ks := ks) (c := q) (if q < c then i + 1 else i) (by split <;> omega)).1 k hk).2
    have : (if q < c then i + 1 else i) ≤ 32 := by split <;> omega
    omega
theorem McL.nx {pol i : Nat} {G : Nat → Nat → Int32} {H : Nat → Int64} (h : McL pol ks n i 25 G H) : McL pol ks n (i + 1) 0 G H := fun c hc => by
  have := h c hc
  rw [if_pos hc] at this
  rw [if_neg (Nat.not_lt_zero _)]
  exact this
theorem McL.gg {pol i cc : Nat} {G G2 : Nat → Nat → Int32} {H : Nat → Int64} (h : McL pol ks n i cc G H) (e4 : G2 4 = G 4) (e5 : G2 5 = G 5) : McL pol ks n i cc G2 H := fun c hc => by
  obtain ⟨a1, a2, a3⟩ := h c hc
  exact ⟨a1, by rw [e4]; exact a2, by rw [e5]; exact a3⟩
theorem bg_n {t pol : Nat} {G : Nat → Nat → Int32} {H : Nat → Int64} (hR : RcM M t ks n pol) (hn : n ≤ 32) (h1 : BgA (xR M t) 32 G) (h2 : BgB 25 G H) : MnA ks n 0 G ∧ McL pol ks n 0 0 G H := by
  refine ⟨⟨fun j hj => ?_, fun k hk => (h1 k (by omega)).2.2, fun k hk q => absurd q (Nat.lt_irrefl _)⟩, fun c hc => ⟨⟨fun k _ => ?_, fun k _ => ?_⟩, fun k hk => ?_, ?_⟩⟩
  · rw [(h1 j (by omega)).1, fp_c (ks := ks) (fun q hq => hR.2.1 q (by omega))]
  · rw [(h2 c hc).1]; exact btJ_0 k
  · rw [(h2 c hc).1]; exact btJ_0 k
  · rw [if_neg (Nat.not_lt_zero _)] at hk
    exact absurd hk Bool.false_ne_true
  · rw [if_neg (Nat.not_lt_zero _)]; exact (h2 c hc).2
theorem m_readsAll {t pol : Nat} {G : Nat → Nat → Int32} {H : Nat → Int64} (hM : MoAt (mT M) (mR M) 1020) (ht : t < 4) (hR : RcM M t ks n pol) (hn : n ≤ 32) (hp : pol < 5) : Cv g Y_Mo_readsAllAgain 5 [.ref 1020, .int (nI t)] (rmM M G H) (fun M2 => ∃ G H, M2 = rmM M G H ∧ ∀ c, c < 25 → G 5 c = nI (simP pol ks n c n).2.2) := by
  have to0 := hM.1
  have rfkept := MoAt.r hM 1 rfl
  have tfkept := MoAt.t hM 1 rfl
  have vn : ∀ G H, mI (rmM M G H) 1022 (92 * t + 59) = nI n := fun G H => by rw [rm_ot (by omega)]; exact hR.1
  have hlp : ∀ d i G H (x3 : Option Value), i + d = n → MnA ks n i G → McL pol ks n i 0 G H → Wp g Y_Mo_readsAllAgain 5 7 [some (.ref 1020), some (.int (nI t)), some (.int (nI i)), x3] [] (rmM M G H) (fun r M2 => r = none ∧ ∃ G H, M2 = rmM M G H ∧ ∀ c, c < 25 → G 5 c = nI (simP pol ks n c n).2.2) := by
    intro d
    induction d with
    | zero =>
      intro i G H x3 hi hA hL
      obtain rfl : i = n := by omega
      refine wp_iload_n rfl (ck_get kk_Mo_readsAllAgain 5 rfl) ?_
      refine wp_aload_n rfl (ck_get kk_Mo_readsAllAgain 6 rfl) ?_
      refine wp_getR (ck_get kk_Mo_readsAllAgain 7 rfl) fl_Mo_28 (by assumption) (by assumption) ?_
      refine wp_iload_n rfl (ck_get kk_Mo_readsAllAgain 8 rfl) ?_
      refine wp_bipush (v := nI 59) (by decide) (ck_get kk_Mo_readsAllAgain 9 rfl) ?_
      refine wp_cS2i (ck_get kk_Mo_readsAllAgain 10 rfl) ml_Mo_142 (by omega) (Nat.le_of_ble_eq_true rfl) (Ci.to (m_at (t := t) (k := 59)) ?_)
      rintro _ M1 ⟨rfl, eqm1⟩
      obtain rfl := eqm1.symm
      refine wp_ialdv (v := nI i) (ck_get kk_Mo_readsAllAgain 11 rfl) (by assumption) (ixk_nI (k := 92 * t + 59) (by omega) (by omega)) (vn _ _) ?_
      first | refine wp_icmp_geN (t := 54) (ck_get kk_Mo_readsAllAgain 12 rfl) (by decide) (by omega) (by omega) (fun hc19 => ?_) (fun hc19 => ?_) | refine wp_icmp_ge (t := 54) (ck_get kk_Mo_readsAllAgain 12 rfl) (by decide) (fun hc19 => ?_) (fun hc19 => ?_)
      · refine wp_return (ck_get kk_Mo_readsAllAgain 30 rfl) rfl ⟨rfl, ?_⟩
        refine ⟨G, H, rfl, fun c hc => ?_⟩
        have := (hL c hc).2.2
        rw [if_neg (Nat.not_lt_zero _)] at this
        exact this
      · omega
    | succ d ih =>
      intro i G H x3 hi hA hL
      have hin : ∀ e c G H, c + e = 25 → MnA ks n i G → McL pol ks n i c G H → Wp g Y_Mo_readsAllAgain 5 24 [some (.ref 1020), some (.int (nI t)), some (.int (nI i)), some (.int (nI c))] [] (rmM M G H) (fun r M2 => r = none ∧ ∃ G H, M2 = rmM M G H ∧ ∀ c, c < 25 → G 5 c = nI (simP pol ks n c n).2.2) := by
        intro e
        induction e with
        | zero =>
          intro c G H hc hA hL
          obtain rfl : c = 25 := by omega
          refine wp_iload_n rfl (ck_get kk_Mo_readsAllAgain 15 rfl) ?_
          refine wp_bipush (v := nI 25) (by decide) (ck_get kk_Mo_readsAllAgain 16 rfl) ?_
          first | refine wp_icmp_geN (t := 43) (ck_get kk_Mo_readsAllAgain 17 rfl) (by decide) (by omega) (by omega) (fun hc27 => ?_) (fun hc27 => ?_) | refine wp_icmp_ge (t := 43) (ck_get kk_Mo_readsAllAgain 17 rfl) (by decide) (fun hc27 => ?_) (fun hc27 => ?_)
          · refine wp_aload_n rfl (ck_get kk_Mo_readsAllAgain 25 rfl) ?_
            refine wp_iload_n rfl (ck_get kk_Mo_readsAllAgain 26 rfl) ?_
            refine wp_cV1v (ck_get kk_Mo_readsAllAgain 27 rfl) ml_Mo_488 (by omega) (Nat.le_of_ble_eq_true rfl) (by assumption) (Cv.to (m_wasRead (by exact hM) hA (by omega) hn) ?_)
            rintro M1 ⟨G2, w1, w2, w3, w4⟩
            subst w1
            first | refine wp_iincN (ck_get kk_Mo_readsAllAgain 28 rfl) rfl (by decide) rfl ?_ | refine wp_iinc (ck_get kk_Mo_readsAllAgain 28 rfl) rfl (by decide) rfl ?_
            refine wp_goto (t := 7) (ck_get kk_Mo_readsAllAgain 29 rfl) (by decide) ?_
            exact ih (i + 1) G2 H _ (by omega) w2 (hL.nx.gg w3 w4)
          · omega
        | succ e ih2 =>
          intro c G H hc hA hL
          refine wp_iload_n rfl (ck_get kk_Mo_readsAllAgain 15 rfl) ?_
          refine wp_bipush (v := nI 25) (by decide) (ck_get kk_Mo_readsAllAgain 16 rfl) ?_
          first | refine wp_icmp_geN (t := 43) (ck_get kk_Mo_readsAllAgain 17 rfl) (by decide) (by omega) (by omega) (fun hc27 => ?_) (fun hc27 => ?_) | refine wp_icmp_ge (t := 43) (ck_get kk_Mo_readsAllAgain 17 rfl) (by decide) (fun hc27 => ?_) (fun hc27 => ?_)
          · omega
          · refine wp_aload_n rfl (ck_get kk_Mo_readsAllAgain 18 rfl) ?_
            refine wp_iload_n rfl (ck_get kk_Mo_readsAllAgain 19 rfl) ?_
            refine wp_iload_n rfl (ck_get kk_Mo_readsAllAgain 20 rfl) ?_
            refine wp_iload_n rfl (ck_get kk_Mo_readsAllAgain 21 rfl) ?_
            refine wp_cV3v (ck_get kk_Mo_readsAllAgain 22 rfl) ml_Mo_485 (by omega) (Nat.le_of_ble_eq_true rfl) (by assumption) (Cv.to (l_sizes (by exact hM) ht hR (by omega) hn hp hA hL (by omega)) ?_)
            rintro M1 ⟨G2, H2, w1, w2, w3⟩
            subst w1
            first | refine wp_iincN (ck_get kk_Mo_readsAllAgain 23 rfl) rfl (by decide) rfl ?_ | refine wp_iinc (ck_get kk_Mo_readsAllAgain 23 rfl) rfl (by decide) rfl ?_
            refine wp_goto (t := 24) (ck_get kk_Mo_readsAllAgain 24 rfl) (by decide) ?_
            exact ih2 (c + 1) G2 H2 (by omega) w2 w3
      refine wp_iload_n rfl (ck_get kk_Mo_readsAllAgain 5 rfl) ?_
      refine wp_aload_n rfl (ck_get kk_Mo_readsAllAgain 6 rfl) ?_
      refine wp_getR (ck_get kk_Mo_readsAllAgain 7 rfl) fl_Mo_28 (by assumption) (by assumption) ?_
      refine wp_iload_n rfl (ck_get kk_Mo_readsAllAgain 8 rfl) ?_
      refine wp_bipush (v := nI 59) (by decide) (ck_get kk_Mo_readsAllAgain 9 rfl) ?_
      refine wp_cS2i (ck_get kk_Mo_readsAllAgain 10 rfl) ml_Mo_142 (by omega) (Nat.le_of_ble_eq_true rfl) (Ci.to (m_at (t := t) (k := 59)) ?_)
      rintro _ M1 ⟨rfl, eqm1⟩
      obtain rfl := eqm1.symm
      refine wp_ialdv (v := nI n) (ck_get kk_Mo_readsAllAgain 11 rfl) (by assumption) (ixk_nI (k := 92 * t + 59) (by omega) (by omega)) (vn _ _) ?_
      first | refine wp_icmp_geN (t := 54) (ck_get kk_Mo_readsAllAgain 12 rfl) (by decide) (by omega) (by omega) (fun hc19 => ?_) (fun hc19 => ?_) | refine wp_icmp_ge (t := 54) (ck_get kk_Mo_readsAllAgain 12 rfl) (by decide) (fun hc19 => ?_) (fun hc19 => ?_)
      · omega
      · refine wp_iconst (v := nI 0) (by decide) (ck_get kk_Mo_readsAllAgain 13 rfl) ?_
        refine wp_istore_n (ck_get kk_Mo_readsAllAgain 14 rfl) (by decide) rfl ?_
        exact hin 25 0 G H (by omega) hA hL
  refine cw_entry 2 pf_Mo_readsAllAgain rfl ?_
  refine wp_aload_n rfl (ck_get kk_Mo_readsAllAgain 0 rfl) ?_
  refine wp_iload_n rfl (ck_get kk_Mo_readsAllAgain 1 rfl) ?_
  refine wp_cV1v (ck_get kk_Mo_readsAllAgain 2 rfl) ml_Mo_482 (by omega) (Nat.le_of_ble_eq_true rfl) (by assumption) (Cv.to (m_begins (by exact hM) ht) ?_)
  rintro M1 ⟨G2, H2, w1, w2, w3⟩
  subst w1
  obtain ⟨w4, w5⟩ := bg_n hR hn w2 w3
  refine wp_iconst (v := nI 0) (by decide) (ck_get kk_Mo_readsAllAgain 3 rfl) ?_
  refine wp_istore_n (ck_get kk_Mo_readsAllAgain 4 rfl) (by decide) rfl ?_
  exact hlp n 0 G2 H2 none (by omega) w4 w5
/-- a tenant's record, as numbers -/
def kR (s : TS) (i : Nat) : Int32 := nI ((tRe s).getD i 0)
theorem RcM.of {z : ST} {t : Nat} (h : MR z M) (ht : t < 4) : RcM M t (kR ((sWo (zS z)).2 t)) (tRe ((sWo (zS z)).2 t)).length (sPo (zS z)) := by
  obtain ⟨hM, hSM, -⟩ := h
  have h1 := hSM.1.2 t ht
  have h2 : RowC (mI M 1022) (0 + 92 * t + 59) (tRe ((sWo (zS z)).2 t)) := h1.2.2.2.2.2
  rw [Nat.zero_add] at h2
  exact ⟨h2.1, fun i hi => h2.2 i hi, hSM.2.1⟩
def sF (z : ST) (t c : Nat) : Nat := (simP (sPo (zS z)) (kR ((sWo (zS z)).2 t)) (tRe ((sWo (zS z)).2 t)).length c (tRe ((sWo (zS z)).2 t)).length).2.2
end MPO

/-! ===== the model's tests are the code's ===== -/
section EVB
variable {g : Gl} {M : Mem} {o ge bs N : Nat} {tc tv : Nat → Nat} {od : Bool} {C : Nat → Int32} {cn : Nat} {V : Nat → Int32} {vn f : Nat}
theorem bJ_not {v : Bool} : 1 - bJ v = bJ (v != true) := by cases v <;> decide
theorem bJ_ff {v : Bool} : (v != false) = v := by cases v <;> rfl
theorem bJ_1 {v : Bool} : bJ v = 1 ↔ v = true := by cases v <;> decide
theorem bJ_0 {v : Bool} : bJ v = 0 ↔ v = false := by cases v <;> decide
theorem cmb_cmp {c : Nat} {a b : Int64} (hc : c = 160 ∨ c = 162 ∨ c = 161) : cmb (c - 100) a b = bJ (cmpS (nI c) a b) := by
  rcases hc with rfl | rfl | rfl
  · rw [show cmb (160 - 100) a b = if a < b then 1 else 0 by unfold cmb; simp, show cmpS (nI 160) a b = decide (a < b) by unfold cmpS; rw [if_pos rfl]]
    by_cases h : a < b
    · rw [if_pos h, decide_eq_true h]; rfl
    · rw [if_neg h, decide_eq_false h]; rfl
  · rw [show cmb (162 - 100) a b = if b < a then 1 else 0 by unfold cmb; simp, show cmpS (nI 162) a b = decide (b < a) by unfold cmpS; rw [if_neg (by decide), if_pos rfl]]
    by_cases h : b < a
    · rw [if_pos h, decide_eq_true h]; rfl
    · rw [if_neg h, decide_eq_false h]; rfl
  · rw [show cmb (161 - 100) a b = if a = b then 1 else 0 by unfold cmb; simp, show cmpS (nI 161) a b = decide (a = b) by unfold cmpS; rw [if_neg (by decide), if_neg (by decide)]]
    by_cases h : a = b
    · rw [if_pos h, decide_eq_true h]; rfl
    · rw [if_neg h, decide_eq_false h]; rfl
theorem bJ_brk {v : Bool} : ¬ bJ v = brk := by cases v <;> decide
theorem eb_core (hE : EvH M o ge bs N tc tv od V vn) (h1 : ES g M o bs N tc tv od C cn V vn Y_Mo_sumOf 4 4 3 f) (h2 : ET g M o bs N tc tv od C cn V vn Y_Mo_testOf 10 8 f) {d i lf cl j lf2 : Nat} {sg : List Int32} (hd : d ≤ 8) (h : psc tc tv od f d i lf cl = (true, j, lf2, sg)) (hC : Hd C cl sg) (hcn : cl + sg.length ≤ cn) (hcn2 : cn ≤ 1024) (hi : i ≤ N) (hl : lf ≤ 50) : EB g M o bs N tc tv od C cn V vn Y_Mo_positiveOf 5 4 d i cl j sg := by
  have hE0 := hE
  obtain ⟨hM, hge, hg1, hg2, hK, hN, hT4, hlaw, hord⟩ := hE
  have hix := ev_ix hE0 hi
  unfold psc at h
  by_cases h0 : tc i = 140
  · rw [if_pos h0] at h
    have hiN := hN i (by omega)
    by_cases h8 : 8 ≤ d
    · rw [if_pos h8] at h; exact (fls_tru h).elim
    rw [if_neg h8] at h
    obtain ⟨j1, l1, s1, e1, h3⟩ := pbd_t h
    by_cases hj : tc j1 = 141
    · rw [if_pos hj] at h3
      obtain ⟨rfl, rfl, rfl⟩ := tru_inj h3
      obtain ⟨v, bk, a1, a2, a3⟩ := h2 (d + 1) (i + 1) lf cl j1 l1 s1 (by omega) e1 hC hcn hcn2 (by omega) hl
      refine ⟨v, bk, ?_, fun live b hb => ?_, fun sz S hs => a3 sz S (by omega)⟩
      · exact me_posBr (n := 10 * (9 - d) + 4) hM hge hg2 hix (ev_eq hE0 hi h0) (by omega) (Cw.le (by omega) a1)
      · obtain ⟨w, q⟩ := a2 live b hb
        exact ⟨w, me_posBr (n := 10 * (9 - d) + 4) hM hge hg2 hix (ev_eq hE0 hi h0) (by omega) (Cw.le (by omega) q)⟩
    · rw [if_neg hj] at h3; exact (fls_tru h3).elim
  · rw [if_neg h0] at h
    obtain ⟨j1, l1, s1, e1, h3⟩ := pbd_t h
    by_cases hj : tc j1 = 160 ∨ tc j1 = 162 ∨ tc j1 = 161
    · rw [if_pos hj] at h3
      obtain ⟨j2, l2, s2, e2, h4⟩ := pbd_t h3
      obtain ⟨rfl, rfl, rfl⟩ := tru_inj h4
      have hjN := hN j1 (by omega)
      obtain ⟨g1, g2, g3, g4, g5⟩ := psr_ok (N := N) hN f 4 d i lf cl j1 l1 s1 (by omega) e1 hi hl
      have hln : ((s1 ++ s2) ++ [nI (tc j1 - 100), nI 0]).length = s1.length + s2.length + 2 := by rw [len_app2, List.length_append]
      rw [hln] at hcn
      have hC1 := hC.l.l
      have hC2 := hC.l.r
      obtain ⟨c1, c2⟩ := hC.r.two
      rw [List.length_append, ← Nat.add_assoc] at c1
      have hix1 := ev_ix hE0 g2
      obtain ⟨v1, bk1, -, a1, a2, a3⟩ := h1 d i lf cl j1 l1 s1 hd e1 hC1 (by omega) hi hl
      obtain ⟨v2, bk2, -, b1, b2, b3⟩ := h1 d (j1 + 1) l1 (cl + s1.length) j2 l2 s2 hd e2 hC2 (by omega) (by omega) g3
      have htk := ev_tcd hE0 g2
      have dead : ∀ live b : Bool, live = false ∨ b = true → ∃ w, Ci g Y_Mo_positiveOf (10 * (9 - d) + 5) [.ref o, .int (bI live)] (emM M o (bs + i) b) (fun x M2 => x = bI w ∧ M2 = emM M o (bs + j2) b) := fun live b hb => ⟨_, me_posCmp (n := 10 * (9 - d) + 4) hM hge hg2 hix hix1 (ev_ne hE0 hi (by omega) h0) (by omega) (a2 live b hb) (b2 live b hb)⟩
      cases bk1 with
      | true =>
        refine ⟨_, true, me_posCmp (n := 10 * (9 - d) + 4) hM hge hg2 hix hix1 (ev_ne hE0 hi (by omega) h0) (by omega) a1 (b2 true true (Or.inr rfl)), dead, fun sz S hs => ?_⟩
        rw [a3 sz S (by omega)]; rfl
      | false =>
        refine ⟨_, bk2, me_posCmp (n := 10 * (9 - d) + 4) hM hge hg2 hix hix1 (ev_ne hE0 hi (by omega) h0) (by omega) a1 b1, dead, fun sz S hs => ?_⟩
        rw [a3 sz S (by omega), if_neg (by decide), b3 (sz + 1) _ (by omega)]
        cases bk2 with
        | true => rfl
        | false =>
          rw [if_neg (by decide), if_neg (by decide), evN_op (c := tc j1 - 100) (by omega) c1 (by omega) (by omega), up1_ne (by omega), up1_eq, up1_eq, cmb_cmp hj, if_neg bJ_brk, hln, htk]
          rw [show cl + s1.length + s2.length + 2 = cl + (s1.length + s2.length + 2) by omega]
          refine evN_indep _ _ _ _ (fun k hk => ?_)
          by_cases hks : k = sz
          · subst hks; rw [up1_eq, up1_eq]; rfl
          · rw [up1_ne hks, up1_ne hks, up1_ne (by omega), up1_ne hks]
    · rw [if_neg hj] at h3; exact (fls_tru h3).elim
theorem ep_plain (hE : EvH M o ge bs N tc tv od V vn) (h1 : ES g M o bs N tc tv od C cn V vn Y_Mo_sumOf 4 4 3 f) (h2 : ET g M o bs N tc tv od C cn V vn Y_Mo_testOf 10 8 f) (h3 : EP g M o bs N tc tv od C cn V vn f) : EP g M o bs N tc tv od C cn V vn (f + 1) := by
  intro d i lf cl j lf2 sg no hd h hC hcn hcn2 hi hl
  have hE0 := hE
  obtain ⟨hM, hge, hg1, hg2, hK, hN, hT4, hlaw, hord⟩ := hE
  have hix := ev_ix hE0 hi
  have e56 : psr tc tv od (f + 1) (if no = true then 6 else 5) d i lf cl = if tc i = 6 then psr tc tv od f (if (!no) = true then 6 else 5) d (i + 1) lf cl else pbd (psc tc tv od f d i lf cl) (fun j lf2 sg => (true, j, lf2, sg ++ (if no = true then [nI 3, nI 0] else []))) := by
    cases no
    · exact psr_5
    · exact psr_6
  rw [e56] at h
  by_cases h6 : tc i = 6
  · rw [if_pos h6] at h
    have hiN := hN i (by omega)
    obtain ⟨v, bk, a1, a2, a3⟩ := h3 d (i + 1) lf cl j lf2 sg (!no) hd h hC hcn hcn2 (by omega) hl
    refine ⟨v, bk, ?_, fun live b w0 hb => ?_, a3⟩
    · exact me_plainNot hM hge hg2 hix (ev_eq hE0 hi h6) (by omega) a1
    · obtain ⟨w, q⟩ := a2 live b (!w0) hb
      exact ⟨w, me_plainNot hM hge hg2 hix (ev_eq hE0 hi h6) (by omega) q⟩
  · rw [if_neg h6] at h
    obtain ⟨j1, l1, s1, e1, h4⟩ := pbd_t h
    obtain ⟨rfl, rfl, rfl⟩ := tru_inj h4
    have hln : (s1 ++ (if no = true then [nI 3, nI 0] else [])).length = s1.length + (if no = true then 2 else 0) := by rw [List.length_append]; cases no <;> rfl
    rw [hln] at hcn
    obtain ⟨v, bk, a1, a2, a3⟩ := eb_core hE0 h1 h2 hd e1 hC.l (by omega) hcn2 hi hl
    refine ⟨v != no, bk, ?_, fun live b w0 hb => ?_, fun sz S hs => ?_⟩
    · exact me_plainEnd (n := 10 * (9 - d) + 5) hM hge hg2 hix (ev_ne hE0 hi (by omega) h6) (by omega) a1
    · obtain ⟨w, q⟩ := a2 live b hb
      exact ⟨_, me_plainEnd (n := 10 * (9 - d) + 5) hM hge hg2 hix (ev_ne hE0 hi (by omega) h6) (by omega) q⟩
    · rw [a3 sz S hs, hln]
      cases bk with
      | true => rfl
      | false =>
        rw [if_neg (by decide), if_neg (by decide)]
        cases no with
        | false => rw [bJ_ff]; rfl
        | true =>
          obtain ⟨c1, c2⟩ := hC.r.two
          rw [evN_not (show cl + s1.length + 1 < cn by have : cl + (s1.length + 2) ≤ cn := hcn; omega) c1, up1_eq, up1_up1, bJ_not]; rfl
theorem et_plain (h3 : EP g M o bs N tc tv od C cn V vn f) : ET g M o bs N tc tv od C cn V vn Y_Mo_plainOf 5 6 f := by
  intro d i lf cl j lf2 sg hd h hC hcn hcn2 hi hl
  obtain ⟨v, bk, a1, a2, a3⟩ := h3 d i lf cl j lf2 sg false hd h hC hcn hcn2 hi hl
  refine ⟨v, bk, me_plain0 a1, fun live b hb => ?_, a3⟩
  obtain ⟨w, q⟩ := a2 live b false hb
  exact ⟨w, me_plain0 q⟩
theorem eu_both (hE : EvH M o ge bs N tc tv od V vn) (h1 : ET g M o bs N tc tv od C cn V vn Y_Mo_plainOf 5 6 f) (h2 : EU g M o bs N tc tv od C cn V vn Y_Mo_bothOf 7 7 f) : EU g M o bs N tc tv od C cn V vn Y_Mo_bothOf 7 7 (f + 1) := by
  intro d i lf cl j lf2 sg v0 hd h hC hcn hcn2 hi hl
  have hE0 := hE
  obtain ⟨hM, hge, hg1, hg2, hK, hN, hT4, hlaw, hord⟩ := hE
  have hix := ev_ix hE0 hi
  rw [psr_7] at h
  by_cases h0 : tc i = 5
  · rw [if_pos h0] at h
    have hiN := hN i (by omega)
    obtain ⟨j1, l1, s1, e1, h3⟩ := pbd_t h
    obtain ⟨j2, l2, s2, e2, h4⟩ := pbd_t h3
    obtain ⟨rfl, rfl, rfl⟩ := tru_inj h4
    obtain ⟨g1, g2, g3, g4, g5⟩ := psr_ok (N := N) hN f 5 d (i + 1) lf (cl + 2) j1 l1 s1 (by omega) e1 (by omega) hl
    have hln1 : ([nI 5, nI (cl + 2 + s1.length)] ++ s1).length = s1.length + 2 := by rw [List.length_append]; show 2 + s1.length = _; omega
    have hln : (([nI 5, nI (cl + 2 + s1.length)] ++ s1) ++ s2).length = s1.length + 2 + s2.length := by rw [List.length_append, hln1]
    rw [hln] at hcn
    obtain ⟨c1, c2⟩ := hC.l.l.two
    have hC1 : Hd C (cl + 2) s1 := hC.l.r
    have hC2 := hC.r
    rw [hln1, ← Nat.add_assoc] at hC2 e2
    obtain ⟨w, bk1, a1, a2, a3⟩ := h1 d (i + 1) lf (cl + 2) j1 l1 s1 hd e1 hC1 (by omega) hcn2 (by omega) hl
    have dead : ∀ (live b w0 : Bool), live = false ∨ b = true → ∃ w, ∀ y3 : Option Value, Wp g Y_Mo_bothOf (10 * (9 - d) + 7) 6 [some (.ref o), some (.int (bI live)), some (.int (bI w0)), y3] [] (emM M o (bs + i) b) (emB M o w (bs + j2) b) := by
      intro live b w0 hb
      obtain ⟨w1, q1⟩ := a2 (live && w0) b (by rcases hb with rfl | rfl; exact Or.inl rfl; exact Or.inr rfl)
      obtain ⟨vv, bb, -, q2, -⟩ := h2 d j1 l1 (cl + s1.length + 2) j2 l2 s2 v0 hd e2 hC2 (by omega) hcn2 g2 g3
      obtain ⟨z, hz⟩ := q2 live b (w0 && w1) hb
      exact ⟨z, fun y3 => me_bothAnd (n := 10 * (9 - d) + 6) hM hge hg2 hix (ev_eq hE0 hi h0) (by omega) q1 hz⟩
    by_cases hv0 : v0 = false
    · subst hv0
      obtain ⟨w1, q1⟩ := a2 false false (Or.inl rfl)
      obtain ⟨v, bk, b1, b2, b3⟩ := h2 d j1 l1 (cl + s1.length + 2) j2 l2 s2 false hd e2 hC2 (by omega) hcn2 g2 g3
      refine ⟨v, bk, fun y3 => me_bothAnd (n := 10 * (9 - d) + 6) hM hge hg2 hix (ev_eq hE0 hi h0) (by omega) q1 b1, dead, fun sz S hv hs => ?_⟩
      rw [evN_and (show cl + 1 < cn by omega) c1 c2 (by omega), if_pos (by rw [hv]; rfl), show max cl (cl + 2 + s1.length - 2) + 2 = cl + s1.length + 2 by omega, b3 sz S hv hs, hln]
      rw [show cl + s1.length + 2 + s2.length = cl + (s1.length + 2 + s2.length) by omega]
    · have hv1 : v0 = true := by cases v0; exact absurd rfl hv0; rfl
      subst hv1
      have hcls : ∀ (sz : Nat) (S : Nat → Int64), S sz = bJ true → sz + 2 * (8 - d) + 4 ≤ 64 → evN C cn V vn cl (sz + 1) S = evN C cn V vn (cl + 2) sz S := by
        intro sz S hv hs
        rw [evN_and (show cl + 1 < cn by omega) c1 c2 (by omega), if_neg (by rw [hv]; decide)]
      cases bk1 with
      | true =>
        obtain ⟨z, hz⟩ := (h2 d j1 l1 (cl + s1.length + 2) j2 l2 s2 false hd e2 hC2 (by omega) hcn2 g2 g3).choose_spec.choose_spec.2.1 true true (true && w) (Or.inr rfl)
        refine ⟨z, true, fun y3 => me_bothAnd (n := 10 * (9 - d) + 6) hM hge hg2 hix (ev_eq hE0 hi h0) (by omega) a1 hz, dead, fun sz S hv hs => ?_⟩
        rw [hcls sz S hv hs, a3 sz S hs]; rfl
      | false =>
        obtain ⟨v, bk, b1, b2, b3⟩ := h2 d j1 l1 (cl + s1.length + 2) j2 l2 s2 w hd e2 hC2 (by omega) hcn2 g2 g3
        refine ⟨v, bk, fun y3 => me_bothAnd (n := 10 * (9 - d) + 6) hM hge hg2 hix (ev_eq hE0 hi h0) (by omega) a1 (by intro y3; cases w; exact b1 y3; exact b1 y3), dead, fun sz S hv hs => ?_⟩
        rw [hln, hcls sz S hv hs, a3 sz S hs, if_neg (by decide), show cl + 2 + s1.length = cl + s1.length + 2 by omega, b3 sz _ up1_eq hs, up1_up1]
        rw [show cl + s1.length + 2 + s2.length = cl + (s1.length + 2 + s2.length) by omega]
  · rw [if_neg h0] at h
    obtain ⟨rfl, rfl, rfl⟩ := tru_inj h
    refine ⟨v0, false, fun y3 => ?_, fun live b w0 hb => ⟨w0, fun y3 => ?_⟩, fun sz S hv hs => ?_⟩
    · exact me_bothEnd (n := 10 * (9 - d) + 5) hM hge hg2 hix (ev_ne hE0 hi (by omega) h0)
    · exact me_bothEnd (n := 10 * (9 - d) + 5) hM hge hg2 hix (ev_ne hE0 hi (by omega) h0)
    · rw [up1_id hv]; rfl
theorem et_both (hE : EvH M o ge bs N tc tv od V vn) (h1 : ET g M o bs N tc tv od C cn V vn Y_Mo_plainOf 5 6 f) (h2 : EU g M o bs N tc tv od C cn V vn Y_Mo_bothOf 7 7 f) : ET g M o bs N tc tv od C cn V vn Y_Mo_bothOf 8 7 (f + 1) := by
  intro d i lf cl j lf2 sg hd h hC hcn hcn2 hi hl
  have hE0 := hE
  obtain ⟨hM, hge, hg1, hg2, hK, hN, hT4, hlaw, hord⟩ := hE
  rw [psr_8] at h
  obtain ⟨j1, l1, s1, e1, h3⟩ := pbd_t h
  obtain ⟨j2, l2, s2, e2, h4⟩ := pbd_t h3
  obtain ⟨rfl, rfl, rfl⟩ := tru_inj h4
  obtain ⟨g1, g2, g3, g4, g5⟩ := psr_ok (N := N) hN f 5 d i lf cl j1 l1 s1 (by omega) e1 hi hl
  rw [List.length_append] at hcn
  obtain ⟨w, bk1, a1, a2, a3⟩ := h1 d i lf cl j1 l1 s1 hd e1 hC.l (by omega) hcn2 hi hl
  obtain ⟨v, bk, b1, b2, b3⟩ := h2 d j1 l1 (cl + s1.length) j2 l2 s2 w hd e2 hC.r (by omega) hcn2 g2 g3
  have dead : ∀ live b : Bool, live = false ∨ b = true → ∃ w, Ci g Y_Mo_bothOf (10 * (9 - d) + 7) [.ref o, .int (bI live)] (emM M o (bs + i) b) (fun x M2 => x = bI w ∧ M2 = emM M o (bs + j2) b) := by
    intro live b hb
    obtain ⟨w1, q1⟩ := a2 live b hb
    obtain ⟨z, q2⟩ := b2 live b w1 hb
    exact ⟨z, me_both0 (n := 10 * (9 - d) + 6) hM q1 (q2 none)⟩
  cases bk1 with
  | true =>
    obtain ⟨z, q2⟩ := b2 true true w (Or.inr rfl)
    refine ⟨z, true, me_both0 (n := 10 * (9 - d) + 6) hM a1 (q2 none), dead, fun sz S hs => ?_⟩
    rw [a3 sz S hs]; rfl
  | false =>
    refine ⟨v, bk, me_both0 (n := 10 * (9 - d) + 6) hM a1 (b1 none), dead, fun sz S hs => ?_⟩
    rw [a3 sz S hs, if_neg (by decide), b3 sz _ up1_eq hs, List.length_append, ← Nat.add_assoc, up1_up1]
theorem eu_test (hE : EvH M o ge bs N tc tv od V vn) (h1 : ET g M o bs N tc tv od C cn V vn Y_Mo_bothOf 8 7 f) (h2 : EU g M o bs N tc tv od C cn V vn Y_Mo_testOf 9 8 f) : EU g M o bs N tc tv od C cn V vn Y_Mo_testOf 9 8 (f + 1) := by
  intro d i lf cl j lf2 sg v0 hd h hC hcn hcn2 hi hl
  have hE0 := hE
  obtain ⟨hM, hge, hg1, hg2, hK, hN, hT4, hlaw, hord⟩ := hE
  have hix := ev_ix hE0 hi
  rw [psr_9] at h
  by_cases h0 : tc i = 4
  · rw [if_pos h0] at h
    have hiN := hN i (by omega)
    obtain ⟨j1, l1, s1, e1, h3⟩ := pbd_t h
    obtain ⟨j2, l2, s2, e2, h4⟩ := pbd_t h3
    obtain ⟨rfl, rfl, rfl⟩ := tru_inj h4
    obtain ⟨g1, g2, g3, g4, g5⟩ := psr_ok (N := N) hN f 8 d (i + 1) lf (cl + 2) j1 l1 s1 (by omega) e1 (by omega) hl
    have hln1 : ([nI 4, nI (cl + 2 + s1.length)] ++ s1).length = s1.length + 2 := by rw [List.length_append]; show 2 + s1.length = _; omega
    have hln : (([nI 4, nI (cl + 2 + s1.length)] ++ s1) ++ s2).length = s1.length + 2 + s2.length := by rw [List.length_append, hln1]
    rw [hln] at hcn
    obtain ⟨c1, c2⟩ := hC.l.l.two
    have hC1 : Hd C (cl + 2) s1 := hC.l.r
    have hC2 := hC.r
    rw [hln1, ← Nat.add_assoc] at hC2 e2
    obtain ⟨w, bk1, a1, a2, a3⟩ := h1 d (i + 1) lf (cl + 2) j1 l1 s1 hd e1 hC1 (by omega) hcn2 (by omega) hl
    have dead : ∀ (live b w0 : Bool), live = false ∨ b = true → ∃ w, ∀ y3 : Option Value, Wp g Y_Mo_testOf (10 * (9 - d) + 8) 6 [some (.ref o), some (.int (bI live)), some (.int (bI w0)), y3] [] (emM M o (bs + i) b) (emB M o w (bs + j2) b) := by
      intro live b w0 hb
      obtain ⟨w1, q1⟩ := a2 (live && !w0) b (by rcases hb with rfl | rfl; exact Or.inl rfl; exact Or.inr rfl)
      obtain ⟨vv, bb, -, q2, -⟩ := h2 d j1 l1 (cl + s1.length + 2) j2 l2 s2 v0 hd e2 hC2 (by omega) hcn2 g2 g3
      obtain ⟨z, hz⟩ := q2 live b (w0 || w1) hb
      exact ⟨z, fun y3 => me_testOr (n := 10 * (9 - d) + 7) hM hge hg2 hix (ev_eq hE0 hi h0) (by omega) q1 hz⟩
    by_cases hv0 : v0 = true
    · subst hv0
      obtain ⟨w1, q1⟩ := a2 false false (Or.inl rfl)
      obtain ⟨v, bk, b1, b2, b3⟩ := h2 d j1 l1 (cl + s1.length + 2) j2 l2 s2 true hd e2 hC2 (by omega) hcn2 g2 g3
      refine ⟨v, bk, fun y3 => me_testOr (n := 10 * (9 - d) + 7) hM hge hg2 hix (ev_eq hE0 hi h0) (by omega) q1 b1, dead, fun sz S hv hs => ?_⟩
      rw [evN_or (show cl + 1 < cn by omega) c1 c2 (by omega), if_pos (by rw [hv]; rfl), show max cl (cl + 2 + s1.length - 2) + 2 = cl + s1.length + 2 by omega, b3 sz S hv hs, hln]
      rw [show cl + s1.length + 2 + s2.length = cl + (s1.length + 2 + s2.length) by omega]
    · have hv1 : v0 = false := by cases v0; rfl; exact absurd rfl hv0
      subst hv1
      have hcls : ∀ (sz : Nat) (S : Nat → Int64), S sz = bJ false → sz + 2 * (8 - d) + 4 ≤ 64 → evN C cn V vn cl (sz + 1) S = evN C cn V vn (cl + 2) sz S := by
        intro sz S hv hs
        rw [evN_or (show cl + 1 < cn by omega) c1 c2 (by omega), if_neg (by rw [hv]; decide)]
      cases bk1 with
      | true =>
        obtain ⟨z, hz⟩ := (h2 d j1 l1 (cl + s1.length + 2) j2 l2 s2 false hd e2 hC2 (by omega) hcn2 g2 g3).choose_spec.choose_spec.2.1 true true (false || w) (Or.inr rfl)
        refine ⟨z, true, fun y3 => me_testOr (n := 10 * (9 - d) + 7) hM hge hg2 hix (ev_eq hE0 hi h0) (by omega) a1 hz, dead, fun sz S hv hs => ?_⟩
        rw [hcls sz S hv hs, a3 sz S hs]; rfl
      | false =>
        obtain ⟨v, bk, b1, b2, b3⟩ := h2 d j1 l1 (cl + s1.length + 2) j2 l2 s2 w hd e2 hC2 (by omega) hcn2 g2 g3
        refine ⟨v, bk, fun y3 => me_testOr (n := 10 * (9 - d) + 7) hM hge hg2 hix (ev_eq hE0 hi h0) (by omega) a1 (by intro y3; cases w; exact b1 y3; exact b1 y3), dead, fun sz S hv hs => ?_⟩
        rw [hln, hcls sz S hv hs, a3 sz S hs, if_neg (by decide), show cl + 2 + s1.length = cl + s1.length + 2 by omega, b3 sz _ up1_eq hs, up1_up1]
        rw [show cl + s1.length + 2 + s2.length = cl + (s1.length + 2 + s2.length) by omega]
  · rw [if_neg h0] at h
    obtain ⟨rfl, rfl, rfl⟩ := tru_inj h
    refine ⟨v0, false, fun y3 => ?_, fun live b w0 hb => ⟨w0, fun y3 => ?_⟩, fun sz S hv hs => ?_⟩
    · exact me_testEnd (n := 10 * (9 - d) + 6) hM hge hg2 hix (ev_ne hE0 hi (by omega) h0)
    · exact me_testEnd (n := 10 * (9 - d) + 6) hM hge hg2 hix (ev_ne hE0 hi (by omega) h0)
    · rw [up1_id hv]; rfl
theorem et_test (hE : EvH M o ge bs N tc tv od V vn) (h1 : ET g M o bs N tc tv od C cn V vn Y_Mo_bothOf 8 7 f) (h2 : EU g M o bs N tc tv od C cn V vn Y_Mo_testOf 9 8 f) : ET g M o bs N tc tv od C cn V vn Y_Mo_testOf 10 8 (f + 1) := by
  intro d i lf cl j lf2 sg hd h hC hcn hcn2 hi hl
  have hE0 := hE
  obtain ⟨hM, hge, hg1, hg2, hK, hN, hT4, hlaw, hord⟩ := hE
  rw [psr_10] at h
  obtain ⟨j1, l1, s1, e1, h3⟩ := pbd_t h
  obtain ⟨j2, l2, s2, e2, h4⟩ := pbd_t h3
  obtain ⟨rfl, rfl, rfl⟩ := tru_inj h4
  obtain ⟨g1, g2, g3, g4, g5⟩ := psr_ok (N := N) hN f 8 d i lf cl j1 l1 s1 (by omega) e1 hi hl
  rw [List.length_append] at hcn
  obtain ⟨w, bk1, a1, a2, a3⟩ := h1 d i lf cl j1 l1 s1 hd e1 hC.l (by omega) hcn2 hi hl
  obtain ⟨v, bk, b1, b2, b3⟩ := h2 d j1 l1 (cl + s1.length) j2 l2 s2 w hd e2 hC.r (by omega) hcn2 g2 g3
  have dead : ∀ live b : Bool, live = false ∨ b = true → ∃ w, Ci g Y_Mo_testOf (10 * (9 - d) + 8) [.ref o, .int (bI live)] (emM M o (bs + i) b) (fun x M2 => x = bI w ∧ M2 = emM M o (bs + j2) b) := by
    intro live b hb
    obtain ⟨w1, q1⟩ := a2 live b hb
    obtain ⟨z, q2⟩ := b2 live b w1 hb
    exact ⟨z, me_test0 (n := 10 * (9 - d) + 7) hM q1 (q2 none)⟩
  cases bk1 with
  | true =>
    obtain ⟨z, q2⟩ := b2 true true w (Or.inr rfl)
    refine ⟨z, true, me_test0 (n := 10 * (9 - d) + 7) hM a1 (q2 none), dead, fun sz S hs => ?_⟩
    rw [a3 sz S hs]; rfl
  | false =>
    refine ⟨v, bk, me_test0 (n := 10 * (9 - d) + 7) hM a1 (b1 none), dead, fun sz S hs => ?_⟩
    rw [a3 sz S hs, if_neg (by decide), b3 sz _ up1_eq hs, List.length_append, ← Nat.add_assoc, up1_up1]
theorem ES_0 {Y : Meth} {nt lv sl : Nat} : ES g M o bs N tc tv od C cn V vn Y nt lv sl 0 := by
  intro d i lf cl j lf2 sg hd h
  exact (fls_tru h).elim
theorem ER_0 {Y : Meth} {nt lv sl : Nat} : ER g M o bs N tc tv od C cn V vn Y nt lv sl 0 := by
  intro d i lf cl j lf2 sg v0 hd h
  exact (fls_tru h).elim
theorem ET_0 {Y : Meth} {nt lv : Nat} : ET g M o bs N tc tv od C cn V vn Y nt lv 0 := by
  intro d i lf cl j lf2 sg hd h
  exact (fls_tru h).elim
theorem EU_0 {Y : Meth} {nt lv : Nat} : EU g M o bs N tc tv od C cn V vn Y nt lv 0 := by
  intro d i lf cl j lf2 sg v0 hd h
  exact (fls_tru h).elim
theorem EP_0 : EP g M o bs N tc tv od C cn V vn 0 := by
  intro d i lf cl j lf2 sg no hd h
  exact (fls_tru h).elim
theorem ev_all (hE : EvH M o ge bs N tc tv od V vn) : ∀ f, ES g M o bs N tc tv od C cn V vn Y_Mo_partOf 0 2 1 f ∧ ER g M o bs N tc tv od C cn V vn Y_Mo_termOf 1 3 2 f ∧ ES g M o bs N tc tv od C cn V vn Y_Mo_termOf 2 3 2 f ∧ ER g M o bs N tc tv od C cn V vn Y_Mo_sumOf 3 4 3 f ∧ ES g M o bs N tc tv od C cn V vn Y_Mo_sumOf 4 4 3 f ∧ EP g M o bs N tc tv od C cn V vn f ∧ EU g M o bs N tc tv od C cn V vn Y_Mo_bothOf 7 7 f ∧ ET g M o bs N tc tv od C cn V vn Y_Mo_bothOf 8 7 f ∧ EU g M o bs N tc tv od C cn V vn Y_Mo_testOf 9 8 f ∧ ET g M o bs N tc tv od C cn V vn Y_Mo_testOf 10 8 f
  | 0 => ⟨ES_0, ER_0, ES_0, ER_0, ES_0, EP_0, EU_0, ET_0, EU_0, ET_0⟩
  | f + 1 => by
    obtain ⟨a1, a2, a3, a4, a5, a6, a7, a8, a9, a10⟩ := ev_all hE f
    have a11 := et_plain a6
    exact ⟨es_part hE a5, er_term hE a1 a2, es_term hE a1 a2, er_sum hE a3 a4, es_sum hE a3 a4, ep_plain hE a5 a10 a6, eu_both hE a11 a7, et_both hE a11 a7, eu_test hE a8 a9, et_test hE a8 a9⟩
end EVB

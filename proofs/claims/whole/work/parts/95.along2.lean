/-! ===== the model goes along a clause: what it holds then ===== -/
section GAM
variable {g : Gl} {M : Mem} {o ge bs N : Nat} {tc tv : Nat → Nat} {C : Nat → Int32} {cn : Nat} {V : Nat → Int32} {f : Nat}
/-- the model's numbers of a clause and the sums alone were changed -/
def GaR (M : Mem) (o : Nat) (M2 : Mem) : Prop := ∃ F2 Sm, M2 = mk2 M (up1 (mI M) o F2) (up1 (mJ M) (o + 34) Sm) ∧ ∀ k, k < 25 ∨ (29 ≤ k ∧ k < 56) ∨ 60 ≤ k → F2 k = mI M o k
theorem GaR.refl : GaR M o M := ⟨mI M o, mJ M (o + 34), by rw [up1_self, up1_self], fun _ _ => rfl⟩
theorem GaR.s {M2 : Mem} {k : Nat} {v : Int32} (h : GaR M o M2) (hk : (25 ≤ k ∧ k < 29) ∨ (56 ≤ k ∧ k < 60)) : GaR M o (sI M2 o k v) := by
  obtain ⟨F2, Sm, rfl, h2⟩ := h
  refine ⟨up1 F2 k v, Sm, ?_, fun q hq => by rw [up1_ne (by omega)]; exact h2 q hq⟩
  refine mk2_ext (M := M) ?_ rfl
  show up2 (up1 (mI M) o F2) o k v = up1 (mI M) o (up1 F2 k v)
  rw [up2_up1, up1_eq, up1_up1]
theorem GaR.j {M2 : Mem} {k : Nat} {v : Int64} (h : GaR M o M2) : GaR M o (sJ M2 (o + 34) k v) := by
  obtain ⟨F2, Sm, rfl, h2⟩ := h
  refine ⟨F2, up1 Sm k v, ?_, h2⟩
  refine mk2_ext (M := M) rfl ?_
  show up2 (up1 (mJ M) (o + 34) Sm) (o + 34) k v = _
  rw [up2_up1, up1_eq, up1_up1]
theorem GaR.em {M2 : Mem} {i : Nat} {b : Bool} (h : GaR M o M2) : GaR M o (emM M2 o i b) := by
  obtain ⟨F2, Sm, rfl, h2⟩ := h
  refine ⟨up1 (up1 F2 25 (nI i)) 27 (bI b), Sm, ?_, fun q hq => by rw [up1_ne (by omega), up1_ne (by omega)]; exact h2 q hq⟩
  refine mk2_ext (M := M) ?_ rfl
  show up1 (up1 (mI M) o F2) o (up1 (up1 (up1 (mI M) o F2 o) 25 (nI i)) 27 (bI b)) = _
  rw [up1_eq, up1_up1]
/-- what the sums are: the places ks of the code -/
def SmP (C : Nat → Int32) (cn : Nat) (V : Nat → Int32) (sa : Bool) (S : Nat → Int64) : List Nat → Nat → Prop
  | [], _ => sa = true
  | c :: ks, k => ∃ sb : Bool, SmP C cn V sb S ks (k + 1) ∧ (sa = true ↔ ¬ ev0 C cn V 11 c = brk ∧ sb = true) ∧ (sa = true → S k = ev0 C cn V 11 c ∧ inR (S k))
/-- the sums of an order, by its rows -/
def ksO (e : Nat → Int32) : List Nat := if e 1 = nI 3 then [] else if e 1 = nI 1 then [(e 4).toNatClampNeg, (e 5).toNatClampNeg, (e 6).toNatClampNeg] else [(e 4).toNatClampNeg, (e 6).toNatClampNeg]
/-- behind a clause gone along -/
def GaQ (C : Nat → Int32) (cn : Nat) (V : Nat → Int32) (M : Mem) (o : Nat) (hd : Nat) (e : Nat → Int32) (go : Nat) (live : Bool) (M2 : Mem) : Prop :=
  GaR M o M2 ∧ mI M2 o 25 = nI go ∧ (∃ b, mI M2 o 27 = bI b) ∧ (∃ tm, tm ≤ 20 ∧ e 2 = nI tm ∧ mI M2 o 56 = nI tm) ∧ mI M2 o 57 = nI hd ∧ (live = true → ∃ sa wt : Bool, mI M2 o 58 = bI sa ∧ mI M2 o 59 = bI wt ∧ (wt = true ↔ (e 3 = -1 ∨ ev0 C cn V 11 (e 3).toNatClampNeg = 1)) ∧
    (sa = true ↔ ∀ c ∈ ksO e, ¬ ev0 C cn V 11 c = brk) ∧ (sa = true → ∀ q, q < (ksO e).length → mJ M2 (o + 34) q = ev0 C cn V 11 ((ksO e).getD q 0) ∧ inR (mJ M2 (o + 34) q)))
theorem gaM_58 {k : Nat} {x : Int64} {sa : Bool} : mI (gaM M o k x sa) o 58 = bI sa := by
  show up2 (mI M) o 58 (bI sa) o 58 = _
  unfold up2; rw [if_pos ⟨rfl, rfl⟩]
theorem gaM_f {k q : Nat} {x : Int64} {sa : Bool} (h : q ≠ 58) : mI (gaM M o k x sa) o q = mI M o q := by
  show up2 (mI M) o 58 (bI sa) o q = _
  unfold up2; rw [if_neg (by omega)]
theorem gaM_J {k q : Nat} {x : Int64} {sa : Bool} : mJ (gaM M o k x sa) (o + 34) q = if q = k then x else mJ M (o + 34) q := by
  show up2 (mJ M) (o + 34) k x (o + 34) q = _
  unfold up2
  by_cases h : q = k
  · rw [if_pos ⟨rfl, h⟩, if_pos h]
  · rw [if_neg (fun z => h z.2), if_neg h]
/-- the end's memory -/
theorem ga_end {MM : Mem} {tm go : Nat} {wt bk : Bool} (hR : GaR M o MM) : GaR M o (emM (sI (sI MM o 56 (nI tm)) o 59 (bI wt)) o go bk) ∧ mI (emM (sI (sI MM o 56 (nI tm)) o 59 (bI wt)) o go bk) o 25 = nI go ∧ (∃ b, mI (emM (sI (sI MM o 56 (nI tm)) o 59 (bI wt)) o go bk) o 27 = bI b) ∧ mI (emM (sI (sI MM o 56 (nI tm)) o 59 (bI wt)) o go bk) o 56 = nI tm ∧ mI (emM (sI (sI MM o 56 (nI tm)) o 59 (bI wt)) o go bk) o 57 = mI MM o 57 ∧ mI (emM (sI (sI MM o 56 (nI tm)) o 59 (bI wt)) o go bk) o 58 = mI MM o 58 ∧ mI (emM (sI (sI MM o 56 (nI tm)) o 59 (bI wt)) o go bk) o 59 = bI wt ∧ mJ (emM (sI (sI MM o 56 (nI tm)) o 59 (bI wt)) o go bk) (o + 34) = mJ MM (o + 34) := by
  have e : ∀ k, k ≠ 25 → k ≠ 27 → mI (emM (sI (sI MM o 56 (nI tm)) o 59 (bI wt)) o go bk) o k = up2 (up2 (mI MM) o 56 (nI tm)) o 59 (bI wt) o k := fun k h1 h2 => emM_f h1 h2
  refine ⟨((hR.s (by omega)).s (by omega)).em, emM_25, ⟨bk, emM_27⟩, ?_, ?_, ?_, ?_, rfl⟩
  · rw [e 56 (by omega) (by omega)]; simp [up2]
  · rw [e 57 (by omega) (by omega)]; simp [up2]
  · rw [e 58 (by omega) (by omega)]; simp [up2]
  · rw [e 59 (by omega) (by omega)]; simp [up2]
theorem m_goesAlong {e : Nat → Int32} {i lf cl j1 lf1 j : Nat} {s1 s2 : List Int32} {live : Bool} (hE : EvH (sI (sI M o 28 (nI 1)) o 26 (nI ge)) o ge bs N tc tv true V 11) (h55 : mI M o 55 = nI (bs + i)) (hb : ∃ b, mI M o 27 = bI b) (hO : OrS tc tv true f e i lf cl j1 lf1 s1) (hCn : CnS tc tv true f e j1 lf1 (cl + s1.length) j s2) (hC : Hd C cl (s1 ++ s2)) (hcl : cl + (s1 ++ s2).length ≤ cn) (hcn2 : cn ≤ 1024) (hi : i ≤ N) (hl : lf ≤ 50) :
    Cv g Y_Mo_goesAlong 150 [.ref o, .int (nI ge), .int (bI live)] M (fun M2 => GaQ C cn V M o (tc i) e (bs + (j + 1)) live M2) := by
  obtain ⟨b, hb⟩ := hb
  have hE0 := hE
  have hM : MoAt (mT M) (mR M) o := hE.1
  obtain ⟨-, hge, hg1, hg2, hK, hN, hT4, hlaw, hord⟩ := hE
  have to0 := hM.1
  have hix := ev_ix hE0 hi
  have hti : tc i = 17 ∨ tc i = 21 ∨ tc i = 19 ∨ tc i = 22 := by
    rcases hO with ⟨h, -⟩ | ⟨h, -⟩ | ⟨h, -⟩
    · rcases h with h | h
      · omega
      · omega
    · omega
    · omega
  have hiN := hN i (by omega)
  have hem : sI (sI (sI M o 28 (nI 1)) o 26 (nI ge)) o 25 (nI (bs + i)) = emM (sI (sI M o 28 (nI 1)) o 26 (nI ge)) o (bs + i) b := by
    refine mk2_ext (M := M) ?_ rfl
    show up2 (up2 (up2 (mI M) o 28 (nI 1)) o 26 (nI ge)) o 25 (nI (bs + i)) = up1 (up2 (up2 (mI M) o 28 (nI 1)) o 26 (nI ge)) o (up1 (up1 (up2 (up2 (mI M) o 28 (nI 1)) o 26 (nI ge) o) 25 (nI (bs + i))) 27 (bI b))
    simp only [up2_up1, up1_eq, up1_up1]
    refine congrArg (up1 (mI M) o) ?_
    funext k
    by_cases k27 : k = 27
    · subst k27; simp [up1, hb]
    by_cases k25 : k = 25
    · subst k25; simp [up1]
    simp [up1, k25, k27]
  have hcA := m_codeAt (g := g) (i := bs + i) (b := b) (k := bs + i) hE0.1 hge hg2 hix
  rw [ev_tcd hE0 hi] at hcA
  -- the memory at the loop
  have hR3 : GaR M o (sI (sI (sI (sI M o 28 (nI 1)) o 26 (nI ge)) o 57 (nI (tc i))) o 58 (nI 1)) := (((GaR.refl.s (by omega)).s (by omega)).s (by omega)).s (by omega)
  have hE3 : EvH (sI (sI (sI (sI M o 28 (nI 1)) o 26 (nI ge)) o 57 (nI (tc i))) o 58 (nI 1)) o ge bs N tc tv true V 11 := by
    refine hE0.up rfl rfl ?_ ?_
    · show up2 (up2 (up2 (up2 (mI M) o 28 (nI 1)) o 26 (nI ge)) o 57 _) o 58 _ (o + 2) = up2 (up2 (mI M) o 28 (nI 1)) o 26 (nI ge) (o + 2)
      rw [up2_up1, up1_ne (by omega), up2_up1, up1_ne (by omega)]
    · intro q hq
      show up2 (up2 (up2 (up2 (mI M) o 28 (nI 1)) o 26 (nI ge)) o 57 _) o 58 _ o q = up2 (up2 (mI M) o 28 (nI 1)) o 26 (nI ge) o q
      simp only [up2]
      rw [if_neg (by omega), if_neg (by omega)]
  have h58 : mI (sI (sI (sI (sI M o 28 (nI 1)) o 26 (nI ge)) o 57 (nI (tc i))) o 58 (nI 1)) o 58 = bI true := by
    show up2 (up2 (up2 (up2 (mI M) o 28 (nI 1)) o 26 (nI ge)) o 57 _) o 58 (nI 1) o 58 = _
    simp [up2]; rfl
  have h57 : mI (sI (sI (sI (sI M o 28 (nI 1)) o 26 (nI ge)) o 57 (nI (tc i))) o 58 (nI 1)) o 57 = nI (tc i) := by
    show up2 (up2 (up2 (up2 (mI M) o 28 (nI 1)) o 26 (nI ge)) o 57 (nI (tc i))) o 58 (nI 1) o 57 = _
    simp [up2]
  generalize hM3 : sI (sI (sI (sI M o 28 (nI 1)) o 26 (nI ge)) o 57 (nI (tc i))) o 58 (nI 1) = M3 at hR3 hE3 h58 h57
  have hmain : ∀ n, n = (if tc i = 22 then 0 else if tc i = 19 then 3 else 2) → Wp g Y_Mo_goesAlong 150 76 [some (.ref o), some (.int (nI ge)), some (.int (bI live)), some (.int (nI n)), some (.int (nI 0))] [] (emM M3 o (bs + (i + 1)) b) (fun r M2 => r = none ∧ GaQ C cn V M o (tc i) e (bs + (j + 1)) live M2) := by
    have to3 : mT M3 o = (11, 0) := hE3.1.1
    intro n hn
    rcases hO with ⟨hk, h4, p1, l1, u1, u2, q1, ⟨h18, h6, p2, v1, q2, hsg2, q3, h2⟩, hsg⟩ | ⟨hk, h1, h4, p1, l1, u1, p2, l2, u2, u3, q1, h20, h5, q2, ⟨h18, h6, p3, v1, q3, hsg2, q4, h2⟩, hsg⟩ | ⟨hk, h1, q1, h2, hlf, hsg⟩
    · -- two sums
      have hn2 : n = 2 := by rw [hn, if_neg (by omega), if_neg (by omega)]
      subst hn2
      subst hsg hsg2
      obtain ⟨g1, g2, g3, g4, g5⟩ := psr_ok (N := N) hN f 4 0 (i + 1) lf cl p1 l1 u1 (by omega) q1 (by omega) hl
      have hp1N := hN p1 (by omega)
      obtain ⟨r1, r2, r3, r4, r5⟩ := psr_ok (N := N) hN f 4 0 (p1 + 1) l1 _ p2 lf1 v1 (by omega) q2 (by omega) g3
      have hC1 := hC.l.l
      have hC2 := hC.l.r
      have hC3 := hC.r
      simp only [List.length_append, List.length_cons, List.length_nil] at hcl hC2 hC3 hCn
      rw [show cl + (u1.length + (0 + 1 + 1)) = cl + u1.length + 2 by omega] at hC2
      rw [show cl + (u1.length + (0 + 1 + 1) + (v1.length + (0 + 1 + 1))) = cl + u1.length + 2 + v1.length + 2 by omega] at hC3 hCn
      have c4 : (e 4).toNatClampNeg = cl := by rw [h4]; exact nI_clamp (by omega)
      have c6 : (e 6).toNatClampNeg = cl + u1.length + 2 := by rw [h6]; exact nI_clamp (by omega)
      have hks : ksO e = [cl, cl + u1.length + 2] := by
        unfold ksO
        have h13 : ¬ e 1 = nI 3 := by rcases hk with ⟨-, h⟩ | ⟨-, h⟩ <;> rw [h] <;> decide
        have h11 : ¬ e 1 = nI 1 := by rcases hk with ⟨-, h⟩ | ⟨-, h⟩ <;> rw [h] <;> decide
        rw [if_neg h13, if_neg h11, c4, c6]
      refine wp_iload rfl (ck_get kk_Mo_goesAlong 41 rfl) ?_
      refine wp_iload_n rfl (ck_get kk_Mo_goesAlong 42 rfl) ?_
      first | refine wp_icmp_geN (t := 143) (ck_get kk_Mo_goesAlong 43 rfl) (by decide) (by omega) (by omega) (fun hc79 => ?_) (fun hc79 => ?_) | refine wp_icmp_ge (t := 143) (ck_get kk_Mo_goesAlong 43 rfl) (by decide) (fun hc79 => ?_) (fun hc79 => ?_)
      · omega
      · refine wp_iload rfl (ck_get kk_Mo_goesAlong 44 rfl) ?_
        first | refine wp_if_leN (t := 97) (ck_get kk_Mo_goesAlong 45 rfl) (by decide) (by omega) (fun hc84 => ?_) (fun hc84 => ?_) | refine wp_if_le (t := 97) (ck_get kk_Mo_goesAlong 45 rfl) (by decide) (fun hc84 => ?_) (fun hc84 => ?_)
        · refine l_gaS (cn := cn) hE3 q1 hC1 (by rw [len_app2]; omega) (by omega) hl h58 (by omega) ?_
          intro x0 bk0 hx0
          refine wp_iload rfl (ck_get kk_Mo_goesAlong 41 rfl) ?_
          refine wp_iload_n rfl (ck_get kk_Mo_goesAlong 42 rfl) ?_
          first | refine wp_icmp_geN (t := 143) (ck_get kk_Mo_goesAlong 43 rfl) (by decide) (by omega) (by omega) (fun hc79 => ?_) (fun hc79 => ?_) | refine wp_icmp_ge (t := 143) (ck_get kk_Mo_goesAlong 43 rfl) (by decide) (fun hc79 => ?_) (fun hc79 => ?_)
          · omega
          · refine wp_iload rfl (ck_get kk_Mo_goesAlong 44 rfl) ?_
            first | refine wp_if_leN (t := 97) (ck_get kk_Mo_goesAlong 45 rfl) (by decide) (by omega) (fun hc84 => ?_) (fun hc84 => ?_) | refine wp_if_le (t := 97) (ck_get kk_Mo_goesAlong 45 rfl) (by decide) (fun hc84 => ?_) (fun hc84 => ?_)
            · omega
            · refine wp_aload_n rfl (ck_get kk_Mo_goesAlong 46 rfl) ?_
              refine wp_dup rfl (ck_get kk_Mo_goesAlong 47 rfl) ?_
              refine wp_getIv (v := nI (bs + p1)) (ck_get kk_Mo_goesAlong 48 rfl) fl_Mo_294 (by assumption) (emM_25) ?_
              refine wp_iconst (v := nI 1) (by decide) (ck_get kk_Mo_goesAlong 49 rfl) ?_
              first | refine wp_iaddN (ck_get kk_Mo_goesAlong 50 rfl) ?_ | refine wp_iadd (ck_get kk_Mo_goesAlong 50 rfl) ?_
              refine wp_putI (ck_get kk_Mo_goesAlong 51 rfl) fl_Mo_294 (by decide +kernel) (by assumption) (okI_int _) ?_
              rw [emM_go, Nat.add_assoc]
              refine l_gaS (cn := cn) hE3.ga q2 hC2 (by rw [len_app2]; omega) (by omega) g3 gaM_58 (by omega) ?_
              intro x1 bk1 hx1
              refine wp_iload rfl (ck_get kk_Mo_goesAlong 41 rfl) ?_
              refine wp_iload_n rfl (ck_get kk_Mo_goesAlong 42 rfl) ?_
              first | refine wp_icmp_geN (t := 143) (ck_get kk_Mo_goesAlong 43 rfl) (by decide) (by omega) (by omega) (fun hc79 => ?_) (fun hc79 => ?_) | refine wp_icmp_ge (t := 143) (ck_get kk_Mo_goesAlong 43 rfl) (by decide) (fun hc79 => ?_) (fun hc79 => ?_)
              · refine l_ga143 hE3.ga.ga q3 hCn hC3 (by omega) hcn2 r2 r3 ?_
                intro bk wt hwt
                obtain ⟨d1, d2, d3, d4, d5, d6, d7, d8⟩ := ga_end (M := M) (o := o) (MM := gaM (gaM M3 o 0 x0 (true && !bk0)) o 1 x1 ((true && !bk0) && !bk1)) (tm := tmV tc tv p2) (go := bs + (j + 1)) (wt := wt) (bk := bk) (((hR3.j.s (by omega)).j).s (by omega))
                refine ⟨rfl, d1, d2, d3, ⟨_, tm_le q3, h2, d4⟩, ?_, fun hlive => ⟨(true && !bk0) && !bk1, wt, ?_, d7, hwt hlive, ?_, ?_⟩⟩
                · rw [d5, gaM_f (by omega), gaM_f (by omega)]; exact h57
                · rw [d6, gaM_58]
                · rw [hks]
                  obtain ⟨y1, y2⟩ := hx0 hlive
                  obtain ⟨y3, y4⟩ := hx1 hlive
                  constructor
                  · intro q c hc
                    cases bk0 <;> cases bk1 <;> first | exact absurd q (by decide) | skip
                    rcases List.mem_cons.mp hc with rfl | hc
                    · rw [y1, if_neg (by decide)]; exact inR_brk (y2 rfl)
                    · rw [List.mem_singleton.mp hc, y3, if_neg (by decide)]; exact inR_brk (y4 rfl)
                  · intro q
                    have z1 := q cl (List.mem_cons_self)
                    have z2 := q (cl + u1.length + 2) (List.mem_cons_of_mem _ (List.mem_singleton.mpr rfl))
                    cases bk0 <;> cases bk1 <;> first | rfl | exact absurd (by rw [y1]; rfl) z1 | exact absurd (by rw [y3]; rfl) z2
                · intro q r hr
                  rw [hks] at hr ⊢
                  obtain ⟨y1, y2⟩ := hx0 hlive
                  obtain ⟨y3, y4⟩ := hx1 hlive
                  cases bk0 <;> cases bk1 <;> first | exact absurd q (by decide) | skip
                  rw [d8]
                  have hr2 : r < 2 := hr
                  rcases (show r = 0 ∨ r = 1 by omega) with rfl | rfl
                  · rw [gaM_J, if_neg (by omega), gaM_J, if_pos rfl]
                    exact ⟨by show x0 = ev0 C cn V 11 cl; rw [y1]; rfl, y2 rfl⟩
                  · rw [gaM_J, if_pos rfl]
                    exact ⟨by show x1 = ev0 C cn V 11 (cl + u1.length + 2); rw [y3]; rfl, y4 rfl⟩
              · omega
        · omega
    · -- three sums
      have hn2 : n = 3 := by rw [hn, if_neg (by omega), if_pos hk]
      subst hn2
      subst hsg hsg2
      obtain ⟨g1, g2, g3, g4, g5⟩ := psr_ok (N := N) hN f 4 0 (i + 1) lf cl p1 l1 u1 (by omega) q1 (by omega) hl
      have hp1N := hN p1 (by omega)
      obtain ⟨m1, m2, m3, m4, m5⟩ := psr_ok (N := N) hN f 4 0 (p1 + 1) l1 _ p2 l2 u2 (by omega) q2 (by omega) g3
      have hp2N := hN p2 (by omega)
      obtain ⟨r1, r2, r3, r4, r5⟩ := psr_ok (N := N) hN f 4 0 (p2 + 1) l2 _ p3 lf1 v1 (by omega) q3 (by omega) m3
      have hC1 := hC.l.l
      have hC2 := hC.l.r.l
      have hC3 := hC.l.r.r
      have hC4 := hC.r
      simp only [List.length_append, List.length_cons, List.length_nil] at hcl hC2 hC3 hC4 hCn
      rw [show cl + (u1.length + (0 + 1 + 1)) = cl + u1.length + 2 by omega] at hC2 hC3
      rw [show cl + u1.length + 2 + (u2.length + (0 + 1 + 1)) = cl + u1.length + 2 + u2.length + 2 by omega] at hC3
      rw [show cl + (u1.length + (0 + 1 + 1) + (u2.length + (0 + 1 + 1) + (v1.length + (0 + 1 + 1)))) = cl + u1.length + 2 + u2.length + 2 + v1.length + 2 by omega] at hC4 hCn
      have c4 : (e 4).toNatClampNeg = cl := by rw [h4]; exact nI_clamp (by omega)
      have c5 : (e 5).toNatClampNeg = cl + u1.length + 2 := by rw [h5]; exact nI_clamp (by omega)
      have c6 : (e 6).toNatClampNeg = cl + u1.length + 2 + u2.length + 2 := by rw [h6]; exact nI_clamp (by omega)
      have hks : ksO e = [cl, cl + u1.length + 2, cl + u1.length + 2 + u2.length + 2] := by
        unfold ksO
        rw [if_neg (by rw [h1]; decide), if_pos h1, c4, c5, c6]
      refine wp_iload rfl (ck_get kk_Mo_goesAlong 41 rfl) ?_
      refine wp_iload_n rfl (ck_get kk_Mo_goesAlong 42 rfl) ?_
      first | refine wp_icmp_geN (t := 143) (ck_get kk_Mo_goesAlong 43 rfl) (by decide) (by omega) (by omega) (fun hc79 => ?_) (fun hc79 => ?_) | refine wp_icmp_ge (t := 143) (ck_get kk_Mo_goesAlong 43 rfl) (by decide) (fun hc79 => ?_) (fun hc79 => ?_)
      · omega
      · refine wp_iload rfl (ck_get kk_Mo_goesAlong 44 rfl) ?_
        first | refine wp_if_leN (t := 97) (ck_get kk_Mo_goesAlong 45 rfl) (by decide) (by omega) (fun hc84 => ?_) (fun hc84 => ?_) | refine wp_if_le (t := 97) (ck_get kk_Mo_goesAlong 45 rfl) (by decide) (fun hc84 => ?_) (fun hc84 => ?_)
        · refine l_gaS (cn := cn) hE3 q1 hC1 (by rw [len_app2]; omega) (by omega) hl h58 (by omega) ?_
          intro x0 bk0 hx0
          refine wp_iload rfl (ck_get kk_Mo_goesAlong 41 rfl) ?_
          refine wp_iload_n rfl (ck_get kk_Mo_goesAlong 42 rfl) ?_
          first | refine wp_icmp_geN (t := 143) (ck_get kk_Mo_goesAlong 43 rfl) (by decide) (by omega) (by omega) (fun hc79 => ?_) (fun hc79 => ?_) | refine wp_icmp_ge (t := 143) (ck_get kk_Mo_goesAlong 43 rfl) (by decide) (fun hc79 => ?_) (fun hc79 => ?_)
          · omega
          · refine wp_iload rfl (ck_get kk_Mo_goesAlong 44 rfl) ?_
            first | refine wp_if_leN (t := 97) (ck_get kk_Mo_goesAlong 45 rfl) (by decide) (by omega) (fun hc84 => ?_) (fun hc84 => ?_) | refine wp_if_le (t := 97) (ck_get kk_Mo_goesAlong 45 rfl) (by decide) (fun hc84 => ?_) (fun hc84 => ?_)
            · omega
            · refine wp_aload_n rfl (ck_get kk_Mo_goesAlong 46 rfl) ?_
              refine wp_dup rfl (ck_get kk_Mo_goesAlong 47 rfl) ?_
              refine wp_getIv (v := nI (bs + p1)) (ck_get kk_Mo_goesAlong 48 rfl) fl_Mo_294 (by assumption) (emM_25) ?_
              refine wp_iconst (v := nI 1) (by decide) (ck_get kk_Mo_goesAlong 49 rfl) ?_
              first | refine wp_iaddN (ck_get kk_Mo_goesAlong 50 rfl) ?_ | refine wp_iadd (ck_get kk_Mo_goesAlong 50 rfl) ?_
              refine wp_putI (ck_get kk_Mo_goesAlong 51 rfl) fl_Mo_294 (by decide +kernel) (by assumption) (okI_int _) ?_
              rw [emM_go, Nat.add_assoc]
              refine l_gaS (cn := cn) hE3.ga q2 hC2 (by rw [len_app2]; omega) (by omega) g3 gaM_58 (by omega) ?_
              intro x1 bk1 hx1
              refine wp_iload rfl (ck_get kk_Mo_goesAlong 41 rfl) ?_
              refine wp_iload_n rfl (ck_get kk_Mo_goesAlong 42 rfl) ?_
              first | refine wp_icmp_geN (t := 143) (ck_get kk_Mo_goesAlong 43 rfl) (by decide) (by omega) (by omega) (fun hc79 => ?_) (fun hc79 => ?_) | refine wp_icmp_ge (t := 143) (ck_get kk_Mo_goesAlong 43 rfl) (by decide) (fun hc79 => ?_) (fun hc79 => ?_)
              · omega
              · refine wp_iload rfl (ck_get kk_Mo_goesAlong 44 rfl) ?_
                first | refine wp_if_leN (t := 97) (ck_get kk_Mo_goesAlong 45 rfl) (by decide) (by omega) (fun hc84 => ?_) (fun hc84 => ?_) | refine wp_if_le (t := 97) (ck_get kk_Mo_goesAlong 45 rfl) (by decide) (fun hc84 => ?_) (fun hc84 => ?_)
                · omega
                · refine wp_aload_n rfl (ck_get kk_Mo_goesAlong 46 rfl) ?_
                  refine wp_dup rfl (ck_get kk_Mo_goesAlong 47 rfl) ?_
                  refine wp_getIv (v := nI (bs + p2)) (ck_get kk_Mo_goesAlong 48 rfl) fl_Mo_294 (by assumption) (emM_25) ?_
                  refine wp_iconst (v := nI 1) (by decide) (ck_get kk_Mo_goesAlong 49 rfl) ?_
                  first | refine wp_iaddN (ck_get kk_Mo_goesAlong 50 rfl) ?_ | refine wp_iadd (ck_get kk_Mo_goesAlong 50 rfl) ?_
                  refine wp_putI (ck_get kk_Mo_goesAlong 51 rfl) fl_Mo_294 (by decide +kernel) (by assumption) (okI_int _) ?_
                  rw [emM_go, Nat.add_assoc]
                  refine l_gaS (cn := cn) hE3.ga.ga q3 hC3 (by rw [len_app2]; omega) (by omega) m3 gaM_58 (by omega) ?_
                  intro x2 bk2 hx2
                  refine wp_iload rfl (ck_get kk_Mo_goesAlong 41 rfl) ?_
                  refine wp_iload_n rfl (ck_get kk_Mo_goesAlong 42 rfl) ?_
                  first | refine wp_icmp_geN (t := 143) (ck_get kk_Mo_goesAlong 43 rfl) (by decide) (by omega) (by omega) (fun hc79 => ?_) (fun hc79 => ?_) | refine wp_icmp_ge (t := 143) (ck_get kk_Mo_goesAlong 43 rfl) (by decide) (fun hc79 => ?_) (fun hc79 => ?_)
                  · refine l_ga143 hE3.ga.ga.ga q4 hCn hC4 (by omega) hcn2 r2 r3 ?_
                    intro bk wt hwt
                    obtain ⟨d1, d2, d3, d4, d5, d6, d7, d8⟩ := ga_end (M := M) (o := o) (MM := gaM (gaM (gaM M3 o 0 x0 (true && !bk0)) o 1 x1 ((true && !bk0) && !bk1)) o 2 x2 (((true && !bk0) && !bk1) && !bk2)) (tm := tmV tc tv p3) (go := bs + (j + 1)) (wt := wt) (bk := bk) (((((hR3.j.s (by omega)).j).s (by omega)).j).s (by omega))
                    refine ⟨rfl, d1, d2, d3, ⟨_, tm_le q4, h2, d4⟩, ?_, fun hlive => ⟨((true && !bk0) && !bk1) && !bk2, wt, ?_, d7, hwt hlive, ?_, ?_⟩⟩
                    · rw [d5, gaM_f (by omega), gaM_f (by omega), gaM_f (by omega)]; exact h57
                    · rw [d6, gaM_58]
                    · rw [hks]
                      obtain ⟨y1, y2⟩ := hx0 hlive
                      obtain ⟨y3, y4⟩ := hx1 hlive
                      obtain ⟨y5, y6⟩ := hx2 hlive
                      constructor
                      · intro q c hc
                        cases bk0 <;> cases bk1 <;> cases bk2 <;> first | exact absurd q (by decide) | skip
                        rcases List.mem_cons.mp hc with rfl | hc
                        · rw [y1, if_neg (by decide)]; exact inR_brk (y2 rfl)
                        · rcases List.mem_cons.mp hc with rfl | hc
                          · rw [y3, if_neg (by decide)]; exact inR_brk (y4 rfl)
                          · rw [List.mem_singleton.mp hc, y5, if_neg (by decide)]; exact inR_brk (y6 rfl)
                      · intro q
                        have z1 := q cl (List.mem_cons_self)
                        have z2 := q (cl + u1.length + 2) (List.mem_cons_of_mem _ (List.mem_cons_self))
                        have z3 := q (cl + u1.length + 2 + u2.length + 2) (List.mem_cons_of_mem _ (List.mem_cons_of_mem _ (List.mem_singleton.mpr rfl)))
                        cases bk0 <;> cases bk1 <;> cases bk2 <;> first | rfl | exact absurd (by rw [y1]; rfl) z1 | exact absurd (by rw [y3]; rfl) z2 | exact absurd (by rw [y5]; rfl) z3
                    · intro q r hr
                      rw [hks] at hr ⊢
                      obtain ⟨y1, y2⟩ := hx0 hlive
                      obtain ⟨y3, y4⟩ := hx1 hlive
                      obtain ⟨y5, y6⟩ := hx2 hlive
                      cases bk0 <;> cases bk1 <;> cases bk2 <;> first | exact absurd q (by decide) | skip
                      rw [d8]
                      have hr2 : r < 3 := hr
                      rcases (show r = 0 ∨ r = 1 ∨ r = 2 by omega) with rfl | rfl | rfl
                      · rw [gaM_J, if_neg (by omega), gaM_J, if_neg (by omega), gaM_J, if_pos rfl]
                        exact ⟨by show x0 = ev0 C cn V 11 cl; rw [y1]; rfl, y2 rfl⟩
                      · rw [gaM_J, if_neg (by omega), gaM_J, if_pos rfl]
                        exact ⟨by show x1 = ev0 C cn V 11 (cl + u1.length + 2); rw [y3]; rfl, y4 rfl⟩
                      · rw [gaM_J, if_pos rfl]
                        exact ⟨by show x2 = ev0 C cn V 11 (cl + u1.length + 2 + u2.length + 2); rw [y5]; rfl, y6 rfl⟩
                  · omega
        · omega
    · -- none
      have hn2 : n = 0 := by rw [hn, if_pos hk]
      subst hn2
      subst hsg hlf
      rw [List.nil_append] at hC hcl
      rw [List.length_nil, Nat.add_zero] at hCn
      have hks : ksO e = [] := by unfold ksO; rw [if_pos h1]
      refine wp_iload rfl (ck_get kk_Mo_goesAlong 41 rfl) ?_
      refine wp_iload_n rfl (ck_get kk_Mo_goesAlong 42 rfl) ?_
      first | refine wp_icmp_geN (t := 143) (ck_get kk_Mo_goesAlong 43 rfl) (by decide) (by omega) (by omega) (fun hc79 => ?_) (fun hc79 => ?_) | refine wp_icmp_ge (t := 143) (ck_get kk_Mo_goesAlong 43 rfl) (by decide) (fun hc79 => ?_) (fun hc79 => ?_)
      · refine l_ga143 hE3 q1 hCn hC hcl hcn2 (by omega) hl ?_
        intro bk wt hwt
        obtain ⟨d1, d2, d3, d4, d5, d6, d7, d8⟩ := ga_end (M := M) (o := o) (MM := M3) (tm := tmV tc tv (i + 1)) (go := bs + (j + 1)) (wt := wt) (bk := bk) hR3
        refine ⟨rfl, d1, d2, d3, ⟨_, tm_le q1, h2, d4⟩, by rw [d5]; exact h57, fun hlive => ⟨true, wt, by rw [d6]; exact h58, d7, hwt hlive, ?_, ?_⟩⟩
        · rw [hks]; exact ⟨fun _ c hc => absurd hc List.not_mem_nil, fun _ => rfl⟩
        · intro _ r hr; rw [hks] at hr; exact absurd hr (Nat.not_lt_zero _)
      · omega
  have to3 : mT M3 o = (11, 0) := hE3.1.1
  refine cw_entry 2 pf_Mo_goesAlong rfl ?_
  refine wp_aload_n rfl (ck_get kk_Mo_goesAlong 0 rfl) ?_
  refine wp_iconst (v := nI 1) (by decide) (ck_get kk_Mo_goesAlong 1 rfl) ?_
  refine wp_putI (ck_get kk_Mo_goesAlong 2 rfl) fl_Mo_324 (by decide +kernel) (by assumption) (by first | exact okI_b0 | exact okI_b1) ?_
  refine wp_aload_n rfl (ck_get kk_Mo_goesAlong 3 rfl) ?_
  refine wp_iload_n rfl (ck_get kk_Mo_goesAlong 4 rfl) ?_
  refine wp_putI (ck_get kk_Mo_goesAlong 5 rfl) fl_Mo_291 (by decide +kernel) (by assumption) (okI_int _) ?_
  refine wp_aload_n rfl (ck_get kk_Mo_goesAlong 6 rfl) ?_
  refine wp_aload_n rfl (ck_get kk_Mo_goesAlong 7 rfl) ?_
  refine wp_getIv (v := nI (bs + i)) (ck_get kk_Mo_goesAlong 8 rfl) fl_Mo_515 (by assumption) (by show up2 (up2 (mI M) o 28 (nI 1)) o 26 (nI ge) o 55 = _; simp only [up2]; rw [if_neg (by omega), if_neg (by omega)]; exact h55) ?_
  refine wp_putI (ck_get kk_Mo_goesAlong 9 rfl) fl_Mo_294 (by decide +kernel) (by assumption) (okI_int _) ?_
  rw [hem]
  refine wp_aload_n rfl (ck_get kk_Mo_goesAlong 10 rfl) ?_
  refine wp_aload_n rfl (ck_get kk_Mo_goesAlong 11 rfl) ?_
  refine wp_aload_n rfl (ck_get kk_Mo_goesAlong 12 rfl) ?_
  refine wp_getIv (v := nI (bs + i)) (ck_get kk_Mo_goesAlong 13 rfl) fl_Mo_294 (by assumption) (emM_25) ?_
  refine wp_cV1i (ck_get kk_Mo_goesAlong 14 rfl) ml_Mo_297 (by omega) (Nat.le_of_ble_eq_true rfl) (by assumption) (Ci.to (hcA) ?_)
  rintro _ M1 ⟨rfl, eqm1⟩
  obtain rfl := eqm1.symm
  refine wp_putI (ck_get kk_Mo_goesAlong 15 rfl) fl_Mo_524 (by decide +kernel) (by assumption) (okI_int _) ?_
  rw [emM_s (by omega) (by omega)]
  refine wp_aload_n rfl (ck_get kk_Mo_goesAlong 16 rfl) ?_
  refine wp_dup rfl (ck_get kk_Mo_goesAlong 17 rfl) ?_
  refine wp_getIv (v := nI (bs + i)) (ck_get kk_Mo_goesAlong 18 rfl) fl_Mo_294 (by assumption) (emM_25) ?_
  refine wp_iconst (v := nI 1) (by decide) (ck_get kk_Mo_goesAlong 19 rfl) ?_
  first | refine wp_iaddN (ck_get kk_Mo_goesAlong 20 rfl) ?_ | refine wp_iadd (ck_get kk_Mo_goesAlong 20 rfl) ?_
  refine wp_putI (ck_get kk_Mo_goesAlong 21 rfl) fl_Mo_294 (by decide +kernel) (by assumption) (okI_int _) ?_
  rw [emM_go, Nat.add_assoc]
  refine wp_aload_n rfl (ck_get kk_Mo_goesAlong 22 rfl) ?_
  refine wp_iconst (v := nI 1) (by decide) (ck_get kk_Mo_goesAlong 23 rfl) ?_
  refine wp_putI (ck_get kk_Mo_goesAlong 24 rfl) fl_Mo_527 (by decide +kernel) (by assumption) (by first | exact okI_b0 | exact okI_b1) ?_
  rw [emM_s (by omega) (by omega), hM3]
  refine wp_aload_n rfl (ck_get kk_Mo_goesAlong 25 rfl) ?_
  refine wp_getIv (v := nI (tc i)) (ck_get kk_Mo_goesAlong 26 rfl) fl_Mo_524 (by assumption) (by rw [emM_f (by omega) (by omega)]; exact h57) ?_
  refine wp_bipush (v := nI 22) (by decide) (ck_get kk_Mo_goesAlong 27 rfl) ?_
  first | refine wp_icmp_neN (t := 58) (ck_get kk_Mo_goesAlong 28 rfl) (by decide) (by omega) (by omega) (fun hc51 => ?_) (fun hc51 => ?_) | refine wp_icmp_ne (t := 58) (ck_get kk_Mo_goesAlong 28 rfl) (by decide) (fun hc51 => ?_) (fun hc51 => ?_)
  · refine wp_aload_n rfl (ck_get kk_Mo_goesAlong 31 rfl) ?_
    refine wp_getIv (v := nI (tc i)) (ck_get kk_Mo_goesAlong 32 rfl) fl_Mo_524 (by assumption) (by rw [emM_f (by omega) (by omega)]; exact h57) ?_
    refine wp_bipush (v := nI 19) (by decide) (ck_get kk_Mo_goesAlong 33 rfl) ?_
    first | refine wp_icmp_neN (t := 71) (ck_get kk_Mo_goesAlong 34 rfl) (by decide) (by omega) (by omega) (fun hc64 => ?_) (fun hc64 => ?_) | refine wp_icmp_ne (t := 71) (ck_get kk_Mo_goesAlong 34 rfl) (by decide) (fun hc64 => ?_) (fun hc64 => ?_)
    · refine wp_iconst (v := nI 2) (by decide) (ck_get kk_Mo_goesAlong 37 rfl) ?_
      refine wp_istore_n (ck_get kk_Mo_goesAlong 38 rfl) (by decide) rfl ?_
      refine wp_iconst (v := nI 0) (by decide) (ck_get kk_Mo_goesAlong 39 rfl) ?_
      refine wp_istore (ck_get kk_Mo_goesAlong 40 rfl) (by decide) rfl ?_
      exact hmain _ (by rw [if_neg (by omega), if_neg (by omega)])
    · refine wp_iconst (v := nI 3) (by decide) (ck_get kk_Mo_goesAlong 35 rfl) ?_
      refine wp_goto (t := 72) (ck_get kk_Mo_goesAlong 36 rfl) (by decide) ?_
      refine wp_istore_n (ck_get kk_Mo_goesAlong 38 rfl) (by decide) rfl ?_
      refine wp_iconst (v := nI 0) (by decide) (ck_get kk_Mo_goesAlong 39 rfl) ?_
      refine wp_istore (ck_get kk_Mo_goesAlong 40 rfl) (by decide) rfl ?_
      exact hmain _ (by rw [if_neg (by omega), if_pos (by omega)])
  · refine wp_iconst (v := nI 0) (by decide) (ck_get kk_Mo_goesAlong 29 rfl) ?_
    refine wp_goto (t := 72) (ck_get kk_Mo_goesAlong 30 rfl) (by decide) ?_
    refine wp_istore_n (ck_get kk_Mo_goesAlong 38 rfl) (by decide) rfl ?_
    refine wp_iconst (v := nI 0) (by decide) (ck_get kk_Mo_goesAlong 39 rfl) ?_
    refine wp_istore (ck_get kk_Mo_goesAlong 40 rfl) (by decide) rfl ?_
    exact hmain _ (by rw [if_pos (by omega)])
end GAM

/-! ===== the model's numbers are the code's ===== -/
def bJ (v : Bool) : Int64 := if v then 1 else 0
/-- a number that an int can hold, and that is not broken -/
def inR (v : Int64) : Prop := -2000000000 < v.toInt ∧ v.toInt < 2147483648
theorem inR_brk {v : Int64} (h : inR v) : ¬ v = brk := by
  intro e
  rw [e] at h
  have h3 : brk.toInt = -2000000000 := by decide
  have := h.1
  omega
theorem inR_bb {v : Int64} {b : Bool} (h : bbr v true b = false) : inR v := by
  unfold bbr at h
  rw [Bool.true_and, Bool.or_eq_false_iff, Bool.or_eq_false_iff] at h
  have h1 := of_decide_eq_false h.2.1
  have h2 := of_decide_eq_false h.2.2
  have a : ¬ (1000000000 : Int64).toInt < v.toInt := fun q => h1 (Int64.lt_iff_toInt_lt.mpr q)
  have b : ¬ v.toInt < (-1000000000 : Int64).toInt := fun q => h2 (Int64.lt_iff_toInt_lt.mpr q)
  have c : (1000000000 : Int64).toInt = 1000000000 := by decide
  have d : (-1000000000 : Int64).toInt = -1000000000 := by decide
  constructor <;> omega
/-- what the model's memory holds while it goes along tokens -/
def EvH (M : Mem) (o ge bs N : Nat) (tc tv : Nat → Nat) (od : Bool) (V : Nat → Int32) (vn : Nat) : Prop := MoAt (mT M) (mR M) o ∧ mI M o 26 = nI ge ∧ ge = bs + N ∧ ge ≤ 2800 ∧ (∀ i, i < N → mI M (o + 2) (395 + (bs + i)) = nI (tc i) ∧ ∃ v, mI M (o + 2) (3195 + (bs + i)) = nI v ∧ v < 20000000 ∧ (tc i = 50 → min v 1001 = tv i)) ∧ (∀ i, tc i ≠ 0 → i < N) ∧ (∀ i, tc i < 400) ∧
  (od = false → mI M o 28 = 0 ∧ vn = 6 ∧ ∀ c, 7 ≤ c → c ≤ 12 → V (wIx false c 0) = mI M (o + 15) (c - 7)) ∧
  (od = true → mI M o 28 = nI 1 ∧ vn = 11 ∧ V 0 = mI M (o + 2) 368 ∧ V 1 = mI M o 30 ∧ V 2 = mI M o 31 ∧ ∀ k, k < 4 → V (3 + k) = mI M (o + 2) (92 * k + 25) ∧ V (7 + k) = mI M (o + 2) (92 * k)) ∧
  ∀ k, k < vn → -1 ≤ (V k).toInt
def ES (g : Gl) (M : Mem) (o bs N : Nat) (tc tv : Nat → Nat) (od : Bool) (C : Nat → Int32) (cn : Nat) (V : Nat → Int32) (vn : Nat) (Y : Meth) (nt lv sl f : Nat) : Prop := ∀ (d i lf cl j lf2 : Nat) (sg : List Int32), d ≤ 8 → psr tc tv od f nt d i lf cl = (true, j, lf2, sg) → Hd C cl sg → cl + sg.length ≤ cn → i ≤ N → lf ≤ 50 → ∃ (v : Int64) (bk : Bool), (bk = false → inR v) ∧ Cl g Y (10 * (9 - d) + lv) [.ref o, .int (bI true)] (emM M o (bs + i) false) (fun x M2 => x = (if bk = true then 0 else v) ∧ M2 = emM M o (bs + j) bk) ∧ (∀ live b : Bool, live = false ∨ b = true → Cl g Y (10 * (9 - d) + lv) [.ref o, .int (bI live)] (emM M o (bs + i) b) (fun x M2 => x = 0 ∧ M2 = emM M o (bs + j) b)) ∧ ∀ (sz : Nat) (S : Nat → Int64), sz + 2 * (8 - d) + sl ≤ 64 → evN C cn V vn cl sz S = if bk = true then brk else evN C cn V vn (cl + sg.length) (sz + 1) (up1 S sz v)
def ER (g : Gl) (M : Mem) (o bs N : Nat) (tc tv : Nat → Nat) (od : Bool) (C : Nat → Int32) (cn : Nat) (V : Nat → Int32) (vn : Nat) (Y : Meth) (nt lv sl f : Nat) : Prop := ∀ (d i lf cl j lf2 : Nat) (sg : List Int32) (v0 : Int64), d ≤ 8 → psr tc tv od f nt d i lf cl = (true, j, lf2, sg) → Hd C cl sg → cl + sg.length ≤ cn → i ≤ N → lf ≤ 50 → ∃ (v : Int64) (bk : Bool), (inR v0 → bk = false → inR v) ∧ (∀ y4 y5 y6 : Option Value, Wp g Y (10 * (9 - d) + lv) 6 [some (.ref o), some (.int (bI true)), some (.long v0), none, y4, y5, y6] [] (emM M o (bs + i) false) (emQ M o (if bk = true then 0 else v) (bs + j) bk)) ∧ (∀ (live b : Bool) (y4 y5 y6 : Option Value), live = false ∨ b = true → Wp g Y (10 * (9 - d) + lv) 6 [some (.ref o), some (.int (bI live)), some (.long 0), none, y4, y5, y6] [] (emM M o (bs + i) b) (emQ M o 0 (bs + j) b)) ∧ ∀ (sz : Nat) (S : Nat → Int64), S sz = v0 → sz + 2 * (8 - d) + sl ≤ 64 → evN C cn V vn cl (sz + 1) S = if bk = true then brk else evN C cn V vn (cl + sg.length) (sz + 1) (up1 S sz v)
def EB (g : Gl) (M : Mem) (o bs N : Nat) (tc tv : Nat → Nat) (od : Bool) (C : Nat → Int32) (cn : Nat) (V : Nat → Int32) (vn : Nat) (Y : Meth) (lv sl d i cl j : Nat) (sg : List Int32) : Prop := ∃ (v bk : Bool), Ci g Y (10 * (9 - d) + lv) [.ref o, .int (bI true)] (emM M o (bs + i) false) (fun x M2 => x = bI v ∧ M2 = emM M o (bs + j) bk) ∧ (∀ live b : Bool, live = false ∨ b = true → ∃ w, Ci g Y (10 * (9 - d) + lv) [.ref o, .int (bI live)] (emM M o (bs + i) b) (fun x M2 => x = bI w ∧ M2 = emM M o (bs + j) b)) ∧ ∀ (sz : Nat) (S : Nat → Int64), sz + 2 * (8 - d) + sl ≤ 64 → evN C cn V vn cl sz S = if bk = true then brk else evN C cn V vn (cl + sg.length) (sz + 1) (up1 S sz (bJ v))
def ET (g : Gl) (M : Mem) (o bs N : Nat) (tc tv : Nat → Nat) (od : Bool) (C : Nat → Int32) (cn : Nat) (V : Nat → Int32) (vn : Nat) (Y : Meth) (nt lv f : Nat) : Prop := ∀ (d i lf cl j lf2 : Nat) (sg : List Int32), d ≤ 8 → psr tc tv od f nt d i lf cl = (true, j, lf2, sg) → Hd C cl sg → cl + sg.length ≤ cn → cn ≤ 1024 → i ≤ N → lf ≤ 50 → EB g M o bs N tc tv od C cn V vn Y lv 4 d i cl j sg
def EU (g : Gl) (M : Mem) (o bs N : Nat) (tc tv : Nat → Nat) (od : Bool) (C : Nat → Int32) (cn : Nat) (V : Nat → Int32) (vn : Nat) (Y : Meth) (nt lv f : Nat) : Prop := ∀ (d i lf cl j lf2 : Nat) (sg : List Int32) (v0 : Bool), d ≤ 8 → psr tc tv od f nt d i lf cl = (true, j, lf2, sg) → Hd C cl sg → cl + sg.length ≤ cn → cn ≤ 1024 → i ≤ N → lf ≤ 50 → ∃ (v bk : Bool), (∀ y3 : Option Value, Wp g Y (10 * (9 - d) + lv) 6 [some (.ref o), some (.int (bI true)), some (.int (bI v0)), y3] [] (emM M o (bs + i) false) (emB M o v (bs + j) bk)) ∧ (∀ (live b w0 : Bool), live = false ∨ b = true → ∃ w, ∀ y3 : Option Value, Wp g Y (10 * (9 - d) + lv) 6 [some (.ref o), some (.int (bI live)), some (.int (bI w0)), y3] [] (emM M o (bs + i) b) (emB M o w (bs + j) b)) ∧ ∀ (sz : Nat) (S : Nat → Int64), S sz = bJ v0 → sz + 2 * (8 - d) + 4 ≤ 64 → evN C cn V vn cl (sz + 1) S = if bk = true then brk else evN C cn V vn (cl + sg.length) (sz + 1) (up1 S sz (bJ v))
def EP (g : Gl) (M : Mem) (o bs N : Nat) (tc tv : Nat → Nat) (od : Bool) (C : Nat → Int32) (cn : Nat) (V : Nat → Int32) (vn : Nat) (f : Nat) : Prop := ∀ (d i lf cl j lf2 : Nat) (sg : List Int32) (no : Bool), d ≤ 8 → psr tc tv od f (if no = true then 6 else 5) d i lf cl = (true, j, lf2, sg) → Hd C cl sg → cl + sg.length ≤ cn → cn ≤ 1024 → i ≤ N → lf ≤ 50 → ∃ (v bk : Bool), Wp g Y_Mo_plainOf (10 * (9 - d) + 6) 2 [some (.ref o), some (.int (bI true)), some (.int (bI no))] [] (emM M o (bs + i) false) (emB M o v (bs + j) bk) ∧ (∀ (live b w0 : Bool), live = false ∨ b = true → ∃ w, Wp g Y_Mo_plainOf (10 * (9 - d) + 6) 2 [some (.ref o), some (.int (bI live)), some (.int (bI w0))] [] (emM M o (bs + i) b) (emB M o w (bs + j) b)) ∧ ∀ (sz : Nat) (S : Nat → Int64), sz + 2 * (8 - d) + 4 ≤ 64 → evN C cn V vn cl sz S = if bk = true then brk else evN C cn V vn (cl + sg.length) (sz + 1) (up1 S sz (bJ v))
section EVA
variable {g : Gl} {M : Mem} {o ge bs N : Nat} {tc tv : Nat → Nat} {od : Bool} {C : Nat → Int32} {cn : Nat} {V : Nat → Int32} {vn f : Nat}
theorem ev_tcd (hE : EvH M o ge bs N tc tv od V vn) {i : Nat} (hi : i ≤ N) : tcd (mI M (o + 2)) ge (bs + i) = nI (tc i) := by
  obtain ⟨hM, hge, hg1, hg2, hK, hN, -⟩ := hE
  unfold tcd
  by_cases h : i < N
  · rw [if_pos (by omega)]; exact (hK i h).1
  · rw [if_neg (by omega)]
    have h0 : tc i = 0 := Decidable.byContradiction fun q => h (hN i q)
    rw [h0]
theorem ev_ne (hE : EvH M o ge bs N tc tv od V vn) {i c : Nat} (hi : i ≤ N) (hc : c < 400) (h : ¬ tc i = c) : ¬ tcd (mI M (o + 2)) ge (bs + i) = nI c := by
  rw [ev_tcd hE hi]
  have := hE.2.2.2.2.2.2.1 i
  exact nIne (by omega) (by omega) h
theorem ev_eq (hE : EvH M o ge bs N tc tv od V vn) {i c : Nat} (hi : i ≤ N) (h : tc i = c) : tcd (mI M (o + 2)) ge (bs + i) = nI c := by rw [ev_tcd hE hi, h]
theorem lvd_live {v : Int64} : lvd true false v = v := rfl
theorem lvd_dead {live b : Bool} {v : Int64} (h : live = false ∨ b = true) : lvd live b v = 0 := by
  unfold lvd
  rw [if_neg]
  rintro ⟨h1, h2⟩
  rcases h with rfl | rfl
  · exact Bool.false_ne_true h1
  · exact Bool.false_ne_true h2.symm
theorem i32_in (x : Int32) (h : -1 ≤ x.toInt) : inR x.toInt64 := by
  unfold inR
  rw [Int32.toInt_toInt64]
  have h2 := Int32.le_toInt x
  have h3 := Int32.toInt_lt x
  constructor <;> omega
theorem ev_ix {i : Nat} (hE : EvH M o ge bs N tc tv od V vn) (hi : i ≤ N) : bs + i < 100000 := by
  have := hE.2.2.1; have := hE.2.2.2.1; omega
theorem es_part (hE : EvH M o ge bs N tc tv od V vn) (h1 : ES g M o bs N tc tv od C cn V vn Y_Mo_sumOf 4 4 3 f) : ES g M o bs N tc tv od C cn V vn Y_Mo_partOf 0 2 1 (f + 1) := by
  intro d i lf cl j lf2 sg hd h hC hcn hi hl
  have hE0 := hE
  obtain ⟨hM, hge, hg1, hg2, hK, hN, hT4, hlaw, hord, hV⟩ := hE
  rw [psr_0] at h
  by_cases h0 : tc i = 191
  · rw [if_pos h0] at h
    have hiN := hN i (by omega)
    by_cases h8 : 8 ≤ d
    · rw [if_pos h8] at h; exact (fls_tru h).elim
    rw [if_neg h8] at h
    obtain ⟨j1, l1, s1, e1, h2⟩ := pbd_t h
    by_cases hj : tc j1 = 193
    · rw [if_pos hj] at h2
      obtain ⟨rfl, rfl, rfl⟩ := tru_inj h2
      obtain ⟨v, bk, a0, a1, a2, a3⟩ := h1 (d + 1) (i + 1) lf cl j1 l1 s1 (by omega) e1 hC hcn (by omega) hl
      refine ⟨v, bk, a0, ?_, fun live b hb => ?_, fun sz S hs => a3 sz S (by omega)⟩
      · exact me_partBr (n := 10 * (9 - d) + 1) hM hge hg2 (ev_ix hE0 hi) (ev_eq hE0 hi h0) (by omega) (Cw.le (by omega) a1)
      · exact me_partBr (n := 10 * (9 - d) + 1) hM hge hg2 (ev_ix hE0 hi) (ev_eq hE0 hi h0) (by omega) (Cw.le (by omega) (a2 live b hb))
    · rw [if_neg hj] at h2; exact (fls_tru h2).elim
  rw [if_neg h0] at h
  by_cases hn : tc i = 50 ∧ tv i ≤ 1000
  · rw [if_pos hn] at h
    have hiN := hN i (by omega)
    by_cases h5 : 50 ≤ lf
    · rw [if_pos h5] at h; exact (fls_tru h).elim
    rw [if_neg h5] at h
    obtain ⟨rfl, rfl, rfl⟩ := tru_inj h
    obtain ⟨k1, v, k2, k3, k4⟩ := hK i hiN
    have k5 := k4 hn.1
    have k6 : v = tv i := by omega
    obtain ⟨c1, c2⟩ := hC.two
    refine ⟨(nI (tv i)).toInt64, false, fun _ => i32_in _ (by rw [nI_toInt (by omega)]; omega), ?_, fun live b hb => ?_, fun sz S hs => ?_⟩
    · have q := me_partNum (g := g) (live := true) (b := false) (n := 10 * (9 - d)) hM hge hg2 (by omega) (ev_eq hE0 hi hn.1)
      rw [k2, k6] at q
      exact q
    · have q := me_partNum (g := g) (live := live) (b := b) (n := 10 * (9 - d)) hM hge hg2 (by omega) (ev_eq hE0 hi hn.1)
      rw [lvd_dead hb] at q
      exact q
    · rw [evN_num (show cl + 1 < cn from hcn) c1 (by omega), c2]; rfl
  rw [if_neg hn] at h
  by_cases hw : isLW od (tc i) = true
  · rw [if_pos hw] at h
    have hw2 := isLW_lt hw
    have hiN := hN i (by omega)
    by_cases h5 : 50 ≤ lf
    · rw [if_pos h5] at h; exact (fls_tru h).elim
    rw [if_neg h5] at h
    by_cases ho : od = true
    · subst ho
      obtain ⟨h28, hvn, v0, v1, v2, v3⟩ := hord rfl
      have hw3 := isLW_15 hw rfl
      by_cases hc : 15 ≤ tc i
      · rw [if_pos ⟨rfl, hc⟩] at h
        by_cases hq : tc (i + 1) = 50 ∧ tv (i + 1) < 4
        · rw [if_pos hq] at h
          obtain ⟨rfl, rfl, rfl⟩ := tru_inj h
          have hiN2 := hN (i + 1) (by omega)
          obtain ⟨k1, v, k2, k3, k4⟩ := hK (i + 1) hiN2
          have k5 := k4 hq.1
          have k6 : v = tv (i + 1) := by omega
          rw [k6, ← Nat.add_assoc bs] at k2
          obtain ⟨c1, c2⟩ := hC.two
          obtain ⟨w3, w7⟩ := v3 (tv (i + 1)) hq.2
          have hov : ∀ b, Ci g Y_Mo_orderValue 1 [.ref o, .int (nI (tc i)), .int (nI (tv (i + 1)))] (emM M o (bs + i + 2) b) (fun x M2 => x = V (wIx true (tc i) (tv (i + 1))) ∧ M2 = emM M o (bs + i + 2) b) := by
            intro b
            by_cases h15 : tc i = 15
            · rw [h15, show wIx true 15 (tv (i + 1)) = 3 + tv (i + 1) from rfl, w3]
              exact m_ov15 hM hq.2
            · have h16 : tc i = 16 := by omega
              rw [h16, show wIx true 16 (tv (i + 1)) = 7 + tv (i + 1) from rfl, w7]
              exact m_ov16 hM hq.2
          have hu : wIx true (tc i) (tv (i + 1)) < 11 := by rw [← wIx_add hc hw3.2.1]; unfold wIx; rw [if_pos rfl]; by_cases h15 : tc i = 15; rw [if_pos h15]; omega; rw [if_neg h15, if_pos (by omega)]; omega
          refine ⟨(V (wIx true (tc i) (tv (i + 1)))).toInt64, false, fun _ => i32_in _ (hV _ (by rw [hvn]; exact hu)), ?_, fun live b hb => ?_, fun sz S hs => ?_⟩
          · exact me_partOrdK (n := 10 * (9 - d)) hM hge hg2 (by omega) h28 (by omega) (ev_tcd hE0 hi) k2 (hov false)
          · have q := me_partOrdK (g := g) (live := live) (b := b) (n := 10 * (9 - d)) hM hge hg2 (by omega) h28 (by omega) (ev_tcd hE0 hi) k2 (hov b)
            rw [lvd_dead hb] at q
            exact q
          · rw [evN_word (show cl + 1 < cn from hcn) c1 c2 (by omega) (by omega) (by omega)]; rfl
        · rw [if_neg hq] at h; exact (fls_tru h).elim
      · rw [if_neg (fun q => hc q.2)] at h
        obtain ⟨rfl, rfl, rfl⟩ := tru_inj h
        obtain ⟨c1, c2⟩ := hC.two
        have hx : wIx true (tc i) 0 = tc i - 12 := by unfold wIx; rw [if_pos rfl, if_neg (by omega), if_neg (by omega)]
        have hov : ∀ b, Ci g Y_Mo_orderValue 1 [.ref o, .int (nI (tc i)), .int (nI 0)] (emM M o (bs + i + 1) b) (fun x M2 => x = V (wIx true (tc i) 0) ∧ M2 = emM M o (bs + i + 1) b) := by
          intro b
          rw [hx]
          rcases (show tc i = 12 ∨ tc i = 13 ∨ tc i = 14 by omega) with q | q | q
          · rw [q, show 12 - 12 = 0 from rfl, v0]; exact m_ov12 hM
          · rw [q, show 13 - 12 = 1 from rfl, v1]; exact m_ov13 hM
          · rw [q, show 14 - 12 = 2 from rfl, v2]; exact m_ov14 hM
        refine ⟨(V (wIx true (tc i) 0)).toInt64, false, fun _ => i32_in _ (hV _ (by rw [hvn, hx]; omega)), ?_, fun live b hb => ?_, fun sz S hs => ?_⟩
        · exact me_partOrd (n := 10 * (9 - d)) hM hge hg2 (by omega) h28 (by omega) (ev_tcd hE0 hi) (hov false)
        · have q := me_partOrd (g := g) (live := live) (b := b) (n := 10 * (9 - d)) hM hge hg2 (by omega) h28 (by omega) (ev_tcd hE0 hi) (hov b)
          rw [lvd_dead hb] at q
          exact q
        · rw [evN_word (show cl + 1 < cn from hcn) c1 c2 (by omega) (by omega) (by omega)]; rfl
    · rw [if_neg (fun q => ho q.1)] at h
      have ho2 : od = false := by cases od; rfl; exact absurd rfl ho
      subst ho2
      obtain ⟨h28, hvn, hv⟩ := hlaw rfl
      have hr : 7 ≤ tc i ∧ tc i ≤ 12 := of_decide_eq_true hw
      obtain ⟨rfl, rfl, rfl⟩ := tru_inj h
      obtain ⟨c1, c2⟩ := hC.two
      have hvi := hv (tc i) hr.1 hr.2
      have hu : wIx false (tc i) 0 < 6 := by
        unfold wIx
        rw [if_neg (by decide)]
        by_cases h11 : tc i = 11
        · rw [if_pos h11]; omega
        rw [if_neg h11]
        by_cases h12 : tc i = 12
        · rw [if_pos h12]; omega
        rw [if_neg h12]; omega
      have htk : tcd (mI M (o + 2)) ge (bs + i) = nI (7 + (tc i - 7)) := by rw [ev_tcd hE0 hi]; congr 1; omega
      refine ⟨(V (wIx false (tc i) 0)).toInt64, false, fun _ => i32_in _ (hV _ (by rw [hvn]; exact hu)), ?_, fun live b hb => ?_, fun sz S hs => ?_⟩
      · rw [hvi]
        exact me_partLaw (n := 10 * (9 - d)) hM hge hg2 (by omega) h28 (by omega) htk
      · have q := me_partLaw (g := g) (live := live) (b := b) (n := 10 * (9 - d)) hM hge hg2 (by omega) h28 (by omega) htk
        rw [lvd_dead hb] at q
        exact q
      · rw [evN_word (show cl + 1 < cn from hcn) c1 c2 (by omega) (by omega) (by omega)]; rfl
  · rw [if_neg hw] at h; exact (fls_tru h).elim
theorem cb_142 (v0 w : Int64) : cmb 42 v0 w = (if bbr (v0 * w) true false = true then brk else v0 * w) ∧ (bbr (v0 * w) true false = false → ¬ (v0 * w) = brk) := by
  have e : cmb 42 v0 w = bnd (v0 * w) := by unfold cmb; simp
  rw [e]
  exact bnd_bb
theorem cb_147 (v0 w : Int64) : cmb 47 v0 w = (if bbr (v0 / dvw w) true (dvb w true false) = true then brk else v0 / dvw w) ∧ (bbr (v0 / dvw w) true (dvb w true false) = false → ¬ (v0 / dvw w) = brk) := by
  have e : cmb 47 v0 w = if w = 0 then brk else bnd (v0 / w) := by unfold cmb; simp
  rw [e]
  by_cases hw : w = 0
  · have e1 : dvb w true false = true := by unfold dvb; rw [decide_eq_true hw]; rfl
    rw [if_pos hw, e1]
    exact ⟨rfl, fun q => absurd q (by simp [bbr])⟩
  · have e1 : dvb w true false = false := by unfold dvb; rw [decide_eq_false hw]; rfl
    have e2 : dvw w = w := by unfold dvw; rw [if_neg hw]
    rw [if_neg hw, e1, e2]
    exact bnd_bb
theorem cb_137 (v0 w : Int64) : cmb 37 v0 w = (if bbr (v0 - v0 / dvw w * dvw w) true (dvb w true false) = true then brk else v0 - v0 / dvw w * dvw w) ∧ (bbr (v0 - v0 / dvw w * dvw w) true (dvb w true false) = false → ¬ (v0 - v0 / dvw w * dvw w) = brk) := by
  have e : cmb 37 v0 w = if w = 0 then brk else bnd (v0 - v0 / w * w) := by unfold cmb; simp
  rw [e]
  by_cases hw : w = 0
  · have e1 : dvb w true false = true := by unfold dvb; rw [decide_eq_true hw]; rfl
    rw [if_pos hw, e1]
    exact ⟨rfl, fun q => absurd q (by simp [bbr])⟩
  · have e1 : dvb w true false = false := by unfold dvb; rw [decide_eq_false hw]; rfl
    have e2 : dvw w = w := by unfold dvw; rw [if_neg hw]
    rw [if_neg hw, e1, e2]
    exact bnd_bb
theorem er_term (hE : EvH M o ge bs N tc tv od V vn) (h1 : ES g M o bs N tc tv od C cn V vn Y_Mo_partOf 0 2 1 f) (h2 : ER g M o bs N tc tv od C cn V vn Y_Mo_termOf 1 3 2 f) : ER g M o bs N tc tv od C cn V vn Y_Mo_termOf 1 3 2 (f + 1) := by
  intro d i lf cl j lf2 sg v0 hd h hC hcn hi hl
  have hE0 := hE
  obtain ⟨hM, hge, hg1, hg2, hK, hN, hT4, hlaw, hord⟩ := hE
  rw [psr_1] at h
  by_cases h0 : tc i = 142 ∨ tc i = 147 ∨ tc i = 137
  · rw [if_pos h0] at h
    have hiN := hN i (by omega)
    obtain ⟨j1, l1, s1, e1, h3⟩ := pbd_t h
    obtain ⟨j2, l2, s2, e2, h4⟩ := pbd_t h3
    obtain ⟨rfl, rfl, rfl⟩ := tru_inj h4
    obtain ⟨g1, g2, g3, g4, g5⟩ := psr_ok (N := N) hN f 0 d (i + 1) lf cl j1 l1 s1 (by omega) e1 (by omega) hl
    have hln : ((s1 ++ [nI (tc i - 100), nI 0]) ++ s2).length = s1.length + 2 + s2.length := by rw [List.length_append, len_app2]
    rw [hln] at hcn
    have hC1 := hC.l.l
    obtain ⟨c1, c2⟩ := hC.l.r.two
    have hC2 := hC.r
    rw [len_app2, ← Nat.add_assoc] at hC2 e2
    obtain ⟨w, bk1, a0, a1, a2, a3⟩ := h1 d (i + 1) lf cl j1 l1 s1 hd e1 hC1 (by omega) (by omega) hl
    have hix := ev_ix hE0 hi
    by_cases hs0 : tc i = 142
    · rw [hs0] at c1
      obtain ⟨q1, q2⟩ := cb_142 v0 w
      have dead : ∀ (live b : Bool) (y4 y5 y6 : Option Value), live = false ∨ b = true → Wp g Y_Mo_termOf (10 * (9 - d) + 3) 6 [some (.ref o), some (.int (bI live)), some (.long 0), none, y4, y5, y6] [] (emM M o (bs + i) b) (emQ M o 0 (bs + j2) b) := by
        intro live b y4 y5 y6 hb
        refine me_termMul (n := 10 * (9 - d) + 2) (w := 0) hM hge hg2 hix (ev_eq hE0 hi hs0) (a2 live b hb) ?_
        intro z4 z5 z6
        rw [show (0 * 0 : Int64) = 0 by decide, (bb_dead hb).1, (bb_dead hb).2]
        exact (h2 d j1 l1 _ j2 l2 s2 0 hd e2 hC2 (by omega) g2 g3).choose_spec.choose_spec.2.2.1 live b z4 z5 z6 hb
      cases bk1 with
      | true =>
        refine ⟨0, true, fun _ q => Bool.noConfusion q, fun y4 y5 y6 => ?_, dead, fun sz S hv hs => ?_⟩
        · refine me_termMul (n := 10 * (9 - d) + 2) (w := 0) hM hge hg2 hix (ev_eq hE0 hi hs0) a1 ?_
          intro z4 z5 z6
          rw [bb_brk.1, bb_brk.2]
          exact (h2 d j1 l1 _ j2 l2 s2 0 hd e2 hC2 (by omega) g2 g3).choose_spec.choose_spec.2.2.1 true true z4 z5 z6 (Or.inr rfl)
        · rw [a3 (sz + 1) S (by omega)]; rfl
      | false =>
        cases hbr : bbr (v0 * w) true false with
        | true =>
          refine ⟨0, true, fun _ q => Bool.noConfusion q, fun y4 y5 y6 => ?_, dead, fun sz S hv hs => ?_⟩
          · refine me_termMul (n := 10 * (9 - d) + 2) (w := w) hM hge hg2 hix (ev_eq hE0 hi hs0) a1 ?_
            intro z4 z5 z6
            rw [hbr, bbv_br hbr]
            exact (h2 d j1 l1 _ j2 l2 s2 0 hd e2 hC2 (by omega) g2 g3).choose_spec.choose_spec.2.2.1 true true z4 z5 z6 (Or.inr rfl)
          · rw [a3 (sz + 1) S (by omega), if_neg (by decide), evN_op (c := 42) (by omega) c1 (by omega) (by omega), up1_ne (by omega), up1_eq, hv, q1, hbr]; rfl
        | false =>
          obtain ⟨v, bk, b0, b1, b2, b3⟩ := h2 d j1 l1 (cl + s1.length + 2) j2 l2 s2 (v0 * w) hd e2 hC2 (by omega) g2 g3
          refine ⟨v, bk, fun _ => b0 (inR_bb hbr), fun y4 y5 y6 => ?_, dead, fun sz S hv hs => ?_⟩
          · refine me_termMul (n := 10 * (9 - d) + 2) (w := w) hM hge hg2 hix (ev_eq hE0 hi hs0) a1 ?_
            intro z4 z5 z6
            rw [hbr, bbv_no hbr]
            exact b1 z4 z5 z6
          · have e4 : cmb 42 v0 w = v0 * w := by rw [q1, hbr]; rfl
            rw [a3 (sz + 1) S (by omega), if_neg (by decide), evN_op (c := 42) (by omega) c1 (by omega) (by omega), up1_ne (by omega), up1_eq, hv, e4, if_neg (inR_brk (inR_bb hbr)), b3 sz _ up1_eq (by omega), hln]
            rw [show cl + s1.length + 2 + s2.length = cl + (s1.length + 2 + s2.length) by omega]
            cases bk with
            | true => rfl
            | false =>
              refine evN_indep _ _ _ _ (fun k hk => ?_)
              by_cases hks : k = sz
              · subst hks; rw [up1_eq, up1_eq]
              · rw [up1_ne hks, up1_ne hks, up1_ne hks, up1_ne (by omega)]
    by_cases hs1 : tc i = 147
    · rw [hs1] at c1
      obtain ⟨q1, q2⟩ := cb_147 v0 w
      have dead : ∀ (live b : Bool) (y4 y5 y6 : Option Value), live = false ∨ b = true → Wp g Y_Mo_termOf (10 * (9 - d) + 3) 6 [some (.ref o), some (.int (bI live)), some (.long 0), none, y4, y5, y6] [] (emM M o (bs + i) b) (emQ M o 0 (bs + j2) b) := by
        intro live b y4 y5 y6 hb
        refine me_termDiv (n := 10 * (9 - d) + 2) (w := 0) hM hge hg2 hix (ev_eq hE0 hi hs1) (a2 live b hb) ?_
        intro z4 z5 z6
        rw [dv_dead hb]
        rw [show (0 / dvw 0 : Int64) = 0 by decide, (bb_dead hb).1, (bb_dead hb).2]
        exact (h2 d j1 l1 _ j2 l2 s2 0 hd e2 hC2 (by omega) g2 g3).choose_spec.choose_spec.2.2.1 live b z4 z5 z6 hb
      cases bk1 with
      | true =>
        refine ⟨0, true, fun _ q => Bool.noConfusion q, fun y4 y5 y6 => ?_, dead, fun sz S hv hs => ?_⟩
        · refine me_termDiv (n := 10 * (9 - d) + 2) (w := 0) hM hge hg2 hix (ev_eq hE0 hi hs1) a1 ?_
          intro z4 z5 z6
          rw [dv_dead (Or.inr rfl)]
          rw [bb_brk.1, bb_brk.2]
          exact (h2 d j1 l1 _ j2 l2 s2 0 hd e2 hC2 (by omega) g2 g3).choose_spec.choose_spec.2.2.1 true true z4 z5 z6 (Or.inr rfl)
        · rw [a3 (sz + 1) S (by omega)]; rfl
      | false =>
        cases hbr : bbr (v0 / dvw w) true (dvb w true false) with
        | true =>
          refine ⟨0, true, fun _ q => Bool.noConfusion q, fun y4 y5 y6 => ?_, dead, fun sz S hv hs => ?_⟩
          · refine me_termDiv (n := 10 * (9 - d) + 2) (w := w) hM hge hg2 hix (ev_eq hE0 hi hs1) a1 ?_
            intro z4 z5 z6
            rw [hbr, bbv_br hbr]
            exact (h2 d j1 l1 _ j2 l2 s2 0 hd e2 hC2 (by omega) g2 g3).choose_spec.choose_spec.2.2.1 true true z4 z5 z6 (Or.inr rfl)
          · rw [a3 (sz + 1) S (by omega), if_neg (by decide), evN_op (c := 47) (by omega) c1 (by omega) (by omega), up1_ne (by omega), up1_eq, hv, q1, hbr]; rfl
        | false =>
          obtain ⟨v, bk, b0, b1, b2, b3⟩ := h2 d j1 l1 (cl + s1.length + 2) j2 l2 s2 (v0 / dvw w) hd e2 hC2 (by omega) g2 g3
          refine ⟨v, bk, fun _ => b0 (inR_bb hbr), fun y4 y5 y6 => ?_, dead, fun sz S hv hs => ?_⟩
          · refine me_termDiv (n := 10 * (9 - d) + 2) (w := w) hM hge hg2 hix (ev_eq hE0 hi hs1) a1 ?_
            intro z4 z5 z6
            rw [hbr, bbv_no hbr]
            exact b1 z4 z5 z6
          · have e4 : cmb 47 v0 w = v0 / dvw w := by rw [q1, hbr]; rfl
            rw [a3 (sz + 1) S (by omega), if_neg (by decide), evN_op (c := 47) (by omega) c1 (by omega) (by omega), up1_ne (by omega), up1_eq, hv, e4, if_neg (inR_brk (inR_bb hbr)), b3 sz _ up1_eq (by omega), hln]
            rw [show cl + s1.length + 2 + s2.length = cl + (s1.length + 2 + s2.length) by omega]
            cases bk with
            | true => rfl
            | false =>
              refine evN_indep _ _ _ _ (fun k hk => ?_)
              by_cases hks : k = sz
              · subst hks; rw [up1_eq, up1_eq]
              · rw [up1_ne hks, up1_ne hks, up1_ne hks, up1_ne (by omega)]
    by_cases hs2 : tc i = 137
    · rw [hs2] at c1
      obtain ⟨q1, q2⟩ := cb_137 v0 w
      have dead : ∀ (live b : Bool) (y4 y5 y6 : Option Value), live = false ∨ b = true → Wp g Y_Mo_termOf (10 * (9 - d) + 3) 6 [some (.ref o), some (.int (bI live)), some (.long 0), none, y4, y5, y6] [] (emM M o (bs + i) b) (emQ M o 0 (bs + j2) b) := by
        intro live b y4 y5 y6 hb
        refine me_termRem (n := 10 * (9 - d) + 2) (w := 0) hM hge hg2 hix (ev_eq hE0 hi hs2) (a2 live b hb) ?_
        intro z4 z5 z6
        rw [dv_dead hb]
        rw [show (0 - 0 / dvw 0 * dvw 0 : Int64) = 0 by decide, (bb_dead hb).1, (bb_dead hb).2]
        exact (h2 d j1 l1 _ j2 l2 s2 0 hd e2 hC2 (by omega) g2 g3).choose_spec.choose_spec.2.2.1 live b z4 z5 z6 hb
      cases bk1 with
      | true =>
        refine ⟨0, true, fun _ q => Bool.noConfusion q, fun y4 y5 y6 => ?_, dead, fun sz S hv hs => ?_⟩
        · refine me_termRem (n := 10 * (9 - d) + 2) (w := 0) hM hge hg2 hix (ev_eq hE0 hi hs2) a1 ?_
          intro z4 z5 z6
          rw [dv_dead (Or.inr rfl)]
          rw [bb_brk.1, bb_brk.2]
          exact (h2 d j1 l1 _ j2 l2 s2 0 hd e2 hC2 (by omega) g2 g3).choose_spec.choose_spec.2.2.1 true true z4 z5 z6 (Or.inr rfl)
        · rw [a3 (sz + 1) S (by omega)]; rfl
      | false =>
        cases hbr : bbr (v0 - v0 / dvw w * dvw w) true (dvb w true false) with
        | true =>
          refine ⟨0, true, fun _ q => Bool.noConfusion q, fun y4 y5 y6 => ?_, dead, fun sz S hv hs => ?_⟩
          · refine me_termRem (n := 10 * (9 - d) + 2) (w := w) hM hge hg2 hix (ev_eq hE0 hi hs2) a1 ?_
            intro z4 z5 z6
            rw [hbr, bbv_br hbr]
            exact (h2 d j1 l1 _ j2 l2 s2 0 hd e2 hC2 (by omega) g2 g3).choose_spec.choose_spec.2.2.1 true true z4 z5 z6 (Or.inr rfl)
          · rw [a3 (sz + 1) S (by omega), if_neg (by decide), evN_op (c := 37) (by omega) c1 (by omega) (by omega), up1_ne (by omega), up1_eq, hv, q1, hbr]; rfl
        | false =>
          obtain ⟨v, bk, b0, b1, b2, b3⟩ := h2 d j1 l1 (cl + s1.length + 2) j2 l2 s2 (v0 - v0 / dvw w * dvw w) hd e2 hC2 (by omega) g2 g3
          refine ⟨v, bk, fun _ => b0 (inR_bb hbr), fun y4 y5 y6 => ?_, dead, fun sz S hv hs => ?_⟩
          · refine me_termRem (n := 10 * (9 - d) + 2) (w := w) hM hge hg2 hix (ev_eq hE0 hi hs2) a1 ?_
            intro z4 z5 z6
            rw [hbr, bbv_no hbr]
            exact b1 z4 z5 z6
          · have e4 : cmb 37 v0 w = v0 - v0 / dvw w * dvw w := by rw [q1, hbr]; rfl
            rw [a3 (sz + 1) S (by omega), if_neg (by decide), evN_op (c := 37) (by omega) c1 (by omega) (by omega), up1_ne (by omega), up1_eq, hv, e4, if_neg (inR_brk (inR_bb hbr)), b3 sz _ up1_eq (by omega), hln]
            rw [show cl + s1.length + 2 + s2.length = cl + (s1.length + 2 + s2.length) by omega]
            cases bk with
            | true => rfl
            | false =>
              refine evN_indep _ _ _ _ (fun k hk => ?_)
              by_cases hks : k = sz
              · subst hks; rw [up1_eq, up1_eq]
              · rw [up1_ne hks, up1_ne hks, up1_ne hks, up1_ne (by omega)]
    exact absurd h0 (by omega)
  · rw [if_neg h0] at h
    obtain ⟨rfl, rfl, rfl⟩ := tru_inj h
    have hix := ev_ix hE0 hi
    refine ⟨v0, false, fun q _ => q, fun y4 y5 y6 => ?_, fun live b y4 y5 y6 hb => ?_, fun sz S hv hs => ?_⟩
    · exact me_termEnd (n := 10 * (9 - d) + 2) hM hge hg2 hix (ev_ne hE0 hi (by omega) (by omega)) (ev_ne hE0 hi (by omega) (by omega)) (ev_ne hE0 hi (by omega) (by omega))
    · exact me_termEnd (n := 10 * (9 - d) + 2) hM hge hg2 hix (ev_ne hE0 hi (by omega) (by omega)) (ev_ne hE0 hi (by omega) (by omega)) (ev_ne hE0 hi (by omega) (by omega))
    · rw [up1_id hv]; rfl
theorem es_term (hE : EvH M o ge bs N tc tv od V vn) (h1 : ES g M o bs N tc tv od C cn V vn Y_Mo_partOf 0 2 1 f) (h2 : ER g M o bs N tc tv od C cn V vn Y_Mo_termOf 1 3 2 f) : ES g M o bs N tc tv od C cn V vn Y_Mo_termOf 2 3 2 (f + 1) := by
  intro d i lf cl j lf2 sg hd h hC hcn hi hl
  have hE0 := hE
  obtain ⟨hM, hge, hg1, hg2, hK, hN, hT4, hlaw, hord⟩ := hE
  rw [psr_2] at h
  obtain ⟨j1, l1, s1, e1, h3⟩ := pbd_t h
  obtain ⟨j2, l2, s2, e2, h4⟩ := pbd_t h3
  obtain ⟨rfl, rfl, rfl⟩ := tru_inj h4
  obtain ⟨g1, g2, g3, g4, g5⟩ := psr_ok (N := N) hN f 0 d i lf cl j1 l1 s1 (by omega) e1 hi hl
  rw [List.length_append] at hcn
  obtain ⟨w, bk1, a0, a1, a2, a3⟩ := h1 d i lf cl j1 l1 s1 hd e1 hC.l (by omega) hi hl
  obtain ⟨v, bk, b0, b1, b2, b3⟩ := h2 d j1 l1 (cl + s1.length) j2 l2 s2 w hd e2 hC.r (by omega) g2 g3
  have dead : ∀ live b : Bool, live = false ∨ b = true → Cl g Y_Mo_termOf (10 * (9 - d) + 3) [.ref o, .int (bI live)] (emM M o (bs + i) b) (fun x M2 => x = 0 ∧ M2 = emM M o (bs + j2) b) := fun live b hb => me_term0 (n := 10 * (9 - d) + 2) hM (a2 live b hb) (b2 live b none none none hb)
  cases bk1 with
  | true =>
    refine ⟨0, true, fun q => Bool.noConfusion q, me_term0 (n := 10 * (9 - d) + 2) hM a1 (b2 true true none none none (Or.inr rfl)), dead, fun sz S hs => ?_⟩
    rw [a3 sz S (by omega)]; rfl
  | false =>
    refine ⟨v, bk, b0 (a0 rfl), me_term0 (n := 10 * (9 - d) + 2) hM a1 (b1 none none none), dead, fun sz S hs => ?_⟩
    rw [a3 sz S (by omega), if_neg (by decide), b3 sz _ up1_eq (by omega), List.length_append, ← Nat.add_assoc, up1_up1]
theorem cb_143 (v0 w : Int64) : cmb 43 v0 w = (if bbr (v0 + w) true false = true then brk else v0 + w) ∧ (bbr (v0 + w) true false = false → ¬ (v0 + w) = brk) := by
  have e : cmb 43 v0 w = bnd (v0 + w) := by unfold cmb; simp
  rw [e]
  exact bnd_bb
theorem cb_145 (v0 w : Int64) : cmb 45 v0 w = (if bbr (v0 - w) true false = true then brk else v0 - w) ∧ (bbr (v0 - w) true false = false → ¬ (v0 - w) = brk) := by
  have e : cmb 45 v0 w = bnd (v0 - w) := by unfold cmb; simp
  rw [e]
  exact bnd_bb
theorem er_sum (hE : EvH M o ge bs N tc tv od V vn) (h1 : ES g M o bs N tc tv od C cn V vn Y_Mo_termOf 2 3 2 f) (h2 : ER g M o bs N tc tv od C cn V vn Y_Mo_sumOf 3 4 3 f) : ER g M o bs N tc tv od C cn V vn Y_Mo_sumOf 3 4 3 (f + 1) := by
  intro d i lf cl j lf2 sg v0 hd h hC hcn hi hl
  have hE0 := hE
  obtain ⟨hM, hge, hg1, hg2, hK, hN, hT4, hlaw, hord⟩ := hE
  rw [psr_3] at h
  by_cases h0 : tc i = 143 ∨ tc i = 145
  · rw [if_pos h0] at h
    have hiN := hN i (by omega)
    obtain ⟨j1, l1, s1, e1, h3⟩ := pbd_t h
    obtain ⟨j2, l2, s2, e2, h4⟩ := pbd_t h3
    obtain ⟨rfl, rfl, rfl⟩ := tru_inj h4
    obtain ⟨g1, g2, g3, g4, g5⟩ := psr_ok (N := N) hN f 2 d (i + 1) lf cl j1 l1 s1 (by omega) e1 (by omega) hl
    have hln : ((s1 ++ [nI (tc i - 100), nI 0]) ++ s2).length = s1.length + 2 + s2.length := by rw [List.length_append, len_app2]
    rw [hln] at hcn
    have hC1 := hC.l.l
    obtain ⟨c1, c2⟩ := hC.l.r.two
    have hC2 := hC.r
    rw [len_app2, ← Nat.add_assoc] at hC2 e2
    obtain ⟨w, bk1, a0, a1, a2, a3⟩ := h1 d (i + 1) lf cl j1 l1 s1 hd e1 hC1 (by omega) (by omega) hl
    have hix := ev_ix hE0 hi
    by_cases hs0 : tc i = 143
    · rw [hs0] at c1
      obtain ⟨q1, q2⟩ := cb_143 v0 w
      have dead : ∀ (live b : Bool) (y4 y5 y6 : Option Value), live = false ∨ b = true → Wp g Y_Mo_sumOf (10 * (9 - d) + 4) 6 [some (.ref o), some (.int (bI live)), some (.long 0), none, y4, y5, y6] [] (emM M o (bs + i) b) (emQ M o 0 (bs + j2) b) := by
        intro live b y4 y5 y6 hb
        refine me_sumPlus (n := 10 * (9 - d) + 3) (w := 0) hM hge hg2 hix (ev_eq hE0 hi hs0) (a2 live b hb) ?_
        intro z4 z5 z6
        rw [show (0 + 0 : Int64) = 0 by decide, (bb_dead hb).1, (bb_dead hb).2]
        exact (h2 d j1 l1 _ j2 l2 s2 0 hd e2 hC2 (by omega) g2 g3).choose_spec.choose_spec.2.2.1 live b z4 z5 z6 hb
      cases bk1 with
      | true =>
        refine ⟨0, true, fun _ q => Bool.noConfusion q, fun y4 y5 y6 => ?_, dead, fun sz S hv hs => ?_⟩
        · refine me_sumPlus (n := 10 * (9 - d) + 3) (w := 0) hM hge hg2 hix (ev_eq hE0 hi hs0) a1 ?_
          intro z4 z5 z6
          rw [bb_brk.1, bb_brk.2]
          exact (h2 d j1 l1 _ j2 l2 s2 0 hd e2 hC2 (by omega) g2 g3).choose_spec.choose_spec.2.2.1 true true z4 z5 z6 (Or.inr rfl)
        · rw [a3 (sz + 1) S (by omega)]; rfl
      | false =>
        cases hbr : bbr (v0 + w) true false with
        | true =>
          refine ⟨0, true, fun _ q => Bool.noConfusion q, fun y4 y5 y6 => ?_, dead, fun sz S hv hs => ?_⟩
          · refine me_sumPlus (n := 10 * (9 - d) + 3) (w := w) hM hge hg2 hix (ev_eq hE0 hi hs0) a1 ?_
            intro z4 z5 z6
            rw [hbr, bbv_br hbr]
            exact (h2 d j1 l1 _ j2 l2 s2 0 hd e2 hC2 (by omega) g2 g3).choose_spec.choose_spec.2.2.1 true true z4 z5 z6 (Or.inr rfl)
          · rw [a3 (sz + 1) S (by omega), if_neg (by decide), evN_op (c := 43) (by omega) c1 (by omega) (by omega), up1_ne (by omega), up1_eq, hv, q1, hbr]; rfl
        | false =>
          obtain ⟨v, bk, b0, b1, b2, b3⟩ := h2 d j1 l1 (cl + s1.length + 2) j2 l2 s2 (v0 + w) hd e2 hC2 (by omega) g2 g3
          refine ⟨v, bk, fun _ => b0 (inR_bb hbr), fun y4 y5 y6 => ?_, dead, fun sz S hv hs => ?_⟩
          · refine me_sumPlus (n := 10 * (9 - d) + 3) (w := w) hM hge hg2 hix (ev_eq hE0 hi hs0) a1 ?_
            intro z4 z5 z6
            rw [hbr, bbv_no hbr]
            exact b1 z4 z5 z6
          · have e4 : cmb 43 v0 w = v0 + w := by rw [q1, hbr]; rfl
            rw [a3 (sz + 1) S (by omega), if_neg (by decide), evN_op (c := 43) (by omega) c1 (by omega) (by omega), up1_ne (by omega), up1_eq, hv, e4, if_neg (inR_brk (inR_bb hbr)), b3 sz _ up1_eq (by omega), hln]
            rw [show cl + s1.length + 2 + s2.length = cl + (s1.length + 2 + s2.length) by omega]
            cases bk with
            | true => rfl
            | false =>
              refine evN_indep _ _ _ _ (fun k hk => ?_)
              by_cases hks : k = sz
              · subst hks; rw [up1_eq, up1_eq]
              · rw [up1_ne hks, up1_ne hks, up1_ne hks, up1_ne (by omega)]
    by_cases hs1 : tc i = 145
    · rw [hs1] at c1
      obtain ⟨q1, q2⟩ := cb_145 v0 w
      have dead : ∀ (live b : Bool) (y4 y5 y6 : Option Value), live = false ∨ b = true → Wp g Y_Mo_sumOf (10 * (9 - d) + 4) 6 [some (.ref o), some (.int (bI live)), some (.long 0), none, y4, y5, y6] [] (emM M o (bs + i) b) (emQ M o 0 (bs + j2) b) := by
        intro live b y4 y5 y6 hb
        refine me_sumMinus (n := 10 * (9 - d) + 3) (w := 0) hM hge hg2 hix (ev_eq hE0 hi hs1) (a2 live b hb) ?_
        intro z4 z5 z6
        rw [show (0 - 0 : Int64) = 0 by decide, (bb_dead hb).1, (bb_dead hb).2]
        exact (h2 d j1 l1 _ j2 l2 s2 0 hd e2 hC2 (by omega) g2 g3).choose_spec.choose_spec.2.2.1 live b z4 z5 z6 hb
      cases bk1 with
      | true =>
        refine ⟨0, true, fun _ q => Bool.noConfusion q, fun y4 y5 y6 => ?_, dead, fun sz S hv hs => ?_⟩
        · refine me_sumMinus (n := 10 * (9 - d) + 3) (w := 0) hM hge hg2 hix (ev_eq hE0 hi hs1) a1 ?_
          intro z4 z5 z6
          rw [bb_brk.1, bb_brk.2]
          exact (h2 d j1 l1 _ j2 l2 s2 0 hd e2 hC2 (by omega) g2 g3).choose_spec.choose_spec.2.2.1 true true z4 z5 z6 (Or.inr rfl)
        · rw [a3 (sz + 1) S (by omega)]; rfl
      | false =>
        cases hbr : bbr (v0 - w) true false with
        | true =>
          refine ⟨0, true, fun _ q => Bool.noConfusion q, fun y4 y5 y6 => ?_, dead, fun sz S hv hs => ?_⟩
          · refine me_sumMinus (n := 10 * (9 - d) + 3) (w := w) hM hge hg2 hix (ev_eq hE0 hi hs1) a1 ?_
            intro z4 z5 z6
            rw [hbr, bbv_br hbr]
            exact (h2 d j1 l1 _ j2 l2 s2 0 hd e2 hC2 (by omega) g2 g3).choose_spec.choose_spec.2.2.1 true true z4 z5 z6 (Or.inr rfl)
          · rw [a3 (sz + 1) S (by omega), if_neg (by decide), evN_op (c := 45) (by omega) c1 (by omega) (by omega), up1_ne (by omega), up1_eq, hv, q1, hbr]; rfl
        | false =>
          obtain ⟨v, bk, b0, b1, b2, b3⟩ := h2 d j1 l1 (cl + s1.length + 2) j2 l2 s2 (v0 - w) hd e2 hC2 (by omega) g2 g3
          refine ⟨v, bk, fun _ => b0 (inR_bb hbr), fun y4 y5 y6 => ?_, dead, fun sz S hv hs => ?_⟩
          · refine me_sumMinus (n := 10 * (9 - d) + 3) (w := w) hM hge hg2 hix (ev_eq hE0 hi hs1) a1 ?_
            intro z4 z5 z6
            rw [hbr, bbv_no hbr]
            exact b1 z4 z5 z6
          · have e4 : cmb 45 v0 w = v0 - w := by rw [q1, hbr]; rfl
            rw [a3 (sz + 1) S (by omega), if_neg (by decide), evN_op (c := 45) (by omega) c1 (by omega) (by omega), up1_ne (by omega), up1_eq, hv, e4, if_neg (inR_brk (inR_bb hbr)), b3 sz _ up1_eq (by omega), hln]
            rw [show cl + s1.length + 2 + s2.length = cl + (s1.length + 2 + s2.length) by omega]
            cases bk with
            | true => rfl
            | false =>
              refine evN_indep _ _ _ _ (fun k hk => ?_)
              by_cases hks : k = sz
              · subst hks; rw [up1_eq, up1_eq]
              · rw [up1_ne hks, up1_ne hks, up1_ne hks, up1_ne (by omega)]
    exact absurd h0 (by omega)
  · rw [if_neg h0] at h
    obtain ⟨rfl, rfl, rfl⟩ := tru_inj h
    have hix := ev_ix hE0 hi
    refine ⟨v0, false, fun q _ => q, fun y4 y5 y6 => ?_, fun live b y4 y5 y6 hb => ?_, fun sz S hv hs => ?_⟩
    · exact me_sumEnd (n := 10 * (9 - d) + 3) hM hge hg2 hix (ev_ne hE0 hi (by omega) (by omega)) (ev_ne hE0 hi (by omega) (by omega))
    · exact me_sumEnd (n := 10 * (9 - d) + 3) hM hge hg2 hix (ev_ne hE0 hi (by omega) (by omega)) (ev_ne hE0 hi (by omega) (by omega))
    · rw [up1_id hv]; rfl
theorem es_sum (hE : EvH M o ge bs N tc tv od V vn) (h1 : ES g M o bs N tc tv od C cn V vn Y_Mo_termOf 2 3 2 f) (h2 : ER g M o bs N tc tv od C cn V vn Y_Mo_sumOf 3 4 3 f) : ES g M o bs N tc tv od C cn V vn Y_Mo_sumOf 4 4 3 (f + 1) := by
  intro d i lf cl j lf2 sg hd h hC hcn hi hl
  have hE0 := hE
  obtain ⟨hM, hge, hg1, hg2, hK, hN, hT4, hlaw, hord⟩ := hE
  rw [psr_4] at h
  obtain ⟨j1, l1, s1, e1, h3⟩ := pbd_t h
  obtain ⟨j2, l2, s2, e2, h4⟩ := pbd_t h3
  obtain ⟨rfl, rfl, rfl⟩ := tru_inj h4
  obtain ⟨g1, g2, g3, g4, g5⟩ := psr_ok (N := N) hN f 2 d i lf cl j1 l1 s1 (by omega) e1 hi hl
  rw [List.length_append] at hcn
  obtain ⟨w, bk1, a0, a1, a2, a3⟩ := h1 d i lf cl j1 l1 s1 hd e1 hC.l (by omega) hi hl
  obtain ⟨v, bk, b0, b1, b2, b3⟩ := h2 d j1 l1 (cl + s1.length) j2 l2 s2 w hd e2 hC.r (by omega) g2 g3
  have dead : ∀ live b : Bool, live = false ∨ b = true → Cl g Y_Mo_sumOf (10 * (9 - d) + 4) [.ref o, .int (bI live)] (emM M o (bs + i) b) (fun x M2 => x = 0 ∧ M2 = emM M o (bs + j2) b) := fun live b hb => me_sum0 (n := 10 * (9 - d) + 3) hM (a2 live b hb) (b2 live b none none none hb)
  cases bk1 with
  | true =>
    refine ⟨0, true, fun q => Bool.noConfusion q, me_sum0 (n := 10 * (9 - d) + 3) hM a1 (b2 true true none none none (Or.inr rfl)), dead, fun sz S hs => ?_⟩
    rw [a3 sz S (by omega)]; rfl
  | false =>
    refine ⟨v, bk, b0 (a0 rfl), me_sum0 (n := 10 * (9 - d) + 3) hM a1 (b1 none none none), dead, fun sz S hs => ?_⟩
    rw [a3 sz S (by omega), if_neg (by decide), b3 sz _ up1_eq (by omega), List.length_append, ← Nat.add_assoc, up1_up1]
end EVA

/-! ===== feed ===== -/
section FED
variable {g : Gl} {M : Mem}
theorem l_put1 {v : Int32} {s L : Nat} (hs : sh4 s) (t0 : mT M 0 = (10, 0)) (r08 : mR M 0 8 = some 923) (t923 : mT M 923 = (20, 400)) (h9 : mI M 0 9 = nI L) (hL : L < 400) {Q : Option Value → Mem → Prop} (K : Wp g Y_Mc_putOnTape 0 3 [some (.ref 0), some (.int v), some (.int (nI s + Int32.ofInt (-8)))] [] (sI (sI M 923 L (nI (by4 v s))) 0 9 (nI (L + 1))) Q) : Wp g Y_Mc_putOnTape 0 3 [some (.ref 0), some (.int v), some (.int (nI s))] [] M Q := by
  have hs2 : s < 100 := by rcases hs with rfl | rfl | rfl | rfl <;> omega
  refine wp_iload_n rfl (ck_get kk_Mc_putOnTape 2 rfl) ?_
  first | refine wp_if_ltN (t := 39) (ck_get kk_Mc_putOnTape 3 rfl) (by decide) (by omega) (fun hc4 => ?_) (fun hc4 => ?_) | refine wp_if_lt (t := 39) (ck_get kk_Mc_putOnTape 3 rfl) (by decide) (fun hc4 => ?_) (fun hc4 => ?_)
  · exact hc4.elim
  · refine wp_aload_n rfl (ck_get kk_Mc_putOnTape 4 rfl) ?_
    refine wp_getR (ck_get kk_Mc_putOnTape 5 rfl) fl_Mc_48 (by assumption) (by assumption) ?_
    refine wp_aload_n rfl (ck_get kk_Mc_putOnTape 6 rfl) ?_
    first | refine wp_getIv (ck_get kk_Mc_putOnTape 7 rfl) fl_Mc_52 (by assumption) (by assumption) ?_ | refine wp_getI (ck_get kk_Mc_putOnTape 7 rfl) fl_Mc_52 (by assumption) ?_
    refine wp_iload_n rfl (ck_get kk_Mc_putOnTape 8 rfl) ?_
    refine wp_iload_n rfl (ck_get kk_Mc_putOnTape 9 rfl) ?_
    refine wp_iushr (ck_get kk_Mc_putOnTape 10 rfl) ?_
    refine wp_sipush (v := nI 255) (by decide) (ck_get kk_Mc_putOnTape 11 rfl) ?_
    refine wp_iand (ck_get kk_Mc_putOnTape 12 rfl) ?_
    rw [by4_c hs]
    refine wp_iast (ck_get kk_Mc_putOnTape 13 rfl) (by assumption) (ixk_nI (k := L) (by omega) (by omega)) ?_
    refine wp_aload_n rfl (ck_get kk_Mc_putOnTape 14 rfl) ?_
    refine wp_dup rfl (ck_get kk_Mc_putOnTape 15 rfl) ?_
    refine wp_getIv (v := nI L) (ck_get kk_Mc_putOnTape 16 rfl) fl_Mc_52 (by assumption) ((congrFun (s_o (by omega)) 9).trans h9) ?_
    refine wp_iconst (v := nI 1) (by decide) (ck_get kk_Mc_putOnTape 17 rfl) ?_
    first | refine wp_iaddN (ck_get kk_Mc_putOnTape 18 rfl) ?_ | refine wp_iadd (ck_get kk_Mc_putOnTape 18 rfl) ?_
    refine wp_putI (ck_get kk_Mc_putOnTape 19 rfl) fl_Mc_52 (by decide +kernel) (by assumption) (okI_int _) ?_
    refine wp_iinc (ck_get kk_Mc_putOnTape 20 rfl) rfl (by decide) rfl ?_
    refine wp_goto (t := 3) (ck_get kk_Mc_putOnTape 21 rfl) (by decide) ?_
    exact K
theorem c_put4 {v : Int32} {L : Nat} (t0 : mT M 0 = (10, 0)) (r08 : mR M 0 8 = some 923) (t923 : mT M 923 = (20, 400)) (h9 : mI M 0 9 = nI L) (hL : L + 4 ≤ 400) : Cv g Y_Mc_putOnTape 0 [.ref 0, .int v] M (fun M2 => ∃ I2, M2 = mk2 M I2 (mJ M) ∧ I2 0 9 = nI (L + 4) ∧ (∀ k, k ≠ 9 → I2 0 k = mI M 0 k) ∧ (∀ x, x ≠ 0 → x ≠ 923 → I2 x = mI M x) ∧ ∀ j, I2 923 j = if L ≤ j ∧ j < L + 4 then nI (by4 v (24 - 8 * (j - L))) else mI M 923 j) := by
  refine cw_entry 1 pf_Mc_putOnTape rfl ?_
  refine wp_bipush (v := nI 24) (by decide) (ck_get kk_Mc_putOnTape 0 rfl) ?_
  refine wp_istore_n (ck_get kk_Mc_putOnTape 1 rfl) (by decide) rfl ?_
  refine l_put1 (s := 24) (Or.inl rfl) t0 r08 t923 h9 (by omega) ?_
  rw [show nI 24 + Int32.ofInt (-8) = nI 16 by decide]
  refine l_put1 (s := 16) (L := L + 1) (Or.inr (Or.inl rfl)) (by exact t0) (by exact r08) (by exact t923) (by exact s_v) (by omega) ?_
  rw [show nI 16 + Int32.ofInt (-8) = nI 8 by decide]
  refine l_put1 (s := 8) (L := L + 1 + 1) (Or.inr (Or.inr (Or.inl rfl))) (by exact t0) (by exact r08) (by exact t923) (by exact s_v) (by omega) ?_
  rw [show nI 8 + Int32.ofInt (-8) = nI 0 by decide]
  refine l_put1 (s := 0) (L := L + 1 + 1 + 1) (Or.inr (Or.inr (Or.inr rfl))) (by exact t0) (by exact r08) (by exact t923) (by exact s_v) (by omega) ?_
  rw [show nI 0 + Int32.ofInt (-8) = -8 by decide]
  refine wp_iload_n rfl (ck_get kk_Mc_putOnTape 2 rfl) ?_
  refine wp_if_lt (t := 39) (ck_get kk_Mc_putOnTape 3 rfl) (by decide) (fun hc4 => ?_) (fun hc4 => ?_)
  · refine wp_return (ck_get kk_Mc_putOnTape 22 rfl) rfl ⟨rfl, ?_⟩
    refine ⟨up2 (up2 (up2 (up2 (up2 (up2 (up2 (up2 (mI M) 923 L (nI (by4 v 24))) 0 9 (nI (L + 1))) 923 (L + 1) (nI (by4 v 16))) 0 9 (nI (L + 1 + 1))) 923 (L + 1 + 1) (nI (by4 v 8))) 0 9 (nI (L + 1 + 1 + 1))) 923 (L + 1 + 1 + 1) (nI (by4 v 0))) 0 9 (nI (L + 1 + 1 + 1 + 1)), rfl, up2_v, fun k hk => ?_, fun x q1 q2 => ?_, fun j => ?_⟩
    · rw [up2_k hk, up2_o (by omega), up2_k hk, up2_o (by omega), up2_k hk, up2_o (by omega), up2_k hk, up2_o (by omega)]
    · rw [up2_o q1, up2_o q2, up2_o q1, up2_o q2, up2_o q1, up2_o q2, up2_o q1, up2_o q2]
    · rw [up2_o (by omega)]
      by_cases c3 : j = L + 1 + 1 + 1
      · subst c3
        rw [up2_v, if_pos (by omega), show 24 - 8 * (L + 1 + 1 + 1 - L) = 0 by omega]
      · rw [up2_k c3, up2_o (by omega)]
        by_cases c2 : j = L + 1 + 1
        · subst c2
          rw [up2_v, if_pos (by omega), show 24 - 8 * (L + 1 + 1 - L) = 8 by omega]
        · rw [up2_k c2, up2_o (by omega)]
          by_cases c1 : j = L + 1
          · subst c1
            rw [up2_v, if_pos (by omega), show 24 - 8 * (L + 1 - L) = 16 by omega]
          · rw [up2_k c1, up2_o (by omega)]
            by_cases c0 : j = L
            · subst c0
              rw [up2_v, if_pos (by omega), show 24 - 8 * (j - j) = 24 by omega]
            · rw [up2_k c0, if_neg (by omega)]
  · exact absurd (show (-8 : Int32) < 0 by decide) hc4
/-- the bytes of ints behind a text -/
def fdF (bt : Nat → Nat) (L : Nat) (ar : Nat → Int32) (k j : Nat) : Nat := if L ≤ j ∧ j < L + k then by4 (ar ((j - L) / 4)) (24 - 8 * ((j - L) % 4)) else bt j
def ar5 (a b c d e : Int32) (i : Nat) : Int32 := if i = 0 then a else if i = 1 then b else if i = 2 then c else if i = 3 then d else e
/-- behind i ints of five, by the class -/
def FdC (M : Mem) (bt : Nat → Nat) (L : Nat) (ar : Nat → Int32) (i : Nat) (M2 : Mem) : Prop := ∃ I2, M2 = mk2 M I2 (mJ M) ∧ I2 0 9 = nI (L + 4 * i) ∧ (∀ k, k ≠ 9 → I2 0 k = mI M 0 k) ∧ (∀ x, x ≠ 0 → x ≠ 923 → I2 x = mI M x) ∧ ∀ j, j < 400 → I2 923 j = nI (fdF bt L ar (4 * i) j)
theorem c_put5 {v : Int32} {bt : Nat → Nat} {L i : Nat} {ar : Nat → Int32} {W : Mem} (t0 : mT M 0 = (10, 0)) (r08 : mR M 0 8 = some 923) (t923 : mT M 923 = (20, 400)) (hW : FdC M bt L ar i W) (hL : L + 4 * i + 4 ≤ 400) (hv : ar i = v) : Cv g Y_Mc_putOnTape 0 [.ref 0, .int v] W (fun M2 => FdC M bt L ar (i + 1) M2) := by
  obtain ⟨I1, rfl, h1, h2, h3, h4⟩ := hW
  refine (c_put4 (L := L + 4 * i) (by exact t0) (by exact r08) (by exact t923) (by exact h1) hL).to ?_
  rintro M2 ⟨I2, rfl, e1, e2, e3, e4⟩
  refine ⟨I2, rfl, by rw [e1, show L + 4 * i + 4 = L + 4 * (i + 1) by omega], fun k hk => (e2 k hk).trans (h2 k hk), fun x a b => (e3 x a b).trans (h3 x a b), fun j hj => ?_⟩
  rw [e4 j]
  unfold fdF
  by_cases c : L + 4 * i ≤ j ∧ j < L + 4 * i + 4
  · rw [if_pos c, if_pos (by omega), show (j - L) / 4 = i by omega, hv, show (j - L) % 4 = j - (L + 4 * i) by omega]
  · rw [if_neg c]
    show I1 923 j = _
    rw [h4 j hj]
    unfold fdF
    by_cases c2 : L ≤ j ∧ j < L + 4 * i
    · rw [if_pos c2, if_pos (by omega)]
    · rw [if_neg c2, if_neg (by omega)]
theorem l_moFeed {bt : Nat → Nat} {L : Nat} {ar : Nat → Int32} {a b c d e : Int32} (hM : MoAt (mT M) (mR M) 1020) (h16 : mI M 1020 16 = nI L) (hL : L + 20 ≤ 400) (h5 : ∀ i, i < 5 → mI M 1031 i = ar i) {Q : Option Value → Mem → Prop}
    (K : ∀ f, (∀ j, j < 400 → f j = sgb (fdF bt L ar 20 j)) → Wp g Y_Mo_feed 300 101 [some (.ref 1020), some (.int a), some (.int b), some (.int c), some (.int d), some (.int e), some (.int (nI 20))] [] (mk2 M (up1 (mI M) 1030 f) (mJ M)) Q) :
    ∀ n k f, k + n = 20 → (∀ j, j < 400 → f j = sgb (fdF bt L ar k j)) → Wp g Y_Mo_feed 300 55 [some (.ref 1020), some (.int a), some (.int b), some (.int c), some (.int d), some (.int e), some (.int (nI k))] [] (mk2 M (up1 (mI M) 1030 f) (mJ M)) Q := by
  have to0 := hM.1
  have rftape := MoAt.r hM 9 rfl
  have tftape := MoAt.t hM 9 rfl
  have rffive := MoAt.r hM 10 rfl
  have tffive := MoAt.t hM 10 rfl
  intro n
  induction n with
  | zero =>
    intro k f h1 hf
    refine wp_iload rfl (ck_get kk_Mo_feed 35 rfl) ?_
    refine wp_bipush (v := nI 20) (by decide) (ck_get kk_Mo_feed 36 rfl) ?_
    first | refine wp_icmp_geN (t := 101) (ck_get kk_Mo_feed 37 rfl) (by decide) (by omega) (by omega) (fun hc59 => ?_) (fun hc59 => ?_) | refine wp_icmp_ge (t := 101) (ck_get kk_Mo_feed 37 rfl) (by decide) (fun hc59 => ?_) (fun hc59 => ?_)
    · obtain rfl : k = 20 := by omega
      exact K f hf
    · omega
  | succ n ih =>
    intro k f h1 hf
    have hs : sh4 (24 - 8 * (k % 4)) := by unfold sh4; omega
    refine wp_iload rfl (ck_get kk_Mo_feed 35 rfl) ?_
    refine wp_bipush (v := nI 20) (by decide) (ck_get kk_Mo_feed 36 rfl) ?_
    first | refine wp_icmp_geN (t := 101) (ck_get kk_Mo_feed 37 rfl) (by decide) (by omega) (by omega) (fun hc59 => ?_) (fun hc59 => ?_) | refine wp_icmp_ge (t := 101) (ck_get kk_Mo_feed 37 rfl) (by decide) (fun hc59 => ?_) (fun hc59 => ?_)
    · omega
    · refine wp_aload_n rfl (ck_get kk_Mo_feed 38 rfl) ?_
      refine wp_getR (ck_get kk_Mo_feed 39 rfl) fl_Mo_55 (by assumption) (by assumption) ?_
      refine wp_aload_n rfl (ck_get kk_Mo_feed 40 rfl) ?_
      refine wp_getIv (v := nI L) (ck_get kk_Mo_feed 41 rfl) fl_Mo_179 (by assumption) ((congrFun (up1_ne (f := mI M) (a := 1030) (x := 1020) (v := f) (by omega)) 16).trans h16) ?_
      refine wp_iload rfl (ck_get kk_Mo_feed 42 rfl) ?_
      first | refine wp_iaddN (ck_get kk_Mo_feed 43 rfl) ?_ | refine wp_iadd (ck_get kk_Mo_feed 43 rfl) ?_
      refine wp_aload_n rfl (ck_get kk_Mo_feed 44 rfl) ?_
      refine wp_getR (ck_get kk_Mo_feed 45 rfl) fl_Mo_58 (by assumption) (by assumption) ?_
      refine wp_iload rfl (ck_get kk_Mo_feed 46 rfl) ?_
      refine wp_iconst (v := nI 4) (by decide) (ck_get kk_Mo_feed 47 rfl) ?_
      first | refine wp_idivN (ck_get kk_Mo_feed 48 rfl) (by omega) (by omega) (by omega) ?_ | refine wp_idiv (by decide) (ck_get kk_Mo_feed 48 rfl) ?_
      refine wp_ialdv (v := ar (k / 4)) (ck_get kk_Mo_feed 49 rfl) (by assumption) (ixk_nI (k := k / 4) (by omega) (by omega)) ((congrFun (up1_ne (f := mI M) (a := 1030) (x := 1031) (v := f) (by omega)) (k / 4)).trans (h5 _ (by omega))) ?_
      refine wp_bipush (v := nI 24) (by decide) (ck_get kk_Mo_feed 50 rfl) ?_
      refine wp_bipush (v := nI 8) (by decide) (ck_get kk_Mo_feed 51 rfl) ?_
      refine wp_iload rfl (ck_get kk_Mo_feed 52 rfl) ?_
      refine wp_iconst (v := nI 4) (by decide) (ck_get kk_Mo_feed 53 rfl) ?_
      first | refine wp_iremN (ck_get kk_Mo_feed 54 rfl) (by omega) (by omega) (by omega) ?_ | refine wp_irem (by decide) (ck_get kk_Mo_feed 54 rfl) ?_
      first | refine wp_imulN (ck_get kk_Mo_feed 55 rfl) ?_ | refine wp_imul (ck_get kk_Mo_feed 55 rfl) ?_
      refine wp_isubN (ck_get kk_Mo_feed 56 rfl) (by omega) ?_
      refine wp_ishr (ck_get kk_Mo_feed 57 rfl) ?_
      refine wp_i2b (ck_get kk_Mo_feed 58 rfl) ?_
      first | refine wp_bast (ck_get kk_Mo_feed 59 rfl) (by assumption) (ixk_nI (k := L + k) (by omega) (by omega)) ?_ | refine wp_zast (ck_get kk_Mo_feed 59 rfl) (by assumption) (ixk_nI (k := L + k) (by omega) (by omega)) ?_
      rw [by4_m hs]
      first | refine wp_iincN (ck_get kk_Mo_feed 60 rfl) rfl (by decide) rfl ?_ | refine wp_iinc (ck_get kk_Mo_feed 60 rfl) rfl (by decide) rfl ?_
      refine wp_goto (t := 55) (ck_get kk_Mo_feed 61 rfl) (by decide) ?_
      have e9 : sI (mk2 M (up1 (mI M) 1030 f) (mJ M)) (1020 + 10) (L + k) (sgb (by4 (ar (k / 4)) (24 - 8 * (k % 4)))) = mk2 M (up1 (mI M) 1030 (up1 f (L + k) (sgb (by4 (ar (k / 4)) (24 - 8 * (k % 4)))))) (mJ M) := by
        refine mk2_ext (M := M) ?_ rfl
        show up2 (up1 (mI M) 1030 f) (1020 + 10) (L + k) _ = _
        rw [up2_up1, show 1020 + 10 = 1030 from rfl, up1_up1, up1_eq]
      rw [e9]
      refine ih (k + 1) _ (by omega) (fun j hj => ?_)
      by_cases q : j = L + k
      · subst q
        rw [up1_eq]
        unfold fdF
        rw [if_pos (by omega), show L + k - L = k by omega]
      · rw [up1_ne q, hf j hj]
        unfold fdF
        by_cases q2 : L ≤ j ∧ j < L + k
        · rw [if_pos q2, if_pos (by omega)]
        · rw [if_neg q2, if_neg (by omega)]
theorem b_feed {a b d e w : Int32} : Both g Y_Mc_feed Y_Mo_feed [.int a, .int b, .int d, .int e, .int w] := by
  intro c z hc hO
  have h400 := hO.2.2.2.1
  by_cases hl : (zT z).1 + 20 ≤ 400
  · refine ⟨nI ((zT z).1 + 20), (zS z, zU z, zI z, zD z, ((zT z).1 + 20, fdF (zT z).2 (zT z).1 (ar5 a b d e w) 20), z.2.2.2.2.2), (hO.le (Nat.le_succ c)).tape hl (fun j => ?_), fun M h => ?_, fun M h => ?_⟩
    · show fdF (zT z).2 (zT z).1 (ar5 a b d e w) 20 j < 256
      unfold fdF
      split
      · exact by4_lt _ _
      · exact hO.2.2.2.2.1 j
    · have hCR := h
      have hC' := h.le (Nat.le_succ c)
      obtain ⟨pf, pg, hL, hSC, hTC, hIC, hDC, hPC, hNC, hBC, hZC⟩ := h
      obtain ⟨t0, ⟨r00, hSh⟩, ⟨r01, hTr⟩, ⟨r02, hTg⟩, ⟨r03, hWa⟩, ⟨r04, hWp⟩, ⟨r06, t921, r921a, r921b, hS0, hS1⟩, ⟨r07, t922⟩, ⟨r08, t923⟩, ⟨r010, hPa⟩, ⟨r011, hJu⟩, ⟨r012, hRe⟩, ⟨r013, hCu⟩, ⟨r014, hDe⟩, ⟨r018, t959⟩, hPf⟩ := id hL
      have t1 : mT M 1 = (6, 0) := hSh.1
      have r10 : mR M 1 0 = some 2 := hSh.2.1
      have hW2 : WoAt (mT M) (mR M) 2 := hSh.2.2.1
      have t2 : mT M 2 = (9, 0) := hW2.1
      have r20 : mR M 2 0 = some 3 := hW2.2.1
      have t3 : mT M 3 = (24, 4) := hW2.2.2.1
      have t31 : mT M 31 = (8, 0) := hTr.1
      have t924 : mT M 924 = (3, 0) := hPa.1
      have t934 : mT M 934 = (2, 0) := hJu.1
      have t938 : mT M 938 = (5, 0) := hRe.1
      have t947 : mT M 947 = (0, 0) := hCu.1
      have t952 : mT M 952 = (1, 0) := hDe.1
      have e9 := hPC.1
      have w0 : FdC M (zT z).2 (zT z).1 (ar5 a b d e w) 0 M := ⟨mI M, rfl, hPC.1, fun _ _ => rfl, fun _ _ _ => rfl, fun j hj => by rw [hPC.2 j hj]; unfold fdF; rw [if_neg (by omega)]⟩
      have wT : ∀ {i W}, FdC M (zT z).2 (zT z).1 (ar5 a b d e w) i W → mT W 0 = (10, 0) := fun {i W} ⟨I2, q, _⟩ => by rw [q]; exact t0
      refine cw_entry 0 pf_Mc_feed rfl ?_
      refine wp_aload_n rfl (ck_get kk_Mc_feed 0 rfl) ?_
      first | refine wp_getIv (ck_get kk_Mc_feed 1 rfl) fl_Mc_52 (by assumption) (by assumption) ?_ | refine wp_getI (ck_get kk_Mc_feed 1 rfl) fl_Mc_52 (by assumption) ?_
      refine wp_bipush (v := nI 20) (by decide) (ck_get kk_Mc_feed 2 rfl) ?_
      first | refine wp_iaddN (ck_get kk_Mc_feed 3 rfl) ?_ | refine wp_iadd (ck_get kk_Mc_feed 3 rfl) ?_
      refine wp_sipush (v := nI 400) (by decide) (ck_get kk_Mc_feed 4 rfl) ?_
      first | refine wp_icmp_leN (t := 15) (ck_get kk_Mc_feed 5 rfl) (by decide) (by omega) (by omega) (fun hc10 => ?_) (fun hc10 => ?_) | refine wp_icmp_le (t := 15) (ck_get kk_Mc_feed 5 rfl) (by decide) (fun hc10 => ?_) (fun hc10 => ?_)
      · refine wp_aload_n rfl (ck_get kk_Mc_feed 8 rfl) ?_
        refine wp_iload_n rfl (ck_get kk_Mc_feed 9 rfl) ?_
        refine wp_cV1v (ck_get kk_Mc_feed 10 rfl) ml_Mc_200 (by omega) (Nat.le_of_ble_eq_true rfl) (by assumption) (Cv.to (c_put5 (v := a) t0 r08 t923 w0 (by omega) rfl) ?_)
        rintro M1 w1
        have q1 := wT w1
        refine wp_aload_n rfl (ck_get kk_Mc_feed 11 rfl) ?_
        refine wp_iload_n rfl (ck_get kk_Mc_feed 12 rfl) ?_
        refine wp_cV1v (ck_get kk_Mc_feed 13 rfl) ml_Mc_200 (by omega) (Nat.le_of_ble_eq_true rfl) (by assumption) (Cv.to (c_put5 (v := b) t0 r08 t923 w1 (by omega) rfl) ?_)
        rintro M1 w2
        have q2 := wT w2
        refine wp_aload_n rfl (ck_get kk_Mc_feed 14 rfl) ?_
        refine wp_iload_n rfl (ck_get kk_Mc_feed 15 rfl) ?_
        refine wp_cV1v (ck_get kk_Mc_feed 16 rfl) ml_Mc_200 (by omega) (Nat.le_of_ble_eq_true rfl) (by assumption) (Cv.to (c_put5 (v := d) t0 r08 t923 w2 (by omega) rfl) ?_)
        rintro M1 w3
        have q3 := wT w3
        refine wp_aload_n rfl (ck_get kk_Mc_feed 17 rfl) ?_
        refine wp_iload rfl (ck_get kk_Mc_feed 18 rfl) ?_
        refine wp_cV1v (ck_get kk_Mc_feed 19 rfl) ml_Mc_200 (by omega) (Nat.le_of_ble_eq_true rfl) (by assumption) (Cv.to (c_put5 (v := e) t0 r08 t923 w3 (by omega) rfl) ?_)
        rintro M1 w4
        have q4 := wT w4
        refine wp_aload_n rfl (ck_get kk_Mc_feed 20 rfl) ?_
        refine wp_iload rfl (ck_get kk_Mc_feed 21 rfl) ?_
        refine wp_cV1v (ck_get kk_Mc_feed 22 rfl) ml_Mc_200 (by omega) (Nat.le_of_ble_eq_true rfl) (by assumption) (Cv.to (c_put5 (v := w) t0 r08 t923 w4 (by omega) rfl) ?_)
        rintro M1 w5
        obtain ⟨I2, e1, e2, e3, e4, e5⟩ := w5
        subst e1
        refine wp_aload_n rfl (ck_get kk_Mc_feed 23 rfl) ?_
        refine wp_getIv (v := nI ((zT z).1 + 20)) (ck_get kk_Mc_feed 24 rfl) fl_Mc_52 (by assumption) (e2) ?_
        refine wp_ireturn (ck_get kk_Mc_feed 25 rfl) rfl rfl ⟨_, rfl, ?_⟩
        exact ⟨rfl, hCR.tape (t := ((zT z).1 + 20, fdF (zT z).2 (zT z).1 (ar5 a b d e w) 20)) e4 e3 e2 e5, MSame.mk2 (fun x q1 q2 => ⟨e4 x (by omega) (by omega), rfl⟩)⟩
      · omega
    · skip
      obtain ⟨hM, hSM, hUM, hIM, hDM, hPM, hNM, hBM⟩ := id h
      have to0 := hM.1
      have rffive := MoAt.r hM 10 rfl
      have tffive := MoAt.t hM 10 rfl
      have e16 := hPM.1
      refine cw_entry 1 pf_Mo_feed rfl ?_
      refine wp_aload_n rfl (ck_get kk_Mo_feed 0 rfl) ?_
      first | refine wp_getIv (ck_get kk_Mo_feed 1 rfl) fl_Mo_179 (by assumption) (by assumption) ?_ | refine wp_getI (ck_get kk_Mo_feed 1 rfl) fl_Mo_179 (by assumption) ?_
      refine wp_bipush (v := nI 20) (by decide) (ck_get kk_Mo_feed 2 rfl) ?_
      first | refine wp_iaddN (ck_get kk_Mo_feed 3 rfl) ?_ | refine wp_iadd (ck_get kk_Mo_feed 3 rfl) ?_
      refine wp_sipush (v := nI 400) (by decide) (ck_get kk_Mo_feed 4 rfl) ?_
      first | refine wp_icmp_leN (t := 15) (ck_get kk_Mo_feed 5 rfl) (by decide) (by omega) (by omega) (fun hc10 => ?_) (fun hc10 => ?_) | refine wp_icmp_le (t := 15) (ck_get kk_Mo_feed 5 rfl) (by decide) (fun hc10 => ?_) (fun hc10 => ?_)
      · refine wp_aload_n rfl (ck_get kk_Mo_feed 8 rfl) ?_
        refine wp_getR (ck_get kk_Mo_feed 9 rfl) fl_Mo_58 (by assumption) (by assumption) ?_
        refine wp_iconst (v := nI 0) (by decide) (ck_get kk_Mo_feed 10 rfl) ?_
        refine wp_iload_n rfl (ck_get kk_Mo_feed 11 rfl) ?_
        refine wp_iast (ck_get kk_Mo_feed 12 rfl) (by assumption) (ixk_nI (k := 0) (by omega) (by omega)) ?_
        refine wp_aload_n rfl (ck_get kk_Mo_feed 13 rfl) ?_
        refine wp_getR (ck_get kk_Mo_feed 14 rfl) fl_Mo_58 (by assumption) (by assumption) ?_
        refine wp_iconst (v := nI 1) (by decide) (ck_get kk_Mo_feed 15 rfl) ?_
        refine wp_iload_n rfl (ck_get kk_Mo_feed 16 rfl) ?_
        refine wp_iast (ck_get kk_Mo_feed 17 rfl) (by assumption) (ixk_nI (k := 1) (by omega) (by omega)) ?_
        refine wp_aload_n rfl (ck_get kk_Mo_feed 18 rfl) ?_
        refine wp_getR (ck_get kk_Mo_feed 19 rfl) fl_Mo_58 (by assumption) (by assumption) ?_
        refine wp_iconst (v := nI 2) (by decide) (ck_get kk_Mo_feed 20 rfl) ?_
        refine wp_iload_n rfl (ck_get kk_Mo_feed 21 rfl) ?_
        refine wp_iast (ck_get kk_Mo_feed 22 rfl) (by assumption) (ixk_nI (k := 2) (by omega) (by omega)) ?_
        refine wp_aload_n rfl (ck_get kk_Mo_feed 23 rfl) ?_
        refine wp_getR (ck_get kk_Mo_feed 24 rfl) fl_Mo_58 (by assumption) (by assumption) ?_
        refine wp_iconst (v := nI 3) (by decide) (ck_get kk_Mo_feed 25 rfl) ?_
        refine wp_iload rfl (ck_get kk_Mo_feed 26 rfl) ?_
        refine wp_iast (ck_get kk_Mo_feed 27 rfl) (by assumption) (ixk_nI (k := 3) (by omega) (by omega)) ?_
        refine wp_aload_n rfl (ck_get kk_Mo_feed 28 rfl) ?_
        refine wp_getR (ck_get kk_Mo_feed 29 rfl) fl_Mo_58 (by assumption) (by assumption) ?_
        refine wp_iconst (v := nI 4) (by decide) (ck_get kk_Mo_feed 30 rfl) ?_
        refine wp_iload rfl (ck_get kk_Mo_feed 31 rfl) ?_
        refine wp_iast (ck_get kk_Mo_feed 32 rfl) (by assumption) (ixk_nI (k := 4) (by omega) (by omega)) ?_
        refine wp_iconst (v := nI 0) (by decide) (ck_get kk_Mo_feed 33 rfl) ?_
        refine wp_istore (ck_get kk_Mo_feed 34 rfl) (by decide) rfl ?_
        generalize hM5 : sI (sI (sI (sI (sI M (1020 + 11) 0 a) (1020 + 11) 1 b) (1020 + 11) 2 d) (1020 + 11) 3 e) (1020 + 11) 4 w = M5
        have hI5 : mI M5 = up1 (mI M) 1031 (up1 (up1 (up1 (up1 (up1 (mI M 1031) 0 a) 1 b) 2 d) 3 e) 4 w) := by
          rw [← hM5]
          show up2 (up2 (up2 (up2 (up2 (mI M) (1020 + 11) 0 a) (1020 + 11) 1 b) (1020 + 11) 2 d) (1020 + 11) 3 e) (1020 + 11) 4 w = _
          rw [show 1020 + 11 = 1031 from rfl, up2_up1, up2_up1, up2_up1, up2_up1, up2_up1]
          simp only [up1_up1, up1_eq]
        have hMT : MoAt (mT M5) (mR M5) 1020 := by rw [← hM5]; exact hM
        have hx5 : ∀ x, x ≠ 1031 → mI M5 x = mI M x := fun x hx => by rw [hI5, up1_ne hx]
        have hf5 : ∀ i, i < 5 → mI M5 1031 i = ar5 a b d e w i := fun i hi => by
          rw [hI5, up1_eq]
          rcases (show i = 0 ∨ i = 1 ∨ i = 2 ∨ i = 3 ∨ i = 4 by omega) with rfl | rfl | rfl | rfl | rfl <;> simp [up1, ar5]
        have em : mk2 M5 (up1 (mI M5) 1030 (mI M 1030)) (mJ M5) = M5 := by
          rw [show up1 (mI M5) 1030 (mI M 1030) = mI M5 from up1_id (hx5 1030 (by omega))]
        rw [← em]
        refine l_moFeed (M := M5) (bt := (zT z).2) (L := (zT z).1) (ar := ar5 a b d e w) hMT (by rw [hx5 1020 (by omega)]; exact e16) hl hf5 (fun f hf => ?_) 20 0 (mI M 1030) (by omega) (fun j hj => ?_)
        · have to5 := hMT.1
          refine wp_aload_n rfl (ck_get kk_Mo_feed 62 rfl) ?_
          refine wp_dup rfl (ck_get kk_Mo_feed 63 rfl) ?_
          refine wp_getIv (v := nI (zT z).1) (ck_get kk_Mo_feed 64 rfl) fl_Mo_179 (by assumption) ((congrFun (up1_ne (f := mI M5) (a := 1030) (x := 1020) (v := f) (by omega)) 16).trans (by rw [hx5 1020 (by omega)]; exact e16)) ?_
          refine wp_bipush (v := nI 20) (by decide) (ck_get kk_Mo_feed 65 rfl) ?_
          first | refine wp_iaddN (ck_get kk_Mo_feed 66 rfl) ?_ | refine wp_iadd (ck_get kk_Mo_feed 66 rfl) ?_
          refine wp_putI (ck_get kk_Mo_feed 67 rfl) fl_Mo_179 (by decide +kernel) (by assumption) (okI_int _) ?_
          refine wp_aload_n rfl (ck_get kk_Mo_feed 68 rfl) ?_
          refine wp_getIv (v := nI ((zT z).1 + 20)) (ck_get kk_Mo_feed 69 rfl) fl_Mo_179 (by assumption) (s_v) ?_
          refine wp_ireturn (ck_get kk_Mo_feed 70 rfl) rfl rfl ⟨_, rfl, ?_⟩
          refine ⟨rfl, ?_, ?_⟩
          · have eM : sI (mk2 M5 (up1 (mI M5) 1030 f) (mJ M5)) 1020 16 (nI ((zT z).1 + 20)) = mk2 M (up2 (up1 (mI M5) 1030 f) 1020 16 (nI ((zT z).1 + 20))) (mJ M) := by
              rw [← hM5]
            rw [eM]
            refine h.tape (t := ((zT z).1 + 20, fdF (zT z).2 (zT z).1 (ar5 a b d e w) 20)) (fun x q1 q2 q3 => ?_) (fun k hk => ?_) up2_v (fun j hj => ?_)
            · rw [up2_o q1, up1_ne q2, hx5 x q3]
            · rw [up2_k hk, up1_ne (by omega), hx5 1020 (by omega)]
            · rw [up2_o (by omega), up1_eq]; exact hf j hj
          · have eM : sI (mk2 M5 (up1 (mI M5) 1030 f) (mJ M5)) 1020 16 (nI ((zT z).1 + 20)) = mk2 M (up2 (up1 (mI M5) 1030 f) 1020 16 (nI ((zT z).1 + 20))) (mJ M) := by
              rw [← hM5]
            rw [eM]
            exact CSame.mk2 (fun x q => ⟨by rw [up2_o (by omega), up1_ne (by omega), hx5 x (by omega)], rfl⟩)
        · rw [show mI M 1030 j = _ from hPM.2.1 j hj]
          unfold fdF
          rw [if_neg (by omega)]
      · omega
  · refine ⟨-1, z, hO.le (by omega), fun M h => ?_, fun M h => ?_⟩
    · skip
      have hC' := h.le (Nat.le_succ c)
      obtain ⟨pf, pg, hL, hSC, hTC, hIC, hDC, hPC, hNC, hBC, hZC⟩ := h
      obtain ⟨t0, ⟨r00, hSh⟩, ⟨r01, hTr⟩, ⟨r02, hTg⟩, ⟨r03, hWa⟩, ⟨r04, hWp⟩, ⟨r06, t921, r921a, r921b, hS0, hS1⟩, ⟨r07, t922⟩, ⟨r08, t923⟩, ⟨r010, hPa⟩, ⟨r011, hJu⟩, ⟨r012, hRe⟩, ⟨r013, hCu⟩, ⟨r014, hDe⟩, ⟨r018, t959⟩, hPf⟩ := id hL
      have t1 : mT M 1 = (6, 0) := hSh.1
      have r10 : mR M 1 0 = some 2 := hSh.2.1
      have hW2 : WoAt (mT M) (mR M) 2 := hSh.2.2.1
      have t2 : mT M 2 = (9, 0) := hW2.1
      have r20 : mR M 2 0 = some 3 := hW2.2.1
      have t3 : mT M 3 = (24, 4) := hW2.2.2.1
      have t31 : mT M 31 = (8, 0) := hTr.1
      have t924 : mT M 924 = (3, 0) := hPa.1
      have t934 : mT M 934 = (2, 0) := hJu.1
      have t938 : mT M 938 = (5, 0) := hRe.1
      have t947 : mT M 947 = (0, 0) := hCu.1
      have t952 : mT M 952 = (1, 0) := hDe.1
      have e9 := hPC.1
      refine cw_entry 0 pf_Mc_feed rfl ?_
      refine wp_aload_n rfl (ck_get kk_Mc_feed 0 rfl) ?_
      first | refine wp_getIv (ck_get kk_Mc_feed 1 rfl) fl_Mc_52 (by assumption) (by assumption) ?_ | refine wp_getI (ck_get kk_Mc_feed 1 rfl) fl_Mc_52 (by assumption) ?_
      refine wp_bipush (v := nI 20) (by decide) (ck_get kk_Mc_feed 2 rfl) ?_
      first | refine wp_iaddN (ck_get kk_Mc_feed 3 rfl) ?_ | refine wp_iadd (ck_get kk_Mc_feed 3 rfl) ?_
      refine wp_sipush (v := nI 400) (by decide) (ck_get kk_Mc_feed 4 rfl) ?_
      first | refine wp_icmp_leN (t := 15) (ck_get kk_Mc_feed 5 rfl) (by decide) (by omega) (by omega) (fun hc10 => ?_) (fun hc10 => ?_) | refine wp_icmp_le (t := 15) (ck_get kk_Mc_feed 5 rfl) (by decide) (fun hc10 => ?_) (fun hc10 => ?_)
      · omega
      · refine wp_iconst (v := (-1)) (by decide) (ck_get kk_Mc_feed 6 rfl) ?_
        refine wp_ireturn (ck_get kk_Mc_feed 7 rfl) rfl rfl ⟨_, rfl, ?_⟩
        exact ⟨rfl, hC', MSame.refl _⟩
    · skip
      obtain ⟨hM, hSM, hUM, hIM, hDM, hPM, hNM, hBM⟩ := id h
      have to0 := hM.1
      have e16 := hPM.1
      refine cw_entry 1 pf_Mo_feed rfl ?_
      refine wp_aload_n rfl (ck_get kk_Mo_feed 0 rfl) ?_
      first | refine wp_getIv (ck_get kk_Mo_feed 1 rfl) fl_Mo_179 (by assumption) (by assumption) ?_ | refine wp_getI (ck_get kk_Mo_feed 1 rfl) fl_Mo_179 (by assumption) ?_
      refine wp_bipush (v := nI 20) (by decide) (ck_get kk_Mo_feed 2 rfl) ?_
      first | refine wp_iaddN (ck_get kk_Mo_feed 3 rfl) ?_ | refine wp_iadd (ck_get kk_Mo_feed 3 rfl) ?_
      refine wp_sipush (v := nI 400) (by decide) (ck_get kk_Mo_feed 4 rfl) ?_
      first | refine wp_icmp_leN (t := 15) (ck_get kk_Mo_feed 5 rfl) (by decide) (by omega) (by omega) (fun hc10 => ?_) (fun hc10 => ?_) | refine wp_icmp_le (t := 15) (ck_get kk_Mo_feed 5 rfl) (by decide) (fun hc10 => ?_) (fun hc10 => ?_)
      · omega
      · refine wp_iconst (v := (-1)) (by decide) (ck_get kk_Mo_feed 6 rfl) ?_
        refine wp_ireturn (ck_get kk_Mo_feed 7 rfl) rfl rfl ⟨_, rfl, ?_⟩
        exact ⟨rfl, h, CSame.refl _⟩
end FED

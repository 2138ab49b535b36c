/-! ===== row ===== -/
section ROW
variable {g : Gl} {M : Mem}
theorem sgb_255 : ∀ b : Fin 256, sgb b.val &&& nI 255 = nI b.val := by decide +kernel
theorem sgb_4 : ∀ b : Fin 256, inB (sgb b.val) 4 = decide (b.val < 4) := by decide +kernel
theorem sgb_lo : ∀ b : Fin 4, sgb b.val = nI b.val := by decide +kernel
section AB
variable (res : (Nat → Int32) → Int32 × Int32) (md salt : Nat) (bt : Nat → Nat)
abbrev RW : Type := WS × Nat × Nat
def rw1 (i : Nat) (s : RW) : RW := if bt (2 * i) < 4 then (rdA res md salt s.1 (bt (2 * i)) (bt (2 * i + 1)), s.2.1 + 1, s.2.2) else (s.1, s.2.1, s.2.2 + 1)
def rwA : Nat → Nat → RW → RW
  | 0, _, s => s
  | d + 1, i, s => rwA d (i + 1) (rw1 res md salt bt i s)
end AB
variable {res : (Nat → Int32) → Int32 × Int32} {md salt : Nat} {bt : Nat → Nat}
theorem rw1_ok (hR : ResOK res) (hb : ∀ j, bt j < 256) {i : Nat} {s : RW} (h : WOK s.1) : WOK (rw1 res md salt bt i s).1 ∧ tot (rw1 res md salt bt i s).1 ≤ tot s.1 + 99 ∧ (rw1 res md salt bt i s).2.1 ≤ s.2.1 + 1 ∧ (rw1 res md salt bt i s).2.2 ≤ s.2.2 + 1 := by
  unfold rw1
  have := hb (2 * i + 1)
  by_cases c : bt (2 * i) < 4
  · rw [if_pos c]
    exact ⟨h.rdA c (by omega), tot_rdA hR, Nat.le_refl _, Nat.le_succ _⟩
  · rw [if_neg c]
    exact ⟨h, Nat.le_add_right _ _, Nat.le_succ _, Nat.le_refl _⟩
theorem rwA_ok (hR : ResOK res) (hb : ∀ j, bt j < 256) : ∀ d i (s : RW), WOK s.1 → WOK (rwA res md salt bt d i s).1 ∧ tot (rwA res md salt bt d i s).1 ≤ tot s.1 + 99 * d
  | 0, _, s, h => ⟨h, Nat.le_refl _⟩
  | d + 1, i, s, h => by
    obtain ⟨a1, a2, -, -⟩ := rw1_ok (md := md) (salt := salt) hR hb (i := i) h
    obtain ⟨b1, b2⟩ := rwA_ok hR hb d (i + 1) (rw1 res md salt bt i s) a1
    exact ⟨b1, by show tot (rwA res md salt bt d (i + 1) (rw1 res md salt bt i s)).1 ≤ _; omega⟩
/-- the class's memory in the loop -/
def RwC (M : Mem) (s : RW) (I : Nat → Nat → Int32) (J : Nat → Nat → Int64) : Prop := WoHas I J 2 s.1 ∧ I 0 15 = nI s.2.2 ∧ (∀ k, k ≠ 15 → I 0 k = mI M 0 k) ∧ ∀ x, x ≠ 0 → x < 2 ∨ 28 ≤ x → x < 934 ∨ 938 ≤ x → I x = mI M x ∧ J x = mJ M x
theorem l_row {c L : Nat} {z : ST} {pf pg : Nat → Nat} (hL : LayC (mT M) (mR M) pf pg) (hN : ShN (mT M) (mR M) (mI M) res md salt) (h9 : mI M 0 9 = nI L) (hL4 : L ≤ 400) (hbt : ∀ j, j < 400 → mI M 923 j = nI (bt j)) (hb : ∀ j, bt j < 256) (hR : ResOK res) {Q : Option Value → Mem → Prop} {R : RW}
    (K : ∀ I J (x2 : Option Value), RwC M (R.1, R.2.1, R.2.2 + L % 2) I J → Wp g Y_Mc_row 300 115 [some (.ref 0), some (.int (nI R.2.1)), x2] [] (mk2 M I J) Q) :
    ∀ d i (s : RW) I J, i + d = L / 2 → s.2.1 ≤ i → s.2.2 ≤ i → WOK s.1 → RwC M s I J → rwA res md salt bt d i s = R → Wp g Y_Mc_row 300 23 [some (.ref 0), some (.int (nI s.2.1)), some (.int (nI (2 * i)))] [] (mk2 M I J) Q := by
  obtain ⟨t0, ⟨r00, hSh⟩, -, -, -, -, -, -, ⟨r08, t923⟩, -⟩ := id hL
  have t1 : mT M 1 = (6, 0) := hSh.1
  have r10 : mR M 1 0 = some 2 := hSh.2.1
  have hW2 : WoAt (mT M) (mR M) 2 := hSh.2.2.1
  intro d
  induction d with
  | zero =>
    intro i s I J h1 hn1 hn2 hO hC hE
    obtain ⟨c1, c2, c3, c4⟩ := id hC
    have f9 : I 0 9 = nI L := by rw [c3 9 (by omega)]; exact h9
    have hE2 : s = R := hE
    by_cases ho : L % 2 = 0
    · skip
      refine wp_iload_n rfl (ck_get kk_Mc_row 14 rfl) ?_
      refine wp_aload_n rfl (ck_get kk_Mc_row 15 rfl) ?_
      refine wp_getIv (v := nI L) (ck_get kk_Mc_row 16 rfl) fl_Mc_52 (by assumption) (f9) ?_
      first | refine wp_icmp_geN (t := 115) (ck_get kk_Mc_row 17 rfl) (by decide) (by omega) (by omega) (fun hc28 => ?_) (fun hc28 => ?_) | refine wp_icmp_ge (t := 115) (ck_get kk_Mc_row 17 rfl) (by decide) (fun hc28 => ?_) (fun hc28 => ?_)
      · subst hE2
        exact K I J _ (by rw [ho]; exact hC)
      · omega
    · have hL1 : L % 2 = 1 := by omega
      refine wp_iload_n rfl (ck_get kk_Mc_row 14 rfl) ?_
      refine wp_aload_n rfl (ck_get kk_Mc_row 15 rfl) ?_
      refine wp_getIv (v := nI L) (ck_get kk_Mc_row 16 rfl) fl_Mc_52 (by assumption) (f9) ?_
      first | refine wp_icmp_geN (t := 115) (ck_get kk_Mc_row 17 rfl) (by decide) (by omega) (by omega) (fun hc28 => ?_) (fun hc28 => ?_) | refine wp_icmp_ge (t := 115) (ck_get kk_Mc_row 17 rfl) (by decide) (fun hc28 => ?_) (fun hc28 => ?_)
      · omega
      · refine wp_iload_n rfl (ck_get kk_Mc_row 18 rfl) ?_
        refine wp_iconst (v := nI 1) (by decide) (ck_get kk_Mc_row 19 rfl) ?_
        first | refine wp_iaddN (ck_get kk_Mc_row 20 rfl) ?_ | refine wp_iadd (ck_get kk_Mc_row 20 rfl) ?_
        refine wp_aload_n rfl (ck_get kk_Mc_row 21 rfl) ?_
        refine wp_getIv (v := nI L) (ck_get kk_Mc_row 22 rfl) fl_Mc_52 (by assumption) (f9) ?_
        first | refine wp_icmp_geN (t := 99) (ck_get kk_Mc_row 23 rfl) (by decide) (by omega) (by omega) (fun hc38 => ?_) (fun hc38 => ?_) | refine wp_icmp_ge (t := 99) (ck_get kk_Mc_row 23 rfl) (by decide) (fun hc38 => ?_) (fun hc38 => ?_)
        · refine wp_aload_n rfl (ck_get kk_Mc_row 56 rfl) ?_
          refine wp_dup rfl (ck_get kk_Mc_row 57 rfl) ?_
          refine wp_getIv (v := nI s.2.2) (ck_get kk_Mc_row 58 rfl) fl_Mc_91 (by assumption) (c2) ?_
          refine wp_iconst (v := nI 1) (by decide) (ck_get kk_Mc_row 59 rfl) ?_
          first | refine wp_iaddN (ck_get kk_Mc_row 60 rfl) ?_ | refine wp_iadd (ck_get kk_Mc_row 60 rfl) ?_
          refine wp_putI (ck_get kk_Mc_row 61 rfl) fl_Mc_91 (by decide +kernel) (by assumption) (okI_int _) ?_
          refine wp_iinc (ck_get kk_Mc_row 62 rfl) rfl (by decide) rfl ?_
          refine wp_goto (t := 23) (ck_get kk_Mc_row 63 rfl) (by decide) ?_
          rw [show nI (2 * i) + Int32.ofInt 2 = nI (2 * i + 2) from nI_add _ 2]
          have f9b : up2 I 0 15 (nI (s.2.2 + 1)) 0 9 = nI L := by rw [up2_k (by omega)]; exact f9
          refine wp_iload_n rfl (ck_get kk_Mc_row 14 rfl) ?_
          refine wp_aload_n rfl (ck_get kk_Mc_row 15 rfl) ?_
          refine wp_getIv (v := nI L) (ck_get kk_Mc_row 16 rfl) fl_Mc_52 (by assumption) (f9b) ?_
          first | refine wp_icmp_geN (t := 115) (ck_get kk_Mc_row 17 rfl) (by decide) (by omega) (by omega) (fun hc28 => ?_) (fun hc28 => ?_) | refine wp_icmp_ge (t := 115) (ck_get kk_Mc_row 17 rfl) (by decide) (fun hc28 => ?_) (fun hc28 => ?_)
          · subst hE2
            refine K (up2 I 0 15 (nI (s.2.2 + 1))) J _ ?_
            rw [hL1]
            exact ⟨c1.kept (fun x q1 q2 => ⟨up2_o (by omega), rfl⟩), up2_v, fun k hk => by rw [up2_k hk]; exact c3 k hk, fun x q1 q2 q3 => ⟨by rw [up2_o q1]; exact (c4 x q1 q2 q3).1, (c4 x q1 q2 q3).2⟩⟩
          · omega
        · omega
  | succ d ih =>
    intro i s I J h1 hn1 hn2 hO hC hE
    obtain ⟨c1, c2, c3, c4⟩ := id hC
    obtain ⟨o1, o2, o3, o4⟩ := rw1_ok (md := md) (salt := salt) hR hb (i := i) hO
    have f9 : I 0 9 = nI L := by rw [c3 9 (by omega)]; exact h9
    have f0 : I 923 (2 * i) = nI (bt (2 * i)) := by rw [(c4 923 (by omega) (by omega) (by omega)).1]; exact hbt _ (by omega)
    have f1 : I 923 (2 * i + 1) = nI (bt (2 * i + 1)) := by rw [(c4 923 (by omega) (by omega) (by omega)).1]; exact hbt _ (by omega)
    have hb0 := hb (2 * i)
    have hb1 := hb (2 * i + 1)
    have hE2 : rwA res md salt bt d (i + 1) (rw1 res md salt bt i s) = R := hE
    have nx : nI (2 * i) + Int32.ofInt 2 = nI (2 * (i + 1)) := nI_add _ 2
    have bk := inB_nI (k := bt (2 * i + 1)) (n := 1000) (by omega) (by omega)
    by_cases c : bt (2 * i) < 4
    · have b4 := inB_nI (k := bt (2 * i)) (n := 4) c (by omega)
      have hN2 : ShN (mT M) (mR M) I res md salt := hN.kept (c4 1 (by omega) (by omega) (by omega)).1 (fun x hx => (c4 x (by omega) (by omega) (by omega)).1)
      have er : rw1 res md salt bt i s = (rdA res md salt s.1 (bt (2 * i)) (bt (2 * i + 1)), s.2.1 + 1, s.2.2) := by unfold rw1; rw [if_pos c]
      refine wp_iload_n rfl (ck_get kk_Mc_row 14 rfl) ?_
      refine wp_aload_n rfl (ck_get kk_Mc_row 15 rfl) ?_
      refine wp_getIv (v := nI L) (ck_get kk_Mc_row 16 rfl) fl_Mc_52 (by assumption) (f9) ?_
      first | refine wp_icmp_geN (t := 115) (ck_get kk_Mc_row 17 rfl) (by decide) (by omega) (by omega) (fun hc28 => ?_) (fun hc28 => ?_) | refine wp_icmp_ge (t := 115) (ck_get kk_Mc_row 17 rfl) (by decide) (fun hc28 => ?_) (fun hc28 => ?_)
      · omega
      · refine wp_iload_n rfl (ck_get kk_Mc_row 18 rfl) ?_
        refine wp_iconst (v := nI 1) (by decide) (ck_get kk_Mc_row 19 rfl) ?_
        first | refine wp_iaddN (ck_get kk_Mc_row 20 rfl) ?_ | refine wp_iadd (ck_get kk_Mc_row 20 rfl) ?_
        refine wp_aload_n rfl (ck_get kk_Mc_row 21 rfl) ?_
        refine wp_getIv (v := nI L) (ck_get kk_Mc_row 22 rfl) fl_Mc_52 (by assumption) (f9) ?_
        first | refine wp_icmp_geN (t := 99) (ck_get kk_Mc_row 23 rfl) (by decide) (by omega) (by omega) (fun hc38 => ?_) (fun hc38 => ?_) | refine wp_icmp_ge (t := 99) (ck_get kk_Mc_row 23 rfl) (by decide) (fun hc38 => ?_) (fun hc38 => ?_)
        · omega
        · refine wp_aload_n rfl (ck_get kk_Mc_row 24 rfl) ?_
          refine wp_getR (ck_get kk_Mc_row 25 rfl) fl_Mc_48 (by assumption) (by assumption) ?_
          refine wp_iload_n rfl (ck_get kk_Mc_row 26 rfl) ?_
          refine wp_ialdv (v := nI (bt (2 * i))) (ck_get kk_Mc_row 27 rfl) (by assumption) (ixk_nI (k := 2 * i) (by omega) (by omega)) (f0) ?_
          refine wp_cS1i (ck_get kk_Mc_row 28 rfl) ml_Mc_103 (by omega) (Nat.le_of_ble_eq_true rfl) (Ci.to (c_isTenant) ?_)
          rintro _ M1 ⟨rfl, eqm1⟩
          obtain rfl := eqm1.symm
          rw [b4]
          first | refine wp_if_eqN (t := 99) (ck_get kk_Mc_row 29 rfl) (by decide) (by omega) (fun hc50 => ?_) (fun hc50 => ?_) | refine wp_if_eq (t := 99) (ck_get kk_Mc_row 29 rfl) (by decide) (fun hc50 => ?_) (fun hc50 => ?_)
          · exact absurd hc50 (by decide)
          · refine wp_aload_n rfl (ck_get kk_Mc_row 30 rfl) ?_
            refine wp_getR (ck_get kk_Mc_row 31 rfl) fl_Mc_48 (by assumption) (by assumption) ?_
            refine wp_iload_n rfl (ck_get kk_Mc_row 32 rfl) ?_
            refine wp_iconst (v := nI 1) (by decide) (ck_get kk_Mc_row 33 rfl) ?_
            first | refine wp_iaddN (ck_get kk_Mc_row 34 rfl) ?_ | refine wp_iadd (ck_get kk_Mc_row 34 rfl) ?_
            refine wp_ialdv (v := nI (bt (2 * i + 1))) (ck_get kk_Mc_row 35 rfl) (by assumption) (ixk_nI (k := 2 * i + 1) (by omega) (by omega)) (f1) ?_
            refine wp_cS1i (ck_get kk_Mc_row 36 rfl) ml_Mc_134 (by omega) (Nat.le_of_ble_eq_true rfl) (Ci.to (c_isKey) ?_)
            rintro _ M1 ⟨rfl, eqm1⟩
            obtain rfl := eqm1.symm
            rw [bk]
            first | refine wp_if_eqN (t := 99) (ck_get kk_Mc_row 37 rfl) (by decide) (by omega) (fun hc64 => ?_) (fun hc64 => ?_) | refine wp_if_eq (t := 99) (ck_get kk_Mc_row 37 rfl) (by decide) (fun hc64 => ?_) (fun hc64 => ?_)
            · exact absurd hc64 (by decide)
            · refine wp_aload_n rfl (ck_get kk_Mc_row 38 rfl) ?_
              refine wp_aload_n rfl (ck_get kk_Mc_row 39 rfl) ?_
              refine wp_getR (ck_get kk_Mc_row 40 rfl) fl_Mc_12 (by assumption) (by assumption) ?_
              refine wp_getR (ck_get kk_Mc_row 41 rfl) fl_Mc_107 (by assumption) (by assumption) ?_
              refine wp_aload_n rfl (ck_get kk_Mc_row 42 rfl) ?_
              refine wp_getR (ck_get kk_Mc_row 43 rfl) fl_Mc_48 (by assumption) (by assumption) ?_
              refine wp_iload_n rfl (ck_get kk_Mc_row 44 rfl) ?_
              refine wp_ialdv (v := nI (bt (2 * i))) (ck_get kk_Mc_row 45 rfl) (by assumption) (ixk_nI (k := 2 * i) (by omega) (by omega)) (f0) ?_
              refine wp_aload_n rfl (ck_get kk_Mc_row 46 rfl) ?_
              refine wp_getR (ck_get kk_Mc_row 47 rfl) fl_Mc_48 (by assumption) (by assumption) ?_
              refine wp_iload_n rfl (ck_get kk_Mc_row 48 rfl) ?_
              refine wp_iconst (v := nI 1) (by decide) (ck_get kk_Mc_row 49 rfl) ?_
              first | refine wp_iaddN (ck_get kk_Mc_row 50 rfl) ?_ | refine wp_iadd (ck_get kk_Mc_row 50 rfl) ?_
              refine wp_ialdv (v := nI (bt (2 * i + 1))) (ck_get kk_Mc_row 51 rfl) (by assumption) (ixk_nI (k := 2 * i + 1) (by omega) (by omega)) (f1) ?_
              refine wp_cV3i (ck_get kk_Mc_row 52 rfl) ml_Mc_204 (by omega) (Nat.le_of_ble_eq_true rfl) (by assumption) (Ci.to (c_readA (res := res) (md := md) (salt := salt) (by exact hL) (by exact hW2) (by omega) (by omega) (by exact c1) hO c (by omega) (by exact hN2)) ?_)
              rintro x M1 ⟨e1, I2, J2, e2, e3, e4⟩
              subst e2
              refine wp_pop rfl (ck_get kk_Mc_row 53 rfl) ?_
              first | refine wp_iincN (ck_get kk_Mc_row 54 rfl) rfl (by decide) rfl ?_ | refine wp_iinc (ck_get kk_Mc_row 54 rfl) rfl (by decide) rfl ?_
              refine wp_goto (t := 109) (ck_get kk_Mc_row 55 rfl) (by decide) ?_
              refine wp_iinc (ck_get kk_Mc_row 62 rfl) rfl (by decide) rfl ?_
              refine wp_goto (t := 23) (ck_get kk_Mc_row 63 rfl) (by decide) ?_
              rw [nx]
              have e := ih (i + 1) (rw1 res md salt bt i s) I2 J2 (by omega) (by omega) (by omega) o1 (by
                rw [er]
                have e40 : I2 0 = I 0 := (e4 0 (by omega) (by omega)).1
                exact ⟨e3, by rw [e40]; exact c2, fun k hk => by rw [e40]; exact c3 k hk, fun x q1 q2 q3 => ⟨(e4 x (by omega) q3).1.trans (c4 x q1 q2 q3).1, (e4 x (by omega) q3).2.trans (c4 x q1 q2 q3).2⟩⟩) hE2
              rw [show (rw1 res md salt bt i s).2.1 = s.2.1 + 1 by rw [er]] at e
              exact e
    · have b4 : inB (nI (bt (2 * i))) 4 = false := by
        rcases i32c (nI (bt (2 * i))) 4 (by omega) with ⟨k, hk, ek⟩ | h
        · exact absurd ((nI_eq (by omega) (by omega)).mp ek) (by omega)
        · exact h.1
      have er : rw1 res md salt bt i s = (s.1, s.2.1, s.2.2 + 1) := by unfold rw1; rw [if_neg c]
      refine wp_iload_n rfl (ck_get kk_Mc_row 14 rfl) ?_
      refine wp_aload_n rfl (ck_get kk_Mc_row 15 rfl) ?_
      refine wp_getIv (v := nI L) (ck_get kk_Mc_row 16 rfl) fl_Mc_52 (by assumption) (f9) ?_
      first | refine wp_icmp_geN (t := 115) (ck_get kk_Mc_row 17 rfl) (by decide) (by omega) (by omega) (fun hc28 => ?_) (fun hc28 => ?_) | refine wp_icmp_ge (t := 115) (ck_get kk_Mc_row 17 rfl) (by decide) (fun hc28 => ?_) (fun hc28 => ?_)
      · omega
      · refine wp_iload_n rfl (ck_get kk_Mc_row 18 rfl) ?_
        refine wp_iconst (v := nI 1) (by decide) (ck_get kk_Mc_row 19 rfl) ?_
        first | refine wp_iaddN (ck_get kk_Mc_row 20 rfl) ?_ | refine wp_iadd (ck_get kk_Mc_row 20 rfl) ?_
        refine wp_aload_n rfl (ck_get kk_Mc_row 21 rfl) ?_
        refine wp_getIv (v := nI L) (ck_get kk_Mc_row 22 rfl) fl_Mc_52 (by assumption) (f9) ?_
        first | refine wp_icmp_geN (t := 99) (ck_get kk_Mc_row 23 rfl) (by decide) (by omega) (by omega) (fun hc38 => ?_) (fun hc38 => ?_) | refine wp_icmp_ge (t := 99) (ck_get kk_Mc_row 23 rfl) (by decide) (fun hc38 => ?_) (fun hc38 => ?_)
        · omega
        · refine wp_aload_n rfl (ck_get kk_Mc_row 24 rfl) ?_
          refine wp_getR (ck_get kk_Mc_row 25 rfl) fl_Mc_48 (by assumption) (by assumption) ?_
          refine wp_iload_n rfl (ck_get kk_Mc_row 26 rfl) ?_
          refine wp_ialdv (v := nI (bt (2 * i))) (ck_get kk_Mc_row 27 rfl) (by assumption) (ixk_nI (k := 2 * i) (by omega) (by omega)) (f0) ?_
          refine wp_cS1i (ck_get kk_Mc_row 28 rfl) ml_Mc_103 (by omega) (Nat.le_of_ble_eq_true rfl) (Ci.to (c_isTenant) ?_)
          rintro _ M1 ⟨rfl, eqm1⟩
          obtain rfl := eqm1.symm
          rw [b4]
          first | refine wp_if_eqN (t := 99) (ck_get kk_Mc_row 29 rfl) (by decide) (by omega) (fun hc50 => ?_) (fun hc50 => ?_) | refine wp_if_eq (t := 99) (ck_get kk_Mc_row 29 rfl) (by decide) (fun hc50 => ?_) (fun hc50 => ?_)
          · refine wp_aload_n rfl (ck_get kk_Mc_row 56 rfl) ?_
            refine wp_dup rfl (ck_get kk_Mc_row 57 rfl) ?_
            refine wp_getIv (v := nI s.2.2) (ck_get kk_Mc_row 58 rfl) fl_Mc_91 (by assumption) (c2) ?_
            refine wp_iconst (v := nI 1) (by decide) (ck_get kk_Mc_row 59 rfl) ?_
            first | refine wp_iaddN (ck_get kk_Mc_row 60 rfl) ?_ | refine wp_iadd (ck_get kk_Mc_row 60 rfl) ?_
            refine wp_putI (ck_get kk_Mc_row 61 rfl) fl_Mc_91 (by decide +kernel) (by assumption) (okI_int _) ?_
            refine wp_iinc (ck_get kk_Mc_row 62 rfl) rfl (by decide) rfl ?_
            refine wp_goto (t := 23) (ck_get kk_Mc_row 63 rfl) (by decide) ?_
            rw [nx]
            have e := ih (i + 1) (rw1 res md salt bt i s) (up2 I 0 15 (nI (s.2.2 + 1))) J (by omega) (by omega) (by omega) o1 (by
              rw [er]
              exact ⟨c1.kept (fun x q1 q2 => ⟨up2_o (by omega), rfl⟩), up2_v, fun k hk => by rw [up2_k hk]; exact c3 k hk, fun x q1 q2 q3 => ⟨by rw [up2_o q1]; exact (c4 x q1 q2 q3).1, (c4 x q1 q2 q3).2⟩⟩) hE2
            rw [show (rw1 res md salt bt i s).2.1 = s.2.1 by rw [er]] at e
            exact e
          · exact absurd (by decide) hc50
/-- the model's loop -/
theorem l_moRow {L : Nat} (hM : MoAt (mT M) (mR M) 1020) (hL4 : L ≤ 400) (hbt : ∀ j, j < 400 → mI M 1030 j = sgb (bt j)) (hb : ∀ j, bt j < 256) (hR : ResOK res) {Q : Option Value → Mem → Prop} {R : RW} {F0 : Nat → Int32} {K0 : Nat → Int32}
    (Kc : ∀ K P A F (x3 x4 : Option Value), MwHas K P 0 0 R.1 → (∀ x, 369 ≤ x → K x = K0 x) → F 9 = nI (R.2.2 + L % 2) → (∀ k, k < 25 ∨ 29 ≤ k → k ≠ 9 → F k = F0 k) → (∃ b, F 27 = bI b) → Wp g Y_Mo_row 300 116 [some (.ref 1020), some (.int (nI L)), some (.int (nI R.2.1)), x3, x4] [] (wkM M 1020 K P A F) Q) :
    ∀ d i (s : RW) K P A F (x4 : Option Value), i + d = L / 2 → s.2.1 ≤ i → s.2.2 ≤ i → WOK s.1 → MwHas K P 0 0 s.1 → (∀ x, 369 ≤ x → K x = K0 x) → MoN K res md salt → F 9 = nI (s.2.2 + L % 2) → (∀ k, k < 25 ∨ 29 ≤ k → k ≠ 9 → F k = F0 k) → (∃ b, F 27 = bI b) → rwA res md salt bt d i s = R → Wp g Y_Mo_row 300 32 [some (.ref 1020), some (.int (nI L)), some (.int (nI s.2.1)), some (.int (nI (2 * i))), x4] [] (wkM M 1020 K P A F) Q := by
  have to0 := hM.1
  have rftape := MoAt.r hM 9 rfl
  have tftape := MoAt.t hM 9 rfl
  intro d
  induction d with
  | zero =>
    intro i s K P A F x4 h1 hn1 hn2 hO hW hK hN h9 hF hb27 hE
    have hE2 : s = R := hE
    refine wp_iload_n rfl (ck_get kk_Mo_row 21 rfl) ?_
    refine wp_iconst (v := nI 2) (by decide) (ck_get kk_Mo_row 22 rfl) ?_
    first | refine wp_iaddN (ck_get kk_Mo_row 23 rfl) ?_ | refine wp_iadd (ck_get kk_Mo_row 23 rfl) ?_
    refine wp_iload_n rfl (ck_get kk_Mo_row 24 rfl) ?_
    first | refine wp_icmp_gtN (t := 116) (ck_get kk_Mo_row 25 rfl) (by decide) (by omega) (by omega) (fun hc36 => ?_) (fun hc36 => ?_) | refine wp_icmp_gt (t := 116) (ck_get kk_Mo_row 25 rfl) (by decide) (fun hc36 => ?_) (fun hc36 => ?_)
    · subst hE2
      exact Kc K P A F _ _ hW hK h9 hF hb27
    · omega
  | succ d ih =>
    intro i s K P A F x4 h1 hn1 hn2 hO hW hK hN h9 hF hb27 hE
    obtain ⟨o1, o2, o3, o4⟩ := rw1_ok (md := md) (salt := salt) hR hb (i := i) hO
    have hb0 := hb (2 * i)
    have hb1 := hb (2 * i + 1)
    have f0 : mI (wkM M 1020 K P A F) (1020 + 10) (2 * i) = sgb (bt (2 * i)) := by rw [wk_x (by omega) (by omega) (by omega)]; exact hbt _ (by omega)
    have hE2 : rwA res md salt bt d (i + 1) (rw1 res md salt bt i s) = R := hE
    have nx : nI (2 * i) + Int32.ofInt 2 = nI (2 * (i + 1)) := nI_add _ 2
    have b4 : inB (sgb (bt (2 * i))) 4 = decide (bt (2 * i) < 4) := sgb_4 ⟨bt (2 * i), hb0⟩
    by_cases c : bt (2 * i) < 4
    · rw [decide_eq_true c] at b4
      have es : sgb (bt (2 * i)) = nI (bt (2 * i)) := sgb_lo ⟨bt (2 * i), c⟩
      have er : rw1 res md salt bt i s = (rdA res md salt s.1 (bt (2 * i)) (bt (2 * i + 1)), s.2.1 + 1, s.2.2) := by unfold rw1; rw [if_pos c]
      refine wp_iload_n rfl (ck_get kk_Mo_row 21 rfl) ?_
      refine wp_iconst (v := nI 2) (by decide) (ck_get kk_Mo_row 22 rfl) ?_
      first | refine wp_iaddN (ck_get kk_Mo_row 23 rfl) ?_ | refine wp_iadd (ck_get kk_Mo_row 23 rfl) ?_
      refine wp_iload_n rfl (ck_get kk_Mo_row 24 rfl) ?_
      first | refine wp_icmp_gtN (t := 116) (ck_get kk_Mo_row 25 rfl) (by decide) (by omega) (by omega) (fun hc36 => ?_) (fun hc36 => ?_) | refine wp_icmp_gt (t := 116) (ck_get kk_Mo_row 25 rfl) (by decide) (fun hc36 => ?_) (fun hc36 => ?_)
      · omega
      · refine wp_aload_n rfl (ck_get kk_Mo_row 26 rfl) ?_
        refine wp_getR (ck_get kk_Mo_row 27 rfl) fl_Mo_55 (by assumption) (by assumption) ?_
        refine wp_iload_n rfl (ck_get kk_Mo_row 28 rfl) ?_
        refine wp_bald (ck_get kk_Mo_row 29 rfl) (by assumption) (ixk_nI (k := 2 * i) (by omega) (by omega)) ?_
        rw [f0]
        refine wp_cS1i (ck_get kk_Mo_row 30 rfl) ml_Mo_152 (by omega) (Nat.le_of_ble_eq_true rfl) (Ci.to (m_isTenant) ?_)
        rintro _ M1 ⟨rfl, eqm1⟩
        obtain rfl := eqm1.symm
        rw [b4]
        refine wp_istore (ck_get kk_Mo_row 31 rfl) (by decide) rfl ?_
        refine wp_iload rfl (ck_get kk_Mo_row 32 rfl) ?_
        first | refine wp_if_eqN (t := 78) (ck_get kk_Mo_row 33 rfl) (by decide) (by omega) (fun hc52 => ?_) (fun hc52 => ?_) | refine wp_if_eq (t := 78) (ck_get kk_Mo_row 33 rfl) (by decide) (fun hc52 => ?_) (fun hc52 => ?_)
        · exact absurd hc52 (by decide)
        · refine wp_aload_n rfl (ck_get kk_Mo_row 34 rfl) ?_
          refine wp_aload_n rfl (ck_get kk_Mo_row 35 rfl) ?_
          refine wp_getR (ck_get kk_Mo_row 36 rfl) fl_Mo_55 (by assumption) (by assumption) ?_
          refine wp_iload_n rfl (ck_get kk_Mo_row 37 rfl) ?_
          refine wp_bald (ck_get kk_Mo_row 38 rfl) (by assumption) (ixk_nI (k := 2 * i) (by omega) (by omega)) ?_
          rw [f0, es]
          refine wp_aload_n rfl (ck_get kk_Mo_row 39 rfl) ?_
          refine wp_getR (ck_get kk_Mo_row 40 rfl) fl_Mo_55 (by assumption) (by assumption) ?_
          refine wp_iload_n rfl (ck_get kk_Mo_row 41 rfl) ?_
          refine wp_iconst (v := nI 1) (by decide) (ck_get kk_Mo_row 42 rfl) ?_
          first | refine wp_iaddN (ck_get kk_Mo_row 43 rfl) ?_ | refine wp_iadd (ck_get kk_Mo_row 43 rfl) ?_
          refine wp_bald (ck_get kk_Mo_row 44 rfl) (by assumption) (ixk_nI (k := 2 * i + 1) (by omega) (by omega)) ?_
          rw [show mI (wkM M 1020 K P A F) (1020 + 10) (2 * i + 1) = sgb (bt (2 * i + 1)) by rw [wk_x (by omega) (by omega) (by omega)]; exact hbt _ (by omega)]
          refine wp_sipush (v := nI 255) (by decide) (ck_get kk_Mo_row 45 rfl) ?_
          refine wp_iand (ck_get kk_Mo_row 46 rfl) ?_
          rw [sgb_255 ⟨bt (2 * i + 1), hb1⟩]
          refine wp_cV2i (ck_get kk_Mo_row 47 rfl) ml_Mo_185 (by omega) (Nat.le_of_ble_eq_true rfl) (by assumption) (Ci.to (m_readA (res := res) (md := md) (salt := salt) (by exact hM) hW hO c (by omega) hN hb27) ?_)
          rintro x M1 ⟨e1, K2, P2, A2, F2, e2, e3, e4, e5⟩
          subst e2
          refine wp_pop rfl (ck_get kk_Mo_row 48 rfl) ?_
          refine wp_iload_n rfl (ck_get kk_Mo_row 49 rfl) ?_
          refine wp_iload rfl (ck_get kk_Mo_row 50 rfl) ?_
          first | refine wp_if_eqN (t := 88) (ck_get kk_Mo_row 51 rfl) (by decide) (by omega) (fun hc81 => ?_) (fun hc81 => ?_) | refine wp_if_eq (t := 88) (ck_get kk_Mo_row 51 rfl) (by decide) (fun hc81 => ?_) (fun hc81 => ?_)
          · exact absurd hc81 (by decide)
          · refine wp_iconst (v := nI 1) (by decide) (ck_get kk_Mo_row 52 rfl) ?_
            refine wp_goto (t := 89) (ck_get kk_Mo_row 53 rfl) (by decide) ?_
            first | refine wp_iaddN (ck_get kk_Mo_row 55 rfl) ?_ | refine wp_iadd (ck_get kk_Mo_row 55 rfl) ?_
            refine wp_istore_n (ck_get kk_Mo_row 56 rfl) (by decide) rfl ?_
            refine wp_aload_n rfl (ck_get kk_Mo_row 57 rfl) ?_
            refine wp_dup rfl (ck_get kk_Mo_row 58 rfl) ?_
            refine wp_getIv (v := nI (s.2.2 + L % 2)) (ck_get kk_Mo_row 59 rfl) fl_Mo_182 (by assumption) ((by rw [wk_o, e5.1 9 (by omega)]; exact h9)) ?_
            refine wp_iload rfl (ck_get kk_Mo_row 60 rfl) ?_
            first | refine wp_if_eqN (t := 105) (ck_get kk_Mo_row 61 rfl) (by decide) (by omega) (fun hc98 => ?_) (fun hc98 => ?_) | refine wp_if_eq (t := 105) (ck_get kk_Mo_row 61 rfl) (by decide) (fun hc98 => ?_) (fun hc98 => ?_)
            · exact absurd hc98 (by decide)
            · refine wp_iconst (v := nI 0) (by decide) (ck_get kk_Mo_row 62 rfl) ?_
              refine wp_goto (t := 106) (ck_get kk_Mo_row 63 rfl) (by decide) ?_
              first | refine wp_iaddN (ck_get kk_Mo_row 65 rfl) ?_ | refine wp_iadd (ck_get kk_Mo_row 65 rfl) ?_
              refine wp_putI (ck_get kk_Mo_row 66 rfl) fl_Mo_182 (by decide +kernel) (by assumption) (okI_int _) ?_
              refine wp_iinc (ck_get kk_Mo_row 67 rfl) rfl (by decide) rfl ?_
              refine wp_goto (t := 32) (ck_get kk_Mo_row 68 rfl) (by decide) ?_
              rw [nx, wk_sF]
              have e := ih (i + 1) (rw1 res md salt bt i s) K2 P2 A2 (up1 F2 9 (nI (s.2.2 + L % 2 + 0))) (some (.int (bI true))) (by omega) (by omega) (by omega) o1 (by rw [er]; exact e3) (fun x hx => (e4 x hx).trans (hK x hx)) (hN.kept e4) (by rw [er, up1_eq]; rfl) (fun k q1 q2 => by rw [up1_ne q2, e5.1 k q1]; exact hF k q1 q2) (by rw [up1_ne (by omega)]; exact e5.2) hE2
              rw [show (rw1 res md salt bt i s).2.1 = s.2.1 + 1 by rw [er]] at e
              exact e
    · rw [decide_eq_false c] at b4
      have er : rw1 res md salt bt i s = (s.1, s.2.1, s.2.2 + 1) := by unfold rw1; rw [if_neg c]
      refine wp_iload_n rfl (ck_get kk_Mo_row 21 rfl) ?_
      refine wp_iconst (v := nI 2) (by decide) (ck_get kk_Mo_row 22 rfl) ?_
      first | refine wp_iaddN (ck_get kk_Mo_row 23 rfl) ?_ | refine wp_iadd (ck_get kk_Mo_row 23 rfl) ?_
      refine wp_iload_n rfl (ck_get kk_Mo_row 24 rfl) ?_
      first | refine wp_icmp_gtN (t := 116) (ck_get kk_Mo_row 25 rfl) (by decide) (by omega) (by omega) (fun hc36 => ?_) (fun hc36 => ?_) | refine wp_icmp_gt (t := 116) (ck_get kk_Mo_row 25 rfl) (by decide) (fun hc36 => ?_) (fun hc36 => ?_)
      · omega
      · refine wp_aload_n rfl (ck_get kk_Mo_row 26 rfl) ?_
        refine wp_getR (ck_get kk_Mo_row 27 rfl) fl_Mo_55 (by assumption) (by assumption) ?_
        refine wp_iload_n rfl (ck_get kk_Mo_row 28 rfl) ?_
        refine wp_bald (ck_get kk_Mo_row 29 rfl) (by assumption) (ixk_nI (k := 2 * i) (by omega) (by omega)) ?_
        rw [f0]
        refine wp_cS1i (ck_get kk_Mo_row 30 rfl) ml_Mo_152 (by omega) (Nat.le_of_ble_eq_true rfl) (Ci.to (m_isTenant) ?_)
        rintro _ M1 ⟨rfl, eqm1⟩
        obtain rfl := eqm1.symm
        rw [b4]
        refine wp_istore (ck_get kk_Mo_row 31 rfl) (by decide) rfl ?_
        refine wp_iload rfl (ck_get kk_Mo_row 32 rfl) ?_
        first | refine wp_if_eqN (t := 78) (ck_get kk_Mo_row 33 rfl) (by decide) (by omega) (fun hc52 => ?_) (fun hc52 => ?_) | refine wp_if_eq (t := 78) (ck_get kk_Mo_row 33 rfl) (by decide) (fun hc52 => ?_) (fun hc52 => ?_)
        · refine wp_iload_n rfl (ck_get kk_Mo_row 49 rfl) ?_
          refine wp_iload rfl (ck_get kk_Mo_row 50 rfl) ?_
          first | refine wp_if_eqN (t := 88) (ck_get kk_Mo_row 51 rfl) (by decide) (by omega) (fun hc81 => ?_) (fun hc81 => ?_) | refine wp_if_eq (t := 88) (ck_get kk_Mo_row 51 rfl) (by decide) (fun hc81 => ?_) (fun hc81 => ?_)
          · refine wp_iconst (v := nI 0) (by decide) (ck_get kk_Mo_row 54 rfl) ?_
            first | refine wp_iaddN (ck_get kk_Mo_row 55 rfl) ?_ | refine wp_iadd (ck_get kk_Mo_row 55 rfl) ?_
            refine wp_istore_n (ck_get kk_Mo_row 56 rfl) (by decide) rfl ?_
            refine wp_aload_n rfl (ck_get kk_Mo_row 57 rfl) ?_
            refine wp_dup rfl (ck_get kk_Mo_row 58 rfl) ?_
            refine wp_getIv (v := nI (s.2.2 + L % 2)) (ck_get kk_Mo_row 59 rfl) fl_Mo_182 (by assumption) ((by rw [wk_o]; exact h9)) ?_
            refine wp_iload rfl (ck_get kk_Mo_row 60 rfl) ?_
            first | refine wp_if_eqN (t := 105) (ck_get kk_Mo_row 61 rfl) (by decide) (by omega) (fun hc98 => ?_) (fun hc98 => ?_) | refine wp_if_eq (t := 105) (ck_get kk_Mo_row 61 rfl) (by decide) (fun hc98 => ?_) (fun hc98 => ?_)
            · refine wp_iconst (v := nI 1) (by decide) (ck_get kk_Mo_row 64 rfl) ?_
              first | refine wp_iaddN (ck_get kk_Mo_row 65 rfl) ?_ | refine wp_iadd (ck_get kk_Mo_row 65 rfl) ?_
              refine wp_putI (ck_get kk_Mo_row 66 rfl) fl_Mo_182 (by decide +kernel) (by assumption) (okI_int _) ?_
              refine wp_iinc (ck_get kk_Mo_row 67 rfl) rfl (by decide) rfl ?_
              refine wp_goto (t := 32) (ck_get kk_Mo_row 68 rfl) (by decide) ?_
              rw [nx, wk_sF]
              have e := ih (i + 1) (rw1 res md salt bt i s) K P A (up1 F 9 (nI (s.2.2 + L % 2 + 1))) (some (.int (bI false))) (by omega) (by omega) (by omega) o1 (by rw [er]; exact hW) hK hN (by rw [er, up1_eq, show s.2.2 + 1 + L % 2 = s.2.2 + L % 2 + 1 by omega]) (fun k q1 q2 => by rw [up1_ne q2]; exact hF k q1 q2) (by rw [up1_ne (by omega)]; exact hb27) hE2
              rw [show (rw1 res md salt bt i s).2.1 = s.2.1 + 0 by rw [er]; rfl] at e
              exact e
            · exact absurd (by decide) hc98
          · exact absurd (by decide) hc81
        · exact absurd (by decide) hc52
end ROW

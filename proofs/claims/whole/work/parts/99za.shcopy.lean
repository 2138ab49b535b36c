/-! ===== a shop is copied ===== -/
section SHP
variable {g : Gl} {M : Mem}
section AN
variable {Y : Meth} {n pc : Nat} {lv : List (Option Value)} {st : List Value} {Q : Option Value → Mem → Prop}
theorem wp_aastN {a len k κ : Nat} {i : Int32} (hd : decode Y.2.1 pc = .ok (.aastore, 1)) (hT : mT M a = (κ, len)) (hi : ixk i len k) (kk : Wp g Y n (pc + 1) lv st (sR M a k none) Q) (h1 : 24 ≤ κ := by decide) (h2 : κ < 28 := by decide) : Wp g Y n pc lv (.null :: .int i :: .ref a :: st) M Q := by
  refine wp_mem (dz := 0) (dl := 0) (M2 := sR M a k none) rfl rfl (fun p e R s m args below meth c H locs cells slots Q ls hF hlv hW hL _ _ k0 => ?_) kk
  obtain ⟨⟨hx, hb, -⟩, hown, hts, hK, -⟩ := hF
  obtain ⟨r, hr1, hr2, hr3⟩ := acls_ok h1 h2
  obtain ⟨-, hc⟩ := hW.arr hT (by omega) h2
  have hty := hK.2 _ _ (tys_at g (Nat.le_trans (by decide) h1) h2)
  refine va_WaastN (C := r.1) hx hb hc (by rw [← hr2]; exact hty.1 _ _) (fun h => by cases h) (by rw [arrV_size]; exact fun q => q.elim hi.1 (fun z => by rw [hi.2.1] at z; have := hi.2.2; omega)) rfl rfl hd fun H2 e1 e2 e3 => ?_
  rw [hi.2.1] at e1 ⊢
  exact k0 H2 _ (hW.ast hT (by omega) h2 rfl rfl (fun _ _ _ h => vl_sR h) ((vl_sR_at (by rw [hr2]; rfl)).trans rfl) (fun _ _ h => vl_sR_ne h) e1 e2 e3) (locs_add hL (Nat.le_add_right _ _))
end AN
abbrev mk5 (M : Mem) (I : Nat → Nat → Int32) (J : Nat → Nat → Int64) (R : Nat → Nat → Option Nat) : Mem := (M.1, M.2.1, I, J, R)
theorem l_shc1 {a b : Nat} {I0 : Nat → Nat → Int32} {J : Nat → Nat → Int64} (hA : ShAt (mT M) (mR M) a) (hB : ShAt (mT M) (mR M) b) (hd : a + 30 ≤ b ∨ b + 30 ≤ a) {Q : Option Value → Mem → Prop}
    (K : ∀ I, (∀ x, x ≠ a + 27 → x ≠ a + 28 → I x = I0 x) → (∀ y, y < 6 → I (a + 27) y = I0 (b + 27) y ∧ I (a + 28) y = I0 (b + 28) y) → Wp g Y_Sh_copyFrom 3 81 [some (.ref a), some (.ref b), some (.int (nI 6))] [] (mk2 M I J) Q) :
    ∀ k i I, i + k = 6 → (∀ x, x ≠ a + 27 → x ≠ a + 28 → I x = I0 x) → (∀ y, y < i → I (a + 27) y = I0 (b + 27) y ∧ I (a + 28) y = I0 (b + 28) y) → Wp g Y_Sh_copyFrom 3 45 [some (.ref a), some (.ref b), some (.int (nI i))] [] (mk2 M I J) Q := by
  obtain ⟨ta, -, -, ra5, ta5, ra6, ta6, ra8, ta8⟩ := hA
  obtain ⟨tb, -, -, rb5, tb5, rb6, tb6, rb8, tb8⟩ := hB
  intro k
  induction k with
  | zero =>
    intro i I h1 h2 h3
    refine wp_iload_n rfl (ck_get kk_Sh_copyFrom 23 rfl) ?_
    refine wp_bipush (v := nI 6) (by decide) (ck_get kk_Sh_copyFrom 24 rfl) ?_
    first | refine wp_icmp_geN (t := 81) (ck_get kk_Sh_copyFrom 25 rfl) (by decide) (by omega) (by omega) (fun hc48 => ?_) (fun hc48 => ?_) | refine wp_icmp_ge (t := 81) (ck_get kk_Sh_copyFrom 25 rfl) (by decide) (fun hc48 => ?_) (fun hc48 => ?_)
    · obtain rfl : i = 6 := by omega
      exact K I h2 h3
    · omega
  | succ k ih =>
    intro i I h1 h2 h3
    refine wp_iload_n rfl (ck_get kk_Sh_copyFrom 23 rfl) ?_
    refine wp_bipush (v := nI 6) (by decide) (ck_get kk_Sh_copyFrom 24 rfl) ?_
    first | refine wp_icmp_geN (t := 81) (ck_get kk_Sh_copyFrom 25 rfl) (by decide) (by omega) (by omega) (fun hc48 => ?_) (fun hc48 => ?_) | refine wp_icmp_ge (t := 81) (ck_get kk_Sh_copyFrom 25 rfl) (by decide) (fun hc48 => ?_) (fun hc48 => ?_)
    · omega
    · refine wp_aload_n rfl (ck_get kk_Sh_copyFrom 26 rfl) ?_
      refine wp_getR (ck_get kk_Sh_copyFrom 27 rfl) fl_Sh_31 (by assumption) (by assumption) ?_
      refine wp_iload_n rfl (ck_get kk_Sh_copyFrom 28 rfl) ?_
      refine wp_aload_n rfl (ck_get kk_Sh_copyFrom 29 rfl) ?_
      refine wp_getR (ck_get kk_Sh_copyFrom 30 rfl) fl_Sh_31 (by assumption) (by assumption) ?_
      refine wp_iload_n rfl (ck_get kk_Sh_copyFrom 31 rfl) ?_
      refine wp_ialdv (v := I0 (b + 27) i) (ck_get kk_Sh_copyFrom 32 rfl) (by assumption) (ixk_nI (k := i) (by omega) (by omega)) (show I (b + 27) i = _ by rw [h2 _ (by omega) (by omega)]) ?_
      refine wp_iast (ck_get kk_Sh_copyFrom 33 rfl) (by assumption) (ixk_nI (k := i) (by omega) (by omega)) ?_
      refine wp_aload_n rfl (ck_get kk_Sh_copyFrom 34 rfl) ?_
      refine wp_getR (ck_get kk_Sh_copyFrom 35 rfl) fl_Sh_35 (by assumption) (by assumption) ?_
      refine wp_iload_n rfl (ck_get kk_Sh_copyFrom 36 rfl) ?_
      refine wp_aload_n rfl (ck_get kk_Sh_copyFrom 37 rfl) ?_
      refine wp_getR (ck_get kk_Sh_copyFrom 38 rfl) fl_Sh_35 (by assumption) (by assumption) ?_
      refine wp_iload_n rfl (ck_get kk_Sh_copyFrom 39 rfl) ?_
      refine wp_ialdv (v := I0 (b + 28) i) (ck_get kk_Sh_copyFrom 40 rfl) (by assumption) (ixk_nI (k := i) (by omega) (by omega)) (show up2 I (a + 27) i _ (b + 28) i = _ by rw [up2_o (by omega), h2 _ (by omega) (by omega)]) ?_
      refine wp_iast (ck_get kk_Sh_copyFrom 41 rfl) (by assumption) (ixk_nI (k := i) (by omega) (by omega)) ?_
      first | refine wp_iincN (ck_get kk_Sh_copyFrom 42 rfl) rfl (by decide) rfl ?_ | refine wp_iinc (ck_get kk_Sh_copyFrom 42 rfl) rfl (by decide) rfl ?_
      refine wp_goto (t := 45) (ck_get kk_Sh_copyFrom 43 rfl) (by decide) ?_
      refine ih (i + 1) (up2 (up2 I (a + 27) i (I0 (b + 27) i)) (a + 28) i (I0 (b + 28) i)) (by omega) (fun x q1 q2 => ?_) (fun y hy => ?_)
      · rw [up2_o q2, up2_o q1]; exact h2 x q1 q2
      · rw [up2_o (show a + 27 ≠ a + 28 by omega)]
        by_cases e : y = i
        · subst e
          rw [up2_v, up2_v]; exact ⟨rfl, rfl⟩
        · rw [up2_k e, up2_k e, up2_o (show a + 28 ≠ a + 27 by omega)]
          exact h3 y (by omega)
theorem l_shc2 {a b : Nat} {I : Nat → Nat → Int32} {J : Nat → Nat → Int64} (hA : ShAt (mT M) (mR M) a) (hB : ShAt (mT M) (mR M) b) (hd : a + 30 ≤ b ∨ b + 30 ≤ a) (hL : LwT (mT M) (mR M) (b + 29)) {Q : Option Value → Mem → Prop}
    (K : ∀ R, (∀ x, x ≠ a + 29 → R x = mR M x) → (∀ y, y < 6 → R (a + 29) y = mR M (b + 29) y) → Wp g Y_Sh_copyFrom 3 115 [some (.ref a), some (.ref b), some (.int (nI 6))] [] (mk5 M I J R) Q) :
    ∀ k i R, i + k = 6 → (∀ x, x ≠ a + 29 → R x = mR M x) → (∀ y, y < i → R (a + 29) y = mR M (b + 29) y) → Wp g Y_Sh_copyFrom 3 91 [some (.ref a), some (.ref b), some (.int (nI i))] [] (mk5 M I J R) Q := by
  obtain ⟨ta, -, -, ra5, ta5, ra6, ta6, ra8, ta8⟩ := hA
  obtain ⟨tb, -, -, rb5, tb5, rb6, tb6, rb8, tb8⟩ := hB
  intro k
  induction k with
  | zero =>
    intro i R h1 h2 h3
    refine wp_iload_n rfl (ck_get kk_Sh_copyFrom 50 rfl) ?_
    refine wp_bipush (v := nI 6) (by decide) (ck_get kk_Sh_copyFrom 51 rfl) ?_
    first | refine wp_icmp_geN (t := 115) (ck_get kk_Sh_copyFrom 52 rfl) (by decide) (by omega) (by omega) (fun hc94 => ?_) (fun hc94 => ?_) | refine wp_icmp_ge (t := 115) (ck_get kk_Sh_copyFrom 52 rfl) (by decide) (fun hc94 => ?_) (fun hc94 => ?_)
    · obtain rfl : i = 6 := by omega
      exact K R h2 h3
    · omega
  | succ k ih =>
    intro i R h1 h2 h3
    have ra : R a 8 = some (a + 29) := by rw [h2 a (by omega)]; exact ra8
    have rb : R b 8 = some (b + 29) := by rw [h2 b (by omega)]; exact rb8
    have rl : R (b + 29) i = mR M (b + 29) i := by rw [h2 _ (by omega)]
    have hn : ∀ v, mR M (b + 29) i = v → ∀ x, x ≠ a + 29 → up2 R (a + 29) i v x = mR M x := fun v hv x hx => by rw [up2_o hx]; exact h2 x hx
    have hm : ∀ v, mR M (b + 29) i = v → ∀ y, y < i + 1 → up2 R (a + 29) i v (a + 29) y = mR M (b + 29) y := fun v hv y hy => by
      by_cases e : y = i
      · subst e; rw [up2_v, hv]
      · rw [up2_k e]; exact h3 y (by omega)
    rcases hL i (by omega) with hnl | ⟨p, hp, hp2, hp3⟩
    · have rl2 : R (b + 29) i = none := rl.trans hnl
      refine wp_iload_n rfl (ck_get kk_Sh_copyFrom 50 rfl) ?_
      refine wp_bipush (v := nI 6) (by decide) (ck_get kk_Sh_copyFrom 51 rfl) ?_
      first | refine wp_icmp_geN (t := 115) (ck_get kk_Sh_copyFrom 52 rfl) (by decide) (by omega) (by omega) (fun hc94 => ?_) (fun hc94 => ?_) | refine wp_icmp_ge (t := 115) (ck_get kk_Sh_copyFrom 52 rfl) (by decide) (fun hc94 => ?_) (fun hc94 => ?_)
      · omega
      · refine wp_aload_n rfl (ck_get kk_Sh_copyFrom 53 rfl) ?_
        refine wp_getR (ck_get kk_Sh_copyFrom 54 rfl) fl_Sh_43 (by assumption) (by assumption) ?_
        refine wp_iload_n rfl (ck_get kk_Sh_copyFrom 55 rfl) ?_
        refine wp_aload_n rfl (ck_get kk_Sh_copyFrom 56 rfl) ?_
        refine wp_getR (ck_get kk_Sh_copyFrom 57 rfl) fl_Sh_43 (by assumption) (by assumption) ?_
        refine wp_iload_n rfl (ck_get kk_Sh_copyFrom 58 rfl) ?_
        refine wp_aaldN (ck_get kk_Sh_copyFrom 59 rfl) (by exact tb8) (ixk_nI (k := i) (by omega) (by omega)) (by exact rl2) ?_
        refine wp_aastN (ck_get kk_Sh_copyFrom 60 rfl) (by exact ta8) (ixk_nI (k := i) (by omega) (by omega)) ?_
        first | refine wp_iincN (ck_get kk_Sh_copyFrom 61 rfl) rfl (by decide) rfl ?_ | refine wp_iinc (ck_get kk_Sh_copyFrom 61 rfl) rfl (by decide) rfl ?_
        refine wp_goto (t := 91) (ck_get kk_Sh_copyFrom 62 rfl) (by decide) ?_
        exact ih (i + 1) _ (by omega) (hn none hnl) (hm none hnl)
    · have rl2 : R (b + 29) i = some p := rl.trans hp
      refine wp_iload_n rfl (ck_get kk_Sh_copyFrom 50 rfl) ?_
      refine wp_bipush (v := nI 6) (by decide) (ck_get kk_Sh_copyFrom 51 rfl) ?_
      first | refine wp_icmp_geN (t := 115) (ck_get kk_Sh_copyFrom 52 rfl) (by decide) (by omega) (by omega) (fun hc94 => ?_) (fun hc94 => ?_) | refine wp_icmp_ge (t := 115) (ck_get kk_Sh_copyFrom 52 rfl) (by decide) (fun hc94 => ?_) (fun hc94 => ?_)
      · omega
      · refine wp_aload_n rfl (ck_get kk_Sh_copyFrom 53 rfl) ?_
        refine wp_getR (ck_get kk_Sh_copyFrom 54 rfl) fl_Sh_43 (by assumption) (by assumption) ?_
        refine wp_iload_n rfl (ck_get kk_Sh_copyFrom 55 rfl) ?_
        refine wp_aload_n rfl (ck_get kk_Sh_copyFrom 56 rfl) ?_
        refine wp_getR (ck_get kk_Sh_copyFrom 57 rfl) fl_Sh_43 (by assumption) (by assumption) ?_
        refine wp_iload_n rfl (ck_get kk_Sh_copyFrom 58 rfl) ?_
        refine wp_aald (ck_get kk_Sh_copyFrom 59 rfl) (by exact tb8) (ixk_nI (k := i) (by omega) (by omega)) (by exact rl2) ?_
        refine wp_aast (b := p) (ck_get kk_Sh_copyFrom 60 rfl) (by exact ta8) (ixk_nI (k := i) (by omega) (by omega)) (by exact hp3) ?_
        first | refine wp_iincN (ck_get kk_Sh_copyFrom 61 rfl) rfl (by decide) rfl ?_ | refine wp_iinc (ck_get kk_Sh_copyFrom 61 rfl) rfl (by decide) rfl ?_
        refine wp_goto (t := 91) (ck_get kk_Sh_copyFrom 62 rfl) (by decide) ?_
        exact ih (i + 1) _ (by omega) (hn (some p) hp) (hm (some p) hp)
theorem c_shcopy {a b B : Nat} {s : SH} (hA : ShAt (mT M) (mR M) a) (hB : ShAt (mT M) (mR M) b) (hd : a + 30 ≤ b ∨ b + 30 ≤ a) (hb : b + 30 ≤ 1056) (ha : a + 30 ≤ 1056) (hS : ShC (mT M) (mR M) (mI M) (mJ M) b s) (hO : SHOK s B) :
    Cv g Y_Sh_copyFrom 3 [.ref a, .ref b] M (fun M2 => ∃ I2 J2 R2, M2 = mk5 M I2 J2 R2 ∧ ShC (mT M) R2 I2 J2 a s ∧ (∀ x, x < a ∨ a + 30 ≤ x → I2 x = mI M x ∧ J2 x = mJ M x) ∧ ∀ x, x ≠ a + 29 → R2 x = mR M x) := by
  have hA0 := hA
  have hB0 := hB
  obtain ⟨ta, ra0, hWa, ra5, ta5, ra6, ta6, ra8, ta8⟩ := hA
  obtain ⟨tb, rb0, hWb, rb5, tb5, rb6, tb6, rb8, tb8⟩ := hB
  have twa := hWa.1
  obtain ⟨s1, s2, s3, s4, s5, s6, s7, s8, s9, s10, s11⟩ := id hS
  refine cw_entry 1 pf_Sh_copyFrom rfl ?_
  refine wp_aload_n rfl (ck_get kk_Sh_copyFrom 0 rfl) ?_
  refine wp_getR (ck_get kk_Sh_copyFrom 1 rfl) fl_Sh_12 (by assumption) (by assumption) ?_
  refine wp_aload_n rfl (ck_get kk_Sh_copyFrom 2 rfl) ?_
  refine wp_getR (ck_get kk_Sh_copyFrom 3 rfl) fl_Sh_12 (by assumption) (by assumption) ?_
  refine wp_cV1v (ck_get kk_Sh_copyFrom 4 rfl) ml_Sh_53 (by omega) (Nat.le_of_ble_eq_true rfl) (by assumption) (Cv.to (c_WocopyFrom hWb hWa (by omega)) ?_)
  rintro M1 ⟨I1, J1, e1, e2, e3⟩
  subst e1
  have f1 : ∀ x, x < a + 1 ∨ a + 27 ≤ x → I1 x = mI M x ∧ J1 x = mJ M x := fun x hx => e3 x (by omega)
  refine wp_aload_n rfl (ck_get kk_Sh_copyFrom 5 rfl) ?_
  refine wp_aload_n rfl (ck_get kk_Sh_copyFrom 6 rfl) ?_
  refine wp_getIv (v := nI (sPo s)) (ck_get kk_Sh_copyFrom 7 rfl) fl_Sh_18 (by assumption) ((by show I1 b 1 = _; rw [(f1 b (by omega)).1]; exact s2)) ?_
  refine wp_putI (ck_get kk_Sh_copyFrom 8 rfl) fl_Sh_18 (by decide +kernel) (by assumption) (okI_int _) ?_
  refine wp_aload_n rfl (ck_get kk_Sh_copyFrom 9 rfl) ?_
  refine wp_aload_n rfl (ck_get kk_Sh_copyFrom 10 rfl) ?_
  refine wp_getIv (v := nI (sLo s)) (ck_get kk_Sh_copyFrom 11 rfl) fl_Sh_22 (by assumption) ((by show up2 I1 a 1 _ b 2 = _; rw [up2_o (by omega), (f1 b (by omega)).1]; exact s3)) ?_
  refine wp_putI (ck_get kk_Sh_copyFrom 12 rfl) fl_Sh_22 (by decide +kernel) (by assumption) (okI_int _) ?_
  refine wp_aload_n rfl (ck_get kk_Sh_copyFrom 13 rfl) ?_
  refine wp_aload_n rfl (ck_get kk_Sh_copyFrom 14 rfl) ?_
  refine wp_getIv (v := nI (sMd s)) (ck_get kk_Sh_copyFrom 15 rfl) fl_Sh_25 (by assumption) ((by show up2 (up2 I1 a 1 _) a 2 _ b 3 = _; rw [up2_o (by omega), up2_o (by omega), (f1 b (by omega)).1]; exact s4)) ?_
  refine wp_putI (ck_get kk_Sh_copyFrom 16 rfl) fl_Sh_25 (by decide +kernel) (by assumption) (okI_int _) ?_
  refine wp_aload_n rfl (ck_get kk_Sh_copyFrom 17 rfl) ?_
  refine wp_aload_n rfl (ck_get kk_Sh_copyFrom 18 rfl) ?_
  refine wp_getIv (v := nI (sSl s)) (ck_get kk_Sh_copyFrom 19 rfl) fl_Sh_28 (by assumption) ((by show up2 (up2 (up2 I1 a 1 _) a 2 _) a 3 _ b 4 = _; rw [up2_o (by omega), up2_o (by omega), up2_o (by omega), (f1 b (by omega)).1]; exact s5)) ?_
  refine wp_putI (ck_get kk_Sh_copyFrom 20 rfl) fl_Sh_28 (by decide +kernel) (by assumption) (okI_int _) ?_
  refine wp_iconst (v := nI 0) (by decide) (ck_get kk_Sh_copyFrom 21 rfl) ?_
  refine wp_istore_n (ck_get kk_Sh_copyFrom 22 rfl) (by decide) rfl ?_
  generalize hI4 : up2 (up2 (up2 (up2 I1 a 1 (nI (sPo s))) a 2 (nI (sLo s))) a 3 (nI (sMd s))) a 4 (nI (sSl s)) = I4
  rw [show sI (sI (sI (sI (mk2 M I1 J1) a 1 (nI (sPo s))) a 2 (nI (sLo s))) a 3 (nI (sMd s))) a 4 (nI (sSl s)) = mk2 M I4 J1 by rw [← hI4]]
  have f4 : ∀ x, x ≠ a → I4 x = I1 x := fun x hx => by rw [← hI4, up2_o hx, up2_o hx, up2_o hx, up2_o hx]
  have g1 : I4 a 1 = nI (sPo s) := by rw [← hI4, up2_k (by omega), up2_k (by omega), up2_k (by omega), up2_v]
  have g2 : I4 a 2 = nI (sLo s) := by rw [← hI4, up2_k (by omega), up2_k (by omega), up2_v]
  have g3 : I4 a 3 = nI (sMd s) := by rw [← hI4, up2_k (by omega), up2_v]
  have g4 : I4 a 4 = nI (sSl s) := by rw [← hI4, up2_v]
  refine l_shc1 (M := M) (I0 := I4) (J := J1) hA0 hB0 hd (fun I5 h5 h6 => ?_) 6 0 I4 (by omega) (fun _ _ _ => rfl) (fun y hy => absurd hy (Nat.not_lt_zero y))
  have f5 : ∀ x, x < a ∨ (a < x ∧ x < a + 27) ∨ a + 29 ≤ x → I5 x = I1 x := fun x hx => by rw [h5 x (by omega) (by omega), f4 x (by omega)]
  have e5b : I5 b 7 = nI (sSn s) := by rw [f5 b (by omega), (f1 b (by omega)).1]; exact s6
  refine wp_aload_n rfl (ck_get kk_Sh_copyFrom 44 rfl) ?_
  refine wp_aload_n rfl (ck_get kk_Sh_copyFrom 45 rfl) ?_
  refine wp_getIv (v := nI (sSn s)) (ck_get kk_Sh_copyFrom 46 rfl) fl_Sh_38 (by assumption) ((by exact e5b)) ?_
  refine wp_putI (ck_get kk_Sh_copyFrom 47 rfl) fl_Sh_38 (by decide +kernel) (by assumption) (okI_int _) ?_
  refine wp_iconst (v := nI 0) (by decide) (ck_get kk_Sh_copyFrom 48 rfl) ?_
  refine wp_istore_n (ck_get kk_Sh_copyFrom 49 rfl) (by decide) rfl ?_
  refine l_shc2 (M := M) (I := up2 I5 a 7 (nI (sSn s))) (J := J1) hA0 hB0 hd s10 (fun R hR1 hR2 => ?_) 6 0 (mR M) (by omega) (fun _ _ => rfl) (fun y hy => absurd hy (Nat.not_lt_zero y))
  refine wp_aload_n rfl (ck_get kk_Sh_copyFrom 63 rfl) ?_
  refine wp_aload_n rfl (ck_get kk_Sh_copyFrom 64 rfl) ?_
  refine wp_getIv (v := nI (sLn s)) (ck_get kk_Sh_copyFrom 65 rfl) fl_Sh_47 (by assumption) ((by show up2 I5 a 7 _ b 9 = _; rw [up2_o (by omega), f5 b (by omega), (f1 b (by omega)).1]; exact s8)) ?_
  refine wp_putI (ck_get kk_Sh_copyFrom 66 rfl) fl_Sh_47 (by decide +kernel) (by assumption) (okI_int _) ?_
  refine wp_aload_n rfl (ck_get kk_Sh_copyFrom 67 rfl) ?_
  refine wp_aload_n rfl (ck_get kk_Sh_copyFrom 68 rfl) ?_
  refine wp_getIv (v := sFo s) (ck_get kk_Sh_copyFrom 69 rfl) fl_Sh_50 (by assumption) ((by show up2 (up2 I5 a 7 _) a 9 _ b 10 = _; rw [up2_o (by omega), up2_o (by omega), f5 b (by omega), (f1 b (by omega)).1]; exact s9)) ?_
  refine wp_putI (ck_get kk_Sh_copyFrom 70 rfl) fl_Sh_50 (by decide +kernel) (by assumption) (okI_int _) ?_
  refine wp_return (ck_get kk_Sh_copyFrom 71 rfl) rfl ⟨rfl, ?_⟩
  generalize hI9 : up2 (up2 (up2 I5 a 7 (nI (sSn s))) a 9 (nI (sLn s))) a 10 (sFo s) = I9
  have f9 : ∀ x, x ≠ a → I9 x = I5 x := fun x hx => by rw [← hI9, up2_o hx, up2_o hx, up2_o hx]
  have k9 : ∀ y, y ≠ 7 → y ≠ 9 → y ≠ 10 → I9 a y = I4 a y := fun y q1 q2 q3 => by rw [← hI9, up2_k q3, up2_k q2, up2_k q1, h5 a (by omega) (by omega)]
  have hfr : ∀ x, x < a ∨ a + 30 ≤ x → I9 x = mI M x ∧ J1 x = mJ M x := fun x hx => ⟨by rw [f9 x (by omega), f5 x (by omega), (f1 x (by omega)).1], (f1 x (by omega)).2⟩
  have hk : HiK (mT M) (mR M) (mI M) (mT M) R I9 := fun x hx _ => ⟨rfl, hR1 x (by omega), (hfr x (by omega)).1⟩
  refine ⟨I9, J1, R, by rw [← hI9], ⟨?_, by rw [k9 1 (by omega) (by omega) (by omega)]; exact g1, by rw [k9 2 (by omega) (by omega) (by omega)]; exact g2, by rw [k9 3 (by omega) (by omega) (by omega)]; exact g3, by rw [k9 4 (by omega) (by omega) (by omega)]; exact g4, by rw [← hI9, up2_k (by omega), up2_k (by omega), up2_v], fun i hi => ?_, by rw [← hI9, up2_k (by omega), up2_v], by rw [← hI9, up2_v], fun i hi => ?_, fun i hi => ?_⟩, hfr, hR1⟩
  · refine (e2.has s1 hO.1).kept (fun x q1 q2 => ⟨by rw [f9 x (by omega), f5 x (by omega)], rfl⟩)
  · have h6' : i < 6 := Nat.lt_of_lt_of_le hi hO.2.2.2.2.2.2.1
    rw [f9 (a + 27) (by omega), f9 (a + 28) (by omega), (h6 i h6').1, (h6 i h6').2, f4 (b + 27) (by omega), f4 (b + 28) (by omega), (f1 (b + 27) (by omega)).1, (f1 (b + 28) (by omega)).1]
    exact s7 i hi
  · rw [hR2 i hi]; exact s10 i hi
  · obtain ⟨p, q1, q2⟩ := s11 i hi
    exact ⟨p, by rw [hR2 i (Nat.lt_of_lt_of_le hi hO.2.2.2.2.2.2.2.2.1)]; exact q1, q2.kept hk⟩
end SHP

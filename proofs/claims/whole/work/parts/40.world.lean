/-! ===== MissCurves$World ===== -/
/-- a world's cells: itself, its row of tenants, four tenants -/
def WoAt (T : Nat → Nat × Nat) (R : Nat → Nat → Option Nat) (w : Nat) : Prop := T w = (9, 0) ∧ R w 0 = some (w + 1) ∧ T (w + 1) = (24, 4) ∧ ∀ t, t < 4 → R (w + 1) t = some (w + 2 + 6 * t) ∧ TeAt T R (w + 2 + 6 * t)
def WoSame (I : Nat → Nat → Int32) (J : Nat → Nat → Int64) (v : Nat) (I2 : Nat → Nat → Int32) (J2 : Nat → Nat → Int64) (w : Nat) : Prop := I2 w 1 = I v 1 ∧ ∀ t, t < 4 → TeSame I J (v + 2 + 6 * t) I2 J2 (w + 2 + 6 * t)
theorem TeSame.kept {I I2 I3 : Nat → Nat → Int32} {J J2 J3 : Nat → Nat → Int64} {a b : Nat} (h : TeSame I J a I2 J2 b) (hk : ∀ x, b ≤ x → x < b + 6 → I3 x = I2 x ∧ J3 x = J2 x) : TeSame I J a I3 J3 b := by
  obtain ⟨h1, h2, h3, h4, h5, h6, h7, h8, h9⟩ := h
  refine ⟨?_, ?_, ?_, ?_, fun y hy => ?_, fun y hy => ?_, fun y hy => ?_, fun y hy => ?_, fun y hy => ?_⟩
  · rw [(hk b (by omega) (by omega)).1]; exact h1
  · rw [(hk b (by omega) (by omega)).1]; exact h2
  · rw [(hk b (by omega) (by omega)).1]; exact h3
  · rw [(hk b (by omega) (by omega)).1]; exact h4
  · rw [(hk (b + 1) (by omega) (by omega)).1]; exact h5 y hy
  · rw [(hk (b + 2) (by omega) (by omega)).1]; exact h6 y hy
  · rw [(hk (b + 3) (by omega) (by omega)).1]; exact h7 y hy
  · rw [(hk (b + 4) (by omega) (by omega)).2]; exact h8 y hy
  · rw [(hk (b + 5) (by omega) (by omega)).1]; exact h9 y hy
theorem TeSame.from {I I0 I2 : Nat → Nat → Int32} {J J0 J2 : Nat → Nat → Int64} {a b : Nat} (h : TeSame I J a I2 J2 b) (hk : ∀ x, a ≤ x → x < a + 6 → I x = I0 x ∧ J x = J0 x) : TeSame I0 J0 a I2 J2 b := by
  obtain ⟨h1, h2, h3, h4, h5, h6, h7, h8, h9⟩ := h
  refine ⟨?_, ?_, ?_, ?_, fun y hy => ?_, fun y hy => ?_, fun y hy => ?_, fun y hy => ?_, fun y hy => ?_⟩
  · rw [← (hk a (by omega) (by omega)).1]; exact h1
  · rw [← (hk a (by omega) (by omega)).1]; exact h2
  · rw [← (hk a (by omega) (by omega)).1]; exact h3
  · rw [← (hk a (by omega) (by omega)).1]; exact h4
  · rw [← (hk (a + 1) (by omega) (by omega)).1]; exact h5 y hy
  · rw [← (hk (a + 2) (by omega) (by omega)).1]; exact h6 y hy
  · rw [← (hk (a + 3) (by omega) (by omega)).1]; exact h7 y hy
  · rw [← (hk (a + 4) (by omega) (by omega)).2]; exact h8 y hy
  · rw [← (hk (a + 5) (by omega) (by omega)).1]; exact h9 y hy
section WO
variable {g : Gl} {M : Mem}
theorem l_WocopyFrom {v w : Nat} (hV : WoAt (mT M) (mR M) v) (hW : WoAt (mT M) (mR M) w) (hd : v + 26 ≤ w ∨ w + 26 ≤ v) {Q : Option Value → Mem → Prop}
    (K : ∀ I2 J2, (∀ u, u < 4 → TeSame (mI M) (mJ M) (v + 2 + 6 * u) I2 J2 (w + 2 + 6 * u)) → Frm (w + 2) (w + 26) (mI M) (mJ M) I2 J2 → Wp g Y_Wo_copyFrom 2 28 [some (.ref w), some (.ref v), some (.int (nI 4))] [] (mk2 M I2 J2) Q) :
    ∀ k t I2 J2, 4 = t + k → (∀ u, u < t → TeSame (mI M) (mJ M) (v + 2 + 6 * u) I2 J2 (w + 2 + 6 * u)) → Frm (w + 2) (w + 26) (mI M) (mJ M) I2 J2 → Wp g Y_Wo_copyFrom 2 2 [some (.ref w), some (.ref v), some (.int (nI t))] [] (mk2 M I2 J2) Q := by
  obtain ⟨tv0, rv0, tv1, hvt⟩ := hV
  obtain ⟨tw0, rw0, tw1, hwt⟩ := hW
  intro k
  induction k with
  | zero =>
    intro t I2 J2 h1 h2 h3
    refine wp_iload_n rfl (ck_get kk_Wo_copyFrom 2 rfl) ?_
    refine wp_iconst (v := nI 4) (by decide) (ck_get kk_Wo_copyFrom 3 rfl) ?_
    first | refine wp_icmp_geN (t := 28) (ck_get kk_Wo_copyFrom 4 rfl) (by decide) (by omega) (by omega) (fun hc4 => ?_) (fun hc4 => ?_) | refine wp_icmp_ge (t := 28) (ck_get kk_Wo_copyFrom 4 rfl) (by decide) (fun hc4 => ?_) (fun hc4 => ?_)
    · subst h1; exact K I2 J2 h2 h3
    · omega
  | succ k ih =>
    intro t I2 J2 h1 h2 h3
    obtain ⟨rwt, hwA⟩ := hwt t (by omega)
    obtain ⟨rvt, hvA⟩ := hvt t (by omega)
    have twA := hwA.1
    refine wp_iload_n rfl (ck_get kk_Wo_copyFrom 2 rfl) ?_
    refine wp_iconst (v := nI 4) (by decide) (ck_get kk_Wo_copyFrom 3 rfl) ?_
    first | refine wp_icmp_geN (t := 28) (ck_get kk_Wo_copyFrom 4 rfl) (by decide) (by omega) (by omega) (fun hc4 => ?_) (fun hc4 => ?_) | refine wp_icmp_ge (t := 28) (ck_get kk_Wo_copyFrom 4 rfl) (by decide) (fun hc4 => ?_) (fun hc4 => ?_)
    · omega
    · refine wp_aload_n rfl (ck_get kk_Wo_copyFrom 5 rfl) ?_
      refine wp_getR (ck_get kk_Wo_copyFrom 6 rfl) fl_Wo_11 (by assumption) (by assumption) ?_
      refine wp_iload_n rfl (ck_get kk_Wo_copyFrom 7 rfl) ?_
      refine wp_aald (ck_get kk_Wo_copyFrom 8 rfl) (by assumption) (by first | assumption | exact ixk_nI (by omega) (by omega)) (by assumption) ?_
      refine wp_aload_n rfl (ck_get kk_Wo_copyFrom 9 rfl) ?_
      refine wp_getR (ck_get kk_Wo_copyFrom 10 rfl) fl_Wo_11 (by assumption) (by assumption) ?_
      refine wp_iload_n rfl (ck_get kk_Wo_copyFrom 11 rfl) ?_
      refine wp_aald (ck_get kk_Wo_copyFrom 12 rfl) (by assumption) (by first | assumption | exact ixk_nI (by omega) (by omega)) (by assumption) ?_
      refine wp_cV1v (ck_get kk_Wo_copyFrom 13 rfl) ml_Wo_22 (by omega) (Nat.le_of_ble_eq_true rfl) (by assumption) (Cv.to (c_TecopyFrom (a := v + 2 + 6 * t) (b := w + 2 + 6 * t) (by exact hvA) (by exact hwA) (by omega)) ?_)
      rintro M2 ⟨I3, J3, rfl, hs3, hf3⟩
      first | refine wp_iincN (ck_get kk_Wo_copyFrom 14 rfl) rfl (by decide) rfl ?_ | refine wp_iinc (ck_get kk_Wo_copyFrom 14 rfl) rfl (by decide) rfl ?_
      refine wp_goto (t := 2) (ck_get kk_Wo_copyFrom 15 rfl) (by decide) ?_
      refine ih (t + 1) I3 J3 (by omega) (fun u hu => ?_) (fun x hx => ?_)
      · by_cases hut : u = t
        · subst hut
          exact hs3.from (fun x h5 h6 => h3 x (by omega))
        · exact (h2 u (by omega)).kept (fun x h5 h6 => hf3 x (by omega))
      · have h7 := hf3 x (by omega)
        have h8 := h3 x hx
        exact ⟨h7.1.trans h8.1, h7.2.trans h8.2⟩
theorem c_WocopyFrom {v w : Nat} (hV : WoAt (mT M) (mR M) v) (hW : WoAt (mT M) (mR M) w) (hd : v + 26 ≤ w ∨ w + 26 ≤ v) : Cv g Y_Wo_copyFrom 2 [.ref w, .ref v] M (fun M2 => ∃ I2 J2, M2 = mk2 M I2 J2 ∧ WoSame (mI M) (mJ M) v I2 J2 w ∧ Frm w (w + 26) (mI M) (mJ M) I2 J2) := by
  have hV0 := hV
  have hW0 := hW
  obtain ⟨tv0, rv0, tv1, hvt⟩ := hV
  obtain ⟨tw0, rw0, tw1, hwt⟩ := hW
  refine cw_entry 1 pf_Wo_copyFrom rfl ?_
  refine wp_iconst (v := nI 0) (by decide) (ck_get kk_Wo_copyFrom 0 rfl) ?_
  refine wp_istore_n (ck_get kk_Wo_copyFrom 1 rfl) (by decide) rfl ?_
  refine l_WocopyFrom (g := g) hV0 hW0 hd (fun I2 J2 h2 h3 => ?_) 4 0 (mI M) (mJ M) (by omega) (fun u hu => absurd hu (Nat.not_lt_zero u)) (fun x hx => ⟨rfl, rfl⟩)
  refine wp_aload_n rfl (ck_get kk_Wo_copyFrom 16 rfl) ?_
  refine wp_aload_n rfl (ck_get kk_Wo_copyFrom 17 rfl) ?_
  first | refine wp_getIv (ck_get kk_Wo_copyFrom 18 rfl) fl_Wo_17 (by assumption) (by assumption) ?_ | refine wp_getI (ck_get kk_Wo_copyFrom 18 rfl) fl_Wo_17 (by assumption) ?_
  refine wp_putI (ck_get kk_Wo_copyFrom 19 rfl) fl_Wo_17 (by decide +kernel) (by assumption) (okI_int _) ?_
  refine wp_return (ck_get kk_Wo_copyFrom 20 rfl) rfl ⟨rfl, ?_⟩
  refine ⟨up2 I2 w 1 (I2 v 1), J2, rfl, ⟨?_, fun u hu => (h2 u hu).kept (fun x h5 h6 => ⟨?_, rfl⟩)⟩, fun x hx => ⟨?_, (h3 x (by omega)).2⟩⟩
  · rw [up2_up1, up1_eq, up1_eq, (h3 v (by omega)).1]
  · rw [up2_up1, up1_ne (by omega)]
  · rw [up2_up1, up1_ne (by omega)]; exact (h3 x (by omega)).1
/-- costs and parts of the first t tenants halved -/
def pvI (I : Nat → Nat → Int32) (w t x : Nat) : Nat → Int32 := if w + 4 ≤ x ∧ (x - (w + 4)) % 6 = 0 ∧ x < w + 4 + 6 * t then hvI (I x) 25 else I x
def pvJ (J : Nat → Nat → Int64) (w t x : Nat) : Nat → Int64 := if w + 6 ≤ x ∧ (x - (w + 6)) % 6 = 0 ∧ x < w + 6 + 6 * t then hvJ (J x) 25 else J x
def pvS (I : Nat → Nat → Int32) (w : Nat) : Nat → Int32
  | 0 => 0
  | t + 1 => pvS I w t + sumI (hvI (I (w + 4 + 6 * t)) 25) 0 25
theorem pvI_succ {I : Nat → Nat → Int32} {w t : Nat} : up1 (pvI I w t) (w + 2 + 6 * t + 2) (hvI (I (w + 4 + 6 * t)) 25) = pvI I w (t + 1) := by
  funext x
  unfold up1 pvI
  by_cases h : x = w + 2 + 6 * t + 2
  · rw [if_pos h, if_pos (by omega), h, show w + 2 + 6 * t + 2 = w + 4 + 6 * t by omega]
  · rw [if_neg h]
    by_cases h2 : w + 4 ≤ x ∧ (x - (w + 4)) % 6 = 0 ∧ x < w + 4 + 6 * t
    · rw [if_pos h2, if_pos (by omega)]
    · rw [if_neg h2, if_neg (by omega)]
theorem pvJ_succ {J : Nat → Nat → Int64} {w t : Nat} : up1 (pvJ J w t) (w + 2 + 6 * t + 4) (hvJ (J (w + 6 + 6 * t)) 25) = pvJ J w (t + 1) := by
  funext x
  unfold up1 pvJ
  by_cases h : x = w + 2 + 6 * t + 4
  · rw [if_pos h, if_pos (by omega), h, show w + 2 + 6 * t + 4 = w + 6 + 6 * t by omega]
  · rw [if_neg h]
    by_cases h2 : w + 6 ≤ x ∧ (x - (w + 6)) % 6 = 0 ∧ x < w + 6 + 6 * t
    · rw [if_pos h2, if_pos (by omega)]
    · rw [if_neg h2, if_neg (by omega)]
theorem l_passTime {w : Nat} (hW : WoAt (mT M) (mR M) w) {Q : Option Value → Mem → Prop} (K : Wp g Y_Wo_passTime 1 27 [some (.ref w), some (.int (pvS (mI M) w 4)), some (.int (nI 4))] [] (mk2 M (pvI (mI M) w 4) (pvJ (mJ M) w 4)) Q) : ∀ k t, 4 = t + k → Wp g Y_Wo_passTime 1 4 [some (.ref w), some (.int (pvS (mI M) w t)), some (.int (nI t))] [] (mk2 M (pvI (mI M) w t) (pvJ (mJ M) w t)) Q := by
  obtain ⟨tw0, rw0, tw1, hwt⟩ := hW
  intro k
  induction k with
  | zero =>
    intro t h1
    refine wp_iload_n rfl (ck_get kk_Wo_passTime 4 rfl) ?_
    refine wp_iconst (v := nI 4) (by decide) (ck_get kk_Wo_passTime 5 rfl) ?_
    first | refine wp_icmp_geN (t := 27) (ck_get kk_Wo_passTime 6 rfl) (by decide) (by omega) (by omega) (fun hc6 => ?_) (fun hc6 => ?_) | refine wp_icmp_ge (t := 27) (ck_get kk_Wo_passTime 6 rfl) (by decide) (fun hc6 => ?_) (fun hc6 => ?_)
    · subst h1; exact K
    · omega
  | succ k ih =>
    intro t h1
    obtain ⟨rwt, hwA⟩ := hwt t (by omega)
    have twA := hwA.1
    have hi1 : pvI (mI M) w t (w + 2 + 6 * t + 2) = mI M (w + 4 + 6 * t) := by rw [pvI, if_neg (by omega), show w + 2 + 6 * t + 2 = w + 4 + 6 * t by omega]
    have hj1 : pvJ (mJ M) w t (w + 2 + 6 * t + 4) = mJ M (w + 6 + 6 * t) := by rw [pvJ, if_neg (by omega), show w + 2 + 6 * t + 4 = w + 6 + 6 * t by omega]
    refine wp_iload_n rfl (ck_get kk_Wo_passTime 4 rfl) ?_
    refine wp_iconst (v := nI 4) (by decide) (ck_get kk_Wo_passTime 5 rfl) ?_
    first | refine wp_icmp_geN (t := 27) (ck_get kk_Wo_passTime 6 rfl) (by decide) (by omega) (by omega) (fun hc6 => ?_) (fun hc6 => ?_) | refine wp_icmp_ge (t := 27) (ck_get kk_Wo_passTime 6 rfl) (by decide) (fun hc6 => ?_) (fun hc6 => ?_)
    · omega
    · refine wp_iload_n rfl (ck_get kk_Wo_passTime 7 rfl) ?_
      refine wp_aload_n rfl (ck_get kk_Wo_passTime 8 rfl) ?_
      refine wp_getR (ck_get kk_Wo_passTime 9 rfl) fl_Wo_11 (by assumption) (by assumption) ?_
      refine wp_iload_n rfl (ck_get kk_Wo_passTime 10 rfl) ?_
      refine wp_aald (ck_get kk_Wo_passTime 11 rfl) (by assumption) (by first | assumption | exact ixk_nI (by omega) (by omega)) (by assumption) ?_
      refine wp_cV0i (ck_get kk_Wo_passTime 12 rfl) ml_Wo_26 (by omega) (Nat.le_of_ble_eq_true rfl) (by assumption) (Ci.to (c_halve (a := w + 2 + 6 * t) (by exact hwA)) ?_)
      rintro x2 M2 ⟨hx2, rfl⟩
      first | refine wp_iaddN (ck_get kk_Wo_passTime 13 rfl) ?_ | refine wp_iadd (ck_get kk_Wo_passTime 13 rfl) ?_
      refine wp_istore_n (ck_get kk_Wo_passTime 14 rfl) (by decide) rfl ?_
      first | refine wp_iincN (ck_get kk_Wo_passTime 15 rfl) rfl (by decide) rfl ?_ | refine wp_iinc (ck_get kk_Wo_passTime 15 rfl) rfl (by decide) rfl ?_
      refine wp_goto (t := 4) (ck_get kk_Wo_passTime 16 rfl) (by decide) ?_
      have hih := ih (t + 1) (by omega)
      rw [pvS, ← pvI_succ, ← pvJ_succ] at hih
      have hx3 : x2 = sumI (hvI (mI M (w + 4 + 6 * t)) 25) 0 25 := by rw [hx2]; show sumI (hvI (pvI (mI M) w t (w + 2 + 6 * t + 2)) 25) 0 25 = _; rw [hi1]
      rw [hx3]
      have hmm : hvM (mk2 M (pvI (mI M) w t) (pvJ (mJ M) w t)) (w + 2 + 6 * t) 25 = mk2 M (up1 (pvI (mI M) w t) (w + 2 + 6 * t + 2) (hvI (mI M (w + 4 + 6 * t)) 25)) (up1 (pvJ (mJ M) w t) (w + 2 + 6 * t + 4) (hvJ (mJ M (w + 6 + 6 * t)) 25)) := by
        show mk2 M (up1 (pvI (mI M) w t) (w + 2 + 6 * t + 2) (hvI (pvI (mI M) w t (w + 2 + 6 * t + 2)) 25)) (up1 (pvJ (mJ M) w t) (w + 2 + 6 * t + 4) (hvJ (pvJ (mJ M) w t (w + 2 + 6 * t + 4)) 25)) = _
        rw [hi1, hj1]
      rw [hmm]
      exact hih
theorem l_passTime0 {w : Nat} (hW : WoAt (mT M) (mR M) w) {Q : Option Value → Mem → Prop} (K : Wp g Y_Wo_passTime 1 27 [some (.ref w), some (.int (pvS (mI M) w 4)), some (.int (nI 4))] [] (mk2 M (pvI (mI M) w 4) (pvJ (mJ M) w 4)) Q) : Wp g Y_Wo_passTime 1 4 [some (.ref w), some (.int (nI 0)), some (.int (nI 0))] [] M Q := by
  have hx := l_passTime hW K 4 0 (by omega)
  have hz1 : pvI (mI M) w 0 = mI M := by funext x; rw [pvI, if_neg (by omega)]
  have hz2 : pvJ (mJ M) w 0 = mJ M := by funext x; rw [pvJ, if_neg (by omega)]
  rw [hz1, hz2] at hx
  exact hx
theorem c_passTime {w : Nat} (hW : WoAt (mT M) (mR M) w) : Ci g Y_Wo_passTime 1 [.ref w] M (fun x M2 => x = pvS (mI M) w 4 ∧ M2 = sI (mk2 M (pvI (mI M) w 4) (pvJ (mJ M) w 4)) w 1 (mI M w 1 + nI 1)) := by
  have hW0 := hW
  obtain ⟨tw0, rw0, tw1, hwt⟩ := hW
  refine cw_entry 2 pf_Wo_passTime rfl ?_
  refine wp_iconst (v := nI 0) (by decide) (ck_get kk_Wo_passTime 0 rfl) ?_
  refine wp_istore_n (ck_get kk_Wo_passTime 1 rfl) (by decide) rfl ?_
  refine wp_iconst (v := nI 0) (by decide) (ck_get kk_Wo_passTime 2 rfl) ?_
  refine wp_istore_n (ck_get kk_Wo_passTime 3 rfl) (by decide) rfl ?_
  refine l_passTime0 (by exact hW0) ?_
  refine wp_aload_n rfl (ck_get kk_Wo_passTime 17 rfl) ?_
  refine wp_dup rfl (ck_get kk_Wo_passTime 18 rfl) ?_
  refine wp_getIv (v := mI M w 1) (ck_get kk_Wo_passTime 19 rfl) fl_Wo_17 (by assumption) (show pvI (mI M) w 4 w 1 = _ by rw [pvI, if_neg (by omega)]) ?_
  refine wp_iconst (v := nI 1) (by decide) (ck_get kk_Wo_passTime 20 rfl) ?_
  first | refine wp_iaddN (ck_get kk_Wo_passTime 21 rfl) ?_ | refine wp_iadd (ck_get kk_Wo_passTime 21 rfl) ?_
  refine wp_putI (ck_get kk_Wo_passTime 22 rfl) fl_Wo_17 (by decide +kernel) (by assumption) (okI_int _) ?_
  refine wp_iload_n rfl (ck_get kk_Wo_passTime 23 rfl) ?_
  refine wp_ireturn (ck_get kk_Wo_passTime 24 rfl) rfl rfl ⟨_, rfl, ?_⟩
  exact ⟨rfl, rfl⟩
end WO

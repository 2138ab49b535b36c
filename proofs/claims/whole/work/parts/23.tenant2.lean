/-! ===== MissCurves$Tenant: what moves ===== -/
theorem up2_up1 {α : Type} (f : Nat → Nat → α) (a k : Nat) (v : α) : up2 f a k v = up1 f a (up1 (f a) k v) := by
  funext x y
  unfold up2 up1
  by_cases hx : x = a
  · subst hx; simp
  · simp [hx]
theorem up1_up1 {α : Type} (f : Nat → α) (a : Nat) (v w : α) : up1 (up1 f a v) a w = up1 f a w := by
  funext x; unfold up1; by_cases h : x = a <;> simp [h]
theorem up1_comm {α : Type} (f : Nat → α) {a b : Nat} (h : a ≠ b) (v w : α) : up1 (up1 f a v) b w = up1 (up1 f b w) a v := by
  funext x; unfold up1
  by_cases h1 : x = a
  · subst h1; simp [h]
  · by_cases h2 : x = b
    · subst h2; simp [Ne.symm h]
    · simp [h1, h2]
section TE2
variable {g : Gl} {M : Mem} {a : Nat}
/-- how many are in the stack, and where the hole is, when a key from place p comes on top -/
def sn2 (p sn : Nat) : Nat := if p = 0 ∧ sn < 24 then sn + 1 else sn
def hol (p sn : Nat) : Nat := if p = 0 then sn2 p sn - 1 else p - 1
abbrev ptI (I : Nat → Nat → Int32) (a p sn : Nat) (key cost : Int32) : Nat → Nat → Int32 := up1 (up1 (up1 I (a + 2) (up1 (I (a + 2)) p (I (a + 2) p + cost))) a (up1 (I a) 1 (nI (sn2 p sn)))) (a + 1) (shf (I (a + 1)) (hol p sn) key)
theorem c_putOnTop {sn : Nat} {key cost : Int32} (hA : TeAt (mT M) (mR M) a) (h1 : mI M a 1 = nI sn) (hs : sn ≤ 24) : Ci g Y_Te_putOnTop 2 [.ref a, .int key, .int cost] M (fun x M2 => x = nI (fnd (mI M (a + 1)) sn key) ∧ M2 = mk2 M (ptI (mI M) a (fnd (mI M (a + 1)) sn key) sn key cost) (mJ M)) := by
  obtain ⟨t0, r0, r2, r3, r6, r7, t1, t2, t3, t4, t5⟩ := hA
  refine cw_entry 1 pf_Te_putOnTop rfl ?_
  have hp : fnd (mI M (a + 1)) sn key ≤ sn := fnd_le
  refine wp_aload_n rfl (ck_get kk_Te_putOnTop 0 rfl) ?_
  refine wp_getR (ck_get kk_Te_putOnTop 1 rfl) fl_Te_9 (by assumption) (by assumption) ?_
  refine wp_aload_n rfl (ck_get kk_Te_putOnTop 2 rfl) ?_
  first | refine wp_getIv (ck_get kk_Te_putOnTop 3 rfl) fl_Te_15 (by assumption) (by assumption) ?_ | refine wp_getI (ck_get kk_Te_putOnTop 3 rfl) fl_Te_15 (by assumption) ?_
  refine wp_iload_n rfl (ck_get kk_Te_putOnTop 4 rfl) ?_
  refine wp_cSN3i (ck_get kk_Te_putOnTop 5 rfl) ml_Te_47 (by omega) (Nat.le_of_ble_eq_true rfl) (Ci.to (c_placeIn t1 hs (by decide)) ?_)
  rintro _ M1 ⟨rfl, e1⟩
  obtain rfl := e1.symm
  refine wp_istore_n (ck_get kk_Te_putOnTop 6 rfl) (by decide) rfl ?_
  generalize fnd (mI M (a + 1)) sn key = p at hp ⊢
  refine wp_aload_n rfl (ck_get kk_Te_putOnTop 7 rfl) ?_
  refine wp_getR (ck_get kk_Te_putOnTop 8 rfl) fl_Te_19 (by assumption) (by assumption) ?_
  refine wp_iload_n rfl (ck_get kk_Te_putOnTop 9 rfl) ?_
  first | refine wp_dup2l rfl (ck_get kk_Te_putOnTop 10 rfl) ?_ | refine wp_dup2 rfl rfl (ck_get kk_Te_putOnTop 10 rfl) ?_
  refine wp_iald (ck_get kk_Te_putOnTop 11 rfl) (by assumption) (by first | assumption | exact ixk_nI (by omega) (by omega)) ?_
  refine wp_iload_n rfl (ck_get kk_Te_putOnTop 12 rfl) ?_
  first | refine wp_iaddN (ck_get kk_Te_putOnTop 13 rfl) ?_ | refine wp_iadd (ck_get kk_Te_putOnTop 13 rfl) ?_
  refine wp_iast (ck_get kk_Te_putOnTop 14 rfl) (by assumption) (by first | assumption | exact ixk_nI (by omega) (by omega)) ?_
  refine wp_iload_n rfl (ck_get kk_Te_putOnTop 15 rfl) ?_
  first | refine wp_if_neN (t := 46) (ck_get kk_Te_putOnTop 16 rfl) (by decide) (by omega) (fun hc24 => ?_) (fun hc24 => ?_) | refine wp_if_ne (t := 46) (ck_get kk_Te_putOnTop 16 rfl) (by decide) (fun hc24 => ?_) (fun hc24 => ?_)
  · refine wp_aload_n rfl (ck_get kk_Te_putOnTop 27 rfl) ?_
    refine wp_getR (ck_get kk_Te_putOnTop 28 rfl) fl_Te_9 (by assumption) (by assumption) ?_
    refine wp_iload_n rfl (ck_get kk_Te_putOnTop 29 rfl) ?_
    first | refine wp_if_leN (t := 60) (ck_get kk_Te_putOnTop 30 rfl) (by decide) (by omega) (fun hc51 => ?_) (fun hc51 => ?_) | refine wp_if_le (t := 60) (ck_get kk_Te_putOnTop 30 rfl) (by decide) (fun hc51 => ?_) (fun hc51 => ?_)
    · exact absurd hc51 hc24
    · refine wp_iload_n rfl (ck_get kk_Te_putOnTop 31 rfl) ?_
      refine wp_iconst (v := nI 1) (by decide) (ck_get kk_Te_putOnTop 32 rfl) ?_
      first | refine wp_isubN (ck_get kk_Te_putOnTop 33 rfl) (by omega) ?_ | refine wp_isub (ck_get kk_Te_putOnTop 33 rfl) ?_
      refine wp_goto (t := 66) (ck_get kk_Te_putOnTop 34 rfl) (by decide) ?_
      refine wp_iload_n rfl (ck_get kk_Te_putOnTop 39 rfl) ?_
      refine wp_cSN3v (ck_get kk_Te_putOnTop 40 rfl) ml_Te_51 (by omega) (Nat.le_of_ble_eq_true rfl) (Cv.to (c_putFirst (len := 24) t1 (by omega) (by decide)) ?_)
      rintro M2 rfl
      refine wp_iload_n rfl (ck_get kk_Te_putOnTop 41 rfl) ?_
      refine wp_ireturn (ck_get kk_Te_putOnTop 42 rfl) rfl rfl ⟨_, rfl, ?_⟩
      refine ⟨rfl, ?_⟩
      have e1 : sn2 p sn = sn := if_neg (fun q => hc24 q.1)
      have e2 : hol p sn = p - 1 := if_neg hc24
      have e3 : up1 (up1 (mI M) (a + 2) (up1 (mI M (a + 2)) p (mI M (a + 2) p + cost))) a (up1 (mI M a) 1 (nI sn)) = up1 (mI M) (a + 2) (up1 (mI M (a + 2)) p (mI M (a + 2) p + cost)) := by
        rw [← h1, up1_self]
        have : up1 (mI M) (a + 2) (up1 (mI M (a + 2)) p (mI M (a + 2) p + cost)) a = mI M a := up1_ne (by omega)
        rw [← this, up1_self]
      show mk2 M (up1 (up2 (mI M) (a + 2) p (mI M (a + 2) p + cost)) (a + 1) (shf (up2 (mI M) (a + 2) p (mI M (a + 2) p + cost) (a + 1)) (p - 1) key)) (mJ M) = _
      rw [ptI, e1, e2, e3, up2_up1, up1_ne (by omega)]
  · refine wp_aload_n rfl (ck_get kk_Te_putOnTop 17 rfl) ?_
    refine wp_getIv (v := nI sn) (ck_get kk_Te_putOnTop 18 rfl) fl_Te_15 (by assumption) (by rw [mI_sI, if_neg (by omega)]; exact h1) ?_
    refine wp_bipush (v := nI 24) (by decide) (ck_get kk_Te_putOnTop 19 rfl) ?_
    first | refine wp_icmp_geN (t := 46) (ck_get kk_Te_putOnTop 20 rfl) (by decide) (by omega) (by omega) (fun hc33 => ?_) (fun hc33 => ?_) | refine wp_icmp_ge (t := 46) (ck_get kk_Te_putOnTop 20 rfl) (by decide) (fun hc33 => ?_) (fun hc33 => ?_)
    · refine wp_aload_n rfl (ck_get kk_Te_putOnTop 27 rfl) ?_
      refine wp_getR (ck_get kk_Te_putOnTop 28 rfl) fl_Te_9 (by assumption) (by assumption) ?_
      refine wp_iload_n rfl (ck_get kk_Te_putOnTop 29 rfl) ?_
      first | refine wp_if_leN (t := 60) (ck_get kk_Te_putOnTop 30 rfl) (by decide) (by omega) (fun hc51 => ?_) (fun hc51 => ?_) | refine wp_if_le (t := 60) (ck_get kk_Te_putOnTop 30 rfl) (by decide) (fun hc51 => ?_) (fun hc51 => ?_)
      · refine wp_aload_n rfl (ck_get kk_Te_putOnTop 35 rfl) ?_
        refine wp_getIv (v := nI sn) (ck_get kk_Te_putOnTop 36 rfl) fl_Te_15 (by assumption) (by rw [mI_sI, if_neg (by omega)]; exact h1) ?_
        refine wp_iconst (v := nI 1) (by decide) (ck_get kk_Te_putOnTop 37 rfl) ?_
        first | refine wp_isubN (ck_get kk_Te_putOnTop 38 rfl) (by omega) ?_ | refine wp_isub (ck_get kk_Te_putOnTop 38 rfl) ?_
        refine wp_iload_n rfl (ck_get kk_Te_putOnTop 39 rfl) ?_
        refine wp_cSN3v (ck_get kk_Te_putOnTop 40 rfl) ml_Te_51 (by omega) (Nat.le_of_ble_eq_true rfl) (Cv.to (c_putFirst (len := 24) t1 (by omega) (by decide)) ?_)
        rintro M2 rfl
        refine wp_iload_n rfl (ck_get kk_Te_putOnTop 41 rfl) ?_
        refine wp_ireturn (ck_get kk_Te_putOnTop 42 rfl) rfl rfl ⟨_, rfl, ?_⟩
        refine ⟨rfl, ?_⟩
        have e1 : sn2 p sn = sn := if_neg (fun q => by omega)
        have e2 : hol p sn = sn - 1 := by rw [hol, if_pos hc24, e1]
        have e3 : up1 (up1 (mI M) (a + 2) (up1 (mI M (a + 2)) p (mI M (a + 2) p + cost))) a (up1 (mI M a) 1 (nI sn)) = up1 (mI M) (a + 2) (up1 (mI M (a + 2)) p (mI M (a + 2) p + cost)) := by
          rw [← h1, up1_self]
          have : up1 (mI M) (a + 2) (up1 (mI M (a + 2)) p (mI M (a + 2) p + cost)) a = mI M a := up1_ne (by omega)
          rw [← this, up1_self]
        show mk2 M (up1 (up2 (mI M) (a + 2) p (mI M (a + 2) p + cost)) (a + 1) (shf (up2 (mI M) (a + 2) p (mI M (a + 2) p + cost) (a + 1)) (sn - 1) key)) (mJ M) = _
        rw [ptI, e1, e2, e3, up2_up1, up1_ne (by omega)]
      · exact absurd hc24 hc51
    · refine wp_aload_n rfl (ck_get kk_Te_putOnTop 21 rfl) ?_
      refine wp_dup rfl (ck_get kk_Te_putOnTop 22 rfl) ?_
      refine wp_getIv (v := nI sn) (ck_get kk_Te_putOnTop 23 rfl) fl_Te_15 (by assumption) (by rw [mI_sI, if_neg (by omega)]; exact h1) ?_
      refine wp_iconst (v := nI 1) (by decide) (ck_get kk_Te_putOnTop 24 rfl) ?_
      first | refine wp_iaddN (ck_get kk_Te_putOnTop 25 rfl) ?_ | refine wp_iadd (ck_get kk_Te_putOnTop 25 rfl) ?_
      refine wp_putI (ck_get kk_Te_putOnTop 26 rfl) fl_Te_15 (by decide +kernel) (by assumption) (okI_int _) ?_
      refine wp_aload_n rfl (ck_get kk_Te_putOnTop 27 rfl) ?_
      refine wp_getR (ck_get kk_Te_putOnTop 28 rfl) fl_Te_9 (by assumption) (by assumption) ?_
      refine wp_iload_n rfl (ck_get kk_Te_putOnTop 29 rfl) ?_
      first | refine wp_if_leN (t := 60) (ck_get kk_Te_putOnTop 30 rfl) (by decide) (by omega) (fun hc51 => ?_) (fun hc51 => ?_) | refine wp_if_le (t := 60) (ck_get kk_Te_putOnTop 30 rfl) (by decide) (fun hc51 => ?_) (fun hc51 => ?_)
      · refine wp_aload_n rfl (ck_get kk_Te_putOnTop 35 rfl) ?_
        refine wp_getIv (v := nI (sn + 1)) (ck_get kk_Te_putOnTop 36 rfl) fl_Te_15 (by assumption) (by rw [mI_sI, if_pos ⟨rfl, rfl⟩]) ?_
        refine wp_iconst (v := nI 1) (by decide) (ck_get kk_Te_putOnTop 37 rfl) ?_
        first | refine wp_isubN (ck_get kk_Te_putOnTop 38 rfl) (by omega) ?_ | refine wp_isub (ck_get kk_Te_putOnTop 38 rfl) ?_
        refine wp_iload_n rfl (ck_get kk_Te_putOnTop 39 rfl) ?_
        refine wp_cSN3v (ck_get kk_Te_putOnTop 40 rfl) ml_Te_51 (by omega) (Nat.le_of_ble_eq_true rfl) (Cv.to (c_putFirst (len := 24) t1 (by omega) (by decide)) ?_)
        rintro M2 rfl
        refine wp_iload_n rfl (ck_get kk_Te_putOnTop 41 rfl) ?_
        refine wp_ireturn (ck_get kk_Te_putOnTop 42 rfl) rfl rfl ⟨_, rfl, ?_⟩
        refine ⟨rfl, ?_⟩
        have e1 : sn2 p sn = sn + 1 := if_pos ⟨hc24, by omega⟩
        have e2 : hol p sn = sn + 1 - 1 := by rw [hol, if_pos hc24, e1]
        show mk2 M (up1 (up2 (up2 (mI M) (a + 2) p (mI M (a + 2) p + cost)) a 1 (nI (sn + 1))) (a + 1) (shf (up2 (up2 (mI M) (a + 2) p (mI M (a + 2) p + cost)) a 1 (nI (sn + 1)) (a + 1)) (sn + 1 - 1) key)) (mJ M) = _
        rw [ptI, e1, e2, up2_up1, up2_up1, up1_ne (show a + 1 ≠ a by omega), up1_ne (show a + 1 ≠ a + 2 by omega), up1_ne (show a ≠ a + 2 by omega)]
      · exact absurd hc24 hc51
/-- the record behind a read -/
def rcd (f : Nat → Int32) (rn : Nat) (key : Int32) : Nat → Int32 := if rn < 32 then up1 f rn key else up1 (fun y => if y < 31 then f (y + 1) else f y) 31 key
def rn2 (rn : Nat) : Nat := if rn < 32 then rn + 1 else rn
theorem c_noteRead {rn : Nat} {key : Int32} (hA : TeAt (mT M) (mR M) a) (h8 : mI M a 8 = nI rn) (hr : rn ≤ 32) : Cv g Y_Te_noteRead 1 [.ref a, .int key] M (fun M2 => M2 = mk2 M (up1 (up1 (mI M) a (up1 (mI M a) 8 (nI (rn2 rn)))) (a + 5) (rcd (mI M (a + 5)) rn key)) (mJ M)) := by
  obtain ⟨t0, r0, r2, r3, r6, r7, t1, t2, t3, t4, t5⟩ := hA
  refine cw_entry 0 pf_Te_noteRead rfl ?_
  refine wp_aload_n rfl (ck_get kk_Te_noteRead 0 rfl) ?_
  first | refine wp_getIv (ck_get kk_Te_noteRead 1 rfl) fl_Te_38 (by assumption) (by assumption) ?_ | refine wp_getI (ck_get kk_Te_noteRead 1 rfl) fl_Te_38 (by assumption) ?_
  refine wp_bipush (v := nI 32) (by decide) (ck_get kk_Te_noteRead 2 rfl) ?_
  first | refine wp_icmp_geN (t := 22) (ck_get kk_Te_noteRead 3 rfl) (by decide) (by omega) (by omega) (fun hc6 => ?_) (fun hc6 => ?_) | refine wp_icmp_ge (t := 22) (ck_get kk_Te_noteRead 3 rfl) (by decide) (fun hc6 => ?_) (fun hc6 => ?_)
  · refine wp_aload_n rfl (ck_get kk_Te_noteRead 11 rfl) ?_
    refine wp_getR (ck_get kk_Te_noteRead 12 rfl) fl_Te_35 (by assumption) (by assumption) ?_
    refine wp_iconst (v := nI 1) (by decide) (ck_get kk_Te_noteRead 13 rfl) ?_
    refine wp_aload_n rfl (ck_get kk_Te_noteRead 14 rfl) ?_
    refine wp_getR (ck_get kk_Te_noteRead 15 rfl) fl_Te_35 (by assumption) (by assumption) ?_
    refine wp_iconst (v := nI 0) (by decide) (ck_get kk_Te_noteRead 16 rfl) ?_
    refine wp_bipush (v := nI 31) (by decide) (ck_get kk_Te_noteRead 17 rfl) ?_
    refine wp_copyI (sp := 1) (dp := 0) (k := 31) (ck_get kk_Te_noteRead 18 rfl) ak_Te_41 t5 t5 (nnk_nI (by decide)) (nnk_nI (by decide)) (nnk_nI (by decide)) (by omega) (by omega) (by omega) (Nat.le_of_ble_eq_true rfl) ?_
    refine wp_aload_n rfl (ck_get kk_Te_noteRead 19 rfl) ?_
    refine wp_getR (ck_get kk_Te_noteRead 20 rfl) fl_Te_35 (by assumption) (by assumption) ?_
    refine wp_aload_n rfl (ck_get kk_Te_noteRead 21 rfl) ?_
    refine wp_getIv (v := nI rn) (ck_get kk_Te_noteRead 22 rfl) fl_Te_38 (by assumption) (show (if a = a + 5 ∧ _ then _ else mI M a 8) = nI rn by rw [if_neg (by omega)]; exact h8) ?_
    refine wp_iconst (v := nI 1) (by decide) (ck_get kk_Te_noteRead 23 rfl) ?_
    first | refine wp_isubN (ck_get kk_Te_noteRead 24 rfl) (by omega) ?_ | refine wp_isub (ck_get kk_Te_noteRead 24 rfl) ?_
    refine wp_iload_n rfl (ck_get kk_Te_noteRead 25 rfl) ?_
    refine wp_iast (ck_get kk_Te_noteRead 26 rfl) (by assumption) (by first | assumption | exact ixk_nI (by omega) (by omega)) ?_
    refine wp_return (ck_get kk_Te_noteRead 27 rfl) rfl ⟨rfl, ?_⟩
    have e0 : rn = 32 := by omega
    subst e0
    have e1 : rn2 32 = 32 := rfl
    have e3 : up1 (mI M) a (up1 (mI M a) 8 (nI 32)) = mI M := by rw [← h8, up1_self, up1_self]
    have e4 : rcd (mI M (a + 5)) 32 key = up1 (fun y => if y < 31 then mI M (a + 5) (y + 1) else mI M (a + 5) y) 31 key := if_neg (by omega)
    rw [e1, e3, e4]
    show mk2 M (up2 (fun x y => if x = a + 5 ∧ 0 ≤ y ∧ y < 0 + 31 then mI M (a + 5) (1 + (y - 0)) else mI M x y) (a + 5) (32 - 1) key) (mJ M) = _
    refine congrArg (fun I => mk2 M I (mJ M)) ?_
    funext x y
    unfold up2 up1
    by_cases hx : x = a + 5
    · subst hx
      simp only [true_and, if_true, Nat.zero_add, Nat.zero_le, Nat.sub_zero, show 32 - 1 = 31 from rfl, Nat.add_comm 1 y]
    · simp [hx]
  · refine wp_aload_n rfl (ck_get kk_Te_noteRead 4 rfl) ?_
    refine wp_dup rfl (ck_get kk_Te_noteRead 5 rfl) ?_
    first | refine wp_getIv (ck_get kk_Te_noteRead 6 rfl) fl_Te_38 (by assumption) (by assumption) ?_ | refine wp_getI (ck_get kk_Te_noteRead 6 rfl) fl_Te_38 (by assumption) ?_
    refine wp_iconst (v := nI 1) (by decide) (ck_get kk_Te_noteRead 7 rfl) ?_
    first | refine wp_iaddN (ck_get kk_Te_noteRead 8 rfl) ?_ | refine wp_iadd (ck_get kk_Te_noteRead 8 rfl) ?_
    refine wp_putI (ck_get kk_Te_noteRead 9 rfl) fl_Te_38 (by decide +kernel) (by assumption) (okI_int _) ?_
    refine wp_goto (t := 37) (ck_get kk_Te_noteRead 10 rfl) (by decide) ?_
    refine wp_aload_n rfl (ck_get kk_Te_noteRead 19 rfl) ?_
    refine wp_getR (ck_get kk_Te_noteRead 20 rfl) fl_Te_35 (by assumption) (by assumption) ?_
    refine wp_aload_n rfl (ck_get kk_Te_noteRead 21 rfl) ?_
    refine wp_getIv (v := nI (rn + 1)) (ck_get kk_Te_noteRead 22 rfl) fl_Te_38 (by assumption) (by rw [mI_sI, if_pos ⟨rfl, rfl⟩]) ?_
    refine wp_iconst (v := nI 1) (by decide) (ck_get kk_Te_noteRead 23 rfl) ?_
    first | refine wp_isubN (ck_get kk_Te_noteRead 24 rfl) (by omega) ?_ | refine wp_isub (ck_get kk_Te_noteRead 24 rfl) ?_
    refine wp_iload_n rfl (ck_get kk_Te_noteRead 25 rfl) ?_
    refine wp_iast (ck_get kk_Te_noteRead 26 rfl) (by assumption) (by first | assumption | exact ixk_nI (by omega) (by omega)) ?_
    refine wp_return (ck_get kk_Te_noteRead 27 rfl) rfl ⟨rfl, ?_⟩
    have e1 : rn2 rn = rn + 1 := if_pos (by omega)
    have e4 : rcd (mI M (a + 5)) rn key = up1 (mI M (a + 5)) rn key := if_pos (by omega)
    rw [e1, e4]
    show mk2 M (up2 (up2 (mI M) a 8 (nI (rn + 1))) (a + 5) (rn + 1 - 1) key) (mJ M) = _
    rw [up2_up1, up2_up1, up1_ne (show a + 5 ≠ a by omega)]
    rfl
end TE2

/-! ===== MissCurves$Tenant: drops, copies ===== -/
theorem up1_id {α : Type} {f : Nat → α} {a : Nat} {v : α} (h : f a = v) : up1 f a v = f := by rw [← h, up1_self]
section TE3
variable {g : Gl} {M : Mem} {a : Nat}
/-- one goes out of a row of n at place h (from 0 on) -/
def rmv (f : Nat → Int32) (h n y : Nat) : Int32 := if h ≤ y ∧ y < n - 1 then f (y + 1) else f y
def mq (q mn : Nat) : Nat := if q = 0 then mn else mn - 1
def smq (f : Nat → Int32) (q mn : Nat) : Nat → Int32 := if q = 0 then f else rmv f (q - 1) mn
abbrev rmI (I : Nat → Nat → Int32) (a p sn q mn : Nat) : Nat → Nat → Int32 := up1 (up1 (up1 I a (up1 (up1 (I a) 1 (nI (sn - 1))) 4 (nI (mq q mn)))) (a + 1) (rmv (I (a + 1)) (p - 1) sn)) (a + 3) (smq (I (a + 3)) q mn)
theorem cp_rmv {I : Nat → Nat → Int32} {b p n : Nat} (hp : p ≠ 0) (hn : p ≤ n) : (fun x y => if x = b ∧ p - 1 ≤ y ∧ y < p - 1 + (n - p) then I b (p + (y - (p - 1))) else I x y) = up1 I b (rmv (I b) (p - 1) n) := by
  funext x y
  unfold up1 rmv
  by_cases hx : x = b
  · subst hx
    simp only [true_and, if_true]
    by_cases h : p - 1 ≤ y ∧ y < n - 1
    · rw [if_pos (by omega), if_pos h, show p + (y - (p - 1)) = y + 1 by omega]
    · rw [if_neg (by omega), if_neg h]
  · simp [hx]
theorem c_removeKey {sn mn : Nat} {key : Int32} (hA : TeAt (mT M) (mR M) a) (h1 : mI M a 1 = nI sn) (hs : sn ≤ 24) (h4 : mI M a 4 = nI mn) (hm : mn ≤ 7) : Ci g Y_Te_removeKey 1 [.ref a, .int key] M (fun x M2 => x = nI (fnd (mI M (a + 1)) sn key) ∧ M2 = mk2 M (if fnd (mI M (a + 1)) sn key = 0 then mI M else rmI (mI M) a (fnd (mI M (a + 1)) sn key) sn (fnd (mI M (a + 3)) mn key) mn) (mJ M)) := by
  obtain ⟨t0, r0, r2, r3, r6, r7, t1, t2, t3, t4, t5⟩ := hA
  refine cw_entry 2 pf_Te_removeKey rfl ?_
  have hp : fnd (mI M (a + 1)) sn key ≤ sn := fnd_le
  have hq : fnd (mI M (a + 3)) mn key ≤ mn := fnd_le
  refine wp_aload_n rfl (ck_get kk_Te_removeKey 0 rfl) ?_
  refine wp_getR (ck_get kk_Te_removeKey 1 rfl) fl_Te_9 (by assumption) (by assumption) ?_
  refine wp_aload_n rfl (ck_get kk_Te_removeKey 2 rfl) ?_
  first | refine wp_getIv (ck_get kk_Te_removeKey 3 rfl) fl_Te_15 (by assumption) (by assumption) ?_ | refine wp_getI (ck_get kk_Te_removeKey 3 rfl) fl_Te_15 (by assumption) ?_
  refine wp_iload_n rfl (ck_get kk_Te_removeKey 4 rfl) ?_
  refine wp_cSN3i (ck_get kk_Te_removeKey 5 rfl) ml_Te_47 (by omega) (Nat.le_of_ble_eq_true rfl) (Ci.to (c_placeIn t1 hs (by decide)) ?_)
  rintro _ M1 ⟨rfl, e1⟩
  obtain rfl := e1.symm
  refine wp_istore_n (ck_get kk_Te_removeKey 6 rfl) (by decide) rfl ?_
  generalize fnd (mI M (a + 1)) sn key = p at hp ⊢
  refine wp_iload_n rfl (ck_get kk_Te_removeKey 7 rfl) ?_
  first | refine wp_if_neN (t := 19) (ck_get kk_Te_removeKey 8 rfl) (by decide) (by omega) (fun hc14 => ?_) (fun hc14 => ?_) | refine wp_if_ne (t := 19) (ck_get kk_Te_removeKey 8 rfl) (by decide) (fun hc14 => ?_) (fun hc14 => ?_)
  · refine wp_aload_n rfl (ck_get kk_Te_removeKey 11 rfl) ?_
    refine wp_getR (ck_get kk_Te_removeKey 12 rfl) fl_Te_9 (by assumption) (by assumption) ?_
    refine wp_iload_n rfl (ck_get kk_Te_removeKey 13 rfl) ?_
    refine wp_aload_n rfl (ck_get kk_Te_removeKey 14 rfl) ?_
    refine wp_getR (ck_get kk_Te_removeKey 15 rfl) fl_Te_9 (by assumption) (by assumption) ?_
    refine wp_iload_n rfl (ck_get kk_Te_removeKey 16 rfl) ?_
    refine wp_iconst (v := nI 1) (by decide) (ck_get kk_Te_removeKey 17 rfl) ?_
    first | refine wp_isubN (ck_get kk_Te_removeKey 18 rfl) (by omega) ?_ | refine wp_isub (ck_get kk_Te_removeKey 18 rfl) ?_
    refine wp_aload_n rfl (ck_get kk_Te_removeKey 19 rfl) ?_
    first | refine wp_getIv (ck_get kk_Te_removeKey 20 rfl) fl_Te_15 (by assumption) (by assumption) ?_ | refine wp_getI (ck_get kk_Te_removeKey 20 rfl) fl_Te_15 (by assumption) ?_
    refine wp_iload_n rfl (ck_get kk_Te_removeKey 21 rfl) ?_
    first | refine wp_isubN (ck_get kk_Te_removeKey 22 rfl) (by omega) ?_ | refine wp_isub (ck_get kk_Te_removeKey 22 rfl) ?_
    refine wp_copyI (sp := p) (dp := p - 1) (k := sn - p) (ck_get kk_Te_removeKey 23 rfl) ak_Te_41 t1 t1 (nnk_nI (by omega)) (nnk_nI (by omega)) (nnk_nI (by omega)) (by omega) (by omega) (by omega) (Nat.le_of_ble_eq_true rfl) ?_
    refine wp_aload_n rfl (ck_get kk_Te_removeKey 24 rfl) ?_
    refine wp_dup rfl (ck_get kk_Te_removeKey 25 rfl) ?_
    refine wp_getIv (ck_get kk_Te_removeKey 26 rfl) fl_Te_15 (by assumption) (show (if a = a + 1 ∧ _ then _ else mI M a 1) = nI sn by rw [if_neg (by omega)]; exact h1) ?_
    refine wp_iconst (v := nI 1) (by decide) (ck_get kk_Te_removeKey 27 rfl) ?_
    first | refine wp_isubN (ck_get kk_Te_removeKey 28 rfl) (by omega) ?_ | refine wp_isub (ck_get kk_Te_removeKey 28 rfl) ?_
    refine wp_putI (ck_get kk_Te_removeKey 29 rfl) fl_Te_15 (by decide +kernel) (by assumption) (okI_int _) ?_
    refine wp_aload_n rfl (ck_get kk_Te_removeKey 30 rfl) ?_
    refine wp_getR (ck_get kk_Te_removeKey 31 rfl) fl_Te_22 (by assumption) (by assumption) ?_
    refine wp_aload_n rfl (ck_get kk_Te_removeKey 32 rfl) ?_
    refine wp_getIv (ck_get kk_Te_removeKey 33 rfl) fl_Te_25 (by assumption) (show (up2 (fun x y => if x = a + 1 ∧ p - 1 ≤ y ∧ y < p - 1 + (sn - p) then mI M (a + 1) (p + (y - (p - 1))) else mI M x y) a 1 (nI (sn - 1))) a 4 = nI mn by
      rw [cp_rmv hc14 hp, up2_up1, up1_eq, up1_ne (by omega), up1_ne (by omega)]; exact h4) ?_
    refine wp_iload_n rfl (ck_get kk_Te_removeKey 34 rfl) ?_
    have e3 : (up2 (fun x y => if x = a + 1 ∧ p - 1 ≤ y ∧ y < p - 1 + (sn - p) then mI M (a + 1) (p + (y - (p - 1))) else mI M x y) a 1 (nI (sn - 1))) (a + 3) = mI M (a + 3) := by
      rw [cp_rmv hc14 hp, up2_up1, up1_ne (by omega), up1_ne (by omega)]
    refine wp_cSN3i (ck_get kk_Te_removeKey 35 rfl) ml_Te_47 (by omega) (Nat.le_of_ble_eq_true rfl) (Ci.to (c_placeIn (len := 7) (sz := mn) t3 hm (by decide)) ?_)
    rintro x3 M3 ⟨e4, e5⟩
    obtain rfl := e5.symm
    replace e4 := e4.trans (congrArg (fun f => nI (fnd f mn key)) e3)
    subst e4
    generalize fnd (mI M (a + 3)) mn key = q at hq ⊢
    refine wp_istore_n (ck_get kk_Te_removeKey 36 rfl) (by decide) rfl ?_
    refine wp_iload_n rfl (ck_get kk_Te_removeKey 37 rfl) ?_
    first | refine wp_if_leN (t := 98) (ck_get kk_Te_removeKey 38 rfl) (by decide) (by omega) (fun hc64 => ?_) (fun hc64 => ?_) | refine wp_if_le (t := 98) (ck_get kk_Te_removeKey 38 rfl) (by decide) (fun hc64 => ?_) (fun hc64 => ?_)
    · refine wp_iload_n rfl (ck_get kk_Te_removeKey 58 rfl) ?_
      refine wp_ireturn (ck_get kk_Te_removeKey 59 rfl) rfl rfl ⟨_, rfl, ?_⟩
      refine ⟨rfl, ?_⟩
      rw [if_neg hc14]
      show mk2 M (up2 (fun x y => if x = a + 1 ∧ p - 1 ≤ y ∧ y < p - 1 + (sn - p) then mI M (a + 1) (p + (y - (p - 1))) else mI M x y) a 1 (nI (sn - 1))) (mJ M) = _
      have e6 : mq q mn = mn := if_pos hc64
      have e7 : smq (mI M (a + 3)) q mn = mI M (a + 3) := if_pos hc64
      have e8 : up1 (up1 (mI M a) 1 (nI (sn - 1))) 4 (nI mn) = up1 (mI M a) 1 (nI (sn - 1)) := by
        have : up1 (mI M a) 1 (nI (sn - 1)) 4 = nI mn := (up1_ne (by omega)).trans h4
        rw [← this, up1_self]
      rw [rmI, e6, e7, e8, cp_rmv hc14 hp, up2_up1, up1_ne (show a ≠ a + 1 by omega), up1_comm (mI M) (show a + 1 ≠ a by omega)]
      rw [up1_id (show up1 (up1 (mI M) a (up1 (mI M a) 1 (nI (sn - 1)))) (a + 1) (rmv (mI M (a + 1)) (p - 1) sn) (a + 3) = mI M (a + 3) by rw [up1_ne (by omega), up1_ne (by omega)])]
    · refine wp_aload_n rfl (ck_get kk_Te_removeKey 39 rfl) ?_
      refine wp_getR (ck_get kk_Te_removeKey 40 rfl) fl_Te_22 (by assumption) (by assumption) ?_
      refine wp_iload_n rfl (ck_get kk_Te_removeKey 41 rfl) ?_
      refine wp_aload_n rfl (ck_get kk_Te_removeKey 42 rfl) ?_
      refine wp_getR (ck_get kk_Te_removeKey 43 rfl) fl_Te_22 (by assumption) (by assumption) ?_
      refine wp_iload_n rfl (ck_get kk_Te_removeKey 44 rfl) ?_
      refine wp_iconst (v := nI 1) (by decide) (ck_get kk_Te_removeKey 45 rfl) ?_
      first | refine wp_isubN (ck_get kk_Te_removeKey 46 rfl) (by omega) ?_ | refine wp_isub (ck_get kk_Te_removeKey 46 rfl) ?_
      refine wp_aload_n rfl (ck_get kk_Te_removeKey 47 rfl) ?_
      refine wp_getIv (ck_get kk_Te_removeKey 48 rfl) fl_Te_25 (by assumption) (show (up2 (fun x y => if x = a + 1 ∧ p - 1 ≤ y ∧ y < p - 1 + (sn - p) then mI M (a + 1) (p + (y - (p - 1))) else mI M x y) a 1 (nI (sn - 1))) a 4 = nI mn by
        rw [cp_rmv hc14 hp, up2_up1, up1_eq, up1_ne (by omega), up1_ne (by omega)]; exact h4) ?_
      refine wp_iload_n rfl (ck_get kk_Te_removeKey 49 rfl) ?_
      first | refine wp_isubN (ck_get kk_Te_removeKey 50 rfl) (by omega) ?_ | refine wp_isub (ck_get kk_Te_removeKey 50 rfl) ?_
      refine wp_copyI (sp := q) (dp := q - 1) (k := mn - q) (ck_get kk_Te_removeKey 51 rfl) ak_Te_41 t3 t3 (nnk_nI (by omega)) (nnk_nI (by omega)) (nnk_nI (by omega)) (by omega) (by omega) (by omega) (Nat.le_of_ble_eq_true rfl) ?_
      refine wp_aload_n rfl (ck_get kk_Te_removeKey 52 rfl) ?_
      refine wp_dup rfl (ck_get kk_Te_removeKey 53 rfl) ?_
      refine wp_getIv (ck_get kk_Te_removeKey 54 rfl) fl_Te_25 (by assumption) (show (if a = a + 3 ∧ _ then _ else (up2 (fun x y => if x = a + 1 ∧ p - 1 ≤ y ∧ y < p - 1 + (sn - p) then mI M (a + 1) (p + (y - (p - 1))) else mI M x y) a 1 (nI (sn - 1))) a 4) = nI mn by
        rw [if_neg (by omega), cp_rmv hc14 hp, up2_up1, up1_eq, up1_ne (by omega), up1_ne (by omega)]; exact h4) ?_
      refine wp_iconst (v := nI 1) (by decide) (ck_get kk_Te_removeKey 55 rfl) ?_
      first | refine wp_isubN (ck_get kk_Te_removeKey 56 rfl) (by omega) ?_ | refine wp_isub (ck_get kk_Te_removeKey 56 rfl) ?_
      refine wp_putI (ck_get kk_Te_removeKey 57 rfl) fl_Te_25 (by decide +kernel) (by assumption) (okI_int _) ?_
      refine wp_iload_n rfl (ck_get kk_Te_removeKey 58 rfl) ?_
      refine wp_ireturn (ck_get kk_Te_removeKey 59 rfl) rfl rfl ⟨_, rfl, ?_⟩
      refine ⟨rfl, ?_⟩
      rw [if_neg hc14]
      have e6 : mq q mn = mn - 1 := if_neg hc64
      have e7 : smq (mI M (a + 3)) q mn = rmv (mI M (a + 3)) (q - 1) mn := if_neg hc64
      rw [rmI, e6, e7]
      have e9 := @cp_rmv (up2 (fun x y => if x = a + 1 ∧ p - 1 ≤ y ∧ y < p - 1 + (sn - p) then mI M (a + 1) (p + (y - (p - 1))) else mI M x y) a 1 (nI (sn - 1))) (a + 3) q mn hc64 hq
      rw [e3] at e9
      refine congrArg (fun I => mk2 M I (mJ M)) ?_
      show up2 (fun x y => if x = a + 3 ∧ q - 1 ≤ y ∧ y < q - 1 + (mn - q) then (up2 (fun x y => if x = a + 1 ∧ p - 1 ≤ y ∧ y < p - 1 + (sn - p) then mI M (a + 1) (p + (y - (p - 1))) else mI M x y) a 1 (nI (sn - 1))) (a + 3) (q + (y - (q - 1))) else (up2 (fun x y => if x = a + 1 ∧ p - 1 ≤ y ∧ y < p - 1 + (sn - p) then mI M (a + 1) (p + (y - (p - 1))) else mI M x y) a 1 (nI (sn - 1))) x y) a 4 (nI (mn - 1)) = _
      rw [e3, e9, cp_rmv hc14 hp, up2_up1, up2_up1]
      rw [up1_ne (show a ≠ a + 3 by omega), up1_eq, up1_ne (show a ≠ a + 1 by omega)]
      rw [up1_comm _ (show a + 3 ≠ a by omega), up1_up1, up1_comm (mI M) (show a + 1 ≠ a by omega)]
  · refine wp_iconst (v := nI 0) (by decide) (ck_get kk_Te_removeKey 9 rfl) ?_
    refine wp_ireturn (ck_get kk_Te_removeKey 10 rfl) rfl rfl ⟨_, rfl, ?_⟩
    exact ⟨by rw [hc14], by rw [if_pos hc14]⟩
/-- a tenant is as another one -/
def TeSame (I : Nat → Nat → Int32) (J : Nat → Nat → Int64) (a : Nat) (I2 : Nat → Nat → Int32) (J2 : Nat → Nat → Int64) (b : Nat) : Prop :=
  I2 b 1 = I a 1 ∧ I2 b 4 = I a 4 ∧ I2 b 5 = I a 5 ∧ I2 b 8 = I a 8 ∧ (∀ y, y < 24 → I2 (b + 1) y = I (a + 1) y) ∧ (∀ y, y < 25 → I2 (b + 2) y = I (a + 2) y) ∧ (∀ y, y < 7 → I2 (b + 3) y = I (a + 3) y) ∧ (∀ y, y < 25 → J2 (b + 4) y = J (a + 4) y) ∧ (∀ y, y < 32 → I2 (b + 5) y = I (a + 5) y)
/-- outside of lo .. hi - 1 nothing has changed -/
def Frm (lo hi : Nat) (I : Nat → Nat → Int32) (J : Nat → Nat → Int64) (I2 : Nat → Nat → Int32) (J2 : Nat → Nat → Int64) : Prop := ∀ x, x < lo ∨ hi ≤ x → I2 x = I x ∧ J2 x = J x
theorem mI_cpI {a0 sp b dp k x y : Nat} : mI (cpI M a0 sp b dp k) x y = if x = b ∧ dp ≤ y ∧ y < dp + k then mI M a0 (sp + (y - dp)) else mI M x y := rfl
theorem mJ_cpJ {a0 sp b dp k x y : Nat} : mJ (cpJ M a0 sp b dp k) x y = if x = b ∧ dp ≤ y ∧ y < dp + k then mJ M a0 (sp + (y - dp)) else mJ M x y := rfl
theorem mI_cpJ {a0 sp b dp k : Nat} : mI (cpJ M a0 sp b dp k) = mI M := rfl
theorem mJ_cpI {a0 sp b dp k : Nat} : mJ (cpI M a0 sp b dp k) = mJ M := rfl
theorem mJ_sI {b k : Nat} {v : Int32} : mJ (sI M b k v) = mJ M := rfl
abbrev cfM (M : Mem) (a b : Nat) : Mem := sI (cpI (cpJ (sI (sI (cpI (cpI (sI (cpI M (a + 1) 0 (b + 1) 0 24) b 1 (mI M a 1)) (a + 2) 0 (b + 2) 0 25) (a + 3) 0 (b + 3) 0 7) b 4 (mI M a 4)) b 5 (mI M a 5)) (a + 4) 0 (b + 4) 0 25) (a + 5) 0 (b + 5) 0 32) b 8 (mI M a 8)
theorem cfM_same {b : Nat} (hd : a + 6 ≤ b ∨ b + 6 ≤ a) : TeSame (mI M) (mJ M) a (mI (cfM M a b)) (mJ (cfM M a b)) b := by
  refine ⟨?_, ?_, ?_, ?_, fun y hy => ?_, fun y hy => ?_, fun y hy => ?_, fun y hy => ?_, fun y hy => ?_⟩
  all_goals simp only [mI_sI, mI_cpI, mI_cpJ, mJ_cpJ, mJ_cpI, mJ_sI, true_and, and_self, and_true, if_true]
  all_goals (repeat (first | rw [if_pos (by omega)] | rw [if_neg (by omega)]))
  all_goals (try simp only [Nat.zero_add, Nat.sub_zero])
theorem cfM_frm {b : Nat} : Frm b (b + 6) (mI M) (mJ M) (mI (cfM M a b)) (mJ (cfM M a b)) := by
  intro x hx
  refine ⟨funext fun y => ?_, funext fun y => ?_⟩
  all_goals simp only [mI_sI, mI_cpI, mI_cpJ, mJ_cpJ, mJ_cpI, mJ_sI, true_and, and_self, and_true, if_true]
  all_goals (repeat (first | rw [if_pos (by omega)] | rw [if_neg (by omega)]))
theorem c_TecopyFrom {b : Nat} (hA : TeAt (mT M) (mR M) a) (hB : TeAt (mT M) (mR M) b) (hd : a + 6 ≤ b ∨ b + 6 ≤ a) : Cv g Y_Te_copyFrom 1 [.ref b, .ref a] M (fun M2 => ∃ I2 J2, M2 = mk2 M I2 J2 ∧ TeSame (mI M) (mJ M) a I2 J2 b ∧ Frm b (b + 6) (mI M) (mJ M) I2 J2) := by
  obtain ⟨t0, r0, r2, r3, r6, r7, t1, t2, t3, t4, t5⟩ := hA
  obtain ⟨s0, q0, q2, q3, q6, q7, s1, s2, s3, s4, s5⟩ := hB
  refine cw_entry 0 pf_Te_copyFrom rfl ?_
  refine wp_aload_n rfl (ck_get kk_Te_copyFrom 0 rfl) ?_
  refine wp_getR (ck_get kk_Te_copyFrom 1 rfl) fl_Te_9 (by assumption) (by assumption) ?_
  refine wp_iconst (v := nI 0) (by decide) (ck_get kk_Te_copyFrom 2 rfl) ?_
  refine wp_aload_n rfl (ck_get kk_Te_copyFrom 3 rfl) ?_
  refine wp_getR (ck_get kk_Te_copyFrom 4 rfl) fl_Te_9 (by assumption) (by assumption) ?_
  refine wp_iconst (v := nI 0) (by decide) (ck_get kk_Te_copyFrom 5 rfl) ?_
  refine wp_bipush (v := nI 24) (by decide) (ck_get kk_Te_copyFrom 6 rfl) ?_
  refine wp_copyI (sp := 0) (dp := 0) (k := 24) (ck_get kk_Te_copyFrom 7 rfl) ak_Te_41 t1 s1 (nnk_nI (by decide)) (nnk_nI (by decide)) (nnk_nI (by decide)) (by omega) (by omega) (by omega) (Nat.le_of_ble_eq_true rfl) ?_
  refine wp_aload_n rfl (ck_get kk_Te_copyFrom 8 rfl) ?_
  refine wp_aload_n rfl (ck_get kk_Te_copyFrom 9 rfl) ?_
  refine wp_getIv (v := mI M a 1) (ck_get kk_Te_copyFrom 10 rfl) fl_Te_15 (by assumption) (by simp only [mI_sI, mI_cpI, mI_cpJ]; repeat rw [if_neg (by omega)]) ?_
  refine wp_putI (ck_get kk_Te_copyFrom 11 rfl) fl_Te_15 (by decide +kernel) (by assumption) (okI_int _) ?_
  refine wp_aload_n rfl (ck_get kk_Te_copyFrom 12 rfl) ?_
  refine wp_getR (ck_get kk_Te_copyFrom 13 rfl) fl_Te_19 (by assumption) (by assumption) ?_
  refine wp_iconst (v := nI 0) (by decide) (ck_get kk_Te_copyFrom 14 rfl) ?_
  refine wp_aload_n rfl (ck_get kk_Te_copyFrom 15 rfl) ?_
  refine wp_getR (ck_get kk_Te_copyFrom 16 rfl) fl_Te_19 (by assumption) (by assumption) ?_
  refine wp_iconst (v := nI 0) (by decide) (ck_get kk_Te_copyFrom 17 rfl) ?_
  refine wp_bipush (v := nI 25) (by decide) (ck_get kk_Te_copyFrom 18 rfl) ?_
  refine wp_copyI (sp := 0) (dp := 0) (k := 25) (ck_get kk_Te_copyFrom 19 rfl) ak_Te_41 t2 s2 (nnk_nI (by decide)) (nnk_nI (by decide)) (nnk_nI (by decide)) (by omega) (by omega) (by omega) (Nat.le_of_ble_eq_true rfl) ?_
  refine wp_aload_n rfl (ck_get kk_Te_copyFrom 20 rfl) ?_
  refine wp_getR (ck_get kk_Te_copyFrom 21 rfl) fl_Te_22 (by assumption) (by assumption) ?_
  refine wp_iconst (v := nI 0) (by decide) (ck_get kk_Te_copyFrom 22 rfl) ?_
  refine wp_aload_n rfl (ck_get kk_Te_copyFrom 23 rfl) ?_
  refine wp_getR (ck_get kk_Te_copyFrom 24 rfl) fl_Te_22 (by assumption) (by assumption) ?_
  refine wp_iconst (v := nI 0) (by decide) (ck_get kk_Te_copyFrom 25 rfl) ?_
  refine wp_bipush (v := nI 7) (by decide) (ck_get kk_Te_copyFrom 26 rfl) ?_
  refine wp_copyI (sp := 0) (dp := 0) (k := 7) (ck_get kk_Te_copyFrom 27 rfl) ak_Te_41 t3 s3 (nnk_nI (by decide)) (nnk_nI (by decide)) (nnk_nI (by decide)) (by omega) (by omega) (by omega) (Nat.le_of_ble_eq_true rfl) ?_
  refine wp_aload_n rfl (ck_get kk_Te_copyFrom 28 rfl) ?_
  refine wp_aload_n rfl (ck_get kk_Te_copyFrom 29 rfl) ?_
  refine wp_getIv (v := mI M a 4) (ck_get kk_Te_copyFrom 30 rfl) fl_Te_25 (by assumption) (by simp only [mI_sI, mI_cpI, mI_cpJ]; repeat rw [if_neg (by omega)]) ?_
  refine wp_putI (ck_get kk_Te_copyFrom 31 rfl) fl_Te_25 (by decide +kernel) (by assumption) (okI_int _) ?_
  refine wp_aload_n rfl (ck_get kk_Te_copyFrom 32 rfl) ?_
  refine wp_aload_n rfl (ck_get kk_Te_copyFrom 33 rfl) ?_
  refine wp_getIv (v := mI M a 5) (ck_get kk_Te_copyFrom 34 rfl) fl_Te_28 (by assumption) (by simp only [mI_sI, mI_cpI, mI_cpJ]; repeat rw [if_neg (by omega)]) ?_
  refine wp_putI (ck_get kk_Te_copyFrom 35 rfl) fl_Te_28 (by decide +kernel) (by assumption) (okI_int _) ?_
  refine wp_aload_n rfl (ck_get kk_Te_copyFrom 36 rfl) ?_
  refine wp_getR (ck_get kk_Te_copyFrom 37 rfl) fl_Te_31 (by assumption) (by assumption) ?_
  refine wp_iconst (v := nI 0) (by decide) (ck_get kk_Te_copyFrom 38 rfl) ?_
  refine wp_aload_n rfl (ck_get kk_Te_copyFrom 39 rfl) ?_
  refine wp_getR (ck_get kk_Te_copyFrom 40 rfl) fl_Te_31 (by assumption) (by assumption) ?_
  refine wp_iconst (v := nI 0) (by decide) (ck_get kk_Te_copyFrom 41 rfl) ?_
  refine wp_bipush (v := nI 25) (by decide) (ck_get kk_Te_copyFrom 42 rfl) ?_
  refine wp_copyJ (sp := 0) (dp := 0) (k := 25) (ck_get kk_Te_copyFrom 43 rfl) ak_Te_41 t4 s4 (nnk_nI (by decide)) (nnk_nI (by decide)) (nnk_nI (by decide)) (by omega) (by omega) (by omega) (Nat.le_of_ble_eq_true rfl) ?_
  refine wp_aload_n rfl (ck_get kk_Te_copyFrom 44 rfl) ?_
  refine wp_getR (ck_get kk_Te_copyFrom 45 rfl) fl_Te_35 (by assumption) (by assumption) ?_
  refine wp_iconst (v := nI 0) (by decide) (ck_get kk_Te_copyFrom 46 rfl) ?_
  refine wp_aload_n rfl (ck_get kk_Te_copyFrom 47 rfl) ?_
  refine wp_getR (ck_get kk_Te_copyFrom 48 rfl) fl_Te_35 (by assumption) (by assumption) ?_
  refine wp_iconst (v := nI 0) (by decide) (ck_get kk_Te_copyFrom 49 rfl) ?_
  refine wp_bipush (v := nI 32) (by decide) (ck_get kk_Te_copyFrom 50 rfl) ?_
  refine wp_copyI (sp := 0) (dp := 0) (k := 32) (ck_get kk_Te_copyFrom 51 rfl) ak_Te_41 t5 s5 (nnk_nI (by decide)) (nnk_nI (by decide)) (nnk_nI (by decide)) (by omega) (by omega) (by omega) (Nat.le_of_ble_eq_true rfl) ?_
  refine wp_aload_n rfl (ck_get kk_Te_copyFrom 52 rfl) ?_
  refine wp_aload_n rfl (ck_get kk_Te_copyFrom 53 rfl) ?_
  refine wp_getIv (v := mI M a 8) (ck_get kk_Te_copyFrom 54 rfl) fl_Te_38 (by assumption) (by simp only [mI_sI, mI_cpI, mI_cpJ]; repeat rw [if_neg (by omega)]) ?_
  refine wp_putI (ck_get kk_Te_copyFrom 55 rfl) fl_Te_38 (by decide +kernel) (by assumption) (okI_int _) ?_
  refine wp_return (ck_get kk_Te_copyFrom 56 rfl) rfl ⟨rfl, ?_⟩
  exact ⟨mI (cfM M a b), mJ (cfM M a b), rfl, cfM_same hd, cfM_frm⟩
end TE3

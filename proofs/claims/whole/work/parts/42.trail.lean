/-! ===== MissCurves$Trail ===== -/
theorem up2_id {α : Type} {f : Nat → Nat → α} {a k : Nat} {v : α} (h : f a k = v) : up2 f a k v = f := by
  rw [up2_up1, up1_id h, up1_self]
/-- a trail's cells: itself, its row of worlds (at wf), its row of kinds -/
def TrAt (T : Nat → Nat × Nat) (R : Nat → Nat → Option Nat) (a : Nat) (wf : Nat → Nat) : Prop := T a = (8, 0) ∧ R a 0 = some (a + 1) ∧ T (a + 1) = (25, 16) ∧ R a 1 = some (a + 2) ∧ T (a + 2) = (20, 16) ∧ ∀ s, s < 16 → R (a + 1) s = some (wf s) ∧ WoAt T R (wf s)
def nfi (f n : Nat) : Nat := if n < 16 then f else (f + 1) % 16
def nsz (n : Nat) : Nat := if n < 16 then n + 1 else n
def nsl (f n : Nat) : Nat := (nfi f n + nsz n - 1) % 16
theorem nsl_lt (f n : Nat) : nsl f n < 16 := Nat.mod_lt _ (by decide)
section TR
variable {g : Gl} {M : Mem} {a : Nat} {wf : Nat → Nat}
theorem c_Trclear (hA : TrAt (mT M) (mR M) a wf) : Cv g Y_Tr_clear 0 [.ref a] M (fun M2 => M2 = sI (sI M a 2 (nI 0)) a 3 (nI 0)) := by
  obtain ⟨t0, r0, t1, r1, t2, hws⟩ := hA
  refine cw_entry 0 pf_Tr_clear rfl ?_
  refine wp_aload_n rfl (ck_get kk_Tr_clear 0 rfl) ?_
  refine wp_iconst (v := nI 0) (by decide) (ck_get kk_Tr_clear 1 rfl) ?_
  refine wp_putI (ck_get kk_Tr_clear 2 rfl) fl_Tr_21 (by decide +kernel) (by assumption) (okI_int _) ?_
  refine wp_aload_n rfl (ck_get kk_Tr_clear 3 rfl) ?_
  refine wp_iconst (v := nI 0) (by decide) (ck_get kk_Tr_clear 4 rfl) ?_
  refine wp_putI (ck_get kk_Tr_clear 5 rfl) fl_Tr_25 (by decide +kernel) (by assumption) (okI_int _) ?_
  refine wp_return (ck_get kk_Tr_clear 6 rfl) rfl ⟨rfl, ?_⟩
  rfl
theorem c_nextSlot {f n : Nat} (hA : TrAt (mT M) (mR M) a wf) (h2 : mI M a 2 = nI f) (hf : f < 16) (h3 : mI M a 3 = nI n) (hn : n ≤ 16) : Ci g Y_Tr_nextSlot 0 [.ref a] M (fun x M2 => x = nI (nsl f n) ∧ M2 = sI (sI M a 2 (nI (nfi f n))) a 3 (nI (nsz n))) := by
  obtain ⟨t0, r0, t1, r1, t2, hws⟩ := hA
  refine cw_entry 0 pf_Tr_nextSlot rfl ?_
  have hmod : (f + 1) % 16 < 16 := Nat.mod_lt _ (by decide)
  refine wp_aload_n rfl (ck_get kk_Tr_nextSlot 0 rfl) ?_
  refine wp_getIv (v := nI n) (ck_get kk_Tr_nextSlot 1 rfl) fl_Tr_25 (by assumption) (h3) ?_
  refine wp_bipush (v := nI 16) (by decide) (ck_get kk_Tr_nextSlot 2 rfl) ?_
  first | refine wp_icmp_geN (t := 22) (ck_get kk_Tr_nextSlot 3 rfl) (by decide) (by omega) (by omega) (fun hc6 => ?_) (fun hc6 => ?_) | refine wp_icmp_ge (t := 22) (ck_get kk_Tr_nextSlot 3 rfl) (by decide) (fun hc6 => ?_) (fun hc6 => ?_)
  · refine wp_aload_n rfl (ck_get kk_Tr_nextSlot 11 rfl) ?_
    refine wp_aload_n rfl (ck_get kk_Tr_nextSlot 12 rfl) ?_
    refine wp_getIv (v := nI f) (ck_get kk_Tr_nextSlot 13 rfl) fl_Tr_21 (by assumption) (h2) ?_
    refine wp_iconst (v := nI 1) (by decide) (ck_get kk_Tr_nextSlot 14 rfl) ?_
    first | refine wp_iaddN (ck_get kk_Tr_nextSlot 15 rfl) ?_ | refine wp_iadd (ck_get kk_Tr_nextSlot 15 rfl) ?_
    refine wp_bipush (v := nI 16) (by decide) (ck_get kk_Tr_nextSlot 16 rfl) ?_
    first | refine wp_iremN (ck_get kk_Tr_nextSlot 17 rfl) (by omega) (by omega) (by omega) ?_ | refine wp_irem (by decide) (ck_get kk_Tr_nextSlot 17 rfl) ?_
    refine wp_putI (ck_get kk_Tr_nextSlot 18 rfl) fl_Tr_21 (by decide +kernel) (by assumption) (okI_int _) ?_
    refine wp_aload_n rfl (ck_get kk_Tr_nextSlot 19 rfl) ?_
    refine wp_getIv (v := nI ((f + 1) % 16)) (ck_get kk_Tr_nextSlot 20 rfl) fl_Tr_21 (by assumption) (by rw [mI_sI, if_pos ⟨rfl, rfl⟩]) ?_
    refine wp_aload_n rfl (ck_get kk_Tr_nextSlot 21 rfl) ?_
    refine wp_getIv (v := nI n) (ck_get kk_Tr_nextSlot 22 rfl) fl_Tr_25 (by assumption) (by rw [mI_sI, if_neg (by omega)]; exact h3) ?_
    first | refine wp_iaddN (ck_get kk_Tr_nextSlot 23 rfl) ?_ | refine wp_iadd (ck_get kk_Tr_nextSlot 23 rfl) ?_
    refine wp_iconst (v := nI 1) (by decide) (ck_get kk_Tr_nextSlot 24 rfl) ?_
    first | refine wp_isubN (ck_get kk_Tr_nextSlot 25 rfl) (by omega) ?_ | refine wp_isub (ck_get kk_Tr_nextSlot 25 rfl) ?_
    refine wp_bipush (v := nI 16) (by decide) (ck_get kk_Tr_nextSlot 26 rfl) ?_
    first | refine wp_iremN (ck_get kk_Tr_nextSlot 27 rfl) (by omega) (by omega) (by omega) ?_ | refine wp_irem (by decide) (ck_get kk_Tr_nextSlot 27 rfl) ?_
    refine wp_ireturn (ck_get kk_Tr_nextSlot 28 rfl) rfl rfl ⟨_, rfl, ?_⟩
    have q1 : nfi f n = (f + 1) % 16 := if_neg (by omega)
    have q2 : nsz n = n := if_neg (by omega)
    refine ⟨by rw [nsl, q1, q2], ?_⟩
    rw [q1, q2]
    refine congrArg (fun I => mk2 M I (mJ M)) ?_
    exact (up2_id (show up2 (mI M) a 2 (nI ((f + 1) % 16)) a 3 = nI n by rw [up2_up1, up1_eq, up1_ne (by omega)]; exact h3)).symm
  · refine wp_aload_n rfl (ck_get kk_Tr_nextSlot 4 rfl) ?_
    refine wp_dup rfl (ck_get kk_Tr_nextSlot 5 rfl) ?_
    refine wp_getIv (v := nI n) (ck_get kk_Tr_nextSlot 6 rfl) fl_Tr_25 (by assumption) (h3) ?_
    refine wp_iconst (v := nI 1) (by decide) (ck_get kk_Tr_nextSlot 7 rfl) ?_
    first | refine wp_iaddN (ck_get kk_Tr_nextSlot 8 rfl) ?_ | refine wp_iadd (ck_get kk_Tr_nextSlot 8 rfl) ?_
    refine wp_putI (ck_get kk_Tr_nextSlot 9 rfl) fl_Tr_25 (by decide +kernel) (by assumption) (okI_int _) ?_
    refine wp_goto (t := 35) (ck_get kk_Tr_nextSlot 10 rfl) (by decide) ?_
    refine wp_aload_n rfl (ck_get kk_Tr_nextSlot 19 rfl) ?_
    refine wp_getIv (v := nI f) (ck_get kk_Tr_nextSlot 20 rfl) fl_Tr_21 (by assumption) (by rw [mI_sI, if_neg (by omega)]; exact h2) ?_
    refine wp_aload_n rfl (ck_get kk_Tr_nextSlot 21 rfl) ?_
    refine wp_getIv (v := nI (n + 1)) (ck_get kk_Tr_nextSlot 22 rfl) fl_Tr_25 (by assumption) (by rw [mI_sI, if_pos ⟨rfl, rfl⟩]) ?_
    first | refine wp_iaddN (ck_get kk_Tr_nextSlot 23 rfl) ?_ | refine wp_iadd (ck_get kk_Tr_nextSlot 23 rfl) ?_
    refine wp_iconst (v := nI 1) (by decide) (ck_get kk_Tr_nextSlot 24 rfl) ?_
    first | refine wp_isubN (ck_get kk_Tr_nextSlot 25 rfl) (by omega) ?_ | refine wp_isub (ck_get kk_Tr_nextSlot 25 rfl) ?_
    refine wp_bipush (v := nI 16) (by decide) (ck_get kk_Tr_nextSlot 26 rfl) ?_
    first | refine wp_iremN (ck_get kk_Tr_nextSlot 27 rfl) (by omega) (by omega) (by omega) ?_ | refine wp_irem (by decide) (ck_get kk_Tr_nextSlot 27 rfl) ?_
    refine wp_ireturn (ck_get kk_Tr_nextSlot 28 rfl) rfl rfl ⟨_, rfl, ?_⟩
    have q1 : nfi f n = f := if_pos (by omega)
    have q2 : nsz n = n + 1 := if_pos (by omega)
    refine ⟨by rw [nsl, q1, q2], ?_⟩
    rw [q1, q2]
    refine congrArg (fun I => mk2 M I (mJ M)) ?_
    show up2 (mI M) a 3 (nI (n + 1)) = up2 (up2 (mI M) a 2 (nI f)) a 3 (nI (n + 1))
    rw [up2_id h2]
theorem c_push {f n v : Nat} {kind : Int32} (hA : TrAt (mT M) (mR M) a wf) (h2 : mI M a 2 = nI f) (hf : f < 16) (h3 : mI M a 3 = nI n) (hn : n ≤ 16) (hV : WoAt (mT M) (mR M) v) (hd : v + 26 ≤ wf (nsl f n) ∨ wf (nsl f n) + 26 ≤ v) (hda : a + 3 ≤ v ∨ v + 26 ≤ a) :
    Cv g Y_Tr_push 3 [.ref a, .int kind, .ref v] M (fun M2 => ∃ I2 J2, M2 = mk2 M I2 J2 ∧ WoSame (mI M) (mJ M) v I2 J2 (wf (nsl f n)) ∧ Frm (wf (nsl f n)) (wf (nsl f n) + 26) (up2 (up2 (up2 (mI M) a 2 (nI (nfi f n))) a 3 (nI (nsz n))) (a + 2) (nsl f n) kind) (mJ M) I2 J2) := by
  have hA0 := hA
  have hsl := nsl_lt f n
  obtain ⟨t0, r0, t1, r1, t2, hws⟩ := hA
  obtain ⟨rws, hwA⟩ := hws (nsl f n) hsl
  have twA := hwA.1
  refine cw_entry 1 pf_Tr_push rfl ?_
  refine wp_aload_n rfl (ck_get kk_Tr_push 0 rfl) ?_
  refine wp_cV0i (ck_get kk_Tr_push 1 rfl) ml_Tr_29 (by omega) (Nat.le_of_ble_eq_true rfl) (by assumption) (Ci.to (c_nextSlot (by exact hA0) h2 hf h3 hn) ?_)
  rintro x M2 ⟨rfl, rfl⟩
  refine wp_istore_n (ck_get kk_Tr_push 2 rfl) (by decide) rfl ?_
  refine wp_aload_n rfl (ck_get kk_Tr_push 3 rfl) ?_
  refine wp_getR (ck_get kk_Tr_push 4 rfl) fl_Tr_17 (by assumption) (by assumption) ?_
  refine wp_iload_n rfl (ck_get kk_Tr_push 5 rfl) ?_
  refine wp_iload_n rfl (ck_get kk_Tr_push 6 rfl) ?_
  refine wp_iast (ck_get kk_Tr_push 7 rfl) (by assumption) (by first | assumption | exact ixk_nI (by omega) (by omega)) ?_
  refine wp_aload_n rfl (ck_get kk_Tr_push 8 rfl) ?_
  refine wp_getR (ck_get kk_Tr_push 9 rfl) fl_Tr_11 (by assumption) (by assumption) ?_
  refine wp_iload_n rfl (ck_get kk_Tr_push 10 rfl) ?_
  refine wp_aald (ck_get kk_Tr_push 11 rfl) (by assumption) (by first | assumption | exact ixk_nI (by omega) (by omega)) (by assumption) ?_
  refine wp_aload_n rfl (ck_get kk_Tr_push 12 rfl) ?_
  refine wp_cV1v (ck_get kk_Tr_push 13 rfl) ml_Tr_33 (by omega) (Nat.le_of_ble_eq_true rfl) (by assumption) (Cv.to (c_WocopyFrom (v := v) (w := wf (nsl f n)) (by exact hV) (by exact hwA) hd) ?_)
  rintro M2 ⟨I2, J2, rfl, hsm, hfr⟩
  refine wp_return (ck_get kk_Tr_push 14 rfl) rfl ⟨rfl, ?_⟩
  refine ⟨I2, J2, rfl, ?_, hfr⟩
  have hu : ∀ x, v ≤ x → x < v + 26 → up2 (up2 (up2 (mI M) a 2 (nI (nfi f n))) a 3 (nI (nsz n))) (a + 2) (nsl f n) kind x = mI M x := by
    intro x hx1 hx2
    rw [up2_up1, up1_ne (by omega), up2_up1, up1_ne (by omega), up2_up1, up1_ne (by omega)]
  refine ⟨hsm.1.trans (congrFun (hu v (by omega) (by omega)) 1), fun t ht => (hsm.2 t ht).from (fun x hx1 hx2 => ⟨hu x (by omega) (by omega), rfl⟩)⟩
theorem c_popInto {f n v : Nat} (hA : TrAt (mT M) (mR M) a wf) (h2 : mI M a 2 = nI f) (hf : f < 16) (h3 : mI M a 3 = nI n) (hn : n ≤ 16) (hV : WoAt (mT M) (mR M) v) (hd : ∀ s, s < 16 → v + 26 ≤ wf s ∨ wf s + 26 ≤ v) (hda : a + 3 ≤ v ∨ v + 26 ≤ a) (hdb : ∀ s, s < 16 → a + 3 ≤ wf s ∨ wf s + 26 ≤ a) :
    Ci g Y_Tr_popInto 3 [.ref a, .ref v] M (fun x M2 => (n = 0 ∧ x = -1 ∧ M2 = M) ∨ (¬ n = 0 ∧ x = mI M (a + 2) ((f + (n - 1)) % 16) ∧ ∃ I2 J2, M2 = mk2 M I2 J2 ∧ WoSame (mI M) (mJ M) (wf ((f + (n - 1)) % 16)) I2 J2 v ∧ Frm v (v + 26) (up2 (mI M) a 3 (nI (n - 1))) (mJ M) I2 J2)) := by
  have hA0 := hA
  have hsl : (f + (n - 1)) % 16 < 16 := Nat.mod_lt _ (by decide)
  obtain ⟨t0, r0, t1, r1, t2, hws⟩ := hA
  obtain ⟨rws, hwA⟩ := hws _ hsl
  have twv := hV.1
  have hd1 := hd _ hsl
  have hdb1 := hdb _ hsl
  refine cw_entry 1 pf_Tr_popInto rfl ?_
  refine wp_aload_n rfl (ck_get kk_Tr_popInto 0 rfl) ?_
  refine wp_getIv (v := nI n) (ck_get kk_Tr_popInto 1 rfl) fl_Tr_25 (by assumption) (h3) ?_
  first | refine wp_if_neN (t := 9) (ck_get kk_Tr_popInto 2 rfl) (by decide) (by omega) (fun hc4 => ?_) (fun hc4 => ?_) | refine wp_if_ne (t := 9) (ck_get kk_Tr_popInto 2 rfl) (by decide) (fun hc4 => ?_) (fun hc4 => ?_)
  · refine wp_aload_n rfl (ck_get kk_Tr_popInto 5 rfl) ?_
    refine wp_dup rfl (ck_get kk_Tr_popInto 6 rfl) ?_
    refine wp_getIv (v := nI n) (ck_get kk_Tr_popInto 7 rfl) fl_Tr_25 (by assumption) (h3) ?_
    refine wp_iconst (v := nI 1) (by decide) (ck_get kk_Tr_popInto 8 rfl) ?_
    first | refine wp_isubN (ck_get kk_Tr_popInto 9 rfl) (by omega) ?_ | refine wp_isub (ck_get kk_Tr_popInto 9 rfl) ?_
    refine wp_putI (ck_get kk_Tr_popInto 10 rfl) fl_Tr_25 (by decide +kernel) (by assumption) (okI_int _) ?_
    refine wp_aload_n rfl (ck_get kk_Tr_popInto 11 rfl) ?_
    refine wp_getIv (v := nI f) (ck_get kk_Tr_popInto 12 rfl) fl_Tr_21 (by assumption) (by rw [mI_sI, if_neg (by omega)]; exact h2) ?_
    refine wp_aload_n rfl (ck_get kk_Tr_popInto 13 rfl) ?_
    refine wp_getIv (v := nI (n - 1)) (ck_get kk_Tr_popInto 14 rfl) fl_Tr_25 (by assumption) (by rw [mI_sI, if_pos ⟨rfl, rfl⟩]) ?_
    first | refine wp_iaddN (ck_get kk_Tr_popInto 15 rfl) ?_ | refine wp_iadd (ck_get kk_Tr_popInto 15 rfl) ?_
    refine wp_bipush (v := nI 16) (by decide) (ck_get kk_Tr_popInto 16 rfl) ?_
    first | refine wp_iremN (ck_get kk_Tr_popInto 17 rfl) (by omega) (by omega) (by omega) ?_ | refine wp_irem (by decide) (ck_get kk_Tr_popInto 17 rfl) ?_
    refine wp_istore_n (ck_get kk_Tr_popInto 18 rfl) (by decide) rfl ?_
    refine wp_aload_n rfl (ck_get kk_Tr_popInto 19 rfl) ?_
    refine wp_aload_n rfl (ck_get kk_Tr_popInto 20 rfl) ?_
    refine wp_getR (ck_get kk_Tr_popInto 21 rfl) fl_Tr_11 (by assumption) (by assumption) ?_
    refine wp_iload_n rfl (ck_get kk_Tr_popInto 22 rfl) ?_
    refine wp_aald (ck_get kk_Tr_popInto 23 rfl) (by assumption) (by first | assumption | exact ixk_nI (by omega) (by omega)) (by assumption) ?_
    refine wp_cV1v (ck_get kk_Tr_popInto 24 rfl) ml_Tr_33 (by omega) (Nat.le_of_ble_eq_true rfl) (by assumption) (Cv.to (c_WocopyFrom (v := wf ((f + (n - 1)) % 16)) (w := v) (by exact hwA) (by exact hV) (by omega)) ?_)
    rintro M2 ⟨I2, J2, rfl, hsm, hfr⟩
    refine wp_aload_n rfl (ck_get kk_Tr_popInto 25 rfl) ?_
    refine wp_getR (ck_get kk_Tr_popInto 26 rfl) fl_Tr_17 (by assumption) (by assumption) ?_
    refine wp_iload_n rfl (ck_get kk_Tr_popInto 27 rfl) ?_
    refine wp_ialdv (v := mI M (a + 2) ((f + (n - 1)) % 16)) (ck_get kk_Tr_popInto 28 rfl) (by assumption) (ixk_nI (k := (f + (n - 1)) % 16) (by omega) (by omega)) (by rw [show mI (mk2 M I2 J2) (a + 2) = _ from (hfr (a + 2) (by omega)).1, mI_sI, if_neg (by omega)]) ?_
    refine wp_ireturn (ck_get kk_Tr_popInto 29 rfl) rfl rfl ⟨_, rfl, ?_⟩
    refine Or.inr ⟨hc4, rfl, I2, J2, rfl, ?_, hfr⟩
    have hu : ∀ x, wf ((f + (n - 1)) % 16) ≤ x → x < wf ((f + (n - 1)) % 16) + 26 → up2 (mI M) a 3 (nI (n - 1)) x = mI M x := by
      intro x hx1 hx2
      rw [up2_up1, up1_ne (by omega)]
    refine ⟨hsm.1.trans (congrFun (hu _ (by omega) (by omega)) 1), fun t ht => (hsm.2 t ht).from (fun x hx1 hx2 => ⟨hu x (by omega) (by omega), rfl⟩)⟩
  · refine wp_iconst (v := (-1)) (by decide) (ck_get kk_Tr_popInto 3 rfl) ?_
    refine wp_ireturn (ck_get kk_Tr_popInto 4 rfl) rfl rfl ⟨_, rfl, ?_⟩
    exact Or.inl ⟨hc4, rfl, rfl⟩
end TR

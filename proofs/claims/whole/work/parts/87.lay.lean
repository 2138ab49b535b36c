/-! ===== the class's cells; a read by the class ===== -/
def ShAt (T : Nat → Nat × Nat) (R : Nat → Nat → Option Nat) (a : Nat) : Prop := T a = (6, 0) ∧ R a 0 = some (a + 1) ∧ WoAt T R (a + 1) ∧ R a 5 = some (a + 27) ∧ T (a + 27) = (20, 6) ∧ R a 6 = some (a + 28) ∧ T (a + 28) = (20, 6) ∧ R a 8 = some (a + 29) ∧ T (a + 29) = (27, 6)
def ReAt (T : Nat → Nat × Nat) (R : Nat → Nat → Option Nat) (a : Nat) : Prop := T a = (5, 0) ∧ ∀ k, 2 ≤ k → k ≤ 9 → R a k = some (a + (k - 1)) ∧ T (a + (k - 1)) = (20, 32)
def CuAt (T : Nat → Nat × Nat) (R : Nat → Nat → Option Nat) (a : Nat) : Prop := T a = (0, 0) ∧ R a 0 = some (a + 1) ∧ T (a + 1) = (20, 25) ∧ R a 2 = some (a + 2) ∧ T (a + 2) = (12, 0) ∧ R a 3 = some (a + 4) ∧ T (a + 4) = (21, 25)
def DeAt (T : Nat → Nat × Nat) (R : Nat → Nat → Option Nat) (a : Nat) : Prop := T a = (1, 0) ∧ R a 0 = some (a + 1) ∧ T (a + 1) = (20, 4) ∧ R a 1 = some (a + 2) ∧ T (a + 2) = (21, 96) ∧ R a 2 = some (a + 3) ∧ T (a + 3) = (21, 96) ∧ R a 3 = some (a + 4) ∧ T (a + 4) = (20, 100) ∧ R a 4 = some (a + 5) ∧ T (a + 5) = (20, 245) ∧ R a 5 = some (a + 6) ∧ T (a + 6) = (20, 196)
/-- worlds of both trails: which of 32 -/
def slA (i : Nat) : Nat := if i < 16 then 34 + 26 * i else 453 + 26 * (i - 16)
def PfOK (pf pg : Nat → Nat) : Prop := (∀ s, s < 16 → pf s < 32 ∧ pg s < 32) ∧ (∀ s u, s < 16 → u < 16 → pf s = pf u → s = u) ∧ (∀ s u, s < 16 → u < 16 → pg s = pg u → s = u) ∧ ∀ s u, s < 16 → u < 16 → pf s ≠ pg u
def LayC (T : Nat → Nat × Nat) (R : Nat → Nat → Option Nat) (pf pg : Nat → Nat) : Prop := T 0 = (10, 0) ∧ (R 0 0 = some 1 ∧ ShAt T R 1) ∧ (R 0 1 = some 31 ∧ TrAt T R 31 (fun s => slA (pf s))) ∧ (R 0 2 = some 450 ∧ TrAt T R 450 (fun s => slA (pg s))) ∧ (R 0 3 = some 869 ∧ WoAt T R 869) ∧ (R 0 4 = some 895 ∧ WoAt T R 895) ∧ (R 0 6 = some 921 ∧ T 921 = (26, 2) ∧ R 921 0 = some 960 ∧ R 921 1 = some 990 ∧ ShAt T R 960 ∧ ShAt T R 990) ∧ (R 0 7 = some 922 ∧ T 922 = (23, 2)) ∧ (R 0 8 = some 923 ∧ T 923 = (20, 400)) ∧ (R 0 10 = some 924 ∧ PaA0 T R 924 923) ∧ (R 0 11 = some 934 ∧ JuAt T R 934) ∧ (R 0 12 = some 938 ∧ ReAt T R 938) ∧ (R 0 13 = some 947 ∧ CuAt T R 947) ∧ (R 0 14 = some 952 ∧ DeAt T R 952) ∧ (R 0 18 = some 959 ∧ T 959 = (20, 7)) ∧ PfOK pf pg
theorem clL_nat (v : Int64) : ∃ c : Nat, c ≤ 99 ∧ clmp v = nI c := by
  rw [← clL_clmp]
  unfold clL
  by_cases h1 : v < 0
  · exact ⟨0, by omega, by rw [if_pos h1]; decide⟩
  · rw [if_neg h1]
    by_cases h2 : 99 < v
    · exact ⟨99, by omega, by rw [if_pos h2]; decide⟩
    · rw [if_neg h2]
      have a : ¬ v.toInt < (0 : Int64).toInt := fun q => h1 (Int64.lt_iff_toInt_lt.mpr q)
      have b : ¬ (99 : Int64).toInt < v.toInt := fun q => h2 (Int64.lt_iff_toInt_lt.mpr q)
      have c0 : (0 : Int64).toInt = 0 := by decide
      have c9 : (99 : Int64).toInt = 99 := by decide
      refine ⟨v.toInt.toNat, by omega, ?_⟩
      have e : v = Int64.ofInt v.toInt := (Int64.ofInt_toInt v).symm
      have e2 : v.toInt = (v.toInt.toNat : Int) := by omega
      generalize v.toInt.toNat = n at e2
      rw [e, e2]
      have hn : n ≤ 99 := by omega
      have tbl : ∀ n : Nat, n < 100 → (Int64.ofInt (n : Int)).toInt32 = nI n := by decide +kernel
      exact tbl n (by omega)
theorem wg_val {P : Nat → Nat → Int32} {cl : Nat} {V : Nat → Int32} : ∀ n, ∃ c : Nat, ∃ br : Bool, c ≤ 99 ∧ wgF P cl V n = (nI c, bI br)
  | 0 => ⟨1, false, by omega, rfl⟩
  | n + 1 => by
    obtain ⟨c, br, hc, e⟩ := wg_val n (P := P) (cl := cl) (V := V)
    rw [wgF, e]
    by_cases h1 : P 3 n = -1 ∨ ev0 (P 7) cl V 6 (P 3 n).toNatClampNeg = 1
    · rw [if_pos h1]
      by_cases h2 : P 1 n = nI 5
      · rw [if_pos h2]; exact ⟨c, true, hc, rfl⟩
      · rw [if_neg h2]
        by_cases h3 : ev0 (P 7) cl V 6 (P 4 n).toNatClampNeg = brk
        · rw [if_pos h3]; exact ⟨c, br, hc, rfl⟩
        · rw [if_neg h3]
          obtain ⟨c2, hc2, e2⟩ := clL_nat (ev0 (P 7) cl V 6 (P 4 n).toNatClampNeg)
          exact ⟨c2, br, hc2, by rw [e2]⟩
    · rw [if_neg h1]; exact ⟨c, br, hc, rfl⟩
/-- the law in force, by the class -/
def LwAt (T : Nat → Nat × Nat) (R : Nat → Nat → Option Nat) (I : Nat → Nat → Int32) (p cn nc : Nat) : Prop := 1056 ≤ p ∧ ∃ cn2, PrAt T R p cn2 ∧ cn ≤ cn2 ∧ cn2 ≤ 1024 ∧ I p 8 = nI cn ∧ I p 0 = nI nc ∧ LawOK (fun k => I (p + k)) cn nc
def ClL (T : Nat → Nat × Nat) (R : Nat → Nat → Option Nat) (I : Nat → Nat → Int32) (q : Int32) (res : (Nat → Int32) → Int32 × Int32) : Prop := (q = -1 ∧ ∀ V, res V = (nI 1, nI 0)) ∨ ∃ t ln p cn nc, q = nI t ∧ t < ln ∧ ln ≤ 6 ∧ I 1 9 = nI ln ∧ R 30 t = some p ∧ LwAt T R I p cn nc ∧ ∀ V, res V = wgF (fun k => I (p + k)) cn V nc
section CRK
variable {g : Gl} {M : Mem} {pf pg : Nat → Nat}
theorem c_lawOf {t ln p : Nat} (hA : ShAt (mT M) (mR M) 1) (h9 : mI M 1 9 = nI ln) (hl : ln ≤ 6) (ht : t < ln) (hr : mR M 30 t = some p) : Ca g Y_Sh_lawOf 0 [.ref 1, .int (nI t)] M (fun x M2 => x = some p ∧ M2 = M) := by
  obtain ⟨t0, r0, hw, r5, t5, r6, t6, r8, t8⟩ := hA
  refine cw_entry 0 pf_Sh_lawOf rfl ?_
  refine wp_iload_n rfl (ck_get kk_Sh_lawOf 0 rfl) ?_
  first | refine wp_if_ltN (t := 21) (ck_get kk_Sh_lawOf 1 rfl) (by decide) (by omega) (fun hc1 => ?_) (fun hc1 => ?_) | refine wp_if_lt (t := 21) (ck_get kk_Sh_lawOf 1 rfl) (by decide) (fun hc1 => ?_) (fun hc1 => ?_)
  · exact hc1.elim
  · refine wp_iload_n rfl (ck_get kk_Sh_lawOf 2 rfl) ?_
    refine wp_aload_n rfl (ck_get kk_Sh_lawOf 3 rfl) ?_
    refine wp_getIv (v := nI ln) (ck_get kk_Sh_lawOf 4 rfl) fl_Sh_47 (by assumption) (h9) ?_
    first | refine wp_icmp_geN (t := 21) (ck_get kk_Sh_lawOf 5 rfl) (by decide) (by omega) (by omega) (fun hc9 => ?_) (fun hc9 => ?_) | refine wp_icmp_ge (t := 21) (ck_get kk_Sh_lawOf 5 rfl) (by decide) (fun hc9 => ?_) (fun hc9 => ?_)
    · omega
    · refine wp_aload_n rfl (ck_get kk_Sh_lawOf 6 rfl) ?_
      refine wp_getR (ck_get kk_Sh_lawOf 7 rfl) fl_Sh_43 (by assumption) (by assumption) ?_
      refine wp_iload_n rfl (ck_get kk_Sh_lawOf 8 rfl) ?_
      refine wp_aald (ck_get kk_Sh_lawOf 9 rfl) (by assumption) (ixk_nI (k := t) (by omega) (by omega)) (by assumption) ?_
      refine wp_goto (t := 22) (ck_get kk_Sh_lawOf 10 rfl) (by decide) ?_
      first | refine wp_areturn (ck_get kk_Sh_lawOf 12 rfl) rfl rfl ⟨_, rfl, ?_⟩ | refine wp_areturnN (ck_get kk_Sh_lawOf 12 rfl) rfl rfl ⟨_, rfl, ?_⟩
      exact ⟨rfl, rfl⟩
theorem c_lawOfN (hA : ShAt (mT M) (mR M) 1) : Ca g Y_Sh_lawOf 0 [.ref 1, .int (-1)] M (fun x M2 => x = none ∧ M2 = M) := by
  have t0 := hA.1
  refine cw_entry 0 pf_Sh_lawOf rfl ?_
  refine wp_iload_n rfl (ck_get kk_Sh_lawOf 0 rfl) ?_
  first | refine wp_if_ltN (t := 21) (ck_get kk_Sh_lawOf 1 rfl) (by decide) (by omega) (fun hc1 => ?_) (fun hc1 => ?_) | refine wp_if_lt (t := 21) (ck_get kk_Sh_lawOf 1 rfl) (by decide) (fun hc1 => ?_) (fun hc1 => ?_)
  · refine wp_anull (ck_get kk_Sh_lawOf 11 rfl) ?_
    first | refine wp_areturn (ck_get kk_Sh_lawOf 12 rfl) rfl rfl ⟨_, rfl, ?_⟩ | refine wp_areturnN (ck_get kk_Sh_lawOf 12 rfl) rfl rfl ⟨_, rfl, ?_⟩
    exact ⟨rfl, rfl⟩
  · exact absurd (by decide) hc1
/-- the world's and the judge's cells alone were changed -/
def CFr (w : Nat) (I : Nat → Nat → Int32) (J : Nat → Nat → Int64) (I2 : Nat → Nat → Int32) (J2 : Nat → Nat → Int64) : Prop := ∀ x, x < w ∨ w + 26 ≤ x → x < 934 ∨ 938 ≤ x → I2 x = I x ∧ J2 x = J x
/-- what the judge tells of a read: by a law, or without -/
theorem c_weighT {w t k md : Nat} {ws : WS} {q : Int32} {res : (Nat → Int32) → Int32 × Int32} (hL : LayC (mT M) (mR M) pf pg) (hW : WoAt (mT M) (mR M) w) (hw : w + 26 ≤ 934 ∨ 938 ≤ w) (hs : WoHas (mI M) (mJ M) w ws) (hT : WOK ws) (ht : t < 4) (hmd : mI M 1 3 = nI md) (hR : ClL (mT M) (mR M) (mI M) q res) :
    ∃ pv : Option Nat, Ca g Y_Sh_lawOf 0 [.ref 1, .int q] M (fun x M2 => x = pv ∧ M2 = M) ∧ Cv g Y_Ju_weigh 2 [.ref 934, .ref 1, va_rf pv, .ref w, .int (nI t), .int (nI k)] M (fun M2 => ∃ V c br, VOK V t k (cntL (tRe (ws.2 t)) k) (posL (tSt (ws.2 t)) k) ws.1 md ∧ res V = (nI c, bI br) ∧ c ≤ 99 ∧ ∃ I2 J2, M2 = mk2 M I2 J2 ∧ I2 934 0 = nI c ∧ I2 934 1 = bI br ∧ ∀ x, x < 934 ∨ 938 ≤ x → I2 x = mI M x ∧ J2 x = mJ M x) := by
  obtain ⟨t0, ⟨r0, hSh⟩, -, -, -, -, -, -, -, -, ⟨r11, hJu⟩, -⟩ := hL
  have hte := hs.2 t ht
  obtain ⟨e1, e2, e3, e4, e5, e6, e7, e8, e9⟩ := hte
  rcases hR with ⟨rfl, h2⟩ | ⟨u, ln, p, cn, nc, rfl, h2, h3, h4, h5, ⟨hp, cn2, hPr, h6, h7, h8, h9, hLw⟩, h10⟩
  · refine ⟨none, c_lawOfN hSh, ?_⟩
    refine (c_weighN (g := g) (h := 1) (wd := w) (t := t) (key := nI k) hJu).to (fun M2 e => ?_)
    refine ⟨fun i => if i = 0 then nI t else if i = 1 then nI k else if i = 2 then nI (cntL (tRe (ws.2 t)) k) else if i = 3 then nI (posL (tSt (ws.2 t)) k) else if i = 4 then nI ws.1 else nI md, 1, false, ⟨rfl, rfl, rfl, rfl, rfl, rfl⟩, h2 _, by omega, _, _, e, ?_, ?_, fun x hx => ⟨?_, rfl⟩⟩
    · show up2 (up2 (mI M) 934 0 (nI 1)) 934 1 (nI 0) 934 0 = nI 1
      simp [up2]
    · show up2 (up2 (mI M) 934 0 (nI 1)) 934 1 (nI 0) 934 1 = nI 0
      simp [up2]
    · show up2 (up2 (mI M) 934 0 (nI 1)) 934 1 (nI 0) x = mI M x
      rw [up2_up1, up1_ne (by omega), up2_up1, up1_ne (by omega)]
  · refine ⟨some p, c_lawOf hSh h4 h3 h2 h5, ?_⟩
    refine (c_weigh (g := g) (t := t) (key := nI k) (h := 1) (wd := w) hJu hPr h8 h6 h7 (by omega) h9 hLw hSh.1 hW (by omega) (by omega) ht e1 (hT.2 t ht).1 e8 (hT.2 t ht).2.2.1).to (fun M2 e => ?_)
    obtain ⟨V, S2, hV, hM2⟩ := e
    obtain ⟨c, br, hc, hwg⟩ := wg_val (P := fun k => mI M (p + k)) (cl := cn) (V := V) nc
    rw [hwg] at hM2
    have f1 : cntI (mI M (w + 2 + 6 * t + 5)) (nI k) (tRe (ws.2 t)).length = cntL (tRe (ws.2 t)) k := cntI_congr (fun i hi => Row0 e9 i hi)
    have f2 : fnd (mI M (w + 2 + 6 * t + 1)) (tSt (ws.2 t)).length (nI k) = posL (tSt (ws.2 t)) k := Row0.fnd e2
    rw [f1, f2, hs.1, hmd] at hV
    refine ⟨V, c, br, ?_, by rw [h10 V, hwg], hc, _, _, hM2, ?_, ?_, fun x hx => ⟨?_, ?_⟩⟩
    · rw [hV]
      unfold lwV
      exact ⟨by simp [up1], by simp [up1], by simp [up1], by simp [up1], by simp [up1], by simp [up1]⟩
    · rw [up1_eq, up1_ne (by omega), up1_eq]
    · rw [up1_eq, up1_eq]
    · rw [up1_ne (by omega), up1_ne (by omega)]
    · rw [up1_ne (by omega)]
theorem c_readKey {w t k md salt : Nat} {ws : WS} {res : (Nat → Int32) → Int32 × Int32} (hL : LayC (mT M) (mR M) pf pg) (hW : WoAt (mT M) (mR M) w) (hw : w + 26 ≤ 934 ∨ 938 ≤ w) (hw1 : 2 ≤ w) (hs : WoHas (mI M) (mJ M) w ws) (hT : WOK ws) (ht : t < 4) (hk : k < 1000) (hmd : mI M 1 3 = nI md) (hsl : mI M 1 4 = nI salt) (hs2 : salt < 1000) (hR : ClL (mT M) (mR M) (mI M) (mI M 1 10) res) :
    Ci g Y_Mc_readKey 10 [.ref 0, .ref w, .int (nI t), .int (nI k)] M (fun x M2 => ∃ V c br, VOK V t k (cntL (tRe (ws.2 t)) k) (posL (tSt (ws.2 t)) k) ws.1 md ∧ res V = (nI c, bI br) ∧ c ≤ 99 ∧ x = nI (rdX ws t k br) ∧ ∃ I2 J2, M2 = mk2 M I2 J2 ∧ WoHas I2 J2 w (rdW ws t k c salt br) ∧ CFr w (mI M) (mJ M) I2 J2) := by
  obtain ⟨pv, hlaw, hwg⟩ := c_weighT (g := g) (k := k) hL hW hw hs hT ht hmd hR
  obtain ⟨t0, ⟨r0, hSh⟩, -, -, -, -, -, -, -, -, ⟨r11, hJu⟩, -⟩ := hL
  have hTt := hT.2 t ht
  have sh0 := hSh.1
  have ju0 := hJu.1
  have hWt := hW.2.2.2 t ht
  obtain ⟨rw1, hTe⟩ := hWt
  have tw := hW.1
  have rww := hW.2.1
  have twa := hW.2.2.1
  have te2 := hTe.2.2.2.2.2.2.1
  obtain ⟨te0, -, re2, -, -, -, te1, te2, -⟩ := hTe
  have hTe2 := (hW.2.2.2 t ht).2
  refine cw_entry 3 pf_Mc_readKey rfl ?_
  refine wp_aload_n rfl (ck_get kk_Mc_readKey 0 rfl) ?_
  refine wp_getR (ck_get kk_Mc_readKey 1 rfl) fl_Mc_66 (by assumption) (by assumption) ?_
  refine wp_aload_n rfl (ck_get kk_Mc_readKey 2 rfl) ?_
  refine wp_getR (ck_get kk_Mc_readKey 3 rfl) fl_Mc_12 (by assumption) (by assumption) ?_
  refine wp_aload_n rfl (ck_get kk_Mc_readKey 4 rfl) ?_
  refine wp_getR (ck_get kk_Mc_readKey 5 rfl) fl_Mc_12 (by assumption) (by assumption) ?_
  refine wp_aload_n rfl (ck_get kk_Mc_readKey 6 rfl) ?_
  refine wp_getR (ck_get kk_Mc_readKey 7 rfl) fl_Mc_12 (by assumption) (by assumption) ?_
  refine wp_getIv (v := mI M 1 10) (ck_get kk_Mc_readKey 8 rfl) fl_Mc_151 (by assumption) (rfl) ?_
  refine wp_cV1a (ck_get kk_Mc_readKey 9 rfl) ml_Mc_154 (by omega) (Nat.le_of_ble_eq_true rfl) (by assumption) (Ca.to (hlaw) ?_)
  rintro _ M₁ ⟨rfl, rfl⟩
  refine wp_aload_n rfl (ck_get kk_Mc_readKey 10 rfl) ?_
  refine wp_iload_n rfl (ck_get kk_Mc_readKey 11 rfl) ?_
  refine wp_iload_n rfl (ck_get kk_Mc_readKey 12 rfl) ?_
  refine wp_cV5v (ck_get kk_Mc_readKey 13 rfl) ml_Mc_158 (by omega) (Nat.le_of_ble_eq_true rfl) (by assumption) (Cv.to (hwg) ?_)
  rintro M₁ ⟨V, c, br, hV, hres, hc, I1, J1, rfl, hc0, hc1, hfr⟩
  have hs1 : WoHas I1 J1 w ws := hs.kept (fun x q1 q2 => hfr x (by omega))
  cases br with
  | true =>
    have hte := hs1.2 t ht
    refine wp_aload_n rfl (ck_get kk_Mc_readKey 14 rfl) ?_
    refine wp_getR (ck_get kk_Mc_readKey 15 rfl) fl_Mc_110 (by assumption) (by assumption) ?_
    refine wp_iload_n rfl (ck_get kk_Mc_readKey 16 rfl) ?_
    refine wp_aald (ck_get kk_Mc_readKey 17 rfl) (by assumption) (ixk_nI (k := t) (by omega) (by omega)) (by assumption) ?_
    refine wp_astore (ck_get kk_Mc_readKey 18 rfl) (by decide) rfl ?_
    refine wp_aload_n rfl (ck_get kk_Mc_readKey 19 rfl) ?_
    refine wp_getR (ck_get kk_Mc_readKey 20 rfl) fl_Mc_66 (by assumption) (by assumption) ?_
    refine wp_getIv (v := nI c) (ck_get kk_Mc_readKey 21 rfl) fl_Mc_162 (by assumption) (hc0) ?_
    refine wp_istore (ck_get kk_Mc_readKey 22 rfl) (by decide) rfl ?_
    refine wp_aload_n rfl (ck_get kk_Mc_readKey 23 rfl) ?_
    refine wp_getR (ck_get kk_Mc_readKey 24 rfl) fl_Mc_66 (by assumption) (by assumption) ?_
    refine wp_getIv (v := nI 1) (ck_get kk_Mc_readKey 25 rfl) fl_Mc_165 (by assumption) (hc1) ?_
    first | refine wp_if_eqN (t := 69) (ck_get kk_Mc_readKey 26 rfl) (by decide) (by omega) (fun hc52 => ?_) (fun hc52 => ?_) | refine wp_if_eq (t := 69) (ck_get kk_Mc_readKey 26 rfl) (by decide) (fun hc52 => ?_) (fun hc52 => ?_)
    · omega
    · refine wp_aload rfl (ck_get kk_Mc_readKey 27 rfl) ?_
      refine wp_getR (ck_get kk_Mc_readKey 28 rfl) fl_Mc_128 (by assumption) (by assumption) ?_
      refine wp_iconst (v := nI 0) (by decide) (ck_get kk_Mc_readKey 29 rfl) ?_
      first | refine wp_dup2l rfl (ck_get kk_Mc_readKey 30 rfl) ?_ | refine wp_dup2 rfl rfl (ck_get kk_Mc_readKey 30 rfl) ?_
      refine wp_ialdv (v := nI (tCo (ws.2 t) 0)) (ck_get kk_Mc_readKey 31 rfl) (by assumption) (ixk_nI (k := 0) (by omega) (by omega)) (hte.2.2.1 0 (by omega)) ?_
      refine wp_iload rfl (ck_get kk_Mc_readKey 32 rfl) ?_
      first | refine wp_iaddN (ck_get kk_Mc_readKey 33 rfl) ?_ | refine wp_iadd (ck_get kk_Mc_readKey 33 rfl) ?_
      refine wp_iast (ck_get kk_Mc_readKey 34 rfl) (by assumption) (ixk_nI (k := 0) (by omega) (by omega)) ?_
      refine wp_iconst (v := nI 0) (by decide) (ck_get kk_Mc_readKey 35 rfl) ?_
      refine wp_ireturn (ck_get kk_Mc_readKey 36 rfl) rfl rfl ⟨_, rfl, ?_⟩
      refine ⟨V, c, true, hV, hres, hc, rfl, _, J1, rfl, ?_, ?_⟩
      · unfold rdW
        rw [if_pos rfl]
        refine hs1.set ?_ (fun x hx => ⟨by rw [up2_up1, up1_ne (by omega)], rfl⟩)
        obtain ⟨d1, d2, d3, d4, d5, d6, d7, d8, d9⟩ := hte
        refine ⟨by rw [up2_up1, up1_ne (by omega)]; exact d1, by rw [up2_up1, up1_ne (by omega)]; exact d2, fun i hi => ?_, by rw [up2_up1, up1_ne (by omega)]; exact d4, by rw [up2_up1, up1_ne (by omega)]; exact d5, by rw [up2_up1, up1_ne (by omega)]; exact d6, d7, by rw [up2_up1, up1_ne (by omega)]; exact d8, by rw [up2_up1, up1_ne (by omega)]; exact d9⟩
        show up2 I1 (w + 2 + 6 * t + 2) 0 (nI (tCo (ws.2 t) 0 + c)) (w + 2 + 6 * t + 2) i = nI (cos1 (tCo (ws.2 t)) 0 c i)
        unfold cos1
        rw [up2_up1, up1_eq]
        by_cases hi0 : i = 0
        · subst hi0; rw [up1_eq, up1_eq]
        · rw [up1_ne hi0, up1_ne hi0]; exact d3 i hi
      · intro x q1 q2
        exact ⟨by rw [up2_up1, up1_ne (by omega)]; exact (hfr x q2).1, (hfr x q2).2⟩
  | false =>
    have hte := hs1.2 t ht
    refine wp_aload_n rfl (ck_get kk_Mc_readKey 14 rfl) ?_
    refine wp_getR (ck_get kk_Mc_readKey 15 rfl) fl_Mc_110 (by assumption) (by assumption) ?_
    refine wp_iload_n rfl (ck_get kk_Mc_readKey 16 rfl) ?_
    refine wp_aald (ck_get kk_Mc_readKey 17 rfl) (by assumption) (ixk_nI (k := t) (by omega) (by omega)) (by assumption) ?_
    refine wp_astore (ck_get kk_Mc_readKey 18 rfl) (by decide) rfl ?_
    refine wp_aload_n rfl (ck_get kk_Mc_readKey 19 rfl) ?_
    refine wp_getR (ck_get kk_Mc_readKey 20 rfl) fl_Mc_66 (by assumption) (by assumption) ?_
    refine wp_getIv (v := nI c) (ck_get kk_Mc_readKey 21 rfl) fl_Mc_162 (by assumption) (hc0) ?_
    refine wp_istore (ck_get kk_Mc_readKey 22 rfl) (by decide) rfl ?_
    refine wp_aload_n rfl (ck_get kk_Mc_readKey 23 rfl) ?_
    refine wp_getR (ck_get kk_Mc_readKey 24 rfl) fl_Mc_66 (by assumption) (by assumption) ?_
    refine wp_getIv (v := nI 0) (ck_get kk_Mc_readKey 25 rfl) fl_Mc_165 (by assumption) (hc1) ?_
    first | refine wp_if_eqN (t := 69) (ck_get kk_Mc_readKey 26 rfl) (by decide) (by omega) (fun hc52 => ?_) (fun hc52 => ?_) | refine wp_if_eq (t := 69) (ck_get kk_Mc_readKey 26 rfl) (by decide) (fun hc52 => ?_) (fun hc52 => ?_)
    · refine wp_aload rfl (ck_get kk_Mc_readKey 37 rfl) ?_
      refine wp_iload_n rfl (ck_get kk_Mc_readKey 38 rfl) ?_
      refine wp_iload rfl (ck_get kk_Mc_readKey 39 rfl) ?_
      refine wp_cV2i (ck_get kk_Mc_readKey 40 rfl) ml_Mc_415 (by omega) (Nat.le_of_ble_eq_true rfl) (by assumption) (Ci.to (c_putT (s := ws.2 t) (k := k) (c := c) (by exact hTe2) (by exact hte) hTt) ?_)
      rintro x₁ M₁ ⟨hx1, I2, rfl, hte2, hf2⟩
      refine wp_istore (ck_get kk_Mc_readKey 41 rfl) (by decide) rfl ?_
      have hTp : TOK (put1 (ws.2 t) k c) := ⟨(stk1_len hTt.1).2, hTt.2.1, hTt.2.2.1, hTt.2.2.2.1, stk1_keys hk hTt.2.2.2.2.1, hTt.2.2.2.2.2.1, hTt.2.2.2.2.2.2⟩
      refine wp_aload rfl (ck_get kk_Mc_readKey 42 rfl) ?_
      refine wp_iload_n rfl (ck_get kk_Mc_readKey 43 rfl) ?_
      refine wp_cV1v (ck_get kk_Mc_readKey 44 rfl) ml_Mc_418 (by omega) (Nat.le_of_ble_eq_true rfl) (by assumption) (Cv.to (c_noteT (s := put1 (ws.2 t) k c) (k := k) (by exact hTe2) (by exact hte2) hTp) ?_)
      rintro M₂ ⟨I3, rfl, hte3, hf3⟩
      refine wp_aload rfl (ck_get kk_Mc_readKey 45 rfl) ?_
      refine wp_iload_n rfl (ck_get kk_Mc_readKey 46 rfl) ?_
      refine wp_iload rfl (ck_get kk_Mc_readKey 47 rfl) ?_
      refine wp_aload_n rfl (ck_get kk_Mc_readKey 48 rfl) ?_
      refine wp_getR (ck_get kk_Mc_readKey 49 rfl) fl_Mc_12 (by assumption) (by assumption) ?_
      refine wp_getIv (v := nI salt) (ck_get kk_Mc_readKey 50 rfl) fl_Mc_144 (by assumption) (by show I3 1 4 = _; rw [(hf3 1 (by omega)).1]; show I2 1 4 = _; rw [(hf2 1 (by omega)).1]; show I1 1 4 = _; rw [(hfr 1 (by omega)).1]; exact hsl) ?_
      refine wp_cV3v (ck_get kk_Mc_readKey 51 rfl) ml_Mc_421 (by omega) (Nat.le_of_ble_eq_true rfl) (by assumption) (Cv.to (c_samT (s := topT (ws.2 t) k c) (k := k) (c := c) (by exact hTe2) (by exact hte3) (hTt.top hk) hk hs2) ?_)
      rintro M₃ ⟨I4, J4, rfl, hte4, hf4⟩
      refine wp_iload rfl (ck_get kk_Mc_readKey 52 rfl) ?_
      refine wp_ireturn (ck_get kk_Mc_readKey 53 rfl) rfl rfl ⟨_, rfl, ?_⟩
      refine ⟨V, c, false, hV, hres, hc, hx1, I4, J4, rfl, ?_, ?_⟩
      · unfold rdW
        rw [if_neg (by decide)]
        refine hs1.set hte4 (fun x hx => ?_)
        exact ⟨(hf4 x hx).1.trans ((hf3 x hx).1.trans (hf2 x hx).1), (hf4 x hx).2.trans ((hf3 x hx).2.trans (hf2 x hx).2)⟩
      · intro x q1 q2
        have hx : x < w + 2 + 6 * t ∨ w + 2 + 6 * t + 6 ≤ x := by omega
        exact ⟨(hf4 x hx).1.trans ((hf3 x hx).1.trans ((hf2 x hx).1.trans (hfr x q2).1)), (hf4 x hx).2.trans ((hf3 x hx).2.trans ((hf2 x hx).2.trans (hfr x q2).2))⟩
    · omega
end CRK

/-! ===== share: numbers; the class's falls ===== -/
section SHR
def sgS (f : Nat → Int) (c : Nat) : Nat → Nat → Nat
  | 0, i => i
  | d + 1, i => if c ≤ nbI f (i + 1) then i else sgS f c d (i + 1)
theorem sgS_ok {f : Nat → Int} {c : Nat} (hc : c ≤ 24) : ∀ d i, nbL f ≤ i + 1 + d → i < nbL f → (i = 0 ∨ nbI f i < c) → SgI f c (sgS f c d i)
  | 0, i, h1, h2, h3 => ⟨h2, h3, by show c ≤ nbI f (i + 1); rw [show i + 1 = nbL f by omega, (nbL_ok (f := f)).1]; exact hc⟩
  | d + 1, i, h1, h2, h3 => by
    unfold sgS
    by_cases e : c ≤ nbI f (i + 1)
    · rw [if_pos e]; exact ⟨h2, h3, e⟩
    · rw [if_neg e]
      have h4 : nbI f (i + 1) < 24 := by omega
      exact sgS_ok hc d (i + 1) (by omega) (nbL_lt.mp h4) (Or.inr (by omega))
/-- the bend from which the hull falls behind a size -/
abbrev sgF (f : Nat → Int) (c : Nat) : Nat := sgS f (c + 1) 24 0
theorem sgF_ok {f : Nat → Int} {c : Nat} (hc : c < 24) : SgI f (c + 1) (sgF f c) := sgS_ok (by omega) 24 0 (by have := (nbL_ok (f := f)).2; omega) nbL_1 (Or.inl rfl)
abbrev flF (f : Nat → Int) (c : Nat) : Int := f (nbI f (sgF f c)) - f (nbI f (sgF f c + 1))
abbrev wdF (f : Nat → Int) (c : Nat) : Int := (nbI f (sgF f c + 1) : Int) - nbI f (sgF f c)
variable {g : Gl} {M : Mem}
theorem c_fallTo {f : Nat → Int} {i : Nat} (hCu : CuAt (mT M) (mR M) 947) (hj : ∀ c, c < 25 → mJ M 951 c = jI (f c)) (hb : ∀ i, i ≤ nbL f → mI M 948 i = nI (nbI f i)) (hi : i < nbL f) : Cl g Y_Cu_fallTo 0 [.ref 947, .int (nI (i + 1))] M (fun x M2 => x = jI (f (nbI f i) - f (nbI f (i + 1))) ∧ M2 = M) := by
  obtain ⟨t947, r0, t948, -, -, r3, t951⟩ := hCu
  have r0' : mR M 947 0 = some 948 := r0
  have t948' : mT M 948 = (20, 25) := t948
  have r3' : mR M 947 3 = some 951 := r3
  have t951' : mT M 951 = (21, 25) := t951
  have hl := nbL_ok (f := f)
  have h1 : nbI f i < 24 := nbL_lt.mpr hi
  have h2 := nb_st h1
  refine cw_entry 0 pf_Cu_fallTo rfl ?_
  refine wp_aload_n rfl (ck_get kk_Cu_fallTo 0 rfl) ?_
  refine wp_getR (ck_get kk_Cu_fallTo 1 rfl) fl_Cu_26 (by assumption) (by assumption) ?_
  refine wp_aload_n rfl (ck_get kk_Cu_fallTo 2 rfl) ?_
  refine wp_getR (ck_get kk_Cu_fallTo 3 rfl) fl_Cu_9 (by assumption) (by assumption) ?_
  refine wp_iload_n rfl (ck_get kk_Cu_fallTo 4 rfl) ?_
  refine wp_iconst (v := nI 1) (by decide) (ck_get kk_Cu_fallTo 5 rfl) ?_
  first | refine wp_isubN (ck_get kk_Cu_fallTo 6 rfl) (by omega) ?_ | refine wp_isub (ck_get kk_Cu_fallTo 6 rfl) ?_
  refine wp_ialdv (v := nI (nbI f i)) (ck_get kk_Cu_fallTo 7 rfl) (by assumption) (ixk_nI (k := i + 1 - 1) (by omega) (by omega)) (hb i (by omega)) ?_
  refine wp_laldv (v := jI (f (nbI f i))) (ck_get kk_Cu_fallTo 8 rfl) (by assumption) (ixk_nI (k := nbI f i) (by omega) (by omega)) (hj _ (by omega)) ?_
  refine wp_aload_n rfl (ck_get kk_Cu_fallTo 9 rfl) ?_
  refine wp_getR (ck_get kk_Cu_fallTo 10 rfl) fl_Cu_26 (by assumption) (by assumption) ?_
  refine wp_aload_n rfl (ck_get kk_Cu_fallTo 11 rfl) ?_
  refine wp_getR (ck_get kk_Cu_fallTo 12 rfl) fl_Cu_9 (by assumption) (by assumption) ?_
  refine wp_iload_n rfl (ck_get kk_Cu_fallTo 13 rfl) ?_
  refine wp_ialdv (v := nI (nbI f (i + 1))) (ck_get kk_Cu_fallTo 14 rfl) (by assumption) (ixk_nI (k := i + 1) (by omega) (by omega)) (hb _ (by omega)) ?_
  refine wp_laldv (v := jI (f (nbI f (i + 1)))) (ck_get kk_Cu_fallTo 15 rfl) (by assumption) (ixk_nI (k := nbI f (i + 1)) (by omega) (by omega)) (hj _ (by omega)) ?_
  refine wp_lsub (ck_get kk_Cu_fallTo 16 rfl) ?_
  rw [← Int64.ofInt_sub]
  refine wp_lreturn (ck_get kk_Cu_fallTo 17 rfl) rfl ⟨_, rfl, ?_⟩
  exact ⟨rfl, rfl⟩
theorem c_widthTo {f : Nat → Int} {i : Nat} (hCu : CuAt (mT M) (mR M) 947) (hb : ∀ i, i ≤ nbL f → mI M 948 i = nI (nbI f i)) (hi : i < nbL f) : Ci g Y_Cu_widthTo 0 [.ref 947, .int (nI (i + 1))] M (fun x M2 => x = nI (nbI f (i + 1) - nbI f i) ∧ M2 = M) := by
  obtain ⟨t947, r0, t948, -⟩ := hCu
  have r0' : mR M 947 0 = some 948 := r0
  have t948' : mT M 948 = (20, 25) := t948
  have hl := nbL_ok (f := f)
  have h3 := nb_lt (f := f) (i := i)
  refine cw_entry 0 pf_Cu_widthTo rfl ?_
  refine wp_aload_n rfl (ck_get kk_Cu_widthTo 0 rfl) ?_
  refine wp_getR (ck_get kk_Cu_widthTo 1 rfl) fl_Cu_9 (by assumption) (by assumption) ?_
  refine wp_iload_n rfl (ck_get kk_Cu_widthTo 2 rfl) ?_
  refine wp_ialdv (v := nI (nbI f (i + 1))) (ck_get kk_Cu_widthTo 3 rfl) (by assumption) (ixk_nI (k := i + 1) (by omega) (by omega)) (hb _ (by omega)) ?_
  refine wp_aload_n rfl (ck_get kk_Cu_widthTo 4 rfl) ?_
  refine wp_getR (ck_get kk_Cu_widthTo 5 rfl) fl_Cu_9 (by assumption) (by assumption) ?_
  refine wp_iload_n rfl (ck_get kk_Cu_widthTo 6 rfl) ?_
  refine wp_iconst (v := nI 1) (by decide) (ck_get kk_Cu_widthTo 7 rfl) ?_
  first | refine wp_isubN (ck_get kk_Cu_widthTo 8 rfl) (by omega) ?_ | refine wp_isub (ck_get kk_Cu_widthTo 8 rfl) ?_
  refine wp_ialdv (v := nI (nbI f i)) (ck_get kk_Cu_widthTo 9 rfl) (by assumption) (ixk_nI (k := i + 1 - 1) (by omega) (by omega)) (hb i (by omega)) ?_
  first | refine wp_isubN (ck_get kk_Cu_widthTo 10 rfl) (by omega) ?_ | refine wp_isub (ck_get kk_Cu_widthTo 10 rfl) ?_
  refine wp_ireturn (ck_get kk_Cu_widthTo 11 rfl) rfl rfl ⟨_, rfl, ?_⟩
  exact ⟨rfl, rfl⟩
/-- curve and dealer: falls, widths, dealt -/
abbrev shM (M : Mem) (j fl wd : Nat → Int64) (b r d : Nat → Int32) : Mem := mk2 M (up1 (up1 (up1 (mI M) 948 b) 947 r) 953 d) (up1 (up1 (up1 (mJ M) 951 j) 954 fl) 955 wd)
section SHM
variable {j fl wd : Nat → Int64} {b r d : Nat → Int32}
theorem sh_j : mJ (shM M j fl wd b r d) 951 = j := by
  show up1 (up1 (up1 (mJ M) 951 j) 954 fl) 955 wd 951 = j
  rw [up1_ne (by omega), up1_ne (by omega), up1_eq]
theorem sh_fl : mJ (shM M j fl wd b r d) 954 = fl := by
  show up1 (up1 (up1 (mJ M) 951 j) 954 fl) 955 wd 954 = fl
  rw [up1_ne (by omega), up1_eq]
theorem sh_wd : mJ (shM M j fl wd b r d) 955 = wd := by
  show up1 (up1 (up1 (mJ M) 951 j) 954 fl) 955 wd 955 = wd
  rw [up1_eq]
theorem sh_b : mI (shM M j fl wd b r d) 948 = b := by
  show up1 (up1 (up1 (mI M) 948 b) 947 r) 953 d 948 = b
  rw [up1_ne (by omega), up1_ne (by omega), up1_eq]
theorem sh_r : mI (shM M j fl wd b r d) 947 = r := by
  show up1 (up1 (up1 (mI M) 948 b) 947 r) 953 d 947 = r
  rw [up1_ne (by omega), up1_eq]
theorem sh_d : mI (shM M j fl wd b r d) 953 = d := by
  show up1 (up1 (up1 (mI M) 948 b) 947 r) 953 d 953 = d
  rw [up1_eq]
theorem sh_x {x : Nat} (h1 : x ≠ 947) (h2 : x ≠ 948) (h3 : x ≠ 953) : mI (shM M j fl wd b r d) x = mI M x := by
  show up1 (up1 (up1 (mI M) 948 b) 947 r) 953 d x = _
  rw [up1_ne h3, up1_ne h1, up1_ne h2]
theorem sh_y {x : Nat} (h1 : x ≠ 951) (h2 : x ≠ 954) (h3 : x ≠ 955) : mJ (shM M j fl wd b r d) x = mJ M x := by
  show up1 (up1 (up1 (mJ M) 951 j) 954 fl) 955 wd x = _
  rw [up1_ne h3, up1_ne h2, up1_ne h1]
theorem sh_id : shM M (mJ M 951) (mJ M 954) (mJ M 955) (mI M 948) (mI M 947) (mI M 953) = M := by
  show mk2 M (up1 (up1 (up1 (mI M) 948 (mI M 948)) 947 (mI M 947)) 953 (mI M 953)) (up1 (up1 (up1 (mJ M) 951 (mJ M 951)) 954 (mJ M 954)) 955 (mJ M 955)) = M
  rw [up1_self, up1_self, up1_self, up1_self, up1_self, up1_self]
theorem sh_cu {j2 : Nat → Int64} {b2 r2 : Nat → Int32} : cuM (shM M j fl wd b r d) j2 b2 r2 = shM M j2 fl wd b2 r2 d := by
  refine mk2_ext (M := M) ?_ ?_
  · show up1 (up1 (up1 (up1 (up1 (mI M) 948 b) 947 r) 953 d) 948 b2) 947 r2 = _
    rw [up1_comm _ (show 953 ≠ 948 by omega), up1_comm _ (show 947 ≠ 948 by omega), up1_up1, up1_comm _ (show 953 ≠ 947 by omega), up1_up1]
  · show up1 (up1 (up1 (up1 (mJ M) 951 j) 954 fl) 955 wd) 951 j2 = _
    rw [up1_comm _ (show 955 ≠ 951 by omega), up1_comm _ (show 954 ≠ 951 by omega), up1_up1]
theorem sh_sfl {k : Nat} {v : Int64} : sJ (shM M j fl wd b r d) 954 k v = shM M j (up1 fl k v) wd b r d := by
  refine mk2_ext (M := M) rfl ?_
  show up2 (up1 (up1 (up1 (mJ M) 951 j) 954 fl) 955 wd) 954 k v = _
  rw [up2_up1, show up1 (up1 (up1 (mJ M) 951 j) 954 fl) 955 wd 954 = fl from sh_fl (M := M) (j := j) (fl := fl) (wd := wd) (b := b) (r := r) (d := d), up1_comm _ (show 955 ≠ 954 by omega), up1_up1]
theorem sh_swd {k : Nat} {v : Int64} : sJ (shM M j fl wd b r d) 955 k v = shM M j fl (up1 wd k v) b r d := by
  refine mk2_ext (M := M) rfl ?_
  show up2 (up1 (up1 (up1 (mJ M) 951 j) 954 fl) 955 wd) 955 k v = _
  rw [up2_up1, up1_eq, up1_up1]
theorem sh_sd {k : Nat} {v : Int32} : sI (shM M j fl wd b r d) 953 k v = shM M j fl wd b r (up1 d k v) := by
  refine mk2_ext (M := M) ?_ rfl
  show up2 (up1 (up1 (up1 (mI M) 948 b) 947 r) 953 d) 953 k v = _
  rw [up2_up1, up1_eq, up1_up1]
theorem CR.shr {c : Nat} {z : ST} (h : CR c z M) : CR (c + 1) z (shM M j fl wd b r d) := h.sc (fun x q => by
  unfold scX at q
  exact ⟨sh_x (M := M) (j := j) (fl := fl) (wd := wd) (b := b) (r := r) (d := d) (by omega) (by omega) (by omega), sh_y (M := M) (j := j) (fl := fl) (wd := wd) (b := b) (r := r) (d := d) (by omega) (by omega) (by omega)⟩)
theorem MSame.shr : MSame M (shM M j fl wd b r d) := MSame.mk2 (fun x q1 q2 => ⟨sh_x (M := M) (j := j) (fl := fl) (wd := wd) (b := b) (r := r) (d := d) (by omega) (by omega) (by omega), sh_y (M := M) (j := j) (fl := fl) (wd := wd) (b := b) (r := r) (d := d) (by omega) (by omega) (by omega)⟩)
end SHM
/-- the class's falls and widths of these tenants -/
def FlL (F : Nat → Nat → Int) (fl wd : Nat → Int64) (P : Nat → Nat → Prop) : Prop := ∀ u c, u < 4 → c < 24 → P u c → fl (24 * u + c) = jI (flF (F u) c) ∧ wd (24 * u + c) = jI (wdF (F u) c)
theorem c_loadFalls {F : Nat → Nat → Int} {t : Nat} {j fl wd : Nat → Int64} {b r d : Nat → Int32} (hCu : CuAt (mT M) (mR M) 947) (hDe : DeAt (mT M) (mR M) 952) (ht : t < 4) (hL : CuL (F t) j b r) (hF : FlL F fl wd (fun u _ => u < t)) : Cv g Y_De_loadFalls 1 [.ref 952, .int (nI t), .ref 947] (shM M j fl wd b r d) (fun M2 => ∃ fl wd, M2 = shM M j fl wd b r d ∧ FlL F fl wd (fun u _ => u < t + 1)) := by
  obtain ⟨t952, -, -, r1, t954, r2, t955, -⟩ := hDe
  have r1' : mR M 952 1 = some 954 := r1
  have r2' : mR M 952 2 = some 955 := r2
  have t954' : mT M 954 = (21, 96) := t954
  have t955' : mT M 955 = (21, 96) := t955
  have t947 := hCu.1
  obtain ⟨l1, l2, l3⟩ := hL
  have hlp : ∀ e c (fl wd : Nat → Int64) (x4 : Option Value), c + e = 24 → FlL F fl wd (fun u c2 => u < t ∨ (u = t ∧ c2 < c)) → Wp g Y_De_loadFalls 1 2 [some (.ref 952), some (.int (nI t)), some (.ref 947), some (.int (nI c)), x4] [] (shM M j fl wd b r d) (fun q M2 => q = none ∧ ∃ fl wd, M2 = shM M j fl wd b r d ∧ FlL F fl wd (fun u _ => u < t + 1)) := by
    intro e
    induction e with
    | zero =>
      intro c fl wd x4 h1 hF
      refine wp_iload_n rfl (ck_get kk_De_loadFalls 2 rfl) ?_
      refine wp_bipush (v := nI 24) (by decide) (ck_get kk_De_loadFalls 3 rfl) ?_
      first | refine wp_icmp_geN (t := 58) (ck_get kk_De_loadFalls 4 rfl) (by decide) (by omega) (by omega) (fun hc5 => ?_) (fun hc5 => ?_) | refine wp_icmp_ge (t := 58) (ck_get kk_De_loadFalls 4 rfl) (by decide) (fun hc5 => ?_) (fun hc5 => ?_)
      · refine wp_return (ck_get kk_De_loadFalls 36 rfl) rfl ⟨rfl, ?_⟩
        exact ⟨fl, wd, rfl, fun u c2 hu hc hp => hF u c2 hu hc (by omega)⟩
      · omega
    | succ e ih =>
      intro c fl wd x4 h1 hF
      have hs := sgF_ok (f := F t) (c := c) (by omega)
      obtain ⟨q1, q2, q3, q4⟩ := sg_le hs
      have hs1 := hs.1
      have hl := nbL_ok (f := F t)
      refine wp_iload_n rfl (ck_get kk_De_loadFalls 2 rfl) ?_
      refine wp_bipush (v := nI 24) (by decide) (ck_get kk_De_loadFalls 3 rfl) ?_
      first | refine wp_icmp_geN (t := 58) (ck_get kk_De_loadFalls 4 rfl) (by decide) (by omega) (by omega) (fun hc5 => ?_) (fun hc5 => ?_) | refine wp_icmp_ge (t := 58) (ck_get kk_De_loadFalls 4 rfl) (by decide) (fun hc5 => ?_) (fun hc5 => ?_)
      · omega
      · refine wp_aload_n rfl (ck_get kk_De_loadFalls 5 rfl) ?_
        refine wp_iload_n rfl (ck_get kk_De_loadFalls 6 rfl) ?_
        refine wp_iconst (v := nI 1) (by decide) (ck_get kk_De_loadFalls 7 rfl) ?_
        first | refine wp_iaddN (ck_get kk_De_loadFalls 8 rfl) ?_ | refine wp_iadd (ck_get kk_De_loadFalls 8 rfl) ?_
        refine wp_cV1i (ck_get kk_De_loadFalls 9 rfl) ml_De_31 (by omega) (Nat.le_of_ble_eq_true rfl) (by assumption) (Ci.to (c_bendFrom (f := F t) (c := c + 1) (by exact hCu) (fun i hi => by rw [sh_b]; exact l2 i hi) (by rw [sh_r]; exact l3) (by omega)) ?_)
        rintro x M1 ⟨i2, w1, w2, w3⟩
        obtain rfl := sg_un w2 hs
        subst w1 w3
        refine wp_istore (ck_get kk_De_loadFalls 10 rfl) (by decide) rfl ?_
        refine wp_aload_n rfl (ck_get kk_De_loadFalls 11 rfl) ?_
        refine wp_getR (ck_get kk_De_loadFalls 12 rfl) fl_De_15 (by assumption) (by assumption) ?_
        refine wp_iload_n rfl (ck_get kk_De_loadFalls 13 rfl) ?_
        refine wp_bipush (v := nI 24) (by decide) (ck_get kk_De_loadFalls 14 rfl) ?_
        first | refine wp_imulN (ck_get kk_De_loadFalls 15 rfl) ?_ | refine wp_imul (ck_get kk_De_loadFalls 15 rfl) ?_
        refine wp_iload_n rfl (ck_get kk_De_loadFalls 16 rfl) ?_
        first | refine wp_iaddN (ck_get kk_De_loadFalls 17 rfl) ?_ | refine wp_iadd (ck_get kk_De_loadFalls 17 rfl) ?_
        refine wp_aload_n rfl (ck_get kk_De_loadFalls 18 rfl) ?_
        refine wp_iload rfl (ck_get kk_De_loadFalls 19 rfl) ?_
        refine wp_cV1l (ck_get kk_De_loadFalls 20 rfl) ml_De_37 (by omega) (Nat.le_of_ble_eq_true rfl) (by assumption) (Cl.to (c_fallTo (f := F t) (by exact hCu) (fun c hc => by rw [sh_j]; exact l1 c hc) (fun i hi => by rw [sh_b]; exact l2 i hi) hs1) ?_)
        rintro _ M1 ⟨rfl, eqm1⟩
        obtain rfl := eqm1.symm
        refine wp_last (ck_get kk_De_loadFalls 21 rfl) (by assumption) (ixk_nI (k := t * 24 + c) (by omega) (by omega)) ?_
        rw [sh_sfl]
        refine wp_aload_n rfl (ck_get kk_De_loadFalls 22 rfl) ?_
        refine wp_getR (ck_get kk_De_loadFalls 23 rfl) fl_De_19 (by assumption) (by assumption) ?_
        refine wp_iload_n rfl (ck_get kk_De_loadFalls 24 rfl) ?_
        refine wp_bipush (v := nI 24) (by decide) (ck_get kk_De_loadFalls 25 rfl) ?_
        first | refine wp_imulN (ck_get kk_De_loadFalls 26 rfl) ?_ | refine wp_imul (ck_get kk_De_loadFalls 26 rfl) ?_
        refine wp_iload_n rfl (ck_get kk_De_loadFalls 27 rfl) ?_
        first | refine wp_iaddN (ck_get kk_De_loadFalls 28 rfl) ?_ | refine wp_iadd (ck_get kk_De_loadFalls 28 rfl) ?_
        refine wp_aload_n rfl (ck_get kk_De_loadFalls 29 rfl) ?_
        refine wp_iload rfl (ck_get kk_De_loadFalls 30 rfl) ?_
        refine wp_cV1i (ck_get kk_De_loadFalls 31 rfl) ml_De_41 (by omega) (Nat.le_of_ble_eq_true rfl) (by assumption) (Ci.to (c_widthTo (f := F t) (by exact hCu) (fun i hi => by rw [sh_b]; exact l2 i hi) hs1) ?_)
        rintro _ M1 ⟨rfl, eqm1⟩
        obtain rfl := eqm1.symm
        refine wp_i2l (ck_get kk_De_loadFalls 32 rfl) ?_
        rw [j_sub (by omega) (by omega)]
        refine wp_last (ck_get kk_De_loadFalls 33 rfl) (by assumption) (ixk_nI (k := t * 24 + c) (by omega) (by omega)) ?_
        rw [sh_swd]
        first | refine wp_iincN (ck_get kk_De_loadFalls 34 rfl) rfl (by decide) rfl ?_ | refine wp_iinc (ck_get kk_De_loadFalls 34 rfl) rfl (by decide) rfl ?_
        refine wp_goto (t := 2) (ck_get kk_De_loadFalls 35 rfl) (by decide) ?_
        refine ih (c + 1) _ _ _ (by omega) (fun u c2 hu hc hp => ?_)
        by_cases e : u = t ∧ c2 = c
        · obtain ⟨rfl, rfl⟩ := e
          rw [Nat.mul_comm u 24, up1_eq, up1_eq]
          exact ⟨rfl, rfl⟩
        · rw [up1_ne (by omega), up1_ne (by omega)]
          exact hF u c2 hu hc (by omega)
  refine cw_entry 2 pf_De_loadFalls rfl ?_
  refine wp_iconst (v := nI 0) (by decide) (ck_get kk_De_loadFalls 0 rfl) ?_
  refine wp_istore_n (ck_get kk_De_loadFalls 1 rfl) (by decide) rfl ?_
  exact hlp 24 0 fl wd none (by omega) (fun u c2 hu hc hp => hF u c2 hu hc (by omega))
end SHR

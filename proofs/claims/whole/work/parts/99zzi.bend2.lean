/-! ===== bends: the class loads a curve, the model lays bends ===== -/
section BNE
variable {g : Gl} {M : Mem}
/-- the curve's own: curve, bends, fields -/
abbrev cuM (M : Mem) (j : Nat → Int64) (b r : Nat → Int32) : Mem := mk2 M (up1 (up1 (mI M) 948 b) 947 r) (up1 (mJ M) 951 j)
section CUM
variable {j : Nat → Int64} {b r : Nat → Int32}
theorem cu_j : mJ (cuM M j b r) 951 = j := by
  show up1 (mJ M) 951 j 951 = j
  rw [up1_eq]
theorem cu_b : mI (cuM M j b r) 948 = b := by
  show up1 (up1 (mI M) 948 b) 947 r 948 = b
  rw [up1_ne (by omega), up1_eq]
theorem cu_r : mI (cuM M j b r) 947 = r := by
  show up1 (up1 (mI M) 948 b) 947 r 947 = r
  rw [up1_eq]
theorem cu_x {x : Nat} (h : x ≠ 947) (h2 : x ≠ 948) : mI (cuM M j b r) x = mI M x := by
  show up1 (up1 (mI M) 948 b) 947 r x = _
  rw [up1_ne h, up1_ne h2]
theorem cu_id : cuM M (mJ M 951) (mI M 948) (mI M 947) = M := by
  show mk2 M (up1 (up1 (mI M) 948 (mI M 948)) 947 (mI M 947)) (up1 (mJ M) 951 (mJ M 951)) = M
  rw [up1_self, up1_self, up1_self]
theorem cu_sj {k : Nat} {v : Int64} : sJ (cuM M j b r) 951 k v = cuM M (up1 j k v) b r := by
  refine mk2_ext (M := M) rfl ?_
  show up2 (up1 (mJ M) 951 j) 951 k v = _
  rw [up2_up1, up1_eq, up1_up1]
theorem cu_sb {k : Nat} {v : Int32} : sI (cuM M j b r) 948 k v = cuM M j (up1 b k v) r := by
  refine mk2_ext (M := M) ?_ rfl
  show up2 (up1 (up1 (mI M) 948 b) 947 r) 948 k v = _
  rw [up2_up1, show up1 (up1 (mI M) 948 b) 947 r 948 = b from cu_b (M := M) (j := j) (b := b) (r := r), up1_comm _ (show 947 ≠ 948 by omega), up1_up1]
theorem cu_sr {k : Nat} {v : Int32} : sI (cuM M j b r) 947 k v = cuM M j b (up1 r k v) := by
  refine mk2_ext (M := M) ?_ rfl
  show up2 (up1 (up1 (mI M) 948 b) 947 r) 947 k v = _
  rw [up2_up1, up1_eq, up1_up1]
theorem CR.cu {c : Nat} {z : ST} (h : CR c z M) : CR (c + 1) z (cuM M j b r) := h.sc (fun x q => by
  unfold scX at q
  exact ⟨cu_x (M := M) (j := j) (b := b) (r := r) (by omega) (by omega), up1_ne (by omega)⟩)
theorem MSame.cu : MSame M (cuM M j b r) := MSame.mk2 (fun x q1 q2 => ⟨cu_x (M := M) (j := j) (b := b) (r := r) (by omega) (by omega), up1_ne (by omega)⟩)
end CUM
/-- the class's curve has been loaded with these numbers -/
def CuL (f : Nat → Int) (j : Nat → Int64) (b r : Nat → Int32) : Prop := (∀ c, c < 25 → j c = jI (f c)) ∧ (∀ i, i ≤ nbL f → b i = nI (nbI f i)) ∧ r 1 = nI (nbL f + 1)
theorem c_load {w : WS} {t : Nat} (hW : WoAt (mT M) (mR M) 2) (hH : WoHas (mI M) (mJ M) 2 w) (hCu : CuAt (mT M) (mR M) 947) (ht : t < 4) (hB : tot w ≤ 400000000) : Cv g Y_Cu_load 1 [.ref 947, .ref (4 + 6 * t)] M (fun M2 => ∃ j b r, M2 = cuM M j b r ∧ CuL (mz w t) j b r) := by
  have hCu0 := hCu
  obtain ⟨t947, r0, t948, -, -, r3, t951⟩ := hCu
  have r0' : mR M 947 0 = some 948 := r0
  have t948' : mT M 948 = (20, 25) := t948
  have r3' : mR M 947 3 = some 951 := r3
  have t951' : mT M 951 = (21, 25) := t951
  have hTA : TeAt (mT M) (mR M) (4 + 6 * t) := (hW.2.2.2 t ht).2
  have tTe := hTA.1
  have rco : mR M (4 + 6 * t) 2 = some (4 + 6 * t + 2) := hTA.2.2.1
  have tco : mT M (4 + 6 * t + 2) = (20, 25) := hTA.2.2.2.2.2.2.2.1
  have hco : ∀ j b r i, i < 25 → mI (cuM M j b r) (4 + 6 * t + 2) i = nI (tCo (w.2 t) i) := fun j b r i hi => (congrFun (cu_x (by omega) (by omega)) i).trans ((hH.2 t ht).2.2.1 i hi)
  have hcb : ∀ i, i < 25 → tCo (w.2 t) i < 2147483648 := fun i hi => by have := tot_at (ws := w) ht hi; omega
  have hfb : ∀ c, c < 25 → 0 ≤ mz w t c ∧ mz w t c ≤ 400000000 := fun c hc => by
    have h1 := msN_le (w := w) (t := t) hc
    have h2 : sTo w t ≤ tot w := smN_at (f := fun t => smN (tCo (w.2 t)) 25) ht
    show (0 : Int) ≤ (msN w t c : Int) ∧ (msN w t c : Int) ≤ 400000000
    omega
  have h2 : ∀ (x2 : Int64) (j : Nat → Int64), (∀ c, c < 25 → j c = jI (mz w t c)) → ∀ e i (b r : Nat → Int32), i + e = nbL (mz w t) → (∀ k, k ≤ i → b k = nI (nbI (mz w t) k)) → r 1 = nI (i + 1) → Wp g Y_Cu_load 1 60 [some (.ref 947), some (.ref (4 + 6 * t)), some (.long x2), none, some (.int (nI (nbI (mz w t) i))), some (.int (nI i))] [] (cuM M j b r) (fun q M2 => q = none ∧ ∃ j b r, M2 = cuM M j b r ∧ CuL (mz w t) j b r) := by
    intro x2 j hj e
    have hl := nbL_ok (f := mz w t)
    induction e with
    | zero =>
      intro i b r h1 hb hr
      obtain rfl : i = nbL (mz w t) := by omega
      have h24 := hl.1
      have h242 := hl.2
      refine wp_iload rfl (ck_get kk_Cu_load 37 rfl) ?_
      refine wp_bipush (v := nI 24) (by decide) (ck_get kk_Cu_load 38 rfl) ?_
      first | refine wp_icmp_geN (t := 109) (ck_get kk_Cu_load 39 rfl) (by decide) (by omega) (by omega) (fun hc64 => ?_) (fun hc64 => ?_) | refine wp_icmp_ge (t := 109) (ck_get kk_Cu_load 39 rfl) (by decide) (fun hc64 => ?_) (fun hc64 => ?_)
      · refine wp_return (ck_get kk_Cu_load 61 rfl) rfl ⟨rfl, ?_⟩
        exact ⟨j, b, r, rfl, hj, hb, hr⟩
      · refine wp_iload rfl (ck_get kk_Cu_load 40 rfl) ?_
        refine wp_bipush (v := nI 24) (by decide) (ck_get kk_Cu_load 41 rfl) ?_
        first | refine wp_icmp_geN (t := 109) (ck_get kk_Cu_load 42 rfl) (by decide) (by omega) (by omega) (fun hc71 => ?_) (fun hc71 => ?_) | refine wp_icmp_ge (t := 109) (ck_get kk_Cu_load 42 rfl) (by decide) (fun hc71 => ?_) (fun hc71 => ?_)
        · refine wp_return (ck_get kk_Cu_load 61 rfl) rfl ⟨rfl, ?_⟩
          exact ⟨j, b, r, rfl, hj, hb, hr⟩
        · omega
    | succ e ih =>
      intro i b r h1 hb hr
      have h24 : nbI (mz w t) i < 24 := nbL_lt.mpr (by omega)
      have h3 := nb_ge (f := mz w t) i
      refine wp_iload rfl (ck_get kk_Cu_load 37 rfl) ?_
      refine wp_bipush (v := nI 24) (by decide) (ck_get kk_Cu_load 38 rfl) ?_
      first | refine wp_icmp_geN (t := 109) (ck_get kk_Cu_load 39 rfl) (by decide) (by omega) (by omega) (fun hc64 => ?_) (fun hc64 => ?_) | refine wp_icmp_ge (t := 109) (ck_get kk_Cu_load 39 rfl) (by decide) (fun hc64 => ?_) (fun hc64 => ?_)
      · omega
      · refine wp_iload rfl (ck_get kk_Cu_load 40 rfl) ?_
        refine wp_bipush (v := nI 24) (by decide) (ck_get kk_Cu_load 41 rfl) ?_
        first | refine wp_icmp_geN (t := 109) (ck_get kk_Cu_load 42 rfl) (by decide) (by omega) (by omega) (fun hc71 => ?_) (fun hc71 => ?_) | refine wp_icmp_ge (t := 109) (ck_get kk_Cu_load 42 rfl) (by decide) (fun hc71 => ?_) (fun hc71 => ?_)
        · omega
        · refine wp_aload_n rfl (ck_get kk_Cu_load 43 rfl) ?_
          refine wp_iload rfl (ck_get kk_Cu_load 44 rfl) ?_
          refine wp_cV1i (ck_get kk_Cu_load 45 rfl) ml_Cu_35 (by omega) (Nat.le_of_ble_eq_true rfl) (by assumption) (Ci.to (c_nextBend (f := mz w t) (at0 := nbI (mz w t) i) (by exact hCu0) (fun c hc => by rw [cu_j]; exact hj c hc) hfb h24) ?_)
          rintro _ M1 ⟨rfl, eqm1⟩
          obtain rfl := eqm1.symm
          refine wp_istore (ck_get kk_Cu_load 46 rfl) (by decide) rfl ?_
          refine wp_aload_n rfl (ck_get kk_Cu_load 47 rfl) ?_
          refine wp_getR (ck_get kk_Cu_load 48 rfl) fl_Cu_9 (by assumption) (by assumption) ?_
          refine wp_aload_n rfl (ck_get kk_Cu_load 49 rfl) ?_
          refine wp_getIv (v := nI (i + 1)) (ck_get kk_Cu_load 50 rfl) fl_Cu_15 (by assumption) ((by rw [cu_r]; exact hr)) ?_
          refine wp_iload rfl (ck_get kk_Cu_load 51 rfl) ?_
          refine wp_iast (ck_get kk_Cu_load 52 rfl) (by assumption) (ixk_nI (k := i + 1) (by omega) (by omega)) ?_
          rw [cu_sb]
          refine wp_aload_n rfl (ck_get kk_Cu_load 53 rfl) ?_
          refine wp_dup rfl (ck_get kk_Cu_load 54 rfl) ?_
          refine wp_getIv (v := nI (i + 1)) (ck_get kk_Cu_load 55 rfl) fl_Cu_15 (by assumption) ((by rw [cu_r]; exact hr)) ?_
          refine wp_iconst (v := nI 1) (by decide) (ck_get kk_Cu_load 56 rfl) ?_
          first | refine wp_iaddN (ck_get kk_Cu_load 57 rfl) ?_ | refine wp_iadd (ck_get kk_Cu_load 57 rfl) ?_
          refine wp_putI (ck_get kk_Cu_load 58 rfl) fl_Cu_15 (by decide +kernel) (by assumption) (okI_int _) ?_
          rw [cu_sr]
          first | refine wp_iincN (ck_get kk_Cu_load 59 rfl) rfl (by decide) rfl ?_ | refine wp_iinc (ck_get kk_Cu_load 59 rfl) rfl (by decide) rfl ?_
          refine wp_goto (t := 60) (ck_get kk_Cu_load 60 rfl) (by decide) ?_
          refine ih (i + 1) _ _ (by omega) (fun k hk => ?_) (by rw [up1_eq])
          by_cases e : k = i + 1
          · subst e; rw [up1_eq]; rfl
          · rw [up1_ne e]; exact hb k (by omega)
  have h1 : ∀ c j, c < 25 → (∀ i, c < i → i < 25 → j i = jI (mz w t i)) → Wp g Y_Cu_load 1 12 [some (.ref 947), some (.ref (4 + 6 * t)), some (.long (jI (mz w t c))), none, some (.int (nI c)), none] [] (cuM M j (mI M 948) (mI M 947)) (fun q M2 => q = none ∧ ∃ j b r, M2 = cuM M j b r ∧ CuL (mz w t) j b r) := by
    intro c
    induction c with
    | zero =>
      intro j hc hj
      have hj2 : ∀ i, i < 25 → up1 j 0 (jI (mz w t 0)) i = jI (mz w t i) := fun i hi => by
        by_cases e : i = 0
        · subst e; rw [up1_eq]
        · rw [up1_ne e]; exact hj i (by omega) hi
      refine wp_iload rfl (ck_get kk_Cu_load 8 rfl) ?_
      first | refine wp_if_ltN (t := 42) (ck_get kk_Cu_load 9 rfl) (by decide) (by omega) (fun hc14 => ?_) (fun hc14 => ?_) | refine wp_if_lt (t := 42) (ck_get kk_Cu_load 9 rfl) (by decide) (fun hc14 => ?_) (fun hc14 => ?_)
      · exact hc14.elim
      · refine wp_aload_n rfl (ck_get kk_Cu_load 10 rfl) ?_
        refine wp_getR (ck_get kk_Cu_load 11 rfl) fl_Cu_26 (by assumption) (by assumption) ?_
        refine wp_iload rfl (ck_get kk_Cu_load 12 rfl) ?_
        refine wp_lload_n rfl (ck_get kk_Cu_load 13 rfl) ?_
        refine wp_last (ck_get kk_Cu_load 14 rfl) (by assumption) (ixk_nI (k := 0) (by omega) (by omega)) ?_
        rw [cu_sj]
        refine wp_lload_n rfl (ck_get kk_Cu_load 15 rfl) ?_
        refine wp_aload_n rfl (ck_get kk_Cu_load 16 rfl) ?_
        refine wp_getR (ck_get kk_Cu_load 17 rfl) fl_Cu_30 (by assumption) (by assumption) ?_
        refine wp_iload rfl (ck_get kk_Cu_load 18 rfl) ?_
        refine wp_ialdv (v := nI (tCo (w.2 t) 0)) (ck_get kk_Cu_load 19 rfl) (by assumption) (ixk_nI (k := 0) (by omega) (by omega)) (hco _ _ _ _ (by omega)) ?_
        refine wp_i2l (ck_get kk_Cu_load 20 rfl) ?_
        refine wp_ladd (ck_get kk_Cu_load 21 rfl) ?_
        refine wp_lstore_n (ck_get kk_Cu_load 22 rfl) (by decide) rfl ?_
        skip
        first | refine wp_iincD (ck_get kk_Cu_load 23 rfl) rfl (by decide) rfl ?_ | refine wp_iinc (ck_get kk_Cu_load 23 rfl) rfl (by decide) rfl ?_
        refine wp_goto (t := 12) (ck_get kk_Cu_load 24 rfl) (by decide) ?_
        skip
        refine wp_iload rfl (ck_get kk_Cu_load 8 rfl) ?_
        refine wp_if_lt (t := 42) (ck_get kk_Cu_load 9 rfl) (by decide) (fun hc14 => ?_) (fun hc14 => ?_)
        · refine wp_aload_n rfl (ck_get kk_Cu_load 25 rfl) ?_
          refine wp_getR (ck_get kk_Cu_load 26 rfl) fl_Cu_9 (by assumption) (by assumption) ?_
          refine wp_iconst (v := nI 0) (by decide) (ck_get kk_Cu_load 27 rfl) ?_
          refine wp_iconst (v := nI 0) (by decide) (ck_get kk_Cu_load 28 rfl) ?_
          refine wp_iast (ck_get kk_Cu_load 29 rfl) (by assumption) (ixk_nI (k := 0) (by omega) (by omega)) ?_
          rw [cu_sb]
          refine wp_aload_n rfl (ck_get kk_Cu_load 30 rfl) ?_
          refine wp_iconst (v := nI 1) (by decide) (ck_get kk_Cu_load 31 rfl) ?_
          refine wp_putI (ck_get kk_Cu_load 32 rfl) fl_Cu_15 (by decide +kernel) (by assumption) (okI_int _) ?_
          rw [cu_sr]
          refine wp_iconst (v := nI 0) (by decide) (ck_get kk_Cu_load 33 rfl) ?_
          refine wp_istore (ck_get kk_Cu_load 34 rfl) (by decide) rfl ?_
          refine wp_iconst (v := nI 0) (by decide) (ck_get kk_Cu_load 35 rfl) ?_
          refine wp_istore (ck_get kk_Cu_load 36 rfl) (by decide) rfl ?_
          refine h2 _ _ hj2 (nbL (mz w t)) 0 _ _ (by omega) (fun k hk => ?_) (by rw [up1_eq])
          obtain rfl : k = 0 := by omega
          rw [up1_eq]; rfl
        · exact absurd (by decide) hc14
    | succ c ih =>
      intro j hc hj
      have hst : mz w t (c + 1) + (tCo (w.2 t) (c + 1) : Int) = mz w t c := by
        have := msN_s (w := w) (t := t) (c := c) (by omega)
        show (msN w t (c + 1) : Int) + _ = (msN w t c : Int)
        omega
      refine wp_iload rfl (ck_get kk_Cu_load 8 rfl) ?_
      first | refine wp_if_ltN (t := 42) (ck_get kk_Cu_load 9 rfl) (by decide) (by omega) (fun hc14 => ?_) (fun hc14 => ?_) | refine wp_if_lt (t := 42) (ck_get kk_Cu_load 9 rfl) (by decide) (fun hc14 => ?_) (fun hc14 => ?_)
      · exact hc14.elim
      · refine wp_aload_n rfl (ck_get kk_Cu_load 10 rfl) ?_
        refine wp_getR (ck_get kk_Cu_load 11 rfl) fl_Cu_26 (by assumption) (by assumption) ?_
        refine wp_iload rfl (ck_get kk_Cu_load 12 rfl) ?_
        refine wp_lload_n rfl (ck_get kk_Cu_load 13 rfl) ?_
        refine wp_last (ck_get kk_Cu_load 14 rfl) (by assumption) (ixk_nI (k := c + 1) (by omega) (by omega)) ?_
        rw [cu_sj]
        refine wp_lload_n rfl (ck_get kk_Cu_load 15 rfl) ?_
        refine wp_aload_n rfl (ck_get kk_Cu_load 16 rfl) ?_
        refine wp_getR (ck_get kk_Cu_load 17 rfl) fl_Cu_30 (by assumption) (by assumption) ?_
        refine wp_iload rfl (ck_get kk_Cu_load 18 rfl) ?_
        refine wp_ialdv (v := nI (tCo (w.2 t) (c + 1))) (ck_get kk_Cu_load 19 rfl) (by assumption) (ixk_nI (k := c + 1) (by omega) (by omega)) (hco _ _ _ _ (by omega)) ?_
        refine wp_i2l (ck_get kk_Cu_load 20 rfl) ?_
        rw [j_nI (hcb (c + 1) (by omega))]
        refine wp_ladd (ck_get kk_Cu_load 21 rfl) ?_
        rw [← Int64.ofInt_add, hst]
        refine wp_lstore_n (ck_get kk_Cu_load 22 rfl) (by decide) rfl ?_
        skip
        first | refine wp_iincD (ck_get kk_Cu_load 23 rfl) rfl (by decide) rfl ?_ | refine wp_iinc (ck_get kk_Cu_load 23 rfl) rfl (by decide) rfl ?_
        refine wp_goto (t := 12) (ck_get kk_Cu_load 24 rfl) (by decide) ?_
        refine ih _ (by omega) (fun i h3 h4 => ?_)
        by_cases e : i = c + 1
        · subst e; rw [up1_eq]
        · rw [up1_ne e]; exact hj i (by omega) h4
  have h3 := h1 24 (mJ M 951) (by omega) (fun i h3 h4 => by omega)
  have hco0 := hco (mJ M 951) (mI M 948) (mI M 947) 0 (by omega)
  rw [cu_id] at h3 hco0
  refine cw_entry 4 pf_Cu_load rfl ?_
  refine wp_aload_n rfl (ck_get kk_Cu_load 0 rfl) ?_
  refine wp_getR (ck_get kk_Cu_load 1 rfl) fl_Cu_30 (by assumption) (by assumption) ?_
  refine wp_iconst (v := nI 0) (by decide) (ck_get kk_Cu_load 2 rfl) ?_
  refine wp_ialdv (v := nI (tCo (w.2 t) 0)) (ck_get kk_Cu_load 3 rfl) (by assumption) (ixk_nI (k := 0) (by omega) (by omega)) (hco0) ?_
  refine wp_i2l (ck_get kk_Cu_load 4 rfl) ?_
  rw [j_nI (hcb 0 (by omega))]
  refine wp_lstore_n (ck_get kk_Cu_load 5 rfl) (by decide) rfl ?_
  refine wp_bipush (v := nI 24) (by decide) (ck_get kk_Cu_load 6 rfl) ?_
  refine wp_istore (ck_get kk_Cu_load 7 rfl) (by decide) rfl ?_
  exact h3
/-- the model's memory with other bends -/
abbrev beM (M : Mem) (b n : Nat → Int32) : Mem := mk2 M (up1 (up1 (mI M) 1041 b) 1042 n) (mJ M)
section BEM
variable {f b n : Nat → Int32}
theorem be_b : mI (mfM (beM M b n) f) 1041 = b := by
  show up1 (up1 (up1 (mI M) 1041 b) 1042 n) 1040 f 1041 = b
  rw [up1_ne (by omega), up1_ne (by omega), up1_eq]
theorem be_n : mI (mfM (beM M b n) f) 1042 = n := by
  show up1 (up1 (up1 (mI M) 1041 b) 1042 n) 1040 f 1042 = n
  rw [up1_ne (by omega), up1_eq]
theorem be_sb {k : Nat} {v : Int32} : sI (mfM (beM M b n) f) 1041 k v = mfM (beM M (up1 b k v) n) f := by
  refine mk2_ext (M := M) ?_ rfl
  show up2 (up1 (up1 (up1 (mI M) 1041 b) 1042 n) 1040 f) 1041 k v = _
  rw [up2_up1, show up1 (up1 (up1 (mI M) 1041 b) 1042 n) 1040 f 1041 = b from be_b (M := M) (f := f) (b := b) (n := n), up1_comm _ (show 1040 ≠ 1041 by omega), up1_comm _ (show 1042 ≠ 1041 by omega), up1_up1]
theorem be_sn {k : Nat} {v : Int32} : sI (mfM (beM M b n) f) 1042 k v = mfM (beM M b (up1 n k v)) f := by
  refine mk2_ext (M := M) ?_ rfl
  show up2 (up1 (up1 (up1 (mI M) 1041 b) 1042 n) 1040 f) 1042 k v = _
  rw [up2_up1, show up1 (up1 (up1 (mI M) 1041 b) 1042 n) 1040 f 1042 = n from be_n (M := M) (f := f) (b := b) (n := n), up1_comm _ (show 1040 ≠ 1042 by omega), up1_up1]
theorem be_id : mfM (beM M (mI M 1041) (mI M 1042)) (mI M 1040) = M := by
  show mk2 M (up1 (up1 (up1 (mI M) 1041 (mI M 1041)) 1042 (mI M 1042)) 1040 (mI M 1040)) (mJ M) = M
  rw [up1_self, up1_self, up1_self]
theorem be_22 : mI (beM M b n) 1022 = mI M 1022 := by
  show up1 (up1 (mI M) 1041 b) 1042 n 1022 = _
  rw [up1_ne (by omega), up1_ne (by omega)]
theorem MR.be {z : ST} (h : MR z M) : MR z (mfM (beM M b n) f) := MR.mf (M := beM M b n) (h.sc (fun x q => by unfold moK at q; rw [up1_ne (by omega), up1_ne (by omega)]) (fun x _ => rfl) (fun k _ => by rw [up1_ne (by omega), up1_ne (by omega)]) (by rw [up1_ne (by omega), up1_ne (by omega)]; exact h.2.2.2.2.2.2.1.2.2.2.2.1))
theorem CSame.be : CSame M (mfM (beM M b n) f) := CSame.trans (M2 := beM M b n) (CSame.mk2 (fun x q => ⟨by rw [up1_ne (by omega), up1_ne (by omega)], rfl⟩)) CSame.mf
end BEM
/-- a tenant's bends have been laid -/
def BeL (f : Nat → Int) (t : Nat) (b n : Nat → Int32) : Prop := n t = nI (nbL f + 1) ∧ ∀ i, i ≤ nbL f → b (25 * t + i) = nI (nbI f i)
theorem m_laysBends {w : WS} {t : Nat} {P : Nat → Int64} {f0 b0 n0 : Nat → Int32} (hM : MoAt (mT M) (mR M) 1020) (hW : MwHas (mI M 1022) P 0 0 w) (ht : t < 4) (hB : tot w ≤ 400000000) : Cv g Y_Mo_laysBends 3 [.ref 1020, .int (nI t)] (mfM (beM M b0 n0) f0) (fun M2 => ∃ b n, M2 = mfM (beM M b n) (lmF f0 (mI M 1022) t 0) ∧ BeL (mz w t) t b n ∧ (∀ u, u ≠ t → n u = n0 u) ∧ ∀ x, x < 25 * t ∨ 25 * t + 25 ≤ x → b x = b0 x) := by
  have to0 := hM.1
  have rfbends := MoAt.r hM 20 rfl
  have tfbends := MoAt.t hM 20 rfl
  have rfbendMany := MoAt.r hM 21 rfl
  have tfbendMany := MoAt.t hM 21 rfl
  have hf : ∀ (b n : Nat → Int32) c, c < 25 → ∃ k : Nat, mI (mfM (beM M b n) (lmF f0 (mI M 1022) t 0)) 1040 (25 * t + c) = nI k ∧ mz w t c = k ∧ k ≤ 400000000 := fun b n c hc => by
    refine ⟨msN w t c, ?_, rfl, ?_⟩
    · rw [mf_40, lm_at hW ht hc, msW_nI]
    · have h1 := msN_le (w := w) (t := t) hc
      have h2 : sTo w t ≤ tot w := smN_at (f := fun t => smN (tCo (w.2 t)) 25) ht
      omega
  have hlp : ∀ e c k (b n : Nat → Int32), c + e = 25 → c ≤ nbI (mz w t) k → (k = 0 ∨ nbI (mz w t) (k - 1) < c) → n t = nI k → (∀ i, i < k → b (25 * t + i) = nI (nbI (mz w t) i)) → (∀ u, u ≠ t → n u = n0 u) → (∀ x, x < 25 * t ∨ 25 * t + 25 ≤ x → b x = b0 x) → Wp g Y_Mo_laysBends 3 14 [some (.ref 1020), some (.int (nI t)), some (.int (nI c))] [] (mfM (beM M b n) (lmF f0 (mI M 1022) t 0)) (fun r M2 => r = none ∧ ∃ b n, M2 = mfM (beM M b n) (lmF f0 (mI M 1022) t 0) ∧ BeL (mz w t) t b n ∧ (∀ u, u ≠ t → n u = n0 u) ∧ ∀ x, x < 25 * t ∨ 25 * t + 25 ≤ x → b x = b0 x) := by
    intro e
    induction e with
    | zero =>
      intro c k b n h1 h2 h3 hn hb hu hx
      obtain rfl : c = 25 := by omega
      obtain rfl := nb_end h2 h3
      refine wp_iload_n rfl (ck_get kk_Mo_laysBends 10 rfl) ?_
      refine wp_bipush (v := nI 24) (by decide) (ck_get kk_Mo_laysBends 11 rfl) ?_
      first | refine wp_icmp_gtN (t := 65) (ck_get kk_Mo_laysBends 12 rfl) (by decide) (by omega) (by omega) (fun hc17 => ?_) (fun hc17 => ?_) | refine wp_icmp_gt (t := 65) (ck_get kk_Mo_laysBends 12 rfl) (by decide) (fun hc17 => ?_) (fun hc17 => ?_)
      · refine wp_return (ck_get kk_Mo_laysBends 41 rfl) rfl ⟨rfl, ?_⟩
        exact ⟨b, n, rfl, ⟨hn, fun i hi => hb i (by omega)⟩, hu, hx⟩
      · omega
    | succ e ih =>
      intro c k b n h1 h2 h3 hn hb hu hx
      have hk : k ≤ c := by
        have := nb_ge (f := mz w t) (k - 1)
        omega
      refine wp_iload_n rfl (ck_get kk_Mo_laysBends 10 rfl) ?_
      refine wp_bipush (v := nI 24) (by decide) (ck_get kk_Mo_laysBends 11 rfl) ?_
      first | refine wp_icmp_gtN (t := 65) (ck_get kk_Mo_laysBends 12 rfl) (by decide) (by omega) (by omega) (fun hc17 => ?_) (fun hc17 => ?_) | refine wp_icmp_gt (t := 65) (ck_get kk_Mo_laysBends 12 rfl) (by decide) (fun hc17 => ?_) (fun hc17 => ?_)
      · omega
      · refine wp_aload_n rfl (ck_get kk_Mo_laysBends 13 rfl) ?_
        refine wp_iload_n rfl (ck_get kk_Mo_laysBends 14 rfl) ?_
        refine wp_iload_n rfl (ck_get kk_Mo_laysBends 15 rfl) ?_
        refine wp_cV2i (ck_get kk_Mo_laysBends 16 rfl) ml_Mo_421 (by omega) (Nat.le_of_ble_eq_true rfl) (by assumption) (Ci.to (m_isBend (f := mz w t) (by exact hM) ht (hf b n) (by omega)) ?_)
        rintro x M1 ⟨⟨bb, w1, w2⟩, w3⟩
        subst w1 w3
        rcases nb_step (f := mz w t) (c := c) (n := k) (by omega) h2 h3 with ⟨e1, e2⟩ | ⟨e1, e2⟩
        · obtain rfl : bb = true := w2.mpr e2
          refine wp_if_ne (t := 32) (ck_get kk_Mo_laysBends 17 rfl) (by decide) (fun hc26 => ?_) (fun hc26 => ?_)
          · refine wp_aload_n rfl (ck_get kk_Mo_laysBends 19 rfl) ?_
            refine wp_getR (ck_get kk_Mo_laysBends 20 rfl) fl_Mo_91 (by assumption) (by assumption) ?_
            refine wp_bipush (v := nI 25) (by decide) (ck_get kk_Mo_laysBends 21 rfl) ?_
            refine wp_iload_n rfl (ck_get kk_Mo_laysBends 22 rfl) ?_
            first | refine wp_imulN (ck_get kk_Mo_laysBends 23 rfl) ?_ | refine wp_imul (ck_get kk_Mo_laysBends 23 rfl) ?_
            refine wp_aload_n rfl (ck_get kk_Mo_laysBends 24 rfl) ?_
            refine wp_getR (ck_get kk_Mo_laysBends 25 rfl) fl_Mo_94 (by assumption) (by assumption) ?_
            refine wp_iload_n rfl (ck_get kk_Mo_laysBends 26 rfl) ?_
            refine wp_ialdv (v := nI k) (ck_get kk_Mo_laysBends 27 rfl) (by assumption) (ixk_nI (k := t) (by omega) (by omega)) ((by rw [be_n]; exact hn)) ?_
            first | refine wp_iaddN (ck_get kk_Mo_laysBends 28 rfl) ?_ | refine wp_iadd (ck_get kk_Mo_laysBends 28 rfl) ?_
            refine wp_iload_n rfl (ck_get kk_Mo_laysBends 29 rfl) ?_
            refine wp_iast (ck_get kk_Mo_laysBends 30 rfl) (by assumption) (ixk_nI (k := 25 * t + k) (by omega) (by omega)) ?_
            rw [be_sb]
            refine wp_aload_n rfl (ck_get kk_Mo_laysBends 31 rfl) ?_
            refine wp_getR (ck_get kk_Mo_laysBends 32 rfl) fl_Mo_94 (by assumption) (by assumption) ?_
            refine wp_iload_n rfl (ck_get kk_Mo_laysBends 33 rfl) ?_
            first | refine wp_dup2l rfl (ck_get kk_Mo_laysBends 34 rfl) ?_ | refine wp_dup2 rfl rfl (ck_get kk_Mo_laysBends 34 rfl) ?_
            refine wp_ialdv (v := nI k) (ck_get kk_Mo_laysBends 35 rfl) (by assumption) (ixk_nI (k := t) (by omega) (by omega)) ((by rw [be_n]; exact hn)) ?_
            refine wp_iconst (v := nI 1) (by decide) (ck_get kk_Mo_laysBends 36 rfl) ?_
            first | refine wp_iaddN (ck_get kk_Mo_laysBends 37 rfl) ?_ | refine wp_iadd (ck_get kk_Mo_laysBends 37 rfl) ?_
            refine wp_iast (ck_get kk_Mo_laysBends 38 rfl) (by assumption) (ixk_nI (k := t) (by omega) (by omega)) ?_
            rw [be_sn]
            first | refine wp_iincN (ck_get kk_Mo_laysBends 39 rfl) rfl (by decide) rfl ?_ | refine wp_iinc (ck_get kk_Mo_laysBends 39 rfl) rfl (by decide) rfl ?_
            refine wp_goto (t := 14) (ck_get kk_Mo_laysBends 40 rfl) (by decide) ?_
            have hlt := nb_lt (f := mz w t) (i := k)
            refine ih (c + 1) (k + 1) _ _ (by omega) (by omega) (Or.inr (by show nbI (mz w t) k < c + 1; omega)) (by rw [up1_eq]) (fun i hi => ?_) (fun u hu2 => by rw [up1_ne hu2]; exact hu u hu2) (fun x hx2 => by rw [up1_ne (by omega)]; exact hx x hx2)
            by_cases e : i = k
            · subst e; rw [up1_eq, e1]
            · rw [up1_ne (by omega)]; exact hb i (by omega)
          · exact absurd hc26 (by decide)
        · obtain rfl : bb = false := by
            cases bb with
            | false => rfl
            | true => exact absurd (w2.mp rfl) e2
          refine wp_if_ne (t := 32) (ck_get kk_Mo_laysBends 17 rfl) (by decide) (fun hc26 => ?_) (fun hc26 => ?_)
          · exact absurd (by decide) hc26
          · refine wp_goto (t := 59) (ck_get kk_Mo_laysBends 18 rfl) (by decide) ?_
            first | refine wp_iincN (ck_get kk_Mo_laysBends 39 rfl) rfl (by decide) rfl ?_ | refine wp_iinc (ck_get kk_Mo_laysBends 39 rfl) rfl (by decide) rfl ?_
            refine wp_goto (t := 14) (ck_get kk_Mo_laysBends 40 rfl) (by decide) ?_
            exact ih (c + 1) k b n (by omega) (by omega) (by omega) hn hb hu hx
  refine cw_entry 1 pf_Mo_laysBends rfl ?_
  refine wp_aload_n rfl (ck_get kk_Mo_laysBends 0 rfl) ?_
  refine wp_iload_n rfl (ck_get kk_Mo_laysBends 1 rfl) ?_
  refine wp_cV1v (ck_get kk_Mo_laysBends 2 rfl) ml_Mo_407 (by omega) (Nat.le_of_ble_eq_true rfl) (by assumption) (Cv.to (m_laysMisses (o := 1020) (t := t) (by exact hM) ht) ?_)
  rintro M1 w1
  rw [mf_lm, be_22] at w1
  subst w1
  refine wp_aload_n rfl (ck_get kk_Mo_laysBends 3 rfl) ?_
  refine wp_getR (ck_get kk_Mo_laysBends 4 rfl) fl_Mo_94 (by assumption) (by assumption) ?_
  refine wp_iload_n rfl (ck_get kk_Mo_laysBends 5 rfl) ?_
  refine wp_iconst (v := nI 0) (by decide) (ck_get kk_Mo_laysBends 6 rfl) ?_
  refine wp_iast (ck_get kk_Mo_laysBends 7 rfl) (by assumption) (ixk_nI (k := t) (by omega) (by omega)) ?_
  rw [be_sn]
  refine wp_iconst (v := nI 0) (by decide) (ck_get kk_Mo_laysBends 8 rfl) ?_
  refine wp_istore_n (ck_get kk_Mo_laysBends 9 rfl) (by decide) rfl ?_
  exact hlp 25 0 0 _ _ (by omega) (Nat.zero_le _) (Or.inl rfl) (by rw [up1_eq]) (fun i hi => by omega) (fun u hu => by rw [up1_ne hu]) (fun x _ => rfl)
end BNE

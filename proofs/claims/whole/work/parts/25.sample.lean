/-! ===== MissCurves$Tenant: the sample ===== -/
/-- the greatest hash of the first i of a list -/
def mxF (L : List Nat) (s : Nat) : Nat → Nat
  | 0 => 0
  | i + 1 => max (mxF L s i) (hsh (L.getD i 0) s)
theorem hsh_lt (k s : Nat) : hsh k s < 1000 := Nat.mod_lt _ (by decide)
theorem mxF_lt {L : List Nat} {s : Nat} : ∀ i, mxF L s i < 1000
  | 0 => show (0 : Nat) < 1000 by decide
  | i + 1 => by
    rw [mxF]
    have h1 := @mxF_lt L s i
    have h2 := hsh_lt (L.getD i 0) s
    exact Nat.max_lt.mpr ⟨h1, h2⟩
/-- where a key is in the list -/
def posL (L : List Nat) (k : Nat) : Nat := fnd (fun i => nI (L.getD i 0)) L.length (nI k)
theorem posL_le {L : List Nat} {k : Nat} : posL L k ≤ L.length := fnd_le
def smp1 (L : List Nat) (k : Nat) : List Nat := k :: (if posL L k = 0 then L else L.eraseIdx (posL L k - 1))
def stayL (L : List Nat) (s lim : Nat) : List Nat := L.filter (fun k => decide (hsh k s < lim))
def smp2 (L : List Nat) (s : Nat) : List Nat := if L.length ≤ 6 then L else stayL L s (mxF L s L.length)
def lim2 (L : List Nat) (s lim : Nat) : Nat := if L.length ≤ 6 then lim else mxF L s L.length
theorem getD_eraseIdx (L : List Nat) (h j : Nat) : (L.eraseIdx h).getD j 0 = if j < h then L.getD j 0 else L.getD (j + 1) 0 := by
  rw [List.getD_eq_getElem?_getD, List.getElem?_eraseIdx]
  split <;> rw [List.getD_eq_getElem?_getD]
theorem smp1_len (L : List Nat) (k : Nat) : (smp1 L k).length = if posL L k = 0 then L.length + 1 else L.length := by
  unfold smp1
  have := @posL_le L k
  by_cases h : posL L k = 0
  · simp [h]
  · rw [if_neg h, if_neg h, List.length_cons, List.length_eraseIdx, if_pos (by omega)]
    omega
theorem shf_smp1 {L : List Nat} {k : Nat} {f : Nat → Int32} (hf : ∀ i, i < L.length → f i = nI (L.getD i 0)) : ∀ i, i < (smp1 L k).length → shf f (if posL L k = 0 then L.length else posL L k - 1) (nI k) i = nI ((smp1 L k).getD i 0) := by
  intro i hi
  have hle := @posL_le L k
  rw [smp1_len] at hi
  unfold shf smp1
  cases i with
  | zero => rfl
  | succ i =>
    rw [if_neg (by omega), List.getD_cons_succ]
    by_cases h : posL L k = 0
    · rw [if_pos h] at hi
      rw [if_pos h, if_pos h, if_pos (by omega)]
      exact hf _ (by omega)
    · rw [if_neg h] at hi
      rw [if_neg h, if_neg h, getD_eraseIdx]
      by_cases h2 : i + 1 ≤ posL L k - 1
      · rw [if_pos h2, if_pos (by omega)]
        exact hf _ (by omega)
      · rw [if_neg h2, if_neg (by omega)]
        exact hf _ (by omega)
theorem smp1_keys {L : List Nat} {k : Nat} (hk : k < 1000) (hL : ∀ x ∈ L, x < 1000) : ∀ x ∈ smp1 L k, x < 1000 := by
  intro x hx
  unfold smp1 at hx
  rcases List.mem_cons.mp hx with rfl | hx
  · exact hk
  · by_cases h : posL L k = 0
    · rw [if_pos h] at hx; exact hL x hx
    · rw [if_neg h] at hx; exact hL x (List.mem_of_mem_eraseIdx hx)
theorem getD_lt {L : List Nat} (hL : ∀ x ∈ L, x < 1000) (i : Nat) : L.getD i 0 < 1000 := by
  rw [List.getD_eq_getElem?_getD]
  cases h : L[i]? with
  | none => decide
  | some x => exact hL x (List.mem_of_getElem? h)
theorem stayL_succ {L : List Nat} {s lim i : Nat} (hi : i < L.length) : stayL (L.take (i + 1)) s lim = stayL (L.take i) s lim ++ (if hsh (L.getD i 0) s < lim then [L.getD i 0] else []) := by
  unfold stayL
  rw [List.take_succ, List.filter_append, List.getD_eq_getElem?_getD, List.getElem?_eq_getElem hi]
  by_cases h : hsh L[i] s < lim
  · simp [h]
  · simp [h]
theorem stayL_len {L : List Nat} {s lim i : Nat} : (stayL (L.take i) s lim).length ≤ i := by
  refine Nat.le_trans (List.length_filter_le _ _) ?_
  rw [List.length_take]
  omega
theorem getD_snoc (l : List Nat) (x j : Nat) (h : j < l.length + 1) : (l ++ [x]).getD j 0 = if j = l.length then x else l.getD j 0 := by
  rw [List.getD_eq_getElem?_getD]
  by_cases hj : j = l.length
  · subst hj
    rw [if_pos rfl, List.getElem?_append_right (Nat.le_refl _), Nat.sub_self]
    rfl
  · rw [if_neg hj, List.getElem?_append_left (by omega), ← List.getD_eq_getElem?_getD]
theorem nIl_ne0 {n : Nat} (h0 : 0 < n) (h : n < 2147483648) : ¬ (nI n).toInt64 = 0 := by
  rw [nI_l h]
  intro q
  have := (lN_eq (a := n) (b := 0) h (by decide)).mp q
  omega
section SA
variable {g : Gl} {M : Mem} {a : Nat}
theorem l_lower1 {s : Nat} {L : List Nat} (hA : TeAt (mT M) (mR M) a) (h4 : mI M a 4 = nI L.length) (hL : L.length ≤ 7) (hf : ∀ i, i < L.length → mI M (a + 3) i = nI (L.getD i 0)) (hk : ∀ x ∈ L, x < 1000) (hs : s < 1000) {Q : Option Value → Mem → Prop}
    (K : Wp g Y_Te_lowerLimit 1 33 [some (.ref a), some (.int (nI s)), some (.int (nI (mxF L s L.length))), some (.int (nI L.length)), none] [] M Q) : ∀ k i, L.length = i + k → Wp g Y_Te_lowerLimit 1 4 [some (.ref a), some (.int (nI s)), some (.int (nI (mxF L s i))), some (.int (nI i)), none] [] M Q := by
  obtain ⟨t0, r0, r2, r3, r6, r7, t1, t2, t3, t4, t5⟩ := hA
  intro k
  induction k with
  | zero =>
    intro i h1
    refine wp_iload_n rfl (ck_get kk_Te_lowerLimit 4 rfl) ?_
    refine wp_aload_n rfl (ck_get kk_Te_lowerLimit 5 rfl) ?_
    first | refine wp_getIv (ck_get kk_Te_lowerLimit 6 rfl) fl_Te_25 (by assumption) (by assumption) ?_ | refine wp_getI (ck_get kk_Te_lowerLimit 6 rfl) fl_Te_25 (by assumption) ?_
    first | refine wp_icmp_geN (t := 33) (ck_get kk_Te_lowerLimit 7 rfl) (by decide) (by omega) (by omega) (fun hc9 => ?_) (fun hc9 => ?_) | refine wp_icmp_ge (t := 33) (ck_get kk_Te_lowerLimit 7 rfl) (by decide) (fun hc9 => ?_) (fun hc9 => ?_)
    · subst h1; exact K
    · omega
  | succ k ih =>
    intro i h1
    have hm := @mxF_lt L s i
    have hh := hsh_lt (L.getD i 0) s
    refine wp_iload_n rfl (ck_get kk_Te_lowerLimit 4 rfl) ?_
    refine wp_aload_n rfl (ck_get kk_Te_lowerLimit 5 rfl) ?_
    first | refine wp_getIv (ck_get kk_Te_lowerLimit 6 rfl) fl_Te_25 (by assumption) (by assumption) ?_ | refine wp_getI (ck_get kk_Te_lowerLimit 6 rfl) fl_Te_25 (by assumption) ?_
    first | refine wp_icmp_geN (t := 33) (ck_get kk_Te_lowerLimit 7 rfl) (by decide) (by omega) (by omega) (fun hc9 => ?_) (fun hc9 => ?_) | refine wp_icmp_ge (t := 33) (ck_get kk_Te_lowerLimit 7 rfl) (by decide) (fun hc9 => ?_) (fun hc9 => ?_)
    · omega
    · refine wp_iload_n rfl (ck_get kk_Te_lowerLimit 8 rfl) ?_
      refine wp_aload_n rfl (ck_get kk_Te_lowerLimit 9 rfl) ?_
      refine wp_getR (ck_get kk_Te_lowerLimit 10 rfl) fl_Te_22 (by assumption) (by assumption) ?_
      refine wp_iload_n rfl (ck_get kk_Te_lowerLimit 11 rfl) ?_
      refine wp_ialdv (v := nI (L.getD i 0)) (ck_get kk_Te_lowerLimit 12 rfl) (by assumption) (by first | assumption | exact ixk_nI (by omega) (by omega)) (hf i (by omega)) ?_
      refine wp_iload_n rfl (ck_get kk_Te_lowerLimit 13 rfl) ?_
      refine wp_cSN2i (ck_get kk_Te_lowerLimit 14 rfl) ml_Te_55 (by omega) (Nat.le_of_ble_eq_true rfl) (Ci.to (c_hashOf (getD_lt hk i) hs) ?_)
      rintro _ M1 ⟨rfl, e1⟩
      obtain rfl := e1.symm
      refine wp_cS2i (ck_get kk_Te_lowerLimit 15 rfl) ml_Te_65 (by omega) (Nat.le_of_ble_eq_true rfl) (Ci.to (c_max (by omega) (by omega)) ?_)
      rintro _ M1 ⟨rfl, e1⟩
      obtain rfl := e1.symm
      refine wp_istore_n (ck_get kk_Te_lowerLimit 16 rfl) (by decide) rfl ?_
      first | refine wp_iincN (ck_get kk_Te_lowerLimit 17 rfl) rfl (by decide) rfl ?_ | refine wp_iinc (ck_get kk_Te_lowerLimit 17 rfl) rfl (by decide) rfl ?_
      refine wp_goto (t := 4) (ck_get kk_Te_lowerLimit 18 rfl) (by decide) ?_
      exact ih (i + 1) (by omega)
abbrev lwI (I : Nat → Nat → Int32) (a lim : Nat) (f3 : Nat → Int32) : Nat → Nat → Int32 := up1 (up1 I a (up1 (I a) 5 (nI lim))) (a + 3) f3
theorem l_lower2 {s lim : Nat} {L : List Nat} (hA : TeAt (mT M) (mR M) a) (h4 : mI M a 4 = nI L.length) (hL : L.length ≤ 7) (hk : ∀ x ∈ L, x < 1000) (hs : s < 1000) (hl : lim < 1000) {Q : Option Value → Mem → Prop}
    (K : ∀ f3 : Nat → Int32, (∀ j, j < (stayL L s lim).length → f3 j = nI ((stayL L s lim).getD j 0)) → Wp g Y_Te_lowerLimit 1 92 [some (.ref a), some (.int (nI s)), some (.int (nI lim)), some (.int (nI (stayL L s lim).length)), some (.int (nI L.length))] [] (mk2 M (lwI (mI M) a lim f3) (mJ M)) Q) :
    ∀ k i (f3 : Nat → Int32), L.length = i + k → (∀ j, j < (stayL (L.take i) s lim).length → f3 j = nI ((stayL (L.take i) s lim).getD j 0)) → (∀ j, i ≤ j → j < L.length → f3 j = nI (L.getD j 0)) →
      Wp g Y_Te_lowerLimit 1 43 [some (.ref a), some (.int (nI s)), some (.int (nI lim)), some (.int (nI (stayL (L.take i) s lim).length)), some (.int (nI i))] [] (mk2 M (lwI (mI M) a lim f3) (mJ M)) Q := by
  obtain ⟨t0, r0, r2, r3, r6, r7, t1, t2, t3, t4, t5⟩ := hA
  have v4 : ∀ f3, lwI (mI M) a lim f3 a 4 = nI L.length := fun f3 => by rw [lwI, up1_ne (by omega), up1_eq, up1_ne (by omega)]; exact h4
  have v5 : ∀ f3, lwI (mI M) a lim f3 a 5 = nI lim := fun f3 => by rw [lwI, up1_ne (by omega), up1_eq, up1_eq]
  have v3 : ∀ f3, lwI (mI M) a lim f3 (a + 3) = f3 := fun f3 => by rw [lwI, up1_eq]
  intro k
  induction k with
  | zero =>
    intro i f3 h1 h2 h3
    refine wp_iload rfl (ck_get kk_Te_lowerLimit 26 rfl) ?_
    refine wp_aload_n rfl (ck_get kk_Te_lowerLimit 27 rfl) ?_
    refine wp_getIv (v := nI L.length) (ck_get kk_Te_lowerLimit 28 rfl) fl_Te_25 (by assumption) (v4 f3) ?_
    first | refine wp_icmp_geN (t := 92) (ck_get kk_Te_lowerLimit 29 rfl) (by decide) (by omega) (by omega) (fun hc49 => ?_) (fun hc49 => ?_) | refine wp_icmp_ge (t := 92) (ck_get kk_Te_lowerLimit 29 rfl) (by decide) (fun hc49 => ?_) (fun hc49 => ?_)
    · have e : L.take i = L := by rw [← Nat.add_zero i, ← h1, List.take_length]
      rw [e] at h2 ⊢
      subst h1
      exact K f3 h2
    · omega
  | succ k ih =>
    intro i f3 h1 h2 h3
    have hst := @stayL_len L s lim i
    have hh := hsh_lt (L.getD i 0) s
    have e3 : lwI (mI M) a lim f3 (a + 3) i = nI (L.getD i 0) := by rw [v3]; exact h3 i (by omega) (by omega)
    have hsu := @stayL_succ L s lim i (by omega)
    refine wp_iload rfl (ck_get kk_Te_lowerLimit 26 rfl) ?_
    refine wp_aload_n rfl (ck_get kk_Te_lowerLimit 27 rfl) ?_
    refine wp_getIv (v := nI L.length) (ck_get kk_Te_lowerLimit 28 rfl) fl_Te_25 (by assumption) (v4 f3) ?_
    first | refine wp_icmp_geN (t := 92) (ck_get kk_Te_lowerLimit 29 rfl) (by decide) (by omega) (by omega) (fun hc49 => ?_) (fun hc49 => ?_) | refine wp_icmp_ge (t := 92) (ck_get kk_Te_lowerLimit 29 rfl) (by decide) (fun hc49 => ?_) (fun hc49 => ?_)
    · omega
    · refine wp_aload_n rfl (ck_get kk_Te_lowerLimit 30 rfl) ?_
      refine wp_getR (ck_get kk_Te_lowerLimit 31 rfl) fl_Te_22 (by assumption) (by assumption) ?_
      refine wp_iload rfl (ck_get kk_Te_lowerLimit 32 rfl) ?_
      refine wp_ialdv (v := nI (L.getD i 0)) (ck_get kk_Te_lowerLimit 33 rfl) (by assumption) (by first | assumption | exact ixk_nI (by omega) (by omega)) (e3) ?_
      refine wp_iload_n rfl (ck_get kk_Te_lowerLimit 34 rfl) ?_
      refine wp_cSN2i (ck_get kk_Te_lowerLimit 35 rfl) ml_Te_55 (by omega) (Nat.le_of_ble_eq_true rfl) (Ci.to (c_hashOf (getD_lt hk i) hs) ?_)
      rintro _ M1 ⟨rfl, e1⟩
      obtain rfl := e1.symm
      refine wp_aload_n rfl (ck_get kk_Te_lowerLimit 36 rfl) ?_
      refine wp_getIv (v := nI lim) (ck_get kk_Te_lowerLimit 37 rfl) fl_Te_28 (by assumption) (v5 f3) ?_
      first | refine wp_icmp_geN (t := 86) (ck_get kk_Te_lowerLimit 38 rfl) (by decide) (by omega) (by omega) (fun hc67 => ?_) (fun hc67 => ?_) | refine wp_icmp_ge (t := 86) (ck_get kk_Te_lowerLimit 38 rfl) (by decide) (fun hc67 => ?_) (fun hc67 => ?_)
      · first | refine wp_iincN (ck_get kk_Te_lowerLimit 48 rfl) rfl (by decide) rfl ?_ | refine wp_iinc (ck_get kk_Te_lowerLimit 48 rfl) rfl (by decide) rfl ?_
        refine wp_goto (t := 43) (ck_get kk_Te_lowerLimit 49 rfl) (by decide) ?_
        rw [if_neg (by omega), List.append_nil] at hsu
        have e := ih (i + 1) f3 (by omega) (by rw [hsu]; exact h2) (fun j hj hj2 => h3 j (by omega) hj2)
        rw [hsu] at e
        exact e
      · refine wp_aload_n rfl (ck_get kk_Te_lowerLimit 39 rfl) ?_
        refine wp_getR (ck_get kk_Te_lowerLimit 40 rfl) fl_Te_22 (by assumption) (by assumption) ?_
        refine wp_iload_n rfl (ck_get kk_Te_lowerLimit 41 rfl) ?_
        refine wp_aload_n rfl (ck_get kk_Te_lowerLimit 42 rfl) ?_
        refine wp_getR (ck_get kk_Te_lowerLimit 43 rfl) fl_Te_22 (by assumption) (by assumption) ?_
        refine wp_iload rfl (ck_get kk_Te_lowerLimit 44 rfl) ?_
        refine wp_ialdv (v := nI (L.getD i 0)) (ck_get kk_Te_lowerLimit 45 rfl) (by assumption) (by first | assumption | exact ixk_nI (by omega) (by omega)) (e3) ?_
        refine wp_iast (ck_get kk_Te_lowerLimit 46 rfl) (by assumption) (by first | assumption | exact ixk_nI (by omega) (by omega)) ?_
        first | refine wp_iincN (ck_get kk_Te_lowerLimit 47 rfl) rfl (by decide) rfl ?_ | refine wp_iinc (ck_get kk_Te_lowerLimit 47 rfl) rfl (by decide) rfl ?_
        first | refine wp_iincN (ck_get kk_Te_lowerLimit 48 rfl) rfl (by decide) rfl ?_ | refine wp_iinc (ck_get kk_Te_lowerLimit 48 rfl) rfl (by decide) rfl ?_
        refine wp_goto (t := 43) (ck_get kk_Te_lowerLimit 49 rfl) (by decide) ?_
        rw [if_pos (by omega)] at hsu
        have e := ih (i + 1) (up1 f3 (stayL (L.take i) s lim).length (nI (L.getD i 0))) (by omega) (by
          rw [hsu]
          intro j hj
          rw [List.length_append, List.length_singleton] at hj
          rw [getD_snoc _ _ _ hj]
          by_cases hj2 : j = (stayL (L.take i) s lim).length
          · rw [if_pos hj2, hj2, up1_eq]
          · rw [if_neg hj2, up1_ne hj2]
            exact h2 j (by omega)) (fun j hj hj2 => by rw [up1_ne (by omega)]; exact h3 j (by omega) hj2)
        rw [hsu, List.length_append, List.length_singleton] at e
        have em : lwI (mI M) a lim (up1 f3 (stayL (L.take i) s lim).length (nI (L.getD i 0))) = up2 (lwI (mI M) a lim f3) (a + 3) (stayL (L.take i) s lim).length (nI (L.getD i 0)) := by
          rw [up2_up1, v3, lwI, lwI, up1_up1]
        rw [em] at e
        exact e
theorem l_lower3 {lim stn : Nat} {f3 : Nat → Int32} {x1 x2 x4 : Option Value} (hA : TeAt (mT M) (mR M) a) : Wp g Y_Te_lowerLimit 1 92 [some (.ref a), x1, x2, some (.int (nI stn)), x4] [] (mk2 M (lwI (mI M) a lim f3) (mJ M)) (fun r M2 => r = none ∧ M2 = mk2 M (up1 (up1 (mI M) a (up1 (up1 (mI M a) 5 (nI lim)) 4 (nI stn))) (a + 3) f3) (mJ M)) := by
  obtain ⟨t0, r0, r2, r3, r6, r7, t1, t2, t3, t4, t5⟩ := hA
  refine wp_aload_n rfl (ck_get kk_Te_lowerLimit 50 rfl) ?_
  refine wp_iload_n rfl (ck_get kk_Te_lowerLimit 51 rfl) ?_
  refine wp_putI (ck_get kk_Te_lowerLimit 52 rfl) fl_Te_25 (by decide +kernel) (by assumption) (okI_int _) ?_
  refine wp_return (ck_get kk_Te_lowerLimit 53 rfl) rfl ⟨rfl, ?_⟩
  refine congrArg (fun I => mk2 M I (mJ M)) ?_
  show up2 (lwI (mI M) a lim f3) a 4 (nI stn) = _
  rw [up2_up1, lwI, up1_ne (show a ≠ a + 3 by omega), up1_eq, up1_comm _ (show a + 3 ≠ a by omega), up1_up1]
theorem c_lowerLimit {s : Nat} {L : List Nat} (hA : TeAt (mT M) (mR M) a) (h4 : mI M a 4 = nI L.length) (hL : L.length ≤ 7) (hf : ∀ i, i < L.length → mI M (a + 3) i = nI (L.getD i 0)) (hk : ∀ x ∈ L, x < 1000) (hs : s < 1000) : Cv g Y_Te_lowerLimit 1 [.ref a, .int (nI s)] M (fun M2 => ∃ f3 : Nat → Int32, (∀ j, j < (stayL L s (mxF L s L.length)).length → f3 j = nI ((stayL L s (mxF L s L.length)).getD j 0)) ∧ M2 = mk2 M (up1 (up1 (mI M) a (up1 (up1 (mI M a) 5 (nI (mxF L s L.length))) 4 (nI (stayL L s (mxF L s L.length)).length))) (a + 3) f3) (mJ M)) := by
  have hA0 := hA
  obtain ⟨t0, r0, r2, r3, r6, r7, t1, t2, t3, t4, t5⟩ := hA
  refine cw_entry 3 pf_Te_lowerLimit rfl ?_
  refine wp_iconst (v := nI 0) (by decide) (ck_get kk_Te_lowerLimit 0 rfl) ?_
  refine wp_istore_n (ck_get kk_Te_lowerLimit 1 rfl) (by decide) rfl ?_
  refine wp_iconst (v := nI 0) (by decide) (ck_get kk_Te_lowerLimit 2 rfl) ?_
  refine wp_istore_n (ck_get kk_Te_lowerLimit 3 rfl) (by decide) rfl ?_
  refine l_lower1 hA0 h4 hL hf hk hs ?_ L.length 0 (by omega)
  have hm := @mxF_lt L s L.length
  refine wp_aload_n rfl (ck_get kk_Te_lowerLimit 19 rfl) ?_
  refine wp_iload_n rfl (ck_get kk_Te_lowerLimit 20 rfl) ?_
  refine wp_putI (ck_get kk_Te_lowerLimit 21 rfl) fl_Te_28 (by decide +kernel) (by assumption) (okI_int _) ?_
  refine wp_iconst (v := nI 0) (by decide) (ck_get kk_Te_lowerLimit 22 rfl) ?_
  refine wp_istore_n (ck_get kk_Te_lowerLimit 23 rfl) (by decide) rfl ?_
  refine wp_iconst (v := nI 0) (by decide) (ck_get kk_Te_lowerLimit 24 rfl) ?_
  refine wp_istore (ck_get kk_Te_lowerLimit 25 rfl) (by decide) rfl ?_
  have e := l_lower2 (g := g) (lim := mxF L s L.length) (Q := fun r M2 => r = none ∧ (fun M2 => ∃ f3 : Nat → Int32, (∀ j, j < (stayL L s (mxF L s L.length)).length → f3 j = nI ((stayL L s (mxF L s L.length)).getD j 0)) ∧ M2 = mk2 M (up1 (up1 (mI M) a (up1 (up1 (mI M a) 5 (nI (mxF L s L.length))) 4 (nI (stayL L s (mxF L s L.length)).length))) (a + 3) f3) (mJ M)) M2) hA0 h4 hL hk hs hm ?_ L.length 0 (mI M (a + 3)) (by omega) (fun j hj => absurd hj (Nat.not_lt_zero j)) (fun j _ hj => hf j hj)
  · have em : lwI (mI M) a (mxF L s L.length) (mI M (a + 3)) = up2 (mI M) a 5 (nI (mxF L s L.length)) := by
      rw [up2_up1, lwI, up1_id (show up1 (mI M) a (up1 (mI M a) 5 (nI (mxF L s L.length))) (a + 3) = mI M (a + 3) from up1_ne (by omega))]
    rw [em] at e
    exact e
  · intro f3 h3
    exact (l_lower3 hA0).mono (fun r M2 ⟨e1, e2⟩ => ⟨e1, f3, h3, e2⟩)
/-- what a read adds to the parts, and where -/
def ptX (q lim : Nat) : Nat := if 24 < q * 1000 / lim then 0 else q * 1000 / lim
def ptV (cost : Int32) (lim : Nat) : Int64 := 1000000 * cost.toInt64 / (nI lim).toInt64
theorem l_take2 {k s lim : Nat} {cost : Int32} {x5 : Option Value} {L : List Nat} {J1 : Nat → Nat → Int64} (hA : TeAt (mT M) (mR M) a) (h4 : mI M a 4 = nI L.length) (hL : L.length ≤ 6) (hf : ∀ i, i < L.length → mI M (a + 3) i = nI (L.getD i 0)) (hk : ∀ x ∈ L, x < 1000) (h5 : mI M a 5 = nI lim) (hkk : k < 1000) (hs : s < 1000) :
    Wp g Y_Te_takeSample 2 81 [some (.ref a), some (.int (nI k)), some (.int cost), some (.int (nI s)), some (.int (nI (posL L k))), x5] [] (mk2 M (mI M) J1) (fun r M2 => r = none ∧ ∃ f3 : Nat → Int32, (∀ j, j < (smp2 (smp1 L k) s).length → f3 j = nI ((smp2 (smp1 L k) s).getD j 0)) ∧ M2 = mk2 M (up1 (up1 (mI M) a (up1 (up1 (mI M a) 5 (nI (lim2 (smp1 L k) s lim))) 4 (nI (smp2 (smp1 L k) s).length))) (a + 3) f3) J1) := by
  have hA0 := hA
  obtain ⟨t0, r0, r2, r3, r6, r7, t1, t2, t3, t4, t5⟩ := hA
  have hq := @posL_le L k
  have hlen := smp1_len L k
  have hsh := shf_smp1 (k := k) hf
  refine wp_iload rfl (ck_get kk_Te_takeSample 45 rfl) ?_
  first | refine wp_if_neN (t := 96) (ck_get kk_Te_takeSample 46 rfl) (by decide) (by omega) (fun hc83 => ?_) (fun hc83 => ?_) | refine wp_if_ne (t := 96) (ck_get kk_Te_takeSample 46 rfl) (by decide) (fun hc83 => ?_) (fun hc83 => ?_)
  · refine wp_aload_n rfl (ck_get kk_Te_takeSample 53 rfl) ?_
    refine wp_getR (ck_get kk_Te_takeSample 54 rfl) fl_Te_22 (by assumption) (by assumption) ?_
    refine wp_iload rfl (ck_get kk_Te_takeSample 55 rfl) ?_
    first | refine wp_if_leN (t := 112) (ck_get kk_Te_takeSample 56 rfl) (by decide) (by omega) (fun hc102 => ?_) (fun hc102 => ?_) | refine wp_if_le (t := 112) (ck_get kk_Te_takeSample 56 rfl) (by decide) (fun hc102 => ?_) (fun hc102 => ?_)
    · exact absurd hc102 hc83
    · refine wp_iload rfl (ck_get kk_Te_takeSample 57 rfl) ?_
      refine wp_iconst (v := nI 1) (by decide) (ck_get kk_Te_takeSample 58 rfl) ?_
      first | refine wp_isubN (ck_get kk_Te_takeSample 59 rfl) (by omega) ?_ | refine wp_isub (ck_get kk_Te_takeSample 59 rfl) ?_
      refine wp_goto (t := 118) (ck_get kk_Te_takeSample 60 rfl) (by decide) ?_
      refine wp_iload_n rfl (ck_get kk_Te_takeSample 65 rfl) ?_
      refine wp_cSN3v (ck_get kk_Te_takeSample 66 rfl) ml_Te_51 (by omega) (Nat.le_of_ble_eq_true rfl) (Cv.to (c_putFirst (len := 7) t3 (by omega) (by decide)) ?_)
      rintro M2 rfl
      refine wp_aload_n rfl (ck_get kk_Te_takeSample 67 rfl) ?_
      refine wp_getIv (v := nI L.length) (ck_get kk_Te_takeSample 68 rfl) fl_Te_25 (by assumption) (show up1 (mI M) (a + 3) _ a 4 = nI L.length by rw [up1_ne (by omega)]; exact h4) ?_
      refine wp_bipush (v := nI 6) (by decide) (ck_get kk_Te_takeSample 69 rfl) ?_
      first | refine wp_icmp_leN (t := 136) (ck_get kk_Te_takeSample 70 rfl) (by decide) (by omega) (by omega) (fun hc128 => ?_) (fun hc128 => ?_) | refine wp_icmp_le (t := 136) (ck_get kk_Te_takeSample 70 rfl) (by decide) (fun hc128 => ?_) (fun hc128 => ?_)
      · refine wp_return (ck_get kk_Te_takeSample 74 rfl) rfl ⟨rfl, ?_⟩
        rw [if_neg hc83] at hlen hsh
        have e1 : smp2 (smp1 L k) s = smp1 L k := if_pos (by omega)
        have e2 : lim2 (smp1 L k) s lim = lim := if_pos (by omega)
        rw [e1, e2, hlen]
        refine ⟨_, fun j hj => hsh j (by rw [hlen]; exact hj), ?_⟩
        refine congrArg (fun I => mk2 M I J1) ?_
        rw [up1_id (show up1 (mI M a) 5 (nI lim) 4 = nI L.length from (up1_ne (by omega)).trans h4), up1_id h5, up1_self]
      · omega
  · refine wp_aload_n rfl (ck_get kk_Te_takeSample 47 rfl) ?_
    refine wp_dup rfl (ck_get kk_Te_takeSample 48 rfl) ?_
    refine wp_getIv (v := nI L.length) (ck_get kk_Te_takeSample 49 rfl) fl_Te_25 (by assumption) (h4) ?_
    refine wp_iconst (v := nI 1) (by decide) (ck_get kk_Te_takeSample 50 rfl) ?_
    first | refine wp_iaddN (ck_get kk_Te_takeSample 51 rfl) ?_ | refine wp_iadd (ck_get kk_Te_takeSample 51 rfl) ?_
    refine wp_putI (ck_get kk_Te_takeSample 52 rfl) fl_Te_25 (by decide +kernel) (by assumption) (okI_int _) ?_
    refine wp_aload_n rfl (ck_get kk_Te_takeSample 53 rfl) ?_
    refine wp_getR (ck_get kk_Te_takeSample 54 rfl) fl_Te_22 (by assumption) (by assumption) ?_
    refine wp_iload rfl (ck_get kk_Te_takeSample 55 rfl) ?_
    first | refine wp_if_leN (t := 112) (ck_get kk_Te_takeSample 56 rfl) (by decide) (by omega) (fun hc102 => ?_) (fun hc102 => ?_) | refine wp_if_le (t := 112) (ck_get kk_Te_takeSample 56 rfl) (by decide) (fun hc102 => ?_) (fun hc102 => ?_)
    · refine wp_aload_n rfl (ck_get kk_Te_takeSample 61 rfl) ?_
      refine wp_getIv (v := nI (L.length + 1)) (ck_get kk_Te_takeSample 62 rfl) fl_Te_25 (by assumption) (by rw [mI_sI, if_pos ⟨rfl, rfl⟩]) ?_
      refine wp_iconst (v := nI 1) (by decide) (ck_get kk_Te_takeSample 63 rfl) ?_
      first | refine wp_isubN (ck_get kk_Te_takeSample 64 rfl) (by omega) ?_ | refine wp_isub (ck_get kk_Te_takeSample 64 rfl) ?_
      refine wp_iload_n rfl (ck_get kk_Te_takeSample 65 rfl) ?_
      refine wp_cSN3v (ck_get kk_Te_takeSample 66 rfl) ml_Te_51 (by omega) (Nat.le_of_ble_eq_true rfl) (Cv.to (c_putFirst (len := 7) t3 (by omega) (by decide)) ?_)
      rintro M2 rfl
      refine wp_aload_n rfl (ck_get kk_Te_takeSample 67 rfl) ?_
      refine wp_getIv (v := nI (L.length + 1)) (ck_get kk_Te_takeSample 68 rfl) fl_Te_25 (by assumption) (show up1 (up2 (mI M) a 4 (nI (L.length + 1))) (a + 3) _ a 4 = nI (L.length + 1) by rw [up1_ne (by omega), up2_up1, up1_eq, up1_eq]) ?_
      refine wp_bipush (v := nI 6) (by decide) (ck_get kk_Te_takeSample 69 rfl) ?_
      first | refine wp_icmp_leN (t := 136) (ck_get kk_Te_takeSample 70 rfl) (by decide) (by omega) (by omega) (fun hc128 => ?_) (fun hc128 => ?_) | refine wp_icmp_le (t := 136) (ck_get kk_Te_takeSample 70 rfl) (by decide) (fun hc128 => ?_) (fun hc128 => ?_)
      · refine wp_return (ck_get kk_Te_takeSample 74 rfl) rfl ⟨rfl, ?_⟩
        rw [if_pos hc83] at hlen hsh
        have e1 : smp2 (smp1 L k) s = smp1 L k := if_pos (by omega)
        have e2 : lim2 (smp1 L k) s lim = lim := if_pos (by omega)
        rw [e1, e2, hlen]
        refine ⟨_, fun j hj => hsh j (by rw [hlen]; exact hj), ?_⟩
        refine congrArg (fun I => mk2 M I J1) ?_
        show up1 (up2 (mI M) a 4 (nI (L.length + 1))) (a + 3) (shf (up2 (mI M) a 4 (nI (L.length + 1)) (a + 3)) (L.length + 1 - 1) (nI k)) = _
        rw [up1_id h5, up2_up1, up1_ne (show a + 3 ≠ a by omega)]
        rfl
      · refine wp_aload_n rfl (ck_get kk_Te_takeSample 71 rfl) ?_
        refine wp_iload_n rfl (ck_get kk_Te_takeSample 72 rfl) ?_
        rw [if_pos hc83] at hlen hsh
        have hx : 6 < (smp1 L k).length := by omega
        refine wp_cV1v (ck_get kk_Te_takeSample 73 rfl) ml_Te_61 (by omega) (Nat.le_of_ble_eq_true rfl) (by assumption) (Cv.to (c_lowerLimit (L := smp1 L k) (s := s) hA0 (show up1 (up2 (mI M) a 4 (nI (L.length + 1))) (a + 3) _ a 4 = nI (smp1 L k).length by rw [up1_ne (by omega), up2_up1, up1_eq, up1_eq, hlen]) (by omega) (fun i hi => show up1 (up2 (mI M) a 4 (nI (L.length + 1))) (a + 3) _ (a + 3) i = _ by rw [up1_eq]; show shf (up2 (mI M) a 4 (nI (L.length + 1)) (a + 3)) (L.length + 1 - 1) (nI k) i = _; rw [up2_up1, up1_ne (show a + 3 ≠ a by omega)]; exact hsh i hi) (smp1_keys hkk hk) hs) ?_)
        rintro M2 ⟨f3, h3, e3⟩
        refine wp_return (ck_get kk_Te_takeSample 74 rfl) rfl ⟨rfl, ?_⟩
        have e1 : smp2 (smp1 L k) s = stayL (smp1 L k) s (mxF (smp1 L k) s (smp1 L k).length) := if_neg (by omega)
        have e2 : lim2 (smp1 L k) s lim = mxF (smp1 L k) s (smp1 L k).length := if_neg (by omega)
        rw [e1, e2]
        refine ⟨f3, h3, e3.trans ?_⟩
        refine congrArg (fun I => mk2 M I J1) ?_
        show up1 (up1 (up1 (up2 (mI M) a 4 (nI (L.length + 1))) (a + 3) _) a (up1 (up1 ((up1 (up2 (mI M) a 4 (nI (L.length + 1))) (a + 3) _) a) 5 _) 4 _)) (a + 3) f3 = _
        rw [up1_ne (show a ≠ a + 3 by omega), up2_up1, up1_eq, up1_comm _ (show a + 3 ≠ a by omega), up1_up1, up1_up1]
        congr 2
        rw [up1_comm (mI M a) (show 4 ≠ 5 by omega), up1_up1]
    · exact absurd hc83 hc102
theorem c_takeSample {k s lim : Nat} {cost : Int32} {L : List Nat} (hA : TeAt (mT M) (mR M) a) (h4 : mI M a 4 = nI L.length) (hL : L.length ≤ 6) (hf : ∀ i, i < L.length → mI M (a + 3) i = nI (L.getD i 0)) (hk : ∀ x ∈ L, x < 1000) (h5 : mI M a 5 = nI lim) (hl : lim ≤ 1000) (hkk : k < 1000) (hs : s < 1000) :
    Cv g Y_Te_takeSample 2 [.ref a, .int (nI k), .int cost, .int (nI s)] M (fun M2 => (¬ hsh k s < lim ∧ M2 = M) ∨ (hsh k s < lim ∧ ∃ f3 : Nat → Int32, (∀ j, j < (smp2 (smp1 L k) s).length → f3 j = nI ((smp2 (smp1 L k) s).getD j 0)) ∧ M2 = mk2 M (up1 (up1 (mI M) a (up1 (up1 (mI M a) 5 (nI (lim2 (smp1 L k) s lim))) 4 (nI (smp2 (smp1 L k) s).length))) (a + 3) f3) (up1 (mJ M) (a + 4) (up1 (mJ M (a + 4)) (ptX (posL L k) lim) (mJ M (a + 4) (ptX (posL L k) lim) + ptV cost lim))))) := by
  have hA0 := hA
  obtain ⟨t0, r0, r2, r3, r6, r7, t1, t2, t3, t4, t5⟩ := hA
  have hq := @posL_le L k
  have hh := hsh_lt k s
  refine cw_entry 2 pf_Te_takeSample rfl ?_
  refine wp_aload_n rfl (ck_get kk_Te_takeSample 0 rfl) ?_
  refine wp_getIv (v := nI lim) (ck_get kk_Te_takeSample 1 rfl) fl_Te_28 (by assumption) (h5) ?_
  refine wp_iconst (v := nI 1) (by decide) (ck_get kk_Te_takeSample 2 rfl) ?_
  first | refine wp_icmp_ltN (t := 20) (ck_get kk_Te_takeSample 3 rfl) (by decide) (by omega) (by omega) (fun hc5 => ?_) (fun hc5 => ?_) | refine wp_icmp_lt (t := 20) (ck_get kk_Te_takeSample 3 rfl) (by decide) (fun hc5 => ?_) (fun hc5 => ?_)
  · refine wp_return (ck_get kk_Te_takeSample 10 rfl) rfl ⟨rfl, ?_⟩
    exact Or.inl ⟨by omega, rfl⟩
  · refine wp_iload_n rfl (ck_get kk_Te_takeSample 4 rfl) ?_
    refine wp_iload_n rfl (ck_get kk_Te_takeSample 5 rfl) ?_
    refine wp_cSN2i (ck_get kk_Te_takeSample 6 rfl) ml_Te_55 (by omega) (Nat.le_of_ble_eq_true rfl) (Ci.to (c_hashOf hkk hs) ?_)
    rintro _ M1 ⟨rfl, e1⟩
    obtain rfl := e1.symm
    refine wp_aload_n rfl (ck_get kk_Te_takeSample 7 rfl) ?_
    refine wp_getIv (v := nI lim) (ck_get kk_Te_takeSample 8 rfl) fl_Te_28 (by assumption) (h5) ?_
    first | refine wp_icmp_ltN (t := 21) (ck_get kk_Te_takeSample 9 rfl) (by decide) (by omega) (by omega) (fun hc17 => ?_) (fun hc17 => ?_) | refine wp_icmp_lt (t := 21) (ck_get kk_Te_takeSample 9 rfl) (by decide) (fun hc17 => ?_) (fun hc17 => ?_)
    · refine wp_aload_n rfl (ck_get kk_Te_takeSample 11 rfl) ?_
      refine wp_getR (ck_get kk_Te_takeSample 12 rfl) fl_Te_22 (by assumption) (by assumption) ?_
      refine wp_aload_n rfl (ck_get kk_Te_takeSample 13 rfl) ?_
      refine wp_getIv (v := nI L.length) (ck_get kk_Te_takeSample 14 rfl) fl_Te_25 (by assumption) (h4) ?_
      refine wp_iload_n rfl (ck_get kk_Te_takeSample 15 rfl) ?_
      refine wp_cSN3i (ck_get kk_Te_takeSample 16 rfl) ml_Te_47 (by omega) (Nat.le_of_ble_eq_true rfl) (Ci.to (c_placeIn (len := 7) t3 (by omega) (by decide)) ?_)
      rintro x4 M4 ⟨e4, e5⟩
      obtain rfl := e5.symm
      replace e4 : x4 = nI (posL L k) := e4.trans (congrArg nI (fnd_congr (f2 := fun i => nI (L.getD i 0)) hf))
      subst e4
      have hdv : posL L k * 1000 / lim < 2147483648 := Nat.lt_of_le_of_lt (Nat.div_le_self _ _) (by omega)
      refine wp_istore (ck_get kk_Te_takeSample 17 rfl) (by decide) rfl ?_
      refine wp_iload rfl (ck_get kk_Te_takeSample 18 rfl) ?_
      refine wp_sipush (v := nI 1000) (by decide) (ck_get kk_Te_takeSample 19 rfl) ?_
      first | refine wp_imulN (ck_get kk_Te_takeSample 20 rfl) ?_ | refine wp_imul (ck_get kk_Te_takeSample 20 rfl) ?_
      refine wp_aload_n rfl (ck_get kk_Te_takeSample 21 rfl) ?_
      refine wp_getIv (v := nI lim) (ck_get kk_Te_takeSample 22 rfl) fl_Te_28 (by assumption) (h5) ?_
      first | refine wp_idivN (ck_get kk_Te_takeSample 23 rfl) (by omega) (by omega) (by omega) ?_ | refine wp_idiv (by decide) (ck_get kk_Te_takeSample 23 rfl) ?_
      refine wp_istore (ck_get kk_Te_takeSample 24 rfl) (by decide) rfl ?_
      refine wp_aload_n rfl (ck_get kk_Te_takeSample 25 rfl) ?_
      refine wp_getR (ck_get kk_Te_takeSample 26 rfl) fl_Te_31 (by assumption) (by assumption) ?_
      refine wp_iload rfl (ck_get kk_Te_takeSample 27 rfl) ?_
      refine wp_bipush (v := nI 24) (by decide) (ck_get kk_Te_takeSample 28 rfl) ?_
      first | refine wp_icmp_leN (t := 63) (ck_get kk_Te_takeSample 29 rfl) (by decide) (by omega) (by omega) (fun hc56 => ?_) (fun hc56 => ?_) | refine wp_icmp_le (t := 63) (ck_get kk_Te_takeSample 29 rfl) (by decide) (fun hc56 => ?_) (fun hc56 => ?_)
      · refine wp_iload rfl (ck_get kk_Te_takeSample 32 rfl) ?_
        first | refine wp_dup2l rfl (ck_get kk_Te_takeSample 33 rfl) ?_ | refine wp_dup2 rfl rfl (ck_get kk_Te_takeSample 33 rfl) ?_
        refine wp_lald (ck_get kk_Te_takeSample 34 rfl) (by assumption) (by first | assumption | exact ixk_nI (by omega) (by omega)) ?_
        refine wp_ldc2 kl_Te_59 (ck_get kk_Te_takeSample 35 rfl) ?_
        refine wp_iload_n rfl (ck_get kk_Te_takeSample 36 rfl) ?_
        refine wp_i2l (ck_get kk_Te_takeSample 37 rfl) ?_
        refine wp_lmul (ck_get kk_Te_takeSample 38 rfl) ?_
        refine wp_aload_n rfl (ck_get kk_Te_takeSample 39 rfl) ?_
        refine wp_getIv (v := nI lim) (ck_get kk_Te_takeSample 40 rfl) fl_Te_28 (by assumption) (h5) ?_
        refine wp_i2l (ck_get kk_Te_takeSample 41 rfl) ?_
        refine wp_ldiv (nIl_ne0 (by omega) (by omega)) (ck_get kk_Te_takeSample 42 rfl) ?_
        refine wp_ladd (ck_get kk_Te_takeSample 43 rfl) ?_
        refine wp_last (ck_get kk_Te_takeSample 44 rfl) (by assumption) (by first | assumption | exact ixk_nI (by omega) (by omega)) ?_
        refine (l_take2 hA0 h4 hL hf hk h5 hkk hs).mono (fun r M2 ⟨e1, f3, h3, e2⟩ => ⟨e1, Or.inr ⟨by omega, f3, h3, ?_⟩⟩)
        have e6 : ptX (posL L k) lim = posL L k * 1000 / lim := if_neg (by omega)
        rw [e6, e2, up2_up1]
        rfl
      · refine wp_iconst (v := nI 0) (by decide) (ck_get kk_Te_takeSample 30 rfl) ?_
        refine wp_goto (t := 65) (ck_get kk_Te_takeSample 31 rfl) (by decide) ?_
        first | refine wp_dup2l rfl (ck_get kk_Te_takeSample 33 rfl) ?_ | refine wp_dup2 rfl rfl (ck_get kk_Te_takeSample 33 rfl) ?_
        refine wp_lald (ck_get kk_Te_takeSample 34 rfl) (by assumption) (by first | assumption | exact ixk_nI (by omega) (by omega)) ?_
        refine wp_ldc2 kl_Te_59 (ck_get kk_Te_takeSample 35 rfl) ?_
        refine wp_iload_n rfl (ck_get kk_Te_takeSample 36 rfl) ?_
        refine wp_i2l (ck_get kk_Te_takeSample 37 rfl) ?_
        refine wp_lmul (ck_get kk_Te_takeSample 38 rfl) ?_
        refine wp_aload_n rfl (ck_get kk_Te_takeSample 39 rfl) ?_
        refine wp_getIv (v := nI lim) (ck_get kk_Te_takeSample 40 rfl) fl_Te_28 (by assumption) (h5) ?_
        refine wp_i2l (ck_get kk_Te_takeSample 41 rfl) ?_
        refine wp_ldiv (nIl_ne0 (by omega) (by omega)) (ck_get kk_Te_takeSample 42 rfl) ?_
        refine wp_ladd (ck_get kk_Te_takeSample 43 rfl) ?_
        refine wp_last (ck_get kk_Te_takeSample 44 rfl) (by assumption) (by first | assumption | exact ixk_nI (by omega) (by omega)) ?_
        refine (l_take2 hA0 h4 hL hf hk h5 hkk hs).mono (fun r M2 ⟨e1, f3, h3, e2⟩ => ⟨e1, Or.inr ⟨by omega, f3, h3, ?_⟩⟩)
        have e6 : ptX (posL L k) lim = 0 := if_pos (by omega)
        rw [e6, e2, up2_up1]
        rfl
    · refine wp_return (ck_get kk_Te_takeSample 10 rfl) rfl ⟨rfl, ?_⟩
      exact Or.inl ⟨by omega, rfl⟩
end SA

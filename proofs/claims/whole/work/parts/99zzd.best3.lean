/-! ===== best: the class deals ===== -/
section BEU
variable {g : Gl} {M : Mem}
theorem c_dealBest {m : Nat → Nat → Nat} {s0 : Nat → Nat} {f a s dl : Nat → Int32} {z : Nat} (hDe : DeAt (mT M) (mR M) 952) (hm : ∀ t c, t < 4 → c < 25 → m t c ≤ s0 t) (hs : sfx s0 4 < 1000000000) (hf : ∀ t c, t < 4 → c < 25 → f (25 * t + c) = nI (m t c)) (hz : z ≤ 48) (h0 : ∀ k, 196 ≤ k → k < 245 → a k = nI 0) :
    Ci g Y_De_dealBest 2 [.ref 952, .int (nI z)] (deM M f a s dl) (fun x M2 => x = nI (bstT m 4 z).2 ∧ ∃ a2 s2 d2, M2 = deM M f a2 s2 d2 ∧ (∀ k, 196 ≤ k → k < 245 → a2 k = nI 0) ∧ ∀ u, u < 4 → d2 u = nI (vS m u (lfT m z u))) := by
  have hDe0 := hDe
  obtain ⟨t952, r0, t953, -, -, -, -, -, -, r4, t957, r5, t958⟩ := hDe
  have r0' : mR M 952 0 = some 953 := r0
  have r4' : mR M 952 4 = some 957 := r4
  have r5' : mR M 952 5 = some 958 := r5
  have t953' : mT M 953 = (20, 4) := t953
  have t957' : mT M 957 = (20, 245) := t957
  have t958' : mT M 958 = (20, 196) := t958
  have hin : ∀ {Q : Option Value → Mem → Prop} (t d lo : Nat), t + d = 3 → ∀ e j (a s : Nat → Int32), j + e = z + 1 → lo ≤ j → (∀ k, 196 ≤ k → k < 245 → a k = nI 0) → DpX (vA m) a (fun u l => (t < u ∧ l ≤ z) ∨ (u = t ∧ lo ≤ l ∧ l < j)) → DpX (vS m) s (fun u l => (t < u ∧ l ≤ z) ∨ (u = t ∧ lo ≤ l ∧ l < j)) → (∀ a s, (∀ k, 196 ≤ k → k < 245 → a k = nI 0) → DpX (vA m) a (fun u l => (t < u ∧ l ≤ z) ∨ (u = t ∧ lo ≤ l ∧ l ≤ z)) → DpX (vS m) s (fun u l => (t < u ∧ l ≤ z) ∨ (u = t ∧ lo ≤ l ∧ l ≤ z)) → Wp g Y_De_dealBest 2 33 [some (.ref 952), some (.int (nI z)), some (.int (nI t)), some (.int (nI (z + 1)))] [] (deM M f a s dl) Q) → Wp g Y_De_dealBest 2 16 [some (.ref 952), some (.int (nI z)), some (.int (nI t)), some (.int (nI j))] [] (deM M f a s dl) Q := by
    intro Q t d lo hd e
    induction e with
    | zero =>
      intro j a s h1 hlo h0 hA hS K
      obtain rfl : j = z + 1 := by omega
      refine wp_iload_n rfl (ck_get kk_De_dealBest 10 rfl) ?_
      refine wp_iload_n rfl (ck_get kk_De_dealBest 11 rfl) ?_
      first | refine wp_icmp_gtN (t := 33) (ck_get kk_De_dealBest 12 rfl) (by decide) (by omega) (by omega) (fun hc18 => ?_) (fun hc18 => ?_) | refine wp_icmp_gt (t := 33) (ck_get kk_De_dealBest 12 rfl) (by decide) (fun hc18 => ?_) (fun hc18 => ?_)
      · exact K a s h0 (hA.to (fun u l p => by omega)) (hS.to (fun u l p => by omega))
      · omega
    | succ e ih =>
      intro j a s h1 hlo h0 hA hS K
      have hrow := hA.row hd (fun i hi => h0 (196 + i) (by omega) (by omega)) (l := j) (by omega) (fun i hi => by omega)
      refine wp_iload_n rfl (ck_get kk_De_dealBest 10 rfl) ?_
      refine wp_iload_n rfl (ck_get kk_De_dealBest 11 rfl) ?_
      first | refine wp_icmp_gtN (t := 33) (ck_get kk_De_dealBest 12 rfl) (by decide) (by omega) (by omega) (fun hc18 => ?_) (fun hc18 => ?_) | refine wp_icmp_gt (t := 33) (ck_get kk_De_dealBest 12 rfl) (by decide) (fun hc18 => ?_) (fun hc18 => ?_)
      · omega
      · refine wp_aload_n rfl (ck_get kk_De_dealBest 13 rfl) ?_
        refine wp_iload_n rfl (ck_get kk_De_dealBest 14 rfl) ?_
        refine wp_iload_n rfl (ck_get kk_De_dealBest 15 rfl) ?_
        refine wp_cV2v (ck_get kk_De_dealBest 16 rfl) ml_De_59 (by omega) (Nat.le_of_ble_eq_true rfl) (by assumption) (Cv.to (c_choose (l := j) hDe0 hm hs (fun c hc => hf t c (by omega) hc) hd (by omega) hrow) ?_)
        rintro M1 w1
        subst w1
        first | refine wp_iincN (ck_get kk_De_dealBest 17 rfl) rfl (by decide) rfl ?_ | refine wp_iinc (ck_get kk_De_dealBest 17 rfl) rfl (by decide) rfl ?_
        refine wp_goto (t := 16) (ck_get kk_De_dealBest 18 rfl) (by decide) ?_
        have e1 : bstT m (d + 1) j = bstT m (4 - t) j := by rw [show 4 - t = d + 1 by omega]
        rw [e1]
        refine ih (j + 1) _ _ (by omega) (by omega) (fun k k1 k2 => ?_) (hA.put (by omega) (by omega) (fun u l p => by omega)) (hS.put (by omega) (by omega) (fun u l p => by omega)) K
        rw [up1_ne (by omega)]; exact h0 k k1 k2
  have hfin : ∀ (a s : Nat → Int32), (∀ k, 196 ≤ k → k < 245 → a k = nI 0) → DpX (vA m) a (fun u l => (0 < u ∧ l ≤ z) ∨ (u = 0 ∧ z ≤ l ∧ l ≤ z)) → DpX (vS m) s (fun u l => (0 < u ∧ l ≤ z) ∨ (u = 0 ∧ z ≤ l ∧ l ≤ z)) → ∀ e t dl, t + e = 4 → (∀ u, u < t → dl u = nI (vS m u (lfT m z u))) → Wp g Y_De_dealBest 2 43 [some (.ref 952), some (.int (nI z)), some (.int (nI (lfT m z t))), some (.int (nI t))] [] (deM M f a s dl) (fun r M2 => ∃ x, r = some (.int x) ∧ x = nI (bstT m 4 z).2 ∧ ∃ a2 s2 d2, M2 = deM M f a2 s2 d2 ∧ (∀ k, 196 ≤ k → k < 245 → a2 k = nI 0) ∧ ∀ u, u < 4 → d2 u = nI (vS m u (lfT m z u))) := by
    intro a s h0 hA hS e
    induction e with
    | zero =>
      intro t dl h1 hd
      obtain rfl : t = 4 := by omega
      have hv : mI (deM M f a s dl) 957 z = nI (bstT m 4 z).2 := by
        rw [de_a]
        have := hA 0 z (by omega) hz (by omega)
        rw [Nat.mul_zero, Nat.zero_add] at this
        exact this
      refine wp_iload_n rfl (ck_get kk_De_dealBest 25 rfl) ?_
      refine wp_iconst (v := nI 4) (by decide) (ck_get kk_De_dealBest 26 rfl) ?_
      first | refine wp_icmp_geN (t := 80) (ck_get kk_De_dealBest 27 rfl) (by decide) (by omega) (by omega) (fun hc45 => ?_) (fun hc45 => ?_) | refine wp_icmp_ge (t := 80) (ck_get kk_De_dealBest 27 rfl) (by decide) (fun hc45 => ?_) (fun hc45 => ?_)
      · refine wp_aload_n rfl (ck_get kk_De_dealBest 49 rfl) ?_
        refine wp_getR (ck_get kk_De_dealBest 50 rfl) fl_De_25 (by assumption) (by assumption) ?_
        refine wp_iload_n rfl (ck_get kk_De_dealBest 51 rfl) ?_
        refine wp_ialdv (v := nI (bstT m 4 z).2) (ck_get kk_De_dealBest 52 rfl) (by assumption) (ixk_nI (k := z) (by omega) (by omega)) (hv) ?_
        refine wp_ireturn (ck_get kk_De_dealBest 53 rfl) rfl rfl ⟨_, rfl, ?_⟩
        exact ⟨rfl, a, s, dl, rfl, h0, hd⟩
      · omega
    | succ e ih =>
      intro t dl h1 hd
      have hl := lfT_le (m := m) (z := z) t
      have hb : vS m t (lfT m z t) ≤ min 24 (lfT m z t) := bst_1
      have hv : mI (deM M f a s dl) 958 (t * 49 + lfT m z t) = nI (vS m t (lfT m z t)) := by
        rw [de_s, Nat.mul_comm]
        refine hS t _ (by omega) (by omega) ?_
        by_cases e : t = 0
        · subst e; exact Or.inr ⟨rfl, Nat.le_refl _, Nat.le_refl _⟩
        · omega
      refine wp_iload_n rfl (ck_get kk_De_dealBest 25 rfl) ?_
      refine wp_iconst (v := nI 4) (by decide) (ck_get kk_De_dealBest 26 rfl) ?_
      first | refine wp_icmp_geN (t := 80) (ck_get kk_De_dealBest 27 rfl) (by decide) (by omega) (by omega) (fun hc45 => ?_) (fun hc45 => ?_) | refine wp_icmp_ge (t := 80) (ck_get kk_De_dealBest 27 rfl) (by decide) (fun hc45 => ?_) (fun hc45 => ?_)
      · omega
      · refine wp_aload_n rfl (ck_get kk_De_dealBest 28 rfl) ?_
        refine wp_getR (ck_get kk_De_dealBest 29 rfl) fl_De_9 (by assumption) (by assumption) ?_
        refine wp_iload_n rfl (ck_get kk_De_dealBest 30 rfl) ?_
        refine wp_aload_n rfl (ck_get kk_De_dealBest 31 rfl) ?_
        refine wp_getR (ck_get kk_De_dealBest 32 rfl) fl_De_28 (by assumption) (by assumption) ?_
        refine wp_iload_n rfl (ck_get kk_De_dealBest 33 rfl) ?_
        refine wp_bipush (v := nI 49) (by decide) (ck_get kk_De_dealBest 34 rfl) ?_
        first | refine wp_imulN (ck_get kk_De_dealBest 35 rfl) ?_ | refine wp_imul (ck_get kk_De_dealBest 35 rfl) ?_
        refine wp_iload_n rfl (ck_get kk_De_dealBest 36 rfl) ?_
        first | refine wp_iaddN (ck_get kk_De_dealBest 37 rfl) ?_ | refine wp_iadd (ck_get kk_De_dealBest 37 rfl) ?_
        refine wp_ialdv (v := nI (vS m t (lfT m z t))) (ck_get kk_De_dealBest 38 rfl) (by assumption) (ixk_nI (k := t * 49 + lfT m z t) (by omega) (by omega)) (hv) ?_
        refine wp_iast (ck_get kk_De_dealBest 39 rfl) (by assumption) (ixk_nI (k := t) (by omega) (by omega)) ?_
        rw [de_sd]
        refine wp_iload_n rfl (ck_get kk_De_dealBest 40 rfl) ?_
        refine wp_aload_n rfl (ck_get kk_De_dealBest 41 rfl) ?_
        refine wp_getR (ck_get kk_De_dealBest 42 rfl) fl_De_9 (by assumption) (by assumption) ?_
        refine wp_iload_n rfl (ck_get kk_De_dealBest 43 rfl) ?_
        refine wp_ialdv (v := nI (vS m t (lfT m z t))) (ck_get kk_De_dealBest 44 rfl) (by assumption) (ixk_nI (k := t) (by omega) (by omega)) ((by rw [de_d, up1_eq])) ?_
        first | refine wp_isubN (ck_get kk_De_dealBest 45 rfl) (by omega) ?_ | refine wp_isub (ck_get kk_De_dealBest 45 rfl) ?_
        refine wp_istore_n (ck_get kk_De_dealBest 46 rfl) (by decide) rfl ?_
        first | refine wp_iincN (ck_get kk_De_dealBest 47 rfl) rfl (by decide) rfl ?_ | refine wp_iinc (ck_get kk_De_dealBest 47 rfl) rfl (by decide) rfl ?_
        refine wp_goto (t := 43) (ck_get kk_De_dealBest 48 rfl) (by decide) ?_
        refine ih (t + 1) _ (by omega) (fun u hu => ?_)
        by_cases e : u = t
        · subst e; rw [up1_eq]
        · rw [up1_ne e]; exact hd u (by omega)
  have hout : ∀ t d (a s : Nat → Int32) (x3 : Option Value), t + d = 3 → (∀ k, 196 ≤ k → k < 245 → a k = nI 0) → DpX (vA m) a (fun u l => t < u ∧ l ≤ z) → DpX (vS m) s (fun u l => t < u ∧ l ≤ z) → Wp g Y_De_dealBest 2 2 [some (.ref 952), some (.int (nI z)), some (.int (nI t)), x3] [] (deM M f a s dl) (fun r M2 => ∃ x, r = some (.int x) ∧ x = nI (bstT m 4 z).2 ∧ ∃ a2 s2 d2, M2 = deM M f a2 s2 d2 ∧ (∀ k, 196 ≤ k → k < 245 → a2 k = nI 0) ∧ ∀ u, u < 4 → d2 u = nI (vS m u (lfT m z u))) := by
    intro t
    induction t with
    | zero =>
      intro d a s x3 hd h0 hA hS
      refine wp_iload_n rfl (ck_get kk_De_dealBest 2 rfl) ?_
      first | refine wp_if_ltN (t := 39) (ck_get kk_De_dealBest 3 rfl) (by decide) (by omega) (fun hc3 => ?_) (fun hc3 => ?_) | refine wp_if_lt (t := 39) (ck_get kk_De_dealBest 3 rfl) (by decide) (fun hc3 => ?_) (fun hc3 => ?_)
      · exact hc3.elim
      · refine wp_iload_n rfl (ck_get kk_De_dealBest 4 rfl) ?_
        first | refine wp_if_neN (t := 14) (ck_get kk_De_dealBest 5 rfl) (by decide) (by omega) (fun hc7 => ?_) (fun hc7 => ?_) | refine wp_if_ne (t := 14) (ck_get kk_De_dealBest 5 rfl) (by decide) (fun hc7 => ?_) (fun hc7 => ?_)
        · omega
        · refine wp_iload_n rfl (ck_get kk_De_dealBest 6 rfl) ?_
          refine wp_goto (t := 15) (ck_get kk_De_dealBest 7 rfl) (by decide) ?_
          refine wp_istore_n (ck_get kk_De_dealBest 9 rfl) (by decide) rfl ?_
          refine hin 0 d z hd 1 z a s (by omega) (by omega) h0 (hA.to (fun u l p => by omega)) (hS.to (fun u l p => by omega)) (fun a s h0 hA hS => ?_)
          first | refine wp_iincD (ck_get kk_De_dealBest 19 rfl) rfl (by decide) rfl ?_ | refine wp_iinc (ck_get kk_De_dealBest 19 rfl) rfl (by decide) rfl ?_
          refine wp_goto (t := 2) (ck_get kk_De_dealBest 20 rfl) (by decide) ?_
          skip
          refine wp_iload_n rfl (ck_get kk_De_dealBest 2 rfl) ?_
          refine wp_if_lt (t := 39) (ck_get kk_De_dealBest 3 rfl) (by decide) (fun hc3 => ?_) (fun hc3 => ?_)
          · refine wp_iload_n rfl (ck_get kk_De_dealBest 21 rfl) ?_
            refine wp_istore_n (ck_get kk_De_dealBest 22 rfl) (by decide) rfl ?_
            refine wp_iconst (v := nI 0) (by decide) (ck_get kk_De_dealBest 23 rfl) ?_
            refine wp_istore_n (ck_get kk_De_dealBest 24 rfl) (by decide) rfl ?_
            exact hfin a s h0 hA hS 4 0 dl (by omega) (fun u hu => by omega)
          · exact absurd (by decide) hc3
    | succ t ih =>
      intro d a s x3 hd h0 hA hS
      refine wp_iload_n rfl (ck_get kk_De_dealBest 2 rfl) ?_
      first | refine wp_if_ltN (t := 39) (ck_get kk_De_dealBest 3 rfl) (by decide) (by omega) (fun hc3 => ?_) (fun hc3 => ?_) | refine wp_if_lt (t := 39) (ck_get kk_De_dealBest 3 rfl) (by decide) (fun hc3 => ?_) (fun hc3 => ?_)
      · exact hc3.elim
      · refine wp_iload_n rfl (ck_get kk_De_dealBest 4 rfl) ?_
        first | refine wp_if_neN (t := 14) (ck_get kk_De_dealBest 5 rfl) (by decide) (by omega) (fun hc7 => ?_) (fun hc7 => ?_) | refine wp_if_ne (t := 14) (ck_get kk_De_dealBest 5 rfl) (by decide) (fun hc7 => ?_) (fun hc7 => ?_)
        · refine wp_iconst (v := nI 0) (by decide) (ck_get kk_De_dealBest 8 rfl) ?_
          refine wp_istore_n (ck_get kk_De_dealBest 9 rfl) (by decide) rfl ?_
          refine hin (t + 1) d 0 hd (z + 1) 0 a s (by omega) (by omega) h0 (hA.to (fun u l p => by omega)) (hS.to (fun u l p => by omega)) (fun a s h0 hA hS => ?_)
          first | refine wp_iincD (ck_get kk_De_dealBest 19 rfl) rfl (by decide) rfl ?_ | refine wp_iinc (ck_get kk_De_dealBest 19 rfl) rfl (by decide) rfl ?_
          refine wp_goto (t := 2) (ck_get kk_De_dealBest 20 rfl) (by decide) ?_
          exact ih (d + 1) a s _ (by omega) h0 (hA.to (fun u l p => by omega)) (hS.to (fun u l p => by omega))
        · omega
  refine cw_entry 2 pf_De_dealBest rfl ?_
  refine wp_iconst (v := nI 3) (by decide) (ck_get kk_De_dealBest 0 rfl) ?_
  refine wp_istore_n (ck_get kk_De_dealBest 1 rfl) (by decide) rfl ?_
  exact hout 3 0 a s none (by omega) h0 (fun u l hu hl hp => by omega) (fun u l hu hl hp => by omega)
end BEU

/-! ===== best: the class ===== -/
section BET
theorem smN_front {f : Nat → Nat} : ∀ k, smN f (k + 1) = f 0 + smN (fun i => f (i + 1)) k
  | 0 => by show 0 + f 0 = f 0 + 0; omega
  | k + 1 => by
    have := smN_front (f := f) k
    show smN f (k + 1) + f (k + 1) = f 0 + (smN (fun i => f (i + 1)) k + f (k + 1))
    omega
theorem msN_s {w : WS} {t c : Nat} (h : c < 24) : msN w t (c + 1) + tCo (w.2 t) (c + 1) = msN w t c := by
  unfold msN
  have e : 24 - c = (24 - (c + 1)) + 1 := by omega
  rw [e, smN_front]
  have e2 : smN (fun i => tCo (w.2 t) (c + 1 + (i + 1))) (24 - (c + 1)) = smN (fun i => tCo (w.2 t) (c + 1 + 1 + i)) (24 - (c + 1)) := smN_congr (fun i _ => by rw [show c + 1 + (i + 1) = c + 1 + 1 + i by omega])
  rw [e2]
  show _ = _ + (tCo (w.2 t) (c + 1) + _)
  omega
/-- a row of misses has these tenants' -/
def MsN (f : Nat → Int32) (w : WS) (P : Nat → Prop) : Prop := ∀ u c, u < 4 → P u → c < 25 → f (25 * u + c) = nI (msN w u c)
variable {g : Gl} {M : Mem}
theorem c_loadM {w : WS} {f a s dl : Nat → Int32} {t : Nat} (hW : WoAt (mT M) (mR M) 2) (hH : WoHas (mI M) (mJ M) 2 w) (hDe : DeAt (mT M) (mR M) 952) (ht : t < 4) (hf : MsN f w (fun u => u < t)) : Cv g Y_De_loadMisses 1 [.ref 952, .int (nI t), .ref (4 + 6 * t)] (deM M f a s dl) (fun M2 => ∃ f2, M2 = deM M f2 a s dl ∧ MsN f2 w (fun u => u < t + 1)) := by
  obtain ⟨t952, -, -, -, -, -, -, r3, t956, -⟩ := hDe
  have r3' : mR M 952 3 = some 956 := r3
  have t956' : mT M 956 = (20, 100) := t956
  have hTA : TeAt (mT M) (mR M) (4 + 6 * t) := (hW.2.2.2 t ht).2
  have tTe := hTA.1
  have rco : mR M (4 + 6 * t) 2 = some (4 + 6 * t + 2) := hTA.2.2.1
  have tco : mT M (4 + 6 * t + 2) = (20, 25) := hTA.2.2.2.2.2.2.2.1
  have hco : ∀ f2 i, i < 25 → mI (deM M f2 a s dl) (4 + 6 * t + 2) i = nI (tCo (w.2 t) i) := fun f2 i hi => (congrFun (de_x (by omega) (by omega)) i).trans ((hH.2 t ht).2.2.1 i hi)
  have hput : ∀ f2 c, c < 25 → MsN f2 w (fun u => u < t) → (∀ i, c < i → i < 25 → f2 (25 * t + i) = nI (msN w t i)) → MsN (up1 f2 (t * 25 + c) (nI (msN w t c))) w (fun u => u < t) ∧ ∀ i, c ≤ i → i < 25 → up1 f2 (t * 25 + c) (nI (msN w t c)) (25 * t + i) = nI (msN w t i) := fun f2 c hc h1 h2 => by
    refine ⟨fun u i hu hp hi => ?_, fun i h3 hi => ?_⟩
    · rw [up1_ne (by omega)]; exact h1 u i hu hp hi
    · by_cases e : i = c
      · subst e; rw [Nat.mul_comm, up1_eq]
      · rw [up1_ne (by omega)]; exact h2 i (by omega) hi
  have hlp : ∀ c f2, c < 25 → MsN f2 w (fun u => u < t) → (∀ i, c < i → i < 25 → f2 (25 * t + i) = nI (msN w t i)) → Wp g Y_De_loadMisses 1 11 [some (.ref 952), some (.int (nI t)), some (.ref (4 + 6 * t)), some (.int (nI (msN w t c))), some (.int (nI c))] [] (deM M f2 a s dl) (fun r M2 => r = none ∧ ∃ f2, M2 = deM M f2 a s dl ∧ MsN f2 w (fun u => u < t + 1)) := by
    intro c
    induction c with
    | zero =>
      intro f2 hc h1 h2
      obtain ⟨p1, p2⟩ := hput f2 0 hc h1 h2
      refine wp_iload rfl (ck_get kk_De_loadMisses 7 rfl) ?_
      first | refine wp_if_ltN (t := 45) (ck_get kk_De_loadMisses 8 rfl) (by decide) (by omega) (fun hc13 => ?_) (fun hc13 => ?_) | refine wp_if_lt (t := 45) (ck_get kk_De_loadMisses 8 rfl) (by decide) (fun hc13 => ?_) (fun hc13 => ?_)
      · exact hc13.elim
      · refine wp_aload_n rfl (ck_get kk_De_loadMisses 9 rfl) ?_
        refine wp_getR (ck_get kk_De_loadMisses 10 rfl) fl_De_22 (by assumption) (by assumption) ?_
        refine wp_iload_n rfl (ck_get kk_De_loadMisses 11 rfl) ?_
        refine wp_bipush (v := nI 25) (by decide) (ck_get kk_De_loadMisses 12 rfl) ?_
        first | refine wp_imulN (ck_get kk_De_loadMisses 13 rfl) ?_ | refine wp_imul (ck_get kk_De_loadMisses 13 rfl) ?_
        refine wp_iload rfl (ck_get kk_De_loadMisses 14 rfl) ?_
        first | refine wp_iaddN (ck_get kk_De_loadMisses 15 rfl) ?_ | refine wp_iadd (ck_get kk_De_loadMisses 15 rfl) ?_
        refine wp_iload_n rfl (ck_get kk_De_loadMisses 16 rfl) ?_
        refine wp_iast (ck_get kk_De_loadMisses 17 rfl) (by assumption) (ixk_nI (k := t * 25 + 0) (by omega) (by omega)) ?_
        rw [de_sf]
        refine wp_iload_n rfl (ck_get kk_De_loadMisses 18 rfl) ?_
        refine wp_aload_n rfl (ck_get kk_De_loadMisses 19 rfl) ?_
        refine wp_getR (ck_get kk_De_loadMisses 20 rfl) fl_De_54 (by assumption) (by assumption) ?_
        refine wp_iload rfl (ck_get kk_De_loadMisses 21 rfl) ?_
        refine wp_ialdv (v := nI (tCo (w.2 t) 0)) (ck_get kk_De_loadMisses 22 rfl) (by assumption) (ixk_nI (k := 0) (by omega) (by omega)) (hco _ _ (by omega)) ?_
        first | refine wp_iaddN (ck_get kk_De_loadMisses 23 rfl) ?_ | refine wp_iadd (ck_get kk_De_loadMisses 23 rfl) ?_
        refine wp_istore_n (ck_get kk_De_loadMisses 24 rfl) (by decide) rfl ?_
        skip
        first | refine wp_iincD (ck_get kk_De_loadMisses 25 rfl) rfl (by decide) rfl ?_ | refine wp_iinc (ck_get kk_De_loadMisses 25 rfl) rfl (by decide) rfl ?_
        refine wp_goto (t := 11) (ck_get kk_De_loadMisses 26 rfl) (by decide) ?_
        skip
        refine wp_iload rfl (ck_get kk_De_loadMisses 7 rfl) ?_
        refine wp_if_lt (t := 45) (ck_get kk_De_loadMisses 8 rfl) (by decide) (fun hc13 => ?_) (fun hc13 => ?_)
        · refine wp_return (ck_get kk_De_loadMisses 27 rfl) rfl ⟨rfl, ?_⟩
          refine ⟨_, rfl, fun u i hu hp hi => ?_⟩
          by_cases e : u = t
          · subst e; exact p2 i (Nat.zero_le _) hi
          · exact p1 u i hu (by omega) hi
        · exact absurd (by decide) hc13
    | succ c ih =>
      intro f2 hc h1 h2
      obtain ⟨p1, p2⟩ := hput f2 (c + 1) hc h1 h2
      have hst := msN_s (w := w) (t := t) (c := c) (by omega)
      refine wp_iload rfl (ck_get kk_De_loadMisses 7 rfl) ?_
      first | refine wp_if_ltN (t := 45) (ck_get kk_De_loadMisses 8 rfl) (by decide) (by omega) (fun hc13 => ?_) (fun hc13 => ?_) | refine wp_if_lt (t := 45) (ck_get kk_De_loadMisses 8 rfl) (by decide) (fun hc13 => ?_) (fun hc13 => ?_)
      · exact hc13.elim
      · refine wp_aload_n rfl (ck_get kk_De_loadMisses 9 rfl) ?_
        refine wp_getR (ck_get kk_De_loadMisses 10 rfl) fl_De_22 (by assumption) (by assumption) ?_
        refine wp_iload_n rfl (ck_get kk_De_loadMisses 11 rfl) ?_
        refine wp_bipush (v := nI 25) (by decide) (ck_get kk_De_loadMisses 12 rfl) ?_
        first | refine wp_imulN (ck_get kk_De_loadMisses 13 rfl) ?_ | refine wp_imul (ck_get kk_De_loadMisses 13 rfl) ?_
        refine wp_iload rfl (ck_get kk_De_loadMisses 14 rfl) ?_
        first | refine wp_iaddN (ck_get kk_De_loadMisses 15 rfl) ?_ | refine wp_iadd (ck_get kk_De_loadMisses 15 rfl) ?_
        refine wp_iload_n rfl (ck_get kk_De_loadMisses 16 rfl) ?_
        refine wp_iast (ck_get kk_De_loadMisses 17 rfl) (by assumption) (ixk_nI (k := t * 25 + (c + 1)) (by omega) (by omega)) ?_
        rw [de_sf]
        refine wp_iload_n rfl (ck_get kk_De_loadMisses 18 rfl) ?_
        refine wp_aload_n rfl (ck_get kk_De_loadMisses 19 rfl) ?_
        refine wp_getR (ck_get kk_De_loadMisses 20 rfl) fl_De_54 (by assumption) (by assumption) ?_
        refine wp_iload rfl (ck_get kk_De_loadMisses 21 rfl) ?_
        refine wp_ialdv (v := nI (tCo (w.2 t) (c + 1))) (ck_get kk_De_loadMisses 22 rfl) (by assumption) (ixk_nI (k := c + 1) (by omega) (by omega)) (hco _ _ (by omega)) ?_
        first | refine wp_iaddN (ck_get kk_De_loadMisses 23 rfl) ?_ | refine wp_iadd (ck_get kk_De_loadMisses 23 rfl) ?_
        rw [hst]
        refine wp_istore_n (ck_get kk_De_loadMisses 24 rfl) (by decide) rfl ?_
        skip
        first | refine wp_iincD (ck_get kk_De_loadMisses 25 rfl) rfl (by decide) rfl ?_ | refine wp_iinc (ck_get kk_De_loadMisses 25 rfl) rfl (by decide) rfl ?_
        refine wp_goto (t := 11) (ck_get kk_De_loadMisses 26 rfl) (by decide) ?_
        exact ih _ (by omega) p1 (fun i h3 hi => p2 i h3 hi)
  refine cw_entry 2 pf_De_loadMisses rfl ?_
  refine wp_aload_n rfl (ck_get kk_De_loadMisses 0 rfl) ?_
  refine wp_getR (ck_get kk_De_loadMisses 1 rfl) fl_De_54 (by assumption) (by assumption) ?_
  refine wp_iconst (v := nI 0) (by decide) (ck_get kk_De_loadMisses 2 rfl) ?_
  refine wp_ialdv (v := nI (tCo (w.2 t) 0)) (ck_get kk_De_loadMisses 3 rfl) (by assumption) (ixk_nI (k := 0) (by omega) (by omega)) (hco _ _ (by omega)) ?_
  refine wp_istore_n (ck_get kk_De_loadMisses 4 rfl) (by decide) rfl ?_
  refine wp_bipush (v := nI 24) (by decide) (ck_get kk_De_loadMisses 5 rfl) ?_
  refine wp_istore (ck_get kk_De_loadMisses 6 rfl) (by decide) rfl ?_
  exact hlp 24 f (by omega) hf (fun i h1 h2 => by omega)
/-- these cells of a table by tenant and what is left have these numbers -/
def DpX (v : Nat → Nat → Nat) (a : Nat → Int32) (P : Nat → Nat → Prop) : Prop := ∀ u l, u < 4 → l ≤ 48 → P u l → a (49 * u + l) = nI (v u l)
theorem DpX.put {v : Nat → Nat → Nat} {a : Nat → Int32} {P P2 : Nat → Nat → Prop} {t j : Nat} (h : DpX v a P) (ht : t < 4) (hj : j ≤ 48) (hP : ∀ u l, P2 u l → P u l ∨ (u = t ∧ l = j)) : DpX v (up1 a (49 * t + j) (nI (v t j))) P2 := fun u l hu hl hp => by
  by_cases e : u = t ∧ l = j
  · obtain ⟨rfl, rfl⟩ := e
    rw [up1_eq]
  · rw [up1_ne (by omega)]
    exact h u l hu hl ((hP u l hp).resolve_right e)
theorem DpX.to {v : Nat → Nat → Nat} {a : Nat → Int32} {P P2 : Nat → Nat → Prop} (h : DpX v a P) (hP : ∀ u l, P2 u l → P u l) : DpX v a P2 := fun u l hu hl hp => h u l hu hl (hP u l hp)
abbrev vA (m : Nat → Nat → Nat) (u l : Nat) : Nat := (bstT m (4 - u) l).2
abbrev vS (m : Nat → Nat → Nat) (u l : Nat) : Nat := (bstT m (4 - u) l).1
theorem DpX.row {m : Nat → Nat → Nat} {a : Nat → Int32} {P : Nat → Nat → Prop} {t d l : Nat} (h : DpX (vA m) a P) (hd : t + d = 3) (hz : ∀ j, j ≤ l → a (196 + j) = nI 0) (hl : l ≤ 48) (hP : ∀ j, j ≤ l → P (t + 1) j) : ∀ j, j ≤ l → a (49 * (t + 1) + j) = nI (bstT m d j).2 := fun j hj => by
  by_cases e : t = 3
  · subst e
    obtain rfl : d = 0 := by omega
    exact hz j hj
  · have := h (t + 1) j (by omega) (by omega) (hP j hj)
    rw [show vA m (t + 1) j = (bstT m d j).2 by show (bstT m (4 - (t + 1)) j).2 = _; rw [show 4 - (t + 1) = d by omega]] at this
    exact this
/-- what is left for a tenant -/
def lfT (m : Nat → Nat → Nat) (z : Nat) : Nat → Nat
  | 0 => z
  | t + 1 => lfT m z t - vS m t (lfT m z t)
theorem lfT_le {m : Nat → Nat → Nat} {z : Nat} : ∀ t, lfT m z t ≤ z
  | 0 => Nat.le_refl _
  | t + 1 => by
    have := lfT_le (m := m) (z := z) t
    show lfT m z t - _ ≤ z
    omega
end BET

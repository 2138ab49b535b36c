/-! ===== the model lays misses ===== -/
theorem sumI_front {f : Nat → Int32} {lo : Nat} : ∀ k, sumI f lo (k + 1) = f lo + sumI f (lo + 1) k
  | 0 => by show (0 : Int32) + f (lo + 0) = f lo + 0; rw [Int32.zero_add, Int32.add_zero]; rfl
  | k + 1 => by
    show sumI f lo (k + 1) + f (lo + (k + 1)) = f lo + (sumI f (lo + 1) k + f (lo + 1 + k))
    rw [sumI_front k, Int32.add_assoc, show lo + (k + 1) = lo + 1 + k by omega]
theorem msA_24 {f : Nat → Int32} : msA f 24 = f 0 := by
  unfold msA; show f 0 + 0 = f 0; rw [Int32.add_zero]
theorem msA_step {f : Nat → Int32} {c : Nat} (h : c < 24) : msA f c = msA f (c + 1) + f (c + 1) := by
  unfold msA
  rw [show 24 - c = (24 - (c + 1)) + 1 by omega, sumI_front, Int32.add_assoc, Int32.add_comm (f (c + 1))]
section MMI
variable {g : Gl} {M : Mem} {o : Nat}
/-- the model's misses of a tenant, from size c on -/
def lmF (f K : Nat → Int32) (t c : Nat) : Nat → Int32 := fun x => if 25 * t + c ≤ x ∧ x < 25 * t + 25 then msA (fun i => K (92 * t + 25 + i)) (x - 25 * t) else f x
theorem lmF_25 {f K : Nat → Int32} {t : Nat} : lmF f K t 25 = f := by
  funext x; unfold lmF; rw [if_neg (by omega)]
theorem lmF_step {f K : Nat → Int32} {t c : Nat} (h : c < 25) : up1 (lmF f K t (c + 1)) (25 * t + c) (msA (fun i => K (92 * t + 25 + i)) c) = lmF f K t c := by
  funext x
  unfold lmF up1
  by_cases h1 : x = 25 * t + c
  · subst h1; rw [if_pos rfl, if_pos (by omega), Nat.add_sub_cancel_left]
  · rw [if_neg h1]
    by_cases h2 : 25 * t + (c + 1) ≤ x ∧ x < 25 * t + 25
    · dsimp only; rw [if_pos h2, if_pos (by omega)]
    · dsimp only; rw [if_neg h2, if_neg (by omega)]
abbrev lmM (M : Mem) (o t c : Nat) : Mem := mk2 M (up1 (mI M) (o + 20) (lmF (mI M (o + 20)) (mI M (o + 2)) t c)) (mJ M)
theorem lm_s {t c : Nat} (h : c < 25) : sI (lmM M o t (c + 1)) (o + 20) (25 * t + c) (msA (fun i => mI M (o + 2) (92 * t + 25 + i)) c) = lmM M o t c := by
  refine mk2_ext (M := M) ?_ rfl
  show up2 (up1 (mI M) (o + 20) _) (o + 20) _ _ = _
  rw [up2_up1, up1_eq, up1_up1, lmF_step h]
theorem m_laysMisses {t : Nat} (hM : MoAt (mT M) (mR M) o) (ht : t < 4) : Cv g Y_Mo_laysMisses 1 [.ref o, .int (nI t)] M (fun M2 => M2 = lmM M o t 0) := by
  have to0 := hM.1
  have rfkept := MoAt.r hM 1 rfl
  have tfkept := MoAt.t hM 1 rfl
  have rfmissed := MoAt.r hM 19 rfl
  have tfmissed := MoAt.t hM 19 rfl
  have hk : ∀ c i, mI (lmM M o t c) (o + 2) i = mI M (o + 2) i := fun c i => by
    show up1 (mI M) (o + 20) _ (o + 2) i = _
    rw [up1_ne (by omega)]
  have hloop : ∀ c, c < 25 → Wp g Y_Mo_laysMisses 1 15 [some (.ref o), some (.int (nI t)), some (.int (msA (fun i => mI M (o + 2) (92 * t + 25 + i)) c)), some (.int (nI c))] [] (lmM M o t (c + 1)) (fun r M2 => r = none ∧ M2 = lmM M o t 0) := by
    intro c
    induction c with
    | zero =>
      intro hc
      refine wp_iload_n rfl (ck_get kk_Mo_laysMisses 9 rfl) ?_
      first | refine wp_if_ltN (t := 61) (ck_get kk_Mo_laysMisses 10 rfl) (by decide) (by omega) (fun hc16 => ?_) (fun hc16 => ?_) | refine wp_if_lt (t := 61) (ck_get kk_Mo_laysMisses 10 rfl) (by decide) (fun hc16 => ?_) (fun hc16 => ?_)
      · exact hc16.elim
      · refine wp_aload_n rfl (ck_get kk_Mo_laysMisses 11 rfl) ?_
        refine wp_getR (ck_get kk_Mo_laysMisses 12 rfl) fl_Mo_88 (by assumption) (by assumption) ?_
        refine wp_bipush (v := nI 25) (by decide) (ck_get kk_Mo_laysMisses 13 rfl) ?_
        refine wp_iload_n rfl (ck_get kk_Mo_laysMisses 14 rfl) ?_
        first | refine wp_imulN (ck_get kk_Mo_laysMisses 15 rfl) ?_ | refine wp_imul (ck_get kk_Mo_laysMisses 15 rfl) ?_
        refine wp_iload_n rfl (ck_get kk_Mo_laysMisses 16 rfl) ?_
        first | refine wp_iaddN (ck_get kk_Mo_laysMisses 17 rfl) ?_ | refine wp_iadd (ck_get kk_Mo_laysMisses 17 rfl) ?_
        refine wp_iload_n rfl (ck_get kk_Mo_laysMisses 18 rfl) ?_
        refine wp_iast (ck_get kk_Mo_laysMisses 19 rfl) (by assumption) (ixk_nI (k := 25 * t + 0) (by omega) (by omega)) ?_
        rw [lm_s hc]
        refine wp_iload_n rfl (ck_get kk_Mo_laysMisses 20 rfl) ?_
        refine wp_iload_n rfl (ck_get kk_Mo_laysMisses 21 rfl) ?_
        first | refine wp_if_neN (t := 40) (ck_get kk_Mo_laysMisses 22 rfl) (by decide) (by omega) (fun hc33 => ?_) (fun hc33 => ?_) | refine wp_if_ne (t := 40) (ck_get kk_Mo_laysMisses 22 rfl) (by decide) (fun hc33 => ?_) (fun hc33 => ?_)
        · omega
        · refine wp_iconst (v := nI 0) (by decide) (ck_get kk_Mo_laysMisses 23 rfl) ?_
          refine wp_goto (t := 53) (ck_get kk_Mo_laysMisses 24 rfl) (by decide) ?_
          first | refine wp_iaddN (ck_get kk_Mo_laysMisses 33 rfl) ?_ | refine wp_iadd (ck_get kk_Mo_laysMisses 33 rfl) ?_
          refine wp_istore_n (ck_get kk_Mo_laysMisses 34 rfl) (by decide) rfl ?_
          skip
          first | refine wp_iincD (ck_get kk_Mo_laysMisses 35 rfl) rfl (by decide) rfl ?_ | refine wp_iinc (ck_get kk_Mo_laysMisses 35 rfl) rfl (by decide) rfl ?_
          refine wp_goto (t := 15) (ck_get kk_Mo_laysMisses 36 rfl) (by decide) ?_
          skip
          refine wp_iload_n rfl (ck_get kk_Mo_laysMisses 9 rfl) ?_
          refine wp_if_lt (t := 61) (ck_get kk_Mo_laysMisses 10 rfl) (by decide) (fun hc16 => ?_) (fun hc16 => ?_)
          · refine wp_return (ck_get kk_Mo_laysMisses 37 rfl) rfl ⟨rfl, ?_⟩
            rfl
          · exact absurd (by decide) hc16
    | succ c ih =>
      intro hc
      have hst : msA (fun i => mI M (o + 2) (92 * t + 25 + i)) (c + 1) + mI M (o + 2) (92 * t + (25 + (c + 1))) = msA (fun i => mI M (o + 2) (92 * t + 25 + i)) c := by
        rw [msA_step (c := c) (by omega)]
        show _ + _ = _ + mI M (o + 2) (92 * t + 25 + (c + 1))
        rw [Nat.add_assoc (92 * t) 25 (c + 1)]
      have hih := ih (by omega)
      refine wp_iload_n rfl (ck_get kk_Mo_laysMisses 9 rfl) ?_
      first | refine wp_if_ltN (t := 61) (ck_get kk_Mo_laysMisses 10 rfl) (by decide) (by omega) (fun hc16 => ?_) (fun hc16 => ?_) | refine wp_if_lt (t := 61) (ck_get kk_Mo_laysMisses 10 rfl) (by decide) (fun hc16 => ?_) (fun hc16 => ?_)
      · exact hc16.elim
      · refine wp_aload_n rfl (ck_get kk_Mo_laysMisses 11 rfl) ?_
        refine wp_getR (ck_get kk_Mo_laysMisses 12 rfl) fl_Mo_88 (by assumption) (by assumption) ?_
        refine wp_bipush (v := nI 25) (by decide) (ck_get kk_Mo_laysMisses 13 rfl) ?_
        refine wp_iload_n rfl (ck_get kk_Mo_laysMisses 14 rfl) ?_
        first | refine wp_imulN (ck_get kk_Mo_laysMisses 15 rfl) ?_ | refine wp_imul (ck_get kk_Mo_laysMisses 15 rfl) ?_
        refine wp_iload_n rfl (ck_get kk_Mo_laysMisses 16 rfl) ?_
        first | refine wp_iaddN (ck_get kk_Mo_laysMisses 17 rfl) ?_ | refine wp_iadd (ck_get kk_Mo_laysMisses 17 rfl) ?_
        refine wp_iload_n rfl (ck_get kk_Mo_laysMisses 18 rfl) ?_
        refine wp_iast (ck_get kk_Mo_laysMisses 19 rfl) (by assumption) (ixk_nI (k := 25 * t + (c + 1)) (by omega) (by omega)) ?_
        rw [lm_s hc]
        refine wp_iload_n rfl (ck_get kk_Mo_laysMisses 20 rfl) ?_
        refine wp_iload_n rfl (ck_get kk_Mo_laysMisses 21 rfl) ?_
        first | refine wp_if_neN (t := 40) (ck_get kk_Mo_laysMisses 22 rfl) (by decide) (by omega) (fun hc33 => ?_) (fun hc33 => ?_) | refine wp_if_ne (t := 40) (ck_get kk_Mo_laysMisses 22 rfl) (by decide) (fun hc33 => ?_) (fun hc33 => ?_)
        · refine wp_aload_n rfl (ck_get kk_Mo_laysMisses 25 rfl) ?_
          refine wp_getR (ck_get kk_Mo_laysMisses 26 rfl) fl_Mo_28 (by assumption) (by assumption) ?_
          refine wp_iload_n rfl (ck_get kk_Mo_laysMisses 27 rfl) ?_
          refine wp_bipush (v := nI 25) (by decide) (ck_get kk_Mo_laysMisses 28 rfl) ?_
          refine wp_iload_n rfl (ck_get kk_Mo_laysMisses 29 rfl) ?_
          first | refine wp_iaddN (ck_get kk_Mo_laysMisses 30 rfl) ?_ | refine wp_iadd (ck_get kk_Mo_laysMisses 30 rfl) ?_
          refine wp_cS2i (ck_get kk_Mo_laysMisses 31 rfl) ml_Mo_142 (by omega) (Nat.le_of_ble_eq_true rfl) (Ci.to (m_at) ?_)
          rintro _ M1 ⟨rfl, eqm1⟩
          obtain rfl := eqm1.symm
          refine wp_ialdv (v := mI M (o + 2) (92 * t + (25 + (c + 1)))) (ck_get kk_Mo_laysMisses 32 rfl) (by assumption) (ixk_nI (k := 92 * t + (25 + (c + 1))) (by omega) (by omega)) (hk _ _) ?_
          first | refine wp_iaddN (ck_get kk_Mo_laysMisses 33 rfl) ?_ | refine wp_iadd (ck_get kk_Mo_laysMisses 33 rfl) ?_
          rw [hst]
          refine wp_istore_n (ck_get kk_Mo_laysMisses 34 rfl) (by decide) rfl ?_
          skip
          first | refine wp_iincD (ck_get kk_Mo_laysMisses 35 rfl) rfl (by decide) rfl ?_ | refine wp_iinc (ck_get kk_Mo_laysMisses 35 rfl) rfl (by decide) rfl ?_
          refine wp_goto (t := 15) (ck_get kk_Mo_laysMisses 36 rfl) (by decide) ?_
          exact hih
        · omega
  have h24 := hloop 24 (by omega)
  rw [msA_24, show lmM M o t (24 + 1) = M by show mk2 M (up1 (mI M) (o + 20) (lmF (mI M (o + 20)) (mI M (o + 2)) t 25)) (mJ M) = M; rw [lmF_25, up1_self]] at h24
  refine cw_entry 2 pf_Mo_laysMisses rfl ?_
  refine wp_aload_n rfl (ck_get kk_Mo_laysMisses 0 rfl) ?_
  refine wp_getR (ck_get kk_Mo_laysMisses 1 rfl) fl_Mo_28 (by assumption) (by assumption) ?_
  refine wp_iload_n rfl (ck_get kk_Mo_laysMisses 2 rfl) ?_
  refine wp_bipush (v := nI 25) (by decide) (ck_get kk_Mo_laysMisses 3 rfl) ?_
  refine wp_cS2i (ck_get kk_Mo_laysMisses 4 rfl) ml_Mo_142 (by omega) (Nat.le_of_ble_eq_true rfl) (Ci.to (m_at) ?_)
  rintro _ M1 ⟨rfl, eqm1⟩
  obtain rfl := eqm1.symm
  refine wp_iald (ck_get kk_Mo_laysMisses 5 rfl) (by assumption) (ixk_nI (k := 92 * t + 25) (by omega) (by omega)) ?_
  refine wp_istore_n (ck_get kk_Mo_laysMisses 6 rfl) (by decide) rfl ?_
  refine wp_bipush (v := nI 24) (by decide) (ck_get kk_Mo_laysMisses 7 rfl) ?_
  refine wp_istore_n (ck_get kk_Mo_laysMisses 8 rfl) (by decide) rfl ?_
  exact h24
end MMI

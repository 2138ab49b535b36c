/-! ===== MissCurvesModel: what is gone along: helpers ===== -/
section ME
variable {g : Gl} {M : Mem} {o : Nat}
/-- the model's memory while a text is gone along: how far, whether broken -/
abbrev emM (M : Mem) (o i : Nat) (b : Bool) : Mem := mk2 M (up1 (mI M) o (up1 (up1 (mI M o) 25 (nI i)) 27 (bI b))) (mJ M)
theorem emM_25 {i : Nat} {b : Bool} : mI (emM M o i b) o 25 = nI i := by
  show up1 (mI M) o _ o 25 = _
  rw [up1_eq, up1_ne (by omega), up1_eq]
theorem emM_27 {i : Nat} {b : Bool} : mI (emM M o i b) o 27 = bI b := by
  show up1 (mI M) o _ o 27 = _
  rw [up1_eq, up1_eq]
theorem emM_f {i : Nat} {b : Bool} {k : Nat} (h : k ≠ 25) (h2 : k ≠ 27) : mI (emM M o i b) o k = mI M o k := by
  show up1 (mI M) o _ o k = _
  rw [up1_eq, up1_ne h2, up1_ne h]
theorem emM_a {i : Nat} {b : Bool} {x : Nat} (h : x ≠ o) : mI (emM M o i b) x = mI M x := by
  show up1 (mI M) o _ x = _
  rw [up1_ne h]
theorem emM_go {i i2 : Nat} {b : Bool} : sI (emM M o i b) o 25 (nI i2) = emM M o i2 b := by
  show mk2 M (up2 (up1 (mI M) o (up1 (up1 (mI M o) 25 (nI i)) 27 (bI b))) o 25 (nI i2)) (mJ M) = _
  rw [up2_up1, up1_eq, up1_up1, up1_comm (up1 (mI M o) 25 (nI i)) (show 27 ≠ 25 by omega), up1_up1]
theorem emM_br {i : Nat} {b b2 : Bool} : sI (emM M o i b) o 27 (bI b2) = emM M o i b2 := by
  show mk2 M (up2 (up1 (mI M) o (up1 (up1 (mI M o) 25 (nI i)) 27 (bI b))) o 27 (bI b2)) (mJ M) = _
  rw [up2_up1, up1_eq, up1_up1, up1_up1]
/-- the code of a token; 0 behind the end -/
def tcd (K : Nat → Int32) (ge k : Nat) : Int32 := if k < ge then K (395 + k) else nI 0
theorem m_codeAt {i ge : Nat} {b : Bool} {k : Nat} (hM : MoAt (mT M) (mR M) o) (hge : mI M o 26 = nI ge) (hg2 : ge ≤ 2800) (hk : k < 100000) : Ci g Y_Mo_codeAt 0 [.ref o, .int (nI k)] (emM M o i b) (fun x M2 => x = tcd (mI M (o + 2)) ge k ∧ M2 = emM M o i b) := by
  refine cw_entry 0 pf_Mo_codeAt rfl ?_
  have to0 := hM.1
  have rfkept := MoAt.r hM 1 rfl
  have tfkept := MoAt.t hM 1 rfl
  refine wp_iload_n rfl (ck_get kk_Mo_codeAt 0 rfl) ?_
  refine wp_aload_n rfl (ck_get kk_Mo_codeAt 1 rfl) ?_
  refine wp_getIv (v := nI ge) (ck_get kk_Mo_codeAt 2 rfl) fl_Mo_291 (by assumption) (by rw [emM_f (by omega) (by omega)]; exact hge) ?_
  first | refine wp_icmp_geN (t := 21) (ck_get kk_Mo_codeAt 3 rfl) (by decide) (by omega) (by omega) (fun hc5 => ?_) (fun hc5 => ?_) | refine wp_icmp_ge (t := 21) (ck_get kk_Mo_codeAt 3 rfl) (by decide) (fun hc5 => ?_) (fun hc5 => ?_)
  · refine wp_iconst (v := nI 0) (by decide) (ck_get kk_Mo_codeAt 11 rfl) ?_
    refine wp_ireturn (ck_get kk_Mo_codeAt 12 rfl) rfl rfl ⟨_, rfl, ?_⟩
    exact ⟨by rw [tcd, if_neg (by omega)], rfl⟩
  · refine wp_aload_n rfl (ck_get kk_Mo_codeAt 4 rfl) ?_
    refine wp_getR (ck_get kk_Mo_codeAt 5 rfl) fl_Mo_28 (by assumption) (by assumption) ?_
    refine wp_sipush (v := nI 395) (by decide) (ck_get kk_Mo_codeAt 6 rfl) ?_
    refine wp_iload_n rfl (ck_get kk_Mo_codeAt 7 rfl) ?_
    first | refine wp_iaddN (ck_get kk_Mo_codeAt 8 rfl) ?_ | refine wp_iadd (ck_get kk_Mo_codeAt 8 rfl) ?_
    refine wp_ialdv (v := mI M (o + 2) (395 + k)) (ck_get kk_Mo_codeAt 9 rfl) (by assumption) (ixk_nI (k := 395 + k) (by omega) (by omega)) (by rw [emM_a (by omega)]) ?_
    refine wp_goto (t := 22) (ck_get kk_Mo_codeAt 10 rfl) (by decide) ?_
    refine wp_ireturn (ck_get kk_Mo_codeAt 12 rfl) rfl rfl ⟨_, rfl, ?_⟩
    exact ⟨by rw [tcd, if_pos (by omega)], rfl⟩
theorem m_passes {i ge c : Nat} {b : Bool} (hM : MoAt (mT M) (mR M) o) (hge : mI M o 26 = nI ge) (hg2 : ge ≤ 2800) (hi : i < 100000) : Ci g Y_Mo_passes0 1 [.ref o, .int (nI c)] (emM M o i b) (fun x M2 => x = bI (decide (tcd (mI M (o + 2)) ge i = nI c)) ∧ M2 = emM M o (if tcd (mI M (o + 2)) ge i = nI c then i + 1 else i) b) := by
  refine cw_entry 1 pf_Mo_passes0 rfl ?_
  have hM0 := hM
  have to0 := hM.1
  have rfkept := MoAt.r hM 1 rfl
  have tfkept := MoAt.t hM 1 rfl
  refine wp_aload_n rfl (ck_get kk_Mo_passes0 0 rfl) ?_
  refine wp_aload_n rfl (ck_get kk_Mo_passes0 1 rfl) ?_
  refine wp_getIv (v := nI i) (ck_get kk_Mo_passes0 2 rfl) fl_Mo_294 (by assumption) (emM_25) ?_
  refine wp_cV1i (ck_get kk_Mo_passes0 3 rfl) ml_Mo_297 (by omega) (Nat.le_of_ble_eq_true rfl) (by assumption) (Ci.to (m_codeAt (by exact hM0) hge hg2 hi) ?_)
  rintro _ M1 ⟨rfl, eqm1⟩
  obtain rfl := eqm1.symm
  refine wp_iload_n rfl (ck_get kk_Mo_passes0 4 rfl) ?_
  refine wp_icmp_ne (t := 16) (ck_get kk_Mo_passes0 5 rfl) (by decide) (fun hc9 => ?_) (fun hc9 => ?_)
  · refine wp_iconst (v := nI 0) (by decide) (ck_get kk_Mo_passes0 8 rfl) ?_
    refine wp_istore_n (ck_get kk_Mo_passes0 9 rfl) (by decide) rfl ?_
    refine wp_iload_n rfl (ck_get kk_Mo_passes0 10 rfl) ?_
    first | refine wp_if_eqN (t := 32) (ck_get kk_Mo_passes0 11 rfl) (by decide) (by omega) (fun hc19 => ?_) (fun hc19 => ?_) | refine wp_if_eq (t := 32) (ck_get kk_Mo_passes0 11 rfl) (by decide) (fun hc19 => ?_) (fun hc19 => ?_)
    · refine wp_iload_n rfl (ck_get kk_Mo_passes0 18 rfl) ?_
      refine wp_ireturn (ck_get kk_Mo_passes0 19 rfl) rfl rfl ⟨_, rfl, ?_⟩
      exact ⟨by simp [hc9, bI], by rw [if_neg hc9]⟩
    · exact absurd rfl hc19
  · refine wp_iconst (v := nI 1) (by decide) (ck_get kk_Mo_passes0 6 rfl) ?_
    refine wp_goto (t := 17) (ck_get kk_Mo_passes0 7 rfl) (by decide) ?_
    refine wp_istore_n (ck_get kk_Mo_passes0 9 rfl) (by decide) rfl ?_
    refine wp_iload_n rfl (ck_get kk_Mo_passes0 10 rfl) ?_
    first | refine wp_if_eqN (t := 32) (ck_get kk_Mo_passes0 11 rfl) (by decide) (by omega) (fun hc19 => ?_) (fun hc19 => ?_) | refine wp_if_eq (t := 32) (ck_get kk_Mo_passes0 11 rfl) (by decide) (fun hc19 => ?_) (fun hc19 => ?_)
    · exact absurd hc19 (by decide)
    · refine wp_aload_n rfl (ck_get kk_Mo_passes0 12 rfl) ?_
      refine wp_dup rfl (ck_get kk_Mo_passes0 13 rfl) ?_
      refine wp_getIv (v := nI i) (ck_get kk_Mo_passes0 14 rfl) fl_Mo_294 (by assumption) (emM_25) ?_
      refine wp_iconst (v := nI 1) (by decide) (ck_get kk_Mo_passes0 15 rfl) ?_
      first | refine wp_iaddN (ck_get kk_Mo_passes0 16 rfl) ?_ | refine wp_iadd (ck_get kk_Mo_passes0 16 rfl) ?_
      refine wp_putI (ck_get kk_Mo_passes0 17 rfl) fl_Mo_294 (by decide +kernel) (by assumption) (okI_int _) ?_
      rw [emM_go]
      refine wp_iload_n rfl (ck_get kk_Mo_passes0 18 rfl) ?_
      refine wp_ireturn (ck_get kk_Mo_passes0 19 rfl) rfl rfl ⟨_, rfl, ?_⟩
      exact ⟨by simp [hc9, bI], by rw [if_pos hc9]⟩
/-- bounded: broken by what is beyond -/
def bbr (v : Int64) (live b : Bool) : Bool := b || (live && (decide (1000000000 < v) || decide (v < -1000000000)))
def bbv (v : Int64) (live b : Bool) : Int64 := if bbr v live b then 0 else v
theorem bI_t0 {b : Bool} (h : bI b = 0) : b = false := by cases b; rfl; exact absurd h (by decide)
theorem bI_t1 {b : Bool} (h : ¬ bI b = 0) : b = true := by cases b; exact absurd rfl h; rfl
theorem m_bounded {i : Nat} {b live : Bool} {v : Int64} (hM : MoAt (mT M) (mR M) o) : Cl g Y_Mo_bounded 0 [.ref o, .long v, .int (bI live)] (emM M o i b) (fun x M2 => x = bbv v live b ∧ M2 = emM M o i (bbr v live b)) := by
  refine cw_entry 0 pf_Mo_bounded rfl ?_
  have to0 := hM.1
  have fin : ∀ (b2 : Bool), bbr v live b = b2 → Wp g Y_Mo_bounded 0 25 [some (.ref o), some (.long v), none, some (.int (bI live))] [] (emM M o i b2) (fun r M2 => ∃ x, r = some (.long x) ∧ x = bbv v live b ∧ M2 = emM M o i (bbr v live b)) := by
    intro b2 hb2
    subst hb2
    refine wp_aload_n rfl (ck_get kk_Mo_bounded 13 rfl) ?_
    refine wp_getIv (v := bI (bbr v live b)) (ck_get kk_Mo_bounded 14 rfl) fl_Mo_304 (by assumption) (emM_27) ?_
    first | refine wp_if_eqN (t := 36) (ck_get kk_Mo_bounded 15 rfl) (by decide) (by omega) (fun hc29 => ?_) (fun hc29 => ?_) | refine wp_if_eq (t := 36) (ck_get kk_Mo_bounded 15 rfl) (by decide) (fun hc29 => ?_) (fun hc29 => ?_)
    · refine wp_lload_n rfl (ck_get kk_Mo_bounded 18 rfl) ?_
      refine wp_lreturn (ck_get kk_Mo_bounded 19 rfl) rfl ⟨_, rfl, ?_⟩
      exact ⟨by rw [bbv, bI_t0 hc29]; rfl, rfl⟩
    · refine wp_lconst (v := 0) (by decide) (ck_get kk_Mo_bounded 16 rfl) ?_
      refine wp_goto (t := 37) (ck_get kk_Mo_bounded 17 rfl) (by decide) ?_
      refine wp_lreturn (ck_get kk_Mo_bounded 19 rfl) rfl ⟨_, rfl, ?_⟩
      exact ⟨by rw [bbv, bI_t1 hc29]; rfl, rfl⟩
  refine wp_iload_n rfl (ck_get kk_Mo_bounded 0 rfl) ?_
  first | refine wp_if_eqN (t := 25) (ck_get kk_Mo_bounded 1 rfl) (by decide) (by omega) (fun hc1 => ?_) (fun hc1 => ?_) | refine wp_if_eq (t := 25) (ck_get kk_Mo_bounded 1 rfl) (by decide) (fun hc1 => ?_) (fun hc1 => ?_)
  · refine fin b ?_
    rw [bbr, bI_t0 hc1]; simp
  · refine wp_lload_n rfl (ck_get kk_Mo_bounded 2 rfl) ?_
    refine wp_ldc2 kl_Mo_300 (ck_get kk_Mo_bounded 3 rfl) ?_
    refine wp_lcmp (ck_get kk_Mo_bounded 4 rfl) ?_
    refine wp_if_gt (t := 20) (ck_get kk_Mo_bounded 5 rfl) (by decide) (fun hc9 => ?_) (fun hc9 => ?_)
    · refine wp_aload_n rfl (ck_get kk_Mo_bounded 10 rfl) ?_
      refine wp_iconst (v := nI 1) (by decide) (ck_get kk_Mo_bounded 11 rfl) ?_
      refine wp_putI (ck_get kk_Mo_bounded 12 rfl) fl_Mo_304 (by decide +kernel) (by assumption) (by first | exact okI_b0 | exact okI_b1) ?_
      rw [show (nI 1 : Int32) = bI true from rfl, emM_br]
      refine fin true ?_
      rw [bbr, bI_t1 hc1, decide_eq_true ((lcmp_gt _ _).mp hc9)]; simp
    · refine wp_lload_n rfl (ck_get kk_Mo_bounded 6 rfl) ?_
      refine wp_ldc2 kl_Mo_302 (ck_get kk_Mo_bounded 7 rfl) ?_
      refine wp_lcmp (ck_get kk_Mo_bounded 8 rfl) ?_
      refine wp_if_ge (t := 25) (ck_get kk_Mo_bounded 9 rfl) (by decide) (fun hc17 => ?_) (fun hc17 => ?_)
      · refine fin b ?_
        have q1 : ¬ 1000000000 < v := fun q => hc9 ((lcmp_gt _ _).mpr q)
        have q2 : ¬ v < -1000000000 := (lcmp_ge _ _).mp hc17
        rw [bbr, bI_t1 hc1, decide_eq_false q1, decide_eq_false q2]; simp
      · refine wp_aload_n rfl (ck_get kk_Mo_bounded 10 rfl) ?_
        refine wp_iconst (v := nI 1) (by decide) (ck_get kk_Mo_bounded 11 rfl) ?_
        refine wp_putI (ck_get kk_Mo_bounded 12 rfl) fl_Mo_304 (by decide +kernel) (by assumption) (by first | exact okI_b0 | exact okI_b1) ?_
        rw [show (nI 1 : Int32) = bI true from rfl, emM_br]
        refine fin true ?_
        have q2 : v < -1000000000 := Classical.not_not.mp (fun q => hc17 ((lcmp_ge _ _).mpr q))
        rw [bbr, bI_t1 hc1, decide_eq_true q2]; simp
theorem m_signOf {c : Nat} : Ci g Y_Mo_signOf 0 [.int (nI c)] M (fun x M2 => x = nI (100 + c) ∧ M2 = M) := by
  refine cw_entry 0 pf_Mo_signOf rfl ?_
  refine wp_bipush (v := nI 100) (by decide) (ck_get kk_Mo_signOf 0 rfl) ?_
  refine wp_iload_n rfl (ck_get kk_Mo_signOf 1 rfl) ?_
  first | refine wp_iaddN (ck_get kk_Mo_signOf 2 rfl) ?_ | refine wp_iadd (ck_get kk_Mo_signOf 2 rfl) ?_
  refine wp_ireturn (ck_get kk_Mo_signOf 3 rfl) rfl rfl ⟨_, rfl, ?_⟩
  exact ⟨rfl, rfl⟩
end ME

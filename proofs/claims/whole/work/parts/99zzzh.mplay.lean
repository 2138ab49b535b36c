/-! ===== the model reads a record again ===== -/
section MPL
variable {g : Gl} {M : Mem}
def raI (I : Nat → Nat → Int32) (G : Nat → Nat → Int32) : Nat → Nat → Int32 := fun x => if 1047 ≤ x ∧ x < 1053 then G (x - 1047) else I x
abbrev rmM (M : Mem) (G : Nat → Nat → Int32) (H : Nat → Int64) : Mem := mk2 M (raI (mI M) G) (up1 (mJ M) 1050 H)
section
variable {G : Nat → Nat → Int32} {H : Nat → Int64} {a k : Nat} {v : Int32}
theorem rm_at (h : a < 6) : mI (rmM M G H) (1047 + a) = G a := by
  show raI (mI M) G (1047 + a) = _
  unfold raI
  rw [if_pos ⟨by omega, by omega⟩, show 1047 + a - 1047 = a by omega]
theorem rm_ot {x : Nat} (h : x < 1047 ∨ 1053 ≤ x) : mI (rmM M G H) x = mI M x := by
  show raI (mI M) G x = _
  unfold raI
  rw [if_neg (fun q => by omega)]
theorem rm_up {f : Nat → Int32} (h : a < 6) : up1 (raI (mI M) G) (1047 + a) f = raI (mI M) (up1 G a f) := by
  funext x
  by_cases c : x = 1047 + a
  · subst c
    rw [up1_eq]
    unfold raI
    rw [if_pos ⟨by omega, by omega⟩, show 1047 + a - 1047 = a by omega, up1_eq]
  · rw [up1_ne c]
    unfold raI
    by_cases c2 : 1047 ≤ x ∧ x < 1053
    · rw [if_pos c2, if_pos c2, up1_ne (by omega)]
    · rw [if_neg c2, if_neg c2]
theorem rm_st (h : a < 6) : sI (rmM M G H) (1047 + a) k v = rmM M (up2 G a k v) H := by
  refine mk2_ext (M := M) ?_ rfl
  show up2 (raI (mI M) G) (1047 + a) k v = _
  rw [up2_up1, rm_up h, up2_up1]
  congr 2
  exact congrArg (fun f => up1 f k v) (rm_at (M := M) (H := H) h)
theorem rm_r0 : mI (rmM M G H) 1047 = G 0 := rm_at (a := 0) (by omega)
theorem rm_r1 : mI (rmM M G H) 1048 = G 1 := rm_at (a := 1) (by omega)
theorem rm_r2 : mI (rmM M G H) 1049 = G 2 := rm_at (a := 2) (by omega)
theorem rm_r4 : mI (rmM M G H) 1051 = G 4 := rm_at (a := 4) (by omega)
theorem rm_r5 : mI (rmM M G H) 1052 = G 5 := rm_at (a := 5) (by omega)
theorem rm_s0 : sI (rmM M G H) 1047 k v = rmM M (up2 G 0 k v) H := rm_st (a := 0) (by omega)
theorem rm_s1 : sI (rmM M G H) 1048 k v = rmM M (up2 G 1 k v) H := rm_st (a := 1) (by omega)
theorem rm_s2 : sI (rmM M G H) 1049 k v = rmM M (up2 G 2 k v) H := rm_st (a := 2) (by omega)
theorem rm_s4 : sI (rmM M G H) 1051 k v = rmM M (up2 G 4 k v) H := rm_st (a := 4) (by omega)
theorem rm_s5 : sI (rmM M G H) 1052 k v = rmM M (up2 G 5 k v) H := rm_st (a := 5) (by omega)
theorem rm_h : mJ (rmM M G H) 1050 = H := by
  show up1 (mJ M) 1050 H 1050 = H
  rw [up1_eq]
theorem rm_sh {w : Int64} : sJ (rmM M G H) 1050 k w = rmM M G (up1 H k w) := by
  refine mk2_ext (M := M) rfl ?_
  show up2 (up1 (mJ M) 1050 H) 1050 k w = _
  rw [up2_up1, up1_eq, up1_up1]
theorem rm_id : rmM M (fun a => mI M (1047 + a)) (mJ M 1050) = M := by
  show mk2 M (raI (mI M) (fun a => mI M (1047 + a))) (up1 (mJ M) 1050 (mJ M 1050)) = M
  have : raI (mI M) (fun a => mI M (1047 + a)) = mI M := by
    funext x
    unfold raI
    by_cases c : 1047 ≤ x ∧ x < 1053
    · rw [if_pos c]
      show mI M (1047 + (x - 1047)) = _
      rw [show 1047 + (x - 1047) = x by omega]
    · rw [if_neg c]
  rw [this, up1_self]
theorem MR.rm {z : ST} (h : MR z M) : MR z (rmM M G H) := h.sc (fun x q => by unfold moK at q; exact rm_ot (M := M) (G := G) (H := H) (by omega)) (fun x q => up1_ne (by omega)) (fun k _ => congrFun (rm_ot (M := M) (G := G) (H := H) (x := 1020) (by omega)) k) (by
  obtain ⟨b, hb⟩ := h.2.2.2.2.2.2.1.2.2.2.2.1
  exact ⟨b, (congrFun (rm_ot (M := M) (G := G) (H := H) (x := 1020) (by omega)) 27).trans hb⟩)
theorem CSame.rm : CSame M (rmM M G H) := CSame.mk2 (fun x q => ⟨rm_ot (M := M) (G := G) (H := H) (by omega), up1_ne (by omega)⟩)
end
theorem u2u {G : Nat → Nat → Int32} {a k : Nat} {v w : Int32} : up2 (up2 G a k v) a k w = up2 G a k w := by
  rw [up2_up1, up2_up1, up1_up1, up1_eq, up1_up1, up2_up1]
theorem m_recordAt {t i : Nat} (hM : MoAt (mT M) (mR M) 1020) (ht : t < 4) (hi : i < 32) : Ci g Y_Mo_recordAt 1 [.ref 1020, .int (nI t), .int (nI i)] M (fun x M2 => x = mI M 1022 (92 * t + 60 + i) ∧ M2 = M) := by
  have to0 := hM.1
  have rfkept := MoAt.r hM 1 rfl
  have tfkept := MoAt.t hM 1 rfl
  refine cw_entry 0 pf_Mo_recordAt rfl ?_
  refine wp_aload_n rfl (ck_get kk_Mo_recordAt 0 rfl) ?_
  refine wp_getR (ck_get kk_Mo_recordAt 1 rfl) fl_Mo_28 (by assumption) (by assumption) ?_
  refine wp_iload_n rfl (ck_get kk_Mo_recordAt 2 rfl) ?_
  refine wp_bipush (v := nI 60) (by decide) (ck_get kk_Mo_recordAt 3 rfl) ?_
  refine wp_iload_n rfl (ck_get kk_Mo_recordAt 4 rfl) ?_
  first | refine wp_iaddN (ck_get kk_Mo_recordAt 5 rfl) ?_ | refine wp_iadd (ck_get kk_Mo_recordAt 5 rfl) ?_
  refine wp_cS2i (ck_get kk_Mo_recordAt 6 rfl) ml_Mo_142 (by omega) (Nat.le_of_ble_eq_true rfl) (Ci.to (m_at (t := t) (k := 60 + i)) ?_)
  rintro _ M1 ⟨rfl, eqm1⟩
  obtain rfl := eqm1.symm
  refine wp_iald (ck_get kk_Mo_recordAt 7 rfl) (by assumption) (ixk_nI (k := 92 * t + (60 + i)) (by omega) (by omega)) ?_
  refine wp_ireturn (ck_get kk_Mo_recordAt 8 rfl) rfl rfl ⟨_, rfl, ?_⟩
  exact ⟨by rw [Nat.add_assoc], rfl⟩
abbrev xR (M : Mem) (t : Nat) : Nat → Int32 := fun i => mI M 1022 (92 * t + 60 + i)
theorem m_recAt {t i : Nat} {G : Nat → Nat → Int32} {H : Nat → Int64} (hM : MoAt (mT M) (mR M) 1020) (ht : t < 4) (hi : i < 32) : Ci g Y_Mo_recordAt 1 [.ref 1020, .int (nI t), .int (nI i)] (rmM M G H) (fun x M2 => x = xR M t i ∧ M2 = rmM M G H) := by
  refine Cw.mono (m_recordAt (M := rmM M G H) (by exact hM) ht hi) ?_
  rintro r M2 ⟨x, e, h1, h2⟩
  refine ⟨x, e, ?_, h2⟩
  rw [h1, rm_ot (by omega)]
theorem l_bg1 {t i : Nat} {G : Nat → Nat → Int32} {H : Nat → Int64} (hM : MoAt (mT M) (mR M) 1020) (ht : t < 4) (hi : i < 32) {Q : Option Value → Mem → Prop} : ∀ d j, j + d = i → Wp g Y_Mo_beginsAgain 2 58 [some (.ref 1020), some (.int (nI t)), some (.int (nI i))] [] (rmM M (up2 G 0 i (nI (fpS (xR M t) i d j))) H) Q → Wp g Y_Mo_beginsAgain 2 15 [some (.ref 1020), some (.int (nI t)), some (.int (nI i))] [] (rmM M (up2 G 0 i (nI j)) H) Q := by
  have to0 := hM.1
  have rffirst := MoAt.r hM 26 rfl
  have tffirst := MoAt.t hM 26 rfl
  intro d
  induction d with
  | zero =>
    intro j hj Kc
    obtain rfl : j = i := by omega
    have v0 : mI (rmM M (up2 G 0 j (nI j)) H) 1047 j = nI j := by rw [rm_r0, u2e]
    refine wp_aload_n rfl (ck_get kk_Mo_beginsAgain 10 rfl) ?_
    refine wp_getR (ck_get kk_Mo_beginsAgain 11 rfl) fl_Mo_109 (by assumption) (by assumption) ?_
    refine wp_iload_n rfl (ck_get kk_Mo_beginsAgain 12 rfl) ?_
    refine wp_ialdv (v := nI j) (ck_get kk_Mo_beginsAgain 13 rfl) (by assumption) (ixk_nI (k := j) (by omega) (by omega)) (v0) ?_
    refine wp_iload_n rfl (ck_get kk_Mo_beginsAgain 14 rfl) ?_
    first | refine wp_icmp_geN (t := 58) (ck_get kk_Mo_beginsAgain 15 rfl) (by decide) (by omega) (by omega) (fun hc22 => ?_) (fun hc22 => ?_) | refine wp_icmp_ge (t := 58) (ck_get kk_Mo_beginsAgain 15 rfl) (by decide) (fun hc22 => ?_) (fun hc22 => ?_)
    · exact Kc
    · omega
  | succ d ih =>
    intro j hj Kc
    have v0 : mI (rmM M (up2 G 0 i (nI j)) H) 1047 i = nI j := by rw [rm_r0, u2e]
    by_cases c : xR M t j = xR M t i
    · have e : fpS (xR M t) i (d + 1) j = j := if_pos c
      rw [e] at Kc
      refine wp_aload_n rfl (ck_get kk_Mo_beginsAgain 10 rfl) ?_
      refine wp_getR (ck_get kk_Mo_beginsAgain 11 rfl) fl_Mo_109 (by assumption) (by assumption) ?_
      refine wp_iload_n rfl (ck_get kk_Mo_beginsAgain 12 rfl) ?_
      refine wp_ialdv (v := nI j) (ck_get kk_Mo_beginsAgain 13 rfl) (by assumption) (ixk_nI (k := i) (by omega) (by omega)) (v0) ?_
      refine wp_iload_n rfl (ck_get kk_Mo_beginsAgain 14 rfl) ?_
      first | refine wp_icmp_geN (t := 58) (ck_get kk_Mo_beginsAgain 15 rfl) (by decide) (by omega) (by omega) (fun hc22 => ?_) (fun hc22 => ?_) | refine wp_icmp_ge (t := 58) (ck_get kk_Mo_beginsAgain 15 rfl) (by decide) (fun hc22 => ?_) (fun hc22 => ?_)
      · omega
      · refine wp_aload_n rfl (ck_get kk_Mo_beginsAgain 16 rfl) ?_
        refine wp_iload_n rfl (ck_get kk_Mo_beginsAgain 17 rfl) ?_
        refine wp_aload_n rfl (ck_get kk_Mo_beginsAgain 18 rfl) ?_
        refine wp_getR (ck_get kk_Mo_beginsAgain 19 rfl) fl_Mo_109 (by assumption) (by assumption) ?_
        refine wp_iload_n rfl (ck_get kk_Mo_beginsAgain 20 rfl) ?_
        refine wp_ialdv (v := nI j) (ck_get kk_Mo_beginsAgain 21 rfl) (by assumption) (ixk_nI (k := i) (by omega) (by omega)) (v0) ?_
        refine wp_cV2i (ck_get kk_Mo_beginsAgain 22 rfl) ml_Mo_462 (by omega) (Nat.le_of_ble_eq_true rfl) (by assumption) (Ci.to (m_recAt (by exact hM) ht (i := j) (by omega)) ?_)
        rintro _ M1 ⟨rfl, eqm1⟩
        obtain rfl := eqm1.symm
        refine wp_aload_n rfl (ck_get kk_Mo_beginsAgain 23 rfl) ?_
        refine wp_iload_n rfl (ck_get kk_Mo_beginsAgain 24 rfl) ?_
        refine wp_iload_n rfl (ck_get kk_Mo_beginsAgain 25 rfl) ?_
        refine wp_cV2i (ck_get kk_Mo_beginsAgain 26 rfl) ml_Mo_462 (by omega) (Nat.le_of_ble_eq_true rfl) (by assumption) (Ci.to (m_recAt (by exact hM) ht hi) ?_)
        rintro _ M1 ⟨rfl, eqm1⟩
        obtain rfl := eqm1.symm
        refine wp_icmp_eq (t := 58) (ck_get kk_Mo_beginsAgain 27 rfl) (by decide) (fun hc42 => ?_) (fun hc42 => ?_)
        · exact Kc
        · exact absurd c hc42
    · have e : fpS (xR M t) i (d + 1) j = fpS (xR M t) i d (j + 1) := if_neg c
      rw [e] at Kc
      refine wp_aload_n rfl (ck_get kk_Mo_beginsAgain 10 rfl) ?_
      refine wp_getR (ck_get kk_Mo_beginsAgain 11 rfl) fl_Mo_109 (by assumption) (by assumption) ?_
      refine wp_iload_n rfl (ck_get kk_Mo_beginsAgain 12 rfl) ?_
      refine wp_ialdv (v := nI j) (ck_get kk_Mo_beginsAgain 13 rfl) (by assumption) (ixk_nI (k := i) (by omega) (by omega)) (v0) ?_
      refine wp_iload_n rfl (ck_get kk_Mo_beginsAgain 14 rfl) ?_
      first | refine wp_icmp_geN (t := 58) (ck_get kk_Mo_beginsAgain 15 rfl) (by decide) (by omega) (by omega) (fun hc22 => ?_) (fun hc22 => ?_) | refine wp_icmp_ge (t := 58) (ck_get kk_Mo_beginsAgain 15 rfl) (by decide) (fun hc22 => ?_) (fun hc22 => ?_)
      · omega
      · refine wp_aload_n rfl (ck_get kk_Mo_beginsAgain 16 rfl) ?_
        refine wp_iload_n rfl (ck_get kk_Mo_beginsAgain 17 rfl) ?_
        refine wp_aload_n rfl (ck_get kk_Mo_beginsAgain 18 rfl) ?_
        refine wp_getR (ck_get kk_Mo_beginsAgain 19 rfl) fl_Mo_109 (by assumption) (by assumption) ?_
        refine wp_iload_n rfl (ck_get kk_Mo_beginsAgain 20 rfl) ?_
        refine wp_ialdv (v := nI j) (ck_get kk_Mo_beginsAgain 21 rfl) (by assumption) (ixk_nI (k := i) (by omega) (by omega)) (v0) ?_
        refine wp_cV2i (ck_get kk_Mo_beginsAgain 22 rfl) ml_Mo_462 (by omega) (Nat.le_of_ble_eq_true rfl) (by assumption) (Ci.to (m_recAt (by exact hM) ht (i := j) (by omega)) ?_)
        rintro _ M1 ⟨rfl, eqm1⟩
        obtain rfl := eqm1.symm
        refine wp_aload_n rfl (ck_get kk_Mo_beginsAgain 23 rfl) ?_
        refine wp_iload_n rfl (ck_get kk_Mo_beginsAgain 24 rfl) ?_
        refine wp_iload_n rfl (ck_get kk_Mo_beginsAgain 25 rfl) ?_
        refine wp_cV2i (ck_get kk_Mo_beginsAgain 26 rfl) ml_Mo_462 (by omega) (Nat.le_of_ble_eq_true rfl) (by assumption) (Ci.to (m_recAt (by exact hM) ht hi) ?_)
        rintro _ M1 ⟨rfl, eqm1⟩
        obtain rfl := eqm1.symm
        refine wp_icmp_eq (t := 58) (ck_get kk_Mo_beginsAgain 27 rfl) (by decide) (fun hc42 => ?_) (fun hc42 => ?_)
        · exact absurd hc42 c
        · refine wp_aload_n rfl (ck_get kk_Mo_beginsAgain 28 rfl) ?_
          refine wp_getR (ck_get kk_Mo_beginsAgain 29 rfl) fl_Mo_109 (by assumption) (by assumption) ?_
          refine wp_iload_n rfl (ck_get kk_Mo_beginsAgain 30 rfl) ?_
          first | refine wp_dup2l rfl (ck_get kk_Mo_beginsAgain 31 rfl) ?_ | refine wp_dup2 rfl rfl (ck_get kk_Mo_beginsAgain 31 rfl) ?_
          refine wp_ialdv (v := nI j) (ck_get kk_Mo_beginsAgain 32 rfl) (by assumption) (ixk_nI (k := i) (by omega) (by omega)) (v0) ?_
          refine wp_iconst (v := nI 1) (by decide) (ck_get kk_Mo_beginsAgain 33 rfl) ?_
          first | refine wp_iaddN (ck_get kk_Mo_beginsAgain 34 rfl) ?_ | refine wp_iadd (ck_get kk_Mo_beginsAgain 34 rfl) ?_
          refine wp_iast (ck_get kk_Mo_beginsAgain 35 rfl) (by assumption) (ixk_nI (k := i) (by omega) (by omega)) ?_
          rw [rm_s0, u2u]
          refine wp_goto (t := 15) (ck_get kk_Mo_beginsAgain 36 rfl) (by decide) ?_
          exact ih (j + 1) (by omega) Kc
def BgA (X : Nat → Int32) (m : Nat) (G : Nat → Nat → Int32) : Prop := ∀ i, i < m → G 0 i = nI (fp X i) ∧ G 1 i = -1 ∧ G 2 i = nI 0
def BgB (m : Nat) (G : Nat → Nat → Int32) (H : Nat → Int64) : Prop := ∀ c, c < m → H c = 0 ∧ G 5 c = nI 0
theorem m_begins {t : Nat} {G : Nat → Nat → Int32} {H : Nat → Int64} (hM : MoAt (mT M) (mR M) 1020) (ht : t < 4) : Cv g Y_Mo_beginsAgain 2 [.ref 1020, .int (nI t)] (rmM M G H) (fun M2 => ∃ G H, M2 = rmM M G H ∧ BgA (xR M t) 32 G ∧ BgB 25 G H) := by
  have to0 := hM.1
  have rffirst := MoAt.r hM 26 rfl
  have tffirst := MoAt.t hM 26 rfl
  have rflastRead := MoAt.r hM 27 rfl
  have tflastRead := MoAt.t hM 27 rfl
  have rfoftenRead := MoAt.r hM 28 rfl
  have tfoftenRead := MoAt.t hM 28 rfl
  have rfholds := MoAt.r hM 29 rfl
  have tfholds := MoAt.t hM 29 rfl
  have rfmissesWith := MoAt.r hM 31 rfl
  have tfmissesWith := MoAt.t hM 31 rfl
  have h2 : ∀ d c G H, c + d = 25 → BgA (xR M t) 32 G → BgB c G H → Wp g Y_Mo_beginsAgain 2 80 [some (.ref 1020), some (.int (nI t)), some (.int (nI c))] [] (rmM M G H) (fun r M2 => r = none ∧ ∃ G H, M2 = rmM M G H ∧ BgA (xR M t) 32 G ∧ BgB 25 G H) := by
    intro d
    induction d with
    | zero =>
      intro c G H hc hA hB
      obtain rfl : c = 25 := by omega
      refine wp_iload_n rfl (ck_get kk_Mo_beginsAgain 51 rfl) ?_
      refine wp_bipush (v := nI 25) (by decide) (ck_get kk_Mo_beginsAgain 52 rfl) ?_
      first | refine wp_icmp_geN (t := 106) (ck_get kk_Mo_beginsAgain 53 rfl) (by decide) (by omega) (by omega) (fun hc83 => ?_) (fun hc83 => ?_) | refine wp_icmp_ge (t := 106) (ck_get kk_Mo_beginsAgain 53 rfl) (by decide) (fun hc83 => ?_) (fun hc83 => ?_)
      · refine wp_return (ck_get kk_Mo_beginsAgain 66 rfl) rfl ⟨rfl, ?_⟩
        exact ⟨G, H, rfl, hA, hB⟩
      · omega
    | succ d ih =>
      intro c G H hc hA hB
      refine wp_iload_n rfl (ck_get kk_Mo_beginsAgain 51 rfl) ?_
      refine wp_bipush (v := nI 25) (by decide) (ck_get kk_Mo_beginsAgain 52 rfl) ?_
      first | refine wp_icmp_geN (t := 106) (ck_get kk_Mo_beginsAgain 53 rfl) (by decide) (by omega) (by omega) (fun hc83 => ?_) (fun hc83 => ?_) | refine wp_icmp_ge (t := 106) (ck_get kk_Mo_beginsAgain 53 rfl) (by decide) (fun hc83 => ?_) (fun hc83 => ?_)
      · omega
      · refine wp_aload_n rfl (ck_get kk_Mo_beginsAgain 54 rfl) ?_
        refine wp_getR (ck_get kk_Mo_beginsAgain 55 rfl) fl_Mo_118 (by assumption) (by assumption) ?_
        refine wp_iload_n rfl (ck_get kk_Mo_beginsAgain 56 rfl) ?_
        refine wp_lconst (v := 0) (by decide) (ck_get kk_Mo_beginsAgain 57 rfl) ?_
        refine wp_last (ck_get kk_Mo_beginsAgain 58 rfl) (by assumption) (ixk_nI (k := c) (by omega) (by omega)) ?_
        rw [rm_sh]
        refine wp_aload_n rfl (ck_get kk_Mo_beginsAgain 59 rfl) ?_
        refine wp_getR (ck_get kk_Mo_beginsAgain 60 rfl) fl_Mo_124 (by assumption) (by assumption) ?_
        refine wp_iload_n rfl (ck_get kk_Mo_beginsAgain 61 rfl) ?_
        refine wp_iconst (v := nI 0) (by decide) (ck_get kk_Mo_beginsAgain 62 rfl) ?_
        refine wp_iast (ck_get kk_Mo_beginsAgain 63 rfl) (by assumption) (ixk_nI (k := c) (by omega) (by omega)) ?_
        rw [rm_s5]
        first | refine wp_iincN (ck_get kk_Mo_beginsAgain 64 rfl) rfl (by decide) rfl ?_ | refine wp_iinc (ck_get kk_Mo_beginsAgain 64 rfl) rfl (by decide) rfl ?_
        refine wp_goto (t := 80) (ck_get kk_Mo_beginsAgain 65 rfl) (by decide) ?_
        refine ih (c + 1) _ _ (by omega) (fun i hi => ?_) (fun q hq => ?_)
        · rw [u2n (by omega), u2n (by omega), u2n (by omega)]; exact hA i hi
        · by_cases e : q = c
          · subst e; exact ⟨up1_eq, u2e⟩
          · rw [up1_ne e, u2k e]; exact hB q (by omega)
  have h1 : ∀ d i G H, i + d = 32 → BgA (xR M t) i G → Wp g Y_Mo_beginsAgain 2 2 [some (.ref 1020), some (.int (nI t)), some (.int (nI i))] [] (rmM M G H) (fun r M2 => r = none ∧ ∃ G H, M2 = rmM M G H ∧ BgA (xR M t) 32 G ∧ BgB 25 G H) := by
    intro d
    induction d with
    | zero =>
      intro i G H hi hA
      obtain rfl : i = 32 := by omega
      refine wp_iload_n rfl (ck_get kk_Mo_beginsAgain 2 rfl) ?_
      refine wp_bipush (v := nI 32) (by decide) (ck_get kk_Mo_beginsAgain 3 rfl) ?_
      first | refine wp_icmp_geN (t := 78) (ck_get kk_Mo_beginsAgain 4 rfl) (by decide) (by omega) (by omega) (fun hc5 => ?_) (fun hc5 => ?_) | refine wp_icmp_ge (t := 78) (ck_get kk_Mo_beginsAgain 4 rfl) (by decide) (fun hc5 => ?_) (fun hc5 => ?_)
      · refine wp_iconst (v := nI 0) (by decide) (ck_get kk_Mo_beginsAgain 49 rfl) ?_
        refine wp_istore_n (ck_get kk_Mo_beginsAgain 50 rfl) (by decide) rfl ?_
        exact h2 25 0 G H (by omega) hA (fun q hq => absurd hq (Nat.not_lt_zero _))
      · omega
    | succ d ih =>
      intro i G H hi hA
      refine wp_iload_n rfl (ck_get kk_Mo_beginsAgain 2 rfl) ?_
      refine wp_bipush (v := nI 32) (by decide) (ck_get kk_Mo_beginsAgain 3 rfl) ?_
      first | refine wp_icmp_geN (t := 78) (ck_get kk_Mo_beginsAgain 4 rfl) (by decide) (by omega) (by omega) (fun hc5 => ?_) (fun hc5 => ?_) | refine wp_icmp_ge (t := 78) (ck_get kk_Mo_beginsAgain 4 rfl) (by decide) (fun hc5 => ?_) (fun hc5 => ?_)
      · omega
      · refine wp_aload_n rfl (ck_get kk_Mo_beginsAgain 5 rfl) ?_
        refine wp_getR (ck_get kk_Mo_beginsAgain 6 rfl) fl_Mo_109 (by assumption) (by assumption) ?_
        refine wp_iload_n rfl (ck_get kk_Mo_beginsAgain 7 rfl) ?_
        refine wp_iconst (v := nI 0) (by decide) (ck_get kk_Mo_beginsAgain 8 rfl) ?_
        refine wp_iast (ck_get kk_Mo_beginsAgain 9 rfl) (by assumption) (ixk_nI (k := i) (by omega) (by omega)) ?_
        rw [rm_s0]
        refine l_bg1 hM ht (by omega) i 0 (by omega) ?_
        refine wp_aload_n rfl (ck_get kk_Mo_beginsAgain 37 rfl) ?_
        refine wp_getR (ck_get kk_Mo_beginsAgain 38 rfl) fl_Mo_112 (by assumption) (by assumption) ?_
        refine wp_iload_n rfl (ck_get kk_Mo_beginsAgain 39 rfl) ?_
        refine wp_iconst (v := (-1)) (by decide) (ck_get kk_Mo_beginsAgain 40 rfl) ?_
        refine wp_iast (ck_get kk_Mo_beginsAgain 41 rfl) (by assumption) (ixk_nI (k := i) (by omega) (by omega)) ?_
        rw [rm_s1]
        refine wp_aload_n rfl (ck_get kk_Mo_beginsAgain 42 rfl) ?_
        refine wp_getR (ck_get kk_Mo_beginsAgain 43 rfl) fl_Mo_115 (by assumption) (by assumption) ?_
        refine wp_iload_n rfl (ck_get kk_Mo_beginsAgain 44 rfl) ?_
        refine wp_iconst (v := nI 0) (by decide) (ck_get kk_Mo_beginsAgain 45 rfl) ?_
        refine wp_iast (ck_get kk_Mo_beginsAgain 46 rfl) (by assumption) (ixk_nI (k := i) (by omega) (by omega)) ?_
        rw [rm_s2]
        first | refine wp_iincN (ck_get kk_Mo_beginsAgain 47 rfl) rfl (by decide) rfl ?_ | refine wp_iinc (ck_get kk_Mo_beginsAgain 47 rfl) rfl (by decide) rfl ?_
        refine wp_goto (t := 2) (ck_get kk_Mo_beginsAgain 48 rfl) (by decide) ?_
        refine ih (i + 1) _ _ (by omega) (fun q hq => ?_)
        by_cases e : q = i
        · subst e
          refine ⟨?_, ?_, u2e⟩
          · rw [u2n (by omega), u2n (by omega), u2e]; rfl
          · rw [u2n (by omega), u2e]
        · rw [u2k e, u2n (a := 2) (b := 0) (by omega), u2n (a := 2) (b := 1) (by omega), u2k e, u2n (a := 1) (b := 0) (by omega), u2n (a := 1) (b := 2) (by omega), u2k e, u2n (a := 0) (b := 1) (by omega), u2n (a := 0) (b := 2) (by omega)]
          exact hA q (by omega)
  refine cw_entry 1 pf_Mo_beginsAgain rfl ?_
  refine wp_iconst (v := nI 0) (by decide) (ck_get kk_Mo_beginsAgain 0 rfl) ?_
  refine wp_istore_n (ck_get kk_Mo_beginsAgain 1 rfl) (by decide) rfl ?_
  exact h1 32 0 G H (by omega) (fun q hq => absurd hq (Nat.not_lt_zero _))
end MPL

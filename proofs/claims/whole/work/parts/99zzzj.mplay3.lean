/-! ===== the model reads a record again: all of it ===== -/
section MPN
variable {g : Gl} {M : Mem} {ks : Nat → Int32} {n : Nat}
theorem HwJ.out {w : Int64} {h : Nat → Bool} {q : Nat} (hw : HwJ w h) (hq : q < 32) : HwJ (w &&& ((1 : Int64) <<< ((nI q).toInt64 &&& 63) ^^^ (-1))) (up1 h q false) := by
  refine ⟨fun k h1 => ?_, fun k h1 => ?_⟩
  · rw [bt_outJ hq (by omega)]
    by_cases e : k = q
    · subst e; rw [if_pos rfl, up1_eq]
    · rw [if_neg e, up1_ne e]; exact hw.1 k h1
  · rcases Nat.lt_or_ge k 64 with c | c
    · rw [bt_outJ hq c, if_neg (by omega)]; exact hw.2 k h1
    · exact btJ_hi c
theorem HwJ.in {w : Int64} {h : Nat → Bool} {q : Nat} (hw : HwJ w h) (hq : q < 32) : HwJ (w ||| (1 : Int64) <<< ((nI q).toInt64 &&& 63)) (up1 h q true) := by
  refine ⟨fun k h1 => ?_, fun k h1 => ?_⟩
  · rw [bt_inJ hq]
    by_cases e : k = q
    · subst e; rw [if_pos rfl, up1_eq]
    · rw [if_neg e, up1_ne e]; exact hw.1 k h1
  · rw [bt_inJ hq, if_neg (by omega)]; exact hw.2 k h1
/-- another size's rows stay -/
def Mc1 (c : Nat) (G G2 : Nat → Nat → Int32) (H H2 : Nat → Int64) : Prop := (∀ a, a < 3 → G2 a = G a) ∧ (∀ q, q ≠ c → H2 q = H q ∧ G2 5 q = G 5 q) ∧ ∀ q, q < 32 * c ∨ 32 * c + 32 ≤ q → G2 4 q = G 4 q
theorem m_readsAgain {t pol i c : Nat} {x : PS} {G : Nat → Nat → Int32} {H : Nat → Int64} (hM : MoAt (mT M) (mR M) 1020) (ht : t < 4) (hR : RcM M t ks n pol) (hA : MnA ks n i G) (hC : McA c x G H) (hO : POK ks c i x) (hi : i < n) (hn : n ≤ 32) (hp : pol < 5) (hc : c < 25) : Cv g Y_Mo_readsAgain 4 [.ref 1020, .int (nI t), .int (nI i), .int (nI c)] (rmM M G H) (fun M2 => ∃ G2 H2, M2 = rmM M G2 H2 ∧ McA c (stepP pol ks n c i x) G2 H2 ∧ Mc1 c G G2 H H2) := by
  have to0 := hM.1
  have rffirst := MoAt.r hM 26 rfl
  have tffirst := MoAt.t hM 26 rfl
  have rfholds := MoAt.r hM 29 rfl
  have tfholds := MoAt.t hM 29 rfl
  have rfsince := MoAt.r hM 30 rfl
  have tfsince := MoAt.t hM 30 rfl
  have rfmissesWith := MoAt.r hM 31 rfl
  have tfmissesWith := MoAt.t hM 31 rfl
  have hfi := fp_le (ks := ks) i
  have v0 : ∀ G2 H2, G2 0 = G 0 → mI (rmM M G2 H2) 1047 i = nI (fp ks i) := fun G2 H2 e => by rw [rm_r0, e]; exact hA.1 i hi
  have vh : ∀ G2 (H2 : Nat → Int64), mJ (rmM M G2 H2) 1050 c = H2 c := fun G2 H2 => by rw [rm_h]
  have v5 : mI (rmM M G H) 1052 c = nI x.2.2 := by rw [rm_r5]; exact hC.2.2
  have hbit : btJ (H c) (fp ks i) = x.1 (fp ks i) := hC.1.1 _ (by omega)
  have hms := hO.2.2.1
  cases hb : x.1 (fp ks i) with
  | true =>
    rw [hb] at hbit
    have es : stepP pol ks n c i x = x := if_pos hb
    refine cw_entry 0 pf_Mo_readsAgain rfl ?_
    refine wp_aload_n rfl (ck_get kk_Mo_readsAgain 0 rfl) ?_
    refine wp_getR (ck_get kk_Mo_readsAgain 1 rfl) fl_Mo_118 (by assumption) (by assumption) ?_
    refine wp_iload_n rfl (ck_get kk_Mo_readsAgain 2 rfl) ?_
    refine wp_laldv (v := H c) (ck_get kk_Mo_readsAgain 3 rfl) (by assumption) (ixk_nI (k := c) (by omega) (by omega)) (vh _ _) ?_
    refine wp_aload_n rfl (ck_get kk_Mo_readsAgain 4 rfl) ?_
    refine wp_getR (ck_get kk_Mo_readsAgain 5 rfl) fl_Mo_109 (by assumption) (by assumption) ?_
    refine wp_iload_n rfl (ck_get kk_Mo_readsAgain 6 rfl) ?_
    refine wp_ialdv (v := nI (fp ks i)) (ck_get kk_Mo_readsAgain 7 rfl) (by assumption) (ixk_nI (k := i) (by omega) (by omega)) (v0 _ _ rfl) ?_
    refine wp_cS2i (ck_get kk_Mo_readsAgain 8 rfl) ml_Mo_468 (by omega) (Nat.le_of_ble_eq_true rfl) (Ci.to (m_isInB (by omega)) ?_)
    rintro _ M1 ⟨rfl, eqm1⟩
    obtain rfl := eqm1.symm
    rw [hbit]
    first | refine wp_if_eqN (t := 19) (ck_get kk_Mo_readsAgain 9 rfl) (by decide) (by omega) (fun hc15 => ?_) (fun hc15 => ?_) | refine wp_if_eq (t := 19) (ck_get kk_Mo_readsAgain 9 rfl) (by decide) (fun hc15 => ?_) (fun hc15 => ?_)
    · exact absurd hc15 (by decide)
    · refine wp_return (ck_get kk_Mo_readsAgain 10 rfl) rfl ⟨rfl, ?_⟩
      rw [es]
      exact ⟨G, H, rfl, hC, fun _ _ => rfl, fun _ _ => ⟨rfl, rfl⟩, fun _ _ => rfl⟩
  | false =>
    rw [hb] at hbit
    have e5 : up2 G 5 c (nI (x.2.2 + 1)) 0 = G 0 := u2n (by omega)
    by_cases c0 : c = 0
    · have es : stepP pol ks n c i x = (x.1, x.2.1, x.2.2 + 1) := by unfold stepP; rw [if_neg (by rw [hb]; decide), if_pos c0]
      refine cw_entry 0 pf_Mo_readsAgain rfl ?_
      refine wp_aload_n rfl (ck_get kk_Mo_readsAgain 0 rfl) ?_
      refine wp_getR (ck_get kk_Mo_readsAgain 1 rfl) fl_Mo_118 (by assumption) (by assumption) ?_
      refine wp_iload_n rfl (ck_get kk_Mo_readsAgain 2 rfl) ?_
      refine wp_laldv (v := H c) (ck_get kk_Mo_readsAgain 3 rfl) (by assumption) (ixk_nI (k := c) (by omega) (by omega)) (vh _ _) ?_
      refine wp_aload_n rfl (ck_get kk_Mo_readsAgain 4 rfl) ?_
      refine wp_getR (ck_get kk_Mo_readsAgain 5 rfl) fl_Mo_109 (by assumption) (by assumption) ?_
      refine wp_iload_n rfl (ck_get kk_Mo_readsAgain 6 rfl) ?_
      refine wp_ialdv (v := nI (fp ks i)) (ck_get kk_Mo_readsAgain 7 rfl) (by assumption) (ixk_nI (k := i) (by omega) (by omega)) (v0 _ _ rfl) ?_
      refine wp_cS2i (ck_get kk_Mo_readsAgain 8 rfl) ml_Mo_468 (by omega) (Nat.le_of_ble_eq_true rfl) (Ci.to (m_isInB (by omega)) ?_)
      rintro _ M1 ⟨rfl, eqm1⟩
      obtain rfl := eqm1.symm
      rw [hbit]
      first | refine wp_if_eqN (t := 19) (ck_get kk_Mo_readsAgain 9 rfl) (by decide) (by omega) (fun hc15 => ?_) (fun hc15 => ?_) | refine wp_if_eq (t := 19) (ck_get kk_Mo_readsAgain 9 rfl) (by decide) (fun hc15 => ?_) (fun hc15 => ?_)
      · refine wp_aload_n rfl (ck_get kk_Mo_readsAgain 11 rfl) ?_
        refine wp_getR (ck_get kk_Mo_readsAgain 12 rfl) fl_Mo_124 (by assumption) (by assumption) ?_
        refine wp_iload_n rfl (ck_get kk_Mo_readsAgain 13 rfl) ?_
        first | refine wp_dup2l rfl (ck_get kk_Mo_readsAgain 14 rfl) ?_ | refine wp_dup2 rfl rfl (ck_get kk_Mo_readsAgain 14 rfl) ?_
        refine wp_ialdv (v := nI x.2.2) (ck_get kk_Mo_readsAgain 15 rfl) (by assumption) (ixk_nI (k := c) (by omega) (by omega)) (v5) ?_
        refine wp_iconst (v := nI 1) (by decide) (ck_get kk_Mo_readsAgain 16 rfl) ?_
        first | refine wp_iaddN (ck_get kk_Mo_readsAgain 17 rfl) ?_ | refine wp_iadd (ck_get kk_Mo_readsAgain 17 rfl) ?_
        refine wp_iast (ck_get kk_Mo_readsAgain 18 rfl) (by assumption) (ixk_nI (k := c) (by omega) (by omega)) ?_
        rw [rm_s5]
        refine wp_iload_n rfl (ck_get kk_Mo_readsAgain 19 rfl) ?_
        first | refine wp_if_neN (t := 34) (ck_get kk_Mo_readsAgain 20 rfl) (by decide) (by omega) (fun hc30 => ?_) (fun hc30 => ?_) | refine wp_if_ne (t := 34) (ck_get kk_Mo_readsAgain 20 rfl) (by decide) (fun hc30 => ?_) (fun hc30 => ?_)
        · omega
        · refine wp_return (ck_get kk_Mo_readsAgain 21 rfl) rfl ⟨rfl, ?_⟩
          rw [es]
          exact ⟨_, H, rfl, ⟨hC.1, fun k hk => by rw [u2n (by omega)]; exact hC.2.1 k hk, u2e⟩, fun a ha => u2n (by omega), fun q hq => ⟨rfl, u2k hq⟩, fun q _ => by rw [u2n (by omega)]⟩
      · exact absurd (by decide) hc15
    · have hend : ∀ (h1 : Nat → Bool) H1, HwJ (H1 c) h1 → (∀ q, q ≠ c → H1 q = H q) → stepP pol ks n c i x = (up1 h1 (fp ks i) true, up1 x.2.1 (fp ks i) i, x.2.2 + 1) → (∀ k, h1 k = true → x.1 k = true) → Wp g Y_Mo_readsAgain 4 65 [some (.ref 1020), some (.int (nI t)), some (.int (nI i)), some (.int (nI c))] [] (rmM M (up2 G 5 c (nI (x.2.2 + 1))) H1) (fun r M2 => r = none ∧ ∃ G2 H2, M2 = rmM M G2 H2 ∧ McA c (stepP pol ks n c i x) G2 H2 ∧ Mc1 c G G2 H H2) := by
        intro h1 H1 hw1 ho1 es hx1
        refine wp_aload_n rfl (ck_get kk_Mo_readsAgain 43 rfl) ?_
        refine wp_getR (ck_get kk_Mo_readsAgain 44 rfl) fl_Mo_118 (by assumption) (by assumption) ?_
        refine wp_iload_n rfl (ck_get kk_Mo_readsAgain 45 rfl) ?_
        first | refine wp_dup2l rfl (ck_get kk_Mo_readsAgain 46 rfl) ?_ | refine wp_dup2 rfl rfl (ck_get kk_Mo_readsAgain 46 rfl) ?_
        refine wp_laldv (v := H1 c) (ck_get kk_Mo_readsAgain 47 rfl) (by assumption) (ixk_nI (k := c) (by omega) (by omega)) (vh _ _) ?_
        refine wp_lconst (v := 1) (by decide) (ck_get kk_Mo_readsAgain 48 rfl) ?_
        refine wp_aload_n rfl (ck_get kk_Mo_readsAgain 49 rfl) ?_
        refine wp_getR (ck_get kk_Mo_readsAgain 50 rfl) fl_Mo_109 (by assumption) (by assumption) ?_
        refine wp_iload_n rfl (ck_get kk_Mo_readsAgain 51 rfl) ?_
        refine wp_ialdv (v := nI (fp ks i)) (ck_get kk_Mo_readsAgain 52 rfl) (by assumption) (ixk_nI (k := i) (by omega) (by omega)) (v0 _ _ e5) ?_
        refine wp_lshl (ck_get kk_Mo_readsAgain 53 rfl) ?_
        refine wp_lor (ck_get kk_Mo_readsAgain 54 rfl) ?_
        refine wp_last (ck_get kk_Mo_readsAgain 55 rfl) (by assumption) (ixk_nI (k := c) (by omega) (by omega)) ?_
        rw [rm_sh]
        refine wp_aload_n rfl (ck_get kk_Mo_readsAgain 56 rfl) ?_
        refine wp_getR (ck_get kk_Mo_readsAgain 57 rfl) fl_Mo_121 (by assumption) (by assumption) ?_
        refine wp_bipush (v := nI 32) (by decide) (ck_get kk_Mo_readsAgain 58 rfl) ?_
        refine wp_iload_n rfl (ck_get kk_Mo_readsAgain 59 rfl) ?_
        first | refine wp_imulN (ck_get kk_Mo_readsAgain 60 rfl) ?_ | refine wp_imul (ck_get kk_Mo_readsAgain 60 rfl) ?_
        refine wp_aload_n rfl (ck_get kk_Mo_readsAgain 61 rfl) ?_
        refine wp_getR (ck_get kk_Mo_readsAgain 62 rfl) fl_Mo_109 (by assumption) (by assumption) ?_
        refine wp_iload_n rfl (ck_get kk_Mo_readsAgain 63 rfl) ?_
        refine wp_ialdv (v := nI (fp ks i)) (ck_get kk_Mo_readsAgain 64 rfl) (by assumption) (ixk_nI (k := i) (by omega) (by omega)) (v0 _ _ e5) ?_
        first | refine wp_iaddN (ck_get kk_Mo_readsAgain 65 rfl) ?_ | refine wp_iadd (ck_get kk_Mo_readsAgain 65 rfl) ?_
        refine wp_iload_n rfl (ck_get kk_Mo_readsAgain 66 rfl) ?_
        refine wp_iast (ck_get kk_Mo_readsAgain 67 rfl) (by assumption) (ixk_nI (k := 32 * c + fp ks i) (by omega) (by omega)) ?_
        rw [rm_s4]
        refine wp_return (ck_get kk_Mo_readsAgain 68 rfl) rfl ⟨rfl, ?_⟩
        rw [es]
        refine ⟨_, _, rfl, ⟨?_, fun k hk => ?_, ?_⟩, fun a ha => by rw [u2n (by omega), u2n (by omega)], fun q hq => ⟨by rw [up1_ne hq]; exact ho1 q hq, by rw [u2n (by omega), u2k hq]⟩, fun q hq => by rw [u2k (by omega), u2n (by omega)]⟩
        · rw [up1_eq]; exact hw1.in (by omega)
        · show up2 (up2 G 5 c (nI (x.2.2 + 1))) 4 (32 * c + fp ks i) (nI i) 4 (32 * c + k) = nI (up1 x.2.1 (fp ks i) i k)
          have hk : up1 h1 (fp ks i) true k = true := hk
          by_cases e : k = fp ks i
          · subst e; rw [u2e, up1_eq]
          · rw [up1_ne e] at hk
            rw [u2k (by omega), u2n (by omega), up1_ne e]; exact hC.2.1 k (hx1 k hk)
        · rw [u2n (by omega)]; exact u2e
      have hA2 : MnA ks n i (up2 G 5 c (nI (x.2.2 + 1))) := ⟨fun j hj => by rw [u2n (by omega)]; exact hA.1 j hj, fun k hk => by rw [u2n (by omega)]; exact hA.2.1 k hk, fun k hk q => by rw [u2n (by omega)]; exact hA.2.2 k hk q⟩
      by_cases c1 : cnt x.1 32 = c
      · obtain ⟨l1, l2, l3⟩ := hO.leave (pol := pol) (n := n) c1 c0
        have es : stepP pol ks n c i x = (up1 (up1 x.1 (leaveP pol ks n i x) false) (fp ks i) true, up1 x.2.1 (fp ks i) i, x.2.2 + 1) := by
          unfold stepP; rw [if_neg (by rw [hb]; decide), if_neg c0, if_pos c1]
        refine cw_entry 0 pf_Mo_readsAgain rfl ?_
        refine wp_aload_n rfl (ck_get kk_Mo_readsAgain 0 rfl) ?_
        refine wp_getR (ck_get kk_Mo_readsAgain 1 rfl) fl_Mo_118 (by assumption) (by assumption) ?_
        refine wp_iload_n rfl (ck_get kk_Mo_readsAgain 2 rfl) ?_
        refine wp_laldv (v := H c) (ck_get kk_Mo_readsAgain 3 rfl) (by assumption) (ixk_nI (k := c) (by omega) (by omega)) (vh _ _) ?_
        refine wp_aload_n rfl (ck_get kk_Mo_readsAgain 4 rfl) ?_
        refine wp_getR (ck_get kk_Mo_readsAgain 5 rfl) fl_Mo_109 (by assumption) (by assumption) ?_
        refine wp_iload_n rfl (ck_get kk_Mo_readsAgain 6 rfl) ?_
        refine wp_ialdv (v := nI (fp ks i)) (ck_get kk_Mo_readsAgain 7 rfl) (by assumption) (ixk_nI (k := i) (by omega) (by omega)) (v0 _ _ rfl) ?_
        refine wp_cS2i (ck_get kk_Mo_readsAgain 8 rfl) ml_Mo_468 (by omega) (Nat.le_of_ble_eq_true rfl) (Ci.to (m_isInB (by omega)) ?_)
        rintro _ M1 ⟨rfl, eqm1⟩
        obtain rfl := eqm1.symm
        rw [hbit]
        first | refine wp_if_eqN (t := 19) (ck_get kk_Mo_readsAgain 9 rfl) (by decide) (by omega) (fun hc15 => ?_) (fun hc15 => ?_) | refine wp_if_eq (t := 19) (ck_get kk_Mo_readsAgain 9 rfl) (by decide) (fun hc15 => ?_) (fun hc15 => ?_)
        · refine wp_aload_n rfl (ck_get kk_Mo_readsAgain 11 rfl) ?_
          refine wp_getR (ck_get kk_Mo_readsAgain 12 rfl) fl_Mo_124 (by assumption) (by assumption) ?_
          refine wp_iload_n rfl (ck_get kk_Mo_readsAgain 13 rfl) ?_
          first | refine wp_dup2l rfl (ck_get kk_Mo_readsAgain 14 rfl) ?_ | refine wp_dup2 rfl rfl (ck_get kk_Mo_readsAgain 14 rfl) ?_
          refine wp_ialdv (v := nI x.2.2) (ck_get kk_Mo_readsAgain 15 rfl) (by assumption) (ixk_nI (k := c) (by omega) (by omega)) (v5) ?_
          refine wp_iconst (v := nI 1) (by decide) (ck_get kk_Mo_readsAgain 16 rfl) ?_
          first | refine wp_iaddN (ck_get kk_Mo_readsAgain 17 rfl) ?_ | refine wp_iadd (ck_get kk_Mo_readsAgain 17 rfl) ?_
          refine wp_iast (ck_get kk_Mo_readsAgain 18 rfl) (by assumption) (ixk_nI (k := c) (by omega) (by omega)) ?_
          rw [rm_s5]
          refine wp_iload_n rfl (ck_get kk_Mo_readsAgain 19 rfl) ?_
          first | refine wp_if_neN (t := 34) (ck_get kk_Mo_readsAgain 20 rfl) (by decide) (by omega) (fun hc30 => ?_) (fun hc30 => ?_) | refine wp_if_ne (t := 34) (ck_get kk_Mo_readsAgain 20 rfl) (by decide) (fun hc30 => ?_) (fun hc30 => ?_)
          · refine wp_aload_n rfl (ck_get kk_Mo_readsAgain 22 rfl) ?_
            refine wp_iload_n rfl (ck_get kk_Mo_readsAgain 23 rfl) ?_
            refine wp_cV1i (ck_get kk_Mo_readsAgain 24 rfl) ml_Mo_476 (by omega) (Nat.le_of_ble_eq_true rfl) (by assumption) (Ci.to (m_heldMany (h := x.1) (by exact hM) hC.1 hc) ?_)
            rintro _ M1 ⟨rfl, eqm1⟩
            obtain rfl := eqm1.symm
            refine wp_iload_n rfl (ck_get kk_Mo_readsAgain 25 rfl) ?_
            first | refine wp_icmp_neN (t := 65) (ck_get kk_Mo_readsAgain 26 rfl) (by decide) (by omega) (by omega) (fun hc40 => ?_) (fun hc40 => ?_) | refine wp_icmp_ne (t := 65) (ck_get kk_Mo_readsAgain 26 rfl) (by decide) (fun hc40 => ?_) (fun hc40 => ?_)
            · omega
            · refine wp_aload_n rfl (ck_get kk_Mo_readsAgain 27 rfl) ?_
              refine wp_getR (ck_get kk_Mo_readsAgain 28 rfl) fl_Mo_118 (by assumption) (by assumption) ?_
              refine wp_iload_n rfl (ck_get kk_Mo_readsAgain 29 rfl) ?_
              first | refine wp_dup2l rfl (ck_get kk_Mo_readsAgain 30 rfl) ?_ | refine wp_dup2 rfl rfl (ck_get kk_Mo_readsAgain 30 rfl) ?_
              refine wp_laldv (v := H c) (ck_get kk_Mo_readsAgain 31 rfl) (by assumption) (ixk_nI (k := c) (by omega) (by omega)) (vh _ _) ?_
              refine wp_lconst (v := 1) (by decide) (ck_get kk_Mo_readsAgain 32 rfl) ?_
              refine wp_aload_n rfl (ck_get kk_Mo_readsAgain 33 rfl) ?_
              refine wp_iload_n rfl (ck_get kk_Mo_readsAgain 34 rfl) ?_
              refine wp_iload_n rfl (ck_get kk_Mo_readsAgain 35 rfl) ?_
              refine wp_iload_n rfl (ck_get kk_Mo_readsAgain 36 rfl) ?_
              refine wp_cV3i (ck_get kk_Mo_readsAgain 37 rfl) ml_Mo_479 (by omega) (Nat.le_of_ble_eq_true rfl) (by assumption) (Ci.to (m_whoLeaves (x := x) (by exact hM) ht hR hA2 hC.1 (fun k hk => by rw [u2n (by omega)]; exact hC.2.1 k hk) hO hi hn hp hc c1 c0) ?_)
              rintro _ M1 ⟨rfl, eqm1⟩
              obtain rfl := eqm1.symm
              refine wp_lshl (ck_get kk_Mo_readsAgain 38 rfl) ?_
              refine wp_ldc2 kl_Mo_413 (ck_get kk_Mo_readsAgain 39 rfl) ?_
              refine wp_lxor (ck_get kk_Mo_readsAgain 40 rfl) ?_
              refine wp_land (ck_get kk_Mo_readsAgain 41 rfl) ?_
              refine wp_last (ck_get kk_Mo_readsAgain 42 rfl) (by assumption) (ixk_nI (k := c) (by omega) (by omega)) ?_
              rw [rm_sh]
              exact hend (up1 x.1 (leaveP pol ks n i x) false) _ (by rw [up1_eq]; exact hC.1.out l2) (fun q hq => up1_ne hq) es (fun k hk => by
                by_cases e : k = leaveP pol ks n i x
                · subst e; exact l1
                · rw [up1_ne e] at hk; exact hk)
          · omega
        · exact absurd (by decide) hc15
      · have es : stepP pol ks n c i x = (up1 x.1 (fp ks i) true, up1 x.2.1 (fp ks i) i, x.2.2 + 1) := by
          unfold stepP; rw [if_neg (by rw [hb]; decide), if_neg c0, if_neg c1]
        have hcn := hO.2.1
        refine cw_entry 0 pf_Mo_readsAgain rfl ?_
        refine wp_aload_n rfl (ck_get kk_Mo_readsAgain 0 rfl) ?_
        refine wp_getR (ck_get kk_Mo_readsAgain 1 rfl) fl_Mo_118 (by assumption) (by assumption) ?_
        refine wp_iload_n rfl (ck_get kk_Mo_readsAgain 2 rfl) ?_
        refine wp_laldv (v := H c) (ck_get kk_Mo_readsAgain 3 rfl) (by assumption) (ixk_nI (k := c) (by omega) (by omega)) (vh _ _) ?_
        refine wp_aload_n rfl (ck_get kk_Mo_readsAgain 4 rfl) ?_
        refine wp_getR (ck_get kk_Mo_readsAgain 5 rfl) fl_Mo_109 (by assumption) (by assumption) ?_
        refine wp_iload_n rfl (ck_get kk_Mo_readsAgain 6 rfl) ?_
        refine wp_ialdv (v := nI (fp ks i)) (ck_get kk_Mo_readsAgain 7 rfl) (by assumption) (ixk_nI (k := i) (by omega) (by omega)) (v0 _ _ rfl) ?_
        refine wp_cS2i (ck_get kk_Mo_readsAgain 8 rfl) ml_Mo_468 (by omega) (Nat.le_of_ble_eq_true rfl) (Ci.to (m_isInB (by omega)) ?_)
        rintro _ M1 ⟨rfl, eqm1⟩
        obtain rfl := eqm1.symm
        rw [hbit]
        first | refine wp_if_eqN (t := 19) (ck_get kk_Mo_readsAgain 9 rfl) (by decide) (by omega) (fun hc15 => ?_) (fun hc15 => ?_) | refine wp_if_eq (t := 19) (ck_get kk_Mo_readsAgain 9 rfl) (by decide) (fun hc15 => ?_) (fun hc15 => ?_)
        · refine wp_aload_n rfl (ck_get kk_Mo_readsAgain 11 rfl) ?_
          refine wp_getR (ck_get kk_Mo_readsAgain 12 rfl) fl_Mo_124 (by assumption) (by assumption) ?_
          refine wp_iload_n rfl (ck_get kk_Mo_readsAgain 13 rfl) ?_
          first | refine wp_dup2l rfl (ck_get kk_Mo_readsAgain 14 rfl) ?_ | refine wp_dup2 rfl rfl (ck_get kk_Mo_readsAgain 14 rfl) ?_
          refine wp_ialdv (v := nI x.2.2) (ck_get kk_Mo_readsAgain 15 rfl) (by assumption) (ixk_nI (k := c) (by omega) (by omega)) (v5) ?_
          refine wp_iconst (v := nI 1) (by decide) (ck_get kk_Mo_readsAgain 16 rfl) ?_
          first | refine wp_iaddN (ck_get kk_Mo_readsAgain 17 rfl) ?_ | refine wp_iadd (ck_get kk_Mo_readsAgain 17 rfl) ?_
          refine wp_iast (ck_get kk_Mo_readsAgain 18 rfl) (by assumption) (ixk_nI (k := c) (by omega) (by omega)) ?_
          rw [rm_s5]
          refine wp_iload_n rfl (ck_get kk_Mo_readsAgain 19 rfl) ?_
          first | refine wp_if_neN (t := 34) (ck_get kk_Mo_readsAgain 20 rfl) (by decide) (by omega) (fun hc30 => ?_) (fun hc30 => ?_) | refine wp_if_ne (t := 34) (ck_get kk_Mo_readsAgain 20 rfl) (by decide) (fun hc30 => ?_) (fun hc30 => ?_)
          · refine wp_aload_n rfl (ck_get kk_Mo_readsAgain 22 rfl) ?_
            refine wp_iload_n rfl (ck_get kk_Mo_readsAgain 23 rfl) ?_
            refine wp_cV1i (ck_get kk_Mo_readsAgain 24 rfl) ml_Mo_476 (by omega) (Nat.le_of_ble_eq_true rfl) (by assumption) (Ci.to (m_heldMany (h := x.1) (by exact hM) hC.1 hc) ?_)
            rintro _ M1 ⟨rfl, eqm1⟩
            obtain rfl := eqm1.symm
            refine wp_iload_n rfl (ck_get kk_Mo_readsAgain 25 rfl) ?_
            first | refine wp_icmp_neN (t := 65) (ck_get kk_Mo_readsAgain 26 rfl) (by decide) (by omega) (by omega) (fun hc40 => ?_) (fun hc40 => ?_) | refine wp_icmp_ne (t := 65) (ck_get kk_Mo_readsAgain 26 rfl) (by decide) (fun hc40 => ?_) (fun hc40 => ?_)
            · exact hend x.1 H hC.1 (fun q _ => rfl) es (fun k hk => hk)
            · omega
          · omega
        · exact absurd (by decide) hc15
end MPN

/-! ===== the class plays a record: all reads ===== -/
section RPT2
variable {g : Gl} {M : Mem} {ks : Nat → Int32} {n : Nat}
theorem HwI.out {w : Int32} {h : Nat → Bool} {q : Nat} (hw : HwI ks n w h) (hq : fp ks q = q) (hqn : q < n) (hn : n ≤ 32) : HwI ks n (w &&& ((1 : Int32) <<< (nI (rk ks q) &&& 31) ^^^ (-1))) (up1 h q false) := by
  have hlt := rk_lt hq hqn
  have hrn : rk ks n ≤ n := rk_le n
  refine ⟨fun k h1 h2 => ?_, fun r h1 => ?_⟩
  · have hk := rk_lt h2 h1
    rw [bt_outI (by omega) (by omega)]
    by_cases e : k = q
    · subst e; rw [if_pos rfl, up1_eq]
    · rw [if_neg (fun w => e (rk_inj h2 hq w)), up1_ne e]; exact hw.1 k h1 h2
  · rcases Nat.lt_or_ge r 32 with c | c
    · rw [bt_outI (by omega) c, if_neg (by omega)]; exact hw.2 r h1
    · exact btI_hi c
theorem HwI.in {w : Int32} {h : Nat → Bool} {q : Nat} (hw : HwI ks n w h) (hq : fp ks q = q) (hqn : q < n) (hn : n ≤ 32) : HwI ks n (w ||| (1 : Int32) <<< (nI (rk ks q) &&& 31)) (up1 h q true) := by
  have hlt := rk_lt hq hqn
  have hrn : rk ks n ≤ n := rk_le n
  refine ⟨fun k h1 h2 => ?_, fun r h1 => ?_⟩
  · have hk := rk_lt h2 h1
    rw [bt_inI (by omega)]
    by_cases e : k = q
    · subst e; rw [if_pos rfl, up1_eq]
    · rw [if_neg (fun w => e (rk_inj h2 hq w)), up1_ne e]; exact hw.1 k h1 h2
  · rw [bt_inI (by omega), if_neg (by omega)]; exact hw.2 r h1
theorem HwI.zero : HwI ks n 0 (fun _ => false) := ⟨fun _ _ _ => btI_0 _, fun _ _ => btI_0 _⟩
theorem l_play {pol c : Nat} {G8 : Nat → Int32} (hR : ReAt (mT M) (mR M) 938) (hn : n ≤ 32) (hp : pol < 5) (hc : c ≤ 24) : ∀ d i G hw (x7 : Option Value), i + d = n → LdOK ks n G → PlN ks n i (simP pol ks n c i) G → (∀ j, j < i → HwI ks n (G 7 j) (simP pol ks n c (j + 1)).1) → (∀ j, G 8 j = G8 j) → HwI ks n hw (simP pol ks n c i).1 →
    Wp g Y_Re_play 3 19 [some (.ref 938), some (.int (nI pol)), some (.int (nI c)), some (.int hw), some (.int (nI (cnt (simP pol ks n c i).1 32))), some (.int (nI (simP pol ks n c i).2.2)), some (.int (nI i)), x7] [] (rcM M G) (fun r M2 => ∃ y, r = some (.int y) ∧ ∃ G, y = nI (simP pol ks n c n).2.2 ∧ M2 = rcM M G ∧ LdOK ks n G ∧ (∀ j, j < n → HwI ks n (G 7 j) (simP pol ks n c (j + 1)).1) ∧ ∀ j, G 8 j = G8 j) := by
  obtain ⟨t938, ⟨r2, t939⟩, ⟨r3, t940⟩, ⟨r4, t941⟩, ⟨r5, t942⟩, ⟨r6, t943⟩, ⟨r7, t944⟩, ⟨r8, t945⟩, -⟩ := hR.f
  have hrn : rk ks n ≤ n := rk_le n
  intro d
  induction d with
  | zero =>
    intro i G hw x7 h1 hL hN hB h8 hh
    obtain rfl : i = n := by omega
    have v0 : mI (rcM M G) 938 0 = nI i := by rw [rc_r0]; exact hL.1
    refine wp_iload rfl (ck_get kk_Re_play 12 rfl) ?_
    refine wp_aload_n rfl (ck_get kk_Re_play 13 rfl) ?_
    refine wp_getIv (v := nI i) (ck_get kk_Re_play 14 rfl) fl_Re_9 (by assumption) (v0) ?_
    first | refine wp_icmp_geN (t := 132) (ck_get kk_Re_play 15 rfl) (by decide) (by omega) (by omega) (fun hc25 => ?_) (fun hc25 => ?_) | refine wp_icmp_ge (t := 132) (ck_get kk_Re_play 15 rfl) (by decide) (fun hc25 => ?_) (fun hc25 => ?_)
    · refine wp_iload rfl (ck_get kk_Re_play 79 rfl) ?_
      refine wp_ireturn (ck_get kk_Re_play 80 rfl) rfl rfl ⟨_, rfl, ?_⟩
      exact ⟨G, rfl, rfl, hL, hB, h8⟩
    · omega
  | succ d ih =>
    intro i G hw x7 h1 hL hN hB h8 hh
    have hO := simP_ok (ks := ks) (n := n) (pol := pol) (c := c) i (by omega)
    have hst : simP pol ks n c (i + 1) = stepP pol ks n c i (simP pol ks n c i) := rfl
    generalize simP pol ks n c i = x at *
    have hfi := fp_le (ks := ks) i
    have hlt := rk_lt (fp_fp (ks := ks) i) (show fp ks i < n by omega)
    have v0 : mI (rcM M G) 938 0 = nI n := by rw [rc_r0]; exact hL.1
    have vw : mI (rcM M G) 939 i = nI (rk ks (fp ks i)) := by rw [rc_r1]; exact hL.2.2.1 i (by omega)
    have hbit : btI hw (rk ks (fp ks i)) = x.1 (fp ks i) := hh.1 _ (by omega) (fp_fp i)
    have hol := og_le (ks := ks) (fp ks i) i
    have h98 : ∀ (x' : PS) G hw, simP pol ks n c (i + 1) = x' → LdOK ks n G → (∀ k, x'.1 k = true → k ≠ fp ks i → G 4 (rk ks k) = nI (la ks i k)) → (∀ k, x'.1 k = true → G 5 (rk ks k) = nI (x'.2.1 k)) → (∀ k, k < n → fp ks k = k → G 6 (rk ks k) = nI (og ks i k)) → (∀ j, j < i → HwI ks n (G 7 j) (simP pol ks n c (j + 1)).1) → (∀ j, G 8 j = G8 j) → HwI ks n hw x'.1 →
        Wp g Y_Re_play 3 98 [some (.ref 938), some (.int (nI pol)), some (.int (nI c)), some (.int hw), some (.int (nI (cnt x'.1 32))), some (.int (nI x'.2.2)), some (.int (nI i)), some (.int (nI (rk ks (fp ks i))))] [] (rcM M G) (fun r M2 => ∃ y, r = some (.int y) ∧ ∃ G, y = nI (simP pol ks n c n).2.2 ∧ M2 = rcM M G ∧ LdOK ks n G ∧ (∀ j, j < n → HwI ks n (G 7 j) (simP pol ks n c (j + 1)).1) ∧ ∀ j, G 8 j = G8 j) := by
      intro x' G hw ex hL g4 g5 g6 hB h8 hh
      have hO1 := simP_ok (ks := ks) (n := n) (pol := pol) (c := c) (i + 1) (by omega)
      rw [ex] at hO1
      have vr : mI (rcM M (up2 G 4 (rk ks (fp ks i)) (nI i))) 944 (rk ks (fp ks i)) = nI (og ks i (fp ks i)) := by rw [rc_r6, u2n (by omega)]; exact g6 _ (by omega) (fp_fp i)
      refine wp_aload_n rfl (ck_get kk_Re_play 59 rfl) ?_
      refine wp_getR (ck_get kk_Re_play 60 rfl) fl_Re_28 (by assumption) (by assumption) ?_
      refine wp_iload rfl (ck_get kk_Re_play 61 rfl) ?_
      refine wp_iload rfl (ck_get kk_Re_play 62 rfl) ?_
      refine wp_iast (ck_get kk_Re_play 63 rfl) (by assumption) (ixk_nI (k := rk ks (fp ks i)) (by omega) (by omega)) ?_
      rw [rc_s4]
      refine wp_aload_n rfl (ck_get kk_Re_play 64 rfl) ?_
      refine wp_getR (ck_get kk_Re_play 65 rfl) fl_Re_34 (by assumption) (by assumption) ?_
      refine wp_iload rfl (ck_get kk_Re_play 66 rfl) ?_
      first | refine wp_dup2l rfl (ck_get kk_Re_play 67 rfl) ?_ | refine wp_dup2 rfl rfl (ck_get kk_Re_play 67 rfl) ?_
      refine wp_ialdv (v := nI (og ks i (fp ks i))) (ck_get kk_Re_play 68 rfl) (by assumption) (ixk_nI (k := rk ks (fp ks i)) (by omega) (by omega)) (vr) ?_
      refine wp_iconst (v := nI 1) (by decide) (ck_get kk_Re_play 69 rfl) ?_
      first | refine wp_iaddN (ck_get kk_Re_play 70 rfl) ?_ | refine wp_iadd (ck_get kk_Re_play 70 rfl) ?_
      refine wp_iast (ck_get kk_Re_play 71 rfl) (by assumption) (ixk_nI (k := rk ks (fp ks i)) (by omega) (by omega)) ?_
      rw [rc_s6]
      refine wp_aload_n rfl (ck_get kk_Re_play 72 rfl) ?_
      refine wp_getR (ck_get kk_Re_play 73 rfl) fl_Re_37 (by assumption) (by assumption) ?_
      refine wp_iload rfl (ck_get kk_Re_play 74 rfl) ?_
      refine wp_iload_n rfl (ck_get kk_Re_play 75 rfl) ?_
      refine wp_iast (ck_get kk_Re_play 76 rfl) (by assumption) (ixk_nI (k := i) (by omega) (by omega)) ?_
      rw [rc_s7]
      first | refine wp_iincN (ck_get kk_Re_play 77 rfl) rfl (by decide) rfl ?_ | refine wp_iinc (ck_get kk_Re_play 77 rfl) rfl (by decide) rfl ?_
      refine wp_goto (t := 19) (ck_get kk_Re_play 78 rfl) (by decide) ?_
      have := ih (i + 1) (up2 (up2 (up2 G 4 (rk ks (fp ks i)) (nI i)) 6 (rk ks (fp ks i)) (nI (og ks i (fp ks i) + 1))) 7 i hw) hw (some (.int (nI (rk ks (fp ks i))))) (by omega) (hL.c (fun a ha => by rw [u2n (by omega), u2n (by omega), u2n (by omega)])) ?_ (fun j hj => ?_) (fun j => by rw [u2n (by omega), u2n (by omega), u2n (by omega)]; exact h8 j) (by rw [ex]; exact hh)
      · rw [ex] at this
        exact this
      · rw [ex]
        refine ⟨fun k hk => ⟨?_, ?_⟩, fun k hk hk2 => ?_⟩
        · rw [u2n (by omega), u2n (by omega)]
          by_cases e : k = fp ks i
          · subst e; rw [u2e, la_1]
          · rw [u2k (fun q => e (rk_inj (hO1.1 k hk).1 (fp_fp i) q)), la_2 (Ne.symm e)]; exact g4 k hk e
        · rw [u2n (by omega), u2n (by omega), u2n (by omega)]; exact g5 k hk
        · rw [u2n (by omega)]
          by_cases e : k = fp ks i
          · subst e; rw [u2e, og_1]
          · rw [u2k (fun q => e (rk_inj hk2 (fp_fp i) q)), u2n (by omega), og_2 (Ne.symm e)]; exact g6 k hk hk2
      · by_cases e : j = i
        · subst e; rw [u2e, ex]; exact hh
        · rw [u2k e, u2n (by omega), u2n (by omega)]; exact hB j (by omega)
    cases hb : x.1 (fp ks i) with
    | true =>
      rw [hb] at hbit
      have e1 : simP pol ks n c (i + 1) = x := by rw [hst]; exact if_pos hb
      have hk := h98 x G hw e1 hL (fun k hk _ => (hN.1 k hk).1) (fun k hk => (hN.1 k hk).2) hN.2 hB h8 hh
      refine wp_iload rfl (ck_get kk_Re_play 12 rfl) ?_
      refine wp_aload_n rfl (ck_get kk_Re_play 13 rfl) ?_
      refine wp_getIv (v := nI n) (ck_get kk_Re_play 14 rfl) fl_Re_9 (by assumption) (v0) ?_
      first | refine wp_icmp_geN (t := 132) (ck_get kk_Re_play 15 rfl) (by decide) (by omega) (by omega) (fun hc25 => ?_) (fun hc25 => ?_) | refine wp_icmp_ge (t := 132) (ck_get kk_Re_play 15 rfl) (by decide) (fun hc25 => ?_) (fun hc25 => ?_)
      · omega
      · refine wp_aload_n rfl (ck_get kk_Re_play 16 rfl) ?_
        refine wp_getR (ck_get kk_Re_play 17 rfl) fl_Re_18 (by assumption) (by assumption) ?_
        refine wp_iload rfl (ck_get kk_Re_play 18 rfl) ?_
        refine wp_ialdv (v := nI (rk ks (fp ks i))) (ck_get kk_Re_play 19 rfl) (by assumption) (ixk_nI (k := i) (by omega) (by omega)) (vw) ?_
        refine wp_istore (ck_get kk_Re_play 20 rfl) (by decide) rfl ?_
        refine wp_iload_n rfl (ck_get kk_Re_play 21 rfl) ?_
        refine wp_iload rfl (ck_get kk_Re_play 22 rfl) ?_
        refine wp_iushr (ck_get kk_Re_play 23 rfl) ?_
        refine wp_iconst (v := nI 1) (by decide) (ck_get kk_Re_play 24 rfl) ?_
        refine wp_iand (ck_get kk_Re_play 25 rfl) ?_
        rw [bt_askI (by omega), hbit]
        refine wp_if_ne (t := 98) (ck_get kk_Re_play 26 rfl) (by decide) (fun hc43 => ?_) (fun hc43 => ?_)
        · exact hk
        · exact absurd hc43 (by decide)
    | false =>
      rw [hb] at hbit
      have hcn : cnt x.1 32 ≤ c := hO.2.1
      have hms := hO.2.2.1
      by_cases c0 : c = 0
      · have e1 : simP pol ks n c (i + 1) = (x.1, x.2.1, x.2.2 + 1) := by
          rw [hst]; unfold stepP; rw [if_neg (by rw [hb]; decide), if_pos c0]
        have hk := h98 (x.1, x.2.1, x.2.2 + 1) G hw e1 hL (fun k hk _ => (hN.1 k hk).1) (fun k hk => (hN.1 k hk).2) hN.2 hB h8 hh
        refine wp_iload rfl (ck_get kk_Re_play 12 rfl) ?_
        refine wp_aload_n rfl (ck_get kk_Re_play 13 rfl) ?_
        refine wp_getIv (v := nI n) (ck_get kk_Re_play 14 rfl) fl_Re_9 (by assumption) (v0) ?_
        first | refine wp_icmp_geN (t := 132) (ck_get kk_Re_play 15 rfl) (by decide) (by omega) (by omega) (fun hc25 => ?_) (fun hc25 => ?_) | refine wp_icmp_ge (t := 132) (ck_get kk_Re_play 15 rfl) (by decide) (fun hc25 => ?_) (fun hc25 => ?_)
        · omega
        · refine wp_aload_n rfl (ck_get kk_Re_play 16 rfl) ?_
          refine wp_getR (ck_get kk_Re_play 17 rfl) fl_Re_18 (by assumption) (by assumption) ?_
          refine wp_iload rfl (ck_get kk_Re_play 18 rfl) ?_
          refine wp_ialdv (v := nI (rk ks (fp ks i))) (ck_get kk_Re_play 19 rfl) (by assumption) (ixk_nI (k := i) (by omega) (by omega)) (vw) ?_
          refine wp_istore (ck_get kk_Re_play 20 rfl) (by decide) rfl ?_
          refine wp_iload_n rfl (ck_get kk_Re_play 21 rfl) ?_
          refine wp_iload rfl (ck_get kk_Re_play 22 rfl) ?_
          refine wp_iushr (ck_get kk_Re_play 23 rfl) ?_
          refine wp_iconst (v := nI 1) (by decide) (ck_get kk_Re_play 24 rfl) ?_
          refine wp_iand (ck_get kk_Re_play 25 rfl) ?_
          rw [bt_askI (by omega), hbit]
          refine wp_if_ne (t := 98) (ck_get kk_Re_play 26 rfl) (by decide) (fun hc43 => ?_) (fun hc43 => ?_)
          · exact absurd rfl hc43
          · first | refine wp_iincN (ck_get kk_Re_play 27 rfl) rfl (by decide) rfl ?_ | refine wp_iinc (ck_get kk_Re_play 27 rfl) rfl (by decide) rfl ?_
            refine wp_iload rfl (ck_get kk_Re_play 28 rfl) ?_
            refine wp_iload_n rfl (ck_get kk_Re_play 29 rfl) ?_
            first | refine wp_icmp_geN (t := 61) (ck_get kk_Re_play 30 rfl) (by decide) (by omega) (by omega) (fun hc52 => ?_) (fun hc52 => ?_) | refine wp_icmp_ge (t := 61) (ck_get kk_Re_play 30 rfl) (by decide) (fun hc52 => ?_) (fun hc52 => ?_)
            · refine wp_iload_n rfl (ck_get kk_Re_play 33 rfl) ?_
              first | refine wp_if_leN (t := 78) (ck_get kk_Re_play 34 rfl) (by decide) (by omega) (fun hc62 => ?_) (fun hc62 => ?_) | refine wp_if_le (t := 78) (ck_get kk_Re_play 34 rfl) (by decide) (fun hc62 => ?_) (fun hc62 => ?_)
              · refine wp_iload_n rfl (ck_get kk_Re_play 46 rfl) ?_
                first | refine wp_if_leN (t := 98) (ck_get kk_Re_play 47 rfl) (by decide) (by omega) (fun hc79 => ?_) (fun hc79 => ?_) | refine wp_if_le (t := 98) (ck_get kk_Re_play 47 rfl) (by decide) (fun hc79 => ?_) (fun hc79 => ?_)
                · exact hk
                · omega
              · omega
            · omega
      · by_cases c1 : cnt x.1 32 = c
        · obtain ⟨l1, l2, l3⟩ := hO.leave (pol := pol) (n := n) c1 c0
          have hlq := hO.1 _ l1
          have e1 : simP pol ks n c (i + 1) = (up1 (up1 x.1 (leaveP pol ks n i x) false) (fp ks i) true, up1 x.2.1 (fp ks i) i, x.2.2 + 1) := by
            rw [hst]; unfold stepP; rw [if_neg (by rw [hb]; decide), if_neg c0, if_pos c1]
          have hne : fp ks i ≠ leaveP pol ks n i x := fun e => by rw [← e, hb] at l1; cases l1
          have hcq : cnt (up1 (up1 x.1 (leaveP pol ks n i x) false) (fp ks i) true) 32 = cnt x.1 32 := by
            have q1 := cnt_t (h := up1 x.1 (leaveP pol ks n i x) false) (f := fp ks i) (by rw [up1_ne hne]; exact hb) 32
            have q2 := cnt_f l1 32
            rw [if_pos (by omega)] at q1
            rw [if_pos l2] at q2
            omega
          have hh2 := (hh.out hlq.1 (by omega) hn).in (fp_fp (ks := ks) i) (by omega) hn
          have hhd : ∀ k, up1 (up1 x.1 (leaveP pol ks n i x) false) (fp ks i) true k = true → k ≠ fp ks i → x.1 k = true := fun k q e => by
            rw [up1_ne e] at q
            by_cases e2 : k = leaveP pol ks n i x
            · subst e2; exact l1
            · rw [up1_ne e2] at q; exact q
          have hfk : ∀ k, up1 (up1 x.1 (leaveP pol ks n i x) false) (fp ks i) true k = true → fp ks k = k := fun k q => by
            by_cases e : k = fp ks i
            · subst e; exact fp_fp i
            · exact (hO.1 k (hhd k q e)).1
          have hk := h98 _ (up2 G 5 (rk ks (fp ks i)) (nI i)) _ e1 (hL.c (fun a ha => u2n (by omega))) (fun k hk e => by rw [u2n (by omega)]; exact (hN.1 k (hhd k hk e)).1) (fun k hk => by
            by_cases e : k = fp ks i
            · subst e
              rw [u2e]
              show nI i = nI (up1 x.2.1 (fp ks i) i (fp ks i))
              rw [up1_eq]
            · rw [u2k (fun q => e (rk_inj (hfk k hk) (fp_fp i) q))]
              show G 5 (rk ks k) = nI (up1 x.2.1 (fp ks i) i k)
              rw [up1_ne e]; exact (hN.1 k (hhd k hk e)).2) (fun k hk hk2 => by rw [u2n (by omega)]; exact hN.2 k hk hk2) (fun j hj => by rw [u2n (by omega)]; exact hB j hj) (fun j => by rw [u2n (by omega)]; exact h8 j) hh2
          have hk : Wp g Y_Re_play 3 98 [some (.ref 938), some (.int (nI pol)), some (.int (nI c)), some (.int (hw &&& ((1 : Int32) <<< (nI (rk ks (leaveP pol ks n i x)) &&& 31) ^^^ (-1)) ||| (1 : Int32) <<< (nI (rk ks (fp ks i)) &&& 31))), some (.int (nI (cnt (up1 (up1 x.1 (leaveP pol ks n i x) false) (fp ks i) true) 32))), some (.int (nI (x.2.2 + 1))), some (.int (nI i)), some (.int (nI (rk ks (fp ks i))))] [] _ _ := hk
          rw [hcq] at hk
          refine wp_iload rfl (ck_get kk_Re_play 12 rfl) ?_
          refine wp_aload_n rfl (ck_get kk_Re_play 13 rfl) ?_
          refine wp_getIv (v := nI n) (ck_get kk_Re_play 14 rfl) fl_Re_9 (by assumption) (v0) ?_
          first | refine wp_icmp_geN (t := 132) (ck_get kk_Re_play 15 rfl) (by decide) (by omega) (by omega) (fun hc25 => ?_) (fun hc25 => ?_) | refine wp_icmp_ge (t := 132) (ck_get kk_Re_play 15 rfl) (by decide) (fun hc25 => ?_) (fun hc25 => ?_)
          · omega
          · refine wp_aload_n rfl (ck_get kk_Re_play 16 rfl) ?_
            refine wp_getR (ck_get kk_Re_play 17 rfl) fl_Re_18 (by assumption) (by assumption) ?_
            refine wp_iload rfl (ck_get kk_Re_play 18 rfl) ?_
            refine wp_ialdv (v := nI (rk ks (fp ks i))) (ck_get kk_Re_play 19 rfl) (by assumption) (ixk_nI (k := i) (by omega) (by omega)) (vw) ?_
            refine wp_istore (ck_get kk_Re_play 20 rfl) (by decide) rfl ?_
            refine wp_iload_n rfl (ck_get kk_Re_play 21 rfl) ?_
            refine wp_iload rfl (ck_get kk_Re_play 22 rfl) ?_
            refine wp_iushr (ck_get kk_Re_play 23 rfl) ?_
            refine wp_iconst (v := nI 1) (by decide) (ck_get kk_Re_play 24 rfl) ?_
            refine wp_iand (ck_get kk_Re_play 25 rfl) ?_
            rw [bt_askI (by omega), hbit]
            refine wp_if_ne (t := 98) (ck_get kk_Re_play 26 rfl) (by decide) (fun hc43 => ?_) (fun hc43 => ?_)
            · exact absurd rfl hc43
            · first | refine wp_iincN (ck_get kk_Re_play 27 rfl) rfl (by decide) rfl ?_ | refine wp_iinc (ck_get kk_Re_play 27 rfl) rfl (by decide) rfl ?_
              refine wp_iload rfl (ck_get kk_Re_play 28 rfl) ?_
              refine wp_iload_n rfl (ck_get kk_Re_play 29 rfl) ?_
              first | refine wp_icmp_geN (t := 61) (ck_get kk_Re_play 30 rfl) (by decide) (by omega) (by omega) (fun hc52 => ?_) (fun hc52 => ?_) | refine wp_icmp_ge (t := 61) (ck_get kk_Re_play 30 rfl) (by decide) (fun hc52 => ?_) (fun hc52 => ?_)
              · refine wp_iload_n rfl (ck_get kk_Re_play 33 rfl) ?_
                first | refine wp_if_leN (t := 78) (ck_get kk_Re_play 34 rfl) (by decide) (by omega) (fun hc62 => ?_) (fun hc62 => ?_) | refine wp_if_le (t := 78) (ck_get kk_Re_play 34 rfl) (by decide) (fun hc62 => ?_) (fun hc62 => ?_)
                · omega
                · refine wp_iload_n rfl (ck_get kk_Re_play 35 rfl) ?_
                  refine wp_iconst (v := nI 1) (by decide) (ck_get kk_Re_play 36 rfl) ?_
                  refine wp_aload_n rfl (ck_get kk_Re_play 37 rfl) ?_
                  refine wp_iload_n rfl (ck_get kk_Re_play 38 rfl) ?_
                  refine wp_iload_n rfl (ck_get kk_Re_play 39 rfl) ?_
                  refine wp_cV2i (ck_get kk_Re_play 40 rfl) ml_Re_61 (by omega) (Nat.le_of_ble_eq_true rfl) (by assumption) (Ci.to (c_leaving hR hL hN hO (by omega) hn hp hb hh c1 c0) ?_)
                  rintro _ M1 ⟨rfl, eqm1⟩
                  obtain rfl := eqm1.symm
                  refine wp_ishl (ck_get kk_Re_play 41 rfl) ?_
                  refine wp_iconst (v := (-1)) (by decide) (ck_get kk_Re_play 42 rfl) ?_
                  refine wp_ixor (ck_get kk_Re_play 43 rfl) ?_
                  refine wp_iand (ck_get kk_Re_play 44 rfl) ?_
                  refine wp_istore_n (ck_get kk_Re_play 45 rfl) (by decide) rfl ?_
                  refine wp_iload_n rfl (ck_get kk_Re_play 46 rfl) ?_
                  first | refine wp_if_leN (t := 98) (ck_get kk_Re_play 47 rfl) (by decide) (by omega) (fun hc79 => ?_) (fun hc79 => ?_) | refine wp_if_le (t := 98) (ck_get kk_Re_play 47 rfl) (by decide) (fun hc79 => ?_) (fun hc79 => ?_)
                  · omega
                  · refine wp_iload_n rfl (ck_get kk_Re_play 48 rfl) ?_
                    refine wp_iconst (v := nI 1) (by decide) (ck_get kk_Re_play 49 rfl) ?_
                    refine wp_iload rfl (ck_get kk_Re_play 50 rfl) ?_
                    refine wp_ishl (ck_get kk_Re_play 51 rfl) ?_
                    refine wp_ior (ck_get kk_Re_play 52 rfl) ?_
                    refine wp_istore_n (ck_get kk_Re_play 53 rfl) (by decide) rfl ?_
                    refine wp_aload_n rfl (ck_get kk_Re_play 54 rfl) ?_
                    refine wp_getR (ck_get kk_Re_play 55 rfl) fl_Re_31 (by assumption) (by assumption) ?_
                    refine wp_iload rfl (ck_get kk_Re_play 56 rfl) ?_
                    refine wp_iload rfl (ck_get kk_Re_play 57 rfl) ?_
                    refine wp_iast (ck_get kk_Re_play 58 rfl) (by assumption) (ixk_nI (k := rk ks (fp ks i)) (by omega) (by omega)) ?_
                    rw [rc_s5]
                    exact hk
              · omega
        · have e1 : simP pol ks n c (i + 1) = (up1 x.1 (fp ks i) true, up1 x.2.1 (fp ks i) i, x.2.2 + 1) := by
            rw [hst]; unfold stepP; rw [if_neg (by rw [hb]; decide), if_neg c0, if_neg c1]
          have hcq : cnt (up1 x.1 (fp ks i) true) 32 = cnt x.1 32 + 1 := by
            rw [cnt_t hb, if_pos (by omega)]
          have hh2 := hh.in (fp_fp (ks := ks) i) (by omega) hn
          have hhd : ∀ k, up1 x.1 (fp ks i) true k = true → k ≠ fp ks i → x.1 k = true := fun k q e => by
            rw [up1_ne e] at q; exact q
          have hfk : ∀ k, up1 x.1 (fp ks i) true k = true → fp ks k = k := fun k q => by
            by_cases e : k = fp ks i
            · subst e; exact fp_fp i
            · exact (hO.1 k (hhd k q e)).1
          have hk := h98 _ (up2 G 5 (rk ks (fp ks i)) (nI i)) _ e1 (hL.c (fun a ha => u2n (by omega))) (fun k hk e => by rw [u2n (by omega)]; exact (hN.1 k (hhd k hk e)).1) (fun k hk => by
            by_cases e : k = fp ks i
            · subst e
              rw [u2e]
              show nI i = nI (up1 x.2.1 (fp ks i) i (fp ks i))
              rw [up1_eq]
            · rw [u2k (fun q => e (rk_inj (hfk k hk) (fp_fp i) q))]
              show G 5 (rk ks k) = nI (up1 x.2.1 (fp ks i) i k)
              rw [up1_ne e]; exact (hN.1 k (hhd k hk e)).2) (fun k hk hk2 => by rw [u2n (by omega)]; exact hN.2 k hk hk2) (fun j hj => by rw [u2n (by omega)]; exact hB j hj) (fun j => by rw [u2n (by omega)]; exact h8 j) hh2
          have hk : Wp g Y_Re_play 3 98 [some (.ref 938), some (.int (nI pol)), some (.int (nI c)), some (.int (hw ||| (1 : Int32) <<< (nI (rk ks (fp ks i)) &&& 31))), some (.int (nI (cnt (up1 x.1 (fp ks i) true) 32))), some (.int (nI (x.2.2 + 1))), some (.int (nI i)), some (.int (nI (rk ks (fp ks i))))] [] _ _ := hk
          rw [hcq] at hk
          refine wp_iload rfl (ck_get kk_Re_play 12 rfl) ?_
          refine wp_aload_n rfl (ck_get kk_Re_play 13 rfl) ?_
          refine wp_getIv (v := nI n) (ck_get kk_Re_play 14 rfl) fl_Re_9 (by assumption) (v0) ?_
          first | refine wp_icmp_geN (t := 132) (ck_get kk_Re_play 15 rfl) (by decide) (by omega) (by omega) (fun hc25 => ?_) (fun hc25 => ?_) | refine wp_icmp_ge (t := 132) (ck_get kk_Re_play 15 rfl) (by decide) (fun hc25 => ?_) (fun hc25 => ?_)
          · omega
          · refine wp_aload_n rfl (ck_get kk_Re_play 16 rfl) ?_
            refine wp_getR (ck_get kk_Re_play 17 rfl) fl_Re_18 (by assumption) (by assumption) ?_
            refine wp_iload rfl (ck_get kk_Re_play 18 rfl) ?_
            refine wp_ialdv (v := nI (rk ks (fp ks i))) (ck_get kk_Re_play 19 rfl) (by assumption) (ixk_nI (k := i) (by omega) (by omega)) (vw) ?_
            refine wp_istore (ck_get kk_Re_play 20 rfl) (by decide) rfl ?_
            refine wp_iload_n rfl (ck_get kk_Re_play 21 rfl) ?_
            refine wp_iload rfl (ck_get kk_Re_play 22 rfl) ?_
            refine wp_iushr (ck_get kk_Re_play 23 rfl) ?_
            refine wp_iconst (v := nI 1) (by decide) (ck_get kk_Re_play 24 rfl) ?_
            refine wp_iand (ck_get kk_Re_play 25 rfl) ?_
            rw [bt_askI (by omega), hbit]
            refine wp_if_ne (t := 98) (ck_get kk_Re_play 26 rfl) (by decide) (fun hc43 => ?_) (fun hc43 => ?_)
            · exact absurd rfl hc43
            · first | refine wp_iincN (ck_get kk_Re_play 27 rfl) rfl (by decide) rfl ?_ | refine wp_iinc (ck_get kk_Re_play 27 rfl) rfl (by decide) rfl ?_
              refine wp_iload rfl (ck_get kk_Re_play 28 rfl) ?_
              refine wp_iload_n rfl (ck_get kk_Re_play 29 rfl) ?_
              first | refine wp_icmp_geN (t := 61) (ck_get kk_Re_play 30 rfl) (by decide) (by omega) (by omega) (fun hc52 => ?_) (fun hc52 => ?_) | refine wp_icmp_ge (t := 61) (ck_get kk_Re_play 30 rfl) (by decide) (fun hc52 => ?_) (fun hc52 => ?_)
              · omega
              · first | refine wp_iincN (ck_get kk_Re_play 31 rfl) rfl (by decide) rfl ?_ | refine wp_iinc (ck_get kk_Re_play 31 rfl) rfl (by decide) rfl ?_
                refine wp_goto (t := 78) (ck_get kk_Re_play 32 rfl) (by decide) ?_
                refine wp_iload_n rfl (ck_get kk_Re_play 46 rfl) ?_
                first | refine wp_if_leN (t := 98) (ck_get kk_Re_play 47 rfl) (by decide) (by omega) (fun hc79 => ?_) (fun hc79 => ?_) | refine wp_if_le (t := 98) (ck_get kk_Re_play 47 rfl) (by decide) (fun hc79 => ?_) (fun hc79 => ?_)
                · omega
                · refine wp_iload_n rfl (ck_get kk_Re_play 48 rfl) ?_
                  refine wp_iconst (v := nI 1) (by decide) (ck_get kk_Re_play 49 rfl) ?_
                  refine wp_iload rfl (ck_get kk_Re_play 50 rfl) ?_
                  refine wp_ishl (ck_get kk_Re_play 51 rfl) ?_
                  refine wp_ior (ck_get kk_Re_play 52 rfl) ?_
                  refine wp_istore_n (ck_get kk_Re_play 53 rfl) (by decide) rfl ?_
                  refine wp_aload_n rfl (ck_get kk_Re_play 54 rfl) ?_
                  refine wp_getR (ck_get kk_Re_play 55 rfl) fl_Re_31 (by assumption) (by assumption) ?_
                  refine wp_iload rfl (ck_get kk_Re_play 56 rfl) ?_
                  refine wp_iload rfl (ck_get kk_Re_play 57 rfl) ?_
                  refine wp_iast (ck_get kk_Re_play 58 rfl) (by assumption) (ixk_nI (k := rk ks (fp ks i)) (by omega) (by omega)) ?_
                  rw [rc_s5]
                  exact hk
theorem c_play {pol c : Nat} {G0 : Nat → Nat → Int32} (hR : ReAt (mT M) (mR M) 938) (hn : n ≤ 32) (hp : pol < 5) (hc : c ≤ 24) (hL : LdOK ks n G0) : Ci g Y_Re_play 3 [.ref 938, .int (nI pol), .int (nI c)] (rcM M G0) (fun y M2 => ∃ G, y = nI (simP pol ks n c n).2.2 ∧ M2 = rcM M G ∧ LdOK ks n G ∧ (∀ j, j < n → HwI ks n (G 7 j) (simP pol ks n c (j + 1)).1) ∧ ∀ j, G 8 j = G0 8 j) := by
  obtain ⟨t938, -, -, -, -, -, ⟨r7, t944⟩, -⟩ := hR.f
  have hrn : rk ks n ≤ n := rk_le n
  refine cw_entry 5 pf_Re_play rfl ?_
  refine wp_aload_n rfl (ck_get kk_Re_play 0 rfl) ?_
  refine wp_getR (ck_get kk_Re_play 1 rfl) fl_Re_34 (by assumption) (by assumption) ?_
  refine wp_iconst (v := nI 0) (by decide) (ck_get kk_Re_play 2 rfl) ?_
  refine wp_cS2v (ck_get kk_Re_play 3 rfl) ml_Re_55 (by omega) (Nat.le_of_ble_eq_true rfl) (Cv.to (c_fillI (a := 944) (len := 32) (by exact t944) (by omega)) ?_)
  rintro M1 w1
  rw [rc_f6] at w1
  subst w1
  refine wp_iconst (v := nI 0) (by decide) (ck_get kk_Re_play 4 rfl) ?_
  refine wp_istore_n (ck_get kk_Re_play 5 rfl) (by decide) rfl ?_
  refine wp_iconst (v := nI 0) (by decide) (ck_get kk_Re_play 6 rfl) ?_
  refine wp_istore (ck_get kk_Re_play 7 rfl) (by decide) rfl ?_
  refine wp_iconst (v := nI 0) (by decide) (ck_get kk_Re_play 8 rfl) ?_
  refine wp_istore (ck_get kk_Re_play 9 rfl) (by decide) rfl ?_
  refine wp_iconst (v := nI 0) (by decide) (ck_get kk_Re_play 10 rfl) ?_
  refine wp_istore (ck_get kk_Re_play 11 rfl) (by decide) rfl ?_
  refine l_play (c := c) hR hn hp hc n 0 _ _ none (by omega) (hL.c (fun a ha => up1_ne (by omega))) ⟨fun k q => absurd q Bool.false_ne_true, fun k hk hk2 => ?_⟩ (fun j hj => absurd hj (Nat.not_lt_zero _)) (fun j => by rw [up1_ne (by omega)]) HwI.zero
  have hlt := rk_lt hk2 hk
  rw [up1_eq]
  exact if_pos (by omega)
end RPT2

/-! ===== the class plays a record ===== -/
section RPL
variable {g : Gl} {M : Mem} {ks : Nat → Int32} {n : Nat}
/-- a word of what is held -/
def HwI (ks : Nat → Int32) (n : Nat) (w : Int32) (h : Nat → Bool) : Prop := (∀ k, k < n → fp ks k = k → btI w (rk ks k) = h k) ∧ ∀ r, rk ks n ≤ r → btI w r = false
/-- numbers of those that are held, at read i -/
def PlN (ks : Nat → Int32) (n i : Nat) (x : PS) (G : Nat → Nat → Int32) : Prop := (∀ k, x.1 k = true → G 4 (rk ks k) = nI (la ks i k) ∧ G 5 (rk ks k) = nI (x.2.1 k)) ∧ ∀ k, k < n → fp ks k = k → G 6 (rk ks k) = nI (og ks i k)
def enI (ks : Nat → Int32) : Option Nat → Int32
  | none => -1
  | some k => nI (rk ks k)
theorem c_reAhead {pol i k o : Nat} {x : PS} {G : Nat → Nat → Int32} {c : Nat} (hR : ReAt (mT M) (mR M) 938) (hL : LdOK ks n G) (hN : PlN ks n i x G) (hO : POK ks c i x) (hi : i < n) (hn : n ≤ 32) (hp : pol < 5) (hf : x.1 (fp ks i) = false) (hk : x.1 k = true) (ho : x.1 o = true) : Ci g Y_Re_leavesAhead 0 [.ref 938, .int (nI pol), .int (nI (rk ks k)), .int (nI (rk ks o))] (rcM M G) (fun y M2 => y = bI (lvA pol ks n i x.2.1 k o) ∧ M2 = rcM M G) := by
  obtain ⟨t938, ⟨r2, t939⟩, ⟨r3, t940⟩, ⟨r4, t941⟩, ⟨r5, t942⟩, ⟨r6, t943⟩, ⟨r7, t944⟩, -, -⟩ := hR.f
  obtain ⟨k1, k2⟩ := hO.1 k hk
  obtain ⟨o1, o2⟩ := hO.1 o ho
  have kr := rk_lt k1 (show k < n by omega)
  have or2 := rk_lt o1 (show o < n by omega)
  have hrn : rk ks n ≤ n := rk_le n
  have kg := (og_pos k1 i).mp k2
  have og2 := (og_pos o1 i).mp o2
  have kl := la_ok k i kg
  have ol := la_ok o i og2
  have kle := og_le (ks := ks) k i
  have ole := og_le (ks := ks) o i
  have vk : mI (rcM M G) 942 (rk ks k) = nI (la ks i k) := by rw [rc_r4]; exact (hN.1 k hk).1
  have vo : mI (rcM M G) 942 (rk ks o) = nI (la ks i o) := by rw [rc_r4]; exact (hN.1 o ho).1
  rcases (show pol = 0 ∨ pol = 1 ∨ pol = 2 ∨ pol = 3 ∨ pol = 4 by omega) with rfl | rfl | rfl | rfl | rfl
  · have hA : lvA 0 ks n i x.2.1 k o = decide (la ks i k < la ks i o) := rfl
    rw [hA]
    refine cw_entry 2 pf_Re_leavesAhead rfl ?_
    refine wp_iload_n rfl (ck_get kk_Re_leavesAhead 0 rfl) ?_
    refine wp_tabIn (t := 32) (off := 31) (ck_get kk_Re_leavesAhead 1 rfl) (by decide) (by decide) rfl (by decide) ?_
    refine wp_aload_n rfl (ck_get kk_Re_leavesAhead 2 rfl) ?_
    refine wp_getR (ck_get kk_Re_leavesAhead 3 rfl) fl_Re_28 (by assumption) (by assumption) ?_
    refine wp_iload_n rfl (ck_get kk_Re_leavesAhead 4 rfl) ?_
    refine wp_ialdv (v := nI (la ks i k)) (ck_get kk_Re_leavesAhead 5 rfl) (by assumption) (ixk_nI (k := rk ks k) (by omega) (by omega)) (vk) ?_
    refine wp_aload_n rfl (ck_get kk_Re_leavesAhead 6 rfl) ?_
    refine wp_getR (ck_get kk_Re_leavesAhead 7 rfl) fl_Re_28 (by assumption) (by assumption) ?_
    refine wp_iload_n rfl (ck_get kk_Re_leavesAhead 8 rfl) ?_
    refine wp_ialdv (v := nI (la ks i o)) (ck_get kk_Re_leavesAhead 9 rfl) (by assumption) (ixk_nI (k := rk ks o) (by omega) (by omega)) (vo) ?_
    first | refine wp_icmp_geN (t := 51) (ck_get kk_Re_leavesAhead 10 rfl) (by decide) (by omega) (by omega) (fun hc44 => ?_) (fun hc44 => ?_) | refine wp_icmp_ge (t := 51) (ck_get kk_Re_leavesAhead 10 rfl) (by decide) (fun hc44 => ?_) (fun hc44 => ?_)
    · refine wp_iconst (v := nI 0) (by decide) (ck_get kk_Re_leavesAhead 13 rfl) ?_
      refine wp_ireturn (ck_get kk_Re_leavesAhead 14 rfl) rfl rfl ⟨_, rfl, ?_⟩
      exact ⟨by rw [decide_eq_false (by omega)]; rfl, rfl⟩
    · refine wp_iconst (v := nI 1) (by decide) (ck_get kk_Re_leavesAhead 11 rfl) ?_
      refine wp_goto (t := 52) (ck_get kk_Re_leavesAhead 12 rfl) (by decide) ?_
      refine wp_ireturn (ck_get kk_Re_leavesAhead 14 rfl) rfl rfl ⟨_, rfl, ?_⟩
      exact ⟨by rw [decide_eq_true (by omega)]; rfl, rfl⟩
  · have hA : lvA 1 ks n i x.2.1 k o = decide (la ks i o < la ks i k) := rfl
    rw [hA]
    refine cw_entry 2 pf_Re_leavesAhead rfl ?_
    refine wp_iload_n rfl (ck_get kk_Re_leavesAhead 0 rfl) ?_
    refine wp_tabIn (t := 53) (off := 52) (ck_get kk_Re_leavesAhead 1 rfl) (by decide) (by decide) rfl (by decide) ?_
    refine wp_aload_n rfl (ck_get kk_Re_leavesAhead 15 rfl) ?_
    refine wp_getR (ck_get kk_Re_leavesAhead 16 rfl) fl_Re_28 (by assumption) (by assumption) ?_
    refine wp_iload_n rfl (ck_get kk_Re_leavesAhead 17 rfl) ?_
    refine wp_ialdv (v := nI (la ks i k)) (ck_get kk_Re_leavesAhead 18 rfl) (by assumption) (ixk_nI (k := rk ks k) (by omega) (by omega)) (vk) ?_
    refine wp_aload_n rfl (ck_get kk_Re_leavesAhead 19 rfl) ?_
    refine wp_getR (ck_get kk_Re_leavesAhead 20 rfl) fl_Re_28 (by assumption) (by assumption) ?_
    refine wp_iload_n rfl (ck_get kk_Re_leavesAhead 21 rfl) ?_
    refine wp_ialdv (v := nI (la ks i o)) (ck_get kk_Re_leavesAhead 22 rfl) (by assumption) (ixk_nI (k := rk ks o) (by omega) (by omega)) (vo) ?_
    first | refine wp_icmp_leN (t := 72) (ck_get kk_Re_leavesAhead 23 rfl) (by decide) (by omega) (by omega) (fun hc65 => ?_) (fun hc65 => ?_) | refine wp_icmp_le (t := 72) (ck_get kk_Re_leavesAhead 23 rfl) (by decide) (fun hc65 => ?_) (fun hc65 => ?_)
    · refine wp_iconst (v := nI 0) (by decide) (ck_get kk_Re_leavesAhead 26 rfl) ?_
      refine wp_ireturn (ck_get kk_Re_leavesAhead 27 rfl) rfl rfl ⟨_, rfl, ?_⟩
      exact ⟨by rw [decide_eq_false (by omega)]; rfl, rfl⟩
    · refine wp_iconst (v := nI 1) (by decide) (ck_get kk_Re_leavesAhead 24 rfl) ?_
      refine wp_goto (t := 73) (ck_get kk_Re_leavesAhead 25 rfl) (by decide) ?_
      refine wp_ireturn (ck_get kk_Re_leavesAhead 27 rfl) rfl rfl ⟨_, rfl, ?_⟩
      exact ⟨by rw [decide_eq_true (by omega)]; rfl, rfl⟩
  · have hA : lvA 2 ks n i x.2.1 k o = decide (x.2.1 k < x.2.1 o) := rfl
    have sk : mI (rcM M G) 943 (rk ks k) = nI (x.2.1 k) := by rw [rc_r5]; exact (hN.1 k hk).2
    have so : mI (rcM M G) 943 (rk ks o) = nI (x.2.1 o) := by rw [rc_r5]; exact (hN.1 o ho).2
    have sk2 := hO.2.2.2 k hk
    have so2 := hO.2.2.2 o ho
    rw [hA]
    refine cw_entry 2 pf_Re_leavesAhead rfl ?_
    refine wp_iload_n rfl (ck_get kk_Re_leavesAhead 0 rfl) ?_
    refine wp_tabIn (t := 74) (off := 73) (ck_get kk_Re_leavesAhead 1 rfl) (by decide) (by decide) rfl (by decide) ?_
    refine wp_aload_n rfl (ck_get kk_Re_leavesAhead 28 rfl) ?_
    refine wp_getR (ck_get kk_Re_leavesAhead 29 rfl) fl_Re_31 (by assumption) (by assumption) ?_
    refine wp_iload_n rfl (ck_get kk_Re_leavesAhead 30 rfl) ?_
    refine wp_ialdv (v := nI (x.2.1 k)) (ck_get kk_Re_leavesAhead 31 rfl) (by assumption) (ixk_nI (k := rk ks k) (by omega) (by omega)) (sk) ?_
    refine wp_aload_n rfl (ck_get kk_Re_leavesAhead 32 rfl) ?_
    refine wp_getR (ck_get kk_Re_leavesAhead 33 rfl) fl_Re_31 (by assumption) (by assumption) ?_
    refine wp_iload_n rfl (ck_get kk_Re_leavesAhead 34 rfl) ?_
    refine wp_ialdv (v := nI (x.2.1 o)) (ck_get kk_Re_leavesAhead 35 rfl) (by assumption) (ixk_nI (k := rk ks o) (by omega) (by omega)) (so) ?_
    first | refine wp_icmp_geN (t := 93) (ck_get kk_Re_leavesAhead 36 rfl) (by decide) (by omega) (by omega) (fun hc86 => ?_) (fun hc86 => ?_) | refine wp_icmp_ge (t := 93) (ck_get kk_Re_leavesAhead 36 rfl) (by decide) (fun hc86 => ?_) (fun hc86 => ?_)
    · refine wp_iconst (v := nI 0) (by decide) (ck_get kk_Re_leavesAhead 39 rfl) ?_
      refine wp_ireturn (ck_get kk_Re_leavesAhead 40 rfl) rfl rfl ⟨_, rfl, ?_⟩
      exact ⟨by rw [decide_eq_false (by omega)]; rfl, rfl⟩
    · refine wp_iconst (v := nI 1) (by decide) (ck_get kk_Re_leavesAhead 37 rfl) ?_
      refine wp_goto (t := 94) (ck_get kk_Re_leavesAhead 38 rfl) (by decide) ?_
      refine wp_ireturn (ck_get kk_Re_leavesAhead 40 rfl) rfl rfl ⟨_, rfl, ?_⟩
      exact ⟨by rw [decide_eq_true (by omega)]; rfl, rfl⟩
  · have hA : lvA 3 ks n i x.2.1 k o = decide (og ks i k < og ks i o ∨ (og ks i k = og ks i o ∧ la ks i k < la ks i o)) := rfl
    have sk : mI (rcM M G) 944 (rk ks k) = nI (og ks i k) := by rw [rc_r6]; exact hN.2 k (by omega) k1
    have so : mI (rcM M G) 944 (rk ks o) = nI (og ks i o) := by rw [rc_r6]; exact hN.2 o (by omega) o1
    rw [hA]
    refine cw_entry 2 pf_Re_leavesAhead rfl ?_
    refine wp_iload_n rfl (ck_get kk_Re_leavesAhead 0 rfl) ?_
    refine wp_tabIn (t := 95) (off := 94) (ck_get kk_Re_leavesAhead 1 rfl) (by decide) (by decide) rfl (by decide) ?_
    refine wp_aload_n rfl (ck_get kk_Re_leavesAhead 41 rfl) ?_
    refine wp_getR (ck_get kk_Re_leavesAhead 42 rfl) fl_Re_34 (by assumption) (by assumption) ?_
    refine wp_iload_n rfl (ck_get kk_Re_leavesAhead 43 rfl) ?_
    refine wp_ialdv (v := nI (og ks i k)) (ck_get kk_Re_leavesAhead 44 rfl) (by assumption) (ixk_nI (k := rk ks k) (by omega) (by omega)) (sk) ?_
    refine wp_aload_n rfl (ck_get kk_Re_leavesAhead 45 rfl) ?_
    refine wp_getR (ck_get kk_Re_leavesAhead 46 rfl) fl_Re_34 (by assumption) (by assumption) ?_
    refine wp_iload_n rfl (ck_get kk_Re_leavesAhead 47 rfl) ?_
    refine wp_ialdv (v := nI (og ks i o)) (ck_get kk_Re_leavesAhead 48 rfl) (by assumption) (ixk_nI (k := rk ks o) (by omega) (by omega)) (so) ?_
    first | refine wp_icmp_eqN (t := 133) (ck_get kk_Re_leavesAhead 49 rfl) (by decide) (by omega) (by omega) (fun hc107 => ?_) (fun hc107 => ?_) | refine wp_icmp_eq (t := 133) (ck_get kk_Re_leavesAhead 49 rfl) (by decide) (fun hc107 => ?_) (fun hc107 => ?_)
    · refine wp_aload_n rfl (ck_get kk_Re_leavesAhead 63 rfl) ?_
      refine wp_getR (ck_get kk_Re_leavesAhead 64 rfl) fl_Re_28 (by assumption) (by assumption) ?_
      refine wp_iload_n rfl (ck_get kk_Re_leavesAhead 65 rfl) ?_
      refine wp_ialdv (v := nI (la ks i k)) (ck_get kk_Re_leavesAhead 66 rfl) (by assumption) (ixk_nI (k := rk ks k) (by omega) (by omega)) (vk) ?_
      refine wp_aload_n rfl (ck_get kk_Re_leavesAhead 67 rfl) ?_
      refine wp_getR (ck_get kk_Re_leavesAhead 68 rfl) fl_Re_28 (by assumption) (by assumption) ?_
      refine wp_iload_n rfl (ck_get kk_Re_leavesAhead 69 rfl) ?_
      refine wp_ialdv (v := nI (la ks i o)) (ck_get kk_Re_leavesAhead 70 rfl) (by assumption) (ixk_nI (k := rk ks o) (by omega) (by omega)) (vo) ?_
      first | refine wp_icmp_geN (t := 152) (ck_get kk_Re_leavesAhead 71 rfl) (by decide) (by omega) (by omega) (fun hc145 => ?_) (fun hc145 => ?_) | refine wp_icmp_ge (t := 152) (ck_get kk_Re_leavesAhead 71 rfl) (by decide) (fun hc145 => ?_) (fun hc145 => ?_)
      · refine wp_iconst (v := nI 0) (by decide) (ck_get kk_Re_leavesAhead 74 rfl) ?_
        refine wp_ireturn (ck_get kk_Re_leavesAhead 75 rfl) rfl rfl ⟨_, rfl, ?_⟩
        exact ⟨by rw [decide_eq_false (by omega)]; rfl, rfl⟩
      · refine wp_iconst (v := nI 1) (by decide) (ck_get kk_Re_leavesAhead 72 rfl) ?_
        refine wp_goto (t := 153) (ck_get kk_Re_leavesAhead 73 rfl) (by decide) ?_
        refine wp_ireturn (ck_get kk_Re_leavesAhead 75 rfl) rfl rfl ⟨_, rfl, ?_⟩
        exact ⟨by rw [decide_eq_true (by omega)]; rfl, rfl⟩
    · refine wp_aload_n rfl (ck_get kk_Re_leavesAhead 50 rfl) ?_
      refine wp_getR (ck_get kk_Re_leavesAhead 51 rfl) fl_Re_34 (by assumption) (by assumption) ?_
      refine wp_iload_n rfl (ck_get kk_Re_leavesAhead 52 rfl) ?_
      refine wp_ialdv (v := nI (og ks i k)) (ck_get kk_Re_leavesAhead 53 rfl) (by assumption) (ixk_nI (k := rk ks k) (by omega) (by omega)) (sk) ?_
      refine wp_aload_n rfl (ck_get kk_Re_leavesAhead 54 rfl) ?_
      refine wp_getR (ck_get kk_Re_leavesAhead 55 rfl) fl_Re_34 (by assumption) (by assumption) ?_
      refine wp_iload_n rfl (ck_get kk_Re_leavesAhead 56 rfl) ?_
      refine wp_ialdv (v := nI (og ks i o)) (ck_get kk_Re_leavesAhead 57 rfl) (by assumption) (ixk_nI (k := rk ks o) (by omega) (by omega)) (so) ?_
      first | refine wp_icmp_geN (t := 129) (ck_get kk_Re_leavesAhead 58 rfl) (by decide) (by omega) (by omega) (fun hc122 => ?_) (fun hc122 => ?_) | refine wp_icmp_ge (t := 129) (ck_get kk_Re_leavesAhead 58 rfl) (by decide) (fun hc122 => ?_) (fun hc122 => ?_)
      · refine wp_iconst (v := nI 0) (by decide) (ck_get kk_Re_leavesAhead 61 rfl) ?_
        refine wp_goto (t := 153) (ck_get kk_Re_leavesAhead 62 rfl) (by decide) ?_
        refine wp_ireturn (ck_get kk_Re_leavesAhead 75 rfl) rfl rfl ⟨_, rfl, ?_⟩
        exact ⟨by rw [decide_eq_false (by omega)]; rfl, rfl⟩
      · refine wp_iconst (v := nI 1) (by decide) (ck_get kk_Re_leavesAhead 59 rfl) ?_
        refine wp_goto (t := 153) (ck_get kk_Re_leavesAhead 60 rfl) (by decide) ?_
        refine wp_ireturn (ck_get kk_Re_leavesAhead 75 rfl) rfl rfl ⟨_, rfl, ?_⟩
        exact ⟨by rw [decide_eq_true (by omega)]; rfl, rfl⟩
  · have hA : lvA 4 ks n i x.2.1 k o = decide (sr ks n o (i + 1) < sr ks n k (i + 1) ∨ (sr ks n k (i + 1) = sr ks n o (i + 1) ∧ ks k < ks o)) := rfl
    have nk : mI (rcM M G) 940 (la ks i k) = nI (sr ks n k (i + 1)) := by
      rw [rc_r2, hL.2.2.2.1 (la ks i k) (by omega), kl.2.1, sr_la kg hi (fun e => by rw [e, hk] at hf; cases hf)]
    have no : mI (rcM M G) 940 (la ks i o) = nI (sr ks n o (i + 1)) := by
      rw [rc_r2, hL.2.2.2.1 (la ks i o) (by omega), ol.2.1, sr_la og2 hi (fun e => by rw [e, ho] at hf; cases hf)]
    have ek : mI (rcM M G) 941 (rk ks k) = ks k := by rw [rc_r3]; exact hL.2.2.2.2 k (by omega) k1
    have eo : mI (rcM M G) 941 (rk ks o) = ks o := by rw [rc_r3]; exact hL.2.2.2.2 o (by omega) o1
    have bk := sr_b (ks := ks) (k := k) hn (n - (i + 1)) (i + 1) (by omega)
    have bo := sr_b (ks := ks) (k := o) hn (n - (i + 1)) (i + 1) (by omega)
    rw [hA]
    generalize sr ks n k (i + 1) = sk at *
    generalize sr ks n o (i + 1) = so at *
    refine cw_entry 2 pf_Re_leavesAhead rfl ?_
    refine wp_iload_n rfl (ck_get kk_Re_leavesAhead 0 rfl) ?_
    refine wp_tabOut (t := 154) (ck_get kk_Re_leavesAhead 1 rfl) (by decide) (by decide) ?_
    refine wp_aload_n rfl (ck_get kk_Re_leavesAhead 76 rfl) ?_
    refine wp_getR (ck_get kk_Re_leavesAhead 77 rfl) fl_Re_22 (by assumption) (by assumption) ?_
    refine wp_aload_n rfl (ck_get kk_Re_leavesAhead 78 rfl) ?_
    refine wp_getR (ck_get kk_Re_leavesAhead 79 rfl) fl_Re_28 (by assumption) (by assumption) ?_
    refine wp_iload_n rfl (ck_get kk_Re_leavesAhead 80 rfl) ?_
    refine wp_ialdv (v := nI (la ks i k)) (ck_get kk_Re_leavesAhead 81 rfl) (by assumption) (ixk_nI (k := rk ks k) (by omega) (by omega)) (vk) ?_
    refine wp_ialdv (v := nI sk) (ck_get kk_Re_leavesAhead 82 rfl) (by assumption) (ixk_nI (k := la ks i k) (by omega) (by omega)) (nk) ?_
    refine wp_istore (ck_get kk_Re_leavesAhead 83 rfl) (by decide) rfl ?_
    refine wp_aload_n rfl (ck_get kk_Re_leavesAhead 84 rfl) ?_
    refine wp_getR (ck_get kk_Re_leavesAhead 85 rfl) fl_Re_22 (by assumption) (by assumption) ?_
    refine wp_aload_n rfl (ck_get kk_Re_leavesAhead 86 rfl) ?_
    refine wp_getR (ck_get kk_Re_leavesAhead 87 rfl) fl_Re_28 (by assumption) (by assumption) ?_
    refine wp_iload_n rfl (ck_get kk_Re_leavesAhead 88 rfl) ?_
    refine wp_ialdv (v := nI (la ks i o)) (ck_get kk_Re_leavesAhead 89 rfl) (by assumption) (ixk_nI (k := rk ks o) (by omega) (by omega)) (vo) ?_
    refine wp_ialdv (v := nI so) (ck_get kk_Re_leavesAhead 90 rfl) (by assumption) (ixk_nI (k := la ks i o) (by omega) (by omega)) (no) ?_
    refine wp_istore (ck_get kk_Re_leavesAhead 91 rfl) (by decide) rfl ?_
    refine wp_iload rfl (ck_get kk_Re_leavesAhead 92 rfl) ?_
    refine wp_iload rfl (ck_get kk_Re_leavesAhead 93 rfl) ?_
    first | refine wp_icmp_eqN (t := 202) (ck_get kk_Re_leavesAhead 94 rfl) (by decide) (by omega) (by omega) (fun hc184 => ?_) (fun hc184 => ?_) | refine wp_icmp_eq (t := 202) (ck_get kk_Re_leavesAhead 94 rfl) (by decide) (fun hc184 => ?_) (fun hc184 => ?_)
    · refine wp_aload_n rfl (ck_get kk_Re_leavesAhead 102 rfl) ?_
      refine wp_getR (ck_get kk_Re_leavesAhead 103 rfl) fl_Re_25 (by assumption) (by assumption) ?_
      refine wp_iload_n rfl (ck_get kk_Re_leavesAhead 104 rfl) ?_
      refine wp_ialdv (v := ks k) (ck_get kk_Re_leavesAhead 105 rfl) (by assumption) (ixk_nI (k := rk ks k) (by omega) (by omega)) (ek) ?_
      refine wp_aload_n rfl (ck_get kk_Re_leavesAhead 106 rfl) ?_
      refine wp_getR (ck_get kk_Re_leavesAhead 107 rfl) fl_Re_25 (by assumption) (by assumption) ?_
      refine wp_iload_n rfl (ck_get kk_Re_leavesAhead 108 rfl) ?_
      refine wp_ialdv (v := ks o) (ck_get kk_Re_leavesAhead 109 rfl) (by assumption) (ixk_nI (k := rk ks o) (by omega) (by omega)) (eo) ?_
      refine wp_icmp_ge (t := 221) (ck_get kk_Re_leavesAhead 110 rfl) (by decide) (fun hc214 => ?_) (fun hc214 => ?_)
      · refine wp_iconst (v := nI 0) (by decide) (ck_get kk_Re_leavesAhead 113 rfl) ?_
        refine wp_ireturn (ck_get kk_Re_leavesAhead 114 rfl) rfl rfl ⟨_, rfl, ?_⟩
        exact ⟨by rw [decide_eq_false (fun q => q.elim (fun a => by omega) (fun a => absurd a.2 (Int32.not_lt.mpr hc214)))]; rfl, rfl⟩
      · refine wp_iconst (v := nI 1) (by decide) (ck_get kk_Re_leavesAhead 111 rfl) ?_
        refine wp_goto (t := 222) (ck_get kk_Re_leavesAhead 112 rfl) (by decide) ?_
        refine wp_ireturn (ck_get kk_Re_leavesAhead 114 rfl) rfl rfl ⟨_, rfl, ?_⟩
        exact ⟨by rw [decide_eq_true (Or.inr ⟨by omega, Int32.not_le.mp hc214⟩)]; rfl, rfl⟩
    · refine wp_iload rfl (ck_get kk_Re_leavesAhead 95 rfl) ?_
      refine wp_iload rfl (ck_get kk_Re_leavesAhead 96 rfl) ?_
      first | refine wp_icmp_leN (t := 198) (ck_get kk_Re_leavesAhead 97 rfl) (by decide) (by omega) (by omega) (fun hc191 => ?_) (fun hc191 => ?_) | refine wp_icmp_le (t := 198) (ck_get kk_Re_leavesAhead 97 rfl) (by decide) (fun hc191 => ?_) (fun hc191 => ?_)
      · refine wp_iconst (v := nI 0) (by decide) (ck_get kk_Re_leavesAhead 100 rfl) ?_
        refine wp_goto (t := 222) (ck_get kk_Re_leavesAhead 101 rfl) (by decide) ?_
        refine wp_ireturn (ck_get kk_Re_leavesAhead 114 rfl) rfl rfl ⟨_, rfl, ?_⟩
        exact ⟨by rw [decide_eq_false (by omega)]; rfl, rfl⟩
      · refine wp_iconst (v := nI 1) (by decide) (ck_get kk_Re_leavesAhead 98 rfl) ?_
        refine wp_goto (t := 222) (ck_get kk_Re_leavesAhead 99 rfl) (by decide) ?_
        refine wp_ireturn (ck_get kk_Re_leavesAhead 114 rfl) rfl rfl ⟨_, rfl, ?_⟩
        exact ⟨by rw [decide_eq_true (by omega)]; rfl, rfl⟩
theorem nxtF {h : Nat → Bool} {A : Nat → Nat → Bool} (hF : ∀ k, h k = true → fp ks k = k) : ∀ d m, m + d = n → ∃ m2, m ≤ m2 ∧ m2 ≤ n ∧ rk ks m2 = rk ks m ∧ (m2 = n ∨ (m2 < n ∧ fp ks m2 = m2)) ∧ wh h A m2 = wh h A m := by
  intro d
  induction d with
  | zero => intro m e; exact ⟨m, Nat.le_refl _, by omega, rfl, Or.inl (by omega), rfl⟩
  | succ d ih =>
    intro m e
    by_cases c : fp ks m = m
    · exact ⟨m, Nat.le_refl _, by omega, rfl, Or.inr ⟨by omega, c⟩, rfl⟩
    · obtain ⟨m2, h1, h2, h3, h4, h5⟩ := ih (m + 1) (by omega)
      refine ⟨m2, by omega, h2, h3.trans (rk_nf c), h4, h5.trans ?_⟩
      show whN h A m (wh h A m) = _
      unfold whN
      rw [if_neg (fun q => c (hF m q.1))]
theorem c_leaving {pol i c : Nat} {x : PS} {G : Nat → Nat → Int32} {hw : Int32} (hR : ReAt (mT M) (mR M) 938) (hL : LdOK ks n G) (hN : PlN ks n i x G) (hO : POK ks c i x) (hi : i < n) (hn : n ≤ 32) (hp : pol < 5) (hf : x.1 (fp ks i) = false) (hh : HwI ks n hw x.1) (hc : cnt x.1 32 = c) (h0 : c ≠ 0) : Ci g Y_Re_leaving 1 [.ref 938, .int (nI pol), .int hw] (rcM M G) (fun y M2 => y = nI (rk ks (leaveP pol ks n i x)) ∧ M2 = rcM M G) := by
  obtain ⟨t938, -⟩ := hR.f
  obtain ⟨l1, l2, l3⟩ := hO.leave (pol := pol) (n := n) hc h0
  have hrn : rk ks n ≤ n := rk_le n
  have hl32 : wh x.1 (lvA pol ks n i x.2.1) n = some (leaveP pol ks n i x) := by
    have := wh_ext (h := x.1) (A := lvA pol ks n i x.2.1) (a := n) (fun k hk => by
      cases q : x.1 k
      · rfl
      · have := (hO.1 k q).2; omega) (32 - n)
    rw [show n + (32 - n) = 32 by omega, l3] at this
    exact this.symm
  have v1 : mI (rcM M G) 938 1 = nI (rk ks n) := by rw [rc_r0]; exact hL.2.1
  have hlp : ∀ D m, n - m ≤ D → m ≤ n → (m = n ∨ (m < n ∧ fp ks m = m)) → Wp g Y_Re_leaving 1 5 [some (.ref 938), some (.int (nI pol)), some (.int hw), some (.int (enI ks (wh x.1 (lvA pol ks n i x.2.1) m))), some (.int (nI (rk ks m)))] [] (rcM M G) (fun r M2 => ∃ y, r = some (.int y) ∧ y = nI (rk ks (leaveP pol ks n i x)) ∧ M2 = rcM M G) := by
    intro D
    induction D with
    | zero =>
      intro m h1 h2 h3
      obtain rfl : m = n := by omega
      rw [hl32]
      show Wp g Y_Re_leaving 1 5 [some (.ref 938), some (.int (nI pol)), some (.int hw), some (.int (nI (rk ks (leaveP pol ks m i x)))), some (.int (nI (rk ks m)))] [] (rcM M G) _
      have hq : rk ks (leaveP pol ks m i x) ≤ 32 := Nat.le_trans (rk_le _) (by omega)
      refine wp_iload rfl (ck_get kk_Re_leaving 4 rfl) ?_
      refine wp_aload_n rfl (ck_get kk_Re_leaving 5 rfl) ?_
      refine wp_getIv (v := nI (rk ks m)) (ck_get kk_Re_leaving 6 rfl) fl_Re_15 (by assumption) (v1) ?_
      first | refine wp_icmp_geN (t := 49) (ck_get kk_Re_leaving 7 rfl) (by decide) (by omega) (by omega) (fun hc11 => ?_) (fun hc11 => ?_) | refine wp_icmp_ge (t := 49) (ck_get kk_Re_leaving 7 rfl) (by decide) (fun hc11 => ?_) (fun hc11 => ?_)
      · refine wp_iload_n rfl (ck_get kk_Re_leaving 28 rfl) ?_
        refine wp_iconst (v := nI 0) (by decide) (ck_get kk_Re_leaving 29 rfl) ?_
        refine wp_cS2i (ck_get kk_Re_leaving 30 rfl) ml_Re_78 (by omega) (Nat.le_of_ble_eq_true rfl) (Ci.to (c_max (a := rk ks (leaveP pol ks m i x)) (b := 0) (by omega) (by omega)) ?_)
        rintro _ M1 ⟨rfl, eqm1⟩
        obtain rfl := eqm1.symm
        refine wp_ireturn (ck_get kk_Re_leaving 31 rfl) rfl rfl ⟨_, rfl, ?_⟩
        exact ⟨by rw [Nat.max_eq_left (Nat.zero_le _)], rfl⟩
      · omega
    | succ D ih =>
      intro m h1 h2 h3
      by_cases e : m = n
      · exact ih m (by omega) h2 h3
      · have h4 : fp ks m = m := by
          rcases h3 with q | q
          · exact absurd q e
          · exact q.2
        have hlt := rk_lt h4 (show m < n by omega)
        have hbit : btI hw (rk ks m) = x.1 m := hh.1 m (by omega) h4
        have hstep : ∀ f, f = wh x.1 (lvA pol ks n i x.2.1) (m + 1) → Wp g Y_Re_leaving 1 5 [some (.ref 938), some (.int (nI pol)), some (.int hw), some (.int (enI ks f)), some (.int (nI (rk ks m + 1)))] [] (rcM M G) (fun r M2 => ∃ y, r = some (.int y) ∧ y = nI (rk ks (leaveP pol ks n i x)) ∧ M2 = rcM M G) := by
          intro f ef
          obtain ⟨m2, p1, p2, p3, p4, p5⟩ := nxtF (ks := ks) (n := n) (A := lvA pol ks n i x.2.1) (fun k hk => (hO.1 k hk).1) (n - (m + 1)) (m + 1) (by omega)
          rw [ef, ← p5, ← rk_f h4, ← p3]
          exact ih m2 (by omega) p2 p4
        have hw1 : wh x.1 (lvA pol ks n i x.2.1) (m + 1) = whN x.1 (lvA pol ks n i x.2.1) m (wh x.1 (lvA pol ks n i x.2.1) m) := rfl
        cases hb : x.1 m with
        | false =>
          rw [hb] at hbit
          have hnx := hstep (wh x.1 (lvA pol ks n i x.2.1) m) (by rw [hw1]; unfold whN; rw [if_neg (fun q => by rw [hb] at q; exact absurd q.1 (by decide))])
          refine wp_iload rfl (ck_get kk_Re_leaving 4 rfl) ?_
          refine wp_aload_n rfl (ck_get kk_Re_leaving 5 rfl) ?_
          refine wp_getIv (v := nI (rk ks n)) (ck_get kk_Re_leaving 6 rfl) fl_Re_15 (by assumption) (v1) ?_
          first | refine wp_icmp_geN (t := 49) (ck_get kk_Re_leaving 7 rfl) (by decide) (by omega) (by omega) (fun hc11 => ?_) (fun hc11 => ?_) | refine wp_icmp_ge (t := 49) (ck_get kk_Re_leaving 7 rfl) (by decide) (fun hc11 => ?_) (fun hc11 => ?_)
          · omega
          · refine wp_iload_n rfl (ck_get kk_Re_leaving 8 rfl) ?_
            refine wp_iload rfl (ck_get kk_Re_leaving 9 rfl) ?_
            refine wp_iushr (ck_get kk_Re_leaving 10 rfl) ?_
            refine wp_iconst (v := nI 1) (by decide) (ck_get kk_Re_leaving 11 rfl) ?_
            refine wp_iand (ck_get kk_Re_leaving 12 rfl) ?_
            rw [bt_askI (by omega), hbit]
            refine wp_iconst (v := nI 1) (by decide) (ck_get kk_Re_leaving 13 rfl) ?_
            refine wp_icmp_ne (t := 43) (ck_get kk_Re_leaving 14 rfl) (by decide) (fun hc21 => ?_) (fun hc21 => ?_)
            · first | refine wp_iincN (ck_get kk_Re_leaving 26 rfl) rfl (by decide) rfl ?_ | refine wp_iinc (ck_get kk_Re_leaving 26 rfl) rfl (by decide) rfl ?_
              refine wp_goto (t := 5) (ck_get kk_Re_leaving 27 rfl) (by decide) ?_
              exact hnx
            · exact absurd hc21 (by decide)
        | true =>
          rw [hb] at hbit
          cases hwm : wh x.1 (lvA pol ks n i x.2.1) m with
          | none =>
            have hnx := hstep (some m) (by rw [hw1]; unfold whN; rw [if_pos ⟨hb, fun o q => by rw [hwm] at q; cases q⟩])
            show Wp g Y_Re_leaving 1 5 [some (.ref 938), some (.int (nI pol)), some (.int hw), some (.int (-1)), some (.int (nI (rk ks m)))] [] (rcM M G) _
            refine wp_iload rfl (ck_get kk_Re_leaving 4 rfl) ?_
            refine wp_aload_n rfl (ck_get kk_Re_leaving 5 rfl) ?_
            refine wp_getIv (v := nI (rk ks n)) (ck_get kk_Re_leaving 6 rfl) fl_Re_15 (by assumption) (v1) ?_
            first | refine wp_icmp_geN (t := 49) (ck_get kk_Re_leaving 7 rfl) (by decide) (by omega) (by omega) (fun hc11 => ?_) (fun hc11 => ?_) | refine wp_icmp_ge (t := 49) (ck_get kk_Re_leaving 7 rfl) (by decide) (fun hc11 => ?_) (fun hc11 => ?_)
            · omega
            · refine wp_iload_n rfl (ck_get kk_Re_leaving 8 rfl) ?_
              refine wp_iload rfl (ck_get kk_Re_leaving 9 rfl) ?_
              refine wp_iushr (ck_get kk_Re_leaving 10 rfl) ?_
              refine wp_iconst (v := nI 1) (by decide) (ck_get kk_Re_leaving 11 rfl) ?_
              refine wp_iand (ck_get kk_Re_leaving 12 rfl) ?_
              rw [bt_askI (by omega), hbit]
              refine wp_iconst (v := nI 1) (by decide) (ck_get kk_Re_leaving 13 rfl) ?_
              refine wp_icmp_ne (t := 43) (ck_get kk_Re_leaving 14 rfl) (by decide) (fun hc21 => ?_) (fun hc21 => ?_)
              · exact absurd rfl hc21
              · refine wp_iload_n rfl (ck_get kk_Re_leaving 15 rfl) ?_
                refine wp_iconst (v := (-1)) (by decide) (ck_get kk_Re_leaving 16 rfl) ?_
                refine wp_icmp_eq (t := 40) (ck_get kk_Re_leaving 17 rfl) (by decide) (fun hc26 => ?_) (fun hc26 => ?_)
                · refine wp_iload rfl (ck_get kk_Re_leaving 24 rfl) ?_
                  refine wp_istore_n (ck_get kk_Re_leaving 25 rfl) (by decide) rfl ?_
                  first | refine wp_iincN (ck_get kk_Re_leaving 26 rfl) rfl (by decide) rfl ?_ | refine wp_iinc (ck_get kk_Re_leaving 26 rfl) rfl (by decide) rfl ?_
                  refine wp_goto (t := 5) (ck_get kk_Re_leaving 27 rfl) (by decide) ?_
                  exact hnx
                · exact absurd rfl hc26
          | some o =>
            obtain ⟨o1, o2⟩ := wh_ok m hwm
            have olt := rk_lt (hO.1 o o2).1 (show o < n by omega)
            show Wp g Y_Re_leaving 1 5 [some (.ref 938), some (.int (nI pol)), some (.int hw), some (.int (nI (rk ks o))), some (.int (nI (rk ks m)))] [] (rcM M G) _
            cases hA : lvA pol ks n i x.2.1 m o with
            | true =>
              have hnx := hstep (some m) (by rw [hw1]; unfold whN; rw [if_pos ⟨hb, fun o9 q => by rw [hwm] at q; obtain rfl := Option.some.inj q; exact hA⟩])
              refine wp_iload rfl (ck_get kk_Re_leaving 4 rfl) ?_
              refine wp_aload_n rfl (ck_get kk_Re_leaving 5 rfl) ?_
              refine wp_getIv (v := nI (rk ks n)) (ck_get kk_Re_leaving 6 rfl) fl_Re_15 (by assumption) (v1) ?_
              first | refine wp_icmp_geN (t := 49) (ck_get kk_Re_leaving 7 rfl) (by decide) (by omega) (by omega) (fun hc11 => ?_) (fun hc11 => ?_) | refine wp_icmp_ge (t := 49) (ck_get kk_Re_leaving 7 rfl) (by decide) (fun hc11 => ?_) (fun hc11 => ?_)
              · omega
              · refine wp_iload_n rfl (ck_get kk_Re_leaving 8 rfl) ?_
                refine wp_iload rfl (ck_get kk_Re_leaving 9 rfl) ?_
                refine wp_iushr (ck_get kk_Re_leaving 10 rfl) ?_
                refine wp_iconst (v := nI 1) (by decide) (ck_get kk_Re_leaving 11 rfl) ?_
                refine wp_iand (ck_get kk_Re_leaving 12 rfl) ?_
                rw [bt_askI (by omega), hbit]
                refine wp_iconst (v := nI 1) (by decide) (ck_get kk_Re_leaving 13 rfl) ?_
                refine wp_icmp_ne (t := 43) (ck_get kk_Re_leaving 14 rfl) (by decide) (fun hc21 => ?_) (fun hc21 => ?_)
                · exact absurd rfl hc21
                · refine wp_iload_n rfl (ck_get kk_Re_leaving 15 rfl) ?_
                  refine wp_iconst (v := (-1)) (by decide) (ck_get kk_Re_leaving 16 rfl) ?_
                  refine wp_icmp_eq (t := 40) (ck_get kk_Re_leaving 17 rfl) (by decide) (fun hc26 => ?_) (fun hc26 => ?_)
                  · exact absurd hc26 (nI_ne1 (by omega))
                  · refine wp_aload_n rfl (ck_get kk_Re_leaving 18 rfl) ?_
                    refine wp_iload_n rfl (ck_get kk_Re_leaving 19 rfl) ?_
                    refine wp_iload rfl (ck_get kk_Re_leaving 20 rfl) ?_
                    refine wp_iload_n rfl (ck_get kk_Re_leaving 21 rfl) ?_
                    refine wp_cV3i (ck_get kk_Re_leaving 22 rfl) ml_Re_74 (by omega) (Nat.le_of_ble_eq_true rfl) (by assumption) (Ci.to (c_reAhead hR hL hN hO hi hn hp hf hb o2) ?_)
                    rintro _ M1 ⟨rfl, eqm1⟩
                    obtain rfl := eqm1.symm
                    rw [hA]
                    first | refine wp_if_eqN (t := 43) (ck_get kk_Re_leaving 23 rfl) (by decide) (by omega) (fun hc37 => ?_) (fun hc37 => ?_) | refine wp_if_eq (t := 43) (ck_get kk_Re_leaving 23 rfl) (by decide) (fun hc37 => ?_) (fun hc37 => ?_)
                    · exact absurd hc37 (by decide)
                    · refine wp_iload rfl (ck_get kk_Re_leaving 24 rfl) ?_
                      refine wp_istore_n (ck_get kk_Re_leaving 25 rfl) (by decide) rfl ?_
                      first | refine wp_iincN (ck_get kk_Re_leaving 26 rfl) rfl (by decide) rfl ?_ | refine wp_iinc (ck_get kk_Re_leaving 26 rfl) rfl (by decide) rfl ?_
                      refine wp_goto (t := 5) (ck_get kk_Re_leaving 27 rfl) (by decide) ?_
                      exact hnx
            | false =>
              have hnx := hstep (some o) (by rw [hw1]; unfold whN; rw [hwm, if_neg (fun q => by have := q.2 o rfl; rw [hA] at this; cases this)])
              refine wp_iload rfl (ck_get kk_Re_leaving 4 rfl) ?_
              refine wp_aload_n rfl (ck_get kk_Re_leaving 5 rfl) ?_
              refine wp_getIv (v := nI (rk ks n)) (ck_get kk_Re_leaving 6 rfl) fl_Re_15 (by assumption) (v1) ?_
              first | refine wp_icmp_geN (t := 49) (ck_get kk_Re_leaving 7 rfl) (by decide) (by omega) (by omega) (fun hc11 => ?_) (fun hc11 => ?_) | refine wp_icmp_ge (t := 49) (ck_get kk_Re_leaving 7 rfl) (by decide) (fun hc11 => ?_) (fun hc11 => ?_)
              · omega
              · refine wp_iload_n rfl (ck_get kk_Re_leaving 8 rfl) ?_
                refine wp_iload rfl (ck_get kk_Re_leaving 9 rfl) ?_
                refine wp_iushr (ck_get kk_Re_leaving 10 rfl) ?_
                refine wp_iconst (v := nI 1) (by decide) (ck_get kk_Re_leaving 11 rfl) ?_
                refine wp_iand (ck_get kk_Re_leaving 12 rfl) ?_
                rw [bt_askI (by omega), hbit]
                refine wp_iconst (v := nI 1) (by decide) (ck_get kk_Re_leaving 13 rfl) ?_
                refine wp_icmp_ne (t := 43) (ck_get kk_Re_leaving 14 rfl) (by decide) (fun hc21 => ?_) (fun hc21 => ?_)
                · exact absurd rfl hc21
                · refine wp_iload_n rfl (ck_get kk_Re_leaving 15 rfl) ?_
                  refine wp_iconst (v := (-1)) (by decide) (ck_get kk_Re_leaving 16 rfl) ?_
                  refine wp_icmp_eq (t := 40) (ck_get kk_Re_leaving 17 rfl) (by decide) (fun hc26 => ?_) (fun hc26 => ?_)
                  · exact absurd hc26 (nI_ne1 (by omega))
                  · refine wp_aload_n rfl (ck_get kk_Re_leaving 18 rfl) ?_
                    refine wp_iload_n rfl (ck_get kk_Re_leaving 19 rfl) ?_
                    refine wp_iload rfl (ck_get kk_Re_leaving 20 rfl) ?_
                    refine wp_iload_n rfl (ck_get kk_Re_leaving 21 rfl) ?_
                    refine wp_cV3i (ck_get kk_Re_leaving 22 rfl) ml_Re_74 (by omega) (Nat.le_of_ble_eq_true rfl) (by assumption) (Ci.to (c_reAhead hR hL hN hO hi hn hp hf hb o2) ?_)
                    rintro _ M1 ⟨rfl, eqm1⟩
                    obtain rfl := eqm1.symm
                    rw [hA]
                    first | refine wp_if_eqN (t := 43) (ck_get kk_Re_leaving 23 rfl) (by decide) (by omega) (fun hc37 => ?_) (fun hc37 => ?_) | refine wp_if_eq (t := 43) (ck_get kk_Re_leaving 23 rfl) (by decide) (fun hc37 => ?_) (fun hc37 => ?_)
                    · first | refine wp_iincN (ck_get kk_Re_leaving 26 rfl) rfl (by decide) rfl ?_ | refine wp_iinc (ck_get kk_Re_leaving 26 rfl) rfl (by decide) rfl ?_
                      refine wp_goto (t := 5) (ck_get kk_Re_leaving 27 rfl) (by decide) ?_
                      exact hnx
                    · exact absurd (by decide) hc37
  obtain ⟨m2, p1, p2, p3, p4, p5⟩ := nxtF (ks := ks) (n := n) (A := lvA pol ks n i x.2.1) (fun k hk => (hO.1 k hk).1) n 0 (by omega)
  have hst := hlp n m2 (by omega) p2 p4
  rw [p5, p3] at hst
  refine cw_entry 2 pf_Re_leaving rfl ?_
  refine wp_iconst (v := (-1)) (by decide) (ck_get kk_Re_leaving 0 rfl) ?_
  refine wp_istore_n (ck_get kk_Re_leaving 1 rfl) (by decide) rfl ?_
  refine wp_iconst (v := nI 0) (by decide) (ck_get kk_Re_leaving 2 rfl) ?_
  refine wp_istore (ck_get kk_Re_leaving 3 rfl) (by decide) rfl ?_
  exact hst
end RPL

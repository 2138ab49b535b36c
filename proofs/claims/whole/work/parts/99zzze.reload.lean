/-! ===== the class reads a record again ===== -/
section RCL
variable {g : Gl} {M : Mem}
def rcI (I : Nat → Nat → Int32) (G : Nat → Nat → Int32) : Nat → Nat → Int32 := fun x => if 938 ≤ x ∧ x < 947 then G (x - 938) else I x
abbrev rcM (M : Mem) (G : Nat → Nat → Int32) : Mem := mk2 M (rcI (mI M) G) (mJ M)
section
variable {G : Nat → Nat → Int32} {a k : Nat} {v : Int32}
theorem rc_at (h : a < 9) : mI (rcM M G) (938 + a) = G a := by
  show rcI (mI M) G (938 + a) = _
  unfold rcI
  rw [if_pos ⟨by omega, by omega⟩, show 938 + a - 938 = a by omega]
theorem rc_ot {x : Nat} (h : x < 938 ∨ 947 ≤ x) : mI (rcM M G) x = mI M x := by
  show rcI (mI M) G x = _
  unfold rcI
  rw [if_neg (fun q => by omega)]
theorem rc_up {f : Nat → Int32} (h : a < 9) : up1 (rcI (mI M) G) (938 + a) f = rcI (mI M) (up1 G a f) := by
  funext x
  by_cases c : x = 938 + a
  · subst c
    rw [up1_eq]
    unfold rcI
    rw [if_pos ⟨by omega, by omega⟩, show 938 + a - 938 = a by omega, up1_eq]
  · rw [up1_ne c]
    unfold rcI
    by_cases c2 : 938 ≤ x ∧ x < 947
    · rw [if_pos c2, if_pos c2, up1_ne (by omega)]
    · rw [if_neg c2, if_neg c2]
theorem rc_st (h : a < 9) : sI (rcM M G) (938 + a) k v = rcM M (up2 G a k v) := by
  refine mk2_ext (M := M) ?_ rfl
  show up2 (rcI (mI M) G) (938 + a) k v = _
  rw [up2_up1, rc_up h, up2_up1]
  congr 2
  exact congrArg (fun f => up1 f k v) (rc_at (M := M) h)
theorem rc_fl (h : a < 9) : mk2 (rcM M G) (up1 (mI (rcM M G)) (938 + a) (flI (mI (rcM M G) (938 + a)) 32 v)) (mJ (rcM M G)) = rcM M (up1 G a (flI (G a) 32 v)) := by
  refine mk2_ext (M := M) ?_ rfl
  rw [rc_at h]
  exact rc_up h
theorem rc_r0 : mI (rcM M G) 938 = G 0 := rc_at (a := 0) (by omega)
theorem rc_s0 : sI (rcM M G) 938 k v = rcM M (up2 G 0 k v) := rc_st (a := 0) (by omega)
theorem rc_r1 : mI (rcM M G) 939 = G 1 := rc_at (a := 1) (by omega)
theorem rc_s1 : sI (rcM M G) 939 k v = rcM M (up2 G 1 k v) := rc_st (a := 1) (by omega)
theorem rc_r2 : mI (rcM M G) 940 = G 2 := rc_at (a := 2) (by omega)
theorem rc_s2 : sI (rcM M G) 940 k v = rcM M (up2 G 2 k v) := rc_st (a := 2) (by omega)
theorem rc_r3 : mI (rcM M G) 941 = G 3 := rc_at (a := 3) (by omega)
theorem rc_s3 : sI (rcM M G) 941 k v = rcM M (up2 G 3 k v) := rc_st (a := 3) (by omega)
theorem rc_r4 : mI (rcM M G) 942 = G 4 := rc_at (a := 4) (by omega)
theorem rc_s4 : sI (rcM M G) 942 k v = rcM M (up2 G 4 k v) := rc_st (a := 4) (by omega)
theorem rc_r5 : mI (rcM M G) 943 = G 5 := rc_at (a := 5) (by omega)
theorem rc_s5 : sI (rcM M G) 943 k v = rcM M (up2 G 5 k v) := rc_st (a := 5) (by omega)
theorem rc_r6 : mI (rcM M G) 944 = G 6 := rc_at (a := 6) (by omega)
theorem rc_s6 : sI (rcM M G) 944 k v = rcM M (up2 G 6 k v) := rc_st (a := 6) (by omega)
theorem rc_r7 : mI (rcM M G) 945 = G 7 := rc_at (a := 7) (by omega)
theorem rc_s7 : sI (rcM M G) 945 k v = rcM M (up2 G 7 k v) := rc_st (a := 7) (by omega)
theorem rc_r8 : mI (rcM M G) 946 = G 8 := rc_at (a := 8) (by omega)
theorem rc_s8 : sI (rcM M G) 946 k v = rcM M (up2 G 8 k v) := rc_st (a := 8) (by omega)
theorem rc_f4 : mk2 (rcM M G) (up1 (mI (rcM M G)) 942 (flI (mI (rcM M G) 942) 32 v)) (mJ (rcM M G)) = rcM M (up1 G 4 (flI (G 4) 32 v)) := rc_fl (a := 4) (by omega)
theorem rc_f6 : mk2 (rcM M G) (up1 (mI (rcM M G)) 944 (flI (mI (rcM M G) 944) 32 v)) (mJ (rcM M G)) = rcM M (up1 G 6 (flI (G 6) 32 v)) := rc_fl (a := 6) (by omega)
theorem rc_id : rcM M (fun a => mI M (938 + a)) = M := by
  show mk2 M (rcI (mI M) (fun a => mI M (938 + a))) (mJ M) = M
  have : rcI (mI M) (fun a => mI M (938 + a)) = mI M := by
    funext x
    unfold rcI
    by_cases c : 938 ≤ x ∧ x < 947
    · rw [if_pos c]
      show mI M (938 + (x - 938)) = _
      rw [show 938 + (x - 938) = x by omega]
    · rw [if_neg c]
  rw [this]
theorem CR.rc {c : Nat} {z : ST} (h : CR c z M) : CR (c + 1) z (rcM M G) := h.sc (fun x q => ⟨by
  unfold scX at q
  exact rc_ot (M := M) (G := G) (by omega), rfl⟩)
theorem MSame.rc : MSame M (rcM M G) := MSame.mk2 (fun x q1 q2 => ⟨rc_ot (M := M) (G := G) (by omega), rfl⟩)
end
/-- a row of G with another one changed -/
theorem u2n {G : Nat → Nat → Int32} {a b k : Nat} {v : Int32} (h : b ≠ a) : up2 G a k v b = G b := by
  rw [up2_up1, up1_ne h]
theorem u2k {G : Nat → Nat → Int32} {a k j : Nat} {v : Int32} (h : j ≠ k) : up2 G a k v a j = G a j := by
  rw [up2_up1, up1_eq, up1_ne h]
theorem u2e {G : Nat → Nat → Int32} {a k : Nat} {v : Int32} : up2 G a k v a k = v := by
  rw [up2_up1, up1_eq, up1_eq]
variable {ks : Nat → Int32} {n : Nat}
/-- the record is loaded -/
def LdOK (ks : Nat → Int32) (n : Nat) (G : Nat → Nat → Int32) : Prop := G 0 0 = nI n ∧ G 0 1 = nI (rk ks n) ∧ (∀ j, j < n → G 1 j = nI (rk ks (fp ks j))) ∧ (∀ j, j < n → G 2 j = nI (sr ks n (fp ks j) (j + 1))) ∧ ∀ k, k < n → fp ks k = k → G 3 (rk ks k) = ks k
theorem LdOK.c {G G2 : Nat → Nat → Int32} (h : LdOK ks n G) (e : ∀ a, a < 4 → G2 a = G a) : LdOK ks n G2 := by
  obtain ⟨h1, h2, h3, h4, h5⟩ := h
  exact ⟨by rw [e 0 (by omega)]; exact h1, by rw [e 0 (by omega)]; exact h2, by rw [e 1 (by omega)]; exact h3, by rw [e 2 (by omega)]; exact h4, by rw [e 3 (by omega)]; exact h5⟩
theorem ReAt.f (hR : ReAt (mT M) (mR M) 938) : mT M 938 = (5, 0) ∧ (mR M 938 2 = some 939 ∧ mT M 939 = (20, 32)) ∧ (mR M 938 3 = some 940 ∧ mT M 940 = (20, 32)) ∧ (mR M 938 4 = some 941 ∧ mT M 941 = (20, 32)) ∧ (mR M 938 5 = some 942 ∧ mT M 942 = (20, 32)) ∧ (mR M 938 6 = some 943 ∧ mT M 943 = (20, 32)) ∧ (mR M 938 7 = some 944 ∧ mT M 944 = (20, 32)) ∧ (mR M 938 8 = some 945 ∧ mT M 945 = (20, 32)) ∧ mR M 938 9 = some 946 ∧ mT M 946 = (20, 32) :=
  ⟨hR.1, hR.2 2 (by omega) (by omega), hR.2 3 (by omega) (by omega), hR.2 4 (by omega) (by omega), hR.2 5 (by omega) (by omega), hR.2 6 (by omega) (by omega), hR.2 7 (by omega) (by omega), hR.2 8 (by omega) (by omega), hR.2 9 (by omega) (by omega)⟩
theorem l_rld1 {a : Nat} (hR : ReAt (mT M) (mR M) 938) (ha : a + 5 < 938) (t1 : mT M a = (7, 0)) (r7 : mR M a 7 = some (a + 5)) (t5 : mT M (a + 5) = (20, 32)) (hk : ∀ i, i < n → mI M (a + 5) i = ks i) (hn : n ≤ 32) {Q : Option Value → Mem → Prop}
    (Kc : ∀ G x2 x3, G 0 0 = nI n → G 0 1 = nI (rk ks n) → (∀ j, j < n → G 1 j = nI (rk ks (fp ks j))) → (∀ k, k < n → fp ks k = k → G 3 (rk ks k) = ks k) → Wp g Y_Re_load 1 90 [some (.ref 938), some (.ref a), x2, x3] [] (rcM M G) Q) :
    ∀ k i G x3, i + k = n → G 0 0 = nI n → G 0 1 = nI (rk ks i) → (∀ j, j < i → G 1 j = nI (rk ks (fp ks j))) → (∀ k, k < i → fp ks k = k → G 3 (rk ks k) = ks k) → Wp g Y_Re_load 1 15 [some (.ref 938), some (.ref a), some (.int (nI i)), x3] [] (rcM M G) Q := by
  obtain ⟨t938, ⟨r2, t939⟩, ⟨r3, t940⟩, ⟨r4, t941⟩, ⟨r5, t942⟩, -, -, -, -⟩ := hR.f
  intro k
  induction k with
  | zero =>
    intro i G x3 h1 g0 g1 g2 g3
    obtain rfl : i = n := by omega
    have v0 : mI (rcM M G) 938 0 = nI i := by rw [rc_r0]; exact g0
    refine wp_iload_n rfl (ck_get kk_Re_load 9 rfl) ?_
    refine wp_aload_n rfl (ck_get kk_Re_load 10 rfl) ?_
    refine wp_getIv (v := nI i) (ck_get kk_Re_load 11 rfl) fl_Re_9 (by assumption) (v0) ?_
    first | refine wp_icmp_geN (t := 90) (ck_get kk_Re_load 12 rfl) (by decide) (by omega) (by omega) (fun hc20 => ?_) (fun hc20 => ?_) | refine wp_icmp_ge (t := 90) (ck_get kk_Re_load 12 rfl) (by decide) (fun hc20 => ?_) (fun hc20 => ?_)
    · exact Kc G _ _ g0 g1 g2 g3
    · omega
  | succ k ih =>
    intro i G x3 h1 g0 g1 g2 g3
    have hr : rk ks i ≤ i := rk_le i
    have v0 : mI (rcM M G) 938 0 = nI n := by rw [rc_r0]; exact g0
    have v1 : mI (rcM M G) 938 1 = nI (rk ks i) := by rw [rc_r0]; exact g1
    have vk : mI (rcM M G) (a + 5) i = ks i := by rw [rc_ot (by omega)]; exact hk i (by omega)
    have hfl : fnd (mI (rcM M G) 941) (rk ks i) (ks i) ≤ rk ks i := fnd_le
    have hfa : ∀ r, r < rk ks i → G 3 r = ks i → ∃ q, q < i ∧ fp ks q = q ∧ rk ks q = r ∧ q = fp ks i := fun r hr e => by
      obtain ⟨q, q1, q2, q3⟩ := rk_sur hr
      refine ⟨q, q1, q2, q3, ?_⟩
      have e2 := g3 q q1 q2
      rw [q3, e] at e2
      rw [fp_eq (i := i) (j := q) e2, q2]
    by_cases c : fp ks i = i
    · have hf : fnd (mI (rcM M G) 941) (rk ks i) (ks i) = 0 := by
        rcases Nat.eq_zero_or_pos (fnd (mI (rcM M G) 941) (rk ks i) (ks i)) with e | e
        · exact e
        · have h2 := fnd_at (f := mI (rcM M G) 941) (n := rk ks i) (key := ks i) (by omega)
          rw [rc_r3] at h2 hfl e
          obtain ⟨q, q1, q2, q3, q4⟩ := hfa _ (by omega) h2
          omega
      have w1 : mI (rcM M (up2 G 3 (rk ks i) (ks i))) 938 1 = nI (rk ks i) := by rw [rc_r0, u2n (by omega)]; exact g1
      have w2 : mI (rcM M (up2 (up2 G 3 (rk ks i) (ks i)) 0 1 (nI (rk ks i + 1)))) 938 1 = nI (rk ks i + 1) := by rw [rc_r0, u2e]
      refine wp_iload_n rfl (ck_get kk_Re_load 9 rfl) ?_
      refine wp_aload_n rfl (ck_get kk_Re_load 10 rfl) ?_
      refine wp_getIv (v := nI n) (ck_get kk_Re_load 11 rfl) fl_Re_9 (by assumption) (v0) ?_
      first | refine wp_icmp_geN (t := 90) (ck_get kk_Re_load 12 rfl) (by decide) (by omega) (by omega) (fun hc20 => ?_) (fun hc20 => ?_) | refine wp_icmp_ge (t := 90) (ck_get kk_Re_load 12 rfl) (by decide) (fun hc20 => ?_) (fun hc20 => ?_)
      · omega
      · refine wp_aload_n rfl (ck_get kk_Re_load 13 rfl) ?_
        refine wp_getR (ck_get kk_Re_load 14 rfl) fl_Re_25 (by assumption) (by assumption) ?_
        refine wp_aload_n rfl (ck_get kk_Re_load 15 rfl) ?_
        refine wp_getIv (v := nI (rk ks i)) (ck_get kk_Re_load 16 rfl) fl_Re_15 (by assumption) (v1) ?_
        refine wp_aload_n rfl (ck_get kk_Re_load 17 rfl) ?_
        refine wp_getR (ck_get kk_Re_load 18 rfl) fl_Re_48 (by assumption) (by assumption) ?_
        refine wp_iload_n rfl (ck_get kk_Re_load 19 rfl) ?_
        refine wp_ialdv (v := ks i) (ck_get kk_Re_load 20 rfl) (by assumption) (ixk_nI (k := i) (by omega) (by omega)) (vk) ?_
        refine wp_cSN3i (ck_get kk_Re_load 21 rfl) ml_Re_51 (by omega) (Nat.le_of_ble_eq_true rfl) (Ci.to (c_placeIn (a := 941) (len := 32) (by exact t941) (by omega) (by omega)) ?_)
        rintro x M1 ⟨w5, w6⟩
        subst w6
        rw [hf] at w5
        subst w5
        refine wp_istore_n (ck_get kk_Re_load 22 rfl) (by decide) rfl ?_
        refine wp_iload_n rfl (ck_get kk_Re_load 23 rfl) ?_
        first | refine wp_if_neN (t := 75) (ck_get kk_Re_load 24 rfl) (by decide) (by omega) (fun hc42 => ?_) (fun hc42 => ?_) | refine wp_if_ne (t := 75) (ck_get kk_Re_load 24 rfl) (by decide) (fun hc42 => ?_) (fun hc42 => ?_)
        · exact absurd rfl hc42
        · refine wp_aload_n rfl (ck_get kk_Re_load 25 rfl) ?_
          refine wp_getR (ck_get kk_Re_load 26 rfl) fl_Re_25 (by assumption) (by assumption) ?_
          refine wp_aload_n rfl (ck_get kk_Re_load 27 rfl) ?_
          refine wp_getIv (v := nI (rk ks i)) (ck_get kk_Re_load 28 rfl) fl_Re_15 (by assumption) (v1) ?_
          refine wp_aload_n rfl (ck_get kk_Re_load 29 rfl) ?_
          refine wp_getR (ck_get kk_Re_load 30 rfl) fl_Re_48 (by assumption) (by assumption) ?_
          refine wp_iload_n rfl (ck_get kk_Re_load 31 rfl) ?_
          refine wp_ialdv (v := ks i) (ck_get kk_Re_load 32 rfl) (by assumption) (ixk_nI (k := i) (by omega) (by omega)) (vk) ?_
          refine wp_iast (ck_get kk_Re_load 33 rfl) (by assumption) (ixk_nI (k := rk ks i) (by omega) (by omega)) ?_
          rw [rc_s3]
          refine wp_aload_n rfl (ck_get kk_Re_load 34 rfl) ?_
          refine wp_dup rfl (ck_get kk_Re_load 35 rfl) ?_
          refine wp_getIv (v := nI (rk ks i)) (ck_get kk_Re_load 36 rfl) fl_Re_15 (by assumption) (w1) ?_
          refine wp_iconst (v := nI 1) (by decide) (ck_get kk_Re_load 37 rfl) ?_
          first | refine wp_iaddN (ck_get kk_Re_load 38 rfl) ?_ | refine wp_iadd (ck_get kk_Re_load 38 rfl) ?_
          refine wp_putI (ck_get kk_Re_load 39 rfl) fl_Re_15 (by decide +kernel) (by assumption) (okI_int _) ?_
          rw [rc_s0]
          refine wp_aload_n rfl (ck_get kk_Re_load 40 rfl) ?_
          refine wp_getIv (v := nI (rk ks i + 1)) (ck_get kk_Re_load 41 rfl) fl_Re_15 (by assumption) (w2) ?_
          refine wp_istore_n (ck_get kk_Re_load 42 rfl) (by decide) rfl ?_
          refine wp_aload_n rfl (ck_get kk_Re_load 43 rfl) ?_
          refine wp_getR (ck_get kk_Re_load 44 rfl) fl_Re_18 (by assumption) (by assumption) ?_
          refine wp_iload_n rfl (ck_get kk_Re_load 45 rfl) ?_
          refine wp_iload_n rfl (ck_get kk_Re_load 46 rfl) ?_
          refine wp_iconst (v := nI 1) (by decide) (ck_get kk_Re_load 47 rfl) ?_
          first | refine wp_isubN (ck_get kk_Re_load 48 rfl) (by omega) ?_ | refine wp_isub (ck_get kk_Re_load 48 rfl) ?_
          refine wp_iast (ck_get kk_Re_load 49 rfl) (by assumption) (ixk_nI (k := i) (by omega) (by omega)) ?_
          rw [rc_s1, Nat.add_sub_cancel]
          first | refine wp_iincN (ck_get kk_Re_load 50 rfl) rfl (by decide) rfl ?_ | refine wp_iinc (ck_get kk_Re_load 50 rfl) rfl (by decide) rfl ?_
          refine wp_goto (t := 15) (ck_get kk_Re_load 51 rfl) (by decide) ?_
          refine ih (i + 1) _ _ (by omega) ?_ ?_ (fun j hj => ?_) (fun q hq q2 => ?_)
          · rw [u2n (by omega), u2k (by omega), u2n (by omega)]; exact g0
          · rw [u2n (by omega), u2e, rk_f c]
          · by_cases e : j = i
            · subst e; rw [u2e, c]
            · rw [u2k e, u2n (by omega), u2n (by omega)]; exact g2 j (by omega)
          · rw [u2n (by omega), u2n (by omega)]
            by_cases e : q = i
            · subst e; rw [u2e]
            · have hlt := rk_lt q2 (show q < i by omega)
              rw [u2k (by omega)]; exact g3 q (by omega) q2
    · have hfi := fp_le (ks := ks) i
      have hf : fnd (mI (rcM M G) 941) (rk ks i) (ks i) = rk ks (fp ks i) + 1 := by
        rcases Nat.eq_zero_or_pos (fnd (mI (rcM M G) 941) (rk ks i) (ks i)) with e | e
        · have h2 := fnd_none e (rk ks (fp ks i)) (rk_lt (fp_fp i) (by omega))
          rw [rc_r3] at h2
          exact absurd ((g3 (fp ks i) (by omega) (fp_fp i)).trans (fp_ks i)) h2
        · have h2 := fnd_at (f := mI (rcM M G) 941) (n := rk ks i) (key := ks i) (by omega)
          rw [rc_r3] at h2 hfl e ⊢
          obtain ⟨q, q1, q2, q3, q4⟩ := hfa _ (by omega) h2
          rw [← q4, q3]
          omega
      have hlt := rk_lt (fp_fp (ks := ks) i) (show fp ks i < i by omega)
      refine wp_iload_n rfl (ck_get kk_Re_load 9 rfl) ?_
      refine wp_aload_n rfl (ck_get kk_Re_load 10 rfl) ?_
      refine wp_getIv (v := nI n) (ck_get kk_Re_load 11 rfl) fl_Re_9 (by assumption) (v0) ?_
      first | refine wp_icmp_geN (t := 90) (ck_get kk_Re_load 12 rfl) (by decide) (by omega) (by omega) (fun hc20 => ?_) (fun hc20 => ?_) | refine wp_icmp_ge (t := 90) (ck_get kk_Re_load 12 rfl) (by decide) (fun hc20 => ?_) (fun hc20 => ?_)
      · omega
      · refine wp_aload_n rfl (ck_get kk_Re_load 13 rfl) ?_
        refine wp_getR (ck_get kk_Re_load 14 rfl) fl_Re_25 (by assumption) (by assumption) ?_
        refine wp_aload_n rfl (ck_get kk_Re_load 15 rfl) ?_
        refine wp_getIv (v := nI (rk ks i)) (ck_get kk_Re_load 16 rfl) fl_Re_15 (by assumption) (v1) ?_
        refine wp_aload_n rfl (ck_get kk_Re_load 17 rfl) ?_
        refine wp_getR (ck_get kk_Re_load 18 rfl) fl_Re_48 (by assumption) (by assumption) ?_
        refine wp_iload_n rfl (ck_get kk_Re_load 19 rfl) ?_
        refine wp_ialdv (v := ks i) (ck_get kk_Re_load 20 rfl) (by assumption) (ixk_nI (k := i) (by omega) (by omega)) (vk) ?_
        refine wp_cSN3i (ck_get kk_Re_load 21 rfl) ml_Re_51 (by omega) (Nat.le_of_ble_eq_true rfl) (Ci.to (c_placeIn (a := 941) (len := 32) (by exact t941) (by omega) (by omega)) ?_)
        rintro x M1 ⟨w5, w6⟩
        subst w6
        rw [hf] at w5
        subst w5
        refine wp_istore_n (ck_get kk_Re_load 22 rfl) (by decide) rfl ?_
        refine wp_iload_n rfl (ck_get kk_Re_load 23 rfl) ?_
        first | refine wp_if_neN (t := 75) (ck_get kk_Re_load 24 rfl) (by decide) (by omega) (fun hc42 => ?_) (fun hc42 => ?_) | refine wp_if_ne (t := 75) (ck_get kk_Re_load 24 rfl) (by decide) (fun hc42 => ?_) (fun hc42 => ?_)
        · refine wp_aload_n rfl (ck_get kk_Re_load 43 rfl) ?_
          refine wp_getR (ck_get kk_Re_load 44 rfl) fl_Re_18 (by assumption) (by assumption) ?_
          refine wp_iload_n rfl (ck_get kk_Re_load 45 rfl) ?_
          refine wp_iload_n rfl (ck_get kk_Re_load 46 rfl) ?_
          refine wp_iconst (v := nI 1) (by decide) (ck_get kk_Re_load 47 rfl) ?_
          first | refine wp_isubN (ck_get kk_Re_load 48 rfl) (by omega) ?_ | refine wp_isub (ck_get kk_Re_load 48 rfl) ?_
          refine wp_iast (ck_get kk_Re_load 49 rfl) (by assumption) (ixk_nI (k := i) (by omega) (by omega)) ?_
          rw [rc_s1, Nat.add_sub_cancel]
          first | refine wp_iincN (ck_get kk_Re_load 50 rfl) rfl (by decide) rfl ?_ | refine wp_iinc (ck_get kk_Re_load 50 rfl) rfl (by decide) rfl ?_
          refine wp_goto (t := 15) (ck_get kk_Re_load 51 rfl) (by decide) ?_
          refine ih (i + 1) _ _ (by omega) ?_ ?_ (fun j hj => ?_) (fun q hq q2 => ?_)
          · rw [u2n (by omega)]; exact g0
          · rw [u2n (by omega), rk_nf c]; exact g1
          · by_cases e : j = i
            · subst e; rw [u2e]
            · rw [u2k e]; exact g2 j (by omega)
          · rw [u2n (by omega)]
            by_cases e : q = i
            · subst e; exact absurd q2 c
            · exact g3 q (by omega) q2
        · omega
theorem l_rld2 {a : Nat} (hR : ReAt (mT M) (mR M) 938) (hn : n ≤ 32) {Q : Option Value → Mem → Prop}
    (Kc : ∀ G, LdOK ks n G → Q none (rcM M G)) :
    ∀ q G x2 x3, q ≤ n → (q = 0 → x2 = -1) → (∀ p, q = p + 1 → x2 = nI p) → G 0 0 = nI n → G 0 1 = nI (rk ks n) → (∀ j, j < n → G 1 j = nI (rk ks (fp ks j))) → (∀ k, k < n → fp ks k = k → G 3 (rk ks k) = ks k) → (∀ j, q ≤ j → j < n → G 2 j = nI (sr ks n (fp ks j) (j + 1))) → (∀ k, k < n → fp ks k = k → G 4 (rk ks k) = nI (sr ks n k q)) → Wp g Y_Re_load 1 106 [some (.ref 938), some (.ref a), some (.int x2), x3] [] (rcM M G) (fun r M2 => r = none ∧ Q none M2) := by
  obtain ⟨t938, ⟨r2, t939⟩, ⟨r3, t940⟩, ⟨r4, t941⟩, ⟨r5, t942⟩, -, -, -, -⟩ := hR.f
  intro q
  induction q with
  | zero =>
    intro G x2 x3 h1 h2 h3 g0 g1 g2 g3 g4 g5
    obtain rfl := h2 rfl
    refine wp_iload_n rfl (ck_get kk_Re_load 61 rfl) ?_
    refine wp_if_lt (t := 145) (ck_get kk_Re_load 62 rfl) (by decide) (fun hc107 => ?_) (fun hc107 => ?_)
    · refine wp_return (ck_get kk_Re_load 84 rfl) rfl ⟨rfl, ?_⟩
      exact Kc G ⟨g0, g1, g2, fun j hj => g4 j (Nat.zero_le _) hj, g3⟩
    · exact absurd (by decide) hc107
  | succ p ih =>
    intro G x2 x3 h1 h2 h3 g0 g1 g2 g3 g4 g5
    obtain rfl := h3 p rfl
    have hfi := fp_le (ks := ks) p
    have hlt := rk_lt (fp_fp (ks := ks) p) (show fp ks p < n by omega)
    have hrn : rk ks n ≤ n := rk_le n
    have vw : mI (rcM M G) 939 p = nI (rk ks (fp ks p)) := by rw [rc_r1]; exact g2 p (by omega)
    have vl : mI (rcM M G) 942 (rk ks (fp ks p)) = nI (sr ks n (fp ks p) (p + 1)) := by rw [rc_r4]; exact g5 _ (by omega) (fp_fp p)
    have vw2 : mI (rcM M (up2 G 2 p (nI (sr ks n (fp ks p) (p + 1))))) 939 p = nI (rk ks (fp ks p)) := by rw [rc_r1, u2n (by omega)]; exact g2 p (by omega)
    refine wp_iload_n rfl (ck_get kk_Re_load 61 rfl) ?_
    first | refine wp_if_ltN (t := 145) (ck_get kk_Re_load 62 rfl) (by decide) (by omega) (fun hc107 => ?_) (fun hc107 => ?_) | refine wp_if_lt (t := 145) (ck_get kk_Re_load 62 rfl) (by decide) (fun hc107 => ?_) (fun hc107 => ?_)
    · exact hc107.elim
    · refine wp_aload_n rfl (ck_get kk_Re_load 63 rfl) ?_
      refine wp_getR (ck_get kk_Re_load 64 rfl) fl_Re_22 (by assumption) (by assumption) ?_
      refine wp_iload_n rfl (ck_get kk_Re_load 65 rfl) ?_
      refine wp_aload_n rfl (ck_get kk_Re_load 66 rfl) ?_
      refine wp_getR (ck_get kk_Re_load 67 rfl) fl_Re_28 (by assumption) (by assumption) ?_
      refine wp_aload_n rfl (ck_get kk_Re_load 68 rfl) ?_
      refine wp_getR (ck_get kk_Re_load 69 rfl) fl_Re_18 (by assumption) (by assumption) ?_
      refine wp_iload_n rfl (ck_get kk_Re_load 70 rfl) ?_
      refine wp_ialdv (v := nI (rk ks (fp ks p))) (ck_get kk_Re_load 71 rfl) (by assumption) (ixk_nI (k := p) (by omega) (by omega)) (vw) ?_
      refine wp_ialdv (v := nI (sr ks n (fp ks p) (p + 1))) (ck_get kk_Re_load 72 rfl) (by assumption) (ixk_nI (k := rk ks (fp ks p)) (by omega) (by omega)) (vl) ?_
      refine wp_iast (ck_get kk_Re_load 73 rfl) (by assumption) (ixk_nI (k := p) (by omega) (by omega)) ?_
      rw [rc_s2]
      refine wp_aload_n rfl (ck_get kk_Re_load 74 rfl) ?_
      refine wp_getR (ck_get kk_Re_load 75 rfl) fl_Re_28 (by assumption) (by assumption) ?_
      refine wp_aload_n rfl (ck_get kk_Re_load 76 rfl) ?_
      refine wp_getR (ck_get kk_Re_load 77 rfl) fl_Re_18 (by assumption) (by assumption) ?_
      refine wp_iload_n rfl (ck_get kk_Re_load 78 rfl) ?_
      refine wp_ialdv (v := nI (rk ks (fp ks p))) (ck_get kk_Re_load 79 rfl) (by assumption) (ixk_nI (k := p) (by omega) (by omega)) (vw2) ?_
      refine wp_iload_n rfl (ck_get kk_Re_load 80 rfl) ?_
      refine wp_iast (ck_get kk_Re_load 81 rfl) (by assumption) (ixk_nI (k := rk ks (fp ks p)) (by omega) (by omega)) ?_
      rw [rc_s4]
      refine wp_iinc (ck_get kk_Re_load 82 rfl) rfl (by decide) rfl ?_
      refine wp_goto (t := 106) (ck_get kk_Re_load 83 rfl) (by decide) ?_
      refine ih _ _ _ (by omega) (fun e => ?_) (fun q e => ?_) ?_ ?_ (fun j hj => ?_) (fun k hk hk2 => ?_) (fun j hj hj2 => ?_) (fun k hk hk2 => ?_)
      · subst e; decide
      · subst e; exact nI_dec' q
      · rw [u2n (by omega), u2n (by omega)]; exact g0
      · rw [u2n (by omega), u2n (by omega)]; exact g1
      · rw [u2n (by omega), u2n (by omega)]; exact g2 j hj
      · rw [u2n (by omega), u2n (by omega)]; exact g3 k hk hk2
      · rw [u2n (by omega)]
        by_cases e : j = p
        · subst e; rw [u2e]
        · rw [u2k e]; exact g4 j (by omega) hj2
      · by_cases e : k = fp ks p
        · subst e; rw [u2e, sr_yes (by omega) rfl]
        · rw [u2k (fun q => e (rk_inj hk2 (fp_fp p) q)), u2n (by omega), sr_no (by omega) (Ne.symm e)]
          exact g5 k hk hk2
theorem c_reLoad {a : Nat} {G : Nat → Nat → Int32} (hR : ReAt (mT M) (mR M) 938) (ha : a + 5 < 938) (t1 : mT M a = (7, 0)) (r7 : mR M a 7 = some (a + 5)) (t5 : mT M (a + 5) = (20, 32)) (hs : mI M a 8 = nI n) (hk : ∀ i, i < n → mI M (a + 5) i = ks i) (hn : n ≤ 32) : Cv g Y_Re_load 1 [.ref 938, .ref a] (rcM M G) (fun M2 => ∃ G, M2 = rcM M G ∧ LdOK ks n G) := by
  obtain ⟨t938, ⟨r2, t939⟩, ⟨r3, t940⟩, ⟨r4, t941⟩, ⟨r5, t942⟩, -, -, -, -⟩ := hR.f
  have v8 : mI (rcM M G) a 8 = nI n := by rw [rc_ot (by omega)]; exact hs
  refine cw_entry 2 pf_Re_load rfl ?_
  refine wp_aload_n rfl (ck_get kk_Re_load 0 rfl) ?_
  refine wp_aload_n rfl (ck_get kk_Re_load 1 rfl) ?_
  refine wp_getIv (v := nI n) (ck_get kk_Re_load 2 rfl) fl_Re_43 (by assumption) (v8) ?_
  refine wp_putI (ck_get kk_Re_load 3 rfl) fl_Re_9 (by decide +kernel) (by assumption) (okI_int _) ?_
  rw [rc_s0]
  refine wp_aload_n rfl (ck_get kk_Re_load 4 rfl) ?_
  refine wp_iconst (v := nI 0) (by decide) (ck_get kk_Re_load 5 rfl) ?_
  refine wp_putI (ck_get kk_Re_load 6 rfl) fl_Re_15 (by decide +kernel) (by assumption) (okI_int _) ?_
  rw [rc_s0]
  refine wp_iconst (v := nI 0) (by decide) (ck_get kk_Re_load 7 rfl) ?_
  refine wp_istore_n (ck_get kk_Re_load 8 rfl) (by decide) rfl ?_
  refine l_rld1 (ks := ks) hR ha t1 r7 t5 hk hn (fun G x2 x3 g0 g1 g2 g3 => ?_) n 0 _ _ (by omega) ?_ ?_ (fun j hj => absurd hj (Nat.not_lt_zero _)) (fun k hk => absurd hk (Nat.not_lt_zero _))
  · skip
    have w0 : mI (rcM M (up1 G 4 (flI (G 4) 32 (nI 32)))) 938 0 = nI n := by rw [rc_r0, up1_ne (by omega)]; exact g0
    refine wp_aload_n rfl (ck_get kk_Re_load 52 rfl) ?_
    refine wp_getR (ck_get kk_Re_load 53 rfl) fl_Re_28 (by assumption) (by assumption) ?_
    refine wp_bipush (v := nI 32) (by decide) (ck_get kk_Re_load 54 rfl) ?_
    refine wp_cS2v (ck_get kk_Re_load 55 rfl) ml_Re_55 (by omega) (Nat.le_of_ble_eq_true rfl) (Cv.to (c_fillI (a := 942) (len := 32) (by exact t942) (by omega)) ?_)
    rintro M1 w1
    rw [rc_f4] at w1
    subst w1
    refine wp_aload_n rfl (ck_get kk_Re_load 56 rfl) ?_
    refine wp_getIv (v := nI n) (ck_get kk_Re_load 57 rfl) fl_Re_9 (by assumption) (w0) ?_
    refine wp_iconst (v := nI 1) (by decide) (ck_get kk_Re_load 58 rfl) ?_
    refine wp_isub (ck_get kk_Re_load 59 rfl) ?_
    refine wp_istore_n (ck_get kk_Re_load 60 rfl) (by decide) rfl ?_
    refine Wp.mono (l_rld2 (a := a) (Q := fun _ M2 => ∃ G, M2 = rcM M G ∧ LdOK ks n G) hR hn (fun G hG => ⟨G, rfl, hG⟩) n _ _ _ (Nat.le_refl _) (fun e => ?_) (fun p e => ?_) ?_ ?_ (fun j hj => ?_) (fun k hk hk2 => ?_) (fun j hj hj2 => absurd hj2 (Nat.not_lt.mpr hj)) (fun k hk hk2 => ?_)) (fun r M2 h => h)
    · subst e; decide
    · subst e; exact pk_sub (by omega)
    · rw [up1_ne (by omega)]; exact g0
    · rw [up1_ne (by omega)]; exact g1
    · rw [up1_ne (by omega)]; exact g2 j hj
    · rw [up1_ne (by omega)]; exact g3 k hk hk2
    · have hlt := rk_lt hk2 hk
      have hrn : rk ks n ≤ n := rk_le n
      rw [up1_eq, sr_end (Nat.le_refl _)]
      exact if_pos (by omega)
  · rw [u2k (by omega), u2e]
  · rw [u2e]; rfl
end RCL

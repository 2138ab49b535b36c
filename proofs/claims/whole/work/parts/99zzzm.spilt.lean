/-! ===== spilt ===== -/
section SPL
variable {g : Gl} {M : Mem} {ks : Nat → Int32} {n : Nat}
/-- behind read j a cache of c places holds what one of c + 1 does not -/
def Sp (pol : Nat) (ks : Nat → Int32) (n c j : Nat) : Prop := ∃ k, (simP pol ks n c (j + 1)).1 k = true ∧ (simP pol ks n (c + 1) (j + 1)).1 k = false
theorem Sp_I {pol c j : Nat} {w1 w2 : Int32} (hj : j < n) (hn : n ≤ 32) (h1 : HwI ks n w1 (simP pol ks n c (j + 1)).1) (h2 : HwI ks n w2 (simP pol ks n (c + 1) (j + 1)).1) : (w1 &&& (w2 ^^^ (-1))) = 0 ↔ ¬ Sp pol ks n c j := by
  have hO := simP_ok (ks := ks) (n := n) (pol := pol) (c := c) (j + 1) (by omega)
  have hrn : rk ks n ≤ n := rk_le n
  rw [bt_subI]
  constructor
  · rintro h ⟨k, q1, q2⟩
    obtain ⟨k1, k2⟩ := hO.1 k q1
    have hlt := rk_lt k1 (show k < n by omega)
    have := h (rk ks k) (by omega) (by rw [h1.1 k (by omega) k1]; exact q1)
    rw [h2.1 k (by omega) k1, q2] at this
    cases this
  · intro h r hr hb
    rcases Nat.lt_or_ge r (rk ks n) with c1 | c1
    · obtain ⟨k, k1, k2, k3⟩ := rk_sur c1
      subst k3
      rw [h1.1 k k1 k2] at hb
      rw [h2.1 k k1 k2]
      cases q : (simP pol ks n (c + 1) (j + 1)).1 k
      · exact absurd ⟨k, hb, q⟩ h
      · rfl
    · rw [h1.2 r c1] at hb; cases hb
theorem Sp_J {pol c j : Nat} {w1 w2 : Int64} (hj : j < n) (hn : n ≤ 32) (h1 : HwJ w1 (simP pol ks n c (j + 1)).1) (h2 : HwJ w2 (simP pol ks n (c + 1) (j + 1)).1) : (w1 &&& (w2 ^^^ (-1))) = 0 ↔ ¬ Sp pol ks n c j := by
  have hO := simP_ok (ks := ks) (n := n) (pol := pol) (c := c) (j + 1) (by omega)
  rw [bt_subJ]
  constructor
  · rintro h ⟨k, q1, q2⟩
    obtain ⟨k1, k2⟩ := hO.1 k q1
    have := h k (by omega) (by rw [h1.1 k (by omega)]; exact q1)
    rw [h2.1 k (by omega), q2] at this
    cases this
  · intro h r hr hb
    rcases Nat.lt_or_ge r 32 with c1 | c1
    · rw [h1.1 r c1] at hb
      rw [h2.1 r c1]
      cases q : (simP pol ks n (c + 1) (j + 1)).1 r
      · exact absurd ⟨r, hb, q⟩ h
      · rfl
    · rw [h1.2 r c1] at hb; cases hb
theorem Sp_all {pol c j : Nat} (hj : j < n) (hn : n ≤ 32) (hc : rk ks n ≤ c) : ¬ Sp pol ks n c j := by
  rintro ⟨k, q1, q2⟩
  rw [(simP_all hc hn (j + 1) (by omega)).1] at q1
  rw [(simP_all (show rk ks n ≤ c + 1 by omega) hn (j + 1) (by omega)).1, q1] at q2
  cases q2
/-- the first such read, for sizes from 1 on below C -/
def SpF (pol : Nat) (ks : Nat → Int32) (n C f : Nat) : Prop := f ≤ n ∧ (∀ j, j < f → ∀ c, 1 ≤ c → c < C → ¬ Sp pol ks n c j) ∧ (f < n → ∃ c, 1 ≤ c ∧ c < C ∧ Sp pol ks n c f)
theorem SpF_un {pol C a b : Nat} (ha : SpF pol ks n C a) (hb : SpF pol ks n C b) : a = b := by
  rcases Nat.lt_trichotomy a b with q | q | q
  · obtain ⟨c, h1, h2, h3⟩ := ha.2.2 (by have := hb.1; omega)
    exact absurd h3 (hb.2.1 a q c h1 h2)
  · exact q
  · obtain ⟨c, h1, h2, h3⟩ := hb.2.2 (by have := ha.1; omega)
    exact absurd h3 (ha.2.1 b q c h1 h2)
theorem SpF_ex (pol C : Nat) : ∀ d m, m + d = n → (∀ j, j < m → ∀ c, 1 ≤ c → c < C → ¬ Sp pol ks n c j) → ∃ f, SpF pol ks n C f := by
  intro d
  induction d with
  | zero => intro m e h; exact ⟨m, by omega, h, fun q => by omega⟩
  | succ d ih =>
    intro m e h
    by_cases c : ∃ c, 1 ≤ c ∧ c < C ∧ Sp pol ks n c m
    · exact ⟨m, by omega, h, fun _ => c⟩
    · refine ih (m + 1) (by omega) (fun q hq c2 h1 h2 h3 => ?_)
      by_cases e : q = m
      · subst e; exact c ⟨c2, h1, h2, h3⟩
      · exact h q (by omega) c2 h1 h2 h3
theorem rc_cp {G : Nat → Nat → Int32} : cpI (rcM M G) 945 0 946 0 32 = rcM M (up1 G 8 (fun y => if y < 32 then G 7 y else G 8 y)) := by
  refine mk2_ext (M := M) ?_ rfl
  rw [← rc_up (M := M) (G := G) (a := 8) (by omega)]
  funext x y
  show (if x = 946 ∧ 0 ≤ y ∧ y < 0 + 32 then rcI (mI M) G 945 (0 + (y - 0)) else rcI (mI M) G x y) = up1 (rcI (mI M) G) 946 (fun y => if y < 32 then G 7 y else G 8 y) x y
  have e7 : rcI (mI M) G 945 = G 7 := rc_r7 (M := M)
  have e8 : rcI (mI M) G 946 = G 8 := rc_r8 (M := M)
  by_cases c : x = 946
  · subst c
    rw [up1_eq, e7, e8]
    by_cases c2 : y < 32
    · rw [if_pos ⟨rfl, by omega, by omega⟩, if_pos c2, show 0 + (y - 0) = y by omega]
    · rw [if_neg (fun q => by omega), if_neg c2]
  · rw [up1_ne c, if_neg (fun q => c q.1)]
theorem l_fs {pol c : Nat} {G : Nat → Nat → Int32} (hR : ReAt (mT M) (mR M) 938) (hn : n ≤ 32) (h7 : ∀ j, j < n → HwI ks n (G 7 j) (simP pol ks n (c + 1) (j + 1)).1) (h8 : ∀ j, j < n → HwI ks n (G 8 j) (simP pol ks n c (j + 1)).1) {Q : Option Value → Mem → Prop} : ∀ d i f, i + d = f → f ≤ n → (∀ j, j < i → ¬ Sp pol ks n c j) →
    (∀ f2 x4, f2 ≤ f → (∀ j, j < f2 → ¬ Sp pol ks n c j) → (f2 < f → Sp pol ks n c f2) → Wp g Y_Re_firstSpilt 4 90 [some (.ref 938), some (.int (nI pol)), some (.int (nI f2)), some (.int (nI c)), x4] [] (rcM M G) Q) →
    Wp g Y_Re_firstSpilt 4 55 [some (.ref 938), some (.int (nI pol)), some (.int (nI f)), some (.int (nI c)), some (.int (nI i))] [] (rcM M G) Q := by
  obtain ⟨t938, -, -, -, -, -, -, ⟨r8, t945⟩, r9, t946⟩ := hR.f
  intro d
  induction d with
  | zero =>
    intro i f h1 h2 h3 Kc
    obtain rfl : i = f := by omega
    refine wp_iload rfl (ck_get kk_Re_firstSpilt 34 rfl) ?_
    refine wp_iload_n rfl (ck_get kk_Re_firstSpilt 35 rfl) ?_
    first | refine wp_icmp_geN (t := 90) (ck_get kk_Re_firstSpilt 36 rfl) (by decide) (by omega) (by omega) (fun hc58 => ?_) (fun hc58 => ?_) | refine wp_icmp_ge (t := 90) (ck_get kk_Re_firstSpilt 36 rfl) (by decide) (fun hc58 => ?_) (fun hc58 => ?_)
    · exact Kc i _ (Nat.le_refl _) h3 (fun q => absurd q (Nat.lt_irrefl _))
    · omega
  | succ d ih =>
    intro i f h1 h2 h3 Kc
    have v8 : mI (rcM M G) 946 i = G 8 i := by rw [rc_r8]
    have v7 : mI (rcM M G) 945 i = G 7 i := by rw [rc_r7]
    have hs := Sp_I (pol := pol) (c := c) (show i < n by omega) hn (h8 i (by omega)) (h7 i (by omega))
    refine wp_iload rfl (ck_get kk_Re_firstSpilt 34 rfl) ?_
    refine wp_iload_n rfl (ck_get kk_Re_firstSpilt 35 rfl) ?_
    first | refine wp_icmp_geN (t := 90) (ck_get kk_Re_firstSpilt 36 rfl) (by decide) (by omega) (by omega) (fun hc58 => ?_) (fun hc58 => ?_) | refine wp_icmp_ge (t := 90) (ck_get kk_Re_firstSpilt 36 rfl) (by decide) (fun hc58 => ?_) (fun hc58 => ?_)
    · omega
    · refine wp_aload_n rfl (ck_get kk_Re_firstSpilt 37 rfl) ?_
      refine wp_getR (ck_get kk_Re_firstSpilt 38 rfl) fl_Re_40 (by assumption) (by assumption) ?_
      refine wp_iload rfl (ck_get kk_Re_firstSpilt 39 rfl) ?_
      refine wp_ialdv (v := G 8 i) (ck_get kk_Re_firstSpilt 40 rfl) (by assumption) (ixk_nI (k := i) (by omega) (by omega)) (v8) ?_
      refine wp_aload_n rfl (ck_get kk_Re_firstSpilt 41 rfl) ?_
      refine wp_getR (ck_get kk_Re_firstSpilt 42 rfl) fl_Re_37 (by assumption) (by assumption) ?_
      refine wp_iload rfl (ck_get kk_Re_firstSpilt 43 rfl) ?_
      refine wp_ialdv (v := G 7 i) (ck_get kk_Re_firstSpilt 44 rfl) (by assumption) (ixk_nI (k := i) (by omega) (by omega)) (v7) ?_
      refine wp_iconst (v := (-1)) (by decide) (ck_get kk_Re_firstSpilt 45 rfl) ?_
      refine wp_ixor (ck_get kk_Re_firstSpilt 46 rfl) ?_
      refine wp_iand (ck_get kk_Re_firstSpilt 47 rfl) ?_
      refine wp_if_eq (t := 84) (ck_get kk_Re_firstSpilt 48 rfl) (by decide) (fun hc78 => ?_) (fun hc78 => ?_)
      · first | refine wp_iincN (ck_get kk_Re_firstSpilt 51 rfl) rfl (by decide) rfl ?_ | refine wp_iinc (ck_get kk_Re_firstSpilt 51 rfl) rfl (by decide) rfl ?_
        refine wp_goto (t := 55) (ck_get kk_Re_firstSpilt 52 rfl) (by decide) ?_
        exact ih (i + 1) f (by omega) h2 (fun j hj => by
          by_cases e : j = i
          · subst e; exact hs.mp hc78
          · exact h3 j (by omega)) Kc
      · refine wp_iload rfl (ck_get kk_Re_firstSpilt 49 rfl) ?_
        refine wp_istore_n (ck_get kk_Re_firstSpilt 50 rfl) (by decide) rfl ?_
        first | refine wp_iincN (ck_get kk_Re_firstSpilt 51 rfl) rfl (by decide) rfl ?_ | refine wp_iinc (ck_get kk_Re_firstSpilt 51 rfl) rfl (by decide) rfl ?_
        refine wp_goto (t := 55) (ck_get kk_Re_firstSpilt 52 rfl) (by decide) ?_
        skip
        refine wp_iload rfl (ck_get kk_Re_firstSpilt 34 rfl) ?_
        refine wp_iload_n rfl (ck_get kk_Re_firstSpilt 35 rfl) ?_
        first | refine wp_icmp_geN (t := 90) (ck_get kk_Re_firstSpilt 36 rfl) (by decide) (by omega) (by omega) (fun hc58 => ?_) (fun hc58 => ?_) | refine wp_icmp_ge (t := 90) (ck_get kk_Re_firstSpilt 36 rfl) (by decide) (fun hc58 => ?_) (fun hc58 => ?_)
        · exact Kc i _ (by omega) h3 (fun _ => Classical.byContradiction fun q => hc78 (hs.mpr q))
        · omega
theorem c_firstSpilt {pol m : Nat} {G0 : Nat → Nat → Int32} (hR : ReAt (mT M) (mR M) 938) (hn : n ≤ 32) (hp : pol < 5) (hL : LdOK ks n G0) (hm : SpF pol ks n 24 m) : Ci g Y_Re_firstSpilt 4 [.ref 938, .int (nI pol)] (rcM M G0) (fun y M2 => ∃ G, y = (if m < n then nI m else -1) ∧ M2 = rcM M G) := by
  obtain ⟨t938, -, -, -, -, -, -, ⟨r8, t945⟩, r9, t946⟩ := hR.f
  have hrn : rk ks n ≤ n := rk_le n
  have hend : ∀ G x3 x4, LdOK ks n G → Wp g Y_Re_firstSpilt 4 96 [some (.ref 938), some (.int (nI pol)), some (.int (nI m)), x3, x4] [] (rcM M G) (fun r M2 => ∃ y, r = some (.int y) ∧ ∃ G, y = (if m < n then nI m else -1) ∧ M2 = rcM M G) := by
    intro G x3 x4 hG
    have v0 : mI (rcM M G) 938 0 = nI n := by rw [rc_r0]; exact hG.1
    have hmn := hm.1
    refine wp_iload_n rfl (ck_get kk_Re_firstSpilt 55 rfl) ?_
    refine wp_aload_n rfl (ck_get kk_Re_firstSpilt 56 rfl) ?_
    refine wp_getIv (v := nI n) (ck_get kk_Re_firstSpilt 57 rfl) fl_Re_9 (by assumption) (v0) ?_
    first | refine wp_icmp_geN (t := 108) (ck_get kk_Re_firstSpilt 58 rfl) (by decide) (by omega) (by omega) (fun hc101 => ?_) (fun hc101 => ?_) | refine wp_icmp_ge (t := 108) (ck_get kk_Re_firstSpilt 58 rfl) (by decide) (fun hc101 => ?_) (fun hc101 => ?_)
    · refine wp_iconst (v := (-1)) (by decide) (ck_get kk_Re_firstSpilt 61 rfl) ?_
      refine wp_ireturn (ck_get kk_Re_firstSpilt 62 rfl) rfl rfl ⟨_, rfl, ?_⟩
      exact ⟨G, by rw [if_neg (by omega)], rfl⟩
    · refine wp_iload_n rfl (ck_get kk_Re_firstSpilt 59 rfl) ?_
      refine wp_goto (t := 109) (ck_get kk_Re_firstSpilt 60 rfl) (by decide) ?_
      refine wp_ireturn (ck_get kk_Re_firstSpilt 62 rfl) rfl rfl ⟨_, rfl, ?_⟩
      exact ⟨G, by rw [if_pos (by omega)], rfl⟩
  have hlp : ∀ e c f G (x4 : Option Value), c + e = 24 → 1 ≤ c → LdOK ks n G → (∀ j, j < n → HwI ks n (G 7 j) (simP pol ks n c (j + 1)).1) → SpF pol ks n c f → Wp g Y_Re_firstSpilt 4 14 [some (.ref 938), some (.int (nI pol)), some (.int (nI f)), some (.int (nI c)), x4] [] (rcM M G) (fun r M2 => ∃ y, r = some (.int y) ∧ ∃ G, y = (if m < n then nI m else -1) ∧ M2 = rcM M G) := by
    intro e
    induction e with
    | zero =>
      intro c f G x4 h1 hc1 hG h7 hf
      obtain rfl : c = 24 := by omega
      obtain rfl := SpF_un hm hf
      refine wp_iload_n rfl (ck_get kk_Re_firstSpilt 10 rfl) ?_
      refine wp_bipush (v := nI 24) (by decide) (ck_get kk_Re_firstSpilt 11 rfl) ?_
      first | refine wp_icmp_geN (t := 96) (ck_get kk_Re_firstSpilt 12 rfl) (by decide) (by omega) (by omega) (fun hc17 => ?_) (fun hc17 => ?_) | refine wp_icmp_ge (t := 96) (ck_get kk_Re_firstSpilt 12 rfl) (by decide) (fun hc17 => ?_) (fun hc17 => ?_)
      · exact hend G _ _ hG
      · omega
    | succ e ih =>
      intro c f G x4 h1 hc1 hG h7 hf
      have v1 : mI (rcM M G) 938 1 = nI (rk ks n) := by rw [rc_r0]; exact hG.2.1
      by_cases cd : rk ks n ≤ c
      · have hf2 : SpF pol ks n 24 f := by
          refine ⟨hf.1, fun j hj c2 p1 p2 => ?_, fun q => ?_⟩
          · rcases Nat.lt_or_ge c2 c with w | w
            · exact hf.2.1 j hj c2 p1 w
            · exact Sp_all (by have := hf.1; omega) hn (by omega)
          · obtain ⟨c2, p1, p2, p3⟩ := hf.2.2 q
            exact ⟨c2, p1, by omega, p3⟩
        obtain rfl := SpF_un hm hf2
        refine wp_iload_n rfl (ck_get kk_Re_firstSpilt 10 rfl) ?_
        refine wp_bipush (v := nI 24) (by decide) (ck_get kk_Re_firstSpilt 11 rfl) ?_
        first | refine wp_icmp_geN (t := 96) (ck_get kk_Re_firstSpilt 12 rfl) (by decide) (by omega) (by omega) (fun hc17 => ?_) (fun hc17 => ?_) | refine wp_icmp_ge (t := 96) (ck_get kk_Re_firstSpilt 12 rfl) (by decide) (fun hc17 => ?_) (fun hc17 => ?_)
        · omega
        · refine wp_iload_n rfl (ck_get kk_Re_firstSpilt 13 rfl) ?_
          refine wp_aload_n rfl (ck_get kk_Re_firstSpilt 14 rfl) ?_
          refine wp_getIv (v := nI (rk ks n)) (ck_get kk_Re_firstSpilt 15 rfl) fl_Re_15 (by assumption) (v1) ?_
          first | refine wp_icmp_geN (t := 96) (ck_get kk_Re_firstSpilt 16 rfl) (by decide) (by omega) (by omega) (fun hc25 => ?_) (fun hc25 => ?_) | refine wp_icmp_ge (t := 96) (ck_get kk_Re_firstSpilt 16 rfl) (by decide) (fun hc25 => ?_) (fun hc25 => ?_)
          · exact hend G _ _ hG
          · omega
      · skip
        refine wp_iload_n rfl (ck_get kk_Re_firstSpilt 10 rfl) ?_
        refine wp_bipush (v := nI 24) (by decide) (ck_get kk_Re_firstSpilt 11 rfl) ?_
        first | refine wp_icmp_geN (t := 96) (ck_get kk_Re_firstSpilt 12 rfl) (by decide) (by omega) (by omega) (fun hc17 => ?_) (fun hc17 => ?_) | refine wp_icmp_ge (t := 96) (ck_get kk_Re_firstSpilt 12 rfl) (by decide) (fun hc17 => ?_) (fun hc17 => ?_)
        · omega
        · refine wp_iload_n rfl (ck_get kk_Re_firstSpilt 13 rfl) ?_
          refine wp_aload_n rfl (ck_get kk_Re_firstSpilt 14 rfl) ?_
          refine wp_getIv (v := nI (rk ks n)) (ck_get kk_Re_firstSpilt 15 rfl) fl_Re_15 (by assumption) (v1) ?_
          first | refine wp_icmp_geN (t := 96) (ck_get kk_Re_firstSpilt 16 rfl) (by decide) (by omega) (by omega) (fun hc25 => ?_) (fun hc25 => ?_) | refine wp_icmp_ge (t := 96) (ck_get kk_Re_firstSpilt 16 rfl) (by decide) (fun hc25 => ?_) (fun hc25 => ?_)
          · omega
          · refine wp_aload_n rfl (ck_get kk_Re_firstSpilt 17 rfl) ?_
            refine wp_getR (ck_get kk_Re_firstSpilt 18 rfl) fl_Re_37 (by assumption) (by assumption) ?_
            refine wp_iconst (v := nI 0) (by decide) (ck_get kk_Re_firstSpilt 19 rfl) ?_
            refine wp_aload_n rfl (ck_get kk_Re_firstSpilt 20 rfl) ?_
            refine wp_getR (ck_get kk_Re_firstSpilt 21 rfl) fl_Re_40 (by assumption) (by assumption) ?_
            refine wp_iconst (v := nI 0) (by decide) (ck_get kk_Re_firstSpilt 22 rfl) ?_
            refine wp_bipush (v := nI 32) (by decide) (ck_get kk_Re_firstSpilt 23 rfl) ?_
            refine wp_copyI (ck_get kk_Re_firstSpilt 24 rfl) ak_Re_68 (by exact t945) (by exact t946) (nnk_nI (by decide)) (nnk_nI (by decide)) (nnk_nI (by decide)) (by omega) (by omega) (by omega) (Nat.le_of_ble_eq_true rfl) ?_
            rw [rc_cp]
            refine wp_aload_n rfl (ck_get kk_Re_firstSpilt 25 rfl) ?_
            refine wp_iload_n rfl (ck_get kk_Re_firstSpilt 26 rfl) ?_
            refine wp_iload_n rfl (ck_get kk_Re_firstSpilt 27 rfl) ?_
            refine wp_iconst (v := nI 1) (by decide) (ck_get kk_Re_firstSpilt 28 rfl) ?_
            first | refine wp_iaddN (ck_get kk_Re_firstSpilt 29 rfl) ?_ | refine wp_iadd (ck_get kk_Re_firstSpilt 29 rfl) ?_
            refine wp_cV2i (ck_get kk_Re_firstSpilt 30 rfl) ml_Re_65 (by omega) (Nat.le_of_ble_eq_true rfl) (by assumption) (Ci.to (c_play (c := c + 1) (by exact hR) hn hp (by omega) (hG.c (fun a ha => up1_ne (by omega)))) ?_)
            rintro x M1 ⟨G2, w3, w4, w5, w6, w7⟩
            subst w4
            refine wp_pop rfl (ck_get kk_Re_firstSpilt 31 rfl) ?_
            refine wp_iconst (v := nI 0) (by decide) (ck_get kk_Re_firstSpilt 32 rfl) ?_
            refine wp_istore (ck_get kk_Re_firstSpilt 33 rfl) (by decide) rfl ?_
            refine l_fs hR hn w6 (fun j hj => ?_) f 0 f (by omega) hf.1 (fun j hj => absurd hj (Nat.not_lt_zero _)) (fun f2 x4 p1 p2 p3 => ?_)
            · rw [w7 j, up1_eq]
              show HwI ks n (if j < 32 then G 7 j else G 8 j) _
              rw [if_pos (by omega)]; exact h7 j hj
            · skip
              first | refine wp_iincN (ck_get kk_Re_firstSpilt 53 rfl) rfl (by decide) rfl ?_ | refine wp_iinc (ck_get kk_Re_firstSpilt 53 rfl) rfl (by decide) rfl ?_
              refine wp_goto (t := 14) (ck_get kk_Re_firstSpilt 54 rfl) (by decide) ?_
              refine ih (c + 1) f2 G2 _ (by omega) (by omega) w5 w6 ⟨by have := hf.1; omega, fun j hj c2 q1 q2 => ?_, fun q => ?_⟩
              · by_cases e : c2 = c
                · subst e; exact p2 j hj
                · exact hf.2.1 j (by omega) c2 q1 (by omega)
              · rcases Nat.lt_or_ge f2 f with w | w
                · exact ⟨c, hc1, by omega, p3 w⟩
                · obtain rfl : f2 = f := by omega
                  obtain ⟨c2, q1, q2, q3⟩ := hf.2.2 q
                  exact ⟨c2, q1, by omega, q3⟩
  have v0 : mI (rcM M G0) 938 0 = nI n := by rw [rc_r0]; exact hL.1
  refine cw_entry 3 pf_Re_firstSpilt rfl ?_
  refine wp_aload_n rfl (ck_get kk_Re_firstSpilt 0 rfl) ?_
  refine wp_getIv (v := nI n) (ck_get kk_Re_firstSpilt 1 rfl) fl_Re_9 (by assumption) (v0) ?_
  refine wp_istore_n (ck_get kk_Re_firstSpilt 2 rfl) (by decide) rfl ?_
  refine wp_aload_n rfl (ck_get kk_Re_firstSpilt 3 rfl) ?_
  refine wp_iload_n rfl (ck_get kk_Re_firstSpilt 4 rfl) ?_
  refine wp_iconst (v := nI 1) (by decide) (ck_get kk_Re_firstSpilt 5 rfl) ?_
  refine wp_cV2i (ck_get kk_Re_firstSpilt 6 rfl) ml_Re_65 (by omega) (Nat.le_of_ble_eq_true rfl) (by assumption) (Ci.to (c_play (c := 1) (by exact hR) hn hp (by omega) hL) ?_)
  rintro x M1 ⟨G2, w3, w4, w5, w6, w7⟩
  subst w4
  refine wp_pop rfl (ck_get kk_Re_firstSpilt 7 rfl) ?_
  refine wp_iconst (v := nI 1) (by decide) (ck_get kk_Re_firstSpilt 8 rfl) ?_
  refine wp_istore_n (ck_get kk_Re_firstSpilt 9 rfl) (by decide) rfl ?_
  exact hlp 23 1 n G2 none (by omega) (by omega) w5 w6 ⟨Nat.le_refl _, fun j _ c2 q1 q2 => by omega, fun q => absurd q (Nat.lt_irrefl _)⟩
theorem b_spilt {a : Int32} : Both g Y_Mc_spilt Y_Mo_spilt [.int a] := by
  intro c z hc hO
  by_cases hin : inB a 4 = true
  · obtain ⟨t, ht, rfl⟩ := inB_t hin (by omega)
    have hn : (tRe ((sWo (zS z)).2 t)).length ≤ 32 := (hO.1.1.2 t ht).2.2.1
    have hp : sPo (zS z) < 5 := hO.1.2.2.1
    obtain ⟨m, hm⟩ := SpF_ex (ks := kR ((sWo (zS z)).2 t)) (n := (tRe ((sWo (zS z)).2 t)).length) (sPo (zS z)) 24 _ 0 (Nat.zero_add _) (fun q hq => absurd hq (Nat.not_lt_zero _))
    refine ⟨if m < (tRe ((sWo (zS z)).2 t)).length then nI m else -1, z, hO.le (by omega), fun M h => ?_, fun M h => ?_⟩
    · have hCR := h
      have hC' := h.le (Nat.le_succ c)
      obtain ⟨pf, pg, hL, hSC, hTC, hIC, hDC, hPC, hNC, hBC, hZC⟩ := h
      obtain ⟨t0, ⟨r00, hSh⟩, ⟨r01, hTr⟩, ⟨r02, hTg⟩, ⟨r03, hWa⟩, ⟨r04, hWp⟩, ⟨r06, t921, r921a, r921b, hS0, hS1⟩, ⟨r07, t922⟩, ⟨r08, t923⟩, ⟨r010, hPa⟩, ⟨r011, hJu⟩, ⟨r012, hRe⟩, ⟨r013, hCu⟩, ⟨r014, hDe⟩, ⟨r018, t959⟩, hPf⟩ := id hL
      have t1 : mT M 1 = (6, 0) := hSh.1
      have r10 : mR M 1 0 = some 2 := hSh.2.1
      have hW2 : WoAt (mT M) (mR M) 2 := hSh.2.2.1
      have t2 : mT M 2 = (9, 0) := hW2.1
      have r20 : mR M 2 0 = some 3 := hW2.2.1
      have t3 : mT M 3 = (24, 4) := hW2.2.2.1
      have t31 : mT M 31 = (8, 0) := hTr.1
      have t924 : mT M 924 = (3, 0) := hPa.1
      have t934 : mT M 934 = (2, 0) := hJu.1
      have t938 : mT M 938 = (5, 0) := hRe.1
      have t947 : mT M 947 = (0, 0) := hCu.1
      have t952 : mT M 952 = (1, 0) := hDe.1
      have rTe : mR M 3 t = some (4 + 6 * t) := (hW2.2.2.2 t ht).1
      have hTA : TeAt (mT M) (mR M) (4 + 6 * t) := (hW2.2.2.2 t ht).2
      have hTH : TeHas (mI M) (mJ M) (4 + 6 * t) ((sWo (zS z)).2 t) := hSC.1.2 t ht
      have tTe := hTA.1
      have v1 : ∀ G, mI (rcM M G) 1 1 = nI (sPo (zS z)) := fun G => by rw [rc_ot (by omega)]; exact hSC.2.1
      refine cw_entry 0 pf_Mc_spilt rfl ?_
      refine wp_iload_n rfl (ck_get kk_Mc_spilt 0 rfl) ?_
      refine wp_cS1i (ck_get kk_Mc_spilt 1 rfl) ml_Mc_103 (by omega) (Nat.le_of_ble_eq_true rfl) (Ci.to (c_isTenant) ?_)
      rintro _ M1 ⟨rfl, eqm1⟩
      obtain rfl := eqm1.symm
      rw [hin]
      first | refine wp_if_neN (t := 9) (ck_get kk_Mc_spilt 2 rfl) (by decide) (by omega) (fun hc4 => ?_) (fun hc4 => ?_) | refine wp_if_ne (t := 9) (ck_get kk_Mc_spilt 2 rfl) (by decide) (fun hc4 => ?_) (fun hc4 => ?_)
      · refine wp_aload_n rfl (ck_get kk_Mc_spilt 5 rfl) ?_
        refine wp_getR (ck_get kk_Mc_spilt 6 rfl) fl_Mc_73 (by assumption) (by assumption) ?_
        refine wp_aload_n rfl (ck_get kk_Mc_spilt 7 rfl) ?_
        refine wp_getR (ck_get kk_Mc_spilt 8 rfl) fl_Mc_12 (by assumption) (by assumption) ?_
        refine wp_getR (ck_get kk_Mc_spilt 9 rfl) fl_Mc_107 (by assumption) (by assumption) ?_
        refine wp_getR (ck_get kk_Mc_spilt 10 rfl) fl_Mc_110 (by assumption) (by assumption) ?_
        refine wp_iload_n rfl (ck_get kk_Mc_spilt 11 rfl) ?_
        refine wp_aald (ck_get kk_Mc_spilt 12 rfl) (by assumption) (by first | assumption | exact ixk_nI (by omega) (by omega)) (by assumption) ?_
        refine wp_cV1v (ck_get kk_Mc_spilt 13 rfl) ml_Mc_334 (by omega) (Nat.le_of_ble_eq_true rfl) (by assumption) (Cv.to (c_loadT (c := c) hL hSC ht hn) ?_)
        rintro M1 ⟨G, w1, w2⟩
        subst w1
        refine wp_aload_n rfl (ck_get kk_Mc_spilt 14 rfl) ?_
        refine wp_getR (ck_get kk_Mc_spilt 15 rfl) fl_Mc_73 (by assumption) (by assumption) ?_
        refine wp_aload_n rfl (ck_get kk_Mc_spilt 16 rfl) ?_
        refine wp_getR (ck_get kk_Mc_spilt 17 rfl) fl_Mc_12 (by assumption) (by assumption) ?_
        refine wp_getIv (v := nI (sPo (zS z))) (ck_get kk_Mc_spilt 18 rfl) fl_Mc_188 (by assumption) (v1 _) ?_
        refine wp_cV1i (ck_get kk_Mc_spilt 19 rfl) ml_Mc_341 (by omega) (Nat.le_of_ble_eq_true rfl) (by assumption) (Ci.to (c_firstSpilt (by exact hRe) hn hp w2 hm) ?_)
        rintro x M1 ⟨G2, w3, w4⟩
        subst w4
        refine wp_ireturn (ck_get kk_Mc_spilt 20 rfl) rfl rfl ⟨_, rfl, ?_⟩
        exact ⟨w3, hCR.rc, MSame.rc⟩
      · exact absurd hc4 (by decide)
    · have hRc := RcM.of h ht
      have hMR := h
      obtain ⟨hM, hSM, hUM, hIM, hDM, hPM, hNM, hBM⟩ := id h
      have to0 := hM.1
      have rfkept := MoAt.r hM 1 rfl
      have tfkept := MoAt.t hM 1 rfl
      have rfholds := MoAt.r hM 29 rfl
      have tfholds := MoAt.t hM 29 rfl
      generalize kR ((sWo (zS z)).2 t) = ks at *
      generalize (tRe ((sWo (zS z)).2 t)).length = n at *
      have hbg := m_begins (g := g) (M := M) (t := t) (G := fun a => mI M (1047 + a)) (H := mJ M 1050) hM ht
      rw [rm_id] at hbg
      have vn : ∀ G H, mI (rmM M G H) 1022 (92 * t + 59) = nI n := fun G H => by rw [rm_ot (by omega)]; exact hRc.1
      have vh : ∀ G (H : Nat → Int64) c, mJ (rmM M G H) 1050 c = H c := fun G H c => by rw [rm_h]
      have hlp : ∀ d i G H (x3 : Option Value), i + d = n → MnA ks n i G → McL (sPo (zS z)) ks n i 0 G H → (∀ j, j < i → ∀ c, 1 ≤ c → c < 24 → ¬ Sp (sPo (zS z)) ks n c j) → Wp g Y_Mo_spilt 300 16 [some (.ref 1020), some (.int (nI t)), some (.int (nI i)), x3] [] (rmM M G H) (fun r M2 => ∃ y, r = some (.int y) ∧ y = (if m < n then nI m else -1) ∧ MR z M2 ∧ CSame M M2) := by
        intro d
        induction d with
        | zero =>
          intro i G H x3 hi hA hL hS
          obtain rfl : i = n := by omega
          obtain rfl := SpF_un hm ⟨Nat.le_refl _, hS, fun q => absurd q (Nat.lt_irrefl _)⟩
          refine wp_iload_n rfl (ck_get kk_Mo_spilt 10 rfl) ?_
          refine wp_aload_n rfl (ck_get kk_Mo_spilt 11 rfl) ?_
          refine wp_getR (ck_get kk_Mo_spilt 12 rfl) fl_Mo_28 (by assumption) (by assumption) ?_
          refine wp_iload_n rfl (ck_get kk_Mo_spilt 13 rfl) ?_
          refine wp_bipush (v := nI 59) (by decide) (ck_get kk_Mo_spilt 14 rfl) ?_
          refine wp_cS2i (ck_get kk_Mo_spilt 15 rfl) ml_Mo_142 (by omega) (Nat.le_of_ble_eq_true rfl) (Ci.to (m_at (t := t) (k := 59)) ?_)
          rintro _ M1 ⟨rfl, eqm1⟩
          obtain rfl := eqm1.symm
          refine wp_ialdv (v := nI m) (ck_get kk_Mo_spilt 16 rfl) (by assumption) (ixk_nI (k := 92 * t + 59) (by omega) (by omega)) (vn _ _) ?_
          first | refine wp_icmp_geN (t := 103) (ck_get kk_Mo_spilt 17 rfl) (by decide) (by omega) (by omega) (fun hc28 => ?_) (fun hc28 => ?_) | refine wp_icmp_ge (t := 103) (ck_get kk_Mo_spilt 17 rfl) (by decide) (fun hc28 => ?_) (fun hc28 => ?_)
          · refine wp_iconst (v := (-1)) (by decide) (ck_get kk_Mo_spilt 60 rfl) ?_
            refine wp_ireturn (ck_get kk_Mo_spilt 61 rfl) rfl rfl ⟨_, rfl, ?_⟩
            exact ⟨(if_neg (Nat.lt_irrefl _)).symm, hMR.rm, CSame.rm⟩
          · omega
        | succ d ih =>
          intro i G H x3 hi hA hL hS
          have hsp : ∀ e c G H, c + e = 24 → 1 ≤ c → MnA ks n (i + 1) G → McL (sPo (zS z)) ks n (i + 1) 0 G H → (∀ q, 1 ≤ q → q < c → ¬ Sp (sPo (zS z)) ks n q i) → Wp g Y_Mo_spilt 300 59 [some (.ref 1020), some (.int (nI t)), some (.int (nI i)), some (.int (nI c))] [] (rmM M G H) (fun r M2 => ∃ y, r = some (.int y) ∧ y = (if m < n then nI m else -1) ∧ MR z M2 ∧ CSame M M2) := by
            intro e
            induction e with
            | zero =>
              intro c G H h1 hc1 hA hL hQ
              obtain rfl : c = 24 := by omega
              refine wp_iload_n rfl (ck_get kk_Mo_spilt 35 rfl) ?_
              refine wp_bipush (v := nI 24) (by decide) (ck_get kk_Mo_spilt 36 rfl) ?_
              first | refine wp_icmp_geN (t := 97) (ck_get kk_Mo_spilt 37 rfl) (by decide) (by omega) (by omega) (fun hc62 => ?_) (fun hc62 => ?_) | refine wp_icmp_ge (t := 97) (ck_get kk_Mo_spilt 37 rfl) (by decide) (fun hc62 => ?_) (fun hc62 => ?_)
              · first | refine wp_iincN (ck_get kk_Mo_spilt 58 rfl) rfl (by decide) rfl ?_ | refine wp_iinc (ck_get kk_Mo_spilt 58 rfl) rfl (by decide) rfl ?_
                refine wp_goto (t := 16) (ck_get kk_Mo_spilt 59 rfl) (by decide) ?_
                exact ih (i + 1) G H _ (by omega) hA hL (fun j hj c2 q1 q2 => by
                  by_cases w : j = i
                  · subst w; exact hQ c2 q1 q2
                  · exact hS j (by omega) c2 q1 q2)
              · omega
            | succ e ih2 =>
              intro c G H h1 hc1 hA hL hQ
              have hw1 := (hL c (by omega)).1
              have hw2 := (hL (c + 1) (by omega)).1
              rw [if_neg (Nat.not_lt_zero _)] at hw1 hw2
              have hs := Sp_J (pol := sPo (zS z)) (c := c) (show i < n by omega) hn hw1 hw2
              refine wp_iload_n rfl (ck_get kk_Mo_spilt 35 rfl) ?_
              refine wp_bipush (v := nI 24) (by decide) (ck_get kk_Mo_spilt 36 rfl) ?_
              first | refine wp_icmp_geN (t := 97) (ck_get kk_Mo_spilt 37 rfl) (by decide) (by omega) (by omega) (fun hc62 => ?_) (fun hc62 => ?_) | refine wp_icmp_ge (t := 97) (ck_get kk_Mo_spilt 37 rfl) (by decide) (fun hc62 => ?_) (fun hc62 => ?_)
              · omega
              · refine wp_aload_n rfl (ck_get kk_Mo_spilt 38 rfl) ?_
                refine wp_getR (ck_get kk_Mo_spilt 39 rfl) fl_Mo_118 (by assumption) (by assumption) ?_
                refine wp_iload_n rfl (ck_get kk_Mo_spilt 40 rfl) ?_
                refine wp_laldv (v := H c) (ck_get kk_Mo_spilt 41 rfl) (by assumption) (ixk_nI (k := c) (by omega) (by omega)) (vh _ _ _) ?_
                refine wp_aload_n rfl (ck_get kk_Mo_spilt 42 rfl) ?_
                refine wp_getR (ck_get kk_Mo_spilt 43 rfl) fl_Mo_118 (by assumption) (by assumption) ?_
                refine wp_iload_n rfl (ck_get kk_Mo_spilt 44 rfl) ?_
                refine wp_iconst (v := nI 1) (by decide) (ck_get kk_Mo_spilt 45 rfl) ?_
                first | refine wp_iaddN (ck_get kk_Mo_spilt 46 rfl) ?_ | refine wp_iadd (ck_get kk_Mo_spilt 46 rfl) ?_
                refine wp_laldv (v := H (c + 1)) (ck_get kk_Mo_spilt 47 rfl) (by assumption) (ixk_nI (k := c + 1) (by omega) (by omega)) (vh _ _ _) ?_
                refine wp_ldc2 kl_Mo_413 (ck_get kk_Mo_spilt 48 rfl) ?_
                refine wp_lxor (ck_get kk_Mo_spilt 49 rfl) ?_
                refine wp_land (ck_get kk_Mo_spilt 50 rfl) ?_
                refine wp_lconst (v := 0) (by decide) (ck_get kk_Mo_spilt 51 rfl) ?_
                refine wp_lcmp (ck_get kk_Mo_spilt 52 rfl) ?_
                refine wp_if_eq (t := 91) (ck_get kk_Mo_spilt 53 rfl) (by decide) (fun hc86 => ?_) (fun hc86 => ?_)
                · first | refine wp_iincN (ck_get kk_Mo_spilt 56 rfl) rfl (by decide) rfl ?_ | refine wp_iinc (ck_get kk_Mo_spilt 56 rfl) rfl (by decide) rfl ?_
                  refine wp_goto (t := 59) (ck_get kk_Mo_spilt 57 rfl) (by decide) ?_
                  exact ih2 (c + 1) G H (by omega) (by omega) hA hL (fun q q1 q2 => by
                    by_cases w : q = c
                    · subst w; exact hs.mp ((lcmp_eq _ _).mp hc86)
                    · exact hQ q q1 (by omega))
                · refine wp_iload_n rfl (ck_get kk_Mo_spilt 54 rfl) ?_
                  refine wp_ireturn (ck_get kk_Mo_spilt 55 rfl) rfl rfl ⟨_, rfl, ?_⟩
                  have hmi : i = m := SpF_un ⟨by omega, hS, fun _ => ⟨c, hc1, by omega, Classical.byContradiction fun q => hc86 ((lcmp_eq _ _).mpr (hs.mpr q))⟩⟩ hm
                  subst hmi
                  exact ⟨(if_pos (by omega)).symm, hMR.rm, CSame.rm⟩
          have hin : ∀ e c G H, c + e = 25 → MnA ks n i G → McL (sPo (zS z)) ks n i c G H → Wp g Y_Mo_spilt 300 33 [some (.ref 1020), some (.int (nI t)), some (.int (nI i)), some (.int (nI c))] [] (rmM M G H) (fun r M2 => ∃ y, r = some (.int y) ∧ y = (if m < n then nI m else -1) ∧ MR z M2 ∧ CSame M M2) := by
            intro e
            induction e with
            | zero =>
              intro c G H hc hA hL
              obtain rfl : c = 25 := by omega
              refine wp_iload_n rfl (ck_get kk_Mo_spilt 20 rfl) ?_
              refine wp_bipush (v := nI 25) (by decide) (ck_get kk_Mo_spilt 21 rfl) ?_
              first | refine wp_icmp_geN (t := 52) (ck_get kk_Mo_spilt 22 rfl) (by decide) (by omega) (by omega) (fun hc36 => ?_) (fun hc36 => ?_) | refine wp_icmp_ge (t := 52) (ck_get kk_Mo_spilt 22 rfl) (by decide) (fun hc36 => ?_) (fun hc36 => ?_)
              · refine wp_aload_n rfl (ck_get kk_Mo_spilt 30 rfl) ?_
                refine wp_iload_n rfl (ck_get kk_Mo_spilt 31 rfl) ?_
                refine wp_cV1v (ck_get kk_Mo_spilt 32 rfl) ml_Mo_488 (by omega) (Nat.le_of_ble_eq_true rfl) (by assumption) (Cv.to (m_wasRead (by exact hM) hA (by omega) hn) ?_)
                rintro M1 ⟨G2, w1, w2, w3, w4⟩
                subst w1
                refine wp_iconst (v := nI 1) (by decide) (ck_get kk_Mo_spilt 33 rfl) ?_
                refine wp_istore_n (ck_get kk_Mo_spilt 34 rfl) (by decide) rfl ?_
                exact hsp 23 1 G2 H (by omega) (by omega) w2 (hL.nx.gg w3 w4) (fun q q1 q2 => by omega)
              · omega
            | succ e ih2 =>
              intro c G H hc hA hL
              refine wp_iload_n rfl (ck_get kk_Mo_spilt 20 rfl) ?_
              refine wp_bipush (v := nI 25) (by decide) (ck_get kk_Mo_spilt 21 rfl) ?_
              first | refine wp_icmp_geN (t := 52) (ck_get kk_Mo_spilt 22 rfl) (by decide) (by omega) (by omega) (fun hc36 => ?_) (fun hc36 => ?_) | refine wp_icmp_ge (t := 52) (ck_get kk_Mo_spilt 22 rfl) (by decide) (fun hc36 => ?_) (fun hc36 => ?_)
              · omega
              · refine wp_aload_n rfl (ck_get kk_Mo_spilt 23 rfl) ?_
                refine wp_iload_n rfl (ck_get kk_Mo_spilt 24 rfl) ?_
                refine wp_iload_n rfl (ck_get kk_Mo_spilt 25 rfl) ?_
                refine wp_iload_n rfl (ck_get kk_Mo_spilt 26 rfl) ?_
                refine wp_cV3v (ck_get kk_Mo_spilt 27 rfl) ml_Mo_485 (by omega) (Nat.le_of_ble_eq_true rfl) (by assumption) (Cv.to (l_sizes (by exact hM) ht hRc (by omega) hn hp hA hL (by omega)) ?_)
                rintro M1 ⟨G2, H2, w1, w2, w3⟩
                subst w1
                first | refine wp_iincN (ck_get kk_Mo_spilt 28 rfl) rfl (by decide) rfl ?_ | refine wp_iinc (ck_get kk_Mo_spilt 28 rfl) rfl (by decide) rfl ?_
                refine wp_goto (t := 33) (ck_get kk_Mo_spilt 29 rfl) (by decide) ?_
                exact ih2 (c + 1) G2 H2 (by omega) w2 w3
          refine wp_iload_n rfl (ck_get kk_Mo_spilt 10 rfl) ?_
          refine wp_aload_n rfl (ck_get kk_Mo_spilt 11 rfl) ?_
          refine wp_getR (ck_get kk_Mo_spilt 12 rfl) fl_Mo_28 (by assumption) (by assumption) ?_
          refine wp_iload_n rfl (ck_get kk_Mo_spilt 13 rfl) ?_
          refine wp_bipush (v := nI 59) (by decide) (ck_get kk_Mo_spilt 14 rfl) ?_
          refine wp_cS2i (ck_get kk_Mo_spilt 15 rfl) ml_Mo_142 (by omega) (Nat.le_of_ble_eq_true rfl) (Ci.to (m_at (t := t) (k := 59)) ?_)
          rintro _ M1 ⟨rfl, eqm1⟩
          obtain rfl := eqm1.symm
          refine wp_ialdv (v := nI n) (ck_get kk_Mo_spilt 16 rfl) (by assumption) (ixk_nI (k := 92 * t + 59) (by omega) (by omega)) (vn _ _) ?_
          first | refine wp_icmp_geN (t := 103) (ck_get kk_Mo_spilt 17 rfl) (by decide) (by omega) (by omega) (fun hc28 => ?_) (fun hc28 => ?_) | refine wp_icmp_ge (t := 103) (ck_get kk_Mo_spilt 17 rfl) (by decide) (fun hc28 => ?_) (fun hc28 => ?_)
          · omega
          · refine wp_iconst (v := nI 0) (by decide) (ck_get kk_Mo_spilt 18 rfl) ?_
            refine wp_istore_n (ck_get kk_Mo_spilt 19 rfl) (by decide) rfl ?_
            exact hin 25 0 G H (by omega) hA hL
      refine cw_entry 2 pf_Mo_spilt rfl ?_
      refine wp_iload_n rfl (ck_get kk_Mo_spilt 0 rfl) ?_
      refine wp_cS1i (ck_get kk_Mo_spilt 1 rfl) ml_Mo_152 (by omega) (Nat.le_of_ble_eq_true rfl) (Ci.to (m_isTenant) ?_)
      rintro _ M1 ⟨rfl, eqm1⟩
      obtain rfl := eqm1.symm
      rw [hin]
      first | refine wp_if_neN (t := 9) (ck_get kk_Mo_spilt 2 rfl) (by decide) (by omega) (fun hc4 => ?_) (fun hc4 => ?_) | refine wp_if_ne (t := 9) (ck_get kk_Mo_spilt 2 rfl) (by decide) (fun hc4 => ?_) (fun hc4 => ?_)
      · refine wp_aload_n rfl (ck_get kk_Mo_spilt 5 rfl) ?_
        refine wp_iload_n rfl (ck_get kk_Mo_spilt 6 rfl) ?_
        refine wp_cV1v (ck_get kk_Mo_spilt 7 rfl) ml_Mo_482 (by omega) (Nat.le_of_ble_eq_true rfl) (by assumption) (Cv.to (hbg) ?_)
        rintro M1 ⟨G2, H2, w1, w2, w3⟩
        subst w1
        obtain ⟨w4, w5⟩ := bg_n hRc hn w2 w3
        refine wp_iconst (v := nI 0) (by decide) (ck_get kk_Mo_spilt 8 rfl) ?_
        refine wp_istore_n (ck_get kk_Mo_spilt 9 rfl) (by decide) rfl ?_
        exact hlp n 0 G2 H2 none (by omega) w4 w5 (fun q hq => absurd hq (Nat.not_lt_zero _))
      · exact absurd hc4 (by decide)
  · have hin2 : inB a 4 = false := by simpa using hin
    refine ⟨-1, z, hO.le (by omega), fun M h => ?_, fun M h => ?_⟩
    · skip
      have hC' := h.le (Nat.le_succ c)
      obtain ⟨pf, pg, hL, hSC, hTC, hIC, hDC, hPC, hNC, hBC, hZC⟩ := h
      obtain ⟨t0, ⟨r00, hSh⟩, ⟨r01, hTr⟩, ⟨r02, hTg⟩, ⟨r03, hWa⟩, ⟨r04, hWp⟩, ⟨r06, t921, r921a, r921b, hS0, hS1⟩, ⟨r07, t922⟩, ⟨r08, t923⟩, ⟨r010, hPa⟩, ⟨r011, hJu⟩, ⟨r012, hRe⟩, ⟨r013, hCu⟩, ⟨r014, hDe⟩, ⟨r018, t959⟩, hPf⟩ := id hL
      have t1 : mT M 1 = (6, 0) := hSh.1
      have r10 : mR M 1 0 = some 2 := hSh.2.1
      have hW2 : WoAt (mT M) (mR M) 2 := hSh.2.2.1
      have t2 : mT M 2 = (9, 0) := hW2.1
      have r20 : mR M 2 0 = some 3 := hW2.2.1
      have t3 : mT M 3 = (24, 4) := hW2.2.2.1
      have t31 : mT M 31 = (8, 0) := hTr.1
      have t924 : mT M 924 = (3, 0) := hPa.1
      have t934 : mT M 934 = (2, 0) := hJu.1
      have t938 : mT M 938 = (5, 0) := hRe.1
      have t947 : mT M 947 = (0, 0) := hCu.1
      have t952 : mT M 952 = (1, 0) := hDe.1
      refine cw_entry 0 pf_Mc_spilt rfl ?_
      refine wp_iload_n rfl (ck_get kk_Mc_spilt 0 rfl) ?_
      refine wp_cS1i (ck_get kk_Mc_spilt 1 rfl) ml_Mc_103 (by omega) (Nat.le_of_ble_eq_true rfl) (Ci.to (c_isTenant) ?_)
      rintro _ M1 ⟨rfl, eqm1⟩
      obtain rfl := eqm1.symm
      rw [hin2]
      first | refine wp_if_neN (t := 9) (ck_get kk_Mc_spilt 2 rfl) (by decide) (by omega) (fun hc4 => ?_) (fun hc4 => ?_) | refine wp_if_ne (t := 9) (ck_get kk_Mc_spilt 2 rfl) (by decide) (fun hc4 => ?_) (fun hc4 => ?_)
      · exact absurd (by decide) hc4
      · refine wp_iconst (v := (-1)) (by decide) (ck_get kk_Mc_spilt 3 rfl) ?_
        refine wp_ireturn (ck_get kk_Mc_spilt 4 rfl) rfl rfl ⟨_, rfl, ?_⟩
        exact ⟨rfl, hC', MSame.refl _⟩
    · skip
      obtain ⟨hM, hSM, hUM, hIM, hDM, hPM, hNM, hBM⟩ := id h
      refine cw_entry 2 pf_Mo_spilt rfl ?_
      refine wp_iload_n rfl (ck_get kk_Mo_spilt 0 rfl) ?_
      refine wp_cS1i (ck_get kk_Mo_spilt 1 rfl) ml_Mo_152 (by omega) (Nat.le_of_ble_eq_true rfl) (Ci.to (m_isTenant) ?_)
      rintro _ M1 ⟨rfl, eqm1⟩
      obtain rfl := eqm1.symm
      rw [hin2]
      first | refine wp_if_neN (t := 9) (ck_get kk_Mo_spilt 2 rfl) (by decide) (by omega) (fun hc4 => ?_) (fun hc4 => ?_) | refine wp_if_ne (t := 9) (ck_get kk_Mo_spilt 2 rfl) (by decide) (fun hc4 => ?_) (fun hc4 => ?_)
      · exact absurd (by decide) hc4
      · refine wp_iconst (v := (-1)) (by decide) (ck_get kk_Mo_spilt 3 rfl) ?_
        refine wp_ireturn (ck_get kk_Mo_spilt 4 rfl) rfl rfl ⟨_, rfl, ?_⟩
        exact ⟨rfl, h, CSame.refl _⟩
end SPL

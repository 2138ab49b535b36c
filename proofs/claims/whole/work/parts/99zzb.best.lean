/-! ===== best: the numbers; the class's dealer ===== -/
section BES
/-- misses, as a number -/
def msN (w : WS) (t c : Nat) : Nat := tCo (w.2 t) 0 + smN (fun i => tCo (w.2 t) (c + 1 + i)) (24 - c)
theorem msW_nI (w : WS) (t c : Nat) : msW w t c = nI (msN w t c) := by
  unfold msW msN msA
  rw [sumI_nI (q := fun i => tCo (w.2 t) (c + 1 + i)) (fun i _ => rfl), nI_add]
theorem smN_tail {f : Nat → Nat} {lo : Nat} (h : 0 < lo) : ∀ k, f 0 + smN (fun i => f (lo + i)) k ≤ smN f (lo + k)
  | 0 => by
    have := smN_at (f := f) h
    show f 0 + 0 ≤ smN f (lo + 0)
    exact this
  | k + 1 => by
    have := smN_tail (f := f) h k
    show f 0 + (smN (fun i => f (lo + i)) k + f (lo + k)) ≤ smN f (lo + k) + f (lo + k)
    omega
abbrev sTo (w : WS) (t : Nat) : Nat := smN (tCo (w.2 t)) 25
theorem msN_le {w : WS} {t c : Nat} (hc : c < 25) : msN w t c ≤ sTo w t := by
  have := smN_tail (f := tCo (w.2 t)) (lo := c + 1) (by omega) (24 - c)
  rw [show c + 1 + (24 - c) = 25 by omega] at this
  exact this
theorem akF_mn {h : Nat → Nat} : ∀ n, h (akF h n).1 = (akF h n).2 ∧ (∀ c, c < (akF h n).1 → (akF h n).2 < h c) ∧ (akF h n).1 ≤ n ∧ ∀ c, c ≤ n → (akF h n).2 ≤ h c
  | 0 => ⟨rfl, fun c hc => absurd hc (Nat.not_lt_zero _), Nat.le_refl _, fun c hc => by
    obtain rfl : c = 0 := by omega
    exact Nat.le_refl _⟩
  | n + 1 => by
    obtain ⟨a1, a2, a3, a4⟩ := akF_mn (h := h) n
    unfold akF
    split <;> rename_i q
    · refine ⟨rfl, fun c hc => ?_, Nat.le_refl _, fun c hc => ?_⟩
      · have hc2 : c < n + 1 := hc
        have := a4 c (by omega)
        show h (n + 1) < h c
        omega
      · show h (n + 1) ≤ h c
        by_cases e : c = n + 1
        · subst e; exact Nat.le_refl _
        · have := a4 c (by omega); omega
    · refine ⟨a1, a2, by omega, fun c hc => ?_⟩
      by_cases e : c = n + 1
      · subst e; omega
      · exact a4 c (by omega)
/-- by how many tenants are left, the last ones, and what is left for them: the size of the first of them, their fewest misses -/
def bstT (m : Nat → Nat → Nat) : Nat → Nat → Nat × Nat
  | 0, _ => (0, 0)
  | d + 1, l => akF (fun c => m (3 - d) c + (bstT m d (l - c)).2) (min 24 l)
abbrev bstH (m : Nat → Nat → Nat) (t d l : Nat) : Nat → Nat := fun c => m t c + (bstT m d (l - c)).2
theorem bst_s {m : Nat → Nat → Nat} {t d l : Nat} (h : t + d = 3) : bstT m (d + 1) l = akF (bstH m t d l) (min 24 l) := by
  obtain rfl : t = 3 - d := by omega
  rfl
def sfx (s : Nat → Nat) : Nat → Nat
  | 0 => 0
  | d + 1 => s (3 - d) + sfx s d
theorem sfx_4 {s : Nat → Nat} {d : Nat} (h : d ≤ 4) : sfx s d ≤ sfx s 4 := by
  have e : sfx s 4 = s 0 + (s 1 + (s 2 + (s 3 + 0))) := rfl
  rcases (show d = 0 ∨ d = 1 ∨ d = 2 ∨ d = 3 ∨ d = 4 by omega) with rfl | rfl | rfl | rfl | rfl
  · exact Nat.zero_le _
  · show s 3 + 0 ≤ _; omega
  · show s 2 + (s 3 + 0) ≤ _; omega
  · show s 1 + (s 2 + (s 3 + 0)) ≤ _; omega
  · exact Nat.le_refl _
theorem sfx_tot {w : WS} : sfx (sTo w) 4 = tot w := by
  show sTo w 0 + (sTo w 1 + (sTo w 2 + (sTo w 3 + 0))) = 0 + sTo w 0 + sTo w 1 + sTo w 2 + sTo w 3
  omega
theorem bst_le {m : Nat → Nat → Nat} {s : Nat → Nat} (hm : ∀ t c, t < 4 → c < 25 → m t c ≤ s t) : ∀ d l, d ≤ 4 → (bstT m d l).2 ≤ sfx s d
  | 0, _, _ => Nat.zero_le _
  | d + 1, l, h => by
    have h1 := bst_le hm d l (by omega)
    have h2 := (akF_mn (h := fun c => m (3 - d) c + (bstT m d (l - c)).2) (min 24 l)).2.2.2 0 (by omega)
    have h3 := hm (3 - d) 0 (by omega) (by omega)
    have h4 : (bstT m (d + 1) l).2 ≤ m (3 - d) 0 + (bstT m d l).2 := h2
    show _ ≤ s (3 - d) + sfx s d
    omega
theorem bstH_le {m : Nat → Nat → Nat} {s : Nat → Nat} (hm : ∀ t c, t < 4 → c < 25 → m t c ≤ s t) {t d l c : Nat} (h : t + d = 3) (hc : c < 25) : bstH m t d l c ≤ sfx s 4 := by
  have h1 := bst_le hm d (l - c) (by omega)
  have h3 := hm t c (by omega) hc
  have h4 := sfx_4 (s := s) (d := d + 1) (by omega)
  have h5 : sfx s (d + 1) = s t + sfx s d := by
    obtain rfl : t = 3 - d := by omega
    rfl
  show m t c + (bstT m d (l - c)).2 ≤ _
  omega
theorem bst_1 {m : Nat → Nat → Nat} {d l : Nat} : (bstT m d l).1 ≤ min 24 l := by
  cases d with
  | zero => exact Nat.zero_le _
  | succ d => exact (akF_mn _).2.2.1
variable {g : Gl} {M : Mem}
/-- the dealer's own: curves, fewest, sizes, dealt -/
abbrev deM (M : Mem) (f a s d : Nat → Int32) : Mem := mk2 M (up1 (up1 (up1 (up1 (mI M) 956 f) 957 a) 958 s) 953 d) (mJ M)
section DEM
variable {f a s d : Nat → Int32}
theorem de_f : mI (deM M f a s d) 956 = f := by
  show up1 (up1 (up1 (up1 (mI M) 956 f) 957 a) 958 s) 953 d 956 = f
  rw [up1_ne (by omega), up1_ne (by omega), up1_ne (by omega), up1_eq]
theorem de_a : mI (deM M f a s d) 957 = a := by
  show up1 (up1 (up1 (up1 (mI M) 956 f) 957 a) 958 s) 953 d 957 = a
  rw [up1_ne (by omega), up1_ne (by omega), up1_eq]
theorem de_s : mI (deM M f a s d) 958 = s := by
  show up1 (up1 (up1 (up1 (mI M) 956 f) 957 a) 958 s) 953 d 958 = s
  rw [up1_ne (by omega), up1_eq]
theorem de_d : mI (deM M f a s d) 953 = d := by
  show up1 (up1 (up1 (up1 (mI M) 956 f) 957 a) 958 s) 953 d 953 = d
  rw [up1_eq]
theorem de_x {x : Nat} (h : x ≠ 953) (h2 : x < 956 ∨ 959 ≤ x) : mI (deM M f a s d) x = mI M x := by
  show up1 (up1 (up1 (up1 (mI M) 956 f) 957 a) 958 s) 953 d x = _
  rw [up1_ne h, up1_ne (by omega), up1_ne (by omega), up1_ne (by omega)]
theorem de_id : deM M (mI M 956) (mI M 957) (mI M 958) (mI M 953) = M := by
  show mk2 M (up1 (up1 (up1 (up1 (mI M) 956 (mI M 956)) 957 (mI M 957)) 958 (mI M 958)) 953 (mI M 953)) (mJ M) = M
  rw [up1_self, up1_self, up1_self, up1_self]
theorem de_sf {k : Nat} {v : Int32} : sI (deM M f a s d) 956 k v = deM M (up1 f k v) a s d := by
  refine mk2_ext (M := M) ?_ rfl
  show up2 (up1 (up1 (up1 (up1 (mI M) 956 f) 957 a) 958 s) 953 d) 956 k v = _
  rw [up2_up1, show up1 (up1 (up1 (up1 (mI M) 956 f) 957 a) 958 s) 953 d 956 = f from de_f (M := M) (f := f) (a := a) (s := s) (d := d), up1_comm _ (show 953 ≠ 956 by omega), up1_comm _ (show 958 ≠ 956 by omega), up1_comm _ (show 957 ≠ 956 by omega), up1_up1]
theorem de_sa {k : Nat} {v : Int32} : sI (deM M f a s d) 957 k v = deM M f (up1 a k v) s d := by
  refine mk2_ext (M := M) ?_ rfl
  show up2 (up1 (up1 (up1 (up1 (mI M) 956 f) 957 a) 958 s) 953 d) 957 k v = _
  rw [up2_up1, show up1 (up1 (up1 (up1 (mI M) 956 f) 957 a) 958 s) 953 d 957 = a from de_a (M := M) (f := f) (a := a) (s := s) (d := d), up1_comm _ (show 953 ≠ 957 by omega), up1_comm _ (show 958 ≠ 957 by omega), up1_up1]
theorem de_ss {k : Nat} {v : Int32} : sI (deM M f a s d) 958 k v = deM M f a (up1 s k v) d := by
  refine mk2_ext (M := M) ?_ rfl
  show up2 (up1 (up1 (up1 (up1 (mI M) 956 f) 957 a) 958 s) 953 d) 958 k v = _
  rw [up2_up1, show up1 (up1 (up1 (up1 (mI M) 956 f) 957 a) 958 s) 953 d 958 = s from de_s (M := M) (f := f) (a := a) (s := s) (d := d), up1_comm _ (show 953 ≠ 958 by omega), up1_up1]
theorem de_sd {k : Nat} {v : Int32} : sI (deM M f a s d) 953 k v = deM M f a s (up1 d k v) := by
  refine mk2_ext (M := M) ?_ rfl
  show up2 (up1 (up1 (up1 (up1 (mI M) 956 f) 957 a) 958 s) 953 d) 953 k v = _
  rw [up2_up1, show up1 (up1 (up1 (up1 (mI M) 956 f) 957 a) 958 s) 953 d 953 = d from de_d (M := M) (f := f) (a := a) (s := s) (d := d), up1_up1]
end DEM
theorem c_choose {m : Nat → Nat → Nat} {s0 : Nat → Nat} {f a s dl : Nat → Int32} {t d l : Nat} (hDe : DeAt (mT M) (mR M) 952) (hm : ∀ t c, t < 4 → c < 25 → m t c ≤ s0 t) (hs : sfx s0 4 < 1000000000) (hf : ∀ c, c < 25 → f (25 * t + c) = nI (m t c)) (hd : t + d = 3) (hl : l ≤ 48) (ha : ∀ j, j ≤ l → a (49 * (t + 1) + j) = nI (bstT m d j).2) : Cv g Y_De_chooseSize 1 [.ref 952, .int (nI t), .int (nI l)] (deM M f a s dl) (fun M2 => M2 = deM M f (up1 a (49 * t + l) (nI (bstT m (d + 1) l).2)) (up1 s (49 * t + l) (nI (bstT m (d + 1) l).1)) dl) := by
  obtain ⟨t952, -, -, -, -, -, -, r3, t956, r4, t957, r5, t958⟩ := hDe
  have r3' : mR M 952 3 = some 956 := r3
  have r4' : mR M 952 4 = some 957 := r4
  have r5' : mR M 952 5 = some 958 := r5
  have t956' : mT M 956 = (20, 100) := t956
  have t957' : mT M 957 = (20, 245) := t957
  have t958' : mT M 958 = (20, 196) := t958
  have hf' : ∀ c, c < 25 → mI (deM M f a s dl) 956 (t * 25 + c) = nI (m t c) := fun c hc => by rw [de_f, Nat.mul_comm]; exact hf c hc
  have ha' : ∀ c, c ≤ l → mI (deM M f a s dl) 957 ((t + 1) * 49 + l - c) = nI (bstT m d (l - c)).2 := fun c hc => by rw [de_a, Nat.mul_comm, Nat.add_sub_assoc hc]; exact ha _ (by omega)
  have hH := fun c hc => bstH_le (m := m) (s := s0) hm (t := t) (d := d) (l := l) (c := c) hd hc
  rw [bst_s (m := m) (l := l) hd]
  have hlp : ∀ e k (x8 : Option Value), k + e = min 24 l → Wp g Y_De_chooseSize 1 37 [some (.ref 952), some (.int (nI t)), some (.int (nI l)), some (.int (nI (t * 25))), some (.int (nI ((t + 1) * 49 + l))), some (.int (nI (akF (bstH m t d l) k).1)), some (.int (nI (akF (bstH m t d l) k).2)), some (.int (nI (k + 1))), x8] [] (deM M f a s dl) (fun r M2 => r = none ∧ M2 = deM M f (up1 a (49 * t + l) (nI (akF (bstH m t d l) (min 24 l)).2)) (up1 s (49 * t + l) (nI (akF (bstH m t d l) (min 24 l)).1)) dl) := by
    intro e
    induction e with
    | zero =>
      intro k x8 h1
      obtain rfl : k = min 24 l := by omega
      refine wp_iload rfl (ck_get kk_De_chooseSize 26 rfl) ?_
      refine wp_bipush (v := nI 24) (by decide) (ck_get kk_De_chooseSize 27 rfl) ?_
      first | refine wp_icmp_gtN (t := 93) (ck_get kk_De_chooseSize 28 rfl) (by decide) (by omega) (by omega) (fun hc41 => ?_) (fun hc41 => ?_) | refine wp_icmp_gt (t := 93) (ck_get kk_De_chooseSize 28 rfl) (by decide) (fun hc41 => ?_) (fun hc41 => ?_)
      · refine wp_aload_n rfl (ck_get kk_De_chooseSize 55 rfl) ?_
        refine wp_getR (ck_get kk_De_chooseSize 56 rfl) fl_De_25 (by assumption) (by assumption) ?_
        refine wp_iload_n rfl (ck_get kk_De_chooseSize 57 rfl) ?_
        refine wp_bipush (v := nI 49) (by decide) (ck_get kk_De_chooseSize 58 rfl) ?_
        first | refine wp_imulN (ck_get kk_De_chooseSize 59 rfl) ?_ | refine wp_imul (ck_get kk_De_chooseSize 59 rfl) ?_
        refine wp_iload_n rfl (ck_get kk_De_chooseSize 60 rfl) ?_
        first | refine wp_iaddN (ck_get kk_De_chooseSize 61 rfl) ?_ | refine wp_iadd (ck_get kk_De_chooseSize 61 rfl) ?_
        refine wp_iload rfl (ck_get kk_De_chooseSize 62 rfl) ?_
        refine wp_iast (ck_get kk_De_chooseSize 63 rfl) (by assumption) (ixk_nI (k := t * 49 + l) (by omega) (by omega)) ?_
        rw [de_sa]
        refine wp_aload_n rfl (ck_get kk_De_chooseSize 64 rfl) ?_
        refine wp_getR (ck_get kk_De_chooseSize 65 rfl) fl_De_28 (by assumption) (by assumption) ?_
        refine wp_iload_n rfl (ck_get kk_De_chooseSize 66 rfl) ?_
        refine wp_bipush (v := nI 49) (by decide) (ck_get kk_De_chooseSize 67 rfl) ?_
        first | refine wp_imulN (ck_get kk_De_chooseSize 68 rfl) ?_ | refine wp_imul (ck_get kk_De_chooseSize 68 rfl) ?_
        refine wp_iload_n rfl (ck_get kk_De_chooseSize 69 rfl) ?_
        first | refine wp_iaddN (ck_get kk_De_chooseSize 70 rfl) ?_ | refine wp_iadd (ck_get kk_De_chooseSize 70 rfl) ?_
        refine wp_iload rfl (ck_get kk_De_chooseSize 71 rfl) ?_
        refine wp_iast (ck_get kk_De_chooseSize 72 rfl) (by assumption) (ixk_nI (k := t * 49 + l) (by omega) (by omega)) ?_
        rw [de_ss]
        refine wp_return (ck_get kk_De_chooseSize 73 rfl) rfl ⟨rfl, ?_⟩
        rw [Nat.mul_comm]
      · refine wp_iload rfl (ck_get kk_De_chooseSize 29 rfl) ?_
        refine wp_iload_n rfl (ck_get kk_De_chooseSize 30 rfl) ?_
        first | refine wp_icmp_gtN (t := 93) (ck_get kk_De_chooseSize 31 rfl) (by decide) (by omega) (by omega) (fun hc47 => ?_) (fun hc47 => ?_) | refine wp_icmp_gt (t := 93) (ck_get kk_De_chooseSize 31 rfl) (by decide) (fun hc47 => ?_) (fun hc47 => ?_)
        · refine wp_aload_n rfl (ck_get kk_De_chooseSize 55 rfl) ?_
          refine wp_getR (ck_get kk_De_chooseSize 56 rfl) fl_De_25 (by assumption) (by assumption) ?_
          refine wp_iload_n rfl (ck_get kk_De_chooseSize 57 rfl) ?_
          refine wp_bipush (v := nI 49) (by decide) (ck_get kk_De_chooseSize 58 rfl) ?_
          first | refine wp_imulN (ck_get kk_De_chooseSize 59 rfl) ?_ | refine wp_imul (ck_get kk_De_chooseSize 59 rfl) ?_
          refine wp_iload_n rfl (ck_get kk_De_chooseSize 60 rfl) ?_
          first | refine wp_iaddN (ck_get kk_De_chooseSize 61 rfl) ?_ | refine wp_iadd (ck_get kk_De_chooseSize 61 rfl) ?_
          refine wp_iload rfl (ck_get kk_De_chooseSize 62 rfl) ?_
          refine wp_iast (ck_get kk_De_chooseSize 63 rfl) (by assumption) (ixk_nI (k := t * 49 + l) (by omega) (by omega)) ?_
          rw [de_sa]
          refine wp_aload_n rfl (ck_get kk_De_chooseSize 64 rfl) ?_
          refine wp_getR (ck_get kk_De_chooseSize 65 rfl) fl_De_28 (by assumption) (by assumption) ?_
          refine wp_iload_n rfl (ck_get kk_De_chooseSize 66 rfl) ?_
          refine wp_bipush (v := nI 49) (by decide) (ck_get kk_De_chooseSize 67 rfl) ?_
          first | refine wp_imulN (ck_get kk_De_chooseSize 68 rfl) ?_ | refine wp_imul (ck_get kk_De_chooseSize 68 rfl) ?_
          refine wp_iload_n rfl (ck_get kk_De_chooseSize 69 rfl) ?_
          first | refine wp_iaddN (ck_get kk_De_chooseSize 70 rfl) ?_ | refine wp_iadd (ck_get kk_De_chooseSize 70 rfl) ?_
          refine wp_iload rfl (ck_get kk_De_chooseSize 71 rfl) ?_
          refine wp_iast (ck_get kk_De_chooseSize 72 rfl) (by assumption) (ixk_nI (k := t * 49 + l) (by omega) (by omega)) ?_
          rw [de_ss]
          refine wp_return (ck_get kk_De_chooseSize 73 rfl) rfl ⟨rfl, ?_⟩
          rw [Nat.mul_comm]
        · omega
    | succ e ih =>
      intro k x8 h1
      have b1 := hH (k + 1) (by omega)
      have b1' : m t (k + 1) + (bstT m d (l - (k + 1))).2 < 1000000000 := by
        have : bstH m t d l (k + 1) = m t (k + 1) + (bstT m d (l - (k + 1))).2 := rfl
        omega
      have b2 := (akF_mn (h := bstH m t d l) k).2.2.2 0 (by omega)
      have b3 := hH 0 (by omega)
      have e0 : akF (bstH m t d l) (k + 1) = if m t (k + 1) + (bstT m d (l - (k + 1))).2 < (akF (bstH m t d l) k).2 then (k + 1, m t (k + 1) + (bstT m d (l - (k + 1))).2) else akF (bstH m t d l) k := rfl
      have ih2 := fun x8 => ih (k + 1) x8 (by omega)
      rw [e0] at ih2
      refine wp_iload rfl (ck_get kk_De_chooseSize 26 rfl) ?_
      refine wp_bipush (v := nI 24) (by decide) (ck_get kk_De_chooseSize 27 rfl) ?_
      first | refine wp_icmp_gtN (t := 93) (ck_get kk_De_chooseSize 28 rfl) (by decide) (by omega) (by omega) (fun hc41 => ?_) (fun hc41 => ?_) | refine wp_icmp_gt (t := 93) (ck_get kk_De_chooseSize 28 rfl) (by decide) (fun hc41 => ?_) (fun hc41 => ?_)
      · omega
      · refine wp_iload rfl (ck_get kk_De_chooseSize 29 rfl) ?_
        refine wp_iload_n rfl (ck_get kk_De_chooseSize 30 rfl) ?_
        first | refine wp_icmp_gtN (t := 93) (ck_get kk_De_chooseSize 31 rfl) (by decide) (by omega) (by omega) (fun hc47 => ?_) (fun hc47 => ?_) | refine wp_icmp_gt (t := 93) (ck_get kk_De_chooseSize 31 rfl) (by decide) (fun hc47 => ?_) (fun hc47 => ?_)
        · omega
        · refine wp_aload_n rfl (ck_get kk_De_chooseSize 32 rfl) ?_
          refine wp_getR (ck_get kk_De_chooseSize 33 rfl) fl_De_22 (by assumption) (by assumption) ?_
          refine wp_iload_n rfl (ck_get kk_De_chooseSize 34 rfl) ?_
          refine wp_iload rfl (ck_get kk_De_chooseSize 35 rfl) ?_
          first | refine wp_iaddN (ck_get kk_De_chooseSize 36 rfl) ?_ | refine wp_iadd (ck_get kk_De_chooseSize 36 rfl) ?_
          refine wp_ialdv (v := nI (m t (k + 1))) (ck_get kk_De_chooseSize 37 rfl) (by assumption) (ixk_nI (k := t * 25 + (k + 1)) (by omega) (by omega)) (hf' (k + 1) (by omega)) ?_
          refine wp_aload_n rfl (ck_get kk_De_chooseSize 38 rfl) ?_
          refine wp_getR (ck_get kk_De_chooseSize 39 rfl) fl_De_25 (by assumption) (by assumption) ?_
          refine wp_iload rfl (ck_get kk_De_chooseSize 40 rfl) ?_
          refine wp_iload rfl (ck_get kk_De_chooseSize 41 rfl) ?_
          first | refine wp_isubN (ck_get kk_De_chooseSize 42 rfl) (by omega) ?_ | refine wp_isub (ck_get kk_De_chooseSize 42 rfl) ?_
          refine wp_ialdv (v := nI (bstT m d (l - (k + 1))).2) (ck_get kk_De_chooseSize 43 rfl) (by assumption) (ixk_nI (k := (t + 1) * 49 + l - (k + 1)) (by omega) (by omega)) (ha' (k + 1) (by omega)) ?_
          first | refine wp_iaddN (ck_get kk_De_chooseSize 44 rfl) ?_ | refine wp_iadd (ck_get kk_De_chooseSize 44 rfl) ?_
          refine wp_istore (ck_get kk_De_chooseSize 45 rfl) (by decide) rfl ?_
          refine wp_iload rfl (ck_get kk_De_chooseSize 46 rfl) ?_
          refine wp_iload rfl (ck_get kk_De_chooseSize 47 rfl) ?_
          first | refine wp_icmp_geN (t := 87) (ck_get kk_De_chooseSize 48 rfl) (by decide) (by omega) (by omega) (fun hc76 => ?_) (fun hc76 => ?_) | refine wp_icmp_ge (t := 87) (ck_get kk_De_chooseSize 48 rfl) (by decide) (fun hc76 => ?_) (fun hc76 => ?_)
          · first | refine wp_iincN (ck_get kk_De_chooseSize 53 rfl) rfl (by decide) rfl ?_ | refine wp_iinc (ck_get kk_De_chooseSize 53 rfl) rfl (by decide) rfl ?_
            refine wp_goto (t := 37) (ck_get kk_De_chooseSize 54 rfl) (by decide) ?_
            rw [if_neg (by omega)] at ih2
            exact ih2 _
          · refine wp_iload rfl (ck_get kk_De_chooseSize 49 rfl) ?_
            refine wp_istore (ck_get kk_De_chooseSize 50 rfl) (by decide) rfl ?_
            refine wp_iload rfl (ck_get kk_De_chooseSize 51 rfl) ?_
            refine wp_istore (ck_get kk_De_chooseSize 52 rfl) (by decide) rfl ?_
            first | refine wp_iincN (ck_get kk_De_chooseSize 53 rfl) rfl (by decide) rfl ?_ | refine wp_iinc (ck_get kk_De_chooseSize 53 rfl) rfl (by decide) rfl ?_
            refine wp_goto (t := 37) (ck_get kk_De_chooseSize 54 rfl) (by decide) ?_
            rw [if_pos (by omega)] at ih2
            exact ih2 _
  refine cw_entry 6 pf_De_chooseSize rfl ?_
  refine wp_iload_n rfl (ck_get kk_De_chooseSize 0 rfl) ?_
  refine wp_bipush (v := nI 25) (by decide) (ck_get kk_De_chooseSize 1 rfl) ?_
  first | refine wp_imulN (ck_get kk_De_chooseSize 2 rfl) ?_ | refine wp_imul (ck_get kk_De_chooseSize 2 rfl) ?_
  refine wp_istore_n (ck_get kk_De_chooseSize 3 rfl) (by decide) rfl ?_
  refine wp_iload_n rfl (ck_get kk_De_chooseSize 4 rfl) ?_
  refine wp_iconst (v := nI 1) (by decide) (ck_get kk_De_chooseSize 5 rfl) ?_
  first | refine wp_iaddN (ck_get kk_De_chooseSize 6 rfl) ?_ | refine wp_iadd (ck_get kk_De_chooseSize 6 rfl) ?_
  refine wp_bipush (v := nI 49) (by decide) (ck_get kk_De_chooseSize 7 rfl) ?_
  first | refine wp_imulN (ck_get kk_De_chooseSize 8 rfl) ?_ | refine wp_imul (ck_get kk_De_chooseSize 8 rfl) ?_
  refine wp_iload_n rfl (ck_get kk_De_chooseSize 9 rfl) ?_
  first | refine wp_iaddN (ck_get kk_De_chooseSize 10 rfl) ?_ | refine wp_iadd (ck_get kk_De_chooseSize 10 rfl) ?_
  refine wp_istore (ck_get kk_De_chooseSize 11 rfl) (by decide) rfl ?_
  refine wp_iconst (v := nI 0) (by decide) (ck_get kk_De_chooseSize 12 rfl) ?_
  refine wp_istore (ck_get kk_De_chooseSize 13 rfl) (by decide) rfl ?_
  refine wp_aload_n rfl (ck_get kk_De_chooseSize 14 rfl) ?_
  refine wp_getR (ck_get kk_De_chooseSize 15 rfl) fl_De_22 (by assumption) (by assumption) ?_
  refine wp_iload_n rfl (ck_get kk_De_chooseSize 16 rfl) ?_
  refine wp_ialdv (v := nI (m t 0)) (ck_get kk_De_chooseSize 17 rfl) (by assumption) (ixk_nI (k := t * 25) (by omega) (by omega)) (hf' 0 (by omega)) ?_
  refine wp_aload_n rfl (ck_get kk_De_chooseSize 18 rfl) ?_
  refine wp_getR (ck_get kk_De_chooseSize 19 rfl) fl_De_25 (by assumption) (by assumption) ?_
  refine wp_iload rfl (ck_get kk_De_chooseSize 20 rfl) ?_
  refine wp_ialdv (v := nI (bstT m d l).2) (ck_get kk_De_chooseSize 21 rfl) (by assumption) (ixk_nI (k := (t + 1) * 49 + l) (by omega) (by omega)) (ha' 0 (by omega)) ?_
  first | refine wp_iaddN (ck_get kk_De_chooseSize 22 rfl) ?_ | refine wp_iadd (ck_get kk_De_chooseSize 22 rfl) ?_
  refine wp_istore (ck_get kk_De_chooseSize 23 rfl) (by decide) rfl ?_
  refine wp_iconst (v := nI 1) (by decide) (ck_get kk_De_chooseSize 24 rfl) ?_
  refine wp_istore (ck_get kk_De_chooseSize 25 rfl) (by decide) rfl ?_
  exact hlp (min 24 l) 0 none (by omega)
end BES

/-! ===== share: who gets one more; the class deals ===== -/
section SHS
def oI : Option Nat → Int32
  | none => -1
  | some m => nI m
section DN
variable (fl wd : Nat → Nat → Int)
def shT (d : Nat → Nat) (t : Nat) (o : Option Nat) : Option Nat :=
  if d t < 24 then (match o with
    | none => some t
    | some m => if fl m (d m) * wd t (d t) < fl t (d t) * wd m (d m) then some t else some m) else o
def shW (d : Nat → Nat) : Nat → Option Nat
  | 0 => none
  | t + 1 => shT fl wd d t (shW d t)
def shD : Nat → Nat → Nat
  | 0 => fun _ => 0
  | n + 1 => match shW fl wd (shD n) 4 with
    | none => shD n
    | some m => up1 (shD n) m (shD n m + 1)
end DN
variable {fl wd : Nat → Nat → Int}
theorem shT_f {d : Nat → Nat} {t : Nat} {o : Option Nat} (h : ¬ d t < 24) : shT fl wd d t o = o := by
  unfold shT
  rw [if_neg h]
theorem shT_n {d : Nat → Nat} {t : Nat} (h : d t < 24) : shT fl wd d t none = some t := by
  unfold shT
  rw [if_pos h]
theorem shT_s {d : Nat → Nat} {t m : Nat} (h : d t < 24) : shT fl wd d t (some m) = if fl m (d m) * wd t (d t) < fl t (d t) * wd m (d m) then some t else some m := by
  unfold shT
  rw [if_pos h]
theorem shW_s {d : Nat → Nat} : ∀ t m, shW fl wd d t = some m → m < t ∧ d m < 24
  | 0, m, h => by cases h
  | t + 1, m, h => by
    have e : shW fl wd d (t + 1) = shT fl wd d t (shW fl wd d t) := rfl
    rw [e] at h
    by_cases q : d t < 24
    · cases hw : shW fl wd d t with
      | none =>
        rw [hw, shT_n q] at h
        cases h
        exact ⟨by omega, q⟩
      | some m2 =>
        rw [hw, shT_s q] at h
        have ih := shW_s t m2 hw
        split at h
        · cases h; exact ⟨by omega, q⟩
        · cases h; exact ⟨by omega, ih.2⟩
    · rw [shT_f q] at h
      have ih := shW_s t m h
      exact ⟨by omega, ih.2⟩
theorem shW_n {d : Nat → Nat} : ∀ t, shW fl wd d t = none → ∀ u, u < t → ¬ d u < 24
  | 0, _, u, hu => absurd hu (Nat.not_lt_zero _)
  | t + 1, h, u, hu => by
    have e : shW fl wd d (t + 1) = shT fl wd d t (shW fl wd d t) := rfl
    rw [e] at h
    by_cases q : d t < 24
    · cases hw : shW fl wd d t with
      | none => rw [hw, shT_n q] at h; cases h
      | some m2 =>
        rw [hw, shT_s q] at h
        split at h <;> cases h
    · rw [shT_f q] at h
      by_cases e : u = t
      · subst e; exact q
      · exact shW_n t h u (by omega)
theorem shD_ok : ∀ n, shD fl wd n 0 + shD fl wd n 1 + shD fl wd n 2 + shD fl wd n 3 ≤ n ∧ ∀ u, u < 4 → shD fl wd n u ≤ 24
  | 0 => ⟨Nat.le_refl _, fun u _ => Nat.zero_le _⟩
  | n + 1 => by
    obtain ⟨a, b⟩ := shD_ok n
    cases hw : shW fl wd (shD fl wd n) 4 with
    | none =>
      have e : shD fl wd (n + 1) = shD fl wd n := by
        show (match shW fl wd (shD fl wd n) 4 with
          | none => shD fl wd n
          | some m => up1 (shD fl wd n) m (shD fl wd n m + 1)) = _
        rw [hw]
      rw [e]
      exact ⟨by omega, b⟩
    | some m =>
      have e : shD fl wd (n + 1) = up1 (shD fl wd n) m (shD fl wd n m + 1) := by
        show (match shW fl wd (shD fl wd n) 4 with
          | none => shD fl wd n
          | some m => up1 (shD fl wd n) m (shD fl wd n m + 1)) = _
        rw [hw]
      obtain ⟨h1, h2⟩ := shW_s 4 m hw
      rw [e]
      refine ⟨?_, fun u hu => ?_⟩
      · rcases (show m = 0 ∨ m = 1 ∨ m = 2 ∨ m = 3 by omega) with rfl | rfl | rfl | rfl
        · rw [up1_eq, up1_ne (by omega), up1_ne (by omega), up1_ne (by omega)]; omega
        · rw [up1_eq, up1_ne (by omega), up1_ne (by omega), up1_ne (by omega)]; omega
        · rw [up1_eq, up1_ne (by omega), up1_ne (by omega), up1_ne (by omega)]; omega
        · rw [up1_eq, up1_ne (by omega), up1_ne (by omega), up1_ne (by omega)]; omega
      · by_cases q : u = m
        · subst q; rw [up1_eq]; omega
        · rw [up1_ne q]; exact b u hu
/-- one is always there who gets it -/
theorem shD_s {n : Nat} (hn : n < 96) : ∃ m, m < 4 ∧ shW fl wd (shD fl wd n) 4 = some m ∧ shD fl wd n m < 24 ∧ shD fl wd (n + 1) = up1 (shD fl wd n) m (shD fl wd n m + 1) := by
  have h := (shD_ok (fl := fl) (wd := wd) n).1
  cases hw : shW fl wd (shD fl wd n) 4 with
  | none =>
    have q := shW_n 4 hw
    have q0 := q 0 (by omega)
    have q1 := q 1 (by omega)
    have q2 := q 2 (by omega)
    have q3 := q 3 (by omega)
    omega
  | some m =>
    obtain ⟨h1, h2⟩ := shW_s 4 m hw
    refine ⟨m, h1, rfl, h2, ?_⟩
    show (match shW fl wd (shD fl wd n) 4 with
      | none => shD fl wd n
      | some m => up1 (shD fl wd n) m (shD fl wd n m + 1)) = _
    rw [hw]
abbrev flT (F : Nat → Nat → Int) : Nat → Nat → Int := fun t c => flF (F t) c
abbrev wdT (F : Nat → Nat → Int) : Nat → Nat → Int := fun t c => wdF (F t) c
theorem fw_b {F : Nat → Nat → Int} {t c : Nat} (hF : ∀ c, c < 25 → 0 ≤ F t c ∧ F t c ≤ 400000000) (hc : c < 24) : -400000000 ≤ flT F t c ∧ flT F t c ≤ 400000000 ∧ 0 ≤ wdT F t c ∧ wdT F t c ≤ 25 := by
  obtain ⟨q1, q2, q3, q4⟩ := sg_le (sgF_ok (f := F t) hc)
  have a := hF (nbI (F t) (sgF (F t) c)) (by omega)
  have b := hF (nbI (F t) (sgF (F t) c + 1)) (by omega)
  have e1 : flT F t c = F t (nbI (F t) (sgF (F t) c)) - F t (nbI (F t) (sgF (F t) c + 1)) := rfl
  have e2 : wdT F t c = (nbI (F t) (sgF (F t) c + 1) : Int) - nbI (F t) (sgF (F t) c) := rfl
  omega
variable {g : Gl} {M : Mem}
theorem c_fallsMore {F : Nat → Nat → Int} {t m : Nat} {j fl wd : Nat → Int64} {b r dr : Nat → Int32} {d : Nat → Nat} (hDe : DeAt (mT M) (mR M) 952) (hF : ∀ t c, t < 4 → c < 25 → 0 ≤ F t c ∧ F t c ≤ 400000000) (hL : FlL F fl wd (fun _ _ => True)) (hd : ∀ u, u < 4 → dr u = nI (d u)) (ht : t < 4) (hm : m < 4) (h1 : d t < 24) (h2 : d m < 24) : Ci g Y_De_fallsMore 0 [.ref 952, .int (nI t), .int (nI m)] (shM M j fl wd b r dr) (fun x M2 => x = bI (decide (flT F m (d m) * wdT F t (d t) < flT F t (d t) * wdT F m (d m))) ∧ M2 = shM M j fl wd b r dr) := by
  obtain ⟨t952, r0, t953, r1, t954, r2, t955, -⟩ := hDe
  have r0' : mR M 952 0 = some 953 := r0
  have t953' : mT M 953 = (20, 4) := t953
  have r1' : mR M 952 1 = some 954 := r1
  have r2' : mR M 952 2 = some 955 := r2
  have t954' : mT M 954 = (21, 96) := t954
  have t955' : mT M 955 = (21, 96) := t955
  have hv : ∀ u, u < 4 → mI (shM M j fl wd b r dr) 953 u = nI (d u) := fun u hu => by rw [sh_d]; exact hd u hu
  have hfl : ∀ u, u < 4 → d u < 24 → mJ (shM M j fl wd b r dr) 954 (u * 24 + d u) = jI (flT F u (d u)) := fun u hu h => by rw [sh_fl, Nat.mul_comm]; exact (hL u (d u) hu h trivial).1
  have hwd : ∀ u, u < 4 → d u < 24 → mJ (shM M j fl wd b r dr) 955 (u * 24 + d u) = jI (wdT F u (d u)) := fun u hu h => by rw [sh_wd, Nat.mul_comm]; exact (hL u (d u) hu h trivial).2
  obtain ⟨a1, a2, a3, a4⟩ := fw_b (F := F) (t := t) (c := d t) (fun c hc => hF t c ht hc) h1
  obtain ⟨b1, b2, b3, b4⟩ := fw_b (F := F) (t := m) (c := d m) (fun c hc => hF m c hm hc) h2
  have p1 := prd a1 a2 b3 b4
  have p2 := prd b1 b2 a3 a4
  refine cw_entry 2 pf_De_fallsMore rfl ?_
  refine wp_iload_n rfl (ck_get kk_De_fallsMore 0 rfl) ?_
  refine wp_bipush (v := nI 24) (by decide) (ck_get kk_De_fallsMore 1 rfl) ?_
  first | refine wp_imulN (ck_get kk_De_fallsMore 2 rfl) ?_ | refine wp_imul (ck_get kk_De_fallsMore 2 rfl) ?_
  refine wp_aload_n rfl (ck_get kk_De_fallsMore 3 rfl) ?_
  refine wp_getR (ck_get kk_De_fallsMore 4 rfl) fl_De_9 (by assumption) (by assumption) ?_
  refine wp_iload_n rfl (ck_get kk_De_fallsMore 5 rfl) ?_
  refine wp_ialdv (v := nI (d t)) (ck_get kk_De_fallsMore 6 rfl) (by assumption) (ixk_nI (k := t) (by omega) (by omega)) (hv t ht) ?_
  first | refine wp_iaddN (ck_get kk_De_fallsMore 7 rfl) ?_ | refine wp_iadd (ck_get kk_De_fallsMore 7 rfl) ?_
  refine wp_istore_n (ck_get kk_De_fallsMore 8 rfl) (by decide) rfl ?_
  refine wp_iload_n rfl (ck_get kk_De_fallsMore 9 rfl) ?_
  refine wp_bipush (v := nI 24) (by decide) (ck_get kk_De_fallsMore 10 rfl) ?_
  first | refine wp_imulN (ck_get kk_De_fallsMore 11 rfl) ?_ | refine wp_imul (ck_get kk_De_fallsMore 11 rfl) ?_
  refine wp_aload_n rfl (ck_get kk_De_fallsMore 12 rfl) ?_
  refine wp_getR (ck_get kk_De_fallsMore 13 rfl) fl_De_9 (by assumption) (by assumption) ?_
  refine wp_iload_n rfl (ck_get kk_De_fallsMore 14 rfl) ?_
  refine wp_ialdv (v := nI (d m)) (ck_get kk_De_fallsMore 15 rfl) (by assumption) (ixk_nI (k := m) (by omega) (by omega)) (hv m hm) ?_
  first | refine wp_iaddN (ck_get kk_De_fallsMore 16 rfl) ?_ | refine wp_iadd (ck_get kk_De_fallsMore 16 rfl) ?_
  refine wp_istore (ck_get kk_De_fallsMore 17 rfl) (by decide) rfl ?_
  refine wp_aload_n rfl (ck_get kk_De_fallsMore 18 rfl) ?_
  refine wp_getR (ck_get kk_De_fallsMore 19 rfl) fl_De_15 (by assumption) (by assumption) ?_
  refine wp_iload_n rfl (ck_get kk_De_fallsMore 20 rfl) ?_
  refine wp_laldv (v := jI (flT F t (d t))) (ck_get kk_De_fallsMore 21 rfl) (by assumption) (ixk_nI (k := t * 24 + d t) (by omega) (by omega)) (hfl t ht h1) ?_
  refine wp_aload_n rfl (ck_get kk_De_fallsMore 22 rfl) ?_
  refine wp_getR (ck_get kk_De_fallsMore 23 rfl) fl_De_19 (by assumption) (by assumption) ?_
  refine wp_iload rfl (ck_get kk_De_fallsMore 24 rfl) ?_
  refine wp_laldv (v := jI (wdT F m (d m))) (ck_get kk_De_fallsMore 25 rfl) (by assumption) (ixk_nI (k := m * 24 + d m) (by omega) (by omega)) (hwd m hm h2) ?_
  refine wp_lmul (ck_get kk_De_fallsMore 26 rfl) ?_
  rw [← Int64.ofInt_mul]
  refine wp_aload_n rfl (ck_get kk_De_fallsMore 27 rfl) ?_
  refine wp_getR (ck_get kk_De_fallsMore 28 rfl) fl_De_15 (by assumption) (by assumption) ?_
  refine wp_iload rfl (ck_get kk_De_fallsMore 29 rfl) ?_
  refine wp_laldv (v := jI (flT F m (d m))) (ck_get kk_De_fallsMore 30 rfl) (by assumption) (ixk_nI (k := m * 24 + d m) (by omega) (by omega)) (hfl m hm h2) ?_
  refine wp_aload_n rfl (ck_get kk_De_fallsMore 31 rfl) ?_
  refine wp_getR (ck_get kk_De_fallsMore 32 rfl) fl_De_19 (by assumption) (by assumption) ?_
  refine wp_iload_n rfl (ck_get kk_De_fallsMore 33 rfl) ?_
  refine wp_laldv (v := jI (wdT F t (d t))) (ck_get kk_De_fallsMore 34 rfl) (by assumption) (ixk_nI (k := t * 24 + d t) (by omega) (by omega)) (hwd t ht h1) ?_
  refine wp_lmul (ck_get kk_De_fallsMore 35 rfl) ?_
  rw [← Int64.ofInt_mul]
  refine wp_lcmp (ck_get kk_De_fallsMore 36 rfl) ?_
  refine wp_if_le (t := 61) (ck_get kk_De_fallsMore 37 rfl) (by decide) (fun hc54 => ?_) (fun hc54 => ?_)
  · refine wp_iconst (v := nI 0) (by decide) (ck_get kk_De_fallsMore 40 rfl) ?_
    refine wp_ireturn (ck_get kk_De_fallsMore 41 rfl) rfl rfl ⟨_, rfl, ?_⟩
    have q := mt (jI_lt (by omega) (by omega) (by omega) (by omega)).mpr ((lcmp_le _ _).mp hc54)
    exact ⟨by rw [decide_eq_false q]; rfl, rfl⟩
  · refine wp_iconst (v := nI 1) (by decide) (ck_get kk_De_fallsMore 38 rfl) ?_
    refine wp_goto (t := 62) (ck_get kk_De_fallsMore 39 rfl) (by decide) ?_
    refine wp_ireturn (ck_get kk_De_fallsMore 41 rfl) rfl rfl ⟨_, rfl, ?_⟩
    have q := (jI_lt (by omega) (by omega) (by omega) (by omega)).mp (Decidable.not_not.mp (mt (lcmp_le _ _).mpr hc54))
    exact ⟨by rw [decide_eq_true q]; rfl, rfl⟩
theorem c_dealFalls {F : Nat → Nat → Int} {k : Nat} {j fl wd : Nat → Int64} {b r dr : Nat → Int32} (hDe : DeAt (mT M) (mR M) 952) (hF : ∀ t c, t < 4 → c < 25 → 0 ≤ F t c ∧ F t c ≤ 400000000) (hL : FlL F fl wd (fun _ _ => True)) (hk : k ≤ 48) : Cv g Y_De_dealByFalls 1 [.ref 952, .int (nI k)] (shM M j fl wd b r dr) (fun M2 => ∃ dr, M2 = shM M j fl wd b r dr ∧ ∀ u, u < 4 → dr u = nI (shD (flT F) (wdT F) k u)) := by
  have hDe0 := hDe
  obtain ⟨t952, r0, t953, -⟩ := hDe
  have r0' : mR M 952 0 = some 953 := r0
  have t953' : mT M 953 = (20, 4) := t953
  have hin : ∀ {Q : Option Value → Mem → Prop} (n : Nat) (dr : Nat → Int32) (d : Nat → Nat), n < k → (∀ u, u < 4 → dr u = nI (d u)) → (∀ u, u < 4 → d u ≤ 24) → Wp g Y_De_dealByFalls 1 62 [some (.ref 952), some (.int (nI k)), some (.int (nI n)), some (.int (oI (shW (flT F) (wdT F) d 4))), some (.int (nI 4))] [] (shM M j fl wd b r dr) Q → ∀ e t, t + e = 4 → Wp g Y_De_dealByFalls 1 20 [some (.ref 952), some (.int (nI k)), some (.int (nI n)), some (.int (oI (shW (flT F) (wdT F) d t))), some (.int (nI t))] [] (shM M j fl wd b r dr) Q := by
    intro Q n dr d hn hd hd24 K e
    have hv : ∀ u, u < 4 → mI (shM M j fl wd b r dr) 953 u = nI (d u) := fun u hu => by rw [sh_d]; exact hd u hu
    induction e with
    | zero =>
      intro t h1
      obtain rfl : t = 4 := by omega
      refine wp_iload rfl (ck_get kk_De_dealByFalls 13 rfl) ?_
      refine wp_iconst (v := nI 4) (by decide) (ck_get kk_De_dealByFalls 14 rfl) ?_
      first | refine wp_icmp_geN (t := 62) (ck_get kk_De_dealByFalls 15 rfl) (by decide) (by omega) (by omega) (fun hc23 => ?_) (fun hc23 => ?_) | refine wp_icmp_ge (t := 62) (ck_get kk_De_dealByFalls 15 rfl) (by decide) (fun hc23 => ?_) (fun hc23 => ?_)
      · exact K
      · omega
    | succ e ih =>
      intro t h1
      have ht : t < 4 := by omega
      have hdt := hd24 t ht
      have ih2 := ih (t + 1) (by omega)
      rw [show shW (flT F) (wdT F) d (t + 1) = shT (flT F) (wdT F) d t (shW (flT F) (wdT F) d t) from rfl] at ih2
      by_cases q : d t < 24
      · cases hw : shW (flT F) (wdT F) d t with
        | none =>
          rw [hw, shT_n q] at ih2
          refine wp_iload rfl (ck_get kk_De_dealByFalls 13 rfl) ?_
          refine wp_iconst (v := nI 4) (by decide) (ck_get kk_De_dealByFalls 14 rfl) ?_
          first | refine wp_icmp_geN (t := 62) (ck_get kk_De_dealByFalls 15 rfl) (by decide) (by omega) (by omega) (fun hc23 => ?_) (fun hc23 => ?_) | refine wp_icmp_ge (t := 62) (ck_get kk_De_dealByFalls 15 rfl) (by decide) (fun hc23 => ?_) (fun hc23 => ?_)
          · omega
          · refine wp_aload_n rfl (ck_get kk_De_dealByFalls 16 rfl) ?_
            refine wp_getR (ck_get kk_De_dealByFalls 17 rfl) fl_De_9 (by assumption) (by assumption) ?_
            refine wp_iload rfl (ck_get kk_De_dealByFalls 18 rfl) ?_
            refine wp_ialdv (v := nI (d t)) (ck_get kk_De_dealByFalls 19 rfl) (by assumption) (ixk_nI (k := t) (by omega) (by omega)) (hv t ht) ?_
            refine wp_bipush (v := nI 24) (by decide) (ck_get kk_De_dealByFalls 20 rfl) ?_
            first | refine wp_icmp_geN (t := 56) (ck_get kk_De_dealByFalls 21 rfl) (by decide) (by omega) (by omega) (fun hc35 => ?_) (fun hc35 => ?_) | refine wp_icmp_ge (t := 56) (ck_get kk_De_dealByFalls 21 rfl) (by decide) (fun hc35 => ?_) (fun hc35 => ?_)
            · omega
            · refine wp_iload_n rfl (ck_get kk_De_dealByFalls 22 rfl) ?_
              refine wp_iconst (v := (-1)) (by decide) (ck_get kk_De_dealByFalls 23 rfl) ?_
              refine wp_icmp_eq (t := 53) (ck_get kk_De_dealByFalls 24 rfl) (by decide) (fun hc40 => ?_) (fun hc40 => ?_)
              · refine wp_iload rfl (ck_get kk_De_dealByFalls 30 rfl) ?_
                refine wp_istore_n (ck_get kk_De_dealByFalls 31 rfl) (by decide) rfl ?_
                first | refine wp_iincN (ck_get kk_De_dealByFalls 32 rfl) rfl (by decide) rfl ?_ | refine wp_iinc (ck_get kk_De_dealByFalls 32 rfl) rfl (by decide) rfl ?_
                refine wp_goto (t := 20) (ck_get kk_De_dealByFalls 33 rfl) (by decide) ?_
                exact ih2
              · exact absurd rfl hc40
        | some m =>
          obtain ⟨m1, m2⟩ := shW_s t m hw
          rw [hw, shT_s q] at ih2
          refine wp_iload rfl (ck_get kk_De_dealByFalls 13 rfl) ?_
          refine wp_iconst (v := nI 4) (by decide) (ck_get kk_De_dealByFalls 14 rfl) ?_
          first | refine wp_icmp_geN (t := 62) (ck_get kk_De_dealByFalls 15 rfl) (by decide) (by omega) (by omega) (fun hc23 => ?_) (fun hc23 => ?_) | refine wp_icmp_ge (t := 62) (ck_get kk_De_dealByFalls 15 rfl) (by decide) (fun hc23 => ?_) (fun hc23 => ?_)
          · omega
          · refine wp_aload_n rfl (ck_get kk_De_dealByFalls 16 rfl) ?_
            refine wp_getR (ck_get kk_De_dealByFalls 17 rfl) fl_De_9 (by assumption) (by assumption) ?_
            refine wp_iload rfl (ck_get kk_De_dealByFalls 18 rfl) ?_
            refine wp_ialdv (v := nI (d t)) (ck_get kk_De_dealByFalls 19 rfl) (by assumption) (ixk_nI (k := t) (by omega) (by omega)) (hv t ht) ?_
            refine wp_bipush (v := nI 24) (by decide) (ck_get kk_De_dealByFalls 20 rfl) ?_
            first | refine wp_icmp_geN (t := 56) (ck_get kk_De_dealByFalls 21 rfl) (by decide) (by omega) (by omega) (fun hc35 => ?_) (fun hc35 => ?_) | refine wp_icmp_ge (t := 56) (ck_get kk_De_dealByFalls 21 rfl) (by decide) (fun hc35 => ?_) (fun hc35 => ?_)
            · omega
            · refine wp_iload_n rfl (ck_get kk_De_dealByFalls 22 rfl) ?_
              refine wp_iconst (v := (-1)) (by decide) (ck_get kk_De_dealByFalls 23 rfl) ?_
              refine wp_icmp_eq (t := 53) (ck_get kk_De_dealByFalls 24 rfl) (by decide) (fun hc40 => ?_) (fun hc40 => ?_)
              · exact absurd hc40 (nI_ne1 (by omega))
              · refine wp_aload_n rfl (ck_get kk_De_dealByFalls 25 rfl) ?_
                refine wp_iload rfl (ck_get kk_De_dealByFalls 26 rfl) ?_
                refine wp_iload_n rfl (ck_get kk_De_dealByFalls 27 rfl) ?_
                refine wp_cV2i (ck_get kk_De_dealByFalls 28 rfl) ml_De_50 (by omega) (Nat.le_of_ble_eq_true rfl) (by assumption) (Ci.to (c_fallsMore (m := m) (d := d) hDe0 hF hL hd ht (by omega) q m2) ?_)
                rintro _ M1 ⟨rfl, eqm1⟩
                obtain rfl := eqm1.symm
                refine wp_if_eq (t := 56) (ck_get kk_De_dealByFalls 29 rfl) (by decide) (fun hc50 => ?_) (fun hc50 => ?_)
                · first | refine wp_iincN (ck_get kk_De_dealByFalls 32 rfl) rfl (by decide) rfl ?_ | refine wp_iinc (ck_get kk_De_dealByFalls 32 rfl) rfl (by decide) rfl ?_
                  refine wp_goto (t := 20) (ck_get kk_De_dealByFalls 33 rfl) (by decide) ?_
                  rw [if_neg (fun q2 => by rw [decide_eq_true q2] at hc50; exact absurd hc50 (by decide))] at ih2
                  exact ih2
                · refine wp_iload rfl (ck_get kk_De_dealByFalls 30 rfl) ?_
                  refine wp_istore_n (ck_get kk_De_dealByFalls 31 rfl) (by decide) rfl ?_
                  first | refine wp_iincN (ck_get kk_De_dealByFalls 32 rfl) rfl (by decide) rfl ?_ | refine wp_iinc (ck_get kk_De_dealByFalls 32 rfl) rfl (by decide) rfl ?_
                  refine wp_goto (t := 20) (ck_get kk_De_dealByFalls 33 rfl) (by decide) ?_
                  rw [if_pos (of_decide_eq_true (bI_1 hc50))] at ih2
                  exact ih2
      · rw [shT_f q] at ih2
        refine wp_iload rfl (ck_get kk_De_dealByFalls 13 rfl) ?_
        refine wp_iconst (v := nI 4) (by decide) (ck_get kk_De_dealByFalls 14 rfl) ?_
        first | refine wp_icmp_geN (t := 62) (ck_get kk_De_dealByFalls 15 rfl) (by decide) (by omega) (by omega) (fun hc23 => ?_) (fun hc23 => ?_) | refine wp_icmp_ge (t := 62) (ck_get kk_De_dealByFalls 15 rfl) (by decide) (fun hc23 => ?_) (fun hc23 => ?_)
        · omega
        · refine wp_aload_n rfl (ck_get kk_De_dealByFalls 16 rfl) ?_
          refine wp_getR (ck_get kk_De_dealByFalls 17 rfl) fl_De_9 (by assumption) (by assumption) ?_
          refine wp_iload rfl (ck_get kk_De_dealByFalls 18 rfl) ?_
          refine wp_ialdv (v := nI (d t)) (ck_get kk_De_dealByFalls 19 rfl) (by assumption) (ixk_nI (k := t) (by omega) (by omega)) (hv t ht) ?_
          refine wp_bipush (v := nI 24) (by decide) (ck_get kk_De_dealByFalls 20 rfl) ?_
          first | refine wp_icmp_geN (t := 56) (ck_get kk_De_dealByFalls 21 rfl) (by decide) (by omega) (by omega) (fun hc35 => ?_) (fun hc35 => ?_) | refine wp_icmp_ge (t := 56) (ck_get kk_De_dealByFalls 21 rfl) (by decide) (fun hc35 => ?_) (fun hc35 => ?_)
          · first | refine wp_iincN (ck_get kk_De_dealByFalls 32 rfl) rfl (by decide) rfl ?_ | refine wp_iinc (ck_get kk_De_dealByFalls 32 rfl) rfl (by decide) rfl ?_
            refine wp_goto (t := 20) (ck_get kk_De_dealByFalls 33 rfl) (by decide) ?_
            exact ih2
          · omega
  have hlp : ∀ e n (dr : Nat → Int32) (x3 x4 : Option Value), n + e = k → (∀ u, u < 4 → dr u = nI (shD (flT F) (wdT F) n u)) → Wp g Y_De_dealByFalls 1 10 [some (.ref 952), some (.int (nI k)), some (.int (nI n)), x3, x4] [] (shM M j fl wd b r dr) (fun q M2 => q = none ∧ ∃ dr, M2 = shM M j fl wd b r dr ∧ ∀ u, u < 4 → dr u = nI (shD (flT F) (wdT F) k u)) := by
    intro e
    induction e with
    | zero =>
      intro n dr x3 x4 h1 hd
      obtain rfl : n = k := by omega
      refine wp_iload_n rfl (ck_get kk_De_dealByFalls 6 rfl) ?_
      refine wp_iload_n rfl (ck_get kk_De_dealByFalls 7 rfl) ?_
      first | refine wp_icmp_geN (t := 83) (ck_get kk_De_dealByFalls 8 rfl) (by decide) (by omega) (by omega) (fun hc12 => ?_) (fun hc12 => ?_) | refine wp_icmp_ge (t := 83) (ck_get kk_De_dealByFalls 8 rfl) (by decide) (fun hc12 => ?_) (fun hc12 => ?_)
      · refine wp_return (ck_get kk_De_dealByFalls 47 rfl) rfl ⟨rfl, ?_⟩
        exact ⟨dr, rfl, hd⟩
      · omega
    | succ e ih =>
      intro n dr x3 x4 h1 hd
      obtain ⟨m, m1, m2, m3, m4⟩ := shD_s (fl := flT F) (wd := wdT F) (n := n) (by omega)
      refine wp_iload_n rfl (ck_get kk_De_dealByFalls 6 rfl) ?_
      refine wp_iload_n rfl (ck_get kk_De_dealByFalls 7 rfl) ?_
      first | refine wp_icmp_geN (t := 83) (ck_get kk_De_dealByFalls 8 rfl) (by decide) (by omega) (by omega) (fun hc12 => ?_) (fun hc12 => ?_) | refine wp_icmp_ge (t := 83) (ck_get kk_De_dealByFalls 8 rfl) (by decide) (fun hc12 => ?_) (fun hc12 => ?_)
      · omega
      · refine wp_iconst (v := (-1)) (by decide) (ck_get kk_De_dealByFalls 9 rfl) ?_
        refine wp_istore_n (ck_get kk_De_dealByFalls 10 rfl) (by decide) rfl ?_
        refine wp_iconst (v := nI 0) (by decide) (ck_get kk_De_dealByFalls 11 rfl) ?_
        refine wp_istore (ck_get kk_De_dealByFalls 12 rfl) (by decide) rfl ?_
        refine hin n dr (shD (flT F) (wdT F) n) (by omega) hd (shD_ok n).2 ?_ 4 0 (by omega)
        rw [m2]
        refine wp_iload_n rfl (ck_get kk_De_dealByFalls 34 rfl) ?_
        refine wp_iconst (v := (-1)) (by decide) (ck_get kk_De_dealByFalls 35 rfl) ?_
        refine wp_icmp_eq (t := 77) (ck_get kk_De_dealByFalls 36 rfl) (by decide) (fun hc64 => ?_) (fun hc64 => ?_)
        · exact absurd hc64 (nI_ne1 (by omega))
        · refine wp_aload_n rfl (ck_get kk_De_dealByFalls 37 rfl) ?_
          refine wp_getR (ck_get kk_De_dealByFalls 38 rfl) fl_De_9 (by assumption) (by assumption) ?_
          refine wp_iload_n rfl (ck_get kk_De_dealByFalls 39 rfl) ?_
          first | refine wp_dup2l rfl (ck_get kk_De_dealByFalls 40 rfl) ?_ | refine wp_dup2 rfl rfl (ck_get kk_De_dealByFalls 40 rfl) ?_
          refine wp_ialdv (v := nI (shD (flT F) (wdT F) n m)) (ck_get kk_De_dealByFalls 41 rfl) (by assumption) (ixk_nI (k := m) (by omega) (by omega)) ((by rw [sh_d]; exact hd m m1)) ?_
          refine wp_iconst (v := nI 1) (by decide) (ck_get kk_De_dealByFalls 42 rfl) ?_
          first | refine wp_iaddN (ck_get kk_De_dealByFalls 43 rfl) ?_ | refine wp_iadd (ck_get kk_De_dealByFalls 43 rfl) ?_
          refine wp_iast (ck_get kk_De_dealByFalls 44 rfl) (by assumption) (ixk_nI (k := m) (by omega) (by omega)) ?_
          rw [sh_sd]
          first | refine wp_iincN (ck_get kk_De_dealByFalls 45 rfl) rfl (by decide) rfl ?_ | refine wp_iinc (ck_get kk_De_dealByFalls 45 rfl) rfl (by decide) rfl ?_
          refine wp_goto (t := 10) (ck_get kk_De_dealByFalls 46 rfl) (by decide) ?_
          refine ih (n + 1) _ _ _ (by omega) (fun u hu => ?_)
          rw [m4]
          by_cases q : u = m
          · subst q; rw [up1_eq, up1_eq]
          · rw [up1_ne q, up1_ne q]; exact hd u hu
  refine cw_entry 3 pf_De_dealByFalls rfl ?_
  refine wp_aload_n rfl (ck_get kk_De_dealByFalls 0 rfl) ?_
  refine wp_getR (ck_get kk_De_dealByFalls 1 rfl) fl_De_9 (by assumption) (by assumption) ?_
  refine wp_iconst (v := nI 0) (by decide) (ck_get kk_De_dealByFalls 2 rfl) ?_
  refine wp_cS2v (ck_get kk_De_dealByFalls 3 rfl) ml_De_44 (by omega) (Nat.le_of_ble_eq_true rfl) (Cv.to (c_fillI (a := 953) (len := 4) (by exact t953') (by omega)) ?_)
  rintro M1 w1
  have e0 : mk2 (shM M j fl wd b r dr) (up1 (mI (shM M j fl wd b r dr)) 953 (flI (mI (shM M j fl wd b r dr) 953) 4 (nI 0))) (mJ (shM M j fl wd b r dr)) = shM M j fl wd b r (flI dr 4 (nI 0)) := by
    rw [sh_d]
    refine mk2_ext (M := M) ?_ rfl
    show up1 (up1 (up1 (up1 (mI M) 948 b) 947 r) 953 dr) 953 (flI dr 4 (nI 0)) = _
    rw [up1_up1]
  rw [e0] at w1
  subst w1
  refine wp_iconst (v := nI 0) (by decide) (ck_get kk_De_dealByFalls 4 rfl) ?_
  refine wp_istore_n (ck_get kk_De_dealByFalls 5 rfl) (by decide) rfl ?_
  refine hlp k 0 _ _ _ (by omega) (fun u hu => ?_)
  unfold flI
  rw [if_pos hu]; rfl
end SHS

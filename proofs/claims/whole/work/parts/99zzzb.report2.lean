/-! ===== report: the model ===== -/
section RPM
variable {g : Gl} {M : Mem}
abbrev rpM (M : Mem) (r d : Nat → Int32) (n : Int32) : Mem := mk2 M (up1 (up1 (up1 (mI M) 1043 r) 1044 d) 1020 (up1 (mI M 1020) 42 n)) (mJ M)
section
variable {r d : Nat → Int32} {n : Int32}
theorem rp_r : mI (rpM M r d n) 1043 = r := by
  show up1 (up1 (up1 (mI M) 1043 r) 1044 d) 1020 (up1 (mI M 1020) 42 n) 1043 = r
  rw [up1_ne (by omega), up1_ne (by omega), up1_eq]
theorem rp_d : mI (rpM M r d n) 1044 = d := by
  show up1 (up1 (up1 (mI M) 1043 r) 1044 d) 1020 (up1 (mI M 1020) 42 n) 1044 = d
  rw [up1_ne (by omega), up1_eq]
theorem rp_n : mI (rpM M r d n) 1020 = up1 (mI M 1020) 42 n := by
  show up1 (up1 (up1 (mI M) 1043 r) 1044 d) 1020 (up1 (mI M 1020) 42 n) 1020 = _
  rw [up1_eq]
theorem rp_o {x : Nat} (h1 : x ≠ 1043) (h2 : x ≠ 1044) (h3 : x ≠ 1020) : mI (rpM M r d n) x = mI M x := by
  show up1 (up1 (up1 (mI M) 1043 r) 1044 d) 1020 (up1 (mI M 1020) 42 n) x = _
  rw [up1_ne h3, up1_ne h2, up1_ne h1]
theorem rp_sr {k : Nat} {v : Int32} : sI (rpM M r d n) 1043 k v = rpM M (up1 r k v) d n := by
  refine mk2_ext (M := M) ?_ rfl
  show up2 (up1 (up1 (up1 (mI M) 1043 r) 1044 d) 1020 (up1 (mI M 1020) 42 n)) 1043 k v = _
  rw [up2_up1, show up1 (up1 (up1 (mI M) 1043 r) 1044 d) 1020 (up1 (mI M 1020) 42 n) 1043 = r from rp_r (M := M) (r := r) (d := d) (n := n), up1_comm _ (show 1020 ≠ 1043 by omega), up1_comm _ (show 1044 ≠ 1043 by omega), up1_up1]
theorem rp_sd {k : Nat} {v : Int32} : sI (rpM M r d n) 1044 k v = rpM M r (up1 d k v) n := by
  refine mk2_ext (M := M) ?_ rfl
  show up2 (up1 (up1 (up1 (mI M) 1043 r) 1044 d) 1020 (up1 (mI M 1020) 42 n)) 1044 k v = _
  rw [up2_up1, show up1 (up1 (up1 (mI M) 1043 r) 1044 d) 1020 (up1 (mI M 1020) 42 n) 1044 = d from rp_d (M := M) (r := r) (d := d) (n := n), up1_comm _ (show 1020 ≠ 1044 by omega), up1_up1]
theorem rp_sn {v : Int32} : sI (rpM M r d n) 1020 42 v = rpM M r d v := by
  refine mk2_ext (M := M) ?_ rfl
  show up2 (up1 (up1 (up1 (mI M) 1043 r) 1044 d) 1020 (up1 (mI M 1020) 42 n)) 1020 42 v = _
  rw [up2_up1, show up1 (up1 (up1 (mI M) 1043 r) 1044 d) 1020 (up1 (mI M 1020) 42 n) 1020 = up1 (mI M 1020) 42 n from rp_n (M := M) (r := r) (d := d) (n := n), up1_up1, up1_up1]
end
theorem rp_id : rpM M (mI M 1043) (mI M 1044) (mI M 1020 42) = M := by
  show mk2 M (up1 (up1 (up1 (mI M) 1043 (mI M 1043)) 1044 (mI M 1044)) 1020 (up1 (mI M 1020) 42 (mI M 1020 42))) (mJ M) = M
  rw [up1_self, up1_self, up1_self, up1_self]
theorem m_writes {r d : Nat → Int32} {s ch : Nat} (hM : MoAt (mT M) (mR M) 1020) (hs : s < 400) (hc : ch < 128) : Cv g Y_Mo_writes 0 [.ref 1020, .int (nI ch)] (rpM M r d (nI s)) (fun M2 => M2 = rpM M (up1 r s (nI ch)) d (nI (s + 1))) := by
  have to0 := hM.1
  have rfreported := MoAt.r hM 22 rfl
  have tfreported := MoAt.t hM 22 rfl
  have hn : mI (rpM M r d (nI s)) 1020 42 = nI s := by rw [rp_n, up1_eq]
  have hn2 : mI (rpM M (up1 r s (nI ch)) d (nI s)) 1020 42 = nI s := by rw [rp_n, up1_eq]
  refine cw_entry 0 pf_Mo_writes rfl ?_
  refine wp_aload_n rfl (ck_get kk_Mo_writes 0 rfl) ?_
  refine wp_getR (ck_get kk_Mo_writes 1 rfl) fl_Mo_97 (by assumption) (by assumption) ?_
  refine wp_aload_n rfl (ck_get kk_Mo_writes 2 rfl) ?_
  refine wp_getIv (v := nI s) (ck_get kk_Mo_writes 3 rfl) fl_Mo_427 (by assumption) (hn) ?_
  refine wp_iload_n rfl (ck_get kk_Mo_writes 4 rfl) ?_
  refine wp_i2b (ck_get kk_Mo_writes 5 rfl) ?_
  rw [b8 hc]
  first | refine wp_bast (ck_get kk_Mo_writes 6 rfl) (by assumption) (ixk_nI (k := s) (by omega) (by omega)) ?_ | refine wp_zast (ck_get kk_Mo_writes 6 rfl) (by assumption) (ixk_nI (k := s) (by omega) (by omega)) ?_
  rw [b8 hc, rp_sr]
  refine wp_aload_n rfl (ck_get kk_Mo_writes 7 rfl) ?_
  refine wp_dup rfl (ck_get kk_Mo_writes 8 rfl) ?_
  refine wp_getIv (v := nI s) (ck_get kk_Mo_writes 9 rfl) fl_Mo_427 (by assumption) (hn2) ?_
  refine wp_iconst (v := nI 1) (by decide) (ck_get kk_Mo_writes 10 rfl) ?_
  first | refine wp_iaddN (ck_get kk_Mo_writes 11 rfl) ?_ | refine wp_iadd (ck_get kk_Mo_writes 11 rfl) ?_
  refine wp_putI (ck_get kk_Mo_writes 12 rfl) fl_Mo_427 (by decide +kernel) (by assumption) (okI_int _) ?_
  refine wp_return (ck_get kk_Mo_writes 13 rfl) rfl ⟨rfl, ?_⟩
  exact rp_sn
theorem dg_last (m : Nat) (h : m < 10000000000) : (dg m).getD ((dg m).length - 1) 0 = 48 + m % 10 := by
  by_cases q : m < 10
  · rw [dg_lt q, show m % 10 = m by omega]; rfl
  · rw [dg_ge q h, List.length_append]
    exact gd_r (by show (dg (m / 10)).length + 1 - 1 = _; omega)
/-- l's first j signs written from s on -/
def wr2 (f : Nat → Int32) (s : Nat) (l : List Nat) (j : Nat) : Nat → Int32 := fun i => if s ≤ i ∧ i < s + j then nI (l.getD (i - s) 0) else f i
theorem wr2_0 {f : Nat → Int32} {s : Nat} {l : List Nat} : wr2 f s l 0 = f := by
  funext i
  exact if_neg (fun h => by omega)
theorem wr2_st {f : Nat → Int32} {s j : Nat} {l : List Nat} : up1 (wr2 f s l j) (s + j) (nI (l.getD j 0)) = wr2 f s l (j + 1) := by
  funext i
  by_cases q : i = s + j
  · subst q
    rw [up1_eq]
    unfold wr2
    rw [if_pos ⟨by omega, by omega⟩, show s + j - s = j by omega]
  · rw [up1_ne q]
    unfold wr2
    by_cases c : s ≤ i ∧ i < s + j
    · rw [if_pos c, if_pos ⟨c.1, by omega⟩]
    · rw [if_neg c, if_neg (fun h => by omega)]
theorem m_writesNumber {r d : Nat → Int32} {s n : Nat} (hM : MoAt (mT M) (mR M) 1020) (hs : s + (dg n).length ≤ 400) (hn : n < 2147483648) : Cv g Y_Mo_writesNumber 1 [.ref 1020, .int (nI n)] (rpM M r d (nI s)) (fun M2 => ∃ d2, M2 = rpM M (wrF r s (dg n)) d2 (nI (s + (dg n).length))) := by
  have to0 := hM.1
  have rfdigits := MoAt.r hM 23 rfl
  have tfdigits := MoAt.t hM 23 rfl
  have hL := dg_le n
  generalize hLL : (dg n).length = L at *
  have h2 : ∀ j k (x2 : Option Value) (y3 : Int32) (dd : Nat → Int32), k + j = L → (∀ q, q < L → dd q = nI ((dg n).getD (L - 1 - q) 0)) → ∀ x4 : Int32, (∀ q, k = q + 1 → x4 = nI q) → (k = 0 → x4 = -1) → Wp g Y_Mo_writesNumber 1 35 [some (.ref 1020), some (.int (nI n)), x2, some (.int y3), some (.int x4)] [] (rpM M (wr2 r s (dg n) j) dd (nI (s + j))) (fun y M2 => y = none ∧ ∃ d2, M2 = rpM M (wrF r s (dg n)) d2 (nI (s + L))) := by
    intro j k
    induction k generalizing j with
    | zero =>
      intro x2 y3 dd h1 hd x4 hx hx0
      obtain rfl : j = L := by omega
      obtain rfl := hx0 rfl
      refine wp_iload rfl (ck_get kk_Mo_writesNumber 25 rfl) ?_
      refine wp_if_lt (t := 57) (ck_get kk_Mo_writesNumber 26 rfl) (by decide) (fun hc37 => ?_) (fun hc37 => ?_)
      · refine wp_return (ck_get kk_Mo_writesNumber 35 rfl) rfl ⟨rfl, ?_⟩
        refine ⟨dd, ?_⟩
        subst hLL
        rfl
      · exact absurd (by decide) hc37
    | succ k ih =>
      intro x2 y3 dd h1 hd x4 hx hx0
      obtain rfl := hx k rfl
      have hv : mI (rpM M (wr2 r s (dg n) j) dd (nI (s + j))) 1044 k = nI ((dg n).getD j 0) := by
        rw [rp_d, hd k (by omega), show L - 1 - k = j by omega]
      have hch : (dg n).getD j 0 < 128 := by
        rw [List.getD_eq_getElem?_getD, List.getElem?_eq_getElem (by omega)]
        have := dg_c (List.getElem_mem (l := dg n) (n := j) (by omega))
        show (dg n)[j] < 128
        omega
      refine wp_iload rfl (ck_get kk_Mo_writesNumber 25 rfl) ?_
      first | refine wp_if_ltN (t := 57) (ck_get kk_Mo_writesNumber 26 rfl) (by decide) (by omega) (fun hc37 => ?_) (fun hc37 => ?_) | refine wp_if_lt (t := 57) (ck_get kk_Mo_writesNumber 26 rfl) (by decide) (fun hc37 => ?_) (fun hc37 => ?_)
      · exact hc37.elim
      · refine wp_aload_n rfl (ck_get kk_Mo_writesNumber 27 rfl) ?_
        refine wp_aload_n rfl (ck_get kk_Mo_writesNumber 28 rfl) ?_
        refine wp_getR (ck_get kk_Mo_writesNumber 29 rfl) fl_Mo_100 (by assumption) (by assumption) ?_
        refine wp_iload rfl (ck_get kk_Mo_writesNumber 30 rfl) ?_
        first | refine wp_bald (ck_get kk_Mo_writesNumber 31 rfl) (by assumption) (ixk_nI (k := k) (by omega) (by omega)) ?_ | refine wp_zald (ck_get kk_Mo_writesNumber 31 rfl) (by assumption) (ixk_nI (k := k) (by omega) (by omega)) ?_
        rw [hv]
        refine wp_cV1v (ck_get kk_Mo_writesNumber 32 rfl) ml_Mo_430 (by omega) (Nat.le_of_ble_eq_true rfl) (by assumption) (Cv.to (m_writes (by exact hM) (by omega) hch) ?_)
        rintro M1 w1
        subst w1
        rw [wr2_st]
        refine wp_iinc (ck_get kk_Mo_writesNumber 33 rfl) rfl (by decide) rfl ?_
        refine wp_goto (t := 35) (ck_get kk_Mo_writesNumber 34 rfl) (by decide) ?_
        refine ih (j + 1) _ _ dd (by omega) hd _ (fun q e => ?_) (fun e => ?_)
        · subst e
          exact (nI_dec' q)
        · subst e
          decide
  have h1 : ∀ m k (dd : Nat → Int32), m < 2147483648 → L = (dg m).length + k → (∀ i, i < (dg m).length → (dg n).getD i 0 = (dg m).getD i 0) → (∀ q, q < k → dd q = nI ((dg n).getD (L - 1 - q) 0)) → Wp g Y_Mo_writesNumber 1 4 [some (.ref 1020), some (.int (nI n)), some (.int (nI m)), some (.int (nI k)), none] [] (rpM M r dd (nI s)) (fun y M2 => y = none ∧ ∃ d2, M2 = rpM M (wrF r s (dg n)) d2 (nI (s + L))) := by
    intro m
    induction m using Nat.strongRecOn with
    | ind m ih =>
      intro k dd hm hk hp hd
      have hp1 := dg_pos m
      have hla := dg_last m (by omega)
      have hd2 : ∀ q, q < k + 1 → up1 dd k (nI (48 + m % 10)) q = nI ((dg n).getD (L - 1 - q) 0) := fun q hq => by
        by_cases e : q = k
        · subst e
          rw [up1_eq, show L - 1 - q = (dg m).length - 1 by omega, hp _ (by omega), hla]
        · rw [up1_ne e]; exact hd q (by omega)
      by_cases c : m < 10
      · have e1 : (dg m).length = 1 := by rw [dg_lt c]; rfl
        refine wp_aload_n rfl (ck_get kk_Mo_writesNumber 4 rfl) ?_
        refine wp_getR (ck_get kk_Mo_writesNumber 5 rfl) fl_Mo_100 (by assumption) (by assumption) ?_
        refine wp_iload_n rfl (ck_get kk_Mo_writesNumber 6 rfl) ?_
        refine wp_bipush (v := nI 48) (by decide) (ck_get kk_Mo_writesNumber 7 rfl) ?_
        refine wp_iload_n rfl (ck_get kk_Mo_writesNumber 8 rfl) ?_
        refine wp_bipush (v := nI 10) (by decide) (ck_get kk_Mo_writesNumber 9 rfl) ?_
        first | refine wp_iremN (ck_get kk_Mo_writesNumber 10 rfl) (by omega) (by omega) (by omega) ?_ | refine wp_irem (by decide) (ck_get kk_Mo_writesNumber 10 rfl) ?_
        first | refine wp_iaddN (ck_get kk_Mo_writesNumber 11 rfl) ?_ | refine wp_iadd (ck_get kk_Mo_writesNumber 11 rfl) ?_
        refine wp_i2b (ck_get kk_Mo_writesNumber 12 rfl) ?_
        rw [b8 (by omega)]
        first | refine wp_bast (ck_get kk_Mo_writesNumber 13 rfl) (by assumption) (ixk_nI (k := k) (by omega) (by omega)) ?_ | refine wp_zast (ck_get kk_Mo_writesNumber 13 rfl) (by assumption) (ixk_nI (k := k) (by omega) (by omega)) ?_
        rw [b8 (by omega), rp_sd]
        refine wp_iload_n rfl (ck_get kk_Mo_writesNumber 14 rfl) ?_
        refine wp_bipush (v := nI 10) (by decide) (ck_get kk_Mo_writesNumber 15 rfl) ?_
        first | refine wp_idivN (ck_get kk_Mo_writesNumber 16 rfl) (by omega) (by omega) (by omega) ?_ | refine wp_idiv (by decide) (ck_get kk_Mo_writesNumber 16 rfl) ?_
        refine wp_istore_n (ck_get kk_Mo_writesNumber 17 rfl) (by decide) rfl ?_
        first | refine wp_iincN (ck_get kk_Mo_writesNumber 18 rfl) rfl (by decide) rfl ?_ | refine wp_iinc (ck_get kk_Mo_writesNumber 18 rfl) rfl (by decide) rfl ?_
        refine wp_iload_n rfl (ck_get kk_Mo_writesNumber 19 rfl) ?_
        first | refine wp_if_gtN (t := 4) (ck_get kk_Mo_writesNumber 20 rfl) (by decide) (by omega) (fun hc27 => ?_) (fun hc27 => ?_) | refine wp_if_gt (t := 4) (ck_get kk_Mo_writesNumber 20 rfl) (by decide) (fun hc27 => ?_) (fun hc27 => ?_)
        · omega
        · refine wp_iload_n rfl (ck_get kk_Mo_writesNumber 21 rfl) ?_
          refine wp_iconst (v := nI 1) (by decide) (ck_get kk_Mo_writesNumber 22 rfl) ?_
          first | refine wp_isubN (ck_get kk_Mo_writesNumber 23 rfl) (by omega) ?_ | refine wp_isub (ck_get kk_Mo_writesNumber 23 rfl) ?_
          refine wp_istore (ck_get kk_Mo_writesNumber 24 rfl) (by decide) rfl ?_
          have := h2 0 L (some (.int (nI (m / 10)))) (nI (k + 1)) _ (by omega) (fun q hq => hd2 q (by omega)) (nI k) (fun q e => by rw [show q = k by omega]) (fun e => by omega)
          rw [wr2_0] at this
          exact this
      · have e0 := dg_ge c (by omega)
        have e1 : (dg m).length = (dg (m / 10)).length + 1 := by rw [e0, List.length_append]; rfl
        refine wp_aload_n rfl (ck_get kk_Mo_writesNumber 4 rfl) ?_
        refine wp_getR (ck_get kk_Mo_writesNumber 5 rfl) fl_Mo_100 (by assumption) (by assumption) ?_
        refine wp_iload_n rfl (ck_get kk_Mo_writesNumber 6 rfl) ?_
        refine wp_bipush (v := nI 48) (by decide) (ck_get kk_Mo_writesNumber 7 rfl) ?_
        refine wp_iload_n rfl (ck_get kk_Mo_writesNumber 8 rfl) ?_
        refine wp_bipush (v := nI 10) (by decide) (ck_get kk_Mo_writesNumber 9 rfl) ?_
        first | refine wp_iremN (ck_get kk_Mo_writesNumber 10 rfl) (by omega) (by omega) (by omega) ?_ | refine wp_irem (by decide) (ck_get kk_Mo_writesNumber 10 rfl) ?_
        first | refine wp_iaddN (ck_get kk_Mo_writesNumber 11 rfl) ?_ | refine wp_iadd (ck_get kk_Mo_writesNumber 11 rfl) ?_
        refine wp_i2b (ck_get kk_Mo_writesNumber 12 rfl) ?_
        rw [b8 (by omega)]
        first | refine wp_bast (ck_get kk_Mo_writesNumber 13 rfl) (by assumption) (ixk_nI (k := k) (by omega) (by omega)) ?_ | refine wp_zast (ck_get kk_Mo_writesNumber 13 rfl) (by assumption) (ixk_nI (k := k) (by omega) (by omega)) ?_
        rw [b8 (by omega), rp_sd]
        refine wp_iload_n rfl (ck_get kk_Mo_writesNumber 14 rfl) ?_
        refine wp_bipush (v := nI 10) (by decide) (ck_get kk_Mo_writesNumber 15 rfl) ?_
        first | refine wp_idivN (ck_get kk_Mo_writesNumber 16 rfl) (by omega) (by omega) (by omega) ?_ | refine wp_idiv (by decide) (ck_get kk_Mo_writesNumber 16 rfl) ?_
        refine wp_istore_n (ck_get kk_Mo_writesNumber 17 rfl) (by decide) rfl ?_
        first | refine wp_iincN (ck_get kk_Mo_writesNumber 18 rfl) rfl (by decide) rfl ?_ | refine wp_iinc (ck_get kk_Mo_writesNumber 18 rfl) rfl (by decide) rfl ?_
        refine wp_iload_n rfl (ck_get kk_Mo_writesNumber 19 rfl) ?_
        first | refine wp_if_gtN (t := 4) (ck_get kk_Mo_writesNumber 20 rfl) (by decide) (by omega) (fun hc27 => ?_) (fun hc27 => ?_) | refine wp_if_gt (t := 4) (ck_get kk_Mo_writesNumber 20 rfl) (by decide) (fun hc27 => ?_) (fun hc27 => ?_)
        · exact ih (m / 10) (by omega) (k + 1) _ (by omega) (by omega) (fun i hi => by rw [hp i (by omega), e0, gd_l hi]) hd2
        · omega
  refine cw_entry 3 pf_Mo_writesNumber rfl ?_
  refine wp_iload_n rfl (ck_get kk_Mo_writesNumber 0 rfl) ?_
  refine wp_istore_n (ck_get kk_Mo_writesNumber 1 rfl) (by decide) rfl ?_
  refine wp_iconst (v := nI 0) (by decide) (ck_get kk_Mo_writesNumber 2 rfl) ?_
  refine wp_istore_n (ck_get kk_Mo_writesNumber 3 rfl) (by decide) rfl ?_
  exact h1 n 0 d hn (by omega) (fun i _ => rfl) (fun q hq => absurd hq (Nat.not_lt_zero _))
theorem wrF_p0 {f : Nat → Int32} {l : List Nat} {a : Nat} : up1 (wrF f 0 l) l.length (nI a) = wrF f 0 (l ++ [a]) := by
  have h1 := wrF_app (f := f) (s := 0) (l := l) (r := [a])
  rw [Nat.zero_add] at h1
  rw [← h1]
  funext j
  by_cases q : j = l.length
  · subst q
    rw [up1_eq]
    exact (if_pos ⟨Nat.le_refl _, Nat.lt_succ_self _⟩).trans (by rw [Nat.sub_self]; rfl) |>.symm
  · rw [up1_ne q]
    exact (if_neg (fun h => by have : j < l.length + 1 := h.2; omega)).symm
theorem wrF_a0 {f : Nat → Int32} {l r : List Nat} : wrF (wrF f 0 l) l.length r = wrF f 0 (l ++ r) := by
  have h1 := wrF_app (f := f) (s := 0) (l := l) (r := r)
  rw [Nat.zero_add] at h1
  exact h1
theorem l_mrp {t n : Nat} {nb ms : Nat → Nat} {r0 : Nat → Int32} (hM : MoAt (mT M) (mR M) 1020) (ht : t < 4) (hn : n ≤ 25) (hn0 : mI M 1042 t = nI n) (hbe : ∀ i, i < n → mI M 1041 (25 * t + i) = nI (nb i)) (hmi : ∀ c, c < 25 → mI M 1040 (25 * t + c) = nI (ms c)) (hnb : ∀ i, i < n → nb i ≤ 24) (hms : ∀ c, c < 25 → ms c < 2147483648) : ∀ k i (x3 : Option Value) (d : Nat → Int32), i + k = n → Wp g Y_Mo_report 300 21 [some (.ref 1020), some (.int (nI t)), some (.int (nI i)), x3] [] (rpM M (wrF r0 0 (rpL nb ms i)) d (nI (rpL nb ms i).length)) (fun y M2 => ∃ x, y = some (.int x) ∧ x = nI (rpL nb ms n ++ [46]).length ∧ ∃ d2, M2 = rpM M (wrF r0 0 (rpL nb ms n ++ [46])) d2 (nI (rpL nb ms n ++ [46]).length)) := by
  have to0 := hM.1
  have rfbends := MoAt.r hM 20 rfl
  have tfbends := MoAt.t hM 20 rfl
  have rfbendMany := MoAt.r hM 21 rfl
  have tfbendMany := MoAt.t hM 21 rfl
  have q42 : ∀ (r d : Nat → Int32) (m : Int32), mI (rpM M r d m) 1042 t = nI n := fun r d m => by rw [rp_o (by omega) (by omega) (by omega)]; exact hn0
  intro k
  induction k with
  | zero =>
    intro i x3 d h1
    obtain rfl : i = n := by omega
    have hl := rpL_len (ms := ms) hnb i (Nat.le_refl _)
    refine wp_iload_n rfl (ck_get kk_Mo_report 13 rfl) ?_
    refine wp_aload_n rfl (ck_get kk_Mo_report 14 rfl) ?_
    refine wp_getR (ck_get kk_Mo_report 15 rfl) fl_Mo_94 (by assumption) (by assumption) ?_
    refine wp_iload_n rfl (ck_get kk_Mo_report 16 rfl) ?_
    refine wp_ialdv (v := nI i) (ck_get kk_Mo_report 17 rfl) (by assumption) (ixk_nI (k := t) (by omega) (by omega)) (q42 _ _ _) ?_
    first | refine wp_icmp_geN (t := 80) (ck_get kk_Mo_report 18 rfl) (by decide) (by omega) (by omega) (fun hc28 => ?_) (fun hc28 => ?_) | refine wp_icmp_ge (t := 80) (ck_get kk_Mo_report 18 rfl) (by decide) (fun hc28 => ?_) (fun hc28 => ?_)
    · refine wp_aload_n rfl (ck_get kk_Mo_report 47 rfl) ?_
      refine wp_bipush (v := nI 46) (by decide) (ck_get kk_Mo_report 48 rfl) ?_
      refine wp_cV1v (ck_get kk_Mo_report 49 rfl) ml_Mo_430 (by omega) (Nat.le_of_ble_eq_true rfl) (by assumption) (Cv.to (m_writes (by exact hM) (by omega) (by decide)) ?_)
      rintro M1 w1
      subst w1
      rw [wrF_p0]
      refine wp_aload_n rfl (ck_get kk_Mo_report 50 rfl) ?_
      refine wp_getIv (v := nI ((rpL nb ms i).length + 1)) (ck_get kk_Mo_report 51 rfl) fl_Mo_427 (by assumption) ((by rw [rp_n, up1_eq])) ?_
      refine wp_ireturn (ck_get kk_Mo_report 52 rfl) rfl rfl ⟨_, rfl, ?_⟩
      rw [List.length_append]; exact ⟨rfl, d, rfl⟩
    · omega
  | succ k ih =>
    intro i x3 d h1
    have hl := rpL_len (ms := ms) hnb i (by omega)
    have hb := hnb i (by omega)
    have hmb := hms (nb i) (by omega)
    have hd2 := dg_2 (n := nb i) (by omega)
    have hd3 := dg_le (ms (nb i))
    have hif : (if 0 < i then [44] else ([] : List Nat)).length ≤ 1 := by split <;> simp
    have h41 : ∀ (d : Nat → Int32) l, l = rpL nb ms i ++ (if 0 < i then [44] else []) → Wp g Y_Mo_report 300 41 [some (.ref 1020), some (.int (nI t)), some (.int (nI i)), x3] [] (rpM M (wrF r0 0 l) d (nI l.length)) (fun y M2 => ∃ x, y = some (.int x) ∧ x = nI (rpL nb ms n ++ [46]).length ∧ ∃ d2, M2 = rpM M (wrF r0 0 (rpL nb ms n ++ [46])) d2 (nI (rpL nb ms n ++ [46]).length)) := by
      intro d l hl0
      have e1 : l.length ≤ 14 * i + 1 := by rw [hl0, List.length_append]; omega
      have e2 : (l ++ dg (nb i)).length = l.length + (dg (nb i)).length := List.length_append
      have e3 : (l ++ dg (nb i) ++ [58]).length = l.length + (dg (nb i)).length + 1 := by rw [List.length_append, List.length_append]; rfl
      have e4 : rpL nb ms (i + 1) = l ++ dg (nb i) ++ [58] ++ dg (ms (nb i)) := by rw [hl0]; rfl
      have e5 : (rpL nb ms (i + 1)).length = (l ++ dg (nb i) ++ [58]).length + (dg (ms (nb i))).length := by rw [e4, List.length_append]
      have qb : ∀ (r d : Nat → Int32) (m : Int32), mI (rpM M r d m) 1041 (25 * t + i) = nI (nb i) := fun r d m => by rw [rp_o (by omega) (by omega) (by omega)]; exact hbe i (by omega)
      refine wp_aload_n rfl (ck_get kk_Mo_report 24 rfl) ?_
      refine wp_getR (ck_get kk_Mo_report 25 rfl) fl_Mo_91 (by assumption) (by assumption) ?_
      refine wp_bipush (v := nI 25) (by decide) (ck_get kk_Mo_report 26 rfl) ?_
      refine wp_iload_n rfl (ck_get kk_Mo_report 27 rfl) ?_
      first | refine wp_imulN (ck_get kk_Mo_report 28 rfl) ?_ | refine wp_imul (ck_get kk_Mo_report 28 rfl) ?_
      refine wp_iload_n rfl (ck_get kk_Mo_report 29 rfl) ?_
      first | refine wp_iaddN (ck_get kk_Mo_report 30 rfl) ?_ | refine wp_iadd (ck_get kk_Mo_report 30 rfl) ?_
      refine wp_ialdv (v := nI (nb i)) (ck_get kk_Mo_report 31 rfl) (by assumption) (ixk_nI (k := 25 * t + i) (by omega) (by omega)) (qb _ _ _) ?_
      refine wp_istore_n (ck_get kk_Mo_report 32 rfl) (by decide) rfl ?_
      refine wp_aload_n rfl (ck_get kk_Mo_report 33 rfl) ?_
      refine wp_iload_n rfl (ck_get kk_Mo_report 34 rfl) ?_
      refine wp_cV1v (ck_get kk_Mo_report 35 rfl) ml_Mo_433 (by omega) (Nat.le_of_ble_eq_true rfl) (by assumption) (Cv.to (m_writesNumber (by exact hM) (by omega) (by omega)) ?_)
      rintro M1 ⟨d1, w1⟩
      subst w1
      rw [wrF_a0, ← e2]
      refine wp_aload_n rfl (ck_get kk_Mo_report 36 rfl) ?_
      refine wp_bipush (v := nI 58) (by decide) (ck_get kk_Mo_report 37 rfl) ?_
      refine wp_cV1v (ck_get kk_Mo_report 38 rfl) ml_Mo_430 (by omega) (Nat.le_of_ble_eq_true rfl) (by assumption) (Cv.to (m_writes (by exact hM) (by omega) (by decide)) ?_)
      rintro M1 w1
      subst w1
      rw [wrF_p0, show (l ++ dg (nb i)).length + 1 = (l ++ dg (nb i) ++ [58]).length by omega]
      refine wp_aload_n rfl (ck_get kk_Mo_report 39 rfl) ?_
      refine wp_aload_n rfl (ck_get kk_Mo_report 40 rfl) ?_
      refine wp_iload_n rfl (ck_get kk_Mo_report 41 rfl) ?_
      refine wp_iload_n rfl (ck_get kk_Mo_report 42 rfl) ?_
      refine wp_cV2i (ck_get kk_Mo_report 43 rfl) ml_Mo_410 (by omega) (Nat.le_of_ble_eq_true rfl) (by assumption) (Ci.to (m_missAt (t := t) (c := nb i) (by exact hM) ht (by omega)) ?_)
      rintro x M1 ⟨w1, w2⟩
      rw [rp_o (by omega) (by omega) (by omega), hmi (nb i) (by omega)] at w1
      subst w1
      subst w2
      refine wp_cV1v (ck_get kk_Mo_report 44 rfl) ml_Mo_433 (by omega) (Nat.le_of_ble_eq_true rfl) (by assumption) (Cv.to (m_writesNumber (by exact hM) (by omega) hmb) ?_)
      rintro M1 ⟨d2, w1⟩
      subst w1
      rw [wrF_a0, ← e4, ← e5]
      first | refine wp_iincN (ck_get kk_Mo_report 45 rfl) rfl (by decide) rfl ?_ | refine wp_iinc (ck_get kk_Mo_report 45 rfl) rfl (by decide) rfl ?_
      refine wp_goto (t := 21) (ck_get kk_Mo_report 46 rfl) (by decide) ?_
      exact ih (i + 1) _ d2 (by omega)
    refine wp_iload_n rfl (ck_get kk_Mo_report 13 rfl) ?_
    refine wp_aload_n rfl (ck_get kk_Mo_report 14 rfl) ?_
    refine wp_getR (ck_get kk_Mo_report 15 rfl) fl_Mo_94 (by assumption) (by assumption) ?_
    refine wp_iload_n rfl (ck_get kk_Mo_report 16 rfl) ?_
    refine wp_ialdv (v := nI n) (ck_get kk_Mo_report 17 rfl) (by assumption) (ixk_nI (k := t) (by omega) (by omega)) (q42 _ _ _) ?_
    first | refine wp_icmp_geN (t := 80) (ck_get kk_Mo_report 18 rfl) (by decide) (by omega) (by omega) (fun hc28 => ?_) (fun hc28 => ?_) | refine wp_icmp_ge (t := 80) (ck_get kk_Mo_report 18 rfl) (by decide) (fun hc28 => ?_) (fun hc28 => ?_)
    · omega
    · refine wp_iload_n rfl (ck_get kk_Mo_report 19 rfl) ?_
      first | refine wp_if_leN (t := 41) (ck_get kk_Mo_report 20 rfl) (by decide) (by omega) (fun hc32 => ?_) (fun hc32 => ?_) | refine wp_if_le (t := 41) (ck_get kk_Mo_report 20 rfl) (by decide) (fun hc32 => ?_) (fun hc32 => ?_)
      · refine h41 d _ ?_
        rw [if_neg (by omega), List.append_nil]
      · refine wp_aload_n rfl (ck_get kk_Mo_report 21 rfl) ?_
        refine wp_bipush (v := nI 44) (by decide) (ck_get kk_Mo_report 22 rfl) ?_
        refine wp_cV1v (ck_get kk_Mo_report 23 rfl) ml_Mo_430 (by omega) (Nat.le_of_ble_eq_true rfl) (by assumption) (Cv.to (m_writes (by exact hM) (by omega) (by decide)) ?_)
        rintro M1 w1
        subst w1
        rw [wrF_p0]
        have := h41 d (rpL nb ms i ++ [44]) (by rw [if_pos (by omega)])
        rw [List.length_append] at this
        exact this
theorem MR.rp {z : ST} {r d : Nat → Int32} {rp : List Nat} (h : MR z M) (hr : ∀ i, i < rp.length → r i = nI (rp.getD i 0)) : MR (zRp z rp) (rpM M r d (nI rp.length)) := by
  obtain ⟨hM, h1, h2, h3, h4, h5, h6, h7⟩ := h
  have eF : ∀ k, k ≠ 42 → mI (rpM M r d (nI rp.length)) 1020 k = mI M 1020 k := fun k q => by rw [rp_n, up1_ne q]
  have eI : ∀ x, x ≠ 1043 → x ≠ 1044 → x ≠ 1020 → mI (rpM M r d (nI rp.length)) x = mI M x := fun x q1 q2 q3 => rp_o q1 q2 q3
  refine ⟨hM, ?_, ?_, ?_, ?_, ?_, ?_, ?_⟩
  · rw [eI 1022 (by omega) (by omega) (by omega)]; exact h1
  · show MRu (mI (rpM M r d (nI rp.length))) (mJ M) (zU z)
    unfold MRu at h2 ⊢
    rw [eF 36 (by omega), eI 1036 (by omega) (by omega) (by omega)]; exact h2
  · show MRi (mI (rpM M r d (nI rp.length))) (mJ M) (zI z)
    unfold MRi at h3 ⊢
    rw [eI 1024 (by omega) (by omega) (by omega), eI 1026 (by omega) (by omega) (by omega)]; exact h3
  · show MRd (mI (rpM M r d (nI rp.length))) (zD z)
    unfold MRd at h4 ⊢
    rw [eF 62 (by omega), eI 1055 (by omega) (by omega) (by omega)]; exact h4
  · show MRp (mI (rpM M r d (nI rp.length))) (zT z)
    unfold MRp at h5 ⊢
    rw [eF 16 (by omega), eI 1030 (by omega) (by omega) (by omega), eI 1029 (by omega) (by omega) (by omega)]; exact h5
  · show MRn (mI (rpM M r d (nI rp.length))) z
    obtain ⟨a1, a2, a3, a4, a5, a6⟩ := h6
    refine ⟨by rw [eF 9 (by omega)]; exact a1, by rw [eF 54 (by omega)]; exact a2, by rw [eF 0 (by omega)]; exact a3, by rw [eF 17 (by omega)]; exact a4, by rw [eF 27 (by omega)]; exact a5, by rw [eI 1021 (by omega) (by omega) (by omega)]; exact a6⟩
  · show MRb (mI (rpM M r d (nI rp.length))) rp
    unfold MRb
    rw [rp_n, rp_r, up1_eq]
    exact ⟨rfl, hr⟩
theorem CSame.rp {r d : Nat → Int32} {n : Int32} : CSame M (rpM M r d n) := CSame.mk2 (fun x q => ⟨by rw [up1_ne (by omega), up1_ne (by omega), up1_ne (by omega)], rfl⟩)
theorem MSame.cu' {j : Nat → Int64} {b r : Nat → Int32} : MSame M (cuM M j b r) := MSame.cu
theorem b_report {a : Int32} (hP : PvOK g) (hS : StrOK g) (hD : DgOK g) : Both g Y_Mc_report Y_Mo_report [.int a] := by
  intro c z hc hO
  have hB : tot (sWo (zS z)) ≤ 400000000 := by
    have h1 : tot (sWo (zS z)) ≤ bC c := hO.1.2.1
    have h2 : bC c < 400000000 := by unfold bC; omega
    omega
  by_cases hin : inB a 4 = true
  · obtain ⟨t, ht, rfl⟩ := inB_t hin (by omega)
    have hl := nbL_ok (f := mz (sWo (zS z)) t)
    have hnb : ∀ i, i < nbL (mz (sWo (zS z)) t) + 1 → nbI (mz (sWo (zS z)) t) i ≤ 24 := fun i hi => by
      rcases Nat.lt_or_ge i (nbL (mz (sWo (zS z)) t)) with q | q
      · have := nb_mono (f := mz (sWo (zS z)) t) q
        omega
      · rw [show i = nbL (mz (sWo (zS z)) t) by omega, hl.1]; omega
    have hms : ∀ c, c < 25 → msN (sWo (zS z)) t c < 2147483648 := fun c hc => by
      have h1 := msN_le (w := sWo (zS z)) (t := t) hc
      have h2 : sTo (sWo (zS z)) t ≤ tot (sWo (zS z)) := smN_at (f := fun t => smN (tCo ((sWo (zS z)).2 t)) 25) ht
      omega
    have hlen := rpL_len (ms := msN (sWo (zS z)) t) hnb _ (Nat.le_refl _)
    generalize hR : rpL (nbI (mz (sWo (zS z)) t)) (msN (sWo (zS z)) t) (nbL (mz (sWo (zS z)) t) + 1) ++ [46] = R
    have hRl : R.length ≤ 400 := by
      rw [← hR, List.length_append, List.length_singleton]; omega
    have hRc : ∀ c ∈ R, c < 128 := fun c hc => by
      rw [← hR] at hc
      rcases List.mem_append.mp hc with q | q
      · exact rpL_c _ c q
      · have := List.mem_singleton.mp q
        omega
    refine ⟨nI R.length, zRp z R, ?_, fun M h => ?_, fun M h => ?_⟩
    · have hO1 := hO.le (c2 := c + 1) (by omega)
      exact ⟨hO1.1, hO1.2.1, hO1.2.2.1, hO1.2.2.2.1, hO1.2.2.2.2.1, hRl, fun i hi => hRc _ (by
        rw [List.getD_eq_getElem?_getD, List.getElem?_eq_getElem hi]
        exact List.getElem_mem _)⟩
    · have hCR := h
      have hC' := h.le (Nat.le_succ c)
      obtain ⟨pf, pg, hL, hSC, hTC, hIC, hDC, hPC, hNC, hBC, hZC⟩ := h
      obtain ⟨t0, ⟨r00, hSh⟩, ⟨r01, hTr⟩, ⟨r02, hTg⟩, ⟨r03, hWa⟩, ⟨r04, hWp⟩, ⟨r06, t921, r921a, r921b, hS0, hS1⟩, ⟨r07, t922⟩, ⟨r08, t923⟩, ⟨r010, hPa⟩, ⟨r011, hJu⟩, ⟨r012, hRe⟩, ⟨r013, hCu⟩, ⟨r014, hDe⟩, ⟨r018, t959⟩, hPf⟩ := id hL
      have t1 : mT M 1 = (6, 0) := hSh.1
      have r10 : mR M 1 0 = some 2 := hSh.2.1
      have hW2 : WoAt (mT M) (mR M) 2 := hSh.2.2.1
      have t2 : mT M 2 = (9, 0) := hW2.1
      have r20 : mR M 2 0 = some 3 := hW2.2.1
      have t3 : mT M 3 = (24, 4) := hW2.2.2.1
      have t31 : mT M 31 = (8, 0) := hTr.1
      have t924 : mT M 924 = (3, 0) := hPa.1
      have t934 : mT M 934 = (2, 0) := hJu.1
      have t938 : mT M 938 = (5, 0) := hRe.1
      have t947 : mT M 947 = (0, 0) := hCu.1
      have t952 : mT M 952 = (1, 0) := hDe.1
      have rTe : mR M 3 t = some (4 + 6 * t) := (hW2.2.2.2 t ht).1
      have hTA : TeAt (mT M) (mR M) (4 + 6 * t) := (hW2.2.2.2 t ht).2
      have hTH : TeHas (mI M) (mJ M) (4 + 6 * t) ((sWo (zS z)).2 t) := hSC.1.2 t ht
      have tTe := hTA.1
      refine cw_entry 0 pf_Mc_report rfl ?_
      refine wp_iload_n rfl (ck_get kk_Mc_report 0 rfl) ?_
      refine wp_cS1i (ck_get kk_Mc_report 1 rfl) ml_Mc_103 (by omega) (Nat.le_of_ble_eq_true rfl) (Ci.to (c_isTenant) ?_)
      rintro _ M1 ⟨rfl, eqm1⟩
      obtain rfl := eqm1.symm
      rw [hin]
      first | refine wp_if_neN (t := 9) (ck_get kk_Mc_report 2 rfl) (by decide) (by omega) (fun hc4 => ?_) (fun hc4 => ?_) | refine wp_if_ne (t := 9) (ck_get kk_Mc_report 2 rfl) (by decide) (fun hc4 => ?_) (fun hc4 => ?_)
      · refine wp_aload_n rfl (ck_get kk_Mc_report 5 rfl) ?_
        refine wp_getR (ck_get kk_Mc_report 6 rfl) fl_Mc_80 (by assumption) (by assumption) ?_
        refine wp_aload_n rfl (ck_get kk_Mc_report 7 rfl) ?_
        refine wp_getR (ck_get kk_Mc_report 8 rfl) fl_Mc_12 (by assumption) (by assumption) ?_
        refine wp_getR (ck_get kk_Mc_report 9 rfl) fl_Mc_107 (by assumption) (by assumption) ?_
        refine wp_getR (ck_get kk_Mc_report 10 rfl) fl_Mc_110 (by assumption) (by assumption) ?_
        refine wp_iload_n rfl (ck_get kk_Mc_report 11 rfl) ?_
        refine wp_aald (ck_get kk_Mc_report 12 rfl) (by assumption) (by first | assumption | exact ixk_nI (by omega) (by omega)) (by assumption) ?_
        refine wp_cV1v (ck_get kk_Mc_report 13 rfl) ml_Mc_283 (by omega) (Nat.le_of_ble_eq_true rfl) (by assumption) (Cv.to (c_load (t := t) (w := sWo (zS z)) (by exact hW2) (by exact hSC.1) (by exact hCu) ht hB) ?_)
        rintro M1 ⟨j, b2, r, w1, w2, w3, w4⟩
        subst w1
        have hC1 : CR (c + 1) z (cuM M j b2 r) := hCR.cu
        obtain ⟨v, cap, hV⟩ := hC1.sbV
        have hW1 : CuW (cuM M j b2 r) (nbL (mz (sWo (zS z)) t) + 1) (nbI (mz (sWo (zS z)) t)) (msN (sWo (zS z)) t) := ⟨hCu, by rw [cu_r]; exact w4, fun i hi => by rw [cu_b]; exact w3 i (by omega), fun c hc => by rw [cu_j]; exact w2 c hc, fun v0 e => by
          obtain ⟨v9, cap9, g1, g2, g3, -⟩ := hBC
          obtain rfl := Option.some.inj (g1.symm.trans e)
          exact g3⟩
        refine wp_aload_n rfl (ck_get kk_Mc_report 14 rfl) ?_
        refine wp_getR (ck_get kk_Mc_report 15 rfl) fl_Mc_80 (by assumption) (by assumption) ?_
        refine wp_cV0i (ck_get kk_Mc_report 16 rfl) ml_Mc_297 (by omega) (Nat.le_of_ble_eq_true rfl) (by assumption) (Ci.to (c_writeReport hP hS hD hW1 (by omega) hnb hms hV (by have := hO.2.2.2.2.2.1; omega)) ?_)
        rintro x M2 ⟨w5, v3, cap3, w6⟩
        rw [hR] at w5 w6
        refine wp_ireturn (ck_get kk_Mc_report 17 rfl) rfl rfl ⟨_, rfl, ?_⟩
        have hq := CR.sb (c := c) hC1 hZC w6
        exact ⟨w5, hq.1, MSame.cu.trans hq.2⟩
      · exact absurd hc4 (by decide)
    · skip
      obtain ⟨hM, hSM, hUM, hIM, hDM, hPM, hNM, hBM⟩ := id h
      have to0 := hM.1
      have rfbends := MoAt.r hM 20 rfl
      have tfbends := MoAt.t hM 20 rfl
      have rfbendMany := MoAt.r hM 21 rfl
      have tfbendMany := MoAt.t hM 21 rfl
      have hid := m_laysBends (g := g) (M := M) (f0 := mI M 1040) (b0 := mI M 1041) (n0 := mI M 1042) hM hSM.1 ht hB
      rw [be_id] at hid
      refine cw_entry 2 pf_Mo_report rfl ?_
      refine wp_iload_n rfl (ck_get kk_Mo_report 0 rfl) ?_
      refine wp_cS1i (ck_get kk_Mo_report 1 rfl) ml_Mo_152 (by omega) (Nat.le_of_ble_eq_true rfl) (Ci.to (m_isTenant) ?_)
      rintro _ M1 ⟨rfl, eqm1⟩
      obtain rfl := eqm1.symm
      rw [hin]
      first | refine wp_if_neN (t := 9) (ck_get kk_Mo_report 2 rfl) (by decide) (by omega) (fun hc4 => ?_) (fun hc4 => ?_) | refine wp_if_ne (t := 9) (ck_get kk_Mo_report 2 rfl) (by decide) (fun hc4 => ?_) (fun hc4 => ?_)
      · refine wp_aload_n rfl (ck_get kk_Mo_report 5 rfl) ?_
        refine wp_iload_n rfl (ck_get kk_Mo_report 6 rfl) ?_
        refine wp_cV1v (ck_get kk_Mo_report 7 rfl) ml_Mo_424 (by omega) (Nat.le_of_ble_eq_true rfl) (by assumption) (Cv.to (hid) ?_)
        rintro M1 ⟨b2, n2, w1, ⟨w2, w3⟩, -, -⟩
        have hM1 : MoAt (mT M1) (mR M1) 1020 := by rw [w1]; exact hM
        have hMR1 : MR z M1 := by rw [w1]; exact h.be
        have hCS1 : CSame M M1 := by rw [w1]; exact CSame.be
        have q1 : mI M1 1042 t = nI (nbL (mz (sWo (zS z)) t) + 1) := by rw [w1, be_n]; exact w2
        have q2 : ∀ i, i < nbL (mz (sWo (zS z)) t) + 1 → mI M1 1041 (25 * t + i) = nI (nbI (mz (sWo (zS z)) t) i) := fun i hi => by rw [w1, be_b]; exact w3 i (by omega)
        have q3 : ∀ c, c < 25 → mI M1 1040 (25 * t + c) = nI (msN (sWo (zS z)) t c) := fun c hc => by rw [w1, mf_40, lm_at hSM.1 ht hc, msW_nI]
        have t1 := hM1.1
        refine wp_aload_n rfl (ck_get kk_Mo_report 8 rfl) ?_
        refine wp_iconst (v := nI 0) (by decide) (ck_get kk_Mo_report 9 rfl) ?_
        refine wp_putI (ck_get kk_Mo_report 10 rfl) fl_Mo_427 (by decide +kernel) (by assumption) (okI_int _) ?_
        refine wp_iconst (v := nI 0) (by decide) (ck_get kk_Mo_report 11 rfl) ?_
        refine wp_istore_n (ck_get kk_Mo_report 12 rfl) (by decide) rfl ?_
        have e1 : sI M1 1020 42 (nI 0) = rpM M1 (wrF (mI M1 1043) 0 (rpL (nbI (mz (sWo (zS z)) t)) (msN (sWo (zS z)) t) 0)) (mI M1 1044) (nI (rpL (nbI (mz (sWo (zS z)) t)) (msN (sWo (zS z)) t) 0).length) := by
          show _ = rpM M1 (wrF (mI M1 1043) 0 []) (mI M1 1044) (nI 0)
          rw [wrF_nil, ← rp_sn (n := mI M1 1020 42), rp_id]
        rw [e1]
        refine Wp.mono (l_mrp (g := g) (r0 := mI M1 1043) hM1 ht (by omega) q1 q2 q3 hnb hms (nbL (mz (sWo (zS z)) t) + 1) 0 none (mI M1 1044) (by omega)) ?_
        rintro y M2 ⟨x, rfl, rfl, d2, rfl⟩
        rw [hR]
        refine ⟨_, rfl, rfl, hMR1.rp (fun i hi => ?_), hCS1.trans CSame.rp⟩
        have := wrF_at (f := mI M1 1043) (s := 0) hi
        rw [Nat.zero_add] at this
        exact this
      · exact absurd hc4 (by decide)
  · have hin2 : inB a 4 = false := by simpa using hin
    refine ⟨-1, z, hO.le (by omega), fun M h => ?_, fun M h => ?_⟩
    · skip
      have hC' := h.le (Nat.le_succ c)
      obtain ⟨pf, pg, hL, hSC, hTC, hIC, hDC, hPC, hNC, hBC, hZC⟩ := h
      obtain ⟨t0, ⟨r00, hSh⟩, ⟨r01, hTr⟩, ⟨r02, hTg⟩, ⟨r03, hWa⟩, ⟨r04, hWp⟩, ⟨r06, t921, r921a, r921b, hS0, hS1⟩, ⟨r07, t922⟩, ⟨r08, t923⟩, ⟨r010, hPa⟩, ⟨r011, hJu⟩, ⟨r012, hRe⟩, ⟨r013, hCu⟩, ⟨r014, hDe⟩, ⟨r018, t959⟩, hPf⟩ := id hL
      have t1 : mT M 1 = (6, 0) := hSh.1
      have r10 : mR M 1 0 = some 2 := hSh.2.1
      have hW2 : WoAt (mT M) (mR M) 2 := hSh.2.2.1
      have t2 : mT M 2 = (9, 0) := hW2.1
      have r20 : mR M 2 0 = some 3 := hW2.2.1
      have t3 : mT M 3 = (24, 4) := hW2.2.2.1
      have t31 : mT M 31 = (8, 0) := hTr.1
      have t924 : mT M 924 = (3, 0) := hPa.1
      have t934 : mT M 934 = (2, 0) := hJu.1
      have t938 : mT M 938 = (5, 0) := hRe.1
      have t947 : mT M 947 = (0, 0) := hCu.1
      have t952 : mT M 952 = (1, 0) := hDe.1
      refine cw_entry 0 pf_Mc_report rfl ?_
      refine wp_iload_n rfl (ck_get kk_Mc_report 0 rfl) ?_
      refine wp_cS1i (ck_get kk_Mc_report 1 rfl) ml_Mc_103 (by omega) (Nat.le_of_ble_eq_true rfl) (Ci.to (c_isTenant) ?_)
      rintro _ M1 ⟨rfl, eqm1⟩
      obtain rfl := eqm1.symm
      rw [hin2]
      first | refine wp_if_neN (t := 9) (ck_get kk_Mc_report 2 rfl) (by decide) (by omega) (fun hc4 => ?_) (fun hc4 => ?_) | refine wp_if_ne (t := 9) (ck_get kk_Mc_report 2 rfl) (by decide) (fun hc4 => ?_) (fun hc4 => ?_)
      · exact absurd (by decide) hc4
      · refine wp_iconst (v := (-1)) (by decide) (ck_get kk_Mc_report 3 rfl) ?_
        refine wp_ireturn (ck_get kk_Mc_report 4 rfl) rfl rfl ⟨_, rfl, ?_⟩
        exact ⟨rfl, hC', MSame.refl _⟩
    · skip
      obtain ⟨hM, hSM, hUM, hIM, hDM, hPM, hNM, hBM⟩ := id h
      refine cw_entry 2 pf_Mo_report rfl ?_
      refine wp_iload_n rfl (ck_get kk_Mo_report 0 rfl) ?_
      refine wp_cS1i (ck_get kk_Mo_report 1 rfl) ml_Mo_152 (by omega) (Nat.le_of_ble_eq_true rfl) (Ci.to (m_isTenant) ?_)
      rintro _ M1 ⟨rfl, eqm1⟩
      obtain rfl := eqm1.symm
      rw [hin2]
      first | refine wp_if_neN (t := 9) (ck_get kk_Mo_report 2 rfl) (by decide) (by omega) (fun hc4 => ?_) (fun hc4 => ?_) | refine wp_if_ne (t := 9) (ck_get kk_Mo_report 2 rfl) (by decide) (fun hc4 => ?_) (fun hc4 => ?_)
      · exact absurd (by decide) hc4
      · refine wp_iconst (v := (-1)) (by decide) (ck_get kk_Mo_report 3 rfl) ?_
        refine wp_ireturn (ck_get kk_Mo_report 4 rfl) rfl rfl ⟨_, rfl, ?_⟩
        exact ⟨rfl, h, CSame.refl _⟩
end RPM

/-! ===== MissCurves$Judge: evaluate's walk ===== -/
def JuAt (T : Nat → Nat × Nat) (R : Nat → Nat → Option Nat) (j : Nat) : Prop := T j = (2, 0) ∧ R j 2 = some (j + 1) ∧ T (j + 1) = (20, 11) ∧ R j 3 = some (j + 2) ∧ T (j + 2) = (20, 6) ∧ R j 4 = some (j + 3) ∧ T (j + 3) = (21, 64)
/-- a program's cells: itself, six rows of twelve, its code -/
def PrAt (T : Nat → Nat × Nat) (R : Nat → Nat → Option Nat) (p cn : Nat) : Prop := T p = (4, 0) ∧ (∀ k, 1 ≤ k → k ≤ 7 → R p k = some (p + k)) ∧ (∀ k, 1 ≤ k → k ≤ 6 → T (p + k) = (20, 12)) ∧ T (p + 7) = (20, cn)
section EW
variable {g : Gl} {M : Mem} {j p w cl cn vn : Nat}
abbrev evM (M : Mem) (j : Nat) (S : Nat → Int64) : Mem := mk2 M (mI M) (up1 (mJ M) (j + 3) S)
abbrev evQ (M : Mem) (j : Nat) (v : Int64) : Option Value → Mem → Prop := fun r M2 => ∃ x, r = some (.long x) ∧ x = v ∧ ∃ S2, M2 = evM M j S2
theorem l_ev301 {x2 x6 x7 x8 x9 : Option Value} {sz i : Nat} {N : Mem} {Q : Option Value → Mem → Prop} (K : Wp g Y_Ju_evaluate 1 10 [some (.ref j), some (.ref p), x2, some (.ref w), some (.int (nI sz)), some (.int (nI (i + 2))), x6, x7, x8, x9] [] N Q) : Wp g Y_Ju_evaluate 1 301 [some (.ref j), some (.ref p), x2, some (.ref w), some (.int (nI sz)), some (.int (nI i)), x6, x7, x8, x9] [] N Q := by
  refine wp_iinc (ck_get kk_Ju_evaluate 162 rfl) rfl (by decide) rfl ?_
  rw [show nI i + Int32.ofInt 2 = nI (i + 2) from nI_add i 2]
  refine wp_goto (t := 10) (ck_get kk_Ju_evaluate 163 rfl) (by decide) ?_
  exact K
theorem ev_end {x2 x6 x7 x8 x9 : Option Value} {sz i : Nat} {S : Nat → Int64} (hJ : JuAt (mT M) (mR M) j) (hP : PrAt (mT M) (mR M) p cn) (h8 : mI M p 8 = nI cl) (hcl : cl ≤ cn) (hcn : cn ≤ 1024) (hw : mT M w = (20, vn)) (hvn : vn < 100) (hi : ¬ i + 1 < cl) (hib : i < 2000) : Wp g Y_Ju_evaluate 1 10 [some (.ref j), some (.ref p), x2, some (.ref w), some (.int (nI sz)), some (.int (nI i)), x6, x7, x8, x9] [] (evM M j S) (evQ M j brk) := by
  obtain ⟨tj0, rj2, tj1, rj3, tj2, rj4, tj3⟩ := hJ
  obtain ⟨tp0, rpk, tpk, tp7⟩ := hP
  have rp7 := rpk 7 (by omega) (by omega)
  refine wp_iload rfl (ck_get kk_Ju_evaluate 6 rfl) ?_
  refine wp_iconst (v := nI 1) (by decide) (ck_get kk_Ju_evaluate 7 rfl) ?_
  first | refine wp_iaddN (ck_get kk_Ju_evaluate 8 rfl) ?_ | refine wp_iadd (ck_get kk_Ju_evaluate 8 rfl) ?_
  refine wp_aload_n rfl (ck_get kk_Ju_evaluate 9 rfl) ?_
  refine wp_getIv (v := nI cl) (ck_get kk_Ju_evaluate 10 rfl) fl_Ju_93 (by assumption) (h8) ?_
  first | refine wp_icmp_geN (t := 307) (ck_get kk_Ju_evaluate 11 rfl) (by decide) (by omega) (by omega) (fun hc18 => ?_) (fun hc18 => ?_) | refine wp_icmp_ge (t := 307) (ck_get kk_Ju_evaluate 11 rfl) (by decide) (fun hc18 => ?_) (fun hc18 => ?_)
  · refine wp_ldc2 kl_Ju_77 (ck_get kk_Ju_evaluate 164 rfl) ?_
    refine wp_lreturn (ck_get kk_Ju_evaluate 165 rfl) rfl ⟨_, rfl, ?_⟩
    exact ⟨rfl, S, rfl⟩
  · omega
theorem ev_c0 {x2 x6 x7 x8 x9 : Option Value} {sz i : Nat} {S : Nat → Int64} (hJ : JuAt (mT M) (mR M) j) (hP : PrAt (mT M) (mR M) p cn) (h8 : mI M p 8 = nI cl) (hcl : cl ≤ cn) (hcn : cn ≤ 1024) (hw : mT M w = (20, vn)) (hvn : vn < 100) (hi : i + 1 < cl) (hci : mI M (p + 7) i = nI 0) (hsz : sz ≤ 64)  : Wp g Y_Ju_evaluate 1 10 [some (.ref j), some (.ref p), x2, some (.ref w), some (.int (nI sz)), some (.int (nI i)), x6, x7, x8, x9] [] (evM M j S) (evQ M j (if 0 < sz then S (sz - 1) else brk)) := by
  obtain ⟨tj0, rj2, tj1, rj3, tj2, rj4, tj3⟩ := hJ
  obtain ⟨tp0, rpk, tpk, tp7⟩ := hP
  have rp7 := rpk 7 (by omega) (by omega)
  refine wp_iload rfl (ck_get kk_Ju_evaluate 6 rfl) ?_
  refine wp_iconst (v := nI 1) (by decide) (ck_get kk_Ju_evaluate 7 rfl) ?_
  first | refine wp_iaddN (ck_get kk_Ju_evaluate 8 rfl) ?_ | refine wp_iadd (ck_get kk_Ju_evaluate 8 rfl) ?_
  refine wp_aload_n rfl (ck_get kk_Ju_evaluate 9 rfl) ?_
  refine wp_getIv (v := nI cl) (ck_get kk_Ju_evaluate 10 rfl) fl_Ju_93 (by assumption) (h8) ?_
  first | refine wp_icmp_geN (t := 307) (ck_get kk_Ju_evaluate 11 rfl) (by decide) (by omega) (by omega) (fun hc18 => ?_) (fun hc18 => ?_) | refine wp_icmp_ge (t := 307) (ck_get kk_Ju_evaluate 11 rfl) (by decide) (fun hc18 => ?_) (fun hc18 => ?_)
  · omega
  · refine wp_aload_n rfl (ck_get kk_Ju_evaluate 12 rfl) ?_
    refine wp_getR (ck_get kk_Ju_evaluate 13 rfl) fl_Ju_96 (by assumption) (by assumption) ?_
    refine wp_iload rfl (ck_get kk_Ju_evaluate 14 rfl) ?_
    refine wp_ialdv (v := nI 0) (ck_get kk_Ju_evaluate 15 rfl) (by assumption) (by first | assumption | exact ixk_nI (by omega) (by omega)) (hci) ?_
    refine wp_istore (ck_get kk_Ju_evaluate 16 rfl) (by decide) rfl ?_
    refine wp_aload_n rfl (ck_get kk_Ju_evaluate 17 rfl) ?_
    refine wp_getR (ck_get kk_Ju_evaluate 18 rfl) fl_Ju_96 (by assumption) (by assumption) ?_
    refine wp_iload rfl (ck_get kk_Ju_evaluate 19 rfl) ?_
    refine wp_iconst (v := nI 1) (by decide) (ck_get kk_Ju_evaluate 20 rfl) ?_
    first | refine wp_iaddN (ck_get kk_Ju_evaluate 21 rfl) ?_ | refine wp_iadd (ck_get kk_Ju_evaluate 21 rfl) ?_
    refine wp_iald (ck_get kk_Ju_evaluate 22 rfl) (by assumption) (by first | assumption | exact ixk_nI (by omega) (by omega)) ?_
    refine wp_istore (ck_get kk_Ju_evaluate 23 rfl) (by decide) rfl ?_
    refine wp_iload rfl (ck_get kk_Ju_evaluate 24 rfl) ?_
    first | refine wp_if_neN (t := 67) (ck_get kk_Ju_evaluate 25 rfl) (by decide) (by omega) (fun hc43 => ?_) (fun hc43 => ?_) | refine wp_if_ne (t := 67) (ck_get kk_Ju_evaluate 25 rfl) (by decide) (fun hc43 => ?_) (fun hc43 => ?_)
    · omega
    · refine wp_iload rfl (ck_get kk_Ju_evaluate 26 rfl) ?_
      first | refine wp_if_leN (t := 63) (ck_get kk_Ju_evaluate 27 rfl) (by decide) (by omega) (fun hc48 => ?_) (fun hc48 => ?_) | refine wp_if_le (t := 63) (ck_get kk_Ju_evaluate 27 rfl) (by decide) (fun hc48 => ?_) (fun hc48 => ?_)
      · refine wp_ldc2 kl_Ju_77 (ck_get kk_Ju_evaluate 35 rfl) ?_
        refine wp_lreturn (ck_get kk_Ju_evaluate 36 rfl) rfl ⟨_, rfl, ?_⟩
        exact ⟨by rw [hc48, if_neg (by omega)]; rfl, S, rfl⟩
      · refine wp_aload_n rfl (ck_get kk_Ju_evaluate 28 rfl) ?_
        refine wp_getR (ck_get kk_Ju_evaluate 29 rfl) fl_Ju_26 (by assumption) (by assumption) ?_
        refine wp_iload rfl (ck_get kk_Ju_evaluate 30 rfl) ?_
        refine wp_iconst (v := nI 1) (by decide) (ck_get kk_Ju_evaluate 31 rfl) ?_
        first | refine wp_isubN (ck_get kk_Ju_evaluate 32 rfl) (by omega) ?_ | refine wp_isub (ck_get kk_Ju_evaluate 32 rfl) ?_
        refine wp_laldv (v := S (sz - 1)) (ck_get kk_Ju_evaluate 33 rfl) (by assumption) (ixk_nI (k := sz - 1) (by omega) (by omega)) (show up1 (mJ M) (j + 3) S (j + 3) (sz - 1) = _ by rw [up1_eq]) ?_
        refine wp_goto (t := 66) (ck_get kk_Ju_evaluate 34 rfl) (by decide) ?_
        refine wp_lreturn (ck_get kk_Ju_evaluate 36 rfl) rfl ⟨_, rfl, ?_⟩
        exact ⟨by rw [if_pos (by omega)], S, rfl⟩
theorem ev_c1 {x2 x6 x7 x8 x9 : Option Value} {sz i : Nat} {S : Nat → Int64} (hJ : JuAt (mT M) (mR M) j) (hP : PrAt (mT M) (mR M) p cn) (h8 : mI M p 8 = nI cl) (hcl : cl ≤ cn) (hcn : cn ≤ 1024) (hw : mT M w = (20, vn)) (hvn : vn < 100) (hi : i + 1 < cl) (hci : mI M (p + 7) i = nI 1) (hsz : sz ≤ 64)  {v : Int64} (hs : sz < 64) (K : ∀ y6 y7 y8 y9, Wp g Y_Ju_evaluate 1 10 [some (.ref j), some (.ref p), x2, some (.ref w), some (.int (nI (sz + 1))), some (.int (nI (i + 2))), y6, y7, y8, y9] [] (evM M j (up1 S sz (mI M (p + 7) (i + 1)).toInt64)) (evQ M j v)) : Wp g Y_Ju_evaluate 1 10 [some (.ref j), some (.ref p), x2, some (.ref w), some (.int (nI sz)), some (.int (nI i)), x6, x7, x8, x9] [] (evM M j S) (evQ M j v) := by
  obtain ⟨tj0, rj2, tj1, rj3, tj2, rj4, tj3⟩ := hJ
  obtain ⟨tp0, rpk, tpk, tp7⟩ := hP
  have rp7 := rpk 7 (by omega) (by omega)
  refine wp_iload rfl (ck_get kk_Ju_evaluate 6 rfl) ?_
  refine wp_iconst (v := nI 1) (by decide) (ck_get kk_Ju_evaluate 7 rfl) ?_
  first | refine wp_iaddN (ck_get kk_Ju_evaluate 8 rfl) ?_ | refine wp_iadd (ck_get kk_Ju_evaluate 8 rfl) ?_
  refine wp_aload_n rfl (ck_get kk_Ju_evaluate 9 rfl) ?_
  refine wp_getIv (v := nI cl) (ck_get kk_Ju_evaluate 10 rfl) fl_Ju_93 (by assumption) (h8) ?_
  first | refine wp_icmp_geN (t := 307) (ck_get kk_Ju_evaluate 11 rfl) (by decide) (by omega) (by omega) (fun hc18 => ?_) (fun hc18 => ?_) | refine wp_icmp_ge (t := 307) (ck_get kk_Ju_evaluate 11 rfl) (by decide) (fun hc18 => ?_) (fun hc18 => ?_)
  · omega
  · refine wp_aload_n rfl (ck_get kk_Ju_evaluate 12 rfl) ?_
    refine wp_getR (ck_get kk_Ju_evaluate 13 rfl) fl_Ju_96 (by assumption) (by assumption) ?_
    refine wp_iload rfl (ck_get kk_Ju_evaluate 14 rfl) ?_
    refine wp_ialdv (v := nI 1) (ck_get kk_Ju_evaluate 15 rfl) (by assumption) (by first | assumption | exact ixk_nI (by omega) (by omega)) (hci) ?_
    refine wp_istore (ck_get kk_Ju_evaluate 16 rfl) (by decide) rfl ?_
    refine wp_aload_n rfl (ck_get kk_Ju_evaluate 17 rfl) ?_
    refine wp_getR (ck_get kk_Ju_evaluate 18 rfl) fl_Ju_96 (by assumption) (by assumption) ?_
    refine wp_iload rfl (ck_get kk_Ju_evaluate 19 rfl) ?_
    refine wp_iconst (v := nI 1) (by decide) (ck_get kk_Ju_evaluate 20 rfl) ?_
    first | refine wp_iaddN (ck_get kk_Ju_evaluate 21 rfl) ?_ | refine wp_iadd (ck_get kk_Ju_evaluate 21 rfl) ?_
    refine wp_iald (ck_get kk_Ju_evaluate 22 rfl) (by assumption) (by first | assumption | exact ixk_nI (by omega) (by omega)) ?_
    refine wp_istore (ck_get kk_Ju_evaluate 23 rfl) (by decide) rfl ?_
    refine wp_iload rfl (ck_get kk_Ju_evaluate 24 rfl) ?_
    first | refine wp_if_neN (t := 67) (ck_get kk_Ju_evaluate 25 rfl) (by decide) (by omega) (fun hc43 => ?_) (fun hc43 => ?_) | refine wp_if_ne (t := 67) (ck_get kk_Ju_evaluate 25 rfl) (by decide) (fun hc43 => ?_) (fun hc43 => ?_)
    · refine wp_iload rfl (ck_get kk_Ju_evaluate 37 rfl) ?_
      refine wp_iconst (v := nI 1) (by decide) (ck_get kk_Ju_evaluate 38 rfl) ?_
      first | refine wp_icmp_eqN (t := 79) (ck_get kk_Ju_evaluate 39 rfl) (by decide) (by omega) (by omega) (fun hc70 => ?_) (fun hc70 => ?_) | refine wp_icmp_eq (t := 79) (ck_get kk_Ju_evaluate 39 rfl) (by decide) (fun hc70 => ?_) (fun hc70 => ?_)
      · refine wp_iload rfl (ck_get kk_Ju_evaluate 43 rfl) ?_
        refine wp_aload_n rfl (ck_get kk_Ju_evaluate 44 rfl) ?_
        refine wp_getR (ck_get kk_Ju_evaluate 45 rfl) fl_Ju_26 (by assumption) (by assumption) ?_
        refine wp_alen (ck_get kk_Ju_evaluate 46 rfl) (by assumption) ?_
        first | refine wp_icmp_geN (t := 107) (ck_get kk_Ju_evaluate 47 rfl) (by decide) (by omega) (by omega) (fun hc86 => ?_) (fun hc86 => ?_) | refine wp_icmp_ge (t := 107) (ck_get kk_Ju_evaluate 47 rfl) (by decide) (fun hc86 => ?_) (fun hc86 => ?_)
        · exact absurd hc86 (by omega)
        · refine wp_iload rfl (ck_get kk_Ju_evaluate 48 rfl) ?_
          refine wp_iconst (v := nI 2) (by decide) (ck_get kk_Ju_evaluate 49 rfl) ?_
          first | refine wp_icmp_neN (t := 111) (ck_get kk_Ju_evaluate 50 rfl) (by decide) (by omega) (by omega) (fun hc92 => ?_) (fun hc92 => ?_) | refine wp_icmp_ne (t := 111) (ck_get kk_Ju_evaluate 50 rfl) (by decide) (fun hc92 => ?_) (fun hc92 => ?_)
          · refine wp_aload_n rfl (ck_get kk_Ju_evaluate 59 rfl) ?_
            refine wp_getR (ck_get kk_Ju_evaluate 60 rfl) fl_Ju_26 (by assumption) (by assumption) ?_
            refine wp_iload rfl (ck_get kk_Ju_evaluate 61 rfl) ?_
            refine wp_iload rfl (ck_get kk_Ju_evaluate 62 rfl) ?_
            refine wp_iconst (v := nI 1) (by decide) (ck_get kk_Ju_evaluate 63 rfl) ?_
            first | refine wp_icmp_neN (t := 129) (ck_get kk_Ju_evaluate 64 rfl) (by decide) (by omega) (by omega) (fun hc120 => ?_) (fun hc120 => ?_) | refine wp_icmp_ne (t := 129) (ck_get kk_Ju_evaluate 64 rfl) (by decide) (fun hc120 => ?_) (fun hc120 => ?_)
            · omega
            · refine wp_iload rfl (ck_get kk_Ju_evaluate 65 rfl) ?_
              refine wp_i2l (ck_get kk_Ju_evaluate 66 rfl) ?_
              refine wp_goto (t := 134) (ck_get kk_Ju_evaluate 67 rfl) (by decide) ?_
              refine wp_last (ck_get kk_Ju_evaluate 72 rfl) (by assumption) (ixk_nI (k := sz) (by omega) (by omega)) ?_
              first | refine wp_iincN (ck_get kk_Ju_evaluate 73 rfl) rfl (by decide) rfl ?_ | refine wp_iinc (ck_get kk_Ju_evaluate 73 rfl) rfl (by decide) rfl ?_
              refine wp_goto (t := 301) (ck_get kk_Ju_evaluate 74 rfl) (by decide) ?_
              refine l_ev301 ?_
              have hK := K (some (.int (nI 1))) (some (.int (mI M (p + 7) (i + 1)))) x8 x9
              rw [show evM M j (up1 S sz (mI M (p + 7) (i + 1)).toInt64) = mk2 M (mI M) (up2 (up1 (mJ M) (j + 3) S) (j + 3) sz (mI M (p + 7) (i + 1)).toInt64) by rw [up2_up1, up1_eq, up1_up1]] at hK
              exact hK
          · omega
      · omega
    · omega
theorem ev_c2 {x2 x6 x7 x8 x9 : Option Value} {sz i : Nat} {u : Nat} {S : Nat → Int64} (hJ : JuAt (mT M) (mR M) j) (hP : PrAt (mT M) (mR M) p cn) (h8 : mI M p 8 = nI cl) (hcl : cl ≤ cn) (hcn : cn ≤ 1024) (hw : mT M w = (20, vn)) (hvn : vn < 100) (hi : i + 1 < cl) (hci : mI M (p + 7) i = nI 2) (hsz : sz ≤ 64) (hv : mI M (p + 7) (i + 1) = nI u) (hu : u < vn) {v : Int64} (hs : sz < 64) (K : ∀ y6 y7 y8 y9, Wp g Y_Ju_evaluate 1 10 [some (.ref j), some (.ref p), x2, some (.ref w), some (.int (nI (sz + 1))), some (.int (nI (i + 2))), y6, y7, y8, y9] [] (evM M j (up1 S sz (mI M w u).toInt64)) (evQ M j v)) : Wp g Y_Ju_evaluate 1 10 [some (.ref j), some (.ref p), x2, some (.ref w), some (.int (nI sz)), some (.int (nI i)), x6, x7, x8, x9] [] (evM M j S) (evQ M j v) := by
  obtain ⟨tj0, rj2, tj1, rj3, tj2, rj4, tj3⟩ := hJ
  obtain ⟨tp0, rpk, tpk, tp7⟩ := hP
  have rp7 := rpk 7 (by omega) (by omega)
  refine wp_iload rfl (ck_get kk_Ju_evaluate 6 rfl) ?_
  refine wp_iconst (v := nI 1) (by decide) (ck_get kk_Ju_evaluate 7 rfl) ?_
  first | refine wp_iaddN (ck_get kk_Ju_evaluate 8 rfl) ?_ | refine wp_iadd (ck_get kk_Ju_evaluate 8 rfl) ?_
  refine wp_aload_n rfl (ck_get kk_Ju_evaluate 9 rfl) ?_
  refine wp_getIv (v := nI cl) (ck_get kk_Ju_evaluate 10 rfl) fl_Ju_93 (by assumption) (h8) ?_
  first | refine wp_icmp_geN (t := 307) (ck_get kk_Ju_evaluate 11 rfl) (by decide) (by omega) (by omega) (fun hc18 => ?_) (fun hc18 => ?_) | refine wp_icmp_ge (t := 307) (ck_get kk_Ju_evaluate 11 rfl) (by decide) (fun hc18 => ?_) (fun hc18 => ?_)
  · omega
  · refine wp_aload_n rfl (ck_get kk_Ju_evaluate 12 rfl) ?_
    refine wp_getR (ck_get kk_Ju_evaluate 13 rfl) fl_Ju_96 (by assumption) (by assumption) ?_
    refine wp_iload rfl (ck_get kk_Ju_evaluate 14 rfl) ?_
    refine wp_ialdv (v := nI 2) (ck_get kk_Ju_evaluate 15 rfl) (by assumption) (by first | assumption | exact ixk_nI (by omega) (by omega)) (hci) ?_
    refine wp_istore (ck_get kk_Ju_evaluate 16 rfl) (by decide) rfl ?_
    refine wp_aload_n rfl (ck_get kk_Ju_evaluate 17 rfl) ?_
    refine wp_getR (ck_get kk_Ju_evaluate 18 rfl) fl_Ju_96 (by assumption) (by assumption) ?_
    refine wp_iload rfl (ck_get kk_Ju_evaluate 19 rfl) ?_
    refine wp_iconst (v := nI 1) (by decide) (ck_get kk_Ju_evaluate 20 rfl) ?_
    first | refine wp_iaddN (ck_get kk_Ju_evaluate 21 rfl) ?_ | refine wp_iadd (ck_get kk_Ju_evaluate 21 rfl) ?_
    refine wp_ialdv (v := nI u) (ck_get kk_Ju_evaluate 22 rfl) (by assumption) (by first | assumption | exact ixk_nI (by omega) (by omega)) (hv) ?_
    refine wp_istore (ck_get kk_Ju_evaluate 23 rfl) (by decide) rfl ?_
    refine wp_iload rfl (ck_get kk_Ju_evaluate 24 rfl) ?_
    first | refine wp_if_neN (t := 67) (ck_get kk_Ju_evaluate 25 rfl) (by decide) (by omega) (fun hc43 => ?_) (fun hc43 => ?_) | refine wp_if_ne (t := 67) (ck_get kk_Ju_evaluate 25 rfl) (by decide) (fun hc43 => ?_) (fun hc43 => ?_)
    · refine wp_iload rfl (ck_get kk_Ju_evaluate 37 rfl) ?_
      refine wp_iconst (v := nI 1) (by decide) (ck_get kk_Ju_evaluate 38 rfl) ?_
      first | refine wp_icmp_eqN (t := 79) (ck_get kk_Ju_evaluate 39 rfl) (by decide) (by omega) (by omega) (fun hc70 => ?_) (fun hc70 => ?_) | refine wp_icmp_eq (t := 79) (ck_get kk_Ju_evaluate 39 rfl) (by decide) (fun hc70 => ?_) (fun hc70 => ?_)
      · omega
      · refine wp_iload rfl (ck_get kk_Ju_evaluate 40 rfl) ?_
        refine wp_iconst (v := nI 2) (by decide) (ck_get kk_Ju_evaluate 41 rfl) ?_
        first | refine wp_icmp_neN (t := 141) (ck_get kk_Ju_evaluate 42 rfl) (by decide) (by omega) (by omega) (fun hc76 => ?_) (fun hc76 => ?_) | refine wp_icmp_ne (t := 141) (ck_get kk_Ju_evaluate 42 rfl) (by decide) (fun hc76 => ?_) (fun hc76 => ?_)
        · omega
        · refine wp_iload rfl (ck_get kk_Ju_evaluate 43 rfl) ?_
          refine wp_aload_n rfl (ck_get kk_Ju_evaluate 44 rfl) ?_
          refine wp_getR (ck_get kk_Ju_evaluate 45 rfl) fl_Ju_26 (by assumption) (by assumption) ?_
          refine wp_alen (ck_get kk_Ju_evaluate 46 rfl) (by assumption) ?_
          first | refine wp_icmp_geN (t := 107) (ck_get kk_Ju_evaluate 47 rfl) (by decide) (by omega) (by omega) (fun hc86 => ?_) (fun hc86 => ?_) | refine wp_icmp_ge (t := 107) (ck_get kk_Ju_evaluate 47 rfl) (by decide) (fun hc86 => ?_) (fun hc86 => ?_)
          · exact absurd hc86 (by omega)
          · refine wp_iload rfl (ck_get kk_Ju_evaluate 48 rfl) ?_
            refine wp_iconst (v := nI 2) (by decide) (ck_get kk_Ju_evaluate 49 rfl) ?_
            first | refine wp_icmp_neN (t := 111) (ck_get kk_Ju_evaluate 50 rfl) (by decide) (by omega) (by omega) (fun hc92 => ?_) (fun hc92 => ?_) | refine wp_icmp_ne (t := 111) (ck_get kk_Ju_evaluate 50 rfl) (by decide) (fun hc92 => ?_) (fun hc92 => ?_)
            · omega
            · refine wp_iload rfl (ck_get kk_Ju_evaluate 51 rfl) ?_
              first | refine wp_if_ltN (t := 107) (ck_get kk_Ju_evaluate 52 rfl) (by decide) (by omega) (fun hc97 => ?_) (fun hc97 => ?_) | refine wp_if_lt (t := 107) (ck_get kk_Ju_evaluate 52 rfl) (by decide) (fun hc97 => ?_) (fun hc97 => ?_)
              · exact absurd hc97 (by simp)
              · refine wp_iload rfl (ck_get kk_Ju_evaluate 53 rfl) ?_
                refine wp_aload_n rfl (ck_get kk_Ju_evaluate 54 rfl) ?_
                refine wp_alen (ck_get kk_Ju_evaluate 55 rfl) (by assumption) ?_
                first | refine wp_icmp_ltN (t := 111) (ck_get kk_Ju_evaluate 56 rfl) (by decide) (by omega) (by omega) (fun hc104 => ?_) (fun hc104 => ?_) | refine wp_icmp_lt (t := 111) (ck_get kk_Ju_evaluate 56 rfl) (by decide) (fun hc104 => ?_) (fun hc104 => ?_)
                · refine wp_aload_n rfl (ck_get kk_Ju_evaluate 59 rfl) ?_
                  refine wp_getR (ck_get kk_Ju_evaluate 60 rfl) fl_Ju_26 (by assumption) (by assumption) ?_
                  refine wp_iload rfl (ck_get kk_Ju_evaluate 61 rfl) ?_
                  refine wp_iload rfl (ck_get kk_Ju_evaluate 62 rfl) ?_
                  refine wp_iconst (v := nI 1) (by decide) (ck_get kk_Ju_evaluate 63 rfl) ?_
                  first | refine wp_icmp_neN (t := 129) (ck_get kk_Ju_evaluate 64 rfl) (by decide) (by omega) (by omega) (fun hc120 => ?_) (fun hc120 => ?_) | refine wp_icmp_ne (t := 129) (ck_get kk_Ju_evaluate 64 rfl) (by decide) (fun hc120 => ?_) (fun hc120 => ?_)
                  · refine wp_aload_n rfl (ck_get kk_Ju_evaluate 68 rfl) ?_
                    refine wp_iload rfl (ck_get kk_Ju_evaluate 69 rfl) ?_
                    refine wp_iald (ck_get kk_Ju_evaluate 70 rfl) (by assumption) (ixk_nI (k := u) (by omega) (by omega)) ?_
                    refine wp_i2l (ck_get kk_Ju_evaluate 71 rfl) ?_
                    refine wp_last (ck_get kk_Ju_evaluate 72 rfl) (by assumption) (ixk_nI (k := sz) (by omega) (by omega)) ?_
                    first | refine wp_iincN (ck_get kk_Ju_evaluate 73 rfl) rfl (by decide) rfl ?_ | refine wp_iinc (ck_get kk_Ju_evaluate 73 rfl) rfl (by decide) rfl ?_
                    refine wp_goto (t := 301) (ck_get kk_Ju_evaluate 74 rfl) (by decide) ?_
                    refine l_ev301 ?_
                    have hK := K (some (.int (nI 2))) (some (.int (nI u))) x8 x9
                    rw [show evM M j (up1 S sz (mI M w u).toInt64) = mk2 M (mI M) (up2 (up1 (mJ M) (j + 3) S) (j + 3) sz (mI M w u).toInt64) by rw [up2_up1, up1_eq, up1_up1]] at hK
                    exact hK
                  · omega
                · omega
    · omega
theorem ev_c3 {x2 x6 x7 x8 x9 : Option Value} {sz i : Nat} {S : Nat → Int64} (hJ : JuAt (mT M) (mR M) j) (hP : PrAt (mT M) (mR M) p cn) (h8 : mI M p 8 = nI cl) (hcl : cl ≤ cn) (hcn : cn ≤ 1024) (hw : mT M w = (20, vn)) (hvn : vn < 100) (hi : i + 1 < cl) (hci : mI M (p + 7) i = nI 3) (hsz : sz ≤ 64)  {v : Int64} (hs : 1 ≤ sz) (K : ∀ y6 y7 y8 y9, Wp g Y_Ju_evaluate 1 10 [some (.ref j), some (.ref p), x2, some (.ref w), some (.int (nI sz)), some (.int (nI (i + 2))), y6, y7, y8, y9] [] (evM M j (up1 S (sz - 1) (1 - S (sz - 1)))) (evQ M j v)) : Wp g Y_Ju_evaluate 1 10 [some (.ref j), some (.ref p), x2, some (.ref w), some (.int (nI sz)), some (.int (nI i)), x6, x7, x8, x9] [] (evM M j S) (evQ M j v) := by
  obtain ⟨tj0, rj2, tj1, rj3, tj2, rj4, tj3⟩ := hJ
  obtain ⟨tp0, rpk, tpk, tp7⟩ := hP
  have rp7 := rpk 7 (by omega) (by omega)
  refine wp_iload rfl (ck_get kk_Ju_evaluate 6 rfl) ?_
  refine wp_iconst (v := nI 1) (by decide) (ck_get kk_Ju_evaluate 7 rfl) ?_
  first | refine wp_iaddN (ck_get kk_Ju_evaluate 8 rfl) ?_ | refine wp_iadd (ck_get kk_Ju_evaluate 8 rfl) ?_
  refine wp_aload_n rfl (ck_get kk_Ju_evaluate 9 rfl) ?_
  refine wp_getIv (v := nI cl) (ck_get kk_Ju_evaluate 10 rfl) fl_Ju_93 (by assumption) (h8) ?_
  first | refine wp_icmp_geN (t := 307) (ck_get kk_Ju_evaluate 11 rfl) (by decide) (by omega) (by omega) (fun hc18 => ?_) (fun hc18 => ?_) | refine wp_icmp_ge (t := 307) (ck_get kk_Ju_evaluate 11 rfl) (by decide) (fun hc18 => ?_) (fun hc18 => ?_)
  · omega
  · refine wp_aload_n rfl (ck_get kk_Ju_evaluate 12 rfl) ?_
    refine wp_getR (ck_get kk_Ju_evaluate 13 rfl) fl_Ju_96 (by assumption) (by assumption) ?_
    refine wp_iload rfl (ck_get kk_Ju_evaluate 14 rfl) ?_
    refine wp_ialdv (v := nI 3) (ck_get kk_Ju_evaluate 15 rfl) (by assumption) (by first | assumption | exact ixk_nI (by omega) (by omega)) (hci) ?_
    refine wp_istore (ck_get kk_Ju_evaluate 16 rfl) (by decide) rfl ?_
    refine wp_aload_n rfl (ck_get kk_Ju_evaluate 17 rfl) ?_
    refine wp_getR (ck_get kk_Ju_evaluate 18 rfl) fl_Ju_96 (by assumption) (by assumption) ?_
    refine wp_iload rfl (ck_get kk_Ju_evaluate 19 rfl) ?_
    refine wp_iconst (v := nI 1) (by decide) (ck_get kk_Ju_evaluate 20 rfl) ?_
    first | refine wp_iaddN (ck_get kk_Ju_evaluate 21 rfl) ?_ | refine wp_iadd (ck_get kk_Ju_evaluate 21 rfl) ?_
    refine wp_iald (ck_get kk_Ju_evaluate 22 rfl) (by assumption) (by first | assumption | exact ixk_nI (by omega) (by omega)) ?_
    refine wp_istore (ck_get kk_Ju_evaluate 23 rfl) (by decide) rfl ?_
    refine wp_iload rfl (ck_get kk_Ju_evaluate 24 rfl) ?_
    first | refine wp_if_neN (t := 67) (ck_get kk_Ju_evaluate 25 rfl) (by decide) (by omega) (fun hc43 => ?_) (fun hc43 => ?_) | refine wp_if_ne (t := 67) (ck_get kk_Ju_evaluate 25 rfl) (by decide) (fun hc43 => ?_) (fun hc43 => ?_)
    · refine wp_iload rfl (ck_get kk_Ju_evaluate 37 rfl) ?_
      refine wp_iconst (v := nI 1) (by decide) (ck_get kk_Ju_evaluate 38 rfl) ?_
      first | refine wp_icmp_eqN (t := 79) (ck_get kk_Ju_evaluate 39 rfl) (by decide) (by omega) (by omega) (fun hc70 => ?_) (fun hc70 => ?_) | refine wp_icmp_eq (t := 79) (ck_get kk_Ju_evaluate 39 rfl) (by decide) (fun hc70 => ?_) (fun hc70 => ?_)
      · omega
      · refine wp_iload rfl (ck_get kk_Ju_evaluate 40 rfl) ?_
        refine wp_iconst (v := nI 2) (by decide) (ck_get kk_Ju_evaluate 41 rfl) ?_
        first | refine wp_icmp_neN (t := 141) (ck_get kk_Ju_evaluate 42 rfl) (by decide) (by omega) (by omega) (fun hc76 => ?_) (fun hc76 => ?_) | refine wp_icmp_ne (t := 141) (ck_get kk_Ju_evaluate 42 rfl) (by decide) (fun hc76 => ?_) (fun hc76 => ?_)
        · refine wp_iload rfl (ck_get kk_Ju_evaluate 75 rfl) ?_
          refine wp_iconst (v := nI 1) (by decide) (ck_get kk_Ju_evaluate 76 rfl) ?_
          first | refine wp_icmp_geN (t := 151) (ck_get kk_Ju_evaluate 77 rfl) (by decide) (by omega) (by omega) (fun hc144 => ?_) (fun hc144 => ?_) | refine wp_icmp_ge (t := 151) (ck_get kk_Ju_evaluate 77 rfl) (by decide) (fun hc144 => ?_) (fun hc144 => ?_)
          · refine wp_iload rfl (ck_get kk_Ju_evaluate 80 rfl) ?_
            refine wp_iconst (v := nI 3) (by decide) (ck_get kk_Ju_evaluate 81 rfl) ?_
            first | refine wp_icmp_neN (t := 180) (ck_get kk_Ju_evaluate 82 rfl) (by decide) (by omega) (by omega) (fun hc154 => ?_) (fun hc154 => ?_) | refine wp_icmp_ne (t := 180) (ck_get kk_Ju_evaluate 82 rfl) (by decide) (fun hc154 => ?_) (fun hc154 => ?_)
            · omega
            · refine wp_aload_n rfl (ck_get kk_Ju_evaluate 83 rfl) ?_
              refine wp_getR (ck_get kk_Ju_evaluate 84 rfl) fl_Ju_26 (by assumption) (by assumption) ?_
              refine wp_iload rfl (ck_get kk_Ju_evaluate 85 rfl) ?_
              refine wp_iconst (v := nI 1) (by decide) (ck_get kk_Ju_evaluate 86 rfl) ?_
              first | refine wp_isubN (ck_get kk_Ju_evaluate 87 rfl) (by omega) ?_ | refine wp_isub (ck_get kk_Ju_evaluate 87 rfl) ?_
              refine wp_lconst (v := 1) (by decide) (ck_get kk_Ju_evaluate 88 rfl) ?_
              refine wp_aload_n rfl (ck_get kk_Ju_evaluate 89 rfl) ?_
              refine wp_getR (ck_get kk_Ju_evaluate 90 rfl) fl_Ju_26 (by assumption) (by assumption) ?_
              refine wp_iload rfl (ck_get kk_Ju_evaluate 91 rfl) ?_
              refine wp_iconst (v := nI 1) (by decide) (ck_get kk_Ju_evaluate 92 rfl) ?_
              first | refine wp_isubN (ck_get kk_Ju_evaluate 93 rfl) (by omega) ?_ | refine wp_isub (ck_get kk_Ju_evaluate 93 rfl) ?_
              refine wp_laldv (v := S (sz - 1)) (ck_get kk_Ju_evaluate 94 rfl) (by assumption) (ixk_nI (k := sz - 1) (by omega) (by omega)) (show up1 (mJ M) (j + 3) S (j + 3) (sz - 1) = _ by rw [up1_eq]) ?_
              refine wp_lsub (ck_get kk_Ju_evaluate 95 rfl) ?_
              refine wp_last (ck_get kk_Ju_evaluate 96 rfl) (by assumption) (ixk_nI (k := sz - 1) (by omega) (by omega)) ?_
              refine wp_goto (t := 301) (ck_get kk_Ju_evaluate 97 rfl) (by decide) ?_
              refine l_ev301 ?_
              have hK := K (some (.int (nI 3))) (some (.int (mI M (p + 7) (i + 1)))) x8 x9
              rw [show evM M j (up1 S (sz - 1) (1 - S (sz - 1))) = mk2 M (mI M) (up2 (up1 (mJ M) (j + 3) S) (j + 3) (sz - 1) (1 - S (sz - 1))) by rw [up2_up1, up1_eq, up1_up1]] at hK
              exact hK
          · omega
        · omega
    · omega
theorem ev_c4 {x2 x6 x7 x8 x9 : Option Value} {sz i : Nat} {u : Nat} {S : Nat → Int64} (hJ : JuAt (mT M) (mR M) j) (hP : PrAt (mT M) (mR M) p cn) (h8 : mI M p 8 = nI cl) (hcl : cl ≤ cn) (hcn : cn ≤ 1024) (hw : mT M w = (20, vn)) (hvn : vn < 100) (hi : i + 1 < cl) (hci : mI M (p + 7) i = nI 4) (hsz : sz ≤ 64) (hv : mI M (p + 7) (i + 1) = nI u) (hu2 : 2 ≤ u) (hu : u ≤ cl) {v : Int64} (hs : 1 ≤ sz) (K1 : S (sz - 1) = 1 → ∀ y6 y7 y8 y9, Wp g Y_Ju_evaluate 1 10 [some (.ref j), some (.ref p), x2, some (.ref w), some (.int (nI sz)), some (.int (nI (max i (u - 2) + 2))), y6, y7, y8, y9] [] (evM M j S) (evQ M j v)) (K2 : ¬ S (sz - 1) = 1 → ∀ y6 y7 y8 y9, Wp g Y_Ju_evaluate 1 10 [some (.ref j), some (.ref p), x2, some (.ref w), some (.int (nI (sz - 1))), some (.int (nI (i + 2))), y6, y7, y8, y9] [] (evM M j S) (evQ M j v)) : Wp g Y_Ju_evaluate 1 10 [some (.ref j), some (.ref p), x2, some (.ref w), some (.int (nI sz)), some (.int (nI i)), x6, x7, x8, x9] [] (evM M j S) (evQ M j v) := by
  obtain ⟨tj0, rj2, tj1, rj3, tj2, rj4, tj3⟩ := hJ
  obtain ⟨tp0, rpk, tpk, tp7⟩ := hP
  have rp7 := rpk 7 (by omega) (by omega)
  refine wp_iload rfl (ck_get kk_Ju_evaluate 6 rfl) ?_
  refine wp_iconst (v := nI 1) (by decide) (ck_get kk_Ju_evaluate 7 rfl) ?_
  first | refine wp_iaddN (ck_get kk_Ju_evaluate 8 rfl) ?_ | refine wp_iadd (ck_get kk_Ju_evaluate 8 rfl) ?_
  refine wp_aload_n rfl (ck_get kk_Ju_evaluate 9 rfl) ?_
  refine wp_getIv (v := nI cl) (ck_get kk_Ju_evaluate 10 rfl) fl_Ju_93 (by assumption) (h8) ?_
  first | refine wp_icmp_geN (t := 307) (ck_get kk_Ju_evaluate 11 rfl) (by decide) (by omega) (by omega) (fun hc18 => ?_) (fun hc18 => ?_) | refine wp_icmp_ge (t := 307) (ck_get kk_Ju_evaluate 11 rfl) (by decide) (fun hc18 => ?_) (fun hc18 => ?_)
  · omega
  · refine wp_aload_n rfl (ck_get kk_Ju_evaluate 12 rfl) ?_
    refine wp_getR (ck_get kk_Ju_evaluate 13 rfl) fl_Ju_96 (by assumption) (by assumption) ?_
    refine wp_iload rfl (ck_get kk_Ju_evaluate 14 rfl) ?_
    refine wp_ialdv (v := nI 4) (ck_get kk_Ju_evaluate 15 rfl) (by assumption) (by first | assumption | exact ixk_nI (by omega) (by omega)) (hci) ?_
    refine wp_istore (ck_get kk_Ju_evaluate 16 rfl) (by decide) rfl ?_
    refine wp_aload_n rfl (ck_get kk_Ju_evaluate 17 rfl) ?_
    refine wp_getR (ck_get kk_Ju_evaluate 18 rfl) fl_Ju_96 (by assumption) (by assumption) ?_
    refine wp_iload rfl (ck_get kk_Ju_evaluate 19 rfl) ?_
    refine wp_iconst (v := nI 1) (by decide) (ck_get kk_Ju_evaluate 20 rfl) ?_
    first | refine wp_iaddN (ck_get kk_Ju_evaluate 21 rfl) ?_ | refine wp_iadd (ck_get kk_Ju_evaluate 21 rfl) ?_
    refine wp_ialdv (v := nI u) (ck_get kk_Ju_evaluate 22 rfl) (by assumption) (by first | assumption | exact ixk_nI (by omega) (by omega)) (hv) ?_
    refine wp_istore (ck_get kk_Ju_evaluate 23 rfl) (by decide) rfl ?_
    refine wp_iload rfl (ck_get kk_Ju_evaluate 24 rfl) ?_
    first | refine wp_if_neN (t := 67) (ck_get kk_Ju_evaluate 25 rfl) (by decide) (by omega) (fun hc43 => ?_) (fun hc43 => ?_) | refine wp_if_ne (t := 67) (ck_get kk_Ju_evaluate 25 rfl) (by decide) (fun hc43 => ?_) (fun hc43 => ?_)
    · refine wp_iload rfl (ck_get kk_Ju_evaluate 37 rfl) ?_
      refine wp_iconst (v := nI 1) (by decide) (ck_get kk_Ju_evaluate 38 rfl) ?_
      first | refine wp_icmp_eqN (t := 79) (ck_get kk_Ju_evaluate 39 rfl) (by decide) (by omega) (by omega) (fun hc70 => ?_) (fun hc70 => ?_) | refine wp_icmp_eq (t := 79) (ck_get kk_Ju_evaluate 39 rfl) (by decide) (fun hc70 => ?_) (fun hc70 => ?_)
      · omega
      · refine wp_iload rfl (ck_get kk_Ju_evaluate 40 rfl) ?_
        refine wp_iconst (v := nI 2) (by decide) (ck_get kk_Ju_evaluate 41 rfl) ?_
        first | refine wp_icmp_neN (t := 141) (ck_get kk_Ju_evaluate 42 rfl) (by decide) (by omega) (by omega) (fun hc76 => ?_) (fun hc76 => ?_) | refine wp_icmp_ne (t := 141) (ck_get kk_Ju_evaluate 42 rfl) (by decide) (fun hc76 => ?_) (fun hc76 => ?_)
        · refine wp_iload rfl (ck_get kk_Ju_evaluate 75 rfl) ?_
          refine wp_iconst (v := nI 1) (by decide) (ck_get kk_Ju_evaluate 76 rfl) ?_
          first | refine wp_icmp_geN (t := 151) (ck_get kk_Ju_evaluate 77 rfl) (by decide) (by omega) (by omega) (fun hc144 => ?_) (fun hc144 => ?_) | refine wp_icmp_ge (t := 151) (ck_get kk_Ju_evaluate 77 rfl) (by decide) (fun hc144 => ?_) (fun hc144 => ?_)
          · refine wp_iload rfl (ck_get kk_Ju_evaluate 80 rfl) ?_
            refine wp_iconst (v := nI 3) (by decide) (ck_get kk_Ju_evaluate 81 rfl) ?_
            first | refine wp_icmp_neN (t := 180) (ck_get kk_Ju_evaluate 82 rfl) (by decide) (by omega) (by omega) (fun hc154 => ?_) (fun hc154 => ?_) | refine wp_icmp_ne (t := 180) (ck_get kk_Ju_evaluate 82 rfl) (by decide) (fun hc154 => ?_) (fun hc154 => ?_)
            · refine wp_iload rfl (ck_get kk_Ju_evaluate 98 rfl) ?_
              refine wp_iconst (v := nI 4) (by decide) (ck_get kk_Ju_evaluate 99 rfl) ?_
              first | refine wp_icmp_eqN (t := 192) (ck_get kk_Ju_evaluate 100 rfl) (by decide) (by omega) (by omega) (fun hc183 => ?_) (fun hc183 => ?_) | refine wp_icmp_eq (t := 192) (ck_get kk_Ju_evaluate 100 rfl) (by decide) (fun hc183 => ?_) (fun hc183 => ?_)
              · refine wp_aload_n rfl (ck_get kk_Ju_evaluate 104 rfl) ?_
                refine wp_getR (ck_get kk_Ju_evaluate 105 rfl) fl_Ju_26 (by assumption) (by assumption) ?_
                refine wp_iload rfl (ck_get kk_Ju_evaluate 106 rfl) ?_
                refine wp_iconst (v := nI 1) (by decide) (ck_get kk_Ju_evaluate 107 rfl) ?_
                first | refine wp_isubN (ck_get kk_Ju_evaluate 108 rfl) (by omega) ?_ | refine wp_isub (ck_get kk_Ju_evaluate 108 rfl) ?_
                refine wp_laldv (v := S (sz - 1)) (ck_get kk_Ju_evaluate 109 rfl) (by assumption) (ixk_nI (k := sz - 1) (by omega) (by omega)) (show up1 (mJ M) (j + 3) S (j + 3) (sz - 1) = _ by rw [up1_eq]) ?_
                refine wp_iload rfl (ck_get kk_Ju_evaluate 110 rfl) ?_
                refine wp_iconst (v := nI 4) (by decide) (ck_get kk_Ju_evaluate 111 rfl) ?_
                first | refine wp_icmp_neN (t := 211) (ck_get kk_Ju_evaluate 112 rfl) (by decide) (by omega) (by omega) (fun hc204 => ?_) (fun hc204 => ?_) | refine wp_icmp_ne (t := 211) (ck_get kk_Ju_evaluate 112 rfl) (by decide) (fun hc204 => ?_) (fun hc204 => ?_)
                · omega
                · refine wp_iconst (v := nI 1) (by decide) (ck_get kk_Ju_evaluate 113 rfl) ?_
                  refine wp_goto (t := 212) (ck_get kk_Ju_evaluate 114 rfl) (by decide) ?_
                  refine wp_i2l (ck_get kk_Ju_evaluate 116 rfl) ?_
                  refine wp_lcmp (ck_get kk_Ju_evaluate 117 rfl) ?_
                  refine wp_if_ne (t := 231) (ck_get kk_Ju_evaluate 118 rfl) (by decide) (fun hc214 => ?_) (fun hc214 => ?_)
                  · refine wp_iinc (ck_get kk_Ju_evaluate 126 rfl) rfl (by decide) rfl ?_
                    rw [show nI sz + Int32.ofInt (-1) = nI (sz - 1) by rw [show sz = sz - 1 + 1 by omega]; exact pk_m1 (sz - 1)]
                    refine wp_goto (t := 301) (ck_get kk_Ju_evaluate 127 rfl) (by decide) ?_
                    refine l_ev301 ?_
                    have h1 : ¬ S (sz - 1) = 1 := fun h => hc214 ((lcmp_eq _ _).mpr h)
                    exact K2 h1 (some (.int (nI 4))) (some (.int (nI u))) x8 x9
                  · refine wp_iload rfl (ck_get kk_Ju_evaluate 119 rfl) ?_
                    refine wp_iload rfl (ck_get kk_Ju_evaluate 120 rfl) ?_
                    refine wp_iconst (v := nI 2) (by decide) (ck_get kk_Ju_evaluate 121 rfl) ?_
                    first | refine wp_isubN (ck_get kk_Ju_evaluate 122 rfl) (by omega) ?_ | refine wp_isub (ck_get kk_Ju_evaluate 122 rfl) ?_
                    refine wp_cS2i (ck_get kk_Ju_evaluate 123 rfl) ml_Ju_90 (by omega) (Nat.le_of_ble_eq_true rfl) (Ci.to (c_max (by omega) (by omega)) ?_)
                    rintro _ M1 ⟨rfl, eqm1⟩
                    obtain rfl := eqm1.symm
                    refine wp_istore (ck_get kk_Ju_evaluate 124 rfl) (by decide) rfl ?_
                    refine wp_goto (t := 301) (ck_get kk_Ju_evaluate 125 rfl) (by decide) ?_
                    have h1 : S (sz - 1) = 1 := (lcmp_eq _ _).mp hc214
                    refine l_ev301 ?_
                    exact K1 h1 (some (.int (nI 4))) (some (.int (nI u))) x8 x9
              · omega
            · omega
          · omega
        · omega
    · omega
theorem ev_c5 {x2 x6 x7 x8 x9 : Option Value} {sz i : Nat} {u : Nat} {S : Nat → Int64} (hJ : JuAt (mT M) (mR M) j) (hP : PrAt (mT M) (mR M) p cn) (h8 : mI M p 8 = nI cl) (hcl : cl ≤ cn) (hcn : cn ≤ 1024) (hw : mT M w = (20, vn)) (hvn : vn < 100) (hi : i + 1 < cl) (hci : mI M (p + 7) i = nI 5) (hsz : sz ≤ 64) (hv : mI M (p + 7) (i + 1) = nI u) (hu2 : 2 ≤ u) (hu : u ≤ cl) {v : Int64} (hs : 1 ≤ sz) (K1 : S (sz - 1) = 0 → ∀ y6 y7 y8 y9, Wp g Y_Ju_evaluate 1 10 [some (.ref j), some (.ref p), x2, some (.ref w), some (.int (nI sz)), some (.int (nI (max i (u - 2) + 2))), y6, y7, y8, y9] [] (evM M j S) (evQ M j v)) (K2 : ¬ S (sz - 1) = 0 → ∀ y6 y7 y8 y9, Wp g Y_Ju_evaluate 1 10 [some (.ref j), some (.ref p), x2, some (.ref w), some (.int (nI (sz - 1))), some (.int (nI (i + 2))), y6, y7, y8, y9] [] (evM M j S) (evQ M j v)) : Wp g Y_Ju_evaluate 1 10 [some (.ref j), some (.ref p), x2, some (.ref w), some (.int (nI sz)), some (.int (nI i)), x6, x7, x8, x9] [] (evM M j S) (evQ M j v) := by
  obtain ⟨tj0, rj2, tj1, rj3, tj2, rj4, tj3⟩ := hJ
  obtain ⟨tp0, rpk, tpk, tp7⟩ := hP
  have rp7 := rpk 7 (by omega) (by omega)
  refine wp_iload rfl (ck_get kk_Ju_evaluate 6 rfl) ?_
  refine wp_iconst (v := nI 1) (by decide) (ck_get kk_Ju_evaluate 7 rfl) ?_
  first | refine wp_iaddN (ck_get kk_Ju_evaluate 8 rfl) ?_ | refine wp_iadd (ck_get kk_Ju_evaluate 8 rfl) ?_
  refine wp_aload_n rfl (ck_get kk_Ju_evaluate 9 rfl) ?_
  refine wp_getIv (v := nI cl) (ck_get kk_Ju_evaluate 10 rfl) fl_Ju_93 (by assumption) (h8) ?_
  first | refine wp_icmp_geN (t := 307) (ck_get kk_Ju_evaluate 11 rfl) (by decide) (by omega) (by omega) (fun hc18 => ?_) (fun hc18 => ?_) | refine wp_icmp_ge (t := 307) (ck_get kk_Ju_evaluate 11 rfl) (by decide) (fun hc18 => ?_) (fun hc18 => ?_)
  · omega
  · refine wp_aload_n rfl (ck_get kk_Ju_evaluate 12 rfl) ?_
    refine wp_getR (ck_get kk_Ju_evaluate 13 rfl) fl_Ju_96 (by assumption) (by assumption) ?_
    refine wp_iload rfl (ck_get kk_Ju_evaluate 14 rfl) ?_
    refine wp_ialdv (v := nI 5) (ck_get kk_Ju_evaluate 15 rfl) (by assumption) (by first | assumption | exact ixk_nI (by omega) (by omega)) (hci) ?_
    refine wp_istore (ck_get kk_Ju_evaluate 16 rfl) (by decide) rfl ?_
    refine wp_aload_n rfl (ck_get kk_Ju_evaluate 17 rfl) ?_
    refine wp_getR (ck_get kk_Ju_evaluate 18 rfl) fl_Ju_96 (by assumption) (by assumption) ?_
    refine wp_iload rfl (ck_get kk_Ju_evaluate 19 rfl) ?_
    refine wp_iconst (v := nI 1) (by decide) (ck_get kk_Ju_evaluate 20 rfl) ?_
    first | refine wp_iaddN (ck_get kk_Ju_evaluate 21 rfl) ?_ | refine wp_iadd (ck_get kk_Ju_evaluate 21 rfl) ?_
    refine wp_ialdv (v := nI u) (ck_get kk_Ju_evaluate 22 rfl) (by assumption) (by first | assumption | exact ixk_nI (by omega) (by omega)) (hv) ?_
    refine wp_istore (ck_get kk_Ju_evaluate 23 rfl) (by decide) rfl ?_
    refine wp_iload rfl (ck_get kk_Ju_evaluate 24 rfl) ?_
    first | refine wp_if_neN (t := 67) (ck_get kk_Ju_evaluate 25 rfl) (by decide) (by omega) (fun hc43 => ?_) (fun hc43 => ?_) | refine wp_if_ne (t := 67) (ck_get kk_Ju_evaluate 25 rfl) (by decide) (fun hc43 => ?_) (fun hc43 => ?_)
    · refine wp_iload rfl (ck_get kk_Ju_evaluate 37 rfl) ?_
      refine wp_iconst (v := nI 1) (by decide) (ck_get kk_Ju_evaluate 38 rfl) ?_
      first | refine wp_icmp_eqN (t := 79) (ck_get kk_Ju_evaluate 39 rfl) (by decide) (by omega) (by omega) (fun hc70 => ?_) (fun hc70 => ?_) | refine wp_icmp_eq (t := 79) (ck_get kk_Ju_evaluate 39 rfl) (by decide) (fun hc70 => ?_) (fun hc70 => ?_)
      · omega
      · refine wp_iload rfl (ck_get kk_Ju_evaluate 40 rfl) ?_
        refine wp_iconst (v := nI 2) (by decide) (ck_get kk_Ju_evaluate 41 rfl) ?_
        first | refine wp_icmp_neN (t := 141) (ck_get kk_Ju_evaluate 42 rfl) (by decide) (by omega) (by omega) (fun hc76 => ?_) (fun hc76 => ?_) | refine wp_icmp_ne (t := 141) (ck_get kk_Ju_evaluate 42 rfl) (by decide) (fun hc76 => ?_) (fun hc76 => ?_)
        · refine wp_iload rfl (ck_get kk_Ju_evaluate 75 rfl) ?_
          refine wp_iconst (v := nI 1) (by decide) (ck_get kk_Ju_evaluate 76 rfl) ?_
          first | refine wp_icmp_geN (t := 151) (ck_get kk_Ju_evaluate 77 rfl) (by decide) (by omega) (by omega) (fun hc144 => ?_) (fun hc144 => ?_) | refine wp_icmp_ge (t := 151) (ck_get kk_Ju_evaluate 77 rfl) (by decide) (fun hc144 => ?_) (fun hc144 => ?_)
          · refine wp_iload rfl (ck_get kk_Ju_evaluate 80 rfl) ?_
            refine wp_iconst (v := nI 3) (by decide) (ck_get kk_Ju_evaluate 81 rfl) ?_
            first | refine wp_icmp_neN (t := 180) (ck_get kk_Ju_evaluate 82 rfl) (by decide) (by omega) (by omega) (fun hc154 => ?_) (fun hc154 => ?_) | refine wp_icmp_ne (t := 180) (ck_get kk_Ju_evaluate 82 rfl) (by decide) (fun hc154 => ?_) (fun hc154 => ?_)
            · refine wp_iload rfl (ck_get kk_Ju_evaluate 98 rfl) ?_
              refine wp_iconst (v := nI 4) (by decide) (ck_get kk_Ju_evaluate 99 rfl) ?_
              first | refine wp_icmp_eqN (t := 192) (ck_get kk_Ju_evaluate 100 rfl) (by decide) (by omega) (by omega) (fun hc183 => ?_) (fun hc183 => ?_) | refine wp_icmp_eq (t := 192) (ck_get kk_Ju_evaluate 100 rfl) (by decide) (fun hc183 => ?_) (fun hc183 => ?_)
              · omega
              · refine wp_iload rfl (ck_get kk_Ju_evaluate 101 rfl) ?_
                refine wp_iconst (v := nI 5) (by decide) (ck_get kk_Ju_evaluate 102 rfl) ?_
                first | refine wp_icmp_neN (t := 237) (ck_get kk_Ju_evaluate 103 rfl) (by decide) (by omega) (by omega) (fun hc189 => ?_) (fun hc189 => ?_) | refine wp_icmp_ne (t := 237) (ck_get kk_Ju_evaluate 103 rfl) (by decide) (fun hc189 => ?_) (fun hc189 => ?_)
                · omega
                · refine wp_aload_n rfl (ck_get kk_Ju_evaluate 104 rfl) ?_
                  refine wp_getR (ck_get kk_Ju_evaluate 105 rfl) fl_Ju_26 (by assumption) (by assumption) ?_
                  refine wp_iload rfl (ck_get kk_Ju_evaluate 106 rfl) ?_
                  refine wp_iconst (v := nI 1) (by decide) (ck_get kk_Ju_evaluate 107 rfl) ?_
                  first | refine wp_isubN (ck_get kk_Ju_evaluate 108 rfl) (by omega) ?_ | refine wp_isub (ck_get kk_Ju_evaluate 108 rfl) ?_
                  refine wp_laldv (v := S (sz - 1)) (ck_get kk_Ju_evaluate 109 rfl) (by assumption) (ixk_nI (k := sz - 1) (by omega) (by omega)) (show up1 (mJ M) (j + 3) S (j + 3) (sz - 1) = _ by rw [up1_eq]) ?_
                  refine wp_iload rfl (ck_get kk_Ju_evaluate 110 rfl) ?_
                  refine wp_iconst (v := nI 4) (by decide) (ck_get kk_Ju_evaluate 111 rfl) ?_
                  first | refine wp_icmp_neN (t := 211) (ck_get kk_Ju_evaluate 112 rfl) (by decide) (by omega) (by omega) (fun hc204 => ?_) (fun hc204 => ?_) | refine wp_icmp_ne (t := 211) (ck_get kk_Ju_evaluate 112 rfl) (by decide) (fun hc204 => ?_) (fun hc204 => ?_)
                  · refine wp_iconst (v := nI 0) (by decide) (ck_get kk_Ju_evaluate 115 rfl) ?_
                    refine wp_i2l (ck_get kk_Ju_evaluate 116 rfl) ?_
                    refine wp_lcmp (ck_get kk_Ju_evaluate 117 rfl) ?_
                    refine wp_if_ne (t := 231) (ck_get kk_Ju_evaluate 118 rfl) (by decide) (fun hc214 => ?_) (fun hc214 => ?_)
                    · refine wp_iinc (ck_get kk_Ju_evaluate 126 rfl) rfl (by decide) rfl ?_
                      rw [show nI sz + Int32.ofInt (-1) = nI (sz - 1) by rw [show sz = sz - 1 + 1 by omega]; exact pk_m1 (sz - 1)]
                      refine wp_goto (t := 301) (ck_get kk_Ju_evaluate 127 rfl) (by decide) ?_
                      refine l_ev301 ?_
                      have h1 : ¬ S (sz - 1) = 0 := fun h => hc214 ((lcmp_eq _ _).mpr h)
                      exact K2 h1 (some (.int (nI 5))) (some (.int (nI u))) x8 x9
                    · refine wp_iload rfl (ck_get kk_Ju_evaluate 119 rfl) ?_
                      refine wp_iload rfl (ck_get kk_Ju_evaluate 120 rfl) ?_
                      refine wp_iconst (v := nI 2) (by decide) (ck_get kk_Ju_evaluate 121 rfl) ?_
                      first | refine wp_isubN (ck_get kk_Ju_evaluate 122 rfl) (by omega) ?_ | refine wp_isub (ck_get kk_Ju_evaluate 122 rfl) ?_
                      refine wp_cS2i (ck_get kk_Ju_evaluate 123 rfl) ml_Ju_90 (by omega) (Nat.le_of_ble_eq_true rfl) (Ci.to (c_max (by omega) (by omega)) ?_)
                      rintro _ M1 ⟨rfl, eqm1⟩
                      obtain rfl := eqm1.symm
                      refine wp_istore (ck_get kk_Ju_evaluate 124 rfl) (by decide) rfl ?_
                      refine wp_goto (t := 301) (ck_get kk_Ju_evaluate 125 rfl) (by decide) ?_
                      have h1 : S (sz - 1) = 0 := (lcmp_eq _ _).mp hc214
                      refine l_ev301 ?_
                      exact K1 h1 (some (.int (nI 5))) (some (.int (nI u))) x8 x9
                  · omega
            · omega
          · omega
        · omega
    · omega
theorem ev_c6 {x2 x6 x7 x8 x9 : Option Value} {sz i : Nat} {c : Nat} {S : Nat → Int64} (hJ : JuAt (mT M) (mR M) j) (hP : PrAt (mT M) (mR M) p cn) (h8 : mI M p 8 = nI cl) (hcl : cl ≤ cn) (hcn : cn ≤ 1024) (hw : mT M w = (20, vn)) (hvn : vn < 100) (hi : i + 1 < cl) (hci : mI M (p + 7) i = nI c) (hsz : sz ≤ 64) (hc6 : 6 ≤ c) (hcb : c < 256) (hsg : isSg c = true) {v : Int64} (hs : 2 ≤ sz) (K1 : cmb c (S (sz - 2)) (S (sz - 1)) = brk → v = brk) (K2 : ¬ cmb c (S (sz - 2)) (S (sz - 1)) = brk → ∀ y6 y7 y8 y9, Wp g Y_Ju_evaluate 1 10 [some (.ref j), some (.ref p), x2, some (.ref w), some (.int (nI (sz - 1))), some (.int (nI (i + 2))), y6, y7, y8, y9] [] (evM M j (up1 S (sz - 2) (cmb c (S (sz - 2)) (S (sz - 1))))) (evQ M j v)) : Wp g Y_Ju_evaluate 1 10 [some (.ref j), some (.ref p), x2, some (.ref w), some (.int (nI sz)), some (.int (nI i)), x6, x7, x8, x9] [] (evM M j S) (evQ M j v) := by
  obtain ⟨tj0, rj2, tj1, rj3, tj2, rj4, tj3⟩ := hJ
  obtain ⟨tp0, rpk, tpk, tp7⟩ := hP
  have rp7 := rpk 7 (by omega) (by omega)
  refine wp_iload rfl (ck_get kk_Ju_evaluate 6 rfl) ?_
  refine wp_iconst (v := nI 1) (by decide) (ck_get kk_Ju_evaluate 7 rfl) ?_
  first | refine wp_iaddN (ck_get kk_Ju_evaluate 8 rfl) ?_ | refine wp_iadd (ck_get kk_Ju_evaluate 8 rfl) ?_
  refine wp_aload_n rfl (ck_get kk_Ju_evaluate 9 rfl) ?_
  refine wp_getIv (v := nI cl) (ck_get kk_Ju_evaluate 10 rfl) fl_Ju_93 (by assumption) (h8) ?_
  first | refine wp_icmp_geN (t := 307) (ck_get kk_Ju_evaluate 11 rfl) (by decide) (by omega) (by omega) (fun hc18 => ?_) (fun hc18 => ?_) | refine wp_icmp_ge (t := 307) (ck_get kk_Ju_evaluate 11 rfl) (by decide) (fun hc18 => ?_) (fun hc18 => ?_)
  · omega
  · refine wp_aload_n rfl (ck_get kk_Ju_evaluate 12 rfl) ?_
    refine wp_getR (ck_get kk_Ju_evaluate 13 rfl) fl_Ju_96 (by assumption) (by assumption) ?_
    refine wp_iload rfl (ck_get kk_Ju_evaluate 14 rfl) ?_
    refine wp_ialdv (v := nI c) (ck_get kk_Ju_evaluate 15 rfl) (by assumption) (by first | assumption | exact ixk_nI (by omega) (by omega)) (hci) ?_
    refine wp_istore (ck_get kk_Ju_evaluate 16 rfl) (by decide) rfl ?_
    refine wp_aload_n rfl (ck_get kk_Ju_evaluate 17 rfl) ?_
    refine wp_getR (ck_get kk_Ju_evaluate 18 rfl) fl_Ju_96 (by assumption) (by assumption) ?_
    refine wp_iload rfl (ck_get kk_Ju_evaluate 19 rfl) ?_
    refine wp_iconst (v := nI 1) (by decide) (ck_get kk_Ju_evaluate 20 rfl) ?_
    first | refine wp_iaddN (ck_get kk_Ju_evaluate 21 rfl) ?_ | refine wp_iadd (ck_get kk_Ju_evaluate 21 rfl) ?_
    refine wp_iald (ck_get kk_Ju_evaluate 22 rfl) (by assumption) (by first | assumption | exact ixk_nI (by omega) (by omega)) ?_
    refine wp_istore (ck_get kk_Ju_evaluate 23 rfl) (by decide) rfl ?_
    refine wp_iload rfl (ck_get kk_Ju_evaluate 24 rfl) ?_
    first | refine wp_if_neN (t := 67) (ck_get kk_Ju_evaluate 25 rfl) (by decide) (by omega) (fun hc43 => ?_) (fun hc43 => ?_) | refine wp_if_ne (t := 67) (ck_get kk_Ju_evaluate 25 rfl) (by decide) (fun hc43 => ?_) (fun hc43 => ?_)
    · refine wp_iload rfl (ck_get kk_Ju_evaluate 37 rfl) ?_
      refine wp_iconst (v := nI 1) (by decide) (ck_get kk_Ju_evaluate 38 rfl) ?_
      first | refine wp_icmp_eqN (t := 79) (ck_get kk_Ju_evaluate 39 rfl) (by decide) (by omega) (by omega) (fun hc70 => ?_) (fun hc70 => ?_) | refine wp_icmp_eq (t := 79) (ck_get kk_Ju_evaluate 39 rfl) (by decide) (fun hc70 => ?_) (fun hc70 => ?_)
      · omega
      · refine wp_iload rfl (ck_get kk_Ju_evaluate 40 rfl) ?_
        refine wp_iconst (v := nI 2) (by decide) (ck_get kk_Ju_evaluate 41 rfl) ?_
        first | refine wp_icmp_neN (t := 141) (ck_get kk_Ju_evaluate 42 rfl) (by decide) (by omega) (by omega) (fun hc76 => ?_) (fun hc76 => ?_) | refine wp_icmp_ne (t := 141) (ck_get kk_Ju_evaluate 42 rfl) (by decide) (fun hc76 => ?_) (fun hc76 => ?_)
        · refine wp_iload rfl (ck_get kk_Ju_evaluate 75 rfl) ?_
          refine wp_iconst (v := nI 1) (by decide) (ck_get kk_Ju_evaluate 76 rfl) ?_
          first | refine wp_icmp_geN (t := 151) (ck_get kk_Ju_evaluate 77 rfl) (by decide) (by omega) (by omega) (fun hc144 => ?_) (fun hc144 => ?_) | refine wp_icmp_ge (t := 151) (ck_get kk_Ju_evaluate 77 rfl) (by decide) (fun hc144 => ?_) (fun hc144 => ?_)
          · refine wp_iload rfl (ck_get kk_Ju_evaluate 80 rfl) ?_
            refine wp_iconst (v := nI 3) (by decide) (ck_get kk_Ju_evaluate 81 rfl) ?_
            first | refine wp_icmp_neN (t := 180) (ck_get kk_Ju_evaluate 82 rfl) (by decide) (by omega) (by omega) (fun hc154 => ?_) (fun hc154 => ?_) | refine wp_icmp_ne (t := 180) (ck_get kk_Ju_evaluate 82 rfl) (by decide) (fun hc154 => ?_) (fun hc154 => ?_)
            · refine wp_iload rfl (ck_get kk_Ju_evaluate 98 rfl) ?_
              refine wp_iconst (v := nI 4) (by decide) (ck_get kk_Ju_evaluate 99 rfl) ?_
              first | refine wp_icmp_eqN (t := 192) (ck_get kk_Ju_evaluate 100 rfl) (by decide) (by omega) (by omega) (fun hc183 => ?_) (fun hc183 => ?_) | refine wp_icmp_eq (t := 192) (ck_get kk_Ju_evaluate 100 rfl) (by decide) (fun hc183 => ?_) (fun hc183 => ?_)
              · omega
              · refine wp_iload rfl (ck_get kk_Ju_evaluate 101 rfl) ?_
                refine wp_iconst (v := nI 5) (by decide) (ck_get kk_Ju_evaluate 102 rfl) ?_
                first | refine wp_icmp_neN (t := 237) (ck_get kk_Ju_evaluate 103 rfl) (by decide) (by omega) (by omega) (fun hc189 => ?_) (fun hc189 => ?_) | refine wp_icmp_ne (t := 237) (ck_get kk_Ju_evaluate 103 rfl) (by decide) (fun hc189 => ?_) (fun hc189 => ?_)
                · refine wp_iload rfl (ck_get kk_Ju_evaluate 128 rfl) ?_
                  refine wp_iconst (v := nI 2) (by decide) (ck_get kk_Ju_evaluate 129 rfl) ?_
                  first | refine wp_icmp_geN (t := 249) (ck_get kk_Ju_evaluate 130 rfl) (by decide) (by omega) (by omega) (fun hc240 => ?_) (fun hc240 => ?_) | refine wp_icmp_ge (t := 249) (ck_get kk_Ju_evaluate 130 rfl) (by decide) (fun hc240 => ?_) (fun hc240 => ?_)
                  · refine wp_iload rfl (ck_get kk_Ju_evaluate 133 rfl) ?_
                    refine wp_aload_n rfl (ck_get kk_Ju_evaluate 134 rfl) ?_
                    refine wp_getR (ck_get kk_Ju_evaluate 135 rfl) fl_Ju_26 (by assumption) (by assumption) ?_
                    refine wp_iload rfl (ck_get kk_Ju_evaluate 136 rfl) ?_
                    refine wp_iconst (v := nI 2) (by decide) (ck_get kk_Ju_evaluate 137 rfl) ?_
                    first | refine wp_isubN (ck_get kk_Ju_evaluate 138 rfl) (by omega) ?_ | refine wp_isub (ck_get kk_Ju_evaluate 138 rfl) ?_
                    refine wp_laldv (v := S (sz - 2)) (ck_get kk_Ju_evaluate 139 rfl) (by assumption) (ixk_nI (k := sz - 2) (by omega) (by omega)) (show up1 (mJ M) (j + 3) S (j + 3) (sz - 2) = _ by rw [up1_eq]) ?_
                    refine wp_aload_n rfl (ck_get kk_Ju_evaluate 140 rfl) ?_
                    refine wp_getR (ck_get kk_Ju_evaluate 141 rfl) fl_Ju_26 (by assumption) (by assumption) ?_
                    refine wp_iload rfl (ck_get kk_Ju_evaluate 142 rfl) ?_
                    refine wp_iconst (v := nI 1) (by decide) (ck_get kk_Ju_evaluate 143 rfl) ?_
                    first | refine wp_isubN (ck_get kk_Ju_evaluate 144 rfl) (by omega) ?_ | refine wp_isub (ck_get kk_Ju_evaluate 144 rfl) ?_
                    refine wp_laldv (v := S (sz - 1)) (ck_get kk_Ju_evaluate 145 rfl) (by assumption) (ixk_nI (k := sz - 1) (by omega) (by omega)) (show up1 (mJ M) (j + 3) S (j + 3) (sz - 1) = _ by rw [up1_eq]) ?_
                    refine wp_cS3l (ck_get kk_Ju_evaluate 146 rfl) ml_Ju_99 (by omega) (Nat.le_of_ble_eq_true rfl) (Cl.to (c_combine hsg) ?_)
                    rintro _ M1 ⟨rfl, eqm1⟩
                    obtain rfl := eqm1.symm
                    refine wp_lstore (ck_get kk_Ju_evaluate 147 rfl) (by decide) rfl ?_
                    refine wp_lload rfl (ck_get kk_Ju_evaluate 148 rfl) ?_
                    refine wp_ldc2 kl_Ju_77 (ck_get kk_Ju_evaluate 149 rfl) ?_
                    refine wp_lcmp (ck_get kk_Ju_evaluate 150 rfl) ?_
                    refine wp_if_ne (t := 287) (ck_get kk_Ju_evaluate 151 rfl) (by decide) (fun hc280 => ?_) (fun hc280 => ?_)
                    · refine wp_iinc (ck_get kk_Ju_evaluate 154 rfl) rfl (by decide) rfl ?_
                      rw [show nI sz + Int32.ofInt (-1) = nI (sz - 1) by rw [show sz = sz - 1 + 1 by omega]; exact pk_m1 (sz - 1)]
                      refine wp_aload_n rfl (ck_get kk_Ju_evaluate 155 rfl) ?_
                      refine wp_getR (ck_get kk_Ju_evaluate 156 rfl) fl_Ju_26 (by assumption) (by assumption) ?_
                      refine wp_iload rfl (ck_get kk_Ju_evaluate 157 rfl) ?_
                      refine wp_iconst (v := nI 1) (by decide) (ck_get kk_Ju_evaluate 158 rfl) ?_
                      first | refine wp_isubN (ck_get kk_Ju_evaluate 159 rfl) (by omega) ?_ | refine wp_isub (ck_get kk_Ju_evaluate 159 rfl) ?_
                      refine wp_lload rfl (ck_get kk_Ju_evaluate 160 rfl) ?_
                      refine wp_last (ck_get kk_Ju_evaluate 161 rfl) (by assumption) (ixk_nI (k := sz - 1 - 1) (by omega) (by omega)) ?_
                      have h1 : ¬ cmb c (S (sz - 2)) (S (sz - 1)) = brk := fun h => hc280 ((lcmp_eq _ _).mpr h)
                      refine l_ev301 ?_
                      have hK := K2 h1 (some (.int (nI c))) (some (.int (mI M (p + 7) (i + 1)))) (some (.long (cmb c (S (sz - 2)) (S (sz - 1))))) none
                      rw [show evM M j (up1 S (sz - 2) (cmb c (S (sz - 2)) (S (sz - 1)))) = mk2 M (mI M) (up2 (up1 (mJ M) (j + 3) S) (j + 3) (sz - 1 - 1) (cmb c (S (sz - 2)) (S (sz - 1)))) by rw [up2_up1, up1_eq, up1_up1]; rfl] at hK
                      exact hK
                    · refine wp_ldc2 kl_Ju_77 (ck_get kk_Ju_evaluate 152 rfl) ?_
                      refine wp_lreturn (ck_get kk_Ju_evaluate 153 rfl) rfl ⟨_, rfl, ?_⟩
                      have h1 : cmb c (S (sz - 2)) (S (sz - 1)) = brk := (lcmp_eq _ _).mp hc280
                      exact ⟨(K1 h1).symm, S, rfl⟩
                  · omega
                · omega
            · omega
          · omega
        · omega
    · omega
/-- the guards: too many, too few wait; a word that isn't there -/
theorem ev_few {x2 x6 x7 x8 x9 : Option Value} {sz i c : Nat} {S : Nat → Int64} (hJ : JuAt (mT M) (mR M) j) (hP : PrAt (mT M) (mR M) p cn) (h8 : mI M p 8 = nI cl) (hcl : cl ≤ cn) (hcn : cn ≤ 1024) (hw : mT M w = (20, vn)) (hvn : vn < 100) (hi : i + 1 < cl) (hci : mI M (p + 7) i = nI c) (hc : 3 ≤ c) (hcb : c < 256) (hsz : sz = 0) : Wp g Y_Ju_evaluate 1 10 [some (.ref j), some (.ref p), x2, some (.ref w), some (.int (nI sz)), some (.int (nI i)), x6, x7, x8, x9] [] (evM M j S) (evQ M j brk) := by
  obtain ⟨tj0, rj2, tj1, rj3, tj2, rj4, tj3⟩ := hJ
  obtain ⟨tp0, rpk, tpk, tp7⟩ := hP
  have rp7 := rpk 7 (by omega) (by omega)
  subst hsz
  refine wp_iload rfl (ck_get kk_Ju_evaluate 6 rfl) ?_
  refine wp_iconst (v := nI 1) (by decide) (ck_get kk_Ju_evaluate 7 rfl) ?_
  first | refine wp_iaddN (ck_get kk_Ju_evaluate 8 rfl) ?_ | refine wp_iadd (ck_get kk_Ju_evaluate 8 rfl) ?_
  refine wp_aload_n rfl (ck_get kk_Ju_evaluate 9 rfl) ?_
  refine wp_getIv (v := nI cl) (ck_get kk_Ju_evaluate 10 rfl) fl_Ju_93 (by assumption) (h8) ?_
  first | refine wp_icmp_geN (t := 307) (ck_get kk_Ju_evaluate 11 rfl) (by decide) (by omega) (by omega) (fun hc18 => ?_) (fun hc18 => ?_) | refine wp_icmp_ge (t := 307) (ck_get kk_Ju_evaluate 11 rfl) (by decide) (fun hc18 => ?_) (fun hc18 => ?_)
  · omega
  · refine wp_aload_n rfl (ck_get kk_Ju_evaluate 12 rfl) ?_
    refine wp_getR (ck_get kk_Ju_evaluate 13 rfl) fl_Ju_96 (by assumption) (by assumption) ?_
    refine wp_iload rfl (ck_get kk_Ju_evaluate 14 rfl) ?_
    refine wp_ialdv (v := nI c) (ck_get kk_Ju_evaluate 15 rfl) (by assumption) (by first | assumption | exact ixk_nI (by omega) (by omega)) (hci) ?_
    refine wp_istore (ck_get kk_Ju_evaluate 16 rfl) (by decide) rfl ?_
    refine wp_aload_n rfl (ck_get kk_Ju_evaluate 17 rfl) ?_
    refine wp_getR (ck_get kk_Ju_evaluate 18 rfl) fl_Ju_96 (by assumption) (by assumption) ?_
    refine wp_iload rfl (ck_get kk_Ju_evaluate 19 rfl) ?_
    refine wp_iconst (v := nI 1) (by decide) (ck_get kk_Ju_evaluate 20 rfl) ?_
    first | refine wp_iaddN (ck_get kk_Ju_evaluate 21 rfl) ?_ | refine wp_iadd (ck_get kk_Ju_evaluate 21 rfl) ?_
    refine wp_iald (ck_get kk_Ju_evaluate 22 rfl) (by assumption) (by first | assumption | exact ixk_nI (by omega) (by omega)) ?_
    refine wp_istore (ck_get kk_Ju_evaluate 23 rfl) (by decide) rfl ?_
    refine wp_iload rfl (ck_get kk_Ju_evaluate 24 rfl) ?_
    first | refine wp_if_neN (t := 67) (ck_get kk_Ju_evaluate 25 rfl) (by decide) (by omega) (fun hc43 => ?_) (fun hc43 => ?_) | refine wp_if_ne (t := 67) (ck_get kk_Ju_evaluate 25 rfl) (by decide) (fun hc43 => ?_) (fun hc43 => ?_)
    · refine wp_iload rfl (ck_get kk_Ju_evaluate 37 rfl) ?_
      refine wp_iconst (v := nI 1) (by decide) (ck_get kk_Ju_evaluate 38 rfl) ?_
      first | refine wp_icmp_eqN (t := 79) (ck_get kk_Ju_evaluate 39 rfl) (by decide) (by omega) (by omega) (fun hc70 => ?_) (fun hc70 => ?_) | refine wp_icmp_eq (t := 79) (ck_get kk_Ju_evaluate 39 rfl) (by decide) (fun hc70 => ?_) (fun hc70 => ?_)
      · omega
      · refine wp_iload rfl (ck_get kk_Ju_evaluate 40 rfl) ?_
        refine wp_iconst (v := nI 2) (by decide) (ck_get kk_Ju_evaluate 41 rfl) ?_
        first | refine wp_icmp_neN (t := 141) (ck_get kk_Ju_evaluate 42 rfl) (by decide) (by omega) (by omega) (fun hc76 => ?_) (fun hc76 => ?_) | refine wp_icmp_ne (t := 141) (ck_get kk_Ju_evaluate 42 rfl) (by decide) (fun hc76 => ?_) (fun hc76 => ?_)
        · refine wp_iload rfl (ck_get kk_Ju_evaluate 75 rfl) ?_
          refine wp_iconst (v := nI 1) (by decide) (ck_get kk_Ju_evaluate 76 rfl) ?_
          first | refine wp_icmp_geN (t := 151) (ck_get kk_Ju_evaluate 77 rfl) (by decide) (by omega) (by omega) (fun hc144 => ?_) (fun hc144 => ?_) | refine wp_icmp_ge (t := 151) (ck_get kk_Ju_evaluate 77 rfl) (by decide) (fun hc144 => ?_) (fun hc144 => ?_)
          · omega
          · refine wp_ldc2 kl_Ju_77 (ck_get kk_Ju_evaluate 78 rfl) ?_
            refine wp_lreturn (ck_get kk_Ju_evaluate 79 rfl) rfl ⟨_, rfl, ?_⟩
            exact ⟨rfl, S, rfl⟩
        · omega
    · omega
end EW

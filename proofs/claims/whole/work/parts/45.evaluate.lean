/-! ===== MissCurves$Judge: evaluate ===== -/
section EX
variable {g : Gl} {M : Mem} {j p w cl cn vn : Nat}
theorem ev_full1 {x2 x6 x7 x8 x9 : Option Value} {i : Nat} {S : Nat → Int64} (hJ : JuAt (mT M) (mR M) j) (hP : PrAt (mT M) (mR M) p cn) (h8 : mI M p 8 = nI cl) (hcl : cl ≤ cn) (hcn : cn ≤ 1024) (hw : mT M w = (20, vn)) (hvn : vn < 100) (hi : i + 1 < cl) (hci : mI M (p + 7) i = nI 1) : Wp g Y_Ju_evaluate 1 10 [some (.ref j), some (.ref p), x2, some (.ref w), some (.int (nI 64)), some (.int (nI i)), x6, x7, x8, x9] [] (evM M j S) (evQ M j brk) := by
  obtain ⟨tj0, rj2, tj1, rj3, tj2, rj4, tj3⟩ := hJ
  obtain ⟨tp0, rpk, tpk, tp7⟩ := hP
  have rp7 := rpk 7 (by omega) (by omega)
  refine wp_iload rfl (ck_get kk_Ju_evaluate 6 rfl) ?_
  refine wp_iconst (v := nI 1) (by decide) (ck_get kk_Ju_evaluate 7 rfl) ?_
  first | refine wp_iaddN (ck_get kk_Ju_evaluate 8 rfl) ?_ | refine wp_iadd (ck_get kk_Ju_evaluate 8 rfl) ?_
  refine wp_aload_n rfl (ck_get kk_Ju_evaluate 9 rfl) ?_
  refine wp_getIv (v := nI cl) (ck_get kk_Ju_evaluate 10 rfl) fl_Ju_93 (by assumption) (h8) ?_
  first | refine wp_icmp_geN (t := 307) (ck_get kk_Ju_evaluate 11 rfl) (by decide) (by omega) (by omega) (fun hc18 => ?_) (fun hc18 => ?_) | refine wp_icmp_ge (t := 307) (ck_get kk_Ju_evaluate 11 rfl) (by decide) (fun hc18 => ?_) (fun hc18 => ?_)
  · omega
  · refine wp_aload_n rfl (ck_get kk_Ju_evaluate 12 rfl) ?_
    refine wp_getR (ck_get kk_Ju_evaluate 13 rfl) fl_Ju_96 (by assumption) (by assumption) ?_
    refine wp_iload rfl (ck_get kk_Ju_evaluate 14 rfl) ?_
    refine wp_ialdv (v := nI 1) (ck_get kk_Ju_evaluate 15 rfl) (by assumption) (by first | assumption | exact ixk_nI (by omega) (by omega)) (hci) ?_
    refine wp_istore (ck_get kk_Ju_evaluate 16 rfl) (by decide) rfl ?_
    refine wp_aload_n rfl (ck_get kk_Ju_evaluate 17 rfl) ?_
    refine wp_getR (ck_get kk_Ju_evaluate 18 rfl) fl_Ju_96 (by assumption) (by assumption) ?_
    refine wp_iload rfl (ck_get kk_Ju_evaluate 19 rfl) ?_
    refine wp_iconst (v := nI 1) (by decide) (ck_get kk_Ju_evaluate 20 rfl) ?_
    first | refine wp_iaddN (ck_get kk_Ju_evaluate 21 rfl) ?_ | refine wp_iadd (ck_get kk_Ju_evaluate 21 rfl) ?_
    refine wp_iald (ck_get kk_Ju_evaluate 22 rfl) (by assumption) (by first | assumption | exact ixk_nI (by omega) (by omega)) ?_
    refine wp_istore (ck_get kk_Ju_evaluate 23 rfl) (by decide) rfl ?_
    refine wp_iload rfl (ck_get kk_Ju_evaluate 24 rfl) ?_
    first | refine wp_if_neN (t := 67) (ck_get kk_Ju_evaluate 25 rfl) (by decide) (by omega) (fun hc43 => ?_) (fun hc43 => ?_) | refine wp_if_ne (t := 67) (ck_get kk_Ju_evaluate 25 rfl) (by decide) (fun hc43 => ?_) (fun hc43 => ?_)
    · refine wp_iload rfl (ck_get kk_Ju_evaluate 37 rfl) ?_
      refine wp_iconst (v := nI 1) (by decide) (ck_get kk_Ju_evaluate 38 rfl) ?_
      first | refine wp_icmp_eqN (t := 79) (ck_get kk_Ju_evaluate 39 rfl) (by decide) (by omega) (by omega) (fun hc70 => ?_) (fun hc70 => ?_) | refine wp_icmp_eq (t := 79) (ck_get kk_Ju_evaluate 39 rfl) (by decide) (fun hc70 => ?_) (fun hc70 => ?_)
      · refine wp_iload rfl (ck_get kk_Ju_evaluate 43 rfl) ?_
        refine wp_aload_n rfl (ck_get kk_Ju_evaluate 44 rfl) ?_
        refine wp_getR (ck_get kk_Ju_evaluate 45 rfl) fl_Ju_26 (by assumption) (by assumption) ?_
        refine wp_alen (ck_get kk_Ju_evaluate 46 rfl) (by assumption) ?_
        first | refine wp_icmp_geN (t := 107) (ck_get kk_Ju_evaluate 47 rfl) (by decide) (by omega) (by omega) (fun hc86 => ?_) (fun hc86 => ?_) | refine wp_icmp_ge (t := 107) (ck_get kk_Ju_evaluate 47 rfl) (by decide) (fun hc86 => ?_) (fun hc86 => ?_)
        · refine wp_ldc2 kl_Ju_77 (ck_get kk_Ju_evaluate 57 rfl) ?_
          refine wp_lreturn (ck_get kk_Ju_evaluate 58 rfl) rfl ⟨_, rfl, ?_⟩
          exact ⟨rfl, S, rfl⟩
        · omega
      · omega
    · omega
theorem ev_full2 {x2 x6 x7 x8 x9 : Option Value} {i : Nat} {S : Nat → Int64} (hJ : JuAt (mT M) (mR M) j) (hP : PrAt (mT M) (mR M) p cn) (h8 : mI M p 8 = nI cl) (hcl : cl ≤ cn) (hcn : cn ≤ 1024) (hw : mT M w = (20, vn)) (hvn : vn < 100) (hi : i + 1 < cl) (hci : mI M (p + 7) i = nI 2) : Wp g Y_Ju_evaluate 1 10 [some (.ref j), some (.ref p), x2, some (.ref w), some (.int (nI 64)), some (.int (nI i)), x6, x7, x8, x9] [] (evM M j S) (evQ M j brk) := by
  obtain ⟨tj0, rj2, tj1, rj3, tj2, rj4, tj3⟩ := hJ
  obtain ⟨tp0, rpk, tpk, tp7⟩ := hP
  have rp7 := rpk 7 (by omega) (by omega)
  refine wp_iload rfl (ck_get kk_Ju_evaluate 6 rfl) ?_
  refine wp_iconst (v := nI 1) (by decide) (ck_get kk_Ju_evaluate 7 rfl) ?_
  first | refine wp_iaddN (ck_get kk_Ju_evaluate 8 rfl) ?_ | refine wp_iadd (ck_get kk_Ju_evaluate 8 rfl) ?_
  refine wp_aload_n rfl (ck_get kk_Ju_evaluate 9 rfl) ?_
  refine wp_getIv (v := nI cl) (ck_get kk_Ju_evaluate 10 rfl) fl_Ju_93 (by assumption) (h8) ?_
  first | refine wp_icmp_geN (t := 307) (ck_get kk_Ju_evaluate 11 rfl) (by decide) (by omega) (by omega) (fun hc18 => ?_) (fun hc18 => ?_) | refine wp_icmp_ge (t := 307) (ck_get kk_Ju_evaluate 11 rfl) (by decide) (fun hc18 => ?_) (fun hc18 => ?_)
  · omega
  · refine wp_aload_n rfl (ck_get kk_Ju_evaluate 12 rfl) ?_
    refine wp_getR (ck_get kk_Ju_evaluate 13 rfl) fl_Ju_96 (by assumption) (by assumption) ?_
    refine wp_iload rfl (ck_get kk_Ju_evaluate 14 rfl) ?_
    refine wp_ialdv (v := nI 2) (ck_get kk_Ju_evaluate 15 rfl) (by assumption) (by first | assumption | exact ixk_nI (by omega) (by omega)) (hci) ?_
    refine wp_istore (ck_get kk_Ju_evaluate 16 rfl) (by decide) rfl ?_
    refine wp_aload_n rfl (ck_get kk_Ju_evaluate 17 rfl) ?_
    refine wp_getR (ck_get kk_Ju_evaluate 18 rfl) fl_Ju_96 (by assumption) (by assumption) ?_
    refine wp_iload rfl (ck_get kk_Ju_evaluate 19 rfl) ?_
    refine wp_iconst (v := nI 1) (by decide) (ck_get kk_Ju_evaluate 20 rfl) ?_
    first | refine wp_iaddN (ck_get kk_Ju_evaluate 21 rfl) ?_ | refine wp_iadd (ck_get kk_Ju_evaluate 21 rfl) ?_
    refine wp_iald (ck_get kk_Ju_evaluate 22 rfl) (by assumption) (by first | assumption | exact ixk_nI (by omega) (by omega)) ?_
    refine wp_istore (ck_get kk_Ju_evaluate 23 rfl) (by decide) rfl ?_
    refine wp_iload rfl (ck_get kk_Ju_evaluate 24 rfl) ?_
    first | refine wp_if_neN (t := 67) (ck_get kk_Ju_evaluate 25 rfl) (by decide) (by omega) (fun hc43 => ?_) (fun hc43 => ?_) | refine wp_if_ne (t := 67) (ck_get kk_Ju_evaluate 25 rfl) (by decide) (fun hc43 => ?_) (fun hc43 => ?_)
    · refine wp_iload rfl (ck_get kk_Ju_evaluate 37 rfl) ?_
      refine wp_iconst (v := nI 1) (by decide) (ck_get kk_Ju_evaluate 38 rfl) ?_
      first | refine wp_icmp_eqN (t := 79) (ck_get kk_Ju_evaluate 39 rfl) (by decide) (by omega) (by omega) (fun hc70 => ?_) (fun hc70 => ?_) | refine wp_icmp_eq (t := 79) (ck_get kk_Ju_evaluate 39 rfl) (by decide) (fun hc70 => ?_) (fun hc70 => ?_)
      · omega
      · refine wp_iload rfl (ck_get kk_Ju_evaluate 40 rfl) ?_
        refine wp_iconst (v := nI 2) (by decide) (ck_get kk_Ju_evaluate 41 rfl) ?_
        first | refine wp_icmp_neN (t := 141) (ck_get kk_Ju_evaluate 42 rfl) (by decide) (by omega) (by omega) (fun hc76 => ?_) (fun hc76 => ?_) | refine wp_icmp_ne (t := 141) (ck_get kk_Ju_evaluate 42 rfl) (by decide) (fun hc76 => ?_) (fun hc76 => ?_)
        · omega
        · refine wp_iload rfl (ck_get kk_Ju_evaluate 43 rfl) ?_
          refine wp_aload_n rfl (ck_get kk_Ju_evaluate 44 rfl) ?_
          refine wp_getR (ck_get kk_Ju_evaluate 45 rfl) fl_Ju_26 (by assumption) (by assumption) ?_
          refine wp_alen (ck_get kk_Ju_evaluate 46 rfl) (by assumption) ?_
          first | refine wp_icmp_geN (t := 107) (ck_get kk_Ju_evaluate 47 rfl) (by decide) (by omega) (by omega) (fun hc86 => ?_) (fun hc86 => ?_) | refine wp_icmp_ge (t := 107) (ck_get kk_Ju_evaluate 47 rfl) (by decide) (fun hc86 => ?_) (fun hc86 => ?_)
          · refine wp_ldc2 kl_Ju_77 (ck_get kk_Ju_evaluate 57 rfl) ?_
            refine wp_lreturn (ck_get kk_Ju_evaluate 58 rfl) rfl ⟨_, rfl, ?_⟩
            exact ⟨rfl, S, rfl⟩
          · omega
    · omega
theorem ev_two {x2 x6 x7 x8 x9 : Option Value} {sz i c : Nat} {S : Nat → Int64} (hJ : JuAt (mT M) (mR M) j) (hP : PrAt (mT M) (mR M) p cn) (h8 : mI M p 8 = nI cl) (hcl : cl ≤ cn) (hcn : cn ≤ 1024) (hw : mT M w = (20, vn)) (hvn : vn < 100) (hi : i + 1 < cl) (hci : mI M (p + 7) i = nI c) (hc6 : 6 ≤ c) (hcb : c < 256) (hsz : sz = 1) : Wp g Y_Ju_evaluate 1 10 [some (.ref j), some (.ref p), x2, some (.ref w), some (.int (nI sz)), some (.int (nI i)), x6, x7, x8, x9] [] (evM M j S) (evQ M j brk) := by
  obtain ⟨tj0, rj2, tj1, rj3, tj2, rj4, tj3⟩ := hJ
  obtain ⟨tp0, rpk, tpk, tp7⟩ := hP
  have rp7 := rpk 7 (by omega) (by omega)
  subst hsz
  refine wp_iload rfl (ck_get kk_Ju_evaluate 6 rfl) ?_
  refine wp_iconst (v := nI 1) (by decide) (ck_get kk_Ju_evaluate 7 rfl) ?_
  first | refine wp_iaddN (ck_get kk_Ju_evaluate 8 rfl) ?_ | refine wp_iadd (ck_get kk_Ju_evaluate 8 rfl) ?_
  refine wp_aload_n rfl (ck_get kk_Ju_evaluate 9 rfl) ?_
  refine wp_getIv (v := nI cl) (ck_get kk_Ju_evaluate 10 rfl) fl_Ju_93 (by assumption) (h8) ?_
  first | refine wp_icmp_geN (t := 307) (ck_get kk_Ju_evaluate 11 rfl) (by decide) (by omega) (by omega) (fun hc18 => ?_) (fun hc18 => ?_) | refine wp_icmp_ge (t := 307) (ck_get kk_Ju_evaluate 11 rfl) (by decide) (fun hc18 => ?_) (fun hc18 => ?_)
  · omega
  · refine wp_aload_n rfl (ck_get kk_Ju_evaluate 12 rfl) ?_
    refine wp_getR (ck_get kk_Ju_evaluate 13 rfl) fl_Ju_96 (by assumption) (by assumption) ?_
    refine wp_iload rfl (ck_get kk_Ju_evaluate 14 rfl) ?_
    refine wp_ialdv (v := nI c) (ck_get kk_Ju_evaluate 15 rfl) (by assumption) (by first | assumption | exact ixk_nI (by omega) (by omega)) (hci) ?_
    refine wp_istore (ck_get kk_Ju_evaluate 16 rfl) (by decide) rfl ?_
    refine wp_aload_n rfl (ck_get kk_Ju_evaluate 17 rfl) ?_
    refine wp_getR (ck_get kk_Ju_evaluate 18 rfl) fl_Ju_96 (by assumption) (by assumption) ?_
    refine wp_iload rfl (ck_get kk_Ju_evaluate 19 rfl) ?_
    refine wp_iconst (v := nI 1) (by decide) (ck_get kk_Ju_evaluate 20 rfl) ?_
    first | refine wp_iaddN (ck_get kk_Ju_evaluate 21 rfl) ?_ | refine wp_iadd (ck_get kk_Ju_evaluate 21 rfl) ?_
    refine wp_iald (ck_get kk_Ju_evaluate 22 rfl) (by assumption) (by first | assumption | exact ixk_nI (by omega) (by omega)) ?_
    refine wp_istore (ck_get kk_Ju_evaluate 23 rfl) (by decide) rfl ?_
    refine wp_iload rfl (ck_get kk_Ju_evaluate 24 rfl) ?_
    first | refine wp_if_neN (t := 67) (ck_get kk_Ju_evaluate 25 rfl) (by decide) (by omega) (fun hc43 => ?_) (fun hc43 => ?_) | refine wp_if_ne (t := 67) (ck_get kk_Ju_evaluate 25 rfl) (by decide) (fun hc43 => ?_) (fun hc43 => ?_)
    · refine wp_iload rfl (ck_get kk_Ju_evaluate 37 rfl) ?_
      refine wp_iconst (v := nI 1) (by decide) (ck_get kk_Ju_evaluate 38 rfl) ?_
      first | refine wp_icmp_eqN (t := 79) (ck_get kk_Ju_evaluate 39 rfl) (by decide) (by omega) (by omega) (fun hc70 => ?_) (fun hc70 => ?_) | refine wp_icmp_eq (t := 79) (ck_get kk_Ju_evaluate 39 rfl) (by decide) (fun hc70 => ?_) (fun hc70 => ?_)
      · omega
      · refine wp_iload rfl (ck_get kk_Ju_evaluate 40 rfl) ?_
        refine wp_iconst (v := nI 2) (by decide) (ck_get kk_Ju_evaluate 41 rfl) ?_
        first | refine wp_icmp_neN (t := 141) (ck_get kk_Ju_evaluate 42 rfl) (by decide) (by omega) (by omega) (fun hc76 => ?_) (fun hc76 => ?_) | refine wp_icmp_ne (t := 141) (ck_get kk_Ju_evaluate 42 rfl) (by decide) (fun hc76 => ?_) (fun hc76 => ?_)
        · refine wp_iload rfl (ck_get kk_Ju_evaluate 75 rfl) ?_
          refine wp_iconst (v := nI 1) (by decide) (ck_get kk_Ju_evaluate 76 rfl) ?_
          first | refine wp_icmp_geN (t := 151) (ck_get kk_Ju_evaluate 77 rfl) (by decide) (by omega) (by omega) (fun hc144 => ?_) (fun hc144 => ?_) | refine wp_icmp_ge (t := 151) (ck_get kk_Ju_evaluate 77 rfl) (by decide) (fun hc144 => ?_) (fun hc144 => ?_)
          · refine wp_iload rfl (ck_get kk_Ju_evaluate 80 rfl) ?_
            refine wp_iconst (v := nI 3) (by decide) (ck_get kk_Ju_evaluate 81 rfl) ?_
            first | refine wp_icmp_neN (t := 180) (ck_get kk_Ju_evaluate 82 rfl) (by decide) (by omega) (by omega) (fun hc154 => ?_) (fun hc154 => ?_) | refine wp_icmp_ne (t := 180) (ck_get kk_Ju_evaluate 82 rfl) (by decide) (fun hc154 => ?_) (fun hc154 => ?_)
            · refine wp_iload rfl (ck_get kk_Ju_evaluate 98 rfl) ?_
              refine wp_iconst (v := nI 4) (by decide) (ck_get kk_Ju_evaluate 99 rfl) ?_
              first | refine wp_icmp_eqN (t := 192) (ck_get kk_Ju_evaluate 100 rfl) (by decide) (by omega) (by omega) (fun hc183 => ?_) (fun hc183 => ?_) | refine wp_icmp_eq (t := 192) (ck_get kk_Ju_evaluate 100 rfl) (by decide) (fun hc183 => ?_) (fun hc183 => ?_)
              · omega
              · refine wp_iload rfl (ck_get kk_Ju_evaluate 101 rfl) ?_
                refine wp_iconst (v := nI 5) (by decide) (ck_get kk_Ju_evaluate 102 rfl) ?_
                first | refine wp_icmp_neN (t := 237) (ck_get kk_Ju_evaluate 103 rfl) (by decide) (by omega) (by omega) (fun hc189 => ?_) (fun hc189 => ?_) | refine wp_icmp_ne (t := 237) (ck_get kk_Ju_evaluate 103 rfl) (by decide) (fun hc189 => ?_) (fun hc189 => ?_)
                · refine wp_iload rfl (ck_get kk_Ju_evaluate 128 rfl) ?_
                  refine wp_iconst (v := nI 2) (by decide) (ck_get kk_Ju_evaluate 129 rfl) ?_
                  first | refine wp_icmp_geN (t := 249) (ck_get kk_Ju_evaluate 130 rfl) (by decide) (by omega) (by omega) (fun hc240 => ?_) (fun hc240 => ?_) | refine wp_icmp_ge (t := 249) (ck_get kk_Ju_evaluate 130 rfl) (by decide) (fun hc240 => ?_) (fun hc240 => ?_)
                  · omega
                  · refine wp_ldc2 kl_Ju_77 (ck_get kk_Ju_evaluate 131 rfl) ?_
                    refine wp_goto (t := 272) (ck_get kk_Ju_evaluate 132 rfl) (by decide) ?_
                    refine wp_lstore (ck_get kk_Ju_evaluate 147 rfl) (by decide) rfl ?_
                    refine wp_lload rfl (ck_get kk_Ju_evaluate 148 rfl) ?_
                    refine wp_ldc2 kl_Ju_77 (ck_get kk_Ju_evaluate 149 rfl) ?_
                    refine wp_lcmp (ck_get kk_Ju_evaluate 150 rfl) ?_
                    refine wp_if_ne (t := 287) (ck_get kk_Ju_evaluate 151 rfl) (by decide) (fun hc280 => ?_) (fun hc280 => ?_)
                    · exact absurd ((lcmp_eq _ _).mpr rfl) hc280
                    · refine wp_ldc2 kl_Ju_77 (ck_get kk_Ju_evaluate 152 rfl) ?_
                      refine wp_lreturn (ck_get kk_Ju_evaluate 153 rfl) rfl ⟨_, rfl, ?_⟩
                      exact ⟨rfl, S, rfl⟩
                · omega
            · omega
          · omega
        · omega
    · omega
/-- code that the parser makes, with words below vn -/
def CodeW (C : Nat → Int32) (cl vn : Nat) : Prop := CodeOK C cl ∧ ∀ i, i + 1 < cl → i % 2 = 0 → C i = nI 2 → ∃ u, u < vn ∧ C (i + 1) = nI u
theorem l_eval (hJ : JuAt (mT M) (mR M) j) (hP : PrAt (mT M) (mR M) p cn) (h8 : mI M p 8 = nI cl) (hcl : cl ≤ cn) (hcn : cn ≤ 1024) (hw : mT M w = (20, vn)) (hvn : vn < 100) (hC : CodeW (mI M (p + 7)) cl vn) : ∀ f i sz (S : Nat → Int64) (x2 x6 x7 x8 x9 : Option Value), i % 2 = 0 → cl ≤ i + 2 * f → i ≤ cl + 2 → sz ≤ 64 → Wp g Y_Ju_evaluate 1 10 [some (.ref j), some (.ref p), x2, some (.ref w), some (.int (nI sz)), some (.int (nI i)), x6, x7, x8, x9] [] (evM M j S) (evQ M j (evF (mI M (p + 7)) cl (mI M w) vn f i sz S)) := by
  intro f
  induction f with
  | zero =>
    intro i sz S x2 x6 x7 x8 x9 h1 h2 h3 h4
    exact ev_end hJ hP h8 hcl hcn hw hvn (by omega) (by omega)
  | succ f ih =>
    intro i sz S x2 x6 x7 x8 x9 h1 h2 h3 h4
    by_cases hi : i + 1 < cl
    · rw [evF, if_pos hi]
      obtain ⟨⟨c, hcb, hci, hsg⟩, hjmp⟩ := hC.1 i hi h1
      have ne : ∀ a b : Nat, a < 256 → b < 256 → ¬ a = b → ¬ nI a = nI b := fun a b ha hb hab hh => hab ((nI_eq (by omega) (by omega)).mp hh)
      by_cases c0 : c = 0
      · subst c0
        rw [if_pos hci]
        exact ev_c0 hJ hP h8 hcl hcn hw hvn hi hci h4
      rw [if_neg (by rw [hci]; exact ne _ _ hcb (by decide) c0)]
      by_cases c1 : c = 1
      · subst c1
        rw [if_pos hci]
        by_cases hs : sz < 64
        · rw [if_pos hs]
          exact ev_c1 hJ hP h8 hcl hcn hw hvn hi hci h4 hs (fun y6 y7 y8 y9 => ih (i + 2) (sz + 1) _ x2 y6 y7 y8 y9 (by omega) (by omega) (by omega) (by omega))
        · rw [if_neg hs]
          have hs2 : sz = 64 := by omega
          subst hs2
          exact ev_full1 hJ hP h8 hcl hcn hw hvn hi hci
      rw [if_neg (by rw [hci]; exact ne _ _ hcb (by decide) c1)]
      by_cases c2 : c = 2
      · subst c2
        obtain ⟨u, hu, hv⟩ := hC.2 i hi h1 hci
        rw [if_pos hci, hv, nI_clamp (show u < 2 ^ 31 by omega)]
        by_cases hs : sz < 64
        · rw [if_pos ⟨hs, inB_nI hu (by omega)⟩]
          exact ev_c2 hJ hP h8 hcl hcn hw hvn hi hci h4 hv hu hs (fun y6 y7 y8 y9 => ih (i + 2) (sz + 1) _ x2 y6 y7 y8 y9 (by omega) (by omega) (by omega) (by omega))
        · rw [if_neg (fun hh => hs hh.1)]
          have hs2 : sz = 64 := by omega
          subst hs2
          exact ev_full2 hJ hP h8 hcl hcn hw hvn hi hci
      rw [if_neg (by rw [hci]; exact ne _ _ hcb (by decide) c2)]
      by_cases hs : sz < 1
      · rw [if_pos hs]
        exact ev_few hJ hP h8 hcl hcn hw hvn hi hci (by omega) hcb (by omega)
      rw [if_neg hs]
      by_cases c3 : c = 3
      · subst c3
        rw [if_pos hci]
        exact ev_c3 hJ hP h8 hcl hcn hw hvn hi hci h4 (by omega) (fun y6 y7 y8 y9 => ih (i + 2) sz _ x2 y6 y7 y8 y9 (by omega) (by omega) (by omega) (by omega))
      rw [if_neg (by rw [hci]; exact ne _ _ hcb (by decide) c3)]
      by_cases c4 : c = 4
      · subst c4
        obtain ⟨u, hu2, hu, hue, hv⟩ := hjmp (Or.inl hci)
        rw [if_pos hci, hv, nI_clamp (show u < 2 ^ 31 by omega)]
        refine ev_c4 hJ hP h8 hcl hcn hw hvn hi hci h4 hv hu2 hu (by omega) (fun hone y6 y7 y8 y9 => ?_) (fun hone y6 y7 y8 y9 => ?_)
        · rw [if_pos hone]
          exact ih (max i (u - 2) + 2) sz S x2 y6 y7 y8 y9 (by omega) (by omega) (by omega) (by omega)
        · rw [if_neg hone]
          exact ih (i + 2) (sz - 1) S x2 y6 y7 y8 y9 (by omega) (by omega) (by omega) (by omega)
      rw [if_neg (by rw [hci]; exact ne _ _ hcb (by decide) c4)]
      by_cases c5 : c = 5
      · subst c5
        obtain ⟨u, hu2, hu, hue, hv⟩ := hjmp (Or.inr hci)
        rw [if_pos hci, hv, nI_clamp (show u < 2 ^ 31 by omega)]
        refine ev_c5 hJ hP h8 hcl hcn hw hvn hi hci h4 hv hu2 hu (by omega) (fun hone y6 y7 y8 y9 => ?_) (fun hone y6 y7 y8 y9 => ?_)
        · rw [if_pos hone]
          exact ih (max i (u - 2) + 2) sz S x2 y6 y7 y8 y9 (by omega) (by omega) (by omega) (by omega)
        · rw [if_neg hone]
          exact ih (i + 2) (sz - 1) S x2 y6 y7 y8 y9 (by omega) (by omega) (by omega) (by omega)
      rw [if_neg (by rw [hci]; exact ne _ _ hcb (by decide) c5)]
      by_cases hs2 : sz < 2
      · rw [if_pos hs2]
        exact ev_two hJ hP h8 hcl hcn hw hvn hi hci (by omega) hcb (by omega)
      rw [if_neg hs2, hci, nI_clamp (show c < 2 ^ 31 by omega)]
      refine ev_c6 hJ hP h8 hcl hcn hw hvn hi hci h4 (by omega) hcb (hsg (by omega)) (by omega) (fun hbr => ?_) (fun hbr y6 y7 y8 y9 => ?_)
      · rw [if_pos hbr]
      · rw [if_neg hbr]
        exact ih (i + 2) (sz - 1) _ x2 y6 y7 y8 y9 (by omega) (by omega) (by omega) (by omega)
    · rw [evF, if_neg hi]
      exact ev_end hJ hP h8 hcl hcn hw hvn hi (by omega)
theorem c_evaluate (hJ : JuAt (mT M) (mR M) j) (hP : PrAt (mT M) (mR M) p cn) (h8 : mI M p 8 = nI cl) (hcl : cl ≤ cn) (hcn : cn ≤ 1024) (hw : mT M w = (20, vn)) (hvn : vn < 100) (hC : CodeW (mI M (p + 7)) cl vn) {fr : Nat} (hfr : fr % 2 = 0) (hfl : fr ≤ cl) : Cl g Y_Ju_evaluate 1 [.ref j, .ref p, .int (nI fr), .ref w] M (fun x M2 => x = evF (mI M (p + 7)) cl (mI M w) vn cl fr 0 (mJ M (j + 3)) ∧ ∃ S2, M2 = evM M j S2) := by
  refine cw_entry 6 pf_Ju_evaluate rfl ?_
  refine wp_iconst (v := nI 0) (by decide) (ck_get kk_Ju_evaluate 0 rfl) ?_
  refine wp_istore (ck_get kk_Ju_evaluate 1 rfl) (by decide) rfl ?_
  refine wp_iload_n rfl (ck_get kk_Ju_evaluate 2 rfl) ?_
  refine wp_iconst (v := nI 0) (by decide) (ck_get kk_Ju_evaluate 3 rfl) ?_
  refine wp_cS2i (ck_get kk_Ju_evaluate 4 rfl) ml_Ju_90 (by omega) (Nat.le_of_ble_eq_true rfl) (Ci.to (c_max (by omega) (by omega)) ?_)
  rintro _ M1 ⟨rfl, eqm1⟩
  obtain rfl := eqm1.symm
  refine wp_istore (ck_get kk_Ju_evaluate 5 rfl) (by decide) rfl ?_
  have hx := l_eval (g := g) hJ hP h8 hcl hcn hw hvn hC cl fr 0 (mJ M (j + 3)) (some (.int (nI fr))) none none none none hfr (by omega) (by omega) (by omega)
  rw [show evM M j (mJ M (j + 3)) = mk2 M (mI M) (mJ M) by rw [evM, up1_self]] at hx
  rw [Nat.max_eq_left (Nat.zero_le fr)]
  exact hx
end EX

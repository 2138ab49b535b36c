/-! ===== what a law tells, by the model ===== -/
def clL (v : Int64) : Int64 := if v < 0 then 0 else if 99 < v then 99 else v
theorem clL_clmp (v : Int64) : (clL v).toInt32 = clmp v := by
  unfold clL clmp maxJ minJ
  by_cases h1 : v < 0
  · rw [if_pos h1]
    by_cases h2 : 99 < v
    · exfalso
      have a := Int64.lt_iff_toInt_lt.mp h1
      have b := Int64.lt_iff_toInt_lt.mp h2
      have c : (99 : Int64).toInt = 99 := by decide
      have d : (0 : Int64).toInt = 0 := by decide
      omega
    · rw [if_neg h2, if_neg (show ¬ (0 : Int64) < v from fun q => by
        have a := Int64.lt_iff_toInt_lt.mp h1
        have b := Int64.lt_iff_toInt_lt.mp q
        omega)]
  · rw [if_neg h1]
    by_cases h2 : 99 < v
    · rw [if_pos h2, if_pos (by decide)]
    · rw [if_neg h2]
      by_cases h3 : (0 : Int64) < v
      · rw [if_pos h3]
      · rw [if_neg h3]
        have h4 : v = 0 := by
          apply Int64.toInt_inj.mp
          have a : ¬ v.toInt < (0 : Int64).toInt := fun q => h1 (Int64.lt_iff_toInt_lt.mpr q)
          have b : ¬ (0 : Int64).toInt < v.toInt := fun q => h3 (Int64.lt_iff_toInt_lt.mpr q)
          omega
        rw [h4]
section TEL
variable {g : Gl} {M : Mem} {o ge bs N : Nat} {tc tv : Nat → Nat} {C : Nat → Int32} {cn : Nat} {V : Nat → Int32} {f : Nat}
theorem ev_stop {cl : Nat} {s1 : List Int32} {v : Int64} {bk : Bool} (hC : Hd C cl (s1 ++ [nI 0, nI 0])) (hcn : cl + (s1 ++ [nI 0, nI 0]).length ≤ cn) (h : ∀ (sz : Nat) (S : Nat → Int64), sz + 2 * (8 - 0) + 4 ≤ 64 → evN C cn V 6 cl sz S = if bk = true then brk else evN C cn V 6 (cl + s1.length) (sz + 1) (up1 S sz v)) : ev0 C cn V 6 cl = if bk = true then brk else v := by
  rw [len_app2] at hcn
  obtain ⟨c1, c2⟩ := hC.r.two
  have h1 := h 0 (fun _ => 0) (by omega)
  rw [evN_stop (by omega) c1, up1_eq] at h1
  exact h1
theorem emM_br0 {i : Nat} {b : Bool} : sI (emM M o i b) o 27 (nI 0) = emM M o i false := emM_br (b2 := false)
/-- behind a clause's sum: its test, what it tells -/
theorem l_tl117 {e : Nat → Int32} {hd is j1 lf1 cl1 j : Nat} {s2 : List Int32} {told sm : Int64} {w : Int32} {bk1 : Bool} {x8 x9 : Option Value} (hE : EvH M o ge bs N tc tv false V 6) (hC : Hd C cl1 s2) (hcl : cl1 + s2.length ≤ cn) (hcn2 : cn ≤ 1024) (hj1 : j1 ≤ N) (hl1 : lf1 ≤ 50) (hCn : CnS tc tv false f e j1 lf1 cl1 j s2) (hh : hd < 1000) (hi : is < 1000) {Q : Option Value → Mem → Prop}
    (K : ∀ (told2 : Int64) (b : Bool) (x8 x9 : Option Value), told2.toInt32 = (if is = hd ∧ (e 3 = -1 ∨ ev0 C cn V 6 (e 3).toNatClampNeg = 1) ∧ bk1 = false then clmp sm else told.toInt32) → Wp g Y_Mo_tells 100 64 [some (.ref o), some (.int (nI hd)), some (.int w), some (.long told2), none, some (.int (nI is)), some (.long sm), none, x8, x9] [] (emM M o (bs + (j + 1)) b) Q) :
    Wp g Y_Mo_tells 100 117 [some (.ref o), some (.int (nI hd)), some (.int w), some (.long told), none, some (.int (nI is)), some (.long sm), none, x8, x9] [] (emM M o (bs + j1) bk1) Q := by
  have hE0 := hE
  obtain ⟨hM, hge, hg1, hg2, hK, hN, hT4, hlaw, hord⟩ := hE
  have to0 := hM.1
  have hix := ev_ix hE0 hj1
  -- behind the test
  have fin : ∀ (h bk : Bool), ((h = true ∧ bk = false) ↔ (e 3 = -1 ∨ ev0 C cn V 6 (e 3).toNatClampNeg = 1)) → Wp g Y_Mo_tells 100 151 [some (.ref o), some (.int (nI hd)), some (.int w), some (.long told), none, some (.int (nI is)), some (.long sm), none, some (.int (bI bk1)), some (.int (bI h))] [] (emM M o (bs + j) bk) Q := by
    intro h bk hiff
    have go : ∀ told2 : Int64, told2.toInt32 = (if is = hd ∧ (e 3 = -1 ∨ ev0 C cn V 6 (e 3).toNatClampNeg = 1) ∧ bk1 = false then clmp sm else told.toInt32) → Wp g Y_Mo_tells 100 203 [some (.ref o), some (.int (nI hd)), some (.int w), some (.long told2), none, some (.int (nI is)), some (.long sm), none, some (.int (bI bk1)), some (.int (bI h))] [] (emM M o (bs + j) bk) Q := by
      intro told2 ht2
      refine wp_aload_n rfl (ck_get kk_Mo_tells 106 rfl) ?_
      refine wp_dup rfl (ck_get kk_Mo_tells 107 rfl) ?_
      refine wp_getIv (v := nI (bs + j)) (ck_get kk_Mo_tells 108 rfl) fl_Mo_294 (by assumption) (emM_25) ?_
      refine wp_iconst (v := nI 1) (by decide) (ck_get kk_Mo_tells 109 rfl) ?_
      first | refine wp_iaddN (ck_get kk_Mo_tells 110 rfl) ?_ | refine wp_iadd (ck_get kk_Mo_tells 110 rfl) ?_
      refine wp_putI (ck_get kk_Mo_tells 111 rfl) fl_Mo_294 (by decide +kernel) (by assumption) (okI_int _) ?_
      rw [emM_go, Nat.add_assoc]
      refine wp_goto (t := 64) (ck_get kk_Mo_tells 112 rfl) (by decide) ?_
      exact K told2 bk _ _ ht2
    by_cases h1 : is = hd
    · by_cases h2 : h = true ∧ bk = false
      · obtain ⟨rfl, rfl⟩ := h2
        cases bk1 with
        | true =>
          refine wp_iload rfl (ck_get kk_Mo_tells 82 rfl) ?_
          refine wp_iload_n rfl (ck_get kk_Mo_tells 83 rfl) ?_
          first | refine wp_icmp_neN (t := 203) (ck_get kk_Mo_tells 84 rfl) (by decide) (by omega) (by omega) (fun hc154 => ?_) (fun hc154 => ?_) | refine wp_icmp_ne (t := 203) (ck_get kk_Mo_tells 84 rfl) (by decide) (fun hc154 => ?_) (fun hc154 => ?_)
          · omega
          · refine wp_iload rfl (ck_get kk_Mo_tells 85 rfl) ?_
            first | refine wp_if_eqN (t := 203) (ck_get kk_Mo_tells 86 rfl) (by decide) (by omega) (fun hc159 => ?_) (fun hc159 => ?_) | refine wp_if_eq (t := 203) (ck_get kk_Mo_tells 86 rfl) (by decide) (fun hc159 => ?_) (fun hc159 => ?_)
            · exact absurd hc159 (by decide)
            · refine wp_aload_n rfl (ck_get kk_Mo_tells 87 rfl) ?_
              refine wp_getIv (v := bI false) (ck_get kk_Mo_tells 88 rfl) fl_Mo_304 (by assumption) (emM_27) ?_
              first | refine wp_if_neN (t := 203) (ck_get kk_Mo_tells 89 rfl) (by decide) (by omega) (fun hc166 => ?_) (fun hc166 => ?_) | refine wp_if_ne (t := 203) (ck_get kk_Mo_tells 89 rfl) (by decide) (fun hc166 => ?_) (fun hc166 => ?_)
              · exact absurd rfl hc166
              · refine wp_iload rfl (ck_get kk_Mo_tells 90 rfl) ?_
                first | refine wp_if_neN (t := 203) (ck_get kk_Mo_tells 91 rfl) (by decide) (by omega) (fun hc171 => ?_) (fun hc171 => ?_) | refine wp_if_ne (t := 203) (ck_get kk_Mo_tells 91 rfl) (by decide) (fun hc171 => ?_) (fun hc171 => ?_)
                · exact go told (by rw [if_neg (fun q => Bool.false_ne_true q.2.2.symm)])
                · exact absurd hc171 (by decide)
        | false =>
          have ht : ∀ told2 : Int64, told2 = clL sm → told2.toInt32 = (if is = hd ∧ (e 3 = -1 ∨ ev0 C cn V 6 (e 3).toNatClampNeg = 1) ∧ (false : Bool) = false then clmp sm else told.toInt32) := by
            intro told2 ht2
            rw [if_pos ⟨h1, hiff.mp ⟨rfl, rfl⟩, rfl⟩, ht2, clL_clmp]
          refine wp_iload rfl (ck_get kk_Mo_tells 82 rfl) ?_
          refine wp_iload_n rfl (ck_get kk_Mo_tells 83 rfl) ?_
          first | refine wp_icmp_neN (t := 203) (ck_get kk_Mo_tells 84 rfl) (by decide) (by omega) (by omega) (fun hc154 => ?_) (fun hc154 => ?_) | refine wp_icmp_ne (t := 203) (ck_get kk_Mo_tells 84 rfl) (by decide) (fun hc154 => ?_) (fun hc154 => ?_)
          · omega
          · refine wp_iload rfl (ck_get kk_Mo_tells 85 rfl) ?_
            first | refine wp_if_eqN (t := 203) (ck_get kk_Mo_tells 86 rfl) (by decide) (by omega) (fun hc159 => ?_) (fun hc159 => ?_) | refine wp_if_eq (t := 203) (ck_get kk_Mo_tells 86 rfl) (by decide) (fun hc159 => ?_) (fun hc159 => ?_)
            · exact absurd hc159 (by decide)
            · refine wp_aload_n rfl (ck_get kk_Mo_tells 87 rfl) ?_
              refine wp_getIv (v := bI false) (ck_get kk_Mo_tells 88 rfl) fl_Mo_304 (by assumption) (emM_27) ?_
              first | refine wp_if_neN (t := 203) (ck_get kk_Mo_tells 89 rfl) (by decide) (by omega) (fun hc166 => ?_) (fun hc166 => ?_) | refine wp_if_ne (t := 203) (ck_get kk_Mo_tells 89 rfl) (by decide) (fun hc166 => ?_) (fun hc166 => ?_)
              · exact absurd rfl hc166
              · refine wp_iload rfl (ck_get kk_Mo_tells 90 rfl) ?_
                first | refine wp_if_neN (t := 203) (ck_get kk_Mo_tells 91 rfl) (by decide) (by omega) (fun hc171 => ?_) (fun hc171 => ?_) | refine wp_if_ne (t := 203) (ck_get kk_Mo_tells 91 rfl) (by decide) (fun hc171 => ?_) (fun hc171 => ?_)
                · exact absurd rfl hc171
                · refine wp_lload rfl (ck_get kk_Mo_tells 92 rfl) ?_
                  refine wp_lconst (v := 0) (by decide) (ck_get kk_Mo_tells 93 rfl) ?_
                  refine wp_lcmp (ck_get kk_Mo_tells 94 rfl) ?_
                  refine wp_if_ge (t := 185) (ck_get kk_Mo_tells 95 rfl) (by decide) (fun hc178 => ?_) (fun hc178 => ?_)
                  · refine wp_lload rfl (ck_get kk_Mo_tells 98 rfl) ?_
                    refine wp_ldc2 kl_Mo_348 (ck_get kk_Mo_tells 99 rfl) ?_
                    refine wp_lcmp (ck_get kk_Mo_tells 100 rfl) ?_
                    refine wp_if_le (t := 200) (ck_get kk_Mo_tells 101 rfl) (by decide) (fun hc191 => ?_) (fun hc191 => ?_)
                    · refine wp_lload rfl (ck_get kk_Mo_tells 104 rfl) ?_
                      refine wp_lstore_n (ck_get kk_Mo_tells 105 rfl) (by decide) rfl ?_
                      refine go _ (ht _ ?_)
                      have q := (lcmp_ge sm 0).mp hc178
                      unfold clL
                      rw [if_neg q, if_neg ((lcmp_le sm 99).mp hc191)]
                    · refine wp_ldc2 kl_Mo_348 (ck_get kk_Mo_tells 102 rfl) ?_
                      refine wp_goto (t := 202) (ck_get kk_Mo_tells 103 rfl) (by decide) ?_
                      refine wp_lstore_n (ck_get kk_Mo_tells 105 rfl) (by decide) rfl ?_
                      refine go _ (ht _ ?_)
                      have q := (lcmp_ge sm 0).mp hc178
                      unfold clL
                      rw [if_neg q, if_pos (Decidable.byContradiction fun q2 => hc191 ((lcmp_le sm 99).mpr q2))]
                  · refine wp_lconst (v := 0) (by decide) (ck_get kk_Mo_tells 96 rfl) ?_
                    refine wp_goto (t := 202) (ck_get kk_Mo_tells 97 rfl) (by decide) ?_
                    refine wp_lstore_n (ck_get kk_Mo_tells 105 rfl) (by decide) rfl ?_
                    refine go _ (ht _ ?_)
                    unfold clL
                    rw [if_pos (Decidable.byContradiction fun q2 => hc178 ((lcmp_ge sm 0).mpr q2))]
      · have ht : told.toInt32 = (if is = hd ∧ (e 3 = -1 ∨ ev0 C cn V 6 (e 3).toNatClampNeg = 1) ∧ bk1 = false then clmp sm else told.toInt32) := by rw [if_neg (fun q => h2 (hiff.mpr q.2.1))]
        cases h with
        | false =>
          refine wp_iload rfl (ck_get kk_Mo_tells 82 rfl) ?_
          refine wp_iload_n rfl (ck_get kk_Mo_tells 83 rfl) ?_
          first | refine wp_icmp_neN (t := 203) (ck_get kk_Mo_tells 84 rfl) (by decide) (by omega) (by omega) (fun hc154 => ?_) (fun hc154 => ?_) | refine wp_icmp_ne (t := 203) (ck_get kk_Mo_tells 84 rfl) (by decide) (fun hc154 => ?_) (fun hc154 => ?_)
          · omega
          · refine wp_iload rfl (ck_get kk_Mo_tells 85 rfl) ?_
            first | refine wp_if_eqN (t := 203) (ck_get kk_Mo_tells 86 rfl) (by decide) (by omega) (fun hc159 => ?_) (fun hc159 => ?_) | refine wp_if_eq (t := 203) (ck_get kk_Mo_tells 86 rfl) (by decide) (fun hc159 => ?_) (fun hc159 => ?_)
            · exact go told ht
            · exact absurd rfl hc159
        | true =>
          have hbk : bk = true := by cases bk; exact absurd ⟨rfl, rfl⟩ h2; rfl
          subst hbk
          refine wp_iload rfl (ck_get kk_Mo_tells 82 rfl) ?_
          refine wp_iload_n rfl (ck_get kk_Mo_tells 83 rfl) ?_
          first | refine wp_icmp_neN (t := 203) (ck_get kk_Mo_tells 84 rfl) (by decide) (by omega) (by omega) (fun hc154 => ?_) (fun hc154 => ?_) | refine wp_icmp_ne (t := 203) (ck_get kk_Mo_tells 84 rfl) (by decide) (fun hc154 => ?_) (fun hc154 => ?_)
          · omega
          · refine wp_iload rfl (ck_get kk_Mo_tells 85 rfl) ?_
            first | refine wp_if_eqN (t := 203) (ck_get kk_Mo_tells 86 rfl) (by decide) (by omega) (fun hc159 => ?_) (fun hc159 => ?_) | refine wp_if_eq (t := 203) (ck_get kk_Mo_tells 86 rfl) (by decide) (fun hc159 => ?_) (fun hc159 => ?_)
            · exact absurd hc159 (by decide)
            · refine wp_aload_n rfl (ck_get kk_Mo_tells 87 rfl) ?_
              refine wp_getIv (v := bI true) (ck_get kk_Mo_tells 88 rfl) fl_Mo_304 (by assumption) (emM_27) ?_
              first | refine wp_if_neN (t := 203) (ck_get kk_Mo_tells 89 rfl) (by decide) (by omega) (fun hc166 => ?_) (fun hc166 => ?_) | refine wp_if_ne (t := 203) (ck_get kk_Mo_tells 89 rfl) (by decide) (fun hc166 => ?_) (fun hc166 => ?_)
              · exact go told ht
              · exact absurd hc166 (by decide)
    · have ht : told.toInt32 = (if is = hd ∧ (e 3 = -1 ∨ ev0 C cn V 6 (e 3).toNatClampNeg = 1) ∧ bk1 = false then clmp sm else told.toInt32) := by rw [if_neg (fun q => h1 q.1)]
      refine wp_iload rfl (ck_get kk_Mo_tells 82 rfl) ?_
      refine wp_iload_n rfl (ck_get kk_Mo_tells 83 rfl) ?_
      first | refine wp_icmp_neN (t := 203) (ck_get kk_Mo_tells 84 rfl) (by decide) (by omega) (by omega) (fun hc154 => ?_) (fun hc154 => ?_) | refine wp_icmp_ne (t := 203) (ck_get kk_Mo_tells 84 rfl) (by decide) (fun hc154 => ?_) (fun hc154 => ?_)
      · exact go told ht
      · omega
  rcases hCn with ⟨h3, he3, rfl, rfl⟩ | ⟨h3, he3, lf2, s1, hp, rfl⟩
  · have htk : ¬ tcd (mI M (o + 2)) ge (bs + j) = nI 3 := ev_ne hE0 hj1 (by omega) h3
    have hps := m_passes (g := g) (i := bs + j) (b := false) (c := 3) hM hge hg2 hix
    rw [if_neg htk, decide_eq_false htk] at hps
    refine wp_aload_n rfl (ck_get kk_Mo_tells 64 rfl) ?_
    refine wp_getIv (v := bI bk1) (ck_get kk_Mo_tells 65 rfl) fl_Mo_304 (by assumption) (emM_27) ?_
    refine wp_istore (ck_get kk_Mo_tells 66 rfl) (by decide) rfl ?_
    refine wp_aload_n rfl (ck_get kk_Mo_tells 67 rfl) ?_
    refine wp_iconst (v := nI 0) (by decide) (ck_get kk_Mo_tells 68 rfl) ?_
    refine wp_putI (ck_get kk_Mo_tells 69 rfl) fl_Mo_304 (by decide +kernel) (by assumption) (by first | exact okI_b0 | exact okI_b1) ?_
    rw [emM_br0]
    refine wp_aload_n rfl (ck_get kk_Mo_tells 70 rfl) ?_
    refine wp_iconst (v := nI 3) (by decide) (ck_get kk_Mo_tells 71 rfl) ?_
    refine wp_cV1i (ck_get kk_Mo_tells 72 rfl) ml_Mo_318 (by omega) (Nat.le_of_ble_eq_true rfl) (by assumption) (Ci.to (hps) ?_)
    rintro _ M1 ⟨rfl, eqm1⟩
    obtain rfl := eqm1.symm
    first | refine wp_if_eqN (t := 144) (ck_get kk_Mo_tells 73 rfl) (by decide) (by omega) (fun hc133 => ?_) (fun hc133 => ?_) | refine wp_if_eq (t := 144) (ck_get kk_Mo_tells 73 rfl) (by decide) (fun hc133 => ?_) (fun hc133 => ?_)
    · refine wp_iconst (v := nI 1) (by decide) (ck_get kk_Mo_tells 78 rfl) ?_
      refine wp_goto (t := 149) (ck_get kk_Mo_tells 79 rfl) (by decide) ?_
      refine wp_istore (ck_get kk_Mo_tells 81 rfl) (by decide) rfl ?_
      exact fin true false ⟨fun _ => Or.inl he3, fun _ => ⟨rfl, rfl⟩⟩
    · exact absurd rfl hc133
  · have hjN := hN j1 (by omega)
    have htk : tcd (mI M (o + 2)) ge (bs + j1) = nI 3 := ev_eq hE0 hj1 h3
    have hps := m_passes (g := g) (i := bs + j1) (b := false) (c := 3) hM hge hg2 hix
    rw [if_pos htk, decide_eq_true htk, Nat.add_assoc] at hps
    rw [len_app2] at hcl
    obtain ⟨v, bk, a1, a2, a3⟩ := (ev_all (g := g) (C := C) (cn := cn) hE0 f).2.2.2.2.2.2.2.2.2 0 (j1 + 1) lf1 cl1 j lf2 s1 (by omega) hp hC.l (by omega) hcn2 (by omega) hl1
    have hev := ev_stop (v := bJ v) hC (by rw [len_app2]; omega) a3
    have hclm : (e 3).toNatClampNeg = cl1 := by rw [he3]; exact nI_clamp (by omega)
    have hiff : (v = true ∧ bk = false) ↔ (e 3 = -1 ∨ ev0 C cn V 6 (e 3).toNatClampNeg = 1) := by
      rw [hclm, hev]
      constructor
      · rintro ⟨rfl, rfl⟩
        exact Or.inr rfl
      · rintro (q | q)
        · rw [he3] at q; exact absurd q (nI_nem1 (by omega))
        · cases bk with
          | true => rw [if_pos rfl] at q; exact absurd q (by decide)
          | false => exact ⟨bJ_1.mp q, rfl⟩
    cases v with
    | true =>
      refine wp_aload_n rfl (ck_get kk_Mo_tells 64 rfl) ?_
      refine wp_getIv (v := bI bk1) (ck_get kk_Mo_tells 65 rfl) fl_Mo_304 (by assumption) (emM_27) ?_
      refine wp_istore (ck_get kk_Mo_tells 66 rfl) (by decide) rfl ?_
      refine wp_aload_n rfl (ck_get kk_Mo_tells 67 rfl) ?_
      refine wp_iconst (v := nI 0) (by decide) (ck_get kk_Mo_tells 68 rfl) ?_
      refine wp_putI (ck_get kk_Mo_tells 69 rfl) fl_Mo_304 (by decide +kernel) (by assumption) (by first | exact okI_b0 | exact okI_b1) ?_
      rw [emM_br0]
      refine wp_aload_n rfl (ck_get kk_Mo_tells 70 rfl) ?_
      refine wp_iconst (v := nI 3) (by decide) (ck_get kk_Mo_tells 71 rfl) ?_
      refine wp_cV1i (ck_get kk_Mo_tells 72 rfl) ml_Mo_318 (by omega) (Nat.le_of_ble_eq_true rfl) (by assumption) (Ci.to (hps) ?_)
      rintro _ M1 ⟨rfl, eqm1⟩
      obtain rfl := eqm1.symm
      first | refine wp_if_eqN (t := 144) (ck_get kk_Mo_tells 73 rfl) (by decide) (by omega) (fun hc133 => ?_) (fun hc133 => ?_) | refine wp_if_eq (t := 144) (ck_get kk_Mo_tells 73 rfl) (by decide) (fun hc133 => ?_) (fun hc133 => ?_)
      · exact absurd hc133 (by decide)
      · refine wp_aload_n rfl (ck_get kk_Mo_tells 74 rfl) ?_
        refine wp_iconst (v := nI 1) (by decide) (ck_get kk_Mo_tells 75 rfl) ?_
        refine wp_cV1i (ck_get kk_Mo_tells 76 rfl) ml_Mo_345 (by omega) (Nat.le_of_ble_eq_true rfl) (by assumption) (Ci.to (a1) ?_)
        rintro _ M1 ⟨rfl, eqm1⟩
        obtain rfl := eqm1.symm
        first | refine wp_if_eqN (t := 148) (ck_get kk_Mo_tells 77 rfl) (by decide) (by omega) (fun hc141 => ?_) (fun hc141 => ?_) | refine wp_if_eq (t := 148) (ck_get kk_Mo_tells 77 rfl) (by decide) (fun hc141 => ?_) (fun hc141 => ?_)
        · exact absurd hc141 (by decide)
        · refine wp_iconst (v := nI 1) (by decide) (ck_get kk_Mo_tells 78 rfl) ?_
          refine wp_goto (t := 149) (ck_get kk_Mo_tells 79 rfl) (by decide) ?_
          refine wp_istore (ck_get kk_Mo_tells 81 rfl) (by decide) rfl ?_
          exact fin true bk hiff
    | false =>
      refine wp_aload_n rfl (ck_get kk_Mo_tells 64 rfl) ?_
      refine wp_getIv (v := bI bk1) (ck_get kk_Mo_tells 65 rfl) fl_Mo_304 (by assumption) (emM_27) ?_
      refine wp_istore (ck_get kk_Mo_tells 66 rfl) (by decide) rfl ?_
      refine wp_aload_n rfl (ck_get kk_Mo_tells 67 rfl) ?_
      refine wp_iconst (v := nI 0) (by decide) (ck_get kk_Mo_tells 68 rfl) ?_
      refine wp_putI (ck_get kk_Mo_tells 69 rfl) fl_Mo_304 (by decide +kernel) (by assumption) (by first | exact okI_b0 | exact okI_b1) ?_
      rw [emM_br0]
      refine wp_aload_n rfl (ck_get kk_Mo_tells 70 rfl) ?_
      refine wp_iconst (v := nI 3) (by decide) (ck_get kk_Mo_tells 71 rfl) ?_
      refine wp_cV1i (ck_get kk_Mo_tells 72 rfl) ml_Mo_318 (by omega) (Nat.le_of_ble_eq_true rfl) (by assumption) (Ci.to (hps) ?_)
      rintro _ M1 ⟨rfl, eqm1⟩
      obtain rfl := eqm1.symm
      first | refine wp_if_eqN (t := 144) (ck_get kk_Mo_tells 73 rfl) (by decide) (by omega) (fun hc133 => ?_) (fun hc133 => ?_) | refine wp_if_eq (t := 144) (ck_get kk_Mo_tells 73 rfl) (by decide) (fun hc133 => ?_) (fun hc133 => ?_)
      · exact absurd hc133 (by decide)
      · refine wp_aload_n rfl (ck_get kk_Mo_tells 74 rfl) ?_
        refine wp_iconst (v := nI 1) (by decide) (ck_get kk_Mo_tells 75 rfl) ?_
        refine wp_cV1i (ck_get kk_Mo_tells 76 rfl) ml_Mo_345 (by omega) (Nat.le_of_ble_eq_true rfl) (by assumption) (Ci.to (a1) ?_)
        rintro _ M1 ⟨rfl, eqm1⟩
        obtain rfl := eqm1.symm
        first | refine wp_if_eqN (t := 148) (ck_get kk_Mo_tells 77 rfl) (by decide) (by omega) (fun hc141 => ?_) (fun hc141 => ?_) | refine wp_if_eq (t := 148) (ck_get kk_Mo_tells 77 rfl) (by decide) (fun hc141 => ?_) (fun hc141 => ?_)
        · refine wp_iconst (v := nI 0) (by decide) (ck_get kk_Mo_tells 80 rfl) ?_
          refine wp_istore (ck_get kk_Mo_tells 81 rfl) (by decide) rfl ?_
          exact fin false bk hiff
        · exact absurd rfl hc141
def cmpW (hd : Nat) (x : Int32 × Int32) : Int32 := if hd = 1 then x.1 else x.2
theorem l_tells {P : Nat → Nat → Int32} {hd nc : Nat} {w : Int32} {en : Nat → Bool} (hE : EvH M o ge bs N tc tv false V 6) (hP7 : P 7 = C) (hcn2 : cn ≤ 1024) (hen : ∀ j, en j = true ↔ ¬ j < N) (hh : hd = 1 ∨ hd = 2) : ∀ (r n i lf cl : Nat) (sg : List Int32) (told : Int64) (b : Bool) (x5 x6 x7 x8 x9 : Option Value), ChS tc tv false f en (fun m k => P k m) nc r n i lf cl sg → Hd C cl sg → cl + sg.length ≤ cn → lf ≤ 50 → told.toInt32 = cmpW hd (wgF P cn V n) → Wp g Y_Mo_tells 100 64 [some (.ref o), some (.int (nI hd)), some (.int w), some (.long told), none, x5, x6, x7, x8, x9] [] (emM M o (bs + i) b) (fun q M2 => ∃ x, q = some (.int x) ∧ x = cmpW hd (wgF P cn V nc) ∧ ∃ i2 b2, M2 = emM M o i2 b2) := by
  have hE0 := hE
  obtain ⟨hM, hge, hg1, hg2, hK, hN, hT4, hlaw, hord⟩ := hE
  have to0 := hM.1
  intro r
  induction r with
  | zero => intro n i lf cl sg told b x5 x6 x7 x8 x9 h; exact h.elim
  | succ r ih =>
    intro n i lf cl sg told b x5 x6 x7 x8 x9 h hC hcl hl ht
    obtain ⟨j, lf1, s1, s2, hp1, hCl, rfl, hnx⟩ := h
    rw [List.length_append] at hcl
    have hCl2 : LwS tc tv false f (fun k => P k n) i lf cl j s1 := by
      unfold ClS at hCl
      rwa [if_neg (by decide)] at hCl
    have hiN : i < N := hN i (by rcases hCl2 with ⟨q, -⟩ | ⟨q, -⟩ <;> omega)
    have hix := ev_ix hE0 (show i ≤ N by omega)
    obtain ⟨p1, p2, p3⟩ := p1F_ok (N := N) hN hp1 (by omega) hl
    -- behind the clause
    have nxt : ∀ (told2 : Int64) (b : Bool) (x5 x6 x7 x8 x9 : Option Value), told2.toInt32 = cmpW hd (wgF P cn V (n + 1)) → Wp g Y_Mo_tells 100 64 [some (.ref o), some (.int (nI hd)), some (.int w), some (.long told2), none, x5, x6, x7, x8, x9] [] (emM M o (bs + (j + 1)) b) (fun q M2 => ∃ x, q = some (.int x) ∧ x = cmpW hd (wgF P cn V nc) ∧ ∃ i2 b2, M2 = emM M o i2 b2) := by
      intro told2 b x5 x6 x7 x8 x9 ht2
      rcases hnx with ⟨h1, h2, h3⟩ | ⟨h1, h2, h3⟩
      · have hjN := (hen j).mp h1
        have hjx : bs + (j + 1) < 100000 := by omega
        rw [← h3] at ht2
        refine wp_aload_n rfl (ck_get kk_Mo_tells 36 rfl) ?_
        refine wp_getIv (v := nI (bs + (j + 1))) (ck_get kk_Mo_tells 37 rfl) fl_Mo_294 (by assumption) (emM_25) ?_
        refine wp_aload_n rfl (ck_get kk_Mo_tells 38 rfl) ?_
        refine wp_getIv (v := nI ge) (ck_get kk_Mo_tells 39 rfl) fl_Mo_291 (by assumption) (by rw [emM_f (by omega) (by omega)]; exact hge) ?_
        first | refine wp_icmp_geN (t := 216) (ck_get kk_Mo_tells 40 rfl) (by decide) (by omega) (by omega) (fun hc72 => ?_) (fun hc72 => ?_) | refine wp_icmp_ge (t := 216) (ck_get kk_Mo_tells 40 rfl) (by decide) (fun hc72 => ?_) (fun hc72 => ?_)
        · refine wp_lload_n rfl (ck_get kk_Mo_tells 113 rfl) ?_
          refine wp_l2i (ck_get kk_Mo_tells 114 rfl) ?_
          refine wp_ireturn (ck_get kk_Mo_tells 115 rfl) rfl rfl ⟨_, rfl, ?_⟩
          exact ⟨ht2, _, _, rfl⟩
        · omega
      · exact ih (n + 1) (j + 1) lf1 (cl + s1.length) s2 told2 b x5 x6 x7 x8 x9 h3 hC.r (by omega) p3 ht2
    have hcA := m_codeAt (g := g) (i := bs + i) (b := b) (k := bs + i) hM hge hg2 hix
    rw [ev_tcd hE0 (show i ≤ N by omega)] at hcA
    have hT4i := hT4 i
    rcases hCl2 with ⟨q1, q2, q3⟩ | ⟨q1, q2, q3, j1, l1, u1, u2, q4, q5, q6⟩
    · have hK2 := l_tl117 (g := g) (hd := hd) (told := told) (sm := 1) (w := w) (bk1 := false) (is := tc i) (x8 := x8) (x9 := x9) hE0 hC.l (by omega) hcn2 (by omega) hl q3 (by omega) (by omega) (Q := fun q M2 => ∃ x, q = some (.int x) ∧ x = cmpW hd (wgF P cn V nc) ∧ ∃ i2 b2, M2 = emM M o i2 b2) ?_
      · skip
        refine wp_aload_n rfl (ck_get kk_Mo_tells 36 rfl) ?_
        refine wp_getIv (v := nI (bs + i)) (ck_get kk_Mo_tells 37 rfl) fl_Mo_294 (by assumption) (emM_25) ?_
        refine wp_aload_n rfl (ck_get kk_Mo_tells 38 rfl) ?_
        refine wp_getIv (v := nI ge) (ck_get kk_Mo_tells 39 rfl) fl_Mo_291 (by assumption) (by rw [emM_f (by omega) (by omega)]; exact hge) ?_
        first | refine wp_icmp_geN (t := 216) (ck_get kk_Mo_tells 40 rfl) (by decide) (by omega) (by omega) (fun hc72 => ?_) (fun hc72 => ?_) | refine wp_icmp_ge (t := 216) (ck_get kk_Mo_tells 40 rfl) (by decide) (fun hc72 => ?_) (fun hc72 => ?_)
        · omega
        · refine wp_aload_n rfl (ck_get kk_Mo_tells 41 rfl) ?_
          refine wp_aload_n rfl (ck_get kk_Mo_tells 42 rfl) ?_
          refine wp_getIv (v := nI (bs + i)) (ck_get kk_Mo_tells 43 rfl) fl_Mo_294 (by assumption) (emM_25) ?_
          refine wp_cV1i (ck_get kk_Mo_tells 44 rfl) ml_Mo_297 (by omega) (Nat.le_of_ble_eq_true rfl) (by assumption) (Ci.to (hcA) ?_)
          rintro _ M1 ⟨rfl, eqm1⟩
          obtain rfl := eqm1.symm
          refine wp_istore (ck_get kk_Mo_tells 45 rfl) (by decide) rfl ?_
          refine wp_aload_n rfl (ck_get kk_Mo_tells 46 rfl) ?_
          refine wp_iconst (v := nI 0) (by decide) (ck_get kk_Mo_tells 47 rfl) ?_
          refine wp_putI (ck_get kk_Mo_tells 48 rfl) fl_Mo_304 (by decide +kernel) (by assumption) (by first | exact okI_b0 | exact okI_b1) ?_
          rw [emM_br0]
          refine wp_aload_n rfl (ck_get kk_Mo_tells 49 rfl) ?_
          refine wp_dup rfl (ck_get kk_Mo_tells 50 rfl) ?_
          refine wp_getIv (v := nI (bs + i)) (ck_get kk_Mo_tells 51 rfl) fl_Mo_294 (by assumption) (emM_25) ?_
          refine wp_iconst (v := nI 1) (by decide) (ck_get kk_Mo_tells 52 rfl) ?_
          first | refine wp_iaddN (ck_get kk_Mo_tells 53 rfl) ?_ | refine wp_iadd (ck_get kk_Mo_tells 53 rfl) ?_
          refine wp_putI (ck_get kk_Mo_tells 54 rfl) fl_Mo_294 (by decide +kernel) (by assumption) (okI_int _) ?_
          rw [emM_go, Nat.add_assoc]
          refine wp_iload rfl (ck_get kk_Mo_tells 55 rfl) ?_
          refine wp_iconst (v := nI 2) (by decide) (ck_get kk_Mo_tells 56 rfl) ?_
          first | refine wp_icmp_neN (t := 110) (ck_get kk_Mo_tells 57 rfl) (by decide) (by omega) (by omega) (fun hc103 => ?_) (fun hc103 => ?_) | refine wp_icmp_ne (t := 110) (ck_get kk_Mo_tells 57 rfl) (by decide) (fun hc103 => ?_) (fun hc103 => ?_)
          · omega
          · refine wp_lconst (v := 1) (by decide) (ck_get kk_Mo_tells 58 rfl) ?_
            refine wp_goto (t := 115) (ck_get kk_Mo_tells 59 rfl) (by decide) ?_
            refine wp_lstore (ck_get kk_Mo_tells 63 rfl) (by decide) rfl ?_
            exact hK2
      · intro told2 b2 y8 y9 ht2
        refine nxt told2 b2 _ _ _ _ _ ?_
        rw [ht2, wgF, hP7]
        by_cases hc : P 3 n = -1 ∨ ev0 C cn V 6 (P 3 n).toNatClampNeg = 1
        · rw [if_pos hc, if_pos (show P 1 n = nI 5 from q2)]
          rcases hh with rfl | rfl
          · rw [if_neg (by omega), ht]; rfl
          · rw [if_pos ⟨q1, hc, rfl⟩]; rfl
        · rw [if_neg hc, if_neg (fun q => hc q.2.1)]; exact ht
    · obtain ⟨g1, g2, g3, g4, g5⟩ := psr_ok (N := N) hN f 4 0 (i + 1) lf cl j1 l1 u1 (by omega) q4 (by omega) hl
      subst q6
      rw [List.length_append, len_app2] at hcl
      have hCa := hC.l.l
      have hCb := hC.l.r
      rw [len_app2, ← Nat.add_assoc] at hCb
      obtain ⟨v, bk, hvb, a1, a2, a3⟩ := (ev_all (g := g) (C := C) (cn := cn) hE0 f).2.2.2.2.1 0 (i + 1) lf cl j1 l1 u1 (by omega) q4 hCa.l (by omega) (by omega) hl
      have hev := ev_stop (v := v) hCa (by rw [len_app2]; omega) (fun sz S h => a3 sz S (by omega))
      have hclm : (P 4 n).toNatClampNeg = cl := by rw [show P 4 n = nI cl from q3]; exact nI_clamp (by omega)
      have hK2 := l_tl117 (g := g) (hd := hd) (told := told) (sm := if bk = true then 0 else v) (w := w) (bk1 := bk) (is := tc i) (x8 := x8) (x9 := x9) hE0 hCb (by omega) hcn2 g2 g3 q5 (by omega) (by omega) (Q := fun q M2 => ∃ x, q = some (.int x) ∧ x = cmpW hd (wgF P cn V nc) ∧ ∃ i2 b2, M2 = emM M o i2 b2) ?_
      · skip
        refine wp_aload_n rfl (ck_get kk_Mo_tells 36 rfl) ?_
        refine wp_getIv (v := nI (bs + i)) (ck_get kk_Mo_tells 37 rfl) fl_Mo_294 (by assumption) (emM_25) ?_
        refine wp_aload_n rfl (ck_get kk_Mo_tells 38 rfl) ?_
        refine wp_getIv (v := nI ge) (ck_get kk_Mo_tells 39 rfl) fl_Mo_291 (by assumption) (by rw [emM_f (by omega) (by omega)]; exact hge) ?_
        first | refine wp_icmp_geN (t := 216) (ck_get kk_Mo_tells 40 rfl) (by decide) (by omega) (by omega) (fun hc72 => ?_) (fun hc72 => ?_) | refine wp_icmp_ge (t := 216) (ck_get kk_Mo_tells 40 rfl) (by decide) (fun hc72 => ?_) (fun hc72 => ?_)
        · omega
        · refine wp_aload_n rfl (ck_get kk_Mo_tells 41 rfl) ?_
          refine wp_aload_n rfl (ck_get kk_Mo_tells 42 rfl) ?_
          refine wp_getIv (v := nI (bs + i)) (ck_get kk_Mo_tells 43 rfl) fl_Mo_294 (by assumption) (emM_25) ?_
          refine wp_cV1i (ck_get kk_Mo_tells 44 rfl) ml_Mo_297 (by omega) (Nat.le_of_ble_eq_true rfl) (by assumption) (Ci.to (hcA) ?_)
          rintro _ M1 ⟨rfl, eqm1⟩
          obtain rfl := eqm1.symm
          refine wp_istore (ck_get kk_Mo_tells 45 rfl) (by decide) rfl ?_
          refine wp_aload_n rfl (ck_get kk_Mo_tells 46 rfl) ?_
          refine wp_iconst (v := nI 0) (by decide) (ck_get kk_Mo_tells 47 rfl) ?_
          refine wp_putI (ck_get kk_Mo_tells 48 rfl) fl_Mo_304 (by decide +kernel) (by assumption) (by first | exact okI_b0 | exact okI_b1) ?_
          rw [emM_br0]
          refine wp_aload_n rfl (ck_get kk_Mo_tells 49 rfl) ?_
          refine wp_dup rfl (ck_get kk_Mo_tells 50 rfl) ?_
          refine wp_getIv (v := nI (bs + i)) (ck_get kk_Mo_tells 51 rfl) fl_Mo_294 (by assumption) (emM_25) ?_
          refine wp_iconst (v := nI 1) (by decide) (ck_get kk_Mo_tells 52 rfl) ?_
          first | refine wp_iaddN (ck_get kk_Mo_tells 53 rfl) ?_ | refine wp_iadd (ck_get kk_Mo_tells 53 rfl) ?_
          refine wp_putI (ck_get kk_Mo_tells 54 rfl) fl_Mo_294 (by decide +kernel) (by assumption) (okI_int _) ?_
          rw [emM_go, Nat.add_assoc]
          refine wp_iload rfl (ck_get kk_Mo_tells 55 rfl) ?_
          refine wp_iconst (v := nI 2) (by decide) (ck_get kk_Mo_tells 56 rfl) ?_
          first | refine wp_icmp_neN (t := 110) (ck_get kk_Mo_tells 57 rfl) (by decide) (by omega) (by omega) (fun hc103 => ?_) (fun hc103 => ?_) | refine wp_icmp_ne (t := 110) (ck_get kk_Mo_tells 57 rfl) (by decide) (fun hc103 => ?_) (fun hc103 => ?_)
          · refine wp_aload_n rfl (ck_get kk_Mo_tells 60 rfl) ?_
            refine wp_iconst (v := nI 1) (by decide) (ck_get kk_Mo_tells 61 rfl) ?_
            refine wp_cV1l (ck_get kk_Mo_tells 62 rfl) ml_Mo_321 (by omega) (Nat.le_of_ble_eq_true rfl) (by assumption) (Cl.to (a1) ?_)
            rintro _ M1 ⟨rfl, eqm1⟩
            obtain rfl := eqm1.symm
            refine wp_lstore (ck_get kk_Mo_tells 63 rfl) (by decide) rfl ?_
            exact hK2
          · omega
      · intro told2 b2 y8 y9 ht2
        refine nxt told2 b2 _ _ _ _ _ ?_
        rw [ht2, wgF, hP7]
        by_cases hc : P 3 n = -1 ∨ ev0 C cn V 6 (P 3 n).toNatClampNeg = 1
        · rw [if_pos hc, if_neg (show ¬ P 1 n = nI 5 by rw [show P 1 n = nI 4 from q2]; decide), hclm, hev]
          cases bk with
          | true =>
            rw [if_pos rfl, if_pos rfl, if_neg (fun q => Bool.false_ne_true q.2.2.symm)]; exact ht
          | false =>
            rw [if_neg Bool.false_ne_true, if_neg Bool.false_ne_true, if_neg (inR_brk (hvb rfl))]
            rcases hh with rfl | rfl
            · rw [if_pos ⟨q1, hc, rfl⟩]; rfl
            · rw [if_neg (by omega), ht]; rfl
        · rw [if_neg hc, if_neg (fun q => hc q.2.1)]; exact ht
end TEL

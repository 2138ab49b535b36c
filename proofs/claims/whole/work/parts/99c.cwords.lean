/-! ===== the class's words of orders; is a clause wanted? ===== -/
abbrev owM (M : Mem) (V : Nat → Int32) : Mem := mk2 M (up1 (mI M) 935 V) (mJ M)
section CWO
variable {g : Gl} {M : Mem} {pf pg : Nat → Nat}
theorem nI_ne1 {t : Nat} (h : t < 2147483648) : ¬ nI t = -1 := fun q => by
  have := congrArg Int32.toInt q
  rw [nI_toInt h] at this
  have e : (-1 : Int32).toInt = -1 := by decide
  omega
theorem ow_s {V : Nat → Int32} {k : Nat} {v : Int32} : sI (owM M V) 935 k v = owM M (up1 V k v) := by
  refine mk2_ext (M := M) ?_ rfl
  show up2 (up1 (mI M) 935 V) 935 k v = _
  rw [up2_up1, up1_eq, up1_up1]
theorem ow_0 {k : Nat} {v : Int32} : sI M 935 k v = owM M (up1 (mI M 935) k v) := by
  refine mk2_ext (M := M) ?_ rfl
  rw [up2_up1]
theorem ow_x {V : Nat → Int32} {x k : Nat} (h : x ≠ 935) : mI (owM M V) x k = mI M x k := by
  show up1 (mI M) 935 V x k = _
  rw [up1_ne h]
theorem c_setOrderWords {s : OS} (hL : LayC (mT M) (mR M) pf pg) (hs : WoHas (mI M) (mJ M) 2 s.1) : Cv g Y_Mc_setOrderWords 0 [.ref 0, .int (nI s.2.2.1), .int s.2.2.2] M (fun M2 => ∃ V, (∀ k, k < 11 → V k = oV s k) ∧ M2 = owM M V) := by
  obtain ⟨t0, ⟨r0, hSh⟩, -, -, -, -, -, -, -, -, ⟨r11, hJu⟩, -⟩ := hL
  have sh0 := hSh.1
  have sr0 := hSh.2.1
  have hW := hSh.2.2.1
  have tw := hW.1
  have rww := hW.2.1
  have twa := hW.2.2.1
  obtain ⟨tj0, rj2, tj1, -⟩ := hJu
  have hloop : ∀ d t V, t + d = 4 → (∀ k, k < 3 ∨ (k < 3 + t ∧ k < 7) ∨ (7 ≤ k ∧ k < 7 + t) → V k = oV s k) → Wp g Y_Mc_setOrderWords 0 32 [some (.ref 0), some (.int (nI s.2.2.1)), some (.int s.2.2.2), some (.ref 935), some (.int (nI t))] [] (owM M V) (fun r M2 => r = none ∧ ∃ V, (∀ k, k < 11 → V k = oV s k) ∧ M2 = owM M V) := by
    intro d
    induction d with
    | zero =>
      intro t V ht hV
      refine wp_iload rfl (ck_get kk_Mc_setOrderWords 21 rfl) ?_
      refine wp_iconst (v := nI 4) (by decide) (ck_get kk_Mc_setOrderWords 22 rfl) ?_
      first | refine wp_icmp_geN (t := 91) (ck_get kk_Mc_setOrderWords 23 rfl) (by decide) (by omega) (by omega) (fun hc35 => ?_) (fun hc35 => ?_) | refine wp_icmp_ge (t := 91) (ck_get kk_Mc_setOrderWords 23 rfl) (by decide) (fun hc35 => ?_) (fun hc35 => ?_)
      · refine wp_return (ck_get kk_Mc_setOrderWords 52 rfl) rfl ⟨rfl, ?_⟩
        exact ⟨V, fun k hk => hV k (by omega), rfl⟩
      · omega
    | succ d ih =>
      intro t V ht hV
      have ht4 : t < 4 := by omega
      obtain ⟨rt, hTe⟩ := hW.2.2.2 t ht4
      have tt := hTe.1
      have hst := hs.2 t ht4
      obtain ⟨e1, -, e3, -⟩ := hst
      obtain ⟨-, q1, q2, q3, q4, q5, q6, q7, -⟩ := hTe
      refine wp_iload rfl (ck_get kk_Mc_setOrderWords 21 rfl) ?_
      refine wp_iconst (v := nI 4) (by decide) (ck_get kk_Mc_setOrderWords 22 rfl) ?_
      first | refine wp_icmp_geN (t := 91) (ck_get kk_Mc_setOrderWords 23 rfl) (by decide) (by omega) (by omega) (fun hc35 => ?_) (fun hc35 => ?_) | refine wp_icmp_ge (t := 91) (ck_get kk_Mc_setOrderWords 23 rfl) (by decide) (fun hc35 => ?_) (fun hc35 => ?_)
      · omega
      · refine wp_aload_n rfl (ck_get kk_Mc_setOrderWords 24 rfl) ?_
        refine wp_iconst (v := nI 3) (by decide) (ck_get kk_Mc_setOrderWords 25 rfl) ?_
        refine wp_iload rfl (ck_get kk_Mc_setOrderWords 26 rfl) ?_
        first | refine wp_iaddN (ck_get kk_Mc_setOrderWords 27 rfl) ?_ | refine wp_iadd (ck_get kk_Mc_setOrderWords 27 rfl) ?_
        refine wp_aload_n rfl (ck_get kk_Mc_setOrderWords 28 rfl) ?_
        refine wp_getR (ck_get kk_Mc_setOrderWords 29 rfl) fl_Mc_12 (by assumption) (by assumption) ?_
        refine wp_getR (ck_get kk_Mc_setOrderWords 30 rfl) fl_Mc_107 (by assumption) (by assumption) ?_
        refine wp_getR (ck_get kk_Mc_setOrderWords 31 rfl) fl_Mc_110 (by assumption) (by assumption) ?_
        refine wp_iload rfl (ck_get kk_Mc_setOrderWords 32 rfl) ?_
        refine wp_aald (ck_get kk_Mc_setOrderWords 33 rfl) (by assumption) (ixk_nI (k := t) (by omega) (by omega)) (by assumption) ?_
        refine wp_getR (ck_get kk_Mc_setOrderWords 34 rfl) fl_Mc_128 (by assumption) (by assumption) ?_
        refine wp_iconst (v := nI 0) (by decide) (ck_get kk_Mc_setOrderWords 35 rfl) ?_
        refine wp_ialdv (v := nI (tCo (s.1.2 t) 0)) (ck_get kk_Mc_setOrderWords 36 rfl) (by assumption) (by first | assumption | exact ixk_nI (by omega) (by omega)) (by rw [ow_x (by omega)]; exact e3 0 (by omega)) ?_
        refine wp_iast (ck_get kk_Mc_setOrderWords 37 rfl) (by assumption) (ixk_nI (k := 3 + t) (by omega) (by omega)) ?_
        rw [ow_s]
        refine wp_aload_n rfl (ck_get kk_Mc_setOrderWords 38 rfl) ?_
        refine wp_bipush (v := nI 7) (by decide) (ck_get kk_Mc_setOrderWords 39 rfl) ?_
        refine wp_iload rfl (ck_get kk_Mc_setOrderWords 40 rfl) ?_
        first | refine wp_iaddN (ck_get kk_Mc_setOrderWords 41 rfl) ?_ | refine wp_iadd (ck_get kk_Mc_setOrderWords 41 rfl) ?_
        refine wp_aload_n rfl (ck_get kk_Mc_setOrderWords 42 rfl) ?_
        refine wp_getR (ck_get kk_Mc_setOrderWords 43 rfl) fl_Mc_12 (by assumption) (by assumption) ?_
        refine wp_getR (ck_get kk_Mc_setOrderWords 44 rfl) fl_Mc_107 (by assumption) (by assumption) ?_
        refine wp_getR (ck_get kk_Mc_setOrderWords 45 rfl) fl_Mc_110 (by assumption) (by assumption) ?_
        refine wp_iload rfl (ck_get kk_Mc_setOrderWords 46 rfl) ?_
        refine wp_aald (ck_get kk_Mc_setOrderWords 47 rfl) (by assumption) (ixk_nI (k := t) (by omega) (by omega)) (by assumption) ?_
        refine wp_getIv (v := nI (tSt (s.1.2 t)).length) (ck_get kk_Mc_setOrderWords 48 rfl) fl_Mc_114 (by assumption) (by rw [ow_x (by omega)]; exact e1) ?_
        refine wp_iast (ck_get kk_Mc_setOrderWords 49 rfl) (by assumption) (ixk_nI (k := 7 + t) (by omega) (by omega)) ?_
        rw [ow_s]
        first | refine wp_iincN (ck_get kk_Mc_setOrderWords 50 rfl) rfl (by decide) rfl ?_ | refine wp_iinc (ck_get kk_Mc_setOrderWords 50 rfl) rfl (by decide) rfl ?_
        refine wp_goto (t := 32) (ck_get kk_Mc_setOrderWords 51 rfl) (by decide) ?_
        refine ih (t + 1) _ (by omega) (fun k hk => ?_)
        by_cases k7 : k = 7 + t
        · subst k7
          rw [up1_eq]
          unfold oV
          rw [if_neg (by omega), if_neg (by omega), if_neg (by omega), if_neg (by omega), Nat.add_sub_cancel_left]
        · rw [up1_ne k7]
          by_cases k3 : k = 3 + t
          · subst k3
            rw [up1_eq]
            unfold oV
            rw [if_neg (by omega), if_neg (by omega), if_neg (by omega), if_pos (by omega), Nat.add_sub_cancel_left]
          · rw [up1_ne k3]; exact hV k (by omega)
  refine cw_entry 2 pf_Mc_setOrderWords rfl ?_
  refine wp_aload_n rfl (ck_get kk_Mc_setOrderWords 0 rfl) ?_
  refine wp_getR (ck_get kk_Mc_setOrderWords 1 rfl) fl_Mc_66 (by assumption) (by assumption) ?_
  refine wp_getR (ck_get kk_Mc_setOrderWords 2 rfl) fl_Mc_425 (by assumption) (by assumption) ?_
  refine wp_astore_n (ck_get kk_Mc_setOrderWords 3 rfl) (by decide) rfl ?_
  refine wp_aload_n rfl (ck_get kk_Mc_setOrderWords 4 rfl) ?_
  refine wp_iconst (v := nI 0) (by decide) (ck_get kk_Mc_setOrderWords 5 rfl) ?_
  refine wp_aload_n rfl (ck_get kk_Mc_setOrderWords 6 rfl) ?_
  refine wp_getR (ck_get kk_Mc_setOrderWords 7 rfl) fl_Mc_12 (by assumption) (by assumption) ?_
  refine wp_getR (ck_get kk_Mc_setOrderWords 8 rfl) fl_Mc_107 (by assumption) (by assumption) ?_
  refine wp_getIv (v := nI s.1.1) (ck_get kk_Mc_setOrderWords 9 rfl) fl_Mc_369 (by assumption) (hs.1) ?_
  refine wp_iast (ck_get kk_Mc_setOrderWords 10 rfl) (by assumption) (by first | assumption | exact ixk_nI (by omega) (by omega)) ?_
  rw [ow_0]
  refine wp_aload_n rfl (ck_get kk_Mc_setOrderWords 11 rfl) ?_
  refine wp_iconst (v := nI 1) (by decide) (ck_get kk_Mc_setOrderWords 12 rfl) ?_
  refine wp_iload_n rfl (ck_get kk_Mc_setOrderWords 13 rfl) ?_
  refine wp_iast (ck_get kk_Mc_setOrderWords 14 rfl) (by assumption) (by first | assumption | exact ixk_nI (by omega) (by omega)) ?_
  rw [ow_s]
  refine wp_aload_n rfl (ck_get kk_Mc_setOrderWords 15 rfl) ?_
  refine wp_iconst (v := nI 2) (by decide) (ck_get kk_Mc_setOrderWords 16 rfl) ?_
  refine wp_iload_n rfl (ck_get kk_Mc_setOrderWords 17 rfl) ?_
  refine wp_iast (ck_get kk_Mc_setOrderWords 18 rfl) (by assumption) (by first | assumption | exact ixk_nI (by omega) (by omega)) ?_
  rw [ow_s]
  refine wp_iconst (v := nI 0) (by decide) (ck_get kk_Mc_setOrderWords 19 rfl) ?_
  refine wp_istore (ck_get kk_Mc_setOrderWords 20 rfl) (by decide) rfl ?_
  refine hloop 4 0 _ (by omega) (fun k hk => ?_)
  have hk3 : k = 0 ∨ k = 1 ∨ k = 2 := by omega
  rcases hk3 with rfl | rfl | rfl
  · rw [up1_ne (by omega), up1_ne (by omega), up1_eq]; rfl
  · rw [up1_ne (by omega), up1_eq]; rfl
  · rw [up1_eq]; rfl
theorem ev0_V {C : Nat → Int32} {cl : Nat} {V V2 : Nat → Int32} (h : ∀ u, u < 11 → V u = V2 u) (c : Nat) : ev0 C cl V 11 c = ev0 C cl V2 11 c := evF_V (by omega) h _ _ _ _
theorem c_isWanted {n cn : Nat} {s : OS} (hL : LayC (mT M) (mR M) pf pg) (hn : n < 12) (h8 : mI M 925 8 = nI cn) (hcn : cn ≤ 1024) (hC : CodeW (mI M 932) cn 11) (hV : ∀ k, k < 11 → mI M 935 k = oV s k) (h3 : mI M 928 n = -1 ∨ EtOK (fun k => mI M (925 + k) n) 3 cn) :
    Ci g Y_Mc_isWanted 2 [.ref 0, .ref 925, .int (nI n)] M (fun x M2 => x = bI (decide (oWant (mI M 932) cn s (fun k => mI M (925 + k) n))) ∧ ∃ S2, M2 = evM M 934 S2) := by
  obtain ⟨t0, -, -, -, -, -, -, -, -, ⟨r10, hPa⟩, ⟨r11, hJu⟩, -⟩ := hL
  have hPr := hPa.2.2.1
  have tp0 := hPr.1
  have rp3 := hPr.2.1 3 (by omega) (by omega)
  have tp3 := hPr.2.2.1 3 (by omega) (by omega)
  have hJ0 := hJu
  obtain ⟨tj0, rj2, tj1, -⟩ := hJu
  have eid : ∀ {b : Bool}, bI b = bI b ∧ ∃ S2, M = evM M 934 S2 := fun {b} => ⟨rfl, mJ M 937, by show M = mk2 M (mI M) (up1 (mJ M) 937 (mJ M 937)); rw [up1_self]⟩
  refine cw_entry 0 pf_Mc_isWanted rfl ?_
  rcases h3 with h3 | ⟨t, h3, h4, h5⟩
  · have hw : oWant (mI M 932) cn s (fun k => mI M (925 + k) n) := Or.inl h3
    rw [decide_eq_true hw]
    refine wp_aload_n rfl (ck_get kk_Mc_isWanted 0 rfl) ?_
    refine wp_getR (ck_get kk_Mc_isWanted 1 rfl) fl_Mc_428 (by assumption) (by assumption) ?_
    refine wp_iload_n rfl (ck_get kk_Mc_isWanted 2 rfl) ?_
    refine wp_ialdv (v := -1) (ck_get kk_Mc_isWanted 3 rfl) (by assumption) (ixk_nI (k := n) (by omega) (by omega)) (h3) ?_
    refine wp_iconst (v := (-1)) (by decide) (ck_get kk_Mc_isWanted 4 rfl) ?_
    refine wp_icmp_eq (t := 36) (ck_get kk_Mc_isWanted 5 rfl) (by decide) (fun hc7 => ?_) (fun hc7 => ?_)
    · refine wp_iconst (v := nI 1) (by decide) (ck_get kk_Mc_isWanted 20 rfl) ?_
      refine wp_goto (t := 41) (ck_get kk_Mc_isWanted 21 rfl) (by decide) ?_
      refine wp_ireturn (ck_get kk_Mc_isWanted 23 rfl) rfl rfl ⟨_, rfl, ?_⟩
      exact eid (b := true)
    · exact absurd rfl hc7
  · have h5' : mI M 928 n = nI t := h5
    have hn1 : ¬ mI M 928 n = -1 := by rw [h5']; exact nI_ne1 (by omega)
    have hwi : oWant (mI M 932) cn s (fun k => mI M (925 + k) n) ↔ ev0 (mI M 932) cn (mI M 935) 11 t = 1 := by
      show (mI M 928 n = -1 ∨ ev0 (mI M 932) cn (oV s) 11 (mI M 928 n).toNatClampNeg = 1) ↔ _
      rw [h5', nI_clamp (by omega), ev0_V hV]
      exact ⟨fun q => q.resolve_left (by rw [← h5']; exact hn1), Or.inr⟩
    have hev := c_eval0 (g := g) (j := 934) (p := 925) (w := 935) (fr := t) hJ0 hPr h8 hcn (by omega) (by exact tj1) (by omega) hC h4 h3
    refine wp_aload_n rfl (ck_get kk_Mc_isWanted 0 rfl) ?_
    refine wp_getR (ck_get kk_Mc_isWanted 1 rfl) fl_Mc_428 (by assumption) (by assumption) ?_
    refine wp_iload_n rfl (ck_get kk_Mc_isWanted 2 rfl) ?_
    refine wp_ialdv (v := nI t) (ck_get kk_Mc_isWanted 3 rfl) (by assumption) (ixk_nI (k := n) (by omega) (by omega)) (h5') ?_
    refine wp_iconst (v := (-1)) (by decide) (ck_get kk_Mc_isWanted 4 rfl) ?_
    refine wp_icmp_eq (t := 36) (ck_get kk_Mc_isWanted 5 rfl) (by decide) (fun hc7 => ?_) (fun hc7 => ?_)
    · exact absurd hc7 (by rw [← h5']; exact hn1)
    · refine wp_aload_n rfl (ck_get kk_Mc_isWanted 6 rfl) ?_
      refine wp_getR (ck_get kk_Mc_isWanted 7 rfl) fl_Mc_66 (by assumption) (by assumption) ?_
      refine wp_aload_n rfl (ck_get kk_Mc_isWanted 8 rfl) ?_
      refine wp_aload_n rfl (ck_get kk_Mc_isWanted 9 rfl) ?_
      refine wp_getR (ck_get kk_Mc_isWanted 10 rfl) fl_Mc_428 (by assumption) (by assumption) ?_
      refine wp_iload_n rfl (ck_get kk_Mc_isWanted 11 rfl) ?_
      refine wp_ialdv (v := nI t) (ck_get kk_Mc_isWanted 12 rfl) (by assumption) (ixk_nI (k := n) (by omega) (by omega)) (h5') ?_
      refine wp_aload_n rfl (ck_get kk_Mc_isWanted 13 rfl) ?_
      refine wp_getR (ck_get kk_Mc_isWanted 14 rfl) fl_Mc_66 (by assumption) (by assumption) ?_
      refine wp_getR (ck_get kk_Mc_isWanted 15 rfl) fl_Mc_425 (by assumption) (by assumption) ?_
      refine wp_cV3l (ck_get kk_Mc_isWanted 16 rfl) ml_Mc_431 (by omega) (Nat.le_of_ble_eq_true rfl) (by assumption) (Cl.to (hev) ?_)
      rintro v₁ M₁ ⟨hv, S2, hM1⟩
      refine wp_lconst (v := 1) (by decide) (ck_get kk_Mc_isWanted 17 rfl) ?_
      refine wp_lcmp (ck_get kk_Mc_isWanted 18 rfl) ?_
      refine wp_if_ne (t := 40) (ck_get kk_Mc_isWanted 19 rfl) (by decide) (fun hc33 => ?_) (fun hc33 => ?_)
      · refine wp_iconst (v := nI 0) (by decide) (ck_get kk_Mc_isWanted 22 rfl) ?_
        refine wp_ireturn (ck_get kk_Mc_isWanted 23 rfl) rfl rfl ⟨_, rfl, ?_⟩
        refine ⟨?_, S2, hM1⟩; rw [decide_eq_false (fun q => hc33 ((lcmp_eq _ _).mpr (hv.trans (hwi.mp q))))]; rfl
      · refine wp_iconst (v := nI 1) (by decide) (ck_get kk_Mc_isWanted 20 rfl) ?_
        refine wp_goto (t := 41) (ck_get kk_Mc_isWanted 21 rfl) (by decide) ?_
        refine wp_ireturn (ck_get kk_Mc_isWanted 23 rfl) rfl rfl ⟨_, rfl, ?_⟩
        refine ⟨?_, S2, hM1⟩; rw [decide_eq_true (hwi.mpr (hv.symm.trans ((lcmp_eq _ _).mp hc33)))]; rfl
end CWO

/-! ===== orders, by the class ===== -/
section ORD
variable {g : Gl} {M : Mem}
def OrF (z : ST) (sg : List Int32) (C : Nat → Int32) (E : Nat → Nat → Int32) (nc : Nat) : Prop := ChS (tC (zT z).2 (zT z).1) (tV (zT z).2 (zT z).1) true (12 * (zT z).1 + 6) (enT (zT z).2 (zT z).1) E nc 12 0 0 0 0 sg ∧ Hd C 0 sg ∧ nc ≤ 12
abbrev zOS (z : ST) : OS := (sWo (zS z), [], 0, -1)
abbrev zOr (z : ST) (sg : List Int32) (C : Nat → Int32) (E : Nat → Nat → Int32) (nc : Nat) : OS ⊕ Nat := oAll (zRes z) (sMd (zS z)) (sSl (zS z)) C sg.length E nc 0 (zOS z)
def ordX (R : OS ⊕ Nat) : Int32 := match R with
  | .inl s => nI s.2.2.1
  | .inr _ => -3
def zSt (z : ST) (p f : Int32) : ST := (zS z, zU z, zI z, zD z, (0, (zT z).2), (zB z, p, zC z, f), zR z, zG z)
def ordZ (z : ST) (R : OS ⊕ Nat) : ST := match R with
  | .inl s => zGood ((s.1, (zS z).2), psL s.2.1 (zU z), (zSt z (-1) (-1)).2.2)
  | .inr n => zBad (zSt z (nI n) (-1)) 3
theorem ZOK.st {c : Nat} {z : ST} {p f : Int32} (h : ZOK c z) : ZOK c (zSt z p f) := ⟨h.1, h.2.1, h.2.2.1, Nat.zero_le _, h.2.2.2.2⟩
theorem ZOK.ord {c : Nat} {z : ST} {R : OS ⊕ Nat} (h : ZOK c z) (hR : ∀ s, R = .inl s → OOK s (bC (c + 1))) : ZOK (c + 1) (ordZ z R) := by
  have h1 : ZOK (c + 1) z := h.le (Nat.le_succ c)
  cases R with
  | inl s =>
    obtain ⟨o1, o2, o3, -⟩ := hR s rfl
    exact ⟨h1.1.wo o1 o2, psL_ok o3 h1.2.1, h1.2.2.1, Nat.zero_le _, h1.2.2.2.2⟩
  | inr n => exact h1.st (p := nI n) (f := -1)
theorem pf_apart {pf pg : Nat → Nat} (h : PfOK pf pg) {s r : Nat} (hs : s < 16) (hr : r < 16) : slA (pf s) + 26 ≤ slA (pg r) ∨ slA (pg r) + 26 ≤ slA (pf s) := slA_apart (h.1 s hs).1 (h.1 r hr).2 (h.2.2.2 s r hs hr)
theorem c_ordersT {c j lf : Nat} {z : ST} {sg : List Int32} (hS : OutOK g) (h : CR c z M) (hO : ZOK c z) (hc : c < 512) (hp : zPc z true = (true, j, lf, sg)) : Ci g Y_Mc_orders 300 [.ref 0] M (fun y M2 => ∃ C E nc, OrF z sg C E nc ∧ (∀ s, zOr z sg C E nc = .inl s → OOK s (bC (c + 1))) ∧ y = ordX (zOr z sg C E nc) ∧ CR (c + 1) (ordZ z (zOr z sg C E nc)) M2 ∧ MSame M M2) := by
  have hCR := h
  have hC' := h.le (Nat.le_succ c)
  obtain ⟨pf, pg, hL, hSC, hTC, hIC, hDC, hPC, hNC, hBC, hZC⟩ := h
  obtain ⟨t0, ⟨r00, hSh⟩, ⟨r01, hTr⟩, ⟨r02, hTg⟩, ⟨r03, hWa⟩, ⟨r04, hWp⟩, ⟨r06, t921, r921a, r921b, hS0, hS1⟩, ⟨r07, t922⟩, ⟨r08, t923⟩, ⟨r010, hPa⟩, ⟨r011, hJu⟩, ⟨r012, hRe⟩, ⟨r013, hCu⟩, ⟨r014, hDe⟩, ⟨r018, t959⟩, hPf⟩ := id hL
  have t1 : mT M 1 = (6, 0) := hSh.1
  have r10 : mR M 1 0 = some 2 := hSh.2.1
  have hW2 : WoAt (mT M) (mR M) 2 := hSh.2.2.1
  have t2 : mT M 2 = (9, 0) := hW2.1
  have r20 : mR M 2 0 = some 3 := hW2.2.1
  have t3 : mT M 3 = (24, 4) := hW2.2.2.1
  have t31 : mT M 31 = (8, 0) := hTr.1
  have t924 : mT M 924 = (3, 0) := hPa.1
  have t934 : mT M 934 = (2, 0) := hJu.1
  have t938 : mT M 938 = (5, 0) := hRe.1
  have t947 : mT M 947 = (0, 0) := hCu.1
  have t952 : mT M 952 = (1, 0) := hDe.1
  have e9 := hPC.1
  have h400 := hO.2.2.2.1
  have hsg := sg_1024 h400 hp
  have hbc : bC c < 400000000 := by unfold bC; omega
  have hbd : bC c + 760320 = bC (c + 1) := by unfold bC; omega
  have hR : ∀ x y, ¬ (x = 924 ∧ y = 2) → up2 (mR M) 924 2 (some 923) x y = mR M x y := fun x y q => by
    unfold up2; rw [if_neg q]
  have hL2 : LayC (mT M) (up2 (mR M) 924 2 (some 923)) pf pg := hL.kk (fun _ _ => rfl) (fun x _ _ _ _ _ y hy => hR x y (fun q => hy q.1 q.2))
  obtain ⟨-, ⟨a00, hShB⟩, ⟨a01, hTrB⟩, ⟨a02, hTgB⟩, ⟨a03, hWaB⟩, -⟩ := id hL2
  have hW2B : WoAt (mT M) (up2 (mR M) 924 2 (some 923)) 2 := hShB.2.2.1
  have a10 : up2 (mR M) 924 2 (some 923) 1 0 = some 2 := hShB.2.1
  have t450 : mT M 450 = (8, 0) := hTg.1
  have t869 : mT M 869 = (9, 0) := hWa.1
  refine Cw.le (n := 240) (by omega) ?_
  refine cw_entry 6 pf_Mc_orders rfl ?_
  refine wp_aload_n rfl (ck_get kk_Mc_orders 0 rfl) ?_
  first | refine wp_getIv (ck_get kk_Mc_orders 1 rfl) fl_Mc_52 (by assumption) (by assumption) ?_ | refine wp_getI (ck_get kk_Mc_orders 1 rfl) fl_Mc_52 (by assumption) ?_
  refine wp_istore_n (ck_get kk_Mc_orders 2 rfl) (by decide) rfl ?_
  refine wp_aload_n rfl (ck_get kk_Mc_orders 3 rfl) ?_
  refine wp_iconst (v := nI 0) (by decide) (ck_get kk_Mc_orders 4 rfl) ?_
  refine wp_putI (ck_get kk_Mc_orders 5 rfl) fl_Mc_52 (by decide +kernel) (by assumption) (okI_int _) ?_
  refine wp_aload_n rfl (ck_get kk_Mc_orders 6 rfl) ?_
  refine wp_iconst (v := (-1)) (by decide) (ck_get kk_Mc_orders 7 rfl) ?_
  refine wp_putI (ck_get kk_Mc_orders 8 rfl) fl_Mc_94 (by decide +kernel) (by assumption) (okI_int _) ?_
  refine wp_aload_n rfl (ck_get kk_Mc_orders 9 rfl) ?_
  refine wp_getR (ck_get kk_Mc_orders 10 rfl) fl_Mc_59 (by assumption) (by assumption) ?_
  refine wp_aload_n rfl (ck_get kk_Mc_orders 11 rfl) ?_
  refine wp_getR (ck_get kk_Mc_orders 12 rfl) fl_Mc_48 (by assumption) (by assumption) ?_
  refine wp_iload_n rfl (ck_get kk_Mc_orders 13 rfl) ?_
  refine wp_iconst (v := nI 1) (by decide) (ck_get kk_Mc_orders 14 rfl) ?_
  refine wp_cV3i (ck_get kk_Mc_orders 15 rfl) ml_Mc_212 (by omega) (Nat.le_of_ble_eq_true rfl) (by assumption) (Ci.to (c_compile (od := true) (f := 12 * (zT z).1 + 6) (bt := (zT z).2) hS (by exact hPa) h400 (fun j hj => (congrFun (s_o (by omega)) j).trans ((congrFun (s_o (by omega)) j).trans (hPC.2 j hj))) hO.2.2.2.2.1 (Nat.le_refl _)) ?_)
  rintro x M1 ⟨I2, e1, e2, e3⟩
  subst e1
  obtain ⟨rfl, j2, lf2, sg2, nc, q1, q2, q3, q4, q5, q6, q7⟩ | ⟨-, j2, lf2, sg2, q1, -⟩ := e3
  · obtain rfl : sg2 = sg := by rw [show pcF _ _ _ _ _ _ _ _ _ = _ from hp] at q1; exact (Prod.mk.inj (Prod.mk.inj (Prod.mk.inj q1).2).2).2.symm
    have fx : ∀ x, x ≠ 0 → x < 924 ∨ 933 ≤ x → I2 x = mI M x := fun x a b => by rw [e2 x (by omega)]; exact (s_o a).trans (s_o a)
    have f0 : ∀ y, y ≠ 9 → y ≠ 16 → I2 0 y = mI M 0 y := fun y a b => by rw [e2 0 (by omega)]; exact (s_k b).trans (s_k a)
    have f09 : I2 0 9 = nI 0 := by rw [e2 0 (by omega)]; exact (s_k (by omega)).trans s_v
    have f016 : I2 0 16 = -1 := by rw [e2 0 (by omega)]; exact s_v
    first | refine wp_if_neN (t := 38) (ck_get kk_Mc_orders 16 rfl) (by decide) (by omega) (fun hc28 => ?_) (fun hc28 => ?_) | refine wp_if_ne (t := 38) (ck_get kk_Mc_orders 16 rfl) (by decide) (fun hc28 => ?_) (fun hc28 => ?_)
    · refine wp_aload_n rfl (ck_get kk_Mc_orders 21 rfl) ?_
      refine wp_getR (ck_get kk_Mc_orders 22 rfl) fl_Mc_29 (by assumption) (by assumption) ?_
      refine wp_aload_n rfl (ck_get kk_Mc_orders 23 rfl) ?_
      refine wp_getR (ck_get kk_Mc_orders 24 rfl) fl_Mc_12 (by assumption) (by assumption) ?_
      refine wp_getR (ck_get kk_Mc_orders 25 rfl) fl_Mc_107 (by assumption) (by assumption) ?_
      refine wp_cV1v (ck_get kk_Mc_orders 26 rfl) ml_Mc_230 (by omega) (Nat.le_of_ble_eq_true rfl) (by assumption) (Cv.to (c_WocopyFrom (v := 2) (w := 869) (by exact hW2B) (by exact hWaB) (by omega)) ?_)
      rintro M3 ⟨I3, J3, w1, w2, w3⟩
      subst w1
      refine wp_aload_n rfl (ck_get kk_Mc_orders 27 rfl) ?_
      refine wp_getR (ck_get kk_Mc_orders 28 rfl) fl_Mc_23 (by assumption) (by assumption) ?_
      refine wp_cV0v (ck_get kk_Mc_orders 29 rfl) ml_Mc_182 (by omega) (Nat.le_of_ble_eq_true rfl) (by assumption) (Cv.to (c_Trclear (wf := fun s => slA (pg s)) (by exact hTgB)) ?_)
      rintro M4 w4
      subst w4
      generalize hI4 : up2 (up2 I3 450 2 (nI 0)) 450 3 (nI 0) = I4
      have eM4 : sI (sI (mk2 (mk5 M I2 (mJ M) (up2 (mR M) 924 2 (some 923))) I3 J3) 450 2 (nI 0)) 450 3 (nI 0) = mk5 M I4 J3 (up2 (mR M) 924 2 (some 923)) := by rw [← hI4]
      have g4 : ∀ x, x ≠ 450 → x < 869 ∨ 895 ≤ x → I4 x = I2 x ∧ J3 x = mJ M x := fun x a b => ⟨by rw [← hI4, up2_o a, up2_o a]; exact (w3 x (by omega)).1, (w3 x (by omega)).2⟩
      have g4a : ∀ x, 869 ≤ x → x < 895 → I4 x = I3 x := fun x a b => by rw [← hI4, up2_o (by omega), up2_o (by omega)]
      have hk4 : HiK (mT M) (mR M) (mI M) (mT M) (up2 (mR M) 924 2 (some 923)) I4 := fun x hx _ => ⟨rfl, funext fun y => hR x y (by omega), by rw [(g4 x (by omega) (by omega)).1, fx x (by omega) (by omega)]⟩
      have hS4 : ShC (mT M) (up2 (mR M) 924 2 (some 923)) I4 J3 1 (zS z) := hSC.kept (fun x q1 q2 => ⟨by rw [(g4 x (by omega) (by omega)).1, fx x (by omega) (by omega)], (g4 x (by omega) (by omega)).2⟩) (funext fun y => hR 30 y (by omega)) hk4
      have ha4 : WoHas I4 J3 869 (sWo (zS z)) := by
        have hb : WoHas I2 (mJ M) 2 (sWo (zS z)) := hSC.1.kept (fun x q1 q2 => ⟨fx x (by omega) (by omega), rfl⟩)
        exact (w2.has hb hO.1.1).kept (fun x q1 q2 => ⟨g4a x (by omega) (by omega), rfl⟩)
      have hT4 : ∀ s, s < 16 → ∀ x, slA (pf s) ≤ x → x < slA (pf s) + 26 → I4 x = mI M x ∧ J3 x = mJ M x := fun s hs x q1 q2 => by
        have := slA_lt (hPf.1 s hs).1
        exact ⟨by rw [(g4 x (by omega) (by omega)).1, fx x (by omega) (by omega)], (g4 x (by omega) (by omega)).2⟩
      obtain ⟨fT, hTC⟩ := hTC
      have hT31 : TrHas I4 J3 31 (fun s => slA (pf s)) fT (zU z).1 (zU z).2 := hTC.kept ⟨by rw [(g4 31 (by omega) (by omega)).1, fx 31 (by omega) (by omega)], by rw [(g4 33 (by omega) (by omega)).1, fx 33 (by omega) (by omega)]⟩ hT4
      have hCh : OrF z sg2 (I4 932) (fun m k => I4 (925 + k) m) nc := by
        refine ⟨ChS_e (fun m k m1 k1 k2 => ?_) 12 0 0 0 0 sg2 (by omega) q7, fun q hq => ?_, q4⟩
        · show I2 (924 + 1 + k) m = I4 (925 + k) m
          rw [(g4 (925 + k) (by omega) (by omega)).1]
        · rw [Nat.zero_add, (g4 932 (by omega) (by omega)).1]
          exact q6 q hq
      obtain ⟨u1, u2, u3⟩ := ChS_cw hCh.1 rfl
      have hCP : CoP (mk5 M I4 J3 (up2 (mR M) 924 2 (some 923))) (zRes z) (sMd (zS z)) (sSl (zS z)) sg2.length nc := ⟨hS4.n hO.1, (congrFun (g4 925 (by omega) (by omega)).1 8).trans q5, hsg, (congrFun (g4 925 (by omega) (by omega)).1 0).trans q3, q4, CodeW_of u1 hCh.2.1, fun n hn => by have := u3 n (Nat.zero_le _) hn; rw [Nat.zero_add] at this; exact this⟩
      have hCO : CoO (mk5 M I4 J3 (up2 (mR M) 924 2 (some 923))) pg (fun _ => (0, sWo (zS z))) (zOS z) (mk5 M I4 J3 (up2 (mR M) 924 2 (some 923))) := by
        refine ⟨I4, J3, 0, rfl, hS4.1, ⟨?_, by omega, ?_, Nat.zero_le _, fun i hi => absurd hi (Nat.not_lt_zero i)⟩, fun x _ _ _ _ => ⟨rfl, rfl⟩⟩
        · rw [← hI4, up2_k (by omega), up2_v]
        · rw [← hI4]; exact (up2_v : up2 (up2 I3 450 2 (nI 0)) 450 3 (nI 0) 450 3 = nI 0)
      rw [eM4]
      refine wp_iconst (v := nI 0) (by decide) (ck_get kk_Mc_orders 30 rfl) ?_
      refine wp_istore_n (ck_get kk_Mc_orders 31 rfl) (by decide) rfl ?_
      refine wp_iconst (v := (-1)) (by decide) (ck_get kk_Mc_orders 32 rfl) ?_
      refine wp_istore_n (ck_get kk_Mc_orders 33 rfl) (by decide) rfl ?_
      refine wp_iconst (v := nI 0) (by decide) (ck_get kk_Mc_orders 34 rfl) ?_
      refine wp_istore (ck_get kk_Mc_orders 35 rfl) (by decide) rfl ?_
      refine l_co66 (M := mk5 M I4 J3 (up2 (mR M) 924 2 (some 923))) (pf := pf) (pg := pg) (B := bC c) (u0 := fun _ => (0, sWo (zS z))) (R := zOr z sg2 (I4 932) (fun m k => I4 (925 + k) m) nc) hL2 hCP (by omega) (fun s2 W2 x4 x5 x6 hr ho hW => ?_) (fun n2 s2 W2 x2 x3 x5 x6 hr hn hW => ?_) nc 0 (zOS z) _ none none (by omega) hCO ⟨hO.1.1, hO.1.2.1, fun x hx => absurd hx List.not_mem_nil, Nat.zero_le _, by show (-1 : Int) ≤ (-1 : Int32).toInt; decide⟩ rfl
      · obtain ⟨I5, J5, f5, rfl, v1, v2, v3⟩ := hW
        have v4 : ∀ x, x < 2 ∨ (28 ≤ x ∧ x < 34) ∨ 869 ≤ x → x < 934 ∨ 938 ≤ x → I5 x = I4 x ∧ J5 x = J3 x := fun x a b => v3 x (by omega) (fun s hs => by have := slA_lt (hPf.1 s hs).2; show x < slA (pg s) ∨ slA (pg s) + 26 ≤ x; omega) (by omega) b
        have hT5 : TrHas I5 J5 31 (fun s => slA (pf s)) fT (zU z).1 (zU z).2 := hT31.kept ⟨(v4 31 (by omega) (by omega)).1, (v4 33 (by omega) (by omega)).1⟩ (fun s hs x q1 q2 => by
          have k1 := slA_lt (hPf.1 s hs).1
          exact v3 x (by omega) (fun r hr => by have := pf_apart hPf hs hr; show x < slA (pg r) ∨ slA (pg r) + 26 ≤ x; omega) (by omega) (by omega))
        refine wp_aload_n rfl (ck_get kk_Mc_orders 103 rfl) ?_
        refine wp_getR (ck_get kk_Mc_orders 104 rfl) fl_Mc_19 (by assumption) (by assumption) ?_
        refine wp_aload_n rfl (ck_get kk_Mc_orders 105 rfl) ?_
        refine wp_getR (ck_get kk_Mc_orders 106 rfl) fl_Mc_23 (by assumption) (by assumption) ?_
        refine wp_cV1v (ck_get kk_Mc_orders 107 rfl) ml_Mc_254 (by omega) (Nat.le_of_ble_eq_true rfl) (by assumption) (Cv.to (c_take (pf := pf) (pg := pg) (by exact hL2) (by exact hT5) (by exact v2)) ?_)
        rintro M6 ⟨pf6, pg6, I6, R6, f6, k1, k2, k3, k4, k5, k6, k7⟩
        subst k1
        refine wp_aload_n rfl (ck_get kk_Mc_orders 108 rfl) ?_
        refine wp_iload_n rfl (ck_get kk_Mc_orders 109 rfl) ?_
        refine wp_cV1i (ck_get kk_Mc_orders 110 rfl) ml_Mc_185 (by omega) (Nat.le_of_ble_eq_true rfl) (by assumption) (Ci.to (c_accept (pf := pf6) (pg := pg6) (by exact k2)) ?_)
        rintro y M7 ⟨m1, m2⟩
        refine wp_ireturn (ck_get kk_Mc_orders 111 rfl) rfl rfl ⟨_, rfl, ?_⟩
        rw [m2]
        refine ⟨I4 932, fun m k => I4 (925 + k) m, nc, hCh, fun s hs => ?_, ?_, ?_, ?_⟩
        · rw [hr] at hs; cases hs
          exact ho.le (by omega)
        · rw [hr]; exact m1
        · rw [hr]
          have hP6 := k2.2.2.2.2.2.2.2.2.2.2.2.2.2.2.2
          have e6 : ∀ x, x ≠ 31 → x ≠ 33 → x ≠ 450 → I6 x = I5 x := k4
          have e0 : ∀ x, x = 1 ∨ (28 ≤ x ∧ x < 31) ∨ (895 ≤ x ∧ x < 924) ∨ (949 ≤ x ∧ x < 951) ∨ 957 ≤ x → I6 x = mI M x ∧ J5 x = mJ M x := fun x a => ⟨by rw [e6 x (by omega) (by omega) (by omega), (v4 x (by omega) (by omega)).1, (g4 x (by omega) (by omega)).1, fx x (by omega) (by omega)], by rw [(v4 x (by omega) (by omega)).2, (g4 x (by omega) (by omega)).2]⟩
          have e00 : ∀ y, I6 0 y = I2 0 y := fun y => by rw [e6 0 (by omega) (by omega) (by omega), (v4 0 (by omega) (by omega)).1, (g4 0 (by omega) (by omega)).1]
          have hRx : ∀ x, x ≠ 32 → x ≠ 451 → x ≠ 924 → R6 x = mR M x := fun x a b d => (k3 x a b).trans (funext fun y => hR x y (fun q => d q.1))
          have hk6 : HiK (mT M) (mR M) (mI M) (mT M) R6 I6 := fun x hx _ => ⟨rfl, hRx x (by omega) (by omega) (by omega), (e0 x (by omega)).1⟩
          have hw6 : WoHas I6 J5 2 s2.1 := v1.kept (fun x q1 q2 => ⟨e6 x (by omega) (by omega) (by omega), rfl⟩)
          obtain ⟨p2, p3⟩ := psL_two (L := s2.2.1) (w := fun _ => (0, sWo (zS z))) (p := zU z) hO.2.1.1
          refine CR.good (M := mk5 M I6 J5 R6) ⟨pf6, pg6, k2, hSC.wo hw6 ⟨(e0 1 (by omega)).1, (e0 28 (by omega)).1, (e0 29 (by omega)).1⟩ (hRx 30 (by omega) (by omega) (by omega)) hk6, ⟨f6, k5.c p2 p3⟩, hIC.kept (e0 922 (by omega)).1 (fun x q1 q2 => e0 x (by omega)) ⟨hRx 989 (by omega) (by omega) (by omega), hRx 1019 (by omega) (by omega) (by omega)⟩ hk6, hDC.kept ((e00 5).trans (f0 5 (by omega) (by omega))) (fun x q1 q2 => e0 x (by omega)), ⟨(e00 9).trans f09, fun j hj => (congrFun (e0 923 (by omega)).1 j).trans (hPC.2 j hj)⟩, ⟨((e00 15).trans (f0 15 (by omega) (by omega))).trans hNC.1, (e00 16).trans f016, ((e00 17).trans (f0 17 (by omega) (by omega))).trans hNC.2.2.1, ?_, fun j hj => (congrFun (e0 959 (by omega)).1 j).trans (hNC.2.2.2.2 j hj)⟩, hBC.kept (hRx 949 (by omega) (by omega) (by omega)) (e0 949 (by omega)).1 (fun v hv _ => ⟨rfl, (e0 v (by omega)).1⟩), hZC.le (Nat.le_succ c)⟩
          show I6 924 1 = -1
          rw [e6 924 (by omega) (by omega) (by omega), (v4 924 (by omega) (by omega)).1, (g4 924 (by omega) (by omega)).1]; exact q2
        · refine MSame.trans (M2 := mk5 M I6 J5 R6) (fun x a b => ⟨rfl, (k3 x (by omega) (by omega)).trans (funext fun y => hR x y (by omega)), ?_, ?_⟩) MSame.ac
          · show I6 x = _
            rw [k4 x (by omega) (by omega) (by omega)]
            show I5 x = _
            rw [(v4 x (by omega) (by omega)).1, (g4 x (by omega) (by omega)).1, fx x (by omega) (by omega)]
          · show J5 x = _
            rw [(v4 x (by omega) (by omega)).2, (g4 x (by omega) (by omega)).2]
      · obtain ⟨I5, J5, f5, rfl, v1, v2, v3⟩ := hW
        have v4 : ∀ x, x < 2 ∨ (28 ≤ x ∧ x < 34) ∨ 869 ≤ x → x < 934 ∨ 938 ≤ x → I5 x = I4 x ∧ J5 x = J3 x := fun x a b => v3 x (by omega) (fun s hs => by have := slA_lt (hPf.1 s hs).2; show x < slA (pg s) ∨ slA (pg s) + 26 ≤ x; omega) (by omega) b
        have ha5 : WoHas I5 J5 869 (sWo (zS z)) := ha4.kept (fun x q1 q2 => v4 x (by omega) (by omega))
        refine wp_aload_n rfl (ck_get kk_Mc_orders 73 rfl) ?_
        refine wp_getR (ck_get kk_Mc_orders 74 rfl) fl_Mc_12 (by assumption) (by assumption) ?_
        refine wp_getR (ck_get kk_Mc_orders 75 rfl) fl_Mc_107 (by assumption) (by assumption) ?_
        refine wp_aload_n rfl (ck_get kk_Mc_orders 76 rfl) ?_
        refine wp_getR (ck_get kk_Mc_orders 77 rfl) fl_Mc_29 (by assumption) (by assumption) ?_
        refine wp_cV1v (ck_get kk_Mc_orders 78 rfl) ml_Mc_230 (by omega) (Nat.le_of_ble_eq_true rfl) (by assumption) (Cv.to (c_WocopyFrom (v := 869) (w := 2) (by exact hWaB) (by exact hW2B) (by omega)) ?_)
        rintro M6 ⟨I6, J6, k1, k2, k3⟩
        subst k1
        refine wp_aload_n rfl (ck_get kk_Mc_orders 79 rfl) ?_
        refine wp_iload rfl (ck_get kk_Mc_orders 80 rfl) ?_
        refine wp_putI (ck_get kk_Mc_orders 81 rfl) fl_Mc_94 (by decide +kernel) (by assumption) (okI_int _) ?_
        refine wp_aload_n rfl (ck_get kk_Mc_orders 82 rfl) ?_
        refine wp_bipush (v := (-3)) (by decide) (ck_get kk_Mc_orders 83 rfl) ?_
        refine wp_cV1i (ck_get kk_Mc_orders 84 rfl) ml_Mc_172 (by omega) (Nat.le_of_ble_eq_true rfl) (by assumption) (Ci.to (c_refuse (k := 3) (pf := pf) (pg := pg) (by decide) (by omega) (by omega) (by exact hL2)) ?_)
        rintro y M7 ⟨m1, m2⟩
        refine wp_ireturn (ck_get kk_Mc_orders 85 rfl) rfl rfl ⟨_, rfl, ?_⟩
        rw [m2]
        refine ⟨I4 932, fun m k => I4 (925 + k) m, nc, hCh, fun s hs => ?_, ?_, ?_, ?_⟩
        · rw [hr] at hs; cases hs
        · rw [hr]; exact m1
        · rw [hr]
          generalize hI7 : up2 I6 0 16 (nI n2) = I7
          have eM7 : sI (mk2 (mk2 (mk5 M I4 J3 (up2 (mR M) 924 2 (some 923))) I5 J5) I6 J6) 0 16 (nI n2) = mk5 M I7 J6 (up2 (mR M) 924 2 (some 923)) := by rw [← hI7]
          rw [eM7]
          have e7 : ∀ x, x ≠ 0 → x < 2 ∨ 28 ≤ x → I7 x = I5 x ∧ J6 x = J5 x := fun x a b => ⟨by rw [← hI7, up2_o a]; exact (k3 x (by omega)).1, (k3 x (by omega)).2⟩
          have e0 : ∀ x, x = 1 ∨ (28 ≤ x ∧ x < 34) ∨ (895 ≤ x ∧ x < 924) ∨ (949 ≤ x ∧ x < 951) ∨ 957 ≤ x → I7 x = mI M x ∧ J6 x = mJ M x := fun x a => ⟨by rw [(e7 x (by omega) (by omega)).1, (v4 x (by omega) (by omega)).1, (g4 x (by omega) (by omega)).1, fx x (by omega) (by omega)], by rw [(e7 x (by omega) (by omega)).2, (v4 x (by omega) (by omega)).2, (g4 x (by omega) (by omega)).2]⟩
          have e00 : ∀ y, y ≠ 16 → I7 0 y = I2 0 y := fun y hy => by rw [← hI7, up2_k hy, (k3 0 (by omega)).1]; show I5 0 y = _; rw [(v4 0 (by omega) (by omega)).1, (g4 0 (by omega) (by omega)).1]
          have hk7 : HiK (mT M) (mR M) (mI M) (mT M) (up2 (mR M) 924 2 (some 923)) I7 := fun x hx _ => ⟨rfl, funext fun y => hR x y (by omega), (e0 x (by omega)).1⟩
          have hw7 : WoHas I7 J6 2 (sWo (zS z)) := (k2.has ha5 hO.1.1).kept (fun x q1 q2 => ⟨by rw [← hI7, up2_o (by omega)], rfl⟩)
          have hT7 : TrHas I7 J6 31 (fun s => slA (pf s)) fT (zU z).1 (zU z).2 := hT31.kept ⟨by rw [(e7 31 (by omega) (by omega)).1, (v4 31 (by omega) (by omega)).1], by rw [(e7 33 (by omega) (by omega)).1, (v4 33 (by omega) (by omega)).1]⟩ (fun s hs x q1 q2 => by
            have k1 := slA_lt (hPf.1 s hs).1
            have kk := v3 x (by omega) (fun r hr => by have := pf_apart hPf hs hr; show x < slA (pg r) ∨ slA (pg r) + 26 ≤ x; omega) (by omega) (by omega)
            exact ⟨(e7 x (by omega) (by omega)).1.trans kk.1, (e7 x (by omega) (by omega)).2.trans kk.2⟩)
          refine CR.bad (k := 3) (M := mk5 M I7 J6 (up2 (mR M) 924 2 (some 923))) ⟨pf, pg, hL2, hSC.wo hw7 ⟨(e0 1 (by omega)).1, (e0 28 (by omega)).1, (e0 29 (by omega)).1⟩ (funext fun y => hR 30 y (by omega)) hk7, ⟨fT, hT7⟩, hIC.kept (e0 922 (by omega)).1 (fun x q1 q2 => e0 x (by omega)) ⟨funext fun y => hR 989 y (by omega), funext fun y => hR 1019 y (by omega)⟩ hk7, hDC.kept ((e00 5 (by omega)).trans (f0 5 (by omega) (by omega))) (fun x q1 q2 => e0 x (by omega)), ⟨(e00 9 (by omega)).trans f09, fun j hj => (congrFun (e0 923 (by omega)).1 j).trans (hPC.2 j hj)⟩, ⟨((e00 15 (by omega)).trans (f0 15 (by omega) (by omega))).trans hNC.1, by rw [← hI7]; exact (up2_v : up2 I6 0 16 (nI n2) 0 16 = nI n2), ((e00 17 (by omega)).trans (f0 17 (by omega) (by omega))).trans hNC.2.2.1, ?_, fun j hj => (congrFun (e0 959 (by omega)).1 j).trans (hNC.2.2.2.2 j hj)⟩, hBC.kept (funext fun y => hR 949 y (by omega)) (e0 949 (by omega)).1 (fun v hv _ => ⟨rfl, (e0 v (by omega)).1⟩), hZC.le (Nat.le_succ c)⟩ (by omega)
          show I7 924 1 = -1
          rw [(e7 924 (by omega) (by omega)).1, (v4 924 (by omega) (by omega)).1, (g4 924 (by omega) (by omega)).1]; exact q2
        · refine MSame.trans (M2 := sI (mk2 (mk2 (mk5 M I4 J3 (up2 (mR M) 924 2 (some 923))) I5 J5) I6 J6) 0 16 (nI n2)) (fun x a b => ⟨rfl, funext fun y => hR x y (by omega), ?_, ?_⟩) MSame.bd
          · refine (s_o (by omega)).trans ?_
            show I6 x = _
            rw [(k3 x (by omega)).1]
            show I5 x = _
            rw [(v4 x (by omega) (by omega)).1, (g4 x (by omega) (by omega)).1, fx x (by omega) (by omega)]
          · show J6 x = _
            rw [(k3 x (by omega)).2]
            show J5 x = _
            rw [(v4 x (by omega) (by omega)).2, (g4 x (by omega) (by omega)).2]
    · exact absurd hc28 (by decide)
  · rw [show pcF _ _ _ _ _ _ _ _ _ = _ from hp] at q1; cases q1
end ORD

/-! ===== the class's orders, clause by clause ===== -/
theorem OkOK.kd {e : Nat → Int32} {hi : Nat} (h : OkOK e hi) : ∃ kd, kd < 4 ∧ e 1 = nI kd ∧ (kd = 3 ∨ (EtOK e 4 hi ∧ EtOK e 6 hi ∧ (kd = 1 → EtOK e 5 hi))) ∧ ∃ tm, tm ≤ 20 ∧ e 2 = nI tm := by
  rcases h with ⟨h1, h2⟩ | ⟨(h1 | h1) | ⟨h1, h5⟩, h4, h6, h2⟩
  · exact ⟨3, by omega, h1, Or.inl rfl, h2⟩
  · exact ⟨0, by omega, h1, Or.inr ⟨h4, h6, fun q => absurd q (by omega)⟩, h2⟩
  · exact ⟨2, by omega, h1, Or.inr ⟨h4, h6, fun q => absurd q (by omega)⟩, h2⟩
  · exact ⟨1, by omega, h1, Or.inr ⟨h4, h6, fun _ => h5⟩, h2⟩
section COR
variable {g : Gl} {M : Mem} {pf pg : Nat → Nat} {res : (Nat → Int32) → Int32 × Int32} {md salt B : Nat} {u0 : UF}
def CoO (M : Mem) (pg : Nat → Nat) (u0 : UF) (s : OS) (M2 : Mem) : Prop := ∃ I2 J2 f, M2 = mk2 M I2 J2 ∧ WoHas I2 J2 2 s.1 ∧ TrHas I2 J2 450 (fun s => slA (pg s)) f (psL s.2.1 (0, u0)).1 (psL s.2.1 (0, u0)).2 ∧ AFr 450 (fun s => slA (pg s)) (mI M) (mJ M) I2 J2
theorem AFr.hi {I I2 : Nat → Nat → Int32} {J J2 : Nat → Nat → Int64} (hPf : PfOK pf pg) (h : AFr 450 (fun s => slA (pg s)) I J I2 J2) {x : Nat} (hx : 895 ≤ x) (hx2 : x < 934 ∨ 938 ≤ x) : I2 x = I x ∧ J2 x = J x := h x (by omega) (fun s hs => by have := slA_lt (hPf.1 s hs).2; right; show slA (pg s) + 26 ≤ x; omega) (by omega) hx2
theorem AFr.lo {I I2 : Nat → Nat → Int32} {J J2 : Nat → Nat → Int64} (hPf : PfOK pf pg) (h : AFr 450 (fun s => slA (pg s)) I J I2 J2) {x : Nat} (hx : x < 2) : I2 x = I x ∧ J2 x = J x := h x (by omega) (fun s hs => by have := slA_lt (hPf.1 s hs).2; left; show x < slA (pg s); omega) (by omega) (by omega)
theorem AFr.trans {wf : Nat → Nat} {I I2 I3 : Nat → Nat → Int32} {J J2 J3 : Nat → Nat → Int64} (h : AFr 450 wf I J I2 J2) (h2 : AFr 450 wf I2 J2 I3 J3) : AFr 450 wf I J I3 J3 := fun x a b c d => ⟨(h2 x a b c d).1.trans (h x a b c d).1, (h2 x a b c d).2.trans (h x a b c d).2⟩
theorem CoO.jd {s : OS} {W : Mem} {V : Nat → Int32} {S : Nat → Int64} (hPf : PfOK pf pg) (h : CoO M pg u0 s W) : CoO M pg u0 s (evM (owM W V) 934 S) := by
  obtain ⟨I2, J2, f, rfl, h1, h2, h3⟩ := h
  refine ⟨up1 I2 935 V, up1 J2 937 S, f, rfl, h1.kept (fun x q1 q2 => ⟨up1_ne (by omega), up1_ne (by omega)⟩), h2.kept ⟨up1_ne (by omega), up1_ne (by omega)⟩ (fun q hq x q1 q2 => ?_), fun x a b c d => ?_⟩
  · have := slA_lt (hPf.1 q hq).2
    have q3 : x < slA (pg q) + 26 := q2
    exact ⟨up1_ne (by omega), up1_ne (by omega)⟩
  · rw [up1_ne (by omega), up1_ne (by omega)]; exact h3 x a b c d
theorem CoO.ev {s : OS} {W : Mem} {S : Nat → Int64} (hPf : PfOK pf pg) (h : CoO M pg u0 s W) : CoO M pg u0 s (evM W 934 S) := by
  have := h.jd hPf (V := mI W 935) (S := S)
  rwa [show owM W (mI W 935) = W by show mk2 W (up1 (mI W) 935 (mI W 935)) (mJ W) = W; rw [up1_self]] at this
theorem oWant_c {C : Nat → Int32} {cn : Nat} {s : OS} {e e2 : Nat → Int32} (h : e 3 = e2 3) : oWant C cn s e ↔ oWant C cn s e2 := by
  unfold oWant; rw [h]
theorem ksO_c {e e2 : Nat → Int32} (h : ∀ k, 1 ≤ k → k ≤ 6 → e k = e2 k) : ksO e = ksO e2 := by
  unfold ksO; rw [h 1 (by omega) (by omega), h 4 (by omega) (by omega), h 5 (by omega) (by omega), h 6 (by omega) (by omega)]
theorem oA3_c {C : Nat → Int32} {cn : Nat} {s : OS} {e e2 : Nat → Int32} (h : ∀ k, 1 ≤ k → k ≤ 6 → e k = e2 k) : oA3 C cn s e = oA3 C cn s e2 := by
  unfold oA3; rw [h 1 (by omega) (by omega), h 4 (by omega) (by omega), h 5 (by omega) (by omega), h 6 (by omega) (by omega)]
theorem oCan_c {C : Nat → Int32} {cn : Nat} {s : OS} {e e2 : Nat → Int32} (h : ∀ k, 1 ≤ k → k ≤ 6 → e k = e2 k) : oCan C cn s e ↔ oCan C cn s e2 := by
  unfold oCan oSum; rw [ksO_c h, oA3_c h, h 1 (by omega) (by omega)]
theorem rcQ.c {wf : Nat → Nat} {f n : Nat} {u : UF} {C : Nat → Int32} {cn kd : Nat} {s : OS} {e e2 : Nat → Int32} {x : Int32} {M2 : Mem} (he : ∀ k, 1 ≤ k → k ≤ 6 → e k = e2 k) (h : rcQ res md salt M wf f n u C cn s e kd x M2) : rcQ res md salt M wf f n u C cn s e2 kd x M2 := by
  unfold rcQ at h ⊢
  rw [oCan_c he, oA3_c he] at h
  exact h
/-- what of the class's memory the loop needs -/
def CoP (M : Mem) (res : (Nat → Int32) → Int32 × Int32) (md salt cn nc : Nat) : Prop := ShN (mT M) (mR M) (mI M) res md salt ∧ mI M 925 8 = nI cn ∧ cn ≤ 1024 ∧ mI M 925 0 = nI nc ∧ nc ≤ 12 ∧ CodeW (mI M 932) cn 11 ∧ ∀ n, n < nc → KcOK true (fun k => mI M (925 + k) n) cn
theorem l_co84 {n cn nc tm kd : Nat} {R : Option OS} {ln : Int32} (hL : LayC (mT M) (mR M) pf pg) (hP : CoP M res md salt cn nc) (hn : n < nc) (hB : B + 63360 < 2147483648) (hk4 : kd < 4) (hk1 : mI M 926 n = nI kd) (htm : tm ≤ 20) (ht2 : mI M 927 n = nI tm) (hO : kd = 3 ∨ (EtOK (fun k => mI M (925 + k) n) 4 cn ∧ EtOK (fun k => mI M (925 + k) n) 6 cn ∧ (kd = 1 → EtOK (fun k => mI M (925 + k) n) 5 cn))) {Q : Option Value → Mem → Prop}
    (H1 : ∀ (s2 : OS) (W2 : Mem) (x5 x6 : Option Value), R = some s2 → CoO M pg u0 s2 W2 → Wp g Y_Mc_orders 240 207 [some (.ref 0), some (.int ln), some (.int (nI s2.2.2.1)), some (.int s2.2.2.2), some (.int (nI n)), x5, x6] [] W2 Q)
    (H2 : ∀ (s2 : OS) (W2 : Mem) (x2 x3 x5 x6 : Option Value), R = none → CoO M pg u0 s2 W2 → Wp g Y_Mc_orders 240 147 [some (.ref 0), some (.int ln), x2, x3, some (.int (nI n)), x5, x6] [] W2 Q) :
    ∀ (d k : Nat) (s : OS) (W : Mem) (x6 : Option Value), k + d = tm → CoO M pg u0 s W → OOK s (B + 3168 * k) → oR res md salt (mI M 932) cn (fun k => mI M (925 + k) n) d s = R → Wp g Y_Mc_orders 240 84 [some (.ref 0), some (.int ln), some (.int (nI s.2.2.1)), some (.int s.2.2.2), some (.int (nI n)), some (.int (nI k)), x6] [] W Q := by
  have hL0 := hL
  obtain ⟨t0, ⟨r0, hSh⟩, -, -, -, -, -, -, -, ⟨r10, hPa⟩, ⟨r11, hJu⟩, -, -, -, -, hPf⟩ := hL
  obtain ⟨pa0, pa1, hPr, -⟩ := hPa
  have tp0 := hPr.1
  have rp1 := hPr.2.1 1 (by omega) (by omega)
  have tp1 := hPr.2.2.1 1 (by omega) (by omega)
  have rp2 := hPr.2.1 2 (by omega) (by omega)
  have tp2 := hPr.2.2.1 2 (by omega) (by omega)
  obtain ⟨hN, h8, hcn, hnc0, hnc, hC, hKc⟩ := hP
  have hRes := hN.2.2.2.ok
  have hcl1 : (mI M (925 + 1) n).toNatClampNeg = kd := by rw [show mI M (925 + 1) n = nI kd from hk1]; exact nI_clamp (by omega)
  intro d
  induction d with
  | zero =>
    intro k s W x6 hk hs hok hR
    obtain ⟨I2, J2, f, rfl, h1, h2, h3⟩ := hs
    have e2 : I2 927 n = nI tm := by rw [(h3.hi hPf (by omega) (by omega)).1]; exact ht2
    refine wp_iload rfl (ck_get kk_Mc_orders 44 rfl) ?_
    refine wp_aload_n rfl (ck_get kk_Mc_orders 45 rfl) ?_
    refine wp_getR (ck_get kk_Mc_orders 46 rfl) fl_Mc_59 (by assumption) (by assumption) ?_
    refine wp_getR (ck_get kk_Mc_orders 47 rfl) fl_Mc_220 (by assumption) (by assumption) ?_
    refine wp_getR (ck_get kk_Mc_orders 48 rfl) fl_Mc_237 (by assumption) (by assumption) ?_
    refine wp_iload rfl (ck_get kk_Mc_orders 49 rfl) ?_
    refine wp_ialdv (v := nI tm) (ck_get kk_Mc_orders 50 rfl) (by assumption) (ixk_nI (k := n) (by omega) (by omega)) (e2) ?_
    first | refine wp_icmp_geN (t := 207) (ck_get kk_Mc_orders 51 rfl) (by decide) (by omega) (by omega) (fun hc99 => ?_) (fun hc99 => ?_) | refine wp_icmp_ge (t := 207) (ck_get kk_Mc_orders 51 rfl) (by decide) (fun hc99 => ?_) (fun hc99 => ?_)
    · exact H1 s _ _ _ hR.symm ⟨I2, J2, f, rfl, h1, h2, h3⟩
    · omega
  | succ d ih =>
    intro k s W x6 hk hs hok hR
    have hs0 := hs
    obtain ⟨I2, J2, f, rfl, h1, h2, h3⟩ := hs
    have e2 : I2 927 n = nI tm := by rw [(h3.hi hPf (by omega) (by omega)).1]; exact ht2
    have hsow := c_setOrderWords (g := g) (M := mk2 M I2 J2) (s := s) (by exact hL0) (by exact h1)
    refine wp_iload rfl (ck_get kk_Mc_orders 44 rfl) ?_
    refine wp_aload_n rfl (ck_get kk_Mc_orders 45 rfl) ?_
    refine wp_getR (ck_get kk_Mc_orders 46 rfl) fl_Mc_59 (by assumption) (by assumption) ?_
    refine wp_getR (ck_get kk_Mc_orders 47 rfl) fl_Mc_220 (by assumption) (by assumption) ?_
    refine wp_getR (ck_get kk_Mc_orders 48 rfl) fl_Mc_237 (by assumption) (by assumption) ?_
    refine wp_iload rfl (ck_get kk_Mc_orders 49 rfl) ?_
    refine wp_ialdv (v := nI tm) (ck_get kk_Mc_orders 50 rfl) (by assumption) (ixk_nI (k := n) (by omega) (by omega)) (e2) ?_
    first | refine wp_icmp_geN (t := 207) (ck_get kk_Mc_orders 51 rfl) (by decide) (by omega) (by omega) (fun hc99 => ?_) (fun hc99 => ?_) | refine wp_icmp_ge (t := 207) (ck_get kk_Mc_orders 51 rfl) (by decide) (fun hc99 => ?_) (fun hc99 => ?_)
    · omega
    · refine wp_aload_n rfl (ck_get kk_Mc_orders 52 rfl) ?_
      refine wp_iload_n rfl (ck_get kk_Mc_orders 53 rfl) ?_
      refine wp_iload_n rfl (ck_get kk_Mc_orders 54 rfl) ?_
      refine wp_cV2v (ck_get kk_Mc_orders 55 rfl) ml_Mc_240 (by omega) (Nat.le_of_ble_eq_true rfl) (by assumption) (Cv.to (hsow) ?_)
      rintro M₁ ⟨V, hV, rfl⟩
      have hme := fun S => hs0.jd (V := V) (S := S) hPf
      have c932 : up1 I2 935 V 932 = mI M 932 := by rw [up1_ne (by omega)]; exact (h3.hi hPf (by omega) (by omega)).1
      have cE : ∀ k, k ≤ 8 → up1 I2 935 V (925 + k) = mI M (925 + k) := fun k hk => by rw [up1_ne (by omega)]; exact (h3.hi hPf (by omega) (by omega)).1
      have hK := hKc n hn
      have hK3 : up1 I2 935 V 928 n = -1 ∨ EtOK (fun k => up1 I2 935 V (925 + k) n) 3 cn := by
        rcases hK.1 with q | ⟨t, q1, q2, q3⟩
        · left; rw [cE 3 (by omega)]; exact q
        · right; refine ⟨t, q1, q2, ?_⟩
          show up1 I2 935 V (925 + 3) n = _
          rw [cE 3 (by omega)]; exact q3
      have hwI := c_isWanted (g := g) (M := owM (mk2 M I2 J2) V) (s := s) (n := n) (cn := cn) (by exact hL0) (by omega) (by show up1 I2 935 V (925 + 0) 8 = _; rw [cE 0 (by omega)]; exact h8) hcn (by show CodeW (up1 I2 935 V 932) cn 11; rw [c932]; exact hC) (fun k hk => by show up1 I2 935 V 935 k = _; rw [up1_eq]; exact hV k hk) hK3
      have hwe : oWant (mI (owM (mk2 M I2 J2) V) 932) cn s (fun k => mI (owM (mk2 M I2 J2) V) (925 + k) n) ↔ oWant (mI M 932) cn s (fun k => mI M (925 + k) n) := by
        show oWant (up1 I2 935 V 932) cn s (fun k => up1 I2 935 V (925 + k) n) ↔ _
        rw [c932]
        exact oWant_c (by show up1 I2 935 V (925 + 3) n = _; rw [cE 3 (by omega)])
      by_cases hw : oWant (mI M 932) cn s (fun k => mI M (925 + k) n)
      · rw [decide_eq_true (hwe.mpr hw)] at hwI
        refine wp_aload_n rfl (ck_get kk_Mc_orders 56 rfl) ?_
        refine wp_aload_n rfl (ck_get kk_Mc_orders 57 rfl) ?_
        refine wp_getR (ck_get kk_Mc_orders 58 rfl) fl_Mc_59 (by assumption) (by assumption) ?_
        refine wp_getR (ck_get kk_Mc_orders 59 rfl) fl_Mc_220 (by assumption) (by assumption) ?_
        refine wp_iload rfl (ck_get kk_Mc_orders 60 rfl) ?_
        refine wp_cV2i (ck_get kk_Mc_orders 61 rfl) ml_Mc_243 (by omega) (Nat.le_of_ble_eq_true rfl) (by assumption) (Ci.to (hwI) ?_)
        rintro x₁ M₂ ⟨hx, S2, rfl⟩
        rw [hx]
        first | refine wp_if_neN (t := 127) (ck_get kk_Mc_orders 62 rfl) (by decide) (by omega) (fun hc121 => ?_) (fun hc121 => ?_) | refine wp_if_ne (t := 127) (ck_get kk_Mc_orders 62 rfl) (by decide) (fun hc121 => ?_) (fun hc121 => ?_)
        · have hm2 := hme S2
          have hI3 : up1 I2 935 V = mI (evM (owM (mk2 M I2 J2) V) 934 S2) := rfl
          obtain ⟨I3, J3, f3, e3, g1, g2, g3⟩ := hm2
          rw [e3]
          rw [e3] at hI3
          have hI4 : up1 I2 935 V = I3 := hI3
          rw [hI4] at c932 cE hK3
          have hV3 : ∀ k, k < 11 → I3 935 k = oV s k := fun k hk => by rw [← hI4, up1_eq]; exact hV k hk
          have cE2 : ∀ k, 1 ≤ k → k ≤ 6 → I3 (925 + k) n = mI M (925 + k) n := fun k _ hk => by rw [cE k (by omega)]
          have hO3 : kd = 3 ∨ (EtOK (fun k => I3 (925 + k) n) 4 cn ∧ EtOK (fun k => I3 (925 + k) n) 6 cn ∧ (kd = 1 → EtOK (fun k => I3 (925 + k) n) 5 cn)) := by
            have tr : ∀ k, 1 ≤ k → k ≤ 6 → EtOK (fun k => mI M (925 + k) n) k cn → EtOK (fun k => I3 (925 + k) n) k cn := fun k q1 q2 ⟨t, z1, z2, z3⟩ => ⟨t, z1, z2, by show I3 (925 + k) n = _; rw [cE2 k q1 q2]; exact z3⟩
            rcases hO with q | ⟨q1, q2, q3⟩
            · exact Or.inl q
            · exact Or.inr ⟨tr 4 (by omega) (by omega) q1, tr 6 (by omega) (by omega) q2, fun z => tr 5 (by omega) (by omega) (q3 z)⟩
          have hkd3 : I3 926 n = nI kd := by rw [cE 1 (by omega)]; exact hk1
          have hrc := c_runClause (g := g) (M := mk2 M I3 J3) (res := res) (md := md) (salt := salt) (n := n) (cn := cn) (kd := kd) (by exact hL0) (by exact g2) (by exact g1) hok.1 (by have := hok.2.1; omega) (hN.kept (g3.lo hPf (by omega)).1 (fun x hx => (g3.hi hPf (by omega) (by omega)).1)) (by omega) (by show I3 (925 + 0) 8 = _; rw [cE 0 (by omega)]; exact h8) hcn (by show CodeW (I3 932) cn 11; rw [c932]; exact hC) hV3 hkd3 hk4 hO3
          refine wp_aload_n rfl (ck_get kk_Mc_orders 64 rfl) ?_
          refine wp_aload_n rfl (ck_get kk_Mc_orders 65 rfl) ?_
          refine wp_getR (ck_get kk_Mc_orders 66 rfl) fl_Mc_59 (by assumption) (by assumption) ?_
          refine wp_getR (ck_get kk_Mc_orders 67 rfl) fl_Mc_220 (by assumption) (by assumption) ?_
          refine wp_iload rfl (ck_get kk_Mc_orders 68 rfl) ?_
          refine wp_cV2i (ck_get kk_Mc_orders 69 rfl) ml_Mc_247 (by omega) (Nat.le_of_ble_eq_true rfl) (by assumption) (Ci.to (hrc) ?_)
          rintro x₂ M₃ hQ
          refine wp_istore (ck_get kk_Mc_orders 70 rfl) (by decide) rfl ?_
          have hQ2 : rcQ res md salt (mk2 M I3 J3) (fun s => slA (pg s)) f3 (psL s.2.1 (0, u0)).1 (psL s.2.1 (0, u0)).2 (I3 932) cn s (fun k => I3 (925 + k) n) kd x₂ M₃ := hQ
          rw [c932] at hQ2
          have hQ3 := hQ2.c (e2 := fun k => mI M (925 + k) n) (fun k q1 q2 => cE2 k q1 q2)
          clear hQ hQ2
          rcases hQ3 with ⟨y1, y2, S4, rfl⟩ | ⟨y1, y2, I4, J4, rfl, y3, y4, y5⟩
          · have hRn : R = none := by
              rw [← hR]
              refine oR_no ?_
              unfold o1; rw [if_pos hw, if_neg y1]
            have hm4 : CoO M pg u0 s (evM (mk2 M I3 J3) 934 S4) := CoO.ev hPf ⟨I3, J3, f3, rfl, g1, g2, g3⟩
            clear hrc hwI hsow
            refine wp_iload rfl (ck_get kk_Mc_orders 71 rfl) ?_
            refine wp_if_ge (t := 174) (ck_get kk_Mc_orders 72 rfl) (by decide) (fun hc144 => ?_) (fun hc144 => ?_)
            · exact (i32_nlt hc144 y2).elim
            · exact H2 s _ _ _ _ _ hRn hm4
          · have h1o : o1 res md salt (mI M 932) cn s (fun k => mI M (925 + k) n) = some (oDo res md salt s kd (oA3 (mI M 932) cn s (fun k => mI M (925 + k) n))) := by
              unfold o1; rw [if_pos hw, if_pos y1, hcl1]
            have hac : acV kd s.1 (oA3 (mI M 932) cn s (fun k => mI M (925 + k) n)).1 (oA3 (mI M 932) cn s (fun k => mI M (925 + k) n)).2.1 (oA3 (mI M 932) cn s (fun k => mI M (925 + k) n)).2.2 = 0 := by have := y1.2; rwa [hcl1] at this
            have hx0 : 0 ≤ x₂ := by rw [y2]; exact nI_nn (acW_lt (md := md) (salt := salt) hRes hok.1 hk4 (by have := hok.2.1; omega) hac).1
            have hm4 : CoO M pg u0 (oDo res md salt s kd (oA3 (mI M 932) cn s (fun k => mI M (925 + k) n))) (mk2 (mk2 M I3 J3) I4 J4) := by
              refine ⟨I4, J4, nfi f3 (psL s.2.1 (0, u0)).1, rfl, y3, ?_, g3.trans y5⟩
              show TrHas I4 J4 450 _ _ (psL (s.2.1 ++ [(kd, s.1)]) (0, u0)).1 (psL (s.2.1 ++ [(kd, s.1)]) (0, u0)).2
              rw [psL_snoc]; exact y4
            have hnx := ih (k + 1) _ _ (some (.int x₂)) (by omega) hm4 (by rw [show B + 3168 * (k + 1) = B + 3168 * k + 3168 by omega]; exact (o1_ok hRes (by rw [hcl1]; exact hk4) hok (by omega) h1o).1) (by rw [← hR]; show _ = (o1 res md salt (mI M 932) cn s _).bind _; rw [h1o]; rfl)
            have hla : (oDo res md salt s kd (oA3 (mI M 932) cn s (fun k => mI M (925 + k) n))).2.2.2 = if kd ≤ 1 then x₂ else s.2.2.2 := by rw [y2]; rfl
            rw [hla] at hnx
            have e14 : I4 926 n = nI kd := by rw [((g3.trans y5).hi hPf (by omega) (by omega)).1]; exact hk1
            clear hrc hwI hsow y2 y3 hac hm4 h1o y1 hla
            refine wp_iload rfl (ck_get kk_Mc_orders 71 rfl) ?_
            refine wp_if_ge (t := 174) (ck_get kk_Mc_orders 72 rfl) (by decide) (fun hc144 => ?_) (fun hc144 => ?_)
            · first | refine wp_iincN (ck_get kk_Mc_orders 86 rfl) rfl (by decide) rfl ?_ | refine wp_iinc (ck_get kk_Mc_orders 86 rfl) rfl (by decide) rfl ?_
              refine wp_aload_n rfl (ck_get kk_Mc_orders 87 rfl) ?_
              refine wp_getR (ck_get kk_Mc_orders 88 rfl) fl_Mc_59 (by assumption) (by assumption) ?_
              refine wp_getR (ck_get kk_Mc_orders 89 rfl) fl_Mc_220 (by assumption) (by assumption) ?_
              refine wp_getR (ck_get kk_Mc_orders 90 rfl) fl_Mc_251 (by assumption) (by assumption) ?_
              refine wp_iload rfl (ck_get kk_Mc_orders 91 rfl) ?_
              refine wp_ialdv (v := nI kd) (ck_get kk_Mc_orders 92 rfl) (by assumption) (ixk_nI (k := n) (by omega) (by omega)) (e14) ?_
              refine wp_iconst (v := nI 1) (by decide) (ck_get kk_Mc_orders 93 rfl) ?_
              first | refine wp_icmp_gtN (t := 199) (ck_get kk_Mc_orders 94 rfl) (by decide) (by omega) (by omega) (fun hc191 => ?_) (fun hc191 => ?_) | refine wp_icmp_gt (t := 199) (ck_get kk_Mc_orders 94 rfl) (by decide) (fun hc191 => ?_) (fun hc191 => ?_)
              · refine wp_iload_n rfl (ck_get kk_Mc_orders 97 rfl) ?_
                refine wp_istore_n (ck_get kk_Mc_orders 98 rfl) (by decide) rfl ?_
                first | refine wp_iincN (ck_get kk_Mc_orders 99 rfl) rfl (by decide) rfl ?_ | refine wp_iinc (ck_get kk_Mc_orders 99 rfl) rfl (by decide) rfl ?_
                refine wp_goto (t := 84) (ck_get kk_Mc_orders 100 rfl) (by decide) ?_
                rw [if_neg (by omega)] at hnx; exact hnx
              · refine wp_iload rfl (ck_get kk_Mc_orders 95 rfl) ?_
                refine wp_goto (t := 200) (ck_get kk_Mc_orders 96 rfl) (by decide) ?_
                refine wp_istore_n (ck_get kk_Mc_orders 98 rfl) (by decide) rfl ?_
                first | refine wp_iincN (ck_get kk_Mc_orders 99 rfl) rfl (by decide) rfl ?_ | refine wp_iinc (ck_get kk_Mc_orders 99 rfl) rfl (by decide) rfl ?_
                refine wp_goto (t := 84) (ck_get kk_Mc_orders 100 rfl) (by decide) ?_
                rw [if_pos (by omega)] at hnx; exact hnx
            · exact absurd hx0 hc144
        · exact absurd hc121 (by decide)
      · rw [decide_eq_false (fun q => hw (hwe.mp q))] at hwI
        have h1o : o1 res md salt (mI M 932) cn s (fun k => mI M (925 + k) n) = some s := by unfold o1; rw [if_neg hw]
        refine wp_aload_n rfl (ck_get kk_Mc_orders 56 rfl) ?_
        refine wp_aload_n rfl (ck_get kk_Mc_orders 57 rfl) ?_
        refine wp_getR (ck_get kk_Mc_orders 58 rfl) fl_Mc_59 (by assumption) (by assumption) ?_
        refine wp_getR (ck_get kk_Mc_orders 59 rfl) fl_Mc_220 (by assumption) (by assumption) ?_
        refine wp_iload rfl (ck_get kk_Mc_orders 60 rfl) ?_
        refine wp_cV2i (ck_get kk_Mc_orders 61 rfl) ml_Mc_243 (by omega) (Nat.le_of_ble_eq_true rfl) (by assumption) (Ci.to (hwI) ?_)
        rintro x₁ M₂ ⟨hx, S2, rfl⟩
        rw [hx]
        first | refine wp_if_neN (t := 127) (ck_get kk_Mc_orders 62 rfl) (by decide) (by omega) (fun hc121 => ?_) (fun hc121 => ?_) | refine wp_if_ne (t := 127) (ck_get kk_Mc_orders 62 rfl) (by decide) (fun hc121 => ?_) (fun hc121 => ?_)
        · exact absurd rfl hc121
        · refine wp_goto (t := 201) (ck_get kk_Mc_orders 63 rfl) (by decide) ?_
          first | refine wp_iincN (ck_get kk_Mc_orders 99 rfl) rfl (by decide) rfl ?_ | refine wp_iinc (ck_get kk_Mc_orders 99 rfl) rfl (by decide) rfl ?_
          refine wp_goto (t := 84) (ck_get kk_Mc_orders 100 rfl) (by decide) ?_
          exact ih (k + 1) s _ x6 (by omega) (hme S2) (by rw [show B + 3168 * (k + 1) = B + 3168 * k + 3168 by omega]; exact hok.le (by omega)) (by rw [← hR]; show _ = (o1 res md salt (mI M 932) cn s _).bind _; rw [h1o]; rfl)
end COR

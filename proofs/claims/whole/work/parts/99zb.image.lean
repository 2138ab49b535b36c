/-! ===== image, back ===== -/
section IMG
variable {T T2 : Nat → Nat × Nat} {R R2 : Nat → Nat → Option Nat}
theorem TeAt.kk {a : Nat} (h : TeAt T R a) (hT : ∀ x, a ≤ x → x < a + 6 → T2 x = T x) (hR : ∀ k, R2 a k = R a k) : TeAt T2 R2 a := by
  obtain ⟨h1, h2, h3, h4, h5, h6, h7, h8, h9, h10, h11⟩ := h
  exact ⟨by rw [hT a (by omega) (by omega)]; exact h1, by rw [hR]; exact h2, by rw [hR]; exact h3, by rw [hR]; exact h4, by rw [hR]; exact h5, by rw [hR]; exact h6, by rw [hT _ (by omega) (by omega)]; exact h7, by rw [hT _ (by omega) (by omega)]; exact h8, by rw [hT _ (by omega) (by omega)]; exact h9, by rw [hT _ (by omega) (by omega)]; exact h10, by rw [hT _ (by omega) (by omega)]; exact h11⟩
theorem WoAt.kk {w : Nat} (h : WoAt T R w) (hT : ∀ x, w ≤ x → x < w + 26 → T2 x = T x) (hR : ∀ x, w ≤ x → x < w + 26 → ∀ k, R2 x k = R x k) : WoAt T2 R2 w := by
  obtain ⟨h1, h2, h3, h4⟩ := h
  exact ⟨by rw [hT w (by omega) (by omega)]; exact h1, by rw [hR w (by omega) (by omega)]; exact h2, by rw [hT _ (by omega) (by omega)]; exact h3, fun t ht => ⟨by rw [hR _ (by omega) (by omega)]; exact (h4 t ht).1, (h4 t ht).2.kk (fun x a b => hT x (by omega) (by omega)) (hR _ (by omega) (by omega))⟩⟩
theorem ShAt.kk {a : Nat} (h : ShAt T R a) (hT : ∀ x, a ≤ x → x < a + 30 → T2 x = T x) (hR : ∀ x, a ≤ x → x < a + 29 → ∀ k, R2 x k = R x k) : ShAt T2 R2 a := by
  obtain ⟨h1, h2, h3, h4, h5, h6, h7, h8, h9⟩ := h
  exact ⟨by rw [hT a (by omega) (by omega)]; exact h1, by rw [hR a (by omega) (by omega)]; exact h2, h3.kk (fun x p q => hT x (by omega) (by omega)) (fun x p q => hR x (by omega) (by omega)), by rw [hR a (by omega) (by omega)]; exact h4, by rw [hT _ (by omega) (by omega)]; exact h5, by rw [hR a (by omega) (by omega)]; exact h6, by rw [hT _ (by omega) (by omega)]; exact h7, by rw [hR a (by omega) (by omega)]; exact h8, by rw [hT _ (by omega) (by omega)]; exact h9⟩
theorem TrAt.kk {a : Nat} {wf : Nat → Nat} (h : TrAt T R a wf) (hT : ∀ x, a ≤ x → x < a + 3 → T2 x = T x) (hR : ∀ x, a ≤ x → x < a + 3 → ∀ k, R2 x k = R x k) (hT2 : ∀ s, s < 16 → ∀ x, wf s ≤ x → x < wf s + 26 → T2 x = T x) (hR2 : ∀ s, s < 16 → ∀ x, wf s ≤ x → x < wf s + 26 → ∀ k, R2 x k = R x k) : TrAt T2 R2 a wf := by
  obtain ⟨h1, h2, h3, h4, h5, h6⟩ := h
  exact ⟨by rw [hT a (by omega) (by omega)]; exact h1, by rw [hR a (by omega) (by omega)]; exact h2, by rw [hT _ (by omega) (by omega)]; exact h3, by rw [hR a (by omega) (by omega)]; exact h4, by rw [hT _ (by omega) (by omega)]; exact h5, fun s hs => ⟨by rw [hR _ (by omega) (by omega)]; exact (h6 s hs).1, (h6 s hs).2.kk (hT2 s hs) (hR2 s hs)⟩⟩
/-- the class's cells stay where they are; rows of laws, the parser's text, the report's row may be others -/
def rOK (R R2 : Nat → Nat → Option Nat) : Prop := ∀ x, x < 1020 → x ≠ 30 → x ≠ 989 → x ≠ 1019 → x ≠ 949 → ∀ k, (x = 924 → k ≠ 2) → R2 x k = R x k
theorem LayC.kk {pf pg : Nat → Nat} (h : LayC T R pf pg) (hT : ∀ x, x < 1020 → T2 x = T x) (hR : rOK R R2) : LayC T2 R2 pf pg := by
  obtain ⟨t0, ⟨a1, a2⟩, ⟨b1, b2⟩, ⟨c1, c2⟩, ⟨d1, d2⟩, ⟨e1, e2⟩, ⟨f1, f2, f3, f4, f5, f6⟩, ⟨g1, g2⟩, ⟨i1, i2⟩, ⟨j1, j2⟩, ⟨k1, k2⟩, ⟨l1, l2⟩, ⟨m1, m2⟩, ⟨n1, n2⟩, ⟨o1, o2⟩, hPf⟩ := h
  have r0 : ∀ k, R2 0 k = R 0 k := fun k => hR 0 (by omega) (by omega) (by omega) (by omega) (by omega) k (by omega)
  have rx : ∀ x, x < 1020 → x ≠ 30 → x ≠ 989 → x ≠ 1019 → x ≠ 949 → x ≠ 924 → ∀ k, R2 x k = R x k := fun x q1 q2 q3 q4 q5 q6 k => hR x q1 q2 q3 q4 q5 k (fun q => absurd q q6)
  refine ⟨by rw [hT 0 (by omega)]; exact t0, ⟨by rw [r0]; exact a1, a2.kk (fun x p q => hT x (by omega)) (fun x p q => rx x (by omega) (by omega) (by omega) (by omega) (by omega) (by omega))⟩, ⟨by rw [r0]; exact b1, b2.kk (fun x p q => hT x (by omega)) (fun x p q => rx x (by omega) (by omega) (by omega) (by omega) (by omega) (by omega)) (fun s hs x p q => hT x ?_) (fun s hs x p q => rx x ?_ ?_ ?_ ?_ ?_ ?_)⟩, ⟨by rw [r0]; exact c1, c2.kk (fun x p q => hT x (by omega)) (fun x p q => rx x (by omega) (by omega) (by omega) (by omega) (by omega) (by omega)) (fun s hs x p q => hT x ?_) (fun s hs x p q => rx x ?_ ?_ ?_ ?_ ?_ ?_)⟩, ⟨by rw [r0]; exact d1, d2.kk (fun x p q => hT x (by omega)) (fun x p q => rx x (by omega) (by omega) (by omega) (by omega) (by omega) (by omega))⟩, ⟨by rw [r0]; exact e1, e2.kk (fun x p q => hT x (by omega)) (fun x p q => rx x (by omega) (by omega) (by omega) (by omega) (by omega) (by omega))⟩, ⟨by rw [r0]; exact f1, by rw [hT _ (by omega)]; exact f2, by rw [rx _ (by omega) (by omega) (by omega) (by omega) (by omega) (by omega)]; exact f3, by rw [rx _ (by omega) (by omega) (by omega) (by omega) (by omega) (by omega)]; exact f4, f5.kk (fun x p q => hT x (by omega)) (fun x p q => rx x (by omega) (by omega) (by omega) (by omega) (by omega) (by omega)), f6.kk (fun x p q => hT x (by omega)) (fun x p q => rx x (by omega) (by omega) (by omega) (by omega) (by omega) (by omega))⟩, ⟨by rw [r0]; exact g1, by rw [hT _ (by omega)]; exact g2⟩, ⟨by rw [r0]; exact i1, by rw [hT _ (by omega)]; exact i2⟩, ⟨by rw [r0]; exact j1, ?_⟩, ⟨by rw [r0]; exact k1, ?_⟩, ⟨by rw [r0]; exact l1, ?_⟩, ⟨by rw [r0]; exact m1, ?_⟩, ⟨by rw [r0]; exact n1, ?_⟩, ⟨by rw [r0]; exact o1, by rw [hT _ (by omega)]; exact o2⟩, hPf⟩
  iterate 7 (have := slA_lt (hPf.1 s hs).1; have p' : slA (pf s) ≤ x := p; have q' : x < slA (pf s) + 26 := q; omega)
  iterate 7 (have := slA_lt (hPf.1 s hs).2; have p' : slA (pg s) ≤ x := p; have q' : x < slA (pg s) + 26 := q; omega)
  · obtain ⟨p1, p2, ⟨p3, p4, p5, p6⟩, p7, p8⟩ := j2
    refine ⟨by rw [hT _ (by omega)]; exact p1, by rw [hR 924 (by omega) (by omega) (by omega) (by omega) (by omega) 0 (by omega)]; exact p2, ⟨by rw [hT _ (by omega)]; exact p3, fun k q1 q2 => by rw [rx _ (by omega) (by omega) (by omega) (by omega) (by omega) (by omega)]; exact p4 k q1 q2, fun k q1 q2 => by rw [hT _ (by omega)]; exact p5 k q1 q2, by rw [hT _ (by omega)]; exact p6⟩, by rw [hT _ (by omega)]; exact p7, p8⟩
  · obtain ⟨p1, p2, p3, p4, p5, p6, p7⟩ := k2
    exact ⟨by rw [hT _ (by omega)]; exact p1, by rw [rx _ (by omega) (by omega) (by omega) (by omega) (by omega) (by omega)]; exact p2, by rw [hT _ (by omega)]; exact p3, by rw [rx _ (by omega) (by omega) (by omega) (by omega) (by omega) (by omega)]; exact p4, by rw [hT _ (by omega)]; exact p5, by rw [rx _ (by omega) (by omega) (by omega) (by omega) (by omega) (by omega)]; exact p6, by rw [hT _ (by omega)]; exact p7⟩
  · obtain ⟨p1, p2⟩ := l2
    exact ⟨by rw [hT _ (by omega)]; exact p1, fun k q1 q2 => ⟨by rw [rx _ (by omega) (by omega) (by omega) (by omega) (by omega) (by omega)]; exact (p2 k q1 q2).1, by rw [hT _ (by omega)]; exact (p2 k q1 q2).2⟩⟩
  · obtain ⟨p1, p2, p3, p4, p5, p6, p7⟩ := m2
    exact ⟨by rw [hT _ (by omega)]; exact p1, by rw [rx _ (by omega) (by omega) (by omega) (by omega) (by omega) (by omega)]; exact p2, by rw [hT _ (by omega)]; exact p3, by rw [rx _ (by omega) (by omega) (by omega) (by omega) (by omega) (by omega)]; exact p4, by rw [hT _ (by omega)]; exact p5, by rw [rx _ (by omega) (by omega) (by omega) (by omega) (by omega) (by omega)]; exact p6, by rw [hT _ (by omega)]; exact p7⟩
  · obtain ⟨p1, p2, p3, p4, p5, p6, p7, p8, p9, p10, p11, p12, p13⟩ := n2
    have rd : ∀ k, R2 952 k = R 952 k := rx 952 (by omega) (by omega) (by omega) (by omega) (by omega) (by omega)
    exact ⟨by rw [hT _ (by omega)]; exact p1, by rw [rd]; exact p2, by rw [hT _ (by omega)]; exact p3, by rw [rd]; exact p4, by rw [hT _ (by omega)]; exact p5, by rw [rd]; exact p6, by rw [hT _ (by omega)]; exact p7, by rw [rd]; exact p8, by rw [hT _ (by omega)]; exact p9, by rw [rd]; exact p10, by rw [hT _ (by omega)]; exact p11, by rw [rd]; exact p12, by rw [hT _ (by omega)]; exact p13⟩
theorem LawR.kb {K K2 : Nat → Int32} {t cn nc : Nat} {P : Nat → Nat → Int32} (h : LawR K t P cn nc) (ht : t < 7) (hK : ∀ x, 388 ≤ x → x < 5995 → K2 x = K x) : LawR K2 t P cn nc := by
  obtain ⟨N, tc, tv, en, r, sg, f, ⟨a1, a2, a3, a4, a5⟩, h2⟩ := h
  refine ⟨N, tc, tv, en, r, sg, f, ⟨by rw [hK _ (by omega) (by omega)]; exact a1, a2, fun i hi => ?_, a4, a5⟩, h2⟩
  rw [hK _ (by omega) (by omega), hK _ (by omega) (by omega)]
  exact a3 i hi
theorem ShM.kb {K K2 : Nat → Int32} {P P2 : Nat → Int64} {s : SH} {B : Nat} (h : ShM K P s) (hO : SHOK s B) (hK : ∀ x, x < 5995 → K2 x = K x) (hP : ∀ x, x < 100 → P2 x = P x) : ShM K2 P2 s := by
  obtain ⟨h1, h2, h3, h4, h5, h6, h7, h8, h9, h10⟩ := h
  have h6' := hO.2.2.2.2.2.2.1
  have hln := hO.2.2.2.2.2.2.2.2.1
  exact ⟨h1.kept hO.1 (fun x a b => hK x (by omega)) (fun x a b => hP x (by omega)), by rw [hK _ (by omega)]; exact h2, fun i hi => by rw [hK _ (by omega), hK _ (by omega)]; exact h3 i hi, by rw [hK _ (by omega)]; exact h4, by rw [hK _ (by omega)]; exact h5, by rw [hK _ (by omega)]; exact h6, by rw [hK _ (by omega)]; exact h7, by rw [hK _ (by omega)]; exact h8, by rw [hK _ (by omega)]; exact h9, fun i hi => (h10 i hi).kb (by omega) (fun x a b => hK x b)⟩
end IMG
section IMH
variable {g : Gl} {M : Mem}
theorem b_image {w : Int32} : Both g Y_Mc_image Y_Mo_image [.int w] := by
  intro c z hc hO
  rcases i32c w 2 (by omega) with ⟨k, hk, rfl⟩ | hw
  · have bw := inB_nI hk (n := 2) (by omega)
    refine ⟨nI 0, zGood (zS z, zU z, up1 (zI z) k (some (zS z)), z.2.2.2), ZOK.good ?_, fun M h => ?_, fun M h => ?_⟩
    · obtain ⟨o1, o2, o3, o4⟩ := hO.le (Nat.le_succ c)
      refine ⟨o1, o2, fun j s hj hs => ?_, o4⟩
      have hs2 : up1 (zI z) k (some (zS z)) j = some s := hs
      by_cases e : j = k
      · rw [e, up1_eq] at hs2
        cases hs2; exact o1
      · rw [up1_ne e] at hs2
        exact o3 j s hj hs2
    · skip
      have hC' := h.le (Nat.le_succ c)
      obtain ⟨pf, pg, hL, hSC, hTC, hIC, hDC, hPC, hNC, hBC, hZC⟩ := h
      obtain ⟨t0, ⟨r00, hSh⟩, ⟨r01, hTr⟩, ⟨r02, hTg⟩, ⟨r03, hWa⟩, ⟨r04, hWp⟩, ⟨r06, t921, r921a, r921b, hS0, hS1⟩, ⟨r07, t922⟩, ⟨r08, t923⟩, ⟨r010, hPa⟩, ⟨r011, hJu⟩, ⟨r012, hRe⟩, ⟨r013, hCu⟩, ⟨r014, hDe⟩, ⟨r018, t959⟩, hPf⟩ := id hL
      have t1 : mT M 1 = (6, 0) := hSh.1
      have r10 : mR M 1 0 = some 2 := hSh.2.1
      have hW2 : WoAt (mT M) (mR M) 2 := hSh.2.2.1
      have t2 : mT M 2 = (9, 0) := hW2.1
      have r20 : mR M 2 0 = some 3 := hW2.2.1
      have t3 : mT M 3 = (24, 4) := hW2.2.2.1
      have t31 : mT M 31 = (8, 0) := hTr.1
      have t924 : mT M 924 = (3, 0) := hPa.1
      have t934 : mT M 934 = (2, 0) := hJu.1
      have t938 : mT M 938 = (5, 0) := hRe.1
      have t947 : mT M 947 = (0, 0) := hCu.1
      have t952 : mT M 952 = (1, 0) := hDe.1
      have hAk : ShAt (mT M) (mR M) (960 + 30 * k) := by
        rcases (show k = 0 ∨ k = 1 by omega) with rfl | rfl
        · exact hS0
        · exact hS1
      have rim : mR M 921 k = some (960 + 30 * k) := by
        rcases (show k = 0 ∨ k = 1 by omega) with rfl | rfl
        · exact r921a
        · exact r921b
      have tim := hAk.1
      refine cw_entry 0 pf_Mc_image rfl ?_
      refine wp_iload_n rfl (ck_get kk_Mc_image 0 rfl) ?_
      first | refine wp_if_ltN (t := 9) (ck_get kk_Mc_image 1 rfl) (by decide) (by omega) (fun hc1 => ?_) (fun hc1 => ?_) | refine wp_if_lt (t := 9) (ck_get kk_Mc_image 1 rfl) (by decide) (fun hc1 => ?_) (fun hc1 => ?_)
      · exact hc1.elim
      · refine wp_iload_n rfl (ck_get kk_Mc_image 2 rfl) ?_
        refine wp_iconst (v := nI 2) (by decide) (ck_get kk_Mc_image 3 rfl) ?_
        first | refine wp_icmp_ltN (t := 15) (ck_get kk_Mc_image 4 rfl) (by decide) (by omega) (by omega) (fun hc6 => ?_) (fun hc6 => ?_) | refine wp_icmp_lt (t := 15) (ck_get kk_Mc_image 4 rfl) (by decide) (fun hc6 => ?_) (fun hc6 => ?_)
        · refine wp_aload_n rfl (ck_get kk_Mc_image 9 rfl) ?_
          refine wp_getR (ck_get kk_Mc_image 10 rfl) fl_Mc_40 (by assumption) (by assumption) ?_
          refine wp_iload_n rfl (ck_get kk_Mc_image 11 rfl) ?_
          refine wp_aald (ck_get kk_Mc_image 12 rfl) (by assumption) (by first | assumption | exact ixk_nI (by omega) (by omega)) (by assumption) ?_
          refine wp_aload_n rfl (ck_get kk_Mc_image 13 rfl) ?_
          refine wp_getR (ck_get kk_Mc_image 14 rfl) fl_Mc_12 (by assumption) (by assumption) ?_
          refine wp_cV1v (ck_get kk_Mc_image 15 rfl) ml_Mc_388 (by omega) (Nat.le_of_ble_eq_true rfl) (by assumption) (Cv.to (c_shcopy hAk hSh (by omega) (by omega) (by omega) hSC hO.1) ?_)
          rintro M1 ⟨I2, J2, R2, e1, e2, e3, e4⟩
          subst e1
          have r7 : R2 0 7 = some 922 := by rw [e4 0 (by omega)]; exact r07
          refine wp_aload_n rfl (ck_get kk_Mc_image 16 rfl) ?_
          refine wp_getR (ck_get kk_Mc_image 17 rfl) fl_Mc_44 (by assumption) (by assumption) ?_
          refine wp_iload_n rfl (ck_get kk_Mc_image 18 rfl) ?_
          refine wp_iconst (v := nI 1) (by decide) (ck_get kk_Mc_image 19 rfl) ?_
          first | refine wp_bast (ck_get kk_Mc_image 20 rfl) (by assumption) (ixk_nI (k := k) (by omega) (by omega)) ?_ | refine wp_zast (ck_get kk_Mc_image 20 rfl) (by assumption) (ixk_nI (k := k) (by omega) (by omega)) ?_
          refine wp_aload_n rfl (ck_get kk_Mc_image 21 rfl) ?_
          refine wp_iconst (v := nI 0) (by decide) (ck_get kk_Mc_image 22 rfl) ?_
          refine wp_cV1i (ck_get kk_Mc_image 23 rfl) ml_Mc_185 (by omega) (Nat.le_of_ble_eq_true rfl) (by assumption) (Ci.to (c_accept (pf := pf) (pg := pg) (hL.kk (fun _ _ => rfl) (fun x q1 q2 q3 q4 q5 j _ => congrFun (e4 x (by omega)) j))) ?_)
          rintro x M1 ⟨e5, e6⟩
          refine wp_ireturn (ck_get kk_Mc_image 24 rfl) rfl rfl ⟨_, rfl, ?_⟩
          rw [e6]
          have hL2 : LayC (mT M) R2 pf pg := hL.kk (fun _ _ => rfl) (fun x q1 q2 q3 q4 q5 j _ => congrFun (e4 x (by omega)) j)
          have fI : ∀ x, x < 960 + 30 * k ∨ 960 + 30 * k + 30 ≤ x → x ≠ 922 → up2 I2 922 k (nI 1 &&& 1) x = mI M x ∧ J2 x = mJ M x := fun x a b => ⟨(up2_o b).trans (e3 x a).1, (e3 x a).2⟩
          have hk2 : HiK (mT M) (mR M) (mI M) (mT M) R2 (up2 I2 922 k (nI 1 &&& 1)) := fun x hx _ => ⟨rfl, e4 x (by omega), (fI x (by omega) (by omega)).1⟩
          refine ⟨e5, CR.good (M := mk5 M (up2 I2 922 k (nI 1 &&& 1)) J2 R2) ⟨pf, pg, hL2, hSC.kept (fun x q1 q2 => fI x (by omega) (by omega)) (e4 30 (by omega)) hk2, hTC.kept ⟨(fI 31 (by omega) (by omega)).1, (fI 33 (by omega) (by omega)).1⟩ (fun s hs x q1 q2 => fI x (by have := slA_lt (hPf.1 s hs).1; omega) (by have := slA_lt (hPf.1 s hs).1; omega)), fun j hj => ?_, hDC.kept (congrFun (fI 0 (by omega) (by omega)).1 5) (fun x q1 q2 => fI x (by omega) (by omega)), hPC.kept (congrFun (fI 0 (by omega) (by omega)).1 9) (fI 923 (by omega) (by omega)).1, hNC.kept ⟨congrFun (fI 0 (by omega) (by omega)).1 15, congrFun (fI 0 (by omega) (by omega)).1 16, congrFun (fI 0 (by omega) (by omega)).1 17⟩ (congrFun (fI 924 (by omega) (by omega)).1 1) (fI 959 (by omega) (by omega)).1, hBC.kept (e4 949 (by omega)) (fI 949 (by omega) (by omega)).1 (fun v hv _ => ⟨rfl, (fI v (by omega) (by omega)).1⟩), hZC.le (Nat.le_succ c)⟩, ?_⟩
          · show up2 I2 922 k (nI 1 &&& 1) 922 j = bI (up1 (zI z) k (some (zS z)) j).isSome ∧ (LwT (mT M) R2 (960 + 30 * j + 29) ∧ FwZ (up2 I2 922 k (nI 1 &&& 1))) ∧ ∀ s, up1 (zI z) k (some (zS z)) j = some s → ShC (mT M) R2 (up2 I2 922 k (nI 1 &&& 1)) J2 (960 + 30 * j) s
            have hfw : FwZ (up2 I2 922 k (nI 1 &&& 1)) := fun i p q => (congrFun (fI 957 (by omega) (by omega)).1 i).trans ((hIC 0 (by omega)).2.1.2 i p q)
            by_cases e : j = k
            · subst e
              rw [up2_v, up1_eq]
              have hS2 : ShC (mT M) R2 (up2 I2 922 j (nI 1 &&& 1)) J2 (960 + 30 * j) (zS z) := e2.kept (fun x q1 q2 => ⟨up2_o (by omega), rfl⟩) rfl (HiK.same (fun x hx => up2_o (by omega)))
              exact ⟨(show nI 1 &&& 1 = nI 1 by decide), ⟨hS2.2.2.2.2.2.2.2.2.2.1, hfw⟩, fun s hs => by cases hs; exact hS2⟩
            · rw [up2_k e, up1_ne e]
              obtain ⟨g1, g2, g3⟩ := hIC j hj
              have hr : R2 (960 + 30 * j + 29) = mR M (960 + 30 * j + 29) := e4 _ (by omega)
              exact ⟨by rw [(e3 922 (by omega)).1]; exact g1, ⟨g2.1.kept hr hk2, hfw⟩, fun s hs => (g3 s hs).kept (fun x q1 q2 => fI x (by omega) (by omega)) hr hk2⟩
          · intro x a b
            exact ⟨rfl, e4 x (by omega), (up2_o (f := up2 I2 922 k (nI 1 &&& 1)) (by omega)).trans (fI x (by omega) (by omega)).1, (fI x (by omega) (by omega)).2⟩
        · omega
    · skip
      obtain ⟨hM, hSM, hUM, hIM, hDM, hPM, hNM, hBM⟩ := id h
      refine Ci.to (Cw.le (n2 := 300) (by omega) (m_image (k := nI k) hM)) ?_
      rintro x M2 (⟨q, -⟩ | ⟨t, ht, et, rfl, rfl⟩)
      · rw [bw] at q; cases q
      obtain rfl : k = t := (nI_eq (by omega) (by omega)).mp et
      refine ⟨rfl, MR.good ?_, ?_⟩
      · have fI : ∀ x, x ≠ 1024 → x ≠ 1026 → mI (imgM M 1020 k) x = mI M x := fun x a b => (up2_o (f := up1 (mI M) (1020 + 4) _) b).trans (up1_ne a)
        have fJ : ∀ x, x ≠ 1025 → mJ (imgM M 1020 k) x = mJ M x := fun x a => up1_ne (f := mJ M) a
        have f4 : mI (imgM M 1020 k) 1024 = cpL (mI M (1020 + 4)) (mI M (1020 + 2)) (5995 * k) 0 5995 := by
          show up2 (up1 (mI M) (1020 + 4) (cpL (mI M (1020 + 4)) (mI M (1020 + 2)) (5995 * k) 0 5995)) (1020 + 6) k (nI 1) (1020 + 4) = _
          rw [up2_o (by omega), up1_eq]
        have f5 : mJ (imgM M 1020 k) 1025 = cpL (mJ M (1020 + 5)) (mJ M (1020 + 3)) (100 * k) 0 100 := by
          show up1 (mJ M) (1020 + 5) (cpL (mJ M (1020 + 5)) (mJ M (1020 + 3)) (100 * k) 0 100) (1020 + 5) = _
          rw [up1_eq]
        have f6 : ∀ j, mI (imgM M 1020 k) 1026 j = up1 (mI M 1026) k (nI 1) j := fun j => by
          show up2 (up1 (mI M) (1020 + 4) (cpL (mI M (1020 + 4)) (mI M (1020 + 2)) (5995 * k) 0 5995)) (1020 + 6) k (nI 1) (1020 + 6) j = _
          rw [up2_up1, up1_eq, up1_ne (a := 1020 + 4) (x := 1020 + 6) (by omega)]
        refine ⟨hM, ?_, ?_, fun j hj => ?_, ?_, ?_, ?_, ?_⟩
        · rw [fI 1022 (by omega) (by omega), fJ 1023 (by omega)]; exact hSM
        · unfold MRu at hUM ⊢
          rw [fI 1020 (by omega) (by omega), fI 1036 (by omega) (by omega), fJ 1037 (by omega)]; exact hUM
        · show mI (imgM M 1020 k) 1026 j = bI (up1 (zI z) k (some (zS z)) j).isSome ∧ ∀ s, up1 (zI z) k (some (zS z)) j = some s → ShM (fun y => mI (imgM M 1020 k) 1024 (5995 * j + y)) (fun y => mJ (imgM M 1020 k) 1025 (100 * j + y)) s
          rw [f6 j, f4, f5]
          by_cases e : j = k
          · subst e
            rw [up1_eq, up1_eq]
            refine ⟨rfl, fun s hs => ?_⟩
            cases hs
            refine hSM.kb hO.1 (fun x hx => ?_) (fun x hx => ?_)
            · show cpL _ _ _ _ _ _ = _
              unfold cpL
              rw [if_pos (by omega), show 0 + (5995 * j + x - 5995 * j) = x by omega]
            · show cpL _ _ _ _ _ _ = _
              unfold cpL
              rw [if_pos (by omega), show 0 + (100 * j + x - 100 * j) = x by omega]
          · rw [up1_ne e, up1_ne e]
            obtain ⟨g1, g2⟩ := hIM j hj
            refine ⟨g1, fun s hs => (g2 s hs).kb (hO.2.2.1 j s hj hs) (fun x hx => ?_) (fun x hx => ?_)⟩
            · show cpL _ _ _ _ _ _ = _
              unfold cpL
              rw [if_neg (by omega)]
            · show cpL _ _ _ _ _ _ = _
              unfold cpL
              rw [if_neg (by omega)]
        · unfold MRd at hDM ⊢
          rw [fI 1020 (by omega) (by omega), fI 1055 (by omega) (by omega)]; exact hDM
        · unfold MRp at hPM ⊢
          rw [fI 1020 (by omega) (by omega), fI 1030 (by omega) (by omega), fI 1029 (by omega) (by omega)]; exact hPM
        · unfold MRn at hNM ⊢
          rw [fI 1020 (by omega) (by omega), fI 1021 (by omega) (by omega)]; exact hNM
        · unfold MRb at hBM ⊢
          rw [fI 1020 (by omega) (by omega), fI 1043 (by omega) (by omega)]; exact hBM
      · refine CSame.trans (M2 := imgM M 1020 k) ?_ CSame.gd
        exact CSame.mk2 (M := M) (fun x a => ⟨(up2_o (f := up1 (mI M) (1020 + 4) _) (by omega)).trans (up1_ne (by omega)), up1_ne (f := mJ M) (by omega)⟩)
  · refine ⟨-1, zBad z 1, (hO.le (Nat.le_succ c)).bad, fun M h => ?_, fun M h => ?_⟩
    · skip
      have hC' := h.le (Nat.le_succ c)
      obtain ⟨pf, pg, hL, hSC, hTC, hIC, hDC, hPC, hNC, hBC, hZC⟩ := h
      obtain ⟨t0, ⟨r00, hSh⟩, ⟨r01, hTr⟩, ⟨r02, hTg⟩, ⟨r03, hWa⟩, ⟨r04, hWp⟩, ⟨r06, t921, r921a, r921b, hS0, hS1⟩, ⟨r07, t922⟩, ⟨r08, t923⟩, ⟨r010, hPa⟩, ⟨r011, hJu⟩, ⟨r012, hRe⟩, ⟨r013, hCu⟩, ⟨r014, hDe⟩, ⟨r018, t959⟩, hPf⟩ := id hL
      have t1 : mT M 1 = (6, 0) := hSh.1
      have r10 : mR M 1 0 = some 2 := hSh.2.1
      have hW2 : WoAt (mT M) (mR M) 2 := hSh.2.2.1
      have t2 : mT M 2 = (9, 0) := hW2.1
      have r20 : mR M 2 0 = some 3 := hW2.2.1
      have t3 : mT M 3 = (24, 4) := hW2.2.2.1
      have t31 : mT M 31 = (8, 0) := hTr.1
      have t924 : mT M 924 = (3, 0) := hPa.1
      have t934 : mT M 934 = (2, 0) := hJu.1
      have t938 : mT M 938 = (5, 0) := hRe.1
      have t947 : mT M 947 = (0, 0) := hCu.1
      have t952 : mT M 952 = (1, 0) := hDe.1
      refine cw_entry 0 pf_Mc_image rfl ?_
      refine wp_iload_n rfl (ck_get kk_Mc_image 0 rfl) ?_
      refine wp_if_lt (t := 9) (ck_get kk_Mc_image 1 rfl) (by decide) (fun hc1 => ?_) (fun hc1 => ?_)
      · refine wp_aload_n rfl (ck_get kk_Mc_image 5 rfl) ?_
        refine wp_iconst (v := (-1)) (by decide) (ck_get kk_Mc_image 6 rfl) ?_
        refine wp_cV1i (ck_get kk_Mc_image 7 rfl) ml_Mc_172 (by omega) (Nat.le_of_ble_eq_true rfl) (by assumption) (Ci.to (c_refuse (k := 1) (by decide) (by omega) (by omega) hL) ?_)
        rintro x M1 ⟨e1, e2⟩
        refine wp_ireturn (ck_get kk_Mc_image 8 rfl) rfl rfl ⟨_, rfl, ?_⟩
        exact ⟨e1, by rw [e2]; exact hC'.bad (by omega), by rw [e2]; exact MSame.bd⟩
      · refine wp_iload_n rfl (ck_get kk_Mc_image 2 rfl) ?_
        refine wp_iconst (v := nI 2) (by decide) (ck_get kk_Mc_image 3 rfl) ?_
        refine wp_icmp_lt (t := 15) (ck_get kk_Mc_image 4 rfl) (by decide) (fun hc6 => ?_) (fun hc6 => ?_)
        · exact (i32o hw 0 1 rfl (by omega) (by omega) hc1 (fun h => by have a := Int32.lt_iff_toInt_lt.mp h; have b := Int32.lt_iff_toInt_lt.mp hc6; rw [nI_toInt (by omega)] at a b; omega)).elim
        · refine wp_aload_n rfl (ck_get kk_Mc_image 5 rfl) ?_
          refine wp_iconst (v := (-1)) (by decide) (ck_get kk_Mc_image 6 rfl) ?_
          refine wp_cV1i (ck_get kk_Mc_image 7 rfl) ml_Mc_172 (by omega) (Nat.le_of_ble_eq_true rfl) (by assumption) (Ci.to (c_refuse (k := 1) (by decide) (by omega) (by omega) hL) ?_)
          rintro x M1 ⟨e1, e2⟩
          refine wp_ireturn (ck_get kk_Mc_image 8 rfl) rfl rfl ⟨_, rfl, ?_⟩
          exact ⟨e1, by rw [e2]; exact hC'.bad (by omega), by rw [e2]; exact MSame.bd⟩
    · skip
      obtain ⟨hM, hSM, hUM, hIM, hDM, hPM, hNM, hBM⟩ := id h
      refine Ci.to (Cw.le (n2 := 300) (by omega) (m_image (k := w) hM)) ?_
      rintro x M2 (⟨-, rfl, rfl⟩ | ⟨t, ht, et, -⟩)
      · exact ⟨rfl, h.bad (k := 1) (by omega), CSame.rf⟩
      · subst et
        have := hw.1
        rw [inB_nI ht (by omega)] at this; cases this
end IMH

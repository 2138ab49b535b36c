/-! ===== how long code is; programs that are made ===== -/
section PLN
variable {tc tv : Nat → Nat} {od : Bool} {f : Nat}
theorem p1F_len {N i lf cl j l : Nat} {sg : List Int32} (hN : ∀ i, tc i ≠ 0 → i < N) (h : p1F tc tv od f i lf cl = (true, j, l, sg)) (hi : i ≤ N) (hl : lf ≤ 50) : i < j ∧ j ≤ N ∧ l ≤ 50 ∧ sg.length ≤ 2 * (j - i) := by
  unfold p1F at h
  obtain ⟨j1, l1, s1, e1, h1⟩ := pbd_t h
  obtain ⟨j2, l2, s2, e2, h2⟩ := pbd_t h1
  obtain ⟨rfl, rfl, rfl⟩ := tru_inj h2
  have h3 : i < j1 ∧ j1 ≤ N ∧ l1 ≤ 50 ∧ s1.length ≤ 2 * (j1 - i) := by
    cases od with
    | true =>
      rw [if_pos rfl] at e1
      obtain ⟨u1, u2, u3, u4, -⟩ := pOrd_ok N hN e1 hl
      exact ⟨u1, u2, u3, u4⟩
    | false =>
      rw [if_neg (by decide)] at e1
      obtain ⟨u1, u2, u3, u4, -⟩ := pLaw_ok N hN e1 hl
      exact ⟨u1, u2, u3, u4⟩
  obtain ⟨v1, v2, v3, v4, -⟩ := ClS_ok N hN e2 h3.2.1 h3.2.2.1
  rw [List.length_append]
  exact ⟨by omega, v2, v3, by omega⟩
theorem pcF_len {N : Nat} {en : Nat → Bool} (hN : ∀ i, tc i ≠ 0 → i < N) : ∀ r i lf cl j l (sg : List Int32), pcF tc tv od f en r i lf cl = (true, j, l, sg) → i ≤ N → lf ≤ 50 → i ≤ j ∧ j ≤ N ∧ sg.length ≤ 2 * (j - i) := by
  intro r
  induction r with
  | zero => intro i lf cl j l sg h _ _; cases h
  | succ r ih =>
    intro i lf cl j l sg h hi hl
    unfold pcF at h
    obtain ⟨j1, l1, s1, e1, h1⟩ := pbd_t h
    obtain ⟨j2, l2, s2, e2, h2⟩ := pbd_t h1
    obtain ⟨rfl, rfl, rfl⟩ := tru_inj h2
    obtain ⟨u1, u2, u3, u4⟩ := p1F_len hN e1 hi hl
    rw [List.length_append]
    dsimp only at e2
    by_cases c : en j1 = true
    · rw [if_pos c] at e2
      obtain ⟨rfl, rfl, rfl⟩ := tru_inj e2
      exact ⟨by omega, u2, by simp; omega⟩
    · rw [if_neg c] at e2
      by_cases c2 : tc j1 = 159
      · rw [if_pos c2] at e2
        obtain ⟨w1, w2, w3⟩ := ih _ _ _ _ _ _ e2 (hN j1 (by omega)) u3
        exact ⟨by omega, w2, by omega⟩
      · rw [if_neg c2] at e2
        cases e2
theorem CnS_e {e e2 : Nat → Int32} {i lf cl j : Nat} {sg : List Int32} (h3 : e 3 = e2 3) (h : CnS tc tv od f e i lf cl j sg) : CnS tc tv od f e2 i lf cl j sg := by
  unfold CnS at h ⊢; rw [← h3]; exact h
theorem LwS_e {e e2 : Nat → Int32} {i lf cl j : Nat} {sg : List Int32} (he : ∀ k, 1 ≤ k → k ≤ 6 → e k = e2 k) (h : LwS tc tv od f e i lf cl j sg) : LwS tc tv od f e2 i lf cl j sg := by
  rcases h with ⟨a, b, d⟩ | ⟨a, b, d, j1, l1, s1, s2, q1, q2, q3⟩
  · exact Or.inl ⟨a, by rw [← he 1 (by omega) (by omega)]; exact b, CnS_e (he 3 (by omega) (by omega)) d⟩
  · exact Or.inr ⟨a, by rw [← he 1 (by omega) (by omega)]; exact b, by rw [← he 4 (by omega) (by omega)]; exact d, j1, l1, s1, s2, q1, CnS_e (he 3 (by omega) (by omega)) q2, q3⟩
theorem ByS_e {e e2 : Nat → Int32} {i lf cl j lf2 : Nat} {sg : List Int32} (he : ∀ k, 1 ≤ k → k ≤ 6 → e k = e2 k) (h : ByS tc tv od f e i lf cl j lf2 sg) : ByS tc tv od f e2 i lf cl j lf2 sg := by
  unfold ByS at h ⊢
  rw [← he 6 (by omega) (by omega), ← he 2 (by omega) (by omega)]; exact h
theorem OrS_e {e e2 : Nat → Int32} {i lf cl j lf2 : Nat} {sg : List Int32} (he : ∀ k, 1 ≤ k → k ≤ 6 → e k = e2 k) (h : OrS tc tv od f e i lf cl j lf2 sg) : OrS tc tv od f e2 i lf cl j lf2 sg := by
  rcases h with ⟨a, b, j1, l1, s1, s2, q1, q2, q3⟩ | ⟨a, b, d, j1, l1, s1, j2, l3, s2, s3, q1, q2, q3, q4, q5, q6⟩ | ⟨a, b, d, q1, q2⟩
  · exact Or.inl ⟨by rw [← he 1 (by omega) (by omega)]; exact a, by rw [← he 4 (by omega) (by omega)]; exact b, j1, l1, s1, s2, q1, ByS_e he q2, q3⟩
  · exact Or.inr (Or.inl ⟨a, by rw [← he 1 (by omega) (by omega)]; exact b, by rw [← he 4 (by omega) (by omega)]; exact d, j1, l1, s1, j2, l3, s2, s3, q1, q2, by rw [← he 5 (by omega) (by omega)]; exact q3, q4, ByS_e he q5, q6⟩)
  · exact Or.inr (Or.inr ⟨a, by rw [← he 1 (by omega) (by omega)]; exact b, d, by rw [← he 2 (by omega) (by omega)]; exact q1, q2⟩)
theorem ClS_e {e e2 : Nat → Int32} {i lf cl j : Nat} {sg : List Int32} (he : ∀ k, 1 ≤ k → k ≤ 6 → e k = e2 k) (h : ClS tc tv od f e i lf cl j sg) : ClS tc tv od f e2 i lf cl j sg := by
  unfold ClS at h ⊢
  cases od with
  | true =>
    rw [if_pos rfl] at h ⊢
    obtain ⟨j1, l1, s1, s2, q1, q2, q3⟩ := h
    exact ⟨j1, l1, s1, s2, OrS_e he q1, CnS_e (he 3 (by omega) (by omega)) q2, q3⟩
  | false =>
    rw [if_neg (by decide)] at h ⊢
    exact LwS_e he h
theorem ChS_e {en : Nat → Bool} {E E2 : Nat → Nat → Int32} {nc : Nat} (hE : ∀ m k, m < 12 → 1 ≤ k → k ≤ 6 → E m k = E2 m k) : ∀ r n i lf cl (sg : List Int32), n + r ≤ 12 → ChS tc tv od f en E nc r n i lf cl sg → ChS tc tv od f en E2 nc r n i lf cl sg := by
  intro r
  induction r with
  | zero => intro n i lf cl sg _ h; exact h.elim
  | succ r ih =>
    intro n i lf cl sg hr h
    obtain ⟨j, l1, s1, s2, q1, q2, q3, q4⟩ := h
    refine ⟨j, l1, s1, s2, q1, ClS_e (fun k a b => hE n k (by omega) a b) q2, q3, ?_⟩
    rcases q4 with q | ⟨a, b, d⟩
    · exact Or.inl q
    · exact Or.inr ⟨a, b, ih _ _ _ _ _ (by omega) d⟩
end PLN
section NWS
variable {g : Gl} {M : Mem}
/-- n cells were made behind M, for the object at a: their kinds; the object's numbers and references; nothing else changed -/
def NwS (M : Mem) (a n s : Nat) (tl : Nat → Nat × Nat) (F : Nat → Int32) (G : Nat → Option Nat) (W : Mem) : Prop :=
  (mZ W = mZ M + n ∧ mL W = mL M + s) ∧ (∀ x, x ≠ a → x < mZ M ∨ mZ M + n ≤ x → mT W x = mT M x ∧ mI W x = mI M x ∧ mJ W x = mJ M x ∧ mR W x = mR M x) ∧ (∀ i, i < n → mT W (mZ M + i) = tl i ∧ mI W (mZ M + i) = (fun _ => 0) ∧ mJ W (mZ M + i) = (fun _ => 0)) ∧ mT W a = mT M a ∧ mI W a = F ∧ mJ W a = mJ M a ∧ mR W a = G
theorem NwS.zero {a : Nat} : NwS M a 0 0 (fun _ => (0, 0)) (mI M a) (mR M a) M := ⟨⟨rfl, rfl⟩, fun _ _ _ => ⟨rfl, rfl, rfl, rfl⟩, fun i hi => absurd hi (Nat.not_lt_zero i), rfl, rfl, rfl, rfl⟩
theorem NwS.int {a n s k : Nat} {tl : Nat → Nat × Nat} {F : Nat → Int32} {G : Nat → Option Nat} {W : Mem} {v : Int32} (ha : a < mZ M) (h : NwS M a n s tl F G W) : NwS M a n s tl (up1 F k v) G (sI W a k v) := by
  obtain ⟨h1, h2, h3, h4, h5, h6, h7⟩ := h
  refine ⟨h1, fun x q1 q2 => ?_, fun i hi => ?_, h4, ?_, h6, h7⟩
  · obtain ⟨a1, a2, a3, a4⟩ := h2 x q1 q2
    exact ⟨a1, (up2_o q1).trans a2, a3, a4⟩
  · obtain ⟨a1, a2, a3⟩ := h3 i hi
    exact ⟨a1, (up2_o (by omega)).trans a2, a3⟩
  · show up2 (mI W) a k v a = _
    rw [up2_up1, up1_eq, h5]
theorem NwS.arr {a n s k κ len : Nat} {tl : Nat → Nat × Nat} {F : Nat → Int32} {G : Nat → Option Nat} {W : Mem} (ha : a < mZ M) (h : NwS M a n s tl F G W) : NwS M a (n + 1) (s + len) (up1 tl n (κ, len)) F (up1 G k (some (mZ M + n))) (sR (mNew W κ len len) a k (some (mZ W))) := by
  obtain ⟨⟨z1, z2⟩, h2, h3, h4, h5, h6, h7⟩ := h
  have eT : mT (sR (mNew W κ len len) a k (some (mZ W))) = up1 (mT W) (mZ W) (κ, len) := rfl
  have eI : mI (sR (mNew W κ len len) a k (some (mZ W))) = up1 (mI W) (mZ W) (fun _ => 0) := rfl
  have eJ : mJ (sR (mNew W κ len len) a k (some (mZ W))) = up1 (mJ W) (mZ W) (fun _ => 0) := rfl
  have eR : mR (sR (mNew W κ len len) a k (some (mZ W))) = up2 (up1 (mR W) (mZ W) (fun _ => none)) a k (some (mZ W)) := rfl
  refine ⟨⟨?_, ?_⟩, fun x q1 q2 => ?_, fun i hi => ?_, ?_, ?_, ?_, ?_⟩
  · show mZ W + 1 = mZ M + (n + 1)
    omega
  · show mL W + len = mL M + (s + len)
    omega
  · rw [eT, eI, eJ, eR, up1_ne (by omega), up1_ne (by omega), up1_ne (by omega), up2_o q1, up1_ne (by omega)]
    exact h2 x q1 (by omega)
  · rw [eT, eI, eJ]
    by_cases e : i = n
    · subst e
      rw [← z1, up1_eq, up1_eq, up1_eq, up1_eq]
      exact ⟨rfl, rfl, rfl⟩
    · have hx : mZ M + i ≠ mZ W := by omega
      rw [up1_ne hx, up1_ne hx, up1_ne hx, up1_ne e]
      exact h3 i (by omega)
  · rw [eT, up1_ne (by omega)]; exact h4
  · rw [eI, up1_ne (by omega)]; exact h5
  · rw [eJ, up1_ne (by omega)]; exact h6
  · rw [eR, up2_up1, up1_eq, up1_ne (by omega), h7, z1]
theorem c_PrInit {a cn : Nat} (ha : a < mZ M) (ht : mT M a = (4, 0)) (hcn : cn ≤ 1024) : Cv g Y_Pr_init 1 [.ref a, .int (nI cn)] M (fun M2 => ∃ F G, NwS M a 7 (72 + cn) (fun i => if i < 6 then (20, 12) else (20, cn)) F G M2 ∧ F 0 = nI 0 ∧ F 8 = nI 0 ∧ ∀ k, 1 ≤ k → k ≤ 7 → G k = some (mZ M + (k - 1))) := by
  have n0 := NwS.zero (M := M) (a := a)
  refine cw_entry 0 pf_Pr_init rfl ?_
  refine wp_aload_n rfl (ck_get kk_Pr_init 0 rfl) ?_
  refine wp_objInit (ck_get kk_Pr_init 1 rfl) ol_Pr_3 oi_ok (by omega) (Nat.le_of_ble_eq_true rfl) ?_
  refine wp_aload_n rfl (ck_get kk_Pr_init 2 rfl) ?_
  refine wp_iconst (v := nI 0) (by decide) (ck_get kk_Pr_init 3 rfl) ?_
  refine wp_putI (ck_get kk_Pr_init 4 rfl) fl_Pr_9 (by decide +kernel) (by assumption) (okI_int _) ?_
  have n1 := n0.int (k := 0) (v := nI 0) ha
  generalize sI M a 0 (nI 0) = W1 at n1 ⊢
  have t1 : mT W1 a = (4, 0) := n1.2.2.2.1.trans ht
  have u1 : mT (mNew W1 20 12 12) a = (4, 0) := (up1_ne (by have := n1.1.1; omega)).trans t1
  refine wp_aload_n rfl (ck_get kk_Pr_init 5 rfl) ?_
  refine wp_bipush (v := nI 12) (by decide) (ck_get kk_Pr_init 6 rfl) ?_
  refine wp_newarr (κ := 20) (len := 12) (ck_get kk_Pr_init 7 rfl) rfl ac_int (by decide) rfl (by decide) ?_
  refine wp_putR (ck_get kk_Pr_init 8 rfl) fl_Pr_15 (by decide +kernel) (by assumption) ?_
  have n2 := n1.arr (κ := 20) (len := 12) (k := 1) ha
  generalize sR (mNew W1 20 12 12) a 1 (some (mZ W1)) = W2 at n2 ⊢
  have t2 : mT W2 a = (4, 0) := n2.2.2.2.1.trans ht
  have u2 : mT (mNew W2 20 12 12) a = (4, 0) := (up1_ne (by have := n2.1.1; omega)).trans t2
  refine wp_aload_n rfl (ck_get kk_Pr_init 9 rfl) ?_
  refine wp_bipush (v := nI 12) (by decide) (ck_get kk_Pr_init 10 rfl) ?_
  refine wp_newarr (κ := 20) (len := 12) (ck_get kk_Pr_init 11 rfl) rfl ac_int (by decide) rfl (by decide) ?_
  refine wp_putR (ck_get kk_Pr_init 12 rfl) fl_Pr_19 (by decide +kernel) (by assumption) ?_
  have n3 := n2.arr (κ := 20) (len := 12) (k := 2) ha
  generalize sR (mNew W2 20 12 12) a 2 (some (mZ W2)) = W3 at n3 ⊢
  have t3 : mT W3 a = (4, 0) := n3.2.2.2.1.trans ht
  have u3 : mT (mNew W3 20 12 12) a = (4, 0) := (up1_ne (by have := n3.1.1; omega)).trans t3
  refine wp_aload_n rfl (ck_get kk_Pr_init 13 rfl) ?_
  refine wp_bipush (v := nI 12) (by decide) (ck_get kk_Pr_init 14 rfl) ?_
  refine wp_newarr (κ := 20) (len := 12) (ck_get kk_Pr_init 15 rfl) rfl ac_int (by decide) rfl (by decide) ?_
  refine wp_putR (ck_get kk_Pr_init 16 rfl) fl_Pr_22 (by decide +kernel) (by assumption) ?_
  have n4 := n3.arr (κ := 20) (len := 12) (k := 3) ha
  generalize sR (mNew W3 20 12 12) a 3 (some (mZ W3)) = W4 at n4 ⊢
  have t4 : mT W4 a = (4, 0) := n4.2.2.2.1.trans ht
  have u4 : mT (mNew W4 20 12 12) a = (4, 0) := (up1_ne (by have := n4.1.1; omega)).trans t4
  refine wp_aload_n rfl (ck_get kk_Pr_init 17 rfl) ?_
  refine wp_bipush (v := nI 12) (by decide) (ck_get kk_Pr_init 18 rfl) ?_
  refine wp_newarr (κ := 20) (len := 12) (ck_get kk_Pr_init 19 rfl) rfl ac_int (by decide) rfl (by decide) ?_
  refine wp_putR (ck_get kk_Pr_init 20 rfl) fl_Pr_25 (by decide +kernel) (by assumption) ?_
  have n5 := n4.arr (κ := 20) (len := 12) (k := 4) ha
  generalize sR (mNew W4 20 12 12) a 4 (some (mZ W4)) = W5 at n5 ⊢
  have t5 : mT W5 a = (4, 0) := n5.2.2.2.1.trans ht
  have u5 : mT (mNew W5 20 12 12) a = (4, 0) := (up1_ne (by have := n5.1.1; omega)).trans t5
  refine wp_aload_n rfl (ck_get kk_Pr_init 21 rfl) ?_
  refine wp_bipush (v := nI 12) (by decide) (ck_get kk_Pr_init 22 rfl) ?_
  refine wp_newarr (κ := 20) (len := 12) (ck_get kk_Pr_init 23 rfl) rfl ac_int (by decide) rfl (by decide) ?_
  refine wp_putR (ck_get kk_Pr_init 24 rfl) fl_Pr_28 (by decide +kernel) (by assumption) ?_
  have n6 := n5.arr (κ := 20) (len := 12) (k := 5) ha
  generalize sR (mNew W5 20 12 12) a 5 (some (mZ W5)) = W6 at n6 ⊢
  have t6 : mT W6 a = (4, 0) := n6.2.2.2.1.trans ht
  have u6 : mT (mNew W6 20 12 12) a = (4, 0) := (up1_ne (by have := n6.1.1; omega)).trans t6
  refine wp_aload_n rfl (ck_get kk_Pr_init 25 rfl) ?_
  refine wp_bipush (v := nI 12) (by decide) (ck_get kk_Pr_init 26 rfl) ?_
  refine wp_newarr (κ := 20) (len := 12) (ck_get kk_Pr_init 27 rfl) rfl ac_int (by decide) rfl (by decide) ?_
  refine wp_putR (ck_get kk_Pr_init 28 rfl) fl_Pr_31 (by decide +kernel) (by assumption) ?_
  have n7 := n6.arr (κ := 20) (len := 12) (k := 6) ha
  generalize sR (mNew W6 20 12 12) a 6 (some (mZ W6)) = W7 at n7 ⊢
  have t7 : mT W7 a = (4, 0) := n7.2.2.2.1.trans ht
  refine wp_aload_n rfl (ck_get kk_Pr_init 29 rfl) ?_
  refine wp_iconst (v := nI 0) (by decide) (ck_get kk_Pr_init 30 rfl) ?_
  refine wp_putI (ck_get kk_Pr_init 31 rfl) fl_Pr_34 (by decide +kernel) (by assumption) (okI_int _) ?_
  have n8 := n7.int (k := 8) (v := nI 0) ha
  generalize sI W7 a 8 (nI 0) = W8 at n8 ⊢
  have t8 : mT W8 a = (4, 0) := n8.2.2.2.1.trans ht
  have u8 : mT (mNew W8 20 cn cn) a = (4, 0) := (up1_ne (by have := n8.1.1; omega)).trans t8
  refine wp_aload_n rfl (ck_get kk_Pr_init 32 rfl) ?_
  refine wp_iload_n rfl (ck_get kk_Pr_init 33 rfl) ?_
  refine wp_iconst (v := nI 0) (by decide) (ck_get kk_Pr_init 34 rfl) ?_
  refine wp_cS2i (ck_get kk_Pr_init 35 rfl) ml_Pr_37 (by omega) (Nat.le_of_ble_eq_true rfl) (Ci.to (c_max (a := cn) (b := 0) (by omega) (by omega)) ?_)
  rintro _ M1 ⟨rfl, eqm1⟩
  obtain rfl := eqm1.symm
  rw [show max cn 0 = cn by omega]
  refine wp_newarr (κ := 20) (ck_get kk_Pr_init 36 rfl) rfl ac_int (nI_pos (by omega)) (nI_clamp (by omega)) (by show cn * 4 ≤ 536870912; omega) ?_
  refine wp_putR (ck_get kk_Pr_init 37 rfl) fl_Pr_43 (by decide +kernel) (by assumption) ?_
  refine wp_return (ck_get kk_Pr_init 38 rfl) rfl ⟨rfl, ?_⟩
  have n9 := n8.arr (κ := 20) (len := cn) (k := 7) ha
  obtain ⟨q1, q2, q3, q4⟩ := n9
  have q5 : ∀ i, i < 7 → mT (sR (mNew W8 20 cn cn) a 7 (some (mZ W8))) (mZ M + i) = (if i < 6 then (20, 12) else (20, cn)) ∧ mI (sR (mNew W8 20 cn cn) a 7 (some (mZ W8))) (mZ M + i) = (fun _ => 0) ∧ mJ (sR (mNew W8 20 cn cn) a 7 (some (mZ W8))) (mZ M + i) = (fun _ => 0) := fun i hi => by
    have hq := q3 i hi
    rcases (show i = 0 ∨ i = 1 ∨ i = 2 ∨ i = 3 ∨ i = 4 ∨ i = 5 ∨ i = 6 by omega) with rfl | rfl | rfl | rfl | rfl | rfl | rfl <;> exact hq
  refine ⟨_, _, ⟨⟨q1.1, q1.2.trans (by omega)⟩, q2, q5, q4⟩, ?_, ?_, ?_⟩
  · simp [up1]
  · simp [up1]
  · intro k k1 k2
    rcases (show k = 1 ∨ k = 2 ∨ k = 3 ∨ k = 4 ∨ k = 5 ∨ k = 6 ∨ k = 7 by omega) with rfl | rfl | rfl | rfl | rfl | rfl | rfl <;> simp [up1]
end NWS

/-! ===== the model's orders, clause by clause ===== -/
section MOR
variable {g : Gl} {M : Mem} {o ge bs N : Nat} {K0 : Nat → Int32} {tc tv : Nat → Nat} {C : Nat → Int32} {cn : Nat} {f : Nat} {p : Nat × UF} {res : (Nat → Int32) → Int32 × Int32} {md salt B : Nat}
theorem oR_ok (hR : ResOK res) {e : Nat → Int32} (hk : (e 1).toNatClampNeg < 4) : ∀ (d : Nat) (s s2 : OS) (B : Nat), OOK s B → B + 3168 * d < 2147483648 → oR res md salt C cn e d s = some s2 → OOK s2 (B + 3168 * d) := by
  intro d
  induction d with
  | zero =>
    intro s s2 B h hB h1
    obtain rfl := Option.some.inj h1
    rw [Nat.mul_zero, Nat.add_zero]; exact h
  | succ d ih =>
    intro s s2 B h hB h1
    have h2 : (o1 res md salt C cn s e).bind (oR res md salt C cn e d) = some s2 := h1
    obtain ⟨s3, h3, h4⟩ := Option.bind_eq_some_iff.mp h2
    have := ih s3 s2 (B + 3168) (o1_ok hR hk h (by omega) h3).1 (by omega) h4
    rw [show B + 3168 * (d + 1) = B + 3168 + 3168 * d by omega]; exact this
theorem OOK.le {s : OS} {B B2 : Nat} (h : OOK s B) (hB : B ≤ B2) : OOK s B2 := ⟨h.1, Nat.le_trans h.2.1 hB, fun x hx => ⟨(h.2.2.1 x hx).1, (h.2.2.1 x hx).2.1, Nat.le_trans (h.2.2.1 x hx).2.2 hB⟩, Nat.le_trans h.2.2.2.1 hB, h.2.2.2.2⟩
theorem oAll_no {E : Nat → Nat → Int32} {k n : Nat} {s : OS} (h : oR res md salt C cn (E n) (E n 2).toNatClampNeg s = none) : oAll res md salt C cn E (k + 1) n s = .inr n := by
  unfold oAll; rw [h]
theorem oAll_go {E : Nat → Nat → Int32} {k n : Nat} {s s2 : OS} (h : oR res md salt C cn (E n) (E n 2).toNatClampNeg s = some s2) : oAll res md salt C cn E (k + 1) n s = oAll res md salt C cn E k (n + 1) s2 := by
  rw [oAll, h]
theorem OrS_kd {e : Nat → Int32} {i lf cl j1 lf1 : Nat} {s1 : List Int32} (hO : OrS tc tv true f e i lf cl j1 lf1 s1) : (e 1).toNatClampNeg < 4 ∧ tc i ≠ 0 := by
  rcases hO with ⟨⟨h, h1⟩ | ⟨h, h1⟩, -⟩ | ⟨h, h1, -⟩ | ⟨h, h1, -⟩
  all_goals (rw [h1, nI_clamp (by omega)]; omega)
theorem ch_lt {E : Nat → Nat → Int32} {nc : Nat} {en : Nat → Bool} : ∀ (r : Nat) {n i lf cl : Nat} {sg : List Int32}, ChS tc tv true f en E nc r (n + 1) i lf cl sg → n < nc := by
  intro r
  induction r with
  | zero => intro n i lf cl sg h; exact h.elim
  | succ r ih =>
    intro n i lf cl sg h
    obtain ⟨j, lf1, s1, s2, hp1, hCl, rfl, hnx⟩ := h
    rcases hnx with ⟨-, -, h3⟩ | ⟨h1, h2, h3⟩
    · omega
    · have := ih h3; omega
theorem l_orders {E : Nat → Nat → Int32} {nc : Nat} {en : Nat → Bool} {R : OS ⊕ Nat} {F0 : Nat → Int32} {x1 : Option Value} (hM : MoAt (mT M) (mR M) o) (hK : TkO K0 ge bs N tc tv) (hN : MoN K0 res md salt) (hcn2 : cn ≤ 1024) (hen : ∀ j, en j = true ↔ ¬ j < N) (hB : B + 63360 * 13 < 2147483648) (hp : UOK p.1 p.2 B) {Q : Option Value → Mem → Prop}
    (H1 : ∀ (s2 : OS) (W2 : Mem) (v : Int32) (x3 : Option Value), R = .inl s2 → MoO M o K0 (up1 F0 55 v) p s2 W2 → Wp g Y_Mo_orders 240 156 [some (.ref o), x1, some (.int (nI ge)), x3] [] W2 Q)
    (H2 : ∀ (n2 : Nat) (s2 : OS) (W2 : Mem) (v : Int32), R = .inr n2 → n2 < nc → MoO M o K0 (up1 F0 55 v) p s2 W2 → Wp g Y_Mo_orders 240 108 [some (.ref o), x1, some (.int (nI ge)), some (.int (nI n2))] [] W2 Q) :
    ∀ (r n i lf cl : Nat) (sg : List Int32) (s : OS) (W : Mem), ChS tc tv true f en E nc r n i lf cl sg → n + r ≤ 12 → Hd C cl sg → cl + sg.length ≤ cn → lf ≤ 50 → MoO M o K0 (up1 F0 55 (nI (bs + i))) p s W → OOK s (B + 63360 * n) → oAll res md salt C cn E (nc - n) n s = R → Wp g Y_Mo_orders 240 89 [some (.ref o), x1, some (.int (nI ge)), some (.int (nI n))] [] W Q := by
  have to0 := hM.1
  intro r
  induction r with
  | zero => intro n i lf cl sg s W h; exact h.elim
  | succ r ih =>
    intro n i lf cl sg s W h hr hC hcl hl hs hok hR
    have hnc : n < nc := by
      obtain ⟨j, lf1, s1, s2, hp1, hCl, rfl, hnx⟩ := h
      rcases hnx with ⟨-, -, h3⟩ | ⟨h1, h2, h3⟩
      · omega
      · exact ch_lt r h3
    obtain ⟨j, lf1, s1, s2, hp1, hCl, rfl, hnx⟩ := h
    rw [List.length_append] at hcl
    unfold ClS at hCl
    rw [if_pos rfl] at hCl
    obtain ⟨j1, lf2, s3, s4, hO, hCn, rfl⟩ := hCl
    obtain ⟨hkd, htc⟩ := OrS_kd hO
    obtain ⟨b1, b2, b3, b4, b5⟩ := hK
    have hiN : i < N := b4 i htc
    obtain ⟨p1, p2, p3⟩ := p1F_ok (N := N) b4 hp1 (by omega) hl
    have toW : mT W o = (11, 0) := by rw [hs.T.1]; exact to0
    have hp2 : UOK p.1 p.2 (B + 63360 * n) := ⟨hp.1, fun i hi => ⟨(hp.2 i hi).1, (hp.2 i hi).2.1, by have := (hp.2 i hi).2.2; omega⟩⟩
    have hrun := m_runs (g := g) (ge := ge) (bs := bs) hM ⟨b1, b2, b3, b4, b5⟩ hN (by rw [up1_eq]) hO hCn hC.l (by omega) hcn2 (by omega) hl (by omega) hp2 hs hok
    have h55 : mI W o 55 = nI (bs + i) := by rw [hs.fd (by omega) (by omega) (by omega) (by omega), up1_eq]
    rw [show nc - n = (nc - (n + 1)) + 1 by omega] at hR
    refine wp_aload_n rfl (ck_get kk_Mo_orders 49 rfl) ?_
    refine wp_getIv (v := nI (bs + i)) (ck_get kk_Mo_orders 50 rfl) fl_Mo_515 (by assumption) (h55) ?_
    refine wp_iload_n rfl (ck_get kk_Mo_orders 51 rfl) ?_
    first | refine wp_icmp_geN (t := 156) (ck_get kk_Mo_orders 52 rfl) (by decide) (by omega) (by omega) (fun hc94 => ?_) (fun hc94 => ?_) | refine wp_icmp_ge (t := 156) (ck_get kk_Mo_orders 52 rfl) (by decide) (fun hc94 => ?_) (fun hc94 => ?_)
    · omega
    · refine wp_aload_n rfl (ck_get kk_Mo_orders 53 rfl) ?_
      refine wp_iload_n rfl (ck_get kk_Mo_orders 54 rfl) ?_
      refine wp_cV1i (ck_get kk_Mo_orders 55 rfl) ml_Mo_518 (by omega) (Nat.le_of_ble_eq_true rfl) (by assumption) (Ci.to (hrun) ?_)
      rintro x₁ M₁ hQ
      obtain ⟨htm, hQ⟩ := hQ
      rcases hQ with ⟨q1, rfl, s5, q3⟩ | ⟨s5, q1, rfl, q3⟩
      · have hR2 : R = .inr n := by rw [← hR, oAll_no q1]
        first | refine wp_if_eqN (t := 108) (ck_get kk_Mo_orders 56 rfl) (by decide) (by omega) (fun hc102 => ?_) (fun hc102 => ?_) | refine wp_if_eq (t := 108) (ck_get kk_Mo_orders 56 rfl) (by decide) (fun hc102 => ?_) (fun hc102 => ?_)
        · exact H2 n s5 M₁ _ hR2 hnc q3
        · exact absurd rfl hc102
      · rw [oAll_go q1] at hR
        rw [up1_up1] at q3
        have hok2 : OOK s5 (B + 63360 * (n + 1)) := (oR_ok hN.2.2.2.ok hkd _ s s5 _ hok (by omega) q1).le (by omega)
        have toW1 : mT M₁ o = (11, 0) := by rw [q3.T.1]; exact to0
        have h551 : mI M₁ o 55 = nI (bs + (j + 1)) := by rw [q3.fd (by omega) (by omega) (by omega) (by omega), up1_eq]
        first | refine wp_if_eqN (t := 108) (ck_get kk_Mo_orders 56 rfl) (by decide) (by omega) (fun hc102 => ?_) (fun hc102 => ?_) | refine wp_if_eq (t := 108) (ck_get kk_Mo_orders 56 rfl) (by decide) (fun hc102 => ?_) (fun hc102 => ?_)
        · exact absurd hc102 (by decide)
        · refine wp_goto (t := 150) (ck_get kk_Mo_orders 57 rfl) (by decide) ?_
          first | refine wp_iincN (ck_get kk_Mo_orders 81 rfl) rfl (by decide) rfl ?_ | refine wp_iinc (ck_get kk_Mo_orders 81 rfl) rfl (by decide) rfl ?_
          refine wp_goto (t := 89) (ck_get kk_Mo_orders 82 rfl) (by decide) ?_
          rcases hnx with ⟨h1, h2, h3⟩ | ⟨h1, h2, h3⟩
          · have hjN := (hen j).mp h1
            rw [show nc - (n + 1) = 0 by omega] at hR
            refine wp_aload_n rfl (ck_get kk_Mo_orders 49 rfl) ?_
            refine wp_getIv (v := nI (bs + (j + 1))) (ck_get kk_Mo_orders 50 rfl) fl_Mo_515 (by assumption) (h551) ?_
            refine wp_iload_n rfl (ck_get kk_Mo_orders 51 rfl) ?_
            first | refine wp_icmp_geN (t := 156) (ck_get kk_Mo_orders 52 rfl) (by decide) (by omega) (by omega) (fun hc94 => ?_) (fun hc94 => ?_) | refine wp_icmp_ge (t := 156) (ck_get kk_Mo_orders 52 rfl) (by decide) (fun hc94 => ?_) (fun hc94 => ?_)
            · exact H1 s5 M₁ _ _ hR.symm q3
            · omega
          · exact ih (n + 1) (j + 1) lf1 _ s2 s5 M₁ h3 (by omega) hC.r (by omega) p3 q3 hok2 hR
end MOR

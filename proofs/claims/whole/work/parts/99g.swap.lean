/-! ===== worlds change places between both trails ===== -/
section SWP
variable {T : Nat → Nat × Nat} {R R2 : Nat → Nat → Option Nat} {pf pg : Nat → Nat}
theorem TeAt.rk {a : Nat} (h : TeAt T R a) (hr : R2 a = R a) : TeAt T R2 a := by
  unfold TeAt at h ⊢
  rw [hr]; exact h
theorem WoAt.rk {w : Nat} (h : WoAt T R w) (hr : ∀ x, w ≤ x → x < w + 26 → R2 x = R x) : WoAt T R2 w := by
  obtain ⟨h1, h2, h3, h4⟩ := h
  refine ⟨h1, by rw [hr w (by omega) (by omega)]; exact h2, h3, fun t ht => ⟨by rw [hr (w + 1) (by omega) (by omega)]; exact (h4 t ht).1, (h4 t ht).2.rk (hr _ (by omega) (by omega))⟩⟩
theorem ShAt.rk {a : Nat} (h : ShAt T R a) (hr : ∀ x, a ≤ x → x < a + 30 → R2 x = R x) : ShAt T R2 a := by
  obtain ⟨h1, h2, h3, h4⟩ := h
  refine ⟨h1, by rw [hr a (by omega) (by omega)]; exact h2, h3.rk (fun x q1 q2 => hr x (by omega) (by omega)), ?_⟩
  rw [hr a (by omega) (by omega)]; exact h4
theorem PfOK.swap {s r : Nat} (hs : s < 16) (hr : r < 16) (h : PfOK pf pg) : PfOK (up1 pf s (pg r)) (up1 pg r (pf s)) := by
  obtain ⟨h1, h2, h3, h4⟩ := h
  refine ⟨fun q hq => ⟨?_, ?_⟩, fun q v hq hv e => ?_, fun q v hq hv e => ?_, fun q v hq hv e => ?_⟩
  · unfold up1
    split
    · exact (h1 r hr).2
    · exact (h1 q hq).1
  · unfold up1
    split
    · exact (h1 s hs).1
    · exact (h1 q hq).2
  · unfold up1 at e
    by_cases c1 : q = s
    · by_cases c2 : v = s
      · omega
      · rw [if_pos c1, if_neg c2] at e; exact absurd e.symm (h4 v r hv hr)
    · by_cases c2 : v = s
      · rw [if_neg c1, if_pos c2] at e; exact absurd e (h4 q r hq hr)
      · rw [if_neg c1, if_neg c2] at e; exact h2 q v hq hv e
  · unfold up1 at e
    by_cases c1 : q = r
    · by_cases c2 : v = r
      · omega
      · rw [if_pos c1, if_neg c2] at e; exact absurd e (h4 s v hs hv)
    · by_cases c2 : v = r
      · rw [if_neg c1, if_pos c2] at e; exact absurd e.symm (h4 s q hs hq)
      · rw [if_neg c1, if_neg c2] at e; exact h3 q v hq hv e
  · unfold up1 at e
    by_cases c1 : q = s
    · by_cases c2 : v = r
      · rw [if_pos c1, if_pos c2] at e; exact h4 s r hs hr e.symm
      · rw [if_pos c1, if_neg c2] at e; exact c2 (h3 v r hv hr e.symm)
    · by_cases c2 : v = r
      · rw [if_neg c1, if_pos c2] at e; exact c1 (h2 q s hq hs e)
      · rw [if_neg c1, if_neg c2] at e; exact h4 q v hq hv e
theorem LayC.swap {s r : Nat} (hs : s < 16) (hr : r < 16) (h : LayC T R pf pg) : LayC T (up2 (up2 R 32 s (some (slA (pg r)))) 451 r (some (slA (pf s)))) (up1 pf s (pg r)) (up1 pg r (pf s)) := by
  obtain ⟨t0, ⟨a1, a2⟩, ⟨b1, b2⟩, ⟨c1, c2⟩, ⟨d1, d2⟩, ⟨e1, e2⟩, ⟨f1, f2, f3, f4, f5, f6⟩, ⟨g1, g2⟩, ⟨i1, i2⟩, ⟨j1, j2⟩, ⟨k1, k2⟩, ⟨l1, l2⟩, ⟨m1, m2⟩, ⟨n1, n2⟩, ⟨o1, o2⟩, hPf⟩ := h
  have hx : ∀ x, x ≠ 32 → x ≠ 451 → up2 (up2 R 32 s (some (slA (pg r)))) 451 r (some (slA (pf s))) x = R x := fun x q1 q2 => by
    rw [up2_up1, up1_ne q2, up2_up1, up1_ne q1]
  have h32 : ∀ q, up2 (up2 R 32 s (some (slA (pg r)))) 451 r (some (slA (pf s))) 32 q = up1 (R 32) s (some (slA (pg r))) q := fun q => by
    rw [up2_up1, up1_ne (by omega), up2_up1, up1_eq]
  have h451 : ∀ q, up2 (up2 R 32 s (some (slA (pg r)))) 451 r (some (slA (pf s))) 451 q = up1 (R 451) r (some (slA (pf s))) q := fun q => by
    have z : up2 R 32 s (some (slA (pg r))) 451 = R 451 := by rw [up2_up1, up1_ne (by omega)]
    rw [up2_up1, up1_eq, z]
  generalize up2 (up2 R 32 s (some (slA (pg r)))) 451 r (some (slA (pf s))) = R2 at hx h32 h451
  have hwo : ∀ i, i < 32 → WoAt T R (slA i) → WoAt T R2 (slA i) := fun i hi h => h.rk (fun x q1 q2 => by have := slA_lt hi; exact hx x (by omega) (by omega))
  have h0 := hx 0 (by omega) (by omega)
  obtain ⟨b21, b22, b23, b24, b25, b26⟩ := b2
  obtain ⟨c21, c22, c23, c24, c25, c26⟩ := c2
  refine ⟨t0, ⟨by rw [h0]; exact a1, a2.rk (fun x q1 q2 => hx x (by omega) (by omega))⟩, ⟨by rw [h0]; exact b1, b21, by rw [hx 31 (by omega) (by omega)]; exact b22, b23, by rw [hx 31 (by omega) (by omega)]; exact b24, b25, fun q hq => ?_⟩, ⟨by rw [h0]; exact c1, c21, by rw [hx 450 (by omega) (by omega)]; exact c22, c23, by rw [hx 450 (by omega) (by omega)]; exact c24, c25, fun q hq => ?_⟩, ⟨by rw [h0]; exact d1, d2.rk (fun x q1 q2 => hx x (by omega) (by omega))⟩, ⟨by rw [h0]; exact e1, e2.rk (fun x q1 q2 => hx x (by omega) (by omega))⟩, ⟨by rw [h0]; exact f1, f2, by rw [hx 921 (by omega) (by omega)]; exact f3, by rw [hx 921 (by omega) (by omega)]; exact f4, f5.rk (fun x q1 q2 => hx x (by omega) (by omega)), f6.rk (fun x q1 q2 => hx x (by omega) (by omega))⟩, ⟨by rw [h0]; exact g1, g2⟩, ⟨by rw [h0]; exact i1, i2⟩, ⟨by rw [h0]; exact j1, ?_⟩, ⟨by rw [h0]; exact k1, ?_⟩, ⟨by rw [h0]; exact l1, ?_⟩, ⟨by rw [h0]; exact m1, ?_⟩, ⟨by rw [h0]; exact n1, ?_⟩, ⟨by rw [h0]; exact o1, o2⟩, hPf.swap hs hr⟩
  · show R2 32 q = some (slA (up1 pf s (pg r) q)) ∧ WoAt T R2 (slA (up1 pf s (pg r) q))
    rw [h32]
    by_cases c : q = s
    · subst c; rw [up1_eq, up1_eq]; exact ⟨rfl, hwo _ (hPf.1 r hr).2 (c26 r hr).2⟩
    · rw [up1_ne c, up1_ne c]; exact ⟨(b26 q hq).1, hwo _ (hPf.1 q hq).1 (b26 q hq).2⟩
  · show R2 451 q = some (slA (up1 pg r (pf s) q)) ∧ WoAt T R2 (slA (up1 pg r (pf s) q))
    rw [h451]
    by_cases c : q = r
    · subst c; rw [up1_eq, up1_eq]; exact ⟨rfl, hwo _ (hPf.1 s hs).1 (b26 s hs).2⟩
    · rw [up1_ne c, up1_ne c]; exact ⟨(c26 q hq).1, hwo _ (hPf.1 q hq).2 (c26 q hq).2⟩
  · unfold PaA0 PrAt at j2 ⊢
    rw [hx 924 (by omega) (by omega), hx (924 + 1) (by omega) (by omega)]; exact j2
  · unfold JuAt at k2 ⊢
    rw [hx 934 (by omega) (by omega)]; exact k2
  · unfold ReAt at l2 ⊢
    rw [hx 938 (by omega) (by omega)]; exact l2
  · unfold CuAt at m2 ⊢
    rw [hx 947 (by omega) (by omega)]; exact m2
  · unfold DeAt at n2 ⊢
    rw [hx 952 (by omega) (by omega)]; exact n2
end SWP

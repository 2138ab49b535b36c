/-! ===== a read is the same by both ===== -/
theorem stE_V {C : Nat → Int32} {cl : Nat} {V V2 : Nat → Int32} {vl : Nat} {r : Nat → Nat → (Nat → Int64) → Int64} {i sz : Nat} {S : Nat → Int64} (hv : vl < 100) (h : ∀ u, u < vl → V u = V2 u) : stE C cl V vl r i sz S = stE C cl V2 vl r i sz S := by
  unfold stE
  by_cases hb : sz < 64 ∧ inB (C (i + 1)) vl = true
  · obtain ⟨k, hk, e⟩ := inB_t hb.2 (by omega)
    have e2 : V (C (i + 1)).toNatClampNeg = V2 (C (i + 1)).toNatClampNeg := by
      rw [e, nI_clamp (by omega)]; exact h k hk
    rw [e2]
  · rw [if_neg hb, if_neg hb]
theorem evF_V {C : Nat → Int32} {cl : Nat} {V V2 : Nat → Int32} {vl : Nat} (hv : vl < 100) (h : ∀ u, u < vl → V u = V2 u) : ∀ f i sz (S : Nat → Int64), evF C cl V vl f i sz S = evF C cl V2 vl f i sz S
  | 0, _, _, _ => rfl
  | f + 1, i, sz, S => by
    rw [evF_st, evF_st, stE_congr C cl V vl (r2 := evF C cl V2 vl f) (fun j _ sz S => evF_V hv h f j sz S), stE_V hv h]
theorem wgF_V {P : Nat → Nat → Int32} {cl : Nat} {V V2 : Nat → Int32} (h : ∀ u, u < 6 → V u = V2 u) : ∀ n, wgF P cl V n = wgF P cl V2 n
  | 0 => rfl
  | n + 1 => by
    have e : ∀ fr, ev0 (P 7) cl V 6 fr = ev0 (P 7) cl V2 6 fr := fun fr => evF_V (by omega) h _ _ _ _
    rw [wgF, wgF, wgF_V h n]
    simp only [e]
def ResOK (res : (Nat → Int32) → Int32 × Int32) : Prop := (∀ V, ∃ c : Nat, ∃ br : Bool, c ≤ 99 ∧ res V = (nI c, bI br)) ∧ ∀ V V2, (∀ u, u < 6 → V u = V2 u) → res V = res V2
theorem ResOK.no {res : (Nat → Int32) → Int32 × Int32} (h : ∀ V, res V = (nI 1, nI 0)) : ResOK res := ⟨fun V => ⟨1, false, by omega, h V⟩, fun V V2 _ => by rw [h V, h V2]⟩
theorem ResOK.wg {res : (Nat → Int32) → Int32 × Int32} {P : Nat → Nat → Int32} {cn nc : Nat} (h : ∀ V, res V = wgF P cn V nc) : ResOK res := ⟨fun V => by rw [h V]; exact wg_val nc, fun V V2 q => by rw [h V, h V2]; exact wgF_V q nc⟩
theorem TlR.ok {K : Nat → Int32} {res : (Nat → Int32) → Int32 × Int32} (h : TlR K res) : ResOK res := by
  rcases h with ⟨-, h⟩ | ⟨t, R, cn, nc, -, -, -, h⟩
  · exact ResOK.no h
  · exact ResOK.wg h
/-- the words of a read -/
def V0 (ws : WS) (md t k : Nat) : Nat → Int32 := fun i => if i = 0 then nI t else if i = 1 then nI k else if i = 2 then nI (cntL (tRe (ws.2 t)) k) else if i = 3 then nI (posL (tSt (ws.2 t)) k) else if i = 4 then nI ws.1 else nI md
theorem V0_ok {ws : WS} {md t k : Nat} : VOK (V0 ws md t k) t k (cntL (tRe (ws.2 t)) k) (posL (tSt (ws.2 t)) k) ws.1 md := ⟨rfl, rfl, rfl, rfl, rfl, rfl⟩
theorem VOK.eq {V V2 : Nat → Int32} {t k r fr tm md : Nat} (h : VOK V t k r fr tm md) (h2 : VOK V2 t k r fr tm md) : ∀ u, u < 6 → V u = V2 u := by
  obtain ⟨a0, a1, a2, a3, a4, a5⟩ := h
  obtain ⟨b0, b1, b2, b3, b4, b5⟩ := h2
  intro u hu
  rcases (show u = 0 ∨ u = 1 ∨ u = 2 ∨ u = 3 ∨ u = 4 ∨ u = 5 by omega) with rfl | rfl | rfl | rfl | rfl | rfl
  · rw [a0, b0]
  · rw [a1, b1]
  · rw [a2, b2]
  · rw [a3, b3]
  · rw [a4, b4]
  · rw [a5, b5]
section RDA
variable (res : (Nat → Int32) → Int32 × Int32) (md salt : Nat)
def costA (ws : WS) (t k : Nat) : Nat := (res (V0 ws md t k)).1.toNatClampNeg
def barA (ws : WS) (t k : Nat) : Bool := decide ((res (V0 ws md t k)).2 = nI 1)
def rdA (ws : WS) (t k : Nat) : WS := rdW ws t k (costA res md ws t k) salt (barA res md ws t k)
def rxA (ws : WS) (t k : Nat) : Nat := rdX ws t k (barA res md ws t k)
/-- reads of keys one behind the other: how many were cold, the world then -/
def lpA (t : Nat) : Nat → Nat → WS → Nat × WS
  | 0, _, ws => (0, ws)
  | n + 1, k, ws => ((if rxA res md ws t k = 0 then 1 else 0) + (lpA t n (k + 1) (rdA res md salt ws t k)).1, (lpA t n (k + 1) (rdA res md salt ws t k)).2)
end RDA
section RDB
variable {res : (Nat → Int32) → Int32 × Int32} {md salt : Nat}
theorem resV (hR : ResOK res) (ws : WS) (t k : Nat) : res (V0 ws md t k) = (nI (costA res md ws t k), bI (barA res md ws t k)) ∧ costA res md ws t k ≤ 99 := by
  obtain ⟨c, br, hc, e⟩ := hR.1 (V0 ws md t k)
  have e1 : costA res md ws t k = c := by unfold costA; rw [e]; exact nI_clamp (by omega)
  have e2 : barA res md ws t k = br := by
    unfold barA
    rw [e]
    show decide (bI br = nI 1) = br
    cases br <;> decide
  rw [e1, e2]
  exact ⟨e, hc⟩
theorem WOK.rdA {ws : WS} {t k : Nat} (h : WOK ws) (ht : t < 4) (hk : k < 1000) : WOK (rdA res md salt ws t k) := h.rd ht hk
theorem tot_rdA (hR : ResOK res) {ws : WS} {t k : Nat} : tot (rdA res md salt ws t k) ≤ tot ws + 99 := Nat.le_trans tot_rd (by have := (resV (md := md) hR ws t k).2; omega)
theorem lpA_ok (hR : ResOK res) {t : Nat} (ht : t < 4) : ∀ n k (ws : WS), k + n ≤ 1000 → WOK ws → WOK (lpA res md salt t n k ws).2 ∧ tot (lpA res md salt t n k ws).2 ≤ tot ws + 99 * n ∧ (lpA res md salt t n k ws).1 ≤ n
  | 0, _, ws, _, h => ⟨h, Nat.le_refl _, Nat.le_refl _⟩
  | n + 1, k, ws, hk, h => by
    obtain ⟨a1, a2, a3⟩ := lpA_ok hR ht n (k + 1) (rdA res md salt ws t k) (by omega) (h.rdA ht (by omega))
    have := tot_rdA (md := md) (salt := salt) hR (ws := ws) (t := t) (k := k)
    refine ⟨a1, ?_, ?_⟩
    · show tot (lpA res md salt t n (k + 1) (rdA res md salt ws t k)).2 ≤ _
      omega
    · show (if rxA res md ws t k = 0 then 1 else 0) + (lpA res md salt t n (k + 1) (rdA res md salt ws t k)).1 ≤ n + 1
      by_cases h0 : rxA res md ws t k = 0
      · rw [if_pos h0]; omega
      · rw [if_neg h0]; omega
theorem rxA_le {ws : WS} {t k : Nat} (h : WOK ws) (ht : t < 4) : rxA res md ws t k ≤ 24 := by
  unfold rxA rdX
  have := posL_le (L := tSt (ws.2 t)) (k := k)
  have := (h.2 t ht).1
  by_cases hb : barA res md ws t k = true
  · rw [if_pos hb]; omega
  · rw [if_neg hb]; omega
end RDB
section RDC
variable {g : Gl} {M : Mem} {pf pg : Nat → Nat} {res : (Nat → Int32) → Int32 × Int32} {md salt : Nat}
theorem ClL.ok {T : Nat → Nat × Nat} {R : Nat → Nat → Option Nat} {I : Nat → Nat → Int32} {q : Int32} (h : ClL T R I q res) : ResOK res := by
  rcases h with ⟨-, h⟩ | ⟨t, ln, p, cn, nc, -, -, -, -, -, -, h⟩
  · exact ResOK.no h
  · exact ResOK.wg h
theorem ClL.kept {T : Nat → Nat × Nat} {R : Nat → Nat → Option Nat} {I I2 : Nat → Nat → Int32} {q : Int32} (h : ClL T R I q res) (h1 : I2 1 = I 1) (h2 : ∀ x, 1056 ≤ x → I2 x = I x) : ClL T R I2 q res := by
  rcases h with h | ⟨t, ln, p, cn, nc, a1, a2, a3, a4, a5, ⟨hp, cn2, b1, b2, b3, b4, b5, b6⟩, a7⟩
  · exact Or.inl h
  · have e : (fun k => I2 (p + k)) = fun k => I (p + k) := by funext k; rw [h2 _ (by omega)]
    exact Or.inr ⟨t, ln, p, cn, nc, a1, a2, a3, by rw [h1]; exact a4, a5, ⟨hp, cn2, b1, b2, b3, by rw [h2 _ hp]; exact b4, by rw [h2 _ hp]; exact b5, by rw [e]; exact b6⟩, by rw [e]; exact a7⟩
/-- what the class needs ahead of reads: its shop's numbers and law -/
def ShN (T : Nat → Nat × Nat) (R : Nat → Nat → Option Nat) (I : Nat → Nat → Int32) (res : (Nat → Int32) → Int32 × Int32) (md salt : Nat) : Prop := I 1 3 = nI md ∧ I 1 4 = nI salt ∧ salt < 1000 ∧ ClL T R I (I 1 10) res
theorem ShN.kept {T : Nat → Nat × Nat} {R : Nat → Nat → Option Nat} {I I2 : Nat → Nat → Int32} (h : ShN T R I res md salt) (h1 : I2 1 = I 1) (h2 : ∀ x, 1056 ≤ x → I2 x = I x) : ShN T R I2 res md salt := by
  obtain ⟨a1, a2, a3, a4⟩ := h
  unfold ShN
  rw [h1]
  exact ⟨a1, a2, a3, a4.kept h1 h2⟩
theorem c_readA {w t k : Nat} {ws : WS} (hL : LayC (mT M) (mR M) pf pg) (hW : WoAt (mT M) (mR M) w) (hw : w + 26 ≤ 934) (hw1 : 2 ≤ w) (hs : WoHas (mI M) (mJ M) w ws) (hT : WOK ws) (ht : t < 4) (hk : k < 1000) (hN : ShN (mT M) (mR M) (mI M) res md salt) :
    Ci g Y_Mc_readKey 10 [.ref 0, .ref w, .int (nI t), .int (nI k)] M (fun x M2 => x = nI (rxA res md ws t k) ∧ ∃ I2 J2, M2 = mk2 M I2 J2 ∧ WoHas I2 J2 w (rdA res md salt ws t k) ∧ CFr w (mI M) (mJ M) I2 J2) := by
  obtain ⟨a1, a2, a3, a4⟩ := hN
  refine (c_readKey (g := g) hL hW (by omega) hw1 hs hT ht hk a1 a2 a3 a4).to (fun x M2 e => ?_)
  obtain ⟨V, c, br, hV, hres, hc, hx, I2, J2, h1, h2, h3⟩ := e
  have hr := (resV (md := md) a4.ok ws t k).1
  rw [a4.ok.2 (V0 ws md t k) V (V0_ok.eq hV), hres] at hr
  have e1 : c = costA res md ws t k := by
    have := (Prod.ext_iff.mp hr).1
    have hcc := (resV (md := md) a4.ok ws t k).2
    exact (nI_eq (by omega) (by omega)).mp this
  have e2 : br = barA res md ws t k := by
    have h3 : bI br = bI (barA res md ws t k) := (Prod.ext_iff.mp hr).2
    revert h3
    generalize barA res md ws t k = b2
    intro h3
    cases br <;> cases b2 <;> first | rfl | exact absurd h3 (by decide)
  subst e1 e2
  exact ⟨hx, I2, J2, h1, h2, h3⟩
end RDC
section RDM
variable {g : Gl} {M : Mem} {o : Nat} {K A F : Nat → Int32} {P : Nat → Int64} {res : (Nat → Int32) → Int32 × Int32} {md salt : Nat}
/-- what the model needs ahead of reads -/
def MoN (K : Nat → Int32) (res : (Nat → Int32) → Int32 × Int32) (md salt : Nat) : Prop := K 383 = nI md ∧ K 384 = nI salt ∧ (salt < 1000 ∧ md ≤ 9) ∧ TlR K res
theorem MoN.kept {K2 : Nat → Int32} (h : MoN K res md salt) (hK : ∀ x, 369 ≤ x → K2 x = K x) : MoN K2 res md salt := by
  obtain ⟨a1, a2, a3, a4⟩ := h
  exact ⟨by rw [hK _ (by omega)]; exact a1, by rw [hK _ (by omega)]; exact a2, a3, a4.kept hK⟩
theorem m_readA {t k : Nat} {ws : WS} (hM : MoAt (mT M) (mR M) o) (hs : MwHas K P 0 0 ws) (hT : WOK ws) (ht : t < 4) (hk : k < 1000) (hN : MoN K res md salt) (hb : ∃ b, F 27 = bI b) :
    Ci g Y_Mo_readsKey 110 [.ref o, .int (nI t), .int (nI k)] (wkM M o K P A F) (fun x M2 => x = nI (rxA res md ws t k) ∧ ∃ K2 P2 A2 F2, M2 = wkM M o K2 P2 A2 F2 ∧ MwHas K2 P2 0 0 (rdA res md salt ws t k) ∧ (∀ x, 369 ≤ x → K2 x = K x) ∧ FrO F F2) := by
  obtain ⟨a1, a2, a3, a4⟩ := hN
  exact m_readsKey hM hs hT ht hk a1 a3.2 a2 a3.1 a4 V0_ok hb (resV (md := md) a4.ok ws t k).1
/-- the model's loop of reads -/
theorem m_loopA {t to : Nat} (hM : MoAt (mT M) (mR M) o) (ht : t < 4) (hto : to < 1000) {x2 : Option Value} : ∀ (n k cold : Nat) (ws : WS) (K : Nat → Int32) (P : Nat → Int64) (A F : Nat → Int32), k + n = to + 1 → cold + n < 100000 → MwHas K P 0 0 ws → WOK ws → MoN K res md salt → (∃ b, F 27 = bI b) → Wp g Y_Mo_loopsKept 120 46 [some (.ref o), some (.int (nI t)), x2, some (.int (nI to)), some (.int (nI cold)), some (.int (nI k))] [] (wkM M o K P A F) (fun r M2 => ∃ x, r = some (.int x) ∧ x = nI (cold + (lpA res md salt t n k ws).1) ∧ ∃ K2 P2 A2 F2, M2 = wkM M o K2 P2 A2 F2 ∧ MwHas K2 P2 0 0 (lpA res md salt t n k ws).2 ∧ (∀ x, 369 ≤ x → K2 x = K x) ∧ FrO F F2) := by
  have to0 := hM.1
  intro n
  induction n with
  | zero =>
    intro k cold ws K P A F hk hc hs hT hN hb
    refine wp_iload rfl (ck_get kk_Mo_loopsKept 25 rfl) ?_
    refine wp_iload_n rfl (ck_get kk_Mo_loopsKept 26 rfl) ?_
    first | refine wp_icmp_gtN (t := 78) (ck_get kk_Mo_loopsKept 27 rfl) (by decide) (by omega) (by omega) (fun hc49 => ?_) (fun hc49 => ?_) | refine wp_icmp_gt (t := 78) (ck_get kk_Mo_loopsKept 27 rfl) (by decide) (fun hc49 => ?_) (fun hc49 => ?_)
    · refine wp_iload rfl (ck_get kk_Mo_loopsKept 41 rfl) ?_
      refine wp_ireturn (ck_get kk_Mo_loopsKept 42 rfl) rfl rfl ⟨_, rfl, ?_⟩
      exact ⟨rfl, K, P, A, F, rfl, hs, fun _ _ => rfl, fun _ _ => rfl, hb⟩
    · omega
  | succ n ih =>
    intro k cold ws K P A F hk hc hs hT hN hb
    have hrx := rxA_le (res := res) (md := md) (k := k) hT ht
    refine wp_iload rfl (ck_get kk_Mo_loopsKept 25 rfl) ?_
    refine wp_iload_n rfl (ck_get kk_Mo_loopsKept 26 rfl) ?_
    first | refine wp_icmp_gtN (t := 78) (ck_get kk_Mo_loopsKept 27 rfl) (by decide) (by omega) (by omega) (fun hc49 => ?_) (fun hc49 => ?_) | refine wp_icmp_gt (t := 78) (ck_get kk_Mo_loopsKept 27 rfl) (by decide) (fun hc49 => ?_) (fun hc49 => ?_)
    · omega
    · refine wp_iload rfl (ck_get kk_Mo_loopsKept 28 rfl) ?_
      refine wp_aload_n rfl (ck_get kk_Mo_loopsKept 29 rfl) ?_
      refine wp_iload_n rfl (ck_get kk_Mo_loopsKept 30 rfl) ?_
      refine wp_iload rfl (ck_get kk_Mo_loopsKept 31 rfl) ?_
      refine wp_cV2i (ck_get kk_Mo_loopsKept 32 rfl) ml_Mo_185 (by omega) (Nat.le_of_ble_eq_true rfl) (by assumption) (Ci.to (m_readA hM hs hT ht (by omega) hN hb) ?_)
      rintro x₁ M₁ ⟨hx1, K2, P2, A2, F2, rfl, hs2, hK2, hF2⟩
      rw [hx1]
      first | refine wp_if_neN (t := 68) (ck_get kk_Mo_loopsKept 33 rfl) (by decide) (by omega) (fun hc61 => ?_) (fun hc61 => ?_) | refine wp_if_ne (t := 68) (ck_get kk_Mo_loopsKept 33 rfl) (by decide) (fun hc61 => ?_) (fun hc61 => ?_)
      · refine wp_iconst (v := nI 0) (by decide) (ck_get kk_Mo_loopsKept 36 rfl) ?_
        first | refine wp_iaddN (ck_get kk_Mo_loopsKept 37 rfl) ?_ | refine wp_iadd (ck_get kk_Mo_loopsKept 37 rfl) ?_
        refine wp_istore (ck_get kk_Mo_loopsKept 38 rfl) (by decide) rfl ?_
        first | refine wp_iincN (ck_get kk_Mo_loopsKept 39 rfl) rfl (by decide) rfl ?_ | refine wp_iinc (ck_get kk_Mo_loopsKept 39 rfl) rfl (by decide) rfl ?_
        refine wp_goto (t := 46) (ck_get kk_Mo_loopsKept 40 rfl) (by decide) ?_
        refine Wp.mono (ih (k + 1) (cold + 0) (rdA res md salt ws t k) K2 P2 A2 F2 (by omega) (by omega) hs2 (hT.rdA ht (by omega)) (hN.kept hK2) hF2.2) ?_
        rintro r M₂ ⟨x, rfl, hx, K3, P3, A3, F3, h1, h2, h3, h4⟩
        refine ⟨x, rfl, ?_, K3, P3, A3, F3, h1, h2, fun y hy => (h3 y hy).trans (hK2 y hy), hF2.trans h4⟩
        rw [hx]
        refine congrArg nI ?_
        show cold + 0 + _ = cold + ((if rxA res md ws t k = 0 then 1 else 0) + _)
        rw [if_neg hc61]; omega
      · refine wp_iconst (v := nI 1) (by decide) (ck_get kk_Mo_loopsKept 34 rfl) ?_
        refine wp_goto (t := 69) (ck_get kk_Mo_loopsKept 35 rfl) (by decide) ?_
        first | refine wp_iaddN (ck_get kk_Mo_loopsKept 37 rfl) ?_ | refine wp_iadd (ck_get kk_Mo_loopsKept 37 rfl) ?_
        refine wp_istore (ck_get kk_Mo_loopsKept 38 rfl) (by decide) rfl ?_
        first | refine wp_iincN (ck_get kk_Mo_loopsKept 39 rfl) rfl (by decide) rfl ?_ | refine wp_iinc (ck_get kk_Mo_loopsKept 39 rfl) rfl (by decide) rfl ?_
        refine wp_goto (t := 46) (ck_get kk_Mo_loopsKept 40 rfl) (by decide) ?_
        refine Wp.mono (ih (k + 1) (cold + 1) (rdA res md salt ws t k) K2 P2 A2 F2 (by omega) (by omega) hs2 (hT.rdA ht (by omega)) (hN.kept hK2) hF2.2) ?_
        rintro r M₂ ⟨x, rfl, hx, K3, P3, A3, F3, h1, h2, h3, h4⟩
        refine ⟨x, rfl, ?_, K3, P3, A3, F3, h1, h2, fun y hy => (h3 y hy).trans (hK2 y hy), hF2.trans h4⟩
        rw [hx]
        refine congrArg nI ?_
        show cold + 1 + _ = cold + ((if rxA res md ws t k = 0 then 1 else 0) + _)
        rw [if_pos hc61]; omega
end RDM
section RDL
variable {g : Gl} {M : Mem} {pf pg : Nat → Nat} {res : (Nat → Int32) → Int32 × Int32} {md salt : Nat}
theorem CFr.trans {w : Nat} {I I2 I3 : Nat → Nat → Int32} {J J2 J3 : Nat → Nat → Int64} (h : CFr w I J I2 J2) (h2 : CFr w I2 J2 I3 J3) : CFr w I J I3 J3 := fun x q1 q2 => ⟨(h2 x q1 q2).1.trans (h x q1 q2).1, (h2 x q1 q2).2.trans (h x q1 q2).2⟩
theorem l_readKeys {t to : Nat} (hL : LayC (mT M) (mR M) pf pg) (ht : t < 4) (hto : to < 1000) {x2 : Option Value} : ∀ (n k cold : Nat) (ws : WS) (I : Nat → Nat → Int32) (J : Nat → Nat → Int64), k + n = to + 1 → cold + n < 100000 → WoHas I J 2 ws → WOK ws → ShN (mT M) (mR M) I res md salt → Wp g Y_Mc_readKeys 12 6 [some (.ref 0), some (.int (nI t)), x2, some (.int (nI to)), some (.int (nI cold)), some (.int (nI k))] [] (mk2 M I J) (fun r M2 => ∃ x, r = some (.int x) ∧ x = nI (cold + (lpA res md salt t n k ws).1) ∧ ∃ I2 J2, M2 = mk2 M I2 J2 ∧ WoHas I2 J2 2 (lpA res md salt t n k ws).2 ∧ CFr 2 I J I2 J2) := by
  have hL0 := hL
  obtain ⟨t0, ⟨r0, hSh⟩, -⟩ := hL
  have sh0 := hSh.1
  have sr0 := hSh.2.1
  have hW := hSh.2.2.1
  intro n
  induction n with
  | zero =>
    intro k cold ws I J hk hc hs hT hN
    refine wp_iload rfl (ck_get kk_Mc_readKeys 4 rfl) ?_
    refine wp_iload_n rfl (ck_get kk_Mc_readKeys 5 rfl) ?_
    first | refine wp_icmp_gtN (t := 45) (ck_get kk_Mc_readKeys 6 rfl) (by decide) (by omega) (by omega) (fun hc9 => ?_) (fun hc9 => ?_) | refine wp_icmp_gt (t := 45) (ck_get kk_Mc_readKeys 6 rfl) (by decide) (fun hc9 => ?_) (fun hc9 => ?_)
    · refine wp_iload rfl (ck_get kk_Mc_readKeys 23 rfl) ?_
      refine wp_ireturn (ck_get kk_Mc_readKeys 24 rfl) rfl rfl ⟨_, rfl, ?_⟩
      exact ⟨rfl, I, J, rfl, hs, fun _ _ _ => ⟨rfl, rfl⟩⟩
    · omega
  | succ n ih =>
    intro k cold ws I J hk hc hs hT hN
    have hrx := rxA_le (res := res) (md := md) (k := k) hT ht
    have go : ∀ I2 J2 c2, c2 = (if rxA res md ws t k = 0 then 1 else 0) → WoHas I2 J2 2 (rdA res md salt ws t k) → CFr 2 I J I2 J2 → Wp g Y_Mc_readKeys 12 6 [some (.ref 0), some (.int (nI t)), x2, some (.int (nI to)), some (.int (nI (cold + c2))), some (.int (nI (k + 1)))] [] (mk2 M I2 J2) (fun r M2 => ∃ x, r = some (.int x) ∧ x = nI (cold + (lpA res md salt t (n + 1) k ws).1) ∧ ∃ I2 J2, M2 = mk2 M I2 J2 ∧ WoHas I2 J2 2 (lpA res md salt t (n + 1) k ws).2 ∧ CFr 2 I J I2 J2) := by
      intro I2 J2 c2 hc2 hs2 hf2
      have hc3 : c2 ≤ 1 := by rw [hc2]; by_cases h0 : rxA res md ws t k = 0; rw [if_pos h0]; omega; rw [if_neg h0]; omega
      refine Wp.mono (ih (k + 1) (cold + c2) (rdA res md salt ws t k) I2 J2 (by omega) (by omega) hs2 (hT.rdA ht (by omega)) (hN.kept (hf2 1 (by omega) (by omega)).1 (fun x hx => (hf2 x (by omega) (by omega)).1))) ?_
      rintro r M₂ ⟨x, rfl, hx, I3, J3, h1, h2, h3⟩
      refine ⟨x, rfl, ?_, I3, J3, h1, h2, hf2.trans h3⟩
      rw [hx]
      refine congrArg nI ?_
      show cold + c2 + _ = cold + ((if rxA res md ws t k = 0 then 1 else 0) + _)
      rw [← hc2]; omega
    refine wp_iload rfl (ck_get kk_Mc_readKeys 4 rfl) ?_
    refine wp_iload_n rfl (ck_get kk_Mc_readKeys 5 rfl) ?_
    first | refine wp_icmp_gtN (t := 45) (ck_get kk_Mc_readKeys 6 rfl) (by decide) (by omega) (by omega) (fun hc9 => ?_) (fun hc9 => ?_) | refine wp_icmp_gt (t := 45) (ck_get kk_Mc_readKeys 6 rfl) (by decide) (fun hc9 => ?_) (fun hc9 => ?_)
    · omega
    · refine wp_iload rfl (ck_get kk_Mc_readKeys 7 rfl) ?_
      refine wp_aload_n rfl (ck_get kk_Mc_readKeys 8 rfl) ?_
      refine wp_aload_n rfl (ck_get kk_Mc_readKeys 9 rfl) ?_
      refine wp_getR (ck_get kk_Mc_readKeys 10 rfl) fl_Mc_12 (by assumption) (by assumption) ?_
      refine wp_getR (ck_get kk_Mc_readKeys 11 rfl) fl_Mc_107 (by assumption) (by assumption) ?_
      refine wp_iload_n rfl (ck_get kk_Mc_readKeys 12 rfl) ?_
      refine wp_iload rfl (ck_get kk_Mc_readKeys 13 rfl) ?_
      refine wp_cV3i (ck_get kk_Mc_readKeys 14 rfl) ml_Mc_204 (by omega) (Nat.le_of_ble_eq_true rfl) (by assumption) (Ci.to (c_readA (M := mk2 M I J) hL0 hW (by omega) (by omega) hs hT ht (by omega) hN) ?_)
      rintro x₁ M₁ ⟨hx1, I2, J2, rfl, hs2, hf2⟩
      rw [hx1]
      first | refine wp_if_neN (t := 35) (ck_get kk_Mc_readKeys 15 rfl) (by decide) (by omega) (fun hc28 => ?_) (fun hc28 => ?_) | refine wp_if_ne (t := 35) (ck_get kk_Mc_readKeys 15 rfl) (by decide) (fun hc28 => ?_) (fun hc28 => ?_)
      · refine wp_iconst (v := nI 0) (by decide) (ck_get kk_Mc_readKeys 18 rfl) ?_
        first | refine wp_iaddN (ck_get kk_Mc_readKeys 19 rfl) ?_ | refine wp_iadd (ck_get kk_Mc_readKeys 19 rfl) ?_
        refine wp_istore (ck_get kk_Mc_readKeys 20 rfl) (by decide) rfl ?_
        first | refine wp_iincN (ck_get kk_Mc_readKeys 21 rfl) rfl (by decide) rfl ?_ | refine wp_iinc (ck_get kk_Mc_readKeys 21 rfl) rfl (by decide) rfl ?_
        refine wp_goto (t := 6) (ck_get kk_Mc_readKeys 22 rfl) (by decide) ?_
        exact go I2 J2 0 (by rw [if_neg hc28]) hs2 hf2
      · refine wp_iconst (v := nI 1) (by decide) (ck_get kk_Mc_readKeys 16 rfl) ?_
        refine wp_goto (t := 36) (ck_get kk_Mc_readKeys 17 rfl) (by decide) ?_
        first | refine wp_iaddN (ck_get kk_Mc_readKeys 19 rfl) ?_ | refine wp_iadd (ck_get kk_Mc_readKeys 19 rfl) ?_
        refine wp_istore (ck_get kk_Mc_readKeys 20 rfl) (by decide) rfl ?_
        first | refine wp_iincN (ck_get kk_Mc_readKeys 21 rfl) rfl (by decide) rfl ?_ | refine wp_iinc (ck_get kk_Mc_readKeys 21 rfl) rfl (by decide) rfl ?_
        refine wp_goto (t := 6) (ck_get kk_Mc_readKeys 22 rfl) (by decide) ?_
        exact go I2 J2 1 (by rw [if_pos hc28]) hs2 hf2
theorem c_readKeysA {t k n : Nat} {ws : WS} (hL : LayC (mT M) (mR M) pf pg) (ht : t < 4) (hn : 1 ≤ n) (hto : k + n ≤ 1000) (hs : WoHas (mI M) (mJ M) 2 ws) (hT : WOK ws) (hN : ShN (mT M) (mR M) (mI M) res md salt) : Ci g Y_Mc_readKeys 12 [.ref 0, .int (nI t), .int (nI k), .int (nI (k + n - 1))] M (fun x M2 => x = nI (lpA res md salt t n k ws).1 ∧ ∃ I2 J2, M2 = mk2 M I2 J2 ∧ WoHas I2 J2 2 (lpA res md salt t n k ws).2 ∧ CFr 2 (mI M) (mJ M) I2 J2) := by
  have t0 := hL.1
  refine cw_entry 2 pf_Mc_readKeys rfl ?_
  refine wp_iconst (v := nI 0) (by decide) (ck_get kk_Mc_readKeys 0 rfl) ?_
  refine wp_istore (ck_get kk_Mc_readKeys 1 rfl) (by decide) rfl ?_
  refine wp_iload_n rfl (ck_get kk_Mc_readKeys 2 rfl) ?_
  refine wp_istore (ck_get kk_Mc_readKeys 3 rfl) (by decide) rfl ?_
  refine Wp.mono (l_readKeys (M := M) hL ht (by omega) n k 0 ws (mI M) (mJ M) (by omega) (by omega) hs hT hN) ?_
  rintro r M₂ ⟨x, rfl, hx, h⟩
  rw [Nat.zero_add] at hx
  exact ⟨x, rfl, hx, h⟩
end RDL

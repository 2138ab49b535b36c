/-! ===== terms ===== -/
section TRM
variable {g : Gl} {M : Mem} {K : Nat → Int32} {P : Nat → Int64} {A F : Nat → Int32} {U : Nat → Int32} {UP : Nat → Int64}
theorem CSame.wk : CSame M (wkM M 1020 K P A F) := CSame.mk2 (fun x q => ⟨by rw [up1_ne (by omega), up1_ne (by omega), up1_ne (by omega)], up1_ne (by omega)⟩)
theorem CSame.wu : CSame M (wkM (ubM M 1020 U UP) 1020 K P A F) := CSame.mk2 (M := M) (I := up1 (up1 (up1 (up1 (mI M) (1020 + 16) U) (1020 + 2) K) (1020 + 15) A) 1020 F) (J := up1 (up1 (mJ M) (1020 + 17) UP) (1020 + 3) P) (fun x q => ⟨by rw [up1_ne (by omega), up1_ne (by omega), up1_ne (by omega), up1_ne (by omega)], by rw [up1_ne (by omega), up1_ne (by omega)]⟩)
theorem MR.wk {z : ST} {s2 : SH} (h : MR z M) (hS : ShM K P s2) (hF : ∀ k, moW k → F k = mI M 1020 k) (h27 : ∃ b, F 27 = bI b) : MR (s2, z.2) (wkM M 1020 K P A F) := by
  refine h.shop (fun x q => ?_) (fun x q => ?_) (fun k q => ?_) ?_ ?_
  · rw [up1_ne (by unfold moK at q; omega), up1_ne (by unfold moK at q; omega), up1_ne (by unfold moK at q; omega)]
  · rw [up1_ne (by omega)]
  · rw [up1_eq]; exact hF k q
  · rw [up1_eq]; exact h27
  · rw [up1_ne (by omega), up1_ne (by omega), show (1022 : Nat) = 1020 + 2 from rfl, up1_eq, show (1023 : Nat) = 1020 + 3 from rfl, up1_eq]; exact hS
theorem MR.ub {z : ST} {u2 : Nat × UF} (h : MR z M) (hU : MuHas U UP u2.1 u2.2) : MR (zS z, u2, z.2.2) (sI (ubM M 1020 U UP) 1020 36 (nI u2.1)) := by
  obtain ⟨hM, h1, h2, h3, h4, h5, h6, h7⟩ := h
  have eI : ∀ x, x ≠ 1020 → x ≠ 1036 → mI (sI (ubM M 1020 U UP) 1020 36 (nI u2.1)) x = mI M x := fun x a b => by
    show up2 (up1 (mI M) (1020 + 16) U) 1020 36 _ x = _
    rw [up2_o a, up1_ne b]
  have eF : ∀ k, k ≠ 36 → mI (sI (ubM M 1020 U UP) 1020 36 (nI u2.1)) 1020 k = mI M 1020 k := fun k a => by
    show up2 (up1 (mI M) (1020 + 16) U) 1020 36 _ 1020 k = _
    rw [up2_k a, up1_ne (by omega)]
  have eJ : ∀ x, x ≠ 1037 → mJ (sI (ubM M 1020 U UP) 1020 36 (nI u2.1)) x = mJ M x := fun x a => by
    show up1 (mJ M) (1020 + 17) UP x = _
    rw [up1_ne a]
  have e36 : mI (sI (ubM M 1020 U UP) 1020 36 (nI u2.1)) 1036 = U := by
    show up2 (up1 (mI M) (1020 + 16) U) 1020 36 (nI u2.1) (1020 + 16) = _
    rw [up2_o (by omega), up1_eq]
  have e37 : mJ (sI (ubM M 1020 U UP) 1020 36 (nI u2.1)) 1037 = UP := by
    show up1 (mJ M) (1020 + 17) UP (1020 + 17) = _
    rw [up1_eq]
  have eV : mI (sI (ubM M 1020 U UP) 1020 36 (nI u2.1)) 1020 36 = nI u2.1 := by
    show up2 (up1 (mI M) (1020 + 16) U) 1020 36 (nI u2.1) 1020 36 = _
    rw [up2_v]
  refine ⟨hM, ?_, ⟨eV, ?_⟩, ?_, ?_, ?_, ?_, ?_⟩
  · rw [eI 1022 (by omega) (by omega), eJ 1023 (by omega)]; exact h1
  · rw [e36, e37]; exact hU
  · unfold MRi at h3 ⊢
    rw [eI 1024 (by omega) (by omega), eI 1026 (by omega) (by omega), eJ 1025 (by omega)]; exact h3
  · unfold MRd at h4 ⊢
    rw [eF 62 (by omega), eI 1055 (by omega) (by omega)]; exact h4
  · unfold MRp at h5 ⊢
    rw [eF 16 (by omega), eI 1030 (by omega) (by omega), eI 1029 (by omega) (by omega)]; exact h5
  · unfold MRn at h6 ⊢
    rw [eF 9 (by omega), eF 54 (by omega), eF 0 (by omega), eF 17 (by omega), eF 27 (by omega), eI 1021 (by omega) (by omega)]; exact h6
  · unfold MRb at h7 ⊢
    rw [eF 42 (by omega), eI 1043 (by omega) (by omega)]; exact h7
theorem MR.wu {z : ST} {s2 : SH} {u2 : Nat × UF} (h : MR z M) (hS : ShM K P s2) (h36 : F 36 = nI u2.1) (hU : MuHas U UP u2.1 u2.2) (hF : ∀ k, moW k → k ≠ 36 → F k = mI M 1020 k) (h27 : ∃ b, F 27 = bI b) : MR (s2, u2, z.2.2) (wkM (ubM M 1020 U UP) 1020 K P A F) := by
  have e : wkM (ubM M 1020 U UP) 1020 K P A F = wkM (sI (ubM M 1020 U UP) 1020 36 (nI u2.1)) 1020 K P A F := by
    refine mk2_ext (M := M) ?_ rfl
    funext x
    by_cases c : x = 1020
    · subst c; rw [up1_eq, up1_eq]
    · rw [up1_ne c, up1_ne c]
      by_cases c1 : x = 1020 + 15
      · rw [c1, up1_eq, up1_eq]
      · rw [up1_ne c1, up1_ne c1]
        by_cases c2 : x = 1020 + 2
        · rw [c2, up1_eq, up1_eq]
        · rw [up1_ne c2, up1_ne c2]
          show _ = up2 (up1 (mI M) (1020 + 16) U) 1020 36 (nI u2.1) x
          rw [up2_o c]
  rw [e]
  refine (h.ub (u2 := u2) hU).wk hS (fun k q => ?_) h27
  by_cases c : k = 36
  · subst c; rw [h36]
    show _ = up2 (up1 (mI M) (1020 + 16) U) 1020 36 (nI u2.1) 1020 36
    rw [up2_v]
  · rw [hF k q c]
    show _ = up2 (up1 (mI M) (1020 + 16) U) 1020 36 _ 1020 k
    rw [up2_k c, up1_ne (by omega)]
/-- a term is set -/
def setS (s : SH) (j v : Nat) : SH := if j = 0 then ((v, (sWo s).2), s.2) else if j = 1 then (s.1, (sPo s, v, sMd s, sSl s), s.2.2) else if j = 2 then (s.1, (sPo s, sLo s, v, sSl s), s.2.2) else (emW s.1, (sPo s, sLo s, sMd s, v), s.2.2)
def mxT (j : Nat) : Nat := if j = 0 then 999 else if j = 1 then 10 else if j = 2 then 9 else 999
theorem tot_em {w : WS} : tot (emW w) = tot w := rfl
theorem SHOK.set {s : SH} {B j v : Nat} (h : SHOK s B) (hj : j < 4) (hv : v ≤ mxT j) : SHOK (setS s j v) B := by
  obtain ⟨o1, o2, o3, o4, o5, o6, o7⟩ := h
  rcases (show j = 0 ∨ j = 1 ∨ j = 2 ∨ j = 3 by omega) with rfl | rfl | rfl | rfl
  · exact ⟨⟨hv, o1.2⟩, o2, o3, o4, o5, o6, o7⟩
  · exact ⟨o1, o2, o3, hv, o5, o6, o7⟩
  · exact ⟨o1, o2, o3, o4, hv, o6, o7⟩
  · exact ⟨o1.em, by rw [show sWo (setS s 3 v) = emW (sWo s) from rfl, tot_em]; exact o2, o3, o4, o5, Nat.lt_succ_of_le hv, o7⟩
theorem c_emT {a : Nat} {s : TS} (hA : TeAt (mT M) (mR M) a) (hs : TeHas (mI M) (mJ M) a s) : Cv g Y_Te_emptySample 1 [.ref a] M (fun M2 => ∃ I2 J2, M2 = mk2 M I2 J2 ∧ TeHas I2 J2 a (emT s) ∧ Frm a (a + 6) (mI M) (mJ M) I2 J2) := by
  refine (c_emptySample hA).to ?_
  rintro M2 rfl
  obtain ⟨h1, h2, h3, h4, h5, h6, h7, h8, h9⟩ := hs
  refine ⟨_, _, rfl, ⟨?_, ?_, ?_, ?_, ?_, ?_, ?_, ?_, ?_⟩, ?_⟩
  · rw [up2_k (by omega), up2_k (by omega)]; exact h1
  · rw [up2_o (by omega), up2_o (by omega)]; exact h2
  · rw [up2_o (by omega), up2_o (by omega)]; exact h3
  · rw [up2_k (by omega), up2_v]; rfl
  · exact fun i hi => absurd hi (Nat.not_lt_zero i)
  · rw [up2_v]; rfl
  · intro i hi
    rw [up1_eq]
    show flJ _ 25 0 i = 0
    unfold flJ; rw [if_pos hi]
  · rw [up2_k (by omega), up2_k (by omega)]; exact h8
  · rw [up2_o (by omega), up2_o (by omega)]; exact h9
  · intro x hx
    exact ⟨by rw [up2_o (by omega), up2_o (by omega)], up1_ne (by omega)⟩
/-- samples of the first t tenants emptied -/
def emK (w : WS) (t : Nat) : WS := (w.1, fun i => if i < t then emT (w.2 i) else w.2 i)
theorem emK_0 {w : WS} : emK w 0 = w := by
  refine Prod.ext rfl (funext fun i => ?_)
  show (if i < 0 then emT (w.2 i) else w.2 i) = w.2 i
  rw [if_neg (Nat.not_lt_zero i)]
theorem emK_s {w : WS} {t : Nat} : setT (emK w t) t (emT (w.2 t)) = emK w (t + 1) := by
  refine Prod.ext rfl (funext fun i => ?_)
  show (if i = t then emT (w.2 t) else if i < t then emT (w.2 i) else w.2 i) = if i < t + 1 then emT (w.2 i) else w.2 i
  by_cases c : i = t
  · subst c; rw [if_pos rfl, if_pos (by omega)]
  · rw [if_neg c]
    by_cases c2 : i < t
    · rw [if_pos c2, if_pos (by omega)]
    · rw [if_neg c2, if_neg (by omega)]
theorem WoHas.w4 {I : Nat → Nat → Int32} {J : Nat → Nat → Int64} {a : Nat} {w w2 : WS} (h : WoHas I J a w) (h1 : w.1 = w2.1) (h2 : ∀ t, t < 4 → w.2 t = w2.2 t) : WoHas I J a w2 := ⟨by rw [← h1]; exact h.1, fun t ht => by rw [← h2 t ht]; exact h.2 t ht⟩
theorem l_setSalt {w : WS} {v1 v2 : Int32} (hA : ShAt (mT M) (mR M) 1) : ∀ k t (I : Nat → Nat → Int32) (J : Nat → Nat → Int64), t + k = 4 → WoHas I J 2 (emK w t) → Wp g Y_Sh_setTerm 2 62 [some (.ref 1), some (.int v1), some (.int v2), some (.int (nI t))] [] (mk2 M I J) (fun r M2 => r = none ∧ ∃ I2 J2, M2 = mk2 M I2 J2 ∧ WoHas I2 J2 2 (emK w 4) ∧ Frm 2 28 I J I2 J2) := by
  have t1 := hA.1
  have r10 : mR M 1 0 = some 2 := hA.2.1
  have hW2 : WoAt (mT M) (mR M) 2 := hA.2.2.1
  have t2 := hW2.1
  have r20 : mR M 2 0 = some 3 := hW2.2.1
  have t3 : mT M 3 = (24, 4) := hW2.2.2.1
  intro k
  induction k with
  | zero =>
    intro t I J h1 hW
    refine wp_iload_n rfl (ck_get kk_Sh_setTerm 20 rfl) ?_
    refine wp_iconst (v := nI 4) (by decide) (ck_get kk_Sh_setTerm 21 rfl) ?_
    first | refine wp_icmp_geN (t := 85) (ck_get kk_Sh_setTerm 22 rfl) (by decide) (by omega) (by omega) (fun hc64 => ?_) (fun hc64 => ?_) | refine wp_icmp_ge (t := 85) (ck_get kk_Sh_setTerm 22 rfl) (by decide) (fun hc64 => ?_) (fun hc64 => ?_)
    · refine wp_return (ck_get kk_Sh_setTerm 31 rfl) rfl ⟨rfl, ?_⟩
      obtain rfl : t = 4 := by omega
      exact ⟨I, J, rfl, hW, fun x _ => ⟨rfl, rfl⟩⟩
    · omega
  | succ k ih =>
    intro t I J h1 hW
    have rTe : mR M 3 t = some (4 + 6 * t) := (hW2.2.2.2 t (by omega)).1
    have hTA : TeAt (mT M) (mR M) (4 + 6 * t) := (hW2.2.2.2 t (by omega)).2
    have tTe := hTA.1
    have hTH : TeHas I J (2 + 2 + 6 * t) (w.2 t) := by
      have := hW.2 t (by omega)
      rw [show (emK w t).2 t = w.2 t from if_neg (Nat.lt_irrefl t)] at this; exact this
    refine wp_iload_n rfl (ck_get kk_Sh_setTerm 20 rfl) ?_
    refine wp_iconst (v := nI 4) (by decide) (ck_get kk_Sh_setTerm 21 rfl) ?_
    first | refine wp_icmp_geN (t := 85) (ck_get kk_Sh_setTerm 22 rfl) (by decide) (by omega) (by omega) (fun hc64 => ?_) (fun hc64 => ?_) | refine wp_icmp_ge (t := 85) (ck_get kk_Sh_setTerm 22 rfl) (by decide) (fun hc64 => ?_) (fun hc64 => ?_)
    · omega
    · refine wp_aload_n rfl (ck_get kk_Sh_setTerm 23 rfl) ?_
      refine wp_getR (ck_get kk_Sh_setTerm 24 rfl) fl_Sh_12 (by assumption) (by assumption) ?_
      refine wp_getR (ck_get kk_Sh_setTerm 25 rfl) fl_Sh_60 (by assumption) (by assumption) ?_
      refine wp_iload_n rfl (ck_get kk_Sh_setTerm 26 rfl) ?_
      refine wp_aald (ck_get kk_Sh_setTerm 27 rfl) (by assumption) (by first | assumption | exact ixk_nI (by omega) (by omega)) (by assumption) ?_
      refine wp_cV0v (ck_get kk_Sh_setTerm 28 rfl) ml_Sh_64 (by omega) (Nat.le_of_ble_eq_true rfl) (by assumption) (Cv.to (c_emT (s := w.2 t) (by exact hTA) (by exact hTH)) ?_)
      rintro M1 ⟨I2, J2, e1, e2, e3⟩
      obtain rfl := e1
      first | refine wp_iincN (ck_get kk_Sh_setTerm 29 rfl) rfl (by decide) rfl ?_ | refine wp_iinc (ck_get kk_Sh_setTerm 29 rfl) rfl (by decide) rfl ?_
      refine wp_goto (t := 62) (ck_get kk_Sh_setTerm 30 rfl) (by decide) ?_
      refine (ih (t + 1) I2 J2 (by omega) ?_).mono ?_
      · rw [← emK_s]; exact hW.set e2 (by exact e3)
      · rintro r M3 ⟨rfl, I3, J3, rfl, f1, f2⟩
        exact ⟨rfl, I3, J3, rfl, f1, fun x hx => ⟨(f2 x hx).1.trans (e3 x (by omega)).1, (f2 x hx).2.trans (e3 x (by omega)).2⟩⟩
end TRM

/-! ===== the last sixteen ===== -/
def l16 {α : Type} (l : List α) : List α := l.drop (l.length - 16)
theorem l16_len {α : Type} (l : List α) : (l16 l).length = min l.length 16 := by
  unfold l16; rw [List.length_drop]; omega
theorem l16_id {α : Type} {l : List α} (h : l.length ≤ 16) : l16 l = l := by
  unfold l16; rw [show l.length - 16 = 0 by omega]; rfl
theorem l16_l {α : Type} (a b : List α) : l16 (l16 a ++ b) = l16 (a ++ b) := by
  have e : l16 a ++ b = (a ++ b).drop (a.length - 16) := by
    unfold l16; rw [List.drop_append_of_le_length (by omega)]
  rw [e]
  unfold l16
  rw [List.drop_drop, List.length_drop, List.length_append]
  congr 1
  omega
theorem l16_r {α : Type} (a b : List α) : l16 (a ++ l16 b) = l16 (a ++ b) := by
  by_cases h : b.length ≤ 16
  · rw [l16_id h]
  · have e1 : l16 (a ++ l16 b) = l16 b := by
      have hl := l16_len b
      rw [l16, List.length_append, hl, show a.length + min b.length 16 - 16 = a.length + 0 by omega, List.drop_length_add_append]; rfl
    rw [e1]
    unfold l16
    rw [List.length_append, show a.length + b.length - 16 = a.length + (b.length - 16) by omega, List.drop_length_add_append]
theorem lsU_len {u : UF} {i : Nat} : (lsU u i).length = i := by unfold lsU; rw [List.length_map, List.length_range]
theorem lsU_c {u v : UF} {n : Nat} (h : ∀ i, i < n → u i = v i) : lsU u n = lsU v n := by
  unfold lsU
  exact List.map_congr_left (fun i hi => h i (List.mem_range.mp hi))
theorem lsU_inj {u v : UF} {n m : Nat} (h : lsU u n = lsU v m) : n = m ∧ ∀ i, i < n → u i = v i := by
  have hl : n = m := by have := congrArg List.length h; rwa [lsU_len, lsU_len] at this
  subst hl
  refine ⟨rfl, fun i hi => ?_⟩
  have := congrArg (fun l => l[i]?) h
  unfold lsU at this
  simp only [List.getElem?_map, List.getElem?_range hi, Option.map_some] at this
  exact Option.some.inj this
theorem lsU_ps {n : Nat} {u : UF} {x : Nat × WS} (h : n ≤ 16) : lsU (psU n u x) (nsz n) = l16 (lsU u n ++ [x]) := by
  unfold psU nsz
  by_cases hn : n < 16
  · rw [if_pos hn, if_pos hn, lsU_succ, up1_eq, lsU_c (v := u) (fun i hi => up1_ne (by omega)), l16_id (by rw [List.length_append, lsU_len]; show n + 1 ≤ 16; omega)]
  · have h16 : n = 16 := by omega
    subst h16
    rw [if_neg hn, if_neg hn]
    show lsU _ (15 + 1) = _
    have z : lsU (up1 (fun i => u (i + 1)) 15 x) 15 = lsU (fun i => u (i + 1)) 15 := lsU_c (fun i hi => up1_ne (by omega))
    rw [lsU_succ, up1_eq, z]
    unfold l16
    rw [List.length_append, lsU_len]
    show _ = List.drop 1 (lsU u (15 + 1) ++ [x])
    have : lsU u (15 + 1) = u 0 :: lsU (fun i => u (i + 1)) 15 := by
      unfold lsU; rw [List.range_succ_eq_map, List.map_cons, List.map_map]; rfl
    rw [this]; rfl
theorem lsU_psL {L : List (Nat × WS)} : ∀ {p : Nat × UF}, p.1 ≤ 16 → lsU (psL L p).2 (psL L p).1 = l16 (lsU p.2 p.1 ++ L) := by
  induction L with
  | nil =>
    intro p h
    rw [List.append_nil, l16_id (by rw [lsU_len]; exact h)]; rfl
  | cons x L ih =>
    intro p h
    show lsU (psL L (nsz p.1, psU p.1 p.2 x)).2 (psL L (nsz p.1, psU p.1 p.2 x)).1 = _
    rw [ih (nsz_le p.1 h)]
    show l16 (lsU (psU p.1 p.2 x) (nsz p.1) ++ L) = _
    rw [lsU_ps h, l16_l, List.append_assoc]; rfl
/-- what the class takes over is what the model pushed -/
theorem psL_two {L : List (Nat × WS)} {w : UF} {p : Nat × UF} (h : p.1 ≤ 16) : (psL (lsU (psL L (0, w)).2 (psL L (0, w)).1) p).1 = (psL L p).1 ∧ ∀ i, i < (psL L p).1 → (psL (lsU (psL L (0, w)).2 (psL L (0, w)).1) p).2 i = (psL L p).2 i := by
  have e1 : lsU (psL L (0, w)).2 (psL L (0, w)).1 = l16 L := by
    rw [lsU_psL (Nat.zero_le _)]; rfl
  have e2 := lsU_psL (L := lsU (psL L (0, w)).2 (psL L (0, w)).1) h
  have e3 := lsU_psL (L := L) h
  rw [e1] at e2 ⊢
  rw [l16_r, ← e3] at e2
  obtain ⟨q1, q2⟩ := lsU_inj e2
  exact ⟨q1, fun i hi => q2 i (by omega)⟩
theorem TrHas.c {I : Nat → Nat → Int32} {J : Nat → Nat → Int64} {a f n m : Nat} {wf : Nat → Nat} {u v : UF} (h : TrHas I J a wf f n u) (e : n = m) (e2 : ∀ i, i < m → u i = v i) : TrHas I J a wf f m v := by
  subst e
  obtain ⟨a1, a2, a3, a4, a5⟩ := h
  exact ⟨a1, a2, a3, a4, fun i hi => by rw [← e2 i hi]; exact a5 i hi⟩
theorem MuHas.c {U : Nat → Int32} {UP : Nat → Int64} {n : Nat} {u v : UF} (h : MuHas U UP n u) (e2 : ∀ i, i < n → u i = v i) : MuHas U UP n v := fun i hi => by rw [← e2 i hi]; exact h i hi

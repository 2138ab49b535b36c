/-! ===== orders, as they run ===== -/
/-- the world, what was pushed, how many were done, the latest -/
abbrev OS : Type := WS × List (Nat × WS) × Nat × Int32
def oV (s : OS) : Nat → Int32 := fun k => if k = 0 then nI s.1.1 else if k = 1 then nI s.2.2.1 else if k = 2 then s.2.2.2 else if k < 7 then nI (tCo (s.1.2 (k - 3)) 0) else nI (tSt (s.1.2 (k - 7))).length
def smI (v : Int64) : Int32 := if v < 0 ∨ 1000000 < v then -1 else v.toInt32
section ORA
variable (res : (Nat → Int32) → Int32 × Int32) (md salt : Nat) (C : Nat → Int32) (cn : Nat)
def oX (s : OS) (c : Int32) : Int64 := ev0 C cn (oV s) 11 c.toNatClampNeg
abbrev oWant (s : OS) (e : Nat → Int32) : Prop := e 3 = -1 ∨ ev0 C cn (oV s) 11 (e 3).toNatClampNeg = 1
abbrev oSum (s : OS) (e : Nat → Int32) : Prop := ∀ c ∈ ksO e, ¬ ev0 C cn (oV s) 11 c = brk
def oA3 (s : OS) (e : Nat → Int32) : Int32 × Int32 × Int32 := if e 1 = nI 3 then (0, 0, 0) else ((oX C cn s (e 6)).toInt32, (oX C cn s (e 4)).toInt32, if e 1 = nI 1 then (oX C cn s (e 5)).toInt32 else (oX C cn s (e 4)).toInt32)
/-- can it be? -/
abbrev oCan (s : OS) (e : Nat → Int32) : Prop := oSum C cn s e ∧ acV (e 1).toNatClampNeg s.1 (oA3 C cn s e).1 (oA3 C cn s e).2.1 (oA3 C cn s e).2.2 = 0
def oDo (s : OS) (kd : Nat) (a : Int32 × Int32 × Int32) : OS := ((acW res md salt kd s.1 a.1.toNatClampNeg a.2.1.toNatClampNeg a.2.2.toNatClampNeg).2, s.2.1 ++ [(kd, s.1)], s.2.2.1 + 1, if kd ≤ 1 then nI (acW res md salt kd s.1 a.1.toNatClampNeg a.2.1.toNatClampNeg a.2.2.toNatClampNeg).1 else s.2.2.2)
/-- once -/
def o1 (s : OS) (e : Nat → Int32) : Option OS := if oWant C cn s e then (if oCan C cn s e then some (oDo res md salt s (e 1).toNatClampNeg (oA3 C cn s e)) else none) else some s
/-- as often -/
def oR (e : Nat → Int32) : Nat → OS → Option OS
  | 0, s => some s
  | n + 1, s => (o1 res md salt C cn s e).bind (oR e n)
/-- all clauses; the number of the one that can't be -/
def oAll (E : Nat → Nat → Int32) : Nat → Nat → OS → OS ⊕ Nat
  | 0, _, s => .inl s
  | r + 1, n, s => match oR res md salt C cn (E n) (E n 2).toNatClampNeg s with
    | none => .inr n
    | some s2 => oAll E r (n + 1) s2
end ORA
/-- what is pushed, one behind the other -/
def psL (L : List (Nat × WS)) (p : Nat × UF) : Nat × UF := L.foldl (fun p x => (nsz p.1, psU p.1 p.2 x)) p
theorem psL_snoc {L : List (Nat × WS)} {p : Nat × UF} {x : Nat × WS} : psL (L ++ [x]) p = (nsz (psL L p).1, psU (psL L p).1 (psL L p).2 x) := by
  unfold psL; rw [List.foldl_append]; rfl
def OOK (s : OS) (B : Nat) : Prop := WOK s.1 ∧ tot s.1 ≤ B ∧ (∀ x ∈ s.2.1, x.1 < 4 ∧ WOK x.2 ∧ tot x.2 ≤ B) ∧ s.2.2.1 ≤ B ∧ -1 ≤ s.2.2.2.toInt
theorem OOK.nn {s : OS} {B : Nat} (h : OOK s B) (hB : B < 2147483648) : ∀ k, k < 11 → -1 ≤ (oV s k).toInt := by
  obtain ⟨a1, a2, -, a4, a5⟩ := h
  intro k hk
  have b1 := a1.1
  unfold oV
  by_cases k0 : k = 0
  · rw [if_pos k0, nI_toInt (by omega)]; omega
  rw [if_neg k0]
  by_cases k1 : k = 1
  · rw [if_pos k1, nI_toInt (by omega)]; omega
  rw [if_neg k1]
  by_cases k2 : k = 2
  · rw [if_pos k2]; exact a5
  rw [if_neg k2]
  by_cases k7 : k < 7
  · have b2 := tot_at (ws := s.1) (t := k - 3) (i := 0) (by omega) (by omega)
    rw [if_pos k7, nI_toInt (by omega)]; omega
  · have b3 := (a1.2 (k - 7) (by omega)).1
    rw [if_neg k7, nI_toInt (by omega)]; omega
theorem psL_ok {L : List (Nat × WS)} {p : Nat × UF} {B : Nat} (h : ∀ x ∈ L, x.1 < 4 ∧ WOK x.2 ∧ tot x.2 ≤ B) (hp : UOK p.1 p.2 B) : UOK (psL L p).1 (psL L p).2 B := by
  induction L generalizing p with
  | nil => exact hp
  | cons x L ih =>
    show UOK (psL L (nsz p.1, psU p.1 p.2 x)).1 (psL L (nsz p.1, psU p.1 p.2 x)).2 B
    obtain ⟨h1, h2, h3⟩ := h x List.mem_cons_self
    refine ih (fun y hy => h y (List.mem_cons_of_mem _ hy)) ?_
    exact hp.push (k := x.1) (ws := x.2) h1 h2 h3
section ORB
variable {res : (Nat → Int32) → Int32 × Int32} {md salt : Nat} {C : Nat → Int32} {cn : Nat}
theorem smI_in {v : Int64} {n : Nat} (h : inR v) (hn : n ≤ 1000) : inB (smI v) n = inB v.toInt32 n ∧ (inB v.toInt32 n = true → smI v = v.toInt32) := by
  have z : (0 : Int64).toInt = 0 := by decide
  have mm : (1000000 : Int64).toInt = 1000000 := by decide
  have ht : v.toInt32.toInt = v.toInt := by
    rw [Int64.toInt_toInt32]
    obtain ⟨h1, h2⟩ := h
    exact Int.bmod_eq_of_le (by omega) (by omega)
  have hnn : (nI n).toInt = n := nI_toInt (by omega)
  have z3 : (0 : Int32).toInt = 0 := by decide
  have key : inB v.toInt32 n = true → smI v = v.toInt32 := by
    intro q
    unfold inB at q
    rw [Bool.and_eq_true, decide_eq_true_eq, decide_eq_true_eq, Int32.lt_iff_toInt_lt, Int32.lt_iff_toInt_lt, ht, hnn, z3] at q
    unfold smI
    rw [if_neg]
    rw [Int64.lt_iff_toInt_lt, Int64.lt_iff_toInt_lt, z, mm]
    omega
  refine ⟨?_, key⟩
  by_cases q : inB v.toInt32 n = true
  · rw [key q]
  · have q2 : inB (smI v) n = false := by
      unfold smI
      by_cases c : v < 0 ∨ 1000000 < v
      · rw [if_pos c]; rfl
      · rw [if_neg c]; exact Bool.eq_false_iff.mpr q
    rw [q2]; exact (Bool.eq_false_iff.mpr q).symm
theorem acV_sm {kd : Nat} {ws : WS} {t a b : Int64} (ht : inR t) (ha : inR a) (hb : inR b) (hk : ¬ kd = 3) : (acV kd ws (smI t) (smI a) (smI b) = 0 ↔ acV kd ws t.toInt32 a.toInt32 b.toInt32 = 0) ∧ (acV kd ws t.toInt32 a.toInt32 b.toInt32 = 0 → smI t = t.toInt32 ∧ smI a = a.toInt32 ∧ smI b = b.toInt32) := by
  obtain ⟨t1, t2⟩ := smI_in (n := 4) ht (by omega)
  obtain ⟨a1, a2⟩ := smI_in (n := 1000) ha (by omega)
  obtain ⟨b1, b2⟩ := smI_in (n := 1000) hb (by omega)
  unfold acV
  rw [if_neg hk, if_neg hk, t1, a1, b1]
  by_cases h : inB t.toInt32 4 = true ∧ inB a.toInt32 1000 = true ∧ inB b.toInt32 1000 = true
  · rw [if_pos h, if_pos h, t2 h.1, a2 h.2.1, b2 h.2.2]
    exact ⟨Iff.rfl, fun _ => ⟨rfl, rfl, rfl⟩⟩
  · rw [if_neg h, if_neg h]
    exact ⟨Iff.rfl, fun q => absurd q (by decide)⟩
theorem acV_neg {kd : Nat} {ws : WS} {t a b : Int32} (h : ¬ acV kd ws t a b = 0) : acV kd ws t a b < 0 := by
  unfold acV at h ⊢
  repeat' split
  all_goals first | decide | (exfalso; simp_all)
theorem acW_lt (hR : ResOK res) {kd : Nat} {ws : WS} {t a b : Int32} (hT : WOK ws) (hk : kd < 4) (hB : tot ws < 2147483648) (h : acV kd ws t a b = 0) : (acW res md salt kd ws t.toNatClampNeg a.toNatClampNeg b.toNatClampNeg).1 < 2147483648 ∧ WOK (acW res md salt kd ws t.toNatClampNeg a.toNatClampNeg b.toNatClampNeg).2 ∧ tot (acW res md salt kd ws t.toNatClampNeg a.toNatClampNeg b.toNatClampNeg).2 ≤ tot ws + 3168 := by
  by_cases h3 : kd = 3
  · subst h3
    have h9 : ws.1 < 999 := by
      unfold acV at h
      rw [if_pos rfl] at h
      exact Decidable.byContradiction fun q => by rw [if_neg q] at h; exact absurd h (by decide)
    refine ⟨?_, acW_ok hR hT (Or.inl ⟨rfl, h9⟩)⟩
    unfold acW
    rw [if_neg (by omega), if_neg (by omega), if_neg (by omega)]
    exact Nat.lt_of_le_of_lt tot_hv hB
  · obtain ⟨t', k, k2, rfl, rfl, rfl, h1, h2, h4, h5, h6⟩ := acV_ok (by omega) h
    rw [nI_clamp (by omega), nI_clamp (by omega), nI_clamp (by omega)]
    refine ⟨?_, acW_ok hR hT (Or.inr ⟨by omega, h1, h2, h4, h5⟩)⟩
    unfold acW
    by_cases k0 : kd = 0
    · rw [if_pos k0]
      have := rxA_le (res := res) (md := md) (k := k) hT h1
      show rxA res md ws t' k < _
      omega
    · rw [if_neg k0]
      by_cases k1 : kd = 1
      · rw [if_pos k1]
        obtain ⟨q1, q2⟩ := h5 k1
        have := (lpA_ok (md := md) (salt := salt) hR h1 (k2 - k + 1) k ws (by omega) hT).2.2
        omega
      · rw [if_neg k1, if_pos (by omega)]
        have := posL_le (L := tSt (ws.2 t')) (k := k)
        have := (hT.2 t' h1).1
        show posL (tSt (ws.2 t')) k < _
        omega
theorem o1_ok (hR : ResOK res) {s s2 : OS} {e : Nat → Int32} {B : Nat} (hk : (e 1).toNatClampNeg < 4) (h : OOK s B) (hB : B < 2147483648) (h1 : o1 res md salt C cn s e = some s2) : OOK s2 (B + 3168) ∧ tot s2.1 ≤ tot s.1 + 3168 := by
  obtain ⟨a1, a2, a3, a4, a5⟩ := h
  have tr : ∀ {x : Nat × WS}, x.1 < 4 ∧ WOK x.2 ∧ tot x.2 ≤ B → x.1 < 4 ∧ WOK x.2 ∧ tot x.2 ≤ B + 3168 := fun q => ⟨q.1, q.2.1, by omega⟩
  unfold o1 at h1
  by_cases hw : oWant C cn s e
  · rw [if_pos hw] at h1
    by_cases hc : oCan C cn s e
    · rw [if_pos hc] at h1
      obtain rfl := Option.some.inj h1
      obtain ⟨b1, b2, b3⟩ := acW_lt (md := md) (salt := salt) hR a1 hk (by omega) hc.2
      refine ⟨⟨b2, Nat.le_trans b3 (by omega), fun x hx => ?_, by show s.2.2.1 + 1 ≤ _; omega, ?_⟩, b3⟩
      · rcases List.mem_append.mp hx with hx | hx
        · exact tr (a3 x hx)
        · rw [List.mem_singleton.mp hx]; exact ⟨hk, a1, by show tot s.1 ≤ _; omega⟩
      · show -1 ≤ (if (e 1).toNatClampNeg ≤ 1 then nI _ else s.2.2.2).toInt
        by_cases q : (e 1).toNatClampNeg ≤ 1
        · rw [if_pos q, nI_toInt b1]; omega
        · rw [if_neg q]; exact a5
    · rw [if_neg hc] at h1; exact absurd h1 (by simp)
  · rw [if_neg hw] at h1
    obtain rfl := Option.some.inj h1
    exact ⟨⟨a1, by omega, fun x hx => tr (a3 x hx), by omega, a5⟩, by omega⟩
end ORB
section ORM
variable {g : Gl} {M : Mem} {o : Nat}
theorem m_small {v : Int64} : Ci g Y_Mo_small 0 [.long v] M (fun x M2 => x = smI v ∧ M2 = M) := by
  refine cw_entry 0 pf_Mo_small rfl ?_
  refine wp_lload_n rfl (ck_get kk_Mo_small 0 rfl) ?_
  refine wp_lconst (v := 0) (by decide) (ck_get kk_Mo_small 1 rfl) ?_
  refine wp_lcmp (ck_get kk_Mo_small 2 rfl) ?_
  refine wp_if_lt (t := 14) (ck_get kk_Mo_small 3 rfl) (by decide) (fun hc3 => ?_) (fun hc3 => ?_)
  · refine wp_iconst (v := (-1)) (by decide) (ck_get kk_Mo_small 8 rfl) ?_
    refine wp_goto (t := 20) (ck_get kk_Mo_small 9 rfl) (by decide) ?_
    refine wp_ireturn (ck_get kk_Mo_small 12 rfl) rfl rfl ⟨_, rfl, ?_⟩
    refine ⟨?_, rfl⟩; unfold smI; rw [if_pos (Or.inl ((lcmp_lt _ _).mp hc3))]
  · refine wp_lload_n rfl (ck_get kk_Mo_small 4 rfl) ?_
    refine wp_ldc2 kl_Mo_369 (ck_get kk_Mo_small 5 rfl) ?_
    refine wp_lcmp (ck_get kk_Mo_small 6 rfl) ?_
    refine wp_if_le (t := 18) (ck_get kk_Mo_small 7 rfl) (by decide) (fun hc11 => ?_) (fun hc11 => ?_)
    · refine wp_lload_n rfl (ck_get kk_Mo_small 10 rfl) ?_
      refine wp_l2i (ck_get kk_Mo_small 11 rfl) ?_
      refine wp_ireturn (ck_get kk_Mo_small 12 rfl) rfl rfl ⟨_, rfl, ?_⟩
      refine ⟨?_, rfl⟩; unfold smI; rw [if_neg]; rintro (q | q); exact hc3 ((lcmp_lt _ _).mpr q); exact (lcmp_le _ _).mp hc11 q
    · refine wp_iconst (v := (-1)) (by decide) (ck_get kk_Mo_small 8 rfl) ?_
      refine wp_goto (t := 20) (ck_get kk_Mo_small 9 rfl) (by decide) ?_
      refine wp_ireturn (ck_get kk_Mo_small 12 rfl) rfl rfl ⟨_, rfl, ?_⟩
      refine ⟨?_, rfl⟩; unfold smI; rw [if_pos (Or.inr (Decidable.byContradiction fun q => hc11 ((lcmp_le _ _).mpr q)))]
end ORM

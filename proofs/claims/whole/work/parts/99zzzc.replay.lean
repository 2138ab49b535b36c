/-! ===== a record read again: what both do ===== -/
section RPY
def fpS (ks : Nat → Int32) (i : Nat) : Nat → Nat → Nat
  | 0, j => j
  | d + 1, j => if ks j = ks i then j else fpS ks i d (j + 1)
/-- the first place of the same key -/
def fp (ks : Nat → Int32) (i : Nat) : Nat := fpS ks i i 0
variable {ks : Nat → Int32} {n : Nat}
theorem fpS_ok {i : Nat} : ∀ d j, j + d = i → j ≤ fpS ks i d j ∧ fpS ks i d j ≤ i ∧ ks (fpS ks i d j) = ks i ∧ ∀ q, j ≤ q → q < fpS ks i d j → ks q ≠ ks i := by
  intro d
  induction d with
  | zero =>
    intro j h
    obtain rfl : j = i := by omega
    exact ⟨Nat.le_refl _, Nat.le_refl _, rfl, fun q h1 h2 => absurd (Nat.lt_of_le_of_lt h1 h2) (Nat.lt_irrefl _)⟩
  | succ d ih =>
    intro j h
    by_cases c : ks j = ks i
    · have e : fpS ks i (d + 1) j = j := if_pos c
      rw [e]
      exact ⟨Nat.le_refl _, by omega, c, fun q h1 h2 => absurd (Nat.lt_of_le_of_lt h1 h2) (Nat.lt_irrefl _)⟩
    · have e : fpS ks i (d + 1) j = fpS ks i d (j + 1) := if_neg c
      rw [e]
      obtain ⟨a1, a2, a3, a4⟩ := ih (j + 1) (by omega)
      refine ⟨by omega, a2, a3, fun q h1 h2 => ?_⟩
      by_cases c2 : q = j
      · subst c2; exact c
      · exact a4 q (by omega) h2
theorem fp_le (i : Nat) : fp ks i ≤ i := (fpS_ok i 0 (by omega)).2.1
theorem fp_ks (i : Nat) : ks (fp ks i) = ks i := (fpS_ok i 0 (by omega)).2.2.1
theorem fp_lt {i q : Nat} (h : q < fp ks i) : ks q ≠ ks i := (fpS_ok (ks := ks) i 0 (by omega)).2.2.2 q (Nat.zero_le _) h
theorem fp_eq {i j : Nat} (h : ks i = ks j) : fp ks i = fp ks j := by
  rcases Nat.lt_trichotomy (fp ks i) (fp ks j) with q | q | q
  · exact absurd ((fp_ks i).trans h) (fp_lt q)
  · exact q
  · exact absurd ((fp_ks j).trans h.symm) (fp_lt q)
theorem fp_fp (i : Nat) : fp ks (fp ks i) = fp ks i := fp_eq (fp_ks i)
theorem fpS_c {k2 : Nat → Int32} {i : Nat} (h : ∀ j, j ≤ i → k2 j = ks j) : ∀ d j, j + d = i → fpS k2 i d j = fpS ks i d j := by
  intro d
  induction d with
  | zero => intro j _; rfl
  | succ d ih =>
    intro j hj
    show (if k2 j = k2 i then j else fpS k2 i d (j + 1)) = if ks j = ks i then j else fpS ks i d (j + 1)
    rw [h j (by omega), h i (Nat.le_refl _), ih (j + 1) (by omega)]
theorem fp_c {k2 : Nat → Int32} {i : Nat} (h : ∀ j, j ≤ i → k2 j = ks j) : fp k2 i = fp ks i := fpS_c h i 0 (by omega)
/-- how many first places lie ahead -/
def rk (ks : Nat → Int32) : Nat → Nat
  | 0 => 0
  | j + 1 => rk ks j + (if fp ks j = j then 1 else 0)
theorem rk_s (j : Nat) : rk ks j ≤ rk ks (j + 1) := Nat.le_add_right _ _
theorem rk_mono {i j : Nat} (h : i ≤ j) : rk ks i ≤ rk ks j := by
  induction h with
  | refl => exact Nat.le_refl _
  | step _ ih => exact Nat.le_trans ih (rk_s _)
theorem rk_f {k : Nat} (h : fp ks k = k) : rk ks (k + 1) = rk ks k + 1 := by
  show rk ks k + _ = _
  rw [if_pos h]
theorem rk_nf {k : Nat} (h : fp ks k ≠ k) : rk ks (k + 1) = rk ks k := by
  show rk ks k + _ = _
  rw [if_neg h]; rfl
theorem rk_lt {k j : Nat} (h : fp ks k = k) (hk : k < j) : rk ks k < rk ks j := by
  have := rk_mono (ks := ks) (show k + 1 ≤ j from hk)
  rw [rk_f h] at this
  omega
theorem rk_le : ∀ j, rk ks j ≤ j := by
  intro j
  induction j with
  | zero => exact Nat.le_refl 0
  | succ j ih =>
    by_cases c : fp ks j = j
    · rw [rk_f c]; omega
    · rw [rk_nf c]; omega
theorem rk_inj {a b : Nat} (ha : fp ks a = a) (hb : fp ks b = b) (h : rk ks a = rk ks b) : a = b := by
  rcases Nat.lt_trichotomy a b with q | q | q
  · have := rk_lt ha q; omega
  · exact q
  · have := rk_lt hb q; omega
theorem rk_sur {r : Nat} : ∀ {j : Nat}, r < rk ks j → ∃ k, k < j ∧ fp ks k = k ∧ rk ks k = r := by
  intro j
  induction j with
  | zero => intro h; exact absurd h (Nat.not_lt_zero _)
  | succ j ih =>
    intro h
    by_cases c : fp ks j = j
    · rw [rk_f c] at h
      by_cases c2 : r = rk ks j
      · exact ⟨j, Nat.lt_succ_self _, c, c2.symm⟩
      · obtain ⟨k, h1, h2⟩ := ih (by omega)
        exact ⟨k, by omega, h2⟩
    · rw [rk_nf c] at h
      obtain ⟨k, h1, h2⟩ := ih h
      exact ⟨k, by omega, h2⟩
/-- the latest read ahead of i; how many -/
def la (ks : Nat → Int32) : Nat → Nat → Nat
  | 0, _ => 0
  | i + 1, k => if fp ks i = k then i else la ks i k
def og (ks : Nat → Int32) : Nat → Nat → Nat
  | 0, _ => 0
  | i + 1, k => if fp ks i = k then og ks i k + 1 else og ks i k
theorem la_1 (i : Nat) : la ks (i + 1) (fp ks i) = i := if_pos rfl
theorem la_2 {i k : Nat} (h : fp ks i ≠ k) : la ks (i + 1) k = la ks i k := if_neg h
theorem og_1 (i : Nat) : og ks (i + 1) (fp ks i) = og ks i (fp ks i) + 1 := if_pos rfl
theorem og_2 {i k : Nat} (h : fp ks i ≠ k) : og ks (i + 1) k = og ks i k := if_neg h
theorem og_le (k : Nat) : ∀ i, og ks i k ≤ i := by
  intro i
  induction i with
  | zero => exact Nat.le_refl 0
  | succ i ih =>
    by_cases c : fp ks i = k
    · subst c; rw [og_1]; omega
    · rw [og_2 c]; omega
theorem la_ok (k : Nat) : ∀ i, 0 < og ks i k → la ks i k < i ∧ fp ks (la ks i k) = k ∧ ∀ j, la ks i k < j → j < i → fp ks j ≠ k := by
  intro i
  induction i with
  | zero => intro h; exact absurd h (Nat.lt_irrefl _)
  | succ i ih =>
    intro h
    by_cases c : fp ks i = k
    · subst c
      rw [la_1]
      exact ⟨Nat.lt_succ_self _, rfl, fun j h1 h2 => by omega⟩
    · rw [og_2 c] at h
      rw [la_2 c]
      obtain ⟨a1, a2, a3⟩ := ih h
      refine ⟨by omega, a2, fun j h1 h2 => ?_⟩
      by_cases c2 : j = i
      · subst c2; exact c
      · exact a3 j h1 (by omega)
theorem og_pos {k : Nat} (h : fp ks k = k) : ∀ i, k < i ↔ 0 < og ks i k := by
  intro i
  induction i with
  | zero => exact ⟨fun q => absurd q (Nat.not_lt_zero _), fun q => absurd q (Nat.lt_irrefl _)⟩
  | succ i ih =>
    by_cases c : fp ks i = k
    · have := fp_le (ks := ks) i
      subst c
      rw [og_1]
      exact ⟨fun _ => Nat.succ_pos _, fun _ => by omega⟩
    · rw [og_2 c, ← ih]
      constructor
      · intro q
        by_cases c2 : k = i
        · subst c2; exact absurd h c
        · omega
      · intro q; omega
def srF (ks : Nat → Int32) (k : Nat) : Nat → Nat → Nat
  | 0, _ => 32
  | d + 1, j => if fp ks j = k then j else srF ks k d (j + 1)
/-- the next read of k from j on; 32: none -/
def sr (ks : Nat → Int32) (n k j : Nat) : Nat := srF ks k (n - j) j
theorem sr_end {k j : Nat} (h : n ≤ j) : sr ks n k j = 32 := by
  unfold sr
  rw [show n - j = 0 by omega]; rfl
theorem sr_yes {k j : Nat} (h : j < n) (e : fp ks j = k) : sr ks n k j = j := by
  unfold sr
  rw [show n - j = (n - (j + 1)) + 1 by omega]
  exact if_pos e
theorem sr_no {k j : Nat} (h : j < n) (e : fp ks j ≠ k) : sr ks n k j = sr ks n k (j + 1) := by
  unfold sr
  rw [show n - j = (n - (j + 1)) + 1 by omega]
  exact if_neg e
theorem sr_skip {k b : Nat} (hb : b ≤ n) : ∀ d a, a + d = b → (∀ q, a ≤ q → q < b → fp ks q ≠ k) → sr ks n k a = sr ks n k b := by
  intro d
  induction d with
  | zero =>
    intro a h _
    rw [show a = b by omega]
  | succ d ih =>
    intro a h hq
    rw [sr_no (by omega) (hq a (Nat.le_refl _) (by omega))]
    exact ih (a + 1) (by omega) (fun q h1 h2 => hq q (by omega) h2)
theorem sr_b {k : Nat} (hn : n ≤ 32) : ∀ d j, j + d = n → sr ks n k j = 32 ∨ sr ks n k j < n := by
  intro d
  induction d with
  | zero => intro j h; exact Or.inl (sr_end (by omega))
  | succ d ih =>
    intro j h
    by_cases c : fp ks j = k
    · rw [sr_yes (by omega) c]; exact Or.inr (by omega)
    · rw [sr_no (by omega) c]; exact ih (j + 1) (by omega)
/-- the next read behind the latest one is the next one behind now, if now another is read -/
theorem sr_la {i k : Nat} (h : 0 < og ks i k) (hi : i < n) (hk : fp ks i ≠ k) : sr ks n k (la ks i k + 1) = sr ks n k (i + 1) := by
  obtain ⟨a1, a2, a3⟩ := la_ok k i h
  refine sr_skip (by omega) (i - la ks i k) _ (by omega) (fun q h1 h2 => ?_)
  by_cases c : q = i
  · subst c; exact hk
  · exact a3 q (by omega) (by omega)
/-- whether k leaves ahead of o, at read i -/
def lvA (pol : Nat) (ks : Nat → Int32) (n i : Nat) (s : Nat → Nat) (k o : Nat) : Bool :=
  if pol = 0 then decide (la ks i k < la ks i o)
  else if pol = 1 then decide (la ks i o < la ks i k)
  else if pol = 2 then decide (s k < s o)
  else if pol = 3 then decide (og ks i k < og ks i o ∨ (og ks i k = og ks i o ∧ la ks i k < la ks i o))
  else decide (sr ks n o (i + 1) < sr ks n k (i + 1) ∨ (sr ks n k (i + 1) = sr ks n o (i + 1) ∧ ks k < ks o))
def whN (h : Nat → Bool) (A : Nat → Nat → Bool) (k : Nat) (f : Option Nat) : Option Nat := if h k = true ∧ (∀ o, f = some o → A k o = true) then some k else f
/-- who leaves -/
def wh (h : Nat → Bool) (A : Nat → Nat → Bool) : Nat → Option Nat
  | 0 => none
  | k + 1 => whN h A k (wh h A k)
theorem wh_ok {h : Nat → Bool} {A : Nat → Nat → Bool} {q : Nat} : ∀ m, wh h A m = some q → q < m ∧ h q = true := by
  intro m
  induction m with
  | zero => intro e; cases e
  | succ m ih =>
    intro e
    have e : whN h A m (wh h A m) = some q := e
    unfold whN at e
    split at e
    · rename_i c
      obtain rfl := Option.some.inj e
      exact ⟨Nat.lt_succ_self _, c.1⟩
    · have := ih e
      exact ⟨by omega, this.2⟩
theorem wh_some {h : Nat → Bool} {A : Nat → Nat → Bool} {q : Nat} : ∀ m, q < m → h q = true → ∃ o, wh h A m = some o := by
  intro m
  induction m with
  | zero => intro e; exact absurd e (Nat.not_lt_zero _)
  | succ m ih =>
    intro e hq
    show ∃ o, whN h A m (wh h A m) = some o
    unfold whN
    split
    · exact ⟨_, rfl⟩
    · rename_i c
      by_cases c2 : q = m
      · subst c2
        cases w : wh h A q with
        | none => exact absurd ⟨hq, fun o e => by rw [w] at e; cases e⟩ c
        | some o => exact ⟨o, rfl⟩
      · exact ih (by omega) hq
theorem wh_c {h : Nat → Bool} {A B : Nat → Nat → Bool} (hA : ∀ k o, h k = true → h o = true → A k o = B k o) : ∀ m, wh h A m = wh h B m := by
  intro m
  induction m with
  | zero => rfl
  | succ m ih =>
    show whN h A m (wh h A m) = whN h B m (wh h B m)
    rw [← ih]
    unfold whN
    by_cases c : h m = true
    · have : (∀ o, wh h A m = some o → A m o = true) ↔ ∀ o, wh h A m = some o → B m o = true :=
        ⟨fun q o e => by rw [← hA m o c (wh_ok m e).2]; exact q o e, fun q o e => by rw [hA m o c (wh_ok m e).2]; exact q o e⟩
      simp only [this]
    · rw [if_neg (fun q => c q.1), if_neg (fun q => c q.1)]
def cnt (h : Nat → Bool) : Nat → Nat
  | 0 => 0
  | k + 1 => cnt h k + (if h k = true then 1 else 0)
theorem cnt_t {h : Nat → Bool} {f : Nat} (hf : h f = false) : ∀ m, cnt (up1 h f true) m = cnt h m + (if f < m then 1 else 0) := by
  intro m
  induction m with
  | zero => rfl
  | succ m ih =>
    show cnt (up1 h f true) m + _ = cnt h m + _ + _
    rw [ih]
    by_cases c : m = f
    · subst c
      rw [up1_eq, if_pos rfl, if_neg (Nat.lt_irrefl _), hf, if_neg (by decide), if_pos (Nat.lt_succ_self _)]
    · rw [up1_ne c]
      by_cases c2 : f < m
      · rw [if_pos c2, if_pos (show f < m + 1 by omega)]; omega
      · rw [if_neg c2, if_neg (show ¬ f < m + 1 by omega), Nat.add_zero, Nat.add_zero]
theorem cnt_f {h : Nat → Bool} {f : Nat} (hf : h f = true) : ∀ m, cnt (up1 h f false) m + (if f < m then 1 else 0) = cnt h m := by
  intro m
  induction m with
  | zero => rfl
  | succ m ih =>
    show cnt (up1 h f false) m + _ + _ = cnt h m + _
    by_cases c : m = f
    · subst c
      rw [if_neg (Nat.lt_irrefl _)] at ih
      rw [up1_eq, if_neg (by decide), hf, if_pos rfl, if_pos (Nat.lt_succ_self _)]
      omega
    · rw [up1_ne c]
      by_cases c2 : f < m
      · rw [if_pos c2] at ih
        rw [if_pos (show f < m + 1 by omega)]; omega
      · rw [if_neg c2] at ih
        rw [if_neg (show ¬ f < m + 1 by omega)]; omega
theorem cnt_pos {h : Nat → Bool} : ∀ m, 0 < cnt h m → ∃ k, k < m ∧ h k = true := by
  intro m
  induction m with
  | zero => intro e; exact absurd e (Nat.lt_irrefl _)
  | succ m ih =>
    intro e
    by_cases c : h m = true
    · exact ⟨m, Nat.lt_succ_self _, c⟩
    · have e : 0 < cnt h m + (if h m = true then 1 else 0) := e
      rw [if_neg c] at e
      obtain ⟨k, h1, h2⟩ := ih e
      exact ⟨k, by omega, h2⟩
theorem cnt_0 : ∀ m, cnt (fun _ => false) m = 0 := by
  intro m
  induction m with
  | zero => rfl
  | succ m ih =>
    show cnt _ m + _ = 0
    rw [ih]; rfl
/-- held; since when; misses -/
abbrev PS : Type := (Nat → Bool) × (Nat → Nat) × Nat
def leaveP (pol : Nat) (ks : Nat → Int32) (n i : Nat) (x : PS) : Nat := (wh x.1 (lvA pol ks n i x.2.1) 32).getD 0
def stepP (pol : Nat) (ks : Nat → Int32) (n c i : Nat) (x : PS) : PS :=
  if x.1 (fp ks i) = true then x
  else if c = 0 then (x.1, x.2.1, x.2.2 + 1)
  else (up1 (if cnt x.1 32 = c then up1 x.1 (leaveP pol ks n i x) false else x.1) (fp ks i) true, up1 x.2.1 (fp ks i) i, x.2.2 + 1)
def simP (pol : Nat) (ks : Nat → Int32) (n c : Nat) : Nat → PS
  | 0 => (fun _ => false, fun _ => 0, 0)
  | i + 1 => stepP pol ks n c i (simP pol ks n c i)
def POK (ks : Nat → Int32) (c i : Nat) (x : PS) : Prop := (∀ k, x.1 k = true → fp ks k = k ∧ k < i) ∧ cnt x.1 32 ≤ c ∧ x.2.2 ≤ i ∧ ∀ k, x.1 k = true → x.2.1 k < i
theorem POK.leave {pol c i : Nat} {x : PS} (h : POK ks c i x) (hc : cnt x.1 32 = c) (h0 : c ≠ 0) : x.1 (leaveP pol ks n i x) = true ∧ leaveP pol ks n i x < 32 ∧ wh x.1 (lvA pol ks n i x.2.1) 32 = some (leaveP pol ks n i x) := by
  obtain ⟨k, h1, h2⟩ := cnt_pos (h := x.1) 32 (by omega)
  obtain ⟨o, e⟩ := wh_some (A := lvA pol ks n i x.2.1) 32 h1 h2
  have := wh_ok 32 e
  unfold leaveP
  rw [e]
  exact ⟨this.2, this.1, rfl⟩
theorem POK.step {pol c i : Nat} {x : PS} (h : POK ks c i x) (hi : i < 32) : POK ks c (i + 1) (stepP pol ks n c i x) := by
  have hfi := fp_le (ks := ks) i
  unfold stepP
  by_cases c1 : x.1 (fp ks i) = true
  · rw [if_pos c1]
    exact ⟨fun k q => ⟨(h.1 k q).1, by have := (h.1 k q).2; omega⟩, h.2.1, by have := h.2.2.1; omega, fun k q => by have := h.2.2.2 k q; omega⟩
  · rw [if_neg c1]
    by_cases c2 : c = 0
    · rw [if_pos c2]
      exact ⟨fun k q => ⟨(h.1 k q).1, by have := (h.1 k q).2; omega⟩, h.2.1, by have := h.2.2.1; show x.2.2 + 1 ≤ i + 1; omega, fun k q => by have := h.2.2.2 k q; show x.2.1 k < i + 1; omega⟩
    · rw [if_neg c2]
      have c1' : x.1 (fp ks i) = false := by simpa using c1
      by_cases c3 : cnt x.1 32 = c
      · rw [if_pos c3]
        obtain ⟨l1, l2, -⟩ := h.leave (pol := pol) (n := n) c3 c2
        have hne : fp ks i ≠ leaveP pol ks n i x := fun e => by rw [← e] at l1; exact c1 l1
        refine ⟨fun k q => ?_, ?_, by have := h.2.2.1; show x.2.2 + 1 ≤ i + 1; omega, fun k q => ?_⟩
        · by_cases e : k = fp ks i
          · subst e; exact ⟨fp_fp i, by omega⟩
          · have q : up1 (up1 x.1 (leaveP pol ks n i x) false) (fp ks i) true k = true := q
            rw [up1_ne e] at q
            by_cases e2 : k = leaveP pol ks n i x
            · subst e2; rw [up1_eq] at q; cases q
            · rw [up1_ne e2] at q
              exact ⟨(h.1 k q).1, by have := (h.1 k q).2; omega⟩
        · show cnt (up1 (up1 x.1 (leaveP pol ks n i x) false) (fp ks i) true) 32 ≤ c
          have h1 := cnt_t (h := up1 x.1 (leaveP pol ks n i x) false) (f := fp ks i) (by rw [up1_ne hne]; exact c1') 32
          have h2 := cnt_f l1 32
          rw [if_pos (by omega)] at h1
          rw [if_pos l2] at h2
          omega
        · show up1 x.2.1 (fp ks i) i k < i + 1
          by_cases e : k = fp ks i
          · subst e; rw [up1_eq]; omega
          · have q : up1 (up1 x.1 (leaveP pol ks n i x) false) (fp ks i) true k = true := q
            rw [up1_ne e] at q ⊢
            by_cases e2 : k = leaveP pol ks n i x
            · subst e2; rw [up1_eq] at q; cases q
            · rw [up1_ne e2] at q
              have := h.2.2.2 k q
              omega
      · rw [if_neg c3]
        refine ⟨fun k q => ?_, ?_, by have := h.2.2.1; show x.2.2 + 1 ≤ i + 1; omega, fun k q => ?_⟩
        · by_cases e : k = fp ks i
          · subst e; exact ⟨fp_fp i, by omega⟩
          · have q : up1 x.1 (fp ks i) true k = true := q
            rw [up1_ne e] at q
            exact ⟨(h.1 k q).1, by have := (h.1 k q).2; omega⟩
        · show cnt (up1 x.1 (fp ks i) true) 32 ≤ c
          have h1 := cnt_t c1' 32
          rw [if_pos (by omega)] at h1
          have := h.2.1
          omega
        · show up1 x.2.1 (fp ks i) i k < i + 1
          by_cases e : k = fp ks i
          · subst e; rw [up1_eq]; omega
          · have q : up1 x.1 (fp ks i) true k = true := q
            rw [up1_ne e] at q ⊢
            have := h.2.2.2 k q
            omega
theorem simP_ok {pol c : Nat} : ∀ i, i ≤ 32 → POK ks c i (simP pol ks n c i) := by
  intro i
  induction i with
  | zero => intro _; exact ⟨fun k q => absurd q Bool.false_ne_true, by show cnt (fun _ => false) 32 ≤ c; rw [cnt_0]; omega, Nat.le_refl 0, fun k q => absurd q Bool.false_ne_true⟩
  | succ i ih => intro h; exact (ih (by omega)).step (by omega)
/-- with a place for each different key none ever leaves -/
theorem simP_all {pol c : Nat} (hc : rk ks n ≤ c) (hn : n ≤ 32) : ∀ i, i ≤ n → (∀ k, (simP pol ks n c i).1 k = decide (fp ks k = k ∧ k < i)) ∧ (simP pol ks n c i).2.2 = rk ks i ∧ cnt (simP pol ks n c i).1 32 = rk ks i := by
  intro i
  induction i with
  | zero =>
    intro _
    refine ⟨fun k => ?_, rfl, cnt_0 32⟩
    show false = _
    exact (decide_eq_false (fun q => absurd q.2 (Nat.not_lt_zero _))).symm
  | succ i ih =>
    intro h
    obtain ⟨a1, a2, a3⟩ := ih (by omega)
    have hfi := fp_le (ks := ks) i
    show (∀ k, (stepP pol ks n c i (simP pol ks n c i)).1 k = _) ∧ (stepP pol ks n c i (simP pol ks n c i)).2.2 = _ ∧ cnt (stepP pol ks n c i (simP pol ks n c i)).1 32 = _
    by_cases c1 : fp ks i = i
    · have hf : (simP pol ks n c i).1 (fp ks i) = false := by
        rw [a1]; exact decide_eq_false (fun q => by have := q.2; omega)
      have hlt : rk ks i < rk ks n := rk_lt c1 (by omega)
      have e : stepP pol ks n c i (simP pol ks n c i) = (up1 (simP pol ks n c i).1 (fp ks i) true, up1 (simP pol ks n c i).2.1 (fp ks i) i, (simP pol ks n c i).2.2 + 1) := by
        unfold stepP
        rw [if_neg (by rw [hf]; decide), if_neg (by omega), if_neg (show ¬ cnt (simP pol ks n c i).1 32 = c by omega)]
      rw [e]
      refine ⟨fun k => ?_, by show _ + 1 = _; rw [rk_f c1, a2], ?_⟩
      · show up1 (simP pol ks n c i).1 (fp ks i) true k = _
        by_cases q : k = fp ks i
        · subst q
          rw [up1_eq]
          exact (decide_eq_true ⟨fp_fp i, by omega⟩).symm
        · rw [up1_ne q, a1]
          exact decide_eq_decide.mpr ⟨fun w => ⟨w.1, by omega⟩, fun w => ⟨w.1, by omega⟩⟩
      · show cnt (up1 (simP pol ks n c i).1 (fp ks i) true) 32 = _
        rw [cnt_t hf, a3, if_pos (by omega), rk_f c1]
    · have hf : (simP pol ks n c i).1 (fp ks i) = true := by
        rw [a1]; exact decide_eq_true ⟨fp_fp i, by omega⟩
      have e : stepP pol ks n c i (simP pol ks n c i) = simP pol ks n c i := if_pos hf
      rw [e]
      refine ⟨fun k => ?_, by rw [a2, rk_nf c1], by rw [a3, rk_nf c1]⟩
      rw [a1]
      refine decide_eq_decide.mpr ⟨fun w => ⟨w.1, by omega⟩, fun w => ⟨w.1, ?_⟩⟩
      by_cases q : k = i
      · subst q; exact absurd w.1 c1
      · omega
/-- who leaves, over the different keys -/
theorem wh_rk {h : Nat → Bool} {A : Nat → Nat → Bool} {h2 : Nat → Bool} {A2 : Nat → Nat → Bool} (hF : ∀ k, h k = true → fp ks k = k) (e1 : ∀ k, fp ks k = k → k < n → h2 (rk ks k) = h k) (e2 : ∀ k o, h k = true → h o = true → k < n → o < n → A2 (rk ks k) (rk ks o) = A k o) : ∀ m, m ≤ n → wh h2 A2 (rk ks m) = (wh h A m).map (rk ks) := by
  intro m
  induction m with
  | zero => intro _; rfl
  | succ m ih =>
    intro hm
    have ih := ih (by omega)
    show _ = (whN h A m (wh h A m)).map (rk ks)
    by_cases c : fp ks m = m
    · rw [rk_f c]
      show whN h2 A2 (rk ks m) (wh h2 A2 (rk ks m)) = _
      rw [ih]
      unfold whN
      by_cases c2 : h m = true
      · have e3 : (∀ o, (wh h A m).map (rk ks) = some o → A2 (rk ks m) o = true) ↔ ∀ o, wh h A m = some o → A m o = true := by
          constructor
          · intro q o e
            have hw := wh_ok m e
            rw [← e2 m o c2 hw.2 (by omega) (by omega)]
            exact q (rk ks o) (by rw [e]; rfl)
          · intro q o e
            cases w : wh h A m with
            | none => rw [w] at e; cases e
            | some o2 =>
              rw [w] at e
              obtain rfl := Option.some.inj e
              have hw := wh_ok m w
              rw [e2 m o2 c2 hw.2 (by omega) (by omega)]
              exact q o2 w
        rw [e1 m c (by omega)]
        by_cases c3 : ∀ o, wh h A m = some o → A m o = true
        · rw [if_pos ⟨c2, e3.mpr c3⟩, if_pos ⟨c2, c3⟩]; rfl
        · rw [if_neg (fun q => c3 (e3.mp q.2)), if_neg (fun q => c3 q.2)]
      · rw [e1 m c (by omega), if_neg (fun q => c2 q.1), if_neg (fun q => c2 q.1)]
    · rw [rk_nf c, ih]
      unfold whN
      rw [if_neg (fun q => c (hF m q.1))]
theorem wh_ext {h : Nat → Bool} {A : Nat → Nat → Bool} {a : Nat} (hh : ∀ k, a ≤ k → h k = false) : ∀ d, wh h A (a + d) = wh h A a := by
  intro d
  induction d with
  | zero => rfl
  | succ d ih =>
    show whN h A (a + d) (wh h A (a + d)) = _
    unfold whN
    rw [if_neg (fun q => by rw [hh (a + d) (by omega)] at q; exact absurd q.1 (by decide)), ih]
end RPY

/-! ===== ask: how many are alike ===== -/
section ASA
def bt2 (S t : Nat) : Nat := S / 2 ^ t % 2
theorem bt2_lt (S t : Nat) : bt2 S t < 2 := Nat.mod_lt _ (by decide)
section AD
variable (e : Nat → Nat → Bool) (S : Nat)
def ac1 (t : Nat) : Nat → Nat → Nat → Nat
  | 0, _, n => n
  | d + 1, j, n => ac1 t d (j + 1) (if bt2 S j = 1 ∧ e j t = true then n + 1 else n)
def acA : Nat → Nat → Nat → Nat
  | 0, _, m => m
  | d + 1, t, m => acA d (t + 1) (if bt2 S t = 1 then max m (ac1 e S t (3 - t) (t + 1) 1) else m)
def am1 (a : Nat) : Nat → Nat → Nat → Nat
  | 0, _, n => n
  | d + 1, b, n => am1 a d (b + 1) (if bt2 S b = 1 ∧ e a b = true then n + 1 else n)
def amA : Nat → Nat → Nat → Nat
  | 0, _, m => m
  | d + 1, a, m => amA d (a + 1) (if bt2 S a = 1 then max m (am1 e S a 4 0 0) else m)
end AD
theorem ac1_c {e e2 : Nat → Nat → Bool} {S t : Nat} (h : ∀ i j, i < 4 → j < 4 → e i j = e2 i j) (ht : t < 4) : ∀ d j n, j + d ≤ 4 → ac1 e S t d j n = ac1 e2 S t d j n
  | 0, _, _, _ => rfl
  | d + 1, j, n, hd => by
    show ac1 e S t d (j + 1) _ = ac1 e2 S t d (j + 1) _
    rw [h j t (by omega) ht, ac1_c h ht d (j + 1) _ (by omega)]
theorem am1_c {e e2 : Nat → Nat → Bool} {S a : Nat} (h : ∀ i j, i < 4 → j < 4 → e i j = e2 i j) (ha : a < 4) : ∀ d j n, j + d ≤ 4 → am1 e S a d j n = am1 e2 S a d j n
  | 0, _, _, _ => rfl
  | d + 1, j, n, hd => by
    show am1 e S a d (j + 1) _ = am1 e2 S a d (j + 1) _
    rw [h a j ha (by omega), am1_c h ha d (j + 1) _ (by omega)]
theorem acA_c {e e2 : Nat → Nat → Bool} {S : Nat} (h : ∀ i j, i < 4 → j < 4 → e i j = e2 i j) : ∀ d t m, t + d ≤ 4 → acA e S d t m = acA e2 S d t m
  | 0, _, _, _ => rfl
  | d + 1, t, m, hd => by
    show acA e S d (t + 1) _ = acA e2 S d (t + 1) _
    rw [ac1_c h (by omega) _ _ _ (by omega), acA_c h d (t + 1) _ (by omega)]
theorem amA_c {e e2 : Nat → Nat → Bool} {S : Nat} (h : ∀ i j, i < 4 → j < 4 → e i j = e2 i j) : ∀ d t m, t + d ≤ 4 → amA e S d t m = amA e2 S d t m
  | 0, _, _, _ => rfl
  | d + 1, t, m, hd => by
    show amA e S d (t + 1) _ = amA e2 S d (t + 1) _
    rw [am1_c h (by omega) _ _ _ (by omega), amA_c h d (t + 1) _ (by omega)]
def lb4 (a b c d : Nat) (i : Nat) : Nat := if i = 0 then a else if i = 1 then b else if i = 2 then c else d
theorem al_fin : ∀ (b : Fin 2) (c : Fin 3) (d : Fin 4) (S : Fin 16), acA (fun i j => decide (lb4 0 b.val c.val d.val i = lb4 0 b.val c.val d.val j)) S.val 4 0 0 = amA (fun i j => decide (lb4 0 b.val c.val d.val i = lb4 0 b.val c.val d.val j)) S.val 4 0 0 := by decide +kernel
theorem al_eq {m : Nat → Int32} {S : Nat} (hS : S < 16) : acA (fun i j => decide (m i = m j)) S 4 0 0 = amA (fun i j => decide (m i = m j)) S 4 0 0 := by
  have hl : ∃ b c d : Nat, b < 2 ∧ c < 3 ∧ d < 4 ∧ ∀ i j, i < 4 → j < 4 → (m i = m j ↔ lb4 0 b c d i = lb4 0 b c d j) := by
    refine ⟨if m 1 = m 0 then 0 else 1, if m 2 = m 0 then 0 else if m 2 = m 1 then 1 else 2, if m 3 = m 0 then 0 else if m 3 = m 1 then 1 else if m 3 = m 2 then 2 else 3, by split <;> omega, by split <;> (try omega) <;> split <;> omega, by split <;> (try omega) <;> split <;> (try omega) <;> split <;> omega, fun i j hi hj => ?_⟩
    by_cases h10 : m 1 = m 0 <;> by_cases h20 : m 2 = m 0 <;> by_cases h21 : m 2 = m 1 <;> by_cases h30 : m 3 = m 0 <;> by_cases h31 : m 3 = m 1 <;> by_cases h32 : m 3 = m 2 <;> rcases (show i = 0 ∨ i = 1 ∨ i = 2 ∨ i = 3 by omega) with rfl | rfl | rfl | rfl <;> rcases (show j = 0 ∨ j = 1 ∨ j = 2 ∨ j = 3 by omega) with rfl | rfl | rfl | rfl <;> simp_all [lb4, eq_comm]
  obtain ⟨b, c, d, hb, hc, hd, h⟩ := hl
  have he : ∀ i j, i < 4 → j < 4 → decide (m i = m j) = decide (lb4 0 b c d i = lb4 0 b c d j) := fun i j hi hj => decide_eq_decide.mpr (h i j hi hj)
  rw [acA_c (e2 := fun i j => decide (lb4 0 b c d i = lb4 0 b c d j)) he 4 0 0 (by omega), amA_c (e2 := fun i j => decide (lb4 0 b c d i = lb4 0 b c d j)) he 4 0 0 (by omega)]
  exact al_fin ⟨b, hb⟩ ⟨c, hc⟩ ⟨d, hd⟩ ⟨S, hS⟩
theorem ac1_le {e : Nat → Nat → Bool} {S t : Nat} : ∀ d j n, ac1 e S t d j n ≤ n + d ∧ n ≤ ac1 e S t d j n
  | 0, _, n => ⟨Nat.le_refl _, Nat.le_refl _⟩
  | d + 1, j, n => by
    have := ac1_le (e := e) (S := S) (t := t) d (j + 1) (if bt2 S j = 1 ∧ e j t = true then n + 1 else n)
    show ac1 e S t d (j + 1) _ ≤ _ ∧ _ ≤ ac1 e S t d (j + 1) _
    split at this <;> rename_i q
    · rw [if_pos q]; omega
    · rw [if_neg q]; omega
theorem acA_le {e : Nat → Nat → Bool} {S : Nat} : ∀ d t m, m ≤ 4 → t + d = 4 → acA e S d t m ≤ 4 ∧ m ≤ acA e S d t m
  | 0, _, m, h, _ => ⟨h, Nat.le_refl _⟩
  | d + 1, t, m, h, hd => by
    have h1 := ac1_le (e := e) (S := S) (t := t) (3 - t) (t + 1) 1
    have := acA_le (e := e) (S := S) d (t + 1) (if bt2 S t = 1 then max m (ac1 e S t (3 - t) (t + 1) 1) else m) (by split <;> omega) (by omega)
    show acA e S d (t + 1) _ ≤ 4 ∧ m ≤ acA e S d (t + 1) _
    refine ⟨this.1, Nat.le_trans ?_ this.2⟩
    split <;> omega
theorem am1_le {e : Nat → Nat → Bool} {S a : Nat} : ∀ d j n, am1 e S a d j n ≤ n + d
  | 0, _, n => Nat.le_refl _
  | d + 1, j, n => by
    have := am1_le (e := e) (S := S) (a := a) d (j + 1) (if bt2 S j = 1 ∧ e a j = true then n + 1 else n)
    show am1 e S a d (j + 1) _ ≤ _
    split at this <;> rename_i q
    · rw [if_pos q]; omega
    · rw [if_neg q]; omega
theorem sh_bt : ∀ (S : Fin 16) (t : Fin 4), ((nI S.val).toUInt32 >>> ((nI t.val).toUInt32 &&& Int32.toUInt32 31)).toInt32 &&& nI 1 = nI (bt2 S.val t.val) := by decide +kernel
theorem sh_btL : ∀ (S : Fin 16) (t : Fin 4), decide (((nI S.val).toInt64 >>> ((nI t.val).toInt64 &&& 63)) &&& 1 = 1) = decide (bt2 S.val t.val = 1) := by decide +kernel
variable {g : Gl} {M : Mem}
theorem lcmp_ne (x y : Int64) : lg_cmp x y = 0 ↔ x = y := by
  constructor
  · intro h
    have a := (lcmp_ge x y).mp (by rw [h]; decide)
    have b := (lcmp_le x y).mp (by rw [h]; decide)
    have a1 := mt Int64.lt_iff_toInt_lt.mpr a
    have b1 := mt Int64.lt_iff_toInt_lt.mpr b
    exact Int64.toInt_inj.mp (by omega)
  · rintro rfl
    have a := (lcmp_ge x x).mpr (fun h => by have := Int64.lt_iff_toInt_lt.mp h; omega)
    have b := (lcmp_le x x).mpr (fun h => by have := Int64.lt_iff_toInt_lt.mp h; omega)
    have a1 := Int32.le_iff_toInt_le.mp a
    have b1 := Int32.le_iff_toInt_le.mp b
    exact Int32.toInt_inj.mp (by omega)
theorem m_isIn {s : Int64} {k : Int32} : Ci g Y_Mo_isIn 0 [.long s, .int k] M (fun x M2 => x = bI (decide ((s >>> (k.toInt64 &&& 63)) &&& 1 = 1)) ∧ M2 = M) := by
  refine cw_entry 0 pf_Mo_isIn rfl ?_
  refine wp_lload_n rfl (ck_get kk_Mo_isIn 0 rfl) ?_
  refine wp_iload_n rfl (ck_get kk_Mo_isIn 1 rfl) ?_
  refine wp_lshr (ck_get kk_Mo_isIn 2 rfl) ?_
  refine wp_lconst (v := 1) (by decide) (ck_get kk_Mo_isIn 3 rfl) ?_
  refine wp_land (ck_get kk_Mo_isIn 4 rfl) ?_
  refine wp_lconst (v := 1) (by decide) (ck_get kk_Mo_isIn 5 rfl) ?_
  refine wp_lcmp (ck_get kk_Mo_isIn 6 rfl) ?_
  refine wp_if_ne (t := 14) (ck_get kk_Mo_isIn 7 rfl) (by decide) (fun hc7 => ?_) (fun hc7 => ?_)
  · refine wp_iconst (v := nI 0) (by decide) (ck_get kk_Mo_isIn 10 rfl) ?_
    refine wp_ireturn (ck_get kk_Mo_isIn 11 rfl) rfl rfl ⟨_, rfl, ?_⟩
    exact ⟨by rw [decide_eq_false (mt (lcmp_ne _ _).mpr hc7)]; rfl, rfl⟩
  · refine wp_iconst (v := nI 1) (by decide) (ck_get kk_Mo_isIn 8 rfl) ?_
    refine wp_goto (t := 15) (ck_get kk_Mo_isIn 9 rfl) (by decide) ?_
    refine wp_ireturn (ck_get kk_Mo_isIn 11 rfl) rfl rfl ⟨_, rfl, ?_⟩
    exact ⟨by rw [decide_eq_true ((lcmp_ne _ _).mp hc7)]; rfl, rfl⟩
end ASA

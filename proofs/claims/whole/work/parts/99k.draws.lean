/-! ===== what is drawn ===== -/
def dw (x : Nat) : Nat := (1103 * x + 12345) % 1000003
theorem dw_lt (x : Nat) : dw x < 1000003 := Nat.mod_lt _ (by decide)
theorem bm64 {z : Int} (h1 : -4611686018427387904 ≤ z) (h2 : z < 4611686018427387904) : z.bmod (2 ^ 64) = z := Int.bmod_eq_of_le (by omega) (by omega)
theorem lrem_nat {a b : Int64} {x y : Nat} (ha : a.toInt = x) (hb : b.toInt = y) (hx : x < 4611686018427387904) (hy : 0 < y) : (a - a / b * b).toInt = ((x % y : Nat) : Int) := by
  have hdl : x / y * y ≤ x := Nat.div_mul_le_self x y
  have hdd : x / y ≤ x := Nat.div_le_self x y
  have e0 : (x : Int).tdiv (y : Int) = ((x / y : Nat) : Int) := rfl
  have e1 : (a / b).toInt = ((x / y : Nat) : Int) := by
    rw [Int64.toInt_div, ha, hb, e0]
    clear e0
    generalize x / y = q at hdd
    have hq : (0 : Int) ≤ (q : Int) := Int.natCast_nonneg q
    exact bm64 (z := (q : Int)) (by omega) (by omega)
  have e2 : (a / b * b).toInt = ((x / y * y : Nat) : Int) := by
    rw [Int64.toInt_mul, e1, hb, ← Int.natCast_mul]
    exact bm64 (by omega) (by omega)
  rw [Int64.toInt_sub, ha, e2, bm64 (by omega) (by omega)]
  have := Nat.mod_add_div x y
  rw [Nat.mul_comm] at this
  omega
theorem l2i_nat {a : Int64} {x : Nat} (ha : a.toInt = x) (hx : x < 2147483648) : a.toInt32 = nI x := by
  refine Int32.toInt_inj.mp ?_
  rw [Int64.toInt_toInt32, ha, nI_toInt hx]
  exact Int.bmod_eq_of_le (by omega) (by omega)
theorem dwm {s m : Int64} {x : Nat} (hm : m.toInt = ((1103 * x : Nat) : Int)) (hx : x ≤ 1000003) : ((m + 12345) - (m + 12345) / 1000003 * 1000003).toInt = (dw x : Int) := by
  have e1 : (m + 12345).toInt = ((1103 * x + 12345 : Nat) : Int) := by
    rw [Int64.toInt_add, hm, show (12345 : Int64).toInt = 12345 by decide, bm64 (by omega) (by omega)]; omega
  exact lrem_nat (y := 1000003) e1 (by decide) (by omega) (by decide)
theorem dw1 {s : Int64} {x : Nat} (hs : s.toInt = x) (hx : x ≤ 1000003) : (s * 1103).toInt = ((1103 * x : Nat) : Int) ∧ (1103 * s).toInt = ((1103 * x : Nat) : Int) := by
  constructor
  · rw [Int64.toInt_mul, hs, show (1103 : Int64).toInt = 1103 by decide, bm64 (by omega) (by omega)]; omega
  · rw [Int64.toInt_mul, hs, show (1103 : Int64).toInt = 1103 by decide, bm64 (by omega) (by omega)]; omega
section DRW
variable {g : Gl} {M : Mem} {o : Nat}
theorem c_nextDraw {s : Int64} {x : Nat} (hs : s.toInt = x) (hx : x ≤ 1000003) : Cl g Y_Mc_nextDraw 0 [.long s] M (fun v M2 => v.toInt = (dw x : Int) ∧ M2 = M) := by
  have h1 := (dw1 hs hx).1
  have h2 := (dw1 hs hx).2
  refine cw_entry 0 pf_Mc_nextDraw rfl ?_
  refine wp_lload_n rfl (ck_get kk_Mc_nextDraw 0 rfl) ?_
  refine wp_ldc2 kl_Mc_391 (ck_get kk_Mc_nextDraw 1 rfl) ?_
  refine wp_lmul (ck_get kk_Mc_nextDraw 2 rfl) ?_
  refine wp_ldc2 kl_Mc_393 (ck_get kk_Mc_nextDraw 3 rfl) ?_
  refine wp_ladd (ck_get kk_Mc_nextDraw 4 rfl) ?_
  refine wp_ldc2 kl_Mc_395 (ck_get kk_Mc_nextDraw 5 rfl) ?_
  refine wp_lrem (by decide) (ck_get kk_Mc_nextDraw 6 rfl) ?_
  refine wp_lreturn (ck_get kk_Mc_nextDraw 7 rfl) rfl ⟨_, rfl, ?_⟩
  exact ⟨dwm (s := s) (by first | exact h1 | exact h2) hx, rfl⟩
theorem m_draws {x k : Nat} (hM : MoAt (mT M) (mR M) o) (h63 : mI M o 63 = nI x) (hx : x ≤ 1000003) (hk : 0 < k) (hk2 : k < 1000) : Ci g Y_Mo_draws 0 [.ref o, .int (nI k)] M (fun v M2 => v = nI (dw x % k) ∧ M2 = sI M o 63 (nI (dw x))) := by
  have to0 := hM.1
  have hd := dw_lt x
  have hx64 : (nI x).toInt64.toInt = x := by rw [Int32.toInt_toInt64, nI_toInt (by omega)]
  have h1 := (dw1 hx64 hx).1
  have h2 := (dw1 hx64 hx).2
  refine cw_entry 0 pf_Mo_draws rfl ?_
  refine wp_aload_n rfl (ck_get kk_Mo_draws 0 rfl) ?_
  refine wp_ldc2 kl_Mo_547 (ck_get kk_Mo_draws 1 rfl) ?_
  refine wp_aload_n rfl (ck_get kk_Mo_draws 2 rfl) ?_
  refine wp_getIv (v := nI x) (ck_get kk_Mo_draws 3 rfl) fl_Mo_549 (by assumption) (h63) ?_
  refine wp_i2l (ck_get kk_Mo_draws 4 rfl) ?_
  refine wp_lmul (ck_get kk_Mo_draws 5 rfl) ?_
  refine wp_ldc2 kl_Mo_552 (ck_get kk_Mo_draws 6 rfl) ?_
  refine wp_ladd (ck_get kk_Mo_draws 7 rfl) ?_
  refine wp_ldc2 kl_Mo_554 (ck_get kk_Mo_draws 8 rfl) ?_
  refine wp_lrem (by decide) (ck_get kk_Mo_draws 9 rfl) ?_
  refine wp_l2i (ck_get kk_Mo_draws 10 rfl) ?_
  rw [l2i_nat (dwm (s := (nI x).toInt64) (by first | exact h1 | exact h2) hx) (by omega)]
  refine wp_putI (ck_get kk_Mo_draws 11 rfl) fl_Mo_549 (by decide +kernel) (by assumption) (okI_int _) ?_
  refine wp_aload_n rfl (ck_get kk_Mo_draws 12 rfl) ?_
  refine wp_getIv (v := nI (dw x)) (ck_get kk_Mo_draws 13 rfl) fl_Mo_549 (by assumption) (by show up2 (mI M) o 63 _ o 63 = _; simp [up2]) ?_
  refine wp_iload_n rfl (ck_get kk_Mo_draws 14 rfl) ?_
  first | refine wp_iremN (ck_get kk_Mo_draws 15 rfl) (by omega) (by omega) (by omega) ?_ | refine wp_irem (by decide) (ck_get kk_Mo_draws 15 rfl) ?_
  refine wp_ireturn (ck_get kk_Mo_draws 16 rfl) rfl rfl ⟨_, rfl, ?_⟩
  exact ⟨rfl, rfl⟩
end DRW

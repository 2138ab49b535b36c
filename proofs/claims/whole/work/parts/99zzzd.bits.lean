/-! ===== bits of words ===== -/
section BTS
def btI (x : Int32) (r : Nat) : Bool := x.toBitVec.getLsbD r
def btJ (x : Int64) (r : Nat) : Bool := x.toBitVec.getLsbD r
theorem tb1 {r : Nat} (h : 0 < r) : Nat.testBit 1 r = false := by
  obtain ⟨q, rfl⟩ : ∃ q, r = q + 1 := ⟨r - 1, by omega⟩
  rw [Nat.testBit_succ]
  exact Nat.zero_testBit q
theorem btI_0 (r : Nat) : btI 0 r = false := by
  unfold btI
  rw [show (0 : Int32).toBitVec = 0#32 from rfl]
  exact BitVec.getLsbD_zero
theorem btJ_0 (r : Nat) : btJ 0 r = false := by
  unfold btJ
  rw [show (0 : Int64).toBitVec = 0#64 from rfl]
  exact BitVec.getLsbD_zero
theorem btI_hi {x : Int32} {r : Nat} (h : 32 ≤ r) : btI x r = false := BitVec.getLsbD_of_ge _ _ h
theorem btJ_hi {x : Int64} {r : Nat} (h : 64 ≤ r) : btJ x r = false := BitVec.getLsbD_of_ge _ _ h
theorem btI_ext {x y : Int32} (h : ∀ r, r < 32 → btI x r = btI y r) : x = y := by
  refine Int32.toBitVec_inj.mp (BitVec.eq_of_getLsbD_eq fun r hr => h r hr)
theorem btJ_ext {x y : Int64} (h : ∀ r, r < 64 → btJ x r = btJ y r) : x = y := by
  refine Int64.toBitVec_inj.mp (BitVec.eq_of_getLsbD_eq fun r hr => h r hr)
theorem sh_I : ∀ q : Fin 32, (1 : Int32) <<< (nI q.val &&& 31) = Int32.ofBitVec (BitVec.twoPow 32 q.val) := by decide +kernel
theorem sh_J : ∀ q : Fin 32, (1 : Int64) <<< ((nI q.val).toInt64 &&& 63) = Int64.ofBitVec (BitVec.twoPow 64 q.val) := by decide +kernel
theorem bt_1I {q : Nat} (hq : q < 32) (r : Nat) : btI ((1 : Int32) <<< (nI q &&& 31)) r = decide (q = r) := by
  rw [sh_I ⟨q, hq⟩]
  show (BitVec.twoPow 32 q).getLsbD r = _
  rw [BitVec.getLsbD_twoPow]
  by_cases e : q = r
  · subst e; simp [hq]
  · simp [e]
theorem bt_1J {q : Nat} (hq : q < 32) (r : Nat) : btJ ((1 : Int64) <<< ((nI q).toInt64 &&& 63)) r = decide (q = r) := by
  rw [sh_J ⟨q, hq⟩]
  show (BitVec.twoPow 64 q).getLsbD r = _
  rw [BitVec.getLsbD_twoPow]
  by_cases e : q = r
  · subst e; simp [show q < 64 by omega]
  · simp [e]
theorem btI_and (x y : Int32) (r : Nat) : btI (x &&& y) r = (btI x r && btI y r) := by
  unfold btI
  rw [Int32.toBitVec_and, BitVec.getLsbD_and]
theorem btI_or (x y : Int32) (r : Nat) : btI (x ||| y) r = (btI x r || btI y r) := by
  unfold btI
  rw [Int32.toBitVec_or, BitVec.getLsbD_or]
theorem btI_not (x : Int32) {r : Nat} (h : r < 32) : btI (x ^^^ (-1)) r = !btI x r := by
  unfold btI
  rw [Int32.toBitVec_xor, BitVec.getLsbD_xor, show (-1 : Int32).toBitVec = BitVec.allOnes 32 by decide, BitVec.getLsbD_allOnes, decide_eq_true h, Bool.xor_true]
theorem btJ_and (x y : Int64) (r : Nat) : btJ (x &&& y) r = (btJ x r && btJ y r) := by
  unfold btJ
  rw [Int64.toBitVec_and, BitVec.getLsbD_and]
theorem btJ_or (x y : Int64) (r : Nat) : btJ (x ||| y) r = (btJ x r || btJ y r) := by
  unfold btJ
  rw [Int64.toBitVec_or, BitVec.getLsbD_or]
theorem btJ_not (x : Int64) {r : Nat} (h : r < 64) : btJ (x ^^^ (-1)) r = !btJ x r := by
  unfold btJ
  rw [Int64.toBitVec_xor, BitVec.getLsbD_xor, show (-1 : Int64).toBitVec = BitVec.allOnes 64 by decide, BitVec.getLsbD_allOnes, decide_eq_true h, Bool.xor_true]
/-- a bit taken out -/
theorem bt_outI {x : Int32} {q r : Nat} (hq : q < 32) (hr : r < 32) : btI (x &&& ((1 : Int32) <<< (nI q &&& 31) ^^^ (-1))) r = if r = q then false else btI x r := by
  rw [btI_and, btI_not _ hr, bt_1I hq]
  by_cases e : r = q
  · subst e; simp
  · rw [if_neg e, decide_eq_false (Ne.symm e)]; simp
theorem bt_inI {x : Int32} {q r : Nat} (hq : q < 32) : btI (x ||| (1 : Int32) <<< (nI q &&& 31)) r = if r = q then true else btI x r := by
  rw [btI_or, bt_1I hq]
  by_cases e : r = q
  · subst e; simp
  · rw [if_neg e, decide_eq_false (Ne.symm e)]; simp
theorem bt_outJ {x : Int64} {q r : Nat} (hq : q < 32) (hr : r < 64) : btJ (x &&& ((1 : Int64) <<< ((nI q).toInt64 &&& 63) ^^^ (-1))) r = if r = q then false else btJ x r := by
  rw [btJ_and, btJ_not _ hr, bt_1J hq]
  by_cases e : r = q
  · subst e; simp
  · rw [if_neg e, decide_eq_false (Ne.symm e)]; simp
theorem bt_inJ {x : Int64} {q r : Nat} (hq : q < 32) : btJ (x ||| (1 : Int64) <<< ((nI q).toInt64 &&& 63)) r = if r = q then true else btJ x r := by
  rw [btJ_or, bt_1J hq]
  by_cases e : r = q
  · subst e; simp
  · rw [if_neg e, decide_eq_false (Ne.symm e)]; simp
theorem sk_I : ∀ q : Fin 32, ((nI q.val).toUInt32 &&& Int32.toUInt32 31).toBitVec = BitVec.ofNat 32 q.val ∧ ((nI q.val).toUInt32 &&& Int32.toUInt32 31).toNat % 32 = q.val := by decide +kernel
/-- a bit asked for -/
theorem bt_askI {x : Int32} {q : Nat} (hq : q < 32) : ((x.toUInt32 >>> ((nI q).toUInt32 &&& Int32.toUInt32 31)).toInt32 &&& nI 1) = bI (btI x q) := by
  refine btI_ext fun r hr => ?_
  rw [btI_and]
  have e1 : btI (x.toUInt32 >>> ((nI q).toUInt32 &&& Int32.toUInt32 31)).toInt32 r = btI x (q + r) := by
    show ((x.toUInt32 >>> ((nI q).toUInt32 &&& Int32.toUInt32 31)).toBitVec).getLsbD r = x.toBitVec.getLsbD (q + r)
    rw [UInt32.toBitVec_shiftRight, BitVec.ushiftRight_eq', BitVec.getLsbD_ushiftRight]
    have := (sk_I ⟨q, hq⟩).2
    rw [show (((nI q).toUInt32 &&& Int32.toUInt32 31).toBitVec % 32).toNat = q from this]
    rfl
  have e2 : btI (nI 1) r = decide (r = 0) := by
    rcases Nat.eq_zero_or_pos r with c | c
    · subst c; rfl
    · rw [decide_eq_false (by omega)]
      show (BitVec.ofNat 32 1).getLsbD r = false
      rw [BitVec.getLsbD_ofNat]
      rw [tb1 c, Bool.and_false]
  have e3 : btI (bI (btI x q)) r = (btI x q && decide (r = 0)) := by
    cases w : btI x q
    · exact btI_0 r
    · rw [Bool.true_and, ← e2]; rfl
  rw [e1, e2, e3]
  rcases Nat.eq_zero_or_pos r with c | c
  · subst c; rfl
  · rw [decide_eq_false (by omega), Bool.and_false, Bool.and_false]
theorem sk_J : ∀ q : Fin 32, ((nI q.val).toInt64 &&& 63).toBitVec.smod 64 = BitVec.ofNat 64 q.val := by decide +kernel
theorem bt_askJ {x : Int64} {q : Nat} (hq : q < 32) : decide (((x >>> ((nI q).toInt64 &&& 63)) &&& 1) = 1) = btJ x q := by
  have e1 : ∀ r, r < 32 → btJ (x >>> ((nI q).toInt64 &&& 63)) r = btJ x (q + r) := fun r hr => by
    show (x >>> ((nI q).toInt64 &&& 63)).toBitVec.getLsbD r = x.toBitVec.getLsbD (q + r)
    rw [Int64.toBitVec_shiftRight, sk_J ⟨q, hq⟩, BitVec.sshiftRight_eq', BitVec.getLsbD_sshiftRight]
    have : (BitVec.ofNat 64 q).toNat = q := by rw [BitVec.toNat_ofNat]; omega
    rw [this]
    simp [show q + r < 64 by omega, show ¬ 64 ≤ r by omega]
  have e2 : ∀ r, r < 64 → btJ 1 r = decide (r = 0) := fun r hr => by
    rcases Nat.eq_zero_or_pos r with c | c
    · subst c; rfl
    · rw [decide_eq_false (by omega)]
      show (BitVec.ofNat 64 1).getLsbD r = false
      rw [BitVec.getLsbD_ofNat]
      rw [tb1 c, Bool.and_false]
  cases w : btJ x q
  · refine decide_eq_false fun e => ?_
    have := congrArg (fun y => btJ y 0) e
    simp only [btJ_and] at this
    rw [e1 0 (by omega), e2 0 (by omega), Nat.add_zero, w] at this
    cases this
  · refine decide_eq_true (btJ_ext fun r hr => ?_)
    rw [btJ_and, e2 r hr]
    rcases Nat.eq_zero_or_pos r with c | c
    · subst c; rw [e1 0 (by omega), Nat.add_zero, w]; rfl
    · rw [decide_eq_false (by omega), Bool.and_false]
theorem bt_subI {a b : Int32} : (a &&& (b ^^^ (-1))) = 0 ↔ ∀ r, r < 32 → btI a r = true → btI b r = true := by
  constructor
  · intro e r hr h
    have := congrArg (fun y => btI y r) e
    simp only [btI_and] at this
    rw [btI_not _ hr, btI_0, h] at this
    simpa using this
  · intro h
    refine btI_ext fun r hr => ?_
    rw [btI_and, btI_not _ hr, btI_0]
    cases w : btI a r
    · rfl
    · rw [h r hr w]; rfl
theorem bt_subJ {a b : Int64} : (a &&& (b ^^^ (-1))) = 0 ↔ ∀ r, r < 64 → btJ a r = true → btJ b r = true := by
  constructor
  · intro e r hr h
    have := congrArg (fun y => btJ y r) e
    simp only [btJ_and] at this
    rw [btJ_not _ hr, btJ_0, h] at this
    simpa using this
  · intro h
    refine btJ_ext fun r hr => ?_
    rw [btJ_and, btJ_not _ hr, btJ_0]
    cases w : btJ a r
    · rfl
    · rw [h r hr w]; rfl
end BTS

/-! ===== feed: four bytes of an int ===== -/
section BYT
/-- a byte of an int, behind a shift -/
def by4 (x : Int32) (s : Nat) : Nat := (x.toBitVec >>> s).toNat % 256
theorem by4_lt (x : Int32) (s : Nat) : by4 x s < 256 := Nat.mod_lt _ (by decide)
def sh4 (s : Nat) : Prop := s = 24 ∨ s = 16 ∨ s = 8 ∨ s = 0
theorem by4_u {x : Int32} {s : Nat} (hs : sh4 s) : (x.toUInt32 >>> ((nI s).toUInt32 &&& Int32.toUInt32 31)).toInt32.toBitVec = x.toBitVec >>> s := by
  rcases hs with rfl | rfl | rfl | rfl <;> rfl
theorem by4_a {x : Int32} {s : Nat} (hs : sh4 s) : (x >>> (nI s &&& 31)).toBitVec = x.toBitVec.sshiftRight s := by
  rcases hs with rfl | rfl | rfl | rfl <;> rfl
theorem by4_c {x : Int32} {s : Nat} (hs : sh4 s) : (x.toUInt32 >>> ((nI s).toUInt32 &&& Int32.toUInt32 31)).toInt32 &&& nI 255 = nI (by4 x s) := by
  apply Int32.toBitVec_inj.mp
  rw [Int32.toBitVec_and, by4_u hs]
  apply BitVec.eq_of_toNat_eq
  rw [BitVec.toNat_and]
  show (x.toBitVec >>> s).toNat &&& 255 = (BitVec.ofNat 32 (by4 x s)).toNat
  rw [BitVec.toNat_ofNat, Nat.mod_eq_of_lt (Nat.lt_of_lt_of_le (by4_lt x s) (by decide)), show (255 : Nat) = 2 ^ 8 - 1 from rfl, Nat.and_two_pow_sub_one_eq_mod]
  rfl
theorem by4_m {x : Int32} {s : Nat} (hs : sh4 s) : (x >>> (nI s &&& 31)).toInt8.toInt32.toInt8.toInt32 = sgb (by4 x s) := by
  unfold sgb
  rw [Int8.toInt8_toInt32]
  congr 1
  apply Int8.toBitVec_inj.mp
  rw [Int32.toBitVec_toInt8, Int32.toBitVec_toInt8, by4_a hs]
  apply BitVec.eq_of_getLsbD_eq
  intro i hi
  rw [BitVec.signExtend_eq_setWidth_of_le _ (by decide), BitVec.signExtend_eq_setWidth_of_le _ (by decide), BitVec.getLsbD_setWidth, BitVec.getLsbD_setWidth]
  show (decide (i < 8) && (x.toBitVec.sshiftRight s).getLsbD i) = (decide (i < 8) && (BitVec.ofNat 32 (by4 x s)).getLsbD i)
  congr 1
  rw [BitVec.getLsbD_sshiftRight, BitVec.getLsbD_ofNat]
  unfold by4
  rw [show (256 : Nat) = 2 ^ 8 from rfl, Nat.testBit_mod_two_pow, BitVec.testBit_toNat, BitVec.getLsbD_ushiftRight]
  have h32 : s + i < 32 := by rcases hs with rfl | rfl | rfl | rfl <;> omega
  rw [if_pos h32, decide_eq_true (show i < 32 by omega), decide_eq_true (show i < 8 from hi), decide_eq_false (show ¬ 32 ≤ i by omega)]
  simp
end BYT

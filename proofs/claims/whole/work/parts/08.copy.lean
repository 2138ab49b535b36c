/-! ===== System.arraycopy ===== -/
abbrev cpI (M : Mem) (a0 sp a dp k : Nat) : Mem := (M.1, M.2.1, (fun x y => if x = a ∧ dp ≤ y ∧ y < dp + k then M.2.2.1 a0 (sp + (y - dp)) else M.2.2.1 x y), M.2.2.2.1, M.2.2.2.2)
abbrev cpJ (M : Mem) (a0 sp a dp k : Nat) : Mem := (M.1, M.2.1, M.2.2.1, (fun x y => if x = a ∧ dp ≤ y ∧ y < dp + k then M.2.2.2.1 a0 (sp + (y - dp)) else M.2.2.2.1 x y), M.2.2.2.2)
section CP
variable {g : Gl} {Y : Meth} {n pc : Nat} {lv : List (Option Value)} {st : List Value} {M : Mem} {Q : Option Value → Mem → Prop}
def ACk (own : String) (ix : Nat) : Prop := Cond.methodLink own ix arraycopyName ∈ gd_tbl ∧ Cond.native arraycopyName ∈ gd_tbl ∧ Cond.static arraycopyName ∈ gd_tbl ∧ Cond.initialized "java/lang/System" ∈ gd_tbl
/-- a place or a number of places that isn't below 0 -/
def nnk (i : Int32) (k : Nat) : Prop := ¬ i < 0 ∧ i.toNatClampNeg = k
theorem nnk_nI {k : Nat} (h : k < 2 ^ 31) : nnk (nI k) k := ⟨nI_pos h, nI_clamp h⟩
theorem vl_cpI {t : FieldType} {a0 sp a dp k x j : Nat} (h : x ≠ a) : vl g (cpI M a0 sp a dp k) t x j = vl g M t x j := by
  unfold vl
  show (match fkd t with | 0 => Value.int (if x = a ∧ dp ≤ j ∧ j < dp + k then M.2.2.1 a0 (sp + (j - dp)) else M.2.2.1 x j) | 1 => .long (M.2.2.2.1 x j) | _ => tv g (va_rf (M.2.2.2.2 x j))) = _
  rw [if_neg (fun q => h q.1)]
  rfl
theorem vl_cpJ {t : FieldType} {a0 sp a dp k x j : Nat} (h : x ≠ a) : vl g (cpJ M a0 sp a dp k) t x j = vl g M t x j := by
  unfold vl
  show (match fkd t with | 0 => Value.int (M.2.2.1 x j) | 1 => .long (if x = a ∧ dp ≤ j ∧ j < dp + k then M.2.2.2.1 a0 (sp + (j - dp)) else M.2.2.2.1 x j) | _ => tv g (va_rf (M.2.2.2.2 x j))) = _
  rw [if_neg (fun q => h q.1)]
  rfl
theorem wp_copy {ix a0 a κ l0 l1 sp dp k : Nat} {i0 i1 i2 : Int32} {M2 : Mem} (hd : decode Y.2.1 pc = .ok (.invokestatic ix, 3)) (hl : ACk Y.1.cls ix) (hT0 : mT M a0 = (κ, l0)) (hT1 : mT M a = (κ, l1)) (hκ1 : 20 ≤ κ) (hκ2 : κ < 24) (h0 : nnk i0 sp) (h1 : nnk i1 dp) (h2 : nnk i2 k) (hs : sp + k ≤ l0) (hdn : dp + k ≤ l1) (hfit : ∀ i, i < k → fits (aty κ) (vl g M (aty κ) a0 (sp + i)) = true)
    (hz : mZ M2 = mZ M) (hl2 : mL M2 = mL M) (hT2 : mT M2 = mT M) (ho : ∀ x t j, x ≠ a → vl g M2 t x j = vl g M t x j) (hv : ∀ j, vl g M2 (aty κ) a j = va_cpy (fun j => vl g M (aty κ) a0 j) (fun j => vl g M (aty κ) a j) sp dp k j) (hn : 1 ≤ n) (hst : (st.map fun v => v.category).sum ≤ 8)
    (kk : Wp g Y n (pc + 3) lv st M2 Q) : Wp g Y n pc lv (.int i2 :: .int i1 :: .ref a :: .int i0 :: .ref a0 :: st) M Q := by
  refine wp_mem (dz := 0) (dl := 0) (M2 := M2) (by omega) (by omega) (fun p e R s m args below meth c H locs cells slots Q ls hF hlv hW hL _ _ k0 => ?_) kk
  obtain ⟨⟨hx, hb, hml, -⟩, hown, hts, hK, hE, hG, hfr, hlo, -⟩ := hF
  obtain ⟨w1, w2, w3, w4⟩ := hl
  obtain ⟨hz0, hc0⟩ := hW.arr hT0 (by omega) (by omega)
  obtain ⟨hz1, hc1⟩ := hW.arr hT1 (by omega) (by omega)
  have hA := (hK.2 _ _ (tys_at g hκ1 (by omega))).1
  have nn : ∀ z : Int32, ¬ z < 0 → z.toInt = (z.toNatClampNeg : Int) := by
    intro z hz
    have hz0 : (0 : Int) ≤ z.toInt := by
      have := Int32.not_lt.mp hz
      simpa using Int32.le_iff_toInt_le.mp this
    show z.toInt = ((z.toInt.toNat : Nat) : Int)
    omega
  have hprim : refKind (aty κ) = false := by
    rcases (show κ = 20 ∨ κ = 21 ∨ κ = 22 ∨ κ = 23 by omega) with rfl | rfl | rfl | rfl <;> rfl
  intro T hT X
  obtain ⟨-, q0, hk0, cm0, hkk0⟩ := hA l0 (fun j => vl g M (aty κ) a0 j)
  obtain ⟨-, q1, hk1, cm1, hkk1⟩ := hA l1 (fun j => vl g M (aty κ) a j)
  have rd : ∀ i, i < k → (arrV (gl_ca g κ) l0 (fun j => vl g M (aty κ) a0 j)).slots.getD (i0.toNatClampNeg + i) .null = vl g M (aty κ) a0 (sp + i) := fun i hi => by
    rw [Array.getD_eq_getD_getElem?, h0.2, arrV_read _ _ (by omega)]
    rfl
  have hcat := cats_ok (g := g) (st := st) (m := m) (pc := pc) (ls := ls) (x := st.map (tv g)) hst
  have hmr : (F0 m pc ls (st.map (tv g))).monitorRoom = 0 := rfl
  obtain ⟨vm', X', step⟩ := X.arraycopy hx hown (hts _ w1) (hts _ w2) (hts _ w3) (hts _ w4) (src := gl_b g + a0) (dst := gl_b g + a) (srcPos := i0) (destPos := i1) (n := i2) (by rw [hT]; exact hc0) (by rw [hT]; exact hc1)
    (fun _ h => by cases h) (fun _ h => by cases h) (fun h => by cases h) (fun h => by cases h) hk0 hk1 hkk0 hkk1 (by simp [hprim]) h0.1 h1.1 h2.1
    (by rw [nn i0 h0.1, nn i2 h2.1, arrV_size, h0.2, h2.2]; omega)
    (by rw [nn i1 h1.1, nn i2 h2.1, arrV_size, h1.2, h2.2]; omega)
    (fun vm₁ _ i hi => by
      rw [h2.2] at hi
      rw [rd i hi]
      refine ⟨hfit i hi, ?_⟩
      have hf := hfit i hi
      generalize vl g M (aty κ) a0 (sp + i) = z at hf ⊢
      rcases (show κ = 20 ∨ κ = 21 ∨ κ = 22 ∨ κ = 23 by omega) with rfl | rfl | rfl | rfl <;> cases z <;> first | exact trivial | (simp [aty, fits] at hf))
    (g := F0 m pc ls (.int i2 :: .int i1 :: .ref (gl_b g + a) :: .int i0 :: .ref (gl_b g + a0) :: st.map (tv g))) rfl (by rw [hml]; exact hlv.1) (rest := st.map (tv g)) rfl (by rw [hb]; exact hd) (by omega) (by
      show 2 * 0 + _ + _ ≤ _
      have h8 : (((st.map (tv g)).map fun v => v.category)).sum ≤ 8 := by rw [tv_cats]; exact hst
      have hnat : nativeFrameWords "java/lang/System" "arraycopy" 5 + 11 ≤ 33 := by decide
      omega)
  have e1 : copied (arrV (gl_ca g κ) l0 (fun j => vl g M (aty κ) a0 j)) (arrV (gl_ca g κ) l1 (fun j => vl g M (aty κ) a j)) i0 i1 i2 = arrV (gl_ca g κ) l1 (fun j => vl g M2 (aty κ) a j) := by
    have := va_copied (fun z => z) (gl_ca g κ) (gl_ca g κ) (fun j => vl g M (aty κ) a0 j) (fun j => vl g M (aty κ) a j) (n1 := l1) (n := k) (sp := sp) (dp := dp) (n0 := l0) hs
    unfold copied
    rw [h0.2, h1.2, h2.2]
    refine this.trans ?_
    congr 1
    funext j
    exact (hv j).symm
  rw [e1] at X' step
  have hlt : gl_b g + a < H.size := by rw [hW.1]; omega
  have hheap : ((T.setVm vm').setCell (gl_b g + a) (arrV (gl_ca g κ) l1 (fun j => vl g M2 (aty κ) a j))).heap = H.setIfInBounds (gl_b g + a) (arrV (gl_ca g κ) l1 (fun j => vl g M2 (aty κ) a j)) := by rw [← hT]; rfl
  have oq : ∀ q : Nat, q ≠ gl_b g + a → (H.setIfInBounds (gl_b g + a) (arrV (gl_ca g κ) l1 (fun j => vl g M2 (aty κ) a j)))[q]? = H[q]? := fun q hq => by simp [Array.getElem?_setIfInBounds, Ne.symm hq]
  have hW2 : World g M2 (H.setIfInBounds (gl_b g + a) (arrV (gl_ca g κ) l1 (fun j => vl g M2 (aty κ) a j))) := by
    refine hW.put (a := a) hz hT2 ho hz1 (by simp) oq ?_
    unfold CellAt
    rw [hT2, hT1]
    refine ⟨fun h => absurd h (by show ¬ κ < 13; omega), fun _ => ?_⟩
    simp [Array.getElem?_setIfInBounds, hlt]
  obtain ⟨t, a1, b1⟩ := k0 _ _ hW2 (fun q hq => by
      rcases List.mem_append.mp hq with h | h
      · exact hL q h
      · obtain ⟨z, -, hz⟩ := List.mem_map.mp h
        rw [← hz]
        exact Nat.le_add_right _ _) _ hheap X'
  exact ⟨t, step t a1, b1⟩
theorem wp_copyI {ix a0 a l0 l1 sp dp k : Nat} {i0 i1 i2 : Int32} (hd : decode Y.2.1 pc = .ok (.invokestatic ix, 3)) (hl : ACk Y.1.cls ix) (hT0 : mT M a0 = (20, l0)) (hT1 : mT M a = (20, l1)) (h0 : nnk i0 sp) (h1 : nnk i1 dp) (h2 : nnk i2 k) (hs : sp + k ≤ l0) (hdn : dp + k ≤ l1) (hn : 1 ≤ n) (hst : (st.map fun v => v.category).sum ≤ 8)
    (kk : Wp g Y n (pc + 3) lv st (cpI M a0 sp a dp k) Q) : Wp g Y n pc lv (.int i2 :: .int i1 :: .ref a :: .int i0 :: .ref a0 :: st) M Q :=
  wp_copy (M2 := cpI M a0 sp a dp k) hd hl hT0 hT1 (by decide) (by decide) h0 h1 h2 hs hdn (fun i _ => by rw [vl_int rfl]; rfl) rfl rfl rfl (fun _ _ _ h => vl_cpI h) (fun j => by
    rw [vl_int rfl]
    unfold va_cpy
    show Value.int (if a = a ∧ dp ≤ j ∧ j < dp + k then M.2.2.1 a0 (sp + (j - dp)) else M.2.2.1 a j) = _
    by_cases h : dp ≤ j ∧ j < dp + k
    · rw [if_pos ⟨rfl, h⟩, if_pos h]; exact (vl_int rfl).symm
    · rw [if_neg (fun q => h q.2), if_neg h]; exact (vl_int rfl).symm) hn hst kk
theorem wp_copyJ {ix a0 a l0 l1 sp dp k : Nat} {i0 i1 i2 : Int32} (hd : decode Y.2.1 pc = .ok (.invokestatic ix, 3)) (hl : ACk Y.1.cls ix) (hT0 : mT M a0 = (21, l0)) (hT1 : mT M a = (21, l1)) (h0 : nnk i0 sp) (h1 : nnk i1 dp) (h2 : nnk i2 k) (hs : sp + k ≤ l0) (hdn : dp + k ≤ l1) (hn : 1 ≤ n) (hst : (st.map fun v => v.category).sum ≤ 8)
    (kk : Wp g Y n (pc + 3) lv st (cpJ M a0 sp a dp k) Q) : Wp g Y n pc lv (.int i2 :: .int i1 :: .ref a :: .int i0 :: .ref a0 :: st) M Q :=
  wp_copy (M2 := cpJ M a0 sp a dp k) hd hl hT0 hT1 (by decide) (by decide) h0 h1 h2 hs hdn (fun i _ => by rw [vl_long rfl]; rfl) rfl rfl rfl (fun _ _ _ h => vl_cpJ h) (fun j => by
    rw [vl_long rfl]
    unfold va_cpy
    show Value.long (if a = a ∧ dp ≤ j ∧ j < dp + k then M.2.2.2.1 a0 (sp + (j - dp)) else M.2.2.2.1 a j) = _
    by_cases h : dp ≤ j ∧ j < dp + k
    · rw [if_pos ⟨rfl, h⟩, if_pos h]; exact (vl_long rfl).symm
    · rw [if_neg (fun q => h q.2), if_neg h]; exact (vl_long rfl).symm) hn hst kk
end CP

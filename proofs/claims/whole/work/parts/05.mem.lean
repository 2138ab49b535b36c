/-! ===== rows of the plain machine: memory ===== -/
/-- a class of the list: its words are in the tables, its types, its names -/
def ClsOK (ci : Nat) (C : String) (T : u_T) (N : Nat) : Prop := (∀ w ∈ u_ws C T N, w ∈ gd_tbl) ∧ (∀ k, k < N → parseFieldDescriptor (T k).2.2.1 = some (tyOf ci k)) ∧ (∀ a, a < N → ∀ b, b < N → a ≠ b → (T a).2.1 ≠ (T b).2.1) ∧ NF ci = N
theorem cls_ok {ci : Nat} {C : String} {T : u_T} {N : Nat} (h : classes[ci]? = some (C, T, N)) : ci < 13 ∧ ClsOK ci C T N := by
  match ci, h with
  | 0, h => cases h; exact ⟨by decide, inT0, tyX0_ok, nmX0, rfl⟩
  | 1, h => cases h; exact ⟨by decide, inT1, tyX1_ok, nmX1, rfl⟩
  | 2, h => cases h; exact ⟨by decide, inT2, tyX2_ok, nmX2, rfl⟩
  | 3, h => cases h; exact ⟨by decide, inT3, tyX3_ok, nmX3, rfl⟩
  | 4, h => cases h; exact ⟨by decide, inT4, tyX4_ok, nmX4, rfl⟩
  | 5, h => cases h; exact ⟨by decide, inT5, tyX5_ok, nmX5, rfl⟩
  | 6, h => cases h; exact ⟨by decide, inT6, tyX6_ok, nmX6, rfl⟩
  | 7, h => cases h; exact ⟨by decide, inT7, tyX7_ok, nmX7, rfl⟩
  | 8, h => cases h; exact ⟨by decide, inT8, tyX8_ok, nmX8, rfl⟩
  | 9, h => cases h; exact ⟨by decide, inT9, tyX9_ok, nmX9, rfl⟩
  | 10, h => cases h; exact ⟨by decide, inT10, tyX10_ok, nmX10, rfl⟩
  | 11, h => cases h; exact ⟨by decide, inT11, tyX11_ok, nmX11, rfl⟩
  | 12, h => cases h; exact ⟨by decide, inT12, tyJ4_ok, nmJ4, rfl⟩
  | k + 13, h => simp [classes] at h
/-- entry ix of own's constants is field k of class ci -/
def FLk (own : String) (ix ci k : Nat) : Prop := ∃ (C : String) (T : u_T) (N : Nat), classes[ci]? = some (C, T, N) ∧ k < N ∧ Cond.fieldLink own ix (T k).1 (T k).2.1 (T k).2.2.1 ∈ gd_tbl
/-- an index: not below 0, the place k, within n -/
def ixk (i : Int32) (n k : Nat) : Prop := ¬ i < 0 ∧ i.toNatClampNeg = k ∧ k < n
theorem ixk_nI {k n : Nat} (h : k < n) (hn : n < 2 ^ 31) : ixk (nI k) n k := ⟨nI_pos (by omega), nI_clamp (by omega), h⟩
theorem ixk.inn {i : Int32} {n k : Nat} (h : ixk i n k) : vp_in i n := fun q => by
  obtain ⟨h1, h2, h3⟩ := h
  rcases q with q | q
  · exact h1 q
  · omega
theorem vl_int {g : Gl} {M : Mem} {t : FieldType} {a k : Nat} (h : fkd t = 0) : vl g M t a k = .int (mI M a k) := by simp [vl, h]
theorem vl_long {g : Gl} {M : Mem} {t : FieldType} {a k : Nat} (h : fkd t = 1) : vl g M t a k = .long (mJ M a k) := by simp [vl, h]
theorem vl_ref {g : Gl} {M : Mem} {t : FieldType} {a k : Nat} (h : fkd t = 2) : vl g M t a k = tv g (va_rf (mR M a k)) := by simp [vl, h]
section MR
variable {g : Gl} {Y : Meth} {n pc : Nat} {lv : List (Option Value)} {st : List Value} {M : Mem} {Q : Option Value → Mem → Prop}
theorem wp_getf {ix ci k a len : Nat} {v : Value} (hd : decode Y.2.1 pc = .ok (.getfield ix, 3)) (hl : FLk Y.1.cls ix ci k) (hT : mT M a = (ci, len)) (hv : vl g M (tyOf ci k) a k = tv g v) (kk : Wp g Y n (pc + 3) lv (v :: st) M Q) : Wp g Y n pc lv (.ref a :: st) M Q := by
  refine wp_pure (fun p e R s m args below meth c H locs cells slots Q ls hF hlv hW k0 => ?_) kk
  obtain ⟨⟨hx, hb, -⟩, hown, hts, hK, -⟩ := hF
  obtain ⟨C, T, N, hc, hk, hlink⟩ := hl
  obtain ⟨h13, hin, hty, hnm, hN⟩ := cls_ok hc
  obtain ⟨-, -, hcell⟩ := hW
  obtain ⟨ha, h1, -⟩ := hcell a (by rw [hT]; exact Nat.lt_of_lt_of_le h13 (by decide))
  rw [hT] at h1
  obtain ⟨cell, q1, q2, q3, q4⟩ := h1 h13
  obtain ⟨hS, hfc, kC, hkC, hkind⟩ := hK.1 ci _ hc
  obtain ⟨cf, kf, fi, f, hi, hsl⟩ := hS k hk
  refine W.getf hx hb hown (hts _ hlink) hi (u_facts hfc hkC (u_lays hts hin hk) hi).1 q1 (by rw [q3]; exact fun h => by cases h) (v := tv g v) ?_ rfl rfl hd k0
  rw [hsl]; exact (q4 k (by rw [hN]; exact hk)).trans (congrArg some hv)
theorem wp_getI {ix ci k a len : Nat} (hd : decode Y.2.1 pc = .ok (.getfield ix, 3)) (hl : FLk Y.1.cls ix ci k) (hT : mT M a = (ci, len)) (kk : Wp g Y n (pc + 3) lv (.int (mI M a k) :: st) M Q) (hk : fkd (tyOf ci k) = 0 := by rfl) : Wp g Y n pc lv (.ref a :: st) M Q := wp_getf (v := .int (mI M a k)) hd hl hT (vl_int hk) kk
theorem wp_getJ {ix ci k a len : Nat} (hd : decode Y.2.1 pc = .ok (.getfield ix, 3)) (hl : FLk Y.1.cls ix ci k) (hT : mT M a = (ci, len)) (kk : Wp g Y n (pc + 3) lv (.long (mJ M a k) :: st) M Q) (hk : fkd (tyOf ci k) = 1 := by rfl) : Wp g Y n pc lv (.ref a :: st) M Q := wp_getf (v := .long (mJ M a k)) hd hl hT (vl_long hk) kk
theorem wp_getR {ix ci k a b len : Nat} (hd : decode Y.2.1 pc = .ok (.getfield ix, 3)) (hl : FLk Y.1.cls ix ci k) (hT : mT M a = (ci, len)) (hr : mR M a k = some b) (kk : Wp g Y n (pc + 3) lv (.ref b :: st) M Q) (hk : fkd (tyOf ci k) = 2 := by rfl) : Wp g Y n pc lv (.ref a :: st) M Q := wp_getf (v := .ref b) hd hl hT ((vl_ref hk).trans (by rw [hr]; rfl)) kk
/-- an array's cell as the world has it -/
theorem World.arr {H : Heap} {a κ len : Nat} (h : World g M H) (hT : mT M a = (κ, len)) (h1 : ¬ κ < 13) (h2 : κ < 28) : a < mZ M ∧ H[gl_b g + a]? = some (arrV (gl_ca g κ) len (fun j => vl g M (aty κ) a j)) := by
  obtain ⟨-, -, hc⟩ := h
  obtain ⟨ha, -, hq⟩ := hc a (by rw [hT]; exact h2)
  rw [hT] at hq
  exact ⟨ha, hq h1⟩
theorem wp_iald {a len k : Nat} {i : Int32} (hd : decode Y.2.1 pc = .ok (.iaload, 1)) (hT : mT M a = (20, len)) (hi : ixk i len k) (kk : Wp g Y n (pc + 1) lv (.int (mI M a k) :: st) M Q) : Wp g Y n pc lv (.int i :: .ref a :: st) M Q := by
  refine wp_pure (fun p e R s m args below meth c H locs cells slots Q ls hF hlv hW k0 => ?_) kk
  obtain ⟨⟨hx, hb, -⟩, hown, hts, hK, -⟩ := hF
  obtain ⟨-, hc⟩ := hW.arr hT (by decide) (by decide)
  refine W.iald (v := .int (mI M a k)) hx hb hc ((hK.2 0 (gl_ca g 20, .int) rfl).1 _ _) (fun q => by cases q) (by rw [arrV_size]; exact hi.inn) (by rw [hi.2.1, arrV_read _ _ hi.2.2]; exact congrArg some (vl_int rfl)) rfl rfl hd k0
theorem wp_bald {a len k : Nat} {i : Int32} (hd : decode Y.2.1 pc = .ok (.baload, 1)) (hT : mT M a = (22, len)) (hi : ixk i len k) (kk : Wp g Y n (pc + 1) lv (.int (mI M a k) :: st) M Q) : Wp g Y n pc lv (.int i :: .ref a :: st) M Q := by
  refine wp_pure (fun p e R s m args below meth c H locs cells slots Q ls hF hlv hW k0 => ?_) kk
  obtain ⟨⟨hx, hb, -⟩, hown, hts, hK, -⟩ := hF
  obtain ⟨-, hc⟩ := hW.arr hT (by decide) (by decide)
  refine W.bald (v := .int (mI M a k)) hx hb hc ((hK.2 2 (gl_ca g 22, .byte) rfl).1 _ _) (fun q => by cases q) (by rw [arrV_size]; exact hi.inn) (by rw [hi.2.1, arrV_read _ _ hi.2.2]; exact congrArg some (vl_int rfl)) rfl rfl hd k0
theorem wp_zald {a len k : Nat} {i : Int32} (hd : decode Y.2.1 pc = .ok (.baload, 1)) (hT : mT M a = (23, len)) (hi : ixk i len k) (kk : Wp g Y n (pc + 1) lv (.int (mI M a k) :: st) M Q) : Wp g Y n pc lv (.int i :: .ref a :: st) M Q := by
  refine wp_pure (fun p e R s m args below meth c H locs cells slots Q ls hF hlv hW k0 => ?_) kk
  obtain ⟨⟨hx, hb, -⟩, hown, hts, hK, -⟩ := hF
  obtain ⟨-, hc⟩ := hW.arr hT (by decide) (by decide)
  refine W.zald (v := .int (mI M a k)) hx hb hc ((hK.2 3 (gl_ca g 23, .boolean) rfl).1 _ _) (fun q => by cases q) (by rw [arrV_size]; exact hi.inn) (by rw [hi.2.1, arrV_read _ _ hi.2.2]; exact congrArg some (vl_int rfl)) rfl rfl hd k0
theorem wp_lald {a len k : Nat} {i : Int32} (hd : decode Y.2.1 pc = .ok (.laload, 1)) (hT : mT M a = (21, len)) (hi : ixk i len k) (kk : Wp g Y n (pc + 1) lv (.long (mJ M a k) :: st) M Q) : Wp g Y n pc lv (.int i :: .ref a :: st) M Q := by
  refine wp_pure (fun p e R s m args below meth c H locs cells slots Q ls hF hlv hW k0 => ?_) kk
  obtain ⟨⟨hx, hb, -⟩, hown, hts, hK, -⟩ := hF
  obtain ⟨-, hc⟩ := hW.arr hT (by decide) (by decide)
  refine W.lald (v := .long (mJ M a k)) hx hb hc ((hK.2 1 (gl_ca g 21, .long) rfl).1 _ _) (fun q => by cases q) (by rw [arrV_size]; exact hi.inn) (by rw [hi.2.1, arrV_read _ _ hi.2.2]; exact congrArg some (vl_long rfl)) rfl rfl hd k0
theorem tys_at (g : Gl) {κ : Nat} (h1 : 20 ≤ κ) (h2 : κ < 28) : (gl_tys g)[κ - 20]? = some (gl_ca g κ, aty κ) := by
  rcases (show κ = 20 ∨ κ = 21 ∨ κ = 22 ∨ κ = 23 ∨ κ = 24 ∨ κ = 25 ∨ κ = 26 ∨ κ = 27 by omega) with rfl | rfl | rfl | rfl | rfl | rfl | rfl | rfl <;> rfl
theorem aty_ref {κ : Nat} (h1 : 24 ≤ κ) (h2 : κ < 28) : ∃ C, aty κ = .object C := by
  rcases (show κ = 24 ∨ κ = 25 ∨ κ = 26 ∨ κ = 27 by omega) with rfl | rfl | rfl | rfl <;> exact ⟨_, rfl⟩
theorem wp_aald {a len k b κ : Nat} {i : Int32} (hd : decode Y.2.1 pc = .ok (.aaload, 1)) (hT : mT M a = (κ, len)) (hi : ixk i len k) (hr : mR M a k = some b) (kk : Wp g Y n (pc + 1) lv (.ref b :: st) M Q) (h1 : 24 ≤ κ := by decide) (h2 : κ < 28 := by decide) : Wp g Y n pc lv (.int i :: .ref a :: st) M Q := by
  refine wp_pure (fun p e R s m args below meth c H locs cells slots Q ls hF hlv hW k0 => ?_) kk
  obtain ⟨⟨hx, hb, -⟩, hown, hts, hK, -⟩ := hF
  obtain ⟨-, hc⟩ := hW.arr hT (by omega) h2
  obtain ⟨C, hC⟩ := aty_ref h1 h2
  have hA := (hK.2 _ _ (tys_at g (Nat.le_trans (by decide) h1) h2)).1
  rw [hC] at hA
  refine W.aald (v := .ref (gl_b g + b)) (ty := .object C) hx hb hc (hA _ _) rfl (fun q => by cases q) (by rw [arrV_size]; exact hi.inn) (by rw [hi.2.1, arrV_read _ _ hi.2.2]; exact congrArg some ((vl_ref (by rw [hC]; rfl)).trans (by rw [hr]; rfl))) rfl rfl hd k0
theorem wp_aaldN {a len k κ : Nat} {i : Int32} (hd : decode Y.2.1 pc = .ok (.aaload, 1)) (hT : mT M a = (κ, len)) (hi : ixk i len k) (hr : mR M a k = none) (kk : Wp g Y n (pc + 1) lv (.null :: st) M Q) (h1 : 24 ≤ κ := by decide) (h2 : κ < 28 := by decide) : Wp g Y n pc lv (.int i :: .ref a :: st) M Q := by
  refine wp_pure (fun p e R s m args below meth c H locs cells slots Q ls hF hlv hW k0 => ?_) kk
  obtain ⟨⟨hx, hb, -⟩, hown, hts, hK, -⟩ := hF
  obtain ⟨-, hc⟩ := hW.arr hT (by omega) h2
  obtain ⟨C, hC⟩ := aty_ref h1 h2
  have hA := (hK.2 _ _ (tys_at g (Nat.le_trans (by decide) h1) h2)).1
  rw [hC] at hA
  refine W.aald (v := .null) (ty := .object C) hx hb hc (hA _ _) rfl (fun q => by cases q) (by rw [arrV_size]; exact hi.inn) (by rw [hi.2.1, arrV_read _ _ hi.2.2]; exact congrArg some ((vl_ref (by rw [hC]; rfl)).trans (by rw [hr]; rfl))) rfl rfl hd k0
theorem wp_alen {a len κ : Nat} (hd : decode Y.2.1 pc = .ok (.arraylength, 1)) (hT : mT M a = (κ, len)) (kk : Wp g Y n (pc + 1) lv (.int (nI len) :: st) M Q) (h1 : 20 ≤ κ := by decide) (h2 : κ < 28 := by decide) : Wp g Y n pc lv (.ref a :: st) M Q := by
  refine wp_pure (fun p e R s m args below meth c H locs cells slots Q ls hF hlv hW k0 => ?_) kk
  obtain ⟨⟨hx, hb, -⟩, hown, hts, hK, -⟩ := hF
  obtain ⟨-, hc⟩ := hW.arr hT (by omega) h2
  exact W.alen (n := nI len) hx hb hc ((hK.2 _ _ (tys_at g h1 h2)).1 _ _) (by rw [arrV_size]; rfl) rfl rfl hd k0
/-- one that writes or makes -/
theorem wp_mem {pc2 dz dl : Nat} {st2 : List Value} {M2 : Mem} (hz : mZ M2 = mZ M + dz) (hl : mL M2 = mL M + dl)
    (h : ∀ (p : Program) (e : Env) (R : Room) (s : State) (m : MethodId) (args : Array Value) (below : List Frame) (meth : Method) (c : Code) (H : Heap) (locs : List Loc) (cells slots : Nat) (Q : State → Prop) (ls : Array Slot), FrameOK g Y n p R s m args meth c → LH g ls Y.2.2.1 lv → World g M H → (∀ q ∈ locs, gl_b g ≤ q.base) → cells + dz ≤ R.cells → slots + dl ≤ R.slots →
      (∀ (H2 : Heap) (locs2 : List Loc), World g M2 H2 → (∀ q ∈ locs2, gl_b g ≤ q.base) → W p (gl_l g) e R s m args below meth c H2 locs2 (cells + dz) (slots + dl) Q (F0 m pc2 ls (st2.map (tv g)))) → W p (gl_l g) e R s m args below meth c H locs cells slots Q (F0 m pc ls (st.map (tv g))))
    (k : Wp g Y n pc2 lv st2 M2 Q) : Wp g Y n pc lv st M Q := by
  obtain ⟨r, M3, ⟨h1, h2⟩, h3⟩ := k
  refine ⟨r, M3, ⟨⟨by omega, by omega⟩, fun p e R s m args below meth c H locs z0 l0 Q ls hF hW hL hlv hz0 hl0 hc hs hk => ?_⟩, h3⟩
  refine h p e R s m args below meth c H locs _ _ Q ls hF hlv hW hL (by omega) (by omega) (fun H2 locs2 hW2 hL2 => ?_)
  have := h2 p e R s m args below meth c H2 locs2 z0 l0 Q ls hF hW2 hL2 hlv (by omega) (by omega) hc hs hk
  rw [show mZ M2 - z0 = mZ M - z0 + dz by omega, show mL M2 - l0 = mL M - l0 + dl by omega] at this
  exact this
/-- the world behind a write to one cell -/
theorem World.put {M2 : Mem} {H H2 : Heap} {a : Nat} (hW : World g M H) (hz : mZ M2 = mZ M) (hT : mT M2 = mT M) (ho : ∀ x t j, x ≠ a → vl g M2 t x j = vl g M t x j) (ha : a < mZ M) (hsz : H2.size = H.size) (hq : ∀ q : Nat, q ≠ gl_b g + a → H2[q]? = H[q]?) (hca : CellAt g M2 a H2) : World g M2 H2 := by
  obtain ⟨h1, h2, h3⟩ := hW
  refine ⟨by rw [hsz, h1, hz], fun q hq2 => by rw [hq q (by omega)]; exact h2 q hq2, fun x hx => ?_⟩
  rw [hT] at hx
  obtain ⟨g1, g2, g3⟩ := h3 x hx
  refine ⟨by rw [hz]; exact g1, ?_⟩
  by_cases hxa : x = a
  · subst hxa; exact hca
  · unfold CellAt
    rw [hT]
    refine ⟨fun h => ?_, fun h => ?_⟩
    · exact ((g2 h).kept (hq _ (by omega))).to (fun k _ => (ho x _ k hxa).symm)
    · rw [hq _ (by omega), g3 h]
      congr 2
      funext j
      exact (ho x _ j hxa).symm
theorem mI_sI {a k x j : Nat} {v : Int32} : mI (sI M a k v) x j = if x = a ∧ j = k then v else mI M x j := rfl
theorem mJ_sJ {a k x j : Nat} {v : Int64} : mJ (sJ M a k v) x j = if x = a ∧ j = k then v else mJ M x j := rfl
theorem mR_sR {a k x j : Nat} {v : Option Nat} : mR (sR M a k v) x j = if x = a ∧ j = k then v else mR M x j := rfl
theorem vl_sI {t : FieldType} {a k x j : Nat} {v : Int32} (h : x ≠ a) : vl g (sI M a k v) t x j = vl g M t x j := by
  unfold vl; split <;> simp [mI_sI, mJ_sJ, mR_sR, h]
theorem vl_sJ {t : FieldType} {a k x j : Nat} {v : Int64} (h : x ≠ a) : vl g (sJ M a k v) t x j = vl g M t x j := by
  unfold vl; split <;> simp [mI_sI, mJ_sJ, mR_sR, h]
theorem vl_sR {t : FieldType} {a k x j : Nat} {v : Option Nat} (h : x ≠ a) : vl g (sR M a k v) t x j = vl g M t x j := by
  unfold vl; split <;> simp [mI_sI, mJ_sJ, mR_sR, h]
theorem vl_sI_at {t : FieldType} {a k : Nat} {v : Int32} (h : fkd t = 0) : vl g (sI M a k v) t a k = .int v := by
  rw [vl_int h]; simp [mI_sI, mJ_sJ, mR_sR]
theorem vl_sJ_at {t : FieldType} {a k : Nat} {v : Int64} (h : fkd t = 1) : vl g (sJ M a k v) t a k = .long v := by
  rw [vl_long h]; simp [mI_sI, mJ_sJ, mR_sR]
theorem vl_sR_at {t : FieldType} {a k : Nat} {v : Option Nat} (h : fkd t = 2) : vl g (sR M a k v) t a k = tv g (va_rf v) := by
  rw [vl_ref h]; simp [mI_sI, mJ_sJ, mR_sR]
theorem vl_sI_ne {t : FieldType} {a k j : Nat} {v : Int32} (h : j ≠ k) : vl g (sI M a k v) t a j = vl g M t a j := by
  unfold vl; split <;> simp [mI_sI, mJ_sJ, mR_sR, h]
theorem vl_sJ_ne {t : FieldType} {a k j : Nat} {v : Int64} (h : j ≠ k) : vl g (sJ M a k v) t a j = vl g M t a j := by
  unfold vl; split <;> simp [mI_sI, mJ_sJ, mR_sR, h]
theorem vl_sR_ne {t : FieldType} {a k j : Nat} {v : Option Nat} (h : j ≠ k) : vl g (sR M a k v) t a j = vl g M t a j := by
  unfold vl; split <;> simp [mI_sI, mJ_sJ, mR_sR, h]
theorem wp_putf0 {ix ci k a len : Nat} {v : Value} {M2 : Mem} (hd : decode Y.2.1 pc = .ok (.putfield ix, 3)) (hl : FLk Y.1.cls ix ci k) (hT : mT M a = (ci, len)) (hn : narrow (tyOf ci k) (tv g v) = tv g v) (hft : fits (tyOf ci k) (tv g v) = true) (hfin : ∀ C T N, classes[ci]? = some (C, T, N) → (T k).2.2.2 = false ∨ (Y.1.name = "<init>" ∧ (T k).1 = Y.1.cls))
    (hz : mZ M2 = mZ M) (hl2 : mL M2 = mL M) (hT2 : mT M2 = mT M) (ho : ∀ x t j, x ≠ a → vl g M2 t x j = vl g M t x j) (hv : vl g M2 (tyOf ci k) a k = tv g v) (hvo : ∀ t j, j ≠ k → vl g M2 t a j = vl g M t a j) (kk : Wp g Y n (pc + 3) lv st M2 Q) : Wp g Y n pc lv (v :: .ref a :: st) M Q := by
  refine wp_mem (dz := 0) (dl := 0) (by omega) (by omega) (fun p e R s m args below meth c H locs cells slots Q ls hF hlv hW hL _ _ k0 => ?_) kk
  obtain ⟨⟨hx, hb, -, -, -, hnm2⟩, hown, hts, hK, -⟩ := hF
  obtain ⟨C, T, N, hc, hk, hlink⟩ := hl
  obtain ⟨h13, hin, hty, hnm, hN⟩ := cls_ok hc
  have hW0 := hW
  obtain ⟨-, -, hcell⟩ := hW
  obtain ⟨ha, h1, -⟩ := hcell a (by rw [hT]; exact Nat.lt_of_lt_of_le h13 (by decide))
  rw [hT] at h1
  obtain ⟨cell, q1, q2, q3, q4⟩ := h1 h13
  have hap := va_apart (own := Y.1.cls) hts hin (tyOf ci) hty hnm hK hc
  obtain ⟨hS, hfc, kC, hkC, hkind⟩ := hK.1 ci _ hc
  obtain ⟨cf, kf, fi, f, hi, hsl⟩ := hS k hk
  have hst := (u_facts hfc hkC (u_lays hts hin hk) hi).1
  have hlay := hts _ (hin _ (u_in_lay hk))
  unfold u_lay at hlay
  have hlt : f.slot < cell.slots.size := by rw [hsl]; exact k2_hasslot (q4 k (by rw [hN]; exact hk))
  have fin : ∀ H2 : Heap, H2[gl_b g + a]? = some (cell.setSlot f.slot (tv g v)) → H2.size = H.size → (∀ q, q ≠ gl_b g + a → H2[q]? = H[q]?) → World g M2 H2 := by
    intro H2 e1 e2 e3
    refine hW0.put (a := a) hz hT2 ho ha e2 e3 ?_
    unfold CellAt
    rw [hT2, hT]
    refine ⟨fun _ => ?_, fun h => absurd h13 h⟩
    rw [hsl] at e1
    refine t_OB.to (V := updV (fun k => vl g M (tyOf ci k) a k) k (tv g v)) ⟨_, e1, q2, q3, fun j hj => ?_⟩ (fun j hj => ?_)
    · have := t_set (N := N) (V := fun k => vl g M (tyOf ci k) a k) (fun j hj => q4 j (by rw [hN]; exact hj)) hap hk (tv g v)
      exact this j (by have h : NF ci = N := hN; rw [← h]; exact hj)
    · unfold updV
      by_cases hjk : j = k
      · subst hjk; rw [if_pos rfl]; exact hv.symm
      · rw [if_neg hjk]; exact (hvo _ j hjk).symm
  rcases hfin C T N hc with hf | ⟨hi1, hi2⟩
  · rw [if_neg (by rw [hf]; decide)] at hlay
    have h6 := u_store hfc hkC hkind hlay hi (hty k hk) hn hft
    refine W.putK hx hb (f := f) ⟨hown, hts _ hlink, ⟨_, _, _, hi⟩, hst⟩ (by rw [q2]; exact h6) q1 q3 hlt rfl rfl hd fun H' e1 e2 e3 => k0 H' _ (fin H' e1 e2 e3) (fun q hq => ?_)
    rcases List.mem_append.mp hq with h | h
    · exact hL q h
    · rw [List.mem_singleton.mp h]; exact Nat.le_add_right _ _
  · by_cases hf : (T k).2.2.2 = true
    · rw [if_pos hf] at hlay
      have hcf : m.cls = cf := by
        obtain ⟨_, _, c', _, _, _, -, -, hf', -, -, -, hown2, -⟩ := Cond.laysFinal_spec hlay
        have e1 : c' = cf := by have := hi.symm.trans hf'; simp at this; exact this.1.symm
        rw [hi2] at hown2
        rw [← e1]; exact Option.some.inj (hown.symm.trans hown2)
      have h6 := u_fits hfc hkC hkind (Or.inr hlay) hi (hty k hk) hn hft
      refine W.putFinK hx hb hown (hts _ hlink) hi hst hcf (hnm2.trans hi1) (by rw [q2]; exact h6) q1 q3 hlt rfl rfl hd fun H' e1 e2 e3 => k0 H' _ (fin H' e1 e2 e3) (fun q hq => ?_)
      rcases List.mem_append.mp hq with h | h
      · exact hL q h
      · rw [List.mem_singleton.mp h]; exact Nat.le_add_right _ _
    · have hf : (T k).2.2.2 = false := by simpa using hf
      rw [if_neg (by rw [hf]; decide)] at hlay
      have h6 := u_store hfc hkC hkind hlay hi (hty k hk) hn hft
      refine W.putK hx hb (f := f) ⟨hown, hts _ hlink, ⟨_, _, _, hi⟩, hst⟩ (by rw [q2]; exact h6) q1 q3 hlt rfl rfl hd fun H' e1 e2 e3 => k0 H' _ (fin H' e1 e2 e3) (fun q hq => ?_)
      rcases List.mem_append.mp hq with h | h
      · exact hL q h
      · rw [List.mem_singleton.mp h]; exact Nat.le_add_right _ _
/-- whether a method may write a field: it isn't final, or it is the constructor's own -/
def mayPut (Y : Meth) (ci k : Nat) : Bool := match classes[ci]? with
  | some q => (q.2.1 k).2.2.2 == false || (Y.1.name == "<init>" && (q.2.1 k).1 == Y.1.cls)
  | none => false
theorem mayPut.use {ci k : Nat} (h : mayPut Y ci k = true) : ∀ C T N, classes[ci]? = some (C, T, N) → (T k).2.2.2 = false ∨ (Y.1.name = "<init>" ∧ (T k).1 = Y.1.cls) := by
  intro C T N hc
  unfold mayPut at h
  rw [hc] at h
  simpa using h
/-- what an int field keeps as it is -/
def okI (t : FieldType) (x : Int32) : Prop := narrow t (.int x) = .int x ∧ fits t (.int x) = true
theorem okI_int (x : Int32) : okI .int x := ⟨rfl, rfl⟩
theorem okI_b0 : okI .boolean 0 := ⟨rfl, rfl⟩
theorem okI_b1 : okI .boolean 1 := ⟨rfl, rfl⟩
theorem wp_putI {ix ci k a len : Nat} {x : Int32} (hd : decode Y.2.1 pc = .ok (.putfield ix, 3)) (hl : FLk Y.1.cls ix ci k) (hm : mayPut Y ci k = true) (hT : mT M a = (ci, len)) (hx : okI (tyOf ci k) x) (kk : Wp g Y n (pc + 3) lv st (sI M a k x) Q) (hk : fkd (tyOf ci k) = 0 := by rfl) : Wp g Y n pc lv (.int x :: .ref a :: st) M Q :=
  wp_putf0 (M2 := sI M a k x) hd hl hT hx.1 hx.2 (mayPut.use hm) rfl rfl rfl (fun _ _ _ h => vl_sI h) (vl_sI_at hk) (fun _ _ h => vl_sI_ne h) kk
theorem wp_putJ {ix ci k a len : Nat} {x : Int64} (hd : decode Y.2.1 pc = .ok (.putfield ix, 3)) (hl : FLk Y.1.cls ix ci k) (hm : mayPut Y ci k = true) (hT : mT M a = (ci, len)) (kk : Wp g Y n (pc + 3) lv st (sJ M a k x) Q) (hk : tyOf ci k = .long := by rfl) : Wp g Y n pc lv (.long x :: .ref a :: st) M Q :=
  wp_putf0 (M2 := sJ M a k x) hd hl hT (by rw [hk]; rfl) (by rw [hk]; rfl) (mayPut.use hm) rfl rfl rfl (fun _ _ _ h => vl_sJ h) (vl_sJ_at (by rw [hk]; rfl)) (fun _ _ h => vl_sJ_ne h) kk
theorem ref_ok {t : FieldType} (h : fkd t = 2) (q : Option Nat) : narrow t (tv g (va_rf q)) = tv g (va_rf q) ∧ fits t (tv g (va_rf q)) = true := by
  cases t <;> simp [fkd] at h <;> cases q <;> exact ⟨rfl, rfl⟩
theorem wp_putR {ix ci k a b len : Nat} (hd : decode Y.2.1 pc = .ok (.putfield ix, 3)) (hl : FLk Y.1.cls ix ci k) (hm : mayPut Y ci k = true) (hT : mT M a = (ci, len)) (kk : Wp g Y n (pc + 3) lv st (sR M a k (some b)) Q) (hk : fkd (tyOf ci k) = 2 := by rfl) : Wp g Y n pc lv (.ref b :: .ref a :: st) M Q :=
  wp_putf0 (M2 := sR M a k (some b)) hd hl hT (ref_ok (q := some b) hk).1 (ref_ok (q := some b) hk).2 (mayPut.use hm) rfl rfl rfl (fun _ _ _ h => vl_sR h) (vl_sR_at hk) (fun _ _ h => vl_sR_ne h) kk
end MR

/-! ===== rows of the plain machine: array stores, what is made ===== -/
section SR
variable {g : Gl} {Y : Meth} {n pc : Nat} {lv : List (Option Value)} {st : List Value} {M : Mem} {Q : Option Value → Mem → Prop}
theorem locs_add {locs : List Loc} {b a k : Nat} (hL : ∀ q ∈ locs, b ≤ q.base) (h : b ≤ a) : ∀ q ∈ locs ++ [⟨a, k⟩], b ≤ q.base := fun q hq => by
  rcases List.mem_append.mp hq with h1 | h1
  · exact hL q h1
  · rw [List.mem_singleton.mp h1]; exact h
theorem World.ast {M2 : Mem} {H H2 : Heap} {a κ len k : Nat} {v : Value} (hW : World g M H) (hT : mT M a = (κ, len)) (h1 : ¬ κ < 13) (h2 : κ < 28) (hz : mZ M2 = mZ M) (hT2 : mT M2 = mT M) (ho : ∀ x t j, x ≠ a → vl g M2 t x j = vl g M t x j) (hv : vl g M2 (aty κ) a k = v) (hvo : ∀ t j, j ≠ k → vl g M2 t a j = vl g M t a j)
    (e1 : H2[gl_b g + a]? = some ((arrV (gl_ca g κ) len (fun j => vl g M (aty κ) a j)).setSlot k v)) (e2 : H2.size = H.size) (e3 : ∀ q, q ≠ gl_b g + a → H2[q]? = H[q]?) : World g M2 H2 := by
  refine hW.put (a := a) hz hT2 ho (hW.arr hT h1 h2).1 e2 e3 ?_
  unfold CellAt
  rw [hT2, hT]
  refine ⟨fun h => absurd h h1, fun _ => ?_⟩
  rw [e1, arrV_store]
  congr 2
  funext j
  unfold updV
  by_cases hj : j = k
  · subst hj; rw [if_pos rfl]; exact hv.symm
  · rw [if_neg hj]; exact (hvo _ j hj).symm
theorem wp_iast {a len k : Nat} {i x : Int32} (hd : decode Y.2.1 pc = .ok (.iastore, 1)) (hT : mT M a = (20, len)) (hi : ixk i len k) (kk : Wp g Y n (pc + 1) lv st (sI M a k x) Q) : Wp g Y n pc lv (.int x :: .int i :: .ref a :: st) M Q := by
  refine wp_mem (dz := 0) (dl := 0) (M2 := sI M a k x) rfl rfl (fun p e R s m args below meth c H locs cells slots Q ls hF hlv hW hL _ _ k0 => ?_) kk
  obtain ⟨⟨hx, hb, -⟩, hown, hts, hK, -⟩ := hF
  refine W.iast hx hb (hW.arr hT (by decide) (by decide)).2 ((hK.2 0 (gl_ca g 20, .int) rfl).1 _ _) (fun q => by cases q) (by rw [arrV_size]; exact hi.inn) rfl rfl hd fun H2 e1 e2 e3 => ?_
  rw [hi.2.1] at e1 ⊢
  exact k0 H2 _ (hW.ast hT (by decide) (by decide) rfl rfl (fun _ _ _ h => vl_sI h) (vl_sI_at rfl) (fun _ _ h => vl_sI_ne h) e1 e2 e3) (locs_add hL (Nat.le_add_right _ _))
theorem wp_last {a len k : Nat} {i : Int32} {x : Int64} (hd : decode Y.2.1 pc = .ok (.lastore, 1)) (hT : mT M a = (21, len)) (hi : ixk i len k) (kk : Wp g Y n (pc + 1) lv st (sJ M a k x) Q) : Wp g Y n pc lv (.long x :: .int i :: .ref a :: st) M Q := by
  refine wp_mem (dz := 0) (dl := 0) (M2 := sJ M a k x) rfl rfl (fun p e R s m args below meth c H locs cells slots Q ls hF hlv hW hL _ _ k0 => ?_) kk
  obtain ⟨⟨hx, hb, -⟩, hown, hts, hK, -⟩ := hF
  refine W.last hx hb (hW.arr hT (by decide) (by decide)).2 ((hK.2 1 (gl_ca g 21, .long) rfl).1 _ _) (fun q => by cases q) (by rw [arrV_size]; exact hi.inn) rfl rfl hd fun H2 e1 e2 e3 => ?_
  rw [hi.2.1] at e1 ⊢
  exact k0 H2 _ (hW.ast hT (by decide) (by decide) rfl rfl (fun _ _ _ h => vl_sJ h) (vl_sJ_at rfl) (fun _ _ h => vl_sJ_ne h) e1 e2 e3) (locs_add hL (Nat.le_add_right _ _))
theorem wp_bast {a len k : Nat} {i x : Int32} (hd : decode Y.2.1 pc = .ok (.bastore, 1)) (hT : mT M a = (22, len)) (hi : ixk i len k) (kk : Wp g Y n (pc + 1) lv st (sI M a k x.toInt8.toInt32) Q) : Wp g Y n pc lv (.int x :: .int i :: .ref a :: st) M Q := by
  refine wp_mem (dz := 0) (dl := 0) (M2 := sI M a k x.toInt8.toInt32) rfl rfl (fun p e R s m args below meth c H locs cells slots Q ls hF hlv hW hL _ _ k0 => ?_) kk
  obtain ⟨⟨hx, hb, -⟩, hown, hts, hK, -⟩ := hF
  refine W.bast hx hb (hW.arr hT (by decide) (by decide)).2 ((hK.2 2 (gl_ca g 22, .byte) rfl).1 _ _) (fun q => by cases q) (by rw [arrV_size]; exact hi.inn) rfl rfl hd fun H2 e1 e2 e3 => ?_
  rw [hi.2.1] at e1 ⊢
  exact k0 H2 _ (hW.ast hT (by decide) (by decide) rfl rfl (fun _ _ _ h => vl_sI h) (vl_sI_at rfl) (fun _ _ h => vl_sI_ne h) e1 e2 e3) (locs_add hL (Nat.le_add_right _ _))
theorem wp_zast {a len k : Nat} {i x : Int32} (hd : decode Y.2.1 pc = .ok (.bastore, 1)) (hT : mT M a = (23, len)) (hi : ixk i len k) (kk : Wp g Y n (pc + 1) lv st (sI M a k (x &&& 1)) Q) : Wp g Y n pc lv (.int x :: .int i :: .ref a :: st) M Q := by
  refine wp_mem (dz := 0) (dl := 0) (M2 := sI M a k (x &&& 1)) rfl rfl (fun p e R s m args below meth c H locs cells slots Q ls hF hlv hW hL _ _ k0 => ?_) kk
  obtain ⟨⟨hx, hb, -⟩, hown, hts, hK, -⟩ := hF
  refine W.zast hx hb (hW.arr hT (by decide) (by decide)).2 ((hK.2 3 (gl_ca g 23, .boolean) rfl).1 _ _) (fun q => by cases q) (by rw [arrV_size]; exact hi.inn) rfl rfl hd fun H2 e1 e2 e3 => ?_
  rw [hi.2.1] at e1 ⊢
  exact k0 H2 _ (hW.ast hT (by decide) (by decide) rfl rfl (fun _ _ _ h => vl_sI h) (vl_sI_at rfl) (fun _ _ h => vl_sI_ne h) e1 e2 e3) (locs_add hL (Nat.le_add_right _ _))
theorem World.obj {H : Heap} {a κ len : Nat} (h : World g M H) (hT : mT M a = (κ, len)) (h1 : κ < 13) : a < mZ M ∧ t_OB (gl_b g + a) ((gl_D g).1 κ) (NF κ) ((gl_D g).2 κ) H (fun k => vl g M (tyOf κ k) a k) := by
  obtain ⟨-, -, hc⟩ := h
  obtain ⟨ha, hq, -⟩ := hc a (by rw [hT]; exact Nat.lt_of_lt_of_le h1 (by decide))
  rw [hT] at hq
  exact ⟨ha, hq h1⟩
/-- the class whose objects an array of references holds -/
def acls (κ : Nat) : Nat := match κ with
  | 24 => 7
  | 25 => 9
  | 26 => 6
  | _ => 4
theorem acls_ok {κ : Nat} (h1 : 24 ≤ κ) (h2 : κ < 28) : ∃ r : vw_C, classes[acls κ]? = some r ∧ aty κ = .object r.1 ∧ acls κ < 13 := by
  rcases (show κ = 24 ∨ κ = 25 ∨ κ = 26 ∨ κ = 27 by omega) with rfl | rfl | rfl | rfl <;> exact ⟨_, rfl, rfl, by decide⟩
theorem wp_aast {a len k b lb κ : Nat} {i : Int32} (hd : decode Y.2.1 pc = .ok (.aastore, 1)) (hT : mT M a = (κ, len)) (hi : ixk i len k) (hb0 : mT M b = (acls κ, lb)) (kk : Wp g Y n (pc + 1) lv st (sR M a k (some b)) Q) (h1 : 24 ≤ κ := by decide) (h2 : κ < 28 := by decide) : Wp g Y n pc lv (.ref b :: .int i :: .ref a :: st) M Q := by
  refine wp_mem (dz := 0) (dl := 0) (M2 := sR M a k (some b)) rfl rfl (fun p e R s m args below meth c H locs cells slots Q ls hF hlv hW hL _ _ k0 => ?_) kk
  obtain ⟨⟨hx, hb, -⟩, hown, hts, hK, -⟩ := hF
  obtain ⟨r, hr1, hr2, hr3⟩ := acls_ok h1 h2
  obtain ⟨-, hc⟩ := hW.arr hT (by omega) h2
  obtain ⟨-, cellV, g1, g2, g3, -⟩ := hW.obj hb0 hr3
  have hcls := (hK.1 _ r hr1).2
  have hty := hK.2 _ _ (tys_at g (Nat.le_trans (by decide) h1) h2)
  obtain ⟨kA, comp, k1, k2, k3, -⟩ : va_RA s (gl_ca g κ) (.object r.1) := by rw [← hr2]; exact hty.2
  have hcomp : comp = (gl_D g).1 (acls κ) := Option.some.inj (k3.symm.trans hcls.1)
  obtain ⟨hfc, kC, hkC, hkind⟩ := hcls
  refine W.aast hx hb hc (fun q => by intro h; cases h) (fun q => by cases q) k1 k2 rfl (kcomp := kC) (by rw [hcomp]; exact hkC) (by rw [arrV_size]; exact ⟨hi.1, by rw [hi.2.1]; exact hi.2.2⟩) g1 (fun q => by rw [g3]; intro h; cases h) (by rw [g2]; exact hkC) (by rw [g2, hcomp]; exact va_assign ⟨hfc, kC, hkC, hkind⟩) rfl rfl hd fun H2 e1 e2 e3 => ?_
  rw [hi.2.1] at e1 ⊢
  exact k0 H2 _ (hW.ast hT (by omega) h2 rfl rfl (fun _ _ _ h => vl_sR h) ((vl_sR_at (by rw [hr2]; rfl)).trans rfl) (fun _ _ h => vl_sR_ne h) e1 e2 e3) (locs_add hL (Nat.le_add_right _ _))
/-- a new cell -/
abbrev mNew (M : Mem) (κ len sl : Nat) : Mem := ((mZ M + 1, mL M + sl), up1 M.2.1 (mZ M) (κ, len), up1 M.2.2.1 (mZ M) (fun _ => 0), up1 M.2.2.2.1 (mZ M) (fun _ => 0), up1 M.2.2.2.2 (mZ M) (fun _ => none))
theorem up1_ne {α : Type} {f : Nat → α} {a x : Nat} {v : α} (h : x ≠ a) : up1 f a v x = f x := if_neg h
theorem up1_eq {α : Type} {f : Nat → α} {a : Nat} {v : α} : up1 f a v a = v := if_pos rfl
theorem vl_new {κ len sl x j : Nat} {t : FieldType} (h : x ≠ mZ M) : vl g (mNew M κ len sl) t x j = vl g M t x j := by
  unfold vl
  show (match fkd t with | 0 => Value.int (up1 M.2.2.1 (mZ M) (fun _ => 0) x j) | 1 => .long (up1 M.2.2.2.1 (mZ M) (fun _ => 0) x j) | _ => tv g (va_rf (up1 M.2.2.2.2 (mZ M) (fun _ => none) x j))) = _
  rw [up1_ne h, up1_ne h, up1_ne h]
  rfl
theorem vl_new_at {κ len sl j : Nat} {t : FieldType} (ht : fkd t = 2 ∨ t = .int ∨ t = .long ∨ t = .boolean ∨ t = .byte) : vl g (mNew M κ len sl) t (mZ M) j = defaultValue t := by
  unfold vl
  show (match fkd t with | 0 => Value.int (up1 M.2.2.1 (mZ M) (fun _ => 0) (mZ M) j) | 1 => .long (up1 M.2.2.2.1 (mZ M) (fun _ => 0) (mZ M) j) | _ => tv g (va_rf (up1 M.2.2.2.2 (mZ M) (fun _ => none) (mZ M) j))) = _
  rw [up1_eq, up1_eq, up1_eq]
  rcases ht with h | h | h | h | h
  · cases t <;> simp [fkd] at h <;> rfl
  · subst h; rfl
  · subst h; rfl
  · subst h; rfl
  · subst h; rfl
theorem World.mk {κ len sl : Nat} {H H2 : Heap} (hW : World g M H) (e2 : H2.size = H.size + 1) (e3 : ∀ q, q < H.size → H2[q]? = H[q]?) (hc : CellAt g (mNew M κ len sl) (mZ M) H2) : World g (mNew M κ len sl) H2 := by
  obtain ⟨h1, h2, h3⟩ := hW
  refine ⟨by rw [e2, h1]; rfl, fun q hq => by rw [e3 q (by omega)]; exact h2 q hq, fun x hx => ?_⟩
  by_cases hxz : x = mZ M
  · subst hxz
    exact ⟨Nat.lt_succ_self _, hc⟩
  · have hTx : mT (mNew M κ len sl) x = mT M x := up1_ne hxz
    rw [hTx] at hx
    obtain ⟨g1, g2, g3⟩ := h3 x hx
    refine ⟨Nat.lt_succ_of_lt g1, ?_⟩
    unfold CellAt
    rw [hTx]
    refine ⟨fun h => ?_, fun h => ?_⟩
    · exact ((g2 h).kept (e3 _ (by omega))).to (fun k _ => (vl_new hxz).symm)
    · rw [e3 _ (by omega), g3 h]
      congr 2
      funext j
      exact (vl_new hxz).symm
/-- entry ix is class ci -/
def CLk (own : String) (ix ci : Nat) : Prop := ∃ (C : String) (T : u_T) (N : Nat), classes[ci]? = some (C, T, N) ∧ Cond.classLink own ix C ∈ gd_tbl ∧ Cond.instantiable C N ∈ gd_tbl ∧ Cond.initialized C ∈ gd_tbl ∧ ∀ k, k < N → (fkd (tyOf ci k) = 2 ∨ tyOf ci k = .int ∨ tyOf ci k = .long ∨ tyOf ci k = .boolean ∨ tyOf ci k = .byte)
theorem wp_new {ix ci : Nat} (hd : decode Y.2.1 pc = .ok (.new ix, 3)) (hl : CLk Y.1.cls ix ci) (kk : Wp g Y n (pc + 3) lv (.ref (mZ M) :: st) (mNew M ci 0 (NF ci)) Q) : Wp g Y n pc lv st M Q := by
  refine wp_mem (dz := 1) (dl := NF ci) (M2 := mNew M ci 0 (NF ci)) rfl rfl (fun p e R s m args below meth c H locs cells slots Q ls hF hlv hW hL hcs hss k0 => ?_) kk
  obtain ⟨⟨hx, hb, -⟩, hown, hts, hK, -⟩ := hF
  obtain ⟨C, T, N, hc, w1, w2, w3, hdef⟩ := hl
  obtain ⟨h13, hin, hty, hnm, hN⟩ := cls_ok hc
  have hKn := hK.1 ci _ hc
  rw [hN] at hss k0
  refine W.newcK hx hb hown (hts _ w1) (hts _ w2) (hts _ w3) rfl hd hcs hss hKn.2.1 hW.1 fun H1 kC hkC e1 z1 o1 => ?_
  refine k0 H1 locs (hW.mk (by rw [z1, hW.1]) (fun q hq => o1 q (by rw [← hW.1]; exact hq)) ?_) hL
  unfold CellAt
  have hTz : mT (mNew M ci 0 N) (mZ M) = (ci, 0) := up1_eq
  rw [hTz]
  refine ⟨fun _ => ?_, fun h => absurd h13 h⟩
  show t_OB _ _ (NF ci) _ _ _
  rw [hN]
  have hbn := u_born (args := args) (tyOf ci) hts hin hKn hkC e1 hty
  exact hbn.to (fun k hk => (vl_new_at (hdef k hk)).symm)
theorem wp_newarr {at0 : ArrayType} {κ len : Nat} {i : Int32} (hd : decode Y.2.1 pc = .ok (.newarray at0, 2)) (hκ : newarray.typeOf at0 = aty κ) (hw : Cond.arrayClass (aty κ) ∈ gd_tbl) (hi : ¬ i < 0) (hi2 : i.toNatClampNeg = len) (hbyt : len * componentBytes (aty κ) ≤ 536870912) (kk : Wp g Y n (pc + 2) lv (.ref (mZ M) :: st) (mNew M κ len len) Q) (h1 : 20 ≤ κ := by decide) (h2 : κ < 24 := by decide) : Wp g Y n pc lv (.int i :: st) M Q := by
  refine wp_mem (dz := 1) (dl := len) (M2 := mNew M κ len len) rfl rfl (fun p e R s m args below meth c H locs cells slots Q ls hF hlv hW hL hcs hss k0 => ?_) kk
  obtain ⟨⟨hx, hb, -⟩, hown, hts, hK, -⟩ := hF
  refine va_newaK hx hb (by rw [hκ]; exact hts _ hw) rfl hd rfl hi hi2 (by rw [hκ]; exact hbyt) hcs hss hW.1 fun H1 cA e1 z1 o1 hAr hNm => ?_
  rw [hκ] at e1 hNm
  have hty := (hK.2 _ _ (tys_at g h1 (by omega))).2
  have hcA : cA = gl_ca g κ := by
    have hR : s.vm.findClass ("[" ++ (aty κ).toString) = some (gl_ca g κ) := by
      rcases (show κ = 20 ∨ κ = 21 ∨ κ = 22 ∨ κ = 23 by omega) with rfl | rfl | rfl | rfl <;> exact hty
    exact Option.some.inj (hNm.symm.trans hR)
  subst hcA
  refine k0 H1 locs (hW.mk (by rw [z1, hW.1]) (fun q hq => o1 q (by rw [← hW.1]; exact hq)) ?_) hL
  unfold CellAt
  have hTz : mT (mNew M κ len len) (mZ M) = (κ, len) := up1_eq
  rw [hTz]
  refine ⟨fun h => absurd h (by show ¬ κ < 13; omega), fun _ => ?_⟩
  rw [e1]
  congr 2
  funext j
  refine (vl_new_at ?_).symm
  rcases (show κ = 20 ∨ κ = 21 ∨ κ = 22 ∨ κ = 23 by omega) with rfl | rfl | rfl | rfl
  · exact Or.inr (Or.inl rfl)
  · exact Or.inr (Or.inr (Or.inl rfl))
  · exact Or.inr (Or.inr (Or.inr (Or.inr rfl)))
  · exact Or.inr (Or.inr (Or.inr (Or.inl rfl)))
theorem wp_anew {ix κ len : Nat} {C : String} {i : Int32} (hd : decode Y.2.1 pc = .ok (.anewarray ix, 3)) (hκ : aty κ = .object C) (hw1 : Cond.classLink Y.1.cls ix C ∈ gd_tbl) (hw2 : Cond.arrayOver (.object C) ∈ xw_tbl) (hi : ¬ i < 0) (hi2 : i.toNatClampNeg = len) (hbyt : len * 4 ≤ 536870912) (kk : Wp g Y n (pc + 3) lv (.ref (mZ M) :: st) (mNew M κ len len) Q) (h1 : 24 ≤ κ := by decide) (h2 : κ < 28 := by decide) : Wp g Y n pc lv (.int i :: st) M Q := by
  refine wp_mem (dz := 1) (dl := len) (M2 := mNew M κ len len) rfl rfl (fun p e R s m args below meth c H locs cells slots Q ls hF hlv hW hL hcs hss k0 => ?_) kk
  obtain ⟨⟨hx, hb, -⟩, hown, hts, hK, hE, hG, -⟩ := hF
  subst hi2
  refine W.anew hx hb hown (hts _ hw1) (va_AO.use (hG.2 s hE _ hw2)) rfl hd rfl hi hbyt hcs hss fun cA kA comp f1 f2 f3 f4 => ?_
  have hty := (hK.2 _ _ (tys_at g (by omega) h2)).2
  rw [hκ] at hty
  obtain ⟨kA2, comp2, k1, k2, k3, k4⟩ := hty
  have hcA : cA = gl_ca g κ := Option.some.inj (f1.symm.trans k4)
  subst hcA
  generalize hH1 : H.push ({ cls := gl_ca g κ, slots := Array.replicate i.toNatClampNeg .null, vm := .none } : Cell) = H1
  have z1 : H1.size = H.size + 1 := by rw [← hH1, Array.size_push]
  have e1 : H1[H.size]? = some (arrV (gl_ca g κ) i.toNatClampNeg (fun _ => .null)) := by rw [← hH1, Array.getElem?_push_size, ← arrV_new]
  have o1 : ∀ q : Nat, q < H.size → H1[q]? = H[q]? := fun q hq => by rw [← hH1, Array.getElem?_push, if_neg (Nat.ne_of_lt hq)]
  have hst : Value.ref H.size = tv g (.ref (mZ M)) := by rw [hW.1]; rfl
  show W _ _ _ _ _ _ _ _ _ _ _ _ _ _ _ (F0 m (pc + 3) ls (Value.ref H.size :: st.map (tv g)))
  rw [hst]
  refine k0 H1 locs (hW.mk z1 o1 ?_) hL
  unfold CellAt
  have hTz : mT (mNew M κ i.toNatClampNeg i.toNatClampNeg) (mZ M) = (κ, i.toNatClampNeg) := up1_eq
  rw [hTz]
  refine ⟨fun h => absurd h (by show ¬ κ < 13; omega), fun _ => ?_⟩
  rw [← hW.1, e1]
  congr 2
  funext j
  have hk2 : fkd (aty κ) = 2 := by rw [hκ]; rfl
  exact ((vl_new_at (Or.inl hk2)).trans (by rw [hκ]; rfl)).symm
end SR

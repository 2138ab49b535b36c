/-! ===== what is made at the start, as a list of cells ===== -/
section OFL
/-- tag and length; slots; numbers; longs; references -/
abbrev Cel : Type := (Nat × Nat) × Nat × (Nat → Int32) × (Nat → Int64) × (Nat → Option Nat)
def cD : Cel := ((28, 0), 0, fun _ => 0, fun _ => 0, fun _ => none)
def cN (κ len sl : Nat) : Cel := ((κ, len), sl, fun _ => 0, fun _ => 0, fun _ => none)
def cI (c : Cel) (k : Nat) (v : Int32) : Cel := (c.1, c.2.1, up1 c.2.2.1 k v, c.2.2.2.1, c.2.2.2.2)
def cR (c : Cel) (k : Nat) (v : Option Nat) : Cel := (c.1, c.2.1, c.2.2.1, c.2.2.2.1, up1 c.2.2.2.2 k v)
def slN : List Cel → Nat
  | [] => 0
  | c :: X => c.2.1 + slN X
theorem slN_a (X Y : List Cel) : slN (X ++ Y) = slN X + slN Y := by
  induction X with
  | nil => exact (Nat.zero_add _).symm
  | cons c X ih => show c.2.1 + slN (X ++ Y) = c.2.1 + slN X + slN Y; rw [ih, Nat.add_assoc]
def ofL (X : List Cel) : Mem := ((X.length, slN X), fun x => (X.getD x cD).1, fun x => (X.getD x cD).2.2.1, fun x => (X.getD x cD).2.2.2.1, fun x => (X.getD x cD).2.2.2.2)
theorem gdA {X : List Cel} {c : Cel} {x : Nat} : (X ++ [c]).getD x cD = if x = X.length then c else X.getD x cD := by
  rw [List.getD_eq_getElem?_getD, List.getD_eq_getElem?_getD]
  by_cases h : x = X.length
  · subst h
    rw [if_pos rfl, List.getElem?_append_right (Nat.le_refl _), Nat.sub_self]; rfl
  · rw [if_neg h]
    rcases Nat.lt_or_ge x X.length with q | q
    · rw [List.getElem?_append_left q]
    · rw [List.getElem?_append_right q, List.getElem?_eq_none (by show 1 ≤ x - X.length; omega), List.getElem?_eq_none q]
theorem gdB {L S : List Cel} {c : Cel} {x : Nat} : (L ++ c :: S).getD x cD = if x = L.length then c else (L ++ cD :: S).getD x cD := by
  rw [List.getD_eq_getElem?_getD, List.getD_eq_getElem?_getD]
  by_cases h : x = L.length
  · subst h
    rw [if_pos rfl, List.getElem?_append_right (Nat.le_refl _), Nat.sub_self]; rfl
  · rw [if_neg h]
    rcases Nat.lt_or_ge x L.length with q | q
    · rw [List.getElem?_append_left q, List.getElem?_append_left q]
    · rw [List.getElem?_append_right q, List.getElem?_append_right q]
      obtain ⟨y, hy⟩ : ∃ y, x - L.length = y + 1 := ⟨x - L.length - 1, by omega⟩
      rw [hy]; rfl
theorem mem_ext {M M2 : Mem} (h0 : M.1 = M2.1) (h1 : mT M = mT M2) (h2 : mI M = mI M2) (h3 : mJ M = mJ M2) (h4 : mR M = mR M2) : M = M2 := by
  obtain ⟨a, b, c, d, e⟩ := M
  obtain ⟨a2, b2, c2, d2, e2⟩ := M2
  obtain rfl : a = a2 := h0
  obtain rfl : b = b2 := h1
  obtain rfl : c = c2 := h2
  obtain rfl : d = d2 := h3
  obtain rfl : e = e2 := h4
  rfl
theorem ofL_new {X : List Cel} {κ len sl : Nat} : mNew (ofL X) κ len sl = ofL (X ++ [cN κ len sl]) := by
  refine mem_ext ?_ ?_ ?_ ?_ ?_
  · show (X.length + 1, slN X + sl) = ((X ++ [cN κ len sl]).length, slN (X ++ [cN κ len sl]))
    rw [slN_a, List.length_append]; rfl
  · funext x
    show up1 (fun x => (X.getD x cD).1) X.length (κ, len) x = ((X ++ [cN κ len sl]).getD x cD).1
    rw [gdA]; unfold up1; split <;> rfl
  · funext x
    show up1 (fun x => (X.getD x cD).2.2.1) X.length (fun _ => 0) x = ((X ++ [cN κ len sl]).getD x cD).2.2.1
    rw [gdA]; unfold up1; split <;> rfl
  · funext x
    show up1 (fun x => (X.getD x cD).2.2.2.1) X.length (fun _ => 0) x = ((X ++ [cN κ len sl]).getD x cD).2.2.2.1
    rw [gdA]; unfold up1; split <;> rfl
  · funext x
    show up1 (fun x => (X.getD x cD).2.2.2.2) X.length (fun _ => none) x = ((X ++ [cN κ len sl]).getD x cD).2.2.2.2
    rw [gdA]; unfold up1; split <;> rfl
section
variable {L S C : List Cel} {o : Cel} {a k κ len sl : Nat}
theorem ofL_l (ha : L.length = a) : (L ++ o :: S).length = a + (S.length + 1) := by
  rw [List.length_append, ha]; rfl
theorem ofL_z (ha : L.length = a) : mZ (ofL (L ++ o :: S)) = a + (S.length + 1) := ofL_l ha
theorem ofL_nw : mNew (ofL (L ++ o :: S)) κ len sl = ofL (L ++ o :: (S ++ [cN κ len sl])) := by
  rw [ofL_new, List.append_assoc, List.cons_append]
theorem ofL_n1 : mNew (ofL (L ++ o :: S)) κ len sl = ofL ((L ++ o :: S) ++ [cN κ len sl]) := ofL_new
theorem ofL_a : ofL ((L ++ o :: S) ++ C) = ofL (L ++ o :: (S ++ C)) := by rw [List.append_assoc, List.cons_append]
theorem ofL_T (ha : L.length = a) : mT (ofL (L ++ o :: S)) a = o.1 := by
  show ((L ++ o :: S).getD a cD).1 = _
  rw [gdB, if_pos ha.symm]
theorem ofL_I (ha : L.length = a) : mI (ofL (L ++ o :: S)) a = o.2.2.1 := by
  show ((L ++ o :: S).getD a cD).2.2.1 = _
  rw [gdB, if_pos ha.symm]
theorem ofL_R (ha : L.length = a) : mR (ofL (L ++ o :: S)) a = o.2.2.2.2 := by
  show ((L ++ o :: S).getD a cD).2.2.2.2 = _
  rw [gdB, if_pos ha.symm]
theorem ofL_sI {v : Int32} (ha : L.length = a) : sI (ofL (L ++ o :: S)) a k v = ofL (L ++ cI o k v :: S) := by
  subst ha
  refine mem_ext ?_ ?_ ?_ ?_ ?_
  · show ((L ++ o :: S).length, slN (L ++ o :: S)) = ((L ++ cI o k v :: S).length, slN (L ++ cI o k v :: S))
    rw [slN_a, slN_a, List.length_append, List.length_append]; rfl
  · funext x
    show ((L ++ o :: S).getD x cD).1 = ((L ++ cI o k v :: S).getD x cD).1
    rw [gdB, gdB (c := cI o k v)]; split <;> rfl
  · funext x
    show up2 (fun x => ((L ++ o :: S).getD x cD).2.2.1) L.length k v x = ((L ++ cI o k v :: S).getD x cD).2.2.1
    rw [up2_up1, gdB (c := cI o k v)]
    unfold up1
    split
    · rename_i h
      funext y
      show (if y = k then v else ((L ++ o :: S).getD L.length cD).2.2.1 y) = _
      rw [gdB, if_pos rfl]; rfl
    · rename_i h
      show ((L ++ o :: S).getD x cD).2.2.1 = _
      rw [gdB, if_neg h]
  · funext x
    show ((L ++ o :: S).getD x cD).2.2.2.1 = ((L ++ cI o k v :: S).getD x cD).2.2.2.1
    rw [gdB, gdB (c := cI o k v)]; split <;> rfl
  · funext x
    show ((L ++ o :: S).getD x cD).2.2.2.2 = ((L ++ cI o k v :: S).getD x cD).2.2.2.2
    rw [gdB, gdB (c := cI o k v)]; split <;> rfl
theorem ofL_sR {v : Option Nat} (ha : L.length = a) : sR (ofL (L ++ o :: S)) a k v = ofL (L ++ cR o k v :: S) := by
  subst ha
  refine mem_ext ?_ ?_ ?_ ?_ ?_
  · show ((L ++ o :: S).length, slN (L ++ o :: S)) = ((L ++ cR o k v :: S).length, slN (L ++ cR o k v :: S))
    rw [slN_a, slN_a, List.length_append, List.length_append]; rfl
  · funext x
    show ((L ++ o :: S).getD x cD).1 = ((L ++ cR o k v :: S).getD x cD).1
    rw [gdB, gdB (c := cR o k v)]; split <;> rfl
  · funext x
    show ((L ++ o :: S).getD x cD).2.2.1 = ((L ++ cR o k v :: S).getD x cD).2.2.1
    rw [gdB, gdB (c := cR o k v)]; split <;> rfl
  · funext x
    show ((L ++ o :: S).getD x cD).2.2.2.1 = ((L ++ cR o k v :: S).getD x cD).2.2.2.1
    rw [gdB, gdB (c := cR o k v)]; split <;> rfl
  · funext x
    show up2 (fun x => ((L ++ o :: S).getD x cD).2.2.2.2) L.length k v x = ((L ++ cR o k v :: S).getD x cD).2.2.2.2
    rw [up2_up1, gdB (c := cR o k v)]
    unfold up1
    split
    · rename_i h
      funext y
      show (if y = k then v else ((L ++ o :: S).getD L.length cD).2.2.2.2 y) = _
      rw [gdB, if_pos rfl]; rfl
    · rename_i h
      show ((L ++ o :: S).getD x cD).2.2.2.2 = _
      rw [gdB, if_neg h]
end
variable {g : Gl} {M : Mem}
def teC (a : Nat) : List Cel := cI (cR (cR (cI (cI (cR (cR (cI (cR (cN 7 0 (NF 7)) 0 (some (a + 1))) 1 (nI 0)) 2 (some (a + 2))) 3 (some (a + 3))) 4 (nI 0)) 5 (nI 1000)) 6 (some (a + 4))) 7 (some (a + 5))) 8 (nI 0) :: ((((((([] : List Cel)) ++ [cN 20 24 24]) ++ [cN 20 25 25]) ++ [cN 20 7 7]) ++ [cN 21 25 25]) ++ [cN 20 32 32])
theorem i_Te {L : List Cel} {a : Nat} (ha : L.length = a) : Cv g Y_Te_init 1 [.ref a] (ofL (L ++ [cN 7 0 (NF 7)])) (fun M2 => M2 = ofL (L ++ teC a)) := by
  refine cw_entry 0 pf_Te_init rfl ?_
  refine wp_aload_n rfl (ck_get kk_Te_init 0 rfl) ?_
  refine wp_objInit (ck_get kk_Te_init 1 rfl) ol_Te_3 oi_ok (by omega) (Nat.le_of_ble_eq_true rfl) ?_
  refine wp_aload_n rfl (ck_get kk_Te_init 2 rfl) ?_
  refine wp_bipush (v := nI 24) (by decide) (ck_get kk_Te_init 3 rfl) ?_
  refine wp_newarr (κ := 20) (len := 24) (ck_get kk_Te_init 4 rfl) rfl ac_int (by decide) rfl (by decide) ?_
  rw [ofL_z ha, ofL_nw]
  refine wp_putR (ck_get kk_Te_init 5 rfl) fl_Te_9 (by decide +kernel) (ofL_T ha) ?_
  rw [ofL_sR ha]
  refine wp_aload_n rfl (ck_get kk_Te_init 6 rfl) ?_
  refine wp_iconst (v := nI 0) (by decide) (ck_get kk_Te_init 7 rfl) ?_
  refine wp_putI (ck_get kk_Te_init 8 rfl) fl_Te_15 (by decide +kernel) (ofL_T ha) (okI_int _) ?_
  rw [ofL_sI ha]
  refine wp_aload_n rfl (ck_get kk_Te_init 9 rfl) ?_
  refine wp_bipush (v := nI 25) (by decide) (ck_get kk_Te_init 10 rfl) ?_
  refine wp_newarr (κ := 20) (len := 25) (ck_get kk_Te_init 11 rfl) rfl ac_int (by decide) rfl (by decide) ?_
  rw [ofL_z ha, ofL_nw]
  refine wp_putR (ck_get kk_Te_init 12 rfl) fl_Te_19 (by decide +kernel) (ofL_T ha) ?_
  rw [ofL_sR ha]
  refine wp_aload_n rfl (ck_get kk_Te_init 13 rfl) ?_
  refine wp_bipush (v := nI 7) (by decide) (ck_get kk_Te_init 14 rfl) ?_
  refine wp_newarr (κ := 20) (len := 7) (ck_get kk_Te_init 15 rfl) rfl ac_int (by decide) rfl (by decide) ?_
  rw [ofL_z ha, ofL_nw]
  refine wp_putR (ck_get kk_Te_init 16 rfl) fl_Te_22 (by decide +kernel) (ofL_T ha) ?_
  rw [ofL_sR ha]
  refine wp_aload_n rfl (ck_get kk_Te_init 17 rfl) ?_
  refine wp_iconst (v := nI 0) (by decide) (ck_get kk_Te_init 18 rfl) ?_
  refine wp_putI (ck_get kk_Te_init 19 rfl) fl_Te_25 (by decide +kernel) (ofL_T ha) (okI_int _) ?_
  rw [ofL_sI ha]
  refine wp_aload_n rfl (ck_get kk_Te_init 20 rfl) ?_
  refine wp_sipush (v := nI 1000) (by decide) (ck_get kk_Te_init 21 rfl) ?_
  refine wp_putI (ck_get kk_Te_init 22 rfl) fl_Te_28 (by decide +kernel) (ofL_T ha) (okI_int _) ?_
  rw [ofL_sI ha]
  refine wp_aload_n rfl (ck_get kk_Te_init 23 rfl) ?_
  refine wp_bipush (v := nI 25) (by decide) (ck_get kk_Te_init 24 rfl) ?_
  refine wp_newarr (κ := 21) (len := 25) (ck_get kk_Te_init 25 rfl) rfl ac_long (by decide) rfl (by decide) ?_
  rw [ofL_z ha, ofL_nw]
  refine wp_putR (ck_get kk_Te_init 26 rfl) fl_Te_31 (by decide +kernel) (ofL_T ha) ?_
  rw [ofL_sR ha]
  refine wp_aload_n rfl (ck_get kk_Te_init 27 rfl) ?_
  refine wp_bipush (v := nI 32) (by decide) (ck_get kk_Te_init 28 rfl) ?_
  refine wp_newarr (κ := 20) (len := 32) (ck_get kk_Te_init 29 rfl) rfl ac_int (by decide) rfl (by decide) ?_
  rw [ofL_z ha, ofL_nw]
  refine wp_putR (ck_get kk_Te_init 30 rfl) fl_Te_35 (by decide +kernel) (ofL_T ha) ?_
  rw [ofL_sR ha]
  refine wp_aload_n rfl (ck_get kk_Te_init 31 rfl) ?_
  refine wp_iconst (v := nI 0) (by decide) (ck_get kk_Te_init 32 rfl) ?_
  refine wp_putI (ck_get kk_Te_init 33 rfl) fl_Te_38 (by decide +kernel) (ofL_T ha) (okI_int _) ?_
  rw [ofL_sI ha]
  exact wp_return (ck_get kk_Te_init 34 rfl) rfl ⟨rfl, rfl⟩
def juC (a : Nat) : List Cel := cR (cR (cR (cI (cI (cN 2 0 (NF 2)) 0 (nI 1)) 1 (nI 0)) 2 (some (a + 1))) 3 (some (a + 2))) 4 (some (a + 3)) :: ((((([] : List Cel)) ++ [cN 20 11 11]) ++ [cN 20 6 6]) ++ [cN 21 64 64])
theorem i_Ju {L : List Cel} {a : Nat} (ha : L.length = a) : Cv g Y_Ju_init 1 [.ref a] (ofL (L ++ [cN 2 0 (NF 2)])) (fun M2 => M2 = ofL (L ++ juC a)) := by
  refine cw_entry 0 pf_Ju_init rfl ?_
  refine wp_aload_n rfl (ck_get kk_Ju_init 0 rfl) ?_
  refine wp_objInit (ck_get kk_Ju_init 1 rfl) ol_Ju_3 oi_ok (by omega) (Nat.le_of_ble_eq_true rfl) ?_
  refine wp_aload_n rfl (ck_get kk_Ju_init 2 rfl) ?_
  refine wp_iconst (v := nI 1) (by decide) (ck_get kk_Ju_init 3 rfl) ?_
  refine wp_putI (ck_get kk_Ju_init 4 rfl) fl_Ju_9 (by decide +kernel) (ofL_T ha) (okI_int _) ?_
  rw [ofL_sI ha]
  refine wp_aload_n rfl (ck_get kk_Ju_init 5 rfl) ?_
  refine wp_iconst (v := nI 0) (by decide) (ck_get kk_Ju_init 6 rfl) ?_
  refine wp_putI (ck_get kk_Ju_init 7 rfl) fl_Ju_15 (by decide +kernel) (ofL_T ha) (by first | exact okI_b0 | exact okI_b1) ?_
  rw [ofL_sI ha]
  refine wp_aload_n rfl (ck_get kk_Ju_init 8 rfl) ?_
  refine wp_bipush (v := nI 11) (by decide) (ck_get kk_Ju_init 9 rfl) ?_
  refine wp_newarr (κ := 20) (len := 11) (ck_get kk_Ju_init 10 rfl) rfl ac_int (by decide) rfl (by decide) ?_
  rw [ofL_z ha, ofL_nw]
  refine wp_putR (ck_get kk_Ju_init 11 rfl) fl_Ju_19 (by decide +kernel) (ofL_T ha) ?_
  rw [ofL_sR ha]
  refine wp_aload_n rfl (ck_get kk_Ju_init 12 rfl) ?_
  refine wp_bipush (v := nI 6) (by decide) (ck_get kk_Ju_init 13 rfl) ?_
  refine wp_newarr (κ := 20) (len := 6) (ck_get kk_Ju_init 14 rfl) rfl ac_int (by decide) rfl (by decide) ?_
  rw [ofL_z ha, ofL_nw]
  refine wp_putR (ck_get kk_Ju_init 15 rfl) fl_Ju_23 (by decide +kernel) (ofL_T ha) ?_
  rw [ofL_sR ha]
  refine wp_aload_n rfl (ck_get kk_Ju_init 16 rfl) ?_
  refine wp_bipush (v := nI 64) (by decide) (ck_get kk_Ju_init 17 rfl) ?_
  refine wp_newarr (κ := 21) (len := 64) (ck_get kk_Ju_init 18 rfl) rfl ac_long (by decide) rfl (by decide) ?_
  rw [ofL_z ha, ofL_nw]
  refine wp_putR (ck_get kk_Ju_init 19 rfl) fl_Ju_26 (by decide +kernel) (ofL_T ha) ?_
  rw [ofL_sR ha]
  exact wp_return (ck_get kk_Ju_init 20 rfl) rfl ⟨rfl, rfl⟩
def reC (a : Nat) : List Cel := cR (cR (cR (cR (cR (cR (cR (cR (cI (cI (cN 5 0 (NF 5)) 0 (nI 0)) 1 (nI 0)) 2 (some (a + 1))) 3 (some (a + 2))) 4 (some (a + 3))) 5 (some (a + 4))) 6 (some (a + 5))) 7 (some (a + 6))) 8 (some (a + 7))) 9 (some (a + 8)) :: (((((((((([] : List Cel)) ++ [cN 20 32 32]) ++ [cN 20 32 32]) ++ [cN 20 32 32]) ++ [cN 20 32 32]) ++ [cN 20 32 32]) ++ [cN 20 32 32]) ++ [cN 20 32 32]) ++ [cN 20 32 32])
theorem i_Re {L : List Cel} {a : Nat} (ha : L.length = a) : Cv g Y_Re_init 1 [.ref a] (ofL (L ++ [cN 5 0 (NF 5)])) (fun M2 => M2 = ofL (L ++ reC a)) := by
  refine cw_entry 0 pf_Re_init rfl ?_
  refine wp_aload_n rfl (ck_get kk_Re_init 0 rfl) ?_
  refine wp_objInit (ck_get kk_Re_init 1 rfl) ol_Re_3 oi_ok (by omega) (Nat.le_of_ble_eq_true rfl) ?_
  refine wp_aload_n rfl (ck_get kk_Re_init 2 rfl) ?_
  refine wp_iconst (v := nI 0) (by decide) (ck_get kk_Re_init 3 rfl) ?_
  refine wp_putI (ck_get kk_Re_init 4 rfl) fl_Re_9 (by decide +kernel) (ofL_T ha) (okI_int _) ?_
  rw [ofL_sI ha]
  refine wp_aload_n rfl (ck_get kk_Re_init 5 rfl) ?_
  refine wp_iconst (v := nI 0) (by decide) (ck_get kk_Re_init 6 rfl) ?_
  refine wp_putI (ck_get kk_Re_init 7 rfl) fl_Re_15 (by decide +kernel) (ofL_T ha) (okI_int _) ?_
  rw [ofL_sI ha]
  refine wp_aload_n rfl (ck_get kk_Re_init 8 rfl) ?_
  refine wp_bipush (v := nI 32) (by decide) (ck_get kk_Re_init 9 rfl) ?_
  refine wp_newarr (κ := 20) (len := 32) (ck_get kk_Re_init 10 rfl) rfl ac_int (by decide) rfl (by decide) ?_
  rw [ofL_z ha, ofL_nw]
  refine wp_putR (ck_get kk_Re_init 11 rfl) fl_Re_18 (by decide +kernel) (ofL_T ha) ?_
  rw [ofL_sR ha]
  refine wp_aload_n rfl (ck_get kk_Re_init 12 rfl) ?_
  refine wp_bipush (v := nI 32) (by decide) (ck_get kk_Re_init 13 rfl) ?_
  refine wp_newarr (κ := 20) (len := 32) (ck_get kk_Re_init 14 rfl) rfl ac_int (by decide) rfl (by decide) ?_
  rw [ofL_z ha, ofL_nw]
  refine wp_putR (ck_get kk_Re_init 15 rfl) fl_Re_22 (by decide +kernel) (ofL_T ha) ?_
  rw [ofL_sR ha]
  refine wp_aload_n rfl (ck_get kk_Re_init 16 rfl) ?_
  refine wp_bipush (v := nI 32) (by decide) (ck_get kk_Re_init 17 rfl) ?_
  refine wp_newarr (κ := 20) (len := 32) (ck_get kk_Re_init 18 rfl) rfl ac_int (by decide) rfl (by decide) ?_
  rw [ofL_z ha, ofL_nw]
  refine wp_putR (ck_get kk_Re_init 19 rfl) fl_Re_25 (by decide +kernel) (ofL_T ha) ?_
  rw [ofL_sR ha]
  refine wp_aload_n rfl (ck_get kk_Re_init 20 rfl) ?_
  refine wp_bipush (v := nI 32) (by decide) (ck_get kk_Re_init 21 rfl) ?_
  refine wp_newarr (κ := 20) (len := 32) (ck_get kk_Re_init 22 rfl) rfl ac_int (by decide) rfl (by decide) ?_
  rw [ofL_z ha, ofL_nw]
  refine wp_putR (ck_get kk_Re_init 23 rfl) fl_Re_28 (by decide +kernel) (ofL_T ha) ?_
  rw [ofL_sR ha]
  refine wp_aload_n rfl (ck_get kk_Re_init 24 rfl) ?_
  refine wp_bipush (v := nI 32) (by decide) (ck_get kk_Re_init 25 rfl) ?_
  refine wp_newarr (κ := 20) (len := 32) (ck_get kk_Re_init 26 rfl) rfl ac_int (by decide) rfl (by decide) ?_
  rw [ofL_z ha, ofL_nw]
  refine wp_putR (ck_get kk_Re_init 27 rfl) fl_Re_31 (by decide +kernel) (ofL_T ha) ?_
  rw [ofL_sR ha]
  refine wp_aload_n rfl (ck_get kk_Re_init 28 rfl) ?_
  refine wp_bipush (v := nI 32) (by decide) (ck_get kk_Re_init 29 rfl) ?_
  refine wp_newarr (κ := 20) (len := 32) (ck_get kk_Re_init 30 rfl) rfl ac_int (by decide) rfl (by decide) ?_
  rw [ofL_z ha, ofL_nw]
  refine wp_putR (ck_get kk_Re_init 31 rfl) fl_Re_34 (by decide +kernel) (ofL_T ha) ?_
  rw [ofL_sR ha]
  refine wp_aload_n rfl (ck_get kk_Re_init 32 rfl) ?_
  refine wp_bipush (v := nI 32) (by decide) (ck_get kk_Re_init 33 rfl) ?_
  refine wp_newarr (κ := 20) (len := 32) (ck_get kk_Re_init 34 rfl) rfl ac_int (by decide) rfl (by decide) ?_
  rw [ofL_z ha, ofL_nw]
  refine wp_putR (ck_get kk_Re_init 35 rfl) fl_Re_37 (by decide +kernel) (ofL_T ha) ?_
  rw [ofL_sR ha]
  refine wp_aload_n rfl (ck_get kk_Re_init 36 rfl) ?_
  refine wp_bipush (v := nI 32) (by decide) (ck_get kk_Re_init 37 rfl) ?_
  refine wp_newarr (κ := 20) (len := 32) (ck_get kk_Re_init 38 rfl) rfl ac_int (by decide) rfl (by decide) ?_
  rw [ofL_z ha, ofL_nw]
  refine wp_putR (ck_get kk_Re_init 39 rfl) fl_Re_40 (by decide +kernel) (ofL_T ha) ?_
  rw [ofL_sR ha]
  exact wp_return (ck_get kk_Re_init 40 rfl) rfl ⟨rfl, rfl⟩
def deC (a : Nat) : List Cel := cR (cR (cR (cR (cR (cR (cN 1 0 (NF 1)) 0 (some (a + 1))) 1 (some (a + 2))) 2 (some (a + 3))) 3 (some (a + 4))) 4 (some (a + 5))) 5 (some (a + 6)) :: (((((((([] : List Cel)) ++ [cN 20 4 4]) ++ [cN 21 96 96]) ++ [cN 21 96 96]) ++ [cN 20 100 100]) ++ [cN 20 245 245]) ++ [cN 20 196 196])
theorem i_De {L : List Cel} {a : Nat} (ha : L.length = a) : Cv g Y_De_init 1 [.ref a] (ofL (L ++ [cN 1 0 (NF 1)])) (fun M2 => M2 = ofL (L ++ deC a)) := by
  refine cw_entry 0 pf_De_init rfl ?_
  refine wp_aload_n rfl (ck_get kk_De_init 0 rfl) ?_
  refine wp_objInit (ck_get kk_De_init 1 rfl) ol_De_3 oi_ok (by omega) (Nat.le_of_ble_eq_true rfl) ?_
  refine wp_aload_n rfl (ck_get kk_De_init 2 rfl) ?_
  refine wp_iconst (v := nI 4) (by decide) (ck_get kk_De_init 3 rfl) ?_
  refine wp_newarr (κ := 20) (len := 4) (ck_get kk_De_init 4 rfl) rfl ac_int (by decide) rfl (by decide) ?_
  rw [ofL_z ha, ofL_nw]
  refine wp_putR (ck_get kk_De_init 5 rfl) fl_De_9 (by decide +kernel) (ofL_T ha) ?_
  rw [ofL_sR ha]
  refine wp_aload_n rfl (ck_get kk_De_init 6 rfl) ?_
  refine wp_bipush (v := nI 96) (by decide) (ck_get kk_De_init 7 rfl) ?_
  refine wp_newarr (κ := 21) (len := 96) (ck_get kk_De_init 8 rfl) rfl ac_long (by decide) rfl (by decide) ?_
  rw [ofL_z ha, ofL_nw]
  refine wp_putR (ck_get kk_De_init 9 rfl) fl_De_15 (by decide +kernel) (ofL_T ha) ?_
  rw [ofL_sR ha]
  refine wp_aload_n rfl (ck_get kk_De_init 10 rfl) ?_
  refine wp_bipush (v := nI 96) (by decide) (ck_get kk_De_init 11 rfl) ?_
  refine wp_newarr (κ := 21) (len := 96) (ck_get kk_De_init 12 rfl) rfl ac_long (by decide) rfl (by decide) ?_
  rw [ofL_z ha, ofL_nw]
  refine wp_putR (ck_get kk_De_init 13 rfl) fl_De_19 (by decide +kernel) (ofL_T ha) ?_
  rw [ofL_sR ha]
  refine wp_aload_n rfl (ck_get kk_De_init 14 rfl) ?_
  refine wp_bipush (v := nI 100) (by decide) (ck_get kk_De_init 15 rfl) ?_
  refine wp_newarr (κ := 20) (len := 100) (ck_get kk_De_init 16 rfl) rfl ac_int (by decide) rfl (by decide) ?_
  rw [ofL_z ha, ofL_nw]
  refine wp_putR (ck_get kk_De_init 17 rfl) fl_De_22 (by decide +kernel) (ofL_T ha) ?_
  rw [ofL_sR ha]
  refine wp_aload_n rfl (ck_get kk_De_init 18 rfl) ?_
  refine wp_sipush (v := nI 245) (by decide) (ck_get kk_De_init 19 rfl) ?_
  refine wp_newarr (κ := 20) (len := 245) (ck_get kk_De_init 20 rfl) rfl ac_int (by decide) rfl (by decide) ?_
  rw [ofL_z ha, ofL_nw]
  refine wp_putR (ck_get kk_De_init 21 rfl) fl_De_25 (by decide +kernel) (ofL_T ha) ?_
  rw [ofL_sR ha]
  refine wp_aload_n rfl (ck_get kk_De_init 22 rfl) ?_
  refine wp_sipush (v := nI 196) (by decide) (ck_get kk_De_init 23 rfl) ?_
  refine wp_newarr (κ := 20) (len := 196) (ck_get kk_De_init 24 rfl) rfl ac_int (by decide) rfl (by decide) ?_
  rw [ofL_z ha, ofL_nw]
  refine wp_putR (ck_get kk_De_init 25 rfl) fl_De_28 (by decide +kernel) (ofL_T ha) ?_
  rw [ofL_sR ha]
  exact wp_return (ck_get kk_De_init 26 rfl) rfl ⟨rfl, rfl⟩
def prC (a len : Nat) : List Cel := cR (cI (cR (cR (cR (cR (cR (cR (cI (cN 4 0 (NF 4)) 0 (nI 0)) 1 (some (a + 1))) 2 (some (a + 2))) 3 (some (a + 3))) 4 (some (a + 4))) 5 (some (a + 5))) 6 (some (a + 6))) 8 (nI 0)) 7 (some (a + 7)) :: [cN 20 12 12, cN 20 12 12, cN 20 12 12, cN 20 12 12, cN 20 12 12, cN 20 12 12, cN 20 len len]
def tesC (a : Nat) : Nat → List Cel
  | 0 => []
  | t + 1 => tesC a t ++ teC (a + 6 * t)
theorem tesC_len (a : Nat) : ∀ t, (tesC a t).length = 6 * t := by
  intro t
  induction t with
  | zero => rfl
  | succ t ih => show (tesC a t ++ teC (a + 6 * t)).length = _; rw [List.length_append, ih]; rfl
/-- references to things that lie at equal distances -/
def rfT (b d t : Nat) : Nat → Option Nat := fun j => if j < t then some (b + d * j) else none
def cX (κ len b d t : Nat) : Cel := ((κ, len), len, fun _ => 0, fun _ => 0, rfT b d t)
theorem cX_0 {κ len b d : Nat} : cX κ len b d 0 = cN κ len len := by
  unfold cX cN
  congr
theorem cX_s {κ len b d t : Nat} : cR (cX κ len b d t) t (some (b + d * t)) = cX κ len b d (t + 1) := by
  unfold cR cX
  congr
  funext j
  unfold up1 rfT
  by_cases h : j = t
  · subst h; rw [if_pos rfl, if_pos (Nat.lt_succ_self _)]
  · rw [if_neg h]
    show (if j < t then some (b + d * j) else none) = _
    by_cases q : j < t
    · rw [if_pos q, if_pos (by omega)]
    · rw [if_neg q, if_neg (by omega)]
def woO (a : Nat) : Cel := cI (cR (cN 9 0 (NF 9)) 0 (some (a + 1))) 1 (nI 0)
def woC (a : Nat) : List Cel := woO a :: cX 24 4 (a + 2) 6 4 :: tesC (a + 2) 4
theorem woC_len (a : Nat) : (woC a).length = 26 := by
  show (tesC (a + 2) 4).length + 1 + 1 = 26
  rw [tesC_len]
theorem ofL_2 {L S : List Cel} {o p : Cel} : ofL (L ++ o :: p :: S) = ofL ((L ++ [o]) ++ p :: S) := by rw [List.append_assoc]; rfl
theorem l_wo {L : List Cel} {a : Nat} (ha : L.length = a) : ∀ k t, t + k = 4 → Wp g Y_Wo_init 3 19 [some (.ref a), some (.int (nI t))] [] (ofL (L ++ woO a :: cX 24 4 (a + 2) 6 t :: tesC (a + 2) t)) (fun r M2 => r = none ∧ M2 = ofL (L ++ woC a)) := by
  intro k
  induction k with
  | zero =>
    intro t ht
    obtain rfl : t = 4 := by omega
    refine wp_iload_n rfl (ck_get kk_Wo_init 11 rfl) ?_
    refine wp_iconst (v := nI 4) (by decide) (ck_get kk_Wo_init 12 rfl) ?_
    first | refine wp_icmp_geN (t := 43) (ck_get kk_Wo_init 13 rfl) (by decide) (by omega) (by omega) (fun hc21 => ?_) (fun hc21 => ?_) | refine wp_icmp_ge (t := 43) (ck_get kk_Wo_init 13 rfl) (by decide) (fun hc21 => ?_) (fun hc21 => ?_)
    · refine wp_return (ck_get kk_Wo_init 23 rfl) rfl ⟨rfl, ?_⟩
      rfl
    · omega
  | succ k ih =>
    intro t ht
    have tw : mT (ofL (L ++ woO a :: cX 24 4 (a + 2) 6 t :: tesC (a + 2) t)) a = (9, 0) := ofL_T ha
    have rw0 : mR (ofL (L ++ woO a :: cX 24 4 (a + 2) 6 t :: tesC (a + 2) t)) a 0 = some (a + 1) := by rw [ofL_R ha]; rfl
    have hl : (L ++ woO a :: cX 24 4 (a + 2) 6 t :: tesC (a + 2) t).length = a + 2 + 6 * t := by
      rw [List.length_append, ha]
      show a + ((tesC (a + 2) t).length + 1 + 1) = _
      rw [tesC_len]; omega
    have hl1 : (L ++ [woO a]).length = a + 1 := by rw [List.length_append, ha]; rfl
    refine wp_iload_n rfl (ck_get kk_Wo_init 11 rfl) ?_
    refine wp_iconst (v := nI 4) (by decide) (ck_get kk_Wo_init 12 rfl) ?_
    first | refine wp_icmp_geN (t := 43) (ck_get kk_Wo_init 13 rfl) (by decide) (by omega) (by omega) (fun hc21 => ?_) (fun hc21 => ?_) | refine wp_icmp_ge (t := 43) (ck_get kk_Wo_init 13 rfl) (by decide) (fun hc21 => ?_) (fun hc21 => ?_)
    · omega
    · refine wp_aload_n rfl (ck_get kk_Wo_init 14 rfl) ?_
      refine wp_getR (ck_get kk_Wo_init 15 rfl) fl_Wo_11 (by assumption) (by assumption) ?_
      refine wp_iload_n rfl (ck_get kk_Wo_init 16 rfl) ?_
      refine wp_new (ck_get kk_Wo_init 17 rfl) cl_Wo_9 ?_
      rw [show mZ (ofL (L ++ woO a :: cX 24 4 (a + 2) 6 t :: tesC (a + 2) t)) = a + 2 + 6 * t from hl, ofL_n1]
      refine wp_dup rfl (ck_get kk_Wo_init 18 rfl) ?_
      refine wp_cIN0v (ck_get kk_Wo_init 19 rfl) ml_Wo_21 (by omega) (Nat.le_of_ble_eq_true rfl) (Cv.to (i_Te hl) ?_)
      rintro M1 w1
      subst w1
      rw [ofL_a, List.cons_append]
      have tA : mT (ofL (L ++ woO a :: cX 24 4 (a + 2) 6 t :: (tesC (a + 2) t ++ teC (a + 2 + 6 * t)))) (a + 1) = (24, 4) := by rw [ofL_2]; exact ofL_T hl1
      have tB : mT (ofL (L ++ woO a :: cX 24 4 (a + 2) 6 t :: (tesC (a + 2) t ++ teC (a + 2 + 6 * t)))) (a + 2 + 6 * t) = (7, 0) := by
        rw [show L ++ woO a :: cX 24 4 (a + 2) 6 t :: (tesC (a + 2) t ++ teC (a + 2 + 6 * t)) = (L ++ woO a :: cX 24 4 (a + 2) 6 t :: tesC (a + 2) t) ++ teC (a + 2 + 6 * t) by rw [List.append_assoc]; rfl]
        exact ofL_T hl
      refine wp_aast (ck_get kk_Wo_init 20 rfl) (by assumption) (ixk_nI (k := t) (by omega) (by omega)) (by assumption) ?_
      rw [ofL_2, ofL_sR hl1, cX_s, ← ofL_2]
      first | refine wp_iincN (ck_get kk_Wo_init 21 rfl) rfl (by decide) rfl ?_ | refine wp_iinc (ck_get kk_Wo_init 21 rfl) rfl (by decide) rfl ?_
      refine wp_goto (t := 19) (ck_get kk_Wo_init 22 rfl) (by decide) ?_
      exact ih (t + 1) (by omega)
theorem i_Wo {L : List Cel} {a : Nat} (ha : L.length = a) : Cv g Y_Wo_init 3 [.ref a] (ofL (L ++ [cN 9 0 (NF 9)])) (fun M2 => M2 = ofL (L ++ woC a)) := by
  refine cw_entry 1 pf_Wo_init rfl ?_
  refine wp_aload_n rfl (ck_get kk_Wo_init 0 rfl) ?_
  refine wp_objInit (ck_get kk_Wo_init 1 rfl) ol_Wo_3 oi_ok (by omega) (Nat.le_of_ble_eq_true rfl) ?_
  refine wp_aload_n rfl (ck_get kk_Wo_init 2 rfl) ?_
  refine wp_iconst (v := nI 4) (by decide) (ck_get kk_Wo_init 3 rfl) ?_
  refine wp_anew (κ := 24) (len := 4) (ck_get kk_Wo_init 4 rfl) rfl al_Wo_9.1 al_Wo_9.2 (by decide) rfl (by decide) ?_
  rw [ofL_z ha, ofL_nw]
  refine wp_putR (ck_get kk_Wo_init 5 rfl) fl_Wo_11 (by decide +kernel) (ofL_T ha) ?_
  rw [ofL_sR ha]
  refine wp_aload_n rfl (ck_get kk_Wo_init 6 rfl) ?_
  refine wp_iconst (v := nI 0) (by decide) (ck_get kk_Wo_init 7 rfl) ?_
  refine wp_putI (ck_get kk_Wo_init 8 rfl) fl_Wo_17 (by decide +kernel) (ofL_T ha) (okI_int _) ?_
  rw [ofL_sI ha]
  refine wp_iconst (v := nI 0) (by decide) (ck_get kk_Wo_init 9 rfl) ?_
  refine wp_istore_n (ck_get kk_Wo_init 10 rfl) (by decide) rfl ?_
  have := l_wo (g := g) ha 4 0 rfl
  rw [cX_0] at this
  exact this
def wosC (a : Nat) : Nat → List Cel
  | 0 => []
  | t + 1 => wosC a t ++ woC (a + 26 * t)
theorem wosC_len (a : Nat) : ∀ t, (wosC a t).length = 26 * t := by
  intro t
  induction t with
  | zero => rfl
  | succ t ih => show (wosC a t ++ woC (a + 26 * t)).length = _; rw [List.length_append, ih, woC_len]; omega
def trO (a : Nat) : Cel := cI (cI (cR (cR (cN 8 0 (NF 8)) 0 (some (a + 1))) 1 (some (a + 2))) 2 (nI 0)) 3 (nI 0)
def trC (a : Nat) : List Cel := trO a :: cX 25 16 (a + 3) 26 16 :: cN 20 16 16 :: wosC (a + 3) 16
theorem trC_len (a : Nat) : (trC a).length = 419 := by
  show (wosC (a + 3) 16).length + 1 + 1 + 1 = 419
  rw [wosC_len]
theorem l_tr {L : List Cel} {a : Nat} (ha : L.length = a) : ∀ k t, t + k = 16 → Wp g Y_Tr_init 5 33 [some (.ref a), some (.int (nI t))] [] (ofL (L ++ trO a :: cX 25 16 (a + 3) 26 t :: cN 20 16 16 :: wosC (a + 3) t)) (fun r M2 => r = none ∧ M2 = ofL (L ++ trC a)) := by
  intro k
  induction k with
  | zero =>
    intro t ht
    obtain rfl : t = 16 := by omega
    refine wp_iload_n rfl (ck_get kk_Tr_init 18 rfl) ?_
    refine wp_bipush (v := nI 16) (by decide) (ck_get kk_Tr_init 19 rfl) ?_
    first | refine wp_icmp_geN (t := 58) (ck_get kk_Tr_init 20 rfl) (by decide) (by omega) (by omega) (fun hc36 => ?_) (fun hc36 => ?_) | refine wp_icmp_ge (t := 58) (ck_get kk_Tr_init 20 rfl) (by decide) (fun hc36 => ?_) (fun hc36 => ?_)
    · refine wp_return (ck_get kk_Tr_init 30 rfl) rfl ⟨rfl, ?_⟩
      rfl
    · omega
  | succ k ih =>
    intro t ht
    have tw : mT (ofL (L ++ trO a :: cX 25 16 (a + 3) 26 t :: cN 20 16 16 :: wosC (a + 3) t)) a = (8, 0) := ofL_T ha
    have rw0 : mR (ofL (L ++ trO a :: cX 25 16 (a + 3) 26 t :: cN 20 16 16 :: wosC (a + 3) t)) a 0 = some (a + 1) := by rw [ofL_R ha]; rfl
    have hl : (L ++ trO a :: cX 25 16 (a + 3) 26 t :: cN 20 16 16 :: wosC (a + 3) t).length = a + 3 + 26 * t := by
      rw [List.length_append, ha]
      show a + ((wosC (a + 3) t).length + 1 + 1 + 1) = _
      rw [wosC_len]; omega
    have hl1 : (L ++ [trO a]).length = a + 1 := by rw [List.length_append, ha]; rfl
    refine wp_iload_n rfl (ck_get kk_Tr_init 18 rfl) ?_
    refine wp_bipush (v := nI 16) (by decide) (ck_get kk_Tr_init 19 rfl) ?_
    first | refine wp_icmp_geN (t := 58) (ck_get kk_Tr_init 20 rfl) (by decide) (by omega) (by omega) (fun hc36 => ?_) (fun hc36 => ?_) | refine wp_icmp_ge (t := 58) (ck_get kk_Tr_init 20 rfl) (by decide) (fun hc36 => ?_) (fun hc36 => ?_)
    · omega
    · refine wp_aload_n rfl (ck_get kk_Tr_init 21 rfl) ?_
      refine wp_getR (ck_get kk_Tr_init 22 rfl) fl_Tr_11 (by assumption) (by assumption) ?_
      refine wp_iload_n rfl (ck_get kk_Tr_init 23 rfl) ?_
      refine wp_new (ck_get kk_Tr_init 24 rfl) cl_Tr_9 ?_
      rw [show mZ (ofL (L ++ trO a :: cX 25 16 (a + 3) 26 t :: cN 20 16 16 :: wosC (a + 3) t)) = a + 3 + 26 * t from hl, ofL_n1]
      refine wp_dup rfl (ck_get kk_Tr_init 25 rfl) ?_
      refine wp_cI0v (ck_get kk_Tr_init 26 rfl) ml_Tr_28 (by omega) (Nat.le_of_ble_eq_true rfl) (Cv.to (i_Wo hl) ?_)
      rintro M1 w1
      subst w1
      rw [ofL_a, List.cons_append, List.cons_append]
      have tA : mT (ofL (L ++ trO a :: cX 25 16 (a + 3) 26 t :: cN 20 16 16 :: (wosC (a + 3) t ++ woC (a + 3 + 26 * t)))) (a + 1) = (25, 16) := by rw [ofL_2]; exact ofL_T hl1
      have tB : mT (ofL (L ++ trO a :: cX 25 16 (a + 3) 26 t :: cN 20 16 16 :: (wosC (a + 3) t ++ woC (a + 3 + 26 * t)))) (a + 3 + 26 * t) = (9, 0) := by
        rw [show L ++ trO a :: cX 25 16 (a + 3) 26 t :: cN 20 16 16 :: (wosC (a + 3) t ++ woC (a + 3 + 26 * t)) = (L ++ trO a :: cX 25 16 (a + 3) 26 t :: cN 20 16 16 :: wosC (a + 3) t) ++ woC (a + 3 + 26 * t) by rw [List.append_assoc]; rfl]
        exact ofL_T hl
      refine wp_aast (ck_get kk_Tr_init 27 rfl) (by assumption) (ixk_nI (k := t) (by omega) (by omega)) (by assumption) ?_
      rw [ofL_2, ofL_sR hl1, cX_s, ← ofL_2]
      first | refine wp_iincN (ck_get kk_Tr_init 28 rfl) rfl (by decide) rfl ?_ | refine wp_iinc (ck_get kk_Tr_init 28 rfl) rfl (by decide) rfl ?_
      refine wp_goto (t := 33) (ck_get kk_Tr_init 29 rfl) (by decide) ?_
      exact ih (t + 1) (by omega)
theorem i_Tr {L : List Cel} {a : Nat} (ha : L.length = a) : Cv g Y_Tr_init 5 [.ref a] (ofL (L ++ [cN 8 0 (NF 8)])) (fun M2 => M2 = ofL (L ++ trC a)) := by
  refine cw_entry 1 pf_Tr_init rfl ?_
  refine wp_aload_n rfl (ck_get kk_Tr_init 0 rfl) ?_
  refine wp_objInit (ck_get kk_Tr_init 1 rfl) ol_Tr_3 oi_ok (by omega) (Nat.le_of_ble_eq_true rfl) ?_
  refine wp_aload_n rfl (ck_get kk_Tr_init 2 rfl) ?_
  refine wp_bipush (v := nI 16) (by decide) (ck_get kk_Tr_init 3 rfl) ?_
  refine wp_anew (κ := 25) (len := 16) (ck_get kk_Tr_init 4 rfl) rfl al_Tr_9.1 al_Tr_9.2 (by decide) rfl (by decide) ?_
  rw [ofL_z ha, ofL_nw]
  refine wp_putR (ck_get kk_Tr_init 5 rfl) fl_Tr_11 (by decide +kernel) (ofL_T ha) ?_
  rw [ofL_sR ha]
  refine wp_aload_n rfl (ck_get kk_Tr_init 6 rfl) ?_
  refine wp_bipush (v := nI 16) (by decide) (ck_get kk_Tr_init 7 rfl) ?_
  refine wp_newarr (κ := 20) (len := 16) (ck_get kk_Tr_init 8 rfl) rfl ac_int (by decide) rfl (by decide) ?_
  rw [ofL_z ha, ofL_nw]
  refine wp_putR (ck_get kk_Tr_init 9 rfl) fl_Tr_17 (by decide +kernel) (ofL_T ha) ?_
  rw [ofL_sR ha]
  refine wp_aload_n rfl (ck_get kk_Tr_init 10 rfl) ?_
  refine wp_iconst (v := nI 0) (by decide) (ck_get kk_Tr_init 11 rfl) ?_
  refine wp_putI (ck_get kk_Tr_init 12 rfl) fl_Tr_21 (by decide +kernel) (ofL_T ha) (okI_int _) ?_
  rw [ofL_sI ha]
  refine wp_aload_n rfl (ck_get kk_Tr_init 13 rfl) ?_
  refine wp_iconst (v := nI 0) (by decide) (ck_get kk_Tr_init 14 rfl) ?_
  refine wp_putI (ck_get kk_Tr_init 15 rfl) fl_Tr_25 (by decide +kernel) (ofL_T ha) (okI_int _) ?_
  rw [ofL_sI ha]
  refine wp_iconst (v := nI 0) (by decide) (ck_get kk_Tr_init 16 rfl) ?_
  refine wp_istore_n (ck_get kk_Tr_init 17 rfl) (by decide) rfl ?_
  have := l_tr (g := g) ha 16 0 rfl
  rw [cX_0] at this
  exact this
theorem i_Pr {L : List Cel} {a len : Nat} (ha : L.length = a) (hl : len ≤ 1024) : Cv g Y_Pr_init 1 [.ref a, .int (nI len)] (ofL (L ++ [cN 4 0 (NF 4)])) (fun M2 => M2 = ofL (L ++ prC a len)) := by
  refine cw_entry 0 pf_Pr_init rfl ?_
  refine wp_aload_n rfl (ck_get kk_Pr_init 0 rfl) ?_
  refine wp_objInit (ck_get kk_Pr_init 1 rfl) ol_Pr_3 oi_ok (by omega) (Nat.le_of_ble_eq_true rfl) ?_
  refine wp_aload_n rfl (ck_get kk_Pr_init 2 rfl) ?_
  refine wp_iconst (v := nI 0) (by decide) (ck_get kk_Pr_init 3 rfl) ?_
  refine wp_putI (ck_get kk_Pr_init 4 rfl) fl_Pr_9 (by decide +kernel) (ofL_T ha) (okI_int _) ?_
  rw [ofL_sI ha]
  refine wp_aload_n rfl (ck_get kk_Pr_init 5 rfl) ?_
  refine wp_bipush (v := nI 12) (by decide) (ck_get kk_Pr_init 6 rfl) ?_
  refine wp_newarr (κ := 20) (len := 12) (ck_get kk_Pr_init 7 rfl) rfl ac_int (by decide) rfl (by decide) ?_
  rw [ofL_z ha, ofL_nw]
  refine wp_putR (ck_get kk_Pr_init 8 rfl) fl_Pr_15 (by decide +kernel) (ofL_T ha) ?_
  rw [ofL_sR ha]
  refine wp_aload_n rfl (ck_get kk_Pr_init 9 rfl) ?_
  refine wp_bipush (v := nI 12) (by decide) (ck_get kk_Pr_init 10 rfl) ?_
  refine wp_newarr (κ := 20) (len := 12) (ck_get kk_Pr_init 11 rfl) rfl ac_int (by decide) rfl (by decide) ?_
  rw [ofL_z ha, ofL_nw]
  refine wp_putR (ck_get kk_Pr_init 12 rfl) fl_Pr_19 (by decide +kernel) (ofL_T ha) ?_
  rw [ofL_sR ha]
  refine wp_aload_n rfl (ck_get kk_Pr_init 13 rfl) ?_
  refine wp_bipush (v := nI 12) (by decide) (ck_get kk_Pr_init 14 rfl) ?_
  refine wp_newarr (κ := 20) (len := 12) (ck_get kk_Pr_init 15 rfl) rfl ac_int (by decide) rfl (by decide) ?_
  rw [ofL_z ha, ofL_nw]
  refine wp_putR (ck_get kk_Pr_init 16 rfl) fl_Pr_22 (by decide +kernel) (ofL_T ha) ?_
  rw [ofL_sR ha]
  refine wp_aload_n rfl (ck_get kk_Pr_init 17 rfl) ?_
  refine wp_bipush (v := nI 12) (by decide) (ck_get kk_Pr_init 18 rfl) ?_
  refine wp_newarr (κ := 20) (len := 12) (ck_get kk_Pr_init 19 rfl) rfl ac_int (by decide) rfl (by decide) ?_
  rw [ofL_z ha, ofL_nw]
  refine wp_putR (ck_get kk_Pr_init 20 rfl) fl_Pr_25 (by decide +kernel) (ofL_T ha) ?_
  rw [ofL_sR ha]
  refine wp_aload_n rfl (ck_get kk_Pr_init 21 rfl) ?_
  refine wp_bipush (v := nI 12) (by decide) (ck_get kk_Pr_init 22 rfl) ?_
  refine wp_newarr (κ := 20) (len := 12) (ck_get kk_Pr_init 23 rfl) rfl ac_int (by decide) rfl (by decide) ?_
  rw [ofL_z ha, ofL_nw]
  refine wp_putR (ck_get kk_Pr_init 24 rfl) fl_Pr_28 (by decide +kernel) (ofL_T ha) ?_
  rw [ofL_sR ha]
  refine wp_aload_n rfl (ck_get kk_Pr_init 25 rfl) ?_
  refine wp_bipush (v := nI 12) (by decide) (ck_get kk_Pr_init 26 rfl) ?_
  refine wp_newarr (κ := 20) (len := 12) (ck_get kk_Pr_init 27 rfl) rfl ac_int (by decide) rfl (by decide) ?_
  rw [ofL_z ha, ofL_nw]
  refine wp_putR (ck_get kk_Pr_init 28 rfl) fl_Pr_31 (by decide +kernel) (ofL_T ha) ?_
  rw [ofL_sR ha]
  refine wp_aload_n rfl (ck_get kk_Pr_init 29 rfl) ?_
  refine wp_iconst (v := nI 0) (by decide) (ck_get kk_Pr_init 30 rfl) ?_
  refine wp_putI (ck_get kk_Pr_init 31 rfl) fl_Pr_34 (by decide +kernel) (ofL_T ha) (okI_int _) ?_
  rw [ofL_sI ha]
  refine wp_aload_n rfl (ck_get kk_Pr_init 32 rfl) ?_
  refine wp_iload_n rfl (ck_get kk_Pr_init 33 rfl) ?_
  refine wp_iconst (v := nI 0) (by decide) (ck_get kk_Pr_init 34 rfl) ?_
  refine wp_cS2i (ck_get kk_Pr_init 35 rfl) ml_Pr_37 (by omega) (Nat.le_of_ble_eq_true rfl) (Ci.to (c_max (a := len) (b := 0) (by omega) (by omega)) ?_)
  rintro _ M1 ⟨rfl, rfl⟩
  rw [Nat.max_eq_left (Nat.zero_le _)]
  refine wp_newarr (κ := 20) (len := len) (ck_get kk_Pr_init 36 rfl) rfl ac_int (nI_pos (by omega)) (nI_clamp (by omega)) (by show len * 4 ≤ 536870912; omega) ?_
  rw [ofL_z ha, ofL_nw]
  refine wp_putR (ck_get kk_Pr_init 37 rfl) fl_Pr_43 (by decide +kernel) (ofL_T ha) ?_
  rw [ofL_sR ha]
  exact wp_return (ck_get kk_Pr_init 38 rfl) rfl ⟨rfl, rfl⟩
def sbC (a : Nat) : List Cel := cI (cR (cN 12 0 (NF 12)) 0 (some (a + 1))) 1 (nI 0) :: [cN 22 16 16]
theorem i_As {L : List Cel} {a : Nat} (hS : StrOK g) (ha : L.length = a) : Cv g Y_As_init 1 [.ref a, .int (nI 16)] (ofL (L ++ [cN 12 0 (NF 12)])) (fun M2 => M2 = ofL (L ++ sbC a)) := by
  refine cw_entry 0 pf_As_init rfl ?_
  refine wp_aload_n rfl (ck_get kk_As_init 0 rfl) ?_
  refine wp_objInit (ck_get kk_As_init 1 rfl) ol_As_3 oi_ok (by omega) (Nat.le_of_ble_eq_true rfl) ?_
  refine wp_gets (v := .int (nI 1)) (fun U hU => (hS U hU).2) rfl xf_As_18 (ck_get kk_As_init 2 rfl) ?_
  first | refine wp_if_eqN (t := 25) (ck_get kk_As_init 3 rfl) (by decide) (by omega) (fun hc7 => ?_) (fun hc7 => ?_) | refine wp_if_eq (t := 25) (ck_get kk_As_init 3 rfl) (by decide) (fun hc7 => ?_) (fun hc7 => ?_)
  · exact absurd hc7 (by decide)
  · refine wp_aload_n rfl (ck_get kk_As_init 4 rfl) ?_
    refine wp_iload_n rfl (ck_get kk_As_init 5 rfl) ?_
    refine wp_newarr (κ := 22) (len := 16) (ck_get kk_As_init 6 rfl) rfl ac_byte (by decide) rfl (by decide) ?_
    rw [ofL_z ha, ofL_nw]
    refine wp_putR (ck_get kk_As_init 7 rfl) fl_As_15 (by decide +kernel) (ofL_T ha) ?_
    rw [ofL_sR ha]
    refine wp_aload_n rfl (ck_get kk_As_init 8 rfl) ?_
    refine wp_iconst (v := nI 0) (by decide) (ck_get kk_As_init 9 rfl) ?_
    refine wp_putI (ck_get kk_As_init 10 rfl) fl_As_22 (by decide +kernel) (ofL_T ha) (by first | exact okI_b0 | exact okI_b1 | exact ⟨by decide, by decide⟩ | decide) ?_
    rw [ofL_sI ha]
    refine wp_goto (t := 38) (ck_get kk_As_init 11 rfl) (by decide) ?_
    refine wp_return (ck_get kk_As_init 19 rfl) rfl ⟨rfl, ?_⟩
    rfl
theorem i_Sb {L : List Cel} {a : Nat} (hS : StrOK g) (ha : L.length = a) : Cv g Y_Sb_init 2 [.ref a] (ofL (L ++ [cN 12 0 (NF 12)])) (fun M2 => M2 = ofL (L ++ sbC a)) := by
  refine cw_entry 0 pf_Sb_init rfl ?_
  refine wp_aload_n rfl (ck_get kk_Sb_init 0 rfl) ?_
  refine wp_bipush (v := nI 16) (by decide) (ck_get kk_Sb_init 1 rfl) ?_
  refine wp_cI1v (ck_get kk_Sb_init 2 rfl) ml_Sb_1 (by omega) (Nat.le_of_ble_eq_true rfl) (Cv.to (i_As hS ha) ?_)
  rintro M1 w1
  refine wp_return (ck_get kk_Sb_init 3 rfl) rfl ⟨rfl, ?_⟩
  exact w1
def shC (a : Nat) : List Cel := cI (cI (cR (cI (cR (cR (cI (cI (cI (cI (cR (cN 6 0 (NF 6)) 0 (some (a + 1))) 1 (nI 0)) 2 (nI 1)) 3 (nI 0)) 4 (nI 0)) 5 (some (a + 27))) 6 (some (a + 28))) 7 (nI 0)) 8 (some (a + 29))) 9 (nI 0)) 10 ((-1)) :: (((((([] : List Cel)) ++ woC (a + 1)) ++ [cN 20 6 6]) ++ [cN 20 6 6]) ++ [cN 27 6 6])
theorem i_Sh {L : List Cel} {a : Nat} (ha : L.length = a) : Cv g Y_Sh_init 4 [.ref a] (ofL (L ++ [cN 6 0 (NF 6)])) (fun M2 => M2 = ofL (L ++ shC a)) := by
  refine cw_entry 0 pf_Sh_init rfl ?_
  refine wp_aload_n rfl (ck_get kk_Sh_init 0 rfl) ?_
  refine wp_objInit (ck_get kk_Sh_init 1 rfl) ol_Sh_3 oi_ok (by omega) (Nat.le_of_ble_eq_true rfl) ?_
  refine wp_aload_n rfl (ck_get kk_Sh_init 2 rfl) ?_
  refine wp_new (ck_get kk_Sh_init 3 rfl) cl_Sh_9 ?_
  rw [ofL_z ha, ofL_n1]
  refine wp_dup rfl (ck_get kk_Sh_init 4 rfl) ?_
  refine wp_cI0v (ck_get kk_Sh_init 5 rfl) ml_Sh_11 (by omega) (Nat.le_of_ble_eq_true rfl) (Cv.to (i_Wo (ofL_l ha)) ?_)
  rintro M1 rfl
  rw [ofL_a]
  refine wp_putR (ck_get kk_Sh_init 6 rfl) fl_Sh_12 (by decide +kernel) (ofL_T ha) ?_
  rw [ofL_sR ha]
  refine wp_aload_n rfl (ck_get kk_Sh_init 7 rfl) ?_
  refine wp_iconst (v := nI 0) (by decide) (ck_get kk_Sh_init 8 rfl) ?_
  refine wp_putI (ck_get kk_Sh_init 9 rfl) fl_Sh_18 (by decide +kernel) (ofL_T ha) (okI_int _) ?_
  rw [ofL_sI ha]
  refine wp_aload_n rfl (ck_get kk_Sh_init 10 rfl) ?_
  refine wp_iconst (v := nI 1) (by decide) (ck_get kk_Sh_init 11 rfl) ?_
  refine wp_putI (ck_get kk_Sh_init 12 rfl) fl_Sh_22 (by decide +kernel) (ofL_T ha) (okI_int _) ?_
  rw [ofL_sI ha]
  refine wp_aload_n rfl (ck_get kk_Sh_init 13 rfl) ?_
  refine wp_iconst (v := nI 0) (by decide) (ck_get kk_Sh_init 14 rfl) ?_
  refine wp_putI (ck_get kk_Sh_init 15 rfl) fl_Sh_25 (by decide +kernel) (ofL_T ha) (okI_int _) ?_
  rw [ofL_sI ha]
  refine wp_aload_n rfl (ck_get kk_Sh_init 16 rfl) ?_
  refine wp_iconst (v := nI 0) (by decide) (ck_get kk_Sh_init 17 rfl) ?_
  refine wp_putI (ck_get kk_Sh_init 18 rfl) fl_Sh_28 (by decide +kernel) (ofL_T ha) (okI_int _) ?_
  rw [ofL_sI ha]
  refine wp_aload_n rfl (ck_get kk_Sh_init 19 rfl) ?_
  refine wp_bipush (v := nI 6) (by decide) (ck_get kk_Sh_init 20 rfl) ?_
  refine wp_newarr (κ := 20) (len := 6) (ck_get kk_Sh_init 21 rfl) rfl ac_int (by decide) rfl (by decide) ?_
  rw [ofL_z ha, ofL_nw]
  refine wp_putR (ck_get kk_Sh_init 22 rfl) fl_Sh_31 (by decide +kernel) (ofL_T ha) ?_
  rw [ofL_sR ha]
  refine wp_aload_n rfl (ck_get kk_Sh_init 23 rfl) ?_
  refine wp_bipush (v := nI 6) (by decide) (ck_get kk_Sh_init 24 rfl) ?_
  refine wp_newarr (κ := 20) (len := 6) (ck_get kk_Sh_init 25 rfl) rfl ac_int (by decide) rfl (by decide) ?_
  rw [ofL_z ha, ofL_nw]
  refine wp_putR (ck_get kk_Sh_init 26 rfl) fl_Sh_35 (by decide +kernel) (ofL_T ha) ?_
  rw [ofL_sR ha]
  refine wp_aload_n rfl (ck_get kk_Sh_init 27 rfl) ?_
  refine wp_iconst (v := nI 0) (by decide) (ck_get kk_Sh_init 28 rfl) ?_
  refine wp_putI (ck_get kk_Sh_init 29 rfl) fl_Sh_38 (by decide +kernel) (ofL_T ha) (okI_int _) ?_
  rw [ofL_sI ha]
  refine wp_aload_n rfl (ck_get kk_Sh_init 30 rfl) ?_
  refine wp_bipush (v := nI 6) (by decide) (ck_get kk_Sh_init 31 rfl) ?_
  refine wp_anew (κ := 27) (len := 6) (ck_get kk_Sh_init 32 rfl) rfl al_Sh_41.1 al_Sh_41.2 (by decide) rfl (by decide) ?_
  rw [ofL_z ha, ofL_nw]
  refine wp_putR (ck_get kk_Sh_init 33 rfl) fl_Sh_43 (by decide +kernel) (ofL_T ha) ?_
  rw [ofL_sR ha]
  refine wp_aload_n rfl (ck_get kk_Sh_init 34 rfl) ?_
  refine wp_iconst (v := nI 0) (by decide) (ck_get kk_Sh_init 35 rfl) ?_
  refine wp_putI (ck_get kk_Sh_init 36 rfl) fl_Sh_47 (by decide +kernel) (ofL_T ha) (okI_int _) ?_
  rw [ofL_sI ha]
  refine wp_aload_n rfl (ck_get kk_Sh_init 37 rfl) ?_
  refine wp_iconst (v := (-1)) (by decide) (ck_get kk_Sh_init 38 rfl) ?_
  refine wp_putI (ck_get kk_Sh_init 39 rfl) fl_Sh_50 (by decide +kernel) (ofL_T ha) (okI_int _) ?_
  rw [ofL_sI ha]
  exact wp_return (ck_get kk_Sh_init 40 rfl) rfl ⟨rfl, rfl⟩
def cuC (a : Nat) : List Cel := cR (cR (cI (cR (cN 0 0 (NF 0)) 0 (some (a + 1))) 1 (nI 0)) 2 (some (a + 2))) 3 (some (a + 4)) :: ((((([] : List Cel)) ++ [cN 20 25 25]) ++ sbC (a + 2)) ++ [cN 21 25 25])
theorem i_Cu {L : List Cel} {a : Nat} (hS : StrOK g) (ha : L.length = a) : Cv g Y_Cu_init 3 [.ref a] (ofL (L ++ [cN 0 0 (NF 0)])) (fun M2 => M2 = ofL (L ++ cuC a)) := by
  refine cw_entry 0 pf_Cu_init rfl ?_
  refine wp_aload_n rfl (ck_get kk_Cu_init 0 rfl) ?_
  refine wp_objInit (ck_get kk_Cu_init 1 rfl) ol_Cu_3 oi_ok (by omega) (Nat.le_of_ble_eq_true rfl) ?_
  refine wp_aload_n rfl (ck_get kk_Cu_init 2 rfl) ?_
  refine wp_bipush (v := nI 25) (by decide) (ck_get kk_Cu_init 3 rfl) ?_
  refine wp_newarr (κ := 20) (len := 25) (ck_get kk_Cu_init 4 rfl) rfl ac_int (by decide) rfl (by decide) ?_
  rw [ofL_z ha, ofL_nw]
  refine wp_putR (ck_get kk_Cu_init 5 rfl) fl_Cu_9 (by decide +kernel) (ofL_T ha) ?_
  rw [ofL_sR ha]
  refine wp_aload_n rfl (ck_get kk_Cu_init 6 rfl) ?_
  refine wp_iconst (v := nI 0) (by decide) (ck_get kk_Cu_init 7 rfl) ?_
  refine wp_putI (ck_get kk_Cu_init 8 rfl) fl_Cu_15 (by decide +kernel) (ofL_T ha) (okI_int _) ?_
  rw [ofL_sI ha]
  refine wp_aload_n rfl (ck_get kk_Cu_init 9 rfl) ?_
  refine wp_new (ck_get kk_Cu_init 10 rfl) cl_Cu_19 ?_
  rw [ofL_z ha, ofL_n1]
  refine wp_dup rfl (ck_get kk_Cu_init 11 rfl) ?_
  refine wp_cI0v (ck_get kk_Cu_init 12 rfl) ml_Cu_21 (by omega) (Nat.le_of_ble_eq_true rfl) (Cv.to (i_Sb hS (ofL_l ha)) ?_)
  rintro M1 rfl
  rw [ofL_a]
  refine wp_putR (ck_get kk_Cu_init 13 rfl) fl_Cu_22 (by decide +kernel) (ofL_T ha) ?_
  rw [ofL_sR ha]
  refine wp_aload_n rfl (ck_get kk_Cu_init 14 rfl) ?_
  refine wp_bipush (v := nI 25) (by decide) (ck_get kk_Cu_init 15 rfl) ?_
  refine wp_newarr (κ := 21) (len := 25) (ck_get kk_Cu_init 16 rfl) rfl ac_long (by decide) rfl (by decide) ?_
  rw [ofL_z ha, ofL_nw]
  refine wp_putR (ck_get kk_Cu_init 17 rfl) fl_Cu_26 (by decide +kernel) (ofL_T ha) ?_
  rw [ofL_sR ha]
  exact wp_return (ck_get kk_Cu_init 18 rfl) rfl ⟨rfl, rfl⟩
def paC (a : Nat) : List Cel := cI (cI (cI (cI (cI (cI (cI (cR (cI (cR (cN 3 0 (NF 3)) 0 (some (a + 1))) 1 ((-1))) 2 (some (a + 9))) 3 (nI 0)) 4 (nI 0)) 5 (nI 0)) 6 (nI 0)) 7 (nI 0)) 8 (nI 0)) 9 (nI 0) :: (((([] : List Cel)) ++ prC (a + 1) 1024) ++ [cN 20 0 0])
theorem i_Pa {L : List Cel} {a : Nat} (ha : L.length = a) : Cv g Y_Pa_init 2 [.ref a] (ofL (L ++ [cN 3 0 (NF 3)])) (fun M2 => M2 = ofL (L ++ paC a)) := by
  refine cw_entry 0 pf_Pa_init rfl ?_
  refine wp_aload_n rfl (ck_get kk_Pa_init 0 rfl) ?_
  refine wp_objInit (ck_get kk_Pa_init 1 rfl) ol_Pa_3 oi_ok (by omega) (Nat.le_of_ble_eq_true rfl) ?_
  refine wp_aload_n rfl (ck_get kk_Pa_init 2 rfl) ?_
  refine wp_new (ck_get kk_Pa_init 3 rfl) cl_Pa_9 ?_
  rw [ofL_z ha, ofL_n1]
  refine wp_dup rfl (ck_get kk_Pa_init 4 rfl) ?_
  refine wp_sipush (v := nI 1024) (by decide) (ck_get kk_Pa_init 5 rfl) ?_
  refine wp_cI1v (ck_get kk_Pa_init 6 rfl) ml_Pa_11 (by omega) (Nat.le_of_ble_eq_true rfl) (Cv.to (i_Pr (ofL_l ha) (len := 1024) (by decide)) ?_)
  rintro M1 rfl
  rw [ofL_a]
  refine wp_putR (ck_get kk_Pa_init 7 rfl) fl_Pa_14 (by decide +kernel) (ofL_T ha) ?_
  rw [ofL_sR ha]
  refine wp_aload_n rfl (ck_get kk_Pa_init 8 rfl) ?_
  refine wp_iconst (v := (-1)) (by decide) (ck_get kk_Pa_init 9 rfl) ?_
  refine wp_putI (ck_get kk_Pa_init 10 rfl) fl_Pa_20 (by decide +kernel) (ofL_T ha) (okI_int _) ?_
  rw [ofL_sI ha]
  refine wp_aload_n rfl (ck_get kk_Pa_init 11 rfl) ?_
  refine wp_iconst (v := nI 0) (by decide) (ck_get kk_Pa_init 12 rfl) ?_
  refine wp_newarr (κ := 20) (len := 0) (ck_get kk_Pa_init 13 rfl) rfl ac_int (by decide) rfl (by decide) ?_
  rw [ofL_z ha, ofL_nw]
  refine wp_putR (ck_get kk_Pa_init 14 rfl) fl_Pa_24 (by decide +kernel) (ofL_T ha) ?_
  rw [ofL_sR ha]
  refine wp_aload_n rfl (ck_get kk_Pa_init 15 rfl) ?_
  refine wp_iconst (v := nI 0) (by decide) (ck_get kk_Pa_init 16 rfl) ?_
  refine wp_putI (ck_get kk_Pa_init 17 rfl) fl_Pa_28 (by decide +kernel) (ofL_T ha) (okI_int _) ?_
  rw [ofL_sI ha]
  refine wp_aload_n rfl (ck_get kk_Pa_init 18 rfl) ?_
  refine wp_iconst (v := nI 0) (by decide) (ck_get kk_Pa_init 19 rfl) ?_
  refine wp_putI (ck_get kk_Pa_init 20 rfl) fl_Pa_31 (by decide +kernel) (ofL_T ha) (by first | exact okI_b0 | exact okI_b1) ?_
  rw [ofL_sI ha]
  refine wp_aload_n rfl (ck_get kk_Pa_init 21 rfl) ?_
  refine wp_iconst (v := nI 0) (by decide) (ck_get kk_Pa_init 22 rfl) ?_
  refine wp_putI (ck_get kk_Pa_init 23 rfl) fl_Pa_35 (by decide +kernel) (ofL_T ha) (okI_int _) ?_
  rw [ofL_sI ha]
  refine wp_aload_n rfl (ck_get kk_Pa_init 24 rfl) ?_
  refine wp_iconst (v := nI 0) (by decide) (ck_get kk_Pa_init 25 rfl) ?_
  refine wp_putI (ck_get kk_Pa_init 26 rfl) fl_Pa_38 (by decide +kernel) (ofL_T ha) (okI_int _) ?_
  rw [ofL_sI ha]
  refine wp_aload_n rfl (ck_get kk_Pa_init 27 rfl) ?_
  refine wp_iconst (v := nI 0) (by decide) (ck_get kk_Pa_init 28 rfl) ?_
  refine wp_putI (ck_get kk_Pa_init 29 rfl) fl_Pa_41 (by decide +kernel) (ofL_T ha) (okI_int _) ?_
  rw [ofL_sI ha]
  refine wp_aload_n rfl (ck_get kk_Pa_init 30 rfl) ?_
  refine wp_iconst (v := nI 0) (by decide) (ck_get kk_Pa_init 31 rfl) ?_
  refine wp_putI (ck_get kk_Pa_init 32 rfl) fl_Pa_44 (by decide +kernel) (ofL_T ha) (okI_int _) ?_
  rw [ofL_sI ha]
  refine wp_aload_n rfl (ck_get kk_Pa_init 33 rfl) ?_
  refine wp_iconst (v := nI 0) (by decide) (ck_get kk_Pa_init 34 rfl) ?_
  refine wp_putI (ck_get kk_Pa_init 35 rfl) fl_Pa_47 (by decide +kernel) (ofL_T ha) (okI_int _) ?_
  rw [ofL_sI ha]
  exact wp_return (ck_get kk_Pa_init 36 rfl) rfl ⟨rfl, rfl⟩
end OFL

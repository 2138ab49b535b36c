/-! ===== what lies outside at the start ===== -/
section OUT
theorem lm1 {w : Cond} (i : Nat) (h : tables_1_1[i]? = some w) : w ∈ lw_tbl := List.mem_append_right _ (List.mem_append_left _ (List.mem_of_getElem? h))
theorem lm2 {w : Cond} (i : Nat) (h : tables_1_2[i]? = some w) : w ∈ lw_tbl := List.mem_append_right _ (List.mem_append_right _ (List.mem_append_left _ (List.mem_of_getElem? h)))
theorem lm3 {w : Cond} (i : Nat) (h : tables_1_3[i]? = some w) : w ∈ lw_tbl := List.mem_append_right _ (List.mem_append_right _ (List.mem_append_right _ (List.mem_append_left _ (List.mem_of_getElem? h))))
theorem lm4 {w : Cond} (i : Nat) (h : tables_1_4[i]? = some w) : w ∈ lw_tbl := List.mem_append_right _ (List.mem_append_right _ (List.mem_append_right _ (List.mem_append_right _ (List.mem_append_left _ (List.mem_of_getElem? h)))))
theorem lm5 {w : Cond} (i : Nat) (h : tables_1_5[i]? = some w) : w ∈ lw_tbl := List.mem_append_right _ (List.mem_append_right _ (List.mem_append_right _ (List.mem_append_right _ (List.mem_append_right _ (List.mem_append_left _ (List.mem_of_getElem? h))))))
theorem sr_in : ∀ i, i < 28 → Cond.stringRef "MissCurves$Parser" (wdI.getD i 0) (wdX.getD i "") ∈ lw_tbl
  | 0, _ => lm4 87 rfl
  | 1, _ => lm4 86 rfl
  | 2, _ => lm4 92 rfl
  | 3, _ => lm4 61 rfl
  | 4, _ => lm4 56 rfl
  | 5, _ => lm4 47 rfl
  | 6, _ => lm4 75 rfl
  | 7, _ => lm4 76 rfl
  | 8, _ => lm4 77 rfl
  | 9, _ => lm4 78 rfl
  | 10, _ => lm4 79 rfl
  | 11, _ => lm4 66 rfl
  | 12, _ => lm4 67 rfl
  | 13, _ => lm4 68 rfl
  | 14, _ => lm4 69 rfl
  | 15, _ => lm4 70 rfl
  | 16, _ => lm4 2 rfl
  | 17, _ => lm4 81 rfl
  | 18, _ => lm4 3 rfl
  | 19, _ => lm4 80 rfl
  | 20, _ => lm4 4 rfl
  | 21, _ => lm4 5 rfl
  | 22, _ => lm4 10 rfl
  | 23, _ => lm3 170 rfl
  | 24, _ => lm3 222 rfl
  | 25, _ => lm3 223 rfl
  | 26, _ => lm3 224 rfl
  | 27, _ => lm3 225 rfl
  | n + 28, h => absurd h (by omega)
def FLT : List Cond := flatC (Cond.and given_1 narrow_1)
def ixEx : List Nat := [467, 459, 476, 358, 351, 344, 406, 416, 423, 432, 439, 364, 372, 380, 390, 398, 303, 453, 311, 447, 319, 327, 335, 267, 274, 281, 289, 296]
def ixCo : List Nat := [468, 460, 477, 359, 352, 345, 407, 417, 424, 433, 440, 365, 373, 381, 391, 399, 304, 454, 312, 448, 320, 328, 336, 268, 275, 282, 290, 297]
def ixAr : List Nat := [469, 461, 478, 360, 353, 346, 408, 418, 425, 434, 441, 366, 374, 382, 392, 400, 305, 455, 313, 449, 321, 329, 337, 269, 276, 283, 291, 298]
def ixLe : List Nat := [470, 462, 479, 361, 354, 347, 409, 419, 426, 435, 442, 367, 375, 383, 393, 401, 306, 456, 314, 450, 322, 330, 338, 270, 277, 284, 292, 299]
def ixEl : List (List Nat) := [[471, 472, 473, 474, 475], [463, 464, 465, 466], [480, 481], [362, 363], [355, 356, 357], [348, 349, 350], [410, 411, 412, 413, 414, 415], [420, 421, 422], [427, 428, 429, 430, 431], [436, 437, 438], [443, 444, 445, 446], [368, 369, 370, 371], [376, 377, 378, 379], [384, 385, 386, 387, 388, 389], [394, 395, 396, 397], [402, 403, 404, 405], [307, 308, 309, 310], [457, 458], [315, 316, 317, 318], [451, 452], [323, 324, 325, 326], [331, 332, 333, 334], [339, 340, 341, 342, 343], [271, 272, 273], [278, 279, 280], [285, 286, 287, 288], [293, 294, 295], [300, 301, 302]]
def ixOn : List Nat := [12, 13, 14, 15, 16, 17, 18, 19, 20, 21, 22, 23, 24, 25, 26, 27, 28, 29, 30, 31, 32, 33, 34, 35, 36, 37, 38, 39, 40, 41, 42, 43, 44, 45, 46, 47, 48, 49, 50, 51, 52, 53, 54, 55, 56, 57, 58, 59, 60, 61, 62, 63, 64, 65, 66, 67, 68, 69, 70, 71, 72, 73, 74, 75, 76, 77, 78, 79, 80, 81, 82, 83, 84, 85, 86, 87, 88, 89, 90, 91, 92, 93, 94, 95, 96, 97, 98, 99, 100, 101, 102, 103, 104, 105, 106, 107, 108, 109, 110, 111]
def ixTe : List Nat := [115, 116, 117, 118, 119, 120, 121, 122, 123, 124, 125, 126, 127, 128, 129, 130, 131, 132, 133, 134, 135, 136, 137, 138, 139, 140, 141, 142, 143, 144, 145, 146, 147, 148, 149, 150, 151, 152, 153, 154, 155, 156, 157, 158, 159, 160, 161, 162, 163, 164, 165, 166, 167, 168, 169, 170, 171, 172, 173, 174, 175, 176, 177, 178, 179, 180, 181, 182, 183, 184, 185, 186, 187, 188, 189, 190, 191, 192, 193, 194, 195, 196, 197, 198, 199, 200, 201, 202, 203, 204, 205, 206, 207, 208, 209, 210, 211, 212, 213, 214]
theorem fl_ex : ∀ i : Fin 28, FLT[ixEx.getD i.val 0]? = some (Cond.exactly (Term.string "MissCurves$Parser" (wdI.getD i.val 0)) "java/lang/String") := by decide +kernel
theorem fl_co : ∀ i : Fin 28, FLT[ixCo.getD i.val 0]? = some (Cond.eq (.field (Term.string "MissCurves$Parser" (wdI.getD i.val 0)) "java/lang/String" "coder" "B") (.int 0)) := by decide +kernel
theorem fl_ar : ∀ i : Fin 28, FLT[ixAr.getD i.val 0]? = some (Cond.arrayOf (Term.field (Term.string "MissCurves$Parser" (wdI.getD i.val 0)) "java/lang/String" "value" "[B") .byte) := by decide +kernel
theorem fl_le : ∀ i : Fin 28, FLT[ixLe.getD i.val 0]? = some (Cond.eq (.length (Term.field (Term.string "MissCurves$Parser" (wdI.getD i.val 0)) "java/lang/String" "value" "[B")) (.int (Int32.ofNat (wdB.getD i.val []).length))) := by decide +kernel
theorem fl_el : ∀ i : Fin 28, ∀ j : Fin 8, j.val < (wdB.getD i.val []).length → FLT[(ixEl.getD i.val []).getD j.val 0]? = some (Cond.eq (.elem (Term.field (Term.string "MissCurves$Parser" (wdI.getD i.val 0)) "java/lang/String" "value" "[B") (.int (Int32.ofNat j.val))) (.int ((wdB.getD i.val []).getD j.val 0))) := by decide +kernel
theorem wd_len : ∀ i : Fin 28, (wdB.getD i.val []).length ≤ 8 := by decide
theorem fl_ixOn : ∀ j : Fin 100, FLT[ixOn.getD j.val 0]? = some (Cond.eq (.elem (.static "java/lang/Integer" "DigitOnes" "[B") (.int (Int32.ofNat j.val))) (.int (nI (48 + j.val % 10)))) := by decide +kernel
theorem fl_ixOnA : FLT[10]? = some (Cond.arrayOf (.static "java/lang/Integer" "DigitOnes" "[B") .byte) := by decide +kernel
theorem fl_ixOnL : FLT[11]? = some (Cond.eq (.length (.static "java/lang/Integer" "DigitOnes" "[B")) (.int (Int32.ofNat 100))) := by decide +kernel
theorem fl_ixTe : ∀ j : Fin 100, FLT[ixTe.getD j.val 0]? = some (Cond.eq (.elem (.static "java/lang/Integer" "DigitTens" "[B") (.int (Int32.ofNat j.val))) (.int (nI (48 + j.val / 10)))) := by decide +kernel
theorem fl_ixTeA : FLT[113]? = some (Cond.arrayOf (.static "java/lang/Integer" "DigitTens" "[B") .byte) := by decide +kernel
theorem fl_ixTeL : FLT[114]? = some (Cond.eq (.length (.static "java/lang/Integer" "DigitTens" "[B")) (.int (Int32.ofNat 100))) := by decide +kernel
theorem fl_cs : FLT[4]? = some (Cond.eq (.static "java/lang/String" "COMPACT_STRINGS" "Z") (.int 1)) := by decide +kernel
theorem fl_fm : FLT[5]? = some (Cond.isRef (.static "jdk/internal/util/Preconditions" "SIOOBE_FORMATTER" "Ljava/util/function/BiFunction;")) := by decide +kernel
def StrP (ad : Nat → Nat × Nat) (A : Nat → Prop) (U : State) (H : Heap) : Prop := ∀ i, i < 28 → vk_R "MissCurves$Parser" (wdI.getD i 0) (wdX.getD i "") (ad i).1 U ∧ va_O "java/lang/String" (ad i).1 A U H ∧ va_OF "java/lang/String" "coder" "B" (.int 0) (ad i).1 A U H ∧ va_OF "java/lang/String" "value" "[B" (.ref (ad i).2) (ad i).1 A U H ∧ va_T .byte (ad i).2 (wdB.getD i []).length (fun j => .int ((wdB.getD i []).getD j 0)) A U H
def DgP (o t : Nat) (A : Nat → Prop) (U : State) (H : Heap) : Prop := va_Z "java/lang/Integer" "DigitOnes" "[B" (.ref o) A U H ∧ va_T .byte o 100 (fun j => .int (nI (48 + j % 10))) A U H ∧ va_Z "java/lang/Integer" "DigitTens" "[B" (.ref t) A U H ∧ va_T .byte t 100 (fun j => .int (nI (48 + j / 10))) A U H
def PvP (U : State) : Prop := ∀ a : Array Value, (Cond.privateMethod Y_As_ensureCapacityInternal.1).before a U = true ∧ (Cond.privateMethod Y_As_newCapacity.1).before a U = true
/-- all that is said of outside -/
def OutP (ad : Nat → Nat × Nat) (o t : Nat) (fv : Value) (A : Nat → Prop) (U : State) (H : Heap) : Prop := StrP ad A U H ∧ va_Z "java/lang/String" "COMPACT_STRINGS" "Z" (.int 1) A U H ∧ va_Z "jdk/internal/util/Preconditions" "SIOOBE_FORMATTER" "Ljava/util/function/BiFunction;" fv A U H ∧ DgP o t A U H ∧ PvP U
theorem OutP.warm {ad : Nat → Nat × Nat} {o t : Nat} {fv : Value} {A : Nat → Prop} {s U : State} {H : Heap} (hW : s.WarmedH U.vm) (h : OutP ad o t fv A s H) : OutP ad o t fv A U H := by
  obtain ⟨h1, h2, h3, ⟨d1, d2, d3, d4⟩, h5⟩ := h
  refine ⟨fun i hi => ?_, h2.moved hW.alike, h3.moved hW.alike, ⟨d1.moved hW.alike, d2.moved hW.alike, d3.moved hW.alike, d4.moved hW.alike⟩, fun a => ⟨Cond.privateMethod_warm hW (h5 #[]).1, Cond.privateMethod_warm hW (h5 #[]).2⟩⟩
  obtain ⟨a1, a2, a3, a4, a5⟩ := h1 i hi
  exact ⟨a1.warm hW, a2.moved hW.alike, a3.moved hW.alike, a4.moved hW.alike, a5.moved hW.alike⟩
theorem out_of {s : State} {b : Nat} {A : Nat → Prop} (hts : ∀ w ∈ lw_tbl, w.before #[Value.ref b] s = true) (hgv : (Cond.and given_1 narrow_1).before #[Value.ref b] s = true) (hA : ∀ a : Nat, a < s.heap.size → ¬ A a) : ∃ (ad : Nat → Nat × Nat) (o t : Nat) (fv : Value), (fv = .null ∨ ∃ q, fv = .ref q) ∧ OutP ad o t fv A s s.heap := by
  have hf : ∀ (i : Nat) (c : Cond), FLT[i]? = some c → c.before #[Value.ref b] s = true := fun i c h => flat_of_before _ hgv c (List.mem_of_getElem? h)
  have h0 : ∀ i : Nat, ∃ q : Nat × Nat, i < 28 → vk_R "MissCurves$Parser" (wdI.getD i 0) (wdX.getD i "") q.1 s ∧ va_O "java/lang/String" q.1 A s s.heap ∧ va_OF "java/lang/String" "coder" "B" (.int 0) q.1 A s s.heap ∧ va_OF "java/lang/String" "value" "[B" (.ref q.2) q.1 A s s.heap ∧ va_T .byte q.2 (wdB.getD i []).length (fun j => .int ((wdB.getD i []).getD j 0)) A s s.heap := by
    intro i
    by_cases hi : i < 28
    · obtain ⟨a, c, cA, kA, q1, q2, q3, q4, q5, q6, -⟩ := Cond.exactly_spec (args := #[Value.ref b]) (first := s) (o := none) (s := s) (idx := []) (t := Term.string "MissCurves$Parser" (wdI.getD i 0)) (cls := "java/lang/String") (hf _ _ (fl_ex ⟨i, hi⟩))
      have hl := wd_len ⟨i, hi⟩
      obtain ⟨t, ht, hT⟩ := va_Tof (args := #[Value.ref b]) (s := s) (tm := Term.field (Term.string "MissCurves$Parser" (wdI.getD i 0)) "java/lang/String" "value" "[B") (ty := .byte) (N := (wdB.getD i []).length) (f := fun j => .int ((wdB.getD i []).getD j 0)) (A := A) (Nat.lt_of_le_of_lt hl (by decide)) (hf _ _ (fl_ar ⟨i, hi⟩)) (va_eqt (hf _ _ (fl_le ⟨i, hi⟩))) (fun j hj => va_eqt (hf _ _ (fl_el ⟨i, hi⟩ ⟨j, Nat.lt_of_lt_of_le hj hl⟩ hj))) hA
      exact ⟨(a, t), fun _ => ⟨vk_R.of (hts _ (sr_in i hi)) q1, ⟨cA, q3, q5, by rw [q6]; exact q2, hA a (Array.getElem?_eq_some_iff.mp q3).1⟩, vk_OFof q1 (va_eqt (hf _ _ (fl_co ⟨i, hi⟩))) hA, vk_OFof q1 ht hA, hT⟩⟩
    · exact ⟨(0, 0), fun h => absurd h hi⟩
  obtain ⟨ad, had⟩ := Classical.axiomOfChoice h0
  obtain ⟨o, ho, hoT⟩ := va_Tof (args := #[Value.ref b]) (s := s) (tm := Term.static "java/lang/Integer" "DigitOnes" "[B") (ty := .byte) (N := 100) (f := fun j => .int (nI (48 + j % 10))) (A := A) (by decide) (hf _ _ fl_ixOnA) (va_eqt (hf _ _ fl_ixOnL)) (fun j hj => va_eqt (hf _ _ (fl_ixOn ⟨j, hj⟩))) hA
  obtain ⟨t, ht, htT⟩ := va_Tof (args := #[Value.ref b]) (s := s) (tm := Term.static "java/lang/Integer" "DigitTens" "[B") (ty := .byte) (N := 100) (f := fun j => .int (nI (48 + j / 10))) (A := A) (by decide) (hf _ _ fl_ixTeA) (va_eqt (hf _ _ fl_ixTeL)) (fun j hj => va_eqt (hf _ _ (fl_ixTe ⟨j, hj⟩))) hA
  have hcs := va_Zof (hts _ (lm2 118 rfl)) (hts _ (lm1 14 rfl)) (va_eqt (hf _ _ fl_cs)) hA
  have hfm := va_Zqof (hts _ (lm3 199 rfl)) (hts _ (lm1 21 rfl)) (hf _ _ fl_fm) hA
  have hdg : DgP o t A s s.heap := ⟨va_Zref (hts _ (lm5 117 rfl)) (hts _ (lm1 24 rfl)) ho hA, hoT, va_Zref (hts _ (lm5 119 rfl)) (hts _ (lm1 24 rfl)) ht hA, htT⟩
  have hpv : PvP s := fun a => ⟨va_any rfl (hts _ (lm5 22 rfl)), va_any rfl (hts _ (lm5 26 rfl))⟩
  rcases hfm with q | ⟨w, q⟩
  · exact ⟨ad, o, t, .null, Or.inl rfl, had, hcs, q, hdg, hpv⟩
  · exact ⟨ad, o, t, .ref w, Or.inr ⟨w, rfl⟩, had, hcs, q, hdg, hpv⟩
end OUT

/-! ===== the top: the claim out of one Wp of the law ===== -/
theorem xw_warm {s U : State} (hW : s.WarmedH U.vm) (h : ∀ w ∈ xw_tbl, w.before #[] s = true) : ∀ w ∈ xw_tbl, w.before #[] U = true := by
  intro w hw
  have hx := (List.mem_filter.mp hw).2
  have h1 := h w hw
  cases w with
  | methodLinkNest a i x ho => exact va_Nw.warmM hW h1
  | arrayOver ty =>
    have h2 : (Cond.arrayOver ty).before #[] (s.setVm U.vm) = true := by rw [Cond.arrayOver_setVmC hW.alike]; exact h1
    exact h2
  | _ => exact absurd (show false = true from hx) Bool.false_ne_true
theorem inst_ok {ci : Nat} {C : String} {T : u_T} {N : Nat} (h : classes[ci]? = some (C, T, N)) : Cond.instantiable C N ∈ gd_tbl := by
  match ci, h with
  | 0, h => obtain ⟨_, _, _, hc, -, hi, -⟩ := cl_Mc_79; cases hc.symm.trans h; exact hi
  | 1, h => obtain ⟨_, _, _, hc, -, hi, -⟩ := cl_Mc_86; cases hc.symm.trans h; exact hi
  | 2, h => obtain ⟨_, _, _, hc, -, hi, -⟩ := cl_Mc_65; cases hc.symm.trans h; exact hi
  | 3, h => obtain ⟨_, _, _, hc, -, hi, -⟩ := cl_Mc_58; cases hc.symm.trans h; exact hi
  | 4, h => obtain ⟨_, _, _, hc, -, hi, -⟩ := cl_Sh_41; cases hc.symm.trans h; exact hi
  | 5, h => obtain ⟨_, _, _, hc, -, hi, -⟩ := cl_Mc_72; cases hc.symm.trans h; exact hi
  | 6, h => obtain ⟨_, _, _, hc, -, hi, -⟩ := cl_Mc_9; cases hc.symm.trans h; exact hi
  | 7, h => obtain ⟨_, _, _, hc, -, hi, -⟩ := cl_Wo_9; cases hc.symm.trans h; exact hi
  | 8, h => obtain ⟨_, _, _, hc, -, hi, -⟩ := cl_Mc_18; cases hc.symm.trans h; exact hi
  | 9, h => obtain ⟨_, _, _, hc, -, hi, -⟩ := cl_Sh_9; cases hc.symm.trans h; exact hi
  | 10, h => obtain ⟨_, _, _, hc, -, hi, -⟩ := cl_La_7; cases hc.symm.trans h; exact hi
  | 11, h => obtain ⟨_, _, _, hc, -, hi, -⟩ := cl_La_10; cases hc.symm.trans h; exact hi
  | 12, h => obtain ⟨_, _, _, hc, -, hi, -⟩ := cl_Cu_19; cases hc.symm.trans h; exact hi
  | q + 13, h => simp [classes] at h
abbrev Y_La (nm : String) : Meth := (⟨"MissCurvesLaw", nm, "([I)Z"⟩, code, 4, some .boolean)
def M0 : Mem := ((0, 0), fun _ => (99, 0), fun _ _ => 0, fun _ _ => 0, fun _ _ => none)
/-- what is said of outside: the words that the machine may note, the script -/
def EX (b L : Nat) (xs : Nat → Int32) (Hx : Heap) (U : State) : Prop := (∀ w ∈ xw_tbl, w.before #[] U = true) ∧ va_X b L xs U Hx
theorem top_of {p : Program} {e : Env} {s : State} {m : MethodId} {below : List Frame} {meth : Method} {c : Code} (l : Launch) {b L : Nat} {xs : Nat → Int32} (C0 : lw_At p s m meth c b L xs)
    (HW : ∀ (g : Gl) (nm : String), GOK g → (∀ U, gl_E g U → EX (gl_ext g 0) L xs (gl_H g) U) → gl_ext g 0 < gl_b g → Wp g (Y_La nm) 2048 0 [some (.retAddr 0), none, none, none] [] M0 (fun r M2 => r = some (.int 1) ∧ mZ M2 ≤ 600000 ∧ mL M2 ≤ 7302249)) :
    W p l e room_1 s m #[Value.ref b] below meth c s.heap [] 0 0 (lw_Z below #[Value.ref b] s) (entryFrame m ([Value.ref b] : List Value).toArray 4) := by
  obtain ⟨hx, hb, hr, hml, hown, hts, hX, hbl, hlocks, hgv⟩ := C0
  have hg : ∀ w ∈ gd_tbl, w.before #[Value.ref b] s = true := fun w hw => hts w (List.mem_filter.mp hw).1
  have hxw : ∀ w ∈ xw_tbl, w.before #[] s = true := by
    intro w hw
    have h1 := hts w (List.mem_filter.mp hw).1
    have hx2 := (List.mem_filter.mp hw).2
    cases w with
    | methodLinkNest a i x ho => exact va_any rfl h1
    | arrayOver ty => exact h1
    | _ => exact absurd (show false = true from hx2) Bool.false_ne_true
  have hK1 : ∀ ci : Nat, ∃ q : ClassId × (Nat → Nat), ∀ r : vw_C, classes[ci]? = some r → u_Kn s r.1 r.2.1 r.2.2 q.1 q.2 := by
    intro ci
    cases hq : classes[ci]? with
    | none => exact ⟨(0, fun _ => 0), fun r hr2 => by cases hr2⟩
    | some r =>
      obtain ⟨C, T, N⟩ := r
      obtain ⟨-, hin, -⟩ := cls_ok hq
      obtain ⟨cC, iS, hk⟩ := u_known (C := C) (T := T) (N := N) (n := N) hg hin (hg _ (inst_ok hq))
      exact ⟨(cC, iS), fun r hr2 => by cases hr2; exact hk⟩
  have hprim : ∀ ty : FieldType, (∀ C, ty ≠ .object C) → Cond.arrayClass ty ∈ gd_tbl → ∃ cA : ClassId, ArrOfT s cA ty ∧ va_RA s cA ty := by
    intro ty hno hw
    obtain ⟨cA, kA, comp, f1, f2, f3⟩ := Cond.arrayClass_spec (hg _ hw)
    refine ⟨cA, fun N z => ⟨(fun k h => by cases h), kA, f2, comp, f3⟩, ?_⟩
    cases ty with
    | object C => exact absurd rfl (hno C)
    | _ => exact f1
  have hobj : ∀ C : String, Cond.arrayOver (.object C) ∈ xw_tbl → ∃ cA : ClassId, ArrOfT s cA (.object C) ∧ va_RA s cA (.object C) := by
    intro C hw
    obtain ⟨comp, cA, kA, f0, -, f2, f3, f1⟩ := Cond.arrayOver_spec (hxw _ hw)
    exact ⟨cA, fun N z => ⟨(fun k h => by cases h), kA, f2, comp, f3⟩, kA, comp, f2, f3, f0, f1⟩
  have hA1 : ∀ κ : Nat, ∃ cA : ClassId, 20 ≤ κ → κ < 28 → ArrOfT s cA (aty κ) ∧ va_RA s cA (aty κ) := by
    intro κ
    by_cases hk : 20 ≤ κ ∧ κ < 28
    · have hres : ∃ cA : ClassId, ArrOfT s cA (aty κ) ∧ va_RA s cA (aty κ) := by
        rcases (show κ = 20 ∨ κ = 21 ∨ κ = 22 ∨ κ = 23 ∨ κ = 24 ∨ κ = 25 ∨ κ = 26 ∨ κ = 27 by omega) with rfl | rfl | rfl | rfl | rfl | rfl | rfl | rfl
        · exact hprim .int (fun C h => by cases h) ac_int
        · exact hprim .long (fun C h => by cases h) ac_long
        · exact hprim .byte (fun C h => by cases h) ac_byte
        · exact hprim .boolean (fun C h => by cases h) ac_boolean
        · exact hobj _ al_Wo_9.2
        · exact hobj _ al_Sh_9.2
        · exact hobj _ al_Mc_9.2
        · exact hobj _ al_Sh_41.2
      obtain ⟨cA, hh⟩ := hres
      exact ⟨cA, fun _ _ => hh⟩
    · exact ⟨0, fun h1 h2 => absurd ⟨h1, h2⟩ hk⟩
  let g : Gl := (l, (fun ci => (hK1 ci).choose.1, fun ci => (hK1 ci).choose.2), (fun κ => (hA1 κ).choose), (fun _ => b), s.heap, EX b L xs s.heap)
  have hK : va_K (gl_D g) classes (gl_tys g) s := by
    refine ⟨fun ci r hr2 => (hK1 ci).choose_spec r hr2, fun k q hq => ?_⟩
    have hlt : k < 8 := (List.getElem?_eq_some_iff.mp hq).1
    have hat := tys_at g (κ := 20 + k) (by omega) (by omega)
    rw [show 20 + k - 20 = k by omega] at hat
    cases hq.symm.trans hat
    exact (hA1 (20 + k)).choose_spec (by omega) (by omega)
  have hG : GOK g := ⟨fun u U hW hE => ⟨xw_warm hW hE.1, hE.2.moved hW.alike⟩, fun U hE => hE.1⟩
  obtain ⟨r, M2, ⟨hm, hR⟩, hr1, hz, hl⟩ := HW g meth.name hG (fun U hE => hE) hbl
  subst hr1
  have hle := lv_entry ([Value.ref b]) (n := 4) (Nat.le_of_ble_eq_true rfl)
  rw [lg_entry_eq]
  generalize (lg_sl ([Value.ref b]) ++ List.replicate (4 - (lg_sl ([Value.ref b])).length) Slot.unset).toArray = ls at hle ⊢
  have hLH : LH g ls 4 [some (.retAddr 0), none, none, none] := hle
  have hret : ret = some .boolean := rfl
  have hF : FrameOK g (Y_La meth.name) 2048 p room_1 s m #[Value.ref b] meth c := ⟨⟨hx, hb, hml, hr, hlocks, rfl⟩, hown, hg, hK, ⟨hxw, hX⟩, hG, Nat.le_refl _, by decide, Nat.le_refl _⟩
  have hW0 : World g M0 s.heap := ⟨rfl, fun q _ => rfl, fun a ha => absurd ha (by show ¬ (99 < 28); decide)⟩
  refine hR p e room_1 s m #[Value.ref b] below meth c s.heap [] 0 0 (lw_Z below #[Value.ref b] s) ls hF hW0 (fun q hq => by cases hq) hLH (Nat.zero_le _) (Nat.zero_le _) hz hl ?_
  intro pc2 ls2 H2 locs2 hW2 hL2 hret2
  refine va_forget (fun q hq => hL2 q hq) ?_
  refine W.widen (k := 600000) (n := 7302249) hz hl ?_
  rcases hret2 with ⟨q1, -⟩ | ⟨x, ty, q1, q2, q3, q4⟩ | ⟨x, q1, -⟩ | ⟨q, ty, q1, -⟩
  · cases q1
  · exact lw_ret hx hb hr hlocks q4
  · cases q1
  · cases q <;> cases q1

/-! ===== what lies outside: String constants, statics ===== -/
/-- the words of the two languages, as the model numbers them from 1 on -/
def wdB : List (List Int32) := [[99, 111, 115, 116, 115], [98, 97, 114, 115], [105, 102], [111, 114], [97, 110, 100], [110, 111, 116], [116, 101, 110, 97, 110, 116], [107, 101, 121], [114, 101, 97, 100, 115], [102, 97, 114], [109, 111, 111, 100], [116, 105, 109, 101], [100, 111, 110, 101], [108, 97, 116, 101, 115, 116], [99, 111, 108, 100], [100, 101, 101, 112], [114, 101, 97, 100], [98, 121], [108, 111, 111, 112], [116, 111], [100, 114, 111, 112], [112, 97, 115, 115], [116, 105, 109, 101, 115], [108, 114, 117], [109, 114, 117], [102, 105, 102, 111], [108, 102, 117], [109, 105, 110]]
def wdX : List String := ["costs", "bars", "if", "or", "and", "not", "tenant", "key", "reads", "far", "mood", "time", "done", "latest", "cold", "deep", "read", "by", "loop", "to", "drop", "pass", "times", "lru", "mru", "fifo", "lfu", "min"]
def wdI : List Nat := [118, 113, 152, 167, 175, 177, 198, 200, 202, 204, 208, 206, 210, 212, 214, 216, 127, 142, 129, 138, 131, 133, 148, 54, 60, 62, 64, 66]
abbrev aOut (g : Gl) : Nat → Prop := fun q => gl_b g ≤ q
/-- what is said of outside: word i at ext 1 + i, its bytes at ext 101 + i; String's static; the formatter -/
def StrOK (g : Gl) : Prop := ∀ U, gl_E g U → (∀ i, i < 28 → vk_R "MissCurves$Parser" (wdI.getD i 0) (wdX.getD i "") (gl_ext g (1 + i)) U ∧ va_O "java/lang/String" (gl_ext g (1 + i)) (aOut g) U (gl_H g) ∧ va_OF "java/lang/String" "coder" "B" (.int 0) (gl_ext g (1 + i)) (aOut g) U (gl_H g) ∧ va_OF "java/lang/String" "value" "[B" (.ref (gl_ext g (101 + i))) (gl_ext g (1 + i)) (aOut g) U (gl_H g) ∧ va_T .byte (gl_ext g (101 + i)) (wdB.getD i []).length (fun j => .int ((wdB.getD i []).getD j 0)) (aOut g) U (gl_H g))
    ∧ va_Z "java/lang/String" "COMPACT_STRINGS" "Z" (.int 1) (aOut g) U (gl_H g)
def FmtOK (g : Gl) (v : Value) : Prop := (v = .null ∨ v = .retAddr 90) ∧ ∀ U, gl_E g U → va_Z "jdk/internal/util/Preconditions" "SIOOBE_FORMATTER" "Ljava/util/function/BiFunction;" (tv g v) (aOut g) U (gl_H g)
section SR2
variable {g : Gl} {Y : Meth} {n pc : Nat} {lv : List (Option Value)} {st : List Value} {M : Mem} {Q : Option Value → Mem → Prop}
theorem World.out {H : Heap} (hW : World g M H) : ∀ a : Nat, a < (gl_H g).size → ¬ aOut g a → H[a]? = (gl_H g)[a]? := fun a h _ => hW.2.1 a h
theorem wp_ldcs {i ix : Nat} (hS : StrOK g) (hi : i < 28) (hx : wdI.getD i 0 = ix) (hY : Y.1.cls = "MissCurves$Parser") (hd : decode Y.2.1 pc = .ok (.ldc ix, 2)) (k : Wp g Y n (pc + 2) lv (.retAddr (1 + i) :: st) M Q) : Wp g Y n pc lv st M Q := by
  refine wp_pure (fun p e R s m args below meth c H locs cells slots Q ls hF hlv hW k0 => ?_) k
  obtain ⟨⟨hx1, hb, -⟩, hown, hts, hK, hE, -⟩ := hF
  rw [hY] at hown
  subst hx
  exact va_ldcS hx1 hb hown ((hS s hE).1 i hi).1 hd k0
theorem wp_gets {C nm ds own : String} {v : Value} {ix : Nat} (hZ : ∀ U, gl_E g U → va_Z C nm ds (tv g v) (aOut g) U (gl_H g)) (hY : Y.1.cls = own) (hl : Cond.fieldLink own ix C nm ds ∈ gd_tbl) (hd : decode Y.2.1 pc = .ok (.getstatic ix, 3)) (k : Wp g Y n (pc + 3) lv (v :: st) M Q) : Wp g Y n pc lv st M Q := by
  refine wp_pure (fun p e R s m args below meth c H locs cells slots Q ls hF hlv hW k0 => ?_) k
  obtain ⟨⟨hx1, hb, -⟩, hown, hts, hK, hE, -⟩ := hF
  rw [hY] at hown
  obtain ⟨cf, kf, fi, f, a, cell, h1, h2, h3, h4, h5, h6, h7, h8⟩ := (hZ s hE).kept hW.out
  exact W.gets hx1 hb hown (hts _ hl) h1 h2 h3 h4 h5 (fun e => by rw [e] at h6; cases h6) h7 rfl hd k0
theorem wp_getX {nm ds own : String} {v : Value} {ix q : Nat} (hZ : ∀ U, gl_E g U → va_OF own nm ds (tv g v) (gl_ext g q) (aOut g) U (gl_H g)) (hY : Y.1.cls = own) (hl : Cond.fieldLink own ix own nm ds ∈ gd_tbl) (hd : decode Y.2.1 pc = .ok (.getfield ix, 3)) (k : Wp g Y n (pc + 3) lv (v :: st) M Q) : Wp g Y n pc lv (.retAddr q :: st) M Q := by
  refine wp_pure (fun p e R s m args below meth c H locs cells slots Q ls hF hlv hW k0 => ?_) k
  obtain ⟨⟨hx1, hb, -⟩, hown, hts, hK, hE, -⟩ := hF
  rw [hY] at hown
  obtain ⟨cf, k1, fi, f, cell, h1, h2, h3, h4, h5, h6⟩ := (hZ s hE).kept hW.out
  exact W.getf hx1 hb hown (hts _ hl) h1 h2 h3 h4 (v := tv g v) h5 rfl rfl hd k0
theorem wp_alenX {q N : Nat} {f : Nat → Value} (hZ : ∀ U, gl_E g U → va_T .byte (gl_ext g q) N f (aOut g) U (gl_H g)) (hd : decode Y.2.1 pc = .ok (.arraylength, 1)) (k : Wp g Y n (pc + 1) lv (.int (nI N) :: st) M Q) : Wp g Y n pc lv (.retAddr q :: st) M Q := by
  refine wp_pure (fun p e R s m args below meth c H locs cells slots Q ls hF hlv hW k0 => ?_) k
  obtain ⟨⟨hx1, hb, -⟩, hown, hts, hK, hE, -⟩ := hF
  obtain ⟨cell, h1, h2, h3, h4, h5, h6, h7⟩ := (hZ s hE).kept hW.out
  exact W.alen (n := nI N) hx1 hb h1 h2 (by rw [h5]; rfl) rfl rfl hd k0
theorem wp_baldX {q N k0 : Nat} {i : Int32} {f : Nat → Int32} (hZ : ∀ U, gl_E g U → va_T .byte (gl_ext g q) N (fun j => .int (f j)) (aOut g) U (gl_H g)) (hd : decode Y.2.1 pc = .ok (.baload, 1)) (hi : ixk i N k0) (k : Wp g Y n (pc + 1) lv (.int (f k0) :: st) M Q) : Wp g Y n pc lv (.int i :: .retAddr q :: st) M Q := by
  refine wp_pure (fun p e R s m args below meth c H locs cells slots Q ls hF hlv hW k9 => ?_) k
  obtain ⟨⟨hx1, hb, -⟩, hown, hts, hK, hE, -⟩ := hF
  obtain ⟨cell, h1, h2, h3, h4, h5, h6, h7⟩ := (hZ s hE).kept hW.out
  have hi2 : ixk i cell.slots.size k0 := ⟨hi.1, hi.2.1, Nat.lt_of_lt_of_le hi.2.2 h4⟩
  exact W.bald (v := .int (f k0)) hx1 hb h1 h2 h3 hi2.inn (by rw [hi.2.1]; exact h6 k0 hi.2.2) rfl rfl hd k9
/-- a call on a thing outside -/
def XLk (own : String) (ix : Nat) (Y2 : Meth) (k : Nat) : Prop := YOK Y2 k ∧ Cond.methodLink own ix Y2.1 ∈ gd_tbl ∧ Cond.instanceMethod Y2.1 ∈ gd_tbl ∧ Cond.selects Y2.1.cls Y2.1 Y2.1 ∈ gd_tbl
theorem wp_callX {ix n2 q : Nat} {Y2 : Meth} {As : List Value} (hd : decode Y.2.1 pc = .ok (.invokevirtual ix, 3)) (hl : XLk Y.1.cls ix Y2 As.length) (hn : n2 + 1 ≤ n) (hst : (st.map fun v => v.category).sum ≤ 8) (hZ : ∀ U, gl_E g U → va_O Y2.1.cls (gl_ext g q) (aOut g) U (gl_H g)) (hc : Cw g Y2 n2 (.retAddr q :: As) M (fun r M1 => Wp g Y n (pc + 3) lv (r.toList ++ st) M1 Q)) : Wp g Y n pc lv (As.reverse ++ .retAddr q :: st) M Q := by
  obtain ⟨r, M1, ⟨hm, hM⟩, k⟩ := hc
  refine wp_run hm (fun p e R s m args below meth c H locs cells slots ls hF hlv hW hcs hss => ?_) k
  obtain ⟨⟨hx, hb, hml, -⟩, hown, hts, hK, hE, hG, hfr, hlo, -⟩ := hF
  obtain ⟨⟨w1, w2, w3, w4⟩, w5, w6, w7⟩ := hl
  obtain ⟨cell, c1, c2, c3, -⟩ := (hZ s hE).kept hW.out
  have hrecv : ∃ cellB : Cell, H[gl_ext g q]? = some cellB ∧ cellB.vm.isStatics = false ∧ s.vm.findClass Y2.1.cls = some cellB.cls := ⟨cell, c1, c2, c3⟩
  have := va_runV (e := e) (below := below) (meth := meth) (locs := locs) (cells := cells) (slots := slots) (b := gl_ext g q) (As := As.map (tv g)) (rest := st.map (tv g)) (g := F0 m pc ls ((As.reverse ++ .retAddr q :: st).map (tv g))) ⟨hx, hb, hml, hown, hts⟩ (hM n2 (Nat.le_refl _))
    (C := Y2.1.cls) (index := ix) (n := As.length) ⟨callB_of As.length hts (good_ws w1) rfl rfl rfl (hts _ w2) (hts _ w5) w3 (room_ok hn hfr hlo w4), hts _ w6, hts _ w7⟩ ⟨FrameBlind.inv g _ M, hrecv, fun U hU hwm => ⟨rfl, by rw [hU]; exact hW, va_K.moved hwm.alike hK, hG.1 _ _ hwm hE, hG⟩⟩ rfl (by rw [List.length_map]) hlv.1 (by rw [List.map_append, List.map_reverse]; rfl) (cats_ok hst) hd ⟨hcs, hss⟩
  exact this
theorem wp_cX0i {ix n2 q : Nat} {Y2 : Meth} (hd : decode Y.2.1 pc = .ok (.invokevirtual ix, 3)) (hl : XLk Y.1.cls ix Y2 0) (hn : n2 + 1 ≤ n) (hst : (st.map fun v => v.category).sum ≤ 8) (hZ : ∀ U, gl_E g U → va_O Y2.1.cls (gl_ext g q) (aOut g) U (gl_H g)) (hc : Ci g Y2 n2 [.retAddr q] M (fun x M1 => Wp g Y n (pc + 3) lv (.int x :: st) M1 Q)) : Wp g Y n pc lv (.retAddr q :: st) M Q := wp_callX (As := []) hd hl hn hst hZ (Cw.mono hc (fun r M1 ⟨x, e, h⟩ => by subst e; exact h))
theorem wp_cX1i {ix n2 q : Nat} {Y2 : Meth} {v1 : Value} (hd : decode Y.2.1 pc = .ok (.invokevirtual ix, 3)) (hl : XLk Y.1.cls ix Y2 1) (hn : n2 + 1 ≤ n) (hst : (st.map fun v => v.category).sum ≤ 8) (hZ : ∀ U, gl_E g U → va_O Y2.1.cls (gl_ext g q) (aOut g) U (gl_H g)) (hc : Ci g Y2 n2 [.retAddr q, v1] M (fun x M1 => Wp g Y n (pc + 3) lv (.int x :: st) M1 Q)) : Wp g Y n pc lv (v1 :: .retAddr q :: st) M Q := wp_callX (As := [v1]) hd hl hn hst hZ (Cw.mono hc (fun r M1 ⟨x, e, h⟩ => by subst e; exact h))
end SR2
theorem xl_Pa_104 : XLk "MissCurves$Parser" 104 Y_St_length 0 := ⟨yk_St_length, (tm3 175 rfl rfl), (tm3 176 rfl rfl), (tm3 177 rfl rfl)⟩
theorem xl_Pa_109 : XLk "MissCurves$Parser" 109 Y_St_charAt 1 := ⟨yk_St_charAt, (tm3 184 rfl rfl), (tm3 185 rfl rfl), (tm3 186 rfl rfl)⟩
theorem xl_St_335 : XLk "java/lang/String" 335 Y_St_coder 0 := ⟨yk_St_coder, (tm3 179 rfl rfl), (tm3 180 rfl rfl), (tm3 181 rfl rfl)⟩
theorem xl_St_492 : XLk "java/lang/String" 492 Y_St_isLatin1 0 := ⟨yk_St_isLatin1, (tm3 188 rfl rfl), (tm3 189 rfl rfl), (tm3 190 rfl rfl)⟩
theorem xf_St_9 : Cond.fieldLink "java/lang/String" 9 "java/lang/String" "value" "[B" ∈ gd_tbl := (tm9 153 rfl rfl)
theorem xf_St_15 : Cond.fieldLink "java/lang/String" 15 "java/lang/String" "coder" "B" ∈ gd_tbl := (tm9 154 rfl rfl)
theorem xf_St_38 : Cond.fieldLink "java/lang/String" 38 "java/lang/String" "COMPACT_STRINGS" "Z" ∈ gd_tbl := (tm3 183 rfl rfl)
theorem xf_St_1053 : Cond.fieldLink "java/lang/String" 1053 "jdk/internal/util/Preconditions" "SIOOBE_FORMATTER" "Ljava/util/function/BiFunction;" ∈ gd_tbl := (tm3 198 rfl rfl)
theorem xf_As_18 : Cond.fieldLink "java/lang/AbstractStringBuilder" 18 "java/lang/String" "COMPACT_STRINGS" "Z" ∈ gd_tbl := (tm2 117 rfl rfl)
theorem xf_In_83 : Cond.fieldLink "java/lang/Integer" 83 "java/lang/Integer" "DigitOnes" "[B" ∈ gd_tbl := (tm5 116 rfl rfl)
theorem xf_In_87 : Cond.fieldLink "java/lang/Integer" 87 "java/lang/Integer" "DigitTens" "[B" ∈ gd_tbl := (tm5 118 rfl rfl)
section SJ
variable {g : Gl} {M : Mem}
theorem s_coder {i : Nat} (hS : StrOK g) (hi : i < 28) : Ci g Y_St_coder 0 [.retAddr (1 + i)] M (fun x M2 => x = 0 ∧ M2 = M) := by
  refine cw_entry 0 pf_St_coder rfl ?_
  refine wp_gets (v := .int (nI 1)) (fun U hU => (hS U hU).2) rfl xf_St_38 (ck_get kk_St_coder 0 rfl) ?_
  first | refine wp_if_eqN (t := 13) (ck_get kk_St_coder 1 rfl) (by decide) (by omega) (fun hc3 => ?_) (fun hc3 => ?_) | refine wp_if_eq (t := 13) (ck_get kk_St_coder 1 rfl) (by decide) (fun hc3 => ?_) (fun hc3 => ?_)
  · exact absurd hc3 (by decide)
  · refine wp_aload_nX rfl (ck_get kk_St_coder 2 rfl) ?_
    refine wp_getX (v := .int 0) (fun U hU => ((hS U hU).1 i hi).2.2.1) rfl xf_St_15 (ck_get kk_St_coder 3 rfl) ?_
    refine wp_goto (t := 14) (ck_get kk_St_coder 4 rfl) (by decide) ?_
    refine wp_ireturn (ck_get kk_St_coder 6 rfl) rfl rfl ⟨_, rfl, ?_⟩
    exact ⟨rfl, rfl⟩
theorem s_isLatin1 {i : Nat} (hS : StrOK g) (hi : i < 28) : Ci g Y_St_isLatin1 0 [.retAddr (1 + i)] M (fun x M2 => x = nI 1 ∧ M2 = M) := by
  refine cw_entry 0 pf_St_isLatin1 rfl ?_
  refine wp_gets (v := .int (nI 1)) (fun U hU => (hS U hU).2) rfl xf_St_38 (ck_get kk_St_isLatin1 0 rfl) ?_
  first | refine wp_if_eqN (t := 17) (ck_get kk_St_isLatin1 1 rfl) (by decide) (by omega) (fun hc3 => ?_) (fun hc3 => ?_) | refine wp_if_eq (t := 17) (ck_get kk_St_isLatin1 1 rfl) (by decide) (fun hc3 => ?_) (fun hc3 => ?_)
  · exact absurd hc3 (by decide)
  · refine wp_aload_nX rfl (ck_get kk_St_isLatin1 2 rfl) ?_
    refine wp_getX (v := .int 0) (fun U hU => ((hS U hU).1 i hi).2.2.1) rfl xf_St_15 (ck_get kk_St_isLatin1 3 rfl) ?_
    first | refine wp_if_neN (t := 17) (ck_get kk_St_isLatin1 4 rfl) (by decide) (by omega) (fun hc10 => ?_) (fun hc10 => ?_) | refine wp_if_ne (t := 17) (ck_get kk_St_isLatin1 4 rfl) (by decide) (fun hc10 => ?_) (fun hc10 => ?_)
    · exact absurd rfl hc10
    · refine wp_iconst (v := nI 1) (by decide) (ck_get kk_St_isLatin1 5 rfl) ?_
      refine wp_goto (t := 18) (ck_get kk_St_isLatin1 6 rfl) (by decide) ?_
      refine wp_ireturn (ck_get kk_St_isLatin1 8 rfl) rfl rfl ⟨_, rfl, ?_⟩
      exact ⟨rfl, rfl⟩
theorem sc_shr0' {k : Nat} (h : k < 2147483648) : nI k >>> ((0 : Int32) &&& 31) = nI k := by
  rw [show ((0 : Int32) &&& 31) = 0 by decide, Int32.shiftRight_zero]
theorem s_length {i : Nat} (hS : StrOK g) (hi : i < 28) : Ci g Y_St_length 1 [.retAddr (1 + i)] M (fun x M2 => x = nI (wdB.getD i []).length ∧ M2 = M) := by
  refine cw_entry 0 pf_St_length rfl ?_
  refine wp_aload_nX rfl (ck_get kk_St_length 0 rfl) ?_
  refine wp_getX (v := .retAddr (101 + i)) (fun U hU => ((hS U hU).1 i hi).2.2.2.1) rfl xf_St_9 (ck_get kk_St_length 1 rfl) ?_
  refine wp_alenX (fun U hU => ((hS U hU).1 i hi).2.2.2.2) (ck_get kk_St_length 2 rfl) ?_
  refine wp_aload_nX rfl (ck_get kk_St_length 3 rfl) ?_
  refine wp_cX0i (ck_get kk_St_length 4 rfl) xl_St_335 (by omega) (Nat.le_of_ble_eq_true rfl) (fun U hU => ((hS U hU).1 i hi).2.1) (Ci.to (s_coder hS hi) ?_)
  rintro x₁ M₁ ⟨rfl, rfl⟩
  refine wp_ishr (ck_get kk_St_length 5 rfl) ?_
  skip
  refine wp_ireturn (ck_get kk_St_length 6 rfl) rfl rfl ⟨_, rfl, ?_⟩
  exact ⟨by rw [sc_shr0']; exact Nat.lt_of_lt_of_le (show (wdB.getD i []).length < 100 by revert i; decide) (by decide), rfl⟩
theorem s_preCheck {a b : Nat} {v : Value} (hv : v = .null ∨ v = .retAddr 90) (h : a < b) (hb : b < 2147483648) : Ci g Y_Precon_checkIndex 0 [.int (nI a), .int (nI b), v] M (fun x M2 => x = nI a ∧ M2 = M) := by
  rcases hv with rfl | rfl
  · refine cw_entry 0 pf_Precon_checkIndex rfl ?_
    refine wp_iload_n rfl (ck_get kk_Precon_checkIndex 0 rfl) ?_
    first | refine wp_if_ltN (t := 9) (ck_get kk_Precon_checkIndex 1 rfl) (by decide) (by omega) (fun hc1 => ?_) (fun hc1 => ?_) | refine wp_if_lt (t := 9) (ck_get kk_Precon_checkIndex 1 rfl) (by decide) (fun hc1 => ?_) (fun hc1 => ?_)
    · exact hc1.elim
    · refine wp_iload_n rfl (ck_get kk_Precon_checkIndex 2 rfl) ?_
      refine wp_iload_n rfl (ck_get kk_Precon_checkIndex 3 rfl) ?_
      first | refine wp_icmp_ltN (t := 16) (ck_get kk_Precon_checkIndex 4 rfl) (by decide) (by omega) (by omega) (fun hc6 => ?_) (fun hc6 => ?_) | refine wp_icmp_lt (t := 16) (ck_get kk_Precon_checkIndex 4 rfl) (by decide) (fun hc6 => ?_) (fun hc6 => ?_)
      · refine wp_iload_n rfl (ck_get kk_Precon_checkIndex 10 rfl) ?_
        refine wp_ireturn (ck_get kk_Precon_checkIndex 11 rfl) rfl rfl ⟨_, rfl, ?_⟩
        exact ⟨rfl, rfl⟩
      · omega
  · refine cw_entry 0 pf_Precon_checkIndex rfl ?_
    refine wp_iload_n rfl (ck_get kk_Precon_checkIndex 0 rfl) ?_
    first | refine wp_if_ltN (t := 9) (ck_get kk_Precon_checkIndex 1 rfl) (by decide) (by omega) (fun hc1 => ?_) (fun hc1 => ?_) | refine wp_if_lt (t := 9) (ck_get kk_Precon_checkIndex 1 rfl) (by decide) (fun hc1 => ?_) (fun hc1 => ?_)
    · exact hc1.elim
    · refine wp_iload_n rfl (ck_get kk_Precon_checkIndex 2 rfl) ?_
      refine wp_iload_n rfl (ck_get kk_Precon_checkIndex 3 rfl) ?_
      first | refine wp_icmp_ltN (t := 16) (ck_get kk_Precon_checkIndex 4 rfl) (by decide) (by omega) (by omega) (fun hc6 => ?_) (fun hc6 => ?_) | refine wp_icmp_lt (t := 16) (ck_get kk_Precon_checkIndex 4 rfl) (by decide) (fun hc6 => ?_) (fun hc6 => ?_)
      · refine wp_iload_n rfl (ck_get kk_Precon_checkIndex 10 rfl) ?_
        refine wp_ireturn (ck_get kk_Precon_checkIndex 11 rfl) rfl rfl ⟨_, rfl, ?_⟩
        exact ⟨rfl, rfl⟩
      · omega
theorem s_checkIndex {a b : Nat} {v : Value} (hv : FmtOK g v) (h : a < b) (hb : b < 2147483648) : Cv g Y_St_checkIndex 1 [.int (nI a), .int (nI b)] M (fun M2 => M2 = M) := by
  refine cw_entry 0 pf_St_checkIndex rfl ?_
  have hv1 := hv.1
  refine wp_iload_n rfl (ck_get kk_St_checkIndex 0 rfl) ?_
  refine wp_iload_n rfl (ck_get kk_St_checkIndex 1 rfl) ?_
  refine wp_gets (v := v) hv.2 rfl xf_St_1053 (ck_get kk_St_checkIndex 2 rfl) ?_
  refine wp_cS3i (ck_get kk_St_checkIndex 3 rfl) ml_St_1059 (by omega) (Nat.le_of_ble_eq_true rfl) (Ci.to (s_preCheck hv1 h hb) ?_)
  rintro _ M1 ⟨rfl, eqm1⟩
  obtain rfl := eqm1.symm
  refine wp_pop rfl (ck_get kk_St_checkIndex 4 rfl) ?_
  refine wp_return (ck_get kk_St_checkIndex 5 rfl) rfl ⟨rfl, ?_⟩
  rfl
/-- a byte as a char -/
theorem s_charAt {i k : Nat} {v : Value} (hS : StrOK g) (hv : FmtOK g v) (hi : i < 28) (hk : k < (wdB.getD i []).length) : Ci g Y_St_charAt 3 [.retAddr (1 + i), .int (nI k)] M (fun x M2 => x = (wdB.getD i []).getD k 0 ∧ M2 = M) := by
  refine cw_entry 0 pf_St_charAt rfl ?_
  have hlen : (wdB.getD i []).length < 100 := (show ∀ j, j < 28 → (wdB.getD j []).length < 100 by decide) i hi
  have hsl : Ci g Y_Sl_charAt 2 [.retAddr (101 + i), .int (nI k)] M (fun x M2 => x = (wdB.getD i []).getD k 0 ∧ M2 = M) := by
    refine cw_entry 0 pf_Sl_charAt rfl ?_
    have hval : ∀ j, j < 28 → ∀ q, q < 8 → ((((wdB.getD j []).getD q 0 &&& nI 255).toUInt32 % 65536).toInt32 = (wdB.getD j []).getD q 0 ∧ narrow .char (.int ((wdB.getD j []).getD q 0)) = .int ((wdB.getD j []).getD q 0)) ∧ (wdB.getD j []).length ≤ 8 := by decide
    have hv2 := hval i hi k (by have := (hval i hi 0 (by omega)).2; omega)
    refine wp_iload_n rfl (ck_get kk_Sl_charAt 0 rfl) ?_
    refine wp_aload_nX rfl (ck_get kk_Sl_charAt 1 rfl) ?_
    refine wp_alenX (fun U hU => ((hS U hU).1 i hi).2.2.2.2) (ck_get kk_Sl_charAt 2 rfl) ?_
    refine wp_cS2v (ck_get kk_Sl_charAt 3 rfl) ml_Sl_9 (by omega) (Nat.le_of_ble_eq_true rfl) (Cv.to (s_checkIndex hv hk (by omega)) ?_)
    rintro M₁ rfl
    refine wp_aload_nX rfl (ck_get kk_Sl_charAt 4 rfl) ?_
    refine wp_iload_n rfl (ck_get kk_Sl_charAt 5 rfl) ?_
    refine wp_baldX (f := fun j => (wdB.getD i []).getD j 0) (fun U hU => ((hS U hU).1 i hi).2.2.2.2) (ck_get kk_Sl_charAt 6 rfl) (ixk_nI hk (by omega)) ?_
    refine wp_sipush (v := nI 255) (by decide) (ck_get kk_Sl_charAt 7 rfl) ?_
    refine wp_iand (ck_get kk_Sl_charAt 8 rfl) ?_
    refine wp_i2c (ck_get kk_Sl_charAt 9 rfl) ?_
    rw [hv2.1.1]
    refine wp_ireturn (ck_get kk_Sl_charAt 10 rfl) rfl hv2.1.2 ⟨_, rfl, ?_⟩
    exact ⟨rfl, rfl⟩
  have hval : ∀ j, j < 28 → ∀ q, q < 8 → (narrow .char (.int ((wdB.getD j []).getD q 0)) = .int ((wdB.getD j []).getD q 0)) ∧ (wdB.getD j []).length ≤ 8 := by decide
  have hv2 := hval i hi k (by have := (hval i hi 0 (by omega)).2; omega)
  refine wp_aload_nX rfl (ck_get kk_St_charAt 0 rfl) ?_
  refine wp_cX0i (ck_get kk_St_charAt 1 rfl) xl_St_492 (by omega) (Nat.le_of_ble_eq_true rfl) (fun U hU => ((hS U hU).1 i hi).2.1) (Ci.to (s_isLatin1 hS hi) ?_)
  rintro x₁ M₁ ⟨rfl, rfl⟩
  first | refine wp_if_eqN (t := 16) (ck_get kk_St_charAt 2 rfl) (by decide) (by omega) (fun hc4 => ?_) (fun hc4 => ?_) | refine wp_if_eq (t := 16) (ck_get kk_St_charAt 2 rfl) (by decide) (fun hc4 => ?_) (fun hc4 => ?_)
  · exact absurd hc4 (by decide)
  · refine wp_aload_nX rfl (ck_get kk_St_charAt 3 rfl) ?_
    refine wp_getX (v := .retAddr (101 + i)) (fun U hU => ((hS U hU).1 i hi).2.2.2.1) rfl xf_St_9 (ck_get kk_St_charAt 4 rfl) ?_
    refine wp_iload_n rfl (ck_get kk_St_charAt 5 rfl) ?_
    refine wp_cS2i (ck_get kk_St_charAt 6 rfl) ml_St_495 (by omega) (Nat.le_of_ble_eq_true rfl) (Ci.to (hsl) ?_)
    rintro x₂ M₂ ⟨rfl, rfl⟩
    refine wp_ireturn (ck_get kk_St_charAt 7 rfl) rfl hv2.1 ⟨_, rfl, ?_⟩
    exact ⟨rfl, rfl⟩
end SJ

/-! ===== a superclass's own method, on this ===== -/
section SUP
def ZLk (own : String) (ix : Nat) (Y2 : Meth) (k : Nat) : Prop := YOK Y2 k ∧ Cond.methodLink own ix Y2.1 ∈ gd_tbl ∧ Cond.instanceMethod Y2.1 ∈ gd_tbl ∧ Cond.sameMethod Y2.1.cls Y2.1.cls Y2.1.name Y2.1.desc ∈ gd_tbl ∧ Cond.superclass own Y2.1.cls ∈ gd_tbl ∧ Y2.1.name ≠ "<init>"
theorem cwZ {R : Room} {s : State} {args : Array Value} {own : String} {index : Nat} {y : MethodName} {bytes : ByteArray} {maxL : Nat} {ret : Option FieldType} {ws : List Cond} {rm : Room} {mc ms n : Nat} (h : CallB R s args own index y bytes maxL ret ws rm mc ms n) (h1 : (Cond.sameMethod y.cls y.cls y.name y.desc).before args s = true) (h2 : (Cond.superclass own y.cls).before args s = true) (h3 : (Cond.instanceMethod y).before args s = true) (h4 : y.name ≠ "<init>") : va_CS R s args own index y bytes maxL ret ws rm mc ms n := by
  obtain ⟨z1, z2, z3, z4, z5, z6, z7, z8, z9, z10, z11⟩ := h
  exact ⟨⟨z1, z2, z3, z4, z5, z6⟩, z11, h1, h2, h3, z8, z7, h4, z10⟩
variable {g : Gl} {Y : Meth} {n pc : Nat} {lv : List (Option Value)} {st : List Value} {M : Mem} {Q : Option Value → Mem → Prop}
theorem wp_callZ {ix n2 b ci len : Nat} {Y2 : Meth} {As : List Value} (hd : decode Y.2.1 pc = .ok (.invokespecial ix, 3)) (hl : ZLk Y.1.cls ix Y2 As.length) (hn : n2 + 1 ≤ n) (hst : (st.map fun v => v.category).sum ≤ 8) (hci : ∃ (C : String) (T : u_T) (N : Nat), classes[ci]? = some (C, T, N)) (hT : mT M b = (ci, len)) (hc : Cw g Y2 n2 (.ref b :: As) M (fun r M1 => Wp g Y n (pc + 3) lv (r.toList ++ st) M1 Q)) : Wp g Y n pc lv (As.reverse ++ .ref b :: st) M Q := by
  obtain ⟨r, M1, ⟨hm, hM⟩, k⟩ := hc
  refine wp_run hm (fun p e R s m args below meth c H locs cells slots ls hF hlv hW hcs hss => ?_) k
  obtain ⟨⟨hx, hb, hml, -⟩, hown, hts, hK, hE, hG, hfr, hlo, -⟩ := hF
  obtain ⟨⟨w1, w2, w3, w4⟩, w5, w6, w7, w8, w9⟩ := hl
  obtain ⟨C, T, N, wc⟩ := hci
  obtain ⟨-, cell, c1, c2, c3, -⟩ := hW.obj hT (cls_ok wc).1
  have hat := (hK.1 ci _ wc).2
  have hrecv : ∃ cellB : Cell, H[gl_b g + b]? = some cellB ∧ cellB.vm.isStatics = false ∧ s.vm.findClass C = some cellB.cls := ⟨cell, c1, by rw [c3]; rfl, by rw [c2]; exact hat.1⟩
  have := va_runSU (e := e) (below := below) (meth := meth) (locs := locs) (cells := cells) (slots := slots) (b := gl_b g + b) (As := As.map (tv g)) (rest := st.map (tv g)) (g := F0 m pc ls ((As.reverse ++ .ref b :: st).map (tv g))) hat ⟨hx, hb, hml, hown, hts⟩ (hM n2 (Nat.le_refl _))
    (index := ix) (n := As.length) (cwZ (callB_of As.length hts (good_ws w1) rfl rfl rfl (hts _ w2) (hts _ w5) w3 (room_ok hn hfr hlo w4)) (hts _ w7) (hts _ w8) (hts _ w6) w9) ⟨FrameBlind.inv g _ M, hrecv, fun U hU hwm => ⟨rfl, by rw [hU]; exact hW, va_K.moved hwm.alike hK, hG.1 _ _ hwm hE, hG⟩⟩ rfl (by rw [List.length_map]) hlv.1 (by rw [List.map_append, List.map_reverse]; rfl) (cats_ok hst) hd ⟨hcs, hss⟩
  exact this
theorem ml_Sb_343 : ZLk "java/lang/StringBuilder" 343 Y_As_length 0 := ⟨yk_As_length, (tm5 141 rfl rfl), (tm5 142 rfl rfl), (tm9 151 rfl rfl), (tm2 138 rfl rfl), by decide⟩
theorem ml_Sb_329 : ZLk "java/lang/StringBuilder" 329 Y_As_charAt 1 := ⟨yk_As_charAt, (tm5 153 rfl rfl), (tm5 154 rfl rfl), (tm9 152 rfl rfl), (tm2 138 rfl rfl), by decide⟩
theorem cl12 : ∃ (C : String) (T : u_T) (N : Nat), classes[12]? = some (C, T, N) := ⟨_, _, _, rfl⟩
end SUP

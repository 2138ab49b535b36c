/-! ===== a method that a class above declares, on an object of a class below ===== -/
section VRT
def WLk (own : String) (ix : Nat) (Y2 : Meth) (k ci : Nat) (C : String) : Prop := YOK Y2 k ∧ Cond.methodLink own ix Y2.1 ∈ gd_tbl ∧ Cond.instanceMethod Y2.1 ∈ gd_tbl ∧ Cond.selects C Y2.1 Y2.1 ∈ gd_tbl ∧ ∃ (T : u_T) (N : Nat), classes[ci]? = some (C, T, N)
variable {g : Gl} {Y : Meth} {n pc : Nat} {lv : List (Option Value)} {st : List Value} {M : Mem} {Q : Option Value → Mem → Prop}
theorem wp_callW {ix n2 b ci len : Nat} {C : String} {Y2 : Meth} {As : List Value} (hd : decode Y.2.1 pc = .ok (.invokevirtual ix, 3)) (hl : WLk Y.1.cls ix Y2 As.length ci C) (hn : n2 + 1 ≤ n) (hst : (st.map fun v => v.category).sum ≤ 8) (hT : mT M b = (ci, len)) (hc : Cw g Y2 n2 (.ref b :: As) M (fun r M1 => Wp g Y n (pc + 3) lv (r.toList ++ st) M1 Q)) : Wp g Y n pc lv (As.reverse ++ .ref b :: st) M Q := by
  obtain ⟨r, M1, ⟨hm, hM⟩, k⟩ := hc
  refine wp_run hm (fun p e R s m args below meth c H locs cells slots ls hF hlv hW hcs hss => ?_) k
  obtain ⟨⟨hx, hb, hml, -⟩, hown, hts, hK, hE, hG, hfr, hlo, -⟩ := hF
  obtain ⟨⟨w1, w2, w3, w4⟩, w5, w6, w7, T, N, w8⟩ := hl
  obtain ⟨-, cell, c1, c2, c3, -⟩ := hW.obj hT (cls_ok w8).1
  have hrecv : ∃ cellB : Cell, H[gl_b g + b]? = some cellB ∧ cellB.vm.isStatics = false ∧ s.vm.findClass C = some cellB.cls := ⟨cell, c1, by rw [c3]; rfl, by rw [c2]; exact (hK.1 ci _ w8).2.1⟩
  have := va_runV (e := e) (below := below) (meth := meth) (locs := locs) (cells := cells) (slots := slots) (b := gl_b g + b) (As := As.map (tv g)) (rest := st.map (tv g)) (g := F0 m pc ls ((As.reverse ++ .ref b :: st).map (tv g))) ⟨hx, hb, hml, hown, hts⟩ (hM n2 (Nat.le_refl _))
    (C := C) (index := ix) (n := As.length) ⟨callB_of As.length hts (good_ws w1) rfl rfl rfl (hts _ w2) (hts _ w5) w3 (room_ok hn hfr hlo w4), hts _ w6, hts _ w7⟩ ⟨FrameBlind.inv g _ M, hrecv, fun U hU hwm => ⟨rfl, by rw [hU]; exact hW, va_K.moved hwm.alike hK, hG.1 _ _ hwm hE, hG⟩⟩ rfl (by rw [List.length_map]) hlv.1 (by rw [List.map_append, List.map_reverse]; rfl) (cats_ok hst) hd ⟨hcs, hss⟩
  exact this
theorem ml_As_83 : WLk "java/lang/AbstractStringBuilder" 83 Y_As_isLatin1 0 12 "java/lang/StringBuilder" := ⟨yk_As_isLatin1, (tm5 50 rfl rfl), (tm5 51 rfl rfl), (tm5 53 rfl rfl), _, _, rfl⟩
end VRT

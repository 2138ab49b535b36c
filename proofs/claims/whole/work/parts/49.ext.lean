/-! ===== the script ===== -/
section SX
variable {g : Gl} {Y : Meth} {n pc : Nat} {lv : List (Option Value)} {st : List Value} {M : Mem} {Q : Option Value → Mem → Prop}
/-- the script lies outside: L ints xs -/
def ScrOK (g : Gl) (L : Nat) (xs : Nat → Int32) : Prop := (∀ U, gl_E g U → va_X (gl_ext g 0) L xs U (gl_H g)) ∧ gl_ext g 0 < gl_b g
theorem wp_sald {L k : Nat} {xs : Nat → Int32} {i : Int32} (hS : ScrOK g L xs) (hd : decode Y.2.1 pc = .ok (.iaload, 1)) (hi : ixk i L k) (kk : Wp g Y n (pc + 1) lv (.int (xs k) :: st) M Q) : Wp g Y n pc lv (.int i :: .retAddr 0 :: st) M Q := by
  refine wp_pure (fun p e R s m args below meth c H locs cells slots Q ls hF hlv hW k0 => ?_) kk
  obtain ⟨⟨hx, hb, -⟩, hown, hts, hK, hE, -⟩ := hF
  obtain ⟨scr, h1, h2, h3, h4, h5⟩ := hS.1 s hE
  refine W.iald (v := .int (xs k)) hx hb ((hW.2.1 _ hS.2).trans h1) h2 h3 (by rw [h4]; exact hi.inn) (by rw [hi.2.1]; exact h5 k hi.2.2) rfl rfl hd k0
theorem wp_slen {L : Nat} {xs : Nat → Int32} (hS : ScrOK g L xs) (hd : decode Y.2.1 pc = .ok (.arraylength, 1)) (kk : Wp g Y n (pc + 1) lv (.int (nI L) :: st) M Q) : Wp g Y n pc lv (.retAddr 0 :: st) M Q := by
  refine wp_pure (fun p e R s m args below meth c H locs cells slots Q ls hF hlv hW k0 => ?_) kk
  obtain ⟨⟨hx, hb, -⟩, hown, hts, hK, hE, -⟩ := hF
  obtain ⟨scr, h1, h2, h3, h4, h5⟩ := hS.1 s hE
  exact W.alen (n := nI L) hx hb ((hW.2.1 _ hS.2).trans h1) h2 (by rw [h4]; rfl) rfl rfl hd k0
end SX

/-! ===== the model at the start ===== -/
section MOI
def cF (f : Nat → Int32) : Cel := ((22, 131), 131, f, fun _ => 0, fun _ => none)
def WdP (k : Nat) (f : Nat → Int32) : Prop := ∀ j, j < k → f j = nI (wdA j)
section
variable {g : Gl} {Y : Meth} {n pc : Nat} {lv : List (Option Value)} {st : List Value} {M : Mem} {Q : Option Value → Mem → Prop}
theorem wp_wd {P : List Cel} {b k v : Nat} {f : Nat → Int32} (hb : P.length = b) (hd : decode Y.2.1 pc = .ok (.bastore, 1)) (hk : k < 131) (hv : wdA k = v ∧ v < 128) (hw : WdP k f) (kk : ∀ f2, WdP (k + 1) f2 → Wp g Y n (pc + 1) lv st (ofL (P ++ [cF f2])) Q) : Wp g Y n pc lv (.int (nI v) :: .int (nI k) :: .ref b :: st) (ofL (P ++ [cF f])) Q := by
  refine wp_bast (len := 131) (k := k) hd (ofL_T hb) (ixk_nI hk (by omega)) ?_
  rw [b8 hv.2, ofL_sI hb]
  refine kk (up1 f k (nI v)) (fun j hj => ?_)
  by_cases e : j = k
  · subst e; rw [up1_eq, hv.1]
  · rw [up1_ne e]; exact hw j (by omega)
end
variable {g : Gl} {M : Mem}
theorem ofL_zm {L S : List Cel} {o : Cel} {a m : Nat} (ha : L.length = a) (hs : S.length = m) : mZ (ofL (L ++ o :: S)) = a + (m + 1) := by
  rw [ofL_z ha, hs]
def moO0 : Cel := cN 11 0 (NF 11)
def moS0 : List Cel := []
theorem moS0_len : moS0.length = 0 := rfl
theorem moO0_t : moO0.1 = (11, 0) := rfl
def moO1 : Cel := (cR (cR (cR (cR (cR (cR moO0 1 (some (1020 + 1))) 2 (some (1020 + 2))) 3 (some (1020 + 3))) 4 (some (1020 + 4))) 5 (some (1020 + 5))) 6 (some (1020 + 6)))
def moS1 : List Cel := ((((((moS0 ++ [cN 20 7 7]) ++ [cN 20 5995 5995]) ++ [cN 21 100 100]) ++ [cN 20 11990 11990]) ++ [cN 21 200 200]) ++ [cN 23 2 2])
theorem moS1_len : (moS1).length = 6 := by
  unfold moS1
  rw [List.length_append, List.length_append, List.length_append, List.length_append, List.length_append, List.length_append, moS0_len]; rfl
theorem moO1_t : moO1.1 = (11, 0) := moO0_t
def moO2 : Cel := (cR (cR moO1 7 (some (1020 + 7))) 8 (some (1020 + 8)))
def moS2 : List Cel := ((moS1 ++ [cN 20 738 738]) ++ [cN 21 200 200])
theorem moS2_len : (moS2).length = 8 := by
  unfold moS2
  rw [List.length_append, List.length_append, moS1_len]; rfl
theorem moO2_t : moO2.1 = (11, 0) := moO1_t
def moO3 : Cel := cR moO2 10 (some (1020 + 9))
def moS3 (f : Nat → Int32) : List Cel := moS2 ++ [cF f]
theorem moS3_len (f : Nat → Int32) : (moS3 f).length = 9 := by
  unfold moS3
  rw [List.length_append, moS2_len]; rfl
theorem moS3_tg (f f2 : Nat → Int32) : (moS3 f).map Prod.fst = (moS3 f2).map Prod.fst := by
  unfold moS3
  simp only [List.map_append]
  rfl
theorem moO3_t : moO3.1 = (11, 0) := moO2_t
def moO4 : Cel := (cR (cR (cR (cI (cR (cR moO3 14 (some (1020 + 10))) 15 (some (1020 + 11))) 17 ((-1))) 18 (some (1020 + 12))) 19 (some (1020 + 13))) 20 (some (1020 + 14)))
def moS4 (f : Nat → Int32) : List Cel := ((((((moS3 f) ++ [cN 22 400 400]) ++ [cN 20 5 5]) ++ [cN 20 401 401]) ++ [cN 20 401 401]) ++ [cN 20 401 401])
theorem moS4_len (f : Nat → Int32) : (moS4 f).length = 14 := by
  unfold moS4
  rw [List.length_append, List.length_append, List.length_append, List.length_append, List.length_append, moS3_len]; rfl
theorem moS4_tg (f f2 : Nat → Int32) : (moS4 f).map Prod.fst = (moS4 f2).map Prod.fst := by
  unfold moS4
  simp only [List.map_append]
  rw [moS3_tg f f2]
theorem moO4_t : moO4.1 = (11, 0) := moO3_t
def moO5 : Cel := (cR (cR (cR (cR (cR (cR moO4 29 (some (1020 + 15))) 32 (some (1020 + 16))) 33 (some (1020 + 17))) 34 (some (1020 + 18))) 35 (some (1020 + 19))) 37 (some (1020 + 20)))
def moS5 (f : Nat → Int32) : List Cel := (((((((moS4 f) ++ [cN 20 6 6]) ++ [cN 20 5920 5920]) ++ [cN 21 1600 1600]) ++ [cN 20 5920 5920]) ++ [cN 21 1600 1600]) ++ [cN 20 100 100])
theorem moS5_len (f : Nat → Int32) : (moS5 f).length = 20 := by
  unfold moS5
  rw [List.length_append, List.length_append, List.length_append, List.length_append, List.length_append, List.length_append, moS4_len]; rfl
theorem moS5_tg (f f2 : Nat → Int32) : (moS5 f).map Prod.fst = (moS5 f2).map Prod.fst := by
  unfold moS5
  simp only [List.map_append]
  rw [moS4_tg f f2]
theorem moO5_t : moO5.1 = (11, 0) := moO4_t
def moO6 : Cel := (cR (cR (cR (cR (cR (cR moO5 38 (some (1020 + 21))) 39 (some (1020 + 22))) 40 (some (1020 + 23))) 41 (some (1020 + 24))) 43 (some (1020 + 25))) 46 (some (1020 + 26)))
def moS6 (f : Nat → Int32) : List Cel := (((((((moS5 f) ++ [cN 20 100 100]) ++ [cN 20 4 4]) ++ [cN 22 400 400]) ++ [cN 22 12 12]) ++ [cN 20 4 4]) ++ [cN 20 245 245])
theorem moS6_len (f : Nat → Int32) : (moS6 f).length = 26 := by
  unfold moS6
  rw [List.length_append, List.length_append, List.length_append, List.length_append, List.length_append, List.length_append, moS5_len]; rfl
theorem moS6_tg (f f2 : Nat → Int32) : (moS6 f).map Prod.fst = (moS6 f2).map Prod.fst := by
  unfold moS6
  simp only [List.map_append]
  rw [moS5_tg f f2]
theorem moO6_t : moO6.1 = (11, 0) := moO5_t
def moO7 : Cel := (cR (cR (cR (cR (cR (cR moO6 47 (some (1020 + 27))) 48 (some (1020 + 28))) 49 (some (1020 + 29))) 50 (some (1020 + 30))) 51 (some (1020 + 31))) 52 (some (1020 + 32)))
def moS7 (f : Nat → Int32) : List Cel := (((((((moS6 f) ++ [cN 20 32 32]) ++ [cN 20 32 32]) ++ [cN 20 32 32]) ++ [cN 21 25 25]) ++ [cN 20 800 800]) ++ [cN 20 25 25])
theorem moS7_len (f : Nat → Int32) : (moS7 f).length = 32 := by
  unfold moS7
  rw [List.length_append, List.length_append, List.length_append, List.length_append, List.length_append, List.length_append, moS6_len]; rfl
theorem moS7_tg (f f2 : Nat → Int32) : (moS7 f).map Prod.fst = (moS7 f2).map Prod.fst := by
  unfold moS7
  simp only [List.map_append]
  rw [moS6_tg f f2]
theorem moO7_t : moO7.1 = (11, 0) := moO6_t
def moO8 : Cel := (cR (cR (cI (cR moO7 53 (some (1020 + 33))) 54 ((-1))) 60 (some (1020 + 34))) 61 (some (1020 + 35)))
def moS8 (f : Nat → Int32) : List Cel := ((((moS7 f) ++ [cN 21 21 21]) ++ [cN 21 3 3]) ++ [cN 20 100 100])
theorem moS8_len (f : Nat → Int32) : (moS8 f).length = 35 := by
  unfold moS8
  rw [List.length_append, List.length_append, List.length_append, moS7_len]; rfl
theorem moS8_tg (f f2 : Nat → Int32) : (moS8 f).map Prod.fst = (moS8 f2).map Prod.fst := by
  unfold moS8
  simp only [List.map_append]
  rw [moS7_tg f f2]
theorem moO8_t : moO8.1 = (11, 0) := moO7_t
abbrev moO : Cel := moO8
def moC (f : Nat → Int32) : List Cel := moO8 :: moS8 f
theorem gdR {L C : List Cel} {a i : Nat} (ha : L.length = a) : (L ++ C).getD (a + i) cD = C.getD i cD := by
  subst ha
  rw [List.getD_eq_getElem?_getD, List.getD_eq_getElem?_getD, List.getElem?_append_right (Nat.le_add_right _ _), Nat.add_sub_cancel_left]
theorem mo_R : ∀ q ∈ moF, moO.2.2.2.2 q.1 = some (1020 + q.2.1) := by decide +kernel
theorem mo_tags (f : Nat → Int32) : (moC f).map Prod.fst = (moC (fun _ => 0)).map Prod.fst := by
  unfold moC
  rw [List.map_cons, List.map_cons, moS8_tg f (fun _ => 0)]
theorem mo_T0 : ∀ q ∈ moF, ((moC (fun _ => 0)).map Prod.fst)[q.2.1]? = some (q.2.2.1, q.2.2.2) := by decide +kernel
theorem mo_T (f : Nat → Int32) {q : Nat × Nat × Nat × Nat} (hq : q ∈ moF) : ((moC f).getD q.2.1 cD).1 = (q.2.2.1, q.2.2.2) := by
  have h := mo_T0 q hq
  rw [← mo_tags f, List.getElem?_map] at h
  rw [List.getD_eq_getElem?_getD]
  cases e : (moC f)[q.2.1]? with
  | none => rw [e] at h; cases h
  | some c => rw [e] at h; exact Option.some.inj h
theorem mo_at {L : List Cel} (f : Nat → Int32) (ha : L.length = 1020) : MoAt (mT (ofL (L ++ moC f))) (mR (ofL (L ++ moC f))) 1020 := by
  refine ⟨ofL_T (o := moO) ha, fun q hq => ⟨?_, ?_⟩⟩
  · rw [show mR (ofL (L ++ moC f)) 1020 = moO.2.2.2.2 from ofL_R (o := moO) ha]
    exact mo_R q hq
  · show ((L ++ moC f).getD (1020 + q.2.1) cD).1 = _
    rw [gdR ha]; exact mo_T f hq
theorem mo_w0 {P : List Cel} {b : Nat} {Q : Option Value → Mem → Prop} (hb : P.length = b) {f : Nat → Int32} (hw : WdP 0 f) (Kc : ∀ f2, WdP 22 f2 → Wp g Y_Mo_init 2 204 [some (.ref 1020)] [.ref b, .ref 1020] (ofL (P ++ [cF f2])) Q) : Wp g Y_Mo_init 2 78 [some (.ref 1020)] [.ref b, .ref 1020] (ofL (P ++ [cF f])) Q := by
  refine wp_dup rfl (ck_get kk_Mo_init_0 37 rfl) ?_
  refine wp_iconst (v := nI 0) (by decide) (ck_get kk_Mo_init_0 38 rfl) ?_
  refine wp_bipush (v := nI 99) (by decide) (ck_get kk_Mo_init_0 39 rfl) ?_
  refine wp_wd (v := 99) hb (ck_get kk_Mo_init_1 0 rfl) (by decide) (by decide) hw ?_
  clear hw
  intro f hw
  refine wp_dup rfl (ck_get kk_Mo_init_1 1 rfl) ?_
  refine wp_iconst (v := nI 1) (by decide) (ck_get kk_Mo_init_1 2 rfl) ?_
  refine wp_bipush (v := nI 111) (by decide) (ck_get kk_Mo_init_1 3 rfl) ?_
  refine wp_wd (v := 111) hb (ck_get kk_Mo_init_1 4 rfl) (by decide) (by decide) hw ?_
  clear hw
  intro f hw
  refine wp_dup rfl (ck_get kk_Mo_init_1 5 rfl) ?_
  refine wp_iconst (v := nI 2) (by decide) (ck_get kk_Mo_init_1 6 rfl) ?_
  refine wp_bipush (v := nI 115) (by decide) (ck_get kk_Mo_init_1 7 rfl) ?_
  refine wp_wd (v := 115) hb (ck_get kk_Mo_init_1 8 rfl) (by decide) (by decide) hw ?_
  clear hw
  intro f hw
  refine wp_dup rfl (ck_get kk_Mo_init_1 9 rfl) ?_
  refine wp_iconst (v := nI 3) (by decide) (ck_get kk_Mo_init_1 10 rfl) ?_
  refine wp_bipush (v := nI 116) (by decide) (ck_get kk_Mo_init_1 11 rfl) ?_
  refine wp_wd (v := 116) hb (ck_get kk_Mo_init_1 12 rfl) (by decide) (by decide) hw ?_
  clear hw
  intro f hw
  refine wp_dup rfl (ck_get kk_Mo_init_1 13 rfl) ?_
  refine wp_iconst (v := nI 4) (by decide) (ck_get kk_Mo_init_1 14 rfl) ?_
  refine wp_bipush (v := nI 115) (by decide) (ck_get kk_Mo_init_1 15 rfl) ?_
  refine wp_wd (v := 115) hb (ck_get kk_Mo_init_1 16 rfl) (by decide) (by decide) hw ?_
  clear hw
  intro f hw
  refine wp_dup rfl (ck_get kk_Mo_init_1 17 rfl) ?_
  refine wp_iconst (v := nI 5) (by decide) (ck_get kk_Mo_init_1 18 rfl) ?_
  refine wp_bipush (v := nI 32) (by decide) (ck_get kk_Mo_init_1 19 rfl) ?_
  refine wp_wd (v := 32) hb (ck_get kk_Mo_init_1 20 rfl) (by decide) (by decide) hw ?_
  clear hw
  intro f hw
  refine wp_dup rfl (ck_get kk_Mo_init_1 21 rfl) ?_
  refine wp_bipush (v := nI 6) (by decide) (ck_get kk_Mo_init_1 22 rfl) ?_
  refine wp_bipush (v := nI 98) (by decide) (ck_get kk_Mo_init_1 23 rfl) ?_
  refine wp_wd (v := 98) hb (ck_get kk_Mo_init_1 24 rfl) (by decide) (by decide) hw ?_
  clear hw
  intro f hw
  refine wp_dup rfl (ck_get kk_Mo_init_1 25 rfl) ?_
  refine wp_bipush (v := nI 7) (by decide) (ck_get kk_Mo_init_1 26 rfl) ?_
  refine wp_bipush (v := nI 97) (by decide) (ck_get kk_Mo_init_1 27 rfl) ?_
  refine wp_wd (v := 97) hb (ck_get kk_Mo_init_1 28 rfl) (by decide) (by decide) hw ?_
  clear hw
  intro f hw
  refine wp_dup rfl (ck_get kk_Mo_init_1 29 rfl) ?_
  refine wp_bipush (v := nI 8) (by decide) (ck_get kk_Mo_init_1 30 rfl) ?_
  refine wp_bipush (v := nI 114) (by decide) (ck_get kk_Mo_init_1 31 rfl) ?_
  refine wp_wd (v := 114) hb (ck_get kk_Mo_init_1 32 rfl) (by decide) (by decide) hw ?_
  clear hw
  intro f hw
  refine wp_dup rfl (ck_get kk_Mo_init_1 33 rfl) ?_
  refine wp_bipush (v := nI 9) (by decide) (ck_get kk_Mo_init_1 34 rfl) ?_
  refine wp_bipush (v := nI 115) (by decide) (ck_get kk_Mo_init_1 35 rfl) ?_
  refine wp_wd (v := 115) hb (ck_get kk_Mo_init_1 36 rfl) (by decide) (by decide) hw ?_
  clear hw
  intro f hw
  refine wp_dup rfl (ck_get kk_Mo_init_1 37 rfl) ?_
  refine wp_bipush (v := nI 10) (by decide) (ck_get kk_Mo_init_1 38 rfl) ?_
  refine wp_bipush (v := nI 32) (by decide) (ck_get kk_Mo_init_1 39 rfl) ?_
  refine wp_wd (v := 32) hb (ck_get kk_Mo_init_2 0 rfl) (by decide) (by decide) hw ?_
  clear hw
  intro f hw
  refine wp_dup rfl (ck_get kk_Mo_init_2 1 rfl) ?_
  refine wp_bipush (v := nI 11) (by decide) (ck_get kk_Mo_init_2 2 rfl) ?_
  refine wp_bipush (v := nI 105) (by decide) (ck_get kk_Mo_init_2 3 rfl) ?_
  refine wp_wd (v := 105) hb (ck_get kk_Mo_init_2 4 rfl) (by decide) (by decide) hw ?_
  clear hw
  intro f hw
  refine wp_dup rfl (ck_get kk_Mo_init_2 5 rfl) ?_
  refine wp_bipush (v := nI 12) (by decide) (ck_get kk_Mo_init_2 6 rfl) ?_
  refine wp_bipush (v := nI 102) (by decide) (ck_get kk_Mo_init_2 7 rfl) ?_
  refine wp_wd (v := 102) hb (ck_get kk_Mo_init_2 8 rfl) (by decide) (by decide) hw ?_
  clear hw
  intro f hw
  refine wp_dup rfl (ck_get kk_Mo_init_2 9 rfl) ?_
  refine wp_bipush (v := nI 13) (by decide) (ck_get kk_Mo_init_2 10 rfl) ?_
  refine wp_bipush (v := nI 32) (by decide) (ck_get kk_Mo_init_2 11 rfl) ?_
  refine wp_wd (v := 32) hb (ck_get kk_Mo_init_2 12 rfl) (by decide) (by decide) hw ?_
  clear hw
  intro f hw
  refine wp_dup rfl (ck_get kk_Mo_init_2 13 rfl) ?_
  refine wp_bipush (v := nI 14) (by decide) (ck_get kk_Mo_init_2 14 rfl) ?_
  refine wp_bipush (v := nI 111) (by decide) (ck_get kk_Mo_init_2 15 rfl) ?_
  refine wp_wd (v := 111) hb (ck_get kk_Mo_init_2 16 rfl) (by decide) (by decide) hw ?_
  clear hw
  intro f hw
  refine wp_dup rfl (ck_get kk_Mo_init_2 17 rfl) ?_
  refine wp_bipush (v := nI 15) (by decide) (ck_get kk_Mo_init_2 18 rfl) ?_
  refine wp_bipush (v := nI 114) (by decide) (ck_get kk_Mo_init_2 19 rfl) ?_
  refine wp_wd (v := 114) hb (ck_get kk_Mo_init_2 20 rfl) (by decide) (by decide) hw ?_
  clear hw
  intro f hw
  refine wp_dup rfl (ck_get kk_Mo_init_2 21 rfl) ?_
  refine wp_bipush (v := nI 16) (by decide) (ck_get kk_Mo_init_2 22 rfl) ?_
  refine wp_bipush (v := nI 32) (by decide) (ck_get kk_Mo_init_2 23 rfl) ?_
  refine wp_wd (v := 32) hb (ck_get kk_Mo_init_2 24 rfl) (by decide) (by decide) hw ?_
  clear hw
  intro f hw
  refine wp_dup rfl (ck_get kk_Mo_init_2 25 rfl) ?_
  refine wp_bipush (v := nI 17) (by decide) (ck_get kk_Mo_init_2 26 rfl) ?_
  refine wp_bipush (v := nI 97) (by decide) (ck_get kk_Mo_init_2 27 rfl) ?_
  refine wp_wd (v := 97) hb (ck_get kk_Mo_init_2 28 rfl) (by decide) (by decide) hw ?_
  clear hw
  intro f hw
  refine wp_dup rfl (ck_get kk_Mo_init_2 29 rfl) ?_
  refine wp_bipush (v := nI 18) (by decide) (ck_get kk_Mo_init_2 30 rfl) ?_
  refine wp_bipush (v := nI 110) (by decide) (ck_get kk_Mo_init_2 31 rfl) ?_
  refine wp_wd (v := 110) hb (ck_get kk_Mo_init_2 32 rfl) (by decide) (by decide) hw ?_
  clear hw
  intro f hw
  refine wp_dup rfl (ck_get kk_Mo_init_2 33 rfl) ?_
  refine wp_bipush (v := nI 19) (by decide) (ck_get kk_Mo_init_2 34 rfl) ?_
  refine wp_bipush (v := nI 100) (by decide) (ck_get kk_Mo_init_2 35 rfl) ?_
  refine wp_wd (v := 100) hb (ck_get kk_Mo_init_2 36 rfl) (by decide) (by decide) hw ?_
  clear hw
  intro f hw
  refine wp_dup rfl (ck_get kk_Mo_init_2 37 rfl) ?_
  refine wp_bipush (v := nI 20) (by decide) (ck_get kk_Mo_init_2 38 rfl) ?_
  refine wp_bipush (v := nI 32) (by decide) (ck_get kk_Mo_init_2 39 rfl) ?_
  refine wp_wd (v := 32) hb (ck_get kk_Mo_init_3 0 rfl) (by decide) (by decide) hw ?_
  clear hw
  intro f hw
  refine wp_dup rfl (ck_get kk_Mo_init_3 1 rfl) ?_
  refine wp_bipush (v := nI 21) (by decide) (ck_get kk_Mo_init_3 2 rfl) ?_
  refine wp_bipush (v := nI 110) (by decide) (ck_get kk_Mo_init_3 3 rfl) ?_
  refine wp_wd (v := 110) hb (ck_get kk_Mo_init_3 4 rfl) (by decide) (by decide) hw ?_
  clear hw
  intro f hw
  exact Kc _ hw
theorem mo_w1 {P : List Cel} {b : Nat} {Q : Option Value → Mem → Prop} (hb : P.length = b) {f : Nat → Int32} (hw : WdP 22 f) (Kc : ∀ f2, WdP 44 f2 → Wp g Y_Mo_init 2 336 [some (.ref 1020)] [.ref b, .ref 1020] (ofL (P ++ [cF f2])) Q) : Wp g Y_Mo_init 2 204 [some (.ref 1020)] [.ref b, .ref 1020] (ofL (P ++ [cF f])) Q := by
  refine wp_dup rfl (ck_get kk_Mo_init_3 5 rfl) ?_
  refine wp_bipush (v := nI 22) (by decide) (ck_get kk_Mo_init_3 6 rfl) ?_
  refine wp_bipush (v := nI 111) (by decide) (ck_get kk_Mo_init_3 7 rfl) ?_
  refine wp_wd (v := 111) hb (ck_get kk_Mo_init_3 8 rfl) (by decide) (by decide) hw ?_
  clear hw
  intro f hw
  refine wp_dup rfl (ck_get kk_Mo_init_3 9 rfl) ?_
  refine wp_bipush (v := nI 23) (by decide) (ck_get kk_Mo_init_3 10 rfl) ?_
  refine wp_bipush (v := nI 116) (by decide) (ck_get kk_Mo_init_3 11 rfl) ?_
  refine wp_wd (v := 116) hb (ck_get kk_Mo_init_3 12 rfl) (by decide) (by decide) hw ?_
  clear hw
  intro f hw
  refine wp_dup rfl (ck_get kk_Mo_init_3 13 rfl) ?_
  refine wp_bipush (v := nI 24) (by decide) (ck_get kk_Mo_init_3 14 rfl) ?_
  refine wp_bipush (v := nI 32) (by decide) (ck_get kk_Mo_init_3 15 rfl) ?_
  refine wp_wd (v := 32) hb (ck_get kk_Mo_init_3 16 rfl) (by decide) (by decide) hw ?_
  clear hw
  intro f hw
  refine wp_dup rfl (ck_get kk_Mo_init_3 17 rfl) ?_
  refine wp_bipush (v := nI 25) (by decide) (ck_get kk_Mo_init_3 18 rfl) ?_
  refine wp_bipush (v := nI 116) (by decide) (ck_get kk_Mo_init_3 19 rfl) ?_
  refine wp_wd (v := 116) hb (ck_get kk_Mo_init_3 20 rfl) (by decide) (by decide) hw ?_
  clear hw
  intro f hw
  refine wp_dup rfl (ck_get kk_Mo_init_3 21 rfl) ?_
  refine wp_bipush (v := nI 26) (by decide) (ck_get kk_Mo_init_3 22 rfl) ?_
  refine wp_bipush (v := nI 101) (by decide) (ck_get kk_Mo_init_3 23 rfl) ?_
  refine wp_wd (v := 101) hb (ck_get kk_Mo_init_3 24 rfl) (by decide) (by decide) hw ?_
  clear hw
  intro f hw
  refine wp_dup rfl (ck_get kk_Mo_init_3 25 rfl) ?_
  refine wp_bipush (v := nI 27) (by decide) (ck_get kk_Mo_init_3 26 rfl) ?_
  refine wp_bipush (v := nI 110) (by decide) (ck_get kk_Mo_init_3 27 rfl) ?_
  refine wp_wd (v := 110) hb (ck_get kk_Mo_init_3 28 rfl) (by decide) (by decide) hw ?_
  clear hw
  intro f hw
  refine wp_dup rfl (ck_get kk_Mo_init_3 29 rfl) ?_
  refine wp_bipush (v := nI 28) (by decide) (ck_get kk_Mo_init_3 30 rfl) ?_
  refine wp_bipush (v := nI 97) (by decide) (ck_get kk_Mo_init_3 31 rfl) ?_
  refine wp_wd (v := 97) hb (ck_get kk_Mo_init_3 32 rfl) (by decide) (by decide) hw ?_
  clear hw
  intro f hw
  refine wp_dup rfl (ck_get kk_Mo_init_3 33 rfl) ?_
  refine wp_bipush (v := nI 29) (by decide) (ck_get kk_Mo_init_3 34 rfl) ?_
  refine wp_bipush (v := nI 110) (by decide) (ck_get kk_Mo_init_3 35 rfl) ?_
  refine wp_wd (v := 110) hb (ck_get kk_Mo_init_3 36 rfl) (by decide) (by decide) hw ?_
  clear hw
  intro f hw
  refine wp_dup rfl (ck_get kk_Mo_init_3 37 rfl) ?_
  refine wp_bipush (v := nI 30) (by decide) (ck_get kk_Mo_init_3 38 rfl) ?_
  refine wp_bipush (v := nI 116) (by decide) (ck_get kk_Mo_init_3 39 rfl) ?_
  refine wp_wd (v := 116) hb (ck_get kk_Mo_init_4 0 rfl) (by decide) (by decide) hw ?_
  clear hw
  intro f hw
  refine wp_dup rfl (ck_get kk_Mo_init_4 1 rfl) ?_
  refine wp_bipush (v := nI 31) (by decide) (ck_get kk_Mo_init_4 2 rfl) ?_
  refine wp_bipush (v := nI 32) (by decide) (ck_get kk_Mo_init_4 3 rfl) ?_
  refine wp_wd (v := 32) hb (ck_get kk_Mo_init_4 4 rfl) (by decide) (by decide) hw ?_
  clear hw
  intro f hw
  refine wp_dup rfl (ck_get kk_Mo_init_4 5 rfl) ?_
  refine wp_bipush (v := nI 32) (by decide) (ck_get kk_Mo_init_4 6 rfl) ?_
  refine wp_bipush (v := nI 107) (by decide) (ck_get kk_Mo_init_4 7 rfl) ?_
  refine wp_wd (v := 107) hb (ck_get kk_Mo_init_4 8 rfl) (by decide) (by decide) hw ?_
  clear hw
  intro f hw
  refine wp_dup rfl (ck_get kk_Mo_init_4 9 rfl) ?_
  refine wp_bipush (v := nI 33) (by decide) (ck_get kk_Mo_init_4 10 rfl) ?_
  refine wp_bipush (v := nI 101) (by decide) (ck_get kk_Mo_init_4 11 rfl) ?_
  refine wp_wd (v := 101) hb (ck_get kk_Mo_init_4 12 rfl) (by decide) (by decide) hw ?_
  clear hw
  intro f hw
  refine wp_dup rfl (ck_get kk_Mo_init_4 13 rfl) ?_
  refine wp_bipush (v := nI 34) (by decide) (ck_get kk_Mo_init_4 14 rfl) ?_
  refine wp_bipush (v := nI 121) (by decide) (ck_get kk_Mo_init_4 15 rfl) ?_
  refine wp_wd (v := 121) hb (ck_get kk_Mo_init_4 16 rfl) (by decide) (by decide) hw ?_
  clear hw
  intro f hw
  refine wp_dup rfl (ck_get kk_Mo_init_4 17 rfl) ?_
  refine wp_bipush (v := nI 35) (by decide) (ck_get kk_Mo_init_4 18 rfl) ?_
  refine wp_bipush (v := nI 32) (by decide) (ck_get kk_Mo_init_4 19 rfl) ?_
  refine wp_wd (v := 32) hb (ck_get kk_Mo_init_4 20 rfl) (by decide) (by decide) hw ?_
  clear hw
  intro f hw
  refine wp_dup rfl (ck_get kk_Mo_init_4 21 rfl) ?_
  refine wp_bipush (v := nI 36) (by decide) (ck_get kk_Mo_init_4 22 rfl) ?_
  refine wp_bipush (v := nI 114) (by decide) (ck_get kk_Mo_init_4 23 rfl) ?_
  refine wp_wd (v := 114) hb (ck_get kk_Mo_init_4 24 rfl) (by decide) (by decide) hw ?_
  clear hw
  intro f hw
  refine wp_dup rfl (ck_get kk_Mo_init_4 25 rfl) ?_
  refine wp_bipush (v := nI 37) (by decide) (ck_get kk_Mo_init_4 26 rfl) ?_
  refine wp_bipush (v := nI 101) (by decide) (ck_get kk_Mo_init_4 27 rfl) ?_
  refine wp_wd (v := 101) hb (ck_get kk_Mo_init_4 28 rfl) (by decide) (by decide) hw ?_
  clear hw
  intro f hw
  refine wp_dup rfl (ck_get kk_Mo_init_4 29 rfl) ?_
  refine wp_bipush (v := nI 38) (by decide) (ck_get kk_Mo_init_4 30 rfl) ?_
  refine wp_bipush (v := nI 97) (by decide) (ck_get kk_Mo_init_4 31 rfl) ?_
  refine wp_wd (v := 97) hb (ck_get kk_Mo_init_4 32 rfl) (by decide) (by decide) hw ?_
  clear hw
  intro f hw
  refine wp_dup rfl (ck_get kk_Mo_init_4 33 rfl) ?_
  refine wp_bipush (v := nI 39) (by decide) (ck_get kk_Mo_init_4 34 rfl) ?_
  refine wp_bipush (v := nI 100) (by decide) (ck_get kk_Mo_init_4 35 rfl) ?_
  refine wp_wd (v := 100) hb (ck_get kk_Mo_init_4 36 rfl) (by decide) (by decide) hw ?_
  clear hw
  intro f hw
  refine wp_dup rfl (ck_get kk_Mo_init_4 37 rfl) ?_
  refine wp_bipush (v := nI 40) (by decide) (ck_get kk_Mo_init_4 38 rfl) ?_
  refine wp_bipush (v := nI 115) (by decide) (ck_get kk_Mo_init_4 39 rfl) ?_
  refine wp_wd (v := 115) hb (ck_get kk_Mo_init_5 0 rfl) (by decide) (by decide) hw ?_
  clear hw
  intro f hw
  refine wp_dup rfl (ck_get kk_Mo_init_5 1 rfl) ?_
  refine wp_bipush (v := nI 41) (by decide) (ck_get kk_Mo_init_5 2 rfl) ?_
  refine wp_bipush (v := nI 32) (by decide) (ck_get kk_Mo_init_5 3 rfl) ?_
  refine wp_wd (v := 32) hb (ck_get kk_Mo_init_5 4 rfl) (by decide) (by decide) hw ?_
  clear hw
  intro f hw
  refine wp_dup rfl (ck_get kk_Mo_init_5 5 rfl) ?_
  refine wp_bipush (v := nI 42) (by decide) (ck_get kk_Mo_init_5 6 rfl) ?_
  refine wp_bipush (v := nI 102) (by decide) (ck_get kk_Mo_init_5 7 rfl) ?_
  refine wp_wd (v := 102) hb (ck_get kk_Mo_init_5 8 rfl) (by decide) (by decide) hw ?_
  clear hw
  intro f hw
  refine wp_dup rfl (ck_get kk_Mo_init_5 9 rfl) ?_
  refine wp_bipush (v := nI 43) (by decide) (ck_get kk_Mo_init_5 10 rfl) ?_
  refine wp_bipush (v := nI 97) (by decide) (ck_get kk_Mo_init_5 11 rfl) ?_
  refine wp_wd (v := 97) hb (ck_get kk_Mo_init_5 12 rfl) (by decide) (by decide) hw ?_
  clear hw
  intro f hw
  exact Kc _ hw
theorem mo_w2 {P : List Cel} {b : Nat} {Q : Option Value → Mem → Prop} (hb : P.length = b) {f : Nat → Int32} (hw : WdP 44 f) (Kc : ∀ f2, WdP 66 f2 → Wp g Y_Mo_init 2 468 [some (.ref 1020)] [.ref b, .ref 1020] (ofL (P ++ [cF f2])) Q) : Wp g Y_Mo_init 2 336 [some (.ref 1020)] [.ref b, .ref 1020] (ofL (P ++ [cF f])) Q := by
  refine wp_dup rfl (ck_get kk_Mo_init_5 13 rfl) ?_
  refine wp_bipush (v := nI 44) (by decide) (ck_get kk_Mo_init_5 14 rfl) ?_
  refine wp_bipush (v := nI 114) (by decide) (ck_get kk_Mo_init_5 15 rfl) ?_
  refine wp_wd (v := 114) hb (ck_get kk_Mo_init_5 16 rfl) (by decide) (by decide) hw ?_
  clear hw
  intro f hw
  refine wp_dup rfl (ck_get kk_Mo_init_5 17 rfl) ?_
  refine wp_bipush (v := nI 45) (by decide) (ck_get kk_Mo_init_5 18 rfl) ?_
  refine wp_bipush (v := nI 32) (by decide) (ck_get kk_Mo_init_5 19 rfl) ?_
  refine wp_wd (v := 32) hb (ck_get kk_Mo_init_5 20 rfl) (by decide) (by decide) hw ?_
  clear hw
  intro f hw
  refine wp_dup rfl (ck_get kk_Mo_init_5 21 rfl) ?_
  refine wp_bipush (v := nI 46) (by decide) (ck_get kk_Mo_init_5 22 rfl) ?_
  refine wp_bipush (v := nI 109) (by decide) (ck_get kk_Mo_init_5 23 rfl) ?_
  refine wp_wd (v := 109) hb (ck_get kk_Mo_init_5 24 rfl) (by decide) (by decide) hw ?_
  clear hw
  intro f hw
  refine wp_dup rfl (ck_get kk_Mo_init_5 25 rfl) ?_
  refine wp_bipush (v := nI 47) (by decide) (ck_get kk_Mo_init_5 26 rfl) ?_
  refine wp_bipush (v := nI 111) (by decide) (ck_get kk_Mo_init_5 27 rfl) ?_
  refine wp_wd (v := 111) hb (ck_get kk_Mo_init_5 28 rfl) (by decide) (by decide) hw ?_
  clear hw
  intro f hw
  refine wp_dup rfl (ck_get kk_Mo_init_5 29 rfl) ?_
  refine wp_bipush (v := nI 48) (by decide) (ck_get kk_Mo_init_5 30 rfl) ?_
  refine wp_bipush (v := nI 111) (by decide) (ck_get kk_Mo_init_5 31 rfl) ?_
  refine wp_wd (v := 111) hb (ck_get kk_Mo_init_5 32 rfl) (by decide) (by decide) hw ?_
  clear hw
  intro f hw
  refine wp_dup rfl (ck_get kk_Mo_init_5 33 rfl) ?_
  refine wp_bipush (v := nI 49) (by decide) (ck_get kk_Mo_init_5 34 rfl) ?_
  refine wp_bipush (v := nI 100) (by decide) (ck_get kk_Mo_init_5 35 rfl) ?_
  refine wp_wd (v := 100) hb (ck_get kk_Mo_init_5 36 rfl) (by decide) (by decide) hw ?_
  clear hw
  intro f hw
  refine wp_dup rfl (ck_get kk_Mo_init_5 37 rfl) ?_
  refine wp_bipush (v := nI 50) (by decide) (ck_get kk_Mo_init_5 38 rfl) ?_
  refine wp_bipush (v := nI 32) (by decide) (ck_get kk_Mo_init_5 39 rfl) ?_
  refine wp_wd (v := 32) hb (ck_get kk_Mo_init_6 0 rfl) (by decide) (by decide) hw ?_
  clear hw
  intro f hw
  refine wp_dup rfl (ck_get kk_Mo_init_6 1 rfl) ?_
  refine wp_bipush (v := nI 51) (by decide) (ck_get kk_Mo_init_6 2 rfl) ?_
  refine wp_bipush (v := nI 116) (by decide) (ck_get kk_Mo_init_6 3 rfl) ?_
  refine wp_wd (v := 116) hb (ck_get kk_Mo_init_6 4 rfl) (by decide) (by decide) hw ?_
  clear hw
  intro f hw
  refine wp_dup rfl (ck_get kk_Mo_init_6 5 rfl) ?_
  refine wp_bipush (v := nI 52) (by decide) (ck_get kk_Mo_init_6 6 rfl) ?_
  refine wp_bipush (v := nI 105) (by decide) (ck_get kk_Mo_init_6 7 rfl) ?_
  refine wp_wd (v := 105) hb (ck_get kk_Mo_init_6 8 rfl) (by decide) (by decide) hw ?_
  clear hw
  intro f hw
  refine wp_dup rfl (ck_get kk_Mo_init_6 9 rfl) ?_
  refine wp_bipush (v := nI 53) (by decide) (ck_get kk_Mo_init_6 10 rfl) ?_
  refine wp_bipush (v := nI 109) (by decide) (ck_get kk_Mo_init_6 11 rfl) ?_
  refine wp_wd (v := 109) hb (ck_get kk_Mo_init_6 12 rfl) (by decide) (by decide) hw ?_
  clear hw
  intro f hw
  refine wp_dup rfl (ck_get kk_Mo_init_6 13 rfl) ?_
  refine wp_bipush (v := nI 54) (by decide) (ck_get kk_Mo_init_6 14 rfl) ?_
  refine wp_bipush (v := nI 101) (by decide) (ck_get kk_Mo_init_6 15 rfl) ?_
  refine wp_wd (v := 101) hb (ck_get kk_Mo_init_6 16 rfl) (by decide) (by decide) hw ?_
  clear hw
  intro f hw
  refine wp_dup rfl (ck_get kk_Mo_init_6 17 rfl) ?_
  refine wp_bipush (v := nI 55) (by decide) (ck_get kk_Mo_init_6 18 rfl) ?_
  refine wp_bipush (v := nI 32) (by decide) (ck_get kk_Mo_init_6 19 rfl) ?_
  refine wp_wd (v := 32) hb (ck_get kk_Mo_init_6 20 rfl) (by decide) (by decide) hw ?_
  clear hw
  intro f hw
  refine wp_dup rfl (ck_get kk_Mo_init_6 21 rfl) ?_
  refine wp_bipush (v := nI 56) (by decide) (ck_get kk_Mo_init_6 22 rfl) ?_
  refine wp_bipush (v := nI 100) (by decide) (ck_get kk_Mo_init_6 23 rfl) ?_
  refine wp_wd (v := 100) hb (ck_get kk_Mo_init_6 24 rfl) (by decide) (by decide) hw ?_
  clear hw
  intro f hw
  refine wp_dup rfl (ck_get kk_Mo_init_6 25 rfl) ?_
  refine wp_bipush (v := nI 57) (by decide) (ck_get kk_Mo_init_6 26 rfl) ?_
  refine wp_bipush (v := nI 111) (by decide) (ck_get kk_Mo_init_6 27 rfl) ?_
  refine wp_wd (v := 111) hb (ck_get kk_Mo_init_6 28 rfl) (by decide) (by decide) hw ?_
  clear hw
  intro f hw
  refine wp_dup rfl (ck_get kk_Mo_init_6 29 rfl) ?_
  refine wp_bipush (v := nI 58) (by decide) (ck_get kk_Mo_init_6 30 rfl) ?_
  refine wp_bipush (v := nI 110) (by decide) (ck_get kk_Mo_init_6 31 rfl) ?_
  refine wp_wd (v := 110) hb (ck_get kk_Mo_init_6 32 rfl) (by decide) (by decide) hw ?_
  clear hw
  intro f hw
  refine wp_dup rfl (ck_get kk_Mo_init_6 33 rfl) ?_
  refine wp_bipush (v := nI 59) (by decide) (ck_get kk_Mo_init_6 34 rfl) ?_
  refine wp_bipush (v := nI 101) (by decide) (ck_get kk_Mo_init_6 35 rfl) ?_
  refine wp_wd (v := 101) hb (ck_get kk_Mo_init_6 36 rfl) (by decide) (by decide) hw ?_
  clear hw
  intro f hw
  refine wp_dup rfl (ck_get kk_Mo_init_6 37 rfl) ?_
  refine wp_bipush (v := nI 60) (by decide) (ck_get kk_Mo_init_6 38 rfl) ?_
  refine wp_bipush (v := nI 32) (by decide) (ck_get kk_Mo_init_6 39 rfl) ?_
  refine wp_wd (v := 32) hb (ck_get kk_Mo_init_7 0 rfl) (by decide) (by decide) hw ?_
  clear hw
  intro f hw
  refine wp_dup rfl (ck_get kk_Mo_init_7 1 rfl) ?_
  refine wp_bipush (v := nI 61) (by decide) (ck_get kk_Mo_init_7 2 rfl) ?_
  refine wp_bipush (v := nI 108) (by decide) (ck_get kk_Mo_init_7 3 rfl) ?_
  refine wp_wd (v := 108) hb (ck_get kk_Mo_init_7 4 rfl) (by decide) (by decide) hw ?_
  clear hw
  intro f hw
  refine wp_dup rfl (ck_get kk_Mo_init_7 5 rfl) ?_
  refine wp_bipush (v := nI 62) (by decide) (ck_get kk_Mo_init_7 6 rfl) ?_
  refine wp_bipush (v := nI 97) (by decide) (ck_get kk_Mo_init_7 7 rfl) ?_
  refine wp_wd (v := 97) hb (ck_get kk_Mo_init_7 8 rfl) (by decide) (by decide) hw ?_
  clear hw
  intro f hw
  refine wp_dup rfl (ck_get kk_Mo_init_7 9 rfl) ?_
  refine wp_bipush (v := nI 63) (by decide) (ck_get kk_Mo_init_7 10 rfl) ?_
  refine wp_bipush (v := nI 116) (by decide) (ck_get kk_Mo_init_7 11 rfl) ?_
  refine wp_wd (v := 116) hb (ck_get kk_Mo_init_7 12 rfl) (by decide) (by decide) hw ?_
  clear hw
  intro f hw
  refine wp_dup rfl (ck_get kk_Mo_init_7 13 rfl) ?_
  refine wp_bipush (v := nI 64) (by decide) (ck_get kk_Mo_init_7 14 rfl) ?_
  refine wp_bipush (v := nI 101) (by decide) (ck_get kk_Mo_init_7 15 rfl) ?_
  refine wp_wd (v := 101) hb (ck_get kk_Mo_init_7 16 rfl) (by decide) (by decide) hw ?_
  clear hw
  intro f hw
  refine wp_dup rfl (ck_get kk_Mo_init_7 17 rfl) ?_
  refine wp_bipush (v := nI 65) (by decide) (ck_get kk_Mo_init_7 18 rfl) ?_
  refine wp_bipush (v := nI 115) (by decide) (ck_get kk_Mo_init_7 19 rfl) ?_
  refine wp_wd (v := 115) hb (ck_get kk_Mo_init_7 20 rfl) (by decide) (by decide) hw ?_
  clear hw
  intro f hw
  exact Kc _ hw
theorem mo_w3 {P : List Cel} {b : Nat} {Q : Option Value → Mem → Prop} (hb : P.length = b) {f : Nat → Int32} (hw : WdP 66 f) (Kc : ∀ f2, WdP 88 f2 → Wp g Y_Mo_init 2 600 [some (.ref 1020)] [.ref b, .ref 1020] (ofL (P ++ [cF f2])) Q) : Wp g Y_Mo_init 2 468 [some (.ref 1020)] [.ref b, .ref 1020] (ofL (P ++ [cF f])) Q := by
  refine wp_dup rfl (ck_get kk_Mo_init_7 21 rfl) ?_
  refine wp_bipush (v := nI 66) (by decide) (ck_get kk_Mo_init_7 22 rfl) ?_
  refine wp_bipush (v := nI 116) (by decide) (ck_get kk_Mo_init_7 23 rfl) ?_
  refine wp_wd (v := 116) hb (ck_get kk_Mo_init_7 24 rfl) (by decide) (by decide) hw ?_
  clear hw
  intro f hw
  refine wp_dup rfl (ck_get kk_Mo_init_7 25 rfl) ?_
  refine wp_bipush (v := nI 67) (by decide) (ck_get kk_Mo_init_7 26 rfl) ?_
  refine wp_bipush (v := nI 32) (by decide) (ck_get kk_Mo_init_7 27 rfl) ?_
  refine wp_wd (v := 32) hb (ck_get kk_Mo_init_7 28 rfl) (by decide) (by decide) hw ?_
  clear hw
  intro f hw
  refine wp_dup rfl (ck_get kk_Mo_init_7 29 rfl) ?_
  refine wp_bipush (v := nI 68) (by decide) (ck_get kk_Mo_init_7 30 rfl) ?_
  refine wp_bipush (v := nI 99) (by decide) (ck_get kk_Mo_init_7 31 rfl) ?_
  refine wp_wd (v := 99) hb (ck_get kk_Mo_init_7 32 rfl) (by decide) (by decide) hw ?_
  clear hw
  intro f hw
  refine wp_dup rfl (ck_get kk_Mo_init_7 33 rfl) ?_
  refine wp_bipush (v := nI 69) (by decide) (ck_get kk_Mo_init_7 34 rfl) ?_
  refine wp_bipush (v := nI 111) (by decide) (ck_get kk_Mo_init_7 35 rfl) ?_
  refine wp_wd (v := 111) hb (ck_get kk_Mo_init_7 36 rfl) (by decide) (by decide) hw ?_
  clear hw
  intro f hw
  refine wp_dup rfl (ck_get kk_Mo_init_7 37 rfl) ?_
  refine wp_bipush (v := nI 70) (by decide) (ck_get kk_Mo_init_7 38 rfl) ?_
  refine wp_bipush (v := nI 108) (by decide) (ck_get kk_Mo_init_7 39 rfl) ?_
  refine wp_wd (v := 108) hb (ck_get kk_Mo_init_8 0 rfl) (by decide) (by decide) hw ?_
  clear hw
  intro f hw
  refine wp_dup rfl (ck_get kk_Mo_init_8 1 rfl) ?_
  refine wp_bipush (v := nI 71) (by decide) (ck_get kk_Mo_init_8 2 rfl) ?_
  refine wp_bipush (v := nI 100) (by decide) (ck_get kk_Mo_init_8 3 rfl) ?_
  refine wp_wd (v := 100) hb (ck_get kk_Mo_init_8 4 rfl) (by decide) (by decide) hw ?_
  clear hw
  intro f hw
  refine wp_dup rfl (ck_get kk_Mo_init_8 5 rfl) ?_
  refine wp_bipush (v := nI 72) (by decide) (ck_get kk_Mo_init_8 6 rfl) ?_
  refine wp_bipush (v := nI 32) (by decide) (ck_get kk_Mo_init_8 7 rfl) ?_
  refine wp_wd (v := 32) hb (ck_get kk_Mo_init_8 8 rfl) (by decide) (by decide) hw ?_
  clear hw
  intro f hw
  refine wp_dup rfl (ck_get kk_Mo_init_8 9 rfl) ?_
  refine wp_bipush (v := nI 73) (by decide) (ck_get kk_Mo_init_8 10 rfl) ?_
  refine wp_bipush (v := nI 100) (by decide) (ck_get kk_Mo_init_8 11 rfl) ?_
  refine wp_wd (v := 100) hb (ck_get kk_Mo_init_8 12 rfl) (by decide) (by decide) hw ?_
  clear hw
  intro f hw
  refine wp_dup rfl (ck_get kk_Mo_init_8 13 rfl) ?_
  refine wp_bipush (v := nI 74) (by decide) (ck_get kk_Mo_init_8 14 rfl) ?_
  refine wp_bipush (v := nI 101) (by decide) (ck_get kk_Mo_init_8 15 rfl) ?_
  refine wp_wd (v := 101) hb (ck_get kk_Mo_init_8 16 rfl) (by decide) (by decide) hw ?_
  clear hw
  intro f hw
  refine wp_dup rfl (ck_get kk_Mo_init_8 17 rfl) ?_
  refine wp_bipush (v := nI 75) (by decide) (ck_get kk_Mo_init_8 18 rfl) ?_
  refine wp_bipush (v := nI 101) (by decide) (ck_get kk_Mo_init_8 19 rfl) ?_
  refine wp_wd (v := 101) hb (ck_get kk_Mo_init_8 20 rfl) (by decide) (by decide) hw ?_
  clear hw
  intro f hw
  refine wp_dup rfl (ck_get kk_Mo_init_8 21 rfl) ?_
  refine wp_bipush (v := nI 76) (by decide) (ck_get kk_Mo_init_8 22 rfl) ?_
  refine wp_bipush (v := nI 112) (by decide) (ck_get kk_Mo_init_8 23 rfl) ?_
  refine wp_wd (v := 112) hb (ck_get kk_Mo_init_8 24 rfl) (by decide) (by decide) hw ?_
  clear hw
  intro f hw
  refine wp_dup rfl (ck_get kk_Mo_init_8 25 rfl) ?_
  refine wp_bipush (v := nI 77) (by decide) (ck_get kk_Mo_init_8 26 rfl) ?_
  refine wp_bipush (v := nI 32) (by decide) (ck_get kk_Mo_init_8 27 rfl) ?_
  refine wp_wd (v := 32) hb (ck_get kk_Mo_init_8 28 rfl) (by decide) (by decide) hw ?_
  clear hw
  intro f hw
  refine wp_dup rfl (ck_get kk_Mo_init_8 29 rfl) ?_
  refine wp_bipush (v := nI 78) (by decide) (ck_get kk_Mo_init_8 30 rfl) ?_
  refine wp_bipush (v := nI 114) (by decide) (ck_get kk_Mo_init_8 31 rfl) ?_
  refine wp_wd (v := 114) hb (ck_get kk_Mo_init_8 32 rfl) (by decide) (by decide) hw ?_
  clear hw
  intro f hw
  refine wp_dup rfl (ck_get kk_Mo_init_8 33 rfl) ?_
  refine wp_bipush (v := nI 79) (by decide) (ck_get kk_Mo_init_8 34 rfl) ?_
  refine wp_bipush (v := nI 101) (by decide) (ck_get kk_Mo_init_8 35 rfl) ?_
  refine wp_wd (v := 101) hb (ck_get kk_Mo_init_8 36 rfl) (by decide) (by decide) hw ?_
  clear hw
  intro f hw
  refine wp_dup rfl (ck_get kk_Mo_init_8 37 rfl) ?_
  refine wp_bipush (v := nI 80) (by decide) (ck_get kk_Mo_init_8 38 rfl) ?_
  refine wp_bipush (v := nI 97) (by decide) (ck_get kk_Mo_init_8 39 rfl) ?_
  refine wp_wd (v := 97) hb (ck_get kk_Mo_init_9 0 rfl) (by decide) (by decide) hw ?_
  clear hw
  intro f hw
  refine wp_dup rfl (ck_get kk_Mo_init_9 1 rfl) ?_
  refine wp_bipush (v := nI 81) (by decide) (ck_get kk_Mo_init_9 2 rfl) ?_
  refine wp_bipush (v := nI 100) (by decide) (ck_get kk_Mo_init_9 3 rfl) ?_
  refine wp_wd (v := 100) hb (ck_get kk_Mo_init_9 4 rfl) (by decide) (by decide) hw ?_
  clear hw
  intro f hw
  refine wp_dup rfl (ck_get kk_Mo_init_9 5 rfl) ?_
  refine wp_bipush (v := nI 82) (by decide) (ck_get kk_Mo_init_9 6 rfl) ?_
  refine wp_bipush (v := nI 32) (by decide) (ck_get kk_Mo_init_9 7 rfl) ?_
  refine wp_wd (v := 32) hb (ck_get kk_Mo_init_9 8 rfl) (by decide) (by decide) hw ?_
  clear hw
  intro f hw
  refine wp_dup rfl (ck_get kk_Mo_init_9 9 rfl) ?_
  refine wp_bipush (v := nI 83) (by decide) (ck_get kk_Mo_init_9 10 rfl) ?_
  refine wp_bipush (v := nI 98) (by decide) (ck_get kk_Mo_init_9 11 rfl) ?_
  refine wp_wd (v := 98) hb (ck_get kk_Mo_init_9 12 rfl) (by decide) (by decide) hw ?_
  clear hw
  intro f hw
  refine wp_dup rfl (ck_get kk_Mo_init_9 13 rfl) ?_
  refine wp_bipush (v := nI 84) (by decide) (ck_get kk_Mo_init_9 14 rfl) ?_
  refine wp_bipush (v := nI 121) (by decide) (ck_get kk_Mo_init_9 15 rfl) ?_
  refine wp_wd (v := 121) hb (ck_get kk_Mo_init_9 16 rfl) (by decide) (by decide) hw ?_
  clear hw
  intro f hw
  refine wp_dup rfl (ck_get kk_Mo_init_9 17 rfl) ?_
  refine wp_bipush (v := nI 85) (by decide) (ck_get kk_Mo_init_9 18 rfl) ?_
  refine wp_bipush (v := nI 32) (by decide) (ck_get kk_Mo_init_9 19 rfl) ?_
  refine wp_wd (v := 32) hb (ck_get kk_Mo_init_9 20 rfl) (by decide) (by decide) hw ?_
  clear hw
  intro f hw
  refine wp_dup rfl (ck_get kk_Mo_init_9 21 rfl) ?_
  refine wp_bipush (v := nI 86) (by decide) (ck_get kk_Mo_init_9 22 rfl) ?_
  refine wp_bipush (v := nI 108) (by decide) (ck_get kk_Mo_init_9 23 rfl) ?_
  refine wp_wd (v := 108) hb (ck_get kk_Mo_init_9 24 rfl) (by decide) (by decide) hw ?_
  clear hw
  intro f hw
  refine wp_dup rfl (ck_get kk_Mo_init_9 25 rfl) ?_
  refine wp_bipush (v := nI 87) (by decide) (ck_get kk_Mo_init_9 26 rfl) ?_
  refine wp_bipush (v := nI 111) (by decide) (ck_get kk_Mo_init_9 27 rfl) ?_
  refine wp_wd (v := 111) hb (ck_get kk_Mo_init_9 28 rfl) (by decide) (by decide) hw ?_
  clear hw
  intro f hw
  exact Kc _ hw
theorem mo_w4 {P : List Cel} {b : Nat} {Q : Option Value → Mem → Prop} (hb : P.length = b) {f : Nat → Int32} (hw : WdP 88 f) (Kc : ∀ f2, WdP 110 f2 → Wp g Y_Mo_init 2 732 [some (.ref 1020)] [.ref b, .ref 1020] (ofL (P ++ [cF f2])) Q) : Wp g Y_Mo_init 2 600 [some (.ref 1020)] [.ref b, .ref 1020] (ofL (P ++ [cF f])) Q := by
  refine wp_dup rfl (ck_get kk_Mo_init_9 29 rfl) ?_
  refine wp_bipush (v := nI 88) (by decide) (ck_get kk_Mo_init_9 30 rfl) ?_
  refine wp_bipush (v := nI 111) (by decide) (ck_get kk_Mo_init_9 31 rfl) ?_
  refine wp_wd (v := 111) hb (ck_get kk_Mo_init_9 32 rfl) (by decide) (by decide) hw ?_
  clear hw
  intro f hw
  refine wp_dup rfl (ck_get kk_Mo_init_9 33 rfl) ?_
  refine wp_bipush (v := nI 89) (by decide) (ck_get kk_Mo_init_9 34 rfl) ?_
  refine wp_bipush (v := nI 112) (by decide) (ck_get kk_Mo_init_9 35 rfl) ?_
  refine wp_wd (v := 112) hb (ck_get kk_Mo_init_9 36 rfl) (by decide) (by decide) hw ?_
  clear hw
  intro f hw
  refine wp_dup rfl (ck_get kk_Mo_init_9 37 rfl) ?_
  refine wp_bipush (v := nI 90) (by decide) (ck_get kk_Mo_init_9 38 rfl) ?_
  refine wp_bipush (v := nI 32) (by decide) (ck_get kk_Mo_init_9 39 rfl) ?_
  refine wp_wd (v := 32) hb (ck_get kk_Mo_init_10 0 rfl) (by decide) (by decide) hw ?_
  clear hw
  intro f hw
  refine wp_dup rfl (ck_get kk_Mo_init_10 1 rfl) ?_
  refine wp_bipush (v := nI 91) (by decide) (ck_get kk_Mo_init_10 2 rfl) ?_
  refine wp_bipush (v := nI 116) (by decide) (ck_get kk_Mo_init_10 3 rfl) ?_
  refine wp_wd (v := 116) hb (ck_get kk_Mo_init_10 4 rfl) (by decide) (by decide) hw ?_
  clear hw
  intro f hw
  refine wp_dup rfl (ck_get kk_Mo_init_10 5 rfl) ?_
  refine wp_bipush (v := nI 92) (by decide) (ck_get kk_Mo_init_10 6 rfl) ?_
  refine wp_bipush (v := nI 111) (by decide) (ck_get kk_Mo_init_10 7 rfl) ?_
  refine wp_wd (v := 111) hb (ck_get kk_Mo_init_10 8 rfl) (by decide) (by decide) hw ?_
  clear hw
  intro f hw
  refine wp_dup rfl (ck_get kk_Mo_init_10 9 rfl) ?_
  refine wp_bipush (v := nI 93) (by decide) (ck_get kk_Mo_init_10 10 rfl) ?_
  refine wp_bipush (v := nI 32) (by decide) (ck_get kk_Mo_init_10 11 rfl) ?_
  refine wp_wd (v := 32) hb (ck_get kk_Mo_init_10 12 rfl) (by decide) (by decide) hw ?_
  clear hw
  intro f hw
  refine wp_dup rfl (ck_get kk_Mo_init_10 13 rfl) ?_
  refine wp_bipush (v := nI 94) (by decide) (ck_get kk_Mo_init_10 14 rfl) ?_
  refine wp_bipush (v := nI 100) (by decide) (ck_get kk_Mo_init_10 15 rfl) ?_
  refine wp_wd (v := 100) hb (ck_get kk_Mo_init_10 16 rfl) (by decide) (by decide) hw ?_
  clear hw
  intro f hw
  refine wp_dup rfl (ck_get kk_Mo_init_10 17 rfl) ?_
  refine wp_bipush (v := nI 95) (by decide) (ck_get kk_Mo_init_10 18 rfl) ?_
  refine wp_bipush (v := nI 114) (by decide) (ck_get kk_Mo_init_10 19 rfl) ?_
  refine wp_wd (v := 114) hb (ck_get kk_Mo_init_10 20 rfl) (by decide) (by decide) hw ?_
  clear hw
  intro f hw
  refine wp_dup rfl (ck_get kk_Mo_init_10 21 rfl) ?_
  refine wp_bipush (v := nI 96) (by decide) (ck_get kk_Mo_init_10 22 rfl) ?_
  refine wp_bipush (v := nI 111) (by decide) (ck_get kk_Mo_init_10 23 rfl) ?_
  refine wp_wd (v := 111) hb (ck_get kk_Mo_init_10 24 rfl) (by decide) (by decide) hw ?_
  clear hw
  intro f hw
  refine wp_dup rfl (ck_get kk_Mo_init_10 25 rfl) ?_
  refine wp_bipush (v := nI 97) (by decide) (ck_get kk_Mo_init_10 26 rfl) ?_
  refine wp_bipush (v := nI 112) (by decide) (ck_get kk_Mo_init_10 27 rfl) ?_
  refine wp_wd (v := 112) hb (ck_get kk_Mo_init_10 28 rfl) (by decide) (by decide) hw ?_
  clear hw
  intro f hw
  refine wp_dup rfl (ck_get kk_Mo_init_10 29 rfl) ?_
  refine wp_bipush (v := nI 98) (by decide) (ck_get kk_Mo_init_10 30 rfl) ?_
  refine wp_bipush (v := nI 32) (by decide) (ck_get kk_Mo_init_10 31 rfl) ?_
  refine wp_wd (v := 32) hb (ck_get kk_Mo_init_10 32 rfl) (by decide) (by decide) hw ?_
  clear hw
  intro f hw
  refine wp_dup rfl (ck_get kk_Mo_init_10 33 rfl) ?_
  refine wp_bipush (v := nI 99) (by decide) (ck_get kk_Mo_init_10 34 rfl) ?_
  refine wp_bipush (v := nI 112) (by decide) (ck_get kk_Mo_init_10 35 rfl) ?_
  refine wp_wd (v := 112) hb (ck_get kk_Mo_init_10 36 rfl) (by decide) (by decide) hw ?_
  clear hw
  intro f hw
  refine wp_dup rfl (ck_get kk_Mo_init_10 37 rfl) ?_
  refine wp_bipush (v := nI 100) (by decide) (ck_get kk_Mo_init_10 38 rfl) ?_
  refine wp_bipush (v := nI 97) (by decide) (ck_get kk_Mo_init_10 39 rfl) ?_
  refine wp_wd (v := 97) hb (ck_get kk_Mo_init_11 0 rfl) (by decide) (by decide) hw ?_
  clear hw
  intro f hw
  refine wp_dup rfl (ck_get kk_Mo_init_11 1 rfl) ?_
  refine wp_bipush (v := nI 101) (by decide) (ck_get kk_Mo_init_11 2 rfl) ?_
  refine wp_bipush (v := nI 115) (by decide) (ck_get kk_Mo_init_11 3 rfl) ?_
  refine wp_wd (v := 115) hb (ck_get kk_Mo_init_11 4 rfl) (by decide) (by decide) hw ?_
  clear hw
  intro f hw
  refine wp_dup rfl (ck_get kk_Mo_init_11 5 rfl) ?_
  refine wp_bipush (v := nI 102) (by decide) (ck_get kk_Mo_init_11 6 rfl) ?_
  refine wp_bipush (v := nI 115) (by decide) (ck_get kk_Mo_init_11 7 rfl) ?_
  refine wp_wd (v := 115) hb (ck_get kk_Mo_init_11 8 rfl) (by decide) (by decide) hw ?_
  clear hw
  intro f hw
  refine wp_dup rfl (ck_get kk_Mo_init_11 9 rfl) ?_
  refine wp_bipush (v := nI 103) (by decide) (ck_get kk_Mo_init_11 10 rfl) ?_
  refine wp_bipush (v := nI 32) (by decide) (ck_get kk_Mo_init_11 11 rfl) ?_
  refine wp_wd (v := 32) hb (ck_get kk_Mo_init_11 12 rfl) (by decide) (by decide) hw ?_
  clear hw
  intro f hw
  refine wp_dup rfl (ck_get kk_Mo_init_11 13 rfl) ?_
  refine wp_bipush (v := nI 104) (by decide) (ck_get kk_Mo_init_11 14 rfl) ?_
  refine wp_bipush (v := nI 116) (by decide) (ck_get kk_Mo_init_11 15 rfl) ?_
  refine wp_wd (v := 116) hb (ck_get kk_Mo_init_11 16 rfl) (by decide) (by decide) hw ?_
  clear hw
  intro f hw
  refine wp_dup rfl (ck_get kk_Mo_init_11 17 rfl) ?_
  refine wp_bipush (v := nI 105) (by decide) (ck_get kk_Mo_init_11 18 rfl) ?_
  refine wp_bipush (v := nI 105) (by decide) (ck_get kk_Mo_init_11 19 rfl) ?_
  refine wp_wd (v := 105) hb (ck_get kk_Mo_init_11 20 rfl) (by decide) (by decide) hw ?_
  clear hw
  intro f hw
  refine wp_dup rfl (ck_get kk_Mo_init_11 21 rfl) ?_
  refine wp_bipush (v := nI 106) (by decide) (ck_get kk_Mo_init_11 22 rfl) ?_
  refine wp_bipush (v := nI 109) (by decide) (ck_get kk_Mo_init_11 23 rfl) ?_
  refine wp_wd (v := 109) hb (ck_get kk_Mo_init_11 24 rfl) (by decide) (by decide) hw ?_
  clear hw
  intro f hw
  refine wp_dup rfl (ck_get kk_Mo_init_11 25 rfl) ?_
  refine wp_bipush (v := nI 107) (by decide) (ck_get kk_Mo_init_11 26 rfl) ?_
  refine wp_bipush (v := nI 101) (by decide) (ck_get kk_Mo_init_11 27 rfl) ?_
  refine wp_wd (v := 101) hb (ck_get kk_Mo_init_11 28 rfl) (by decide) (by decide) hw ?_
  clear hw
  intro f hw
  refine wp_dup rfl (ck_get kk_Mo_init_11 29 rfl) ?_
  refine wp_bipush (v := nI 108) (by decide) (ck_get kk_Mo_init_11 30 rfl) ?_
  refine wp_bipush (v := nI 115) (by decide) (ck_get kk_Mo_init_11 31 rfl) ?_
  refine wp_wd (v := 115) hb (ck_get kk_Mo_init_11 32 rfl) (by decide) (by decide) hw ?_
  clear hw
  intro f hw
  refine wp_dup rfl (ck_get kk_Mo_init_11 33 rfl) ?_
  refine wp_bipush (v := nI 109) (by decide) (ck_get kk_Mo_init_11 34 rfl) ?_
  refine wp_bipush (v := nI 32) (by decide) (ck_get kk_Mo_init_11 35 rfl) ?_
  refine wp_wd (v := 32) hb (ck_get kk_Mo_init_11 36 rfl) (by decide) (by decide) hw ?_
  clear hw
  intro f hw
  exact Kc _ hw
theorem mo_w5 {P : List Cel} {b : Nat} {Q : Option Value → Mem → Prop} (hb : P.length = b) {f : Nat → Int32} (hw : WdP 110 f) (Kc : ∀ f2, WdP 131 f2 → Wp g Y_Mo_init 2 861 [some (.ref 1020)] [.ref b, .ref 1020] (ofL (P ++ [cF f2])) Q) : Wp g Y_Mo_init 2 732 [some (.ref 1020)] [.ref b, .ref 1020] (ofL (P ++ [cF f])) Q := by
  refine wp_dup rfl (ck_get kk_Mo_init_11 37 rfl) ?_
  refine wp_bipush (v := nI 110) (by decide) (ck_get kk_Mo_init_11 38 rfl) ?_
  refine wp_bipush (v := nI 108) (by decide) (ck_get kk_Mo_init_11 39 rfl) ?_
  refine wp_wd (v := 108) hb (ck_get kk_Mo_init_12 0 rfl) (by decide) (by decide) hw ?_
  clear hw
  intro f hw
  refine wp_dup rfl (ck_get kk_Mo_init_12 1 rfl) ?_
  refine wp_bipush (v := nI 111) (by decide) (ck_get kk_Mo_init_12 2 rfl) ?_
  refine wp_bipush (v := nI 114) (by decide) (ck_get kk_Mo_init_12 3 rfl) ?_
  refine wp_wd (v := 114) hb (ck_get kk_Mo_init_12 4 rfl) (by decide) (by decide) hw ?_
  clear hw
  intro f hw
  refine wp_dup rfl (ck_get kk_Mo_init_12 5 rfl) ?_
  refine wp_bipush (v := nI 112) (by decide) (ck_get kk_Mo_init_12 6 rfl) ?_
  refine wp_bipush (v := nI 117) (by decide) (ck_get kk_Mo_init_12 7 rfl) ?_
  refine wp_wd (v := 117) hb (ck_get kk_Mo_init_12 8 rfl) (by decide) (by decide) hw ?_
  clear hw
  intro f hw
  refine wp_dup rfl (ck_get kk_Mo_init_12 9 rfl) ?_
  refine wp_bipush (v := nI 113) (by decide) (ck_get kk_Mo_init_12 10 rfl) ?_
  refine wp_bipush (v := nI 32) (by decide) (ck_get kk_Mo_init_12 11 rfl) ?_
  refine wp_wd (v := 32) hb (ck_get kk_Mo_init_12 12 rfl) (by decide) (by decide) hw ?_
  clear hw
  intro f hw
  refine wp_dup rfl (ck_get kk_Mo_init_12 13 rfl) ?_
  refine wp_bipush (v := nI 114) (by decide) (ck_get kk_Mo_init_12 14 rfl) ?_
  refine wp_bipush (v := nI 109) (by decide) (ck_get kk_Mo_init_12 15 rfl) ?_
  refine wp_wd (v := 109) hb (ck_get kk_Mo_init_12 16 rfl) (by decide) (by decide) hw ?_
  clear hw
  intro f hw
  refine wp_dup rfl (ck_get kk_Mo_init_12 17 rfl) ?_
  refine wp_bipush (v := nI 115) (by decide) (ck_get kk_Mo_init_12 18 rfl) ?_
  refine wp_bipush (v := nI 114) (by decide) (ck_get kk_Mo_init_12 19 rfl) ?_
  refine wp_wd (v := 114) hb (ck_get kk_Mo_init_12 20 rfl) (by decide) (by decide) hw ?_
  clear hw
  intro f hw
  refine wp_dup rfl (ck_get kk_Mo_init_12 21 rfl) ?_
  refine wp_bipush (v := nI 116) (by decide) (ck_get kk_Mo_init_12 22 rfl) ?_
  refine wp_bipush (v := nI 117) (by decide) (ck_get kk_Mo_init_12 23 rfl) ?_
  refine wp_wd (v := 117) hb (ck_get kk_Mo_init_12 24 rfl) (by decide) (by decide) hw ?_
  clear hw
  intro f hw
  refine wp_dup rfl (ck_get kk_Mo_init_12 25 rfl) ?_
  refine wp_bipush (v := nI 117) (by decide) (ck_get kk_Mo_init_12 26 rfl) ?_
  refine wp_bipush (v := nI 32) (by decide) (ck_get kk_Mo_init_12 27 rfl) ?_
  refine wp_wd (v := 32) hb (ck_get kk_Mo_init_12 28 rfl) (by decide) (by decide) hw ?_
  clear hw
  intro f hw
  refine wp_dup rfl (ck_get kk_Mo_init_12 29 rfl) ?_
  refine wp_bipush (v := nI 118) (by decide) (ck_get kk_Mo_init_12 30 rfl) ?_
  refine wp_bipush (v := nI 102) (by decide) (ck_get kk_Mo_init_12 31 rfl) ?_
  refine wp_wd (v := 102) hb (ck_get kk_Mo_init_12 32 rfl) (by decide) (by decide) hw ?_
  clear hw
  intro f hw
  refine wp_dup rfl (ck_get kk_Mo_init_12 33 rfl) ?_
  refine wp_bipush (v := nI 119) (by decide) (ck_get kk_Mo_init_12 34 rfl) ?_
  refine wp_bipush (v := nI 105) (by decide) (ck_get kk_Mo_init_12 35 rfl) ?_
  refine wp_wd (v := 105) hb (ck_get kk_Mo_init_12 36 rfl) (by decide) (by decide) hw ?_
  clear hw
  intro f hw
  refine wp_dup rfl (ck_get kk_Mo_init_12 37 rfl) ?_
  refine wp_bipush (v := nI 120) (by decide) (ck_get kk_Mo_init_12 38 rfl) ?_
  refine wp_bipush (v := nI 102) (by decide) (ck_get kk_Mo_init_12 39 rfl) ?_
  refine wp_wd (v := 102) hb (ck_get kk_Mo_init_13 0 rfl) (by decide) (by decide) hw ?_
  clear hw
  intro f hw
  refine wp_dup rfl (ck_get kk_Mo_init_13 1 rfl) ?_
  refine wp_bipush (v := nI 121) (by decide) (ck_get kk_Mo_init_13 2 rfl) ?_
  refine wp_bipush (v := nI 111) (by decide) (ck_get kk_Mo_init_13 3 rfl) ?_
  refine wp_wd (v := 111) hb (ck_get kk_Mo_init_13 4 rfl) (by decide) (by decide) hw ?_
  clear hw
  intro f hw
  refine wp_dup rfl (ck_get kk_Mo_init_13 5 rfl) ?_
  refine wp_bipush (v := nI 122) (by decide) (ck_get kk_Mo_init_13 6 rfl) ?_
  refine wp_bipush (v := nI 32) (by decide) (ck_get kk_Mo_init_13 7 rfl) ?_
  refine wp_wd (v := 32) hb (ck_get kk_Mo_init_13 8 rfl) (by decide) (by decide) hw ?_
  clear hw
  intro f hw
  refine wp_dup rfl (ck_get kk_Mo_init_13 9 rfl) ?_
  refine wp_bipush (v := nI 123) (by decide) (ck_get kk_Mo_init_13 10 rfl) ?_
  refine wp_bipush (v := nI 108) (by decide) (ck_get kk_Mo_init_13 11 rfl) ?_
  refine wp_wd (v := 108) hb (ck_get kk_Mo_init_13 12 rfl) (by decide) (by decide) hw ?_
  clear hw
  intro f hw
  refine wp_dup rfl (ck_get kk_Mo_init_13 13 rfl) ?_
  refine wp_bipush (v := nI 124) (by decide) (ck_get kk_Mo_init_13 14 rfl) ?_
  refine wp_bipush (v := nI 102) (by decide) (ck_get kk_Mo_init_13 15 rfl) ?_
  refine wp_wd (v := 102) hb (ck_get kk_Mo_init_13 16 rfl) (by decide) (by decide) hw ?_
  clear hw
  intro f hw
  refine wp_dup rfl (ck_get kk_Mo_init_13 17 rfl) ?_
  refine wp_bipush (v := nI 125) (by decide) (ck_get kk_Mo_init_13 18 rfl) ?_
  refine wp_bipush (v := nI 117) (by decide) (ck_get kk_Mo_init_13 19 rfl) ?_
  refine wp_wd (v := 117) hb (ck_get kk_Mo_init_13 20 rfl) (by decide) (by decide) hw ?_
  clear hw
  intro f hw
  refine wp_dup rfl (ck_get kk_Mo_init_13 21 rfl) ?_
  refine wp_bipush (v := nI 126) (by decide) (ck_get kk_Mo_init_13 22 rfl) ?_
  refine wp_bipush (v := nI 32) (by decide) (ck_get kk_Mo_init_13 23 rfl) ?_
  refine wp_wd (v := 32) hb (ck_get kk_Mo_init_13 24 rfl) (by decide) (by decide) hw ?_
  clear hw
  intro f hw
  refine wp_dup rfl (ck_get kk_Mo_init_13 25 rfl) ?_
  refine wp_bipush (v := nI 127) (by decide) (ck_get kk_Mo_init_13 26 rfl) ?_
  refine wp_bipush (v := nI 109) (by decide) (ck_get kk_Mo_init_13 27 rfl) ?_
  refine wp_wd (v := 109) hb (ck_get kk_Mo_init_13 28 rfl) (by decide) (by decide) hw ?_
  clear hw
  intro f hw
  refine wp_dup rfl (ck_get kk_Mo_init_13 29 rfl) ?_
  refine wp_sipush (v := nI 128) (by decide) (ck_get kk_Mo_init_13 30 rfl) ?_
  refine wp_bipush (v := nI 105) (by decide) (ck_get kk_Mo_init_13 31 rfl) ?_
  refine wp_wd (v := 105) hb (ck_get kk_Mo_init_13 32 rfl) (by decide) (by decide) hw ?_
  clear hw
  intro f hw
  refine wp_dup rfl (ck_get kk_Mo_init_13 33 rfl) ?_
  refine wp_sipush (v := nI 129) (by decide) (ck_get kk_Mo_init_13 34 rfl) ?_
  refine wp_bipush (v := nI 110) (by decide) (ck_get kk_Mo_init_13 35 rfl) ?_
  refine wp_wd (v := 110) hb (ck_get kk_Mo_init_13 36 rfl) (by decide) (by decide) hw ?_
  clear hw
  intro f hw
  refine wp_dup rfl (ck_get kk_Mo_init_13 37 rfl) ?_
  refine wp_sipush (v := nI 130) (by decide) (ck_get kk_Mo_init_13 38 rfl) ?_
  refine wp_bipush (v := nI 32) (by decide) (ck_get kk_Mo_init_13 39 rfl) ?_
  refine wp_wd (v := 32) hb (ck_get kk_Mo_init_14 0 rfl) (by decide) (by decide) hw ?_
  clear hw
  intro f hw
  exact Kc _ hw
theorem mo_g0 {L S : List Cel} {o : Cel} {Q : Option Value → Mem → Prop} (ha : L.length = 1020) (hs : S.length = 0) (ho : o.1 = (11, 0)) (Kc : Wp g Y_Mo_init 2 54 [some (.ref 1020)] [] (ofL (L ++ (cR (cR (cR (cR (cR (cR o 1 (some (1020 + 1))) 2 (some (1020 + 2))) 3 (some (1020 + 3))) 4 (some (1020 + 4))) 5 (some (1020 + 5))) 6 (some (1020 + 6))) :: ((((((S ++ [cN 20 7 7]) ++ [cN 20 5995 5995]) ++ [cN 21 100 100]) ++ [cN 20 11990 11990]) ++ [cN 21 200 200]) ++ [cN 23 2 2]))) Q) : Wp g Y_Mo_init 2 4 [some (.ref 1020)] [] (ofL (L ++ o :: S)) Q := by
  refine wp_aload_n rfl (ck_get kk_Mo_init_0 2 rfl) ?_
  refine wp_bipush (v := nI 7) (by decide) (ck_get kk_Mo_init_0 3 rfl) ?_
  refine wp_newarr (κ := 20) (len := 7) (ck_get kk_Mo_init_0 4 rfl) rfl ac_int (by decide) rfl (by decide) ?_
  rw [ofL_zm ha hs, ofL_nw]
  refine wp_putR (ck_get kk_Mo_init_0 5 rfl) fl_Mo_7 (by decide +kernel) ((ofL_T ha).trans ho) ?_
  rw [ofL_sR ha]
  have hs1 : (S ++ [cN 20 7 7]).length = 1 := by rw [List.length_append, hs]; rfl
  refine wp_aload_n rfl (ck_get kk_Mo_init_0 6 rfl) ?_
  refine wp_sipush (v := nI 5995) (by decide) (ck_get kk_Mo_init_0 7 rfl) ?_
  refine wp_newarr (κ := 20) (len := 5995) (ck_get kk_Mo_init_0 8 rfl) rfl ac_int (by decide) rfl (by decide) ?_
  rw [ofL_zm ha hs1, ofL_nw]
  refine wp_putR (ck_get kk_Mo_init_0 9 rfl) fl_Mo_28 (by decide +kernel) ((ofL_T ha).trans ho) ?_
  rw [ofL_sR ha]
  have hs2 : ((S ++ [cN 20 7 7]) ++ [cN 20 5995 5995]).length = 2 := by rw [List.length_append, hs1]; rfl
  refine wp_aload_n rfl (ck_get kk_Mo_init_0 10 rfl) ?_
  refine wp_bipush (v := nI 100) (by decide) (ck_get kk_Mo_init_0 11 rfl) ?_
  refine wp_newarr (κ := 21) (len := 100) (ck_get kk_Mo_init_0 12 rfl) rfl ac_long (by decide) rfl (by decide) ?_
  rw [ofL_zm ha hs2, ofL_nw]
  refine wp_putR (ck_get kk_Mo_init_0 13 rfl) fl_Mo_31 (by decide +kernel) ((ofL_T ha).trans ho) ?_
  rw [ofL_sR ha]
  have hs3 : (((S ++ [cN 20 7 7]) ++ [cN 20 5995 5995]) ++ [cN 21 100 100]).length = 3 := by rw [List.length_append, hs2]; rfl
  refine wp_aload_n rfl (ck_get kk_Mo_init_0 14 rfl) ?_
  refine wp_sipush (v := nI 11990) (by decide) (ck_get kk_Mo_init_0 15 rfl) ?_
  refine wp_newarr (κ := 20) (len := 11990) (ck_get kk_Mo_init_0 16 rfl) rfl ac_int (by decide) rfl (by decide) ?_
  rw [ofL_zm ha hs3, ofL_nw]
  refine wp_putR (ck_get kk_Mo_init_0 17 rfl) fl_Mo_35 (by decide +kernel) ((ofL_T ha).trans ho) ?_
  rw [ofL_sR ha]
  have hs4 : ((((S ++ [cN 20 7 7]) ++ [cN 20 5995 5995]) ++ [cN 21 100 100]) ++ [cN 20 11990 11990]).length = 4 := by rw [List.length_append, hs3]; rfl
  refine wp_aload_n rfl (ck_get kk_Mo_init_0 18 rfl) ?_
  refine wp_sipush (v := nI 200) (by decide) (ck_get kk_Mo_init_0 19 rfl) ?_
  refine wp_newarr (κ := 21) (len := 200) (ck_get kk_Mo_init_0 20 rfl) rfl ac_long (by decide) rfl (by decide) ?_
  rw [ofL_zm ha hs4, ofL_nw]
  refine wp_putR (ck_get kk_Mo_init_0 21 rfl) fl_Mo_38 (by decide +kernel) ((ofL_T ha).trans ho) ?_
  rw [ofL_sR ha]
  have hs5 : (((((S ++ [cN 20 7 7]) ++ [cN 20 5995 5995]) ++ [cN 21 100 100]) ++ [cN 20 11990 11990]) ++ [cN 21 200 200]).length = 5 := by rw [List.length_append, hs4]; rfl
  refine wp_aload_n rfl (ck_get kk_Mo_init_0 22 rfl) ?_
  refine wp_iconst (v := nI 2) (by decide) (ck_get kk_Mo_init_0 23 rfl) ?_
  refine wp_newarr (κ := 23) (len := 2) (ck_get kk_Mo_init_0 24 rfl) rfl ac_boolean (by decide) rfl (by decide) ?_
  rw [ofL_zm ha hs5, ofL_nw]
  refine wp_putR (ck_get kk_Mo_init_0 25 rfl) fl_Mo_41 (by decide +kernel) ((ofL_T ha).trans ho) ?_
  rw [ofL_sR ha]
  have hs6 : ((((((S ++ [cN 20 7 7]) ++ [cN 20 5995 5995]) ++ [cN 21 100 100]) ++ [cN 20 11990 11990]) ++ [cN 21 200 200]) ++ [cN 23 2 2]).length = 6 := by rw [List.length_append, hs5]; rfl
  exact Kc
theorem mo_g1 {L S : List Cel} {o : Cel} {Q : Option Value → Mem → Prop} (ha : L.length = 1020) (hs : S.length = 6) (ho : o.1 = (11, 0)) (Kc : Wp g Y_Mo_init 2 72 [some (.ref 1020)] [] (ofL (L ++ (cR (cR o 7 (some (1020 + 7))) 8 (some (1020 + 8))) :: ((S ++ [cN 20 738 738]) ++ [cN 21 200 200]))) Q) : Wp g Y_Mo_init 2 54 [some (.ref 1020)] [] (ofL (L ++ o :: S)) Q := by
  refine wp_aload_n rfl (ck_get kk_Mo_init_0 26 rfl) ?_
  refine wp_sipush (v := nI 738) (by decide) (ck_get kk_Mo_init_0 27 rfl) ?_
  refine wp_newarr (κ := 20) (len := 738) (ck_get kk_Mo_init_0 28 rfl) rfl ac_int (by decide) rfl (by decide) ?_
  rw [ofL_zm ha hs, ofL_nw]
  refine wp_putR (ck_get kk_Mo_init_0 29 rfl) fl_Mo_45 (by decide +kernel) ((ofL_T ha).trans ho) ?_
  rw [ofL_sR ha]
  have hs7 : (S ++ [cN 20 738 738]).length = 7 := by rw [List.length_append, hs]; rfl
  refine wp_aload_n rfl (ck_get kk_Mo_init_0 30 rfl) ?_
  refine wp_sipush (v := nI 200) (by decide) (ck_get kk_Mo_init_0 31 rfl) ?_
  refine wp_newarr (κ := 21) (len := 200) (ck_get kk_Mo_init_0 32 rfl) rfl ac_long (by decide) rfl (by decide) ?_
  rw [ofL_zm ha hs7, ofL_nw]
  refine wp_putR (ck_get kk_Mo_init_0 33 rfl) fl_Mo_48 (by decide +kernel) ((ofL_T ha).trans ho) ?_
  rw [ofL_sR ha]
  have hs8 : ((S ++ [cN 20 738 738]) ++ [cN 21 200 200]).length = 8 := by rw [List.length_append, hs7]; rfl
  exact Kc
theorem mo_g2 {L S : List Cel} {o : Cel} {Q : Option Value → Mem → Prop} (ha : L.length = 1020) (hs : S.length = 9) (ho : o.1 = (11, 0)) (Kc : Wp g Y_Mo_init 2 912 [some (.ref 1020)] [] (ofL (L ++ (cR (cR (cR (cI (cR (cR o 14 (some (1020 + 10))) 15 (some (1020 + 11))) 17 ((-1))) 18 (some (1020 + 12))) 19 (some (1020 + 13))) 20 (some (1020 + 14))) :: (((((S ++ [cN 22 400 400]) ++ [cN 20 5 5]) ++ [cN 20 401 401]) ++ [cN 20 401 401]) ++ [cN 20 401 401]))) Q) : Wp g Y_Mo_init 2 864 [some (.ref 1020)] [] (ofL (L ++ o :: S)) Q := by
  refine wp_aload_n rfl (ck_get kk_Mo_init_14 2 rfl) ?_
  refine wp_sipush (v := nI 400) (by decide) (ck_get kk_Mo_init_14 3 rfl) ?_
  refine wp_newarr (κ := 22) (len := 400) (ck_get kk_Mo_init_14 4 rfl) rfl ac_byte (by decide) rfl (by decide) ?_
  rw [ofL_zm ha hs, ofL_nw]
  refine wp_putR (ck_get kk_Mo_init_14 5 rfl) fl_Mo_55 (by decide +kernel) ((ofL_T ha).trans ho) ?_
  rw [ofL_sR ha]
  have hs10 : (S ++ [cN 22 400 400]).length = 10 := by rw [List.length_append, hs]; rfl
  refine wp_aload_n rfl (ck_get kk_Mo_init_14 6 rfl) ?_
  refine wp_iconst (v := nI 5) (by decide) (ck_get kk_Mo_init_14 7 rfl) ?_
  refine wp_newarr (κ := 20) (len := 5) (ck_get kk_Mo_init_14 8 rfl) rfl ac_int (by decide) rfl (by decide) ?_
  rw [ofL_zm ha hs10, ofL_nw]
  refine wp_putR (ck_get kk_Mo_init_14 9 rfl) fl_Mo_58 (by decide +kernel) ((ofL_T ha).trans ho) ?_
  rw [ofL_sR ha]
  have hs11 : ((S ++ [cN 22 400 400]) ++ [cN 20 5 5]).length = 11 := by rw [List.length_append, hs10]; rfl
  refine wp_aload_n rfl (ck_get kk_Mo_init_14 10 rfl) ?_
  refine wp_iconst (v := (-1)) (by decide) (ck_get kk_Mo_init_14 11 rfl) ?_
  refine wp_putI (ck_get kk_Mo_init_14 12 rfl) fl_Mo_61 (by decide +kernel) ((ofL_T ha).trans ho) (okI_int _) ?_
  rw [ofL_sI ha]
  refine wp_aload_n rfl (ck_get kk_Mo_init_14 13 rfl) ?_
  refine wp_sipush (v := nI 401) (by decide) (ck_get kk_Mo_init_14 14 rfl) ?_
  refine wp_newarr (κ := 20) (len := 401) (ck_get kk_Mo_init_14 15 rfl) rfl ac_int (by decide) rfl (by decide) ?_
  rw [ofL_zm ha hs11, ofL_nw]
  refine wp_putR (ck_get kk_Mo_init_14 16 rfl) fl_Mo_64 (by decide +kernel) ((ofL_T ha).trans ho) ?_
  rw [ofL_sR ha]
  have hs12 : (((S ++ [cN 22 400 400]) ++ [cN 20 5 5]) ++ [cN 20 401 401]).length = 12 := by rw [List.length_append, hs11]; rfl
  refine wp_aload_n rfl (ck_get kk_Mo_init_14 17 rfl) ?_
  refine wp_sipush (v := nI 401) (by decide) (ck_get kk_Mo_init_14 18 rfl) ?_
  refine wp_newarr (κ := 20) (len := 401) (ck_get kk_Mo_init_14 19 rfl) rfl ac_int (by decide) rfl (by decide) ?_
  rw [ofL_zm ha hs12, ofL_nw]
  refine wp_putR (ck_get kk_Mo_init_14 20 rfl) fl_Mo_67 (by decide +kernel) ((ofL_T ha).trans ho) ?_
  rw [ofL_sR ha]
  have hs13 : ((((S ++ [cN 22 400 400]) ++ [cN 20 5 5]) ++ [cN 20 401 401]) ++ [cN 20 401 401]).length = 13 := by rw [List.length_append, hs12]; rfl
  refine wp_aload_n rfl (ck_get kk_Mo_init_14 21 rfl) ?_
  refine wp_sipush (v := nI 401) (by decide) (ck_get kk_Mo_init_14 22 rfl) ?_
  refine wp_newarr (κ := 20) (len := 401) (ck_get kk_Mo_init_14 23 rfl) rfl ac_int (by decide) rfl (by decide) ?_
  rw [ofL_zm ha hs13, ofL_nw]
  refine wp_putR (ck_get kk_Mo_init_14 24 rfl) fl_Mo_70 (by decide +kernel) ((ofL_T ha).trans ho) ?_
  rw [ofL_sR ha]
  have hs14 : (((((S ++ [cN 22 400 400]) ++ [cN 20 5 5]) ++ [cN 20 401 401]) ++ [cN 20 401 401]) ++ [cN 20 401 401]).length = 14 := by rw [List.length_append, hs13]; rfl
  exact Kc
theorem mo_g3 {L S : List Cel} {o : Cel} {Q : Option Value → Mem → Prop} (ha : L.length = 1020) (hs : S.length = 14) (ho : o.1 = (11, 0)) (Kc : Wp g Y_Mo_init 2 964 [some (.ref 1020)] [] (ofL (L ++ (cR (cR (cR (cR (cR (cR o 29 (some (1020 + 15))) 32 (some (1020 + 16))) 33 (some (1020 + 17))) 34 (some (1020 + 18))) 35 (some (1020 + 19))) 37 (some (1020 + 20))) :: ((((((S ++ [cN 20 6 6]) ++ [cN 20 5920 5920]) ++ [cN 21 1600 1600]) ++ [cN 20 5920 5920]) ++ [cN 21 1600 1600]) ++ [cN 20 100 100]))) Q) : Wp g Y_Mo_init 2 912 [some (.ref 1020)] [] (ofL (L ++ o :: S)) Q := by
  refine wp_aload_n rfl (ck_get kk_Mo_init_14 25 rfl) ?_
  refine wp_bipush (v := nI 6) (by decide) (ck_get kk_Mo_init_14 26 rfl) ?_
  refine wp_newarr (κ := 20) (len := 6) (ck_get kk_Mo_init_14 27 rfl) rfl ac_int (by decide) rfl (by decide) ?_
  rw [ofL_zm ha hs, ofL_nw]
  refine wp_putR (ck_get kk_Mo_init_14 28 rfl) fl_Mo_73 (by decide +kernel) ((ofL_T ha).trans ho) ?_
  rw [ofL_sR ha]
  have hs15 : (S ++ [cN 20 6 6]).length = 15 := by rw [List.length_append, hs]; rfl
  refine wp_aload_n rfl (ck_get kk_Mo_init_14 29 rfl) ?_
  refine wp_sipush (v := nI 5920) (by decide) (ck_get kk_Mo_init_14 30 rfl) ?_
  refine wp_newarr (κ := 20) (len := 5920) (ck_get kk_Mo_init_14 31 rfl) rfl ac_int (by decide) rfl (by decide) ?_
  rw [ofL_zm ha hs15, ofL_nw]
  refine wp_putR (ck_get kk_Mo_init_14 32 rfl) fl_Mo_76 (by decide +kernel) ((ofL_T ha).trans ho) ?_
  rw [ofL_sR ha]
  have hs16 : ((S ++ [cN 20 6 6]) ++ [cN 20 5920 5920]).length = 16 := by rw [List.length_append, hs15]; rfl
  refine wp_aload_n rfl (ck_get kk_Mo_init_14 33 rfl) ?_
  refine wp_sipush (v := nI 1600) (by decide) (ck_get kk_Mo_init_14 34 rfl) ?_
  refine wp_newarr (κ := 21) (len := 1600) (ck_get kk_Mo_init_14 35 rfl) rfl ac_long (by decide) rfl (by decide) ?_
  rw [ofL_zm ha hs16, ofL_nw]
  refine wp_putR (ck_get kk_Mo_init_14 36 rfl) fl_Mo_79 (by decide +kernel) ((ofL_T ha).trans ho) ?_
  rw [ofL_sR ha]
  have hs17 : (((S ++ [cN 20 6 6]) ++ [cN 20 5920 5920]) ++ [cN 21 1600 1600]).length = 17 := by rw [List.length_append, hs16]; rfl
  refine wp_aload_n rfl (ck_get kk_Mo_init_14 37 rfl) ?_
  refine wp_sipush (v := nI 5920) (by decide) (ck_get kk_Mo_init_14 38 rfl) ?_
  refine wp_newarr (κ := 20) (len := 5920) (ck_get kk_Mo_init_14 39 rfl) rfl ac_int (by decide) rfl (by decide) ?_
  rw [ofL_zm ha hs17, ofL_nw]
  refine wp_putR (ck_get kk_Mo_init_15 0 rfl) fl_Mo_82 (by decide +kernel) ((ofL_T ha).trans ho) ?_
  rw [ofL_sR ha]
  have hs18 : ((((S ++ [cN 20 6 6]) ++ [cN 20 5920 5920]) ++ [cN 21 1600 1600]) ++ [cN 20 5920 5920]).length = 18 := by rw [List.length_append, hs17]; rfl
  refine wp_aload_n rfl (ck_get kk_Mo_init_15 1 rfl) ?_
  refine wp_sipush (v := nI 1600) (by decide) (ck_get kk_Mo_init_15 2 rfl) ?_
  refine wp_newarr (κ := 21) (len := 1600) (ck_get kk_Mo_init_15 3 rfl) rfl ac_long (by decide) rfl (by decide) ?_
  rw [ofL_zm ha hs18, ofL_nw]
  refine wp_putR (ck_get kk_Mo_init_15 4 rfl) fl_Mo_85 (by decide +kernel) ((ofL_T ha).trans ho) ?_
  rw [ofL_sR ha]
  have hs19 : (((((S ++ [cN 20 6 6]) ++ [cN 20 5920 5920]) ++ [cN 21 1600 1600]) ++ [cN 20 5920 5920]) ++ [cN 21 1600 1600]).length = 19 := by rw [List.length_append, hs18]; rfl
  refine wp_aload_n rfl (ck_get kk_Mo_init_15 5 rfl) ?_
  refine wp_bipush (v := nI 100) (by decide) (ck_get kk_Mo_init_15 6 rfl) ?_
  refine wp_newarr (κ := 20) (len := 100) (ck_get kk_Mo_init_15 7 rfl) rfl ac_int (by decide) rfl (by decide) ?_
  rw [ofL_zm ha hs19, ofL_nw]
  refine wp_putR (ck_get kk_Mo_init_15 8 rfl) fl_Mo_88 (by decide +kernel) ((ofL_T ha).trans ho) ?_
  rw [ofL_sR ha]
  have hs20 : ((((((S ++ [cN 20 6 6]) ++ [cN 20 5920 5920]) ++ [cN 21 1600 1600]) ++ [cN 20 5920 5920]) ++ [cN 21 1600 1600]) ++ [cN 20 100 100]).length = 20 := by rw [List.length_append, hs19]; rfl
  exact Kc
theorem mo_g4 {L S : List Cel} {o : Cel} {Q : Option Value → Mem → Prop} (ha : L.length = 1020) (hs : S.length = 20) (ho : o.1 = (11, 0)) (Kc : Wp g Y_Mo_init 2 1012 [some (.ref 1020)] [] (ofL (L ++ (cR (cR (cR (cR (cR (cR o 38 (some (1020 + 21))) 39 (some (1020 + 22))) 40 (some (1020 + 23))) 41 (some (1020 + 24))) 43 (some (1020 + 25))) 46 (some (1020 + 26))) :: ((((((S ++ [cN 20 100 100]) ++ [cN 20 4 4]) ++ [cN 22 400 400]) ++ [cN 22 12 12]) ++ [cN 20 4 4]) ++ [cN 20 245 245]))) Q) : Wp g Y_Mo_init 2 964 [some (.ref 1020)] [] (ofL (L ++ o :: S)) Q := by
  refine wp_aload_n rfl (ck_get kk_Mo_init_15 9 rfl) ?_
  refine wp_bipush (v := nI 100) (by decide) (ck_get kk_Mo_init_15 10 rfl) ?_
  refine wp_newarr (κ := 20) (len := 100) (ck_get kk_Mo_init_15 11 rfl) rfl ac_int (by decide) rfl (by decide) ?_
  rw [ofL_zm ha hs, ofL_nw]
  refine wp_putR (ck_get kk_Mo_init_15 12 rfl) fl_Mo_91 (by decide +kernel) ((ofL_T ha).trans ho) ?_
  rw [ofL_sR ha]
  have hs21 : (S ++ [cN 20 100 100]).length = 21 := by rw [List.length_append, hs]; rfl
  refine wp_aload_n rfl (ck_get kk_Mo_init_15 13 rfl) ?_
  refine wp_iconst (v := nI 4) (by decide) (ck_get kk_Mo_init_15 14 rfl) ?_
  refine wp_newarr (κ := 20) (len := 4) (ck_get kk_Mo_init_15 15 rfl) rfl ac_int (by decide) rfl (by decide) ?_
  rw [ofL_zm ha hs21, ofL_nw]
  refine wp_putR (ck_get kk_Mo_init_15 16 rfl) fl_Mo_94 (by decide +kernel) ((ofL_T ha).trans ho) ?_
  rw [ofL_sR ha]
  have hs22 : ((S ++ [cN 20 100 100]) ++ [cN 20 4 4]).length = 22 := by rw [List.length_append, hs21]; rfl
  refine wp_aload_n rfl (ck_get kk_Mo_init_15 17 rfl) ?_
  refine wp_sipush (v := nI 400) (by decide) (ck_get kk_Mo_init_15 18 rfl) ?_
  refine wp_newarr (κ := 22) (len := 400) (ck_get kk_Mo_init_15 19 rfl) rfl ac_byte (by decide) rfl (by decide) ?_
  rw [ofL_zm ha hs22, ofL_nw]
  refine wp_putR (ck_get kk_Mo_init_15 20 rfl) fl_Mo_97 (by decide +kernel) ((ofL_T ha).trans ho) ?_
  rw [ofL_sR ha]
  have hs23 : (((S ++ [cN 20 100 100]) ++ [cN 20 4 4]) ++ [cN 22 400 400]).length = 23 := by rw [List.length_append, hs22]; rfl
  refine wp_aload_n rfl (ck_get kk_Mo_init_15 21 rfl) ?_
  refine wp_bipush (v := nI 12) (by decide) (ck_get kk_Mo_init_15 22 rfl) ?_
  refine wp_newarr (κ := 22) (len := 12) (ck_get kk_Mo_init_15 23 rfl) rfl ac_byte (by decide) rfl (by decide) ?_
  rw [ofL_zm ha hs23, ofL_nw]
  refine wp_putR (ck_get kk_Mo_init_15 24 rfl) fl_Mo_100 (by decide +kernel) ((ofL_T ha).trans ho) ?_
  rw [ofL_sR ha]
  have hs24 : ((((S ++ [cN 20 100 100]) ++ [cN 20 4 4]) ++ [cN 22 400 400]) ++ [cN 22 12 12]).length = 24 := by rw [List.length_append, hs23]; rfl
  refine wp_aload_n rfl (ck_get kk_Mo_init_15 25 rfl) ?_
  refine wp_iconst (v := nI 4) (by decide) (ck_get kk_Mo_init_15 26 rfl) ?_
  refine wp_newarr (κ := 20) (len := 4) (ck_get kk_Mo_init_15 27 rfl) rfl ac_int (by decide) rfl (by decide) ?_
  rw [ofL_zm ha hs24, ofL_nw]
  refine wp_putR (ck_get kk_Mo_init_15 28 rfl) fl_Mo_103 (by decide +kernel) ((ofL_T ha).trans ho) ?_
  rw [ofL_sR ha]
  have hs25 : (((((S ++ [cN 20 100 100]) ++ [cN 20 4 4]) ++ [cN 22 400 400]) ++ [cN 22 12 12]) ++ [cN 20 4 4]).length = 25 := by rw [List.length_append, hs24]; rfl
  refine wp_aload_n rfl (ck_get kk_Mo_init_15 29 rfl) ?_
  refine wp_sipush (v := nI 245) (by decide) (ck_get kk_Mo_init_15 30 rfl) ?_
  refine wp_newarr (κ := 20) (len := 245) (ck_get kk_Mo_init_15 31 rfl) rfl ac_int (by decide) rfl (by decide) ?_
  rw [ofL_zm ha hs25, ofL_nw]
  refine wp_putR (ck_get kk_Mo_init_15 32 rfl) fl_Mo_106 (by decide +kernel) ((ofL_T ha).trans ho) ?_
  rw [ofL_sR ha]
  have hs26 : ((((((S ++ [cN 20 100 100]) ++ [cN 20 4 4]) ++ [cN 22 400 400]) ++ [cN 22 12 12]) ++ [cN 20 4 4]) ++ [cN 20 245 245]).length = 26 := by rw [List.length_append, hs25]; rfl
  exact Kc
theorem mo_g5 {L S : List Cel} {o : Cel} {Q : Option Value → Mem → Prop} (ha : L.length = 1020) (hs : S.length = 26) (ho : o.1 = (11, 0)) (Kc : Wp g Y_Mo_init 2 1061 [some (.ref 1020)] [] (ofL (L ++ (cR (cR (cR (cR (cR (cR o 47 (some (1020 + 27))) 48 (some (1020 + 28))) 49 (some (1020 + 29))) 50 (some (1020 + 30))) 51 (some (1020 + 31))) 52 (some (1020 + 32))) :: ((((((S ++ [cN 20 32 32]) ++ [cN 20 32 32]) ++ [cN 20 32 32]) ++ [cN 21 25 25]) ++ [cN 20 800 800]) ++ [cN 20 25 25]))) Q) : Wp g Y_Mo_init 2 1012 [some (.ref 1020)] [] (ofL (L ++ o :: S)) Q := by
  refine wp_aload_n rfl (ck_get kk_Mo_init_15 33 rfl) ?_
  refine wp_bipush (v := nI 32) (by decide) (ck_get kk_Mo_init_15 34 rfl) ?_
  refine wp_newarr (κ := 20) (len := 32) (ck_get kk_Mo_init_15 35 rfl) rfl ac_int (by decide) rfl (by decide) ?_
  rw [ofL_zm ha hs, ofL_nw]
  refine wp_putR (ck_get kk_Mo_init_15 36 rfl) fl_Mo_109 (by decide +kernel) ((ofL_T ha).trans ho) ?_
  rw [ofL_sR ha]
  have hs27 : (S ++ [cN 20 32 32]).length = 27 := by rw [List.length_append, hs]; rfl
  refine wp_aload_n rfl (ck_get kk_Mo_init_15 37 rfl) ?_
  refine wp_bipush (v := nI 32) (by decide) (ck_get kk_Mo_init_15 38 rfl) ?_
  refine wp_newarr (κ := 20) (len := 32) (ck_get kk_Mo_init_15 39 rfl) rfl ac_int (by decide) rfl (by decide) ?_
  rw [ofL_zm ha hs27, ofL_nw]
  refine wp_putR (ck_get kk_Mo_init_16 0 rfl) fl_Mo_112 (by decide +kernel) ((ofL_T ha).trans ho) ?_
  rw [ofL_sR ha]
  have hs28 : ((S ++ [cN 20 32 32]) ++ [cN 20 32 32]).length = 28 := by rw [List.length_append, hs27]; rfl
  refine wp_aload_n rfl (ck_get kk_Mo_init_16 1 rfl) ?_
  refine wp_bipush (v := nI 32) (by decide) (ck_get kk_Mo_init_16 2 rfl) ?_
  refine wp_newarr (κ := 20) (len := 32) (ck_get kk_Mo_init_16 3 rfl) rfl ac_int (by decide) rfl (by decide) ?_
  rw [ofL_zm ha hs28, ofL_nw]
  refine wp_putR (ck_get kk_Mo_init_16 4 rfl) fl_Mo_115 (by decide +kernel) ((ofL_T ha).trans ho) ?_
  rw [ofL_sR ha]
  have hs29 : (((S ++ [cN 20 32 32]) ++ [cN 20 32 32]) ++ [cN 20 32 32]).length = 29 := by rw [List.length_append, hs28]; rfl
  refine wp_aload_n rfl (ck_get kk_Mo_init_16 5 rfl) ?_
  refine wp_bipush (v := nI 25) (by decide) (ck_get kk_Mo_init_16 6 rfl) ?_
  refine wp_newarr (κ := 21) (len := 25) (ck_get kk_Mo_init_16 7 rfl) rfl ac_long (by decide) rfl (by decide) ?_
  rw [ofL_zm ha hs29, ofL_nw]
  refine wp_putR (ck_get kk_Mo_init_16 8 rfl) fl_Mo_118 (by decide +kernel) ((ofL_T ha).trans ho) ?_
  rw [ofL_sR ha]
  have hs30 : ((((S ++ [cN 20 32 32]) ++ [cN 20 32 32]) ++ [cN 20 32 32]) ++ [cN 21 25 25]).length = 30 := by rw [List.length_append, hs29]; rfl
  refine wp_aload_n rfl (ck_get kk_Mo_init_16 9 rfl) ?_
  refine wp_sipush (v := nI 800) (by decide) (ck_get kk_Mo_init_16 10 rfl) ?_
  refine wp_newarr (κ := 20) (len := 800) (ck_get kk_Mo_init_16 11 rfl) rfl ac_int (by decide) rfl (by decide) ?_
  rw [ofL_zm ha hs30, ofL_nw]
  refine wp_putR (ck_get kk_Mo_init_16 12 rfl) fl_Mo_121 (by decide +kernel) ((ofL_T ha).trans ho) ?_
  rw [ofL_sR ha]
  have hs31 : (((((S ++ [cN 20 32 32]) ++ [cN 20 32 32]) ++ [cN 20 32 32]) ++ [cN 21 25 25]) ++ [cN 20 800 800]).length = 31 := by rw [List.length_append, hs30]; rfl
  refine wp_aload_n rfl (ck_get kk_Mo_init_16 13 rfl) ?_
  refine wp_bipush (v := nI 25) (by decide) (ck_get kk_Mo_init_16 14 rfl) ?_
  refine wp_newarr (κ := 20) (len := 25) (ck_get kk_Mo_init_16 15 rfl) rfl ac_int (by decide) rfl (by decide) ?_
  rw [ofL_zm ha hs31, ofL_nw]
  refine wp_putR (ck_get kk_Mo_init_16 16 rfl) fl_Mo_124 (by decide +kernel) ((ofL_T ha).trans ho) ?_
  rw [ofL_sR ha]
  have hs32 : ((((((S ++ [cN 20 32 32]) ++ [cN 20 32 32]) ++ [cN 20 32 32]) ++ [cN 21 25 25]) ++ [cN 20 800 800]) ++ [cN 20 25 25]).length = 32 := by rw [List.length_append, hs31]; rfl
  exact Kc
theorem mo_g6 {L S : List Cel} {o : Cel} {Q : Option Value → Mem → Prop} (ha : L.length = 1020) (hs : S.length = 32) (ho : o.1 = (11, 0)) (Kc : Wp g Y_Mo_init 2 1089 [some (.ref 1020)] [] (ofL (L ++ (cR (cR (cI (cR o 53 (some (1020 + 33))) 54 ((-1))) 60 (some (1020 + 34))) 61 (some (1020 + 35))) :: (((S ++ [cN 21 21 21]) ++ [cN 21 3 3]) ++ [cN 20 100 100]))) Q) : Wp g Y_Mo_init 2 1061 [some (.ref 1020)] [] (ofL (L ++ o :: S)) Q := by
  refine wp_aload_n rfl (ck_get kk_Mo_init_16 17 rfl) ?_
  refine wp_bipush (v := nI 21) (by decide) (ck_get kk_Mo_init_16 18 rfl) ?_
  refine wp_newarr (κ := 21) (len := 21) (ck_get kk_Mo_init_16 19 rfl) rfl ac_long (by decide) rfl (by decide) ?_
  rw [ofL_zm ha hs, ofL_nw]
  refine wp_putR (ck_get kk_Mo_init_16 20 rfl) fl_Mo_127 (by decide +kernel) ((ofL_T ha).trans ho) ?_
  rw [ofL_sR ha]
  have hs33 : (S ++ [cN 21 21 21]).length = 33 := by rw [List.length_append, hs]; rfl
  refine wp_aload_n rfl (ck_get kk_Mo_init_16 21 rfl) ?_
  refine wp_iconst (v := (-1)) (by decide) (ck_get kk_Mo_init_16 22 rfl) ?_
  refine wp_putI (ck_get kk_Mo_init_16 23 rfl) fl_Mo_130 (by decide +kernel) ((ofL_T ha).trans ho) (okI_int _) ?_
  rw [ofL_sI ha]
  refine wp_aload_n rfl (ck_get kk_Mo_init_16 24 rfl) ?_
  refine wp_iconst (v := nI 3) (by decide) (ck_get kk_Mo_init_16 25 rfl) ?_
  refine wp_newarr (κ := 21) (len := 3) (ck_get kk_Mo_init_16 26 rfl) rfl ac_long (by decide) rfl (by decide) ?_
  rw [ofL_zm ha hs33, ofL_nw]
  refine wp_putR (ck_get kk_Mo_init_16 27 rfl) fl_Mo_133 (by decide +kernel) ((ofL_T ha).trans ho) ?_
  rw [ofL_sR ha]
  have hs34 : ((S ++ [cN 21 21 21]) ++ [cN 21 3 3]).length = 34 := by rw [List.length_append, hs33]; rfl
  refine wp_aload_n rfl (ck_get kk_Mo_init_16 28 rfl) ?_
  refine wp_bipush (v := nI 100) (by decide) (ck_get kk_Mo_init_16 29 rfl) ?_
  refine wp_newarr (κ := 20) (len := 100) (ck_get kk_Mo_init_16 30 rfl) rfl ac_int (by decide) rfl (by decide) ?_
  rw [ofL_zm ha hs34, ofL_nw]
  refine wp_putR (ck_get kk_Mo_init_16 31 rfl) fl_Mo_136 (by decide +kernel) ((ofL_T ha).trans ho) ?_
  rw [ofL_sR ha]
  have hs35 : (((S ++ [cN 21 21 21]) ++ [cN 21 3 3]) ++ [cN 20 100 100]).length = 35 := by rw [List.length_append, hs34]; rfl
  exact Kc
theorem i_Mo {L : List Cel} (ha : L.length = 1020) : Cv g Y_Mo_init 2 [.ref 1020] (ofL (L ++ [cN 11 0 (NF 11)])) (fun M2 => ∃ f, WdP 131 f ∧ M2 = esM (sI (sI (ofL (L ++ moC f)) 1022 382 (nI 1)) 1022 387 (-1)) 1020) := by
  refine cw_entry 0 pf_Mo_init rfl ?_
  refine wp_aload_n rfl (ck_get kk_Mo_init_0 0 rfl) ?_
  refine wp_objInit (ck_get kk_Mo_init_0 1 rfl) ol_Mo_22 oi_ok (by omega) (Nat.le_of_ble_eq_true rfl) ?_
  show Wp g Y_Mo_init 2 4 _ _ (ofL (L ++ moO0 :: moS0)) _
  refine mo_g0 ha (moS0_len) moO0_t ?_
  show Wp g Y_Mo_init 2 _ _ _ (ofL (L ++ moO1 :: moS1)) _
  refine mo_g1 ha (moS1_len) moO1_t ?_
  show Wp g Y_Mo_init 2 _ _ _ (ofL (L ++ moO2 :: moS2)) _
  refine wp_aload_n rfl (ck_get kk_Mo_init_0 34 rfl) ?_
  refine wp_sipush (v := nI 131) (by decide) (ck_get kk_Mo_init_0 35 rfl) ?_
  refine wp_newarr (κ := 22) (len := 131) (ck_get kk_Mo_init_0 36 rfl) rfl ac_byte (by decide) rfl (by decide) ?_
  rw [ofL_zm ha moS2_len, ofL_nw]
  rw [← ofL_a, show cN 22 131 131 = cF (fun _ => 0) from rfl]
  have hw : WdP 0 (fun _ => 0) := fun j hj => absurd hj (Nat.not_lt_zero _)
  refine mo_w0 (show (L ++ moO2 :: moS2).length = 1020 + (8 + 1) by rw [ofL_l ha, moS2_len]) hw ?_
  clear hw
  intro f hw
  refine mo_w1 (show (L ++ moO2 :: moS2).length = 1020 + (8 + 1) by rw [ofL_l ha, moS2_len]) hw ?_
  clear hw
  intro f hw
  refine mo_w2 (show (L ++ moO2 :: moS2).length = 1020 + (8 + 1) by rw [ofL_l ha, moS2_len]) hw ?_
  clear hw
  intro f hw
  refine mo_w3 (show (L ++ moO2 :: moS2).length = 1020 + (8 + 1) by rw [ofL_l ha, moS2_len]) hw ?_
  clear hw
  intro f hw
  refine mo_w4 (show (L ++ moO2 :: moS2).length = 1020 + (8 + 1) by rw [ofL_l ha, moS2_len]) hw ?_
  clear hw
  intro f hw
  refine mo_w5 (show (L ++ moO2 :: moS2).length = 1020 + (8 + 1) by rw [ofL_l ha, moS2_len]) hw ?_
  clear hw
  intro f hw
  rw [ofL_a]
  refine wp_putR (ck_get kk_Mo_init_14 1 rfl) fl_Mo_51 (by decide +kernel) ((ofL_T ha).trans moO2_t) ?_
  rw [ofL_sR ha]
  show Wp g Y_Mo_init 2 _ _ _ (ofL (L ++ moO3 :: moS3 f)) _
  refine mo_g2 ha (moS3_len f) moO3_t ?_
  show Wp g Y_Mo_init 2 _ _ _ (ofL (L ++ moO4 :: moS4 f)) _
  refine mo_g3 ha (moS4_len f) moO4_t ?_
  show Wp g Y_Mo_init 2 _ _ _ (ofL (L ++ moO5 :: moS5 f)) _
  refine mo_g4 ha (moS5_len f) moO5_t ?_
  show Wp g Y_Mo_init 2 _ _ _ (ofL (L ++ moO6 :: moS6 f)) _
  refine mo_g5 ha (moS6_len f) moO6_t ?_
  show Wp g Y_Mo_init 2 _ _ _ (ofL (L ++ moO7 :: moS7 f)) _
  refine mo_g6 ha (moS7_len f) moO7_t ?_
  show Wp g Y_Mo_init 2 _ _ _ (ofL (L ++ moO8 :: moS8 f)) _
  show Wp g Y_Mo_init 2 1089 [some (.ref 1020)] [] (ofL (L ++ moC f)) _
  have hM := mo_at f ha
  generalize hW : ofL (L ++ moC f) = W at hM ⊢
  have to0 := hM.1
  have rfkept := MoAt.r hM 1 rfl
  have tfkept := MoAt.t hM 1 rfl
  refine wp_aload_n rfl (ck_get kk_Mo_init_16 32 rfl) ?_
  refine wp_getR (ck_get kk_Mo_init_16 33 rfl) fl_Mo_28 (by assumption) (by assumption) ?_
  refine wp_sipush (v := nI 382) (by decide) (ck_get kk_Mo_init_16 34 rfl) ?_
  refine wp_iconst (v := nI 1) (by decide) (ck_get kk_Mo_init_16 35 rfl) ?_
  refine wp_iast (ck_get kk_Mo_init_16 36 rfl) (by assumption) (ixk_nI (k := 382) (by omega) (by omega)) ?_
  refine wp_aload_n rfl (ck_get kk_Mo_init_16 37 rfl) ?_
  refine wp_getR (ck_get kk_Mo_init_16 38 rfl) fl_Mo_28 (by assumption) (by assumption) ?_
  refine wp_sipush (v := nI 387) (by decide) (ck_get kk_Mo_init_16 39 rfl) ?_
  refine wp_iconst (v := (-1)) (by decide) (ck_get kk_Mo_init_17 0 rfl) ?_
  refine wp_iast (ck_get kk_Mo_init_17 1 rfl) (by assumption) (ixk_nI (k := 387) (by omega) (by omega)) ?_
  refine wp_aload_n rfl (ck_get kk_Mo_init_17 2 rfl) ?_
  refine wp_cV0v (ck_get kk_Mo_init_17 3 rfl) ml_Mo_139 (by omega) (Nat.le_of_ble_eq_true rfl) (by assumption) (Cv.to (m_emptiesSamples (o := 1020) (by exact hM)) ?_)
  rintro M1 w1
  refine wp_return (ck_get kk_Mo_init_17 4 rfl) rfl ⟨rfl, ?_⟩
  subst hW
  exact ⟨f, hw, w1⟩
end MOI

/-! ===== A plain machine over the kit's W: memory by typed tables, addresses counted from the law's start ===== -/
def fkd (t : FieldType) : Nat := match t with
  | .long => 1
  | .object _ => 2
  | .array _ => 2
  | _ => 0
def aty (κ : Nat) : FieldType := match κ with
  | 20 => .int
  | 21 => .long
  | 22 => .byte
  | 23 => .boolean
  | 24 => .object "MissCurves$Tenant"
  | 25 => .object "MissCurves$World"
  | 26 => .object "MissCurves$Shop"
  | _ => .object "MissCurves$Program"
def NF (κ : Nat) : Nat := match classes[κ]? with
  | some q => q.2.2
  | none => 0
/-- launch, the tables' numbers of classes and slots, of array classes, addresses of what lies outside, the heap at the start, what is said of outside -/
abbrev Gl : Type := Launch × va_G × (Nat → ClassId) × (Nat → Nat) × Heap × (State → Prop)
abbrev gl_l (g : Gl) : Launch := g.1
abbrev gl_D (g : Gl) : va_G := g.2.1
abbrev gl_ca (g : Gl) : Nat → ClassId := g.2.2.1
abbrev gl_ext (g : Gl) : Nat → Nat := g.2.2.2.1
abbrev gl_H (g : Gl) : Heap := g.2.2.2.2.1
abbrev gl_E (g : Gl) : State → Prop := g.2.2.2.2.2
abbrev gl_b (g : Gl) : Nat := (gl_H g).size
abbrev gl_tys (g : Gl) : List (ClassId × FieldType) := [20, 21, 22, 23, 24, 25, 26, 27].map (fun κ => (gl_ca g κ, aty κ))
def GOK (g : Gl) : Prop := (∀ u U : State, u.WarmedH U.vm → gl_E g u → gl_E g U) ∧ ∀ s : State, gl_E g s → ∀ w ∈ xw_tbl, w.before #[] s = true
/-- memory: how many cells and slots were made; of each cell its kind and length; ints, longs, references by cell and place -/
abbrev Mem : Type := (Nat × Nat) × (Nat → Nat × Nat) × (Nat → Nat → Int32) × (Nat → Nat → Int64) × (Nat → Nat → Option Nat)
abbrev mZ (M : Mem) : Nat := M.1.1
abbrev mL (M : Mem) : Nat := M.1.2
abbrev mT (M : Mem) : Nat → Nat × Nat := M.2.1
abbrev mI (M : Mem) : Nat → Nat → Int32 := M.2.2.1
abbrev mJ (M : Mem) : Nat → Nat → Int64 := M.2.2.2.1
abbrev mR (M : Mem) : Nat → Nat → Option Nat := M.2.2.2.2
def up2 {α : Type} (f : Nat → Nat → α) (a k : Nat) (v : α) : Nat → Nat → α := fun x y => if x = a ∧ y = k then v else f x y
def up1 {α : Type} (f : Nat → α) (a : Nat) (v : α) : Nat → α := fun x => if x = a then v else f x
abbrev sI (M : Mem) (a k : Nat) (v : Int32) : Mem := (M.1, M.2.1, up2 M.2.2.1 a k v, M.2.2.2.1, M.2.2.2.2)
abbrev sJ (M : Mem) (a k : Nat) (v : Int64) : Mem := (M.1, M.2.1, M.2.2.1, up2 M.2.2.2.1 a k v, M.2.2.2.2)
abbrev sR (M : Mem) (a k : Nat) (v : Option Nat) : Mem := (M.1, M.2.1, M.2.2.1, M.2.2.2.1, up2 M.2.2.2.2 a k v)
/-- values here name cells from the start on (ref) and things outside (retAddr) -/
def tv (g : Gl) (v : Value) : Value := match v with
  | .ref a => .ref (gl_b g + a)
  | .retAddr k => .ref (gl_ext g k)
  | .int x => .int x
  | .long x => .long x
  | .float x => .float x
  | .double x => .double x
  | .null => .null
theorem tv_cat (g : Gl) (v : Value) : (tv g v).category = v.category := by cases v <;> rfl
theorem tv_cats (g : Gl) (st : List Value) : ((st.map (tv g)).map fun v => v.category) = st.map fun v => v.category := by
  rw [List.map_map]
  exact List.map_congr_left (fun v _ => tv_cat g v)
def vl (g : Gl) (M : Mem) (t : FieldType) (a j : Nat) : Value := match fkd t with
  | 0 => .int (mI M a j)
  | 1 => .long (mJ M a j)
  | _ => tv g (va_rf (mR M a j))
def CellAt (g : Gl) (M : Mem) (a : Nat) (H : Heap) : Prop :=
  ((mT M a).1 < 13 → t_OB (gl_b g + a) ((gl_D g).1 (mT M a).1) (NF (mT M a).1) ((gl_D g).2 (mT M a).1) H (fun k => vl g M (tyOf (mT M a).1 k) a k)) ∧
  (¬ (mT M a).1 < 13 → H[gl_b g + a]? = some (arrV (gl_ca g (mT M a).1) (mT M a).2 (fun j => vl g M (aty (mT M a).1) a j)))
def World (g : Gl) (M : Mem) (H : Heap) : Prop := H.size = gl_b g + mZ M ∧ (∀ q : Nat, q < gl_b g → H[q]? = (gl_H g)[q]?) ∧ ∀ a : Nat, (mT M a).1 < 28 → a < mZ M ∧ CellAt g M a H
/-- a method: its name, its bytes, its locals, what it returns -/
abbrev Meth : Type := MethodName × ByteArray × Nat × Option FieldType
abbrev wsY (Y : Meth) : List Cond := .code Y.1 Y.2.1 Y.2.2.1 Y.2.2.2 :: gd_tbl
/-- locals by their places -/
def toL (g : Gl) : Nat → List (Option Value) → List (Nat × Value)
  | _, [] => []
  | i, none :: t => toL g (i + 1) t
  | i, some v :: t => (i, tv g v) :: toL g (i + 1) t
def LH (g : Gl) (ls : Array Slot) (nL : Nat) (lv : List (Option Value)) : Prop := lv_has ls nL (toL g 0 lv)
theorem mem_toL {g : Gl} {q : Nat × Value} : ∀ {lv : List (Option Value)} {i : Nat}, q ∈ toL g i lv ↔ ∃ (j : Nat) (v : Value), lv[j]? = some (some v) ∧ q = (i + j, tv g v)
  | [], i => by simp [toL]
  | none :: t, i => by
    rw [toL, mem_toL]
    constructor
    · rintro ⟨j, v, h, e⟩
      exact ⟨j + 1, v, by simpa using h, by rw [e, show i + 1 + j = i + (j + 1) by omega]⟩
    · rintro ⟨j, v, h, e⟩
      cases j with
      | zero => simp at h
      | succ j => exact ⟨j, v, by simpa using h, by rw [e, show i + 1 + j = i + (j + 1) by omega]⟩
  | some w :: t, i => by
    rw [toL, List.mem_cons, mem_toL]
    constructor
    · rintro (rfl | ⟨j, v, h, e⟩)
      · exact ⟨0, w, by simp, by simp⟩
      · exact ⟨j + 1, v, by simpa using h, by rw [e, show i + 1 + j = i + (j + 1) by omega]⟩
    · rintro ⟨j, v, h, e⟩
      cases j with
      | zero =>
        simp at h
        left
        rw [e, h, Nat.add_zero]
      | succ j => exact Or.inr ⟨j, v, by simpa using h, by rw [e, show i + 1 + j = i + (j + 1) by omega]⟩
theorem LH.get {g : Gl} {ls : Array Slot} {nL : Nat} {lv : List (Option Value)} (h : LH g ls nL lv) {i : Nat} {v : Value} (hi : lv[i]? = some (some v)) : ls[i]? = some (.val (tv g v)) :=
  h.2.2 (i, tv g v) (mem_toL.mpr ⟨i, v, hi, by rw [Nat.zero_add]⟩)
/-- the place ahead holds no long -/
def okp (lv : List (Option Value)) (i : Nat) : Bool := match i with
  | 0 => true
  | j + 1 => match lv[j]? with
    | some (some v) => v.category == 1
    | _ => true
theorem LH.set1 {g : Gl} {ls : Array Slot} {nL : Nat} {lv : List (Option Value)} {l' : List (Nat × Value)} {i : Nat} {v : Value} (hp : okp lv i = true) (he : (i, tv g v) :: (toL g 0 lv).filter (fun q => !(q.1 == i) && !(q.1 + 1 == i && q.2.category == 2)) = l') (h : lv_has ls nL l') : LH g ls nL (lv.set i (some v)) := by
  refine ⟨h.1, h.2.1, fun q hq => ?_⟩
  obtain ⟨j, w, hj, e⟩ := mem_toL.mp hq
  refine h.2.2 q ?_
  rw [← he]
  rw [Nat.zero_add] at e
  by_cases hij : i = j
  · subst hij
    have hl : i < lv.length := by
      have := (List.getElem?_eq_some_iff.mp hj).1
      simpa using this
    rw [List.getElem?_set_self hl] at hj
    cases hj
    rw [e]
    exact List.mem_cons_self
  · rw [List.getElem?_set_ne hij] at hj
    refine List.mem_cons_of_mem _ (List.mem_filter.mpr ⟨mem_toL.mpr ⟨j, w, hj, by rw [e, Nat.zero_add]⟩, ?_⟩)
    rw [e]
    simp only [Bool.and_eq_true, Bool.not_eq_true', beq_eq_false_iff_ne, ne_eq, Bool.and_eq_false_iff, beq_iff_eq]
    refine ⟨fun h => hij h.symm, ?_⟩
    by_cases h1 : j + 1 = i
    · right
      subst h1
      unfold okp at hp
      simp only [hj, beq_iff_eq] at hp
      rw [tv_cat]; omega
    · left; exact h1
theorem LH.set2 {g : Gl} {ls : Array Slot} {nL : Nat} {lv : List (Option Value)} {l' : List (Nat × Value)} {i : Nat} {v : Value} (hp : okp lv i = true) (he : (i, tv g v) :: (toL g 0 lv).filter (fun q => !(q.1 == i) && (!(q.1 == i + 1) && !(q.1 + 1 == i && q.2.category == 2))) = l') (h : lv_has ls nL l') : LH g ls nL ((lv.set i (some v)).set (i + 1) none) := by
  refine ⟨h.1, h.2.1, fun q hq => ?_⟩
  obtain ⟨j, w, hj, e⟩ := mem_toL.mp hq
  refine h.2.2 q ?_
  rw [← he]
  rw [Nat.zero_add] at e
  by_cases hij1 : i + 1 = j
  · subst hij1
    have hl : i + 1 < (lv.set i (some v)).length := by
      have := (List.getElem?_eq_some_iff.mp hj).1
      simpa using this
    rw [List.getElem?_set_self hl] at hj
    cases hj
  rw [List.getElem?_set_ne hij1] at hj
  by_cases hij : i = j
  · subst hij
    have hl : i < lv.length := by
      have := (List.getElem?_eq_some_iff.mp hj).1
      simpa using this
    rw [List.getElem?_set_self hl] at hj
    cases hj
    rw [e]
    exact List.mem_cons_self
  · rw [List.getElem?_set_ne hij] at hj
    refine List.mem_cons_of_mem _ (List.mem_filter.mpr ⟨mem_toL.mpr ⟨j, w, hj, by rw [e, Nat.zero_add]⟩, ?_⟩)
    rw [e]
    simp only [Bool.and_eq_true, Bool.not_eq_true', beq_eq_false_iff_ne, ne_eq, Bool.and_eq_false_iff, beq_iff_eq]
    refine ⟨fun h => hij h.symm, fun h => hij1 h.symm, ?_⟩
    by_cases h1 : j + 1 = i
    · right
      subst h1
      unfold okp at hp
      simp only [hj, beq_iff_eq] at hp
      rw [tv_cat]; omega
    · left; exact h1
/-- what holds in a frame of the method Y that may go n frames deep -/
def FrameOK (g : Gl) (Y : Meth) (n : Nat) (p : Program) (R : Room) (s : State) (m : MethodId) (args : Array Value) (meth : Method) (c : Code) : Prop :=
  (p.tables.exec = Jvm.exec ∧ c.code = Y.2.1 ∧ c.maxLocals = Y.2.2.1 ∧ meth.sig.returnType = Y.2.2.2 ∧ meth.locks = false ∧ meth.name = Y.1.name) ∧
  s.vm.findClass Y.1.cls = some m.cls ∧ (∀ w ∈ gd_tbl, w.before args s = true) ∧ va_K (gl_D g) classes (gl_tys g) s ∧ gl_E g s ∧ GOK g ∧ n ≤ R.frames ∧ 41 * n ≤ R.locals ∧ gl_b g ≤ s.heap.size
/-- a return instruction that fits the answer -/
def RetAt (Y : Meth) (pc : Nat) (r : Option Value) : Prop :=
  (r = none ∧ Y.2.2.2 = none ∧ decode Y.2.1 pc = .ok (.return_, 1)) ∨
  (∃ (x : Int32) (ty : FieldType), r = some (.int x) ∧ Y.2.2.2 = some ty ∧ narrow ty (.int x) = .int x ∧ decode Y.2.1 pc = .ok (.ireturn, 1)) ∨
  (∃ x : Int64, r = some (.long x) ∧ Y.2.2.2 = some .long ∧ decode Y.2.1 pc = .ok (.lreturn, 1)) ∨
  (∃ (q : Option Nat) (ty : FieldType), r = some (va_rf q) ∧ Y.2.2.2 = some ty ∧ fkd ty = 2 ∧ decode Y.2.1 pc = .ok (.areturn, 1))
/-- from this place of a frame the machine comes to a return with r, the memory is M2 then -/
def Runs (g : Gl) (Y : Meth) (n : Nat) (pc : Nat) (lv : List (Option Value)) (st : List Value) (M : Mem) (r : Option Value) (M2 : Mem) : Prop :=
  (mZ M ≤ mZ M2 ∧ mL M ≤ mL M2) ∧ ∀ (p : Program) (e : Env) (R : Room) (s : State) (m : MethodId) (args : Array Value) (below : List Frame) (meth : Method) (c : Code) (H : Heap) (locs : List Loc) (z0 l0 : Nat) (Q : State → Prop) (ls : Array Slot),
    FrameOK g Y n p R s m args meth c → World g M H → (∀ q ∈ locs, gl_b g ≤ q.base) → LH g ls Y.2.2.1 lv → z0 ≤ mZ M → l0 ≤ mL M → mZ M2 - z0 ≤ R.cells → mL M2 - l0 ≤ R.slots →
    (∀ (pc2 : Nat) (ls2 : Array Slot) (H2 : Heap) (locs2 : List Loc), World g M2 H2 → (∀ q ∈ locs2, gl_b g ≤ q.base) → RetAt Y pc2 r → W p (gl_l g) e R s m args below meth c H2 locs2 (mZ M2 - z0) (mL M2 - l0) Q (F0 m pc2 ls2 (r.toList.map (tv g)))) →
    W p (gl_l g) e R s m args below meth c H locs (mZ M - z0) (mL M - l0) Q (F0 m pc ls (st.map (tv g)))
def Wp (g : Gl) (Y : Meth) (n : Nat) (pc : Nat) (lv : List (Option Value)) (st : List Value) (M : Mem) (Q : Option Value → Mem → Prop) : Prop := ∃ (r : Option Value) (M2 : Mem), Runs g Y n pc lv st M r M2 ∧ Q r M2
theorem Wp.mono {g : Gl} {Y : Meth} {n pc : Nat} {lv : List (Option Value)} {st : List Value} {M : Mem} {Q Q2 : Option Value → Mem → Prop} (h : Wp g Y n pc lv st M Q) (hq : ∀ r M2, Q r M2 → Q2 r M2) : Wp g Y n pc lv st M Q2 := by
  obtain ⟨r, M2, h1, h2⟩ := h
  exact ⟨r, M2, h1, hq r M2 h2⟩
theorem FrameOK.le {g : Gl} {Y : Meth} {n n2 : Nat} {p : Program} {R : Room} {s : State} {m : MethodId} {args : Array Value} {meth : Method} {c : Code} (h : n ≤ n2) (k : FrameOK g Y n2 p R s m args meth c) : FrameOK g Y n p R s m args meth c := by
  obtain ⟨h1, h2, h3, h4, h5, h6, h7, h8, h9⟩ := k
  exact ⟨h1, h2, h3, h4, h5, h6, by omega, by omega, h9⟩
theorem Wp.le {g : Gl} {Y : Meth} {n n2 pc : Nat} {lv : List (Option Value)} {st : List Value} {M : Mem} {Q : Option Value → Mem → Prop} (hn : n ≤ n2) (h : Wp g Y n pc lv st M Q) : Wp g Y n2 pc lv st M Q := by
  obtain ⟨r, M2, ⟨h1, h2⟩, h3⟩ := h
  exact ⟨r, M2, ⟨h1, fun p e R s m args below meth c H locs z0 l0 Q ls hF => h2 p e R s m args below meth c H locs z0 l0 Q ls (hF.le hn)⟩, h3⟩
/-- an instruction that leaves the memory as it is -/
theorem wp_pure {g : Gl} {Y : Meth} {n pc pc2 : Nat} {lv : List (Option Value)} {st st2 : List Value} {M : Mem} {Q : Option Value → Mem → Prop}
    (h : ∀ (p : Program) (e : Env) (R : Room) (s : State) (m : MethodId) (args : Array Value) (below : List Frame) (meth : Method) (c : Code) (H : Heap) (locs : List Loc) (cells slots : Nat) (Q : State → Prop) (ls : Array Slot), FrameOK g Y n p R s m args meth c → LH g ls Y.2.2.1 lv → World g M H →
      W p (gl_l g) e R s m args below meth c H locs cells slots Q (F0 m pc2 ls (st2.map (tv g))) → W p (gl_l g) e R s m args below meth c H locs cells slots Q (F0 m pc ls (st.map (tv g))))
    (k : Wp g Y n pc2 lv st2 M Q) : Wp g Y n pc lv st M Q := by
  obtain ⟨r, M2, ⟨h1, h2⟩, h3⟩ := k
  refine ⟨r, M2, ⟨h1, fun p e R s m args below meth c H locs z0 l0 Q ls hF hW hL hlv hz hl hc hs hk => ?_⟩, h3⟩
  exact h p e R s m args below meth c H locs _ _ Q ls hF hlv hW (h2 p e R s m args below meth c H locs z0 l0 Q ls hF hW hL hlv hz hl hc hs hk)
/-- one that changes a local -/
theorem wp_store {g : Gl} {Y : Meth} {n pc pc2 : Nat} {lv lv2 : List (Option Value)} {st st2 : List Value} {M : Mem} {Q : Option Value → Mem → Prop}
    (h : ∀ (p : Program) (e : Env) (R : Room) (s : State) (m : MethodId) (args : Array Value) (below : List Frame) (meth : Method) (c : Code) (H : Heap) (locs : List Loc) (cells slots : Nat) (Q : State → Prop) (ls : Array Slot), FrameOK g Y n p R s m args meth c → LH g ls Y.2.2.1 lv →
      (∀ ls2 : Array Slot, LH g ls2 Y.2.2.1 lv2 → W p (gl_l g) e R s m args below meth c H locs cells slots Q (F0 m pc2 ls2 (st2.map (tv g)))) → W p (gl_l g) e R s m args below meth c H locs cells slots Q (F0 m pc ls (st.map (tv g))))
    (k : Wp g Y n pc2 lv2 st2 M Q) : Wp g Y n pc lv st M Q := by
  obtain ⟨r, M2, ⟨h1, h2⟩, h3⟩ := k
  refine ⟨r, M2, ⟨h1, fun p e R s m args below meth c H locs z0 l0 Q ls hF hW hL hlv hz hl hc hs hk => ?_⟩, h3⟩
  exact h p e R s m args below meth c H locs _ _ Q ls hF hlv (fun ls2 hlv2 => h2 p e R s m args below meth c H locs z0 l0 Q ls2 hF hW hL hlv2 hz hl hc hs hk)
/-- one that branches -/
theorem wp_br {g : Gl} {Y : Meth} {n pc pt pf : Nat} {lv : List (Option Value)} {st st2 : List Value} {M : Mem} {Q : Option Value → Mem → Prop} {b : Prop}
    (h : ∀ (p : Program) (e : Env) (R : Room) (s : State) (m : MethodId) (args : Array Value) (below : List Frame) (meth : Method) (c : Code) (H : Heap) (locs : List Loc) (cells slots : Nat) (Q : State → Prop) (ls : Array Slot), FrameOK g Y n p R s m args meth c →
      (b → W p (gl_l g) e R s m args below meth c H locs cells slots Q (F0 m pt ls (st2.map (tv g)))) → (¬ b → W p (gl_l g) e R s m args below meth c H locs cells slots Q (F0 m pf ls (st2.map (tv g)))) → W p (gl_l g) e R s m args below meth c H locs cells slots Q (F0 m pc ls (st.map (tv g))))
    (kt : b → Wp g Y n pt lv st2 M Q) (kf : ¬ b → Wp g Y n pf lv st2 M Q) : Wp g Y n pc lv st M Q := by
  by_cases hb : b
  · obtain ⟨r, M2, ⟨h1, h2⟩, h3⟩ := kt hb
    refine ⟨r, M2, ⟨h1, fun p e R s m args below meth c H locs z0 l0 Q ls hF hW hL hlv hz hl hc hs hk => ?_⟩, h3⟩
    exact h p e R s m args below meth c H locs _ _ Q ls hF (fun _ => h2 p e R s m args below meth c H locs z0 l0 Q ls hF hW hL hlv hz hl hc hs hk) (fun q => absurd hb q)
  · obtain ⟨r, M2, ⟨h1, h2⟩, h3⟩ := kf hb
    refine ⟨r, M2, ⟨h1, fun p e R s m args below meth c H locs z0 l0 Q ls hF hW hL hlv hz hl hc hs hk => ?_⟩, h3⟩
    exact h p e R s m args below meth c H locs _ _ Q ls hF (fun q => absurd q hb) (fun _ => h2 p e R s m args below meth c H locs z0 l0 Q ls hF hW hL hlv hz hl hc hs hk)

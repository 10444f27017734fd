/-! THE WALK'S OWN WORDS: V, the machine at a place of a method, over a world and named locals; zM, a method's contract; every row turns V at an instruction into V at the next, and takes with it what is left of the method's pure function (hf). -/
def zW : List Cond := lw_tbl.filter goodWord
abbrev zS : Type := (Nat → Int32) × (Nat → Nat → Int32)
abbrev zD : Type := va_G × ClassId × ClassId × ClassId × ClassId × ((Nat → Prop) → State → Prop)
def zt (d : zD) : List (ClassId × FieldType) := [(d.2.1, .int), (d.2.2.1, .boolean), (d.2.2.2.1, .long), (d.2.2.2.2.1, .array .int)]
def zsg (σ : zS) (k : Nat) (v : Int32) : zS := (upd σ.1 k v, σ.2)
def zsa (σ : zS) (k : Nat) (i : Int32) (v : Int32) : zS := (σ.1, va_up σ.2 k (upd (σ.2 k) i.toNatClampNeg v))
def zlt {α β : Type} (x : α) (f : α → β) : β := f x
def zin {β : Type} (i : Int32) (n : Nat) (x : Option β) : Option β := if i < 0 ∨ n ≤ i.toNatClampNeg then none else x
def znz {β : Type} (y : Int32) (x : Option β) : Option β := if y = 0 then none else x
def zbo {β : Type} (y : Int32) (x : Option β) : Option β := if vp_nar .boolean y = y then x else none
def zbd {α β : Type} (x : Option (α × zS)) (f : α → zS → Option β) : Option β := match x with
  | none => none
  | some q => f q.1 q.2
def zrem (x y : Int32) : Int32 := x - x / y * y
def zshl (x y : Int32) : Int32 := x <<< (y &&& 31)
def zshr (x y : Int32) : Int32 := x >>> (y &&& 31)
def zfu : Nat := 18446744073709551616
def zp : Nat → List (Option Value) → List (Nat × Value)
  | _, [] => []
  | i, none :: t => zp (i + 1) t
  | i, some v :: t => (i, v) :: zp (i + 1) t
theorem zp_mem {v : Value} {i : Nat} : ∀ (lv : List (Option Value)) (k : Nat), (i, v) ∈ zp k lv ↔ ∃ j, i = k + j ∧ lv[j]? = some (some v)
  | [], k => by simp [zp]
  | none :: t, k => by
    rw [zp, zp_mem t (k + 1)]
    constructor
    · rintro ⟨j, h1, h2⟩
      exact ⟨j + 1, by omega, by simpa using h2⟩
    · rintro ⟨j, h1, h2⟩
      cases j with
      | zero => simp at h2
      | succ j => exact ⟨j, by omega, by simpa using h2⟩
  | some w :: t, k => by
    rw [zp, List.mem_cons, zp_mem t (k + 1)]
    constructor
    · rintro (h | ⟨j, h1, h2⟩)
      · cases h
        exact ⟨0, by omega, by simp⟩
      · exact ⟨j + 1, by omega, by simpa using h2⟩
    · rintro ⟨j, h1, h2⟩
      cases j with
      | zero =>
        simp at h2
        subst h2
        exact Or.inl (by simp at h1; rw [h1])
      | succ j => exact Or.inr ⟨j, by omega, by simpa using h2⟩
def zh (ls : Array Slot) (nL : Nat) (lv : List (Option Value)) : Prop := lv_has ls nL (zp 0 lv)
theorem zh_at {ls : Array Slot} {nL : Nat} {lv : List (Option Value)} (h : zh ls nL lv) {i : Nat} {v : Value} (hk : lv[i]? = some (some v)) : ls[i]? = some (.val v) := h.2.2 (i, v) ((zp_mem lv 0).mpr ⟨i, by omega, hk⟩)
theorem zh_of {ls : Array Slot} {nL : Nat} {l : List (Nat × Value)} {lv : List (Option Value)} (h : lv_has ls nL l) (hm : ∀ i v, lv[i]? = some (some v) → (i, v) ∈ l) : zh ls nL lv := ⟨h.1, h.2.1, fun q hq => by
  obtain ⟨i, v⟩ := q
  obtain ⟨j, h1, h2⟩ := (zp_mem lv 0).mp hq
  have : i = j := by omega
  subst this
  exact h.2.2 _ (hm i v h2)⟩
/-- fewer locals -/
def zle : List (Option Value) → List (Option Value) → Prop
  | [], _ => True
  | none :: a, _ :: b => zle a b
  | some v :: a, x :: b => x = some v ∧ zle a b
  | none :: a, [] => zle a []
  | some _ :: _, [] => False
theorem zle_at : ∀ (a b : List (Option Value)), zle a b → ∀ (i : Nat) (v : Value), a[i]? = some (some v) → b[i]? = some (some v)
  | [], _, _, i, v, h => by simp at h
  | none :: a, x :: b, hz, i, v, h => by
    cases i with
    | zero => simp at h
    | succ i => simpa using zle_at a b hz i v (by simpa using h)
  | some w :: a, x :: b, hz, i, v, h => by
    cases i with
    | zero =>
      simp at h
      subst h
      simp [hz.1]
    | succ i => simpa using zle_at a b hz.2 i v (by simpa using h)
  | none :: a, [], hz, i, v, h => by
    cases i with
    | zero => simp at h
    | succ i => exact absurd (zle_at a [] hz i v (by simpa using h)) (by simp)
  | some _ :: _, [], hz, _, _, _ => hz.elim
theorem zE {b : List (Option Value)} : zle [] b := trivial
theorem zN {a b : List (Option Value)} {x : Option Value} (h : zle a b) : zle (none :: a) (x :: b) := h
theorem zA {a b : List (Option Value)} {v : Value} (h : zle a b) : zle (some v :: a) (some v :: b) := ⟨rfl, h⟩
theorem zh_le {ls : Array Slot} {nL : Nat} {a b : List (Option Value)} (h : zh ls nL b) (hz : zle a b) : zh ls nL a := zh_of h (fun i v hi => (zp_mem b 0).mpr ⟨i, by omega, zle_at a b hz i v hi⟩)
/-- a place ahead is no long -/
def z1 (lv : List (Option Value)) (i : Nat) : Bool := match i with
  | 0 => true
  | j + 1 => match lv[j]? with
    | some (some v) => v.category == 1
    | _ => true
theorem zh_set1 {ls : Array Slot} {nL i : Nat} {v : Value} {lv : List (Option Value)} (h : lv_has ls nL ((i, v) :: (zp 0 lv).filter (fun q => !(q.1 == i) && !(q.1 + 1 == i && q.2.category == 2)))) (h1 : z1 lv i = true) : zh ls nL (lv.set i (some v)) := by
  refine zh_of h (fun j w hj => ?_)
  rw [List.getElem?_set] at hj
  by_cases hji : i = j
  · rw [if_pos hji] at hj
    split at hj
    · cases hj
      subst hji
      exact List.mem_cons_self
    · cases hj
  · rw [if_neg hji] at hj
    refine List.mem_cons_of_mem _ (List.mem_filter.mpr ⟨(zp_mem lv 0).mpr ⟨j, by omega, hj⟩, ?_⟩)
    have e1 : (j == i) = false := by simp; omega
    by_cases hp : j + 1 = i
    · subst hp
      simp only [z1, hj] at h1
      have : w.category = 1 := by simpa using h1
      simp [this]
    · have e2 : (j + 1 == i) = false := by simp [hp]
      simp [e2]; omega
theorem zh_set2 {ls : Array Slot} {nL i : Nat} {v : Value} {lv : List (Option Value)} (h : lv_has ls nL ((i, v) :: (zp 0 lv).filter (fun q => !(q.1 == i) && (!(q.1 == i + 1) && !(q.1 + 1 == i && q.2.category == 2))))) (h1 : z1 lv i = true) : zh ls nL ((lv.set i (some v)).set (i + 1) none) := by
  refine zh_of h (fun j w hj => ?_)
  rw [List.getElem?_set] at hj
  by_cases hji1 : i + 1 = j
  · rw [if_pos hji1] at hj
    split at hj
    · cases hj
    · cases hj
  · rw [if_neg hji1, List.getElem?_set] at hj
    by_cases hji : i = j
    · rw [if_pos hji] at hj
      split at hj
      · cases hj
        subst hji
        exact List.mem_cons_self
      · cases hj
    · rw [if_neg hji] at hj
      refine List.mem_cons_of_mem _ (List.mem_filter.mpr ⟨(zp_mem lv 0).mpr ⟨j, by omega, hj⟩, ?_⟩)
      have e1 : (j == i) = false := by simp; omega
      have e3 : (j == i + 1) = false := by simp; omega
      by_cases hp : j + 1 = i
      · subst hp
        simp only [z1, hj] at h1
        have : w.category = 1 := by simpa using h1
        simp [this]; omega
      · have e2 : (j + 1 == i) = false := by simp [hp]
        simp [e2]; omega
abbrev zF : Type := Program × Env × Room × State × MethodId × Array Value × List Frame × Method × Code × (State → Prop) × (Nat → Prop)
def V (l : Launch) (d : zD) (F : zF) (k n : Nat) (ws : va_W) (lv : List (Option Value)) (pc : Nat) (st : List Value) : Prop := match F with
  | (p, e, R, s, m, args, below, meth, c, Q, A) => ∀ (H : Heap) (locs : List Loc) (ls : Array Slot), va_P d.1 classes ws H → va_D A ws → va_S A s.heap H locs → zh ls c.maxLocals lv → W p l e R s m args below meth c H locs k n Q (F0 m pc ls st)
/-- what a walk may take along of the world that nobody writes: it goes to less, to later states, to a callee's frame -/
def zEc (E : (Nat → Prop) → State → Prop) : Prop := (∀ (A B : Nat → Prop) (U : State), (∀ q, B q → A q) → E A U → E B U) ∧ (∀ (A : Nat → Prop) (s U : State), s.WarmedH U.vm → s.heap.size ≤ U.heap.size → (∀ a : Nat, a < s.heap.size → ¬ A a → U.heap[a]? = s.heap[a]?) → E A s → E A U) ∧ ∀ (A : Nat → Prop) (U : State) (g : JFrame) (mk : MethodId) (a : Array Value), E A U → E A (U.calling g mk a)
def zOk (d : zD) (F : zF) (own : String) (cc : ByteArray) (nL fr lo : Nat) : Prop := match F with
  | (p, _, R, s, m, args, _, _, c, _, A) => p.tables.exec = Jvm.exec ∧ c.code = cc ∧ c.maxLocals = nL ∧ s.vm.findClass own = some m.cls ∧ (∀ w ∈ zW, w.before args s = true) ∧ (∀ q : Nat, s.heap.size ≤ q → A q) ∧ va_K d.1 classes (zt d) s ∧ fr ≤ R.frames ∧ lo ≤ R.locals ∧ zEc d.2.2.2.2.2 ∧ d.2.2.2.2.2 A s
theorem zOk_le {d : zD} {F : zF} {own : String} {cc : ByteArray} {nL fr lo fr' lo' : Nat} (h1 : fr' ≤ fr) (h2 : lo' ≤ lo) (C : zOk d F own cc nL fr lo) : zOk d F own cc nL fr' lo' := by
  obtain ⟨p, e, R, s, m, args, below, meth, c, Q, A⟩ := F
  obtain ⟨c1, c2, c3, c4, c5, c6, c7, c8, c9, c10⟩ := C
  exact ⟨c1, c2, c3, c4, c5, c6, c7, Nat.le_trans h1 c8, Nat.le_trans h2 c9, c10⟩
def zQ (r : Option Value) (d : zD) (ws : va_W) (A : Nat → Prop) : Array Value → State → Outcome → State → Prop := fun _ st oc t => (oc = .returned r ∧ va_P d.1 classes ws t.heap ∧ va_K d.1 classes (zt d) t ∧ va_D A ws) ∧ va_F A st t
def zRt (d : zD) (F : zF) (ret : Option FieldType) (r : Option Value) (ws : va_W) : Prop := match F with
  | (_, _, _, s, _, args, below, meth, _, Q, A) => Q = MQ below (zQ r d ws A) args s 0 0 A ∧ meth.sig.returnType = ret ∧ meth.locks = false
def zM (l : Launch) (y : MethodName) (cc : ByteArray) (nL : Nat) (ret : Option FieldType) (fr lo : Nat) (d : zD) (av : List Value) (ws ws' : va_W) (r : Option Value) : Prop := ∀ sz : Nat, Met l y (.code y cc nL ret :: zW) { frames := fr, cells := 0, slots := 0, locals := lo } (va_Pc av (fun U => U.heap.size = sz ∧ va_P d.1 classes ws U.heap ∧ va_K d.1 classes (zt d) U ∧ va_D (fun _ => True) ws ∧ zEc d.2.2.2.2.2 ∧ d.2.2.2.2.2 (va_A ws sz) U)) (zQ r d ws' (va_A ws sz)) 0 0 (va_A ws sz)
theorem zM_of {l : Launch} {y : MethodName} {cc : ByteArray} {nL : Nat} {ret : Option FieldType} {fr lo : Nat} {d : zD} {av : List Value} {ws ws' : va_W} {r : Option Value} (lv : List (Option Value)) (hy : plainName y.cls = true) (hlv : zp 0 lv = lv_args 0 av) (hn : (lg_sl av).length ≤ nL) (K : ∀ F : zF, zOk d F y.cls cc nL fr lo → zRt d F ret r ws' → V l d F 0 0 ws lv 0 []) : zM l y cc nL ret fr lo d av ws ws' r := by
  intro sz
  refine Met.ofW (cc := cc) (maxL := nL) (ret := ret) hy rfl ?_
  intro p e s m args below meth c s₁ B hml hv
  obtain ⟨rfl, hsz, hP, hK, hD0, hEc, hE⟩ := hv
  subst hsz
  have hts := atoms_spec (ws := .code y cc nL ret :: zW) B.pre
  have hD := hD0.self (sz := s.heap.size)
  have hl := lv_entry av (n := nL) hn
  rw [lg_entry_eq]
  refine K (p, e, _, s, m, _, below, meth, c, _, va_A ws s.heap.size) ⟨B.exec, B.bytes, hml, findClass_of_methodNamed B.named, fun w hw => hts w (List.mem_cons_of_mem _ hw), fun q h => Or.inr h, hK, Nat.le_refl _, Nat.le_refl _, hEc, hE⟩ ⟨rfl, B.returns, B.notSynchronized⟩ s.heap [] _ hP hD va_S.rf ?_
  rw [hml]
  unfold zh
  rw [hlv]
  exact hl

theorem zr_iconst {l : Launch} {d : zD} {F : zF} {k n : Nat} {ws : va_W} {lv : List (Option Value)} {pc : Nat} {st : List Value} {own : String} {cc : ByteArray} {nL fr lo : Nat} {v : Int32} (i : Int) (pc' : Nat) (C : zOk d F own cc nL fr lo) (hd : decode cc pc = .ok (.iconst i, 1)) (hp : pc + 1 = pc') (hv : Int32.ofInt i = v) (K : V l d F k n ws lv pc' (.int v :: st)) : V l d F k n ws lv pc (st) := by
  subst hp
  obtain ⟨p, e, R, s, m, args, below, meth, c, Q, A⟩ := F
  intro H locs ls hP hD hS hl
  exact lv_iconst C.1 C.2.1 hd hv (K H locs ls hP hD hS hl)
theorem zr_bipush {l : Launch} {d : zD} {F : zF} {k n : Nat} {ws : va_W} {lv : List (Option Value)} {pc : Nat} {st : List Value} {own : String} {cc : ByteArray} {nL fr lo : Nat} {v : Int32} (i : Int) (pc' : Nat) (C : zOk d F own cc nL fr lo) (hd : decode cc pc = .ok (.bipush i, 2)) (hp : pc + 2 = pc') (hv : (Int8.ofInt i).toInt32 = v) (K : V l d F k n ws lv pc' (.int v :: st)) : V l d F k n ws lv pc (st) := by
  subst hp
  obtain ⟨p, e, R, s, m, args, below, meth, c, Q, A⟩ := F
  intro H locs ls hP hD hS hl
  exact lv_bipush C.1 C.2.1 hd hv (K H locs ls hP hD hS hl)
theorem zr_sipush {l : Launch} {d : zD} {F : zF} {k n : Nat} {ws : va_W} {lv : List (Option Value)} {pc : Nat} {st : List Value} {own : String} {cc : ByteArray} {nL fr lo : Nat} {v : Int32} (i : Int) (pc' : Nat) (C : zOk d F own cc nL fr lo) (hd : decode cc pc = .ok (.sipush i, 3)) (hp : pc + 3 = pc') (hv : (Int16.ofInt i).toInt32 = v) (K : V l d F k n ws lv pc' (.int v :: st)) : V l d F k n ws lv pc (st) := by
  subst hp
  obtain ⟨p, e, R, s, m, args, below, meth, c, Q, A⟩ := F
  intro H locs ls hP hD hS hl
  exact lv_sipush C.1 C.2.1 hd hv (K H locs ls hP hD hS hl)
theorem zr_lconst {l : Launch} {d : zD} {F : zF} {k n : Nat} {ws : va_W} {lv : List (Option Value)} {pc : Nat} {st : List Value} {own : String} {cc : ByteArray} {nL fr lo : Nat} {v : Int64} {i : Fin 2} (pc' : Nat) (C : zOk d F own cc nL fr lo) (hd : decode cc pc = .ok (.lconst i, 1)) (hp : pc + 1 = pc') (hv : Int64.ofNat (i : Nat) = v) (K : V l d F k n ws lv pc' (.long v :: st)) : V l d F k n ws lv pc (st) := by
  subst hp
  obtain ⟨p, e, R, s, m, args, below, meth, c, Q, A⟩ := F
  intro H locs ls hP hD hS hl
  exact lv_lconst C.1 C.2.1 hd hv (K H locs ls hP hD hS hl)
theorem zr_ldc {l : Launch} {d : zD} {F : zF} {k n : Nat} {ws : va_W} {lv : List (Option Value)} {pc : Nat} {st : List Value} {own : String} {cc : ByteArray} {nL fr lo : Nat} {v : Int32} {i : Nat} (pc' : Nat) (C : zOk d F own cc nL fr lo) (hd : decode cc pc = .ok (.ldc i, 2)) (hp : pc + 2 = pc') (hq : Cond.constant own i v ∈ zW) (K : V l d F k n ws lv pc' (.int v :: st)) : V l d F k n ws lv pc (st) := by
  subst hp
  obtain ⟨p, e, R, s, m, args, below, meth, c, Q, A⟩ := F
  intro H locs ls hP hD hS hl
  exact lv_ldc C.1 C.2.1 C.2.2.2.1 (C.2.2.2.2.1 _ hq) hd (K H locs ls hP hD hS hl)
theorem zr_ldc2 {l : Launch} {d : zD} {F : zF} {k n : Nat} {ws : va_W} {lv : List (Option Value)} {pc : Nat} {st : List Value} {own : String} {cc : ByteArray} {nL fr lo : Nat} {v : Int64} {i : Nat} (pc' : Nat) (C : zOk d F own cc nL fr lo) (hd : decode cc pc = .ok (.ldc2_w i, 3)) (hp : pc + 3 = pc') (hq : Cond.constantLong own i v ∈ zW) (K : V l d F k n ws lv pc' (.long v :: st)) : V l d F k n ws lv pc (st) := by
  subst hp
  obtain ⟨p, e, R, s, m, args, below, meth, c, Q, A⟩ := F
  intro H locs ls hP hD hS hl
  exact lv_ldc2 C.1 C.2.1 C.2.2.2.1 (C.2.2.2.2.1 _ hq) hd (K H locs ls hP hD hS hl)
theorem zr_iload_n {l : Launch} {d : zD} {F : zF} {k n : Nat} {ws : va_W} {lv : List (Option Value)} {pc : Nat} {st : List Value} {own : String} {cc : ByteArray} {nL fr lo : Nat} {x : Int32} (i : Fin 4) (pc' : Nat) (C : zOk d F own cc nL fr lo) (hd : decode cc pc = .ok (.iload_n i, 1)) (hp : pc + 1 = pc') (hl0 : lv[(i : Nat)]? = some (some (.int x))) (K : V l d F k n ws lv pc' (.int x :: st)) : V l d F k n ws lv pc (st) := by
  subst hp
  obtain ⟨p, e, R, s, m, args, below, meth, c, Q, A⟩ := F
  intro H locs ls hP hD hS hl
  exact lv_iload_n C.1 C.2.1 hd rfl (zh_at hl hl0) (K H locs ls hP hD hS hl)
theorem zr_iload {l : Launch} {d : zD} {F : zF} {k n : Nat} {ws : va_W} {lv : List (Option Value)} {pc : Nat} {st : List Value} {own : String} {cc : ByteArray} {nL fr lo : Nat} {x : Int32} (i : Nat) (pc' : Nat) (C : zOk d F own cc nL fr lo) (hd : decode cc pc = .ok (.iload i, 2)) (hp : pc + 2 = pc') (hl0 : lv[i]? = some (some (.int x))) (K : V l d F k n ws lv pc' (.int x :: st)) : V l d F k n ws lv pc (st) := by
  subst hp
  obtain ⟨p, e, R, s, m, args, below, meth, c, Q, A⟩ := F
  intro H locs ls hP hD hS hl
  exact lv_iload C.1 C.2.1 hd (zh_at hl hl0) (K H locs ls hP hD hS hl)
theorem zr_lload_n {l : Launch} {d : zD} {F : zF} {k n : Nat} {ws : va_W} {lv : List (Option Value)} {pc : Nat} {st : List Value} {own : String} {cc : ByteArray} {nL fr lo : Nat} {x : Int64} (i : Fin 4) (pc' : Nat) (C : zOk d F own cc nL fr lo) (hd : decode cc pc = .ok (.lload_n i, 1)) (hp : pc + 1 = pc') (hl0 : lv[(i : Nat)]? = some (some (.long x))) (K : V l d F k n ws lv pc' (.long x :: st)) : V l d F k n ws lv pc (st) := by
  subst hp
  obtain ⟨p, e, R, s, m, args, below, meth, c, Q, A⟩ := F
  intro H locs ls hP hD hS hl
  exact lv_lload_n C.1 C.2.1 hd rfl (zh_at hl hl0) (K H locs ls hP hD hS hl)
theorem zr_aload_n {l : Launch} {d : zD} {F : zF} {k n : Nat} {ws : va_W} {lv : List (Option Value)} {pc : Nat} {st : List Value} {own : String} {cc : ByteArray} {nL fr lo : Nat} {x : Nat} (i : Fin 4) (pc' : Nat) (C : zOk d F own cc nL fr lo) (hd : decode cc pc = .ok (.aload_n i, 1)) (hp : pc + 1 = pc') (hl0 : lv[(i : Nat)]? = some (some (.ref x))) (K : V l d F k n ws lv pc' (.ref x :: st)) : V l d F k n ws lv pc (st) := by
  subst hp
  obtain ⟨p, e, R, s, m, args, below, meth, c, Q, A⟩ := F
  intro H locs ls hP hD hS hl
  exact lv_aload_n C.1 C.2.1 hd rfl (zh_at hl hl0) (K H locs ls hP hD hS hl)
theorem zr_aload {l : Launch} {d : zD} {F : zF} {k n : Nat} {ws : va_W} {lv : List (Option Value)} {pc : Nat} {st : List Value} {own : String} {cc : ByteArray} {nL fr lo : Nat} {x : Nat} (i : Nat) (pc' : Nat) (C : zOk d F own cc nL fr lo) (hd : decode cc pc = .ok (.aload i, 2)) (hp : pc + 2 = pc') (hl0 : lv[i]? = some (some (.ref x))) (K : V l d F k n ws lv pc' (.ref x :: st)) : V l d F k n ws lv pc (st) := by
  subst hp
  obtain ⟨p, e, R, s, m, args, below, meth, c, Q, A⟩ := F
  intro H locs ls hP hD hS hl
  exact lv_aload C.1 C.2.1 hd (zh_at hl hl0) (K H locs ls hP hD hS hl)
theorem zr_iadd {l : Launch} {d : zD} {F : zF} {k n : Nat} {ws : va_W} {lv : List (Option Value)} {pc : Nat} {st : List Value} {own : String} {cc : ByteArray} {nL fr lo : Nat} {x y : Int32} (pc' : Nat) (C : zOk d F own cc nL fr lo) (hd : decode cc pc = .ok (.iadd, 1)) (hp : pc + 1 = pc') (K : V l d F k n ws lv pc' (.int (x + y) :: st)) : V l d F k n ws lv pc (.int y :: .int x :: st) := by
  subst hp
  obtain ⟨p, e, R, s, m, args, below, meth, c, Q, A⟩ := F
  intro H locs ls hP hD hS hl
  exact lv_iadd C.1 C.2.1 hd (K H locs ls hP hD hS hl)
theorem zr_isub {l : Launch} {d : zD} {F : zF} {k n : Nat} {ws : va_W} {lv : List (Option Value)} {pc : Nat} {st : List Value} {own : String} {cc : ByteArray} {nL fr lo : Nat} {x y : Int32} (pc' : Nat) (C : zOk d F own cc nL fr lo) (hd : decode cc pc = .ok (.isub, 1)) (hp : pc + 1 = pc') (K : V l d F k n ws lv pc' (.int (x - y) :: st)) : V l d F k n ws lv pc (.int y :: .int x :: st) := by
  subst hp
  obtain ⟨p, e, R, s, m, args, below, meth, c, Q, A⟩ := F
  intro H locs ls hP hD hS hl
  exact lv_isub C.1 C.2.1 hd (K H locs ls hP hD hS hl)
theorem zr_imul {l : Launch} {d : zD} {F : zF} {k n : Nat} {ws : va_W} {lv : List (Option Value)} {pc : Nat} {st : List Value} {own : String} {cc : ByteArray} {nL fr lo : Nat} {x y : Int32} (pc' : Nat) (C : zOk d F own cc nL fr lo) (hd : decode cc pc = .ok (.imul, 1)) (hp : pc + 1 = pc') (K : V l d F k n ws lv pc' (.int (x * y) :: st)) : V l d F k n ws lv pc (.int y :: .int x :: st) := by
  subst hp
  obtain ⟨p, e, R, s, m, args, below, meth, c, Q, A⟩ := F
  intro H locs ls hP hD hS hl
  exact lv_imul C.1 C.2.1 hd (K H locs ls hP hD hS hl)
theorem zr_iand {l : Launch} {d : zD} {F : zF} {k n : Nat} {ws : va_W} {lv : List (Option Value)} {pc : Nat} {st : List Value} {own : String} {cc : ByteArray} {nL fr lo : Nat} {x y : Int32} (pc' : Nat) (C : zOk d F own cc nL fr lo) (hd : decode cc pc = .ok (.iand, 1)) (hp : pc + 1 = pc') (K : V l d F k n ws lv pc' (.int (x &&& y) :: st)) : V l d F k n ws lv pc (.int y :: .int x :: st) := by
  subst hp
  obtain ⟨p, e, R, s, m, args, below, meth, c, Q, A⟩ := F
  intro H locs ls hP hD hS hl
  exact lv_iand C.1 C.2.1 hd (K H locs ls hP hD hS hl)
theorem zr_ior {l : Launch} {d : zD} {F : zF} {k n : Nat} {ws : va_W} {lv : List (Option Value)} {pc : Nat} {st : List Value} {own : String} {cc : ByteArray} {nL fr lo : Nat} {x y : Int32} (pc' : Nat) (C : zOk d F own cc nL fr lo) (hd : decode cc pc = .ok (.ior, 1)) (hp : pc + 1 = pc') (K : V l d F k n ws lv pc' (.int (x ||| y) :: st)) : V l d F k n ws lv pc (.int y :: .int x :: st) := by
  subst hp
  obtain ⟨p, e, R, s, m, args, below, meth, c, Q, A⟩ := F
  intro H locs ls hP hD hS hl
  exact lv_ior C.1 C.2.1 hd (K H locs ls hP hD hS hl)
theorem zr_ixor {l : Launch} {d : zD} {F : zF} {k n : Nat} {ws : va_W} {lv : List (Option Value)} {pc : Nat} {st : List Value} {own : String} {cc : ByteArray} {nL fr lo : Nat} {x y : Int32} (pc' : Nat) (C : zOk d F own cc nL fr lo) (hd : decode cc pc = .ok (.ixor, 1)) (hp : pc + 1 = pc') (K : V l d F k n ws lv pc' (.int (x ^^^ y) :: st)) : V l d F k n ws lv pc (.int y :: .int x :: st) := by
  subst hp
  obtain ⟨p, e, R, s, m, args, below, meth, c, Q, A⟩ := F
  intro H locs ls hP hD hS hl
  exact lv_ixor C.1 C.2.1 hd (K H locs ls hP hD hS hl)
theorem zr_ishl {l : Launch} {d : zD} {F : zF} {k n : Nat} {ws : va_W} {lv : List (Option Value)} {pc : Nat} {st : List Value} {own : String} {cc : ByteArray} {nL fr lo : Nat} {x y : Int32} (pc' : Nat) (C : zOk d F own cc nL fr lo) (hd : decode cc pc = .ok (.ishl, 1)) (hp : pc + 1 = pc') (K : V l d F k n ws lv pc' (.int (zshl x y) :: st)) : V l d F k n ws lv pc (.int y :: .int x :: st) := by
  subst hp
  obtain ⟨p, e, R, s, m, args, below, meth, c, Q, A⟩ := F
  intro H locs ls hP hD hS hl
  exact lv_ishl C.1 C.2.1 hd (K H locs ls hP hD hS hl)
theorem zr_ishr {l : Launch} {d : zD} {F : zF} {k n : Nat} {ws : va_W} {lv : List (Option Value)} {pc : Nat} {st : List Value} {own : String} {cc : ByteArray} {nL fr lo : Nat} {x y : Int32} (pc' : Nat) (C : zOk d F own cc nL fr lo) (hd : decode cc pc = .ok (.ishr, 1)) (hp : pc + 1 = pc') (K : V l d F k n ws lv pc' (.int (zshr x y) :: st)) : V l d F k n ws lv pc (.int y :: .int x :: st) := by
  subst hp
  obtain ⟨p, e, R, s, m, args, below, meth, c, Q, A⟩ := F
  intro H locs ls hP hD hS hl
  exact lv_ishr C.1 C.2.1 hd (K H locs ls hP hD hS hl)
theorem zr_ladd {l : Launch} {d : zD} {F : zF} {k n : Nat} {ws : va_W} {lv : List (Option Value)} {pc : Nat} {st : List Value} {own : String} {cc : ByteArray} {nL fr lo : Nat} {x y : Int64} (pc' : Nat) (C : zOk d F own cc nL fr lo) (hd : decode cc pc = .ok (.ladd, 1)) (hp : pc + 1 = pc') (K : V l d F k n ws lv pc' (.long (x + y) :: st)) : V l d F k n ws lv pc (.long y :: .long x :: st) := by
  subst hp
  obtain ⟨p, e, R, s, m, args, below, meth, c, Q, A⟩ := F
  intro H locs ls hP hD hS hl
  exact lv_ladd C.1 C.2.1 hd (K H locs ls hP hD hS hl)
theorem zr_lor {l : Launch} {d : zD} {F : zF} {k n : Nat} {ws : va_W} {lv : List (Option Value)} {pc : Nat} {st : List Value} {own : String} {cc : ByteArray} {nL fr lo : Nat} {x y : Int64} (pc' : Nat) (C : zOk d F own cc nL fr lo) (hd : decode cc pc = .ok (.lor, 1)) (hp : pc + 1 = pc') (K : V l d F k n ws lv pc' (.long (x ||| y) :: st)) : V l d F k n ws lv pc (.long y :: .long x :: st) := by
  subst hp
  obtain ⟨p, e, R, s, m, args, below, meth, c, Q, A⟩ := F
  intro H locs ls hP hD hS hl
  exact lv_lor C.1 C.2.1 hd (K H locs ls hP hD hS hl)
theorem zr_land {l : Launch} {d : zD} {F : zF} {k n : Nat} {ws : va_W} {lv : List (Option Value)} {pc : Nat} {st : List Value} {own : String} {cc : ByteArray} {nL fr lo : Nat} {x y : Int64} (pc' : Nat) (C : zOk d F own cc nL fr lo) (hd : decode cc pc = .ok (.land, 1)) (hp : pc + 1 = pc') (K : V l d F k n ws lv pc' (.long (x &&& y) :: st)) : V l d F k n ws lv pc (.long y :: .long x :: st) := by
  subst hp
  obtain ⟨p, e, R, s, m, args, below, meth, c, Q, A⟩ := F
  intro H locs ls hP hD hS hl
  exact lv_land C.1 C.2.1 hd (K H locs ls hP hD hS hl)
theorem zr_ineg {l : Launch} {d : zD} {F : zF} {k n : Nat} {ws : va_W} {lv : List (Option Value)} {pc : Nat} {st : List Value} {own : String} {cc : ByteArray} {nL fr lo : Nat} {x : Int32} (pc' : Nat) (C : zOk d F own cc nL fr lo) (hd : decode cc pc = .ok (.ineg, 1)) (hp : pc + 1 = pc') (K : V l d F k n ws lv pc' (.int (-x) :: st)) : V l d F k n ws lv pc (.int x :: st) := by
  subst hp
  obtain ⟨p, e, R, s, m, args, below, meth, c, Q, A⟩ := F
  intro H locs ls hP hD hS hl
  exact lv_ineg C.1 C.2.1 hd (K H locs ls hP hD hS hl)
theorem zr_i2l {l : Launch} {d : zD} {F : zF} {k n : Nat} {ws : va_W} {lv : List (Option Value)} {pc : Nat} {st : List Value} {own : String} {cc : ByteArray} {nL fr lo : Nat} {x : Int32} (pc' : Nat) (C : zOk d F own cc nL fr lo) (hd : decode cc pc = .ok (.i2l, 1)) (hp : pc + 1 = pc') (K : V l d F k n ws lv pc' (.long x.toInt64 :: st)) : V l d F k n ws lv pc (.int x :: st) := by
  subst hp
  obtain ⟨p, e, R, s, m, args, below, meth, c, Q, A⟩ := F
  intro H locs ls hP hD hS hl
  exact lv_i2l C.1 C.2.1 hd rfl (K H locs ls hP hD hS hl)
theorem zr_l2i {l : Launch} {d : zD} {F : zF} {k n : Nat} {ws : va_W} {lv : List (Option Value)} {pc : Nat} {st : List Value} {own : String} {cc : ByteArray} {nL fr lo : Nat} {x : Int64} (pc' : Nat) (C : zOk d F own cc nL fr lo) (hd : decode cc pc = .ok (.l2i, 1)) (hp : pc + 1 = pc') (K : V l d F k n ws lv pc' (.int x.toInt32 :: st)) : V l d F k n ws lv pc (.long x :: st) := by
  subst hp
  obtain ⟨p, e, R, s, m, args, below, meth, c, Q, A⟩ := F
  intro H locs ls hP hD hS hl
  exact lv_l2i C.1 C.2.1 hd rfl (K H locs ls hP hD hS hl)
theorem zr_i2b {l : Launch} {d : zD} {F : zF} {k n : Nat} {ws : va_W} {lv : List (Option Value)} {pc : Nat} {st : List Value} {own : String} {cc : ByteArray} {nL fr lo : Nat} {x : Int32} (pc' : Nat) (C : zOk d F own cc nL fr lo) (hd : decode cc pc = .ok (.i2b, 1)) (hp : pc + 1 = pc') (K : V l d F k n ws lv pc' (.int x.toInt8.toInt32 :: st)) : V l d F k n ws lv pc (.int x :: st) := by
  subst hp
  obtain ⟨p, e, R, s, m, args, below, meth, c, Q, A⟩ := F
  intro H locs ls hP hD hS hl
  exact lv_i2b C.1 C.2.1 hd rfl (K H locs ls hP hD hS hl)
theorem zr_i2s {l : Launch} {d : zD} {F : zF} {k n : Nat} {ws : va_W} {lv : List (Option Value)} {pc : Nat} {st : List Value} {own : String} {cc : ByteArray} {nL fr lo : Nat} {x : Int32} (pc' : Nat) (C : zOk d F own cc nL fr lo) (hd : decode cc pc = .ok (.i2s, 1)) (hp : pc + 1 = pc') (K : V l d F k n ws lv pc' (.int x.toInt16.toInt32 :: st)) : V l d F k n ws lv pc (.int x :: st) := by
  subst hp
  obtain ⟨p, e, R, s, m, args, below, meth, c, Q, A⟩ := F
  intro H locs ls hP hD hS hl
  exact lv_i2s C.1 C.2.1 hd rfl (K H locs ls hP hD hS hl)
def zlshl (x : Int64) (y : Int32) : Int64 := x <<< (y.toInt64 &&& 63)
def zlshr (x : Int64) (y : Int32) : Int64 := x >>> (y.toInt64 &&& 63)
def zlushr (x : Int64) (y : Int32) : Int64 := (x.toUInt64 >>> (y.toInt64.toUInt64 &&& Int64.toUInt64 63)).toInt64
theorem zr_lshl {l : Launch} {d : zD} {F : zF} {k n : Nat} {ws : va_W} {lv : List (Option Value)} {pc : Nat} {st : List Value} {own : String} {cc : ByteArray} {nL fr lo : Nat} {x : Int64} {y : Int32} (pc' : Nat) (C : zOk d F own cc nL fr lo) (hd : decode cc pc = .ok (.lshl, 1)) (hp : pc + 1 = pc') (K : V l d F k n ws lv pc' (.long (zlshl x y) :: st)) : V l d F k n ws lv pc (.int y :: .long x :: st) := by
  subst hp
  obtain ⟨p, e, R, s, m, args, below, meth, c, Q, A⟩ := F
  intro H locs ls hP hD hS hl
  exact lv_lshl C.1 C.2.1 hd rfl (K H locs ls hP hD hS hl)
theorem zr_lshr {l : Launch} {d : zD} {F : zF} {k n : Nat} {ws : va_W} {lv : List (Option Value)} {pc : Nat} {st : List Value} {own : String} {cc : ByteArray} {nL fr lo : Nat} {x : Int64} {y : Int32} (pc' : Nat) (C : zOk d F own cc nL fr lo) (hd : decode cc pc = .ok (.lshr, 1)) (hp : pc + 1 = pc') (K : V l d F k n ws lv pc' (.long (zlshr x y) :: st)) : V l d F k n ws lv pc (.int y :: .long x :: st) := by
  subst hp
  obtain ⟨p, e, R, s, m, args, below, meth, c, Q, A⟩ := F
  intro H locs ls hP hD hS hl
  exact lv_lshr C.1 C.2.1 hd rfl (K H locs ls hP hD hS hl)
theorem zr_lushr {l : Launch} {d : zD} {F : zF} {k n : Nat} {ws : va_W} {lv : List (Option Value)} {pc : Nat} {st : List Value} {own : String} {cc : ByteArray} {nL fr lo : Nat} {x : Int64} {y : Int32} (pc' : Nat) (C : zOk d F own cc nL fr lo) (hd : decode cc pc = .ok (.lushr, 1)) (hp : pc + 1 = pc') (K : V l d F k n ws lv pc' (.long (zlushr x y) :: st)) : V l d F k n ws lv pc (.int y :: .long x :: st) := by
  subst hp
  obtain ⟨p, e, R, s, m, args, below, meth, c, Q, A⟩ := F
  intro H locs ls hP hD hS hl
  exact lv_lushr C.1 C.2.1 hd rfl (K H locs ls hP hD hS hl)
theorem zr_dup {l : Launch} {d : zD} {F : zF} {k n : Nat} {ws : va_W} {lv : List (Option Value)} {pc : Nat} {st : List Value} {own : String} {cc : ByteArray} {nL fr lo : Nat} {v : Value} (pc' : Nat) (C : zOk d F own cc nL fr lo) (hd : decode cc pc = .ok (.dup, 1)) (hp : pc + 1 = pc') (hv : v.category = 1) (K : V l d F k n ws lv pc' (v :: v :: st)) : V l d F k n ws lv pc (v :: st) := by
  subst hp
  obtain ⟨p, e, R, s, m, args, below, meth, c, Q, A⟩ := F
  intro H locs ls hP hD hS hl
  exact lv_dup C.1 C.2.1 hd hv (K H locs ls hP hD hS hl)
theorem zr_pop {l : Launch} {d : zD} {F : zF} {k n : Nat} {ws : va_W} {lv : List (Option Value)} {pc : Nat} {st : List Value} {own : String} {cc : ByteArray} {nL fr lo : Nat} {v : Value} (pc' : Nat) (C : zOk d F own cc nL fr lo) (hd : decode cc pc = .ok (.pop, 1)) (hp : pc + 1 = pc') (hv : v.category = 1) (K : V l d F k n ws lv pc' (st)) : V l d F k n ws lv pc (v :: st) := by
  subst hp
  obtain ⟨p, e, R, s, m, args, below, meth, c, Q, A⟩ := F
  intro H locs ls hP hD hS hl
  exact lv_pop C.1 C.2.1 hd hv (K H locs ls hP hD hS hl)
theorem zr_dup2 {l : Launch} {d : zD} {F : zF} {k n : Nat} {ws : va_W} {lv : List (Option Value)} {pc : Nat} {st : List Value} {own : String} {cc : ByteArray} {nL fr lo : Nat} {v w : Value} (pc' : Nat) (C : zOk d F own cc nL fr lo) (hd : decode cc pc = .ok (.dup2, 1)) (hp : pc + 1 = pc') (hv : v.category = 1) (hw : w.category = 1) (K : V l d F k n ws lv pc' (w :: v :: w :: v :: st)) : V l d F k n ws lv pc (w :: v :: st) := by
  subst hp
  obtain ⟨p, e, R, s, m, args, below, meth, c, Q, A⟩ := F
  intro H locs ls hP hD hS hl
  exact lv_dup2_11 C.1 C.2.1 hd hw hv (K H locs ls hP hD hS hl)
theorem zr_idiv {l : Launch} {d : zD} {F : zF} {k n : Nat} {ws : va_W} {lv : List (Option Value)} {pc : Nat} {st : List Value} {own : String} {cc : ByteArray} {nL fr lo : Nat} {x y : Int32} (pc' : Nat) (C : zOk d F own cc nL fr lo) (hd : decode cc pc = .ok (.idiv, 1)) (hp : pc + 1 = pc') (hne : ¬ y = 0) (K : V l d F k n ws lv pc' (.int (x / y) :: st)) : V l d F k n ws lv pc (.int y :: .int x :: st) := by
  subst hp
  obtain ⟨p, e, R, s, m, args, below, meth, c, Q, A⟩ := F
  intro H locs ls hP hD hS hl
  exact lv_idiv C.1 C.2.1 hd hne (K H locs ls hP hD hS hl)
theorem zr_irem {l : Launch} {d : zD} {F : zF} {k n : Nat} {ws : va_W} {lv : List (Option Value)} {pc : Nat} {st : List Value} {own : String} {cc : ByteArray} {nL fr lo : Nat} {x y : Int32} (pc' : Nat) (C : zOk d F own cc nL fr lo) (hd : decode cc pc = .ok (.irem, 1)) (hp : pc + 1 = pc') (hne : ¬ y = 0) (K : V l d F k n ws lv pc' (.int (zrem x y) :: st)) : V l d F k n ws lv pc (.int y :: .int x :: st) := by
  subst hp
  obtain ⟨p, e, R, s, m, args, below, meth, c, Q, A⟩ := F
  intro H locs ls hP hD hS hl
  exact lv_irem C.1 C.2.1 hd hne (K H locs ls hP hD hS hl)
theorem zr_istore_n {l : Launch} {d : zD} {F : zF} {k n : Nat} {ws : va_W} {lv : List (Option Value)} {pc : Nat} {st : List Value} {own : String} {cc : ByteArray} {nL fr lo : Nat} {x : Int32} (i : Fin 4) (lv' : List (Option Value)) (pc' : Nat) (C : zOk d F own cc nL fr lo) (hd : decode cc pc = .ok (.istore_n i, 1)) (hp : pc + 1 = pc') (hn : (i : Nat) < nL) (h1 : z1 lv i = true) (he : lv.set (i : Nat) (some (.int x)) = lv') (K : V l d F k n ws lv' pc' st) : V l d F k n ws lv pc (.int x :: st) := by
  subst hp
  subst he
  obtain ⟨p, e, R, s, m, args, below, meth, c, Q, A⟩ := F
  intro H locs ls hP hD hS hl
  exact lv_istore_n C.1 C.2.1 hd rfl hl (by rw [C.2.2.1]; exact hn) rfl (fun ls' hl' => K H locs ls' hP hD hS (zh_set1 hl' h1))
theorem zr_istore {l : Launch} {d : zD} {F : zF} {k n : Nat} {ws : va_W} {lv : List (Option Value)} {pc : Nat} {st : List Value} {own : String} {cc : ByteArray} {nL fr lo : Nat} {x : Int32} (i : Nat) (lv' : List (Option Value)) (pc' : Nat) (C : zOk d F own cc nL fr lo) (hd : decode cc pc = .ok (.istore i, 2)) (hp : pc + 2 = pc') (hn : i < nL) (h1 : z1 lv i = true) (he : lv.set i (some (.int x)) = lv') (K : V l d F k n ws lv' pc' st) : V l d F k n ws lv pc (.int x :: st) := by
  subst hp
  subst he
  obtain ⟨p, e, R, s, m, args, below, meth, c, Q, A⟩ := F
  intro H locs ls hP hD hS hl
  exact lv_istore C.1 C.2.1 hd hl (by rw [C.2.2.1]; exact hn) rfl (fun ls' hl' => K H locs ls' hP hD hS (zh_set1 hl' h1))
theorem zr_astore_n {l : Launch} {d : zD} {F : zF} {k n : Nat} {ws : va_W} {lv : List (Option Value)} {pc : Nat} {st : List Value} {own : String} {cc : ByteArray} {nL fr lo : Nat} {x : Nat} (i : Fin 4) (lv' : List (Option Value)) (pc' : Nat) (C : zOk d F own cc nL fr lo) (hd : decode cc pc = .ok (.astore_n i, 1)) (hp : pc + 1 = pc') (hn : (i : Nat) < nL) (h1 : z1 lv i = true) (he : lv.set (i : Nat) (some (.ref x)) = lv') (K : V l d F k n ws lv' pc' st) : V l d F k n ws lv pc (.ref x :: st) := by
  subst hp
  subst he
  obtain ⟨p, e, R, s, m, args, below, meth, c, Q, A⟩ := F
  intro H locs ls hP hD hS hl
  exact lv_astore_n C.1 C.2.1 hd rfl hl (by rw [C.2.2.1]; exact hn) rfl (fun ls' hl' => K H locs ls' hP hD hS (zh_set1 hl' h1))
theorem zr_astore {l : Launch} {d : zD} {F : zF} {k n : Nat} {ws : va_W} {lv : List (Option Value)} {pc : Nat} {st : List Value} {own : String} {cc : ByteArray} {nL fr lo : Nat} {x : Nat} (i : Nat) (lv' : List (Option Value)) (pc' : Nat) (C : zOk d F own cc nL fr lo) (hd : decode cc pc = .ok (.astore i, 2)) (hp : pc + 2 = pc') (hn : i < nL) (h1 : z1 lv i = true) (he : lv.set i (some (.ref x)) = lv') (K : V l d F k n ws lv' pc' st) : V l d F k n ws lv pc (.ref x :: st) := by
  subst hp
  subst he
  obtain ⟨p, e, R, s, m, args, below, meth, c, Q, A⟩ := F
  intro H locs ls hP hD hS hl
  exact lv_astore C.1 C.2.1 hd hl (by rw [C.2.2.1]; exact hn) rfl (fun ls' hl' => K H locs ls' hP hD hS (zh_set1 hl' h1))
theorem zr_lstore_n {l : Launch} {d : zD} {F : zF} {k n : Nat} {ws : va_W} {lv : List (Option Value)} {pc : Nat} {st : List Value} {own : String} {cc : ByteArray} {nL fr lo : Nat} {x : Int64} (i : Fin 4) (lv' : List (Option Value)) (pc' : Nat) (C : zOk d F own cc nL fr lo) (hd : decode cc pc = .ok (.lstore_n i, 1)) (hp : pc + 1 = pc') (hn : (i : Nat) + 1 < nL) (h1 : z1 lv i = true) (he : (lv.set (i : Nat) (some (.long x))).set ((i : Nat) + 1) none = lv') (K : V l d F k n ws lv' pc' st) : V l d F k n ws lv pc (.long x :: st) := by
  subst hp
  subst he
  obtain ⟨p, e, R, s, m, args, below, meth, c, Q, A⟩ := F
  intro H locs ls hP hD hS hl
  exact lv_lstore_n C.1 C.2.1 hd rfl hl (by rw [C.2.2.1]; exact hn) rfl (fun ls' hl' => K H locs ls' hP hD hS (zh_set2 hl' h1))
theorem zr_iinc {l : Launch} {d : zD} {F : zF} {k n : Nat} {ws : va_W} {lv : List (Option Value)} {pc : Nat} {st : List Value} {own : String} {cc : ByteArray} {nL fr lo : Nat} {x v : Int32} {j : Int} (i : Nat) (lv' : List (Option Value)) (pc' : Nat) (C : zOk d F own cc nL fr lo) (hd : decode cc pc = .ok (.iinc i j, 3)) (hp : pc + 3 = pc') (hl0 : lv[i]? = some (some (.int x))) (hv : x + Int32.ofInt j = v) (hn : i < nL) (h1 : z1 lv i = true) (he : lv.set i (some (.int v)) = lv') (K : V l d F k n ws lv' pc' st) : V l d F k n ws lv pc st := by
  subst hp
  subst he
  obtain ⟨p, e, R, s, m, args, below, meth, c, Q, A⟩ := F
  intro H locs ls hP hD hS hl
  obtain ⟨q, hq⟩ := List.getElem?_of_mem ((zp_mem lv 0).mpr ⟨i, (Nat.zero_add i).symm, hl0⟩)
  exact lv_iinc C.1 C.2.1 hd hl hq hv (by rw [C.2.2.1]; exact hn) rfl (fun ls' hl' => K H locs ls' hP hD hS (zh_set1 hl' h1))
theorem zr_goto {l : Launch} {d : zD} {F : zF} {k n : Nat} {ws : va_W} {lv : List (Option Value)} {pc : Nat} {st : List Value} {own : String} {cc : ByteArray} {nL fr lo : Nat} {off : Int} (tgt : Nat) (C : zOk d F own cc nL fr lo) (hd : decode cc pc = .ok (.goto off, 3)) (ht : (pc : Int) + off = (tgt : Int)) (K : V l d F k n ws lv tgt st) : V l d F k n ws lv pc st := by
  obtain ⟨p, e, R, s, m, args, below, meth, c, Q, A⟩ := F
  intro H locs ls hP hD hS hl
  exact lv_goto C.1 C.2.1 hd ht (K H locs ls hP hD hS hl)
theorem zr_icmp_eq {l : Launch} {d : zD} {F : zF} {k n : Nat} {ws : va_W} {lv : List (Option Value)} {pc : Nat} {st : List Value} {own : String} {cc : ByteArray} {nL fr lo : Nat} {x y : Int32} {off : Int} {β : Type} {X Y : Option β} {out : β} (tgt pc' : Nat) (C : zOk d F own cc nL fr lo) (hd : decode cc pc = .ok (.if_icmp .eq off, 3)) (ht : (pc : Int) + off = (tgt : Int)) (hp : pc + 3 = pc') (hf : (if x = y then X else Y) = some out) (K1 : X = some out → V l d F k n ws lv tgt st) (K2 : Y = some out → V l d F k n ws lv pc' st) : V l d F k n ws lv pc (.int y :: .int x :: st) := by
  subst hp
  obtain ⟨p, e, R, s, m, args, below, meth, c, Q, A⟩ := F
  intro H locs ls hP hD hS hl
  refine lv_icmp_eq C.1 C.2.1 hd ht (fun h => ?_) (fun h => ?_)
  · rw [if_pos h] at hf
    exact K1 hf H locs ls hP hD hS hl
  · rw [if_neg h] at hf
    exact K2 hf H locs ls hP hD hS hl
theorem zr_if_eq {l : Launch} {d : zD} {F : zF} {k n : Nat} {ws : va_W} {lv : List (Option Value)} {pc : Nat} {st : List Value} {own : String} {cc : ByteArray} {nL fr lo : Nat} {x : Int32} {off : Int} {β : Type} {X Y : Option β} {out : β} (tgt pc' : Nat) (C : zOk d F own cc nL fr lo) (hd : decode cc pc = .ok (.ifCond .eq off, 3)) (ht : (pc : Int) + off = (tgt : Int)) (hp : pc + 3 = pc') (hf : (if x = 0 then X else Y) = some out) (K1 : X = some out → V l d F k n ws lv tgt st) (K2 : Y = some out → V l d F k n ws lv pc' st) : V l d F k n ws lv pc (.int x :: st) := by
  subst hp
  obtain ⟨p, e, R, s, m, args, below, meth, c, Q, A⟩ := F
  intro H locs ls hP hD hS hl
  refine lv_if_eq C.1 C.2.1 hd ht (fun h => ?_) (fun h => ?_)
  · rw [if_pos h] at hf
    exact K1 hf H locs ls hP hD hS hl
  · rw [if_neg h] at hf
    exact K2 hf H locs ls hP hD hS hl
theorem zr_icmp_ne {l : Launch} {d : zD} {F : zF} {k n : Nat} {ws : va_W} {lv : List (Option Value)} {pc : Nat} {st : List Value} {own : String} {cc : ByteArray} {nL fr lo : Nat} {x y : Int32} {off : Int} {β : Type} {X Y : Option β} {out : β} (tgt pc' : Nat) (C : zOk d F own cc nL fr lo) (hd : decode cc pc = .ok (.if_icmp .ne off, 3)) (ht : (pc : Int) + off = (tgt : Int)) (hp : pc + 3 = pc') (hf : (if x = y then X else Y) = some out) (K1 : Y = some out → V l d F k n ws lv tgt st) (K2 : X = some out → V l d F k n ws lv pc' st) : V l d F k n ws lv pc (.int y :: .int x :: st) := by
  subst hp
  obtain ⟨p, e, R, s, m, args, below, meth, c, Q, A⟩ := F
  intro H locs ls hP hD hS hl
  refine lv_icmp_ne C.1 C.2.1 hd ht (fun h => ?_) (fun h => ?_)
  · rw [if_neg h] at hf
    exact K1 hf H locs ls hP hD hS hl
  · rw [if_pos h] at hf
    exact K2 hf H locs ls hP hD hS hl
theorem zr_if_ne {l : Launch} {d : zD} {F : zF} {k n : Nat} {ws : va_W} {lv : List (Option Value)} {pc : Nat} {st : List Value} {own : String} {cc : ByteArray} {nL fr lo : Nat} {x : Int32} {off : Int} {β : Type} {X Y : Option β} {out : β} (tgt pc' : Nat) (C : zOk d F own cc nL fr lo) (hd : decode cc pc = .ok (.ifCond .ne off, 3)) (ht : (pc : Int) + off = (tgt : Int)) (hp : pc + 3 = pc') (hf : (if x = 0 then X else Y) = some out) (K1 : Y = some out → V l d F k n ws lv tgt st) (K2 : X = some out → V l d F k n ws lv pc' st) : V l d F k n ws lv pc (.int x :: st) := by
  subst hp
  obtain ⟨p, e, R, s, m, args, below, meth, c, Q, A⟩ := F
  intro H locs ls hP hD hS hl
  refine lv_if_ne C.1 C.2.1 hd ht (fun h => ?_) (fun h => ?_)
  · rw [if_neg h] at hf
    exact K1 hf H locs ls hP hD hS hl
  · rw [if_pos h] at hf
    exact K2 hf H locs ls hP hD hS hl
theorem zr_icmp_lt {l : Launch} {d : zD} {F : zF} {k n : Nat} {ws : va_W} {lv : List (Option Value)} {pc : Nat} {st : List Value} {own : String} {cc : ByteArray} {nL fr lo : Nat} {x y : Int32} {off : Int} {β : Type} {X Y : Option β} {out : β} (tgt pc' : Nat) (C : zOk d F own cc nL fr lo) (hd : decode cc pc = .ok (.if_icmp .lt off, 3)) (ht : (pc : Int) + off = (tgt : Int)) (hp : pc + 3 = pc') (hf : (if x < y then X else Y) = some out) (K1 : X = some out → V l d F k n ws lv tgt st) (K2 : Y = some out → V l d F k n ws lv pc' st) : V l d F k n ws lv pc (.int y :: .int x :: st) := by
  subst hp
  obtain ⟨p, e, R, s, m, args, below, meth, c, Q, A⟩ := F
  intro H locs ls hP hD hS hl
  refine lv_icmp_lt C.1 C.2.1 hd ht (fun h => ?_) (fun h => ?_)
  · rw [if_pos h] at hf
    exact K1 hf H locs ls hP hD hS hl
  · rw [if_neg h] at hf
    exact K2 hf H locs ls hP hD hS hl
theorem zr_if_lt {l : Launch} {d : zD} {F : zF} {k n : Nat} {ws : va_W} {lv : List (Option Value)} {pc : Nat} {st : List Value} {own : String} {cc : ByteArray} {nL fr lo : Nat} {x : Int32} {off : Int} {β : Type} {X Y : Option β} {out : β} (tgt pc' : Nat) (C : zOk d F own cc nL fr lo) (hd : decode cc pc = .ok (.ifCond .lt off, 3)) (ht : (pc : Int) + off = (tgt : Int)) (hp : pc + 3 = pc') (hf : (if x < 0 then X else Y) = some out) (K1 : X = some out → V l d F k n ws lv tgt st) (K2 : Y = some out → V l d F k n ws lv pc' st) : V l d F k n ws lv pc (.int x :: st) := by
  subst hp
  obtain ⟨p, e, R, s, m, args, below, meth, c, Q, A⟩ := F
  intro H locs ls hP hD hS hl
  refine lv_if_lt C.1 C.2.1 hd ht (fun h => ?_) (fun h => ?_)
  · rw [if_pos h] at hf
    exact K1 hf H locs ls hP hD hS hl
  · rw [if_neg h] at hf
    exact K2 hf H locs ls hP hD hS hl
theorem zr_icmp_ge {l : Launch} {d : zD} {F : zF} {k n : Nat} {ws : va_W} {lv : List (Option Value)} {pc : Nat} {st : List Value} {own : String} {cc : ByteArray} {nL fr lo : Nat} {x y : Int32} {off : Int} {β : Type} {X Y : Option β} {out : β} (tgt pc' : Nat) (C : zOk d F own cc nL fr lo) (hd : decode cc pc = .ok (.if_icmp .ge off, 3)) (ht : (pc : Int) + off = (tgt : Int)) (hp : pc + 3 = pc') (hf : (if y ≤ x then X else Y) = some out) (K1 : X = some out → V l d F k n ws lv tgt st) (K2 : Y = some out → V l d F k n ws lv pc' st) : V l d F k n ws lv pc (.int y :: .int x :: st) := by
  subst hp
  obtain ⟨p, e, R, s, m, args, below, meth, c, Q, A⟩ := F
  intro H locs ls hP hD hS hl
  refine lv_icmp_ge C.1 C.2.1 hd ht (fun h => ?_) (fun h => ?_)
  · rw [if_pos h] at hf
    exact K1 hf H locs ls hP hD hS hl
  · rw [if_neg h] at hf
    exact K2 hf H locs ls hP hD hS hl
theorem zr_if_ge {l : Launch} {d : zD} {F : zF} {k n : Nat} {ws : va_W} {lv : List (Option Value)} {pc : Nat} {st : List Value} {own : String} {cc : ByteArray} {nL fr lo : Nat} {x : Int32} {off : Int} {β : Type} {X Y : Option β} {out : β} (tgt pc' : Nat) (C : zOk d F own cc nL fr lo) (hd : decode cc pc = .ok (.ifCond .ge off, 3)) (ht : (pc : Int) + off = (tgt : Int)) (hp : pc + 3 = pc') (hf : (if 0 ≤ x then X else Y) = some out) (K1 : X = some out → V l d F k n ws lv tgt st) (K2 : Y = some out → V l d F k n ws lv pc' st) : V l d F k n ws lv pc (.int x :: st) := by
  subst hp
  obtain ⟨p, e, R, s, m, args, below, meth, c, Q, A⟩ := F
  intro H locs ls hP hD hS hl
  refine lv_if_ge C.1 C.2.1 hd ht (fun h => ?_) (fun h => ?_)
  · rw [if_pos h] at hf
    exact K1 hf H locs ls hP hD hS hl
  · rw [if_neg h] at hf
    exact K2 hf H locs ls hP hD hS hl
theorem zr_icmp_gt {l : Launch} {d : zD} {F : zF} {k n : Nat} {ws : va_W} {lv : List (Option Value)} {pc : Nat} {st : List Value} {own : String} {cc : ByteArray} {nL fr lo : Nat} {x y : Int32} {off : Int} {β : Type} {X Y : Option β} {out : β} (tgt pc' : Nat) (C : zOk d F own cc nL fr lo) (hd : decode cc pc = .ok (.if_icmp .gt off, 3)) (ht : (pc : Int) + off = (tgt : Int)) (hp : pc + 3 = pc') (hf : (if y < x then X else Y) = some out) (K1 : X = some out → V l d F k n ws lv tgt st) (K2 : Y = some out → V l d F k n ws lv pc' st) : V l d F k n ws lv pc (.int y :: .int x :: st) := by
  subst hp
  obtain ⟨p, e, R, s, m, args, below, meth, c, Q, A⟩ := F
  intro H locs ls hP hD hS hl
  refine lv_icmp_gt C.1 C.2.1 hd ht (fun h => ?_) (fun h => ?_)
  · rw [if_pos h] at hf
    exact K1 hf H locs ls hP hD hS hl
  · rw [if_neg h] at hf
    exact K2 hf H locs ls hP hD hS hl
theorem zr_if_gt {l : Launch} {d : zD} {F : zF} {k n : Nat} {ws : va_W} {lv : List (Option Value)} {pc : Nat} {st : List Value} {own : String} {cc : ByteArray} {nL fr lo : Nat} {x : Int32} {off : Int} {β : Type} {X Y : Option β} {out : β} (tgt pc' : Nat) (C : zOk d F own cc nL fr lo) (hd : decode cc pc = .ok (.ifCond .gt off, 3)) (ht : (pc : Int) + off = (tgt : Int)) (hp : pc + 3 = pc') (hf : (if 0 < x then X else Y) = some out) (K1 : X = some out → V l d F k n ws lv tgt st) (K2 : Y = some out → V l d F k n ws lv pc' st) : V l d F k n ws lv pc (.int x :: st) := by
  subst hp
  obtain ⟨p, e, R, s, m, args, below, meth, c, Q, A⟩ := F
  intro H locs ls hP hD hS hl
  refine lv_if_gt C.1 C.2.1 hd ht (fun h => ?_) (fun h => ?_)
  · rw [if_pos h] at hf
    exact K1 hf H locs ls hP hD hS hl
  · rw [if_neg h] at hf
    exact K2 hf H locs ls hP hD hS hl
theorem zr_icmp_le {l : Launch} {d : zD} {F : zF} {k n : Nat} {ws : va_W} {lv : List (Option Value)} {pc : Nat} {st : List Value} {own : String} {cc : ByteArray} {nL fr lo : Nat} {x y : Int32} {off : Int} {β : Type} {X Y : Option β} {out : β} (tgt pc' : Nat) (C : zOk d F own cc nL fr lo) (hd : decode cc pc = .ok (.if_icmp .le off, 3)) (ht : (pc : Int) + off = (tgt : Int)) (hp : pc + 3 = pc') (hf : (if x ≤ y then X else Y) = some out) (K1 : X = some out → V l d F k n ws lv tgt st) (K2 : Y = some out → V l d F k n ws lv pc' st) : V l d F k n ws lv pc (.int y :: .int x :: st) := by
  subst hp
  obtain ⟨p, e, R, s, m, args, below, meth, c, Q, A⟩ := F
  intro H locs ls hP hD hS hl
  refine lv_icmp_le C.1 C.2.1 hd ht (fun h => ?_) (fun h => ?_)
  · rw [if_pos h] at hf
    exact K1 hf H locs ls hP hD hS hl
  · rw [if_neg h] at hf
    exact K2 hf H locs ls hP hD hS hl
theorem zr_if_le {l : Launch} {d : zD} {F : zF} {k n : Nat} {ws : va_W} {lv : List (Option Value)} {pc : Nat} {st : List Value} {own : String} {cc : ByteArray} {nL fr lo : Nat} {x : Int32} {off : Int} {β : Type} {X Y : Option β} {out : β} (tgt pc' : Nat) (C : zOk d F own cc nL fr lo) (hd : decode cc pc = .ok (.ifCond .le off, 3)) (ht : (pc : Int) + off = (tgt : Int)) (hp : pc + 3 = pc') (hf : (if x ≤ 0 then X else Y) = some out) (K1 : X = some out → V l d F k n ws lv tgt st) (K2 : Y = some out → V l d F k n ws lv pc' st) : V l d F k n ws lv pc (.int x :: st) := by
  subst hp
  obtain ⟨p, e, R, s, m, args, below, meth, c, Q, A⟩ := F
  intro H locs ls hP hD hS hl
  refine lv_if_le C.1 C.2.1 hd ht (fun h => ?_) (fun h => ?_)
  · rw [if_pos h] at hf
    exact K1 hf H locs ls hP hD hS hl
  · rw [if_neg h] at hf
    exact K2 hf H locs ls hP hD hS hl
theorem zr_name {l : Launch} {d : zD} {F : zF} {k n : Nat} {ws : va_W} {lv : List (Option Value)} {pc : Nat} {st : List Value} {x : Int32} {β : Type} {f : Int32 → Option β} {out : β} (hf : zlt x f = some out) (K : ∀ y : Int32, f y = some out → V l d F k n ws lv pc (.int y :: st)) : V l d F k n ws lv pc (.int x :: st) := K x hf
theorem zr_namel {l : Launch} {d : zD} {F : zF} {k n : Nat} {ws : va_W} {lv : List (Option Value)} {pc : Nat} {st : List Value} {x : Int64} {β : Type} {f : Int64 → Option β} {out : β} (hf : zlt x f = some out) (K : ∀ y : Int64, f y = some out → V l d F k n ws lv pc (.long y :: st)) : V l d F k n ws lv pc (.long x :: st) := K x hf
theorem zr_less {l : Launch} {d : zD} {F : zF} {k n : Nat} {ws : va_W} {lv lv' : List (Option Value)} {pc : Nat} {st : List Value} (hz : zle lv' lv) (K : V l d F k n ws lv' pc st) : V l d F k n ws lv pc st := by
  obtain ⟨p, e, R, s, m, args, below, meth, c, Q, A⟩ := F
  intro H locs ls hP hD hS hl
  exact K H locs ls hP hD hS (zh_le hl hz)
theorem zr_iret {l : Launch} {d : zD} {F : zF} {ws : va_W} {lv : List (Option Value)} {pc : Nat} {own : String} {cc : ByteArray} {nL fr lo : Nat} {v : Int32} (C : zOk d F own cc nL fr lo) (hd : decode cc pc = .ok (.ireturn, 1)) (T : zRt d F (some .int) (some (.int v)) ws) : V l d F 0 0 ws lv pc [.int v] := by
  obtain ⟨p, e, R, s, m, args, below, meth, c, Q, A⟩ := F
  intro H locs ls hP hD hS hl
  obtain ⟨rfl, hr, hlk⟩ := T
  exact W.iret C.1 C.2.1 hr (fun t ht hW => ⟨⟨rfl, by rw [ht]; exact hP, va_K.moved hW.alike C.2.2.2.2.2.2.1, hD⟩, hS.F ht⟩) hS.2.2 hd hlk
theorem zr_zret {l : Launch} {d : zD} {F : zF} {ws : va_W} {lv : List (Option Value)} {pc : Nat} {own : String} {cc : ByteArray} {nL fr lo : Nat} {v : Int32} {ty : FieldType} (C : zOk d F own cc nL fr lo) (hd : decode cc pc = .ok (.ireturn, 1)) (hn : narrow ty (.int v) = .int v) (T : zRt d F (some ty) (some (.int v)) ws) : V l d F 0 0 ws lv pc [.int v] := by
  obtain ⟨p, e, R, s, m, args, below, meth, c, Q, A⟩ := F
  intro H locs ls hP hD hS hl
  obtain ⟨rfl, hr, hlk⟩ := T
  exact W.zret C.1 C.2.1 hr hn (fun t ht hW => ⟨⟨rfl, by rw [ht]; exact hP, va_K.moved hW.alike C.2.2.2.2.2.2.1, hD⟩, hS.F ht⟩) hS.2.2 hd hlk
theorem zr_lret {l : Launch} {d : zD} {F : zF} {ws : va_W} {lv : List (Option Value)} {pc : Nat} {own : String} {cc : ByteArray} {nL fr lo : Nat} {v : Int64} (C : zOk d F own cc nL fr lo) (hd : decode cc pc = .ok (.lreturn, 1)) (T : zRt d F (some .long) (some (.long v)) ws) : V l d F 0 0 ws lv pc [.long v] := by
  obtain ⟨p, e, R, s, m, args, below, meth, c, Q, A⟩ := F
  intro H locs ls hP hD hS hl
  obtain ⟨rfl, hr, hlk⟩ := T
  exact W.lret C.1 C.2.1 hr (fun t ht hW => ⟨⟨rfl, by rw [ht]; exact hP, va_K.moved hW.alike C.2.2.2.2.2.2.1, hD⟩, hS.F ht⟩) hS.2.2 hd hlk
theorem zr_vret {l : Launch} {d : zD} {F : zF} {ws : va_W} {lv : List (Option Value)} {pc : Nat} {own : String} {cc : ByteArray} {nL fr lo : Nat} (C : zOk d F own cc nL fr lo) (hd : decode cc pc = .ok (.return_, 1)) (T : zRt d F none none ws) : V l d F 0 0 ws lv pc [] := by
  obtain ⟨p, e, R, s, m, args, below, meth, c, Q, A⟩ := F
  intro H locs ls hP hD hS hl
  obtain ⟨rfl, hr, hlk⟩ := T
  exact W.vret C.1 C.2.1 hr (fun t ht hW => ⟨⟨rfl, by rw [ht]; exact hP, va_K.moved hW.alike C.2.2.2.2.2.2.1, hD⟩, hS.F ht⟩) hS.2.2 hd hlk

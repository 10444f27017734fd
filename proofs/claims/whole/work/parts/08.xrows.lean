/-! What nobody writes, for the class: nest links, the static row ABOVE, String constants. -/
def zNests : List Cond := [.methodLinkNest RX10 11 yX4_init RX10, .methodLinkNest RX10 18 yX8_init RX10, .methodLinkNest RX10 25 yX9_init RX10, .methodLinkNest RX9 26 yX5_init RX10, .methodLinkNest RX10 39 yX6_init RX10, .methodLinkNest RX10 46 yX3_init RX10, .methodLinkNest RX10 53 yX1_init RX10, .methodLinkNest RX10 67 yX0_init RX10, .methodLinkNest RX9 84 yX10_has RX10, .methodLinkNest RX0 66 yX10_isFrom RX10, .methodLinkNest RX0 70 yX10_apart RX10, .methodLinkNest RX9 103 yX10_apart RX10]
def zAbv : Nat → Int32 := fun k => ([-1, 0, 1, 1, 2, 4] : List Int32).getD k 0
def zSlen : List Nat := [50, 4, 3, 2, 3, 3, 5, 4, 4, 6, 4, 7]
def zSbyt : List (List Int32) := [[110, 101, 97, 114, 32, 97, 112, 97, 114, 116, 32, 60, 32, 53, 48, 32, 97, 110, 100, 32, 104, 117, 116, 115, 32, 60, 32, 50, 32, 59, 32, 102, 97, 114, 32, 49, 50, 32, 45, 32, 108, 111, 97, 102, 32, 42, 32, 52, 32, 59], [110, 101, 97, 114], [102, 97, 114], [111, 114], [97, 110, 100], [110, 111, 116], [97, 112, 97, 114, 116], [115, 105, 100, 101], [104, 117, 116, 115], [104, 111, 117, 115, 101, 115], [108, 111, 97, 102], [114, 97, 118, 105, 110, 101, 115]]
def zNs (U : State) : Prop := (∀ w ∈ zNests, va_Nw w U) ∧ va_AOA .int U
def zAb (A : Nat → Prop) (U : State) : Prop := ∃ t, va_Z RX10 "ABOVE" "[I" (.ref t) A U U.heap ∧ va_T .int t 6 (fun j => .int (zAbv j)) A U U.heap
def zSk (ad : Nat → Nat) (U : State) : Prop := vk_R RX10 85 "near apart < 50 and huts < 2 ; far 12 - loaf * 4 ;" (ad 0) U ∧ vk_R RX4 88 "near" (ad 1) U ∧ vk_R RX4 94 "far" (ad 2) U ∧ vk_R RX4 96 "or" (ad 3) U ∧ vk_R RX4 98 "and" (ad 4) U ∧ vk_R RX4 100 "not" (ad 5) U ∧ vk_R RX4 102 "apart" (ad 6) U ∧ vk_R RX4 104 "side" (ad 7) U ∧ vk_R RX4 106 "huts" (ad 8) U ∧ vk_R RX4 108 "houses" (ad 9) U ∧ vk_R RX4 110 "loaf" (ad 10) U ∧ vk_R RX4 112 "ravines" (ad 11) U
def zSt (ad av : Nat → Nat) (A : Nat → Prop) (U : State) : Prop := vk_S 12 zSlen zSbyt ad av A U U.heap ∧ va_Z "java/lang/String" "COMPACT_STRINGS" "Z" (.int 1) A U U.heap ∧ va_Zq "jdk/internal/util/Preconditions" "SIOOBE_FORMATTER" "Ljava/util/function/BiFunction;" A U U.heap
def zXe (d : zD) (ad av : Nat → Nat) : Prop := ∀ (A : Nat → Prop) (U : State), d.2.2.2.2.2 A U → zNs U ∧ zAb A U ∧ zSk ad U ∧ zSt ad av A U
theorem zn_0 {d : zD} {ad av : Nat → Nat} (E : zXe d ad av) : ∀ A U, d.2.2.2.2.2 A U → va_Nw (.methodLinkNest RX10 11 yX4_init RX10) U := fun A U h => (E A U h).1.1 _ (List.mem_of_getElem? (i := 0) rfl)
theorem zn_1 {d : zD} {ad av : Nat → Nat} (E : zXe d ad av) : ∀ A U, d.2.2.2.2.2 A U → va_Nw (.methodLinkNest RX10 18 yX8_init RX10) U := fun A U h => (E A U h).1.1 _ (List.mem_of_getElem? (i := 1) rfl)
theorem zn_2 {d : zD} {ad av : Nat → Nat} (E : zXe d ad av) : ∀ A U, d.2.2.2.2.2 A U → va_Nw (.methodLinkNest RX10 25 yX9_init RX10) U := fun A U h => (E A U h).1.1 _ (List.mem_of_getElem? (i := 2) rfl)
theorem zn_3 {d : zD} {ad av : Nat → Nat} (E : zXe d ad av) : ∀ A U, d.2.2.2.2.2 A U → va_Nw (.methodLinkNest RX9 26 yX5_init RX10) U := fun A U h => (E A U h).1.1 _ (List.mem_of_getElem? (i := 3) rfl)
theorem zn_4 {d : zD} {ad av : Nat → Nat} (E : zXe d ad av) : ∀ A U, d.2.2.2.2.2 A U → va_Nw (.methodLinkNest RX10 39 yX6_init RX10) U := fun A U h => (E A U h).1.1 _ (List.mem_of_getElem? (i := 4) rfl)
theorem zn_5 {d : zD} {ad av : Nat → Nat} (E : zXe d ad av) : ∀ A U, d.2.2.2.2.2 A U → va_Nw (.methodLinkNest RX10 46 yX3_init RX10) U := fun A U h => (E A U h).1.1 _ (List.mem_of_getElem? (i := 5) rfl)
theorem zn_6 {d : zD} {ad av : Nat → Nat} (E : zXe d ad av) : ∀ A U, d.2.2.2.2.2 A U → va_Nw (.methodLinkNest RX10 53 yX1_init RX10) U := fun A U h => (E A U h).1.1 _ (List.mem_of_getElem? (i := 6) rfl)
theorem zn_7 {d : zD} {ad av : Nat → Nat} (E : zXe d ad av) : ∀ A U, d.2.2.2.2.2 A U → va_Nw (.methodLinkNest RX10 67 yX0_init RX10) U := fun A U h => (E A U h).1.1 _ (List.mem_of_getElem? (i := 7) rfl)
theorem zn_8 {d : zD} {ad av : Nat → Nat} (E : zXe d ad av) : ∀ A U, d.2.2.2.2.2 A U → va_Nw (.methodLinkNest RX9 84 yX10_has RX10) U := fun A U h => (E A U h).1.1 _ (List.mem_of_getElem? (i := 8) rfl)
theorem zn_9 {d : zD} {ad av : Nat → Nat} (E : zXe d ad av) : ∀ A U, d.2.2.2.2.2 A U → va_Nw (.methodLinkNest RX0 66 yX10_isFrom RX10) U := fun A U h => (E A U h).1.1 _ (List.mem_of_getElem? (i := 9) rfl)
theorem zn_10 {d : zD} {ad av : Nat → Nat} (E : zXe d ad av) : ∀ A U, d.2.2.2.2.2 A U → va_Nw (.methodLinkNest RX0 70 yX10_apart RX10) U := fun A U h => (E A U h).1.1 _ (List.mem_of_getElem? (i := 10) rfl)
theorem zn_11 {d : zD} {ad av : Nat → Nat} (E : zXe d ad av) : ∀ A U, d.2.2.2.2.2 A U → va_Nw (.methodLinkNest RX9 103 yX10_apart RX10) U := fun A U h => (E A U h).1.1 _ (List.mem_of_getElem? (i := 11) rfl)
def zabs (x : Int32) : Int32 := if 0 ≤ x then x else 0 - x
def zmax (x y : Int32) : Int32 := if x < y then y else x
def zmin (x y : Int32) : Int32 := if y < x then y else x
theorem zr_mabs {l : Launch} {d : zD} {F : zF} {ws : va_W} {lv : List (Option Value)} {pc : Nat} {st : List Value} {own : String} {cc : ByteArray} {nL fr lo idx : Nat} {x : Int32} (pc' : Nat) (C : zOk d F own cc nL fr lo) (hd : decode cc pc = .ok (.invokestatic idx, 3)) (hp : pc + 3 = pc') (hq : Cond.methodLink own idx yJ9_abs_0f7a4 ∈ zW) (hm : 1 ≤ fr ∧ 21 ≤ lo) (hr : (st.map fun v => v.category).sum ≤ 8) (K : V l d F 0 0 ws lv pc' (.int (zabs x) :: st)) : V l d F 0 0 ws lv pc (.int x :: st) := by
  subst hp
  obtain ⟨p, e, R, s, m, args, below, meth, c, Q, A⟩ := F
  intro H locs ls hP hD hS hl
  have hts := C.2.2.2.2.1
  exact va_mabs C.1 C.2.1 hl.1.symm C.2.2.2.1 (hts _ hq) (hts _ q_532) (hts _ q_88) (hts _ q_533) (Nat.le_trans hm.1 C.2.2.2.2.2.2.2.1) (by have h1 := hm.2; have h2 := C.2.2.2.2.2.2.2.2.1; omega) (Nat.zero_le _) (Nat.zero_le _) hd (K H locs ls hP hD hS hl)
theorem zr_mmax {l : Launch} {d : zD} {F : zF} {ws : va_W} {lv : List (Option Value)} {pc : Nat} {st : List Value} {own : String} {cc : ByteArray} {nL fr lo idx : Nat} {x y : Int32} (pc' : Nat) (C : zOk d F own cc nL fr lo) (hd : decode cc pc = .ok (.invokestatic idx, 3)) (hp : pc + 3 = pc') (hq : Cond.methodLink own idx yJ9_max_7cf53 ∈ zW) (hm : 1 ≤ fr ∧ 21 ≤ lo) (hr : (st.map fun v => v.category).sum ≤ 8) (K : V l d F 0 0 ws lv pc' (.int (zmax x y) :: st)) : V l d F 0 0 ws lv pc (.int y :: .int x :: st) := by
  subst hp
  obtain ⟨p, e, R, s, m, args, below, meth, c, Q, A⟩ := F
  intro H locs ls hP hD hS hl
  have hts := C.2.2.2.2.1
  exact va_mmax C.1 C.2.1 hl.1.symm C.2.2.2.1 (hts _ hq) (hts _ q_651) (hts _ q_88) (hts _ q_652) (Nat.le_trans hm.1 C.2.2.2.2.2.2.2.1) (by have h1 := hm.2; have h2 := C.2.2.2.2.2.2.2.2.1; omega) (Nat.zero_le _) (Nat.zero_le _) hd (K H locs ls hP hD hS hl)
theorem zr_mmin {l : Launch} {d : zD} {F : zF} {ws : va_W} {lv : List (Option Value)} {pc : Nat} {st : List Value} {own : String} {cc : ByteArray} {nL fr lo idx : Nat} {x y : Int32} (pc' : Nat) (C : zOk d F own cc nL fr lo) (hd : decode cc pc = .ok (.invokestatic idx, 3)) (hp : pc + 3 = pc') (hq : Cond.methodLink own idx yJ9_min_7cf53 ∈ zW) (hm : 1 ≤ fr ∧ 21 ≤ lo) (hr : (st.map fun v => v.category).sum ≤ 8) (K : V l d F 0 0 ws lv pc' (.int (zmin x y) :: st)) : V l d F 0 0 ws lv pc (.int y :: .int x :: st) := by
  subst hp
  obtain ⟨p, e, R, s, m, args, below, meth, c, Q, A⟩ := F
  intro H locs ls hP hD hS hl
  have hts := C.2.2.2.2.1
  exact va_mmin C.1 C.2.1 hl.1.symm C.2.2.2.1 (hts _ hq) (hts _ q_502) (hts _ q_88) (hts _ q_503) (Nat.le_trans hm.1 C.2.2.2.2.2.2.2.1) (by have h1 := hm.2; have h2 := C.2.2.2.2.2.2.2.2.1; omega) (Nat.zero_le _) (Nat.zero_le _) hd (K H locs ls hP hD hS hl)
def zcp {β : Type} (sp dp n : Int32) (n0 n1 : Nat) (x : Option β) : Option β := if sp < 0 ∨ dp < 0 ∨ n < 0 ∨ n0 < sp.toNatClampNeg + n.toNatClampNeg ∨ n1 < dp.toNatClampNeg + n.toNatClampNeg then none else x
theorem zr_copy {l : Launch} {d : zD} {F : zF} {ws : va_W} {lv : List (Option Value)} {pc : Nat} {own : String} {cc : ByteArray} {nL fr lo : Nat} {st : List Value} {idx a0 a1 n0 n1 : Nat} {f g : Nat → Int32} {sp dp n : Int32} {β : Type} {X : Option β} {out : β} {ws' : va_W} (q0 q1 : Nat) (h0 : ws[q0]? = some (a0, .inl (d.2.1, n0, .inl f))) (h1 : ws[q1]? = some (a1, .inl (d.2.1, n1, .inl g))) (hw : ws.set q1 (a1, .inl (d.2.1, n1, .inl (va_cpy f g sp.toNatClampNeg dp.toNatClampNeg n.toNatClampNeg))) = ws') (pc' : Nat) (C : zOk d F own cc nL fr lo) (hd : decode cc pc = .ok (.invokestatic idx, 3)) (hp : pc + 3 = pc') (hq : Cond.methodLink own idx arraycopyName ∈ zW) (hm : 1 ≤ fr ∧ 8 + (nativeFrameWords "java/lang/System" "arraycopy" 5 + 11) ≤ lo) (hr : (st.map fun v => v.category).sum ≤ 8) (hf : zcp sp dp n n0 n1 X = some out) (K : X = some out → V l d F 0 0 ws' lv pc' st) : V l d F 0 0 ws lv pc (.int n :: .int dp :: .ref a1 :: .int sp :: .ref a0 :: st) := by
  subst hp
  subst hw
  unfold zcp at hf
  split at hf
  · cases hf
  · rename_i hin
    have g1 : ¬ sp < 0 := fun h => hin (Or.inl h)
    have g2 : ¬ dp < 0 := fun h => hin (Or.inr (Or.inl h))
    have g3 : ¬ n < 0 := fun h => hin (Or.inr (Or.inr (Or.inl h)))
    have g4 : sp.toNatClampNeg + n.toNatClampNeg ≤ n0 := Nat.not_lt.mp fun h => hin (Or.inr (Or.inr (Or.inr (Or.inl h))))
    have g5 : dp.toNatClampNeg + n.toNatClampNeg ≤ n1 := Nat.not_lt.mp fun h => hin (Or.inr (Or.inr (Or.inr (Or.inr h))))
    obtain ⟨p, e, R, s, m, args, below, meth, c, Q, A⟩ := F
    intro H locs ls hP hD hS hl
    have hts := C.2.2.2.2.1
    exact va_copyi (D := d.1) (ty := .int) C.1 C.2.1 hl.1.symm C.2.2.2.1 (hts _ hq) (hts _ q_506) (hts _ q_505) (hts _ q_89) C.2.2.2.2.2.2.1 hP hD hS q0 q1 0 0 h0 h1 rfl rfl rfl g1 g2 g3 g4 g5 (fun _ _ => rfl) (Nat.le_trans hm.1 C.2.2.2.2.2.2.2.1) (by have h1 := hm.2; have h2 := C.2.2.2.2.2.2.2.2.1; omega) hd (fun H1 locs1 hP1 hD1 hS1 => K hf H1 locs1 ls hP1 hD1 hS1 hl)
theorem zr_aald {l : Launch} {d : zD} {F : zF} {k n : Nat} {ws : va_W} {lv : List (Option Value)} {pc : Nat} {st : List Value} {own : String} {cc : ByteArray} {nL fr lo : Nat} {a N : Nat} {f : Nat → Option Nat} {i : Int32} {β : Type} {X : Option β} {out : β} (q0 : Nat) (he : ws[q0]? = some (a, .inl (d.2.2.2.2.1, N, .inr (.inr (.inr (.inr f)))))) (pc' : Nat) (C : zOk d F own cc nL fr lo) (hd : decode cc pc = .ok (.aaload, 1)) (hp : pc + 1 = pc') (hf : zin i N X = some out) (K : X = some out → V l d F k n ws lv pc' (va_rf (f i.toNatClampNeg) :: st)) : V l d F k n ws lv pc (.int i :: .ref a :: st) := by
  subst hp
  unfold zin at hf
  split at hf
  · cases hf
  · rename_i hin
    obtain ⟨p, e, R, s, m, args, below, meth, c, Q, A⟩ := F
    intro H locs ls hP hD hS hl
    have hlt : i.toNatClampNeg < N := Nat.not_le.mp fun q => hin (Or.inr q)
    exact W.aald (v := va_rf (f i.toNatClampNeg)) (ty := .array .int) C.1 C.2.1 (hP q0 _ he) ((C.2.2.2.2.2.2.1.2 3 _ rfl).1 N (fun j => va_rf (f j))) rfl (fun q => by cases q) (by show ¬ (i < 0 ∨ (arrV _ _ _).slots.size ≤ _); rw [arrV_size]; exact hin) (by show (arrV _ _ _).slots[_]? = _; rw [arrV_read _ _ hlt]) rfl rfl hd (K hf H locs ls hP hD hS hl)
/-- the static row ABOVE -/
def zAt (F : zF) (t : Nat) : Prop := match F with
  | (_, _, _, s, _, _, _, _, _, _, A) => va_T .int t 6 (fun j => .int (zAbv j)) A s s.heap
theorem xr_ab {l : Launch} {d : zD} {F : zF} {k n : Nat} {ws : va_W} {lv : List (Option Value)} {pc : Nat} {st : List Value} {own : String} {cc : ByteArray} {nL fr lo : Nat} {ad av : Nat → Nat} {idx : Nat} (pc' : Nat) (C : zOk d F own cc nL fr lo) (E : zXe d ad av) (hd : decode cc pc = .ok (.getstatic idx, 3)) (hp : pc + 3 = pc') (hq : Cond.fieldLink own idx RX10 "ABOVE" "[I" ∈ zW) (K : ∀ t, zAt F t → V l d F k n ws lv pc' (.ref t :: st)) : V l d F k n ws lv pc st := by
  subst hp
  obtain ⟨p, e, R, s, m, args, below, meth, c, Q, A⟩ := F
  intro H locs ls hP hD hS hl
  obtain ⟨t, hZ, hT⟩ := (E A s C.2.2.2.2.2.2.2.2.2.2).2.1
  exact va_gets C.1 C.2.1 hZ hS C.2.2.2.1 (C.2.2.2.2.1 _ hq) (fun _ h => h) hd (K t hT H locs ls hP hD hS hl)
theorem xr_ablen {l : Launch} {d : zD} {F : zF} {k n : Nat} {ws : va_W} {lv : List (Option Value)} {pc : Nat} {st : List Value} {own : String} {cc : ByteArray} {nL fr lo : Nat} {t : Nat} (pc' : Nat) (C : zOk d F own cc nL fr lo) (hT : zAt F t) (hd : decode cc pc = .ok (.arraylength, 1)) (hp : pc + 1 = pc') (K : V l d F k n ws lv pc' (.int 6 :: st)) : V l d F k n ws lv pc (.ref t :: st) := by
  subst hp
  obtain ⟨p, e, R, s, m, args, below, meth, c, Q, A⟩ := F
  intro H locs ls hP hD hS hl
  exact va_tlen C.1 C.2.1 hT hS rfl hd (K H locs ls hP hD hS hl)
theorem xr_abld {l : Launch} {d : zD} {F : zF} {k n : Nat} {ws : va_W} {lv : List (Option Value)} {pc : Nat} {st : List Value} {own : String} {cc : ByteArray} {nL fr lo : Nat} {t : Nat} {i : Int32} {β : Type} {X : Option β} {out : β} (pc' : Nat) (C : zOk d F own cc nL fr lo) (hT : zAt F t) (hd : decode cc pc = .ok (.iaload, 1)) (hp : pc + 1 = pc') (hf : zin i 6 X = some out) (K : X = some out → V l d F k n ws lv pc' (.int (zAbv i.toNatClampNeg) :: st)) : V l d F k n ws lv pc (.int i :: .ref t :: st) := by
  subst hp
  unfold zin at hf
  split at hf
  · cases hf
  · rename_i hin
    obtain ⟨p, e, R, s, m, args, below, meth, c, Q, A⟩ := F
    intro H locs ls hP hD hS hl
    exact va_ti C.1 C.2.1 hT hS hin rfl hd (K hf H locs ls hP hD hS hl)
/-! Arrays.fill -/
def zfl (N : Nat) (v : Int32) (f : Nat → Int32) : Nat → Int32 := fun j => if j < N then v else f j
theorem zfl_up {i : Nat} {v : Int32} {f : Nat → Int32} : upd (zfl i v f) i v = zfl (i + 1) v f := by
  funext j
  unfold upd zfl
  by_cases h : j = i
  · subst h; simp
  · by_cases h2 : j < i
    · simp [h, h2, Nat.lt_succ_of_lt h2]
    · simp [h, h2, show ¬ j < i + 1 by omega]
theorem w_fill {l : Launch} {d : zD} {F : zF} {ws : va_W} {a N : Nat} {f : Nat → Int32} {v : Int32} (C : zOk d F RJ7 cJ7_fill_53178 4 0 0) (q0 : Nat) (hq0 : q0 < ws.length) (hN : N < 2 ^ 31) (T : zRt d F none none (ws.set q0 (a, .inl (d.2.1, N, .inl (zfl N v f))))) : ∀ (r i : Nat), i + r = N → V l d F 0 0 (ws.set q0 (a, .inl (d.2.1, N, .inl (zfl i v f)))) [some (.ref a), some (.int v), some (.int (nI i)), some (.int (nI N))] 5 [] := by
  intro r
  induction r with
  | zero =>
    intro i hi
    have hi : i = N := by omega
    subst hi
    refine zr_iload_n 2 6 C (by decide +kernel) rfl rfl ?_
    refine zr_iload_n 3 7 C (by decide +kernel) rfl rfl ?_
    refine zr_icmp_ge (off := 13) (X := some ()) (Y := none) (out := ()) 20 10 C (by decide +kernel) (by decide) rfl (if_pos (Int32.le_refl _)) (fun _ => ?_) (fun h => by cases h)
    exact zr_vret C (by decide +kernel) T
  | succ r ih =>
    intro i hi
    have hlt : i < N := by omega
    refine zr_iload_n 2 6 C (by decide +kernel) rfl rfl ?_
    refine zr_iload_n 3 7 C (by decide +kernel) rfl rfl ?_
    refine zr_icmp_ge (off := 13) (X := none) (Y := some ()) (out := ()) 20 10 C (by decide +kernel) (by decide) rfl (if_neg (nI_ge hlt hN)) (fun h => by cases h) (fun _ => ?_)
    refine zr_aload_n 0 11 C (by decide +kernel) rfl rfl ?_
    refine zr_iload_n 2 12 C (by decide +kernel) rfl rfl ?_
    refine zr_iload_n 1 13 C (by decide +kernel) rfl rfl ?_
    refine zr_iast (X := some ()) (out := ()) (ws' := ws.set q0 (a, .inl (d.2.1, N, .inl (zfl (i + 1) v f)))) q0 (by rw [List.getElem?_set_self hq0]) (by rw [List.set_set, nI_clamp (by omega), zfl_up]) 14 C (by decide +kernel) rfl (by unfold zin; exact if_neg (vp_in_nI hlt hN)) (fun _ => ?_)
    refine zr_iinc (v := nI (i + 1)) (j := 1) 2 [some (.ref a), some (.int v), some (.int (nI (i + 1))), some (.int (nI N))] 17 C (by decide +kernel) rfl rfl (nI_succ i).symm (by decide) rfl rfl ?_
    refine zr_goto (off := -12) 5 C (by decide +kernel) (by decide) ?_
    exact ih (i + 1) (by omega)
theorem m_fill {l : Launch} {d : zD} {ws ws' : va_W} {a N : Nat} {f : Nat → Int32} {v : Int32} (q0 : Nat) (he : ws[q0]? = some (a, .inl (d.2.1, N, .inl f))) (hN : N < 2 ^ 31) (hw : ws.set q0 (a, .inl (d.2.1, N, .inl (zfl N v f))) = ws') : zM l yJ7_fill_53178 cJ7_fill_53178 4 none 0 0 d [.ref a, .int v] ws ws' none := by
  subst hw
  refine zM_of [some (.ref a), some (.int v), none, none] (by decide +kernel) rfl (Nat.le_of_ble_eq_true rfl) (fun F C T => ?_)
  have hq0 : q0 < ws.length := (List.getElem?_eq_some_iff.mp he).1
  have e0 : ws = ws.set q0 (a, .inl (d.2.1, N, .inl (zfl 0 v f))) := by
    have : zfl 0 v f = f := by funext j; simp [zfl]
    rw [this]
    obtain ⟨_, h2⟩ := List.getElem?_eq_some_iff.mp he
    rw [← h2]
    exact (List.set_getElem_self hq0).symm
  refine zr_iconst (v := 0) 0 1 C (by decide +kernel) rfl rfl ?_
  refine zr_istore_n 2 [some (.ref a), some (.int v), some (.int 0), none] 2 C (by decide +kernel) rfl (by decide) rfl rfl ?_
  refine zr_aload_n 0 3 C (by decide +kernel) rfl rfl ?_
  refine zr_alen (N := N) (t0 := 0) q0 he rfl 4 C (by decide +kernel) rfl ?_
  refine zr_istore_n 3 [some (.ref a), some (.int v), some (.int 0), some (.int (nI N))] 5 C (by decide +kernel) rfl (by decide) rfl rfl ?_
  have := w_fill (l := l) C q0 hq0 hN T N 0 (by omega)
  rw [← e0, nI_0] at this
  exact this
theorem y_fill : zY yJ7_fill_53178 cJ7_fill_53178 4 none 2 := ⟨q_223, q_78, by decide +kernel, by decide +kernel, by decide +kernel⟩
theorem k_fill {l : Launch} {d : zD} {F : zF} {ws : va_W} {lv : List (Option Value)} {pc : Nat} {own : String} {cc : ByteArray} {nL fr lo : Nat} {idx a N : Nat} {f : Nat → Int32} {v : Int32} {rest : List Value} {ws' : va_W} (q0 : Nat) (he : ws[q0]? = some (a, .inl (d.2.1, N, .inl f))) (hN : N < 2 ^ 31) (hw : ws.set q0 (a, .inl (d.2.1, N, .inl (zfl N v f))) = ws') (pc' : Nat) (C : zOk d F own cc nL fr lo) (hd : decode cc pc = .ok (.invokestatic idx, 3)) (hp : pc + 3 = pc') (hq : Cond.methodLink own idx yJ7_fill_53178 ∈ zW) (hm : 0 + 1 ≤ fr ∧ 8 + (4 + 11) + 0 ≤ lo) (hr : (rest.map fun v => v.category).sum ≤ 8) (K : V l d F 0 0 ws' lv pc' rest) : V l d F 0 0 ws lv pc (.int v :: .ref a :: rest) := zr_callS y_fill q_222 (As := [.ref a, .int v]) (m_fill q0 he hN hw) rfl rfl pc' C hd hp hq hm hr K

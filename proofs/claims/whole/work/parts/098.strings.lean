/-! String constants: length, charAt; by the JDK's own code. -/
def zsi {β : Type} (i : Nat) (x : Option β) : Option β := if i < 12 then x else none
theorem zsi_some {β : Type} {i : Nat} {x : Option β} {out : β} (h : zsi i x = some out) : i < 12 ∧ x = some out := by
  unfold zsi at h
  split at h
  · exact ⟨by assumption, h⟩
  · cases h
theorem zin_some {β : Type} {i : Int32} {n : Nat} {x : Option β} {out : β} (h : zin i n x = some out) : vp_in i n ∧ x = some out := by
  unfold zin at h
  split at h
  · cases h
  · exact ⟨by assumption, h⟩
def zchr (i : Nat) (k : Int32) : Int32 := (zSbyt.getD i []).getD k.toNatClampNeg 0
theorem xr_str0 {l : Launch} {d : zD} {F : zF} {k n : Nat} {ws : va_W} {lv : List (Option Value)} {pc : Nat} {st : List Value} {cc : ByteArray} {nL fr lo : Nat} {ad av : Nat → Nat} (pc' : Nat) (C : zOk d F RX10 cc nL fr lo) (E : zXe d ad av) (hd : decode cc pc = .ok (.ldc 85, 2)) (hp : pc + 2 = pc') (K : V l d F k n ws lv pc' (.ref (ad 0) :: st)) : V l d F k n ws lv pc st := by
  subst hp
  obtain ⟨p, e, R, s, m, args, below, meth, c, Q, A⟩ := F
  intro H locs ls hP hD hS hl
  exact va_ldcS C.1 C.2.1 C.2.2.2.1 ((E A s C.2.2.2.2.2.2.2.2.2.2).2.2.1.1) hd (K H locs ls hP hD hS hl)
theorem xr_str1 {l : Launch} {d : zD} {F : zF} {k n : Nat} {ws : va_W} {lv : List (Option Value)} {pc : Nat} {st : List Value} {cc : ByteArray} {nL fr lo : Nat} {ad av : Nat → Nat} (pc' : Nat) (C : zOk d F RX4 cc nL fr lo) (E : zXe d ad av) (hd : decode cc pc = .ok (.ldc 88, 2)) (hp : pc + 2 = pc') (K : V l d F k n ws lv pc' (.ref (ad 1) :: st)) : V l d F k n ws lv pc st := by
  subst hp
  obtain ⟨p, e, R, s, m, args, below, meth, c, Q, A⟩ := F
  intro H locs ls hP hD hS hl
  exact va_ldcS C.1 C.2.1 C.2.2.2.1 ((E A s C.2.2.2.2.2.2.2.2.2.2).2.2.1.2.1) hd (K H locs ls hP hD hS hl)
theorem xr_str2 {l : Launch} {d : zD} {F : zF} {k n : Nat} {ws : va_W} {lv : List (Option Value)} {pc : Nat} {st : List Value} {cc : ByteArray} {nL fr lo : Nat} {ad av : Nat → Nat} (pc' : Nat) (C : zOk d F RX4 cc nL fr lo) (E : zXe d ad av) (hd : decode cc pc = .ok (.ldc 94, 2)) (hp : pc + 2 = pc') (K : V l d F k n ws lv pc' (.ref (ad 2) :: st)) : V l d F k n ws lv pc st := by
  subst hp
  obtain ⟨p, e, R, s, m, args, below, meth, c, Q, A⟩ := F
  intro H locs ls hP hD hS hl
  exact va_ldcS C.1 C.2.1 C.2.2.2.1 ((E A s C.2.2.2.2.2.2.2.2.2.2).2.2.1.2.2.1) hd (K H locs ls hP hD hS hl)
theorem xr_str3 {l : Launch} {d : zD} {F : zF} {k n : Nat} {ws : va_W} {lv : List (Option Value)} {pc : Nat} {st : List Value} {cc : ByteArray} {nL fr lo : Nat} {ad av : Nat → Nat} (pc' : Nat) (C : zOk d F RX4 cc nL fr lo) (E : zXe d ad av) (hd : decode cc pc = .ok (.ldc 96, 2)) (hp : pc + 2 = pc') (K : V l d F k n ws lv pc' (.ref (ad 3) :: st)) : V l d F k n ws lv pc st := by
  subst hp
  obtain ⟨p, e, R, s, m, args, below, meth, c, Q, A⟩ := F
  intro H locs ls hP hD hS hl
  exact va_ldcS C.1 C.2.1 C.2.2.2.1 ((E A s C.2.2.2.2.2.2.2.2.2.2).2.2.1.2.2.2.1) hd (K H locs ls hP hD hS hl)
theorem xr_str4 {l : Launch} {d : zD} {F : zF} {k n : Nat} {ws : va_W} {lv : List (Option Value)} {pc : Nat} {st : List Value} {cc : ByteArray} {nL fr lo : Nat} {ad av : Nat → Nat} (pc' : Nat) (C : zOk d F RX4 cc nL fr lo) (E : zXe d ad av) (hd : decode cc pc = .ok (.ldc 98, 2)) (hp : pc + 2 = pc') (K : V l d F k n ws lv pc' (.ref (ad 4) :: st)) : V l d F k n ws lv pc st := by
  subst hp
  obtain ⟨p, e, R, s, m, args, below, meth, c, Q, A⟩ := F
  intro H locs ls hP hD hS hl
  exact va_ldcS C.1 C.2.1 C.2.2.2.1 ((E A s C.2.2.2.2.2.2.2.2.2.2).2.2.1.2.2.2.2.1) hd (K H locs ls hP hD hS hl)
theorem xr_str5 {l : Launch} {d : zD} {F : zF} {k n : Nat} {ws : va_W} {lv : List (Option Value)} {pc : Nat} {st : List Value} {cc : ByteArray} {nL fr lo : Nat} {ad av : Nat → Nat} (pc' : Nat) (C : zOk d F RX4 cc nL fr lo) (E : zXe d ad av) (hd : decode cc pc = .ok (.ldc 100, 2)) (hp : pc + 2 = pc') (K : V l d F k n ws lv pc' (.ref (ad 5) :: st)) : V l d F k n ws lv pc st := by
  subst hp
  obtain ⟨p, e, R, s, m, args, below, meth, c, Q, A⟩ := F
  intro H locs ls hP hD hS hl
  exact va_ldcS C.1 C.2.1 C.2.2.2.1 ((E A s C.2.2.2.2.2.2.2.2.2.2).2.2.1.2.2.2.2.2.1) hd (K H locs ls hP hD hS hl)
theorem xr_str6 {l : Launch} {d : zD} {F : zF} {k n : Nat} {ws : va_W} {lv : List (Option Value)} {pc : Nat} {st : List Value} {cc : ByteArray} {nL fr lo : Nat} {ad av : Nat → Nat} (pc' : Nat) (C : zOk d F RX4 cc nL fr lo) (E : zXe d ad av) (hd : decode cc pc = .ok (.ldc 102, 2)) (hp : pc + 2 = pc') (K : V l d F k n ws lv pc' (.ref (ad 6) :: st)) : V l d F k n ws lv pc st := by
  subst hp
  obtain ⟨p, e, R, s, m, args, below, meth, c, Q, A⟩ := F
  intro H locs ls hP hD hS hl
  exact va_ldcS C.1 C.2.1 C.2.2.2.1 ((E A s C.2.2.2.2.2.2.2.2.2.2).2.2.1.2.2.2.2.2.2.1) hd (K H locs ls hP hD hS hl)
theorem xr_str7 {l : Launch} {d : zD} {F : zF} {k n : Nat} {ws : va_W} {lv : List (Option Value)} {pc : Nat} {st : List Value} {cc : ByteArray} {nL fr lo : Nat} {ad av : Nat → Nat} (pc' : Nat) (C : zOk d F RX4 cc nL fr lo) (E : zXe d ad av) (hd : decode cc pc = .ok (.ldc 104, 2)) (hp : pc + 2 = pc') (K : V l d F k n ws lv pc' (.ref (ad 7) :: st)) : V l d F k n ws lv pc st := by
  subst hp
  obtain ⟨p, e, R, s, m, args, below, meth, c, Q, A⟩ := F
  intro H locs ls hP hD hS hl
  exact va_ldcS C.1 C.2.1 C.2.2.2.1 ((E A s C.2.2.2.2.2.2.2.2.2.2).2.2.1.2.2.2.2.2.2.2.1) hd (K H locs ls hP hD hS hl)
theorem xr_str8 {l : Launch} {d : zD} {F : zF} {k n : Nat} {ws : va_W} {lv : List (Option Value)} {pc : Nat} {st : List Value} {cc : ByteArray} {nL fr lo : Nat} {ad av : Nat → Nat} (pc' : Nat) (C : zOk d F RX4 cc nL fr lo) (E : zXe d ad av) (hd : decode cc pc = .ok (.ldc 106, 2)) (hp : pc + 2 = pc') (K : V l d F k n ws lv pc' (.ref (ad 8) :: st)) : V l d F k n ws lv pc st := by
  subst hp
  obtain ⟨p, e, R, s, m, args, below, meth, c, Q, A⟩ := F
  intro H locs ls hP hD hS hl
  exact va_ldcS C.1 C.2.1 C.2.2.2.1 ((E A s C.2.2.2.2.2.2.2.2.2.2).2.2.1.2.2.2.2.2.2.2.2.1) hd (K H locs ls hP hD hS hl)
theorem xr_str9 {l : Launch} {d : zD} {F : zF} {k n : Nat} {ws : va_W} {lv : List (Option Value)} {pc : Nat} {st : List Value} {cc : ByteArray} {nL fr lo : Nat} {ad av : Nat → Nat} (pc' : Nat) (C : zOk d F RX4 cc nL fr lo) (E : zXe d ad av) (hd : decode cc pc = .ok (.ldc 108, 2)) (hp : pc + 2 = pc') (K : V l d F k n ws lv pc' (.ref (ad 9) :: st)) : V l d F k n ws lv pc st := by
  subst hp
  obtain ⟨p, e, R, s, m, args, below, meth, c, Q, A⟩ := F
  intro H locs ls hP hD hS hl
  exact va_ldcS C.1 C.2.1 C.2.2.2.1 ((E A s C.2.2.2.2.2.2.2.2.2.2).2.2.1.2.2.2.2.2.2.2.2.2.1) hd (K H locs ls hP hD hS hl)
theorem xr_str10 {l : Launch} {d : zD} {F : zF} {k n : Nat} {ws : va_W} {lv : List (Option Value)} {pc : Nat} {st : List Value} {cc : ByteArray} {nL fr lo : Nat} {ad av : Nat → Nat} (pc' : Nat) (C : zOk d F RX4 cc nL fr lo) (E : zXe d ad av) (hd : decode cc pc = .ok (.ldc 110, 2)) (hp : pc + 2 = pc') (K : V l d F k n ws lv pc' (.ref (ad 10) :: st)) : V l d F k n ws lv pc st := by
  subst hp
  obtain ⟨p, e, R, s, m, args, below, meth, c, Q, A⟩ := F
  intro H locs ls hP hD hS hl
  exact va_ldcS C.1 C.2.1 C.2.2.2.1 ((E A s C.2.2.2.2.2.2.2.2.2.2).2.2.1.2.2.2.2.2.2.2.2.2.2.1) hd (K H locs ls hP hD hS hl)
theorem xr_str11 {l : Launch} {d : zD} {F : zF} {k n : Nat} {ws : va_W} {lv : List (Option Value)} {pc : Nat} {st : List Value} {cc : ByteArray} {nL fr lo : Nat} {ad av : Nat → Nat} (pc' : Nat) (C : zOk d F RX4 cc nL fr lo) (E : zXe d ad av) (hd : decode cc pc = .ok (.ldc 112, 2)) (hp : pc + 2 = pc') (K : V l d F k n ws lv pc' (.ref (ad 11) :: st)) : V l d F k n ws lv pc st := by
  subst hp
  obtain ⟨p, e, R, s, m, args, below, meth, c, Q, A⟩ := F
  intro H locs ls hP hD hS hl
  exact va_ldcS C.1 C.2.1 C.2.2.2.1 ((E A s C.2.2.2.2.2.2.2.2.2.2).2.2.1.2.2.2.2.2.2.2.2.2.2.2) hd (K H locs ls hP hD hS hl)
theorem y_coder : zY yJ0_coder_7d493 cJ0_coder_7d493 1 (some .byte) 0 := ⟨q_365, q_84, by decide +kernel, by decide +kernel, by decide +kernel⟩
theorem y_latin : zY yJ0_isLatin1_aae02 cJ0_isLatin1_aae02 1 (some .boolean) 0 := ⟨q_375, q_84, by decide +kernel, by decide +kernel, by decide +kernel⟩
theorem y_slen : zY yJ0_length_8abf5 cJ0_length_8abf5 1 (some .int) 0 := ⟨q_361, q_84, by decide +kernel, by decide +kernel, by decide +kernel⟩
theorem y_schr : zY yJ0_charAt_5068e cJ0_charAt_5068e 2 (some .char) 1 := ⟨q_371, q_84, by decide +kernel, by decide +kernel, by decide +kernel⟩
theorem y_l1chr : zY yJ1_charAt_3b067 cJ1_charAt_3b067 2 (some .char) 2 := ⟨q_378, q_85, by decide +kernel, by decide +kernel, by decide +kernel⟩
theorem y_sci : zY yJ0_checkIndex_df160 cJ0_checkIndex_df160 2 none 2 := ⟨q_381, q_84, by decide +kernel, by decide +kernel, by decide +kernel⟩
theorem y_pci : zY yJ3_checkIndex_8e157 cJ3_checkIndex_8e157 3 (some .int) 3 := ⟨q_386, q_86, by decide +kernel, by decide +kernel, by decide +kernel⟩
theorem zr_callVr {l : Launch} {d : zD} {F : zF} {ws : va_W} {lv : List (Option Value)} {pc : Nat} {own : String} {cc : ByteArray} {nL fr lo : Nat} {y : MethodName} {cy : ByteArray} {nY fY lY np idx b : Nat} {ret : Option FieldType} {As rest st0 : List Value} {ws' : va_W} {r : Option Value} {Cn : String} (hy : zY y cy nY ret np) (hy2 : Cond.instanceMethod y ∈ zW ∧ Cond.selects Cn y y ∈ zW) (hrec : ∀ (A : Nat → Prop) (s : State) (H : Heap) (locs : List Loc), d.2.2.2.2.2 A s → va_S A s.heap H locs → ∃ cell : Cell, H[b]? = some cell ∧ cell.vm.isStatics = false ∧ s.vm.findClass Cn = some cell.cls) (M : zM l y cy nY ret fY lY d (.ref b :: As) ws ws' r) (hAs : As.length = np) (hst : As.reverse ++ .ref b :: rest = st0) (pc' : Nat) (C : zOk d F own cc nL fr lo) (hd : decode cc pc = .ok (.invokevirtual idx, 3)) (hp : pc + 3 = pc') (hq : Cond.methodLink own idx y ∈ zW) (hm : fY + 1 ≤ fr ∧ 8 + (nY + 11) + lY ≤ lo) (hr : (rest.map fun v => v.category).sum ≤ 8) (K : V l d F 0 0 ws' lv pc' (r.toList ++ rest)) : V l d F 0 0 ws lv pc st0 := by
  subst hp
  subst hst
  obtain ⟨p, e, R, s, m, args, below, meth, c, Q, A⟩ := F
  intro H locs ls hP hD hS hl
  have hts := C.2.2.2.2.1
  have hK := C.2.2.2.2.2.2.1
  exact z_go (va_runV (As := As) (rest := rest) (Ts := zW) ⟨C.1, C.2.1, rfl, C.2.2.2.1, hts⟩ (M H.size) ⟨⟨rfl, rfl, Nat.le_trans hm.1 C.2.2.2.2.2.2.2.1, Nat.le_trans hm.2 C.2.2.2.2.2.2.2.2.1, pay_in hts (z_goodIn hy.1), List.mem_cons_self, hts _ hy.1, hts _ hy.2.1, ⟨hy.2.2.1, hy.2.2.2.1⟩, z_len hy.2.2.2.2, hts _ hq⟩, hts _ hy2.1, hts _ hy2.2⟩ ⟨z_blind, hrec A s H locs C.2.2.2.2.2.2.2.2.2.2 hS, fun U hU hW => ⟨rfl, by rw [hU], by rw [hU]; exact hP, va_K.moved hW.alike hK, hD.weaken (fun _ _ _ _ => trivial), C.2.2.2.2.2.2.2.2.2.1, z_env C.2.2.2.2.2.2.2.2.2.1 C.2.2.2.2.2.2.2.2.2.2 C.2.2.2.2.2.1 hD hS hU hW⟩⟩ rfl hAs hl.1 rfl (lv_room hr) hd ⟨Nat.zero_le _, Nat.zero_le _⟩) C.2.2.2.2.2.1 hD hS hl K
theorem z_srec {d : zD} {ad av : Nat → Nat} (E : zXe d ad av) {i : Nat} (hi : i < 12) : ∀ (A : Nat → Prop) (s : State) (H : Heap) (locs : List Loc), d.2.2.2.2.2 A s → va_S A s.heap H locs → ∃ cell : Cell, H[ad i]? = some cell ∧ cell.vm.isStatics = false ∧ s.vm.findClass "java/lang/String" = some cell.cls := fun A s _ _ h hS => vk_recv (E A s h).2.2.2.1 hi hS
/-- rows over a constant's own fields -/
theorem xs_coder {l : Launch} {d : zD} {F : zF} {k n : Nat} {ws : va_W} {lv : List (Option Value)} {pc : Nat} {st : List Value} {cc : ByteArray} {nL fr lo : Nat} {ad av : Nat → Nat} {i : Nat} (hi : i < 12) (pc' : Nat) (C : zOk d F RJ0 cc nL fr lo) (E : zXe d ad av) (hd : decode cc pc = .ok (.getfield 15, 3)) (hp : pc + 3 = pc') (K : V l d F k n ws lv pc' (.int 0 :: st)) : V l d F k n ws lv pc (.ref (ad i) :: st) := by
  subst hp
  obtain ⟨p, e, R, s, m, args, below, meth, c, Q, A⟩ := F
  intro H locs ls hP hD hS hl
  exact vk_getf C.1 C.2.1 ((E A s C.2.2.2.2.2.2.2.2.2.2).2.2.2.1.1 i hi).2.1 hS C.2.2.2.1 (C.2.2.2.2.1 _ q_1484) (fun _ h => h) hd (K H locs ls hP hD hS hl)
theorem xs_value {l : Launch} {d : zD} {F : zF} {k n : Nat} {ws : va_W} {lv : List (Option Value)} {pc : Nat} {st : List Value} {cc : ByteArray} {nL fr lo : Nat} {ad av : Nat → Nat} {i : Nat} (hi : i < 12) (pc' : Nat) (C : zOk d F RJ0 cc nL fr lo) (E : zXe d ad av) (hd : decode cc pc = .ok (.getfield 9, 3)) (hp : pc + 3 = pc') (K : V l d F k n ws lv pc' (.ref (av i) :: st)) : V l d F k n ws lv pc (.ref (ad i) :: st) := by
  subst hp
  obtain ⟨p, e, R, s, m, args, below, meth, c, Q, A⟩ := F
  intro H locs ls hP hD hS hl
  exact vk_getf C.1 C.2.1 ((E A s C.2.2.2.2.2.2.2.2.2.2).2.2.2.1.1 i hi).2.2.1 hS C.2.2.2.1 (C.2.2.2.2.1 _ q_1483) (fun _ h => h) hd (K H locs ls hP hD hS hl)
theorem xs_alen {l : Launch} {d : zD} {F : zF} {k n : Nat} {ws : va_W} {lv : List (Option Value)} {pc : Nat} {st : List Value} {own : String} {cc : ByteArray} {nL fr lo : Nat} {ad av : Nat → Nat} {i : Nat} (hi : i < 12) (pc' : Nat) (C : zOk d F own cc nL fr lo) (E : zXe d ad av) (hd : decode cc pc = .ok (.arraylength, 1)) (hp : pc + 1 = pc') (K : V l d F k n ws lv pc' (.int (nI (zSlen.getD i 0)) :: st)) : V l d F k n ws lv pc (.ref (av i) :: st) := by
  subst hp
  obtain ⟨p, e, R, s, m, args, below, meth, c, Q, A⟩ := F
  intro H locs ls hP hD hS hl
  exact va_tlen C.1 C.2.1 ((E A s C.2.2.2.2.2.2.2.2.2.2).2.2.2.1.1 i hi).2.2.2 hS rfl hd (K H locs ls hP hD hS hl)
theorem xs_bald {l : Launch} {d : zD} {F : zF} {k n : Nat} {ws : va_W} {lv : List (Option Value)} {pc : Nat} {st : List Value} {own : String} {cc : ByteArray} {nL fr lo : Nat} {ad av : Nat → Nat} {i : Nat} {q : Int32} (hi : i < 12) (hin : vp_in q (zSlen.getD i 0)) (pc' : Nat) (C : zOk d F own cc nL fr lo) (E : zXe d ad av) (hd : decode cc pc = .ok (.baload, 1)) (hp : pc + 1 = pc') (K : V l d F k n ws lv pc' (.int (zchr i q) :: st)) : V l d F k n ws lv pc (.int q :: .ref (av i) :: st) := by
  subst hp
  obtain ⟨p, e, R, s, m, args, below, meth, c, Q, A⟩ := F
  intro H locs ls hP hD hS hl
  exact va_tb C.1 C.2.1 ((E A s C.2.2.2.2.2.2.2.2.2.2).2.2.2.1.1 i hi).2.2.2 hS hin rfl hd (K H locs ls hP hD hS hl)
theorem xs_compact {l : Launch} {d : zD} {F : zF} {k n : Nat} {ws : va_W} {lv : List (Option Value)} {pc : Nat} {st : List Value} {cc : ByteArray} {nL fr lo : Nat} {ad av : Nat → Nat} (pc' : Nat) (C : zOk d F RJ0 cc nL fr lo) (E : zXe d ad av) (hd : decode cc pc = .ok (.getstatic 38, 3)) (hp : pc + 3 = pc') (K : V l d F k n ws lv pc' (.int 1 :: st)) : V l d F k n ws lv pc st := by
  subst hp
  obtain ⟨p, e, R, s, m, args, below, meth, c, Q, A⟩ := F
  intro H locs ls hP hD hS hl
  exact va_gets C.1 C.2.1 (E A s C.2.2.2.2.2.2.2.2.2.2).2.2.2.2.1 hS C.2.2.2.1 (C.2.2.2.2.1 _ q_366) (fun _ h => h) hd (K H locs ls hP hD hS hl)
theorem xs_siobe {l : Launch} {d : zD} {F : zF} {k n : Nat} {ws : va_W} {lv : List (Option Value)} {pc : Nat} {st : List Value} {cc : ByteArray} {nL fr lo : Nat} {ad av : Nat → Nat} (pc' : Nat) (C : zOk d F RJ0 cc nL fr lo) (E : zXe d ad av) (hd : decode cc pc = .ok (.getstatic 1053, 3)) (hp : pc + 3 = pc') (K0 : V l d F k n ws lv pc' (.null :: st)) (K1 : ∀ t, V l d F k n ws lv pc' (.ref t :: st)) : V l d F k n ws lv pc st := by
  subst hp
  obtain ⟨p, e, R, s, m, args, below, meth, c, Q, A⟩ := F
  intro H locs ls hP hD hS hl
  rcases (E A s C.2.2.2.2.2.2.2.2.2.2).2.2.2.2.2 with h | ⟨t, h⟩
  · exact va_gets C.1 C.2.1 h hS C.2.2.2.1 (C.2.2.2.2.1 _ q_382) (fun _ h => h) hd (K0 H locs ls hP hD hS hl)
  · exact va_gets C.1 C.2.1 h hS C.2.2.2.1 (C.2.2.2.2.1 _ q_382) (fun _ h => h) hd (K1 t H locs ls hP hD hS hl)
theorem zr_i2c {l : Launch} {d : zD} {F : zF} {k n : Nat} {ws : va_W} {lv : List (Option Value)} {pc : Nat} {st : List Value} {own : String} {cc : ByteArray} {nL fr lo : Nat} {x : Int32} (pc' : Nat) (C : zOk d F own cc nL fr lo) (hd : decode cc pc = .ok (.i2c, 1)) (hp : pc + 1 = pc') (K : V l d F k n ws lv pc' (.int (x.toUInt32 % 65536).toInt32 :: st)) : V l d F k n ws lv pc (.int x :: st) := by
  subst hp
  obtain ⟨p, e, R, s, m, args, below, meth, c, Q, A⟩ := F
  intro H locs ls hP hD hS hl
  exact lv_i2c C.1 C.2.1 hd rfl (K H locs ls hP hD hS hl)
theorem m_coder {l : Launch} {d : zD} {ad av : Nat → Nat} {ws : va_W} (E : zXe d ad av) {i : Nat} (hi : i < 12) : zM l yJ0_coder_7d493 cJ0_coder_7d493 1 (some .byte) 0 0 d [.ref (ad i)] ws ws (some (.int 0)) := by
  refine zM_of [some (.ref (ad i))] (by decide +kernel) rfl (Nat.le_of_ble_eq_true rfl) (fun F C T => ?_)
  refine xs_compact 3 C E (by decide +kernel) rfl ?_
  refine zr_if_eq (off := 10) (X := none) (Y := some ()) (out := ()) 13 6 C (by decide +kernel) (by decide) rfl rfl (fun h => by cases h) (fun _ => ?_)
  refine zr_aload_n 0 7 C (by decide +kernel) rfl rfl ?_
  refine xs_coder hi 10 C E (by decide +kernel) rfl ?_
  refine zr_goto (off := 4) 14 C (by decide +kernel) (by decide) ?_
  exact zr_zret C (by decide +kernel) rfl T
theorem m_latin {l : Launch} {d : zD} {ad av : Nat → Nat} {ws : va_W} (E : zXe d ad av) {i : Nat} (hi : i < 12) : zM l yJ0_isLatin1_aae02 cJ0_isLatin1_aae02 1 (some .boolean) 0 0 d [.ref (ad i)] ws ws (some (.int 1)) := by
  refine zM_of [some (.ref (ad i))] (by decide +kernel) rfl (Nat.le_of_ble_eq_true rfl) (fun F C T => ?_)
  refine xs_compact 3 C E (by decide +kernel) rfl ?_
  refine zr_if_eq (off := 14) (X := none) (Y := some ()) (out := ()) 17 6 C (by decide +kernel) (by decide) rfl rfl (fun h => by cases h) (fun _ => ?_)
  refine zr_aload_n 0 7 C (by decide +kernel) rfl rfl ?_
  refine xs_coder hi 10 C E (by decide +kernel) rfl ?_
  refine zr_if_ne (off := 7) (X := some ()) (Y := none) (out := ()) 17 13 C (by decide +kernel) (by decide) rfl rfl (fun h => by cases h) (fun _ => ?_)
  refine zr_iconst (v := 1) 1 14 C (by decide +kernel) rfl rfl ?_
  refine zr_goto (off := 4) 18 C (by decide +kernel) (by decide) ?_
  exact zr_zret C (by decide +kernel) rfl T
theorem z_shr0 (x : Int32) : zshr x 0 = x := by
  unfold zshr
  have : (0 : Int32) &&& 31 = 0 := by decide
  rw [this]
  simp
theorem m_slen {l : Launch} {d : zD} {ad av : Nat → Nat} {ws : va_W} (E : zXe d ad av) {i : Nat} (hi : i < 12) : zM l yJ0_length_8abf5 cJ0_length_8abf5 1 (some .int) 1 20 d [.ref (ad i)] ws ws (some (.int (nI (zSlen.getD i 0)))) := by
  refine zM_of [some (.ref (ad i))] (by decide +kernel) rfl (Nat.le_of_ble_eq_true rfl) (fun F C T => ?_)
  refine zr_aload_n 0 1 C (by decide +kernel) rfl rfl ?_
  refine xs_value hi 4 C E (by decide +kernel) rfl ?_
  refine xs_alen hi 5 C E (by decide +kernel) rfl ?_
  refine zr_aload_n 0 6 C (by decide +kernel) rfl rfl ?_
  refine zr_callVr (idx := 335) y_coder ⟨q_363, q_364⟩ (z_srec E hi) (As := []) (m_coder E hi) rfl rfl 9 C (by decide +kernel) rfl q_362 (zb2 rfl rfl) (Nat.le_of_ble_eq_true rfl) ?_
  refine zr_ishr 10 C (by decide +kernel) rfl ?_
  rw [z_shr0]
  exact zr_iret C (by decide +kernel) T
theorem m_pci {l : Launch} {d : zD} {ws : va_W} {q m : Int32} {v : Value} (hv : v.category = 1) (h1 : ¬ q < 0) (h2 : q < m) : zM l yJ3_checkIndex_8e157 cJ3_checkIndex_8e157 3 (some .int) 0 0 d [.int q, .int m, v] ws ws (some (.int q)) := by
  refine zM_of [some (.int q), some (.int m), some v] (by decide +kernel) rfl (by cases v <;> first | (simp [Value.category] at hv; done) | (simp [lg_sl, Value.category]; done)) (fun F C T => ?_)
  refine zr_iload_n 0 1 C (by decide +kernel) rfl rfl ?_
  refine zr_if_lt (off := 8) (X := none) (Y := some ()) (out := ()) 9 4 C (by decide +kernel) (by decide) rfl (if_neg h1) (fun h => by cases h) (fun _ => ?_)
  refine zr_iload_n 0 5 C (by decide +kernel) rfl rfl ?_
  refine zr_iload_n 1 6 C (by decide +kernel) rfl rfl ?_
  refine zr_icmp_lt (off := 10) (X := some ()) (Y := none) (out := ()) 16 9 C (by decide +kernel) (by decide) rfl (if_pos h2) (fun _ => ?_) (fun h => by cases h)
  refine zr_iload_n 0 17 C (by decide +kernel) rfl rfl ?_
  exact zr_iret C (by decide +kernel) T
theorem m_sci {l : Launch} {d : zD} {ad av : Nat → Nat} {ws : va_W} (E : zXe d ad av) {q m : Int32} (h1 : ¬ q < 0) (h2 : q < m) : zM l yJ0_checkIndex_df160 cJ0_checkIndex_df160 2 none 1 22 d [.int q, .int m] ws ws none := by
  refine zM_of [some (.int q), some (.int m)] (by decide +kernel) rfl (Nat.le_of_ble_eq_true rfl) (fun F C T => ?_)
  refine zr_iload_n 0 1 C (by decide +kernel) rfl rfl ?_
  refine zr_iload_n 1 2 C (by decide +kernel) rfl rfl ?_
  have key : ∀ v : Value, v.category = 1 → V l d F 0 0 ws [some (.int q), some (.int m)] 5 [v, .int m, .int q] := fun v hv => by
    refine zr_callS (idx := 1059) y_pci q_385 (As := [.int q, .int m, v]) (m_pci hv h1 h2) rfl rfl 8 C (by decide +kernel) rfl q_384 (zb2 rfl rfl) (Nat.le_of_ble_eq_true rfl) ?_
    refine zr_pop 9 C (by decide +kernel) rfl rfl ?_
    exact zr_vret C (by decide +kernel) T
  exact xs_siobe 5 C E (by decide +kernel) rfl (key _ rfl) (fun t => key _ rfl)
theorem z_low {i : Nat} (hi : i < 12) {j : Nat} (hj : j < zSlen.getD i 0) : (((zSbyt.getD i []).getD j 0 &&& 255).toUInt32 % 65536).toInt32 = (zSbyt.getD i []).getD j 0 ∧ narrow .char (.int ((zSbyt.getD i []).getD j 0)) = .int ((zSbyt.getD i []).getD j 0) := by
  have h : (List.range 12).all (fun i => (List.range (zSlen.getD i 0)).all (fun j => decide ((((zSbyt.getD i []).getD j 0 &&& 255).toUInt32 % 65536).toInt32 = (zSbyt.getD i []).getD j 0 ∧ narrow .char (.int ((zSbyt.getD i []).getD j 0)) = .int ((zSbyt.getD i []).getD j 0)))) = true := by decide +kernel
  have h1 := List.all_eq_true.mp h i (List.mem_range.mpr hi)
  exact of_decide_eq_true (List.all_eq_true.mp h1 j (List.mem_range.mpr hj))
theorem z_low2 {i : Nat} (hi : i < 12) {q : Int32} (hq : vp_in q (zSlen.getD i 0)) : ((zchr i q &&& 255).toUInt32 % 65536).toInt32 = zchr i q ∧ narrow .char (.int (zchr i q)) = .int (zchr i q) := z_low hi (Nat.not_le.mp fun h => hq (Or.inr h))
theorem z_slen_lt {i : Nat} : zSlen.getD i 0 < 2 ^ 31 := by
  by_cases h : i < 12
  · have h2 : (List.range 12).all (fun i => decide (zSlen.getD i 0 < 2 ^ 31)) = true := by decide +kernel
    exact of_decide_eq_true (List.all_eq_true.mp h2 i (List.mem_range.mpr h))
  · have : zSlen[i]? = none := List.getElem?_eq_none (by simp [zSlen]; omega)
    simp [List.getD, this]
theorem m_l1chr {l : Launch} {d : zD} {ad av : Nat → Nat} {ws : va_W} (E : zXe d ad av) {i : Nat} {q : Int32} (hi : i < 12) (hq : vp_in q (zSlen.getD i 0)) : zM l yJ1_charAt_3b067 cJ1_charAt_3b067 2 (some .char) 2 43 d [.ref (av i), .int q] ws ws (some (.int (zchr i q))) := by
  refine zM_of [some (.ref (av i)), some (.int q)] (by decide +kernel) rfl (Nat.le_of_ble_eq_true rfl) (fun F C T => ?_)
  obtain ⟨j, hj, hqj⟩ := vp_in_of hq z_slen_lt
  refine zr_iload_n 1 1 C (by decide +kernel) rfl rfl ?_
  refine zr_aload_n 0 2 C (by decide +kernel) rfl rfl ?_
  refine xs_alen hi 3 C E (by decide +kernel) rfl ?_
  refine zr_callS (idx := 9) y_sci q_380 (As := [.int q, .int (nI (zSlen.getD i 0))]) (m_sci E (fun h => hq (Or.inl h)) (by rw [hqj]; exact nI_lt hj z_slen_lt)) rfl rfl 6 C (by decide +kernel) rfl q_379 (zb2 rfl rfl) (Nat.le_of_ble_eq_true rfl) ?_
  refine zr_aload_n 0 7 C (by decide +kernel) rfl rfl ?_
  refine zr_iload_n 1 8 C (by decide +kernel) rfl rfl ?_
  refine xs_bald hi hq 9 C E (by decide +kernel) rfl ?_
  refine zr_sipush (v := 255) 255 12 C (by decide +kernel) rfl rfl ?_
  refine zr_iand 13 C (by decide +kernel) rfl ?_
  refine zr_i2c 14 C (by decide +kernel) rfl ?_
  rw [(z_low2 hi hq).1]
  exact zr_zret C (by decide +kernel) (z_low2 hi hq).2 T
theorem m_schr {l : Launch} {d : zD} {ad av : Nat → Nat} {ws : va_W} (E : zXe d ad av) {i : Nat} {q : Int32} (hi : i < 12) (hq : vp_in q (zSlen.getD i 0)) : zM l yJ0_charAt_5068e cJ0_charAt_5068e 2 (some .char) 3 64 d [.ref (ad i), .int q] ws ws (some (.int (zchr i q))) := by
  refine zM_of [some (.ref (ad i)), some (.int q)] (by decide +kernel) rfl (Nat.le_of_ble_eq_true rfl) (fun F C T => ?_)
  refine zr_aload_n 0 1 C (by decide +kernel) rfl rfl ?_
  refine zr_callVr (idx := 492) y_latin ⟨q_373, q_374⟩ (z_srec E hi) (As := []) (m_latin E hi) rfl rfl 4 C (by decide +kernel) rfl q_372 (zb2 rfl rfl) (Nat.le_of_ble_eq_true rfl) ?_
  refine zr_if_eq (off := 12) (X := none) (Y := some ()) (out := ()) 16 7 C (by decide +kernel) (by decide) rfl rfl (fun h => by cases h) (fun _ => ?_)
  refine zr_aload_n 0 8 C (by decide +kernel) rfl rfl ?_
  refine xs_value hi 11 C E (by decide +kernel) rfl ?_
  refine zr_iload_n 1 12 C (by decide +kernel) rfl rfl ?_
  refine zr_callS (idx := 495) y_l1chr q_377 (As := [.ref (av i), .int q]) (m_l1chr E hi hq) rfl rfl 15 C (by decide +kernel) rfl q_376 (zb2 rfl rfl) (Nat.le_of_ble_eq_true rfl) ?_
  exact zr_zret C (by decide +kernel) (z_low2 hi hq).2 T
theorem xs_len {l : Launch} {d : zD} {F : zF} {ws : va_W} {lv : List (Option Value)} {pc : Nat} {own : String} {cc : ByteArray} {nL fr lo : Nat} {st : List Value} {ad av : Nat → Nat} {idx i : Nat} {β : Type} {X : Option β} {out : β} (pc' : Nat) (C : zOk d F own cc nL fr lo) (E : zXe d ad av) (hd : decode cc pc = .ok (.invokevirtual idx, 3)) (hp : pc + 3 = pc') (hq : Cond.methodLink own idx yJ0_length_8abf5 ∈ zW) (hm : 5 ≤ fr ∧ 200 ≤ lo) (hr : (st.map fun v => v.category).sum ≤ 8) (hf : zsi i X = some out) (K : X = some out → V l d F 0 0 ws lv pc' (.int (nI (zSlen.getD i 0)) :: st)) : V l d F 0 0 ws lv pc (.ref (ad i) :: st) := by
  obtain ⟨hi, hf⟩ := zsi_some hf
  exact zr_callVr y_slen ⟨q_359, q_360⟩ (z_srec E hi) (As := []) (m_slen E hi) rfl rfl pc' C hd hp hq ⟨by omega, by omega⟩ hr (K hf)
theorem xs_chr {l : Launch} {d : zD} {F : zF} {ws : va_W} {lv : List (Option Value)} {pc : Nat} {own : String} {cc : ByteArray} {nL fr lo : Nat} {st : List Value} {ad av : Nat → Nat} {idx i : Nat} {q : Int32} {β : Type} {X : Option β} {out : β} (pc' : Nat) (C : zOk d F own cc nL fr lo) (E : zXe d ad av) (hd : decode cc pc = .ok (.invokevirtual idx, 3)) (hp : pc + 3 = pc') (hq : Cond.methodLink own idx yJ0_charAt_5068e ∈ zW) (hm : 5 ≤ fr ∧ 200 ≤ lo) (hr : (st.map fun v => v.category).sum ≤ 8) (hf : zsi i (zin q (zSlen.getD i 0) X) = some out) (K : X = some out → V l d F 0 0 ws lv pc' (.int (zchr i q) :: st)) : V l d F 0 0 ws lv pc (.int q :: .ref (ad i) :: st) := by
  obtain ⟨hi, hf⟩ := zsi_some hf
  obtain ⟨hin, hf⟩ := zin_some hf
  exact zr_callVr y_schr ⟨q_369, q_370⟩ (z_srec E hi) (As := [.int q]) (m_schr E hi hin) rfl rfl pc' C hd hp hq ⟨by omega, by omega⟩ hr (K hf)
def zRec (l : Launch) (d : zD) (h : Nat → Nat) (rOr rNot rOne : Int32 → zS → Option (Int32 × zS)) (fd ld : Nat) : Prop := (∀ (p : Int32) (σ : zS) (out : Int32 × zS), rOr p σ = some out → zM l yX4_readOr cX4_readOr 3 (some .boolean) fd ld d [.ref (h 1), .int p] (XW d h σ) (XW d h out.2) (some (.int out.1))) ∧ (∀ (p : Int32) (σ : zS) (out : Int32 × zS), rNot p σ = some out → zM l yX4_readNot cX4_readNot 2 (some .boolean) fd ld d [.ref (h 1), .int p] (XW d h σ) (XW d h out.2) (some (.int out.1))) ∧ (∀ (p : Int32) (σ : zS) (out : Int32 × zS), rOne p σ = some out → zM l yX4_readOne cX4_readOne 2 (some .boolean) fd ld d [.ref (h 1), .int p] (XW d h σ) (XW d h out.2) (some (.int out.1)))
theorem y9_readOr : zY yX4_readOr cX4_readOr 3 (some .boolean) 1 := ⟨q_459, q_73, by decide +kernel, by decide +kernel, by decide +kernel⟩
theorem krOr {l : Launch} {d : zD} {F : zF} {h : Nat → Nat} {σ : zS} {lv : List (Option Value)} {pc : Nat} {own : String} {cc : ByteArray} {nL fr lo idx : Nat} {rest : List Value} {β : Type} {kf : Int32 → zS → Option β} {o2 : β} {rOr rNot rOne : Int32 → zS → Option (Int32 × zS)} {fd ld : Nat} {p1 : Int32} (hR : zRec l d h rOr rNot rOne fd ld) (pc' : Nat) (C : zOk d F own cc nL fr lo) (hd : decode cc pc = .ok (.invokevirtual idx, 3)) (hp : pc + 3 = pc') (hq : Cond.methodLink own idx yX4_readOr ∈ zW) (hm : fd + 1 ≤ fr ∧ 8 + (3 + 11) + ld ≤ lo) (hr : (rest.map fun v => v.category).sum ≤ 8) (hf : zbd (rOr p1 σ) kf = some o2) (K : ∀ (r : Int32) (σ' : zS), kf r σ' = some o2 → V l d F 0 0 (XW d h σ') lv pc' (.int r :: rest)) : V l d F 0 0 (XW d h σ) lv pc (.int p1 :: .ref (h 1) :: rest) := by
  obtain ⟨q, h1, h2⟩ := zbd_some hf
  exact zr_callV y9_readOr ⟨q_458, q_5⟩ 1 rfl rfl (As := [.int p1]) (hR.1 _ _ _ h1) rfl rfl pc' C hd hp hq hm hr (K _ _ h2)
theorem y9_readNot : zY yX4_readNot cX4_readNot 2 (some .boolean) 1 := ⟨q_467, q_73, by decide +kernel, by decide +kernel, by decide +kernel⟩
theorem krNot {l : Launch} {d : zD} {F : zF} {h : Nat → Nat} {σ : zS} {lv : List (Option Value)} {pc : Nat} {own : String} {cc : ByteArray} {nL fr lo idx : Nat} {rest : List Value} {β : Type} {kf : Int32 → zS → Option β} {o2 : β} {rOr rNot rOne : Int32 → zS → Option (Int32 × zS)} {fd ld : Nat} {p1 : Int32} (hR : zRec l d h rOr rNot rOne fd ld) (pc' : Nat) (C : zOk d F own cc nL fr lo) (hd : decode cc pc = .ok (.invokevirtual idx, 3)) (hp : pc + 3 = pc') (hq : Cond.methodLink own idx yX4_readNot ∈ zW) (hm : fd + 1 ≤ fr ∧ 8 + (2 + 11) + ld ≤ lo) (hr : (rest.map fun v => v.category).sum ≤ 8) (hf : zbd (rNot p1 σ) kf = some o2) (K : ∀ (r : Int32) (σ' : zS), kf r σ' = some o2 → V l d F 0 0 (XW d h σ') lv pc' (.int r :: rest)) : V l d F 0 0 (XW d h σ) lv pc (.int p1 :: .ref (h 1) :: rest) := by
  obtain ⟨q, h1, h2⟩ := zbd_some hf
  exact zr_callV y9_readNot ⟨q_466, q_7⟩ 1 rfl rfl (As := [.int p1]) (hR.2.1 _ _ _ h1) rfl rfl pc' C hd hp hq hm hr (K _ _ h2)
theorem y9_readOne : zY yX4_readOne cX4_readOne 2 (some .boolean) 1 := ⟨q_483, q_73, by decide +kernel, by decide +kernel, by decide +kernel⟩
theorem krOne {l : Launch} {d : zD} {F : zF} {h : Nat → Nat} {σ : zS} {lv : List (Option Value)} {pc : Nat} {own : String} {cc : ByteArray} {nL fr lo idx : Nat} {rest : List Value} {β : Type} {kf : Int32 → zS → Option β} {o2 : β} {rOr rNot rOne : Int32 → zS → Option (Int32 × zS)} {fd ld : Nat} {p1 : Int32} (hR : zRec l d h rOr rNot rOne fd ld) (pc' : Nat) (C : zOk d F own cc nL fr lo) (hd : decode cc pc = .ok (.invokevirtual idx, 3)) (hp : pc + 3 = pc') (hq : Cond.methodLink own idx yX4_readOne ∈ zW) (hm : fd + 1 ≤ fr ∧ 8 + (2 + 11) + ld ≤ lo) (hr : (rest.map fun v => v.category).sum ≤ 8) (hf : zbd (rOne p1 σ) kf = some o2) (K : ∀ (r : Int32) (σ' : zS), kf r σ' = some o2 → V l d F 0 0 (XW d h σ') lv pc' (.int r :: rest)) : V l d F 0 0 (XW d h σ) lv pc (.int p1 :: .ref (h 1) :: rest) := by
  obtain ⟨q, h1, h2⟩ := zbd_some hf
  exact zr_callV y9_readOne ⟨q_482, q_11⟩ 1 rfl rfl (As := [.int p1]) (hR.2.2 _ _ _ h1) rfl rfl pc' C hd hp hq hm hr (K _ _ h2)

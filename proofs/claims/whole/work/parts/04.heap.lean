/-! The rows of the heap: fields, arrays, calls. -/
theorem z_goodIn {y : MethodName} {cy : ByteArray} {nY : Nat} {ret : Option FieldType} (h : Cond.code y cy nY ret ∈ zW) : GoodIn zW (.code y cy nY ret :: zW) := fun w hw => by
  rcases List.mem_cons.mp hw with e | e
  · rw [e]
    exact ⟨h, good_of_word (List.mem_filter.mp h).2⟩
  · exact ⟨e, good_of_word (List.mem_filter.mp e).2⟩
theorem z_w {w : Cond} (i : Nat) (h : lw_tbl[i]? = some w) (hg : goodWord w = true) : w ∈ zW := List.mem_filter.mpr ⟨List.mem_of_getElem? h, hg⟩
theorem z_sub (ws : List Cond) (ps : List Nat) (hp : ws = ps.filterMap (fun i => lw_tbl[i]?)) (hg : ws.all goodWord = true) : ∀ w ∈ ws, w ∈ zW := by
  intro w hw
  have h1 := List.all_eq_true.mp hg w hw
  rw [hp] at hw
  obtain ⟨i, -, hi⟩ := List.mem_filterMap.mp hw
  exact z_w i hi h1
theorem zr_get {l : Launch} {d : zD} {F : zF} {k n : Nat} {ws : va_W} {lv : List (Option Value)} {pc : Nat} {st : List Value} {own : String} {cc : ByteArray} {nL fr lo : Nat} {ci N idx a : Nat} {Cn : String} {T : u_T} {fs : List Value} {v : Value} (q0 : Nat) (hin : ∀ w ∈ u_ws Cn T N, w ∈ zW) (he : ws[q0]? = some (a, .inr (ci, fs))) (hc : classes[ci]? = some (Cn, T, N)) (j : Nat) (hj : j < N) (hv : fs[j]? = some v) (hT : (T j).1 = Cn) (hq : Cond.fieldLink own idx Cn (T j).2.1 (T j).2.2.1 ∈ zW) (pc' : Nat) (C : zOk d F own cc nL fr lo) (hd : decode cc pc = .ok (.getfield idx, 3)) (hp : pc + 3 = pc') (K : V l d F k n ws lv pc' (v :: st)) : V l d F k n ws lv pc (.ref a :: st) := by
  subst hp
  obtain ⟨p, e, R, s, m, args, below, meth, c, Q, A⟩ := F
  intro H locs ls hP hD hS hl
  exact va_get (D := d.1) C.1 C.2.1 C.2.2.2.2.1 hin C.2.2.2.1 C.2.2.2.2.2.2.1 hP q0 he hc j hj (C.2.2.2.2.1 _ hq) (fun x hx => by rw [← hT]; exact hx) hv hd (K H locs ls hP hD hS hl)
theorem zr_put {l : Launch} {d : zD} {F : zF} {k n : Nat} {ws : va_W} {lv : List (Option Value)} {pc : Nat} {st : List Value} {own : String} {cc : ByteArray} {nL fr lo : Nat} {ci N idx a : Nat} {Cn : String} {T : u_T} {fs : List Value} {v : Value} {ty : FieldType} {ws' : va_W} (q0 : Nat) (hin : ∀ w ∈ u_ws Cn T N, w ∈ zW) (ty0 : Nat → FieldType) (hty : ∀ k, k < N → parseFieldDescriptor (T k).2.2.1 = some (ty0 k)) (hnm : ∀ a, a < N → ∀ b, b < N → a ≠ b → (T a).2.1 ≠ (T b).2.1) (he : ws[q0]? = some (a, .inr (ci, fs))) (hc : classes[ci]? = some (Cn, T, N)) (j : Nat) (hj : j < N) (hT : (T j).1 = Cn) (hfin : (T j).2.2.2 = false) (htj : ty0 j = ty) (hn : narrow ty v = v) (hfit : fits ty v = true) (hlen : j < fs.length) (hq : Cond.fieldLink own idx Cn (T j).2.1 (T j).2.2.1 ∈ zW) (hw : ws.set q0 (a, .inr (ci, fs.set j v)) = ws') (pc' : Nat) (C : zOk d F own cc nL fr lo) (hd : decode cc pc = .ok (.putfield idx, 3)) (hp : pc + 3 = pc') (K : V l d F k n ws' lv pc' st) : V l d F k n ws lv pc (v :: .ref a :: st) := by
  subst hp
  subst hw
  subst htj
  obtain ⟨p, e, R, s, m, args, below, meth, c, Q, A⟩ := F
  intro H locs ls hP hD hS hl
  exact va_put (D := d.1) C.1 C.2.1 C.2.2.2.2.1 hin ty0 hty hnm C.2.2.2.1 C.2.2.2.2.2.2.1 hP hD hS q0 he hc j hj (C.2.2.2.2.1 _ hq) (fun x hx => by rw [← hT]; exact hx) hfin (hty j hj) hn hfit hlen hd (fun H1 locs1 hP1 hD1 hS1 => K H1 locs1 ls hP1 hD1 hS1 hl)
theorem zr_iald {l : Launch} {d : zD} {F : zF} {k n : Nat} {ws : va_W} {lv : List (Option Value)} {pc : Nat} {st : List Value} {own : String} {cc : ByteArray} {nL fr lo : Nat} {a N : Nat} {f : Nat → Int32} {i : Int32} {β : Type} {X : Option β} {out : β} (q0 : Nat) (he : ws[q0]? = some (a, .inl (d.2.1, N, .inl f))) (pc' : Nat) (C : zOk d F own cc nL fr lo) (hd : decode cc pc = .ok (.iaload, 1)) (hp : pc + 1 = pc') (hf : zin i N X = some out) (K : X = some out → V l d F k n ws lv pc' (.int (f i.toNatClampNeg) :: st)) : V l d F k n ws lv pc (.int i :: .ref a :: st) := by
  subst hp
  unfold zin at hf
  split at hf
  · cases hf
  · rename_i hin
    obtain ⟨p, e, R, s, m, args, below, meth, c, Q, A⟩ := F
    intro H locs ls hP hD hS hl
    exact va_iald (D := d.1) C.1 C.2.1 C.2.2.2.2.2.2.1 hP q0 0 he rfl hin hd (K hf H locs ls hP hD hS hl)
theorem zr_zald {l : Launch} {d : zD} {F : zF} {k n : Nat} {ws : va_W} {lv : List (Option Value)} {pc : Nat} {st : List Value} {own : String} {cc : ByteArray} {nL fr lo : Nat} {a N : Nat} {f : Nat → Int32} {i : Int32} {β : Type} {X : Option β} {out : β} (q0 : Nat) (he : ws[q0]? = some (a, .inl (d.2.2.1, N, .inl f))) (pc' : Nat) (C : zOk d F own cc nL fr lo) (hd : decode cc pc = .ok (.baload, 1)) (hp : pc + 1 = pc') (hf : zin i N X = some out) (K : X = some out → V l d F k n ws lv pc' (.int (f i.toNatClampNeg) :: st)) : V l d F k n ws lv pc (.int i :: .ref a :: st) := by
  subst hp
  unfold zin at hf
  split at hf
  · cases hf
  · rename_i hin
    obtain ⟨p, e, R, s, m, args, below, meth, c, Q, A⟩ := F
    intro H locs ls hP hD hS hl
    exact va_zald (D := d.1) C.1 C.2.1 C.2.2.2.2.2.2.1 hP q0 1 he rfl hin hd (K hf H locs ls hP hD hS hl)
theorem zr_lald {l : Launch} {d : zD} {F : zF} {k n : Nat} {ws : va_W} {lv : List (Option Value)} {pc : Nat} {st : List Value} {own : String} {cc : ByteArray} {nL fr lo : Nat} {a N : Nat} {f : Nat → Int64} {i : Int32} {β : Type} {X : Option β} {out : β} (q0 : Nat) (he : ws[q0]? = some (a, .inl (d.2.2.2.1, N, .inr (.inl f)))) (pc' : Nat) (C : zOk d F own cc nL fr lo) (hd : decode cc pc = .ok (.laload, 1)) (hp : pc + 1 = pc') (hf : zin i N X = some out) (K : X = some out → V l d F k n ws lv pc' (.long (f i.toNatClampNeg) :: st)) : V l d F k n ws lv pc (.int i :: .ref a :: st) := by
  subst hp
  unfold zin at hf
  split at hf
  · cases hf
  · rename_i hin
    obtain ⟨p, e, R, s, m, args, below, meth, c, Q, A⟩ := F
    intro H locs ls hP hD hS hl
    exact va_lald (D := d.1) C.1 C.2.1 C.2.2.2.2.2.2.1 hP q0 2 he rfl hin hd (K hf H locs ls hP hD hS hl)
theorem zr_iast {l : Launch} {d : zD} {F : zF} {k n : Nat} {ws : va_W} {lv : List (Option Value)} {pc : Nat} {st : List Value} {own : String} {cc : ByteArray} {nL fr lo : Nat} {a N : Nat} {f : Nat → Int32} {i x : Int32} {β : Type} {X : Option β} {out : β} {ws' : va_W} (q0 : Nat) (he : ws[q0]? = some (a, .inl (d.2.1, N, .inl f))) (hw : ws.set q0 (a, .inl (d.2.1, N, .inl (upd f i.toNatClampNeg (x)))) = ws') (pc' : Nat) (C : zOk d F own cc nL fr lo) (hd : decode cc pc = .ok (.iastore, 1)) (hp : pc + 1 = pc') (hf : zin i N X = some out) (K : X = some out → V l d F k n ws' lv pc' st) : V l d F k n ws lv pc (.int x :: .int i :: .ref a :: st) := by
  subst hp
  subst hw
  unfold zin at hf
  split at hf
  · cases hf
  · rename_i hin
    obtain ⟨p, e, R, s, m, args, below, meth, c, Q, A⟩ := F
    intro H locs ls hP hD hS hl
    exact va_iast (D := d.1) C.1 C.2.1 C.2.2.2.2.2.2.1 hP hD hS q0 0 he rfl hin hd (fun H1 locs1 hP1 hD1 hS1 => K hf H1 locs1 ls hP1 hD1 hS1 hl)
theorem zr_zast {l : Launch} {d : zD} {F : zF} {k n : Nat} {ws : va_W} {lv : List (Option Value)} {pc : Nat} {st : List Value} {own : String} {cc : ByteArray} {nL fr lo : Nat} {a N : Nat} {f : Nat → Int32} {i x : Int32} {β : Type} {X : Option β} {out : β} {ws' : va_W} (q0 : Nat) (he : ws[q0]? = some (a, .inl (d.2.2.1, N, .inl f))) (hw : ws.set q0 (a, .inl (d.2.2.1, N, .inl (upd f i.toNatClampNeg (vp_nar .boolean x)))) = ws') (pc' : Nat) (C : zOk d F own cc nL fr lo) (hd : decode cc pc = .ok (.bastore, 1)) (hp : pc + 1 = pc') (hf : zin i N X = some out) (K : X = some out → V l d F k n ws' lv pc' st) : V l d F k n ws lv pc (.int x :: .int i :: .ref a :: st) := by
  subst hp
  subst hw
  unfold zin at hf
  split at hf
  · cases hf
  · rename_i hin
    obtain ⟨p, e, R, s, m, args, below, meth, c, Q, A⟩ := F
    intro H locs ls hP hD hS hl
    exact va_zast (D := d.1) C.1 C.2.1 C.2.2.2.2.2.2.1 hP hD hS q0 1 he rfl hin hd (fun H1 locs1 hP1 hD1 hS1 => K hf H1 locs1 ls hP1 hD1 hS1 hl)
theorem zr_alen {l : Launch} {d : zD} {F : zF} {k n : Nat} {ws : va_W} {lv : List (Option Value)} {pc : Nat} {st : List Value} {own : String} {cc : ByteArray} {nL fr lo : Nat} {a N t0 : Nat} {cA : ClassId} {x : vp_A} {ty : FieldType} (q0 : Nat) (he : ws[q0]? = some (a, .inl (cA, x))) (ht : (zt d)[t0]? = some (cA, ty)) (pc' : Nat) (C : zOk d F own cc nL fr lo) (hd : decode cc pc = .ok (.arraylength, 1)) (hp : pc + 1 = pc') (K : V l d F k n ws lv pc' (.int (nI x.1) :: st)) : V l d F k n ws lv pc (.ref a :: st) := by
  subst hp
  obtain ⟨p, e, R, s, m, args, below, meth, c, Q, A⟩ := F
  intro H locs ls hP hD hS hl
  exact va_alen (D := d.1) C.1 C.2.1 C.2.2.2.2.2.2.1 hP q0 t0 he ht rfl hd (K H locs ls hP hD hS hl)
theorem z_blind {d : zD} {av : List Value} {sz : Nat} {ws : va_W} : FrameBlind (va_Pc av (fun U => U.heap.size = sz ∧ va_P d.1 classes ws U.heap ∧ va_K d.1 classes (zt d) U ∧ va_D (fun _ => True) ws ∧ zEc d.2.2.2.2.2 ∧ d.2.2.2.2.2 (va_A ws sz) U)) := fun a U g mk q => by
  obtain ⟨q0, q1, qP, qK, qD, qc, qE⟩ := q
  exact ⟨q0, q1, qP, va_K.moved (u := U) (U := U.calling g mk a) (Vm.Alike.refl U.vm) qK, qD, qc, qc.2.2 _ U g mk a qE⟩
theorem z_env {s U : State} {E : (Nat → Prop) → State → Prop} {A : Nat → Prop} {ws : va_W} {H : Heap} {locs : List Loc} (hc : zEc E) (h : E A s) (hA : ∀ q : Nat, s.heap.size ≤ q → A q) (hD : va_D A ws) (hS : va_S A s.heap H locs) (hU : U.heap = H) (hW : s.WarmedH U.vm) : E (va_A ws H.size) U := by
  refine hc.1 A _ U (fun q h => ?_) (hc.2.1 A s U hW (by rw [hU]; exact hS.1) (fun a h1 h2 => by rw [hU]; exact hS.2.1 a h1 h2) h)
  rcases h with ⟨k, e, h⟩ | h
  · exact hD.2 k _ h
  · exact hA q (Nat.le_trans hS.1 h)
theorem z_go {p : Program} {l : Launch} {e : Env} {R : Room} {s : State} {m : MethodId} {args : Array Value} {below : List Frame} {meth : Method} {c : Code} {H : Heap} {locs : List Loc} {Q : State → Prop} {A : Nat → Prop} {d : zD} {pc : Nat} {ls : Array Slot} {rest st0 : List Value} {a : Array Value} {r : Option Value} {ws ws' : va_W} {lv : List (Option Value)} (hr : va_Run p l e R s m args below meth c H locs 0 0 0 0 (F0 m pc ls st0) rest (zQ r d ws' (va_A ws H.size) a) (va_A ws H.size)) (hA : ∀ q : Nat, s.heap.size ≤ q → A q) (hD : va_D A ws) (hS : va_S A s.heap H locs) (hl : zh ls c.maxLocals lv) (K : V l d (p, e, R, s, m, args, below, meth, c, Q, A) 0 0 ws' lv (pc + 3) (r.toList ++ rest)) : W p l e R s m args below meth c H locs 0 0 Q (F0 m pc ls st0) := by
  have hfree : ∀ q, va_A ws H.size q → A q := fun q h => by
    rcases h with ⟨k, e, h⟩ | h
    · exact hD.2 k _ h
    · exact hA q (Nat.le_trans hS.1 h)
  intro T hT X
  obtain ⟨v, st₀, t, T', L, h0, X', hL, e1, e2, ⟨⟨hv, hP1, hK1, hD1⟩, hz, hk⟩, st⟩ := hr T hT X
  cases hv
  rw [h0] at hz hk
  obtain ⟨t2, a1, b1⟩ := K T'.heap (locs ++ L) ls (by rw [e1]; exact hP1) (hD1.weaken (fun _ _ _ h => hfree _ h)) ⟨Nat.le_trans hS.1 (by rw [e1]; exact hz), fun q h1 h2 => by rw [e1, hk q (Nat.lt_of_lt_of_le h1 hS.1) (fun z => h2 (hfree q z))]; exact hS.2.1 q h1 h2, fun q hq => by
      rcases List.mem_append.mp hq with h | h
      · exact hS.2.2 q h
      · exact hfree _ (hL q h)⟩ hl T' rfl X'
  exact ⟨t2, st t2 a1, b1⟩
/-- what the tables say of an instance method, of a static one -/
def zY (y : MethodName) (cy : ByteArray) (nY : Nat) (ret : Option FieldType) (np : Nat) : Prop := Cond.code y cy nY ret ∈ zW ∧ Cond.initialized y.cls ∈ zW ∧ y.cls ≠ "java/lang/invoke/MethodHandle" ∧ y.cls ≠ "java/lang/invoke/VarHandle" ∧ (parseMethodDescriptor y.desc).map (fun d => d.parameters.length) = some np
theorem z_len {y : MethodName} {np : Nat} (h : (parseMethodDescriptor y.desc).map (fun d => d.parameters.length) = some np) : ∀ sig, parseMethodDescriptor y.desc = some sig → np = sig.parameters.length := fun sig hs => by
  rw [hs] at h
  exact (Option.some.inj h).symm
theorem zr_callV {l : Launch} {d : zD} {F : zF} {ws : va_W} {lv : List (Option Value)} {pc : Nat} {own : String} {cc : ByteArray} {nL fr lo : Nat} {y : MethodName} {cy : ByteArray} {nY fY lY np idx ci b N : Nat} {ret : Option FieldType} {As rest st0 : List Value} {ws' : va_W} {r : Option Value} {Cn : String} {T : u_T} {fs : List Value} (hy : zY y cy nY ret np) (hy2 : Cond.instanceMethod y ∈ zW ∧ Cond.selects Cn y y ∈ zW) (q0 : Nat) (he : ws[q0]? = some (b, .inr (ci, fs))) (hc : classes[ci]? = some (Cn, T, N)) (M : zM l y cy nY ret fY lY d (.ref b :: As) ws ws' r) (hAs : As.length = np) (hst : As.reverse ++ .ref b :: rest = st0) (pc' : Nat) (C : zOk d F own cc nL fr lo) (hd : decode cc pc = .ok (.invokevirtual idx, 3)) (hp : pc + 3 = pc') (hq : Cond.methodLink own idx y ∈ zW) (hm : fY + 1 ≤ fr ∧ 8 + (nY + 11) + lY ≤ lo) (hr : (rest.map fun v => v.category).sum ≤ 8) (K : V l d F 0 0 ws' lv pc' (r.toList ++ rest)) : V l d F 0 0 ws lv pc st0 := by
  subst hp
  subst hst
  obtain ⟨p, e, R, s, m, args, below, meth, c, Q, A⟩ := F
  intro H locs ls hP hD hS hl
  have hts := C.2.2.2.2.1
  have hK := C.2.2.2.2.2.2.1
  exact z_go (va_runV (As := As) (rest := rest) (Ts := zW) ⟨C.1, C.2.1, rfl, C.2.2.2.1, hts⟩ (M H.size) ⟨⟨rfl, rfl, Nat.le_trans hm.1 C.2.2.2.2.2.2.2.1, Nat.le_trans hm.2 C.2.2.2.2.2.2.2.2.1, pay_in hts (z_goodIn hy.1), List.mem_cons_self, hts _ hy.1, hts _ hy.2.1, ⟨hy.2.2.1, hy.2.2.2.1⟩, z_len hy.2.2.2.2, hts _ hq⟩, hts _ hy2.1, hts _ hy2.2⟩ ⟨z_blind, va_recv hK hP hc he, fun U hU hW => ⟨rfl, by rw [hU], by rw [hU]; exact hP, va_K.moved hW.alike hK, hD.weaken (fun _ _ _ _ => trivial), C.2.2.2.2.2.2.2.2.2.1, z_env C.2.2.2.2.2.2.2.2.2.1 C.2.2.2.2.2.2.2.2.2.2 C.2.2.2.2.2.1 hD hS hU hW⟩⟩ rfl hAs hl.1 rfl (lv_room hr) hd ⟨Nat.zero_le _, Nat.zero_le _⟩) C.2.2.2.2.2.1 hD hS hl K
theorem zr_callS {l : Launch} {d : zD} {F : zF} {ws : va_W} {lv : List (Option Value)} {pc : Nat} {own : String} {cc : ByteArray} {nL fr lo : Nat} {y : MethodName} {cy : ByteArray} {nY fY lY np idx : Nat} {ret : Option FieldType} {As rest st0 : List Value} {ws' : va_W} {r : Option Value} (hy : zY y cy nY ret np) (hy2 : Cond.static y ∈ zW) (M : zM l y cy nY ret fY lY d As ws ws' r) (hAs : As.length = np) (hst : As.reverse ++ rest = st0) (pc' : Nat) (C : zOk d F own cc nL fr lo) (hd : decode cc pc = .ok (.invokestatic idx, 3)) (hp : pc + 3 = pc') (hq : Cond.methodLink own idx y ∈ zW) (hm : fY + 1 ≤ fr ∧ 8 + (nY + 11) + lY ≤ lo) (hr : (rest.map fun v => v.category).sum ≤ 8) (K : V l d F 0 0 ws' lv pc' (r.toList ++ rest)) : V l d F 0 0 ws lv pc st0 := by
  subst hp
  subst hst
  obtain ⟨p, e, R, s, m, args, below, meth, c, Q, A⟩ := F
  intro H locs ls hP hD hS hl
  have hts := C.2.2.2.2.1
  have hK := C.2.2.2.2.2.2.1
  exact z_go (va_runS (As := As) (rest := rest) (Ts := zW) ⟨C.1, C.2.1, rfl, C.2.2.2.1, hts⟩ (M H.size) ⟨⟨rfl, rfl, Nat.le_trans hm.1 C.2.2.2.2.2.2.2.1, Nat.le_trans hm.2 C.2.2.2.2.2.2.2.2.1, pay_in hts (z_goodIn hy.1), List.mem_cons_self, hts _ hy.1, hts _ hy.2.1, ⟨hy.2.2.1, hy.2.2.2.1⟩, z_len hy.2.2.2.2, hts _ hq⟩, hts _ hy2⟩ ⟨z_blind, fun U hU hW => ⟨rfl, by rw [hU], by rw [hU]; exact hP, va_K.moved hW.alike hK, hD.weaken (fun _ _ _ _ => trivial), C.2.2.2.2.2.2.2.2.2.1, z_env C.2.2.2.2.2.2.2.2.2.1 C.2.2.2.2.2.2.2.2.2.2 C.2.2.2.2.2.1 hD hS hU hW⟩⟩ rfl hAs hl.1 rfl (lv_room hr) hd ⟨Nat.zero_le _, Nat.zero_le _⟩) C.2.2.2.2.2.1 hD hS hl K
theorem zr_callSN {l : Launch} {d : zD} {F : zF} {ws : va_W} {lv : List (Option Value)} {pc : Nat} {own : String} {cc : ByteArray} {nL fr lo : Nat} {y : MethodName} {cy : ByteArray} {nY fY lY np idx : Nat} {ret : Option FieldType} {host : String} {As rest st0 : List Value} {ws' : va_W} {r : Option Value} (hy : zY y cy nY ret np) (hy2 : Cond.static y ∈ zW) (M : zM l y cy nY ret fY lY d As ws ws' r) (hAs : As.length = np) (hst : As.reverse ++ rest = st0) (pc' : Nat) (C : zOk d F own cc nL fr lo) (hd : decode cc pc = .ok (.invokestatic idx, 3)) (hp : pc + 3 = pc') (hq : ∀ A U, d.2.2.2.2.2 A U → va_Nw (.methodLinkNest own idx y host) U) (hm : fY + 1 ≤ fr ∧ 8 + (nY + 11) + lY ≤ lo) (hr : (rest.map fun v => v.category).sum ≤ 8) (K : V l d F 0 0 ws' lv pc' (r.toList ++ rest)) : V l d F 0 0 ws lv pc st0 := by
  subst hp
  subst hst
  obtain ⟨p, e, R, s, m, args, below, meth, c, Q, A⟩ := F
  intro H locs ls hP hD hS hl
  have hts := C.2.2.2.2.1
  have hK := C.2.2.2.2.2.2.1
  exact z_go (va_runSN (As := As) (rest := rest) (Ts := zW) ⟨C.1, C.2.1, rfl, C.2.2.2.1, hts⟩ (M H.size) ⟨⟨⟨rfl, rfl, Nat.le_trans hm.1 C.2.2.2.2.2.2.2.1, Nat.le_trans hm.2 C.2.2.2.2.2.2.2.2.1, pay_in hts (z_goodIn hy.1), List.mem_cons_self⟩, hts _ hy.1, hts _ hy.2.1, ⟨hy.2.2.1, hy.2.2.2.1⟩, z_len hy.2.2.2.2, va_Nw.use rfl (hq A s C.2.2.2.2.2.2.2.2.2.2)⟩, hts _ hy2, trivial⟩ ⟨z_blind, fun U hU hW => ⟨rfl, by rw [hU], by rw [hU]; exact hP, va_K.moved hW.alike hK, hD.weaken (fun _ _ _ _ => trivial), C.2.2.2.2.2.2.2.2.2.1, z_env C.2.2.2.2.2.2.2.2.2.1 C.2.2.2.2.2.2.2.2.2.2 C.2.2.2.2.2.1 hD hS hU hW⟩⟩ rfl hAs hl.1 rfl (lv_room hr) hd ⟨Nat.zero_le _, Nat.zero_le _⟩) C.2.2.2.2.2.1 hD hS hl K
theorem zr_callVN {l : Launch} {d : zD} {F : zF} {ws : va_W} {lv : List (Option Value)} {pc : Nat} {own : String} {cc : ByteArray} {nL fr lo : Nat} {y : MethodName} {cy : ByteArray} {nY fY lY np idx ci b N : Nat} {ret : Option FieldType} {host : String} {As rest st0 : List Value} {ws' : va_W} {r : Option Value} {Cn : String} {T : u_T} {fs : List Value} (hy : zY y cy nY ret np) (hy2 : Cond.instanceMethod y ∈ zW ∧ Cond.selects Cn y y ∈ zW) (q0 : Nat) (he : ws[q0]? = some (b, .inr (ci, fs))) (hc : classes[ci]? = some (Cn, T, N)) (M : zM l y cy nY ret fY lY d (.ref b :: As) ws ws' r) (hAs : As.length = np) (hst : As.reverse ++ .ref b :: rest = st0) (pc' : Nat) (C : zOk d F own cc nL fr lo) (hd : decode cc pc = .ok (.invokevirtual idx, 3)) (hp : pc + 3 = pc') (hq : ∀ A U, d.2.2.2.2.2 A U → va_Nw (.methodLinkNest own idx y host) U) (hm : fY + 1 ≤ fr ∧ 8 + (nY + 11) + lY ≤ lo) (hr : (rest.map fun v => v.category).sum ≤ 8) (K : V l d F 0 0 ws' lv pc' (r.toList ++ rest)) : V l d F 0 0 ws lv pc st0 := by
  subst hp
  subst hst
  obtain ⟨p, e, R, s, m, args, below, meth, c, Q, A⟩ := F
  intro H locs ls hP hD hS hl
  have hts := C.2.2.2.2.1
  have hK := C.2.2.2.2.2.2.1
  exact z_go (va_runVN (As := As) (rest := rest) (Ts := zW) ⟨C.1, C.2.1, rfl, C.2.2.2.1, hts⟩ (M H.size) ⟨⟨⟨rfl, rfl, Nat.le_trans hm.1 C.2.2.2.2.2.2.2.1, Nat.le_trans hm.2 C.2.2.2.2.2.2.2.2.1, pay_in hts (z_goodIn hy.1), List.mem_cons_self⟩, hts _ hy.1, hts _ hy.2.1, ⟨hy.2.2.1, hy.2.2.2.1⟩, z_len hy.2.2.2.2, va_Nw.use rfl (hq A s C.2.2.2.2.2.2.2.2.2.2)⟩, hts _ hy2.1, hts _ hy2.2⟩ ⟨z_blind, va_recv hK hP hc he, fun U hU hW => ⟨rfl, by rw [hU], by rw [hU]; exact hP, va_K.moved hW.alike hK, hD.weaken (fun _ _ _ _ => trivial), C.2.2.2.2.2.2.2.2.2.1, z_env C.2.2.2.2.2.2.2.2.2.1 C.2.2.2.2.2.2.2.2.2.2 C.2.2.2.2.2.1 hD hS hU hW⟩⟩ rfl hAs hl.1 rfl (lv_room hr) hd ⟨Nat.zero_le _, Nat.zero_le _⟩) C.2.2.2.2.2.1 hD hS hl K
theorem zbd_some {α β : Type} {x : Option (α × zS)} {f : α → zS → Option β} {out : β} (h : zbd x f = some out) : ∃ q, x = some q ∧ f q.1 q.2 = some out := by
  cases x with
  | none => cases h
  | some q => exact ⟨q, rfl, h⟩
theorem zr_ldc_w {l : Launch} {d : zD} {F : zF} {k n : Nat} {ws : va_W} {lv : List (Option Value)} {pc : Nat} {st : List Value} {own : String} {cc : ByteArray} {nL fr lo : Nat} {v : Int32} {i : Nat} (pc' : Nat) (C : zOk d F own cc nL fr lo) (hd : decode cc pc = .ok (.ldc_w i, 3)) (hp : pc + 3 = pc') (hq : Cond.constant own i v ∈ zW) (K : V l d F k n ws lv pc' (.int v :: st)) : V l d F k n ws lv pc st := by
  subst hp
  obtain ⟨p, e, R, s, m, args, below, meth, c, Q, A⟩ := F
  intro H locs ls hP hD hS hl
  exact lv_ldcw C.1 C.2.1 C.2.2.2.1 (C.2.2.2.2.1 _ hq) hd (K H locs ls hP hD hS hl)
theorem z_cmp0 (x y : Int64) : lg_cmp x y = 0 ↔ x = y := by
  unfold lg_cmp
  constructor
  · intro h
    repeat' split at h
    all_goals first | assumption | (exact absurd h (by decide)) | skip
    all_goals (apply Int64.toInt_inj.mp; simp only [Int64.lt_iff_toInt_lt, Int64.le_iff_toInt_le] at *; omega)
  · intro h
    subst h
    simp [Int64.lt_irrefl]
theorem zr_lcmp_ne {l : Launch} {d : zD} {F : zF} {k n : Nat} {ws : va_W} {lv : List (Option Value)} {pc : Nat} {st : List Value} {own : String} {cc : ByteArray} {nL fr lo : Nat} {x y : Int64} {off : Int} {β : Type} {X Y : Option β} {out : β} (tgt pc1 pc' : Nat) (C : zOk d F own cc nL fr lo) (hd : decode cc pc = .ok (.lcmp, 1)) (hp1 : pc + 1 = pc1) (hd1 : decode cc pc1 = .ok (.ifCond .ne off, 3)) (ht : (pc1 : Int) + off = (tgt : Int)) (hp : pc1 + 3 = pc') (hf : (if x = y then X else Y) = some out) (K1 : Y = some out → V l d F k n ws lv tgt st) (K2 : X = some out → V l d F k n ws lv pc' st) : V l d F k n ws lv pc (.long y :: .long x :: st) := by
  subst hp1
  obtain ⟨p, e, R, s, m, args, below, meth, c, Q, A⟩ := F
  intro H locs ls hP hD hS hl
  refine W.lcmp C.1 C.2.1 hd ?_
  have hf2 : (if lg_cmp x y = 0 then X else Y) = some out := by
    by_cases h : x = y
    · rw [if_pos ((z_cmp0 x y).mpr h)]; rw [if_pos h] at hf; exact hf
    · rw [if_neg (fun q => h ((z_cmp0 x y).mp q))]; rw [if_neg h] at hf; exact hf
  exact zr_if_ne (F := (p, e, R, s, m, args, below, meth, c, Q, A)) tgt pc' C hd1 ht hp hf2 K1 K2 H locs ls hP hD hS hl
theorem zr_lcmp_eq {l : Launch} {d : zD} {F : zF} {k n : Nat} {ws : va_W} {lv : List (Option Value)} {pc : Nat} {st : List Value} {own : String} {cc : ByteArray} {nL fr lo : Nat} {x y : Int64} {off : Int} {β : Type} {X Y : Option β} {out : β} (tgt pc1 pc' : Nat) (C : zOk d F own cc nL fr lo) (hd : decode cc pc = .ok (.lcmp, 1)) (hp1 : pc + 1 = pc1) (hd1 : decode cc pc1 = .ok (.ifCond .eq off, 3)) (ht : (pc1 : Int) + off = (tgt : Int)) (hp : pc1 + 3 = pc') (hf : (if x = y then X else Y) = some out) (K1 : X = some out → V l d F k n ws lv tgt st) (K2 : Y = some out → V l d F k n ws lv pc' st) : V l d F k n ws lv pc (.long y :: .long x :: st) := by
  subst hp1
  obtain ⟨p, e, R, s, m, args, below, meth, c, Q, A⟩ := F
  intro H locs ls hP hD hS hl
  refine W.lcmp C.1 C.2.1 hd ?_
  have hf2 : (if lg_cmp x y = 0 then X else Y) = some out := by
    by_cases h : x = y
    · rw [if_pos ((z_cmp0 x y).mpr h)]; rw [if_pos h] at hf; exact hf
    · rw [if_neg (fun q => h ((z_cmp0 x y).mp q))]; rw [if_neg h] at hf; exact hf
  exact zr_if_eq (F := (p, e, R, s, m, args, below, meth, c, Q, A)) tgt pc' C hd1 ht hp hf2 K1 K2 H locs ls hP hD hS hl
theorem z_ti {x c : Int32} {v : Int} (hc : c.toInt = v) (hx : x.toInt = v) : x = c := Int32.toInt_inj.mp (hx.trans hc.symm)
theorem zr_tcase {l : Launch} {d : zD} {F : zF} {k n : Nat} {ws : va_W} {lv : List (Option Value)} {pc : Nat} {st : List Value} {own : String} {cc : ByteArray} {nL fr lo : Nat} {dflt lw hi off : Int} {offs : Array Int} {len j : Nat} {x : Int32} {β : Type} {X Y : Option β} {out : β} (v : Int32) (tgt : Nat) (C : zOk d F own cc nL fr lo) (hd : decode cc pc = .ok (.tableswitch dflt lw hi offs, len)) (hc : v.toInt = lw + (j : Int)) (hh : lw + (j : Int) ≤ hi) (ho : offs[j]? = some off) (ht : (pc : Int) + off = (tgt : Int)) (hf : (if x = v then X else Y) = some out) (K1 : X = some out → V l d F k n ws lv tgt st) (K2 : ¬ x = v → Y = some out → V l d F k n ws lv pc (.int x :: st)) : V l d F k n ws lv pc (.int x :: st) := by
  by_cases hx : x = v
  · rw [if_pos hx] at hf
    subst hx
    obtain ⟨p, e, R, s, m, args, below, meth, c, Q, A⟩ := F
    intro H locs ls hP hD hS hl
    exact lv_tableIn C.1 C.2.1 hd (by omega) (by omega) (by rw [show (x.toInt - lw).toNat = j by omega]; exact ho) ht (K1 hf H locs ls hP hD hS hl)
  · rw [if_neg hx] at hf
    exact K2 hx hf
theorem zr_tdflt {l : Launch} {d : zD} {F : zF} {k n : Nat} {ws : va_W} {lv : List (Option Value)} {pc : Nat} {st : List Value} {own : String} {cc : ByteArray} {nL fr lo : Nat} {dflt lw hi : Int} {offs : Array Int} {len : Nat} {x : Int32} (tgt : Nat) (C : zOk d F own cc nL fr lo) (hd : decode cc pc = .ok (.tableswitch dflt lw hi offs, len)) (ht : (pc : Int) + dflt = (tgt : Int)) (hs : lw + (offs.size : Int) = hi + 1) (hz : ∀ j : Nat, j < offs.size → x.toInt = lw + (j : Int) → offs[j]? = some dflt) (K : V l d F k n ws lv tgt st) : V l d F k n ws lv pc (.int x :: st) := by
  obtain ⟨p, e, R, s, m, args, below, meth, c, Q, A⟩ := F
  intro H locs ls hP hD hS hl
  by_cases h1 : x.toInt < lw
  · exact lv_tableOut C.1 C.2.1 hd (Or.inl h1) ht (K H locs ls hP hD hS hl)
  · by_cases h2 : hi < x.toInt
    · exact lv_tableOut C.1 C.2.1 hd (Or.inr h2) ht (K H locs ls hP hD hS hl)
    · exact lv_tableIn C.1 C.2.1 hd h1 h2 (hz (x.toInt - lw).toNat (by omega) (by omega)) ht (K H locs ls hP hD hS hl)

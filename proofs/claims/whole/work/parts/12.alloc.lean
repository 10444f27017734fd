theorem q_97 : Cond.instanceMethod Lib.objectInit ∈ zW := z_w 97 (by decide +kernel) (by decide +kernel)
theorem q_98 : Cond.code Lib.objectInit ⟨#[0xb1]⟩ 1 none ∈ zW := z_w 98 (by decide +kernel) (by decide +kernel)
theorem q_138 : Cond.arrayClass .int ∈ zW := z_w 138 (by decide +kernel) (by decide +kernel)
theorem q_1172 : Cond.arrayClass .long ∈ zW := z_w 1172 (by decide +kernel) (by decide +kernel)
theorem q_1173 : Cond.arrayClass .boolean ∈ zW := z_w 1173 (by decide +kernel) (by decide +kernel)
/-! Methods that make cells; calls over a part of the world. -/
theorem zD_iff {A : Nat → Prop} {ws : va_W} : va_D A ws ↔ (ws.map Prod.fst).Nodup ∧ ∀ x ∈ ws, A x.1 := by
  constructor
  · intro h
    refine ⟨?_, fun x hx => ?_⟩
    · rw [List.Nodup, List.pairwise_iff_getElem]
      intro i j hi hj hij he
      rw [List.length_map] at hi hj
      rw [List.getElem_map, List.getElem_map] at he
      have := h.1 i j _ _ (List.getElem?_eq_getElem hi) (List.getElem?_eq_getElem hj) he
      omega
    · obtain ⟨k, hk⟩ := List.getElem?_of_mem hx
      exact h.2 k x hk
  · rintro ⟨h1, h2⟩
    refine ⟨fun i j p q hi hj hpq => ?_, fun k q hk => h2 q (List.mem_of_getElem? hk)⟩
    rw [List.Nodup, List.pairwise_iff_getElem] at h1
    obtain ⟨li, ei⟩ := List.getElem?_eq_some_iff.mp hi
    obtain ⟨lj, ej⟩ := List.getElem?_eq_some_iff.mp hj
    rcases Nat.lt_trichotomy i j with h | h | h
    · exact absurd (by rw [List.getElem_map, List.getElem_map, ei, ej, hpq]) (h1 i j (by rw [List.length_map]; exact li) (by rw [List.length_map]; exact lj) h)
    · exact h
    · exact absurd (by rw [List.getElem_map, List.getElem_map, ei, ej, hpq]) (h1 j i (by rw [List.length_map]; exact lj) (by rw [List.length_map]; exact li) h)
theorem zP_iff {D : va_G} {cl : List vw_C} {ws : va_W} {H : Heap} : va_P D cl ws H ↔ ∀ x ∈ ws, va_at D cl x H := by
  constructor
  · intro h x hx
    obtain ⟨k, hk⟩ := List.getElem?_of_mem hx
    exact h k x hk
  · exact fun h k q hk => h q (List.mem_of_getElem? hk)
theorem zA_iff {ws : va_W} {sz q : Nat} : va_A ws sz q ↔ (∃ x ∈ ws, x.1 = q) ∨ sz ≤ q := by
  unfold va_A
  constructor
  · rintro (⟨k, e, h⟩ | h)
    · exact Or.inl ⟨_, List.mem_of_getElem? h, rfl⟩
    · exact Or.inr h
  · rintro (⟨x, hx, rfl⟩ | h)
    · obtain ⟨k, hk⟩ := List.getElem?_of_mem hx
      exact Or.inl ⟨k, x.2, hk⟩
    · exact Or.inr h
theorem z_frame {D : va_G} {cl : List vw_C} {wl ws wr ws' : va_W} {A : Nat → Prop} {H H1 : Heap} (hP : va_P D cl (wl ++ (ws ++ wr)) H) (hD : va_D A (wl ++ (ws ++ wr))) (hP1 : va_P D cl ws' H1) (hD1 : va_D (va_A ws H.size) ws') (hfree : ∀ q, va_A ws H.size q → A q) (hk : ∀ q : Nat, q < H.size → ¬ va_A ws H.size q → H1[q]? = H[q]?) : va_P D cl (wl ++ (ws' ++ wr)) H1 ∧ va_D A (wl ++ (ws' ++ wr)) := by
  rw [zP_iff] at hP hP1 ⊢
  rw [zD_iff] at hD hD1 ⊢
  have hlt : ∀ x ∈ wl ++ (ws ++ wr), x.1 < H.size := fun x hx => (hP x hx).lt
  have nd := hD.1
  simp only [List.map_append] at nd ⊢
  have out : ∀ x, x ∈ wl ∨ x ∈ wr → ¬ va_A ws H.size x.1 := by
    intro x hx ha
    rcases zA_iff.mp ha with ⟨y, hy, e⟩ | h
    · rw [List.nodup_append] at nd
      rcases hx with hx | hx
      · exact nd.2.2 x.1 (List.mem_map_of_mem hx) y.1 (List.mem_append_left _ (List.mem_map_of_mem hy)) e.symm
      · have nd2 := nd.2.1
        rw [List.nodup_append] at nd2
        exact nd2.2.2 y.1 (List.mem_map_of_mem hy) x.1 (List.mem_map_of_mem hx) e
    · have := hlt x (by rcases hx with hx | hx <;> simp [hx])
      omega
  refine ⟨fun x hx => ?_, ?_, fun x hx => ?_⟩
  · rcases List.mem_append.mp hx with h | h
    · exact (hP x (by simp [h])).kept (hk _ (hlt x (by simp [h])) (out x (Or.inl h)))
    · rcases List.mem_append.mp h with h | h
      · exact hP1 x h
      · exact (hP x (by simp [h])).kept (hk _ (hlt x (by simp [h])) (out x (Or.inr h)))
  · rw [List.nodup_append] at nd ⊢
    have nd2 := nd.2.1
    rw [List.nodup_append] at nd2
    refine ⟨nd.1, ?_, ?_⟩
    · rw [List.nodup_append]
      refine ⟨hD1.1, nd2.2.1, ?_⟩
      intro a ha b hb hab
      obtain ⟨x, hx, rfl⟩ := List.mem_map.mp ha
      obtain ⟨y, hy, rfl⟩ := List.mem_map.mp hb
      exact out y (Or.inr hy) (hab ▸ hD1.2 x hx)
    · intro a ha b hb hab
      obtain ⟨x, hx, rfl⟩ := List.mem_map.mp ha
      rcases List.mem_append.mp hb with hb | hb
      · obtain ⟨y, hy, rfl⟩ := List.mem_map.mp hb
        exact out x (Or.inl hx) (hab ▸ hD1.2 y hy)
      · exact nd.2.2 x.1 ha b (List.mem_append_right _ hb) hab
  · rcases List.mem_append.mp hx with h | h
    · exact hD.2 x (by simp [h])
    · rcases List.mem_append.mp h with h | h
      · exact hfree _ (hD1.2 x h)
      · exact hD.2 x (by simp [h])
def zQa (post : Option Value → va_W → Prop) (d : zD) (A : Nat → Prop) : Array Value → State → Outcome → State → Prop := fun _ st oc t => (∃ (r : Option Value) (ws : va_W), oc = .returned r ∧ post r ws ∧ va_P d.1 classes ws t.heap ∧ va_K d.1 classes (zt d) t ∧ va_D A ws) ∧ va_F A st t
def zMa (l : Launch) (y : MethodName) (cc : ByteArray) (nL : Nat) (ret : Option FieldType) (fr lo mc ms : Nat) (d : zD) (av : List Value) (ws : va_W) (post : Option Value → va_W → Prop) : Prop := ∀ sz : Nat, Met l y (.code y cc nL ret :: zW) { frames := fr, cells := mc, slots := ms, locals := lo } (va_Pc av (fun U => U.heap.size = sz ∧ va_P d.1 classes ws U.heap ∧ va_K d.1 classes (zt d) U ∧ va_D (fun _ => True) ws ∧ zEc d.2.2.2.2.2 ∧ d.2.2.2.2.2 (va_A ws sz) U)) (zQa post d (va_A ws sz)) mc ms (va_A ws sz)
def zRm (F : zF) (kc ns : Nat) : Prop := match F with
  | (_, _, R, _, _, _, _, _, _, _, _) => kc ≤ R.cells ∧ ns ≤ R.slots
def zRa (d : zD) (F : zF) (ret : Option FieldType) (mc ms : Nat) (post : Option Value → va_W → Prop) : Prop := match F with
  | (_, _, _, s, _, args, below, meth, _, Q, A) => Q = MQ below (zQa post d A) args s mc ms A ∧ meth.sig.returnType = ret ∧ meth.locks = false
def zNm (F : zF) (nm : String) : Prop := match F with
  | (_, _, _, _, _, _, _, meth, _, _, _) => meth.name = nm
theorem zMa_of {l : Launch} {y : MethodName} {cc : ByteArray} {nL : Nat} {ret : Option FieldType} {fr lo mc ms : Nat} {d : zD} {av : List Value} {ws : va_W} {post : Option Value → va_W → Prop} (lv : List (Option Value)) (hy : plainName y.cls = true) (hlv : zp 0 lv = lv_args 0 av) (hn : (lg_sl av).length ≤ nL) (K : ∀ F : zF, zOk d F y.cls cc nL fr lo → zRm F mc ms → zNm F y.name → zRa d F ret mc ms post → V l d F 0 0 ws lv 0 []) : zMa l y cc nL ret fr lo mc ms d av ws post := by
  intro sz
  refine Met.ofW (cc := cc) (maxL := nL) (ret := ret) hy rfl ?_
  intro p e s m args below meth c s₁ B hml hv
  obtain ⟨rfl, hsz, hP, hK, hD0, hEc, hE⟩ := hv
  subst hsz
  have hts := atoms_spec (ws := .code y cc nL ret :: zW) B.pre
  have hD := hD0.self (sz := s.heap.size)
  have hl := lv_entry av (n := nL) hn
  rw [lg_entry_eq]
  refine K (p, e, _, s, m, _, below, meth, c, _, va_A ws s.heap.size) ⟨B.exec, B.bytes, hml, findClass_of_methodNamed B.named, fun w hw => hts w (List.mem_cons_of_mem _ hw), fun q h => Or.inr h, hK, Nat.le_refl _, Nat.le_refl _, hEc, hE⟩ ⟨Nat.le_refl _, Nat.le_refl _⟩ (name_of_methodNamed B.named B.method).1 ⟨rfl, B.returns, B.notSynchronized⟩ s.heap [] _ hP hD va_S.rf ?_
  rw [hml]
  unfold zh
  rw [hlv]
  exact hl
theorem zr_vreta {l : Launch} {d : zD} {F : zF} {ws : va_W} {lv : List (Option Value)} {pc k n mc ms : Nat} {own : String} {cc : ByteArray} {nL fr lo : Nat} {post : Option Value → va_W → Prop} (C : zOk d F own cc nL fr lo) (hd : decode cc pc = .ok (.return_, 1)) (T : zRa d F none mc ms post) (hk : k ≤ mc) (hn : n ≤ ms) (hp : post none ws) : V l d F k n ws lv pc [] := by
  obtain ⟨p, e, R, s, m, args, below, meth, c, Q, A⟩ := F
  intro H locs ls hP hD hS hl
  obtain ⟨rfl, hr, hlk⟩ := T
  refine W.widen hk hn ?_
  exact W.vret C.1 C.2.1 hr (fun t ht hW => ⟨⟨_, _, rfl, hp, by rw [ht]; exact hP, va_K.moved hW.alike C.2.2.2.2.2.2.1, hD⟩, hS.F ht⟩) hS.2.2 hd hlk
theorem zr_ireta {l : Launch} {d : zD} {F : zF} {ws : va_W} {lv : List (Option Value)} {pc k n mc ms : Nat} {own : String} {cc : ByteArray} {nL fr lo : Nat} {v : Int32} {post : Option Value → va_W → Prop} (C : zOk d F own cc nL fr lo) (hd : decode cc pc = .ok (.ireturn, 1)) (T : zRa d F (some .int) mc ms post) (hk : k ≤ mc) (hn : n ≤ ms) (hp : post (some (.int v)) ws) : V l d F k n ws lv pc [.int v] := by
  obtain ⟨p, e, R, s, m, args, below, meth, c, Q, A⟩ := F
  intro H locs ls hP hD hS hl
  obtain ⟨rfl, hr, hlk⟩ := T
  refine W.widen hk hn ?_
  exact W.iret C.1 C.2.1 hr (fun t ht hW => ⟨⟨_, _, rfl, hp, by rw [ht]; exact hP, va_K.moved hW.alike C.2.2.2.2.2.2.1, hD⟩, hS.F ht⟩) hS.2.2 hd hlk
theorem zr_areta {l : Launch} {d : zD} {F : zF} {ws : va_W} {lv : List (Option Value)} {pc k n mc ms a : Nat} {own : String} {cc : ByteArray} {nL fr lo : Nat} {t : FieldType} {post : Option Value → va_W → Prop} (C : zOk d F own cc nL fr lo) (hd : decode cc pc = .ok (.areturn, 1)) (T : zRa d F (some (.array t)) mc ms post) (hk : k ≤ mc) (hn : n ≤ ms) (hp : post (some (.ref a)) ws) : V l d F k n ws lv pc [.ref a] := by
  obtain ⟨p, e, R, s, m, args, below, meth, c, Q, A⟩ := F
  intro H locs ls hP hD hS hl
  obtain ⟨rfl, hr, hlk⟩ := T
  refine W.widen hk hn ?_
  exact W.aret C.1 C.2.1 hr (Or.inr ⟨_, rfl⟩) (Or.inr ⟨_, rfl⟩) (fun t ht hW => ⟨⟨_, _, rfl, hp, by rw [ht]; exact hP, va_K.moved hW.alike C.2.2.2.2.2.2.1, hD⟩, hS.F ht⟩) hS.2.2 hd hlk
theorem zr_widen {l : Launch} {d : zD} {F : zF} {ws : va_W} {lv : List (Option Value)} {pc k n k' n' : Nat} {st : List Value} (hk : k ≤ k') (hn : n ≤ n') (K : V l d F k' n' ws lv pc st) : V l d F k n ws lv pc st := by
  obtain ⟨p, e, R, s, m, args, below, meth, c, Q, A⟩ := F
  intro H locs ls hP hD hS hl
  exact W.widen hk hn (K H locs ls hP hD hS hl)
theorem zr_world {l : Launch} {d : zD} {F : zF} {ws ws' : va_W} {lv : List (Option Value)} {pc k n : Nat} {st : List Value} (is : List Nat) (hn : va_nd is = true) (h : is.map (fun i => ws[i]?) = ws'.map some) (K : V l d F k n ws' lv pc st) : V l d F k n ws lv pc st := by
  obtain ⟨p, e, R, s, m, args, below, meth, c, Q, A⟩ := F
  intro H locs ls hP hD hS hl
  have hs : is.filterMap (fun i => ws[i]?) = ws' := by
    have e : is.filterMap (fun i => ws[i]?) = (is.map (fun i => ws[i]?)).filterMap id := by rw [List.filterMap_map]; rfl
    rw [e, h, List.filterMap_map]
    simp
  exact K H locs ls (hP.sub is hs) (hD.sub is hn h) hS hl
/-- behind a call over the part ws of the world -/
theorem z_goa {p : Program} {l : Launch} {e : Env} {R : Room} {s : State} {m : MethodId} {args : Array Value} {below : List Frame} {meth : Method} {c : Code} {H : Heap} {locs : List Loc} {Q : State → Prop} {A : Nat → Prop} {d : zD} {pc k n mc ms : Nat} {ls : Array Slot} {rest st0 : List Value} {a : Array Value} {post : Option Value → va_W → Prop} {wl ws wr : va_W} {lv : List (Option Value)} (hr : va_Run p l e R s m args below meth c H locs k n mc ms (F0 m pc ls st0) rest (zQa post d (va_A ws H.size) a) (va_A ws H.size)) (hA : ∀ q : Nat, s.heap.size ≤ q → A q) (hP : va_P d.1 classes (wl ++ (ws ++ wr)) H) (hD : va_D A (wl ++ (ws ++ wr))) (hS : va_S A s.heap H locs) (hl : zh ls c.maxLocals lv) (K : ∀ (r : Option Value) (ws' : va_W), post r ws' → V l d (p, e, R, s, m, args, below, meth, c, Q, A) (k + mc) (n + ms) (wl ++ (ws' ++ wr)) lv (pc + 3) (r.toList ++ rest)) : W p l e R s m args below meth c H locs k n Q (F0 m pc ls st0) := by
  have hfree : ∀ q, va_A ws H.size q → A q := fun q h => by
    rcases zA_iff.mp h with ⟨x, hx, rfl⟩ | h
    · exact (zD_iff.mp hD).2 x (by simp [hx])
    · exact hA q (Nat.le_trans hS.1 h)
  intro T hT X
  obtain ⟨v, st₀, t, T', L, h0, X', hL, e1, e2, ⟨⟨r, ws', hv, hpo, hP1, hK1, hD1⟩, hz, hk⟩, st⟩ := hr T hT X
  cases hv
  rw [h0] at hz hk
  obtain ⟨hP2, hD2⟩ := z_frame hP hD hP1 hD1 hfree hk
  obtain ⟨t2, a1, b1⟩ := K _ _ hpo T'.heap (locs ++ L) ls (by rw [e1]; exact hP2) hD2 ⟨Nat.le_trans hS.1 (by rw [e1]; exact hz), fun q h1 h2 => by rw [e1, hk q (Nat.lt_of_lt_of_le h1 hS.1) (fun z => h2 (hfree q z))]; exact hS.2.1 q h1 h2, fun q hq => by
      rcases List.mem_append.mp hq with h | h
      · exact hS.2.2 q h
      · exact hfree _ (hL q h)⟩ hl T' rfl X'
  exact ⟨t2, st t2 a1, b1⟩
theorem z_envf {s U : State} {E : (Nat → Prop) → State → Prop} {A : Nat → Prop} {wl ws wr : va_W} {H : Heap} {locs : List Loc} (hc : zEc E) (h : E A s) (hA : ∀ q : Nat, s.heap.size ≤ q → A q) (hD : va_D A (wl ++ (ws ++ wr))) (hS : va_S A s.heap H locs) (hU : U.heap = H) (hW : s.WarmedH U.vm) : E (va_A ws H.size) U := by
  refine hc.1 A _ U (fun q h => ?_) (hc.2.1 A s U hW (by rw [hU]; exact hS.1) (fun a h1 h2 => by rw [hU]; exact hS.2.1 a h1 h2) h)
  rcases zA_iff.mp h with ⟨x, hx, rfl⟩ | h
  · exact (zD_iff.mp hD).2 x (by simp [hx])
  · exact hA q (Nat.le_trans hS.1 h)
theorem zP_mid {D : va_G} {cl : List vw_C} {wl ws wr : va_W} {H : Heap} (hP : va_P D cl (wl ++ (ws ++ wr)) H) : va_P D cl ws H := zP_iff.mpr fun x hx => zP_iff.mp hP x (by simp [hx])
theorem zD_mid {A : Nat → Prop} {wl ws wr : va_W} (hD : va_D A (wl ++ (ws ++ wr))) : va_D A ws := by
  rw [zD_iff] at hD ⊢
  refine ⟨?_, fun x hx => hD.2 x (by simp [hx])⟩
  have nd := hD.1
  simp only [List.map_append] at nd
  exact (List.nodup_append.mp (List.nodup_append.mp nd).2.1).1
theorem zM_a {l : Launch} {y : MethodName} {cc : ByteArray} {nL : Nat} {ret : Option FieldType} {fr lo : Nat} {d : zD} {av : List Value} {ws ws' : va_W} {r : Option Value} (M : zM l y cc nL ret fr lo d av ws ws' r) : zMa l y cc nL ret fr lo 0 0 d av ws (fun r' w' => r' = r ∧ w' = ws') := by
  intro sz p e h1 h2 h3 s m args below hf ha hb hpre
  obtain ⟨k, o, g1, g2, g3, ⟨⟨hv, hP, hK, hD⟩, hF⟩, gL⟩ := M sz p e h1 h2 h3 s m args below hf ha hb hpre
  exact ⟨k, o, g1, g2, g3, ⟨⟨_, _, hv, ⟨rfl, rfl⟩, hP, hK, hD⟩, hF⟩, gL⟩
theorem zr_callVa {l : Launch} {d : zD} {F : zF} {wl ws wr : va_W} {lv : List (Option Value)} {pc : Nat} {own : String} {cc : ByteArray} {nL fr lo : Nat} {y : MethodName} {cy : ByteArray} {k n mc ms kc ns nY fY lY np idx ci b N : Nat} {ret : Option FieldType} {As rest st0 : List Value} {post : Option Value → va_W → Prop} {Cn : String} {T : u_T} {fs : List Value} (hy : zY y cy nY ret np) (hy2 : Cond.instanceMethod y ∈ zW ∧ Cond.selects Cn y y ∈ zW) (q0 : Nat) (he : ws[q0]? = some (b, .inr (ci, fs))) (hc : classes[ci]? = some (Cn, T, N)) (M : zMa l y cy nY ret fY lY mc ms d (.ref b :: As) ws post) (hAs : As.length = np) (hst : As.reverse ++ .ref b :: rest = st0) (pc' : Nat) (C : zOk d F own cc nL fr lo) (G : zRm F kc ns) (hkc : k + mc ≤ kc) (hns : n + ms ≤ ns) (hd : decode cc pc = .ok (.invokevirtual idx, 3)) (hp : pc + 3 = pc') (hq : Cond.methodLink own idx y ∈ zW) (hm : fY + 1 ≤ fr ∧ 8 + (nY + 11) + lY ≤ lo) (hr : (rest.map fun v => v.category).sum ≤ 8) (K : ∀ (r : Option Value) (ws' : va_W), post r ws' → V l d F (k + mc) (n + ms) (wl ++ (ws' ++ wr)) lv pc' (r.toList ++ rest)) : V l d F k n (wl ++ (ws ++ wr)) lv pc st0 := by
  subst hp
  subst hst
  obtain ⟨p, e, R, s, m, args, below, meth, c, Q, A⟩ := F
  intro H locs ls hP hD hS hl
  have hts := C.2.2.2.2.1
  have hK := C.2.2.2.2.2.2.1
  have hP0 := zP_mid hP
  have hD0 := zD_mid hD
  exact z_goa (va_runV (As := As) (rest := rest) (Ts := zW) ⟨C.1, C.2.1, rfl, C.2.2.2.1, hts⟩ (M H.size) ⟨⟨rfl, rfl, Nat.le_trans hm.1 C.2.2.2.2.2.2.2.1, Nat.le_trans hm.2 C.2.2.2.2.2.2.2.2.1, pay_in hts (z_goodIn hy.1), List.mem_cons_self, hts _ hy.1, hts _ hy.2.1, ⟨hy.2.2.1, hy.2.2.2.1⟩, z_len hy.2.2.2.2, hts _ hq⟩, hts _ hy2.1, hts _ hy2.2⟩ ⟨z_blind, va_recv hK hP0 hc he, fun U hU hW => ⟨rfl, by rw [hU], by rw [hU]; exact hP0, va_K.moved hW.alike hK, hD0.weaken (fun _ _ _ _ => trivial), C.2.2.2.2.2.2.2.2.2.1, z_envf C.2.2.2.2.2.2.2.2.2.1 C.2.2.2.2.2.2.2.2.2.2 C.2.2.2.2.2.1 hD hS hU hW⟩⟩ rfl hAs hl.1 rfl (lv_room hr) hd ⟨Nat.le_trans hkc G.1, Nat.le_trans hns G.2⟩) C.2.2.2.2.2.1 hP hD hS hl K
theorem zr_callSa {l : Launch} {d : zD} {F : zF} {wl ws wr : va_W} {lv : List (Option Value)} {pc : Nat} {own : String} {cc : ByteArray} {nL fr lo : Nat} {y : MethodName} {cy : ByteArray} {k n mc ms kc ns nY fY lY np idx : Nat} {ret : Option FieldType} {As rest st0 : List Value} {post : Option Value → va_W → Prop} (hy : zY y cy nY ret np) (hy2 : Cond.static y ∈ zW) (M : zMa l y cy nY ret fY lY mc ms d (As) ws post) (hAs : As.length = np) (hst : As.reverse ++ rest = st0) (pc' : Nat) (C : zOk d F own cc nL fr lo) (G : zRm F kc ns) (hkc : k + mc ≤ kc) (hns : n + ms ≤ ns) (hd : decode cc pc = .ok (.invokestatic idx, 3)) (hp : pc + 3 = pc') (hq : Cond.methodLink own idx y ∈ zW) (hm : fY + 1 ≤ fr ∧ 8 + (nY + 11) + lY ≤ lo) (hr : (rest.map fun v => v.category).sum ≤ 8) (K : ∀ (r : Option Value) (ws' : va_W), post r ws' → V l d F (k + mc) (n + ms) (wl ++ (ws' ++ wr)) lv pc' (r.toList ++ rest)) : V l d F k n (wl ++ (ws ++ wr)) lv pc st0 := by
  subst hp
  subst hst
  obtain ⟨p, e, R, s, m, args, below, meth, c, Q, A⟩ := F
  intro H locs ls hP hD hS hl
  have hts := C.2.2.2.2.1
  have hK := C.2.2.2.2.2.2.1
  have hP0 := zP_mid hP
  have hD0 := zD_mid hD
  exact z_goa (va_runS (As := As) (rest := rest) (Ts := zW) ⟨C.1, C.2.1, rfl, C.2.2.2.1, hts⟩ (M H.size) ⟨⟨rfl, rfl, Nat.le_trans hm.1 C.2.2.2.2.2.2.2.1, Nat.le_trans hm.2 C.2.2.2.2.2.2.2.2.1, pay_in hts (z_goodIn hy.1), List.mem_cons_self, hts _ hy.1, hts _ hy.2.1, ⟨hy.2.2.1, hy.2.2.2.1⟩, z_len hy.2.2.2.2, hts _ hq⟩, hts _ hy2⟩ ⟨z_blind, fun U hU hW => ⟨rfl, by rw [hU], by rw [hU]; exact hP0, va_K.moved hW.alike hK, hD0.weaken (fun _ _ _ _ => trivial), C.2.2.2.2.2.2.2.2.2.1, z_envf C.2.2.2.2.2.2.2.2.2.1 C.2.2.2.2.2.2.2.2.2.2 C.2.2.2.2.2.1 hD hS hU hW⟩⟩ rfl hAs hl.1 rfl (lv_room hr) hd ⟨Nat.le_trans hkc G.1, Nat.le_trans hns G.2⟩) C.2.2.2.2.2.1 hP hD hS hl K
theorem zr_callIa {l : Launch} {d : zD} {F : zF} {wl ws wr : va_W} {lv : List (Option Value)} {pc : Nat} {own : String} {cc : ByteArray} {nL fr lo : Nat} {y : MethodName} {cy : ByteArray} {k n mc ms kc ns nY fY lY np idx b : Nat} {As rest st0 : List Value} {post : Option Value → va_W → Prop} (hy : zY y cy nY none np) (hy2 : y.name = "<init>" ∧ Cond.instanceMethod y ∈ zW) (M : zMa l y cy nY none fY lY mc ms d (.ref b :: As) ws post) (hAs : As.length = np) (hst : As.reverse ++ .ref b :: rest = st0) (pc' : Nat) (C : zOk d F own cc nL fr lo) (G : zRm F kc ns) (hkc : k + mc ≤ kc) (hns : n + ms ≤ ns) (hd : decode cc pc = .ok (.invokespecial idx, 3)) (hp : pc + 3 = pc') (hq : Cond.methodLink own idx y ∈ zW) (hm : fY + 1 ≤ fr ∧ 8 + (nY + 11) + lY ≤ lo) (hr : (rest.map fun v => v.category).sum ≤ 8) (K : ∀ (r : Option Value) (ws' : va_W), post r ws' → V l d F (k + mc) (n + ms) (wl ++ (ws' ++ wr)) lv pc' (r.toList ++ rest)) : V l d F k n (wl ++ (ws ++ wr)) lv pc st0 := by
  subst hp
  subst hst
  obtain ⟨p, e, R, s, m, args, below, meth, c, Q, A⟩ := F
  intro H locs ls hP hD hS hl
  have hts := C.2.2.2.2.1
  have hK := C.2.2.2.2.2.2.1
  have hP0 := zP_mid hP
  have hD0 := zD_mid hD
  exact z_goa (va_runI (As := As) (rest := rest) (Ts := zW) ⟨C.1, C.2.1, rfl, C.2.2.2.1, hts⟩ (M H.size) ⟨⟨rfl, rfl, Nat.le_trans hm.1 C.2.2.2.2.2.2.2.1, Nat.le_trans hm.2 C.2.2.2.2.2.2.2.2.1, pay_in hts (z_goodIn hy.1), List.mem_cons_self, hts _ hy.1, hts _ hy.2.1, ⟨hy.2.2.1, hy.2.2.2.1⟩, z_len hy.2.2.2.2, hts _ hq⟩, hy2.1, hts _ hy2.2⟩ ⟨z_blind, fun U hU hW => ⟨rfl, by rw [hU], by rw [hU]; exact hP0, va_K.moved hW.alike hK, hD0.weaken (fun _ _ _ _ => trivial), C.2.2.2.2.2.2.2.2.2.1, z_envf C.2.2.2.2.2.2.2.2.2.1 C.2.2.2.2.2.2.2.2.2.2 C.2.2.2.2.2.1 hD hS hU hW⟩⟩ rfl hAs hl.1 rfl (lv_room hr) hd ⟨Nat.le_trans hkc G.1, Nat.le_trans hns G.2⟩) C.2.2.2.2.2.1 hP hD hS hl K
theorem zr_callIN {l : Launch} {d : zD} {F : zF} {wl ws wr : va_W} {lv : List (Option Value)} {pc : Nat} {own : String} {cc : ByteArray} {nL fr lo : Nat} {y : MethodName} {cy : ByteArray} {k n mc ms kc ns nY fY lY np idx b : Nat} {As rest st0 : List Value} {post : Option Value → va_W → Prop} {host : String} (hy : zY y cy nY none np) (hy2 : y.name = "<init>" ∧ Cond.instanceMethod y ∈ zW) (M : zMa l y cy nY none fY lY mc ms d (.ref b :: As) ws post) (hAs : As.length = np) (hst : As.reverse ++ .ref b :: rest = st0) (pc' : Nat) (C : zOk d F own cc nL fr lo) (G : zRm F kc ns) (hkc : k + mc ≤ kc) (hns : n + ms ≤ ns) (hd : decode cc pc = .ok (.invokespecial idx, 3)) (hp : pc + 3 = pc') (hq : ∀ A U, d.2.2.2.2.2 A U → va_Nw (.methodLinkNest own idx y host) U) (hm : fY + 1 ≤ fr ∧ 8 + (nY + 11) + lY ≤ lo) (hr : (rest.map fun v => v.category).sum ≤ 8) (K : ∀ (r : Option Value) (ws' : va_W), post r ws' → V l d F (k + mc) (n + ms) (wl ++ (ws' ++ wr)) lv pc' (r.toList ++ rest)) : V l d F k n (wl ++ (ws ++ wr)) lv pc st0 := by
  subst hp
  subst hst
  obtain ⟨p, e, R, s, m, args, below, meth, c, Q, A⟩ := F
  intro H locs ls hP hD hS hl
  have hts := C.2.2.2.2.1
  have hK := C.2.2.2.2.2.2.1
  have hP0 := zP_mid hP
  have hD0 := zD_mid hD
  exact z_goa (va_runIN (As := As) (rest := rest) (Ts := zW) ⟨C.1, C.2.1, rfl, C.2.2.2.1, hts⟩ (M H.size) ⟨⟨⟨rfl, rfl, Nat.le_trans hm.1 C.2.2.2.2.2.2.2.1, Nat.le_trans hm.2 C.2.2.2.2.2.2.2.2.1, pay_in hts (z_goodIn hy.1), List.mem_cons_self⟩, hts _ hy.1, hts _ hy.2.1, ⟨hy.2.2.1, hy.2.2.2.1⟩, z_len hy.2.2.2.2, va_Nw.use rfl (hq A s C.2.2.2.2.2.2.2.2.2.2)⟩, hy2.1, hts _ hy2.2⟩ ⟨z_blind, fun U hU hW => ⟨rfl, by rw [hU], by rw [hU]; exact hP0, va_K.moved hW.alike hK, hD0.weaken (fun _ _ _ _ => trivial), C.2.2.2.2.2.2.2.2.2.1, z_envf C.2.2.2.2.2.2.2.2.2.1 C.2.2.2.2.2.2.2.2.2.2 C.2.2.2.2.2.1 hD hS hU hW⟩⟩ rfl hAs hl.1 rfl (lv_room hr) hd ⟨Nat.le_trans hkc G.1, Nat.le_trans hns G.2⟩) C.2.2.2.2.2.1 hP hD hS hl K
theorem zr_obj {l : Launch} {d : zD} {F : zF} {k n : Nat} {ws : va_W} {lv : List (Option Value)} {pc : Nat} {st : List Value} {own : String} {cc : ByteArray} {nL fr lo : Nat} {a idx : Nat} (pc' : Nat) (C : zOk d F own cc nL fr lo) (hd : decode cc pc = .ok (.invokespecial idx, 3)) (hp : pc + 3 = pc') (hq : Cond.methodLink own idx Lib.objectInit ∈ zW) (hm : 1 ≤ fr ∧ 20 ≤ lo) (hr : (st.map fun v => v.category).sum ≤ 8) (K : V l d F k n ws lv pc' st) : V l d F k n ws lv pc (.ref a :: st) := by
  subst hp
  obtain ⟨p, e, R, s, m, args, below, meth, c, Q, A⟩ := F
  intro H locs ls hP hD hS hl
  have hts := C.2.2.2.2.1
  have h8 := lv_room (m := m) (pc := pc) (ls := ls) (rest := .ref a :: st) hr
  refine W.objInit C.1 C.2.1 C.2.2.2.1 (hts _ hq) (hts _ q_97) (hts _ q_98) rfl hl.1 rfl hd (Nat.le_trans hm.1 C.2.2.2.2.2.2.2.1) (by have h1 := hm.2; have h2 := C.2.2.2.2.2.2.2.2.1; omega) ?_
  exact K H locs ls hP hD hS hl
theorem zr_new {l : Launch} {d : zD} {F : zF} {k n : Nat} {ws : va_W} {lv : List (Option Value)} {pc : Nat} {st : List Value} {own : String} {cc : ByteArray} {nL fr lo : Nat} {ci N idx kc ns : Nat} {Cn : String} {T : u_T} {fs : List Value} (hin : ∀ w ∈ u_ws Cn T N, w ∈ zW) (ty0 : Nat → FieldType) (hty : ∀ k, k < N → parseFieldDescriptor (T k).2.2.1 = some (ty0 k)) (hc : classes[ci]? = some (Cn, T, N)) (hfs : ∀ j, j < N → defaultValue (ty0 j) = vp_V fs j) (hq1 : Cond.classLink own idx Cn ∈ zW) (hq2 : Cond.instantiable Cn N ∈ zW) (hq3 : Cond.initialized Cn ∈ zW) (pc' : Nat) (C : zOk d F own cc nL fr lo) (G : zRm F kc ns) (hk : k + 1 ≤ kc) (hn : n + N ≤ ns) (hd : decode cc pc = .ok (.new idx, 3)) (hp : pc + 3 = pc') (K : ∀ q : Nat, V l d F (k + 1) (n + N) (ws ++ [(q, .inr (ci, fs))]) lv pc' (.ref q :: st)) : V l d F k n ws lv pc st := by
  subst hp
  obtain ⟨p, e, R, s, m, args, below, meth, c, Q, A⟩ := F
  intro H locs ls hP hD hS hl
  have hts := C.2.2.2.2.1
  exact va_new (D := d.1) C.1 C.2.1 hts hin ty0 hty C.2.2.2.1 (hts _ hq1) (hts _ hq2) (hts _ hq3) C.2.2.2.2.2.2.1 hP hD hS C.2.2.2.2.2.1 hc hfs (Nat.le_trans hk G.1) (Nat.le_trans hn G.2) hd (fun q H1 hP1 hD1 hS1 => K q H1 locs ls hP1 hD1 hS1 hl)
theorem z_app4 {d : zD} {cA : ClassId} {ty : FieldType} {s : State} (h : va_K d.1 classes (zt d ++ [(cA, ty)]) s) : va_RA s cA ty := (h.2 4 _ rfl).2
theorem z_seq {s : State} {a b : ClassId} {t : String} (h1 : s.vm.findClass t = some a) (h2 : s.vm.findClass t = some b) : a = b := Option.some.inj (h1.symm.trans h2)
theorem zr_newi {l : Launch} {d : zD} {F : zF} {k n : Nat} {ws : va_W} {lv : List (Option Value)} {pc : Nat} {st : List Value} {own : String} {cc : ByteArray} {nL fr lo : Nat} {kc ns N : Nat} {v : Int32} (pc' : Nat) (C : zOk d F own cc nL fr lo) (G : zRm F kc ns) (hv : ¬ v < 0) (hN : v.toNatClampNeg = N) (hb : N ≤ 60000000) (hk : k + 1 ≤ kc) (hn : n + N ≤ ns) (hd : decode cc pc = .ok (.newarray .int, 2)) (hp : pc + 2 = pc') (K : ∀ q : Nat, V l d F (k + 1) (n + N) (ws ++ [(q, .inl (d.2.1, N, .inl (fun _ => 0)))]) lv pc' (.ref q :: st)) : V l d F k n ws lv pc (.int v :: st) := by
  subst hp
  obtain ⟨p, e, R, s, m, args, below, meth, c, Q, A⟩ := F
  intro H locs ls hP hD hS hl
  have hts := C.2.2.2.2.1
  refine va_newa (D := d.1) (atype := .int) (ty := .int) (a0 := (N, .inl (fun _ => 0))) C.1 C.2.1 (hts _ q_138) rfl C.2.2.2.2.2.2.1 hP hD hS C.2.2.2.2.2.1 (fun cA => rfl) hv hN (by show N * 4 ≤ 536870912; omega) (Nat.le_trans hk G.1) (Nat.le_trans hn G.2) hd (fun q cA H1 hK1 hP1 hD1 hS1 => ?_)
  have e1 : cA = d.2.1 := z_seq (z_app4 hK1) (C.2.2.2.2.2.2.1.2 0 _ rfl).2
  subst e1
  exact K q H1 locs ls hP1 hD1 hS1 hl
theorem zr_newz {l : Launch} {d : zD} {F : zF} {k n : Nat} {ws : va_W} {lv : List (Option Value)} {pc : Nat} {st : List Value} {own : String} {cc : ByteArray} {nL fr lo : Nat} {kc ns N : Nat} {v : Int32} (pc' : Nat) (C : zOk d F own cc nL fr lo) (G : zRm F kc ns) (hv : ¬ v < 0) (hN : v.toNatClampNeg = N) (hb : N ≤ 60000000) (hk : k + 1 ≤ kc) (hn : n + N ≤ ns) (hd : decode cc pc = .ok (.newarray .boolean, 2)) (hp : pc + 2 = pc') (K : ∀ q : Nat, V l d F (k + 1) (n + N) (ws ++ [(q, .inl (d.2.2.1, N, .inl (fun _ => 0)))]) lv pc' (.ref q :: st)) : V l d F k n ws lv pc (.int v :: st) := by
  subst hp
  obtain ⟨p, e, R, s, m, args, below, meth, c, Q, A⟩ := F
  intro H locs ls hP hD hS hl
  have hts := C.2.2.2.2.1
  refine va_newa (D := d.1) (atype := .boolean) (ty := .boolean) (a0 := (N, .inl (fun _ => 0))) C.1 C.2.1 (hts _ q_1173) rfl C.2.2.2.2.2.2.1 hP hD hS C.2.2.2.2.2.1 (fun cA => rfl) hv hN (by show N * 1 ≤ 536870912; omega) (Nat.le_trans hk G.1) (Nat.le_trans hn G.2) hd (fun q cA H1 hK1 hP1 hD1 hS1 => ?_)
  have e1 : cA = d.2.2.1 := z_seq (z_app4 hK1) (C.2.2.2.2.2.2.1.2 1 _ rfl).2
  subst e1
  exact K q H1 locs ls hP1 hD1 hS1 hl
theorem zr_newj {l : Launch} {d : zD} {F : zF} {k n : Nat} {ws : va_W} {lv : List (Option Value)} {pc : Nat} {st : List Value} {own : String} {cc : ByteArray} {nL fr lo : Nat} {kc ns N : Nat} {v : Int32} (pc' : Nat) (C : zOk d F own cc nL fr lo) (G : zRm F kc ns) (hv : ¬ v < 0) (hN : v.toNatClampNeg = N) (hb : N ≤ 60000000) (hk : k + 1 ≤ kc) (hn : n + N ≤ ns) (hd : decode cc pc = .ok (.newarray .long, 2)) (hp : pc + 2 = pc') (K : ∀ q : Nat, V l d F (k + 1) (n + N) (ws ++ [(q, .inl (d.2.2.2.1, N, .inr (.inl (fun _ => 0))))]) lv pc' (.ref q :: st)) : V l d F k n ws lv pc (.int v :: st) := by
  subst hp
  obtain ⟨p, e, R, s, m, args, below, meth, c, Q, A⟩ := F
  intro H locs ls hP hD hS hl
  have hts := C.2.2.2.2.1
  refine va_newa (D := d.1) (atype := .long) (ty := .long) (a0 := (N, .inr (.inl (fun _ => 0)))) C.1 C.2.1 (hts _ q_1172) rfl C.2.2.2.2.2.2.1 hP hD hS C.2.2.2.2.2.1 (fun cA => rfl) hv hN (by show N * 8 ≤ 536870912; omega) (Nat.le_trans hk G.1) (Nat.le_trans hn G.2) hd (fun q cA H1 hK1 hP1 hD1 hS1 => ?_)
  have e1 : cA = d.2.2.2.1 := z_seq (z_app4 hK1) (C.2.2.2.2.2.2.1.2 2 _ rfl).2
  subst e1
  exact K q H1 locs ls hP1 hD1 hS1 hl
theorem zr_mna {l : Launch} {d : zD} {F : zF} {k n : Nat} {ws : va_W} {lv : List (Option Value)} {pc : Nat} {st : List Value} {own : String} {cc : ByteArray} {nL fr lo : Nat} {ad av : Nat → Nat} {kc ns N M idx : Nat} {a b : Int32} (pc' : Nat) (C : zOk d F own cc nL fr lo) (E : zXe d ad av) (G : zRm F kc ns) (ha : ¬ a < 0) (hb : ¬ b < 0) (hN : a.toNatClampNeg = N) (hM : b.toNatClampNeg = M) (hN2 : N ≤ 1000) (hM2 : M ≤ 1000) (hk : k + (1 + N) ≤ kc) (hn : n + (N + N * M) ≤ ns) (hq : Cond.classLink own idx "[[I" ∈ zW) (hd : decode cc pc = .ok (.multianewarray idx 2, 4)) (hp : pc + 4 = pc') (K : ∀ (q : Nat) (r : Nat → Nat), V l d F (k + 1 + N) (n + N + N * M) (ws ++ ((q, .inl (d.2.2.2.2.1, N, .inr (.inr (.inr (.inr (fun i => if i < N then some (r i) else none)))))) :: (List.range N).map (fun i => (r i, .inl (d.2.1, M, .inl (fun _ => 0)))))) lv pc' (.ref q :: st)) : V l d F k n ws lv pc (.int b :: .int a :: st) := by
  subst hp
  obtain ⟨p, e, R, s, m, args, below, meth, c, Q, A⟩ := F
  intro H locs ls hP hD hS hl
  have hts := C.2.2.2.2.1
  have hP0 : va_P d.1 classes (ws ++ va_pl [] (fun _ => .inr (0, []))) H := by simpa [va_pl] using hP
  have hD0 : va_D A (ws ++ va_pl [] (fun _ => .inr (0, []))) := by simpa [va_pl] using hD
  refine va_mna (ty := .int) (cy := d.2.1) (z := (M, .inl (fun _ => 0))) C.1 C.2.1 C.2.2.2.1 (hts _ hq) (E A s C.2.2.2.2.2.2.2.2.2.2).1.2 (hts _ q_138) (C.2.2.2.2.2.2.1.2 0 _ rfl).2 C.2.2.2.2.2.2.1 hP0 hD0 hS C.2.2.2.2.2.1 ha hb hN hM (by omega) (by show M * 4 ≤ 536870912; omega) (by omega) rfl rfl (Nat.le_trans hk G.1) (Nat.le_trans hn G.2) (fun _ => by rw [vp_cell_i]; exact arrV_new _ _ _) hd (fun q r cA H1 _ hnL hK1 hP1 hD1 hS1 => ?_)
  have e1 : cA = d.2.2.2.2.1 := z_seq (z_app4 hK1) (C.2.2.2.2.2.2.1.2 3 _ rfl).2
  subst e1
  have ew : (ws ++ [(q, (.inl (d.2.2.2.2.1, N, .inr (.inr (.inr (.inr (fun i => if i < N then some (r i) else none))))) : va_E))]) ++ va_pl ([] ++ (List.range N).map r) (vr_up (fun _ => .inr (0, [])) ((List.range N).map r) (.inl (d.2.1, (M, .inl (fun _ => 0))))) = ws ++ ((q, .inl (d.2.2.2.2.1, N, .inr (.inr (.inr (.inr (fun i => if i < N then some (r i) else none)))))) :: (List.range N).map (fun i => (r i, .inl (d.2.1, M, .inl (fun _ => 0))))) := by
    rw [List.append_assoc]
    congr 1
    rw [List.nil_append, List.singleton_append]
    congr 1
    unfold va_pl
    rw [List.map_map]
    apply List.map_congr_left
    intro i hi
    show (r i, vr_up _ _ _ (r i)) = _
    rw [vr_up_in (List.mem_map_of_mem hi)]
  rw [ew] at hP1 hD1
  exact K q r H1 locs ls hP1 hD1 hS1 hl
theorem zr_putF {l : Launch} {d : zD} {F : zF} {k n : Nat} {ws : va_W} {lv : List (Option Value)} {pc : Nat} {st : List Value} {cc : ByteArray} {nL fr lo : Nat} {ci N idx a : Nat} {Cn : String} {T : u_T} {fs : List Value} {v : Value} {ty : FieldType} {ws' : va_W} (q0 : Nat) (hin : ∀ w ∈ u_ws Cn T N, w ∈ zW) (ty0 : Nat → FieldType) (hty : ∀ k, k < N → parseFieldDescriptor (T k).2.2.1 = some (ty0 k)) (hnm : ∀ a, a < N → ∀ b, b < N → a ≠ b → (T a).2.1 ≠ (T b).2.1) (he : ws[q0]? = some (a, .inr (ci, fs))) (hc : classes[ci]? = some (Cn, T, N)) (j : Nat) (hj : j < N) (hT : (T j).1 = Cn) (hfin : (T j).2.2.2 = true) (htj : ty0 j = ty) (hn : narrow ty v = v) (hfit : fits ty v = true) (hlen : j < fs.length) (hq : Cond.fieldLink Cn idx Cn (T j).2.1 (T j).2.2.1 ∈ zW) (hw : ws.set q0 (a, .inr (ci, fs.set j v)) = ws') (pc' : Nat) (C : zOk d F Cn cc nL fr lo) (I : zNm F "<init>") (hd : decode cc pc = .ok (.putfield idx, 3)) (hp : pc + 3 = pc') (K : V l d F k n ws' lv pc' st) : V l d F k n ws lv pc (v :: .ref a :: st) := by
  subst hp
  subst hw
  subst htj
  obtain ⟨p, e, R, s, m, args, below, meth, c, Q, A⟩ := F
  intro H locs ls hP hD hS hl
  exact va_putF (D := d.1) C.1 C.2.1 C.2.2.2.2.1 hin ty0 hty hnm C.2.2.2.1 C.2.2.2.2.2.2.1 hP hD hS q0 he hc j hj (C.2.2.2.2.1 _ hq) (fun x hx => by rw [← hT]; exact hx) hfin I hT (hty j hj) hn hfit hlen hd (fun H1 locs1 hP1 hD1 hS1 => K H1 locs1 ls hP1 hD1 hS1 hl)
theorem zr_aast {l : Launch} {d : zD} {F : zF} {k n : Nat} {ws : va_W} {lv : List (Option Value)} {pc : Nat} {st : List Value} {own : String} {cc : ByteArray} {nL fr lo : Nat} {ad av : Nat → Nat} {a N v M : Nat} {f : Nat → Option Nat} {g : Nat → Int32} {i : Int32} {ws' : va_W} (q0 q1 : Nat) (he : ws[q0]? = some (a, .inl (d.2.2.2.2.1, N, .inr (.inr (.inr (.inr f)))))) (hv : ws[q1]? = some (v, .inl (d.2.1, M, .inl g))) (hin : vp_in i N) (hw : ws.set q0 (a, .inl (d.2.2.2.2.1, N, .inr (.inr (.inr (.inr (va_up f i.toNatClampNeg (some v))))))) = ws') (pc' : Nat) (C : zOk d F own cc nL fr lo) (E : zXe d ad av) (hd : decode cc pc = .ok (.aastore, 1)) (hp : pc + 1 = pc') (K : V l d F k n ws' lv pc' st) : V l d F k n ws lv pc (.ref v :: .int i :: .ref a :: st) := by
  subst hp
  subst hw
  obtain ⟨p, e, R, s, m, args, below, meth, c, Q, A⟩ := F
  intro H locs ls hP hD hS hl
  have hlt : i.toNatClampNeg < N := Nat.not_le.mp fun q => hin (Or.inr q)
  have h0 : ¬ i < 0 := fun q => hin (Or.inl q)
  obtain ⟨comp, c9, k9, f1, f2, f3, f4⟩ := z_over (args := #[]) (E A s C.2.2.2.2.2.2.2.2.2.2).1.2
  have e1 : comp = d.2.1 := z_seq f1 (C.2.2.2.2.2.2.1.2 0 _ rfl).2
  have e2 : c9 = d.2.2.2.2.1 := z_seq f4 (C.2.2.2.2.2.2.1.2 3 _ rfl).2
  subst e1
  subst e2
  obtain ⟨-, kI, hkI, cI, hkkI⟩ := (C.2.2.2.2.2.2.1.2 0 _ rfl).1 0 (fun _ => .int 0)
  have hasg : s.vm.assignable d.2.1 d.2.1 = true := va_asg _ _
  refine W.aast C.1 C.2.1 (hP q0 _ he) (fun q h => by cases h) (fun h => by cases h) f2 f3 rfl hkI ⟨h0, by show _ < (arrV _ _ _).slots.size; rw [arrV_size]; exact hlt⟩ (hP q1 _ hv) (fun q h => by cases h) hkI hasg rfl rfl hd fun H1 e z oq => ?_
  refine K H1 _ ls (hP.set hD he ?_ oq) (hD.set he) (hS.put z oq (hD.2 q0 _ he)) hl
  show H1[a]? = some (vp_cell _ _)
  rw [e]
  rw [vp_cell_q, vp_cell_q, arrV_store]
  congr 2
  funext q
  by_cases hq : q = i.toNatClampNeg
  · subst hq
    simp [updV, va_up, va_rf]
  · simp [updV, va_up, hq]

theorem q_91 : Cond.classLink RL 7 RX10 ∈ zW := z_w 91 (by decide +kernel) (by decide +kernel)
theorem q_92 : Cond.instantiable RX10 16 ∈ zW := z_w 92 (by decide +kernel) (by decide +kernel)
theorem q_93 : Cond.methodLink RL 9 yX10_init ∈ zW := z_w 93 (by decide +kernel) (by decide +kernel)
theorem q_94 : Cond.instanceMethod yX10_init ∈ zW := z_w 94 (by decide +kernel) (by decide +kernel)
theorem q_966 : Cond.classLink RL 10 RX11 ∈ zW := z_w 966 (by decide +kernel) (by decide +kernel)
theorem q_967 : Cond.instantiable RX11 60 ∈ zW := z_w 967 (by decide +kernel) (by decide +kernel)
theorem q_968 : Cond.methodLink RL 12 yX11_init ∈ zW := z_w 968 (by decide +kernel) (by decide +kernel)
theorem q_969 : Cond.instanceMethod yX11_init ∈ zW := z_w 969 (by decide +kernel) (by decide +kernel)
/-! THE CLAIM OUT OF ONE WALK OF THE LAW'S BODY. Your part is whole_start (and what it stands on); all else here is the same for every law, but numbers. -/
def R_law : String := "StepsBeyondLaw"
def lw_P (b : Addr) (xs : List Int32) (args : Array Value) (s : State) : Prop := args = #[.ref b] ∧ s.IntsAt b xs ∧ xs.length ≤ 3072 ∧ (Jvm.Cond.and given_1 narrow_1).before args s = true
def lw_Q (_ : Array Value) (s : State) (o : Outcome) (t : State) : Prop := o = .returned (some (.int 1)) ∧ Framed s o t [] 600000 7302250
def lw_Z (below : List Frame) (a : Array Value) (s : State) : State → Prop := fun t => ∃ o, t.status = .running ∧ Ended t below o ∧ lw_Q a s o t
/-- the law's own end, with 1 on the stack, nothing written that was there before, its room as the claim has it -/
theorem lw_ret {p : Program} {l : Launch} {e : Env} {s : State} {m : MethodId} {below : List Frame} {meth : Method} {c : Code} {b : Nat} (hx : p.tables.exec = Jvm.exec) (hb : c.code = code) (hr : meth.sig.returnType = ret) (hlocks : meth.locks = false) {pc : Nat} {H : Heap} {ls : Array Slot} (hdg : decode code pc = .ok (.ireturn, 1)) : W p l e room_1 s m #[Value.ref b] below meth c H [] 600000 7302250 (lw_Z below #[Value.ref b] s) (F0 m pc ls [.int 1]) := by
  intro T hT X
  obtain ⟨fs, hret, hrun, hended, hW, hframe⟩ := X.leave (v := some (.int 1)) (hlocks := hlocks) (fun h => by rw [hr] at h; cases h)
  have hmeth' : T.vm.method? m = some meth := X.method'
  refine ⟨T.setFrames fs, ?_, .returned (some (.int 1)), hrun, hended, rfl, ⟨_, rfl⟩, hW, hframe⟩
  jvm_step X.here [X.here.top, hx, hb, hdg, hmeth', hr, ret, narrow_b1]
  (try refine ⟨rfl, ?_⟩); (try refine ⟨rfl, ?_⟩)
  first | (intro acts; rw [hret _ acts rfl rfl rfl]) | rw [hret _ _ rfl rfl rfl]
  exact Steps.refl _
/-- what holds at the law's entry: the machine, the code, the tables' words (any of lw_tbl by 'hts w (by decide +kernel)'), the script of L ints xs at the cell b, what the Statement gives of the start (any of its parts by flat_of_before) -/
def lw_At (p : Program) (s : State) (m : MethodId) (meth : Method) (c : Code) (b L : Nat) (xs : Nat → Int32) : Prop :=
  p.tables.exec = Jvm.exec ∧ c.code = code ∧ meth.sig.returnType = ret ∧ c.maxLocals = 4 ∧ s.vm.findClass R_law = some m.cls ∧ (∀ w ∈ lw_tbl, w.before #[Value.ref b] s = true) ∧ va_X b L xs s s.heap ∧ b < s.heap.size ∧ meth.locks = false ∧ (Jvm.Cond.and given_1 narrow_1).before #[Value.ref b] s = true
/-! what nobody writes, at the law's start -/
def zEn (ad av : Nat → Nat) : (Nat → Prop) → State → Prop := fun A U => zNs U ∧ zAb A U ∧ zSk ad U ∧ zSt ad av A U
theorem z_aoa {u U : State} (hv : U.vm = u.vm) (h : va_AOA .int u) : va_AOA .int U := by
  unfold va_AOA at h ⊢
  simp only [Cond.before, Cond.holds, Cond.value, hv] at h ⊢
  exact h
theorem zEn_c (ad av : Nat → Nat) : zEc (zEn ad av) := by
  refine ⟨fun A B U h he => ?_, fun A s U hW hsz hk he => ?_, fun A U g mk a he => ?_⟩
  · obtain ⟨h1, ⟨t, h2, h3⟩, h4, h5, h6, h7⟩ := he
    exact ⟨h1, ⟨t, h2.narrow h, h3.narrow h⟩, h4, h5.narrow h, h6.narrow h, h7.narrow h⟩
  · obtain ⟨⟨h1, h1b⟩, ⟨t, h2, h3⟩, h4, h5, h6, h7⟩ := he
    refine ⟨⟨fun w hw => ?_, ?_⟩, ⟨t, va_Z.moved hW.alike (h2.kept hk), va_T.moved hW.alike (h3.kept hk)⟩, ?_, vk_S.moved hW.alike (h5.kept hk), va_Z.moved hW.alike (h6.kept hk), va_Zq.moved hW.alike (h7.kept hk)⟩
    · have hz := h1 w hw
      simp only [zNests, List.mem_cons, List.not_mem_nil, or_false] at hw
      rcases hw with rfl | rfl | rfl | rfl | rfl | rfl | rfl | rfl | rfl | rfl | rfl | rfl <;> exact va_Nw.warmM hW hz
    · have h9 : va_AOA .int (s.setVm U.vm) := (Cond.arrayOver_setVmC hW.alike (.array .int)).trans h1b
      exact z_aoa rfl h9
    · obtain ⟨g0, g1, g2, g3, g4, g5, g6, g7, g8, g9, g10, g11⟩ := h4
      exact ⟨g0.warm hW, g1.warm hW, g2.warm hW, g3.warm hW, g4.warm hW, g5.warm hW, g6.warm hW, g7.warm hW, g8.warm hW, g9.warm hW, g10.warm hW, g11.warm hW⟩
  · obtain ⟨⟨h1, h1b⟩, ⟨t, h2, h3⟩, h4, h5, h6, h7⟩ := he
    have hv : U.vm.Alike (U.calling g mk a).vm := Vm.Alike.refl U.vm
    refine ⟨⟨fun w hw => ?_, z_aoa rfl h1b⟩, ⟨t, va_Z.moved hv h2, va_T.moved hv h3⟩, ?_, vk_S.moved hv h5, va_Z.moved hv h6, va_Zq.moved hv h7⟩
    · have hz := h1 w hw
      simp only [zNests, List.mem_cons, List.not_mem_nil, or_false] at hw
      rcases hw with rfl | rfl | rfl | rfl | rfl | rfl | rfl | rfl | rfl | rfl | rfl | rfl <;> exact va_Nw.same rfl rfl hz
    · obtain ⟨g0, g1, g2, g3, g4, g5, g6, g7, g8, g9, g10, g11⟩ := h4
      exact ⟨g0.same rfl, g1.same rfl, g2.same rfl, g3.same rfl, g4.same rfl, g5.same rfl, g6.same rfl, g7.same rfl, g8.same rfl, g9.same rfl, g10.same rfl, g11.same rfl⟩
def zTm (i : Nat) : Term := ([Term.string RX10 85, Term.string RX4 88, Term.string RX4 94, Term.string RX4 96, Term.string RX4 98, Term.string RX4 100, Term.string RX4 102, Term.string RX4 104, Term.string RX4 106, Term.string RX4 108, Term.string RX4 110, Term.string RX4 112] : List Term).getD i (Term.string RX10 85)
theorem zTm_ev {args : Array Value} {s : State} {own : String} {k a : Nat} (h : (Term.string own k).eval args s none [] s = some (.ref a)) : (Term.string own k).eval #[] s none [] s = some (.ref a) := h
theorem zEn_0 {s : State} {b : Nat} (hts : ∀ w ∈ lw_tbl, w.before #[Value.ref b] s = true) (hgv : (Jvm.Cond.and given_1 narrow_1).before #[Value.ref b] s = true) : ∃ ad av : Nat → Nat, zEn ad av (fun q => s.heap.size ≤ q) s := by
  have hs := flat_of_before _ hgv
  have hA : ∀ a : Nat, a < s.heap.size → ¬ (fun q => s.heap.size ≤ q) a := fun a h => Nat.not_le.mpr h
  have hin : ∀ i : Nat, lw_tbl[i]? ≠ none → ∀ w, lw_tbl[i]? = some w → w.before #[Value.ref b] s = true := fun i _ w h => hts w (List.mem_of_getElem? h)
  have w1 : ∀ (i : Nat) (w : Cond), lw_tbl[i]? = some w → w.before #[Value.ref b] s = true := fun i w h => hts w (List.mem_of_getElem? h)
  obtain ⟨t, ht, hT⟩ := va_Tof (tm := .static RX10 "ABOVE" "[I") (ty := .int) (N := 6) (f := fun j => .int (zAbv j)) (A := fun q => s.heap.size ≤ q) (by decide) (hs _ (by decide +kernel)) (va_eqt (hs (Cond.eq (.length (.static RX10 "ABOVE" "[I")) (.int 6)) (by decide +kernel))) (fun j hj => by
    rcases (show j = 0 ∨ j = 1 ∨ j = 2 ∨ j = 3 ∨ j = 4 ∨ j = 5 by omega) with rfl | rfl | rfl | rfl | rfl | rfl
    · exact va_eqt (hs (Cond.eq (.elem (.static RX10 "ABOVE" "[I") (.int 0)) (.int (-1))) (by decide +kernel))
    · exact va_eqt (hs (Cond.eq (.elem (.static RX10 "ABOVE" "[I") (.int 1)) (.int 0)) (by decide +kernel))
    · exact va_eqt (hs (Cond.eq (.elem (.static RX10 "ABOVE" "[I") (.int 2)) (.int 1)) (by decide +kernel))
    · exact va_eqt (hs (Cond.eq (.elem (.static RX10 "ABOVE" "[I") (.int 3)) (.int 1)) (by decide +kernel))
    · exact va_eqt (hs (Cond.eq (.elem (.static RX10 "ABOVE" "[I") (.int 4)) (.int 2)) (by decide +kernel))
    · exact va_eqt (hs (Cond.eq (.elem (.static RX10 "ABOVE" "[I") (.int 5)) (.int 4)) (by decide +kernel))) hA
  obtain ⟨ad, av, hS, hev⟩ := vk_Sof (N := 12) (tm := zTm) (len := zSlen) (byt := zSbyt) (A := fun q => s.heap.size ≤ q) (args := #[Value.ref b]) (s := s) (fun i _ => z_slen_lt) (fun i hi => by
      have h : (List.range 12).all (fun i => decide (Cond.exactly (zTm i) "java/lang/String" ∈ flatC (Jvm.Cond.and given_1 narrow_1))) = true := by decide +kernel
      exact hs _ (of_decide_eq_true (List.all_eq_true.mp h i (List.mem_range.mpr hi))))
    (fun i hi => by
      have h : (List.range 12).all (fun i => decide (Cond.eq (.field (zTm i) "java/lang/String" "coder" "B") (.int 0) ∈ flatC (Jvm.Cond.and given_1 narrow_1))) = true := by decide +kernel
      exact hs _ (of_decide_eq_true (List.all_eq_true.mp h i (List.mem_range.mpr hi))))
    (fun i hi => by
      have h : (List.range 12).all (fun i => decide (Cond.arrayOf (.field (zTm i) "java/lang/String" "value" "[B") .byte ∈ flatC (Jvm.Cond.and given_1 narrow_1))) = true := by decide +kernel
      exact hs _ (of_decide_eq_true (List.all_eq_true.mp h i (List.mem_range.mpr hi))))
    (fun i hi => by
      have h : (List.range 12).all (fun i => decide (Cond.eq (.length (.field (zTm i) "java/lang/String" "value" "[B")) (.int (Int32.ofNat (zSlen.getD i 0))) ∈ flatC (Jvm.Cond.and given_1 narrow_1))) = true := by decide +kernel
      exact hs _ (of_decide_eq_true (List.all_eq_true.mp h i (List.mem_range.mpr hi))))
    (fun i hi j hj => by
      have h : (List.range 12).all (fun i => (List.range (zSlen.getD i 0)).all (fun j => decide (Cond.eq (.elem (.field (zTm i) "java/lang/String" "value" "[B") (.int (Int32.ofNat j))) (.int ((zSbyt.getD i []).getD j 0)) ∈ flatC (Jvm.Cond.and given_1 narrow_1)))) = true := by decide +kernel
      exact hs _ (of_decide_eq_true (List.all_eq_true.mp (List.all_eq_true.mp h i (List.mem_range.mpr hi)) j (List.mem_range.mpr hj))))
    (fun i j hi hj hij => by
      have h : (List.range 12).all (fun i => (List.range 12).all (fun j => decide (i = j ∨ Cond.not (Cond.eq (zTm i) (zTm j)) ∈ flatC (Jvm.Cond.and given_1 narrow_1) ∨ Cond.not (Cond.eq (zTm j) (zTm i)) ∈ flatC (Jvm.Cond.and given_1 narrow_1)))) = true := by decide +kernel
      rcases of_decide_eq_true (List.all_eq_true.mp (List.all_eq_true.mp h i (List.mem_range.mpr hi)) j (List.mem_range.mpr hj)) with h | h | h
      · exact absurd h hij
      · exact Or.inl (hs _ h)
      · exact Or.inr (hs _ h)) hA
  refine ⟨ad, av, ⟨fun w hw => ?_, ?_⟩, ⟨t, va_Zof (w1 750 _ (by decide +kernel)) (w1 72 _ (by decide +kernel)) ht hA, hT⟩, ?_, hS, va_Zof (w1 367 _ (by decide +kernel)) (w1 84 _ (by decide +kernel)) (va_eqi (hs _ (by decide +kernel))) hA, va_Zqof (w1 383 _ (by decide +kernel)) (w1 86 _ (by decide +kernel)) (hs _ (by decide +kernel)) hA⟩
  · simp only [zNests, List.mem_cons, List.not_mem_nil, or_false] at hw
    rcases hw with rfl | rfl | rfl | rfl | rfl | rfl | rfl | rfl | rfl | rfl | rfl | rfl
    · exact va_Nw.of rfl (w1 101 _ (by decide +kernel))
    · exact va_Nw.of rfl (w1 141 _ (by decide +kernel))
    · exact va_Nw.of rfl (w1 162 _ (by decide +kernel))
    · exact va_Nw.of rfl (w1 168 _ (by decide +kernel))
    · exact va_Nw.of rfl (w1 233 _ (by decide +kernel))
    · exact va_Nw.of rfl (w1 256 _ (by decide +kernel))
    · exact va_Nw.of rfl (w1 275 _ (by decide +kernel))
    · exact va_Nw.of rfl (w1 325 _ (by decide +kernel))
    · exact va_Nw.of rfl (w1 665 _ (by decide +kernel))
    · exact va_Nw.of rfl (w1 765 _ (by decide +kernel))
    · exact va_Nw.of rfl (w1 770 _ (by decide +kernel))
    · exact va_Nw.of rfl (w1 900 _ (by decide +kernel))
  · exact w1 146 (Cond.arrayOver (.array .int)) (by decide +kernel)
  · exact ⟨vk_R.of (w1 357 _ (by decide +kernel)) (zTm_ev (hev 0 (by decide))), vk_R.of (w1 425 _ (by decide +kernel)) (zTm_ev (hev 1 (by decide))), vk_R.of (w1 432 _ (by decide +kernel)) (zTm_ev (hev 2 (by decide))), vk_R.of (w1 433 _ (by decide +kernel)) (zTm_ev (hev 3 (by decide))), vk_R.of (w1 434 _ (by decide +kernel)) (zTm_ev (hev 4 (by decide))), vk_R.of (w1 435 _ (by decide +kernel)) (zTm_ev (hev 5 (by decide))), vk_R.of (w1 436 _ (by decide +kernel)) (zTm_ev (hev 6 (by decide))), vk_R.of (w1 437 _ (by decide +kernel)) (zTm_ev (hev 7 (by decide))), vk_R.of (w1 438 _ (by decide +kernel)) (zTm_ev (hev 8 (by decide))), vk_R.of (w1 439 _ (by decide +kernel)) (zTm_ev (hev 9 (by decide))), vk_R.of (w1 440 _ (by decide +kernel)) (zTm_ev (hev 10 (by decide))), vk_R.of (w1 441 _ (by decide +kernel)) (zTm_ev (hev 11 (by decide)))⟩

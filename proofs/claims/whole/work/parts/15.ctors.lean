theorem q_81 : Cond.initialized RX1 ∈ zW := z_w 81 (by decide +kernel) (by decide +kernel)
theorem q_103 : Cond.code yX4_init cX4_init 1 none ∈ zW := z_w 103 (by decide +kernel) (by decide +kernel)
theorem q_104 : Cond.methodLink RX4 3 Lib.objectInit ∈ zW := z_w 104 (by decide +kernel) (by decide +kernel)
theorem q_143 : Cond.code yX8_init cX8_init 1 none ∈ zW := z_w 143 (by decide +kernel) (by decide +kernel)
theorem q_144 : Cond.methodLink RX8 3 Lib.objectInit ∈ zW := z_w 144 (by decide +kernel) (by decide +kernel)
theorem q_145 : Cond.classLink RX8 9 "[[I" ∈ zW := z_w 145 (by decide +kernel) (by decide +kernel)
theorem q_164 : Cond.code yX9_init cX9_init 1 none ∈ zW := z_w 164 (by decide +kernel) (by decide +kernel)
theorem q_165 : Cond.methodLink RX9 3 Lib.objectInit ∈ zW := z_w 165 (by decide +kernel) (by decide +kernel)
theorem q_166 : Cond.classLink RX9 24 RX5 ∈ zW := z_w 166 (by decide +kernel) (by decide +kernel)
theorem q_167 : Cond.instantiable RX5 3 ∈ zW := z_w 167 (by decide +kernel) (by decide +kernel)
theorem q_169 : Cond.instanceMethod yX5_init ∈ zW := z_w 169 (by decide +kernel) (by decide +kernel)
theorem q_170 : Cond.code yX5_init cX5_init 1 none ∈ zW := z_w 170 (by decide +kernel) (by decide +kernel)
theorem q_171 : Cond.methodLink RX5 3 Lib.objectInit ∈ zW := z_w 171 (by decide +kernel) (by decide +kernel)
theorem q_219 : Cond.code yX2_init cX2_init 1 none ∈ zW := z_w 219 (by decide +kernel) (by decide +kernel)
theorem q_220 : Cond.methodLink RX2 3 Lib.objectInit ∈ zW := z_w 220 (by decide +kernel) (by decide +kernel)
theorem q_235 : Cond.code yX6_init cX6_init 1 none ∈ zW := z_w 235 (by decide +kernel) (by decide +kernel)
theorem q_236 : Cond.methodLink RX6 3 Lib.objectInit ∈ zW := z_w 236 (by decide +kernel) (by decide +kernel)
theorem q_258 : Cond.code yX3_init cX3_init 1 none ∈ zW := z_w 258 (by decide +kernel) (by decide +kernel)
theorem q_259 : Cond.methodLink RX3 3 Lib.objectInit ∈ zW := z_w 259 (by decide +kernel) (by decide +kernel)
theorem q_277 : Cond.code yX1_init cX1_init 1 none ∈ zW := z_w 277 (by decide +kernel) (by decide +kernel)
theorem q_278 : Cond.methodLink RX1 3 Lib.objectInit ∈ zW := z_w 278 (by decide +kernel) (by decide +kernel)
theorem q_279 : Cond.fieldLink RX1 9 RX1 "huts" "[I" ∈ zW := z_w 279 (by decide +kernel) (by decide +kernel)
theorem q_281 : Cond.fieldLink RX1 15 RX1 "places" "[I" ∈ zW := z_w 281 (by decide +kernel) (by decide +kernel)
theorem q_307 : Cond.code yX7_init cX7_init 1 none ∈ zW := z_w 307 (by decide +kernel) (by decide +kernel)
theorem q_308 : Cond.methodLink RX7 3 Lib.objectInit ∈ zW := z_w 308 (by decide +kernel) (by decide +kernel)
theorem q_309 : Cond.classLink RX7 9 "[[I" ∈ zW := z_w 309 (by decide +kernel) (by decide +kernel)
theorem q_327 : Cond.code yX0_init cX0_init 1 none ∈ zW := z_w 327 (by decide +kernel) (by decide +kernel)
theorem q_328 : Cond.methodLink RX0 3 Lib.objectInit ∈ zW := z_w 328 (by decide +kernel) (by decide +kernel)
/-! constructors of the nested classes -/
theorem zr_last {l : Launch} {d : zD} {F : zF} {k n : Nat} {ws : va_W} {lv : List (Option Value)} {pc : Nat} {st : List Value} {own : String} {cc : ByteArray} {nL fr lo : Nat} {a N : Nat} {f : Nat → Int64} {i : Int32} {x : Int64} {ws' : va_W} (q0 : Nat) (he : ws[q0]? = some (a, .inl (d.2.2.2.1, N, .inr (.inl f)))) (hin : ¬ (i < 0 ∨ N ≤ i.toNatClampNeg)) (hw : ws.set q0 (a, .inl (d.2.2.2.1, N, .inr (.inl (vp_updL f i.toNatClampNeg x)))) = ws') (pc' : Nat) (C : zOk d F own cc nL fr lo) (hd : decode cc pc = .ok (.lastore, 1)) (hp : pc + 1 = pc') (K : V l d F k n ws' lv pc' st) : V l d F k n ws lv pc (.long x :: .int i :: .ref a :: st) := by
  subst hp
  subst hw
  obtain ⟨p, e, R, s, m, args, below, meth, c, Q, A⟩ := F
  intro H locs ls hP hD hS hl
  exact va_last (D := d.1) C.1 C.2.1 C.2.2.2.2.2.2.1 hP hD hS q0 2 he rfl hin hd (fun H1 locs1 hP1 hD1 hS1 => K H1 locs1 ls hP1 hD1 hS1 hl)
theorem y_Ar_init : zY yX0_init cX0_init 1 none 0 := ⟨q_327, q_83, by decide +kernel, by decide +kernel, by decide +kernel⟩
set_option maxRecDepth 8000 in
theorem m_Ar_init {l : Launch} {d : zD} {a : Nat} : zMa l yX0_init cX0_init 1 none 1 20 1 20 d [.ref a] [(a, .inr (0, [.null, .int 0, .int 0, .int 0, .int 0, .int 0, .int 0, .int 0, .int 0]))] (fun r w => r = none ∧ ∃ q1 : Nat, w = [(a, .inr (0, [.ref q1, .int 0, .int 0, .int 0, .int 0, .int 0, .int 0, .int 0, .int 0])), (q1, .inl (d.2.1, 20, .inl (fun _ => 0)))]) := by
  refine zMa_of [some (.ref a)] (by decide +kernel) rfl (Nat.le_of_ble_eq_true rfl) (fun F C G I T => ?_)
  refine zr_aload_n 0 1 C (by decide +kernel) rfl rfl ?_
  refine zr_obj (idx := 3) 4 C (by decide +kernel) rfl q_328 (zb2 rfl rfl) (Nat.le_of_ble_eq_true rfl) ?_
  refine zr_aload_n 0 5 C (by decide +kernel) rfl rfl ?_
  refine zr_bipush (v := 20) 20 7 C (by decide +kernel) rfl rfl ?_
  refine zr_newi (N := 20) (kc := 1) (ns := 20) 9 C G (by decide) (by decide) (by decide) (Nat.le_of_ble_eq_true rfl) (Nat.le_of_ble_eq_true rfl) (by decide +kernel) rfl (fun q1 => ?_)
  refine zr_eq (ws' := [(a, .inr (0, [.null, .int 0, .int 0, .int 0, .int 0, .int 0, .int 0, .int 0, .int 0])), (q1, .inl (d.2.1, 20, .inl (fun _ => 0)))]) rfl ?_
  refine zr_putF (idx := 9) (v := .ref q1) (ws' := [(a, .inr (0, [.ref q1, .int 0, .int 0, .int 0, .int 0, .int 0, .int 0, .int 0, .int 0])), (q1, .inl (d.2.1, 20, .inl (fun _ => 0)))]) 0 inX0 tyX0 tyX0_ok nmX0 rfl rfl 0 (by decide) rfl rfl rfl rfl rfl (Nat.le_of_ble_eq_true rfl) q_329 rfl 12 C I (by decide +kernel) rfl ?_
  exact zr_vreta C (by decide +kernel) T (Nat.le_of_ble_eq_true rfl) (Nat.le_of_ble_eq_true rfl) ⟨rfl, q1, rfl⟩
theorem y_Im_init : zY yX1_init cX1_init 1 none 0 := ⟨q_277, q_81, by decide +kernel, by decide +kernel, by decide +kernel⟩
set_option maxRecDepth 8000 in
theorem m_Im_init {l : Launch} {d : zD} {a : Nat} : zMa l yX1_init cX1_init 1 none 1 20 2 28 d [.ref a] [(a, .inr (1, [.null, .null, .int 0, .int 0, .int 0, .int 0, .int 0]))] (fun r w => r = none ∧ ∃ q1 : Nat, ∃ q2 : Nat, w = [(a, .inr (1, [.ref q1, .ref q2, .int 0, .int 0, .int 0, .int 0, .int 0])), (q1, .inl (d.2.1, 20, .inl (fun _ => 0))), (q2, .inl (d.2.1, 8, .inl (fun _ => 0)))]) := by
  refine zMa_of [some (.ref a)] (by decide +kernel) rfl (Nat.le_of_ble_eq_true rfl) (fun F C G I T => ?_)
  refine zr_aload_n 0 1 C (by decide +kernel) rfl rfl ?_
  refine zr_obj (idx := 3) 4 C (by decide +kernel) rfl q_278 (zb2 rfl rfl) (Nat.le_of_ble_eq_true rfl) ?_
  refine zr_aload_n 0 5 C (by decide +kernel) rfl rfl ?_
  refine zr_bipush (v := 20) 20 7 C (by decide +kernel) rfl rfl ?_
  refine zr_newi (N := 20) (kc := 2) (ns := 28) 9 C G (by decide) (by decide) (by decide) (Nat.le_of_ble_eq_true rfl) (Nat.le_of_ble_eq_true rfl) (by decide +kernel) rfl (fun q1 => ?_)
  refine zr_eq (ws' := [(a, .inr (1, [.null, .null, .int 0, .int 0, .int 0, .int 0, .int 0])), (q1, .inl (d.2.1, 20, .inl (fun _ => 0)))]) rfl ?_
  refine zr_putF (idx := 9) (v := .ref q1) (ws' := [(a, .inr (1, [.ref q1, .null, .int 0, .int 0, .int 0, .int 0, .int 0])), (q1, .inl (d.2.1, 20, .inl (fun _ => 0)))]) 0 inX1 tyX1 tyX1_ok nmX1 rfl rfl 0 (by decide) rfl rfl rfl rfl rfl (Nat.le_of_ble_eq_true rfl) q_279 rfl 12 C I (by decide +kernel) rfl ?_
  refine zr_aload_n 0 13 C (by decide +kernel) rfl rfl ?_
  refine zr_bipush (v := 8) 8 15 C (by decide +kernel) rfl rfl ?_
  refine zr_newi (N := 8) (kc := 2) (ns := 28) 17 C G (by decide) (by decide) (by decide) (Nat.le_of_ble_eq_true rfl) (Nat.le_of_ble_eq_true rfl) (by decide +kernel) rfl (fun q2 => ?_)
  refine zr_eq (ws' := [(a, .inr (1, [.ref q1, .null, .int 0, .int 0, .int 0, .int 0, .int 0])), (q1, .inl (d.2.1, 20, .inl (fun _ => 0))), (q2, .inl (d.2.1, 8, .inl (fun _ => 0)))]) rfl ?_
  refine zr_putF (idx := 15) (v := .ref q2) (ws' := [(a, .inr (1, [.ref q1, .ref q2, .int 0, .int 0, .int 0, .int 0, .int 0])), (q1, .inl (d.2.1, 20, .inl (fun _ => 0))), (q2, .inl (d.2.1, 8, .inl (fun _ => 0)))]) 0 inX1 tyX1 tyX1_ok nmX1 rfl rfl 1 (by decide) rfl rfl rfl rfl rfl (Nat.le_of_ble_eq_true rfl) q_281 rfl 20 C I (by decide +kernel) rfl ?_
  exact zr_vreta C (by decide +kernel) T (Nat.le_of_ble_eq_true rfl) (Nat.le_of_ble_eq_true rfl) ⟨rfl, q1, q2, rfl⟩
theorem y_Pe_init : zY yX3_init cX3_init 1 none 0 := ⟨q_258, q_80, by decide +kernel, by decide +kernel, by decide +kernel⟩
set_option maxRecDepth 8000 in
theorem m_Pe_init {l : Launch} {d : zD} {a : Nat} : zMa l yX3_init cX3_init 1 none 1 20 2 16 d [.ref a] [(a, .inr (3, [.null, .null, .int 0]))] (fun r w => r = none ∧ ∃ q1 : Nat, ∃ q2 : Nat, w = [(a, .inr (3, [.ref q1, .ref q2, .int 0])), (q1, .inl (d.2.1, 8, .inl (fun _ => 0))), (q2, .inl (d.2.1, 8, .inl (fun _ => 0)))]) := by
  refine zMa_of [some (.ref a)] (by decide +kernel) rfl (Nat.le_of_ble_eq_true rfl) (fun F C G I T => ?_)
  refine zr_aload_n 0 1 C (by decide +kernel) rfl rfl ?_
  refine zr_obj (idx := 3) 4 C (by decide +kernel) rfl q_259 (zb2 rfl rfl) (Nat.le_of_ble_eq_true rfl) ?_
  refine zr_aload_n 0 5 C (by decide +kernel) rfl rfl ?_
  refine zr_bipush (v := 8) 8 7 C (by decide +kernel) rfl rfl ?_
  refine zr_newi (N := 8) (kc := 2) (ns := 16) 9 C G (by decide) (by decide) (by decide) (Nat.le_of_ble_eq_true rfl) (Nat.le_of_ble_eq_true rfl) (by decide +kernel) rfl (fun q1 => ?_)
  refine zr_eq (ws' := [(a, .inr (3, [.null, .null, .int 0])), (q1, .inl (d.2.1, 8, .inl (fun _ => 0)))]) rfl ?_
  refine zr_putF (idx := 9) (v := .ref q1) (ws' := [(a, .inr (3, [.ref q1, .null, .int 0])), (q1, .inl (d.2.1, 8, .inl (fun _ => 0)))]) 0 inX3 tyX3 tyX3_ok nmX3 rfl rfl 0 (by decide) rfl rfl rfl rfl rfl (Nat.le_of_ble_eq_true rfl) q_260 rfl 12 C I (by decide +kernel) rfl ?_
  refine zr_aload_n 0 13 C (by decide +kernel) rfl rfl ?_
  refine zr_bipush (v := 8) 8 15 C (by decide +kernel) rfl rfl ?_
  refine zr_newi (N := 8) (kc := 2) (ns := 16) 17 C G (by decide) (by decide) (by decide) (Nat.le_of_ble_eq_true rfl) (Nat.le_of_ble_eq_true rfl) (by decide +kernel) rfl (fun q2 => ?_)
  refine zr_eq (ws' := [(a, .inr (3, [.ref q1, .null, .int 0])), (q1, .inl (d.2.1, 8, .inl (fun _ => 0))), (q2, .inl (d.2.1, 8, .inl (fun _ => 0)))]) rfl ?_
  refine zr_putF (idx := 15) (v := .ref q2) (ws' := [(a, .inr (3, [.ref q1, .ref q2, .int 0])), (q1, .inl (d.2.1, 8, .inl (fun _ => 0))), (q2, .inl (d.2.1, 8, .inl (fun _ => 0)))]) 0 inX3 tyX3 tyX3_ok nmX3 rfl rfl 1 (by decide) rfl rfl rfl rfl rfl (Nat.le_of_ble_eq_true rfl) q_262 rfl 20 C I (by decide +kernel) rfl ?_
  exact zr_vreta C (by decide +kernel) T (Nat.le_of_ble_eq_true rfl) (Nat.le_of_ble_eq_true rfl) ⟨rfl, q1, q2, rfl⟩
theorem y_Rd_init : zY yX4_init cX4_init 1 none 0 := ⟨q_103, q_73, by decide +kernel, by decide +kernel, by decide +kernel⟩
set_option maxRecDepth 8000 in
theorem m_Rd_init {l : Launch} {d : zD} {a : Nat} : zMa l yX4_init cX4_init 1 none 1 20 2 320 d [.ref a] [(a, .inr (4, [.null, .null, .int 0, .int 0, .int 0, .int 0, .int 0, .int 0, .int 0]))] (fun r w => r = none ∧ ∃ q1 : Nat, ∃ q2 : Nat, w = [(a, .inr (4, [.ref q1, .ref q2, .int 0, .int 0, .int 0, .int 0, .int 0, .int 0, .int 0])), (q1, .inl (d.2.1, 160, .inl (fun _ => 0))), (q2, .inl (d.2.1, 160, .inl (fun _ => 0)))]) := by
  refine zMa_of [some (.ref a)] (by decide +kernel) rfl (Nat.le_of_ble_eq_true rfl) (fun F C G I T => ?_)
  refine zr_aload_n 0 1 C (by decide +kernel) rfl rfl ?_
  refine zr_obj (idx := 3) 4 C (by decide +kernel) rfl q_104 (zb2 rfl rfl) (Nat.le_of_ble_eq_true rfl) ?_
  refine zr_aload_n 0 5 C (by decide +kernel) rfl rfl ?_
  refine zr_sipush (v := 160) 160 8 C (by decide +kernel) rfl rfl ?_
  refine zr_newi (N := 160) (kc := 2) (ns := 320) 10 C G (by decide) (by decide) (by decide) (Nat.le_of_ble_eq_true rfl) (Nat.le_of_ble_eq_true rfl) (by decide +kernel) rfl (fun q1 => ?_)
  refine zr_eq (ws' := [(a, .inr (4, [.null, .null, .int 0, .int 0, .int 0, .int 0, .int 0, .int 0, .int 0])), (q1, .inl (d.2.1, 160, .inl (fun _ => 0)))]) rfl ?_
  refine zr_putF (idx := 9) (v := .ref q1) (ws' := [(a, .inr (4, [.ref q1, .null, .int 0, .int 0, .int 0, .int 0, .int 0, .int 0, .int 0])), (q1, .inl (d.2.1, 160, .inl (fun _ => 0)))]) 0 inX4 tyX4 tyX4_ok nmX4 rfl rfl 0 (by decide) rfl rfl rfl rfl rfl (Nat.le_of_ble_eq_true rfl) q_105 rfl 13 C I (by decide +kernel) rfl ?_
  refine zr_aload_n 0 14 C (by decide +kernel) rfl rfl ?_
  refine zr_sipush (v := 160) 160 17 C (by decide +kernel) rfl rfl ?_
  refine zr_newi (N := 160) (kc := 2) (ns := 320) 19 C G (by decide) (by decide) (by decide) (Nat.le_of_ble_eq_true rfl) (Nat.le_of_ble_eq_true rfl) (by decide +kernel) rfl (fun q2 => ?_)
  refine zr_eq (ws' := [(a, .inr (4, [.ref q1, .null, .int 0, .int 0, .int 0, .int 0, .int 0, .int 0, .int 0])), (q1, .inl (d.2.1, 160, .inl (fun _ => 0))), (q2, .inl (d.2.1, 160, .inl (fun _ => 0)))]) rfl ?_
  refine zr_putF (idx := 15) (v := .ref q2) (ws' := [(a, .inr (4, [.ref q1, .ref q2, .int 0, .int 0, .int 0, .int 0, .int 0, .int 0, .int 0])), (q1, .inl (d.2.1, 160, .inl (fun _ => 0))), (q2, .inl (d.2.1, 160, .inl (fun _ => 0)))]) 0 inX4 tyX4 tyX4_ok nmX4 rfl rfl 1 (by decide) rfl rfl rfl rfl rfl (Nat.le_of_ble_eq_true rfl) q_106 rfl 22 C I (by decide +kernel) rfl ?_
  exact zr_vreta C (by decide +kernel) T (Nat.le_of_ble_eq_true rfl) (Nat.le_of_ble_eq_true rfl) ⟨rfl, q1, q2, rfl⟩
theorem y_Rk_init : zY yX5_init cX5_init 1 none 0 := ⟨q_170, q_76, by decide +kernel, by decide +kernel, by decide +kernel⟩
set_option maxRecDepth 8000 in
theorem m_Rk_init {l : Launch} {d : zD} {a : Nat} : zMa l yX5_init cX5_init 1 none 1 20 2 37 d [.ref a] [(a, .inr (5, [.null, .null, .int 0]))] (fun r w => r = none ∧ ∃ q1 : Nat, ∃ q2 : Nat, w = [(a, .inr (5, [.ref q1, .ref q2, .int 0])), (q1, .inl (d.2.1, 6, .inl (fun _ => 0))), (q2, .inl (d.2.1, 31, .inl (fun _ => 0)))]) := by
  refine zMa_of [some (.ref a)] (by decide +kernel) rfl (Nat.le_of_ble_eq_true rfl) (fun F C G I T => ?_)
  refine zr_aload_n 0 1 C (by decide +kernel) rfl rfl ?_
  refine zr_obj (idx := 3) 4 C (by decide +kernel) rfl q_171 (zb2 rfl rfl) (Nat.le_of_ble_eq_true rfl) ?_
  refine zr_aload_n 0 5 C (by decide +kernel) rfl rfl ?_
  refine zr_bipush (v := 6) 6 7 C (by decide +kernel) rfl rfl ?_
  refine zr_newi (N := 6) (kc := 2) (ns := 37) 9 C G (by decide) (by decide) (by decide) (Nat.le_of_ble_eq_true rfl) (Nat.le_of_ble_eq_true rfl) (by decide +kernel) rfl (fun q1 => ?_)
  refine zr_eq (ws' := [(a, .inr (5, [.null, .null, .int 0])), (q1, .inl (d.2.1, 6, .inl (fun _ => 0)))]) rfl ?_
  refine zr_putF (idx := 9) (v := .ref q1) (ws' := [(a, .inr (5, [.ref q1, .null, .int 0])), (q1, .inl (d.2.1, 6, .inl (fun _ => 0)))]) 0 inX5 tyX5 tyX5_ok nmX5 rfl rfl 0 (by decide) rfl rfl rfl rfl rfl (Nat.le_of_ble_eq_true rfl) q_172 rfl 12 C I (by decide +kernel) rfl ?_
  refine zr_aload_n 0 13 C (by decide +kernel) rfl rfl ?_
  refine zr_bipush (v := 31) 31 15 C (by decide +kernel) rfl rfl ?_
  refine zr_newi (N := 31) (kc := 2) (ns := 37) 17 C G (by decide) (by decide) (by decide) (Nat.le_of_ble_eq_true rfl) (Nat.le_of_ble_eq_true rfl) (by decide +kernel) rfl (fun q2 => ?_)
  refine zr_eq (ws' := [(a, .inr (5, [.ref q1, .null, .int 0])), (q1, .inl (d.2.1, 6, .inl (fun _ => 0))), (q2, .inl (d.2.1, 31, .inl (fun _ => 0)))]) rfl ?_
  refine zr_putF (idx := 15) (v := .ref q2) (ws' := [(a, .inr (5, [.ref q1, .ref q2, .int 0])), (q1, .inl (d.2.1, 6, .inl (fun _ => 0))), (q2, .inl (d.2.1, 31, .inl (fun _ => 0)))]) 0 inX5 tyX5 tyX5_ok nmX5 rfl rfl 1 (by decide) rfl rfl rfl rfl rfl (Nat.le_of_ble_eq_true rfl) q_173 rfl 20 C I (by decide +kernel) rfl ?_
  exact zr_vreta C (by decide +kernel) T (Nat.le_of_ble_eq_true rfl) (Nat.le_of_ble_eq_true rfl) ⟨rfl, q1, q2, rfl⟩
theorem y_Sh_init : zY yX6_init cX6_init 1 none 0 := ⟨q_235, q_79, by decide +kernel, by decide +kernel, by decide +kernel⟩
set_option maxRecDepth 8000 in
theorem m_Sh_init {l : Launch} {d : zD} {a : Nat} : zMa l yX6_init cX6_init 1 none 1 20 3 36 d [.ref a] [(a, .inr (6, [.null, .null, .null, .int 0]))] (fun r w => r = none ∧ ∃ q1 : Nat, ∃ q2 : Nat, ∃ q3 : Nat, w = [(a, .inr (6, [.ref q1, .ref q2, .ref q3, .int 0])), (q1, .inl (d.2.1, 12, .inl (fun _ => 0))), (q2, .inl (d.2.1, 12, .inl (fun _ => 0))), (q3, .inl (d.2.1, 12, .inl (fun _ => 0)))]) := by
  refine zMa_of [some (.ref a)] (by decide +kernel) rfl (Nat.le_of_ble_eq_true rfl) (fun F C G I T => ?_)
  refine zr_aload_n 0 1 C (by decide +kernel) rfl rfl ?_
  refine zr_obj (idx := 3) 4 C (by decide +kernel) rfl q_236 (zb2 rfl rfl) (Nat.le_of_ble_eq_true rfl) ?_
  refine zr_aload_n 0 5 C (by decide +kernel) rfl rfl ?_
  refine zr_bipush (v := 12) 12 7 C (by decide +kernel) rfl rfl ?_
  refine zr_newi (N := 12) (kc := 3) (ns := 36) 9 C G (by decide) (by decide) (by decide) (Nat.le_of_ble_eq_true rfl) (Nat.le_of_ble_eq_true rfl) (by decide +kernel) rfl (fun q1 => ?_)
  refine zr_eq (ws' := [(a, .inr (6, [.null, .null, .null, .int 0])), (q1, .inl (d.2.1, 12, .inl (fun _ => 0)))]) rfl ?_
  refine zr_putF (idx := 9) (v := .ref q1) (ws' := [(a, .inr (6, [.ref q1, .null, .null, .int 0])), (q1, .inl (d.2.1, 12, .inl (fun _ => 0)))]) 0 inX6 tyX6 tyX6_ok nmX6 rfl rfl 0 (by decide) rfl rfl rfl rfl rfl (Nat.le_of_ble_eq_true rfl) q_237 rfl 12 C I (by decide +kernel) rfl ?_
  refine zr_aload_n 0 13 C (by decide +kernel) rfl rfl ?_
  refine zr_bipush (v := 12) 12 15 C (by decide +kernel) rfl rfl ?_
  refine zr_newi (N := 12) (kc := 3) (ns := 36) 17 C G (by decide) (by decide) (by decide) (Nat.le_of_ble_eq_true rfl) (Nat.le_of_ble_eq_true rfl) (by decide +kernel) rfl (fun q2 => ?_)
  refine zr_eq (ws' := [(a, .inr (6, [.ref q1, .null, .null, .int 0])), (q1, .inl (d.2.1, 12, .inl (fun _ => 0))), (q2, .inl (d.2.1, 12, .inl (fun _ => 0)))]) rfl ?_
  refine zr_putF (idx := 15) (v := .ref q2) (ws' := [(a, .inr (6, [.ref q1, .ref q2, .null, .int 0])), (q1, .inl (d.2.1, 12, .inl (fun _ => 0))), (q2, .inl (d.2.1, 12, .inl (fun _ => 0)))]) 0 inX6 tyX6 tyX6_ok nmX6 rfl rfl 1 (by decide) rfl rfl rfl rfl rfl (Nat.le_of_ble_eq_true rfl) q_239 rfl 20 C I (by decide +kernel) rfl ?_
  refine zr_aload_n 0 21 C (by decide +kernel) rfl rfl ?_
  refine zr_bipush (v := 12) 12 23 C (by decide +kernel) rfl rfl ?_
  refine zr_newi (N := 12) (kc := 3) (ns := 36) 25 C G (by decide) (by decide) (by decide) (Nat.le_of_ble_eq_true rfl) (Nat.le_of_ble_eq_true rfl) (by decide +kernel) rfl (fun q3 => ?_)
  refine zr_eq (ws' := [(a, .inr (6, [.ref q1, .ref q2, .null, .int 0])), (q1, .inl (d.2.1, 12, .inl (fun _ => 0))), (q2, .inl (d.2.1, 12, .inl (fun _ => 0))), (q3, .inl (d.2.1, 12, .inl (fun _ => 0)))]) rfl ?_
  refine zr_putF (idx := 18) (v := .ref q3) (ws' := [(a, .inr (6, [.ref q1, .ref q2, .ref q3, .int 0])), (q1, .inl (d.2.1, 12, .inl (fun _ => 0))), (q2, .inl (d.2.1, 12, .inl (fun _ => 0))), (q3, .inl (d.2.1, 12, .inl (fun _ => 0)))]) 0 inX6 tyX6 tyX6_ok nmX6 rfl rfl 2 (by decide) rfl rfl rfl rfl rfl (Nat.le_of_ble_eq_true rfl) q_241 rfl 28 C I (by decide +kernel) rfl ?_
  exact zr_vreta C (by decide +kernel) T (Nat.le_of_ble_eq_true rfl) (Nat.le_of_ble_eq_true rfl) ⟨rfl, q1, q2, q3, rfl⟩
theorem y_La_init : zY yX2_init cX2_init 1 none 0 := ⟨q_219, q_77, by decide +kernel, by decide +kernel, by decide +kernel⟩
set_option maxRecDepth 8000 in
theorem m_La_init {l : Launch} {d : zD} {a : Nat} : zMa l yX2_init cX2_init 1 none 1 23 2 3200 d [.ref a] [(a, .inr (2, [.null, .null]))] (fun r w => r = none ∧ ∃ q1 : Nat, ∃ q2 : Nat, w = [(a, .inr (2, [.ref q1, .ref q2])), (q1, .inl (d.2.1, 1600, .inl (zfl 1600 1 (fun _ => 0)))), (q2, .inl (d.2.1, 1600, .inl (zfl 1600 1 (fun _ => 0))))]) := by
  refine zMa_of [some (.ref a)] (by decide +kernel) rfl (Nat.le_of_ble_eq_true rfl) (fun F C G I T => ?_)
  refine zr_aload_n 0 1 C (by decide +kernel) rfl rfl ?_
  refine zr_obj (idx := 3) 4 C (by decide +kernel) rfl q_220 (zb2 rfl rfl) (Nat.le_of_ble_eq_true rfl) ?_
  refine zr_aload_n 0 5 C (by decide +kernel) rfl rfl ?_
  refine zr_sipush (v := 1600) 1600 8 C (by decide +kernel) rfl rfl ?_
  refine zr_newi (N := 1600) (kc := 2) (ns := 3200) 10 C G (by decide) (by decide) (by decide) (Nat.le_of_ble_eq_true rfl) (Nat.le_of_ble_eq_true rfl) (by decide +kernel) rfl (fun q1 => ?_)
  refine zr_eq (ws' := [(a, .inr (2, [.null, .null])), (q1, .inl (d.2.1, 1600, .inl (fun _ => 0)))]) rfl ?_
  refine zr_putF (idx := 9) (v := .ref q1) (ws' := [(a, .inr (2, [.ref q1, .null])), (q1, .inl (d.2.1, 1600, .inl (fun _ => 0)))]) 0 inX2 tyX2 tyX2_ok nmX2 rfl rfl 0 (by decide) rfl rfl rfl rfl rfl (Nat.le_of_ble_eq_true rfl) q_224 rfl 13 C I (by decide +kernel) rfl ?_
  refine zr_aload_n 0 14 C (by decide +kernel) rfl rfl ?_
  refine zr_sipush (v := 1600) 1600 17 C (by decide +kernel) rfl rfl ?_
  refine zr_newi (N := 1600) (kc := 2) (ns := 3200) 19 C G (by decide) (by decide) (by decide) (Nat.le_of_ble_eq_true rfl) (Nat.le_of_ble_eq_true rfl) (by decide +kernel) rfl (fun q2 => ?_)
  refine zr_eq (ws' := [(a, .inr (2, [.ref q1, .null])), (q1, .inl (d.2.1, 1600, .inl (fun _ => 0))), (q2, .inl (d.2.1, 1600, .inl (fun _ => 0)))]) rfl ?_
  refine zr_putF (idx := 15) (v := .ref q2) (ws' := [(a, .inr (2, [.ref q1, .ref q2])), (q1, .inl (d.2.1, 1600, .inl (fun _ => 0))), (q2, .inl (d.2.1, 1600, .inl (fun _ => 0)))]) 0 inX2 tyX2 tyX2_ok nmX2 rfl rfl 1 (by decide) rfl rfl rfl rfl rfl (Nat.le_of_ble_eq_true rfl) q_225 rfl 22 C I (by decide +kernel) rfl ?_
  refine zr_aload_n 0 23 C (by decide +kernel) rfl rfl ?_
  refine zr_get (idx := 9) (v := .ref q1) 0 inX2 rfl rfl 0 (by decide) rfl rfl q_224 26 C (by decide +kernel) rfl ?_
  refine zr_iconst (v := 1) 1 27 C (by decide +kernel) rfl rfl ?_
  refine zr_callS0 (idx := 18) (kc := 2) (ns := 3200) (ws' := [(a, .inr (2, [.ref q1, .ref q2])), (q1, .inl (d.2.1, 1600, .inl (zfl 1600 1 (fun _ => 0)))), (q2, .inl (d.2.1, 1600, .inl (fun _ => 0)))]) y_fill q_222 (As := [.ref q1, .int 1]) (m_fill 1 rfl (by decide) rfl) rfl rfl 30 C G (Nat.le_of_ble_eq_true rfl) (Nat.le_of_ble_eq_true rfl) (by decide +kernel) rfl q_221 (zb2 rfl rfl) (Nat.le_of_ble_eq_true rfl) ?_
  refine zr_aload_n 0 31 C (by decide +kernel) rfl rfl ?_
  refine zr_get (idx := 15) (v := .ref q2) 0 inX2 rfl rfl 1 (by decide) rfl rfl q_225 34 C (by decide +kernel) rfl ?_
  refine zr_iconst (v := 1) 1 35 C (by decide +kernel) rfl rfl ?_
  refine zr_callS0 (idx := 18) (kc := 2) (ns := 3200) (ws' := [(a, .inr (2, [.ref q1, .ref q2])), (q1, .inl (d.2.1, 1600, .inl (zfl 1600 1 (fun _ => 0)))), (q2, .inl (d.2.1, 1600, .inl (zfl 1600 1 (fun _ => 0))))]) y_fill q_222 (As := [.ref q2, .int 1]) (m_fill 2 rfl (by decide) rfl) rfl rfl 38 C G (Nat.le_of_ble_eq_true rfl) (Nat.le_of_ble_eq_true rfl) (by decide +kernel) rfl q_221 (zb2 rfl rfl) (Nat.le_of_ble_eq_true rfl) ?_
  exact zr_vreta C (by decide +kernel) T (Nat.le_of_ble_eq_true rfl) (Nat.le_of_ble_eq_true rfl) ⟨rfl, q1, q2, rfl⟩
theorem y_St_init : zY yX7_init cX7_init 1 none 0 := ⟨q_307, q_82, by decide +kernel, by decide +kernel, by decide +kernel⟩
set_option maxRecDepth 8000 in
theorem m_St_init {l : Launch} {d : zD} {a : Nat} {ad av : Nat → Nat} (E : zXe d ad av) : zMa l yX7_init cX7_init 1 none 1 23 7 172 d [.ref a] [(a, .inr (7, [.null, .null, .null]))] (fun r w => r = none ∧ ∃ q1 : Nat, ∃ r2 : Nat → Nat, ∃ q3 : Nat, ∃ q4 : Nat, w = [(a, .inr (7, [.ref q1, .ref q3, .ref q4])), (q1, .inl (d.2.2.2.2.1, 4, .inr (.inr (.inr (.inr (fun i => if i < 4 then some (r2 i) else none)))))), (r2 0, .inl (d.2.1, 40, .inl (fun _ => 0))), (r2 1, .inl (d.2.1, 40, .inl (fun _ => 0))), (r2 2, .inl (d.2.1, 40, .inl (fun _ => 0))), (r2 3, .inl (d.2.1, 40, .inl (fun _ => 0))), (q3, .inl (d.2.1, 4, .inl (zfl 4 (-1) (fun _ => 0)))), (q4, .inl (d.2.1, 4, .inl (fun _ => 0)))]) := by
  refine zMa_of [some (.ref a)] (by decide +kernel) rfl (Nat.le_of_ble_eq_true rfl) (fun F C G I T => ?_)
  refine zr_aload_n 0 1 C (by decide +kernel) rfl rfl ?_
  refine zr_obj (idx := 3) 4 C (by decide +kernel) rfl q_308 (zb2 rfl rfl) (Nat.le_of_ble_eq_true rfl) ?_
  refine zr_aload_n 0 5 C (by decide +kernel) rfl rfl ?_
  refine zr_iconst (v := 4) 4 6 C (by decide +kernel) rfl rfl ?_
  refine zr_bipush (v := 40) 40 8 C (by decide +kernel) rfl rfl ?_
  refine zr_mna (idx := 9) (N := 4) (M := 40) (kc := 7) (ns := 172) 12 C E G (by decide) (by decide) (by decide) (by decide) (by decide) (by decide) (Nat.le_of_ble_eq_true rfl) (Nat.le_of_ble_eq_true rfl) q_309 (by decide +kernel) rfl (fun q1 r2 => ?_)
  refine zr_eq (ws' := [(a, .inr (7, [.null, .null, .null])), (q1, .inl (d.2.2.2.2.1, 4, .inr (.inr (.inr (.inr (fun i => if i < 4 then some (r2 i) else none)))))), (r2 0, .inl (d.2.1, 40, .inl (fun _ => 0))), (r2 1, .inl (d.2.1, 40, .inl (fun _ => 0))), (r2 2, .inl (d.2.1, 40, .inl (fun _ => 0))), (r2 3, .inl (d.2.1, 40, .inl (fun _ => 0)))]) rfl ?_
  refine zr_putF (idx := 11) (v := .ref q1) (ws' := [(a, .inr (7, [.ref q1, .null, .null])), (q1, .inl (d.2.2.2.2.1, 4, .inr (.inr (.inr (.inr (fun i => if i < 4 then some (r2 i) else none)))))), (r2 0, .inl (d.2.1, 40, .inl (fun _ => 0))), (r2 1, .inl (d.2.1, 40, .inl (fun _ => 0))), (r2 2, .inl (d.2.1, 40, .inl (fun _ => 0))), (r2 3, .inl (d.2.1, 40, .inl (fun _ => 0)))]) 0 inX7 tyX7 tyX7_ok nmX7 rfl rfl 0 (by decide) rfl rfl rfl rfl rfl (Nat.le_of_ble_eq_true rfl) q_311 rfl 15 C I (by decide +kernel) rfl ?_
  refine zr_aload_n 0 16 C (by decide +kernel) rfl rfl ?_
  refine zr_iconst (v := 4) 4 17 C (by decide +kernel) rfl rfl ?_
  refine zr_newi (N := 4) (kc := 7) (ns := 172) 19 C G (by decide) (by decide) (by decide) (Nat.le_of_ble_eq_true rfl) (Nat.le_of_ble_eq_true rfl) (by decide +kernel) rfl (fun q3 => ?_)
  refine zr_eq (ws' := [(a, .inr (7, [.ref q1, .null, .null])), (q1, .inl (d.2.2.2.2.1, 4, .inr (.inr (.inr (.inr (fun i => if i < 4 then some (r2 i) else none)))))), (r2 0, .inl (d.2.1, 40, .inl (fun _ => 0))), (r2 1, .inl (d.2.1, 40, .inl (fun _ => 0))), (r2 2, .inl (d.2.1, 40, .inl (fun _ => 0))), (r2 3, .inl (d.2.1, 40, .inl (fun _ => 0))), (q3, .inl (d.2.1, 4, .inl (fun _ => 0)))]) rfl ?_
  refine zr_putF (idx := 16) (v := .ref q3) (ws' := [(a, .inr (7, [.ref q1, .ref q3, .null])), (q1, .inl (d.2.2.2.2.1, 4, .inr (.inr (.inr (.inr (fun i => if i < 4 then some (r2 i) else none)))))), (r2 0, .inl (d.2.1, 40, .inl (fun _ => 0))), (r2 1, .inl (d.2.1, 40, .inl (fun _ => 0))), (r2 2, .inl (d.2.1, 40, .inl (fun _ => 0))), (r2 3, .inl (d.2.1, 40, .inl (fun _ => 0))), (q3, .inl (d.2.1, 4, .inl (fun _ => 0)))]) 0 inX7 tyX7 tyX7_ok nmX7 rfl rfl 1 (by decide) rfl rfl rfl rfl rfl (Nat.le_of_ble_eq_true rfl) q_313 rfl 22 C I (by decide +kernel) rfl ?_
  refine zr_aload_n 0 23 C (by decide +kernel) rfl rfl ?_
  refine zr_iconst (v := 4) 4 24 C (by decide +kernel) rfl rfl ?_
  refine zr_newi (N := 4) (kc := 7) (ns := 172) 26 C G (by decide) (by decide) (by decide) (Nat.le_of_ble_eq_true rfl) (Nat.le_of_ble_eq_true rfl) (by decide +kernel) rfl (fun q4 => ?_)
  refine zr_eq (ws' := [(a, .inr (7, [.ref q1, .ref q3, .null])), (q1, .inl (d.2.2.2.2.1, 4, .inr (.inr (.inr (.inr (fun i => if i < 4 then some (r2 i) else none)))))), (r2 0, .inl (d.2.1, 40, .inl (fun _ => 0))), (r2 1, .inl (d.2.1, 40, .inl (fun _ => 0))), (r2 2, .inl (d.2.1, 40, .inl (fun _ => 0))), (r2 3, .inl (d.2.1, 40, .inl (fun _ => 0))), (q3, .inl (d.2.1, 4, .inl (fun _ => 0))), (q4, .inl (d.2.1, 4, .inl (fun _ => 0)))]) rfl ?_
  refine zr_putF (idx := 20) (v := .ref q4) (ws' := [(a, .inr (7, [.ref q1, .ref q3, .ref q4])), (q1, .inl (d.2.2.2.2.1, 4, .inr (.inr (.inr (.inr (fun i => if i < 4 then some (r2 i) else none)))))), (r2 0, .inl (d.2.1, 40, .inl (fun _ => 0))), (r2 1, .inl (d.2.1, 40, .inl (fun _ => 0))), (r2 2, .inl (d.2.1, 40, .inl (fun _ => 0))), (r2 3, .inl (d.2.1, 40, .inl (fun _ => 0))), (q3, .inl (d.2.1, 4, .inl (fun _ => 0))), (q4, .inl (d.2.1, 4, .inl (fun _ => 0)))]) 0 inX7 tyX7 tyX7_ok nmX7 rfl rfl 2 (by decide) rfl rfl rfl rfl rfl (Nat.le_of_ble_eq_true rfl) q_315 rfl 29 C I (by decide +kernel) rfl ?_
  refine zr_aload_n 0 30 C (by decide +kernel) rfl rfl ?_
  refine zr_get (idx := 16) (v := .ref q3) 0 inX7 rfl rfl 1 (by decide) rfl rfl q_313 33 C (by decide +kernel) rfl ?_
  refine zr_iconst (v := (-1)) (-1) 34 C (by decide +kernel) rfl rfl ?_
  refine zr_callS0 (idx := 23) (kc := 7) (ns := 172) (ws' := [(a, .inr (7, [.ref q1, .ref q3, .ref q4])), (q1, .inl (d.2.2.2.2.1, 4, .inr (.inr (.inr (.inr (fun i => if i < 4 then some (r2 i) else none)))))), (r2 0, .inl (d.2.1, 40, .inl (fun _ => 0))), (r2 1, .inl (d.2.1, 40, .inl (fun _ => 0))), (r2 2, .inl (d.2.1, 40, .inl (fun _ => 0))), (r2 3, .inl (d.2.1, 40, .inl (fun _ => 0))), (q3, .inl (d.2.1, 4, .inl (zfl 4 (-1) (fun _ => 0)))), (q4, .inl (d.2.1, 4, .inl (fun _ => 0)))]) y_fill q_222 (As := [.ref q3, .int (-1)]) (m_fill 6 rfl (by decide) rfl) rfl rfl 37 C G (Nat.le_of_ble_eq_true rfl) (Nat.le_of_ble_eq_true rfl) (by decide +kernel) rfl q_310 (zb2 rfl rfl) (Nat.le_of_ble_eq_true rfl) ?_
  exact zr_vreta C (by decide +kernel) T (Nat.le_of_ble_eq_true rfl) (Nat.le_of_ble_eq_true rfl) ⟨rfl, q1, r2, q3, q4, rfl⟩
theorem y_Tx_init : zY yX8_init cX8_init 1 none 0 := ⟨q_143, q_74, by decide +kernel, by decide +kernel, by decide +kernel⟩
set_option maxRecDepth 8000 in
theorem m_Tx_init {l : Launch} {d : zD} {a : Nat} {ad av : Nat → Nat} (E : zXe d ad av) : zMa l yX8_init cX8_init 1 none 1 20 14 12 d [.ref a] [(a, .inr (8, [.null, .null, .int 0]))] (fun r w => r = none ∧ ∃ q1 : Nat, ∃ r2 : Nat → Nat, ∃ q3 : Nat, ∃ r4 : Nat → Nat, w = [(a, .inr (8, [.ref q1, .ref q3, .int 0])), (q1, .inl (d.2.2.2.2.1, 6, .inr (.inr (.inr (.inr (fun i => if i < 6 then some (r2 i) else none)))))), (r2 0, .inl (d.2.1, 0, .inl (fun _ => 0))), (r2 1, .inl (d.2.1, 0, .inl (fun _ => 0))), (r2 2, .inl (d.2.1, 0, .inl (fun _ => 0))), (r2 3, .inl (d.2.1, 0, .inl (fun _ => 0))), (r2 4, .inl (d.2.1, 0, .inl (fun _ => 0))), (r2 5, .inl (d.2.1, 0, .inl (fun _ => 0))), (q3, .inl (d.2.2.2.2.1, 6, .inr (.inr (.inr (.inr (fun i => if i < 6 then some (r4 i) else none)))))), (r4 0, .inl (d.2.1, 0, .inl (fun _ => 0))), (r4 1, .inl (d.2.1, 0, .inl (fun _ => 0))), (r4 2, .inl (d.2.1, 0, .inl (fun _ => 0))), (r4 3, .inl (d.2.1, 0, .inl (fun _ => 0))), (r4 4, .inl (d.2.1, 0, .inl (fun _ => 0))), (r4 5, .inl (d.2.1, 0, .inl (fun _ => 0)))]) := by
  refine zMa_of [some (.ref a)] (by decide +kernel) rfl (Nat.le_of_ble_eq_true rfl) (fun F C G I T => ?_)
  refine zr_aload_n 0 1 C (by decide +kernel) rfl rfl ?_
  refine zr_obj (idx := 3) 4 C (by decide +kernel) rfl q_144 (zb2 rfl rfl) (Nat.le_of_ble_eq_true rfl) ?_
  refine zr_aload_n 0 5 C (by decide +kernel) rfl rfl ?_
  refine zr_bipush (v := 6) 6 7 C (by decide +kernel) rfl rfl ?_
  refine zr_iconst (v := 0) 0 8 C (by decide +kernel) rfl rfl ?_
  refine zr_mna (idx := 9) (N := 6) (M := 0) (kc := 14) (ns := 12) 12 C E G (by decide) (by decide) (by decide) (by decide) (by decide) (by decide) (Nat.le_of_ble_eq_true rfl) (Nat.le_of_ble_eq_true rfl) q_145 (by decide +kernel) rfl (fun q1 r2 => ?_)
  refine zr_eq (ws' := [(a, .inr (8, [.null, .null, .int 0])), (q1, .inl (d.2.2.2.2.1, 6, .inr (.inr (.inr (.inr (fun i => if i < 6 then some (r2 i) else none)))))), (r2 0, .inl (d.2.1, 0, .inl (fun _ => 0))), (r2 1, .inl (d.2.1, 0, .inl (fun _ => 0))), (r2 2, .inl (d.2.1, 0, .inl (fun _ => 0))), (r2 3, .inl (d.2.1, 0, .inl (fun _ => 0))), (r2 4, .inl (d.2.1, 0, .inl (fun _ => 0))), (r2 5, .inl (d.2.1, 0, .inl (fun _ => 0)))]) rfl ?_
  refine zr_putF (idx := 11) (v := .ref q1) (ws' := [(a, .inr (8, [.ref q1, .null, .int 0])), (q1, .inl (d.2.2.2.2.1, 6, .inr (.inr (.inr (.inr (fun i => if i < 6 then some (r2 i) else none)))))), (r2 0, .inl (d.2.1, 0, .inl (fun _ => 0))), (r2 1, .inl (d.2.1, 0, .inl (fun _ => 0))), (r2 2, .inl (d.2.1, 0, .inl (fun _ => 0))), (r2 3, .inl (d.2.1, 0, .inl (fun _ => 0))), (r2 4, .inl (d.2.1, 0, .inl (fun _ => 0))), (r2 5, .inl (d.2.1, 0, .inl (fun _ => 0)))]) 0 inX8 tyX8 tyX8_ok nmX8 rfl rfl 0 (by decide) rfl rfl rfl rfl rfl (Nat.le_of_ble_eq_true rfl) q_147 rfl 15 C I (by decide +kernel) rfl ?_
  refine zr_aload_n 0 16 C (by decide +kernel) rfl rfl ?_
  refine zr_bipush (v := 6) 6 18 C (by decide +kernel) rfl rfl ?_
  refine zr_iconst (v := 0) 0 19 C (by decide +kernel) rfl rfl ?_
  refine zr_mna (idx := 9) (N := 6) (M := 0) (kc := 14) (ns := 12) 23 C E G (by decide) (by decide) (by decide) (by decide) (by decide) (by decide) (Nat.le_of_ble_eq_true rfl) (Nat.le_of_ble_eq_true rfl) q_145 (by decide +kernel) rfl (fun q3 r4 => ?_)
  refine zr_eq (ws' := [(a, .inr (8, [.ref q1, .null, .int 0])), (q1, .inl (d.2.2.2.2.1, 6, .inr (.inr (.inr (.inr (fun i => if i < 6 then some (r2 i) else none)))))), (r2 0, .inl (d.2.1, 0, .inl (fun _ => 0))), (r2 1, .inl (d.2.1, 0, .inl (fun _ => 0))), (r2 2, .inl (d.2.1, 0, .inl (fun _ => 0))), (r2 3, .inl (d.2.1, 0, .inl (fun _ => 0))), (r2 4, .inl (d.2.1, 0, .inl (fun _ => 0))), (r2 5, .inl (d.2.1, 0, .inl (fun _ => 0))), (q3, .inl (d.2.2.2.2.1, 6, .inr (.inr (.inr (.inr (fun i => if i < 6 then some (r4 i) else none)))))), (r4 0, .inl (d.2.1, 0, .inl (fun _ => 0))), (r4 1, .inl (d.2.1, 0, .inl (fun _ => 0))), (r4 2, .inl (d.2.1, 0, .inl (fun _ => 0))), (r4 3, .inl (d.2.1, 0, .inl (fun _ => 0))), (r4 4, .inl (d.2.1, 0, .inl (fun _ => 0))), (r4 5, .inl (d.2.1, 0, .inl (fun _ => 0)))]) rfl ?_
  refine zr_putF (idx := 16) (v := .ref q3) (ws' := [(a, .inr (8, [.ref q1, .ref q3, .int 0])), (q1, .inl (d.2.2.2.2.1, 6, .inr (.inr (.inr (.inr (fun i => if i < 6 then some (r2 i) else none)))))), (r2 0, .inl (d.2.1, 0, .inl (fun _ => 0))), (r2 1, .inl (d.2.1, 0, .inl (fun _ => 0))), (r2 2, .inl (d.2.1, 0, .inl (fun _ => 0))), (r2 3, .inl (d.2.1, 0, .inl (fun _ => 0))), (r2 4, .inl (d.2.1, 0, .inl (fun _ => 0))), (r2 5, .inl (d.2.1, 0, .inl (fun _ => 0))), (q3, .inl (d.2.2.2.2.1, 6, .inr (.inr (.inr (.inr (fun i => if i < 6 then some (r4 i) else none)))))), (r4 0, .inl (d.2.1, 0, .inl (fun _ => 0))), (r4 1, .inl (d.2.1, 0, .inl (fun _ => 0))), (r4 2, .inl (d.2.1, 0, .inl (fun _ => 0))), (r4 3, .inl (d.2.1, 0, .inl (fun _ => 0))), (r4 4, .inl (d.2.1, 0, .inl (fun _ => 0))), (r4 5, .inl (d.2.1, 0, .inl (fun _ => 0)))]) 0 inX8 tyX8 tyX8_ok nmX8 rfl rfl 1 (by decide) rfl rfl rfl rfl rfl (Nat.le_of_ble_eq_true rfl) q_149 rfl 26 C I (by decide +kernel) rfl ?_
  exact zr_vreta C (by decide +kernel) T (Nat.le_of_ble_eq_true rfl) (Nat.le_of_ble_eq_true rfl) ⟨rfl, q1, r2, q3, r4, rfl⟩
theorem y_Vi_init : zY yX9_init cX9_init 1 none 0 := ⟨q_164, q_75, by decide +kernel, by decide +kernel, by decide +kernel⟩
set_option maxRecDepth 8000 in
theorem m_Vi_init {l : Launch} {d : zD} {a : Nat} {ad av : Nat → Nat} (E : zXe d ad av) : zMa l yX9_init cX9_init 1 none 2 40 9 3300 d [.ref a] [(a, .inr (9, [.null, .null, .null, .null, .null, .null, .null, .int 0, .int 0]))] (fun r w => r = none ∧ ∃ q1 : Nat, ∃ q2 : Nat, ∃ q3 : Nat, ∃ q4 : Nat, ∃ q5 : Nat, ∃ q6 : Nat, ∃ q7 : Nat, ∃ q8 : Nat, ∃ q9 : Nat, w = [(a, .inr (9, [.ref q1, .ref q2, .ref q3, .ref q4, .ref q5, .ref q8, .ref q9, .int 0, .int 0])), (q1, .inl (d.2.1, 20, .inl (fun _ => 0))), (q2, .inl (d.2.1, 20, .inl (fun _ => 0))), (q3, .inl (d.2.1, 20, .inl (fun _ => 0))), (q4, .inl (d.2.1, 3200, .inl (fun _ => 0))), (q5, .inr (5, [.ref q6, .ref q7, .int 0])), (q6, .inl (d.2.1, 6, .inl (fun _ => 0))), (q7, .inl (d.2.1, 31, .inl (fun _ => 0))), (q8, .inl (d.2.1, 0, .inl (fun _ => 0))), (q9, .inl (d.2.1, 0, .inl (fun _ => 0)))]) := by
  refine zMa_of [some (.ref a)] (by decide +kernel) rfl (Nat.le_of_ble_eq_true rfl) (fun F C G I T => ?_)
  refine zr_aload_n 0 1 C (by decide +kernel) rfl rfl ?_
  refine zr_obj (idx := 3) 4 C (by decide +kernel) rfl q_165 (zb2 rfl rfl) (Nat.le_of_ble_eq_true rfl) ?_
  refine zr_aload_n 0 5 C (by decide +kernel) rfl rfl ?_
  refine zr_bipush (v := 20) 20 7 C (by decide +kernel) rfl rfl ?_
  refine zr_newi (N := 20) (kc := 9) (ns := 3300) 9 C G (by decide) (by decide) (by decide) (Nat.le_of_ble_eq_true rfl) (Nat.le_of_ble_eq_true rfl) (by decide +kernel) rfl (fun q1 => ?_)
  refine zr_eq (ws' := [(a, .inr (9, [.null, .null, .null, .null, .null, .null, .null, .int 0, .int 0])), (q1, .inl (d.2.1, 20, .inl (fun _ => 0)))]) rfl ?_
  refine zr_putF (idx := 9) (v := .ref q1) (ws' := [(a, .inr (9, [.ref q1, .null, .null, .null, .null, .null, .null, .int 0, .int 0])), (q1, .inl (d.2.1, 20, .inl (fun _ => 0)))]) 0 inX9 tyX9 tyX9_ok nmX9 rfl rfl 0 (by decide) rfl rfl rfl rfl rfl (Nat.le_of_ble_eq_true rfl) q_182 rfl 12 C I (by decide +kernel) rfl ?_
  refine zr_aload_n 0 13 C (by decide +kernel) rfl rfl ?_
  refine zr_bipush (v := 20) 20 15 C (by decide +kernel) rfl rfl ?_
  refine zr_newi (N := 20) (kc := 9) (ns := 3300) 17 C G (by decide) (by decide) (by decide) (Nat.le_of_ble_eq_true rfl) (Nat.le_of_ble_eq_true rfl) (by decide +kernel) rfl (fun q2 => ?_)
  refine zr_eq (ws' := [(a, .inr (9, [.ref q1, .null, .null, .null, .null, .null, .null, .int 0, .int 0])), (q1, .inl (d.2.1, 20, .inl (fun _ => 0))), (q2, .inl (d.2.1, 20, .inl (fun _ => 0)))]) rfl ?_
  refine zr_putF (idx := 15) (v := .ref q2) (ws' := [(a, .inr (9, [.ref q1, .ref q2, .null, .null, .null, .null, .null, .int 0, .int 0])), (q1, .inl (d.2.1, 20, .inl (fun _ => 0))), (q2, .inl (d.2.1, 20, .inl (fun _ => 0)))]) 0 inX9 tyX9 tyX9_ok nmX9 rfl rfl 1 (by decide) rfl rfl rfl rfl rfl (Nat.le_of_ble_eq_true rfl) q_184 rfl 20 C I (by decide +kernel) rfl ?_
  refine zr_aload_n 0 21 C (by decide +kernel) rfl rfl ?_
  refine zr_bipush (v := 20) 20 23 C (by decide +kernel) rfl rfl ?_
  refine zr_newi (N := 20) (kc := 9) (ns := 3300) 25 C G (by decide) (by decide) (by decide) (Nat.le_of_ble_eq_true rfl) (Nat.le_of_ble_eq_true rfl) (by decide +kernel) rfl (fun q3 => ?_)
  refine zr_eq (ws' := [(a, .inr (9, [.ref q1, .ref q2, .null, .null, .null, .null, .null, .int 0, .int 0])), (q1, .inl (d.2.1, 20, .inl (fun _ => 0))), (q2, .inl (d.2.1, 20, .inl (fun _ => 0))), (q3, .inl (d.2.1, 20, .inl (fun _ => 0)))]) rfl ?_
  refine zr_putF (idx := 18) (v := .ref q3) (ws' := [(a, .inr (9, [.ref q1, .ref q2, .ref q3, .null, .null, .null, .null, .int 0, .int 0])), (q1, .inl (d.2.1, 20, .inl (fun _ => 0))), (q2, .inl (d.2.1, 20, .inl (fun _ => 0))), (q3, .inl (d.2.1, 20, .inl (fun _ => 0)))]) 0 inX9 tyX9 tyX9_ok nmX9 rfl rfl 2 (by decide) rfl rfl rfl rfl rfl (Nat.le_of_ble_eq_true rfl) q_186 rfl 28 C I (by decide +kernel) rfl ?_
  refine zr_aload_n 0 29 C (by decide +kernel) rfl rfl ?_
  refine zr_sipush (v := 3200) 3200 32 C (by decide +kernel) rfl rfl ?_
  refine zr_newi (N := 3200) (kc := 9) (ns := 3300) 34 C G (by decide) (by decide) (by decide) (Nat.le_of_ble_eq_true rfl) (Nat.le_of_ble_eq_true rfl) (by decide +kernel) rfl (fun q4 => ?_)
  refine zr_eq (ws' := [(a, .inr (9, [.ref q1, .ref q2, .ref q3, .null, .null, .null, .null, .int 0, .int 0])), (q1, .inl (d.2.1, 20, .inl (fun _ => 0))), (q2, .inl (d.2.1, 20, .inl (fun _ => 0))), (q3, .inl (d.2.1, 20, .inl (fun _ => 0))), (q4, .inl (d.2.1, 3200, .inl (fun _ => 0)))]) rfl ?_
  refine zr_putF (idx := 21) (v := .ref q4) (ws' := [(a, .inr (9, [.ref q1, .ref q2, .ref q3, .ref q4, .null, .null, .null, .int 0, .int 0])), (q1, .inl (d.2.1, 20, .inl (fun _ => 0))), (q2, .inl (d.2.1, 20, .inl (fun _ => 0))), (q3, .inl (d.2.1, 20, .inl (fun _ => 0))), (q4, .inl (d.2.1, 3200, .inl (fun _ => 0)))]) 0 inX9 tyX9 tyX9_ok nmX9 rfl rfl 3 (by decide) rfl rfl rfl rfl rfl (Nat.le_of_ble_eq_true rfl) q_188 rfl 37 C I (by decide +kernel) rfl ?_
  refine zr_aload_n 0 38 C (by decide +kernel) rfl rfl ?_
  refine zr_new (idx := 24) (ci := 5) (fs := [.null, .null, .int 0]) (kc := 9) (ns := 3300) inX5 tyX5 tyX5_ok rfl (fun j hj => by rcases (show j = 0 ∨ j = 1 ∨ j = 2 by omega) with rfl | rfl | rfl <;> rfl) q_166 q_167 q_76 41 C G (Nat.le_of_ble_eq_true rfl) (Nat.le_of_ble_eq_true rfl) (by decide +kernel) rfl (fun q5 => ?_)
  refine zr_eq (ws' := [(a, .inr (9, [.ref q1, .ref q2, .ref q3, .ref q4, .null, .null, .null, .int 0, .int 0])), (q1, .inl (d.2.1, 20, .inl (fun _ => 0))), (q2, .inl (d.2.1, 20, .inl (fun _ => 0))), (q3, .inl (d.2.1, 20, .inl (fun _ => 0))), (q4, .inl (d.2.1, 3200, .inl (fun _ => 0))), (q5, .inr (5, [.null, .null, .int 0]))]) rfl ?_
  refine zr_dup 42 C (by decide +kernel) rfl rfl ?_
  refine zr_eq (ws' := [(a, .inr (9, [.ref q1, .ref q2, .ref q3, .ref q4, .null, .null, .null, .int 0, .int 0])), (q1, .inl (d.2.1, 20, .inl (fun _ => 0))), (q2, .inl (d.2.1, 20, .inl (fun _ => 0))), (q3, .inl (d.2.1, 20, .inl (fun _ => 0))), (q4, .inl (d.2.1, 3200, .inl (fun _ => 0)))] ++ ([(q5, .inr (5, [.null, .null, .int 0]))] ++ [])) rfl ?_
  refine zr_callIN (idx := 26) (kc := 9) (ns := 3300) (rest := [.ref q5, .ref a]) y_Rk_init ⟨rfl, q_169⟩ (As := []) (m_Rk_init) rfl rfl 45 C G (Nat.le_of_ble_eq_true rfl) (Nat.le_of_ble_eq_true rfl) (by decide +kernel) rfl (zn_3 E) (zb2 rfl rfl) (Nat.le_of_ble_eq_true rfl) (fun rr w hw => ?_)
  obtain ⟨rfl, q6, q7, rfl⟩ := hw
  refine zr_eq (ws' := [(a, .inr (9, [.ref q1, .ref q2, .ref q3, .ref q4, .null, .null, .null, .int 0, .int 0])), (q1, .inl (d.2.1, 20, .inl (fun _ => 0))), (q2, .inl (d.2.1, 20, .inl (fun _ => 0))), (q3, .inl (d.2.1, 20, .inl (fun _ => 0))), (q4, .inl (d.2.1, 3200, .inl (fun _ => 0))), (q5, .inr (5, [.ref q6, .ref q7, .int 0])), (q6, .inl (d.2.1, 6, .inl (fun _ => 0))), (q7, .inl (d.2.1, 31, .inl (fun _ => 0)))]) rfl ?_
  refine zr_putF (idx := 27) (v := .ref q5) (ws' := [(a, .inr (9, [.ref q1, .ref q2, .ref q3, .ref q4, .ref q5, .null, .null, .int 0, .int 0])), (q1, .inl (d.2.1, 20, .inl (fun _ => 0))), (q2, .inl (d.2.1, 20, .inl (fun _ => 0))), (q3, .inl (d.2.1, 20, .inl (fun _ => 0))), (q4, .inl (d.2.1, 3200, .inl (fun _ => 0))), (q5, .inr (5, [.ref q6, .ref q7, .int 0])), (q6, .inl (d.2.1, 6, .inl (fun _ => 0))), (q7, .inl (d.2.1, 31, .inl (fun _ => 0)))]) 0 inX9 tyX9 tyX9_ok nmX9 rfl rfl 4 (by decide) rfl rfl rfl rfl rfl (Nat.le_of_ble_eq_true rfl) q_189 rfl 48 C I (by decide +kernel) rfl ?_
  refine zr_aload_n 0 49 C (by decide +kernel) rfl rfl ?_
  refine zr_iconst (v := 0) 0 50 C (by decide +kernel) rfl rfl ?_
  refine zr_newi (N := 0) (kc := 9) (ns := 3300) 52 C G (by decide) (by decide) (by decide) (Nat.le_of_ble_eq_true rfl) (Nat.le_of_ble_eq_true rfl) (by decide +kernel) rfl (fun q8 => ?_)
  refine zr_eq (ws' := [(a, .inr (9, [.ref q1, .ref q2, .ref q3, .ref q4, .ref q5, .null, .null, .int 0, .int 0])), (q1, .inl (d.2.1, 20, .inl (fun _ => 0))), (q2, .inl (d.2.1, 20, .inl (fun _ => 0))), (q3, .inl (d.2.1, 20, .inl (fun _ => 0))), (q4, .inl (d.2.1, 3200, .inl (fun _ => 0))), (q5, .inr (5, [.ref q6, .ref q7, .int 0])), (q6, .inl (d.2.1, 6, .inl (fun _ => 0))), (q7, .inl (d.2.1, 31, .inl (fun _ => 0))), (q8, .inl (d.2.1, 0, .inl (fun _ => 0)))]) rfl ?_
  refine zr_put (idx := 31) (v := .ref q8) (ws' := [(a, .inr (9, [.ref q1, .ref q2, .ref q3, .ref q4, .ref q5, .ref q8, .null, .int 0, .int 0])), (q1, .inl (d.2.1, 20, .inl (fun _ => 0))), (q2, .inl (d.2.1, 20, .inl (fun _ => 0))), (q3, .inl (d.2.1, 20, .inl (fun _ => 0))), (q4, .inl (d.2.1, 3200, .inl (fun _ => 0))), (q5, .inr (5, [.ref q6, .ref q7, .int 0])), (q6, .inl (d.2.1, 6, .inl (fun _ => 0))), (q7, .inl (d.2.1, 31, .inl (fun _ => 0))), (q8, .inl (d.2.1, 0, .inl (fun _ => 0)))]) 0 inX9 tyX9 tyX9_ok nmX9 rfl rfl 5 (by decide) rfl rfl rfl rfl rfl (Nat.le_of_ble_eq_true rfl) q_190 rfl 55 C (by decide +kernel) rfl ?_
  refine zr_aload_n 0 56 C (by decide +kernel) rfl rfl ?_
  refine zr_iconst (v := 0) 0 57 C (by decide +kernel) rfl rfl ?_
  refine zr_newi (N := 0) (kc := 9) (ns := 3300) 59 C G (by decide) (by decide) (by decide) (Nat.le_of_ble_eq_true rfl) (Nat.le_of_ble_eq_true rfl) (by decide +kernel) rfl (fun q9 => ?_)
  refine zr_eq (ws' := [(a, .inr (9, [.ref q1, .ref q2, .ref q3, .ref q4, .ref q5, .ref q8, .null, .int 0, .int 0])), (q1, .inl (d.2.1, 20, .inl (fun _ => 0))), (q2, .inl (d.2.1, 20, .inl (fun _ => 0))), (q3, .inl (d.2.1, 20, .inl (fun _ => 0))), (q4, .inl (d.2.1, 3200, .inl (fun _ => 0))), (q5, .inr (5, [.ref q6, .ref q7, .int 0])), (q6, .inl (d.2.1, 6, .inl (fun _ => 0))), (q7, .inl (d.2.1, 31, .inl (fun _ => 0))), (q8, .inl (d.2.1, 0, .inl (fun _ => 0))), (q9, .inl (d.2.1, 0, .inl (fun _ => 0)))]) rfl ?_
  refine zr_put (idx := 34) (v := .ref q9) (ws' := [(a, .inr (9, [.ref q1, .ref q2, .ref q3, .ref q4, .ref q5, .ref q8, .ref q9, .int 0, .int 0])), (q1, .inl (d.2.1, 20, .inl (fun _ => 0))), (q2, .inl (d.2.1, 20, .inl (fun _ => 0))), (q3, .inl (d.2.1, 20, .inl (fun _ => 0))), (q4, .inl (d.2.1, 3200, .inl (fun _ => 0))), (q5, .inr (5, [.ref q6, .ref q7, .int 0])), (q6, .inl (d.2.1, 6, .inl (fun _ => 0))), (q7, .inl (d.2.1, 31, .inl (fun _ => 0))), (q8, .inl (d.2.1, 0, .inl (fun _ => 0))), (q9, .inl (d.2.1, 0, .inl (fun _ => 0)))]) 0 inX9 tyX9 tyX9_ok nmX9 rfl rfl 6 (by decide) rfl rfl rfl rfl rfl (Nat.le_of_ble_eq_true rfl) q_191 rfl 62 C (by decide +kernel) rfl ?_
  exact zr_vreta C (by decide +kernel) T (Nat.le_of_ble_eq_true rfl) (Nat.le_of_ble_eq_true rfl) ⟨rfl, q1, q2, q3, q4, q5, q6, q7, q8, q9, rfl⟩

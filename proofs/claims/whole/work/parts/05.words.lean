theorem zb2 {a b c d : Nat} (h1 : Nat.ble a b = true) (h2 : Nat.ble c d = true) : a ≤ b ∧ c ≤ d := ⟨Nat.le_of_ble_eq_true h1, Nat.le_of_ble_eq_true h2⟩
theorem zfit {x : Int32} (h : narrow .boolean (.int x) = .int x) : fits .boolean (.int x) = true := by
  have h2 : x &&& 1 = x := by simpa [narrow] using h
  obtain ⟨j, hj, e⟩ := pk_andE x (m := 1) 1 (by decide)
  rw [h2] at e
  rcases (show j = 0 ∨ j = 1 by omega) with rfl | rfl
  · rw [e]; decide
  · rw [e]; decide
theorem zbo_some {β : Type} {y : Int32} {x : Option β} {out : β} (h : zbo y x = some out) : narrow .boolean (.int y) = .int y ∧ x = some out := by
  unfold zbo at h
  split at h
  · rename_i h1
    refine ⟨?_, h⟩
    unfold vp_nar at h1
    cases hn : narrow .boolean (.int y) with
    | int z => rw [hn] at h1; simp only at h1; rw [h1]
    | _ => simp [narrow] at hn
  · cases h
theorem q_37 : Cond.selects RX11 yX11_isHouse yX11_isHouse ∈ zW := z_w 37 (by decide +kernel) (by decide +kernel)
theorem q_90 : Cond.initialized RX11 ∈ zW := z_w 90 (by decide +kernel) (by decide +kernel)
theorem q_991 : Cond.fieldLink RX11 143 RX11 "houses" "I" ∈ zW := z_w 991 (by decide +kernel) (by decide +kernel)
theorem q_992 : Cond.fieldLink RX11 7 RX11 "place" "[I" ∈ zW := z_w 992 (by decide +kernel) (by decide +kernel)
theorem q_993 : Cond.fieldLink RX11 13 RX11 "isHut" "[I" ∈ zW := z_w 993 (by decide +kernel) (by decide +kernel)
theorem q_1175 : Cond.instanceMethod yX11_house ∈ zW := z_w 1175 (by decide +kernel) (by decide +kernel)
theorem q_1176 : Cond.selects RX11 yX11_house yX11_house ∈ zW := z_w 1176 (by decide +kernel) (by decide +kernel)
theorem q_1177 : Cond.code yX11_house cX11_house 3 (some .int) ∈ zW := z_w 1177 (by decide +kernel) (by decide +kernel)
theorem q_1178 : Cond.methodLink RX11 150 yX11_isPlace ∈ zW := z_w 1178 (by decide +kernel) (by decide +kernel)
theorem q_1179 : Cond.static yX11_isPlace ∈ zW := z_w 1179 (by decide +kernel) (by decide +kernel)
theorem q_1180 : Cond.code yX11_isPlace cX11_isPlace 1 (some .boolean) ∈ zW := z_w 1180 (by decide +kernel) (by decide +kernel)
theorem q_1181 : Cond.methodLink RX11 139 yX11_in ∈ zW := z_w 1181 (by decide +kernel) (by decide +kernel)
theorem q_1182 : Cond.static yX11_in ∈ zW := z_w 1182 (by decide +kernel) (by decide +kernel)
theorem q_1183 : Cond.code yX11_in cX11_in 3 (some .boolean) ∈ zW := z_w 1183 (by decide +kernel) (by decide +kernel)
theorem q_1185 : Cond.instanceMethod yX11_hut ∈ zW := z_w 1185 (by decide +kernel) (by decide +kernel)
theorem q_1186 : Cond.selects RX11 yX11_hut yX11_hut ∈ zW := z_w 1186 (by decide +kernel) (by decide +kernel)
theorem q_1187 : Cond.code yX11_hut cX11_hut 4 (some .int) ∈ zW := z_w 1187 (by decide +kernel) (by decide +kernel)
theorem q_1188 : Cond.methodLink RX11 154 yX11_isHouse ∈ zW := z_w 1188 (by decide +kernel) (by decide +kernel)
theorem q_1190 : Cond.instanceMethod yX11_isHouse ∈ zW := z_w 1190 (by decide +kernel) (by decide +kernel)
theorem q_1191 : Cond.code yX11_isHouse cX11_isHouse 2 (some .boolean) ∈ zW := z_w 1191 (by decide +kernel) (by decide +kernel)
theorem q_1258 : Cond.static yX11_apart ∈ zW := z_w 1258 (by decide +kernel) (by decide +kernel)
theorem q_1259 : Cond.code yX11_apart cX11_apart 2 (some .int) ∈ zW := z_w 1259 (by decide +kernel) (by decide +kernel)
theorem q_1260 : Cond.methodLink RX11 146 yX11_abs ∈ zW := z_w 1260 (by decide +kernel) (by decide +kernel)
theorem q_1261 : Cond.static yX11_abs ∈ zW := z_w 1261 (by decide +kernel) (by decide +kernel)
theorem q_1262 : Cond.code yX11_abs cX11_abs 1 (some .int) ∈ zW := z_w 1262 (by decide +kernel) (by decide +kernel)

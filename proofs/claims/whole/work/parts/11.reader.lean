/-! StepsBeyond$Reader.isHere(Ljava/lang/String;)Z -/
def f_Rd_isHere_20b (k20 : Nat → Int32 → zS → Option (Int32 × zS)) (x1 : Nat) (x2 : Int32) (σ : zS) : Option (Int32 × zS) :=
  zsi x1 ((if (nI (zSlen.getD x1 0)) ≤ x2 then
  some (1, σ)
  else
  zin ((σ.1 105) + x2) 160 (zsi x1 (zin x2 (zSlen.getD x1 0) ((if (σ.2 15 ((σ.1 105) + x2).toNatClampNeg) = (zchr x1 x2) then
  k20 x1 (x2 + 1) σ
  else
  some (0, σ)))))))
set_option maxRecDepth 4000 in
theorem w_Rd_isHere_20b {l : Launch} {d : zD} {F : zF} {h : Nat → Nat} {out : Int32 × zS} {ad av : Nat → Nat}  {k20 : Nat → Int32 → zS → Option (Int32 × zS)} (C : zOk d F RX4 cX4_isHere 3 5 200) (T : zRt d F (some .boolean) (some (.int out.1)) (XW d h out.2)) (E : zXe d ad av) (H20 : ∀ (x1 : Nat) (x2 : Int32) (σ : zS), k20 x1 x2 σ = some out → V l d F 0 0 (XW d h σ) [some (.ref (h 1)), some (.ref (ad x1)), some (.int x2)] 20 []) (x1 : Nat) (x2 : Int32) (σ : zS) (hf : f_Rd_isHere_20b k20 x1 x2 σ = some out) : V l d F 0 0 (XW d h σ) [some (.ref (h 1)), some (.ref (ad x1)), some (.int x2)] 20 [] := by
  unfold f_Rd_isHere_20b at hf
  refine zr_iload_n 2 21 C (by decide +kernel) rfl rfl ?_
  refine zr_aload_n 1 22 C (by decide +kernel) rfl rfl ?_
  refine xs_len (idx := 114) 25 C E (by decide +kernel) rfl q_430 (zb2 rfl rfl) (Nat.le_of_ble_eq_true rfl) hf (fun hf => ?_)
  refine zr_icmp_ge (off := 30) 55 28 C (by decide +kernel) (by decide) rfl hf (fun hf => ?_) (fun hf => ?_)
  · refine zr_iconst (v := 1) 1 56 C (by decide +kernel) rfl rfl ?_
    obtain rfl := Option.some.inj hf
    exact zr_zret C (by decide +kernel) rfl T
  · refine zr_aload_n 0 29 C (by decide +kernel) rfl rfl ?_
    refine xg_1_0 (idx := 9) 32 C (by decide +kernel) rfl q_105 ?_
    refine zr_aload_n 0 33 C (by decide +kernel) rfl rfl ?_
    refine xg_1_5 (idx := 69) 36 C (by decide +kernel) rfl q_115 ?_
    refine zr_iload_n 2 37 C (by decide +kernel) rfl rfl ?_
    refine zr_iadd 38 C (by decide +kernel) rfl ?_
    refine xl_15 39 C (by decide +kernel) rfl hf (fun hf => ?_)
    refine zr_aload_n 1 40 C (by decide +kernel) rfl rfl ?_
    refine zr_iload_n 2 41 C (by decide +kernel) rfl rfl ?_
    refine xs_chr (idx := 119) 44 C E (by decide +kernel) rfl q_431 (zb2 rfl rfl) (Nat.le_of_ble_eq_true rfl) hf (fun hf => ?_)
    refine zr_icmp_eq (off := 5) 49 47 C (by decide +kernel) (by decide) rfl hf (fun hf => ?_) (fun hf => ?_)
    · refine zr_iinc (j := 1) 2 [some (.ref (h 1)), some (.ref (ad x1)), some (.int (x2 + 1))] 52 C (by decide +kernel) rfl rfl rfl (by decide) rfl rfl ?_
      refine zr_goto (off := -32) 20 C (by decide +kernel) (by decide) ?_
      exact H20 _ _ _ hf
    · refine zr_iconst (v := 0) 0 48 C (by decide +kernel) rfl rfl ?_
      obtain rfl := Option.some.inj hf
      exact zr_zret C (by decide +kernel) rfl T
def f_Rd_isHere_20  : Nat → Nat → Int32 → zS → Option (Int32 × zS)
  | 0, _, _, _ => none
  | n + 1, x1, x2,  σ => f_Rd_isHere_20b (fun x1 x2 σ => f_Rd_isHere_20  n x1 x2 σ) x1 x2 σ
theorem w_Rd_isHere_20 {l : Launch} {d : zD} {F : zF} {h : Nat → Nat} {out : Int32 × zS} {ad av : Nat → Nat}   (C : zOk d F RX4 cX4_isHere 3 5 200) (T : zRt d F (some .boolean) (some (.int out.1)) (XW d h out.2)) (E : zXe d ad av)  : ∀ (n : Nat) (x1 : Nat) (x2 : Int32) (σ : zS), f_Rd_isHere_20  n x1 x2 σ = some out → V l d F 0 0 (XW d h σ) [some (.ref (h 1)), some (.ref (ad x1)), some (.int x2)] 20 [] := by
  intro n
  induction n with
  | zero =>
    intro x1 x2 σ hf
    cases hf
  | succ n ih =>
    intro x1 x2 σ hf
    exact w_Rd_isHere_20b C T E ih x1 x2 σ hf
def f_Rd_isHere (p1 : Nat) (σ : zS) : Option (Int32 × zS) :=
  zsi p1 ((if (nI (zSlen.getD p1 0)) = ((σ.1 106) - (σ.1 105)) then
  f_Rd_isHere_20 zfu p1 0 σ
  else
  some (0, σ)))
set_option maxRecDepth 4000 in
theorem m_Rd_isHere {l : Launch} {d : zD} {h : Nat → Nat} {out : Int32 × zS} {σ : zS} {ad av : Nat → Nat} {p1 : Nat} (E : zXe d ad av) (hf : f_Rd_isHere p1 σ = some out) : zM l yX4_isHere cX4_isHere 3 (some .boolean) 5 200 d [.ref (h 1), .ref (ad p1)] (XW d h σ) (XW d h out.2) (some (.int out.1)) := by
  refine zM_of [some (.ref (h 1)), some (.ref (ad p1)), none] (by decide +kernel) rfl (Nat.le_of_ble_eq_true rfl) (fun F C T => ?_)
  unfold f_Rd_isHere at hf
  refine zr_aload_n 1 1 C (by decide +kernel) rfl rfl ?_
  refine xs_len (idx := 114) 4 C E (by decide +kernel) rfl q_430 (zb2 rfl rfl) (Nat.le_of_ble_eq_true rfl) hf (fun hf => ?_)
  refine zr_aload_n 0 5 C (by decide +kernel) rfl rfl ?_
  refine xg_1_6 (idx := 28) 8 C (by decide +kernel) rfl q_116 ?_
  refine zr_aload_n 0 9 C (by decide +kernel) rfl rfl ?_
  refine xg_1_5 (idx := 69) 12 C (by decide +kernel) rfl q_115 ?_
  refine zr_isub 13 C (by decide +kernel) rfl ?_
  refine zr_icmp_eq (off := 5) 18 16 C (by decide +kernel) (by decide) rfl hf (fun hf => ?_) (fun hf => ?_)
  · refine zr_iconst (v := 0) 0 19 C (by decide +kernel) rfl rfl ?_
    refine zr_istore_n 2 [some (.ref (h 1)), some (.ref (ad p1)), some (.int 0)] 20 C (by decide +kernel) rfl (by decide) rfl rfl ?_
    exact w_Rd_isHere_20 C T E zfu _ _ _ hf
  · refine zr_iconst (v := 0) 0 17 C (by decide +kernel) rfl rfl ?_
    obtain rfl := Option.some.inj hf
    exact zr_zret C (by decide +kernel) rfl T
theorem y_Rd_isHere : zY yX4_isHere cX4_isHere 3 (some .boolean) 1 := ⟨q_429, q_73, by decide +kernel, by decide +kernel, by decide +kernel⟩
theorem k_Rd_isHere {l : Launch} {d : zD} {F : zF} {h : Nat → Nat} {σ : zS} {lv : List (Option Value)} {pc : Nat} {own : String} {cc : ByteArray} {nL fr lo idx : Nat} {rest : List Value} {β : Type} {kf : Int32 → zS → Option β} {o2 : β} {ad av : Nat → Nat}  {p1 : Nat} (pc' : Nat) (C : zOk d F own cc nL fr lo) (E : zXe d ad av) (hd : decode cc pc = .ok (.invokevirtual idx, 3)) (hp : pc + 3 = pc') (hq : Cond.methodLink own idx yX4_isHere ∈ zW) (hm : 5 + 1 ≤ fr ∧ 8 + (3 + 11) + 200 ≤ lo) (hr : (rest.map fun v => v.category).sum ≤ 8) (hf : zbd (f_Rd_isHere p1 σ) kf = some o2) (K : ∀ (r : Int32) (σ' : zS), kf r σ' = some o2 → V l d F 0 0 (XW d h σ') lv pc' (.int r :: rest)) : V l d F 0 0 (XW d h σ) lv pc (.ref (ad p1) :: .ref (h 1) :: rest) := by
  obtain ⟨q, h1, h2⟩ := zbd_some hf
  exact zr_callV y_Rd_isHere ⟨q_428, q_2⟩ 1 rfl rfl (As := [.ref (ad p1)]) (m_Rd_isHere E h1) rfl rfl pc' C hd hp hq hm hr (K _ _ h2)
/-! StepsBeyond$Reader.takeWord()V -/
def f_Rd_takeWord_193  (y1 : Int32) (σ : zS) : Option (Int32 × zS) :=
  zlt (zsg σ 107 y1) fun σ1 =>
  some (0, σ1)
set_option maxRecDepth 4000 in
theorem w_Rd_takeWord_193 {l : Launch} {d : zD} {F : zF} {h : Nat → Nat} {out : Int32 × zS} {ad av : Nat → Nat}   (C : zOk d F RX4 cX4_takeWord 1 6 222) (T : zRt d F none none (XW d h out.2)) (E : zXe d ad av)  (y1 : Int32) (σ : zS) (hf : f_Rd_takeWord_193  y1 σ = some out) : V l d F 0 0 (XW d h σ) [none] 193 [.int y1, .ref (h 1)] := by
  unfold f_Rd_takeWord_193 at hf
  refine xp_1_7 (idx := 41) 196 C (by decide +kernel) rfl q_117 hf (fun σ1 hf => ?_)
  obtain rfl := Option.some.inj hf
  exact zr_vret C (by decide +kernel) T
def f_Rd_takeWord_39   (σ : zS) : Option (Int32 × zS) :=
  zbd (f_Rd_isHere 1 σ) fun r2 σ1 =>
  (if r2 = 0 then
  zbd (f_Rd_isHere 2 σ1) fun r4 σ3 =>
  (if r4 = 0 then
  zbd (f_Rd_isHere 3 σ3) fun r6 σ5 =>
  (if r6 = 0 then
  zbd (f_Rd_isHere 4 σ5) fun r8 σ7 =>
  (if r8 = 0 then
  zbd (f_Rd_isHere 5 σ7) fun r10 σ9 =>
  (if r10 = 0 then
  zbd (f_Rd_isHere 6 σ9) fun r12 σ11 =>
  (if r12 = 0 then
  zbd (f_Rd_isHere 7 σ11) fun r14 σ13 =>
  (if r14 = 0 then
  zbd (f_Rd_isHere 8 σ13) fun r16 σ15 =>
  (if r16 = 0 then
  zbd (f_Rd_isHere 9 σ15) fun r18 σ17 =>
  (if r18 = 0 then
  zbd (f_Rd_isHere 10 σ17) fun r20 σ19 =>
  (if r20 = 0 then
  zbd (f_Rd_isHere 11 σ19) fun r22 σ21 =>
  (if r22 = 0 then
  f_Rd_takeWord_193 1 σ21
  else
  f_Rd_takeWord_193 22 σ21)
  else
  f_Rd_takeWord_193 21 σ19)
  else
  f_Rd_takeWord_193 20 σ17)
  else
  f_Rd_takeWord_193 19 σ15)
  else
  f_Rd_takeWord_193 18 σ13)
  else
  f_Rd_takeWord_193 17 σ11)
  else
  f_Rd_takeWord_193 15 σ9)
  else
  f_Rd_takeWord_193 9 σ7)
  else
  f_Rd_takeWord_193 8 σ5)
  else
  f_Rd_takeWord_193 4 σ3)
  else
  f_Rd_takeWord_193 3 σ1)
set_option maxRecDepth 4000 in
theorem w_Rd_takeWord_39 {l : Launch} {d : zD} {F : zF} {h : Nat → Nat} {out : Int32 × zS} {ad av : Nat → Nat}   (C : zOk d F RX4 cX4_takeWord 1 6 222) (T : zRt d F none none (XW d h out.2)) (E : zXe d ad av)   (σ : zS) (hf : f_Rd_takeWord_39   σ = some out) : V l d F 0 0 (XW d h σ) [some (.ref (h 1))] 39 [] := by
  unfold f_Rd_takeWord_39 at hf
  refine zr_aload_n 0 40 C (by decide +kernel) rfl rfl ?_
  refine zr_aload_n 0 41 C (by decide +kernel) rfl rfl ?_
  refine xr_str1 43 C E (by decide +kernel) rfl ?_
  refine k_Rd_isHere (idx := 90) 46 C E (by decide +kernel) rfl q_426 (zb2 rfl rfl) (Nat.le_of_ble_eq_true rfl) hf (fun r2 σ1 hf => ?_)
  refine zr_if_eq (off := 7) 53 49 C (by decide +kernel) (by decide) rfl hf (fun hf => ?_) (fun hf => ?_)
  · refine zr_aload_n 0 54 C (by decide +kernel) rfl rfl ?_
    refine xr_str2 56 C E (by decide +kernel) rfl ?_
    refine k_Rd_isHere (idx := 90) 59 C E (by decide +kernel) rfl q_426 (zb2 rfl rfl) (Nat.le_of_ble_eq_true rfl) hf (fun r4 σ3 hf => ?_)
    refine zr_if_eq (off := 7) 66 62 C (by decide +kernel) (by decide) rfl hf (fun hf => ?_) (fun hf => ?_)
    · refine zr_aload_n 0 67 C (by decide +kernel) rfl rfl ?_
      refine xr_str3 69 C E (by decide +kernel) rfl ?_
      refine k_Rd_isHere (idx := 90) 72 C E (by decide +kernel) rfl q_426 (zb2 rfl rfl) (Nat.le_of_ble_eq_true rfl) hf (fun r6 σ5 hf => ?_)
      refine zr_if_eq (off := 8) 80 75 C (by decide +kernel) (by decide) rfl hf (fun hf => ?_) (fun hf => ?_)
      · refine zr_aload_n 0 81 C (by decide +kernel) rfl rfl ?_
        refine xr_str4 83 C E (by decide +kernel) rfl ?_
        refine k_Rd_isHere (idx := 90) 86 C E (by decide +kernel) rfl q_426 (zb2 rfl rfl) (Nat.le_of_ble_eq_true rfl) hf (fun r8 σ7 hf => ?_)
        refine zr_if_eq (off := 8) 94 89 C (by decide +kernel) (by decide) rfl hf (fun hf => ?_) (fun hf => ?_)
        · refine zr_aload_n 0 95 C (by decide +kernel) rfl rfl ?_
          refine xr_str5 97 C E (by decide +kernel) rfl ?_
          refine k_Rd_isHere (idx := 90) 100 C E (by decide +kernel) rfl q_426 (zb2 rfl rfl) (Nat.le_of_ble_eq_true rfl) hf (fun r10 σ9 hf => ?_)
          refine zr_if_eq (off := 8) 108 103 C (by decide +kernel) (by decide) rfl hf (fun hf => ?_) (fun hf => ?_)
          · refine zr_aload_n 0 109 C (by decide +kernel) rfl rfl ?_
            refine xr_str6 111 C E (by decide +kernel) rfl ?_
            refine k_Rd_isHere (idx := 90) 114 C E (by decide +kernel) rfl q_426 (zb2 rfl rfl) (Nat.le_of_ble_eq_true rfl) hf (fun r12 σ11 hf => ?_)
            refine zr_if_eq (off := 8) 122 117 C (by decide +kernel) (by decide) rfl hf (fun hf => ?_) (fun hf => ?_)
            · refine zr_aload_n 0 123 C (by decide +kernel) rfl rfl ?_
              refine xr_str7 125 C E (by decide +kernel) rfl ?_
              refine k_Rd_isHere (idx := 90) 128 C E (by decide +kernel) rfl q_426 (zb2 rfl rfl) (Nat.le_of_ble_eq_true rfl) hf (fun r14 σ13 hf => ?_)
              refine zr_if_eq (off := 8) 136 131 C (by decide +kernel) (by decide) rfl hf (fun hf => ?_) (fun hf => ?_)
              · refine zr_aload_n 0 137 C (by decide +kernel) rfl rfl ?_
                refine xr_str8 139 C E (by decide +kernel) rfl ?_
                refine k_Rd_isHere (idx := 90) 142 C E (by decide +kernel) rfl q_426 (zb2 rfl rfl) (Nat.le_of_ble_eq_true rfl) hf (fun r16 σ15 hf => ?_)
                refine zr_if_eq (off := 8) 150 145 C (by decide +kernel) (by decide) rfl hf (fun hf => ?_) (fun hf => ?_)
                · refine zr_aload_n 0 151 C (by decide +kernel) rfl rfl ?_
                  refine xr_str9 153 C E (by decide +kernel) rfl ?_
                  refine k_Rd_isHere (idx := 90) 156 C E (by decide +kernel) rfl q_426 (zb2 rfl rfl) (Nat.le_of_ble_eq_true rfl) hf (fun r18 σ17 hf => ?_)
                  refine zr_if_eq (off := 8) 164 159 C (by decide +kernel) (by decide) rfl hf (fun hf => ?_) (fun hf => ?_)
                  · refine zr_aload_n 0 165 C (by decide +kernel) rfl rfl ?_
                    refine xr_str10 167 C E (by decide +kernel) rfl ?_
                    refine k_Rd_isHere (idx := 90) 170 C E (by decide +kernel) rfl q_426 (zb2 rfl rfl) (Nat.le_of_ble_eq_true rfl) hf (fun r20 σ19 hf => ?_)
                    refine zr_if_eq (off := 8) 178 173 C (by decide +kernel) (by decide) rfl hf (fun hf => ?_) (fun hf => ?_)
                    · refine zr_aload_n 0 179 C (by decide +kernel) rfl rfl ?_
                      refine xr_str11 181 C E (by decide +kernel) rfl ?_
                      refine k_Rd_isHere (idx := 90) 184 C E (by decide +kernel) rfl q_426 (zb2 rfl rfl) (Nat.le_of_ble_eq_true rfl) hf (fun r22 σ21 hf => ?_)
                      refine zr_if_eq (off := 8) 192 187 C (by decide +kernel) (by decide) rfl hf (fun hf => ?_) (fun hf => ?_)
                      · refine zr_iconst (v := 1) 1 193 C (by decide +kernel) rfl rfl ?_
                        refine zr_less (zN zE) ?_
                        exact w_Rd_takeWord_193 C T E _ _ hf
                      · refine zr_bipush (v := 22) 22 189 C (by decide +kernel) rfl rfl ?_
                        refine zr_goto (off := 4) 193 C (by decide +kernel) (by decide) ?_
                        refine zr_less (zN zE) ?_
                        exact w_Rd_takeWord_193 C T E _ _ hf
                    · refine zr_bipush (v := 21) 21 175 C (by decide +kernel) rfl rfl ?_
                      refine zr_goto (off := 18) 193 C (by decide +kernel) (by decide) ?_
                      refine zr_less (zN zE) ?_
                      exact w_Rd_takeWord_193 C T E _ _ hf
                  · refine zr_bipush (v := 20) 20 161 C (by decide +kernel) rfl rfl ?_
                    refine zr_goto (off := 32) 193 C (by decide +kernel) (by decide) ?_
                    refine zr_less (zN zE) ?_
                    exact w_Rd_takeWord_193 C T E _ _ hf
                · refine zr_bipush (v := 19) 19 147 C (by decide +kernel) rfl rfl ?_
                  refine zr_goto (off := 46) 193 C (by decide +kernel) (by decide) ?_
                  refine zr_less (zN zE) ?_
                  exact w_Rd_takeWord_193 C T E _ _ hf
              · refine zr_bipush (v := 18) 18 133 C (by decide +kernel) rfl rfl ?_
                refine zr_goto (off := 60) 193 C (by decide +kernel) (by decide) ?_
                refine zr_less (zN zE) ?_
                exact w_Rd_takeWord_193 C T E _ _ hf
            · refine zr_bipush (v := 17) 17 119 C (by decide +kernel) rfl rfl ?_
              refine zr_goto (off := 74) 193 C (by decide +kernel) (by decide) ?_
              refine zr_less (zN zE) ?_
              exact w_Rd_takeWord_193 C T E _ _ hf
          · refine zr_bipush (v := 15) 15 105 C (by decide +kernel) rfl rfl ?_
            refine zr_goto (off := 88) 193 C (by decide +kernel) (by decide) ?_
            refine zr_less (zN zE) ?_
            exact w_Rd_takeWord_193 C T E _ _ hf
        · refine zr_bipush (v := 9) 9 91 C (by decide +kernel) rfl rfl ?_
          refine zr_goto (off := 102) 193 C (by decide +kernel) (by decide) ?_
          refine zr_less (zN zE) ?_
          exact w_Rd_takeWord_193 C T E _ _ hf
      · refine zr_bipush (v := 8) 8 77 C (by decide +kernel) rfl rfl ?_
        refine zr_goto (off := 116) 193 C (by decide +kernel) (by decide) ?_
        refine zr_less (zN zE) ?_
        exact w_Rd_takeWord_193 C T E _ _ hf
    · refine zr_iconst (v := 4) 4 63 C (by decide +kernel) rfl rfl ?_
      refine zr_goto (off := 130) 193 C (by decide +kernel) (by decide) ?_
      refine zr_less (zN zE) ?_
      exact w_Rd_takeWord_193 C T E _ _ hf
  · refine zr_iconst (v := 3) 3 50 C (by decide +kernel) rfl rfl ?_
    refine zr_goto (off := 143) 193 C (by decide +kernel) (by decide) ?_
    refine zr_less (zN zE) ?_
    exact w_Rd_takeWord_193 C T E _ _ hf
def f_Rd_takeWord_0b (k0 : zS → Option (Int32 × zS))  (σ : zS) : Option (Int32 × zS) :=
  (if (σ.1 102) ≤ (σ.1 106) then
  f_Rd_takeWord_39 σ
  else
  zin (σ.1 106) 160 (zbd (f_Rd_isLetter (σ.2 15 (σ.1 106).toNatClampNeg) σ) fun r2 σ1 =>
  (if r2 = 0 then
  f_Rd_takeWord_39 σ1
  else
  zlt (zsg σ1 106 ((σ1.1 106) + 1)) fun σ3 =>
  k0 σ3)))
set_option maxRecDepth 4000 in
theorem w_Rd_takeWord_0b {l : Launch} {d : zD} {F : zF} {h : Nat → Nat} {out : Int32 × zS} {ad av : Nat → Nat}  {k0 : zS → Option (Int32 × zS)} (C : zOk d F RX4 cX4_takeWord 1 6 222) (T : zRt d F none none (XW d h out.2)) (E : zXe d ad av) (H0 : ∀  (σ : zS), k0  σ = some out → V l d F 0 0 (XW d h σ) [some (.ref (h 1))] 0 [])  (σ : zS) (hf : f_Rd_takeWord_0b k0  σ = some out) : V l d F 0 0 (XW d h σ) [some (.ref (h 1))] 0 [] := by
  unfold f_Rd_takeWord_0b at hf
  refine zr_aload_n 0 1 C (by decide +kernel) rfl rfl ?_
  refine xg_1_6 (idx := 28) 4 C (by decide +kernel) rfl q_116 ?_
  refine zr_aload_n 0 5 C (by decide +kernel) rfl rfl ?_
  refine xg_1_2 (idx := 18) 8 C (by decide +kernel) rfl q_108 ?_
  refine zr_icmp_ge (off := 31) 39 11 C (by decide +kernel) (by decide) rfl hf (fun hf => ?_) (fun hf => ?_)
  · exact w_Rd_takeWord_39 C T E _ hf
  · refine zr_aload_n 0 12 C (by decide +kernel) rfl rfl ?_
    refine xg_1_0 (idx := 9) 15 C (by decide +kernel) rfl q_105 ?_
    refine zr_aload_n 0 16 C (by decide +kernel) rfl rfl ?_
    refine xg_1_6 (idx := 28) 19 C (by decide +kernel) rfl q_116 ?_
    refine xl_15 20 C (by decide +kernel) rfl hf (fun hf => ?_)
    refine k_Rd_isLetter (idx := 72) 23 C E (by decide +kernel) rfl q_418 (zb2 rfl rfl) (Nat.le_of_ble_eq_true rfl) hf (fun r2 σ1 hf => ?_)
    refine zr_if_eq (off := 16) 39 26 C (by decide +kernel) (by decide) rfl hf (fun hf => ?_) (fun hf => ?_)
    · exact w_Rd_takeWord_39 C T E _ hf
    · refine zr_aload_n 0 27 C (by decide +kernel) rfl rfl ?_
      refine zr_dup 28 C (by decide +kernel) rfl rfl ?_
      refine xg_1_6 (idx := 28) 31 C (by decide +kernel) rfl q_116 ?_
      refine zr_iconst (v := 1) 1 32 C (by decide +kernel) rfl rfl ?_
      refine zr_iadd 33 C (by decide +kernel) rfl ?_
      refine xp_1_6 (idx := 28) 36 C (by decide +kernel) rfl q_116 hf (fun σ3 hf => ?_)
      refine zr_goto (off := -36) 0 C (by decide +kernel) (by decide) ?_
      exact H0 _ hf
def f_Rd_takeWord_0  : Nat → zS → Option (Int32 × zS)
  | 0, _ => none
  | n + 1,  σ => f_Rd_takeWord_0b (fun  σ => f_Rd_takeWord_0  n  σ)  σ
theorem w_Rd_takeWord_0 {l : Launch} {d : zD} {F : zF} {h : Nat → Nat} {out : Int32 × zS} {ad av : Nat → Nat}   (C : zOk d F RX4 cX4_takeWord 1 6 222) (T : zRt d F none none (XW d h out.2)) (E : zXe d ad av)  : ∀ (n : Nat)  (σ : zS), f_Rd_takeWord_0  n  σ = some out → V l d F 0 0 (XW d h σ) [some (.ref (h 1))] 0 [] := by
  intro n
  induction n with
  | zero =>
    intro  σ hf
    cases hf
  | succ n ih =>
    intro  σ hf
    exact w_Rd_takeWord_0b C T E ih  σ hf
def f_Rd_takeWord  (σ : zS) : Option (Int32 × zS) :=
  f_Rd_takeWord_0 zfu σ
set_option maxRecDepth 4000 in
theorem m_Rd_takeWord {l : Launch} {d : zD} {h : Nat → Nat} {out : Int32 × zS} {σ : zS} {ad av : Nat → Nat}  (E : zXe d ad av) (hf : f_Rd_takeWord  σ = some out) : zM l yX4_takeWord cX4_takeWord 1 none 6 222 d [.ref (h 1)] (XW d h σ) (XW d h out.2) none := by
  refine zM_of [some (.ref (h 1))] (by decide +kernel) rfl (Nat.le_of_ble_eq_true rfl) (fun F C T => ?_)
  unfold f_Rd_takeWord at hf
  exact w_Rd_takeWord_0 C T E zfu _ hf
theorem y_Rd_takeWord : zY yX4_takeWord cX4_takeWord 1 none 0 := ⟨q_424, q_73, by decide +kernel, by decide +kernel, by decide +kernel⟩
theorem k_Rd_takeWord {l : Launch} {d : zD} {F : zF} {h : Nat → Nat} {σ : zS} {lv : List (Option Value)} {pc : Nat} {own : String} {cc : ByteArray} {nL fr lo idx : Nat} {rest : List Value} {β : Type} {kf : Int32 → zS → Option β} {o2 : β} {ad av : Nat → Nat}   (pc' : Nat) (C : zOk d F own cc nL fr lo) (E : zXe d ad av) (hd : decode cc pc = .ok (.invokevirtual idx, 3)) (hp : pc + 3 = pc') (hq : Cond.methodLink own idx yX4_takeWord ∈ zW) (hm : 6 + 1 ≤ fr ∧ 8 + (1 + 11) + 222 ≤ lo) (hr : (rest.map fun v => v.category).sum ≤ 8) (hf : zbd (f_Rd_takeWord  σ) kf = some o2) (K : ∀ (r : Int32) (σ' : zS), kf r σ' = some o2 → V l d F 0 0 (XW d h σ') lv pc' (rest)) : V l d F 0 0 (XW d h σ) lv pc (.ref (h 1) :: rest) := by
  obtain ⟨q, h1, h2⟩ := zbd_some hf
  exact zr_callV y_Rd_takeWord ⟨q_423, q_1⟩ 1 rfl rfl (As := []) (m_Rd_takeWord E h1) rfl rfl pc' C hd hp hq hm hr (K _ _ h2)
/-! StepsBeyond$Reader.next()V -/
def f_Rd_next_60   (σ : zS) : Option (Int32 × zS) :=
  zlt (zsg σ 106 (σ.1 105)) fun σ1 =>
  (if (σ1.1 105) < (σ1.1 102) then
  zin (σ1.1 105) 160 (zbd (f_Rd_isLetter (σ1.2 15 (σ1.1 105).toNatClampNeg) σ1) fun r3 σ2 =>
  (if r3 = 0 then
  zin (σ2.1 105) 160 (zbd (f_Rd_isDigit (σ2.2 15 (σ2.1 105).toNatClampNeg) σ2) fun r5 σ4 =>
  (if r5 = 0 then
  zlt (zsg σ4 106 ((σ4.1 105) + 1)) fun σ6 =>
  zin (σ6.1 105) 160 (zbd (f_Rd_signOf (σ6.2 15 (σ6.1 105).toNatClampNeg) σ6) fun r8 σ7 =>
  zlt (zsg σ7 107 r8) fun σ9 =>
  some (0, σ9))
  else
  zbd (f_Rd_takeNumber  σ4) fun _ σ10 =>
  some (0, σ10)))
  else
  zbd (f_Rd_takeWord  σ2) fun _ σ11 =>
  some (0, σ11)))
  else
  zlt (zsg σ1 107 0) fun σ12 =>
  some (0, σ12))
set_option maxRecDepth 4000 in
theorem w_Rd_next_60 {l : Launch} {d : zD} {F : zF} {h : Nat → Nat} {out : Int32 × zS} {ad av : Nat → Nat}   (C : zOk d F RX4 cX4_next 1 7 242) (T : zRt d F none none (XW d h out.2)) (E : zXe d ad av)   (σ : zS) (hf : f_Rd_next_60   σ = some out) : V l d F 0 0 (XW d h σ) [some (.ref (h 1))] 60 [] := by
  unfold f_Rd_next_60 at hf
  refine zr_aload_n 0 61 C (by decide +kernel) rfl rfl ?_
  refine zr_aload_n 0 62 C (by decide +kernel) rfl rfl ?_
  refine xg_1_5 (idx := 69) 65 C (by decide +kernel) rfl q_115 ?_
  refine xp_1_6 (idx := 28) 68 C (by decide +kernel) rfl q_116 hf (fun σ1 hf => ?_)
  refine zr_aload_n 0 69 C (by decide +kernel) rfl rfl ?_
  refine xg_1_5 (idx := 69) 72 C (by decide +kernel) rfl q_115 ?_
  refine zr_aload_n 0 73 C (by decide +kernel) rfl rfl ?_
  refine xg_1_2 (idx := 18) 76 C (by decide +kernel) rfl q_108 ?_
  refine zr_icmp_lt (off := 11) 87 79 C (by decide +kernel) (by decide) rfl hf (fun hf => ?_) (fun hf => ?_)
  · refine zr_aload_n 0 88 C (by decide +kernel) rfl rfl ?_
    refine xg_1_0 (idx := 9) 91 C (by decide +kernel) rfl q_105 ?_
    refine zr_aload_n 0 92 C (by decide +kernel) rfl rfl ?_
    refine xg_1_5 (idx := 69) 95 C (by decide +kernel) rfl q_115 ?_
    refine xl_15 96 C (by decide +kernel) rfl hf (fun hf => ?_)
    refine k_Rd_isLetter (idx := 72) 99 C E (by decide +kernel) rfl q_418 (zb2 rfl rfl) (Nat.le_of_ble_eq_true rfl) hf (fun r3 σ2 hf => ?_)
    refine zr_if_eq (off := 10) 109 102 C (by decide +kernel) (by decide) rfl hf (fun hf => ?_) (fun hf => ?_)
    · refine zr_aload_n 0 110 C (by decide +kernel) rfl rfl ?_
      refine xg_1_0 (idx := 9) 113 C (by decide +kernel) rfl q_105 ?_
      refine zr_aload_n 0 114 C (by decide +kernel) rfl rfl ?_
      refine xg_1_5 (idx := 69) 117 C (by decide +kernel) rfl q_115 ?_
      refine xl_15 118 C (by decide +kernel) rfl hf (fun hf => ?_)
      refine k_Rd_isDigit (idx := 78) 121 C E (by decide +kernel) rfl q_442 (zb2 rfl rfl) (Nat.le_of_ble_eq_true rfl) hf (fun r5 σ4 hf => ?_)
      refine zr_if_eq (off := 10) 131 124 C (by decide +kernel) (by decide) rfl hf (fun hf => ?_) (fun hf => ?_)
      · refine zr_aload_n 0 132 C (by decide +kernel) rfl rfl ?_
        refine zr_aload_n 0 133 C (by decide +kernel) rfl rfl ?_
        refine xg_1_5 (idx := 69) 136 C (by decide +kernel) rfl q_115 ?_
        refine zr_iconst (v := 1) 1 137 C (by decide +kernel) rfl rfl ?_
        refine zr_iadd 138 C (by decide +kernel) rfl ?_
        refine xp_1_6 (idx := 28) 141 C (by decide +kernel) rfl q_116 hf (fun σ6 hf => ?_)
        refine zr_aload_n 0 142 C (by decide +kernel) rfl rfl ?_
        refine zr_aload_n 0 143 C (by decide +kernel) rfl rfl ?_
        refine xg_1_0 (idx := 9) 146 C (by decide +kernel) rfl q_105 ?_
        refine zr_aload_n 0 147 C (by decide +kernel) rfl rfl ?_
        refine xg_1_5 (idx := 69) 150 C (by decide +kernel) rfl q_115 ?_
        refine xl_15 151 C (by decide +kernel) rfl hf (fun hf => ?_)
        refine k_Rd_signOf (idx := 84) 154 C E (by decide +kernel) rfl q_449 (zb2 rfl rfl) (Nat.le_of_ble_eq_true rfl) hf (fun r8 σ7 hf => ?_)
        refine xp_1_7 (idx := 41) 157 C (by decide +kernel) rfl q_117 hf (fun σ9 hf => ?_)
        obtain rfl := Option.some.inj hf
        exact zr_vret C (by decide +kernel) T
      · refine zr_aload_n 0 125 C (by decide +kernel) rfl rfl ?_
        refine k_Rd_takeNumber (idx := 81) 128 C E (by decide +kernel) rfl q_445 (zb2 rfl rfl) (Nat.le_of_ble_eq_true rfl) hf (fun _ σ10 hf => ?_)
        refine zr_goto (off := 29) 157 C (by decide +kernel) (by decide) ?_
        obtain rfl := Option.some.inj hf
        exact zr_vret C (by decide +kernel) T
    · refine zr_aload_n 0 103 C (by decide +kernel) rfl rfl ?_
      refine k_Rd_takeWord (idx := 75) 106 C E (by decide +kernel) rfl q_421 (zb2 rfl rfl) (Nat.le_of_ble_eq_true rfl) hf (fun _ σ11 hf => ?_)
      refine zr_goto (off := 51) 157 C (by decide +kernel) (by decide) ?_
      obtain rfl := Option.some.inj hf
      exact zr_vret C (by decide +kernel) T
  · refine zr_aload_n 0 80 C (by decide +kernel) rfl rfl ?_
    refine zr_iconst (v := 0) 0 81 C (by decide +kernel) rfl rfl ?_
    refine xp_1_7 (idx := 41) 84 C (by decide +kernel) rfl q_117 hf (fun σ12 hf => ?_)
    refine zr_goto (off := 73) 157 C (by decide +kernel) (by decide) ?_
    obtain rfl := Option.some.inj hf
    exact zr_vret C (by decide +kernel) T
def f_Rd_next_47 (k8 : zS → Option (Int32 × zS))  (σ : zS) : Option (Int32 × zS) :=
  zlt (zsg σ 105 ((σ.1 105) + 1)) fun σ1 =>
  k8 σ1
set_option maxRecDepth 4000 in
theorem w_Rd_next_47 {l : Launch} {d : zD} {F : zF} {h : Nat → Nat} {out : Int32 × zS} {ad av : Nat → Nat}  {k8 : zS → Option (Int32 × zS)} (C : zOk d F RX4 cX4_next 1 7 242) (T : zRt d F none none (XW d h out.2)) (E : zXe d ad av) (H8 : ∀  (σ : zS), k8  σ = some out → V l d F 0 0 (XW d h σ) [some (.ref (h 1))] 8 [])  (σ : zS) (hf : f_Rd_next_47 k8  σ = some out) : V l d F 0 0 (XW d h σ) [some (.ref (h 1))] 47 [] := by
  unfold f_Rd_next_47 at hf
  refine zr_aload_n 0 48 C (by decide +kernel) rfl rfl ?_
  refine zr_dup 49 C (by decide +kernel) rfl rfl ?_
  refine xg_1_5 (idx := 69) 52 C (by decide +kernel) rfl q_115 ?_
  refine zr_iconst (v := 1) 1 53 C (by decide +kernel) rfl rfl ?_
  refine zr_iadd 54 C (by decide +kernel) rfl ?_
  refine xp_1_5 (idx := 69) 57 C (by decide +kernel) rfl q_115 hf (fun σ1 hf => ?_)
  refine zr_goto (off := -49) 8 C (by decide +kernel) (by decide) ?_
  exact H8 _ hf
def f_Rd_next_8b (k8 : zS → Option (Int32 × zS))  (σ : zS) : Option (Int32 × zS) :=
  (if (σ.1 102) ≤ (σ.1 105) then
  f_Rd_next_60 σ
  else
  zin (σ.1 105) 160 ((if (σ.2 15 (σ.1 105).toNatClampNeg) = 32 then
  f_Rd_next_47 k8 σ
  else
  zin (σ.1 105) 160 ((if (σ.2 15 (σ.1 105).toNatClampNeg) = 10 then
  f_Rd_next_47 k8 σ
  else
  f_Rd_next_60 σ)))))
set_option maxRecDepth 4000 in
theorem w_Rd_next_8b {l : Launch} {d : zD} {F : zF} {h : Nat → Nat} {out : Int32 × zS} {ad av : Nat → Nat}  {k8 : zS → Option (Int32 × zS)} (C : zOk d F RX4 cX4_next 1 7 242) (T : zRt d F none none (XW d h out.2)) (E : zXe d ad av) (H8 : ∀  (σ : zS), k8  σ = some out → V l d F 0 0 (XW d h σ) [some (.ref (h 1))] 8 [])  (σ : zS) (hf : f_Rd_next_8b k8  σ = some out) : V l d F 0 0 (XW d h σ) [some (.ref (h 1))] 8 [] := by
  unfold f_Rd_next_8b at hf
  refine zr_aload_n 0 9 C (by decide +kernel) rfl rfl ?_
  refine xg_1_5 (idx := 69) 12 C (by decide +kernel) rfl q_115 ?_
  refine zr_aload_n 0 13 C (by decide +kernel) rfl rfl ?_
  refine xg_1_2 (idx := 18) 16 C (by decide +kernel) rfl q_108 ?_
  refine zr_icmp_ge (off := 44) 60 19 C (by decide +kernel) (by decide) rfl hf (fun hf => ?_) (fun hf => ?_)
  · exact w_Rd_next_60 C T E _ hf
  · refine zr_aload_n 0 20 C (by decide +kernel) rfl rfl ?_
    refine xg_1_0 (idx := 9) 23 C (by decide +kernel) rfl q_105 ?_
    refine zr_aload_n 0 24 C (by decide +kernel) rfl rfl ?_
    refine xg_1_5 (idx := 69) 27 C (by decide +kernel) rfl q_115 ?_
    refine xl_15 28 C (by decide +kernel) rfl hf (fun hf => ?_)
    refine zr_bipush (v := 32) 32 30 C (by decide +kernel) rfl rfl ?_
    refine zr_icmp_eq (off := 17) 47 33 C (by decide +kernel) (by decide) rfl hf (fun hf => ?_) (fun hf => ?_)
    · exact w_Rd_next_47 C T E H8 _ hf
    · refine zr_aload_n 0 34 C (by decide +kernel) rfl rfl ?_
      refine xg_1_0 (idx := 9) 37 C (by decide +kernel) rfl q_105 ?_
      refine zr_aload_n 0 38 C (by decide +kernel) rfl rfl ?_
      refine xg_1_5 (idx := 69) 41 C (by decide +kernel) rfl q_115 ?_
      refine xl_15 42 C (by decide +kernel) rfl hf (fun hf => ?_)
      refine zr_bipush (v := 10) 10 44 C (by decide +kernel) rfl rfl ?_
      refine zr_icmp_ne (off := 16) 60 47 C (by decide +kernel) (by decide) rfl hf (fun hf => ?_) (fun hf => ?_)
      · exact w_Rd_next_60 C T E _ hf
      · exact w_Rd_next_47 C T E H8 _ hf
def f_Rd_next_8  : Nat → zS → Option (Int32 × zS)
  | 0, _ => none
  | n + 1,  σ => f_Rd_next_8b (fun  σ => f_Rd_next_8  n  σ)  σ
theorem w_Rd_next_8 {l : Launch} {d : zD} {F : zF} {h : Nat → Nat} {out : Int32 × zS} {ad av : Nat → Nat}   (C : zOk d F RX4 cX4_next 1 7 242) (T : zRt d F none none (XW d h out.2)) (E : zXe d ad av)  : ∀ (n : Nat)  (σ : zS), f_Rd_next_8  n  σ = some out → V l d F 0 0 (XW d h σ) [some (.ref (h 1))] 8 [] := by
  intro n
  induction n with
  | zero =>
    intro  σ hf
    cases hf
  | succ n ih =>
    intro  σ hf
    exact w_Rd_next_8b C T E ih  σ hf
def f_Rd_next  (σ : zS) : Option (Int32 × zS) :=
  zlt (zsg σ 105 (σ.1 106)) fun σ1 =>
  f_Rd_next_8 zfu σ1
set_option maxRecDepth 4000 in
theorem m_Rd_next {l : Launch} {d : zD} {h : Nat → Nat} {out : Int32 × zS} {σ : zS} {ad av : Nat → Nat}  (E : zXe d ad av) (hf : f_Rd_next  σ = some out) : zM l yX4_next cX4_next 1 none 7 242 d [.ref (h 1)] (XW d h σ) (XW d h out.2) none := by
  refine zM_of [some (.ref (h 1))] (by decide +kernel) rfl (Nat.le_of_ble_eq_true rfl) (fun F C T => ?_)
  unfold f_Rd_next at hf
  refine zr_aload_n 0 1 C (by decide +kernel) rfl rfl ?_
  refine zr_aload_n 0 2 C (by decide +kernel) rfl rfl ?_
  refine xg_1_6 (idx := 28) 5 C (by decide +kernel) rfl q_116 ?_
  refine xp_1_5 (idx := 69) 8 C (by decide +kernel) rfl q_115 hf (fun σ1 hf => ?_)
  exact w_Rd_next_8 C T E zfu _ hf
theorem y_Rd_next : zY yX4_next cX4_next 1 none 0 := ⟨q_417, q_73, by decide +kernel, by decide +kernel, by decide +kernel⟩
theorem k_Rd_next {l : Launch} {d : zD} {F : zF} {h : Nat → Nat} {σ : zS} {lv : List (Option Value)} {pc : Nat} {own : String} {cc : ByteArray} {nL fr lo idx : Nat} {rest : List Value} {β : Type} {kf : Int32 → zS → Option β} {o2 : β} {ad av : Nat → Nat}   (pc' : Nat) (C : zOk d F own cc nL fr lo) (E : zXe d ad av) (hd : decode cc pc = .ok (.invokevirtual idx, 3)) (hp : pc + 3 = pc') (hq : Cond.methodLink own idx yX4_next ∈ zW) (hm : 7 + 1 ≤ fr ∧ 8 + (1 + 11) + 242 ≤ lo) (hr : (rest.map fun v => v.category).sum ≤ 8) (hf : zbd (f_Rd_next  σ) kf = some o2) (K : ∀ (r : Int32) (σ' : zS), kf r σ' = some o2 → V l d F 0 0 (XW d h σ') lv pc' (rest)) : V l d F 0 0 (XW d h σ) lv pc (.ref (h 1) :: rest) := by
  obtain ⟨q, h1, h2⟩ := zbd_some hf
  exact zr_callV y_Rd_next ⟨q_416, q_0⟩ 1 rfl rfl (As := []) (m_Rd_next E h1) rfl rfl pc' C hd hp hq hm hr (K _ _ h2)
/-! StepsBeyond$Reader.pass(I)Z -/
def f_Rd_pass (p1 : Int32) (σ : zS) : Option (Int32 × zS) :=
  (if (σ.1 107) = p1 then
  zbd (f_Rd_next  σ) fun _ σ1 =>
  some (1, σ1)
  else
  some (0, σ))
set_option maxRecDepth 4000 in
theorem m_Rd_pass {l : Launch} {d : zD} {h : Nat → Nat} {out : Int32 × zS} {σ : zS} {ad av : Nat → Nat} {p1 : Int32} (E : zXe d ad av) (hf : f_Rd_pass p1 σ = some out) : zM l yX4_pass cX4_pass 2 (some .boolean) 8 262 d [.ref (h 1), .int p1] (XW d h σ) (XW d h out.2) (some (.int out.1)) := by
  refine zM_of [some (.ref (h 1)), some (.int p1)] (by decide +kernel) rfl (Nat.le_of_ble_eq_true rfl) (fun F C T => ?_)
  unfold f_Rd_pass at hf
  refine zr_aload_n 0 1 C (by decide +kernel) rfl rfl ?_
  refine xg_1_7 (idx := 41) 4 C (by decide +kernel) rfl q_117 ?_
  refine zr_iload_n 1 5 C (by decide +kernel) rfl rfl ?_
  refine zr_icmp_eq (off := 5) 10 8 C (by decide +kernel) (by decide) rfl hf (fun hf => ?_) (fun hf => ?_)
  · refine zr_aload_n 0 11 C (by decide +kernel) rfl rfl ?_
    refine k_Rd_next (idx := 31) 14 C E (by decide +kernel) rfl q_414 (zb2 rfl rfl) (Nat.le_of_ble_eq_true rfl) hf (fun _ σ1 hf => ?_)
    refine zr_iconst (v := 1) 1 15 C (by decide +kernel) rfl rfl ?_
    obtain rfl := Option.some.inj hf
    exact zr_zret C (by decide +kernel) rfl T
  · refine zr_iconst (v := 0) 0 9 C (by decide +kernel) rfl rfl ?_
    obtain rfl := Option.some.inj hf
    exact zr_zret C (by decide +kernel) rfl T
theorem y_Rd_pass : zY yX4_pass cX4_pass 2 (some .boolean) 1 := ⟨q_455, q_73, by decide +kernel, by decide +kernel, by decide +kernel⟩
theorem k_Rd_pass {l : Launch} {d : zD} {F : zF} {h : Nat → Nat} {σ : zS} {lv : List (Option Value)} {pc : Nat} {own : String} {cc : ByteArray} {nL fr lo idx : Nat} {rest : List Value} {β : Type} {kf : Int32 → zS → Option β} {o2 : β} {ad av : Nat → Nat}  {p1 : Int32} (pc' : Nat) (C : zOk d F own cc nL fr lo) (E : zXe d ad av) (hd : decode cc pc = .ok (.invokevirtual idx, 3)) (hp : pc + 3 = pc') (hq : Cond.methodLink own idx yX4_pass ∈ zW) (hm : 8 + 1 ≤ fr ∧ 8 + (2 + 11) + 262 ≤ lo) (hr : (rest.map fun v => v.category).sum ≤ 8) (hf : zbd (f_Rd_pass p1 σ) kf = some o2) (K : ∀ (r : Int32) (σ' : zS), kf r σ' = some o2 → V l d F 0 0 (XW d h σ') lv pc' (.int r :: rest)) : V l d F 0 0 (XW d h σ) lv pc (.int p1 :: .ref (h 1) :: rest) := by
  obtain ⟨q, h1, h2⟩ := zbd_some hf
  exact zr_callV y_Rd_pass ⟨q_454, q_4⟩ 1 rfl rfl (As := [.int p1]) (m_Rd_pass E h1) rfl rfl pc' C hd hp hq hm hr (K _ _ h2)
/-! StepsBeyond$Reader.readOne(I)Z -/
def f_Rd_readOne (rOr rNot rOne : Int32 → zS → Option (Int32 × zS)) (p1 : Int32) (σ : zS) : Option (Int32 × zS) :=
  (if (σ.1 107) = 2 then
  zbd (f_Rd_write (σ.1 108) σ) fun _ σ13 =>
  zbd (f_Rd_next  σ13) fun _ σ14 =>
  some (1, σ14)
  else
  (if (σ.1 107) < 17 then
  (if p1 < 5 then
  (if (σ.1 107) = 13 then
  zbd (f_Rd_next  σ) fun _ σ7 =>
  zbd (rOne (p1 + 1) σ7) fun r9 σ8 =>
  (if r9 = 0 then
  some (0, σ8)
  else
  zbd (f_Rd_write (-16) σ8) fun _ σ10 =>
  some (1, σ10))
  else
  zbd (f_Rd_pass 5 σ) fun r2 σ1 =>
  (if r2 = 0 then
  some (0, σ1)
  else
  zbd (rOr (p1 + 1) σ1) fun r4 σ3 =>
  (if r4 = 0 then
  some (0, σ3)
  else
  zbd (f_Rd_pass 6 σ3) fun r6 σ5 =>
  (if r6 = 0 then
  some (0, σ5)
  else
  some (1, σ5)))))
  else
  some (0, σ))
  else
  zbd (f_Rd_write (-(σ.1 107)) σ) fun _ σ11 =>
  zbd (f_Rd_next  σ11) fun _ σ12 =>
  some (1, σ12)))
set_option maxRecDepth 4000 in
theorem m_Rd_readOne {l : Launch} {d : zD} {h : Nat → Nat} {out : Int32 × zS} {σ : zS} {ad av : Nat → Nat} {rOr rNot rOne : Int32 → zS → Option (Int32 × zS)} {fd ld : Nat} {p1 : Int32} (E : zXe d ad av) (hR : zRec l d h rOr rNot rOne fd ld) {fr lo : Nat} (h1 : (fd + 9) ≤ fr) (h2 : (ld + 283) ≤ lo) (hf : f_Rd_readOne rOr rNot rOne p1 σ = some out) : zM l yX4_readOne cX4_readOne 2 (some .boolean) fr lo d [.ref (h 1), .int p1] (XW d h σ) (XW d h out.2) (some (.int out.1)) := by
  refine zM_of [some (.ref (h 1)), some (.int p1)] (by decide +kernel) rfl (Nat.le_of_ble_eq_true rfl) (fun F C T => ?_)
  have C := zOk_le h1 h2 C
  unfold f_Rd_readOne at hf
  refine zr_aload_n 0 1 C (by decide +kernel) rfl rfl ?_
  refine xg_1_7 (idx := 41) 4 C (by decide +kernel) rfl q_117 ?_
  refine zr_iconst (v := 2) 2 5 C (by decide +kernel) rfl rfl ?_
  refine zr_icmp_ne (off := 17) 22 8 C (by decide +kernel) (by decide) rfl hf (fun hf => ?_) (fun hf => ?_)
  · refine zr_aload_n 0 23 C (by decide +kernel) rfl rfl ?_
    refine xg_1_7 (idx := 41) 26 C (by decide +kernel) rfl q_117 ?_
    refine zr_bipush (v := 17) 17 28 C (by decide +kernel) rfl rfl ?_
    refine zr_icmp_lt (off := 18) 46 31 C (by decide +kernel) (by decide) rfl hf (fun hf => ?_) (fun hf => ?_)
    · refine zr_iload_n 1 47 C (by decide +kernel) rfl rfl ?_
      refine zr_iconst (v := 5) 5 48 C (by decide +kernel) rfl rfl ?_
      refine zr_icmp_lt (off := 5) 53 51 C (by decide +kernel) (by decide) rfl hf (fun hf => ?_) (fun hf => ?_)
      · refine zr_aload_n 0 54 C (by decide +kernel) rfl rfl ?_
        refine xg_1_7 (idx := 41) 57 C (by decide +kernel) rfl q_117 ?_
        refine zr_bipush (v := 13) 13 59 C (by decide +kernel) rfl rfl ?_
        refine zr_icmp_ne (off := 27) 86 62 C (by decide +kernel) (by decide) rfl hf (fun hf => ?_) (fun hf => ?_)
        · refine zr_aload_n 0 87 C (by decide +kernel) rfl rfl ?_
          refine zr_iconst (v := 5) 5 88 C (by decide +kernel) rfl rfl ?_
          refine k_Rd_pass (idx := 34) 91 C E (by decide +kernel) rfl q_452 ⟨by omega, by omega⟩ (Nat.le_of_ble_eq_true rfl) hf (fun r2 σ1 hf => ?_)
          refine zr_if_eq (off := 26) 117 94 C (by decide +kernel) (by decide) rfl hf (fun hf => ?_) (fun hf => ?_)
          · refine zr_iconst (v := 0) 0 118 C (by decide +kernel) rfl rfl ?_
            obtain rfl := Option.some.inj hf
            exact zr_zret C (by decide +kernel) rfl T
          · refine zr_aload_n 0 95 C (by decide +kernel) rfl rfl ?_
            refine zr_iload_n 1 96 C (by decide +kernel) rfl rfl ?_
            refine zr_iconst (v := 1) 1 97 C (by decide +kernel) rfl rfl ?_
            refine zr_iadd 98 C (by decide +kernel) rfl ?_
            refine krOr (idx := 38) hR 101 C (by decide +kernel) rfl q_456 ⟨by omega, by omega⟩ (Nat.le_of_ble_eq_true rfl) hf (fun r4 σ3 hf => ?_)
            refine zr_if_eq (off := 16) 117 104 C (by decide +kernel) (by decide) rfl hf (fun hf => ?_) (fun hf => ?_)
            · refine zr_iconst (v := 0) 0 118 C (by decide +kernel) rfl rfl ?_
              obtain rfl := Option.some.inj hf
              exact zr_zret C (by decide +kernel) rfl T
            · refine zr_aload_n 0 105 C (by decide +kernel) rfl rfl ?_
              refine zr_bipush (v := 6) 6 107 C (by decide +kernel) rfl rfl ?_
              refine k_Rd_pass (idx := 34) 110 C E (by decide +kernel) rfl q_452 ⟨by omega, by omega⟩ (Nat.le_of_ble_eq_true rfl) hf (fun r6 σ5 hf => ?_)
              refine zr_if_eq (off := 7) 117 113 C (by decide +kernel) (by decide) rfl hf (fun hf => ?_) (fun hf => ?_)
              · refine zr_iconst (v := 0) 0 118 C (by decide +kernel) rfl rfl ?_
                obtain rfl := Option.some.inj hf
                exact zr_zret C (by decide +kernel) rfl T
              · refine zr_iconst (v := 1) 1 114 C (by decide +kernel) rfl rfl ?_
                refine zr_goto (off := 4) 118 C (by decide +kernel) (by decide) ?_
                obtain rfl := Option.some.inj hf
                exact zr_zret C (by decide +kernel) rfl T
        · refine zr_aload_n 0 63 C (by decide +kernel) rfl rfl ?_
          refine k_Rd_next (idx := 31) 66 C E (by decide +kernel) rfl q_414 ⟨by omega, by omega⟩ (Nat.le_of_ble_eq_true rfl) hf (fun _ σ7 hf => ?_)
          refine zr_aload_n 0 67 C (by decide +kernel) rfl rfl ?_
          refine zr_iload_n 1 68 C (by decide +kernel) rfl rfl ?_
          refine zr_iconst (v := 1) 1 69 C (by decide +kernel) rfl rfl ?_
          refine zr_iadd 70 C (by decide +kernel) rfl ?_
          refine krOne (idx := 63) hR 73 C (by decide +kernel) rfl q_480 ⟨by omega, by omega⟩ (Nat.le_of_ble_eq_true rfl) hf (fun r9 σ8 hf => ?_)
          refine zr_if_ne (off := 5) 78 76 C (by decide +kernel) (by decide) rfl hf (fun hf => ?_) (fun hf => ?_)
          · refine zr_aload_n 0 79 C (by decide +kernel) rfl rfl ?_
            refine zr_bipush (v := (-16)) (-16) 81 C (by decide +kernel) rfl rfl ?_
            refine k_Rd_write (idx := 47) 84 C E (by decide +kernel) rfl q_484 ⟨by omega, by omega⟩ (Nat.le_of_ble_eq_true rfl) hf (fun _ σ10 hf => ?_)
            refine zr_iconst (v := 1) 1 85 C (by decide +kernel) rfl rfl ?_
            obtain rfl := Option.some.inj hf
            exact zr_zret C (by decide +kernel) rfl T
          · refine zr_iconst (v := 0) 0 77 C (by decide +kernel) rfl rfl ?_
            obtain rfl := Option.some.inj hf
            exact zr_zret C (by decide +kernel) rfl T
      · refine zr_iconst (v := 0) 0 52 C (by decide +kernel) rfl rfl ?_
        obtain rfl := Option.some.inj hf
        exact zr_zret C (by decide +kernel) rfl T
    · refine zr_aload_n 0 32 C (by decide +kernel) rfl rfl ?_
      refine zr_aload_n 0 33 C (by decide +kernel) rfl rfl ?_
      refine xg_1_7 (idx := 41) 36 C (by decide +kernel) rfl q_117 ?_
      refine zr_ineg 37 C (by decide +kernel) rfl ?_
      refine k_Rd_write (idx := 47) 40 C E (by decide +kernel) rfl q_484 ⟨by omega, by omega⟩ (Nat.le_of_ble_eq_true rfl) hf (fun _ σ11 hf => ?_)
      refine zr_aload_n 0 41 C (by decide +kernel) rfl rfl ?_
      refine k_Rd_next (idx := 31) 44 C E (by decide +kernel) rfl q_414 ⟨by omega, by omega⟩ (Nat.le_of_ble_eq_true rfl) hf (fun _ σ12 hf => ?_)
      refine zr_iconst (v := 1) 1 45 C (by decide +kernel) rfl rfl ?_
      obtain rfl := Option.some.inj hf
      exact zr_zret C (by decide +kernel) rfl T
  · refine zr_aload_n 0 9 C (by decide +kernel) rfl rfl ?_
    refine zr_aload_n 0 10 C (by decide +kernel) rfl rfl ?_
    refine xg_1_8 (idx := 66) 13 C (by decide +kernel) rfl q_118 ?_
    refine k_Rd_write (idx := 47) 16 C E (by decide +kernel) rfl q_484 ⟨by omega, by omega⟩ (Nat.le_of_ble_eq_true rfl) hf (fun _ σ13 hf => ?_)
    refine zr_aload_n 0 17 C (by decide +kernel) rfl rfl ?_
    refine k_Rd_next (idx := 31) 20 C E (by decide +kernel) rfl q_414 ⟨by omega, by omega⟩ (Nat.le_of_ble_eq_true rfl) hf (fun _ σ14 hf => ?_)
    refine zr_iconst (v := 1) 1 21 C (by decide +kernel) rfl rfl ?_
    obtain rfl := Option.some.inj hf
    exact zr_zret C (by decide +kernel) rfl T
theorem y_Rd_readOne : zY yX4_readOne cX4_readOne 2 (some .boolean) 1 := ⟨q_483, q_73, by decide +kernel, by decide +kernel, by decide +kernel⟩
theorem k_Rd_readOne {l : Launch} {d : zD} {F : zF} {h : Nat → Nat} {σ : zS} {lv : List (Option Value)} {pc : Nat} {own : String} {cc : ByteArray} {nL fr lo idx : Nat} {rest : List Value} {β : Type} {kf : Int32 → zS → Option β} {o2 : β} {ad av : Nat → Nat} {rOr rNot rOne : Int32 → zS → Option (Int32 × zS)} {fd ld : Nat}  {p1 : Int32} (hR : zRec l d h rOr rNot rOne fd ld) (pc' : Nat) (C : zOk d F own cc nL fr lo) (E : zXe d ad av) (hd : decode cc pc = .ok (.invokevirtual idx, 3)) (hp : pc + 3 = pc') (hq : Cond.methodLink own idx yX4_readOne ∈ zW) (hm : (fd + 9) + 1 ≤ fr ∧ 8 + (2 + 11) + (ld + 283) ≤ lo) (hr : (rest.map fun v => v.category).sum ≤ 8) (hf : zbd (f_Rd_readOne rOr rNot rOne p1 σ) kf = some o2) (K : ∀ (r : Int32) (σ' : zS), kf r σ' = some o2 → V l d F 0 0 (XW d h σ') lv pc' (.int r :: rest)) : V l d F 0 0 (XW d h σ) lv pc (.int p1 :: .ref (h 1) :: rest) := by
  obtain ⟨q, h1, h2⟩ := zbd_some hf
  exact zr_callV y_Rd_readOne ⟨q_482, q_11⟩ 1 rfl rfl (As := [.int p1]) (m_Rd_readOne E hR (Nat.le_refl _) (Nat.le_refl _) h1) rfl rfl pc' C hd hp hq hm hr (K _ _ h2)
/-! StepsBeyond$Reader.readTerm(I)Z -/
def f_Rd_readTerm_12b (rOr rNot rOne : Int32 → zS → Option (Int32 × zS)) (k12 : Int32 → Int32 → zS → Option (Int32 × zS)) (x1 : Int32) (x2 : Int32) (σ : zS) : Option (Int32 × zS) :=
  (if 160 ≤ x2 then
  some (1, σ)
  else
  (if (σ.1 107) = 14 then
  zbd (f_Rd_next  σ) fun _ σ1 =>
  zbd (f_Rd_readOne rOr rNot rOne x1 σ1) fun r3 σ2 =>
  (if r3 = 0 then
  some (0, σ2)
  else
  zbd (f_Rd_write (-14) σ2) fun _ σ4 =>
  k12 x1 (x2 + 1) σ4)
  else
  some (1, σ)))
set_option maxRecDepth 4000 in
theorem w_Rd_readTerm_12b {l : Launch} {d : zD} {F : zF} {h : Nat → Nat} {out : Int32 × zS} {ad av : Nat → Nat} {rOr rNot rOne : Int32 → zS → Option (Int32 × zS)} {fd ld : Nat}  {k12 : Int32 → Int32 → zS → Option (Int32 × zS)} (C : zOk d F RX4 cX4_readTerm 3 (fd + 10) (ld + 304)) (T : zRt d F (some .boolean) (some (.int out.1)) (XW d h out.2)) (E : zXe d ad av) (hR : zRec l d h rOr rNot rOne fd ld) (H12 : ∀ (x1 : Int32) (x2 : Int32) (σ : zS), k12 x1 x2 σ = some out → V l d F 0 0 (XW d h σ) [some (.ref (h 1)), some (.int x1), some (.int x2)] 12 []) (x1 : Int32) (x2 : Int32) (σ : zS) (hf : f_Rd_readTerm_12b rOr rNot rOne k12 x1 x2 σ = some out) : V l d F 0 0 (XW d h σ) [some (.ref (h 1)), some (.int x1), some (.int x2)] 12 [] := by
  unfold f_Rd_readTerm_12b at hf
  refine zr_iload_n 2 13 C (by decide +kernel) rfl rfl ?_
  refine zr_sipush (v := 160) 160 16 C (by decide +kernel) rfl rfl ?_
  refine zr_icmp_ge (off := 38) 54 19 C (by decide +kernel) (by decide) rfl hf (fun hf => ?_) (fun hf => ?_)
  · refine zr_iconst (v := 1) 1 55 C (by decide +kernel) rfl rfl ?_
    obtain rfl := Option.some.inj hf
    exact zr_zret C (by decide +kernel) rfl T
  · refine zr_aload_n 0 20 C (by decide +kernel) rfl rfl ?_
    refine xg_1_7 (idx := 41) 23 C (by decide +kernel) rfl q_117 ?_
    refine zr_bipush (v := 14) 14 25 C (by decide +kernel) rfl rfl ?_
    refine zr_icmp_ne (off := 29) 54 28 C (by decide +kernel) (by decide) rfl hf (fun hf => ?_) (fun hf => ?_)
    · refine zr_iconst (v := 1) 1 55 C (by decide +kernel) rfl rfl ?_
      obtain rfl := Option.some.inj hf
      exact zr_zret C (by decide +kernel) rfl T
    · refine zr_aload_n 0 29 C (by decide +kernel) rfl rfl ?_
      refine k_Rd_next (idx := 31) 32 C E (by decide +kernel) rfl q_414 ⟨by omega, by omega⟩ (Nat.le_of_ble_eq_true rfl) hf (fun _ σ1 hf => ?_)
      refine zr_aload_n 0 33 C (by decide +kernel) rfl rfl ?_
      refine zr_iload_n 1 34 C (by decide +kernel) rfl rfl ?_
      refine k_Rd_readOne (idx := 63) hR 37 C E (by decide +kernel) rfl q_480 ⟨by omega, by omega⟩ (Nat.le_of_ble_eq_true rfl) hf (fun r3 σ2 hf => ?_)
      refine zr_if_ne (off := 5) 42 40 C (by decide +kernel) (by decide) rfl hf (fun hf => ?_) (fun hf => ?_)
      · refine zr_aload_n 0 43 C (by decide +kernel) rfl rfl ?_
        refine zr_bipush (v := (-14)) (-14) 45 C (by decide +kernel) rfl rfl ?_
        refine k_Rd_write (idx := 47) 48 C E (by decide +kernel) rfl q_484 ⟨by omega, by omega⟩ (Nat.le_of_ble_eq_true rfl) hf (fun _ σ4 hf => ?_)
        refine zr_iinc (j := 1) 2 [some (.ref (h 1)), some (.int x1), some (.int (x2 + 1))] 51 C (by decide +kernel) rfl rfl rfl (by decide) rfl rfl ?_
        refine zr_goto (off := -39) 12 C (by decide +kernel) (by decide) ?_
        exact H12 _ _ _ hf
      · refine zr_iconst (v := 0) 0 41 C (by decide +kernel) rfl rfl ?_
        obtain rfl := Option.some.inj hf
        exact zr_zret C (by decide +kernel) rfl T
def f_Rd_readTerm_12 (rOr rNot rOne : Int32 → zS → Option (Int32 × zS))  : Nat → Int32 → Int32 → zS → Option (Int32 × zS)
  | 0, _, _, _ => none
  | n + 1, x1, x2,  σ => f_Rd_readTerm_12b rOr rNot rOne (fun x1 x2 σ => f_Rd_readTerm_12 rOr rNot rOne  n x1 x2 σ) x1 x2 σ
theorem w_Rd_readTerm_12 {l : Launch} {d : zD} {F : zF} {h : Nat → Nat} {out : Int32 × zS} {ad av : Nat → Nat} {rOr rNot rOne : Int32 → zS → Option (Int32 × zS)} {fd ld : Nat}   (C : zOk d F RX4 cX4_readTerm 3 (fd + 10) (ld + 304)) (T : zRt d F (some .boolean) (some (.int out.1)) (XW d h out.2)) (E : zXe d ad av) (hR : zRec l d h rOr rNot rOne fd ld)  : ∀ (n : Nat) (x1 : Int32) (x2 : Int32) (σ : zS), f_Rd_readTerm_12 rOr rNot rOne  n x1 x2 σ = some out → V l d F 0 0 (XW d h σ) [some (.ref (h 1)), some (.int x1), some (.int x2)] 12 [] := by
  intro n
  induction n with
  | zero =>
    intro x1 x2 σ hf
    cases hf
  | succ n ih =>
    intro x1 x2 σ hf
    exact w_Rd_readTerm_12b C T E hR ih x1 x2 σ hf
def f_Rd_readTerm (rOr rNot rOne : Int32 → zS → Option (Int32 × zS)) (p1 : Int32) (σ : zS) : Option (Int32 × zS) :=
  zbd (f_Rd_readOne rOr rNot rOne p1 σ) fun r2 σ1 =>
  (if r2 = 0 then
  some (0, σ1)
  else
  f_Rd_readTerm_12 rOr rNot rOne zfu p1 0 σ1)
set_option maxRecDepth 4000 in
theorem m_Rd_readTerm {l : Launch} {d : zD} {h : Nat → Nat} {out : Int32 × zS} {σ : zS} {ad av : Nat → Nat} {rOr rNot rOne : Int32 → zS → Option (Int32 × zS)} {fd ld : Nat} {p1 : Int32} (E : zXe d ad av) (hR : zRec l d h rOr rNot rOne fd ld) {fr lo : Nat} (h1 : (fd + 10) ≤ fr) (h2 : (ld + 304) ≤ lo) (hf : f_Rd_readTerm rOr rNot rOne p1 σ = some out) : zM l yX4_readTerm cX4_readTerm 3 (some .boolean) fr lo d [.ref (h 1), .int p1] (XW d h σ) (XW d h out.2) (some (.int out.1)) := by
  refine zM_of [some (.ref (h 1)), some (.int p1), none] (by decide +kernel) rfl (Nat.le_of_ble_eq_true rfl) (fun F C T => ?_)
  have C := zOk_le h1 h2 C
  unfold f_Rd_readTerm at hf
  refine zr_aload_n 0 1 C (by decide +kernel) rfl rfl ?_
  refine zr_iload_n 1 2 C (by decide +kernel) rfl rfl ?_
  refine k_Rd_readOne (idx := 63) hR 5 C E (by decide +kernel) rfl q_480 ⟨by omega, by omega⟩ (Nat.le_of_ble_eq_true rfl) hf (fun r2 σ1 hf => ?_)
  refine zr_if_ne (off := 5) 10 8 C (by decide +kernel) (by decide) rfl hf (fun hf => ?_) (fun hf => ?_)
  · refine zr_iconst (v := 0) 0 11 C (by decide +kernel) rfl rfl ?_
    refine zr_istore_n 2 [some (.ref (h 1)), some (.int p1), some (.int 0)] 12 C (by decide +kernel) rfl (by decide) rfl rfl ?_
    exact w_Rd_readTerm_12 C T E hR zfu _ _ _ hf
  · refine zr_iconst (v := 0) 0 9 C (by decide +kernel) rfl rfl ?_
    obtain rfl := Option.some.inj hf
    exact zr_zret C (by decide +kernel) rfl T
theorem y_Rd_readTerm : zY yX4_readTerm cX4_readTerm 3 (some .boolean) 1 := ⟨q_479, q_73, by decide +kernel, by decide +kernel, by decide +kernel⟩
theorem k_Rd_readTerm {l : Launch} {d : zD} {F : zF} {h : Nat → Nat} {σ : zS} {lv : List (Option Value)} {pc : Nat} {own : String} {cc : ByteArray} {nL fr lo idx : Nat} {rest : List Value} {β : Type} {kf : Int32 → zS → Option β} {o2 : β} {ad av : Nat → Nat} {rOr rNot rOne : Int32 → zS → Option (Int32 × zS)} {fd ld : Nat}  {p1 : Int32} (hR : zRec l d h rOr rNot rOne fd ld) (pc' : Nat) (C : zOk d F own cc nL fr lo) (E : zXe d ad av) (hd : decode cc pc = .ok (.invokevirtual idx, 3)) (hp : pc + 3 = pc') (hq : Cond.methodLink own idx yX4_readTerm ∈ zW) (hm : (fd + 10) + 1 ≤ fr ∧ 8 + (3 + 11) + (ld + 304) ≤ lo) (hr : (rest.map fun v => v.category).sum ≤ 8) (hf : zbd (f_Rd_readTerm rOr rNot rOne p1 σ) kf = some o2) (K : ∀ (r : Int32) (σ' : zS), kf r σ' = some o2 → V l d F 0 0 (XW d h σ') lv pc' (.int r :: rest)) : V l d F 0 0 (XW d h σ) lv pc (.int p1 :: .ref (h 1) :: rest) := by
  obtain ⟨q, h1, h2⟩ := zbd_some hf
  exact zr_callV y_Rd_readTerm ⟨q_478, q_10⟩ 1 rfl rfl (As := [.int p1]) (m_Rd_readTerm E hR (Nat.le_refl _) (Nat.le_refl _) h1) rfl rfl pc' C hd hp hq hm hr (K _ _ h2)
/-! StepsBeyond$Reader.readSum(I)Z -/
def f_Rd_readSum_37 (rOr rNot rOne : Int32 → zS → Option (Int32 × zS)) (k12 : Int32 → Int32 → zS → Option (Int32 × zS)) (x1 : Int32) (x2 : Int32) (σ : zS) : Option (Int32 × zS) :=
  zlt (σ.1 107) fun v1 => 
  zbd (f_Rd_next  σ) fun _ σ2 =>
  zbd (f_Rd_readTerm rOr rNot rOne x1 σ2) fun r4 σ3 =>
  (if r4 = 0 then
  some (0, σ3)
  else
  zbd (f_Rd_write (-v1) σ3) fun _ σ5 =>
  k12 x1 (x2 + 1) σ5)
set_option maxRecDepth 4000 in
theorem w_Rd_readSum_37 {l : Launch} {d : zD} {F : zF} {h : Nat → Nat} {out : Int32 × zS} {ad av : Nat → Nat} {rOr rNot rOne : Int32 → zS → Option (Int32 × zS)} {fd ld : Nat}  {k12 : Int32 → Int32 → zS → Option (Int32 × zS)} (C : zOk d F RX4 cX4_readSum 4 (fd + 11) (ld + 326)) (T : zRt d F (some .boolean) (some (.int out.1)) (XW d h out.2)) (E : zXe d ad av) (hR : zRec l d h rOr rNot rOne fd ld) (H12 : ∀ (x1 : Int32) (x2 : Int32) (σ : zS), k12 x1 x2 σ = some out → V l d F 0 0 (XW d h σ) [some (.ref (h 1)), some (.int x1), some (.int x2), none] 12 []) (x1 : Int32) (x2 : Int32) (σ : zS) (hf : f_Rd_readSum_37 rOr rNot rOne k12 x1 x2 σ = some out) : V l d F 0 0 (XW d h σ) [some (.ref (h 1)), some (.int x1), some (.int x2), none] 37 [] := by
  unfold f_Rd_readSum_37 at hf
  refine zr_aload_n 0 38 C (by decide +kernel) rfl rfl ?_
  refine xg_1_7 (idx := 41) 41 C (by decide +kernel) rfl q_117 ?_
  refine zr_name hf (fun v1 hf => ?_)
  refine zr_istore_n 3 [some (.ref (h 1)), some (.int x1), some (.int x2), some (.int v1)] 42 C (by decide +kernel) rfl (by decide) rfl rfl ?_
  refine zr_aload_n 0 43 C (by decide +kernel) rfl rfl ?_
  refine k_Rd_next (idx := 31) 46 C E (by decide +kernel) rfl q_414 ⟨by omega, by omega⟩ (Nat.le_of_ble_eq_true rfl) hf (fun _ σ2 hf => ?_)
  refine zr_aload_n 0 47 C (by decide +kernel) rfl rfl ?_
  refine zr_iload_n 1 48 C (by decide +kernel) rfl rfl ?_
  refine k_Rd_readTerm (idx := 60) hR 51 C E (by decide +kernel) rfl q_476 ⟨by omega, by omega⟩ (Nat.le_of_ble_eq_true rfl) hf (fun r4 σ3 hf => ?_)
  refine zr_if_ne (off := 5) 56 54 C (by decide +kernel) (by decide) rfl hf (fun hf => ?_) (fun hf => ?_)
  · refine zr_aload_n 0 57 C (by decide +kernel) rfl rfl ?_
    refine zr_iload_n 3 58 C (by decide +kernel) rfl rfl ?_
    refine zr_ineg 59 C (by decide +kernel) rfl ?_
    refine k_Rd_write (idx := 47) 62 C E (by decide +kernel) rfl q_484 ⟨by omega, by omega⟩ (Nat.le_of_ble_eq_true rfl) hf (fun _ σ5 hf => ?_)
    refine zr_iinc (j := 1) 2 [some (.ref (h 1)), some (.int x1), some (.int (x2 + 1)), some (.int v1)] 65 C (by decide +kernel) rfl rfl rfl (by decide) rfl rfl ?_
    refine zr_goto (off := -53) 12 C (by decide +kernel) (by decide) ?_
    refine zr_less (zA (zA (zA (zN zE)))) ?_
    exact H12 _ _ _ hf
  · refine zr_iconst (v := 0) 0 55 C (by decide +kernel) rfl rfl ?_
    obtain rfl := Option.some.inj hf
    exact zr_zret C (by decide +kernel) rfl T
def f_Rd_readSum_12b (rOr rNot rOne : Int32 → zS → Option (Int32 × zS)) (k12 : Int32 → Int32 → zS → Option (Int32 × zS)) (x1 : Int32) (x2 : Int32) (σ : zS) : Option (Int32 × zS) :=
  (if 160 ≤ x2 then
  some (1, σ)
  else
  (if (σ.1 107) = 12 then
  f_Rd_readSum_37 rOr rNot rOne k12 x1 x2 σ
  else
  (if (σ.1 107) = 13 then
  f_Rd_readSum_37 rOr rNot rOne k12 x1 x2 σ
  else
  some (1, σ))))
set_option maxRecDepth 4000 in
theorem w_Rd_readSum_12b {l : Launch} {d : zD} {F : zF} {h : Nat → Nat} {out : Int32 × zS} {ad av : Nat → Nat} {rOr rNot rOne : Int32 → zS → Option (Int32 × zS)} {fd ld : Nat}  {k12 : Int32 → Int32 → zS → Option (Int32 × zS)} (C : zOk d F RX4 cX4_readSum 4 (fd + 11) (ld + 326)) (T : zRt d F (some .boolean) (some (.int out.1)) (XW d h out.2)) (E : zXe d ad av) (hR : zRec l d h rOr rNot rOne fd ld) (H12 : ∀ (x1 : Int32) (x2 : Int32) (σ : zS), k12 x1 x2 σ = some out → V l d F 0 0 (XW d h σ) [some (.ref (h 1)), some (.int x1), some (.int x2), none] 12 []) (x1 : Int32) (x2 : Int32) (σ : zS) (hf : f_Rd_readSum_12b rOr rNot rOne k12 x1 x2 σ = some out) : V l d F 0 0 (XW d h σ) [some (.ref (h 1)), some (.int x1), some (.int x2), none] 12 [] := by
  unfold f_Rd_readSum_12b at hf
  refine zr_iload_n 2 13 C (by decide +kernel) rfl rfl ?_
  refine zr_sipush (v := 160) 160 16 C (by decide +kernel) rfl rfl ?_
  refine zr_icmp_ge (off := 52) 68 19 C (by decide +kernel) (by decide) rfl hf (fun hf => ?_) (fun hf => ?_)
  · refine zr_iconst (v := 1) 1 69 C (by decide +kernel) rfl rfl ?_
    obtain rfl := Option.some.inj hf
    exact zr_zret C (by decide +kernel) rfl T
  · refine zr_aload_n 0 20 C (by decide +kernel) rfl rfl ?_
    refine xg_1_7 (idx := 41) 23 C (by decide +kernel) rfl q_117 ?_
    refine zr_bipush (v := 12) 12 25 C (by decide +kernel) rfl rfl ?_
    refine zr_icmp_eq (off := 12) 37 28 C (by decide +kernel) (by decide) rfl hf (fun hf => ?_) (fun hf => ?_)
    · exact w_Rd_readSum_37 C T E hR H12 _ _ _ hf
    · refine zr_aload_n 0 29 C (by decide +kernel) rfl rfl ?_
      refine xg_1_7 (idx := 41) 32 C (by decide +kernel) rfl q_117 ?_
      refine zr_bipush (v := 13) 13 34 C (by decide +kernel) rfl rfl ?_
      refine zr_icmp_ne (off := 34) 68 37 C (by decide +kernel) (by decide) rfl hf (fun hf => ?_) (fun hf => ?_)
      · refine zr_iconst (v := 1) 1 69 C (by decide +kernel) rfl rfl ?_
        obtain rfl := Option.some.inj hf
        exact zr_zret C (by decide +kernel) rfl T
      · exact w_Rd_readSum_37 C T E hR H12 _ _ _ hf
def f_Rd_readSum_12 (rOr rNot rOne : Int32 → zS → Option (Int32 × zS))  : Nat → Int32 → Int32 → zS → Option (Int32 × zS)
  | 0, _, _, _ => none
  | n + 1, x1, x2,  σ => f_Rd_readSum_12b rOr rNot rOne (fun x1 x2 σ => f_Rd_readSum_12 rOr rNot rOne  n x1 x2 σ) x1 x2 σ
theorem w_Rd_readSum_12 {l : Launch} {d : zD} {F : zF} {h : Nat → Nat} {out : Int32 × zS} {ad av : Nat → Nat} {rOr rNot rOne : Int32 → zS → Option (Int32 × zS)} {fd ld : Nat}   (C : zOk d F RX4 cX4_readSum 4 (fd + 11) (ld + 326)) (T : zRt d F (some .boolean) (some (.int out.1)) (XW d h out.2)) (E : zXe d ad av) (hR : zRec l d h rOr rNot rOne fd ld)  : ∀ (n : Nat) (x1 : Int32) (x2 : Int32) (σ : zS), f_Rd_readSum_12 rOr rNot rOne  n x1 x2 σ = some out → V l d F 0 0 (XW d h σ) [some (.ref (h 1)), some (.int x1), some (.int x2), none] 12 [] := by
  intro n
  induction n with
  | zero =>
    intro x1 x2 σ hf
    cases hf
  | succ n ih =>
    intro x1 x2 σ hf
    exact w_Rd_readSum_12b C T E hR ih x1 x2 σ hf
def f_Rd_readSum (rOr rNot rOne : Int32 → zS → Option (Int32 × zS)) (p1 : Int32) (σ : zS) : Option (Int32 × zS) :=
  zbd (f_Rd_readTerm rOr rNot rOne p1 σ) fun r2 σ1 =>
  (if r2 = 0 then
  some (0, σ1)
  else
  f_Rd_readSum_12 rOr rNot rOne zfu p1 0 σ1)
set_option maxRecDepth 4000 in
theorem m_Rd_readSum {l : Launch} {d : zD} {h : Nat → Nat} {out : Int32 × zS} {σ : zS} {ad av : Nat → Nat} {rOr rNot rOne : Int32 → zS → Option (Int32 × zS)} {fd ld : Nat} {p1 : Int32} (E : zXe d ad av) (hR : zRec l d h rOr rNot rOne fd ld) {fr lo : Nat} (h1 : (fd + 11) ≤ fr) (h2 : (ld + 326) ≤ lo) (hf : f_Rd_readSum rOr rNot rOne p1 σ = some out) : zM l yX4_readSum cX4_readSum 4 (some .boolean) fr lo d [.ref (h 1), .int p1] (XW d h σ) (XW d h out.2) (some (.int out.1)) := by
  refine zM_of [some (.ref (h 1)), some (.int p1), none, none] (by decide +kernel) rfl (Nat.le_of_ble_eq_true rfl) (fun F C T => ?_)
  have C := zOk_le h1 h2 C
  unfold f_Rd_readSum at hf
  refine zr_aload_n 0 1 C (by decide +kernel) rfl rfl ?_
  refine zr_iload_n 1 2 C (by decide +kernel) rfl rfl ?_
  refine k_Rd_readTerm (idx := 60) hR 5 C E (by decide +kernel) rfl q_476 ⟨by omega, by omega⟩ (Nat.le_of_ble_eq_true rfl) hf (fun r2 σ1 hf => ?_)
  refine zr_if_ne (off := 5) 10 8 C (by decide +kernel) (by decide) rfl hf (fun hf => ?_) (fun hf => ?_)
  · refine zr_iconst (v := 0) 0 11 C (by decide +kernel) rfl rfl ?_
    refine zr_istore_n 2 [some (.ref (h 1)), some (.int p1), some (.int 0), none] 12 C (by decide +kernel) rfl (by decide) rfl rfl ?_
    exact w_Rd_readSum_12 C T E hR zfu _ _ _ hf
  · refine zr_iconst (v := 0) 0 9 C (by decide +kernel) rfl rfl ?_
    obtain rfl := Option.some.inj hf
    exact zr_zret C (by decide +kernel) rfl T
theorem y_Rd_readSum : zY yX4_readSum cX4_readSum 4 (some .boolean) 1 := ⟨q_475, q_73, by decide +kernel, by decide +kernel, by decide +kernel⟩
theorem k_Rd_readSum {l : Launch} {d : zD} {F : zF} {h : Nat → Nat} {σ : zS} {lv : List (Option Value)} {pc : Nat} {own : String} {cc : ByteArray} {nL fr lo idx : Nat} {rest : List Value} {β : Type} {kf : Int32 → zS → Option β} {o2 : β} {ad av : Nat → Nat} {rOr rNot rOne : Int32 → zS → Option (Int32 × zS)} {fd ld : Nat}  {p1 : Int32} (hR : zRec l d h rOr rNot rOne fd ld) (pc' : Nat) (C : zOk d F own cc nL fr lo) (E : zXe d ad av) (hd : decode cc pc = .ok (.invokevirtual idx, 3)) (hp : pc + 3 = pc') (hq : Cond.methodLink own idx yX4_readSum ∈ zW) (hm : (fd + 11) + 1 ≤ fr ∧ 8 + (4 + 11) + (ld + 326) ≤ lo) (hr : (rest.map fun v => v.category).sum ≤ 8) (hf : zbd (f_Rd_readSum rOr rNot rOne p1 σ) kf = some o2) (K : ∀ (r : Int32) (σ' : zS), kf r σ' = some o2 → V l d F 0 0 (XW d h σ') lv pc' (.int r :: rest)) : V l d F 0 0 (XW d h σ) lv pc (.int p1 :: .ref (h 1) :: rest) := by
  obtain ⟨q, h1, h2⟩ := zbd_some hf
  exact zr_callV y_Rd_readSum ⟨q_474, q_9⟩ 1 rfl rfl (As := [.int p1]) (m_Rd_readSum E hR (Nat.le_refl _) (Nat.le_refl _) h1) rfl rfl pc' C hd hp hq hm hr (K _ _ h2)
/-! StepsBeyond$Reader.readCompared(I)Z -/
def f_Rd_readCompared_29 (rOr rNot rOne : Int32 → zS → Option (Int32 × zS))  (x1 : Int32) (x2 : Int32) (σ : zS) : Option (Int32 × zS) :=
  zbd (f_Rd_next  σ) fun _ σ1 =>
  zbd (f_Rd_readSum rOr rNot rOne x1 σ1) fun r3 σ2 =>
  (if r3 = 0 then
  some (0, σ2)
  else
  zbd (f_Rd_write (-x2) σ2) fun _ σ4 =>
  some (1, σ4))
set_option maxRecDepth 4000 in
theorem w_Rd_readCompared_29 {l : Launch} {d : zD} {F : zF} {h : Nat → Nat} {out : Int32 × zS} {ad av : Nat → Nat} {rOr rNot rOne : Int32 → zS → Option (Int32 × zS)} {fd ld : Nat}   (C : zOk d F RX4 cX4_readCompared 3 (fd + 12) (ld + 349)) (T : zRt d F (some .boolean) (some (.int out.1)) (XW d h out.2)) (E : zXe d ad av) (hR : zRec l d h rOr rNot rOne fd ld)  (x1 : Int32) (x2 : Int32) (σ : zS) (hf : f_Rd_readCompared_29 rOr rNot rOne  x1 x2 σ = some out) : V l d F 0 0 (XW d h σ) [some (.ref (h 1)), some (.int x1), some (.int x2)] 29 [] := by
  unfold f_Rd_readCompared_29 at hf
  refine zr_aload_n 0 30 C (by decide +kernel) rfl rfl ?_
  refine k_Rd_next (idx := 31) 33 C E (by decide +kernel) rfl q_414 ⟨by omega, by omega⟩ (Nat.le_of_ble_eq_true rfl) hf (fun _ σ1 hf => ?_)
  refine zr_aload_n 0 34 C (by decide +kernel) rfl rfl ?_
  refine zr_iload_n 1 35 C (by decide +kernel) rfl rfl ?_
  refine k_Rd_readSum (idx := 57) hR 38 C E (by decide +kernel) rfl q_472 ⟨by omega, by omega⟩ (Nat.le_of_ble_eq_true rfl) hf (fun r3 σ2 hf => ?_)
  refine zr_if_ne (off := 5) 43 41 C (by decide +kernel) (by decide) rfl hf (fun hf => ?_) (fun hf => ?_)
  · refine zr_aload_n 0 44 C (by decide +kernel) rfl rfl ?_
    refine zr_iload_n 2 45 C (by decide +kernel) rfl rfl ?_
    refine zr_ineg 46 C (by decide +kernel) rfl ?_
    refine k_Rd_write (idx := 47) 49 C E (by decide +kernel) rfl q_484 ⟨by omega, by omega⟩ (Nat.le_of_ble_eq_true rfl) hf (fun _ σ4 hf => ?_)
    refine zr_iconst (v := 1) 1 50 C (by decide +kernel) rfl rfl ?_
    obtain rfl := Option.some.inj hf
    exact zr_zret C (by decide +kernel) rfl T
  · refine zr_iconst (v := 0) 0 42 C (by decide +kernel) rfl rfl ?_
    obtain rfl := Option.some.inj hf
    exact zr_zret C (by decide +kernel) rfl T
def f_Rd_readCompared (rOr rNot rOne : Int32 → zS → Option (Int32 × zS)) (p1 : Int32) (σ : zS) : Option (Int32 × zS) :=
  zbd (f_Rd_readSum rOr rNot rOne p1 σ) fun r2 σ1 =>
  (if r2 = 0 then
  some (0, σ1)
  else
  zlt (σ1.1 107) fun v3 => 
  (if v3 = 10 then
  f_Rd_readCompared_29 rOr rNot rOne p1 v3 σ1
  else
  (if v3 = 11 then
  f_Rd_readCompared_29 rOr rNot rOne p1 v3 σ1
  else
  some (1, σ1))))
set_option maxRecDepth 4000 in
theorem m_Rd_readCompared {l : Launch} {d : zD} {h : Nat → Nat} {out : Int32 × zS} {σ : zS} {ad av : Nat → Nat} {rOr rNot rOne : Int32 → zS → Option (Int32 × zS)} {fd ld : Nat} {p1 : Int32} (E : zXe d ad av) (hR : zRec l d h rOr rNot rOne fd ld) {fr lo : Nat} (h1 : (fd + 12) ≤ fr) (h2 : (ld + 349) ≤ lo) (hf : f_Rd_readCompared rOr rNot rOne p1 σ = some out) : zM l yX4_readCompared cX4_readCompared 3 (some .boolean) fr lo d [.ref (h 1), .int p1] (XW d h σ) (XW d h out.2) (some (.int out.1)) := by
  refine zM_of [some (.ref (h 1)), some (.int p1), none] (by decide +kernel) rfl (Nat.le_of_ble_eq_true rfl) (fun F C T => ?_)
  have C := zOk_le h1 h2 C
  unfold f_Rd_readCompared at hf
  refine zr_aload_n 0 1 C (by decide +kernel) rfl rfl ?_
  refine zr_iload_n 1 2 C (by decide +kernel) rfl rfl ?_
  refine k_Rd_readSum (idx := 57) hR 5 C E (by decide +kernel) rfl q_472 ⟨by omega, by omega⟩ (Nat.le_of_ble_eq_true rfl) hf (fun r2 σ1 hf => ?_)
  refine zr_if_ne (off := 5) 10 8 C (by decide +kernel) (by decide) rfl hf (fun hf => ?_) (fun hf => ?_)
  · refine zr_aload_n 0 11 C (by decide +kernel) rfl rfl ?_
    refine xg_1_7 (idx := 41) 14 C (by decide +kernel) rfl q_117 ?_
    refine zr_name hf (fun v3 hf => ?_)
    refine zr_istore_n 2 [some (.ref (h 1)), some (.int p1), some (.int v3)] 15 C (by decide +kernel) rfl (by decide) rfl rfl ?_
    refine zr_iload_n 2 16 C (by decide +kernel) rfl rfl ?_
    refine zr_bipush (v := 10) 10 18 C (by decide +kernel) rfl rfl ?_
    refine zr_icmp_eq (off := 11) 29 21 C (by decide +kernel) (by decide) rfl hf (fun hf => ?_) (fun hf => ?_)
    · exact w_Rd_readCompared_29 C T E hR _ _ _ hf
    · refine zr_iload_n 2 22 C (by decide +kernel) rfl rfl ?_
      refine zr_bipush (v := 11) 11 24 C (by decide +kernel) rfl rfl ?_
      refine zr_icmp_eq (off := 5) 29 27 C (by decide +kernel) (by decide) rfl hf (fun hf => ?_) (fun hf => ?_)
      · exact w_Rd_readCompared_29 C T E hR _ _ _ hf
      · refine zr_iconst (v := 1) 1 28 C (by decide +kernel) rfl rfl ?_
        obtain rfl := Option.some.inj hf
        exact zr_zret C (by decide +kernel) rfl T
  · refine zr_iconst (v := 0) 0 9 C (by decide +kernel) rfl rfl ?_
    obtain rfl := Option.some.inj hf
    exact zr_zret C (by decide +kernel) rfl T
theorem y_Rd_readCompared : zY yX4_readCompared cX4_readCompared 3 (some .boolean) 1 := ⟨q_471, q_73, by decide +kernel, by decide +kernel, by decide +kernel⟩
theorem k_Rd_readCompared {l : Launch} {d : zD} {F : zF} {h : Nat → Nat} {σ : zS} {lv : List (Option Value)} {pc : Nat} {own : String} {cc : ByteArray} {nL fr lo idx : Nat} {rest : List Value} {β : Type} {kf : Int32 → zS → Option β} {o2 : β} {ad av : Nat → Nat} {rOr rNot rOne : Int32 → zS → Option (Int32 × zS)} {fd ld : Nat}  {p1 : Int32} (hR : zRec l d h rOr rNot rOne fd ld) (pc' : Nat) (C : zOk d F own cc nL fr lo) (E : zXe d ad av) (hd : decode cc pc = .ok (.invokevirtual idx, 3)) (hp : pc + 3 = pc') (hq : Cond.methodLink own idx yX4_readCompared ∈ zW) (hm : (fd + 12) + 1 ≤ fr ∧ 8 + (3 + 11) + (ld + 349) ≤ lo) (hr : (rest.map fun v => v.category).sum ≤ 8) (hf : zbd (f_Rd_readCompared rOr rNot rOne p1 σ) kf = some o2) (K : ∀ (r : Int32) (σ' : zS), kf r σ' = some o2 → V l d F 0 0 (XW d h σ') lv pc' (.int r :: rest)) : V l d F 0 0 (XW d h σ) lv pc (.int p1 :: .ref (h 1) :: rest) := by
  obtain ⟨q, h1, h2⟩ := zbd_some hf
  exact zr_callV y_Rd_readCompared ⟨q_470, q_8⟩ 1 rfl rfl (As := [.int p1]) (m_Rd_readCompared E hR (Nat.le_refl _) (Nat.le_refl _) h1) rfl rfl pc' C hd hp hq hm hr (K _ _ h2)
/-! StepsBeyond$Reader.readNot(I)Z -/
def f_Rd_readNot (rOr rNot rOne : Int32 → zS → Option (Int32 × zS)) (p1 : Int32) (σ : zS) : Option (Int32 × zS) :=
  (if (σ.1 107) = 15 then
  (if p1 < 5 then
  zbd (f_Rd_next  σ) fun _ σ1 =>
  zbd (rNot (p1 + 1) σ1) fun r3 σ2 =>
  (if r3 = 0 then
  some (0, σ2)
  else
  zbd (f_Rd_write (-15) σ2) fun _ σ4 =>
  some (1, σ4))
  else
  some (0, σ))
  else
  zbd (f_Rd_readCompared rOr rNot rOne p1 σ) fun r6 σ5 =>
  zbo r6 (some (r6, σ5)))
set_option maxRecDepth 4000 in
theorem m_Rd_readNot {l : Launch} {d : zD} {h : Nat → Nat} {out : Int32 × zS} {σ : zS} {ad av : Nat → Nat} {rOr rNot rOne : Int32 → zS → Option (Int32 × zS)} {fd ld : Nat} {p1 : Int32} (E : zXe d ad av) (hR : zRec l d h rOr rNot rOne fd ld) {fr lo : Nat} (h1 : (fd + 13) ≤ fr) (h2 : (ld + 371) ≤ lo) (hf : f_Rd_readNot rOr rNot rOne p1 σ = some out) : zM l yX4_readNot cX4_readNot 2 (some .boolean) fr lo d [.ref (h 1), .int p1] (XW d h σ) (XW d h out.2) (some (.int out.1)) := by
  refine zM_of [some (.ref (h 1)), some (.int p1)] (by decide +kernel) rfl (Nat.le_of_ble_eq_true rfl) (fun F C T => ?_)
  have C := zOk_le h1 h2 C
  unfold f_Rd_readNot at hf
  refine zr_aload_n 0 1 C (by decide +kernel) rfl rfl ?_
  refine xg_1_7 (idx := 41) 4 C (by decide +kernel) rfl q_117 ?_
  refine zr_bipush (v := 15) 15 6 C (by decide +kernel) rfl rfl ?_
  refine zr_icmp_eq (off := 9) 15 9 C (by decide +kernel) (by decide) rfl hf (fun hf => ?_) (fun hf => ?_)
  · refine zr_iload_n 1 16 C (by decide +kernel) rfl rfl ?_
    refine zr_iconst (v := 5) 5 17 C (by decide +kernel) rfl rfl ?_
    refine zr_icmp_lt (off := 5) 22 20 C (by decide +kernel) (by decide) rfl hf (fun hf => ?_) (fun hf => ?_)
    · refine zr_aload_n 0 23 C (by decide +kernel) rfl rfl ?_
      refine k_Rd_next (idx := 31) 26 C E (by decide +kernel) rfl q_414 ⟨by omega, by omega⟩ (Nat.le_of_ble_eq_true rfl) hf (fun _ σ1 hf => ?_)
      refine zr_aload_n 0 27 C (by decide +kernel) rfl rfl ?_
      refine zr_iload_n 1 28 C (by decide +kernel) rfl rfl ?_
      refine zr_iconst (v := 1) 1 29 C (by decide +kernel) rfl rfl ?_
      refine zr_iadd 30 C (by decide +kernel) rfl ?_
      refine krNot (idx := 51) hR 33 C (by decide +kernel) rfl q_464 ⟨by omega, by omega⟩ (Nat.le_of_ble_eq_true rfl) hf (fun r3 σ2 hf => ?_)
      refine zr_if_ne (off := 5) 38 36 C (by decide +kernel) (by decide) rfl hf (fun hf => ?_) (fun hf => ?_)
      · refine zr_aload_n 0 39 C (by decide +kernel) rfl rfl ?_
        refine zr_bipush (v := (-15)) (-15) 41 C (by decide +kernel) rfl rfl ?_
        refine k_Rd_write (idx := 47) 44 C E (by decide +kernel) rfl q_484 ⟨by omega, by omega⟩ (Nat.le_of_ble_eq_true rfl) hf (fun _ σ4 hf => ?_)
        refine zr_iconst (v := 1) 1 45 C (by decide +kernel) rfl rfl ?_
        obtain rfl := Option.some.inj hf
        exact zr_zret C (by decide +kernel) rfl T
      · refine zr_iconst (v := 0) 0 37 C (by decide +kernel) rfl rfl ?_
        obtain rfl := Option.some.inj hf
        exact zr_zret C (by decide +kernel) rfl T
    · refine zr_iconst (v := 0) 0 21 C (by decide +kernel) rfl rfl ?_
      obtain rfl := Option.some.inj hf
      exact zr_zret C (by decide +kernel) rfl T
  · refine zr_aload_n 0 10 C (by decide +kernel) rfl rfl ?_
    refine zr_iload_n 1 11 C (by decide +kernel) rfl rfl ?_
    refine k_Rd_readCompared (idx := 54) hR 14 C E (by decide +kernel) rfl q_468 ⟨by omega, by omega⟩ (Nat.le_of_ble_eq_true rfl) hf (fun r6 σ5 hf => ?_)
    obtain ⟨hz, hf⟩ := zbo_some hf
    obtain rfl := Option.some.inj hf
    exact zr_zret C (by decide +kernel) hz T
theorem y_Rd_readNot : zY yX4_readNot cX4_readNot 2 (some .boolean) 1 := ⟨q_467, q_73, by decide +kernel, by decide +kernel, by decide +kernel⟩
theorem k_Rd_readNot {l : Launch} {d : zD} {F : zF} {h : Nat → Nat} {σ : zS} {lv : List (Option Value)} {pc : Nat} {own : String} {cc : ByteArray} {nL fr lo idx : Nat} {rest : List Value} {β : Type} {kf : Int32 → zS → Option β} {o2 : β} {ad av : Nat → Nat} {rOr rNot rOne : Int32 → zS → Option (Int32 × zS)} {fd ld : Nat}  {p1 : Int32} (hR : zRec l d h rOr rNot rOne fd ld) (pc' : Nat) (C : zOk d F own cc nL fr lo) (E : zXe d ad av) (hd : decode cc pc = .ok (.invokevirtual idx, 3)) (hp : pc + 3 = pc') (hq : Cond.methodLink own idx yX4_readNot ∈ zW) (hm : (fd + 13) + 1 ≤ fr ∧ 8 + (2 + 11) + (ld + 371) ≤ lo) (hr : (rest.map fun v => v.category).sum ≤ 8) (hf : zbd (f_Rd_readNot rOr rNot rOne p1 σ) kf = some o2) (K : ∀ (r : Int32) (σ' : zS), kf r σ' = some o2 → V l d F 0 0 (XW d h σ') lv pc' (.int r :: rest)) : V l d F 0 0 (XW d h σ) lv pc (.int p1 :: .ref (h 1) :: rest) := by
  obtain ⟨q, h1, h2⟩ := zbd_some hf
  exact zr_callV y_Rd_readNot ⟨q_466, q_7⟩ 1 rfl rfl (As := [.int p1]) (m_Rd_readNot E hR (Nat.le_refl _) (Nat.le_refl _) h1) rfl rfl pc' C hd hp hq hm hr (K _ _ h2)
/-! StepsBeyond$Reader.readAnd(I)Z -/
def f_Rd_readAnd_12b (rOr rNot rOne : Int32 → zS → Option (Int32 × zS)) (k12 : Int32 → Int32 → zS → Option (Int32 × zS)) (x1 : Int32) (x2 : Int32) (σ : zS) : Option (Int32 × zS) :=
  (if 160 ≤ x2 then
  some (1, σ)
  else
  (if (σ.1 107) = 9 then
  zbd (f_Rd_next  σ) fun _ σ1 =>
  zbd (f_Rd_readNot rOr rNot rOne x1 σ1) fun r3 σ2 =>
  (if r3 = 0 then
  some (0, σ2)
  else
  zbd (f_Rd_write (-9) σ2) fun _ σ4 =>
  k12 x1 (x2 + 1) σ4)
  else
  some (1, σ)))
set_option maxRecDepth 4000 in
theorem w_Rd_readAnd_12b {l : Launch} {d : zD} {F : zF} {h : Nat → Nat} {out : Int32 × zS} {ad av : Nat → Nat} {rOr rNot rOne : Int32 → zS → Option (Int32 × zS)} {fd ld : Nat}  {k12 : Int32 → Int32 → zS → Option (Int32 × zS)} (C : zOk d F RX4 cX4_readAnd 3 (fd + 14) (ld + 392)) (T : zRt d F (some .boolean) (some (.int out.1)) (XW d h out.2)) (E : zXe d ad av) (hR : zRec l d h rOr rNot rOne fd ld) (H12 : ∀ (x1 : Int32) (x2 : Int32) (σ : zS), k12 x1 x2 σ = some out → V l d F 0 0 (XW d h σ) [some (.ref (h 1)), some (.int x1), some (.int x2)] 12 []) (x1 : Int32) (x2 : Int32) (σ : zS) (hf : f_Rd_readAnd_12b rOr rNot rOne k12 x1 x2 σ = some out) : V l d F 0 0 (XW d h σ) [some (.ref (h 1)), some (.int x1), some (.int x2)] 12 [] := by
  unfold f_Rd_readAnd_12b at hf
  refine zr_iload_n 2 13 C (by decide +kernel) rfl rfl ?_
  refine zr_sipush (v := 160) 160 16 C (by decide +kernel) rfl rfl ?_
  refine zr_icmp_ge (off := 38) 54 19 C (by decide +kernel) (by decide) rfl hf (fun hf => ?_) (fun hf => ?_)
  · refine zr_iconst (v := 1) 1 55 C (by decide +kernel) rfl rfl ?_
    obtain rfl := Option.some.inj hf
    exact zr_zret C (by decide +kernel) rfl T
  · refine zr_aload_n 0 20 C (by decide +kernel) rfl rfl ?_
    refine xg_1_7 (idx := 41) 23 C (by decide +kernel) rfl q_117 ?_
    refine zr_bipush (v := 9) 9 25 C (by decide +kernel) rfl rfl ?_
    refine zr_icmp_ne (off := 29) 54 28 C (by decide +kernel) (by decide) rfl hf (fun hf => ?_) (fun hf => ?_)
    · refine zr_iconst (v := 1) 1 55 C (by decide +kernel) rfl rfl ?_
      obtain rfl := Option.some.inj hf
      exact zr_zret C (by decide +kernel) rfl T
    · refine zr_aload_n 0 29 C (by decide +kernel) rfl rfl ?_
      refine k_Rd_next (idx := 31) 32 C E (by decide +kernel) rfl q_414 ⟨by omega, by omega⟩ (Nat.le_of_ble_eq_true rfl) hf (fun _ σ1 hf => ?_)
      refine zr_aload_n 0 33 C (by decide +kernel) rfl rfl ?_
      refine zr_iload_n 1 34 C (by decide +kernel) rfl rfl ?_
      refine k_Rd_readNot (idx := 51) hR 37 C E (by decide +kernel) rfl q_464 ⟨by omega, by omega⟩ (Nat.le_of_ble_eq_true rfl) hf (fun r3 σ2 hf => ?_)
      refine zr_if_ne (off := 5) 42 40 C (by decide +kernel) (by decide) rfl hf (fun hf => ?_) (fun hf => ?_)
      · refine zr_aload_n 0 43 C (by decide +kernel) rfl rfl ?_
        refine zr_bipush (v := (-9)) (-9) 45 C (by decide +kernel) rfl rfl ?_
        refine k_Rd_write (idx := 47) 48 C E (by decide +kernel) rfl q_484 ⟨by omega, by omega⟩ (Nat.le_of_ble_eq_true rfl) hf (fun _ σ4 hf => ?_)
        refine zr_iinc (j := 1) 2 [some (.ref (h 1)), some (.int x1), some (.int (x2 + 1))] 51 C (by decide +kernel) rfl rfl rfl (by decide) rfl rfl ?_
        refine zr_goto (off := -39) 12 C (by decide +kernel) (by decide) ?_
        exact H12 _ _ _ hf
      · refine zr_iconst (v := 0) 0 41 C (by decide +kernel) rfl rfl ?_
        obtain rfl := Option.some.inj hf
        exact zr_zret C (by decide +kernel) rfl T
def f_Rd_readAnd_12 (rOr rNot rOne : Int32 → zS → Option (Int32 × zS))  : Nat → Int32 → Int32 → zS → Option (Int32 × zS)
  | 0, _, _, _ => none
  | n + 1, x1, x2,  σ => f_Rd_readAnd_12b rOr rNot rOne (fun x1 x2 σ => f_Rd_readAnd_12 rOr rNot rOne  n x1 x2 σ) x1 x2 σ
theorem w_Rd_readAnd_12 {l : Launch} {d : zD} {F : zF} {h : Nat → Nat} {out : Int32 × zS} {ad av : Nat → Nat} {rOr rNot rOne : Int32 → zS → Option (Int32 × zS)} {fd ld : Nat}   (C : zOk d F RX4 cX4_readAnd 3 (fd + 14) (ld + 392)) (T : zRt d F (some .boolean) (some (.int out.1)) (XW d h out.2)) (E : zXe d ad av) (hR : zRec l d h rOr rNot rOne fd ld)  : ∀ (n : Nat) (x1 : Int32) (x2 : Int32) (σ : zS), f_Rd_readAnd_12 rOr rNot rOne  n x1 x2 σ = some out → V l d F 0 0 (XW d h σ) [some (.ref (h 1)), some (.int x1), some (.int x2)] 12 [] := by
  intro n
  induction n with
  | zero =>
    intro x1 x2 σ hf
    cases hf
  | succ n ih =>
    intro x1 x2 σ hf
    exact w_Rd_readAnd_12b C T E hR ih x1 x2 σ hf
def f_Rd_readAnd (rOr rNot rOne : Int32 → zS → Option (Int32 × zS)) (p1 : Int32) (σ : zS) : Option (Int32 × zS) :=
  zbd (f_Rd_readNot rOr rNot rOne p1 σ) fun r2 σ1 =>
  (if r2 = 0 then
  some (0, σ1)
  else
  f_Rd_readAnd_12 rOr rNot rOne zfu p1 0 σ1)
set_option maxRecDepth 4000 in
theorem m_Rd_readAnd {l : Launch} {d : zD} {h : Nat → Nat} {out : Int32 × zS} {σ : zS} {ad av : Nat → Nat} {rOr rNot rOne : Int32 → zS → Option (Int32 × zS)} {fd ld : Nat} {p1 : Int32} (E : zXe d ad av) (hR : zRec l d h rOr rNot rOne fd ld) {fr lo : Nat} (h1 : (fd + 14) ≤ fr) (h2 : (ld + 392) ≤ lo) (hf : f_Rd_readAnd rOr rNot rOne p1 σ = some out) : zM l yX4_readAnd cX4_readAnd 3 (some .boolean) fr lo d [.ref (h 1), .int p1] (XW d h σ) (XW d h out.2) (some (.int out.1)) := by
  refine zM_of [some (.ref (h 1)), some (.int p1), none] (by decide +kernel) rfl (Nat.le_of_ble_eq_true rfl) (fun F C T => ?_)
  have C := zOk_le h1 h2 C
  unfold f_Rd_readAnd at hf
  refine zr_aload_n 0 1 C (by decide +kernel) rfl rfl ?_
  refine zr_iload_n 1 2 C (by decide +kernel) rfl rfl ?_
  refine k_Rd_readNot (idx := 51) hR 5 C E (by decide +kernel) rfl q_464 ⟨by omega, by omega⟩ (Nat.le_of_ble_eq_true rfl) hf (fun r2 σ1 hf => ?_)
  refine zr_if_ne (off := 5) 10 8 C (by decide +kernel) (by decide) rfl hf (fun hf => ?_) (fun hf => ?_)
  · refine zr_iconst (v := 0) 0 11 C (by decide +kernel) rfl rfl ?_
    refine zr_istore_n 2 [some (.ref (h 1)), some (.int p1), some (.int 0)] 12 C (by decide +kernel) rfl (by decide) rfl rfl ?_
    exact w_Rd_readAnd_12 C T E hR zfu _ _ _ hf
  · refine zr_iconst (v := 0) 0 9 C (by decide +kernel) rfl rfl ?_
    obtain rfl := Option.some.inj hf
    exact zr_zret C (by decide +kernel) rfl T
theorem y_Rd_readAnd : zY yX4_readAnd cX4_readAnd 3 (some .boolean) 1 := ⟨q_463, q_73, by decide +kernel, by decide +kernel, by decide +kernel⟩
theorem k_Rd_readAnd {l : Launch} {d : zD} {F : zF} {h : Nat → Nat} {σ : zS} {lv : List (Option Value)} {pc : Nat} {own : String} {cc : ByteArray} {nL fr lo idx : Nat} {rest : List Value} {β : Type} {kf : Int32 → zS → Option β} {o2 : β} {ad av : Nat → Nat} {rOr rNot rOne : Int32 → zS → Option (Int32 × zS)} {fd ld : Nat}  {p1 : Int32} (hR : zRec l d h rOr rNot rOne fd ld) (pc' : Nat) (C : zOk d F own cc nL fr lo) (E : zXe d ad av) (hd : decode cc pc = .ok (.invokevirtual idx, 3)) (hp : pc + 3 = pc') (hq : Cond.methodLink own idx yX4_readAnd ∈ zW) (hm : (fd + 14) + 1 ≤ fr ∧ 8 + (3 + 11) + (ld + 392) ≤ lo) (hr : (rest.map fun v => v.category).sum ≤ 8) (hf : zbd (f_Rd_readAnd rOr rNot rOne p1 σ) kf = some o2) (K : ∀ (r : Int32) (σ' : zS), kf r σ' = some o2 → V l d F 0 0 (XW d h σ') lv pc' (.int r :: rest)) : V l d F 0 0 (XW d h σ) lv pc (.int p1 :: .ref (h 1) :: rest) := by
  obtain ⟨q, h1, h2⟩ := zbd_some hf
  exact zr_callV y_Rd_readAnd ⟨q_462, q_6⟩ 1 rfl rfl (As := [.int p1]) (m_Rd_readAnd E hR (Nat.le_refl _) (Nat.le_refl _) h1) rfl rfl pc' C hd hp hq hm hr (K _ _ h2)
/-! StepsBeyond$Reader.readOr(I)Z -/
def f_Rd_readOr_12b (rOr rNot rOne : Int32 → zS → Option (Int32 × zS)) (k12 : Int32 → Int32 → zS → Option (Int32 × zS)) (x1 : Int32) (x2 : Int32) (σ : zS) : Option (Int32 × zS) :=
  (if 160 ≤ x2 then
  some (1, σ)
  else
  (if (σ.1 107) = 8 then
  zbd (f_Rd_next  σ) fun _ σ1 =>
  zbd (f_Rd_readAnd rOr rNot rOne x1 σ1) fun r3 σ2 =>
  (if r3 = 0 then
  some (0, σ2)
  else
  zbd (f_Rd_write (-8) σ2) fun _ σ4 =>
  k12 x1 (x2 + 1) σ4)
  else
  some (1, σ)))
set_option maxRecDepth 4000 in
theorem w_Rd_readOr_12b {l : Launch} {d : zD} {F : zF} {h : Nat → Nat} {out : Int32 × zS} {ad av : Nat → Nat} {rOr rNot rOne : Int32 → zS → Option (Int32 × zS)} {fd ld : Nat}  {k12 : Int32 → Int32 → zS → Option (Int32 × zS)} (C : zOk d F RX4 cX4_readOr 3 (fd + 15) (ld + 414)) (T : zRt d F (some .boolean) (some (.int out.1)) (XW d h out.2)) (E : zXe d ad av) (hR : zRec l d h rOr rNot rOne fd ld) (H12 : ∀ (x1 : Int32) (x2 : Int32) (σ : zS), k12 x1 x2 σ = some out → V l d F 0 0 (XW d h σ) [some (.ref (h 1)), some (.int x1), some (.int x2)] 12 []) (x1 : Int32) (x2 : Int32) (σ : zS) (hf : f_Rd_readOr_12b rOr rNot rOne k12 x1 x2 σ = some out) : V l d F 0 0 (XW d h σ) [some (.ref (h 1)), some (.int x1), some (.int x2)] 12 [] := by
  unfold f_Rd_readOr_12b at hf
  refine zr_iload_n 2 13 C (by decide +kernel) rfl rfl ?_
  refine zr_sipush (v := 160) 160 16 C (by decide +kernel) rfl rfl ?_
  refine zr_icmp_ge (off := 38) 54 19 C (by decide +kernel) (by decide) rfl hf (fun hf => ?_) (fun hf => ?_)
  · refine zr_iconst (v := 1) 1 55 C (by decide +kernel) rfl rfl ?_
    obtain rfl := Option.some.inj hf
    exact zr_zret C (by decide +kernel) rfl T
  · refine zr_aload_n 0 20 C (by decide +kernel) rfl rfl ?_
    refine xg_1_7 (idx := 41) 23 C (by decide +kernel) rfl q_117 ?_
    refine zr_bipush (v := 8) 8 25 C (by decide +kernel) rfl rfl ?_
    refine zr_icmp_ne (off := 29) 54 28 C (by decide +kernel) (by decide) rfl hf (fun hf => ?_) (fun hf => ?_)
    · refine zr_iconst (v := 1) 1 55 C (by decide +kernel) rfl rfl ?_
      obtain rfl := Option.some.inj hf
      exact zr_zret C (by decide +kernel) rfl T
    · refine zr_aload_n 0 29 C (by decide +kernel) rfl rfl ?_
      refine k_Rd_next (idx := 31) 32 C E (by decide +kernel) rfl q_414 ⟨by omega, by omega⟩ (Nat.le_of_ble_eq_true rfl) hf (fun _ σ1 hf => ?_)
      refine zr_aload_n 0 33 C (by decide +kernel) rfl rfl ?_
      refine zr_iload_n 1 34 C (by decide +kernel) rfl rfl ?_
      refine k_Rd_readAnd (idx := 44) hR 37 C E (by decide +kernel) rfl q_460 ⟨by omega, by omega⟩ (Nat.le_of_ble_eq_true rfl) hf (fun r3 σ2 hf => ?_)
      refine zr_if_ne (off := 5) 42 40 C (by decide +kernel) (by decide) rfl hf (fun hf => ?_) (fun hf => ?_)
      · refine zr_aload_n 0 43 C (by decide +kernel) rfl rfl ?_
        refine zr_bipush (v := (-8)) (-8) 45 C (by decide +kernel) rfl rfl ?_
        refine k_Rd_write (idx := 47) 48 C E (by decide +kernel) rfl q_484 ⟨by omega, by omega⟩ (Nat.le_of_ble_eq_true rfl) hf (fun _ σ4 hf => ?_)
        refine zr_iinc (j := 1) 2 [some (.ref (h 1)), some (.int x1), some (.int (x2 + 1))] 51 C (by decide +kernel) rfl rfl rfl (by decide) rfl rfl ?_
        refine zr_goto (off := -39) 12 C (by decide +kernel) (by decide) ?_
        exact H12 _ _ _ hf
      · refine zr_iconst (v := 0) 0 41 C (by decide +kernel) rfl rfl ?_
        obtain rfl := Option.some.inj hf
        exact zr_zret C (by decide +kernel) rfl T
def f_Rd_readOr_12 (rOr rNot rOne : Int32 → zS → Option (Int32 × zS))  : Nat → Int32 → Int32 → zS → Option (Int32 × zS)
  | 0, _, _, _ => none
  | n + 1, x1, x2,  σ => f_Rd_readOr_12b rOr rNot rOne (fun x1 x2 σ => f_Rd_readOr_12 rOr rNot rOne  n x1 x2 σ) x1 x2 σ
theorem w_Rd_readOr_12 {l : Launch} {d : zD} {F : zF} {h : Nat → Nat} {out : Int32 × zS} {ad av : Nat → Nat} {rOr rNot rOne : Int32 → zS → Option (Int32 × zS)} {fd ld : Nat}   (C : zOk d F RX4 cX4_readOr 3 (fd + 15) (ld + 414)) (T : zRt d F (some .boolean) (some (.int out.1)) (XW d h out.2)) (E : zXe d ad av) (hR : zRec l d h rOr rNot rOne fd ld)  : ∀ (n : Nat) (x1 : Int32) (x2 : Int32) (σ : zS), f_Rd_readOr_12 rOr rNot rOne  n x1 x2 σ = some out → V l d F 0 0 (XW d h σ) [some (.ref (h 1)), some (.int x1), some (.int x2)] 12 [] := by
  intro n
  induction n with
  | zero =>
    intro x1 x2 σ hf
    cases hf
  | succ n ih =>
    intro x1 x2 σ hf
    exact w_Rd_readOr_12b C T E hR ih x1 x2 σ hf
def f_Rd_readOr (rOr rNot rOne : Int32 → zS → Option (Int32 × zS)) (p1 : Int32) (σ : zS) : Option (Int32 × zS) :=
  zbd (f_Rd_readAnd rOr rNot rOne p1 σ) fun r2 σ1 =>
  (if r2 = 0 then
  some (0, σ1)
  else
  f_Rd_readOr_12 rOr rNot rOne zfu p1 0 σ1)
set_option maxRecDepth 4000 in
theorem m_Rd_readOr {l : Launch} {d : zD} {h : Nat → Nat} {out : Int32 × zS} {σ : zS} {ad av : Nat → Nat} {rOr rNot rOne : Int32 → zS → Option (Int32 × zS)} {fd ld : Nat} {p1 : Int32} (E : zXe d ad av) (hR : zRec l d h rOr rNot rOne fd ld) {fr lo : Nat} (h1 : (fd + 15) ≤ fr) (h2 : (ld + 414) ≤ lo) (hf : f_Rd_readOr rOr rNot rOne p1 σ = some out) : zM l yX4_readOr cX4_readOr 3 (some .boolean) fr lo d [.ref (h 1), .int p1] (XW d h σ) (XW d h out.2) (some (.int out.1)) := by
  refine zM_of [some (.ref (h 1)), some (.int p1), none] (by decide +kernel) rfl (Nat.le_of_ble_eq_true rfl) (fun F C T => ?_)
  have C := zOk_le h1 h2 C
  unfold f_Rd_readOr at hf
  refine zr_aload_n 0 1 C (by decide +kernel) rfl rfl ?_
  refine zr_iload_n 1 2 C (by decide +kernel) rfl rfl ?_
  refine k_Rd_readAnd (idx := 44) hR 5 C E (by decide +kernel) rfl q_460 ⟨by omega, by omega⟩ (Nat.le_of_ble_eq_true rfl) hf (fun r2 σ1 hf => ?_)
  refine zr_if_ne (off := 5) 10 8 C (by decide +kernel) (by decide) rfl hf (fun hf => ?_) (fun hf => ?_)
  · refine zr_iconst (v := 0) 0 11 C (by decide +kernel) rfl rfl ?_
    refine zr_istore_n 2 [some (.ref (h 1)), some (.int p1), some (.int 0)] 12 C (by decide +kernel) rfl (by decide) rfl rfl ?_
    exact w_Rd_readOr_12 C T E hR zfu _ _ _ hf
  · refine zr_iconst (v := 0) 0 9 C (by decide +kernel) rfl rfl ?_
    obtain rfl := Option.some.inj hf
    exact zr_zret C (by decide +kernel) rfl T
theorem y_Rd_readOr : zY yX4_readOr cX4_readOr 3 (some .boolean) 1 := ⟨q_459, q_73, by decide +kernel, by decide +kernel, by decide +kernel⟩
theorem k_Rd_readOr {l : Launch} {d : zD} {F : zF} {h : Nat → Nat} {σ : zS} {lv : List (Option Value)} {pc : Nat} {own : String} {cc : ByteArray} {nL fr lo idx : Nat} {rest : List Value} {β : Type} {kf : Int32 → zS → Option β} {o2 : β} {ad av : Nat → Nat} {rOr rNot rOne : Int32 → zS → Option (Int32 × zS)} {fd ld : Nat}  {p1 : Int32} (hR : zRec l d h rOr rNot rOne fd ld) (pc' : Nat) (C : zOk d F own cc nL fr lo) (E : zXe d ad av) (hd : decode cc pc = .ok (.invokevirtual idx, 3)) (hp : pc + 3 = pc') (hq : Cond.methodLink own idx yX4_readOr ∈ zW) (hm : (fd + 15) + 1 ≤ fr ∧ 8 + (3 + 11) + (ld + 414) ≤ lo) (hr : (rest.map fun v => v.category).sum ≤ 8) (hf : zbd (f_Rd_readOr rOr rNot rOne p1 σ) kf = some o2) (K : ∀ (r : Int32) (σ' : zS), kf r σ' = some o2 → V l d F 0 0 (XW d h σ') lv pc' (.int r :: rest)) : V l d F 0 0 (XW d h σ) lv pc (.int p1 :: .ref (h 1) :: rest) := by
  obtain ⟨q, h1, h2⟩ := zbd_some hf
  exact zr_callV y_Rd_readOr ⟨q_458, q_5⟩ 1 rfl rfl (As := [.int p1]) (m_Rd_readOr E hR (Nat.le_refl _) (Nat.le_refl _) h1) rfl rfl pc' C hd hp hq hm hr (K _ _ h2)
def zkn : Nat → (Int32 → zS → Option (Int32 × zS)) × (Int32 → zS → Option (Int32 × zS)) × (Int32 → zS → Option (Int32 × zS))
  | 0 => (fun _ _ => none, fun _ _ => none, fun _ _ => none)
  | n + 1 => (f_Rd_readOr (zkn n).1 (zkn n).2.1 (zkn n).2.2, f_Rd_readNot (zkn n).1 (zkn n).2.1 (zkn n).2.2, f_Rd_readOne (zkn n).1 (zkn n).2.1 (zkn n).2.2)
theorem zkn_ok {l : Launch} {d : zD} {h : Nat → Nat} {ad av : Nat → Nat} (E : zXe d ad av) : ∀ n : Nat, zRec l d h (zkn n).1 (zkn n).2.1 (zkn n).2.2 (15 * n) (414 * n)
  | 0 => ⟨fun _ _ _ h => (by cases h), fun _ _ _ h => (by cases h), fun _ _ _ h => (by cases h)⟩
  | n + 1 => ⟨fun _ _ _ hf => m_Rd_readOr E (zkn_ok E n) (by omega) (by omega) hf, fun _ _ _ hf => m_Rd_readNot E (zkn_ok E n) (by omega) (by omega) hf, fun _ _ _ hf => m_Rd_readOne E (zkn_ok E n) (by omega) (by omega) hf⟩
def f_Rd_readOrK (p1 : Int32) (σ : zS) : Option (Int32 × zS) := (zkn 8).1 p1 σ
theorem k_Rd_readOrK {l : Launch} {d : zD} {F : zF} {h : Nat → Nat} {σ : zS} {lv : List (Option Value)} {pc : Nat} {own : String} {cc : ByteArray} {nL fr lo idx : Nat} {rest : List Value} {β : Type} {kf : Int32 → zS → Option β} {o2 : β} {ad av : Nat → Nat} {p1 : Int32} (pc' : Nat) (C : zOk d F own cc nL fr lo) (E : zXe d ad av) (hd : decode cc pc = .ok (.invokevirtual idx, 3)) (hp : pc + 3 = pc') (hq : Cond.methodLink own idx yX4_readOr ∈ zW) (hm : 120 + 1 ≤ fr ∧ 8 + (3 + 11) + 3312 ≤ lo) (hr : (rest.map fun v => v.category).sum ≤ 8) (hf : zbd (f_Rd_readOrK p1 σ) kf = some o2) (K : ∀ (r : Int32) (σ' : zS), kf r σ' = some o2 → V l d F 0 0 (XW d h σ') lv pc' (.int r :: rest)) : V l d F 0 0 (XW d h σ) lv pc (.int p1 :: .ref (h 1) :: rest) := krOr (zkn_ok E 8) pc' C hd hp hq hm hr hf K
/-! StepsBeyond$Reader.readText()Z -/
def f_Rd_readText  (σ : zS) : Option (Int32 × zS) :=
  zlt (zsg σ 103 0) fun σ1 =>
  zlt (zsg σ1 104 0) fun σ2 =>
  zlt (zsg σ2 106 0) fun σ3 =>
  zbd (f_Rd_next  σ3) fun _ σ4 =>
  zbd (f_Rd_pass 3 σ4) fun r6 σ5 =>
  (if r6 = 0 then
  some (0, σ5)
  else
  zbd (f_Rd_readOrK 0 σ5) fun r8 σ7 =>
  (if r8 = 0 then
  some (0, σ7)
  else
  zbd (f_Rd_pass 7 σ7) fun r10 σ9 =>
  (if r10 = 0 then
  some (0, σ9)
  else
  zlt (zsg σ9 104 (σ9.1 103)) fun σ11 =>
  zbd (f_Rd_pass 4 σ11) fun r13 σ12 =>
  (if r13 = 0 then
  some (0, σ12)
  else
  zbd (f_Rd_readOrK 0 σ12) fun r15 σ14 =>
  (if r15 = 0 then
  some (0, σ14)
  else
  zbd (f_Rd_pass 7 σ14) fun r17 σ16 =>
  (if r17 = 0 then
  some (0, σ16)
  else
  (if (σ16.1 107) = 0 then
  some (1, σ16)
  else
  some (0, σ16))))))))
set_option maxRecDepth 4000 in
theorem m_Rd_readText {l : Launch} {d : zD} {h : Nat → Nat} {out : Int32 × zS} {σ : zS} {ad av : Nat → Nat}  (E : zXe d ad av) (hf : f_Rd_readText  σ = some out) : zM l yX4_readText cX4_readText 1 (some .boolean) 121 3334 d [.ref (h 1)] (XW d h σ) (XW d h out.2) (some (.int out.1)) := by
  refine zM_of [some (.ref (h 1))] (by decide +kernel) rfl (Nat.le_of_ble_eq_true rfl) (fun F C T => ?_)
  unfold f_Rd_readText at hf
  refine zr_aload_n 0 1 C (by decide +kernel) rfl rfl ?_
  refine zr_iconst (v := 0) 0 2 C (by decide +kernel) rfl rfl ?_
  refine xp_1_3 (idx := 22) 5 C (by decide +kernel) rfl q_111 hf (fun σ1 hf => ?_)
  refine zr_aload_n 0 6 C (by decide +kernel) rfl rfl ?_
  refine zr_iconst (v := 0) 0 7 C (by decide +kernel) rfl rfl ?_
  refine xp_1_4 (idx := 25) 10 C (by decide +kernel) rfl q_113 hf (fun σ2 hf => ?_)
  refine zr_aload_n 0 11 C (by decide +kernel) rfl rfl ?_
  refine zr_iconst (v := 0) 0 12 C (by decide +kernel) rfl rfl ?_
  refine xp_1_6 (idx := 28) 15 C (by decide +kernel) rfl q_116 hf (fun σ3 hf => ?_)
  refine zr_aload_n 0 16 C (by decide +kernel) rfl rfl ?_
  refine k_Rd_next (idx := 31) 19 C E (by decide +kernel) rfl q_414 (zb2 rfl rfl) (Nat.le_of_ble_eq_true rfl) hf (fun _ σ4 hf => ?_)
  refine zr_aload_n 0 20 C (by decide +kernel) rfl rfl ?_
  refine zr_iconst (v := 3) 3 21 C (by decide +kernel) rfl rfl ?_
  refine k_Rd_pass (idx := 34) 24 C E (by decide +kernel) rfl q_452 (zb2 rfl rfl) (Nat.le_of_ble_eq_true rfl) hf (fun r6 σ5 hf => ?_)
  refine zr_if_eq (off := 20) 44 27 C (by decide +kernel) (by decide) rfl hf (fun hf => ?_) (fun hf => ?_)
  · refine zr_iconst (v := 0) 0 45 C (by decide +kernel) rfl rfl ?_
    obtain rfl := Option.some.inj hf
    exact zr_zret C (by decide +kernel) rfl T
  · refine zr_aload_n 0 28 C (by decide +kernel) rfl rfl ?_
    refine zr_iconst (v := 0) 0 29 C (by decide +kernel) rfl rfl ?_
    refine k_Rd_readOrK (idx := 38) 32 C E (by decide +kernel) rfl q_456 (zb2 rfl rfl) (Nat.le_of_ble_eq_true rfl) hf (fun r8 σ7 hf => ?_)
    refine zr_if_eq (off := 12) 44 35 C (by decide +kernel) (by decide) rfl hf (fun hf => ?_) (fun hf => ?_)
    · refine zr_iconst (v := 0) 0 45 C (by decide +kernel) rfl rfl ?_
      obtain rfl := Option.some.inj hf
      exact zr_zret C (by decide +kernel) rfl T
    · refine zr_aload_n 0 36 C (by decide +kernel) rfl rfl ?_
      refine zr_bipush (v := 7) 7 38 C (by decide +kernel) rfl rfl ?_
      refine k_Rd_pass (idx := 34) 41 C E (by decide +kernel) rfl q_452 (zb2 rfl rfl) (Nat.le_of_ble_eq_true rfl) hf (fun r10 σ9 hf => ?_)
      refine zr_if_ne (off := 5) 46 44 C (by decide +kernel) (by decide) rfl hf (fun hf => ?_) (fun hf => ?_)
      · refine zr_aload_n 0 47 C (by decide +kernel) rfl rfl ?_
        refine zr_aload_n 0 48 C (by decide +kernel) rfl rfl ?_
        refine xg_1_3 (idx := 22) 51 C (by decide +kernel) rfl q_111 ?_
        refine xp_1_4 (idx := 25) 54 C (by decide +kernel) rfl q_113 hf (fun σ11 hf => ?_)
        refine zr_aload_n 0 55 C (by decide +kernel) rfl rfl ?_
        refine zr_iconst (v := 4) 4 56 C (by decide +kernel) rfl rfl ?_
        refine k_Rd_pass (idx := 34) 59 C E (by decide +kernel) rfl q_452 (zb2 rfl rfl) (Nat.le_of_ble_eq_true rfl) hf (fun r13 σ12 hf => ?_)
        refine zr_if_eq (off := 31) 90 62 C (by decide +kernel) (by decide) rfl hf (fun hf => ?_) (fun hf => ?_)
        · refine zr_iconst (v := 0) 0 91 C (by decide +kernel) rfl rfl ?_
          obtain rfl := Option.some.inj hf
          exact zr_zret C (by decide +kernel) rfl T
        · refine zr_aload_n 0 63 C (by decide +kernel) rfl rfl ?_
          refine zr_iconst (v := 0) 0 64 C (by decide +kernel) rfl rfl ?_
          refine k_Rd_readOrK (idx := 38) 67 C E (by decide +kernel) rfl q_456 (zb2 rfl rfl) (Nat.le_of_ble_eq_true rfl) hf (fun r15 σ14 hf => ?_)
          refine zr_if_eq (off := 23) 90 70 C (by decide +kernel) (by decide) rfl hf (fun hf => ?_) (fun hf => ?_)
          · refine zr_iconst (v := 0) 0 91 C (by decide +kernel) rfl rfl ?_
            obtain rfl := Option.some.inj hf
            exact zr_zret C (by decide +kernel) rfl T
          · refine zr_aload_n 0 71 C (by decide +kernel) rfl rfl ?_
            refine zr_bipush (v := 7) 7 73 C (by decide +kernel) rfl rfl ?_
            refine k_Rd_pass (idx := 34) 76 C E (by decide +kernel) rfl q_452 (zb2 rfl rfl) (Nat.le_of_ble_eq_true rfl) hf (fun r17 σ16 hf => ?_)
            refine zr_if_eq (off := 14) 90 79 C (by decide +kernel) (by decide) rfl hf (fun hf => ?_) (fun hf => ?_)
            · refine zr_iconst (v := 0) 0 91 C (by decide +kernel) rfl rfl ?_
              obtain rfl := Option.some.inj hf
              exact zr_zret C (by decide +kernel) rfl T
            · refine zr_aload_n 0 80 C (by decide +kernel) rfl rfl ?_
              refine xg_1_7 (idx := 41) 83 C (by decide +kernel) rfl q_117 ?_
              refine zr_if_ne (off := 7) 90 86 C (by decide +kernel) (by decide) rfl hf (fun hf => ?_) (fun hf => ?_)
              · refine zr_iconst (v := 0) 0 91 C (by decide +kernel) rfl rfl ?_
                obtain rfl := Option.some.inj hf
                exact zr_zret C (by decide +kernel) rfl T
              · refine zr_iconst (v := 1) 1 87 C (by decide +kernel) rfl rfl ?_
                refine zr_goto (off := 4) 91 C (by decide +kernel) (by decide) ?_
                obtain rfl := Option.some.inj hf
                exact zr_zret C (by decide +kernel) rfl T
      · refine zr_iconst (v := 0) 0 45 C (by decide +kernel) rfl rfl ?_
        obtain rfl := Option.some.inj hf
        exact zr_zret C (by decide +kernel) rfl T
theorem y_Rd_readText : zY yX4_readText cX4_readText 1 (some .boolean) 0 := ⟨q_413, q_73, by decide +kernel, by decide +kernel, by decide +kernel⟩
theorem k_Rd_readText {l : Launch} {d : zD} {F : zF} {h : Nat → Nat} {σ : zS} {lv : List (Option Value)} {pc : Nat} {own : String} {cc : ByteArray} {nL fr lo idx : Nat} {rest : List Value} {β : Type} {kf : Int32 → zS → Option β} {o2 : β} {ad av : Nat → Nat}   (pc' : Nat) (C : zOk d F own cc nL fr lo) (E : zXe d ad av) (hd : decode cc pc = .ok (.invokevirtual idx, 3)) (hp : pc + 3 = pc') (hq : Cond.methodLink own idx yX4_readText ∈ zW) (hm : 121 + 1 ≤ fr ∧ 8 + (1 + 11) + 3334 ≤ lo) (hr : (rest.map fun v => v.category).sum ≤ 8) (hf : zbd (f_Rd_readText  σ) kf = some o2) (K : ∀ (r : Int32) (σ' : zS), kf r σ' = some o2 → V l d F 0 0 (XW d h σ') lv pc' (.int r :: rest)) : V l d F 0 0 (XW d h σ) lv pc (.ref (h 1) :: rest) := by
  obtain ⟨q, h1, h2⟩ := zbd_some hf
  exact zr_callV y_Rd_readText ⟨q_411, q_412⟩ 1 rfl rfl (As := []) (m_Rd_readText E h1) rfl rfl pc' C hd hp hq hm hr (K _ _ h2)

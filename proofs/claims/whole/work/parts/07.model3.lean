/-! StepsBeyondModel.spreads(I)V -/
def f_M_spreads_213 (k62 : zS → Option (Int32 × zS))  (σ : zS) : Option (Int32 × zS) :=
  k62 σ
set_option maxRecDepth 4000 in
theorem w_M_spreads_213 {l : Launch} {d : zD} {F : zF} {h : Nat → Nat} {out : Int32 × zS}  {k62 : zS → Option (Int32 × zS)} (C : zOk d F RX11 cX11_spreads 5 2 47) (T : zRt d F none none (MW d h out.2)) (H62 : ∀  (σ : zS), k62  σ = some out → V l d F 0 0 (MW d h σ) [some (.ref (h 0)), none, none, none, none] 62 [])  (σ : zS) (hf : f_M_spreads_213 k62  σ = some out) : V l d F 0 0 (MW d h σ) [some (.ref (h 0)), none, none, none, none] 213 [] := by
  unfold f_M_spreads_213 at hf
  refine zr_goto (off := -151) 62 C (by decide +kernel) (by decide) ?_
  exact H62 _ hf
def f_M_spreads_193 (k62 : zS → Option (Int32 × zS)) (x2 : Int32) (x3 : Int32) (x4 : Int32) (σ : zS) : Option (Int32 × zS) :=
  (if x3 ≤ 0 then
  f_M_spreads_213 k62 σ
  else
  zbd (f_M_cost 0 x3 x4 σ) fun r2 σ1 =>
  zbd (f_M_tries x2 (x2 - 1) r2 σ1) fun _ σ3 =>
  f_M_spreads_213 k62 σ3)
set_option maxRecDepth 4000 in
theorem w_M_spreads_193 {l : Launch} {d : zD} {F : zF} {h : Nat → Nat} {out : Int32 × zS}  {k62 : zS → Option (Int32 × zS)} (C : zOk d F RX11 cX11_spreads 5 2 47) (T : zRt d F none none (MW d h out.2)) (H62 : ∀  (σ : zS), k62  σ = some out → V l d F 0 0 (MW d h σ) [some (.ref (h 0)), none, none, none, none] 62 []) (x2 : Int32) (x3 : Int32) (x4 : Int32) (σ : zS) (hf : f_M_spreads_193 k62 x2 x3 x4 σ = some out) : V l d F 0 0 (MW d h σ) [some (.ref (h 0)), none, some (.int x2), some (.int x3), some (.int x4)] 193 [] := by
  unfold f_M_spreads_193 at hf
  refine zr_iload_n 3 194 C (by decide +kernel) rfl rfl ?_
  refine zr_if_le (off := 19) 213 197 C (by decide +kernel) (by decide) rfl hf (fun hf => ?_) (fun hf => ?_)
  · refine zr_less (zA (zN (zN (zN (zN zE))))) ?_
    exact w_M_spreads_213 C T H62 _ hf
  · refine zr_aload_n 0 198 C (by decide +kernel) rfl rfl ?_
    refine zr_iload_n 2 199 C (by decide +kernel) rfl rfl ?_
    refine zr_iload_n 2 200 C (by decide +kernel) rfl rfl ?_
    refine zr_iconst (v := 1) 1 201 C (by decide +kernel) rfl rfl ?_
    refine zr_isub 202 C (by decide +kernel) rfl ?_
    refine zr_aload_n 0 203 C (by decide +kernel) rfl rfl ?_
    refine zr_iconst (v := 0) 0 204 C (by decide +kernel) rfl rfl ?_
    refine zr_iload_n 3 205 C (by decide +kernel) rfl rfl ?_
    refine zr_iload 4 207 C (by decide +kernel) rfl rfl ?_
    refine k_M_cost (idx := 318) 210 C (by decide +kernel) rfl q_1382 (zb2 rfl rfl) (Nat.le_of_ble_eq_true rfl) hf (fun r2 σ1 hf => ?_)
    refine k_M_tries (idx := 321) 213 C (by decide +kernel) rfl q_1386 (zb2 rfl rfl) (Nat.le_of_ble_eq_true rfl) hf (fun _ σ3 hf => ?_)
    refine zr_less (zA (zN (zN (zN (zN zE))))) ?_
    exact w_M_spreads_213 C T H62 _ hf
def f_M_spreads_167 (k62 : zS → Option (Int32 × zS)) (x2 : Int32) (x3 : Int32) (x4 : Int32) (σ : zS) : Option (Int32 × zS) :=
  (if 39 ≤ x4 then
  f_M_spreads_193 k62 x2 x3 x4 σ
  else
  zbd (f_M_cost 1 (x4 + 1) x3 σ) fun r2 σ1 =>
  zbd (f_M_tries x2 (x2 + 40) r2 σ1) fun _ σ3 =>
  f_M_spreads_193 k62 x2 x3 x4 σ3)
set_option maxRecDepth 4000 in
theorem w_M_spreads_167 {l : Launch} {d : zD} {F : zF} {h : Nat → Nat} {out : Int32 × zS}  {k62 : zS → Option (Int32 × zS)} (C : zOk d F RX11 cX11_spreads 5 2 47) (T : zRt d F none none (MW d h out.2)) (H62 : ∀  (σ : zS), k62  σ = some out → V l d F 0 0 (MW d h σ) [some (.ref (h 0)), none, none, none, none] 62 []) (x2 : Int32) (x3 : Int32) (x4 : Int32) (σ : zS) (hf : f_M_spreads_167 k62 x2 x3 x4 σ = some out) : V l d F 0 0 (MW d h σ) [some (.ref (h 0)), none, some (.int x2), some (.int x3), some (.int x4)] 167 [] := by
  unfold f_M_spreads_167 at hf
  refine zr_iload 4 169 C (by decide +kernel) rfl rfl ?_
  refine zr_bipush (v := 39) 39 171 C (by decide +kernel) rfl rfl ?_
  refine zr_icmp_ge (off := 22) 193 174 C (by decide +kernel) (by decide) rfl hf (fun hf => ?_) (fun hf => ?_)
  · exact w_M_spreads_193 C T H62 _ _ _ _ hf
  · refine zr_aload_n 0 175 C (by decide +kernel) rfl rfl ?_
    refine zr_iload_n 2 176 C (by decide +kernel) rfl rfl ?_
    refine zr_iload_n 2 177 C (by decide +kernel) rfl rfl ?_
    refine zr_bipush (v := 40) 40 179 C (by decide +kernel) rfl rfl ?_
    refine zr_iadd 180 C (by decide +kernel) rfl ?_
    refine zr_aload_n 0 181 C (by decide +kernel) rfl rfl ?_
    refine zr_iconst (v := 1) 1 182 C (by decide +kernel) rfl rfl ?_
    refine zr_iload 4 184 C (by decide +kernel) rfl rfl ?_
    refine zr_iconst (v := 1) 1 185 C (by decide +kernel) rfl rfl ?_
    refine zr_iadd 186 C (by decide +kernel) rfl ?_
    refine zr_iload_n 3 187 C (by decide +kernel) rfl rfl ?_
    refine k_M_cost (idx := 318) 190 C (by decide +kernel) rfl q_1382 (zb2 rfl rfl) (Nat.le_of_ble_eq_true rfl) hf (fun r2 σ1 hf => ?_)
    refine k_M_tries (idx := 321) 193 C (by decide +kernel) rfl q_1386 (zb2 rfl rfl) (Nat.le_of_ble_eq_true rfl) hf (fun _ σ3 hf => ?_)
    exact w_M_spreads_193 C T H62 _ _ _ _ hf
def f_M_spreads_143 (k62 : zS → Option (Int32 × zS)) (x2 : Int32) (x3 : Int32) (x4 : Int32) (σ : zS) : Option (Int32 × zS) :=
  (if 39 ≤ x3 then
  f_M_spreads_167 k62 x2 x3 x4 σ
  else
  zbd (f_M_cost 0 (x3 + 1) x4 σ) fun r2 σ1 =>
  zbd (f_M_tries x2 (x2 + 1) r2 σ1) fun _ σ3 =>
  f_M_spreads_167 k62 x2 x3 x4 σ3)
set_option maxRecDepth 4000 in
theorem w_M_spreads_143 {l : Launch} {d : zD} {F : zF} {h : Nat → Nat} {out : Int32 × zS}  {k62 : zS → Option (Int32 × zS)} (C : zOk d F RX11 cX11_spreads 5 2 47) (T : zRt d F none none (MW d h out.2)) (H62 : ∀  (σ : zS), k62  σ = some out → V l d F 0 0 (MW d h σ) [some (.ref (h 0)), none, none, none, none] 62 []) (x2 : Int32) (x3 : Int32) (x4 : Int32) (σ : zS) (hf : f_M_spreads_143 k62 x2 x3 x4 σ = some out) : V l d F 0 0 (MW d h σ) [some (.ref (h 0)), none, some (.int x2), some (.int x3), some (.int x4)] 143 [] := by
  unfold f_M_spreads_143 at hf
  refine zr_iload_n 3 144 C (by decide +kernel) rfl rfl ?_
  refine zr_bipush (v := 39) 39 146 C (by decide +kernel) rfl rfl ?_
  refine zr_icmp_ge (off := 21) 167 149 C (by decide +kernel) (by decide) rfl hf (fun hf => ?_) (fun hf => ?_)
  · exact w_M_spreads_167 C T H62 _ _ _ _ hf
  · refine zr_aload_n 0 150 C (by decide +kernel) rfl rfl ?_
    refine zr_iload_n 2 151 C (by decide +kernel) rfl rfl ?_
    refine zr_iload_n 2 152 C (by decide +kernel) rfl rfl ?_
    refine zr_iconst (v := 1) 1 153 C (by decide +kernel) rfl rfl ?_
    refine zr_iadd 154 C (by decide +kernel) rfl ?_
    refine zr_aload_n 0 155 C (by decide +kernel) rfl rfl ?_
    refine zr_iconst (v := 0) 0 156 C (by decide +kernel) rfl rfl ?_
    refine zr_iload_n 3 157 C (by decide +kernel) rfl rfl ?_
    refine zr_iconst (v := 1) 1 158 C (by decide +kernel) rfl rfl ?_
    refine zr_iadd 159 C (by decide +kernel) rfl ?_
    refine zr_iload 4 161 C (by decide +kernel) rfl rfl ?_
    refine k_M_cost (idx := 318) 164 C (by decide +kernel) rfl q_1382 (zb2 rfl rfl) (Nat.le_of_ble_eq_true rfl) hf (fun r2 σ1 hf => ?_)
    refine k_M_tries (idx := 321) 167 C (by decide +kernel) rfl q_1386 (zb2 rfl rfl) (Nat.le_of_ble_eq_true rfl) hf (fun _ σ3 hf => ?_)
    exact w_M_spreads_167 C T H62 _ _ _ _ hf
def f_M_spreads_62b (k62 : zS → Option (Int32 × zS))  (σ : zS) : Option (Int32 × zS) :=
  (if (σ.1 58) ≤ 0 then
  some (0, σ)
  else
  zin (σ.1 57) 1600 (zlt (σ.2 29 (σ.1 57).toNatClampNeg) fun v1 => 
  zlt (zsg σ 57 (zrem ((σ.1 57) + 1) 1600)) fun σ2 =>
  zlt (zsg σ2 58 ((σ2.1 58) - 1)) fun σ3 =>
  zin v1 1600 (zlt (zsa σ3 30 v1 (vp_nar .boolean 0)) fun σ4 =>
  zlt (zrem v1 40) fun v5 => 
  zlt (v1 / 40) fun v6 => 
  (if v6 ≤ 0 then
  f_M_spreads_143 k62 v1 v5 v6 σ4
  else
  zbd (f_M_cost 1 v6 v5 σ4) fun r8 σ7 =>
  zbd (f_M_tries v1 (v1 - 40) r8 σ7) fun _ σ9 =>
  f_M_spreads_143 k62 v1 v5 v6 σ9))))
set_option maxRecDepth 4000 in
theorem w_M_spreads_62b {l : Launch} {d : zD} {F : zF} {h : Nat → Nat} {out : Int32 × zS}  {k62 : zS → Option (Int32 × zS)} (C : zOk d F RX11 cX11_spreads 5 2 47) (T : zRt d F none none (MW d h out.2)) (H62 : ∀  (σ : zS), k62  σ = some out → V l d F 0 0 (MW d h σ) [some (.ref (h 0)), none, none, none, none] 62 [])  (σ : zS) (hf : f_M_spreads_62b k62  σ = some out) : V l d F 0 0 (MW d h σ) [some (.ref (h 0)), none, none, none, none] 62 [] := by
  unfold f_M_spreads_62b at hf
  refine zr_aload_n 0 63 C (by decide +kernel) rfl rfl ?_
  refine mg_0_58 (idx := 314) 66 C (by decide +kernel) rfl q_1049 ?_
  refine zr_if_le (off := 150) 216 69 C (by decide +kernel) (by decide) rfl hf (fun hf => ?_) (fun hf => ?_)
  · obtain rfl := Option.some.inj hf
    exact zr_vret C (by decide +kernel) T
  · refine zr_aload_n 0 70 C (by decide +kernel) rfl rfl ?_
    refine mg_0_55 (idx := 122) 73 C (by decide +kernel) rfl q_1046 ?_
    refine zr_aload_n 0 74 C (by decide +kernel) rfl rfl ?_
    refine mg_0_57 (idx := 311) 77 C (by decide +kernel) rfl q_1048 ?_
    refine ml_29 78 C (by decide +kernel) rfl hf (fun hf => ?_)
    refine zr_name hf (fun v1 hf => ?_)
    refine zr_istore_n 2 [some (.ref (h 0)), none, some (.int v1), none, none] 79 C (by decide +kernel) rfl (by decide) rfl rfl ?_
    refine zr_aload_n 0 80 C (by decide +kernel) rfl rfl ?_
    refine zr_aload_n 0 81 C (by decide +kernel) rfl rfl ?_
    refine mg_0_57 (idx := 311) 84 C (by decide +kernel) rfl q_1048 ?_
    refine zr_iconst (v := 1) 1 85 C (by decide +kernel) rfl rfl ?_
    refine zr_iadd 86 C (by decide +kernel) rfl ?_
    refine zr_sipush (v := 1600) 1600 89 C (by decide +kernel) rfl rfl ?_
    refine zr_irem 90 C (by decide +kernel) rfl (by decide) ?_
    refine mp_0_57 (idx := 311) 93 C (by decide +kernel) rfl q_1048 hf (fun σ2 hf => ?_)
    refine zr_aload_n 0 94 C (by decide +kernel) rfl rfl ?_
    refine zr_dup 95 C (by decide +kernel) rfl rfl ?_
    refine mg_0_58 (idx := 314) 98 C (by decide +kernel) rfl q_1049 ?_
    refine zr_iconst (v := 1) 1 99 C (by decide +kernel) rfl rfl ?_
    refine zr_isub 100 C (by decide +kernel) rfl ?_
    refine mp_0_58 (idx := 314) 103 C (by decide +kernel) rfl q_1049 hf (fun σ3 hf => ?_)
    refine zr_aload_n 0 104 C (by decide +kernel) rfl rfl ?_
    refine mg_0_56 (idx := 125) 107 C (by decide +kernel) rfl q_1047 ?_
    refine zr_iload_n 2 108 C (by decide +kernel) rfl rfl ?_
    refine zr_iconst (v := 0) 0 109 C (by decide +kernel) rfl rfl ?_
    refine ms_30 110 C (by decide +kernel) rfl hf (fun σ4 hf => ?_)
    refine zr_iload_n 2 111 C (by decide +kernel) rfl rfl ?_
    refine zr_bipush (v := 40) 40 113 C (by decide +kernel) rfl rfl ?_
    refine zr_irem 114 C (by decide +kernel) rfl (by decide) ?_
    refine zr_name hf (fun v5 hf => ?_)
    refine zr_istore_n 3 [some (.ref (h 0)), none, some (.int v1), some (.int v5), none] 115 C (by decide +kernel) rfl (by decide) rfl rfl ?_
    refine zr_iload_n 2 116 C (by decide +kernel) rfl rfl ?_
    refine zr_bipush (v := 40) 40 118 C (by decide +kernel) rfl rfl ?_
    refine zr_idiv 119 C (by decide +kernel) rfl (by decide) ?_
    refine zr_name hf (fun v6 hf => ?_)
    refine zr_istore 4 [some (.ref (h 0)), none, some (.int v1), some (.int v5), some (.int v6)] 121 C (by decide +kernel) rfl (by decide) rfl rfl ?_
    refine zr_iload 4 123 C (by decide +kernel) rfl rfl ?_
    refine zr_if_le (off := 20) 143 126 C (by decide +kernel) (by decide) rfl hf (fun hf => ?_) (fun hf => ?_)
    · exact w_M_spreads_143 C T H62 _ _ _ _ hf
    · refine zr_aload_n 0 127 C (by decide +kernel) rfl rfl ?_
      refine zr_iload_n 2 128 C (by decide +kernel) rfl rfl ?_
      refine zr_iload_n 2 129 C (by decide +kernel) rfl rfl ?_
      refine zr_bipush (v := 40) 40 131 C (by decide +kernel) rfl rfl ?_
      refine zr_isub 132 C (by decide +kernel) rfl ?_
      refine zr_aload_n 0 133 C (by decide +kernel) rfl rfl ?_
      refine zr_iconst (v := 1) 1 134 C (by decide +kernel) rfl rfl ?_
      refine zr_iload 4 136 C (by decide +kernel) rfl rfl ?_
      refine zr_iload_n 3 137 C (by decide +kernel) rfl rfl ?_
      refine k_M_cost (idx := 318) 140 C (by decide +kernel) rfl q_1382 (zb2 rfl rfl) (Nat.le_of_ble_eq_true rfl) hf (fun r8 σ7 hf => ?_)
      refine k_M_tries (idx := 321) 143 C (by decide +kernel) rfl q_1386 (zb2 rfl rfl) (Nat.le_of_ble_eq_true rfl) hf (fun _ σ9 hf => ?_)
      exact w_M_spreads_143 C T H62 _ _ _ _ hf
def f_M_spreads_62  : Nat → zS → Option (Int32 × zS)
  | 0, _ => none
  | n + 1,  σ => f_M_spreads_62b (fun  σ => f_M_spreads_62  n  σ)  σ
theorem w_M_spreads_62 {l : Launch} {d : zD} {F : zF} {h : Nat → Nat} {out : Int32 × zS}   (C : zOk d F RX11 cX11_spreads 5 2 47) (T : zRt d F none none (MW d h out.2))  : ∀ (n : Nat)  (σ : zS), f_M_spreads_62  n  σ = some out → V l d F 0 0 (MW d h σ) [some (.ref (h 0)), none, none, none, none] 62 [] := by
  intro n
  induction n with
  | zero =>
    intro  σ hf
    cases hf
  | succ n ih =>
    intro  σ hf
    exact w_M_spreads_62b C T ih  σ hf
def f_M_spreads_2b (k2 : Int32 → Int32 → zS → Option (Int32 × zS)) (x1 : Int32) (x2 : Int32) (σ : zS) : Option (Int32 × zS) :=
  (if 1600 ≤ x2 then
  zin x1 1600 (zlt (zsa σ 28 x1 0) fun σ1 =>
  zlt (zsg σ1 57 0) fun σ2 =>
  zlt (zsg σ2 58 1) fun σ3 =>
  zin 0 1600 (zlt (zsa σ3 29 0 x1) fun σ4 =>
  zin x1 1600 (zlt (zsa σ4 30 x1 (vp_nar .boolean 1)) fun σ5 =>
  f_M_spreads_62 zfu σ5)))
  else
  zin x2 1600 (zlt (zsa σ 28 x2 1000000000) fun σ6 =>
  zin x2 1600 (zlt (zsa σ6 30 x2 (vp_nar .boolean 0)) fun σ7 =>
  k2 x1 (x2 + 1) σ7)))
set_option maxRecDepth 4000 in
theorem w_M_spreads_2b {l : Launch} {d : zD} {F : zF} {h : Nat → Nat} {out : Int32 × zS}  {k2 : Int32 → Int32 → zS → Option (Int32 × zS)} (C : zOk d F RX11 cX11_spreads 5 2 47) (T : zRt d F none none (MW d h out.2)) (H2 : ∀ (x1 : Int32) (x2 : Int32) (σ : zS), k2 x1 x2 σ = some out → V l d F 0 0 (MW d h σ) [some (.ref (h 0)), some (.int x1), some (.int x2), none, none] 2 []) (x1 : Int32) (x2 : Int32) (σ : zS) (hf : f_M_spreads_2b k2 x1 x2 σ = some out) : V l d F 0 0 (MW d h σ) [some (.ref (h 0)), some (.int x1), some (.int x2), none, none] 2 [] := by
  unfold f_M_spreads_2b at hf
  refine zr_iload_n 2 3 C (by decide +kernel) rfl rfl ?_
  refine zr_sipush (v := 1600) 1600 6 C (by decide +kernel) rfl rfl ?_
  refine zr_icmp_ge (off := 25) 31 9 C (by decide +kernel) (by decide) rfl hf (fun hf => ?_) (fun hf => ?_)
  · refine zr_aload_n 0 32 C (by decide +kernel) rfl rfl ?_
    refine mg_0_54 (idx := 119) 35 C (by decide +kernel) rfl q_1045 ?_
    refine zr_iload_n 1 36 C (by decide +kernel) rfl rfl ?_
    refine zr_iconst (v := 0) 0 37 C (by decide +kernel) rfl rfl ?_
    refine ms_28 38 C (by decide +kernel) rfl hf (fun σ1 hf => ?_)
    refine zr_aload_n 0 39 C (by decide +kernel) rfl rfl ?_
    refine zr_iconst (v := 0) 0 40 C (by decide +kernel) rfl rfl ?_
    refine mp_0_57 (idx := 311) 43 C (by decide +kernel) rfl q_1048 hf (fun σ2 hf => ?_)
    refine zr_aload_n 0 44 C (by decide +kernel) rfl rfl ?_
    refine zr_iconst (v := 1) 1 45 C (by decide +kernel) rfl rfl ?_
    refine mp_0_58 (idx := 314) 48 C (by decide +kernel) rfl q_1049 hf (fun σ3 hf => ?_)
    refine zr_aload_n 0 49 C (by decide +kernel) rfl rfl ?_
    refine mg_0_55 (idx := 122) 52 C (by decide +kernel) rfl q_1046 ?_
    refine zr_iconst (v := 0) 0 53 C (by decide +kernel) rfl rfl ?_
    refine zr_iload_n 1 54 C (by decide +kernel) rfl rfl ?_
    refine ms_29 55 C (by decide +kernel) rfl hf (fun σ4 hf => ?_)
    refine zr_aload_n 0 56 C (by decide +kernel) rfl rfl ?_
    refine mg_0_56 (idx := 125) 59 C (by decide +kernel) rfl q_1047 ?_
    refine zr_iload_n 1 60 C (by decide +kernel) rfl rfl ?_
    refine zr_iconst (v := 1) 1 61 C (by decide +kernel) rfl rfl ?_
    refine ms_30 62 C (by decide +kernel) rfl hf (fun σ5 hf => ?_)
    refine zr_less (zA (zN (zN (zN (zN zE))))) ?_
    exact w_M_spreads_62 C T zfu _ hf
  · refine zr_aload_n 0 10 C (by decide +kernel) rfl rfl ?_
    refine mg_0_54 (idx := 119) 13 C (by decide +kernel) rfl q_1045 ?_
    refine zr_iload_n 2 14 C (by decide +kernel) rfl rfl ?_
    refine zr_ldc_w (v := 1000000000) (i := 317) 17 C (by decide +kernel) rfl q_1381 ?_
    refine ms_28 18 C (by decide +kernel) rfl hf (fun σ6 hf => ?_)
    refine zr_aload_n 0 19 C (by decide +kernel) rfl rfl ?_
    refine mg_0_56 (idx := 125) 22 C (by decide +kernel) rfl q_1047 ?_
    refine zr_iload_n 2 23 C (by decide +kernel) rfl rfl ?_
    refine zr_iconst (v := 0) 0 24 C (by decide +kernel) rfl rfl ?_
    refine ms_30 25 C (by decide +kernel) rfl hf (fun σ7 hf => ?_)
    refine zr_iinc (j := 1) 2 [some (.ref (h 0)), some (.int x1), some (.int (x2 + 1)), none, none] 28 C (by decide +kernel) rfl rfl rfl (by decide) rfl rfl ?_
    refine zr_goto (off := -26) 2 C (by decide +kernel) (by decide) ?_
    exact H2 _ _ _ hf
def f_M_spreads_2  : Nat → Int32 → Int32 → zS → Option (Int32 × zS)
  | 0, _, _, _ => none
  | n + 1, x1, x2,  σ => f_M_spreads_2b (fun x1 x2 σ => f_M_spreads_2  n x1 x2 σ) x1 x2 σ
theorem w_M_spreads_2 {l : Launch} {d : zD} {F : zF} {h : Nat → Nat} {out : Int32 × zS}   (C : zOk d F RX11 cX11_spreads 5 2 47) (T : zRt d F none none (MW d h out.2))  : ∀ (n : Nat) (x1 : Int32) (x2 : Int32) (σ : zS), f_M_spreads_2  n x1 x2 σ = some out → V l d F 0 0 (MW d h σ) [some (.ref (h 0)), some (.int x1), some (.int x2), none, none] 2 [] := by
  intro n
  induction n with
  | zero =>
    intro x1 x2 σ hf
    cases hf
  | succ n ih =>
    intro x1 x2 σ hf
    exact w_M_spreads_2b C T ih x1 x2 σ hf
def f_M_spreads (p1 : Int32) (σ : zS) : Option (Int32 × zS) :=
  f_M_spreads_2 zfu p1 0 σ
set_option maxRecDepth 4000 in
theorem m_M_spreads {l : Launch} {d : zD} {h : Nat → Nat} {out : Int32 × zS} {σ : zS} {p1 : Int32} (hf : f_M_spreads p1 σ = some out) : zM l yX11_spreads cX11_spreads 5 none 2 47 d [.ref (h 0), .int p1] (MW d h σ) (MW d h out.2) none := by
  refine zM_of [some (.ref (h 0)), some (.int p1), none, none, none] (by decide +kernel) rfl (Nat.le_of_ble_eq_true rfl) (fun F C T => ?_)
  unfold f_M_spreads at hf
  refine zr_iconst (v := 0) 0 1 C (by decide +kernel) rfl rfl ?_
  refine zr_istore_n 2 [some (.ref (h 0)), some (.int p1), some (.int 0), none, none] 2 C (by decide +kernel) rfl (by decide) rfl rfl ?_
  exact w_M_spreads_2 C T zfu _ _ _ hf
theorem y_M_spreads : zY yX11_spreads cX11_spreads 5 none 1 := ⟨q_1380, q_90, by decide +kernel, by decide +kernel, by decide +kernel⟩
theorem k_M_spreads {l : Launch} {d : zD} {F : zF} {h : Nat → Nat} {σ : zS} {lv : List (Option Value)} {pc : Nat} {own : String} {cc : ByteArray} {nL fr lo idx : Nat} {rest : List Value} {β : Type} {kf : Int32 → zS → Option β} {o2 : β}  {p1 : Int32} (pc' : Nat) (C : zOk d F own cc nL fr lo) (hd : decode cc pc = .ok (.invokevirtual idx, 3)) (hp : pc + 3 = pc') (hq : Cond.methodLink own idx yX11_spreads ∈ zW) (hm : 2 + 1 ≤ fr ∧ 8 + (5 + 11) + 47 ≤ lo) (hr : (rest.map fun v => v.category).sum ≤ 8) (hf : zbd (f_M_spreads p1 σ) kf = some o2) (K : ∀ (r : Int32) (σ' : zS), kf r σ' = some o2 → V l d F 0 0 (MW d h σ') lv pc' (rest)) : V l d F 0 0 (MW d h σ) lv pc (.int p1 :: .ref (h 0) :: rest) := by
  obtain ⟨q, h1, h2⟩ := zbd_some hf
  exact zr_callV y_M_spreads ⟨q_1379, q_64⟩ 0 rfl rfl (As := [.int p1]) (m_M_spreads h1) rfl rfl pc' C hd hp hq hm hr (K _ _ h2)
/-! StepsBeyondModel.steps(II)I -/
def f_M_steps (p1 : Int32) (p2 : Int32) (σ : zS) : Option (Int32 × zS) :=
  zbd (f_M_isPlace p1 σ) fun r2 σ1 =>
  (if r2 = 0 then
  some (-2, σ1)
  else
  zbd (f_M_isPlace p2 σ1) fun r4 σ3 =>
  (if r4 = 0 then
  some (-2, σ3)
  else
  zbd (f_M_spreads p1 σ3) fun _ σ5 =>
  zin p2 1600 (some (σ5.2 28 p2.toNatClampNeg, σ5))))
set_option maxRecDepth 4000 in
theorem m_M_steps {l : Launch} {d : zD} {h : Nat → Nat} {out : Int32 × zS} {σ : zS} {p1 : Int32} {p2 : Int32} (hf : f_M_steps p1 p2 σ = some out) : zM l yX11_steps cX11_steps 3 (some .int) 3 71 d [.ref (h 0), .int p1, .int p2] (MW d h σ) (MW d h out.2) (some (.int out.1)) := by
  refine zM_of [some (.ref (h 0)), some (.int p1), some (.int p2)] (by decide +kernel) rfl (Nat.le_of_ble_eq_true rfl) (fun F C T => ?_)
  unfold f_M_steps at hf
  refine zr_iload_n 1 1 C (by decide +kernel) rfl rfl ?_
  refine k_M_isPlace (idx := 150) 4 C (by decide +kernel) rfl q_1178 (zb2 rfl rfl) (Nat.le_of_ble_eq_true rfl) hf (fun r2 σ1 hf => ?_)
  refine zr_if_eq (off := 10) 14 7 C (by decide +kernel) (by decide) rfl hf (fun hf => ?_) (fun hf => ?_)
  · refine zr_bipush (v := (-2)) (-2) 16 C (by decide +kernel) rfl rfl ?_
    obtain rfl := Option.some.inj hf
    exact zr_iret C (by decide +kernel) T
  · refine zr_iload_n 2 8 C (by decide +kernel) rfl rfl ?_
    refine k_M_isPlace (idx := 150) 11 C (by decide +kernel) rfl q_1178 (zb2 rfl rfl) (Nat.le_of_ble_eq_true rfl) hf (fun r4 σ3 hf => ?_)
    refine zr_if_ne (off := 6) 17 14 C (by decide +kernel) (by decide) rfl hf (fun hf => ?_) (fun hf => ?_)
    · refine zr_aload_n 0 18 C (by decide +kernel) rfl rfl ?_
      refine zr_iload_n 1 19 C (by decide +kernel) rfl rfl ?_
      refine k_M_spreads (idx := 325) 22 C (by decide +kernel) rfl q_1377 (zb2 rfl rfl) (Nat.le_of_ble_eq_true rfl) hf (fun _ σ5 hf => ?_)
      refine zr_aload_n 0 23 C (by decide +kernel) rfl rfl ?_
      refine mg_0_54 (idx := 119) 26 C (by decide +kernel) rfl q_1045 ?_
      refine zr_iload_n 2 27 C (by decide +kernel) rfl rfl ?_
      refine ml_28 28 C (by decide +kernel) rfl hf (fun hf => ?_)
      obtain rfl := Option.some.inj hf
      exact zr_iret C (by decide +kernel) T
    · refine zr_bipush (v := (-2)) (-2) 16 C (by decide +kernel) rfl rfl ?_
      obtain rfl := Option.some.inj hf
      exact zr_iret C (by decide +kernel) T
theorem y_M_steps : zY yX11_steps cX11_steps 3 (some .int) 2 := ⟨q_1376, q_90, by decide +kernel, by decide +kernel, by decide +kernel⟩
theorem k_M_steps {l : Launch} {d : zD} {F : zF} {h : Nat → Nat} {σ : zS} {lv : List (Option Value)} {pc : Nat} {own : String} {cc : ByteArray} {nL fr lo idx : Nat} {rest : List Value} {β : Type} {kf : Int32 → zS → Option β} {o2 : β}  {p1 : Int32} {p2 : Int32} (pc' : Nat) (C : zOk d F own cc nL fr lo) (hd : decode cc pc = .ok (.invokevirtual idx, 3)) (hp : pc + 3 = pc') (hq : Cond.methodLink own idx yX11_steps ∈ zW) (hm : 3 + 1 ≤ fr ∧ 8 + (3 + 11) + 71 ≤ lo) (hr : (rest.map fun v => v.category).sum ≤ 8) (hf : zbd (f_M_steps p1 p2 σ) kf = some o2) (K : ∀ (r : Int32) (σ' : zS), kf r σ' = some o2 → V l d F 0 0 (MW d h σ') lv pc' (.int r :: rest)) : V l d F 0 0 (MW d h σ) lv pc (.int p2 :: .int p1 :: .ref (h 0) :: rest) := by
  obtain ⟨q, h1, h2⟩ := zbd_some hf
  exact zr_callV y_M_steps ⟨q_1374, q_1375⟩ 0 rfl rfl (As := [.int p1, .int p2]) (m_M_steps h1) rfl rfl pc' C hd hp hq hm hr (K _ _ h2)
/-! StepsBeyondModel.person(II)I -/
def f_M_person (p1 : Int32) (p2 : Int32) (σ : zS) : Option (Int32 × zS) :=
  zbd (f_M_isPlace p1 σ) fun r2 σ1 =>
  (if r2 = 0 then
  some (-2, σ1)
  else
  zbd (f_M_isShape p2 σ1) fun r4 σ3 =>
  (if r4 = 0 then
  some (-1, σ3)
  else
  (if (σ3.1 14) = 8 then
  some (-4, σ3)
  else
  zin (σ3.1 14) 8 (zlt (zsa σ3 11 (σ3.1 14) p1) fun σ5 =>
  zin (σ5.1 14) 8 (zlt (zsa σ5 12 (σ5.1 14) p2) fun σ6 =>
  zlt (zsg σ6 14 ((σ6.1 14) + 1)) fun σ7 =>
  some ((σ7.1 14) - 1, σ7))))))
set_option maxRecDepth 4000 in
theorem m_M_person {l : Launch} {d : zD} {h : Nat → Nat} {out : Int32 × zS} {σ : zS} {p1 : Int32} {p2 : Int32} (hf : f_M_person p1 p2 σ = some out) : zM l yX11_person cX11_person 3 (some .int) 2 43 d [.ref (h 0), .int p1, .int p2] (MW d h σ) (MW d h out.2) (some (.int out.1)) := by
  refine zM_of [some (.ref (h 0)), some (.int p1), some (.int p2)] (by decide +kernel) rfl (Nat.le_of_ble_eq_true rfl) (fun F C T => ?_)
  unfold f_M_person at hf
  refine zr_iload_n 1 1 C (by decide +kernel) rfl rfl ?_
  refine k_M_isPlace (idx := 150) 4 C (by decide +kernel) rfl q_1178 (zb2 rfl rfl) (Nat.le_of_ble_eq_true rfl) hf (fun r2 σ1 hf => ?_)
  refine zr_if_ne (off := 6) 10 7 C (by decide +kernel) (by decide) rfl hf (fun hf => ?_) (fun hf => ?_)
  · refine zr_aload_n 0 11 C (by decide +kernel) rfl rfl ?_
    refine zr_iload_n 2 12 C (by decide +kernel) rfl rfl ?_
    refine k_M_isShape (idx := 263) 15 C (by decide +kernel) rfl q_1313 (zb2 rfl rfl) (Nat.le_of_ble_eq_true rfl) hf (fun r4 σ3 hf => ?_)
    refine zr_if_ne (off := 5) 20 18 C (by decide +kernel) (by decide) rfl hf (fun hf => ?_) (fun hf => ?_)
    · refine zr_aload_n 0 21 C (by decide +kernel) rfl rfl ?_
      refine mg_0_14 (idx := 328) 24 C (by decide +kernel) rfl q_1005 ?_
      refine zr_bipush (v := 8) 8 26 C (by decide +kernel) rfl rfl ?_
      refine zr_icmp_ne (off := 6) 32 29 C (by decide +kernel) (by decide) rfl hf (fun hf => ?_) (fun hf => ?_)
      · refine zr_aload_n 0 33 C (by decide +kernel) rfl rfl ?_
        refine mg_0_15 (idx := 40) 36 C (by decide +kernel) rfl q_1006 ?_
        refine zr_aload_n 0 37 C (by decide +kernel) rfl rfl ?_
        refine mg_0_14 (idx := 328) 40 C (by decide +kernel) rfl q_1005 ?_
        refine zr_iload_n 1 41 C (by decide +kernel) rfl rfl ?_
        refine ms_11 42 C (by decide +kernel) rfl hf (fun σ5 hf => ?_)
        refine zr_aload_n 0 43 C (by decide +kernel) rfl rfl ?_
        refine mg_0_16 (idx := 43) 46 C (by decide +kernel) rfl q_1007 ?_
        refine zr_aload_n 0 47 C (by decide +kernel) rfl rfl ?_
        refine mg_0_14 (idx := 328) 50 C (by decide +kernel) rfl q_1005 ?_
        refine zr_iload_n 2 51 C (by decide +kernel) rfl rfl ?_
        refine ms_12 52 C (by decide +kernel) rfl hf (fun σ6 hf => ?_)
        refine zr_aload_n 0 53 C (by decide +kernel) rfl rfl ?_
        refine zr_dup 54 C (by decide +kernel) rfl rfl ?_
        refine mg_0_14 (idx := 328) 57 C (by decide +kernel) rfl q_1005 ?_
        refine zr_iconst (v := 1) 1 58 C (by decide +kernel) rfl rfl ?_
        refine zr_iadd 59 C (by decide +kernel) rfl ?_
        refine mp_0_14 (idx := 328) 62 C (by decide +kernel) rfl q_1005 hf (fun σ7 hf => ?_)
        refine zr_aload_n 0 63 C (by decide +kernel) rfl rfl ?_
        refine mg_0_14 (idx := 328) 66 C (by decide +kernel) rfl q_1005 ?_
        refine zr_iconst (v := 1) 1 67 C (by decide +kernel) rfl rfl ?_
        refine zr_isub 68 C (by decide +kernel) rfl ?_
        obtain rfl := Option.some.inj hf
        exact zr_iret C (by decide +kernel) T
      · refine zr_bipush (v := (-4)) (-4) 31 C (by decide +kernel) rfl rfl ?_
        obtain rfl := Option.some.inj hf
        exact zr_iret C (by decide +kernel) T
    · refine zr_iconst (v := (-1)) (-1) 19 C (by decide +kernel) rfl rfl ?_
      obtain rfl := Option.some.inj hf
      exact zr_iret C (by decide +kernel) T
  · refine zr_bipush (v := (-2)) (-2) 9 C (by decide +kernel) rfl rfl ?_
    obtain rfl := Option.some.inj hf
    exact zr_iret C (by decide +kernel) T
theorem y_M_person : zY yX11_person cX11_person 3 (some .int) 2 := ⟨q_1393, q_90, by decide +kernel, by decide +kernel, by decide +kernel⟩
theorem k_M_person {l : Launch} {d : zD} {F : zF} {h : Nat → Nat} {σ : zS} {lv : List (Option Value)} {pc : Nat} {own : String} {cc : ByteArray} {nL fr lo idx : Nat} {rest : List Value} {β : Type} {kf : Int32 → zS → Option β} {o2 : β}  {p1 : Int32} {p2 : Int32} (pc' : Nat) (C : zOk d F own cc nL fr lo) (hd : decode cc pc = .ok (.invokevirtual idx, 3)) (hp : pc + 3 = pc') (hq : Cond.methodLink own idx yX11_person ∈ zW) (hm : 2 + 1 ≤ fr ∧ 8 + (3 + 11) + 43 ≤ lo) (hr : (rest.map fun v => v.category).sum ≤ 8) (hf : zbd (f_M_person p1 p2 σ) kf = some o2) (K : ∀ (r : Int32) (σ' : zS), kf r σ' = some o2 → V l d F 0 0 (MW d h σ') lv pc' (.int r :: rest)) : V l d F 0 0 (MW d h σ) lv pc (.int p2 :: .int p1 :: .ref (h 0) :: rest) := by
  obtain ⟨q, h1, h2⟩ := zbd_some hf
  exact zr_callV y_M_person ⟨q_1391, q_1392⟩ 0 rfl rfl (As := [.int p1, .int p2]) (m_M_person h1) rfl rfl pc' C hd hp hq hm hr (K _ _ h2)
/-! StepsBeyondModel.isPerson(I)Z -/
def f_M_isPerson (p1 : Int32) (σ : zS) : Option (Int32 × zS) :=
  zbd (f_M_in p1 0 ((σ.1 14) - 1) σ) fun r2 σ1 =>
  zbo r2 (some (r2, σ1))
set_option maxRecDepth 4000 in
theorem m_M_isPerson {l : Launch} {d : zD} {h : Nat → Nat} {out : Int32 × zS} {σ : zS} {p1 : Int32} (hf : f_M_isPerson p1 σ = some out) : zM l yX11_isPerson cX11_isPerson 2 (some .boolean) 1 22 d [.ref (h 0), .int p1] (MW d h σ) (MW d h out.2) (some (.int out.1)) := by
  refine zM_of [some (.ref (h 0)), some (.int p1)] (by decide +kernel) rfl (Nat.le_of_ble_eq_true rfl) (fun F C T => ?_)
  unfold f_M_isPerson at hf
  refine zr_iload_n 1 1 C (by decide +kernel) rfl rfl ?_
  refine zr_iconst (v := 0) 0 2 C (by decide +kernel) rfl rfl ?_
  refine zr_aload_n 0 3 C (by decide +kernel) rfl rfl ?_
  refine mg_0_14 (idx := 328) 6 C (by decide +kernel) rfl q_1005 ?_
  refine zr_iconst (v := 1) 1 7 C (by decide +kernel) rfl rfl ?_
  refine zr_isub 8 C (by decide +kernel) rfl ?_
  refine k_M_in (idx := 139) 11 C (by decide +kernel) rfl q_1181 (zb2 rfl rfl) (Nat.le_of_ble_eq_true rfl) hf (fun r2 σ1 hf => ?_)
  obtain ⟨hz, hf⟩ := zbo_some hf
  obtain rfl := Option.some.inj hf
  exact zr_zret C (by decide +kernel) hz T
theorem y_M_isPerson : zY yX11_isPerson cX11_isPerson 2 (some .boolean) 1 := ⟨q_1401, q_90, by decide +kernel, by decide +kernel, by decide +kernel⟩
theorem k_M_isPerson {l : Launch} {d : zD} {F : zF} {h : Nat → Nat} {σ : zS} {lv : List (Option Value)} {pc : Nat} {own : String} {cc : ByteArray} {nL fr lo idx : Nat} {rest : List Value} {β : Type} {kf : Int32 → zS → Option β} {o2 : β}  {p1 : Int32} (pc' : Nat) (C : zOk d F own cc nL fr lo) (hd : decode cc pc = .ok (.invokevirtual idx, 3)) (hp : pc + 3 = pc') (hq : Cond.methodLink own idx yX11_isPerson ∈ zW) (hm : 1 + 1 ≤ fr ∧ 8 + (2 + 11) + 22 ≤ lo) (hr : (rest.map fun v => v.category).sum ≤ 8) (hf : zbd (f_M_isPerson p1 σ) kf = some o2) (K : ∀ (r : Int32) (σ' : zS), kf r σ' = some o2 → V l d F 0 0 (MW d h σ') lv pc' (.int r :: rest)) : V l d F 0 0 (MW d h σ) lv pc (.int p1 :: .ref (h 0) :: rest) := by
  obtain ⟨q, h1, h2⟩ := zbd_some hf
  exact zr_callV y_M_isPerson ⟨q_1400, q_67⟩ 0 rfl rfl (As := [.int p1]) (m_M_isPerson h1) rfl rfl pc' C hd hp hq hm hr (K _ _ h2)
/-! StepsBeyondModel.moves(II)I -/
def f_M_moves (p1 : Int32) (p2 : Int32) (σ : zS) : Option (Int32 × zS) :=
  zbd (f_M_isPerson p1 σ) fun r2 σ1 =>
  (if r2 = 0 then
  some (-1, σ1)
  else
  zbd (f_M_isPlace p2 σ1) fun r4 σ3 =>
  (if r4 = 0 then
  some (-2, σ3)
  else
  zin p1 8 (zlt (σ3.2 11 p1.toNatClampNeg) fun v5 => 
  zin p1 8 (zlt (zsa σ3 11 p1 p2) fun σ6 =>
  some (v5, σ6)))))
set_option maxRecDepth 4000 in
theorem m_M_moves {l : Launch} {d : zD} {h : Nat → Nat} {out : Int32 × zS} {σ : zS} {p1 : Int32} {p2 : Int32} (hf : f_M_moves p1 p2 σ = some out) : zM l yX11_moves cX11_moves 4 (some .int) 2 43 d [.ref (h 0), .int p1, .int p2] (MW d h σ) (MW d h out.2) (some (.int out.1)) := by
  refine zM_of [some (.ref (h 0)), some (.int p1), some (.int p2), none] (by decide +kernel) rfl (Nat.le_of_ble_eq_true rfl) (fun F C T => ?_)
  unfold f_M_moves at hf
  refine zr_aload_n 0 1 C (by decide +kernel) rfl rfl ?_
  refine zr_iload_n 1 2 C (by decide +kernel) rfl rfl ?_
  refine k_M_isPerson (idx := 331) 5 C (by decide +kernel) rfl q_1398 (zb2 rfl rfl) (Nat.le_of_ble_eq_true rfl) hf (fun r2 σ1 hf => ?_)
  refine zr_if_ne (off := 5) 10 8 C (by decide +kernel) (by decide) rfl hf (fun hf => ?_) (fun hf => ?_)
  · refine zr_iload_n 2 11 C (by decide +kernel) rfl rfl ?_
    refine k_M_isPlace (idx := 150) 14 C (by decide +kernel) rfl q_1178 (zb2 rfl rfl) (Nat.le_of_ble_eq_true rfl) hf (fun r4 σ3 hf => ?_)
    refine zr_if_ne (off := 6) 20 17 C (by decide +kernel) (by decide) rfl hf (fun hf => ?_) (fun hf => ?_)
    · refine zr_aload_n 0 21 C (by decide +kernel) rfl rfl ?_
      refine mg_0_15 (idx := 40) 24 C (by decide +kernel) rfl q_1006 ?_
      refine zr_iload_n 1 25 C (by decide +kernel) rfl rfl ?_
      refine ml_11 26 C (by decide +kernel) rfl hf (fun hf => ?_)
      refine zr_name hf (fun v5 hf => ?_)
      refine zr_istore_n 3 [some (.ref (h 0)), some (.int p1), some (.int p2), some (.int v5)] 27 C (by decide +kernel) rfl (by decide) rfl rfl ?_
      refine zr_aload_n 0 28 C (by decide +kernel) rfl rfl ?_
      refine mg_0_15 (idx := 40) 31 C (by decide +kernel) rfl q_1006 ?_
      refine zr_iload_n 1 32 C (by decide +kernel) rfl rfl ?_
      refine zr_iload_n 2 33 C (by decide +kernel) rfl rfl ?_
      refine ms_11 34 C (by decide +kernel) rfl hf (fun σ6 hf => ?_)
      refine zr_iload_n 3 35 C (by decide +kernel) rfl rfl ?_
      obtain rfl := Option.some.inj hf
      exact zr_iret C (by decide +kernel) T
    · refine zr_bipush (v := (-2)) (-2) 19 C (by decide +kernel) rfl rfl ?_
      obtain rfl := Option.some.inj hf
      exact zr_iret C (by decide +kernel) T
  · refine zr_iconst (v := (-1)) (-1) 9 C (by decide +kernel) rfl rfl ?_
    obtain rfl := Option.some.inj hf
    exact zr_iret C (by decide +kernel) T
theorem y_M_moves : zY yX11_moves cX11_moves 4 (some .int) 2 := ⟨q_1397, q_90, by decide +kernel, by decide +kernel, by decide +kernel⟩
theorem k_M_moves {l : Launch} {d : zD} {F : zF} {h : Nat → Nat} {σ : zS} {lv : List (Option Value)} {pc : Nat} {own : String} {cc : ByteArray} {nL fr lo idx : Nat} {rest : List Value} {β : Type} {kf : Int32 → zS → Option β} {o2 : β}  {p1 : Int32} {p2 : Int32} (pc' : Nat) (C : zOk d F own cc nL fr lo) (hd : decode cc pc = .ok (.invokevirtual idx, 3)) (hp : pc + 3 = pc') (hq : Cond.methodLink own idx yX11_moves ∈ zW) (hm : 2 + 1 ≤ fr ∧ 8 + (4 + 11) + 43 ≤ lo) (hr : (rest.map fun v => v.category).sum ≤ 8) (hf : zbd (f_M_moves p1 p2 σ) kf = some o2) (K : ∀ (r : Int32) (σ' : zS), kf r σ' = some o2 → V l d F 0 0 (MW d h σ') lv pc' (.int r :: rest)) : V l d F 0 0 (MW d h σ) lv pc (.int p2 :: .int p1 :: .ref (h 0) :: rest) := by
  obtain ⟨q, h1, h2⟩ := zbd_some hf
  exact zr_callV y_M_moves ⟨q_1395, q_1396⟩ 0 rfl rfl (As := [.int p1, .int p2]) (m_M_moves h1) rfl rfl pc' C hd hp hq hm hr (K _ _ h2)
/-! StepsBeyondModel.isOut(I)Z -/
def f_M_isOut (p1 : Int32) (σ : zS) : Option (Int32 × zS) :=
  zin p1 8 (zbd (f_M_looks (σ.2 12 p1.toNatClampNeg) σ) fun _ σ1 =>
  zin p1 8 (zin p1 8 (zbd (f_M_isIn (σ1.2 12 p1.toNatClampNeg) (σ1.2 11 p1.toNatClampNeg) σ1) fun r3 σ2 =>
  (if r3 = 0 then
  some (1, σ2)
  else
  some (0, σ2)))))
set_option maxRecDepth 4000 in
theorem m_M_isOut {l : Launch} {d : zD} {h : Nat → Nat} {out : Int32 × zS} {σ : zS} {p1 : Int32} (hf : f_M_isOut p1 σ = some out) : zM l yX11_isOut cX11_isOut 2 (some .boolean) 7 162 d [.ref (h 0), .int p1] (MW d h σ) (MW d h out.2) (some (.int out.1)) := by
  refine zM_of [some (.ref (h 0)), some (.int p1)] (by decide +kernel) rfl (Nat.le_of_ble_eq_true rfl) (fun F C T => ?_)
  unfold f_M_isOut at hf
  refine zr_aload_n 0 1 C (by decide +kernel) rfl rfl ?_
  refine zr_aload_n 0 2 C (by decide +kernel) rfl rfl ?_
  refine mg_0_16 (idx := 43) 5 C (by decide +kernel) rfl q_1007 ?_
  refine zr_iload_n 1 6 C (by decide +kernel) rfl rfl ?_
  refine ml_12 7 C (by decide +kernel) rfl hf (fun hf => ?_)
  refine k_M_looks (idx := 299) 10 C (by decide +kernel) rfl q_1329 (zb2 rfl rfl) (Nat.le_of_ble_eq_true rfl) hf (fun _ σ1 hf => ?_)
  refine zr_aload_n 0 11 C (by decide +kernel) rfl rfl ?_
  refine zr_aload_n 0 12 C (by decide +kernel) rfl rfl ?_
  refine mg_0_16 (idx := 43) 15 C (by decide +kernel) rfl q_1007 ?_
  refine zr_iload_n 1 16 C (by decide +kernel) rfl rfl ?_
  refine ml_12 17 C (by decide +kernel) rfl hf (fun hf => ?_)
  refine zr_aload_n 0 18 C (by decide +kernel) rfl rfl ?_
  refine mg_0_15 (idx := 40) 21 C (by decide +kernel) rfl q_1006 ?_
  refine zr_iload_n 1 22 C (by decide +kernel) rfl rfl ?_
  refine ml_11 23 C (by decide +kernel) rfl hf (fun hf => ?_)
  refine k_M_isIn (idx := 302) 26 C (by decide +kernel) rfl q_1337 (zb2 rfl rfl) (Nat.le_of_ble_eq_true rfl) hf (fun r3 σ2 hf => ?_)
  refine zr_if_ne (off := 7) 33 29 C (by decide +kernel) (by decide) rfl hf (fun hf => ?_) (fun hf => ?_)
  · refine zr_iconst (v := 0) 0 34 C (by decide +kernel) rfl rfl ?_
    obtain rfl := Option.some.inj hf
    exact zr_zret C (by decide +kernel) rfl T
  · refine zr_iconst (v := 1) 1 30 C (by decide +kernel) rfl rfl ?_
    refine zr_goto (off := 4) 34 C (by decide +kernel) (by decide) ?_
    obtain rfl := Option.some.inj hf
    exact zr_zret C (by decide +kernel) rfl T
theorem y_M_isOut : zY yX11_isOut cX11_isOut 2 (some .boolean) 1 := ⟨q_1409, q_90, by decide +kernel, by decide +kernel, by decide +kernel⟩
theorem k_M_isOut {l : Launch} {d : zD} {F : zF} {h : Nat → Nat} {σ : zS} {lv : List (Option Value)} {pc : Nat} {own : String} {cc : ByteArray} {nL fr lo idx : Nat} {rest : List Value} {β : Type} {kf : Int32 → zS → Option β} {o2 : β}  {p1 : Int32} (pc' : Nat) (C : zOk d F own cc nL fr lo) (hd : decode cc pc = .ok (.invokevirtual idx, 3)) (hp : pc + 3 = pc') (hq : Cond.methodLink own idx yX11_isOut ∈ zW) (hm : 7 + 1 ≤ fr ∧ 8 + (2 + 11) + 162 ≤ lo) (hr : (rest.map fun v => v.category).sum ≤ 8) (hf : zbd (f_M_isOut p1 σ) kf = some o2) (K : ∀ (r : Int32) (σ' : zS), kf r σ' = some o2 → V l d F 0 0 (MW d h σ') lv pc' (.int r :: rest)) : V l d F 0 0 (MW d h σ) lv pc (.int p1 :: .ref (h 0) :: rest) := by
  obtain ⟨q, h1, h2⟩ := zbd_some hf
  exact zr_callV y_M_isOut ⟨q_1408, q_68⟩ 0 rfl rfl (As := [.int p1]) (m_M_isOut h1) rfl rfl pc' C hd hp hq hm hr (K _ _ h2)
/-! StepsBeyondModel.personTold(II)I -/
def f_M_personTold (p1 : Int32) (p2 : Int32) (σ : zS) : Option (Int32 × zS) :=
  zbd (f_M_isPerson p1 σ) fun r2 σ1 =>
  (if r2 = 0 then
  some (-5, σ1)
  else
  (if p2 = 0 then
  zin p1 8 (some (σ1.2 11 p1.toNatClampNeg, σ1))
  else
  (if p2 = 1 then
  zin p1 8 (some (σ1.2 12 p1.toNatClampNeg, σ1))
  else
  (if p2 = 2 then
  zbd (f_M_isOut p1 σ1) fun r4 σ3 =>
  (if r4 = 0 then
  some (0, σ3)
  else
  some (1, σ3))
  else
  some (-7, σ1)))))
set_option maxRecDepth 4000 in
theorem m_M_personTold {l : Launch} {d : zD} {h : Nat → Nat} {out : Int32 × zS} {σ : zS} {p1 : Int32} {p2 : Int32} (hf : f_M_personTold p1 p2 σ = some out) : zM l yX11_personTold cX11_personTold 3 (some .int) 8 183 d [.ref (h 0), .int p1, .int p2] (MW d h σ) (MW d h out.2) (some (.int out.1)) := by
  refine zM_of [some (.ref (h 0)), some (.int p1), some (.int p2)] (by decide +kernel) rfl (Nat.le_of_ble_eq_true rfl) (fun F C T => ?_)
  unfold f_M_personTold at hf
  refine zr_aload_n 0 1 C (by decide +kernel) rfl rfl ?_
  refine zr_iload_n 1 2 C (by decide +kernel) rfl rfl ?_
  refine k_M_isPerson (idx := 331) 5 C (by decide +kernel) rfl q_1398 (zb2 rfl rfl) (Nat.le_of_ble_eq_true rfl) hf (fun r2 σ1 hf => ?_)
  refine zr_if_ne (off := 6) 11 8 C (by decide +kernel) (by decide) rfl hf (fun hf => ?_) (fun hf => ?_)
  · refine zr_iload_n 2 12 C (by decide +kernel) rfl rfl ?_
    refine zr_if_ne (off := 12) 24 15 C (by decide +kernel) (by decide) rfl hf (fun hf => ?_) (fun hf => ?_)
    · refine zr_iload_n 2 25 C (by decide +kernel) rfl rfl ?_
      refine zr_iconst (v := 1) 1 26 C (by decide +kernel) rfl rfl ?_
      refine zr_icmp_ne (off := 12) 38 29 C (by decide +kernel) (by decide) rfl hf (fun hf => ?_) (fun hf => ?_)
      · refine zr_iload_n 2 39 C (by decide +kernel) rfl rfl ?_
        refine zr_iconst (v := 2) 2 40 C (by decide +kernel) rfl rfl ?_
        refine zr_icmp_ne (off := 19) 59 43 C (by decide +kernel) (by decide) rfl hf (fun hf => ?_) (fun hf => ?_)
        · refine zr_bipush (v := (-7)) (-7) 61 C (by decide +kernel) rfl rfl ?_
          obtain rfl := Option.some.inj hf
          exact zr_iret C (by decide +kernel) T
        · refine zr_aload_n 0 44 C (by decide +kernel) rfl rfl ?_
          refine zr_iload_n 1 45 C (by decide +kernel) rfl rfl ?_
          refine k_M_isOut (idx := 334) 48 C (by decide +kernel) rfl q_1406 (zb2 rfl rfl) (Nat.le_of_ble_eq_true rfl) hf (fun r4 σ3 hf => ?_)
          refine zr_if_eq (off := 7) 55 51 C (by decide +kernel) (by decide) rfl hf (fun hf => ?_) (fun hf => ?_)
          · refine zr_iconst (v := 0) 0 56 C (by decide +kernel) rfl rfl ?_
            refine zr_goto (off := 5) 61 C (by decide +kernel) (by decide) ?_
            obtain rfl := Option.some.inj hf
            exact zr_iret C (by decide +kernel) T
          · refine zr_iconst (v := 1) 1 52 C (by decide +kernel) rfl rfl ?_
            refine zr_goto (off := 9) 61 C (by decide +kernel) (by decide) ?_
            obtain rfl := Option.some.inj hf
            exact zr_iret C (by decide +kernel) T
      · refine zr_aload_n 0 30 C (by decide +kernel) rfl rfl ?_
        refine mg_0_16 (idx := 43) 33 C (by decide +kernel) rfl q_1007 ?_
        refine zr_iload_n 1 34 C (by decide +kernel) rfl rfl ?_
        refine ml_12 35 C (by decide +kernel) rfl hf (fun hf => ?_)
        refine zr_goto (off := 26) 61 C (by decide +kernel) (by decide) ?_
        obtain rfl := Option.some.inj hf
        exact zr_iret C (by decide +kernel) T
    · refine zr_aload_n 0 16 C (by decide +kernel) rfl rfl ?_
      refine mg_0_15 (idx := 40) 19 C (by decide +kernel) rfl q_1006 ?_
      refine zr_iload_n 1 20 C (by decide +kernel) rfl rfl ?_
      refine ml_11 21 C (by decide +kernel) rfl hf (fun hf => ?_)
      refine zr_goto (off := 40) 61 C (by decide +kernel) (by decide) ?_
      obtain rfl := Option.some.inj hf
      exact zr_iret C (by decide +kernel) T
  · refine zr_bipush (v := (-5)) (-5) 10 C (by decide +kernel) rfl rfl ?_
    obtain rfl := Option.some.inj hf
    exact zr_iret C (by decide +kernel) T
theorem y_M_personTold : zY yX11_personTold cX11_personTold 3 (some .int) 2 := ⟨q_1405, q_90, by decide +kernel, by decide +kernel, by decide +kernel⟩
theorem k_M_personTold {l : Launch} {d : zD} {F : zF} {h : Nat → Nat} {σ : zS} {lv : List (Option Value)} {pc : Nat} {own : String} {cc : ByteArray} {nL fr lo idx : Nat} {rest : List Value} {β : Type} {kf : Int32 → zS → Option β} {o2 : β}  {p1 : Int32} {p2 : Int32} (pc' : Nat) (C : zOk d F own cc nL fr lo) (hd : decode cc pc = .ok (.invokevirtual idx, 3)) (hp : pc + 3 = pc') (hq : Cond.methodLink own idx yX11_personTold ∈ zW) (hm : 8 + 1 ≤ fr ∧ 8 + (3 + 11) + 183 ≤ lo) (hr : (rest.map fun v => v.category).sum ≤ 8) (hf : zbd (f_M_personTold p1 p2 σ) kf = some o2) (K : ∀ (r : Int32) (σ' : zS), kf r σ' = some o2 → V l d F 0 0 (MW d h σ') lv pc' (.int r :: rest)) : V l d F 0 0 (MW d h σ) lv pc (.int p2 :: .int p1 :: .ref (h 0) :: rest) := by
  obtain ⟨q, h1, h2⟩ := zbd_some hf
  exact zr_callV y_M_personTold ⟨q_1403, q_1404⟩ 0 rfl rfl (As := [.int p1, .int p2]) (m_M_personTold h1) rfl rfl pc' C hd hp hq hm hr (K _ _ h2)
/-! StepsBeyondModel.well(I)I -/
def f_M_well (p1 : Int32) (σ : zS) : Option (Int32 × zS) :=
  zbd (f_M_isPlace p1 σ) fun r2 σ1 =>
  (if r2 = 0 then
  some (-2, σ1)
  else
  (if (σ1.1 17) = 10 then
  some (-4, σ1)
  else
  zin (σ1.1 17) 10 (zlt (zsa σ1 13 (σ1.1 17) p1) fun σ3 =>
  zlt (zsg σ3 17 ((σ3.1 17) + 1)) fun σ4 =>
  some ((σ4.1 17) - 1, σ4))))
set_option maxRecDepth 4000 in
theorem m_M_well {l : Launch} {d : zD} {h : Nat → Nat} {out : Int32 × zS} {σ : zS} {p1 : Int32} (hf : f_M_well p1 σ = some out) : zM l yX11_well cX11_well 2 (some .int) 2 42 d [.ref (h 0), .int p1] (MW d h σ) (MW d h out.2) (some (.int out.1)) := by
  refine zM_of [some (.ref (h 0)), some (.int p1)] (by decide +kernel) rfl (Nat.le_of_ble_eq_true rfl) (fun F C T => ?_)
  unfold f_M_well at hf
  refine zr_iload_n 1 1 C (by decide +kernel) rfl rfl ?_
  refine k_M_isPlace (idx := 150) 4 C (by decide +kernel) rfl q_1178 (zb2 rfl rfl) (Nat.le_of_ble_eq_true rfl) hf (fun r2 σ1 hf => ?_)
  refine zr_if_ne (off := 6) 10 7 C (by decide +kernel) (by decide) rfl hf (fun hf => ?_) (fun hf => ?_)
  · refine zr_aload_n 0 11 C (by decide +kernel) rfl rfl ?_
    refine mg_0_17 (idx := 337) 14 C (by decide +kernel) rfl q_1008 ?_
    refine zr_bipush (v := 10) 10 16 C (by decide +kernel) rfl rfl ?_
    refine zr_icmp_ne (off := 6) 22 19 C (by decide +kernel) (by decide) rfl hf (fun hf => ?_) (fun hf => ?_)
    · refine zr_aload_n 0 23 C (by decide +kernel) rfl rfl ?_
      refine mg_0_18 (idx := 46) 26 C (by decide +kernel) rfl q_1009 ?_
      refine zr_aload_n 0 27 C (by decide +kernel) rfl rfl ?_
      refine mg_0_17 (idx := 337) 30 C (by decide +kernel) rfl q_1008 ?_
      refine zr_iload_n 1 31 C (by decide +kernel) rfl rfl ?_
      refine ms_13 32 C (by decide +kernel) rfl hf (fun σ3 hf => ?_)
      refine zr_aload_n 0 33 C (by decide +kernel) rfl rfl ?_
      refine zr_dup 34 C (by decide +kernel) rfl rfl ?_
      refine mg_0_17 (idx := 337) 37 C (by decide +kernel) rfl q_1008 ?_
      refine zr_iconst (v := 1) 1 38 C (by decide +kernel) rfl rfl ?_
      refine zr_iadd 39 C (by decide +kernel) rfl ?_
      refine mp_0_17 (idx := 337) 42 C (by decide +kernel) rfl q_1008 hf (fun σ4 hf => ?_)
      refine zr_aload_n 0 43 C (by decide +kernel) rfl rfl ?_
      refine mg_0_17 (idx := 337) 46 C (by decide +kernel) rfl q_1008 ?_
      refine zr_iconst (v := 1) 1 47 C (by decide +kernel) rfl rfl ?_
      refine zr_isub 48 C (by decide +kernel) rfl ?_
      obtain rfl := Option.some.inj hf
      exact zr_iret C (by decide +kernel) T
    · refine zr_bipush (v := (-4)) (-4) 21 C (by decide +kernel) rfl rfl ?_
      obtain rfl := Option.some.inj hf
      exact zr_iret C (by decide +kernel) T
  · refine zr_bipush (v := (-2)) (-2) 9 C (by decide +kernel) rfl rfl ?_
    obtain rfl := Option.some.inj hf
    exact zr_iret C (by decide +kernel) T
theorem y_M_well : zY yX11_well cX11_well 2 (some .int) 1 := ⟨q_1413, q_90, by decide +kernel, by decide +kernel, by decide +kernel⟩
theorem k_M_well {l : Launch} {d : zD} {F : zF} {h : Nat → Nat} {σ : zS} {lv : List (Option Value)} {pc : Nat} {own : String} {cc : ByteArray} {nL fr lo idx : Nat} {rest : List Value} {β : Type} {kf : Int32 → zS → Option β} {o2 : β}  {p1 : Int32} (pc' : Nat) (C : zOk d F own cc nL fr lo) (hd : decode cc pc = .ok (.invokevirtual idx, 3)) (hp : pc + 3 = pc') (hq : Cond.methodLink own idx yX11_well ∈ zW) (hm : 2 + 1 ≤ fr ∧ 8 + (2 + 11) + 42 ≤ lo) (hr : (rest.map fun v => v.category).sum ≤ 8) (hf : zbd (f_M_well p1 σ) kf = some o2) (K : ∀ (r : Int32) (σ' : zS), kf r σ' = some o2 → V l d F 0 0 (MW d h σ') lv pc' (.int r :: rest)) : V l d F 0 0 (MW d h σ) lv pc (.int p1 :: .ref (h 0) :: rest) := by
  obtain ⟨q, h1, h2⟩ := zbd_some hf
  exact zr_callV y_M_well ⟨q_1411, q_1412⟩ 0 rfl rfl (As := [.int p1]) (m_M_well h1) rfl rfl pc' C hd hp hq hm hr (K _ _ h2)
/-! StepsBeyondModel.why(III)I -/
def f_M_why (p1 : Int32) (p2 : Int32) (p3 : Int32) (σ : zS) : Option (Int32 × zS) :=
  zbd (f_M_isOut p1 σ) fun r2 σ1 =>
  (if r2 = 0 then
  zin p1 8 (zbd (f_M_isIn (σ1.2 12 p1.toNatClampNeg) p2 σ1) fun r4 σ3 =>
  (if r4 = 0 then
  some (2, σ3)
  else
  zin p2 1600 ((if (σ3.2 28 p2.toNatClampNeg) ≤ p3 then
  some (0, σ3)
  else
  some (3, σ3)))))
  else
  zin p1 8 (zbd (f_M_apart (σ1.2 11 p1.toNatClampNeg) p2 σ1) fun r6 σ5 =>
  (if 2 < r6 then
  some (1, σ5)
  else
  some (0, σ5))))
set_option maxRecDepth 4000 in
theorem m_M_why {l : Launch} {d : zD} {h : Nat → Nat} {out : Int32 × zS} {σ : zS} {p1 : Int32} {p2 : Int32} {p3 : Int32} (hf : f_M_why p1 p2 p3 σ = some out) : zM l yX11_why cX11_why 4 (some .int) 8 183 d [.ref (h 0), .int p1, .int p2, .int p3] (MW d h σ) (MW d h out.2) (some (.int out.1)) := by
  refine zM_of [some (.ref (h 0)), some (.int p1), some (.int p2), some (.int p3)] (by decide +kernel) rfl (Nat.le_of_ble_eq_true rfl) (fun F C T => ?_)
  unfold f_M_why at hf
  refine zr_aload_n 0 1 C (by decide +kernel) rfl rfl ?_
  refine zr_iload_n 1 2 C (by decide +kernel) rfl rfl ?_
  refine k_M_isOut (idx := 334) 5 C (by decide +kernel) rfl q_1406 (zb2 rfl rfl) (Nat.le_of_ble_eq_true rfl) hf (fun r2 σ1 hf => ?_)
  refine zr_if_eq (off := 23) 28 8 C (by decide +kernel) (by decide) rfl hf (fun hf => ?_) (fun hf => ?_)
  · refine zr_aload_n 0 29 C (by decide +kernel) rfl rfl ?_
    refine zr_aload_n 0 30 C (by decide +kernel) rfl rfl ?_
    refine mg_0_16 (idx := 43) 33 C (by decide +kernel) rfl q_1007 ?_
    refine zr_iload_n 1 34 C (by decide +kernel) rfl rfl ?_
    refine ml_12 35 C (by decide +kernel) rfl hf (fun hf => ?_)
    refine zr_iload_n 2 36 C (by decide +kernel) rfl rfl ?_
    refine k_M_isIn (idx := 302) 39 C (by decide +kernel) rfl q_1337 (zb2 rfl rfl) (Nat.le_of_ble_eq_true rfl) hf (fun r4 σ3 hf => ?_)
    refine zr_if_ne (off := 7) 46 42 C (by decide +kernel) (by decide) rfl hf (fun hf => ?_) (fun hf => ?_)
    · refine zr_aload_n 0 47 C (by decide +kernel) rfl rfl ?_
      refine mg_0_54 (idx := 119) 50 C (by decide +kernel) rfl q_1045 ?_
      refine zr_iload_n 2 51 C (by decide +kernel) rfl rfl ?_
      refine ml_28 52 C (by decide +kernel) rfl hf (fun hf => ?_)
      refine zr_iload_n 3 53 C (by decide +kernel) rfl rfl ?_
      refine zr_icmp_le (off := 7) 60 56 C (by decide +kernel) (by decide) rfl hf (fun hf => ?_) (fun hf => ?_)
      · refine zr_iconst (v := 0) 0 61 C (by decide +kernel) rfl rfl ?_
        obtain rfl := Option.some.inj hf
        exact zr_iret C (by decide +kernel) T
      · refine zr_iconst (v := 3) 3 57 C (by decide +kernel) rfl rfl ?_
        refine zr_goto (off := 4) 61 C (by decide +kernel) (by decide) ?_
        obtain rfl := Option.some.inj hf
        exact zr_iret C (by decide +kernel) T
    · refine zr_iconst (v := 2) 2 43 C (by decide +kernel) rfl rfl ?_
      refine zr_goto (off := 18) 61 C (by decide +kernel) (by decide) ?_
      obtain rfl := Option.some.inj hf
      exact zr_iret C (by decide +kernel) T
  · refine zr_aload_n 0 9 C (by decide +kernel) rfl rfl ?_
    refine mg_0_15 (idx := 40) 12 C (by decide +kernel) rfl q_1006 ?_
    refine zr_iload_n 1 13 C (by decide +kernel) rfl rfl ?_
    refine ml_11 14 C (by decide +kernel) rfl hf (fun hf => ?_)
    refine zr_iload_n 2 15 C (by decide +kernel) rfl rfl ?_
    refine k_M_apart (idx := 225) 18 C (by decide +kernel) rfl q_1257 (zb2 rfl rfl) (Nat.le_of_ble_eq_true rfl) hf (fun r6 σ5 hf => ?_)
    refine zr_iconst (v := 2) 2 19 C (by decide +kernel) rfl rfl ?_
    refine zr_icmp_gt (off := 7) 26 22 C (by decide +kernel) (by decide) rfl hf (fun hf => ?_) (fun hf => ?_)
    · refine zr_iconst (v := 1) 1 27 C (by decide +kernel) rfl rfl ?_
      obtain rfl := Option.some.inj hf
      exact zr_iret C (by decide +kernel) T
    · refine zr_iconst (v := 0) 0 23 C (by decide +kernel) rfl rfl ?_
      refine zr_goto (off := 4) 27 C (by decide +kernel) (by decide) ?_
      obtain rfl := Option.some.inj hf
      exact zr_iret C (by decide +kernel) T
theorem y_M_why : zY yX11_why cX11_why 4 (some .int) 3 := ⟨q_1421, q_90, by decide +kernel, by decide +kernel, by decide +kernel⟩
theorem k_M_why {l : Launch} {d : zD} {F : zF} {h : Nat → Nat} {σ : zS} {lv : List (Option Value)} {pc : Nat} {own : String} {cc : ByteArray} {nL fr lo idx : Nat} {rest : List Value} {β : Type} {kf : Int32 → zS → Option β} {o2 : β}  {p1 : Int32} {p2 : Int32} {p3 : Int32} (pc' : Nat) (C : zOk d F own cc nL fr lo) (hd : decode cc pc = .ok (.invokevirtual idx, 3)) (hp : pc + 3 = pc') (hq : Cond.methodLink own idx yX11_why ∈ zW) (hm : 8 + 1 ≤ fr ∧ 8 + (4 + 11) + 183 ≤ lo) (hr : (rest.map fun v => v.category).sum ≤ 8) (hf : zbd (f_M_why p1 p2 p3 σ) kf = some o2) (K : ∀ (r : Int32) (σ' : zS), kf r σ' = some o2 → V l d F 0 0 (MW d h σ') lv pc' (.int r :: rest)) : V l d F 0 0 (MW d h σ) lv pc (.int p3 :: .int p2 :: .int p1 :: .ref (h 0) :: rest) := by
  obtain ⟨q, h1, h2⟩ := zbd_some hf
  exact zr_callV y_M_why ⟨q_1420, q_69⟩ 0 rfl rfl (As := [.int p1, .int p2, .int p3]) (m_M_why h1) rfl rfl pc' C hd hp hq hm hr (K _ _ h2)
/-! StepsBeyondModel.may(III)I -/
def f_M_may (p1 : Int32) (p2 : Int32) (p3 : Int32) (σ : zS) : Option (Int32 × zS) :=
  zbd (f_M_isPerson p1 σ) fun r2 σ1 =>
  (if r2 = 0 then
  some (-5, σ1)
  else
  zbd (f_M_isPlace p2 σ1) fun r4 σ3 =>
  (if r4 = 0 then
  some (-7, σ3)
  else
  zbd (f_M_in p3 0 9999 σ3) fun r6 σ5 =>
  (if r6 = 0 then
  some (-7, σ5)
  else
  zin p1 8 (zbd (f_M_spreads (σ5.2 11 p1.toNatClampNeg) σ5) fun _ σ7 =>
  zbd (f_M_why p1 p2 p3 σ7) fun r9 σ8 =>
  some (r9, σ8)))))
set_option maxRecDepth 4000 in
theorem m_M_may {l : Launch} {d : zD} {h : Nat → Nat} {out : Int32 × zS} {σ : zS} {p1 : Int32} {p2 : Int32} {p3 : Int32} (hf : f_M_may p1 p2 p3 σ = some out) : zM l yX11_may cX11_may 4 (some .int) 9 206 d [.ref (h 0), .int p1, .int p2, .int p3] (MW d h σ) (MW d h out.2) (some (.int out.1)) := by
  refine zM_of [some (.ref (h 0)), some (.int p1), some (.int p2), some (.int p3)] (by decide +kernel) rfl (Nat.le_of_ble_eq_true rfl) (fun F C T => ?_)
  unfold f_M_may at hf
  refine zr_aload_n 0 1 C (by decide +kernel) rfl rfl ?_
  refine zr_iload_n 1 2 C (by decide +kernel) rfl rfl ?_
  refine k_M_isPerson (idx := 331) 5 C (by decide +kernel) rfl q_1398 (zb2 rfl rfl) (Nat.le_of_ble_eq_true rfl) hf (fun r2 σ1 hf => ?_)
  refine zr_if_ne (off := 6) 11 8 C (by decide +kernel) (by decide) rfl hf (fun hf => ?_) (fun hf => ?_)
  · refine zr_iload_n 2 12 C (by decide +kernel) rfl rfl ?_
    refine k_M_isPlace (idx := 150) 15 C (by decide +kernel) rfl q_1178 (zb2 rfl rfl) (Nat.le_of_ble_eq_true rfl) hf (fun r4 σ3 hf => ?_)
    refine zr_if_eq (off := 14) 29 18 C (by decide +kernel) (by decide) rfl hf (fun hf => ?_) (fun hf => ?_)
    · refine zr_bipush (v := (-7)) (-7) 31 C (by decide +kernel) rfl rfl ?_
      obtain rfl := Option.some.inj hf
      exact zr_iret C (by decide +kernel) T
    · refine zr_iload_n 3 19 C (by decide +kernel) rfl rfl ?_
      refine zr_iconst (v := 0) 0 20 C (by decide +kernel) rfl rfl ?_
      refine zr_sipush (v := 9999) 9999 23 C (by decide +kernel) rfl rfl ?_
      refine k_M_in (idx := 139) 26 C (by decide +kernel) rfl q_1181 (zb2 rfl rfl) (Nat.le_of_ble_eq_true rfl) hf (fun r6 σ5 hf => ?_)
      refine zr_if_ne (off := 6) 32 29 C (by decide +kernel) (by decide) rfl hf (fun hf => ?_) (fun hf => ?_)
      · refine zr_aload_n 0 33 C (by decide +kernel) rfl rfl ?_
        refine zr_aload_n 0 34 C (by decide +kernel) rfl rfl ?_
        refine mg_0_15 (idx := 40) 37 C (by decide +kernel) rfl q_1006 ?_
        refine zr_iload_n 1 38 C (by decide +kernel) rfl rfl ?_
        refine ml_11 39 C (by decide +kernel) rfl hf (fun hf => ?_)
        refine k_M_spreads (idx := 325) 42 C (by decide +kernel) rfl q_1377 (zb2 rfl rfl) (Nat.le_of_ble_eq_true rfl) hf (fun _ σ7 hf => ?_)
        refine zr_aload_n 0 43 C (by decide +kernel) rfl rfl ?_
        refine zr_iload_n 1 44 C (by decide +kernel) rfl rfl ?_
        refine zr_iload_n 2 45 C (by decide +kernel) rfl rfl ?_
        refine zr_iload_n 3 46 C (by decide +kernel) rfl rfl ?_
        refine k_M_why (idx := 340) 49 C (by decide +kernel) rfl q_1418 (zb2 rfl rfl) (Nat.le_of_ble_eq_true rfl) hf (fun r9 σ8 hf => ?_)
        obtain rfl := Option.some.inj hf
        exact zr_iret C (by decide +kernel) T
      · refine zr_bipush (v := (-7)) (-7) 31 C (by decide +kernel) rfl rfl ?_
        obtain rfl := Option.some.inj hf
        exact zr_iret C (by decide +kernel) T
  · refine zr_bipush (v := (-5)) (-5) 10 C (by decide +kernel) rfl rfl ?_
    obtain rfl := Option.some.inj hf
    exact zr_iret C (by decide +kernel) T
theorem y_M_may : zY yX11_may cX11_may 4 (some .int) 3 := ⟨q_1417, q_90, by decide +kernel, by decide +kernel, by decide +kernel⟩
theorem k_M_may {l : Launch} {d : zD} {F : zF} {h : Nat → Nat} {σ : zS} {lv : List (Option Value)} {pc : Nat} {own : String} {cc : ByteArray} {nL fr lo idx : Nat} {rest : List Value} {β : Type} {kf : Int32 → zS → Option β} {o2 : β}  {p1 : Int32} {p2 : Int32} {p3 : Int32} (pc' : Nat) (C : zOk d F own cc nL fr lo) (hd : decode cc pc = .ok (.invokevirtual idx, 3)) (hp : pc + 3 = pc') (hq : Cond.methodLink own idx yX11_may ∈ zW) (hm : 9 + 1 ≤ fr ∧ 8 + (4 + 11) + 206 ≤ lo) (hr : (rest.map fun v => v.category).sum ≤ 8) (hf : zbd (f_M_may p1 p2 p3 σ) kf = some o2) (K : ∀ (r : Int32) (σ' : zS), kf r σ' = some o2 → V l d F 0 0 (MW d h σ') lv pc' (.int r :: rest)) : V l d F 0 0 (MW d h σ) lv pc (.int p3 :: .int p2 :: .int p1 :: .ref (h 0) :: rest) := by
  obtain ⟨q, h1, h2⟩ := zbd_some hf
  exact zr_callV y_M_may ⟨q_1415, q_1416⟩ 0 rfl rfl (As := [.int p1, .int p2, .int p3]) (m_M_may h1) rfl rfl pc' C hd hp hq hm hr (K _ _ h2)
/-! StepsBeyondModel.wells(II)I -/
def f_M_wells_74 (k40 : Int32 → Int32 → Int32 → Int32 → zS → Option (Int32 × zS)) (x1 : Int32) (x2 : Int32) (x4 : Int32) (y0 : Int32) (y1 : Int32) (σ : zS) : Option (Int32 × zS) :=
  zlt (y0 ||| y1) fun v1 => 
  k40 x1 x2 v1 (x4 + 1) σ
set_option maxRecDepth 4000 in
theorem w_M_wells_74 {l : Launch} {d : zD} {F : zF} {h : Nat → Nat} {out : Int32 × zS}  {k40 : Int32 → Int32 → Int32 → Int32 → zS → Option (Int32 × zS)} (C : zOk d F RX11 cX11_wells 5 9 206) (T : zRt d F (some .int) (some (.int out.1)) (MW d h out.2)) (H40 : ∀ (x1 : Int32) (x2 : Int32) (x3 : Int32) (x4 : Int32) (σ : zS), k40 x1 x2 x3 x4 σ = some out → V l d F 0 0 (MW d h σ) [some (.ref (h 0)), some (.int x1), some (.int x2), some (.int x3), some (.int x4)] 40 []) (x1 : Int32) (x2 : Int32) (x4 : Int32) (y0 : Int32) (y1 : Int32) (σ : zS) (hf : f_M_wells_74 k40 x1 x2 x4 y0 y1 σ = some out) : V l d F 0 0 (MW d h σ) [some (.ref (h 0)), some (.int x1), some (.int x2), none, some (.int x4)] 74 [.int y1, .int y0] := by
  unfold f_M_wells_74 at hf
  refine zr_ior 75 C (by decide +kernel) rfl ?_
  refine zr_name hf (fun v1 hf => ?_)
  refine zr_istore_n 3 [some (.ref (h 0)), some (.int x1), some (.int x2), some (.int v1), some (.int x4)] 76 C (by decide +kernel) rfl (by decide) rfl rfl ?_
  refine zr_iinc (j := 1) 4 [some (.ref (h 0)), some (.int x1), some (.int x2), some (.int v1), some (.int (x4 + 1))] 79 C (by decide +kernel) rfl rfl rfl (by decide) rfl rfl ?_
  refine zr_goto (off := -39) 40 C (by decide +kernel) (by decide) ?_
  exact H40 _ _ _ _ _ hf
def f_M_wells_40b (k40 : Int32 → Int32 → Int32 → Int32 → zS → Option (Int32 × zS)) (x1 : Int32) (x2 : Int32) (x3 : Int32) (x4 : Int32) (σ : zS) : Option (Int32 × zS) :=
  (if (σ.1 17) ≤ x4 then
  some (x3, σ)
  else
  zin x4 10 (zbd (f_M_why x1 (σ.2 13 x4.toNatClampNeg) x2 σ) fun r2 σ1 =>
  (if r2 = 0 then
  f_M_wells_74 k40 x1 x2 x4 x3 (zshl 1 x4) σ1
  else
  f_M_wells_74 k40 x1 x2 x4 x3 0 σ1)))
set_option maxRecDepth 4000 in
theorem w_M_wells_40b {l : Launch} {d : zD} {F : zF} {h : Nat → Nat} {out : Int32 × zS}  {k40 : Int32 → Int32 → Int32 → Int32 → zS → Option (Int32 × zS)} (C : zOk d F RX11 cX11_wells 5 9 206) (T : zRt d F (some .int) (some (.int out.1)) (MW d h out.2)) (H40 : ∀ (x1 : Int32) (x2 : Int32) (x3 : Int32) (x4 : Int32) (σ : zS), k40 x1 x2 x3 x4 σ = some out → V l d F 0 0 (MW d h σ) [some (.ref (h 0)), some (.int x1), some (.int x2), some (.int x3), some (.int x4)] 40 []) (x1 : Int32) (x2 : Int32) (x3 : Int32) (x4 : Int32) (σ : zS) (hf : f_M_wells_40b k40 x1 x2 x3 x4 σ = some out) : V l d F 0 0 (MW d h σ) [some (.ref (h 0)), some (.int x1), some (.int x2), some (.int x3), some (.int x4)] 40 [] := by
  unfold f_M_wells_40b at hf
  refine zr_iload 4 42 C (by decide +kernel) rfl rfl ?_
  refine zr_aload_n 0 43 C (by decide +kernel) rfl rfl ?_
  refine mg_0_17 (idx := 337) 46 C (by decide +kernel) rfl q_1008 ?_
  refine zr_icmp_ge (off := 36) 82 49 C (by decide +kernel) (by decide) rfl hf (fun hf => ?_) (fun hf => ?_)
  · refine zr_iload_n 3 83 C (by decide +kernel) rfl rfl ?_
    obtain rfl := Option.some.inj hf
    exact zr_iret C (by decide +kernel) T
  · refine zr_iload_n 3 50 C (by decide +kernel) rfl rfl ?_
    refine zr_aload_n 0 51 C (by decide +kernel) rfl rfl ?_
    refine zr_iload_n 1 52 C (by decide +kernel) rfl rfl ?_
    refine zr_aload_n 0 53 C (by decide +kernel) rfl rfl ?_
    refine mg_0_18 (idx := 46) 56 C (by decide +kernel) rfl q_1009 ?_
    refine zr_iload 4 58 C (by decide +kernel) rfl rfl ?_
    refine ml_13 59 C (by decide +kernel) rfl hf (fun hf => ?_)
    refine zr_iload_n 2 60 C (by decide +kernel) rfl rfl ?_
    refine k_M_why (idx := 340) 63 C (by decide +kernel) rfl q_1418 (zb2 rfl rfl) (Nat.le_of_ble_eq_true rfl) hf (fun r2 σ1 hf => ?_)
    refine zr_if_ne (off := 10) 73 66 C (by decide +kernel) (by decide) rfl hf (fun hf => ?_) (fun hf => ?_)
    · refine zr_iconst (v := 0) 0 74 C (by decide +kernel) rfl rfl ?_
      refine zr_less (zA (zA (zA (zN (zA zE))))) ?_
      exact w_M_wells_74 C T H40 _ _ _ _ _ _ hf
    · refine zr_iconst (v := 1) 1 67 C (by decide +kernel) rfl rfl ?_
      refine zr_iload 4 69 C (by decide +kernel) rfl rfl ?_
      refine zr_ishl 70 C (by decide +kernel) rfl ?_
      refine zr_goto (off := 4) 74 C (by decide +kernel) (by decide) ?_
      refine zr_less (zA (zA (zA (zN (zA zE))))) ?_
      exact w_M_wells_74 C T H40 _ _ _ _ _ _ hf
def f_M_wells_40  : Nat → Int32 → Int32 → Int32 → Int32 → zS → Option (Int32 × zS)
  | 0, _, _, _, _, _ => none
  | n + 1, x1, x2, x3, x4,  σ => f_M_wells_40b (fun x1 x2 x3 x4 σ => f_M_wells_40  n x1 x2 x3 x4 σ) x1 x2 x3 x4 σ
theorem w_M_wells_40 {l : Launch} {d : zD} {F : zF} {h : Nat → Nat} {out : Int32 × zS}   (C : zOk d F RX11 cX11_wells 5 9 206) (T : zRt d F (some .int) (some (.int out.1)) (MW d h out.2))  : ∀ (n : Nat) (x1 : Int32) (x2 : Int32) (x3 : Int32) (x4 : Int32) (σ : zS), f_M_wells_40  n x1 x2 x3 x4 σ = some out → V l d F 0 0 (MW d h σ) [some (.ref (h 0)), some (.int x1), some (.int x2), some (.int x3), some (.int x4)] 40 [] := by
  intro n
  induction n with
  | zero =>
    intro x1 x2 x3 x4 σ hf
    cases hf
  | succ n ih =>
    intro x1 x2 x3 x4 σ hf
    exact w_M_wells_40b C T ih x1 x2 x3 x4 σ hf
def f_M_wells (p1 : Int32) (p2 : Int32) (σ : zS) : Option (Int32 × zS) :=
  zbd (f_M_isPerson p1 σ) fun r2 σ1 =>
  (if r2 = 0 then
  some (-5, σ1)
  else
  zbd (f_M_in p2 0 9999 σ1) fun r4 σ3 =>
  (if r4 = 0 then
  some (-7, σ3)
  else
  zin p1 8 (zbd (f_M_spreads (σ3.2 11 p1.toNatClampNeg) σ3) fun _ σ5 =>
  f_M_wells_40 zfu p1 p2 0 0 σ5)))
set_option maxRecDepth 4000 in
theorem m_M_wells {l : Launch} {d : zD} {h : Nat → Nat} {out : Int32 × zS} {σ : zS} {p1 : Int32} {p2 : Int32} (hf : f_M_wells p1 p2 σ = some out) : zM l yX11_wells cX11_wells 5 (some .int) 9 206 d [.ref (h 0), .int p1, .int p2] (MW d h σ) (MW d h out.2) (some (.int out.1)) := by
  refine zM_of [some (.ref (h 0)), some (.int p1), some (.int p2), none, none] (by decide +kernel) rfl (Nat.le_of_ble_eq_true rfl) (fun F C T => ?_)
  unfold f_M_wells at hf
  refine zr_aload_n 0 1 C (by decide +kernel) rfl rfl ?_
  refine zr_iload_n 1 2 C (by decide +kernel) rfl rfl ?_
  refine k_M_isPerson (idx := 331) 5 C (by decide +kernel) rfl q_1398 (zb2 rfl rfl) (Nat.le_of_ble_eq_true rfl) hf (fun r2 σ1 hf => ?_)
  refine zr_if_ne (off := 6) 11 8 C (by decide +kernel) (by decide) rfl hf (fun hf => ?_) (fun hf => ?_)
  · refine zr_iload_n 2 12 C (by decide +kernel) rfl rfl ?_
    refine zr_iconst (v := 0) 0 13 C (by decide +kernel) rfl rfl ?_
    refine zr_sipush (v := 9999) 9999 16 C (by decide +kernel) rfl rfl ?_
    refine k_M_in (idx := 139) 19 C (by decide +kernel) rfl q_1181 (zb2 rfl rfl) (Nat.le_of_ble_eq_true rfl) hf (fun r4 σ3 hf => ?_)
    refine zr_if_ne (off := 6) 25 22 C (by decide +kernel) (by decide) rfl hf (fun hf => ?_) (fun hf => ?_)
    · refine zr_aload_n 0 26 C (by decide +kernel) rfl rfl ?_
      refine zr_aload_n 0 27 C (by decide +kernel) rfl rfl ?_
      refine mg_0_15 (idx := 40) 30 C (by decide +kernel) rfl q_1006 ?_
      refine zr_iload_n 1 31 C (by decide +kernel) rfl rfl ?_
      refine ml_11 32 C (by decide +kernel) rfl hf (fun hf => ?_)
      refine k_M_spreads (idx := 325) 35 C (by decide +kernel) rfl q_1377 (zb2 rfl rfl) (Nat.le_of_ble_eq_true rfl) hf (fun _ σ5 hf => ?_)
      refine zr_iconst (v := 0) 0 36 C (by decide +kernel) rfl rfl ?_
      refine zr_istore_n 3 [some (.ref (h 0)), some (.int p1), some (.int p2), some (.int 0), none] 37 C (by decide +kernel) rfl (by decide) rfl rfl ?_
      refine zr_iconst (v := 0) 0 38 C (by decide +kernel) rfl rfl ?_
      refine zr_istore 4 [some (.ref (h 0)), some (.int p1), some (.int p2), some (.int 0), some (.int 0)] 40 C (by decide +kernel) rfl (by decide) rfl rfl ?_
      exact w_M_wells_40 C T zfu _ _ _ _ _ hf
    · refine zr_bipush (v := (-7)) (-7) 24 C (by decide +kernel) rfl rfl ?_
      obtain rfl := Option.some.inj hf
      exact zr_iret C (by decide +kernel) T
  · refine zr_bipush (v := (-5)) (-5) 10 C (by decide +kernel) rfl rfl ?_
    obtain rfl := Option.some.inj hf
    exact zr_iret C (by decide +kernel) T
theorem y_M_wells : zY yX11_wells cX11_wells 5 (some .int) 2 := ⟨q_1425, q_90, by decide +kernel, by decide +kernel, by decide +kernel⟩
theorem k_M_wells {l : Launch} {d : zD} {F : zF} {h : Nat → Nat} {σ : zS} {lv : List (Option Value)} {pc : Nat} {own : String} {cc : ByteArray} {nL fr lo idx : Nat} {rest : List Value} {β : Type} {kf : Int32 → zS → Option β} {o2 : β}  {p1 : Int32} {p2 : Int32} (pc' : Nat) (C : zOk d F own cc nL fr lo) (hd : decode cc pc = .ok (.invokevirtual idx, 3)) (hp : pc + 3 = pc') (hq : Cond.methodLink own idx yX11_wells ∈ zW) (hm : 9 + 1 ≤ fr ∧ 8 + (5 + 11) + 206 ≤ lo) (hr : (rest.map fun v => v.category).sum ≤ 8) (hf : zbd (f_M_wells p1 p2 σ) kf = some o2) (K : ∀ (r : Int32) (σ' : zS), kf r σ' = some o2 → V l d F 0 0 (MW d h σ') lv pc' (.int r :: rest)) : V l d F 0 0 (MW d h σ) lv pc (.int p2 :: .int p1 :: .ref (h 0) :: rest) := by
  obtain ⟨q, h1, h2⟩ := zbd_some hf
  exact zr_callV y_M_wells ⟨q_1423, q_1424⟩ 0 rfl rfl (As := [.int p1, .int p2]) (m_M_wells h1) rfl rfl pc' C hd hp hq hm hr (K _ _ h2)
/-! StepsBeyondModel.who(II)I -/
def f_M_who_66 (k26 : Int32 → Int32 → Int32 → Int32 → zS → Option (Int32 × zS)) (x1 : Int32) (x2 : Int32) (x4 : Int32) (y0 : Int32) (y1 : Int32) (σ : zS) : Option (Int32 × zS) :=
  zlt (y0 ||| y1) fun v1 => 
  k26 x1 x2 v1 (x4 + 1) σ
set_option maxRecDepth 4000 in
theorem w_M_who_66 {l : Launch} {d : zD} {F : zF} {h : Nat → Nat} {out : Int32 × zS}  {k26 : Int32 → Int32 → Int32 → Int32 → zS → Option (Int32 × zS)} (C : zOk d F RX11 cX11_who 5 9 206) (T : zRt d F (some .int) (some (.int out.1)) (MW d h out.2)) (H26 : ∀ (x1 : Int32) (x2 : Int32) (x3 : Int32) (x4 : Int32) (σ : zS), k26 x1 x2 x3 x4 σ = some out → V l d F 0 0 (MW d h σ) [some (.ref (h 0)), some (.int x1), some (.int x2), some (.int x3), some (.int x4)] 26 []) (x1 : Int32) (x2 : Int32) (x4 : Int32) (y0 : Int32) (y1 : Int32) (σ : zS) (hf : f_M_who_66 k26 x1 x2 x4 y0 y1 σ = some out) : V l d F 0 0 (MW d h σ) [some (.ref (h 0)), some (.int x1), some (.int x2), none, some (.int x4)] 66 [.int y1, .int y0] := by
  unfold f_M_who_66 at hf
  refine zr_ior 67 C (by decide +kernel) rfl ?_
  refine zr_name hf (fun v1 hf => ?_)
  refine zr_istore_n 3 [some (.ref (h 0)), some (.int x1), some (.int x2), some (.int v1), some (.int x4)] 68 C (by decide +kernel) rfl (by decide) rfl rfl ?_
  refine zr_iinc (j := 1) 4 [some (.ref (h 0)), some (.int x1), some (.int x2), some (.int v1), some (.int (x4 + 1))] 71 C (by decide +kernel) rfl rfl rfl (by decide) rfl rfl ?_
  refine zr_goto (off := -45) 26 C (by decide +kernel) (by decide) ?_
  exact H26 _ _ _ _ _ hf
def f_M_who_26b (k26 : Int32 → Int32 → Int32 → Int32 → zS → Option (Int32 × zS)) (x1 : Int32) (x2 : Int32) (x3 : Int32) (x4 : Int32) (σ : zS) : Option (Int32 × zS) :=
  (if (σ.1 14) ≤ x4 then
  some (x3, σ)
  else
  zin x4 8 (zbd (f_M_spreads (σ.2 11 x4.toNatClampNeg) σ) fun _ σ1 =>
  zbd (f_M_why x4 x1 x2 σ1) fun r3 σ2 =>
  (if r3 = 0 then
  f_M_who_66 k26 x1 x2 x4 x3 (zshl 1 x4) σ2
  else
  f_M_who_66 k26 x1 x2 x4 x3 0 σ2)))
set_option maxRecDepth 4000 in
theorem w_M_who_26b {l : Launch} {d : zD} {F : zF} {h : Nat → Nat} {out : Int32 × zS}  {k26 : Int32 → Int32 → Int32 → Int32 → zS → Option (Int32 × zS)} (C : zOk d F RX11 cX11_who 5 9 206) (T : zRt d F (some .int) (some (.int out.1)) (MW d h out.2)) (H26 : ∀ (x1 : Int32) (x2 : Int32) (x3 : Int32) (x4 : Int32) (σ : zS), k26 x1 x2 x3 x4 σ = some out → V l d F 0 0 (MW d h σ) [some (.ref (h 0)), some (.int x1), some (.int x2), some (.int x3), some (.int x4)] 26 []) (x1 : Int32) (x2 : Int32) (x3 : Int32) (x4 : Int32) (σ : zS) (hf : f_M_who_26b k26 x1 x2 x3 x4 σ = some out) : V l d F 0 0 (MW d h σ) [some (.ref (h 0)), some (.int x1), some (.int x2), some (.int x3), some (.int x4)] 26 [] := by
  unfold f_M_who_26b at hf
  refine zr_iload 4 28 C (by decide +kernel) rfl rfl ?_
  refine zr_aload_n 0 29 C (by decide +kernel) rfl rfl ?_
  refine mg_0_14 (idx := 328) 32 C (by decide +kernel) rfl q_1005 ?_
  refine zr_icmp_ge (off := 42) 74 35 C (by decide +kernel) (by decide) rfl hf (fun hf => ?_) (fun hf => ?_)
  · refine zr_iload_n 3 75 C (by decide +kernel) rfl rfl ?_
    obtain rfl := Option.some.inj hf
    exact zr_iret C (by decide +kernel) T
  · refine zr_aload_n 0 36 C (by decide +kernel) rfl rfl ?_
    refine zr_aload_n 0 37 C (by decide +kernel) rfl rfl ?_
    refine mg_0_15 (idx := 40) 40 C (by decide +kernel) rfl q_1006 ?_
    refine zr_iload 4 42 C (by decide +kernel) rfl rfl ?_
    refine ml_11 43 C (by decide +kernel) rfl hf (fun hf => ?_)
    refine k_M_spreads (idx := 325) 46 C (by decide +kernel) rfl q_1377 (zb2 rfl rfl) (Nat.le_of_ble_eq_true rfl) hf (fun _ σ1 hf => ?_)
    refine zr_iload_n 3 47 C (by decide +kernel) rfl rfl ?_
    refine zr_aload_n 0 48 C (by decide +kernel) rfl rfl ?_
    refine zr_iload 4 50 C (by decide +kernel) rfl rfl ?_
    refine zr_iload_n 1 51 C (by decide +kernel) rfl rfl ?_
    refine zr_iload_n 2 52 C (by decide +kernel) rfl rfl ?_
    refine k_M_why (idx := 340) 55 C (by decide +kernel) rfl q_1418 (zb2 rfl rfl) (Nat.le_of_ble_eq_true rfl) hf (fun r3 σ2 hf => ?_)
    refine zr_if_ne (off := 10) 65 58 C (by decide +kernel) (by decide) rfl hf (fun hf => ?_) (fun hf => ?_)
    · refine zr_iconst (v := 0) 0 66 C (by decide +kernel) rfl rfl ?_
      refine zr_less (zA (zA (zA (zN (zA zE))))) ?_
      exact w_M_who_66 C T H26 _ _ _ _ _ _ hf
    · refine zr_iconst (v := 1) 1 59 C (by decide +kernel) rfl rfl ?_
      refine zr_iload 4 61 C (by decide +kernel) rfl rfl ?_
      refine zr_ishl 62 C (by decide +kernel) rfl ?_
      refine zr_goto (off := 4) 66 C (by decide +kernel) (by decide) ?_
      refine zr_less (zA (zA (zA (zN (zA zE))))) ?_
      exact w_M_who_66 C T H26 _ _ _ _ _ _ hf
def f_M_who_26  : Nat → Int32 → Int32 → Int32 → Int32 → zS → Option (Int32 × zS)
  | 0, _, _, _, _, _ => none
  | n + 1, x1, x2, x3, x4,  σ => f_M_who_26b (fun x1 x2 x3 x4 σ => f_M_who_26  n x1 x2 x3 x4 σ) x1 x2 x3 x4 σ
theorem w_M_who_26 {l : Launch} {d : zD} {F : zF} {h : Nat → Nat} {out : Int32 × zS}   (C : zOk d F RX11 cX11_who 5 9 206) (T : zRt d F (some .int) (some (.int out.1)) (MW d h out.2))  : ∀ (n : Nat) (x1 : Int32) (x2 : Int32) (x3 : Int32) (x4 : Int32) (σ : zS), f_M_who_26  n x1 x2 x3 x4 σ = some out → V l d F 0 0 (MW d h σ) [some (.ref (h 0)), some (.int x1), some (.int x2), some (.int x3), some (.int x4)] 26 [] := by
  intro n
  induction n with
  | zero =>
    intro x1 x2 x3 x4 σ hf
    cases hf
  | succ n ih =>
    intro x1 x2 x3 x4 σ hf
    exact w_M_who_26b C T ih x1 x2 x3 x4 σ hf
def f_M_who (p1 : Int32) (p2 : Int32) (σ : zS) : Option (Int32 × zS) :=
  zbd (f_M_isPlace p1 σ) fun r2 σ1 =>
  (if r2 = 0 then
  some (-2, σ1)
  else
  zbd (f_M_in p2 0 9999 σ1) fun r4 σ3 =>
  (if r4 = 0 then
  some (-2, σ3)
  else
  f_M_who_26 zfu p1 p2 0 0 σ3))
set_option maxRecDepth 4000 in
theorem m_M_who {l : Launch} {d : zD} {h : Nat → Nat} {out : Int32 × zS} {σ : zS} {p1 : Int32} {p2 : Int32} (hf : f_M_who p1 p2 σ = some out) : zM l yX11_who cX11_who 5 (some .int) 9 206 d [.ref (h 0), .int p1, .int p2] (MW d h σ) (MW d h out.2) (some (.int out.1)) := by
  refine zM_of [some (.ref (h 0)), some (.int p1), some (.int p2), none, none] (by decide +kernel) rfl (Nat.le_of_ble_eq_true rfl) (fun F C T => ?_)
  unfold f_M_who at hf
  refine zr_iload_n 1 1 C (by decide +kernel) rfl rfl ?_
  refine k_M_isPlace (idx := 150) 4 C (by decide +kernel) rfl q_1178 (zb2 rfl rfl) (Nat.le_of_ble_eq_true rfl) hf (fun r2 σ1 hf => ?_)
  refine zr_if_eq (off := 14) 18 7 C (by decide +kernel) (by decide) rfl hf (fun hf => ?_) (fun hf => ?_)
  · refine zr_bipush (v := (-2)) (-2) 20 C (by decide +kernel) rfl rfl ?_
    obtain rfl := Option.some.inj hf
    exact zr_iret C (by decide +kernel) T
  · refine zr_iload_n 2 8 C (by decide +kernel) rfl rfl ?_
    refine zr_iconst (v := 0) 0 9 C (by decide +kernel) rfl rfl ?_
    refine zr_sipush (v := 9999) 9999 12 C (by decide +kernel) rfl rfl ?_
    refine k_M_in (idx := 139) 15 C (by decide +kernel) rfl q_1181 (zb2 rfl rfl) (Nat.le_of_ble_eq_true rfl) hf (fun r4 σ3 hf => ?_)
    refine zr_if_ne (off := 6) 21 18 C (by decide +kernel) (by decide) rfl hf (fun hf => ?_) (fun hf => ?_)
    · refine zr_iconst (v := 0) 0 22 C (by decide +kernel) rfl rfl ?_
      refine zr_istore_n 3 [some (.ref (h 0)), some (.int p1), some (.int p2), some (.int 0), none] 23 C (by decide +kernel) rfl (by decide) rfl rfl ?_
      refine zr_iconst (v := 0) 0 24 C (by decide +kernel) rfl rfl ?_
      refine zr_istore 4 [some (.ref (h 0)), some (.int p1), some (.int p2), some (.int 0), some (.int 0)] 26 C (by decide +kernel) rfl (by decide) rfl rfl ?_
      exact w_M_who_26 C T zfu _ _ _ _ _ hf
    · refine zr_bipush (v := (-2)) (-2) 20 C (by decide +kernel) rfl rfl ?_
      obtain rfl := Option.some.inj hf
      exact zr_iret C (by decide +kernel) T
theorem y_M_who : zY yX11_who cX11_who 5 (some .int) 2 := ⟨q_1429, q_90, by decide +kernel, by decide +kernel, by decide +kernel⟩
theorem k_M_who {l : Launch} {d : zD} {F : zF} {h : Nat → Nat} {σ : zS} {lv : List (Option Value)} {pc : Nat} {own : String} {cc : ByteArray} {nL fr lo idx : Nat} {rest : List Value} {β : Type} {kf : Int32 → zS → Option β} {o2 : β}  {p1 : Int32} {p2 : Int32} (pc' : Nat) (C : zOk d F own cc nL fr lo) (hd : decode cc pc = .ok (.invokevirtual idx, 3)) (hp : pc + 3 = pc') (hq : Cond.methodLink own idx yX11_who ∈ zW) (hm : 9 + 1 ≤ fr ∧ 8 + (5 + 11) + 206 ≤ lo) (hr : (rest.map fun v => v.category).sum ≤ 8) (hf : zbd (f_M_who p1 p2 σ) kf = some o2) (K : ∀ (r : Int32) (σ' : zS), kf r σ' = some o2 → V l d F 0 0 (MW d h σ') lv pc' (.int r :: rest)) : V l d F 0 0 (MW d h σ) lv pc (.int p2 :: .int p1 :: .ref (h 0) :: rest) := by
  obtain ⟨q, h1, h2⟩ := zbd_some hf
  exact zr_callV y_M_who ⟨q_1427, q_1428⟩ 0 rfl rfl (As := [.int p1, .int p2]) (m_M_who h1) rfl rfl pc' C hd hp hq hm hr (K _ _ h2)
/-! StepsBeyondModel.meet(III)I -/
def f_M_meet_202 (k136 : Int32 → Int32 → Int32 → Int32 → zS → Option (Int32 × zS)) (x3 : Int32) (x4 : Int32) (x5 : Int32) (x6 : Int32) (σ : zS) : Option (Int32 × zS) :=
  k136 x3 x4 x5 (x6 + 1) σ
set_option maxRecDepth 4000 in
theorem w_M_meet_202 {l : Launch} {d : zD} {F : zF} {h : Nat → Nat} {out : Int32 × zS}  {k136 : Int32 → Int32 → Int32 → Int32 → zS → Option (Int32 × zS)} (C : zOk d F RX11 cX11_meet 8 8 185) (T : zRt d F (some .int) (some (.int out.1)) (MW d h out.2)) (H136 : ∀ (x3 : Int32) (x4 : Int32) (x5 : Int32) (x6 : Int32) (σ : zS), k136 x3 x4 x5 x6 σ = some out → V l d F 0 0 (MW d h σ) [some (.ref (h 0)), none, none, some (.int x3), some (.int x4), some (.int x5), some (.int x6), none] 136 []) (x3 : Int32) (x4 : Int32) (x5 : Int32) (x6 : Int32) (σ : zS) (hf : f_M_meet_202 k136 x3 x4 x5 x6 σ = some out) : V l d F 0 0 (MW d h σ) [some (.ref (h 0)), none, none, some (.int x3), some (.int x4), some (.int x5), some (.int x6), none] 202 [] := by
  unfold f_M_meet_202 at hf
  refine zr_iinc (j := 1) 6 [some (.ref (h 0)), none, none, some (.int x3), some (.int x4), some (.int x5), some (.int (x6 + 1)), none] 205 C (by decide +kernel) rfl rfl rfl (by decide) rfl rfl ?_
  refine zr_goto (off := -69) 136 C (by decide +kernel) (by decide) ?_
  exact H136 _ _ _ _ _ hf
def f_M_meet_194 (k136 : Int32 → Int32 → Int32 → Int32 → zS → Option (Int32 × zS)) (x3 : Int32) (x6 : Int32) (x7 : Int32) (σ : zS) : Option (Int32 × zS) :=
  f_M_meet_202 k136 x3 x6 x7 x6 σ
set_option maxRecDepth 4000 in
theorem w_M_meet_194 {l : Launch} {d : zD} {F : zF} {h : Nat → Nat} {out : Int32 × zS}  {k136 : Int32 → Int32 → Int32 → Int32 → zS → Option (Int32 × zS)} (C : zOk d F RX11 cX11_meet 8 8 185) (T : zRt d F (some .int) (some (.int out.1)) (MW d h out.2)) (H136 : ∀ (x3 : Int32) (x4 : Int32) (x5 : Int32) (x6 : Int32) (σ : zS), k136 x3 x4 x5 x6 σ = some out → V l d F 0 0 (MW d h σ) [some (.ref (h 0)), none, none, some (.int x3), some (.int x4), some (.int x5), some (.int x6), none] 136 []) (x3 : Int32) (x6 : Int32) (x7 : Int32) (σ : zS) (hf : f_M_meet_194 k136 x3 x6 x7 σ = some out) : V l d F 0 0 (MW d h σ) [some (.ref (h 0)), none, none, some (.int x3), none, none, some (.int x6), some (.int x7)] 194 [] := by
  unfold f_M_meet_194 at hf
  refine zr_iload 6 196 C (by decide +kernel) rfl rfl ?_
  refine zr_istore 4 [some (.ref (h 0)), none, none, some (.int x3), some (.int x6), none, some (.int x6), some (.int x7)] 198 C (by decide +kernel) rfl (by decide) rfl rfl ?_
  refine zr_iload 7 200 C (by decide +kernel) rfl rfl ?_
  refine zr_istore 5 [some (.ref (h 0)), none, none, some (.int x3), some (.int x6), some (.int x7), some (.int x6), some (.int x7)] 202 C (by decide +kernel) rfl (by decide) rfl rfl ?_
  refine zr_less (zA (zN (zN (zA (zA (zA (zA (zN zE)))))))) ?_
  exact w_M_meet_202 C T H136 _ _ _ _ _ hf
def f_M_meet_136b (k136 : Int32 → Int32 → Int32 → Int32 → zS → Option (Int32 × zS)) (x3 : Int32) (x4 : Int32) (x5 : Int32) (x6 : Int32) (σ : zS) : Option (Int32 × zS) :=
  (if 1600 ≤ x6 then
  (if x4 = (-1) then
  some (-1, σ)
  else
  (if x3 = 0 then
  some (x4, σ)
  else
  some (x5, σ)))
  else
  zin x6 1600 (zin x6 1600 (zlt ((σ.2 31 x6.toNatClampNeg) + (σ.2 28 x6.toNatClampNeg)) fun v1 => 
  zin x6 1600 ((if (σ.2 26 x6.toNatClampNeg) = 0 then
  f_M_meet_202 k136 x3 x4 x5 x6 σ
  else
  zin x6 1600 ((if (σ.2 27 x6.toNatClampNeg) = 0 then
  f_M_meet_202 k136 x3 x4 x5 x6 σ
  else
  (if x4 = (-1) then
  f_M_meet_194 k136 x3 x6 v1 σ
  else
  (if x5 ≤ v1 then
  f_M_meet_202 k136 x3 x4 x5 x6 σ
  else
  f_M_meet_194 k136 x3 x6 v1 σ)))))))))
set_option maxRecDepth 4000 in
theorem w_M_meet_136b {l : Launch} {d : zD} {F : zF} {h : Nat → Nat} {out : Int32 × zS}  {k136 : Int32 → Int32 → Int32 → Int32 → zS → Option (Int32 × zS)} (C : zOk d F RX11 cX11_meet 8 8 185) (T : zRt d F (some .int) (some (.int out.1)) (MW d h out.2)) (H136 : ∀ (x3 : Int32) (x4 : Int32) (x5 : Int32) (x6 : Int32) (σ : zS), k136 x3 x4 x5 x6 σ = some out → V l d F 0 0 (MW d h σ) [some (.ref (h 0)), none, none, some (.int x3), some (.int x4), some (.int x5), some (.int x6), none] 136 []) (x3 : Int32) (x4 : Int32) (x5 : Int32) (x6 : Int32) (σ : zS) (hf : f_M_meet_136b k136 x3 x4 x5 x6 σ = some out) : V l d F 0 0 (MW d h σ) [some (.ref (h 0)), none, none, some (.int x3), some (.int x4), some (.int x5), some (.int x6), none] 136 [] := by
  unfold f_M_meet_136b at hf
  refine zr_iload 6 138 C (by decide +kernel) rfl rfl ?_
  refine zr_sipush (v := 1600) 1600 141 C (by decide +kernel) rfl rfl ?_
  refine zr_icmp_ge (off := 67) 208 144 C (by decide +kernel) (by decide) rfl hf (fun hf => ?_) (fun hf => ?_)
  · refine zr_iload 4 210 C (by decide +kernel) rfl rfl ?_
    refine zr_iconst (v := (-1)) (-1) 211 C (by decide +kernel) rfl rfl ?_
    refine zr_icmp_ne (off := 7) 218 214 C (by decide +kernel) (by decide) rfl hf (fun hf => ?_) (fun hf => ?_)
    · refine zr_iload_n 3 219 C (by decide +kernel) rfl rfl ?_
      refine zr_if_ne (off := 8) 227 222 C (by decide +kernel) (by decide) rfl hf (fun hf => ?_) (fun hf => ?_)
      · refine zr_iload 5 229 C (by decide +kernel) rfl rfl ?_
        obtain rfl := Option.some.inj hf
        exact zr_iret C (by decide +kernel) T
      · refine zr_iload 4 224 C (by decide +kernel) rfl rfl ?_
        refine zr_goto (off := 5) 229 C (by decide +kernel) (by decide) ?_
        obtain rfl := Option.some.inj hf
        exact zr_iret C (by decide +kernel) T
    · refine zr_iconst (v := (-1)) (-1) 215 C (by decide +kernel) rfl rfl ?_
      refine zr_goto (off := 14) 229 C (by decide +kernel) (by decide) ?_
      obtain rfl := Option.some.inj hf
      exact zr_iret C (by decide +kernel) T
  · refine zr_aload_n 0 145 C (by decide +kernel) rfl rfl ?_
    refine mg_0_59 (idx := 128) 148 C (by decide +kernel) rfl q_1050 ?_
    refine zr_iload 6 150 C (by decide +kernel) rfl rfl ?_
    refine ml_31 151 C (by decide +kernel) rfl hf (fun hf => ?_)
    refine zr_aload_n 0 152 C (by decide +kernel) rfl rfl ?_
    refine mg_0_54 (idx := 119) 155 C (by decide +kernel) rfl q_1045 ?_
    refine zr_iload 6 157 C (by decide +kernel) rfl rfl ?_
    refine ml_28 158 C (by decide +kernel) rfl hf (fun hf => ?_)
    refine zr_iadd 159 C (by decide +kernel) rfl ?_
    refine zr_name hf (fun v1 hf => ?_)
    refine zr_istore 7 [some (.ref (h 0)), none, none, some (.int x3), some (.int x4), some (.int x5), some (.int x6), some (.int v1)] 161 C (by decide +kernel) rfl (by decide) rfl rfl ?_
    refine zr_aload_n 0 162 C (by decide +kernel) rfl rfl ?_
    refine mg_0_52 (idx := 112) 165 C (by decide +kernel) rfl q_1043 ?_
    refine zr_iload 6 167 C (by decide +kernel) rfl rfl ?_
    refine ml_26 168 C (by decide +kernel) rfl hf (fun hf => ?_)
    refine zr_if_eq (off := 34) 202 171 C (by decide +kernel) (by decide) rfl hf (fun hf => ?_) (fun hf => ?_)
    · refine zr_less (zA (zN (zN (zA (zA (zA (zA (zN zE)))))))) ?_
      exact w_M_meet_202 C T H136 _ _ _ _ _ hf
    · refine zr_aload_n 0 172 C (by decide +kernel) rfl rfl ?_
      refine mg_0_53 (idx := 116) 175 C (by decide +kernel) rfl q_1044 ?_
      refine zr_iload 6 177 C (by decide +kernel) rfl rfl ?_
      refine ml_27 178 C (by decide +kernel) rfl hf (fun hf => ?_)
      refine zr_if_eq (off := 24) 202 181 C (by decide +kernel) (by decide) rfl hf (fun hf => ?_) (fun hf => ?_)
      · refine zr_less (zA (zN (zN (zA (zA (zA (zA (zN zE)))))))) ?_
        exact w_M_meet_202 C T H136 _ _ _ _ _ hf
      · refine zr_iload 4 183 C (by decide +kernel) rfl rfl ?_
        refine zr_iconst (v := (-1)) (-1) 184 C (by decide +kernel) rfl rfl ?_
        refine zr_icmp_eq (off := 10) 194 187 C (by decide +kernel) (by decide) rfl hf (fun hf => ?_) (fun hf => ?_)
        · refine zr_less (zA (zN (zN (zA (zN (zN (zA (zA zE)))))))) ?_
          exact w_M_meet_194 C T H136 _ _ _ _ hf
        · refine zr_iload 7 189 C (by decide +kernel) rfl rfl ?_
          refine zr_iload 5 191 C (by decide +kernel) rfl rfl ?_
          refine zr_icmp_ge (off := 11) 202 194 C (by decide +kernel) (by decide) rfl hf (fun hf => ?_) (fun hf => ?_)
          · refine zr_less (zA (zN (zN (zA (zA (zA (zA (zN zE)))))))) ?_
            exact w_M_meet_202 C T H136 _ _ _ _ _ hf
          · refine zr_less (zA (zN (zN (zA (zN (zN (zA (zA zE)))))))) ?_
            exact w_M_meet_194 C T H136 _ _ _ _ hf
def f_M_meet_136  : Nat → Int32 → Int32 → Int32 → Int32 → zS → Option (Int32 × zS)
  | 0, _, _, _, _, _ => none
  | n + 1, x3, x4, x5, x6,  σ => f_M_meet_136b (fun x3 x4 x5 x6 σ => f_M_meet_136  n x3 x4 x5 x6 σ) x3 x4 x5 x6 σ
theorem w_M_meet_136 {l : Launch} {d : zD} {F : zF} {h : Nat → Nat} {out : Int32 × zS}   (C : zOk d F RX11 cX11_meet 8 8 185) (T : zRt d F (some .int) (some (.int out.1)) (MW d h out.2))  : ∀ (n : Nat) (x3 : Int32) (x4 : Int32) (x5 : Int32) (x6 : Int32) (σ : zS), f_M_meet_136  n x3 x4 x5 x6 σ = some out → V l d F 0 0 (MW d h σ) [some (.ref (h 0)), none, none, some (.int x3), some (.int x4), some (.int x5), some (.int x6), none] 136 [] := by
  intro n
  induction n with
  | zero =>
    intro x3 x4 x5 x6 σ hf
    cases hf
  | succ n ih =>
    intro x3 x4 x5 x6 σ hf
    exact w_M_meet_136b C T ih x3 x4 x5 x6 σ hf
def f_M_meet_68b (k68 : Int32 → Int32 → Int32 → Int32 → zS → Option (Int32 × zS)) (x1 : Int32) (x2 : Int32) (x3 : Int32) (x4 : Int32) (σ : zS) : Option (Int32 × zS) :=
  (if 1600 ≤ x4 then
  zin x2 8 (zbd (f_M_spreads (σ.2 11 x2.toNatClampNeg) σ) fun _ σ1 =>
  zin x1 8 (zbd (f_M_marksOne (σ1.2 12 x1.toNatClampNeg) σ1) fun r3 σ2 =>
  zin x2 8 (zbd (f_M_marksOther (σ2.2 12 x2.toNatClampNeg) σ2) fun _ σ4 =>
  f_M_meet_136 zfu x3 (-1) 0 0 σ4)))
  else
  zin x4 1600 (zin x4 1600 (zlt (zsa σ 31 x4 (σ.2 28 x4.toNatClampNeg)) fun σ5 =>
  k68 x1 x2 x3 (x4 + 1) σ5)))
set_option maxRecDepth 4000 in
theorem w_M_meet_68b {l : Launch} {d : zD} {F : zF} {h : Nat → Nat} {out : Int32 × zS}  {k68 : Int32 → Int32 → Int32 → Int32 → zS → Option (Int32 × zS)} (C : zOk d F RX11 cX11_meet 8 8 185) (T : zRt d F (some .int) (some (.int out.1)) (MW d h out.2)) (H68 : ∀ (x1 : Int32) (x2 : Int32) (x3 : Int32) (x4 : Int32) (σ : zS), k68 x1 x2 x3 x4 σ = some out → V l d F 0 0 (MW d h σ) [some (.ref (h 0)), some (.int x1), some (.int x2), some (.int x3), some (.int x4), none, none, none] 68 []) (x1 : Int32) (x2 : Int32) (x3 : Int32) (x4 : Int32) (σ : zS) (hf : f_M_meet_68b k68 x1 x2 x3 x4 σ = some out) : V l d F 0 0 (MW d h σ) [some (.ref (h 0)), some (.int x1), some (.int x2), some (.int x3), some (.int x4), none, none, none] 68 [] := by
  unfold f_M_meet_68b at hf
  refine zr_iload 4 70 C (by decide +kernel) rfl rfl ?_
  refine zr_sipush (v := 1600) 1600 73 C (by decide +kernel) rfl rfl ?_
  refine zr_icmp_ge (off := 23) 96 76 C (by decide +kernel) (by decide) rfl hf (fun hf => ?_) (fun hf => ?_)
  · refine zr_aload_n 0 97 C (by decide +kernel) rfl rfl ?_
    refine zr_aload_n 0 98 C (by decide +kernel) rfl rfl ?_
    refine mg_0_15 (idx := 40) 101 C (by decide +kernel) rfl q_1006 ?_
    refine zr_iload_n 2 102 C (by decide +kernel) rfl rfl ?_
    refine ml_11 103 C (by decide +kernel) rfl hf (fun hf => ?_)
    refine k_M_spreads (idx := 325) 106 C (by decide +kernel) rfl q_1377 (zb2 rfl rfl) (Nat.le_of_ble_eq_true rfl) hf (fun _ σ1 hf => ?_)
    refine zr_aload_n 0 107 C (by decide +kernel) rfl rfl ?_
    refine zr_aload_n 0 108 C (by decide +kernel) rfl rfl ?_
    refine mg_0_16 (idx := 43) 111 C (by decide +kernel) rfl q_1007 ?_
    refine zr_iload_n 1 112 C (by decide +kernel) rfl rfl ?_
    refine ml_12 113 C (by decide +kernel) rfl hf (fun hf => ?_)
    refine k_M_marksOne (idx := 305) 116 C (by decide +kernel) rfl q_1353 (zb2 rfl rfl) (Nat.le_of_ble_eq_true rfl) hf (fun r3 σ2 hf => ?_)
    refine zr_pop 117 C (by decide +kernel) rfl rfl ?_
    refine zr_aload_n 0 118 C (by decide +kernel) rfl rfl ?_
    refine zr_aload_n 0 119 C (by decide +kernel) rfl rfl ?_
    refine mg_0_16 (idx := 43) 122 C (by decide +kernel) rfl q_1007 ?_
    refine zr_iload_n 2 123 C (by decide +kernel) rfl rfl ?_
    refine ml_12 124 C (by decide +kernel) rfl hf (fun hf => ?_)
    refine k_M_marksOther (idx := 308) 127 C (by decide +kernel) rfl q_1361 (zb2 rfl rfl) (Nat.le_of_ble_eq_true rfl) hf (fun _ σ4 hf => ?_)
    refine zr_iconst (v := (-1)) (-1) 128 C (by decide +kernel) rfl rfl ?_
    refine zr_istore 4 [some (.ref (h 0)), some (.int x1), some (.int x2), some (.int x3), some (.int (-1)), none, none, none] 130 C (by decide +kernel) rfl (by decide) rfl rfl ?_
    refine zr_iconst (v := 0) 0 131 C (by decide +kernel) rfl rfl ?_
    refine zr_istore 5 [some (.ref (h 0)), some (.int x1), some (.int x2), some (.int x3), some (.int (-1)), some (.int 0), none, none] 133 C (by decide +kernel) rfl (by decide) rfl rfl ?_
    refine zr_iconst (v := 0) 0 134 C (by decide +kernel) rfl rfl ?_
    refine zr_istore 6 [some (.ref (h 0)), some (.int x1), some (.int x2), some (.int x3), some (.int (-1)), some (.int 0), some (.int 0), none] 136 C (by decide +kernel) rfl (by decide) rfl rfl ?_
    refine zr_less (zA (zN (zN (zA (zA (zA (zA (zN zE)))))))) ?_
    exact w_M_meet_136 C T zfu _ _ _ _ _ hf
  · refine zr_aload_n 0 77 C (by decide +kernel) rfl rfl ?_
    refine mg_0_59 (idx := 128) 80 C (by decide +kernel) rfl q_1050 ?_
    refine zr_iload 4 82 C (by decide +kernel) rfl rfl ?_
    refine zr_aload_n 0 83 C (by decide +kernel) rfl rfl ?_
    refine mg_0_54 (idx := 119) 86 C (by decide +kernel) rfl q_1045 ?_
    refine zr_iload 4 88 C (by decide +kernel) rfl rfl ?_
    refine ml_28 89 C (by decide +kernel) rfl hf (fun hf => ?_)
    refine ms_31 90 C (by decide +kernel) rfl hf (fun σ5 hf => ?_)
    refine zr_iinc (j := 1) 4 [some (.ref (h 0)), some (.int x1), some (.int x2), some (.int x3), some (.int (x4 + 1)), none, none, none] 93 C (by decide +kernel) rfl rfl rfl (by decide) rfl rfl ?_
    refine zr_goto (off := -25) 68 C (by decide +kernel) (by decide) ?_
    exact H68 _ _ _ _ _ hf
def f_M_meet_68  : Nat → Int32 → Int32 → Int32 → Int32 → zS → Option (Int32 × zS)
  | 0, _, _, _, _, _ => none
  | n + 1, x1, x2, x3, x4,  σ => f_M_meet_68b (fun x1 x2 x3 x4 σ => f_M_meet_68  n x1 x2 x3 x4 σ) x1 x2 x3 x4 σ
theorem w_M_meet_68 {l : Launch} {d : zD} {F : zF} {h : Nat → Nat} {out : Int32 × zS}   (C : zOk d F RX11 cX11_meet 8 8 185) (T : zRt d F (some .int) (some (.int out.1)) (MW d h out.2))  : ∀ (n : Nat) (x1 : Int32) (x2 : Int32) (x3 : Int32) (x4 : Int32) (σ : zS), f_M_meet_68  n x1 x2 x3 x4 σ = some out → V l d F 0 0 (MW d h σ) [some (.ref (h 0)), some (.int x1), some (.int x2), some (.int x3), some (.int x4), none, none, none] 68 [] := by
  intro n
  induction n with
  | zero =>
    intro x1 x2 x3 x4 σ hf
    cases hf
  | succ n ih =>
    intro x1 x2 x3 x4 σ hf
    exact w_M_meet_68b C T ih x1 x2 x3 x4 σ hf
def f_M_meet (p1 : Int32) (p2 : Int32) (p3 : Int32) (σ : zS) : Option (Int32 × zS) :=
  zbd (f_M_isPerson p1 σ) fun r2 σ1 =>
  (if r2 = 0 then
  some (-5, σ1)
  else
  zbd (f_M_isPerson p2 σ1) fun r4 σ3 =>
  (if r4 = 0 then
  some (-5, σ3)
  else
  (if p1 = p2 then
  some (-5, σ3)
  else
  zbd (f_M_in p3 0 1 σ3) fun r6 σ5 =>
  (if r6 = 0 then
  some (-7, σ5)
  else
  zbd (f_M_isOut p1 σ5) fun r8 σ7 =>
  (if r8 = 0 then
  zbd (f_M_isOut p2 σ7) fun r10 σ9 =>
  (if r10 = 0 then
  zin p1 8 (zbd (f_M_spreads (σ9.2 11 p1.toNatClampNeg) σ9) fun _ σ11 =>
  f_M_meet_68 zfu p1 p2 p3 0 σ11)
  else
  some (-3, σ9))
  else
  some (-3, σ7))))))
set_option maxRecDepth 4000 in
theorem m_M_meet {l : Launch} {d : zD} {h : Nat → Nat} {out : Int32 × zS} {σ : zS} {p1 : Int32} {p2 : Int32} {p3 : Int32} (hf : f_M_meet p1 p2 p3 σ = some out) : zM l yX11_meet cX11_meet 8 (some .int) 8 185 d [.ref (h 0), .int p1, .int p2, .int p3] (MW d h σ) (MW d h out.2) (some (.int out.1)) := by
  refine zM_of [some (.ref (h 0)), some (.int p1), some (.int p2), some (.int p3), none, none, none, none] (by decide +kernel) rfl (Nat.le_of_ble_eq_true rfl) (fun F C T => ?_)
  unfold f_M_meet at hf
  refine zr_aload_n 0 1 C (by decide +kernel) rfl rfl ?_
  refine zr_iload_n 1 2 C (by decide +kernel) rfl rfl ?_
  refine k_M_isPerson (idx := 331) 5 C (by decide +kernel) rfl q_1398 (zb2 rfl rfl) (Nat.le_of_ble_eq_true rfl) hf (fun r2 σ1 hf => ?_)
  refine zr_if_eq (off := 16) 21 8 C (by decide +kernel) (by decide) rfl hf (fun hf => ?_) (fun hf => ?_)
  · refine zr_bipush (v := (-5)) (-5) 23 C (by decide +kernel) rfl rfl ?_
    obtain rfl := Option.some.inj hf
    exact zr_iret C (by decide +kernel) T
  · refine zr_aload_n 0 9 C (by decide +kernel) rfl rfl ?_
    refine zr_iload_n 2 10 C (by decide +kernel) rfl rfl ?_
    refine k_M_isPerson (idx := 331) 13 C (by decide +kernel) rfl q_1398 (zb2 rfl rfl) (Nat.le_of_ble_eq_true rfl) hf (fun r4 σ3 hf => ?_)
    refine zr_if_eq (off := 8) 21 16 C (by decide +kernel) (by decide) rfl hf (fun hf => ?_) (fun hf => ?_)
    · refine zr_bipush (v := (-5)) (-5) 23 C (by decide +kernel) rfl rfl ?_
      obtain rfl := Option.some.inj hf
      exact zr_iret C (by decide +kernel) T
    · refine zr_iload_n 1 17 C (by decide +kernel) rfl rfl ?_
      refine zr_iload_n 2 18 C (by decide +kernel) rfl rfl ?_
      refine zr_icmp_ne (off := 6) 24 21 C (by decide +kernel) (by decide) rfl hf (fun hf => ?_) (fun hf => ?_)
      · refine zr_iload_n 3 25 C (by decide +kernel) rfl rfl ?_
        refine zr_iconst (v := 0) 0 26 C (by decide +kernel) rfl rfl ?_
        refine zr_iconst (v := 1) 1 27 C (by decide +kernel) rfl rfl ?_
        refine k_M_in (idx := 139) 30 C (by decide +kernel) rfl q_1181 (zb2 rfl rfl) (Nat.le_of_ble_eq_true rfl) hf (fun r6 σ5 hf => ?_)
        refine zr_if_ne (off := 6) 36 33 C (by decide +kernel) (by decide) rfl hf (fun hf => ?_) (fun hf => ?_)
        · refine zr_aload_n 0 37 C (by decide +kernel) rfl rfl ?_
          refine zr_iload_n 1 38 C (by decide +kernel) rfl rfl ?_
          refine k_M_isOut (idx := 334) 41 C (by decide +kernel) rfl q_1406 (zb2 rfl rfl) (Nat.le_of_ble_eq_true rfl) hf (fun r8 σ7 hf => ?_)
          refine zr_if_ne (off := 11) 52 44 C (by decide +kernel) (by decide) rfl hf (fun hf => ?_) (fun hf => ?_)
          · refine zr_bipush (v := (-3)) (-3) 54 C (by decide +kernel) rfl rfl ?_
            obtain rfl := Option.some.inj hf
            exact zr_iret C (by decide +kernel) T
          · refine zr_aload_n 0 45 C (by decide +kernel) rfl rfl ?_
            refine zr_iload_n 2 46 C (by decide +kernel) rfl rfl ?_
            refine k_M_isOut (idx := 334) 49 C (by decide +kernel) rfl q_1406 (zb2 rfl rfl) (Nat.le_of_ble_eq_true rfl) hf (fun r10 σ9 hf => ?_)
            refine zr_if_eq (off := 6) 55 52 C (by decide +kernel) (by decide) rfl hf (fun hf => ?_) (fun hf => ?_)
            · refine zr_aload_n 0 56 C (by decide +kernel) rfl rfl ?_
              refine zr_aload_n 0 57 C (by decide +kernel) rfl rfl ?_
              refine mg_0_15 (idx := 40) 60 C (by decide +kernel) rfl q_1006 ?_
              refine zr_iload_n 1 61 C (by decide +kernel) rfl rfl ?_
              refine ml_11 62 C (by decide +kernel) rfl hf (fun hf => ?_)
              refine k_M_spreads (idx := 325) 65 C (by decide +kernel) rfl q_1377 (zb2 rfl rfl) (Nat.le_of_ble_eq_true rfl) hf (fun _ σ11 hf => ?_)
              refine zr_iconst (v := 0) 0 66 C (by decide +kernel) rfl rfl ?_
              refine zr_istore 4 [some (.ref (h 0)), some (.int p1), some (.int p2), some (.int p3), some (.int 0), none, none, none] 68 C (by decide +kernel) rfl (by decide) rfl rfl ?_
              exact w_M_meet_68 C T zfu _ _ _ _ _ hf
            · refine zr_bipush (v := (-3)) (-3) 54 C (by decide +kernel) rfl rfl ?_
              obtain rfl := Option.some.inj hf
              exact zr_iret C (by decide +kernel) T
        · refine zr_bipush (v := (-7)) (-7) 35 C (by decide +kernel) rfl rfl ?_
          obtain rfl := Option.some.inj hf
          exact zr_iret C (by decide +kernel) T
      · refine zr_bipush (v := (-5)) (-5) 23 C (by decide +kernel) rfl rfl ?_
        obtain rfl := Option.some.inj hf
        exact zr_iret C (by decide +kernel) T
theorem y_M_meet : zY yX11_meet cX11_meet 8 (some .int) 3 := ⟨q_1433, q_90, by decide +kernel, by decide +kernel, by decide +kernel⟩
theorem k_M_meet {l : Launch} {d : zD} {F : zF} {h : Nat → Nat} {σ : zS} {lv : List (Option Value)} {pc : Nat} {own : String} {cc : ByteArray} {nL fr lo idx : Nat} {rest : List Value} {β : Type} {kf : Int32 → zS → Option β} {o2 : β}  {p1 : Int32} {p2 : Int32} {p3 : Int32} (pc' : Nat) (C : zOk d F own cc nL fr lo) (hd : decode cc pc = .ok (.invokevirtual idx, 3)) (hp : pc + 3 = pc') (hq : Cond.methodLink own idx yX11_meet ∈ zW) (hm : 8 + 1 ≤ fr ∧ 8 + (8 + 11) + 185 ≤ lo) (hr : (rest.map fun v => v.category).sum ≤ 8) (hf : zbd (f_M_meet p1 p2 p3 σ) kf = some o2) (K : ∀ (r : Int32) (σ' : zS), kf r σ' = some o2 → V l d F 0 0 (MW d h σ') lv pc' (.int r :: rest)) : V l d F 0 0 (MW d h σ) lv pc (.int p3 :: .int p2 :: .int p1 :: .ref (h 0) :: rest) := by
  obtain ⟨q, h1, h2⟩ := zbd_some hf
  exact zr_callV y_M_meet ⟨q_1431, q_1432⟩ 0 rfl rfl (As := [.int p1, .int p2, .int p3]) (m_M_meet h1) rfl rfl pc' C hd hp hq hm hr (K _ _ h2)
/-! StepsBeyondModel.joins(II)Z -/
def f_M_joins_43 (k2 : Int32 → Int32 → Int32 → zS → Option (Int32 × zS)) (x1 : Int32) (x2 : Int32) (x3 : Int32) (σ : zS) : Option (Int32 × zS) :=
  k2 x1 x2 (x3 + 1) σ
set_option maxRecDepth 4000 in
theorem w_M_joins_43 {l : Launch} {d : zD} {F : zF} {h : Nat → Nat} {out : Int32 × zS}  {k2 : Int32 → Int32 → Int32 → zS → Option (Int32 × zS)} (C : zOk d F RX11 cX11_joins 4 3 71) (T : zRt d F (some .boolean) (some (.int out.1)) (MW d h out.2)) (H2 : ∀ (x1 : Int32) (x2 : Int32) (x3 : Int32) (σ : zS), k2 x1 x2 x3 σ = some out → V l d F 0 0 (MW d h σ) [some (.ref (h 0)), some (.int x1), some (.int x2), some (.int x3)] 2 []) (x1 : Int32) (x2 : Int32) (x3 : Int32) (σ : zS) (hf : f_M_joins_43 k2 x1 x2 x3 σ = some out) : V l d F 0 0 (MW d h σ) [some (.ref (h 0)), some (.int x1), some (.int x2), some (.int x3)] 43 [] := by
  unfold f_M_joins_43 at hf
  refine zr_iinc (j := 1) 3 [some (.ref (h 0)), some (.int x1), some (.int x2), some (.int (x3 + 1))] 46 C (by decide +kernel) rfl rfl rfl (by decide) rfl rfl ?_
  refine zr_goto (off := -44) 2 C (by decide +kernel) (by decide) ?_
  exact H2 _ _ _ _ hf
def f_M_joins_2b (k2 : Int32 → Int32 → Int32 → zS → Option (Int32 × zS)) (x1 : Int32) (x2 : Int32) (x3 : Int32) (σ : zS) : Option (Int32 × zS) :=
  (if (σ.1 0) ≤ x3 then
  some (0, σ)
  else
  (if ((zshr x2 x3) &&& 1) = 1 then
  zin x3 20 (zin x3 20 (zbd (f_M_areNear x1 (σ.2 1 x3.toNatClampNeg) (1 + (σ.2 2 x3.toNatClampNeg)) σ) fun r2 σ1 =>
  (if r2 = 0 then
  f_M_joins_43 k2 x1 x2 x3 σ1
  else
  some (1, σ1))))
  else
  f_M_joins_43 k2 x1 x2 x3 σ))
set_option maxRecDepth 4000 in
theorem w_M_joins_2b {l : Launch} {d : zD} {F : zF} {h : Nat → Nat} {out : Int32 × zS}  {k2 : Int32 → Int32 → Int32 → zS → Option (Int32 × zS)} (C : zOk d F RX11 cX11_joins 4 3 71) (T : zRt d F (some .boolean) (some (.int out.1)) (MW d h out.2)) (H2 : ∀ (x1 : Int32) (x2 : Int32) (x3 : Int32) (σ : zS), k2 x1 x2 x3 σ = some out → V l d F 0 0 (MW d h σ) [some (.ref (h 0)), some (.int x1), some (.int x2), some (.int x3)] 2 []) (x1 : Int32) (x2 : Int32) (x3 : Int32) (σ : zS) (hf : f_M_joins_2b k2 x1 x2 x3 σ = some out) : V l d F 0 0 (MW d h σ) [some (.ref (h 0)), some (.int x1), some (.int x2), some (.int x3)] 2 [] := by
  unfold f_M_joins_2b at hf
  refine zr_iload_n 3 3 C (by decide +kernel) rfl rfl ?_
  refine zr_aload_n 0 4 C (by decide +kernel) rfl rfl ?_
  refine mg_0_0 (idx := 143) 7 C (by decide +kernel) rfl q_991 ?_
  refine zr_icmp_ge (off := 42) 49 10 C (by decide +kernel) (by decide) rfl hf (fun hf => ?_) (fun hf => ?_)
  · refine zr_iconst (v := 0) 0 50 C (by decide +kernel) rfl rfl ?_
    obtain rfl := Option.some.inj hf
    exact zr_zret C (by decide +kernel) rfl T
  · refine zr_iload_n 2 11 C (by decide +kernel) rfl rfl ?_
    refine zr_iload_n 3 12 C (by decide +kernel) rfl rfl ?_
    refine zr_ishr 13 C (by decide +kernel) rfl ?_
    refine zr_iconst (v := 1) 1 14 C (by decide +kernel) rfl rfl ?_
    refine zr_iand 15 C (by decide +kernel) rfl ?_
    refine zr_iconst (v := 1) 1 16 C (by decide +kernel) rfl rfl ?_
    refine zr_icmp_ne (off := 27) 43 19 C (by decide +kernel) (by decide) rfl hf (fun hf => ?_) (fun hf => ?_)
    · exact w_M_joins_43 C T H2 _ _ _ _ hf
    · refine zr_aload_n 0 20 C (by decide +kernel) rfl rfl ?_
      refine zr_iload_n 1 21 C (by decide +kernel) rfl rfl ?_
      refine zr_aload_n 0 22 C (by decide +kernel) rfl rfl ?_
      refine mg_0_1 (idx := 7) 25 C (by decide +kernel) rfl q_992 ?_
      refine zr_iload_n 3 26 C (by decide +kernel) rfl rfl ?_
      refine ml_1 27 C (by decide +kernel) rfl hf (fun hf => ?_)
      refine zr_iconst (v := 1) 1 28 C (by decide +kernel) rfl rfl ?_
      refine zr_aload_n 0 29 C (by decide +kernel) rfl rfl ?_
      refine mg_0_2 (idx := 13) 32 C (by decide +kernel) rfl q_993 ?_
      refine zr_iload_n 3 33 C (by decide +kernel) rfl rfl ?_
      refine ml_2 34 C (by decide +kernel) rfl hf (fun hf => ?_)
      refine zr_iadd 35 C (by decide +kernel) rfl ?_
      refine k_M_areNear (idx := 235) 38 C (by decide +kernel) rfl q_1253 (zb2 rfl rfl) (Nat.le_of_ble_eq_true rfl) hf (fun r2 σ1 hf => ?_)
      refine zr_if_eq (off := 5) 43 41 C (by decide +kernel) (by decide) rfl hf (fun hf => ?_) (fun hf => ?_)
      · exact w_M_joins_43 C T H2 _ _ _ _ hf
      · refine zr_iconst (v := 1) 1 42 C (by decide +kernel) rfl rfl ?_
        obtain rfl := Option.some.inj hf
        exact zr_zret C (by decide +kernel) rfl T
def f_M_joins_2  : Nat → Int32 → Int32 → Int32 → zS → Option (Int32 × zS)
  | 0, _, _, _, _ => none
  | n + 1, x1, x2, x3,  σ => f_M_joins_2b (fun x1 x2 x3 σ => f_M_joins_2  n x1 x2 x3 σ) x1 x2 x3 σ
theorem w_M_joins_2 {l : Launch} {d : zD} {F : zF} {h : Nat → Nat} {out : Int32 × zS}   (C : zOk d F RX11 cX11_joins 4 3 71) (T : zRt d F (some .boolean) (some (.int out.1)) (MW d h out.2))  : ∀ (n : Nat) (x1 : Int32) (x2 : Int32) (x3 : Int32) (σ : zS), f_M_joins_2  n x1 x2 x3 σ = some out → V l d F 0 0 (MW d h σ) [some (.ref (h 0)), some (.int x1), some (.int x2), some (.int x3)] 2 [] := by
  intro n
  induction n with
  | zero =>
    intro x1 x2 x3 σ hf
    cases hf
  | succ n ih =>
    intro x1 x2 x3 σ hf
    exact w_M_joins_2b C T ih x1 x2 x3 σ hf
def f_M_joins (p1 : Int32) (p2 : Int32) (σ : zS) : Option (Int32 × zS) :=
  f_M_joins_2 zfu p1 p2 0 σ
set_option maxRecDepth 4000 in
theorem m_M_joins {l : Launch} {d : zD} {h : Nat → Nat} {out : Int32 × zS} {σ : zS} {p1 : Int32} {p2 : Int32} (hf : f_M_joins p1 p2 σ = some out) : zM l yX11_joins cX11_joins 4 (some .boolean) 3 71 d [.ref (h 0), .int p1, .int p2] (MW d h σ) (MW d h out.2) (some (.int out.1)) := by
  refine zM_of [some (.ref (h 0)), some (.int p1), some (.int p2), none] (by decide +kernel) rfl (Nat.le_of_ble_eq_true rfl) (fun F C T => ?_)
  unfold f_M_joins at hf
  refine zr_iconst (v := 0) 0 1 C (by decide +kernel) rfl rfl ?_
  refine zr_istore_n 3 [some (.ref (h 0)), some (.int p1), some (.int p2), some (.int 0)] 2 C (by decide +kernel) rfl (by decide) rfl rfl ?_
  exact w_M_joins_2 C T zfu _ _ _ _ hf
theorem y_M_joins : zY yX11_joins cX11_joins 4 (some .boolean) 2 := ⟨q_1441, q_90, by decide +kernel, by decide +kernel, by decide +kernel⟩
theorem k_M_joins {l : Launch} {d : zD} {F : zF} {h : Nat → Nat} {σ : zS} {lv : List (Option Value)} {pc : Nat} {own : String} {cc : ByteArray} {nL fr lo idx : Nat} {rest : List Value} {β : Type} {kf : Int32 → zS → Option β} {o2 : β}  {p1 : Int32} {p2 : Int32} (pc' : Nat) (C : zOk d F own cc nL fr lo) (hd : decode cc pc = .ok (.invokevirtual idx, 3)) (hp : pc + 3 = pc') (hq : Cond.methodLink own idx yX11_joins ∈ zW) (hm : 3 + 1 ≤ fr ∧ 8 + (4 + 11) + 71 ≤ lo) (hr : (rest.map fun v => v.category).sum ≤ 8) (hf : zbd (f_M_joins p1 p2 σ) kf = some o2) (K : ∀ (r : Int32) (σ' : zS), kf r σ' = some o2 → V l d F 0 0 (MW d h σ') lv pc' (.int r :: rest)) : V l d F 0 0 (MW d h σ) lv pc (.int p2 :: .int p1 :: .ref (h 0) :: rest) := by
  obtain ⟨q, h1, h2⟩ := zbd_some hf
  exact zr_callV y_M_joins ⟨q_1440, q_70⟩ 0 rfl rfl (As := [.int p1, .int p2]) (m_M_joins h1) rfl rfl pc' C hd hp hq hm hr (K _ _ h2)
/-! StepsBeyondModel.shed(II)I -/
def f_M_shed_78 (k46 : Int32 → Int32 → Int32 → zS → Option (Int32 × zS)) (x3 : Int32) (x4 : Int32) (x5 : Int32) (σ : zS) : Option (Int32 × zS) :=
  k46 x3 x4 (x5 + 1) σ
set_option maxRecDepth 4000 in
theorem w_M_shed_78 {l : Launch} {d : zD} {F : zF} {h : Nat → Nat} {out : Int32 × zS}  {k46 : Int32 → Int32 → Int32 → zS → Option (Int32 × zS)} (C : zOk d F RX11 cX11_shed 6 6 140) (T : zRt d F (some .int) (some (.int out.1)) (MW d h out.2)) (H46 : ∀ (x3 : Int32) (x4 : Int32) (x5 : Int32) (σ : zS), k46 x3 x4 x5 σ = some out → V l d F 0 0 (MW d h σ) [some (.ref (h 0)), none, none, some (.int x3), some (.int x4), some (.int x5)] 46 []) (x3 : Int32) (x4 : Int32) (x5 : Int32) (σ : zS) (hf : f_M_shed_78 k46 x3 x4 x5 σ = some out) : V l d F 0 0 (MW d h σ) [some (.ref (h 0)), none, none, some (.int x3), some (.int x4), some (.int x5)] 78 [] := by
  unfold f_M_shed_78 at hf
  refine zr_iinc (j := 1) 5 [some (.ref (h 0)), none, none, some (.int x3), some (.int x4), some (.int (x5 + 1))] 81 C (by decide +kernel) rfl rfl rfl (by decide) rfl rfl ?_
  refine zr_goto (off := -35) 46 C (by decide +kernel) (by decide) ?_
  exact H46 _ _ _ _ hf
def f_M_shed_46b (k46 : Int32 → Int32 → Int32 → zS → Option (Int32 × zS)) (x3 : Int32) (x4 : Int32) (x5 : Int32) (σ : zS) : Option (Int32 × zS) :=
  (if 1600 ≤ x5 then
  some (-6, σ)
  else
  zbd (f_M_joins x5 x3 σ) fun r2 σ1 =>
  (if r2 = 0 then
  f_M_shed_78 k46 x3 x4 x5 σ1
  else
  zbd (f_M_joins x5 x4 σ1) fun r4 σ3 =>
  (if r4 = 0 then
  f_M_shed_78 k46 x3 x4 x5 σ3
  else
  some (x5, σ3))))
set_option maxRecDepth 4000 in
theorem w_M_shed_46b {l : Launch} {d : zD} {F : zF} {h : Nat → Nat} {out : Int32 × zS}  {k46 : Int32 → Int32 → Int32 → zS → Option (Int32 × zS)} (C : zOk d F RX11 cX11_shed 6 6 140) (T : zRt d F (some .int) (some (.int out.1)) (MW d h out.2)) (H46 : ∀ (x3 : Int32) (x4 : Int32) (x5 : Int32) (σ : zS), k46 x3 x4 x5 σ = some out → V l d F 0 0 (MW d h σ) [some (.ref (h 0)), none, none, some (.int x3), some (.int x4), some (.int x5)] 46 []) (x3 : Int32) (x4 : Int32) (x5 : Int32) (σ : zS) (hf : f_M_shed_46b k46 x3 x4 x5 σ = some out) : V l d F 0 0 (MW d h σ) [some (.ref (h 0)), none, none, some (.int x3), some (.int x4), some (.int x5)] 46 [] := by
  unfold f_M_shed_46b at hf
  refine zr_iload 5 48 C (by decide +kernel) rfl rfl ?_
  refine zr_sipush (v := 1600) 1600 51 C (by decide +kernel) rfl rfl ?_
  refine zr_icmp_ge (off := 33) 84 54 C (by decide +kernel) (by decide) rfl hf (fun hf => ?_) (fun hf => ?_)
  · refine zr_bipush (v := (-6)) (-6) 86 C (by decide +kernel) rfl rfl ?_
    obtain rfl := Option.some.inj hf
    exact zr_iret C (by decide +kernel) T
  · refine zr_aload_n 0 55 C (by decide +kernel) rfl rfl ?_
    refine zr_iload 5 57 C (by decide +kernel) rfl rfl ?_
    refine zr_iload_n 3 58 C (by decide +kernel) rfl rfl ?_
    refine k_M_joins (idx := 343) 61 C (by decide +kernel) rfl q_1438 (zb2 rfl rfl) (Nat.le_of_ble_eq_true rfl) hf (fun r2 σ1 hf => ?_)
    refine zr_if_eq (off := 17) 78 64 C (by decide +kernel) (by decide) rfl hf (fun hf => ?_) (fun hf => ?_)
    · exact w_M_shed_78 C T H46 _ _ _ _ hf
    · refine zr_aload_n 0 65 C (by decide +kernel) rfl rfl ?_
      refine zr_iload 5 67 C (by decide +kernel) rfl rfl ?_
      refine zr_iload 4 69 C (by decide +kernel) rfl rfl ?_
      refine k_M_joins (idx := 343) 72 C (by decide +kernel) rfl q_1438 (zb2 rfl rfl) (Nat.le_of_ble_eq_true rfl) hf (fun r4 σ3 hf => ?_)
      refine zr_if_eq (off := 6) 78 75 C (by decide +kernel) (by decide) rfl hf (fun hf => ?_) (fun hf => ?_)
      · exact w_M_shed_78 C T H46 _ _ _ _ hf
      · refine zr_iload 5 77 C (by decide +kernel) rfl rfl ?_
        obtain rfl := Option.some.inj hf
        exact zr_iret C (by decide +kernel) T
def f_M_shed_46  : Nat → Int32 → Int32 → Int32 → zS → Option (Int32 × zS)
  | 0, _, _, _, _ => none
  | n + 1, x3, x4, x5,  σ => f_M_shed_46b (fun x3 x4 x5 σ => f_M_shed_46  n x3 x4 x5 σ) x3 x4 x5 σ
theorem w_M_shed_46 {l : Launch} {d : zD} {F : zF} {h : Nat → Nat} {out : Int32 × zS}   (C : zOk d F RX11 cX11_shed 6 6 140) (T : zRt d F (some .int) (some (.int out.1)) (MW d h out.2))  : ∀ (n : Nat) (x3 : Int32) (x4 : Int32) (x5 : Int32) (σ : zS), f_M_shed_46  n x3 x4 x5 σ = some out → V l d F 0 0 (MW d h σ) [some (.ref (h 0)), none, none, some (.int x3), some (.int x4), some (.int x5)] 46 [] := by
  intro n
  induction n with
  | zero =>
    intro x3 x4 x5 σ hf
    cases hf
  | succ n ih =>
    intro x3 x4 x5 σ hf
    exact w_M_shed_46b C T ih x3 x4 x5 σ hf
def f_M_shed (p1 : Int32) (p2 : Int32) (σ : zS) : Option (Int32 × zS) :=
  zbd (f_M_isHouse p1 σ) fun r2 σ1 =>
  (if r2 = 0 then
  some (-1, σ1)
  else
  zbd (f_M_isHouse p2 σ1) fun r4 σ3 =>
  (if r4 = 0 then
  some (-1, σ3)
  else
  zbd (f_M_townOf p1 σ3) fun r6 σ5 =>
  (if ((zshr r6 p2) &&& 1) = 1 then
  some (-3, σ5)
  else
  zbd (f_M_townOf p2 σ5) fun r8 σ7 =>
  f_M_shed_46 zfu r6 r8 0 σ7)))
set_option maxRecDepth 4000 in
theorem m_M_shed {l : Launch} {d : zD} {h : Nat → Nat} {out : Int32 × zS} {σ : zS} {p1 : Int32} {p2 : Int32} (hf : f_M_shed p1 p2 σ = some out) : zM l yX11_shed cX11_shed 6 (some .int) 6 140 d [.ref (h 0), .int p1, .int p2] (MW d h σ) (MW d h out.2) (some (.int out.1)) := by
  refine zM_of [some (.ref (h 0)), some (.int p1), some (.int p2), none, none, none] (by decide +kernel) rfl (Nat.le_of_ble_eq_true rfl) (fun F C T => ?_)
  unfold f_M_shed at hf
  refine zr_aload_n 0 1 C (by decide +kernel) rfl rfl ?_
  refine zr_iload_n 1 2 C (by decide +kernel) rfl rfl ?_
  refine k_M_isHouse (idx := 154) 5 C (by decide +kernel) rfl q_1188 (zb2 rfl rfl) (Nat.le_of_ble_eq_true rfl) hf (fun r2 σ1 hf => ?_)
  refine zr_if_eq (off := 11) 16 8 C (by decide +kernel) (by decide) rfl hf (fun hf => ?_) (fun hf => ?_)
  · refine zr_iconst (v := (-1)) (-1) 17 C (by decide +kernel) rfl rfl ?_
    obtain rfl := Option.some.inj hf
    exact zr_iret C (by decide +kernel) T
  · refine zr_aload_n 0 9 C (by decide +kernel) rfl rfl ?_
    refine zr_iload_n 2 10 C (by decide +kernel) rfl rfl ?_
    refine k_M_isHouse (idx := 154) 13 C (by decide +kernel) rfl q_1188 (zb2 rfl rfl) (Nat.le_of_ble_eq_true rfl) hf (fun r4 σ3 hf => ?_)
    refine zr_if_ne (off := 5) 18 16 C (by decide +kernel) (by decide) rfl hf (fun hf => ?_) (fun hf => ?_)
    · refine zr_aload_n 0 19 C (by decide +kernel) rfl rfl ?_
      refine zr_iload_n 1 20 C (by decide +kernel) rfl rfl ?_
      refine k_M_townOf (idx := 251) 23 C (by decide +kernel) rfl q_1282 (zb2 rfl rfl) (Nat.le_of_ble_eq_true rfl) hf (fun r6 σ5 hf => ?_)
      refine zr_istore_n 3 [some (.ref (h 0)), some (.int p1), some (.int p2), some (.int r6), none, none] 24 C (by decide +kernel) rfl (by decide) rfl rfl ?_
      refine zr_iload_n 3 25 C (by decide +kernel) rfl rfl ?_
      refine zr_iload_n 2 26 C (by decide +kernel) rfl rfl ?_
      refine zr_ishr 27 C (by decide +kernel) rfl ?_
      refine zr_iconst (v := 1) 1 28 C (by decide +kernel) rfl rfl ?_
      refine zr_iand 29 C (by decide +kernel) rfl ?_
      refine zr_iconst (v := 1) 1 30 C (by decide +kernel) rfl rfl ?_
      refine zr_icmp_ne (off := 6) 36 33 C (by decide +kernel) (by decide) rfl hf (fun hf => ?_) (fun hf => ?_)
      · refine zr_aload_n 0 37 C (by decide +kernel) rfl rfl ?_
        refine zr_iload_n 2 38 C (by decide +kernel) rfl rfl ?_
        refine k_M_townOf (idx := 251) 41 C (by decide +kernel) rfl q_1282 (zb2 rfl rfl) (Nat.le_of_ble_eq_true rfl) hf (fun r8 σ7 hf => ?_)
        refine zr_istore 4 [some (.ref (h 0)), some (.int p1), some (.int p2), some (.int r6), some (.int r8), none] 43 C (by decide +kernel) rfl (by decide) rfl rfl ?_
        refine zr_iconst (v := 0) 0 44 C (by decide +kernel) rfl rfl ?_
        refine zr_istore 5 [some (.ref (h 0)), some (.int p1), some (.int p2), some (.int r6), some (.int r8), some (.int 0)] 46 C (by decide +kernel) rfl (by decide) rfl rfl ?_
        refine zr_less (zA (zN (zN (zA (zA (zA zE)))))) ?_
        exact w_M_shed_46 C T zfu _ _ _ _ hf
      · refine zr_bipush (v := (-3)) (-3) 35 C (by decide +kernel) rfl rfl ?_
        obtain rfl := Option.some.inj hf
        exact zr_iret C (by decide +kernel) T
    · refine zr_iconst (v := (-1)) (-1) 17 C (by decide +kernel) rfl rfl ?_
      obtain rfl := Option.some.inj hf
      exact zr_iret C (by decide +kernel) T
theorem y_M_shed : zY yX11_shed cX11_shed 6 (some .int) 2 := ⟨q_1437, q_90, by decide +kernel, by decide +kernel, by decide +kernel⟩
theorem k_M_shed {l : Launch} {d : zD} {F : zF} {h : Nat → Nat} {σ : zS} {lv : List (Option Value)} {pc : Nat} {own : String} {cc : ByteArray} {nL fr lo idx : Nat} {rest : List Value} {β : Type} {kf : Int32 → zS → Option β} {o2 : β}  {p1 : Int32} {p2 : Int32} (pc' : Nat) (C : zOk d F own cc nL fr lo) (hd : decode cc pc = .ok (.invokevirtual idx, 3)) (hp : pc + 3 = pc') (hq : Cond.methodLink own idx yX11_shed ∈ zW) (hm : 6 + 1 ≤ fr ∧ 8 + (6 + 11) + 140 ≤ lo) (hr : (rest.map fun v => v.category).sum ≤ 8) (hf : zbd (f_M_shed p1 p2 σ) kf = some o2) (K : ∀ (r : Int32) (σ' : zS), kf r σ' = some o2 → V l d F 0 0 (MW d h σ') lv pc' (.int r :: rest)) : V l d F 0 0 (MW d h σ) lv pc (.int p2 :: .int p1 :: .ref (h 0) :: rest) := by
  obtain ⟨q, h1, h2⟩ := zbd_some hf
  exact zr_callV y_M_shed ⟨q_1435, q_1436⟩ 0 rfl rfl (As := [.int p1, .int p2]) (m_M_shed h1) rfl rfl pc' C hd hp hq hm hr (K _ _ h2)
/-! StepsBeyondModel.bridge(III)I -/
def f_M_bridge_159  (x2 : Int32) (x4 : Int32) (x6 : Int32) (σ : zS) : Option (Int32 × zS) :=
  (if ((zshr x4 x2) &&& 1) = 1 then
  some (x6, σ)
  else
  some (-3, σ))
set_option maxRecDepth 4000 in
theorem w_M_bridge_159 {l : Launch} {d : zD} {F : zF} {h : Nat → Nat} {out : Int32 × zS}   (C : zOk d F RX11 cX11_bridge 9 6 140) (T : zRt d F (some .int) (some (.int out.1)) (MW d h out.2))  (x2 : Int32) (x4 : Int32) (x6 : Int32) (σ : zS) (hf : f_M_bridge_159  x2 x4 x6 σ = some out) : V l d F 0 0 (MW d h σ) [none, none, some (.int x2), none, some (.int x4), none, some (.int x6), none, none] 159 [] := by
  unfold f_M_bridge_159 at hf
  refine zr_iload 4 161 C (by decide +kernel) rfl rfl ?_
  refine zr_iload_n 2 162 C (by decide +kernel) rfl rfl ?_
  refine zr_ishr 163 C (by decide +kernel) rfl ?_
  refine zr_iconst (v := 1) 1 164 C (by decide +kernel) rfl rfl ?_
  refine zr_iand 165 C (by decide +kernel) rfl ?_
  refine zr_iconst (v := 1) 1 166 C (by decide +kernel) rfl rfl ?_
  refine zr_icmp_ne (off := 8) 174 169 C (by decide +kernel) (by decide) rfl hf (fun hf => ?_) (fun hf => ?_)
  · refine zr_bipush (v := (-3)) (-3) 176 C (by decide +kernel) rfl rfl ?_
    obtain rfl := Option.some.inj hf
    exact zr_iret C (by decide +kernel) T
  · refine zr_iload 6 171 C (by decide +kernel) rfl rfl ?_
    refine zr_goto (off := 5) 176 C (by decide +kernel) (by decide) ?_
    obtain rfl := Option.some.inj hf
    exact zr_iret C (by decide +kernel) T
def f_M_bridge_147 (k44 : Int32 → Int32 → Int32 → Int32 → Int32 → zS → Option (Int32 × zS)) (k67 : Int32 → Int32 → Int32 → Int32 → Int32 → Int32 → zS → Option (Int32 × zS)) (x2 : Int32) (x3 : Int32) (x4 : Int32) (x5 : Int32) (x6 : Int32) (x7 : Int32) (σ : zS) : Option (Int32 × zS) :=
  k67 x2 x3 x4 x5 x6 (x7 + 1) σ
set_option maxRecDepth 4000 in
theorem w_M_bridge_147 {l : Launch} {d : zD} {F : zF} {h : Nat → Nat} {out : Int32 × zS}  {k44 : Int32 → Int32 → Int32 → Int32 → Int32 → zS → Option (Int32 × zS)} {k67 : Int32 → Int32 → Int32 → Int32 → Int32 → Int32 → zS → Option (Int32 × zS)} (C : zOk d F RX11 cX11_bridge 9 6 140) (T : zRt d F (some .int) (some (.int out.1)) (MW d h out.2)) (H44 : ∀ (x2 : Int32) (x3 : Int32) (x4 : Int32) (x5 : Int32) (x6 : Int32) (σ : zS), k44 x2 x3 x4 x5 x6 σ = some out → V l d F 0 0 (MW d h σ) [some (.ref (h 0)), none, some (.int x2), some (.int x3), some (.int x4), some (.int x5), some (.int x6), none, none] 44 []) (H67 : ∀ (x2 : Int32) (x3 : Int32) (x4 : Int32) (x5 : Int32) (x6 : Int32) (x7 : Int32) (σ : zS), k67 x2 x3 x4 x5 x6 x7 σ = some out → V l d F 0 0 (MW d h σ) [some (.ref (h 0)), none, some (.int x2), some (.int x3), some (.int x4), some (.int x5), some (.int x6), some (.int x7), none] 67 []) (x2 : Int32) (x3 : Int32) (x4 : Int32) (x5 : Int32) (x6 : Int32) (x7 : Int32) (σ : zS) (hf : f_M_bridge_147 k44 k67 x2 x3 x4 x5 x6 x7 σ = some out) : V l d F 0 0 (MW d h σ) [some (.ref (h 0)), none, some (.int x2), some (.int x3), some (.int x4), some (.int x5), some (.int x6), some (.int x7), none] 147 [] := by
  unfold f_M_bridge_147 at hf
  refine zr_iinc (j := 1) 7 [some (.ref (h 0)), none, some (.int x2), some (.int x3), some (.int x4), some (.int x5), some (.int x6), some (.int (x7 + 1)), none] 150 C (by decide +kernel) rfl rfl rfl (by decide) rfl rfl ?_
  refine zr_goto (off := -83) 67 C (by decide +kernel) (by decide) ?_
  exact H67 _ _ _ _ _ _ _ hf
def f_M_bridge_141 (k44 : Int32 → Int32 → Int32 → Int32 → Int32 → zS → Option (Int32 × zS)) (k67 : Int32 → Int32 → Int32 → Int32 → Int32 → Int32 → zS → Option (Int32 × zS)) (k79 : Int32 → Int32 → Int32 → Int32 → Int32 → Int32 → Int32 → zS → Option (Int32 × zS)) (x2 : Int32) (x3 : Int32) (x4 : Int32) (x5 : Int32) (x6 : Int32) (x7 : Int32) (x8 : Int32) (σ : zS) : Option (Int32 × zS) :=
  k79 x2 x3 x4 x5 x6 x7 (x8 + 1) σ
set_option maxRecDepth 4000 in
theorem w_M_bridge_141 {l : Launch} {d : zD} {F : zF} {h : Nat → Nat} {out : Int32 × zS}  {k44 : Int32 → Int32 → Int32 → Int32 → Int32 → zS → Option (Int32 × zS)} {k67 : Int32 → Int32 → Int32 → Int32 → Int32 → Int32 → zS → Option (Int32 × zS)} {k79 : Int32 → Int32 → Int32 → Int32 → Int32 → Int32 → Int32 → zS → Option (Int32 × zS)} (C : zOk d F RX11 cX11_bridge 9 6 140) (T : zRt d F (some .int) (some (.int out.1)) (MW d h out.2)) (H44 : ∀ (x2 : Int32) (x3 : Int32) (x4 : Int32) (x5 : Int32) (x6 : Int32) (σ : zS), k44 x2 x3 x4 x5 x6 σ = some out → V l d F 0 0 (MW d h σ) [some (.ref (h 0)), none, some (.int x2), some (.int x3), some (.int x4), some (.int x5), some (.int x6), none, none] 44 []) (H67 : ∀ (x2 : Int32) (x3 : Int32) (x4 : Int32) (x5 : Int32) (x6 : Int32) (x7 : Int32) (σ : zS), k67 x2 x3 x4 x5 x6 x7 σ = some out → V l d F 0 0 (MW d h σ) [some (.ref (h 0)), none, some (.int x2), some (.int x3), some (.int x4), some (.int x5), some (.int x6), some (.int x7), none] 67 []) (H79 : ∀ (x2 : Int32) (x3 : Int32) (x4 : Int32) (x5 : Int32) (x6 : Int32) (x7 : Int32) (x8 : Int32) (σ : zS), k79 x2 x3 x4 x5 x6 x7 x8 σ = some out → V l d F 0 0 (MW d h σ) [some (.ref (h 0)), none, some (.int x2), some (.int x3), some (.int x4), some (.int x5), some (.int x6), some (.int x7), some (.int x8)] 79 []) (x2 : Int32) (x3 : Int32) (x4 : Int32) (x5 : Int32) (x6 : Int32) (x7 : Int32) (x8 : Int32) (σ : zS) (hf : f_M_bridge_141 k44 k67 k79 x2 x3 x4 x5 x6 x7 x8 σ = some out) : V l d F 0 0 (MW d h σ) [some (.ref (h 0)), none, some (.int x2), some (.int x3), some (.int x4), some (.int x5), some (.int x6), some (.int x7), some (.int x8)] 141 [] := by
  unfold f_M_bridge_141 at hf
  refine zr_iinc (j := 1) 8 [some (.ref (h 0)), none, some (.int x2), some (.int x3), some (.int x4), some (.int x5), some (.int x6), some (.int x7), some (.int (x8 + 1))] 144 C (by decide +kernel) rfl rfl rfl (by decide) rfl rfl ?_
  refine zr_goto (off := -65) 79 C (by decide +kernel) (by decide) ?_
  exact H79 _ _ _ _ _ _ _ _ hf
def f_M_bridge_79b (k44 : Int32 → Int32 → Int32 → Int32 → Int32 → zS → Option (Int32 × zS)) (k67 : Int32 → Int32 → Int32 → Int32 → Int32 → Int32 → zS → Option (Int32 × zS)) (k79 : Int32 → Int32 → Int32 → Int32 → Int32 → Int32 → Int32 → zS → Option (Int32 × zS)) (x2 : Int32) (x3 : Int32) (x4 : Int32) (x5 : Int32) (x6 : Int32) (x7 : Int32) (x8 : Int32) (σ : zS) : Option (Int32 × zS) :=
  (if (σ.1 0) ≤ x8 then
  f_M_bridge_147 k44 k67 x2 x3 x4 x5 x6 x7 σ
  else
  (if ((zshr x5 x7) &&& 1) = 1 then
  (if ((zshr x4 x8) &&& 1) = 0 then
  zin x7 20 (zin x8 20 (zbd (f_M_apart (σ.2 1 x7.toNatClampNeg) (σ.2 1 x8.toNatClampNeg) σ) fun r2 σ1 =>
  (if x3 < r2 then
  f_M_bridge_141 k44 k67 k79 x2 x3 x4 x5 x6 x7 x8 σ1
  else
  zbd (f_M_townOf x8 σ1) fun r4 σ3 =>
  zlt (x4 ||| r4) fun v5 => 
  f_M_bridge_141 k44 k67 k79 x2 x3 v5 x5 x6 x7 x8 σ3)))
  else
  f_M_bridge_141 k44 k67 k79 x2 x3 x4 x5 x6 x7 x8 σ)
  else
  f_M_bridge_147 k44 k67 x2 x3 x4 x5 x6 x7 σ))
set_option maxRecDepth 4000 in
theorem w_M_bridge_79b {l : Launch} {d : zD} {F : zF} {h : Nat → Nat} {out : Int32 × zS}  {k44 : Int32 → Int32 → Int32 → Int32 → Int32 → zS → Option (Int32 × zS)} {k67 : Int32 → Int32 → Int32 → Int32 → Int32 → Int32 → zS → Option (Int32 × zS)} {k79 : Int32 → Int32 → Int32 → Int32 → Int32 → Int32 → Int32 → zS → Option (Int32 × zS)} (C : zOk d F RX11 cX11_bridge 9 6 140) (T : zRt d F (some .int) (some (.int out.1)) (MW d h out.2)) (H44 : ∀ (x2 : Int32) (x3 : Int32) (x4 : Int32) (x5 : Int32) (x6 : Int32) (σ : zS), k44 x2 x3 x4 x5 x6 σ = some out → V l d F 0 0 (MW d h σ) [some (.ref (h 0)), none, some (.int x2), some (.int x3), some (.int x4), some (.int x5), some (.int x6), none, none] 44 []) (H67 : ∀ (x2 : Int32) (x3 : Int32) (x4 : Int32) (x5 : Int32) (x6 : Int32) (x7 : Int32) (σ : zS), k67 x2 x3 x4 x5 x6 x7 σ = some out → V l d F 0 0 (MW d h σ) [some (.ref (h 0)), none, some (.int x2), some (.int x3), some (.int x4), some (.int x5), some (.int x6), some (.int x7), none] 67 []) (H79 : ∀ (x2 : Int32) (x3 : Int32) (x4 : Int32) (x5 : Int32) (x6 : Int32) (x7 : Int32) (x8 : Int32) (σ : zS), k79 x2 x3 x4 x5 x6 x7 x8 σ = some out → V l d F 0 0 (MW d h σ) [some (.ref (h 0)), none, some (.int x2), some (.int x3), some (.int x4), some (.int x5), some (.int x6), some (.int x7), some (.int x8)] 79 []) (x2 : Int32) (x3 : Int32) (x4 : Int32) (x5 : Int32) (x6 : Int32) (x7 : Int32) (x8 : Int32) (σ : zS) (hf : f_M_bridge_79b k44 k67 k79 x2 x3 x4 x5 x6 x7 x8 σ = some out) : V l d F 0 0 (MW d h σ) [some (.ref (h 0)), none, some (.int x2), some (.int x3), some (.int x4), some (.int x5), some (.int x6), some (.int x7), some (.int x8)] 79 [] := by
  unfold f_M_bridge_79b at hf
  refine zr_iload 8 81 C (by decide +kernel) rfl rfl ?_
  refine zr_aload_n 0 82 C (by decide +kernel) rfl rfl ?_
  refine mg_0_0 (idx := 143) 85 C (by decide +kernel) rfl q_991 ?_
  refine zr_icmp_ge (off := 62) 147 88 C (by decide +kernel) (by decide) rfl hf (fun hf => ?_) (fun hf => ?_)
  · refine zr_less (zA (zN (zA (zA (zA (zA (zA (zA (zN zE))))))))) ?_
    exact w_M_bridge_147 C T H44 H67 _ _ _ _ _ _ _ hf
  · refine zr_iload 5 90 C (by decide +kernel) rfl rfl ?_
    refine zr_iload 7 92 C (by decide +kernel) rfl rfl ?_
    refine zr_ishr 93 C (by decide +kernel) rfl ?_
    refine zr_iconst (v := 1) 1 94 C (by decide +kernel) rfl rfl ?_
    refine zr_iand 95 C (by decide +kernel) rfl ?_
    refine zr_iconst (v := 1) 1 96 C (by decide +kernel) rfl rfl ?_
    refine zr_icmp_ne (off := 51) 147 99 C (by decide +kernel) (by decide) rfl hf (fun hf => ?_) (fun hf => ?_)
    · refine zr_less (zA (zN (zA (zA (zA (zA (zA (zA (zN zE))))))))) ?_
      exact w_M_bridge_147 C T H44 H67 _ _ _ _ _ _ _ hf
    · refine zr_iload 4 101 C (by decide +kernel) rfl rfl ?_
      refine zr_iload 8 103 C (by decide +kernel) rfl rfl ?_
      refine zr_ishr 104 C (by decide +kernel) rfl ?_
      refine zr_iconst (v := 1) 1 105 C (by decide +kernel) rfl rfl ?_
      refine zr_iand 106 C (by decide +kernel) rfl ?_
      refine zr_if_ne (off := 35) 141 109 C (by decide +kernel) (by decide) rfl hf (fun hf => ?_) (fun hf => ?_)
      · exact w_M_bridge_141 C T H44 H67 H79 _ _ _ _ _ _ _ _ hf
      · refine zr_aload_n 0 110 C (by decide +kernel) rfl rfl ?_
        refine mg_0_1 (idx := 7) 113 C (by decide +kernel) rfl q_992 ?_
        refine zr_iload 7 115 C (by decide +kernel) rfl rfl ?_
        refine ml_1 116 C (by decide +kernel) rfl hf (fun hf => ?_)
        refine zr_aload_n 0 117 C (by decide +kernel) rfl rfl ?_
        refine mg_0_1 (idx := 7) 120 C (by decide +kernel) rfl q_992 ?_
        refine zr_iload 8 122 C (by decide +kernel) rfl rfl ?_
        refine ml_1 123 C (by decide +kernel) rfl hf (fun hf => ?_)
        refine k_M_apart (idx := 225) 126 C (by decide +kernel) rfl q_1257 (zb2 rfl rfl) (Nat.le_of_ble_eq_true rfl) hf (fun r2 σ1 hf => ?_)
        refine zr_iload_n 3 127 C (by decide +kernel) rfl rfl ?_
        refine zr_icmp_gt (off := 14) 141 130 C (by decide +kernel) (by decide) rfl hf (fun hf => ?_) (fun hf => ?_)
        · exact w_M_bridge_141 C T H44 H67 H79 _ _ _ _ _ _ _ _ hf
        · refine zr_iload 4 132 C (by decide +kernel) rfl rfl ?_
          refine zr_aload_n 0 133 C (by decide +kernel) rfl rfl ?_
          refine zr_iload 8 135 C (by decide +kernel) rfl rfl ?_
          refine k_M_townOf (idx := 251) 138 C (by decide +kernel) rfl q_1282 (zb2 rfl rfl) (Nat.le_of_ble_eq_true rfl) hf (fun r4 σ3 hf => ?_)
          refine zr_ior 139 C (by decide +kernel) rfl ?_
          refine zr_name hf (fun v5 hf => ?_)
          refine zr_istore 4 [some (.ref (h 0)), none, some (.int x2), some (.int x3), some (.int v5), some (.int x5), some (.int x6), some (.int x7), some (.int x8)] 141 C (by decide +kernel) rfl (by decide) rfl rfl ?_
          exact w_M_bridge_141 C T H44 H67 H79 _ _ _ _ _ _ _ _ hf
def f_M_bridge_79 (k44 : Int32 → Int32 → Int32 → Int32 → Int32 → zS → Option (Int32 × zS)) (k67 : Int32 → Int32 → Int32 → Int32 → Int32 → Int32 → zS → Option (Int32 × zS)) : Nat → Int32 → Int32 → Int32 → Int32 → Int32 → Int32 → Int32 → zS → Option (Int32 × zS)
  | 0, _, _, _, _, _, _, _, _ => none
  | n + 1, x2, x3, x4, x5, x6, x7, x8,  σ => f_M_bridge_79b k44 k67 (fun x2 x3 x4 x5 x6 x7 x8 σ => f_M_bridge_79 k44 k67 n x2 x3 x4 x5 x6 x7 x8 σ) x2 x3 x4 x5 x6 x7 x8 σ
theorem w_M_bridge_79 {l : Launch} {d : zD} {F : zF} {h : Nat → Nat} {out : Int32 × zS}  {k44 : Int32 → Int32 → Int32 → Int32 → Int32 → zS → Option (Int32 × zS)} {k67 : Int32 → Int32 → Int32 → Int32 → Int32 → Int32 → zS → Option (Int32 × zS)} (C : zOk d F RX11 cX11_bridge 9 6 140) (T : zRt d F (some .int) (some (.int out.1)) (MW d h out.2)) (H44 : ∀ (x2 : Int32) (x3 : Int32) (x4 : Int32) (x5 : Int32) (x6 : Int32) (σ : zS), k44 x2 x3 x4 x5 x6 σ = some out → V l d F 0 0 (MW d h σ) [some (.ref (h 0)), none, some (.int x2), some (.int x3), some (.int x4), some (.int x5), some (.int x6), none, none] 44 []) (H67 : ∀ (x2 : Int32) (x3 : Int32) (x4 : Int32) (x5 : Int32) (x6 : Int32) (x7 : Int32) (σ : zS), k67 x2 x3 x4 x5 x6 x7 σ = some out → V l d F 0 0 (MW d h σ) [some (.ref (h 0)), none, some (.int x2), some (.int x3), some (.int x4), some (.int x5), some (.int x6), some (.int x7), none] 67 []) : ∀ (n : Nat) (x2 : Int32) (x3 : Int32) (x4 : Int32) (x5 : Int32) (x6 : Int32) (x7 : Int32) (x8 : Int32) (σ : zS), f_M_bridge_79 k44 k67 n x2 x3 x4 x5 x6 x7 x8 σ = some out → V l d F 0 0 (MW d h σ) [some (.ref (h 0)), none, some (.int x2), some (.int x3), some (.int x4), some (.int x5), some (.int x6), some (.int x7), some (.int x8)] 79 [] := by
  intro n
  induction n with
  | zero =>
    intro x2 x3 x4 x5 x6 x7 x8 σ hf
    cases hf
  | succ n ih =>
    intro x2 x3 x4 x5 x6 x7 x8 σ hf
    exact w_M_bridge_79b C T H44 H67 ih x2 x3 x4 x5 x6 x7 x8 σ hf
def f_M_bridge_67b (k44 : Int32 → Int32 → Int32 → Int32 → Int32 → zS → Option (Int32 × zS)) (k67 : Int32 → Int32 → Int32 → Int32 → Int32 → Int32 → zS → Option (Int32 × zS)) (x2 : Int32) (x3 : Int32) (x4 : Int32) (x5 : Int32) (x6 : Int32) (x7 : Int32) (σ : zS) : Option (Int32 × zS) :=
  (if (σ.1 0) ≤ x7 then
  k44 x2 x3 x4 x5 (x6 + 1) σ
  else
  f_M_bridge_79 k44 k67 zfu x2 x3 x4 x5 x6 x7 0 σ)
set_option maxRecDepth 4000 in
theorem w_M_bridge_67b {l : Launch} {d : zD} {F : zF} {h : Nat → Nat} {out : Int32 × zS}  {k44 : Int32 → Int32 → Int32 → Int32 → Int32 → zS → Option (Int32 × zS)} {k67 : Int32 → Int32 → Int32 → Int32 → Int32 → Int32 → zS → Option (Int32 × zS)} (C : zOk d F RX11 cX11_bridge 9 6 140) (T : zRt d F (some .int) (some (.int out.1)) (MW d h out.2)) (H44 : ∀ (x2 : Int32) (x3 : Int32) (x4 : Int32) (x5 : Int32) (x6 : Int32) (σ : zS), k44 x2 x3 x4 x5 x6 σ = some out → V l d F 0 0 (MW d h σ) [some (.ref (h 0)), none, some (.int x2), some (.int x3), some (.int x4), some (.int x5), some (.int x6), none, none] 44 []) (H67 : ∀ (x2 : Int32) (x3 : Int32) (x4 : Int32) (x5 : Int32) (x6 : Int32) (x7 : Int32) (σ : zS), k67 x2 x3 x4 x5 x6 x7 σ = some out → V l d F 0 0 (MW d h σ) [some (.ref (h 0)), none, some (.int x2), some (.int x3), some (.int x4), some (.int x5), some (.int x6), some (.int x7), none] 67 []) (x2 : Int32) (x3 : Int32) (x4 : Int32) (x5 : Int32) (x6 : Int32) (x7 : Int32) (σ : zS) (hf : f_M_bridge_67b k44 k67 x2 x3 x4 x5 x6 x7 σ = some out) : V l d F 0 0 (MW d h σ) [some (.ref (h 0)), none, some (.int x2), some (.int x3), some (.int x4), some (.int x5), some (.int x6), some (.int x7), none] 67 [] := by
  unfold f_M_bridge_67b at hf
  refine zr_iload 7 69 C (by decide +kernel) rfl rfl ?_
  refine zr_aload_n 0 70 C (by decide +kernel) rfl rfl ?_
  refine mg_0_0 (idx := 143) 73 C (by decide +kernel) rfl q_991 ?_
  refine zr_icmp_ge (off := 80) 153 76 C (by decide +kernel) (by decide) rfl hf (fun hf => ?_) (fun hf => ?_)
  · refine zr_iinc (j := 1) 6 [some (.ref (h 0)), none, some (.int x2), some (.int x3), some (.int x4), some (.int x5), some (.int (x6 + 1)), some (.int x7), none] 156 C (by decide +kernel) rfl rfl rfl (by decide) rfl rfl ?_
    refine zr_goto (off := -112) 44 C (by decide +kernel) (by decide) ?_
    refine zr_less (zA (zN (zA (zA (zA (zA (zA (zN (zN zE))))))))) ?_
    exact H44 _ _ _ _ _ _ hf
  · refine zr_iconst (v := 0) 0 77 C (by decide +kernel) rfl rfl ?_
    refine zr_istore 8 [some (.ref (h 0)), none, some (.int x2), some (.int x3), some (.int x4), some (.int x5), some (.int x6), some (.int x7), some (.int 0)] 79 C (by decide +kernel) rfl (by decide) rfl rfl ?_
    exact w_M_bridge_79 C T H44 H67 zfu _ _ _ _ _ _ _ _ hf
def f_M_bridge_67 (k44 : Int32 → Int32 → Int32 → Int32 → Int32 → zS → Option (Int32 × zS)) : Nat → Int32 → Int32 → Int32 → Int32 → Int32 → Int32 → zS → Option (Int32 × zS)
  | 0, _, _, _, _, _, _, _ => none
  | n + 1, x2, x3, x4, x5, x6, x7,  σ => f_M_bridge_67b k44 (fun x2 x3 x4 x5 x6 x7 σ => f_M_bridge_67 k44 n x2 x3 x4 x5 x6 x7 σ) x2 x3 x4 x5 x6 x7 σ
theorem w_M_bridge_67 {l : Launch} {d : zD} {F : zF} {h : Nat → Nat} {out : Int32 × zS}  {k44 : Int32 → Int32 → Int32 → Int32 → Int32 → zS → Option (Int32 × zS)} (C : zOk d F RX11 cX11_bridge 9 6 140) (T : zRt d F (some .int) (some (.int out.1)) (MW d h out.2)) (H44 : ∀ (x2 : Int32) (x3 : Int32) (x4 : Int32) (x5 : Int32) (x6 : Int32) (σ : zS), k44 x2 x3 x4 x5 x6 σ = some out → V l d F 0 0 (MW d h σ) [some (.ref (h 0)), none, some (.int x2), some (.int x3), some (.int x4), some (.int x5), some (.int x6), none, none] 44 []) : ∀ (n : Nat) (x2 : Int32) (x3 : Int32) (x4 : Int32) (x5 : Int32) (x6 : Int32) (x7 : Int32) (σ : zS), f_M_bridge_67 k44 n x2 x3 x4 x5 x6 x7 σ = some out → V l d F 0 0 (MW d h σ) [some (.ref (h 0)), none, some (.int x2), some (.int x3), some (.int x4), some (.int x5), some (.int x6), some (.int x7), none] 67 [] := by
  intro n
  induction n with
  | zero =>
    intro x2 x3 x4 x5 x6 x7 σ hf
    cases hf
  | succ n ih =>
    intro x2 x3 x4 x5 x6 x7 σ hf
    exact w_M_bridge_67b C T H44 ih x2 x3 x4 x5 x6 x7 σ hf
def f_M_bridge_44b (k44 : Int32 → Int32 → Int32 → Int32 → Int32 → zS → Option (Int32 × zS)) (x2 : Int32) (x3 : Int32) (x4 : Int32) (x5 : Int32) (x6 : Int32) (σ : zS) : Option (Int32 × zS) :=
  (if ((zshr x4 x2) &&& 1) = 0 then
  (if x4 = x5 then
  f_M_bridge_159 x2 x4 x6 σ
  else
  f_M_bridge_67 k44 zfu x2 x3 x4 x4 x6 0 σ)
  else
  f_M_bridge_159 x2 x4 x6 σ)
set_option maxRecDepth 4000 in
theorem w_M_bridge_44b {l : Launch} {d : zD} {F : zF} {h : Nat → Nat} {out : Int32 × zS}  {k44 : Int32 → Int32 → Int32 → Int32 → Int32 → zS → Option (Int32 × zS)} (C : zOk d F RX11 cX11_bridge 9 6 140) (T : zRt d F (some .int) (some (.int out.1)) (MW d h out.2)) (H44 : ∀ (x2 : Int32) (x3 : Int32) (x4 : Int32) (x5 : Int32) (x6 : Int32) (σ : zS), k44 x2 x3 x4 x5 x6 σ = some out → V l d F 0 0 (MW d h σ) [some (.ref (h 0)), none, some (.int x2), some (.int x3), some (.int x4), some (.int x5), some (.int x6), none, none] 44 []) (x2 : Int32) (x3 : Int32) (x4 : Int32) (x5 : Int32) (x6 : Int32) (σ : zS) (hf : f_M_bridge_44b k44 x2 x3 x4 x5 x6 σ = some out) : V l d F 0 0 (MW d h σ) [some (.ref (h 0)), none, some (.int x2), some (.int x3), some (.int x4), some (.int x5), some (.int x6), none, none] 44 [] := by
  unfold f_M_bridge_44b at hf
  refine zr_iload 4 46 C (by decide +kernel) rfl rfl ?_
  refine zr_iload_n 2 47 C (by decide +kernel) rfl rfl ?_
  refine zr_ishr 48 C (by decide +kernel) rfl ?_
  refine zr_iconst (v := 1) 1 49 C (by decide +kernel) rfl rfl ?_
  refine zr_iand 50 C (by decide +kernel) rfl ?_
  refine zr_if_ne (off := 109) 159 53 C (by decide +kernel) (by decide) rfl hf (fun hf => ?_) (fun hf => ?_)
  · refine zr_less (zN (zN (zA (zN (zA (zN (zA (zN (zN zE))))))))) ?_
    exact w_M_bridge_159 C T _ _ _ _ hf
  · refine zr_iload 4 55 C (by decide +kernel) rfl rfl ?_
    refine zr_iload 5 57 C (by decide +kernel) rfl rfl ?_
    refine zr_icmp_eq (off := 102) 159 60 C (by decide +kernel) (by decide) rfl hf (fun hf => ?_) (fun hf => ?_)
    · refine zr_less (zN (zN (zA (zN (zA (zN (zA (zN (zN zE))))))))) ?_
      exact w_M_bridge_159 C T _ _ _ _ hf
    · refine zr_iload 4 62 C (by decide +kernel) rfl rfl ?_
      refine zr_istore 5 [some (.ref (h 0)), none, some (.int x2), some (.int x3), some (.int x4), some (.int x4), some (.int x6), none, none] 64 C (by decide +kernel) rfl (by decide) rfl rfl ?_
      refine zr_iconst (v := 0) 0 65 C (by decide +kernel) rfl rfl ?_
      refine zr_istore 7 [some (.ref (h 0)), none, some (.int x2), some (.int x3), some (.int x4), some (.int x4), some (.int x6), some (.int 0), none] 67 C (by decide +kernel) rfl (by decide) rfl rfl ?_
      exact w_M_bridge_67 C T H44 zfu _ _ _ _ _ _ _ hf
def f_M_bridge_44  : Nat → Int32 → Int32 → Int32 → Int32 → Int32 → zS → Option (Int32 × zS)
  | 0, _, _, _, _, _, _ => none
  | n + 1, x2, x3, x4, x5, x6,  σ => f_M_bridge_44b (fun x2 x3 x4 x5 x6 σ => f_M_bridge_44  n x2 x3 x4 x5 x6 σ) x2 x3 x4 x5 x6 σ
theorem w_M_bridge_44 {l : Launch} {d : zD} {F : zF} {h : Nat → Nat} {out : Int32 × zS}   (C : zOk d F RX11 cX11_bridge 9 6 140) (T : zRt d F (some .int) (some (.int out.1)) (MW d h out.2))  : ∀ (n : Nat) (x2 : Int32) (x3 : Int32) (x4 : Int32) (x5 : Int32) (x6 : Int32) (σ : zS), f_M_bridge_44  n x2 x3 x4 x5 x6 σ = some out → V l d F 0 0 (MW d h σ) [some (.ref (h 0)), none, some (.int x2), some (.int x3), some (.int x4), some (.int x5), some (.int x6), none, none] 44 [] := by
  intro n
  induction n with
  | zero =>
    intro x2 x3 x4 x5 x6 σ hf
    cases hf
  | succ n ih =>
    intro x2 x3 x4 x5 x6 σ hf
    exact w_M_bridge_44b C T ih x2 x3 x4 x5 x6 σ hf
def f_M_bridge (p1 : Int32) (p2 : Int32) (p3 : Int32) (σ : zS) : Option (Int32 × zS) :=
  zbd (f_M_isHouse p1 σ) fun r2 σ1 =>
  (if r2 = 0 then
  some (-1, σ1)
  else
  zbd (f_M_isHouse p2 σ1) fun r4 σ3 =>
  (if r4 = 0 then
  some (-1, σ3)
  else
  zbd (f_M_in p3 0 80 σ3) fun r6 σ5 =>
  (if r6 = 0 then
  some (-2, σ5)
  else
  zbd (f_M_townOf p1 σ5) fun r8 σ7 =>
  f_M_bridge_44 zfu p2 p3 r8 0 0 σ7)))
set_option maxRecDepth 4000 in
theorem m_M_bridge {l : Launch} {d : zD} {h : Nat → Nat} {out : Int32 × zS} {σ : zS} {p1 : Int32} {p2 : Int32} {p3 : Int32} (hf : f_M_bridge p1 p2 p3 σ = some out) : zM l yX11_bridge cX11_bridge 9 (some .int) 6 140 d [.ref (h 0), .int p1, .int p2, .int p3] (MW d h σ) (MW d h out.2) (some (.int out.1)) := by
  refine zM_of [some (.ref (h 0)), some (.int p1), some (.int p2), some (.int p3), none, none, none, none, none] (by decide +kernel) rfl (Nat.le_of_ble_eq_true rfl) (fun F C T => ?_)
  unfold f_M_bridge at hf
  refine zr_aload_n 0 1 C (by decide +kernel) rfl rfl ?_
  refine zr_iload_n 1 2 C (by decide +kernel) rfl rfl ?_
  refine k_M_isHouse (idx := 154) 5 C (by decide +kernel) rfl q_1188 (zb2 rfl rfl) (Nat.le_of_ble_eq_true rfl) hf (fun r2 σ1 hf => ?_)
  refine zr_if_eq (off := 11) 16 8 C (by decide +kernel) (by decide) rfl hf (fun hf => ?_) (fun hf => ?_)
  · refine zr_iconst (v := (-1)) (-1) 17 C (by decide +kernel) rfl rfl ?_
    obtain rfl := Option.some.inj hf
    exact zr_iret C (by decide +kernel) T
  · refine zr_aload_n 0 9 C (by decide +kernel) rfl rfl ?_
    refine zr_iload_n 2 10 C (by decide +kernel) rfl rfl ?_
    refine k_M_isHouse (idx := 154) 13 C (by decide +kernel) rfl q_1188 (zb2 rfl rfl) (Nat.le_of_ble_eq_true rfl) hf (fun r4 σ3 hf => ?_)
    refine zr_if_ne (off := 5) 18 16 C (by decide +kernel) (by decide) rfl hf (fun hf => ?_) (fun hf => ?_)
    · refine zr_iload_n 3 19 C (by decide +kernel) rfl rfl ?_
      refine zr_iconst (v := 0) 0 20 C (by decide +kernel) rfl rfl ?_
      refine zr_bipush (v := 80) 80 22 C (by decide +kernel) rfl rfl ?_
      refine k_M_in (idx := 139) 25 C (by decide +kernel) rfl q_1181 (zb2 rfl rfl) (Nat.le_of_ble_eq_true rfl) hf (fun r6 σ5 hf => ?_)
      refine zr_if_ne (off := 6) 31 28 C (by decide +kernel) (by decide) rfl hf (fun hf => ?_) (fun hf => ?_)
      · refine zr_aload_n 0 32 C (by decide +kernel) rfl rfl ?_
        refine zr_iload_n 1 33 C (by decide +kernel) rfl rfl ?_
        refine k_M_townOf (idx := 251) 36 C (by decide +kernel) rfl q_1282 (zb2 rfl rfl) (Nat.le_of_ble_eq_true rfl) hf (fun r8 σ7 hf => ?_)
        refine zr_istore 4 [some (.ref (h 0)), some (.int p1), some (.int p2), some (.int p3), some (.int r8), none, none, none, none] 38 C (by decide +kernel) rfl (by decide) rfl rfl ?_
        refine zr_iconst (v := 0) 0 39 C (by decide +kernel) rfl rfl ?_
        refine zr_istore 5 [some (.ref (h 0)), some (.int p1), some (.int p2), some (.int p3), some (.int r8), some (.int 0), none, none, none] 41 C (by decide +kernel) rfl (by decide) rfl rfl ?_
        refine zr_iconst (v := 0) 0 42 C (by decide +kernel) rfl rfl ?_
        refine zr_istore 6 [some (.ref (h 0)), some (.int p1), some (.int p2), some (.int p3), some (.int r8), some (.int 0), some (.int 0), none, none] 44 C (by decide +kernel) rfl (by decide) rfl rfl ?_
        refine zr_less (zA (zN (zA (zA (zA (zA (zA (zN (zN zE))))))))) ?_
        exact w_M_bridge_44 C T zfu _ _ _ _ _ _ hf
      · refine zr_bipush (v := (-2)) (-2) 30 C (by decide +kernel) rfl rfl ?_
        obtain rfl := Option.some.inj hf
        exact zr_iret C (by decide +kernel) T
    · refine zr_iconst (v := (-1)) (-1) 17 C (by decide +kernel) rfl rfl ?_
      obtain rfl := Option.some.inj hf
      exact zr_iret C (by decide +kernel) T
theorem y_M_bridge : zY yX11_bridge cX11_bridge 9 (some .int) 3 := ⟨q_1445, q_90, by decide +kernel, by decide +kernel, by decide +kernel⟩
theorem k_M_bridge {l : Launch} {d : zD} {F : zF} {h : Nat → Nat} {σ : zS} {lv : List (Option Value)} {pc : Nat} {own : String} {cc : ByteArray} {nL fr lo idx : Nat} {rest : List Value} {β : Type} {kf : Int32 → zS → Option β} {o2 : β}  {p1 : Int32} {p2 : Int32} {p3 : Int32} (pc' : Nat) (C : zOk d F own cc nL fr lo) (hd : decode cc pc = .ok (.invokevirtual idx, 3)) (hp : pc + 3 = pc') (hq : Cond.methodLink own idx yX11_bridge ∈ zW) (hm : 6 + 1 ≤ fr ∧ 8 + (9 + 11) + 140 ≤ lo) (hr : (rest.map fun v => v.category).sum ≤ 8) (hf : zbd (f_M_bridge p1 p2 p3 σ) kf = some o2) (K : ∀ (r : Int32) (σ' : zS), kf r σ' = some o2 → V l d F 0 0 (MW d h σ') lv pc' (.int r :: rest)) : V l d F 0 0 (MW d h σ) lv pc (.int p3 :: .int p2 :: .int p1 :: .ref (h 0) :: rest) := by
  obtain ⟨q, h1, h2⟩ := zbd_some hf
  exact zr_callV y_M_bridge ⟨q_1443, q_1444⟩ 0 rfl rfl (As := [.int p1, .int p2, .int p3]) (m_M_bridge h1) rfl rfl pc' C hd hp hq hm hr (K _ _ h2)

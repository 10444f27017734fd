/-! StepsBeyondModel.text()I -/
def f_M_text_122  (x1 : Int32) (σ : zS) : Option (Int32 × zS) :=
  zin ((4 * (σ.1 23)) + 2) 24 (zlt (zsa σ 16 ((4 * (σ.1 23)) + 2) (σ.1 43)) fun σ1 =>
  zlt (zsg σ1 20 0) fun σ2 =>
  (if x1 = 0 then
  some ((-100) - (σ2.1 36), σ2)
  else
  zlt (zsg σ2 23 ((σ2.1 23) + 1)) fun σ3 =>
  some ((σ3.1 23) - 1, σ3)))
set_option maxRecDepth 4000 in
theorem w_M_text_122 {l : Launch} {d : zD} {F : zF} {h : Nat → Nat} {out : Int32 × zS}   (C : zOk d F RX11 cX11_text 3 4 92) (T : zRt d F (some .int) (some (.int out.1)) (MW d h out.2))  (x1 : Int32) (σ : zS) (hf : f_M_text_122  x1 σ = some out) : V l d F 0 0 (MW d h σ) [some (.ref (h 0)), some (.int x1), none] 122 [] := by
  unfold f_M_text_122 at hf
  refine zr_aload_n 0 123 C (by decide +kernel) rfl rfl ?_
  refine mg_0_22 (idx := 55) 126 C (by decide +kernel) rfl q_1013 ?_
  refine zr_iconst (v := 4) 4 127 C (by decide +kernel) rfl rfl ?_
  refine zr_aload_n 0 128 C (by decide +kernel) rfl rfl ?_
  refine mg_0_23 (idx := 58) 131 C (by decide +kernel) rfl q_1014 ?_
  refine zr_imul 132 C (by decide +kernel) rfl ?_
  refine zr_iconst (v := 2) 2 133 C (by decide +kernel) rfl rfl ?_
  refine zr_iadd 134 C (by decide +kernel) rfl ?_
  refine zr_aload_n 0 135 C (by decide +kernel) rfl rfl ?_
  refine mg_0_43 (idx := 178) 138 C (by decide +kernel) rfl q_1034 ?_
  refine ms_16 139 C (by decide +kernel) rfl hf (fun σ1 hf => ?_)
  refine zr_aload_n 0 140 C (by decide +kernel) rfl rfl ?_
  refine zr_iconst (v := 0) 0 141 C (by decide +kernel) rfl rfl ?_
  refine mp_0_20 (idx := 157) 144 C (by decide +kernel) rfl q_1011 hf (fun σ2 hf => ?_)
  refine zr_iload_n 1 145 C (by decide +kernel) rfl rfl ?_
  refine zr_if_ne (off := 11) 156 148 C (by decide +kernel) (by decide) rfl hf (fun hf => ?_) (fun hf => ?_)
  · refine zr_aload_n 0 157 C (by decide +kernel) rfl rfl ?_
    refine zr_dup 158 C (by decide +kernel) rfl rfl ?_
    refine mg_0_23 (idx := 58) 161 C (by decide +kernel) rfl q_1014 ?_
    refine zr_iconst (v := 1) 1 162 C (by decide +kernel) rfl rfl ?_
    refine zr_iadd 163 C (by decide +kernel) rfl ?_
    refine mp_0_23 (idx := 58) 166 C (by decide +kernel) rfl q_1014 hf (fun σ3 hf => ?_)
    refine zr_aload_n 0 167 C (by decide +kernel) rfl rfl ?_
    refine mg_0_23 (idx := 58) 170 C (by decide +kernel) rfl q_1014 ?_
    refine zr_iconst (v := 1) 1 171 C (by decide +kernel) rfl rfl ?_
    refine zr_isub 172 C (by decide +kernel) rfl ?_
    obtain rfl := Option.some.inj hf
    exact zr_iret C (by decide +kernel) T
  · refine zr_bipush (v := (-100)) (-100) 150 C (by decide +kernel) rfl rfl ?_
    refine zr_aload_n 0 151 C (by decide +kernel) rfl rfl ?_
    refine mg_0_36 (idx := 165) 154 C (by decide +kernel) rfl q_1027 ?_
    refine zr_isub 155 C (by decide +kernel) rfl ?_
    obtain rfl := Option.some.inj hf
    exact zr_iret C (by decide +kernel) T
def f_M_text_121  (y0 : Int32) (σ : zS) : Option (Int32 × zS) :=
  f_M_text_122 y0 σ
set_option maxRecDepth 4000 in
theorem w_M_text_121 {l : Launch} {d : zD} {F : zF} {h : Nat → Nat} {out : Int32 × zS}   (C : zOk d F RX11 cX11_text 3 4 92) (T : zRt d F (some .int) (some (.int out.1)) (MW d h out.2))  (y0 : Int32) (σ : zS) (hf : f_M_text_121  y0 σ = some out) : V l d F 0 0 (MW d h σ) [some (.ref (h 0)), none, none] 121 [.int y0] := by
  unfold f_M_text_121 at hf
  refine zr_istore_n 1 [some (.ref (h 0)), some (.int y0), none] 122 C (by decide +kernel) rfl (by decide) rfl rfl ?_
  exact w_M_text_122 C T _ _ hf
def f_M_text_101  (x1 : Int32) (σ : zS) : Option (Int32 × zS) :=
  (if x1 = 0 then
  f_M_text_122 x1 σ
  else
  zbd (f_M_next  σ) fun _ σ1 =>
  (if (σ1.1 37) = 0 then
  f_M_text_121 1 σ1
  else
  f_M_text_121 0 σ1))
set_option maxRecDepth 4000 in
theorem w_M_text_101 {l : Launch} {d : zD} {F : zF} {h : Nat → Nat} {out : Int32 × zS}   (C : zOk d F RX11 cX11_text 3 4 92) (T : zRt d F (some .int) (some (.int out.1)) (MW d h out.2))  (x1 : Int32) (σ : zS) (hf : f_M_text_101  x1 σ = some out) : V l d F 0 0 (MW d h σ) [some (.ref (h 0)), some (.int x1), none] 101 [] := by
  unfold f_M_text_101 at hf
  refine zr_iload_n 1 102 C (by decide +kernel) rfl rfl ?_
  refine zr_if_eq (off := 20) 122 105 C (by decide +kernel) (by decide) rfl hf (fun hf => ?_) (fun hf => ?_)
  · exact w_M_text_122 C T _ _ hf
  · refine zr_aload_n 0 106 C (by decide +kernel) rfl rfl ?_
    refine k_M_next (idx := 200) 109 C (by decide +kernel) rfl q_1201 (zb2 rfl rfl) (Nat.le_of_ble_eq_true rfl) hf (fun _ σ1 hf => ?_)
    refine zr_aload_n 0 110 C (by decide +kernel) rfl rfl ?_
    refine mg_0_37 (idx := 168) 113 C (by decide +kernel) rfl q_1028 ?_
    refine zr_if_ne (off := 7) 120 116 C (by decide +kernel) (by decide) rfl hf (fun hf => ?_) (fun hf => ?_)
    · refine zr_iconst (v := 0) 0 121 C (by decide +kernel) rfl rfl ?_
      refine zr_less (zA (zN (zN zE))) ?_
      exact w_M_text_121 C T _ _ hf
    · refine zr_iconst (v := 1) 1 117 C (by decide +kernel) rfl rfl ?_
      refine zr_goto (off := 4) 121 C (by decide +kernel) (by decide) ?_
      refine zr_less (zA (zN (zN zE))) ?_
      exact w_M_text_121 C T _ _ hf
def f_M_text_94 (k26 : Int32 → Int32 → zS → Option (Int32 × zS)) (x2 : Int32) (y0 : Int32) (σ : zS) : Option (Int32 × zS) :=
  k26 y0 (x2 + 1) σ
set_option maxRecDepth 4000 in
theorem w_M_text_94 {l : Launch} {d : zD} {F : zF} {h : Nat → Nat} {out : Int32 × zS}  {k26 : Int32 → Int32 → zS → Option (Int32 × zS)} (C : zOk d F RX11 cX11_text 3 4 92) (T : zRt d F (some .int) (some (.int out.1)) (MW d h out.2)) (H26 : ∀ (x1 : Int32) (x2 : Int32) (σ : zS), k26 x1 x2 σ = some out → V l d F 0 0 (MW d h σ) [some (.ref (h 0)), some (.int x1), some (.int x2)] 26 []) (x2 : Int32) (y0 : Int32) (σ : zS) (hf : f_M_text_94 k26 x2 y0 σ = some out) : V l d F 0 0 (MW d h σ) [some (.ref (h 0)), none, some (.int x2)] 94 [.int y0] := by
  unfold f_M_text_94 at hf
  refine zr_istore_n 1 [some (.ref (h 0)), some (.int y0), some (.int x2)] 95 C (by decide +kernel) rfl (by decide) rfl rfl ?_
  refine zr_iinc (j := 1) 2 [some (.ref (h 0)), some (.int y0), some (.int (x2 + 1))] 98 C (by decide +kernel) rfl rfl rfl (by decide) rfl rfl ?_
  refine zr_goto (off := -72) 26 C (by decide +kernel) (by decide) ?_
  exact H26 _ _ _ hf
def f_M_text_93 (k26 : Int32 → Int32 → zS → Option (Int32 × zS)) (x2 : Int32) (σ : zS) : Option (Int32 × zS) :=
  f_M_text_94 k26 x2 0 σ
set_option maxRecDepth 4000 in
theorem w_M_text_93 {l : Launch} {d : zD} {F : zF} {h : Nat → Nat} {out : Int32 × zS}  {k26 : Int32 → Int32 → zS → Option (Int32 × zS)} (C : zOk d F RX11 cX11_text 3 4 92) (T : zRt d F (some .int) (some (.int out.1)) (MW d h out.2)) (H26 : ∀ (x1 : Int32) (x2 : Int32) (σ : zS), k26 x1 x2 σ = some out → V l d F 0 0 (MW d h σ) [some (.ref (h 0)), some (.int x1), some (.int x2)] 26 []) (x2 : Int32) (σ : zS) (hf : f_M_text_93 k26 x2 σ = some out) : V l d F 0 0 (MW d h σ) [some (.ref (h 0)), none, some (.int x2)] 93 [] := by
  unfold f_M_text_93 at hf
  refine zr_iconst (v := 0) 0 94 C (by decide +kernel) rfl rfl ?_
  exact w_M_text_94 C T H26 _ _ _ hf
def f_M_text_60 (k26 : Int32 → Int32 → zS → Option (Int32 × zS)) (x2 : Int32) (y0 : Int32) (σ : zS) : Option (Int32 × zS) :=
  zin ((4 * (σ.1 23)) + x2) 24 (zlt (zsa σ 16 ((4 * (σ.1 23)) + x2) (σ.1 43)) fun σ1 =>
  (if y0 = 0 then
  f_M_text_93 k26 x2 σ1
  else
  zbd (f_M_eRead  σ1) fun r3 σ2 =>
  (if r3 = 0 then
  f_M_text_93 k26 x2 σ2
  else
  f_M_text_94 k26 x2 1 σ2)))
set_option maxRecDepth 4000 in
theorem w_M_text_60 {l : Launch} {d : zD} {F : zF} {h : Nat → Nat} {out : Int32 × zS}  {k26 : Int32 → Int32 → zS → Option (Int32 × zS)} (C : zOk d F RX11 cX11_text 3 4 92) (T : zRt d F (some .int) (some (.int out.1)) (MW d h out.2)) (H26 : ∀ (x1 : Int32) (x2 : Int32) (σ : zS), k26 x1 x2 σ = some out → V l d F 0 0 (MW d h σ) [some (.ref (h 0)), some (.int x1), some (.int x2)] 26 []) (x2 : Int32) (y0 : Int32) (σ : zS) (hf : f_M_text_60 k26 x2 y0 σ = some out) : V l d F 0 0 (MW d h σ) [some (.ref (h 0)), none, some (.int x2)] 60 [.int y0] := by
  unfold f_M_text_60 at hf
  refine zr_istore_n 1 [some (.ref (h 0)), some (.int y0), some (.int x2)] 61 C (by decide +kernel) rfl (by decide) rfl rfl ?_
  refine zr_aload_n 0 62 C (by decide +kernel) rfl rfl ?_
  refine mg_0_22 (idx := 55) 65 C (by decide +kernel) rfl q_1013 ?_
  refine zr_iconst (v := 4) 4 66 C (by decide +kernel) rfl rfl ?_
  refine zr_aload_n 0 67 C (by decide +kernel) rfl rfl ?_
  refine mg_0_23 (idx := 58) 70 C (by decide +kernel) rfl q_1014 ?_
  refine zr_imul 71 C (by decide +kernel) rfl ?_
  refine zr_iload_n 2 72 C (by decide +kernel) rfl rfl ?_
  refine zr_iadd 73 C (by decide +kernel) rfl ?_
  refine zr_aload_n 0 74 C (by decide +kernel) rfl rfl ?_
  refine mg_0_43 (idx := 178) 77 C (by decide +kernel) rfl q_1034 ?_
  refine ms_16 78 C (by decide +kernel) rfl hf (fun σ1 hf => ?_)
  refine zr_iload_n 1 79 C (by decide +kernel) rfl rfl ?_
  refine zr_if_eq (off := 14) 93 82 C (by decide +kernel) (by decide) rfl hf (fun hf => ?_) (fun hf => ?_)
  · refine zr_less (zA (zN (zA zE))) ?_
    exact w_M_text_93 C T H26 _ _ hf
  · refine zr_aload_n 0 83 C (by decide +kernel) rfl rfl ?_
    refine k_M_eRead (idx := 214) 86 C (by decide +kernel) rfl q_1209 (zb2 rfl rfl) (Nat.le_of_ble_eq_true rfl) hf (fun r3 σ2 hf => ?_)
    refine zr_if_eq (off := 7) 93 89 C (by decide +kernel) (by decide) rfl hf (fun hf => ?_) (fun hf => ?_)
    · refine zr_less (zA (zN (zA zE))) ?_
      exact w_M_text_93 C T H26 _ _ hf
    · refine zr_iconst (v := 1) 1 90 C (by decide +kernel) rfl rfl ?_
      refine zr_goto (off := 4) 94 C (by decide +kernel) (by decide) ?_
      refine zr_less (zA (zN (zA zE))) ?_
      exact w_M_text_94 C T H26 _ _ _ hf
def f_M_text_59 (k26 : Int32 → Int32 → zS → Option (Int32 × zS)) (x2 : Int32) (σ : zS) : Option (Int32 × zS) :=
  f_M_text_60 k26 x2 0 σ
set_option maxRecDepth 4000 in
theorem w_M_text_59 {l : Launch} {d : zD} {F : zF} {h : Nat → Nat} {out : Int32 × zS}  {k26 : Int32 → Int32 → zS → Option (Int32 × zS)} (C : zOk d F RX11 cX11_text 3 4 92) (T : zRt d F (some .int) (some (.int out.1)) (MW d h out.2)) (H26 : ∀ (x1 : Int32) (x2 : Int32) (σ : zS), k26 x1 x2 σ = some out → V l d F 0 0 (MW d h σ) [some (.ref (h 0)), some (.int x1), some (.int x2)] 26 []) (x2 : Int32) (σ : zS) (hf : f_M_text_59 k26 x2 σ = some out) : V l d F 0 0 (MW d h σ) [some (.ref (h 0)), none, some (.int x2)] 59 [] := by
  unfold f_M_text_59 at hf
  refine zr_iconst (v := 0) 0 60 C (by decide +kernel) rfl rfl ?_
  exact w_M_text_60 C T H26 _ _ _ hf
def f_M_text_26b (k26 : Int32 → Int32 → zS → Option (Int32 × zS)) (x1 : Int32) (x2 : Int32) (σ : zS) : Option (Int32 × zS) :=
  (if 2 ≤ x2 then
  f_M_text_101 x1 σ
  else
  (if x1 = 0 then
  f_M_text_101 x1 σ
  else
  zbd (f_M_next  σ) fun _ σ1 =>
  (if (σ1.1 37) = 3 then
  (if (σ1.1 38) = x2 then
  f_M_text_60 k26 x2 1 σ1
  else
  f_M_text_59 k26 x2 σ1)
  else
  f_M_text_59 k26 x2 σ1)))
set_option maxRecDepth 4000 in
theorem w_M_text_26b {l : Launch} {d : zD} {F : zF} {h : Nat → Nat} {out : Int32 × zS}  {k26 : Int32 → Int32 → zS → Option (Int32 × zS)} (C : zOk d F RX11 cX11_text 3 4 92) (T : zRt d F (some .int) (some (.int out.1)) (MW d h out.2)) (H26 : ∀ (x1 : Int32) (x2 : Int32) (σ : zS), k26 x1 x2 σ = some out → V l d F 0 0 (MW d h σ) [some (.ref (h 0)), some (.int x1), some (.int x2)] 26 []) (x1 : Int32) (x2 : Int32) (σ : zS) (hf : f_M_text_26b k26 x1 x2 σ = some out) : V l d F 0 0 (MW d h σ) [some (.ref (h 0)), some (.int x1), some (.int x2)] 26 [] := by
  unfold f_M_text_26b at hf
  refine zr_iload_n 2 27 C (by decide +kernel) rfl rfl ?_
  refine zr_iconst (v := 2) 2 28 C (by decide +kernel) rfl rfl ?_
  refine zr_icmp_ge (off := 73) 101 31 C (by decide +kernel) (by decide) rfl hf (fun hf => ?_) (fun hf => ?_)
  · refine zr_less (zA (zA (zN zE))) ?_
    exact w_M_text_101 C T _ _ hf
  · refine zr_iload_n 1 32 C (by decide +kernel) rfl rfl ?_
    refine zr_if_eq (off := 69) 101 35 C (by decide +kernel) (by decide) rfl hf (fun hf => ?_) (fun hf => ?_)
    · refine zr_less (zA (zA (zN zE))) ?_
      exact w_M_text_101 C T _ _ hf
    · refine zr_aload_n 0 36 C (by decide +kernel) rfl rfl ?_
      refine k_M_next (idx := 200) 39 C (by decide +kernel) rfl q_1201 (zb2 rfl rfl) (Nat.le_of_ble_eq_true rfl) hf (fun _ σ1 hf => ?_)
      refine zr_aload_n 0 40 C (by decide +kernel) rfl rfl ?_
      refine mg_0_37 (idx := 168) 43 C (by decide +kernel) rfl q_1028 ?_
      refine zr_iconst (v := 3) 3 44 C (by decide +kernel) rfl rfl ?_
      refine zr_icmp_ne (off := 15) 59 47 C (by decide +kernel) (by decide) rfl hf (fun hf => ?_) (fun hf => ?_)
      · refine zr_less (zA (zN (zA zE))) ?_
        exact w_M_text_59 C T H26 _ _ hf
      · refine zr_aload_n 0 48 C (by decide +kernel) rfl rfl ?_
        refine mg_0_38 (idx := 171) 51 C (by decide +kernel) rfl q_1029 ?_
        refine zr_iload_n 2 52 C (by decide +kernel) rfl rfl ?_
        refine zr_icmp_ne (off := 7) 59 55 C (by decide +kernel) (by decide) rfl hf (fun hf => ?_) (fun hf => ?_)
        · refine zr_less (zA (zN (zA zE))) ?_
          exact w_M_text_59 C T H26 _ _ hf
        · refine zr_iconst (v := 1) 1 56 C (by decide +kernel) rfl rfl ?_
          refine zr_goto (off := 4) 60 C (by decide +kernel) (by decide) ?_
          refine zr_less (zA (zN (zA zE))) ?_
          exact w_M_text_60 C T H26 _ _ _ hf
def f_M_text_26  : Nat → Int32 → Int32 → zS → Option (Int32 × zS)
  | 0, _, _, _ => none
  | n + 1, x1, x2,  σ => f_M_text_26b (fun x1 x2 σ => f_M_text_26  n x1 x2 σ) x1 x2 σ
theorem w_M_text_26 {l : Launch} {d : zD} {F : zF} {h : Nat → Nat} {out : Int32 × zS}   (C : zOk d F RX11 cX11_text 3 4 92) (T : zRt d F (some .int) (some (.int out.1)) (MW d h out.2))  : ∀ (n : Nat) (x1 : Int32) (x2 : Int32) (σ : zS), f_M_text_26  n x1 x2 σ = some out → V l d F 0 0 (MW d h σ) [some (.ref (h 0)), some (.int x1), some (.int x2)] 26 [] := by
  intro n
  induction n with
  | zero =>
    intro x1 x2 σ hf
    cases hf
  | succ n ih =>
    intro x1 x2 σ hf
    exact w_M_text_26b C T ih x1 x2 σ hf
def f_M_text  (σ : zS) : Option (Int32 × zS) :=
  (if (σ.1 23) = 6 then
  some (-4, σ)
  else
  zlt (zsg σ 35 0) fun σ1 =>
  zlt (zsg σ1 43 0) fun σ2 =>
  f_M_text_26 zfu 1 0 σ2)
set_option maxRecDepth 4000 in
theorem m_M_text {l : Launch} {d : zD} {h : Nat → Nat} {out : Int32 × zS} {σ : zS}  (hf : f_M_text  σ = some out) : zM l yX11_text cX11_text 3 (some .int) 4 92 d [.ref (h 0)] (MW d h σ) (MW d h out.2) (some (.int out.1)) := by
  refine zM_of [some (.ref (h 0)), none, none] (by decide +kernel) rfl (Nat.le_of_ble_eq_true rfl) (fun F C T => ?_)
  unfold f_M_text at hf
  refine zr_aload_n 0 1 C (by decide +kernel) rfl rfl ?_
  refine mg_0_23 (idx := 58) 4 C (by decide +kernel) rfl q_1014 ?_
  refine zr_bipush (v := 6) 6 6 C (by decide +kernel) rfl rfl ?_
  refine zr_icmp_ne (off := 6) 12 9 C (by decide +kernel) (by decide) rfl hf (fun hf => ?_) (fun hf => ?_)
  · refine zr_aload_n 0 13 C (by decide +kernel) rfl rfl ?_
    refine zr_iconst (v := 0) 0 14 C (by decide +kernel) rfl rfl ?_
    refine mp_0_35 (idx := 162) 17 C (by decide +kernel) rfl q_1026 hf (fun σ1 hf => ?_)
    refine zr_aload_n 0 18 C (by decide +kernel) rfl rfl ?_
    refine zr_iconst (v := 0) 0 19 C (by decide +kernel) rfl rfl ?_
    refine mp_0_43 (idx := 178) 22 C (by decide +kernel) rfl q_1034 hf (fun σ2 hf => ?_)
    refine zr_iconst (v := 1) 1 23 C (by decide +kernel) rfl rfl ?_
    refine zr_istore_n 1 [some (.ref (h 0)), some (.int 1), none] 24 C (by decide +kernel) rfl (by decide) rfl rfl ?_
    refine zr_iconst (v := 0) 0 25 C (by decide +kernel) rfl rfl ?_
    refine zr_istore_n 2 [some (.ref (h 0)), some (.int 1), some (.int 0)] 26 C (by decide +kernel) rfl (by decide) rfl rfl ?_
    exact w_M_text_26 C T zfu _ _ _ hf
  · refine zr_bipush (v := (-4)) (-4) 11 C (by decide +kernel) rfl rfl ?_
    obtain rfl := Option.some.inj hf
    exact zr_iret C (by decide +kernel) T
theorem y_M_text : zY yX11_text cX11_text 3 (some .int) 0 := ⟨q_1200, q_90, by decide +kernel, by decide +kernel, by decide +kernel⟩
theorem k_M_text {l : Launch} {d : zD} {F : zF} {h : Nat → Nat} {σ : zS} {lv : List (Option Value)} {pc : Nat} {own : String} {cc : ByteArray} {nL fr lo idx : Nat} {rest : List Value} {β : Type} {kf : Int32 → zS → Option β} {o2 : β}   (pc' : Nat) (C : zOk d F own cc nL fr lo) (hd : decode cc pc = .ok (.invokevirtual idx, 3)) (hp : pc + 3 = pc') (hq : Cond.methodLink own idx yX11_text ∈ zW) (hm : 4 + 1 ≤ fr ∧ 8 + (3 + 11) + 92 ≤ lo) (hr : (rest.map fun v => v.category).sum ≤ 8) (hf : zbd (f_M_text  σ) kf = some o2) (K : ∀ (r : Int32) (σ' : zS), kf r σ' = some o2 → V l d F 0 0 (MW d h σ') lv pc' (.int r :: rest)) : V l d F 0 0 (MW d h σ) lv pc (.ref (h 0) :: rest) := by
  obtain ⟨q, h1, h2⟩ := zbd_some hf
  exact zr_callV y_M_text ⟨q_1198, q_1199⟩ 0 rfl rfl (As := []) (m_M_text h1) rfl rfl pc' C hd hp hq hm hr (K _ _ h2)
/-! StepsBeyondModel.two(III)I -/
def f_M_two_52   (σ : zS) : Option (Int32 × zS) :=
  some (1, σ)
set_option maxRecDepth 4000 in
theorem w_M_two_52 {l : Launch} {d : zD} {F : zF} {h : Nat → Nat} {out : Int32 × zS}   (C : zOk d F RX11 cX11_two 3 0 0) (T : zRt d F (some .int) (some (.int out.1)) (MW d h out.2))   (σ : zS) (hf : f_M_two_52   σ = some out) : V l d F 0 0 (MW d h σ) [none, none, none] 52 [] := by
  unfold f_M_two_52 at hf
  refine zr_iconst (v := 1) 1 53 C (by decide +kernel) rfl rfl ?_
  refine zr_goto (off := 4) 57 C (by decide +kernel) (by decide) ?_
  obtain rfl := Option.some.inj hf
  exact zr_iret C (by decide +kernel) T
def f_M_two (p0 : Int32) (p1 : Int32) (p2 : Int32) (σ : zS) : Option (Int32 × zS) :=
  (if p0 = 11 then
  (if p1 = 0 then
  (if p2 = 0 then
  some (0, σ)
  else
  f_M_two_52 σ)
  else
  f_M_two_52 σ)
  else
  (if p0 = 12 then
  (if p1 = 0 then
  some (0, σ)
  else
  (if p2 = 0 then
  some (0, σ)
  else
  some (1, σ)))
  else
  (if p0 = 14 then
  (if p2 ≤ p1 then
  some (0, σ)
  else
  some (1, σ))
  else
  (if p0 = 15 then
  (if p1 = p2 then
  some (1, σ)
  else
  some (0, σ))
  else
  (if p0 = 16 then
  some (p1 + p2, σ)
  else
  (if p0 = 17 then
  some (p1 - p2, σ)
  else
  some (p1 * p2, σ)))))))
set_option maxRecDepth 4000 in
theorem m_M_two {l : Launch} {d : zD} {h : Nat → Nat} {out : Int32 × zS} {σ : zS} {p0 : Int32} {p1 : Int32} {p2 : Int32} (hf : f_M_two p0 p1 p2 σ = some out) : zM l yX11_two cX11_two 3 (some .int) 0 0 d [.int p0, .int p1, .int p2] (MW d h σ) (MW d h out.2) (some (.int out.1)) := by
  refine zM_of [some (.int p0), some (.int p1), some (.int p2)] (by decide +kernel) rfl (Nat.le_of_ble_eq_true rfl) (fun F C T => ?_)
  unfold f_M_two at hf
  refine zr_iload_n 0 1 C (by decide +kernel) rfl rfl ?_
  refine zr_tcase (dflt := 101) (lw := 11) (hi := 17) (offs := #[43, 57, 101, 71, 82, 93, 97]) (len := 43) (off := 43) (j := 0) 11 44 C (by decide +kernel) (by decide) (by decide) rfl (by decide) hf (fun hf => ?_) (fun hn0 hf => ?_)
  · refine zr_iload_n 1 45 C (by decide +kernel) rfl rfl ?_
    refine zr_if_ne (off := 7) 52 48 C (by decide +kernel) (by decide) rfl hf (fun hf => ?_) (fun hf => ?_)
    · refine zr_less (zN (zN (zN zE))) ?_
      exact w_M_two_52 C T _ hf
    · refine zr_iload_n 2 49 C (by decide +kernel) rfl rfl ?_
      refine zr_if_eq (off := 7) 56 52 C (by decide +kernel) (by decide) rfl hf (fun hf => ?_) (fun hf => ?_)
      · refine zr_iconst (v := 0) 0 57 C (by decide +kernel) rfl rfl ?_
        obtain rfl := Option.some.inj hf
        exact zr_iret C (by decide +kernel) T
      · refine zr_less (zN (zN (zN zE))) ?_
        exact w_M_two_52 C T _ hf
  refine zr_tcase (dflt := 101) (lw := 11) (hi := 17) (offs := #[43, 57, 101, 71, 82, 93, 97]) (len := 43) (off := 57) (j := 1) 12 58 C (by decide +kernel) (by decide) (by decide) rfl (by decide) hf (fun hf => ?_) (fun hn1 hf => ?_)
  · refine zr_iload_n 1 59 C (by decide +kernel) rfl rfl ?_
    refine zr_if_eq (off := 11) 70 62 C (by decide +kernel) (by decide) rfl hf (fun hf => ?_) (fun hf => ?_)
    · refine zr_iconst (v := 0) 0 71 C (by decide +kernel) rfl rfl ?_
      obtain rfl := Option.some.inj hf
      exact zr_iret C (by decide +kernel) T
    · refine zr_iload_n 2 63 C (by decide +kernel) rfl rfl ?_
      refine zr_if_eq (off := 7) 70 66 C (by decide +kernel) (by decide) rfl hf (fun hf => ?_) (fun hf => ?_)
      · refine zr_iconst (v := 0) 0 71 C (by decide +kernel) rfl rfl ?_
        obtain rfl := Option.some.inj hf
        exact zr_iret C (by decide +kernel) T
      · refine zr_iconst (v := 1) 1 67 C (by decide +kernel) rfl rfl ?_
        refine zr_goto (off := 4) 71 C (by decide +kernel) (by decide) ?_
        obtain rfl := Option.some.inj hf
        exact zr_iret C (by decide +kernel) T
  refine zr_tcase (dflt := 101) (lw := 11) (hi := 17) (offs := #[43, 57, 101, 71, 82, 93, 97]) (len := 43) (off := 71) (j := 3) 14 72 C (by decide +kernel) (by decide) (by decide) rfl (by decide) hf (fun hf => ?_) (fun hn3 hf => ?_)
  · refine zr_iload_n 1 73 C (by decide +kernel) rfl rfl ?_
    refine zr_iload_n 2 74 C (by decide +kernel) rfl rfl ?_
    refine zr_icmp_ge (off := 7) 81 77 C (by decide +kernel) (by decide) rfl hf (fun hf => ?_) (fun hf => ?_)
    · refine zr_iconst (v := 0) 0 82 C (by decide +kernel) rfl rfl ?_
      obtain rfl := Option.some.inj hf
      exact zr_iret C (by decide +kernel) T
    · refine zr_iconst (v := 1) 1 78 C (by decide +kernel) rfl rfl ?_
      refine zr_goto (off := 4) 82 C (by decide +kernel) (by decide) ?_
      obtain rfl := Option.some.inj hf
      exact zr_iret C (by decide +kernel) T
  refine zr_tcase (dflt := 101) (lw := 11) (hi := 17) (offs := #[43, 57, 101, 71, 82, 93, 97]) (len := 43) (off := 82) (j := 4) 15 83 C (by decide +kernel) (by decide) (by decide) rfl (by decide) hf (fun hf => ?_) (fun hn4 hf => ?_)
  · refine zr_iload_n 1 84 C (by decide +kernel) rfl rfl ?_
    refine zr_iload_n 2 85 C (by decide +kernel) rfl rfl ?_
    refine zr_icmp_ne (off := 7) 92 88 C (by decide +kernel) (by decide) rfl hf (fun hf => ?_) (fun hf => ?_)
    · refine zr_iconst (v := 0) 0 93 C (by decide +kernel) rfl rfl ?_
      obtain rfl := Option.some.inj hf
      exact zr_iret C (by decide +kernel) T
    · refine zr_iconst (v := 1) 1 89 C (by decide +kernel) rfl rfl ?_
      refine zr_goto (off := 4) 93 C (by decide +kernel) (by decide) ?_
      obtain rfl := Option.some.inj hf
      exact zr_iret C (by decide +kernel) T
  refine zr_tcase (dflt := 101) (lw := 11) (hi := 17) (offs := #[43, 57, 101, 71, 82, 93, 97]) (len := 43) (off := 93) (j := 5) 16 94 C (by decide +kernel) (by decide) (by decide) rfl (by decide) hf (fun hf => ?_) (fun hn5 hf => ?_)
  · refine zr_iload_n 1 95 C (by decide +kernel) rfl rfl ?_
    refine zr_iload_n 2 96 C (by decide +kernel) rfl rfl ?_
    refine zr_iadd 97 C (by decide +kernel) rfl ?_
    obtain rfl := Option.some.inj hf
    exact zr_iret C (by decide +kernel) T
  refine zr_tcase (dflt := 101) (lw := 11) (hi := 17) (offs := #[43, 57, 101, 71, 82, 93, 97]) (len := 43) (off := 97) (j := 6) 17 98 C (by decide +kernel) (by decide) (by decide) rfl (by decide) hf (fun hf => ?_) (fun hn6 hf => ?_)
  · refine zr_iload_n 1 99 C (by decide +kernel) rfl rfl ?_
    refine zr_iload_n 2 100 C (by decide +kernel) rfl rfl ?_
    refine zr_isub 101 C (by decide +kernel) rfl ?_
    obtain rfl := Option.some.inj hf
    exact zr_iret C (by decide +kernel) T
  refine zr_tdflt (dflt := 101) (lw := 11) (hi := 17) (offs := #[43, 57, 101, 71, 82, 93, 97]) (len := 43) 102 C (by decide +kernel) (by decide) (by decide) (fun j hj hx => ?_) ?_
  · rcases (show j = 0 ∨ j = 1 ∨ j = 2 ∨ j = 3 ∨ j = 4 ∨ j = 5 ∨ j = 6 by have hj2 : j < 7 := hj; omega) with rfl | rfl | rfl | rfl | rfl | rfl | rfl
    · exact absurd (z_ti (c := 11) (by decide) hx) hn0
    · exact absurd (z_ti (c := 12) (by decide) hx) hn1
    · rfl
    · exact absurd (z_ti (c := 14) (by decide) hx) hn3
    · exact absurd (z_ti (c := 15) (by decide) hx) hn4
    · exact absurd (z_ti (c := 16) (by decide) hx) hn5
    · exact absurd (z_ti (c := 17) (by decide) hx) hn6
  refine zr_iload_n 1 103 C (by decide +kernel) rfl rfl ?_
  refine zr_iload_n 2 104 C (by decide +kernel) rfl rfl ?_
  refine zr_imul 105 C (by decide +kernel) rfl ?_
  obtain rfl := Option.some.inj hf
  exact zr_iret C (by decide +kernel) T
theorem y_M_two : zY yX11_two cX11_two 3 (some .int) 3 := ⟨q_1269, q_90, by decide +kernel, by decide +kernel, by decide +kernel⟩
theorem k_M_two {l : Launch} {d : zD} {F : zF} {h : Nat → Nat} {σ : zS} {lv : List (Option Value)} {pc : Nat} {own : String} {cc : ByteArray} {nL fr lo idx : Nat} {rest : List Value} {β : Type} {kf : Int32 → zS → Option β} {o2 : β}  {p0 : Int32} {p1 : Int32} {p2 : Int32} (pc' : Nat) (C : zOk d F own cc nL fr lo) (hd : decode cc pc = .ok (.invokestatic idx, 3)) (hp : pc + 3 = pc') (hq : Cond.methodLink own idx yX11_two ∈ zW) (hm : 0 + 1 ≤ fr ∧ 8 + (3 + 11) + 0 ≤ lo) (hr : (rest.map fun v => v.category).sum ≤ 8) (hf : zbd (f_M_two p0 p1 p2 σ) kf = some o2) (K : ∀ (r : Int32) (σ' : zS), kf r σ' = some o2 → V l d F 0 0 (MW d h σ') lv pc' (.int r :: rest)) : V l d F 0 0 (MW d h σ) lv pc (.int p2 :: .int p1 :: .int p0 :: rest) := by
  obtain ⟨q, h1, h2⟩ := zbd_some hf
  exact zr_callS y_M_two q_1268 (As := [.int p0, .int p1, .int p2]) (m_M_two h1) rfl rfl pc' C hd hp hq hm hr (K _ _ h2)
/-! StepsBeyondModel.worth(I)I -/
def f_M_worth_191 (k16 : Int32 → Int32 → Int32 → zS → Option (Int32 × zS)) (x1 : Int32) (x2 : Int32) (x3 : Int32) (σ : zS) : Option (Int32 × zS) :=
  k16 x1 x2 (x3 + 1) σ
set_option maxRecDepth 4000 in
theorem w_M_worth_191 {l : Launch} {d : zD} {F : zF} {h : Nat → Nat} {out : Int32 × zS}  {k16 : Int32 → Int32 → Int32 → zS → Option (Int32 × zS)} (C : zOk d F RX11 cX11_worth 5 1 22) (T : zRt d F (some .int) (some (.int out.1)) (MW d h out.2)) (H16 : ∀ (x1 : Int32) (x2 : Int32) (x3 : Int32) (σ : zS), k16 x1 x2 x3 σ = some out → V l d F 0 0 (MW d h σ) [some (.ref (h 0)), some (.int x1), some (.int x2), some (.int x3), none] 16 []) (x1 : Int32) (x2 : Int32) (x3 : Int32) (σ : zS) (hf : f_M_worth_191 k16 x1 x2 x3 σ = some out) : V l d F 0 0 (MW d h σ) [some (.ref (h 0)), some (.int x1), some (.int x2), some (.int x3), none] 191 [] := by
  unfold f_M_worth_191 at hf
  refine zr_iinc (j := 1) 3 [some (.ref (h 0)), some (.int x1), some (.int x2), some (.int (x3 + 1)), none] 194 C (by decide +kernel) rfl rfl rfl (by decide) rfl rfl ?_
  refine zr_goto (off := -178) 16 C (by decide +kernel) (by decide) ?_
  exact H16 _ _ _ _ hf
def f_M_worth_130 (k16 : Int32 → Int32 → Int32 → zS → Option (Int32 × zS)) (x1 : Int32) (x2 : Int32) (x3 : Int32) (y1 : Int32) (y2 : Int32) (σ : zS) : Option (Int32 × zS) :=
  zin y1 200 (zlt (zsa σ 24 y1 y2) fun σ1 =>
  f_M_worth_191 k16 x1 x2 x3 σ1)
set_option maxRecDepth 4000 in
theorem w_M_worth_130 {l : Launch} {d : zD} {F : zF} {h : Nat → Nat} {out : Int32 × zS}  {k16 : Int32 → Int32 → Int32 → zS → Option (Int32 × zS)} (C : zOk d F RX11 cX11_worth 5 1 22) (T : zRt d F (some .int) (some (.int out.1)) (MW d h out.2)) (H16 : ∀ (x1 : Int32) (x2 : Int32) (x3 : Int32) (σ : zS), k16 x1 x2 x3 σ = some out → V l d F 0 0 (MW d h σ) [some (.ref (h 0)), some (.int x1), some (.int x2), some (.int x3), none] 16 []) (x1 : Int32) (x2 : Int32) (x3 : Int32) (y1 : Int32) (y2 : Int32) (σ : zS) (hf : f_M_worth_130 k16 x1 x2 x3 y1 y2 σ = some out) : V l d F 0 0 (MW d h σ) [some (.ref (h 0)), some (.int x1), some (.int x2), some (.int x3), none] 130 [.int y2, .int y1, .ref (h 24)] := by
  unfold f_M_worth_130 at hf
  refine ms_24 131 C (by decide +kernel) rfl hf (fun σ1 hf => ?_)
  refine zr_goto (off := 60) 191 C (by decide +kernel) (by decide) ?_
  exact w_M_worth_191 C T H16 _ _ _ _ hf
def f_M_worth_93 (k16 : Int32 → Int32 → Int32 → zS → Option (Int32 × zS)) (x1 : Int32) (x2 : Int32) (x3 : Int32) (y1 : Int32) (y2 : Int32) (σ : zS) : Option (Int32 × zS) :=
  zin y1 200 (zlt (zsa σ 24 y1 y2) fun σ1 =>
  f_M_worth_191 k16 x1 (x2 + 1) x3 σ1)
set_option maxRecDepth 4000 in
theorem w_M_worth_93 {l : Launch} {d : zD} {F : zF} {h : Nat → Nat} {out : Int32 × zS}  {k16 : Int32 → Int32 → Int32 → zS → Option (Int32 × zS)} (C : zOk d F RX11 cX11_worth 5 1 22) (T : zRt d F (some .int) (some (.int out.1)) (MW d h out.2)) (H16 : ∀ (x1 : Int32) (x2 : Int32) (x3 : Int32) (σ : zS), k16 x1 x2 x3 σ = some out → V l d F 0 0 (MW d h σ) [some (.ref (h 0)), some (.int x1), some (.int x2), some (.int x3), none] 16 []) (x1 : Int32) (x2 : Int32) (x3 : Int32) (y1 : Int32) (y2 : Int32) (σ : zS) (hf : f_M_worth_93 k16 x1 x2 x3 y1 y2 σ = some out) : V l d F 0 0 (MW d h σ) [some (.ref (h 0)), some (.int x1), some (.int x2), some (.int x3), none] 93 [.int y2, .int y1, .ref (h 24)] := by
  unfold f_M_worth_93 at hf
  refine ms_24 94 C (by decide +kernel) rfl hf (fun σ1 hf => ?_)
  refine zr_iinc (j := 1) 2 [some (.ref (h 0)), some (.int x1), some (.int (x2 + 1)), some (.int x3), none] 97 C (by decide +kernel) rfl rfl rfl (by decide) rfl rfl ?_
  refine zr_goto (off := 94) 191 C (by decide +kernel) (by decide) ?_
  exact w_M_worth_191 C T H16 _ _ _ _ hf
def f_M_worth_66 (k16 : Int32 → Int32 → Int32 → zS → Option (Int32 × zS)) (x1 : Int32) (x2 : Int32) (x3 : Int32) (x4 : Int32) (σ : zS) : Option (Int32 × zS) :=
  (if 11 ≤ x4 then
  f_M_worth_93 k16 x1 x2 x3 x2 (x4 - 100000) σ
  else
  zin x4 6 (f_M_worth_93 k16 x1 x2 x3 x2 (σ.2 25 x4.toNatClampNeg) σ))
set_option maxRecDepth 4000 in
theorem w_M_worth_66 {l : Launch} {d : zD} {F : zF} {h : Nat → Nat} {out : Int32 × zS}  {k16 : Int32 → Int32 → Int32 → zS → Option (Int32 × zS)} (C : zOk d F RX11 cX11_worth 5 1 22) (T : zRt d F (some .int) (some (.int out.1)) (MW d h out.2)) (H16 : ∀ (x1 : Int32) (x2 : Int32) (x3 : Int32) (σ : zS), k16 x1 x2 x3 σ = some out → V l d F 0 0 (MW d h σ) [some (.ref (h 0)), some (.int x1), some (.int x2), some (.int x3), none] 16 []) (x1 : Int32) (x2 : Int32) (x3 : Int32) (x4 : Int32) (σ : zS) (hf : f_M_worth_66 k16 x1 x2 x3 x4 σ = some out) : V l d F 0 0 (MW d h σ) [some (.ref (h 0)), some (.int x1), some (.int x2), some (.int x3), some (.int x4)] 66 [] := by
  unfold f_M_worth_66 at hf
  refine zr_aload_n 0 67 C (by decide +kernel) rfl rfl ?_
  refine mg_0_44 (idx := 106) 70 C (by decide +kernel) rfl q_1035 ?_
  refine zr_iload_n 2 71 C (by decide +kernel) rfl rfl ?_
  refine zr_iload 4 73 C (by decide +kernel) rfl rfl ?_
  refine zr_bipush (v := 11) 11 75 C (by decide +kernel) rfl rfl ?_
  refine zr_icmp_ge (off := 13) 88 78 C (by decide +kernel) (by decide) rfl hf (fun hf => ?_) (fun hf => ?_)
  · refine zr_iload 4 90 C (by decide +kernel) rfl rfl ?_
    refine zr_ldc (v := 100000) (i := 203) 92 C (by decide +kernel) rfl q_1213 ?_
    refine zr_isub 93 C (by decide +kernel) rfl ?_
    refine zr_less (zA (zA (zA (zA (zN zE))))) ?_
    exact w_M_worth_93 C T H16 _ _ _ _ _ _ hf
  · refine zr_aload_n 0 79 C (by decide +kernel) rfl rfl ?_
    refine mg_0_45 (idx := 109) 82 C (by decide +kernel) rfl q_1036 ?_
    refine zr_iload 4 84 C (by decide +kernel) rfl rfl ?_
    refine ml_25 85 C (by decide +kernel) rfl hf (fun hf => ?_)
    refine zr_goto (off := 8) 93 C (by decide +kernel) (by decide) ?_
    refine zr_less (zA (zA (zA (zA (zN zE))))) ?_
    exact w_M_worth_93 C T H16 _ _ _ _ _ _ hf
def f_M_worth_16b (k16 : Int32 → Int32 → Int32 → zS → Option (Int32 × zS)) (x1 : Int32) (x2 : Int32) (x3 : Int32) (σ : zS) : Option (Int32 × zS) :=
  zin (((4 * (σ.1 24)) + x1) + 1) 24 ((if (σ.2 16 (((4 * (σ.1 24)) + x1) + 1).toNatClampNeg) ≤ x3 then
  zin 0 200 (some (σ.2 24 (0 : Int32).toNatClampNeg, σ))
  else
  zin ((200 * (σ.1 24)) + x3) 1200 (zlt (σ.2 15 ((200 * (σ.1 24)) + x3).toNatClampNeg) fun v1 => 
  (if 100000 ≤ v1 then
  f_M_worth_66 k16 x1 x2 x3 v1 σ
  else
  (if 11 ≤ v1 then
  (if v1 = 13 then
  zin (x2 - 1) 200 ((if (σ.2 24 (x2 - 1).toNatClampNeg) = 0 then
  f_M_worth_130 k16 x1 x2 x3 (x2 - 1) 1 σ
  else
  f_M_worth_130 k16 x1 x2 x3 (x2 - 1) 0 σ))
  else
  (if v1 = 19 then
  zin (x2 - 1) 200 (zin (x2 - 1) 200 (zlt (zsa σ 24 (x2 - 1) (-(σ.2 24 (x2 - 1).toNatClampNeg))) fun σ5 =>
  f_M_worth_191 k16 x1 x2 x3 σ5))
  else
  zin ((x2 + (-1)) - 1) 200 (zin (x2 + (-1)) 200 (zbd (f_M_two v1 (σ.2 24 ((x2 + (-1)) - 1).toNatClampNeg) (σ.2 24 (x2 + (-1)).toNatClampNeg) σ) fun r3 σ2 =>
  zin ((x2 + (-1)) - 1) 200 (zlt (zsa σ2 24 ((x2 + (-1)) - 1) r3) fun σ4 =>
  f_M_worth_191 k16 x1 (x2 + (-1)) x3 σ4)))))
  else
  f_M_worth_66 k16 x1 x2 x3 v1 σ)))))
set_option maxRecDepth 4000 in
theorem w_M_worth_16b {l : Launch} {d : zD} {F : zF} {h : Nat → Nat} {out : Int32 × zS}  {k16 : Int32 → Int32 → Int32 → zS → Option (Int32 × zS)} (C : zOk d F RX11 cX11_worth 5 1 22) (T : zRt d F (some .int) (some (.int out.1)) (MW d h out.2)) (H16 : ∀ (x1 : Int32) (x2 : Int32) (x3 : Int32) (σ : zS), k16 x1 x2 x3 σ = some out → V l d F 0 0 (MW d h σ) [some (.ref (h 0)), some (.int x1), some (.int x2), some (.int x3), none] 16 []) (x1 : Int32) (x2 : Int32) (x3 : Int32) (σ : zS) (hf : f_M_worth_16b k16 x1 x2 x3 σ = some out) : V l d F 0 0 (MW d h σ) [some (.ref (h 0)), some (.int x1), some (.int x2), some (.int x3), none] 16 [] := by
  unfold f_M_worth_16b at hf
  refine zr_iload_n 3 17 C (by decide +kernel) rfl rfl ?_
  refine zr_aload_n 0 18 C (by decide +kernel) rfl rfl ?_
  refine mg_0_22 (idx := 55) 21 C (by decide +kernel) rfl q_1013 ?_
  refine zr_iconst (v := 4) 4 22 C (by decide +kernel) rfl rfl ?_
  refine zr_aload_n 0 23 C (by decide +kernel) rfl rfl ?_
  refine mg_0_24 (idx := 218) 26 C (by decide +kernel) rfl q_1015 ?_
  refine zr_imul 27 C (by decide +kernel) rfl ?_
  refine zr_iload_n 1 28 C (by decide +kernel) rfl rfl ?_
  refine zr_iadd 29 C (by decide +kernel) rfl ?_
  refine zr_iconst (v := 1) 1 30 C (by decide +kernel) rfl rfl ?_
  refine zr_iadd 31 C (by decide +kernel) rfl ?_
  refine ml_16 32 C (by decide +kernel) rfl hf (fun hf => ?_)
  refine zr_icmp_ge (off := 165) 197 35 C (by decide +kernel) (by decide) rfl hf (fun hf => ?_) (fun hf => ?_)
  · refine zr_aload_n 0 198 C (by decide +kernel) rfl rfl ?_
    refine mg_0_44 (idx := 106) 201 C (by decide +kernel) rfl q_1035 ?_
    refine zr_iconst (v := 0) 0 202 C (by decide +kernel) rfl rfl ?_
    refine ml_24 203 C (by decide +kernel) rfl hf (fun hf => ?_)
    obtain rfl := Option.some.inj hf
    exact zr_iret C (by decide +kernel) T
  · refine zr_aload_n 0 36 C (by decide +kernel) rfl rfl ?_
    refine mg_0_21 (idx := 52) 39 C (by decide +kernel) rfl q_1012 ?_
    refine zr_sipush (v := 200) 200 42 C (by decide +kernel) rfl rfl ?_
    refine zr_aload_n 0 43 C (by decide +kernel) rfl rfl ?_
    refine mg_0_24 (idx := 218) 46 C (by decide +kernel) rfl q_1015 ?_
    refine zr_imul 47 C (by decide +kernel) rfl ?_
    refine zr_iload_n 3 48 C (by decide +kernel) rfl rfl ?_
    refine zr_iadd 49 C (by decide +kernel) rfl ?_
    refine ml_15 50 C (by decide +kernel) rfl hf (fun hf => ?_)
    refine zr_name hf (fun v1 hf => ?_)
    refine zr_istore 4 [some (.ref (h 0)), some (.int x1), some (.int x2), some (.int x3), some (.int v1)] 52 C (by decide +kernel) rfl (by decide) rfl rfl ?_
    refine zr_iload 4 54 C (by decide +kernel) rfl rfl ?_
    refine zr_ldc (v := 100000) (i := 203) 56 C (by decide +kernel) rfl q_1213 ?_
    refine zr_icmp_ge (off := 10) 66 59 C (by decide +kernel) (by decide) rfl hf (fun hf => ?_) (fun hf => ?_)
    · exact w_M_worth_66 C T H16 _ _ _ _ _ hf
    · refine zr_iload 4 61 C (by decide +kernel) rfl rfl ?_
      refine zr_bipush (v := 11) 11 63 C (by decide +kernel) rfl rfl ?_
      refine zr_icmp_ge (off := 37) 100 66 C (by decide +kernel) (by decide) rfl hf (fun hf => ?_) (fun hf => ?_)
      · refine zr_iload 4 102 C (by decide +kernel) rfl rfl ?_
        refine zr_bipush (v := 13) 13 104 C (by decide +kernel) rfl rfl ?_
        refine zr_icmp_ne (off := 30) 134 107 C (by decide +kernel) (by decide) rfl hf (fun hf => ?_) (fun hf => ?_)
        · refine zr_iload 4 136 C (by decide +kernel) rfl rfl ?_
          refine zr_bipush (v := 19) 19 138 C (by decide +kernel) rfl rfl ?_
          refine zr_icmp_ne (off := 23) 161 141 C (by decide +kernel) (by decide) rfl hf (fun hf => ?_) (fun hf => ?_)
          · refine zr_iinc (j := -1) 2 [some (.ref (h 0)), some (.int x1), some (.int (x2 + (-1))), some (.int x3), some (.int v1)] 164 C (by decide +kernel) rfl rfl rfl (by decide) rfl rfl ?_
            refine zr_aload_n 0 165 C (by decide +kernel) rfl rfl ?_
            refine mg_0_44 (idx := 106) 168 C (by decide +kernel) rfl q_1035 ?_
            refine zr_iload_n 2 169 C (by decide +kernel) rfl rfl ?_
            refine zr_iconst (v := 1) 1 170 C (by decide +kernel) rfl rfl ?_
            refine zr_isub 171 C (by decide +kernel) rfl ?_
            refine zr_iload 4 173 C (by decide +kernel) rfl rfl ?_
            refine zr_aload_n 0 174 C (by decide +kernel) rfl rfl ?_
            refine mg_0_44 (idx := 106) 177 C (by decide +kernel) rfl q_1035 ?_
            refine zr_iload_n 2 178 C (by decide +kernel) rfl rfl ?_
            refine zr_iconst (v := 1) 1 179 C (by decide +kernel) rfl rfl ?_
            refine zr_isub 180 C (by decide +kernel) rfl ?_
            refine ml_24 181 C (by decide +kernel) rfl hf (fun hf => ?_)
            refine zr_aload_n 0 182 C (by decide +kernel) rfl rfl ?_
            refine mg_0_44 (idx := 106) 185 C (by decide +kernel) rfl q_1035 ?_
            refine zr_iload_n 2 186 C (by decide +kernel) rfl rfl ?_
            refine ml_24 187 C (by decide +kernel) rfl hf (fun hf => ?_)
            refine k_M_two (idx := 221) 190 C (by decide +kernel) rfl q_1267 (zb2 rfl rfl) (Nat.le_of_ble_eq_true rfl) hf (fun r3 σ2 hf => ?_)
            refine ms_24 191 C (by decide +kernel) rfl hf (fun σ4 hf => ?_)
            refine zr_less (zA (zA (zA (zA (zN zE))))) ?_
            exact w_M_worth_191 C T H16 _ _ _ _ hf
          · refine zr_aload_n 0 142 C (by decide +kernel) rfl rfl ?_
            refine mg_0_44 (idx := 106) 145 C (by decide +kernel) rfl q_1035 ?_
            refine zr_iload_n 2 146 C (by decide +kernel) rfl rfl ?_
            refine zr_iconst (v := 1) 1 147 C (by decide +kernel) rfl rfl ?_
            refine zr_isub 148 C (by decide +kernel) rfl ?_
            refine zr_aload_n 0 149 C (by decide +kernel) rfl rfl ?_
            refine mg_0_44 (idx := 106) 152 C (by decide +kernel) rfl q_1035 ?_
            refine zr_iload_n 2 153 C (by decide +kernel) rfl rfl ?_
            refine zr_iconst (v := 1) 1 154 C (by decide +kernel) rfl rfl ?_
            refine zr_isub 155 C (by decide +kernel) rfl ?_
            refine ml_24 156 C (by decide +kernel) rfl hf (fun hf => ?_)
            refine zr_ineg 157 C (by decide +kernel) rfl ?_
            refine ms_24 158 C (by decide +kernel) rfl hf (fun σ5 hf => ?_)
            refine zr_goto (off := 33) 191 C (by decide +kernel) (by decide) ?_
            refine zr_less (zA (zA (zA (zA (zN zE))))) ?_
            exact w_M_worth_191 C T H16 _ _ _ _ hf
        · refine zr_aload_n 0 108 C (by decide +kernel) rfl rfl ?_
          refine mg_0_44 (idx := 106) 111 C (by decide +kernel) rfl q_1035 ?_
          refine zr_iload_n 2 112 C (by decide +kernel) rfl rfl ?_
          refine zr_iconst (v := 1) 1 113 C (by decide +kernel) rfl rfl ?_
          refine zr_isub 114 C (by decide +kernel) rfl ?_
          refine zr_aload_n 0 115 C (by decide +kernel) rfl rfl ?_
          refine mg_0_44 (idx := 106) 118 C (by decide +kernel) rfl q_1035 ?_
          refine zr_iload_n 2 119 C (by decide +kernel) rfl rfl ?_
          refine zr_iconst (v := 1) 1 120 C (by decide +kernel) rfl rfl ?_
          refine zr_isub 121 C (by decide +kernel) rfl ?_
          refine ml_24 122 C (by decide +kernel) rfl hf (fun hf => ?_)
          refine zr_if_ne (off := 7) 129 125 C (by decide +kernel) (by decide) rfl hf (fun hf => ?_) (fun hf => ?_)
          · refine zr_iconst (v := 0) 0 130 C (by decide +kernel) rfl rfl ?_
            refine zr_less (zA (zA (zA (zA (zN zE))))) ?_
            exact w_M_worth_130 C T H16 _ _ _ _ _ _ hf
          · refine zr_iconst (v := 1) 1 126 C (by decide +kernel) rfl rfl ?_
            refine zr_goto (off := 4) 130 C (by decide +kernel) (by decide) ?_
            refine zr_less (zA (zA (zA (zA (zN zE))))) ?_
            exact w_M_worth_130 C T H16 _ _ _ _ _ _ hf
      · exact w_M_worth_66 C T H16 _ _ _ _ _ hf
def f_M_worth_16  : Nat → Int32 → Int32 → Int32 → zS → Option (Int32 × zS)
  | 0, _, _, _, _ => none
  | n + 1, x1, x2, x3,  σ => f_M_worth_16b (fun x1 x2 x3 σ => f_M_worth_16  n x1 x2 x3 σ) x1 x2 x3 σ
theorem w_M_worth_16 {l : Launch} {d : zD} {F : zF} {h : Nat → Nat} {out : Int32 × zS}   (C : zOk d F RX11 cX11_worth 5 1 22) (T : zRt d F (some .int) (some (.int out.1)) (MW d h out.2))  : ∀ (n : Nat) (x1 : Int32) (x2 : Int32) (x3 : Int32) (σ : zS), f_M_worth_16  n x1 x2 x3 σ = some out → V l d F 0 0 (MW d h σ) [some (.ref (h 0)), some (.int x1), some (.int x2), some (.int x3), none] 16 [] := by
  intro n
  induction n with
  | zero =>
    intro x1 x2 x3 σ hf
    cases hf
  | succ n ih =>
    intro x1 x2 x3 σ hf
    exact w_M_worth_16b C T ih x1 x2 x3 σ hf
def f_M_worth (p1 : Int32) (σ : zS) : Option (Int32 × zS) :=
  zin ((4 * (σ.1 24)) + p1) 24 (zlt (σ.2 16 ((4 * (σ.1 24)) + p1).toNatClampNeg) fun v1 => 
  f_M_worth_16 zfu p1 0 v1 σ)
set_option maxRecDepth 4000 in
theorem m_M_worth {l : Launch} {d : zD} {h : Nat → Nat} {out : Int32 × zS} {σ : zS} {p1 : Int32} (hf : f_M_worth p1 σ = some out) : zM l yX11_worth cX11_worth 5 (some .int) 1 22 d [.ref (h 0), .int p1] (MW d h σ) (MW d h out.2) (some (.int out.1)) := by
  refine zM_of [some (.ref (h 0)), some (.int p1), none, none, none] (by decide +kernel) rfl (Nat.le_of_ble_eq_true rfl) (fun F C T => ?_)
  unfold f_M_worth at hf
  refine zr_iconst (v := 0) 0 1 C (by decide +kernel) rfl rfl ?_
  refine zr_istore_n 2 [some (.ref (h 0)), some (.int p1), some (.int 0), none, none] 2 C (by decide +kernel) rfl (by decide) rfl rfl ?_
  refine zr_aload_n 0 3 C (by decide +kernel) rfl rfl ?_
  refine mg_0_22 (idx := 55) 6 C (by decide +kernel) rfl q_1013 ?_
  refine zr_iconst (v := 4) 4 7 C (by decide +kernel) rfl rfl ?_
  refine zr_aload_n 0 8 C (by decide +kernel) rfl rfl ?_
  refine mg_0_24 (idx := 218) 11 C (by decide +kernel) rfl q_1015 ?_
  refine zr_imul 12 C (by decide +kernel) rfl ?_
  refine zr_iload_n 1 13 C (by decide +kernel) rfl rfl ?_
  refine zr_iadd 14 C (by decide +kernel) rfl ?_
  refine ml_16 15 C (by decide +kernel) rfl hf (fun hf => ?_)
  refine zr_name hf (fun v1 hf => ?_)
  refine zr_istore_n 3 [some (.ref (h 0)), some (.int p1), some (.int 0), some (.int v1), none] 16 C (by decide +kernel) rfl (by decide) rfl rfl ?_
  exact w_M_worth_16 C T zfu _ _ _ _ hf
theorem y_M_worth : zY yX11_worth cX11_worth 5 (some .int) 1 := ⟨q_1266, q_90, by decide +kernel, by decide +kernel, by decide +kernel⟩
theorem k_M_worth {l : Launch} {d : zD} {F : zF} {h : Nat → Nat} {σ : zS} {lv : List (Option Value)} {pc : Nat} {own : String} {cc : ByteArray} {nL fr lo idx : Nat} {rest : List Value} {β : Type} {kf : Int32 → zS → Option β} {o2 : β}  {p1 : Int32} (pc' : Nat) (C : zOk d F own cc nL fr lo) (hd : decode cc pc = .ok (.invokevirtual idx, 3)) (hp : pc + 3 = pc') (hq : Cond.methodLink own idx yX11_worth ∈ zW) (hm : 1 + 1 ≤ fr ∧ 8 + (5 + 11) + 22 ≤ lo) (hr : (rest.map fun v => v.category).sum ≤ 8) (hf : zbd (f_M_worth p1 σ) kf = some o2) (K : ∀ (r : Int32) (σ' : zS), kf r σ' = some o2 → V l d F 0 0 (MW d h σ') lv pc' (.int r :: rest)) : V l d F 0 0 (MW d h σ) lv pc (.int p1 :: .ref (h 0) :: rest) := by
  obtain ⟨q, h1, h2⟩ := zbd_some hf
  exact zr_callV y_M_worth ⟨q_1265, q_49⟩ 0 rfl rfl (As := [.int p1]) (m_M_worth h1) rfl rfl pc' C hd hp hq hm hr (K _ _ h2)
/-! StepsBeyondModel.force(I)I -/
def f_M_force (p1 : Int32) (σ : zS) : Option (Int32 × zS) :=
  zbd (f_M_in p1 0 ((σ.1 23) - 1) σ) fun r2 σ1 =>
  (if r2 = 0 then
  some (-2, σ1)
  else
  zlt (σ1.1 24) fun v3 => 
  zlt (zsg σ1 24 p1) fun σ4 =>
  some (v3, σ4))
set_option maxRecDepth 4000 in
theorem m_M_force {l : Launch} {d : zD} {h : Nat → Nat} {out : Int32 × zS} {σ : zS} {p1 : Int32} (hf : f_M_force p1 σ = some out) : zM l yX11_force cX11_force 3 (some .int) 1 22 d [.ref (h 0), .int p1] (MW d h σ) (MW d h out.2) (some (.int out.1)) := by
  refine zM_of [some (.ref (h 0)), some (.int p1), none] (by decide +kernel) rfl (Nat.le_of_ble_eq_true rfl) (fun F C T => ?_)
  unfold f_M_force at hf
  refine zr_iload_n 1 1 C (by decide +kernel) rfl rfl ?_
  refine zr_iconst (v := 0) 0 2 C (by decide +kernel) rfl rfl ?_
  refine zr_aload_n 0 3 C (by decide +kernel) rfl rfl ?_
  refine mg_0_23 (idx := 58) 6 C (by decide +kernel) rfl q_1014 ?_
  refine zr_iconst (v := 1) 1 7 C (by decide +kernel) rfl rfl ?_
  refine zr_isub 8 C (by decide +kernel) rfl ?_
  refine k_M_in (idx := 139) 11 C (by decide +kernel) rfl q_1181 (zb2 rfl rfl) (Nat.le_of_ble_eq_true rfl) hf (fun r2 σ1 hf => ?_)
  refine zr_if_ne (off := 6) 17 14 C (by decide +kernel) (by decide) rfl hf (fun hf => ?_) (fun hf => ?_)
  · refine zr_aload_n 0 18 C (by decide +kernel) rfl rfl ?_
    refine mg_0_24 (idx := 218) 21 C (by decide +kernel) rfl q_1015 ?_
    refine zr_name hf (fun v3 hf => ?_)
    refine zr_istore_n 2 [some (.ref (h 0)), some (.int p1), some (.int v3)] 22 C (by decide +kernel) rfl (by decide) rfl rfl ?_
    refine zr_aload_n 0 23 C (by decide +kernel) rfl rfl ?_
    refine zr_iload_n 1 24 C (by decide +kernel) rfl rfl ?_
    refine mp_0_24 (idx := 218) 27 C (by decide +kernel) rfl q_1015 hf (fun σ4 hf => ?_)
    refine zr_iload_n 2 28 C (by decide +kernel) rfl rfl ?_
    obtain rfl := Option.some.inj hf
    exact zr_iret C (by decide +kernel) T
  · refine zr_bipush (v := (-2)) (-2) 16 C (by decide +kernel) rfl rfl ?_
    obtain rfl := Option.some.inj hf
    exact zr_iret C (by decide +kernel) T
theorem y_M_force : zY yX11_force cX11_force 3 (some .int) 1 := ⟨q_1244, q_90, by decide +kernel, by decide +kernel, by decide +kernel⟩
theorem k_M_force {l : Launch} {d : zD} {F : zF} {h : Nat → Nat} {σ : zS} {lv : List (Option Value)} {pc : Nat} {own : String} {cc : ByteArray} {nL fr lo idx : Nat} {rest : List Value} {β : Type} {kf : Int32 → zS → Option β} {o2 : β}  {p1 : Int32} (pc' : Nat) (C : zOk d F own cc nL fr lo) (hd : decode cc pc = .ok (.invokevirtual idx, 3)) (hp : pc + 3 = pc') (hq : Cond.methodLink own idx yX11_force ∈ zW) (hm : 1 + 1 ≤ fr ∧ 8 + (3 + 11) + 22 ≤ lo) (hr : (rest.map fun v => v.category).sum ≤ 8) (hf : zbd (f_M_force p1 σ) kf = some o2) (K : ∀ (r : Int32) (σ' : zS), kf r σ' = some o2 → V l d F 0 0 (MW d h σ') lv pc' (.int r :: rest)) : V l d F 0 0 (MW d h σ) lv pc (.int p1 :: .ref (h 0) :: rest) := by
  obtain ⟨q, h1, h2⟩ := zbd_some hf
  exact zr_callV y_M_force ⟨q_1242, q_1243⟩ 0 rfl rfl (As := [.int p1]) (m_M_force h1) rfl rfl pc' C hd hp hq hm hr (K _ _ h2)
/-! StepsBeyondModel.areNear(III)Z -/
def f_M_areNear (p1 : Int32) (p2 : Int32) (p3 : Int32) (σ : zS) : Option (Int32 × zS) :=
  zlt ((zrem p1 40) - (zrem p2 40)) fun v1 => 
  zlt ((p1 / 40) - (p2 / 40)) fun v2 => 
  zin 0 6 (zlt (zsa σ 25 0 ((v1 * v1) + (v2 * v2))) fun σ3 =>
  zbd (f_M_apart p1 p2 σ3) fun r5 σ4 =>
  zin 1 6 (zlt (zsa σ4 25 1 r5) fun σ6 =>
  zin 2 6 (zlt (zsa σ6 25 2 p3) fun σ7 =>
  zin 3 6 (zlt (zsa σ7 25 3 (σ7.1 0)) fun σ8 =>
  zin 4 6 (zlt (zsa σ8 25 4 0) fun σ9 =>
  zin 5 6 (zlt (zsa σ9 25 5 (σ9.1 8)) fun σ10 =>
  zbd (f_M_worth 0 σ10) fun r12 σ11 =>
  (if r12 = 0 then
  some (0, σ11)
  else
  some (1, σ11))))))))
set_option maxRecDepth 4000 in
theorem m_M_areNear {l : Launch} {d : zD} {h : Nat → Nat} {out : Int32 × zS} {σ : zS} {p1 : Int32} {p2 : Int32} {p3 : Int32} (hf : f_M_areNear p1 p2 p3 σ = some out) : zM l yX11_areNear cX11_areNear 6 (some .boolean) 2 46 d [.ref (h 0), .int p1, .int p2, .int p3] (MW d h σ) (MW d h out.2) (some (.int out.1)) := by
  refine zM_of [some (.ref (h 0)), some (.int p1), some (.int p2), some (.int p3), none, none] (by decide +kernel) rfl (Nat.le_of_ble_eq_true rfl) (fun F C T => ?_)
  unfold f_M_areNear at hf
  refine zr_iload_n 1 1 C (by decide +kernel) rfl rfl ?_
  refine zr_bipush (v := 40) 40 3 C (by decide +kernel) rfl rfl ?_
  refine zr_irem 4 C (by decide +kernel) rfl (by decide) ?_
  refine zr_iload_n 2 5 C (by decide +kernel) rfl rfl ?_
  refine zr_bipush (v := 40) 40 7 C (by decide +kernel) rfl rfl ?_
  refine zr_irem 8 C (by decide +kernel) rfl (by decide) ?_
  refine zr_isub 9 C (by decide +kernel) rfl ?_
  refine zr_name hf (fun v1 hf => ?_)
  refine zr_istore 4 [some (.ref (h 0)), some (.int p1), some (.int p2), some (.int p3), some (.int v1), none] 11 C (by decide +kernel) rfl (by decide) rfl rfl ?_
  refine zr_iload_n 1 12 C (by decide +kernel) rfl rfl ?_
  refine zr_bipush (v := 40) 40 14 C (by decide +kernel) rfl rfl ?_
  refine zr_idiv 15 C (by decide +kernel) rfl (by decide) ?_
  refine zr_iload_n 2 16 C (by decide +kernel) rfl rfl ?_
  refine zr_bipush (v := 40) 40 18 C (by decide +kernel) rfl rfl ?_
  refine zr_idiv 19 C (by decide +kernel) rfl (by decide) ?_
  refine zr_isub 20 C (by decide +kernel) rfl ?_
  refine zr_name hf (fun v2 hf => ?_)
  refine zr_istore 5 [some (.ref (h 0)), some (.int p1), some (.int p2), some (.int p3), some (.int v1), some (.int v2)] 22 C (by decide +kernel) rfl (by decide) rfl rfl ?_
  refine zr_aload_n 0 23 C (by decide +kernel) rfl rfl ?_
  refine mg_0_45 (idx := 109) 26 C (by decide +kernel) rfl q_1036 ?_
  refine zr_iconst (v := 0) 0 27 C (by decide +kernel) rfl rfl ?_
  refine zr_iload 4 29 C (by decide +kernel) rfl rfl ?_
  refine zr_iload 4 31 C (by decide +kernel) rfl rfl ?_
  refine zr_imul 32 C (by decide +kernel) rfl ?_
  refine zr_iload 5 34 C (by decide +kernel) rfl rfl ?_
  refine zr_iload 5 36 C (by decide +kernel) rfl rfl ?_
  refine zr_imul 37 C (by decide +kernel) rfl ?_
  refine zr_iadd 38 C (by decide +kernel) rfl ?_
  refine ms_25 39 C (by decide +kernel) rfl hf (fun σ3 hf => ?_)
  refine zr_aload_n 0 40 C (by decide +kernel) rfl rfl ?_
  refine mg_0_45 (idx := 109) 43 C (by decide +kernel) rfl q_1036 ?_
  refine zr_iconst (v := 1) 1 44 C (by decide +kernel) rfl rfl ?_
  refine zr_iload_n 1 45 C (by decide +kernel) rfl rfl ?_
  refine zr_iload_n 2 46 C (by decide +kernel) rfl rfl ?_
  refine k_M_apart (idx := 225) 49 C (by decide +kernel) rfl q_1257 (zb2 rfl rfl) (Nat.le_of_ble_eq_true rfl) hf (fun r5 σ4 hf => ?_)
  refine ms_25 50 C (by decide +kernel) rfl hf (fun σ6 hf => ?_)
  refine zr_aload_n 0 51 C (by decide +kernel) rfl rfl ?_
  refine mg_0_45 (idx := 109) 54 C (by decide +kernel) rfl q_1036 ?_
  refine zr_iconst (v := 2) 2 55 C (by decide +kernel) rfl rfl ?_
  refine zr_iload_n 3 56 C (by decide +kernel) rfl rfl ?_
  refine ms_25 57 C (by decide +kernel) rfl hf (fun σ7 hf => ?_)
  refine zr_aload_n 0 58 C (by decide +kernel) rfl rfl ?_
  refine mg_0_45 (idx := 109) 61 C (by decide +kernel) rfl q_1036 ?_
  refine zr_iconst (v := 3) 3 62 C (by decide +kernel) rfl rfl ?_
  refine zr_aload_n 0 63 C (by decide +kernel) rfl rfl ?_
  refine mg_0_0 (idx := 143) 66 C (by decide +kernel) rfl q_991 ?_
  refine ms_25 67 C (by decide +kernel) rfl hf (fun σ8 hf => ?_)
  refine zr_aload_n 0 68 C (by decide +kernel) rfl rfl ?_
  refine mg_0_45 (idx := 109) 71 C (by decide +kernel) rfl q_1036 ?_
  refine zr_iconst (v := 4) 4 72 C (by decide +kernel) rfl rfl ?_
  refine zr_iconst (v := 0) 0 73 C (by decide +kernel) rfl rfl ?_
  refine ms_25 74 C (by decide +kernel) rfl hf (fun σ9 hf => ?_)
  refine zr_aload_n 0 75 C (by decide +kernel) rfl rfl ?_
  refine mg_0_45 (idx := 109) 78 C (by decide +kernel) rfl q_1036 ?_
  refine zr_iconst (v := 5) 5 79 C (by decide +kernel) rfl rfl ?_
  refine zr_aload_n 0 80 C (by decide +kernel) rfl rfl ?_
  refine mg_0_8 (idx := 229) 83 C (by decide +kernel) rfl q_999 ?_
  refine ms_25 84 C (by decide +kernel) rfl hf (fun σ10 hf => ?_)
  refine zr_aload_n 0 85 C (by decide +kernel) rfl rfl ?_
  refine zr_iconst (v := 0) 0 86 C (by decide +kernel) rfl rfl ?_
  refine k_M_worth (idx := 232) 89 C (by decide +kernel) rfl q_1263 (zb2 rfl rfl) (Nat.le_of_ble_eq_true rfl) hf (fun r12 σ11 hf => ?_)
  refine zr_if_eq (off := 7) 96 92 C (by decide +kernel) (by decide) rfl hf (fun hf => ?_) (fun hf => ?_)
  · refine zr_iconst (v := 0) 0 97 C (by decide +kernel) rfl rfl ?_
    obtain rfl := Option.some.inj hf
    exact zr_zret C (by decide +kernel) rfl T
  · refine zr_iconst (v := 1) 1 93 C (by decide +kernel) rfl rfl ?_
    refine zr_goto (off := 4) 97 C (by decide +kernel) (by decide) ?_
    obtain rfl := Option.some.inj hf
    exact zr_zret C (by decide +kernel) rfl T
theorem y_M_areNear : zY yX11_areNear cX11_areNear 6 (some .boolean) 3 := ⟨q_1256, q_90, by decide +kernel, by decide +kernel, by decide +kernel⟩
theorem k_M_areNear {l : Launch} {d : zD} {F : zF} {h : Nat → Nat} {σ : zS} {lv : List (Option Value)} {pc : Nat} {own : String} {cc : ByteArray} {nL fr lo idx : Nat} {rest : List Value} {β : Type} {kf : Int32 → zS → Option β} {o2 : β}  {p1 : Int32} {p2 : Int32} {p3 : Int32} (pc' : Nat) (C : zOk d F own cc nL fr lo) (hd : decode cc pc = .ok (.invokevirtual idx, 3)) (hp : pc + 3 = pc') (hq : Cond.methodLink own idx yX11_areNear ∈ zW) (hm : 2 + 1 ≤ fr ∧ 8 + (6 + 11) + 46 ≤ lo) (hr : (rest.map fun v => v.category).sum ≤ 8) (hf : zbd (f_M_areNear p1 p2 p3 σ) kf = some o2) (K : ∀ (r : Int32) (σ' : zS), kf r σ' = some o2 → V l d F 0 0 (MW d h σ') lv pc' (.int r :: rest)) : V l d F 0 0 (MW d h σ) lv pc (.int p3 :: .int p2 :: .int p1 :: .ref (h 0) :: rest) := by
  obtain ⟨q, h1, h2⟩ := zbd_some hf
  exact zr_callV y_M_areNear ⟨q_1255, q_48⟩ 0 rfl rfl (As := [.int p1, .int p2, .int p3]) (m_M_areNear h1) rfl rfl pc' C hd hp hq hm hr (K _ _ h2)
/-! StepsBeyondModel.nearTwo(II)Z -/
def f_M_nearTwo (p1 : Int32) (p2 : Int32) (σ : zS) : Option (Int32 × zS) :=
  zin p1 20 (zin p2 20 (zin p1 20 (zin p2 20 (zbd (f_M_areNear (σ.2 1 p1.toNatClampNeg) (σ.2 1 p2.toNatClampNeg) ((σ.2 2 p1.toNatClampNeg) + (σ.2 2 p2.toNatClampNeg)) σ) fun r2 σ1 =>
  zbo r2 (some (r2, σ1))))))
set_option maxRecDepth 4000 in
theorem m_M_nearTwo {l : Launch} {d : zD} {h : Nat → Nat} {out : Int32 × zS} {σ : zS} {p1 : Int32} {p2 : Int32} (hf : f_M_nearTwo p1 p2 σ = some out) : zM l yX11_nearTwo cX11_nearTwo 3 (some .boolean) 3 71 d [.ref (h 0), .int p1, .int p2] (MW d h σ) (MW d h out.2) (some (.int out.1)) := by
  refine zM_of [some (.ref (h 0)), some (.int p1), some (.int p2)] (by decide +kernel) rfl (Nat.le_of_ble_eq_true rfl) (fun F C T => ?_)
  unfold f_M_nearTwo at hf
  refine zr_aload_n 0 1 C (by decide +kernel) rfl rfl ?_
  refine zr_aload_n 0 2 C (by decide +kernel) rfl rfl ?_
  refine mg_0_1 (idx := 7) 5 C (by decide +kernel) rfl q_992 ?_
  refine zr_iload_n 1 6 C (by decide +kernel) rfl rfl ?_
  refine ml_1 7 C (by decide +kernel) rfl hf (fun hf => ?_)
  refine zr_aload_n 0 8 C (by decide +kernel) rfl rfl ?_
  refine mg_0_1 (idx := 7) 11 C (by decide +kernel) rfl q_992 ?_
  refine zr_iload_n 2 12 C (by decide +kernel) rfl rfl ?_
  refine ml_1 13 C (by decide +kernel) rfl hf (fun hf => ?_)
  refine zr_aload_n 0 14 C (by decide +kernel) rfl rfl ?_
  refine mg_0_2 (idx := 13) 17 C (by decide +kernel) rfl q_993 ?_
  refine zr_iload_n 1 18 C (by decide +kernel) rfl rfl ?_
  refine ml_2 19 C (by decide +kernel) rfl hf (fun hf => ?_)
  refine zr_aload_n 0 20 C (by decide +kernel) rfl rfl ?_
  refine mg_0_2 (idx := 13) 23 C (by decide +kernel) rfl q_993 ?_
  refine zr_iload_n 2 24 C (by decide +kernel) rfl rfl ?_
  refine ml_2 25 C (by decide +kernel) rfl hf (fun hf => ?_)
  refine zr_iadd 26 C (by decide +kernel) rfl ?_
  refine k_M_areNear (idx := 235) 29 C (by decide +kernel) rfl q_1253 (zb2 rfl rfl) (Nat.le_of_ble_eq_true rfl) hf (fun r2 σ1 hf => ?_)
  obtain ⟨hz, hf⟩ := zbo_some hf
  obtain rfl := Option.some.inj hf
  exact zr_zret C (by decide +kernel) hz T
theorem y_M_nearTwo : zY yX11_nearTwo cX11_nearTwo 3 (some .boolean) 2 := ⟨q_1252, q_90, by decide +kernel, by decide +kernel, by decide +kernel⟩
theorem k_M_nearTwo {l : Launch} {d : zD} {F : zF} {h : Nat → Nat} {σ : zS} {lv : List (Option Value)} {pc : Nat} {own : String} {cc : ByteArray} {nL fr lo idx : Nat} {rest : List Value} {β : Type} {kf : Int32 → zS → Option β} {o2 : β}  {p1 : Int32} {p2 : Int32} (pc' : Nat) (C : zOk d F own cc nL fr lo) (hd : decode cc pc = .ok (.invokevirtual idx, 3)) (hp : pc + 3 = pc') (hq : Cond.methodLink own idx yX11_nearTwo ∈ zW) (hm : 3 + 1 ≤ fr ∧ 8 + (3 + 11) + 71 ≤ lo) (hr : (rest.map fun v => v.category).sum ≤ 8) (hf : zbd (f_M_nearTwo p1 p2 σ) kf = some o2) (K : ∀ (r : Int32) (σ' : zS), kf r σ' = some o2 → V l d F 0 0 (MW d h σ') lv pc' (.int r :: rest)) : V l d F 0 0 (MW d h σ) lv pc (.int p2 :: .int p1 :: .ref (h 0) :: rest) := by
  obtain ⟨q, h1, h2⟩ := zbd_some hf
  exact zr_callV y_M_nearTwo ⟨q_1251, q_47⟩ 0 rfl rfl (As := [.int p1, .int p2]) (m_M_nearTwo h1) rfl rfl pc' C hd hp hq hm hr (K _ _ h2)
/-! StepsBeyondModel.near(II)I -/
def f_M_near (p1 : Int32) (p2 : Int32) (σ : zS) : Option (Int32 × zS) :=
  zbd (f_M_isHouse p1 σ) fun r2 σ1 =>
  (if r2 = 0 then
  some (-2, σ1)
  else
  zbd (f_M_isHouse p2 σ1) fun r4 σ3 =>
  (if r4 = 0 then
  some (-2, σ3)
  else
  (if p1 = p2 then
  some (-2, σ3)
  else
  zbd (f_M_nearTwo p1 p2 σ3) fun r6 σ5 =>
  (if r6 = 0 then
  some (0, σ5)
  else
  some (1, σ5)))))
set_option maxRecDepth 4000 in
theorem m_M_near {l : Launch} {d : zD} {h : Nat → Nat} {out : Int32 × zS} {σ : zS} {p1 : Int32} {p2 : Int32} (hf : f_M_near p1 p2 σ = some out) : zM l yX11_near cX11_near 3 (some .int) 4 93 d [.ref (h 0), .int p1, .int p2] (MW d h σ) (MW d h out.2) (some (.int out.1)) := by
  refine zM_of [some (.ref (h 0)), some (.int p1), some (.int p2)] (by decide +kernel) rfl (Nat.le_of_ble_eq_true rfl) (fun F C T => ?_)
  unfold f_M_near at hf
  refine zr_aload_n 0 1 C (by decide +kernel) rfl rfl ?_
  refine zr_iload_n 1 2 C (by decide +kernel) rfl rfl ?_
  refine k_M_isHouse (idx := 154) 5 C (by decide +kernel) rfl q_1188 (zb2 rfl rfl) (Nat.le_of_ble_eq_true rfl) hf (fun r2 σ1 hf => ?_)
  refine zr_if_eq (off := 16) 21 8 C (by decide +kernel) (by decide) rfl hf (fun hf => ?_) (fun hf => ?_)
  · refine zr_bipush (v := (-2)) (-2) 23 C (by decide +kernel) rfl rfl ?_
    obtain rfl := Option.some.inj hf
    exact zr_iret C (by decide +kernel) T
  · refine zr_aload_n 0 9 C (by decide +kernel) rfl rfl ?_
    refine zr_iload_n 2 10 C (by decide +kernel) rfl rfl ?_
    refine k_M_isHouse (idx := 154) 13 C (by decide +kernel) rfl q_1188 (zb2 rfl rfl) (Nat.le_of_ble_eq_true rfl) hf (fun r4 σ3 hf => ?_)
    refine zr_if_eq (off := 8) 21 16 C (by decide +kernel) (by decide) rfl hf (fun hf => ?_) (fun hf => ?_)
    · refine zr_bipush (v := (-2)) (-2) 23 C (by decide +kernel) rfl rfl ?_
      obtain rfl := Option.some.inj hf
      exact zr_iret C (by decide +kernel) T
    · refine zr_iload_n 1 17 C (by decide +kernel) rfl rfl ?_
      refine zr_iload_n 2 18 C (by decide +kernel) rfl rfl ?_
      refine zr_icmp_ne (off := 6) 24 21 C (by decide +kernel) (by decide) rfl hf (fun hf => ?_) (fun hf => ?_)
      · refine zr_aload_n 0 25 C (by decide +kernel) rfl rfl ?_
        refine zr_iload_n 1 26 C (by decide +kernel) rfl rfl ?_
        refine zr_iload_n 2 27 C (by decide +kernel) rfl rfl ?_
        refine k_M_nearTwo (idx := 238) 30 C (by decide +kernel) rfl q_1249 (zb2 rfl rfl) (Nat.le_of_ble_eq_true rfl) hf (fun r6 σ5 hf => ?_)
        refine zr_if_eq (off := 7) 37 33 C (by decide +kernel) (by decide) rfl hf (fun hf => ?_) (fun hf => ?_)
        · refine zr_iconst (v := 0) 0 38 C (by decide +kernel) rfl rfl ?_
          obtain rfl := Option.some.inj hf
          exact zr_iret C (by decide +kernel) T
        · refine zr_iconst (v := 1) 1 34 C (by decide +kernel) rfl rfl ?_
          refine zr_goto (off := 4) 38 C (by decide +kernel) (by decide) ?_
          obtain rfl := Option.some.inj hf
          exact zr_iret C (by decide +kernel) T
      · refine zr_bipush (v := (-2)) (-2) 23 C (by decide +kernel) rfl rfl ?_
        obtain rfl := Option.some.inj hf
        exact zr_iret C (by decide +kernel) T
theorem y_M_near : zY yX11_near cX11_near 3 (some .int) 2 := ⟨q_1248, q_90, by decide +kernel, by decide +kernel, by decide +kernel⟩
theorem k_M_near {l : Launch} {d : zD} {F : zF} {h : Nat → Nat} {σ : zS} {lv : List (Option Value)} {pc : Nat} {own : String} {cc : ByteArray} {nL fr lo idx : Nat} {rest : List Value} {β : Type} {kf : Int32 → zS → Option β} {o2 : β}  {p1 : Int32} {p2 : Int32} (pc' : Nat) (C : zOk d F own cc nL fr lo) (hd : decode cc pc = .ok (.invokevirtual idx, 3)) (hp : pc + 3 = pc') (hq : Cond.methodLink own idx yX11_near ∈ zW) (hm : 4 + 1 ≤ fr ∧ 8 + (3 + 11) + 93 ≤ lo) (hr : (rest.map fun v => v.category).sum ≤ 8) (hf : zbd (f_M_near p1 p2 σ) kf = some o2) (K : ∀ (r : Int32) (σ' : zS), kf r σ' = some o2 → V l d F 0 0 (MW d h σ') lv pc' (.int r :: rest)) : V l d F 0 0 (MW d h σ) lv pc (.int p2 :: .int p1 :: .ref (h 0) :: rest) := by
  obtain ⟨q, h1, h2⟩ := zbd_some hf
  exact zr_callV y_M_near ⟨q_1246, q_1247⟩ 0 rfl rfl (As := [.int p1, .int p2]) (m_M_near h1) rfl rfl pc' C hd hp hq hm hr (K _ _ h2)
/-! StepsBeyondModel.farBy(I)I -/
def f_M_farBy (p1 : Int32) (σ : zS) : Option (Int32 × zS) :=
  zin 0 6 (zlt (zsa σ 25 0 0) fun σ1 =>
  zin 1 6 (zlt (zsa σ1 25 1 0) fun σ2 =>
  zin 2 6 (zlt (zsa σ2 25 2 0) fun σ3 =>
  zin 3 6 (zlt (zsa σ3 25 3 (σ3.1 0)) fun σ4 =>
  zin 4 6 (zlt (zsa σ4 25 4 p1) fun σ5 =>
  zin 5 6 (zlt (zsa σ5 25 5 (σ5.1 8)) fun σ6 =>
  zbd (f_M_worth 1 σ6) fun r8 σ7 =>
  (if 0 ≤ r8 then
  (if r8 ≤ 50 then
  some (r8, σ7)
  else
  some (50, σ7))
  else
  some (0, σ7))))))))
set_option maxRecDepth 4000 in
theorem m_M_farBy {l : Launch} {d : zD} {h : Nat → Nat} {out : Int32 × zS} {σ : zS} {p1 : Int32} (hf : f_M_farBy p1 σ = some out) : zM l yX11_farBy cX11_farBy 3 (some .int) 2 46 d [.ref (h 0), .int p1] (MW d h σ) (MW d h out.2) (some (.int out.1)) := by
  refine zM_of [some (.ref (h 0)), some (.int p1), none] (by decide +kernel) rfl (Nat.le_of_ble_eq_true rfl) (fun F C T => ?_)
  unfold f_M_farBy at hf
  refine zr_aload_n 0 1 C (by decide +kernel) rfl rfl ?_
  refine mg_0_45 (idx := 109) 4 C (by decide +kernel) rfl q_1036 ?_
  refine zr_iconst (v := 0) 0 5 C (by decide +kernel) rfl rfl ?_
  refine zr_iconst (v := 0) 0 6 C (by decide +kernel) rfl rfl ?_
  refine ms_25 7 C (by decide +kernel) rfl hf (fun σ1 hf => ?_)
  refine zr_aload_n 0 8 C (by decide +kernel) rfl rfl ?_
  refine mg_0_45 (idx := 109) 11 C (by decide +kernel) rfl q_1036 ?_
  refine zr_iconst (v := 1) 1 12 C (by decide +kernel) rfl rfl ?_
  refine zr_iconst (v := 0) 0 13 C (by decide +kernel) rfl rfl ?_
  refine ms_25 14 C (by decide +kernel) rfl hf (fun σ2 hf => ?_)
  refine zr_aload_n 0 15 C (by decide +kernel) rfl rfl ?_
  refine mg_0_45 (idx := 109) 18 C (by decide +kernel) rfl q_1036 ?_
  refine zr_iconst (v := 2) 2 19 C (by decide +kernel) rfl rfl ?_
  refine zr_iconst (v := 0) 0 20 C (by decide +kernel) rfl rfl ?_
  refine ms_25 21 C (by decide +kernel) rfl hf (fun σ3 hf => ?_)
  refine zr_aload_n 0 22 C (by decide +kernel) rfl rfl ?_
  refine mg_0_45 (idx := 109) 25 C (by decide +kernel) rfl q_1036 ?_
  refine zr_iconst (v := 3) 3 26 C (by decide +kernel) rfl rfl ?_
  refine zr_aload_n 0 27 C (by decide +kernel) rfl rfl ?_
  refine mg_0_0 (idx := 143) 30 C (by decide +kernel) rfl q_991 ?_
  refine ms_25 31 C (by decide +kernel) rfl hf (fun σ4 hf => ?_)
  refine zr_aload_n 0 32 C (by decide +kernel) rfl rfl ?_
  refine mg_0_45 (idx := 109) 35 C (by decide +kernel) rfl q_1036 ?_
  refine zr_iconst (v := 4) 4 36 C (by decide +kernel) rfl rfl ?_
  refine zr_iload_n 1 37 C (by decide +kernel) rfl rfl ?_
  refine ms_25 38 C (by decide +kernel) rfl hf (fun σ5 hf => ?_)
  refine zr_aload_n 0 39 C (by decide +kernel) rfl rfl ?_
  refine mg_0_45 (idx := 109) 42 C (by decide +kernel) rfl q_1036 ?_
  refine zr_iconst (v := 5) 5 43 C (by decide +kernel) rfl rfl ?_
  refine zr_aload_n 0 44 C (by decide +kernel) rfl rfl ?_
  refine mg_0_8 (idx := 229) 47 C (by decide +kernel) rfl q_999 ?_
  refine ms_25 48 C (by decide +kernel) rfl hf (fun σ6 hf => ?_)
  refine zr_aload_n 0 49 C (by decide +kernel) rfl rfl ?_
  refine zr_iconst (v := 1) 1 50 C (by decide +kernel) rfl rfl ?_
  refine k_M_worth (idx := 232) 53 C (by decide +kernel) rfl q_1263 (zb2 rfl rfl) (Nat.le_of_ble_eq_true rfl) hf (fun r8 σ7 hf => ?_)
  refine zr_istore_n 2 [some (.ref (h 0)), some (.int p1), some (.int r8)] 54 C (by decide +kernel) rfl (by decide) rfl rfl ?_
  refine zr_iload_n 2 55 C (by decide +kernel) rfl rfl ?_
  refine zr_if_ge (off := 7) 62 58 C (by decide +kernel) (by decide) rfl hf (fun hf => ?_) (fun hf => ?_)
  · refine zr_iload_n 2 63 C (by decide +kernel) rfl rfl ?_
    refine zr_bipush (v := 50) 50 65 C (by decide +kernel) rfl rfl ?_
    refine zr_icmp_le (off := 8) 73 68 C (by decide +kernel) (by decide) rfl hf (fun hf => ?_) (fun hf => ?_)
    · refine zr_iload_n 2 74 C (by decide +kernel) rfl rfl ?_
      obtain rfl := Option.some.inj hf
      exact zr_iret C (by decide +kernel) T
    · refine zr_bipush (v := 50) 50 70 C (by decide +kernel) rfl rfl ?_
      refine zr_goto (off := 4) 74 C (by decide +kernel) (by decide) ?_
      obtain rfl := Option.some.inj hf
      exact zr_iret C (by decide +kernel) T
  · refine zr_iconst (v := 0) 0 59 C (by decide +kernel) rfl rfl ?_
    refine zr_goto (off := 15) 74 C (by decide +kernel) (by decide) ?_
    obtain rfl := Option.some.inj hf
    exact zr_iret C (by decide +kernel) T
theorem y_M_farBy : zY yX11_farBy cX11_farBy 3 (some .int) 1 := ⟨q_1277, q_90, by decide +kernel, by decide +kernel, by decide +kernel⟩
theorem k_M_farBy {l : Launch} {d : zD} {F : zF} {h : Nat → Nat} {σ : zS} {lv : List (Option Value)} {pc : Nat} {own : String} {cc : ByteArray} {nL fr lo idx : Nat} {rest : List Value} {β : Type} {kf : Int32 → zS → Option β} {o2 : β}  {p1 : Int32} (pc' : Nat) (C : zOk d F own cc nL fr lo) (hd : decode cc pc = .ok (.invokevirtual idx, 3)) (hp : pc + 3 = pc') (hq : Cond.methodLink own idx yX11_farBy ∈ zW) (hm : 2 + 1 ≤ fr ∧ 8 + (3 + 11) + 46 ≤ lo) (hr : (rest.map fun v => v.category).sum ≤ 8) (hf : zbd (f_M_farBy p1 σ) kf = some o2) (K : ∀ (r : Int32) (σ' : zS), kf r σ' = some o2 → V l d F 0 0 (MW d h σ') lv pc' (.int r :: rest)) : V l d F 0 0 (MW d h σ) lv pc (.int p1 :: .ref (h 0) :: rest) := by
  obtain ⟨q, h1, h2⟩ := zbd_some hf
  exact zr_callV y_M_farBy ⟨q_1276, q_50⟩ 0 rfl rfl (As := [.int p1]) (m_M_farBy h1) rfl rfl pc' C hd hp hq hm hr (K _ _ h2)
/-! StepsBeyondModel.far(I)I -/
def f_M_far (p1 : Int32) (σ : zS) : Option (Int32 × zS) :=
  zbd (f_M_in p1 0 1 σ) fun r2 σ1 =>
  (if r2 = 0 then
  some (-2, σ1)
  else
  zbd (f_M_farBy p1 σ1) fun r4 σ3 =>
  some (r4, σ3))
set_option maxRecDepth 4000 in
theorem m_M_far {l : Launch} {d : zD} {h : Nat → Nat} {out : Int32 × zS} {σ : zS} {p1 : Int32} (hf : f_M_far p1 σ = some out) : zM l yX11_far cX11_far 2 (some .int) 3 68 d [.ref (h 0), .int p1] (MW d h σ) (MW d h out.2) (some (.int out.1)) := by
  refine zM_of [some (.ref (h 0)), some (.int p1)] (by decide +kernel) rfl (Nat.le_of_ble_eq_true rfl) (fun F C T => ?_)
  unfold f_M_far at hf
  refine zr_iload_n 1 1 C (by decide +kernel) rfl rfl ?_
  refine zr_iconst (v := 0) 0 2 C (by decide +kernel) rfl rfl ?_
  refine zr_iconst (v := 1) 1 3 C (by decide +kernel) rfl rfl ?_
  refine k_M_in (idx := 139) 6 C (by decide +kernel) rfl q_1181 (zb2 rfl rfl) (Nat.le_of_ble_eq_true rfl) hf (fun r2 σ1 hf => ?_)
  refine zr_if_eq (off := 11) 17 9 C (by decide +kernel) (by decide) rfl hf (fun hf => ?_) (fun hf => ?_)
  · refine zr_bipush (v := (-2)) (-2) 19 C (by decide +kernel) rfl rfl ?_
    obtain rfl := Option.some.inj hf
    exact zr_iret C (by decide +kernel) T
  · refine zr_aload_n 0 10 C (by decide +kernel) rfl rfl ?_
    refine zr_iload_n 1 11 C (by decide +kernel) rfl rfl ?_
    refine k_M_farBy (idx := 242) 14 C (by decide +kernel) rfl q_1274 (zb2 rfl rfl) (Nat.le_of_ble_eq_true rfl) hf (fun r4 σ3 hf => ?_)
    refine zr_goto (off := 5) 19 C (by decide +kernel) (by decide) ?_
    obtain rfl := Option.some.inj hf
    exact zr_iret C (by decide +kernel) T
theorem y_M_far : zY yX11_far cX11_far 2 (some .int) 1 := ⟨q_1273, q_90, by decide +kernel, by decide +kernel, by decide +kernel⟩
theorem k_M_far {l : Launch} {d : zD} {F : zF} {h : Nat → Nat} {σ : zS} {lv : List (Option Value)} {pc : Nat} {own : String} {cc : ByteArray} {nL fr lo idx : Nat} {rest : List Value} {β : Type} {kf : Int32 → zS → Option β} {o2 : β}  {p1 : Int32} (pc' : Nat) (C : zOk d F own cc nL fr lo) (hd : decode cc pc = .ok (.invokevirtual idx, 3)) (hp : pc + 3 = pc') (hq : Cond.methodLink own idx yX11_far ∈ zW) (hm : 3 + 1 ≤ fr ∧ 8 + (2 + 11) + 68 ≤ lo) (hr : (rest.map fun v => v.category).sum ≤ 8) (hf : zbd (f_M_far p1 σ) kf = some o2) (K : ∀ (r : Int32) (σ' : zS), kf r σ' = some o2 → V l d F 0 0 (MW d h σ') lv pc' (.int r :: rest)) : V l d F 0 0 (MW d h σ) lv pc (.int p1 :: .ref (h 0) :: rest) := by
  obtain ⟨q, h1, h2⟩ := zbd_some hf
  exact zr_callV y_M_far ⟨q_1271, q_1272⟩ 0 rfl rfl (As := [.int p1]) (m_M_far h1) rfl rfl pc' C hd hp hq hm hr (K _ _ h2)
/-! StepsBeyondModel.reached(II)I -/
def f_M_reached_113 (k7 : Int32 → Int32 → Int32 → zS → Option (Int32 × zS)) (k16 : Int32 → Int32 → Int32 → Int32 → zS → Option (Int32 × zS)) (x2 : Int32) (x3 : Int32) (x4 : Int32) (x5 : Int32) (σ : zS) : Option (Int32 × zS) :=
  k16 x2 x3 x4 (x5 + 1) σ
set_option maxRecDepth 4000 in
theorem w_M_reached_113 {l : Launch} {d : zD} {F : zF} {h : Nat → Nat} {out : Int32 × zS}  {k7 : Int32 → Int32 → Int32 → zS → Option (Int32 × zS)} {k16 : Int32 → Int32 → Int32 → Int32 → zS → Option (Int32 × zS)} (C : zOk d F RX11 cX11_reached 7 4 93) (T : zRt d F (some .int) (some (.int out.1)) (MW d h out.2)) (H7 : ∀ (x2 : Int32) (x3 : Int32) (x4 : Int32) (σ : zS), k7 x2 x3 x4 σ = some out → V l d F 0 0 (MW d h σ) [some (.ref (h 0)), none, some (.int x2), some (.int x3), some (.int x4), none, none] 7 []) (H16 : ∀ (x2 : Int32) (x3 : Int32) (x4 : Int32) (x5 : Int32) (σ : zS), k16 x2 x3 x4 x5 σ = some out → V l d F 0 0 (MW d h σ) [some (.ref (h 0)), none, some (.int x2), some (.int x3), some (.int x4), some (.int x5), none] 16 []) (x2 : Int32) (x3 : Int32) (x4 : Int32) (x5 : Int32) (σ : zS) (hf : f_M_reached_113 k7 k16 x2 x3 x4 x5 σ = some out) : V l d F 0 0 (MW d h σ) [some (.ref (h 0)), none, some (.int x2), some (.int x3), some (.int x4), some (.int x5), none] 113 [] := by
  unfold f_M_reached_113 at hf
  refine zr_iinc (j := 1) 5 [some (.ref (h 0)), none, some (.int x2), some (.int x3), some (.int x4), some (.int (x5 + 1)), none] 116 C (by decide +kernel) rfl rfl rfl (by decide) rfl rfl ?_
  refine zr_goto (off := -100) 16 C (by decide +kernel) (by decide) ?_
  exact H16 _ _ _ _ _ hf
def f_M_reached_107 (k7 : Int32 → Int32 → Int32 → zS → Option (Int32 × zS)) (k16 : Int32 → Int32 → Int32 → Int32 → zS → Option (Int32 × zS)) (k57 : Int32 → Int32 → Int32 → Int32 → Int32 → zS → Option (Int32 × zS)) (x2 : Int32) (x3 : Int32) (x4 : Int32) (x5 : Int32) (x6 : Int32) (σ : zS) : Option (Int32 × zS) :=
  k57 x2 x3 x4 x5 (x6 + 1) σ
set_option maxRecDepth 4000 in
theorem w_M_reached_107 {l : Launch} {d : zD} {F : zF} {h : Nat → Nat} {out : Int32 × zS}  {k7 : Int32 → Int32 → Int32 → zS → Option (Int32 × zS)} {k16 : Int32 → Int32 → Int32 → Int32 → zS → Option (Int32 × zS)} {k57 : Int32 → Int32 → Int32 → Int32 → Int32 → zS → Option (Int32 × zS)} (C : zOk d F RX11 cX11_reached 7 4 93) (T : zRt d F (some .int) (some (.int out.1)) (MW d h out.2)) (H7 : ∀ (x2 : Int32) (x3 : Int32) (x4 : Int32) (σ : zS), k7 x2 x3 x4 σ = some out → V l d F 0 0 (MW d h σ) [some (.ref (h 0)), none, some (.int x2), some (.int x3), some (.int x4), none, none] 7 []) (H16 : ∀ (x2 : Int32) (x3 : Int32) (x4 : Int32) (x5 : Int32) (σ : zS), k16 x2 x3 x4 x5 σ = some out → V l d F 0 0 (MW d h σ) [some (.ref (h 0)), none, some (.int x2), some (.int x3), some (.int x4), some (.int x5), none] 16 []) (H57 : ∀ (x2 : Int32) (x3 : Int32) (x4 : Int32) (x5 : Int32) (x6 : Int32) (σ : zS), k57 x2 x3 x4 x5 x6 σ = some out → V l d F 0 0 (MW d h σ) [some (.ref (h 0)), none, some (.int x2), some (.int x3), some (.int x4), some (.int x5), some (.int x6)] 57 []) (x2 : Int32) (x3 : Int32) (x4 : Int32) (x5 : Int32) (x6 : Int32) (σ : zS) (hf : f_M_reached_107 k7 k16 k57 x2 x3 x4 x5 x6 σ = some out) : V l d F 0 0 (MW d h σ) [some (.ref (h 0)), none, some (.int x2), some (.int x3), some (.int x4), some (.int x5), some (.int x6)] 107 [] := by
  unfold f_M_reached_107 at hf
  refine zr_iinc (j := 1) 6 [some (.ref (h 0)), none, some (.int x2), some (.int x3), some (.int x4), some (.int x5), some (.int (x6 + 1))] 110 C (by decide +kernel) rfl rfl rfl (by decide) rfl rfl ?_
  refine zr_goto (off := -53) 57 C (by decide +kernel) (by decide) ?_
  exact H57 _ _ _ _ _ _ hf
def f_M_reached_105 (k7 : Int32 → Int32 → Int32 → zS → Option (Int32 × zS)) (k16 : Int32 → Int32 → Int32 → Int32 → zS → Option (Int32 × zS)) (k57 : Int32 → Int32 → Int32 → Int32 → Int32 → zS → Option (Int32 × zS)) (x2 : Int32) (x4 : Int32) (x5 : Int32) (x6 : Int32) (y0 : Int32) (y1 : Int32) (σ : zS) : Option (Int32 × zS) :=
  zlt (y0 ||| y1) fun v1 => 
  f_M_reached_107 k7 k16 k57 x2 v1 x4 x5 x6 σ
set_option maxRecDepth 4000 in
theorem w_M_reached_105 {l : Launch} {d : zD} {F : zF} {h : Nat → Nat} {out : Int32 × zS}  {k7 : Int32 → Int32 → Int32 → zS → Option (Int32 × zS)} {k16 : Int32 → Int32 → Int32 → Int32 → zS → Option (Int32 × zS)} {k57 : Int32 → Int32 → Int32 → Int32 → Int32 → zS → Option (Int32 × zS)} (C : zOk d F RX11 cX11_reached 7 4 93) (T : zRt d F (some .int) (some (.int out.1)) (MW d h out.2)) (H7 : ∀ (x2 : Int32) (x3 : Int32) (x4 : Int32) (σ : zS), k7 x2 x3 x4 σ = some out → V l d F 0 0 (MW d h σ) [some (.ref (h 0)), none, some (.int x2), some (.int x3), some (.int x4), none, none] 7 []) (H16 : ∀ (x2 : Int32) (x3 : Int32) (x4 : Int32) (x5 : Int32) (σ : zS), k16 x2 x3 x4 x5 σ = some out → V l d F 0 0 (MW d h σ) [some (.ref (h 0)), none, some (.int x2), some (.int x3), some (.int x4), some (.int x5), none] 16 []) (H57 : ∀ (x2 : Int32) (x3 : Int32) (x4 : Int32) (x5 : Int32) (x6 : Int32) (σ : zS), k57 x2 x3 x4 x5 x6 σ = some out → V l d F 0 0 (MW d h σ) [some (.ref (h 0)), none, some (.int x2), some (.int x3), some (.int x4), some (.int x5), some (.int x6)] 57 []) (x2 : Int32) (x4 : Int32) (x5 : Int32) (x6 : Int32) (y0 : Int32) (y1 : Int32) (σ : zS) (hf : f_M_reached_105 k7 k16 k57 x2 x4 x5 x6 y0 y1 σ = some out) : V l d F 0 0 (MW d h σ) [some (.ref (h 0)), none, some (.int x2), none, some (.int x4), some (.int x5), some (.int x6)] 105 [.int y1, .int y0] := by
  unfold f_M_reached_105 at hf
  refine zr_ior 106 C (by decide +kernel) rfl ?_
  refine zr_name hf (fun v1 hf => ?_)
  refine zr_istore_n 3 [some (.ref (h 0)), none, some (.int x2), some (.int v1), some (.int x4), some (.int x5), some (.int x6)] 107 C (by decide +kernel) rfl (by decide) rfl rfl ?_
  exact w_M_reached_107 C T H7 H16 H57 _ _ _ _ _ _ hf
def f_M_reached_57b (k7 : Int32 → Int32 → Int32 → zS → Option (Int32 × zS)) (k16 : Int32 → Int32 → Int32 → Int32 → zS → Option (Int32 × zS)) (k57 : Int32 → Int32 → Int32 → Int32 → Int32 → zS → Option (Int32 × zS)) (x2 : Int32) (x3 : Int32) (x4 : Int32) (x5 : Int32) (x6 : Int32) (σ : zS) : Option (Int32 × zS) :=
  (if (σ.1 0) ≤ x6 then
  f_M_reached_113 k7 k16 x2 x3 x4 x5 σ
  else
  (if ((zshr x2 x6) &&& 1) = 1 then
  (if ((zshr x3 x6) &&& 1) = 0 then
  zbd (f_M_nearTwo x5 x6 σ) fun r2 σ1 =>
  (if r2 = 0 then
  f_M_reached_105 k7 k16 k57 x2 x4 x5 x6 x3 0 σ1
  else
  f_M_reached_105 k7 k16 k57 x2 x4 x5 x6 x3 (zshl 1 x6) σ1)
  else
  f_M_reached_107 k7 k16 k57 x2 x3 x4 x5 x6 σ)
  else
  f_M_reached_107 k7 k16 k57 x2 x3 x4 x5 x6 σ))
set_option maxRecDepth 4000 in
theorem w_M_reached_57b {l : Launch} {d : zD} {F : zF} {h : Nat → Nat} {out : Int32 × zS}  {k7 : Int32 → Int32 → Int32 → zS → Option (Int32 × zS)} {k16 : Int32 → Int32 → Int32 → Int32 → zS → Option (Int32 × zS)} {k57 : Int32 → Int32 → Int32 → Int32 → Int32 → zS → Option (Int32 × zS)} (C : zOk d F RX11 cX11_reached 7 4 93) (T : zRt d F (some .int) (some (.int out.1)) (MW d h out.2)) (H7 : ∀ (x2 : Int32) (x3 : Int32) (x4 : Int32) (σ : zS), k7 x2 x3 x4 σ = some out → V l d F 0 0 (MW d h σ) [some (.ref (h 0)), none, some (.int x2), some (.int x3), some (.int x4), none, none] 7 []) (H16 : ∀ (x2 : Int32) (x3 : Int32) (x4 : Int32) (x5 : Int32) (σ : zS), k16 x2 x3 x4 x5 σ = some out → V l d F 0 0 (MW d h σ) [some (.ref (h 0)), none, some (.int x2), some (.int x3), some (.int x4), some (.int x5), none] 16 []) (H57 : ∀ (x2 : Int32) (x3 : Int32) (x4 : Int32) (x5 : Int32) (x6 : Int32) (σ : zS), k57 x2 x3 x4 x5 x6 σ = some out → V l d F 0 0 (MW d h σ) [some (.ref (h 0)), none, some (.int x2), some (.int x3), some (.int x4), some (.int x5), some (.int x6)] 57 []) (x2 : Int32) (x3 : Int32) (x4 : Int32) (x5 : Int32) (x6 : Int32) (σ : zS) (hf : f_M_reached_57b k7 k16 k57 x2 x3 x4 x5 x6 σ = some out) : V l d F 0 0 (MW d h σ) [some (.ref (h 0)), none, some (.int x2), some (.int x3), some (.int x4), some (.int x5), some (.int x6)] 57 [] := by
  unfold f_M_reached_57b at hf
  refine zr_iload 6 59 C (by decide +kernel) rfl rfl ?_
  refine zr_aload_n 0 60 C (by decide +kernel) rfl rfl ?_
  refine mg_0_0 (idx := 143) 63 C (by decide +kernel) rfl q_991 ?_
  refine zr_icmp_ge (off := 50) 113 66 C (by decide +kernel) (by decide) rfl hf (fun hf => ?_) (fun hf => ?_)
  · refine zr_less (zA (zN (zA (zA (zA (zA (zN zE))))))) ?_
    exact w_M_reached_113 C T H7 H16 _ _ _ _ _ hf
  · refine zr_iload_n 2 67 C (by decide +kernel) rfl rfl ?_
    refine zr_iload 6 69 C (by decide +kernel) rfl rfl ?_
    refine zr_ishr 70 C (by decide +kernel) rfl ?_
    refine zr_iconst (v := 1) 1 71 C (by decide +kernel) rfl rfl ?_
    refine zr_iand 72 C (by decide +kernel) rfl ?_
    refine zr_iconst (v := 1) 1 73 C (by decide +kernel) rfl rfl ?_
    refine zr_icmp_ne (off := 34) 107 76 C (by decide +kernel) (by decide) rfl hf (fun hf => ?_) (fun hf => ?_)
    · exact w_M_reached_107 C T H7 H16 H57 _ _ _ _ _ _ hf
    · refine zr_iload_n 3 77 C (by decide +kernel) rfl rfl ?_
      refine zr_iload 6 79 C (by decide +kernel) rfl rfl ?_
      refine zr_ishr 80 C (by decide +kernel) rfl ?_
      refine zr_iconst (v := 1) 1 81 C (by decide +kernel) rfl rfl ?_
      refine zr_iand 82 C (by decide +kernel) rfl ?_
      refine zr_if_ne (off := 25) 107 85 C (by decide +kernel) (by decide) rfl hf (fun hf => ?_) (fun hf => ?_)
      · exact w_M_reached_107 C T H7 H16 H57 _ _ _ _ _ _ hf
      · refine zr_iload_n 3 86 C (by decide +kernel) rfl rfl ?_
        refine zr_aload_n 0 87 C (by decide +kernel) rfl rfl ?_
        refine zr_iload 5 89 C (by decide +kernel) rfl rfl ?_
        refine zr_iload 6 91 C (by decide +kernel) rfl rfl ?_
        refine k_M_nearTwo (idx := 238) 94 C (by decide +kernel) rfl q_1249 (zb2 rfl rfl) (Nat.le_of_ble_eq_true rfl) hf (fun r2 σ1 hf => ?_)
        refine zr_if_eq (off := 10) 104 97 C (by decide +kernel) (by decide) rfl hf (fun hf => ?_) (fun hf => ?_)
        · refine zr_iconst (v := 0) 0 105 C (by decide +kernel) rfl rfl ?_
          refine zr_less (zA (zN (zA (zN (zA (zA (zA zE))))))) ?_
          exact w_M_reached_105 C T H7 H16 H57 _ _ _ _ _ _ _ hf
        · refine zr_iconst (v := 1) 1 98 C (by decide +kernel) rfl rfl ?_
          refine zr_iload 6 100 C (by decide +kernel) rfl rfl ?_
          refine zr_ishl 101 C (by decide +kernel) rfl ?_
          refine zr_goto (off := 4) 105 C (by decide +kernel) (by decide) ?_
          refine zr_less (zA (zN (zA (zN (zA (zA (zA zE))))))) ?_
          exact w_M_reached_105 C T H7 H16 H57 _ _ _ _ _ _ _ hf
def f_M_reached_57 (k7 : Int32 → Int32 → Int32 → zS → Option (Int32 × zS)) (k16 : Int32 → Int32 → Int32 → Int32 → zS → Option (Int32 × zS)) : Nat → Int32 → Int32 → Int32 → Int32 → Int32 → zS → Option (Int32 × zS)
  | 0, _, _, _, _, _, _ => none
  | n + 1, x2, x3, x4, x5, x6,  σ => f_M_reached_57b k7 k16 (fun x2 x3 x4 x5 x6 σ => f_M_reached_57 k7 k16 n x2 x3 x4 x5 x6 σ) x2 x3 x4 x5 x6 σ
theorem w_M_reached_57 {l : Launch} {d : zD} {F : zF} {h : Nat → Nat} {out : Int32 × zS}  {k7 : Int32 → Int32 → Int32 → zS → Option (Int32 × zS)} {k16 : Int32 → Int32 → Int32 → Int32 → zS → Option (Int32 × zS)} (C : zOk d F RX11 cX11_reached 7 4 93) (T : zRt d F (some .int) (some (.int out.1)) (MW d h out.2)) (H7 : ∀ (x2 : Int32) (x3 : Int32) (x4 : Int32) (σ : zS), k7 x2 x3 x4 σ = some out → V l d F 0 0 (MW d h σ) [some (.ref (h 0)), none, some (.int x2), some (.int x3), some (.int x4), none, none] 7 []) (H16 : ∀ (x2 : Int32) (x3 : Int32) (x4 : Int32) (x5 : Int32) (σ : zS), k16 x2 x3 x4 x5 σ = some out → V l d F 0 0 (MW d h σ) [some (.ref (h 0)), none, some (.int x2), some (.int x3), some (.int x4), some (.int x5), none] 16 []) : ∀ (n : Nat) (x2 : Int32) (x3 : Int32) (x4 : Int32) (x5 : Int32) (x6 : Int32) (σ : zS), f_M_reached_57 k7 k16 n x2 x3 x4 x5 x6 σ = some out → V l d F 0 0 (MW d h σ) [some (.ref (h 0)), none, some (.int x2), some (.int x3), some (.int x4), some (.int x5), some (.int x6)] 57 [] := by
  intro n
  induction n with
  | zero =>
    intro x2 x3 x4 x5 x6 σ hf
    cases hf
  | succ n ih =>
    intro x2 x3 x4 x5 x6 σ hf
    exact w_M_reached_57b C T H7 H16 ih x2 x3 x4 x5 x6 σ hf
def f_M_reached_16b (k7 : Int32 → Int32 → Int32 → zS → Option (Int32 × zS)) (k16 : Int32 → Int32 → Int32 → Int32 → zS → Option (Int32 × zS)) (x2 : Int32) (x3 : Int32) (x4 : Int32) (x5 : Int32) (σ : zS) : Option (Int32 × zS) :=
  (if (σ.1 0) ≤ x5 then
  k7 x2 x3 x4 σ
  else
  (if ((zshr x3 x5) &&& 1) = 1 then
  (if ((zshr x4 x5) &&& 1) = 0 then
  zlt (x4 ||| (zshl 1 x5)) fun v1 => 
  f_M_reached_57 k7 k16 zfu x2 x3 v1 x5 0 σ
  else
  f_M_reached_113 k7 k16 x2 x3 x4 x5 σ)
  else
  f_M_reached_113 k7 k16 x2 x3 x4 x5 σ))
set_option maxRecDepth 4000 in
theorem w_M_reached_16b {l : Launch} {d : zD} {F : zF} {h : Nat → Nat} {out : Int32 × zS}  {k7 : Int32 → Int32 → Int32 → zS → Option (Int32 × zS)} {k16 : Int32 → Int32 → Int32 → Int32 → zS → Option (Int32 × zS)} (C : zOk d F RX11 cX11_reached 7 4 93) (T : zRt d F (some .int) (some (.int out.1)) (MW d h out.2)) (H7 : ∀ (x2 : Int32) (x3 : Int32) (x4 : Int32) (σ : zS), k7 x2 x3 x4 σ = some out → V l d F 0 0 (MW d h σ) [some (.ref (h 0)), none, some (.int x2), some (.int x3), some (.int x4), none, none] 7 []) (H16 : ∀ (x2 : Int32) (x3 : Int32) (x4 : Int32) (x5 : Int32) (σ : zS), k16 x2 x3 x4 x5 σ = some out → V l d F 0 0 (MW d h σ) [some (.ref (h 0)), none, some (.int x2), some (.int x3), some (.int x4), some (.int x5), none] 16 []) (x2 : Int32) (x3 : Int32) (x4 : Int32) (x5 : Int32) (σ : zS) (hf : f_M_reached_16b k7 k16 x2 x3 x4 x5 σ = some out) : V l d F 0 0 (MW d h σ) [some (.ref (h 0)), none, some (.int x2), some (.int x3), some (.int x4), some (.int x5), none] 16 [] := by
  unfold f_M_reached_16b at hf
  refine zr_iload 5 18 C (by decide +kernel) rfl rfl ?_
  refine zr_aload_n 0 19 C (by decide +kernel) rfl rfl ?_
  refine mg_0_0 (idx := 143) 22 C (by decide +kernel) rfl q_991 ?_
  refine zr_icmp_ge (off := 97) 119 25 C (by decide +kernel) (by decide) rfl hf (fun hf => ?_) (fun hf => ?_)
  · refine zr_goto (off := -112) 7 C (by decide +kernel) (by decide) ?_
    refine zr_less (zA (zN (zA (zA (zA (zN (zN zE))))))) ?_
    exact H7 _ _ _ _ hf
  · refine zr_iload_n 3 26 C (by decide +kernel) rfl rfl ?_
    refine zr_iload 5 28 C (by decide +kernel) rfl rfl ?_
    refine zr_ishr 29 C (by decide +kernel) rfl ?_
    refine zr_iconst (v := 1) 1 30 C (by decide +kernel) rfl rfl ?_
    refine zr_iand 31 C (by decide +kernel) rfl ?_
    refine zr_iconst (v := 1) 1 32 C (by decide +kernel) rfl rfl ?_
    refine zr_icmp_ne (off := 81) 113 35 C (by decide +kernel) (by decide) rfl hf (fun hf => ?_) (fun hf => ?_)
    · exact w_M_reached_113 C T H7 H16 _ _ _ _ _ hf
    · refine zr_iload 4 37 C (by decide +kernel) rfl rfl ?_
      refine zr_iload 5 39 C (by decide +kernel) rfl rfl ?_
      refine zr_ishr 40 C (by decide +kernel) rfl ?_
      refine zr_iconst (v := 1) 1 41 C (by decide +kernel) rfl rfl ?_
      refine zr_iand 42 C (by decide +kernel) rfl ?_
      refine zr_if_ne (off := 71) 113 45 C (by decide +kernel) (by decide) rfl hf (fun hf => ?_) (fun hf => ?_)
      · exact w_M_reached_113 C T H7 H16 _ _ _ _ _ hf
      · refine zr_iload 4 47 C (by decide +kernel) rfl rfl ?_
        refine zr_iconst (v := 1) 1 48 C (by decide +kernel) rfl rfl ?_
        refine zr_iload 5 50 C (by decide +kernel) rfl rfl ?_
        refine zr_ishl 51 C (by decide +kernel) rfl ?_
        refine zr_ior 52 C (by decide +kernel) rfl ?_
        refine zr_name hf (fun v1 hf => ?_)
        refine zr_istore 4 [some (.ref (h 0)), none, some (.int x2), some (.int x3), some (.int v1), some (.int x5), none] 54 C (by decide +kernel) rfl (by decide) rfl rfl ?_
        refine zr_iconst (v := 0) 0 55 C (by decide +kernel) rfl rfl ?_
        refine zr_istore 6 [some (.ref (h 0)), none, some (.int x2), some (.int x3), some (.int v1), some (.int x5), some (.int 0)] 57 C (by decide +kernel) rfl (by decide) rfl rfl ?_
        exact w_M_reached_57 C T H7 H16 zfu _ _ _ _ _ _ hf
def f_M_reached_16 (k7 : Int32 → Int32 → Int32 → zS → Option (Int32 × zS)) : Nat → Int32 → Int32 → Int32 → Int32 → zS → Option (Int32 × zS)
  | 0, _, _, _, _, _ => none
  | n + 1, x2, x3, x4, x5,  σ => f_M_reached_16b k7 (fun x2 x3 x4 x5 σ => f_M_reached_16 k7 n x2 x3 x4 x5 σ) x2 x3 x4 x5 σ
theorem w_M_reached_16 {l : Launch} {d : zD} {F : zF} {h : Nat → Nat} {out : Int32 × zS}  {k7 : Int32 → Int32 → Int32 → zS → Option (Int32 × zS)} (C : zOk d F RX11 cX11_reached 7 4 93) (T : zRt d F (some .int) (some (.int out.1)) (MW d h out.2)) (H7 : ∀ (x2 : Int32) (x3 : Int32) (x4 : Int32) (σ : zS), k7 x2 x3 x4 σ = some out → V l d F 0 0 (MW d h σ) [some (.ref (h 0)), none, some (.int x2), some (.int x3), some (.int x4), none, none] 7 []) : ∀ (n : Nat) (x2 : Int32) (x3 : Int32) (x4 : Int32) (x5 : Int32) (σ : zS), f_M_reached_16 k7 n x2 x3 x4 x5 σ = some out → V l d F 0 0 (MW d h σ) [some (.ref (h 0)), none, some (.int x2), some (.int x3), some (.int x4), some (.int x5), none] 16 [] := by
  intro n
  induction n with
  | zero =>
    intro x2 x3 x4 x5 σ hf
    cases hf
  | succ n ih =>
    intro x2 x3 x4 x5 σ hf
    exact w_M_reached_16b C T H7 ih x2 x3 x4 x5 σ hf
def f_M_reached_7b (k7 : Int32 → Int32 → Int32 → zS → Option (Int32 × zS)) (x2 : Int32) (x3 : Int32) (x4 : Int32) (σ : zS) : Option (Int32 × zS) :=
  (if x3 = x4 then
  some (x3, σ)
  else
  f_M_reached_16 k7 zfu x2 x3 x4 0 σ)
set_option maxRecDepth 4000 in
theorem w_M_reached_7b {l : Launch} {d : zD} {F : zF} {h : Nat → Nat} {out : Int32 × zS}  {k7 : Int32 → Int32 → Int32 → zS → Option (Int32 × zS)} (C : zOk d F RX11 cX11_reached 7 4 93) (T : zRt d F (some .int) (some (.int out.1)) (MW d h out.2)) (H7 : ∀ (x2 : Int32) (x3 : Int32) (x4 : Int32) (σ : zS), k7 x2 x3 x4 σ = some out → V l d F 0 0 (MW d h σ) [some (.ref (h 0)), none, some (.int x2), some (.int x3), some (.int x4), none, none] 7 []) (x2 : Int32) (x3 : Int32) (x4 : Int32) (σ : zS) (hf : f_M_reached_7b k7 x2 x3 x4 σ = some out) : V l d F 0 0 (MW d h σ) [some (.ref (h 0)), none, some (.int x2), some (.int x3), some (.int x4), none, none] 7 [] := by
  unfold f_M_reached_7b at hf
  refine zr_iload_n 3 8 C (by decide +kernel) rfl rfl ?_
  refine zr_iload 4 10 C (by decide +kernel) rfl rfl ?_
  refine zr_icmp_eq (off := 112) 122 13 C (by decide +kernel) (by decide) rfl hf (fun hf => ?_) (fun hf => ?_)
  · refine zr_iload_n 3 123 C (by decide +kernel) rfl rfl ?_
    obtain rfl := Option.some.inj hf
    exact zr_iret C (by decide +kernel) T
  · refine zr_iconst (v := 0) 0 14 C (by decide +kernel) rfl rfl ?_
    refine zr_istore 5 [some (.ref (h 0)), none, some (.int x2), some (.int x3), some (.int x4), some (.int 0), none] 16 C (by decide +kernel) rfl (by decide) rfl rfl ?_
    exact w_M_reached_16 C T H7 zfu _ _ _ _ _ hf
def f_M_reached_7  : Nat → Int32 → Int32 → Int32 → zS → Option (Int32 × zS)
  | 0, _, _, _, _ => none
  | n + 1, x2, x3, x4,  σ => f_M_reached_7b (fun x2 x3 x4 σ => f_M_reached_7  n x2 x3 x4 σ) x2 x3 x4 σ
theorem w_M_reached_7 {l : Launch} {d : zD} {F : zF} {h : Nat → Nat} {out : Int32 × zS}   (C : zOk d F RX11 cX11_reached 7 4 93) (T : zRt d F (some .int) (some (.int out.1)) (MW d h out.2))  : ∀ (n : Nat) (x2 : Int32) (x3 : Int32) (x4 : Int32) (σ : zS), f_M_reached_7  n x2 x3 x4 σ = some out → V l d F 0 0 (MW d h σ) [some (.ref (h 0)), none, some (.int x2), some (.int x3), some (.int x4), none, none] 7 [] := by
  intro n
  induction n with
  | zero =>
    intro x2 x3 x4 σ hf
    cases hf
  | succ n ih =>
    intro x2 x3 x4 σ hf
    exact w_M_reached_7b C T ih x2 x3 x4 σ hf
def f_M_reached (p1 : Int32) (p2 : Int32) (σ : zS) : Option (Int32 × zS) :=
  zlt (zshl 1 p1) fun v1 => 
  f_M_reached_7 zfu p2 v1 0 σ
set_option maxRecDepth 4000 in
theorem m_M_reached {l : Launch} {d : zD} {h : Nat → Nat} {out : Int32 × zS} {σ : zS} {p1 : Int32} {p2 : Int32} (hf : f_M_reached p1 p2 σ = some out) : zM l yX11_reached cX11_reached 7 (some .int) 4 93 d [.ref (h 0), .int p1, .int p2] (MW d h σ) (MW d h out.2) (some (.int out.1)) := by
  refine zM_of [some (.ref (h 0)), some (.int p1), some (.int p2), none, none, none, none] (by decide +kernel) rfl (Nat.le_of_ble_eq_true rfl) (fun F C T => ?_)
  unfold f_M_reached at hf
  refine zr_iconst (v := 1) 1 1 C (by decide +kernel) rfl rfl ?_
  refine zr_iload_n 1 2 C (by decide +kernel) rfl rfl ?_
  refine zr_ishl 3 C (by decide +kernel) rfl ?_
  refine zr_name hf (fun v1 hf => ?_)
  refine zr_istore_n 3 [some (.ref (h 0)), some (.int p1), some (.int p2), some (.int v1), none, none, none] 4 C (by decide +kernel) rfl (by decide) rfl rfl ?_
  refine zr_iconst (v := 0) 0 5 C (by decide +kernel) rfl rfl ?_
  refine zr_istore 4 [some (.ref (h 0)), some (.int p1), some (.int p2), some (.int v1), some (.int 0), none, none] 7 C (by decide +kernel) rfl (by decide) rfl rfl ?_
  refine zr_less (zA (zN (zA (zA (zA (zN (zN zE))))))) ?_
  exact w_M_reached_7 C T zfu _ _ _ _ hf
theorem y_M_reached : zY yX11_reached cX11_reached 7 (some .int) 2 := ⟨q_1293, q_90, by decide +kernel, by decide +kernel, by decide +kernel⟩
theorem k_M_reached {l : Launch} {d : zD} {F : zF} {h : Nat → Nat} {σ : zS} {lv : List (Option Value)} {pc : Nat} {own : String} {cc : ByteArray} {nL fr lo idx : Nat} {rest : List Value} {β : Type} {kf : Int32 → zS → Option β} {o2 : β}  {p1 : Int32} {p2 : Int32} (pc' : Nat) (C : zOk d F own cc nL fr lo) (hd : decode cc pc = .ok (.invokevirtual idx, 3)) (hp : pc + 3 = pc') (hq : Cond.methodLink own idx yX11_reached ∈ zW) (hm : 4 + 1 ≤ fr ∧ 8 + (7 + 11) + 93 ≤ lo) (hr : (rest.map fun v => v.category).sum ≤ 8) (hf : zbd (f_M_reached p1 p2 σ) kf = some o2) (K : ∀ (r : Int32) (σ' : zS), kf r σ' = some o2 → V l d F 0 0 (MW d h σ') lv pc' (.int r :: rest)) : V l d F 0 0 (MW d h σ) lv pc (.int p2 :: .int p1 :: .ref (h 0) :: rest) := by
  obtain ⟨q, h1, h2⟩ := zbd_some hf
  exact zr_callV y_M_reached ⟨q_1292, q_53⟩ 0 rfl rfl (As := [.int p1, .int p2]) (m_M_reached h1) rfl rfl pc' C hd hp hq hm hr (K _ _ h2)
/-! StepsBeyondModel.all()I -/
def f_M_all  (σ : zS) : Option (Int32 × zS) :=
  some ((zshl 1 (σ.1 0)) - 1, σ)
set_option maxRecDepth 4000 in
theorem m_M_all {l : Launch} {d : zD} {h : Nat → Nat} {out : Int32 × zS} {σ : zS}  (hf : f_M_all  σ = some out) : zM l yX11_all cX11_all 1 (some .int) 0 0 d [.ref (h 0)] (MW d h σ) (MW d h out.2) (some (.int out.1)) := by
  refine zM_of [some (.ref (h 0))] (by decide +kernel) rfl (Nat.le_of_ble_eq_true rfl) (fun F C T => ?_)
  unfold f_M_all at hf
  refine zr_iconst (v := 1) 1 1 C (by decide +kernel) rfl rfl ?_
  refine zr_aload_n 0 2 C (by decide +kernel) rfl rfl ?_
  refine mg_0_0 (idx := 143) 5 C (by decide +kernel) rfl q_991 ?_
  refine zr_ishl 6 C (by decide +kernel) rfl ?_
  refine zr_iconst (v := 1) 1 7 C (by decide +kernel) rfl rfl ?_
  refine zr_isub 8 C (by decide +kernel) rfl ?_
  obtain rfl := Option.some.inj hf
  exact zr_iret C (by decide +kernel) T
theorem y_M_all : zY yX11_all cX11_all 1 (some .int) 0 := ⟨q_1289, q_90, by decide +kernel, by decide +kernel, by decide +kernel⟩
theorem k_M_all {l : Launch} {d : zD} {F : zF} {h : Nat → Nat} {σ : zS} {lv : List (Option Value)} {pc : Nat} {own : String} {cc : ByteArray} {nL fr lo idx : Nat} {rest : List Value} {β : Type} {kf : Int32 → zS → Option β} {o2 : β}   (pc' : Nat) (C : zOk d F own cc nL fr lo) (hd : decode cc pc = .ok (.invokevirtual idx, 3)) (hp : pc + 3 = pc') (hq : Cond.methodLink own idx yX11_all ∈ zW) (hm : 0 + 1 ≤ fr ∧ 8 + (1 + 11) + 0 ≤ lo) (hr : (rest.map fun v => v.category).sum ≤ 8) (hf : zbd (f_M_all  σ) kf = some o2) (K : ∀ (r : Int32) (σ' : zS), kf r σ' = some o2 → V l d F 0 0 (MW d h σ') lv pc' (.int r :: rest)) : V l d F 0 0 (MW d h σ) lv pc (.ref (h 0) :: rest) := by
  obtain ⟨q, h1, h2⟩ := zbd_some hf
  exact zr_callV y_M_all ⟨q_1288, q_52⟩ 0 rfl rfl (As := []) (m_M_all h1) rfl rfl pc' C hd hp hq hm hr (K _ _ h2)
/-! StepsBeyondModel.townOf(I)I -/
def f_M_townOf (p1 : Int32) (σ : zS) : Option (Int32 × zS) :=
  zbd (f_M_all  σ) fun r2 σ1 =>
  zbd (f_M_reached p1 r2 σ1) fun r4 σ3 =>
  some (r4, σ3)
set_option maxRecDepth 4000 in
theorem m_M_townOf {l : Launch} {d : zD} {h : Nat → Nat} {out : Int32 × zS} {σ : zS} {p1 : Int32} (hf : f_M_townOf p1 σ = some out) : zM l yX11_townOf cX11_townOf 2 (some .int) 5 119 d [.ref (h 0), .int p1] (MW d h σ) (MW d h out.2) (some (.int out.1)) := by
  refine zM_of [some (.ref (h 0)), some (.int p1)] (by decide +kernel) rfl (Nat.le_of_ble_eq_true rfl) (fun F C T => ?_)
  unfold f_M_townOf at hf
  refine zr_aload_n 0 1 C (by decide +kernel) rfl rfl ?_
  refine zr_iload_n 1 2 C (by decide +kernel) rfl rfl ?_
  refine zr_aload_n 0 3 C (by decide +kernel) rfl rfl ?_
  refine k_M_all (idx := 245) 6 C (by decide +kernel) rfl q_1286 (zb2 rfl rfl) (Nat.le_of_ble_eq_true rfl) hf (fun r2 σ1 hf => ?_)
  refine k_M_reached (idx := 248) 9 C (by decide +kernel) rfl q_1290 (zb2 rfl rfl) (Nat.le_of_ble_eq_true rfl) hf (fun r4 σ3 hf => ?_)
  obtain rfl := Option.some.inj hf
  exact zr_iret C (by decide +kernel) T
theorem y_M_townOf : zY yX11_townOf cX11_townOf 2 (some .int) 1 := ⟨q_1285, q_90, by decide +kernel, by decide +kernel, by decide +kernel⟩
theorem k_M_townOf {l : Launch} {d : zD} {F : zF} {h : Nat → Nat} {σ : zS} {lv : List (Option Value)} {pc : Nat} {own : String} {cc : ByteArray} {nL fr lo idx : Nat} {rest : List Value} {β : Type} {kf : Int32 → zS → Option β} {o2 : β}  {p1 : Int32} (pc' : Nat) (C : zOk d F own cc nL fr lo) (hd : decode cc pc = .ok (.invokevirtual idx, 3)) (hp : pc + 3 = pc') (hq : Cond.methodLink own idx yX11_townOf ∈ zW) (hm : 5 + 1 ≤ fr ∧ 8 + (2 + 11) + 119 ≤ lo) (hr : (rest.map fun v => v.category).sum ≤ 8) (hf : zbd (f_M_townOf p1 σ) kf = some o2) (K : ∀ (r : Int32) (σ' : zS), kf r σ' = some o2 → V l d F 0 0 (MW d h σ') lv pc' (.int r :: rest)) : V l d F 0 0 (MW d h σ) lv pc (.int p1 :: .ref (h 0) :: rest) := by
  obtain ⟨q, h1, h2⟩ := zbd_some hf
  exact zr_callV y_M_townOf ⟨q_1284, q_51⟩ 0 rfl rfl (As := [.int p1]) (m_M_townOf h1) rfl rfl pc' C hd hp hq hm hr (K _ _ h2)
/-! StepsBeyondModel.town(I)I -/
def f_M_town (p1 : Int32) (σ : zS) : Option (Int32 × zS) :=
  zbd (f_M_isHouse p1 σ) fun r2 σ1 =>
  (if r2 = 0 then
  some (-1, σ1)
  else
  zbd (f_M_townOf p1 σ1) fun r4 σ3 =>
  some (r4, σ3))
set_option maxRecDepth 4000 in
theorem m_M_town {l : Launch} {d : zD} {h : Nat → Nat} {out : Int32 × zS} {σ : zS} {p1 : Int32} (hf : f_M_town p1 σ = some out) : zM l yX11_town cX11_town 2 (some .int) 6 140 d [.ref (h 0), .int p1] (MW d h σ) (MW d h out.2) (some (.int out.1)) := by
  refine zM_of [some (.ref (h 0)), some (.int p1)] (by decide +kernel) rfl (Nat.le_of_ble_eq_true rfl) (fun F C T => ?_)
  unfold f_M_town at hf
  refine zr_aload_n 0 1 C (by decide +kernel) rfl rfl ?_
  refine zr_iload_n 1 2 C (by decide +kernel) rfl rfl ?_
  refine k_M_isHouse (idx := 154) 5 C (by decide +kernel) rfl q_1188 (zb2 rfl rfl) (Nat.le_of_ble_eq_true rfl) hf (fun r2 σ1 hf => ?_)
  refine zr_if_eq (off := 11) 16 8 C (by decide +kernel) (by decide) rfl hf (fun hf => ?_) (fun hf => ?_)
  · refine zr_iconst (v := (-1)) (-1) 17 C (by decide +kernel) rfl rfl ?_
    obtain rfl := Option.some.inj hf
    exact zr_iret C (by decide +kernel) T
  · refine zr_aload_n 0 9 C (by decide +kernel) rfl rfl ?_
    refine zr_iload_n 1 10 C (by decide +kernel) rfl rfl ?_
    refine k_M_townOf (idx := 251) 13 C (by decide +kernel) rfl q_1282 (zb2 rfl rfl) (Nat.le_of_ble_eq_true rfl) hf (fun r4 σ3 hf => ?_)
    refine zr_goto (off := 4) 17 C (by decide +kernel) (by decide) ?_
    obtain rfl := Option.some.inj hf
    exact zr_iret C (by decide +kernel) T
theorem y_M_town : zY yX11_town cX11_town 2 (some .int) 1 := ⟨q_1281, q_90, by decide +kernel, by decide +kernel, by decide +kernel⟩
theorem k_M_town {l : Launch} {d : zD} {F : zF} {h : Nat → Nat} {σ : zS} {lv : List (Option Value)} {pc : Nat} {own : String} {cc : ByteArray} {nL fr lo idx : Nat} {rest : List Value} {β : Type} {kf : Int32 → zS → Option β} {o2 : β}  {p1 : Int32} (pc' : Nat) (C : zOk d F own cc nL fr lo) (hd : decode cc pc = .ok (.invokevirtual idx, 3)) (hp : pc + 3 = pc') (hq : Cond.methodLink own idx yX11_town ∈ zW) (hm : 6 + 1 ≤ fr ∧ 8 + (2 + 11) + 140 ≤ lo) (hr : (rest.map fun v => v.category).sum ≤ 8) (hf : zbd (f_M_town p1 σ) kf = some o2) (K : ∀ (r : Int32) (σ' : zS), kf r σ' = some o2 → V l d F 0 0 (MW d h σ') lv pc' (.int r :: rest)) : V l d F 0 0 (MW d h σ) lv pc (.int p1 :: .ref (h 0) :: rest) := by
  obtain ⟨q, h1, h2⟩ := zbd_some hf
  exact zr_callV y_M_town ⟨q_1279, q_1280⟩ 0 rfl rfl (As := [.int p1]) (m_M_town h1) rfl rfl pc' C hd hp hq hm hr (K _ _ h2)
/-! StepsBeyondModel.lowBit(I)I -/
def f_M_lowBit_2b (k2 : Int32 → Int32 → zS → Option (Int32 × zS)) (x0 : Int32) (x1 : Int32) (σ : zS) : Option (Int32 × zS) :=
  (if ((zshr x0 x1) &&& 1) = 0 then
  k2 x0 (x1 + 1) σ
  else
  some (x1, σ))
set_option maxRecDepth 4000 in
theorem w_M_lowBit_2b {l : Launch} {d : zD} {F : zF} {h : Nat → Nat} {out : Int32 × zS}  {k2 : Int32 → Int32 → zS → Option (Int32 × zS)} (C : zOk d F RX11 cX11_lowBit 2 0 0) (T : zRt d F (some .int) (some (.int out.1)) (MW d h out.2)) (H2 : ∀ (x0 : Int32) (x1 : Int32) (σ : zS), k2 x0 x1 σ = some out → V l d F 0 0 (MW d h σ) [some (.int x0), some (.int x1)] 2 []) (x0 : Int32) (x1 : Int32) (σ : zS) (hf : f_M_lowBit_2b k2 x0 x1 σ = some out) : V l d F 0 0 (MW d h σ) [some (.int x0), some (.int x1)] 2 [] := by
  unfold f_M_lowBit_2b at hf
  refine zr_iload_n 0 3 C (by decide +kernel) rfl rfl ?_
  refine zr_iload_n 1 4 C (by decide +kernel) rfl rfl ?_
  refine zr_ishr 5 C (by decide +kernel) rfl ?_
  refine zr_iconst (v := 1) 1 6 C (by decide +kernel) rfl rfl ?_
  refine zr_iand 7 C (by decide +kernel) rfl ?_
  refine zr_if_ne (off := 9) 16 10 C (by decide +kernel) (by decide) rfl hf (fun hf => ?_) (fun hf => ?_)
  · refine zr_iload_n 1 17 C (by decide +kernel) rfl rfl ?_
    obtain rfl := Option.some.inj hf
    exact zr_iret C (by decide +kernel) T
  · refine zr_iinc (j := 1) 1 [some (.int x0), some (.int (x1 + 1))] 13 C (by decide +kernel) rfl rfl rfl (by decide) rfl rfl ?_
    refine zr_goto (off := -11) 2 C (by decide +kernel) (by decide) ?_
    exact H2 _ _ _ hf
def f_M_lowBit_2  : Nat → Int32 → Int32 → zS → Option (Int32 × zS)
  | 0, _, _, _ => none
  | n + 1, x0, x1,  σ => f_M_lowBit_2b (fun x0 x1 σ => f_M_lowBit_2  n x0 x1 σ) x0 x1 σ
theorem w_M_lowBit_2 {l : Launch} {d : zD} {F : zF} {h : Nat → Nat} {out : Int32 × zS}   (C : zOk d F RX11 cX11_lowBit 2 0 0) (T : zRt d F (some .int) (some (.int out.1)) (MW d h out.2))  : ∀ (n : Nat) (x0 : Int32) (x1 : Int32) (σ : zS), f_M_lowBit_2  n x0 x1 σ = some out → V l d F 0 0 (MW d h σ) [some (.int x0), some (.int x1)] 2 [] := by
  intro n
  induction n with
  | zero =>
    intro x0 x1 σ hf
    cases hf
  | succ n ih =>
    intro x0 x1 σ hf
    exact w_M_lowBit_2b C T ih x0 x1 σ hf
def f_M_lowBit (p0 : Int32) (σ : zS) : Option (Int32 × zS) :=
  f_M_lowBit_2 zfu p0 0 σ
set_option maxRecDepth 4000 in
theorem m_M_lowBit {l : Launch} {d : zD} {h : Nat → Nat} {out : Int32 × zS} {σ : zS} {p0 : Int32} (hf : f_M_lowBit p0 σ = some out) : zM l yX11_lowBit cX11_lowBit 2 (some .int) 0 0 d [.int p0] (MW d h σ) (MW d h out.2) (some (.int out.1)) := by
  refine zM_of [some (.int p0), none] (by decide +kernel) rfl (Nat.le_of_ble_eq_true rfl) (fun F C T => ?_)
  unfold f_M_lowBit at hf
  refine zr_iconst (v := 0) 0 1 C (by decide +kernel) rfl rfl ?_
  refine zr_istore_n 1 [some (.int p0), some (.int 0)] 2 C (by decide +kernel) rfl (by decide) rfl rfl ?_
  exact w_M_lowBit_2 C T zfu _ _ _ hf
theorem y_M_lowBit : zY yX11_lowBit cX11_lowBit 2 (some .int) 1 := ⟨q_1300, q_90, by decide +kernel, by decide +kernel, by decide +kernel⟩
theorem k_M_lowBit {l : Launch} {d : zD} {F : zF} {h : Nat → Nat} {σ : zS} {lv : List (Option Value)} {pc : Nat} {own : String} {cc : ByteArray} {nL fr lo idx : Nat} {rest : List Value} {β : Type} {kf : Int32 → zS → Option β} {o2 : β}  {p0 : Int32} (pc' : Nat) (C : zOk d F own cc nL fr lo) (hd : decode cc pc = .ok (.invokestatic idx, 3)) (hp : pc + 3 = pc') (hq : Cond.methodLink own idx yX11_lowBit ∈ zW) (hm : 0 + 1 ≤ fr ∧ 8 + (2 + 11) + 0 ≤ lo) (hr : (rest.map fun v => v.category).sum ≤ 8) (hf : zbd (f_M_lowBit p0 σ) kf = some o2) (K : ∀ (r : Int32) (σ' : zS), kf r σ' = some o2 → V l d F 0 0 (MW d h σ') lv pc' (.int r :: rest)) : V l d F 0 0 (MW d h σ) lv pc (.int p0 :: rest) := by
  obtain ⟨q, h1, h2⟩ := zbd_some hf
  exact zr_callS y_M_lowBit q_1299 (As := [.int p0]) (m_M_lowBit h1) rfl rfl pc' C hd hp hq hm hr (K _ _ h2)
/-! StepsBeyondModel.burn(I)I -/
def f_M_burn_82 (k21 : Int32 → Int32 → Int32 → zS → Option (Int32 × zS)) (x2 : Int32) (x3 : Int32) (x4 : Int32) (σ : zS) : Option (Int32 × zS) :=
  k21 x2 x3 (x4 + 1) σ
set_option maxRecDepth 4000 in
theorem w_M_burn_82 {l : Launch} {d : zD} {F : zF} {h : Nat → Nat} {out : Int32 × zS}  {k21 : Int32 → Int32 → Int32 → zS → Option (Int32 × zS)} (C : zOk d F RX11 cX11_burn 6 6 140) (T : zRt d F (some .int) (some (.int out.1)) (MW d h out.2)) (H21 : ∀ (x2 : Int32) (x3 : Int32) (x4 : Int32) (σ : zS), k21 x2 x3 x4 σ = some out → V l d F 0 0 (MW d h σ) [some (.ref (h 0)), none, some (.int x2), some (.int x3), some (.int x4), none] 21 []) (x2 : Int32) (x3 : Int32) (x4 : Int32) (σ : zS) (hf : f_M_burn_82 k21 x2 x3 x4 σ = some out) : V l d F 0 0 (MW d h σ) [some (.ref (h 0)), none, some (.int x2), some (.int x3), some (.int x4), none] 82 [] := by
  unfold f_M_burn_82 at hf
  refine zr_iinc (j := 1) 4 [some (.ref (h 0)), none, some (.int x2), some (.int x3), some (.int (x4 + 1)), none] 85 C (by decide +kernel) rfl rfl rfl (by decide) rfl rfl ?_
  refine zr_goto (off := -64) 21 C (by decide +kernel) (by decide) ?_
  exact H21 _ _ _ _ hf
def f_M_burn_80 (k21 : Int32 → Int32 → Int32 → zS → Option (Int32 × zS)) (x2 : Int32) (x4 : Int32) (y0 : Int32) (y1 : Int32) (σ : zS) : Option (Int32 × zS) :=
  zlt (y0 ||| y1) fun v1 => 
  f_M_burn_82 k21 x2 v1 x4 σ
set_option maxRecDepth 4000 in
theorem w_M_burn_80 {l : Launch} {d : zD} {F : zF} {h : Nat → Nat} {out : Int32 × zS}  {k21 : Int32 → Int32 → Int32 → zS → Option (Int32 × zS)} (C : zOk d F RX11 cX11_burn 6 6 140) (T : zRt d F (some .int) (some (.int out.1)) (MW d h out.2)) (H21 : ∀ (x2 : Int32) (x3 : Int32) (x4 : Int32) (σ : zS), k21 x2 x3 x4 σ = some out → V l d F 0 0 (MW d h σ) [some (.ref (h 0)), none, some (.int x2), some (.int x3), some (.int x4), none] 21 []) (x2 : Int32) (x4 : Int32) (y0 : Int32) (y1 : Int32) (σ : zS) (hf : f_M_burn_80 k21 x2 x4 y0 y1 σ = some out) : V l d F 0 0 (MW d h σ) [some (.ref (h 0)), none, some (.int x2), none, some (.int x4), none] 80 [.int y1, .int y0] := by
  unfold f_M_burn_80 at hf
  refine zr_ior 81 C (by decide +kernel) rfl ?_
  refine zr_name hf (fun v1 hf => ?_)
  refine zr_istore_n 3 [some (.ref (h 0)), none, some (.int x2), some (.int v1), some (.int x4), none] 82 C (by decide +kernel) rfl (by decide) rfl rfl ?_
  exact w_M_burn_82 C T H21 _ _ _ _ hf
def f_M_burn_21b (k21 : Int32 → Int32 → Int32 → zS → Option (Int32 × zS)) (x2 : Int32) (x3 : Int32) (x4 : Int32) (σ : zS) : Option (Int32 × zS) :=
  (if (σ.1 0) ≤ x4 then
  some (x3, σ)
  else
  zlt (x2 &&& ((zshl 1 x4) ^^^ (-1))) fun v1 => 
  (if ((zshr x2 x4) &&& 1) = 1 then
  (if v1 = 0 then
  f_M_burn_82 k21 x2 x3 x4 σ
  else
  zbd (f_M_lowBit v1 σ) fun r3 σ2 =>
  zbd (f_M_reached r3 v1 σ2) fun r5 σ4 =>
  (if r5 = v1 then
  f_M_burn_80 k21 x2 x4 x3 0 σ4
  else
  f_M_burn_80 k21 x2 x4 x3 (zshl 1 x4) σ4))
  else
  f_M_burn_82 k21 x2 x3 x4 σ))
set_option maxRecDepth 4000 in
theorem w_M_burn_21b {l : Launch} {d : zD} {F : zF} {h : Nat → Nat} {out : Int32 × zS}  {k21 : Int32 → Int32 → Int32 → zS → Option (Int32 × zS)} (C : zOk d F RX11 cX11_burn 6 6 140) (T : zRt d F (some .int) (some (.int out.1)) (MW d h out.2)) (H21 : ∀ (x2 : Int32) (x3 : Int32) (x4 : Int32) (σ : zS), k21 x2 x3 x4 σ = some out → V l d F 0 0 (MW d h σ) [some (.ref (h 0)), none, some (.int x2), some (.int x3), some (.int x4), none] 21 []) (x2 : Int32) (x3 : Int32) (x4 : Int32) (σ : zS) (hf : f_M_burn_21b k21 x2 x3 x4 σ = some out) : V l d F 0 0 (MW d h σ) [some (.ref (h 0)), none, some (.int x2), some (.int x3), some (.int x4), none] 21 [] := by
  unfold f_M_burn_21b at hf
  refine zr_iload 4 23 C (by decide +kernel) rfl rfl ?_
  refine zr_aload_n 0 24 C (by decide +kernel) rfl rfl ?_
  refine mg_0_0 (idx := 143) 27 C (by decide +kernel) rfl q_991 ?_
  refine zr_icmp_ge (off := 61) 88 30 C (by decide +kernel) (by decide) rfl hf (fun hf => ?_) (fun hf => ?_)
  · refine zr_iload_n 3 89 C (by decide +kernel) rfl rfl ?_
    obtain rfl := Option.some.inj hf
    exact zr_iret C (by decide +kernel) T
  · refine zr_iload_n 2 31 C (by decide +kernel) rfl rfl ?_
    refine zr_iconst (v := 1) 1 32 C (by decide +kernel) rfl rfl ?_
    refine zr_iload 4 34 C (by decide +kernel) rfl rfl ?_
    refine zr_ishl 35 C (by decide +kernel) rfl ?_
    refine zr_iconst (v := (-1)) (-1) 36 C (by decide +kernel) rfl rfl ?_
    refine zr_ixor 37 C (by decide +kernel) rfl ?_
    refine zr_iand 38 C (by decide +kernel) rfl ?_
    refine zr_name hf (fun v1 hf => ?_)
    refine zr_istore 5 [some (.ref (h 0)), none, some (.int x2), some (.int x3), some (.int x4), some (.int v1)] 40 C (by decide +kernel) rfl (by decide) rfl rfl ?_
    refine zr_iload_n 2 41 C (by decide +kernel) rfl rfl ?_
    refine zr_iload 4 43 C (by decide +kernel) rfl rfl ?_
    refine zr_ishr 44 C (by decide +kernel) rfl ?_
    refine zr_iconst (v := 1) 1 45 C (by decide +kernel) rfl rfl ?_
    refine zr_iand 46 C (by decide +kernel) rfl ?_
    refine zr_iconst (v := 1) 1 47 C (by decide +kernel) rfl rfl ?_
    refine zr_icmp_ne (off := 35) 82 50 C (by decide +kernel) (by decide) rfl hf (fun hf => ?_) (fun hf => ?_)
    · refine zr_less (zA (zN (zA (zA (zA (zN zE)))))) ?_
      exact w_M_burn_82 C T H21 _ _ _ _ hf
    · refine zr_iload 5 52 C (by decide +kernel) rfl rfl ?_
      refine zr_if_eq (off := 30) 82 55 C (by decide +kernel) (by decide) rfl hf (fun hf => ?_) (fun hf => ?_)
      · refine zr_less (zA (zN (zA (zA (zA (zN zE)))))) ?_
        exact w_M_burn_82 C T H21 _ _ _ _ hf
      · refine zr_iload_n 3 56 C (by decide +kernel) rfl rfl ?_
        refine zr_aload_n 0 57 C (by decide +kernel) rfl rfl ?_
        refine zr_iload 5 59 C (by decide +kernel) rfl rfl ?_
        refine k_M_lowBit (idx := 254) 62 C (by decide +kernel) rfl q_1298 (zb2 rfl rfl) (Nat.le_of_ble_eq_true rfl) hf (fun r3 σ2 hf => ?_)
        refine zr_iload 5 64 C (by decide +kernel) rfl rfl ?_
        refine k_M_reached (idx := 248) 67 C (by decide +kernel) rfl q_1290 (zb2 rfl rfl) (Nat.le_of_ble_eq_true rfl) hf (fun r5 σ4 hf => ?_)
        refine zr_iload 5 69 C (by decide +kernel) rfl rfl ?_
        refine zr_icmp_eq (off := 10) 79 72 C (by decide +kernel) (by decide) rfl hf (fun hf => ?_) (fun hf => ?_)
        · refine zr_iconst (v := 0) 0 80 C (by decide +kernel) rfl rfl ?_
          refine zr_less (zA (zN (zA (zN (zA (zN zE)))))) ?_
          exact w_M_burn_80 C T H21 _ _ _ _ _ hf
        · refine zr_iconst (v := 1) 1 73 C (by decide +kernel) rfl rfl ?_
          refine zr_iload 4 75 C (by decide +kernel) rfl rfl ?_
          refine zr_ishl 76 C (by decide +kernel) rfl ?_
          refine zr_goto (off := 4) 80 C (by decide +kernel) (by decide) ?_
          refine zr_less (zA (zN (zA (zN (zA (zN zE)))))) ?_
          exact w_M_burn_80 C T H21 _ _ _ _ _ hf
def f_M_burn_21  : Nat → Int32 → Int32 → Int32 → zS → Option (Int32 × zS)
  | 0, _, _, _, _ => none
  | n + 1, x2, x3, x4,  σ => f_M_burn_21b (fun x2 x3 x4 σ => f_M_burn_21  n x2 x3 x4 σ) x2 x3 x4 σ
theorem w_M_burn_21 {l : Launch} {d : zD} {F : zF} {h : Nat → Nat} {out : Int32 × zS}   (C : zOk d F RX11 cX11_burn 6 6 140) (T : zRt d F (some .int) (some (.int out.1)) (MW d h out.2))  : ∀ (n : Nat) (x2 : Int32) (x3 : Int32) (x4 : Int32) (σ : zS), f_M_burn_21  n x2 x3 x4 σ = some out → V l d F 0 0 (MW d h σ) [some (.ref (h 0)), none, some (.int x2), some (.int x3), some (.int x4), none] 21 [] := by
  intro n
  induction n with
  | zero =>
    intro x2 x3 x4 σ hf
    cases hf
  | succ n ih =>
    intro x2 x3 x4 σ hf
    exact w_M_burn_21b C T ih x2 x3 x4 σ hf
def f_M_burn (p1 : Int32) (σ : zS) : Option (Int32 × zS) :=
  zbd (f_M_isHouse p1 σ) fun r2 σ1 =>
  (if r2 = 0 then
  some (-1, σ1)
  else
  zbd (f_M_townOf p1 σ1) fun r4 σ3 =>
  f_M_burn_21 zfu r4 0 0 σ3)
set_option maxRecDepth 4000 in
theorem m_M_burn {l : Launch} {d : zD} {h : Nat → Nat} {out : Int32 × zS} {σ : zS} {p1 : Int32} (hf : f_M_burn p1 σ = some out) : zM l yX11_burn cX11_burn 6 (some .int) 6 140 d [.ref (h 0), .int p1] (MW d h σ) (MW d h out.2) (some (.int out.1)) := by
  refine zM_of [some (.ref (h 0)), some (.int p1), none, none, none, none] (by decide +kernel) rfl (Nat.le_of_ble_eq_true rfl) (fun F C T => ?_)
  unfold f_M_burn at hf
  refine zr_aload_n 0 1 C (by decide +kernel) rfl rfl ?_
  refine zr_iload_n 1 2 C (by decide +kernel) rfl rfl ?_
  refine k_M_isHouse (idx := 154) 5 C (by decide +kernel) rfl q_1188 (zb2 rfl rfl) (Nat.le_of_ble_eq_true rfl) hf (fun r2 σ1 hf => ?_)
  refine zr_if_ne (off := 5) 10 8 C (by decide +kernel) (by decide) rfl hf (fun hf => ?_) (fun hf => ?_)
  · refine zr_aload_n 0 11 C (by decide +kernel) rfl rfl ?_
    refine zr_iload_n 1 12 C (by decide +kernel) rfl rfl ?_
    refine k_M_townOf (idx := 251) 15 C (by decide +kernel) rfl q_1282 (zb2 rfl rfl) (Nat.le_of_ble_eq_true rfl) hf (fun r4 σ3 hf => ?_)
    refine zr_istore_n 2 [some (.ref (h 0)), some (.int p1), some (.int r4), none, none, none] 16 C (by decide +kernel) rfl (by decide) rfl rfl ?_
    refine zr_iconst (v := 0) 0 17 C (by decide +kernel) rfl rfl ?_
    refine zr_istore_n 3 [some (.ref (h 0)), some (.int p1), some (.int r4), some (.int 0), none, none] 18 C (by decide +kernel) rfl (by decide) rfl rfl ?_
    refine zr_iconst (v := 0) 0 19 C (by decide +kernel) rfl rfl ?_
    refine zr_istore 4 [some (.ref (h 0)), some (.int p1), some (.int r4), some (.int 0), some (.int 0), none] 21 C (by decide +kernel) rfl (by decide) rfl rfl ?_
    refine zr_less (zA (zN (zA (zA (zA (zN zE)))))) ?_
    exact w_M_burn_21 C T zfu _ _ _ _ hf
  · refine zr_iconst (v := (-1)) (-1) 9 C (by decide +kernel) rfl rfl ?_
    obtain rfl := Option.some.inj hf
    exact zr_iret C (by decide +kernel) T
theorem y_M_burn : zY yX11_burn cX11_burn 6 (some .int) 1 := ⟨q_1297, q_90, by decide +kernel, by decide +kernel, by decide +kernel⟩
theorem k_M_burn {l : Launch} {d : zD} {F : zF} {h : Nat → Nat} {σ : zS} {lv : List (Option Value)} {pc : Nat} {own : String} {cc : ByteArray} {nL fr lo idx : Nat} {rest : List Value} {β : Type} {kf : Int32 → zS → Option β} {o2 : β}  {p1 : Int32} (pc' : Nat) (C : zOk d F own cc nL fr lo) (hd : decode cc pc = .ok (.invokevirtual idx, 3)) (hp : pc + 3 = pc') (hq : Cond.methodLink own idx yX11_burn ∈ zW) (hm : 6 + 1 ≤ fr ∧ 8 + (6 + 11) + 140 ≤ lo) (hr : (rest.map fun v => v.category).sum ≤ 8) (hf : zbd (f_M_burn p1 σ) kf = some o2) (K : ∀ (r : Int32) (σ' : zS), kf r σ' = some o2 → V l d F 0 0 (MW d h σ') lv pc' (.int r :: rest)) : V l d F 0 0 (MW d h σ) lv pc (.int p1 :: .ref (h 0) :: rest) := by
  obtain ⟨q, h1, h2⟩ := zbd_some hf
  exact zr_callV y_M_burn ⟨q_1295, q_1296⟩ 0 rfl rfl (As := [.int p1]) (m_M_burn h1) rfl rfl pc' C hd hp hq hm hr (K _ _ h2)
/-! StepsBeyondModel.shape(III)I -/
def f_M_shape (p1 : Int32) (p2 : Int32) (p3 : Int32) (σ : zS) : Option (Int32 × zS) :=
  zbd (f_M_in p1 0 5 σ) fun r2 σ1 =>
  (if r2 = 0 then
  some (-2, σ1)
  else
  zbd (f_M_in p3 0 30 σ1) fun r4 σ3 =>
  (if r4 = 0 then
  some (-2, σ3)
  else
  zbd (f_M_isHouse p2 σ3) fun r6 σ5 =>
  (if r6 = 0 then
  some (-1, σ5)
  else
  (if (σ5.1 3) = 12 then
  some (-4, σ5)
  else
  zin (σ5.1 3) 12 (zlt (zsa σ5 3 (σ5.1 3) p1) fun σ7 =>
  zin (σ7.1 3) 12 (zlt (zsa σ7 4 (σ7.1 3) p2) fun σ8 =>
  zin (σ8.1 3) 12 (zlt (zsa σ8 5 (σ8.1 3) p3) fun σ9 =>
  zlt (zsg σ9 3 ((σ9.1 3) + 1)) fun σ10 =>
  some ((σ10.1 3) - 1, σ10))))))))
set_option maxRecDepth 4000 in
theorem m_M_shape {l : Launch} {d : zD} {h : Nat → Nat} {out : Int32 × zS} {σ : zS} {p1 : Int32} {p2 : Int32} {p3 : Int32} (hf : f_M_shape p1 p2 p3 σ = some out) : zM l yX11_shape cX11_shape 4 (some .int) 2 43 d [.ref (h 0), .int p1, .int p2, .int p3] (MW d h σ) (MW d h out.2) (some (.int out.1)) := by
  refine zM_of [some (.ref (h 0)), some (.int p1), some (.int p2), some (.int p3)] (by decide +kernel) rfl (Nat.le_of_ble_eq_true rfl) (fun F C T => ?_)
  unfold f_M_shape at hf
  refine zr_iload_n 1 1 C (by decide +kernel) rfl rfl ?_
  refine zr_iconst (v := 0) 0 2 C (by decide +kernel) rfl rfl ?_
  refine zr_iconst (v := 5) 5 3 C (by decide +kernel) rfl rfl ?_
  refine k_M_in (idx := 139) 6 C (by decide +kernel) rfl q_1181 (zb2 rfl rfl) (Nat.le_of_ble_eq_true rfl) hf (fun r2 σ1 hf => ?_)
  refine zr_if_eq (off := 13) 19 9 C (by decide +kernel) (by decide) rfl hf (fun hf => ?_) (fun hf => ?_)
  · refine zr_bipush (v := (-2)) (-2) 21 C (by decide +kernel) rfl rfl ?_
    obtain rfl := Option.some.inj hf
    exact zr_iret C (by decide +kernel) T
  · refine zr_iload_n 3 10 C (by decide +kernel) rfl rfl ?_
    refine zr_iconst (v := 0) 0 11 C (by decide +kernel) rfl rfl ?_
    refine zr_bipush (v := 30) 30 13 C (by decide +kernel) rfl rfl ?_
    refine k_M_in (idx := 139) 16 C (by decide +kernel) rfl q_1181 (zb2 rfl rfl) (Nat.le_of_ble_eq_true rfl) hf (fun r4 σ3 hf => ?_)
    refine zr_if_ne (off := 6) 22 19 C (by decide +kernel) (by decide) rfl hf (fun hf => ?_) (fun hf => ?_)
    · refine zr_aload_n 0 23 C (by decide +kernel) rfl rfl ?_
      refine zr_iload_n 2 24 C (by decide +kernel) rfl rfl ?_
      refine k_M_isHouse (idx := 154) 27 C (by decide +kernel) rfl q_1188 (zb2 rfl rfl) (Nat.le_of_ble_eq_true rfl) hf (fun r6 σ5 hf => ?_)
      refine zr_if_ne (off := 5) 32 30 C (by decide +kernel) (by decide) rfl hf (fun hf => ?_) (fun hf => ?_)
      · refine zr_aload_n 0 33 C (by decide +kernel) rfl rfl ?_
        refine mg_0_3 (idx := 257) 36 C (by decide +kernel) rfl q_994 ?_
        refine zr_bipush (v := 12) 12 38 C (by decide +kernel) rfl rfl ?_
        refine zr_icmp_ne (off := 6) 44 41 C (by decide +kernel) (by decide) rfl hf (fun hf => ?_) (fun hf => ?_)
        · refine zr_aload_n 0 45 C (by decide +kernel) rfl rfl ?_
          refine mg_0_4 (idx := 16) 48 C (by decide +kernel) rfl q_995 ?_
          refine zr_aload_n 0 49 C (by decide +kernel) rfl rfl ?_
          refine mg_0_3 (idx := 257) 52 C (by decide +kernel) rfl q_994 ?_
          refine zr_iload_n 1 53 C (by decide +kernel) rfl rfl ?_
          refine ms_3 54 C (by decide +kernel) rfl hf (fun σ7 hf => ?_)
          refine zr_aload_n 0 55 C (by decide +kernel) rfl rfl ?_
          refine mg_0_5 (idx := 19) 58 C (by decide +kernel) rfl q_996 ?_
          refine zr_aload_n 0 59 C (by decide +kernel) rfl rfl ?_
          refine mg_0_3 (idx := 257) 62 C (by decide +kernel) rfl q_994 ?_
          refine zr_iload_n 2 63 C (by decide +kernel) rfl rfl ?_
          refine ms_4 64 C (by decide +kernel) rfl hf (fun σ8 hf => ?_)
          refine zr_aload_n 0 65 C (by decide +kernel) rfl rfl ?_
          refine mg_0_6 (idx := 22) 68 C (by decide +kernel) rfl q_997 ?_
          refine zr_aload_n 0 69 C (by decide +kernel) rfl rfl ?_
          refine mg_0_3 (idx := 257) 72 C (by decide +kernel) rfl q_994 ?_
          refine zr_iload_n 3 73 C (by decide +kernel) rfl rfl ?_
          refine ms_5 74 C (by decide +kernel) rfl hf (fun σ9 hf => ?_)
          refine zr_aload_n 0 75 C (by decide +kernel) rfl rfl ?_
          refine zr_dup 76 C (by decide +kernel) rfl rfl ?_
          refine mg_0_3 (idx := 257) 79 C (by decide +kernel) rfl q_994 ?_
          refine zr_iconst (v := 1) 1 80 C (by decide +kernel) rfl rfl ?_
          refine zr_iadd 81 C (by decide +kernel) rfl ?_
          refine mp_0_3 (idx := 257) 84 C (by decide +kernel) rfl q_994 hf (fun σ10 hf => ?_)
          refine zr_aload_n 0 85 C (by decide +kernel) rfl rfl ?_
          refine mg_0_3 (idx := 257) 88 C (by decide +kernel) rfl q_994 ?_
          refine zr_iconst (v := 1) 1 89 C (by decide +kernel) rfl rfl ?_
          refine zr_isub 90 C (by decide +kernel) rfl ?_
          obtain rfl := Option.some.inj hf
          exact zr_iret C (by decide +kernel) T
        · refine zr_bipush (v := (-4)) (-4) 43 C (by decide +kernel) rfl rfl ?_
          obtain rfl := Option.some.inj hf
          exact zr_iret C (by decide +kernel) T
      · refine zr_iconst (v := (-1)) (-1) 31 C (by decide +kernel) rfl rfl ?_
        obtain rfl := Option.some.inj hf
        exact zr_iret C (by decide +kernel) T
    · refine zr_bipush (v := (-2)) (-2) 21 C (by decide +kernel) rfl rfl ?_
      obtain rfl := Option.some.inj hf
      exact zr_iret C (by decide +kernel) T
theorem y_M_shape : zY yX11_shape cX11_shape 4 (some .int) 3 := ⟨q_1304, q_90, by decide +kernel, by decide +kernel, by decide +kernel⟩
theorem k_M_shape {l : Launch} {d : zD} {F : zF} {h : Nat → Nat} {σ : zS} {lv : List (Option Value)} {pc : Nat} {own : String} {cc : ByteArray} {nL fr lo idx : Nat} {rest : List Value} {β : Type} {kf : Int32 → zS → Option β} {o2 : β}  {p1 : Int32} {p2 : Int32} {p3 : Int32} (pc' : Nat) (C : zOk d F own cc nL fr lo) (hd : decode cc pc = .ok (.invokevirtual idx, 3)) (hp : pc + 3 = pc') (hq : Cond.methodLink own idx yX11_shape ∈ zW) (hm : 2 + 1 ≤ fr ∧ 8 + (4 + 11) + 43 ≤ lo) (hr : (rest.map fun v => v.category).sum ≤ 8) (hf : zbd (f_M_shape p1 p2 p3 σ) kf = some o2) (K : ∀ (r : Int32) (σ' : zS), kf r σ' = some o2 → V l d F 0 0 (MW d h σ') lv pc' (.int r :: rest)) : V l d F 0 0 (MW d h σ) lv pc (.int p3 :: .int p2 :: .int p1 :: .ref (h 0) :: rest) := by
  obtain ⟨q, h1, h2⟩ := zbd_some hf
  exact zr_callV y_M_shape ⟨q_1302, q_1303⟩ 0 rfl rfl (As := [.int p1, .int p2, .int p3]) (m_M_shape h1) rfl rfl pc' C hd hp hq hm hr (K _ _ h2)
/-! StepsBeyondModel.isShape(I)Z -/
def f_M_isShape (p1 : Int32) (σ : zS) : Option (Int32 × zS) :=
  zbd (f_M_in p1 0 ((σ.1 3) - 1) σ) fun r2 σ1 =>
  zbo r2 (some (r2, σ1))
set_option maxRecDepth 4000 in
theorem m_M_isShape {l : Launch} {d : zD} {h : Nat → Nat} {out : Int32 × zS} {σ : zS} {p1 : Int32} (hf : f_M_isShape p1 σ = some out) : zM l yX11_isShape cX11_isShape 2 (some .boolean) 1 22 d [.ref (h 0), .int p1] (MW d h σ) (MW d h out.2) (some (.int out.1)) := by
  refine zM_of [some (.ref (h 0)), some (.int p1)] (by decide +kernel) rfl (Nat.le_of_ble_eq_true rfl) (fun F C T => ?_)
  unfold f_M_isShape at hf
  refine zr_iload_n 1 1 C (by decide +kernel) rfl rfl ?_
  refine zr_iconst (v := 0) 0 2 C (by decide +kernel) rfl rfl ?_
  refine zr_aload_n 0 3 C (by decide +kernel) rfl rfl ?_
  refine mg_0_3 (idx := 257) 6 C (by decide +kernel) rfl q_994 ?_
  refine zr_iconst (v := 1) 1 7 C (by decide +kernel) rfl rfl ?_
  refine zr_isub 8 C (by decide +kernel) rfl ?_
  refine k_M_in (idx := 139) 11 C (by decide +kernel) rfl q_1181 (zb2 rfl rfl) (Nat.le_of_ble_eq_true rfl) hf (fun r2 σ1 hf => ?_)
  obtain ⟨hz, hf⟩ := zbo_some hf
  obtain rfl := Option.some.inj hf
  exact zr_zret C (by decide +kernel) hz T
theorem y_M_isShape : zY yX11_isShape cX11_isShape 2 (some .boolean) 1 := ⟨q_1316, q_90, by decide +kernel, by decide +kernel, by decide +kernel⟩
theorem k_M_isShape {l : Launch} {d : zD} {F : zF} {h : Nat → Nat} {σ : zS} {lv : List (Option Value)} {pc : Nat} {own : String} {cc : ByteArray} {nL fr lo idx : Nat} {rest : List Value} {β : Type} {kf : Int32 → zS → Option β} {o2 : β}  {p1 : Int32} (pc' : Nat) (C : zOk d F own cc nL fr lo) (hd : decode cc pc = .ok (.invokevirtual idx, 3)) (hp : pc + 3 = pc') (hq : Cond.methodLink own idx yX11_isShape ∈ zW) (hm : 1 + 1 ≤ fr ∧ 8 + (2 + 11) + 22 ≤ lo) (hr : (rest.map fun v => v.category).sum ≤ 8) (hf : zbd (f_M_isShape p1 σ) kf = some o2) (K : ∀ (r : Int32) (σ' : zS), kf r σ' = some o2 → V l d F 0 0 (MW d h σ') lv pc' (.int r :: rest)) : V l d F 0 0 (MW d h σ) lv pc (.int p1 :: .ref (h 0) :: rest) := by
  obtain ⟨q, h1, h2⟩ := zbd_some hf
  exact zr_callV y_M_isShape ⟨q_1315, q_54⟩ 0 rfl rfl (As := [.int p1]) (m_M_isShape h1) rfl rfl pc' C hd hp hq hm hr (K _ _ h2)

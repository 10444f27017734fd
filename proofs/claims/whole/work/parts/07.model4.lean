/-! StepsBeyondModel.count(I)I -/
def f_M_count_94 (k64 : Int32 → Int32 → Int32 → zS → Option (Int32 × zS)) (x2 : Int32) (x3 : Int32) (x4 : Int32) (σ : zS) : Option (Int32 × zS) :=
  k64 x2 x3 (x4 + 1) σ
set_option maxRecDepth 4000 in
theorem w_M_count_94 {l : Launch} {d : zD} {F : zF} {h : Nat → Nat} {out : Int32 × zS}  {k64 : Int32 → Int32 → Int32 → zS → Option (Int32 × zS)} (C : zOk d F RX11 cX11_count 5 6 140) (T : zRt d F (some .int) (some (.int out.1)) (MW d h out.2)) (H64 : ∀ (x2 : Int32) (x3 : Int32) (x4 : Int32) (σ : zS), k64 x2 x3 x4 σ = some out → V l d F 0 0 (MW d h σ) [some (.ref (h 0)), none, some (.int x2), some (.int x3), some (.int x4)] 64 []) (x2 : Int32) (x3 : Int32) (x4 : Int32) (σ : zS) (hf : f_M_count_94 k64 x2 x3 x4 σ = some out) : V l d F 0 0 (MW d h σ) [some (.ref (h 0)), none, some (.int x2), some (.int x3), some (.int x4)] 94 [] := by
  unfold f_M_count_94 at hf
  refine zr_iinc (j := 1) 4 [some (.ref (h 0)), none, some (.int x2), some (.int x3), some (.int (x4 + 1))] 97 C (by decide +kernel) rfl rfl rfl (by decide) rfl rfl ?_
  refine zr_goto (off := -33) 64 C (by decide +kernel) (by decide) ?_
  exact H64 _ _ _ _ hf
def f_M_count_64b (k64 : Int32 → Int32 → Int32 → zS → Option (Int32 × zS)) (x2 : Int32) (x3 : Int32) (x4 : Int32) (σ : zS) : Option (Int32 × zS) :=
  (if (σ.1 0) ≤ x4 then
  some (x2, σ)
  else
  (if ((zshr x3 x4) &&& 1) = 0 then
  zbd (f_M_townOf x4 σ) fun r2 σ1 =>
  zlt (x3 ||| r2) fun v3 => 
  f_M_count_94 k64 (x2 + 1) v3 x4 σ1
  else
  f_M_count_94 k64 x2 x3 x4 σ))
set_option maxRecDepth 4000 in
theorem w_M_count_64b {l : Launch} {d : zD} {F : zF} {h : Nat → Nat} {out : Int32 × zS}  {k64 : Int32 → Int32 → Int32 → zS → Option (Int32 × zS)} (C : zOk d F RX11 cX11_count 5 6 140) (T : zRt d F (some .int) (some (.int out.1)) (MW d h out.2)) (H64 : ∀ (x2 : Int32) (x3 : Int32) (x4 : Int32) (σ : zS), k64 x2 x3 x4 σ = some out → V l d F 0 0 (MW d h σ) [some (.ref (h 0)), none, some (.int x2), some (.int x3), some (.int x4)] 64 []) (x2 : Int32) (x3 : Int32) (x4 : Int32) (σ : zS) (hf : f_M_count_64b k64 x2 x3 x4 σ = some out) : V l d F 0 0 (MW d h σ) [some (.ref (h 0)), none, some (.int x2), some (.int x3), some (.int x4)] 64 [] := by
  unfold f_M_count_64b at hf
  refine zr_iload 4 66 C (by decide +kernel) rfl rfl ?_
  refine zr_aload_n 0 67 C (by decide +kernel) rfl rfl ?_
  refine mg_0_0 (idx := 143) 70 C (by decide +kernel) rfl q_991 ?_
  refine zr_icmp_ge (off := 30) 100 73 C (by decide +kernel) (by decide) rfl hf (fun hf => ?_) (fun hf => ?_)
  · refine zr_iload_n 2 101 C (by decide +kernel) rfl rfl ?_
    obtain rfl := Option.some.inj hf
    exact zr_iret C (by decide +kernel) T
  · refine zr_iload_n 3 74 C (by decide +kernel) rfl rfl ?_
    refine zr_iload 4 76 C (by decide +kernel) rfl rfl ?_
    refine zr_ishr 77 C (by decide +kernel) rfl ?_
    refine zr_iconst (v := 1) 1 78 C (by decide +kernel) rfl rfl ?_
    refine zr_iand 79 C (by decide +kernel) rfl ?_
    refine zr_if_ne (off := 15) 94 82 C (by decide +kernel) (by decide) rfl hf (fun hf => ?_) (fun hf => ?_)
    · exact w_M_count_94 C T H64 _ _ _ _ hf
    · refine zr_iload_n 3 83 C (by decide +kernel) rfl rfl ?_
      refine zr_aload_n 0 84 C (by decide +kernel) rfl rfl ?_
      refine zr_iload 4 86 C (by decide +kernel) rfl rfl ?_
      refine k_M_townOf (idx := 251) 89 C (by decide +kernel) rfl q_1282 (zb2 rfl rfl) (Nat.le_of_ble_eq_true rfl) hf (fun r2 σ1 hf => ?_)
      refine zr_ior 90 C (by decide +kernel) rfl ?_
      refine zr_name hf (fun v3 hf => ?_)
      refine zr_istore_n 3 [some (.ref (h 0)), none, some (.int x2), some (.int v3), some (.int x4)] 91 C (by decide +kernel) rfl (by decide) rfl rfl ?_
      refine zr_iinc (j := 1) 2 [some (.ref (h 0)), none, some (.int (x2 + 1)), some (.int v3), some (.int x4)] 94 C (by decide +kernel) rfl rfl rfl (by decide) rfl rfl ?_
      exact w_M_count_94 C T H64 _ _ _ _ hf
def f_M_count_64  : Nat → Int32 → Int32 → Int32 → zS → Option (Int32 × zS)
  | 0, _, _, _, _ => none
  | n + 1, x2, x3, x4,  σ => f_M_count_64b (fun x2 x3 x4 σ => f_M_count_64  n x2 x3 x4 σ) x2 x3 x4 σ
theorem w_M_count_64 {l : Launch} {d : zD} {F : zF} {h : Nat → Nat} {out : Int32 × zS}   (C : zOk d F RX11 cX11_count 5 6 140) (T : zRt d F (some .int) (some (.int out.1)) (MW d h out.2))  : ∀ (n : Nat) (x2 : Int32) (x3 : Int32) (x4 : Int32) (σ : zS), f_M_count_64  n x2 x3 x4 σ = some out → V l d F 0 0 (MW d h σ) [some (.ref (h 0)), none, some (.int x2), some (.int x3), some (.int x4)] 64 [] := by
  intro n
  induction n with
  | zero =>
    intro x2 x3 x4 σ hf
    cases hf
  | succ n ih =>
    intro x2 x3 x4 σ hf
    exact w_M_count_64b C T ih x2 x3 x4 σ hf
def f_M_count (p1 : Int32) (σ : zS) : Option (Int32 × zS) :=
  (if p1 = 0 then
  some (σ.1 0, σ)
  else
  (if p1 = 1 then
  f_M_count_64 zfu 0 0 0 σ
  else
  (if p1 = 2 then
  some (σ.1 3, σ)
  else
  (if p1 = 3 then
  some (σ.1 8, σ)
  else
  (if p1 = 4 then
  some (σ.1 14, σ)
  else
  (if p1 = 5 then
  some (σ.1 17, σ)
  else
  (if p1 = 6 then
  some (σ.1 23, σ)
  else
  (if p1 = 7 then
  some (σ.1 24, σ)
  else
  (if p1 = 8 then
  some (σ.1 20, σ)
  else
  some (-2, σ))))))))))
set_option maxRecDepth 4000 in
theorem m_M_count {l : Launch} {d : zD} {h : Nat → Nat} {out : Int32 × zS} {σ : zS} {p1 : Int32} (hf : f_M_count p1 σ = some out) : zM l yX11_count cX11_count 5 (some .int) 6 140 d [.ref (h 0), .int p1] (MW d h σ) (MW d h out.2) (some (.int out.1)) := by
  refine zM_of [some (.ref (h 0)), some (.int p1), none, none, none] (by decide +kernel) rfl (Nat.le_of_ble_eq_true rfl) (fun F C T => ?_)
  unfold f_M_count at hf
  refine zr_iconst (v := 0) 0 1 C (by decide +kernel) rfl rfl ?_
  refine zr_istore_n 2 [some (.ref (h 0)), some (.int p1), some (.int 0), none, none] 2 C (by decide +kernel) rfl (by decide) rfl rfl ?_
  refine zr_iconst (v := 0) 0 3 C (by decide +kernel) rfl rfl ?_
  refine zr_istore_n 3 [some (.ref (h 0)), some (.int p1), some (.int 0), some (.int 0), none] 4 C (by decide +kernel) rfl (by decide) rfl rfl ?_
  refine zr_iload_n 1 5 C (by decide +kernel) rfl rfl ?_
  refine zr_tcase (dflt := 132) (lw := 0) (hi := 8) (offs := #[51, 56, 97, 102, 107, 112, 117, 122, 127]) (len := 51) (off := 51) (j := 0) 0 56 C (by decide +kernel) (by decide) (by decide) rfl (by decide) hf (fun hf => ?_) (fun hn0 hf => ?_)
  · refine zr_aload_n 0 57 C (by decide +kernel) rfl rfl ?_
    refine mg_0_0 (idx := 143) 60 C (by decide +kernel) rfl q_991 ?_
    obtain rfl := Option.some.inj hf
    exact zr_iret C (by decide +kernel) T
  refine zr_tcase (dflt := 132) (lw := 0) (hi := 8) (offs := #[51, 56, 97, 102, 107, 112, 117, 122, 127]) (len := 51) (off := 56) (j := 1) 1 61 C (by decide +kernel) (by decide) (by decide) rfl (by decide) hf (fun hf => ?_) (fun hn1 hf => ?_)
  · refine zr_iconst (v := 0) 0 62 C (by decide +kernel) rfl rfl ?_
    refine zr_istore 4 [some (.ref (h 0)), some (.int p1), some (.int 0), some (.int 0), some (.int 0)] 64 C (by decide +kernel) rfl (by decide) rfl rfl ?_
    refine zr_less (zA (zN (zA (zA (zA zE))))) ?_
    exact w_M_count_64 C T zfu _ _ _ _ hf
  refine zr_tcase (dflt := 132) (lw := 0) (hi := 8) (offs := #[51, 56, 97, 102, 107, 112, 117, 122, 127]) (len := 51) (off := 97) (j := 2) 2 102 C (by decide +kernel) (by decide) (by decide) rfl (by decide) hf (fun hf => ?_) (fun hn2 hf => ?_)
  · refine zr_aload_n 0 103 C (by decide +kernel) rfl rfl ?_
    refine mg_0_3 (idx := 257) 106 C (by decide +kernel) rfl q_994 ?_
    obtain rfl := Option.some.inj hf
    exact zr_iret C (by decide +kernel) T
  refine zr_tcase (dflt := 132) (lw := 0) (hi := 8) (offs := #[51, 56, 97, 102, 107, 112, 117, 122, 127]) (len := 51) (off := 102) (j := 3) 3 107 C (by decide +kernel) (by decide) (by decide) rfl (by decide) hf (fun hf => ?_) (fun hn3 hf => ?_)
  · refine zr_aload_n 0 108 C (by decide +kernel) rfl rfl ?_
    refine mg_0_8 (idx := 229) 111 C (by decide +kernel) rfl q_999 ?_
    obtain rfl := Option.some.inj hf
    exact zr_iret C (by decide +kernel) T
  refine zr_tcase (dflt := 132) (lw := 0) (hi := 8) (offs := #[51, 56, 97, 102, 107, 112, 117, 122, 127]) (len := 51) (off := 107) (j := 4) 4 112 C (by decide +kernel) (by decide) (by decide) rfl (by decide) hf (fun hf => ?_) (fun hn4 hf => ?_)
  · refine zr_aload_n 0 113 C (by decide +kernel) rfl rfl ?_
    refine mg_0_14 (idx := 328) 116 C (by decide +kernel) rfl q_1005 ?_
    obtain rfl := Option.some.inj hf
    exact zr_iret C (by decide +kernel) T
  refine zr_tcase (dflt := 132) (lw := 0) (hi := 8) (offs := #[51, 56, 97, 102, 107, 112, 117, 122, 127]) (len := 51) (off := 112) (j := 5) 5 117 C (by decide +kernel) (by decide) (by decide) rfl (by decide) hf (fun hf => ?_) (fun hn5 hf => ?_)
  · refine zr_aload_n 0 118 C (by decide +kernel) rfl rfl ?_
    refine mg_0_17 (idx := 337) 121 C (by decide +kernel) rfl q_1008 ?_
    obtain rfl := Option.some.inj hf
    exact zr_iret C (by decide +kernel) T
  refine zr_tcase (dflt := 132) (lw := 0) (hi := 8) (offs := #[51, 56, 97, 102, 107, 112, 117, 122, 127]) (len := 51) (off := 117) (j := 6) 6 122 C (by decide +kernel) (by decide) (by decide) rfl (by decide) hf (fun hf => ?_) (fun hn6 hf => ?_)
  · refine zr_aload_n 0 123 C (by decide +kernel) rfl rfl ?_
    refine mg_0_23 (idx := 58) 126 C (by decide +kernel) rfl q_1014 ?_
    obtain rfl := Option.some.inj hf
    exact zr_iret C (by decide +kernel) T
  refine zr_tcase (dflt := 132) (lw := 0) (hi := 8) (offs := #[51, 56, 97, 102, 107, 112, 117, 122, 127]) (len := 51) (off := 122) (j := 7) 7 127 C (by decide +kernel) (by decide) (by decide) rfl (by decide) hf (fun hf => ?_) (fun hn7 hf => ?_)
  · refine zr_aload_n 0 128 C (by decide +kernel) rfl rfl ?_
    refine mg_0_24 (idx := 218) 131 C (by decide +kernel) rfl q_1015 ?_
    obtain rfl := Option.some.inj hf
    exact zr_iret C (by decide +kernel) T
  refine zr_tcase (dflt := 132) (lw := 0) (hi := 8) (offs := #[51, 56, 97, 102, 107, 112, 117, 122, 127]) (len := 51) (off := 127) (j := 8) 8 132 C (by decide +kernel) (by decide) (by decide) rfl (by decide) hf (fun hf => ?_) (fun hn8 hf => ?_)
  · refine zr_aload_n 0 133 C (by decide +kernel) rfl rfl ?_
    refine mg_0_20 (idx := 157) 136 C (by decide +kernel) rfl q_1011 ?_
    obtain rfl := Option.some.inj hf
    exact zr_iret C (by decide +kernel) T
  refine zr_tdflt (dflt := 132) (lw := 0) (hi := 8) (offs := #[51, 56, 97, 102, 107, 112, 117, 122, 127]) (len := 51) 137 C (by decide +kernel) (by decide) (by decide) (fun j hj hx => ?_) ?_
  · rcases (show j = 0 ∨ j = 1 ∨ j = 2 ∨ j = 3 ∨ j = 4 ∨ j = 5 ∨ j = 6 ∨ j = 7 ∨ j = 8 by have hj2 : j < 9 := hj; omega) with rfl | rfl | rfl | rfl | rfl | rfl | rfl | rfl | rfl
    · exact absurd (z_ti (c := 0) (by decide) hx) hn0
    · exact absurd (z_ti (c := 1) (by decide) hx) hn1
    · exact absurd (z_ti (c := 2) (by decide) hx) hn2
    · exact absurd (z_ti (c := 3) (by decide) hx) hn3
    · exact absurd (z_ti (c := 4) (by decide) hx) hn4
    · exact absurd (z_ti (c := 5) (by decide) hx) hn5
    · exact absurd (z_ti (c := 6) (by decide) hx) hn6
    · exact absurd (z_ti (c := 7) (by decide) hx) hn7
    · exact absurd (z_ti (c := 8) (by decide) hx) hn8
  refine zr_bipush (v := (-2)) (-2) 139 C (by decide +kernel) rfl rfl ?_
  obtain rfl := Option.some.inj hf
  exact zr_iret C (by decide +kernel) T
theorem y_M_count : zY yX11_count cX11_count 5 (some .int) 1 := ⟨q_1449, q_90, by decide +kernel, by decide +kernel, by decide +kernel⟩
theorem k_M_count {l : Launch} {d : zD} {F : zF} {h : Nat → Nat} {σ : zS} {lv : List (Option Value)} {pc : Nat} {own : String} {cc : ByteArray} {nL fr lo idx : Nat} {rest : List Value} {β : Type} {kf : Int32 → zS → Option β} {o2 : β}  {p1 : Int32} (pc' : Nat) (C : zOk d F own cc nL fr lo) (hd : decode cc pc = .ok (.invokevirtual idx, 3)) (hp : pc + 3 = pc') (hq : Cond.methodLink own idx yX11_count ∈ zW) (hm : 6 + 1 ≤ fr ∧ 8 + (5 + 11) + 140 ≤ lo) (hr : (rest.map fun v => v.category).sum ≤ 8) (hf : zbd (f_M_count p1 σ) kf = some o2) (K : ∀ (r : Int32) (σ' : zS), kf r σ' = some o2 → V l d F 0 0 (MW d h σ') lv pc' (.int r :: rest)) : V l d F 0 0 (MW d h σ) lv pc (.int p1 :: .ref (h 0) :: rest) := by
  obtain ⟨q, h1, h2⟩ := zbd_some hf
  exact zr_callV y_M_count ⟨q_1447, q_1448⟩ 0 rfl rfl (As := [.int p1]) (m_M_count h1) rfl rfl pc' C hd hp hq hm hr (K _ _ h2)
/-! StepsBeyondModel.image()I -/
def f_M_image_65b (k65 : Int32 → zS → Option (Int32 × zS)) (x1 : Int32) (σ : zS) : Option (Int32 × zS) :=
  (if 8 ≤ x1 then
  some (σ.1 0, σ)
  else
  zin x1 8 (zin x1 8 (zlt (zsa σ 18 x1 (σ.2 11 x1.toNatClampNeg)) fun σ1 =>
  k65 (x1 + 1) σ1)))
set_option maxRecDepth 4000 in
theorem w_M_image_65b {l : Launch} {d : zD} {F : zF} {h : Nat → Nat} {out : Int32 × zS}  {k65 : Int32 → zS → Option (Int32 × zS)} (C : zOk d F RX11 cX11_image 2 0 0) (T : zRt d F (some .int) (some (.int out.1)) (MW d h out.2)) (H65 : ∀ (x1 : Int32) (σ : zS), k65 x1 σ = some out → V l d F 0 0 (MW d h σ) [some (.ref (h 0)), some (.int x1)] 65 []) (x1 : Int32) (σ : zS) (hf : f_M_image_65b k65 x1 σ = some out) : V l d F 0 0 (MW d h σ) [some (.ref (h 0)), some (.int x1)] 65 [] := by
  unfold f_M_image_65b at hf
  refine zr_iload_n 1 66 C (by decide +kernel) rfl rfl ?_
  refine zr_bipush (v := 8) 8 68 C (by decide +kernel) rfl rfl ?_
  refine zr_icmp_ge (off := 21) 89 71 C (by decide +kernel) (by decide) rfl hf (fun hf => ?_) (fun hf => ?_)
  · refine zr_aload_n 0 90 C (by decide +kernel) rfl rfl ?_
    refine mg_0_0 (idx := 143) 93 C (by decide +kernel) rfl q_991 ?_
    obtain rfl := Option.some.inj hf
    exact zr_iret C (by decide +kernel) T
  · refine zr_aload_n 0 72 C (by decide +kernel) rfl rfl ?_
    refine mg_0_31 (idx := 65) 75 C (by decide +kernel) rfl q_1022 ?_
    refine zr_iload_n 1 76 C (by decide +kernel) rfl rfl ?_
    refine zr_aload_n 0 77 C (by decide +kernel) rfl rfl ?_
    refine mg_0_15 (idx := 40) 80 C (by decide +kernel) rfl q_1006 ?_
    refine zr_iload_n 1 81 C (by decide +kernel) rfl rfl ?_
    refine ml_11 82 C (by decide +kernel) rfl hf (fun hf => ?_)
    refine ms_18 83 C (by decide +kernel) rfl hf (fun σ1 hf => ?_)
    refine zr_iinc (j := 1) 1 [some (.ref (h 0)), some (.int (x1 + 1))] 86 C (by decide +kernel) rfl rfl rfl (by decide) rfl rfl ?_
    refine zr_goto (off := -21) 65 C (by decide +kernel) (by decide) ?_
    exact H65 _ _ hf
def f_M_image_65  : Nat → Int32 → zS → Option (Int32 × zS)
  | 0, _, _ => none
  | n + 1, x1,  σ => f_M_image_65b (fun x1 σ => f_M_image_65  n x1 σ) x1 σ
theorem w_M_image_65 {l : Launch} {d : zD} {F : zF} {h : Nat → Nat} {out : Int32 × zS}   (C : zOk d F RX11 cX11_image 2 0 0) (T : zRt d F (some .int) (some (.int out.1)) (MW d h out.2))  : ∀ (n : Nat) (x1 : Int32) (σ : zS), f_M_image_65  n x1 σ = some out → V l d F 0 0 (MW d h σ) [some (.ref (h 0)), some (.int x1)] 65 [] := by
  intro n
  induction n with
  | zero =>
    intro x1 σ hf
    cases hf
  | succ n ih =>
    intro x1 σ hf
    exact w_M_image_65b C T ih x1 σ hf
def f_M_image_39b (k39 : Int32 → zS → Option (Int32 × zS)) (x1 : Int32) (σ : zS) : Option (Int32 × zS) :=
  (if 20 ≤ x1 then
  f_M_image_65 zfu 0 σ
  else
  zin x1 20 (zin x1 20 (zlt (zsa σ 17 x1 (σ.2 2 x1.toNatClampNeg)) fun σ1 =>
  k39 (x1 + 1) σ1)))
set_option maxRecDepth 4000 in
theorem w_M_image_39b {l : Launch} {d : zD} {F : zF} {h : Nat → Nat} {out : Int32 × zS}  {k39 : Int32 → zS → Option (Int32 × zS)} (C : zOk d F RX11 cX11_image 2 0 0) (T : zRt d F (some .int) (some (.int out.1)) (MW d h out.2)) (H39 : ∀ (x1 : Int32) (σ : zS), k39 x1 σ = some out → V l d F 0 0 (MW d h σ) [some (.ref (h 0)), some (.int x1)] 39 []) (x1 : Int32) (σ : zS) (hf : f_M_image_39b k39 x1 σ = some out) : V l d F 0 0 (MW d h σ) [some (.ref (h 0)), some (.int x1)] 39 [] := by
  unfold f_M_image_39b at hf
  refine zr_iload_n 1 40 C (by decide +kernel) rfl rfl ?_
  refine zr_bipush (v := 20) 20 42 C (by decide +kernel) rfl rfl ?_
  refine zr_icmp_ge (off := 21) 63 45 C (by decide +kernel) (by decide) rfl hf (fun hf => ?_) (fun hf => ?_)
  · refine zr_iconst (v := 0) 0 64 C (by decide +kernel) rfl rfl ?_
    refine zr_istore_n 1 [some (.ref (h 0)), some (.int 0)] 65 C (by decide +kernel) rfl (by decide) rfl rfl ?_
    exact w_M_image_65 C T zfu _ _ hf
  · refine zr_aload_n 0 46 C (by decide +kernel) rfl rfl ?_
    refine mg_0_30 (idx := 62) 49 C (by decide +kernel) rfl q_1021 ?_
    refine zr_iload_n 1 50 C (by decide +kernel) rfl rfl ?_
    refine zr_aload_n 0 51 C (by decide +kernel) rfl rfl ?_
    refine mg_0_2 (idx := 13) 54 C (by decide +kernel) rfl q_993 ?_
    refine zr_iload_n 1 55 C (by decide +kernel) rfl rfl ?_
    refine ml_2 56 C (by decide +kernel) rfl hf (fun hf => ?_)
    refine ms_17 57 C (by decide +kernel) rfl hf (fun σ1 hf => ?_)
    refine zr_iinc (j := 1) 1 [some (.ref (h 0)), some (.int (x1 + 1))] 60 C (by decide +kernel) rfl rfl rfl (by decide) rfl rfl ?_
    refine zr_goto (off := -21) 39 C (by decide +kernel) (by decide) ?_
    exact H39 _ _ hf
def f_M_image_39  : Nat → Int32 → zS → Option (Int32 × zS)
  | 0, _, _ => none
  | n + 1, x1,  σ => f_M_image_39b (fun x1 σ => f_M_image_39  n x1 σ) x1 σ
theorem w_M_image_39 {l : Launch} {d : zD} {F : zF} {h : Nat → Nat} {out : Int32 × zS}   (C : zOk d F RX11 cX11_image 2 0 0) (T : zRt d F (some .int) (some (.int out.1)) (MW d h out.2))  : ∀ (n : Nat) (x1 : Int32) (σ : zS), f_M_image_39  n x1 σ = some out → V l d F 0 0 (MW d h σ) [some (.ref (h 0)), some (.int x1)] 39 [] := by
  intro n
  induction n with
  | zero =>
    intro x1 σ hf
    cases hf
  | succ n ih =>
    intro x1 σ hf
    exact w_M_image_39b C T ih x1 σ hf
def f_M_image  (σ : zS) : Option (Int32 × zS) :=
  zlt (zsg σ 25 1) fun σ1 =>
  zlt (zsg σ1 26 (σ1.1 0)) fun σ2 =>
  zlt (zsg σ2 27 (σ2.1 14)) fun σ3 =>
  zlt (zsg σ3 28 (σ3.1 7)) fun σ4 =>
  zlt (zsg σ4 29 (σ4.1 24)) fun σ5 =>
  f_M_image_39 zfu 0 σ5
set_option maxRecDepth 4000 in
theorem m_M_image {l : Launch} {d : zD} {h : Nat → Nat} {out : Int32 × zS} {σ : zS}  (hf : f_M_image  σ = some out) : zM l yX11_image cX11_image 2 (some .int) 0 0 d [.ref (h 0)] (MW d h σ) (MW d h out.2) (some (.int out.1)) := by
  refine zM_of [some (.ref (h 0)), none] (by decide +kernel) rfl (Nat.le_of_ble_eq_true rfl) (fun F C T => ?_)
  unfold f_M_image at hf
  refine zr_aload_n 0 1 C (by decide +kernel) rfl rfl ?_
  refine zr_iconst (v := 1) 1 2 C (by decide +kernel) rfl rfl ?_
  refine mp_0_25 (idx := 346) 5 C (by decide +kernel) rfl q_1016 rfl hf (fun σ1 hf => ?_)
  refine zr_aload_n 0 6 C (by decide +kernel) rfl rfl ?_
  refine zr_aload_n 0 7 C (by decide +kernel) rfl rfl ?_
  refine mg_0_0 (idx := 143) 10 C (by decide +kernel) rfl q_991 ?_
  refine mp_0_26 (idx := 350) 13 C (by decide +kernel) rfl q_1017 hf (fun σ2 hf => ?_)
  refine zr_aload_n 0 14 C (by decide +kernel) rfl rfl ?_
  refine zr_aload_n 0 15 C (by decide +kernel) rfl rfl ?_
  refine mg_0_14 (idx := 328) 18 C (by decide +kernel) rfl q_1005 ?_
  refine mp_0_27 (idx := 353) 21 C (by decide +kernel) rfl q_1018 hf (fun σ3 hf => ?_)
  refine zr_aload_n 0 22 C (by decide +kernel) rfl rfl ?_
  refine zr_aload_n 0 23 C (by decide +kernel) rfl rfl ?_
  refine mg_0_7 (idx := 260) 26 C (by decide +kernel) rfl q_998 ?_
  refine mp_0_28 (idx := 356) 29 C (by decide +kernel) rfl q_1019 hf (fun σ4 hf => ?_)
  refine zr_aload_n 0 30 C (by decide +kernel) rfl rfl ?_
  refine zr_aload_n 0 31 C (by decide +kernel) rfl rfl ?_
  refine mg_0_24 (idx := 218) 34 C (by decide +kernel) rfl q_1015 ?_
  refine mp_0_29 (idx := 359) 37 C (by decide +kernel) rfl q_1020 hf (fun σ5 hf => ?_)
  refine zr_iconst (v := 0) 0 38 C (by decide +kernel) rfl rfl ?_
  refine zr_istore_n 1 [some (.ref (h 0)), some (.int 0)] 39 C (by decide +kernel) rfl (by decide) rfl rfl ?_
  exact w_M_image_39 C T zfu _ _ hf
theorem y_M_image : zY yX11_image cX11_image 2 (some .int) 0 := ⟨q_1453, q_90, by decide +kernel, by decide +kernel, by decide +kernel⟩
theorem k_M_image {l : Launch} {d : zD} {F : zF} {h : Nat → Nat} {σ : zS} {lv : List (Option Value)} {pc : Nat} {own : String} {cc : ByteArray} {nL fr lo idx : Nat} {rest : List Value} {β : Type} {kf : Int32 → zS → Option β} {o2 : β}   (pc' : Nat) (C : zOk d F own cc nL fr lo) (hd : decode cc pc = .ok (.invokevirtual idx, 3)) (hp : pc + 3 = pc') (hq : Cond.methodLink own idx yX11_image ∈ zW) (hm : 0 + 1 ≤ fr ∧ 8 + (2 + 11) + 0 ≤ lo) (hr : (rest.map fun v => v.category).sum ≤ 8) (hf : zbd (f_M_image  σ) kf = some o2) (K : ∀ (r : Int32) (σ' : zS), kf r σ' = some o2 → V l d F 0 0 (MW d h σ') lv pc' (.int r :: rest)) : V l d F 0 0 (MW d h σ) lv pc (.ref (h 0) :: rest) := by
  obtain ⟨q, h1, h2⟩ := zbd_some hf
  exact zr_callV y_M_image ⟨q_1451, q_1452⟩ 0 rfl rfl (As := []) (m_M_image h1) rfl rfl pc' C hd hp hq hm hr (K _ _ h2)
/-! StepsBeyondModel.back()I -/
def f_M_back_56b (k56 : Int32 → zS → Option (Int32 × zS)) (x1 : Int32) (σ : zS) : Option (Int32 × zS) :=
  (if (σ.1 27) ≤ x1 then
  some (σ.1 0, σ)
  else
  zin x1 8 (zin x1 8 (zlt (zsa σ 11 x1 (σ.2 18 x1.toNatClampNeg)) fun σ1 =>
  k56 (x1 + 1) σ1)))
set_option maxRecDepth 4000 in
theorem w_M_back_56b {l : Launch} {d : zD} {F : zF} {h : Nat → Nat} {out : Int32 × zS}  {k56 : Int32 → zS → Option (Int32 × zS)} (C : zOk d F RX11 cX11_back 2 0 0) (T : zRt d F (some .int) (some (.int out.1)) (MW d h out.2)) (H56 : ∀ (x1 : Int32) (σ : zS), k56 x1 σ = some out → V l d F 0 0 (MW d h σ) [some (.ref (h 0)), some (.int x1)] 56 []) (x1 : Int32) (σ : zS) (hf : f_M_back_56b k56 x1 σ = some out) : V l d F 0 0 (MW d h σ) [some (.ref (h 0)), some (.int x1)] 56 [] := by
  unfold f_M_back_56b at hf
  refine zr_iload_n 1 57 C (by decide +kernel) rfl rfl ?_
  refine zr_aload_n 0 58 C (by decide +kernel) rfl rfl ?_
  refine mg_0_27 (idx := 353) 61 C (by decide +kernel) rfl q_1018 ?_
  refine zr_icmp_ge (off := 21) 82 64 C (by decide +kernel) (by decide) rfl hf (fun hf => ?_) (fun hf => ?_)
  · refine zr_aload_n 0 83 C (by decide +kernel) rfl rfl ?_
    refine mg_0_0 (idx := 143) 86 C (by decide +kernel) rfl q_991 ?_
    obtain rfl := Option.some.inj hf
    exact zr_iret C (by decide +kernel) T
  · refine zr_aload_n 0 65 C (by decide +kernel) rfl rfl ?_
    refine mg_0_15 (idx := 40) 68 C (by decide +kernel) rfl q_1006 ?_
    refine zr_iload_n 1 69 C (by decide +kernel) rfl rfl ?_
    refine zr_aload_n 0 70 C (by decide +kernel) rfl rfl ?_
    refine mg_0_31 (idx := 65) 73 C (by decide +kernel) rfl q_1022 ?_
    refine zr_iload_n 1 74 C (by decide +kernel) rfl rfl ?_
    refine ml_18 75 C (by decide +kernel) rfl hf (fun hf => ?_)
    refine ms_11 76 C (by decide +kernel) rfl hf (fun σ1 hf => ?_)
    refine zr_iinc (j := 1) 1 [some (.ref (h 0)), some (.int (x1 + 1))] 79 C (by decide +kernel) rfl rfl rfl (by decide) rfl rfl ?_
    refine zr_goto (off := -23) 56 C (by decide +kernel) (by decide) ?_
    exact H56 _ _ hf
def f_M_back_56  : Nat → Int32 → zS → Option (Int32 × zS)
  | 0, _, _ => none
  | n + 1, x1,  σ => f_M_back_56b (fun x1 σ => f_M_back_56  n x1 σ) x1 σ
theorem w_M_back_56 {l : Launch} {d : zD} {F : zF} {h : Nat → Nat} {out : Int32 × zS}   (C : zOk d F RX11 cX11_back 2 0 0) (T : zRt d F (some .int) (some (.int out.1)) (MW d h out.2))  : ∀ (n : Nat) (x1 : Int32) (σ : zS), f_M_back_56  n x1 σ = some out → V l d F 0 0 (MW d h σ) [some (.ref (h 0)), some (.int x1)] 56 [] := by
  intro n
  induction n with
  | zero =>
    intro x1 σ hf
    cases hf
  | succ n ih =>
    intro x1 σ hf
    exact w_M_back_56b C T ih x1 σ hf
def f_M_back_28b (k28 : Int32 → zS → Option (Int32 × zS)) (x1 : Int32) (σ : zS) : Option (Int32 × zS) :=
  (if (σ.1 26) ≤ x1 then
  f_M_back_56 zfu 0 σ
  else
  zin x1 20 (zin x1 20 (zlt (zsa σ 2 x1 (σ.2 17 x1.toNatClampNeg)) fun σ1 =>
  k28 (x1 + 1) σ1)))
set_option maxRecDepth 4000 in
theorem w_M_back_28b {l : Launch} {d : zD} {F : zF} {h : Nat → Nat} {out : Int32 × zS}  {k28 : Int32 → zS → Option (Int32 × zS)} (C : zOk d F RX11 cX11_back 2 0 0) (T : zRt d F (some .int) (some (.int out.1)) (MW d h out.2)) (H28 : ∀ (x1 : Int32) (σ : zS), k28 x1 σ = some out → V l d F 0 0 (MW d h σ) [some (.ref (h 0)), some (.int x1)] 28 []) (x1 : Int32) (σ : zS) (hf : f_M_back_28b k28 x1 σ = some out) : V l d F 0 0 (MW d h σ) [some (.ref (h 0)), some (.int x1)] 28 [] := by
  unfold f_M_back_28b at hf
  refine zr_iload_n 1 29 C (by decide +kernel) rfl rfl ?_
  refine zr_aload_n 0 30 C (by decide +kernel) rfl rfl ?_
  refine mg_0_26 (idx := 350) 33 C (by decide +kernel) rfl q_1017 ?_
  refine zr_icmp_ge (off := 21) 54 36 C (by decide +kernel) (by decide) rfl hf (fun hf => ?_) (fun hf => ?_)
  · refine zr_iconst (v := 0) 0 55 C (by decide +kernel) rfl rfl ?_
    refine zr_istore_n 1 [some (.ref (h 0)), some (.int 0)] 56 C (by decide +kernel) rfl (by decide) rfl rfl ?_
    exact w_M_back_56 C T zfu _ _ hf
  · refine zr_aload_n 0 37 C (by decide +kernel) rfl rfl ?_
    refine mg_0_2 (idx := 13) 40 C (by decide +kernel) rfl q_993 ?_
    refine zr_iload_n 1 41 C (by decide +kernel) rfl rfl ?_
    refine zr_aload_n 0 42 C (by decide +kernel) rfl rfl ?_
    refine mg_0_30 (idx := 62) 45 C (by decide +kernel) rfl q_1021 ?_
    refine zr_iload_n 1 46 C (by decide +kernel) rfl rfl ?_
    refine ml_17 47 C (by decide +kernel) rfl hf (fun hf => ?_)
    refine ms_2 48 C (by decide +kernel) rfl hf (fun σ1 hf => ?_)
    refine zr_iinc (j := 1) 1 [some (.ref (h 0)), some (.int (x1 + 1))] 51 C (by decide +kernel) rfl rfl rfl (by decide) rfl rfl ?_
    refine zr_goto (off := -23) 28 C (by decide +kernel) (by decide) ?_
    exact H28 _ _ hf
def f_M_back_28  : Nat → Int32 → zS → Option (Int32 × zS)
  | 0, _, _ => none
  | n + 1, x1,  σ => f_M_back_28b (fun x1 σ => f_M_back_28  n x1 σ) x1 σ
theorem w_M_back_28 {l : Launch} {d : zD} {F : zF} {h : Nat → Nat} {out : Int32 × zS}   (C : zOk d F RX11 cX11_back 2 0 0) (T : zRt d F (some .int) (some (.int out.1)) (MW d h out.2))  : ∀ (n : Nat) (x1 : Int32) (σ : zS), f_M_back_28  n x1 σ = some out → V l d F 0 0 (MW d h σ) [some (.ref (h 0)), some (.int x1)] 28 [] := by
  intro n
  induction n with
  | zero =>
    intro x1 σ hf
    cases hf
  | succ n ih =>
    intro x1 σ hf
    exact w_M_back_28b C T ih x1 σ hf
def f_M_back  (σ : zS) : Option (Int32 × zS) :=
  (if (σ.1 25) = 0 then
  some (-3, σ)
  else
  zlt (zsg σ 7 (σ.1 28)) fun σ1 =>
  zlt (zsg σ1 24 (σ1.1 29)) fun σ2 =>
  f_M_back_28 zfu 0 σ2)
set_option maxRecDepth 4000 in
theorem m_M_back {l : Launch} {d : zD} {h : Nat → Nat} {out : Int32 × zS} {σ : zS}  (hf : f_M_back  σ = some out) : zM l yX11_back cX11_back 2 (some .int) 0 0 d [.ref (h 0)] (MW d h σ) (MW d h out.2) (some (.int out.1)) := by
  refine zM_of [some (.ref (h 0)), none] (by decide +kernel) rfl (Nat.le_of_ble_eq_true rfl) (fun F C T => ?_)
  unfold f_M_back at hf
  refine zr_aload_n 0 1 C (by decide +kernel) rfl rfl ?_
  refine mg_0_25 (idx := 346) 4 C (by decide +kernel) rfl q_1016 ?_
  refine zr_if_ne (off := 6) 10 7 C (by decide +kernel) (by decide) rfl hf (fun hf => ?_) (fun hf => ?_)
  · refine zr_aload_n 0 11 C (by decide +kernel) rfl rfl ?_
    refine zr_aload_n 0 12 C (by decide +kernel) rfl rfl ?_
    refine mg_0_28 (idx := 356) 15 C (by decide +kernel) rfl q_1019 ?_
    refine mp_0_7 (idx := 260) 18 C (by decide +kernel) rfl q_998 hf (fun σ1 hf => ?_)
    refine zr_aload_n 0 19 C (by decide +kernel) rfl rfl ?_
    refine zr_aload_n 0 20 C (by decide +kernel) rfl rfl ?_
    refine mg_0_29 (idx := 359) 23 C (by decide +kernel) rfl q_1020 ?_
    refine mp_0_24 (idx := 218) 26 C (by decide +kernel) rfl q_1015 hf (fun σ2 hf => ?_)
    refine zr_iconst (v := 0) 0 27 C (by decide +kernel) rfl rfl ?_
    refine zr_istore_n 1 [some (.ref (h 0)), some (.int 0)] 28 C (by decide +kernel) rfl (by decide) rfl rfl ?_
    exact w_M_back_28 C T zfu _ _ hf
  · refine zr_bipush (v := (-3)) (-3) 9 C (by decide +kernel) rfl rfl ?_
    obtain rfl := Option.some.inj hf
    exact zr_iret C (by decide +kernel) T
theorem y_M_back : zY yX11_back cX11_back 2 (some .int) 0 := ⟨q_1457, q_90, by decide +kernel, by decide +kernel, by decide +kernel⟩
theorem k_M_back {l : Launch} {d : zD} {F : zF} {h : Nat → Nat} {σ : zS} {lv : List (Option Value)} {pc : Nat} {own : String} {cc : ByteArray} {nL fr lo idx : Nat} {rest : List Value} {β : Type} {kf : Int32 → zS → Option β} {o2 : β}   (pc' : Nat) (C : zOk d F own cc nL fr lo) (hd : decode cc pc = .ok (.invokevirtual idx, 3)) (hp : pc + 3 = pc') (hq : Cond.methodLink own idx yX11_back ∈ zW) (hm : 0 + 1 ≤ fr ∧ 8 + (2 + 11) + 0 ≤ lo) (hr : (rest.map fun v => v.category).sum ≤ 8) (hf : zbd (f_M_back  σ) kf = some o2) (K : ∀ (r : Int32) (σ' : zS), kf r σ' = some o2 → V l d F 0 0 (MW d h σ') lv pc' (.int r :: rest)) : V l d F 0 0 (MW d h σ) lv pc (.ref (h 0) :: rest) := by
  obtain ⟨q, h1, h2⟩ := zbd_some hf
  exact zr_callV y_M_back ⟨q_1455, q_1456⟩ 0 rfl rfl (As := []) (m_M_back h1) rfl rfl pc' C hd hp hq hm hr (K _ _ h2)
/-! StepsBeyondModel.sheet(III)I -/
def f_M_sheet_70b (k70 : Int32 → Int32 → zS → Option (Int32 × zS)) (x1 : Int32) (x4 : Int32) (σ : zS) : Option (Int32 × zS) :=
  (if 40 ≤ x4 then
  some (1, σ)
  else
  zin ((40 * x1) + x4) 160 (zlt (zsa σ 21 ((40 * x1) + x4) 0) fun σ1 =>
  k70 x1 (x4 + 1) σ1))
set_option maxRecDepth 4000 in
theorem w_M_sheet_70b {l : Launch} {d : zD} {F : zF} {h : Nat → Nat} {out : Int32 × zS}  {k70 : Int32 → Int32 → zS → Option (Int32 × zS)} (C : zOk d F RX11 cX11_sheet 5 1 22) (T : zRt d F (some .int) (some (.int out.1)) (MW d h out.2)) (H70 : ∀ (x1 : Int32) (x4 : Int32) (σ : zS), k70 x1 x4 σ = some out → V l d F 0 0 (MW d h σ) [some (.ref (h 0)), some (.int x1), none, none, some (.int x4)] 70 []) (x1 : Int32) (x4 : Int32) (σ : zS) (hf : f_M_sheet_70b k70 x1 x4 σ = some out) : V l d F 0 0 (MW d h σ) [some (.ref (h 0)), some (.int x1), none, none, some (.int x4)] 70 [] := by
  unfold f_M_sheet_70b at hf
  refine zr_iload 4 72 C (by decide +kernel) rfl rfl ?_
  refine zr_bipush (v := 40) 40 74 C (by decide +kernel) rfl rfl ?_
  refine zr_icmp_ge (off := 22) 96 77 C (by decide +kernel) (by decide) rfl hf (fun hf => ?_) (fun hf => ?_)
  · refine zr_iconst (v := 1) 1 97 C (by decide +kernel) rfl rfl ?_
    obtain rfl := Option.some.inj hf
    exact zr_iret C (by decide +kernel) T
  · refine zr_aload_n 0 78 C (by decide +kernel) rfl rfl ?_
    refine mg_0_34 (idx := 74) 81 C (by decide +kernel) rfl q_1025 ?_
    refine zr_bipush (v := 40) 40 83 C (by decide +kernel) rfl rfl ?_
    refine zr_iload_n 1 84 C (by decide +kernel) rfl rfl ?_
    refine zr_imul 85 C (by decide +kernel) rfl ?_
    refine zr_iload 4 87 C (by decide +kernel) rfl rfl ?_
    refine zr_iadd 88 C (by decide +kernel) rfl ?_
    refine zr_iconst (v := 0) 0 89 C (by decide +kernel) rfl rfl ?_
    refine ms_21 90 C (by decide +kernel) rfl hf (fun σ1 hf => ?_)
    refine zr_iinc (j := 1) 4 [some (.ref (h 0)), some (.int x1), none, none, some (.int (x4 + 1))] 93 C (by decide +kernel) rfl rfl rfl (by decide) rfl rfl ?_
    refine zr_goto (off := -23) 70 C (by decide +kernel) (by decide) ?_
    exact H70 _ _ _ hf
def f_M_sheet_70  : Nat → Int32 → Int32 → zS → Option (Int32 × zS)
  | 0, _, _, _ => none
  | n + 1, x1, x4,  σ => f_M_sheet_70b (fun x1 x4 σ => f_M_sheet_70  n x1 x4 σ) x1 x4 σ
theorem w_M_sheet_70 {l : Launch} {d : zD} {F : zF} {h : Nat → Nat} {out : Int32 × zS}   (C : zOk d F RX11 cX11_sheet 5 1 22) (T : zRt d F (some .int) (some (.int out.1)) (MW d h out.2))  : ∀ (n : Nat) (x1 : Int32) (x4 : Int32) (σ : zS), f_M_sheet_70  n x1 x4 σ = some out → V l d F 0 0 (MW d h σ) [some (.ref (h 0)), some (.int x1), none, none, some (.int x4)] 70 [] := by
  intro n
  induction n with
  | zero =>
    intro x1 x4 σ hf
    cases hf
  | succ n ih =>
    intro x1 x4 σ hf
    exact w_M_sheet_70b C T ih x1 x4 σ hf
def f_M_sheet_66  (x1 : Int32) (y1 : Int32) (y2 : Int32) (σ : zS) : Option (Int32 × zS) :=
  zin y1 4 (zlt (zsa σ 20 y1 y2) fun σ1 =>
  f_M_sheet_70 zfu x1 0 σ1)
set_option maxRecDepth 4000 in
theorem w_M_sheet_66 {l : Launch} {d : zD} {F : zF} {h : Nat → Nat} {out : Int32 × zS}   (C : zOk d F RX11 cX11_sheet 5 1 22) (T : zRt d F (some .int) (some (.int out.1)) (MW d h out.2))  (x1 : Int32) (y1 : Int32) (y2 : Int32) (σ : zS) (hf : f_M_sheet_66  x1 y1 y2 σ = some out) : V l d F 0 0 (MW d h σ) [some (.ref (h 0)), some (.int x1), none, none, none] 66 [.int y2, .int y1, .ref (h 20)] := by
  unfold f_M_sheet_66 at hf
  refine ms_20 67 C (by decide +kernel) rfl hf (fun σ1 hf => ?_)
  refine zr_iconst (v := 0) 0 68 C (by decide +kernel) rfl rfl ?_
  refine zr_istore 4 [some (.ref (h 0)), some (.int x1), none, none, some (.int 0)] 70 C (by decide +kernel) rfl (by decide) rfl rfl ?_
  exact w_M_sheet_70 C T zfu _ _ _ hf
def f_M_sheet_44  (x1 : Int32) (x2 : Int32) (x3 : Int32) (σ : zS) : Option (Int32 × zS) :=
  zin x1 4 (zlt (zsa σ 19 x1 x2) fun σ1 =>
  (if x2 = (-1) then
  f_M_sheet_66 x1 x1 0 σ1
  else
  f_M_sheet_66 x1 x1 x3 σ1))
set_option maxRecDepth 4000 in
theorem w_M_sheet_44 {l : Launch} {d : zD} {F : zF} {h : Nat → Nat} {out : Int32 × zS}   (C : zOk d F RX11 cX11_sheet 5 1 22) (T : zRt d F (some .int) (some (.int out.1)) (MW d h out.2))  (x1 : Int32) (x2 : Int32) (x3 : Int32) (σ : zS) (hf : f_M_sheet_44  x1 x2 x3 σ = some out) : V l d F 0 0 (MW d h σ) [some (.ref (h 0)), some (.int x1), some (.int x2), some (.int x3), none] 44 [] := by
  unfold f_M_sheet_44 at hf
  refine zr_aload_n 0 45 C (by decide +kernel) rfl rfl ?_
  refine mg_0_32 (idx := 68) 48 C (by decide +kernel) rfl q_1023 ?_
  refine zr_iload_n 1 49 C (by decide +kernel) rfl rfl ?_
  refine zr_iload_n 2 50 C (by decide +kernel) rfl rfl ?_
  refine ms_19 51 C (by decide +kernel) rfl hf (fun σ1 hf => ?_)
  refine zr_aload_n 0 52 C (by decide +kernel) rfl rfl ?_
  refine mg_0_33 (idx := 71) 55 C (by decide +kernel) rfl q_1024 ?_
  refine zr_iload_n 1 56 C (by decide +kernel) rfl rfl ?_
  refine zr_iload_n 2 57 C (by decide +kernel) rfl rfl ?_
  refine zr_iconst (v := (-1)) (-1) 58 C (by decide +kernel) rfl rfl ?_
  refine zr_icmp_ne (off := 7) 65 61 C (by decide +kernel) (by decide) rfl hf (fun hf => ?_) (fun hf => ?_)
  · refine zr_iload_n 3 66 C (by decide +kernel) rfl rfl ?_
    refine zr_less (zA (zA (zN (zN (zN zE))))) ?_
    exact w_M_sheet_66 C T _ _ _ _ hf
  · refine zr_iconst (v := 0) 0 62 C (by decide +kernel) rfl rfl ?_
    refine zr_goto (off := 4) 66 C (by decide +kernel) (by decide) ?_
    refine zr_less (zA (zA (zN (zN (zN zE))))) ?_
    exact w_M_sheet_66 C T _ _ _ _ hf
def f_M_sheet_32  (x1 : Int32) (x2 : Int32) (x3 : Int32) (σ : zS) : Option (Int32 × zS) :=
  (if x2 = (-1) then
  f_M_sheet_44 x1 x2 x3 σ
  else
  (if 0 ≤ x3 then
  f_M_sheet_44 x1 x2 x3 σ
  else
  some (-14, σ)))
set_option maxRecDepth 4000 in
theorem w_M_sheet_32 {l : Launch} {d : zD} {F : zF} {h : Nat → Nat} {out : Int32 × zS}   (C : zOk d F RX11 cX11_sheet 5 1 22) (T : zRt d F (some .int) (some (.int out.1)) (MW d h out.2))  (x1 : Int32) (x2 : Int32) (x3 : Int32) (σ : zS) (hf : f_M_sheet_32  x1 x2 x3 σ = some out) : V l d F 0 0 (MW d h σ) [some (.ref (h 0)), some (.int x1), some (.int x2), some (.int x3), none] 32 [] := by
  unfold f_M_sheet_32 at hf
  refine zr_iload_n 2 33 C (by decide +kernel) rfl rfl ?_
  refine zr_iconst (v := (-1)) (-1) 34 C (by decide +kernel) rfl rfl ?_
  refine zr_icmp_eq (off := 10) 44 37 C (by decide +kernel) (by decide) rfl hf (fun hf => ?_) (fun hf => ?_)
  · exact w_M_sheet_44 C T _ _ _ _ hf
  · refine zr_iload_n 3 38 C (by decide +kernel) rfl rfl ?_
    refine zr_if_ge (off := 6) 44 41 C (by decide +kernel) (by decide) rfl hf (fun hf => ?_) (fun hf => ?_)
    · exact w_M_sheet_44 C T _ _ _ _ hf
    · refine zr_bipush (v := (-14)) (-14) 43 C (by decide +kernel) rfl rfl ?_
      obtain rfl := Option.some.inj hf
      exact zr_iret C (by decide +kernel) T
def f_M_sheet (p1 : Int32) (p2 : Int32) (p3 : Int32) (σ : zS) : Option (Int32 × zS) :=
  zbd (f_M_in p1 0 3 σ) fun r2 σ1 =>
  (if r2 = 0 then
  some (-2, σ1)
  else
  zbd (f_M_in p2 (-1) 2 σ1) fun r4 σ3 =>
  (if r4 = 0 then
  some (-2, σ3)
  else
  (if p2 = (-1) then
  f_M_sheet_32 p1 p2 p3 σ3
  else
  (if p3 ≤ 40 then
  f_M_sheet_32 p1 p2 p3 σ3
  else
  some (-2, σ3)))))
set_option maxRecDepth 4000 in
theorem m_M_sheet {l : Launch} {d : zD} {h : Nat → Nat} {out : Int32 × zS} {σ : zS} {p1 : Int32} {p2 : Int32} {p3 : Int32} (hf : f_M_sheet p1 p2 p3 σ = some out) : zM l yX11_sheet cX11_sheet 5 (some .int) 1 22 d [.ref (h 0), .int p1, .int p2, .int p3] (MW d h σ) (MW d h out.2) (some (.int out.1)) := by
  refine zM_of [some (.ref (h 0)), some (.int p1), some (.int p2), some (.int p3), none] (by decide +kernel) rfl (Nat.le_of_ble_eq_true rfl) (fun F C T => ?_)
  unfold f_M_sheet at hf
  refine zr_iload_n 1 1 C (by decide +kernel) rfl rfl ?_
  refine zr_iconst (v := 0) 0 2 C (by decide +kernel) rfl rfl ?_
  refine zr_iconst (v := 3) 3 3 C (by decide +kernel) rfl rfl ?_
  refine k_M_in (idx := 139) 6 C (by decide +kernel) rfl q_1181 (zb2 rfl rfl) (Nat.le_of_ble_eq_true rfl) hf (fun r2 σ1 hf => ?_)
  refine zr_if_eq (off := 23) 29 9 C (by decide +kernel) (by decide) rfl hf (fun hf => ?_) (fun hf => ?_)
  · refine zr_bipush (v := (-2)) (-2) 31 C (by decide +kernel) rfl rfl ?_
    obtain rfl := Option.some.inj hf
    exact zr_iret C (by decide +kernel) T
  · refine zr_iload_n 2 10 C (by decide +kernel) rfl rfl ?_
    refine zr_iconst (v := (-1)) (-1) 11 C (by decide +kernel) rfl rfl ?_
    refine zr_iconst (v := 2) 2 12 C (by decide +kernel) rfl rfl ?_
    refine k_M_in (idx := 139) 15 C (by decide +kernel) rfl q_1181 (zb2 rfl rfl) (Nat.le_of_ble_eq_true rfl) hf (fun r4 σ3 hf => ?_)
    refine zr_if_eq (off := 14) 29 18 C (by decide +kernel) (by decide) rfl hf (fun hf => ?_) (fun hf => ?_)
    · refine zr_bipush (v := (-2)) (-2) 31 C (by decide +kernel) rfl rfl ?_
      obtain rfl := Option.some.inj hf
      exact zr_iret C (by decide +kernel) T
    · refine zr_iload_n 2 19 C (by decide +kernel) rfl rfl ?_
      refine zr_iconst (v := (-1)) (-1) 20 C (by decide +kernel) rfl rfl ?_
      refine zr_icmp_eq (off := 12) 32 23 C (by decide +kernel) (by decide) rfl hf (fun hf => ?_) (fun hf => ?_)
      · exact w_M_sheet_32 C T _ _ _ _ hf
      · refine zr_iload_n 3 24 C (by decide +kernel) rfl rfl ?_
        refine zr_bipush (v := 40) 40 26 C (by decide +kernel) rfl rfl ?_
        refine zr_icmp_le (off := 6) 32 29 C (by decide +kernel) (by decide) rfl hf (fun hf => ?_) (fun hf => ?_)
        · exact w_M_sheet_32 C T _ _ _ _ hf
        · refine zr_bipush (v := (-2)) (-2) 31 C (by decide +kernel) rfl rfl ?_
          obtain rfl := Option.some.inj hf
          exact zr_iret C (by decide +kernel) T
theorem y_M_sheet : zY yX11_sheet cX11_sheet 5 (some .int) 3 := ⟨q_1461, q_90, by decide +kernel, by decide +kernel, by decide +kernel⟩
theorem k_M_sheet {l : Launch} {d : zD} {F : zF} {h : Nat → Nat} {σ : zS} {lv : List (Option Value)} {pc : Nat} {own : String} {cc : ByteArray} {nL fr lo idx : Nat} {rest : List Value} {β : Type} {kf : Int32 → zS → Option β} {o2 : β}  {p1 : Int32} {p2 : Int32} {p3 : Int32} (pc' : Nat) (C : zOk d F own cc nL fr lo) (hd : decode cc pc = .ok (.invokevirtual idx, 3)) (hp : pc + 3 = pc') (hq : Cond.methodLink own idx yX11_sheet ∈ zW) (hm : 1 + 1 ≤ fr ∧ 8 + (5 + 11) + 22 ≤ lo) (hr : (rest.map fun v => v.category).sum ≤ 8) (hf : zbd (f_M_sheet p1 p2 p3 σ) kf = some o2) (K : ∀ (r : Int32) (σ' : zS), kf r σ' = some o2 → V l d F 0 0 (MW d h σ') lv pc' (.int r :: rest)) : V l d F 0 0 (MW d h σ) lv pc (.int p3 :: .int p2 :: .int p1 :: .ref (h 0) :: rest) := by
  obtain ⟨q, h1, h2⟩ := zbd_some hf
  exact zr_callV y_M_sheet ⟨q_1459, q_1460⟩ 0 rfl rfl (As := [.int p1, .int p2, .int p3]) (m_M_sheet h1) rfl rfl pc' C hd hp hq hm hr (K _ _ h2)
/-! StepsBeyondModel.cell(III)I -/
def f_M_cell_84  (y1 : Int32) (y2 : Int32) (σ : zS) : Option (Int32 × zS) :=
  zin y1 160 (zlt (zsa σ 21 y1 y2) fun σ1 =>
  some (1, σ1))
set_option maxRecDepth 4000 in
theorem w_M_cell_84 {l : Launch} {d : zD} {F : zF} {h : Nat → Nat} {out : Int32 × zS}   (C : zOk d F RX11 cX11_cell 4 1 22) (T : zRt d F (some .int) (some (.int out.1)) (MW d h out.2))  (y1 : Int32) (y2 : Int32) (σ : zS) (hf : f_M_cell_84  y1 y2 σ = some out) : V l d F 0 0 (MW d h σ) [none, none, none, none] 84 [.int y2, .int y1, .ref (h 21)] := by
  unfold f_M_cell_84 at hf
  refine ms_21 85 C (by decide +kernel) rfl hf (fun σ1 hf => ?_)
  refine zr_iconst (v := 1) 1 86 C (by decide +kernel) rfl rfl ?_
  obtain rfl := Option.some.inj hf
  exact zr_iret C (by decide +kernel) T
def f_M_cell (p1 : Int32) (p2 : Int32) (p3 : Int32) (σ : zS) : Option (Int32 × zS) :=
  zbd (f_M_in p1 0 3 σ) fun r2 σ1 =>
  (if r2 = 0 then
  some (-2, σ1)
  else
  zin p1 4 ((if (σ1.2 19 p1.toNatClampNeg) = (-1) then
  some (-11, σ1)
  else
  zin p1 4 (zbd (f_M_in p2 0 ((σ1.2 20 p1.toNatClampNeg) - 1) σ1) fun r4 σ3 =>
  (if r4 = 0 then
  some (-12, σ3)
  else
  zin p1 4 ((if (σ3.2 19 p1.toNatClampNeg) = 0 then
  f_M_cell_84 ((40 * p1) + p2) p3.toInt8.toInt32 σ3
  else
  zin p1 4 ((if (σ3.2 19 p1.toNatClampNeg) = 1 then
  f_M_cell_84 ((40 * p1) + p2) p3.toInt16.toInt32 σ3
  else
  f_M_cell_84 ((40 * p1) + p2) p3 σ3)))))))))
set_option maxRecDepth 4000 in
theorem m_M_cell {l : Launch} {d : zD} {h : Nat → Nat} {out : Int32 × zS} {σ : zS} {p1 : Int32} {p2 : Int32} {p3 : Int32} (hf : f_M_cell p1 p2 p3 σ = some out) : zM l yX11_cell cX11_cell 4 (some .int) 1 22 d [.ref (h 0), .int p1, .int p2, .int p3] (MW d h σ) (MW d h out.2) (some (.int out.1)) := by
  refine zM_of [some (.ref (h 0)), some (.int p1), some (.int p2), some (.int p3)] (by decide +kernel) rfl (Nat.le_of_ble_eq_true rfl) (fun F C T => ?_)
  unfold f_M_cell at hf
  refine zr_iload_n 1 1 C (by decide +kernel) rfl rfl ?_
  refine zr_iconst (v := 0) 0 2 C (by decide +kernel) rfl rfl ?_
  refine zr_iconst (v := 3) 3 3 C (by decide +kernel) rfl rfl ?_
  refine k_M_in (idx := 139) 6 C (by decide +kernel) rfl q_1181 (zb2 rfl rfl) (Nat.le_of_ble_eq_true rfl) hf (fun r2 σ1 hf => ?_)
  refine zr_if_ne (off := 6) 12 9 C (by decide +kernel) (by decide) rfl hf (fun hf => ?_) (fun hf => ?_)
  · refine zr_aload_n 0 13 C (by decide +kernel) rfl rfl ?_
    refine mg_0_32 (idx := 68) 16 C (by decide +kernel) rfl q_1023 ?_
    refine zr_iload_n 1 17 C (by decide +kernel) rfl rfl ?_
    refine ml_19 18 C (by decide +kernel) rfl hf (fun hf => ?_)
    refine zr_iconst (v := (-1)) (-1) 19 C (by decide +kernel) rfl rfl ?_
    refine zr_icmp_ne (off := 6) 25 22 C (by decide +kernel) (by decide) rfl hf (fun hf => ?_) (fun hf => ?_)
    · refine zr_iload_n 2 26 C (by decide +kernel) rfl rfl ?_
      refine zr_iconst (v := 0) 0 27 C (by decide +kernel) rfl rfl ?_
      refine zr_aload_n 0 28 C (by decide +kernel) rfl rfl ?_
      refine mg_0_33 (idx := 71) 31 C (by decide +kernel) rfl q_1024 ?_
      refine zr_iload_n 1 32 C (by decide +kernel) rfl rfl ?_
      refine ml_20 33 C (by decide +kernel) rfl hf (fun hf => ?_)
      refine zr_iconst (v := 1) 1 34 C (by decide +kernel) rfl rfl ?_
      refine zr_isub 35 C (by decide +kernel) rfl ?_
      refine k_M_in (idx := 139) 38 C (by decide +kernel) rfl q_1181 (zb2 rfl rfl) (Nat.le_of_ble_eq_true rfl) hf (fun r4 σ3 hf => ?_)
      refine zr_if_ne (off := 6) 44 41 C (by decide +kernel) (by decide) rfl hf (fun hf => ?_) (fun hf => ?_)
      · refine zr_aload_n 0 45 C (by decide +kernel) rfl rfl ?_
        refine mg_0_34 (idx := 74) 48 C (by decide +kernel) rfl q_1025 ?_
        refine zr_bipush (v := 40) 40 50 C (by decide +kernel) rfl rfl ?_
        refine zr_iload_n 1 51 C (by decide +kernel) rfl rfl ?_
        refine zr_imul 52 C (by decide +kernel) rfl ?_
        refine zr_iload_n 2 53 C (by decide +kernel) rfl rfl ?_
        refine zr_iadd 54 C (by decide +kernel) rfl ?_
        refine zr_aload_n 0 55 C (by decide +kernel) rfl rfl ?_
        refine mg_0_32 (idx := 68) 58 C (by decide +kernel) rfl q_1023 ?_
        refine zr_iload_n 1 59 C (by decide +kernel) rfl rfl ?_
        refine ml_19 60 C (by decide +kernel) rfl hf (fun hf => ?_)
        refine zr_if_ne (off := 8) 68 63 C (by decide +kernel) (by decide) rfl hf (fun hf => ?_) (fun hf => ?_)
        · refine zr_aload_n 0 69 C (by decide +kernel) rfl rfl ?_
          refine mg_0_32 (idx := 68) 72 C (by decide +kernel) rfl q_1023 ?_
          refine zr_iload_n 1 73 C (by decide +kernel) rfl rfl ?_
          refine ml_19 74 C (by decide +kernel) rfl hf (fun hf => ?_)
          refine zr_iconst (v := 1) 1 75 C (by decide +kernel) rfl rfl ?_
          refine zr_icmp_ne (off := 8) 83 78 C (by decide +kernel) (by decide) rfl hf (fun hf => ?_) (fun hf => ?_)
          · refine zr_iload_n 3 84 C (by decide +kernel) rfl rfl ?_
            refine zr_less (zN (zN (zN (zN zE)))) ?_
            exact w_M_cell_84 C T _ _ _ hf
          · refine zr_iload_n 3 79 C (by decide +kernel) rfl rfl ?_
            refine zr_i2s 80 C (by decide +kernel) rfl ?_
            refine zr_goto (off := 4) 84 C (by decide +kernel) (by decide) ?_
            refine zr_less (zN (zN (zN (zN zE)))) ?_
            exact w_M_cell_84 C T _ _ _ hf
        · refine zr_iload_n 3 64 C (by decide +kernel) rfl rfl ?_
          refine zr_i2b 65 C (by decide +kernel) rfl ?_
          refine zr_goto (off := 19) 84 C (by decide +kernel) (by decide) ?_
          refine zr_less (zN (zN (zN (zN zE)))) ?_
          exact w_M_cell_84 C T _ _ _ hf
      · refine zr_bipush (v := (-12)) (-12) 43 C (by decide +kernel) rfl rfl ?_
        obtain rfl := Option.some.inj hf
        exact zr_iret C (by decide +kernel) T
    · refine zr_bipush (v := (-11)) (-11) 24 C (by decide +kernel) rfl rfl ?_
      obtain rfl := Option.some.inj hf
      exact zr_iret C (by decide +kernel) T
  · refine zr_bipush (v := (-2)) (-2) 11 C (by decide +kernel) rfl rfl ?_
    obtain rfl := Option.some.inj hf
    exact zr_iret C (by decide +kernel) T
theorem y_M_cell : zY yX11_cell cX11_cell 4 (some .int) 3 := ⟨q_1465, q_90, by decide +kernel, by decide +kernel, by decide +kernel⟩
theorem k_M_cell {l : Launch} {d : zD} {F : zF} {h : Nat → Nat} {σ : zS} {lv : List (Option Value)} {pc : Nat} {own : String} {cc : ByteArray} {nL fr lo idx : Nat} {rest : List Value} {β : Type} {kf : Int32 → zS → Option β} {o2 : β}  {p1 : Int32} {p2 : Int32} {p3 : Int32} (pc' : Nat) (C : zOk d F own cc nL fr lo) (hd : decode cc pc = .ok (.invokevirtual idx, 3)) (hp : pc + 3 = pc') (hq : Cond.methodLink own idx yX11_cell ∈ zW) (hm : 1 + 1 ≤ fr ∧ 8 + (4 + 11) + 22 ≤ lo) (hr : (rest.map fun v => v.category).sum ≤ 8) (hf : zbd (f_M_cell p1 p2 p3 σ) kf = some o2) (K : ∀ (r : Int32) (σ' : zS), kf r σ' = some o2 → V l d F 0 0 (MW d h σ') lv pc' (.int r :: rest)) : V l d F 0 0 (MW d h σ) lv pc (.int p3 :: .int p2 :: .int p1 :: .ref (h 0) :: rest) := by
  obtain ⟨q, h1, h2⟩ := zbd_some hf
  exact zr_callV y_M_cell ⟨q_1463, q_1464⟩ 0 rfl rfl (As := [.int p1, .int p2, .int p3]) (m_M_cell h1) rfl rfl pc' C hd hp hq hm hr (K _ _ h2)
/-! StepsBeyondModel.copy(IIIII)I -/
def f_M_copy_173 (k147 : Int32 → Int32 → Int32 → Int32 → zS → Option (Int32 × zS)) (x5 : Int32) (x6 : Int32) (x7 : Int32) (x8 : Int32) (y0 : Int32) (σ : zS) : Option (Int32 × zS) :=
  zin (x6 + y0) 160 (zin (x7 + y0) 160 (zlt (zsa σ 21 (x7 + y0) (σ.2 21 (x6 + y0).toNatClampNeg)) fun σ1 =>
  k147 x5 x6 x7 (x8 + 1) σ1))
set_option maxRecDepth 4000 in
theorem w_M_copy_173 {l : Launch} {d : zD} {F : zF} {h : Nat → Nat} {out : Int32 × zS}  {k147 : Int32 → Int32 → Int32 → Int32 → zS → Option (Int32 × zS)} (C : zOk d F RX11 cX11_copy 10 1 22) (T : zRt d F (some .int) (some (.int out.1)) (MW d h out.2)) (H147 : ∀ (x5 : Int32) (x6 : Int32) (x7 : Int32) (x8 : Int32) (σ : zS), k147 x5 x6 x7 x8 σ = some out → V l d F 0 0 (MW d h σ) [some (.ref (h 0)), none, none, none, none, some (.int x5), some (.int x6), some (.int x7), some (.int x8), none] 147 []) (x5 : Int32) (x6 : Int32) (x7 : Int32) (x8 : Int32) (y0 : Int32) (σ : zS) (hf : f_M_copy_173 k147 x5 x6 x7 x8 y0 σ = some out) : V l d F 0 0 (MW d h σ) [some (.ref (h 0)), none, none, none, none, some (.int x5), some (.int x6), some (.int x7), some (.int x8), none] 173 [.int y0] := by
  unfold f_M_copy_173 at hf
  refine zr_istore 9 [some (.ref (h 0)), none, none, none, none, some (.int x5), some (.int x6), some (.int x7), some (.int x8), some (.int y0)] 175 C (by decide +kernel) rfl (by decide) rfl rfl ?_
  refine zr_aload_n 0 176 C (by decide +kernel) rfl rfl ?_
  refine mg_0_34 (idx := 74) 179 C (by decide +kernel) rfl q_1025 ?_
  refine zr_iload 7 181 C (by decide +kernel) rfl rfl ?_
  refine zr_iload 9 183 C (by decide +kernel) rfl rfl ?_
  refine zr_iadd 184 C (by decide +kernel) rfl ?_
  refine zr_aload_n 0 185 C (by decide +kernel) rfl rfl ?_
  refine mg_0_34 (idx := 74) 188 C (by decide +kernel) rfl q_1025 ?_
  refine zr_iload 6 190 C (by decide +kernel) rfl rfl ?_
  refine zr_iload 9 192 C (by decide +kernel) rfl rfl ?_
  refine zr_iadd 193 C (by decide +kernel) rfl ?_
  refine ml_21 194 C (by decide +kernel) rfl hf (fun hf => ?_)
  refine ms_21 195 C (by decide +kernel) rfl hf (fun σ1 hf => ?_)
  refine zr_iinc (j := 1) 8 [some (.ref (h 0)), none, none, none, none, some (.int x5), some (.int x6), some (.int x7), some (.int (x8 + 1)), some (.int y0)] 198 C (by decide +kernel) rfl rfl rfl (by decide) rfl rfl ?_
  refine zr_goto (off := -51) 147 C (by decide +kernel) (by decide) ?_
  refine zr_less (zA (zN (zN (zN (zN (zA (zA (zA (zA (zN zE)))))))))) ?_
  exact H147 _ _ _ _ _ hf
def f_M_copy_147b (k147 : Int32 → Int32 → Int32 → Int32 → zS → Option (Int32 × zS)) (x5 : Int32) (x6 : Int32) (x7 : Int32) (x8 : Int32) (σ : zS) : Option (Int32 × zS) :=
  (if x5 ≤ x8 then
  some (x5, σ)
  else
  (if x7 ≤ x6 then
  f_M_copy_173 k147 x5 x6 x7 x8 x8 σ
  else
  f_M_copy_173 k147 x5 x6 x7 x8 ((x5 - 1) - x8) σ))
set_option maxRecDepth 4000 in
theorem w_M_copy_147b {l : Launch} {d : zD} {F : zF} {h : Nat → Nat} {out : Int32 × zS}  {k147 : Int32 → Int32 → Int32 → Int32 → zS → Option (Int32 × zS)} (C : zOk d F RX11 cX11_copy 10 1 22) (T : zRt d F (some .int) (some (.int out.1)) (MW d h out.2)) (H147 : ∀ (x5 : Int32) (x6 : Int32) (x7 : Int32) (x8 : Int32) (σ : zS), k147 x5 x6 x7 x8 σ = some out → V l d F 0 0 (MW d h σ) [some (.ref (h 0)), none, none, none, none, some (.int x5), some (.int x6), some (.int x7), some (.int x8), none] 147 []) (x5 : Int32) (x6 : Int32) (x7 : Int32) (x8 : Int32) (σ : zS) (hf : f_M_copy_147b k147 x5 x6 x7 x8 σ = some out) : V l d F 0 0 (MW d h σ) [some (.ref (h 0)), none, none, none, none, some (.int x5), some (.int x6), some (.int x7), some (.int x8), none] 147 [] := by
  unfold f_M_copy_147b at hf
  refine zr_iload 8 149 C (by decide +kernel) rfl rfl ?_
  refine zr_iload 5 151 C (by decide +kernel) rfl rfl ?_
  refine zr_icmp_ge (off := 50) 201 154 C (by decide +kernel) (by decide) rfl hf (fun hf => ?_) (fun hf => ?_)
  · refine zr_iload 5 203 C (by decide +kernel) rfl rfl ?_
    obtain rfl := Option.some.inj hf
    exact zr_iret C (by decide +kernel) T
  · refine zr_iload 6 156 C (by decide +kernel) rfl rfl ?_
    refine zr_iload 7 158 C (by decide +kernel) rfl rfl ?_
    refine zr_icmp_ge (off := 13) 171 161 C (by decide +kernel) (by decide) rfl hf (fun hf => ?_) (fun hf => ?_)
    · refine zr_iload 8 173 C (by decide +kernel) rfl rfl ?_
      exact w_M_copy_173 C T H147 _ _ _ _ _ _ hf
    · refine zr_iload 5 163 C (by decide +kernel) rfl rfl ?_
      refine zr_iconst (v := 1) 1 164 C (by decide +kernel) rfl rfl ?_
      refine zr_isub 165 C (by decide +kernel) rfl ?_
      refine zr_iload 8 167 C (by decide +kernel) rfl rfl ?_
      refine zr_isub 168 C (by decide +kernel) rfl ?_
      refine zr_goto (off := 5) 173 C (by decide +kernel) (by decide) ?_
      exact w_M_copy_173 C T H147 _ _ _ _ _ _ hf
def f_M_copy_147  : Nat → Int32 → Int32 → Int32 → Int32 → zS → Option (Int32 × zS)
  | 0, _, _, _, _, _ => none
  | n + 1, x5, x6, x7, x8,  σ => f_M_copy_147b (fun x5 x6 x7 x8 σ => f_M_copy_147  n x5 x6 x7 x8 σ) x5 x6 x7 x8 σ
theorem w_M_copy_147 {l : Launch} {d : zD} {F : zF} {h : Nat → Nat} {out : Int32 × zS}   (C : zOk d F RX11 cX11_copy 10 1 22) (T : zRt d F (some .int) (some (.int out.1)) (MW d h out.2))  : ∀ (n : Nat) (x5 : Int32) (x6 : Int32) (x7 : Int32) (x8 : Int32) (σ : zS), f_M_copy_147  n x5 x6 x7 x8 σ = some out → V l d F 0 0 (MW d h σ) [some (.ref (h 0)), none, none, none, none, some (.int x5), some (.int x6), some (.int x7), some (.int x8), none] 147 [] := by
  intro n
  induction n with
  | zero =>
    intro x5 x6 x7 x8 σ hf
    cases hf
  | succ n ih =>
    intro x5 x6 x7 x8 σ hf
    exact w_M_copy_147b C T ih x5 x6 x7 x8 σ hf
def f_M_copy (p1 : Int32) (p2 : Int32) (p3 : Int32) (p4 : Int32) (p5 : Int32) (σ : zS) : Option (Int32 × zS) :=
  zbd (f_M_in p1 0 3 σ) fun r2 σ1 =>
  (if r2 = 0 then
  some (-2, σ1)
  else
  zbd (f_M_in p3 0 3 σ1) fun r4 σ3 =>
  (if r4 = 0 then
  some (-2, σ3)
  else
  zin p1 4 ((if (σ3.2 19 p1.toNatClampNeg) = (-1) then
  some (-11, σ3)
  else
  zin p3 4 ((if (σ3.2 19 p3.toNatClampNeg) = (-1) then
  some (-11, σ3)
  else
  zin p1 4 (zin p3 4 ((if (σ3.2 19 p1.toNatClampNeg) = (σ3.2 19 p3.toNatClampNeg) then
  (if p5 < 0 then
  some (-12, σ3)
  else
  (if p2 < 0 then
  some (-12, σ3)
  else
  (if p4 < 0 then
  some (-12, σ3)
  else
  zin p1 4 ((if (σ3.2 20 p1.toNatClampNeg) < p2 then
  some (-12, σ3)
  else
  zin p3 4 ((if (σ3.2 20 p3.toNatClampNeg) < p4 then
  some (-12, σ3)
  else
  zin p1 4 ((if ((σ3.2 20 p1.toNatClampNeg) - p2) < p5 then
  some (-12, σ3)
  else
  zin p3 4 ((if p5 ≤ ((σ3.2 20 p3.toNatClampNeg) - p4) then
  zlt ((40 * p1) + p2) fun v5 => 
  zlt ((40 * p3) + p4) fun v6 => 
  f_M_copy_147 zfu p5 v5 v6 0 σ3
  else
  some (-12, σ3))))))))))))
  else
  some (-13, σ3))))))))))
set_option maxRecDepth 4000 in
theorem m_M_copy {l : Launch} {d : zD} {h : Nat → Nat} {out : Int32 × zS} {σ : zS} {p1 : Int32} {p2 : Int32} {p3 : Int32} {p4 : Int32} {p5 : Int32} (hf : f_M_copy p1 p2 p3 p4 p5 σ = some out) : zM l yX11_copy cX11_copy 10 (some .int) 1 22 d [.ref (h 0), .int p1, .int p2, .int p3, .int p4, .int p5] (MW d h σ) (MW d h out.2) (some (.int out.1)) := by
  refine zM_of [some (.ref (h 0)), some (.int p1), some (.int p2), some (.int p3), some (.int p4), some (.int p5), none, none, none, none] (by decide +kernel) rfl (Nat.le_of_ble_eq_true rfl) (fun F C T => ?_)
  unfold f_M_copy at hf
  refine zr_iload_n 1 1 C (by decide +kernel) rfl rfl ?_
  refine zr_iconst (v := 0) 0 2 C (by decide +kernel) rfl rfl ?_
  refine zr_iconst (v := 3) 3 3 C (by decide +kernel) rfl rfl ?_
  refine k_M_in (idx := 139) 6 C (by decide +kernel) rfl q_1181 (zb2 rfl rfl) (Nat.le_of_ble_eq_true rfl) hf (fun r2 σ1 hf => ?_)
  refine zr_if_eq (off := 12) 18 9 C (by decide +kernel) (by decide) rfl hf (fun hf => ?_) (fun hf => ?_)
  · refine zr_bipush (v := (-2)) (-2) 20 C (by decide +kernel) rfl rfl ?_
    obtain rfl := Option.some.inj hf
    exact zr_iret C (by decide +kernel) T
  · refine zr_iload_n 3 10 C (by decide +kernel) rfl rfl ?_
    refine zr_iconst (v := 0) 0 11 C (by decide +kernel) rfl rfl ?_
    refine zr_iconst (v := 3) 3 12 C (by decide +kernel) rfl rfl ?_
    refine k_M_in (idx := 139) 15 C (by decide +kernel) rfl q_1181 (zb2 rfl rfl) (Nat.le_of_ble_eq_true rfl) hf (fun r4 σ3 hf => ?_)
    refine zr_if_ne (off := 6) 21 18 C (by decide +kernel) (by decide) rfl hf (fun hf => ?_) (fun hf => ?_)
    · refine zr_aload_n 0 22 C (by decide +kernel) rfl rfl ?_
      refine mg_0_32 (idx := 68) 25 C (by decide +kernel) rfl q_1023 ?_
      refine zr_iload_n 1 26 C (by decide +kernel) rfl rfl ?_
      refine ml_19 27 C (by decide +kernel) rfl hf (fun hf => ?_)
      refine zr_iconst (v := (-1)) (-1) 28 C (by decide +kernel) rfl rfl ?_
      refine zr_icmp_eq (off := 13) 41 31 C (by decide +kernel) (by decide) rfl hf (fun hf => ?_) (fun hf => ?_)
      · refine zr_bipush (v := (-11)) (-11) 43 C (by decide +kernel) rfl rfl ?_
        obtain rfl := Option.some.inj hf
        exact zr_iret C (by decide +kernel) T
      · refine zr_aload_n 0 32 C (by decide +kernel) rfl rfl ?_
        refine mg_0_32 (idx := 68) 35 C (by decide +kernel) rfl q_1023 ?_
        refine zr_iload_n 3 36 C (by decide +kernel) rfl rfl ?_
        refine ml_19 37 C (by decide +kernel) rfl hf (fun hf => ?_)
        refine zr_iconst (v := (-1)) (-1) 38 C (by decide +kernel) rfl rfl ?_
        refine zr_icmp_ne (off := 6) 44 41 C (by decide +kernel) (by decide) rfl hf (fun hf => ?_) (fun hf => ?_)
        · refine zr_aload_n 0 45 C (by decide +kernel) rfl rfl ?_
          refine mg_0_32 (idx := 68) 48 C (by decide +kernel) rfl q_1023 ?_
          refine zr_iload_n 1 49 C (by decide +kernel) rfl rfl ?_
          refine ml_19 50 C (by decide +kernel) rfl hf (fun hf => ?_)
          refine zr_aload_n 0 51 C (by decide +kernel) rfl rfl ?_
          refine mg_0_32 (idx := 68) 54 C (by decide +kernel) rfl q_1023 ?_
          refine zr_iload_n 3 55 C (by decide +kernel) rfl rfl ?_
          refine ml_19 56 C (by decide +kernel) rfl hf (fun hf => ?_)
          refine zr_icmp_eq (off := 6) 62 59 C (by decide +kernel) (by decide) rfl hf (fun hf => ?_) (fun hf => ?_)
          · refine zr_iload 5 64 C (by decide +kernel) rfl rfl ?_
            refine zr_if_lt (off := 60) 124 67 C (by decide +kernel) (by decide) rfl hf (fun hf => ?_) (fun hf => ?_)
            · refine zr_bipush (v := (-12)) (-12) 126 C (by decide +kernel) rfl rfl ?_
              obtain rfl := Option.some.inj hf
              exact zr_iret C (by decide +kernel) T
            · refine zr_iload_n 2 68 C (by decide +kernel) rfl rfl ?_
              refine zr_if_lt (off := 56) 124 71 C (by decide +kernel) (by decide) rfl hf (fun hf => ?_) (fun hf => ?_)
              · refine zr_bipush (v := (-12)) (-12) 126 C (by decide +kernel) rfl rfl ?_
                obtain rfl := Option.some.inj hf
                exact zr_iret C (by decide +kernel) T
              · refine zr_iload 4 73 C (by decide +kernel) rfl rfl ?_
                refine zr_if_lt (off := 51) 124 76 C (by decide +kernel) (by decide) rfl hf (fun hf => ?_) (fun hf => ?_)
                · refine zr_bipush (v := (-12)) (-12) 126 C (by decide +kernel) rfl rfl ?_
                  obtain rfl := Option.some.inj hf
                  exact zr_iret C (by decide +kernel) T
                · refine zr_iload_n 2 77 C (by decide +kernel) rfl rfl ?_
                  refine zr_aload_n 0 78 C (by decide +kernel) rfl rfl ?_
                  refine mg_0_33 (idx := 71) 81 C (by decide +kernel) rfl q_1024 ?_
                  refine zr_iload_n 1 82 C (by decide +kernel) rfl rfl ?_
                  refine ml_20 83 C (by decide +kernel) rfl hf (fun hf => ?_)
                  refine zr_icmp_gt (off := 41) 124 86 C (by decide +kernel) (by decide) rfl hf (fun hf => ?_) (fun hf => ?_)
                  · refine zr_bipush (v := (-12)) (-12) 126 C (by decide +kernel) rfl rfl ?_
                    obtain rfl := Option.some.inj hf
                    exact zr_iret C (by decide +kernel) T
                  · refine zr_iload 4 88 C (by decide +kernel) rfl rfl ?_
                    refine zr_aload_n 0 89 C (by decide +kernel) rfl rfl ?_
                    refine mg_0_33 (idx := 71) 92 C (by decide +kernel) rfl q_1024 ?_
                    refine zr_iload_n 3 93 C (by decide +kernel) rfl rfl ?_
                    refine ml_20 94 C (by decide +kernel) rfl hf (fun hf => ?_)
                    refine zr_icmp_gt (off := 30) 124 97 C (by decide +kernel) (by decide) rfl hf (fun hf => ?_) (fun hf => ?_)
                    · refine zr_bipush (v := (-12)) (-12) 126 C (by decide +kernel) rfl rfl ?_
                      obtain rfl := Option.some.inj hf
                      exact zr_iret C (by decide +kernel) T
                    · refine zr_iload 5 99 C (by decide +kernel) rfl rfl ?_
                      refine zr_aload_n 0 100 C (by decide +kernel) rfl rfl ?_
                      refine mg_0_33 (idx := 71) 103 C (by decide +kernel) rfl q_1024 ?_
                      refine zr_iload_n 1 104 C (by decide +kernel) rfl rfl ?_
                      refine ml_20 105 C (by decide +kernel) rfl hf (fun hf => ?_)
                      refine zr_iload_n 2 106 C (by decide +kernel) rfl rfl ?_
                      refine zr_isub 107 C (by decide +kernel) rfl ?_
                      refine zr_icmp_gt (off := 17) 124 110 C (by decide +kernel) (by decide) rfl hf (fun hf => ?_) (fun hf => ?_)
                      · refine zr_bipush (v := (-12)) (-12) 126 C (by decide +kernel) rfl rfl ?_
                        obtain rfl := Option.some.inj hf
                        exact zr_iret C (by decide +kernel) T
                      · refine zr_iload 5 112 C (by decide +kernel) rfl rfl ?_
                        refine zr_aload_n 0 113 C (by decide +kernel) rfl rfl ?_
                        refine mg_0_33 (idx := 71) 116 C (by decide +kernel) rfl q_1024 ?_
                        refine zr_iload_n 3 117 C (by decide +kernel) rfl rfl ?_
                        refine ml_20 118 C (by decide +kernel) rfl hf (fun hf => ?_)
                        refine zr_iload 4 120 C (by decide +kernel) rfl rfl ?_
                        refine zr_isub 121 C (by decide +kernel) rfl ?_
                        refine zr_icmp_le (off := 6) 127 124 C (by decide +kernel) (by decide) rfl hf (fun hf => ?_) (fun hf => ?_)
                        · refine zr_bipush (v := 40) 40 129 C (by decide +kernel) rfl rfl ?_
                          refine zr_iload_n 1 130 C (by decide +kernel) rfl rfl ?_
                          refine zr_imul 131 C (by decide +kernel) rfl ?_
                          refine zr_iload_n 2 132 C (by decide +kernel) rfl rfl ?_
                          refine zr_iadd 133 C (by decide +kernel) rfl ?_
                          refine zr_name hf (fun v5 hf => ?_)
                          refine zr_istore 6 [some (.ref (h 0)), some (.int p1), some (.int p2), some (.int p3), some (.int p4), some (.int p5), some (.int v5), none, none, none] 135 C (by decide +kernel) rfl (by decide) rfl rfl ?_
                          refine zr_bipush (v := 40) 40 137 C (by decide +kernel) rfl rfl ?_
                          refine zr_iload_n 3 138 C (by decide +kernel) rfl rfl ?_
                          refine zr_imul 139 C (by decide +kernel) rfl ?_
                          refine zr_iload 4 141 C (by decide +kernel) rfl rfl ?_
                          refine zr_iadd 142 C (by decide +kernel) rfl ?_
                          refine zr_name hf (fun v6 hf => ?_)
                          refine zr_istore 7 [some (.ref (h 0)), some (.int p1), some (.int p2), some (.int p3), some (.int p4), some (.int p5), some (.int v5), some (.int v6), none, none] 144 C (by decide +kernel) rfl (by decide) rfl rfl ?_
                          refine zr_iconst (v := 0) 0 145 C (by decide +kernel) rfl rfl ?_
                          refine zr_istore 8 [some (.ref (h 0)), some (.int p1), some (.int p2), some (.int p3), some (.int p4), some (.int p5), some (.int v5), some (.int v6), some (.int 0), none] 147 C (by decide +kernel) rfl (by decide) rfl rfl ?_
                          refine zr_less (zA (zN (zN (zN (zN (zA (zA (zA (zA (zN zE)))))))))) ?_
                          exact w_M_copy_147 C T zfu _ _ _ _ _ hf
                        · refine zr_bipush (v := (-12)) (-12) 126 C (by decide +kernel) rfl rfl ?_
                          obtain rfl := Option.some.inj hf
                          exact zr_iret C (by decide +kernel) T
          · refine zr_bipush (v := (-13)) (-13) 61 C (by decide +kernel) rfl rfl ?_
            obtain rfl := Option.some.inj hf
            exact zr_iret C (by decide +kernel) T
        · refine zr_bipush (v := (-11)) (-11) 43 C (by decide +kernel) rfl rfl ?_
          obtain rfl := Option.some.inj hf
          exact zr_iret C (by decide +kernel) T
    · refine zr_bipush (v := (-2)) (-2) 20 C (by decide +kernel) rfl rfl ?_
      obtain rfl := Option.some.inj hf
      exact zr_iret C (by decide +kernel) T
theorem y_M_copy : zY yX11_copy cX11_copy 10 (some .int) 5 := ⟨q_1469, q_90, by decide +kernel, by decide +kernel, by decide +kernel⟩
theorem k_M_copy {l : Launch} {d : zD} {F : zF} {h : Nat → Nat} {σ : zS} {lv : List (Option Value)} {pc : Nat} {own : String} {cc : ByteArray} {nL fr lo idx : Nat} {rest : List Value} {β : Type} {kf : Int32 → zS → Option β} {o2 : β}  {p1 : Int32} {p2 : Int32} {p3 : Int32} {p4 : Int32} {p5 : Int32} (pc' : Nat) (C : zOk d F own cc nL fr lo) (hd : decode cc pc = .ok (.invokevirtual idx, 3)) (hp : pc + 3 = pc') (hq : Cond.methodLink own idx yX11_copy ∈ zW) (hm : 1 + 1 ≤ fr ∧ 8 + (10 + 11) + 22 ≤ lo) (hr : (rest.map fun v => v.category).sum ≤ 8) (hf : zbd (f_M_copy p1 p2 p3 p4 p5 σ) kf = some o2) (K : ∀ (r : Int32) (σ' : zS), kf r σ' = some o2 → V l d F 0 0 (MW d h σ') lv pc' (.int r :: rest)) : V l d F 0 0 (MW d h σ) lv pc (.int p5 :: .int p4 :: .int p3 :: .int p2 :: .int p1 :: .ref (h 0) :: rest) := by
  obtain ⟨q, h1, h2⟩ := zbd_some hf
  exact zr_callV y_M_copy ⟨q_1467, q_1468⟩ 0 rfl rfl (As := [.int p1, .int p2, .int p3, .int p4, .int p5]) (m_M_copy h1) rfl rfl pc' C hd hp hq hm hr (K _ _ h2)
/-! StepsBeyondModel.houses(IIII)I -/
def f_M_houses_144 (k64 : Int32 → Int32 → Int32 → Int32 → Int32 → zS → Option (Int32 × zS)) (x1 : Int32) (x3 : Int32) (x4 : Int32) (x6 : Int32) (y0 : Int32) (y1 : Int32) (σ : zS) : Option (Int32 × zS) :=
  zlt (y0 + y1) fun v1 => 
  k64 x1 x3 x4 v1 (x6 + 1) σ
set_option maxRecDepth 4000 in
theorem w_M_houses_144 {l : Launch} {d : zD} {F : zF} {h : Nat → Nat} {out : Int32 × zS}  {k64 : Int32 → Int32 → Int32 → Int32 → Int32 → zS → Option (Int32 × zS)} (C : zOk d F RX11 cX11_houses 9 3 64) (T : zRt d F (some .int) (some (.int out.1)) (MW d h out.2)) (H64 : ∀ (x1 : Int32) (x3 : Int32) (x4 : Int32) (x5 : Int32) (x6 : Int32) (σ : zS), k64 x1 x3 x4 x5 x6 σ = some out → V l d F 0 0 (MW d h σ) [some (.ref (h 0)), some (.int x1), none, some (.int x3), some (.int x4), some (.int x5), some (.int x6), none, none] 64 []) (x1 : Int32) (x3 : Int32) (x4 : Int32) (x6 : Int32) (y0 : Int32) (y1 : Int32) (σ : zS) (hf : f_M_houses_144 k64 x1 x3 x4 x6 y0 y1 σ = some out) : V l d F 0 0 (MW d h σ) [some (.ref (h 0)), some (.int x1), none, some (.int x3), some (.int x4), none, some (.int x6), none, none] 144 [.int y1, .int y0] := by
  unfold f_M_houses_144 at hf
  refine zr_iadd 145 C (by decide +kernel) rfl ?_
  refine zr_name hf (fun v1 hf => ?_)
  refine zr_istore 5 [some (.ref (h 0)), some (.int x1), none, some (.int x3), some (.int x4), some (.int v1), some (.int x6), none, none] 147 C (by decide +kernel) rfl (by decide) rfl rfl ?_
  refine zr_iinc (j := 1) 6 [some (.ref (h 0)), some (.int x1), none, some (.int x3), some (.int x4), some (.int v1), some (.int (x6 + 1)), none, none] 150 C (by decide +kernel) rfl rfl rfl (by decide) rfl rfl ?_
  refine zr_goto (off := -86) 64 C (by decide +kernel) (by decide) ?_
  exact H64 _ _ _ _ _ _ hf
def f_M_houses_64b (k64 : Int32 → Int32 → Int32 → Int32 → Int32 → zS → Option (Int32 × zS)) (x1 : Int32) (x3 : Int32) (x4 : Int32) (x5 : Int32) (x6 : Int32) (σ : zS) : Option (Int32 × zS) :=
  (if x4 ≤ x6 then
  some (x5, σ)
  else
  zlt (x3 + (2 * x6)) fun v1 => 
  (if x3 < 0 then
  some (-12, σ)
  else
  (if v1 < x3 then
  some (-12, σ)
  else
  zin x1 4 ((if v1 ≤ ((σ.2 20 x1.toNatClampNeg) - 2) then
  zlt ((40 * x1) + v1) fun v2 => 
  zin v2 160 (zin (v2 + 1) 160 (zbd (f_M_house (σ.2 21 v2.toNatClampNeg) (σ.2 21 (v2 + 1).toNatClampNeg) σ) fun r4 σ3 =>
  (if r4 < 0 then
  f_M_houses_144 k64 x1 x3 x4 x6 x5 0 σ3
  else
  f_M_houses_144 k64 x1 x3 x4 x6 x5 1 σ3)))
  else
  some (-12, σ))))))
set_option maxRecDepth 4000 in
theorem w_M_houses_64b {l : Launch} {d : zD} {F : zF} {h : Nat → Nat} {out : Int32 × zS}  {k64 : Int32 → Int32 → Int32 → Int32 → Int32 → zS → Option (Int32 × zS)} (C : zOk d F RX11 cX11_houses 9 3 64) (T : zRt d F (some .int) (some (.int out.1)) (MW d h out.2)) (H64 : ∀ (x1 : Int32) (x3 : Int32) (x4 : Int32) (x5 : Int32) (x6 : Int32) (σ : zS), k64 x1 x3 x4 x5 x6 σ = some out → V l d F 0 0 (MW d h σ) [some (.ref (h 0)), some (.int x1), none, some (.int x3), some (.int x4), some (.int x5), some (.int x6), none, none] 64 []) (x1 : Int32) (x3 : Int32) (x4 : Int32) (x5 : Int32) (x6 : Int32) (σ : zS) (hf : f_M_houses_64b k64 x1 x3 x4 x5 x6 σ = some out) : V l d F 0 0 (MW d h σ) [some (.ref (h 0)), some (.int x1), none, some (.int x3), some (.int x4), some (.int x5), some (.int x6), none, none] 64 [] := by
  unfold f_M_houses_64b at hf
  refine zr_iload 6 66 C (by decide +kernel) rfl rfl ?_
  refine zr_iload 4 68 C (by decide +kernel) rfl rfl ?_
  refine zr_icmp_ge (off := 85) 153 71 C (by decide +kernel) (by decide) rfl hf (fun hf => ?_) (fun hf => ?_)
  · refine zr_iload 5 155 C (by decide +kernel) rfl rfl ?_
    obtain rfl := Option.some.inj hf
    exact zr_iret C (by decide +kernel) T
  · refine zr_iload_n 3 72 C (by decide +kernel) rfl rfl ?_
    refine zr_iconst (v := 2) 2 73 C (by decide +kernel) rfl rfl ?_
    refine zr_iload 6 75 C (by decide +kernel) rfl rfl ?_
    refine zr_imul 76 C (by decide +kernel) rfl ?_
    refine zr_iadd 77 C (by decide +kernel) rfl ?_
    refine zr_name hf (fun v1 hf => ?_)
    refine zr_istore 7 [some (.ref (h 0)), some (.int x1), none, some (.int x3), some (.int x4), some (.int x5), some (.int x6), some (.int v1), none] 79 C (by decide +kernel) rfl (by decide) rfl rfl ?_
    refine zr_iload_n 3 80 C (by decide +kernel) rfl rfl ?_
    refine zr_if_lt (off := 22) 102 83 C (by decide +kernel) (by decide) rfl hf (fun hf => ?_) (fun hf => ?_)
    · refine zr_bipush (v := (-12)) (-12) 104 C (by decide +kernel) rfl rfl ?_
      obtain rfl := Option.some.inj hf
      exact zr_iret C (by decide +kernel) T
    · refine zr_iload 7 85 C (by decide +kernel) rfl rfl ?_
      refine zr_iload_n 3 86 C (by decide +kernel) rfl rfl ?_
      refine zr_icmp_lt (off := 16) 102 89 C (by decide +kernel) (by decide) rfl hf (fun hf => ?_) (fun hf => ?_)
      · refine zr_bipush (v := (-12)) (-12) 104 C (by decide +kernel) rfl rfl ?_
        obtain rfl := Option.some.inj hf
        exact zr_iret C (by decide +kernel) T
      · refine zr_iload 7 91 C (by decide +kernel) rfl rfl ?_
        refine zr_aload_n 0 92 C (by decide +kernel) rfl rfl ?_
        refine mg_0_33 (idx := 71) 95 C (by decide +kernel) rfl q_1024 ?_
        refine zr_iload_n 1 96 C (by decide +kernel) rfl rfl ?_
        refine ml_20 97 C (by decide +kernel) rfl hf (fun hf => ?_)
        refine zr_iconst (v := 2) 2 98 C (by decide +kernel) rfl rfl ?_
        refine zr_isub 99 C (by decide +kernel) rfl ?_
        refine zr_icmp_le (off := 6) 105 102 C (by decide +kernel) (by decide) rfl hf (fun hf => ?_) (fun hf => ?_)
        · refine zr_bipush (v := 40) 40 107 C (by decide +kernel) rfl rfl ?_
          refine zr_iload_n 1 108 C (by decide +kernel) rfl rfl ?_
          refine zr_imul 109 C (by decide +kernel) rfl ?_
          refine zr_iload 7 111 C (by decide +kernel) rfl rfl ?_
          refine zr_iadd 112 C (by decide +kernel) rfl ?_
          refine zr_name hf (fun v2 hf => ?_)
          refine zr_istore 8 [some (.ref (h 0)), some (.int x1), none, some (.int x3), some (.int x4), some (.int x5), some (.int x6), some (.int v1), some (.int v2)] 114 C (by decide +kernel) rfl (by decide) rfl rfl ?_
          refine zr_iload 5 116 C (by decide +kernel) rfl rfl ?_
          refine zr_aload_n 0 117 C (by decide +kernel) rfl rfl ?_
          refine zr_aload_n 0 118 C (by decide +kernel) rfl rfl ?_
          refine mg_0_34 (idx := 74) 121 C (by decide +kernel) rfl q_1025 ?_
          refine zr_iload 8 123 C (by decide +kernel) rfl rfl ?_
          refine ml_21 124 C (by decide +kernel) rfl hf (fun hf => ?_)
          refine zr_aload_n 0 125 C (by decide +kernel) rfl rfl ?_
          refine mg_0_34 (idx := 74) 128 C (by decide +kernel) rfl q_1025 ?_
          refine zr_iload 8 130 C (by decide +kernel) rfl rfl ?_
          refine zr_iconst (v := 1) 1 131 C (by decide +kernel) rfl rfl ?_
          refine zr_iadd 132 C (by decide +kernel) rfl ?_
          refine ml_21 133 C (by decide +kernel) rfl hf (fun hf => ?_)
          refine k_M_house (idx := 362) 136 C (by decide +kernel) rfl q_1474 (zb2 rfl rfl) (Nat.le_of_ble_eq_true rfl) hf (fun r4 σ3 hf => ?_)
          refine zr_if_lt (off := 7) 143 139 C (by decide +kernel) (by decide) rfl hf (fun hf => ?_) (fun hf => ?_)
          · refine zr_iconst (v := 0) 0 144 C (by decide +kernel) rfl rfl ?_
            refine zr_less (zA (zA (zN (zA (zA (zN (zA (zN (zN zE))))))))) ?_
            exact w_M_houses_144 C T H64 _ _ _ _ _ _ _ hf
          · refine zr_iconst (v := 1) 1 140 C (by decide +kernel) rfl rfl ?_
            refine zr_goto (off := 4) 144 C (by decide +kernel) (by decide) ?_
            refine zr_less (zA (zA (zN (zA (zA (zN (zA (zN (zN zE))))))))) ?_
            exact w_M_houses_144 C T H64 _ _ _ _ _ _ _ hf
        · refine zr_bipush (v := (-12)) (-12) 104 C (by decide +kernel) rfl rfl ?_
          obtain rfl := Option.some.inj hf
          exact zr_iret C (by decide +kernel) T
def f_M_houses_64  : Nat → Int32 → Int32 → Int32 → Int32 → Int32 → zS → Option (Int32 × zS)
  | 0, _, _, _, _, _, _ => none
  | n + 1, x1, x3, x4, x5, x6,  σ => f_M_houses_64b (fun x1 x3 x4 x5 x6 σ => f_M_houses_64  n x1 x3 x4 x5 x6 σ) x1 x3 x4 x5 x6 σ
theorem w_M_houses_64 {l : Launch} {d : zD} {F : zF} {h : Nat → Nat} {out : Int32 × zS}   (C : zOk d F RX11 cX11_houses 9 3 64) (T : zRt d F (some .int) (some (.int out.1)) (MW d h out.2))  : ∀ (n : Nat) (x1 : Int32) (x3 : Int32) (x4 : Int32) (x5 : Int32) (x6 : Int32) (σ : zS), f_M_houses_64  n x1 x3 x4 x5 x6 σ = some out → V l d F 0 0 (MW d h σ) [some (.ref (h 0)), some (.int x1), none, some (.int x3), some (.int x4), some (.int x5), some (.int x6), none, none] 64 [] := by
  intro n
  induction n with
  | zero =>
    intro x1 x3 x4 x5 x6 σ hf
    cases hf
  | succ n ih =>
    intro x1 x3 x4 x5 x6 σ hf
    exact w_M_houses_64b C T ih x1 x3 x4 x5 x6 σ hf
def f_M_houses (p1 : Int32) (p2 : Int32) (p3 : Int32) (p4 : Int32) (σ : zS) : Option (Int32 × zS) :=
  zbd (f_M_in p1 0 3 σ) fun r2 σ1 =>
  (if r2 = 0 then
  some (-2, σ1)
  else
  zbd (f_M_in p2 0 2 σ1) fun r4 σ3 =>
  (if r4 = 0 then
  some (-2, σ3)
  else
  zbd (f_M_in p4 0 20 σ3) fun r6 σ5 =>
  (if r6 = 0 then
  some (-2, σ5)
  else
  zin p1 4 ((if (σ5.2 19 p1.toNatClampNeg) = (-1) then
  some (-11, σ5)
  else
  zin p1 4 ((if (σ5.2 19 p1.toNatClampNeg) = p2 then
  f_M_houses_64 zfu p1 p3 p4 0 0 σ5
  else
  some (-13, σ5))))))))
set_option maxRecDepth 4000 in
theorem m_M_houses {l : Launch} {d : zD} {h : Nat → Nat} {out : Int32 × zS} {σ : zS} {p1 : Int32} {p2 : Int32} {p3 : Int32} {p4 : Int32} (hf : f_M_houses p1 p2 p3 p4 σ = some out) : zM l yX11_houses cX11_houses 9 (some .int) 3 64 d [.ref (h 0), .int p1, .int p2, .int p3, .int p4] (MW d h σ) (MW d h out.2) (some (.int out.1)) := by
  refine zM_of [some (.ref (h 0)), some (.int p1), some (.int p2), some (.int p3), some (.int p4), none, none, none, none] (by decide +kernel) rfl (Nat.le_of_ble_eq_true rfl) (fun F C T => ?_)
  unfold f_M_houses at hf
  refine zr_iload_n 1 1 C (by decide +kernel) rfl rfl ?_
  refine zr_iconst (v := 0) 0 2 C (by decide +kernel) rfl rfl ?_
  refine zr_iconst (v := 3) 3 3 C (by decide +kernel) rfl rfl ?_
  refine k_M_in (idx := 139) 6 C (by decide +kernel) rfl q_1181 (zb2 rfl rfl) (Nat.le_of_ble_eq_true rfl) hf (fun r2 σ1 hf => ?_)
  refine zr_if_eq (off := 23) 29 9 C (by decide +kernel) (by decide) rfl hf (fun hf => ?_) (fun hf => ?_)
  · refine zr_bipush (v := (-2)) (-2) 31 C (by decide +kernel) rfl rfl ?_
    obtain rfl := Option.some.inj hf
    exact zr_iret C (by decide +kernel) T
  · refine zr_iload_n 2 10 C (by decide +kernel) rfl rfl ?_
    refine zr_iconst (v := 0) 0 11 C (by decide +kernel) rfl rfl ?_
    refine zr_iconst (v := 2) 2 12 C (by decide +kernel) rfl rfl ?_
    refine k_M_in (idx := 139) 15 C (by decide +kernel) rfl q_1181 (zb2 rfl rfl) (Nat.le_of_ble_eq_true rfl) hf (fun r4 σ3 hf => ?_)
    refine zr_if_eq (off := 14) 29 18 C (by decide +kernel) (by decide) rfl hf (fun hf => ?_) (fun hf => ?_)
    · refine zr_bipush (v := (-2)) (-2) 31 C (by decide +kernel) rfl rfl ?_
      obtain rfl := Option.some.inj hf
      exact zr_iret C (by decide +kernel) T
    · refine zr_iload 4 20 C (by decide +kernel) rfl rfl ?_
      refine zr_iconst (v := 0) 0 21 C (by decide +kernel) rfl rfl ?_
      refine zr_bipush (v := 20) 20 23 C (by decide +kernel) rfl rfl ?_
      refine k_M_in (idx := 139) 26 C (by decide +kernel) rfl q_1181 (zb2 rfl rfl) (Nat.le_of_ble_eq_true rfl) hf (fun r6 σ5 hf => ?_)
      refine zr_if_ne (off := 6) 32 29 C (by decide +kernel) (by decide) rfl hf (fun hf => ?_) (fun hf => ?_)
      · refine zr_aload_n 0 33 C (by decide +kernel) rfl rfl ?_
        refine mg_0_32 (idx := 68) 36 C (by decide +kernel) rfl q_1023 ?_
        refine zr_iload_n 1 37 C (by decide +kernel) rfl rfl ?_
        refine ml_19 38 C (by decide +kernel) rfl hf (fun hf => ?_)
        refine zr_iconst (v := (-1)) (-1) 39 C (by decide +kernel) rfl rfl ?_
        refine zr_icmp_ne (off := 6) 45 42 C (by decide +kernel) (by decide) rfl hf (fun hf => ?_) (fun hf => ?_)
        · refine zr_aload_n 0 46 C (by decide +kernel) rfl rfl ?_
          refine mg_0_32 (idx := 68) 49 C (by decide +kernel) rfl q_1023 ?_
          refine zr_iload_n 1 50 C (by decide +kernel) rfl rfl ?_
          refine ml_19 51 C (by decide +kernel) rfl hf (fun hf => ?_)
          refine zr_iload_n 2 52 C (by decide +kernel) rfl rfl ?_
          refine zr_icmp_eq (off := 6) 58 55 C (by decide +kernel) (by decide) rfl hf (fun hf => ?_) (fun hf => ?_)
          · refine zr_iconst (v := 0) 0 59 C (by decide +kernel) rfl rfl ?_
            refine zr_istore 5 [some (.ref (h 0)), some (.int p1), some (.int p2), some (.int p3), some (.int p4), some (.int 0), none, none, none] 61 C (by decide +kernel) rfl (by decide) rfl rfl ?_
            refine zr_iconst (v := 0) 0 62 C (by decide +kernel) rfl rfl ?_
            refine zr_istore 6 [some (.ref (h 0)), some (.int p1), some (.int p2), some (.int p3), some (.int p4), some (.int 0), some (.int 0), none, none] 64 C (by decide +kernel) rfl (by decide) rfl rfl ?_
            refine zr_less (zA (zA (zN (zA (zA (zA (zA (zN (zN zE))))))))) ?_
            exact w_M_houses_64 C T zfu _ _ _ _ _ _ hf
          · refine zr_bipush (v := (-13)) (-13) 57 C (by decide +kernel) rfl rfl ?_
            obtain rfl := Option.some.inj hf
            exact zr_iret C (by decide +kernel) T
        · refine zr_bipush (v := (-11)) (-11) 44 C (by decide +kernel) rfl rfl ?_
          obtain rfl := Option.some.inj hf
          exact zr_iret C (by decide +kernel) T
      · refine zr_bipush (v := (-2)) (-2) 31 C (by decide +kernel) rfl rfl ?_
        obtain rfl := Option.some.inj hf
        exact zr_iret C (by decide +kernel) T
theorem y_M_houses : zY yX11_houses cX11_houses 9 (some .int) 4 := ⟨q_1473, q_90, by decide +kernel, by decide +kernel, by decide +kernel⟩
theorem k_M_houses {l : Launch} {d : zD} {F : zF} {h : Nat → Nat} {σ : zS} {lv : List (Option Value)} {pc : Nat} {own : String} {cc : ByteArray} {nL fr lo idx : Nat} {rest : List Value} {β : Type} {kf : Int32 → zS → Option β} {o2 : β}  {p1 : Int32} {p2 : Int32} {p3 : Int32} {p4 : Int32} (pc' : Nat) (C : zOk d F own cc nL fr lo) (hd : decode cc pc = .ok (.invokevirtual idx, 3)) (hp : pc + 3 = pc') (hq : Cond.methodLink own idx yX11_houses ∈ zW) (hm : 3 + 1 ≤ fr ∧ 8 + (9 + 11) + 64 ≤ lo) (hr : (rest.map fun v => v.category).sum ≤ 8) (hf : zbd (f_M_houses p1 p2 p3 p4 σ) kf = some o2) (K : ∀ (r : Int32) (σ' : zS), kf r σ' = some o2 → V l d F 0 0 (MW d h σ') lv pc' (.int r :: rest)) : V l d F 0 0 (MW d h σ) lv pc (.int p4 :: .int p3 :: .int p2 :: .int p1 :: .ref (h 0) :: rest) := by
  obtain ⟨q, h1, h2⟩ := zbd_some hf
  exact zr_callV y_M_houses ⟨q_1471, q_1472⟩ 0 rfl rfl (As := [.int p1, .int p2, .int p3, .int p4]) (m_M_houses h1) rfl rfl pc' C hd hp hq hm hr (K _ _ h2)
/-! StepsBeyondModel.isUnder(II)Z -/
def f_M_isUnder_39   (σ : zS) : Option (Int32 × zS) :=
  some (1, σ)
set_option maxRecDepth 4000 in
theorem w_M_isUnder_39 {l : Launch} {d : zD} {F : zF} {h : Nat → Nat} {out : Int32 × zS}   (C : zOk d F RX11 cX11_isUnder 2 0 0) (T : zRt d F (some .boolean) (some (.int out.1)) (MW d h out.2))   (σ : zS) (hf : f_M_isUnder_39   σ = some out) : V l d F 0 0 (MW d h σ) [none, none] 39 [] := by
  unfold f_M_isUnder_39 at hf
  refine zr_iconst (v := 1) 1 40 C (by decide +kernel) rfl rfl ?_
  refine zr_goto (off := 4) 44 C (by decide +kernel) (by decide) ?_
  obtain rfl := Option.some.inj hf
  exact zr_zret C (by decide +kernel) rfl T
def f_M_isUnder_29  (x0 : Int32) (x1 : Int32) (σ : zS) : Option (Int32 × zS) :=
  (if x1 = 4 then
  (if x0 = 5 then
  f_M_isUnder_39 σ
  else
  some (0, σ))
  else
  some (0, σ))
set_option maxRecDepth 4000 in
theorem w_M_isUnder_29 {l : Launch} {d : zD} {F : zF} {h : Nat → Nat} {out : Int32 × zS}   (C : zOk d F RX11 cX11_isUnder 2 0 0) (T : zRt d F (some .boolean) (some (.int out.1)) (MW d h out.2))  (x0 : Int32) (x1 : Int32) (σ : zS) (hf : f_M_isUnder_29  x0 x1 σ = some out) : V l d F 0 0 (MW d h σ) [some (.int x0), some (.int x1)] 29 [] := by
  unfold f_M_isUnder_29 at hf
  refine zr_iload_n 1 30 C (by decide +kernel) rfl rfl ?_
  refine zr_iconst (v := 4) 4 31 C (by decide +kernel) rfl rfl ?_
  refine zr_icmp_ne (off := 12) 43 34 C (by decide +kernel) (by decide) rfl hf (fun hf => ?_) (fun hf => ?_)
  · refine zr_iconst (v := 0) 0 44 C (by decide +kernel) rfl rfl ?_
    obtain rfl := Option.some.inj hf
    exact zr_zret C (by decide +kernel) rfl T
  · refine zr_iload_n 0 35 C (by decide +kernel) rfl rfl ?_
    refine zr_iconst (v := 5) 5 36 C (by decide +kernel) rfl rfl ?_
    refine zr_icmp_ne (off := 7) 43 39 C (by decide +kernel) (by decide) rfl hf (fun hf => ?_) (fun hf => ?_)
    · refine zr_iconst (v := 0) 0 44 C (by decide +kernel) rfl rfl ?_
      obtain rfl := Option.some.inj hf
      exact zr_zret C (by decide +kernel) rfl T
    · refine zr_less (zN (zN zE)) ?_
      exact w_M_isUnder_39 C T _ hf
def f_M_isUnder_19  (x0 : Int32) (x1 : Int32) (σ : zS) : Option (Int32 × zS) :=
  (if x1 = 2 then
  (if 4 ≤ x0 then
  f_M_isUnder_39 σ
  else
  f_M_isUnder_29 x0 x1 σ)
  else
  f_M_isUnder_29 x0 x1 σ)
set_option maxRecDepth 4000 in
theorem w_M_isUnder_19 {l : Launch} {d : zD} {F : zF} {h : Nat → Nat} {out : Int32 × zS}   (C : zOk d F RX11 cX11_isUnder 2 0 0) (T : zRt d F (some .boolean) (some (.int out.1)) (MW d h out.2))  (x0 : Int32) (x1 : Int32) (σ : zS) (hf : f_M_isUnder_19  x0 x1 σ = some out) : V l d F 0 0 (MW d h σ) [some (.int x0), some (.int x1)] 19 [] := by
  unfold f_M_isUnder_19 at hf
  refine zr_iload_n 1 20 C (by decide +kernel) rfl rfl ?_
  refine zr_iconst (v := 2) 2 21 C (by decide +kernel) rfl rfl ?_
  refine zr_icmp_ne (off := 8) 29 24 C (by decide +kernel) (by decide) rfl hf (fun hf => ?_) (fun hf => ?_)
  · exact w_M_isUnder_29 C T _ _ _ hf
  · refine zr_iload_n 0 25 C (by decide +kernel) rfl rfl ?_
    refine zr_iconst (v := 4) 4 26 C (by decide +kernel) rfl rfl ?_
    refine zr_icmp_ge (off := 13) 39 29 C (by decide +kernel) (by decide) rfl hf (fun hf => ?_) (fun hf => ?_)
    · refine zr_less (zN (zN zE)) ?_
      exact w_M_isUnder_39 C T _ hf
    · exact w_M_isUnder_29 C T _ _ _ hf
def f_M_isUnder (p0 : Int32) (p1 : Int32) (σ : zS) : Option (Int32 × zS) :=
  (if p1 = 0 then
  f_M_isUnder_39 σ
  else
  (if p0 = p1 then
  f_M_isUnder_39 σ
  else
  (if p1 = 1 then
  (if 2 ≤ p0 then
  f_M_isUnder_39 σ
  else
  f_M_isUnder_19 p0 p1 σ)
  else
  f_M_isUnder_19 p0 p1 σ)))
set_option maxRecDepth 4000 in
theorem m_M_isUnder {l : Launch} {d : zD} {h : Nat → Nat} {out : Int32 × zS} {σ : zS} {p0 : Int32} {p1 : Int32} (hf : f_M_isUnder p0 p1 σ = some out) : zM l yX11_isUnder cX11_isUnder 2 (some .boolean) 0 0 d [.int p0, .int p1] (MW d h σ) (MW d h out.2) (some (.int out.1)) := by
  refine zM_of [some (.int p0), some (.int p1)] (by decide +kernel) rfl (Nat.le_of_ble_eq_true rfl) (fun F C T => ?_)
  unfold f_M_isUnder at hf
  refine zr_iload_n 1 1 C (by decide +kernel) rfl rfl ?_
  refine zr_if_eq (off := 38) 39 4 C (by decide +kernel) (by decide) rfl hf (fun hf => ?_) (fun hf => ?_)
  · refine zr_less (zN (zN zE)) ?_
    exact w_M_isUnder_39 C T _ hf
  · refine zr_iload_n 0 5 C (by decide +kernel) rfl rfl ?_
    refine zr_iload_n 1 6 C (by decide +kernel) rfl rfl ?_
    refine zr_icmp_eq (off := 33) 39 9 C (by decide +kernel) (by decide) rfl hf (fun hf => ?_) (fun hf => ?_)
    · refine zr_less (zN (zN zE)) ?_
      exact w_M_isUnder_39 C T _ hf
    · refine zr_iload_n 1 10 C (by decide +kernel) rfl rfl ?_
      refine zr_iconst (v := 1) 1 11 C (by decide +kernel) rfl rfl ?_
      refine zr_icmp_ne (off := 8) 19 14 C (by decide +kernel) (by decide) rfl hf (fun hf => ?_) (fun hf => ?_)
      · exact w_M_isUnder_19 C T _ _ _ hf
      · refine zr_iload_n 0 15 C (by decide +kernel) rfl rfl ?_
        refine zr_iconst (v := 2) 2 16 C (by decide +kernel) rfl rfl ?_
        refine zr_icmp_ge (off := 23) 39 19 C (by decide +kernel) (by decide) rfl hf (fun hf => ?_) (fun hf => ?_)
        · refine zr_less (zN (zN zE)) ?_
          exact w_M_isUnder_39 C T _ hf
        · exact w_M_isUnder_19 C T _ _ _ hf
theorem y_M_isUnder : zY yX11_isUnder cX11_isUnder 2 (some .boolean) 2 := ⟨q_1481, q_90, by decide +kernel, by decide +kernel, by decide +kernel⟩
theorem k_M_isUnder {l : Launch} {d : zD} {F : zF} {h : Nat → Nat} {σ : zS} {lv : List (Option Value)} {pc : Nat} {own : String} {cc : ByteArray} {nL fr lo idx : Nat} {rest : List Value} {β : Type} {kf : Int32 → zS → Option β} {o2 : β}  {p0 : Int32} {p1 : Int32} (pc' : Nat) (C : zOk d F own cc nL fr lo) (hd : decode cc pc = .ok (.invokestatic idx, 3)) (hp : pc + 3 = pc') (hq : Cond.methodLink own idx yX11_isUnder ∈ zW) (hm : 0 + 1 ≤ fr ∧ 8 + (2 + 11) + 0 ≤ lo) (hr : (rest.map fun v => v.category).sum ≤ 8) (hf : zbd (f_M_isUnder p0 p1 σ) kf = some o2) (K : ∀ (r : Int32) (σ' : zS), kf r σ' = some o2 → V l d F 0 0 (MW d h σ') lv pc' (.int r :: rest)) : V l d F 0 0 (MW d h σ) lv pc (.int p1 :: .int p0 :: rest) := by
  obtain ⟨q, h1, h2⟩ := zbd_some hf
  exact zr_callS y_M_isUnder q_1480 (As := [.int p0, .int p1]) (m_M_isUnder h1) rfl rfl pc' C hd hp hq hm hr (K _ _ h2)
/-! StepsBeyondModel.taken(II)I -/
def f_M_taken (p1 : Int32) (p2 : Int32) (σ : zS) : Option (Int32 × zS) :=
  zbd (f_M_in p2 0 6 σ) fun r2 σ1 =>
  (if r2 = 0 then
  some (-2, σ1)
  else
  zbd (f_M_in p1 0 31 σ1) fun r4 σ3 =>
  (if r4 = 0 then
  some (-12, σ3)
  else
  (if 20 ≤ p1 then
  (if (p1 - 20) < (σ3.1 3) then
  (if 6 ≤ p2 then
  some (-13, σ3)
  else
  zin (p1 - 20) 12 (zbd (f_M_isUnder (σ3.2 3 (p1 - 20).toNatClampNeg) p2 σ3) fun r6 σ5 =>
  (if r6 = 0 then
  some (-13, σ5)
  else
  some (p1 - 20, σ5))))
  else
  some (-11, σ3))
  else
  (if p1 < (σ3.1 0) then
  (if p2 = 6 then
  zin p1 20 (some (σ3.2 1 p1.toNatClampNeg, σ3))
  else
  some (-13, σ3))
  else
  some (-11, σ3)))))
set_option maxRecDepth 4000 in
theorem m_M_taken {l : Launch} {d : zD} {h : Nat → Nat} {out : Int32 × zS} {σ : zS} {p1 : Int32} {p2 : Int32} (hf : f_M_taken p1 p2 σ = some out) : zM l yX11_taken cX11_taken 3 (some .int) 1 22 d [.ref (h 0), .int p1, .int p2] (MW d h σ) (MW d h out.2) (some (.int out.1)) := by
  refine zM_of [some (.ref (h 0)), some (.int p1), some (.int p2)] (by decide +kernel) rfl (Nat.le_of_ble_eq_true rfl) (fun F C T => ?_)
  unfold f_M_taken at hf
  refine zr_iload_n 2 1 C (by decide +kernel) rfl rfl ?_
  refine zr_iconst (v := 0) 0 2 C (by decide +kernel) rfl rfl ?_
  refine zr_bipush (v := 6) 6 4 C (by decide +kernel) rfl rfl ?_
  refine k_M_in (idx := 139) 7 C (by decide +kernel) rfl q_1181 (zb2 rfl rfl) (Nat.le_of_ble_eq_true rfl) hf (fun r2 σ1 hf => ?_)
  refine zr_if_ne (off := 6) 13 10 C (by decide +kernel) (by decide) rfl hf (fun hf => ?_) (fun hf => ?_)
  · refine zr_iload_n 1 14 C (by decide +kernel) rfl rfl ?_
    refine zr_iconst (v := 0) 0 15 C (by decide +kernel) rfl rfl ?_
    refine zr_bipush (v := 31) 31 17 C (by decide +kernel) rfl rfl ?_
    refine k_M_in (idx := 139) 20 C (by decide +kernel) rfl q_1181 (zb2 rfl rfl) (Nat.le_of_ble_eq_true rfl) hf (fun r4 σ3 hf => ?_)
    refine zr_if_ne (off := 6) 26 23 C (by decide +kernel) (by decide) rfl hf (fun hf => ?_) (fun hf => ?_)
    · refine zr_iload_n 1 27 C (by decide +kernel) rfl rfl ?_
      refine zr_bipush (v := 20) 20 29 C (by decide +kernel) rfl rfl ?_
      refine zr_icmp_ge (off := 34) 63 32 C (by decide +kernel) (by decide) rfl hf (fun hf => ?_) (fun hf => ?_)
      · refine zr_iload_n 1 64 C (by decide +kernel) rfl rfl ?_
        refine zr_bipush (v := 20) 20 66 C (by decide +kernel) rfl rfl ?_
        refine zr_isub 67 C (by decide +kernel) rfl ?_
        refine zr_aload_n 0 68 C (by decide +kernel) rfl rfl ?_
        refine mg_0_3 (idx := 257) 71 C (by decide +kernel) rfl q_994 ?_
        refine zr_icmp_lt (off := 8) 79 74 C (by decide +kernel) (by decide) rfl hf (fun hf => ?_) (fun hf => ?_)
        · refine zr_iload_n 2 80 C (by decide +kernel) rfl rfl ?_
          refine zr_bipush (v := 6) 6 82 C (by decide +kernel) rfl rfl ?_
          refine zr_icmp_ge (off := 26) 108 85 C (by decide +kernel) (by decide) rfl hf (fun hf => ?_) (fun hf => ?_)
          · refine zr_bipush (v := (-13)) (-13) 110 C (by decide +kernel) rfl rfl ?_
            obtain rfl := Option.some.inj hf
            exact zr_iret C (by decide +kernel) T
          · refine zr_aload_n 0 86 C (by decide +kernel) rfl rfl ?_
            refine mg_0_4 (idx := 16) 89 C (by decide +kernel) rfl q_995 ?_
            refine zr_iload_n 1 90 C (by decide +kernel) rfl rfl ?_
            refine zr_bipush (v := 20) 20 92 C (by decide +kernel) rfl rfl ?_
            refine zr_isub 93 C (by decide +kernel) rfl ?_
            refine ml_3 94 C (by decide +kernel) rfl hf (fun hf => ?_)
            refine zr_iload_n 2 95 C (by decide +kernel) rfl rfl ?_
            refine k_M_isUnder (idx := 365) 98 C (by decide +kernel) rfl q_1479 (zb2 rfl rfl) (Nat.le_of_ble_eq_true rfl) hf (fun r6 σ5 hf => ?_)
            refine zr_if_eq (off := 10) 108 101 C (by decide +kernel) (by decide) rfl hf (fun hf => ?_) (fun hf => ?_)
            · refine zr_bipush (v := (-13)) (-13) 110 C (by decide +kernel) rfl rfl ?_
              obtain rfl := Option.some.inj hf
              exact zr_iret C (by decide +kernel) T
            · refine zr_iload_n 1 102 C (by decide +kernel) rfl rfl ?_
              refine zr_bipush (v := 20) 20 104 C (by decide +kernel) rfl rfl ?_
              refine zr_isub 105 C (by decide +kernel) rfl ?_
              refine zr_goto (off := 5) 110 C (by decide +kernel) (by decide) ?_
              obtain rfl := Option.some.inj hf
              exact zr_iret C (by decide +kernel) T
        · refine zr_bipush (v := (-11)) (-11) 76 C (by decide +kernel) rfl rfl ?_
          refine zr_goto (off := 34) 110 C (by decide +kernel) (by decide) ?_
          obtain rfl := Option.some.inj hf
          exact zr_iret C (by decide +kernel) T
      · refine zr_iload_n 1 33 C (by decide +kernel) rfl rfl ?_
        refine zr_aload_n 0 34 C (by decide +kernel) rfl rfl ?_
        refine mg_0_0 (idx := 143) 37 C (by decide +kernel) rfl q_991 ?_
        refine zr_icmp_lt (off := 8) 45 40 C (by decide +kernel) (by decide) rfl hf (fun hf => ?_) (fun hf => ?_)
        · refine zr_iload_n 2 46 C (by decide +kernel) rfl rfl ?_
          refine zr_bipush (v := 6) 6 48 C (by decide +kernel) rfl rfl ?_
          refine zr_icmp_ne (off := 12) 60 51 C (by decide +kernel) (by decide) rfl hf (fun hf => ?_) (fun hf => ?_)
          · refine zr_bipush (v := (-13)) (-13) 62 C (by decide +kernel) rfl rfl ?_
            obtain rfl := Option.some.inj hf
            exact zr_iret C (by decide +kernel) T
          · refine zr_aload_n 0 52 C (by decide +kernel) rfl rfl ?_
            refine mg_0_1 (idx := 7) 55 C (by decide +kernel) rfl q_992 ?_
            refine zr_iload_n 1 56 C (by decide +kernel) rfl rfl ?_
            refine ml_1 57 C (by decide +kernel) rfl hf (fun hf => ?_)
            refine zr_goto (off := 5) 62 C (by decide +kernel) (by decide) ?_
            obtain rfl := Option.some.inj hf
            exact zr_iret C (by decide +kernel) T
        · refine zr_bipush (v := (-11)) (-11) 42 C (by decide +kernel) rfl rfl ?_
          refine zr_goto (off := 20) 62 C (by decide +kernel) (by decide) ?_
          obtain rfl := Option.some.inj hf
          exact zr_iret C (by decide +kernel) T
    · refine zr_bipush (v := (-12)) (-12) 25 C (by decide +kernel) rfl rfl ?_
      obtain rfl := Option.some.inj hf
      exact zr_iret C (by decide +kernel) T
  · refine zr_bipush (v := (-2)) (-2) 12 C (by decide +kernel) rfl rfl ?_
    obtain rfl := Option.some.inj hf
    exact zr_iret C (by decide +kernel) T
theorem y_M_taken : zY yX11_taken cX11_taken 3 (some .int) 2 := ⟨q_1478, q_90, by decide +kernel, by decide +kernel, by decide +kernel⟩
theorem k_M_taken {l : Launch} {d : zD} {F : zF} {h : Nat → Nat} {σ : zS} {lv : List (Option Value)} {pc : Nat} {own : String} {cc : ByteArray} {nL fr lo idx : Nat} {rest : List Value} {β : Type} {kf : Int32 → zS → Option β} {o2 : β}  {p1 : Int32} {p2 : Int32} (pc' : Nat) (C : zOk d F own cc nL fr lo) (hd : decode cc pc = .ok (.invokevirtual idx, 3)) (hp : pc + 3 = pc') (hq : Cond.methodLink own idx yX11_taken ∈ zW) (hm : 1 + 1 ≤ fr ∧ 8 + (3 + 11) + 22 ≤ lo) (hr : (rest.map fun v => v.category).sum ≤ 8) (hf : zbd (f_M_taken p1 p2 σ) kf = some o2) (K : ∀ (r : Int32) (σ' : zS), kf r σ' = some o2 → V l d F 0 0 (MW d h σ') lv pc' (.int r :: rest)) : V l d F 0 0 (MW d h σ) lv pc (.int p2 :: .int p1 :: .ref (h 0) :: rest) := by
  obtain ⟨q, h1, h2⟩ := zbd_some hf
  exact zr_callV y_M_taken ⟨q_1476, q_1477⟩ 0 rfl rfl (As := [.int p1, .int p2]) (m_M_taken h1) rfl rfl pc' C hd hp hq hm hr (K _ _ h2)

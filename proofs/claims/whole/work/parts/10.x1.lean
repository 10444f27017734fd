/-! StepsBeyond$Land.sweepRow([II)Z -/
def f_La_sweepRow_12_104 (k63 : Int32 → Int32 → Int32 → zS → Option (Int32 × zS)) (x2 : Int32) (x3 : Int32) (x4 : Int32) (σ : zS) : Option (Int32 × zS) :=
  k63 x2 x3 (x4 + (-1)) σ
set_option maxRecDepth 4000 in
theorem w_La_sweepRow_12_104 {l : Launch} {d : zD} {F : zF} {h : Nat → Nat} {out : Int32 × zS} {ad av : Nat → Nat}  {k63 : Int32 → Int32 → Int32 → zS → Option (Int32 × zS)} (C : zOk d F RX2 cX2_sweepRow 6 0 0) (T : zRt d F (some .boolean) (some (.int out.1)) (XW d h out.2)) (E : zXe d ad av) (H63 : ∀ (x2 : Int32) (x3 : Int32) (x4 : Int32) (σ : zS), k63 x2 x3 x4 σ = some out → V l d F 0 0 (XW d h σ) [some (.ref (h 4)), some (.ref (h 12)), some (.int x2), some (.int x3), some (.int x4), none] 63 []) (x2 : Int32) (x3 : Int32) (x4 : Int32) (σ : zS) (hf : f_La_sweepRow_12_104 k63 x2 x3 x4 σ = some out) : V l d F 0 0 (XW d h σ) [some (.ref (h 4)), some (.ref (h 12)), some (.int x2), some (.int x3), some (.int x4), none] 104 [] := by
  unfold f_La_sweepRow_12_104 at hf
  refine zr_iinc (j := -1) 4 [some (.ref (h 4)), some (.ref (h 12)), some (.int x2), some (.int x3), some (.int (x4 + (-1))), none] 107 C (by decide +kernel) rfl rfl rfl (by decide) rfl rfl ?_
  refine zr_goto (off := -44) 63 C (by decide +kernel) (by decide) ?_
  exact H63 _ _ _ _ hf
def f_La_sweepRow_12_63b (k63 : Int32 → Int32 → Int32 → zS → Option (Int32 × zS)) (x2 : Int32) (x3 : Int32) (x4 : Int32) (σ : zS) : Option (Int32 × zS) :=
  (if x4 < x2 then
  zbo x3 (some (x3, σ))
  else
  zin (x4 + 1) 1600 (zin (x4 + 1) 1600 (zlt ((σ.2 12 (x4 + 1).toNatClampNeg) + (σ.2 21 (x4 + 1).toNatClampNeg)) fun v1 => 
  zin x4 1600 ((if (σ.2 12 x4.toNatClampNeg) ≤ v1 then
  f_La_sweepRow_12_104 k63 x2 x3 x4 σ
  else
  zin x4 1600 (zlt (zsa σ 12 x4 v1) fun σ2 =>
  f_La_sweepRow_12_104 k63 x2 1 x4 σ2))))))
set_option maxRecDepth 4000 in
theorem w_La_sweepRow_12_63b {l : Launch} {d : zD} {F : zF} {h : Nat → Nat} {out : Int32 × zS} {ad av : Nat → Nat}  {k63 : Int32 → Int32 → Int32 → zS → Option (Int32 × zS)} (C : zOk d F RX2 cX2_sweepRow 6 0 0) (T : zRt d F (some .boolean) (some (.int out.1)) (XW d h out.2)) (E : zXe d ad av) (H63 : ∀ (x2 : Int32) (x3 : Int32) (x4 : Int32) (σ : zS), k63 x2 x3 x4 σ = some out → V l d F 0 0 (XW d h σ) [some (.ref (h 4)), some (.ref (h 12)), some (.int x2), some (.int x3), some (.int x4), none] 63 []) (x2 : Int32) (x3 : Int32) (x4 : Int32) (σ : zS) (hf : f_La_sweepRow_12_63b k63 x2 x3 x4 σ = some out) : V l d F 0 0 (XW d h σ) [some (.ref (h 4)), some (.ref (h 12)), some (.int x2), some (.int x3), some (.int x4), none] 63 [] := by
  unfold f_La_sweepRow_12_63b at hf
  refine zr_iload 4 65 C (by decide +kernel) rfl rfl ?_
  refine zr_iload_n 2 66 C (by decide +kernel) rfl rfl ?_
  refine zr_icmp_lt (off := 44) 110 69 C (by decide +kernel) (by decide) rfl hf (fun hf => ?_) (fun hf => ?_)
  · refine zr_iload_n 3 111 C (by decide +kernel) rfl rfl ?_
    obtain ⟨hz, hf⟩ := zbo_some hf
    obtain rfl := Option.some.inj hf
    exact zr_zret C (by decide +kernel) hz T
  · refine zr_aload_n 1 70 C (by decide +kernel) rfl rfl ?_
    refine zr_iload 4 72 C (by decide +kernel) rfl rfl ?_
    refine zr_iconst (v := 1) 1 73 C (by decide +kernel) rfl rfl ?_
    refine zr_iadd 74 C (by decide +kernel) rfl ?_
    refine xl_12 75 C (by decide +kernel) rfl hf (fun hf => ?_)
    refine zr_aload_n 0 76 C (by decide +kernel) rfl rfl ?_
    refine xg_4_0 (idx := 9) 79 C (by decide +kernel) rfl q_224 ?_
    refine zr_iload 4 81 C (by decide +kernel) rfl rfl ?_
    refine zr_iconst (v := 1) 1 82 C (by decide +kernel) rfl rfl ?_
    refine zr_iadd 83 C (by decide +kernel) rfl ?_
    refine xl_21 84 C (by decide +kernel) rfl hf (fun hf => ?_)
    refine zr_iadd 85 C (by decide +kernel) rfl ?_
    refine zr_name hf (fun v1 hf => ?_)
    refine zr_istore 5 [some (.ref (h 4)), some (.ref (h 12)), some (.int x2), some (.int x3), some (.int x4), some (.int v1)] 87 C (by decide +kernel) rfl (by decide) rfl rfl ?_
    refine zr_iload 5 89 C (by decide +kernel) rfl rfl ?_
    refine zr_aload_n 1 90 C (by decide +kernel) rfl rfl ?_
    refine zr_iload 4 92 C (by decide +kernel) rfl rfl ?_
    refine xl_12 93 C (by decide +kernel) rfl hf (fun hf => ?_)
    refine zr_icmp_ge (off := 11) 104 96 C (by decide +kernel) (by decide) rfl hf (fun hf => ?_) (fun hf => ?_)
    · refine zr_less (zA (zA (zA (zA (zA (zN zE)))))) ?_
      exact w_La_sweepRow_12_104 C T E H63 _ _ _ _ hf
    · refine zr_aload_n 1 97 C (by decide +kernel) rfl rfl ?_
      refine zr_iload 4 99 C (by decide +kernel) rfl rfl ?_
      refine zr_iload 5 101 C (by decide +kernel) rfl rfl ?_
      refine xs_12 102 C (by decide +kernel) rfl hf (fun σ2 hf => ?_)
      refine zr_iconst (v := 1) 1 103 C (by decide +kernel) rfl rfl ?_
      refine zr_istore_n 3 [some (.ref (h 4)), some (.ref (h 12)), some (.int x2), some (.int 1), some (.int x4), some (.int v1)] 104 C (by decide +kernel) rfl (by decide) rfl rfl ?_
      refine zr_less (zA (zA (zA (zA (zA (zN zE)))))) ?_
      exact w_La_sweepRow_12_104 C T E H63 _ _ _ _ hf
def f_La_sweepRow_12_63  : Nat → Int32 → Int32 → Int32 → zS → Option (Int32 × zS)
  | 0, _, _, _, _ => none
  | n + 1, x2, x3, x4,  σ => f_La_sweepRow_12_63b (fun x2 x3 x4 σ => f_La_sweepRow_12_63  n x2 x3 x4 σ) x2 x3 x4 σ
theorem w_La_sweepRow_12_63 {l : Launch} {d : zD} {F : zF} {h : Nat → Nat} {out : Int32 × zS} {ad av : Nat → Nat}   (C : zOk d F RX2 cX2_sweepRow 6 0 0) (T : zRt d F (some .boolean) (some (.int out.1)) (XW d h out.2)) (E : zXe d ad av)  : ∀ (n : Nat) (x2 : Int32) (x3 : Int32) (x4 : Int32) (σ : zS), f_La_sweepRow_12_63  n x2 x3 x4 σ = some out → V l d F 0 0 (XW d h σ) [some (.ref (h 4)), some (.ref (h 12)), some (.int x2), some (.int x3), some (.int x4), none] 63 [] := by
  intro n
  induction n with
  | zero =>
    intro x2 x3 x4 σ hf
    cases hf
  | succ n ih =>
    intro x2 x3 x4 σ hf
    exact w_La_sweepRow_12_63b C T E ih x2 x3 x4 σ hf
def f_La_sweepRow_12_49 (k7 : Int32 → Int32 → Int32 → zS → Option (Int32 × zS)) (x2 : Int32) (x3 : Int32) (x4 : Int32) (σ : zS) : Option (Int32 × zS) :=
  k7 x2 x3 (x4 + 1) σ
set_option maxRecDepth 4000 in
theorem w_La_sweepRow_12_49 {l : Launch} {d : zD} {F : zF} {h : Nat → Nat} {out : Int32 × zS} {ad av : Nat → Nat}  {k7 : Int32 → Int32 → Int32 → zS → Option (Int32 × zS)} (C : zOk d F RX2 cX2_sweepRow 6 0 0) (T : zRt d F (some .boolean) (some (.int out.1)) (XW d h out.2)) (E : zXe d ad av) (H7 : ∀ (x2 : Int32) (x3 : Int32) (x4 : Int32) (σ : zS), k7 x2 x3 x4 σ = some out → V l d F 0 0 (XW d h σ) [some (.ref (h 4)), some (.ref (h 12)), some (.int x2), some (.int x3), some (.int x4), none] 7 []) (x2 : Int32) (x3 : Int32) (x4 : Int32) (σ : zS) (hf : f_La_sweepRow_12_49 k7 x2 x3 x4 σ = some out) : V l d F 0 0 (XW d h σ) [some (.ref (h 4)), some (.ref (h 12)), some (.int x2), some (.int x3), some (.int x4), none] 49 [] := by
  unfold f_La_sweepRow_12_49 at hf
  refine zr_iinc (j := 1) 4 [some (.ref (h 4)), some (.ref (h 12)), some (.int x2), some (.int x3), some (.int (x4 + 1)), none] 52 C (by decide +kernel) rfl rfl rfl (by decide) rfl rfl ?_
  refine zr_goto (off := -45) 7 C (by decide +kernel) (by decide) ?_
  exact H7 _ _ _ _ hf
def f_La_sweepRow_12_7b (k7 : Int32 → Int32 → Int32 → zS → Option (Int32 × zS)) (x2 : Int32) (x3 : Int32) (x4 : Int32) (σ : zS) : Option (Int32 × zS) :=
  (if (x2 + 40) ≤ x4 then
  zlt ((x2 + 40) - 2) fun v1 => 
  f_La_sweepRow_12_63 zfu x2 x3 v1 σ
  else
  zin (x4 - 1) 1600 (zin x4 1600 (zlt ((σ.2 12 (x4 - 1).toNatClampNeg) + (σ.2 21 x4.toNatClampNeg)) fun v2 => 
  zin x4 1600 ((if (σ.2 12 x4.toNatClampNeg) ≤ v2 then
  f_La_sweepRow_12_49 k7 x2 x3 x4 σ
  else
  zin x4 1600 (zlt (zsa σ 12 x4 v2) fun σ3 =>
  f_La_sweepRow_12_49 k7 x2 1 x4 σ3))))))
set_option maxRecDepth 4000 in
theorem w_La_sweepRow_12_7b {l : Launch} {d : zD} {F : zF} {h : Nat → Nat} {out : Int32 × zS} {ad av : Nat → Nat}  {k7 : Int32 → Int32 → Int32 → zS → Option (Int32 × zS)} (C : zOk d F RX2 cX2_sweepRow 6 0 0) (T : zRt d F (some .boolean) (some (.int out.1)) (XW d h out.2)) (E : zXe d ad av) (H7 : ∀ (x2 : Int32) (x3 : Int32) (x4 : Int32) (σ : zS), k7 x2 x3 x4 σ = some out → V l d F 0 0 (XW d h σ) [some (.ref (h 4)), some (.ref (h 12)), some (.int x2), some (.int x3), some (.int x4), none] 7 []) (x2 : Int32) (x3 : Int32) (x4 : Int32) (σ : zS) (hf : f_La_sweepRow_12_7b k7 x2 x3 x4 σ = some out) : V l d F 0 0 (XW d h σ) [some (.ref (h 4)), some (.ref (h 12)), some (.int x2), some (.int x3), some (.int x4), none] 7 [] := by
  unfold f_La_sweepRow_12_7b at hf
  refine zr_iload 4 9 C (by decide +kernel) rfl rfl ?_
  refine zr_iload_n 2 10 C (by decide +kernel) rfl rfl ?_
  refine zr_bipush (v := 40) 40 12 C (by decide +kernel) rfl rfl ?_
  refine zr_iadd 13 C (by decide +kernel) rfl ?_
  refine zr_icmp_ge (off := 42) 55 16 C (by decide +kernel) (by decide) rfl hf (fun hf => ?_) (fun hf => ?_)
  · refine zr_iload_n 2 56 C (by decide +kernel) rfl rfl ?_
    refine zr_bipush (v := 40) 40 58 C (by decide +kernel) rfl rfl ?_
    refine zr_iadd 59 C (by decide +kernel) rfl ?_
    refine zr_iconst (v := 2) 2 60 C (by decide +kernel) rfl rfl ?_
    refine zr_isub 61 C (by decide +kernel) rfl ?_
    refine zr_name hf (fun v1 hf => ?_)
    refine zr_istore 4 [some (.ref (h 4)), some (.ref (h 12)), some (.int x2), some (.int x3), some (.int v1), none] 63 C (by decide +kernel) rfl (by decide) rfl rfl ?_
    exact w_La_sweepRow_12_63 C T E zfu _ _ _ _ hf
  · refine zr_aload_n 1 17 C (by decide +kernel) rfl rfl ?_
    refine zr_iload 4 19 C (by decide +kernel) rfl rfl ?_
    refine zr_iconst (v := 1) 1 20 C (by decide +kernel) rfl rfl ?_
    refine zr_isub 21 C (by decide +kernel) rfl ?_
    refine xl_12 22 C (by decide +kernel) rfl hf (fun hf => ?_)
    refine zr_aload_n 0 23 C (by decide +kernel) rfl rfl ?_
    refine xg_4_0 (idx := 9) 26 C (by decide +kernel) rfl q_224 ?_
    refine zr_iload 4 28 C (by decide +kernel) rfl rfl ?_
    refine xl_21 29 C (by decide +kernel) rfl hf (fun hf => ?_)
    refine zr_iadd 30 C (by decide +kernel) rfl ?_
    refine zr_name hf (fun v2 hf => ?_)
    refine zr_istore 5 [some (.ref (h 4)), some (.ref (h 12)), some (.int x2), some (.int x3), some (.int x4), some (.int v2)] 32 C (by decide +kernel) rfl (by decide) rfl rfl ?_
    refine zr_iload 5 34 C (by decide +kernel) rfl rfl ?_
    refine zr_aload_n 1 35 C (by decide +kernel) rfl rfl ?_
    refine zr_iload 4 37 C (by decide +kernel) rfl rfl ?_
    refine xl_12 38 C (by decide +kernel) rfl hf (fun hf => ?_)
    refine zr_icmp_ge (off := 11) 49 41 C (by decide +kernel) (by decide) rfl hf (fun hf => ?_) (fun hf => ?_)
    · refine zr_less (zA (zA (zA (zA (zA (zN zE)))))) ?_
      exact w_La_sweepRow_12_49 C T E H7 _ _ _ _ hf
    · refine zr_aload_n 1 42 C (by decide +kernel) rfl rfl ?_
      refine zr_iload 4 44 C (by decide +kernel) rfl rfl ?_
      refine zr_iload 5 46 C (by decide +kernel) rfl rfl ?_
      refine xs_12 47 C (by decide +kernel) rfl hf (fun σ3 hf => ?_)
      refine zr_iconst (v := 1) 1 48 C (by decide +kernel) rfl rfl ?_
      refine zr_istore_n 3 [some (.ref (h 4)), some (.ref (h 12)), some (.int x2), some (.int 1), some (.int x4), some (.int v2)] 49 C (by decide +kernel) rfl (by decide) rfl rfl ?_
      refine zr_less (zA (zA (zA (zA (zA (zN zE)))))) ?_
      exact w_La_sweepRow_12_49 C T E H7 _ _ _ _ hf
def f_La_sweepRow_12_7  : Nat → Int32 → Int32 → Int32 → zS → Option (Int32 × zS)
  | 0, _, _, _, _ => none
  | n + 1, x2, x3, x4,  σ => f_La_sweepRow_12_7b (fun x2 x3 x4 σ => f_La_sweepRow_12_7  n x2 x3 x4 σ) x2 x3 x4 σ
theorem w_La_sweepRow_12_7 {l : Launch} {d : zD} {F : zF} {h : Nat → Nat} {out : Int32 × zS} {ad av : Nat → Nat}   (C : zOk d F RX2 cX2_sweepRow 6 0 0) (T : zRt d F (some .boolean) (some (.int out.1)) (XW d h out.2)) (E : zXe d ad av)  : ∀ (n : Nat) (x2 : Int32) (x3 : Int32) (x4 : Int32) (σ : zS), f_La_sweepRow_12_7  n x2 x3 x4 σ = some out → V l d F 0 0 (XW d h σ) [some (.ref (h 4)), some (.ref (h 12)), some (.int x2), some (.int x3), some (.int x4), none] 7 [] := by
  intro n
  induction n with
  | zero =>
    intro x2 x3 x4 σ hf
    cases hf
  | succ n ih =>
    intro x2 x3 x4 σ hf
    exact w_La_sweepRow_12_7b C T E ih x2 x3 x4 σ hf
def f_La_sweepRow_12 (p2 : Int32) (σ : zS) : Option (Int32 × zS) :=
  zlt (p2 + 1) fun v1 => 
  f_La_sweepRow_12_7 zfu p2 0 v1 σ
set_option maxRecDepth 4000 in
theorem m_La_sweepRow_12 {l : Launch} {d : zD} {h : Nat → Nat} {out : Int32 × zS} {σ : zS} {ad av : Nat → Nat} {p2 : Int32} (E : zXe d ad av) (hf : f_La_sweepRow_12 p2 σ = some out) : zM l yX2_sweepRow cX2_sweepRow 6 (some .boolean) 0 0 d [.ref (h 4), .ref (h 12), .int p2] (XW d h σ) (XW d h out.2) (some (.int out.1)) := by
  refine zM_of [some (.ref (h 4)), some (.ref (h 12)), some (.int p2), none, none, none] (by decide +kernel) rfl (Nat.le_of_ble_eq_true rfl) (fun F C T => ?_)
  unfold f_La_sweepRow_12 at hf
  refine zr_iconst (v := 0) 0 1 C (by decide +kernel) rfl rfl ?_
  refine zr_istore_n 3 [some (.ref (h 4)), some (.ref (h 12)), some (.int p2), some (.int 0), none, none] 2 C (by decide +kernel) rfl (by decide) rfl rfl ?_
  refine zr_iload_n 2 3 C (by decide +kernel) rfl rfl ?_
  refine zr_iconst (v := 1) 1 4 C (by decide +kernel) rfl rfl ?_
  refine zr_iadd 5 C (by decide +kernel) rfl ?_
  refine zr_name hf (fun v1 hf => ?_)
  refine zr_istore 4 [some (.ref (h 4)), some (.ref (h 12)), some (.int p2), some (.int 0), some (.int v1), none] 7 C (by decide +kernel) rfl (by decide) rfl rfl ?_
  exact w_La_sweepRow_12_7 C T E zfu _ _ _ _ hf
theorem y_La_sweepRow_12 : zY yX2_sweepRow cX2_sweepRow 6 (some .boolean) 2 := ⟨q_810, q_77, by decide +kernel, by decide +kernel, by decide +kernel⟩
theorem k_La_sweepRow_12 {l : Launch} {d : zD} {F : zF} {h : Nat → Nat} {σ : zS} {lv : List (Option Value)} {pc : Nat} {own : String} {cc : ByteArray} {nL fr lo idx : Nat} {rest : List Value} {β : Type} {kf : Int32 → zS → Option β} {o2 : β} {ad av : Nat → Nat}  {p2 : Int32} (pc' : Nat) (C : zOk d F own cc nL fr lo) (E : zXe d ad av) (hd : decode cc pc = .ok (.invokevirtual idx, 3)) (hp : pc + 3 = pc') (hq : Cond.methodLink own idx yX2_sweepRow ∈ zW) (hm : 0 + 1 ≤ fr ∧ 8 + (6 + 11) + 0 ≤ lo) (hr : (rest.map fun v => v.category).sum ≤ 8) (hf : zbd (f_La_sweepRow_12 p2 σ) kf = some o2) (K : ∀ (r : Int32) (σ' : zS), kf r σ' = some o2 → V l d F 0 0 (XW d h σ') lv pc' (.int r :: rest)) : V l d F 0 0 (XW d h σ) lv pc (.int p2 :: .ref (h 12) :: .ref (h 4) :: rest) := by
  obtain ⟨q, h1, h2⟩ := zbd_some hf
  exact zr_callV y_La_sweepRow_12 ⟨q_809, q_25⟩ 4 rfl rfl (As := [.ref (h 12), .int p2]) (m_La_sweepRow_12 E h1) rfl rfl pc' C hd hp hq hm hr (K _ _ h2)
/-! StepsBeyond$Land.sweepSouth([I)Z -/
def f_La_sweepSouth_12_80 (k10 : Int32 → Int32 → zS → Option (Int32 × zS)) (x2 : Int32) (x3 : Int32) (σ : zS) : Option (Int32 × zS) :=
  k10 x2 (x3 + 40) σ
set_option maxRecDepth 4000 in
theorem w_La_sweepSouth_12_80 {l : Launch} {d : zD} {F : zF} {h : Nat → Nat} {out : Int32 × zS} {ad av : Nat → Nat}  {k10 : Int32 → Int32 → zS → Option (Int32 × zS)} (C : zOk d F RX2 cX2_sweepSouth 6 1 25) (T : zRt d F (some .boolean) (some (.int out.1)) (XW d h out.2)) (E : zXe d ad av) (H10 : ∀ (x2 : Int32) (x3 : Int32) (σ : zS), k10 x2 x3 σ = some out → V l d F 0 0 (XW d h σ) [some (.ref (h 4)), some (.ref (h 12)), some (.int x2), some (.int x3), none, none] 10 []) (x2 : Int32) (x3 : Int32) (σ : zS) (hf : f_La_sweepSouth_12_80 k10 x2 x3 σ = some out) : V l d F 0 0 (XW d h σ) [some (.ref (h 4)), some (.ref (h 12)), some (.int x2), some (.int x3), none, none] 80 [] := by
  unfold f_La_sweepSouth_12_80 at hf
  refine zr_iinc (j := 40) 3 [some (.ref (h 4)), some (.ref (h 12)), some (.int x2), some (.int (x3 + 40)), none, none] 83 C (by decide +kernel) rfl rfl rfl (by decide) rfl rfl ?_
  refine zr_goto (off := -73) 10 C (by decide +kernel) (by decide) ?_
  exact H10 _ _ _ hf
def f_La_sweepSouth_12_63 (k10 : Int32 → Int32 → zS → Option (Int32 × zS)) (k20 : Int32 → Int32 → Int32 → zS → Option (Int32 × zS)) (x2 : Int32) (x3 : Int32) (x4 : Int32) (σ : zS) : Option (Int32 × zS) :=
  k20 x2 x3 (x4 + 1) σ
set_option maxRecDepth 4000 in
theorem w_La_sweepSouth_12_63 {l : Launch} {d : zD} {F : zF} {h : Nat → Nat} {out : Int32 × zS} {ad av : Nat → Nat}  {k10 : Int32 → Int32 → zS → Option (Int32 × zS)} {k20 : Int32 → Int32 → Int32 → zS → Option (Int32 × zS)} (C : zOk d F RX2 cX2_sweepSouth 6 1 25) (T : zRt d F (some .boolean) (some (.int out.1)) (XW d h out.2)) (E : zXe d ad av) (H10 : ∀ (x2 : Int32) (x3 : Int32) (σ : zS), k10 x2 x3 σ = some out → V l d F 0 0 (XW d h σ) [some (.ref (h 4)), some (.ref (h 12)), some (.int x2), some (.int x3), none, none] 10 []) (H20 : ∀ (x2 : Int32) (x3 : Int32) (x4 : Int32) (σ : zS), k20 x2 x3 x4 σ = some out → V l d F 0 0 (XW d h σ) [some (.ref (h 4)), some (.ref (h 12)), some (.int x2), some (.int x3), some (.int x4), none] 20 []) (x2 : Int32) (x3 : Int32) (x4 : Int32) (σ : zS) (hf : f_La_sweepSouth_12_63 k10 k20 x2 x3 x4 σ = some out) : V l d F 0 0 (XW d h σ) [some (.ref (h 4)), some (.ref (h 12)), some (.int x2), some (.int x3), some (.int x4), none] 63 [] := by
  unfold f_La_sweepSouth_12_63 at hf
  refine zr_iinc (j := 1) 4 [some (.ref (h 4)), some (.ref (h 12)), some (.int x2), some (.int x3), some (.int (x4 + 1)), none] 66 C (by decide +kernel) rfl rfl rfl (by decide) rfl rfl ?_
  refine zr_goto (off := -46) 20 C (by decide +kernel) (by decide) ?_
  exact H20 _ _ _ _ hf
def f_La_sweepSouth_12_20b (k10 : Int32 → Int32 → zS → Option (Int32 × zS)) (k20 : Int32 → Int32 → Int32 → zS → Option (Int32 × zS)) (x2 : Int32) (x3 : Int32) (x4 : Int32) (σ : zS) : Option (Int32 × zS) :=
  (if (x3 + 40) ≤ x4 then
  zbd (f_La_sweepRow_12 x3 σ) fun r2 σ1 =>
  (if r2 = 0 then
  f_La_sweepSouth_12_80 k10 x2 x3 σ1
  else
  f_La_sweepSouth_12_80 k10 1 x3 σ1)
  else
  zin (x4 - 40) 1600 (zin x4 1600 (zlt ((σ.2 12 (x4 - 40).toNatClampNeg) + (σ.2 22 x4.toNatClampNeg)) fun v3 => 
  zin x4 1600 ((if (σ.2 12 x4.toNatClampNeg) ≤ v3 then
  f_La_sweepSouth_12_63 k10 k20 x2 x3 x4 σ
  else
  zin x4 1600 (zlt (zsa σ 12 x4 v3) fun σ4 =>
  f_La_sweepSouth_12_63 k10 k20 1 x3 x4 σ4))))))
set_option maxRecDepth 4000 in
theorem w_La_sweepSouth_12_20b {l : Launch} {d : zD} {F : zF} {h : Nat → Nat} {out : Int32 × zS} {ad av : Nat → Nat}  {k10 : Int32 → Int32 → zS → Option (Int32 × zS)} {k20 : Int32 → Int32 → Int32 → zS → Option (Int32 × zS)} (C : zOk d F RX2 cX2_sweepSouth 6 1 25) (T : zRt d F (some .boolean) (some (.int out.1)) (XW d h out.2)) (E : zXe d ad av) (H10 : ∀ (x2 : Int32) (x3 : Int32) (σ : zS), k10 x2 x3 σ = some out → V l d F 0 0 (XW d h σ) [some (.ref (h 4)), some (.ref (h 12)), some (.int x2), some (.int x3), none, none] 10 []) (H20 : ∀ (x2 : Int32) (x3 : Int32) (x4 : Int32) (σ : zS), k20 x2 x3 x4 σ = some out → V l d F 0 0 (XW d h σ) [some (.ref (h 4)), some (.ref (h 12)), some (.int x2), some (.int x3), some (.int x4), none] 20 []) (x2 : Int32) (x3 : Int32) (x4 : Int32) (σ : zS) (hf : f_La_sweepSouth_12_20b k10 k20 x2 x3 x4 σ = some out) : V l d F 0 0 (XW d h σ) [some (.ref (h 4)), some (.ref (h 12)), some (.int x2), some (.int x3), some (.int x4), none] 20 [] := by
  unfold f_La_sweepSouth_12_20b at hf
  refine zr_iload 4 22 C (by decide +kernel) rfl rfl ?_
  refine zr_iload_n 3 23 C (by decide +kernel) rfl rfl ?_
  refine zr_bipush (v := 40) 40 25 C (by decide +kernel) rfl rfl ?_
  refine zr_iadd 26 C (by decide +kernel) rfl ?_
  refine zr_icmp_ge (off := 43) 69 29 C (by decide +kernel) (by decide) rfl hf (fun hf => ?_) (fun hf => ?_)
  · refine zr_aload_n 0 70 C (by decide +kernel) rfl rfl ?_
    refine zr_aload_n 1 71 C (by decide +kernel) rfl rfl ?_
    refine zr_iload_n 3 72 C (by decide +kernel) rfl rfl ?_
    refine k_La_sweepRow_12 (idx := 32) 75 C E (by decide +kernel) rfl q_807 (zb2 rfl rfl) (Nat.le_of_ble_eq_true rfl) hf (fun r2 σ1 hf => ?_)
    refine zr_if_eq (off := 5) 80 78 C (by decide +kernel) (by decide) rfl hf (fun hf => ?_) (fun hf => ?_)
    · refine zr_less (zA (zA (zA (zA (zN (zN zE)))))) ?_
      exact w_La_sweepSouth_12_80 C T E H10 _ _ _ hf
    · refine zr_iconst (v := 1) 1 79 C (by decide +kernel) rfl rfl ?_
      refine zr_istore_n 2 [some (.ref (h 4)), some (.ref (h 12)), some (.int 1), some (.int x3), some (.int x4), none] 80 C (by decide +kernel) rfl (by decide) rfl rfl ?_
      refine zr_less (zA (zA (zA (zA (zN (zN zE)))))) ?_
      exact w_La_sweepSouth_12_80 C T E H10 _ _ _ hf
  · refine zr_aload_n 1 30 C (by decide +kernel) rfl rfl ?_
    refine zr_iload 4 32 C (by decide +kernel) rfl rfl ?_
    refine zr_bipush (v := 40) 40 34 C (by decide +kernel) rfl rfl ?_
    refine zr_isub 35 C (by decide +kernel) rfl ?_
    refine xl_12 36 C (by decide +kernel) rfl hf (fun hf => ?_)
    refine zr_aload_n 0 37 C (by decide +kernel) rfl rfl ?_
    refine xg_4_1 (idx := 15) 40 C (by decide +kernel) rfl q_225 ?_
    refine zr_iload 4 42 C (by decide +kernel) rfl rfl ?_
    refine xl_22 43 C (by decide +kernel) rfl hf (fun hf => ?_)
    refine zr_iadd 44 C (by decide +kernel) rfl ?_
    refine zr_name hf (fun v3 hf => ?_)
    refine zr_istore 5 [some (.ref (h 4)), some (.ref (h 12)), some (.int x2), some (.int x3), some (.int x4), some (.int v3)] 46 C (by decide +kernel) rfl (by decide) rfl rfl ?_
    refine zr_iload 5 48 C (by decide +kernel) rfl rfl ?_
    refine zr_aload_n 1 49 C (by decide +kernel) rfl rfl ?_
    refine zr_iload 4 51 C (by decide +kernel) rfl rfl ?_
    refine xl_12 52 C (by decide +kernel) rfl hf (fun hf => ?_)
    refine zr_icmp_ge (off := 11) 63 55 C (by decide +kernel) (by decide) rfl hf (fun hf => ?_) (fun hf => ?_)
    · refine zr_less (zA (zA (zA (zA (zA (zN zE)))))) ?_
      exact w_La_sweepSouth_12_63 C T E H10 H20 _ _ _ _ hf
    · refine zr_aload_n 1 56 C (by decide +kernel) rfl rfl ?_
      refine zr_iload 4 58 C (by decide +kernel) rfl rfl ?_
      refine zr_iload 5 60 C (by decide +kernel) rfl rfl ?_
      refine xs_12 61 C (by decide +kernel) rfl hf (fun σ4 hf => ?_)
      refine zr_iconst (v := 1) 1 62 C (by decide +kernel) rfl rfl ?_
      refine zr_istore_n 2 [some (.ref (h 4)), some (.ref (h 12)), some (.int 1), some (.int x3), some (.int x4), some (.int v3)] 63 C (by decide +kernel) rfl (by decide) rfl rfl ?_
      refine zr_less (zA (zA (zA (zA (zA (zN zE)))))) ?_
      exact w_La_sweepSouth_12_63 C T E H10 H20 _ _ _ _ hf
def f_La_sweepSouth_12_20 (k10 : Int32 → Int32 → zS → Option (Int32 × zS)) : Nat → Int32 → Int32 → Int32 → zS → Option (Int32 × zS)
  | 0, _, _, _, _ => none
  | n + 1, x2, x3, x4,  σ => f_La_sweepSouth_12_20b k10 (fun x2 x3 x4 σ => f_La_sweepSouth_12_20 k10 n x2 x3 x4 σ) x2 x3 x4 σ
theorem w_La_sweepSouth_12_20 {l : Launch} {d : zD} {F : zF} {h : Nat → Nat} {out : Int32 × zS} {ad av : Nat → Nat}  {k10 : Int32 → Int32 → zS → Option (Int32 × zS)} (C : zOk d F RX2 cX2_sweepSouth 6 1 25) (T : zRt d F (some .boolean) (some (.int out.1)) (XW d h out.2)) (E : zXe d ad av) (H10 : ∀ (x2 : Int32) (x3 : Int32) (σ : zS), k10 x2 x3 σ = some out → V l d F 0 0 (XW d h σ) [some (.ref (h 4)), some (.ref (h 12)), some (.int x2), some (.int x3), none, none] 10 []) : ∀ (n : Nat) (x2 : Int32) (x3 : Int32) (x4 : Int32) (σ : zS), f_La_sweepSouth_12_20 k10 n x2 x3 x4 σ = some out → V l d F 0 0 (XW d h σ) [some (.ref (h 4)), some (.ref (h 12)), some (.int x2), some (.int x3), some (.int x4), none] 20 [] := by
  intro n
  induction n with
  | zero =>
    intro x2 x3 x4 σ hf
    cases hf
  | succ n ih =>
    intro x2 x3 x4 σ hf
    exact w_La_sweepSouth_12_20b C T E H10 ih x2 x3 x4 σ hf
def f_La_sweepSouth_12_10b (k10 : Int32 → Int32 → zS → Option (Int32 × zS)) (x2 : Int32) (x3 : Int32) (σ : zS) : Option (Int32 × zS) :=
  (if 1600 ≤ x3 then
  zbo x2 (some (x2, σ))
  else
  f_La_sweepSouth_12_20 k10 zfu x2 x3 x3 σ)
set_option maxRecDepth 4000 in
theorem w_La_sweepSouth_12_10b {l : Launch} {d : zD} {F : zF} {h : Nat → Nat} {out : Int32 × zS} {ad av : Nat → Nat}  {k10 : Int32 → Int32 → zS → Option (Int32 × zS)} (C : zOk d F RX2 cX2_sweepSouth 6 1 25) (T : zRt d F (some .boolean) (some (.int out.1)) (XW d h out.2)) (E : zXe d ad av) (H10 : ∀ (x2 : Int32) (x3 : Int32) (σ : zS), k10 x2 x3 σ = some out → V l d F 0 0 (XW d h σ) [some (.ref (h 4)), some (.ref (h 12)), some (.int x2), some (.int x3), none, none] 10 []) (x2 : Int32) (x3 : Int32) (σ : zS) (hf : f_La_sweepSouth_12_10b k10 x2 x3 σ = some out) : V l d F 0 0 (XW d h σ) [some (.ref (h 4)), some (.ref (h 12)), some (.int x2), some (.int x3), none, none] 10 [] := by
  unfold f_La_sweepSouth_12_10b at hf
  refine zr_iload_n 3 11 C (by decide +kernel) rfl rfl ?_
  refine zr_sipush (v := 1600) 1600 14 C (by decide +kernel) rfl rfl ?_
  refine zr_icmp_ge (off := 72) 86 17 C (by decide +kernel) (by decide) rfl hf (fun hf => ?_) (fun hf => ?_)
  · refine zr_iload_n 2 87 C (by decide +kernel) rfl rfl ?_
    obtain ⟨hz, hf⟩ := zbo_some hf
    obtain rfl := Option.some.inj hf
    exact zr_zret C (by decide +kernel) hz T
  · refine zr_iload_n 3 18 C (by decide +kernel) rfl rfl ?_
    refine zr_istore 4 [some (.ref (h 4)), some (.ref (h 12)), some (.int x2), some (.int x3), some (.int x3), none] 20 C (by decide +kernel) rfl (by decide) rfl rfl ?_
    exact w_La_sweepSouth_12_20 C T E H10 zfu _ _ _ _ hf
def f_La_sweepSouth_12_10  : Nat → Int32 → Int32 → zS → Option (Int32 × zS)
  | 0, _, _, _ => none
  | n + 1, x2, x3,  σ => f_La_sweepSouth_12_10b (fun x2 x3 σ => f_La_sweepSouth_12_10  n x2 x3 σ) x2 x3 σ
theorem w_La_sweepSouth_12_10 {l : Launch} {d : zD} {F : zF} {h : Nat → Nat} {out : Int32 × zS} {ad av : Nat → Nat}   (C : zOk d F RX2 cX2_sweepSouth 6 1 25) (T : zRt d F (some .boolean) (some (.int out.1)) (XW d h out.2)) (E : zXe d ad av)  : ∀ (n : Nat) (x2 : Int32) (x3 : Int32) (σ : zS), f_La_sweepSouth_12_10  n x2 x3 σ = some out → V l d F 0 0 (XW d h σ) [some (.ref (h 4)), some (.ref (h 12)), some (.int x2), some (.int x3), none, none] 10 [] := by
  intro n
  induction n with
  | zero =>
    intro x2 x3 σ hf
    cases hf
  | succ n ih =>
    intro x2 x3 σ hf
    exact w_La_sweepSouth_12_10b C T E ih x2 x3 σ hf
def f_La_sweepSouth_12  (σ : zS) : Option (Int32 × zS) :=
  zbd (f_La_sweepRow_12 0 σ) fun r2 σ1 =>
  f_La_sweepSouth_12_10 zfu r2 40 σ1
set_option maxRecDepth 4000 in
theorem m_La_sweepSouth_12 {l : Launch} {d : zD} {h : Nat → Nat} {out : Int32 × zS} {σ : zS} {ad av : Nat → Nat}  (E : zXe d ad av) (hf : f_La_sweepSouth_12  σ = some out) : zM l yX2_sweepSouth cX2_sweepSouth 6 (some .boolean) 1 25 d [.ref (h 4), .ref (h 12)] (XW d h σ) (XW d h out.2) (some (.int out.1)) := by
  refine zM_of [some (.ref (h 4)), some (.ref (h 12)), none, none, none, none] (by decide +kernel) rfl (Nat.le_of_ble_eq_true rfl) (fun F C T => ?_)
  unfold f_La_sweepSouth_12 at hf
  refine zr_aload_n 0 1 C (by decide +kernel) rfl rfl ?_
  refine zr_aload_n 1 2 C (by decide +kernel) rfl rfl ?_
  refine zr_iconst (v := 0) 0 3 C (by decide +kernel) rfl rfl ?_
  refine k_La_sweepRow_12 (idx := 32) 6 C E (by decide +kernel) rfl q_807 (zb2 rfl rfl) (Nat.le_of_ble_eq_true rfl) hf (fun r2 σ1 hf => ?_)
  refine zr_istore_n 2 [some (.ref (h 4)), some (.ref (h 12)), some (.int r2), none, none, none] 7 C (by decide +kernel) rfl (by decide) rfl rfl ?_
  refine zr_bipush (v := 40) 40 9 C (by decide +kernel) rfl rfl ?_
  refine zr_istore_n 3 [some (.ref (h 4)), some (.ref (h 12)), some (.int r2), some (.int 40), none, none] 10 C (by decide +kernel) rfl (by decide) rfl rfl ?_
  exact w_La_sweepSouth_12_10 C T E zfu _ _ _ hf
theorem y_La_sweepSouth_12 : zY yX2_sweepSouth cX2_sweepSouth 6 (some .boolean) 1 := ⟨q_806, q_77, by decide +kernel, by decide +kernel, by decide +kernel⟩
theorem k_La_sweepSouth_12 {l : Launch} {d : zD} {F : zF} {h : Nat → Nat} {σ : zS} {lv : List (Option Value)} {pc : Nat} {own : String} {cc : ByteArray} {nL fr lo idx : Nat} {rest : List Value} {β : Type} {kf : Int32 → zS → Option β} {o2 : β} {ad av : Nat → Nat}   (pc' : Nat) (C : zOk d F own cc nL fr lo) (E : zXe d ad av) (hd : decode cc pc = .ok (.invokevirtual idx, 3)) (hp : pc + 3 = pc') (hq : Cond.methodLink own idx yX2_sweepSouth ∈ zW) (hm : 1 + 1 ≤ fr ∧ 8 + (6 + 11) + 25 ≤ lo) (hr : (rest.map fun v => v.category).sum ≤ 8) (hf : zbd (f_La_sweepSouth_12  σ) kf = some o2) (K : ∀ (r : Int32) (σ' : zS), kf r σ' = some o2 → V l d F 0 0 (XW d h σ') lv pc' (.int r :: rest)) : V l d F 0 0 (XW d h σ) lv pc (.ref (h 12) :: .ref (h 4) :: rest) := by
  obtain ⟨q, h1, h2⟩ := zbd_some hf
  exact zr_callV y_La_sweepSouth_12 ⟨q_805, q_24⟩ 4 rfl rfl (As := [.ref (h 12)]) (m_La_sweepSouth_12 E h1) rfl rfl pc' C hd hp hq hm hr (K _ _ h2)
/-! StepsBeyond$Land.sweepNorth([I)Z -/
def f_La_sweepNorth_12_76 (k6 : Int32 → Int32 → zS → Option (Int32 × zS)) (x2 : Int32) (x3 : Int32) (σ : zS) : Option (Int32 × zS) :=
  k6 x2 (x3 + (-40)) σ
set_option maxRecDepth 4000 in
theorem w_La_sweepNorth_12_76 {l : Launch} {d : zD} {F : zF} {h : Nat → Nat} {out : Int32 × zS} {ad av : Nat → Nat}  {k6 : Int32 → Int32 → zS → Option (Int32 × zS)} (C : zOk d F RX2 cX2_sweepNorth 6 1 25) (T : zRt d F (some .boolean) (some (.int out.1)) (XW d h out.2)) (E : zXe d ad av) (H6 : ∀ (x2 : Int32) (x3 : Int32) (σ : zS), k6 x2 x3 σ = some out → V l d F 0 0 (XW d h σ) [some (.ref (h 4)), some (.ref (h 12)), some (.int x2), some (.int x3), none, none] 6 []) (x2 : Int32) (x3 : Int32) (σ : zS) (hf : f_La_sweepNorth_12_76 k6 x2 x3 σ = some out) : V l d F 0 0 (XW d h σ) [some (.ref (h 4)), some (.ref (h 12)), some (.int x2), some (.int x3), none, none] 76 [] := by
  unfold f_La_sweepNorth_12_76 at hf
  refine zr_iinc (j := -40) 3 [some (.ref (h 4)), some (.ref (h 12)), some (.int x2), some (.int (x3 + (-40))), none, none] 79 C (by decide +kernel) rfl rfl rfl (by decide) rfl rfl ?_
  refine zr_goto (off := -73) 6 C (by decide +kernel) (by decide) ?_
  exact H6 _ _ _ hf
def f_La_sweepNorth_12_59 (k6 : Int32 → Int32 → zS → Option (Int32 × zS)) (k13 : Int32 → Int32 → Int32 → zS → Option (Int32 × zS)) (x2 : Int32) (x3 : Int32) (x4 : Int32) (σ : zS) : Option (Int32 × zS) :=
  k13 x2 x3 (x4 + 1) σ
set_option maxRecDepth 4000 in
theorem w_La_sweepNorth_12_59 {l : Launch} {d : zD} {F : zF} {h : Nat → Nat} {out : Int32 × zS} {ad av : Nat → Nat}  {k6 : Int32 → Int32 → zS → Option (Int32 × zS)} {k13 : Int32 → Int32 → Int32 → zS → Option (Int32 × zS)} (C : zOk d F RX2 cX2_sweepNorth 6 1 25) (T : zRt d F (some .boolean) (some (.int out.1)) (XW d h out.2)) (E : zXe d ad av) (H6 : ∀ (x2 : Int32) (x3 : Int32) (σ : zS), k6 x2 x3 σ = some out → V l d F 0 0 (XW d h σ) [some (.ref (h 4)), some (.ref (h 12)), some (.int x2), some (.int x3), none, none] 6 []) (H13 : ∀ (x2 : Int32) (x3 : Int32) (x4 : Int32) (σ : zS), k13 x2 x3 x4 σ = some out → V l d F 0 0 (XW d h σ) [some (.ref (h 4)), some (.ref (h 12)), some (.int x2), some (.int x3), some (.int x4), none] 13 []) (x2 : Int32) (x3 : Int32) (x4 : Int32) (σ : zS) (hf : f_La_sweepNorth_12_59 k6 k13 x2 x3 x4 σ = some out) : V l d F 0 0 (XW d h σ) [some (.ref (h 4)), some (.ref (h 12)), some (.int x2), some (.int x3), some (.int x4), none] 59 [] := by
  unfold f_La_sweepNorth_12_59 at hf
  refine zr_iinc (j := 1) 4 [some (.ref (h 4)), some (.ref (h 12)), some (.int x2), some (.int x3), some (.int (x4 + 1)), none] 62 C (by decide +kernel) rfl rfl rfl (by decide) rfl rfl ?_
  refine zr_goto (off := -49) 13 C (by decide +kernel) (by decide) ?_
  exact H13 _ _ _ _ hf
def f_La_sweepNorth_12_13b (k6 : Int32 → Int32 → zS → Option (Int32 × zS)) (k13 : Int32 → Int32 → Int32 → zS → Option (Int32 × zS)) (x2 : Int32) (x3 : Int32) (x4 : Int32) (σ : zS) : Option (Int32 × zS) :=
  (if (x3 + 40) ≤ x4 then
  zbd (f_La_sweepRow_12 x3 σ) fun r2 σ1 =>
  (if r2 = 0 then
  f_La_sweepNorth_12_76 k6 x2 x3 σ1
  else
  f_La_sweepNorth_12_76 k6 1 x3 σ1)
  else
  zin (x4 + 40) 1600 (zin (x4 + 40) 1600 (zlt ((σ.2 12 (x4 + 40).toNatClampNeg) + (σ.2 22 (x4 + 40).toNatClampNeg)) fun v3 => 
  zin x4 1600 ((if (σ.2 12 x4.toNatClampNeg) ≤ v3 then
  f_La_sweepNorth_12_59 k6 k13 x2 x3 x4 σ
  else
  zin x4 1600 (zlt (zsa σ 12 x4 v3) fun σ4 =>
  f_La_sweepNorth_12_59 k6 k13 1 x3 x4 σ4))))))
set_option maxRecDepth 4000 in
theorem w_La_sweepNorth_12_13b {l : Launch} {d : zD} {F : zF} {h : Nat → Nat} {out : Int32 × zS} {ad av : Nat → Nat}  {k6 : Int32 → Int32 → zS → Option (Int32 × zS)} {k13 : Int32 → Int32 → Int32 → zS → Option (Int32 × zS)} (C : zOk d F RX2 cX2_sweepNorth 6 1 25) (T : zRt d F (some .boolean) (some (.int out.1)) (XW d h out.2)) (E : zXe d ad av) (H6 : ∀ (x2 : Int32) (x3 : Int32) (σ : zS), k6 x2 x3 σ = some out → V l d F 0 0 (XW d h σ) [some (.ref (h 4)), some (.ref (h 12)), some (.int x2), some (.int x3), none, none] 6 []) (H13 : ∀ (x2 : Int32) (x3 : Int32) (x4 : Int32) (σ : zS), k13 x2 x3 x4 σ = some out → V l d F 0 0 (XW d h σ) [some (.ref (h 4)), some (.ref (h 12)), some (.int x2), some (.int x3), some (.int x4), none] 13 []) (x2 : Int32) (x3 : Int32) (x4 : Int32) (σ : zS) (hf : f_La_sweepNorth_12_13b k6 k13 x2 x3 x4 σ = some out) : V l d F 0 0 (XW d h σ) [some (.ref (h 4)), some (.ref (h 12)), some (.int x2), some (.int x3), some (.int x4), none] 13 [] := by
  unfold f_La_sweepNorth_12_13b at hf
  refine zr_iload 4 15 C (by decide +kernel) rfl rfl ?_
  refine zr_iload_n 3 16 C (by decide +kernel) rfl rfl ?_
  refine zr_bipush (v := 40) 40 18 C (by decide +kernel) rfl rfl ?_
  refine zr_iadd 19 C (by decide +kernel) rfl ?_
  refine zr_icmp_ge (off := 46) 65 22 C (by decide +kernel) (by decide) rfl hf (fun hf => ?_) (fun hf => ?_)
  · refine zr_aload_n 0 66 C (by decide +kernel) rfl rfl ?_
    refine zr_aload_n 1 67 C (by decide +kernel) rfl rfl ?_
    refine zr_iload_n 3 68 C (by decide +kernel) rfl rfl ?_
    refine k_La_sweepRow_12 (idx := 32) 71 C E (by decide +kernel) rfl q_807 (zb2 rfl rfl) (Nat.le_of_ble_eq_true rfl) hf (fun r2 σ1 hf => ?_)
    refine zr_if_eq (off := 5) 76 74 C (by decide +kernel) (by decide) rfl hf (fun hf => ?_) (fun hf => ?_)
    · refine zr_less (zA (zA (zA (zA (zN (zN zE)))))) ?_
      exact w_La_sweepNorth_12_76 C T E H6 _ _ _ hf
    · refine zr_iconst (v := 1) 1 75 C (by decide +kernel) rfl rfl ?_
      refine zr_istore_n 2 [some (.ref (h 4)), some (.ref (h 12)), some (.int 1), some (.int x3), some (.int x4), none] 76 C (by decide +kernel) rfl (by decide) rfl rfl ?_
      refine zr_less (zA (zA (zA (zA (zN (zN zE)))))) ?_
      exact w_La_sweepNorth_12_76 C T E H6 _ _ _ hf
  · refine zr_aload_n 1 23 C (by decide +kernel) rfl rfl ?_
    refine zr_iload 4 25 C (by decide +kernel) rfl rfl ?_
    refine zr_bipush (v := 40) 40 27 C (by decide +kernel) rfl rfl ?_
    refine zr_iadd 28 C (by decide +kernel) rfl ?_
    refine xl_12 29 C (by decide +kernel) rfl hf (fun hf => ?_)
    refine zr_aload_n 0 30 C (by decide +kernel) rfl rfl ?_
    refine xg_4_1 (idx := 15) 33 C (by decide +kernel) rfl q_225 ?_
    refine zr_iload 4 35 C (by decide +kernel) rfl rfl ?_
    refine zr_bipush (v := 40) 40 37 C (by decide +kernel) rfl rfl ?_
    refine zr_iadd 38 C (by decide +kernel) rfl ?_
    refine xl_22 39 C (by decide +kernel) rfl hf (fun hf => ?_)
    refine zr_iadd 40 C (by decide +kernel) rfl ?_
    refine zr_name hf (fun v3 hf => ?_)
    refine zr_istore 5 [some (.ref (h 4)), some (.ref (h 12)), some (.int x2), some (.int x3), some (.int x4), some (.int v3)] 42 C (by decide +kernel) rfl (by decide) rfl rfl ?_
    refine zr_iload 5 44 C (by decide +kernel) rfl rfl ?_
    refine zr_aload_n 1 45 C (by decide +kernel) rfl rfl ?_
    refine zr_iload 4 47 C (by decide +kernel) rfl rfl ?_
    refine xl_12 48 C (by decide +kernel) rfl hf (fun hf => ?_)
    refine zr_icmp_ge (off := 11) 59 51 C (by decide +kernel) (by decide) rfl hf (fun hf => ?_) (fun hf => ?_)
    · refine zr_less (zA (zA (zA (zA (zA (zN zE)))))) ?_
      exact w_La_sweepNorth_12_59 C T E H6 H13 _ _ _ _ hf
    · refine zr_aload_n 1 52 C (by decide +kernel) rfl rfl ?_
      refine zr_iload 4 54 C (by decide +kernel) rfl rfl ?_
      refine zr_iload 5 56 C (by decide +kernel) rfl rfl ?_
      refine xs_12 57 C (by decide +kernel) rfl hf (fun σ4 hf => ?_)
      refine zr_iconst (v := 1) 1 58 C (by decide +kernel) rfl rfl ?_
      refine zr_istore_n 2 [some (.ref (h 4)), some (.ref (h 12)), some (.int 1), some (.int x3), some (.int x4), some (.int v3)] 59 C (by decide +kernel) rfl (by decide) rfl rfl ?_
      refine zr_less (zA (zA (zA (zA (zA (zN zE)))))) ?_
      exact w_La_sweepNorth_12_59 C T E H6 H13 _ _ _ _ hf
def f_La_sweepNorth_12_13 (k6 : Int32 → Int32 → zS → Option (Int32 × zS)) : Nat → Int32 → Int32 → Int32 → zS → Option (Int32 × zS)
  | 0, _, _, _, _ => none
  | n + 1, x2, x3, x4,  σ => f_La_sweepNorth_12_13b k6 (fun x2 x3 x4 σ => f_La_sweepNorth_12_13 k6 n x2 x3 x4 σ) x2 x3 x4 σ
theorem w_La_sweepNorth_12_13 {l : Launch} {d : zD} {F : zF} {h : Nat → Nat} {out : Int32 × zS} {ad av : Nat → Nat}  {k6 : Int32 → Int32 → zS → Option (Int32 × zS)} (C : zOk d F RX2 cX2_sweepNorth 6 1 25) (T : zRt d F (some .boolean) (some (.int out.1)) (XW d h out.2)) (E : zXe d ad av) (H6 : ∀ (x2 : Int32) (x3 : Int32) (σ : zS), k6 x2 x3 σ = some out → V l d F 0 0 (XW d h σ) [some (.ref (h 4)), some (.ref (h 12)), some (.int x2), some (.int x3), none, none] 6 []) : ∀ (n : Nat) (x2 : Int32) (x3 : Int32) (x4 : Int32) (σ : zS), f_La_sweepNorth_12_13 k6 n x2 x3 x4 σ = some out → V l d F 0 0 (XW d h σ) [some (.ref (h 4)), some (.ref (h 12)), some (.int x2), some (.int x3), some (.int x4), none] 13 [] := by
  intro n
  induction n with
  | zero =>
    intro x2 x3 x4 σ hf
    cases hf
  | succ n ih =>
    intro x2 x3 x4 σ hf
    exact w_La_sweepNorth_12_13b C T E H6 ih x2 x3 x4 σ hf
def f_La_sweepNorth_12_6b (k6 : Int32 → Int32 → zS → Option (Int32 × zS)) (x2 : Int32) (x3 : Int32) (σ : zS) : Option (Int32 × zS) :=
  (if x3 < 0 then
  zbo x2 (some (x2, σ))
  else
  f_La_sweepNorth_12_13 k6 zfu x2 x3 x3 σ)
set_option maxRecDepth 4000 in
theorem w_La_sweepNorth_12_6b {l : Launch} {d : zD} {F : zF} {h : Nat → Nat} {out : Int32 × zS} {ad av : Nat → Nat}  {k6 : Int32 → Int32 → zS → Option (Int32 × zS)} (C : zOk d F RX2 cX2_sweepNorth 6 1 25) (T : zRt d F (some .boolean) (some (.int out.1)) (XW d h out.2)) (E : zXe d ad av) (H6 : ∀ (x2 : Int32) (x3 : Int32) (σ : zS), k6 x2 x3 σ = some out → V l d F 0 0 (XW d h σ) [some (.ref (h 4)), some (.ref (h 12)), some (.int x2), some (.int x3), none, none] 6 []) (x2 : Int32) (x3 : Int32) (σ : zS) (hf : f_La_sweepNorth_12_6b k6 x2 x3 σ = some out) : V l d F 0 0 (XW d h σ) [some (.ref (h 4)), some (.ref (h 12)), some (.int x2), some (.int x3), none, none] 6 [] := by
  unfold f_La_sweepNorth_12_6b at hf
  refine zr_iload_n 3 7 C (by decide +kernel) rfl rfl ?_
  refine zr_if_lt (off := 75) 82 10 C (by decide +kernel) (by decide) rfl hf (fun hf => ?_) (fun hf => ?_)
  · refine zr_iload_n 2 83 C (by decide +kernel) rfl rfl ?_
    obtain ⟨hz, hf⟩ := zbo_some hf
    obtain rfl := Option.some.inj hf
    exact zr_zret C (by decide +kernel) hz T
  · refine zr_iload_n 3 11 C (by decide +kernel) rfl rfl ?_
    refine zr_istore 4 [some (.ref (h 4)), some (.ref (h 12)), some (.int x2), some (.int x3), some (.int x3), none] 13 C (by decide +kernel) rfl (by decide) rfl rfl ?_
    exact w_La_sweepNorth_12_13 C T E H6 zfu _ _ _ _ hf
def f_La_sweepNorth_12_6  : Nat → Int32 → Int32 → zS → Option (Int32 × zS)
  | 0, _, _, _ => none
  | n + 1, x2, x3,  σ => f_La_sweepNorth_12_6b (fun x2 x3 σ => f_La_sweepNorth_12_6  n x2 x3 σ) x2 x3 σ
theorem w_La_sweepNorth_12_6 {l : Launch} {d : zD} {F : zF} {h : Nat → Nat} {out : Int32 × zS} {ad av : Nat → Nat}   (C : zOk d F RX2 cX2_sweepNorth 6 1 25) (T : zRt d F (some .boolean) (some (.int out.1)) (XW d h out.2)) (E : zXe d ad av)  : ∀ (n : Nat) (x2 : Int32) (x3 : Int32) (σ : zS), f_La_sweepNorth_12_6  n x2 x3 σ = some out → V l d F 0 0 (XW d h σ) [some (.ref (h 4)), some (.ref (h 12)), some (.int x2), some (.int x3), none, none] 6 [] := by
  intro n
  induction n with
  | zero =>
    intro x2 x3 σ hf
    cases hf
  | succ n ih =>
    intro x2 x3 σ hf
    exact w_La_sweepNorth_12_6b C T E ih x2 x3 σ hf
def f_La_sweepNorth_12  (σ : zS) : Option (Int32 × zS) :=
  f_La_sweepNorth_12_6 zfu 0 1520 σ
set_option maxRecDepth 4000 in
theorem m_La_sweepNorth_12 {l : Launch} {d : zD} {h : Nat → Nat} {out : Int32 × zS} {σ : zS} {ad av : Nat → Nat}  (E : zXe d ad av) (hf : f_La_sweepNorth_12  σ = some out) : zM l yX2_sweepNorth cX2_sweepNorth 6 (some .boolean) 1 25 d [.ref (h 4), .ref (h 12)] (XW d h σ) (XW d h out.2) (some (.int out.1)) := by
  refine zM_of [some (.ref (h 4)), some (.ref (h 12)), none, none, none, none] (by decide +kernel) rfl (Nat.le_of_ble_eq_true rfl) (fun F C T => ?_)
  unfold f_La_sweepNorth_12 at hf
  refine zr_iconst (v := 0) 0 1 C (by decide +kernel) rfl rfl ?_
  refine zr_istore_n 2 [some (.ref (h 4)), some (.ref (h 12)), some (.int 0), none, none, none] 2 C (by decide +kernel) rfl (by decide) rfl rfl ?_
  refine zr_sipush (v := 1520) 1520 5 C (by decide +kernel) rfl rfl ?_
  refine zr_istore_n 3 [some (.ref (h 4)), some (.ref (h 12)), some (.int 0), some (.int 1520), none, none] 6 C (by decide +kernel) rfl (by decide) rfl rfl ?_
  exact w_La_sweepNorth_12_6 C T E zfu _ _ _ hf
theorem y_La_sweepNorth_12 : zY yX2_sweepNorth cX2_sweepNorth 6 (some .boolean) 1 := ⟨q_814, q_77, by decide +kernel, by decide +kernel, by decide +kernel⟩
theorem k_La_sweepNorth_12 {l : Launch} {d : zD} {F : zF} {h : Nat → Nat} {σ : zS} {lv : List (Option Value)} {pc : Nat} {own : String} {cc : ByteArray} {nL fr lo idx : Nat} {rest : List Value} {β : Type} {kf : Int32 → zS → Option β} {o2 : β} {ad av : Nat → Nat}   (pc' : Nat) (C : zOk d F own cc nL fr lo) (E : zXe d ad av) (hd : decode cc pc = .ok (.invokevirtual idx, 3)) (hp : pc + 3 = pc') (hq : Cond.methodLink own idx yX2_sweepNorth ∈ zW) (hm : 1 + 1 ≤ fr ∧ 8 + (6 + 11) + 25 ≤ lo) (hr : (rest.map fun v => v.category).sum ≤ 8) (hf : zbd (f_La_sweepNorth_12  σ) kf = some o2) (K : ∀ (r : Int32) (σ' : zS), kf r σ' = some o2 → V l d F 0 0 (XW d h σ') lv pc' (.int r :: rest)) : V l d F 0 0 (XW d h σ) lv pc (.ref (h 12) :: .ref (h 4) :: rest) := by
  obtain ⟨q, h1, h2⟩ := zbd_some hf
  exact zr_callV y_La_sweepNorth_12 ⟨q_813, q_26⟩ 4 rfl rfl (As := [.ref (h 12)]) (m_La_sweepNorth_12 E h1) rfl rfl pc' C hd hp hq hm hr (K _ _ h2)
/-! StepsBeyond$Land.walkFrom(I[I)V -/
def f_La_walkFrom_12_43 (k15 : Int32 → Int32 → zS → Option (Int32 × zS)) (x3 : Int32) (x4 : Int32) (σ : zS) : Option (Int32 × zS) :=
  k15 x3 (x4 + 1) σ
set_option maxRecDepth 4000 in
theorem w_La_walkFrom_12_43 {l : Launch} {d : zD} {F : zF} {h : Nat → Nat} {out : Int32 × zS} {ad av : Nat → Nat}  {k15 : Int32 → Int32 → zS → Option (Int32 × zS)} (C : zOk d F RX2 cX2_walkFrom 5 2 50) (T : zRt d F none none (XW d h out.2)) (E : zXe d ad av) (H15 : ∀ (x3 : Int32) (x4 : Int32) (σ : zS), k15 x3 x4 σ = some out → V l d F 0 0 (XW d h σ) [some (.ref (h 4)), none, some (.ref (h 12)), some (.int x3), some (.int x4)] 15 []) (x3 : Int32) (x4 : Int32) (σ : zS) (hf : f_La_walkFrom_12_43 k15 x3 x4 σ = some out) : V l d F 0 0 (XW d h σ) [some (.ref (h 4)), none, some (.ref (h 12)), some (.int x3), some (.int x4)] 43 [] := by
  unfold f_La_walkFrom_12_43 at hf
  refine zr_iinc (j := 1) 4 [some (.ref (h 4)), none, some (.ref (h 12)), some (.int x3), some (.int (x4 + 1))] 46 C (by decide +kernel) rfl rfl rfl (by decide) rfl rfl ?_
  refine zr_goto (off := -31) 15 C (by decide +kernel) (by decide) ?_
  exact H15 _ _ _ hf
def f_La_walkFrom_12_15b (k15 : Int32 → Int32 → zS → Option (Int32 × zS)) (x3 : Int32) (x4 : Int32) (σ : zS) : Option (Int32 × zS) :=
  (if 1600 ≤ x4 then
  some (0, σ)
  else
  (if x3 = 0 then
  some (0, σ)
  else
  zbd (f_La_sweepSouth_12  σ) fun r2 σ1 =>
  zbd (f_La_sweepNorth_12  σ1) fun r4 σ3 =>
  (if r4 = 0 then
  f_La_walkFrom_12_43 k15 r2 x4 σ3
  else
  f_La_walkFrom_12_43 k15 1 x4 σ3)))
set_option maxRecDepth 4000 in
theorem w_La_walkFrom_12_15b {l : Launch} {d : zD} {F : zF} {h : Nat → Nat} {out : Int32 × zS} {ad av : Nat → Nat}  {k15 : Int32 → Int32 → zS → Option (Int32 × zS)} (C : zOk d F RX2 cX2_walkFrom 5 2 50) (T : zRt d F none none (XW d h out.2)) (E : zXe d ad av) (H15 : ∀ (x3 : Int32) (x4 : Int32) (σ : zS), k15 x3 x4 σ = some out → V l d F 0 0 (XW d h σ) [some (.ref (h 4)), none, some (.ref (h 12)), some (.int x3), some (.int x4)] 15 []) (x3 : Int32) (x4 : Int32) (σ : zS) (hf : f_La_walkFrom_12_15b k15 x3 x4 σ = some out) : V l d F 0 0 (XW d h σ) [some (.ref (h 4)), none, some (.ref (h 12)), some (.int x3), some (.int x4)] 15 [] := by
  unfold f_La_walkFrom_12_15b at hf
  refine zr_iload 4 17 C (by decide +kernel) rfl rfl ?_
  refine zr_sipush (v := 1600) 1600 20 C (by decide +kernel) rfl rfl ?_
  refine zr_icmp_ge (off := 29) 49 23 C (by decide +kernel) (by decide) rfl hf (fun hf => ?_) (fun hf => ?_)
  · obtain rfl := Option.some.inj hf
    exact zr_vret C (by decide +kernel) T
  · refine zr_iload_n 3 24 C (by decide +kernel) rfl rfl ?_
    refine zr_if_eq (off := 25) 49 27 C (by decide +kernel) (by decide) rfl hf (fun hf => ?_) (fun hf => ?_)
    · obtain rfl := Option.some.inj hf
      exact zr_vret C (by decide +kernel) T
    · refine zr_aload_n 0 28 C (by decide +kernel) rfl rfl ?_
      refine zr_aload_n 2 29 C (by decide +kernel) rfl rfl ?_
      refine k_La_sweepSouth_12 (idx := 25) 32 C E (by decide +kernel) rfl q_803 (zb2 rfl rfl) (Nat.le_of_ble_eq_true rfl) hf (fun r2 σ1 hf => ?_)
      refine zr_istore_n 3 [some (.ref (h 4)), none, some (.ref (h 12)), some (.int r2), some (.int x4)] 33 C (by decide +kernel) rfl (by decide) rfl rfl ?_
      refine zr_aload_n 0 34 C (by decide +kernel) rfl rfl ?_
      refine zr_aload_n 2 35 C (by decide +kernel) rfl rfl ?_
      refine k_La_sweepNorth_12 (idx := 29) 38 C E (by decide +kernel) rfl q_811 (zb2 rfl rfl) (Nat.le_of_ble_eq_true rfl) hf (fun r4 σ3 hf => ?_)
      refine zr_if_eq (off := 5) 43 41 C (by decide +kernel) (by decide) rfl hf (fun hf => ?_) (fun hf => ?_)
      · exact w_La_walkFrom_12_43 C T E H15 _ _ _ hf
      · refine zr_iconst (v := 1) 1 42 C (by decide +kernel) rfl rfl ?_
        refine zr_istore_n 3 [some (.ref (h 4)), none, some (.ref (h 12)), some (.int 1), some (.int x4)] 43 C (by decide +kernel) rfl (by decide) rfl rfl ?_
        exact w_La_walkFrom_12_43 C T E H15 _ _ _ hf
def f_La_walkFrom_12_15  : Nat → Int32 → Int32 → zS → Option (Int32 × zS)
  | 0, _, _, _ => none
  | n + 1, x3, x4,  σ => f_La_walkFrom_12_15b (fun x3 x4 σ => f_La_walkFrom_12_15  n x3 x4 σ) x3 x4 σ
theorem w_La_walkFrom_12_15 {l : Launch} {d : zD} {F : zF} {h : Nat → Nat} {out : Int32 × zS} {ad av : Nat → Nat}   (C : zOk d F RX2 cX2_walkFrom 5 2 50) (T : zRt d F none none (XW d h out.2)) (E : zXe d ad av)  : ∀ (n : Nat) (x3 : Int32) (x4 : Int32) (σ : zS), f_La_walkFrom_12_15  n x3 x4 σ = some out → V l d F 0 0 (XW d h σ) [some (.ref (h 4)), none, some (.ref (h 12)), some (.int x3), some (.int x4)] 15 [] := by
  intro n
  induction n with
  | zero =>
    intro x3 x4 σ hf
    cases hf
  | succ n ih =>
    intro x3 x4 σ hf
    exact w_La_walkFrom_12_15b C T E ih x3 x4 σ hf
def f_La_walkFrom_12 (p1 : Int32) (σ : zS) : Option (Int32 × zS) :=
  zlt (zsf σ 12 1600 1000000000) fun σ1 =>
  zin p1 1600 (zlt (zsa σ1 12 p1 0) fun σ2 =>
  f_La_walkFrom_12_15 zfu 1 0 σ2)
set_option maxRecDepth 4000 in
theorem m_La_walkFrom_12 {l : Launch} {d : zD} {h : Nat → Nat} {out : Int32 × zS} {σ : zS} {ad av : Nat → Nat} {p1 : Int32} (E : zXe d ad av) (hf : f_La_walkFrom_12 p1 σ = some out) : zM l yX2_walkFrom cX2_walkFrom 5 none 2 50 d [.ref (h 4), .int p1, .ref (h 12)] (XW d h σ) (XW d h out.2) none := by
  refine zM_of [some (.ref (h 4)), some (.int p1), some (.ref (h 12)), none, none] (by decide +kernel) rfl (Nat.le_of_ble_eq_true rfl) (fun F C T => ?_)
  unfold f_La_walkFrom_12 at hf
  refine zr_aload_n 2 1 C (by decide +kernel) rfl rfl ?_
  refine zr_ldc (v := 1000000000) (i := 24) 3 C (by decide +kernel) rfl q_802 ?_
  refine xf_12 (idx := 18) 6 C (by decide +kernel) rfl q_221 (zb2 rfl rfl) (Nat.le_of_ble_eq_true rfl) hf (fun σ1 hf => ?_)
  refine zr_aload_n 2 7 C (by decide +kernel) rfl rfl ?_
  refine zr_iload_n 1 8 C (by decide +kernel) rfl rfl ?_
  refine zr_iconst (v := 0) 0 9 C (by decide +kernel) rfl rfl ?_
  refine xs_12 10 C (by decide +kernel) rfl hf (fun σ2 hf => ?_)
  refine zr_iconst (v := 1) 1 11 C (by decide +kernel) rfl rfl ?_
  refine zr_istore_n 3 [some (.ref (h 4)), some (.int p1), some (.ref (h 12)), some (.int 1), none] 12 C (by decide +kernel) rfl (by decide) rfl rfl ?_
  refine zr_iconst (v := 0) 0 13 C (by decide +kernel) rfl rfl ?_
  refine zr_istore 4 [some (.ref (h 4)), some (.int p1), some (.ref (h 12)), some (.int 1), some (.int 0)] 15 C (by decide +kernel) rfl (by decide) rfl rfl ?_
  refine zr_less (zA (zN (zA (zA (zA zE))))) ?_
  exact w_La_walkFrom_12_15 C T E zfu _ _ _ hf
theorem y_La_walkFrom_12 : zY yX2_walkFrom cX2_walkFrom 5 none 2 := ⟨q_801, q_77, by decide +kernel, by decide +kernel, by decide +kernel⟩
theorem k_La_walkFrom_12 {l : Launch} {d : zD} {F : zF} {h : Nat → Nat} {σ : zS} {lv : List (Option Value)} {pc : Nat} {own : String} {cc : ByteArray} {nL fr lo idx : Nat} {rest : List Value} {β : Type} {kf : Int32 → zS → Option β} {o2 : β} {ad av : Nat → Nat}  {p1 : Int32} (pc' : Nat) (C : zOk d F own cc nL fr lo) (E : zXe d ad av) (hd : decode cc pc = .ok (.invokevirtual idx, 3)) (hp : pc + 3 = pc') (hq : Cond.methodLink own idx yX2_walkFrom ∈ zW) (hm : 2 + 1 ≤ fr ∧ 8 + (5 + 11) + 50 ≤ lo) (hr : (rest.map fun v => v.category).sum ≤ 8) (hf : zbd (f_La_walkFrom_12 p1 σ) kf = some o2) (K : ∀ (r : Int32) (σ' : zS), kf r σ' = some o2 → V l d F 0 0 (XW d h σ') lv pc' (rest)) : V l d F 0 0 (XW d h σ) lv pc (.ref (h 12) :: .int p1 :: .ref (h 4) :: rest) := by
  obtain ⟨q, h1, h2⟩ := zbd_some hf
  exact zr_callV y_La_walkFrom_12 ⟨q_799, q_800⟩ 4 rfl rfl (As := [.int p1, .ref (h 12)]) (m_La_walkFrom_12 E h1) rfl rfl pc' C hd hp hq hm hr (K _ _ h2)
/-! StepsBeyond$Land.sweepRow([II)Z -/
def f_La_sweepRow_13_104 (k63 : Int32 → Int32 → Int32 → zS → Option (Int32 × zS)) (x2 : Int32) (x3 : Int32) (x4 : Int32) (σ : zS) : Option (Int32 × zS) :=
  k63 x2 x3 (x4 + (-1)) σ
set_option maxRecDepth 4000 in
theorem w_La_sweepRow_13_104 {l : Launch} {d : zD} {F : zF} {h : Nat → Nat} {out : Int32 × zS} {ad av : Nat → Nat}  {k63 : Int32 → Int32 → Int32 → zS → Option (Int32 × zS)} (C : zOk d F RX2 cX2_sweepRow 6 0 0) (T : zRt d F (some .boolean) (some (.int out.1)) (XW d h out.2)) (E : zXe d ad av) (H63 : ∀ (x2 : Int32) (x3 : Int32) (x4 : Int32) (σ : zS), k63 x2 x3 x4 σ = some out → V l d F 0 0 (XW d h σ) [some (.ref (h 4)), some (.ref (h 13)), some (.int x2), some (.int x3), some (.int x4), none] 63 []) (x2 : Int32) (x3 : Int32) (x4 : Int32) (σ : zS) (hf : f_La_sweepRow_13_104 k63 x2 x3 x4 σ = some out) : V l d F 0 0 (XW d h σ) [some (.ref (h 4)), some (.ref (h 13)), some (.int x2), some (.int x3), some (.int x4), none] 104 [] := by
  unfold f_La_sweepRow_13_104 at hf
  refine zr_iinc (j := -1) 4 [some (.ref (h 4)), some (.ref (h 13)), some (.int x2), some (.int x3), some (.int (x4 + (-1))), none] 107 C (by decide +kernel) rfl rfl rfl (by decide) rfl rfl ?_
  refine zr_goto (off := -44) 63 C (by decide +kernel) (by decide) ?_
  exact H63 _ _ _ _ hf
def f_La_sweepRow_13_63b (k63 : Int32 → Int32 → Int32 → zS → Option (Int32 × zS)) (x2 : Int32) (x3 : Int32) (x4 : Int32) (σ : zS) : Option (Int32 × zS) :=
  (if x4 < x2 then
  zbo x3 (some (x3, σ))
  else
  zin (x4 + 1) 1600 (zin (x4 + 1) 1600 (zlt ((σ.2 13 (x4 + 1).toNatClampNeg) + (σ.2 21 (x4 + 1).toNatClampNeg)) fun v1 => 
  zin x4 1600 ((if (σ.2 13 x4.toNatClampNeg) ≤ v1 then
  f_La_sweepRow_13_104 k63 x2 x3 x4 σ
  else
  zin x4 1600 (zlt (zsa σ 13 x4 v1) fun σ2 =>
  f_La_sweepRow_13_104 k63 x2 1 x4 σ2))))))
set_option maxRecDepth 4000 in
theorem w_La_sweepRow_13_63b {l : Launch} {d : zD} {F : zF} {h : Nat → Nat} {out : Int32 × zS} {ad av : Nat → Nat}  {k63 : Int32 → Int32 → Int32 → zS → Option (Int32 × zS)} (C : zOk d F RX2 cX2_sweepRow 6 0 0) (T : zRt d F (some .boolean) (some (.int out.1)) (XW d h out.2)) (E : zXe d ad av) (H63 : ∀ (x2 : Int32) (x3 : Int32) (x4 : Int32) (σ : zS), k63 x2 x3 x4 σ = some out → V l d F 0 0 (XW d h σ) [some (.ref (h 4)), some (.ref (h 13)), some (.int x2), some (.int x3), some (.int x4), none] 63 []) (x2 : Int32) (x3 : Int32) (x4 : Int32) (σ : zS) (hf : f_La_sweepRow_13_63b k63 x2 x3 x4 σ = some out) : V l d F 0 0 (XW d h σ) [some (.ref (h 4)), some (.ref (h 13)), some (.int x2), some (.int x3), some (.int x4), none] 63 [] := by
  unfold f_La_sweepRow_13_63b at hf
  refine zr_iload 4 65 C (by decide +kernel) rfl rfl ?_
  refine zr_iload_n 2 66 C (by decide +kernel) rfl rfl ?_
  refine zr_icmp_lt (off := 44) 110 69 C (by decide +kernel) (by decide) rfl hf (fun hf => ?_) (fun hf => ?_)
  · refine zr_iload_n 3 111 C (by decide +kernel) rfl rfl ?_
    obtain ⟨hz, hf⟩ := zbo_some hf
    obtain rfl := Option.some.inj hf
    exact zr_zret C (by decide +kernel) hz T
  · refine zr_aload_n 1 70 C (by decide +kernel) rfl rfl ?_
    refine zr_iload 4 72 C (by decide +kernel) rfl rfl ?_
    refine zr_iconst (v := 1) 1 73 C (by decide +kernel) rfl rfl ?_
    refine zr_iadd 74 C (by decide +kernel) rfl ?_
    refine xl_13 75 C (by decide +kernel) rfl hf (fun hf => ?_)
    refine zr_aload_n 0 76 C (by decide +kernel) rfl rfl ?_
    refine xg_4_0 (idx := 9) 79 C (by decide +kernel) rfl q_224 ?_
    refine zr_iload 4 81 C (by decide +kernel) rfl rfl ?_
    refine zr_iconst (v := 1) 1 82 C (by decide +kernel) rfl rfl ?_
    refine zr_iadd 83 C (by decide +kernel) rfl ?_
    refine xl_21 84 C (by decide +kernel) rfl hf (fun hf => ?_)
    refine zr_iadd 85 C (by decide +kernel) rfl ?_
    refine zr_name hf (fun v1 hf => ?_)
    refine zr_istore 5 [some (.ref (h 4)), some (.ref (h 13)), some (.int x2), some (.int x3), some (.int x4), some (.int v1)] 87 C (by decide +kernel) rfl (by decide) rfl rfl ?_
    refine zr_iload 5 89 C (by decide +kernel) rfl rfl ?_
    refine zr_aload_n 1 90 C (by decide +kernel) rfl rfl ?_
    refine zr_iload 4 92 C (by decide +kernel) rfl rfl ?_
    refine xl_13 93 C (by decide +kernel) rfl hf (fun hf => ?_)
    refine zr_icmp_ge (off := 11) 104 96 C (by decide +kernel) (by decide) rfl hf (fun hf => ?_) (fun hf => ?_)
    · refine zr_less (zA (zA (zA (zA (zA (zN zE)))))) ?_
      exact w_La_sweepRow_13_104 C T E H63 _ _ _ _ hf
    · refine zr_aload_n 1 97 C (by decide +kernel) rfl rfl ?_
      refine zr_iload 4 99 C (by decide +kernel) rfl rfl ?_
      refine zr_iload 5 101 C (by decide +kernel) rfl rfl ?_
      refine xs_13 102 C (by decide +kernel) rfl hf (fun σ2 hf => ?_)
      refine zr_iconst (v := 1) 1 103 C (by decide +kernel) rfl rfl ?_
      refine zr_istore_n 3 [some (.ref (h 4)), some (.ref (h 13)), some (.int x2), some (.int 1), some (.int x4), some (.int v1)] 104 C (by decide +kernel) rfl (by decide) rfl rfl ?_
      refine zr_less (zA (zA (zA (zA (zA (zN zE)))))) ?_
      exact w_La_sweepRow_13_104 C T E H63 _ _ _ _ hf
def f_La_sweepRow_13_63  : Nat → Int32 → Int32 → Int32 → zS → Option (Int32 × zS)
  | 0, _, _, _, _ => none
  | n + 1, x2, x3, x4,  σ => f_La_sweepRow_13_63b (fun x2 x3 x4 σ => f_La_sweepRow_13_63  n x2 x3 x4 σ) x2 x3 x4 σ
theorem w_La_sweepRow_13_63 {l : Launch} {d : zD} {F : zF} {h : Nat → Nat} {out : Int32 × zS} {ad av : Nat → Nat}   (C : zOk d F RX2 cX2_sweepRow 6 0 0) (T : zRt d F (some .boolean) (some (.int out.1)) (XW d h out.2)) (E : zXe d ad av)  : ∀ (n : Nat) (x2 : Int32) (x3 : Int32) (x4 : Int32) (σ : zS), f_La_sweepRow_13_63  n x2 x3 x4 σ = some out → V l d F 0 0 (XW d h σ) [some (.ref (h 4)), some (.ref (h 13)), some (.int x2), some (.int x3), some (.int x4), none] 63 [] := by
  intro n
  induction n with
  | zero =>
    intro x2 x3 x4 σ hf
    cases hf
  | succ n ih =>
    intro x2 x3 x4 σ hf
    exact w_La_sweepRow_13_63b C T E ih x2 x3 x4 σ hf
def f_La_sweepRow_13_49 (k7 : Int32 → Int32 → Int32 → zS → Option (Int32 × zS)) (x2 : Int32) (x3 : Int32) (x4 : Int32) (σ : zS) : Option (Int32 × zS) :=
  k7 x2 x3 (x4 + 1) σ
set_option maxRecDepth 4000 in
theorem w_La_sweepRow_13_49 {l : Launch} {d : zD} {F : zF} {h : Nat → Nat} {out : Int32 × zS} {ad av : Nat → Nat}  {k7 : Int32 → Int32 → Int32 → zS → Option (Int32 × zS)} (C : zOk d F RX2 cX2_sweepRow 6 0 0) (T : zRt d F (some .boolean) (some (.int out.1)) (XW d h out.2)) (E : zXe d ad av) (H7 : ∀ (x2 : Int32) (x3 : Int32) (x4 : Int32) (σ : zS), k7 x2 x3 x4 σ = some out → V l d F 0 0 (XW d h σ) [some (.ref (h 4)), some (.ref (h 13)), some (.int x2), some (.int x3), some (.int x4), none] 7 []) (x2 : Int32) (x3 : Int32) (x4 : Int32) (σ : zS) (hf : f_La_sweepRow_13_49 k7 x2 x3 x4 σ = some out) : V l d F 0 0 (XW d h σ) [some (.ref (h 4)), some (.ref (h 13)), some (.int x2), some (.int x3), some (.int x4), none] 49 [] := by
  unfold f_La_sweepRow_13_49 at hf
  refine zr_iinc (j := 1) 4 [some (.ref (h 4)), some (.ref (h 13)), some (.int x2), some (.int x3), some (.int (x4 + 1)), none] 52 C (by decide +kernel) rfl rfl rfl (by decide) rfl rfl ?_
  refine zr_goto (off := -45) 7 C (by decide +kernel) (by decide) ?_
  exact H7 _ _ _ _ hf
def f_La_sweepRow_13_7b (k7 : Int32 → Int32 → Int32 → zS → Option (Int32 × zS)) (x2 : Int32) (x3 : Int32) (x4 : Int32) (σ : zS) : Option (Int32 × zS) :=
  (if (x2 + 40) ≤ x4 then
  zlt ((x2 + 40) - 2) fun v1 => 
  f_La_sweepRow_13_63 zfu x2 x3 v1 σ
  else
  zin (x4 - 1) 1600 (zin x4 1600 (zlt ((σ.2 13 (x4 - 1).toNatClampNeg) + (σ.2 21 x4.toNatClampNeg)) fun v2 => 
  zin x4 1600 ((if (σ.2 13 x4.toNatClampNeg) ≤ v2 then
  f_La_sweepRow_13_49 k7 x2 x3 x4 σ
  else
  zin x4 1600 (zlt (zsa σ 13 x4 v2) fun σ3 =>
  f_La_sweepRow_13_49 k7 x2 1 x4 σ3))))))
set_option maxRecDepth 4000 in
theorem w_La_sweepRow_13_7b {l : Launch} {d : zD} {F : zF} {h : Nat → Nat} {out : Int32 × zS} {ad av : Nat → Nat}  {k7 : Int32 → Int32 → Int32 → zS → Option (Int32 × zS)} (C : zOk d F RX2 cX2_sweepRow 6 0 0) (T : zRt d F (some .boolean) (some (.int out.1)) (XW d h out.2)) (E : zXe d ad av) (H7 : ∀ (x2 : Int32) (x3 : Int32) (x4 : Int32) (σ : zS), k7 x2 x3 x4 σ = some out → V l d F 0 0 (XW d h σ) [some (.ref (h 4)), some (.ref (h 13)), some (.int x2), some (.int x3), some (.int x4), none] 7 []) (x2 : Int32) (x3 : Int32) (x4 : Int32) (σ : zS) (hf : f_La_sweepRow_13_7b k7 x2 x3 x4 σ = some out) : V l d F 0 0 (XW d h σ) [some (.ref (h 4)), some (.ref (h 13)), some (.int x2), some (.int x3), some (.int x4), none] 7 [] := by
  unfold f_La_sweepRow_13_7b at hf
  refine zr_iload 4 9 C (by decide +kernel) rfl rfl ?_
  refine zr_iload_n 2 10 C (by decide +kernel) rfl rfl ?_
  refine zr_bipush (v := 40) 40 12 C (by decide +kernel) rfl rfl ?_
  refine zr_iadd 13 C (by decide +kernel) rfl ?_
  refine zr_icmp_ge (off := 42) 55 16 C (by decide +kernel) (by decide) rfl hf (fun hf => ?_) (fun hf => ?_)
  · refine zr_iload_n 2 56 C (by decide +kernel) rfl rfl ?_
    refine zr_bipush (v := 40) 40 58 C (by decide +kernel) rfl rfl ?_
    refine zr_iadd 59 C (by decide +kernel) rfl ?_
    refine zr_iconst (v := 2) 2 60 C (by decide +kernel) rfl rfl ?_
    refine zr_isub 61 C (by decide +kernel) rfl ?_
    refine zr_name hf (fun v1 hf => ?_)
    refine zr_istore 4 [some (.ref (h 4)), some (.ref (h 13)), some (.int x2), some (.int x3), some (.int v1), none] 63 C (by decide +kernel) rfl (by decide) rfl rfl ?_
    exact w_La_sweepRow_13_63 C T E zfu _ _ _ _ hf
  · refine zr_aload_n 1 17 C (by decide +kernel) rfl rfl ?_
    refine zr_iload 4 19 C (by decide +kernel) rfl rfl ?_
    refine zr_iconst (v := 1) 1 20 C (by decide +kernel) rfl rfl ?_
    refine zr_isub 21 C (by decide +kernel) rfl ?_
    refine xl_13 22 C (by decide +kernel) rfl hf (fun hf => ?_)
    refine zr_aload_n 0 23 C (by decide +kernel) rfl rfl ?_
    refine xg_4_0 (idx := 9) 26 C (by decide +kernel) rfl q_224 ?_
    refine zr_iload 4 28 C (by decide +kernel) rfl rfl ?_
    refine xl_21 29 C (by decide +kernel) rfl hf (fun hf => ?_)
    refine zr_iadd 30 C (by decide +kernel) rfl ?_
    refine zr_name hf (fun v2 hf => ?_)
    refine zr_istore 5 [some (.ref (h 4)), some (.ref (h 13)), some (.int x2), some (.int x3), some (.int x4), some (.int v2)] 32 C (by decide +kernel) rfl (by decide) rfl rfl ?_
    refine zr_iload 5 34 C (by decide +kernel) rfl rfl ?_
    refine zr_aload_n 1 35 C (by decide +kernel) rfl rfl ?_
    refine zr_iload 4 37 C (by decide +kernel) rfl rfl ?_
    refine xl_13 38 C (by decide +kernel) rfl hf (fun hf => ?_)
    refine zr_icmp_ge (off := 11) 49 41 C (by decide +kernel) (by decide) rfl hf (fun hf => ?_) (fun hf => ?_)
    · refine zr_less (zA (zA (zA (zA (zA (zN zE)))))) ?_
      exact w_La_sweepRow_13_49 C T E H7 _ _ _ _ hf
    · refine zr_aload_n 1 42 C (by decide +kernel) rfl rfl ?_
      refine zr_iload 4 44 C (by decide +kernel) rfl rfl ?_
      refine zr_iload 5 46 C (by decide +kernel) rfl rfl ?_
      refine xs_13 47 C (by decide +kernel) rfl hf (fun σ3 hf => ?_)
      refine zr_iconst (v := 1) 1 48 C (by decide +kernel) rfl rfl ?_
      refine zr_istore_n 3 [some (.ref (h 4)), some (.ref (h 13)), some (.int x2), some (.int 1), some (.int x4), some (.int v2)] 49 C (by decide +kernel) rfl (by decide) rfl rfl ?_
      refine zr_less (zA (zA (zA (zA (zA (zN zE)))))) ?_
      exact w_La_sweepRow_13_49 C T E H7 _ _ _ _ hf
def f_La_sweepRow_13_7  : Nat → Int32 → Int32 → Int32 → zS → Option (Int32 × zS)
  | 0, _, _, _, _ => none
  | n + 1, x2, x3, x4,  σ => f_La_sweepRow_13_7b (fun x2 x3 x4 σ => f_La_sweepRow_13_7  n x2 x3 x4 σ) x2 x3 x4 σ
theorem w_La_sweepRow_13_7 {l : Launch} {d : zD} {F : zF} {h : Nat → Nat} {out : Int32 × zS} {ad av : Nat → Nat}   (C : zOk d F RX2 cX2_sweepRow 6 0 0) (T : zRt d F (some .boolean) (some (.int out.1)) (XW d h out.2)) (E : zXe d ad av)  : ∀ (n : Nat) (x2 : Int32) (x3 : Int32) (x4 : Int32) (σ : zS), f_La_sweepRow_13_7  n x2 x3 x4 σ = some out → V l d F 0 0 (XW d h σ) [some (.ref (h 4)), some (.ref (h 13)), some (.int x2), some (.int x3), some (.int x4), none] 7 [] := by
  intro n
  induction n with
  | zero =>
    intro x2 x3 x4 σ hf
    cases hf
  | succ n ih =>
    intro x2 x3 x4 σ hf
    exact w_La_sweepRow_13_7b C T E ih x2 x3 x4 σ hf
def f_La_sweepRow_13 (p2 : Int32) (σ : zS) : Option (Int32 × zS) :=
  zlt (p2 + 1) fun v1 => 
  f_La_sweepRow_13_7 zfu p2 0 v1 σ
set_option maxRecDepth 4000 in
theorem m_La_sweepRow_13 {l : Launch} {d : zD} {h : Nat → Nat} {out : Int32 × zS} {σ : zS} {ad av : Nat → Nat} {p2 : Int32} (E : zXe d ad av) (hf : f_La_sweepRow_13 p2 σ = some out) : zM l yX2_sweepRow cX2_sweepRow 6 (some .boolean) 0 0 d [.ref (h 4), .ref (h 13), .int p2] (XW d h σ) (XW d h out.2) (some (.int out.1)) := by
  refine zM_of [some (.ref (h 4)), some (.ref (h 13)), some (.int p2), none, none, none] (by decide +kernel) rfl (Nat.le_of_ble_eq_true rfl) (fun F C T => ?_)
  unfold f_La_sweepRow_13 at hf
  refine zr_iconst (v := 0) 0 1 C (by decide +kernel) rfl rfl ?_
  refine zr_istore_n 3 [some (.ref (h 4)), some (.ref (h 13)), some (.int p2), some (.int 0), none, none] 2 C (by decide +kernel) rfl (by decide) rfl rfl ?_
  refine zr_iload_n 2 3 C (by decide +kernel) rfl rfl ?_
  refine zr_iconst (v := 1) 1 4 C (by decide +kernel) rfl rfl ?_
  refine zr_iadd 5 C (by decide +kernel) rfl ?_
  refine zr_name hf (fun v1 hf => ?_)
  refine zr_istore 4 [some (.ref (h 4)), some (.ref (h 13)), some (.int p2), some (.int 0), some (.int v1), none] 7 C (by decide +kernel) rfl (by decide) rfl rfl ?_
  exact w_La_sweepRow_13_7 C T E zfu _ _ _ _ hf
theorem y_La_sweepRow_13 : zY yX2_sweepRow cX2_sweepRow 6 (some .boolean) 2 := ⟨q_810, q_77, by decide +kernel, by decide +kernel, by decide +kernel⟩
theorem k_La_sweepRow_13 {l : Launch} {d : zD} {F : zF} {h : Nat → Nat} {σ : zS} {lv : List (Option Value)} {pc : Nat} {own : String} {cc : ByteArray} {nL fr lo idx : Nat} {rest : List Value} {β : Type} {kf : Int32 → zS → Option β} {o2 : β} {ad av : Nat → Nat}  {p2 : Int32} (pc' : Nat) (C : zOk d F own cc nL fr lo) (E : zXe d ad av) (hd : decode cc pc = .ok (.invokevirtual idx, 3)) (hp : pc + 3 = pc') (hq : Cond.methodLink own idx yX2_sweepRow ∈ zW) (hm : 0 + 1 ≤ fr ∧ 8 + (6 + 11) + 0 ≤ lo) (hr : (rest.map fun v => v.category).sum ≤ 8) (hf : zbd (f_La_sweepRow_13 p2 σ) kf = some o2) (K : ∀ (r : Int32) (σ' : zS), kf r σ' = some o2 → V l d F 0 0 (XW d h σ') lv pc' (.int r :: rest)) : V l d F 0 0 (XW d h σ) lv pc (.int p2 :: .ref (h 13) :: .ref (h 4) :: rest) := by
  obtain ⟨q, h1, h2⟩ := zbd_some hf
  exact zr_callV y_La_sweepRow_13 ⟨q_809, q_25⟩ 4 rfl rfl (As := [.ref (h 13), .int p2]) (m_La_sweepRow_13 E h1) rfl rfl pc' C hd hp hq hm hr (K _ _ h2)
/-! StepsBeyond$Land.sweepSouth([I)Z -/
def f_La_sweepSouth_13_80 (k10 : Int32 → Int32 → zS → Option (Int32 × zS)) (x2 : Int32) (x3 : Int32) (σ : zS) : Option (Int32 × zS) :=
  k10 x2 (x3 + 40) σ
set_option maxRecDepth 4000 in
theorem w_La_sweepSouth_13_80 {l : Launch} {d : zD} {F : zF} {h : Nat → Nat} {out : Int32 × zS} {ad av : Nat → Nat}  {k10 : Int32 → Int32 → zS → Option (Int32 × zS)} (C : zOk d F RX2 cX2_sweepSouth 6 1 25) (T : zRt d F (some .boolean) (some (.int out.1)) (XW d h out.2)) (E : zXe d ad av) (H10 : ∀ (x2 : Int32) (x3 : Int32) (σ : zS), k10 x2 x3 σ = some out → V l d F 0 0 (XW d h σ) [some (.ref (h 4)), some (.ref (h 13)), some (.int x2), some (.int x3), none, none] 10 []) (x2 : Int32) (x3 : Int32) (σ : zS) (hf : f_La_sweepSouth_13_80 k10 x2 x3 σ = some out) : V l d F 0 0 (XW d h σ) [some (.ref (h 4)), some (.ref (h 13)), some (.int x2), some (.int x3), none, none] 80 [] := by
  unfold f_La_sweepSouth_13_80 at hf
  refine zr_iinc (j := 40) 3 [some (.ref (h 4)), some (.ref (h 13)), some (.int x2), some (.int (x3 + 40)), none, none] 83 C (by decide +kernel) rfl rfl rfl (by decide) rfl rfl ?_
  refine zr_goto (off := -73) 10 C (by decide +kernel) (by decide) ?_
  exact H10 _ _ _ hf
def f_La_sweepSouth_13_63 (k10 : Int32 → Int32 → zS → Option (Int32 × zS)) (k20 : Int32 → Int32 → Int32 → zS → Option (Int32 × zS)) (x2 : Int32) (x3 : Int32) (x4 : Int32) (σ : zS) : Option (Int32 × zS) :=
  k20 x2 x3 (x4 + 1) σ
set_option maxRecDepth 4000 in
theorem w_La_sweepSouth_13_63 {l : Launch} {d : zD} {F : zF} {h : Nat → Nat} {out : Int32 × zS} {ad av : Nat → Nat}  {k10 : Int32 → Int32 → zS → Option (Int32 × zS)} {k20 : Int32 → Int32 → Int32 → zS → Option (Int32 × zS)} (C : zOk d F RX2 cX2_sweepSouth 6 1 25) (T : zRt d F (some .boolean) (some (.int out.1)) (XW d h out.2)) (E : zXe d ad av) (H10 : ∀ (x2 : Int32) (x3 : Int32) (σ : zS), k10 x2 x3 σ = some out → V l d F 0 0 (XW d h σ) [some (.ref (h 4)), some (.ref (h 13)), some (.int x2), some (.int x3), none, none] 10 []) (H20 : ∀ (x2 : Int32) (x3 : Int32) (x4 : Int32) (σ : zS), k20 x2 x3 x4 σ = some out → V l d F 0 0 (XW d h σ) [some (.ref (h 4)), some (.ref (h 13)), some (.int x2), some (.int x3), some (.int x4), none] 20 []) (x2 : Int32) (x3 : Int32) (x4 : Int32) (σ : zS) (hf : f_La_sweepSouth_13_63 k10 k20 x2 x3 x4 σ = some out) : V l d F 0 0 (XW d h σ) [some (.ref (h 4)), some (.ref (h 13)), some (.int x2), some (.int x3), some (.int x4), none] 63 [] := by
  unfold f_La_sweepSouth_13_63 at hf
  refine zr_iinc (j := 1) 4 [some (.ref (h 4)), some (.ref (h 13)), some (.int x2), some (.int x3), some (.int (x4 + 1)), none] 66 C (by decide +kernel) rfl rfl rfl (by decide) rfl rfl ?_
  refine zr_goto (off := -46) 20 C (by decide +kernel) (by decide) ?_
  exact H20 _ _ _ _ hf
def f_La_sweepSouth_13_20b (k10 : Int32 → Int32 → zS → Option (Int32 × zS)) (k20 : Int32 → Int32 → Int32 → zS → Option (Int32 × zS)) (x2 : Int32) (x3 : Int32) (x4 : Int32) (σ : zS) : Option (Int32 × zS) :=
  (if (x3 + 40) ≤ x4 then
  zbd (f_La_sweepRow_13 x3 σ) fun r2 σ1 =>
  (if r2 = 0 then
  f_La_sweepSouth_13_80 k10 x2 x3 σ1
  else
  f_La_sweepSouth_13_80 k10 1 x3 σ1)
  else
  zin (x4 - 40) 1600 (zin x4 1600 (zlt ((σ.2 13 (x4 - 40).toNatClampNeg) + (σ.2 22 x4.toNatClampNeg)) fun v3 => 
  zin x4 1600 ((if (σ.2 13 x4.toNatClampNeg) ≤ v3 then
  f_La_sweepSouth_13_63 k10 k20 x2 x3 x4 σ
  else
  zin x4 1600 (zlt (zsa σ 13 x4 v3) fun σ4 =>
  f_La_sweepSouth_13_63 k10 k20 1 x3 x4 σ4))))))
set_option maxRecDepth 4000 in
theorem w_La_sweepSouth_13_20b {l : Launch} {d : zD} {F : zF} {h : Nat → Nat} {out : Int32 × zS} {ad av : Nat → Nat}  {k10 : Int32 → Int32 → zS → Option (Int32 × zS)} {k20 : Int32 → Int32 → Int32 → zS → Option (Int32 × zS)} (C : zOk d F RX2 cX2_sweepSouth 6 1 25) (T : zRt d F (some .boolean) (some (.int out.1)) (XW d h out.2)) (E : zXe d ad av) (H10 : ∀ (x2 : Int32) (x3 : Int32) (σ : zS), k10 x2 x3 σ = some out → V l d F 0 0 (XW d h σ) [some (.ref (h 4)), some (.ref (h 13)), some (.int x2), some (.int x3), none, none] 10 []) (H20 : ∀ (x2 : Int32) (x3 : Int32) (x4 : Int32) (σ : zS), k20 x2 x3 x4 σ = some out → V l d F 0 0 (XW d h σ) [some (.ref (h 4)), some (.ref (h 13)), some (.int x2), some (.int x3), some (.int x4), none] 20 []) (x2 : Int32) (x3 : Int32) (x4 : Int32) (σ : zS) (hf : f_La_sweepSouth_13_20b k10 k20 x2 x3 x4 σ = some out) : V l d F 0 0 (XW d h σ) [some (.ref (h 4)), some (.ref (h 13)), some (.int x2), some (.int x3), some (.int x4), none] 20 [] := by
  unfold f_La_sweepSouth_13_20b at hf
  refine zr_iload 4 22 C (by decide +kernel) rfl rfl ?_
  refine zr_iload_n 3 23 C (by decide +kernel) rfl rfl ?_
  refine zr_bipush (v := 40) 40 25 C (by decide +kernel) rfl rfl ?_
  refine zr_iadd 26 C (by decide +kernel) rfl ?_
  refine zr_icmp_ge (off := 43) 69 29 C (by decide +kernel) (by decide) rfl hf (fun hf => ?_) (fun hf => ?_)
  · refine zr_aload_n 0 70 C (by decide +kernel) rfl rfl ?_
    refine zr_aload_n 1 71 C (by decide +kernel) rfl rfl ?_
    refine zr_iload_n 3 72 C (by decide +kernel) rfl rfl ?_
    refine k_La_sweepRow_13 (idx := 32) 75 C E (by decide +kernel) rfl q_807 (zb2 rfl rfl) (Nat.le_of_ble_eq_true rfl) hf (fun r2 σ1 hf => ?_)
    refine zr_if_eq (off := 5) 80 78 C (by decide +kernel) (by decide) rfl hf (fun hf => ?_) (fun hf => ?_)
    · refine zr_less (zA (zA (zA (zA (zN (zN zE)))))) ?_
      exact w_La_sweepSouth_13_80 C T E H10 _ _ _ hf
    · refine zr_iconst (v := 1) 1 79 C (by decide +kernel) rfl rfl ?_
      refine zr_istore_n 2 [some (.ref (h 4)), some (.ref (h 13)), some (.int 1), some (.int x3), some (.int x4), none] 80 C (by decide +kernel) rfl (by decide) rfl rfl ?_
      refine zr_less (zA (zA (zA (zA (zN (zN zE)))))) ?_
      exact w_La_sweepSouth_13_80 C T E H10 _ _ _ hf
  · refine zr_aload_n 1 30 C (by decide +kernel) rfl rfl ?_
    refine zr_iload 4 32 C (by decide +kernel) rfl rfl ?_
    refine zr_bipush (v := 40) 40 34 C (by decide +kernel) rfl rfl ?_
    refine zr_isub 35 C (by decide +kernel) rfl ?_
    refine xl_13 36 C (by decide +kernel) rfl hf (fun hf => ?_)
    refine zr_aload_n 0 37 C (by decide +kernel) rfl rfl ?_
    refine xg_4_1 (idx := 15) 40 C (by decide +kernel) rfl q_225 ?_
    refine zr_iload 4 42 C (by decide +kernel) rfl rfl ?_
    refine xl_22 43 C (by decide +kernel) rfl hf (fun hf => ?_)
    refine zr_iadd 44 C (by decide +kernel) rfl ?_
    refine zr_name hf (fun v3 hf => ?_)
    refine zr_istore 5 [some (.ref (h 4)), some (.ref (h 13)), some (.int x2), some (.int x3), some (.int x4), some (.int v3)] 46 C (by decide +kernel) rfl (by decide) rfl rfl ?_
    refine zr_iload 5 48 C (by decide +kernel) rfl rfl ?_
    refine zr_aload_n 1 49 C (by decide +kernel) rfl rfl ?_
    refine zr_iload 4 51 C (by decide +kernel) rfl rfl ?_
    refine xl_13 52 C (by decide +kernel) rfl hf (fun hf => ?_)
    refine zr_icmp_ge (off := 11) 63 55 C (by decide +kernel) (by decide) rfl hf (fun hf => ?_) (fun hf => ?_)
    · refine zr_less (zA (zA (zA (zA (zA (zN zE)))))) ?_
      exact w_La_sweepSouth_13_63 C T E H10 H20 _ _ _ _ hf
    · refine zr_aload_n 1 56 C (by decide +kernel) rfl rfl ?_
      refine zr_iload 4 58 C (by decide +kernel) rfl rfl ?_
      refine zr_iload 5 60 C (by decide +kernel) rfl rfl ?_
      refine xs_13 61 C (by decide +kernel) rfl hf (fun σ4 hf => ?_)
      refine zr_iconst (v := 1) 1 62 C (by decide +kernel) rfl rfl ?_
      refine zr_istore_n 2 [some (.ref (h 4)), some (.ref (h 13)), some (.int 1), some (.int x3), some (.int x4), some (.int v3)] 63 C (by decide +kernel) rfl (by decide) rfl rfl ?_
      refine zr_less (zA (zA (zA (zA (zA (zN zE)))))) ?_
      exact w_La_sweepSouth_13_63 C T E H10 H20 _ _ _ _ hf
def f_La_sweepSouth_13_20 (k10 : Int32 → Int32 → zS → Option (Int32 × zS)) : Nat → Int32 → Int32 → Int32 → zS → Option (Int32 × zS)
  | 0, _, _, _, _ => none
  | n + 1, x2, x3, x4,  σ => f_La_sweepSouth_13_20b k10 (fun x2 x3 x4 σ => f_La_sweepSouth_13_20 k10 n x2 x3 x4 σ) x2 x3 x4 σ
theorem w_La_sweepSouth_13_20 {l : Launch} {d : zD} {F : zF} {h : Nat → Nat} {out : Int32 × zS} {ad av : Nat → Nat}  {k10 : Int32 → Int32 → zS → Option (Int32 × zS)} (C : zOk d F RX2 cX2_sweepSouth 6 1 25) (T : zRt d F (some .boolean) (some (.int out.1)) (XW d h out.2)) (E : zXe d ad av) (H10 : ∀ (x2 : Int32) (x3 : Int32) (σ : zS), k10 x2 x3 σ = some out → V l d F 0 0 (XW d h σ) [some (.ref (h 4)), some (.ref (h 13)), some (.int x2), some (.int x3), none, none] 10 []) : ∀ (n : Nat) (x2 : Int32) (x3 : Int32) (x4 : Int32) (σ : zS), f_La_sweepSouth_13_20 k10 n x2 x3 x4 σ = some out → V l d F 0 0 (XW d h σ) [some (.ref (h 4)), some (.ref (h 13)), some (.int x2), some (.int x3), some (.int x4), none] 20 [] := by
  intro n
  induction n with
  | zero =>
    intro x2 x3 x4 σ hf
    cases hf
  | succ n ih =>
    intro x2 x3 x4 σ hf
    exact w_La_sweepSouth_13_20b C T E H10 ih x2 x3 x4 σ hf
def f_La_sweepSouth_13_10b (k10 : Int32 → Int32 → zS → Option (Int32 × zS)) (x2 : Int32) (x3 : Int32) (σ : zS) : Option (Int32 × zS) :=
  (if 1600 ≤ x3 then
  zbo x2 (some (x2, σ))
  else
  f_La_sweepSouth_13_20 k10 zfu x2 x3 x3 σ)
set_option maxRecDepth 4000 in
theorem w_La_sweepSouth_13_10b {l : Launch} {d : zD} {F : zF} {h : Nat → Nat} {out : Int32 × zS} {ad av : Nat → Nat}  {k10 : Int32 → Int32 → zS → Option (Int32 × zS)} (C : zOk d F RX2 cX2_sweepSouth 6 1 25) (T : zRt d F (some .boolean) (some (.int out.1)) (XW d h out.2)) (E : zXe d ad av) (H10 : ∀ (x2 : Int32) (x3 : Int32) (σ : zS), k10 x2 x3 σ = some out → V l d F 0 0 (XW d h σ) [some (.ref (h 4)), some (.ref (h 13)), some (.int x2), some (.int x3), none, none] 10 []) (x2 : Int32) (x3 : Int32) (σ : zS) (hf : f_La_sweepSouth_13_10b k10 x2 x3 σ = some out) : V l d F 0 0 (XW d h σ) [some (.ref (h 4)), some (.ref (h 13)), some (.int x2), some (.int x3), none, none] 10 [] := by
  unfold f_La_sweepSouth_13_10b at hf
  refine zr_iload_n 3 11 C (by decide +kernel) rfl rfl ?_
  refine zr_sipush (v := 1600) 1600 14 C (by decide +kernel) rfl rfl ?_
  refine zr_icmp_ge (off := 72) 86 17 C (by decide +kernel) (by decide) rfl hf (fun hf => ?_) (fun hf => ?_)
  · refine zr_iload_n 2 87 C (by decide +kernel) rfl rfl ?_
    obtain ⟨hz, hf⟩ := zbo_some hf
    obtain rfl := Option.some.inj hf
    exact zr_zret C (by decide +kernel) hz T
  · refine zr_iload_n 3 18 C (by decide +kernel) rfl rfl ?_
    refine zr_istore 4 [some (.ref (h 4)), some (.ref (h 13)), some (.int x2), some (.int x3), some (.int x3), none] 20 C (by decide +kernel) rfl (by decide) rfl rfl ?_
    exact w_La_sweepSouth_13_20 C T E H10 zfu _ _ _ _ hf
def f_La_sweepSouth_13_10  : Nat → Int32 → Int32 → zS → Option (Int32 × zS)
  | 0, _, _, _ => none
  | n + 1, x2, x3,  σ => f_La_sweepSouth_13_10b (fun x2 x3 σ => f_La_sweepSouth_13_10  n x2 x3 σ) x2 x3 σ
theorem w_La_sweepSouth_13_10 {l : Launch} {d : zD} {F : zF} {h : Nat → Nat} {out : Int32 × zS} {ad av : Nat → Nat}   (C : zOk d F RX2 cX2_sweepSouth 6 1 25) (T : zRt d F (some .boolean) (some (.int out.1)) (XW d h out.2)) (E : zXe d ad av)  : ∀ (n : Nat) (x2 : Int32) (x3 : Int32) (σ : zS), f_La_sweepSouth_13_10  n x2 x3 σ = some out → V l d F 0 0 (XW d h σ) [some (.ref (h 4)), some (.ref (h 13)), some (.int x2), some (.int x3), none, none] 10 [] := by
  intro n
  induction n with
  | zero =>
    intro x2 x3 σ hf
    cases hf
  | succ n ih =>
    intro x2 x3 σ hf
    exact w_La_sweepSouth_13_10b C T E ih x2 x3 σ hf
def f_La_sweepSouth_13  (σ : zS) : Option (Int32 × zS) :=
  zbd (f_La_sweepRow_13 0 σ) fun r2 σ1 =>
  f_La_sweepSouth_13_10 zfu r2 40 σ1
set_option maxRecDepth 4000 in
theorem m_La_sweepSouth_13 {l : Launch} {d : zD} {h : Nat → Nat} {out : Int32 × zS} {σ : zS} {ad av : Nat → Nat}  (E : zXe d ad av) (hf : f_La_sweepSouth_13  σ = some out) : zM l yX2_sweepSouth cX2_sweepSouth 6 (some .boolean) 1 25 d [.ref (h 4), .ref (h 13)] (XW d h σ) (XW d h out.2) (some (.int out.1)) := by
  refine zM_of [some (.ref (h 4)), some (.ref (h 13)), none, none, none, none] (by decide +kernel) rfl (Nat.le_of_ble_eq_true rfl) (fun F C T => ?_)
  unfold f_La_sweepSouth_13 at hf
  refine zr_aload_n 0 1 C (by decide +kernel) rfl rfl ?_
  refine zr_aload_n 1 2 C (by decide +kernel) rfl rfl ?_
  refine zr_iconst (v := 0) 0 3 C (by decide +kernel) rfl rfl ?_
  refine k_La_sweepRow_13 (idx := 32) 6 C E (by decide +kernel) rfl q_807 (zb2 rfl rfl) (Nat.le_of_ble_eq_true rfl) hf (fun r2 σ1 hf => ?_)
  refine zr_istore_n 2 [some (.ref (h 4)), some (.ref (h 13)), some (.int r2), none, none, none] 7 C (by decide +kernel) rfl (by decide) rfl rfl ?_
  refine zr_bipush (v := 40) 40 9 C (by decide +kernel) rfl rfl ?_
  refine zr_istore_n 3 [some (.ref (h 4)), some (.ref (h 13)), some (.int r2), some (.int 40), none, none] 10 C (by decide +kernel) rfl (by decide) rfl rfl ?_
  exact w_La_sweepSouth_13_10 C T E zfu _ _ _ hf
theorem y_La_sweepSouth_13 : zY yX2_sweepSouth cX2_sweepSouth 6 (some .boolean) 1 := ⟨q_806, q_77, by decide +kernel, by decide +kernel, by decide +kernel⟩
theorem k_La_sweepSouth_13 {l : Launch} {d : zD} {F : zF} {h : Nat → Nat} {σ : zS} {lv : List (Option Value)} {pc : Nat} {own : String} {cc : ByteArray} {nL fr lo idx : Nat} {rest : List Value} {β : Type} {kf : Int32 → zS → Option β} {o2 : β} {ad av : Nat → Nat}   (pc' : Nat) (C : zOk d F own cc nL fr lo) (E : zXe d ad av) (hd : decode cc pc = .ok (.invokevirtual idx, 3)) (hp : pc + 3 = pc') (hq : Cond.methodLink own idx yX2_sweepSouth ∈ zW) (hm : 1 + 1 ≤ fr ∧ 8 + (6 + 11) + 25 ≤ lo) (hr : (rest.map fun v => v.category).sum ≤ 8) (hf : zbd (f_La_sweepSouth_13  σ) kf = some o2) (K : ∀ (r : Int32) (σ' : zS), kf r σ' = some o2 → V l d F 0 0 (XW d h σ') lv pc' (.int r :: rest)) : V l d F 0 0 (XW d h σ) lv pc (.ref (h 13) :: .ref (h 4) :: rest) := by
  obtain ⟨q, h1, h2⟩ := zbd_some hf
  exact zr_callV y_La_sweepSouth_13 ⟨q_805, q_24⟩ 4 rfl rfl (As := [.ref (h 13)]) (m_La_sweepSouth_13 E h1) rfl rfl pc' C hd hp hq hm hr (K _ _ h2)
/-! StepsBeyond$Land.sweepNorth([I)Z -/
def f_La_sweepNorth_13_76 (k6 : Int32 → Int32 → zS → Option (Int32 × zS)) (x2 : Int32) (x3 : Int32) (σ : zS) : Option (Int32 × zS) :=
  k6 x2 (x3 + (-40)) σ
set_option maxRecDepth 4000 in
theorem w_La_sweepNorth_13_76 {l : Launch} {d : zD} {F : zF} {h : Nat → Nat} {out : Int32 × zS} {ad av : Nat → Nat}  {k6 : Int32 → Int32 → zS → Option (Int32 × zS)} (C : zOk d F RX2 cX2_sweepNorth 6 1 25) (T : zRt d F (some .boolean) (some (.int out.1)) (XW d h out.2)) (E : zXe d ad av) (H6 : ∀ (x2 : Int32) (x3 : Int32) (σ : zS), k6 x2 x3 σ = some out → V l d F 0 0 (XW d h σ) [some (.ref (h 4)), some (.ref (h 13)), some (.int x2), some (.int x3), none, none] 6 []) (x2 : Int32) (x3 : Int32) (σ : zS) (hf : f_La_sweepNorth_13_76 k6 x2 x3 σ = some out) : V l d F 0 0 (XW d h σ) [some (.ref (h 4)), some (.ref (h 13)), some (.int x2), some (.int x3), none, none] 76 [] := by
  unfold f_La_sweepNorth_13_76 at hf
  refine zr_iinc (j := -40) 3 [some (.ref (h 4)), some (.ref (h 13)), some (.int x2), some (.int (x3 + (-40))), none, none] 79 C (by decide +kernel) rfl rfl rfl (by decide) rfl rfl ?_
  refine zr_goto (off := -73) 6 C (by decide +kernel) (by decide) ?_
  exact H6 _ _ _ hf
def f_La_sweepNorth_13_59 (k6 : Int32 → Int32 → zS → Option (Int32 × zS)) (k13 : Int32 → Int32 → Int32 → zS → Option (Int32 × zS)) (x2 : Int32) (x3 : Int32) (x4 : Int32) (σ : zS) : Option (Int32 × zS) :=
  k13 x2 x3 (x4 + 1) σ
set_option maxRecDepth 4000 in
theorem w_La_sweepNorth_13_59 {l : Launch} {d : zD} {F : zF} {h : Nat → Nat} {out : Int32 × zS} {ad av : Nat → Nat}  {k6 : Int32 → Int32 → zS → Option (Int32 × zS)} {k13 : Int32 → Int32 → Int32 → zS → Option (Int32 × zS)} (C : zOk d F RX2 cX2_sweepNorth 6 1 25) (T : zRt d F (some .boolean) (some (.int out.1)) (XW d h out.2)) (E : zXe d ad av) (H6 : ∀ (x2 : Int32) (x3 : Int32) (σ : zS), k6 x2 x3 σ = some out → V l d F 0 0 (XW d h σ) [some (.ref (h 4)), some (.ref (h 13)), some (.int x2), some (.int x3), none, none] 6 []) (H13 : ∀ (x2 : Int32) (x3 : Int32) (x4 : Int32) (σ : zS), k13 x2 x3 x4 σ = some out → V l d F 0 0 (XW d h σ) [some (.ref (h 4)), some (.ref (h 13)), some (.int x2), some (.int x3), some (.int x4), none] 13 []) (x2 : Int32) (x3 : Int32) (x4 : Int32) (σ : zS) (hf : f_La_sweepNorth_13_59 k6 k13 x2 x3 x4 σ = some out) : V l d F 0 0 (XW d h σ) [some (.ref (h 4)), some (.ref (h 13)), some (.int x2), some (.int x3), some (.int x4), none] 59 [] := by
  unfold f_La_sweepNorth_13_59 at hf
  refine zr_iinc (j := 1) 4 [some (.ref (h 4)), some (.ref (h 13)), some (.int x2), some (.int x3), some (.int (x4 + 1)), none] 62 C (by decide +kernel) rfl rfl rfl (by decide) rfl rfl ?_
  refine zr_goto (off := -49) 13 C (by decide +kernel) (by decide) ?_
  exact H13 _ _ _ _ hf
def f_La_sweepNorth_13_13b (k6 : Int32 → Int32 → zS → Option (Int32 × zS)) (k13 : Int32 → Int32 → Int32 → zS → Option (Int32 × zS)) (x2 : Int32) (x3 : Int32) (x4 : Int32) (σ : zS) : Option (Int32 × zS) :=
  (if (x3 + 40) ≤ x4 then
  zbd (f_La_sweepRow_13 x3 σ) fun r2 σ1 =>
  (if r2 = 0 then
  f_La_sweepNorth_13_76 k6 x2 x3 σ1
  else
  f_La_sweepNorth_13_76 k6 1 x3 σ1)
  else
  zin (x4 + 40) 1600 (zin (x4 + 40) 1600 (zlt ((σ.2 13 (x4 + 40).toNatClampNeg) + (σ.2 22 (x4 + 40).toNatClampNeg)) fun v3 => 
  zin x4 1600 ((if (σ.2 13 x4.toNatClampNeg) ≤ v3 then
  f_La_sweepNorth_13_59 k6 k13 x2 x3 x4 σ
  else
  zin x4 1600 (zlt (zsa σ 13 x4 v3) fun σ4 =>
  f_La_sweepNorth_13_59 k6 k13 1 x3 x4 σ4))))))
set_option maxRecDepth 4000 in
theorem w_La_sweepNorth_13_13b {l : Launch} {d : zD} {F : zF} {h : Nat → Nat} {out : Int32 × zS} {ad av : Nat → Nat}  {k6 : Int32 → Int32 → zS → Option (Int32 × zS)} {k13 : Int32 → Int32 → Int32 → zS → Option (Int32 × zS)} (C : zOk d F RX2 cX2_sweepNorth 6 1 25) (T : zRt d F (some .boolean) (some (.int out.1)) (XW d h out.2)) (E : zXe d ad av) (H6 : ∀ (x2 : Int32) (x3 : Int32) (σ : zS), k6 x2 x3 σ = some out → V l d F 0 0 (XW d h σ) [some (.ref (h 4)), some (.ref (h 13)), some (.int x2), some (.int x3), none, none] 6 []) (H13 : ∀ (x2 : Int32) (x3 : Int32) (x4 : Int32) (σ : zS), k13 x2 x3 x4 σ = some out → V l d F 0 0 (XW d h σ) [some (.ref (h 4)), some (.ref (h 13)), some (.int x2), some (.int x3), some (.int x4), none] 13 []) (x2 : Int32) (x3 : Int32) (x4 : Int32) (σ : zS) (hf : f_La_sweepNorth_13_13b k6 k13 x2 x3 x4 σ = some out) : V l d F 0 0 (XW d h σ) [some (.ref (h 4)), some (.ref (h 13)), some (.int x2), some (.int x3), some (.int x4), none] 13 [] := by
  unfold f_La_sweepNorth_13_13b at hf
  refine zr_iload 4 15 C (by decide +kernel) rfl rfl ?_
  refine zr_iload_n 3 16 C (by decide +kernel) rfl rfl ?_
  refine zr_bipush (v := 40) 40 18 C (by decide +kernel) rfl rfl ?_
  refine zr_iadd 19 C (by decide +kernel) rfl ?_
  refine zr_icmp_ge (off := 46) 65 22 C (by decide +kernel) (by decide) rfl hf (fun hf => ?_) (fun hf => ?_)
  · refine zr_aload_n 0 66 C (by decide +kernel) rfl rfl ?_
    refine zr_aload_n 1 67 C (by decide +kernel) rfl rfl ?_
    refine zr_iload_n 3 68 C (by decide +kernel) rfl rfl ?_
    refine k_La_sweepRow_13 (idx := 32) 71 C E (by decide +kernel) rfl q_807 (zb2 rfl rfl) (Nat.le_of_ble_eq_true rfl) hf (fun r2 σ1 hf => ?_)
    refine zr_if_eq (off := 5) 76 74 C (by decide +kernel) (by decide) rfl hf (fun hf => ?_) (fun hf => ?_)
    · refine zr_less (zA (zA (zA (zA (zN (zN zE)))))) ?_
      exact w_La_sweepNorth_13_76 C T E H6 _ _ _ hf
    · refine zr_iconst (v := 1) 1 75 C (by decide +kernel) rfl rfl ?_
      refine zr_istore_n 2 [some (.ref (h 4)), some (.ref (h 13)), some (.int 1), some (.int x3), some (.int x4), none] 76 C (by decide +kernel) rfl (by decide) rfl rfl ?_
      refine zr_less (zA (zA (zA (zA (zN (zN zE)))))) ?_
      exact w_La_sweepNorth_13_76 C T E H6 _ _ _ hf
  · refine zr_aload_n 1 23 C (by decide +kernel) rfl rfl ?_
    refine zr_iload 4 25 C (by decide +kernel) rfl rfl ?_
    refine zr_bipush (v := 40) 40 27 C (by decide +kernel) rfl rfl ?_
    refine zr_iadd 28 C (by decide +kernel) rfl ?_
    refine xl_13 29 C (by decide +kernel) rfl hf (fun hf => ?_)
    refine zr_aload_n 0 30 C (by decide +kernel) rfl rfl ?_
    refine xg_4_1 (idx := 15) 33 C (by decide +kernel) rfl q_225 ?_
    refine zr_iload 4 35 C (by decide +kernel) rfl rfl ?_
    refine zr_bipush (v := 40) 40 37 C (by decide +kernel) rfl rfl ?_
    refine zr_iadd 38 C (by decide +kernel) rfl ?_
    refine xl_22 39 C (by decide +kernel) rfl hf (fun hf => ?_)
    refine zr_iadd 40 C (by decide +kernel) rfl ?_
    refine zr_name hf (fun v3 hf => ?_)
    refine zr_istore 5 [some (.ref (h 4)), some (.ref (h 13)), some (.int x2), some (.int x3), some (.int x4), some (.int v3)] 42 C (by decide +kernel) rfl (by decide) rfl rfl ?_
    refine zr_iload 5 44 C (by decide +kernel) rfl rfl ?_
    refine zr_aload_n 1 45 C (by decide +kernel) rfl rfl ?_
    refine zr_iload 4 47 C (by decide +kernel) rfl rfl ?_
    refine xl_13 48 C (by decide +kernel) rfl hf (fun hf => ?_)
    refine zr_icmp_ge (off := 11) 59 51 C (by decide +kernel) (by decide) rfl hf (fun hf => ?_) (fun hf => ?_)
    · refine zr_less (zA (zA (zA (zA (zA (zN zE)))))) ?_
      exact w_La_sweepNorth_13_59 C T E H6 H13 _ _ _ _ hf
    · refine zr_aload_n 1 52 C (by decide +kernel) rfl rfl ?_
      refine zr_iload 4 54 C (by decide +kernel) rfl rfl ?_
      refine zr_iload 5 56 C (by decide +kernel) rfl rfl ?_
      refine xs_13 57 C (by decide +kernel) rfl hf (fun σ4 hf => ?_)
      refine zr_iconst (v := 1) 1 58 C (by decide +kernel) rfl rfl ?_
      refine zr_istore_n 2 [some (.ref (h 4)), some (.ref (h 13)), some (.int 1), some (.int x3), some (.int x4), some (.int v3)] 59 C (by decide +kernel) rfl (by decide) rfl rfl ?_
      refine zr_less (zA (zA (zA (zA (zA (zN zE)))))) ?_
      exact w_La_sweepNorth_13_59 C T E H6 H13 _ _ _ _ hf
def f_La_sweepNorth_13_13 (k6 : Int32 → Int32 → zS → Option (Int32 × zS)) : Nat → Int32 → Int32 → Int32 → zS → Option (Int32 × zS)
  | 0, _, _, _, _ => none
  | n + 1, x2, x3, x4,  σ => f_La_sweepNorth_13_13b k6 (fun x2 x3 x4 σ => f_La_sweepNorth_13_13 k6 n x2 x3 x4 σ) x2 x3 x4 σ
theorem w_La_sweepNorth_13_13 {l : Launch} {d : zD} {F : zF} {h : Nat → Nat} {out : Int32 × zS} {ad av : Nat → Nat}  {k6 : Int32 → Int32 → zS → Option (Int32 × zS)} (C : zOk d F RX2 cX2_sweepNorth 6 1 25) (T : zRt d F (some .boolean) (some (.int out.1)) (XW d h out.2)) (E : zXe d ad av) (H6 : ∀ (x2 : Int32) (x3 : Int32) (σ : zS), k6 x2 x3 σ = some out → V l d F 0 0 (XW d h σ) [some (.ref (h 4)), some (.ref (h 13)), some (.int x2), some (.int x3), none, none] 6 []) : ∀ (n : Nat) (x2 : Int32) (x3 : Int32) (x4 : Int32) (σ : zS), f_La_sweepNorth_13_13 k6 n x2 x3 x4 σ = some out → V l d F 0 0 (XW d h σ) [some (.ref (h 4)), some (.ref (h 13)), some (.int x2), some (.int x3), some (.int x4), none] 13 [] := by
  intro n
  induction n with
  | zero =>
    intro x2 x3 x4 σ hf
    cases hf
  | succ n ih =>
    intro x2 x3 x4 σ hf
    exact w_La_sweepNorth_13_13b C T E H6 ih x2 x3 x4 σ hf
def f_La_sweepNorth_13_6b (k6 : Int32 → Int32 → zS → Option (Int32 × zS)) (x2 : Int32) (x3 : Int32) (σ : zS) : Option (Int32 × zS) :=
  (if x3 < 0 then
  zbo x2 (some (x2, σ))
  else
  f_La_sweepNorth_13_13 k6 zfu x2 x3 x3 σ)
set_option maxRecDepth 4000 in
theorem w_La_sweepNorth_13_6b {l : Launch} {d : zD} {F : zF} {h : Nat → Nat} {out : Int32 × zS} {ad av : Nat → Nat}  {k6 : Int32 → Int32 → zS → Option (Int32 × zS)} (C : zOk d F RX2 cX2_sweepNorth 6 1 25) (T : zRt d F (some .boolean) (some (.int out.1)) (XW d h out.2)) (E : zXe d ad av) (H6 : ∀ (x2 : Int32) (x3 : Int32) (σ : zS), k6 x2 x3 σ = some out → V l d F 0 0 (XW d h σ) [some (.ref (h 4)), some (.ref (h 13)), some (.int x2), some (.int x3), none, none] 6 []) (x2 : Int32) (x3 : Int32) (σ : zS) (hf : f_La_sweepNorth_13_6b k6 x2 x3 σ = some out) : V l d F 0 0 (XW d h σ) [some (.ref (h 4)), some (.ref (h 13)), some (.int x2), some (.int x3), none, none] 6 [] := by
  unfold f_La_sweepNorth_13_6b at hf
  refine zr_iload_n 3 7 C (by decide +kernel) rfl rfl ?_
  refine zr_if_lt (off := 75) 82 10 C (by decide +kernel) (by decide) rfl hf (fun hf => ?_) (fun hf => ?_)
  · refine zr_iload_n 2 83 C (by decide +kernel) rfl rfl ?_
    obtain ⟨hz, hf⟩ := zbo_some hf
    obtain rfl := Option.some.inj hf
    exact zr_zret C (by decide +kernel) hz T
  · refine zr_iload_n 3 11 C (by decide +kernel) rfl rfl ?_
    refine zr_istore 4 [some (.ref (h 4)), some (.ref (h 13)), some (.int x2), some (.int x3), some (.int x3), none] 13 C (by decide +kernel) rfl (by decide) rfl rfl ?_
    exact w_La_sweepNorth_13_13 C T E H6 zfu _ _ _ _ hf
def f_La_sweepNorth_13_6  : Nat → Int32 → Int32 → zS → Option (Int32 × zS)
  | 0, _, _, _ => none
  | n + 1, x2, x3,  σ => f_La_sweepNorth_13_6b (fun x2 x3 σ => f_La_sweepNorth_13_6  n x2 x3 σ) x2 x3 σ
theorem w_La_sweepNorth_13_6 {l : Launch} {d : zD} {F : zF} {h : Nat → Nat} {out : Int32 × zS} {ad av : Nat → Nat}   (C : zOk d F RX2 cX2_sweepNorth 6 1 25) (T : zRt d F (some .boolean) (some (.int out.1)) (XW d h out.2)) (E : zXe d ad av)  : ∀ (n : Nat) (x2 : Int32) (x3 : Int32) (σ : zS), f_La_sweepNorth_13_6  n x2 x3 σ = some out → V l d F 0 0 (XW d h σ) [some (.ref (h 4)), some (.ref (h 13)), some (.int x2), some (.int x3), none, none] 6 [] := by
  intro n
  induction n with
  | zero =>
    intro x2 x3 σ hf
    cases hf
  | succ n ih =>
    intro x2 x3 σ hf
    exact w_La_sweepNorth_13_6b C T E ih x2 x3 σ hf
def f_La_sweepNorth_13  (σ : zS) : Option (Int32 × zS) :=
  f_La_sweepNorth_13_6 zfu 0 1520 σ
set_option maxRecDepth 4000 in
theorem m_La_sweepNorth_13 {l : Launch} {d : zD} {h : Nat → Nat} {out : Int32 × zS} {σ : zS} {ad av : Nat → Nat}  (E : zXe d ad av) (hf : f_La_sweepNorth_13  σ = some out) : zM l yX2_sweepNorth cX2_sweepNorth 6 (some .boolean) 1 25 d [.ref (h 4), .ref (h 13)] (XW d h σ) (XW d h out.2) (some (.int out.1)) := by
  refine zM_of [some (.ref (h 4)), some (.ref (h 13)), none, none, none, none] (by decide +kernel) rfl (Nat.le_of_ble_eq_true rfl) (fun F C T => ?_)
  unfold f_La_sweepNorth_13 at hf
  refine zr_iconst (v := 0) 0 1 C (by decide +kernel) rfl rfl ?_
  refine zr_istore_n 2 [some (.ref (h 4)), some (.ref (h 13)), some (.int 0), none, none, none] 2 C (by decide +kernel) rfl (by decide) rfl rfl ?_
  refine zr_sipush (v := 1520) 1520 5 C (by decide +kernel) rfl rfl ?_
  refine zr_istore_n 3 [some (.ref (h 4)), some (.ref (h 13)), some (.int 0), some (.int 1520), none, none] 6 C (by decide +kernel) rfl (by decide) rfl rfl ?_
  exact w_La_sweepNorth_13_6 C T E zfu _ _ _ hf
theorem y_La_sweepNorth_13 : zY yX2_sweepNorth cX2_sweepNorth 6 (some .boolean) 1 := ⟨q_814, q_77, by decide +kernel, by decide +kernel, by decide +kernel⟩
theorem k_La_sweepNorth_13 {l : Launch} {d : zD} {F : zF} {h : Nat → Nat} {σ : zS} {lv : List (Option Value)} {pc : Nat} {own : String} {cc : ByteArray} {nL fr lo idx : Nat} {rest : List Value} {β : Type} {kf : Int32 → zS → Option β} {o2 : β} {ad av : Nat → Nat}   (pc' : Nat) (C : zOk d F own cc nL fr lo) (E : zXe d ad av) (hd : decode cc pc = .ok (.invokevirtual idx, 3)) (hp : pc + 3 = pc') (hq : Cond.methodLink own idx yX2_sweepNorth ∈ zW) (hm : 1 + 1 ≤ fr ∧ 8 + (6 + 11) + 25 ≤ lo) (hr : (rest.map fun v => v.category).sum ≤ 8) (hf : zbd (f_La_sweepNorth_13  σ) kf = some o2) (K : ∀ (r : Int32) (σ' : zS), kf r σ' = some o2 → V l d F 0 0 (XW d h σ') lv pc' (.int r :: rest)) : V l d F 0 0 (XW d h σ) lv pc (.ref (h 13) :: .ref (h 4) :: rest) := by
  obtain ⟨q, h1, h2⟩ := zbd_some hf
  exact zr_callV y_La_sweepNorth_13 ⟨q_813, q_26⟩ 4 rfl rfl (As := [.ref (h 13)]) (m_La_sweepNorth_13 E h1) rfl rfl pc' C hd hp hq hm hr (K _ _ h2)
/-! StepsBeyond$Land.walkFrom(I[I)V -/
def f_La_walkFrom_13_43 (k15 : Int32 → Int32 → zS → Option (Int32 × zS)) (x3 : Int32) (x4 : Int32) (σ : zS) : Option (Int32 × zS) :=
  k15 x3 (x4 + 1) σ
set_option maxRecDepth 4000 in
theorem w_La_walkFrom_13_43 {l : Launch} {d : zD} {F : zF} {h : Nat → Nat} {out : Int32 × zS} {ad av : Nat → Nat}  {k15 : Int32 → Int32 → zS → Option (Int32 × zS)} (C : zOk d F RX2 cX2_walkFrom 5 2 50) (T : zRt d F none none (XW d h out.2)) (E : zXe d ad av) (H15 : ∀ (x3 : Int32) (x4 : Int32) (σ : zS), k15 x3 x4 σ = some out → V l d F 0 0 (XW d h σ) [some (.ref (h 4)), none, some (.ref (h 13)), some (.int x3), some (.int x4)] 15 []) (x3 : Int32) (x4 : Int32) (σ : zS) (hf : f_La_walkFrom_13_43 k15 x3 x4 σ = some out) : V l d F 0 0 (XW d h σ) [some (.ref (h 4)), none, some (.ref (h 13)), some (.int x3), some (.int x4)] 43 [] := by
  unfold f_La_walkFrom_13_43 at hf
  refine zr_iinc (j := 1) 4 [some (.ref (h 4)), none, some (.ref (h 13)), some (.int x3), some (.int (x4 + 1))] 46 C (by decide +kernel) rfl rfl rfl (by decide) rfl rfl ?_
  refine zr_goto (off := -31) 15 C (by decide +kernel) (by decide) ?_
  exact H15 _ _ _ hf
def f_La_walkFrom_13_15b (k15 : Int32 → Int32 → zS → Option (Int32 × zS)) (x3 : Int32) (x4 : Int32) (σ : zS) : Option (Int32 × zS) :=
  (if 1600 ≤ x4 then
  some (0, σ)
  else
  (if x3 = 0 then
  some (0, σ)
  else
  zbd (f_La_sweepSouth_13  σ) fun r2 σ1 =>
  zbd (f_La_sweepNorth_13  σ1) fun r4 σ3 =>
  (if r4 = 0 then
  f_La_walkFrom_13_43 k15 r2 x4 σ3
  else
  f_La_walkFrom_13_43 k15 1 x4 σ3)))
set_option maxRecDepth 4000 in
theorem w_La_walkFrom_13_15b {l : Launch} {d : zD} {F : zF} {h : Nat → Nat} {out : Int32 × zS} {ad av : Nat → Nat}  {k15 : Int32 → Int32 → zS → Option (Int32 × zS)} (C : zOk d F RX2 cX2_walkFrom 5 2 50) (T : zRt d F none none (XW d h out.2)) (E : zXe d ad av) (H15 : ∀ (x3 : Int32) (x4 : Int32) (σ : zS), k15 x3 x4 σ = some out → V l d F 0 0 (XW d h σ) [some (.ref (h 4)), none, some (.ref (h 13)), some (.int x3), some (.int x4)] 15 []) (x3 : Int32) (x4 : Int32) (σ : zS) (hf : f_La_walkFrom_13_15b k15 x3 x4 σ = some out) : V l d F 0 0 (XW d h σ) [some (.ref (h 4)), none, some (.ref (h 13)), some (.int x3), some (.int x4)] 15 [] := by
  unfold f_La_walkFrom_13_15b at hf
  refine zr_iload 4 17 C (by decide +kernel) rfl rfl ?_
  refine zr_sipush (v := 1600) 1600 20 C (by decide +kernel) rfl rfl ?_
  refine zr_icmp_ge (off := 29) 49 23 C (by decide +kernel) (by decide) rfl hf (fun hf => ?_) (fun hf => ?_)
  · obtain rfl := Option.some.inj hf
    exact zr_vret C (by decide +kernel) T
  · refine zr_iload_n 3 24 C (by decide +kernel) rfl rfl ?_
    refine zr_if_eq (off := 25) 49 27 C (by decide +kernel) (by decide) rfl hf (fun hf => ?_) (fun hf => ?_)
    · obtain rfl := Option.some.inj hf
      exact zr_vret C (by decide +kernel) T
    · refine zr_aload_n 0 28 C (by decide +kernel) rfl rfl ?_
      refine zr_aload_n 2 29 C (by decide +kernel) rfl rfl ?_
      refine k_La_sweepSouth_13 (idx := 25) 32 C E (by decide +kernel) rfl q_803 (zb2 rfl rfl) (Nat.le_of_ble_eq_true rfl) hf (fun r2 σ1 hf => ?_)
      refine zr_istore_n 3 [some (.ref (h 4)), none, some (.ref (h 13)), some (.int r2), some (.int x4)] 33 C (by decide +kernel) rfl (by decide) rfl rfl ?_
      refine zr_aload_n 0 34 C (by decide +kernel) rfl rfl ?_
      refine zr_aload_n 2 35 C (by decide +kernel) rfl rfl ?_
      refine k_La_sweepNorth_13 (idx := 29) 38 C E (by decide +kernel) rfl q_811 (zb2 rfl rfl) (Nat.le_of_ble_eq_true rfl) hf (fun r4 σ3 hf => ?_)
      refine zr_if_eq (off := 5) 43 41 C (by decide +kernel) (by decide) rfl hf (fun hf => ?_) (fun hf => ?_)
      · exact w_La_walkFrom_13_43 C T E H15 _ _ _ hf
      · refine zr_iconst (v := 1) 1 42 C (by decide +kernel) rfl rfl ?_
        refine zr_istore_n 3 [some (.ref (h 4)), none, some (.ref (h 13)), some (.int 1), some (.int x4)] 43 C (by decide +kernel) rfl (by decide) rfl rfl ?_
        exact w_La_walkFrom_13_43 C T E H15 _ _ _ hf
def f_La_walkFrom_13_15  : Nat → Int32 → Int32 → zS → Option (Int32 × zS)
  | 0, _, _, _ => none
  | n + 1, x3, x4,  σ => f_La_walkFrom_13_15b (fun x3 x4 σ => f_La_walkFrom_13_15  n x3 x4 σ) x3 x4 σ
theorem w_La_walkFrom_13_15 {l : Launch} {d : zD} {F : zF} {h : Nat → Nat} {out : Int32 × zS} {ad av : Nat → Nat}   (C : zOk d F RX2 cX2_walkFrom 5 2 50) (T : zRt d F none none (XW d h out.2)) (E : zXe d ad av)  : ∀ (n : Nat) (x3 : Int32) (x4 : Int32) (σ : zS), f_La_walkFrom_13_15  n x3 x4 σ = some out → V l d F 0 0 (XW d h σ) [some (.ref (h 4)), none, some (.ref (h 13)), some (.int x3), some (.int x4)] 15 [] := by
  intro n
  induction n with
  | zero =>
    intro x3 x4 σ hf
    cases hf
  | succ n ih =>
    intro x3 x4 σ hf
    exact w_La_walkFrom_13_15b C T E ih x3 x4 σ hf
def f_La_walkFrom_13 (p1 : Int32) (σ : zS) : Option (Int32 × zS) :=
  zlt (zsf σ 13 1600 1000000000) fun σ1 =>
  zin p1 1600 (zlt (zsa σ1 13 p1 0) fun σ2 =>
  f_La_walkFrom_13_15 zfu 1 0 σ2)
set_option maxRecDepth 4000 in
theorem m_La_walkFrom_13 {l : Launch} {d : zD} {h : Nat → Nat} {out : Int32 × zS} {σ : zS} {ad av : Nat → Nat} {p1 : Int32} (E : zXe d ad av) (hf : f_La_walkFrom_13 p1 σ = some out) : zM l yX2_walkFrom cX2_walkFrom 5 none 2 50 d [.ref (h 4), .int p1, .ref (h 13)] (XW d h σ) (XW d h out.2) none := by
  refine zM_of [some (.ref (h 4)), some (.int p1), some (.ref (h 13)), none, none] (by decide +kernel) rfl (Nat.le_of_ble_eq_true rfl) (fun F C T => ?_)
  unfold f_La_walkFrom_13 at hf
  refine zr_aload_n 2 1 C (by decide +kernel) rfl rfl ?_
  refine zr_ldc (v := 1000000000) (i := 24) 3 C (by decide +kernel) rfl q_802 ?_
  refine xf_13 (idx := 18) 6 C (by decide +kernel) rfl q_221 (zb2 rfl rfl) (Nat.le_of_ble_eq_true rfl) hf (fun σ1 hf => ?_)
  refine zr_aload_n 2 7 C (by decide +kernel) rfl rfl ?_
  refine zr_iload_n 1 8 C (by decide +kernel) rfl rfl ?_
  refine zr_iconst (v := 0) 0 9 C (by decide +kernel) rfl rfl ?_
  refine xs_13 10 C (by decide +kernel) rfl hf (fun σ2 hf => ?_)
  refine zr_iconst (v := 1) 1 11 C (by decide +kernel) rfl rfl ?_
  refine zr_istore_n 3 [some (.ref (h 4)), some (.int p1), some (.ref (h 13)), some (.int 1), none] 12 C (by decide +kernel) rfl (by decide) rfl rfl ?_
  refine zr_iconst (v := 0) 0 13 C (by decide +kernel) rfl rfl ?_
  refine zr_istore 4 [some (.ref (h 4)), some (.int p1), some (.ref (h 13)), some (.int 1), some (.int 0)] 15 C (by decide +kernel) rfl (by decide) rfl rfl ?_
  refine zr_less (zA (zN (zA (zA (zA zE))))) ?_
  exact w_La_walkFrom_13_15 C T E zfu _ _ _ hf
theorem y_La_walkFrom_13 : zY yX2_walkFrom cX2_walkFrom 5 none 2 := ⟨q_801, q_77, by decide +kernel, by decide +kernel, by decide +kernel⟩
theorem k_La_walkFrom_13 {l : Launch} {d : zD} {F : zF} {h : Nat → Nat} {σ : zS} {lv : List (Option Value)} {pc : Nat} {own : String} {cc : ByteArray} {nL fr lo idx : Nat} {rest : List Value} {β : Type} {kf : Int32 → zS → Option β} {o2 : β} {ad av : Nat → Nat}  {p1 : Int32} (pc' : Nat) (C : zOk d F own cc nL fr lo) (E : zXe d ad av) (hd : decode cc pc = .ok (.invokevirtual idx, 3)) (hp : pc + 3 = pc') (hq : Cond.methodLink own idx yX2_walkFrom ∈ zW) (hm : 2 + 1 ≤ fr ∧ 8 + (5 + 11) + 50 ≤ lo) (hr : (rest.map fun v => v.category).sum ≤ 8) (hf : zbd (f_La_walkFrom_13 p1 σ) kf = some o2) (K : ∀ (r : Int32) (σ' : zS), kf r σ' = some o2 → V l d F 0 0 (XW d h σ') lv pc' (rest)) : V l d F 0 0 (XW d h σ) lv pc (.ref (h 13) :: .int p1 :: .ref (h 4) :: rest) := by
  obtain ⟨q, h1, h2⟩ := zbd_some hf
  exact zr_callV y_La_walkFrom_13 ⟨q_799, q_800⟩ 4 rfl rfl (As := [.int p1, .ref (h 13)]) (m_La_walkFrom_13 E h1) rfl rfl pc' C hd hp hq hm hr (K _ _ h2)
/-! StepsBeyond$Reckoner.tellPair(III)V -/
def f_Rk_tellPair (p1 : Int32) (p2 : Int32) (p3 : Int32) (σ : zS) : Option (Int32 × zS) :=
  zin 0 6 (zlt (zsa σ 34 0 p1) fun σ1 =>
  zin 1 6 (zlt (zsa σ1 34 1 p2) fun σ2 =>
  zin 2 6 (zlt (zsa σ2 34 2 p3) fun σ3 =>
  some (0, σ3))))
set_option maxRecDepth 4000 in
theorem m_Rk_tellPair {l : Launch} {d : zD} {h : Nat → Nat} {out : Int32 × zS} {σ : zS} {ad av : Nat → Nat} {p1 : Int32} {p2 : Int32} {p3 : Int32} (E : zXe d ad av) (hf : f_Rk_tellPair p1 p2 p3 σ = some out) : zM l yX5_tellPair cX5_tellPair 4 none 0 0 d [.ref (h 11), .int p1, .int p2, .int p3] (XW d h σ) (XW d h out.2) none := by
  refine zM_of [some (.ref (h 11)), some (.int p1), some (.int p2), some (.int p3)] (by decide +kernel) rfl (Nat.le_of_ble_eq_true rfl) (fun F C T => ?_)
  unfold f_Rk_tellPair at hf
  refine zr_aload_n 0 1 C (by decide +kernel) rfl rfl ?_
  refine xg_11_0 (idx := 9) 4 C (by decide +kernel) rfl q_172 ?_
  refine zr_iconst (v := 0) 0 5 C (by decide +kernel) rfl rfl ?_
  refine zr_iload_n 1 6 C (by decide +kernel) rfl rfl ?_
  refine xs_34 7 C (by decide +kernel) rfl hf (fun σ1 hf => ?_)
  refine zr_aload_n 0 8 C (by decide +kernel) rfl rfl ?_
  refine xg_11_0 (idx := 9) 11 C (by decide +kernel) rfl q_172 ?_
  refine zr_iconst (v := 1) 1 12 C (by decide +kernel) rfl rfl ?_
  refine zr_iload_n 2 13 C (by decide +kernel) rfl rfl ?_
  refine xs_34 14 C (by decide +kernel) rfl hf (fun σ2 hf => ?_)
  refine zr_aload_n 0 15 C (by decide +kernel) rfl rfl ?_
  refine xg_11_0 (idx := 9) 18 C (by decide +kernel) rfl q_172 ?_
  refine zr_iconst (v := 2) 2 19 C (by decide +kernel) rfl rfl ?_
  refine zr_iload_n 3 20 C (by decide +kernel) rfl rfl ?_
  refine xs_34 21 C (by decide +kernel) rfl hf (fun σ3 hf => ?_)
  obtain rfl := Option.some.inj hf
  exact zr_vret C (by decide +kernel) T
theorem y_Rk_tellPair : zY yX5_tellPair cX5_tellPair 4 none 3 := ⟨q_537, q_76, by decide +kernel, by decide +kernel, by decide +kernel⟩
theorem k_Rk_tellPair {l : Launch} {d : zD} {F : zF} {h : Nat → Nat} {σ : zS} {lv : List (Option Value)} {pc : Nat} {own : String} {cc : ByteArray} {nL fr lo idx : Nat} {rest : List Value} {β : Type} {kf : Int32 → zS → Option β} {o2 : β} {ad av : Nat → Nat}  {p1 : Int32} {p2 : Int32} {p3 : Int32} (pc' : Nat) (C : zOk d F own cc nL fr lo) (E : zXe d ad av) (hd : decode cc pc = .ok (.invokevirtual idx, 3)) (hp : pc + 3 = pc') (hq : Cond.methodLink own idx yX5_tellPair ∈ zW) (hm : 0 + 1 ≤ fr ∧ 8 + (4 + 11) + 0 ≤ lo) (hr : (rest.map fun v => v.category).sum ≤ 8) (hf : zbd (f_Rk_tellPair p1 p2 p3 σ) kf = some o2) (K : ∀ (r : Int32) (σ' : zS), kf r σ' = some o2 → V l d F 0 0 (XW d h σ') lv pc' (rest)) : V l d F 0 0 (XW d h σ) lv pc (.int p3 :: .int p2 :: .int p1 :: .ref (h 11) :: rest) := by
  obtain ⟨q, h1, h2⟩ := zbd_some hf
  exact zr_callV y_Rk_tellPair ⟨q_535, q_536⟩ 11 rfl rfl (As := [.int p1, .int p2, .int p3]) (m_Rk_tellPair E h1) rfl rfl pc' C hd hp hq hm hr (K _ _ h2)
/-! StepsBeyond$Reckoner.tellAll(III)V -/
def f_Rk_tellAll (p1 : Int32) (p2 : Int32) (p3 : Int32) (σ : zS) : Option (Int32 × zS) :=
  zin 3 6 (zlt (zsa σ 34 3 p1) fun σ1 =>
  zin 4 6 (zlt (zsa σ1 34 4 p2) fun σ2 =>
  zin 5 6 (zlt (zsa σ2 34 5 p3) fun σ3 =>
  some (0, σ3))))
set_option maxRecDepth 4000 in
theorem m_Rk_tellAll {l : Launch} {d : zD} {h : Nat → Nat} {out : Int32 × zS} {σ : zS} {ad av : Nat → Nat} {p1 : Int32} {p2 : Int32} {p3 : Int32} (E : zXe d ad av) (hf : f_Rk_tellAll p1 p2 p3 σ = some out) : zM l yX5_tellAll cX5_tellAll 4 none 0 0 d [.ref (h 11), .int p1, .int p2, .int p3] (XW d h σ) (XW d h out.2) none := by
  refine zM_of [some (.ref (h 11)), some (.int p1), some (.int p2), some (.int p3)] (by decide +kernel) rfl (Nat.le_of_ble_eq_true rfl) (fun F C T => ?_)
  unfold f_Rk_tellAll at hf
  refine zr_aload_n 0 1 C (by decide +kernel) rfl rfl ?_
  refine xg_11_0 (idx := 9) 4 C (by decide +kernel) rfl q_172 ?_
  refine zr_iconst (v := 3) 3 5 C (by decide +kernel) rfl rfl ?_
  refine zr_iload_n 1 6 C (by decide +kernel) rfl rfl ?_
  refine xs_34 7 C (by decide +kernel) rfl hf (fun σ1 hf => ?_)
  refine zr_aload_n 0 8 C (by decide +kernel) rfl rfl ?_
  refine xg_11_0 (idx := 9) 11 C (by decide +kernel) rfl q_172 ?_
  refine zr_iconst (v := 4) 4 12 C (by decide +kernel) rfl rfl ?_
  refine zr_iload_n 2 13 C (by decide +kernel) rfl rfl ?_
  refine xs_34 14 C (by decide +kernel) rfl hf (fun σ2 hf => ?_)
  refine zr_aload_n 0 15 C (by decide +kernel) rfl rfl ?_
  refine xg_11_0 (idx := 9) 18 C (by decide +kernel) rfl q_172 ?_
  refine zr_iconst (v := 5) 5 19 C (by decide +kernel) rfl rfl ?_
  refine zr_iload_n 3 20 C (by decide +kernel) rfl rfl ?_
  refine xs_34 21 C (by decide +kernel) rfl hf (fun σ3 hf => ?_)
  obtain rfl := Option.some.inj hf
  exact zr_vret C (by decide +kernel) T
theorem y_Rk_tellAll : zY yX5_tellAll cX5_tellAll 4 none 3 := ⟨q_541, q_76, by decide +kernel, by decide +kernel, by decide +kernel⟩
theorem k_Rk_tellAll {l : Launch} {d : zD} {F : zF} {h : Nat → Nat} {σ : zS} {lv : List (Option Value)} {pc : Nat} {own : String} {cc : ByteArray} {nL fr lo idx : Nat} {rest : List Value} {β : Type} {kf : Int32 → zS → Option β} {o2 : β} {ad av : Nat → Nat}  {p1 : Int32} {p2 : Int32} {p3 : Int32} (pc' : Nat) (C : zOk d F own cc nL fr lo) (E : zXe d ad av) (hd : decode cc pc = .ok (.invokevirtual idx, 3)) (hp : pc + 3 = pc') (hq : Cond.methodLink own idx yX5_tellAll ∈ zW) (hm : 0 + 1 ≤ fr ∧ 8 + (4 + 11) + 0 ≤ lo) (hr : (rest.map fun v => v.category).sum ≤ 8) (hf : zbd (f_Rk_tellAll p1 p2 p3 σ) kf = some o2) (K : ∀ (r : Int32) (σ' : zS), kf r σ' = some o2 → V l d F 0 0 (XW d h σ') lv pc' (rest)) : V l d F 0 0 (XW d h σ) lv pc (.int p3 :: .int p2 :: .int p1 :: .ref (h 11) :: rest) := by
  obtain ⟨q, h1, h2⟩ := zbd_some hf
  exact zr_callV y_Rk_tellAll ⟨q_539, q_540⟩ 11 rfl rfl (As := [.int p1, .int p2, .int p3]) (m_Rk_tellAll E h1) rfl rfl pc' C hd hp hq hm hr (K _ _ h2)
/-! StepsBeyond$Reckoner.push(I)V -/
def f_Rk_push (p1 : Int32) (σ : zS) : Option (Int32 × zS) :=
  (if 31 ≤ (σ.1 1102) then
  some (0, σ)
  else
  zin (σ.1 1102) 31 (zlt (zsa σ 35 (σ.1 1102) p1) fun σ1 =>
  zlt (zsg σ1 1102 ((σ1.1 1102) + 1)) fun σ2 =>
  some (0, σ2)))
set_option maxRecDepth 4000 in
theorem m_Rk_push {l : Launch} {d : zD} {h : Nat → Nat} {out : Int32 × zS} {σ : zS} {ad av : Nat → Nat} {p1 : Int32} (E : zXe d ad av) (hf : f_Rk_push p1 σ = some out) : zM l yX5_push cX5_push 2 none 0 0 d [.ref (h 11), .int p1] (XW d h σ) (XW d h out.2) none := by
  refine zM_of [some (.ref (h 11)), some (.int p1)] (by decide +kernel) rfl (Nat.le_of_ble_eq_true rfl) (fun F C T => ?_)
  unfold f_Rk_push at hf
  refine zr_aload_n 0 1 C (by decide +kernel) rfl rfl ?_
  refine xg_11_2 (idx := 18) 4 C (by decide +kernel) rfl q_174 ?_
  refine zr_bipush (v := 31) 31 6 C (by decide +kernel) rfl rfl ?_
  refine zr_icmp_ge (off := 23) 29 9 C (by decide +kernel) (by decide) rfl hf (fun hf => ?_) (fun hf => ?_)
  · obtain rfl := Option.some.inj hf
    exact zr_vret C (by decide +kernel) T
  · refine zr_aload_n 0 10 C (by decide +kernel) rfl rfl ?_
    refine xg_11_1 (idx := 15) 13 C (by decide +kernel) rfl q_173 ?_
    refine zr_aload_n 0 14 C (by decide +kernel) rfl rfl ?_
    refine xg_11_2 (idx := 18) 17 C (by decide +kernel) rfl q_174 ?_
    refine zr_iload_n 1 18 C (by decide +kernel) rfl rfl ?_
    refine xs_35 19 C (by decide +kernel) rfl hf (fun σ1 hf => ?_)
    refine zr_aload_n 0 20 C (by decide +kernel) rfl rfl ?_
    refine zr_dup 21 C (by decide +kernel) rfl rfl ?_
    refine xg_11_2 (idx := 18) 24 C (by decide +kernel) rfl q_174 ?_
    refine zr_iconst (v := 1) 1 25 C (by decide +kernel) rfl rfl ?_
    refine zr_iadd 26 C (by decide +kernel) rfl ?_
    refine xp_11_2 (idx := 18) 29 C (by decide +kernel) rfl q_174 hf (fun σ2 hf => ?_)
    obtain rfl := Option.some.inj hf
    exact zr_vret C (by decide +kernel) T
theorem y_Rk_push : zY yX5_push cX5_push 2 none 1 := ⟨q_549, q_76, by decide +kernel, by decide +kernel, by decide +kernel⟩
theorem k_Rk_push {l : Launch} {d : zD} {F : zF} {h : Nat → Nat} {σ : zS} {lv : List (Option Value)} {pc : Nat} {own : String} {cc : ByteArray} {nL fr lo idx : Nat} {rest : List Value} {β : Type} {kf : Int32 → zS → Option β} {o2 : β} {ad av : Nat → Nat}  {p1 : Int32} (pc' : Nat) (C : zOk d F own cc nL fr lo) (E : zXe d ad av) (hd : decode cc pc = .ok (.invokevirtual idx, 3)) (hp : pc + 3 = pc') (hq : Cond.methodLink own idx yX5_push ∈ zW) (hm : 0 + 1 ≤ fr ∧ 8 + (2 + 11) + 0 ≤ lo) (hr : (rest.map fun v => v.category).sum ≤ 8) (hf : zbd (f_Rk_push p1 σ) kf = some o2) (K : ∀ (r : Int32) (σ' : zS), kf r σ' = some o2 → V l d F 0 0 (XW d h σ') lv pc' (rest)) : V l d F 0 0 (XW d h σ) lv pc (.int p1 :: .ref (h 11) :: rest) := by
  obtain ⟨q, h1, h2⟩ := zbd_some hf
  exact zr_callV y_Rk_push ⟨q_548, q_14⟩ 11 rfl rfl (As := [.int p1]) (m_Rk_push E h1) rfl rfl pc' C hd hp hq hm hr (K _ _ h2)
/-! StepsBeyond$Reckoner.turnTop(I)V -/
def f_Rk_turnTop_53  (y1 : Int32) (y2 : Int32) (σ : zS) : Option (Int32 × zS) :=
  zin y1 31 (zlt (zsa σ 35 y1 y2) fun σ1 =>
  some (0, σ1))
set_option maxRecDepth 4000 in
theorem w_Rk_turnTop_53 {l : Launch} {d : zD} {F : zF} {h : Nat → Nat} {out : Int32 × zS} {ad av : Nat → Nat}   (C : zOk d F RX5 cX5_turnTop 4 0 0) (T : zRt d F none none (XW d h out.2)) (E : zXe d ad av)  (y1 : Int32) (y2 : Int32) (σ : zS) (hf : f_Rk_turnTop_53  y1 y2 σ = some out) : V l d F 0 0 (XW d h σ) [none, none, none, none] 53 [.int y2, .int y1, .ref (h 35)] := by
  unfold f_Rk_turnTop_53 at hf
  refine xs_35 54 C (by decide +kernel) rfl hf (fun σ1 hf => ?_)
  obtain rfl := Option.some.inj hf
  exact zr_vret C (by decide +kernel) T
def f_Rk_turnTop_30  (x1 : Int32) (x2 : Int32) (y0 : Int32) (σ : zS) : Option (Int32 × zS) :=
  (if x1 = 16 then
  f_Rk_turnTop_53 ((σ.1 1102) - 1) (-x2) σ
  else
  f_Rk_turnTop_53 ((σ.1 1102) - 1) y0 σ)
set_option maxRecDepth 4000 in
theorem w_Rk_turnTop_30 {l : Launch} {d : zD} {F : zF} {h : Nat → Nat} {out : Int32 × zS} {ad av : Nat → Nat}   (C : zOk d F RX5 cX5_turnTop 4 0 0) (T : zRt d F none none (XW d h out.2)) (E : zXe d ad av)  (x1 : Int32) (x2 : Int32) (y0 : Int32) (σ : zS) (hf : f_Rk_turnTop_30  x1 x2 y0 σ = some out) : V l d F 0 0 (XW d h σ) [some (.ref (h 11)), some (.int x1), some (.int x2), none] 30 [.int y0] := by
  unfold f_Rk_turnTop_30 at hf
  refine zr_istore_n 3 [some (.ref (h 11)), some (.int x1), some (.int x2), some (.int y0)] 31 C (by decide +kernel) rfl (by decide) rfl rfl ?_
  refine zr_aload_n 0 32 C (by decide +kernel) rfl rfl ?_
  refine xg_11_1 (idx := 15) 35 C (by decide +kernel) rfl q_173 ?_
  refine zr_aload_n 0 36 C (by decide +kernel) rfl rfl ?_
  refine xg_11_2 (idx := 18) 39 C (by decide +kernel) rfl q_174 ?_
  refine zr_iconst (v := 1) 1 40 C (by decide +kernel) rfl rfl ?_
  refine zr_isub 41 C (by decide +kernel) rfl ?_
  refine zr_iload_n 1 42 C (by decide +kernel) rfl rfl ?_
  refine zr_bipush (v := 16) 16 44 C (by decide +kernel) rfl rfl ?_
  refine zr_icmp_ne (off := 8) 52 47 C (by decide +kernel) (by decide) rfl hf (fun hf => ?_) (fun hf => ?_)
  · refine zr_iload_n 3 53 C (by decide +kernel) rfl rfl ?_
    refine zr_less (zN (zN (zN (zN zE)))) ?_
    exact w_Rk_turnTop_53 C T E _ _ _ hf
  · refine zr_iload_n 2 48 C (by decide +kernel) rfl rfl ?_
    refine zr_ineg 49 C (by decide +kernel) rfl ?_
    refine zr_goto (off := 4) 53 C (by decide +kernel) (by decide) ?_
    refine zr_less (zN (zN (zN (zN zE)))) ?_
    exact w_Rk_turnTop_53 C T E _ _ _ hf
def f_Rk_turnTop (p1 : Int32) (σ : zS) : Option (Int32 × zS) :=
  (if 1 ≤ (σ.1 1102) then
  zin ((σ.1 1102) - 1) 31 (zlt (σ.2 35 ((σ.1 1102) - 1).toNatClampNeg) fun v1 => 
  (if v1 = 0 then
  f_Rk_turnTop_30 p1 v1 1 σ
  else
  f_Rk_turnTop_30 p1 v1 0 σ))
  else
  some (0, σ))
set_option maxRecDepth 4000 in
theorem m_Rk_turnTop {l : Launch} {d : zD} {h : Nat → Nat} {out : Int32 × zS} {σ : zS} {ad av : Nat → Nat} {p1 : Int32} (E : zXe d ad av) (hf : f_Rk_turnTop p1 σ = some out) : zM l yX5_turnTop cX5_turnTop 4 none 0 0 d [.ref (h 11), .int p1] (XW d h σ) (XW d h out.2) none := by
  refine zM_of [some (.ref (h 11)), some (.int p1), none, none] (by decide +kernel) rfl (Nat.le_of_ble_eq_true rfl) (fun F C T => ?_)
  unfold f_Rk_turnTop at hf
  refine zr_aload_n 0 1 C (by decide +kernel) rfl rfl ?_
  refine xg_11_2 (idx := 18) 4 C (by decide +kernel) rfl q_174 ?_
  refine zr_iconst (v := 1) 1 5 C (by decide +kernel) rfl rfl ?_
  refine zr_icmp_ge (off := 4) 9 8 C (by decide +kernel) (by decide) rfl hf (fun hf => ?_) (fun hf => ?_)
  · refine zr_aload_n 0 10 C (by decide +kernel) rfl rfl ?_
    refine xg_11_1 (idx := 15) 13 C (by decide +kernel) rfl q_173 ?_
    refine zr_aload_n 0 14 C (by decide +kernel) rfl rfl ?_
    refine xg_11_2 (idx := 18) 17 C (by decide +kernel) rfl q_174 ?_
    refine zr_iconst (v := 1) 1 18 C (by decide +kernel) rfl rfl ?_
    refine zr_isub 19 C (by decide +kernel) rfl ?_
    refine xl_35 20 C (by decide +kernel) rfl hf (fun hf => ?_)
    refine zr_name hf (fun v1 hf => ?_)
    refine zr_istore_n 2 [some (.ref (h 11)), some (.int p1), some (.int v1), none] 21 C (by decide +kernel) rfl (by decide) rfl rfl ?_
    refine zr_iload_n 2 22 C (by decide +kernel) rfl rfl ?_
    refine zr_if_ne (off := 7) 29 25 C (by decide +kernel) (by decide) rfl hf (fun hf => ?_) (fun hf => ?_)
    · refine zr_iconst (v := 0) 0 30 C (by decide +kernel) rfl rfl ?_
      exact w_Rk_turnTop_30 C T E _ _ _ _ hf
    · refine zr_iconst (v := 1) 1 26 C (by decide +kernel) rfl rfl ?_
      refine zr_goto (off := 4) 30 C (by decide +kernel) (by decide) ?_
      exact w_Rk_turnTop_30 C T E _ _ _ _ hf
  · obtain rfl := Option.some.inj hf
    exact zr_vret C (by decide +kernel) T
theorem y_Rk_turnTop : zY yX5_turnTop cX5_turnTop 4 none 1 := ⟨q_553, q_76, by decide +kernel, by decide +kernel, by decide +kernel⟩
theorem k_Rk_turnTop {l : Launch} {d : zD} {F : zF} {h : Nat → Nat} {σ : zS} {lv : List (Option Value)} {pc : Nat} {own : String} {cc : ByteArray} {nL fr lo idx : Nat} {rest : List Value} {β : Type} {kf : Int32 → zS → Option β} {o2 : β} {ad av : Nat → Nat}  {p1 : Int32} (pc' : Nat) (C : zOk d F own cc nL fr lo) (E : zXe d ad av) (hd : decode cc pc = .ok (.invokevirtual idx, 3)) (hp : pc + 3 = pc') (hq : Cond.methodLink own idx yX5_turnTop ∈ zW) (hm : 0 + 1 ≤ fr ∧ 8 + (4 + 11) + 0 ≤ lo) (hr : (rest.map fun v => v.category).sum ≤ 8) (hf : zbd (f_Rk_turnTop p1 σ) kf = some o2) (K : ∀ (r : Int32) (σ' : zS), kf r σ' = some o2 → V l d F 0 0 (XW d h σ') lv pc' (rest)) : V l d F 0 0 (XW d h σ) lv pc (.int p1 :: .ref (h 11) :: rest) := by
  obtain ⟨q, h1, h2⟩ := zbd_some hf
  exact zr_callV y_Rk_turnTop ⟨q_552, q_15⟩ 11 rfl rfl (As := [.int p1]) (m_Rk_turnTop E h1) rfl rfl pc' C hd hp hq hm hr (K _ _ h2)
/-! StepsBeyond$Reckoner.joinTwo(I)V -/
def f_Rk_joinTwo_178  (y1 : Int32) (y2 : Int32) (σ : zS) : Option (Int32 × zS) :=
  zin y1 31 (zlt (zsa σ 35 y1 y2) fun σ1 =>
  some (0, σ1))
set_option maxRecDepth 4000 in
theorem w_Rk_joinTwo_178 {l : Launch} {d : zD} {F : zF} {h : Nat → Nat} {out : Int32 × zS} {ad av : Nat → Nat}   (C : zOk d F RX5 cX5_joinTwo 4 0 0) (T : zRt d F none none (XW d h out.2)) (E : zXe d ad av)  (y1 : Int32) (y2 : Int32) (σ : zS) (hf : f_Rk_joinTwo_178  y1 y2 σ = some out) : V l d F 0 0 (XW d h σ) [none, none, none, none] 178 [.int y2, .int y1, .ref (h 35)] := by
  unfold f_Rk_joinTwo_178 at hf
  refine xs_35 179 C (by decide +kernel) rfl hf (fun σ1 hf => ?_)
  refine zr_goto (off := 51) 230 C (by decide +kernel) (by decide) ?_
  obtain rfl := Option.some.inj hf
  exact zr_vret C (by decide +kernel) T
def f_Rk_joinTwo_154  (y1 : Int32) (y2 : Int32) (σ : zS) : Option (Int32 × zS) :=
  zin y1 31 (zlt (zsa σ 35 y1 y2) fun σ1 =>
  some (0, σ1))
set_option maxRecDepth 4000 in
theorem w_Rk_joinTwo_154 {l : Launch} {d : zD} {F : zF} {h : Nat → Nat} {out : Int32 × zS} {ad av : Nat → Nat}   (C : zOk d F RX5 cX5_joinTwo 4 0 0) (T : zRt d F none none (XW d h out.2)) (E : zXe d ad av)  (y1 : Int32) (y2 : Int32) (σ : zS) (hf : f_Rk_joinTwo_154  y1 y2 σ = some out) : V l d F 0 0 (XW d h σ) [none, none, none, none] 154 [.int y2, .int y1, .ref (h 35)] := by
  unfold f_Rk_joinTwo_154 at hf
  refine xs_35 155 C (by decide +kernel) rfl hf (fun σ1 hf => ?_)
  refine zr_goto (off := 75) 230 C (by decide +kernel) (by decide) ?_
  obtain rfl := Option.some.inj hf
  exact zr_vret C (by decide +kernel) T
def f_Rk_joinTwo_130  (y1 : Int32) (y2 : Int32) (σ : zS) : Option (Int32 × zS) :=
  zin y1 31 (zlt (zsa σ 35 y1 y2) fun σ1 =>
  some (0, σ1))
set_option maxRecDepth 4000 in
theorem w_Rk_joinTwo_130 {l : Launch} {d : zD} {F : zF} {h : Nat → Nat} {out : Int32 × zS} {ad av : Nat → Nat}   (C : zOk d F RX5 cX5_joinTwo 4 0 0) (T : zRt d F none none (XW d h out.2)) (E : zXe d ad av)  (y1 : Int32) (y2 : Int32) (σ : zS) (hf : f_Rk_joinTwo_130  y1 y2 σ = some out) : V l d F 0 0 (XW d h σ) [none, none, none, none] 130 [.int y2, .int y1, .ref (h 35)] := by
  unfold f_Rk_joinTwo_130 at hf
  refine xs_35 131 C (by decide +kernel) rfl hf (fun σ1 hf => ?_)
  refine zr_goto (off := 99) 230 C (by decide +kernel) (by decide) ?_
  obtain rfl := Option.some.inj hf
  exact zr_vret C (by decide +kernel) T
def f_Rk_joinTwo_129  (y1 : Int32) (σ : zS) : Option (Int32 × zS) :=
  f_Rk_joinTwo_130 y1 0 σ
set_option maxRecDepth 4000 in
theorem w_Rk_joinTwo_129 {l : Launch} {d : zD} {F : zF} {h : Nat → Nat} {out : Int32 × zS} {ad av : Nat → Nat}   (C : zOk d F RX5 cX5_joinTwo 4 0 0) (T : zRt d F none none (XW d h out.2)) (E : zXe d ad av)  (y1 : Int32) (σ : zS) (hf : f_Rk_joinTwo_129  y1 σ = some out) : V l d F 0 0 (XW d h σ) [none, none, none, none] 129 [.int y1, .ref (h 35)] := by
  unfold f_Rk_joinTwo_129 at hf
  refine zr_iconst (v := 0) 0 130 C (by decide +kernel) rfl rfl ?_
  exact w_Rk_joinTwo_130 C T E _ _ _ hf
def f_Rk_joinTwo_103  (y1 : Int32) (y2 : Int32) (σ : zS) : Option (Int32 × zS) :=
  zin y1 31 (zlt (zsa σ 35 y1 y2) fun σ1 =>
  some (0, σ1))
set_option maxRecDepth 4000 in
theorem w_Rk_joinTwo_103 {l : Launch} {d : zD} {F : zF} {h : Nat → Nat} {out : Int32 × zS} {ad av : Nat → Nat}   (C : zOk d F RX5 cX5_joinTwo 4 0 0) (T : zRt d F none none (XW d h out.2)) (E : zXe d ad av)  (y1 : Int32) (y2 : Int32) (σ : zS) (hf : f_Rk_joinTwo_103  y1 y2 σ = some out) : V l d F 0 0 (XW d h σ) [none, none, none, none] 103 [.int y2, .int y1, .ref (h 35)] := by
  unfold f_Rk_joinTwo_103 at hf
  refine xs_35 104 C (by decide +kernel) rfl hf (fun σ1 hf => ?_)
  refine zr_goto (off := 126) 230 C (by decide +kernel) (by decide) ?_
  obtain rfl := Option.some.inj hf
  exact zr_vret C (by decide +kernel) T
def f_Rk_joinTwo_98  (y1 : Int32) (σ : zS) : Option (Int32 × zS) :=
  f_Rk_joinTwo_103 y1 1 σ
set_option maxRecDepth 4000 in
theorem w_Rk_joinTwo_98 {l : Launch} {d : zD} {F : zF} {h : Nat → Nat} {out : Int32 × zS} {ad av : Nat → Nat}   (C : zOk d F RX5 cX5_joinTwo 4 0 0) (T : zRt d F none none (XW d h out.2)) (E : zXe d ad av)  (y1 : Int32) (σ : zS) (hf : f_Rk_joinTwo_98  y1 σ = some out) : V l d F 0 0 (XW d h σ) [none, none, none, none] 98 [.int y1, .ref (h 35)] := by
  unfold f_Rk_joinTwo_98 at hf
  refine zr_iconst (v := 1) 1 99 C (by decide +kernel) rfl rfl ?_
  refine zr_goto (off := 4) 103 C (by decide +kernel) (by decide) ?_
  exact w_Rk_joinTwo_103 C T E _ _ _ hf
def f_Rk_joinTwo (p1 : Int32) (σ : zS) : Option (Int32 × zS) :=
  (if 2 ≤ (σ.1 1102) then
  zlt (zsg σ 1102 ((σ.1 1102) - 1)) fun σ1 =>
  zin ((σ1.1 1102) - 1) 31 (zlt (σ1.2 35 ((σ1.1 1102) - 1).toNatClampNeg) fun v2 => 
  zin (σ1.1 1102) 31 (zlt (σ1.2 35 (σ1.1 1102).toNatClampNeg) fun v3 => 
  (if p1 = 8 then
  (if v2 = 0 then
  (if v3 = 0 then
  f_Rk_joinTwo_103 ((σ1.1 1102) - 1) 0 σ1
  else
  f_Rk_joinTwo_98 ((σ1.1 1102) - 1) σ1)
  else
  f_Rk_joinTwo_98 ((σ1.1 1102) - 1) σ1)
  else
  (if p1 = 9 then
  (if v2 = 0 then
  f_Rk_joinTwo_129 ((σ1.1 1102) - 1) σ1
  else
  (if v3 = 0 then
  f_Rk_joinTwo_129 ((σ1.1 1102) - 1) σ1
  else
  f_Rk_joinTwo_130 ((σ1.1 1102) - 1) 1 σ1))
  else
  (if p1 = 10 then
  (if v3 ≤ v2 then
  f_Rk_joinTwo_154 ((σ1.1 1102) - 1) 0 σ1
  else
  f_Rk_joinTwo_154 ((σ1.1 1102) - 1) 1 σ1)
  else
  (if p1 = 11 then
  (if v2 = v3 then
  f_Rk_joinTwo_178 ((σ1.1 1102) - 1) 1 σ1
  else
  f_Rk_joinTwo_178 ((σ1.1 1102) - 1) 0 σ1)
  else
  (if p1 = 12 then
  zin ((σ1.1 1102) - 1) 31 (zlt (zsa σ1 35 ((σ1.1 1102) - 1) (v2 + v3)) fun σ5 =>
  some (0, σ5))
  else
  (if p1 = 13 then
  zin ((σ1.1 1102) - 1) 31 (zlt (zsa σ1 35 ((σ1.1 1102) - 1) (v2 - v3)) fun σ6 =>
  some (0, σ6))
  else
  zin ((σ1.1 1102) - 1) 31 (zlt (zsa σ1 35 ((σ1.1 1102) - 1) (v2 * v3)) fun σ4 =>
  some (0, σ4))))))))))
  else
  some (0, σ))
set_option maxRecDepth 4000 in
theorem m_Rk_joinTwo {l : Launch} {d : zD} {h : Nat → Nat} {out : Int32 × zS} {σ : zS} {ad av : Nat → Nat} {p1 : Int32} (E : zXe d ad av) (hf : f_Rk_joinTwo p1 σ = some out) : zM l yX5_joinTwo cX5_joinTwo 4 none 0 0 d [.ref (h 11), .int p1] (XW d h σ) (XW d h out.2) none := by
  refine zM_of [some (.ref (h 11)), some (.int p1), none, none] (by decide +kernel) rfl (Nat.le_of_ble_eq_true rfl) (fun F C T => ?_)
  unfold f_Rk_joinTwo at hf
  refine zr_aload_n 0 1 C (by decide +kernel) rfl rfl ?_
  refine xg_11_2 (idx := 18) 4 C (by decide +kernel) rfl q_174 ?_
  refine zr_iconst (v := 2) 2 5 C (by decide +kernel) rfl rfl ?_
  refine zr_icmp_ge (off := 4) 9 8 C (by decide +kernel) (by decide) rfl hf (fun hf => ?_) (fun hf => ?_)
  · refine zr_aload_n 0 10 C (by decide +kernel) rfl rfl ?_
    refine zr_dup 11 C (by decide +kernel) rfl rfl ?_
    refine xg_11_2 (idx := 18) 14 C (by decide +kernel) rfl q_174 ?_
    refine zr_iconst (v := 1) 1 15 C (by decide +kernel) rfl rfl ?_
    refine zr_isub 16 C (by decide +kernel) rfl ?_
    refine xp_11_2 (idx := 18) 19 C (by decide +kernel) rfl q_174 hf (fun σ1 hf => ?_)
    refine zr_aload_n 0 20 C (by decide +kernel) rfl rfl ?_
    refine xg_11_1 (idx := 15) 23 C (by decide +kernel) rfl q_173 ?_
    refine zr_aload_n 0 24 C (by decide +kernel) rfl rfl ?_
    refine xg_11_2 (idx := 18) 27 C (by decide +kernel) rfl q_174 ?_
    refine zr_iconst (v := 1) 1 28 C (by decide +kernel) rfl rfl ?_
    refine zr_isub 29 C (by decide +kernel) rfl ?_
    refine xl_35 30 C (by decide +kernel) rfl hf (fun hf => ?_)
    refine zr_name hf (fun v2 hf => ?_)
    refine zr_istore_n 2 [some (.ref (h 11)), some (.int p1), some (.int v2), none] 31 C (by decide +kernel) rfl (by decide) rfl rfl ?_
    refine zr_aload_n 0 32 C (by decide +kernel) rfl rfl ?_
    refine xg_11_1 (idx := 15) 35 C (by decide +kernel) rfl q_173 ?_
    refine zr_aload_n 0 36 C (by decide +kernel) rfl rfl ?_
    refine xg_11_2 (idx := 18) 39 C (by decide +kernel) rfl q_174 ?_
    refine xl_35 40 C (by decide +kernel) rfl hf (fun hf => ?_)
    refine zr_name hf (fun v3 hf => ?_)
    refine zr_istore_n 3 [some (.ref (h 11)), some (.int p1), some (.int v2), some (.int v3)] 41 C (by decide +kernel) rfl (by decide) rfl rfl ?_
    refine zr_iload_n 1 42 C (by decide +kernel) rfl rfl ?_
    refine zr_tcase (dflt := 174) (lw := 8) (hi := 13) (offs := #[38, 65, 92, 116, 140, 157]) (len := 38) (off := 38) (j := 0) 8 80 C (by decide +kernel) (by decide) (by decide) rfl (by decide) hf (fun hf => ?_) (fun hn0 hf => ?_)
    · refine zr_aload_n 0 81 C (by decide +kernel) rfl rfl ?_
      refine xg_11_1 (idx := 15) 84 C (by decide +kernel) rfl q_173 ?_
      refine zr_aload_n 0 85 C (by decide +kernel) rfl rfl ?_
      refine xg_11_2 (idx := 18) 88 C (by decide +kernel) rfl q_174 ?_
      refine zr_iconst (v := 1) 1 89 C (by decide +kernel) rfl rfl ?_
      refine zr_isub 90 C (by decide +kernel) rfl ?_
      refine zr_iload_n 2 91 C (by decide +kernel) rfl rfl ?_
      refine zr_if_ne (off := 7) 98 94 C (by decide +kernel) (by decide) rfl hf (fun hf => ?_) (fun hf => ?_)
      · refine zr_less (zN (zN (zN (zN zE)))) ?_
        exact w_Rk_joinTwo_98 C T E _ _ hf
      · refine zr_iload_n 3 95 C (by decide +kernel) rfl rfl ?_
        refine zr_if_eq (off := 7) 102 98 C (by decide +kernel) (by decide) rfl hf (fun hf => ?_) (fun hf => ?_)
        · refine zr_iconst (v := 0) 0 103 C (by decide +kernel) rfl rfl ?_
          refine zr_less (zN (zN (zN (zN zE)))) ?_
          exact w_Rk_joinTwo_103 C T E _ _ _ hf
        · refine zr_less (zN (zN (zN (zN zE)))) ?_
          exact w_Rk_joinTwo_98 C T E _ _ hf
    refine zr_tcase (dflt := 174) (lw := 8) (hi := 13) (offs := #[38, 65, 92, 116, 140, 157]) (len := 38) (off := 65) (j := 1) 9 107 C (by decide +kernel) (by decide) (by decide) rfl (by decide) hf (fun hf => ?_) (fun hn1 hf => ?_)
    · refine zr_aload_n 0 108 C (by decide +kernel) rfl rfl ?_
      refine xg_11_1 (idx := 15) 111 C (by decide +kernel) rfl q_173 ?_
      refine zr_aload_n 0 112 C (by decide +kernel) rfl rfl ?_
      refine xg_11_2 (idx := 18) 115 C (by decide +kernel) rfl q_174 ?_
      refine zr_iconst (v := 1) 1 116 C (by decide +kernel) rfl rfl ?_
      refine zr_isub 117 C (by decide +kernel) rfl ?_
      refine zr_iload_n 2 118 C (by decide +kernel) rfl rfl ?_
      refine zr_if_eq (off := 11) 129 121 C (by decide +kernel) (by decide) rfl hf (fun hf => ?_) (fun hf => ?_)
      · refine zr_less (zN (zN (zN (zN zE)))) ?_
        exact w_Rk_joinTwo_129 C T E _ _ hf
      · refine zr_iload_n 3 122 C (by decide +kernel) rfl rfl ?_
        refine zr_if_eq (off := 7) 129 125 C (by decide +kernel) (by decide) rfl hf (fun hf => ?_) (fun hf => ?_)
        · refine zr_less (zN (zN (zN (zN zE)))) ?_
          exact w_Rk_joinTwo_129 C T E _ _ hf
        · refine zr_iconst (v := 1) 1 126 C (by decide +kernel) rfl rfl ?_
          refine zr_goto (off := 4) 130 C (by decide +kernel) (by decide) ?_
          refine zr_less (zN (zN (zN (zN zE)))) ?_
          exact w_Rk_joinTwo_130 C T E _ _ _ hf
    refine zr_tcase (dflt := 174) (lw := 8) (hi := 13) (offs := #[38, 65, 92, 116, 140, 157]) (len := 38) (off := 92) (j := 2) 10 134 C (by decide +kernel) (by decide) (by decide) rfl (by decide) hf (fun hf => ?_) (fun hn2 hf => ?_)
    · refine zr_aload_n 0 135 C (by decide +kernel) rfl rfl ?_
      refine xg_11_1 (idx := 15) 138 C (by decide +kernel) rfl q_173 ?_
      refine zr_aload_n 0 139 C (by decide +kernel) rfl rfl ?_
      refine xg_11_2 (idx := 18) 142 C (by decide +kernel) rfl q_174 ?_
      refine zr_iconst (v := 1) 1 143 C (by decide +kernel) rfl rfl ?_
      refine zr_isub 144 C (by decide +kernel) rfl ?_
      refine zr_iload_n 2 145 C (by decide +kernel) rfl rfl ?_
      refine zr_iload_n 3 146 C (by decide +kernel) rfl rfl ?_
      refine zr_icmp_ge (off := 7) 153 149 C (by decide +kernel) (by decide) rfl hf (fun hf => ?_) (fun hf => ?_)
      · refine zr_iconst (v := 0) 0 154 C (by decide +kernel) rfl rfl ?_
        refine zr_less (zN (zN (zN (zN zE)))) ?_
        exact w_Rk_joinTwo_154 C T E _ _ _ hf
      · refine zr_iconst (v := 1) 1 150 C (by decide +kernel) rfl rfl ?_
        refine zr_goto (off := 4) 154 C (by decide +kernel) (by decide) ?_
        refine zr_less (zN (zN (zN (zN zE)))) ?_
        exact w_Rk_joinTwo_154 C T E _ _ _ hf
    refine zr_tcase (dflt := 174) (lw := 8) (hi := 13) (offs := #[38, 65, 92, 116, 140, 157]) (len := 38) (off := 116) (j := 3) 11 158 C (by decide +kernel) (by decide) (by decide) rfl (by decide) hf (fun hf => ?_) (fun hn3 hf => ?_)
    · refine zr_aload_n 0 159 C (by decide +kernel) rfl rfl ?_
      refine xg_11_1 (idx := 15) 162 C (by decide +kernel) rfl q_173 ?_
      refine zr_aload_n 0 163 C (by decide +kernel) rfl rfl ?_
      refine xg_11_2 (idx := 18) 166 C (by decide +kernel) rfl q_174 ?_
      refine zr_iconst (v := 1) 1 167 C (by decide +kernel) rfl rfl ?_
      refine zr_isub 168 C (by decide +kernel) rfl ?_
      refine zr_iload_n 2 169 C (by decide +kernel) rfl rfl ?_
      refine zr_iload_n 3 170 C (by decide +kernel) rfl rfl ?_
      refine zr_icmp_ne (off := 7) 177 173 C (by decide +kernel) (by decide) rfl hf (fun hf => ?_) (fun hf => ?_)
      · refine zr_iconst (v := 0) 0 178 C (by decide +kernel) rfl rfl ?_
        refine zr_less (zN (zN (zN (zN zE)))) ?_
        exact w_Rk_joinTwo_178 C T E _ _ _ hf
      · refine zr_iconst (v := 1) 1 174 C (by decide +kernel) rfl rfl ?_
        refine zr_goto (off := 4) 178 C (by decide +kernel) (by decide) ?_
        refine zr_less (zN (zN (zN (zN zE)))) ?_
        exact w_Rk_joinTwo_178 C T E _ _ _ hf
    refine zr_tcase (dflt := 174) (lw := 8) (hi := 13) (offs := #[38, 65, 92, 116, 140, 157]) (len := 38) (off := 140) (j := 4) 12 182 C (by decide +kernel) (by decide) (by decide) rfl (by decide) hf (fun hf => ?_) (fun hn4 hf => ?_)
    · refine zr_aload_n 0 183 C (by decide +kernel) rfl rfl ?_
      refine xg_11_1 (idx := 15) 186 C (by decide +kernel) rfl q_173 ?_
      refine zr_aload_n 0 187 C (by decide +kernel) rfl rfl ?_
      refine xg_11_2 (idx := 18) 190 C (by decide +kernel) rfl q_174 ?_
      refine zr_iconst (v := 1) 1 191 C (by decide +kernel) rfl rfl ?_
      refine zr_isub 192 C (by decide +kernel) rfl ?_
      refine zr_iload_n 2 193 C (by decide +kernel) rfl rfl ?_
      refine zr_iload_n 3 194 C (by decide +kernel) rfl rfl ?_
      refine zr_iadd 195 C (by decide +kernel) rfl ?_
      refine xs_35 196 C (by decide +kernel) rfl hf (fun σ5 hf => ?_)
      refine zr_goto (off := 34) 230 C (by decide +kernel) (by decide) ?_
      obtain rfl := Option.some.inj hf
      exact zr_vret C (by decide +kernel) T
    refine zr_tcase (dflt := 174) (lw := 8) (hi := 13) (offs := #[38, 65, 92, 116, 140, 157]) (len := 38) (off := 157) (j := 5) 13 199 C (by decide +kernel) (by decide) (by decide) rfl (by decide) hf (fun hf => ?_) (fun hn5 hf => ?_)
    · refine zr_aload_n 0 200 C (by decide +kernel) rfl rfl ?_
      refine xg_11_1 (idx := 15) 203 C (by decide +kernel) rfl q_173 ?_
      refine zr_aload_n 0 204 C (by decide +kernel) rfl rfl ?_
      refine xg_11_2 (idx := 18) 207 C (by decide +kernel) rfl q_174 ?_
      refine zr_iconst (v := 1) 1 208 C (by decide +kernel) rfl rfl ?_
      refine zr_isub 209 C (by decide +kernel) rfl ?_
      refine zr_iload_n 2 210 C (by decide +kernel) rfl rfl ?_
      refine zr_iload_n 3 211 C (by decide +kernel) rfl rfl ?_
      refine zr_isub 212 C (by decide +kernel) rfl ?_
      refine xs_35 213 C (by decide +kernel) rfl hf (fun σ6 hf => ?_)
      refine zr_goto (off := 17) 230 C (by decide +kernel) (by decide) ?_
      obtain rfl := Option.some.inj hf
      exact zr_vret C (by decide +kernel) T
    refine zr_tdflt (dflt := 174) (lw := 8) (hi := 13) (offs := #[38, 65, 92, 116, 140, 157]) (len := 38) 216 C (by decide +kernel) (by decide) (by decide) (fun j hj hx => ?_) ?_
    · rcases (show j = 0 ∨ j = 1 ∨ j = 2 ∨ j = 3 ∨ j = 4 ∨ j = 5 by have hj2 : j < 6 := hj; omega) with rfl | rfl | rfl | rfl | rfl | rfl
      · exact absurd (z_ti (c := 8) (by decide) hx) hn0
      · exact absurd (z_ti (c := 9) (by decide) hx) hn1
      · exact absurd (z_ti (c := 10) (by decide) hx) hn2
      · exact absurd (z_ti (c := 11) (by decide) hx) hn3
      · exact absurd (z_ti (c := 12) (by decide) hx) hn4
      · exact absurd (z_ti (c := 13) (by decide) hx) hn5
    refine zr_aload_n 0 217 C (by decide +kernel) rfl rfl ?_
    refine xg_11_1 (idx := 15) 220 C (by decide +kernel) rfl q_173 ?_
    refine zr_aload_n 0 221 C (by decide +kernel) rfl rfl ?_
    refine xg_11_2 (idx := 18) 224 C (by decide +kernel) rfl q_174 ?_
    refine zr_iconst (v := 1) 1 225 C (by decide +kernel) rfl rfl ?_
    refine zr_isub 226 C (by decide +kernel) rfl ?_
    refine zr_iload_n 2 227 C (by decide +kernel) rfl rfl ?_
    refine zr_iload_n 3 228 C (by decide +kernel) rfl rfl ?_
    refine zr_imul 229 C (by decide +kernel) rfl ?_
    refine xs_35 230 C (by decide +kernel) rfl hf (fun σ4 hf => ?_)
    obtain rfl := Option.some.inj hf
    exact zr_vret C (by decide +kernel) T
  · obtain rfl := Option.some.inj hf
    exact zr_vret C (by decide +kernel) T
theorem y_Rk_joinTwo : zY yX5_joinTwo cX5_joinTwo 4 none 1 := ⟨q_557, q_76, by decide +kernel, by decide +kernel, by decide +kernel⟩
theorem k_Rk_joinTwo {l : Launch} {d : zD} {F : zF} {h : Nat → Nat} {σ : zS} {lv : List (Option Value)} {pc : Nat} {own : String} {cc : ByteArray} {nL fr lo idx : Nat} {rest : List Value} {β : Type} {kf : Int32 → zS → Option β} {o2 : β} {ad av : Nat → Nat}  {p1 : Int32} (pc' : Nat) (C : zOk d F own cc nL fr lo) (E : zXe d ad av) (hd : decode cc pc = .ok (.invokevirtual idx, 3)) (hp : pc + 3 = pc') (hq : Cond.methodLink own idx yX5_joinTwo ∈ zW) (hm : 0 + 1 ≤ fr ∧ 8 + (4 + 11) + 0 ≤ lo) (hr : (rest.map fun v => v.category).sum ≤ 8) (hf : zbd (f_Rk_joinTwo p1 σ) kf = some o2) (K : ∀ (r : Int32) (σ' : zS), kf r σ' = some o2 → V l d F 0 0 (XW d h σ') lv pc' (rest)) : V l d F 0 0 (XW d h σ) lv pc (.int p1 :: .ref (h 11) :: rest) := by
  obtain ⟨q, h1, h2⟩ := zbd_some hf
  exact zr_callV y_Rk_joinTwo ⟨q_556, q_16⟩ 11 rfl rfl (As := [.int p1]) (m_Rk_joinTwo E h1) rfl rfl pc' C hd hp hq hm hr (K _ _ h2)

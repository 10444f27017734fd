/-! StepsBeyond$Reckoner.worth([I)I -/
def f_Rk_worth_89 (k7 : Nat → Int32 → zS → Option (Int32 × zS)) (x1 : Nat) (x2 : Int32) (σ : zS) : Option (Int32 × zS) :=
  k7 x1 (x2 + 1) σ
set_option maxRecDepth 4000 in
theorem w_Rk_worth_89 {l : Launch} {d : zD} {F : zF} {h : Nat → Nat} {out : Int32 × zS} {ad av : Nat → Nat}  {k7 : Nat → Int32 → zS → Option (Int32 × zS)} (C : zOk d F RX5 cX5_worth 4 1 23) (T : zRt d F (some .int) (some (.int out.1)) (XW d h out.2)) (E : zXe d ad av) (H7 : ∀ (x1 : Nat) (x2 : Int32) (σ : zS), k7 x1 x2 σ = some out → V l d F 0 0 (XW d h σ) [some (.ref (h 11)), some (.ref (h x1)), some (.int x2), none] 7 []) (x1 : Nat) (x2 : Int32) (σ : zS) (hf : f_Rk_worth_89 k7 x1 x2 σ = some out) : V l d F 0 0 (XW d h σ) [some (.ref (h 11)), some (.ref (h x1)), some (.int x2), none] 89 [] := by
  unfold f_Rk_worth_89 at hf
  refine zr_iinc (j := 1) 2 [some (.ref (h 11)), some (.ref (h x1)), some (.int (x2 + 1)), none] 92 C (by decide +kernel) rfl rfl rfl (by decide) rfl rfl ?_
  refine zr_goto (off := -85) 7 C (by decide +kernel) (by decide) ?_
  exact H7 _ _ _ hf
def f_Rk_worth_76 (k7 : Nat → Int32 → zS → Option (Int32 × zS)) (x1 : Nat) (x2 : Int32) (x3 : Int32) (σ : zS) : Option (Int32 × zS) :=
  zbd (f_Rk_turnTop x3 σ) fun _ σ1 =>
  f_Rk_worth_89 k7 x1 x2 σ1
set_option maxRecDepth 4000 in
theorem w_Rk_worth_76 {l : Launch} {d : zD} {F : zF} {h : Nat → Nat} {out : Int32 × zS} {ad av : Nat → Nat}  {k7 : Nat → Int32 → zS → Option (Int32 × zS)} (C : zOk d F RX5 cX5_worth 4 1 23) (T : zRt d F (some .int) (some (.int out.1)) (XW d h out.2)) (E : zXe d ad av) (H7 : ∀ (x1 : Nat) (x2 : Int32) (σ : zS), k7 x1 x2 σ = some out → V l d F 0 0 (XW d h σ) [some (.ref (h 11)), some (.ref (h x1)), some (.int x2), none] 7 []) (x1 : Nat) (x2 : Int32) (x3 : Int32) (σ : zS) (hf : f_Rk_worth_76 k7 x1 x2 x3 σ = some out) : V l d F 0 0 (XW d h σ) [some (.ref (h 11)), some (.ref (h x1)), some (.int x2), some (.int x3)] 76 [] := by
  unfold f_Rk_worth_76 at hf
  refine zr_aload_n 0 77 C (by decide +kernel) rfl rfl ?_
  refine zr_iload_n 3 78 C (by decide +kernel) rfl rfl ?_
  refine k_Rk_turnTop (idx := 26) 81 C E (by decide +kernel) rfl q_550 (zb2 rfl rfl) (Nat.le_of_ble_eq_true rfl) hf (fun _ σ1 hf => ?_)
  refine zr_goto (off := 8) 89 C (by decide +kernel) (by decide) ?_
  refine zr_less (zA (zA (zA (zN zE)))) ?_
  exact w_Rk_worth_89 C T E H7 _ _ _ hf
def f_Rk_worth_58 (k7 : Nat → Int32 → zS → Option (Int32 × zS)) (x1 : Nat) (x2 : Int32) (y1 : Int32) (σ : zS) : Option (Int32 × zS) :=
  zbd (f_Rk_push y1 σ) fun _ σ1 =>
  f_Rk_worth_89 k7 x1 x2 σ1
set_option maxRecDepth 4000 in
theorem w_Rk_worth_58 {l : Launch} {d : zD} {F : zF} {h : Nat → Nat} {out : Int32 × zS} {ad av : Nat → Nat}  {k7 : Nat → Int32 → zS → Option (Int32 × zS)} (C : zOk d F RX5 cX5_worth 4 1 23) (T : zRt d F (some .int) (some (.int out.1)) (XW d h out.2)) (E : zXe d ad av) (H7 : ∀ (x1 : Nat) (x2 : Int32) (σ : zS), k7 x1 x2 σ = some out → V l d F 0 0 (XW d h σ) [some (.ref (h 11)), some (.ref (h x1)), some (.int x2), none] 7 []) (x1 : Nat) (x2 : Int32) (y1 : Int32) (σ : zS) (hf : f_Rk_worth_58 k7 x1 x2 y1 σ = some out) : V l d F 0 0 (XW d h σ) [some (.ref (h 11)), some (.ref (h x1)), some (.int x2), none] 58 [.int y1, .ref (h 11)] := by
  unfold f_Rk_worth_58 at hf
  refine k_Rk_push (idx := 22) 61 C E (by decide +kernel) rfl q_546 (zb2 rfl rfl) (Nat.le_of_ble_eq_true rfl) hf (fun _ σ1 hf => ?_)
  refine zr_goto (off := 28) 89 C (by decide +kernel) (by decide) ?_
  exact w_Rk_worth_89 C T E H7 _ _ _ hf
def f_Rk_worth_7b (k7 : Nat → Int32 → zS → Option (Int32 × zS)) (x1 : Nat) (x2 : Int32) (σ : zS) : Option (Int32 × zS) :=
  ztx x1 ((if (nI (zln σ x1)) ≤ x2 then
  (if (σ.1 1102) ≤ 0 then
  some (0, σ)
  else
  zin 0 31 (some (σ.2 35 (0 : Int32).toNatClampNeg, σ)))
  else
  ztx x1 (zin x2 (zln σ x1) (zlt (-(σ.2 x1 x2.toNatClampNeg)) fun v1 => 
  (if 0 < v1 then
  (if v1 < 17 then
  (if v1 = 15 then
  f_Rk_worth_76 k7 x1 x2 v1 σ
  else
  (if v1 = 16 then
  f_Rk_worth_76 k7 x1 x2 v1 σ
  else
  zbd (f_Rk_joinTwo v1 σ) fun _ σ2 =>
  f_Rk_worth_89 k7 x1 x2 σ2))
  else
  (if 23 ≤ v1 then
  f_Rk_worth_58 k7 x1 x2 0 σ
  else
  zin (v1 - 17) 6 (f_Rk_worth_58 k7 x1 x2 (σ.2 34 (v1 - 17).toNatClampNeg) σ)))
  else
  ztx x1 (zin x2 (zln σ x1) (zbd (f_Rk_push (σ.2 x1 x2.toNatClampNeg) σ) fun _ σ3 =>
  f_Rk_worth_89 k7 x1 x2 σ3)))))))
set_option maxRecDepth 4000 in
theorem w_Rk_worth_7b {l : Launch} {d : zD} {F : zF} {h : Nat → Nat} {out : Int32 × zS} {ad av : Nat → Nat}  {k7 : Nat → Int32 → zS → Option (Int32 × zS)} (C : zOk d F RX5 cX5_worth 4 1 23) (T : zRt d F (some .int) (some (.int out.1)) (XW d h out.2)) (E : zXe d ad av) (H7 : ∀ (x1 : Nat) (x2 : Int32) (σ : zS), k7 x1 x2 σ = some out → V l d F 0 0 (XW d h σ) [some (.ref (h 11)), some (.ref (h x1)), some (.int x2), none] 7 []) (x1 : Nat) (x2 : Int32) (σ : zS) (hf : f_Rk_worth_7b k7 x1 x2 σ = some out) : V l d F 0 0 (XW d h σ) [some (.ref (h 11)), some (.ref (h x1)), some (.int x2), none] 7 [] := by
  unfold f_Rk_worth_7b at hf
  refine zr_iload_n 2 8 C (by decide +kernel) rfl rfl ?_
  refine zr_aload_n 1 9 C (by decide +kernel) rfl rfl ?_
  refine xn_text 10 C (by decide +kernel) rfl hf (fun hf => ?_)
  refine zr_icmp_ge (off := 85) 95 13 C (by decide +kernel) (by decide) rfl hf (fun hf => ?_) (fun hf => ?_)
  · refine zr_aload_n 0 96 C (by decide +kernel) rfl rfl ?_
    refine xg_11_2 (idx := 18) 99 C (by decide +kernel) rfl q_174 ?_
    refine zr_if_le (off := 12) 111 102 C (by decide +kernel) (by decide) rfl hf (fun hf => ?_) (fun hf => ?_)
    · refine zr_iconst (v := 0) 0 112 C (by decide +kernel) rfl rfl ?_
      obtain rfl := Option.some.inj hf
      exact zr_iret C (by decide +kernel) T
    · refine zr_aload_n 0 103 C (by decide +kernel) rfl rfl ?_
      refine xg_11_1 (idx := 15) 106 C (by decide +kernel) rfl q_173 ?_
      refine zr_iconst (v := 0) 0 107 C (by decide +kernel) rfl rfl ?_
      refine xl_35 108 C (by decide +kernel) rfl hf (fun hf => ?_)
      refine zr_goto (off := 4) 112 C (by decide +kernel) (by decide) ?_
      obtain rfl := Option.some.inj hf
      exact zr_iret C (by decide +kernel) T
  · refine zr_aload_n 1 14 C (by decide +kernel) rfl rfl ?_
    refine zr_iload_n 2 15 C (by decide +kernel) rfl rfl ?_
    refine xl_text 16 C (by decide +kernel) rfl hf (fun hf => ?_)
    refine zr_ineg 17 C (by decide +kernel) rfl ?_
    refine zr_name hf (fun v1 hf => ?_)
    refine zr_istore_n 3 [some (.ref (h 11)), some (.ref (h x1)), some (.int x2), some (.int v1)] 18 C (by decide +kernel) rfl (by decide) rfl rfl ?_
    refine zr_iload_n 3 19 C (by decide +kernel) rfl rfl ?_
    refine zr_if_gt (off := 13) 32 22 C (by decide +kernel) (by decide) rfl hf (fun hf => ?_) (fun hf => ?_)
    · refine zr_iload_n 3 33 C (by decide +kernel) rfl rfl ?_
      refine zr_bipush (v := 17) 17 35 C (by decide +kernel) rfl rfl ?_
      refine zr_icmp_lt (off := 29) 64 38 C (by decide +kernel) (by decide) rfl hf (fun hf => ?_) (fun hf => ?_)
      · refine zr_iload_n 3 65 C (by decide +kernel) rfl rfl ?_
        refine zr_bipush (v := 15) 15 67 C (by decide +kernel) rfl rfl ?_
        refine zr_icmp_eq (off := 9) 76 70 C (by decide +kernel) (by decide) rfl hf (fun hf => ?_) (fun hf => ?_)
        · exact w_Rk_worth_76 C T E H7 _ _ _ _ hf
        · refine zr_iload_n 3 71 C (by decide +kernel) rfl rfl ?_
          refine zr_bipush (v := 16) 16 73 C (by decide +kernel) rfl rfl ?_
          refine zr_icmp_ne (off := 11) 84 76 C (by decide +kernel) (by decide) rfl hf (fun hf => ?_) (fun hf => ?_)
          · refine zr_aload_n 0 85 C (by decide +kernel) rfl rfl ?_
            refine zr_iload_n 3 86 C (by decide +kernel) rfl rfl ?_
            refine k_Rk_joinTwo (idx := 29) 89 C E (by decide +kernel) rfl q_554 (zb2 rfl rfl) (Nat.le_of_ble_eq_true rfl) hf (fun _ σ2 hf => ?_)
            refine zr_less (zA (zA (zA (zN zE)))) ?_
            exact w_Rk_worth_89 C T E H7 _ _ _ hf
          · exact w_Rk_worth_76 C T E H7 _ _ _ _ hf
      · refine zr_aload_n 0 39 C (by decide +kernel) rfl rfl ?_
        refine zr_iload_n 3 40 C (by decide +kernel) rfl rfl ?_
        refine zr_bipush (v := 23) 23 42 C (by decide +kernel) rfl rfl ?_
        refine zr_icmp_ge (off := 15) 57 45 C (by decide +kernel) (by decide) rfl hf (fun hf => ?_) (fun hf => ?_)
        · refine zr_iconst (v := 0) 0 58 C (by decide +kernel) rfl rfl ?_
          refine zr_less (zA (zA (zA (zN zE)))) ?_
          exact w_Rk_worth_58 C T E H7 _ _ _ _ hf
        · refine zr_aload_n 0 46 C (by decide +kernel) rfl rfl ?_
          refine xg_11_0 (idx := 9) 49 C (by decide +kernel) rfl q_172 ?_
          refine zr_iload_n 3 50 C (by decide +kernel) rfl rfl ?_
          refine zr_bipush (v := 17) 17 52 C (by decide +kernel) rfl rfl ?_
          refine zr_isub 53 C (by decide +kernel) rfl ?_
          refine xl_34 54 C (by decide +kernel) rfl hf (fun hf => ?_)
          refine zr_goto (off := 4) 58 C (by decide +kernel) (by decide) ?_
          refine zr_less (zA (zA (zA (zN zE)))) ?_
          exact w_Rk_worth_58 C T E H7 _ _ _ _ hf
    · refine zr_aload_n 0 23 C (by decide +kernel) rfl rfl ?_
      refine zr_aload_n 1 24 C (by decide +kernel) rfl rfl ?_
      refine zr_iload_n 2 25 C (by decide +kernel) rfl rfl ?_
      refine xl_text 26 C (by decide +kernel) rfl hf (fun hf => ?_)
      refine k_Rk_push (idx := 22) 29 C E (by decide +kernel) rfl q_546 (zb2 rfl rfl) (Nat.le_of_ble_eq_true rfl) hf (fun _ σ3 hf => ?_)
      refine zr_goto (off := 60) 89 C (by decide +kernel) (by decide) ?_
      refine zr_less (zA (zA (zA (zN zE)))) ?_
      exact w_Rk_worth_89 C T E H7 _ _ _ hf
def f_Rk_worth_7  : Nat → Nat → Int32 → zS → Option (Int32 × zS)
  | 0, _, _, _ => none
  | n + 1, x1, x2,  σ => f_Rk_worth_7b (fun x1 x2 σ => f_Rk_worth_7  n x1 x2 σ) x1 x2 σ
theorem w_Rk_worth_7 {l : Launch} {d : zD} {F : zF} {h : Nat → Nat} {out : Int32 × zS} {ad av : Nat → Nat}   (C : zOk d F RX5 cX5_worth 4 1 23) (T : zRt d F (some .int) (some (.int out.1)) (XW d h out.2)) (E : zXe d ad av)  : ∀ (n : Nat) (x1 : Nat) (x2 : Int32) (σ : zS), f_Rk_worth_7  n x1 x2 σ = some out → V l d F 0 0 (XW d h σ) [some (.ref (h 11)), some (.ref (h x1)), some (.int x2), none] 7 [] := by
  intro n
  induction n with
  | zero =>
    intro x1 x2 σ hf
    cases hf
  | succ n ih =>
    intro x1 x2 σ hf
    exact w_Rk_worth_7b C T E ih x1 x2 σ hf
def f_Rk_worth (p1 : Nat) (σ : zS) : Option (Int32 × zS) :=
  zlt (zsg σ 1102 0) fun σ1 =>
  f_Rk_worth_7 zfu p1 0 σ1
set_option maxRecDepth 4000 in
theorem m_Rk_worth {l : Launch} {d : zD} {h : Nat → Nat} {out : Int32 × zS} {σ : zS} {ad av : Nat → Nat} {p1 : Nat} (E : zXe d ad av) (hf : f_Rk_worth p1 σ = some out) : zM l yX5_worth cX5_worth 4 (some .int) 1 23 d [.ref (h 11), .ref (h p1)] (XW d h σ) (XW d h out.2) (some (.int out.1)) := by
  refine zM_of [some (.ref (h 11)), some (.ref (h p1)), none, none] (by decide +kernel) rfl (Nat.le_of_ble_eq_true rfl) (fun F C T => ?_)
  unfold f_Rk_worth at hf
  refine zr_aload_n 0 1 C (by decide +kernel) rfl rfl ?_
  refine zr_iconst (v := 0) 0 2 C (by decide +kernel) rfl rfl ?_
  refine xp_11_2 (idx := 18) 5 C (by decide +kernel) rfl q_174 hf (fun σ1 hf => ?_)
  refine zr_iconst (v := 0) 0 6 C (by decide +kernel) rfl rfl ?_
  refine zr_istore_n 2 [some (.ref (h 11)), some (.ref (h p1)), some (.int 0), none] 7 C (by decide +kernel) rfl (by decide) rfl rfl ?_
  exact w_Rk_worth_7 C T E zfu _ _ _ hf
theorem y_Rk_worth : zY yX5_worth cX5_worth 4 (some .int) 1 := ⟨q_545, q_76, by decide +kernel, by decide +kernel, by decide +kernel⟩
theorem k_Rk_worth {l : Launch} {d : zD} {F : zF} {h : Nat → Nat} {σ : zS} {lv : List (Option Value)} {pc : Nat} {own : String} {cc : ByteArray} {nL fr lo idx : Nat} {rest : List Value} {β : Type} {kf : Int32 → zS → Option β} {o2 : β} {ad av : Nat → Nat}  {p1 : Nat} (pc' : Nat) (C : zOk d F own cc nL fr lo) (E : zXe d ad av) (hd : decode cc pc = .ok (.invokevirtual idx, 3)) (hp : pc + 3 = pc') (hq : Cond.methodLink own idx yX5_worth ∈ zW) (hm : 1 + 1 ≤ fr ∧ 8 + (4 + 11) + 23 ≤ lo) (hr : (rest.map fun v => v.category).sum ≤ 8) (hf : zbd (f_Rk_worth p1 σ) kf = some o2) (K : ∀ (r : Int32) (σ' : zS), kf r σ' = some o2 → V l d F 0 0 (XW d h σ') lv pc' (.int r :: rest)) : V l d F 0 0 (XW d h σ) lv pc (.ref (h p1) :: .ref (h 11) :: rest) := by
  obtain ⟨q, h1, h2⟩ := zbd_some hf
  exact zr_callV y_Rk_worth ⟨q_543, q_544⟩ 11 rfl rfl (As := [.ref (h p1)]) (m_Rk_worth E h1) rfl rfl pc' C hd hp hq hm hr (K _ _ h2)
/-! StepsBeyond$Village.knows(I)Z -/
def f_Vi_knows (p1 : Int32) (σ : zS) : Option (Int32 × zS) :=
  (if p1 < 0 then
  some (0, σ)
  else
  (if (σ.1 307) ≤ p1 then
  some (0, σ)
  else
  some (1, σ)))
set_option maxRecDepth 4000 in
theorem m_Vi_knows {l : Launch} {d : zD} {h : Nat → Nat} {out : Int32 × zS} {σ : zS} {ad av : Nat → Nat} {p1 : Int32} (E : zXe d ad av) (hf : f_Vi_knows p1 σ = some out) : zM l yX9_knows cX9_knows 2 (some .boolean) 0 0 d [.ref (h 3), .int p1] (XW d h σ) (XW d h out.2) (some (.int out.1)) := by
  refine zM_of [some (.ref (h 3)), some (.int p1)] (by decide +kernel) rfl (Nat.le_of_ble_eq_true rfl) (fun F C T => ?_)
  unfold f_Vi_knows at hf
  refine zr_iload_n 1 1 C (by decide +kernel) rfl rfl ?_
  refine zr_if_lt (off := 15) 16 4 C (by decide +kernel) (by decide) rfl hf (fun hf => ?_) (fun hf => ?_)
  · refine zr_iconst (v := 0) 0 17 C (by decide +kernel) rfl rfl ?_
    obtain rfl := Option.some.inj hf
    exact zr_zret C (by decide +kernel) rfl T
  · refine zr_iload_n 1 5 C (by decide +kernel) rfl rfl ?_
    refine zr_aload_n 0 6 C (by decide +kernel) rfl rfl ?_
    refine xg_3_7 (idx := 37) 9 C (by decide +kernel) rfl q_192 ?_
    refine zr_icmp_ge (off := 7) 16 12 C (by decide +kernel) (by decide) rfl hf (fun hf => ?_) (fun hf => ?_)
    · refine zr_iconst (v := 0) 0 17 C (by decide +kernel) rfl rfl ?_
      obtain rfl := Option.some.inj hf
      exact zr_zret C (by decide +kernel) rfl T
    · refine zr_iconst (v := 1) 1 13 C (by decide +kernel) rfl rfl ?_
      refine zr_goto (off := 4) 17 C (by decide +kernel) (by decide) ?_
      obtain rfl := Option.some.inj hf
      exact zr_zret C (by decide +kernel) rfl T
theorem y_Vi_knows : zY yX9_knows cX9_knows 2 (some .boolean) 1 := ⟨q_632, q_75, by decide +kernel, by decide +kernel, by decide +kernel⟩
theorem k_Vi_knows {l : Launch} {d : zD} {F : zF} {h : Nat → Nat} {σ : zS} {lv : List (Option Value)} {pc : Nat} {own : String} {cc : ByteArray} {nL fr lo idx : Nat} {rest : List Value} {β : Type} {kf : Int32 → zS → Option β} {o2 : β} {ad av : Nat → Nat}  {p1 : Int32} (pc' : Nat) (C : zOk d F own cc nL fr lo) (E : zXe d ad av) (hd : decode cc pc = .ok (.invokevirtual idx, 3)) (hp : pc + 3 = pc') (hq : Cond.methodLink own idx yX9_knows ∈ zW) (hm : 0 + 1 ≤ fr ∧ 8 + (2 + 11) + 0 ≤ lo) (hr : (rest.map fun v => v.category).sum ≤ 8) (hf : zbd (f_Vi_knows p1 σ) kf = some o2) (K : ∀ (r : Int32) (σ' : zS), kf r σ' = some o2 → V l d F 0 0 (XW d h σ') lv pc' (.int r :: rest)) : V l d F 0 0 (XW d h σ) lv pc (.int p1 :: .ref (h 3) :: rest) := by
  obtain ⟨q, h1, h2⟩ := zbd_some hf
  exact zr_callV y_Vi_knows ⟨q_630, q_631⟩ 3 rfl rfl (As := [.int p1]) (m_Vi_knows E h1) rfl rfl pc' C hd hp hq hm hr (K _ _ h2)
/-! StepsBeyond$Village.areNear(III)Z -/
def f_Vi_areNear (p1 : Int32) (p2 : Int32) (p3 : Int32) (σ : zS) : Option (Int32 × zS) :=
  zin p3 20 (zlt ((zrem p1 40) - (zrem (σ.2 17 p3.toNatClampNeg) 40)) fun v1 => 
  zin p3 20 (zlt ((p1 / 40) - ((σ.2 17 p3.toNatClampNeg) / 40)) fun v2 => 
  zin p3 20 (zbd (f_Rk_tellPair ((v1 * v1) + (v2 * v2)) ((zabs v1) + (zabs v2)) (p2 + (σ.2 18 p3.toNatClampNeg)) σ) fun _ σ3 =>
  zbd (f_Rk_tellAll (σ3.1 307) 0 (σ3.1 308) σ3) fun _ σ4 =>
  zbd (f_Rk_worth ((σ4.1 305).toNatClampNeg) σ4) fun r6 σ5 =>
  (if r6 = 0 then
  some (0, σ5)
  else
  some (1, σ5)))))
set_option maxRecDepth 4000 in
theorem m_Vi_areNear {l : Launch} {d : zD} {h : Nat → Nat} {out : Int32 × zS} {σ : zS} {ad av : Nat → Nat} {p1 : Int32} {p2 : Int32} {p3 : Int32} (E : zXe d ad av) (hf : f_Vi_areNear p1 p2 p3 σ = some out) : zM l yX9_areNear cX9_areNear 6 (some .boolean) 2 46 d [.ref (h 3), .int p1, .int p2, .int p3] (XW d h σ) (XW d h out.2) (some (.int out.1)) := by
  refine zM_of [some (.ref (h 3)), some (.int p1), some (.int p2), some (.int p3), none, none] (by decide +kernel) rfl (Nat.le_of_ble_eq_true rfl) (fun F C T => ?_)
  unfold f_Vi_areNear at hf
  refine zr_iload_n 1 1 C (by decide +kernel) rfl rfl ?_
  refine zr_bipush (v := 40) 40 3 C (by decide +kernel) rfl rfl ?_
  refine zr_irem 4 C (by decide +kernel) rfl (by decide) ?_
  refine zr_aload_n 0 5 C (by decide +kernel) rfl rfl ?_
  refine xg_3_0 (idx := 9) 8 C (by decide +kernel) rfl q_182 ?_
  refine zr_iload_n 3 9 C (by decide +kernel) rfl rfl ?_
  refine xl_17 10 C (by decide +kernel) rfl hf (fun hf => ?_)
  refine zr_bipush (v := 40) 40 12 C (by decide +kernel) rfl rfl ?_
  refine zr_irem 13 C (by decide +kernel) rfl (by decide) ?_
  refine zr_isub 14 C (by decide +kernel) rfl ?_
  refine zr_name hf (fun v1 hf => ?_)
  refine zr_istore 4 [some (.ref (h 3)), some (.int p1), some (.int p2), some (.int p3), some (.int v1), none] 16 C (by decide +kernel) rfl (by decide) rfl rfl ?_
  refine zr_iload_n 1 17 C (by decide +kernel) rfl rfl ?_
  refine zr_bipush (v := 40) 40 19 C (by decide +kernel) rfl rfl ?_
  refine zr_idiv 20 C (by decide +kernel) rfl (by decide) ?_
  refine zr_aload_n 0 21 C (by decide +kernel) rfl rfl ?_
  refine xg_3_0 (idx := 9) 24 C (by decide +kernel) rfl q_182 ?_
  refine zr_iload_n 3 25 C (by decide +kernel) rfl rfl ?_
  refine xl_17 26 C (by decide +kernel) rfl hf (fun hf => ?_)
  refine zr_bipush (v := 40) 40 28 C (by decide +kernel) rfl rfl ?_
  refine zr_idiv 29 C (by decide +kernel) rfl (by decide) ?_
  refine zr_isub 30 C (by decide +kernel) rfl ?_
  refine zr_name hf (fun v2 hf => ?_)
  refine zr_istore 5 [some (.ref (h 3)), some (.int p1), some (.int p2), some (.int p3), some (.int v1), some (.int v2)] 32 C (by decide +kernel) rfl (by decide) rfl rfl ?_
  refine zr_aload_n 0 33 C (by decide +kernel) rfl rfl ?_
  refine xg_3_4 (idx := 27) 36 C (by decide +kernel) rfl q_189 ?_
  refine zr_iload 4 38 C (by decide +kernel) rfl rfl ?_
  refine zr_iload 4 40 C (by decide +kernel) rfl rfl ?_
  refine zr_imul 41 C (by decide +kernel) rfl ?_
  refine zr_iload 5 43 C (by decide +kernel) rfl rfl ?_
  refine zr_iload 5 45 C (by decide +kernel) rfl rfl ?_
  refine zr_imul 46 C (by decide +kernel) rfl ?_
  refine zr_iadd 47 C (by decide +kernel) rfl ?_
  refine zr_iload 4 49 C (by decide +kernel) rfl rfl ?_
  refine zr_mabs (idx := 54) 52 C (by decide +kernel) rfl q_531 (zb2 rfl rfl) (Nat.le_of_ble_eq_true rfl) ?_
  refine zr_iload 5 54 C (by decide +kernel) rfl rfl ?_
  refine zr_mabs (idx := 54) 57 C (by decide +kernel) rfl q_531 (zb2 rfl rfl) (Nat.le_of_ble_eq_true rfl) ?_
  refine zr_iadd 58 C (by decide +kernel) rfl ?_
  refine zr_iload_n 2 59 C (by decide +kernel) rfl rfl ?_
  refine zr_aload_n 0 60 C (by decide +kernel) rfl rfl ?_
  refine xg_3_1 (idx := 15) 63 C (by decide +kernel) rfl q_184 ?_
  refine zr_iload_n 3 64 C (by decide +kernel) rfl rfl ?_
  refine xl_18 65 C (by decide +kernel) rfl hf (fun hf => ?_)
  refine zr_iadd 66 C (by decide +kernel) rfl ?_
  refine k_Rk_tellPair (idx := 60) 69 C E (by decide +kernel) rfl q_534 (zb2 rfl rfl) (Nat.le_of_ble_eq_true rfl) hf (fun _ σ3 hf => ?_)
  refine zr_aload_n 0 70 C (by decide +kernel) rfl rfl ?_
  refine xg_3_4 (idx := 27) 73 C (by decide +kernel) rfl q_189 ?_
  refine zr_aload_n 0 74 C (by decide +kernel) rfl rfl ?_
  refine xg_3_7 (idx := 37) 77 C (by decide +kernel) rfl q_192 ?_
  refine zr_iconst (v := 0) 0 78 C (by decide +kernel) rfl rfl ?_
  refine zr_aload_n 0 79 C (by decide +kernel) rfl rfl ?_
  refine xg_3_8 (idx := 64) 82 C (by decide +kernel) rfl q_194 ?_
  refine k_Rk_tellAll (idx := 67) 85 C E (by decide +kernel) rfl q_538 (zb2 rfl rfl) (Nat.le_of_ble_eq_true rfl) hf (fun _ σ4 hf => ?_)
  refine zr_aload_n 0 86 C (by decide +kernel) rfl rfl ?_
  refine xg_3_4 (idx := 27) 89 C (by decide +kernel) rfl q_189 ?_
  refine zr_aload_n 0 90 C (by decide +kernel) rfl rfl ?_
  refine xg_3_5 (idx := 31) 93 C (by decide +kernel) rfl q_190 ?_
  refine k_Rk_worth (idx := 70) 96 C E (by decide +kernel) rfl q_542 (zb2 rfl rfl) (Nat.le_of_ble_eq_true rfl) hf (fun r6 σ5 hf => ?_)
  refine zr_if_eq (off := 7) 103 99 C (by decide +kernel) (by decide) rfl hf (fun hf => ?_) (fun hf => ?_)
  · refine zr_iconst (v := 0) 0 104 C (by decide +kernel) rfl rfl ?_
    obtain rfl := Option.some.inj hf
    exact zr_zret C (by decide +kernel) rfl T
  · refine zr_iconst (v := 1) 1 100 C (by decide +kernel) rfl rfl ?_
    refine zr_goto (off := 4) 104 C (by decide +kernel) (by decide) ?_
    obtain rfl := Option.some.inj hf
    exact zr_zret C (by decide +kernel) rfl T
theorem y_Vi_areNear : zY yX9_areNear cX9_areNear 6 (some .boolean) 3 := ⟨q_530, q_75, by decide +kernel, by decide +kernel, by decide +kernel⟩
theorem k_Vi_areNear {l : Launch} {d : zD} {F : zF} {h : Nat → Nat} {σ : zS} {lv : List (Option Value)} {pc : Nat} {own : String} {cc : ByteArray} {nL fr lo idx : Nat} {rest : List Value} {β : Type} {kf : Int32 → zS → Option β} {o2 : β} {ad av : Nat → Nat}  {p1 : Int32} {p2 : Int32} {p3 : Int32} (pc' : Nat) (C : zOk d F own cc nL fr lo) (E : zXe d ad av) (hd : decode cc pc = .ok (.invokevirtual idx, 3)) (hp : pc + 3 = pc') (hq : Cond.methodLink own idx yX9_areNear ∈ zW) (hm : 2 + 1 ≤ fr ∧ 8 + (6 + 11) + 46 ≤ lo) (hr : (rest.map fun v => v.category).sum ≤ 8) (hf : zbd (f_Vi_areNear p1 p2 p3 σ) kf = some o2) (K : ∀ (r : Int32) (σ' : zS), kf r σ' = some o2 → V l d F 0 0 (XW d h σ') lv pc' (.int r :: rest)) : V l d F 0 0 (XW d h σ) lv pc (.int p3 :: .int p2 :: .int p1 :: .ref (h 3) :: rest) := by
  obtain ⟨q, h1, h2⟩ := zbd_some hf
  exact zr_callV y_Vi_areNear ⟨q_529, q_13⟩ 3 rfl rfl (As := [.int p1, .int p2, .int p3]) (m_Vi_areNear E h1) rfl rfl pc' C hd hp hq hm hr (K _ _ h2)
/-! StepsBeyond$Village.joinAll()V -/
def f_Vi_joinAll_69 (k10 : Int32 → zS → Option (Int32 × zS)) (k20 : Int32 → Int32 → zS → Option (Int32 × zS)) (x1 : Int32) (x2 : Int32) (σ : zS) : Option (Int32 × zS) :=
  k20 x1 (x2 + 1) σ
set_option maxRecDepth 4000 in
theorem w_Vi_joinAll_69 {l : Launch} {d : zD} {F : zF} {h : Nat → Nat} {out : Int32 × zS} {ad av : Nat → Nat}  {k10 : Int32 → zS → Option (Int32 × zS)} {k20 : Int32 → Int32 → zS → Option (Int32 × zS)} (C : zOk d F RX9 cX9_joinAll 3 3 71) (T : zRt d F none none (XW d h out.2)) (E : zXe d ad av) (H10 : ∀ (x1 : Int32) (σ : zS), k10 x1 σ = some out → V l d F 0 0 (XW d h σ) [some (.ref (h 3)), some (.int x1), none] 10 []) (H20 : ∀ (x1 : Int32) (x2 : Int32) (σ : zS), k20 x1 x2 σ = some out → V l d F 0 0 (XW d h σ) [some (.ref (h 3)), some (.int x1), some (.int x2)] 20 []) (x1 : Int32) (x2 : Int32) (σ : zS) (hf : f_Vi_joinAll_69 k10 k20 x1 x2 σ = some out) : V l d F 0 0 (XW d h σ) [some (.ref (h 3)), some (.int x1), some (.int x2)] 69 [] := by
  unfold f_Vi_joinAll_69 at hf
  refine zr_iinc (j := 1) 2 [some (.ref (h 3)), some (.int x1), some (.int (x2 + 1))] 72 C (by decide +kernel) rfl rfl rfl (by decide) rfl rfl ?_
  refine zr_goto (off := -52) 20 C (by decide +kernel) (by decide) ?_
  exact H20 _ _ _ hf
def f_Vi_joinAll_20b (k10 : Int32 → zS → Option (Int32 × zS)) (k20 : Int32 → Int32 → zS → Option (Int32 × zS)) (x1 : Int32) (x2 : Int32) (σ : zS) : Option (Int32 × zS) :=
  (if x1 ≤ x2 then
  k10 (x1 + 1) σ
  else
  zin x1 20 (zin x1 20 (zbd (f_Vi_areNear (σ.2 17 x1.toNatClampNeg) (σ.2 18 x1.toNatClampNeg) x2 σ) fun r2 σ1 =>
  (if r2 = 0 then
  f_Vi_joinAll_69 k10 k20 x1 x2 σ1
  else
  zin x1 20 (zin x1 20 (zlt (zsa σ1 19 x1 ((σ1.2 19 x1.toNatClampNeg) ||| (zshl 1 x2))) fun σ3 =>
  zin x2 20 (zin x2 20 (zlt (zsa σ3 19 x2 ((σ3.2 19 x2.toNatClampNeg) ||| (zshl 1 x1))) fun σ4 =>
  f_Vi_joinAll_69 k10 k20 x1 x2 σ4))))))))
set_option maxRecDepth 4000 in
theorem w_Vi_joinAll_20b {l : Launch} {d : zD} {F : zF} {h : Nat → Nat} {out : Int32 × zS} {ad av : Nat → Nat}  {k10 : Int32 → zS → Option (Int32 × zS)} {k20 : Int32 → Int32 → zS → Option (Int32 × zS)} (C : zOk d F RX9 cX9_joinAll 3 3 71) (T : zRt d F none none (XW d h out.2)) (E : zXe d ad av) (H10 : ∀ (x1 : Int32) (σ : zS), k10 x1 σ = some out → V l d F 0 0 (XW d h σ) [some (.ref (h 3)), some (.int x1), none] 10 []) (H20 : ∀ (x1 : Int32) (x2 : Int32) (σ : zS), k20 x1 x2 σ = some out → V l d F 0 0 (XW d h σ) [some (.ref (h 3)), some (.int x1), some (.int x2)] 20 []) (x1 : Int32) (x2 : Int32) (σ : zS) (hf : f_Vi_joinAll_20b k10 k20 x1 x2 σ = some out) : V l d F 0 0 (XW d h σ) [some (.ref (h 3)), some (.int x1), some (.int x2)] 20 [] := by
  unfold f_Vi_joinAll_20b at hf
  refine zr_iload_n 2 21 C (by decide +kernel) rfl rfl ?_
  refine zr_iload_n 1 22 C (by decide +kernel) rfl rfl ?_
  refine zr_icmp_ge (off := 53) 75 25 C (by decide +kernel) (by decide) rfl hf (fun hf => ?_) (fun hf => ?_)
  · refine zr_iinc (j := 1) 1 [some (.ref (h 3)), some (.int (x1 + 1)), some (.int x2)] 78 C (by decide +kernel) rfl rfl rfl (by decide) rfl rfl ?_
    refine zr_goto (off := -68) 10 C (by decide +kernel) (by decide) ?_
    refine zr_less (zA (zA (zN zE))) ?_
    exact H10 _ _ hf
  · refine zr_aload_n 0 26 C (by decide +kernel) rfl rfl ?_
    refine zr_aload_n 0 27 C (by decide +kernel) rfl rfl ?_
    refine xg_3_0 (idx := 9) 30 C (by decide +kernel) rfl q_182 ?_
    refine zr_iload_n 1 31 C (by decide +kernel) rfl rfl ?_
    refine xl_17 32 C (by decide +kernel) rfl hf (fun hf => ?_)
    refine zr_aload_n 0 33 C (by decide +kernel) rfl rfl ?_
    refine xg_3_1 (idx := 15) 36 C (by decide +kernel) rfl q_184 ?_
    refine zr_iload_n 1 37 C (by decide +kernel) rfl rfl ?_
    refine xl_18 38 C (by decide +kernel) rfl hf (fun hf => ?_)
    refine zr_iload_n 2 39 C (by decide +kernel) rfl rfl ?_
    refine k_Vi_areNear (idx := 50) 42 C E (by decide +kernel) rfl q_527 (zb2 rfl rfl) (Nat.le_of_ble_eq_true rfl) hf (fun r2 σ1 hf => ?_)
    refine zr_if_eq (off := 27) 69 45 C (by decide +kernel) (by decide) rfl hf (fun hf => ?_) (fun hf => ?_)
    · exact w_Vi_joinAll_69 C T E H10 H20 _ _ _ hf
    · refine zr_aload_n 0 46 C (by decide +kernel) rfl rfl ?_
      refine xg_3_2 (idx := 18) 49 C (by decide +kernel) rfl q_186 ?_
      refine zr_iload_n 1 50 C (by decide +kernel) rfl rfl ?_
      refine zr_dup2 51 C (by decide +kernel) rfl rfl rfl ?_
      refine xl_19 52 C (by decide +kernel) rfl hf (fun hf => ?_)
      refine zr_iconst (v := 1) 1 53 C (by decide +kernel) rfl rfl ?_
      refine zr_iload_n 2 54 C (by decide +kernel) rfl rfl ?_
      refine zr_ishl 55 C (by decide +kernel) rfl ?_
      refine zr_ior 56 C (by decide +kernel) rfl ?_
      refine xs_19 57 C (by decide +kernel) rfl hf (fun σ3 hf => ?_)
      refine zr_aload_n 0 58 C (by decide +kernel) rfl rfl ?_
      refine xg_3_2 (idx := 18) 61 C (by decide +kernel) rfl q_186 ?_
      refine zr_iload_n 2 62 C (by decide +kernel) rfl rfl ?_
      refine zr_dup2 63 C (by decide +kernel) rfl rfl rfl ?_
      refine xl_19 64 C (by decide +kernel) rfl hf (fun hf => ?_)
      refine zr_iconst (v := 1) 1 65 C (by decide +kernel) rfl rfl ?_
      refine zr_iload_n 1 66 C (by decide +kernel) rfl rfl ?_
      refine zr_ishl 67 C (by decide +kernel) rfl ?_
      refine zr_ior 68 C (by decide +kernel) rfl ?_
      refine xs_19 69 C (by decide +kernel) rfl hf (fun σ4 hf => ?_)
      exact w_Vi_joinAll_69 C T E H10 H20 _ _ _ hf
def f_Vi_joinAll_20 (k10 : Int32 → zS → Option (Int32 × zS)) : Nat → Int32 → Int32 → zS → Option (Int32 × zS)
  | 0, _, _, _ => none
  | n + 1, x1, x2,  σ => f_Vi_joinAll_20b k10 (fun x1 x2 σ => f_Vi_joinAll_20 k10 n x1 x2 σ) x1 x2 σ
theorem w_Vi_joinAll_20 {l : Launch} {d : zD} {F : zF} {h : Nat → Nat} {out : Int32 × zS} {ad av : Nat → Nat}  {k10 : Int32 → zS → Option (Int32 × zS)} (C : zOk d F RX9 cX9_joinAll 3 3 71) (T : zRt d F none none (XW d h out.2)) (E : zXe d ad av) (H10 : ∀ (x1 : Int32) (σ : zS), k10 x1 σ = some out → V l d F 0 0 (XW d h σ) [some (.ref (h 3)), some (.int x1), none] 10 []) : ∀ (n : Nat) (x1 : Int32) (x2 : Int32) (σ : zS), f_Vi_joinAll_20 k10 n x1 x2 σ = some out → V l d F 0 0 (XW d h σ) [some (.ref (h 3)), some (.int x1), some (.int x2)] 20 [] := by
  intro n
  induction n with
  | zero =>
    intro x1 x2 σ hf
    cases hf
  | succ n ih =>
    intro x1 x2 σ hf
    exact w_Vi_joinAll_20b C T E H10 ih x1 x2 σ hf
def f_Vi_joinAll_10b (k10 : Int32 → zS → Option (Int32 × zS)) (x1 : Int32) (σ : zS) : Option (Int32 × zS) :=
  (if (σ.1 307) ≤ x1 then
  some (0, σ)
  else
  f_Vi_joinAll_20 k10 zfu x1 0 σ)
set_option maxRecDepth 4000 in
theorem w_Vi_joinAll_10b {l : Launch} {d : zD} {F : zF} {h : Nat → Nat} {out : Int32 × zS} {ad av : Nat → Nat}  {k10 : Int32 → zS → Option (Int32 × zS)} (C : zOk d F RX9 cX9_joinAll 3 3 71) (T : zRt d F none none (XW d h out.2)) (E : zXe d ad av) (H10 : ∀ (x1 : Int32) (σ : zS), k10 x1 σ = some out → V l d F 0 0 (XW d h σ) [some (.ref (h 3)), some (.int x1), none] 10 []) (x1 : Int32) (σ : zS) (hf : f_Vi_joinAll_10b k10 x1 σ = some out) : V l d F 0 0 (XW d h σ) [some (.ref (h 3)), some (.int x1), none] 10 [] := by
  unfold f_Vi_joinAll_10b at hf
  refine zr_iload_n 1 11 C (by decide +kernel) rfl rfl ?_
  refine zr_aload_n 0 12 C (by decide +kernel) rfl rfl ?_
  refine xg_3_7 (idx := 37) 15 C (by decide +kernel) rfl q_192 ?_
  refine zr_icmp_ge (off := 66) 81 18 C (by decide +kernel) (by decide) rfl hf (fun hf => ?_) (fun hf => ?_)
  · obtain rfl := Option.some.inj hf
    exact zr_vret C (by decide +kernel) T
  · refine zr_iconst (v := 0) 0 19 C (by decide +kernel) rfl rfl ?_
    refine zr_istore_n 2 [some (.ref (h 3)), some (.int x1), some (.int 0)] 20 C (by decide +kernel) rfl (by decide) rfl rfl ?_
    exact w_Vi_joinAll_20 C T E H10 zfu _ _ _ hf
def f_Vi_joinAll_10  : Nat → Int32 → zS → Option (Int32 × zS)
  | 0, _, _ => none
  | n + 1, x1,  σ => f_Vi_joinAll_10b (fun x1 σ => f_Vi_joinAll_10  n x1 σ) x1 σ
theorem w_Vi_joinAll_10 {l : Launch} {d : zD} {F : zF} {h : Nat → Nat} {out : Int32 × zS} {ad av : Nat → Nat}   (C : zOk d F RX9 cX9_joinAll 3 3 71) (T : zRt d F none none (XW d h out.2)) (E : zXe d ad av)  : ∀ (n : Nat) (x1 : Int32) (σ : zS), f_Vi_joinAll_10  n x1 σ = some out → V l d F 0 0 (XW d h σ) [some (.ref (h 3)), some (.int x1), none] 10 [] := by
  intro n
  induction n with
  | zero =>
    intro x1 σ hf
    cases hf
  | succ n ih =>
    intro x1 σ hf
    exact w_Vi_joinAll_10b C T E ih x1 σ hf
def f_Vi_joinAll  (σ : zS) : Option (Int32 × zS) :=
  zlt (zsf σ 19 20 0) fun σ1 =>
  f_Vi_joinAll_10 zfu 0 σ1
set_option maxRecDepth 4000 in
theorem m_Vi_joinAll {l : Launch} {d : zD} {h : Nat → Nat} {out : Int32 × zS} {σ : zS} {ad av : Nat → Nat}  (E : zXe d ad av) (hf : f_Vi_joinAll  σ = some out) : zM l yX9_joinAll cX9_joinAll 3 none 3 71 d [.ref (h 3)] (XW d h σ) (XW d h out.2) none := by
  refine zM_of [some (.ref (h 3)), none, none] (by decide +kernel) rfl (Nat.le_of_ble_eq_true rfl) (fun F C T => ?_)
  unfold f_Vi_joinAll at hf
  refine zr_aload_n 0 1 C (by decide +kernel) rfl rfl ?_
  refine xg_3_2 (idx := 18) 4 C (by decide +kernel) rfl q_186 ?_
  refine zr_iconst (v := 0) 0 5 C (by decide +kernel) rfl rfl ?_
  refine xf_19 (idx := 44) 8 C (by decide +kernel) rfl q_526 (zb2 rfl rfl) (Nat.le_of_ble_eq_true rfl) hf (fun σ1 hf => ?_)
  refine zr_iconst (v := 0) 0 9 C (by decide +kernel) rfl rfl ?_
  refine zr_istore_n 1 [some (.ref (h 3)), some (.int 0), none] 10 C (by decide +kernel) rfl (by decide) rfl rfl ?_
  exact w_Vi_joinAll_10 C T E zfu _ _ hf
theorem y_Vi_joinAll : zY yX9_joinAll cX9_joinAll 3 none 0 := ⟨q_525, q_75, by decide +kernel, by decide +kernel, by decide +kernel⟩
theorem k_Vi_joinAll {l : Launch} {d : zD} {F : zF} {h : Nat → Nat} {σ : zS} {lv : List (Option Value)} {pc : Nat} {own : String} {cc : ByteArray} {nL fr lo idx : Nat} {rest : List Value} {β : Type} {kf : Int32 → zS → Option β} {o2 : β} {ad av : Nat → Nat}   (pc' : Nat) (C : zOk d F own cc nL fr lo) (E : zXe d ad av) (hd : decode cc pc = .ok (.invokevirtual idx, 3)) (hp : pc + 3 = pc') (hq : Cond.methodLink own idx yX9_joinAll ∈ zW) (hm : 3 + 1 ≤ fr ∧ 8 + (3 + 11) + 71 ≤ lo) (hr : (rest.map fun v => v.category).sum ≤ 8) (hf : zbd (f_Vi_joinAll  σ) kf = some o2) (K : ∀ (r : Int32) (σ' : zS), kf r σ' = some o2 → V l d F 0 0 (XW d h σ') lv pc' (rest)) : V l d F 0 0 (XW d h σ) lv pc (.ref (h 3) :: rest) := by
  obtain ⟨q, h1, h2⟩ := zbd_some hf
  exact zr_callV y_Vi_joinAll ⟨q_523, q_524⟩ 3 rfl rfl (As := []) (m_Vi_joinAll E h1) rfl rfl pc' C hd hp hq hm hr (K _ _ h2)
/-! StepsBeyond$Village.add(II)I -/
def f_Vi_add (p1 : Int32) (p2 : Int32) (σ : zS) : Option (Int32 × zS) :=
  (if (σ.1 307) < 20 then
  zin (σ.1 307) 20 (zlt (zsa σ 17 (σ.1 307) p1) fun σ1 =>
  zin (σ1.1 307) 20 (zlt (zsa σ1 18 (σ1.1 307) p2) fun σ2 =>
  zlt (zsg σ2 307 ((σ2.1 307) + 1)) fun σ3 =>
  zbd (f_Vi_joinAll  σ3) fun _ σ4 =>
  some ((σ4.1 307) - 1, σ4)))
  else
  some (-4, σ))
set_option maxRecDepth 4000 in
theorem m_Vi_add {l : Launch} {d : zD} {h : Nat → Nat} {out : Int32 × zS} {σ : zS} {ad av : Nat → Nat} {p1 : Int32} {p2 : Int32} (E : zXe d ad av) (hf : f_Vi_add p1 p2 σ = some out) : zM l yX9_add cX9_add 3 (some .int) 4 93 d [.ref (h 3), .int p1, .int p2] (XW d h σ) (XW d h out.2) (some (.int out.1)) := by
  refine zM_of [some (.ref (h 3)), some (.int p1), some (.int p2)] (by decide +kernel) rfl (Nat.le_of_ble_eq_true rfl) (fun F C T => ?_)
  unfold f_Vi_add at hf
  refine zr_aload_n 0 1 C (by decide +kernel) rfl rfl ?_
  refine xg_3_7 (idx := 37) 4 C (by decide +kernel) rfl q_192 ?_
  refine zr_bipush (v := 20) 20 6 C (by decide +kernel) rfl rfl ?_
  refine zr_icmp_lt (off := 6) 12 9 C (by decide +kernel) (by decide) rfl hf (fun hf => ?_) (fun hf => ?_)
  · refine zr_aload_n 0 13 C (by decide +kernel) rfl rfl ?_
    refine xg_3_0 (idx := 9) 16 C (by decide +kernel) rfl q_182 ?_
    refine zr_aload_n 0 17 C (by decide +kernel) rfl rfl ?_
    refine xg_3_7 (idx := 37) 20 C (by decide +kernel) rfl q_192 ?_
    refine zr_iload_n 1 21 C (by decide +kernel) rfl rfl ?_
    refine xs_17 22 C (by decide +kernel) rfl hf (fun σ1 hf => ?_)
    refine zr_aload_n 0 23 C (by decide +kernel) rfl rfl ?_
    refine xg_3_1 (idx := 15) 26 C (by decide +kernel) rfl q_184 ?_
    refine zr_aload_n 0 27 C (by decide +kernel) rfl rfl ?_
    refine xg_3_7 (idx := 37) 30 C (by decide +kernel) rfl q_192 ?_
    refine zr_iload_n 2 31 C (by decide +kernel) rfl rfl ?_
    refine xs_18 32 C (by decide +kernel) rfl hf (fun σ2 hf => ?_)
    refine zr_aload_n 0 33 C (by decide +kernel) rfl rfl ?_
    refine zr_dup 34 C (by decide +kernel) rfl rfl ?_
    refine xg_3_7 (idx := 37) 37 C (by decide +kernel) rfl q_192 ?_
    refine zr_iconst (v := 1) 1 38 C (by decide +kernel) rfl rfl ?_
    refine zr_iadd 39 C (by decide +kernel) rfl ?_
    refine xp_3_7 (idx := 37) 42 C (by decide +kernel) rfl q_192 hf (fun σ3 hf => ?_)
    refine zr_aload_n 0 43 C (by decide +kernel) rfl rfl ?_
    refine k_Vi_joinAll (idx := 41) 46 C E (by decide +kernel) rfl q_522 (zb2 rfl rfl) (Nat.le_of_ble_eq_true rfl) hf (fun _ σ4 hf => ?_)
    refine zr_aload_n 0 47 C (by decide +kernel) rfl rfl ?_
    refine xg_3_7 (idx := 37) 50 C (by decide +kernel) rfl q_192 ?_
    refine zr_iconst (v := 1) 1 51 C (by decide +kernel) rfl rfl ?_
    refine zr_isub 52 C (by decide +kernel) rfl ?_
    obtain rfl := Option.some.inj hf
    exact zr_iret C (by decide +kernel) T
  · refine zr_bipush (v := (-4)) (-4) 11 C (by decide +kernel) rfl rfl ?_
    obtain rfl := Option.some.inj hf
    exact zr_iret C (by decide +kernel) T
theorem y_Vi_add : zY yX9_add cX9_add 3 (some .int) 2 := ⟨q_624, q_75, by decide +kernel, by decide +kernel, by decide +kernel⟩
theorem k_Vi_add {l : Launch} {d : zD} {F : zF} {h : Nat → Nat} {σ : zS} {lv : List (Option Value)} {pc : Nat} {own : String} {cc : ByteArray} {nL fr lo idx : Nat} {rest : List Value} {β : Type} {kf : Int32 → zS → Option β} {o2 : β} {ad av : Nat → Nat}  {p1 : Int32} {p2 : Int32} (pc' : Nat) (C : zOk d F own cc nL fr lo) (E : zXe d ad av) (hd : decode cc pc = .ok (.invokevirtual idx, 3)) (hp : pc + 3 = pc') (hq : Cond.methodLink own idx yX9_add ∈ zW) (hm : 4 + 1 ≤ fr ∧ 8 + (3 + 11) + 93 ≤ lo) (hr : (rest.map fun v => v.category).sum ≤ 8) (hf : zbd (f_Vi_add p1 p2 σ) kf = some o2) (K : ∀ (r : Int32) (σ' : zS), kf r σ' = some o2 → V l d F 0 0 (XW d h σ') lv pc' (.int r :: rest)) : V l d F 0 0 (XW d h σ) lv pc (.int p2 :: .int p1 :: .ref (h 3) :: rest) := by
  obtain ⟨q, h1, h2⟩ := zbd_some hf
  exact zr_callV y_Vi_add ⟨q_622, q_623⟩ 3 rfl rfl (As := [.int p1, .int p2]) (m_Vi_add E h1) rfl rfl pc' C hd hp hq hm hr (K _ _ h2)
/-! StepsBeyond$Village.obey([I[I)V -/
def f_Vi_obey (p1 : Nat) (p2 : Nat) (σ : zS) : Option (Int32 × zS) :=
  zsm p1 (zlt (zsg σ 305 (nI p1)) fun σ1 =>
  zsm p2 (zlt (zsg σ1 306 (nI p2)) fun σ2 =>
  zbd (f_Vi_joinAll  σ2) fun _ σ3 =>
  some (0, σ3)))
set_option maxRecDepth 4000 in
theorem m_Vi_obey {l : Launch} {d : zD} {h : Nat → Nat} {out : Int32 × zS} {σ : zS} {ad av : Nat → Nat} {p1 : Nat} {p2 : Nat} (E : zXe d ad av) (hf : f_Vi_obey p1 p2 σ = some out) : zM l yX9_obey cX9_obey 3 none 4 93 d [.ref (h 3), .ref (h p1), .ref (h p2)] (XW d h σ) (XW d h out.2) none := by
  refine zM_of [some (.ref (h 3)), some (.ref (h p1)), some (.ref (h p2))] (by decide +kernel) rfl (Nat.le_of_ble_eq_true rfl) (fun F C T => ?_)
  unfold f_Vi_obey at hf
  refine zr_aload_n 0 1 C (by decide +kernel) rfl rfl ?_
  refine zr_aload_n 1 2 C (by decide +kernel) rfl rfl ?_
  refine xp_near (idx := 31) 5 C (by decide +kernel) rfl q_190 hf (fun σ1 hf => ?_)
  refine zr_aload_n 0 6 C (by decide +kernel) rfl rfl ?_
  refine zr_aload_n 2 7 C (by decide +kernel) rfl rfl ?_
  refine xp_far (idx := 34) 10 C (by decide +kernel) rfl q_191 hf (fun σ2 hf => ?_)
  refine zr_aload_n 0 11 C (by decide +kernel) rfl rfl ?_
  refine k_Vi_joinAll (idx := 41) 14 C E (by decide +kernel) rfl q_522 (zb2 rfl rfl) (Nat.le_of_ble_eq_true rfl) hf (fun _ σ3 hf => ?_)
  obtain rfl := Option.some.inj hf
  exact zr_vret C (by decide +kernel) T
theorem y_Vi_obey : zY yX9_obey cX9_obey 3 none 2 := ⟨q_521, q_75, by decide +kernel, by decide +kernel, by decide +kernel⟩
theorem k_Vi_obey {l : Launch} {d : zD} {F : zF} {h : Nat → Nat} {σ : zS} {lv : List (Option Value)} {pc : Nat} {own : String} {cc : ByteArray} {nL fr lo idx : Nat} {rest : List Value} {β : Type} {kf : Int32 → zS → Option β} {o2 : β} {ad av : Nat → Nat}  {p1 : Nat} {p2 : Nat} (pc' : Nat) (C : zOk d F own cc nL fr lo) (E : zXe d ad av) (hd : decode cc pc = .ok (.invokevirtual idx, 3)) (hp : pc + 3 = pc') (hq : Cond.methodLink own idx yX9_obey ∈ zW) (hm : 4 + 1 ≤ fr ∧ 8 + (3 + 11) + 93 ≤ lo) (hr : (rest.map fun v => v.category).sum ≤ 8) (hf : zbd (f_Vi_obey p1 p2 σ) kf = some o2) (K : ∀ (r : Int32) (σ' : zS), kf r σ' = some o2 → V l d F 0 0 (XW d h σ') lv pc' (rest)) : V l d F 0 0 (XW d h σ) lv pc (.ref (h p2) :: .ref (h p1) :: .ref (h 3) :: rest) := by
  obtain ⟨q, h1, h2⟩ := zbd_some hf
  exact zr_callV y_Vi_obey ⟨q_519, q_520⟩ 3 rfl rfl (As := [.ref (h p1), .ref (h p2)]) (m_Vi_obey E h1) rfl rfl pc' C hd hp hq hm hr (K _ _ h2)
/-! StepsBeyond$Village.farWith(I)I -/
def f_Vi_farWith (p1 : Int32) (σ : zS) : Option (Int32 × zS) :=
  zbd (f_Rk_tellPair 0 0 0 σ) fun _ σ1 =>
  zbd (f_Rk_tellAll (σ1.1 307) p1 (σ1.1 308) σ1) fun _ σ2 =>
  zbd (f_Rk_worth ((σ2.1 306).toNatClampNeg) σ2) fun r4 σ3 =>
  some (zmax 0 (zmin 50 r4), σ3)
set_option maxRecDepth 4000 in
theorem m_Vi_farWith {l : Launch} {d : zD} {h : Nat → Nat} {out : Int32 × zS} {σ : zS} {ad av : Nat → Nat} {p1 : Int32} (E : zXe d ad av) (hf : f_Vi_farWith p1 σ = some out) : zM l yX9_farWith cX9_farWith 2 (some .int) 2 46 d [.ref (h 3), .int p1] (XW d h σ) (XW d h out.2) (some (.int out.1)) := by
  refine zM_of [some (.ref (h 3)), some (.int p1)] (by decide +kernel) rfl (Nat.le_of_ble_eq_true rfl) (fun F C T => ?_)
  unfold f_Vi_farWith at hf
  refine zr_aload_n 0 1 C (by decide +kernel) rfl rfl ?_
  refine xg_3_4 (idx := 27) 4 C (by decide +kernel) rfl q_189 ?_
  refine zr_iconst (v := 0) 0 5 C (by decide +kernel) rfl rfl ?_
  refine zr_iconst (v := 0) 0 6 C (by decide +kernel) rfl rfl ?_
  refine zr_iconst (v := 0) 0 7 C (by decide +kernel) rfl rfl ?_
  refine k_Rk_tellPair (idx := 60) 10 C E (by decide +kernel) rfl q_534 (zb2 rfl rfl) (Nat.le_of_ble_eq_true rfl) hf (fun _ σ1 hf => ?_)
  refine zr_aload_n 0 11 C (by decide +kernel) rfl rfl ?_
  refine xg_3_4 (idx := 27) 14 C (by decide +kernel) rfl q_189 ?_
  refine zr_aload_n 0 15 C (by decide +kernel) rfl rfl ?_
  refine xg_3_7 (idx := 37) 18 C (by decide +kernel) rfl q_192 ?_
  refine zr_iload_n 1 19 C (by decide +kernel) rfl rfl ?_
  refine zr_aload_n 0 20 C (by decide +kernel) rfl rfl ?_
  refine xg_3_8 (idx := 64) 23 C (by decide +kernel) rfl q_194 ?_
  refine k_Rk_tellAll (idx := 67) 26 C E (by decide +kernel) rfl q_538 (zb2 rfl rfl) (Nat.le_of_ble_eq_true rfl) hf (fun _ σ2 hf => ?_)
  refine zr_iconst (v := 0) 0 27 C (by decide +kernel) rfl rfl ?_
  refine zr_bipush (v := 50) 50 29 C (by decide +kernel) rfl rfl ?_
  refine zr_aload_n 0 30 C (by decide +kernel) rfl rfl ?_
  refine xg_3_4 (idx := 27) 33 C (by decide +kernel) rfl q_189 ?_
  refine zr_aload_n 0 34 C (by decide +kernel) rfl rfl ?_
  refine xg_3_6 (idx := 34) 37 C (by decide +kernel) rfl q_191 ?_
  refine k_Rk_worth (idx := 70) 40 C E (by decide +kernel) rfl q_542 (zb2 rfl rfl) (Nat.le_of_ble_eq_true rfl) hf (fun r4 σ3 hf => ?_)
  refine zr_mmin (idx := 74) 43 C (by decide +kernel) rfl q_649 (zb2 rfl rfl) (Nat.le_of_ble_eq_true rfl) ?_
  refine zr_mmax (idx := 78) 46 C (by decide +kernel) rfl q_650 (zb2 rfl rfl) (Nat.le_of_ble_eq_true rfl) ?_
  obtain rfl := Option.some.inj hf
  exact zr_iret C (by decide +kernel) T
theorem y_Vi_farWith : zY yX9_farWith cX9_farWith 2 (some .int) 1 := ⟨q_648, q_75, by decide +kernel, by decide +kernel, by decide +kernel⟩
theorem k_Vi_farWith {l : Launch} {d : zD} {F : zF} {h : Nat → Nat} {σ : zS} {lv : List (Option Value)} {pc : Nat} {own : String} {cc : ByteArray} {nL fr lo idx : Nat} {rest : List Value} {β : Type} {kf : Int32 → zS → Option β} {o2 : β} {ad av : Nat → Nat}  {p1 : Int32} (pc' : Nat) (C : zOk d F own cc nL fr lo) (E : zXe d ad av) (hd : decode cc pc = .ok (.invokevirtual idx, 3)) (hp : pc + 3 = pc') (hq : Cond.methodLink own idx yX9_farWith ∈ zW) (hm : 2 + 1 ≤ fr ∧ 8 + (2 + 11) + 46 ≤ lo) (hr : (rest.map fun v => v.category).sum ≤ 8) (hf : zbd (f_Vi_farWith p1 σ) kf = some o2) (K : ∀ (r : Int32) (σ' : zS), kf r σ' = some o2 → V l d F 0 0 (XW d h σ') lv pc' (.int r :: rest)) : V l d F 0 0 (XW d h σ) lv pc (.int p1 :: .ref (h 3) :: rest) := by
  obtain ⟨q, h1, h2⟩ := zbd_some hf
  exact zr_callV y_Vi_farWith ⟨q_646, q_647⟩ 3 rfl rfl (As := [.int p1]) (m_Vi_farWith E h1) rfl rfl pc' C hd hp hq hm hr (K _ _ h2)
/-! StepsBeyond$Village.spreadFrom(II)I -/
def f_Vi_spreadFrom_50 (k5 : Int32 → Int32 → Int32 → zS → Option (Int32 × zS)) (k18 : Int32 → Int32 → Int32 → Int32 → Int32 → zS → Option (Int32 × zS)) (x2 : Int32) (x3 : Int32) (x4 : Int32) (x5 : Int32) (x6 : Int32) (σ : zS) : Option (Int32 × zS) :=
  k18 x2 x3 x4 x5 (x6 + 1) σ
set_option maxRecDepth 4000 in
theorem w_Vi_spreadFrom_50 {l : Launch} {d : zD} {F : zF} {h : Nat → Nat} {out : Int32 × zS} {ad av : Nat → Nat}  {k5 : Int32 → Int32 → Int32 → zS → Option (Int32 × zS)} {k18 : Int32 → Int32 → Int32 → Int32 → Int32 → zS → Option (Int32 × zS)} (C : zOk d F RX9 cX9_spreadFrom 7 1 21) (T : zRt d F (some .int) (some (.int out.1)) (XW d h out.2)) (E : zXe d ad av) (H5 : ∀ (x2 : Int32) (x3 : Int32) (x4 : Int32) (σ : zS), k5 x2 x3 x4 σ = some out → V l d F 0 0 (XW d h σ) [some (.ref (h 3)), none, some (.int x2), some (.int x3), some (.int x4), none, none] 5 []) (H18 : ∀ (x2 : Int32) (x3 : Int32) (x4 : Int32) (x5 : Int32) (x6 : Int32) (σ : zS), k18 x2 x3 x4 x5 x6 σ = some out → V l d F 0 0 (XW d h σ) [some (.ref (h 3)), none, some (.int x2), some (.int x3), some (.int x4), some (.int x5), some (.int x6)] 18 []) (x2 : Int32) (x3 : Int32) (x4 : Int32) (x5 : Int32) (x6 : Int32) (σ : zS) (hf : f_Vi_spreadFrom_50 k5 k18 x2 x3 x4 x5 x6 σ = some out) : V l d F 0 0 (XW d h σ) [some (.ref (h 3)), none, some (.int x2), some (.int x3), some (.int x4), some (.int x5), some (.int x6)] 50 [] := by
  unfold f_Vi_spreadFrom_50 at hf
  refine zr_iinc (j := 1) 6 [some (.ref (h 3)), none, some (.int x2), some (.int x3), some (.int x4), some (.int x5), some (.int (x6 + 1))] 53 C (by decide +kernel) rfl rfl rfl (by decide) rfl rfl ?_
  refine zr_goto (off := -35) 18 C (by decide +kernel) (by decide) ?_
  exact H18 _ _ _ _ _ _ hf
def f_Vi_spreadFrom_18b (k5 : Int32 → Int32 → Int32 → zS → Option (Int32 × zS)) (k18 : Int32 → Int32 → Int32 → Int32 → Int32 → zS → Option (Int32 × zS)) (x2 : Int32) (x3 : Int32) (x4 : Int32) (x5 : Int32) (x6 : Int32) (σ : zS) : Option (Int32 × zS) :=
  (if (σ.1 307) ≤ x6 then
  (if x5 = x3 then
  some (x3, σ)
  else
  k5 x2 x5 (x4 + 1) σ)
  else
  zbd (f_X_has x3 x6 σ) fun r2 σ1 =>
  (if r2 = 0 then
  f_Vi_spreadFrom_50 k5 k18 x2 x3 x4 x5 x6 σ1
  else
  zin x6 20 (zlt (x5 ||| ((σ1.2 19 x6.toNatClampNeg) &&& x2)) fun v3 => 
  f_Vi_spreadFrom_50 k5 k18 x2 x3 x4 v3 x6 σ1)))
set_option maxRecDepth 4000 in
theorem w_Vi_spreadFrom_18b {l : Launch} {d : zD} {F : zF} {h : Nat → Nat} {out : Int32 × zS} {ad av : Nat → Nat}  {k5 : Int32 → Int32 → Int32 → zS → Option (Int32 × zS)} {k18 : Int32 → Int32 → Int32 → Int32 → Int32 → zS → Option (Int32 × zS)} (C : zOk d F RX9 cX9_spreadFrom 7 1 21) (T : zRt d F (some .int) (some (.int out.1)) (XW d h out.2)) (E : zXe d ad av) (H5 : ∀ (x2 : Int32) (x3 : Int32) (x4 : Int32) (σ : zS), k5 x2 x3 x4 σ = some out → V l d F 0 0 (XW d h σ) [some (.ref (h 3)), none, some (.int x2), some (.int x3), some (.int x4), none, none] 5 []) (H18 : ∀ (x2 : Int32) (x3 : Int32) (x4 : Int32) (x5 : Int32) (x6 : Int32) (σ : zS), k18 x2 x3 x4 x5 x6 σ = some out → V l d F 0 0 (XW d h σ) [some (.ref (h 3)), none, some (.int x2), some (.int x3), some (.int x4), some (.int x5), some (.int x6)] 18 []) (x2 : Int32) (x3 : Int32) (x4 : Int32) (x5 : Int32) (x6 : Int32) (σ : zS) (hf : f_Vi_spreadFrom_18b k5 k18 x2 x3 x4 x5 x6 σ = some out) : V l d F 0 0 (XW d h σ) [some (.ref (h 3)), none, some (.int x2), some (.int x3), some (.int x4), some (.int x5), some (.int x6)] 18 [] := by
  unfold f_Vi_spreadFrom_18b at hf
  refine zr_iload 6 20 C (by decide +kernel) rfl rfl ?_
  refine zr_aload_n 0 21 C (by decide +kernel) rfl rfl ?_
  refine xg_3_7 (idx := 37) 24 C (by decide +kernel) rfl q_192 ?_
  refine zr_icmp_ge (off := 32) 56 27 C (by decide +kernel) (by decide) rfl hf (fun hf => ?_) (fun hf => ?_)
  · refine zr_iload 5 58 C (by decide +kernel) rfl rfl ?_
    refine zr_iload_n 3 59 C (by decide +kernel) rfl rfl ?_
    refine zr_icmp_ne (off := 5) 64 62 C (by decide +kernel) (by decide) rfl hf (fun hf => ?_) (fun hf => ?_)
    · refine zr_iload 5 66 C (by decide +kernel) rfl rfl ?_
      refine zr_istore_n 3 [some (.ref (h 3)), none, some (.int x2), some (.int x5), some (.int x4), some (.int x5), some (.int x6)] 67 C (by decide +kernel) rfl (by decide) rfl rfl ?_
      refine zr_iinc (j := 1) 4 [some (.ref (h 3)), none, some (.int x2), some (.int x5), some (.int (x4 + 1)), some (.int x5), some (.int x6)] 70 C (by decide +kernel) rfl rfl rfl (by decide) rfl rfl ?_
      refine zr_goto (off := -65) 5 C (by decide +kernel) (by decide) ?_
      refine zr_less (zA (zN (zA (zA (zA (zN (zN zE))))))) ?_
      exact H5 _ _ _ _ hf
    · refine zr_iload_n 3 63 C (by decide +kernel) rfl rfl ?_
      obtain rfl := Option.some.inj hf
      exact zr_iret C (by decide +kernel) T
  · refine zr_iload_n 3 28 C (by decide +kernel) rfl rfl ?_
    refine zr_iload 6 30 C (by decide +kernel) rfl rfl ?_
    refine kN_X_has (idx := 84) 33 C E (by decide +kernel) rfl (zn_8 E) (zb2 rfl rfl) (Nat.le_of_ble_eq_true rfl) hf (fun r2 σ1 hf => ?_)
    refine zr_if_eq (off := 17) 50 36 C (by decide +kernel) (by decide) rfl hf (fun hf => ?_) (fun hf => ?_)
    · exact w_Vi_spreadFrom_50 C T E H5 H18 _ _ _ _ _ _ hf
    · refine zr_iload 5 38 C (by decide +kernel) rfl rfl ?_
      refine zr_aload_n 0 39 C (by decide +kernel) rfl rfl ?_
      refine xg_3_2 (idx := 18) 42 C (by decide +kernel) rfl q_186 ?_
      refine zr_iload 6 44 C (by decide +kernel) rfl rfl ?_
      refine xl_19 45 C (by decide +kernel) rfl hf (fun hf => ?_)
      refine zr_iload_n 2 46 C (by decide +kernel) rfl rfl ?_
      refine zr_iand 47 C (by decide +kernel) rfl ?_
      refine zr_ior 48 C (by decide +kernel) rfl ?_
      refine zr_name hf (fun v3 hf => ?_)
      refine zr_istore 5 [some (.ref (h 3)), none, some (.int x2), some (.int x3), some (.int x4), some (.int v3), some (.int x6)] 50 C (by decide +kernel) rfl (by decide) rfl rfl ?_
      exact w_Vi_spreadFrom_50 C T E H5 H18 _ _ _ _ _ _ hf
def f_Vi_spreadFrom_18 (k5 : Int32 → Int32 → Int32 → zS → Option (Int32 × zS)) : Nat → Int32 → Int32 → Int32 → Int32 → Int32 → zS → Option (Int32 × zS)
  | 0, _, _, _, _, _, _ => none
  | n + 1, x2, x3, x4, x5, x6,  σ => f_Vi_spreadFrom_18b k5 (fun x2 x3 x4 x5 x6 σ => f_Vi_spreadFrom_18 k5 n x2 x3 x4 x5 x6 σ) x2 x3 x4 x5 x6 σ
theorem w_Vi_spreadFrom_18 {l : Launch} {d : zD} {F : zF} {h : Nat → Nat} {out : Int32 × zS} {ad av : Nat → Nat}  {k5 : Int32 → Int32 → Int32 → zS → Option (Int32 × zS)} (C : zOk d F RX9 cX9_spreadFrom 7 1 21) (T : zRt d F (some .int) (some (.int out.1)) (XW d h out.2)) (E : zXe d ad av) (H5 : ∀ (x2 : Int32) (x3 : Int32) (x4 : Int32) (σ : zS), k5 x2 x3 x4 σ = some out → V l d F 0 0 (XW d h σ) [some (.ref (h 3)), none, some (.int x2), some (.int x3), some (.int x4), none, none] 5 []) : ∀ (n : Nat) (x2 : Int32) (x3 : Int32) (x4 : Int32) (x5 : Int32) (x6 : Int32) (σ : zS), f_Vi_spreadFrom_18 k5 n x2 x3 x4 x5 x6 σ = some out → V l d F 0 0 (XW d h σ) [some (.ref (h 3)), none, some (.int x2), some (.int x3), some (.int x4), some (.int x5), some (.int x6)] 18 [] := by
  intro n
  induction n with
  | zero =>
    intro x2 x3 x4 x5 x6 σ hf
    cases hf
  | succ n ih =>
    intro x2 x3 x4 x5 x6 σ hf
    exact w_Vi_spreadFrom_18b C T E H5 ih x2 x3 x4 x5 x6 σ hf
def f_Vi_spreadFrom_5b (k5 : Int32 → Int32 → Int32 → zS → Option (Int32 × zS)) (x2 : Int32) (x3 : Int32) (x4 : Int32) (σ : zS) : Option (Int32 × zS) :=
  (if 20 ≤ x4 then
  some (x3, σ)
  else
  f_Vi_spreadFrom_18 k5 zfu x2 x3 x4 x3 0 σ)
set_option maxRecDepth 4000 in
theorem w_Vi_spreadFrom_5b {l : Launch} {d : zD} {F : zF} {h : Nat → Nat} {out : Int32 × zS} {ad av : Nat → Nat}  {k5 : Int32 → Int32 → Int32 → zS → Option (Int32 × zS)} (C : zOk d F RX9 cX9_spreadFrom 7 1 21) (T : zRt d F (some .int) (some (.int out.1)) (XW d h out.2)) (E : zXe d ad av) (H5 : ∀ (x2 : Int32) (x3 : Int32) (x4 : Int32) (σ : zS), k5 x2 x3 x4 σ = some out → V l d F 0 0 (XW d h σ) [some (.ref (h 3)), none, some (.int x2), some (.int x3), some (.int x4), none, none] 5 []) (x2 : Int32) (x3 : Int32) (x4 : Int32) (σ : zS) (hf : f_Vi_spreadFrom_5b k5 x2 x3 x4 σ = some out) : V l d F 0 0 (XW d h σ) [some (.ref (h 3)), none, some (.int x2), some (.int x3), some (.int x4), none, none] 5 [] := by
  unfold f_Vi_spreadFrom_5b at hf
  refine zr_iload 4 7 C (by decide +kernel) rfl rfl ?_
  refine zr_bipush (v := 20) 20 9 C (by decide +kernel) rfl rfl ?_
  refine zr_icmp_ge (off := 64) 73 12 C (by decide +kernel) (by decide) rfl hf (fun hf => ?_) (fun hf => ?_)
  · refine zr_iload_n 3 74 C (by decide +kernel) rfl rfl ?_
    obtain rfl := Option.some.inj hf
    exact zr_iret C (by decide +kernel) T
  · refine zr_iload_n 3 13 C (by decide +kernel) rfl rfl ?_
    refine zr_istore 5 [some (.ref (h 3)), none, some (.int x2), some (.int x3), some (.int x4), some (.int x3), none] 15 C (by decide +kernel) rfl (by decide) rfl rfl ?_
    refine zr_iconst (v := 0) 0 16 C (by decide +kernel) rfl rfl ?_
    refine zr_istore 6 [some (.ref (h 3)), none, some (.int x2), some (.int x3), some (.int x4), some (.int x3), some (.int 0)] 18 C (by decide +kernel) rfl (by decide) rfl rfl ?_
    exact w_Vi_spreadFrom_18 C T E H5 zfu _ _ _ _ _ _ hf
def f_Vi_spreadFrom_5  : Nat → Int32 → Int32 → Int32 → zS → Option (Int32 × zS)
  | 0, _, _, _, _ => none
  | n + 1, x2, x3, x4,  σ => f_Vi_spreadFrom_5b (fun x2 x3 x4 σ => f_Vi_spreadFrom_5  n x2 x3 x4 σ) x2 x3 x4 σ
theorem w_Vi_spreadFrom_5 {l : Launch} {d : zD} {F : zF} {h : Nat → Nat} {out : Int32 × zS} {ad av : Nat → Nat}   (C : zOk d F RX9 cX9_spreadFrom 7 1 21) (T : zRt d F (some .int) (some (.int out.1)) (XW d h out.2)) (E : zXe d ad av)  : ∀ (n : Nat) (x2 : Int32) (x3 : Int32) (x4 : Int32) (σ : zS), f_Vi_spreadFrom_5  n x2 x3 x4 σ = some out → V l d F 0 0 (XW d h σ) [some (.ref (h 3)), none, some (.int x2), some (.int x3), some (.int x4), none, none] 5 [] := by
  intro n
  induction n with
  | zero =>
    intro x2 x3 x4 σ hf
    cases hf
  | succ n ih =>
    intro x2 x3 x4 σ hf
    exact w_Vi_spreadFrom_5b C T E ih x2 x3 x4 σ hf
def f_Vi_spreadFrom (p1 : Int32) (p2 : Int32) (σ : zS) : Option (Int32 × zS) :=
  f_Vi_spreadFrom_5 zfu p2 p1 0 σ
set_option maxRecDepth 4000 in
theorem m_Vi_spreadFrom {l : Launch} {d : zD} {h : Nat → Nat} {out : Int32 × zS} {σ : zS} {ad av : Nat → Nat} {p1 : Int32} {p2 : Int32} (E : zXe d ad av) (hf : f_Vi_spreadFrom p1 p2 σ = some out) : zM l yX9_spreadFrom cX9_spreadFrom 7 (some .int) 1 21 d [.ref (h 3), .int p1, .int p2] (XW d h σ) (XW d h out.2) (some (.int out.1)) := by
  refine zM_of [some (.ref (h 3)), some (.int p1), some (.int p2), none, none, none, none] (by decide +kernel) rfl (Nat.le_of_ble_eq_true rfl) (fun F C T => ?_)
  unfold f_Vi_spreadFrom at hf
  refine zr_iload_n 1 1 C (by decide +kernel) rfl rfl ?_
  refine zr_istore_n 3 [some (.ref (h 3)), some (.int p1), some (.int p2), some (.int p1), none, none, none] 2 C (by decide +kernel) rfl (by decide) rfl rfl ?_
  refine zr_iconst (v := 0) 0 3 C (by decide +kernel) rfl rfl ?_
  refine zr_istore 4 [some (.ref (h 3)), some (.int p1), some (.int p2), some (.int p1), some (.int 0), none, none] 5 C (by decide +kernel) rfl (by decide) rfl rfl ?_
  refine zr_less (zA (zN (zA (zA (zA (zN (zN zE))))))) ?_
  exact w_Vi_spreadFrom_5 C T E zfu _ _ _ _ hf
theorem y_Vi_spreadFrom : zY yX9_spreadFrom cX9_spreadFrom 7 (some .int) 2 := ⟨q_664, q_75, by decide +kernel, by decide +kernel, by decide +kernel⟩
theorem k_Vi_spreadFrom {l : Launch} {d : zD} {F : zF} {h : Nat → Nat} {σ : zS} {lv : List (Option Value)} {pc : Nat} {own : String} {cc : ByteArray} {nL fr lo idx : Nat} {rest : List Value} {β : Type} {kf : Int32 → zS → Option β} {o2 : β} {ad av : Nat → Nat}  {p1 : Int32} {p2 : Int32} (pc' : Nat) (C : zOk d F own cc nL fr lo) (E : zXe d ad av) (hd : decode cc pc = .ok (.invokevirtual idx, 3)) (hp : pc + 3 = pc') (hq : Cond.methodLink own idx yX9_spreadFrom ∈ zW) (hm : 1 + 1 ≤ fr ∧ 8 + (7 + 11) + 21 ≤ lo) (hr : (rest.map fun v => v.category).sum ≤ 8) (hf : zbd (f_Vi_spreadFrom p1 p2 σ) kf = some o2) (K : ∀ (r : Int32) (σ' : zS), kf r σ' = some o2 → V l d F 0 0 (XW d h σ') lv pc' (.int r :: rest)) : V l d F 0 0 (XW d h σ) lv pc (.int p2 :: .int p1 :: .ref (h 3) :: rest) := by
  obtain ⟨q, h1, h2⟩ := zbd_some hf
  exact zr_callV y_Vi_spreadFrom ⟨q_663, q_17⟩ 3 rfl rfl (As := [.int p1, .int p2]) (m_Vi_spreadFrom E h1) rfl rfl pc' C hd hp hq hm hr (K _ _ h2)
/-! StepsBeyond$Village.townOf(I)I -/
def f_Vi_townOf (p1 : Int32) (σ : zS) : Option (Int32 × zS) :=
  zbd (f_Vi_spreadFrom (zshl 1 p1) (-1) σ) fun r2 σ1 =>
  some (r2, σ1)
set_option maxRecDepth 4000 in
theorem m_Vi_townOf {l : Launch} {d : zD} {h : Nat → Nat} {out : Int32 × zS} {σ : zS} {ad av : Nat → Nat} {p1 : Int32} (E : zXe d ad av) (hf : f_Vi_townOf p1 σ = some out) : zM l yX9_townOf cX9_townOf 2 (some .int) 2 47 d [.ref (h 3), .int p1] (XW d h σ) (XW d h out.2) (some (.int out.1)) := by
  refine zM_of [some (.ref (h 3)), some (.int p1)] (by decide +kernel) rfl (Nat.le_of_ble_eq_true rfl) (fun F C T => ?_)
  unfold f_Vi_townOf at hf
  refine zr_aload_n 0 1 C (by decide +kernel) rfl rfl ?_
  refine zr_iconst (v := 1) 1 2 C (by decide +kernel) rfl rfl ?_
  refine zr_iload_n 1 3 C (by decide +kernel) rfl rfl ?_
  refine zr_ishl 4 C (by decide +kernel) rfl ?_
  refine zr_iconst (v := (-1)) (-1) 5 C (by decide +kernel) rfl rfl ?_
  refine k_Vi_spreadFrom (idx := 81) 8 C E (by decide +kernel) rfl q_661 (zb2 rfl rfl) (Nat.le_of_ble_eq_true rfl) hf (fun r2 σ1 hf => ?_)
  obtain rfl := Option.some.inj hf
  exact zr_iret C (by decide +kernel) T
theorem y_Vi_townOf : zY yX9_townOf cX9_townOf 2 (some .int) 1 := ⟨q_660, q_75, by decide +kernel, by decide +kernel, by decide +kernel⟩
theorem k_Vi_townOf {l : Launch} {d : zD} {F : zF} {h : Nat → Nat} {σ : zS} {lv : List (Option Value)} {pc : Nat} {own : String} {cc : ByteArray} {nL fr lo idx : Nat} {rest : List Value} {β : Type} {kf : Int32 → zS → Option β} {o2 : β} {ad av : Nat → Nat}  {p1 : Int32} (pc' : Nat) (C : zOk d F own cc nL fr lo) (E : zXe d ad av) (hd : decode cc pc = .ok (.invokevirtual idx, 3)) (hp : pc + 3 = pc') (hq : Cond.methodLink own idx yX9_townOf ∈ zW) (hm : 2 + 1 ≤ fr ∧ 8 + (2 + 11) + 47 ≤ lo) (hr : (rest.map fun v => v.category).sum ≤ 8) (hf : zbd (f_Vi_townOf p1 σ) kf = some o2) (K : ∀ (r : Int32) (σ' : zS), kf r σ' = some o2 → V l d F 0 0 (XW d h σ') lv pc' (.int r :: rest)) : V l d F 0 0 (XW d h σ) lv pc (.int p1 :: .ref (h 3) :: rest) := by
  obtain ⟨q, h1, h2⟩ := zbd_some hf
  exact zr_callV y_Vi_townOf ⟨q_658, q_659⟩ 3 rfl rfl (As := [.int p1]) (m_Vi_townOf E h1) rfl rfl pc' C hd hp hq hm hr (K _ _ h2)
/-! StepsBeyond$Village.heldBy(I)I -/
def f_Vi_heldBy_67 (k11 : Int32 → Int32 → Int32 → zS → Option (Int32 × zS)) (x2 : Int32) (x3 : Int32) (x4 : Int32) (σ : zS) : Option (Int32 × zS) :=
  k11 x2 x3 (x4 + 1) σ
set_option maxRecDepth 4000 in
theorem w_Vi_heldBy_67 {l : Launch} {d : zD} {F : zF} {h : Nat → Nat} {out : Int32 × zS} {ad av : Nat → Nat}  {k11 : Int32 → Int32 → Int32 → zS → Option (Int32 × zS)} (C : zOk d F RX9 cX9_heldBy 7 3 68) (T : zRt d F (some .int) (some (.int out.1)) (XW d h out.2)) (E : zXe d ad av) (H11 : ∀ (x2 : Int32) (x3 : Int32) (x4 : Int32) (σ : zS), k11 x2 x3 x4 σ = some out → V l d F 0 0 (XW d h σ) [some (.ref (h 3)), none, some (.int x2), some (.int x3), some (.int x4), none, none] 11 []) (x2 : Int32) (x3 : Int32) (x4 : Int32) (σ : zS) (hf : f_Vi_heldBy_67 k11 x2 x3 x4 σ = some out) : V l d F 0 0 (XW d h σ) [some (.ref (h 3)), none, some (.int x2), some (.int x3), some (.int x4), none, none] 67 [] := by
  unfold f_Vi_heldBy_67 at hf
  refine zr_iinc (j := 1) 4 [some (.ref (h 3)), none, some (.int x2), some (.int x3), some (.int (x4 + 1)), none, none] 70 C (by decide +kernel) rfl rfl rfl (by decide) rfl rfl ?_
  refine zr_goto (off := -59) 11 C (by decide +kernel) (by decide) ?_
  exact H11 _ _ _ _ hf
def f_Vi_heldBy_11b (k11 : Int32 → Int32 → Int32 → zS → Option (Int32 × zS)) (x2 : Int32) (x3 : Int32) (x4 : Int32) (σ : zS) : Option (Int32 × zS) :=
  (if (σ.1 307) ≤ x4 then
  some (x3, σ)
  else
  zlt (x2 &&& ((zshl 1 x4) ^^^ (-1))) fun v1 => 
  zlt (v1 &&& (-v1)) fun v2 => 
  zbd (f_X_has x2 x4 σ) fun r4 σ3 =>
  (if r4 = 0 then
  f_Vi_heldBy_67 k11 x2 x3 x4 σ3
  else
  zbd (f_Vi_spreadFrom v2 v1 σ3) fun r6 σ5 =>
  (if r6 = v1 then
  f_Vi_heldBy_67 k11 x2 x3 x4 σ5
  else
  zlt (x3 ||| (zshl 1 x4)) fun v7 => 
  f_Vi_heldBy_67 k11 x2 v7 x4 σ5)))
set_option maxRecDepth 4000 in
theorem w_Vi_heldBy_11b {l : Launch} {d : zD} {F : zF} {h : Nat → Nat} {out : Int32 × zS} {ad av : Nat → Nat}  {k11 : Int32 → Int32 → Int32 → zS → Option (Int32 × zS)} (C : zOk d F RX9 cX9_heldBy 7 3 68) (T : zRt d F (some .int) (some (.int out.1)) (XW d h out.2)) (E : zXe d ad av) (H11 : ∀ (x2 : Int32) (x3 : Int32) (x4 : Int32) (σ : zS), k11 x2 x3 x4 σ = some out → V l d F 0 0 (XW d h σ) [some (.ref (h 3)), none, some (.int x2), some (.int x3), some (.int x4), none, none] 11 []) (x2 : Int32) (x3 : Int32) (x4 : Int32) (σ : zS) (hf : f_Vi_heldBy_11b k11 x2 x3 x4 σ = some out) : V l d F 0 0 (XW d h σ) [some (.ref (h 3)), none, some (.int x2), some (.int x3), some (.int x4), none, none] 11 [] := by
  unfold f_Vi_heldBy_11b at hf
  refine zr_iload 4 13 C (by decide +kernel) rfl rfl ?_
  refine zr_aload_n 0 14 C (by decide +kernel) rfl rfl ?_
  refine xg_3_7 (idx := 37) 17 C (by decide +kernel) rfl q_192 ?_
  refine zr_icmp_ge (off := 56) 73 20 C (by decide +kernel) (by decide) rfl hf (fun hf => ?_) (fun hf => ?_)
  · refine zr_iload_n 3 74 C (by decide +kernel) rfl rfl ?_
    obtain rfl := Option.some.inj hf
    exact zr_iret C (by decide +kernel) T
  · refine zr_iload_n 2 21 C (by decide +kernel) rfl rfl ?_
    refine zr_iconst (v := 1) 1 22 C (by decide +kernel) rfl rfl ?_
    refine zr_iload 4 24 C (by decide +kernel) rfl rfl ?_
    refine zr_ishl 25 C (by decide +kernel) rfl ?_
    refine zr_iconst (v := (-1)) (-1) 26 C (by decide +kernel) rfl rfl ?_
    refine zr_ixor 27 C (by decide +kernel) rfl ?_
    refine zr_iand 28 C (by decide +kernel) rfl ?_
    refine zr_name hf (fun v1 hf => ?_)
    refine zr_istore 5 [some (.ref (h 3)), none, some (.int x2), some (.int x3), some (.int x4), some (.int v1), none] 30 C (by decide +kernel) rfl (by decide) rfl rfl ?_
    refine zr_iload 5 32 C (by decide +kernel) rfl rfl ?_
    refine zr_iload 5 34 C (by decide +kernel) rfl rfl ?_
    refine zr_ineg 35 C (by decide +kernel) rfl ?_
    refine zr_iand 36 C (by decide +kernel) rfl ?_
    refine zr_name hf (fun v2 hf => ?_)
    refine zr_istore 6 [some (.ref (h 3)), none, some (.int x2), some (.int x3), some (.int x4), some (.int v1), some (.int v2)] 38 C (by decide +kernel) rfl (by decide) rfl rfl ?_
    refine zr_iload_n 2 39 C (by decide +kernel) rfl rfl ?_
    refine zr_iload 4 41 C (by decide +kernel) rfl rfl ?_
    refine kN_X_has (idx := 84) 44 C E (by decide +kernel) rfl (zn_8 E) (zb2 rfl rfl) (Nat.le_of_ble_eq_true rfl) hf (fun r4 σ3 hf => ?_)
    refine zr_if_eq (off := 23) 67 47 C (by decide +kernel) (by decide) rfl hf (fun hf => ?_) (fun hf => ?_)
    · refine zr_less (zA (zN (zA (zA (zA (zN (zN zE))))))) ?_
      exact w_Vi_heldBy_67 C T E H11 _ _ _ _ hf
    · refine zr_aload_n 0 48 C (by decide +kernel) rfl rfl ?_
      refine zr_iload 6 50 C (by decide +kernel) rfl rfl ?_
      refine zr_iload 5 52 C (by decide +kernel) rfl rfl ?_
      refine k_Vi_spreadFrom (idx := 81) 55 C E (by decide +kernel) rfl q_661 (zb2 rfl rfl) (Nat.le_of_ble_eq_true rfl) hf (fun r6 σ5 hf => ?_)
      refine zr_iload 5 57 C (by decide +kernel) rfl rfl ?_
      refine zr_icmp_eq (off := 10) 67 60 C (by decide +kernel) (by decide) rfl hf (fun hf => ?_) (fun hf => ?_)
      · refine zr_less (zA (zN (zA (zA (zA (zN (zN zE))))))) ?_
        exact w_Vi_heldBy_67 C T E H11 _ _ _ _ hf
      · refine zr_iload_n 3 61 C (by decide +kernel) rfl rfl ?_
        refine zr_iconst (v := 1) 1 62 C (by decide +kernel) rfl rfl ?_
        refine zr_iload 4 64 C (by decide +kernel) rfl rfl ?_
        refine zr_ishl 65 C (by decide +kernel) rfl ?_
        refine zr_ior 66 C (by decide +kernel) rfl ?_
        refine zr_name hf (fun v7 hf => ?_)
        refine zr_istore_n 3 [some (.ref (h 3)), none, some (.int x2), some (.int v7), some (.int x4), some (.int v1), some (.int v2)] 67 C (by decide +kernel) rfl (by decide) rfl rfl ?_
        refine zr_less (zA (zN (zA (zA (zA (zN (zN zE))))))) ?_
        exact w_Vi_heldBy_67 C T E H11 _ _ _ _ hf
def f_Vi_heldBy_11  : Nat → Int32 → Int32 → Int32 → zS → Option (Int32 × zS)
  | 0, _, _, _, _ => none
  | n + 1, x2, x3, x4,  σ => f_Vi_heldBy_11b (fun x2 x3 x4 σ => f_Vi_heldBy_11  n x2 x3 x4 σ) x2 x3 x4 σ
theorem w_Vi_heldBy_11 {l : Launch} {d : zD} {F : zF} {h : Nat → Nat} {out : Int32 × zS} {ad av : Nat → Nat}   (C : zOk d F RX9 cX9_heldBy 7 3 68) (T : zRt d F (some .int) (some (.int out.1)) (XW d h out.2)) (E : zXe d ad av)  : ∀ (n : Nat) (x2 : Int32) (x3 : Int32) (x4 : Int32) (σ : zS), f_Vi_heldBy_11  n x2 x3 x4 σ = some out → V l d F 0 0 (XW d h σ) [some (.ref (h 3)), none, some (.int x2), some (.int x3), some (.int x4), none, none] 11 [] := by
  intro n
  induction n with
  | zero =>
    intro x2 x3 x4 σ hf
    cases hf
  | succ n ih =>
    intro x2 x3 x4 σ hf
    exact w_Vi_heldBy_11b C T E ih x2 x3 x4 σ hf
def f_Vi_heldBy (p1 : Int32) (σ : zS) : Option (Int32 × zS) :=
  zbd (f_Vi_townOf p1 σ) fun r2 σ1 =>
  f_Vi_heldBy_11 zfu r2 0 0 σ1
set_option maxRecDepth 4000 in
theorem m_Vi_heldBy {l : Launch} {d : zD} {h : Nat → Nat} {out : Int32 × zS} {σ : zS} {ad av : Nat → Nat} {p1 : Int32} (E : zXe d ad av) (hf : f_Vi_heldBy p1 σ = some out) : zM l yX9_heldBy cX9_heldBy 7 (some .int) 3 68 d [.ref (h 3), .int p1] (XW d h σ) (XW d h out.2) (some (.int out.1)) := by
  refine zM_of [some (.ref (h 3)), some (.int p1), none, none, none, none, none] (by decide +kernel) rfl (Nat.le_of_ble_eq_true rfl) (fun F C T => ?_)
  unfold f_Vi_heldBy at hf
  refine zr_aload_n 0 1 C (by decide +kernel) rfl rfl ?_
  refine zr_iload_n 1 2 C (by decide +kernel) rfl rfl ?_
  refine k_Vi_townOf (idx := 88) 5 C E (by decide +kernel) rfl q_674 (zb2 rfl rfl) (Nat.le_of_ble_eq_true rfl) hf (fun r2 σ1 hf => ?_)
  refine zr_istore_n 2 [some (.ref (h 3)), some (.int p1), some (.int r2), none, none, none, none] 6 C (by decide +kernel) rfl (by decide) rfl rfl ?_
  refine zr_iconst (v := 0) 0 7 C (by decide +kernel) rfl rfl ?_
  refine zr_istore_n 3 [some (.ref (h 3)), some (.int p1), some (.int r2), some (.int 0), none, none, none] 8 C (by decide +kernel) rfl (by decide) rfl rfl ?_
  refine zr_iconst (v := 0) 0 9 C (by decide +kernel) rfl rfl ?_
  refine zr_istore 4 [some (.ref (h 3)), some (.int p1), some (.int r2), some (.int 0), some (.int 0), none, none] 11 C (by decide +kernel) rfl (by decide) rfl rfl ?_
  refine zr_less (zA (zN (zA (zA (zA (zN (zN zE))))))) ?_
  exact w_Vi_heldBy_11 C T E zfu _ _ _ _ hf
theorem y_Vi_heldBy : zY yX9_heldBy cX9_heldBy 7 (some .int) 1 := ⟨q_673, q_75, by decide +kernel, by decide +kernel, by decide +kernel⟩
theorem k_Vi_heldBy {l : Launch} {d : zD} {F : zF} {h : Nat → Nat} {σ : zS} {lv : List (Option Value)} {pc : Nat} {own : String} {cc : ByteArray} {nL fr lo idx : Nat} {rest : List Value} {β : Type} {kf : Int32 → zS → Option β} {o2 : β} {ad av : Nat → Nat}  {p1 : Int32} (pc' : Nat) (C : zOk d F own cc nL fr lo) (E : zXe d ad av) (hd : decode cc pc = .ok (.invokevirtual idx, 3)) (hp : pc + 3 = pc') (hq : Cond.methodLink own idx yX9_heldBy ∈ zW) (hm : 3 + 1 ≤ fr ∧ 8 + (7 + 11) + 68 ≤ lo) (hr : (rest.map fun v => v.category).sum ≤ 8) (hf : zbd (f_Vi_heldBy p1 σ) kf = some o2) (K : ∀ (r : Int32) (σ' : zS), kf r σ' = some o2 → V l d F 0 0 (XW d h σ') lv pc' (.int r :: rest)) : V l d F 0 0 (XW d h σ) lv pc (.int p1 :: .ref (h 3) :: rest) := by
  obtain ⟨q, h1, h2⟩ := zbd_some hf
  exact zr_callV y_Vi_heldBy ⟨q_671, q_672⟩ 3 rfl rfl (As := [.int p1]) (m_Vi_heldBy E h1) rfl rfl pc' C hd hp hq hm hr (K _ _ h2)
/-! StepsBeyond$Village.countTowns()I -/
def f_Vi_countTowns_33 (k6 : Int32 → Int32 → Int32 → zS → Option (Int32 × zS)) (x1 : Int32) (x2 : Int32) (x3 : Int32) (σ : zS) : Option (Int32 × zS) :=
  k6 x1 x2 (x3 + 1) σ
set_option maxRecDepth 4000 in
theorem w_Vi_countTowns_33 {l : Launch} {d : zD} {F : zF} {h : Nat → Nat} {out : Int32 × zS} {ad av : Nat → Nat}  {k6 : Int32 → Int32 → Int32 → zS → Option (Int32 × zS)} (C : zOk d F RX9 cX9_countTowns 4 3 68) (T : zRt d F (some .int) (some (.int out.1)) (XW d h out.2)) (E : zXe d ad av) (H6 : ∀ (x1 : Int32) (x2 : Int32) (x3 : Int32) (σ : zS), k6 x1 x2 x3 σ = some out → V l d F 0 0 (XW d h σ) [some (.ref (h 3)), some (.int x1), some (.int x2), some (.int x3)] 6 []) (x1 : Int32) (x2 : Int32) (x3 : Int32) (σ : zS) (hf : f_Vi_countTowns_33 k6 x1 x2 x3 σ = some out) : V l d F 0 0 (XW d h σ) [some (.ref (h 3)), some (.int x1), some (.int x2), some (.int x3)] 33 [] := by
  unfold f_Vi_countTowns_33 at hf
  refine zr_iinc (j := 1) 3 [some (.ref (h 3)), some (.int x1), some (.int x2), some (.int (x3 + 1))] 36 C (by decide +kernel) rfl rfl rfl (by decide) rfl rfl ?_
  refine zr_goto (off := -30) 6 C (by decide +kernel) (by decide) ?_
  exact H6 _ _ _ _ hf
def f_Vi_countTowns_6b (k6 : Int32 → Int32 → Int32 → zS → Option (Int32 × zS)) (x1 : Int32) (x2 : Int32) (x3 : Int32) (σ : zS) : Option (Int32 × zS) :=
  (if (σ.1 307) ≤ x3 then
  some (x2, σ)
  else
  zbd (f_X_has x1 x3 σ) fun r2 σ1 =>
  (if r2 = 0 then
  zbd (f_Vi_townOf x3 σ1) fun r4 σ3 =>
  zlt (x1 ||| r4) fun v5 => 
  f_Vi_countTowns_33 k6 v5 (x2 + 1) x3 σ3
  else
  f_Vi_countTowns_33 k6 x1 x2 x3 σ1))
set_option maxRecDepth 4000 in
theorem w_Vi_countTowns_6b {l : Launch} {d : zD} {F : zF} {h : Nat → Nat} {out : Int32 × zS} {ad av : Nat → Nat}  {k6 : Int32 → Int32 → Int32 → zS → Option (Int32 × zS)} (C : zOk d F RX9 cX9_countTowns 4 3 68) (T : zRt d F (some .int) (some (.int out.1)) (XW d h out.2)) (E : zXe d ad av) (H6 : ∀ (x1 : Int32) (x2 : Int32) (x3 : Int32) (σ : zS), k6 x1 x2 x3 σ = some out → V l d F 0 0 (XW d h σ) [some (.ref (h 3)), some (.int x1), some (.int x2), some (.int x3)] 6 []) (x1 : Int32) (x2 : Int32) (x3 : Int32) (σ : zS) (hf : f_Vi_countTowns_6b k6 x1 x2 x3 σ = some out) : V l d F 0 0 (XW d h σ) [some (.ref (h 3)), some (.int x1), some (.int x2), some (.int x3)] 6 [] := by
  unfold f_Vi_countTowns_6b at hf
  refine zr_iload_n 3 7 C (by decide +kernel) rfl rfl ?_
  refine zr_aload_n 0 8 C (by decide +kernel) rfl rfl ?_
  refine xg_3_7 (idx := 37) 11 C (by decide +kernel) rfl q_192 ?_
  refine zr_icmp_ge (off := 28) 39 14 C (by decide +kernel) (by decide) rfl hf (fun hf => ?_) (fun hf => ?_)
  · refine zr_iload_n 2 40 C (by decide +kernel) rfl rfl ?_
    obtain rfl := Option.some.inj hf
    exact zr_iret C (by decide +kernel) T
  · refine zr_iload_n 1 15 C (by decide +kernel) rfl rfl ?_
    refine zr_iload_n 3 16 C (by decide +kernel) rfl rfl ?_
    refine kN_X_has (idx := 84) 19 C E (by decide +kernel) rfl (zn_8 E) (zb2 rfl rfl) (Nat.le_of_ble_eq_true rfl) hf (fun r2 σ1 hf => ?_)
    refine zr_if_ne (off := 14) 33 22 C (by decide +kernel) (by decide) rfl hf (fun hf => ?_) (fun hf => ?_)
    · exact w_Vi_countTowns_33 C T E H6 _ _ _ _ hf
    · refine zr_iload_n 1 23 C (by decide +kernel) rfl rfl ?_
      refine zr_aload_n 0 24 C (by decide +kernel) rfl rfl ?_
      refine zr_iload_n 3 25 C (by decide +kernel) rfl rfl ?_
      refine k_Vi_townOf (idx := 88) 28 C E (by decide +kernel) rfl q_674 (zb2 rfl rfl) (Nat.le_of_ble_eq_true rfl) hf (fun r4 σ3 hf => ?_)
      refine zr_ior 29 C (by decide +kernel) rfl ?_
      refine zr_name hf (fun v5 hf => ?_)
      refine zr_istore_n 1 [some (.ref (h 3)), some (.int v5), some (.int x2), some (.int x3)] 30 C (by decide +kernel) rfl (by decide) rfl rfl ?_
      refine zr_iinc (j := 1) 2 [some (.ref (h 3)), some (.int v5), some (.int (x2 + 1)), some (.int x3)] 33 C (by decide +kernel) rfl rfl rfl (by decide) rfl rfl ?_
      exact w_Vi_countTowns_33 C T E H6 _ _ _ _ hf
def f_Vi_countTowns_6  : Nat → Int32 → Int32 → Int32 → zS → Option (Int32 × zS)
  | 0, _, _, _, _ => none
  | n + 1, x1, x2, x3,  σ => f_Vi_countTowns_6b (fun x1 x2 x3 σ => f_Vi_countTowns_6  n x1 x2 x3 σ) x1 x2 x3 σ
theorem w_Vi_countTowns_6 {l : Launch} {d : zD} {F : zF} {h : Nat → Nat} {out : Int32 × zS} {ad av : Nat → Nat}   (C : zOk d F RX9 cX9_countTowns 4 3 68) (T : zRt d F (some .int) (some (.int out.1)) (XW d h out.2)) (E : zXe d ad av)  : ∀ (n : Nat) (x1 : Int32) (x2 : Int32) (x3 : Int32) (σ : zS), f_Vi_countTowns_6  n x1 x2 x3 σ = some out → V l d F 0 0 (XW d h σ) [some (.ref (h 3)), some (.int x1), some (.int x2), some (.int x3)] 6 [] := by
  intro n
  induction n with
  | zero =>
    intro x1 x2 x3 σ hf
    cases hf
  | succ n ih =>
    intro x1 x2 x3 σ hf
    exact w_Vi_countTowns_6b C T E ih x1 x2 x3 σ hf
def f_Vi_countTowns  (σ : zS) : Option (Int32 × zS) :=
  f_Vi_countTowns_6 zfu 0 0 0 σ
set_option maxRecDepth 4000 in
theorem m_Vi_countTowns {l : Launch} {d : zD} {h : Nat → Nat} {out : Int32 × zS} {σ : zS} {ad av : Nat → Nat}  (E : zXe d ad av) (hf : f_Vi_countTowns  σ = some out) : zM l yX9_countTowns cX9_countTowns 4 (some .int) 3 68 d [.ref (h 3)] (XW d h σ) (XW d h out.2) (some (.int out.1)) := by
  refine zM_of [some (.ref (h 3)), none, none, none] (by decide +kernel) rfl (Nat.le_of_ble_eq_true rfl) (fun F C T => ?_)
  unfold f_Vi_countTowns at hf
  refine zr_iconst (v := 0) 0 1 C (by decide +kernel) rfl rfl ?_
  refine zr_istore_n 1 [some (.ref (h 3)), some (.int 0), none, none] 2 C (by decide +kernel) rfl (by decide) rfl rfl ?_
  refine zr_iconst (v := 0) 0 3 C (by decide +kernel) rfl rfl ?_
  refine zr_istore_n 2 [some (.ref (h 3)), some (.int 0), some (.int 0), none] 4 C (by decide +kernel) rfl (by decide) rfl rfl ?_
  refine zr_iconst (v := 0) 0 5 C (by decide +kernel) rfl rfl ?_
  refine zr_istore_n 3 [some (.ref (h 3)), some (.int 0), some (.int 0), some (.int 0)] 6 C (by decide +kernel) rfl (by decide) rfl rfl ?_
  exact w_Vi_countTowns_6 C T E zfu _ _ _ _ hf
theorem y_Vi_countTowns : zY yX9_countTowns cX9_countTowns 4 (some .int) 0 := ⟨q_908, q_75, by decide +kernel, by decide +kernel, by decide +kernel⟩
theorem k_Vi_countTowns {l : Launch} {d : zD} {F : zF} {h : Nat → Nat} {σ : zS} {lv : List (Option Value)} {pc : Nat} {own : String} {cc : ByteArray} {nL fr lo idx : Nat} {rest : List Value} {β : Type} {kf : Int32 → zS → Option β} {o2 : β} {ad av : Nat → Nat}   (pc' : Nat) (C : zOk d F own cc nL fr lo) (E : zXe d ad av) (hd : decode cc pc = .ok (.invokevirtual idx, 3)) (hp : pc + 3 = pc') (hq : Cond.methodLink own idx yX9_countTowns ∈ zW) (hm : 3 + 1 ≤ fr ∧ 8 + (4 + 11) + 68 ≤ lo) (hr : (rest.map fun v => v.category).sum ≤ 8) (hf : zbd (f_Vi_countTowns  σ) kf = some o2) (K : ∀ (r : Int32) (σ' : zS), kf r σ' = some o2 → V l d F 0 0 (XW d h σ') lv pc' (.int r :: rest)) : V l d F 0 0 (XW d h σ) lv pc (.ref (h 3) :: rest) := by
  obtain ⟨q, h1, h2⟩ := zbd_some hf
  exact zr_callV y_Vi_countTowns ⟨q_906, q_907⟩ 3 rfl rfl (As := []) (m_Vi_countTowns E h1) rfl rfl pc' C hd hp hq hm hr (K _ _ h2)
/-! StepsBeyond$Village.hutIsNear(II)Z -/
def f_Vi_hutIsNear_89  (x5 : Int32) (σ : zS) : Option (Int32 × zS) :=
  zin x5 3200 ((if (σ.2 20 x5.toNatClampNeg) = 1 then
  some (1, σ)
  else
  some (0, σ)))
set_option maxRecDepth 4000 in
theorem w_Vi_hutIsNear_89 {l : Launch} {d : zD} {F : zF} {h : Nat → Nat} {out : Int32 × zS} {ad av : Nat → Nat}   (C : zOk d F RX9 cX9_hutIsNear 6 3 71) (T : zRt d F (some .boolean) (some (.int out.1)) (XW d h out.2)) (E : zXe d ad av)  (x5 : Int32) (σ : zS) (hf : f_Vi_hutIsNear_89  x5 σ = some out) : V l d F 0 0 (XW d h σ) [some (.ref (h 3)), none, none, none, none, some (.int x5)] 89 [] := by
  unfold f_Vi_hutIsNear_89 at hf
  refine zr_aload_n 0 90 C (by decide +kernel) rfl rfl ?_
  refine xg_3_3 (idx := 21) 93 C (by decide +kernel) rfl q_188 ?_
  refine zr_iload 5 95 C (by decide +kernel) rfl rfl ?_
  refine xl_20 96 C (by decide +kernel) rfl hf (fun hf => ?_)
  refine zr_iconst (v := 1) 1 97 C (by decide +kernel) rfl rfl ?_
  refine zr_icmp_ne (off := 7) 104 100 C (by decide +kernel) (by decide) rfl hf (fun hf => ?_) (fun hf => ?_)
  · refine zr_iconst (v := 0) 0 105 C (by decide +kernel) rfl rfl ?_
    obtain rfl := Option.some.inj hf
    exact zr_zret C (by decide +kernel) rfl T
  · refine zr_iconst (v := 1) 1 101 C (by decide +kernel) rfl rfl ?_
    refine zr_goto (off := 4) 105 C (by decide +kernel) (by decide) ?_
    obtain rfl := Option.some.inj hf
    exact zr_zret C (by decide +kernel) rfl T
def f_Vi_hutIsNear_88  (x5 : Int32) (y1 : Int32) (y2 : Int32) (σ : zS) : Option (Int32 × zS) :=
  zin y1 3200 (zlt (zsa σ 20 y1 y2) fun σ1 =>
  f_Vi_hutIsNear_89 x5 σ1)
set_option maxRecDepth 4000 in
theorem w_Vi_hutIsNear_88 {l : Launch} {d : zD} {F : zF} {h : Nat → Nat} {out : Int32 × zS} {ad av : Nat → Nat}   (C : zOk d F RX9 cX9_hutIsNear 6 3 71) (T : zRt d F (some .boolean) (some (.int out.1)) (XW d h out.2)) (E : zXe d ad av)  (x5 : Int32) (y1 : Int32) (y2 : Int32) (σ : zS) (hf : f_Vi_hutIsNear_88  x5 y1 y2 σ = some out) : V l d F 0 0 (XW d h σ) [some (.ref (h 3)), none, none, none, none, some (.int x5)] 88 [.int y2, .int y1, .ref (h 20)] := by
  unfold f_Vi_hutIsNear_88 at hf
  refine xs_20 89 C (by decide +kernel) rfl hf (fun σ1 hf => ?_)
  exact w_Vi_hutIsNear_89 C T E _ _ hf
def f_Vi_hutIsNear (p1 : Int32) (p2 : Int32) (σ : zS) : Option (Int32 × zS) :=
  zin p2 20 (zlt (zabs ((zrem p1 40) - (zrem (σ.2 17 p2.toNatClampNeg) 40))) fun v1 => 
  zin p2 20 (zlt (zabs ((p1 / 40) - ((σ.2 17 p2.toNatClampNeg) / 40))) fun v2 => 
  zin p2 20 (zlt ((((σ.2 18 p2.toNatClampNeg) * 1600) + (v2 * 40)) + v1) fun v3 => 
  zin v3 3200 ((if (σ.2 20 v3.toNatClampNeg) = 0 then
  zbd (f_Vi_areNear p1 1 p2 σ) fun r5 σ4 =>
  (if r5 = 0 then
  f_Vi_hutIsNear_88 v3 v3 2 σ4
  else
  f_Vi_hutIsNear_88 v3 v3 1 σ4)
  else
  f_Vi_hutIsNear_89 v3 σ)))))
set_option maxRecDepth 4000 in
theorem m_Vi_hutIsNear {l : Launch} {d : zD} {h : Nat → Nat} {out : Int32 × zS} {σ : zS} {ad av : Nat → Nat} {p1 : Int32} {p2 : Int32} (E : zXe d ad av) (hf : f_Vi_hutIsNear p1 p2 σ = some out) : zM l yX9_hutIsNear cX9_hutIsNear 6 (some .boolean) 3 71 d [.ref (h 3), .int p1, .int p2] (XW d h σ) (XW d h out.2) (some (.int out.1)) := by
  refine zM_of [some (.ref (h 3)), some (.int p1), some (.int p2), none, none, none] (by decide +kernel) rfl (Nat.le_of_ble_eq_true rfl) (fun F C T => ?_)
  unfold f_Vi_hutIsNear at hf
  refine zr_iload_n 1 1 C (by decide +kernel) rfl rfl ?_
  refine zr_bipush (v := 40) 40 3 C (by decide +kernel) rfl rfl ?_
  refine zr_irem 4 C (by decide +kernel) rfl (by decide) ?_
  refine zr_aload_n 0 5 C (by decide +kernel) rfl rfl ?_
  refine xg_3_0 (idx := 9) 8 C (by decide +kernel) rfl q_182 ?_
  refine zr_iload_n 2 9 C (by decide +kernel) rfl rfl ?_
  refine xl_17 10 C (by decide +kernel) rfl hf (fun hf => ?_)
  refine zr_bipush (v := 40) 40 12 C (by decide +kernel) rfl rfl ?_
  refine zr_irem 13 C (by decide +kernel) rfl (by decide) ?_
  refine zr_isub 14 C (by decide +kernel) rfl ?_
  refine zr_mabs (idx := 54) 17 C (by decide +kernel) rfl q_531 (zb2 rfl rfl) (Nat.le_of_ble_eq_true rfl) ?_
  refine zr_name hf (fun v1 hf => ?_)
  refine zr_istore_n 3 [some (.ref (h 3)), some (.int p1), some (.int p2), some (.int v1), none, none] 18 C (by decide +kernel) rfl (by decide) rfl rfl ?_
  refine zr_iload_n 1 19 C (by decide +kernel) rfl rfl ?_
  refine zr_bipush (v := 40) 40 21 C (by decide +kernel) rfl rfl ?_
  refine zr_idiv 22 C (by decide +kernel) rfl (by decide) ?_
  refine zr_aload_n 0 23 C (by decide +kernel) rfl rfl ?_
  refine xg_3_0 (idx := 9) 26 C (by decide +kernel) rfl q_182 ?_
  refine zr_iload_n 2 27 C (by decide +kernel) rfl rfl ?_
  refine xl_17 28 C (by decide +kernel) rfl hf (fun hf => ?_)
  refine zr_bipush (v := 40) 40 30 C (by decide +kernel) rfl rfl ?_
  refine zr_idiv 31 C (by decide +kernel) rfl (by decide) ?_
  refine zr_isub 32 C (by decide +kernel) rfl ?_
  refine zr_mabs (idx := 54) 35 C (by decide +kernel) rfl q_531 (zb2 rfl rfl) (Nat.le_of_ble_eq_true rfl) ?_
  refine zr_name hf (fun v2 hf => ?_)
  refine zr_istore 4 [some (.ref (h 3)), some (.int p1), some (.int p2), some (.int v1), some (.int v2), none] 37 C (by decide +kernel) rfl (by decide) rfl rfl ?_
  refine zr_aload_n 0 38 C (by decide +kernel) rfl rfl ?_
  refine xg_3_1 (idx := 15) 41 C (by decide +kernel) rfl q_184 ?_
  refine zr_iload_n 2 42 C (by decide +kernel) rfl rfl ?_
  refine xl_18 43 C (by decide +kernel) rfl hf (fun hf => ?_)
  refine zr_sipush (v := 1600) 1600 46 C (by decide +kernel) rfl rfl ?_
  refine zr_imul 47 C (by decide +kernel) rfl ?_
  refine zr_iload 4 49 C (by decide +kernel) rfl rfl ?_
  refine zr_bipush (v := 40) 40 51 C (by decide +kernel) rfl rfl ?_
  refine zr_imul 52 C (by decide +kernel) rfl ?_
  refine zr_iadd 53 C (by decide +kernel) rfl ?_
  refine zr_iload_n 3 54 C (by decide +kernel) rfl rfl ?_
  refine zr_iadd 55 C (by decide +kernel) rfl ?_
  refine zr_name hf (fun v3 hf => ?_)
  refine zr_istore 5 [some (.ref (h 3)), some (.int p1), some (.int p2), some (.int v1), some (.int v2), some (.int v3)] 57 C (by decide +kernel) rfl (by decide) rfl rfl ?_
  refine zr_aload_n 0 58 C (by decide +kernel) rfl rfl ?_
  refine xg_3_3 (idx := 21) 61 C (by decide +kernel) rfl q_188 ?_
  refine zr_iload 5 63 C (by decide +kernel) rfl rfl ?_
  refine xl_20 64 C (by decide +kernel) rfl hf (fun hf => ?_)
  refine zr_if_ne (off := 25) 89 67 C (by decide +kernel) (by decide) rfl hf (fun hf => ?_) (fun hf => ?_)
  · refine zr_less (zA (zN (zN (zN (zN (zA zE)))))) ?_
    exact w_Vi_hutIsNear_89 C T E _ _ hf
  · refine zr_aload_n 0 68 C (by decide +kernel) rfl rfl ?_
    refine xg_3_3 (idx := 21) 71 C (by decide +kernel) rfl q_188 ?_
    refine zr_iload 5 73 C (by decide +kernel) rfl rfl ?_
    refine zr_aload_n 0 74 C (by decide +kernel) rfl rfl ?_
    refine zr_iload_n 1 75 C (by decide +kernel) rfl rfl ?_
    refine zr_iconst (v := 1) 1 76 C (by decide +kernel) rfl rfl ?_
    refine zr_iload_n 2 77 C (by decide +kernel) rfl rfl ?_
    refine k_Vi_areNear (idx := 50) 80 C E (by decide +kernel) rfl q_527 (zb2 rfl rfl) (Nat.le_of_ble_eq_true rfl) hf (fun r5 σ4 hf => ?_)
    refine zr_if_eq (off := 7) 87 83 C (by decide +kernel) (by decide) rfl hf (fun hf => ?_) (fun hf => ?_)
    · refine zr_iconst (v := 2) 2 88 C (by decide +kernel) rfl rfl ?_
      refine zr_less (zA (zN (zN (zN (zN (zA zE)))))) ?_
      exact w_Vi_hutIsNear_88 C T E _ _ _ _ hf
    · refine zr_iconst (v := 1) 1 84 C (by decide +kernel) rfl rfl ?_
      refine zr_goto (off := 4) 88 C (by decide +kernel) (by decide) ?_
      refine zr_less (zA (zN (zN (zN (zN (zA zE)))))) ?_
      exact w_Vi_hutIsNear_88 C T E _ _ _ _ hf
theorem y_Vi_hutIsNear : zY yX9_hutIsNear cX9_hutIsNear 6 (some .boolean) 2 := ⟨q_883, q_75, by decide +kernel, by decide +kernel, by decide +kernel⟩
theorem k_Vi_hutIsNear {l : Launch} {d : zD} {F : zF} {h : Nat → Nat} {σ : zS} {lv : List (Option Value)} {pc : Nat} {own : String} {cc : ByteArray} {nL fr lo idx : Nat} {rest : List Value} {β : Type} {kf : Int32 → zS → Option β} {o2 : β} {ad av : Nat → Nat}  {p1 : Int32} {p2 : Int32} (pc' : Nat) (C : zOk d F own cc nL fr lo) (E : zXe d ad av) (hd : decode cc pc = .ok (.invokevirtual idx, 3)) (hp : pc + 3 = pc') (hq : Cond.methodLink own idx yX9_hutIsNear ∈ zW) (hm : 3 + 1 ≤ fr ∧ 8 + (6 + 11) + 71 ≤ lo) (hr : (rest.map fun v => v.category).sum ≤ 8) (hf : zbd (f_Vi_hutIsNear p1 p2 σ) kf = some o2) (K : ∀ (r : Int32) (σ' : zS), kf r σ' = some o2 → V l d F 0 0 (XW d h σ') lv pc' (.int r :: rest)) : V l d F 0 0 (XW d h σ) lv pc (.int p2 :: .int p1 :: .ref (h 3) :: rest) := by
  obtain ⟨q, h1, h2⟩ := zbd_some hf
  exact zr_callV y_Vi_hutIsNear ⟨q_882, q_31⟩ 3 rfl rfl (As := [.int p1, .int p2]) (m_Vi_hutIsNear E h1) rfl rfl pc' C hd hp hq hm hr (K _ _ h2)
/-! StepsBeyond$Village.hutJoins(II)Z -/
def f_Vi_hutJoins_29 (k2 : Int32 → Int32 → Int32 → zS → Option (Int32 × zS)) (x1 : Int32) (x2 : Int32) (x3 : Int32) (σ : zS) : Option (Int32 × zS) :=
  k2 x1 x2 (x3 + 1) σ
set_option maxRecDepth 4000 in
theorem w_Vi_hutJoins_29 {l : Launch} {d : zD} {F : zF} {h : Nat → Nat} {out : Int32 × zS} {ad av : Nat → Nat}  {k2 : Int32 → Int32 → Int32 → zS → Option (Int32 × zS)} (C : zOk d F RX9 cX9_hutJoins 4 4 96) (T : zRt d F (some .boolean) (some (.int out.1)) (XW d h out.2)) (E : zXe d ad av) (H2 : ∀ (x1 : Int32) (x2 : Int32) (x3 : Int32) (σ : zS), k2 x1 x2 x3 σ = some out → V l d F 0 0 (XW d h σ) [some (.ref (h 3)), some (.int x1), some (.int x2), some (.int x3)] 2 []) (x1 : Int32) (x2 : Int32) (x3 : Int32) (σ : zS) (hf : f_Vi_hutJoins_29 k2 x1 x2 x3 σ = some out) : V l d F 0 0 (XW d h σ) [some (.ref (h 3)), some (.int x1), some (.int x2), some (.int x3)] 29 [] := by
  unfold f_Vi_hutJoins_29 at hf
  refine zr_iinc (j := 1) 3 [some (.ref (h 3)), some (.int x1), some (.int x2), some (.int (x3 + 1))] 32 C (by decide +kernel) rfl rfl rfl (by decide) rfl rfl ?_
  refine zr_goto (off := -30) 2 C (by decide +kernel) (by decide) ?_
  exact H2 _ _ _ _ hf
def f_Vi_hutJoins_2b (k2 : Int32 → Int32 → Int32 → zS → Option (Int32 × zS)) (x1 : Int32) (x2 : Int32) (x3 : Int32) (σ : zS) : Option (Int32 × zS) :=
  (if (σ.1 307) ≤ x3 then
  some (0, σ)
  else
  zbd (f_X_has x2 x3 σ) fun r2 σ1 =>
  (if r2 = 0 then
  f_Vi_hutJoins_29 k2 x1 x2 x3 σ1
  else
  zbd (f_Vi_hutIsNear x1 x3 σ1) fun r4 σ3 =>
  (if r4 = 0 then
  f_Vi_hutJoins_29 k2 x1 x2 x3 σ3
  else
  some (1, σ3))))
set_option maxRecDepth 4000 in
theorem w_Vi_hutJoins_2b {l : Launch} {d : zD} {F : zF} {h : Nat → Nat} {out : Int32 × zS} {ad av : Nat → Nat}  {k2 : Int32 → Int32 → Int32 → zS → Option (Int32 × zS)} (C : zOk d F RX9 cX9_hutJoins 4 4 96) (T : zRt d F (some .boolean) (some (.int out.1)) (XW d h out.2)) (E : zXe d ad av) (H2 : ∀ (x1 : Int32) (x2 : Int32) (x3 : Int32) (σ : zS), k2 x1 x2 x3 σ = some out → V l d F 0 0 (XW d h σ) [some (.ref (h 3)), some (.int x1), some (.int x2), some (.int x3)] 2 []) (x1 : Int32) (x2 : Int32) (x3 : Int32) (σ : zS) (hf : f_Vi_hutJoins_2b k2 x1 x2 x3 σ = some out) : V l d F 0 0 (XW d h σ) [some (.ref (h 3)), some (.int x1), some (.int x2), some (.int x3)] 2 [] := by
  unfold f_Vi_hutJoins_2b at hf
  refine zr_iload_n 3 3 C (by decide +kernel) rfl rfl ?_
  refine zr_aload_n 0 4 C (by decide +kernel) rfl rfl ?_
  refine xg_3_7 (idx := 37) 7 C (by decide +kernel) rfl q_192 ?_
  refine zr_icmp_ge (off := 28) 35 10 C (by decide +kernel) (by decide) rfl hf (fun hf => ?_) (fun hf => ?_)
  · refine zr_iconst (v := 0) 0 36 C (by decide +kernel) rfl rfl ?_
    obtain rfl := Option.some.inj hf
    exact zr_zret C (by decide +kernel) rfl T
  · refine zr_iload_n 2 11 C (by decide +kernel) rfl rfl ?_
    refine zr_iload_n 3 12 C (by decide +kernel) rfl rfl ?_
    refine kN_X_has (idx := 84) 15 C E (by decide +kernel) rfl (zn_8 E) (zb2 rfl rfl) (Nat.le_of_ble_eq_true rfl) hf (fun r2 σ1 hf => ?_)
    refine zr_if_eq (off := 14) 29 18 C (by decide +kernel) (by decide) rfl hf (fun hf => ?_) (fun hf => ?_)
    · exact w_Vi_hutJoins_29 C T E H2 _ _ _ _ hf
    · refine zr_aload_n 0 19 C (by decide +kernel) rfl rfl ?_
      refine zr_iload_n 1 20 C (by decide +kernel) rfl rfl ?_
      refine zr_iload_n 3 21 C (by decide +kernel) rfl rfl ?_
      refine k_Vi_hutIsNear (idx := 94) 24 C E (by decide +kernel) rfl q_880 (zb2 rfl rfl) (Nat.le_of_ble_eq_true rfl) hf (fun r4 σ3 hf => ?_)
      refine zr_if_eq (off := 5) 29 27 C (by decide +kernel) (by decide) rfl hf (fun hf => ?_) (fun hf => ?_)
      · exact w_Vi_hutJoins_29 C T E H2 _ _ _ _ hf
      · refine zr_iconst (v := 1) 1 28 C (by decide +kernel) rfl rfl ?_
        obtain rfl := Option.some.inj hf
        exact zr_zret C (by decide +kernel) rfl T
def f_Vi_hutJoins_2  : Nat → Int32 → Int32 → Int32 → zS → Option (Int32 × zS)
  | 0, _, _, _, _ => none
  | n + 1, x1, x2, x3,  σ => f_Vi_hutJoins_2b (fun x1 x2 x3 σ => f_Vi_hutJoins_2  n x1 x2 x3 σ) x1 x2 x3 σ
theorem w_Vi_hutJoins_2 {l : Launch} {d : zD} {F : zF} {h : Nat → Nat} {out : Int32 × zS} {ad av : Nat → Nat}   (C : zOk d F RX9 cX9_hutJoins 4 4 96) (T : zRt d F (some .boolean) (some (.int out.1)) (XW d h out.2)) (E : zXe d ad av)  : ∀ (n : Nat) (x1 : Int32) (x2 : Int32) (x3 : Int32) (σ : zS), f_Vi_hutJoins_2  n x1 x2 x3 σ = some out → V l d F 0 0 (XW d h σ) [some (.ref (h 3)), some (.int x1), some (.int x2), some (.int x3)] 2 [] := by
  intro n
  induction n with
  | zero =>
    intro x1 x2 x3 σ hf
    cases hf
  | succ n ih =>
    intro x1 x2 x3 σ hf
    exact w_Vi_hutJoins_2b C T E ih x1 x2 x3 σ hf
def f_Vi_hutJoins (p1 : Int32) (p2 : Int32) (σ : zS) : Option (Int32 × zS) :=
  f_Vi_hutJoins_2 zfu p1 p2 0 σ
set_option maxRecDepth 4000 in
theorem m_Vi_hutJoins {l : Launch} {d : zD} {h : Nat → Nat} {out : Int32 × zS} {σ : zS} {ad av : Nat → Nat} {p1 : Int32} {p2 : Int32} (E : zXe d ad av) (hf : f_Vi_hutJoins p1 p2 σ = some out) : zM l yX9_hutJoins cX9_hutJoins 4 (some .boolean) 4 96 d [.ref (h 3), .int p1, .int p2] (XW d h σ) (XW d h out.2) (some (.int out.1)) := by
  refine zM_of [some (.ref (h 3)), some (.int p1), some (.int p2), none] (by decide +kernel) rfl (Nat.le_of_ble_eq_true rfl) (fun F C T => ?_)
  unfold f_Vi_hutJoins at hf
  refine zr_iconst (v := 0) 0 1 C (by decide +kernel) rfl rfl ?_
  refine zr_istore_n 3 [some (.ref (h 3)), some (.int p1), some (.int p2), some (.int 0)] 2 C (by decide +kernel) rfl (by decide) rfl rfl ?_
  exact w_Vi_hutJoins_2 C T E zfu _ _ _ _ hf
theorem y_Vi_hutJoins : zY yX9_hutJoins cX9_hutJoins 4 (some .boolean) 2 := ⟨q_879, q_75, by decide +kernel, by decide +kernel, by decide +kernel⟩
theorem k_Vi_hutJoins {l : Launch} {d : zD} {F : zF} {h : Nat → Nat} {σ : zS} {lv : List (Option Value)} {pc : Nat} {own : String} {cc : ByteArray} {nL fr lo idx : Nat} {rest : List Value} {β : Type} {kf : Int32 → zS → Option β} {o2 : β} {ad av : Nat → Nat}  {p1 : Int32} {p2 : Int32} (pc' : Nat) (C : zOk d F own cc nL fr lo) (E : zXe d ad av) (hd : decode cc pc = .ok (.invokevirtual idx, 3)) (hp : pc + 3 = pc') (hq : Cond.methodLink own idx yX9_hutJoins ∈ zW) (hm : 4 + 1 ≤ fr ∧ 8 + (4 + 11) + 96 ≤ lo) (hr : (rest.map fun v => v.category).sum ≤ 8) (hf : zbd (f_Vi_hutJoins p1 p2 σ) kf = some o2) (K : ∀ (r : Int32) (σ' : zS), kf r σ' = some o2 → V l d F 0 0 (XW d h σ') lv pc' (.int r :: rest)) : V l d F 0 0 (XW d h σ) lv pc (.int p2 :: .int p1 :: .ref (h 3) :: rest) := by
  obtain ⟨q, h1, h2⟩ := zbd_some hf
  exact zr_callV y_Vi_hutJoins ⟨q_878, q_30⟩ 3 rfl rfl (As := [.int p1, .int p2]) (m_Vi_hutJoins E h1) rfl rfl pc' C hd hp hq hm hr (K _ _ h2)
/-! StepsBeyond$Village.shedFor(II)I -/
def f_Vi_shedFor_37 (k10 : Int32 → Int32 → Int32 → zS → Option (Int32 × zS)) (x1 : Int32) (x2 : Int32) (x3 : Int32) (σ : zS) : Option (Int32 × zS) :=
  k10 x1 x2 (x3 + 1) σ
set_option maxRecDepth 4000 in
theorem w_Vi_shedFor_37 {l : Launch} {d : zD} {F : zF} {h : Nat → Nat} {out : Int32 × zS} {ad av : Nat → Nat}  {k10 : Int32 → Int32 → Int32 → zS → Option (Int32 × zS)} (C : zOk d F RX9 cX9_shedFor 4 5 119) (T : zRt d F (some .int) (some (.int out.1)) (XW d h out.2)) (E : zXe d ad av) (H10 : ∀ (x1 : Int32) (x2 : Int32) (x3 : Int32) (σ : zS), k10 x1 x2 x3 σ = some out → V l d F 0 0 (XW d h σ) [some (.ref (h 3)), some (.int x1), some (.int x2), some (.int x3)] 10 []) (x1 : Int32) (x2 : Int32) (x3 : Int32) (σ : zS) (hf : f_Vi_shedFor_37 k10 x1 x2 x3 σ = some out) : V l d F 0 0 (XW d h σ) [some (.ref (h 3)), some (.int x1), some (.int x2), some (.int x3)] 37 [] := by
  unfold f_Vi_shedFor_37 at hf
  refine zr_iinc (j := 1) 3 [some (.ref (h 3)), some (.int x1), some (.int x2), some (.int (x3 + 1))] 40 C (by decide +kernel) rfl rfl rfl (by decide) rfl rfl ?_
  refine zr_goto (off := -30) 10 C (by decide +kernel) (by decide) ?_
  exact H10 _ _ _ _ hf
def f_Vi_shedFor_10b (k10 : Int32 → Int32 → Int32 → zS → Option (Int32 × zS)) (x1 : Int32) (x2 : Int32) (x3 : Int32) (σ : zS) : Option (Int32 × zS) :=
  (if 1600 ≤ x3 then
  some (-6, σ)
  else
  zbd (f_Vi_hutJoins x3 x1 σ) fun r2 σ1 =>
  (if r2 = 0 then
  f_Vi_shedFor_37 k10 x1 x2 x3 σ1
  else
  zbd (f_Vi_hutJoins x3 x2 σ1) fun r4 σ3 =>
  (if r4 = 0 then
  f_Vi_shedFor_37 k10 x1 x2 x3 σ3
  else
  some (x3, σ3))))
set_option maxRecDepth 4000 in
theorem w_Vi_shedFor_10b {l : Launch} {d : zD} {F : zF} {h : Nat → Nat} {out : Int32 × zS} {ad av : Nat → Nat}  {k10 : Int32 → Int32 → Int32 → zS → Option (Int32 × zS)} (C : zOk d F RX9 cX9_shedFor 4 5 119) (T : zRt d F (some .int) (some (.int out.1)) (XW d h out.2)) (E : zXe d ad av) (H10 : ∀ (x1 : Int32) (x2 : Int32) (x3 : Int32) (σ : zS), k10 x1 x2 x3 σ = some out → V l d F 0 0 (XW d h σ) [some (.ref (h 3)), some (.int x1), some (.int x2), some (.int x3)] 10 []) (x1 : Int32) (x2 : Int32) (x3 : Int32) (σ : zS) (hf : f_Vi_shedFor_10b k10 x1 x2 x3 σ = some out) : V l d F 0 0 (XW d h σ) [some (.ref (h 3)), some (.int x1), some (.int x2), some (.int x3)] 10 [] := by
  unfold f_Vi_shedFor_10b at hf
  refine zr_iload_n 3 11 C (by decide +kernel) rfl rfl ?_
  refine zr_sipush (v := 1600) 1600 14 C (by decide +kernel) rfl rfl ?_
  refine zr_icmp_ge (off := 29) 43 17 C (by decide +kernel) (by decide) rfl hf (fun hf => ?_) (fun hf => ?_)
  · refine zr_bipush (v := (-6)) (-6) 45 C (by decide +kernel) rfl rfl ?_
    obtain rfl := Option.some.inj hf
    exact zr_iret C (by decide +kernel) T
  · refine zr_aload_n 0 18 C (by decide +kernel) rfl rfl ?_
    refine zr_iload_n 3 19 C (by decide +kernel) rfl rfl ?_
    refine zr_iload_n 1 20 C (by decide +kernel) rfl rfl ?_
    refine k_Vi_hutJoins (idx := 91) 23 C E (by decide +kernel) rfl q_876 (zb2 rfl rfl) (Nat.le_of_ble_eq_true rfl) hf (fun r2 σ1 hf => ?_)
    refine zr_if_eq (off := 14) 37 26 C (by decide +kernel) (by decide) rfl hf (fun hf => ?_) (fun hf => ?_)
    · exact w_Vi_shedFor_37 C T E H10 _ _ _ _ hf
    · refine zr_aload_n 0 27 C (by decide +kernel) rfl rfl ?_
      refine zr_iload_n 3 28 C (by decide +kernel) rfl rfl ?_
      refine zr_iload_n 2 29 C (by decide +kernel) rfl rfl ?_
      refine k_Vi_hutJoins (idx := 91) 32 C E (by decide +kernel) rfl q_876 (zb2 rfl rfl) (Nat.le_of_ble_eq_true rfl) hf (fun r4 σ3 hf => ?_)
      refine zr_if_eq (off := 5) 37 35 C (by decide +kernel) (by decide) rfl hf (fun hf => ?_) (fun hf => ?_)
      · exact w_Vi_shedFor_37 C T E H10 _ _ _ _ hf
      · refine zr_iload_n 3 36 C (by decide +kernel) rfl rfl ?_
        obtain rfl := Option.some.inj hf
        exact zr_iret C (by decide +kernel) T
def f_Vi_shedFor_10  : Nat → Int32 → Int32 → Int32 → zS → Option (Int32 × zS)
  | 0, _, _, _, _ => none
  | n + 1, x1, x2, x3,  σ => f_Vi_shedFor_10b (fun x1 x2 x3 σ => f_Vi_shedFor_10  n x1 x2 x3 σ) x1 x2 x3 σ
theorem w_Vi_shedFor_10 {l : Launch} {d : zD} {F : zF} {h : Nat → Nat} {out : Int32 × zS} {ad av : Nat → Nat}   (C : zOk d F RX9 cX9_shedFor 4 5 119) (T : zRt d F (some .int) (some (.int out.1)) (XW d h out.2)) (E : zXe d ad av)  : ∀ (n : Nat) (x1 : Int32) (x2 : Int32) (x3 : Int32) (σ : zS), f_Vi_shedFor_10  n x1 x2 x3 σ = some out → V l d F 0 0 (XW d h σ) [some (.ref (h 3)), some (.int x1), some (.int x2), some (.int x3)] 10 [] := by
  intro n
  induction n with
  | zero =>
    intro x1 x2 x3 σ hf
    cases hf
  | succ n ih =>
    intro x1 x2 x3 σ hf
    exact w_Vi_shedFor_10b C T E ih x1 x2 x3 σ hf
def f_Vi_shedFor (p1 : Int32) (p2 : Int32) (σ : zS) : Option (Int32 × zS) :=
  zlt (zsf σ 20 3200 0) fun σ1 =>
  f_Vi_shedFor_10 zfu p1 p2 0 σ1
set_option maxRecDepth 4000 in
theorem m_Vi_shedFor {l : Launch} {d : zD} {h : Nat → Nat} {out : Int32 × zS} {σ : zS} {ad av : Nat → Nat} {p1 : Int32} {p2 : Int32} (E : zXe d ad av) (hf : f_Vi_shedFor p1 p2 σ = some out) : zM l yX9_shedFor cX9_shedFor 4 (some .int) 5 119 d [.ref (h 3), .int p1, .int p2] (XW d h σ) (XW d h out.2) (some (.int out.1)) := by
  refine zM_of [some (.ref (h 3)), some (.int p1), some (.int p2), none] (by decide +kernel) rfl (Nat.le_of_ble_eq_true rfl) (fun F C T => ?_)
  unfold f_Vi_shedFor at hf
  refine zr_aload_n 0 1 C (by decide +kernel) rfl rfl ?_
  refine xg_3_3 (idx := 21) 4 C (by decide +kernel) rfl q_188 ?_
  refine zr_iconst (v := 0) 0 5 C (by decide +kernel) rfl rfl ?_
  refine xf_20 (idx := 44) 8 C (by decide +kernel) rfl q_526 (zb2 rfl rfl) (Nat.le_of_ble_eq_true rfl) hf (fun σ1 hf => ?_)
  refine zr_iconst (v := 0) 0 9 C (by decide +kernel) rfl rfl ?_
  refine zr_istore_n 3 [some (.ref (h 3)), some (.int p1), some (.int p2), some (.int 0)] 10 C (by decide +kernel) rfl (by decide) rfl rfl ?_
  exact w_Vi_shedFor_10 C T E zfu _ _ _ _ hf
theorem y_Vi_shedFor : zY yX9_shedFor cX9_shedFor 4 (some .int) 2 := ⟨q_875, q_75, by decide +kernel, by decide +kernel, by decide +kernel⟩
theorem k_Vi_shedFor {l : Launch} {d : zD} {F : zF} {h : Nat → Nat} {σ : zS} {lv : List (Option Value)} {pc : Nat} {own : String} {cc : ByteArray} {nL fr lo idx : Nat} {rest : List Value} {β : Type} {kf : Int32 → zS → Option β} {o2 : β} {ad av : Nat → Nat}  {p1 : Int32} {p2 : Int32} (pc' : Nat) (C : zOk d F own cc nL fr lo) (E : zXe d ad av) (hd : decode cc pc = .ok (.invokevirtual idx, 3)) (hp : pc + 3 = pc') (hq : Cond.methodLink own idx yX9_shedFor ∈ zW) (hm : 5 + 1 ≤ fr ∧ 8 + (4 + 11) + 119 ≤ lo) (hr : (rest.map fun v => v.category).sum ≤ 8) (hf : zbd (f_Vi_shedFor p1 p2 σ) kf = some o2) (K : ∀ (r : Int32) (σ' : zS), kf r σ' = some o2 → V l d F 0 0 (XW d h σ') lv pc' (.int r :: rest)) : V l d F 0 0 (XW d h σ) lv pc (.int p2 :: .int p1 :: .ref (h 3) :: rest) := by
  obtain ⟨q, h1, h2⟩ := zbd_some hf
  exact zr_callV y_Vi_shedFor ⟨q_873, q_874⟩ 3 rfl rfl (As := [.int p1, .int p2]) (m_Vi_shedFor E h1) rfl rfl pc' C hd hp hq hm hr (K _ _ h2)
/-! StepsBeyond$Village.isByOne(III)Z -/
def f_Vi_isByOne_43 (k3 : Int32 → Int32 → Int32 → Int32 → zS → Option (Int32 × zS)) (x1 : Int32) (x2 : Int32) (x3 : Int32) (x4 : Int32) (σ : zS) : Option (Int32 × zS) :=
  k3 x1 x2 x3 (x4 + 1) σ
set_option maxRecDepth 4000 in
theorem w_Vi_isByOne_43 {l : Launch} {d : zD} {F : zF} {h : Nat → Nat} {out : Int32 × zS} {ad av : Nat → Nat}  {k3 : Int32 → Int32 → Int32 → Int32 → zS → Option (Int32 × zS)} (C : zOk d F RX9 cX9_isByOne 5 2 42) (T : zRt d F (some .boolean) (some (.int out.1)) (XW d h out.2)) (E : zXe d ad av) (H3 : ∀ (x1 : Int32) (x2 : Int32) (x3 : Int32) (x4 : Int32) (σ : zS), k3 x1 x2 x3 x4 σ = some out → V l d F 0 0 (XW d h σ) [some (.ref (h 3)), some (.int x1), some (.int x2), some (.int x3), some (.int x4)] 3 []) (x1 : Int32) (x2 : Int32) (x3 : Int32) (x4 : Int32) (σ : zS) (hf : f_Vi_isByOne_43 k3 x1 x2 x3 x4 σ = some out) : V l d F 0 0 (XW d h σ) [some (.ref (h 3)), some (.int x1), some (.int x2), some (.int x3), some (.int x4)] 43 [] := by
  unfold f_Vi_isByOne_43 at hf
  refine zr_iinc (j := 1) 4 [some (.ref (h 3)), some (.int x1), some (.int x2), some (.int x3), some (.int (x4 + 1))] 46 C (by decide +kernel) rfl rfl rfl (by decide) rfl rfl ?_
  refine zr_goto (off := -43) 3 C (by decide +kernel) (by decide) ?_
  exact H3 _ _ _ _ _ hf
def f_Vi_isByOne_3b (k3 : Int32 → Int32 → Int32 → Int32 → zS → Option (Int32 × zS)) (x1 : Int32) (x2 : Int32) (x3 : Int32) (x4 : Int32) (σ : zS) : Option (Int32 × zS) :=
  (if (σ.1 307) ≤ x4 then
  some (0, σ)
  else
  zbd (f_X_has x2 x4 σ) fun r2 σ1 =>
  (if r2 = 0 then
  f_Vi_isByOne_43 k3 x1 x2 x3 x4 σ1
  else
  zin x1 20 (zin x4 20 (zbd (f_X_apart (σ1.2 17 x1.toNatClampNeg) (σ1.2 17 x4.toNatClampNeg) σ1) fun r4 σ3 =>
  (if x3 < r4 then
  f_Vi_isByOne_43 k3 x1 x2 x3 x4 σ3
  else
  some (1, σ3))))))
set_option maxRecDepth 4000 in
theorem w_Vi_isByOne_3b {l : Launch} {d : zD} {F : zF} {h : Nat → Nat} {out : Int32 × zS} {ad av : Nat → Nat}  {k3 : Int32 → Int32 → Int32 → Int32 → zS → Option (Int32 × zS)} (C : zOk d F RX9 cX9_isByOne 5 2 42) (T : zRt d F (some .boolean) (some (.int out.1)) (XW d h out.2)) (E : zXe d ad av) (H3 : ∀ (x1 : Int32) (x2 : Int32) (x3 : Int32) (x4 : Int32) (σ : zS), k3 x1 x2 x3 x4 σ = some out → V l d F 0 0 (XW d h σ) [some (.ref (h 3)), some (.int x1), some (.int x2), some (.int x3), some (.int x4)] 3 []) (x1 : Int32) (x2 : Int32) (x3 : Int32) (x4 : Int32) (σ : zS) (hf : f_Vi_isByOne_3b k3 x1 x2 x3 x4 σ = some out) : V l d F 0 0 (XW d h σ) [some (.ref (h 3)), some (.int x1), some (.int x2), some (.int x3), some (.int x4)] 3 [] := by
  unfold f_Vi_isByOne_3b at hf
  refine zr_iload 4 5 C (by decide +kernel) rfl rfl ?_
  refine zr_aload_n 0 6 C (by decide +kernel) rfl rfl ?_
  refine xg_3_7 (idx := 37) 9 C (by decide +kernel) rfl q_192 ?_
  refine zr_icmp_ge (off := 40) 49 12 C (by decide +kernel) (by decide) rfl hf (fun hf => ?_) (fun hf => ?_)
  · refine zr_iconst (v := 0) 0 50 C (by decide +kernel) rfl rfl ?_
    obtain rfl := Option.some.inj hf
    exact zr_zret C (by decide +kernel) rfl T
  · refine zr_iload_n 2 13 C (by decide +kernel) rfl rfl ?_
    refine zr_iload 4 15 C (by decide +kernel) rfl rfl ?_
    refine kN_X_has (idx := 84) 18 C E (by decide +kernel) rfl (zn_8 E) (zb2 rfl rfl) (Nat.le_of_ble_eq_true rfl) hf (fun r2 σ1 hf => ?_)
    refine zr_if_eq (off := 25) 43 21 C (by decide +kernel) (by decide) rfl hf (fun hf => ?_) (fun hf => ?_)
    · exact w_Vi_isByOne_43 C T E H3 _ _ _ _ _ hf
    · refine zr_aload_n 0 22 C (by decide +kernel) rfl rfl ?_
      refine xg_3_0 (idx := 9) 25 C (by decide +kernel) rfl q_182 ?_
      refine zr_iload_n 1 26 C (by decide +kernel) rfl rfl ?_
      refine xl_17 27 C (by decide +kernel) rfl hf (fun hf => ?_)
      refine zr_aload_n 0 28 C (by decide +kernel) rfl rfl ?_
      refine xg_3_0 (idx := 9) 31 C (by decide +kernel) rfl q_182 ?_
      refine zr_iload 4 33 C (by decide +kernel) rfl rfl ?_
      refine xl_17 34 C (by decide +kernel) rfl hf (fun hf => ?_)
      refine kN_X_apart (idx := 103) 37 C E (by decide +kernel) rfl (zn_11 E) (zb2 rfl rfl) (Nat.le_of_ble_eq_true rfl) hf (fun r4 σ3 hf => ?_)
      refine zr_iload_n 3 38 C (by decide +kernel) rfl rfl ?_
      refine zr_icmp_gt (off := 5) 43 41 C (by decide +kernel) (by decide) rfl hf (fun hf => ?_) (fun hf => ?_)
      · exact w_Vi_isByOne_43 C T E H3 _ _ _ _ _ hf
      · refine zr_iconst (v := 1) 1 42 C (by decide +kernel) rfl rfl ?_
        obtain rfl := Option.some.inj hf
        exact zr_zret C (by decide +kernel) rfl T
def f_Vi_isByOne_3  : Nat → Int32 → Int32 → Int32 → Int32 → zS → Option (Int32 × zS)
  | 0, _, _, _, _, _ => none
  | n + 1, x1, x2, x3, x4,  σ => f_Vi_isByOne_3b (fun x1 x2 x3 x4 σ => f_Vi_isByOne_3  n x1 x2 x3 x4 σ) x1 x2 x3 x4 σ
theorem w_Vi_isByOne_3 {l : Launch} {d : zD} {F : zF} {h : Nat → Nat} {out : Int32 × zS} {ad av : Nat → Nat}   (C : zOk d F RX9 cX9_isByOne 5 2 42) (T : zRt d F (some .boolean) (some (.int out.1)) (XW d h out.2)) (E : zXe d ad av)  : ∀ (n : Nat) (x1 : Int32) (x2 : Int32) (x3 : Int32) (x4 : Int32) (σ : zS), f_Vi_isByOne_3  n x1 x2 x3 x4 σ = some out → V l d F 0 0 (XW d h σ) [some (.ref (h 3)), some (.int x1), some (.int x2), some (.int x3), some (.int x4)] 3 [] := by
  intro n
  induction n with
  | zero =>
    intro x1 x2 x3 x4 σ hf
    cases hf
  | succ n ih =>
    intro x1 x2 x3 x4 σ hf
    exact w_Vi_isByOne_3b C T E ih x1 x2 x3 x4 σ hf
def f_Vi_isByOne (p1 : Int32) (p2 : Int32) (p3 : Int32) (σ : zS) : Option (Int32 × zS) :=
  f_Vi_isByOne_3 zfu p1 p2 p3 0 σ
set_option maxRecDepth 4000 in
theorem m_Vi_isByOne {l : Launch} {d : zD} {h : Nat → Nat} {out : Int32 × zS} {σ : zS} {ad av : Nat → Nat} {p1 : Int32} {p2 : Int32} {p3 : Int32} (E : zXe d ad av) (hf : f_Vi_isByOne p1 p2 p3 σ = some out) : zM l yX9_isByOne cX9_isByOne 5 (some .boolean) 2 42 d [.ref (h 3), .int p1, .int p2, .int p3] (XW d h σ) (XW d h out.2) (some (.int out.1)) := by
  refine zM_of [some (.ref (h 3)), some (.int p1), some (.int p2), some (.int p3), none] (by decide +kernel) rfl (Nat.le_of_ble_eq_true rfl) (fun F C T => ?_)
  unfold f_Vi_isByOne at hf
  refine zr_iconst (v := 0) 0 1 C (by decide +kernel) rfl rfl ?_
  refine zr_istore 4 [some (.ref (h 3)), some (.int p1), some (.int p2), some (.int p3), some (.int 0)] 3 C (by decide +kernel) rfl (by decide) rfl rfl ?_
  exact w_Vi_isByOne_3 C T E zfu _ _ _ _ _ hf
theorem y_Vi_isByOne : zY yX9_isByOne cX9_isByOne 5 (some .boolean) 3 := ⟨q_899, q_75, by decide +kernel, by decide +kernel, by decide +kernel⟩
theorem k_Vi_isByOne {l : Launch} {d : zD} {F : zF} {h : Nat → Nat} {σ : zS} {lv : List (Option Value)} {pc : Nat} {own : String} {cc : ByteArray} {nL fr lo idx : Nat} {rest : List Value} {β : Type} {kf : Int32 → zS → Option β} {o2 : β} {ad av : Nat → Nat}  {p1 : Int32} {p2 : Int32} {p3 : Int32} (pc' : Nat) (C : zOk d F own cc nL fr lo) (E : zXe d ad av) (hd : decode cc pc = .ok (.invokevirtual idx, 3)) (hp : pc + 3 = pc') (hq : Cond.methodLink own idx yX9_isByOne ∈ zW) (hm : 2 + 1 ≤ fr ∧ 8 + (5 + 11) + 42 ≤ lo) (hr : (rest.map fun v => v.category).sum ≤ 8) (hf : zbd (f_Vi_isByOne p1 p2 p3 σ) kf = some o2) (K : ∀ (r : Int32) (σ' : zS), kf r σ' = some o2 → V l d F 0 0 (XW d h σ') lv pc' (.int r :: rest)) : V l d F 0 0 (XW d h σ) lv pc (.int p3 :: .int p2 :: .int p1 :: .ref (h 3) :: rest) := by
  obtain ⟨q, h1, h2⟩ := zbd_some hf
  exact zr_callV y_Vi_isByOne ⟨q_898, q_33⟩ 3 rfl rfl (As := [.int p1, .int p2, .int p3]) (m_Vi_isByOne E h1) rfl rfl pc' C hd hp hq hm hr (K _ _ h2)
/-! StepsBeyond$Village.heldNext(II)I -/
def f_Vi_heldNext_43 (k5 : Int32 → Int32 → Int32 → Int32 → zS → Option (Int32 × zS)) (x1 : Int32) (x2 : Int32) (x3 : Int32) (x4 : Int32) (σ : zS) : Option (Int32 × zS) :=
  k5 x1 x2 x3 (x4 + 1) σ
set_option maxRecDepth 4000 in
theorem w_Vi_heldNext_43 {l : Launch} {d : zD} {F : zF} {h : Nat → Nat} {out : Int32 × zS} {ad av : Nat → Nat}  {k5 : Int32 → Int32 → Int32 → Int32 → zS → Option (Int32 × zS)} (C : zOk d F RX9 cX9_heldNext 5 3 68) (T : zRt d F (some .int) (some (.int out.1)) (XW d h out.2)) (E : zXe d ad av) (H5 : ∀ (x1 : Int32) (x2 : Int32) (x3 : Int32) (x4 : Int32) (σ : zS), k5 x1 x2 x3 x4 σ = some out → V l d F 0 0 (XW d h σ) [some (.ref (h 3)), some (.int x1), some (.int x2), some (.int x3), some (.int x4)] 5 []) (x1 : Int32) (x2 : Int32) (x3 : Int32) (x4 : Int32) (σ : zS) (hf : f_Vi_heldNext_43 k5 x1 x2 x3 x4 σ = some out) : V l d F 0 0 (XW d h σ) [some (.ref (h 3)), some (.int x1), some (.int x2), some (.int x3), some (.int x4)] 43 [] := by
  unfold f_Vi_heldNext_43 at hf
  refine zr_iinc (j := 1) 4 [some (.ref (h 3)), some (.int x1), some (.int x2), some (.int x3), some (.int (x4 + 1))] 46 C (by decide +kernel) rfl rfl rfl (by decide) rfl rfl ?_
  refine zr_goto (off := -41) 5 C (by decide +kernel) (by decide) ?_
  exact H5 _ _ _ _ _ hf
def f_Vi_heldNext_5b (k5 : Int32 → Int32 → Int32 → Int32 → zS → Option (Int32 × zS)) (x1 : Int32) (x2 : Int32) (x3 : Int32) (x4 : Int32) (σ : zS) : Option (Int32 × zS) :=
  (if (σ.1 307) ≤ x4 then
  some (x3, σ)
  else
  zbd (f_X_has x3 x4 σ) fun r2 σ1 =>
  (if r2 = 0 then
  zbd (f_Vi_isByOne x4 x1 x2 σ1) fun r4 σ3 =>
  (if r4 = 0 then
  f_Vi_heldNext_43 k5 x1 x2 x3 x4 σ3
  else
  zbd (f_Vi_townOf x4 σ3) fun r6 σ5 =>
  zlt (x3 ||| r6) fun v7 => 
  f_Vi_heldNext_43 k5 x1 x2 v7 x4 σ5)
  else
  f_Vi_heldNext_43 k5 x1 x2 x3 x4 σ1))
set_option maxRecDepth 4000 in
theorem w_Vi_heldNext_5b {l : Launch} {d : zD} {F : zF} {h : Nat → Nat} {out : Int32 × zS} {ad av : Nat → Nat}  {k5 : Int32 → Int32 → Int32 → Int32 → zS → Option (Int32 × zS)} (C : zOk d F RX9 cX9_heldNext 5 3 68) (T : zRt d F (some .int) (some (.int out.1)) (XW d h out.2)) (E : zXe d ad av) (H5 : ∀ (x1 : Int32) (x2 : Int32) (x3 : Int32) (x4 : Int32) (σ : zS), k5 x1 x2 x3 x4 σ = some out → V l d F 0 0 (XW d h σ) [some (.ref (h 3)), some (.int x1), some (.int x2), some (.int x3), some (.int x4)] 5 []) (x1 : Int32) (x2 : Int32) (x3 : Int32) (x4 : Int32) (σ : zS) (hf : f_Vi_heldNext_5b k5 x1 x2 x3 x4 σ = some out) : V l d F 0 0 (XW d h σ) [some (.ref (h 3)), some (.int x1), some (.int x2), some (.int x3), some (.int x4)] 5 [] := by
  unfold f_Vi_heldNext_5b at hf
  refine zr_iload 4 7 C (by decide +kernel) rfl rfl ?_
  refine zr_aload_n 0 8 C (by decide +kernel) rfl rfl ?_
  refine xg_3_7 (idx := 37) 11 C (by decide +kernel) rfl q_192 ?_
  refine zr_icmp_ge (off := 38) 49 14 C (by decide +kernel) (by decide) rfl hf (fun hf => ?_) (fun hf => ?_)
  · refine zr_iload_n 3 50 C (by decide +kernel) rfl rfl ?_
    obtain rfl := Option.some.inj hf
    exact zr_iret C (by decide +kernel) T
  · refine zr_iload_n 3 15 C (by decide +kernel) rfl rfl ?_
    refine zr_iload 4 17 C (by decide +kernel) rfl rfl ?_
    refine kN_X_has (idx := 84) 20 C E (by decide +kernel) rfl (zn_8 E) (zb2 rfl rfl) (Nat.le_of_ble_eq_true rfl) hf (fun r2 σ1 hf => ?_)
    refine zr_if_ne (off := 23) 43 23 C (by decide +kernel) (by decide) rfl hf (fun hf => ?_) (fun hf => ?_)
    · exact w_Vi_heldNext_43 C T E H5 _ _ _ _ _ hf
    · refine zr_aload_n 0 24 C (by decide +kernel) rfl rfl ?_
      refine zr_iload 4 26 C (by decide +kernel) rfl rfl ?_
      refine zr_iload_n 1 27 C (by decide +kernel) rfl rfl ?_
      refine zr_iload_n 2 28 C (by decide +kernel) rfl rfl ?_
      refine k_Vi_isByOne (idx := 100) 31 C E (by decide +kernel) rfl q_896 (zb2 rfl rfl) (Nat.le_of_ble_eq_true rfl) hf (fun r4 σ3 hf => ?_)
      refine zr_if_eq (off := 12) 43 34 C (by decide +kernel) (by decide) rfl hf (fun hf => ?_) (fun hf => ?_)
      · exact w_Vi_heldNext_43 C T E H5 _ _ _ _ _ hf
      · refine zr_iload_n 3 35 C (by decide +kernel) rfl rfl ?_
        refine zr_aload_n 0 36 C (by decide +kernel) rfl rfl ?_
        refine zr_iload 4 38 C (by decide +kernel) rfl rfl ?_
        refine k_Vi_townOf (idx := 88) 41 C E (by decide +kernel) rfl q_674 (zb2 rfl rfl) (Nat.le_of_ble_eq_true rfl) hf (fun r6 σ5 hf => ?_)
        refine zr_ior 42 C (by decide +kernel) rfl ?_
        refine zr_name hf (fun v7 hf => ?_)
        refine zr_istore_n 3 [some (.ref (h 3)), some (.int x1), some (.int x2), some (.int v7), some (.int x4)] 43 C (by decide +kernel) rfl (by decide) rfl rfl ?_
        exact w_Vi_heldNext_43 C T E H5 _ _ _ _ _ hf
def f_Vi_heldNext_5  : Nat → Int32 → Int32 → Int32 → Int32 → zS → Option (Int32 × zS)
  | 0, _, _, _, _, _ => none
  | n + 1, x1, x2, x3, x4,  σ => f_Vi_heldNext_5b (fun x1 x2 x3 x4 σ => f_Vi_heldNext_5  n x1 x2 x3 x4 σ) x1 x2 x3 x4 σ
theorem w_Vi_heldNext_5 {l : Launch} {d : zD} {F : zF} {h : Nat → Nat} {out : Int32 × zS} {ad av : Nat → Nat}   (C : zOk d F RX9 cX9_heldNext 5 3 68) (T : zRt d F (some .int) (some (.int out.1)) (XW d h out.2)) (E : zXe d ad av)  : ∀ (n : Nat) (x1 : Int32) (x2 : Int32) (x3 : Int32) (x4 : Int32) (σ : zS), f_Vi_heldNext_5  n x1 x2 x3 x4 σ = some out → V l d F 0 0 (XW d h σ) [some (.ref (h 3)), some (.int x1), some (.int x2), some (.int x3), some (.int x4)] 5 [] := by
  intro n
  induction n with
  | zero =>
    intro x1 x2 x3 x4 σ hf
    cases hf
  | succ n ih =>
    intro x1 x2 x3 x4 σ hf
    exact w_Vi_heldNext_5b C T E ih x1 x2 x3 x4 σ hf
def f_Vi_heldNext (p1 : Int32) (p2 : Int32) (σ : zS) : Option (Int32 × zS) :=
  f_Vi_heldNext_5 zfu p1 p2 p1 0 σ
set_option maxRecDepth 4000 in
theorem m_Vi_heldNext {l : Launch} {d : zD} {h : Nat → Nat} {out : Int32 × zS} {σ : zS} {ad av : Nat → Nat} {p1 : Int32} {p2 : Int32} (E : zXe d ad av) (hf : f_Vi_heldNext p1 p2 σ = some out) : zM l yX9_heldNext cX9_heldNext 5 (some .int) 3 68 d [.ref (h 3), .int p1, .int p2] (XW d h σ) (XW d h out.2) (some (.int out.1)) := by
  refine zM_of [some (.ref (h 3)), some (.int p1), some (.int p2), none, none] (by decide +kernel) rfl (Nat.le_of_ble_eq_true rfl) (fun F C T => ?_)
  unfold f_Vi_heldNext at hf
  refine zr_iload_n 1 1 C (by decide +kernel) rfl rfl ?_
  refine zr_istore_n 3 [some (.ref (h 3)), some (.int p1), some (.int p2), some (.int p1), none] 2 C (by decide +kernel) rfl (by decide) rfl rfl ?_
  refine zr_iconst (v := 0) 0 3 C (by decide +kernel) rfl rfl ?_
  refine zr_istore 4 [some (.ref (h 3)), some (.int p1), some (.int p2), some (.int p1), some (.int 0)] 5 C (by decide +kernel) rfl (by decide) rfl rfl ?_
  exact w_Vi_heldNext_5 C T E zfu _ _ _ _ _ hf
theorem y_Vi_heldNext : zY yX9_heldNext cX9_heldNext 5 (some .int) 2 := ⟨q_895, q_75, by decide +kernel, by decide +kernel, by decide +kernel⟩
theorem k_Vi_heldNext {l : Launch} {d : zD} {F : zF} {h : Nat → Nat} {σ : zS} {lv : List (Option Value)} {pc : Nat} {own : String} {cc : ByteArray} {nL fr lo idx : Nat} {rest : List Value} {β : Type} {kf : Int32 → zS → Option β} {o2 : β} {ad av : Nat → Nat}  {p1 : Int32} {p2 : Int32} (pc' : Nat) (C : zOk d F own cc nL fr lo) (E : zXe d ad av) (hd : decode cc pc = .ok (.invokevirtual idx, 3)) (hp : pc + 3 = pc') (hq : Cond.methodLink own idx yX9_heldNext ∈ zW) (hm : 3 + 1 ≤ fr ∧ 8 + (5 + 11) + 68 ≤ lo) (hr : (rest.map fun v => v.category).sum ≤ 8) (hf : zbd (f_Vi_heldNext p1 p2 σ) kf = some o2) (K : ∀ (r : Int32) (σ' : zS), kf r σ' = some o2 → V l d F 0 0 (XW d h σ') lv pc' (.int r :: rest)) : V l d F 0 0 (XW d h σ) lv pc (.int p2 :: .int p1 :: .ref (h 3) :: rest) := by
  obtain ⟨q, h1, h2⟩ := zbd_some hf
  exact zr_callV y_Vi_heldNext ⟨q_894, q_32⟩ 3 rfl rfl (As := [.int p1, .int p2]) (m_Vi_heldNext E h1) rfl rfl pc' C hd hp hq hm hr (K _ _ h2)
/-! StepsBeyond$Village.roundsTo(III)I -/
def f_Vi_roundsTo_10b (k10 : Int32 → Int32 → Int32 → Int32 → zS → Option (Int32 × zS)) (x2 : Int32) (x3 : Int32) (x4 : Int32) (x5 : Int32) (σ : zS) : Option (Int32 × zS) :=
  (if 20 < x5 then
  some (-3, σ)
  else
  zbd (f_X_has x4 x2 σ) fun r2 σ1 =>
  (if r2 = 0 then
  zbd (f_Vi_heldNext x4 x3 σ1) fun r4 σ3 =>
  (if r4 = x4 then
  some (-3, σ3)
  else
  k10 x2 x3 r4 (x5 + 1) σ3)
  else
  some (x5, σ1)))
set_option maxRecDepth 4000 in
theorem w_Vi_roundsTo_10b {l : Launch} {d : zD} {F : zF} {h : Nat → Nat} {out : Int32 × zS} {ad av : Nat → Nat}  {k10 : Int32 → Int32 → Int32 → Int32 → zS → Option (Int32 × zS)} (C : zOk d F RX9 cX9_roundsTo 7 4 92) (T : zRt d F (some .int) (some (.int out.1)) (XW d h out.2)) (E : zXe d ad av) (H10 : ∀ (x2 : Int32) (x3 : Int32) (x4 : Int32) (x5 : Int32) (σ : zS), k10 x2 x3 x4 x5 σ = some out → V l d F 0 0 (XW d h σ) [some (.ref (h 3)), none, some (.int x2), some (.int x3), some (.int x4), some (.int x5), none] 10 []) (x2 : Int32) (x3 : Int32) (x4 : Int32) (x5 : Int32) (σ : zS) (hf : f_Vi_roundsTo_10b k10 x2 x3 x4 x5 σ = some out) : V l d F 0 0 (XW d h σ) [some (.ref (h 3)), none, some (.int x2), some (.int x3), some (.int x4), some (.int x5), none] 10 [] := by
  unfold f_Vi_roundsTo_10b at hf
  refine zr_iload 5 12 C (by decide +kernel) rfl rfl ?_
  refine zr_bipush (v := 20) 20 14 C (by decide +kernel) rfl rfl ?_
  refine zr_icmp_gt (off := 44) 58 17 C (by decide +kernel) (by decide) rfl hf (fun hf => ?_) (fun hf => ?_)
  · refine zr_bipush (v := (-3)) (-3) 60 C (by decide +kernel) rfl rfl ?_
    obtain rfl := Option.some.inj hf
    exact zr_iret C (by decide +kernel) T
  · refine zr_iload 4 19 C (by decide +kernel) rfl rfl ?_
    refine zr_iload_n 2 20 C (by decide +kernel) rfl rfl ?_
    refine kN_X_has (idx := 84) 23 C E (by decide +kernel) rfl (zn_8 E) (zb2 rfl rfl) (Nat.le_of_ble_eq_true rfl) hf (fun r2 σ1 hf => ?_)
    refine zr_if_eq (off := 6) 29 26 C (by decide +kernel) (by decide) rfl hf (fun hf => ?_) (fun hf => ?_)
    · refine zr_aload_n 0 30 C (by decide +kernel) rfl rfl ?_
      refine zr_iload 4 32 C (by decide +kernel) rfl rfl ?_
      refine zr_iload_n 3 33 C (by decide +kernel) rfl rfl ?_
      refine k_Vi_heldNext (idx := 97) 36 C E (by decide +kernel) rfl q_892 (zb2 rfl rfl) (Nat.le_of_ble_eq_true rfl) hf (fun r4 σ3 hf => ?_)
      refine zr_istore 6 [some (.ref (h 3)), none, some (.int x2), some (.int x3), some (.int x4), some (.int x5), some (.int r4)] 38 C (by decide +kernel) rfl (by decide) rfl rfl ?_
      refine zr_iload 6 40 C (by decide +kernel) rfl rfl ?_
      refine zr_iload 4 42 C (by decide +kernel) rfl rfl ?_
      refine zr_icmp_ne (off := 6) 48 45 C (by decide +kernel) (by decide) rfl hf (fun hf => ?_) (fun hf => ?_)
      · refine zr_iload 6 50 C (by decide +kernel) rfl rfl ?_
        refine zr_istore 4 [some (.ref (h 3)), none, some (.int x2), some (.int x3), some (.int r4), some (.int x5), some (.int r4)] 52 C (by decide +kernel) rfl (by decide) rfl rfl ?_
        refine zr_iinc (j := 1) 5 [some (.ref (h 3)), none, some (.int x2), some (.int x3), some (.int r4), some (.int (x5 + 1)), some (.int r4)] 55 C (by decide +kernel) rfl rfl rfl (by decide) rfl rfl ?_
        refine zr_goto (off := -45) 10 C (by decide +kernel) (by decide) ?_
        refine zr_less (zA (zN (zA (zA (zA (zA (zN zE))))))) ?_
        exact H10 _ _ _ _ _ hf
      · refine zr_bipush (v := (-3)) (-3) 47 C (by decide +kernel) rfl rfl ?_
        obtain rfl := Option.some.inj hf
        exact zr_iret C (by decide +kernel) T
    · refine zr_iload 5 28 C (by decide +kernel) rfl rfl ?_
      obtain rfl := Option.some.inj hf
      exact zr_iret C (by decide +kernel) T
def f_Vi_roundsTo_10  : Nat → Int32 → Int32 → Int32 → Int32 → zS → Option (Int32 × zS)
  | 0, _, _, _, _, _ => none
  | n + 1, x2, x3, x4, x5,  σ => f_Vi_roundsTo_10b (fun x2 x3 x4 x5 σ => f_Vi_roundsTo_10  n x2 x3 x4 x5 σ) x2 x3 x4 x5 σ
theorem w_Vi_roundsTo_10 {l : Launch} {d : zD} {F : zF} {h : Nat → Nat} {out : Int32 × zS} {ad av : Nat → Nat}   (C : zOk d F RX9 cX9_roundsTo 7 4 92) (T : zRt d F (some .int) (some (.int out.1)) (XW d h out.2)) (E : zXe d ad av)  : ∀ (n : Nat) (x2 : Int32) (x3 : Int32) (x4 : Int32) (x5 : Int32) (σ : zS), f_Vi_roundsTo_10  n x2 x3 x4 x5 σ = some out → V l d F 0 0 (XW d h σ) [some (.ref (h 3)), none, some (.int x2), some (.int x3), some (.int x4), some (.int x5), none] 10 [] := by
  intro n
  induction n with
  | zero =>
    intro x2 x3 x4 x5 σ hf
    cases hf
  | succ n ih =>
    intro x2 x3 x4 x5 σ hf
    exact w_Vi_roundsTo_10b C T E ih x2 x3 x4 x5 σ hf
def f_Vi_roundsTo (p1 : Int32) (p2 : Int32) (p3 : Int32) (σ : zS) : Option (Int32 × zS) :=
  zbd (f_Vi_townOf p1 σ) fun r2 σ1 =>
  f_Vi_roundsTo_10 zfu p2 p3 r2 0 σ1
set_option maxRecDepth 4000 in
theorem m_Vi_roundsTo {l : Launch} {d : zD} {h : Nat → Nat} {out : Int32 × zS} {σ : zS} {ad av : Nat → Nat} {p1 : Int32} {p2 : Int32} {p3 : Int32} (E : zXe d ad av) (hf : f_Vi_roundsTo p1 p2 p3 σ = some out) : zM l yX9_roundsTo cX9_roundsTo 7 (some .int) 4 92 d [.ref (h 3), .int p1, .int p2, .int p3] (XW d h σ) (XW d h out.2) (some (.int out.1)) := by
  refine zM_of [some (.ref (h 3)), some (.int p1), some (.int p2), some (.int p3), none, none, none] (by decide +kernel) rfl (Nat.le_of_ble_eq_true rfl) (fun F C T => ?_)
  unfold f_Vi_roundsTo at hf
  refine zr_aload_n 0 1 C (by decide +kernel) rfl rfl ?_
  refine zr_iload_n 1 2 C (by decide +kernel) rfl rfl ?_
  refine k_Vi_townOf (idx := 88) 5 C E (by decide +kernel) rfl q_674 (zb2 rfl rfl) (Nat.le_of_ble_eq_true rfl) hf (fun r2 σ1 hf => ?_)
  refine zr_istore 4 [some (.ref (h 3)), some (.int p1), some (.int p2), some (.int p3), some (.int r2), none, none] 7 C (by decide +kernel) rfl (by decide) rfl rfl ?_
  refine zr_iconst (v := 0) 0 8 C (by decide +kernel) rfl rfl ?_
  refine zr_istore 5 [some (.ref (h 3)), some (.int p1), some (.int p2), some (.int p3), some (.int r2), some (.int 0), none] 10 C (by decide +kernel) rfl (by decide) rfl rfl ?_
  refine zr_less (zA (zN (zA (zA (zA (zA (zN zE))))))) ?_
  exact w_Vi_roundsTo_10 C T E zfu _ _ _ _ _ hf
theorem y_Vi_roundsTo : zY yX9_roundsTo cX9_roundsTo 7 (some .int) 3 := ⟨q_891, q_75, by decide +kernel, by decide +kernel, by decide +kernel⟩
theorem k_Vi_roundsTo {l : Launch} {d : zD} {F : zF} {h : Nat → Nat} {σ : zS} {lv : List (Option Value)} {pc : Nat} {own : String} {cc : ByteArray} {nL fr lo idx : Nat} {rest : List Value} {β : Type} {kf : Int32 → zS → Option β} {o2 : β} {ad av : Nat → Nat}  {p1 : Int32} {p2 : Int32} {p3 : Int32} (pc' : Nat) (C : zOk d F own cc nL fr lo) (E : zXe d ad av) (hd : decode cc pc = .ok (.invokevirtual idx, 3)) (hp : pc + 3 = pc') (hq : Cond.methodLink own idx yX9_roundsTo ∈ zW) (hm : 4 + 1 ≤ fr ∧ 8 + (7 + 11) + 92 ≤ lo) (hr : (rest.map fun v => v.category).sum ≤ 8) (hf : zbd (f_Vi_roundsTo p1 p2 p3 σ) kf = some o2) (K : ∀ (r : Int32) (σ' : zS), kf r σ' = some o2 → V l d F 0 0 (XW d h σ') lv pc' (.int r :: rest)) : V l d F 0 0 (XW d h σ) lv pc (.int p3 :: .int p2 :: .int p1 :: .ref (h 3) :: rest) := by
  obtain ⟨q, h1, h2⟩ := zbd_some hf
  exact zr_callV y_Vi_roundsTo ⟨q_889, q_890⟩ 3 rfl rfl (As := [.int p1, .int p2, .int p3]) (m_Vi_roundsTo E h1) rfl rfl pc' C hd hp hq hm hr (K _ _ h2)
/-! StepsBeyond$Reader.append(I)V -/
def f_Rd_append (p1 : Int32) (σ : zS) : Option (Int32 × zS) :=
  (if 160 ≤ (σ.1 102) then
  some (0, σ)
  else
  zin (σ.1 102) 160 (zlt (zsa σ 15 (σ.1 102) p1) fun σ1 =>
  zlt (zsg σ1 102 ((σ1.1 102) + 1)) fun σ2 =>
  some (0, σ2)))
set_option maxRecDepth 4000 in
theorem m_Rd_append {l : Launch} {d : zD} {h : Nat → Nat} {out : Int32 × zS} {σ : zS} {ad av : Nat → Nat} {p1 : Int32} (E : zXe d ad av) (hf : f_Rd_append p1 σ = some out) : zM l yX4_append cX4_append 2 none 0 0 d [.ref (h 1), .int p1] (XW d h σ) (XW d h out.2) none := by
  refine zM_of [some (.ref (h 1)), some (.int p1)] (by decide +kernel) rfl (Nat.le_of_ble_eq_true rfl) (fun F C T => ?_)
  unfold f_Rd_append at hf
  refine zr_aload_n 0 1 C (by decide +kernel) rfl rfl ?_
  refine xg_1_2 (idx := 18) 4 C (by decide +kernel) rfl q_108 ?_
  refine zr_sipush (v := 160) 160 7 C (by decide +kernel) rfl rfl ?_
  refine zr_icmp_ge (off := 23) 30 10 C (by decide +kernel) (by decide) rfl hf (fun hf => ?_) (fun hf => ?_)
  · obtain rfl := Option.some.inj hf
    exact zr_vret C (by decide +kernel) T
  · refine zr_aload_n 0 11 C (by decide +kernel) rfl rfl ?_
    refine xg_1_0 (idx := 9) 14 C (by decide +kernel) rfl q_105 ?_
    refine zr_aload_n 0 15 C (by decide +kernel) rfl rfl ?_
    refine xg_1_2 (idx := 18) 18 C (by decide +kernel) rfl q_108 ?_
    refine zr_iload_n 1 19 C (by decide +kernel) rfl rfl ?_
    refine xs_15 20 C (by decide +kernel) rfl hf (fun σ1 hf => ?_)
    refine zr_aload_n 0 21 C (by decide +kernel) rfl rfl ?_
    refine zr_dup 22 C (by decide +kernel) rfl rfl ?_
    refine xg_1_2 (idx := 18) 25 C (by decide +kernel) rfl q_108 ?_
    refine zr_iconst (v := 1) 1 26 C (by decide +kernel) rfl rfl ?_
    refine zr_iadd 27 C (by decide +kernel) rfl ?_
    refine xp_1_2 (idx := 18) 30 C (by decide +kernel) rfl q_108 hf (fun σ2 hf => ?_)
    obtain rfl := Option.some.inj hf
    exact zr_vret C (by decide +kernel) T
theorem y_Rd_append : zY yX4_append cX4_append 2 none 1 := ⟨q_409, q_73, by decide +kernel, by decide +kernel, by decide +kernel⟩
theorem k_Rd_append {l : Launch} {d : zD} {F : zF} {h : Nat → Nat} {σ : zS} {lv : List (Option Value)} {pc : Nat} {own : String} {cc : ByteArray} {nL fr lo idx : Nat} {rest : List Value} {β : Type} {kf : Int32 → zS → Option β} {o2 : β} {ad av : Nat → Nat}  {p1 : Int32} (pc' : Nat) (C : zOk d F own cc nL fr lo) (E : zXe d ad av) (hd : decode cc pc = .ok (.invokevirtual idx, 3)) (hp : pc + 3 = pc') (hq : Cond.methodLink own idx yX4_append ∈ zW) (hm : 0 + 1 ≤ fr ∧ 8 + (2 + 11) + 0 ≤ lo) (hr : (rest.map fun v => v.category).sum ≤ 8) (hf : zbd (f_Rd_append p1 σ) kf = some o2) (K : ∀ (r : Int32) (σ' : zS), kf r σ' = some o2 → V l d F 0 0 (XW d h σ') lv pc' (rest)) : V l d F 0 0 (XW d h σ) lv pc (.int p1 :: .ref (h 1) :: rest) := by
  obtain ⟨q, h1, h2⟩ := zbd_some hf
  exact zr_callV y_Rd_append ⟨q_407, q_408⟩ 1 rfl rfl (As := [.int p1]) (m_Rd_append E h1) rfl rfl pc' C hd hp hq hm hr (K _ _ h2)

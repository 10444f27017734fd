/-! ===== X reads: words ===== -/
def xz (σ σ' : zS) : Prop := (∀ k, k ≠ 103 → ¬ (105 ≤ k ∧ k ≤ 108) → σ'.1 k = σ.1 k) ∧ ∀ q, q ≠ 16 → σ'.2 q = σ.2 q
theorem xz_rfl {a : zS} : xz a a := ⟨fun _ _ _ => rfl, fun _ _ => rfl⟩
theorem xz_tr {a b c : zS} (h : xz a b) (g : xz b c) : xz a c := ⟨fun k q1 q2 => (g.1 k q1 q2).trans (h.1 k q1 q2), fun q h1 => (g.2 q h1).trans (h.2 q h1)⟩
theorem xz_f {a b : zS} (h : xf a b) : xz a b := ⟨fun k _ q2 => h.1 k q2, fun q _ => by rw [h.2]⟩
theorem xt_c {q : Nat} (h : vt q) : ((xt q = 8 ↔ q = 20002) ∧ (xt q = 9 ↔ q = 20003) ∧ (xt q = 15 ↔ q = 20000) ∧ (xt q = 10 ↔ q = 20004) ∧ (xt q = 11 ↔ q = 20005) ∧ (xt q = 12 ↔ q = 20006) ∧ (xt q = 13 ↔ q = 20007) ∧ (xt q = 14 ↔ q = 20008)) ∧ ((xt q = 2 ↔ q < 10000) ∧ (xt q < 17 ↔ ¬ (10000 ≤ q ∧ q < 20000)) ∧ (xt q = 5 ↔ q = 30004) ∧ (xt q = 6 ↔ q = 30005) ∧ (xt q = 7 ↔ q = 30006) ∧ (xt q = 3 ↔ q = 30002) ∧ (xt q = 4 ↔ q = 30003) ∧ (xt q = 0 ↔ q = 30000)) := by
  by_cases h1 : q < 10000
  · have e : xt q = 2 := if_pos h1
    rw [e]
    refine ⟨⟨?_, ?_, ?_, ?_, ?_, ?_, ?_, ?_⟩, ?_, ?_, ?_, ?_, ?_, ?_, ?_, ?_⟩ <;> constructor <;> intro w <;> first | omega | exact absurd w (by decide) | rfl | decide
  · rcases (show q = 10000 ∨ q = 10001 ∨ q = 10002 ∨ q = 10003 ∨ q = 10004 ∨ q = 10005 ∨ q = 20000 ∨ q = 20002 ∨ q = 20003 ∨ q = 20004 ∨ q = 20005 ∨ q = 20006 ∨ q = 20007 ∨ q = 20008 ∨ q = 30000 ∨ q = 30001 ∨ q = 30002 ∨ q = 30003 ∨ q = 30004 ∨ q = 30005 ∨ q = 30006 by unfold vt at h; omega) with rfl | rfl | rfl | rfl | rfl | rfl | rfl | rfl | rfl | rfl | rfl | rfl | rfl | rfl | rfl | rfl | rfl | rfl | rfl | rfl | rfl <;> decide
def Xst (T : Nat → Nat) (n : Nat) (σ0 σ : zS) (out : List Nat) (a : Nat) : Prop := xz σ0 σ ∧ TXc σ T n ∧ a ≤ n ∧ σ.1 105 = nI (tB T n a) ∧ σ.1 106 = nI (tE T n a) ∧ σ.1 107 = xt (tK T n a) ∧ (tK T n a < 10000 → σ.1 108 = nI (tK T n a)) ∧ σ.1 103 = nI out.length ∧ ∀ i, i < out.length → σ.2 16 i = xc (out.getD i 0)
theorem x_nextS {T : Nat → Nat} {n a : Nat} {σ0 σ : zS} {out : List Nat} (h : Xst T n σ0 σ out a) : ∃ σ', f_Rd_next σ = some (0, σ') ∧ Xst T n σ0 σ' out (tE T n a) := by
  obtain ⟨h1, h2, h3, h4, h5, h6, h7, h8, h9⟩ := h
  have hE := tE_b (T := T) h3
  obtain ⟨σ', k1, k2, k3, k4, k5, k6⟩ := x_next h2 hE.2.1 h5
  refine ⟨σ', k1, xz_tr h1 (xz_f k2), TXc_s k2 h2, hE.2.1, k3, k4, k5, k6, ?_, ?_⟩
  · rw [k2.1 103 (by omega)]; exact h8
  · rw [k2.2]; exact h9
theorem x_write {T : Nat → Nat} {n a s : Nat} {σ0 σ : zS} {out : List Nat} (h : Xst T n σ0 σ out a) (hl : out.length < 160) : ∃ σ', f_Rd_write (xc s) σ = some (0, σ') ∧ Xst T n σ0 σ' (out ++ [s]) a := by
  obtain ⟨h1, h2, h3, h4, h5, h6, h7, h8, h9⟩ := h
  unfold f_Rd_write
  rw [h8, if_neg (show ¬ (160 : Int32) ≤ nI out.length from nI_ge (b := 160) hl (by decide)), zin_n hl (by decide), zlt_s, zlt_s]
  have e3 : (zsa σ 16 (nI out.length) (xc s)).1 103 = σ.1 103 := rfl
  rw [e3, h8, nI_1]
  refine ⟨_, rfl, ?_, ?_, h3, ?_, ?_, ?_, ?_, ?_, ?_⟩
  · exact xz_tr h1 ⟨fun k q1 q2 => zgn (σ := zsa σ 16 (nI out.length) (xc s)) q1, fun q hq => by rw [zg2]; exact zsa_n hq⟩
  · obtain ⟨t1, t2, t3⟩ := h2
    exact ⟨(zgn (σ := zsa σ 16 (nI out.length) (xc s)) (by decide)).trans t1, t2, fun i hi => by rw [zg2, zsa_n (by decide)]; exact t3 i hi⟩
  · exact (zgn (σ := zsa σ 16 (nI out.length) (xc s)) (by decide)).trans h4
  · exact (zgn (σ := zsa σ 16 (nI out.length) (xc s)) (by decide)).trans h5
  · exact (zgn (σ := zsa σ 16 (nI out.length) (xc s)) (by decide)).trans h6
  · exact fun q => (zgn (σ := zsa σ 16 (nI out.length) (xc s)) (by decide)).trans (h7 q)
  · rw [zgs, List.length_append]; rfl
  · intro i hi
    rw [List.length_append] at hi
    have hi : i < out.length + 1 := hi
    rw [zg2, zsa_q (by omega), getD_app]
    unfold upd
    by_cases e : i = out.length
    · rw [if_pos e, if_neg (by omega), if_pos e]
    · rw [if_neg e, if_pos (by omega)]
      exact h9 i (by omega)
def RS (T : Nat → Nat) (n : Nat) (σ0 : zS) (out : List Nat) (F : Nat → Prop) (S : Nat → List Nat → Prop) (r : Option (Int32 × zS)) : Prop :=
  (∃ (σ' : zS) (b : Nat), r = some (0, σ') ∧ xz σ0 σ' ∧ σ'.1 105 = nI b ∧ F b) ∨ (∃ (σ' : zS) (a' : Nat) (cs : List Nat), r = some (1, σ') ∧ Xst T n σ0 σ' (out ++ cs) a' ∧ S a' cs)
def SPx (T : Nat → Nat) (n L o : Nat) (g : Int32 → zS → Option (Int32 × zS)) : Prop := ∀ (σ0 σ : zS) (out : List Nat) (a : Nat), Xst T n σ0 σ out a → out.length ≤ a → RS T n σ0 out (Fa T n L o a) (Su T n L o a) (g (nI o) σ)
def SP7 (T : Nat → Nat) (n o : Nat) (g : Int32 → zS → Option (Int32 × zS)) : Prop := ∀ (σ0 σ : zS) (out : List Nat) (a : Nat), Xst T n σ0 σ out a → out.length ≤ a → RS T n σ0 out (Fa7 T n o a) (Su7 T n o a) (g (nI o) σ)
theorem SP_7 {T : Nat → Nat} {n o : Nat} {g : Int32 → zS → Option (Int32 × zS)} (h : SP7 T n o g) : SPx T n 7 o g := by
  intro σ0 σ out a hX hl
  rcases h σ0 σ out a hX hl with ⟨σ', b, q1, q2, q3, q4⟩ | ⟨σ', a', cs, q1, q2, q3⟩
  · exact Or.inl ⟨σ', b, q1, q2, q3, Fa_7 q4⟩
  · exact Or.inr ⟨σ', a', cs, q1, q2, Su_7 q3⟩
theorem xc_n {q : Nat} (h : q < 10000) : xc q = nI q := if_pos h
theorem xc_w {q : Nat} (h1 : ¬ q < 10000) (h2 : q < 20000) : xc q = -(xt q) := by
  unfold xc xt
  rw [if_neg h1, if_pos h2, if_neg h1, if_pos h2]
theorem o_lt {o : Nat} (ho : o ≤ 5) : (nI o < 5) = (o < 5) := propext (nI_ltI (b := 5) (by omega) (by decide))
theorem x_one {T : Nat → Nat} {n o : Nat} {rOr rNot rOne : Int32 → zS → Option (Int32 × zS)} (ho : o ≤ 5) (hr : o < 5 → SPx T n 1 (o + 1) rOr ∧ SP7 T n (o + 1) rOne) : SP7 T n o (f_Rd_readOne rOr rNot rOne) := by
  intro σ0 σ out a hX hl
  have hX0 := hX
  obtain ⟨h1, h2, h3, h4, h5, h6, h7, h8, h9⟩ := hX
  have hn := h2.2.1
  have hv := tK_v (T := T) h3
  have hb := tB_b (T := T) h3
  obtain ⟨⟨x8, x9, x15, x10, x11, x12, x13, x14⟩, x2, x17, x5, x6, x7, x3, x4, x0⟩ := xt_c hv
  unfold f_Rd_readOne
  rw [h6]
  by_cases c1 : tK T n a < 10000
  · have hE := (tE_b (T := T) h3).2.2 (by omega)
    rw [if_pos (x2.mpr c1), h7 c1, ← xc_n c1]
    obtain ⟨σ1, k1, k2⟩ := x_write (s := tK T n a) hX0 (by omega)
    obtain ⟨σ2, l1, l2⟩ := x_nextS k2
    rw [k1, zbd_s]
    dsimp only
    rw [l1, zbd_s]
    exact Or.inr ⟨σ2, _, _, rfl, l2, Su7_one h3 (by omega) ho⟩
  · rw [if_neg (fun w => c1 (x2.mp w))]
    by_cases c2 : 10000 ≤ tK T n a ∧ tK T n a < 20000
    · have hE := (tE_b (T := T) h3).2.2 (by omega)
      rw [if_neg (fun w => x17.mp w c2), ← xc_w c1 c2.2]
      obtain ⟨σ1, k1, k2⟩ := x_write (s := tK T n a) hX0 (by omega)
      obtain ⟨σ2, l1, l2⟩ := x_nextS k2
      rw [k1, zbd_s]
      dsimp only
      rw [l1, zbd_s]
      exact Or.inr ⟨σ2, _, _, rfl, l2, Su7_one h3 c2.2 ho⟩
    · rw [if_pos (x17.mpr c2)]
      have hge : ¬ tK T n a < 20000 := by omega
      by_cases c3 : o < 5
      · rw [if_pos ((o_lt ho).mpr c3), nI_1]
        obtain ⟨hr1, hr2⟩ := hr c3
        by_cases c4 : tK T n a = 20007
        · rw [if_pos (x13.mpr c4)]
          have hlt := lt_of_E (T := T) h3 (by omega)
          obtain ⟨σ1, k1, k2⟩ := x_nextS hX0
          rw [k1, zbd_s]
          dsimp only
          rcases hr2 σ0 σ1 out (tE T n a) k2 (by omega) with ⟨σ2, b, q1, q2, q3, q4⟩ | ⟨σ2, a2, cs, q1, q2, q3⟩
          · rw [q1, zbd_s]
            exact Or.inl ⟨σ2, b, rfl, q2, q3, Fa7_neg h3 c4 c3 q4⟩
          · have hq := q3
            obtain ⟨g1, g2, g3, -, -⟩ := hq
            rw [q1, zbd_s]
            dsimp only
            rw [if_neg one0]
            obtain ⟨σ3, l1, l2⟩ := x_write (s := 20001) q2 (by rw [List.length_append]; omega)
            have l1' : f_Rd_write (-16) σ2 = some (0, σ3) := l1
            rw [l1', zbd_s]
            refine Or.inr ⟨σ3, a2, cs ++ [20001], rfl, ?_, Su7_neg h3 c4 c3 q3⟩
            rw [← List.append_assoc]
            exact l2
        · rw [if_neg (fun w => c4 (x13.mp w))]
          unfold f_Rd_pass
          rw [h6]
          by_cases c5 : tK T n a = 30004
          · have hlt := lt_of_E (T := T) h3 (by omega)
            obtain ⟨σ1, k1, k2⟩ := x_nextS hX0
            rw [if_pos (x5.mpr c5), k1, zbd_s, zbd_s]
            dsimp only
            rw [if_neg one0]
            rcases hr1 σ0 σ1 out (tE T n a) k2 (by omega) with ⟨σ2, b, q1, q2, q3, q4⟩ | ⟨σ2, a2, cs, q1, q2, q3⟩
            · rw [q1, zbd_s]
              exact Or.inl ⟨σ2, b, rfl, q2, q3, Fa7_par h3 c5 c3 q4⟩
            · have hq := q3
              obtain ⟨g1, g2, g3, -, -⟩ := hq
              rw [q1, zbd_s]
              dsimp only
              rw [if_neg one0]
              have hq2 := q2
              obtain ⟨-, -, -, j4, -, j6, -⟩ := hq2
              have x6' := (xt_c (tK_v (T := T) g2)).2.2.2.2.1
              rw [j6]
              by_cases c6 : tK T n a2 = 30005
              · obtain ⟨σ3, l1, l2⟩ := x_nextS q2
                rw [if_pos (x6'.mpr c6), l1, zbd_s, zbd_s]
                dsimp only
                rw [if_neg one0]
                exact Or.inr ⟨σ3, _, cs, rfl, l2, Su7_par h3 c5 c3 q3 c6⟩
              · rw [if_neg (fun w => c6 (x6'.mp w)), zbd_s]
                exact Or.inl ⟨σ2, _, rfl, q2.1, j4, Fa7_par2 h3 c5 c3 q3 c6⟩
          · rw [if_neg (fun w => c5 (x5.mp w)), zbd_s]
            exact Or.inl ⟨σ, _, rfl, h1, h4, Fa7_ff h3 hge (Or.inr ⟨c4, c5⟩)⟩
      · rw [if_neg (fun w => c3 ((o_lt ho).mp w))]
        exact Or.inl ⟨σ, _, rfl, h1, h4, Fa7_ff h3 hge (Or.inl (by omega))⟩
theorem tK_end {T : Nat → Nat} {n a : Nat} (h1 : n ≤ a) (h2 : a ≤ n) : tK T n a = 30000 := by
  have hb := tB_b (T := T) h2
  exact (kB_v (T := T) hb.2).2.mpr (by omega)
theorem rk_1 {t : Nat} (h : isb t) : rk t = 1 ↔ t = 20002 := by
  unfold isb at h
  rcases (show t = 20002 ∨ t = 20003 ∨ t = 20004 ∨ t = 20005 ∨ t = 20006 ∨ t = 20007 ∨ t = 20008 by omega) with rfl | rfl | rfl | rfl | rfl | rfl | rfl <;> decide
theorem rk_2 {t : Nat} (h : isb t) : rk t = 2 ↔ t = 20003 := by
  unfold isb at h
  rcases (show t = 20002 ∨ t = 20003 ∨ t = 20004 ∨ t = 20005 ∨ t = 20006 ∨ t = 20007 ∨ t = 20008 by omega) with rfl | rfl | rfl | rfl | rfl | rfl | rfl <;> decide
theorem rk_44 {t : Nat} (h : isb t) : rk t = 4 ↔ (t = 20004 ∨ t = 20005) := by
  unfold isb at h
  rcases (show t = 20002 ∨ t = 20003 ∨ t = 20004 ∨ t = 20005 ∨ t = 20006 ∨ t = 20007 ∨ t = 20008 by omega) with rfl | rfl | rfl | rfl | rfl | rfl | rfl <;> decide
theorem rk_5 {t : Nat} (h : isb t) : rk t = 5 ↔ (t = 20006 ∨ t = 20007) := by
  unfold isb at h
  rcases (show t = 20002 ∨ t = 20003 ∨ t = 20004 ∨ t = 20005 ∨ t = 20006 ∨ t = 20007 ∨ t = 20008 by omega) with rfl | rfl | rfl | rfl | rfl | rfl | rfl <;> decide
theorem rk_6 {t : Nat} (h : isb t) : rk t = 6 ↔ t = 20008 := by
  unfold isb at h
  rcases (show t = 20002 ∨ t = 20003 ∨ t = 20004 ∨ t = 20005 ∨ t = 20006 ∨ t = 20007 ∨ t = 20008 by omega) with rfl | rfl | rfl | rfl | rfl | rfl | rfl <;> decide

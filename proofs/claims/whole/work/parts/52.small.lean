/-! Level 2: the small methods of both sides -/
theorem q12_within {a lo hi : Nat} {w : zW} {k : Int32 → zW → Prop} (ha : a < 2 ^ 31) (hl : lo < 2 ^ 31) (hh : hi < 2 ^ 31) (hk : k (if lo ≤ a ∧ a ≤ hi then Int32.ofNat 1 else Int32.ofNat 0) w) : fX12_within (Int32.ofNat a) (Int32.ofNat lo) (Int32.ofNat hi) w k := by
  rw [fX12_within]
  by_cases h1 : a < lo
  · rw [if_neg (by omega)] at hk
    simp (disch := omega) only [↓zln1, ↓zln2, zl0, zl1, zl2, zl3, zl4, zl5, zl6, zl7, zl8, zl9, zl10, zl12, zl15, zl16, zl20, zl24, zl30, zl32, zl36, zl40, zl48, zl57, zl59, zl60, zl61, zl97, zl99, zl120, zl121, zl122, zl126, zl165, zl255, zl480, zl968, zl1000, zl1100, zi_add, zi_mul, zi_sub, zi_div, zi_mod, zi_nat, zt_le, zf_le, zt_lt, zf_lt, zt_eq, zf_eq, zt_vp, zt_N1lt, zf_N1lt, zf_N1eq, zf_eqN1, zt_N1eq, zt_N1le, zf_leN1, zi_nN1, zi_a1, zi_a15, zi_a255, zi_shr, zi_bit, zt_b0, zt_b1, forall_eq, if_true, if_false, true_implies, false_implies, not_true_eq_false, not_false_eq_true, and_true, true_and, gI_sI_eq, gI_sI_ne, gI_sI_ne2, gL_sI, gR_sI, gI_sL, gL_sL_eq, gL_sL_ne, gL_sL_ne2, gR_sL, gI_sR, gL_sR, gR_sR_eq, gR_sR_ne, gR_sR_ne2, gI_aI_eq, gI_aI_ne, gL_aI, gR_aI]
    exact hk
  · by_cases h2 : hi < a
    · rw [if_neg (by omega)] at hk
      simp (disch := omega) only [↓zln1, ↓zln2, zl0, zl1, zl2, zl3, zl4, zl5, zl6, zl7, zl8, zl9, zl10, zl12, zl15, zl16, zl20, zl24, zl30, zl32, zl36, zl40, zl48, zl57, zl59, zl60, zl61, zl97, zl99, zl120, zl121, zl122, zl126, zl165, zl255, zl480, zl968, zl1000, zl1100, zi_add, zi_mul, zi_sub, zi_div, zi_mod, zi_nat, zt_le, zf_le, zt_lt, zf_lt, zt_eq, zf_eq, zt_vp, zt_N1lt, zf_N1lt, zf_N1eq, zf_eqN1, zt_N1eq, zt_N1le, zf_leN1, zi_nN1, zi_a1, zi_a15, zi_a255, zi_shr, zi_bit, zt_b0, zt_b1, forall_eq, if_true, if_false, true_implies, false_implies, not_true_eq_false, not_false_eq_true, and_true, true_and, gI_sI_eq, gI_sI_ne, gI_sI_ne2, gL_sI, gR_sI, gI_sL, gL_sL_eq, gL_sL_ne, gL_sL_ne2, gR_sL, gI_sR, gL_sR, gR_sR_eq, gR_sR_ne, gR_sR_ne2, gI_aI_eq, gI_aI_ne, gL_aI, gR_aI]
      exact hk
    · rw [if_pos (by omega)] at hk
      simp (disch := omega) only [↓zln1, ↓zln2, zl0, zl1, zl2, zl3, zl4, zl5, zl6, zl7, zl8, zl9, zl10, zl12, zl15, zl16, zl20, zl24, zl30, zl32, zl36, zl40, zl48, zl57, zl59, zl60, zl61, zl97, zl99, zl120, zl121, zl122, zl126, zl165, zl255, zl480, zl968, zl1000, zl1100, zi_add, zi_mul, zi_sub, zi_div, zi_mod, zi_nat, zt_le, zf_le, zt_lt, zf_lt, zt_eq, zf_eq, zt_vp, zt_N1lt, zf_N1lt, zf_N1eq, zf_eqN1, zt_N1eq, zt_N1le, zf_leN1, zi_nN1, zi_a1, zi_a15, zi_a255, zi_shr, zi_bit, zt_b0, zt_b1, forall_eq, if_true, if_false, true_implies, false_implies, not_true_eq_false, not_false_eq_true, and_true, true_and, gI_sI_eq, gI_sI_ne, gI_sI_ne2, gL_sI, gR_sI, gI_sL, gL_sL_eq, gL_sL_ne, gL_sL_ne2, gR_sL, gI_sR, gL_sR, gR_sR_eq, gR_sR_ne, gR_sR_ne2, gI_aI_eq, gI_aI_ne, gL_aI, gR_aI]
      exact hk
theorem q12_withinN {x : Int32} {lo : Nat} {y : Int32} {w : zW} {k : Int32 → zW → Prop} (hx : x < 0) (hl : lo < 2 ^ 31) (hk : k (Int32.ofNat 0) w) : fX12_within x (Int32.ofNat lo) y w k := by
  rw [fX12_within]
  intro v e
  rw [if_pos (zi_neg_lt hx hl)] at e
  subst e
  exact ⟨Or.inl rfl, hk⟩
theorem q12_isTermN {x : Int32} {w : zW} {k : Int32 → zW → Prop} (hx : x < 0) (hk : k (Int32.ofNat 0) w) : fX12_isTerm x w k := by
  rw [fX12_isTerm]
  exact ⟨fun _ => hk, fun h => absurd hx h⟩
theorem q12_isTerm {B : zBk} {a : Nat} {w : zW} {k : Int32 → zW → Prop} (hwf : zWF B) (hW : gI w 210 0 = Int32.ofNat (bW B)) (ha : a < 2 ^ 31) (hk : k (if a < bW B then Int32.ofNat 1 else Int32.ofNat 0) w) : fX12_isTerm (Int32.ofNat a) w k := by
  have h4 := wf_W hwf
  rw [fX12_isTerm]
  by_cases h : a < bW B
  · rw [if_pos h] at hk
    simp (disch := omega) only [fX12_wordsTold, hW, ↓zln1, ↓zln2, zl0, zl1, zl2, zl3, zl4, zl5, zl6, zl7, zl8, zl9, zl10, zl12, zl15, zl16, zl20, zl24, zl30, zl32, zl36, zl40, zl48, zl57, zl59, zl60, zl61, zl97, zl99, zl120, zl121, zl122, zl126, zl165, zl255, zl480, zl968, zl1000, zl1100, zi_add, zi_mul, zi_sub, zi_div, zi_mod, zi_nat, zt_le, zf_le, zt_lt, zf_lt, zt_eq, zf_eq, zt_vp, zt_N1lt, zf_N1lt, zf_N1eq, zf_eqN1, zt_N1eq, zt_N1le, zf_leN1, zi_nN1, zi_a1, zi_a15, zi_a255, zi_shr, zi_bit, zt_b0, zt_b1, forall_eq, if_true, if_false, true_implies, false_implies, not_true_eq_false, not_false_eq_true, and_true, true_and, gI_sI_eq, gI_sI_ne, gI_sI_ne2, gL_sI, gR_sI, gI_sL, gL_sL_eq, gL_sL_ne, gL_sL_ne2, gR_sL, gI_sR, gL_sR, gR_sR_eq, gR_sR_ne, gR_sR_ne2, gI_aI_eq, gI_aI_ne, gL_aI, gR_aI]
    exact hk
  · rw [if_neg h] at hk
    simp (disch := omega) only [fX12_wordsTold, hW, ↓zln1, ↓zln2, zl0, zl1, zl2, zl3, zl4, zl5, zl6, zl7, zl8, zl9, zl10, zl12, zl15, zl16, zl20, zl24, zl30, zl32, zl36, zl40, zl48, zl57, zl59, zl60, zl61, zl97, zl99, zl120, zl121, zl122, zl126, zl165, zl255, zl480, zl968, zl1000, zl1100, zi_add, zi_mul, zi_sub, zi_div, zi_mod, zi_nat, zt_le, zf_le, zt_lt, zf_lt, zt_eq, zf_eq, zt_vp, zt_N1lt, zf_N1lt, zf_N1eq, zf_eqN1, zt_N1eq, zt_N1le, zf_leN1, zi_nN1, zi_a1, zi_a15, zi_a255, zi_shr, zi_bit, zt_b0, zt_b1, forall_eq, if_true, if_false, true_implies, false_implies, not_true_eq_false, not_false_eq_true, and_true, true_and, gI_sI_eq, gI_sI_ne, gI_sI_ne2, gL_sI, gR_sI, gI_sL, gL_sL_eq, gL_sL_ne, gL_sL_ne2, gR_sL, gI_sR, gL_sR, gR_sR_eq, gR_sR_ne, gR_sR_ne2, gI_aI_eq, gI_aI_ne, gL_aI, gR_aI]
    exact hk
theorem q12_isRowN {x : Int32} {w : zW} {k : Int32 → zW → Prop} (hx : x < 0) (hk : k (Int32.ofNat 0) w) : fX12_isRow x w k := by
  rw [fX12_isRow]
  exact ⟨fun _ => hk, fun h => absurd hx h⟩
theorem q12_isRow {B : zBk} {a : Nat} {w : zW} {k : Int32 → zW → Prop} (hwf : zWF B) (hW : gI w 210 2 = Int32.ofNat (bR B)) (ha : a < 2 ^ 31) (hk : k (if a < bR B then Int32.ofNat 1 else Int32.ofNat 0) w) : fX12_isRow (Int32.ofNat a) w k := by
  have h4 := wf_R hwf
  rw [fX12_isRow]
  by_cases h : a < bR B
  · rw [if_pos h] at hk
    simp (disch := omega) only [fX12_rows, hW, ↓zln1, ↓zln2, zl0, zl1, zl2, zl3, zl4, zl5, zl6, zl7, zl8, zl9, zl10, zl12, zl15, zl16, zl20, zl24, zl30, zl32, zl36, zl40, zl48, zl57, zl59, zl60, zl61, zl97, zl99, zl120, zl121, zl122, zl126, zl165, zl255, zl480, zl968, zl1000, zl1100, zi_add, zi_mul, zi_sub, zi_div, zi_mod, zi_nat, zt_le, zf_le, zt_lt, zf_lt, zt_eq, zf_eq, zt_vp, zt_N1lt, zf_N1lt, zf_N1eq, zf_eqN1, zt_N1eq, zt_N1le, zf_leN1, zi_nN1, zi_a1, zi_a15, zi_a255, zi_shr, zi_bit, zt_b0, zt_b1, forall_eq, if_true, if_false, true_implies, false_implies, not_true_eq_false, not_false_eq_true, and_true, true_and, gI_sI_eq, gI_sI_ne, gI_sI_ne2, gL_sI, gR_sI, gI_sL, gL_sL_eq, gL_sL_ne, gL_sL_ne2, gR_sL, gI_sR, gL_sR, gR_sR_eq, gR_sR_ne, gR_sR_ne2, gI_aI_eq, gI_aI_ne, gL_aI, gR_aI]
    exact hk
  · rw [if_neg h] at hk
    simp (disch := omega) only [fX12_rows, hW, ↓zln1, ↓zln2, zl0, zl1, zl2, zl3, zl4, zl5, zl6, zl7, zl8, zl9, zl10, zl12, zl15, zl16, zl20, zl24, zl30, zl32, zl36, zl40, zl48, zl57, zl59, zl60, zl61, zl97, zl99, zl120, zl121, zl122, zl126, zl165, zl255, zl480, zl968, zl1000, zl1100, zi_add, zi_mul, zi_sub, zi_div, zi_mod, zi_nat, zt_le, zf_le, zt_lt, zf_lt, zt_eq, zf_eq, zt_vp, zt_N1lt, zf_N1lt, zf_N1eq, zf_eqN1, zt_N1eq, zt_N1le, zf_leN1, zi_nN1, zi_a1, zi_a15, zi_a255, zi_shr, zi_bit, zt_b0, zt_b1, forall_eq, if_true, if_false, true_implies, false_implies, not_true_eq_false, not_false_eq_true, and_true, true_and, gI_sI_eq, gI_sI_ne, gI_sI_ne2, gL_sI, gR_sI, gI_sL, gL_sL_eq, gL_sL_ne, gL_sL_ne2, gR_sL, gI_sR, gL_sR, gR_sR_eq, gR_sR_ne, gR_sR_ne2, gI_aI_eq, gI_aI_ne, gL_aI, gR_aI]
    exact hk
theorem q11_isWordN {x : Int32} {w : zW} {k : Int32 → zW → Prop} (hx : x < 0) (hk : k (Int32.ofNat 0) w) : fX11_isWord x w k := by
  rw [fX11_isWord]
  exact ⟨fun _ => hk, fun h => absurd hx h⟩
theorem q11_isWord {B : zBk} {a b : Nat} {w : zW} {k : Int32 → zW → Prop} (hwf : zWF B) (hb : gR w 1 9 = b) (hb0 : ¬ b = 0) (hW : gI w b 0 = Int32.ofNat (bW B)) (ha : a < 2 ^ 31) (hk : k (if a < bW B then Int32.ofNat 1 else Int32.ofNat 0) w) : fX11_isWord (Int32.ofNat a) w k := by
  have h4 := wf_W hwf
  rw [fX11_isWord]
  by_cases h : a < bW B
  · rw [if_pos h] at hk
    simp (disch := omega) only [hb, hW, hb0, ↓zln1, ↓zln2, zl0, zl1, zl2, zl3, zl4, zl5, zl6, zl7, zl8, zl9, zl10, zl12, zl15, zl16, zl20, zl24, zl30, zl32, zl36, zl40, zl48, zl57, zl59, zl60, zl61, zl97, zl99, zl120, zl121, zl122, zl126, zl165, zl255, zl480, zl968, zl1000, zl1100, zi_add, zi_mul, zi_sub, zi_div, zi_mod, zi_nat, zt_le, zf_le, zt_lt, zf_lt, zt_eq, zf_eq, zt_vp, zt_N1lt, zf_N1lt, zf_N1eq, zf_eqN1, zt_N1eq, zt_N1le, zf_leN1, zi_nN1, zi_a1, zi_a15, zi_a255, zi_shr, zi_bit, zt_b0, zt_b1, forall_eq, if_true, if_false, true_implies, false_implies, not_true_eq_false, not_false_eq_true, and_true, true_and, gI_sI_eq, gI_sI_ne, gI_sI_ne2, gL_sI, gR_sI, gI_sL, gL_sL_eq, gL_sL_ne, gL_sL_ne2, gR_sL, gI_sR, gL_sR, gR_sR_eq, gR_sR_ne, gR_sR_ne2, gI_aI_eq, gI_aI_ne, gL_aI, gR_aI]
    exact hk
  · rw [if_neg h] at hk
    simp (disch := omega) only [hb, hW, hb0, ↓zln1, ↓zln2, zl0, zl1, zl2, zl3, zl4, zl5, zl6, zl7, zl8, zl9, zl10, zl12, zl15, zl16, zl20, zl24, zl30, zl32, zl36, zl40, zl48, zl57, zl59, zl60, zl61, zl97, zl99, zl120, zl121, zl122, zl126, zl165, zl255, zl480, zl968, zl1000, zl1100, zi_add, zi_mul, zi_sub, zi_div, zi_mod, zi_nat, zt_le, zf_le, zt_lt, zf_lt, zt_eq, zf_eq, zt_vp, zt_N1lt, zf_N1lt, zf_N1eq, zf_eqN1, zt_N1eq, zt_N1le, zf_leN1, zi_nN1, zi_a1, zi_a15, zi_a255, zi_shr, zi_bit, zt_b0, zt_b1, forall_eq, if_true, if_false, true_implies, false_implies, not_true_eq_false, not_false_eq_true, and_true, true_and, gI_sI_eq, gI_sI_ne, gI_sI_ne2, gL_sI, gR_sI, gI_sL, gL_sL_eq, gL_sL_ne, gL_sL_ne2, gR_sL, gI_sR, gL_sR, gR_sR_eq, gR_sR_ne, gR_sR_ne2, gI_aI_eq, gI_aI_ne, gL_aI, gR_aI]
    exact hk
theorem q11_isRowN {x : Int32} {w : zW} {k : Int32 → zW → Prop} (hx : x < 0) (hk : k (Int32.ofNat 0) w) : fX11_isRow x w k := by
  rw [fX11_isRow]
  exact ⟨fun _ => hk, fun h => absurd hx h⟩
theorem q11_isRow {B : zBk} {a b : Nat} {w : zW} {k : Int32 → zW → Prop} (hwf : zWF B) (hb : gR w 1 9 = b) (hb0 : ¬ b = 0) (hW : gI w b 7 = Int32.ofNat (bR B)) (ha : a < 2 ^ 31) (hk : k (if a < bR B then Int32.ofNat 1 else Int32.ofNat 0) w) : fX11_isRow (Int32.ofNat a) w k := by
  have h4 := wf_R hwf
  rw [fX11_isRow]
  by_cases h : a < bR B
  · rw [if_pos h] at hk
    simp (disch := omega) only [hb, hW, hb0, ↓zln1, ↓zln2, zl0, zl1, zl2, zl3, zl4, zl5, zl6, zl7, zl8, zl9, zl10, zl12, zl15, zl16, zl20, zl24, zl30, zl32, zl36, zl40, zl48, zl57, zl59, zl60, zl61, zl97, zl99, zl120, zl121, zl122, zl126, zl165, zl255, zl480, zl968, zl1000, zl1100, zi_add, zi_mul, zi_sub, zi_div, zi_mod, zi_nat, zt_le, zf_le, zt_lt, zf_lt, zt_eq, zf_eq, zt_vp, zt_N1lt, zf_N1lt, zf_N1eq, zf_eqN1, zt_N1eq, zt_N1le, zf_leN1, zi_nN1, zi_a1, zi_a15, zi_a255, zi_shr, zi_bit, zt_b0, zt_b1, forall_eq, if_true, if_false, true_implies, false_implies, not_true_eq_false, not_false_eq_true, and_true, true_and, gI_sI_eq, gI_sI_ne, gI_sI_ne2, gL_sI, gR_sI, gI_sL, gL_sL_eq, gL_sL_ne, gL_sL_ne2, gR_sL, gI_sR, gL_sR, gR_sR_eq, gR_sR_ne, gR_sR_ne2, gI_aI_eq, gI_aI_ne, gL_aI, gR_aI]
    exact hk
  · rw [if_neg h] at hk
    simp (disch := omega) only [hb, hW, hb0, ↓zln1, ↓zln2, zl0, zl1, zl2, zl3, zl4, zl5, zl6, zl7, zl8, zl9, zl10, zl12, zl15, zl16, zl20, zl24, zl30, zl32, zl36, zl40, zl48, zl57, zl59, zl60, zl61, zl97, zl99, zl120, zl121, zl122, zl126, zl165, zl255, zl480, zl968, zl1000, zl1100, zi_add, zi_mul, zi_sub, zi_div, zi_mod, zi_nat, zt_le, zf_le, zt_lt, zf_lt, zt_eq, zf_eq, zt_vp, zt_N1lt, zf_N1lt, zf_N1eq, zf_eqN1, zt_N1eq, zt_N1le, zf_leN1, zi_nN1, zi_a1, zi_a15, zi_a255, zi_shr, zi_bit, zt_b0, zt_b1, forall_eq, if_true, if_false, true_implies, false_implies, not_true_eq_false, not_false_eq_true, and_true, true_and, gI_sI_eq, gI_sI_ne, gI_sI_ne2, gL_sI, gR_sI, gI_sL, gL_sL_eq, gL_sL_ne, gL_sL_ne2, gR_sL, gI_sR, gL_sR, gR_sR_eq, gR_sR_ne, gR_sR_ne2, gI_aI_eq, gI_aI_ne, gL_aI, gR_aI]
    exact hk
theorem q12_usesOf {B : zBk} {o : Nat} {w : zW} {k : Int32 → zW → Prop} (hwf : zWF B) (hB : zRB B w) (ho : o < 4) (hk : k (Int32.ofNat (zUs B o)) w) : fX12_usesOf (Int32.ofNat o) w k := by
  have h8 := wf_R hwf
  refine zrun (fun n (s : Int32 × Int32) => fX12_usesOf_L4 k n (Int32.ofNat o) s.1 s.2 w) (fun i => (Int32.ofNat (zsum i (fun r => bU B r o)), Int32.ofNat i)) (bR B) (fun n => ?_) (fun i n hi hc => ?_)
  · simp (disch := omega) only [fX12_usesOf_L4, fX12_rows, rb_R hB, ↓zln1, ↓zln2, zl0, zl1, zl2, zl3, zl4, zl5, zl6, zl7, zl8, zl9, zl10, zl12, zl15, zl16, zl20, zl24, zl30, zl32, zl36, zl40, zl48, zl57, zl59, zl60, zl61, zl97, zl99, zl120, zl121, zl122, zl126, zl165, zl255, zl480, zl968, zl1000, zl1100, zi_add, zi_mul, zi_sub, zi_div, zi_mod, zi_nat, zt_le, zf_le, zt_lt, zf_lt, zt_eq, zf_eq, zt_vp, zt_N1lt, zf_N1lt, zf_N1eq, zf_eqN1, zt_N1eq, zt_N1le, zf_leN1, zi_nN1, zi_a1, zi_a15, zi_a255, zi_shr, zi_bit, zt_b0, zt_b1, forall_eq, if_true, if_false, true_implies, false_implies, not_true_eq_false, not_false_eq_true, and_true, true_and, gI_sI_eq, gI_sI_ne, gI_sI_ne2, gL_sI, gR_sI, gI_sL, gL_sL_eq, gL_sL_ne, gL_sL_ne2, gR_sL, gI_sR, gL_sR, gR_sR_eq, gR_sR_ne, gR_sR_ne2, gI_aI_eq, gI_aI_ne, gL_aI, gR_aI]
    exact hk
  · simp (disch := omega) only [fX12_usesOf_L4, fX12_rows, rb_R hB, rb_U hB (show i < 8 by omega) ho, ↓zln1, ↓zln2, zl0, zl1, zl2, zl3, zl4, zl5, zl6, zl7, zl8, zl9, zl10, zl12, zl15, zl16, zl20, zl24, zl30, zl32, zl36, zl40, zl48, zl57, zl59, zl60, zl61, zl97, zl99, zl120, zl121, zl122, zl126, zl165, zl255, zl480, zl968, zl1000, zl1100, zi_add, zi_mul, zi_sub, zi_div, zi_mod, zi_nat, zt_le, zf_le, zt_lt, zf_lt, zt_eq, zf_eq, zt_vp, zt_N1lt, zf_N1lt, zf_N1eq, zf_eqN1, zt_N1eq, zt_N1le, zf_leN1, zi_nN1, zi_a1, zi_a15, zi_a255, zi_shr, zi_bit, zt_b0, zt_b1, forall_eq, if_true, if_false, true_implies, false_implies, not_true_eq_false, not_false_eq_true, and_true, true_and, gI_sI_eq, gI_sI_ne, gI_sI_ne2, gL_sI, gR_sI, gI_sL, gL_sL_eq, gL_sL_ne, gL_sL_ne2, gR_sL, gI_sR, gL_sR, gR_sR_eq, gR_sR_ne, gR_sR_ne2, gI_aI_eq, gI_aI_ne, gL_aI, gR_aI]
    exact hc
/-- the meaning of a word in a dictionary that is packed -/
def zdg (p : Nat) (o : Nat) : Nat := p / 2 ^ (4 * o) % 16
theorem q0_takesOf {B : zBk} {b r p : Nat} {w : zW} {k : Int32 → zW → Prop} (hwf : zWF B) (hB : zCB B b w) (hr : r < bR B) (hp : p < 2 ^ 31) (hk : k (Int32.ofNat (zTk B r (zdg p))) w) : fX0_takesOf b (Int32.ofNat r) (Int32.ofNat p) w k := by
  have h4 := wf_W hwf
  have h8 := wf_R hwf
  refine zrun (fun n (s : Int32 × Int32) => fX0_takesOf_L5 b k n (Int32.ofNat r) (Int32.ofNat p) s.1 s.2 w) (fun i => (Int32.ofNat (zsum i (fun o => bU B r o * (zdg p o / 3))), Int32.ofNat i)) (bW B) (fun n => ?_) (fun i n hi hc => ?_)
  · simp (disch := omega) only [fX0_takesOf_L5, cb_W hB, ↓zln1, ↓zln2, zl0, zl1, zl2, zl3, zl4, zl5, zl6, zl7, zl8, zl9, zl10, zl12, zl15, zl16, zl20, zl24, zl30, zl32, zl36, zl40, zl48, zl57, zl59, zl60, zl61, zl97, zl99, zl120, zl121, zl122, zl126, zl165, zl255, zl480, zl968, zl1000, zl1100, zi_add, zi_mul, zi_sub, zi_div, zi_mod, zi_nat, zt_le, zf_le, zt_lt, zf_lt, zt_eq, zf_eq, zt_vp, zt_N1lt, zf_N1lt, zf_N1eq, zf_eqN1, zt_N1eq, zt_N1le, zf_leN1, zi_nN1, zi_a1, zi_a15, zi_a255, zi_shr, zi_bit, zt_b0, zt_b1, forall_eq, if_true, if_false, true_implies, false_implies, not_true_eq_false, not_false_eq_true, and_true, true_and, gI_sI_eq, gI_sI_ne, gI_sI_ne2, gL_sI, gR_sI, gI_sL, gL_sL_eq, gL_sL_ne, gL_sL_ne2, gR_sL, gI_sR, gL_sR, gR_sR_eq, gR_sR_ne, gR_sR_ne2, gI_aI_eq, gI_aI_ne, gL_aI, gR_aI]
    exact hk
  · simp (disch := omega) only [fX0_takesOf_L5, cb_W hB, cb_U hB hr (show i < 4 by omega), ↓zln1, ↓zln2, zl0, zl1, zl2, zl3, zl4, zl5, zl6, zl7, zl8, zl9, zl10, zl12, zl15, zl16, zl20, zl24, zl30, zl32, zl36, zl40, zl48, zl57, zl59, zl60, zl61, zl97, zl99, zl120, zl121, zl122, zl126, zl165, zl255, zl480, zl968, zl1000, zl1100, zi_add, zi_mul, zi_sub, zi_div, zi_mod, zi_nat, zt_le, zf_le, zt_lt, zf_lt, zt_eq, zf_eq, zt_vp, zt_N1lt, zf_N1lt, zf_N1eq, zf_eqN1, zt_N1eq, zt_N1le, zf_leN1, zi_nN1, zi_a1, zi_a15, zi_a255, zi_shr, zi_bit, zt_b0, zt_b1, forall_eq, if_true, if_false, true_implies, false_implies, not_true_eq_false, not_false_eq_true, and_true, true_and, gI_sI_eq, gI_sI_ne, gI_sI_ne2, gL_sI, gR_sI, gI_sL, gL_sL_eq, gL_sL_ne, gL_sL_ne2, gR_sL, gI_sR, gL_sR, gR_sR_eq, gR_sR_ne, gR_sR_ne2, gI_aI_eq, gI_aI_ne, gL_aI, gR_aI]
    exact hc
theorem q0_leavesOf {B : zBk} {b r p : Nat} {w : zW} {k : Int32 → zW → Prop} (hwf : zWF B) (hB : zCB B b w) (hr : r < bR B) (hp : p < 2 ^ 31) (hk : k (Int32.ofNat (zLv B r (zdg p))) w) : fX0_leavesOf b (Int32.ofNat r) (Int32.ofNat p) w k := by
  have h4 := wf_W hwf
  have h8 := wf_R hwf
  refine zrun (fun n (s : Int32 × Int32) => fX0_leavesOf_L5 b k n (Int32.ofNat r) (Int32.ofNat p) s.1 s.2 w) (fun i => (Int32.ofNat (zsum i (fun o => bU B r o * (zdg p o % 3))), Int32.ofNat i)) (bW B) (fun n => ?_) (fun i n hi hc => ?_)
  · simp (disch := omega) only [fX0_leavesOf_L5, cb_W hB, ↓zln1, ↓zln2, zl0, zl1, zl2, zl3, zl4, zl5, zl6, zl7, zl8, zl9, zl10, zl12, zl15, zl16, zl20, zl24, zl30, zl32, zl36, zl40, zl48, zl57, zl59, zl60, zl61, zl97, zl99, zl120, zl121, zl122, zl126, zl165, zl255, zl480, zl968, zl1000, zl1100, zi_add, zi_mul, zi_sub, zi_div, zi_mod, zi_nat, zt_le, zf_le, zt_lt, zf_lt, zt_eq, zf_eq, zt_vp, zt_N1lt, zf_N1lt, zf_N1eq, zf_eqN1, zt_N1eq, zt_N1le, zf_leN1, zi_nN1, zi_a1, zi_a15, zi_a255, zi_shr, zi_bit, zt_b0, zt_b1, forall_eq, if_true, if_false, true_implies, false_implies, not_true_eq_false, not_false_eq_true, and_true, true_and, gI_sI_eq, gI_sI_ne, gI_sI_ne2, gL_sI, gR_sI, gI_sL, gL_sL_eq, gL_sL_ne, gL_sL_ne2, gR_sL, gI_sR, gL_sR, gR_sR_eq, gR_sR_ne, gR_sR_ne2, gI_aI_eq, gI_aI_ne, gL_aI, gR_aI]
    exact hk
  · simp (disch := omega) only [fX0_leavesOf_L5, cb_W hB, cb_U hB hr (show i < 4 by omega), ↓zln1, ↓zln2, zl0, zl1, zl2, zl3, zl4, zl5, zl6, zl7, zl8, zl9, zl10, zl12, zl15, zl16, zl20, zl24, zl30, zl32, zl36, zl40, zl48, zl57, zl59, zl60, zl61, zl97, zl99, zl120, zl121, zl122, zl126, zl165, zl255, zl480, zl968, zl1000, zl1100, zi_add, zi_mul, zi_sub, zi_div, zi_mod, zi_nat, zt_le, zf_le, zt_lt, zf_lt, zt_eq, zf_eq, zt_vp, zt_N1lt, zf_N1lt, zf_N1eq, zf_eqN1, zt_N1eq, zt_N1le, zf_leN1, zi_nN1, zi_a1, zi_a15, zi_a255, zi_shr, zi_bit, zt_b0, zt_b1, forall_eq, if_true, if_false, true_implies, false_implies, not_true_eq_false, not_false_eq_true, and_true, true_and, gI_sI_eq, gI_sI_ne, gI_sI_ne2, gL_sI, gR_sI, gI_sL, gL_sL_eq, gL_sL_ne, gL_sL_ne2, gR_sL, gI_sR, gL_sR, gR_sR_eq, gR_sR_ne, gR_sR_ne2, gI_aI_eq, gI_aI_ne, gL_aI, gR_aI]
    exact hc
theorem q0_excess {B : zBk} {b r p : Nat} {w : zW} {k : Int32 → zW → Prop} (hwf : zWF B) (hB : zCB B b w) (hr : r < bR B) (hp : p < 2 ^ 31) (hk : k (Int32.ofNat (zTk B r (zdg p)) - Int32.ofNat (zTh B r (zdg p))) w) : fX0_excess b (Int32.ofNat r) (Int32.ofNat p) w k := by
  have h8 := wf_R hwf
  rw [fX0_excess]
  by_cases h : r = 0
  · subst h
    refine ⟨fun q => absurd rfl q, fun _ => ?_⟩
    rw [fX0_excess_J19, cb_C hB]
    exact q0_takesOf hwf hB hr hp hk
  · refine ⟨fun _ => ?_, fun q => absurd ((zi_eq (b := 0) (by omega) (by decide)).mp q) h⟩
    rw [zl1, zi_sub (by omega)]
    refine q0_leavesOf hwf hB (by omega) hp ?_
    rw [fX0_excess_J19]
    rw [zTh, if_neg h] at hk
    exact q0_takesOf hwf hB hr hp hk
theorem q0_wordAt {B : zBk} {b r i : Nat} {w : zW} {k : Int32 → zW → Prop} (hwf : zWF B) (hB : zCB B b w) (hr : r < bR B) (hi : i < bLn B r) (hk : k (Int32.ofNat (bIt B r i)) w) : fX0_wordAt b (Int32.ofNat r) (Int32.ofNat i) w k := by
  have h8 := wf_R hwf
  have h60 := wf_Ln hwf hr
  simp (disch := omega) only [fX0_wordAt, cb_Ln hB hr, cb_It hB hr hi, ↓zln1, ↓zln2, zl0, zl1, zl2, zl3, zl4, zl5, zl6, zl7, zl8, zl9, zl10, zl12, zl15, zl16, zl20, zl24, zl30, zl32, zl36, zl40, zl48, zl57, zl59, zl60, zl61, zl97, zl99, zl120, zl121, zl122, zl126, zl165, zl255, zl480, zl968, zl1000, zl1100, zi_add, zi_mul, zi_sub, zi_div, zi_mod, zi_nat, zt_le, zf_le, zt_lt, zf_lt, zt_eq, zf_eq, zt_vp, zt_N1lt, zf_N1lt, zf_N1eq, zf_eqN1, zt_N1eq, zt_N1le, zf_leN1, zi_nN1, zi_a1, zi_a15, zi_a255, zi_shr, zi_bit, zt_b0, zt_b1, forall_eq, if_true, if_false, true_implies, false_implies, not_true_eq_false, not_false_eq_true, and_true, true_and, gI_sI_eq, gI_sI_ne, gI_sI_ne2, gL_sI, gR_sI, gI_sL, gL_sL_eq, gL_sL_ne, gL_sL_ne2, gR_sL, gI_sR, gL_sR, gR_sR_eq, gR_sR_ne, gR_sR_ne2, gI_aI_eq, gI_aI_ne, gL_aI, gR_aI]
  exact hk
theorem q0_wordAtN {B : zBk} {b r : Nat} {x : Int32} {w : zW} {k : Int32 → zW → Prop} (hwf : zWF B) (hB : zCB B b w) (hr : r < bR B) (hx : x < 0 ∨ ∃ i, x = Int32.ofNat i ∧ i < 2 ^ 31 ∧ bLn B r ≤ i) (hk : k zN1 w) : fX0_wordAt b (Int32.ofNat r) x w k := by
  have h8 := wf_R hwf
  have h60 := wf_Ln hwf hr
  rw [fX0_wordAt]
  rcases hx with h | ⟨i, rfl, h1, h2⟩
  · exact ⟨fun _ => hk, fun q => absurd h q⟩
  · simp (disch := omega) only [cb_Ln hB hr, ↓zln1, ↓zln2, zl0, zl1, zl2, zl3, zl4, zl5, zl6, zl7, zl8, zl9, zl10, zl12, zl15, zl16, zl20, zl24, zl30, zl32, zl36, zl40, zl48, zl57, zl59, zl60, zl61, zl97, zl99, zl120, zl121, zl122, zl126, zl165, zl255, zl480, zl968, zl1000, zl1100, zi_add, zi_mul, zi_sub, zi_div, zi_mod, zi_nat, zt_le, zf_le, zt_lt, zf_lt, zt_eq, zf_eq, zt_vp, zt_N1lt, zf_N1lt, zf_N1eq, zf_eqN1, zt_N1eq, zt_N1le, zf_leN1, zi_nN1, zi_a1, zi_a15, zi_a255, zi_shr, zi_bit, zt_b0, zt_b1, forall_eq, if_true, if_false, true_implies, false_implies, not_true_eq_false, not_false_eq_true, and_true, true_and, gI_sI_eq, gI_sI_ne, gI_sI_ne2, gL_sI, gR_sI, gI_sL, gL_sL_eq, gL_sL_ne, gL_sL_ne2, gR_sL, gI_sR, gL_sR, gR_sR_eq, gR_sR_ne, gR_sR_ne2, gI_aI_eq, gI_aI_ne, gL_aI, gR_aI]
    exact hk

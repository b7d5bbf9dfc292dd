/-! Level 2: what is guessed and told -/
theorem zbits_t {n : Nat} {p : Nat → Bool} (hn : n < 31) (h : p n = true) : Int32.ofNat (zbits n p) ||| Int32.ofNat (2 ^ n) = Int32.ofNat (zbits (n + 1) p) := by
  rw [zbits_S, if_pos h, zi_or, zi_or_bit (zbits_lt n p)]
theorem zbits_f {n : Nat} {p : Nat → Bool} (h : p n = false) : Int32.ofNat (zbits n p) ||| Int32.ofNat 0 = Int32.ofNat (zbits (n + 1) p) := by
  rw [zbits_S, if_neg (by rw [h]; decide), zi_or, Nat.or_zero, Nat.add_zero]
def zbc1 (x : Int32) : Int32 := x - (((x.toUInt32 >>> ((1 : Int32).toUInt32 &&& Int32.toUInt32 31)).toInt32) &&& (1431655765 : Int32))
def zbc2 (x : Int32) : Int32 := (x &&& (858993459 : Int32)) + (((x.toUInt32 >>> ((2 : Int32).toUInt32 &&& Int32.toUInt32 31)).toInt32) &&& (858993459 : Int32))
def zbc3 (x : Int32) : Int32 := (x + ((x.toUInt32 >>> ((4 : Int32).toUInt32 &&& Int32.toUInt32 31)).toInt32)) &&& (252645135 : Int32)
def zbc4 (x : Int32) : Int32 := x + ((x.toUInt32 >>> ((8 : Int32).toUInt32 &&& Int32.toUInt32 31)).toInt32)
def zbc5 (x : Int32) : Int32 := x + ((x.toUInt32 >>> ((16 : Int32).toUInt32 &&& Int32.toUInt32 31)).toInt32)
theorem zbcF : ∀ v : Fin 256, zbc5 (zbc4 (zbc3 (zbc2 (zbc1 (Int32.ofNat v.val))))) &&& (63 : Int32) = Int32.ofNat (zones v.val) := by decide +kernel
theorem q_bitCount {v : Nat} {w : zW} {k : Int32 → zW → Prop} (hv : v < 256) (hk : k (Int32.ofNat (zones v)) w) : fJ6_bitCount_0f7a4 (Int32.ofNat v) w k := by
  intro v1 e1 v2 e2 v3 e3 v4 e4 v5 e5
  have e : v5 &&& (63 : Int32) = Int32.ofNat (zones v) := by
    rw [e5, e4, e3, e2, e1]
    exact zbcF ⟨v, hv⟩
  rw [e]
  exact hk
/-- what may be held: a meaning for a word, a count for a row -/
def zHd (B : zBk) (S : Nat → Int32) : Prop :=
  (∀ o, o < 4 → zsm 9 (S o)) ∧ (∀ o, bW B ≤ o → o < 4 → S o = zN1) ∧ (∀ r, r < 8 → zsm 100 (S (4 + r))) ∧ (∀ r, bR B ≤ r → r < 8 → S (4 + r) = zN1)
def zh (S : Nat → Int32) (i : Nat) : Bool := decide (¬ S i = zN1)
theorem zh_t {S : Nat → Int32} {i : Nat} (h : ¬ S i = zN1) : zh S i = true := decide_eq_true h
theorem zh_f {S : Nat → Int32} {i : Nat} (h : S i = zN1) : zh S i = false := decide_eq_false (fun q => q h)
theorem q3_guessOf {a i : Nat} {w : zW} {k : Int32 → zW → Prop} (hi : i < 4) (hk : k (gI w (a + 1) i) w) : fX3_guessOf a (Int32.ofNat i) w k := by
  simp (disch := omega) only [fX3_guessOf, ↓zln1, ↓zln2, zl0, zl1, zl2, zl3, zl4, zl5, zl6, zl7, zl8, zl9, zl10, zl12, zl15, zl16, zl20, zl24, zl30, zl32, zl36, zl40, zl48, zl57, zl59, zl60, zl61, zl97, zl99, zl120, zl121, zl122, zl126, zl165, zl255, zl480, zl968, zl1000, zl1100, zi_add, zi_mul, zi_sub, zi_div, zi_mod, zi_nat, zt_le, zf_le, zt_lt, zf_lt, zt_eq, zf_eq, zt_vp, zt_N1lt, zf_N1lt, zf_N1eq, zf_eqN1, zt_N1eq, zt_N1le, zf_leN1, zi_nN1, zi_a1, zi_a15, zi_a255, zi_shr, zi_bit, zt_b0, zt_b1, forall_eq, if_true, if_false, true_implies, false_implies, not_true_eq_false, not_false_eq_true, and_true, true_and, gI_sI_eq, gI_sI_ne, gI_sI_ne2, gL_sI, gR_sI, gI_sL, gL_sL_eq, gL_sL_ne, gL_sL_ne2, gR_sL, gI_sR, gL_sR, gR_sR_eq, gR_sR_ne, gR_sR_ne2, gI_aI_eq, gI_aI_ne, gL_aI, gR_aI]
  exact hk
theorem q3_countOf {a i : Nat} {w : zW} {k : Int32 → zW → Prop} (hi : i < 8) (hk : k (gI w (a + 1) (4 + i)) w) : fX3_countOf a (Int32.ofNat i) w k := by
  simp (disch := omega) only [fX3_countOf, ↓zln1, ↓zln2, zl0, zl1, zl2, zl3, zl4, zl5, zl6, zl7, zl8, zl9, zl10, zl12, zl15, zl16, zl20, zl24, zl30, zl32, zl36, zl40, zl48, zl57, zl59, zl60, zl61, zl97, zl99, zl120, zl121, zl122, zl126, zl165, zl255, zl480, zl968, zl1000, zl1100, zi_add, zi_mul, zi_sub, zi_div, zi_mod, zi_nat, zt_le, zf_le, zt_lt, zf_lt, zt_eq, zf_eq, zt_vp, zt_N1lt, zf_N1lt, zf_N1eq, zf_eqN1, zt_N1eq, zt_N1le, zf_leN1, zi_nN1, zi_a1, zi_a15, zi_a255, zi_shr, zi_bit, zt_b0, zt_b1, forall_eq, if_true, if_false, true_implies, false_implies, not_true_eq_false, not_false_eq_true, and_true, true_and, gI_sI_eq, gI_sI_ne, gI_sI_ne2, gL_sI, gR_sI, gI_sL, gL_sL_eq, gL_sL_ne, gL_sL_ne2, gR_sL, gI_sR, gL_sR, gR_sR_eq, gR_sR_ne, gR_sR_ne2, gI_aI_eq, gI_aI_ne, gL_aI, gR_aI]
  exact hk
theorem q3_at {a i : Nat} {w : zW} {k : Int32 → zW → Prop} (hi : i < 12) (hk : k (gI w (a + 1) i) w) : fX3_at a (Int32.ofNat i) w k := by
  simp (disch := omega) only [fX3_at, ↓zln1, ↓zln2, zl0, zl1, zl2, zl3, zl4, zl5, zl6, zl7, zl8, zl9, zl10, zl12, zl15, zl16, zl20, zl24, zl30, zl32, zl36, zl40, zl48, zl57, zl59, zl60, zl61, zl97, zl99, zl120, zl121, zl122, zl126, zl165, zl255, zl480, zl968, zl1000, zl1100, zi_add, zi_mul, zi_sub, zi_div, zi_mod, zi_nat, zt_le, zf_le, zt_lt, zf_lt, zt_eq, zf_eq, zt_vp, zt_N1lt, zf_N1lt, zf_N1eq, zf_eqN1, zt_N1eq, zt_N1le, zf_leN1, zi_nN1, zi_a1, zi_a15, zi_a255, zi_shr, zi_bit, zt_b0, zt_b1, forall_eq, if_true, if_false, true_implies, false_implies, not_true_eq_false, not_false_eq_true, and_true, true_and, gI_sI_eq, gI_sI_ne, gI_sI_ne2, gL_sI, gR_sI, gI_sL, gL_sL_eq, gL_sL_ne, gL_sL_ne2, gR_sL, gI_sR, gL_sR, gR_sR_eq, gR_sR_ne, gR_sR_ne2, gI_aI_eq, gI_aI_ne, gL_aI, gR_aI]
  exact hk
theorem q3_put {a i : Nat} {x : Int32} {w : zW} {k : Int32 → zW → Prop} (hi : i < 12) (hk : k (gI w (a + 1) i) (sI w (a + 1) i x)) : fX3_put a (Int32.ofNat i) x w k := by
  simp (disch := omega) only [fX3_put, fX3_at, ↓zln1, ↓zln2, zl0, zl1, zl2, zl3, zl4, zl5, zl6, zl7, zl8, zl9, zl10, zl12, zl15, zl16, zl20, zl24, zl30, zl32, zl36, zl40, zl48, zl57, zl59, zl60, zl61, zl97, zl99, zl120, zl121, zl122, zl126, zl165, zl255, zl480, zl968, zl1000, zl1100, zi_add, zi_mul, zi_sub, zi_div, zi_mod, zi_nat, zt_le, zf_le, zt_lt, zf_lt, zt_eq, zf_eq, zt_vp, zt_N1lt, zf_N1lt, zf_N1eq, zf_eqN1, zt_N1eq, zt_N1le, zf_leN1, zi_nN1, zi_a1, zi_a15, zi_a255, zi_shr, zi_bit, zt_b0, zt_b1, forall_eq, if_true, if_false, true_implies, false_implies, not_true_eq_false, not_false_eq_true, and_true, true_and, gI_sI_eq, gI_sI_ne, gI_sI_ne2, gL_sI, gR_sI, gI_sL, gL_sL_eq, gL_sL_ne, gL_sL_ne2, gR_sL, gI_sR, gL_sR, gR_sR_eq, gR_sR_ne, gR_sR_ne2, gI_aI_eq, gI_aI_ne, gL_aI, gR_aI]
  exact hk
theorem q3_guessBits {a : Nat} {S : Nat → Int32} {w : zW} {k : Int32 → zW → Prop} (hS : ∀ i, i < 12 → gI w (a + 1) i = S i) (hk : k (Int32.ofNat (zbits 4 (zh S))) w) : fX3_guessBits a w k := by
  refine zrun (fun n (s : Int32 × Int32) => fX3_guessBits_L4 a k n s.1 s.2 w) (fun i => (Int32.ofNat (zbits i (zh S)), Int32.ofNat i)) 4 (fun n => ?_) (fun i n hi hc => ?_)
  · simp (disch := omega) only [fX3_guessBits_L4, ↓zln1, ↓zln2, zl0, zl1, zl2, zl3, zl4, zl5, zl6, zl7, zl8, zl9, zl10, zl12, zl15, zl16, zl20, zl24, zl30, zl32, zl36, zl40, zl48, zl57, zl59, zl60, zl61, zl97, zl99, zl120, zl121, zl122, zl126, zl165, zl255, zl480, zl968, zl1000, zl1100, zi_add, zi_mul, zi_sub, zi_div, zi_mod, zi_nat, zt_le, zf_le, zt_lt, zf_lt, zt_eq, zf_eq, zt_vp, zt_N1lt, zf_N1lt, zf_N1eq, zf_eqN1, zt_N1eq, zt_N1le, zf_leN1, zi_nN1, zi_a1, zi_a15, zi_a255, zi_shr, zi_bit, zt_b0, zt_b1, forall_eq, if_true, if_false, true_implies, false_implies, not_true_eq_false, not_false_eq_true, and_true, true_and, gI_sI_eq, gI_sI_ne, gI_sI_ne2, gL_sI, gR_sI, gI_sL, gL_sL_eq, gL_sL_ne, gL_sL_ne2, gR_sL, gI_sR, gL_sR, gR_sR_eq, gR_sR_ne, gR_sR_ne2, gI_aI_eq, gI_aI_ne, gL_aI, gR_aI]
    exact hk
  · by_cases h : S i = zN1
    · simp (disch := omega) only [fX3_guessBits_L4, fX3_guessOf, fX3_guessBits_J26, hS i (by omega), h, ↓zln1, ↓zln2, zl0, zl1, zl2, zl3, zl4, zl5, zl6, zl7, zl8, zl9, zl10, zl12, zl15, zl16, zl20, zl24, zl30, zl32, zl36, zl40, zl48, zl57, zl59, zl60, zl61, zl97, zl99, zl120, zl121, zl122, zl126, zl165, zl255, zl480, zl968, zl1000, zl1100, zi_add, zi_mul, zi_sub, zi_div, zi_mod, zi_nat, zt_le, zf_le, zt_lt, zf_lt, zt_eq, zf_eq, zt_vp, zt_N1lt, zf_N1lt, zf_N1eq, zf_eqN1, zt_N1eq, zt_N1le, zf_leN1, zi_nN1, zi_a1, zi_a15, zi_a255, zi_shr, zi_bit, zt_b0, zt_b1, forall_eq, if_true, if_false, true_implies, false_implies, not_true_eq_false, not_false_eq_true, and_true, true_and, gI_sI_eq, gI_sI_ne, gI_sI_ne2, gL_sI, gR_sI, gI_sL, gL_sL_eq, gL_sL_ne, gL_sL_ne2, gR_sL, gI_sR, gL_sR, gR_sR_eq, gR_sR_ne, gR_sR_ne2, gI_aI_eq, gI_aI_ne, gL_aI, gR_aI]
      rw [zbits_f (zh_f h)]
      exact hc
    · simp (disch := omega) only [fX3_guessBits_L4, fX3_guessOf, fX3_guessBits_J26, hS i (by omega), h, ↓zln1, ↓zln2, zl0, zl1, zl2, zl3, zl4, zl5, zl6, zl7, zl8, zl9, zl10, zl12, zl15, zl16, zl20, zl24, zl30, zl32, zl36, zl40, zl48, zl57, zl59, zl60, zl61, zl97, zl99, zl120, zl121, zl122, zl126, zl165, zl255, zl480, zl968, zl1000, zl1100, zi_add, zi_mul, zi_sub, zi_div, zi_mod, zi_nat, zt_le, zf_le, zt_lt, zf_lt, zt_eq, zf_eq, zt_vp, zt_N1lt, zf_N1lt, zf_N1eq, zf_eqN1, zt_N1eq, zt_N1le, zf_leN1, zi_nN1, zi_a1, zi_a15, zi_a255, zi_shr, zi_bit, zt_b0, zt_b1, forall_eq, if_true, if_false, true_implies, false_implies, not_true_eq_false, not_false_eq_true, and_true, true_and, gI_sI_eq, gI_sI_ne, gI_sI_ne2, gL_sI, gR_sI, gI_sL, gL_sL_eq, gL_sL_ne, gL_sL_ne2, gR_sL, gI_sR, gL_sR, gR_sR_eq, gR_sR_ne, gR_sR_ne2, gI_aI_eq, gI_aI_ne, gL_aI, gR_aI]
      rw [zbits_t (by omega) (zh_t h)]
      exact hc
theorem q3_countBits {a : Nat} {S : Nat → Int32} {w : zW} {k : Int32 → zW → Prop} (hS : ∀ i, i < 12 → gI w (a + 1) i = S i) (hk : k (Int32.ofNat (zbits 8 (fun r => zh S (4 + r)))) w) : fX3_countBits a w k := by
  refine zrun (fun n (s : Int32 × Int32) => fX3_countBits_L4 a k n s.1 s.2 w) (fun i => (Int32.ofNat (zbits i (fun r => zh S (4 + r))), Int32.ofNat i)) 8 (fun n => ?_) (fun i n hi hc => ?_)
  · simp (disch := omega) only [fX3_countBits_L4, ↓zln1, ↓zln2, zl0, zl1, zl2, zl3, zl4, zl5, zl6, zl7, zl8, zl9, zl10, zl12, zl15, zl16, zl20, zl24, zl30, zl32, zl36, zl40, zl48, zl57, zl59, zl60, zl61, zl97, zl99, zl120, zl121, zl122, zl126, zl165, zl255, zl480, zl968, zl1000, zl1100, zi_add, zi_mul, zi_sub, zi_div, zi_mod, zi_nat, zt_le, zf_le, zt_lt, zf_lt, zt_eq, zf_eq, zt_vp, zt_N1lt, zf_N1lt, zf_N1eq, zf_eqN1, zt_N1eq, zt_N1le, zf_leN1, zi_nN1, zi_a1, zi_a15, zi_a255, zi_shr, zi_bit, zt_b0, zt_b1, forall_eq, if_true, if_false, true_implies, false_implies, not_true_eq_false, not_false_eq_true, and_true, true_and, gI_sI_eq, gI_sI_ne, gI_sI_ne2, gL_sI, gR_sI, gI_sL, gL_sL_eq, gL_sL_ne, gL_sL_ne2, gR_sL, gI_sR, gL_sR, gR_sR_eq, gR_sR_ne, gR_sR_ne2, gI_aI_eq, gI_aI_ne, gL_aI, gR_aI]
    exact hk
  · by_cases h : S (4 + i) = zN1
    · simp (disch := omega) only [fX3_countBits_L4, fX3_countOf, fX3_countBits_J27, hS (4 + i) (by omega), h, ↓zln1, ↓zln2, zl0, zl1, zl2, zl3, zl4, zl5, zl6, zl7, zl8, zl9, zl10, zl12, zl15, zl16, zl20, zl24, zl30, zl32, zl36, zl40, zl48, zl57, zl59, zl60, zl61, zl97, zl99, zl120, zl121, zl122, zl126, zl165, zl255, zl480, zl968, zl1000, zl1100, zi_add, zi_mul, zi_sub, zi_div, zi_mod, zi_nat, zt_le, zf_le, zt_lt, zf_lt, zt_eq, zf_eq, zt_vp, zt_N1lt, zf_N1lt, zf_N1eq, zf_eqN1, zt_N1eq, zt_N1le, zf_leN1, zi_nN1, zi_a1, zi_a15, zi_a255, zi_shr, zi_bit, zt_b0, zt_b1, forall_eq, if_true, if_false, true_implies, false_implies, not_true_eq_false, not_false_eq_true, and_true, true_and, gI_sI_eq, gI_sI_ne, gI_sI_ne2, gL_sI, gR_sI, gI_sL, gL_sL_eq, gL_sL_ne, gL_sL_ne2, gR_sL, gI_sR, gL_sR, gR_sR_eq, gR_sR_ne, gR_sR_ne2, gI_aI_eq, gI_aI_ne, gL_aI, gR_aI]
      rw [zbits_f (p := fun r => zh S (4 + r)) (zh_f h)]
      exact hc
    · simp (disch := omega) only [fX3_countBits_L4, fX3_countOf, fX3_countBits_J27, hS (4 + i) (by omega), h, ↓zln1, ↓zln2, zl0, zl1, zl2, zl3, zl4, zl5, zl6, zl7, zl8, zl9, zl10, zl12, zl15, zl16, zl20, zl24, zl30, zl32, zl36, zl40, zl48, zl57, zl59, zl60, zl61, zl97, zl99, zl120, zl121, zl122, zl126, zl165, zl255, zl480, zl968, zl1000, zl1100, zi_add, zi_mul, zi_sub, zi_div, zi_mod, zi_nat, zt_le, zf_le, zt_lt, zf_lt, zt_eq, zf_eq, zt_vp, zt_N1lt, zf_N1lt, zf_N1eq, zf_eqN1, zt_N1eq, zt_N1le, zf_leN1, zi_nN1, zi_a1, zi_a15, zi_a255, zi_shr, zi_bit, zt_b0, zt_b1, forall_eq, if_true, if_false, true_implies, false_implies, not_true_eq_false, not_false_eq_true, and_true, true_and, gI_sI_eq, gI_sI_ne, gI_sI_ne2, gL_sI, gR_sI, gI_sL, gL_sL_eq, gL_sL_ne, gL_sL_ne2, gR_sL, gI_sR, gL_sR, gR_sR_eq, gR_sR_ne, gR_sR_ne2, gI_aI_eq, gI_aI_ne, gL_aI, gR_aI]
      rw [zbits_t (p := fun r => zh S (4 + r)) (by omega) (zh_t h)]
      exact hc
/-- as many as are guessed are words: all are -/
theorem zh_all {B : zBk} {S : Nat → Int32} (hwf : zWF B) (h : zHd B S) : zcnt 4 (zh S) = bW B ↔ ∀ o, o < bW B → ¬ S o = zN1 := by
  have h4 := wf_W hwf
  have h1 : ∀ n, zcnt n (zh S) = n ↔ ∀ o, o < n → ¬ S o = zN1 := by
    intro n
    induction n with
    | zero => exact ⟨fun _ o ho => absurd ho (Nat.not_lt_zero _), fun _ => rfl⟩
    | succ n ih =>
      rw [zcnt_S]
      have hle := zcnt_le n (zh S)
      by_cases e : S n = zN1
      · rw [zh_f e]
        refine ⟨fun q => ?_, fun q => absurd e (q n (by omega))⟩
        have : zcnt n (zh S) + 0 = n + 1 := q
        omega
      · rw [zh_t e]
        refine ⟨fun q o ho => ?_, fun q => ?_⟩
        · have q1 : zcnt n (zh S) + 1 = n + 1 := q
          by_cases e2 : o = n
          · rw [e2]; exact e
          · exact ih.mp (by omega) o (by omega)
        · show zcnt n (zh S) + 1 = n + 1
          rw [ih.mpr (fun o ho => q o (by omega))]
  have h2 : ∀ n, bW B ≤ n → n ≤ 4 → zcnt n (zh S) = zcnt (bW B) (zh S) := by
    intro n
    induction n with
    | zero => intro a _; rw [show bW B = 0 by omega]
    | succ n ih =>
      intro a c
      by_cases e : bW B = n + 1
      · rw [e]
      · rw [zcnt_S, zh_f (h.2.1 n (by omega) (by omega)), ih (by omega) (by omega)]
        rfl
  rw [h2 4 h4 (by omega)]
  exact h1 (bW B)
theorem q3_allGuessed {B : zBk} {a : Nat} {S : Nat → Int32} {w : zW} {k : Int32 → zW → Prop} (hwf : zWF B) (hd : zHd B S) (hS : ∀ i, i < 12 → gI w (a + 1) i = S i) (h1 : (∀ o, o < bW B → ¬ S o = zN1) → k (Int32.ofNat 1) w) (h0 : (∃ o, o < bW B ∧ S o = zN1) → k (Int32.ofNat 0) w) : fX3_allGuessed a (Int32.ofNat (bW B)) w k := by
  have h4 := wf_W hwf
  rw [fX3_allGuessed]
  refine q3_guessBits hS (q_bitCount (Nat.lt_of_lt_of_le (zbits_lt 4 _) (by decide)) ?_)
  rw [zones_bits (by omega)]
  have hle := zcnt_le 4 (zh S)
  by_cases e : zcnt 4 (zh S) = bW B
  · simp (disch := omega) only [e, ↓zln1, ↓zln2, zl0, zl1, zl2, zl3, zl4, zl5, zl6, zl7, zl8, zl9, zl10, zl12, zl15, zl16, zl20, zl24, zl30, zl32, zl36, zl40, zl48, zl57, zl59, zl60, zl61, zl97, zl99, zl120, zl121, zl122, zl126, zl165, zl255, zl480, zl968, zl1000, zl1100, zi_add, zi_mul, zi_sub, zi_div, zi_mod, zi_nat, zt_le, zf_le, zt_lt, zf_lt, zt_eq, zf_eq, zt_vp, zt_N1lt, zf_N1lt, zf_N1eq, zf_eqN1, zt_N1eq, zt_N1le, zf_leN1, zi_nN1, zi_a1, zi_a15, zi_a255, zi_shr, zi_bit, zt_b0, zt_b1, forall_eq, if_true, if_false, true_implies, false_implies, not_true_eq_false, not_false_eq_true, and_true, true_and, gI_sI_eq, gI_sI_ne, gI_sI_ne2, gL_sI, gR_sI, gI_sL, gL_sL_eq, gL_sL_ne, gL_sL_ne2, gR_sL, gI_sR, gL_sR, gR_sR_eq, gR_sR_ne, gR_sR_ne2, gI_aI_eq, gI_aI_ne, gL_aI, gR_aI]
    exact h1 ((zh_all hwf hd).mp e)
  · simp (disch := omega) only [↓zln1, ↓zln2, zl0, zl1, zl2, zl3, zl4, zl5, zl6, zl7, zl8, zl9, zl10, zl12, zl15, zl16, zl20, zl24, zl30, zl32, zl36, zl40, zl48, zl57, zl59, zl60, zl61, zl97, zl99, zl120, zl121, zl122, zl126, zl165, zl255, zl480, zl968, zl1000, zl1100, zi_add, zi_mul, zi_sub, zi_div, zi_mod, zi_nat, zt_le, zf_le, zt_lt, zf_lt, zt_eq, zf_eq, zt_vp, zt_N1lt, zf_N1lt, zf_N1eq, zf_eqN1, zt_N1eq, zt_N1le, zf_leN1, zi_nN1, zi_a1, zi_a15, zi_a255, zi_shr, zi_bit, zt_b0, zt_b1, forall_eq, if_true, if_false, true_implies, false_implies, not_true_eq_false, not_false_eq_true, and_true, true_and, gI_sI_eq, gI_sI_ne, gI_sI_ne2, gL_sI, gR_sI, gI_sL, gL_sL_eq, gL_sL_ne, gL_sL_ne2, gR_sL, gI_sR, gL_sR, gR_sR_eq, gR_sR_ne, gR_sR_ne2, gI_aI_eq, gI_aI_ne, gL_aI, gR_aI]
    refine h0 (Classical.byContradiction fun q => e ((zh_all hwf hd).mpr fun o ho z => q ⟨o, ho, z⟩))
/-- what is guessed, as numbers -/
def zgm (S : Nat → Int32) (o : Nat) : Nat := (S o).toNatClampNeg
theorem zsm_nat {N : Nat} {x : Int32} (h : zsm N x) (hN : N < 2 ^ 31) : x.toNatClampNeg < N ∨ x = zN1 := by
  rcases h with h | ⟨n, h1, h2⟩
  · exact Or.inr h
  · rw [h2, zi_nat (by omega)]
    exact Or.inl h1
/-- digits of four bits each -/
def zpk : Nat → (Nat → Nat) → Nat
  | 0, _ => 0
  | n + 1, m => zpk n m + m n * 2 ^ (4 * n)
theorem zpk_lt {m : Nat → Nat} (hm : ∀ o, m o < 16) (n : Nat) : zpk n m < 2 ^ (4 * n) := by
  induction n with
  | zero => exact Nat.one_pos
  | succ n ih =>
    rw [zpk, show 4 * (n + 1) = 4 * n + 4 by omega, Nat.pow_add]
    have h1 := hm n
    have h2 : m n * 2 ^ (4 * n) ≤ 15 * 2 ^ (4 * n) := Nat.mul_le_mul_right _ (by omega)
    omega
theorem zdg_pk {m : Nat → Nat} (hm : ∀ o, m o < 16) {n o : Nat} (h : o < n) : zdg (zpk n m) o = m o := by
  induction n with
  | zero => exact absurd h (Nat.not_lt_zero _)
  | succ n ih =>
    have hl := zpk_lt hm n
    rw [zdg, zpk]
    by_cases e : o = n
    · subst e
      rw [Nat.add_mul_div_right _ _ (Nat.two_pow_pos _), Nat.div_eq_of_lt hl, Nat.zero_add]
      exact Nat.mod_eq_of_lt (hm o)
    · have h1 : o < n := by omega
      rw [← ih h1, zdg, show 4 * n = 4 * o + 4 + 4 * (n - o - 1) by omega, Nat.pow_add, Nat.pow_add, Nat.mul_comm (m n), Nat.mul_assoc, Nat.mul_assoc, Nat.add_mul_div_left _ _ (Nat.two_pow_pos _)]
      show (zpk n m / 2 ^ (4 * o) + 16 * _) % 16 = _
      omega
theorem zdg_hi {m : Nat → Nat} (hm : ∀ o, m o < 16) {n o : Nat} (h : n ≤ o) : zdg (zpk n m) o = 0 := by
  rw [zdg, Nat.div_eq_of_lt (Nat.lt_of_lt_of_le (zpk_lt hm n) (Nat.pow_le_pow_right (by omega) (by omega)))]
theorem zi_or_pk {a m n : Nat} (ha : a < 2 ^ (4 * n)) : a ||| m * 2 ^ (4 * n) = a + m * 2 ^ (4 * n) := by
  have e := Nat.two_pow_add_eq_or_of_lt ha m
  rw [Nat.mul_comm m, Nat.or_comm, ← e, Nat.add_comm]
theorem zi_shlF : ∀ (m : Fin 16) (o : Fin 5), Int32.ofNat m.val <<< (Int32.ofNat (4 * o.val) &&& 31) = Int32.ofNat (m.val * 2 ^ (4 * o.val)) := by decide +kernel
theorem zi_shl {m o : Nat} (hm : m < 16) (ho : o < 5) : Int32.ofNat m <<< (Int32.ofNat (4 * o) &&& 31) = Int32.ofNat (m * 2 ^ (4 * o)) := zi_shlF ⟨m, hm⟩ ⟨o, ho⟩
theorem zpk_or {m : Nat → Nat} (hm : ∀ o, m o < 16) {n : Nat} (hn : n < 5) : Int32.ofNat (zpk n m) ||| (Int32.ofNat (m n) <<< (Int32.ofNat (4 * n) &&& 31)) = Int32.ofNat (zpk (n + 1) m) := by
  rw [zi_shl (hm n) hn, zi_or, zi_or_pk (zpk_lt hm n)]
  rfl
theorem zgm_lt {B : zBk} {S : Nat → Int32} (h : zHd B S) {o : Nat} (ho : o < 4) : zgm S o < 9 := by
  rcases h.1 o ho with e | ⟨n, h1, h2⟩
  · rw [zgm, e, zi_nN1]; omega
  · rw [zgm, h2, zi_nat (by omega)]; exact h1
/-- what is guessed as a dictionary: for the four words -/
def zgf (S : Nat → Int32) (o : Nat) : Nat := if o < 4 then zgm S o else 0
def zgp (S : Nat → Int32) : Nat := zpk 4 (zgf S)
theorem zgf_lt {B : zBk} {S : Nat → Int32} (h : zHd B S) (o : Nat) : zgf S o < 9 := by
  rw [zgf]
  by_cases e : o < 4
  · rw [if_pos e]; exact zgm_lt h e
  · rw [if_neg e]; omega
theorem zgp_m {B : zBk} {S : Nat → Int32} (h : zHd B S) (o : Nat) : zgf S o < 16 := by
  have := zgf_lt h o
  omega
theorem zgp_lt {B : zBk} {S : Nat → Int32} (h : zHd B S) : zgp S < 65536 := zpk_lt (zgp_m h) 4
theorem zdg_gp {B : zBk} {S : Nat → Int32} (h : zHd B S) {o : Nat} (ho : o < 4) : zdg (zgp S) o = zgm S o := by
  rw [zgp, zdg_pk (zgp_m h) ho]
  exact if_pos ho
theorem zdg_gf {B : zBk} {S : Nat → Int32} (h : zHd B S) {o : Nat} (ho : o < 4) : zdg (zgp S) o = zgf S o := zdg_pk (zgp_m h) ho
theorem q3_packed {B : zBk} {a : Nat} {S : Nat → Int32} {w : zW} {k : Int32 → zW → Prop} (hd : zHd B S) (hS : ∀ i, i < 12 → gI w (a + 1) i = S i) (hk : k (Int32.ofNat (zgp S)) w) : fX3_packed a w k := by
  refine zrun (fun n (s : Int32 × Int32) => fX3_packed_L4 a k n s.1 s.2 w) (fun i => (Int32.ofNat (zpk i (zgf S)), Int32.ofNat i)) 4 (fun n => ?_) (fun i n hi hc => ?_)
  · simp (disch := omega) only [fX3_packed_L4, ↓zln1, ↓zln2, zl0, zl1, zl2, zl3, zl4, zl5, zl6, zl7, zl8, zl9, zl10, zl12, zl15, zl16, zl20, zl24, zl30, zl32, zl36, zl40, zl48, zl57, zl59, zl60, zl61, zl97, zl99, zl120, zl121, zl122, zl126, zl165, zl255, zl480, zl968, zl1000, zl1100, zi_add, zi_mul, zi_sub, zi_div, zi_mod, zi_nat, zt_le, zf_le, zt_lt, zf_lt, zt_eq, zf_eq, zt_vp, zt_N1lt, zf_N1lt, zf_N1eq, zf_eqN1, zt_N1eq, zt_N1le, zf_leN1, zi_nN1, zi_a1, zi_a15, zi_a255, zi_shr, zi_bit, zt_b0, zt_b1, forall_eq, if_true, if_false, true_implies, false_implies, not_true_eq_false, not_false_eq_true, and_true, true_and, gI_sI_eq, gI_sI_ne, gI_sI_ne2, gL_sI, gR_sI, gI_sL, gL_sL_eq, gL_sL_ne, gL_sL_ne2, gR_sL, gI_sR, gL_sR, gR_sR_eq, gR_sR_ne, gR_sR_ne2, gI_aI_eq, gI_aI_ne, gL_aI, gR_aI]
    exact hk
  · have e1 : (if gI w (a + 1) i < Int32.ofNat 0 then Int32.ofNat 0 else gI w (a + 1) i) = Int32.ofNat (zgf S i) := by
      rw [hS i (by omega), zgf, if_pos hi]
      rcases hd.1 i hi with e | ⟨m, h1, h2⟩
      · rw [zgm, e]; rfl
      · rw [zgm, h2, if_neg (show ¬ Int32.ofNat m < Int32.ofNat 0 from zi_0le (by omega)), zi_nat (by omega)]
    simp (disch := omega) only [fX3_packed_L4, fX3_guessOf, ↓zln1, ↓zln2, zl0, zl1, zl2, zl3, zl4, zl5, zl6, zl7, zl8, zl9, zl10, zl12, zl15, zl16, zl20, zl24, zl30, zl32, zl36, zl40, zl48, zl57, zl59, zl60, zl61, zl97, zl99, zl120, zl121, zl122, zl126, zl165, zl255, zl480, zl968, zl1000, zl1100, zi_add, zi_mul, zi_sub, zi_div, zi_mod, zi_nat, zt_le, zf_le, zt_lt, zf_lt, zt_eq, zf_eq, zt_vp, zt_N1lt, zf_N1lt, zf_N1eq, zf_eqN1, zt_N1eq, zt_N1le, zf_leN1, zi_nN1, zi_a1, zi_a15, zi_a255, zi_shr, zi_bit, zt_b0, zt_b1, forall_eq, if_true, if_false, true_implies, false_implies, not_true_eq_false, not_false_eq_true, and_true, true_and, gI_sI_eq, gI_sI_ne, gI_sI_ne2, gL_sI, gR_sI, gI_sL, gL_sL_eq, gL_sL_ne, gL_sL_ne2, gR_sL, gI_sR, gL_sR, gR_sR_eq, gR_sR_ne, gR_sR_ne2, gI_aI_eq, gI_aI_ne, gL_aI, gR_aI]
    rw [e1, zpk_or (zgp_m hd) (by omega)]
    exact hc
theorem q12_copies {f t n : Nat} {w : zW} {k : zW → Prop} (hf : f + n ≤ 252) (ht : t + n ≤ 252) (hd : f + n ≤ t ∨ t + n ≤ f) (hk : k (aI w 220 (fun b => if t ≤ b ∧ b < t + n then gI w 220 (f + (b - t)) else gI w 220 b))) : fX12_copies (Int32.ofNat f) (Int32.ofNat t) (Int32.ofNat n) w k := by
  have h0 : aI w 220 (fun b => if t ≤ b ∧ b < t + 0 then gI w 220 (f + (b - t)) else gI w 220 b) = w := aI_id (fun b => if_neg (by omega))
  have h := zrun (fun m (s : Int32 × zW) => fX12_copies_L3 k m (Int32.ofNat f) (Int32.ofNat t) (Int32.ofNat n) s.1 s.2) (fun i => (Int32.ofNat i, aI w 220 (fun b => if t ≤ b ∧ b < t + i then gI w 220 (f + (b - t)) else gI w 220 b))) n (fun m => ?_) (fun i m hi hc => ?_)
  · rw [h0] at h
    exact h
  · simp (disch := omega) only [fX12_copies_L3, ↓zln1, ↓zln2, zl0, zl1, zl2, zl3, zl4, zl5, zl6, zl7, zl8, zl9, zl10, zl12, zl15, zl16, zl20, zl24, zl30, zl32, zl36, zl40, zl48, zl57, zl59, zl60, zl61, zl97, zl99, zl120, zl121, zl122, zl126, zl165, zl255, zl480, zl968, zl1000, zl1100, zi_add, zi_mul, zi_sub, zi_div, zi_mod, zi_nat, zt_le, zf_le, zt_lt, zf_lt, zt_eq, zf_eq, zt_vp, zt_N1lt, zf_N1lt, zf_N1eq, zf_eqN1, zt_N1eq, zt_N1le, zf_leN1, zi_nN1, zi_a1, zi_a15, zi_a255, zi_shr, zi_bit, zt_b0, zt_b1, forall_eq, if_true, if_false, true_implies, false_implies, not_true_eq_false, not_false_eq_true, and_true, true_and, gI_sI_eq, gI_sI_ne, gI_sI_ne2, gL_sI, gR_sI, gI_sL, gL_sL_eq, gL_sL_ne, gL_sL_ne2, gR_sL, gI_sR, gL_sR, gR_sR_eq, gR_sR_ne, gR_sR_ne2, gI_aI_eq, gI_aI_ne, gL_aI, gR_aI]
    exact hk
  · simp (disch := omega) only [fX12_copies_L3, ↓zln1, ↓zln2, zl0, zl1, zl2, zl3, zl4, zl5, zl6, zl7, zl8, zl9, zl10, zl12, zl15, zl16, zl20, zl24, zl30, zl32, zl36, zl40, zl48, zl57, zl59, zl60, zl61, zl97, zl99, zl120, zl121, zl122, zl126, zl165, zl255, zl480, zl968, zl1000, zl1100, zi_add, zi_mul, zi_sub, zi_div, zi_mod, zi_nat, zt_le, zf_le, zt_lt, zf_lt, zt_eq, zf_eq, zt_vp, zt_N1lt, zf_N1lt, zf_N1eq, zf_eqN1, zt_N1eq, zt_N1le, zf_leN1, zi_nN1, zi_a1, zi_a15, zi_a255, zi_shr, zi_bit, zt_b0, zt_b1, forall_eq, if_true, if_false, true_implies, false_implies, not_true_eq_false, not_false_eq_true, and_true, true_and, gI_sI_eq, gI_sI_ne, gI_sI_ne2, gL_sI, gR_sI, gI_sL, gL_sL_eq, gL_sL_ne, gL_sL_ne2, gR_sL, gI_sR, gL_sR, gR_sR_eq, gR_sR_ne, gR_sR_ne2, gI_aI_eq, gI_aI_ne, gL_aI, gR_aI]
    rw [if_neg (show ¬ (t ≤ f + i ∧ f + i < t + i) by omega), sI_aI]
    rw [show aI w 220 (fun b => if b = t + i then gI w 220 (f + i) else if t ≤ b ∧ b < t + i then gI w 220 (f + (b - t)) else gI w 220 b) = aI w 220 (fun b => if t ≤ b ∧ b < t + (i + 1) then gI w 220 (f + (b - t)) else gI w 220 b) from aI_congr (fun b => by
      by_cases e : b = t + i
      · rw [if_pos e, if_pos (by omega), e, show t + i - t = i by omega]
      · rw [if_neg e]
        by_cases e2 : t ≤ b ∧ b < t + i
        · rw [if_pos e2, if_pos (by omega)]
        · rw [if_neg e2, if_neg (by omega)])]
    exact hc

/-! Level 2: what was done by hand last -/
theorem q12_keeps {n : Nat} {w : zW} {k : zW → Prop} (hn : gI w 200 21 = Int32.ofNat n) (h16 : n ≤ 16) (hk : ∀ v : zW, v.2 = w.2 → (∀ a b, a ≠ 220 → (a = 200 → b ≠ 21) → gI v a b = gI w a b) → (∀ b, b < 60 → gI v 220 b = gI w 220 b) → gI v 200 21 = Int32.ofNat (n + 1 - (if n = 16 then 1 else 0)) → (∀ j i, j < n + 1 - (if n = 16 then 1 else 0) → i < 12 → gI v 220 (12 * (5 + j) + i) = if j = n - (if n = 16 then 1 else 0) then gI w 220 i else gI w 220 (12 * (5 + (j + (if n = 16 then 1 else 0))) + i)) → k v) : fX12_keeps w k := by
  have hJ : ∀ (m : Nat) (v : zW), m ≤ 15 → gI v 200 21 = Int32.ofNat m → k (sI (aI v 220 (fun b => if 12 * (5 + m) ≤ b ∧ b < 12 * (5 + m) + 12 then gI v 220 (0 + (b - 12 * (5 + m))) else gI v 220 b)) 200 21 (Int32.ofNat (m + 1))) → fX12_keeps_J53 k v := by
    intro m v hm hv hk2
    rw [fX12_keeps_J53, hv]
    rw [zl0, zl12, zl5, zi_add, zi_mul]
    refine q12_copies (by omega) (by omega) (by omega) ?_
    intro v3 e
    subst e
    rw [gI_aI_ne (by decide), hv, zl1, zi_add]
    exact hk2
  unfold fX12_keeps
  by_cases h : n = 16
  · subst h
    rw [if_pos rfl] at hk
    refine ⟨fun q => absurd hn q, fun _ => ?_⟩
    have h0 : aI w 220 (fun b => if 60 ≤ b ∧ b < 60 + 12 * 0 then gI w 220 (b + 12) else gI w 220 b) = w := aI_id (fun b => if_neg (by omega))
    have hl := zrun (fun m (s : Int32 × zW) => fX12_keeps_L11 k m s.1 s.2) (fun i => (Int32.ofNat (1 + i), aI w 220 (fun b => if 60 ≤ b ∧ b < 60 + 12 * i then gI w 220 (b + 12) else gI w 220 b))) 15 (fun m => ?_) (fun i m hi hc => ?_)
    · rw [h0] at hl
      exact hl
    · simp (disch := omega) only [fX12_keeps_L11, hn, ↓zln1, ↓zln2, zl0, zl1, zl2, zl3, zl4, zl5, zl6, zl7, zl8, zl9, zl10, zl12, zl15, zl16, zl20, zl24, zl30, zl32, zl36, zl40, zl48, zl57, zl59, zl60, zl61, zl97, zl99, zl120, zl121, zl122, zl126, zl165, zl255, zl480, zl968, zl1000, zl1100, zi_add, zi_mul, zi_sub, zi_div, zi_mod, zi_nat, zt_le, zf_le, zt_lt, zf_lt, zt_eq, zf_eq, zt_vp, zt_N1lt, zf_N1lt, zf_N1eq, zf_eqN1, zt_N1eq, zt_N1le, zf_leN1, zi_nN1, zi_a1, zi_a15, zi_a255, zi_shr, zi_bit, zt_b0, zt_b1, forall_eq, if_true, if_false, true_implies, false_implies, not_true_eq_false, not_false_eq_true, and_true, true_and, gI_sI_eq, gI_sI_ne, gI_sI_ne2, gL_sI, gR_sI, gI_sL, gL_sL_eq, gL_sL_ne, gL_sL_ne2, gR_sL, gI_sR, gL_sR, gR_sR_eq, gR_sR_ne, gR_sR_ne2, gI_aI_eq, gI_aI_ne, gL_aI, gR_aI]
      refine hJ 15 _ (by omega) (gI_sI_eq _ _ _ _) ?_
      refine hk _ rfl (fun a b h1 h2 => ?_) (fun b hb => ?_) ?_ (fun j i hj hi => ?_)
      · by_cases e : a = 200
        · subst e
          simp (disch := omega) only [show b ≠ 21 from h2 rfl, h1, ↓zln1, ↓zln2, zl0, zl1, zl2, zl3, zl4, zl5, zl6, zl7, zl8, zl9, zl10, zl12, zl15, zl16, zl20, zl24, zl30, zl32, zl36, zl40, zl48, zl57, zl59, zl60, zl61, zl97, zl99, zl120, zl121, zl122, zl126, zl165, zl255, zl480, zl968, zl1000, zl1100, zi_add, zi_mul, zi_sub, zi_div, zi_mod, zi_nat, zt_le, zf_le, zt_lt, zf_lt, zt_eq, zf_eq, zt_vp, zt_N1lt, zf_N1lt, zf_N1eq, zf_eqN1, zt_N1eq, zt_N1le, zf_leN1, zi_nN1, zi_a1, zi_a15, zi_a255, zi_shr, zi_bit, zt_b0, zt_b1, forall_eq, if_true, if_false, true_implies, false_implies, not_true_eq_false, not_false_eq_true, and_true, true_and, gI_sI_eq, gI_sI_ne, gI_sI_ne2, gL_sI, gR_sI, gI_sL, gL_sL_eq, gL_sL_ne, gL_sL_ne2, gR_sL, gI_sR, gL_sR, gR_sR_eq, gR_sR_ne, gR_sR_ne2, gI_aI_eq, gI_aI_ne, gL_aI, gR_aI]
        · rw [gI_sI_ne e, gI_aI_ne h1, gI_sI_ne e, gI_aI_ne h1]
      · rw [gI_sI_ne (by decide), gI_aI_eq, if_neg (by omega), gI_sI_ne (by decide), gI_aI_eq, if_neg (by omega)]
      · exact gI_sI_eq _ _ _ _
      · rw [gI_sI_ne (by decide), gI_aI_eq]
        by_cases e : j = 15
        · rw [if_pos (by omega), if_pos (by omega), gI_sI_ne (by decide), gI_aI_eq, if_neg (by omega)]
          exact congrArg _ (by omega)
        · rw [if_neg (by omega), if_neg (by omega), gI_sI_ne (by decide), gI_aI_eq, if_pos (by omega)]
          exact congrArg _ (by omega)
    · simp (disch := omega) only [fX12_keeps_L11, ↓zln1, ↓zln2, zl0, zl1, zl2, zl3, zl4, zl5, zl6, zl7, zl8, zl9, zl10, zl12, zl15, zl16, zl20, zl24, zl30, zl32, zl36, zl40, zl48, zl57, zl59, zl60, zl61, zl97, zl99, zl120, zl121, zl122, zl126, zl165, zl255, zl480, zl968, zl1000, zl1100, zi_add, zi_mul, zi_sub, zi_div, zi_mod, zi_nat, zt_le, zf_le, zt_lt, zf_lt, zt_eq, zf_eq, zt_vp, zt_N1lt, zf_N1lt, zf_N1eq, zf_eqN1, zt_N1eq, zt_N1le, zf_leN1, zi_nN1, zi_a1, zi_a15, zi_a255, zi_shr, zi_bit, zt_b0, zt_b1, forall_eq, if_true, if_false, true_implies, false_implies, not_true_eq_false, not_false_eq_true, and_true, true_and, gI_sI_eq, gI_sI_ne, gI_sI_ne2, gL_sI, gR_sI, gI_sL, gL_sL_eq, gL_sL_ne, gL_sL_ne2, gR_sL, gI_sR, gL_sR, gR_sR_eq, gR_sR_ne, gR_sR_ne2, gI_aI_eq, gI_aI_ne, gL_aI, gR_aI]
      rw [show 5 + (1 + i) - 1 = 5 + i by omega]
      refine q12_copies (by omega) (by omega) (by omega) ?_
      rw [aI_aI, show 1 + i + 1 = 1 + (i + 1) by omega]
      rw [show aI w 220 (fun b => if 12 * (5 + i) ≤ b ∧ b < 12 * (5 + i) + 12 then gI (aI w 220 (fun b => if 60 ≤ b ∧ b < 60 + 12 * i then gI w 220 (b + 12) else gI w 220 b)) 220 (12 * (5 + (1 + i)) + (b - 12 * (5 + i))) else gI (aI w 220 (fun b => if 60 ≤ b ∧ b < 60 + 12 * i then gI w 220 (b + 12) else gI w 220 b)) 220 b) = aI w 220 (fun b => if 60 ≤ b ∧ b < 60 + 12 * (i + 1) then gI w 220 (b + 12) else gI w 220 b) from aI_congr (fun b => by
        by_cases e : 12 * (5 + i) ≤ b ∧ b < 12 * (5 + i) + 12
        · rw [if_pos e, gI_aI_eq, if_neg (by omega), if_pos (by omega)]
          exact congrArg _ (by omega)
        · rw [if_neg e, gI_aI_eq]
          by_cases e2 : 60 ≤ b ∧ b < 60 + 12 * i
          · rw [if_pos e2, if_pos (by omega)]
          · rw [if_neg e2, if_neg (by omega)])]
      exact hc
  · refine ⟨fun _ => ?_, fun q => absurd (hn.symm.trans q) (fun z => h ((zi_eq (by omega) (by decide)).mp z))⟩
    refine hJ n w (by omega) hn ?_
    rw [if_neg h] at hk
    refine hk _ rfl (fun a b h1 h2 => ?_) (fun b hb => ?_) (gI_sI_eq _ _ _ _) (fun j i hj hi => ?_)
    · by_cases e : a = 200
      · subst e
        rw [gI_sI_ne2 (h2 rfl), gI_aI_ne (by decide)]
      · rw [gI_sI_ne e, gI_aI_ne h1]
    · rw [gI_sI_ne (by decide), gI_aI_eq, if_neg (by omega)]
    · rw [gI_sI_ne (by decide), gI_aI_eq]
      by_cases e : j = n
      · rw [if_pos (by omega), if_pos (by omega)]
        exact congrArg _ (by omega)
      · rw [if_neg (by omega), if_neg (by omega)]
        rfl
theorem gI_cI (w : zW) (src sp dst dp n a b : Nat) : gI (cI w src sp dst dp n) a b = if a = dst ∧ dp ≤ b ∧ b < dp + n then gI w src (sp + (b - dp)) else gI w a b := rfl
theorem q6_keep {n s : Nat} {x : Int32} {w : zW} {k : zW → Prop} (hn : gI w 21 0 = Int32.ofNat n) (h16 : n ≤ 16) (hk : ∀ v : zW, v.2 = w.2 → (∀ a b, a ≠ 22 → a ≠ 23 → (a = 21 → b ≠ 0) → gI v a b = gI w a b) → gI v 21 0 = Int32.ofNat (n + 1 - (if n = 16 then 1 else 0)) → (∀ j, j < n + 1 - (if n = 16 then 1 else 0) → gI v 22 j = if j = n - (if n = 16 then 1 else 0) then Int32.ofNat s else gI w 22 (j + (if n = 16 then 1 else 0))) → (∀ j, j < n + 1 - (if n = 16 then 1 else 0) → gI v 23 j = if j = n - (if n = 16 then 1 else 0) then x else gI w 23 (j + (if n = 16 then 1 else 0))) → k v) : fX6_keep (Int32.ofNat s) x w k := by
  have hJ : ∀ (m : Nat) (v : zW), m ≤ 15 → gI v 21 0 = Int32.ofNat m → k (sI (sI (sI v 22 m (Int32.ofNat s)) 23 m x) 21 0 (Int32.ofNat (m + 1))) → fX6_keep_J45 k (Int32.ofNat s) x v := by
    intro m v hm hv hk2
    simp (disch := omega) only [fX6_keep_J45, hv, ↓zln1, ↓zln2, zl0, zl1, zl2, zl3, zl4, zl5, zl6, zl7, zl8, zl9, zl10, zl12, zl15, zl16, zl20, zl24, zl30, zl32, zl36, zl40, zl48, zl57, zl59, zl60, zl61, zl97, zl99, zl120, zl121, zl122, zl126, zl165, zl255, zl480, zl968, zl1000, zl1100, zi_add, zi_mul, zi_sub, zi_div, zi_mod, zi_nat, zt_le, zf_le, zt_lt, zf_lt, zt_eq, zf_eq, zt_vp, zt_N1lt, zf_N1lt, zf_N1eq, zf_eqN1, zt_N1eq, zt_N1le, zf_leN1, zi_nN1, zi_a1, zi_a15, zi_a255, zi_shr, zi_bit, zt_b0, zt_b1, forall_eq, if_true, if_false, true_implies, false_implies, not_true_eq_false, not_false_eq_true, and_true, true_and, gI_sI_eq, gI_sI_ne, gI_sI_ne2, gL_sI, gR_sI, gI_sL, gL_sL_eq, gL_sL_ne, gL_sL_ne2, gR_sL, gI_sR, gL_sR, gR_sR_eq, gR_sR_ne, gR_sR_ne2, gI_aI_eq, gI_aI_ne, gL_aI, gR_aI]
    exact hk2
  unfold fX6_keep
  by_cases h : n = 16
  · subst h
    rw [if_pos rfl] at hk
    refine ⟨fun q => absurd q (by rw [hn]; decide), fun _ => ?_⟩
    refine ⟨by decide, by decide, by decide, by decide, by decide, ?_⟩
    intro w7 e7
    refine ⟨by decide, by decide, by decide, by decide, by decide, ?_⟩
    intro w8 e8 w9 e9
    subst e9; subst e8; subst e7
    refine hJ 15 _ (by omega) (gI_sI_eq _ _ _ _) ?_
    refine hk _ rfl (fun a b h1 h2 h3 => ?_) (gI_sI_eq _ _ _ _) (fun j hj => ?_) (fun j hj => ?_)
    · by_cases e : a = 21
      · subst e
        rw [gI_sI_ne2 (h3 rfl), gI_sI_ne (by decide), gI_sI_ne (by decide), gI_sI_ne2 (h3 rfl), gI_cI, if_neg (by omega), gI_cI, if_neg (by omega)]
      · rw [gI_sI_ne e, gI_sI_ne h2, gI_sI_ne h1, gI_sI_ne e, gI_cI, if_neg (fun q => h2 q.1), gI_cI, if_neg (fun q => h1 q.1)]
    · rw [gI_sI_ne (by decide), gI_sI_ne (by decide)]
      by_cases e : j = 15
      · rw [if_pos (by omega), e, gI_sI_eq]
      · rw [if_neg (by omega), gI_sI_ne2 e, gI_sI_ne (by decide), gI_cI, if_neg (fun q => absurd q.1 (by decide)), gI_cI]
        exact (if_pos ⟨rfl, Nat.zero_le _, show j < 0 + 15 by omega⟩).trans (congrArg _ (show 1 + (j - 0) = j + 1 by omega))
    · rw [gI_sI_ne (by decide)]
      by_cases e : j = 15
      · rw [if_pos (by omega), e, gI_sI_eq]
      · rw [if_neg (by omega), gI_sI_ne2 e, gI_sI_ne (by decide), gI_sI_ne (by decide), gI_cI]
        refine (if_pos ⟨rfl, Nat.zero_le _, show j < 0 + 15 by omega⟩).trans ?_
        rw [gI_cI, if_neg (fun q => absurd q.1 (by decide))]
        exact congrArg _ (show 1 + (j - 0) = j + 1 by omega)
  · refine ⟨fun _ => ?_, fun q => absurd (show gI w 21 0 < 16 by rw [hn, zl16]; exact (zi_lt (by omega) (by decide)).mpr (by omega)) q⟩
    refine hJ n w (by omega) hn ?_
    rw [if_neg h] at hk
    refine hk _ rfl (fun a b h1 h2 h3 => ?_) (gI_sI_eq _ _ _ _) (fun j hj => ?_) (fun j hj => ?_)
    · by_cases e : a = 21
      · subst e
        rw [gI_sI_ne2 (h3 rfl), gI_sI_ne (by decide), gI_sI_ne (by decide)]
      · rw [gI_sI_ne e, gI_sI_ne h2, gI_sI_ne h1]
    · rw [gI_sI_ne (by decide), gI_sI_ne (by decide)]
      by_cases e : j = n
      · rw [if_pos (by omega), e, gI_sI_eq]
      · rw [if_neg (by omega), gI_sI_ne2 e]
        rfl
    · rw [gI_sI_ne (by decide)]
      by_cases e : j = n
      · rw [if_pos (by omega), e, gI_sI_eq]
      · rw [if_neg (by omega), gI_sI_ne2 e, gI_sI_ne (by decide)]
        rfl
/-- the hand, on both sides -/
def zHand (B : zBk) (S : Nat → Int32) (w : zW) : Prop := zHd B S ∧ (∀ i, i < 12 → gI w 220 i = S i) ∧ (∀ i, i < 12 → gI w (9 + 1) i = S i)
/-- what was done last: whole hands on one side, a slot and its value on the other -/
def zPast (B : zBk) (S : Nat → Int32) (w : zW) : Prop := ∃ (n : Nat) (P : Nat → Nat → Int32), n ≤ 16 ∧ gI w 200 21 = Int32.ofNat n ∧ gI w 21 0 = Int32.ofNat n ∧
  (∀ j i, j < n → i < 12 → gI w 220 (12 * (5 + j) + i) = P j i) ∧ (∀ j, j < n → zHd B (P j)) ∧ (∀ i, i < 12 → P n i = S i) ∧
  (∀ j, j < n → ∃ s, s < 12 ∧ gI w 22 j = Int32.ofNat s ∧ ∀ i, i < 12 → P j i = if i = s then gI w 23 j else P (j + 1) i)
def zMarks (B : zBk) (w : zW) : Prop := ∀ m, m < 4 → ∃ f : Bool, gI w 222 m = (if f = true then Int32.ofNat 1 else Int32.ofNat 0) ∧ gI w 20 m = (if f = true then Int32.ofNat 1 else Int32.ofNat 0) ∧
  (f = true → ∃ Q : Nat → Int32, zHd B Q ∧ (∀ i, i < 12 → gI w 220 (12 * (1 + m) + i) = Q i) ∧ (∀ i, i < 12 → gI w (11 + 1 + 2 * m + 1) i = Q i))
def zup (S : Nat → Int32) (s : Nat) (x : Int32) (i : Nat) : Int32 := if i = s then x else S i

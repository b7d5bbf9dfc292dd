/-! Level 2: guess, undo, mark, count, idle, bad, off, behind -/
theorem zml_len (f : Nat → Bool) : (zml f).length = zcnt 9 f := by
  have h : ∀ n, ((List.range n).filter (fun m => f m)).length = zcnt n f := by
    intro n
    induction n with
    | zero => rfl
    | succ n ih =>
      rw [List.range_succ, List.filter_append, List.length_append, ih, zcnt_S]
      by_cases q : f n = true
      · rw [if_pos q]
        simp [q]
      · rw [if_neg q]
        simp [q]
  exact h 9
theorem zml_mem (f : Nat → Bool) (m : Nat) : m ∈ zml f ↔ m < 9 ∧ f m = true := by
  rw [zml, List.mem_filter, List.mem_range]
theorem zml_lt {f : Nat → Bool} {i : Nat} (h : i < zcnt 9 f) : (zml f).getD i 0 < 9 ∧ f ((zml f).getD i 0) = true := by
  rw [← zml_len] at h
  have h1 : (zml f).getD i 0 ∈ zml f := by
    rw [List.getD_eq_getElem?_getD, List.getElem?_eq_getElem h]
    exact List.getElem_mem h
  exact (zml_mem f _).mp h1
theorem q0_means {B : zBk} {b o m : Nat} {w : zW} {k : Int32 → zW → Prop} (hwf : zWF B) (hB : zCB B b w) (ho : o < bW B) (hm : m < 9) (h1 : bMn B o m = true → k (Int32.ofNat 1) w) (h0 : bMn B o m = false → k (Int32.ofNat 0) w) : fX0_means b (Int32.ofNat o) (Int32.ofNat m) w k := by
  have h4 := wf_W hwf
  have h9 := zcnt_le 9 (bMn B o)
  refine zinv (fun n (s : Int32) => fX0_means_L2 b k n (Int32.ofNat o) (Int32.ofNat m) s w) (fun i s => s = Int32.ofNat i ∧ ∀ j, j < i → ¬ (zml (bMn B o)).getD j 0 = m) (zcnt 9 (bMn B o)) ⟨rfl, fun j hj => absurd hj (Nat.not_lt_zero j)⟩ ?_ ?_
  · rintro n s ⟨rfl, hj⟩
    simp (disch := omega) only [fX0_means_L2, cb_Sz hB (show o < 4 by omega), ↓zln1, ↓zln2, zl0, zl1, zl2, zl3, zl4, zl5, zl6, zl7, zl8, zl9, zl10, zl12, zl15, zl16, zl20, zl24, zl30, zl32, zl36, zl40, zl48, zl57, zl59, zl60, zl61, zl97, zl99, zl120, zl121, zl122, zl126, zl165, zl255, zl480, zl968, zl1000, zl1100, zi_add, zi_mul, zi_sub, zi_div, zi_mod, zi_nat, zt_le, zf_le, zt_lt, zf_lt, zt_eq, zf_eq, zt_vp, zt_N1lt, zf_N1lt, zf_N1eq, zf_eqN1, zt_N1eq, zt_N1le, zf_leN1, zi_nN1, zi_a1, zi_a15, zi_a255, zi_shr, zi_bit, zt_b0, zt_b1, forall_eq, if_true, if_false, true_implies, false_implies, not_true_eq_false, not_false_eq_true, and_true, true_and, gI_sI_eq, gI_sI_ne, gI_sI_ne2, gL_sI, gR_sI, gI_sL, gL_sL_eq, gL_sL_ne, gL_sL_ne2, gR_sL, gI_sR, gL_sR, gR_sR_eq, gR_sR_ne, gR_sR_ne2, gI_aI_eq, gI_aI_ne, gL_aI, gR_aI]
    refine h0 (eq_false_of_ne_true fun q => ?_)
    have hmem := (zml_mem (bMn B o) m).mpr ⟨hm, q⟩
    obtain ⟨j, j1, j2⟩ := List.getElem_of_mem hmem
    have j3 := j1
    rw [zml_len] at j3
    refine hj j j3 ?_
    rw [List.getD_eq_getElem?_getD, List.getElem?_eq_getElem j1, ← j2]
    rfl
  · rintro i n s hi ⟨rfl, hj⟩ hc
    have hl := zml_lt hi
    by_cases e : (zml (bMn B o)).getD i 0 = m
    · simp (disch := omega) only [fX0_means_L2, cb_Sz hB (show o < 4 by omega), cb_ml hB ho hi, ↓zln1, ↓zln2, zl0, zl1, zl2, zl3, zl4, zl5, zl6, zl7, zl8, zl9, zl10, zl12, zl15, zl16, zl20, zl24, zl30, zl32, zl36, zl40, zl48, zl57, zl59, zl60, zl61, zl97, zl99, zl120, zl121, zl122, zl126, zl165, zl255, zl480, zl968, zl1000, zl1100, zi_add, zi_mul, zi_sub, zi_div, zi_mod, zi_nat, zt_le, zf_le, zt_lt, zf_lt, zt_eq, zf_eq, zt_vp, zt_N1lt, zf_N1lt, zf_N1eq, zf_eqN1, zt_N1eq, zt_N1le, zf_leN1, zi_nN1, zi_a1, zi_a15, zi_a255, zi_shr, zi_bit, zt_b0, zt_b1, forall_eq, if_true, if_false, true_implies, false_implies, not_true_eq_false, not_false_eq_true, and_true, true_and, gI_sI_eq, gI_sI_ne, gI_sI_ne2, gL_sI, gR_sI, gI_sL, gL_sL_eq, gL_sL_ne, gL_sL_ne2, gR_sL, gI_sR, gL_sR, gR_sR_eq, gR_sR_ne, gR_sR_ne2, gI_aI_eq, gI_aI_ne, gL_aI, gR_aI]
      exact h1 (by rw [← e]; exact hl.2)
    · simp (disch := omega) only [fX0_means_L2, cb_Sz hB (show o < 4 by omega), cb_ml hB ho hi, ↓zln1, ↓zln2, zl0, zl1, zl2, zl3, zl4, zl5, zl6, zl7, zl8, zl9, zl10, zl12, zl15, zl16, zl20, zl24, zl30, zl32, zl36, zl40, zl48, zl57, zl59, zl60, zl61, zl97, zl99, zl120, zl121, zl122, zl126, zl165, zl255, zl480, zl968, zl1000, zl1100, zi_add, zi_mul, zi_sub, zi_div, zi_mod, zi_nat, zt_le, zf_le, zt_lt, zf_lt, zt_eq, zf_eq, zt_vp, zt_N1lt, zf_N1lt, zf_N1eq, zf_eqN1, zt_N1eq, zt_N1le, zf_leN1, zi_nN1, zi_a1, zi_a15, zi_a255, zi_shr, zi_bit, zt_b0, zt_b1, forall_eq, if_true, if_false, true_implies, false_implies, not_true_eq_false, not_false_eq_true, and_true, true_and, gI_sI_eq, gI_sI_ne, gI_sI_ne2, gL_sI, gR_sI, gI_sL, gL_sL_eq, gL_sL_ne, gL_sL_ne2, gR_sL, gI_sR, gL_sR, gR_sR_eq, gR_sR_ne, gR_sR_ne2, gI_aI_eq, gI_aI_ne, gL_aI, gR_aI]
      refine hc _ ⟨rfl, fun j q => ?_⟩
      by_cases z : j = i
      · rw [z]; exact e
      · exact hj j (by omega)
/-- two numbers from 0 to 2, or not -/
theorem zi_mean (y z : Int32) : (∃ t l, t ≤ 2 ∧ l ≤ 2 ∧ y = Int32.ofNat t ∧ z = Int32.ofNat l) ∨ (y < 0 ∨ ∃ t, y = Int32.ofNat t ∧ t < 2 ^ 31 ∧ 2 < t) ∨ (∃ t, t ≤ 2 ∧ y = Int32.ofNat t ∧ (z < 0 ∨ ∃ l, z = Int32.ofNat l ∧ l < 2 ^ 31 ∧ 2 < l)) := by
  rcases zi_cases y with hy | ⟨t, ht, rfl⟩
  · exact Or.inr (Or.inl (Or.inl hy))
  · by_cases q : t ≤ 2
    · rcases zi_cases z with hz | ⟨l, hl, rfl⟩
      · exact Or.inr (Or.inr ⟨t, q, rfl, Or.inl hz⟩)
      · by_cases q2 : l ≤ 2
        · exact Or.inl ⟨t, l, q, q2, rfl, rfl⟩
        · exact Or.inr (Or.inr ⟨t, q, rfl, Or.inr ⟨l, rfl, hl, by omega⟩⟩)
    · exact Or.inr (Or.inl (Or.inr ⟨t, rfl, ht, by omega⟩))
theorem q11_isMeaning {y z : Int32} {w : zW} {k : Int32 → zW → Prop} (h1 : ∀ t l, t ≤ 2 → l ≤ 2 → y = Int32.ofNat t → z = Int32.ofNat l → k (Int32.ofNat 1) w) (h0 : ¬ (∃ t l, t ≤ 2 ∧ l ≤ 2 ∧ y = Int32.ofNat t ∧ z = Int32.ofNat l) → k (Int32.ofNat 0) w) : fX11_isMeaning y z w k := by
  have hn : ∀ n : Nat, n < 2 ^ 31 → 2 < n → ∀ t, t ≤ 2 → ¬ Int32.ofNat n = Int32.ofNat t := fun n q1 q2 t q3 e => by
    have := (zi_eq q1 (by omega)).mp e
    omega
  have hneg : ∀ x : Int32, x < 0 → ∀ t, t ≤ 2 → ¬ x = Int32.ofNat t := fun x q t q3 e => by
    rw [e] at q
    exact zi_0le (by omega) q
  rw [fX11_isMeaning]
  rcases zi_mean y z with ⟨t, l, q1, q2, rfl, rfl⟩ | (q | ⟨t, rfl, q1, q2⟩) | ⟨t, q1, rfl, (q | ⟨l, rfl, q2, q3⟩)⟩
  · simp (disch := omega) only [↓zln1, ↓zln2, zl0, zl1, zl2, zl3, zl4, zl5, zl6, zl7, zl8, zl9, zl10, zl12, zl15, zl16, zl20, zl24, zl30, zl32, zl36, zl40, zl48, zl57, zl59, zl60, zl61, zl97, zl99, zl120, zl121, zl122, zl126, zl165, zl255, zl480, zl968, zl1000, zl1100, zi_add, zi_mul, zi_sub, zi_div, zi_mod, zi_nat, zt_le, zf_le, zt_lt, zf_lt, zt_eq, zf_eq, zt_vp, zt_N1lt, zf_N1lt, zf_N1eq, zf_eqN1, zt_N1eq, zt_N1le, zf_leN1, zi_nN1, zi_a1, zi_a15, zi_a255, zi_shr, zi_bit, zt_b0, zt_b1, forall_eq, if_true, if_false, true_implies, false_implies, not_true_eq_false, not_false_eq_true, and_true, true_and, gI_sI_eq, gI_sI_ne, gI_sI_ne2, gL_sI, gR_sI, gI_sL, gL_sL_eq, gL_sL_ne, gL_sL_ne2, gR_sL, gI_sR, gL_sR, gR_sR_eq, gR_sR_ne, gR_sR_ne2, gI_aI_eq, gI_aI_ne, gL_aI, gR_aI]
    exact h1 t l q1 q2 rfl rfl
  · intro v e
    rw [if_pos q] at e
    subst e
    exact ⟨Or.inl rfl, h0 (fun ⟨t, l, z1, _, z3, _⟩ => hneg y q t z1 z3)⟩
  · simp (disch := omega) only [↓zln1, ↓zln2, zl0, zl1, zl2, zl3, zl4, zl5, zl6, zl7, zl8, zl9, zl10, zl12, zl15, zl16, zl20, zl24, zl30, zl32, zl36, zl40, zl48, zl57, zl59, zl60, zl61, zl97, zl99, zl120, zl121, zl122, zl126, zl165, zl255, zl480, zl968, zl1000, zl1100, zi_add, zi_mul, zi_sub, zi_div, zi_mod, zi_nat, zt_le, zf_le, zt_lt, zf_lt, zt_eq, zf_eq, zt_vp, zt_N1lt, zf_N1lt, zf_N1eq, zf_eqN1, zt_N1eq, zt_N1le, zf_leN1, zi_nN1, zi_a1, zi_a15, zi_a255, zi_shr, zi_bit, zt_b0, zt_b1, forall_eq, if_true, if_false, true_implies, false_implies, not_true_eq_false, not_false_eq_true, and_true, true_and, gI_sI_eq, gI_sI_ne, gI_sI_ne2, gL_sI, gR_sI, gI_sL, gL_sL_eq, gL_sL_ne, gL_sL_ne2, gR_sL, gI_sR, gL_sR, gR_sR_eq, gR_sR_ne, gR_sR_ne2, gI_aI_eq, gI_aI_ne, gL_aI, gR_aI]
    exact h0 (fun ⟨t', l, z1, _, z3, _⟩ => hn t q1 q2 t' z1 z3)
  · intro v e
    rw [if_neg (zi_0le (show t < 2 ^ 31 by omega)), zl2, if_neg (fun x => by have := (zi_lt (by omega) (by omega)).mp x; omega), if_pos q] at e
    subst e
    exact ⟨Or.inl rfl, h0 (fun ⟨t', l, _, z2, _, z4⟩ => hneg z q l z2 z4)⟩
  · simp (disch := omega) only [↓zln1, ↓zln2, zl0, zl1, zl2, zl3, zl4, zl5, zl6, zl7, zl8, zl9, zl10, zl12, zl15, zl16, zl20, zl24, zl30, zl32, zl36, zl40, zl48, zl57, zl59, zl60, zl61, zl97, zl99, zl120, zl121, zl122, zl126, zl165, zl255, zl480, zl968, zl1000, zl1100, zi_add, zi_mul, zi_sub, zi_div, zi_mod, zi_nat, zt_le, zf_le, zt_lt, zf_lt, zt_eq, zf_eq, zt_vp, zt_N1lt, zf_N1lt, zf_N1eq, zf_eqN1, zt_N1eq, zt_N1le, zf_leN1, zi_nN1, zi_a1, zi_a15, zi_a255, zi_shr, zi_bit, zt_b0, zt_b1, forall_eq, if_true, if_false, true_implies, false_implies, not_true_eq_false, not_false_eq_true, and_true, true_and, gI_sI_eq, gI_sI_ne, gI_sI_ne2, gL_sI, gR_sI, gI_sL, gL_sL_eq, gL_sL_ne, gL_sL_ne2, gR_sL, gI_sR, gL_sR, gR_sR_eq, gR_sR_ne, gR_sR_ne2, gI_aI_eq, gI_aI_ne, gL_aI, gR_aI]
    exact h0 (fun ⟨t', l', _, z2, _, z4⟩ => hn l q2 q3 l' z2 z4)
theorem q12_mayGuess {B : zBk} {o : Nat} {y z : Int32} {w : zW} {k : Int32 → zW → Prop} (hB : zRB B w) (ho : o < 4) (h1 : ∀ t l, t ≤ 2 → l ≤ 2 → y = Int32.ofNat t → z = Int32.ofNat l → bMn B o (3 * t + l) = true → k (Int32.ofNat 1) w) (h0 : (∀ t l, t ≤ 2 → l ≤ 2 → y = Int32.ofNat t → z = Int32.ofNat l → bMn B o (3 * t + l) = false) → k (Int32.ofNat 0) w) : fX12_mayGuess (Int32.ofNat o) y z w k := by
  have hn : ∀ n : Nat, n < 2 ^ 31 → 2 < n → ∀ t, t ≤ 2 → ¬ Int32.ofNat n = Int32.ofNat t := fun n q1 q2 t q3 e => by
    have := (zi_eq q1 (by omega)).mp e
    omega
  have hneg : ∀ x : Int32, x < 0 → ∀ t, t ≤ 2 → ¬ x = Int32.ofNat t := fun x q t q3 e => by
    rw [e] at q
    exact zi_0le (by omega) q
  rw [fX12_mayGuess]
  rcases zi_mean y z with ⟨t, l, q1, q2, rfl, rfl⟩ | (q | ⟨t, rfl, q1, q2⟩) | ⟨t, q1, rfl, (q | ⟨l, rfl, q2, q3⟩)⟩
  · have e9 : gI w 223 (9 * o + 3 * t + l) = if bMn B o (3 * t + l) = true then Int32.ofNat 1 else Int32.ofNat 0 := by
      rw [Nat.add_assoc]; exact rb_Mn hB ho (by omega)
    by_cases q : bMn B o (3 * t + l) = true
    · rw [if_pos q] at e9
      simp (disch := omega) only [fX12_within, e9, ↓zln1, ↓zln2, zl0, zl1, zl2, zl3, zl4, zl5, zl6, zl7, zl8, zl9, zl10, zl12, zl15, zl16, zl20, zl24, zl30, zl32, zl36, zl40, zl48, zl57, zl59, zl60, zl61, zl97, zl99, zl120, zl121, zl122, zl126, zl165, zl255, zl480, zl968, zl1000, zl1100, zi_add, zi_mul, zi_sub, zi_div, zi_mod, zi_nat, zt_le, zf_le, zt_lt, zf_lt, zt_eq, zf_eq, zt_vp, zt_N1lt, zf_N1lt, zf_N1eq, zf_eqN1, zt_N1eq, zt_N1le, zf_leN1, zi_nN1, zi_a1, zi_a15, zi_a255, zi_shr, zi_bit, zt_b0, zt_b1, forall_eq, if_true, if_false, true_implies, false_implies, not_true_eq_false, not_false_eq_true, and_true, true_and, gI_sI_eq, gI_sI_ne, gI_sI_ne2, gL_sI, gR_sI, gI_sL, gL_sL_eq, gL_sL_ne, gL_sL_ne2, gR_sL, gI_sR, gL_sR, gR_sR_eq, gR_sR_ne, gR_sR_ne2, gI_aI_eq, gI_aI_ne, gL_aI, gR_aI]
      exact h1 t l q1 q2 rfl rfl q
    · rw [if_neg q] at e9
      simp (disch := omega) only [fX12_within, e9, ↓zln1, ↓zln2, zl0, zl1, zl2, zl3, zl4, zl5, zl6, zl7, zl8, zl9, zl10, zl12, zl15, zl16, zl20, zl24, zl30, zl32, zl36, zl40, zl48, zl57, zl59, zl60, zl61, zl97, zl99, zl120, zl121, zl122, zl126, zl165, zl255, zl480, zl968, zl1000, zl1100, zi_add, zi_mul, zi_sub, zi_div, zi_mod, zi_nat, zt_le, zf_le, zt_lt, zf_lt, zt_eq, zf_eq, zt_vp, zt_N1lt, zf_N1lt, zf_N1eq, zf_eqN1, zt_N1eq, zt_N1le, zf_leN1, zi_nN1, zi_a1, zi_a15, zi_a255, zi_shr, zi_bit, zt_b0, zt_b1, forall_eq, if_true, if_false, true_implies, false_implies, not_true_eq_false, not_false_eq_true, and_true, true_and, gI_sI_eq, gI_sI_ne, gI_sI_ne2, gL_sI, gR_sI, gI_sL, gL_sL_eq, gL_sL_ne, gL_sL_ne2, gR_sL, gI_sR, gL_sR, gR_sR_eq, gR_sR_ne, gR_sR_ne2, gI_aI_eq, gI_aI_ne, gL_aI, gR_aI]
      refine h0 (fun t' l' _ _ z3 z4 => ?_)
      rw [← (zi_eq (by omega) (by omega)).mp z3, ← (zi_eq (by omega) (by omega)).mp z4]
      exact eq_false_of_ne_true q
  · refine q12_withinN (lo := 0) q (by decide) ⟨fun _ => h0 (fun t l z1 _ z3 _ => absurd z3 (hneg y q t z1)), fun x => absurd rfl x⟩
  · refine q12_within (lo := 0) (hi := 2) q1 (by decide) (by decide) ?_
    rw [if_neg (by omega)]
    exact ⟨fun _ => h0 (fun t' l z1 _ z3 _ => absurd z3 (hn t q1 q2 t' z1)), fun x => absurd rfl x⟩
  · refine q12_within (lo := 0) (hi := 2) (by omega) (by decide) (by decide) ?_
    rw [if_pos (by omega)]
    refine ⟨fun x => absurd x (by decide), fun _ => ?_⟩
    exact q12_withinN (lo := 0) q (by decide) ⟨fun _ => h0 (fun t' l _ z2 _ z4 => absurd z4 (hneg z q l z2)), fun x => absurd rfl x⟩
  · refine q12_within (lo := 0) (hi := 2) (by omega) (by decide) (by decide) ?_
    rw [if_pos (by omega)]
    refine ⟨fun x => absurd x (by decide), fun _ => ?_⟩
    refine q12_within (lo := 0) (hi := 2) q2 (by decide) (by decide) ?_
    rw [if_neg (by omega)]
    exact ⟨fun _ => h0 (fun t' l' _ z2 _ z4 => absurd z4 (hn l q2 q3 l' z2)), fun x => absurd rfl x⟩
theorem c_guess {B : zBk} {S : Nat → Int32} {N : zNt} {b nn : Nat} {x y z : Int32} {w : zW} {k k0 : zW → Prop} (h : zInv B S N b nn w) (hk : ∀ S' v, zInv B S' N b nn v → zfl w v → k v) : fX11_guess x y z w (fun r1 w1 => fX12_guess x y z w1 (fun r2 w2 => (r1 = r2 → k w2) ∧ (¬ r1 = r2 → k0 w2))) := by
  have hwf := iv_wf h
  have hrb := iv_rb h
  have hcb := iv_cb h
  have h4 := wf_W hwf
  have hb := (iv_re h).2.1
  have hb0 : ¬ b = 0 := by have := (iv_re h).1; omega
  have hkv := hk _ _ (zInv_t h 0) ⟨rfl, rfl⟩
  have hrb1 := iv_rb (zInv_t h 0)
  rw [fX11_guess]
  rcases zi_cases x with hx | ⟨a, ha, rfl⟩
  · refine q11_isWordN hx ⟨fun _ => ?_, fun q => absurd rfl q⟩
    intro w1 e
    subst e
    exact q12_isTermN hx ⟨fun _ => zc_same hkv, fun q => absurd rfl q⟩
  · refine q11_isWord hwf hb hb0 (cb_W hcb) ha ?_
    by_cases ho : a < bW B
    · rw [if_pos ho]
      refine ⟨fun q => absurd q (by decide), fun _ => ?_⟩
      have hno : (∀ t l, t ≤ 2 → l ≤ 2 → y = Int32.ofNat t → z = Int32.ofNat l → bMn B a (3 * t + l) = false) → fX12_guess (Int32.ofNat a) y z w (fun r2 w2 => ((-2 : Int32) = r2 → k w2) ∧ (¬ (-2 : Int32) = r2 → k0 w2)) := by
        intro hn w1 e
        subst e
        refine q12_isTerm hwf (rb_W hrb1) ha ?_
        rw [if_pos ho]
        refine ⟨fun q => absurd q (by decide), fun _ => ?_⟩
        refine q12_mayGuess hrb1 (by omega) (fun t l q1 q2 q3 q4 q5 => ?_) (fun _ => ⟨fun q => absurd rfl q, fun _ => zc_same hkv⟩)
        rw [hn t l q1 q2 q3 q4] at q5
        exact absurd q5 (by decide)
      refine q11_isMeaning (fun t l q1 q2 q3 q4 => ?_) (fun hn => ⟨fun q => absurd rfl q, fun _ => hno (fun t l q1 q2 q3 q4 => absurd ⟨t, l, q1, q2, q3, q4⟩ hn)⟩)
      subst q3
      subst q4
      refine ⟨fun _ => ?_, fun q => absurd q (by decide)⟩
      intro v5 e5
      rw [zl3, zi_mul, zi_add] at e5
      subst e5
      rw [hb]
      refine ⟨hb0, q0_means hwf hcb ho (by omega) (fun hm => ?_) (fun hm => ?_)⟩
      · refine ⟨fun q => absurd q (by decide), fun _ => ?_⟩
        refine q_change h (show a < 12 by omega) (x := Int32.ofNat (3 * t + l)) (zHd_up (iv_ha h).1 (fun _ => ⟨zsm_m (by omega), fun q => by omega⟩) (fun r q => by omega)) (fun v v2 vf vk => ?_)
        intro w1 e1
        subst e1
        have hrbv : zRB B (sI v 200 0 0) := zRB_of hrb (fun k _ => by rw [gI_sI_ne (by decide)]; exact vf 210 k (by omega)) (fun k _ => by rw [gI_sI_ne (by decide)]; exact vf 211 k (by omega)) (fun k => by rw [gI_sI_ne (by decide)]; exact vf 223 k (by omega)) (fun k => by rw [gI_sI_ne (by decide)]; exact vf 224 k (by omega)) (fun k => by rw [gI_sI_ne (by decide)]; exact vf 225 k (by omega)) hwf
        refine q12_isTerm hwf (rb_W hrbv) ha ?_
        rw [if_pos ho]
        refine ⟨fun q => absurd q (by decide), fun _ => ?_⟩
        refine q12_mayGuess hrbv (by omega) (fun t' l' _ _ z3 z4 _ => ?_) (fun hn => ?_)
        · simp (disch := omega) only [↓zln1, ↓zln2, zl0, zl1, zl2, zl3, zl4, zl5, zl6, zl7, zl8, zl9, zl10, zl12, zl15, zl16, zl20, zl24, zl30, zl32, zl36, zl40, zl48, zl57, zl59, zl60, zl61, zl97, zl99, zl120, zl121, zl122, zl126, zl165, zl255, zl480, zl968, zl1000, zl1100, zi_add, zi_mul, zi_sub, zi_div, zi_mod, zi_nat, zt_le, zf_le, zt_lt, zf_lt, zt_eq, zf_eq, zt_vp, zt_N1lt, zf_N1lt, zf_N1eq, zf_eqN1, zt_N1eq, zt_N1le, zf_leN1, zi_nN1, zi_a1, zi_a15, zi_a255, zi_shr, zi_bit, zt_b0, zt_b1, forall_eq, if_true, if_false, true_implies, false_implies, not_true_eq_false, not_false_eq_true, and_true, true_and, gI_sI_eq, gI_sI_ne, gI_sI_ne2, gL_sI, gR_sI, gI_sL, gL_sL_eq, gL_sL_ne, gL_sL_ne2, gR_sL, gI_sR, gL_sR, gR_sR_eq, gR_sR_ne, gR_sR_ne2, gI_aI_eq, gI_aI_ne, gL_aI, gR_aI]
          exact vk (fun r2 w2 => (S a = r2 → k w2) ∧ (¬ S a = r2 → k0 w2)) (fun u hu hfl => zc_same (hk _ u hu hfl))
        · rw [hn t l q1 q2 rfl rfl] at hm
          exact absurd hm (by decide)
      · refine ⟨fun _ => hno (fun t' l' _ _ z3 z4 => ?_), fun q => absurd rfl q⟩
        rw [← (zi_eq (by omega) (by omega)).mp z3, ← (zi_eq (by omega) (by omega)).mp z4]
        exact hm
    · rw [if_neg ho]
      refine ⟨fun _ => ?_, fun q => absurd rfl q⟩
      intro w1 e
      subst e
      refine q12_isTerm hwf (rb_W hrb1) ha ?_
      rw [if_neg ho]
      exact ⟨fun _ => zc_same hkv, fun q => absurd rfl q⟩
theorem zHd_congr {B : zBk} {S T : Nat → Int32} (h : zHd B S) (e : ∀ i, i < 12 → T i = S i) : zHd B T :=
  ⟨fun o ho => by rw [e o (by omega)]; exact h.1 o ho, fun o q ho => by rw [e o (by omega)]; exact h.2.1 o q ho, fun r hr => by rw [e _ (by omega)]; exact h.2.2.1 r hr, fun r q hr => by rw [e _ (by omega)]; exact h.2.2.2 r q hr⟩
theorem c_undo {B : zBk} {S : Nat → Int32} {N : zNt} {b nn : Nat} {w : zW} {k k0 : zW → Prop} (h : zInv B S N b nn w) (hk : ∀ S' v, zInv B S' N b nn v → zfl w v → k v) : fX11_undo w (fun r1 w1 => fX12_undo w1 (fun r2 w2 => (r1 = r2 → k w2) ∧ (¬ r1 = r2 → k0 w2))) := by
  obtain ⟨n, P, h16, p2, p3, p4, p5, p6, p7⟩ := iv_pa h
  have hha := iv_ha h
  rw [fX11_undo, fX6_takeBack, p3]
  by_cases hn : n = 0
  · subst hn
    have hkv := hk _ _ (zInv_t h 0) ⟨rfl, rfl⟩
    refine ⟨fun _ => ?_, fun q => absurd (by decide) q⟩
    refine ⟨fun _ => ⟨Or.inl rfl, ?_⟩, fun q => absurd rfl q⟩
    intro w1 e
    subst e
    have e21 : gI (sI w 200 0 0) 200 21 = 0 := by rw [gI_sI_ne2 (by decide)]; exact p2
    rw [e21]
    exact ⟨fun q => absurd rfl q, fun _ => zc_same hkv⟩
  · obtain ⟨s, s1, s2, s3⟩ := p7 (n - 1) (by omega)
    have hf : ∀ a c, a ≠ 21 → gI (sI w 21 0 (Int32.ofNat (n - 1))) a c = gI w a c := fun a c q => gI_sI_ne q _ _ _ _
    simp (disch := omega) only [s2, ↓zln1, ↓zln2, zl0, zl1, zl2, zl3, zl4, zl5, zl6, zl7, zl8, zl9, zl10, zl12, zl15, zl16, zl20, zl24, zl30, zl32, zl36, zl40, zl48, zl57, zl59, zl60, zl61, zl97, zl99, zl120, zl121, zl122, zl126, zl165, zl255, zl480, zl968, zl1000, zl1100, zi_add, zi_mul, zi_sub, zi_div, zi_mod, zi_nat, zt_le, zf_le, zt_lt, zf_lt, zt_eq, zf_eq, zt_vp, zt_N1lt, zf_N1lt, zf_N1eq, zf_eqN1, zt_N1eq, zt_N1le, zf_leN1, zi_nN1, zi_a1, zi_a15, zi_a255, zi_shr, zi_bit, zt_b0, zt_b1, forall_eq, if_true, if_false, true_implies, false_implies, not_true_eq_false, not_false_eq_true, and_true, true_and, gI_sI_eq, gI_sI_ne, gI_sI_ne2, gL_sI, gR_sI, gI_sL, gL_sL_eq, gL_sL_ne, gL_sL_ne2, gR_sL, gI_sR, gL_sR, gR_sR_eq, gR_sR_ne, gR_sR_ne2, gI_aI_eq, gI_aI_ne, gL_aI, gR_aI]
    refine q3_put s1 ?_
    simp (disch := omega) only [fX11_handChanged, ↓zln1, ↓zln2, zl0, zl1, zl2, zl3, zl4, zl5, zl6, zl7, zl8, zl9, zl10, zl12, zl15, zl16, zl20, zl24, zl30, zl32, zl36, zl40, zl48, zl57, zl59, zl60, zl61, zl97, zl99, zl120, zl121, zl122, zl126, zl165, zl255, zl480, zl968, zl1000, zl1100, zi_add, zi_mul, zi_sub, zi_div, zi_mod, zi_nat, zt_le, zf_le, zt_lt, zf_lt, zt_eq, zf_eq, zt_vp, zt_N1lt, zf_N1lt, zf_N1eq, zf_eqN1, zt_N1eq, zt_N1le, zf_leN1, zi_nN1, zi_a1, zi_a15, zi_a255, zi_shr, zi_bit, zt_b0, zt_b1, forall_eq, if_true, if_false, true_implies, false_implies, not_true_eq_false, not_false_eq_true, and_true, true_and, gI_sI_eq, gI_sI_ne, gI_sI_ne2, gL_sI, gR_sI, gI_sL, gL_sL_eq, gL_sL_ne, gL_sL_ne2, gR_sL, gI_sR, gL_sR, gR_sR_eq, gR_sR_ne, gR_sR_ne2, gI_aI_eq, gI_aI_ne, gL_aI, gR_aI]
    rw [fX12_undo]
    simp (disch := omega) only [p2, ↓zln1, ↓zln2, zl0, zl1, zl2, zl3, zl4, zl5, zl6, zl7, zl8, zl9, zl10, zl12, zl15, zl16, zl20, zl24, zl30, zl32, zl36, zl40, zl48, zl57, zl59, zl60, zl61, zl97, zl99, zl120, zl121, zl122, zl126, zl165, zl255, zl480, zl968, zl1000, zl1100, zi_add, zi_mul, zi_sub, zi_div, zi_mod, zi_nat, zt_le, zf_le, zt_lt, zf_lt, zt_eq, zf_eq, zt_vp, zt_N1lt, zf_N1lt, zf_N1eq, zf_eqN1, zt_N1eq, zt_N1le, zf_leN1, zi_nN1, zi_a1, zi_a15, zi_a255, zi_shr, zi_bit, zt_b0, zt_b1, forall_eq, if_true, if_false, true_implies, false_implies, not_true_eq_false, not_false_eq_true, and_true, true_and, gI_sI_eq, gI_sI_ne, gI_sI_ne2, gL_sI, gR_sI, gI_sL, gL_sL_eq, gL_sL_ne, gL_sL_ne2, gR_sL, gI_sR, gL_sR, gR_sR_eq, gR_sR_ne, gR_sR_ne2, gI_aI_eq, gI_aI_ne, gL_aI, gR_aI]
    refine q12_copies (f := 12 * (5 + (n - 1))) (t := 0) (n := 12) (by omega) (by omega) (by omega) ?_
    refine hk (P (n - 1)) _ ?_ ?_
    refine zInv_hand h ?_ ?_ ?_ rfl ?_ ?_ ?_
    · refine ⟨p5 (n - 1) (by omega), fun i hi => ?_, fun i hi => ?_⟩
      · rw [gI_aI_eq, if_pos ⟨Nat.zero_le _, by omega⟩]
        simp (disch := omega) only [↓zln1, ↓zln2, zl0, zl1, zl2, zl3, zl4, zl5, zl6, zl7, zl8, zl9, zl10, zl12, zl15, zl16, zl20, zl24, zl30, zl32, zl36, zl40, zl48, zl57, zl59, zl60, zl61, zl97, zl99, zl120, zl121, zl122, zl126, zl165, zl255, zl480, zl968, zl1000, zl1100, zi_add, zi_mul, zi_sub, zi_div, zi_mod, zi_nat, zt_le, zf_le, zt_lt, zf_lt, zt_eq, zf_eq, zt_vp, zt_N1lt, zf_N1lt, zf_N1eq, zf_eqN1, zt_N1eq, zt_N1le, zf_leN1, zi_nN1, zi_a1, zi_a15, zi_a255, zi_shr, zi_bit, zt_b0, zt_b1, forall_eq, if_true, if_false, true_implies, false_implies, not_true_eq_false, not_false_eq_true, and_true, true_and, gI_sI_eq, gI_sI_ne, gI_sI_ne2, gL_sI, gR_sI, gI_sL, gL_sL_eq, gL_sL_ne, gL_sL_ne2, gR_sL, gI_sR, gL_sR, gR_sR_eq, gR_sR_ne, gR_sR_ne2, gI_aI_eq, gI_aI_ne, gL_aI, gR_aI]
        rw [show 12 * (5 + (n - 1)) + (i - 0) = 12 * (5 + (n - 1)) + i by omega]
        exact p4 (n - 1) i (by omega) hi
      · rw [gI_aI_ne (by decide)]
        rw [s3 i hi]
        by_cases q : i = s
        · subst q
          rw [if_pos rfl]
          simp (disch := omega) only [↓zln1, ↓zln2, zl0, zl1, zl2, zl3, zl4, zl5, zl6, zl7, zl8, zl9, zl10, zl12, zl15, zl16, zl20, zl24, zl30, zl32, zl36, zl40, zl48, zl57, zl59, zl60, zl61, zl97, zl99, zl120, zl121, zl122, zl126, zl165, zl255, zl480, zl968, zl1000, zl1100, zi_add, zi_mul, zi_sub, zi_div, zi_mod, zi_nat, zt_le, zf_le, zt_lt, zf_lt, zt_eq, zf_eq, zt_vp, zt_N1lt, zf_N1lt, zf_N1eq, zf_eqN1, zt_N1eq, zt_N1le, zf_leN1, zi_nN1, zi_a1, zi_a15, zi_a255, zi_shr, zi_bit, zt_b0, zt_b1, forall_eq, if_true, if_false, true_implies, false_implies, not_true_eq_false, not_false_eq_true, and_true, true_and, gI_sI_eq, gI_sI_ne, gI_sI_ne2, gL_sI, gR_sI, gI_sL, gL_sL_eq, gL_sL_ne, gL_sL_ne2, gR_sL, gI_sR, gL_sR, gR_sR_eq, gR_sR_ne, gR_sR_ne2, gI_aI_eq, gI_aI_ne, gL_aI, gR_aI]
        · rw [if_neg q]
          simp (disch := omega) only [q, ↓zln1, ↓zln2, zl0, zl1, zl2, zl3, zl4, zl5, zl6, zl7, zl8, zl9, zl10, zl12, zl15, zl16, zl20, zl24, zl30, zl32, zl36, zl40, zl48, zl57, zl59, zl60, zl61, zl97, zl99, zl120, zl121, zl122, zl126, zl165, zl255, zl480, zl968, zl1000, zl1100, zi_add, zi_mul, zi_sub, zi_div, zi_mod, zi_nat, zt_le, zf_le, zt_lt, zf_lt, zt_eq, zf_eq, zt_vp, zt_N1lt, zf_N1lt, zf_N1eq, zf_eqN1, zt_N1eq, zt_N1le, zf_leN1, zi_nN1, zi_a1, zi_a15, zi_a255, zi_shr, zi_bit, zt_b0, zt_b1, forall_eq, if_true, if_false, true_implies, false_implies, not_true_eq_false, not_false_eq_true, and_true, true_and, gI_sI_eq, gI_sI_ne, gI_sI_ne2, gL_sI, gR_sI, gI_sL, gL_sL_eq, gL_sL_ne, gL_sL_ne2, gR_sL, gI_sR, gL_sR, gR_sR_eq, gR_sR_ne, gR_sR_ne2, gI_aI_eq, gI_aI_ne, gL_aI, gR_aI]
          rw [hha.2.2 i hi, show n - 1 + 1 = n by omega, p6 i hi]
    · refine ⟨n - 1, P, by omega, ?_, ?_, fun j i hj hi => ?_, fun j hj => p5 j (by omega), fun i _ => rfl, fun j hj => ?_⟩
      · simp (disch := omega) only [↓zln1, ↓zln2, zl0, zl1, zl2, zl3, zl4, zl5, zl6, zl7, zl8, zl9, zl10, zl12, zl15, zl16, zl20, zl24, zl30, zl32, zl36, zl40, zl48, zl57, zl59, zl60, zl61, zl97, zl99, zl120, zl121, zl122, zl126, zl165, zl255, zl480, zl968, zl1000, zl1100, zi_add, zi_mul, zi_sub, zi_div, zi_mod, zi_nat, zt_le, zf_le, zt_lt, zf_lt, zt_eq, zf_eq, zt_vp, zt_N1lt, zf_N1lt, zf_N1eq, zf_eqN1, zt_N1eq, zt_N1le, zf_leN1, zi_nN1, zi_a1, zi_a15, zi_a255, zi_shr, zi_bit, zt_b0, zt_b1, forall_eq, if_true, if_false, true_implies, false_implies, not_true_eq_false, not_false_eq_true, and_true, true_and, gI_sI_eq, gI_sI_ne, gI_sI_ne2, gL_sI, gR_sI, gI_sL, gL_sL_eq, gL_sL_ne, gL_sL_ne2, gR_sL, gI_sR, gL_sR, gR_sR_eq, gR_sR_ne, gR_sR_ne2, gI_aI_eq, gI_aI_ne, gL_aI, gR_aI]
      · simp (disch := omega) only [↓zln1, ↓zln2, zl0, zl1, zl2, zl3, zl4, zl5, zl6, zl7, zl8, zl9, zl10, zl12, zl15, zl16, zl20, zl24, zl30, zl32, zl36, zl40, zl48, zl57, zl59, zl60, zl61, zl97, zl99, zl120, zl121, zl122, zl126, zl165, zl255, zl480, zl968, zl1000, zl1100, zi_add, zi_mul, zi_sub, zi_div, zi_mod, zi_nat, zt_le, zf_le, zt_lt, zf_lt, zt_eq, zf_eq, zt_vp, zt_N1lt, zf_N1lt, zf_N1eq, zf_eqN1, zt_N1eq, zt_N1le, zf_leN1, zi_nN1, zi_a1, zi_a15, zi_a255, zi_shr, zi_bit, zt_b0, zt_b1, forall_eq, if_true, if_false, true_implies, false_implies, not_true_eq_false, not_false_eq_true, and_true, true_and, gI_sI_eq, gI_sI_ne, gI_sI_ne2, gL_sI, gR_sI, gI_sL, gL_sL_eq, gL_sL_ne, gL_sL_ne2, gR_sL, gI_sR, gL_sR, gR_sR_eq, gR_sR_ne, gR_sR_ne2, gI_aI_eq, gI_aI_ne, gL_aI, gR_aI]
      · rw [gI_aI_eq, if_neg (by omega)]
        simp (disch := omega) only [↓zln1, ↓zln2, zl0, zl1, zl2, zl3, zl4, zl5, zl6, zl7, zl8, zl9, zl10, zl12, zl15, zl16, zl20, zl24, zl30, zl32, zl36, zl40, zl48, zl57, zl59, zl60, zl61, zl97, zl99, zl120, zl121, zl122, zl126, zl165, zl255, zl480, zl968, zl1000, zl1100, zi_add, zi_mul, zi_sub, zi_div, zi_mod, zi_nat, zt_le, zf_le, zt_lt, zf_lt, zt_eq, zf_eq, zt_vp, zt_N1lt, zf_N1lt, zf_N1eq, zf_eqN1, zt_N1eq, zt_N1le, zf_leN1, zi_nN1, zi_a1, zi_a15, zi_a255, zi_shr, zi_bit, zt_b0, zt_b1, forall_eq, if_true, if_false, true_implies, false_implies, not_true_eq_false, not_false_eq_true, and_true, true_and, gI_sI_eq, gI_sI_ne, gI_sI_ne2, gL_sI, gR_sI, gI_sL, gL_sL_eq, gL_sL_ne, gL_sL_ne2, gR_sL, gI_sR, gL_sR, gR_sR_eq, gR_sR_ne, gR_sR_ne2, gI_aI_eq, gI_aI_ne, gL_aI, gR_aI]
        exact p4 j i (by omega) hi
      · obtain ⟨s', z1, z2, z3⟩ := p7 j (by omega)
        refine ⟨s', z1, ?_, fun i hi => ?_⟩
        · simp (disch := omega) only [↓zln1, ↓zln2, zl0, zl1, zl2, zl3, zl4, zl5, zl6, zl7, zl8, zl9, zl10, zl12, zl15, zl16, zl20, zl24, zl30, zl32, zl36, zl40, zl48, zl57, zl59, zl60, zl61, zl97, zl99, zl120, zl121, zl122, zl126, zl165, zl255, zl480, zl968, zl1000, zl1100, zi_add, zi_mul, zi_sub, zi_div, zi_mod, zi_nat, zt_le, zf_le, zt_lt, zf_lt, zt_eq, zf_eq, zt_vp, zt_N1lt, zf_N1lt, zf_N1eq, zf_eqN1, zt_N1eq, zt_N1le, zf_leN1, zi_nN1, zi_a1, zi_a15, zi_a255, zi_shr, zi_bit, zt_b0, zt_b1, forall_eq, if_true, if_false, true_implies, false_implies, not_true_eq_false, not_false_eq_true, and_true, true_and, gI_sI_eq, gI_sI_ne, gI_sI_ne2, gL_sI, gR_sI, gI_sL, gL_sL_eq, gL_sL_ne, gL_sL_ne2, gR_sL, gI_sR, gL_sR, gR_sR_eq, gR_sR_ne, gR_sR_ne2, gI_aI_eq, gI_aI_ne, gL_aI, gR_aI]
          exact z2
        · rw [z3 i hi]
          simp (disch := omega) only [↓zln1, ↓zln2, zl0, zl1, zl2, zl3, zl4, zl5, zl6, zl7, zl8, zl9, zl10, zl12, zl15, zl16, zl20, zl24, zl30, zl32, zl36, zl40, zl48, zl57, zl59, zl60, zl61, zl97, zl99, zl120, zl121, zl122, zl126, zl165, zl255, zl480, zl968, zl1000, zl1100, zi_add, zi_mul, zi_sub, zi_div, zi_mod, zi_nat, zt_le, zf_le, zt_lt, zf_lt, zt_eq, zf_eq, zt_vp, zt_N1lt, zf_N1lt, zf_N1eq, zf_eqN1, zt_N1eq, zt_N1le, zf_leN1, zi_nN1, zi_a1, zi_a15, zi_a255, zi_shr, zi_bit, zt_b0, zt_b1, forall_eq, if_true, if_false, true_implies, false_implies, not_true_eq_false, not_false_eq_true, and_true, true_and, gI_sI_eq, gI_sI_ne, gI_sI_ne2, gL_sI, gR_sI, gI_sL, gL_sL_eq, gL_sL_ne, gL_sL_ne2, gR_sL, gI_sR, gL_sR, gR_sR_eq, gR_sR_ne, gR_sR_ne2, gI_aI_eq, gI_aI_ne, gL_aI, gR_aI]
    · intro m hm
      obtain ⟨f, q1, q2, q3⟩ := iv_ma h m hm
      refine ⟨f, ?_, ?_, fun e => ?_⟩
      · simp (disch := omega) only [↓zln1, ↓zln2, zl0, zl1, zl2, zl3, zl4, zl5, zl6, zl7, zl8, zl9, zl10, zl12, zl15, zl16, zl20, zl24, zl30, zl32, zl36, zl40, zl48, zl57, zl59, zl60, zl61, zl97, zl99, zl120, zl121, zl122, zl126, zl165, zl255, zl480, zl968, zl1000, zl1100, zi_add, zi_mul, zi_sub, zi_div, zi_mod, zi_nat, zt_le, zf_le, zt_lt, zf_lt, zt_eq, zf_eq, zt_vp, zt_N1lt, zf_N1lt, zf_N1eq, zf_eqN1, zt_N1eq, zt_N1le, zf_leN1, zi_nN1, zi_a1, zi_a15, zi_a255, zi_shr, zi_bit, zt_b0, zt_b1, forall_eq, if_true, if_false, true_implies, false_implies, not_true_eq_false, not_false_eq_true, and_true, true_and, gI_sI_eq, gI_sI_ne, gI_sI_ne2, gL_sI, gR_sI, gI_sL, gL_sL_eq, gL_sL_ne, gL_sL_ne2, gR_sL, gI_sR, gL_sR, gR_sR_eq, gR_sR_ne, gR_sR_ne2, gI_aI_eq, gI_aI_ne, gL_aI, gR_aI]
        exact q1
      · simp (disch := omega) only [↓zln1, ↓zln2, zl0, zl1, zl2, zl3, zl4, zl5, zl6, zl7, zl8, zl9, zl10, zl12, zl15, zl16, zl20, zl24, zl30, zl32, zl36, zl40, zl48, zl57, zl59, zl60, zl61, zl97, zl99, zl120, zl121, zl122, zl126, zl165, zl255, zl480, zl968, zl1000, zl1100, zi_add, zi_mul, zi_sub, zi_div, zi_mod, zi_nat, zt_le, zf_le, zt_lt, zf_lt, zt_eq, zf_eq, zt_vp, zt_N1lt, zf_N1lt, zf_N1eq, zf_eqN1, zt_N1eq, zt_N1le, zf_leN1, zi_nN1, zi_a1, zi_a15, zi_a255, zi_shr, zi_bit, zt_b0, zt_b1, forall_eq, if_true, if_false, true_implies, false_implies, not_true_eq_false, not_false_eq_true, and_true, true_and, gI_sI_eq, gI_sI_ne, gI_sI_ne2, gL_sI, gR_sI, gI_sL, gL_sL_eq, gL_sL_ne, gL_sL_ne2, gR_sL, gI_sR, gL_sR, gR_sR_eq, gR_sR_ne, gR_sR_ne2, gI_aI_eq, gI_aI_ne, gL_aI, gR_aI]
        exact q2
      · obtain ⟨Q, z1, z2, z3⟩ := q3 e
        refine ⟨Q, z1, fun i hi => ?_, fun i hi => ?_⟩
        · rw [gI_aI_eq, if_neg (by omega)]
          simp (disch := omega) only [↓zln1, ↓zln2, zl0, zl1, zl2, zl3, zl4, zl5, zl6, zl7, zl8, zl9, zl10, zl12, zl15, zl16, zl20, zl24, zl30, zl32, zl36, zl40, zl48, zl57, zl59, zl60, zl61, zl97, zl99, zl120, zl121, zl122, zl126, zl165, zl255, zl480, zl968, zl1000, zl1100, zi_add, zi_mul, zi_sub, zi_div, zi_mod, zi_nat, zt_le, zf_le, zt_lt, zf_lt, zt_eq, zf_eq, zt_vp, zt_N1lt, zf_N1lt, zf_N1eq, zf_eqN1, zt_N1eq, zt_N1le, zf_leN1, zi_nN1, zi_a1, zi_a15, zi_a255, zi_shr, zi_bit, zt_b0, zt_b1, forall_eq, if_true, if_false, true_implies, false_implies, not_true_eq_false, not_false_eq_true, and_true, true_and, gI_sI_eq, gI_sI_ne, gI_sI_ne2, gL_sI, gR_sI, gI_sL, gL_sL_eq, gL_sL_ne, gL_sL_ne2, gR_sL, gI_sR, gL_sR, gR_sR_eq, gR_sR_ne, gR_sR_ne2, gI_aI_eq, gI_aI_ne, gL_aI, gR_aI]
          exact z2 i hi
        · simp (disch := omega) only [↓zln1, ↓zln2, zl0, zl1, zl2, zl3, zl4, zl5, zl6, zl7, zl8, zl9, zl10, zl12, zl15, zl16, zl20, zl24, zl30, zl32, zl36, zl40, zl48, zl57, zl59, zl60, zl61, zl97, zl99, zl120, zl121, zl122, zl126, zl165, zl255, zl480, zl968, zl1000, zl1100, zi_add, zi_mul, zi_sub, zi_div, zi_mod, zi_nat, zt_le, zf_le, zt_lt, zf_lt, zt_eq, zf_eq, zt_vp, zt_N1lt, zf_N1lt, zf_N1eq, zf_eqN1, zt_N1eq, zt_N1le, zf_leN1, zi_nN1, zi_a1, zi_a15, zi_a255, zi_shr, zi_bit, zt_b0, zt_b1, forall_eq, if_true, if_false, true_implies, false_implies, not_true_eq_false, not_false_eq_true, and_true, true_and, gI_sI_eq, gI_sI_ne, gI_sI_ne2, gL_sI, gR_sI, gI_sL, gL_sL_eq, gL_sL_ne, gL_sL_ne2, gR_sL, gI_sR, gL_sR, gR_sR_eq, gR_sR_ne, gR_sR_ne2, gI_aI_eq, gI_aI_ne, gL_aI, gR_aI]
          exact z3 i hi
    · intro a c q1 q2 q3 q4 q5 q6
      rw [gI_aI_ne q2, gI_sI, gI_sI, gI_sI, gI_sI, gI_sI, gI_sI]
      rw [if_neg (fun z => (q6 z.1).1 z.2), if_neg (fun z => (q6 z.1).2 z.2), if_neg (fun z => q5 z.1 z.2), if_neg (fun z => q4 z.1 z.2), if_neg (fun z => by omega), if_neg (fun z => by omega)]
    · simp (disch := omega) only [↓zln1, ↓zln2, zl0, zl1, zl2, zl3, zl4, zl5, zl6, zl7, zl8, zl9, zl10, zl12, zl15, zl16, zl20, zl24, zl30, zl32, zl36, zl40, zl48, zl57, zl59, zl60, zl61, zl97, zl99, zl120, zl121, zl122, zl126, zl165, zl255, zl480, zl968, zl1000, zl1100, zi_add, zi_mul, zi_sub, zi_div, zi_mod, zi_nat, zt_le, zf_le, zt_lt, zf_lt, zt_eq, zf_eq, zt_vp, zt_N1lt, zf_N1lt, zf_N1eq, zf_eqN1, zt_N1eq, zt_N1le, zf_leN1, zi_nN1, zi_a1, zi_a15, zi_a255, zi_shr, zi_bit, zt_b0, zt_b1, forall_eq, if_true, if_false, true_implies, false_implies, not_true_eq_false, not_false_eq_true, and_true, true_and, gI_sI_eq, gI_sI_ne, gI_sI_ne2, gL_sI, gR_sI, gI_sL, gL_sL_eq, gL_sL_ne, gL_sL_ne2, gR_sL, gI_sR, gL_sR, gR_sR_eq, gR_sR_ne, gR_sR_ne2, gI_aI_eq, gI_aI_ne, gL_aI, gR_aI]
    · simp (disch := omega) only [↓zln1, ↓zln2, zl0, zl1, zl2, zl3, zl4, zl5, zl6, zl7, zl8, zl9, zl10, zl12, zl15, zl16, zl20, zl24, zl30, zl32, zl36, zl40, zl48, zl57, zl59, zl60, zl61, zl97, zl99, zl120, zl121, zl122, zl126, zl165, zl255, zl480, zl968, zl1000, zl1100, zi_add, zi_mul, zi_sub, zi_div, zi_mod, zi_nat, zt_le, zf_le, zt_lt, zf_lt, zt_eq, zf_eq, zt_vp, zt_N1lt, zf_N1lt, zf_N1eq, zf_eqN1, zt_N1eq, zt_N1le, zf_leN1, zi_nN1, zi_a1, zi_a15, zi_a255, zi_shr, zi_bit, zt_b0, zt_b1, forall_eq, if_true, if_false, true_implies, false_implies, not_true_eq_false, not_false_eq_true, and_true, true_and, gI_sI_eq, gI_sI_ne, gI_sI_ne2, gL_sI, gR_sI, gI_sL, gL_sL_eq, gL_sL_ne, gL_sL_ne2, gR_sL, gI_sR, gL_sR, gR_sR_eq, gR_sR_ne, gR_sR_ne2, gI_aI_eq, gI_aI_ne, gL_aI, gR_aI]
    constructor
    · simp (disch := omega) only [↓zln1, ↓zln2, zl0, zl1, zl2, zl3, zl4, zl5, zl6, zl7, zl8, zl9, zl10, zl12, zl15, zl16, zl20, zl24, zl30, zl32, zl36, zl40, zl48, zl57, zl59, zl60, zl61, zl97, zl99, zl120, zl121, zl122, zl126, zl165, zl255, zl480, zl968, zl1000, zl1100, zi_add, zi_mul, zi_sub, zi_div, zi_mod, zi_nat, zt_le, zf_le, zt_lt, zf_lt, zt_eq, zf_eq, zt_vp, zt_N1lt, zf_N1lt, zf_N1eq, zf_eqN1, zt_N1eq, zt_N1le, zf_leN1, zi_nN1, zi_a1, zi_a15, zi_a255, zi_shr, zi_bit, zt_b0, zt_b1, forall_eq, if_true, if_false, true_implies, false_implies, not_true_eq_false, not_false_eq_true, and_true, true_and, gI_sI_eq, gI_sI_ne, gI_sI_ne2, gL_sI, gR_sI, gI_sL, gL_sL_eq, gL_sL_ne, gL_sL_ne2, gR_sL, gI_sR, gL_sR, gR_sR_eq, gR_sR_ne, gR_sR_ne2, gI_aI_eq, gI_aI_ne, gL_aI, gR_aI]
    · simp (disch := omega) only [↓zln1, ↓zln2, zl0, zl1, zl2, zl3, zl4, zl5, zl6, zl7, zl8, zl9, zl10, zl12, zl15, zl16, zl20, zl24, zl30, zl32, zl36, zl40, zl48, zl57, zl59, zl60, zl61, zl97, zl99, zl120, zl121, zl122, zl126, zl165, zl255, zl480, zl968, zl1000, zl1100, zi_add, zi_mul, zi_sub, zi_div, zi_mod, zi_nat, zt_le, zf_le, zt_lt, zf_lt, zt_eq, zf_eq, zt_vp, zt_N1lt, zf_N1lt, zf_N1eq, zf_eqN1, zt_N1eq, zt_N1le, zf_leN1, zi_nN1, zi_a1, zi_a15, zi_a255, zi_shr, zi_bit, zt_b0, zt_b1, forall_eq, if_true, if_false, true_implies, false_implies, not_true_eq_false, not_false_eq_true, and_true, true_and, gI_sI_eq, gI_sI_ne, gI_sI_ne2, gL_sI, gR_sI, gI_sL, gL_sL_eq, gL_sL_ne, gL_sL_ne2, gR_sL, gI_sR, gL_sR, gR_sR_eq, gR_sR_ne, gR_sR_ne2, gI_aI_eq, gI_aI_ne, gL_aI, gR_aI]

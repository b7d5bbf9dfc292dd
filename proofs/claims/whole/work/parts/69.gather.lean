/-! Level 2: the reference goes through all numbers -/
theorem q12_clears {B : zBk} {S : Nat → Int32} {w : zW} {k : zW → Prop} (hk : ∀ v : zW, v.2 = w.2 → (∀ a c, (a < 234 ∨ 239 < a) → (a = 200 → c ≠ 31 ∧ c ≠ 33) → gI v a c = gI w a c) → (∀ a c, a = 236 → gI v a c = gI w a c) → zGa B S [] v → k v) (h4 : bW B ≤ 4) (h8 : bR B ≤ 8) : fX12_clears w k := by
  rw [fX12_clears]
  intro w1 e1 w2 e2
  have hz : ∀ w3 : zW, w3 = w2 → ∃ n9, fX12_clears_L12 k n9 (0 : Int32) w3 := by
    intro w3 e3
    refine zinv (fun n (s : Int32 × zW) => fX12_clears_L12 k n s.1 s.2) (fun i s => ∃ v : zW, s = (Int32.ofNat i, v) ∧ v.2 = w.2 ∧ (∀ a c, a ≠ 234 → gI v a c = gI w2 a c) ∧ (∀ c, c < i → gI v 234 c = Int32.ofNat 0)) 36 (s0 := (0, w3)) ⟨w3, rfl, by rw [e3, e2, e1]; rfl, fun a c _ => by rw [e3], fun c hc => absurd hc (Nat.not_lt_zero c)⟩ ?_ ?_
    · rintro n s ⟨v, rfl, v2, vf, v34⟩
      simp (disch := omega) only [fX12_clears_L12, ↓zln1, ↓zln2, zl0, zl1, zl2, zl3, zl4, zl5, zl6, zl7, zl8, zl9, zl10, zl12, zl15, zl16, zl20, zl24, zl30, zl32, zl36, zl40, zl48, zl57, zl59, zl60, zl61, zl97, zl99, zl120, zl121, zl122, zl126, zl165, zl255, zl480, zl968, zl1000, zl1100, zi_add, zi_mul, zi_sub, zi_div, zi_mod, zi_nat, zt_le, zf_le, zt_lt, zf_lt, zt_eq, zf_eq, zt_vp, zt_N1lt, zf_N1lt, zf_N1eq, zf_eqN1, zt_N1eq, zt_N1le, zf_leN1, zi_nN1, zi_a1, zi_a15, zi_a255, zi_shr, zi_bit, zt_b0, zt_b1, forall_eq, if_true, if_false, true_implies, false_implies, not_true_eq_false, not_false_eq_true, and_true, true_and, gI_sI_eq, gI_sI_ne, gI_sI_ne2, gL_sI, gR_sI, gI_sL, gL_sL_eq, gL_sL_ne, gL_sL_ne2, gR_sL, gI_sR, gL_sR, gR_sR_eq, gR_sR_ne, gR_sR_ne2, gI_aI_eq, gI_aI_ne, gL_aI, gR_aI]
      refine zinv (fun n (s : Int32 × zW) => fX12_clears_L33 k n s.1 s.2) (fun i s => ∃ u : zW, s = (Int32.ofNat i, u) ∧ u.2 = w.2 ∧ (∀ a c, a ≠ 235 → gI u a c = gI v a c) ∧ (∀ c, c < i → gI u 235 c = Int32.ofNat 0)) 968 (s0 := (Int32.ofNat 0, v)) ⟨v, rfl, v2, fun a c _ => rfl, fun c hc => absurd hc (Nat.not_lt_zero c)⟩ ?_ ?_
      · rintro n s ⟨u, rfl, u2, uf, u35⟩
        simp (disch := omega) only [fX12_clears_L33, ↓zln1, ↓zln2, zl0, zl1, zl2, zl3, zl4, zl5, zl6, zl7, zl8, zl9, zl10, zl12, zl15, zl16, zl20, zl24, zl30, zl32, zl36, zl40, zl48, zl57, zl59, zl60, zl61, zl97, zl99, zl120, zl121, zl122, zl126, zl165, zl255, zl480, zl968, zl1000, zl1100, zi_add, zi_mul, zi_sub, zi_div, zi_mod, zi_nat, zt_le, zf_le, zt_lt, zf_lt, zt_eq, zf_eq, zt_vp, zt_N1lt, zf_N1lt, zf_N1eq, zf_eqN1, zt_N1eq, zt_N1le, zf_leN1, zi_nN1, zi_a1, zi_a15, zi_a255, zi_shr, zi_bit, zt_b0, zt_b1, forall_eq, if_true, if_false, true_implies, false_implies, not_true_eq_false, not_false_eq_true, and_true, true_and, gI_sI_eq, gI_sI_ne, gI_sI_ne2, gL_sI, gR_sI, gI_sL, gL_sL_eq, gL_sL_ne, gL_sL_ne2, gR_sL, gI_sR, gL_sR, gR_sR_eq, gR_sR_ne, gR_sR_ne2, gI_aI_eq, gI_aI_ne, gL_aI, gR_aI]
        refine zinv (fun n (s : Int32 × zW) => fX12_clears_L55 k n s.1 s.2) (fun i s => ∃ t : zW, s = (Int32.ofNat i, t) ∧ t.2 = w.2 ∧ (∀ a c, a ≠ 237 → gI t a c = gI u a c) ∧ (∀ c, c < i → gI t 237 c = Int32.ofNat 1)) 16 (s0 := (Int32.ofNat 0, u)) ⟨u, rfl, u2, fun a c _ => rfl, fun c hc => absurd hc (Nat.not_lt_zero c)⟩ ?_ ?_
        · rintro n s ⟨t, rfl, t2, tf, t37⟩
          simp (disch := omega) only [fX12_clears_L55, ↓zln1, ↓zln2, zl0, zl1, zl2, zl3, zl4, zl5, zl6, zl7, zl8, zl9, zl10, zl12, zl15, zl16, zl20, zl24, zl30, zl32, zl36, zl40, zl48, zl57, zl59, zl60, zl61, zl97, zl99, zl120, zl121, zl122, zl126, zl165, zl255, zl480, zl968, zl1000, zl1100, zi_add, zi_mul, zi_sub, zi_div, zi_mod, zi_nat, zt_le, zf_le, zt_lt, zf_lt, zt_eq, zf_eq, zt_vp, zt_N1lt, zf_N1lt, zf_N1eq, zf_eqN1, zt_N1eq, zt_N1le, zf_leN1, zi_nN1, zi_a1, zi_a15, zi_a255, zi_shr, zi_bit, zt_b0, zt_b1, forall_eq, if_true, if_false, true_implies, false_implies, not_true_eq_false, not_false_eq_true, and_true, true_and, gI_sI_eq, gI_sI_ne, gI_sI_ne2, gL_sI, gR_sI, gI_sL, gL_sL_eq, gL_sL_ne, gL_sL_ne2, gR_sL, gI_sR, gL_sR, gR_sR_eq, gR_sR_ne, gR_sR_ne2, gI_aI_eq, gI_aI_ne, gL_aI, gR_aI]
          refine zinv (fun n (s : Int32 × zW) => fX12_clears_L76 k n s.1 s.2) (fun i s => ∃ x : zW, s = (Int32.ofNat i, x) ∧ x.2 = w.2 ∧ (∀ a c, a ≠ 238 → a ≠ 239 → gI x a c = gI t a c) ∧ (∀ c, c < i → gI x 238 c = Int32.ofNat 0 ∧ gI x 239 c = Int32.ofNat 0)) 8 (s0 := (Int32.ofNat 0, t)) ⟨t, rfl, t2, fun a c _ _ => rfl, fun c hc => absurd hc (Nat.not_lt_zero c)⟩ ?_ ?_
          · rintro n s ⟨x, rfl, x2, xf, x38⟩
            simp (disch := omega) only [fX12_clears_L76, ↓zln1, ↓zln2, zl0, zl1, zl2, zl3, zl4, zl5, zl6, zl7, zl8, zl9, zl10, zl12, zl15, zl16, zl20, zl24, zl30, zl32, zl36, zl40, zl48, zl57, zl59, zl60, zl61, zl97, zl99, zl120, zl121, zl122, zl126, zl165, zl255, zl480, zl968, zl1000, zl1100, zi_add, zi_mul, zi_sub, zi_div, zi_mod, zi_nat, zt_le, zf_le, zt_lt, zf_lt, zt_eq, zf_eq, zt_vp, zt_N1lt, zf_N1lt, zf_N1eq, zf_eqN1, zt_N1eq, zt_N1le, zf_leN1, zi_nN1, zi_a1, zi_a15, zi_a255, zi_shr, zi_bit, zt_b0, zt_b1, forall_eq, if_true, if_false, true_implies, false_implies, not_true_eq_false, not_false_eq_true, and_true, true_and, gI_sI_eq, gI_sI_ne, gI_sI_ne2, gL_sI, gR_sI, gI_sL, gL_sL_eq, gL_sL_ne, gL_sL_ne2, gR_sL, gI_sR, gL_sR, gR_sR_eq, gR_sR_ne, gR_sR_ne2, gI_aI_eq, gI_aI_ne, gL_aI, gR_aI]
            have hall : ∀ a c, a ≠ 234 → a ≠ 235 → a ≠ 237 → a ≠ 238 → a ≠ 239 → (a = 200 → c ≠ 31 ∧ c ≠ 33) → gI x a c = gI w a c := fun a c q1 q2 q3 q4 q5 q6 => by
              rw [xf a c q4 q5, tf a c q3, uf a c q2, vf a c q1, e2, gI_sI, if_neg (fun z => (q6 z.1).2 z.2), e1, gI_sI, if_neg (fun z => (q6 z.1).1 z.2)]
            refine hk x x2 (fun a c q1 q2 => hall a c (by omega) (by omega) (by omega) (by omega) (by omega) q2) (fun a c q1 => hall a c (by omega) (by omega) (by omega) (by omega) (by omega) (by omega)) ⟨?_, ?_, fun o m ho hm => ?_, fun r n hr hn => ?_, fun o p ho hp => ?_, fun r hr => ?_, fun r hr => ?_, fun j _ hj => absurd hj (Nat.not_lt_zero j)⟩
            · rw [xf _ _ (by omega) (by omega), tf _ _ (by omega), uf _ _ (by omega), vf _ _ (by omega), e2, gI_sI_ne2 (by decide), e1, gI_sI_eq]; rfl
            · rw [xf _ _ (by omega) (by omega), tf _ _ (by omega), uf _ _ (by omega), vf _ _ (by omega), e2, gI_sI_eq]; rfl
            · rw [xf _ _ (by omega) (by omega), tf _ _ (by omega), uf _ _ (by omega)]
              exact v34 _ (by omega)
            · rw [xf _ _ (by omega) (by omega), tf _ _ (by omega)]
              exact u35 _ (by omega)
            · rw [xf _ _ (by omega) (by omega)]
              exact t37 _ (by omega)
            · exact (x38 r (by omega)).1
            · exact (x38 r (by omega)).2
          · rintro i n s hi ⟨x, rfl, x2, xf, x38⟩ hc
            simp (disch := omega) only [fX12_clears_L76, ↓zln1, ↓zln2, zl0, zl1, zl2, zl3, zl4, zl5, zl6, zl7, zl8, zl9, zl10, zl12, zl15, zl16, zl20, zl24, zl30, zl32, zl36, zl40, zl48, zl57, zl59, zl60, zl61, zl97, zl99, zl120, zl121, zl122, zl126, zl165, zl255, zl480, zl968, zl1000, zl1100, zi_add, zi_mul, zi_sub, zi_div, zi_mod, zi_nat, zt_le, zf_le, zt_lt, zf_lt, zt_eq, zf_eq, zt_vp, zt_N1lt, zf_N1lt, zf_N1eq, zf_eqN1, zt_N1eq, zt_N1le, zf_leN1, zi_nN1, zi_a1, zi_a15, zi_a255, zi_shr, zi_bit, zt_b0, zt_b1, forall_eq, if_true, if_false, true_implies, false_implies, not_true_eq_false, not_false_eq_true, and_true, true_and, gI_sI_eq, gI_sI_ne, gI_sI_ne2, gL_sI, gR_sI, gI_sL, gL_sL_eq, gL_sL_ne, gL_sL_ne2, gR_sL, gI_sR, gL_sR, gR_sR_eq, gR_sR_ne, gR_sR_ne2, gI_aI_eq, gI_aI_ne, gL_aI, gR_aI]
            refine hc _ ⟨sI (sI x 238 i _) 239 i _, rfl, x2, fun a c q1 q2 => by rw [gI_sI_ne q2, gI_sI_ne q1]; exact xf a c q1 q2, fun c hc' => ?_⟩
            by_cases q : c = i
            · rw [q]
              exact ⟨by rw [gI_sI_ne (by decide), gI_sI_eq], gI_sI_eq _ _ _ _⟩
            · rw [gI_sI_ne (by decide), gI_sI_ne2 q, gI_sI_ne2 q, gI_sI_ne (by decide)]
              exact x38 c (by omega)
        · rintro i n s hi ⟨t, rfl, t2, tf, t37⟩ hc
          simp (disch := omega) only [fX12_clears_L55, ↓zln1, ↓zln2, zl0, zl1, zl2, zl3, zl4, zl5, zl6, zl7, zl8, zl9, zl10, zl12, zl15, zl16, zl20, zl24, zl30, zl32, zl36, zl40, zl48, zl57, zl59, zl60, zl61, zl97, zl99, zl120, zl121, zl122, zl126, zl165, zl255, zl480, zl968, zl1000, zl1100, zi_add, zi_mul, zi_sub, zi_div, zi_mod, zi_nat, zt_le, zf_le, zt_lt, zf_lt, zt_eq, zf_eq, zt_vp, zt_N1lt, zf_N1lt, zf_N1eq, zf_eqN1, zt_N1eq, zt_N1le, zf_leN1, zi_nN1, zi_a1, zi_a15, zi_a255, zi_shr, zi_bit, zt_b0, zt_b1, forall_eq, if_true, if_false, true_implies, false_implies, not_true_eq_false, not_false_eq_true, and_true, true_and, gI_sI_eq, gI_sI_ne, gI_sI_ne2, gL_sI, gR_sI, gI_sL, gL_sL_eq, gL_sL_ne, gL_sL_ne2, gR_sL, gI_sR, gL_sR, gR_sR_eq, gR_sR_ne, gR_sR_ne2, gI_aI_eq, gI_aI_ne, gL_aI, gR_aI]
          refine hc _ ⟨sI t 237 i _, rfl, t2, fun a c q => by rw [gI_sI_ne q]; exact tf a c q, fun c hc' => ?_⟩
          by_cases q : c = i
          · rw [q, gI_sI_eq]
          · rw [gI_sI_ne2 q]; exact t37 c (by omega)
      · rintro i n s hi ⟨u, rfl, u2, uf, u35⟩ hc
        simp (disch := omega) only [fX12_clears_L33, ↓zln1, ↓zln2, zl0, zl1, zl2, zl3, zl4, zl5, zl6, zl7, zl8, zl9, zl10, zl12, zl15, zl16, zl20, zl24, zl30, zl32, zl36, zl40, zl48, zl57, zl59, zl60, zl61, zl97, zl99, zl120, zl121, zl122, zl126, zl165, zl255, zl480, zl968, zl1000, zl1100, zi_add, zi_mul, zi_sub, zi_div, zi_mod, zi_nat, zt_le, zf_le, zt_lt, zf_lt, zt_eq, zf_eq, zt_vp, zt_N1lt, zf_N1lt, zf_N1eq, zf_eqN1, zt_N1eq, zt_N1le, zf_leN1, zi_nN1, zi_a1, zi_a15, zi_a255, zi_shr, zi_bit, zt_b0, zt_b1, forall_eq, if_true, if_false, true_implies, false_implies, not_true_eq_false, not_false_eq_true, and_true, true_and, gI_sI_eq, gI_sI_ne, gI_sI_ne2, gL_sI, gR_sI, gI_sL, gL_sL_eq, gL_sL_ne, gL_sL_ne2, gR_sL, gI_sR, gL_sR, gR_sR_eq, gR_sR_ne, gR_sR_ne2, gI_aI_eq, gI_aI_ne, gL_aI, gR_aI]
        refine hc _ ⟨sI u 235 i _, rfl, u2, fun a c q => by rw [gI_sI_ne q]; exact uf a c q, fun c hc' => ?_⟩
        by_cases q : c = i
        · rw [q, gI_sI_eq]
        · rw [gI_sI_ne2 q]; exact u35 c (by omega)
    · rintro i n s hi ⟨v, rfl, v2, vf, v34⟩ hc
      simp (disch := omega) only [fX12_clears_L12, ↓zln1, ↓zln2, zl0, zl1, zl2, zl3, zl4, zl5, zl6, zl7, zl8, zl9, zl10, zl12, zl15, zl16, zl20, zl24, zl30, zl32, zl36, zl40, zl48, zl57, zl59, zl60, zl61, zl97, zl99, zl120, zl121, zl122, zl126, zl165, zl255, zl480, zl968, zl1000, zl1100, zi_add, zi_mul, zi_sub, zi_div, zi_mod, zi_nat, zt_le, zf_le, zt_lt, zf_lt, zt_eq, zf_eq, zt_vp, zt_N1lt, zf_N1lt, zf_N1eq, zf_eqN1, zt_N1eq, zt_N1le, zf_leN1, zi_nN1, zi_a1, zi_a15, zi_a255, zi_shr, zi_bit, zt_b0, zt_b1, forall_eq, if_true, if_false, true_implies, false_implies, not_true_eq_false, not_false_eq_true, and_true, true_and, gI_sI_eq, gI_sI_ne, gI_sI_ne2, gL_sI, gR_sI, gI_sL, gL_sL_eq, gL_sL_ne, gL_sL_ne2, gR_sL, gI_sR, gL_sR, gR_sR_eq, gR_sR_ne, gR_sR_ne2, gI_aI_eq, gI_aI_ne, gL_aI, gR_aI]
      refine hc _ ⟨sI v 234 i _, rfl, v2, fun a c q => by rw [gI_sI_ne q]; exact vf a c q, fun c hc' => ?_⟩
      by_cases q : c = i
      · rw [q, gI_sI_eq]
      · rw [gI_sI_ne2 q]; exact v34 c (by omega)
  exact hz w2 rfl
/-- a number laid out: its meanings, and whether it is a dictionary that has what is guessed -/
theorem q12_lays {B : zBk} {S : Nat → Int32} {d : Nat} {w : zW} {k : Int32 → zW → Prop} (hwf : zWF B) (hB : zRB B w) (hd : zHd B S) (hS : ∀ i, i < 12 → gI w 220 i = S i) (hdl : d < 9 ^ bW B)
    (hk : ∀ v : zW, v.2 = w.2 → (∀ a c, a ≠ 227 → gI v a c = gI w a c) → (∀ o, o < bW B → gI v 227 o = Int32.ofNat (zdm (bW B) d o)) → k (Int32.ofNat (if (zAl B d && zGu B S d) = true then 1 else 0)) v) : fX12_lays (Int32.ofNat d) w k := by
  have h4 := wf_W hwf
  have h9 : 9 ^ bW B ≤ 6561 := Nat.pow_le_pow_right (n := 9) (by omega) h4
  have hW := rb_W hB
  rw [fX12_lays, fX12_wordsTold, show (0 : Int32).toNatClampNeg = 0 from rfl, hW]
  intro v2 e2
  have hgo : ∀ (c n f : Nat) (v : zW), c ≤ bW B → c < n → v.2 = w.2 → (∀ a e, a ≠ 227 → gI v a e = gI w a e) → (∀ o, c ≤ o → o < bW B → gI v 227 o = Int32.ofNat (zdm (bW B) d o)) → f < 2 →
      (f = 1 ↔ ∀ o, c ≤ o → o < bW B → bMn B o (zdm (bW B) d o) = true ∧ (S o = zN1 ∨ S o = Int32.ofNat (zdm (bW B) d o))) →
      fX12_lays_L12 k n (Int32.ofNat (d / 9 ^ (bW B - c))) (Int32.ofNat f) (if c = 0 then zN1 else Int32.ofNat (c - 1)) v := by
    intro c
    induction c with
    | zero =>
      intro n f v hc hn v2 vf vm hf2 hf
      obtain ⟨n, rfl⟩ : ∃ m, n = m + 1 := ⟨n - 1, by omega⟩
      rw [if_pos rfl, fX12_lays_L12]
      have ef : f = (if (zAl B d && zGu B S d) = true then 1 else 0) := by
        by_cases q : f = 1
        · have hq := hf.mp q
          rw [if_pos (by rw [Bool.and_eq_true]; exact ⟨decide_eq_true (fun o ho => (hq o (Nat.zero_le o) ho).1), decide_eq_true (fun o ho => (hq o (Nat.zero_le o) ho).2)⟩)]
          exact q
        · rw [if_neg (fun z => by rw [Bool.and_eq_true] at z; exact q (hf.mpr (fun o _ ho => ⟨of_decide_eq_true z.1 o ho, of_decide_eq_true z.2 o ho⟩)))]
          omega
      refine ⟨fun _ => ⟨?_, ?_⟩, fun q => absurd zN1_lt q⟩
      · rcases (show f = 0 ∨ f = 1 by omega) with q | q
        · rw [q]; exact Or.inl rfl
        · rw [q]; exact Or.inr rfl
      · rw [ef]
        exact hk v v2 vf (fun o ho => vm o (Nat.zero_le o) ho)
    | succ c ih =>
      intro n f v hc hn v2 vf vm hf2 hf
      obtain ⟨n, rfl⟩ : ∃ m, n = m + 1 := ⟨n - 1, by omega⟩
      rw [if_neg (by omega), Nat.add_sub_cancel]
      have hp : 0 < 9 ^ (bW B - (c + 1)) := Nat.pow_pos (by omega)
      have hle : d / 9 ^ (bW B - (c + 1)) ≤ d := Nat.div_le_self _ _
      have em : d / 9 ^ (bW B - (c + 1)) % 9 = zdm (bW B) d c := by
        rw [zdm, if_pos (by omega), show bW B - 1 - c = bW B - (c + 1) by omega]
      have ed : d / 9 ^ (bW B - (c + 1)) / 9 = d / 9 ^ (bW B - c) := by
        rw [Nat.div_div_eq_div_mul, ← Nat.pow_succ, show (bW B - (c + 1)).succ = bW B - c by omega]
      have hml := zdm_lt (bW B) d c
      have hnext : ∀ (f' : Nat) (u : zW), u = sI v 227 c (Int32.ofNat (zdm (bW B) d c)) → f' < 2 → (f' = 1 ↔ f = 1 ∧ bMn B c (zdm (bW B) d c) = true ∧ (S c = zN1 ∨ S c = Int32.ofNat (zdm (bW B) d c))) → fX12_lays_L12 k n (Int32.ofNat (d / 9 ^ (bW B - c))) (Int32.ofNat f') (Int32.ofNat c + zN1) u := by
        intro f' u hu hf2' hf'
        have e : Int32.ofNat c + zN1 = (if c = 0 then zN1 else Int32.ofNat (c - 1)) := by
          by_cases z : c = 0
          · rw [if_pos z, z]; rfl
          · rw [if_neg z]
            have e : Int32.ofNat c = Int32.ofNat (c - 1) + 1 := by rw [zi_succ]; exact congrArg _ (by omega)
            rw [e, Int32.add_assoc, show (1 : Int32) + zN1 = 0 from rfl, Int32.add_zero]
        rw [e]
        refine ih n f' u (by omega) (by omega) (by rw [hu]; exact v2) (fun a e q => by rw [hu, gI_sI_ne q]; exact vf a e q) (fun o q1 q2 => ?_) hf2' ?_
        · rw [hu]
          by_cases z : o = c
          · rw [z, gI_sI_eq]
          · rw [gI_sI_ne2 z]; exact vm o (by omega) q2
        · rw [hf', hf]
          refine ⟨fun z o q1 q2 => ?_, fun z => ⟨fun o q1 q2 => z o (by omega) q2, z c (Nat.le_refl _) (by omega)⟩⟩
          by_cases y : o = c
          · rw [y]; exact z.2
          · exact z.1 o (by omega) q2
      have e23 : gI v 223 (9 * c + zdm (bW B) d c) = if bMn B c (zdm (bW B) d c) = true then Int32.ofNat 1 else Int32.ofNat 0 := by rw [vf 223 _ (by omega)]; exact rb_Mn hB (by omega) hml
      have e20 : gI v 220 c = S c := by rw [vf 220 _ (by omega)]; exact hS c (by omega)
      by_cases q0 : f = 0
      · subst q0
        simp (disch := omega) only [fX12_lays_L12, em, ed, ↓zln1, ↓zln2, zl0, zl1, zl2, zl3, zl4, zl5, zl6, zl7, zl8, zl9, zl10, zl12, zl15, zl16, zl20, zl24, zl30, zl32, zl36, zl40, zl48, zl57, zl59, zl60, zl61, zl97, zl99, zl120, zl121, zl122, zl126, zl165, zl255, zl480, zl968, zl1000, zl1100, zi_add, zi_mul, zi_sub, zi_div, zi_mod, zi_nat, zt_le, zf_le, zt_lt, zf_lt, zt_eq, zf_eq, zt_vp, zt_N1lt, zf_N1lt, zf_N1eq, zf_eqN1, zt_N1eq, zt_N1le, zf_leN1, zi_nN1, zi_a1, zi_a15, zi_a255, zi_shr, zi_bit, zt_b0, zt_b1, forall_eq, if_true, if_false, true_implies, false_implies, not_true_eq_false, not_false_eq_true, and_true, true_and, gI_sI_eq, gI_sI_ne, gI_sI_ne2, gL_sI, gR_sI, gI_sL, gL_sL_eq, gL_sL_ne, gL_sL_ne2, gR_sL, gI_sR, gL_sR, gR_sR_eq, gR_sR_ne, gR_sR_ne2, gI_aI_eq, gI_aI_ne, gL_aI, gR_aI]
        exact hnext 0 _ rfl (by omega) ⟨fun z => absurd z (by decide), fun z => absurd z.1 (by decide)⟩
      · have q1 : f = 1 := by omega
        subst q1
        by_cases qm : bMn B c (zdm (bW B) d c) = true
        · rw [if_pos qm] at e23
          rcases hd.1 c (by omega) with e | ⟨y, y1, y2⟩
          · rw [e] at e20
            simp (disch := omega) only [fX12_lays_L12, em, ed, e23, e20, ↓zln1, ↓zln2, zl0, zl1, zl2, zl3, zl4, zl5, zl6, zl7, zl8, zl9, zl10, zl12, zl15, zl16, zl20, zl24, zl30, zl32, zl36, zl40, zl48, zl57, zl59, zl60, zl61, zl97, zl99, zl120, zl121, zl122, zl126, zl165, zl255, zl480, zl968, zl1000, zl1100, zi_add, zi_mul, zi_sub, zi_div, zi_mod, zi_nat, zt_le, zf_le, zt_lt, zf_lt, zt_eq, zf_eq, zt_vp, zt_N1lt, zf_N1lt, zf_N1eq, zf_eqN1, zt_N1eq, zt_N1le, zf_leN1, zi_nN1, zi_a1, zi_a15, zi_a255, zi_shr, zi_bit, zt_b0, zt_b1, forall_eq, if_true, if_false, true_implies, false_implies, not_true_eq_false, not_false_eq_true, and_true, true_and, gI_sI_eq, gI_sI_ne, gI_sI_ne2, gL_sI, gR_sI, gI_sL, gL_sL_eq, gL_sL_ne, gL_sL_ne2, gR_sL, gI_sR, gL_sR, gR_sR_eq, gR_sR_ne, gR_sR_ne2, gI_aI_eq, gI_aI_ne, gL_aI, gR_aI]
            exact hnext 1 _ rfl (by omega) ⟨fun _ => ⟨rfl, qm, Or.inl e⟩, fun _ => rfl⟩
          · rw [y2] at e20
            by_cases z : y = zdm (bW B) d c
            · simp (disch := omega) only [fX12_lays_L12, em, ed, e23, e20, ↓zln1, ↓zln2, zl0, zl1, zl2, zl3, zl4, zl5, zl6, zl7, zl8, zl9, zl10, zl12, zl15, zl16, zl20, zl24, zl30, zl32, zl36, zl40, zl48, zl57, zl59, zl60, zl61, zl97, zl99, zl120, zl121, zl122, zl126, zl165, zl255, zl480, zl968, zl1000, zl1100, zi_add, zi_mul, zi_sub, zi_div, zi_mod, zi_nat, zt_le, zf_le, zt_lt, zf_lt, zt_eq, zf_eq, zt_vp, zt_N1lt, zf_N1lt, zf_N1eq, zf_eqN1, zt_N1eq, zt_N1le, zf_leN1, zi_nN1, zi_a1, zi_a15, zi_a255, zi_shr, zi_bit, zt_b0, zt_b1, forall_eq, if_true, if_false, true_implies, false_implies, not_true_eq_false, not_false_eq_true, and_true, true_and, gI_sI_eq, gI_sI_ne, gI_sI_ne2, gL_sI, gR_sI, gI_sL, gL_sL_eq, gL_sL_ne, gL_sL_ne2, gR_sL, gI_sR, gL_sR, gR_sR_eq, gR_sR_ne, gR_sR_ne2, gI_aI_eq, gI_aI_ne, gL_aI, gR_aI]
              exact hnext 1 _ rfl (by omega) ⟨fun _ => ⟨rfl, qm, Or.inr (by rw [y2, z])⟩, fun _ => rfl⟩
            · simp (disch := omega) only [fX12_lays_L12, em, ed, e23, e20, ↓zln1, ↓zln2, zl0, zl1, zl2, zl3, zl4, zl5, zl6, zl7, zl8, zl9, zl10, zl12, zl15, zl16, zl20, zl24, zl30, zl32, zl36, zl40, zl48, zl57, zl59, zl60, zl61, zl97, zl99, zl120, zl121, zl122, zl126, zl165, zl255, zl480, zl968, zl1000, zl1100, zi_add, zi_mul, zi_sub, zi_div, zi_mod, zi_nat, zt_le, zf_le, zt_lt, zf_lt, zt_eq, zf_eq, zt_vp, zt_N1lt, zf_N1lt, zf_N1eq, zf_eqN1, zt_N1eq, zt_N1le, zf_leN1, zi_nN1, zi_a1, zi_a15, zi_a255, zi_shr, zi_bit, zt_b0, zt_b1, forall_eq, if_true, if_false, true_implies, false_implies, not_true_eq_false, not_false_eq_true, and_true, true_and, gI_sI_eq, gI_sI_ne, gI_sI_ne2, gL_sI, gR_sI, gI_sL, gL_sL_eq, gL_sL_ne, gL_sL_ne2, gR_sL, gI_sR, gL_sR, gR_sR_eq, gR_sR_ne, gR_sR_ne2, gI_aI_eq, gI_aI_ne, gL_aI, gR_aI]
              refine hnext 0 _ rfl (by omega) ⟨fun x => absurd x (by decide), fun x => ?_⟩
              rcases x.2.2 with x1 | x1
              · rw [y2] at x1; exact absurd x1 (zN1_ne (by omega))
              · rw [y2] at x1; exact absurd ((zi_eq (by omega) (by omega)).mp x1) z
        · rw [if_neg qm] at e23
          simp (disch := omega) only [fX12_lays_L12, em, ed, e23, ↓zln1, ↓zln2, zl0, zl1, zl2, zl3, zl4, zl5, zl6, zl7, zl8, zl9, zl10, zl12, zl15, zl16, zl20, zl24, zl30, zl32, zl36, zl40, zl48, zl57, zl59, zl60, zl61, zl97, zl99, zl120, zl121, zl122, zl126, zl165, zl255, zl480, zl968, zl1000, zl1100, zi_add, zi_mul, zi_sub, zi_div, zi_mod, zi_nat, zt_le, zf_le, zt_lt, zf_lt, zt_eq, zf_eq, zt_vp, zt_N1lt, zf_N1lt, zf_N1eq, zf_eqN1, zt_N1eq, zt_N1le, zf_leN1, zi_nN1, zi_a1, zi_a15, zi_a255, zi_shr, zi_bit, zt_b0, zt_b1, forall_eq, if_true, if_false, true_implies, false_implies, not_true_eq_false, not_false_eq_true, and_true, true_and, gI_sI_eq, gI_sI_ne, gI_sI_ne2, gL_sI, gR_sI, gI_sL, gL_sL_eq, gL_sL_ne, gL_sL_ne2, gR_sL, gI_sR, gL_sR, gR_sR_eq, gR_sR_ne, gR_sR_ne2, gI_aI_eq, gI_aI_ne, gL_aI, gR_aI]
          exact hnext 0 _ rfl (by omega) ⟨fun x => absurd x (by decide), fun x => absurd x.2.1 qm⟩
  have e3 : v2 = (if bW B = 0 then zN1 else Int32.ofNat (bW B - 1)) := by
    rw [e2]
    by_cases q : bW B = 0
    · rw [if_pos q, q]; rfl
    · rw [if_neg q, zl1, zi_sub (by omega)]
  rw [e3]
  have h0 := hgo (bW B) (bW B + 1) 1 w (Nat.le_refl _) (by omega) rfl (fun _ _ _ => rfl) (fun o q1 q2 => by omega) (by omega) ⟨fun _ o q1 q2 => by omega, fun _ => rfl⟩
  rw [Nat.sub_self, Nat.pow_zero, Nat.div_one] at h0
  exact ⟨bW B + 1, h0⟩
theorem q12_allDict {B : zBk} {w : zW} {k : Int32 → zW → Prop} (hwf : zWF B) (hW : gI w 210 0 = Int32.ofNat (bW B)) (hk : k (Int32.ofNat (9 ^ bW B)) w) : fX12_allDictionaries w k := by
  have h4 := wf_W hwf
  refine zrun (fun n (s : Int32 × Int32) => fX12_allDictionaries_L4 k n s.1 s.2 w) (fun i => (Int32.ofNat (9 ^ i), Int32.ofNat i)) (bW B) (fun n => ?_) (fun i n hi hc => ?_)
  · simp (disch := omega) only [fX12_allDictionaries_L4, fX12_wordsTold, hW, ↓zln1, ↓zln2, zl0, zl1, zl2, zl3, zl4, zl5, zl6, zl7, zl8, zl9, zl10, zl12, zl15, zl16, zl20, zl24, zl30, zl32, zl36, zl40, zl48, zl57, zl59, zl60, zl61, zl97, zl99, zl120, zl121, zl122, zl126, zl165, zl255, zl480, zl968, zl1000, zl1100, zi_add, zi_mul, zi_sub, zi_div, zi_mod, zi_nat, zt_le, zf_le, zt_lt, zf_lt, zt_eq, zf_eq, zt_vp, zt_N1lt, zf_N1lt, zf_N1eq, zf_eqN1, zt_N1eq, zt_N1le, zf_leN1, zi_nN1, zi_a1, zi_a15, zi_a255, zi_shr, zi_bit, zt_b0, zt_b1, forall_eq, if_true, if_false, true_implies, false_implies, not_true_eq_false, not_false_eq_true, and_true, true_and, gI_sI_eq, gI_sI_ne, gI_sI_ne2, gL_sI, gR_sI, gI_sL, gL_sL_eq, gL_sL_ne, gL_sL_ne2, gR_sL, gI_sR, gL_sR, gR_sR_eq, gR_sR_ne, gR_sR_ne2, gI_aI_eq, gI_aI_ne, gL_aI, gR_aI]
    exact hk
  · simp (disch := omega) only [fX12_allDictionaries_L4, fX12_wordsTold, hW, ↓zln1, ↓zln2, zl0, zl1, zl2, zl3, zl4, zl5, zl6, zl7, zl8, zl9, zl10, zl12, zl15, zl16, zl20, zl24, zl30, zl32, zl36, zl40, zl48, zl57, zl59, zl60, zl61, zl97, zl99, zl120, zl121, zl122, zl126, zl165, zl255, zl480, zl968, zl1000, zl1100, zi_add, zi_mul, zi_sub, zi_div, zi_mod, zi_nat, zt_le, zf_le, zt_lt, zf_lt, zt_eq, zf_eq, zt_vp, zt_N1lt, zf_N1lt, zf_N1eq, zf_eqN1, zt_N1eq, zt_N1le, zf_leN1, zi_nN1, zi_a1, zi_a15, zi_a255, zi_shr, zi_bit, zt_b0, zt_b1, forall_eq, if_true, if_false, true_implies, false_implies, not_true_eq_false, not_false_eq_true, and_true, true_and, gI_sI_eq, gI_sI_ne, gI_sI_ne2, gL_sI, gR_sI, gI_sL, gL_sL_eq, gL_sL_ne, gL_sL_ne2, gR_sL, gI_sR, gL_sR, gR_sR_eq, gR_sR_ne, gR_sR_ne2, gI_aI_eq, gI_aI_ne, gL_aI, gR_aI]
    rw [← Nat.pow_succ]
    exact hc
/-- all that is gathered -/
theorem q12_gathers {B : zBk} {S : Nat → Int32} {w : zW} {k : zW → Prop} (hwf : zWF B) (hB : zRB B w) (hd : zHd B S) (hS : ∀ i, i < 12 → gI w 220 i = S i)
    (hk : ∀ v : zW, v.2 = w.2 → (∀ a c, a ≠ 227 → a ≠ 228 → (a < 234 ∨ 239 < a) → (a = 200 → c ≠ 29 ∧ c ≠ 30 ∧ c ≠ 31 ∧ c ≠ 33) → gI v a c = gI w a c) → zGa B S (zGL B S) v → k v) : fX12_gathers w k := by
  have h4 := wf_W hwf
  have h8 := wf_R hwf
  have h9 : 9 ^ bW B ≤ 6561 := Nat.pow_le_pow_right (n := 9) (by omega) h4
  have hGL : zGL B S = (List.range (9 ^ bW B)).filter (fun d => zAl B d && zGu B S d) := by
    rw [zGL, zAL, List.filter_filter]
    exact List.filter_congr (fun d _ => Bool.and_comm _ _)
  rw [fX12_gathers]
  refine q12_clears (B := B) (S := S) (fun w1 p1 f1 f236 g1 => ?_) h4 h8
  refine zinv (fun n (s : Int32 × zW) => fX12_gathers_L6 k n s.1 s.2) (fun i s => ∃ v : zW, s = (Int32.ofNat i, v) ∧ v.2 = w.2 ∧ (∀ a c, a ≠ 227 → a ≠ 228 → (a < 234 ∨ 239 < a) → (a = 200 → c ≠ 29 ∧ c ≠ 30 ∧ c ≠ 31 ∧ c ≠ 33) → gI v a c = gI w a c) ∧ zGa B S ((List.range i).filter (fun d => zAl B d && zGu B S d)) v) (9 ^ bW B) (s0 := (0, w1)) ?_ ?_ ?_
  · exact ⟨w1, rfl, p1, fun a c q1 q2 q3 q4 => f1 a c q3 (fun z => ⟨(q4 z).2.2.1, (q4 z).2.2.2⟩), g1⟩
  · rintro n s ⟨v, rfl, v2, vf, vg⟩
    rw [← hGL] at vg
    have eW : gI v 210 0 = Int32.ofNat (bW B) := by rw [vf 210 0 (by omega) (by omega) (by omega) (by omega)]; exact rb_W hB
    show fX12_gathers_L6 k (n + 1) (Int32.ofNat (9 ^ bW B)) v
    rw [fX12_gathers_L6]
    try dsimp only
    refine q12_allDict hwf eW ⟨fun _ => hk v v2 vf vg, fun q => absurd (Int32.le_refl _) q⟩
  · rintro i n s hi ⟨v, rfl, v2, vf, vg⟩ hc
    have eW : gI v 210 0 = Int32.ofNat (bW B) := by rw [vf 210 0 (by omega) (by omega) (by omega) (by omega)]; exact rb_W hB
    have hBv : ∀ u : zW, (∀ a c, a = 210 ∨ a = 211 ∨ a = 223 ∨ a = 224 ∨ a = 225 → gI u a c = gI w a c) → zRB B u := fun u h => zRB_of hB (fun k _ => h 210 k (by omega)) (fun k _ => h 211 k (by omega)) (fun k => h 223 k (by omega)) (fun k => h 224 k (by omega)) (fun k => h 225 k (by omega)) hwf
    show fX12_gathers_L6 k (n + 1) (Int32.ofNat i) v
    rw [fX12_gathers_L6]
    try dsimp only
    refine q12_allDict hwf eW ⟨fun q => absurd q (zi_nge hi (by omega)), fun _ => ?_⟩
    refine q12_lays hwf (hBv v (fun a c q => vf a c (by omega) (by omega) (by omega) (by omega))) hd (fun j hj => by rw [vf 220 j (by omega) (by omega) (by omega) (by omega)]; exact hS j hj) hi (fun u u2 uf um => ?_)
    have hufw : ∀ a c, a ≠ 227 → a ≠ 228 → (a < 234 ∨ 239 < a) → (a = 200 → c ≠ 29 ∧ c ≠ 30 ∧ c ≠ 31 ∧ c ≠ 33) → gI u a c = gI w a c := fun a c q1 q2 q3 q4 => by rw [uf a c q1]; exact vf a c q1 q2 q3 q4
    have hgau : zGa B S ((List.range i).filter (fun d => zAl B d && zGu B S d)) u := by
      obtain ⟨y1, y2, y3, y4, y5, y6, y7, y8⟩ := vg
      refine ⟨by rw [uf _ _ (by omega)]; exact y1, by rw [uf _ _ (by omega)]; exact y2, fun o m ho hm => by rw [uf _ _ (by omega)]; exact y3 o m ho hm, fun r n hr hn => by rw [uf _ _ (by omega)]; exact y4 r n hr hn, fun o p ho hp => by rw [uf _ _ (by omega)]; exact y5 o p ho hp, fun r hr => by rw [uf _ _ (by omega)]; exact y6 r hr, fun r hr => by rw [uf _ _ (by omega)]; exact y7 r hr, fun j q1 q2 o ho => ?_⟩
      rw [uf _ _ (by omega)] at q1
      rw [uf _ _ (by omega)]
      exact y8 j q1 q2 o ho
    by_cases q : (zAl B i && zGu B S i) = true
    · rw [if_pos q]
      refine ⟨fun z => absurd z (by decide), fun _ => ?_⟩
      refine q12_goes (m := zdm (bW B) i) hwf (hBv u (fun a c z => hufw a c (by omega) (by omega) (by omega) (by omega))) hd (fun j hj => by rw [hufw 220 j (by omega) (by omega) (by omega) (by omega)]; exact hS j hj) um (zdm_lt _ _) (fun t t2 tf t29 t30 tb => ?_)
      have htg : zGa B S ((List.range i).filter (fun d => zAl B d && zGu B S d)) t := by
        obtain ⟨y1, y2, y3, y4, y5, y6, y7, y8⟩ := hgau
        refine ⟨by rw [tf _ _ (by omega) (by omega)]; exact y1, by rw [tf _ _ (by omega) (by omega)]; exact y2, fun o m ho hm => by rw [tf _ _ (by omega) (by omega)]; exact y3 o m ho hm, fun r n hr hn => by rw [tf _ _ (by omega) (by omega)]; exact y4 r n hr hn, fun o p ho hp => by rw [tf _ _ (by omega) (by omega)]; exact y5 o p ho hp, fun r hr => by rw [tf _ _ (by omega) (by omega)]; exact y6 r hr, fun r hr => by rw [tf _ _ (by omega) (by omega)]; exact y7 r hr, fun j q1 q2 o ho => ?_⟩
        rw [tf _ _ (by omega) (by omega)] at q1
        rw [tf _ _ (by omega) (by omega)]
        exact y8 j q1 q2 o ho
      have hlen : ((List.range i).filter (fun d => zAl B d && zGu B S d)).length < 6561 := by
        have h1 : ((List.range i).filter (fun d => zAl B d && zGu B S d)).length ≤ (List.range i).length := List.length_filter_le _ _
        rw [List.length_range] at h1
        omega
      refine q12_tells hwf (by rw [tf 210 2 (by omega) (by omega), hufw 210 2 (by omega) (by omega) (by omega) (by omega)]; exact rb_R hB) (by rw [tf 210 0 (by omega) (by omega), hufw 210 0 (by omega) (by omega) (by omega) (by omega)]; exact rb_W hB) (fun o ho => by rw [tf 227 o (by omega) (by omega)]; exact um o ho) t29 t30 tb htg hlen (fun x x2 xf xg => ?_)
      rw [zl1, zi_add]
      refine hc _ ⟨x, rfl, ((x2.trans t2).trans u2).trans v2, fun a c q1 q2 q3 q4 => ?_, ?_⟩
      · rw [xf a c q3 (fun z => ⟨(q4 z).2.2.1, (q4 z).2.2.2⟩), tf a c q2 (fun z => ⟨(q4 z).1, (q4 z).2.1⟩)]
        exact hufw a c q1 q2 q3 q4
      · rw [zfl_succ, if_pos q]
        exact xg
    · rw [if_neg q]
      refine ⟨fun _ => ?_, fun z => absurd rfl z⟩
      rw [zl1, zi_add]
      refine hc _ ⟨u, rfl, u2.trans v2, hufw, ?_⟩
      rw [zfl_succ, if_neg q, List.append_nil]
      exact hgau

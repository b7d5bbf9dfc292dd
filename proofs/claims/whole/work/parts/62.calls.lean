/-! Level 2: count, idle, bad, off, behind -/
theorem zbits_ext {m n : Nat} {p : Nat → Bool} (hmn : m ≤ n) (h : ∀ i, m ≤ i → i < n → p i = false) : zbits n p = zbits m p := by
  induction n with
  | zero => rw [show m = 0 by omega]
  | succ n ih =>
    by_cases e : m = n + 1
    · rw [e]
    · rw [zbits_s0 (h n (by omega) (by omega)), ih (by omega) (fun i q1 q2 => h i q1 (by omega))]
theorem c_count {B : zBk} {S : Nat → Int32} {N : zNt} {b nn : Nat} {x : Int32} {w : zW} {k k0 : zW → Prop} (h : zInv B S N b nn w) (hk : ∀ v, zInv B S N b nn v → zfl w v → k v) : fX11_count x w (fun r1 w1 => fX12_count x w1 (fun r2 w2 => (r1 = r2 → k w2) ∧ (¬ r1 = r2 → k0 w2))) := by
  have hwf := iv_wf h
  have hrb := iv_rb h
  have hcb := iv_cb h
  have hha := iv_ha h
  have h4 := wf_W hwf
  have h8 := wf_R hwf
  have hb := (iv_re h).2.1
  have hnn := (iv_re h).2.2.2.2.1
  have hb0 : ¬ b = 0 := by have := (iv_re h).1; omega
  have hn0 : ¬ nn = 0 := by have := (iv_re h).2.2.2.1; omega
  have hkv := hk _ (zInv_t h 0) ⟨rfl, rfl⟩
  have hkv' : k (sI w 200 0 (Int32.ofNat 0)) := hkv
  have hrb1 : zRB B (sI w 200 0 (Int32.ofNat 0)) := iv_rb (zInv_t h 0)
  by_cases e0 : x = 0
  · subst e0
    simp (disch := omega) only [fX11_count, fX12_count, hb, hb0, cb_W hcb, fX12_wordsTold, rb_W hrb, ↓zln1, ↓zln2, zl0, zl1, zl2, zl3, zl4, zl5, zl6, zl7, zl8, zl9, zl10, zl12, zl15, zl16, zl20, zl24, zl30, zl32, zl36, zl40, zl48, zl57, zl59, zl60, zl61, zl97, zl99, zl120, zl121, zl122, zl126, zl165, zl255, zl480, zl968, zl1000, zl1100, zi_add, zi_mul, zi_sub, zi_div, zi_mod, zi_nat, zt_le, zf_le, zt_lt, zf_lt, zt_eq, zf_eq, zt_vp, zt_N1lt, zf_N1lt, zf_N1eq, zf_eqN1, zt_N1eq, zt_N1le, zf_leN1, zi_nN1, zi_a1, zi_a15, zi_a255, zi_shr, zi_bit, zt_b0, zt_b1, forall_eq, if_true, if_false, true_implies, false_implies, not_true_eq_false, not_false_eq_true, and_true, true_and, gI_sI_eq, gI_sI_ne, gI_sI_ne2, gL_sI, gR_sI, gI_sL, gL_sL_eq, gL_sL_ne, gL_sL_ne2, gR_sL, gI_sR, gL_sR, gR_sR_eq, gR_sR_ne, gR_sR_ne2, gI_aI_eq, gI_aI_ne, gL_aI, gR_aI]
    first | exact zc_same hkv | exact hkv
  by_cases e1 : x = 1
  · subst e1
    simp (disch := omega) only [fX11_count, fX12_count, hb, hb0, cb_R hcb, fX12_rows, rb_R hrb, ↓zln1, ↓zln2, zl0, zl1, zl2, zl3, zl4, zl5, zl6, zl7, zl8, zl9, zl10, zl12, zl15, zl16, zl20, zl24, zl30, zl32, zl36, zl40, zl48, zl57, zl59, zl60, zl61, zl97, zl99, zl120, zl121, zl122, zl126, zl165, zl255, zl480, zl968, zl1000, zl1100, zi_add, zi_mul, zi_sub, zi_div, zi_mod, zi_nat, zt_le, zf_le, zt_lt, zf_lt, zt_eq, zf_eq, zt_vp, zt_N1lt, zf_N1lt, zf_N1eq, zf_eqN1, zt_N1eq, zt_N1le, zf_leN1, zi_nN1, zi_a1, zi_a15, zi_a255, zi_shr, zi_bit, zt_b0, zt_b1, forall_eq, if_true, if_false, true_implies, false_implies, not_true_eq_false, not_false_eq_true, and_true, true_and, gI_sI_eq, gI_sI_ne, gI_sI_ne2, gL_sI, gR_sI, gI_sL, gL_sL_eq, gL_sL_ne, gL_sL_ne2, gR_sL, gI_sR, gL_sR, gR_sR_eq, gR_sR_ne, gR_sR_ne2, gI_aI_eq, gI_aI_ne, gL_aI, gR_aI]
    first | exact zc_same hkv | exact hkv
  by_cases e2 : x = 2
  · subst e2
    simp (disch := omega) only [fX11_count, fX12_count, hb, hb0, cb_C hcb, rb_C hrb, ↓zln1, ↓zln2, zl0, zl1, zl2, zl3, zl4, zl5, zl6, zl7, zl8, zl9, zl10, zl12, zl15, zl16, zl20, zl24, zl30, zl32, zl36, zl40, zl48, zl57, zl59, zl60, zl61, zl97, zl99, zl120, zl121, zl122, zl126, zl165, zl255, zl480, zl968, zl1000, zl1100, zi_add, zi_mul, zi_sub, zi_div, zi_mod, zi_nat, zt_le, zf_le, zt_lt, zf_lt, zt_eq, zf_eq, zt_vp, zt_N1lt, zf_N1lt, zf_N1eq, zf_eqN1, zt_N1eq, zt_N1le, zf_leN1, zi_nN1, zi_a1, zi_a15, zi_a255, zi_shr, zi_bit, zt_b0, zt_b1, forall_eq, if_true, if_false, true_implies, false_implies, not_true_eq_false, not_false_eq_true, and_true, true_and, gI_sI_eq, gI_sI_ne, gI_sI_ne2, gL_sI, gR_sI, gI_sL, gL_sL_eq, gL_sL_ne, gL_sL_ne2, gR_sL, gI_sR, gL_sR, gR_sR_eq, gR_sR_ne, gR_sR_ne2, gI_aI_eq, gI_aI_ne, gL_aI, gR_aI]
    first | exact zc_same hkv | exact hkv
  by_cases e3 : x = 3
  · subst e3
    simp (disch := omega) only [fX11_count, fX12_count, ↓zln1, ↓zln2, zl0, zl1, zl2, zl3, zl4, zl5, zl6, zl7, zl8, zl9, zl10, zl12, zl15, zl16, zl20, zl24, zl30, zl32, zl36, zl40, zl48, zl57, zl59, zl60, zl61, zl97, zl99, zl120, zl121, zl122, zl126, zl165, zl255, zl480, zl968, zl1000, zl1100, zi_add, zi_mul, zi_sub, zi_div, zi_mod, zi_nat, zt_le, zf_le, zt_lt, zf_lt, zt_eq, zf_eq, zt_vp, zt_N1lt, zf_N1lt, zf_N1eq, zf_eqN1, zt_N1eq, zt_N1le, zf_leN1, zi_nN1, zi_a1, zi_a15, zi_a255, zi_shr, zi_bit, zt_b0, zt_b1, forall_eq, if_true, if_false, true_implies, false_implies, not_true_eq_false, not_false_eq_true, and_true, true_and, gI_sI_eq, gI_sI_ne, gI_sI_ne2, gL_sI, gR_sI, gI_sL, gL_sL_eq, gL_sL_ne, gL_sL_ne2, gR_sL, gI_sR, gL_sR, gR_sR_eq, gR_sR_ne, gR_sR_ne2, gI_aI_eq, gI_aI_ne, gL_aI, gR_aI]
    refine q3_guessBits hha.2.2 ?_
    rw [zbits_ext h4 (fun i q1 q2 => zh_f (hha.1.2.1 i q1 q2))]
    refine zrun (fun n (s : Int32 × Int32) => fX12_count_L79 _ n s.1 s.2 (sI w 200 0 (Int32.ofNat 0))) (fun i => (Int32.ofNat (zbits i (zh S)), Int32.ofNat i)) (bW B) (fun n => ?_) (fun i n hi hc => ?_)
    · simp (disch := omega) only [fX12_count_L79, fX12_wordsTold, rb_W hrb, ↓zln1, ↓zln2, zl0, zl1, zl2, zl3, zl4, zl5, zl6, zl7, zl8, zl9, zl10, zl12, zl15, zl16, zl20, zl24, zl30, zl32, zl36, zl40, zl48, zl57, zl59, zl60, zl61, zl97, zl99, zl120, zl121, zl122, zl126, zl165, zl255, zl480, zl968, zl1000, zl1100, zi_add, zi_mul, zi_sub, zi_div, zi_mod, zi_nat, zt_le, zf_le, zt_lt, zf_lt, zt_eq, zf_eq, zt_vp, zt_N1lt, zf_N1lt, zf_N1eq, zf_eqN1, zt_N1eq, zt_N1le, zf_leN1, zi_nN1, zi_a1, zi_a15, zi_a255, zi_shr, zi_bit, zt_b0, zt_b1, forall_eq, if_true, if_false, true_implies, false_implies, not_true_eq_false, not_false_eq_true, and_true, true_and, gI_sI_eq, gI_sI_ne, gI_sI_ne2, gL_sI, gR_sI, gI_sL, gL_sL_eq, gL_sL_ne, gL_sL_ne2, gR_sL, gI_sR, gL_sR, gR_sR_eq, gR_sR_ne, gR_sR_ne2, gI_aI_eq, gI_aI_ne, gL_aI, gR_aI]
      first | exact zc_same hkv | exact hkv
    · rcases hha.1.1 i (by omega) with e | ⟨m, m1, m2⟩
      · simp (disch := omega) only [fX12_count_L79, fX12_wordsTold, fX12_count_J104, rb_W hrb, hha.2.1 i (by omega), e, ↓zln1, ↓zln2, zl0, zl1, zl2, zl3, zl4, zl5, zl6, zl7, zl8, zl9, zl10, zl12, zl15, zl16, zl20, zl24, zl30, zl32, zl36, zl40, zl48, zl57, zl59, zl60, zl61, zl97, zl99, zl120, zl121, zl122, zl126, zl165, zl255, zl480, zl968, zl1000, zl1100, zi_add, zi_mul, zi_sub, zi_div, zi_mod, zi_nat, zt_le, zf_le, zt_lt, zf_lt, zt_eq, zf_eq, zt_vp, zt_N1lt, zf_N1lt, zf_N1eq, zf_eqN1, zt_N1eq, zt_N1le, zf_leN1, zi_nN1, zi_a1, zi_a15, zi_a255, zi_shr, zi_bit, zt_b0, zt_b1, forall_eq, if_true, if_false, true_implies, false_implies, not_true_eq_false, not_false_eq_true, and_true, true_and, gI_sI_eq, gI_sI_ne, gI_sI_ne2, gL_sI, gR_sI, gI_sL, gL_sL_eq, gL_sL_ne, gL_sL_ne2, gR_sL, gI_sR, gL_sR, gR_sR_eq, gR_sR_ne, gR_sR_ne2, gI_aI_eq, gI_aI_ne, gL_aI, gR_aI]
        rw [zbits_f (zh_f e)]
        exact hc
      · simp (disch := omega) only [fX12_count_L79, fX12_wordsTold, fX12_count_J104, rb_W hrb, hha.2.1 i (by omega), m2, ↓zln1, ↓zln2, zl0, zl1, zl2, zl3, zl4, zl5, zl6, zl7, zl8, zl9, zl10, zl12, zl15, zl16, zl20, zl24, zl30, zl32, zl36, zl40, zl48, zl57, zl59, zl60, zl61, zl97, zl99, zl120, zl121, zl122, zl126, zl165, zl255, zl480, zl968, zl1000, zl1100, zi_add, zi_mul, zi_sub, zi_div, zi_mod, zi_nat, zt_le, zf_le, zt_lt, zf_lt, zt_eq, zf_eq, zt_vp, zt_N1lt, zf_N1lt, zf_N1eq, zf_eqN1, zt_N1eq, zt_N1le, zf_leN1, zi_nN1, zi_a1, zi_a15, zi_a255, zi_shr, zi_bit, zt_b0, zt_b1, forall_eq, if_true, if_false, true_implies, false_implies, not_true_eq_false, not_false_eq_true, and_true, true_and, gI_sI_eq, gI_sI_ne, gI_sI_ne2, gL_sI, gR_sI, gI_sL, gL_sL_eq, gL_sL_ne, gL_sL_ne2, gR_sL, gI_sR, gL_sR, gR_sR_eq, gR_sR_ne, gR_sR_ne2, gI_aI_eq, gI_aI_ne, gL_aI, gR_aI]
        rw [zbits_t (by omega) (zh_t (by rw [m2]; exact zN1_ne (by omega)))]
        exact hc
  by_cases e4 : x = 4
  · subst e4
    simp (disch := omega) only [fX11_count, fX12_count, ↓zln1, ↓zln2, zl0, zl1, zl2, zl3, zl4, zl5, zl6, zl7, zl8, zl9, zl10, zl12, zl15, zl16, zl20, zl24, zl30, zl32, zl36, zl40, zl48, zl57, zl59, zl60, zl61, zl97, zl99, zl120, zl121, zl122, zl126, zl165, zl255, zl480, zl968, zl1000, zl1100, zi_add, zi_mul, zi_sub, zi_div, zi_mod, zi_nat, zt_le, zf_le, zt_lt, zf_lt, zt_eq, zf_eq, zt_vp, zt_N1lt, zf_N1lt, zf_N1eq, zf_eqN1, zt_N1eq, zt_N1le, zf_leN1, zi_nN1, zi_a1, zi_a15, zi_a255, zi_shr, zi_bit, zt_b0, zt_b1, forall_eq, if_true, if_false, true_implies, false_implies, not_true_eq_false, not_false_eq_true, and_true, true_and, gI_sI_eq, gI_sI_ne, gI_sI_ne2, gL_sI, gR_sI, gI_sL, gL_sL_eq, gL_sL_ne, gL_sL_ne2, gR_sL, gI_sR, gL_sR, gR_sR_eq, gR_sR_ne, gR_sR_ne2, gI_aI_eq, gI_aI_ne, gL_aI, gR_aI]
    refine q3_countBits hha.2.2 ?_
    rw [zbits_ext h8 (fun i q1 q2 => zh_f (hha.1.2.2.2 i q1 q2))]
    refine zrun (fun n (s : Int32 × Int32) => fX12_count_L116 _ n s.1 s.2 (sI w 200 0 (Int32.ofNat 0))) (fun i => (Int32.ofNat (zbits i (fun r => zh S (4 + r))), Int32.ofNat i)) (bR B) (fun n => ?_) (fun i n hi hc => ?_)
    · simp (disch := omega) only [fX12_count_L116, fX12_rows, rb_R hrb, ↓zln1, ↓zln2, zl0, zl1, zl2, zl3, zl4, zl5, zl6, zl7, zl8, zl9, zl10, zl12, zl15, zl16, zl20, zl24, zl30, zl32, zl36, zl40, zl48, zl57, zl59, zl60, zl61, zl97, zl99, zl120, zl121, zl122, zl126, zl165, zl255, zl480, zl968, zl1000, zl1100, zi_add, zi_mul, zi_sub, zi_div, zi_mod, zi_nat, zt_le, zf_le, zt_lt, zf_lt, zt_eq, zf_eq, zt_vp, zt_N1lt, zf_N1lt, zf_N1eq, zf_eqN1, zt_N1eq, zt_N1le, zf_leN1, zi_nN1, zi_a1, zi_a15, zi_a255, zi_shr, zi_bit, zt_b0, zt_b1, forall_eq, if_true, if_false, true_implies, false_implies, not_true_eq_false, not_false_eq_true, and_true, true_and, gI_sI_eq, gI_sI_ne, gI_sI_ne2, gL_sI, gR_sI, gI_sL, gL_sL_eq, gL_sL_ne, gL_sL_ne2, gR_sL, gI_sR, gL_sR, gR_sR_eq, gR_sR_ne, gR_sR_ne2, gI_aI_eq, gI_aI_ne, gL_aI, gR_aI]
      first | exact zc_same hkv | exact hkv
    · rcases hha.1.2.2.1 i (by omega) with e | ⟨m, m1, m2⟩
      · simp (disch := omega) only [fX12_count_L116, fX12_rows, fX12_count_J143, rb_R hrb, hha.2.1 (4 + i) (by omega), e, ↓zln1, ↓zln2, zl0, zl1, zl2, zl3, zl4, zl5, zl6, zl7, zl8, zl9, zl10, zl12, zl15, zl16, zl20, zl24, zl30, zl32, zl36, zl40, zl48, zl57, zl59, zl60, zl61, zl97, zl99, zl120, zl121, zl122, zl126, zl165, zl255, zl480, zl968, zl1000, zl1100, zi_add, zi_mul, zi_sub, zi_div, zi_mod, zi_nat, zt_le, zf_le, zt_lt, zf_lt, zt_eq, zf_eq, zt_vp, zt_N1lt, zf_N1lt, zf_N1eq, zf_eqN1, zt_N1eq, zt_N1le, zf_leN1, zi_nN1, zi_a1, zi_a15, zi_a255, zi_shr, zi_bit, zt_b0, zt_b1, forall_eq, if_true, if_false, true_implies, false_implies, not_true_eq_false, not_false_eq_true, and_true, true_and, gI_sI_eq, gI_sI_ne, gI_sI_ne2, gL_sI, gR_sI, gI_sL, gL_sL_eq, gL_sL_ne, gL_sL_ne2, gR_sL, gI_sR, gL_sR, gR_sR_eq, gR_sR_ne, gR_sR_ne2, gI_aI_eq, gI_aI_ne, gL_aI, gR_aI]
        rw [zbits_f (p := fun r => zh S (4 + r)) (zh_f e)]
        exact hc
      · simp (disch := omega) only [fX12_count_L116, fX12_rows, fX12_count_J143, rb_R hrb, hha.2.1 (4 + i) (by omega), m2, ↓zln1, ↓zln2, zl0, zl1, zl2, zl3, zl4, zl5, zl6, zl7, zl8, zl9, zl10, zl12, zl15, zl16, zl20, zl24, zl30, zl32, zl36, zl40, zl48, zl57, zl59, zl60, zl61, zl97, zl99, zl120, zl121, zl122, zl126, zl165, zl255, zl480, zl968, zl1000, zl1100, zi_add, zi_mul, zi_sub, zi_div, zi_mod, zi_nat, zt_le, zf_le, zt_lt, zf_lt, zt_eq, zf_eq, zt_vp, zt_N1lt, zf_N1lt, zf_N1eq, zf_eqN1, zt_N1eq, zt_N1le, zf_leN1, zi_nN1, zi_a1, zi_a15, zi_a255, zi_shr, zi_bit, zt_b0, zt_b1, forall_eq, if_true, if_false, true_implies, false_implies, not_true_eq_false, not_false_eq_true, and_true, true_and, gI_sI_eq, gI_sI_ne, gI_sI_ne2, gL_sI, gR_sI, gI_sL, gL_sL_eq, gL_sL_ne, gL_sL_ne2, gR_sL, gI_sR, gL_sR, gR_sR_eq, gR_sR_ne, gR_sR_ne2, gI_aI_eq, gI_aI_ne, gL_aI, gR_aI]
        rw [zbits_t (p := fun r => zh S (4 + r)) (by omega) (zh_t (by rw [m2]; exact zN1_ne (by omega)))]
        exact hc
  by_cases e5 : x = 5
  · subst e5
    simp (disch := omega) only [fX11_count, fX12_count, hb, hb0, ↓zln1, ↓zln2, zl0, zl1, zl2, zl3, zl4, zl5, zl6, zl7, zl8, zl9, zl10, zl12, zl15, zl16, zl20, zl24, zl30, zl32, zl36, zl40, zl48, zl57, zl59, zl60, zl61, zl97, zl99, zl120, zl121, zl122, zl126, zl165, zl255, zl480, zl968, zl1000, zl1100, zi_add, zi_mul, zi_sub, zi_div, zi_mod, zi_nat, zt_le, zf_le, zt_lt, zf_lt, zt_eq, zf_eq, zt_vp, zt_N1lt, zf_N1lt, zf_N1eq, zf_eqN1, zt_N1eq, zt_N1le, zf_leN1, zi_nN1, zi_a1, zi_a15, zi_a255, zi_shr, zi_bit, zt_b0, zt_b1, forall_eq, if_true, if_false, true_implies, false_implies, not_true_eq_false, not_false_eq_true, and_true, true_and, gI_sI_eq, gI_sI_ne, gI_sI_ne2, gL_sI, gR_sI, gI_sL, gL_sL_eq, gL_sL_ne, gL_sL_ne2, gR_sL, gI_sR, gL_sR, gR_sR_eq, gR_sR_ne, gR_sR_ne2, gI_aI_eq, gI_aI_ne, gL_aI, gR_aI]
    refine q0_dictionaries hwf hcb ?_
    exact q12_meanings0 hwf hrb1 (zc_same hkv)
  by_cases e6 : x = 6
  · subst e6
    simp (disch := omega) only [fX11_count, fX12_count, hnn, hn0, (iv_no h).2.1, (iv_no h).2.2.1, ↓zln1, ↓zln2, zl0, zl1, zl2, zl3, zl4, zl5, zl6, zl7, zl8, zl9, zl10, zl12, zl15, zl16, zl20, zl24, zl30, zl32, zl36, zl40, zl48, zl57, zl59, zl60, zl61, zl97, zl99, zl120, zl121, zl122, zl126, zl165, zl255, zl480, zl968, zl1000, zl1100, zi_add, zi_mul, zi_sub, zi_div, zi_mod, zi_nat, zt_le, zf_le, zt_lt, zf_lt, zt_eq, zf_eq, zt_vp, zt_N1lt, zf_N1lt, zf_N1eq, zf_eqN1, zt_N1eq, zt_N1le, zf_leN1, zi_nN1, zi_a1, zi_a15, zi_a255, zi_shr, zi_bit, zt_b0, zt_b1, forall_eq, if_true, if_false, true_implies, false_implies, not_true_eq_false, not_false_eq_true, and_true, true_and, gI_sI_eq, gI_sI_ne, gI_sI_ne2, gL_sI, gR_sI, gI_sL, gL_sL_eq, gL_sL_ne, gL_sL_ne2, gR_sL, gI_sR, gL_sR, gR_sR_eq, gR_sR_ne, gR_sR_ne2, gI_aI_eq, gI_aI_ne, gL_aI, gR_aI]
    first | exact zc_same hkv | exact hkv
  by_cases e7 : x = 7
  · subst e7
    obtain ⟨n, P, h16, p2, p3, p4, p5, p6, p7⟩ := iv_pa h
    simp (disch := omega) only [fX11_count, fX12_count, p2, p3, ↓zln1, ↓zln2, zl0, zl1, zl2, zl3, zl4, zl5, zl6, zl7, zl8, zl9, zl10, zl12, zl15, zl16, zl20, zl24, zl30, zl32, zl36, zl40, zl48, zl57, zl59, zl60, zl61, zl97, zl99, zl120, zl121, zl122, zl126, zl165, zl255, zl480, zl968, zl1000, zl1100, zi_add, zi_mul, zi_sub, zi_div, zi_mod, zi_nat, zt_le, zf_le, zt_lt, zf_lt, zt_eq, zf_eq, zt_vp, zt_N1lt, zf_N1lt, zf_N1eq, zf_eqN1, zt_N1eq, zt_N1le, zf_leN1, zi_nN1, zi_a1, zi_a15, zi_a255, zi_shr, zi_bit, zt_b0, zt_b1, forall_eq, if_true, if_false, true_implies, false_implies, not_true_eq_false, not_false_eq_true, and_true, true_and, gI_sI_eq, gI_sI_ne, gI_sI_ne2, gL_sI, gR_sI, gI_sL, gL_sL_eq, gL_sL_ne, gL_sL_ne2, gR_sL, gI_sR, gL_sR, gR_sR_eq, gR_sR_ne, gR_sR_ne2, gI_aI_eq, gI_aI_ne, gL_aI, gR_aI]
    first | exact zc_same hkv | exact hkv
  by_cases e8 : x = 8
  · subst e8
    obtain ⟨n, t, t1, t2, t3, t4⟩ := iv_ta h
    simp (disch := omega) only [fX11_count, fX12_count, t2, t3, ↓zln1, ↓zln2, zl0, zl1, zl2, zl3, zl4, zl5, zl6, zl7, zl8, zl9, zl10, zl12, zl15, zl16, zl20, zl24, zl30, zl32, zl36, zl40, zl48, zl57, zl59, zl60, zl61, zl97, zl99, zl120, zl121, zl122, zl126, zl165, zl255, zl480, zl968, zl1000, zl1100, zi_add, zi_mul, zi_sub, zi_div, zi_mod, zi_nat, zt_le, zf_le, zt_lt, zf_lt, zt_eq, zf_eq, zt_vp, zt_N1lt, zf_N1lt, zf_N1eq, zf_eqN1, zt_N1eq, zt_N1le, zf_leN1, zi_nN1, zi_a1, zi_a15, zi_a255, zi_shr, zi_bit, zt_b0, zt_b1, forall_eq, if_true, if_false, true_implies, false_implies, not_true_eq_false, not_false_eq_true, and_true, true_and, gI_sI_eq, gI_sI_ne, gI_sI_ne2, gL_sI, gR_sI, gI_sL, gL_sL_eq, gL_sL_ne, gL_sL_ne2, gR_sL, gI_sR, gL_sR, gR_sR_eq, gR_sR_ne, gR_sR_ne2, gI_aI_eq, gI_aI_ne, gL_aI, gR_aI]
    first | exact zc_same hkv | exact hkv
  intro sv es
  subst es
  refine ⟨fun q => absurd q e0, fun _ => ⟨fun q => absurd q e1, fun _ => ⟨fun q => absurd q e2, fun _ => ⟨fun q => absurd q e3, fun _ => ⟨fun q => absurd q e4, fun _ => ⟨fun q => absurd q e5, fun _ => ⟨fun q => absurd q e6, fun _ => ⟨fun q => absurd q e7, fun _ => ⟨fun q => absurd q e8, fun _ => ?_⟩⟩⟩⟩⟩⟩⟩⟩⟩
  intro w1 ew sv es
  subst es
  subst ew
  exact ⟨fun q => absurd q e0, fun _ => ⟨fun q => absurd q e1, fun _ => ⟨fun q => absurd q e2, fun _ => ⟨fun q => absurd q e3, fun _ => ⟨fun q => absurd q e4, fun _ => ⟨fun q => absurd q e5, fun _ => ⟨fun q => absurd q e6, fun _ => ⟨fun q => absurd q e7, fun _ => ⟨fun q => absurd q e8, fun _ => zc_same hkv⟩⟩⟩⟩⟩⟩⟩⟩⟩
theorem c_idle {B : zBk} {S : Nat → Int32} {N : zNt} {b nn : Nat} {w : zW} {k k0 : zW → Prop} (h : zInv B S N b nn w) (hk : ∀ v, zInv B S N b nn v → zfl w v → k v) : fX11_idle w (fun r1 w1 => fX12_idle w1 (fun r2 w2 => (r1 = r2 → k w2) ∧ (¬ r1 = r2 → k0 w2))) := by
  have hwf := iv_wf h
  have hrb := iv_rb h
  have hcb := iv_cb h
  have h4 := wf_W hwf
  have hb := (iv_re h).2.1
  have hb0 : ¬ b = 0 := by have := (iv_re h).1; omega
  have hkv := hk _ (zInv_t h 0) ⟨rfl, rfl⟩
  have hrb1 := iv_rb (zInv_t h 0)
  refine zrun (fun n (s : Int32 × Int32) => fX11_idle_L4 _ n s.1 s.2 w) (fun i => (Int32.ofNat (zbits i (fun o => zUs B o == 0)), Int32.ofNat i)) (bW B) (fun n => ?_) (fun i n hi hc => ?_)
  · simp (disch := omega) only [fX11_idle_L4, hb, hb0, cb_W hcb, ↓zln1, ↓zln2, zl0, zl1, zl2, zl3, zl4, zl5, zl6, zl7, zl8, zl9, zl10, zl12, zl15, zl16, zl20, zl24, zl30, zl32, zl36, zl40, zl48, zl57, zl59, zl60, zl61, zl97, zl99, zl120, zl121, zl122, zl126, zl165, zl255, zl480, zl968, zl1000, zl1100, zi_add, zi_mul, zi_sub, zi_div, zi_mod, zi_nat, zt_le, zf_le, zt_lt, zf_lt, zt_eq, zf_eq, zt_vp, zt_N1lt, zf_N1lt, zf_N1eq, zf_eqN1, zt_N1eq, zt_N1le, zf_leN1, zi_nN1, zi_a1, zi_a15, zi_a255, zi_shr, zi_bit, zt_b0, zt_b1, forall_eq, if_true, if_false, true_implies, false_implies, not_true_eq_false, not_false_eq_true, and_true, true_and, gI_sI_eq, gI_sI_ne, gI_sI_ne2, gL_sI, gR_sI, gI_sL, gL_sL_eq, gL_sL_ne, gL_sL_ne2, gR_sL, gI_sR, gL_sR, gR_sR_eq, gR_sR_ne, gR_sR_ne2, gI_aI_eq, gI_aI_ne, gL_aI, gR_aI]
    intro w1 e
    subst e
    refine zrun (fun n (s : Int32 × Int32) => fX12_idle_L9 _ n s.1 s.2 (sI w 200 0 0)) (fun i => (Int32.ofNat (zbits i (fun o => zUs B o == 0)), Int32.ofNat i)) (bW B) (fun n => ?_) (fun i n hi hc => ?_)
    · simp (disch := omega) only [fX12_idle_L9, fX12_wordsTold, rb_W hrb, ↓zln1, ↓zln2, zl0, zl1, zl2, zl3, zl4, zl5, zl6, zl7, zl8, zl9, zl10, zl12, zl15, zl16, zl20, zl24, zl30, zl32, zl36, zl40, zl48, zl57, zl59, zl60, zl61, zl97, zl99, zl120, zl121, zl122, zl126, zl165, zl255, zl480, zl968, zl1000, zl1100, zi_add, zi_mul, zi_sub, zi_div, zi_mod, zi_nat, zt_le, zf_le, zt_lt, zf_lt, zt_eq, zf_eq, zt_vp, zt_N1lt, zf_N1lt, zf_N1eq, zf_eqN1, zt_N1eq, zt_N1le, zf_leN1, zi_nN1, zi_a1, zi_a15, zi_a255, zi_shr, zi_bit, zt_b0, zt_b1, forall_eq, if_true, if_false, true_implies, false_implies, not_true_eq_false, not_false_eq_true, and_true, true_and, gI_sI_eq, gI_sI_ne, gI_sI_ne2, gL_sI, gR_sI, gI_sL, gL_sL_eq, gL_sL_ne, gL_sL_ne2, gR_sL, gI_sR, gL_sR, gR_sR_eq, gR_sR_ne, gR_sR_ne2, gI_aI_eq, gI_aI_ne, gL_aI, gR_aI]
      first | exact zc_same hkv | exact hkv
    · have hW : gI (sI w 200 0 0) 210 0 = Int32.ofNat (bW B) := rb_W hrb1
      have hu := wf_Us hwf i
      rw [fX12_idle_L9]
      try dsimp only
      show fX12_wordsTold _ _
      rw [fX12_wordsTold, show (0 : Int32).toNatClampNeg = 0 from rfl, hW]
      refine ⟨fun q => absurd q (zi_nge (a := bW B) hi (by omega)), fun _ => ?_⟩
      refine q12_usesOf hwf hrb1 (by omega) ?_
      intro v5 e5
      rw [fX12_idle_J33, zl1, zi_add]
      intro v6 e6
      by_cases z : zUs B i = 0
      · rw [if_neg (fun q => q (by rw [z]; rfl)), zi_shl1 (by omega)] at e5
        rw [e6, e5, zbits_t (p := fun o => zUs B o == 0) (by omega) (by show (zUs B i == 0) = true; rw [z]; rfl)]
        exact hc
      · rw [if_pos (show ¬ Int32.ofNat (zUs B i) = 0 from fun q => z ((zi_eq (b := 0) (by omega) (by decide)).mp q))] at e5
        rw [e6, e5, zl0, zbits_f (p := fun o => zUs B o == 0) (beq_false_of_ne z)]
        exact hc
  · have hu := wf_Us hwf i
    by_cases z : zUs B i = 0
    · simp (disch := omega) only [fX11_idle_L4, hb, hb0, cb_W hcb, cb_Us hcb (show i < 4 by omega), ↓zln1, ↓zln2, zl0, zl1, zl2, zl3, zl4, zl5, zl6, zl7, zl8, zl9, zl10, zl12, zl15, zl16, zl20, zl24, zl30, zl32, zl36, zl40, zl48, zl57, zl59, zl60, zl61, zl97, zl99, zl120, zl121, zl122, zl126, zl165, zl255, zl480, zl968, zl1000, zl1100, zi_add, zi_mul, zi_sub, zi_div, zi_mod, zi_nat, zt_le, zf_le, zt_lt, zf_lt, zt_eq, zf_eq, zt_vp, zt_N1lt, zf_N1lt, zf_N1eq, zf_eqN1, zt_N1eq, zt_N1le, zf_leN1, zi_nN1, zi_a1, zi_a15, zi_a255, zi_shr, zi_bit, zt_b0, zt_b1, forall_eq, if_true, if_false, true_implies, false_implies, not_true_eq_false, not_false_eq_true, and_true, true_and, gI_sI_eq, gI_sI_ne, gI_sI_ne2, gL_sI, gR_sI, gI_sL, gL_sL_eq, gL_sL_ne, gL_sL_ne2, gR_sL, gI_sR, gL_sR, gR_sR_eq, gR_sR_ne, gR_sR_ne2, gI_aI_eq, gI_aI_ne, gL_aI, gR_aI]
      rw [zbits_t (p := fun o => zUs B o == 0) (by omega) (by show (zUs B i == 0) = true; rw [z]; rfl)]
      exact hc
    · simp (disch := omega) only [fX11_idle_L4, hb, hb0, cb_W hcb, cb_Us hcb (show i < 4 by omega), ↓zln1, ↓zln2, zl0, zl1, zl2, zl3, zl4, zl5, zl6, zl7, zl8, zl9, zl10, zl12, zl15, zl16, zl20, zl24, zl30, zl32, zl36, zl40, zl48, zl57, zl59, zl60, zl61, zl97, zl99, zl120, zl121, zl122, zl126, zl165, zl255, zl480, zl968, zl1000, zl1100, zi_add, zi_mul, zi_sub, zi_div, zi_mod, zi_nat, zt_le, zf_le, zt_lt, zf_lt, zt_eq, zf_eq, zt_vp, zt_N1lt, zf_N1lt, zf_N1eq, zf_eqN1, zt_N1eq, zt_N1le, zf_leN1, zi_nN1, zi_a1, zi_a15, zi_a255, zi_shr, zi_bit, zt_b0, zt_b1, forall_eq, if_true, if_false, true_implies, false_implies, not_true_eq_false, not_false_eq_true, and_true, true_and, gI_sI_eq, gI_sI_ne, gI_sI_ne2, gL_sI, gR_sI, gI_sL, gL_sL_eq, gL_sL_ne, gL_sL_ne2, gR_sL, gI_sR, gL_sR, gR_sR_eq, gR_sR_ne, gR_sR_ne2, gI_aI_eq, gI_aI_ne, gL_aI, gR_aI]
      have e : zbits (i + 1) (fun o => zUs B o == 0) = zbits i (fun o => zUs B o == 0) := zbits_s0 (beq_false_of_ne z)
      rw [← e]
      exact hc
/-- a row is bad: it does not go up or its count is not as told -/
def zbad (B : zBk) (S : Nat → Int32) (m : Nat → Nat) (r : Nat) : Bool := zDn B m r || zOf B S m r
theorem zTk_gp {B : zBk} {S : Nat → Int32} (hwf : zWF B) (hd : zHd B S) (r : Nat) : zTk B r (zdg (zgp S)) = zTk B r (zgf S) := by
  have h4 := wf_W hwf
  exact zsum_congr (fun o ho => by rw [zdg_gf hd (by omega)])
theorem zLv_gp {B : zBk} {S : Nat → Int32} (hwf : zWF B) (hd : zHd B S) (r : Nat) : zLv B r (zdg (zgp S)) = zLv B r (zgf S) := by
  have h4 := wf_W hwf
  exact zsum_congr (fun o ho => by rw [zdg_gf hd (by omega)])
theorem zTh_gp {B : zBk} {S : Nat → Int32} (hwf : zWF B) (hd : zHd B S) (r : Nat) : zTh B r (zdg (zgp S)) = zTh B r (zgf S) := by
  rw [zTh, zTh, zLv_gp hwf hd]
theorem zi_sub0 {a b : Nat} (ha : a < 2 ^ 31) (hb : b < 2 ^ 31) : Int32.ofNat a - Int32.ofNat b = 0 ↔ a = b := by
  constructor
  · intro q
    by_cases e : b ≤ a
    · rw [zi_sub e] at q
      have := (zi_eq (b := 0) (by omega) (by decide)).mp q
      omega
    · have q2 : Int32.ofNat a = Int32.ofNat b := by
        have := congrArg (fun t => t + Int32.ofNat b) q
        simp only [Int32.sub_add_cancel, Int32.zero_add] at this
        exact this
      exact (zi_eq ha hb).mp q2
  · intro q
    rw [q, Int32.sub_self]
theorem q11_bad {B : zBk} {S : Nat → Int32} {b : Nat} {w : zW} {k : Int32 → zW → Prop} (hwf : zWF B) (hcb : zCB B b w) (hd : zHd B S) (hS : ∀ i, i < 12 → gI w (9 + 1) i = S i) (hb : gR w 1 9 = b) (hb0 : ¬ b = 0)
    (h1 : (∀ o, o < bW B → ¬ S o = zN1) → k (zfind (bR B) (zbad B S (zgf S))) w) (h0 : (∃ o, o < bW B ∧ S o = zN1) → k zN1 w) : fX11_bad w k := by
  have h8 := wf_R hwf
  rw [fX11_bad, hb]
  refine ⟨hb0, ?_⟩
  rw [cb_W hcb]
  refine q3_allGuessed hwf hd hS (fun hall => ?_) (fun hno => ⟨fun q => absurd rfl q, fun _ => h0 hno⟩)
  refine ⟨fun _ => ?_, fun q => absurd q (by decide)⟩
  refine q3_packed hd hS ?_
  refine zinv (fun n (s : Int32) => fX11_bad_L29 k n (Int32.ofNat (zgp S)) s w) (fun i s => s = Int32.ofNat i ∧ ∀ j, j < i → zbad B S (zgf S) j = false) (bR B) ⟨rfl, fun j hj => absurd hj (Nat.not_lt_zero j)⟩ ?_ ?_
  · rintro n s ⟨rfl, hj⟩
    simp (disch := omega) only [fX11_bad_L29, hb, hb0, cb_R hcb, ↓zln1, ↓zln2, zl0, zl1, zl2, zl3, zl4, zl5, zl6, zl7, zl8, zl9, zl10, zl12, zl15, zl16, zl20, zl24, zl30, zl32, zl36, zl40, zl48, zl57, zl59, zl60, zl61, zl97, zl99, zl120, zl121, zl122, zl126, zl165, zl255, zl480, zl968, zl1000, zl1100, zi_add, zi_mul, zi_sub, zi_div, zi_mod, zi_nat, zt_le, zf_le, zt_lt, zf_lt, zt_eq, zf_eq, zt_vp, zt_N1lt, zf_N1lt, zf_N1eq, zf_eqN1, zt_N1eq, zt_N1le, zf_leN1, zi_nN1, zi_a1, zi_a15, zi_a255, zi_shr, zi_bit, zt_b0, zt_b1, forall_eq, if_true, if_false, true_implies, false_implies, not_true_eq_false, not_false_eq_true, and_true, true_and, gI_sI_eq, gI_sI_ne, gI_sI_ne2, gL_sI, gR_sI, gI_sL, gL_sL_eq, gL_sL_ne, gL_sL_ne2, gR_sL, gI_sR, gL_sR, gR_sR_eq, gR_sR_ne, gR_sR_ne2, gI_aI_eq, gI_aI_ne, gL_aI, gR_aI]
    have := h1 hall
    rw [zfind_none hj] at this
    exact this
  · rintro i n s hi ⟨rfl, hj⟩ hc
    have hp : zgp S < 2 ^ 31 := Nat.lt_trans (zgp_lt hd) (by decide)
    have hth := zTh_le hwf i (zgf S)
    have htk : zTk B i (zgf S) ≤ 120 := zTk_le hwf i _ _ (zgf_lt hd)
    have hlv : zLv B i (zgf S) ≤ 120 := zLv_le hwf i _ _
    have hgo : zOf B S (zgf S) i = false → fX11_bad_J72 k (fX11_bad_L29 k n) (Int32.ofNat (zgp S)) (Int32.ofNat i) (0 : Int32) w := by
      intro hof
      refine ⟨fun q => absurd rfl q, fun _ => ⟨by rw [hb]; exact hb0, ?_⟩⟩
      rw [hb]
      refine q0_excess hwf hcb hi hp ?_
      rw [zTk_gp hwf hd, zTh_gp hwf hd]
      refine ⟨fun q => ?_, fun q => ?_⟩
      · rw [zl1, zi_add]
        refine hc _ ⟨rfl, fun j hj' => ?_⟩
        by_cases e : j = i
        · rw [e, zbad, hof, zDn_f ((zi_sub0 (by omega) (by omega)).mp q)]
          rfl
        · exact hj j (by omega)
      · have hdn : zDn B (zgf S) i = true := zDn_t (fun z => q ((zi_sub0 (by omega) (by omega)).mpr z))
        have := h1 hall
        rw [zfind_some hi (by rw [zbad, hdn]; rfl) hj] at this
        exact this
    rw [fX11_bad_L29]
    try dsimp only
    rw [hb]
    refine ⟨hb0, ?_⟩
    rw [cb_R hcb]
    refine ⟨fun q => absurd q (zi_nge hi (by omega)), fun _ => ?_⟩
    refine q3_countOf (by omega) ?_
    rw [hS (4 + i) (by omega)]
    refine ⟨fun q => hgo (zOf_f1 q), fun q => ⟨by rw [hb]; exact hb0, ?_⟩⟩
    rw [hb]
    refine q0_leavesOf hwf hcb hi hp ?_
    rw [zLv_gp hwf hd]
    intro v15 e15
    by_cases z : S (4 + i) = Int32.ofNat (zLv B i (zgf S))
    · rw [if_pos z.symm] at e15
      subst e15
      exact hgo (zOf_f2 z)
    · rw [if_neg (fun y => z y.symm)] at e15
      subst e15
      refine ⟨fun _ => ?_, fun y => absurd y (by decide)⟩
      have := h1 hall
      rw [zfind_some hi (by rw [zbad, zOf_t q z, Bool.or_true]) hj] at this
      exact this
/-- from the last row on down -/
theorem q12_badNow {B : zBk} {S : Nat → Int32} {m : Nat → Nat} {w : zW} {k : Int32 → zW → Prop} (hwf : zWF B) (hR : gI w 210 2 = Int32.ofNat (bR B)) (h29 : gI w 200 29 = Int32.ofNat (zbits (bR B) (fun r => !zDn B m r))) (h30 : gI w 200 30 = Int32.ofNat (zof B S m)) (hk : k (zfind (bR B) (zbad B S m)) w) : fX12_badNow w k := by
  have h8 := wf_R hwf
  rw [fX12_badNow, fX12_rows, show (2 : Int32).toNatClampNeg = 2 from rfl, hR]
  intro v2 e2
  have hl1 := zbits_lt (bR B) (fun r => !zDn B m r)
  have hl2 := zbits_lt (bR B) (zOf B S m)
  have h256 : 2 ^ bR B ≤ 256 := Nat.pow_le_pow_right (n := 2) (by omega) h8
  refine zinv (fun n (s : Int32 × Int32) => fX12_badNow_L9 k n s.1 s.2 w) (fun i s => s.2 = (if i = bR B then zN1 else Int32.ofNat (bR B - 1 - i)) ∧ ((s.1 = zN1 ∧ ∀ j, bR B - i ≤ j → j < bR B → zbad B S m j = false) ∨ ∃ c, bR B - i ≤ c ∧ c < bR B ∧ s.1 = Int32.ofNat c ∧ zbad B S m c = true ∧ ∀ j, bR B - i ≤ j → j < c → zbad B S m j = false)) (bR B) (s0 := ((-1 : Int32), v2)) ⟨?_, Or.inl ⟨rfl, fun j q1 q2 => by omega⟩⟩ ?_ ?_
  · show v2 = _
    rw [e2]
    by_cases q : 0 = bR B
    · rw [if_pos q, ← q]; rfl
    · rw [if_neg q, zl1, zi_sub (by omega)]
      rfl
  · rintro n ⟨f, c⟩ ⟨hc, hf⟩
    have hc2 : c = zN1 := by rw [if_pos rfl] at hc; exact hc
    subst hc2
    show fX12_badNow_L9 k (n + 1) f zN1 w
    rw [fX12_badNow_L9]
    try dsimp only
    refine ⟨fun _ => ?_, fun q => absurd zN1_lt q⟩
    rcases hf with ⟨q1, q2⟩ | ⟨c, q1, q2, q3, q4, q5⟩
    · have e : f = zN1 := q1
      rw [e, ← zfind_none (n := bR B) (fun j hj => q2 j (by omega) hj)]
      exact hk
    · have e : f = Int32.ofNat c := q3
      rw [e, ← zfind_some q2 q4 (fun j hj => q5 j (by omega) hj)]
      exact hk
  · rintro i n ⟨f, c⟩ hi ⟨hc, hf⟩ hnext
    have hc2 : c = Int32.ofNat (bR B - 1 - i) := by rw [if_neg (by omega)] at hc; exact hc
    subst hc2
    generalize hj : bR B - 1 - i = j at *
    have hjR : j < bR B := by omega
    have hstep : ∀ f', ((zbad B S m j = false ∧ f' = f) ∨ (zbad B S m j = true ∧ f' = Int32.ofNat j)) → fX12_badNow_L9 k n f' (Int32.ofNat j + (-1 : Int32)) w := by
      intro f' hf'
      refine hnext (f', Int32.ofNat j + (-1 : Int32)) ⟨?_, ?_⟩
      · show Int32.ofNat j + (-1 : Int32) = _
        by_cases z : i + 1 = bR B
        · rw [if_pos z, show j = 0 by omega]; rfl
        · rw [if_neg z, show bR B - 1 - (i + 1) = j - 1 by omega]
          have e : Int32.ofNat j = Int32.ofNat (j - 1) + 1 := by rw [zi_succ]; exact congrArg _ (by omega)
          rw [e, Int32.add_assoc, show (1 : Int32) + (-1) = 0 from rfl, Int32.add_zero]
      · rcases hf' with ⟨z1, z2⟩ | ⟨z1, z2⟩
        · rcases hf with ⟨q1, q2⟩ | ⟨c, q1, q2, q3, q4, q5⟩
          · refine Or.inl ⟨z2.trans q1, fun j' y1 y2 => ?_⟩
            by_cases y : j' = j
            · rw [y]; exact z1
            · exact q2 j' (by omega) y2
          · refine Or.inr ⟨c, by omega, q2, z2.trans q3, q4, fun j' y1 y2 => ?_⟩
            by_cases y : j' = j
            · rw [y]; exact z1
            · exact q5 j' (by omega) y2
        · exact Or.inr ⟨j, by omega, hjR, z2, z1, fun j' y1 y2 => by omega⟩
    have b29 : ((gI w 200 29) >>> (Int32.ofNat j &&& 31)) &&& (1 : Int32) = Int32.ofNat (if (!zDn B m j) = true then 1 else 0) := by
      rw [h29, zi_shr (by omega) (by omega), zi_and1, zbits_get (fun r => !zDn B m r) hjR]
    have b30 : ((gI w 200 30) >>> (Int32.ofNat j &&& 31)) &&& (1 : Int32) = Int32.ofNat (if zOf B S m j = true then 1 else 0) := by
      rw [h30, zof, zi_shr (by omega) (by omega), zi_and1, zbits_get (zOf B S m) hjR]
    show fX12_badNow_L9 k (n + 1) f (Int32.ofNat j) w
    rw [fX12_badNow_L9]
    try dsimp only
    rw [b29, b30]
    refine ⟨fun q => absurd q (zi_0le (by omega)), fun _ => ?_⟩
    by_cases hdn : zDn B m j = true
    · rw [if_neg (by rw [hdn]; decide)]
      refine ⟨fun _ => hstep _ (Or.inr ⟨by rw [zbad, hdn]; rfl, rfl⟩), fun q => absurd rfl q⟩
    · have hdn' := eq_false_of_ne_true hdn
      rw [if_pos (by rw [hdn']; rfl)]
      refine ⟨fun q => absurd q (by decide), fun _ => ?_⟩
      intro v5 e5
      by_cases hof : zOf B S m j = true
      · rw [if_pos hof, if_neg (fun q => q rfl)] at e5
        rw [e5]
        exact hstep _ (Or.inr ⟨by rw [zbad, hof, Bool.or_true], rfl⟩)
      · rw [if_neg hof, if_pos (by decide)] at e5
        rw [e5]
        exact hstep _ (Or.inl ⟨by rw [zbad, hdn', eq_false_of_ne_true hof]; rfl, rfl⟩)
/-- cells that a dictionary's going through may change -/
theorem zInv_go {B : zBk} {S : Nat → Int32} {N : zNt} {b nn : Nat} {w v : zW} (h : zInv B S N b nn w) (h2 : v.2 = w.2) (hf : ∀ a c, a ≠ 227 → a ≠ 228 → (a = 200 → c ≠ 29 ∧ c ≠ 30) → gI v a c = gI w a c) : zInv B S N b nn v :=
  zInv_of h (fun a c q => hf a c (by unfold zkeep at q; omega) (by unfold zkeep at q; omega) (by unfold zkeep at q; omega)) h2
theorem c_bad {B : zBk} {S : Nat → Int32} {N : zNt} {b nn : Nat} {w : zW} {k k0 : zW → Prop} (h : zInv B S N b nn w) (hk : ∀ v, zInv B S N b nn v → zfl w v → k v) : fX11_bad w (fun r1 w1 => fX12_bad w1 (fun r2 w2 => (r1 = r2 → k w2) ∧ (¬ r1 = r2 → k0 w2))) := by
  have hwf := iv_wf h
  have hha := iv_ha h
  have hb := (iv_re h).2.1
  have hb0 : ¬ b = 0 := by have := (iv_re h).1; omega
  have ht := zInv_t h 0
  refine q11_bad hwf (iv_cb h) hha.1 hha.2.2 hb hb0 (fun hall => ?_) (fun hno => ?_)
  · intro w1 e
    subst e
    refine q12_isGuessed hwf (iv_rb ht) hha.1 (iv_ha ht).2.1 (fun _ v v2 vf v29 v30 vb vm => ?_) (fun ⟨o, o1, o2⟩ => absurd o2 (hall o o1))
    refine ⟨fun q => absurd q (by decide), fun _ => ?_⟩
    refine q12_badNow hwf (by rw [vf 210 2 (by omega) (by omega) (by omega)]; exact rb_R (iv_rb ht)) v29 v30 ?_
    exact zc_same (hk v (zInv_go ht v2 vf) ⟨by rw [vf 0 140 (by omega) (by omega) (by omega)]; rfl, zr2 v2 24 4⟩)
  · intro w1 e
    subst e
    refine q12_isGuessed hwf (iv_rb ht) hha.1 (iv_ha ht).2.1 (fun hall => ?_) (fun _ v v2 vf => ?_)
    · obtain ⟨o, o1, o2⟩ := hno
      exact absurd o2 (hall o o1)
    · refine ⟨fun _ => ?_, fun q => absurd rfl q⟩
      exact zc_same (hk v (zInv_go ht v2 (fun a c q1 _ _ => vf a c q1)) ⟨by rw [vf 0 140 (by omega)]; rfl, zr2 v2 24 4⟩)
theorem c_behind {B : zBk} {S : Nat → Int32} {N : zNt} {b nn : Nat} {x : Int32} {w : zW} {k k0 : zW → Prop} (h : zInv B S N b nn w) (hk : ∀ v, zInv B S N b nn v → zfl w v → k v) : fX11_behind x w (fun r1 w1 => fX12_behind x w1 (fun r2 w2 => (r1 = r2 → k w2) ∧ (¬ r1 = r2 → k0 w2))) := by
  have hwf := iv_wf h
  have hha := iv_ha h
  have h8 := wf_R hwf
  have hb := (iv_re h).2.1
  have hb0 : ¬ b = 0 := by have := (iv_re h).1; omega
  have ht := zInv_t h 0
  have hkv := hk _ ht ⟨rfl, rfl⟩
  rw [fX11_behind]
  rcases zi_cases x with hx | ⟨a, ha, rfl⟩
  · refine q11_isRowN hx ⟨fun _ => ⟨fun _ => ?_, fun q => absurd rfl q⟩, fun q => absurd rfl q⟩
    intro w1 e
    subst e
    exact q12_isRowN hx ⟨fun _ => zc_same hkv, fun q => absurd rfl q⟩
  · refine q11_isRow hwf hb hb0 (cb_R (iv_cb h)) ha ?_
    by_cases ho : a < bR B
    · rw [if_pos ho]
      refine ⟨fun q => absurd q (by decide), fun _ => ⟨by rw [hb]; exact hb0, ?_⟩⟩
      rw [hb, cb_W (iv_cb h)]
      refine q3_allGuessed hwf hha.1 hha.2.2 (fun hall => ?_) (fun hno => ?_)
      · intro v9 e9
        obtain rfl : v9 = _ := e9.trans (if_neg (by decide))
        refine ⟨fun q => absurd q (by decide), fun _ => ⟨by rw [hb]; exact hb0, ?_⟩⟩
        refine q3_packed hha.1 hha.2.2 ?_
        rw [hb]
        refine q0_leavesOf hwf (iv_cb h) ho (Nat.lt_trans (zgp_lt hha.1) (by decide)) ?_
        rw [zLv_gp hwf hha.1]
        intro w1 e
        subst e
        refine q12_isRow hwf (rb_R (iv_rb ht)) ha ?_
        rw [if_pos ho]
        refine ⟨fun q => absurd q (by decide), fun _ => ?_⟩
        refine q12_isGuessed hwf (iv_rb ht) hha.1 (iv_ha ht).2.1 (fun _ v v2 vf v29 v30 vb vm => ?_) (fun ⟨o, o1, o2⟩ => absurd o2 (hall o o1))
        refine ⟨fun q => absurd q (by decide), fun _ => ⟨zi_in (by omega) ha, ?_⟩⟩
        rw [zi_nat ha, vb a ho]
        exact zc_same (hk v (zInv_go ht v2 vf) ⟨by rw [vf 0 140 (by omega) (by omega) (by omega)]; rfl, zr2 v2 24 4⟩)
      · intro v9 e9
        obtain rfl : v9 = _ := e9.trans (if_pos rfl)
        refine ⟨fun _ => ?_, fun q => absurd rfl q⟩
        intro w1 e
        subst e
        refine q12_isRow hwf (rb_R (iv_rb ht)) ha ?_
        rw [if_pos ho]
        refine ⟨fun q => absurd q (by decide), fun _ => ?_⟩
        refine q12_isGuessed hwf (iv_rb ht) hha.1 (iv_ha ht).2.1 (fun hall => ?_) (fun _ v v2 vf => ?_)
        · obtain ⟨o, o1, o2⟩ := hno
          exact absurd o2 (hall o o1)
        · refine ⟨fun _ => ?_, fun q => absurd rfl q⟩
          exact zc_same (hk v (zInv_go ht v2 (fun a c q1 _ _ => vf a c q1)) ⟨by rw [vf 0 140 (by omega)]; rfl, zr2 v2 24 4⟩)
    · rw [if_neg ho]
      refine ⟨fun _ => ⟨fun _ => ?_, fun q => absurd rfl q⟩, fun q => absurd rfl q⟩
      intro w1 e
      subst e
      refine q12_isRow hwf (rb_R (iv_rb ht)) ha ?_
      rw [if_neg ho]
      exact ⟨fun _ => zc_same hkv, fun q => absurd rfl q⟩
theorem c_off {B : zBk} {S : Nat → Int32} {N : zNt} {b nn : Nat} {w : zW} {k k0 : zW → Prop} (h : zInv B S N b nn w) (hk : ∀ v, zInv B S N b nn v → zfl w v → k v) : fX11_off w (fun r1 w1 => fX12_off w1 (fun r2 w2 => (r1 = r2 → k w2) ∧ (¬ r1 = r2 → k0 w2))) := by
  have hwf := iv_wf h
  have hha := iv_ha h
  have h4 := wf_W hwf
  have h8 := wf_R hwf
  have hb := (iv_re h).2.1
  have hb0 : ¬ b = 0 := by have := (iv_re h).1; omega
  have ht := zInv_t h 0
  have hrb1 := iv_rb ht
  rw [fX11_off]
  refine q11_bad hwf (iv_cb h) hha.1 hha.2.2 hb hb0 (fun hall => ?_) (fun hno => ?_)
  · rcases zfind_or (bR B) (zbad B S (zgf S)) with ⟨e, hn⟩ | ⟨i, hi, e, hp, hn⟩
    · rw [e]
      refine ⟨fun q => absurd rfl q, fun _ => ?_⟩
      intro w1 e1
      subst e1
      refine q12_isGuessed hwf hrb1 hha.1 (iv_ha ht).2.1 (fun _ v v2 vf v29 v30 vb vm => ?_) (fun ⟨o, o1, o2⟩ => absurd o2 (hall o o1))
      refine ⟨fun q => absurd q (by decide), fun _ => ?_⟩
      refine q12_badNow hwf (by rw [vf 210 2 (by omega) (by omega) (by omega)]; exact rb_R hrb1) v29 v30 ?_
      rw [e]
      refine ⟨fun q => absurd q (by decide), fun _ => ?_⟩
      exact zc_same (hk v (zInv_go ht v2 vf) ⟨by rw [vf 0 140 (by omega) (by omega) (by omega)]; rfl, zr2 v2 24 4⟩)
    · rw [e]
      refine ⟨fun _ => ⟨by rw [hb]; exact hb0, ?_⟩, fun q => absurd q (zN1_ne (by omega))⟩
      refine q3_packed hha.1 hha.2.2 ?_
      rw [hb]
      refine q0_excess hwf (iv_cb h) hi (Nat.lt_trans (zgp_lt hha.1) (by decide)) ?_
      rw [zTk_gp hwf hha.1, zTh_gp hwf hha.1]
      intro w1 e1
      subst e1
      refine q12_isGuessed hwf hrb1 hha.1 (iv_ha ht).2.1 (fun _ v v2 vf v29 v30 vb vm => ?_) (fun ⟨o, o1, o2⟩ => absurd o2 (hall o o1))
      refine ⟨fun q => absurd q (by decide), fun _ => ?_⟩
      refine q12_badNow hwf (by rw [vf 210 2 (by omega) (by omega) (by omega)]; exact rb_R hrb1) v29 v30 ?_
      rw [e]
      refine ⟨fun _ => ?_, fun q => absurd (Int32.not_lt.mp (zi_0le (by omega))) q⟩
      have hkv := hk v (zInv_go ht v2 vf) ⟨by rw [vf 0 140 (by omega) (by omega) (by omega)]; rfl, zr2 v2 24 4⟩
      have hW : gI v 210 0 = Int32.ofNat (bW B) := by rw [vf 210 0 (by omega) (by omega) (by omega)]; exact rb_W hrb1
      have hC : gI v 210 1 = Int32.ofNat (bC B) := by rw [vf 210 1 (by omega) (by omega) (by omega)]; exact rb_C hrb1
      have hU : ∀ o, o < 4 → gI v 225 (4 * i + o) = Int32.ofNat (bU B i o) := fun o ho => by rw [vf 225 _ (by omega) (by omega) (by omega)]; exact rb_U hrb1 (by omega) ho
      refine zrun (fun n (s : Int32 × Int32) => fX12_off_L31 _ n (Int32.ofNat i) s.1 s.2 v) (fun j => (Int32.ofNat (zsum j (fun o => bU B i o * (zgf S o / 3))), Int32.ofNat j)) (bW B) (fun n => ?_) (fun j n hj hc => ?_)
      · by_cases z : i = 0
        · subst z
          simp (disch := omega) only [fX12_off_L31, fX12_wordsTold, hW, hC, ↓zln1, ↓zln2, zl0, zl1, zl2, zl3, zl4, zl5, zl6, zl7, zl8, zl9, zl10, zl12, zl15, zl16, zl20, zl24, zl30, zl32, zl36, zl40, zl48, zl57, zl59, zl60, zl61, zl97, zl99, zl120, zl121, zl122, zl126, zl165, zl255, zl480, zl968, zl1000, zl1100, zi_add, zi_mul, zi_sub, zi_div, zi_mod, zi_nat, zt_le, zf_le, zt_lt, zf_lt, zt_eq, zf_eq, zt_vp, zt_N1lt, zf_N1lt, zf_N1eq, zf_eqN1, zt_N1eq, zt_N1le, zf_leN1, zi_nN1, zi_a1, zi_a15, zi_a255, zi_shr, zi_bit, zt_b0, zt_b1, forall_eq, if_true, if_false, true_implies, false_implies, not_true_eq_false, not_false_eq_true, and_true, true_and, gI_sI_eq, gI_sI_ne, gI_sI_ne2, gL_sI, gR_sI, gI_sL, gL_sL_eq, gL_sL_ne, gL_sL_ne2, gR_sL, gI_sR, gL_sR, gR_sR_eq, gR_sR_ne, gR_sR_ne2, gI_aI_eq, gI_aI_ne, gL_aI, gR_aI]
          first | exact zc_same hkv | exact hkv
        · simp (disch := omega) only [fX12_off_L31, fX12_wordsTold, hW, vb (i - 1) (by omega), ↓zln1, ↓zln2, zl0, zl1, zl2, zl3, zl4, zl5, zl6, zl7, zl8, zl9, zl10, zl12, zl15, zl16, zl20, zl24, zl30, zl32, zl36, zl40, zl48, zl57, zl59, zl60, zl61, zl97, zl99, zl120, zl121, zl122, zl126, zl165, zl255, zl480, zl968, zl1000, zl1100, zi_add, zi_mul, zi_sub, zi_div, zi_mod, zi_nat, zt_le, zf_le, zt_lt, zf_lt, zt_eq, zf_eq, zt_vp, zt_N1lt, zf_N1lt, zf_N1eq, zf_eqN1, zt_N1eq, zt_N1le, zf_leN1, zi_nN1, zi_a1, zi_a15, zi_a255, zi_shr, zi_bit, zt_b0, zt_b1, forall_eq, if_true, if_false, true_implies, false_implies, not_true_eq_false, not_false_eq_true, and_true, true_and, gI_sI_eq, gI_sI_ne, gI_sI_ne2, gL_sI, gR_sI, gI_sL, gL_sL_eq, gL_sL_ne, gL_sL_ne2, gR_sL, gI_sR, gL_sR, gR_sR_eq, gR_sR_ne, gR_sR_ne2, gI_aI_eq, gI_aI_ne, gL_aI, gR_aI]
          rw [zTh, if_neg z]
          first | exact zc_same hkv | exact hkv
      · have hg := zgf_lt hha.1 j
        simp (disch := omega) only [fX12_off_L31, fX12_wordsTold, hW, hU j (by omega), vm j hj, ↓zln1, ↓zln2, zl0, zl1, zl2, zl3, zl4, zl5, zl6, zl7, zl8, zl9, zl10, zl12, zl15, zl16, zl20, zl24, zl30, zl32, zl36, zl40, zl48, zl57, zl59, zl60, zl61, zl97, zl99, zl120, zl121, zl122, zl126, zl165, zl255, zl480, zl968, zl1000, zl1100, zi_add, zi_mul, zi_sub, zi_div, zi_mod, zi_nat, zt_le, zf_le, zt_lt, zf_lt, zt_eq, zf_eq, zt_vp, zt_N1lt, zf_N1lt, zf_N1eq, zf_eqN1, zt_N1eq, zt_N1le, zf_leN1, zi_nN1, zi_a1, zi_a15, zi_a255, zi_shr, zi_bit, zt_b0, zt_b1, forall_eq, if_true, if_false, true_implies, false_implies, not_true_eq_false, not_false_eq_true, and_true, true_and, gI_sI_eq, gI_sI_ne, gI_sI_ne2, gL_sI, gR_sI, gI_sL, gL_sL_eq, gL_sL_ne, gL_sL_ne2, gR_sL, gI_sR, gL_sR, gR_sR_eq, gR_sR_ne, gR_sR_ne2, gI_aI_eq, gI_aI_ne, gL_aI, gR_aI]
        exact hc
  · refine ⟨fun q => absurd rfl q, fun _ => ?_⟩
    intro w1 e1
    subst e1
    refine q12_isGuessed hwf hrb1 hha.1 (iv_ha ht).2.1 (fun hall => ?_) (fun _ v v2 vf => ?_)
    · obtain ⟨o, o1, o2⟩ := hno
      exact absurd o2 (hall o o1)
    · refine ⟨fun _ => ⟨fun q => absurd q (by decide), fun _ => ?_⟩, fun q => absurd rfl q⟩
      exact zc_same (hk v (zInv_go ht v2 (fun a c q1 _ _ => vf a c q1)) ⟨by rw [vf 0 140 (by omega)]; rfl, zr2 v2 24 4⟩)

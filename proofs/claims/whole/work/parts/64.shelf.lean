/-! Level 2: the class's dictionaries -/
theorem q8_packDigits {B : zBk} {b i : Nat} {w : zW} {k : Int32 → zW → Prop} (hwf : zWF B) (hcb : zCB B b w) (hb : gR w 24 9 = b) (hb0 : ¬ b = 0) (hi : i < (zAL B).length) (hdig : ∀ o, o < bW B → gI w 28 o = Int32.ofNat (zdig (fun o => zcnt 9 (bMn B o)) (bW B) i o))
    (hk : k (Int32.ofNat (zpd (bW B) ((zAL B).getD i 0))) w) : fX8_packDigits w k := by
  have h4 := wf_W hwf
  have hpos : ∀ o, o < bW B → 0 < zcnt 9 (bMn B o) := zprod_pos (by rw [← zAL_len]; omega)
  have hm : ∀ o, o < bW B → zdm (bW B) ((zAL B).getD i 0) o = (zml (bMn B o)).getD (zdig (fun o => zcnt 9 (bMn B o)) (bW B) i o) 0 := zALn_get B (bW B) i hi
  have hdl : ∀ o, o < bW B → zdig (fun o => zcnt 9 (bMn B o)) (bW B) i o < zcnt 9 (bMn B o) := fun o ho => zdig_lt ho hpos
  refine zrun (fun n (s : Int32 × Int32) => fX8_packDigits_L4 k n s.1 s.2 w) (fun j => (Int32.ofNat (zpk j (zdm (bW B) ((zAL B).getD i 0))), Int32.ofNat j)) (bW B) (fun n => ?_) (fun j n hj hc => ?_)
  · rw [← zpd_W hwf]
    simp (disch := omega) only [fX8_packDigits_L4, hb, hb0, cb_W hcb, ↓zln1, ↓zln2, zl0, zl1, zl2, zl3, zl4, zl5, zl6, zl7, zl8, zl9, zl10, zl12, zl15, zl16, zl20, zl24, zl30, zl32, zl36, zl40, zl48, zl57, zl59, zl60, zl61, zl97, zl99, zl120, zl121, zl122, zl126, zl165, zl255, zl480, zl968, zl1000, zl1100, zi_add, zi_mul, zi_sub, zi_div, zi_mod, zi_nat, zt_le, zf_le, zt_lt, zf_lt, zt_eq, zf_eq, zt_vp, zt_N1lt, zf_N1lt, zf_N1eq, zf_eqN1, zt_N1eq, zt_N1le, zf_leN1, zi_nN1, zi_a1, zi_a15, zi_a255, zi_shr, zi_bit, zt_b0, zt_b1, forall_eq, if_true, if_false, true_implies, false_implies, not_true_eq_false, not_false_eq_true, and_true, true_and, gI_sI_eq, gI_sI_ne, gI_sI_ne2, gL_sI, gR_sI, gI_sL, gL_sL_eq, gL_sL_ne, gL_sL_ne2, gR_sL, gI_sR, gL_sR, gR_sR_eq, gR_sR_ne, gR_sR_ne2, gI_aI_eq, gI_aI_ne, gL_aI, gR_aI]
    exact hk
  · have h9 := zcnt_le 9 (bMn B j)
    have hdj := hdl j hj
    have hmj : zdm (bW B) ((zAL B).getD i 0) j = (zml (bMn B j)).getD (zdig (fun o => zcnt 9 (bMn B o)) (bW B) i j) 0 := hm j hj
    simp (disch := omega) only [fX8_packDigits_L4, hb, hb0, cb_W hcb, hdig j hj, cb_ml hcb hj hdj, ↓zln1, ↓zln2, zl0, zl1, zl2, zl3, zl4, zl5, zl6, zl7, zl8, zl9, zl10, zl12, zl15, zl16, zl20, zl24, zl30, zl32, zl36, zl40, zl48, zl57, zl59, zl60, zl61, zl97, zl99, zl120, zl121, zl122, zl126, zl165, zl255, zl480, zl968, zl1000, zl1100, zi_add, zi_mul, zi_sub, zi_div, zi_mod, zi_nat, zt_le, zf_le, zt_lt, zf_lt, zt_eq, zf_eq, zt_vp, zt_N1lt, zf_N1lt, zf_N1eq, zf_eqN1, zt_N1eq, zt_N1le, zf_leN1, zi_nN1, zi_a1, zi_a15, zi_a255, zi_shr, zi_bit, zt_b0, zt_b1, forall_eq, if_true, if_false, true_implies, false_implies, not_true_eq_false, not_false_eq_true, and_true, true_and, gI_sI_eq, gI_sI_ne, gI_sI_ne2, gL_sI, gR_sI, gI_sL, gL_sL_eq, gL_sL_ne, gL_sL_ne2, gR_sL, gI_sR, gL_sR, gR_sR_eq, gR_sR_ne, gR_sR_ne2, gI_aI_eq, gI_aI_ne, gL_aI, gR_aI]
    rw [← hmj, zpk_or (m := zdm (bW B) ((zAL B).getD i 0)) (fun o => by have := zdm_lt (bW B) ((zAL B).getD i 0) o; omega) (by omega)]
    exact hc
theorem q8_nextDigits {B : zBk} {b i : Nat} {w : zW} {k : zW → Prop} (hwf : zWF B) (hcb : zCB B b w) (hbb : b = 40 ∨ b = 80) (hb : gR w 24 9 = b) (hpos : ∀ o, o < bW B → 0 < zcnt 9 (bMn B o)) (hdig : ∀ o, o < bW B → gI w 28 o = Int32.ofNat (zdig (fun o => zcnt 9 (bMn B o)) (bW B) i o))
    (hk : ∀ v : zW, v.2 = w.2 → (∀ a c, a ≠ 28 → gI v a c = gI w a c) → (∀ o, o < bW B → gI v 28 o = Int32.ofNat (zdig (fun o => zcnt 9 (bMn B o)) (bW B) (i + 1) o)) → k v) : fX8_nextDigits w k := by
  have h4 := wf_W hwf
  have hb0 : ¬ b = 0 := by omega
  -- so many words are left
  have hgo : ∀ (c n : Nat) (ic : Nat) (v : zW), c ≤ bW B → c < n → v.2 = w.2 → (∀ a d, a ≠ 28 → gI v a d = gI w a d) →
      (∀ o, o < c → gI v 28 o = Int32.ofNat (zdig (fun o => zcnt 9 (bMn B o)) c ic o)) →
      (∀ o, c ≤ o → o < bW B → gI v 28 o = Int32.ofNat (zdig (fun o => zcnt 9 (bMn B o)) (bW B) (i + 1) o)) →
      (∀ o, o < c → zdig (fun o => zcnt 9 (bMn B o)) (bW B) (i + 1) o = zdig (fun o => zcnt 9 (bMn B o)) c (ic + 1) o) →
      fX8_nextDigits_L14 k n (if c = 0 then zN1 else Int32.ofNat (c - 1)) v := by
    intro c
    induction c with
    | zero =>
      intro n ic v hc hn v2 vf vlo vhi heq
      obtain ⟨n, rfl⟩ : ∃ m, n = m + 1 := ⟨n - 1, by omega⟩
      rw [if_pos rfl, fX8_nextDigits_L14]
      exact ⟨fun _ => hk v v2 vf (fun o ho => vhi o (Nat.zero_le o) ho), fun q => absurd zN1_lt q⟩
    | succ c ih =>
      intro n ic v hc hn v2 vf vlo vhi heq
      obtain ⟨n, rfl⟩ : ∃ m, n = m + 1 := ⟨n - 1, by omega⟩
      rw [if_neg (by omega), Nat.add_sub_cancel]
      have h9 := zcnt_le 9 (bMn B c)
      have hp := hpos c (by omega)
      have hd : gI v 28 c = Int32.ofNat (ic % zcnt 9 (bMn B c)) := by
        rw [vlo c (by omega), zdig, if_pos rfl]
      have hml := Nat.mod_lt ic hp
      have hR : gR v 24 9 = b := by rw [show gR v 24 9 = gR w 24 9 by rw [gR, gR, v2]]; exact hb
      have hz : gI v (b + 4) c = Int32.ofNat (zcnt 9 (bMn B c)) := by rw [vf _ _ (by omega)]; exact cb_Sz hcb (by omega)
      have hlow : ∀ o, o < c → zdig (fun o => zcnt 9 (bMn B o)) (c + 1) ic o = zdig (fun o => zcnt 9 (bMn B o)) c (ic / zcnt 9 (bMn B c)) o := fun o ho => by rw [zdig, if_neg (by omega)]
      have hlow1 : ∀ o, o < c → zdig (fun o => zcnt 9 (bMn B o)) (c + 1) (ic + 1) o = zdig (fun o => zcnt 9 (bMn B o)) c ((ic + 1) / zcnt 9 (bMn B c)) o := fun o ho => by rw [zdig, if_neg (by omega)]
      have htop1 : zdig (fun o => zcnt 9 (bMn B o)) (c + 1) (ic + 1) c = (ic + 1) % zcnt 9 (bMn B c) := by rw [zdig, if_pos rfl]
      have hdm := Nat.div_add_mod ic (zcnt 9 (bMn B c))
      by_cases q : ic % zcnt 9 (bMn B c) + 1 < zcnt 9 (bMn B c)
      · have e1 : (ic + 1) % zcnt 9 (bMn B c) = ic % zcnt 9 (bMn B c) + 1 := by
          rw [Nat.add_mod]
          by_cases z : zcnt 9 (bMn B c) = 1
          · omega
          · rw [Nat.mod_eq_of_lt (show 1 < zcnt 9 (bMn B c) by omega), Nat.mod_eq_of_lt q]
        have e2 : (ic + 1) / zcnt 9 (bMn B c) = ic / zcnt 9 (bMn B c) := by
          rw [← hdm, Nat.add_assoc, Nat.mul_add_div hp, Nat.div_eq_of_lt q, Nat.add_zero, hdm]
        simp (disch := omega) only [fX8_nextDigits_L14, hd, hR, hb0, hz, ↓zln1, ↓zln2, zl0, zl1, zl2, zl3, zl4, zl5, zl6, zl7, zl8, zl9, zl10, zl12, zl15, zl16, zl20, zl24, zl30, zl32, zl36, zl40, zl48, zl57, zl59, zl60, zl61, zl97, zl99, zl120, zl121, zl122, zl126, zl165, zl255, zl480, zl968, zl1000, zl1100, zi_add, zi_mul, zi_sub, zi_div, zi_mod, zi_nat, zt_le, zf_le, zt_lt, zf_lt, zt_eq, zf_eq, zt_vp, zt_N1lt, zf_N1lt, zf_N1eq, zf_eqN1, zt_N1eq, zt_N1le, zf_leN1, zi_nN1, zi_a1, zi_a15, zi_a255, zi_shr, zi_bit, zt_b0, zt_b1, forall_eq, if_true, if_false, true_implies, false_implies, not_true_eq_false, not_false_eq_true, and_true, true_and, gI_sI_eq, gI_sI_ne, gI_sI_ne2, gL_sI, gR_sI, gI_sL, gL_sL_eq, gL_sL_ne, gL_sL_ne2, gR_sL, gI_sR, gL_sR, gR_sR_eq, gR_sR_ne, gR_sR_ne2, gI_aI_eq, gI_aI_ne, gL_aI, gR_aI]
        refine hk _ v2 (fun a d z => by rw [gI_sI_ne z]; exact vf a d z) (fun o ho => ?_)
        by_cases z : o = c
        · rw [z, gI_sI_eq, heq c (by omega), htop1, e1]
        · rw [gI_sI_ne2 z]
          by_cases y : o < c
          · rw [vlo o (by omega), hlow o y, heq o (by omega), hlow1 o y, e2]
          · exact vhi o (by omega) ho
      · have e0 : ic % zcnt 9 (bMn B c) + 1 = zcnt 9 (bMn B c) := by omega
        have e1 : (ic + 1) % zcnt 9 (bMn B c) = 0 := by
          rw [← hdm, Nat.add_assoc, e0, Nat.mul_add_mod, Nat.mod_self]
        have e2 : (ic + 1) / zcnt 9 (bMn B c) = ic / zcnt 9 (bMn B c) + 1 := by
          rw [← hdm, Nat.add_assoc, e0, Nat.mul_add_div hp, Nat.div_self hp, hdm]
        simp (disch := omega) only [fX8_nextDigits_L14, hd, hR, hb0, hz, ↓zln1, ↓zln2, zl0, zl1, zl2, zl3, zl4, zl5, zl6, zl7, zl8, zl9, zl10, zl12, zl15, zl16, zl20, zl24, zl30, zl32, zl36, zl40, zl48, zl57, zl59, zl60, zl61, zl97, zl99, zl120, zl121, zl122, zl126, zl165, zl255, zl480, zl968, zl1000, zl1100, zi_add, zi_mul, zi_sub, zi_div, zi_mod, zi_nat, zt_le, zf_le, zt_lt, zf_lt, zt_eq, zf_eq, zt_vp, zt_N1lt, zf_N1lt, zf_N1eq, zf_eqN1, zt_N1eq, zt_N1le, zf_leN1, zi_nN1, zi_a1, zi_a15, zi_a255, zi_shr, zi_bit, zt_b0, zt_b1, forall_eq, if_true, if_false, true_implies, false_implies, not_true_eq_false, not_false_eq_true, and_true, true_and, gI_sI_eq, gI_sI_ne, gI_sI_ne2, gL_sI, gR_sI, gI_sL, gL_sL_eq, gL_sL_ne, gL_sL_ne2, gR_sL, gI_sR, gL_sR, gR_sR_eq, gR_sR_ne, gR_sR_ne2, gI_aI_eq, gI_aI_ne, gL_aI, gR_aI]
        have hnext : Int32.ofNat c + (-1 : Int32) = (if c = 0 then zN1 else Int32.ofNat (c - 1)) := by
          by_cases z : c = 0
          · rw [if_pos z, z]; rfl
          · rw [if_neg z]
            have e : Int32.ofNat c = Int32.ofNat (c - 1) + 1 := by rw [zi_succ]; exact congrArg _ (by omega)
            rw [e, Int32.add_assoc, show (1 : Int32) + (-1) = 0 from rfl, Int32.add_zero]
        have hnext' : Int32.ofNat c + zN1 = (if c = 0 then zN1 else Int32.ofNat (c - 1)) := hnext
        rw [hnext']
        refine ih n (ic / zcnt 9 (bMn B c)) _ (by omega) (by omega) v2 (fun a d z => by rw [gI_sI_ne z, gI_sI_ne z]; exact vf a d z) (fun o ho => ?_) (fun o y1 y2 => ?_) (fun o ho => ?_)
        · rw [gI_sI_ne2 (by omega), gI_sI_ne2 (by omega), vlo o (by omega), hlow o ho]
        · by_cases z : o = c
          · rw [z, gI_sI_eq, heq c (by omega), htop1, e1]
          · rw [gI_sI_ne2 z, gI_sI_ne2 z]
            exact vhi o (by omega) y2
        · rw [heq o (by omega), hlow1 o ho, e2]
  rw [fX8_nextDigits, hb]
  refine ⟨hb0, ?_⟩
  rw [cb_W hcb]
  intro v2 e2 v3 e3
  have e4 : v2 = Int32.ofNat (bW B) := by
    rw [e2]
    by_cases q : 4 < bW B
    · omega
    · exact if_neg (c := (4 : Int32) < Int32.ofNat (bW B)) (fun z => q ((zi_lt (a := 4) (by decide) (by omega)).mp z))
  have e5 : v3 = (if bW B = 0 then zN1 else Int32.ofNat (bW B - 1)) := by
    rw [e3, e4]
    by_cases q : bW B = 0
    · rw [if_pos q, q]; rfl
    · rw [if_neg q, zl1, zi_sub (by omega)]
  rw [e5]
  exact ⟨bW B + 1, hgo (bW B) (bW B + 1) i w (Nat.le_refl _) (by omega) rfl (fun _ _ _ => rfl) hdig (fun o y1 y2 => by omega) (fun o _ => rfl)⟩
theorem zcnt_mono {m n : Nat} (p : Nat → Bool) (h : m ≤ n) : zcnt m p ≤ zcnt n p := by
  induction n with
  | zero => rw [Nat.le_zero.mp h]; exact Nat.le_refl _
  | succ n ih =>
    by_cases e : m = n + 1
    · rw [e]; exact Nat.le_refl _
    · have := ih (by omega)
      rw [zcnt_S]
      omega
theorem zcnt_t {n : Nat} {p : Nat → Bool} (h : p n = true) : zcnt (n + 1) p = zcnt n p + 1 := by rw [zcnt_S, if_pos h]
theorem zcnt_f {n : Nat} {p : Nat → Bool} (h : p n = false) : zcnt (n + 1) p = zcnt n p := by rw [zcnt_S, if_neg (by rw [h]; decide), Nat.add_zero]
/-- the rows that do not go up: by a packed dictionary, at most so many -/
theorem q0_rowsDown {B : zBk} {b p most : Nat} {m : Nat → Nat} {w : zW} {k : Int32 → zW → Prop} (hwf : zWF B) (hcb : zCB B b w) (hp : p < 2 ^ 31) (hmost : most ≤ 8) (hm : ∀ o, o < bW B → zdg p o = m o) (hm9 : ∀ o, m o < 9)
    (hk : k (Int32.ofNat (if zcnt (bR B) (zDn B m) ≤ most then zdn B m else 255)) w) : fX0_rowsDown b (Int32.ofNat p) (Int32.ofNat most) w k := by
  have h8 := wf_R hwf
  have eT : ∀ r, zTk B r (zdg p) = zTk B r m := fun r => zsum_congr (fun o ho => by rw [hm o ho])
  have eL : ∀ r, zLv B r (zdg p) = zLv B r m := fun r => zsum_congr (fun o ho => by rw [hm o ho])
  rw [fX0_rowsDown]
  intro v1 e1
  rw [cb_C hcb] at e1
  subst e1
  refine zinv (fun n (s : Int32 × Int32 × Int32) => fX0_rowsDown_L11 b k n (Int32.ofNat p) (Int32.ofNat most) s.1 s.2.1 s.2.2 w) (fun i s => s = (Int32.ofNat (zbits i (zDn B m)), Int32.ofNat (zTh B i m), Int32.ofNat i) ∧ zcnt i (zDn B m) ≤ most) (bR B) (s0 := (0, Int32.ofNat (bC B), 0)) ⟨rfl, Nat.zero_le _⟩ ?_ ?_
  · rintro n s ⟨rfl, hle⟩
    rw [if_pos hle] at hk
    simp (disch := omega) only [fX0_rowsDown_L11, cb_R hcb, ↓zln1, ↓zln2, zl0, zl1, zl2, zl3, zl4, zl5, zl6, zl7, zl8, zl9, zl10, zl12, zl15, zl16, zl20, zl24, zl30, zl32, zl36, zl40, zl48, zl57, zl59, zl60, zl61, zl97, zl99, zl120, zl121, zl122, zl126, zl165, zl255, zl480, zl968, zl1000, zl1100, zi_add, zi_mul, zi_sub, zi_div, zi_mod, zi_nat, zt_le, zf_le, zt_lt, zf_lt, zt_eq, zf_eq, zt_vp, zt_N1lt, zf_N1lt, zf_N1eq, zf_eqN1, zt_N1eq, zt_N1le, zf_leN1, zi_nN1, zi_a1, zi_a15, zi_a255, zi_shr, zi_bit, zt_b0, zt_b1, forall_eq, if_true, if_false, true_implies, false_implies, not_true_eq_false, not_false_eq_true, and_true, true_and, gI_sI_eq, gI_sI_ne, gI_sI_ne2, gL_sI, gR_sI, gI_sL, gL_sL_eq, gL_sL_ne, gL_sL_ne2, gR_sL, gI_sR, gL_sR, gR_sR_eq, gR_sR_ne, gR_sR_ne2, gI_aI_eq, gI_aI_ne, gL_aI, gR_aI]
    exact hk
  · rintro i n s hi ⟨rfl, hle⟩ hc
    have hth := zTh_le hwf i m
    have htk : zTk B i m ≤ 120 := zTk_le hwf i _ m hm9
    have hlt := zbits_lt i (zDn B m)
    have h256 : 2 ^ i ≤ 256 := Nat.pow_le_pow_right (n := 2) (by omega) (show i ≤ 8 by omega)
    have hJ : ∀ x3 : Int32, x3 = Int32.ofNat (zbits (i + 1) (zDn B m)) → zcnt (i + 1) (zDn B m) ≤ most → fX0_rowsDown_J58 b k (fX0_rowsDown_L11 b k n) (Int32.ofNat p) (Int32.ofNat most) x3 (Int32.ofNat i) w := by
      intro x3 e hl
      rw [fX0_rowsDown_J58]
      refine q0_leavesOf hwf hcb hi hp ?_
      rw [eL, zl1, zi_add, e, ← zTh_S]
      exact hc _ ⟨rfl, hl⟩
    show fX0_rowsDown_L11 b k (n + 1) (Int32.ofNat p) (Int32.ofNat most) (Int32.ofNat (zbits i (zDn B m))) (Int32.ofNat (zTh B i m)) (Int32.ofNat i) w
    rw [fX0_rowsDown_L11]
    try dsimp only
    rw [cb_R hcb]
    refine ⟨fun q => absurd q (zi_nge hi (by omega)), fun _ => ⟨fun q => absurd q (by rw [zl8]; exact zi_nge (show i < 8 by omega) (by decide)), fun _ => ?_⟩⟩
    refine q0_takesOf hwf hcb hi hp ?_
    rw [eT]
    by_cases q : zTk B i m = zTh B i m
    · rw [q]
      refine ⟨fun _ => hJ _ ?_ (by rw [zcnt_f (zDn_f q)]; exact hle), fun z => absurd rfl z⟩
      rw [zbits_s0 (zDn_f q)]
    · refine ⟨fun z => absurd ((zi_eq (by omega) (by omega)).mp z) q, fun _ => ?_⟩
      refine q_bitCount (by omega) ?_
      rw [zones_bits (by omega)]
      by_cases z : zcnt i (zDn B m) < most
      · refine ⟨fun _ => ?_, fun y => absurd ((zi_lt (by omega) (by omega)).mpr z) y⟩
        intro v9 e9
        rw [zi_shl1 (by omega), zbits_t (by omega) (zDn_t q)] at e9
        exact hJ v9 e9 (by rw [zcnt_t (zDn_t q)]; omega)
      · refine ⟨fun y => absurd ((zi_lt (by omega) (by omega)).mp y) z, fun _ => ?_⟩
        have h1 := zcnt_mono (zDn B m) (show i + 1 ≤ bR B from hi)
        rw [zcnt_t (zDn_t q)] at h1
        rw [if_neg (by omega)] at hk
        exact hk
/-- what is guessed, of a packed dictionary -/
theorem q3_guesses {B : zBk} {a p : Nat} {S : Nat → Int32} {m : Nat → Nat} {w : zW} {k : Int32 → zW → Prop} (hwf : zWF B) (hd : zHd B S) (hS : ∀ i, i < 12 → gI w (a + 1) i = S i) (hp : p < 2 ^ 31) (hm : ∀ o, o < bW B → zdg p o = m o)
    (hk : k (Int32.ofNat (if (decide (∀ o, o < bW B → S o = zN1 ∨ S o = Int32.ofNat (m o))) = true then 1 else 0)) w) : fX3_guesses a (Int32.ofNat p) w k := by
  have h4 := wf_W hwf
  refine zinv (fun n (s : Int32) => fX3_guesses_L2 a k n (Int32.ofNat p) s w) (fun i s => s = Int32.ofNat i ∧ ∀ o, o < i → o < bW B → S o = zN1 ∨ S o = Int32.ofNat (m o)) 4 ⟨rfl, fun o q => absurd q (Nat.not_lt_zero o)⟩ ?_ ?_
  · rintro n s ⟨rfl, hall⟩
    rw [if_pos (decide_eq_true (fun o ho => hall o (by omega) ho))] at hk
    simp (disch := omega) only [fX3_guesses_L2, ↓zln1, ↓zln2, zl0, zl1, zl2, zl3, zl4, zl5, zl6, zl7, zl8, zl9, zl10, zl12, zl15, zl16, zl20, zl24, zl30, zl32, zl36, zl40, zl48, zl57, zl59, zl60, zl61, zl97, zl99, zl120, zl121, zl122, zl126, zl165, zl255, zl480, zl968, zl1000, zl1100, zi_add, zi_mul, zi_sub, zi_div, zi_mod, zi_nat, zt_le, zf_le, zt_lt, zf_lt, zt_eq, zf_eq, zt_vp, zt_N1lt, zf_N1lt, zf_N1eq, zf_eqN1, zt_N1eq, zt_N1le, zf_leN1, zi_nN1, zi_a1, zi_a15, zi_a255, zi_shr, zi_bit, zt_b0, zt_b1, forall_eq, if_true, if_false, true_implies, false_implies, not_true_eq_false, not_false_eq_true, and_true, true_and, gI_sI_eq, gI_sI_ne, gI_sI_ne2, gL_sI, gR_sI, gI_sL, gL_sL_eq, gL_sL_ne, gL_sL_ne2, gR_sL, gI_sR, gL_sR, gR_sR_eq, gR_sR_ne, gR_sR_ne2, gI_aI_eq, gI_aI_ne, gL_aI, gR_aI]
    exact hk
  · rintro i n s hi ⟨rfl, hall⟩ hc
    have hnext : (i < bW B → S i = zN1 ∨ S i = Int32.ofNat (m i)) → fX3_guesses_L2 a k n (Int32.ofNat p) (Int32.ofNat (i + 1)) w := fun hh => hc _ ⟨rfl, fun o q1 q2 => by
      by_cases e : o = i
      · rw [e]; exact hh (by rw [← e]; exact q2)
      · exact hall o (by omega) q2⟩
    show fX3_guesses_L2 a k (n + 1) (Int32.ofNat p) (Int32.ofNat i) w
    rw [fX3_guesses_L2]
    try dsimp only
    refine ⟨fun q => absurd q (by rw [zl4]; exact zi_nge hi (by decide)), fun _ => ?_⟩
    refine q3_guessOf hi ?_
    rw [hS i (by omega)]
    refine ⟨fun q => by rw [zl1, zi_add]; exact hnext (fun _ => Or.inl q), fun q => ?_⟩
    have hiW : i < bW B := Nat.lt_of_not_le (fun z => q (hd.2.1 i z hi))
    rw [fX8_meaningIn, zl4, zi_mul, zi_shr hp (by omega), zi_and15]
    have e : p / 2 ^ (4 * i) % 16 = m i := hm i hiW
    rw [e]
    refine ⟨fun z => by rw [zl1, zi_add]; exact hnext (fun _ => Or.inr z), fun z => ?_⟩
    rw [if_neg (fun y => by rcases of_decide_eq_true y i hiW with y1 | y1; exact q y1; exact z y1)] at hk
    exact hk
theorem q3_missed {B : zBk} {a b p : Nat} {S : Nat → Int32} {m : Nat → Nat} {w : zW} {k : Int32 → zW → Prop} (hwf : zWF B) (hcb : zCB B b w) (hS : ∀ i, i < 12 → gI w (a + 1) i = S i) (hp : p < 2 ^ 31) (hm : ∀ o, o < bW B → zdg p o = m o)
    (hk : k (Int32.ofNat (zof B S m)) w) : fX3_missed a b (Int32.ofNat p) w k := by
  have h8 := wf_R hwf
  have eL : ∀ r, zLv B r (zdg p) = zLv B r m := fun r => zsum_congr (fun o ho => by rw [hm o ho])
  refine zrun (fun n (s : Int32 × Int32) => fX3_missed_L5 a b k n (Int32.ofNat p) s.1 s.2 w) (fun i => (Int32.ofNat (zbits i (zOf B S m)), Int32.ofNat i)) (bR B) (fun n => ?_) (fun i n hi hc => ?_)
  · simp (disch := omega) only [fX3_missed_L5, cb_R hcb, ↓zln1, ↓zln2, zl0, zl1, zl2, zl3, zl4, zl5, zl6, zl7, zl8, zl9, zl10, zl12, zl15, zl16, zl20, zl24, zl30, zl32, zl36, zl40, zl48, zl57, zl59, zl60, zl61, zl97, zl99, zl120, zl121, zl122, zl126, zl165, zl255, zl480, zl968, zl1000, zl1100, zi_add, zi_mul, zi_sub, zi_div, zi_mod, zi_nat, zt_le, zf_le, zt_lt, zf_lt, zt_eq, zf_eq, zt_vp, zt_N1lt, zf_N1lt, zf_N1eq, zf_eqN1, zt_N1eq, zt_N1le, zf_leN1, zi_nN1, zi_a1, zi_a15, zi_a255, zi_shr, zi_bit, zt_b0, zt_b1, forall_eq, if_true, if_false, true_implies, false_implies, not_true_eq_false, not_false_eq_true, and_true, true_and, gI_sI_eq, gI_sI_ne, gI_sI_ne2, gL_sI, gR_sI, gI_sL, gL_sL_eq, gL_sL_ne, gL_sL_ne2, gR_sL, gI_sR, gL_sR, gR_sR_eq, gR_sR_ne, gR_sR_ne2, gI_aI_eq, gI_aI_ne, gL_aI, gR_aI]
    exact hk
  · show fX3_missed_L5 a b k (n + 1) (Int32.ofNat p) (Int32.ofNat (zbits i (zOf B S m))) (Int32.ofNat i) w
    rw [fX3_missed_L5]
    try dsimp only
    rw [cb_R hcb]
    refine ⟨fun q => absurd q (zi_nge hi (by omega)), fun _ => ?_⟩
    refine q3_countOf (by omega) ?_
    rw [hS (4 + i) (by omega)]
    have hsame : zOf B S m i = false → fX3_missed_L5 a b k n (Int32.ofNat p) (Int32.ofNat (zbits i (zOf B S m))) (Int32.ofNat i + 1) w := fun z => by
      rw [← zbits_s0 z, zi_succ]; exact hc
    refine ⟨fun q => hsame (zOf_f1 q), fun q => ?_⟩
    refine q0_leavesOf hwf hcb hi hp ?_
    rw [eL]
    refine ⟨fun z => hsame (zOf_f2 z), fun z => ?_⟩
    intro v6 e6
    rw [zi_shl1 (by omega), zbits_t (by omega) (zOf_t q z)] at e6
    rw [e6, zi_succ]
    exact hc
theorem zof_lt {B : zBk} (hwf : zWF B) (S : Nat → Int32) (m : Nat → Nat) : zof B S m < 256 :=
  Nat.lt_of_lt_of_le (zbits_lt _ _) (Nat.pow_le_pow_right (n := 2) (by omega) (wf_R hwf))
theorem zdn_lt {B : zBk} (hwf : zWF B) (m : Nat → Nat) : zdn B m < 256 :=
  Nat.lt_of_lt_of_le (zbits_lt _ _) (Nat.pow_le_pow_right (n := 2) (by omega) (wf_R hwf))
theorem q3_agrees {B : zBk} {a b d : Nat} {S : Nat → Int32} {w : zW} {k : Int32 → zW → Prop} (hwf : zWF B) (hcb : zCB B b w) (hd : zHd B S) (hS : ∀ i, i < 12 → gI w (a + 1) i = S i) {p : Nat} (hp : p < 2 ^ 31) (hm : ∀ o, o < bW B → zdg p o = zdm (bW B) d o)
    (hk : k (Int32.ofNat (if (zGu B S d && zof B S (zdm (bW B) d) == 0) = true then 1 else 0)) w) : fX3_agrees a b (Int32.ofNat p) w k := by
  have hl := zof_lt hwf S (zdm (bW B) d)
  rw [fX3_agrees]
  refine q3_guesses hwf hd hS hp hm ?_
  have hq : decide (∀ o, o < bW B → S o = zN1 ∨ S o = Int32.ofNat (zdm (bW B) d o)) = zGu B S d := rfl
  rw [hq]
  by_cases q : zGu B S d = true
  · rw [if_pos q]
    rw [q, Bool.true_and] at hk
    refine ⟨fun z => absurd z (by decide), fun _ => ?_⟩
    refine q3_missed hwf hcb hS hp hm ?_
    intro v4 e4
    by_cases z : zof B S (zdm (bW B) d) = 0
    · rw [z, if_pos (beq_self_eq_true 0)] at hk
      rw [z, if_neg (fun y => y rfl)] at e4
      rw [e4]
      exact ⟨Or.inr rfl, hk⟩
    · rw [if_neg (fun y => z (eq_of_beq y))] at hk
      rw [if_pos (show ¬ Int32.ofNat (zof B S (zdm (bW B) d)) = 0 from fun y => z ((zi_eq (b := 0) (by omega) (by decide)).mp y))] at e4
      rw [e4]
      exact ⟨Or.inl rfl, hk⟩
  · rw [if_neg q]
    rw [eq_false_of_ne_true q, Bool.false_and, if_neg (by decide)] at hk
    exact ⟨fun _ => hk, fun z => absurd rfl z⟩

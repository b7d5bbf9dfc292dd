/-! Level 2: a dictionary gone through by the reference -/
theorem zbits_s0 {n : Nat} {p : Nat → Bool} (h : p n = false) : zbits (n + 1) p = zbits n p := by
  rw [zbits_S, if_neg (by rw [h]; decide), Nat.add_zero]
theorem zDn_t {B : zBk} {m : Nat → Nat} {r : Nat} (h : ¬ zTk B r m = zTh B r m) : zDn B m r = true := decide_eq_true h
theorem zDn_f {B : zBk} {m : Nat → Nat} {r : Nat} (h : zTk B r m = zTh B r m) : zDn B m r = false := decide_eq_false (fun q => q h)
theorem zOf_t {B : zBk} {S : Nat → Int32} {m : Nat → Nat} {r : Nat} (h : ¬ S (4 + r) = zN1) (h2 : ¬ S (4 + r) = Int32.ofNat (zLv B r m)) : zOf B S m r = true := decide_eq_true ⟨h, h2⟩
theorem zOf_f1 {B : zBk} {S : Nat → Int32} {m : Nat → Nat} {r : Nat} (h : S (4 + r) = zN1) : zOf B S m r = false := decide_eq_false (fun q => q.1 h)
theorem zOf_f2 {B : zBk} {S : Nat → Int32} {m : Nat → Nat} {r : Nat} (h : S (4 + r) = Int32.ofNat (zLv B r m)) : zOf B S m r = false := decide_eq_false (fun q => q.2 h)
theorem zTh_le {B : zBk} (h : zWF B) (r : Nat) (m : Nat → Nat) : zTh B r m ≤ 120 := by
  rw [zTh]
  by_cases e : r = 0
  · rw [if_pos e]; have := wf_C h; omega
  · rw [if_neg e]; exact zLv_le h _ _ m
theorem zTh_S (B : zBk) (r : Nat) (m : Nat → Nat) : zTh B (r + 1) m = zLv B r m := by
  rw [zTh, if_neg (by omega)]
  rfl
/-- the rows that go up and those whose count is not as told, with the stitches behind each row -/
theorem q12_goes {B : zBk} {S : Nat → Int32} {m : Nat → Nat} {w : zW} {k : zW → Prop} (hwf : zWF B) (hB : zRB B w) (hd : zHd B S) (hS : ∀ i, i < 12 → gI w 220 i = S i) (hm : ∀ o, o < bW B → gI w 227 o = Int32.ofNat (m o)) (hm9 : ∀ o, m o < 9)
    (hk : ∀ v : zW, v.2 = w.2 → (∀ a c, a ≠ 228 → (a = 200 → c ≠ 29 ∧ c ≠ 30) → gI v a c = gI w a c) → gI v 200 29 = Int32.ofNat (zbits (bR B) (fun r => !zDn B m r)) → gI v 200 30 = Int32.ofNat (zof B S m) → (∀ r, r < bR B → gI v 228 r = Int32.ofNat (zLv B r m)) → k v) : fX12_goes w k := by
  have h4 := wf_W hwf
  have h8 := wf_R hwf
  unfold fX12_goes
  intro v1 e1 w2 e2 w3 e3
  rw [show (1 : Int32).toNatClampNeg = 1 from rfl, rb_C hB] at e1
  subst e1
  refine zinv (fun n (s : Int32 × Int32 × zW) => fX12_goes_L19 k n s.1 s.2.1 s.2.2) (fun i s => ∃ v : zW, s = (Int32.ofNat (zTh B i m), Int32.ofNat i, v) ∧ v.2 = w.2 ∧ (∀ a c, a ≠ 228 → (a = 200 → c ≠ 29 ∧ c ≠ 30) → gI v a c = gI w a c) ∧ gI v 200 29 = Int32.ofNat (zbits i (fun r => !zDn B m r)) ∧ gI v 200 30 = Int32.ofNat (zbits i (zOf B S m)) ∧ (∀ r, r < i → gI v 228 r = Int32.ofNat (zLv B r m))) (bR B) (s0 := (Int32.ofNat (bC B), 0, w3)) ?_ ?_ ?_
  · refine ⟨w3, rfl, by rw [e3, e2]; rfl, fun a c q1 q2 => ?_, ?_, ?_, fun r hr => absurd hr (Nat.not_lt_zero r)⟩
    · rw [e3, e2, gI_sI, if_neg (fun z => (q2 z.1).2 z.2), gI_sI, if_neg (fun z => (q2 z.1).1 z.2)]
    · rw [e3, e2, gI_sI_ne2 (by decide), gI_sI_eq]; rfl
    · rw [e3, gI_sI_eq]; rfl
  · rintro n s ⟨v, rfl, v2, vf, v29, v30, vb⟩
    have hR : gI v 210 2 = Int32.ofNat (bR B) := by rw [vf 210 2 (by omega) (by omega)]; exact rb_R hB
    simp (disch := omega) only [fX12_goes_L19, fX12_rows, hR, ↓zln1, ↓zln2, zl0, zl1, zl2, zl3, zl4, zl5, zl6, zl7, zl8, zl9, zl10, zl12, zl15, zl16, zl20, zl24, zl30, zl32, zl36, zl40, zl48, zl57, zl59, zl60, zl61, zl97, zl99, zl120, zl121, zl122, zl126, zl165, zl255, zl480, zl968, zl1000, zl1100, zi_add, zi_mul, zi_sub, zi_div, zi_mod, zi_nat, zt_le, zf_le, zt_lt, zf_lt, zt_eq, zf_eq, zt_vp, zt_N1lt, zf_N1lt, zf_N1eq, zf_eqN1, zt_N1eq, zt_N1le, zf_leN1, zi_nN1, zi_a1, zi_a15, zi_a255, zi_shr, zi_bit, zt_b0, zt_b1, forall_eq, if_true, if_false, true_implies, false_implies, not_true_eq_false, not_false_eq_true, and_true, true_and, gI_sI_eq, gI_sI_ne, gI_sI_ne2, gL_sI, gR_sI, gI_sL, gL_sL_eq, gL_sL_ne, gL_sL_ne2, gR_sL, gI_sR, gL_sR, gR_sR_eq, gR_sR_ne, gR_sR_ne2, gI_aI_eq, gI_aI_ne, gL_aI, gR_aI]
    exact hk v v2 vf v29 v30 vb
  · rintro i n s hi ⟨v, rfl, v2, vf, v29, v30, vb⟩ hc
    have hR : gI v 210 2 = Int32.ofNat (bR B) := by rw [vf 210 2 (by omega) (by omega)]; exact rb_R hB
    have hW : gI v 210 0 = Int32.ofNat (bW B) := by rw [vf 210 0 (by omega) (by omega)]; exact rb_W hB
    have hU : ∀ o, o < 4 → gI v 225 (4 * i + o) = Int32.ofNat (bU B i o) := fun o ho => by rw [vf 225 _ (by omega) (by omega)]; exact rb_U hB (by omega) ho
    have hM : ∀ o, o < bW B → gI v 227 o = Int32.ofNat (m o) := fun o ho => by rw [vf 227 _ (by omega) (by omega)]; exact hm o ho
    have hT : gI v 220 (4 + i) = S (4 + i) := by rw [vf 220 _ (by omega) (by omega)]; exact hS _ (by omega)
    have hth := zTh_le hwf i m
    have htk : zTk B i m ≤ 120 := zTk_le hwf i _ m hm9
    have hlv : zLv B i m ≤ 120 := zLv_le hwf i _ m
    show fX12_goes_L19 k (n + 1) (Int32.ofNat (zTh B i m)) (Int32.ofNat i) v
    simp (disch := omega) only [fX12_goes_L19, fX12_rows, hR, ↓zln1, ↓zln2, zl0, zl1, zl2, zl3, zl4, zl5, zl6, zl7, zl8, zl9, zl10, zl12, zl15, zl16, zl20, zl24, zl30, zl32, zl36, zl40, zl48, zl57, zl59, zl60, zl61, zl97, zl99, zl120, zl121, zl122, zl126, zl165, zl255, zl480, zl968, zl1000, zl1100, zi_add, zi_mul, zi_sub, zi_div, zi_mod, zi_nat, zt_le, zf_le, zt_lt, zf_lt, zt_eq, zf_eq, zt_vp, zt_N1lt, zf_N1lt, zf_N1eq, zf_eqN1, zt_N1eq, zt_N1le, zf_leN1, zi_nN1, zi_a1, zi_a15, zi_a255, zi_shr, zi_bit, zt_b0, zt_b1, forall_eq, if_true, if_false, true_implies, false_implies, not_true_eq_false, not_false_eq_true, and_true, true_and, gI_sI_eq, gI_sI_ne, gI_sI_ne2, gL_sI, gR_sI, gI_sL, gL_sL_eq, gL_sL_ne, gL_sL_ne2, gR_sL, gI_sR, gL_sR, gR_sR_eq, gR_sR_ne, gR_sR_ne2, gI_aI_eq, gI_aI_ne, gL_aI, gR_aI]
    have hJ : fX12_goes_J117 k (fX12_goes_L19 k n) (Int32.ofNat i) (Int32.ofNat (zLv B i m)) (if ¬ Int32.ofNat (zTk B i m) = Int32.ofNat (zTh B i m) then (0 : Int32) else ((1 : Int32) <<< (Int32.ofNat i &&& 31))) (gI v 200 29) v := by
      intro w9 e9
      have e29 : gI w9 200 29 = Int32.ofNat (zbits (i + 1) (fun r => !zDn B m r)) := by
        rw [e9, gI_sI_eq, v29]
        by_cases q : zTk B i m = zTh B i m
        · rw [if_neg (fun z => z (by rw [q])), zi_shl1 (by omega)]
          exact zbits_t (p := fun r => !zDn B m r) (by omega) (by show (!zDn B m i) = true; rw [zDn_f q]; rfl)
        · rw [if_pos (fun z => q ((zi_eq (by omega) (by omega)).mp z))]
          exact zbits_f (p := fun r => !zDn B m r) (by show (!zDn B m i) = false; rw [zDn_t q]; rfl)
      have f9 : ∀ a c, (a = 200 → c ≠ 29) → gI w9 a c = gI v a c := fun a c q => by
        rw [e9, gI_sI]
        exact if_neg (fun z => q z.1 z.2)
      refine ⟨zi_in (by omega) (by omega), ?_⟩
      intro w11 e11
      rw [zi_nat (show i < 2 ^ 31 by omega)] at e11
      have f11 : ∀ a c, (a = 228 → c ≠ i) → gI w11 a c = gI w9 a c := fun a c q => by
        rw [e11, gI_sI]
        exact if_neg (fun z => q z.1 z.2)
      have t11 : gI w11 220 (4 + i) = S (4 + i) := by rw [f11 _ _ (by omega), f9 _ _ (by omega), hT]
      have hend : ∀ t : Int32, Int32.ofNat (zbits i (zOf B S m)) ||| t = Int32.ofNat (zbits (i + 1) (zOf B S m)) → fX12_goes_J166 k (fX12_goes_L19 k n) (Int32.ofNat (zLv B i m)) (Int32.ofNat i) t (gI w11 200 30) w11 := by
        intro t ht w14 e14
        have h30 : gI w11 200 30 = Int32.ofNat (zbits i (zOf B S m)) := by rw [f11 _ _ (by omega), f9 _ _ (by omega)]; exact v30
        rw [h30, ht] at e14
        rw [zl1, zi_add]
        refine hc (Int32.ofNat (zLv B i m), Int32.ofNat (i + 1), w14) ⟨w14, by rw [zTh_S], by rw [e14, e11, e9]; exact v2, fun a c q1 q2 => ?_, ?_, ?_, fun r hr => ?_⟩
        · rw [e14, gI_sI, if_neg (fun z => (q2 z.1).2 z.2), f11 a c (fun z => absurd z q1), f9 a c (fun z => (q2 z).1)]
          exact vf a c q1 q2
        · rw [e14, gI_sI_ne2 (by decide), f11 _ _ (by omega)]; exact e29
        · rw [e14, gI_sI_eq]
        · rw [e14, gI_sI_ne (by decide)]
          by_cases q : r = i
          · rw [q, e11, gI_sI_eq]
          · rw [f11 _ _ (fun _ => q), f9 _ _ (by omega)]
            exact vb r (by omega)
      rw [zl4, zi_add, zi_nat (show 4 + i < 2 ^ 31 by omega), t11]
      refine ⟨zi_in (by omega) (by omega), fun q => ?_, fun q => ?_⟩
      · refine hend 0 ?_
        refine zbits_f (zOf_f1 ?_)
        rcases hd.2.2.1 i (by omega) with z | ⟨c, c1, c2⟩
        · exact z
        · rw [c2] at q; exact absurd q (zi_0le (by omega))
      · intro v15 e15
        have hne : ¬ S (4 + i) = zN1 := fun z => q (by rw [z]; decide)
        by_cases z : S (4 + i) = Int32.ofNat (zLv B i m)
        · rw [if_pos z] at e15
          subst e15
          exact hend 0 (zbits_f (zOf_f2 z))
        · rw [if_neg z, zi_shl1 (by omega)] at e15
          subst e15
          exact hend _ (zbits_t (by omega) (zOf_t hne z))
    refine zrun (fun n' (s : Int32 × Int32 × Int32) => fX12_goes_L35 k (fX12_goes_L19 k n) n' (Int32.ofNat (zTh B i m)) (Int32.ofNat i) s.1 s.2.1 s.2.2 v) (fun j => (Int32.ofNat (zsum j (fun o => bU B i o * (m o / 3))), Int32.ofNat (zsum j (fun o => bU B i o * (m o % 3))), Int32.ofNat j)) (bW B) (fun n' => ?_) (fun j n' hj hc' => ?_)
    · rw [fX12_goes_L35]
      show fX12_wordsTold v _
      rw [fX12_wordsTold, show (0 : Int32).toNatClampNeg = 0 from rfl, hW]
      refine ⟨fun _ => ?_, fun q => absurd (Int32.le_refl _) q⟩
      intro v8 e8
      subst e8
      exact hJ
    · have hmj := hm9 j
      simp (disch := omega) only [fX12_goes_L35, fX12_wordsTold, hW, hU j (by omega), hM j hj, ↓zln1, ↓zln2, zl0, zl1, zl2, zl3, zl4, zl5, zl6, zl7, zl8, zl9, zl10, zl12, zl15, zl16, zl20, zl24, zl30, zl32, zl36, zl40, zl48, zl57, zl59, zl60, zl61, zl97, zl99, zl120, zl121, zl122, zl126, zl165, zl255, zl480, zl968, zl1000, zl1100, zi_add, zi_mul, zi_sub, zi_div, zi_mod, zi_nat, zt_le, zf_le, zt_lt, zf_lt, zt_eq, zf_eq, zt_vp, zt_N1lt, zf_N1lt, zf_N1eq, zf_eqN1, zt_N1eq, zt_N1le, zf_leN1, zi_nN1, zi_a1, zi_a15, zi_a255, zi_shr, zi_bit, zt_b0, zt_b1, forall_eq, if_true, if_false, true_implies, false_implies, not_true_eq_false, not_false_eq_true, and_true, true_and, gI_sI_eq, gI_sI_ne, gI_sI_ne2, gL_sI, gR_sI, gI_sL, gL_sL_eq, gL_sL_ne, gL_sL_ne2, gR_sL, gI_sR, gL_sR, gR_sR_eq, gR_sR_ne, gR_sR_ne2, gI_aI_eq, gI_aI_ne, gL_aI, gR_aI]
      exact hc'
/-- what is guessed, gone through: if all is -/
theorem q12_isGuessed {B : zBk} {S : Nat → Int32} {w : zW} {k : Int32 → zW → Prop} (hwf : zWF B) (hB : zRB B w) (hd : zHd B S) (hS : ∀ i, i < 12 → gI w 220 i = S i)
    (h1 : (∀ o, o < bW B → ¬ S o = zN1) → ∀ v : zW, v.2 = w.2 → (∀ a c, a ≠ 227 → a ≠ 228 → (a = 200 → c ≠ 29 ∧ c ≠ 30) → gI v a c = gI w a c) → gI v 200 29 = Int32.ofNat (zbits (bR B) (fun r => !zDn B (zgf S) r)) → gI v 200 30 = Int32.ofNat (zof B S (zgf S)) → (∀ r, r < bR B → gI v 228 r = Int32.ofNat (zLv B r (zgf S))) → (∀ o, o < bW B → gI v 227 o = Int32.ofNat (zgf S o)) → k (Int32.ofNat 1) v)
    (h0 : (∃ o, o < bW B ∧ S o = zN1) → ∀ v : zW, v.2 = w.2 → (∀ a c, a ≠ 227 → gI v a c = gI w a c) → k (Int32.ofNat 0) v) : fX12_isGuessed w k := by
  have h4 := wf_W hwf
  refine zinv (fun n (s : Int32 × zW) => fX12_isGuessed_L2 k n s.1 s.2) (fun i s => ∃ v : zW, s = (Int32.ofNat i, v) ∧ v.2 = w.2 ∧ (∀ a c, a ≠ 227 → gI v a c = gI w a c) ∧ ∀ o, o < i → ¬ S o = zN1 ∧ gI v 227 o = Int32.ofNat (zgf S o)) (bW B) (s0 := (0, w)) ⟨w, rfl, rfl, fun _ _ _ => rfl, fun o ho => absurd ho (Nat.not_lt_zero o)⟩ ?_ ?_
  · rintro n s ⟨v, rfl, v2, vf, vm⟩
    have hW : gI v 210 0 = Int32.ofNat (bW B) := by rw [vf 210 0 (by omega)]; exact rb_W hB
    simp (disch := omega) only [fX12_isGuessed_L2, fX12_wordsTold, hW, ↓zln1, ↓zln2, zl0, zl1, zl2, zl3, zl4, zl5, zl6, zl7, zl8, zl9, zl10, zl12, zl15, zl16, zl20, zl24, zl30, zl32, zl36, zl40, zl48, zl57, zl59, zl60, zl61, zl97, zl99, zl120, zl121, zl122, zl126, zl165, zl255, zl480, zl968, zl1000, zl1100, zi_add, zi_mul, zi_sub, zi_div, zi_mod, zi_nat, zt_le, zf_le, zt_lt, zf_lt, zt_eq, zf_eq, zt_vp, zt_N1lt, zf_N1lt, zf_N1eq, zf_eqN1, zt_N1eq, zt_N1le, zf_leN1, zi_nN1, zi_a1, zi_a15, zi_a255, zi_shr, zi_bit, zt_b0, zt_b1, forall_eq, if_true, if_false, true_implies, false_implies, not_true_eq_false, not_false_eq_true, and_true, true_and, gI_sI_eq, gI_sI_ne, gI_sI_ne2, gL_sI, gR_sI, gI_sL, gL_sL_eq, gL_sL_ne, gL_sL_ne2, gR_sL, gI_sR, gL_sR, gR_sR_eq, gR_sR_ne, gR_sR_ne2, gI_aI_eq, gI_aI_ne, gL_aI, gR_aI]
    refine q12_goes hwf (zRB_of hB (fun k _ => vf 210 k (by omega)) (fun k _ => vf 211 k (by omega)) (fun k => vf 223 k (by omega)) (fun k => vf 224 k (by omega)) (fun k => vf 225 k (by omega)) hwf) hd (fun i hi => by rw [vf 220 i (by omega)]; exact hS i hi) (fun o ho => (vm o ho).2) (zgf_lt hd) (fun u u2 uf u29 u30 ub => ?_)
    refine h1 (fun o ho => (vm o ho).1) u (u2.trans v2) (fun a c q1 q2 q3 => by rw [uf a c q2 q3, vf a c q1]) u29 u30 ub (fun o ho => by rw [uf 227 o (by omega) (by omega)]; exact (vm o ho).2)
  · rintro i n s hi ⟨v, rfl, v2, vf, vm⟩ hc
    have hW : gI v 210 0 = Int32.ofNat (bW B) := by rw [vf 210 0 (by omega)]; exact rb_W hB
    have hT : gI v 220 i = S i := by rw [vf 220 _ (by omega)]; exact hS _ (by omega)
    rcases hd.1 i (by omega) with e | ⟨c, c1, c2⟩
    · rw [e] at hT
      simp (disch := omega) only [fX12_isGuessed_L2, fX12_wordsTold, hW, hT, ↓zln1, ↓zln2, zl0, zl1, zl2, zl3, zl4, zl5, zl6, zl7, zl8, zl9, zl10, zl12, zl15, zl16, zl20, zl24, zl30, zl32, zl36, zl40, zl48, zl57, zl59, zl60, zl61, zl97, zl99, zl120, zl121, zl122, zl126, zl165, zl255, zl480, zl968, zl1000, zl1100, zi_add, zi_mul, zi_sub, zi_div, zi_mod, zi_nat, zt_le, zf_le, zt_lt, zf_lt, zt_eq, zf_eq, zt_vp, zt_N1lt, zf_N1lt, zf_N1eq, zf_eqN1, zt_N1eq, zt_N1le, zf_leN1, zi_nN1, zi_a1, zi_a15, zi_a255, zi_shr, zi_bit, zt_b0, zt_b1, forall_eq, if_true, if_false, true_implies, false_implies, not_true_eq_false, not_false_eq_true, and_true, true_and, gI_sI_eq, gI_sI_ne, gI_sI_ne2, gL_sI, gR_sI, gI_sL, gL_sL_eq, gL_sL_ne, gL_sL_ne2, gR_sL, gI_sR, gL_sR, gR_sR_eq, gR_sR_ne, gR_sR_ne2, gI_aI_eq, gI_aI_ne, gL_aI, gR_aI]
      exact h0 ⟨i, hi, e⟩ v v2 vf
    · rw [c2] at hT
      simp (disch := omega) only [fX12_isGuessed_L2, fX12_wordsTold, hW, hT, ↓zln1, ↓zln2, zl0, zl1, zl2, zl3, zl4, zl5, zl6, zl7, zl8, zl9, zl10, zl12, zl15, zl16, zl20, zl24, zl30, zl32, zl36, zl40, zl48, zl57, zl59, zl60, zl61, zl97, zl99, zl120, zl121, zl122, zl126, zl165, zl255, zl480, zl968, zl1000, zl1100, zi_add, zi_mul, zi_sub, zi_div, zi_mod, zi_nat, zt_le, zf_le, zt_lt, zf_lt, zt_eq, zf_eq, zt_vp, zt_N1lt, zf_N1lt, zf_N1eq, zf_eqN1, zt_N1eq, zt_N1le, zf_leN1, zi_nN1, zi_a1, zi_a15, zi_a255, zi_shr, zi_bit, zt_b0, zt_b1, forall_eq, if_true, if_false, true_implies, false_implies, not_true_eq_false, not_false_eq_true, and_true, true_and, gI_sI_eq, gI_sI_ne, gI_sI_ne2, gL_sI, gR_sI, gI_sL, gL_sL_eq, gL_sL_ne, gL_sL_ne2, gR_sL, gI_sR, gL_sR, gR_sR_eq, gR_sR_ne, gR_sR_ne2, gI_aI_eq, gI_aI_ne, gL_aI, gR_aI]
      refine hc _ ⟨sI v 227 i _, rfl, v2, fun a c' q => by rw [gI_sI_ne q]; exact vf a c' q, fun o ho => ?_⟩
      by_cases q : o = i
      · subst q
        refine ⟨by rw [c2]; exact zN1_ne (by omega), ?_⟩
        rw [gI_sI_eq, zgf, if_pos (by omega), zgm, c2, zi_nat (by omega)]
      · refine ⟨(vm o (by omega)).1, ?_⟩
        rw [gI_sI_ne2 q]
        exact (vm o (by omega)).2
/-- bits that are read -/
theorem zbits_get {n i : Nat} (p : Nat → Bool) (h : i < n) : zbits n p / 2 ^ i % 2 = if p i = true then 1 else 0 := by
  induction n with
  | zero => exact absurd h (Nat.not_lt_zero _)
  | succ n ih =>
    rw [zbits_S]
    by_cases e : i = n
    · subst e
      have h1 := zbits_lt i p
      by_cases h2 : p i = true
      · rw [if_pos h2, if_pos h2, Nat.add_div_right _ (Nat.two_pow_pos i), Nat.div_eq_of_lt h1]
      · rw [if_neg h2, if_neg h2, Nat.add_zero, Nat.div_eq_of_lt h1]
    · have h1 : i < n := by omega
      rw [← ih h1]
      by_cases h2 : p n = true
      · rw [if_pos h2, show 2 ^ n = 2 ^ i * (2 * 2 ^ (n - i - 1)) by rw [← Nat.pow_succ', ← Nat.pow_add]; exact congrArg _ (by omega), Nat.add_mul_div_left _ _ (Nat.two_pow_pos i), Nat.mul_comm 2]
        exact Nat.add_mul_mod_self_right _ _ _
      · rw [if_neg h2, Nat.add_zero]
theorem zfind_some {n i : Nat} {p : Nat → Bool} (hi : i < n) (hp : p i = true) (hj : ∀ j, j < i → p j = false) : zfind n p = Int32.ofNat i := by
  have e : (List.range n).find? p = some i := by
    rw [List.find?_range_eq_some]
    exact ⟨hp, List.mem_range.mpr hi, fun j hj' => by rw [hj j hj']; rfl⟩
  rw [zfind, e]
theorem zfind_none {n : Nat} {p : Nat → Bool} (hj : ∀ j, j < n → p j = false) : zfind n p = zN1 := by
  have e : (List.range n).find? p = none := by
    rw [List.find?_eq_none]
    intro j hj'
    rw [hj j (List.mem_range.mp hj')]
    decide
  rw [zfind, e]
/-- what zfind finds -/
theorem zfind_or (n : Nat) (p : Nat → Bool) : (zfind n p = zN1 ∧ ∀ j, j < n → p j = false) ∨ ∃ i, i < n ∧ zfind n p = Int32.ofNat i ∧ p i = true ∧ ∀ j, j < i → p j = false := by
  by_cases h : ∃ i, i < n ∧ p i = true ∧ ∀ j, j < i → p j = false
  · obtain ⟨i, h1, h2, h3⟩ := h
    exact Or.inr ⟨i, h1, zfind_some h1 h2 h3, h2, h3⟩
  · have h1 : ∀ m, m ≤ n → ∀ j, j < m → p j = false := by
      intro m
      induction m with
      | zero => intro _ j hj; exact absurd hj (Nat.not_lt_zero j)
      | succ m ih =>
        intro hm j hj
        have hlow := ih (by omega)
        by_cases e : j = m
        · subst e
          by_cases q : p j = true
          · exact absurd ⟨j, by omega, q, hlow⟩ h
          · exact eq_false_of_ne_true q
        · exact hlow j (by omega)
    exact Or.inl ⟨zfind_none (h1 n (Nat.le_refl n)), h1 n (Nat.le_refl n)⟩

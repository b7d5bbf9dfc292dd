/-! Level 2: a dictionary gone through by the reference while a row's words are counted otherwise -/
theorem q12_goesL {B : zBk} {S : Nat → Int32} {m : Nat → Nat} {w : zW} {k : zW → Prop} (h4 : bW B ≤ 4) (h8 : bR B ≤ 8) (hC0 : gI w 210 1 = Int32.ofNat (bC B)) (hR0 : gI w 210 2 = Int32.ofNat (bR B)) (hW0 : gI w 210 0 = Int32.ofNat (bW B)) (hU0 : ∀ r o, r < 8 → o < 4 → gI w 225 (4 * r + o) = Int32.ofNat (bU B r o)) (hth0 : ∀ r, zTh B r m ≤ 400) (htk0 : ∀ r, zTk B r m ≤ 400) (hlv0 : ∀ r, zLv B r m ≤ 400) (hd : zHd B S) (hS : ∀ i, i < 12 → gI w 220 i = S i) (hm : ∀ o, o < bW B → gI w 227 o = Int32.ofNat (m o)) (hm9 : ∀ o, m o < 9)
    (hk : ∀ v : zW, v.2 = w.2 → (∀ a c, a ≠ 228 → (a = 200 → c ≠ 29 ∧ c ≠ 30) → gI v a c = gI w a c) → gI v 200 29 = Int32.ofNat (zbits (bR B) (fun r => !zDn B m r)) → gI v 200 30 = Int32.ofNat (zof B S m) → (∀ r, r < bR B → gI v 228 r = Int32.ofNat (zLv B r m)) → k v) : fX12_goes w k := by
  unfold fX12_goes
  intro v1 e1 w2 e2 w3 e3
  rw [show (1 : Int32).toNatClampNeg = 1 from rfl, hC0] at e1
  subst e1
  refine zinv (fun n (s : Int32 × Int32 × zW) => fX12_goes_L19 k n s.1 s.2.1 s.2.2) (fun i s => ∃ v : zW, s = (Int32.ofNat (zTh B i m), Int32.ofNat i, v) ∧ v.2 = w.2 ∧ (∀ a c, a ≠ 228 → (a = 200 → c ≠ 29 ∧ c ≠ 30) → gI v a c = gI w a c) ∧ gI v 200 29 = Int32.ofNat (zbits i (fun r => !zDn B m r)) ∧ gI v 200 30 = Int32.ofNat (zbits i (zOf B S m)) ∧ (∀ r, r < i → gI v 228 r = Int32.ofNat (zLv B r m))) (bR B) (s0 := (Int32.ofNat (bC B), 0, w3)) ?_ ?_ ?_
  · refine ⟨w3, rfl, by rw [e3, e2]; rfl, fun a c q1 q2 => ?_, ?_, ?_, fun r hr => absurd hr (Nat.not_lt_zero r)⟩
    · rw [e3, e2, gI_sI, if_neg (fun z => (q2 z.1).2 z.2), gI_sI, if_neg (fun z => (q2 z.1).1 z.2)]
    · rw [e3, e2, gI_sI_ne2 (by decide), gI_sI_eq]; rfl
    · rw [e3, gI_sI_eq]; rfl
  · rintro n s ⟨v, rfl, v2, vf, v29, v30, vb⟩
    have hR : gI v 210 2 = Int32.ofNat (bR B) := by rw [vf 210 2 (by omega) (by omega)]; exact hR0
    simp (disch := omega) only [fX12_goes_L19, fX12_rows, hR, ↓zln1, ↓zln2, zl0, zl1, zl2, zl3, zl4, zl5, zl6, zl7, zl8, zl9, zl10, zl12, zl15, zl16, zl20, zl24, zl30, zl32, zl36, zl40, zl48, zl57, zl59, zl60, zl61, zl97, zl99, zl120, zl121, zl122, zl126, zl165, zl255, zl480, zl968, zl1000, zl1100, zi_add, zi_mul, zi_sub, zi_div, zi_mod, zi_nat, zt_le, zf_le, zt_lt, zf_lt, zt_eq, zf_eq, zt_vp, zt_N1lt, zf_N1lt, zf_N1eq, zf_eqN1, zt_N1eq, zt_N1le, zf_leN1, zi_nN1, zi_a1, zi_a15, zi_a255, zi_shr, zi_bit, zt_b0, zt_b1, forall_eq, if_true, if_false, true_implies, false_implies, not_true_eq_false, not_false_eq_true, and_true, true_and, gI_sI_eq, gI_sI_ne, gI_sI_ne2, gL_sI, gR_sI, gI_sL, gL_sL_eq, gL_sL_ne, gL_sL_ne2, gR_sL, gI_sR, gL_sR, gR_sR_eq, gR_sR_ne, gR_sR_ne2, gI_aI_eq, gI_aI_ne, gL_aI, gR_aI]
    exact hk v v2 vf v29 v30 vb
  · rintro i n s hi ⟨v, rfl, v2, vf, v29, v30, vb⟩ hc
    have hR : gI v 210 2 = Int32.ofNat (bR B) := by rw [vf 210 2 (by omega) (by omega)]; exact hR0
    have hW : gI v 210 0 = Int32.ofNat (bW B) := by rw [vf 210 0 (by omega) (by omega)]; exact hW0
    have hU : ∀ o, o < 4 → gI v 225 (4 * i + o) = Int32.ofNat (bU B i o) := fun o ho => by rw [vf 225 _ (by omega) (by omega)]; exact hU0 _ _ (by omega) ho
    have hM : ∀ o, o < bW B → gI v 227 o = Int32.ofNat (m o) := fun o ho => by rw [vf 227 _ (by omega) (by omega)]; exact hm o ho
    have hT : gI v 220 (4 + i) = S (4 + i) := by rw [vf 220 _ (by omega) (by omega)]; exact hS _ (by omega)
    have hth := hth0 i
    have htk := htk0 i
    have hlv := hlv0 i
    show fX12_goes_L19 k (n + 1) (Int32.ofNat (zTh B i m)) (Int32.ofNat i) v
    simp (disch := omega) only [fX12_goes_L19, fX12_rows, hR, ↓zln1, ↓zln2, zl0, zl1, zl2, zl3, zl4, zl5, zl6, zl7, zl8, zl9, zl10, zl12, zl15, zl16, zl20, zl24, zl30, zl32, zl36, zl40, zl48, zl57, zl59, zl60, zl61, zl97, zl99, zl120, zl121, zl122, zl126, zl165, zl255, zl480, zl968, zl1000, zl1100, zi_add, zi_mul, zi_sub, zi_div, zi_mod, zi_nat, zt_le, zf_le, zt_lt, zf_lt, zt_eq, zf_eq, zt_vp, zt_N1lt, zf_N1lt, zf_N1eq, zf_eqN1, zt_N1eq, zt_N1le, zf_leN1, zi_nN1, zi_a1, zi_a15, zi_a255, zi_shr, zi_bit, zt_b0, zt_b1, forall_eq, if_true, if_false, true_implies, false_implies, not_true_eq_false, not_false_eq_true, and_true, true_and, gI_sI_eq, gI_sI_ne, gI_sI_ne2, gL_sI, gR_sI, gI_sL, gL_sL_eq, gL_sL_ne, gL_sL_ne2, gR_sL, gI_sR, gL_sR, gR_sR_eq, gR_sR_ne, gR_sR_ne2, gI_aI_eq, gI_aI_ne, gL_aI, gR_aI]
    have hJ : fX12_goes_J117 k (fX12_goes_L19 k n) (Int32.ofNat i) (Int32.ofNat (zLv B i m)) (if ¬ Int32.ofNat (zTk B i m) = Int32.ofNat (zTh B i m) then (0 : Int32) else ((1 : Int32) <<< (Int32.ofNat i &&& 31))) (gI v 200 29) v := by
      intro w9 e9
      have e29 : gI w9 200 29 = Int32.ofNat (zbits (i + 1) (fun r => !zDn B m r)) := by
        rw [e9, gI_sI_eq, v29]
        by_cases q : zTk B i m = zTh B i m
        · rw [if_neg (fun z => z (by rw [q])), zi_shl1 (by omega)]
          exact zbits_t (p := fun r => !zDn B m r) (by omega) (by show (!zDn B m i) = true; rw [zDn_f q]; rfl)
        · rw [if_pos (fun z => q ((zi_eq (by omega) (by omega)).mp z))]
          exact zbits_f (p := fun r => !zDn B m r) (by show (!zDn B m i) = false; rw [zDn_t q]; rfl)
      have f9 : ∀ a c, (a = 200 → c ≠ 29) → gI w9 a c = gI v a c := fun a c q => by
        rw [e9, gI_sI]
        exact if_neg (fun z => q z.1 z.2)
      refine ⟨zi_in (by omega) (by omega), ?_⟩
      intro w11 e11
      rw [zi_nat (show i < 2 ^ 31 by omega)] at e11
      have f11 : ∀ a c, (a = 228 → c ≠ i) → gI w11 a c = gI w9 a c := fun a c q => by
        rw [e11, gI_sI]
        exact if_neg (fun z => q z.1 z.2)
      have t11 : gI w11 220 (4 + i) = S (4 + i) := by rw [f11 _ _ (by omega), f9 _ _ (by omega), hT]
      have hend : ∀ t : Int32, Int32.ofNat (zbits i (zOf B S m)) ||| t = Int32.ofNat (zbits (i + 1) (zOf B S m)) → fX12_goes_J166 k (fX12_goes_L19 k n) (Int32.ofNat (zLv B i m)) (Int32.ofNat i) t (gI w11 200 30) w11 := by
        intro t ht w14 e14
        have h30 : gI w11 200 30 = Int32.ofNat (zbits i (zOf B S m)) := by rw [f11 _ _ (by omega), f9 _ _ (by omega)]; exact v30
        rw [h30, ht] at e14
        rw [zl1, zi_add]
        refine hc (Int32.ofNat (zLv B i m), Int32.ofNat (i + 1), w14) ⟨w14, by rw [zTh_S], by rw [e14, e11, e9]; exact v2, fun a c q1 q2 => ?_, ?_, ?_, fun r hr => ?_⟩
        · rw [e14, gI_sI, if_neg (fun z => (q2 z.1).2 z.2), f11 a c (fun z => absurd z q1), f9 a c (fun z => (q2 z).1)]
          exact vf a c q1 q2
        · rw [e14, gI_sI_ne2 (by decide), f11 _ _ (by omega)]; exact e29
        · rw [e14, gI_sI_eq]
        · rw [e14, gI_sI_ne (by decide)]
          by_cases q : r = i
          · rw [q, e11, gI_sI_eq]
          · rw [f11 _ _ (fun _ => q), f9 _ _ (by omega)]
            exact vb r (by omega)
      rw [zl4, zi_add, zi_nat (show 4 + i < 2 ^ 31 by omega), t11]
      refine ⟨zi_in (by omega) (by omega), fun q => ?_, fun q => ?_⟩
      · refine hend 0 ?_
        refine zbits_f (zOf_f1 ?_)
        rcases hd.2.2.1 i (by omega) with z | ⟨c, c1, c2⟩
        · exact z
        · rw [c2] at q; exact absurd q (zi_0le (by omega))
      · intro v15 e15
        have hne : ¬ S (4 + i) = zN1 := fun z => q (by rw [z]; decide)
        by_cases z : S (4 + i) = Int32.ofNat (zLv B i m)
        · rw [if_pos z] at e15
          subst e15
          exact hend 0 (zbits_f (zOf_f2 z))
        · rw [if_neg z, zi_shl1 (by omega)] at e15
          subst e15
          exact hend _ (zbits_t (by omega) (zOf_t hne z))
    refine zrun (fun n' (s : Int32 × Int32 × Int32) => fX12_goes_L35 k (fX12_goes_L19 k n) n' (Int32.ofNat (zTh B i m)) (Int32.ofNat i) s.1 s.2.1 s.2.2 v) (fun j => (Int32.ofNat (zsum j (fun o => bU B i o * (m o / 3))), Int32.ofNat (zsum j (fun o => bU B i o * (m o % 3))), Int32.ofNat j)) (bW B) (fun n' => ?_) (fun j n' hj hc' => ?_)
    · rw [fX12_goes_L35]
      show fX12_wordsTold v _
      rw [fX12_wordsTold, show (0 : Int32).toNatClampNeg = 0 from rfl, hW]
      refine ⟨fun _ => ?_, fun q => absurd (Int32.le_refl _) q⟩
      intro v8 e8
      subst e8
      exact hJ
    · have hmj := hm9 j
      simp (disch := omega) only [fX12_goes_L35, fX12_wordsTold, hW, hU j (by omega), hM j hj, ↓zln1, ↓zln2, zl0, zl1, zl2, zl3, zl4, zl5, zl6, zl7, zl8, zl9, zl10, zl12, zl15, zl16, zl20, zl24, zl30, zl32, zl36, zl40, zl48, zl57, zl59, zl60, zl61, zl97, zl99, zl120, zl121, zl122, zl126, zl165, zl255, zl480, zl968, zl1000, zl1100, zi_add, zi_mul, zi_sub, zi_div, zi_mod, zi_nat, zt_le, zf_le, zt_lt, zf_lt, zt_eq, zf_eq, zt_vp, zt_N1lt, zf_N1lt, zf_N1eq, zf_eqN1, zt_N1eq, zt_N1le, zf_leN1, zi_nN1, zi_a1, zi_a15, zi_a255, zi_shr, zi_bit, zt_b0, zt_b1, forall_eq, if_true, if_false, true_implies, false_implies, not_true_eq_false, not_false_eq_true, and_true, true_and, gI_sI_eq, gI_sI_ne, gI_sI_ne2, gL_sI, gR_sI, gI_sL, gL_sL_eq, gL_sL_ne, gL_sL_ne2, gR_sL, gI_sR, gL_sR, gR_sR_eq, gR_sR_ne, gR_sR_ne2, gI_aI_eq, gI_aI_ne, gL_aI, gR_aI]
      exact hc'
theorem q12_laysL {B : zBk} {S : Nat → Int32} {d : Nat} {w : zW} {k : Int32 → zW → Prop} (h4 : bW B ≤ 4) (hW0 : gI w 210 0 = Int32.ofNat (bW B)) (hMn0 : ∀ o m, o < 4 → m < 9 → gI w 223 (9 * o + m) = if bMn B o m = true then Int32.ofNat 1 else Int32.ofNat 0) (hd : zHd B S) (hS : ∀ i, i < 12 → gI w 220 i = S i) (hdl : d < 9 ^ bW B)
    (hk : ∀ v : zW, v.2 = w.2 → (∀ a c, a ≠ 227 → gI v a c = gI w a c) → (∀ o, o < bW B → gI v 227 o = Int32.ofNat (zdm (bW B) d o)) → k (Int32.ofNat (if (zAl B d && zGu B S d) = true then 1 else 0)) v) : fX12_lays (Int32.ofNat d) w k := by
  have h9 : 9 ^ bW B ≤ 6561 := Nat.pow_le_pow_right (n := 9) (by omega) h4
  have hW := hW0
  rw [fX12_lays, fX12_wordsTold, show (0 : Int32).toNatClampNeg = 0 from rfl, hW]
  intro v2 e2
  have hgo : ∀ (c n f : Nat) (v : zW), c ≤ bW B → c < n → v.2 = w.2 → (∀ a e, a ≠ 227 → gI v a e = gI w a e) → (∀ o, c ≤ o → o < bW B → gI v 227 o = Int32.ofNat (zdm (bW B) d o)) → f < 2 →
      (f = 1 ↔ ∀ o, c ≤ o → o < bW B → bMn B o (zdm (bW B) d o) = true ∧ (S o = zN1 ∨ S o = Int32.ofNat (zdm (bW B) d o))) →
      fX12_lays_L12 k n (Int32.ofNat (d / 9 ^ (bW B - c))) (Int32.ofNat f) (if c = 0 then zN1 else Int32.ofNat (c - 1)) v := by
    intro c
    induction c with
    | zero =>
      intro n f v hc hn v2 vf vm hf2 hf
      obtain ⟨n, rfl⟩ : ∃ m, n = m + 1 := ⟨n - 1, by omega⟩
      rw [if_pos rfl, fX12_lays_L12]
      have ef : f = (if (zAl B d && zGu B S d) = true then 1 else 0) := by
        by_cases q : f = 1
        · have hq := hf.mp q
          rw [if_pos (by rw [Bool.and_eq_true]; exact ⟨decide_eq_true (fun o ho => (hq o (Nat.zero_le o) ho).1), decide_eq_true (fun o ho => (hq o (Nat.zero_le o) ho).2)⟩)]
          exact q
        · rw [if_neg (fun z => by rw [Bool.and_eq_true] at z; exact q (hf.mpr (fun o _ ho => ⟨of_decide_eq_true z.1 o ho, of_decide_eq_true z.2 o ho⟩)))]
          omega
      refine ⟨fun _ => ⟨?_, ?_⟩, fun q => absurd zN1_lt q⟩
      · rcases (show f = 0 ∨ f = 1 by omega) with q | q
        · rw [q]; exact Or.inl rfl
        · rw [q]; exact Or.inr rfl
      · rw [ef]
        exact hk v v2 vf (fun o ho => vm o (Nat.zero_le o) ho)
    | succ c ih =>
      intro n f v hc hn v2 vf vm hf2 hf
      obtain ⟨n, rfl⟩ : ∃ m, n = m + 1 := ⟨n - 1, by omega⟩
      rw [if_neg (by omega), Nat.add_sub_cancel]
      have hp : 0 < 9 ^ (bW B - (c + 1)) := Nat.pow_pos (by omega)
      have hle : d / 9 ^ (bW B - (c + 1)) ≤ d := Nat.div_le_self _ _
      have em : d / 9 ^ (bW B - (c + 1)) % 9 = zdm (bW B) d c := by
        rw [zdm, if_pos (by omega), show bW B - 1 - c = bW B - (c + 1) by omega]
      have ed : d / 9 ^ (bW B - (c + 1)) / 9 = d / 9 ^ (bW B - c) := by
        rw [Nat.div_div_eq_div_mul, ← Nat.pow_succ, show (bW B - (c + 1)).succ = bW B - c by omega]
      have hml := zdm_lt (bW B) d c
      have hnext : ∀ (f' : Nat) (u : zW), u = sI v 227 c (Int32.ofNat (zdm (bW B) d c)) → f' < 2 → (f' = 1 ↔ f = 1 ∧ bMn B c (zdm (bW B) d c) = true ∧ (S c = zN1 ∨ S c = Int32.ofNat (zdm (bW B) d c))) → fX12_lays_L12 k n (Int32.ofNat (d / 9 ^ (bW B - c))) (Int32.ofNat f') (Int32.ofNat c + zN1) u := by
        intro f' u hu hf2' hf'
        have e : Int32.ofNat c + zN1 = (if c = 0 then zN1 else Int32.ofNat (c - 1)) := by
          by_cases z : c = 0
          · rw [if_pos z, z]; rfl
          · rw [if_neg z]
            have e : Int32.ofNat c = Int32.ofNat (c - 1) + 1 := by rw [zi_succ]; exact congrArg _ (by omega)
            rw [e, Int32.add_assoc, show (1 : Int32) + zN1 = 0 from rfl, Int32.add_zero]
        rw [e]
        refine ih n f' u (by omega) (by omega) (by rw [hu]; exact v2) (fun a e q => by rw [hu, gI_sI_ne q]; exact vf a e q) (fun o q1 q2 => ?_) hf2' ?_
        · rw [hu]
          by_cases z : o = c
          · rw [z, gI_sI_eq]
          · rw [gI_sI_ne2 z]; exact vm o (by omega) q2
        · rw [hf', hf]
          refine ⟨fun z o q1 q2 => ?_, fun z => ⟨fun o q1 q2 => z o (by omega) q2, z c (Nat.le_refl _) (by omega)⟩⟩
          by_cases y : o = c
          · rw [y]; exact z.2
          · exact z.1 o (by omega) q2
      have e23 : gI v 223 (9 * c + zdm (bW B) d c) = if bMn B c (zdm (bW B) d c) = true then Int32.ofNat 1 else Int32.ofNat 0 := by rw [vf 223 _ (by omega)]; exact hMn0 _ _ (by omega) hml
      have e20 : gI v 220 c = S c := by rw [vf 220 _ (by omega)]; exact hS c (by omega)
      by_cases q0 : f = 0
      · subst q0
        simp (disch := omega) only [fX12_lays_L12, em, ed, ↓zln1, ↓zln2, zl0, zl1, zl2, zl3, zl4, zl5, zl6, zl7, zl8, zl9, zl10, zl12, zl15, zl16, zl20, zl24, zl30, zl32, zl36, zl40, zl48, zl57, zl59, zl60, zl61, zl97, zl99, zl120, zl121, zl122, zl126, zl165, zl255, zl480, zl968, zl1000, zl1100, zi_add, zi_mul, zi_sub, zi_div, zi_mod, zi_nat, zt_le, zf_le, zt_lt, zf_lt, zt_eq, zf_eq, zt_vp, zt_N1lt, zf_N1lt, zf_N1eq, zf_eqN1, zt_N1eq, zt_N1le, zf_leN1, zi_nN1, zi_a1, zi_a15, zi_a255, zi_shr, zi_bit, zt_b0, zt_b1, forall_eq, if_true, if_false, true_implies, false_implies, not_true_eq_false, not_false_eq_true, and_true, true_and, gI_sI_eq, gI_sI_ne, gI_sI_ne2, gL_sI, gR_sI, gI_sL, gL_sL_eq, gL_sL_ne, gL_sL_ne2, gR_sL, gI_sR, gL_sR, gR_sR_eq, gR_sR_ne, gR_sR_ne2, gI_aI_eq, gI_aI_ne, gL_aI, gR_aI]
        exact hnext 0 _ rfl (by omega) ⟨fun z => absurd z (by decide), fun z => absurd z.1 (by decide)⟩
      · have q1 : f = 1 := by omega
        subst q1
        by_cases qm : bMn B c (zdm (bW B) d c) = true
        · rw [if_pos qm] at e23
          rcases hd.1 c (by omega) with e | ⟨y, y1, y2⟩
          · rw [e] at e20
            simp (disch := omega) only [fX12_lays_L12, em, ed, e23, e20, ↓zln1, ↓zln2, zl0, zl1, zl2, zl3, zl4, zl5, zl6, zl7, zl8, zl9, zl10, zl12, zl15, zl16, zl20, zl24, zl30, zl32, zl36, zl40, zl48, zl57, zl59, zl60, zl61, zl97, zl99, zl120, zl121, zl122, zl126, zl165, zl255, zl480, zl968, zl1000, zl1100, zi_add, zi_mul, zi_sub, zi_div, zi_mod, zi_nat, zt_le, zf_le, zt_lt, zf_lt, zt_eq, zf_eq, zt_vp, zt_N1lt, zf_N1lt, zf_N1eq, zf_eqN1, zt_N1eq, zt_N1le, zf_leN1, zi_nN1, zi_a1, zi_a15, zi_a255, zi_shr, zi_bit, zt_b0, zt_b1, forall_eq, if_true, if_false, true_implies, false_implies, not_true_eq_false, not_false_eq_true, and_true, true_and, gI_sI_eq, gI_sI_ne, gI_sI_ne2, gL_sI, gR_sI, gI_sL, gL_sL_eq, gL_sL_ne, gL_sL_ne2, gR_sL, gI_sR, gL_sR, gR_sR_eq, gR_sR_ne, gR_sR_ne2, gI_aI_eq, gI_aI_ne, gL_aI, gR_aI]
            exact hnext 1 _ rfl (by omega) ⟨fun _ => ⟨rfl, qm, Or.inl e⟩, fun _ => rfl⟩
          · rw [y2] at e20
            by_cases z : y = zdm (bW B) d c
            · simp (disch := omega) only [fX12_lays_L12, em, ed, e23, e20, ↓zln1, ↓zln2, zl0, zl1, zl2, zl3, zl4, zl5, zl6, zl7, zl8, zl9, zl10, zl12, zl15, zl16, zl20, zl24, zl30, zl32, zl36, zl40, zl48, zl57, zl59, zl60, zl61, zl97, zl99, zl120, zl121, zl122, zl126, zl165, zl255, zl480, zl968, zl1000, zl1100, zi_add, zi_mul, zi_sub, zi_div, zi_mod, zi_nat, zt_le, zf_le, zt_lt, zf_lt, zt_eq, zf_eq, zt_vp, zt_N1lt, zf_N1lt, zf_N1eq, zf_eqN1, zt_N1eq, zt_N1le, zf_leN1, zi_nN1, zi_a1, zi_a15, zi_a255, zi_shr, zi_bit, zt_b0, zt_b1, forall_eq, if_true, if_false, true_implies, false_implies, not_true_eq_false, not_false_eq_true, and_true, true_and, gI_sI_eq, gI_sI_ne, gI_sI_ne2, gL_sI, gR_sI, gI_sL, gL_sL_eq, gL_sL_ne, gL_sL_ne2, gR_sL, gI_sR, gL_sR, gR_sR_eq, gR_sR_ne, gR_sR_ne2, gI_aI_eq, gI_aI_ne, gL_aI, gR_aI]
              exact hnext 1 _ rfl (by omega) ⟨fun _ => ⟨rfl, qm, Or.inr (by rw [y2, z])⟩, fun _ => rfl⟩
            · simp (disch := omega) only [fX12_lays_L12, em, ed, e23, e20, ↓zln1, ↓zln2, zl0, zl1, zl2, zl3, zl4, zl5, zl6, zl7, zl8, zl9, zl10, zl12, zl15, zl16, zl20, zl24, zl30, zl32, zl36, zl40, zl48, zl57, zl59, zl60, zl61, zl97, zl99, zl120, zl121, zl122, zl126, zl165, zl255, zl480, zl968, zl1000, zl1100, zi_add, zi_mul, zi_sub, zi_div, zi_mod, zi_nat, zt_le, zf_le, zt_lt, zf_lt, zt_eq, zf_eq, zt_vp, zt_N1lt, zf_N1lt, zf_N1eq, zf_eqN1, zt_N1eq, zt_N1le, zf_leN1, zi_nN1, zi_a1, zi_a15, zi_a255, zi_shr, zi_bit, zt_b0, zt_b1, forall_eq, if_true, if_false, true_implies, false_implies, not_true_eq_false, not_false_eq_true, and_true, true_and, gI_sI_eq, gI_sI_ne, gI_sI_ne2, gL_sI, gR_sI, gI_sL, gL_sL_eq, gL_sL_ne, gL_sL_ne2, gR_sL, gI_sR, gL_sR, gR_sR_eq, gR_sR_ne, gR_sR_ne2, gI_aI_eq, gI_aI_ne, gL_aI, gR_aI]
              refine hnext 0 _ rfl (by omega) ⟨fun x => absurd x (by decide), fun x => ?_⟩
              rcases x.2.2 with x1 | x1
              · rw [y2] at x1; exact absurd x1 (zN1_ne (by omega))
              · rw [y2] at x1; exact absurd ((zi_eq (by omega) (by omega)).mp x1) z
        · rw [if_neg qm] at e23
          simp (disch := omega) only [fX12_lays_L12, em, ed, e23, ↓zln1, ↓zln2, zl0, zl1, zl2, zl3, zl4, zl5, zl6, zl7, zl8, zl9, zl10, zl12, zl15, zl16, zl20, zl24, zl30, zl32, zl36, zl40, zl48, zl57, zl59, zl60, zl61, zl97, zl99, zl120, zl121, zl122, zl126, zl165, zl255, zl480, zl968, zl1000, zl1100, zi_add, zi_mul, zi_sub, zi_div, zi_mod, zi_nat, zt_le, zf_le, zt_lt, zf_lt, zt_eq, zf_eq, zt_vp, zt_N1lt, zf_N1lt, zf_N1eq, zf_eqN1, zt_N1eq, zt_N1le, zf_leN1, zi_nN1, zi_a1, zi_a15, zi_a255, zi_shr, zi_bit, zt_b0, zt_b1, forall_eq, if_true, if_false, true_implies, false_implies, not_true_eq_false, not_false_eq_true, and_true, true_and, gI_sI_eq, gI_sI_ne, gI_sI_ne2, gL_sI, gR_sI, gI_sL, gL_sL_eq, gL_sL_ne, gL_sL_ne2, gR_sL, gI_sR, gL_sR, gR_sR_eq, gR_sR_ne, gR_sR_ne2, gI_aI_eq, gI_aI_ne, gL_aI, gR_aI]
          exact hnext 0 _ rfl (by omega) ⟨fun x => absurd x (by decide), fun x => absurd x.2.1 qm⟩
  have e3 : v2 = (if bW B = 0 then zN1 else Int32.ofNat (bW B - 1)) := by
    rw [e2]
    by_cases q : bW B = 0
    · rw [if_pos q, q]; rfl
    · rw [if_neg q, zl1, zi_sub (by omega)]
  rw [e3]
  have h0 := hgo (bW B) (bW B + 1) 1 w (Nat.le_refl _) (by omega) rfl (fun _ _ _ => rfl) (fun o q1 q2 => by omega) (by omega) ⟨fun _ o q1 q2 => by omega, fun _ => rfl⟩
  rw [Nat.sub_self, Nat.pow_zero, Nat.div_one] at h0
  exact ⟨bW B + 1, h0⟩

/-- a row's sums when one word stands in place of another -/
theorem zsum_mis {U g : Nat → Nat} {o x : Nat} (hox : ¬ o = x) (hu : 0 < U o) : ∀ n, zsum n (fun p => (if p = o then U p - 1 else if p = x then U p + 1 else U p) * g p) + (if o < n then g o else 0) = zsum n (fun p => U p * g p) + (if x < n then g x else 0) := by
  intro n
  induction n with
  | zero => rfl
  | succ n ih =>
    rw [zsum_S, zsum_S]
    by_cases e1 : n = o
    · have e2 : ¬ n = x := fun z => hox (e1.symm.trans z)
      rw [if_pos e1, if_pos (show o < n + 1 by omega)]
      rw [if_neg (show ¬ o < n by omega)] at ih
      have e3 : (if x < n + 1 then g x else 0) = (if x < n then g x else 0) := by
        by_cases y : x < n
        · rw [if_pos y, if_pos (by omega)]
        · rw [if_neg y, if_neg (by omega)]
      rw [e3, e1]
      rw [e1] at ih
      obtain ⟨u, hu2⟩ : ∃ u, U o = u + 1 := ⟨U o - 1, by omega⟩
      rw [hu2, Nat.add_sub_cancel, Nat.succ_mul]
      omega
    · have e3 : (if o < n + 1 then g o else 0) = (if o < n then g o else 0) := by
        by_cases y : o < n
        · rw [if_pos y, if_pos (by omega)]
        · rw [if_neg y, if_neg (by omega)]
      rw [if_neg e1, e3]
      by_cases e2 : n = x
      · rw [if_pos e2, if_pos (show x < n + 1 by omega)]
        rw [if_neg (show ¬ x < n by omega)] at ih
        rw [← e2] at ih
        rw [← e2, Nat.succ_mul]
        omega
      · have e4 : (if x < n + 1 then g x else 0) = (if x < n then g x else 0) := by
          by_cases y : x < n
          · rw [if_pos y, if_pos (by omega)]
          · rw [if_neg y, if_neg (by omega)]
        rw [if_neg e2, e4]
        omega
theorem zmis_U (B : zBk) (r o x s p : Nat) : bU (zMis B r o x) s p = if s = r then (if p = o then bU B s p - 1 else if p = x then bU B s p + 1 else bU B s p) else bU B s p := rfl
theorem zmis_sum {B : zBk} {r o x : Nat} (hox : ¬ o = x) (hu : 0 < bU B r o) (ho : o < bW B) (hx : x < bW B) (g : Nat → Nat) : zsum (bW B) (fun p => bU (zMis B r o x) r p * g p) + g o = zsum (bW B) (fun p => bU B r p * g p) + g x := by
  have h := zsum_mis (U := bU B r) (g := g) hox hu (bW B)
  rw [if_pos ho, if_pos hx] at h
  rw [← h]
  refine congrArg (· + g o) (zsum_congr (fun p _ => ?_))
  rw [zmis_U, if_pos rfl]
theorem zmis_Tk {B : zBk} {r o x : Nat} (hox : ¬ o = x) (hu : 0 < bU B r o) (ho : o < bW B) (hx : x < bW B) (m : Nat → Nat) : zTk (zMis B r o x) r m + m o / 3 = zTk B r m + m x / 3 := zmis_sum hox hu ho hx (fun p => m p / 3)
theorem zmis_Lv {B : zBk} {r o x : Nat} (hox : ¬ o = x) (hu : 0 < bU B r o) (ho : o < bW B) (hx : x < bW B) (m : Nat → Nat) : zLv (zMis B r o x) r m + m o % 3 = zLv B r m + m x % 3 := zmis_sum hox hu ho hx (fun p => m p % 3)
theorem zmis_Tk2 {B : zBk} {r o x s : Nat} (hs : ¬ s = r) (m : Nat → Nat) : zTk (zMis B r o x) s m = zTk B s m :=
  zsum_congr (fun p _ => by rw [zmis_U, if_neg hs])
theorem zmis_Lv2 {B : zBk} {r o x s : Nat} (hs : ¬ s = r) (m : Nat → Nat) : zLv (zMis B r o x) s m = zLv B s m :=
  zsum_congr (fun p _ => by rw [zmis_U, if_neg hs])
theorem zmis_Th (B : zBk) (r o x s : Nat) (m : Nat → Nat) : zTh (zMis B r o x) s m = if s = 0 then bC B else zLv (zMis B r o x) (s - 1) m := rfl
theorem zdn_iff {B : zBk} {m : Nat → Nat} : zdn B m = 0 ↔ ∀ s, s < bR B → zTk B s m = zTh B s m := by
  rw [zdn, zbits_zero]
  refine ⟨fun h s hs => ?_, fun h s hs => zDn_f (h s hs)⟩
  have := of_decide_eq_false (h s hs)
  exact Decidable.of_not_not this
theorem zOf_iff {B : zBk} {S : Nat → Int32} {m : Nat → Nat} {s : Nat} : zOf B S m s = false ↔ (S (4 + s) = zN1 ∨ S (4 + s) = Int32.ofNat (zLv B s m)) := by
  refine ⟨fun h => ?_, fun h => ?_⟩
  · have h1 := of_decide_eq_false h
    by_cases e : S (4 + s) = zN1
    · exact Or.inl e
    · by_cases e2 : S (4 + s) = Int32.ofNat (zLv B s m)
      · exact Or.inr e2
      · exact absurd ⟨e, e2⟩ h1
  · rcases h with e | e
    · exact zOf_f1 e
    · exact zOf_f2 e
theorem zof_iff {B : zBk} {S : Nat → Int32} {m : Nat → Nat} : zof B S m = 0 ↔ ∀ s, s < bR B → (S (4 + s) = zN1 ∨ S (4 + s) = Int32.ofNat (zLv B s m)) := by
  rw [zof, zbits_zero]
  exact ⟨fun h s hs => zOf_iff.mp (h s hs), fun h s hs => zOf_iff.mpr (h s hs)⟩
/-- that a dictionary fits when one word stands in place of another: seen from the book as it is told -/
def zMd (B : zBk) (S : Nat → Int32) (r o x : Nat) (m : Nat → Nat) : Bool := zdn (zMis B r o x) m == 0 && zof (zMis B r o x) S m == 0
theorem zMd_iff {B : zBk} {S : Nat → Int32} {r o x : Nat} {m : Nat → Nat} (hr : r < bR B) (hox : ¬ o = x) (hu : 0 < bU B r o) (ho : o < bW B) (hx : x < bW B) :
    zMd B S r o x m = true ↔ (∀ s, s < bR B → ¬ s = r → ¬ s = r + 1 → zTk B s m = zTh B s m) ∧ (∀ s, s < bR B → ¬ s = r → zOf B S m s = false) ∧ zTk B r m + m x / 3 = zTh B r m + m o / 3 ∧ m o % 3 ≤ zLv B r m + m x % 3 ∧
      (S (4 + r) = zN1 ∨ S (4 + r) = Int32.ofNat (zLv B r m + m x % 3 - m o % 3)) ∧ (r + 1 < bR B → zTk B (r + 1) m = zLv B r m + m x % 3 - m o % 3) := by
  have a1 := zmis_Tk hox hu ho hx m
  have a2 := zmis_Lv hox hu ho hx m
  have a3 : zLv (zMis B r o x) r m = zLv B r m + m x % 3 - m o % 3 := by omega
  have hR : bR (zMis B r o x) = bR B := rfl
  have hth : ∀ s, ¬ s = r + 1 → zTh (zMis B r o x) s m = zTh B s m := fun s hs => by
    rw [zmis_Th, zTh]
    by_cases e : s = 0
    · rw [if_pos e, if_pos e]
    · rw [if_neg e, if_neg e]; exact zmis_Lv2 (by omega) m
  have hth1 : zTh (zMis B r o x) (r + 1) m = zLv B r m + m x % 3 - m o % 3 := by rw [zmis_Th, if_neg (by omega), Nat.add_sub_cancel, a3]
  rw [zMd, Bool.and_eq_true, beq_iff_eq, beq_iff_eq, zdn_iff, zof_iff, hR]
  refine ⟨fun h => ⟨fun s hs n1 n2 => ?_, fun s hs n1 => ?_, ?_, by omega, ?_, fun h1 => ?_⟩, fun h => ⟨fun s hs => ?_, fun s hs => ?_⟩⟩
  · have := h.1 s hs
    rw [zmis_Tk2 n1, hth s n2] at this
    exact this
  · have := h.2 s hs
    rw [zmis_Lv2 n1] at this
    exact zOf_iff.mpr this
  · have := h.1 r hr
    rw [hth r (by omega)] at this
    omega
  · have := h.2 r hr
    rw [a3] at this
    exact this
  · have := h.1 (r + 1) h1
    rw [zmis_Tk2 (by omega), hth1] at this
    exact this
  · by_cases n1 : s = r
    · rw [n1, hth r (by omega)]
      have := h.2.2.1
      omega
    · rw [zmis_Tk2 n1]
      by_cases n2 : s = r + 1
      · rw [n2, hth1]
        exact h.2.2.2.2.2 (by omega)
      · rw [hth s n2]
        exact h.1 s hs n1 n2
  · by_cases n1 : s = r
    · rw [n1, a3]
      exact h.2.2.2.2.1
    · rw [zmis_Lv2 n1]
      exact zOf_iff.mp (h.2.1 s hs n1)
theorem zHp_eq (B : zBk) (S : Nat → Int32) (r o x : Nat) : zHp B S r o x = (decide (¬ o = x) && decide (0 < bU B r o) && (zGL B S).any (fun d => zMd B S r o x (zdm (bW B) d))) := rfl
theorem zGL_any (B : zBk) (S : Nat → Int32) (f : Nat → Bool) : (zGL B S).any f = (List.range (9 ^ bW B)).any (fun d => (zAl B d && zGu B S d) && f d) := by
  rw [zGL, zAL, List.filter_filter, List.any_filter]
  congr 1
  funext d
  rw [Bool.and_comm (zGu B S d)]

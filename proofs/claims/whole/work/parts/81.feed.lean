/-! Level 2: feed -/
theorem zfeedB (b : BitVec 64) {s : Nat} (hs : s ≤ 56) : (b >>> s).signExtend 32 &&& 255#32 = (b.sshiftRight s).signExtend 32 &&& 255#32 := by
  apply BitVec.eq_of_getLsbD_eq
  intro j hj
  rw [BitVec.getLsbD_and, BitVec.getLsbD_and]
  by_cases h : j < 8
  · have e : ((b >>> s).signExtend 32).getLsbD j = ((b.sshiftRight s).signExtend 32).getLsbD j := by
      rw [BitVec.getLsbD_signExtend, BitVec.getLsbD_signExtend, BitVec.getLsbD_ushiftRight, BitVec.getLsbD_sshiftRight]
      rw [if_pos (show j < 64 by omega), if_pos (show j < 64 by omega), if_pos (show s + j < 64 by omega), decide_eq_false (show ¬ 64 ≤ j by omega)]
      rfl
    rw [e]
  · have e : (255#32).getLsbD j = false := by
      rw [BitVec.getLsbD_ofNat, Nat.testBit_lt_two_pow (Nat.lt_of_lt_of_le (show 255 < 2 ^ 8 by decide) (Nat.pow_le_pow_right (by omega) (by omega))), Bool.and_false]
    rw [e, Bool.and_false, Bool.and_false]
theorem zfeedF {i : Nat} (hi : i < 8) (x : Int64) : (((x.toUInt64 >>> ((Int32.ofNat (56 - 8 * i)).toInt64.toUInt64 &&& Int64.toUInt64 63)).toInt64).toInt32) &&& (255 : Int32) = ((x >>> ((Int32.ofNat (56 - 8 * i)).toInt64 &&& 63)).toInt32) &&& (255 : Int32) := by
  apply Int32.toBitVec_inj.mp
  rcases (show i = 0 ∨ i = 1 ∨ i = 2 ∨ i = 3 ∨ i = 4 ∨ i = 5 ∨ i = 6 ∨ i = 7 by omega) with e | e | e | e | e | e | e | e <;> subst e
  · exact zfeedB x.toBitVec (s := 56) (by omega)
  · exact zfeedB x.toBitVec (s := 48) (by omega)
  · exact zfeedB x.toBitVec (s := 40) (by omega)
  · exact zfeedB x.toBitVec (s := 32) (by omega)
  · exact zfeedB x.toBitVec (s := 24) (by omega)
  · exact zfeedB x.toBitVec (s := 16) (by omega)
  · exact zfeedB x.toBitVec (s := 8) (by omega)
  · exact zfeedB x.toBitVec (s := 0) (by omega)
/-- alike: two rows of one shape -/
def zalike (B : zBk) (r o : Nat) : Prop := bLn B r = bLn B o ∧ ∀ i j, i < bLn B r → j < i → (bIt B r i = bIt B r j ↔ bIt B o i = bIt B o j)
theorem q0_sameShape {B : zBk} {b r o : Nat} {w : zW} {k : Int32 → zW → Prop} (hwf : zWF B) (hB : zCB B b w) (hr : r < bR B) (ho : o < bR B) (h1 : zalike B r o → k (Int32.ofNat 1) w) (h0 : ¬ zalike B r o → k (Int32.ofNat 0) w) : fX0_sameShape b (Int32.ofNat r) (Int32.ofNat o) w k := by
  have h8 := wf_R hwf
  have l1 := wf_Ln hwf hr
  have l2 := wf_Ln hwf ho
  rw [fX0_sameShape]
  refine ⟨zi_in (by omega) (by omega), zi_in (by omega) (by omega), ?_⟩
  rw [zi_nat (show r < 2 ^ 31 by omega), zi_nat (show o < 2 ^ 31 by omega), cb_Ln hB hr, cb_Ln hB ho]
  refine ⟨fun q => ?_, fun q => h0 (fun z => q (by rw [z.1]))⟩
  have hlen : bLn B r = bLn B o := (zi_eq (by omega) (by omega)).mp q
  refine zinv (fun n (s : Int32) => fX0_sameShape_L19 b k n (Int32.ofNat r) (Int32.ofNat o) s w) (fun i s => s = Int32.ofNat i ∧ ∀ i' j, i' < i → j < i' → (bIt B r i' = bIt B r j ↔ bIt B o i' = bIt B o j)) (bLn B r) (s0 := 0) ⟨rfl, fun i' j hi => absurd hi (Nat.not_lt_zero i')⟩ ?_ ?_
  · rintro n s ⟨rfl, hj⟩
    rw [fX0_sameShape_L19]
    try dsimp only
    rw [zi_nat (show r < 2 ^ 31 by omega), cb_Ln hB hr]
    exact ⟨zi_in (by omega) (by omega), fun _ => h1 ⟨hlen, fun i j a b => hj i j a b⟩, fun q => absurd (Int32.le_refl _) q⟩
  · rintro i n s hi ⟨rfl, hj⟩ hc
    rw [fX0_sameShape_L19]
    try dsimp only
    rw [zi_nat (show r < 2 ^ 31 by omega), cb_Ln hB hr]
    refine ⟨zi_in (by omega) (by omega), fun q => absurd q (zi_nge hi (by omega)), fun _ => ?_⟩
    refine zinv (fun n' (s : Int32) => fX0_sameShape_L32 b k (fX0_sameShape_L19 b k n) n' (Int32.ofNat r) (Int32.ofNat o) (Int32.ofNat i) s w) (fun j s => s = Int32.ofNat j ∧ ∀ j', j' < j → (bIt B r i = bIt B r j' ↔ bIt B o i = bIt B o j')) i (s0 := 0) ⟨rfl, fun j' hj => absurd hj (Nat.not_lt_zero j')⟩ ?_ ?_
    · rintro n' s ⟨rfl, hjj⟩
      rw [fX0_sameShape_L32]
      try dsimp only
      refine ⟨fun _ => ?_, fun q => absurd (Int32.le_refl _) q⟩
      rw [zl1, zi_add]
      refine hc _ ⟨rfl, fun i' j a c => ?_⟩
      by_cases e : i' = i
      · rw [e] at c ⊢; exact hjj j c
      · exact hj i' j (by omega) c
    · rintro j n' s hji ⟨rfl, hjj⟩ hc'
      rw [fX0_sameShape_L32]
      try dsimp only
      refine ⟨fun q => absurd q (zi_nge hji (by omega)), fun _ => ?_⟩
      refine q0_wordAt hwf hB hr hi (q0_wordAt hwf hB hr (by omega) ?_)
      intro v9 e9
      refine q0_wordAt hwf hB ho (by omega) (q0_wordAt hwf hB ho (by omega) ?_)
      intro v12 e12
      have x9 : v9 = (if bIt B r i = bIt B r j then 1 else 0) := by
        rw [e9]
        by_cases z : bIt B r i = bIt B r j
        · rw [if_pos z]; exact if_neg (fun y => y (by rw [z]))
        · rw [if_neg z]; exact if_pos (fun y => z ((zIt_eq hwf hr hi hr (by omega)).mp y))
      have x12 : v12 = (if bIt B o i = bIt B o j then 1 else 0) := by
        rw [e12]
        by_cases z : bIt B o i = bIt B o j
        · rw [if_pos z]; exact if_neg (fun y => y (by rw [z]))
        · rw [if_neg z]; exact if_pos (fun y => z ((zIt_eq hwf ho (by omega) ho (by omega)).mp y))
      have hiff : (v9 = v12) ↔ (bIt B r i = bIt B r j ↔ bIt B o i = bIt B o j) := by
        rw [x9, x12]
        by_cases z1 : bIt B r i = bIt B r j <;> by_cases z2 : bIt B o i = bIt B o j
        · rw [if_pos z1, if_pos z2]; exact ⟨fun _ => ⟨fun _ => z2, fun _ => z1⟩, fun _ => rfl⟩
        · rw [if_pos z1, if_neg z2]; exact ⟨fun y => absurd y (by decide), fun y => absurd (y.mp z1) z2⟩
        · rw [if_neg z1, if_pos z2]; exact ⟨fun y => absurd y (by decide), fun y => absurd (y.mpr z2) z1⟩
        · rw [if_neg z1, if_neg z2]; exact ⟨fun _ => ⟨fun y => absurd y z1, fun y => absurd y z2⟩, fun _ => rfl⟩
      refine ⟨fun q => ?_, fun q => h0 (fun z => q (hiff.mpr (z.2 i j hi hji)))⟩
      rw [zl1, zi_add]
      refine hc' _ ⟨rfl, fun j' a => ?_⟩
      by_cases e : j' = j
      · rw [e]; exact hiff.mp q
      · exact hjj j' (by omega)

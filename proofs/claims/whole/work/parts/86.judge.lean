/-! Level 2: notes judged by the reference; the call -/
theorem q12_forgets {w : zW} {k : zW → Prop} (hk : k (aI w 220 (fun b => if b < 4 then -1 else if b < 12 then gI w 210 (b + 4) else gI w 220 b))) : fX12_forgets w k := by
  unfold fX12_forgets
  have h0 : aI w 220 (fun b => if b < 0 then -1 else gI w 220 b) = w := aI_id (fun b => by simp)
  have h := zfor (Lp := fX12_forgets_L2 k) (fun i => aI w 220 (fun b => if b < i then -1 else gI w 220 b)) 4 (by decide) (fun n => ?_) (fun i n hi hc => ?_)
  · rw [h0] at h
    exact h
  · rw [fX12_forgets_L2]
    refine ⟨fun _ => ?_, fun h => absurd (by decide) h⟩
    have h1 := zfor (Lp := fX12_forgets_L22 k) (fun i => aI w 220 (fun b => if b < 4 then -1 else if b < 4 + i then gI w 210 (b + 4) else gI w 220 b)) 8 (by decide) (fun n => ?_) (fun i n hi hc => ?_)
    · rw [show aI w 220 (fun b => if b < 4 then -1 else if b < 4 + 0 then gI w 210 (b + 4) else gI w 220 b) = aI w 220 (fun b => if b < 4 then -1 else gI w 220 b) from aI_congr (fun b => by by_cases e : b < 4 <;> simp [e])] at h1
      exact h1
    · rw [fX12_forgets_L22]
      exact ⟨fun _ => hk, fun h => absurd (by decide) h⟩
    · rw [fX12_forgets_L22]
      refine ⟨fun h => absurd h (zi_nge (a := 8) hi (by decide)), fun _ => ?_⟩
      rw [show (8 : Int32) + Int32.ofNat i = Int32.ofNat (8 + i) from zi_add 8 i, show (4 : Int32) + Int32.ofNat i = Int32.ofNat (4 + i) from zi_add 4 i, zi_nat (by omega), zi_nat (by omega)]
      refine ⟨zi_in (by omega) (by omega), zi_in (by omega) (by omega), fun w5 e => ?_⟩
      subst e
      rw [zi_succ, sI_aI]
      rw [show gI (aI w 220 (fun b => if b < 4 then -1 else if b < 4 + i then gI w 210 (b + 4) else gI w 220 b)) 210 (8 + i) = gI w 210 (8 + i) from by rw [gI_aI]; exact if_neg (by decide)]
      rw [show aI w 220 (fun b => if b = 4 + i then gI w 210 (8 + i) else if b < 4 then -1 else if b < 4 + i then gI w 210 (b + 4) else gI w 220 b) = aI w 220 (fun b => if b < 4 then -1 else if b < 4 + (i + 1) then gI w 210 (b + 4) else gI w 220 b) from aI_congr (fun b => by
        by_cases e1 : b = 4 + i
        · subst e1
          rw [if_pos rfl, if_neg (by omega), if_pos (by omega), show 4 + i + 4 = 8 + i by omega]
        · rw [if_neg e1]
          by_cases e2 : b < 4
          · rw [if_pos e2, if_pos e2]
          · rw [if_neg e2, if_neg e2]
            by_cases e3 : b < 4 + i
            · rw [if_pos e3, if_pos (by omega)]
            · rw [if_neg e3, if_neg (by omega)])]
      exact hc
  · rw [fX12_forgets_L2]
    refine ⟨fun h => absurd h (zi_nge (a := 4) hi (by decide)), fun _ => ⟨zi_in (by omega) (by omega), fun w7 e => ?_⟩⟩
    subst e
    rw [zi_nat (by omega), zi_succ, sI_aI]
    rw [show aI w 220 (fun b => if b = i then -1 else if b < i then -1 else gI w 220 b) = aI w 220 (fun b => if b < i + 1 then -1 else gI w 220 b) from aI_congr (fun b => by
      by_cases e1 : b = i
      · rw [if_pos e1, if_pos (by omega)]
      · rw [if_neg e1]
        by_cases e2 : b < i
        · rw [if_pos e2, if_pos (by omega)]
        · rw [if_neg e2, if_neg (by omega)])]
    exact hc
/-- a line of notes is done by the reference -/
theorem q12_doesLine {B : zBk} {N : zNt} {T : Nat → Int32} {i : Nat} {w : zW} {k : Int32 → zW → Prop} (hwf : zWF B) (hB : zRB B w) (hd : zHd B T) (hN : zNwf B N) (hi : i < N.1) (hT : ∀ j, j < 12 → gI w 220 j = T j)
    (hl : gI w 217 (1 + 4 * i) = Int32.ofNat (N.2.1 i) ∧ gI w 217 (1 + 4 * i + 1) = Int32.ofNat (N.2.2.1 i) ∧ (N.2.1 i = 0 ∨ N.2.1 i = 2 → gI w 217 (1 + 4 * i + 2) = Int32.ofNat (N.2.2.2.1 i)) ∧ (N.2.1 i = 0 → gI w 217 (1 + 4 * i + 3) = Int32.ofNat (N.2.2.2.2 i)))
    (hk : k (Int32.ofNat (zb2n (zNcan B N i T))) (if zNcan B N i T = true then sI w 220 (zNslot N i) (zNval N i) else w)) : fX12_doesLine (Int32.ofNat (1 + 4 * i)) w k := by
  have h4 := wf_W hwf
  have h8 := wf_R hwf
  have h40 := hN.1
  obtain ⟨l1, l2, l3, l4⟩ := hl
  obtain ⟨a1, a2, a3, a4, a5⟩ := hN.2 i hi
  rw [fX12_doesLine, zl1, zi_add, zi_nat (show 1 + 4 * i + 1 < 2 ^ 31 by omega), zi_nat (show 1 + 4 * i < 2 ^ 31 by omega), l1, l2]
  refine ⟨zi_in (by omega) (by omega), ?_⟩
  intro v2 e2
  subst e2
  refine ⟨zi_in (by omega) (by omega), ?_⟩
  intro sv es
  subst es
  by_cases q0 : N.2.1 i = 0
  · have hw := a2 (by omega)
    have hm := a4 q0
    rw [zl2, zl3, zi_add, zi_add, zi_nat (show 1 + 4 * i + 2 < 2 ^ 31 by omega), zi_nat (show 1 + 4 * i + 3 < 2 ^ 31 by omega), l3 (Or.inl q0), l4 q0]
    refine ⟨fun _ => ⟨zi_in (by omega) (by omega), zi_in (by omega) (by omega), ?_⟩, fun q => absurd (show Int32.ofNat (N.2.1 i) = 0 by rw [q0]; rfl) q⟩
    have hcan : zNcan B N i T = bMn B (N.2.2.1 i) (3 * N.2.2.2.1 i + N.2.2.2.2 i) := by rw [zNcan, if_pos q0]
    have hsl : zNslot N i = N.2.2.1 i := by rw [zNslot, if_pos (by omega)]
    have hva : zNval N i = Int32.ofNat (3 * N.2.2.2.1 i + N.2.2.2.2 i) := by rw [zNval, if_pos q0]
    rw [hcan, hsl, hva] at hk
    refine q12_mayGuess hB (by omega) (fun t l t1 t2 t3 t4 t5 => ?_) (fun hno => ?_)
    · have e1 := (zi_eq (by omega) (by omega)).mp t3
      have e2 := (zi_eq (by omega) (by omega)).mp t4
      rw [← e1, ← e2] at t5
      rw [t5, if_pos rfl] at hk
      refine ⟨fun _ => ⟨zi_in (by omega) (by omega), ?_⟩, fun q => absurd q (by decide)⟩
      intro w11 e11
      rw [zi_nat (show N.2.2.1 i < 2 ^ 31 by omega), l3 (Or.inl q0), l4 q0, zi_mul, zi_add] at e11
      rw [e11]
      exact hk
    · have hf := hno _ _ hm.1 hm.2 rfl rfl
      rw [hf, if_neg (by decide)] at hk
      exact ⟨fun q => absurd rfl q, fun _ => hk⟩
  · refine ⟨fun q => absurd ((zi_eq (b := 0) (by omega) (by decide)).mp q) q0, fun _ => ?_⟩
    by_cases q1 : N.2.1 i = 1
    · have hw := a2 (by omega)
      have hcan : zNcan B N i T = zh T (N.2.2.1 i) := by rw [zNcan, if_neg q0, if_pos q1]
      have hsl : zNslot N i = N.2.2.1 i := by rw [zNslot, if_pos (by omega)]
      have hva : zNval N i = zN1 := by rw [zNval, if_neg q0, if_neg (by omega)]
      rw [hcan, hsl, hva] at hk
      refine ⟨fun _ => ⟨zi_in (by omega) (by omega), ?_⟩, fun q => absurd (show Int32.ofNat (N.2.1 i) = 1 by rw [q1]; rfl) q⟩
      rw [zi_nat (show N.2.2.1 i < 2 ^ 31 by omega), hT _ (by omega)]
      rcases hd.1 (N.2.2.1 i) (by omega) with e | ⟨m, m1, e⟩
      · rw [zh_f e, if_neg (by decide)] at hk
        rw [e]
        exact ⟨fun q => absurd q (by decide), fun _ => hk⟩
      · have hne : ¬ T (N.2.2.1 i) = zN1 := by rw [e]; exact zN1_ne (by omega)
        rw [zh_t hne, if_pos rfl] at hk
        rw [e]
        refine ⟨fun _ => ?_, fun q => absurd (Int32.not_lt.mp (zi_0le (by omega))) q⟩
        intro w15 e15
        rw [e15]
        exact hk
    · refine ⟨fun q => absurd ((zi_eq (b := 1) (by omega) (by decide)).mp q) q1, fun _ => ?_⟩
      have hr := a3 (by omega)
      have hsl : zNslot N i = 4 + N.2.2.1 i := by rw [zNslot, if_neg (by omega)]
      by_cases q2 : N.2.1 i = 2
      · have hcan : zNcan B N i T = true := by rw [zNcan, if_neg q0, if_neg q1, if_pos q2]
        have hva : zNval N i = Int32.ofNat (N.2.2.2.1 i) := by rw [zNval, if_neg q0, if_pos q2]
        rw [hcan, hsl, hva, if_pos rfl] at hk
        rw [zl2, zl4, zi_add, zi_add, zi_nat (show 1 + 4 * i + 2 < 2 ^ 31 by omega), zi_nat (show 4 + N.2.2.1 i < 2 ^ 31 by omega), l3 (Or.inr q2)]
        refine ⟨fun _ => ⟨zi_in (by omega) (by omega), zi_in (by omega) (by omega), ?_⟩, fun q => absurd (congrArg Int32.ofNat q2) q⟩
        intro w19 e19
        rw [e19]
        exact hk
      · refine ⟨fun q => absurd ((zi_eq (b := 2) (by omega) (by decide)).mp q) q2, fun _ => ?_⟩
        have hcan : zNcan B N i T = zh T (4 + N.2.2.1 i) := by rw [zNcan, if_neg q0, if_neg q1, if_neg q2]
        have hva : zNval N i = zN1 := by rw [zNval, if_neg q0, if_neg q2]
        rw [hcan, hsl, hva] at hk
        rw [zl4, zi_add, zi_nat (show 4 + N.2.2.1 i < 2 ^ 31 by omega), hT _ (by omega)]
        refine ⟨zi_in (by omega) (by omega), ?_⟩
        rcases hd.2.2.1 (N.2.2.1 i) (by omega) with e | ⟨m, m1, e⟩
        · rw [zh_f e, if_neg (by decide)] at hk
          rw [e]
          exact ⟨fun q => absurd q (by decide), fun _ => hk⟩
        · have hne : ¬ T (4 + N.2.2.1 i) = zN1 := by rw [e]; exact zN1_ne (by omega)
          rw [zh_t hne, if_pos rfl] at hk
          rw [e]
          refine ⟨fun _ => ?_, fun q => absurd (Int32.not_lt.mp (zi_0le (by omega))) q⟩
          intro w22 e22
          rw [e22]
          exact hk

/-! Level 2: notes judged by the class -/
theorem zfind_S {i : Nat} (hi : i < 100) (p : Nat → Bool) : zfind (i + 1) p = if zfind i p = zN1 then (if p i = true then Int32.ofNat i else zN1) else zfind i p := by
  rcases zfind_or i p with ⟨e1, e2⟩ | ⟨j, j1, j2, j3, j4⟩
  · rw [if_pos e1]
    by_cases q : p i = true
    · rw [if_pos q]; exact zfind_some (by omega) q e2
    · rw [if_neg q]
      exact zfind_none (fun j hj => by
        by_cases z : j = i
        · rw [z]; exact eq_false_of_ne_true q
        · exact e2 j (by omega))
  · rw [if_neg (by rw [j2]; exact zN1_ne (by omega)), j2]
    exact zfind_some (by omega) j3 j4
def zcb (B : zBk) (N : zNt) (i : Nat) : Bool := !zNcan B N i (zNh B N i)
def znl (B : zBk) (N : zNt) (i : Nat) : Bool := (zFL B (zNh B N (i + 1))).length == 0
theorem zNh_S (B : zBk) (N : zNt) (n : Nat) : zNh B N (n + 1) = if zNcan B N n (zNh B N n) = true then zup (zNh B N n) (zNslot N n) (zNval N n) else zNh B N n := rfl
theorem q5_judge {B : zBk} {N : zNt} {b nn big : Nat} {w : zW} {k : zW → Prop} (hwf : zWF B) (hcb : zCB B b w) (hbb : b = 40 ∨ b = 80) (hnn : nn = 120 ∨ nn = 130) (hl : zLaid B b big w) (hN : zNwf B N) (h0 : gI w nn 0 = Int32.ofNat N.1)
    (hln : ∀ i, i < N.1 → gI w (nn + 1) i = Int32.ofNat (6 + N.2.1 i) ∧ gI w (nn + 2) i = Int32.ofNat (zNslot N i) ∧ gI w (nn + 3) i = zNval N i)
    (hk : ∀ v : zW, v.2 = w.2 → (∀ a c, a ≠ nn + 5 → (a = nn → c = 0) → gI v a c = gI w a c) → gI v nn 1 = Int32.ofNat 0 → gI v nn 2 = zfind N.1 (zcb B N) → gI v nn 3 = zfind N.1 (znl B N) → gI v nn 4 = Int32.ofNat (zFL B (zNh B N N.1)).length → k v) : fX5_judge nn b w k := by
  have h40 := hN.1
  have hbig := zBig_is hl.1
  have hlen : zln (nn + 4 + 1) = 12 := by rcases hnn with e | e <;> rw [e] <;> rfl
  -- what the world of the loop keeps
  have hlaid : ∀ v : zW, v.2 = w.2 → (∀ a c, a ≠ nn + 5 → (a = nn → c ≠ 2 ∧ c ≠ 3 ∧ c ≠ 4) → gI v a c = gI w a c) → zLaid B b big v ∧ zCB B b v := by
    intro v v2 vf
    have hR : ∀ a c, gR v a c = gR w a c := fun a c => by rw [gR, gR, v2]
    obtain ⟨hB, l9, lN, l2, l7, lA, lU⟩ := hl
    refine ⟨⟨?_, by rw [hR]; exact l9, lN, by rw [vf _ _ (by omega) (by omega)]; exact l2, by rw [vf _ _ (by omega) (by omega)]; exact l7, fun i hi => by rw [vf _ _ (by omega) (by omega)]; exact lA i hi, fun i hi => by rw [vf _ _ (by omega) (by omega)]; exact lU i hi⟩, zCB_of hcb (fun a c q1 q2 => vf a c (by omega) (by omega)) hwf⟩
    exact zBig_of hB (fun c _ => hR 24 c) (fun c _ => vf 0 c (by omega) (by omega))
  rw [fX5_judge, fX3_begin]
  refine q_fill (by rw [hlen]; decide) ?_
  refine ⟨by decide, by decide, by decide, by decide, by decide, ?_⟩
  intro wa ea wb eb wc ec
  have hfa : ∀ a c, a ≠ nn + 5 → gI wa a c = gI w a c := fun a c q => by
    rw [ea, gI_cI, if_neg (fun z => q z.1), gI_aI_ne q]
  have hfc : ∀ a c, a ≠ nn + 5 → (a = nn → c ≠ 2 ∧ c ≠ 3 ∧ c ≠ 4) → gI wc a c = gI w a c := fun a c q1 q2 => by
    rw [ec, gI_sI, if_neg (fun z => (q2 z.1).2.1 z.2), eb, gI_sI, if_neg (fun z => (q2 z.1).1 z.2), hfa a c q1]
  have hpc : wc.2 = w.2 := by rw [ec, eb, ea]; rfl
  have hTc : ∀ i, i < 12 → gI wc (nn + 4 + 1) i = zNh B N 0 i := by
    intro i hi
    rw [ec, gI_sI_ne (by omega), eb, gI_sI_ne (by omega), ea, gI_cI]
    show _ = zbeg B i
    by_cases q : i < 4
    · rw [if_neg (fun z => by have := z.2.1; have e4 : (4 : Int32).toNatClampNeg = 4 := rfl; omega), gI_aI_eq, if_pos (by rw [hlen]; omega), zbeg, if_pos q]
      rfl
    · rw [zbeg, if_neg q]
      refine (if_pos ⟨rfl, show (4 : Int32).toNatClampNeg ≤ i from by show 4 ≤ i; omega, show i < (4 : Int32).toNatClampNeg + (8 : Int32).toNatClampNeg from by show i < 4 + 8; omega⟩).trans ?_
      rw [gI_aI_ne (by omega)]
      exact (congrArg _ (show (0 : Int32).toNatClampNeg + (i - (4 : Int32).toNatClampNeg) = i - 4 from by show 0 + (i - 4) = i - 4; omega)).trans (cb_Ct hcb (by omega))
  obtain ⟨lc1, lc2⟩ := hlaid wc hpc hfc
  refine q8_fittingBy hwf lc2 hbb (zNh_hd hwf hN 0 (Nat.zero_le _)) hTc lc1 ?_
  intro w5 e5
  refine zinv (fun m (s : Int32 × zW) => fX5_judge_L32 nn b k m s.1 s.2) (fun i s => ∃ v : zW, s = (Int32.ofNat i, v) ∧ v.2 = w.2 ∧ (∀ a c, a ≠ nn + 5 → (a = nn → c ≠ 2 ∧ c ≠ 3 ∧ c ≠ 4) → gI v a c = gI w a c) ∧ (∀ j, j < 12 → gI v (nn + 4 + 1) j = zNh B N i j) ∧ gI v nn 2 = zfind i (zcb B N) ∧ gI v nn 3 = zfind i (znl B N) ∧ gI v nn 4 = Int32.ofNat (zFL B (zNh B N i)).length) N.1 (s0 := (0, w5)) ?_ ?_ ?_
  · refine ⟨w5, rfl, by rw [e5]; exact hpc, fun a c q1 q2 => by rw [e5, gI_sI, if_neg (fun z => (q2 z.1).2.2 z.2)]; exact hfc a c q1 q2, fun j hj => by rw [e5, gI_sI_ne (by omega)]; exact hTc j hj, ?_, ?_, by rw [e5, gI_sI_eq]⟩
    · rw [e5, gI_sI_ne2 (by decide), ec, gI_sI_ne2 (by decide), eb, gI_sI_eq]; rfl
    · rw [e5, gI_sI_ne2 (by decide), ec, gI_sI_eq]; rfl
  · rintro m s ⟨v, rfl, v2, vf, vT, va, vb, vc⟩
    have e0 : gI v nn 0 = Int32.ofNat N.1 := by rw [vf nn 0 (by omega) (by omega)]; exact h0
    rw [fX5_judge_L32]
    try dsimp only
    rw [e0]
    refine ⟨fun _ => ?_, fun q => absurd (Int32.le_refl _) q⟩
    intro w7 e7
    refine hk w7 (by rw [e7]; exact v2) (fun a c q1 q2 => by rw [e7, gI_sI, if_neg (fun z => by have := q2 z.1; omega)]; exact vf a c q1 (fun z => by have := q2 z; omega)) (by rw [e7, gI_sI_eq]; rfl) (by rw [e7, gI_sI_ne2 (by decide)]; exact va) (by rw [e7, gI_sI_ne2 (by decide)]; exact vb) (by rw [e7, gI_sI_ne2 (by decide)]; exact vc)
  · rintro i m s hi ⟨v, rfl, v2, vf, vT, va, vb, vc⟩ hc
    have e0 : gI v nn 0 = Int32.ofNat N.1 := by rw [vf nn 0 (by omega) (by omega)]; exact h0
    obtain ⟨d1, d2, d3⟩ := hln i hi
    have hsl := zNslot_lt hwf hN hi
    obtain ⟨lv1, lv2⟩ := hlaid v v2 vf
    have hFl := zFL_6561 hwf (zNh B N (i + 1))
    -- behind the line: stuck
    have hJ : ∀ u : zW, u.2 = w.2 → (∀ a c, a ≠ nn + 5 → (a = nn → c ≠ 2 ∧ c ≠ 3 ∧ c ≠ 4) → gI u a c = gI w a c) → (∀ j, j < 12 → gI u (nn + 4 + 1) j = zNh B N (i + 1) j) → gI u nn 2 = zfind (i + 1) (zcb B N) → gI u nn 3 = zfind i (znl B N) → gI u nn 4 = Int32.ofNat (zFL B (zNh B N (i + 1))).length → fX5_judge_J103 nn b k (fX5_judge_L32 nn b k m) (Int32.ofNat i) u := by
      intro u u2 uf uT ua ub uc
      have hgo : gI u nn 3 = zfind (i + 1) (znl B N) → fX5_judge_L32 nn b k m (Int32.ofNat i + 1) u := fun z => by
        rw [zl1, zi_add]
        exact hc _ ⟨u, rfl, u2, uf, uT, ua, z, uc⟩
      have hS := zfind_S (show i < 100 by omega) (znl B N)
      rw [fX5_judge_J103, uc, ub]
      refine ⟨fun q => hgo ?_, fun q => ⟨fun q2 => hgo ?_, fun q2 => ?_⟩⟩
      · have hf : znl B N i = false := beq_false_of_ne (fun z => q (by rw [z]; rfl))
        rw [ub, hS, hf]
        by_cases y : zfind i (znl B N) = zN1
        · rw [if_pos y, if_neg (by decide)]; exact y
        · rw [if_neg y]
      · rw [ub, hS, if_neg (show ¬ zfind i (znl B N) = zN1 from q2)]
      · have ht : znl B N i = true := by
          have := (zi_eq (b := 0) (by omega) (by decide)).mp q
          rw [znl, this]
          rfl
        intro w14 e14
        rw [zl1, zi_add]
        refine hc _ ⟨w14, rfl, by rw [e14]; exact u2, fun a c q1 q3 => by rw [e14, gI_sI, if_neg (fun z => (q3 z.1).2.1 z.2)]; exact uf a c q1 q3, fun j hj => by rw [e14, gI_sI_ne (by omega)]; exact uT j hj, by rw [e14, gI_sI_ne2 (by decide)]; exact ua, ?_, by rw [e14, gI_sI_ne2 (by decide)]; exact uc⟩
        rw [e14, gI_sI_eq, hS, if_pos (show zfind i (znl B N) = zN1 from q2), if_pos ht]
    have hSb := zfind_S (show i < 100 by omega) (zcb B N)
    rw [fX5_judge_L32]
    try dsimp only
    rw [e0]
    refine ⟨fun q => absurd q (zi_nge hi (by omega)), fun _ => ⟨fun q => absurd q (by rw [zl40]; exact zi_nge (by omega) (by decide)), fun _ => ?_⟩⟩
    refine q5_canBe hwf lv2 hN hi (by rw [vf _ _ (by omega) (by omega)]; exact d1) (by rw [vf _ _ (by omega) (by omega)]; exact d2) (by rw [vf _ _ (by omega) (by omega)]; exact d3) vT ?_
    cases hq : zNcan B N i (zNh B N i) with
    | true =>
      have hcbf : zcb B N i = false := by rw [zcb, hq]; rfl
      have hT1 : zNh B N (i + 1) = zup (zNh B N i) (zNslot N i) (zNval N i) := by rw [zNh_S, if_pos hq]
      refine ⟨fun q => absurd q (by decide), fun _ => ⟨zi_in (by omega) (by omega), ?_⟩⟩
      rw [zi_nat (show i < 2 ^ 31 by omega), vf (nn + 2) i (by omega) (by omega), d2, vf (nn + 3) i (by omega) (by omega), d3]
      refine q3_put hsl ?_
      have hfu : ∀ a c, a ≠ nn + 5 → (a = nn → c ≠ 2 ∧ c ≠ 3 ∧ c ≠ 4) → gI (sI v (nn + 4 + 1) (zNslot N i) (zNval N i)) a c = gI w a c := fun a c q1 q2 => by rw [gI_sI_ne q1]; exact vf a c q1 q2
      have hTu : ∀ j, j < 12 → gI (sI v (nn + 4 + 1) (zNslot N i) (zNval N i)) (nn + 4 + 1) j = zNh B N (i + 1) j := fun j hj => by
        rw [hT1, gI_sI, zup]
        by_cases z : j = zNslot N i
        · rw [if_pos ⟨rfl, z⟩, if_pos z]
        · rw [if_neg (fun y => z y.2), if_neg z]; exact vT j hj
      obtain ⟨lu1, lu2⟩ := hlaid _ (show (sI v (nn + 4 + 1) (zNslot N i) (zNval N i)).2 = w.2 from v2) hfu
      refine q8_fittingBy hwf lu2 hbb (zNh_hd hwf hN (i + 1) (by omega)) hTu lu1 ?_
      intro w19 e19
      refine hJ w19 (by rw [e19]; exact v2) (fun a c q1 q2 => by rw [e19, gI_sI, if_neg (fun z => (q2 z.1).2.2 z.2)]; exact hfu a c q1 q2) (fun j hj => by rw [e19, gI_sI_ne (by omega)]; exact hTu j hj) ?_ ?_ (by rw [e19, gI_sI_eq])
      · rw [e19, gI_sI_ne2 (by decide), gI_sI_ne (by omega), va, hSb, hcbf]
        by_cases y : zfind i (zcb B N) = zN1
        · rw [if_pos y, if_neg (by decide)]; exact y
        · rw [if_neg y]
      · rw [e19, gI_sI_ne2 (by decide), gI_sI_ne (by omega)]; exact vb
    | false =>
      have hcbt : zcb B N i = true := by rw [zcb, hq]; rfl
      have hT1 : zNh B N (i + 1) = zNh B N i := by rw [zNh_S, if_neg (by rw [hq]; decide)]
      refine ⟨fun _ => ⟨fun q => ?_, fun q => ?_⟩, fun q => absurd rfl q⟩
      · rw [va] at q
        exact hJ v v2 vf (fun j hj => by rw [hT1]; exact vT j hj) (by rw [va, hSb, if_neg (show ¬ zfind i (zcb B N) = zN1 from q)]) vb (by rw [hT1]; exact vc)
      · rw [va] at q
        intro w15 e15
        refine hJ w15 (by rw [e15]; exact v2) (fun a c q1 q2 => by rw [e15, gI_sI, if_neg (fun z => (q2 z.1).1 z.2)]; exact vf a c q1 q2) (fun j hj => by rw [hT1, e15, gI_sI_ne (by omega)]; exact vT j hj) ?_ (by rw [e15, gI_sI_ne2 (by decide)]; exact vb) (by rw [hT1, e15, gI_sI_ne2 (by decide)]; exact vc)
        rw [e15, gI_sI_eq, hSb, if_pos (show zfind i (zcb B N) = zN1 from q), if_pos hcbt]

/-! Level 2: mark, count, idle, bad, off, behind -/
theorem q3_copy {a b : Nat} {w : zW} {k : zW → Prop} (hk : k (cI w (b + 1) 0 (a + 1) 0 12)) : fX3_copy a b w k := by
  refine ⟨by decide, by decide, by decide, by decide, by decide, ?_⟩
  intro w1 e
  subst e
  exact hk
theorem zPast_nil {B : zBk} {S : Nat → Int32} {w : zW} (h1 : gI w 200 21 = Int32.ofNat 0) (h2 : gI w 21 0 = Int32.ofNat 0) : zPast B S w :=
  ⟨0, fun _ => S, by omega, h1, h2, fun j i hj => absurd hj (Nat.not_lt_zero j), fun j hj => absurd hj (Nat.not_lt_zero j), fun i _ => rfl, fun j hj => absurd hj (Nat.not_lt_zero j)⟩
/-- a mark is laid -/
theorem zInv_mk {B : zBk} {S : Nat → Int32} {N : zNt} {b nn m : Nat} {w v : zW} (h : zInv B S N b nn w) (hm : m < 4) (h2 : v.2 = w.2)
    (hf : ∀ a c, a ≠ 220 → a ≠ 222 → (a = 200 → c ≠ 0) → a ≠ 20 → a ≠ 11 + 1 + 2 * m + 1 → gI v a c = gI w a c) (h220 : ∀ c, (c < 12 * (1 + m) ∨ 12 * (1 + m) + 12 ≤ c) → gI v 220 c = gI w 220 c) (hq : ∀ i, i < 12 → gI v 220 (12 * (1 + m) + i) = S i)
    (hc : ∀ i, i < 12 → gI v (11 + 1 + 2 * m + 1) i = S i) (h222 : ∀ j, j ≠ m → gI v 222 j = gI w 222 j) (h20 : ∀ j, j ≠ m → gI v 20 j = gI w 20 j) (hm1 : gI v 222 m = Int32.ofNat 1) (hm2 : gI v 20 m = Int32.ofNat 1) : zInv B S N b nn v := by
  obtain ⟨hwf, hrb, hcb, hha, hpa, hma, hta, hna, hre, hsh, hsl, hno, hbr⟩ := h
  have hL : ∀ a c, gL v a c = gL w a c := fun a c => by rw [gL, gL, h2]
  have hR : ∀ a c, gR v a c = gR w a c := fun a c => by rw [gR, gR, h2]
  have hb := hre.1
  have hnn := hre.2.2.2.1
  have hg : ∀ a c, (a < 12 ∨ 21 ≤ a) → a ≠ 220 → a ≠ 222 → (a = 200 → c ≠ 0) → gI v a c = gI w a c := fun a c q1 q2 q3 q4 => hf a c q2 q3 q4 (by omega) (by omega)
  refine ⟨hwf, zRB_of hrb (fun k hk => hg 210 k (by omega) (by omega) (by omega) (by omega)) (fun k hk => hg 211 k (by omega) (by omega) (by omega) (by omega)) (fun k => hg 223 k (by omega) (by omega) (by omega) (by omega)) (fun k => hg 224 k (by omega) (by omega) (by omega) (by omega)) (fun k => hg 225 k (by omega) (by omega) (by omega) (by omega)) hwf,
    zCB_of hcb (fun a k q1 q2 => hg a k (by omega) (by omega) (by omega) (by omega)) hwf, ⟨hha.1, fun i hi => by rw [h220 i (by omega)]; exact hha.2.1 i hi, fun i hi => by rw [hg 10 i (by omega) (by omega) (by omega) (by omega)]; exact hha.2.2 i hi⟩, ?_, ?_, ?_, zNames_of hna (fun o _ => ⟨hL _ _, hL _ _⟩) (fun _ => hL _ _), zRefs_of hre (fun k _ => hR 1 k), ?_, ?_, ?_, ?_⟩
  · obtain ⟨n, P, p1, p2, p3, p4, p5, p6, p7⟩ := hpa
    refine ⟨n, P, p1, by rw [hg 200 21 (by omega) (by omega) (by omega) (by omega)]; exact p2, by rw [hg 21 0 (by omega) (by omega) (by omega) (by omega)]; exact p3, fun j i hj hi => by rw [h220 _ (by omega)]; exact p4 j i hj hi, p5, p6, fun j hj => ?_⟩
    rw [hg 22 j (by omega) (by omega) (by omega) (by omega), hg 23 j (by omega) (by omega) (by omega) (by omega)]
    exact p7 j hj
  · intro j hj
    by_cases e : j = m
    · subst e
      exact ⟨true, hm1, hm2, fun _ => ⟨S, hha.1, hq, hc⟩⟩
    · obtain ⟨f, q1, q2, q3⟩ := hma j hj
      refine ⟨f, by rw [h222 j e]; exact q1, by rw [h20 j e]; exact q2, fun z => ?_⟩
      obtain ⟨Q, z1, z2, z3⟩ := q3 z
      exact ⟨Q, z1, fun i hi => by rw [h220 _ (by omega)]; exact z2 i hi, fun i hi => by rw [hf _ i (by omega) (by omega) (by omega) (by omega) (by omega)]; exact z3 i hi⟩
  · obtain ⟨n', t, t1, t2, t3, t4⟩ := hta
    exact ⟨n', t, t1, by rw [hg 200 2 (by omega) (by omega) (by omega) (by omega)]; exact t2, by rw [hg 2 1 (by omega) (by omega) (by omega) (by omega)]; exact t3, fun i hi => ⟨(t4 i hi).1, by rw [hg 201 i (by omega) (by omega) (by omega) (by omega)]; exact (t4 i hi).2.1, by rw [hg 3 i (by omega) (by omega) (by omega) (by omega)]; exact (t4 i hi).2.2⟩⟩
  · obtain ⟨big, bs, hs', z1, z2, z3, z4, z5, z6, z7⟩ := hsh
    have hbig := zBig_is z5
    have e24 : ∀ c, gI v 24 c = gI w 24 c := fun c => hg 24 c (by omega) (by omega) (by omega) (by omega)
    have e0 : ∀ c, gI v 0 c = gI w 0 c := fun c => hg 0 c (by omega) (by omega) (by omega) (by omega)
    refine ⟨big, bs, hs', z1, z2, by rw [e24]; exact z3, by rw [e24]; exact z4, zBig_of z5 (fun c _ => hR 24 c) (fun c _ => e0 c), fun e => ?_, fun e => ?_⟩
    · obtain ⟨q1, q2, q3, q4, q5, q6⟩ := z6 e
      exact ⟨by rw [hR]; exact q1, q2, by rw [e24]; exact q3, by rw [e24]; exact q4, fun i hi => by rw [hg big i (by omega) (by omega) (by omega) (by omega)]; exact q5 i hi, fun i hi => by rw [hg (big + 2) i (by omega) (by omega) (by omega) (by omega)]; exact q6 i hi⟩
    · obtain ⟨q1, q2, q3⟩ := z7 e
      exact ⟨q1, by rw [e24]; exact q2, fun i hi => by rw [hg (big + 1) i (by omega) (by omega) (by omega) (by omega)]; exact q3 i hi⟩
  · obtain ⟨st, z1, z2, z3⟩ := hsl
    have e31 : ∀ c, gI v 31 c = gI w 31 c := fun c => hg 31 c (by omega) (by omega) (by omega) (by omega)
    exact ⟨st, z1, by rw [e31]; exact z2, fun e => by rw [e31, e31, e31, e31]; exact z3 e⟩
  · obtain ⟨z1, z2, z3, z4, z5, st, z6, z7, z8⟩ := hno
    refine ⟨z1, by rw [hg 217 0 (by omega) (by omega) (by omega) (by omega)]; exact z2, by rw [hg nn 0 (by omega) (by omega) (by omega) (by omega)]; exact z3, fun i hi => ?_, fun i hi => ?_, st, z6, by rw [hg nn 1 (by omega) (by omega) (by omega) (by omega)]; exact z7, fun e => ?_⟩
    · rw [hg 217 _ (by omega) (by omega) (by omega) (by omega), hg 217 _ (by omega) (by omega) (by omega) (by omega), hg 217 _ (by omega) (by omega) (by omega) (by omega), hg 217 _ (by omega) (by omega) (by omega) (by omega)]
      exact z4 i hi
    · rw [hg (nn + 1) _ (by omega) (by omega) (by omega) (by omega), hg (nn + 2) _ (by omega) (by omega) (by omega) (by omega), hg (nn + 3) _ (by omega) (by omega) (by omega) (by omega)]
      exact z5 i hi
    · rw [hg nn _ (by omega) (by omega) (by omega) (by omega), hg nn _ (by omega) (by omega) (by omega) (by omega), hg nn _ (by omega) (by omega) (by omega) (by omega)]
      exact z8 e
  · refine ⟨fun r hr => by rw [hg (b + 30) r (by omega) (by omega) (by omega) (by omega)]; exact hbr.1 r hr, ?_⟩
    rw [hR, hR, hR, hg 0 140 (by omega) (by omega) (by omega) (by omega), hg 0 141 (by omega) (by omega) (by omega) (by omega), hg 0 142 (by omega) (by omega) (by omega) (by omega)]
    exact hbr.2
theorem c_mark {B : zBk} {S : Nat → Int32} {N : zNt} {b nn : Nat} {x y : Int32} {w : zW} {k k0 : zW → Prop} (h : zInv B S N b nn w) (hk : ∀ S' v, zInv B S' N b nn v → zfl w v → k v) : fX11_mark x y w (fun r1 w1 => fX12_mark x y w1 (fun r2 w2 => (r1 = r2 → k w2) ∧ (¬ r1 = r2 → k0 w2))) := by
  have hkv := hk _ _ (zInv_t h 0) ⟨rfl, rfl⟩
  have hha := iv_ha h
  rw [fX11_mark]
  rcases zi_cases x with hx | ⟨m, hm, rfl⟩
  · refine ⟨fun _ => ?_, fun q => absurd hx q⟩
    intro w1 e
    subst e
    exact q12_withinN (lo := 0) hx (by decide) ⟨fun _ => zc_same hkv, fun q => absurd rfl q⟩
  · refine ⟨fun q => absurd q (zi_0le hm), fun _ => ?_⟩
    by_cases h4 : m < 4
    · refine ⟨fun q => absurd q (by rw [zl4]; exact fun z => by have := (zi_le (by omega) hm).mp z; omega), fun _ => ?_⟩
      obtain ⟨f, f1, f2, f3⟩ := iv_ma h m h4
      by_cases hy : y = 0
      · subst hy
        refine ⟨fun _ => ?_, fun q => absurd rfl q⟩
        refine ⟨fun _ => ⟨zi_in h4 hm, ?_⟩, fun q => absurd rfl q⟩
        try rw [zi_nat hm]
        refine q3_copy ?_
        intro w7 e7
        intro w1 e1
        refine q12_within (lo := 0) (hi := 3) hm (by decide) (by decide) ?_
        rw [if_pos (by omega)]
        refine ⟨fun q => absurd q (by decide), fun _ => ⟨fun _ => ?_, fun q => absurd rfl q⟩⟩
        refine ⟨zi_in h4 hm, ?_⟩
        intro w6 e6 v7 ev7 v8 ev8
        rw [if_pos rfl] at ev7
        rw [if_pos rfl, zl12, zl1, zi_add, zi_mul] at ev8
        try rw [zi_nat hm] at e6
        try rw [zi_nat hm] at e7
        subst ev7
        subst ev8
        have g6 : ∀ a c, a ≠ 222 → (a = 200 → c ≠ 0) → a ≠ 20 → a ≠ 11 + 1 + 2 * m + 1 → gI w6 a c = gI w a c := fun a c q1 q2 q3 q4 => by
          rw [e6, gI_sI_ne q1, e1, gI_sI, if_neg (fun z => q2 z.1 z.2), e7, gI_sI_ne q3, gI_cI, if_neg (fun z => q4 z.1)]
        refine q12_copies (f := 0) (t := 12 * (1 + m)) (n := 12) (by omega) (by omega) (by omega) ?_
        refine ⟨fun _ => ?_, fun q => absurd rfl q⟩
        intro w11 e11
        have g11 : ∀ a c, a ≠ 220 → gI w11 a c = gI w6 a c := fun a c q => by
          rw [e11]
          rw [gI_sI]
          by_cases z : a = 200 ∧ c = 21
          · rw [if_pos z, z.1, z.2, gI_aI_ne (by decide)]
          · rw [if_neg z, gI_aI_ne q]
        have g220 : ∀ c, gI w11 220 c = if 12 * (1 + m) ≤ c ∧ c < 12 * (1 + m) + 12 then gI w 220 (0 + (c - 12 * (1 + m))) else gI w 220 c := fun c => by
          rw [e11, gI_sI_ne (by decide), gI_aI_eq, g6 220 _ (by omega) (by omega) (by omega) (by omega), g6 220 _ (by omega) (by omega) (by omega) (by omega)]
        refine zc_same (hk S _ (zInv_mk h h4 (by rw [e11, e6, e1, e7]; rfl) (fun a c q1 q2 q3 q4 q5 => by rw [g11 a c q1, g6 a c q2 q3 q4 q5]) (fun c q => by rw [g220]; exact if_neg (by omega)) (fun i hi => by rw [g220, if_pos (by omega)]; exact (congrArg _ (by omega)).trans (hha.2.1 i hi)) (fun i hi => ?_) (fun j hj => ?_) (fun j hj => ?_) ?_ ?_) ⟨?_, ?_⟩)
        · rw [g11 _ _ (by omega), e6, gI_sI_ne (by omega), e1, gI_sI_ne (by omega), e7, gI_sI_ne (by omega), gI_cI, if_pos ⟨rfl, Nat.zero_le _, by omega⟩]
          exact (congrArg (gI w 10) (show 0 + (i - 0) = i by omega)).trans (hha.2.2 i hi)
        · rw [g11 _ _ (by omega), e6, gI_sI_ne2 hj, e1, gI_sI_ne (by decide), e7, gI_sI_ne (by decide), gI_cI, if_neg (fun z => absurd z.1 (by omega))]
        · rw [g11 _ _ (by omega), e6, gI_sI_ne (by decide), e1, gI_sI_ne (by decide), e7, gI_sI_ne2 hj, gI_cI, if_neg (fun z => absurd z.1 (by omega))]
        · rw [g11 _ _ (by omega), e6, gI_sI_eq]; rfl
        · rw [g11 _ _ (by omega), e6, gI_sI_ne (by decide), e1, gI_sI_ne (by decide), e7, gI_sI_eq]; rfl
        · rw [g11 _ _ (by omega), g6 _ _ (by omega) (by omega) (by omega) (by omega)]
        · rw [e11, e6, e1, e7]; rfl
      · refine ⟨fun q => absurd q hy, fun _ => ⟨zi_in h4 hm, ?_⟩⟩
        try rw [zi_nat hm]
        rw [f2]
        by_cases hf : f = true
        · rw [if_pos hf]
          obtain ⟨Q, z1, z2, z3⟩ := f3 hf
          refine ⟨fun _ => ?_, fun q => absurd q (by decide)⟩
          refine ⟨fun q => absurd q hy, fun _ => ⟨zi_in h4 hm, ?_⟩⟩
          try rw [zi_nat hm]
          refine q3_copy ?_
          intro w10 e10
          intro w11 e11 w12 e12
          intro w1 e1
          refine q12_within (lo := 0) (hi := 3) hm (by decide) (by decide) ?_
          rw [if_pos (by omega)]
          refine ⟨fun q => absurd q (by decide), fun _ => ⟨fun q => absurd q hy, fun _ => ⟨zi_in h4 hm, ?_⟩⟩⟩
          have g1 : ∀ a c, a ≠ 10 → (a = 21 → c ≠ 0) → (a = 24 → c ≠ 1) → (a = 31 → c ≠ 0) → (a = 200 → c ≠ 0) → gI w1 a c = gI w a c := fun a c q1 q2 q3 q4 q5 => by
            rw [e1, gI_sI, if_neg (fun z => q5 z.1 z.2), e12, gI_sI, if_neg (fun z => q4 z.1 z.2), e11, gI_sI, if_neg (fun z => q3 z.1 z.2), e10, gI_sI, if_neg (fun z => q2 z.1 z.2), gI_cI, if_neg (fun z => q1 z.1)]
          try rw [zi_nat hm]
          rw [g1 222 m (by omega) (by omega) (by omega) (by omega) (by omega), f1, if_pos hf]
          refine ⟨fun _ => ⟨zi_in h4 hm, ?_⟩, fun q => absurd q (by decide)⟩
          intro w6 e6 v7 ev7 v8 ev8
          rw [if_neg hy, zl12, zl1, zi_add, zi_mul] at ev7
          rw [if_neg hy] at ev8
          try rw [zi_nat hm] at e6
          subst ev7
          subst ev8
          refine q12_copies (f := 12 * (1 + m)) (t := 0) (n := 12) (by omega) (by omega) (by omega) ?_
          refine ⟨fun q => absurd q hy, fun _ => ?_⟩
          intro w13 e13
          have g13 : ∀ a c, a ≠ 220 → (a = 200 → c ≠ 21) → (a = 222 → c ≠ m) → gI w13 a c = gI w1 a c := fun a c q1 q2 q3 => by
            rw [e13, gI_sI, if_neg (fun z => q2 z.1 z.2), gI_aI_ne q1, e6, gI_sI, if_neg (fun z => q3 z.1 z.2)]
          have g220 : ∀ c, gI w13 220 c = if 0 ≤ c ∧ c < 0 + 12 then gI w 220 (12 * (1 + m) + (c - 0)) else gI w 220 c := fun c => by
            rw [e13, gI_sI_ne (by decide), gI_aI_eq, e6, gI_sI_ne (by decide), gI_sI_ne (by decide), g1 220 _ (by omega) (by omega) (by omega) (by omega) (by omega), g1 220 _ (by omega) (by omega) (by omega) (by omega) (by omega)]
          have g222 : ∀ c, gI w13 222 c = gI w 222 c := fun c => by
            rw [e13, gI_sI_ne (by decide), gI_aI_ne (by decide), e6, gI_sI]
            by_cases q : c = m
            · rw [if_pos ⟨rfl, q⟩, q, f1, if_pos hf]
              rfl
            · rw [if_neg (fun z => q z.2)]
              exact g1 222 c (by omega) (by omega) (by omega) (by omega) (by omega)
          refine zc_same (hk Q _ (zInv_hand h ⟨z1, fun i hi => ?_, fun i hi => ?_⟩ (zPast_nil ?_ ?_) (fun j hj => ?_) (by rw [e13, e6, e1, e12, e11, e10]; rfl) (fun a c q1 q2 q3 q4 q5 q6 => ?_) ?_ ?_) ⟨?_, ?_⟩)
          · rw [g220, if_pos ⟨Nat.zero_le _, by omega⟩]
            exact z2 i hi
          · rw [g13 _ _ (by omega) (by omega) (by omega), e1, gI_sI_ne (by decide), e12, gI_sI_ne (by decide), e11, gI_sI_ne (by decide), e10, gI_sI_ne (by decide), gI_cI]
            refine (if_pos ⟨rfl, Nat.zero_le _, show i < 0 + 12 by omega⟩).trans ?_
            rw [show 0 + (i - 0) = i by omega]
            exact z3 i hi
          · rw [e13, gI_sI_eq]; rfl
          · rw [g13 _ _ (by omega) (by omega) (by omega), e1, gI_sI_ne (by decide), e12, gI_sI_ne (by decide), e11, gI_sI_ne (by decide), e10, gI_sI_eq]; rfl
          · obtain ⟨f', y1, y2, y3⟩ := iv_ma h j hj
            refine ⟨f', by rw [g222]; exact y1, by rw [g13 _ _ (by omega) (by omega) (by omega), g1 _ _ (by omega) (by omega) (by omega) (by omega) (by omega)]; exact y2, fun e => ?_⟩
            obtain ⟨Q', x1, x2, x3⟩ := y3 e
            exact ⟨Q', x1, fun i hi => by rw [g220, if_neg (by omega)]; exact x2 i hi, fun i hi => by rw [g13 _ _ (by omega) (by omega) (by omega), g1 _ _ (by omega) (by omega) (by omega) (by omega) (by omega)]; exact x3 i hi⟩
          · rw [g13 a c q2 (fun z => (q6 z).1) (fun z => absurd z q3), g1 a c (by omega) (by omega) q4 q5 (fun z => (q6 z).2)]
          · rw [g13 _ _ (by omega) (by omega) (by omega), e1, gI_sI_ne (by decide), e12, gI_sI_ne (by decide), e11, gI_sI_eq]; rfl
          · rw [g13 _ _ (by omega) (by omega) (by omega), e1, gI_sI_ne (by decide), e12, gI_sI_eq]; rfl
          · rw [g13 _ _ (by omega) (by omega) (by omega), g1 _ _ (by omega) (by omega) (by omega) (by omega) (by omega)]
          · rw [e13, e6, e1, e12, e11, e10]; rfl
        · rw [if_neg hf]
          refine ⟨fun q => absurd rfl q, fun _ => ?_⟩
          intro w1 e1
          subst e1
          refine q12_within (lo := 0) (hi := 3) hm (by decide) (by decide) ?_
          rw [if_pos (by omega)]
          refine ⟨fun q => absurd q (by decide), fun _ => ⟨fun q => absurd q hy, fun _ => ⟨zi_in h4 hm, ?_⟩⟩⟩
          try rw [zi_nat hm]
          rw [gI_sI_ne (by decide), f1, if_neg hf]
          exact ⟨fun q => absurd rfl q, fun _ => zc_same hkv⟩
    · refine ⟨fun _ => ?_, fun q => absurd (by rw [zl4]; exact (zi_le (by omega) hm).mpr (by omega)) q⟩
      intro w1 e1
      subst e1
      refine q12_within (lo := 0) (hi := 3) hm (by decide) (by decide) ?_
      rw [if_neg (by omega)]
      exact ⟨fun _ => zc_same hkv, fun q => absurd rfl q⟩
/-- how many dictionaries the first words have -/
def zprod (f : Nat → Nat) : Nat → Nat
  | 0 => 1
  | n + 1 => zprod f n * f n
theorem q0_dictionaries {B : zBk} {b : Nat} {w : zW} {k : Int32 → zW → Prop} (hwf : zWF B) (hB : zCB B b w) (hk : k (Int32.ofNat (zprod (fun o => zcnt 9 (bMn B o)) (bW B))) w) : fX0_dictionaries b w k := by
  have h4 := wf_W hwf
  refine zrun (fun n (s : Int32 × Int32) => fX0_dictionaries_L4 b k n s.1 s.2 w) (fun i => (Int32.ofNat (zprod (fun o => zcnt 9 (bMn B o)) i), Int32.ofNat i)) (bW B) (fun n => ?_) (fun i n hi hc => ?_)
  · simp (disch := omega) only [fX0_dictionaries_L4, cb_W hB, ↓zln1, ↓zln2, zl0, zl1, zl2, zl3, zl4, zl5, zl6, zl7, zl8, zl9, zl10, zl12, zl15, zl16, zl20, zl24, zl30, zl32, zl36, zl40, zl48, zl57, zl59, zl60, zl61, zl97, zl99, zl120, zl121, zl122, zl126, zl165, zl255, zl480, zl968, zl1000, zl1100, zi_add, zi_mul, zi_sub, zi_div, zi_mod, zi_nat, zt_le, zf_le, zt_lt, zf_lt, zt_eq, zf_eq, zt_vp, zt_N1lt, zf_N1lt, zf_N1eq, zf_eqN1, zt_N1eq, zt_N1le, zf_leN1, zi_nN1, zi_a1, zi_a15, zi_a255, zi_shr, zi_bit, zt_b0, zt_b1, forall_eq, if_true, if_false, true_implies, false_implies, not_true_eq_false, not_false_eq_true, and_true, true_and, gI_sI_eq, gI_sI_ne, gI_sI_ne2, gL_sI, gR_sI, gI_sL, gL_sL_eq, gL_sL_ne, gL_sL_ne2, gR_sL, gI_sR, gL_sR, gR_sR_eq, gR_sR_ne, gR_sR_ne2, gI_aI_eq, gI_aI_ne, gL_aI, gR_aI]
    exact hk
  · simp (disch := omega) only [fX0_dictionaries_L4, cb_W hB, cb_Sz hB (show i < 4 by omega), ↓zln1, ↓zln2, zl0, zl1, zl2, zl3, zl4, zl5, zl6, zl7, zl8, zl9, zl10, zl12, zl15, zl16, zl20, zl24, zl30, zl32, zl36, zl40, zl48, zl57, zl59, zl60, zl61, zl97, zl99, zl120, zl121, zl122, zl126, zl165, zl255, zl480, zl968, zl1000, zl1100, zi_add, zi_mul, zi_sub, zi_div, zi_mod, zi_nat, zt_le, zf_le, zt_lt, zf_lt, zt_eq, zf_eq, zt_vp, zt_N1lt, zf_N1lt, zf_N1eq, zf_eqN1, zt_N1eq, zt_N1le, zf_leN1, zi_nN1, zi_a1, zi_a15, zi_a255, zi_shr, zi_bit, zt_b0, zt_b1, forall_eq, if_true, if_false, true_implies, false_implies, not_true_eq_false, not_false_eq_true, and_true, true_and, gI_sI_eq, gI_sI_ne, gI_sI_ne2, gL_sI, gR_sI, gI_sL, gL_sL_eq, gL_sL_ne, gL_sL_ne2, gR_sL, gI_sR, gL_sR, gR_sR_eq, gR_sR_ne, gR_sR_ne2, gI_aI_eq, gI_aI_ne, gL_aI, gR_aI]
    exact hc
theorem q12_meanings0 {B : zBk} {w : zW} {k : Int32 → zW → Prop} (hwf : zWF B) (hB : zRB B w) (hk : k (Int32.ofNat (zprod (fun o => zcnt 9 (bMn B o)) (bW B))) w) : fX12_meanings0 w k := by
  have h4 := wf_W hwf
  refine zrun (fun n (s : Int32 × Int32) => fX12_meanings0_L4 k n s.1 s.2 w) (fun i => (Int32.ofNat (zprod (fun o => zcnt 9 (bMn B o)) i), Int32.ofNat i)) (bW B) (fun n => ?_) (fun i n hi hc => ?_)
  · simp (disch := omega) only [fX12_meanings0_L4, fX12_wordsTold, rb_W hB, ↓zln1, ↓zln2, zl0, zl1, zl2, zl3, zl4, zl5, zl6, zl7, zl8, zl9, zl10, zl12, zl15, zl16, zl20, zl24, zl30, zl32, zl36, zl40, zl48, zl57, zl59, zl60, zl61, zl97, zl99, zl120, zl121, zl122, zl126, zl165, zl255, zl480, zl968, zl1000, zl1100, zi_add, zi_mul, zi_sub, zi_div, zi_mod, zi_nat, zt_le, zf_le, zt_lt, zf_lt, zt_eq, zf_eq, zt_vp, zt_N1lt, zf_N1lt, zf_N1eq, zf_eqN1, zt_N1eq, zt_N1le, zf_leN1, zi_nN1, zi_a1, zi_a15, zi_a255, zi_shr, zi_bit, zt_b0, zt_b1, forall_eq, if_true, if_false, true_implies, false_implies, not_true_eq_false, not_false_eq_true, and_true, true_and, gI_sI_eq, gI_sI_ne, gI_sI_ne2, gL_sI, gR_sI, gI_sL, gL_sL_eq, gL_sL_ne, gL_sL_ne2, gR_sL, gI_sR, gL_sR, gR_sR_eq, gR_sR_ne, gR_sR_ne2, gI_aI_eq, gI_aI_ne, gL_aI, gR_aI]
    exact hk
  · simp (disch := omega) only [fX12_meanings0_L4, fX12_wordsTold, rb_W hB, rb_Sz hB (show i < 4 by omega), ↓zln1, ↓zln2, zl0, zl1, zl2, zl3, zl4, zl5, zl6, zl7, zl8, zl9, zl10, zl12, zl15, zl16, zl20, zl24, zl30, zl32, zl36, zl40, zl48, zl57, zl59, zl60, zl61, zl97, zl99, zl120, zl121, zl122, zl126, zl165, zl255, zl480, zl968, zl1000, zl1100, zi_add, zi_mul, zi_sub, zi_div, zi_mod, zi_nat, zt_le, zf_le, zt_lt, zf_lt, zt_eq, zf_eq, zt_vp, zt_N1lt, zf_N1lt, zf_N1eq, zf_eqN1, zt_N1eq, zt_N1le, zf_leN1, zi_nN1, zi_a1, zi_a15, zi_a255, zi_shr, zi_bit, zt_b0, zt_b1, forall_eq, if_true, if_false, true_implies, false_implies, not_true_eq_false, not_false_eq_true, and_true, true_and, gI_sI_eq, gI_sI_ne, gI_sI_ne2, gL_sI, gR_sI, gI_sL, gL_sL_eq, gL_sL_ne, gL_sL_ne2, gR_sL, gI_sR, gL_sR, gR_sR_eq, gR_sR_ne, gR_sR_ne2, gI_aI_eq, gI_aI_ne, gL_aI, gR_aI]
    exact hc

/-! Level 2: the calls feed and alike -/
theorem c_feed {B : zBk} {S : Nat → Int32} {N : zNt} {b nn : Nat} {x y z : Int64} {w : zW} {k k0 : zW → Prop} (h : zInv B S N b nn w) (hk : ∀ v, zInv B S N b nn v → zfl w v → k v) : fX11_feed x y z w (fun r1 w1 => fX12_feed x y z w1 (fun r2 w2 => (r1 = r2 → k w2) ∧ (¬ r1 = r2 → k0 w2))) := by
  obtain ⟨n, t, t1, t2, t3, t4⟩ := iv_ta h
  have hg : ∀ i, i < n → zgood (t i) := fun i hi => (t4 i hi).1
  obtain ⟨s1, hs1⟩ : ∃ s, s = zlayn x (n, t) 8 := ⟨_, rfl⟩
  obtain ⟨s2, hs2⟩ : ∃ s, s = zlayn y (s1.1, s1.2) 8 := ⟨_, rfl⟩
  obtain ⟨s3, hs3⟩ : ∃ s, s = zlayn z (s2.1, s2.2) 8 := ⟨_, rfl⟩
  have w1' := zlayn_wf (x := x) (s := (n, t)) t1 hg 8
  rw [← hs1] at w1'
  have w2' := zlayn_wf (x := y) (s := (s1.1, s1.2)) w1'.1 w1'.2 8
  rw [← hs2] at w2'
  have w3' := zlayn_wf (x := z) (s := (s2.1, s2.2)) w2'.1 w2'.2 8
  rw [← hs3] at w3'
  rw [fX11_feed]
  refine q10_add t1 ⟨t3, fun i hi => (t4 i hi).2.2⟩ hg (fun v a2 af at' => ?_)
  rw [← hs1] at at'
  refine q10_add w1'.1 at' w1'.2 (fun v' b2 bf bt => ?_)
  rw [← hs2] at bt
  refine q10_add w2'.1 bt w2'.2 (fun v'' c2 cf ct => ?_)
  rw [← hs3] at ct
  rw [ct.1]
  intro w1 e1
  subst e1
  have hf : ∀ a c, a ≠ 3 → (a = 2 → c ≠ 1) → gI v'' a c = gI w a c := fun a c q1 q2 => by rw [cf a c q1 q2, bf a c q1 q2, af a c q1 q2]
  have h201 : zTr (sI v'' 200 0 0) n t := ⟨by rw [gI_sI_ne2 (by decide), hf 200 2 (by decide) (by decide)]; exact t2, fun i hi => by rw [gI_sI_ne (by decide), hf 201 i (by decide) (by omega)]; exact (t4 i hi).2.1⟩
  refine q12_lay t1 h201 (fun u a2' af' at2 => ?_) hg
  rw [← hs1] at at2
  refine q12_lay w1'.1 at2 (fun u' b2' bf' bt2 => ?_) w1'.2
  rw [← hs2] at bt2
  refine q12_lay w2'.1 bt2 (fun u'' c2' cf' ct2 => ?_) w2'.2
  rw [← hs3] at ct2
  rw [ct2.1]
  have hf2 : ∀ a c, a ≠ 201 → (a = 200 → c ≠ 2) → gI u'' a c = gI (sI v'' 200 0 0) a c := fun a c q1 q2 => by rw [cf' a c q1 q2, bf' a c q1 q2, af' a c q1 q2]
  have hall : ∀ a c, a ≠ 3 → (a = 2 → c ≠ 1) → a ≠ 201 → (a = 200 → c ≠ 2 ∧ c ≠ 0) → gI u'' a c = gI w a c := fun a c q1 q2 q3 q4 => by
    rw [hf2 a c q3 (fun z => (q4 z).1), gI_sI, if_neg (fun z => (q4 z.1).2 z.2)]
    exact hf a c q1 q2
  have h2 : u''.2 = w.2 := ((c2'.trans b2').trans a2').trans ((c2.trans b2).trans a2)
  have hL : ∀ a c, gL u'' a c = gL w a c := fun a c => by rw [gL, gL, h2]
  have hR : ∀ a c, gR u'' a c = gR w a c := fun a c => by rw [gR, gR, h2]
  obtain ⟨hwf, hrb, hcb, hha, hpa, hma, hta, hna, hre, hsh, hsl, hno, hbr⟩ := h
  have hb := hre.1
  have hnn := hre.2.2.2.1
  have hg' : ∀ a c, a ≠ 3 → a ≠ 2 → a ≠ 201 → a ≠ 200 → gI u'' a c = gI w a c := fun a c q1 q2 q3 q4 => hall a c q1 (fun z => absurd z q2) q3 (fun z => absurd z q4)
  refine zc_same (hk u'' ?_ ⟨hg' 0 140 (by omega) (by omega) (by omega) (by omega), hR 24 4⟩)
  -- what is held: a copy of the world with the old tape would be kept whole
  have e3 : ∀ i, gI u'' 3 i = gI v'' 3 i := fun i => by rw [hf2 3 i (by decide) (by omega), gI_sI_ne (by decide)]
  have e21 : gI u'' 2 1 = gI v'' 2 1 := by rw [hf2 2 1 (by decide) (by decide), gI_sI_ne (by decide)]
  refine ⟨hwf, zRB_of hrb (fun k _ => hg' 210 k (by omega) (by omega) (by omega) (by omega)) (fun k _ => hg' 211 k (by omega) (by omega) (by omega) (by omega)) (fun k => hg' 223 k (by omega) (by omega) (by omega) (by omega)) (fun k => hg' 224 k (by omega) (by omega) (by omega) (by omega)) (fun k => hg' 225 k (by omega) (by omega) (by omega) (by omega)) hwf,
    zCB_of hcb (fun a k q1 q2 => hg' a k (by omega) (by omega) (by omega) (by omega)) hwf, ⟨hha.1, fun i hi => by rw [hg' 220 i (by omega) (by omega) (by omega) (by omega)]; exact hha.2.1 i hi, fun i hi => by rw [hg' (9 + 1) i (by omega) (by omega) (by omega) (by omega)]; exact hha.2.2 i hi⟩, ?_, ?_, ?_, zNames_of hna (fun o _ => ⟨hL _ _, hL _ _⟩) (fun _ => hL _ _), zRefs_of hre (fun k _ => hR 1 k), ?_, ?_, ?_, ?_⟩
  · obtain ⟨m, P, p1, p2, p3, p4, p5, p6, p7⟩ := hpa
    refine ⟨m, P, p1, by rw [hall 200 21 (by omega) (by omega) (by omega) (by omega)]; exact p2, by rw [hg' 21 0 (by omega) (by omega) (by omega) (by omega)]; exact p3, fun j i hj hi => by rw [hg' 220 _ (by omega) (by omega) (by omega) (by omega)]; exact p4 j i hj hi, p5, p6, fun j hj => ?_⟩
    rw [hg' 22 j (by omega) (by omega) (by omega) (by omega), hg' 23 j (by omega) (by omega) (by omega) (by omega)]
    exact p7 j hj
  · intro m hm
    obtain ⟨f, q1, q2, q3⟩ := hma m hm
    refine ⟨f, by rw [hg' 222 m (by omega) (by omega) (by omega) (by omega)]; exact q1, by rw [hg' 20 m (by omega) (by omega) (by omega) (by omega)]; exact q2, fun e => ?_⟩
    obtain ⟨Q, z1, z2, z3⟩ := q3 e
    exact ⟨Q, z1, fun i hi => by rw [hg' 220 _ (by omega) (by omega) (by omega) (by omega)]; exact z2 i hi, fun i hi => by rw [hg' _ i (by omega) (by omega) (by omega) (by omega)]; exact z3 i hi⟩
  · exact ⟨s3.1, s3.2, w3'.1, ct2.1, by rw [e21]; exact ct.1, fun i hi => ⟨w3'.2 i hi, ct2.2 i hi, by rw [e3]; exact ct.2 i hi⟩⟩
  · obtain ⟨big, bs, hs', z1, z2, z3, z4, z5, z6, z7⟩ := hsh
    have hbig := zBig_is z5
    have e24 : ∀ c, gI u'' 24 c = gI w 24 c := fun c => hg' 24 c (by omega) (by omega) (by omega) (by omega)
    have e0 : ∀ c, gI u'' 0 c = gI w 0 c := fun c => hg' 0 c (by omega) (by omega) (by omega) (by omega)
    refine ⟨big, bs, hs', z1, z2, by rw [e24]; exact z3, by rw [e24]; exact z4, zBig_of z5 (fun c _ => hR 24 c) (fun c _ => e0 c), fun e => ?_, fun e => ?_⟩
    · obtain ⟨q1, q2, q3, q4, q5, q6⟩ := z6 e
      exact ⟨by rw [hR]; exact q1, q2, by rw [e24]; exact q3, by rw [e24]; exact q4, fun i hi => by rw [hg' big i (by omega) (by omega) (by omega) (by omega)]; exact q5 i hi, fun i hi => by rw [hg' (big + 2) i (by omega) (by omega) (by omega) (by omega)]; exact q6 i hi⟩
    · obtain ⟨q1, q2, q3⟩ := z7 e
      exact ⟨q1, by rw [e24]; exact q2, fun i hi => by rw [hg' (big + 1) i (by omega) (by omega) (by omega) (by omega)]; exact q3 i hi⟩
  · obtain ⟨st, z1, z2, z3⟩ := hsl
    have e31 : ∀ c, gI u'' 31 c = gI w 31 c := fun c => hg' 31 c (by omega) (by omega) (by omega) (by omega)
    exact ⟨st, z1, by rw [e31]; exact z2, fun e => by rw [e31, e31, e31, e31]; exact z3 e⟩
  · obtain ⟨z1, z2, z3, z4, z5, st, z6, z7, z8⟩ := hno
    refine ⟨z1, by rw [hg' 217 0 (by omega) (by omega) (by omega) (by omega)]; exact z2, by rw [hg' nn 0 (by omega) (by omega) (by omega) (by omega)]; exact z3, fun i hi => ?_, fun i hi => ?_, st, z6, by rw [hg' nn 1 (by omega) (by omega) (by omega) (by omega)]; exact z7, fun e => ?_⟩
    · rw [hg' 217 _ (by omega) (by omega) (by omega) (by omega), hg' 217 _ (by omega) (by omega) (by omega) (by omega), hg' 217 _ (by omega) (by omega) (by omega) (by omega), hg' 217 _ (by omega) (by omega) (by omega) (by omega)]
      exact z4 i hi
    · rw [hg' (nn + 1) _ (by omega) (by omega) (by omega) (by omega), hg' (nn + 2) _ (by omega) (by omega) (by omega) (by omega), hg' (nn + 3) _ (by omega) (by omega) (by omega) (by omega)]
      exact z5 i hi
    · rw [hg' nn _ (by omega) (by omega) (by omega) (by omega), hg' nn _ (by omega) (by omega) (by omega) (by omega), hg' nn _ (by omega) (by omega) (by omega) (by omega)]
      exact z8 e
  · refine ⟨fun r hr => by rw [hg' (b + 30) r (by omega) (by omega) (by omega) (by omega)]; exact hbr.1 r hr, ?_⟩
    rw [hR, hR, hR, hg' 0 140 (by omega) (by omega) (by omega) (by omega), hg' 0 141 (by omega) (by omega) (by omega) (by omega), hg' 0 142 (by omega) (by omega) (by omega) (by omega)]
    exact hbr.2
/-- the reference's side of alike, for two rows of one length -/
theorem q12_alikeL {B : zBk} {r o : Nat} {w : zW} {k : Int32 → zW → Prop} (hwf : zWF B) (hB : zRB B w) (hr : r < bR B) (ho : o < bR B) (hlen : bLn B r = bLn B o) (h1 : zalike B r o → k (Int32.ofNat 1) w) (h0 : ¬ zalike B r o → k (Int32.ofNat 0) w) : fX12_alike_J44 k (Int32.ofNat r) (Int32.ofNat o) (Int32.ofNat 1) w := by
  have h8 := wf_R hwf
  have l1 := wf_Ln hwf hr
  refine zinv (fun n (s : Int32 × Int32) => fX12_alike_L48 k n (Int32.ofNat r) (Int32.ofNat o) s.1 s.2 w) (fun i s => (s = (Int32.ofNat 1, Int32.ofNat i) ∧ ∀ i' j, i' < i → j < i' → (bIt B r i' = bIt B r j ↔ bIt B o i' = bIt B o j)) ∨ (s.1 = Int32.ofNat 0 ∧ ¬ zalike B r o)) (bLn B r) (s0 := (Int32.ofNat 1, 0)) (Or.inl ⟨rfl, fun i' j hi => absurd hi (Nat.not_lt_zero i')⟩) ?_ ?_
  · rintro n ⟨f, c⟩ (⟨e, hj⟩ | ⟨e, hn⟩)
    · injection e with e1 e2
      subst e1
      subst e2
      show fX12_alike_L48 k (n + 1) (Int32.ofNat r) (Int32.ofNat o) (Int32.ofNat 1) (Int32.ofNat (bLn B r)) w
      rw [fX12_alike_L48]
      try dsimp only
      exact ⟨fun q => absurd q (by decide), fun _ => q12_longOf hwf hB hr ⟨fun _ => ⟨Or.inr rfl, h1 ⟨hlen, fun i j a b => hj i j a b⟩⟩, fun q => absurd (Int32.le_refl _) q⟩⟩
    · have e' : f = Int32.ofNat 0 := e
      subst e'
      show fX12_alike_L48 k (n + 1) (Int32.ofNat r) (Int32.ofNat o) (Int32.ofNat 0) c w
      rw [fX12_alike_L48]
      try dsimp only
      exact ⟨fun _ => ⟨Or.inl rfl, h0 hn⟩, fun q => absurd rfl q⟩
  · rintro i n ⟨f, c⟩ hi (⟨e, hj⟩ | ⟨e, hn⟩) hc
    · injection e with e1 e2
      subst e1
      subst e2
      show fX12_alike_L48 k (n + 1) (Int32.ofNat r) (Int32.ofNat o) (Int32.ofNat 1) (Int32.ofNat i) w
      rw [fX12_alike_L48]
      try dsimp only
      refine ⟨fun q => absurd q (by decide), fun _ => q12_longOf hwf hB hr ⟨fun q => absurd q (zi_nge hi (by omega)), fun _ => ?_⟩⟩
      refine zinv (fun n' (s : Int32 × Int32) => fX12_alike_L65 k (fX12_alike_L48 k n) n' (Int32.ofNat r) (Int32.ofNat o) s.1 (Int32.ofNat i) s.2 w) (fun j s => s.2 = Int32.ofNat j ∧ ((s.1 = Int32.ofNat 1 ∧ ∀ j', j' < j → (bIt B r i = bIt B r j' ↔ bIt B o i = bIt B o j')) ∨ (s.1 = Int32.ofNat 0 ∧ ¬ zalike B r o))) i (s0 := (Int32.ofNat 1, 0)) ⟨rfl, Or.inl ⟨rfl, fun j' hj => absurd hj (Nat.not_lt_zero j')⟩⟩ ?_ ?_
      · rintro n' ⟨f, c⟩ ⟨ec, hh⟩
        have ec' : c = Int32.ofNat i := ec
        subst ec'
        show fX12_alike_L65 k (fX12_alike_L48 k n) (n' + 1) (Int32.ofNat r) (Int32.ofNat o) f (Int32.ofNat i) (Int32.ofNat i) w
        rw [fX12_alike_L65]
        try dsimp only
        refine ⟨fun _ => ?_, fun q => absurd (Int32.le_refl _) q⟩
        rw [zl1, zi_add]
        refine hc (f, Int32.ofNat (i + 1)) ?_
        rcases hh with ⟨ef, hjj⟩ | ⟨ef, hn⟩
        · have ef' : f = Int32.ofNat 1 := ef
          refine Or.inl ⟨by rw [ef'], fun i' j a c => ?_⟩
          by_cases e : i' = i
          · rw [e] at c ⊢; exact hjj j c
          · exact hj i' j (by omega) c
        · exact Or.inr ⟨ef, hn⟩
      · rintro j n' ⟨f, c⟩ hji ⟨ec, hh⟩ hc'
        have ec' : c = Int32.ofNat j := ec
        subst ec'
        show fX12_alike_L65 k (fX12_alike_L48 k n) (n' + 1) (Int32.ofNat r) (Int32.ofNat o) f (Int32.ofNat i) (Int32.ofNat j) w
        rw [fX12_alike_L65]
        try dsimp only
        refine ⟨fun q => absurd q (zi_nge hji (by omega)), fun _ => ?_⟩
        rw [zl1, zi_add]
        rcases hh with ⟨ef, hjj⟩ | ⟨ef, hn⟩
        · have ef' : f = Int32.ofNat 1 := ef
          subst ef'
          refine ⟨fun q => absurd q (by decide), fun _ => ?_⟩
          refine q12_itemOf hwf hB hr hi (q12_itemOf hwf hB hr (by omega) ?_)
          intro v11 e11
          refine q12_itemOf hwf hB ho (by omega) (q12_itemOf hwf hB ho (by omega) ?_)
          intro v14 e14
          have x11 : v11 = (if bIt B r i = bIt B r j then 1 else 0) := by
            rw [e11]
            by_cases z : bIt B r i = bIt B r j
            · rw [if_pos z]; exact if_neg (fun y => y (by rw [z]))
            · rw [if_neg z]; exact if_pos (fun y => z ((zIt_eq hwf hr hi hr (by omega)).mp y))
          have x14 : v14 = (if bIt B o i = bIt B o j then 1 else 0) := by
            rw [e14]
            by_cases z : bIt B o i = bIt B o j
            · rw [if_pos z]; exact if_neg (fun y => y (by rw [z]))
            · rw [if_neg z]; exact if_pos (fun y => z ((zIt_eq hwf ho (by omega) ho (by omega)).mp y))
          have hiff : (v11 = v14) ↔ (bIt B r i = bIt B r j ↔ bIt B o i = bIt B o j) := by
            rw [x11, x14]
            by_cases z1 : bIt B r i = bIt B r j <;> by_cases z2 : bIt B o i = bIt B o j
            · rw [if_pos z1, if_pos z2]; exact ⟨fun _ => ⟨fun _ => z2, fun _ => z1⟩, fun _ => rfl⟩
            · rw [if_pos z1, if_neg z2]; exact ⟨fun y => absurd y (by decide), fun y => absurd (y.mp z1) z2⟩
            · rw [if_neg z1, if_pos z2]; exact ⟨fun y => absurd y (by decide), fun y => absurd (y.mpr z2) z1⟩
            · rw [if_neg z1, if_neg z2]; exact ⟨fun _ => ⟨fun y => absurd y z1, fun y => absurd y z2⟩, fun _ => rfl⟩
          intro v15 e15
          rw [zl1, zi_add]
          by_cases q : v11 = v14
          · have x15 : v15 = Int32.ofNat 1 := e15.trans (if_neg (fun y => y q))
            rw [x15]
            refine hc' (Int32.ofNat 1, Int32.ofNat (j + 1)) ⟨rfl, Or.inl ⟨rfl, fun j' a => ?_⟩⟩
            by_cases e : j' = j
            · rw [e]; exact hiff.mp q
            · exact hjj j' (by omega)
          · have x15 : v15 = Int32.ofNat 0 := e15.trans (if_pos q)
            rw [x15]
            exact hc' (Int32.ofNat 0, Int32.ofNat (j + 1)) ⟨rfl, Or.inr ⟨rfl, fun z => q (hiff.mpr (z.2 i j hi hji))⟩⟩
        · have ef' : f = Int32.ofNat 0 := ef
          subst ef'
          exact ⟨fun _ => hc' (Int32.ofNat 0, Int32.ofNat (j + 1)) ⟨rfl, Or.inr ⟨rfl, hn⟩⟩, fun q => absurd rfl q⟩
    · have e' : f = Int32.ofNat 0 := e
      subst e'
      show fX12_alike_L48 k (n + 1) (Int32.ofNat r) (Int32.ofNat o) (Int32.ofNat 0) c w
      rw [fX12_alike_L48]
      try dsimp only
      exact ⟨fun _ => ⟨Or.inl rfl, h0 hn⟩, fun q => absurd rfl q⟩

/-! Level 2: the call judged -/
theorem zInv_no {B : zBk} {S : Nat → Int32} {N : zNt} {b nn : Nat} {w v : zW} (h : zInv B S N b nn w) (h2 : v.2 = w.2) (hg0 : ∀ a c, (a < 120 ∨ 140 ≤ a) → (a = 217 → 165 ≤ c) → gI v a c = gI w a c) (hn : zNotes B N nn v) : zInv B S N b nn v := by
  obtain ⟨hwf, hrb, hcb, hha, hpa, hma, hta, hna, hre, hsh, hsl, hno, hbr⟩ := h
  have hb := hre.1
  have hnn := hre.2.2.2.1
  have hR : ∀ a c, gR v a c = gR w a c := fun a c => by rw [gR, gR, h2]
  have hL : ∀ a c, gL v a c = gL w a c := fun a c => by rw [gL, gL, h2]
  have hg : ∀ a c, (a < 120 ∨ 140 ≤ a) → (a < 217 ∨ 217 < a) → (a = a → True) → gI v a c = gI w a c := fun a c q1 q2 _ => hg0 a c q1 (by omega)
  refine ⟨hwf, zRB_of hrb (fun k _ => hg 210 k (by omega) (by omega) (fun _ => trivial)) (fun k _ => hg 211 k (by omega) (by omega) (fun _ => trivial)) (fun k => hg 223 k (by omega) (by omega) (fun _ => trivial)) (fun k => hg 224 k (by omega) (by omega) (fun _ => trivial)) (fun k => hg 225 k (by omega) (by omega) (fun _ => trivial)) hwf,
    zCB_of hcb (fun a c q1 q2 => hg0 a c (by omega) (by omega)) hwf, ⟨hha.1, fun i hi => by rw [hg 220 i (by omega) (by omega) (fun _ => trivial)]; exact hha.2.1 i hi, fun i hi => by rw [hg (9 + 1) i (by omega) (by omega) (fun _ => trivial)]; exact hha.2.2 i hi⟩, ?_, ?_, ?_, zNames_of hna (fun o _ => ⟨hL _ _, hL _ _⟩) (fun _ => hL _ _), zRefs_of hre (fun k _ => hR 1 k), ?_, ?_, hn, ?_⟩
  · obtain ⟨n, P, p1, p2, p3, p4, p5, p6, p7⟩ := hpa
    refine ⟨n, P, p1, by rw [hg 200 21 (by omega) (by omega) (fun _ => trivial)]; exact p2, by rw [hg 21 0 (by omega) (by omega) (fun _ => trivial)]; exact p3, fun j i hj hi => by rw [hg 220 _ (by omega) (by omega) (fun _ => trivial)]; exact p4 j i hj hi, p5, p6, fun j hj => ?_⟩
    rw [hg 22 j (by omega) (by omega) (fun _ => trivial), hg 23 j (by omega) (by omega) (fun _ => trivial)]
    exact p7 j hj
  · intro m hm
    obtain ⟨f, q1, q2, q3⟩ := hma m hm
    refine ⟨f, by rw [hg 222 m (by omega) (by omega) (fun _ => trivial)]; exact q1, by rw [hg 20 m (by omega) (by omega) (fun _ => trivial)]; exact q2, fun e => ?_⟩
    obtain ⟨Q, z1, z2, z3⟩ := q3 e
    exact ⟨Q, z1, fun i hi => by rw [hg 220 _ (by omega) (by omega) (fun _ => trivial)]; exact z2 i hi, fun i hi => by rw [hg _ i (by omega) (by omega) (fun _ => trivial)]; exact z3 i hi⟩
  · obtain ⟨n', t, t1, t2, t3, t4⟩ := hta
    exact ⟨n', t, t1, by rw [hg 200 2 (by omega) (by omega) (fun _ => trivial)]; exact t2, by rw [hg 2 1 (by omega) (by omega) (fun _ => trivial)]; exact t3, fun i hi => ⟨(t4 i hi).1, by rw [hg 201 i (by omega) (by omega) (fun _ => trivial)]; exact (t4 i hi).2.1, by rw [hg 3 i (by omega) (by omega) (fun _ => trivial)]; exact (t4 i hi).2.2⟩⟩
  · obtain ⟨big, bs, hs', z1, z2, z3, z4, z5, z6, z7⟩ := hsh
    have hbig := zBig_is z5
    have e24 : ∀ c, gI v 24 c = gI w 24 c := fun c => hg0 24 c (by omega) (by omega)
    have e0 : ∀ c, gI v 0 c = gI w 0 c := fun c => hg0 0 c (by omega) (by omega)
    refine ⟨big, bs, hs', z1, z2, by rw [e24]; exact z3, by rw [e24]; exact z4, zBig_of z5 (fun c _ => hR 24 c) (fun c _ => e0 c), fun e => ?_, fun e => ?_⟩
    · obtain ⟨q1, q2, q3, q4, q5, q6⟩ := z6 e
      exact ⟨by rw [hR]; exact q1, q2, by rw [e24]; exact q3, by rw [e24]; exact q4, fun i hi => by rw [hg0 big i (by omega) (by omega)]; exact q5 i hi, fun i hi => by rw [hg0 (big + 2) i (by omega) (by omega)]; exact q6 i hi⟩
    · obtain ⟨q1, q2, q3⟩ := z7 e
      exact ⟨q1, by rw [e24]; exact q2, fun i hi => by rw [hg0 (big + 1) i (by omega) (by omega)]; exact q3 i hi⟩
  · obtain ⟨st, z1, z2, z3⟩ := hsl
    have e31 : ∀ c, gI v 31 c = gI w 31 c := fun c => hg 31 c (by omega) (by omega) (fun _ => trivial)
    exact ⟨st, z1, by rw [e31]; exact z2, fun e => by rw [e31, e31, e31, e31]; exact z3 e⟩
  · refine ⟨fun r hr => by rw [hg (b + 30) r (by omega) (by omega) (fun _ => trivial)]; exact hbr.1 r hr, ?_⟩
    rw [hR 1 13, hR 140 0, hR 140 1, hg 0 140 (by omega) (by omega) (fun _ => trivial), hg 0 141 (by omega) (by omega) (fun _ => trivial), hg 0 142 (by omega) (by omega) (fun _ => trivial)]
    exact hbr.2
theorem c_judged {B : zBk} {S : Nat → Int32} {N : zNt} {b nn : Nat} {x : Int32} {w : zW} {k : Nat → Nat → zW → Prop} {k0 : zW → Prop} (h : zInv B S N b nn w) (hk : ∀ c s v, zInv B S N b nn v → zCost c s w v → k c s v) : ∃ c s, c ≤ zNA w ∧ s ≤ zNS w ∧ fX11_judged c s x w (fun r1 w1 => fX12_judged x w1 (fun r2 w2 => (r1 = r2 → k c s w2) ∧ (¬ r1 = r2 → k0 w2))) := by
  have hwf := iv_wf h
  have ht := zInv_t h 0
  have hnn := (iv_re h).2.2.2.1
  have h11 := (iv_re h).2.2.2.2.1
  have hkv := hk 0 0 _ ht (zCost_fl ⟨rfl, rfl⟩)
  by_cases hx : ∃ a, x = Int32.ofNat a ∧ a ≤ 2
  · obtain ⟨a, rfl, ha⟩ := hx
    -- the reference's side
    have href : ∀ (v : zW) (K : Int32 → zW → Prop), zInv B S N b nn v → (∀ u : zW, zInv B S N b nn u → zfl v u → K (zjans B N a) u) → fX12_judged (Int32.ofNat a) v K := by
      intro v K vi hK w1 e
      subst e
      refine q12_within (lo := 0) (hi := 2) (by omega) (by decide) (by decide) ?_
      rw [if_pos (by omega)]
      refine ⟨fun _ => ?_, fun q => absurd q (by decide)⟩
      refine q12_judged (zInv_t vi 0) ha (fun u u2 uf => ?_)
      refine hK u (zInv_of (zInv_t vi 0) (fun a c q => uf a c (by unfold zkeep at q; omega) (by unfold zkeep at q; omega) (by unfold zkeep at q; omega) (by unfold zkeep at q; omega) (by unfold zkeep at q; omega)) u2) ⟨?_, ?_⟩
      · rw [uf 0 140 (by omega) (by omega) (by omega) (by omega) (by omega)]; rfl
      · exact zr2 u2 24 4
    have hJ : ∀ (v : zW) (K : Int32 → zW → Prop) (m1 m2 : Nat), gR v 1 11 = nn → gI v nn 2 = zfind N.1 (zcb B N) → gI v nn 3 = zfind N.1 (znl B N) → gI v nn 4 = Int32.ofNat (zFL B (zNh B N N.1)).length → K (zjans B N a) v → fX11_judged_J37 K m1 m2 (Int32.ofNat a) v := by
      intro v K m1 m2 r1 v2 v3 v4 hK
      rw [fX11_judged_J37, r1, v2, v3, v4]
      refine ⟨fun q => ⟨fun q2 => ⟨by omega, ?_⟩, fun q2 => ⟨by omega, ?_⟩⟩, fun q => ⟨by omega, ?_⟩⟩
      · have z0 : ¬ a = 0 := fun z => q (by rw [z]; rfl)
        have z1 : ¬ a = 1 := fun z => q2 (by rw [z]; rfl)
        rw [zjans, if_neg z0, if_neg z1] at hK
        exact hK
      · have z1 : a = 1 := (zi_eq (b := 1) (by omega) (by decide)).mp q2
        rw [zjans, if_neg (by omega), if_pos z1] at hK
        exact hK
      · have z0 : a = 0 := (zi_eq (b := 0) (by omega) (by decide)).mp q
        rw [zjans, if_pos z0] at hK
        exact hK
    obtain ⟨hN, n0, nc0, nl, ncl, st, hst, hst1, hst0⟩ := iv_no h
    by_cases q : st = 0
    · obtain ⟨j2, j3, j4⟩ := hst0 q
      refine ⟨0, 0, Nat.zero_le _, Nat.zero_le _, ?_⟩
      rw [fX11_judged]
      refine ⟨fun z => absurd z (zi_0le (by omega)), fun _ => ⟨fun _ => ⟨by rw [h11]; omega, ?_⟩, fun z => absurd ((zi_le (b := 2) (by omega) (by decide)).mpr ha) z⟩⟩
      rw [h11, hst1, q]
      refine ⟨fun _ => ?_, fun z => absurd rfl z⟩
      refine hJ w _ 0 0 h11 j2 j3 j4 ?_
      exact href w _ h (fun u ui uf => zc_same (hk 0 0 u ui (zCost_fl uf)))
    · have e : st = 1 := by omega
      subst e
      refine ⟨_, _, (zn_le h).1, (zn_le h).2, ?_⟩
      rw [fX11_judged]
      refine ⟨fun z => absurd z (zi_0le (by omega)), fun _ => ⟨fun _ => ⟨by rw [h11]; omega, ?_⟩, fun z => absurd ((zi_le (b := 2) (by omega) (by decide)).mpr ha) z⟩⟩
      rw [h11, hst1]
      refine ⟨fun z => absurd z (by decide), fun _ => ⟨by rw [(iv_re h).2.1]; have := (iv_re h).1; omega, _, _, Nat.le_refl _, Nat.le_refl _, ?_⟩⟩
      refine q_laidI h (fun v big vi vl v0 vp v140 => ?_)
      obtain ⟨-, -, vc0, -, vcl, -⟩ := iv_no vi
      rw [(iv_re h).2.1]
      refine q5_judge hwf (iv_cb vi) (iv_re vi).1 hnn vl hN vc0 vcl (fun u u2 uf u1 ua ub uc => ?_)
      have hR : ∀ a c, gR u a c = gR v a c := fun a c => by rw [gR, gR, u2]
      have ui : zInv B S N b nn u := zInv_no vi u2 (fun a c q1 _ => uf a c (by omega) (by omega)) ⟨hN, by rw [uf 217 0 (by omega) (by omega)]; exact (iv_no vi).2.1, by rw [uf nn 0 (by omega) (by omega)]; exact vc0, fun i hi => by
        rw [uf 217 _ (by omega) (by omega), uf 217 _ (by omega) (by omega), uf 217 _ (by omega) (by omega), uf 217 _ (by omega) (by omega)]
        exact (iv_no vi).2.2.2.1 i hi, fun i hi => by
        rw [uf (nn + 1) i (by omega) (by omega), uf (nn + 2) i (by omega) (by omega), uf (nn + 3) i (by omega) (by omega)]
        exact vcl i hi, 0, by decide, u1, fun _ => ⟨ua, ub, uc⟩⟩
      refine hJ u _ _ _ (by rw [hR]; exact (iv_re vi).2.2.2.2.1) ua ub uc ?_
      refine href u _ ui (fun t ti tf => zc_same (hk _ _ t ti (zCost_done (zdone_fl (zpaid_30 vp (hR 24 4)) (by rw [uf 0 140 (by omega) (by omega)]; exact v140) tf))))
  · refine ⟨0, 0, Nat.zero_le _, Nat.zero_le _, ?_⟩
    have hout : fX12_judged x w (fun r2 w2 => ((-2 : Int32) = r2 → k 0 0 w2) ∧ (¬ (-2 : Int32) = r2 → k0 w2)) := by
      intro w1 e
      subst e
      rcases zi_cases x with q | ⟨a, ha, rfl⟩
      · exact q12_withinN (lo := 0) q (by decide) ⟨fun z => absurd rfl z, fun _ => zc_same hkv⟩
      · refine q12_within (lo := 0) (hi := 2) ha (by decide) (by decide) ?_
        rw [if_neg (fun z => hx ⟨a, rfl, z.2⟩)]
        exact ⟨fun z => absurd rfl z, fun _ => zc_same hkv⟩
    rw [fX11_judged]
    rcases zi_cases x with q | ⟨a, ha, rfl⟩
    · exact ⟨fun _ => hout, fun z => absurd q z⟩
    · exact ⟨fun z => absurd z (zi_0le ha), fun _ => ⟨fun z => absurd ((zi_le (b := 2) ha (by decide)).mp z) (fun y => hx ⟨a, rfl, y⟩), fun _ => hout⟩⟩

/-! Level 2: ask, learn, chance, drops, strict -/
/-- what to ask for: of some that are still open the one with the least of its greatest -/
def zak (L : Nat) (G : Nat → Nat) (op : Nat → Bool) : Nat → Nat × Int32
  | 0 => (L, zN1)
  | n + 1 => if op n = true ∧ G n < (zak L G op n).1 then (G n, Int32.ofNat n) else zak L G op n
theorem zak_S (L : Nat) (G : Nat → Nat) (op : Nat → Bool) (n : Nat) : zak L G op (n + 1) = if op n = true ∧ G n < (zak L G op n).1 then (G n, Int32.ofNat n) else zak L G op n := rfl
theorem zak_le {L : Nat} {G : Nat → Nat} {op : Nat → Bool} (hL : L ≤ 6561) (hG : ∀ n, G n ≤ 6561) (n : Nat) : (zak L G op n).1 ≤ 6561 := by
  induction n with
  | zero => exact hL
  | succ n ih =>
    rw [zak_S]
    by_cases q : op n = true ∧ G n < (zak L G op n).1
    · rw [if_pos q]; exact hG n
    · rw [if_neg q]; exact ih
theorem zct_none {f : Nat → Nat} {l : List Nat} {n : Nat} (h : ∀ d, d ∈ l → ¬ f d = n) : zct f l n = 0 := by
  rw [zct, List.countP_eq_zero]
  exact fun d hd e => h d hd (eq_of_beq e)
theorem c_ask {B : zBk} {S : Nat → Int32} {N : zNt} {b nn : Nat} {w : zW} {k : Nat → Nat → zW → Prop} {k0 : zW → Prop} (h : zInv B S N b nn w) (hk : ∀ c s v, zInv B S N b nn v → zCost c s w v → k c s v) : ∃ c s, c ≤ zNA w ∧ s ≤ zNS w ∧ fX11_ask c s w (fun r1 w1 => fX12_ask w1 (fun r2 w2 => (r1 = r2 → k c s w2) ∧ (¬ r1 = r2 → k0 w2))) := by
  have hwf := iv_wf h
  have h4 := wf_W hwf
  have h8 := wf_R hwf
  have hb := (iv_re h).1
  have hle := zn_le h
  have hL := zFL_6561 hwf S
  obtain ⟨G, hG⟩ : ∃ G : Nat → Nat, ∀ j, G j = zmx (zct (fun d => zLv B j (zdm (bW B) d)) (zFL B S)) 121 := ⟨_, fun _ => rfl⟩
  obtain ⟨op, hop⟩ : ∃ op : Nat → Bool, ∀ j, op j = decide (S (4 + j) = zN1) := ⟨_, fun _ => rfl⟩
  have hGl : ∀ j, G j ≤ 6561 := fun j => by rw [hG]; exact zmx_le (zct_6561 hwf S _) _
  have hzl := fun n => zak_le (L := (zFL B S).length) (op := op) hL hGl n
  have hz : ∀ n, (zak (zFL B S).length G op n).1 < 2 ^ 31 := fun n => by have := hzl n; omega
  refine ⟨_, _, hle.1, hle.2, _, _, Nat.le_refl _, Nat.le_refl _, q_readyI h (fun v big vi vl vc v0 v1 vp v140 => ?_)⟩
  intro v2 e2
  rw [vc.1] at e2
  subst e2
  refine zinv (fun n (s : Nat × Nat × Int32 × Int32 × Int32 × zW) => fX11_ask_L12 _ n s.1 s.2.1 s.2.2.1 s.2.2.2.1 s.2.2.2.2.1 s.2.2.2.2.2) (fun i s => ∃ (mc ms : Nat) (u : zW), s = (mc, ms, Int32.ofNat (zak (zFL B S).length G op i).1, (zak (zFL B S).length G op i).2, Int32.ofNat i, u) ∧ zInv B S N b nn u ∧ gI u 24 0 = Int32.ofNat 0 ∧ zdone B w u) (bR B) (s0 := (_, _, Int32.ofNat (zFL B S).length, (-1 : Int32), 0, v)) ⟨_, _, v, rfl, vi, v0, vp, v140⟩ ?_ ?_
  · rintro n s ⟨mc, ms, u, rfl, ui, u0, ud⟩
    rw [fX11_ask_L12]
    try dsimp only
    rw [(iv_re ui).2.1]
    refine ⟨by omega, ?_⟩
    rw [cb_R (iv_cb ui)]
    refine ⟨fun _ => ?_, fun q => absurd (Int32.le_refl _) q⟩
    intro w1 e
    subst e
    refine q_refWord ui (fun t ti u34 u35 u31 tfl => ?_)
    have hkv := hk _ _ t ti (zCost_done (zdone_fl ud.1 ud.2 tfl))
    intro v3 e3
    rw [u31] at e3
    subst e3
    refine zrun (fun n (s : Int32 × Int32 × Int32) => fX12_ask_L18 _ n s.1 s.2.1 s.2.2 t) (fun i => ((zak (zFL B S).length G op i).2, Int32.ofNat (zak (zFL B S).length G op i).1, Int32.ofNat i)) (bR B) (fun n => ?_) (fun i n hi hc => ?_)
    · rw [fX12_ask_L18]
      try dsimp only
      rw [fX12_rows, show (2 : Int32).toNatClampNeg = 2 from rfl, rb_R (iv_rb ti)]
      exact ⟨fun _ => zc_same hkv, fun q => absurd (Int32.le_refl _) q⟩
    · rw [fX12_ask_L18]
      try dsimp only
      rw [fX12_rows, show (2 : Int32).toNatClampNeg = 2 from rfl, rb_R (iv_rb ti)]
      refine ⟨fun q => absurd q (zi_nge hi (by omega)), fun _ => ?_⟩
      have hTl := zct_6561 hwf S (fun d => zLv B i (zdm (bW B) d))
      refine zrun (fun n' (s : Int32 × Int32) => fX12_ask_L32 _ (fX12_ask_L18 _ n) n' (zak (zFL B S).length G op i).2 (Int32.ofNat (zak (zFL B S).length G op i).1) (Int32.ofNat i) s.1 s.2 t) (fun c => (Int32.ofNat (zmx (zct (fun d => zLv B i (zdm (bW B) d)) (zFL B S)) c), Int32.ofNat c)) 121 (fun n' => ?_) (fun c n' hcl hc' => ?_)
      · rw [fX12_ask_L32]
        try dsimp only
        rw [← hG]
        refine ⟨fun _ => ?_, fun q => absurd (by decide) q⟩
        have hGi := hGl i
        have hzi := hzl i
        have e20 : gI t 220 (4 + i) = S (4 + i) := (iv_ha ti).2.1 _ (by omega)
        have hJ : ∀ v8 : Int32, v8 = (if op i = true ∧ G i < (zak (zFL B S).length G op i).1 then (1 : Int32) else 0) → fX12_ask_J103 (fun r2 w2 => ((zak (zFL B S).length G op (bR B)).2 = r2 → k (znc (znD B) w) (zns (znD B) w) w2) ∧ (¬ (zak (zFL B S).length G op (bR B)).2 = r2 → k0 w2)) (fX12_ask_L18 (fun r2 w2 => ((zak (zFL B S).length G op (bR B)).2 = r2 → k (znc (znD B) w) (zns (znD B) w) w2) ∧ (¬ (zak (zFL B S).length G op (bR B)).2 = r2 → k0 w2)) n) (zak (zFL B S).length G op i).2 (Int32.ofNat (zak (zFL B S).length G op i).1) (Int32.ofNat i) (Int32.ofNat (G i)) v8 t := by
          intro v8 e8 v9 e9 v10 e10
          rw [zl1, zi_add]
          have hs := zak_S (zFL B S).length G op i
          by_cases q : op i = true ∧ G i < (zak (zFL B S).length G op i).1
          · rw [if_pos q] at e8 hs
            have e9' : v9 = Int32.ofNat i := by rw [e9, e8]; exact if_neg (by decide)
            have e10' : v10 = Int32.ofNat (G i) := by rw [e10, e8]; exact if_neg (by decide)
            rw [hs] at hc
            rw [e9', e10']
            exact hc
          · rw [if_neg q] at e8 hs
            have e9' : v9 = (zak (zFL B S).length G op i).2 := by rw [e9, e8]; exact if_pos rfl
            have e10' : v10 = Int32.ofNat (zak (zFL B S).length G op i).1 := by rw [e10, e8]; exact if_pos rfl
            rw [hs] at hc
            rw [e9', e10']
            exact hc
        rw [zl4, zi_add]
        refine ⟨zi_in (by omega) (by omega), ?_⟩
        intro v8 e8
        refine hJ v8 ?_
        rw [zi_nat (show 4 + i < 2 ^ 31 by omega), e20] at e8
        rcases (iv_ha h).1.2.2.1 i (by omega) with e | ⟨m, m1, e⟩
        · rw [e] at e8
          have ho : op i = true := by rw [hop]; exact decide_eq_true e
          have e8' := e8.trans (if_neg (show ¬ (0 : Int32) ≤ zN1 by decide))
          rw [e8']
          by_cases q : G i < (zak (zFL B S).length G op i).1
          · rw [if_pos (show op i = true ∧ G i < (zak (zFL B S).length G op i).1 from ⟨ho, q⟩)]
            exact if_neg (fun z => by have := (zi_le (by omega) (by omega)).mp z; omega)
          · rw [if_neg (show ¬ (op i = true ∧ G i < (zak (zFL B S).length G op i).1) from fun z => q z.2)]
            exact if_pos ((zi_le (by omega) (by omega)).mpr (by omega))
        · rw [e] at e8
          have ho : ¬ op i = true := by rw [hop]; exact fun z => zN1_ne (show m < 2 ^ 31 by omega) (e.symm.trans (of_decide_eq_true z))
          rw [if_neg (show ¬ (op i = true ∧ G i < (zak (zFL B S).length G op i).1) from fun z => ho z.1)]
          exact e8.trans (if_pos (Int32.not_lt.mp (zi_0le (by omega))))
      · have hTc := hTl c
        have hmc := zmx_le hTl c
        have hs := zmx_S (zct (fun d => zLv B i (zdm (bW B) d)) (zFL B S)) c
        by_cases q : zmx (zct (fun d => zLv B i (zdm (bW B) d)) (zFL B S)) c < zct (fun d => zLv B i (zdm (bW B) d)) (zFL B S) c
        · rw [if_pos q] at hs
          rw [hs] at hc'
          simp (disch := omega) only [fX12_ask_L32, u35 i c hi hcl, ↓zln1, ↓zln2, zl0, zl1, zl2, zl3, zl4, zl5, zl6, zl7, zl8, zl9, zl10, zl12, zl15, zl16, zl20, zl24, zl30, zl32, zl36, zl40, zl48, zl57, zl59, zl60, zl61, zl97, zl99, zl120, zl121, zl122, zl126, zl165, zl255, zl480, zl968, zl1000, zl1100, zi_add, zi_mul, zi_sub, zi_div, zi_mod, zi_nat, zt_le, zf_le, zt_lt, zf_lt, zt_eq, zf_eq, zt_vp, zt_N1lt, zf_N1lt, zf_N1eq, zf_eqN1, zt_N1eq, zt_N1le, zf_leN1, zi_nN1, zi_a1, zi_a15, zi_a255, zi_shr, zi_bit, zt_b0, zt_b1, forall_eq, if_true, if_false, true_implies, false_implies, not_true_eq_false, not_false_eq_true, and_true, true_and, gI_sI_eq, gI_sI_ne, gI_sI_ne2, gL_sI, gR_sI, gI_sL, gL_sL_eq, gL_sL_ne, gL_sL_ne2, gR_sL, gI_sR, gL_sR, gR_sR_eq, gR_sR_ne, gR_sR_ne2, gI_aI_eq, gI_aI_ne, gL_aI, gR_aI]
          exact hc'
        · rw [if_neg q] at hs
          rw [hs] at hc'
          simp (disch := omega) only [fX12_ask_L32, u35 i c hi hcl, ↓zln1, ↓zln2, zl0, zl1, zl2, zl3, zl4, zl5, zl6, zl7, zl8, zl9, zl10, zl12, zl15, zl16, zl20, zl24, zl30, zl32, zl36, zl40, zl48, zl57, zl59, zl60, zl61, zl97, zl99, zl120, zl121, zl122, zl126, zl165, zl255, zl480, zl968, zl1000, zl1100, zi_add, zi_mul, zi_sub, zi_div, zi_mod, zi_nat, zt_le, zf_le, zt_lt, zf_lt, zt_eq, zf_eq, zt_vp, zt_N1lt, zf_N1lt, zf_N1eq, zf_eqN1, zt_N1eq, zt_N1le, zf_leN1, zi_nN1, zi_a1, zi_a15, zi_a255, zi_shr, zi_bit, zt_b0, zt_b1, forall_eq, if_true, if_false, true_implies, false_implies, not_true_eq_false, not_false_eq_true, and_true, true_and, gI_sI_eq, gI_sI_ne, gI_sI_ne2, gL_sI, gR_sI, gI_sL, gL_sL_eq, gL_sL_ne, gL_sL_ne2, gR_sL, gI_sR, gL_sR, gR_sR_eq, gR_sR_ne, gR_sR_ne2, gI_aI_eq, gI_aI_ne, gL_aI, gR_aI]
          exact hc'
  · rintro i n s hi ⟨mc, ms, u, rfl, ui, u0, ud⟩ hc
    have hbv := (iv_re ui).1
    have hGi := hGl i
    have hzi := hzl i
    have hz0 := znc_0 (N := znD B) u0
    have hs := zak_S (zFL B S).length G op i
    have hc2 : ∀ (mc ms : Nat) (u : zW), zInv B S N b nn u → gI u 24 0 = Int32.ofNat 0 → zdone B w u → fX11_ask_L12 (fun r1 w1 => fX12_ask w1 (fun r2 w2 => (r1 = r2 → k (znc (znD B) w) (zns (znD B) w) w2) ∧ (¬ r1 = r2 → k0 w2))) n mc ms (Int32.ofNat (zak (zFL B S).length G op (i + 1)).1) (zak (zFL B S).length G op (i + 1)).2 (Int32.ofNat (i + 1)) u := fun mc ms u a b c => hc (mc, ms, _, _, _, u) ⟨mc, ms, u, rfl, a, b, c⟩
    rw [fX11_ask_L12]
    try dsimp only
    rw [(iv_re ui).2.1]
    refine ⟨by omega, ?_⟩
    rw [cb_R (iv_cb ui)]
    refine ⟨fun q => absurd q (zi_nge hi (by omega)), fun _ => ?_⟩
    refine q3_countOf (by omega) ?_
    rw [(iv_ha ui).2.2 (4 + i) (by omega)]
    refine ⟨fun e => ?_, fun e => ⟨znc (znD B) u, zns (znD B) u, by rw [hz0.1]; exact Nat.zero_le _, by rw [hz0.2]; exact Nat.zero_le _, ?_⟩⟩
    · have ho : ¬ op i = true := by rw [hop]; exact fun z => e (of_decide_eq_true z)
      rw [if_neg (fun z => ho z.1)] at hs
      rw [hs] at hc2
      rw [zl1, zi_add]
      exact hc2 _ _ u ui u0 ud
    · have ho : op i = true := by rw [hop]; exact decide_eq_true e
      refine q_talliedRowI ui hi (fun t big' ti tl tc t0 t1 tp t140 tt => ?_)
      have td := zdone_next ud u0 tp t140
      refine q9_greatest tt (zct_6561 hwf S _) ?_
      rw [← hG]
      refine ⟨fun q => ?_, fun q => ?_⟩
      · have q' := (zi_le (by omega) (by omega)).mp q
        rw [if_neg (fun z => by omega)] at hs
        rw [hs] at hc2
        rw [zl1, zi_add]
        exact hc2 _ _ t ti t0 td
      · have q' : G i < (zak (zFL B S).length G op i).1 := Nat.lt_of_not_le (fun z => q ((zi_le (by omega) (by omega)).mpr z))
        rw [if_pos ⟨ho, q'⟩] at hs
        refine q9_greatest tt (zct_6561 hwf S _) ?_
        rw [← hG, zl1, zi_add]
        rw [hs] at hc2
        exact hc2 _ _ t ti t0 td
theorem c_learn {B : zBk} {S : Nat → Int32} {N : zNt} {b nn : Nat} {w : zW} {k : Nat → Nat → zW → Prop} {k0 : zW → Prop} (h : zInv B S N b nn w) (hk : ∀ c s v, zInv B S N b nn v → zCost c s w v → k c s v) : ∃ c s, c ≤ zNA w ∧ s ≤ zNS w ∧ fX11_learn c s w (fun r1 w1 => fX12_learn w1 (fun r2 w2 => (r1 = r2 → k c s w2) ∧ (¬ r1 = r2 → k0 w2))) := by
  have hwf := iv_wf h
  have h4 := wf_W hwf
  have h8 := wf_R hwf
  have hb := (iv_re h).1
  have hle := zn_le h
  have hL := zFL_6561 hwf S
  obtain ⟨G, hG⟩ : ∃ G : Nat → Nat, ∀ j, G j = zmx (zct (fun d => zdm (bW B) d j) (zFL B S)) 9 := ⟨_, fun _ => rfl⟩
  obtain ⟨op, hop⟩ : ∃ op : Nat → Bool, ∀ j, op j = decide (S j = zN1) := ⟨_, fun _ => rfl⟩
  have hGl : ∀ j, G j ≤ 6561 := fun j => by rw [hG]; exact zmx_le (zct_6561 hwf S _) _
  have hzl := fun n => zak_le (L := (zFL B S).length) (op := op) hL hGl n
  have hz : ∀ n, (zak (zFL B S).length G op n).1 < 2 ^ 31 := fun n => by have := hzl n; omega
  refine ⟨_, _, hle.1, hle.2, _, _, Nat.le_refl _, Nat.le_refl _, q_readyI h (fun v big vi vl vc v0 v1 vp v140 => ?_)⟩
  intro v2 e2
  rw [vc.1] at e2
  subst e2
  refine zinv (fun n (s : Nat × Nat × Int32 × Int32 × Int32 × zW) => fX11_learn_L12 _ n s.1 s.2.1 s.2.2.1 s.2.2.2.1 s.2.2.2.2.1 s.2.2.2.2.2) (fun i s => ∃ (mc ms : Nat) (u : zW), s = (mc, ms, Int32.ofNat (zak (zFL B S).length G op i).1, (zak (zFL B S).length G op i).2, Int32.ofNat i, u) ∧ zInv B S N b nn u ∧ gI u 24 0 = Int32.ofNat 0 ∧ zdone B w u) (bW B) (s0 := (_, _, Int32.ofNat (zFL B S).length, (-1 : Int32), 0, v)) ⟨_, _, v, rfl, vi, v0, vp, v140⟩ ?_ ?_
  · rintro n s ⟨mc, ms, u, rfl, ui, u0, ud⟩
    rw [fX11_learn_L12]
    try dsimp only
    rw [(iv_re ui).2.1]
    refine ⟨by omega, ?_⟩
    rw [cb_W (iv_cb ui)]
    refine ⟨fun _ => ?_, fun q => absurd (Int32.le_refl _) q⟩
    intro w1 e
    subst e
    refine q_refWord ui (fun t ti u34 u35 u31 tfl => ?_)
    have hkv := hk _ _ t ti (zCost_done (zdone_fl ud.1 ud.2 tfl))
    intro v3 e3
    rw [u31] at e3
    subst e3
    refine zrun (fun n (s : Int32 × Int32 × Int32) => fX12_learn_L18 _ n s.1 s.2.1 s.2.2 t) (fun i => ((zak (zFL B S).length G op i).2, Int32.ofNat (zak (zFL B S).length G op i).1, Int32.ofNat i)) (bW B) (fun n => ?_) (fun i n hi hc => ?_)
    · rw [fX12_learn_L18]
      try dsimp only
      rw [fX12_wordsTold, show (0 : Int32).toNatClampNeg = 0 from rfl, rb_W (iv_rb ti)]
      exact ⟨fun _ => zc_same hkv, fun q => absurd (Int32.le_refl _) q⟩
    · rw [fX12_learn_L18]
      try dsimp only
      rw [fX12_wordsTold, show (0 : Int32).toNatClampNeg = 0 from rfl, rb_W (iv_rb ti)]
      refine ⟨fun q => absurd q (zi_nge hi (by omega)), fun _ => ?_⟩
      have hTl := zct_6561 hwf S (fun d => zdm (bW B) d i)
      refine zrun (fun n' (s : Int32 × Int32) => fX12_learn_L32 _ (fX12_learn_L18 _ n) n' (zak (zFL B S).length G op i).2 (Int32.ofNat (zak (zFL B S).length G op i).1) (Int32.ofNat i) s.1 s.2 t) (fun c => (Int32.ofNat (zmx (zct (fun d => zdm (bW B) d i) (zFL B S)) c), Int32.ofNat c)) 9 (fun n' => ?_) (fun c n' hcl hc' => ?_)
      · rw [fX12_learn_L32]
        try dsimp only
        rw [← hG]
        refine ⟨fun _ => ?_, fun q => absurd (by decide) q⟩
        have hGi := hGl i
        have hzi := hzl i
        have e20 : gI t 220 (i) = S i := (iv_ha ti).2.1 _ (by omega)
        have hJ : ∀ v8 : Int32, v8 = (if op i = true ∧ G i < (zak (zFL B S).length G op i).1 then (1 : Int32) else 0) → fX12_learn_J101 (fun r2 w2 => ((zak (zFL B S).length G op (bW B)).2 = r2 → k (znc (znD B) w) (zns (znD B) w) w2) ∧ (¬ (zak (zFL B S).length G op (bW B)).2 = r2 → k0 w2)) (fX12_learn_L18 (fun r2 w2 => ((zak (zFL B S).length G op (bW B)).2 = r2 → k (znc (znD B) w) (zns (znD B) w) w2) ∧ (¬ (zak (zFL B S).length G op (bW B)).2 = r2 → k0 w2)) n) (zak (zFL B S).length G op i).2 (Int32.ofNat (zak (zFL B S).length G op i).1) (Int32.ofNat i) (Int32.ofNat (G i)) v8 t := by
          intro v8 e8 v9 e9 v10 e10
          rw [zl1, zi_add]
          have hs := zak_S (zFL B S).length G op i
          by_cases q : op i = true ∧ G i < (zak (zFL B S).length G op i).1
          · rw [if_pos q] at e8 hs
            have e9' : v9 = Int32.ofNat i := by rw [e9, e8]; exact if_neg (by decide)
            have e10' : v10 = Int32.ofNat (G i) := by rw [e10, e8]; exact if_neg (by decide)
            rw [hs] at hc
            rw [e9', e10']
            exact hc
          · rw [if_neg q] at e8 hs
            have e9' : v9 = (zak (zFL B S).length G op i).2 := by rw [e9, e8]; exact if_pos rfl
            have e10' : v10 = Int32.ofNat (zak (zFL B S).length G op i).1 := by rw [e10, e8]; exact if_pos rfl
            rw [hs] at hc
            rw [e9', e10']
            exact hc
        refine ⟨zi_in (by omega) (by omega), ?_⟩
        intro v8 e8
        refine hJ v8 ?_
        rw [zi_nat (show i < 2 ^ 31 by omega), e20] at e8
        rcases (iv_ha h).1.1 i (by omega) with e | ⟨m, m1, e⟩
        · rw [e] at e8
          have ho : op i = true := by rw [hop]; exact decide_eq_true e
          have e8' := e8.trans (if_neg (show ¬ (0 : Int32) ≤ zN1 by decide))
          rw [e8']
          by_cases q : G i < (zak (zFL B S).length G op i).1
          · rw [if_pos (show op i = true ∧ G i < (zak (zFL B S).length G op i).1 from ⟨ho, q⟩)]
            exact if_neg (fun z => by have := (zi_le (by omega) (by omega)).mp z; omega)
          · rw [if_neg (show ¬ (op i = true ∧ G i < (zak (zFL B S).length G op i).1) from fun z => q z.2)]
            exact if_pos ((zi_le (by omega) (by omega)).mpr (by omega))
        · rw [e] at e8
          have ho : ¬ op i = true := by rw [hop]; exact fun z => zN1_ne (show m < 2 ^ 31 by omega) (e.symm.trans (of_decide_eq_true z))
          rw [if_neg (show ¬ (op i = true ∧ G i < (zak (zFL B S).length G op i).1) from fun z => ho z.1)]
          exact e8.trans (if_pos (Int32.not_lt.mp (zi_0le (by omega))))
      · have hTc := hTl c
        have hmc := zmx_le hTl c
        have hs := zmx_S (zct (fun d => zdm (bW B) d i) (zFL B S)) c
        by_cases q : zmx (zct (fun d => zdm (bW B) d i) (zFL B S)) c < zct (fun d => zdm (bW B) d i) (zFL B S) c
        · rw [if_pos q] at hs
          rw [hs] at hc'
          simp (disch := omega) only [fX12_learn_L32, u34 i c hi hcl, ↓zln1, ↓zln2, zl0, zl1, zl2, zl3, zl4, zl5, zl6, zl7, zl8, zl9, zl10, zl12, zl15, zl16, zl20, zl24, zl30, zl32, zl36, zl40, zl48, zl57, zl59, zl60, zl61, zl97, zl99, zl120, zl121, zl122, zl126, zl165, zl255, zl480, zl968, zl1000, zl1100, zi_add, zi_mul, zi_sub, zi_div, zi_mod, zi_nat, zt_le, zf_le, zt_lt, zf_lt, zt_eq, zf_eq, zt_vp, zt_N1lt, zf_N1lt, zf_N1eq, zf_eqN1, zt_N1eq, zt_N1le, zf_leN1, zi_nN1, zi_a1, zi_a15, zi_a255, zi_shr, zi_bit, zt_b0, zt_b1, forall_eq, if_true, if_false, true_implies, false_implies, not_true_eq_false, not_false_eq_true, and_true, true_and, gI_sI_eq, gI_sI_ne, gI_sI_ne2, gL_sI, gR_sI, gI_sL, gL_sL_eq, gL_sL_ne, gL_sL_ne2, gR_sL, gI_sR, gL_sR, gR_sR_eq, gR_sR_ne, gR_sR_ne2, gI_aI_eq, gI_aI_ne, gL_aI, gR_aI]
          exact hc'
        · rw [if_neg q] at hs
          rw [hs] at hc'
          simp (disch := omega) only [fX12_learn_L32, u34 i c hi hcl, ↓zln1, ↓zln2, zl0, zl1, zl2, zl3, zl4, zl5, zl6, zl7, zl8, zl9, zl10, zl12, zl15, zl16, zl20, zl24, zl30, zl32, zl36, zl40, zl48, zl57, zl59, zl60, zl61, zl97, zl99, zl120, zl121, zl122, zl126, zl165, zl255, zl480, zl968, zl1000, zl1100, zi_add, zi_mul, zi_sub, zi_div, zi_mod, zi_nat, zt_le, zf_le, zt_lt, zf_lt, zt_eq, zf_eq, zt_vp, zt_N1lt, zf_N1lt, zf_N1eq, zf_eqN1, zt_N1eq, zt_N1le, zf_leN1, zi_nN1, zi_a1, zi_a15, zi_a255, zi_shr, zi_bit, zt_b0, zt_b1, forall_eq, if_true, if_false, true_implies, false_implies, not_true_eq_false, not_false_eq_true, and_true, true_and, gI_sI_eq, gI_sI_ne, gI_sI_ne2, gL_sI, gR_sI, gI_sL, gL_sL_eq, gL_sL_ne, gL_sL_ne2, gR_sL, gI_sR, gL_sR, gR_sR_eq, gR_sR_ne, gR_sR_ne2, gI_aI_eq, gI_aI_ne, gL_aI, gR_aI]
          exact hc'
  · rintro i n s hi ⟨mc, ms, u, rfl, ui, u0, ud⟩ hc
    have hbv := (iv_re ui).1
    have hGi := hGl i
    have hzi := hzl i
    have hz0 := znc_0 (N := znD B) u0
    have hs := zak_S (zFL B S).length G op i
    have hc2 : ∀ (mc ms : Nat) (u : zW), zInv B S N b nn u → gI u 24 0 = Int32.ofNat 0 → zdone B w u → fX11_learn_L12 (fun r1 w1 => fX12_learn w1 (fun r2 w2 => (r1 = r2 → k (znc (znD B) w) (zns (znD B) w) w2) ∧ (¬ r1 = r2 → k0 w2))) n mc ms (Int32.ofNat (zak (zFL B S).length G op (i + 1)).1) (zak (zFL B S).length G op (i + 1)).2 (Int32.ofNat (i + 1)) u := fun mc ms u a b c => hc (mc, ms, _, _, _, u) ⟨mc, ms, u, rfl, a, b, c⟩
    rw [fX11_learn_L12]
    try dsimp only
    rw [(iv_re ui).2.1]
    refine ⟨by omega, ?_⟩
    rw [cb_W (iv_cb ui)]
    refine ⟨fun q => absurd q (zi_nge hi (by omega)), fun _ => ?_⟩
    refine q3_guessOf (by omega) ?_
    rw [(iv_ha ui).2.2 (i) (by omega)]
    refine ⟨fun e => ?_, fun e => ⟨znc (znD B) u, zns (znD B) u, by rw [hz0.1]; exact Nat.zero_le _, by rw [hz0.2]; exact Nat.zero_le _, ?_⟩⟩
    · have ho : ¬ op i = true := by rw [hop]; exact fun z => e (of_decide_eq_true z)
      rw [if_neg (fun z => ho z.1)] at hs
      rw [hs] at hc2
      rw [zl1, zi_add]
      exact hc2 _ _ u ui u0 ud
    · have ho : op i = true := by rw [hop]; exact decide_eq_true e
      refine q_talliedWordI ui hi (fun t big' ti tl tc t0 t1 tp t140 tt => ?_)
      have td := zdone_next ud u0 tp t140
      refine q9_greatest tt (zct_6561 hwf S _) ?_
      rw [zmx_ext (m := 9) (by omega) (fun c q => zct_none (fun d _ z => by have := zdm_lt (bW B) d i; omega))]
      rw [← hG]
      refine ⟨fun q => ?_, fun q => ?_⟩
      · have q' := (zi_le (by omega) (by omega)).mp q
        rw [if_neg (fun z => by omega)] at hs
        rw [hs] at hc2
        rw [zl1, zi_add]
        exact hc2 _ _ t ti t0 td
      · have q' : G i < (zak (zFL B S).length G op i).1 := Nat.lt_of_not_le (fun z => q ((zi_le (by omega) (by omega)).mpr z))
        rw [if_pos ⟨ho, q'⟩] at hs
        refine q9_greatest tt (zct_6561 hwf S _) ?_
        rw [zmx_ext (m := 9) (by omega) (fun c q => zct_none (fun d _ z => by have := zdm_lt (bW B) d i; omega))]
        rw [← hG, zl1, zi_add]
        rw [hs] at hc2
        exact hc2 _ _ t ti t0 td
theorem zi_sub_lt {a b : Nat} (ha : a < 2 ^ 30) (hb : b < 2 ^ 30) : Int32.ofNat a - Int32.ofNat b < 0 ↔ a < b := by
  by_cases q : b ≤ a
  · rw [zi_sub q]
    exact ⟨fun z => absurd z (zi_0le (by omega)), fun z => by omega⟩
  · refine ⟨fun _ => by omega, fun _ => ?_⟩
    have e : Int32.ofNat a - Int32.ofNat b = -Int32.ofNat (b - a) := by
      have e2 : Int32.ofNat b = Int32.ofNat (b - a) + Int32.ofNat a := by rw [zi_add]; exact congrArg _ (by omega)
      rw [e2]
      apply Int32.toInt_inj.mp
      have x1 := Int32.toInt_ofNat_of_lt (n := a) (by omega)
      have x2 := Int32.toInt_ofNat_of_lt (n := b - a) (by omega)
      rw [zi_add, Int32.toInt_sub, Int32.toInt_neg, x2]
      have x3 := Int32.toInt_ofNat_of_lt (n := b - a + a) (by omega)
      rw [x1, x3]
      exact congrArg (fun t => Int.bmod t (2 ^ 32)) (by omega)
    rw [e, Int32.lt_iff_toInt_lt, Int32.toInt_neg, Int32.toInt_ofNat_of_lt (n := b - a) (by omega)]
    rw [Int.bmod_eq_of_le (by omega) (by omega)]
    show -((b - a : Nat) : Int) < (0 : Int32).toInt
    rw [show (0 : Int32).toInt = 0 from rfl]
    omega
theorem c_drops {B : zBk} {S : Nat → Int32} {N : zNt} {b nn : Nat} {w : zW} {k : Nat → Nat → zW → Prop} {k0 : zW → Prop} (h : zInv B S N b nn w) (hk : ∀ c s v, zInv B S N b nn v → zCost c s w v → k c s v) : ∃ c s, c ≤ zNA w ∧ s ≤ zNS w ∧ fX11_drops c s w (fun r1 w1 => fX12_drops w1 (fun r2 w2 => (r1 = r2 → k c s w2) ∧ (¬ r1 = r2 → k0 w2))) := by
  have hwf := iv_wf h
  have h4 := wf_W hwf
  have hle := zAL_le hwf
  have hUA := zUL_le B
  have hfil : (zGL B S).filter (fun d => zdn B (zdm (bW B) d) == 0) = (zUL B).filter (fun d => zGu B S d) := by
    rw [zGL, zUL, List.filter_filter, List.filter_filter]
    exact List.filter_congr (fun d _ => Bool.and_comm _ _)
  refine ⟨_, _, (zn_le h).1, (zn_le h).2, _, _, Nat.le_refl _, Nat.le_refl _, q_laidI h (fun v big vi vl v0 vp v140 => ?_)⟩
  have hln := zBig_ln vl.1
  have hb4 := zBig_4 vl.1
  have lN := vl.2.2.1
  have hb := (iv_re vi).1
  refine zinv (fun n (s : Int32 × Int32) => fX8_fewestMissed_L4 9 _ n s.1 s.2 v) (fun i s => s = (zoi (zfew B S (((zUL B).take i).filter (fun d => zGu B S d))), Int32.ofNat i)) (zUL B).length (s0 := ((-1 : Int32), 0)) ?_ ?_ ?_
  · rw [List.take_zero]; rfl
  · rintro n s rfl
    rw [List.take_length, ← hfil]
    rw [fX8_fewestMissed_L4]
    try dsimp only
    rw [vl.2.2.2.2.1]
    refine ⟨fun _ => ?_, fun q => absurd (Int32.le_refl _) q⟩
    intro w1 e
    subst e
    refine q_gathersI (zInv_t vi 0) (fun u ui ug ufl u32 u00 => ?_)
    rw [ug.2.1]
    exact zc_same (hk _ _ u ui (zCost_done (zdone_fl vp v140 ⟨ufl.1, ufl.2⟩)))
  · rintro i n s hi rfl hc
    have hpl := zpd_lt (bW B) ((zUL B).getD i 0)
    have hof := zof_lt hwf S (zdm (bW B) ((zUL B).getD i 0))
    have eU := vl.2.2.2.2.2.2 i hi
    have hnext : ∀ (x : Int32), x = zoi (zfew B S (((zUL B).take (i + 1)).filter (fun d => zGu B S d))) → fX8_fewestMissed_L4 9 _ n x (Int32.ofNat i + 1) v := fun x e => by
      subst e
      rw [zl1, zi_add]
      exact hc (_, _) rfl
    have htk : ((zUL B).take (i + 1)).filter (fun d => zGu B S d) = ((zUL B).take i).filter (fun d => zGu B S d) ++ (if zGu B S ((zUL B).getD i 0) = true then [(zUL B).getD i 0] else []) := by
      rw [ztk_succ hi, zfilt1]
    rw [fX8_fewestMissed_L4]
    try dsimp only
    rw [vl.2.2.2.2.1, hb4.2.2, hln.2.1]
    refine ⟨fun q => absurd q (zi_nge hi (by omega)), fun _ => ⟨by omega, fun q => absurd q (zi_nge (by omega) (by omega)), fun _ => ⟨zi_in (by omega) (by omega), ?_⟩⟩⟩
    rw [zi_nat (show i < 2 ^ 31 by omega), eU]
    refine q3_guesses (m := zdm (bW B) ((zUL B).getD i 0)) hwf (iv_ha vi).1 (iv_ha vi).2.2 (by omega) (fun o ho => zdg_pd _ _ (by omega)) ?_
    have hq : decide (∀ o, o < bW B → S o = zN1 ∨ S o = Int32.ofNat (zdm (bW B) ((zUL B).getD i 0) o)) = zGu B S ((zUL B).getD i 0) := rfl
    rw [hq]
    by_cases q : zGu B S ((zUL B).getD i 0) = true
    · rw [if_pos q] at htk ⊢
      refine ⟨fun z => absurd z (by decide), fun _ => ⟨by rw [hb4.2.2]; omega, by rw [hb4.2.2]; exact zi_in (by omega) (by omega), by rw [vl.2.1]; omega, ?_⟩⟩
      rw [vl.2.1, hb4.2.2, eU]
      refine q3_missed (m := zdm (bW B) ((zUL B).getD i 0)) hwf (iv_cb vi) (iv_ha vi).2.2 (by omega) (fun o ho => zdg_pd _ _ (by omega)) ?_
      have e : zfew B S (((zUL B).take (i + 1)).filter (fun d => zGu B S d)) = zbest (zfew B S (((zUL B).take i).filter (fun d => zGu B S d))) (zof B S (zdm (bW B) ((zUL B).getD i 0))) := by rw [htk, zfew_app]
      cases hfe : zfew B S (((zUL B).take i).filter (fun d => zGu B S d)) with
      | none =>
        rw [hfe] at e
        refine ⟨fun _ => hnext _ (by rw [e]; rfl), fun z => absurd rfl z⟩
      | some a =>
        rw [hfe] at e
        have ha := zfew_lt hwf S _ a hfe
        have ho1 : zones (zof B S (zdm (bW B) ((zUL B).getD i 0))) ≤ 30 := zcnt_le 30 _
        have ho2 : zones a ≤ 30 := zcnt_le 30 _
        refine ⟨fun z => absurd z (zN1_ne (show a < 2 ^ 31 by omega)), fun _ => ?_⟩
        refine q_bitCount hof (q_bitCount (v := a) ha ?_)
        intro v3 e3 v4 e4
        have hsub : (v3 < 0 ↔ zones (zof B S (zdm (bW B) ((zUL B).getD i 0))) < zones a) ∧ (v3 = 0 ↔ zones (zof B S (zdm (bW B) ((zUL B).getD i 0))) = zones a) := by
          rw [e3]
          refine ⟨zi_sub_lt (by omega) (by omega), zi_sub0 (by omega) (by omega)⟩
        have e4' : v4 = if zless (zof B S (zdm (bW B) ((zUL B).getD i 0))) a = true then 1 else 0 := by
          rw [e4, zless]
          by_cases y1 : zones (zof B S (zdm (bW B) ((zUL B).getD i 0))) < zones a
          · rw [if_pos (hsub.1.mpr y1), decide_eq_true y1, Bool.true_or, if_pos rfl]
          · rw [if_neg (fun z => y1 (hsub.1.mp z)), decide_eq_false y1, Bool.false_or]
            by_cases y2 : zones (zof B S (zdm (bW B) ((zUL B).getD i 0))) = zones a
            · rw [if_neg (show ¬ ¬ v3 = 0 from fun z => z (hsub.2.mpr y2)), y2, beq_self_eq_true, Bool.true_and]
              by_cases y3 : zof B S (zdm (bW B) ((zUL B).getD i 0)) < a
              · rw [decide_eq_true y3]
                exact (if_neg (fun z => by have := (zi_le (a := a) (b := zof B S (zdm (bW B) ((zUL B).getD i 0))) (by omega) (by omega)).mp z; omega)).trans (if_pos rfl).symm
              · rw [decide_eq_false y3]
                exact (if_pos ((zi_le (a := a) (b := zof B S (zdm (bW B) ((zUL B).getD i 0))) (by omega) (by omega)).mpr (by omega))).trans (if_neg (by decide)).symm
            · rw [if_pos (show ¬ v3 = 0 from fun z => y2 (hsub.2.mp z)), beq_false_of_ne y2, Bool.false_and, if_neg (by decide)]
        have e' : zfew B S (((zUL B).take (i + 1)).filter (fun d => zGu B S d)) = if zless (zof B S (zdm (bW B) ((zUL B).getD i 0))) a = true then some (zof B S (zdm (bW B) ((zUL B).getD i 0))) else some a := e
        by_cases y : zless (zof B S (zdm (bW B) ((zUL B).getD i 0))) a = true
        · rw [if_pos y] at e4' e'
          subst e4'
          refine ⟨Or.inr rfl, ?_⟩
          intro v13 e13
          exact hnext _ (by rw [e', e13]; exact if_neg (by decide))
        · rw [if_neg y] at e4' e'
          subst e4'
          refine ⟨Or.inl rfl, ?_⟩
          intro v13 e13
          exact hnext _ (by rw [e', e13]; exact if_pos rfl)
    · rw [if_neg q] at htk ⊢
      rw [List.append_nil] at htk
      exact ⟨fun _ => hnext _ (by rw [htk]), fun z => absurd rfl z⟩

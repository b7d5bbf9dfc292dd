/-! Level 2: entry, fixed, open, ask, learn, chance -/
theorem znc_0 {N : Nat} {w : zW} (h : gI w 24 0 = Int32.ofNat 0) : znc N w = 0 ∧ zns N w = 0 := ⟨if_pos h, if_pos h⟩
theorem zdone_next {B : zBk} {w u v : zW} (h : zdone B w u) (h0 : gI u 24 0 = Int32.ofNat 0) (hp : zpaid (znD B) u v) (h1 : gI v 0 140 = gI u 0 140) : zdone B w v := by
  obtain ⟨⟨a1, a2⟩, a3⟩ := h
  obtain ⟨b1, b2⟩ := hp
  rw [(znc_0 h0).1] at b1
  rw [(znc_0 h0).2] at b2
  exact ⟨⟨by omega, by omega⟩, h1.trans a3⟩
theorem zsr_or (T : Nat → Nat) (L : Nat) : ∀ m, zsr T L m = zN1 ∨ ∃ n, n < m ∧ zsr T L m = Int32.ofNat n := by
  intro m
  induction m with
  | zero => exact Or.inl rfl
  | succ m ih =>
    rw [zsr_S]
    by_cases q : 0 < L ∧ T m = L
    · rw [if_pos q]; exact Or.inr ⟨m, by omega, rfl⟩
    · rw [if_neg q]
      rcases ih with e | ⟨n, e1, e2⟩
      · exact Or.inl e
      · exact Or.inr ⟨n, by omega, e2⟩
theorem c_entry {B : zBk} {S : Nat → Int32} {N : zNt} {b nn : Nat} {x y : Int32} {w : zW} {k : Nat → Nat → zW → Prop} {k0 : zW → Prop} (h : zInv B S N b nn w) (hk : ∀ c s v, zInv B S N b nn v → zCost c s w v → k c s v) : ∃ c s, c ≤ zNA w ∧ s ≤ zNS w ∧ fX11_entry c s x y w (fun r1 w1 => fX12_entry x y w1 (fun r2 w2 => (r1 = r2 → k c s w2) ∧ (¬ r1 = r2 → k0 w2))) := by
  have hwf := iv_wf h
  have h4 := wf_W hwf
  have hL := zFL_6561 hwf S
  have hb0 : ¬ b = 0 := by have := (iv_re h).1; omega
  refine ⟨_, _, (zn_le h).1, (zn_le h).2, _, _, Nat.le_refl _, Nat.le_refl _, q_readyI h (fun v big vi vl vc v0 v1 vp v140 => ?_)⟩
  have hln := zBig_ln vl.1
  have hb4 := zBig_4 vl.1
  have hFU := zFL_le B S
  have hUA := zUL_le B
  have lN := vl.2.2.1
  -- the reference's side
  have href : ∀ K : Int32 → zW → Prop, (∀ u : zW, zInv B S N b nn u → zGa B S (zGL B S) u → gI u 200 32 = x → zfl v u → fX12_isTerm y u (fun r4 w4 => ((r4 = 0 → K (-1 : Int32) w4) ∧ (¬ r4 = 0 → fX12_within x (0 : Int32) ((gI w4 200 31) - (1 : Int32)) w4 (fun r6 w6 => ((r6 = 0 → K (-1 : Int32) w6) ∧ (¬ r6 = 0 → vp_in y 4 ∧ K (gI w6 236 y.toNatClampNeg) w6))))))) → fX12_entry x y v K := by
    intro K hK w1 e1 w2 e2
    subst e1
    subst e2
    have vi2 : zInv B S N b nn (sI (sI v 200 0 0) 200 32 x) := zInv_of vi (fun a c q => by
      rw [gI_sI, if_neg (fun z => by unfold zkeep at q; omega), gI_sI, if_neg (fun z => by unfold zkeep at q; omega)]) rfl
    refine q_gathersI vi2 (fun u ui ug ufl u32 u00 => ?_)
    exact hK u ui ug (by rw [u32, gI_sI_eq]) ⟨ufl.1, ufl.2⟩
  rcases zw_cases hwf hb0 y with ⟨o, ho, rfl⟩ | ⟨hn1, hn2⟩
  · refine q11_isWordY vi ho ⟨fun q => absurd q (by decide), fun _ => ?_⟩
    rw [vc.1, hb4.2.1, hln.1]
    by_cases hx : ∃ j, x = Int32.ofNat j ∧ j < (zFL B S).length
    · obtain ⟨j, rfl, hj⟩ := hx
      refine ⟨fun q => absurd q (zi_0le (by omega)), fun _ => ⟨fun q => absurd q (zi_nge hj (by omega)), fun _ => ⟨by omega, fun _ => ⟨zi_in (by omega) (by omega), ?_⟩, fun q => absurd ((zi_lt (by omega) (by omega)).mpr (by omega)) q⟩⟩⟩
      have hpl := zpd_lt (bW B) ((zFL B S).getD j 0)
      rw [zi_nat (show j < 2 ^ 31 by omega), vc.2 j hj, fX8_meaningIn, zl4, zi_mul, zi_shr (by omega) (by omega), zi_and15]
      rw [show zpd (bW B) ((zFL B S).getD j 0) / 2 ^ (4 * o) % 16 = zdm (bW B) ((zFL B S).getD j 0) o from zdg_pd _ _ (by omega)]
      refine href _ (fun u ui ug u32 ufl => ?_)
      refine q12_isTermY ui ho ⟨fun q => absurd q (by decide), fun _ => ?_⟩
      have e31 : gI u 200 31 = Int32.ofNat (zFL B S).length := by rw [ug.1, zGL_FL]
      have e36 : gI u 236 o = Int32.ofNat (zdm (bW B) ((zFL B S).getD j 0) o) := by
        have := ug.2.2.2.2.2.2.2 j u32 (by rw [zGL_FL]; exact hj) o ho
        rw [zGL_FL] at this
        exact this
      rw [e31, zl1, zi_sub (by omega)]
      refine q12_within (lo := 0) (by omega) (by decide) (by omega) ?_
      rw [if_pos (by omega)]
      refine ⟨fun q => absurd q (by decide), fun _ => ⟨zi_in (by omega) (by omega), ?_⟩⟩
      rw [zi_nat (show o < 2 ^ 31 by omega), e36]
      exact zc_same (hk _ _ u ui (zCost_done (zdone_fl vp v140 ufl)))
    · have hout : fX12_entry x (Int32.ofNat o) v (fun r2 w2 => ((-1 : Int32) = r2 → k (znc (znD B) w) (zns (znD B) w) w2) ∧ (¬ (-1 : Int32) = r2 → k0 w2)) := by
        refine href _ (fun u ui ug u32 ufl => ?_)
        refine q12_isTermY ui ho ⟨fun q => absurd q (by decide), fun _ => ?_⟩
        have hkv := hk _ _ u ui (zCost_done (zdone_fl vp v140 ufl))
        have e31 : gI u 200 31 = Int32.ofNat (zFL B S).length := by rw [ug.1, zGL_FL]
        rw [e31]
        rcases zi_cases x with q | ⟨j, hj, rfl⟩
        · exact q12_withinN (lo := 0) q (by decide) ⟨fun _ => zc_same hkv, fun q => absurd rfl q⟩
        · have hjL : ¬ j < (zFL B S).length := fun q => hx ⟨j, rfl, q⟩
          by_cases hL0 : (zFL B S).length = 0
          · rw [hL0, fX12_within]
            intro v1 e1
            have e : v1 = 0 := e1.trans ((if_neg (zi_0le hj)).trans (if_pos (zi_neg_lt (x := Int32.ofNat 0 - 1) (by decide) hj)))
            subst e
            exact ⟨Or.inl rfl, ⟨fun _ => zc_same hkv, fun q => absurd rfl q⟩⟩
          · rw [zl1, zi_sub (by omega)]
            refine q12_within (lo := 0) hj (by decide) (by omega) ?_
            rw [if_neg (by omega)]
            exact ⟨fun _ => zc_same hkv, fun q => absurd rfl q⟩
      rcases zi_cases x with q | ⟨j, hj, rfl⟩
      · exact ⟨fun _ => hout, fun z => absurd q z⟩
      · have hjL : ¬ j < (zFL B S).length := fun q => hx ⟨j, rfl, q⟩
        exact ⟨fun q => absurd q (zi_0le hj), fun _ => ⟨fun _ => hout, fun q => absurd ((zi_le (by omega) hj).mpr (by omega)) q⟩⟩
  · refine hn1 v _ (iv_re vi).2.1 (cb_W (iv_cb vi)) ⟨fun _ => ?_, fun q => absurd rfl q⟩
    refine href _ (fun u ui ug u32 ufl => ?_)
    exact hn2 u _ (rb_W (iv_rb ui)) ⟨fun _ => zc_same (hk _ _ u ui (zCost_done (zdone_fl vp v140 ufl))), fun q => absurd rfl q⟩
/-- a word is sure -/
def zisS (B : zBk) (S : Nat → Int32) (o : Nat) : Bool := decide (¬ zsr (zct (fun d => zdm (bW B) d o) (zFL B S)) (zFL B S).length 9 = zN1)
theorem c_fixed {B : zBk} {S : Nat → Int32} {N : zNt} {b nn : Nat} {w : zW} {k : Nat → Nat → zW → Prop} {k0 : zW → Prop} (h : zInv B S N b nn w) (hk : ∀ c s v, zInv B S N b nn v → zCost c s w v → k c s v) : ∃ c s, c ≤ zNA w ∧ s ≤ zNS w ∧ fX11_fixed c s w (fun r1 w1 => fX12_fixed w1 (fun r2 w2 => (r1 = r2 → k c s w2) ∧ (¬ r1 = r2 → k0 w2))) := by
  have hwf := iv_wf h
  have h4 := wf_W hwf
  have hb := (iv_re h).1
  have hle := zn_le h
  generalize hC : (if bW B = 0 then 0 else znc (znD B) w) = C
  generalize hD : (if bW B = 0 then 0 else zns (znD B) w) = D
  refine ⟨C, D, by rw [← hC]; split <;> omega, by rw [← hD]; split <;> omega, ?_⟩
  refine zinv (fun n (s : Nat × Nat × Int32 × Int32 × zW) => fX11_fixed_L4 _ n s.1 s.2.1 s.2.2.1 s.2.2.2.1 s.2.2.2.2) (fun i s => ∃ (mc ms : Nat) (v : zW), s = (mc, ms, Int32.ofNat (zbits i (zisS B S)), Int32.ofNat i, v) ∧ zInv B S N b nn v ∧ (i < bW B → znc (znD B) v ≤ mc ∧ zns (znD B) v ≤ ms) ∧ (i = 0 → v = w) ∧ (0 < i → gI v 24 0 = Int32.ofNat 0 ∧ zdone B w v)) (bW B) (s0 := (C, D, 0, 0, w)) ⟨C, D, w, rfl, h, fun q => by rw [← hC, ← hD, if_neg (by omega), if_neg (by omega)]; exact ⟨Nat.le_refl _, Nat.le_refl _⟩, fun _ => rfl, fun q => absurd q (Nat.lt_irrefl 0)⟩ ?_ ?_
  · rintro n s ⟨mc, ms, v, rfl, vi, vc, vw, vd⟩
    have hcost : ∀ u, zfl v u → zCost C D w u := by
      intro u uf
      by_cases q : bW B = 0
      · rw [← hC, ← hD, if_pos q, if_pos q]
        rw [vw q] at uf
        exact zCost_fl uf
      · rw [← hC, ← hD, if_neg q, if_neg q]
        obtain ⟨d1, d2⟩ := vd (by omega)
        exact zCost_done (zdone_fl d2.1 d2.2 uf)
    rw [fX11_fixed_L4]
    try dsimp only
    rw [(iv_re vi).2.1]
    refine ⟨by omega, ?_⟩
    rw [cb_W (iv_cb vi)]
    refine ⟨fun _ => ?_, fun q => absurd (Int32.le_refl _) q⟩
    intro w1 e
    subst e
    refine q_refWord vi (fun u ui u34 u35 u31 ufl => ?_)
    have hkv := hk _ _ u ui (hcost u ufl)
    have hW : gI u 210 0 = Int32.ofNat (bW B) := rb_W (iv_rb ui)
    refine zrun (fun n (s : Int32 × Int32) => fX12_fixed_L13 _ n s.1 s.2 u) (fun i => (Int32.ofNat (zbits i (zisS B S)), Int32.ofNat i)) (bW B) (fun n => ?_) (fun i n hi hc => ?_)
    · simp (disch := omega) only [fX12_fixed_L13, fX12_wordsTold, hW, ↓zln1, ↓zln2, zl0, zl1, zl2, zl3, zl4, zl5, zl6, zl7, zl8, zl9, zl10, zl12, zl15, zl16, zl20, zl24, zl30, zl32, zl36, zl40, zl48, zl57, zl59, zl60, zl61, zl97, zl99, zl120, zl121, zl122, zl126, zl165, zl255, zl480, zl968, zl1000, zl1100, zi_add, zi_mul, zi_sub, zi_div, zi_mod, zi_nat, zt_le, zf_le, zt_lt, zf_lt, zt_eq, zf_eq, zt_vp, zt_N1lt, zf_N1lt, zf_N1eq, zf_eqN1, zt_N1eq, zt_N1le, zf_leN1, zi_nN1, zi_a1, zi_a15, zi_a255, zi_shr, zi_bit, zt_b0, zt_b1, forall_eq, if_true, if_false, true_implies, false_implies, not_true_eq_false, not_false_eq_true, and_true, true_and, gI_sI_eq, gI_sI_ne, gI_sI_ne2, gL_sI, gR_sI, gI_sL, gL_sL_eq, gL_sL_ne, gL_sL_ne2, gR_sL, gI_sR, gL_sR, gR_sR_eq, gR_sR_ne, gR_sR_ne2, gI_aI_eq, gI_aI_ne, gL_aI, gR_aI]
      first | exact hkv | exact zc_same hkv
    · rw [fX12_fixed_L13]
      try dsimp only
      rw [fX12_wordsTold, show (0 : Int32).toNatClampNeg = 0 from rfl, hW]
      refine ⟨fun q => absurd q (zi_nge hi (by omega)), fun _ => ?_⟩
      refine q12_sureOf (fun n hn => u34 i n hi hn) u31 (zFL_6561 hwf S) (by omega) (zct_6561 hwf S _) ?_
      intro v6 e6
      intro v7 e7
      rw [zl1, zi_add]
      rcases zsr_or (zct (fun d => zdm (bW B) d i) (zFL B S)) (zFL B S).length 9 with e | ⟨m, m1, e⟩
      · rw [e] at e6
        have e8 : v6 = Int32.ofNat 0 := e6.trans (if_pos zN1_lt)
        have e9 : v7 = Int32.ofNat (zbits (i + 1) (zisS B S)) := by
          rw [e7, e8]
          exact zbits_f (decide_eq_false (fun z => z e))
        rw [e9]
        exact hc
      · rw [e] at e6
        have e8 : v6 = (1 : Int32) <<< (Int32.ofNat i &&& 31) := e6.trans (if_neg (zi_0le (by omega)))
        have e9 : v7 = Int32.ofNat (zbits (i + 1) (zisS B S)) := by
          rw [e7, e8, zi_shl1 (by omega)]
          exact zbits_t (by omega) (decide_eq_true (by rw [e]; exact zN1_ne (by omega)))
        rw [e9]
        exact hc
  · rintro i n s hi ⟨mc, ms, v, rfl, vi, vc, vw, vd⟩ hc
    have hbv := (iv_re vi).1
    obtain ⟨vc1, vc2⟩ := vc hi
    rw [fX11_fixed_L4]
    try dsimp only
    rw [(iv_re vi).2.1]
    refine ⟨by omega, ?_⟩
    rw [cb_W (iv_cb vi)]
    refine ⟨fun q => absurd q (zi_nge hi (by omega)), fun _ => ⟨_, _, vc1, vc2, ?_⟩⟩
    refine q_talliedWordI vi hi (fun u big ui ul uc u0 u1 up u140 ut => ?_)
    refine q9_only ut (zct_6561 hwf S _) ?_
    rw [zonly (fun d _ => zdm_lt (bW B) d i)]
    have hdone : zdone B w u := by
      by_cases q : i = 0
      · have e := vw q
        rw [e] at up u140
        exact ⟨up, u140⟩
      · obtain ⟨d1, d2⟩ := vd (by omega)
        exact zdone_next d2 d1 up u140
    have hz := znc_0 (N := znD B) u0
    have hnext : ∀ x1 : Int32, x1 = Int32.ofNat (zbits (i + 1) (zisS B S)) → fX11_fixed_L4 _ n (mc - znc (znD B) v) (ms - zns (znD B) v) x1 (Int32.ofNat i + 1) u := fun x1 e => by
      rw [e, zl1, zi_add]
      exact hc (_, _, _, _, u) ⟨_, _, u, rfl, ui, fun _ => by rw [hz.1, hz.2]; exact ⟨Nat.zero_le _, Nat.zero_le _⟩, fun q => by omega, fun _ => ⟨u0, hdone⟩⟩
    refine ⟨fun e => hnext _ (congrArg _ (zbits_s0 (decide_eq_false (fun z => z e))).symm), fun e => ?_⟩
    intro v6 e6
    refine hnext _ ?_
    rw [e6, zi_shl1 (by omega)]
    exact zbits_t (by omega) (decide_eq_true e)
/-- a row behind which there could be more than one number -/
def zisO (B : zBk) (S : Nat → Int32) (r : Nat) : Bool := decide (1 < zcnt 121 (znz (zct (fun d => zLv B r (zdm (bW B) d)) (zFL B S))))
theorem c_open {B : zBk} {S : Nat → Int32} {N : zNt} {b nn : Nat} {w : zW} {k : Nat → Nat → zW → Prop} {k0 : zW → Prop} (h : zInv B S N b nn w) (hk : ∀ c s v, zInv B S N b nn v → zCost c s w v → k c s v) : ∃ c s, c ≤ zNA w ∧ s ≤ zNS w ∧ fX11_open c s w (fun r1 w1 => fX12_open w1 (fun r2 w2 => (r1 = r2 → k c s w2) ∧ (¬ r1 = r2 → k0 w2))) := by
  have hwf := iv_wf h
  have h8 := wf_R hwf
  have hb := (iv_re h).1
  have hle := zn_le h
  generalize hC : (if bR B = 0 then 0 else znc (znD B) w) = C
  generalize hD : (if bR B = 0 then 0 else zns (znD B) w) = D
  refine ⟨C, D, by rw [← hC]; split <;> omega, by rw [← hD]; split <;> omega, ?_⟩
  refine zinv (fun n (s : Nat × Nat × Int32 × Int32 × zW) => fX11_open_L4 _ n s.1 s.2.1 s.2.2.1 s.2.2.2.1 s.2.2.2.2) (fun i s => ∃ (mc ms : Nat) (v : zW), s = (mc, ms, Int32.ofNat (zbits i (zisO B S)), Int32.ofNat i, v) ∧ zInv B S N b nn v ∧ (i < bR B → znc (znD B) v ≤ mc ∧ zns (znD B) v ≤ ms) ∧ (i = 0 → v = w) ∧ (0 < i → gI v 24 0 = Int32.ofNat 0 ∧ zdone B w v)) (bR B) (s0 := (C, D, 0, 0, w)) ⟨C, D, w, rfl, h, fun q => by rw [← hC, ← hD, if_neg (by omega), if_neg (by omega)]; exact ⟨Nat.le_refl _, Nat.le_refl _⟩, fun _ => rfl, fun q => absurd q (Nat.lt_irrefl 0)⟩ ?_ ?_
  · rintro n s ⟨mc, ms, v, rfl, vi, vc, vw, vd⟩
    have hcost : ∀ u, zfl v u → zCost C D w u := by
      intro u uf
      by_cases q : bR B = 0
      · rw [← hC, ← hD, if_pos q, if_pos q]
        rw [vw q] at uf
        exact zCost_fl uf
      · rw [← hC, ← hD, if_neg q, if_neg q]
        obtain ⟨d1, d2⟩ := vd (by omega)
        exact zCost_done (zdone_fl d2.1 d2.2 uf)
    rw [fX11_open_L4]
    try dsimp only
    rw [(iv_re vi).2.1]
    refine ⟨by omega, ?_⟩
    rw [cb_R (iv_cb vi)]
    refine ⟨fun _ => ?_, fun q => absurd (Int32.le_refl _) q⟩
    intro w1 e
    subst e
    refine q_refWord vi (fun u ui u34 u35 u31 ufl => ?_)
    have hkv := hk _ _ u ui (hcost u ufl)
    have hR : gI u 210 2 = Int32.ofNat (bR B) := rb_R (iv_rb ui)
    refine zrun (fun n (s : Int32 × Int32) => fX12_open_L13 _ n s.1 s.2 u) (fun i => (Int32.ofNat (zbits i (zisO B S)), Int32.ofNat i)) (bR B) (fun n => ?_) (fun i n hi hc => ?_)
    · simp (disch := omega) only [fX12_open_L13, fX12_rows, hR, ↓zln1, ↓zln2, zl0, zl1, zl2, zl3, zl4, zl5, zl6, zl7, zl8, zl9, zl10, zl12, zl15, zl16, zl20, zl24, zl30, zl32, zl36, zl40, zl48, zl57, zl59, zl60, zl61, zl97, zl99, zl120, zl121, zl122, zl126, zl165, zl255, zl480, zl968, zl1000, zl1100, zi_add, zi_mul, zi_sub, zi_div, zi_mod, zi_nat, zt_le, zf_le, zt_lt, zf_lt, zt_eq, zf_eq, zt_vp, zt_N1lt, zf_N1lt, zf_N1eq, zf_eqN1, zt_N1eq, zt_N1le, zf_leN1, zi_nN1, zi_a1, zi_a15, zi_a255, zi_shr, zi_bit, zt_b0, zt_b1, forall_eq, if_true, if_false, true_implies, false_implies, not_true_eq_false, not_false_eq_true, and_true, true_and, gI_sI_eq, gI_sI_ne, gI_sI_ne2, gL_sI, gR_sI, gI_sL, gL_sL_eq, gL_sL_ne, gL_sL_ne2, gR_sL, gI_sR, gL_sR, gR_sR_eq, gR_sR_ne, gR_sR_ne2, gI_aI_eq, gI_aI_ne, gL_aI, gR_aI]
      first | exact hkv | exact zc_same hkv
    · rw [fX12_open_L13]
      try dsimp only
      rw [fX12_rows, show (2 : Int32).toNatClampNeg = 2 from rfl, hR]
      refine ⟨fun q => absurd q (zi_nge hi (by omega)), fun _ => ?_⟩
      refine q12_kindsOf (fun n hn => u35 i n hi hn) (by omega) (zct_6561 hwf S _) ?_
      have hcl := zcnt_le 121 (znz (zct (fun d => zLv B i (zdm (bW B) d)) (zFL B S)))
      intro v6 e6
      intro v7 e7
      rw [zl1, zi_add]
      by_cases q : 1 < zcnt 121 (znz (zct (fun d => zLv B i (zdm (bW B) d)) (zFL B S)))
      · have e8 : v6 = (1 : Int32) <<< (Int32.ofNat i &&& 31) := e6.trans (if_neg (fun z => by have := (zi_le (b := 1) (by omega) (by decide)).mp z; omega))
        have e9 : v7 = Int32.ofNat (zbits (i + 1) (zisO B S)) := by
          rw [e7, e8, zi_shl1 (by omega)]
          exact zbits_t (by omega) (decide_eq_true q)
        rw [e9]
        exact hc
      · have e8 : v6 = Int32.ofNat 0 := e6.trans (if_pos ((zi_le (b := 1) (by omega) (by decide)).mpr (by omega)))
        have e9 : v7 = Int32.ofNat (zbits (i + 1) (zisO B S)) := by
          rw [e7, e8]
          exact zbits_f (decide_eq_false q)
        rw [e9]
        exact hc
  · rintro i n s hi ⟨mc, ms, v, rfl, vi, vc, vw, vd⟩ hc
    have hbv := (iv_re vi).1
    obtain ⟨vc1, vc2⟩ := vc hi
    rw [fX11_open_L4]
    try dsimp only
    rw [(iv_re vi).2.1]
    refine ⟨by omega, ?_⟩
    rw [cb_R (iv_cb vi)]
    refine ⟨fun q => absurd q (zi_nge hi (by omega)), fun _ => ⟨_, _, vc1, vc2, ?_⟩⟩
    refine q_talliedRowI vi hi (fun u big ui ul uc u0 u1 up u140 ut => ?_)
    refine q9_differing ut (zct_6561 hwf S _) ?_
    have hcl := zcnt_le 121 (znz (zct (fun d => zLv B i (zdm (bW B) d)) (zFL B S)))
    have hdone : zdone B w u := by
      by_cases q : i = 0
      · have e := vw q
        rw [e] at up u140
        exact ⟨up, u140⟩
      · obtain ⟨d1, d2⟩ := vd (by omega)
        exact zdone_next d2 d1 up u140
    have hz := znc_0 (N := znD B) u0
    have hnext : ∀ x1 : Int32, x1 = Int32.ofNat (zbits (i + 1) (zisO B S)) → fX11_open_L4 _ n (mc - znc (znD B) v) (ms - zns (znD B) v) x1 (Int32.ofNat i + 1) u := fun x1 e => by
      rw [e, zl1, zi_add]
      exact hc (_, _, _, _, u) ⟨_, _, u, rfl, ui, fun _ => by rw [hz.1, hz.2]; exact ⟨Nat.zero_le _, Nat.zero_le _⟩, fun q => by omega, fun _ => ⟨u0, hdone⟩⟩
    refine ⟨fun e => hnext _ (congrArg _ (zbits_s0 (decide_eq_false (fun z => by have := (zi_le (b := 1) (by omega) (by decide)).mp e; omega))).symm), fun e => ?_⟩
    intro v6 e6
    refine hnext _ ?_
    rw [e6, zi_shl1 (by omega)]
    exact zbits_t (by omega) (decide_eq_true (Nat.lt_of_not_le (fun z => e ((zi_le (b := 1) (by omega) (by decide)).mpr z))))

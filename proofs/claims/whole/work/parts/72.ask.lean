/-! Level 2: fits, entry, could, sure, fixed, with, least, most, kinds, open, has -/
def zbm (w : zW) : Nat := if gI w 0 140 = 1 then 0 else 3
def zbs (w : zW) : Nat := if gI w 0 140 = 1 then 0 else 7202
/-- all the room that may still be wanted, but for what is thrown -/
def zNA (w : zW) : Nat := zrm w + zbm w
def zNS (w : zW) : Nat := zrs w + zbs w
def zCost (c s : Nat) (w v : zW) : Prop := zNA v + c = zNA w ∧ zNS v + s = zNS w
theorem zCost_fl {w v : zW} (h : zfl w v) : zCost 0 0 w v := by
  unfold zCost zNA zNS zrm zbm zrs zbs
  rw [h.1, h.2]
  exact ⟨rfl, rfl⟩
theorem zCost_done {B : zBk} {w v : zW} (h : zdone B w v) : zCost (znc (znD B) w) (zns (znD B) w) w v := by
  have h1 := h.1.1
  have h2 := h.1.2
  unfold zCost zNA zNS zbm zbs
  rw [h.2]
  omega
theorem zCost_trans {c s c2 s2 : Nat} {u v w : zW} (h : zCost c s u v) (h2 : zCost c2 s2 v w) : zCost (c + c2) (s + s2) u w := by
  unfold zCost at *
  omega
theorem zn_le {B : zBk} {S : Nat → Int32} {N : zNt} {b nn : Nat} {w : zW} (h : zInv B S N b nn w) : znc (znD B) w ≤ zNA w ∧ zns (znD B) w ≤ zNS w := by
  have hle := zAL_le (iv_wf h)
  obtain ⟨big, bs, hs, z1, z2, z3, z4, z5, z6, z7⟩ := iv_sh h
  unfold znc zns zmc zms zNA zNS zrm zrs
  by_cases q : gI w 24 0 = 0
  · rw [if_pos q, if_pos q]; omega
  · rw [if_neg q, if_neg q]
    have hl : zln (gR w 24 4) ≤ 6561 := by rw [(zBig_4 z5).1]; exact (zBig_ln z5).2.2.1
    by_cases y : znD B ≤ zln (gR w 24 4)
    · rw [if_pos y, if_pos y]; omega
    · rw [if_neg y, if_neg y]
      have := zsz_in (N := znD B) hl
      omega
/-- a word, or none -/
theorem zw_cases {B : zBk} {b : Nat} (hwf : zWF B) (hb0 : ¬ b = 0) (x : Int32) : (∃ o, o < bW B ∧ x = Int32.ofNat o) ∨ ((∀ (w : zW) (k : Int32 → zW → Prop), gR w 1 9 = b → gI w b 0 = Int32.ofNat (bW B) → k (Int32.ofNat 0) w → fX11_isWord x w k) ∧ (∀ (w : zW) (k : Int32 → zW → Prop), gI w 210 0 = Int32.ofNat (bW B) → k (Int32.ofNat 0) w → fX12_isTerm x w k)) := by
  rcases zi_cases x with hx | ⟨a, ha, rfl⟩
  · exact Or.inr ⟨fun w k _ _ hk => q11_isWordN hx hk, fun w k _ hk => q12_isTermN hx hk⟩
  · by_cases q : a < bW B
    · exact Or.inl ⟨a, q, rfl⟩
    · refine Or.inr ⟨fun w k h1 h2 hk => q11_isWord hwf h1 hb0 h2 ha (by rw [if_neg q]; exact hk), fun w k h1 hk => q12_isTerm hwf h1 ha (by rw [if_neg q]; exact hk)⟩
theorem zr_cases {B : zBk} {b : Nat} (hwf : zWF B) (hb0 : ¬ b = 0) (x : Int32) : (∃ r, r < bR B ∧ x = Int32.ofNat r) ∨ ((∀ (w : zW) (k : Int32 → zW → Prop), gR w 1 9 = b → gI w b 7 = Int32.ofNat (bR B) → k (Int32.ofNat 0) w → fX11_isRow x w k) ∧ (∀ (w : zW) (k : Int32 → zW → Prop), gI w 210 2 = Int32.ofNat (bR B) → k (Int32.ofNat 0) w → fX12_isRow x w k)) := by
  rcases zi_cases x with hx | ⟨a, ha, rfl⟩
  · exact Or.inr ⟨fun w k _ _ hk => q11_isRowN hx hk, fun w k _ hk => q12_isRowN hx hk⟩
  · by_cases q : a < bR B
    · exact Or.inl ⟨a, q, rfl⟩
    · refine Or.inr ⟨fun w k h1 h2 hk => q11_isRow hwf h1 hb0 h2 ha (by rw [if_neg q]; exact hk), fun w k h1 hk => q12_isRow hwf h1 ha (by rw [if_neg q]; exact hk)⟩
/-- a told word or row passes on both sides -/
theorem q11_isWordY {B : zBk} {S : Nat → Int32} {N : zNt} {b nn o : Nat} {w : zW} {k : Int32 → zW → Prop} (h : zInv B S N b nn w) (ho : o < bW B) (hk : k (Int32.ofNat 1) w) : fX11_isWord (Int32.ofNat o) w k := by
  have h4 := wf_W (iv_wf h)
  have hb := (iv_re h).1
  refine q11_isWord (iv_wf h) (iv_re h).2.1 (by omega) (cb_W (iv_cb h)) (by omega) ?_
  rw [if_pos ho]
  exact hk
theorem q11_isRowY {B : zBk} {S : Nat → Int32} {N : zNt} {b nn o : Nat} {w : zW} {k : Int32 → zW → Prop} (h : zInv B S N b nn w) (ho : o < bR B) (hk : k (Int32.ofNat 1) w) : fX11_isRow (Int32.ofNat o) w k := by
  have h4 := wf_R (iv_wf h)
  have hb := (iv_re h).1
  refine q11_isRow (iv_wf h) (iv_re h).2.1 (by omega) (cb_R (iv_cb h)) (by omega) ?_
  rw [if_pos ho]
  exact hk
theorem q12_isTermY {B : zBk} {S : Nat → Int32} {N : zNt} {b nn o : Nat} {w : zW} {k : Int32 → zW → Prop} (h : zInv B S N b nn w) (ho : o < bW B) (hk : k (Int32.ofNat 1) w) : fX12_isTerm (Int32.ofNat o) w k := by
  have h4 := wf_W (iv_wf h)
  refine q12_isTerm (iv_wf h) (rb_W (iv_rb h)) (by omega) ?_
  rw [if_pos ho]
  exact hk
theorem q12_isRowY {B : zBk} {S : Nat → Int32} {N : zNt} {b nn o : Nat} {w : zW} {k : Int32 → zW → Prop} (h : zInv B S N b nn w) (ho : o < bR B) (hk : k (Int32.ofNat 1) w) : fX12_isRow (Int32.ofNat o) w k := by
  have h4 := wf_R (iv_wf h)
  refine q12_isRow (iv_wf h) (rb_R (iv_rb h)) (by omega) ?_
  rw [if_pos ho]
  exact hk
theorem c_fits {B : zBk} {S : Nat → Int32} {N : zNt} {b nn : Nat} {w : zW} {k : Nat → Nat → zW → Prop} {k0 : zW → Prop} (h : zInv B S N b nn w) (hk : ∀ c s v, zInv B S N b nn v → zCost c s w v → k c s v) : ∃ c s, c ≤ zNA w ∧ s ≤ zNS w ∧ fX11_fits c s w (fun r1 w1 => fX12_fits w1 (fun r2 w2 => (r1 = r2 → k c s w2) ∧ (¬ r1 = r2 → k0 w2))) := by
  refine ⟨_, _, (zn_le h).1, (zn_le h).2, _, _, Nat.le_refl _, Nat.le_refl _, q_readyI h (fun v big vi vl vc v0 v1 vp v140 => ?_)⟩
  rw [vc.1]
  intro w1 e
  subst e
  refine q_refWord vi (fun u ui u34 u35 u31 ufl => ?_)
  rw [u31]
  exact zc_same (hk _ _ u ui (zCost_done (zdone_fl vp v140 ufl)))
theorem c_could {B : zBk} {S : Nat → Int32} {N : zNt} {b nn : Nat} {x : Int32} {w : zW} {k : Nat → Nat → zW → Prop} {k0 : zW → Prop} (h : zInv B S N b nn w) (hk : ∀ c s v, zInv B S N b nn v → zCost c s w v → k c s v) : ∃ c s, c ≤ zNA w ∧ s ≤ zNS w ∧ fX11_could c s x w (fun r1 w1 => fX12_could x w1 (fun r2 w2 => (r1 = r2 → k c s w2) ∧ (¬ r1 = r2 → k0 w2))) := by
  have hwf := iv_wf h
  have h4 := wf_W hwf
  have hb0 : ¬ b = 0 := by have := (iv_re h).1; omega
  rcases zw_cases hwf hb0 x with ⟨o, ho, rfl⟩ | ⟨hn1, hn2⟩
  · refine ⟨_, _, (zn_le h).1, (zn_le h).2, ?_⟩
    rw [fX11_could]
    refine q11_isWordY h ho ⟨fun q => absurd q (by decide), fun _ => ⟨_, _, Nat.le_refl _, Nat.le_refl _, ?_⟩⟩
    refine q_talliedWordI h ho (fun v big vi vl vc v0 v1 vp v140 vt => ?_)
    refine q9_bits vt (zct_6561 hwf S _) ?_
    intro w1 e
    subst e
    refine q_refWord vi (fun u ui u34 u35 u31 ufl => ?_)
    have hkv := hk _ _ u ui (zCost_done (zdone_fl vp v140 ufl))
    have hW : gI u 210 0 = Int32.ofNat (bW B) := rb_W (iv_rb ui)
    refine zrun (fun n (s : Int32 × Int32) => fX12_could_L13 _ n (Int32.ofNat o) s.1 s.2 u) (fun i => (Int32.ofNat (zbits i (znz (zct (fun d => zdm (bW B) d o) (zFL B S)))), Int32.ofNat i)) 9 (fun n => ?_) (fun i n hi hc => ?_)
    · simp (disch := omega) only [fX12_could_L13, fX12_could_J57, fX12_isTerm, fX12_wordsTold, hW, ↓zln1, ↓zln2, zl0, zl1, zl2, zl3, zl4, zl5, zl6, zl7, zl8, zl9, zl10, zl12, zl15, zl16, zl20, zl24, zl30, zl32, zl36, zl40, zl48, zl57, zl59, zl60, zl61, zl97, zl99, zl120, zl121, zl122, zl126, zl165, zl255, zl480, zl968, zl1000, zl1100, zi_add, zi_mul, zi_sub, zi_div, zi_mod, zi_nat, zt_le, zf_le, zt_lt, zf_lt, zt_eq, zf_eq, zt_vp, zt_N1lt, zf_N1lt, zf_N1eq, zf_eqN1, zt_N1eq, zt_N1le, zf_leN1, zi_nN1, zi_a1, zi_a15, zi_a255, zi_shr, zi_bit, zt_b0, zt_b1, forall_eq, if_true, if_false, true_implies, false_implies, not_true_eq_false, not_false_eq_true, and_true, true_and, gI_sI_eq, gI_sI_ne, gI_sI_ne2, gL_sI, gR_sI, gI_sL, gL_sL_eq, gL_sL_ne, gL_sL_ne2, gR_sL, gI_sR, gL_sR, gR_sR_eq, gR_sR_ne, gR_sR_ne2, gI_aI_eq, gI_aI_ne, gL_aI, gR_aI]
      first | exact hkv | exact zc_same hkv
    · have hTi := zct_6561 hwf S (fun d => zdm (bW B) d o) i
      by_cases q : zct (fun d => zdm (bW B) d o) (zFL B S) i = 0
      · simp (disch := omega) only [fX12_could_L13, fX12_could_J49, fX12_isTerm, fX12_wordsTold, hW, u34 o i ho hi, ↓zln1, ↓zln2, zl0, zl1, zl2, zl3, zl4, zl5, zl6, zl7, zl8, zl9, zl10, zl12, zl15, zl16, zl20, zl24, zl30, zl32, zl36, zl40, zl48, zl57, zl59, zl60, zl61, zl97, zl99, zl120, zl121, zl122, zl126, zl165, zl255, zl480, zl968, zl1000, zl1100, zi_add, zi_mul, zi_sub, zi_div, zi_mod, zi_nat, zt_le, zf_le, zt_lt, zf_lt, zt_eq, zf_eq, zt_vp, zt_N1lt, zf_N1lt, zf_N1eq, zf_eqN1, zt_N1eq, zt_N1le, zf_leN1, zi_nN1, zi_a1, zi_a15, zi_a255, zi_shr, zi_bit, zt_b0, zt_b1, forall_eq, if_true, if_false, true_implies, false_implies, not_true_eq_false, not_false_eq_true, and_true, true_and, gI_sI_eq, gI_sI_ne, gI_sI_ne2, gL_sI, gR_sI, gI_sL, gL_sL_eq, gL_sL_ne, gL_sL_ne2, gR_sL, gI_sR, gL_sR, gR_sR_eq, gR_sR_ne, gR_sR_ne2, gI_aI_eq, gI_aI_ne, gL_aI, gR_aI]
        rw [zbits_f (znz_f q)]
        exact hc
      · simp (disch := omega) only [fX12_could_L13, fX12_could_J49, fX12_isTerm, fX12_wordsTold, hW, u34 o i ho hi, ↓zln1, ↓zln2, zl0, zl1, zl2, zl3, zl4, zl5, zl6, zl7, zl8, zl9, zl10, zl12, zl15, zl16, zl20, zl24, zl30, zl32, zl36, zl40, zl48, zl57, zl59, zl60, zl61, zl97, zl99, zl120, zl121, zl122, zl126, zl165, zl255, zl480, zl968, zl1000, zl1100, zi_add, zi_mul, zi_sub, zi_div, zi_mod, zi_nat, zt_le, zf_le, zt_lt, zf_lt, zt_eq, zf_eq, zt_vp, zt_N1lt, zf_N1lt, zf_N1eq, zf_eqN1, zt_N1eq, zt_N1le, zf_leN1, zi_nN1, zi_a1, zi_a15, zi_a255, zi_shr, zi_bit, zt_b0, zt_b1, forall_eq, if_true, if_false, true_implies, false_implies, not_true_eq_false, not_false_eq_true, and_true, true_and, gI_sI_eq, gI_sI_ne, gI_sI_ne2, gL_sI, gR_sI, gI_sL, gL_sL_eq, gL_sL_ne, gL_sL_ne2, gR_sL, gI_sR, gL_sR, gR_sR_eq, gR_sR_ne, gR_sR_ne2, gI_aI_eq, gI_aI_ne, gL_aI, gR_aI]
        rw [zbits_t (by omega) (znz_t q)]
        exact hc
  · refine ⟨0, 0, Nat.zero_le _, Nat.zero_le _, ?_⟩
    rw [fX11_could]
    refine hn1 w _ (iv_re h).2.1 (cb_W (iv_cb h)) ⟨fun _ => ?_, fun q => absurd rfl q⟩
    intro w1 e
    subst e
    refine q_refWord h (fun u ui u34 u35 u31 ufl => ?_)
    refine ⟨1, ?_⟩
    rw [fX12_could_L13]
    try dsimp only
    refine ⟨fun q => absurd q (by decide), fun _ => ?_⟩
    refine hn2 u _ (rb_W (iv_rb ui)) ⟨fun _ => ?_, fun q => absurd rfl q⟩
    refine hn2 u _ (rb_W (iv_rb ui)) ?_
    intro v5 e5
    obtain rfl : v5 = _ := e5.trans (if_pos rfl)
    exact zc_same (hk _ _ u ui (zCost_fl ufl))
theorem c_sure {B : zBk} {S : Nat → Int32} {N : zNt} {b nn : Nat} {x : Int32} {w : zW} {k : Nat → Nat → zW → Prop} {k0 : zW → Prop} (h : zInv B S N b nn w) (hk : ∀ c s v, zInv B S N b nn v → zCost c s w v → k c s v) : ∃ c s, c ≤ zNA w ∧ s ≤ zNS w ∧ fX11_sure c s x w (fun r1 w1 => fX12_sure x w1 (fun r2 w2 => (r1 = r2 → k c s w2) ∧ (¬ r1 = r2 → k0 w2))) := by
  have hwf := iv_wf h
  have h4 := wf_W hwf
  have hb0 : ¬ b = 0 := by have := (iv_re h).1; omega
  rcases zw_cases hwf hb0 x with ⟨o, ho, rfl⟩ | ⟨hn1, hn2⟩
  · refine ⟨_, _, (zn_le h).1, (zn_le h).2, ?_⟩
    rw [fX11_sure]
    refine q11_isWordY h ho ⟨fun q => absurd q (by decide), fun _ => ⟨_, _, Nat.le_refl _, Nat.le_refl _, ?_⟩⟩
    refine q_talliedWordI h ho (fun v big vi vl vc v0 v1 vp v140 vt => ?_)
    refine q9_only vt (zct_6561 hwf S _) ?_
    rw [zonly (fun d _ => zdm_lt (bW B) d o)]
    intro w1 e
    subst e
    refine q_refWord vi (fun u ui u34 u35 u31 ufl => ?_)
    refine q12_isTermY ui ho ⟨fun q => absurd q (by decide), fun _ => ?_⟩
    refine q12_sureOf (fun n hn => u34 o n ho hn) u31 (zFL_6561 hwf S) (by omega) (zct_6561 hwf S _) ?_
    exact zc_same (hk _ _ u ui (zCost_done (zdone_fl vp v140 ufl)))
  · refine ⟨0, 0, Nat.zero_le _, Nat.zero_le _, ?_⟩
    rw [fX11_sure]
    refine hn1 w _ (iv_re h).2.1 (cb_W (iv_cb h)) ⟨fun _ => ?_, fun q => absurd rfl q⟩
    intro w1 e
    subst e
    refine q_refWord h (fun u ui u34 u35 u31 ufl => ?_)
    refine hn2 u _ (rb_W (iv_rb ui)) ⟨fun _ => ?_, fun q => absurd rfl q⟩
    exact zc_same (hk _ _ u ui (zCost_fl ufl))
theorem c_with {B : zBk} {S : Nat → Int32} {N : zNt} {b nn : Nat} {x y z : Int32} {w : zW} {k : Nat → Nat → zW → Prop} {k0 : zW → Prop} (h : zInv B S N b nn w) (hk : ∀ c s v, zInv B S N b nn v → zCost c s w v → k c s v) : ∃ c s, c ≤ zNA w ∧ s ≤ zNS w ∧ fX11_with c s x y z w (fun r1 w1 => fX12_with x y z w1 (fun r2 w2 => (r1 = r2 → k c s w2) ∧ (¬ r1 = r2 → k0 w2))) := by
  have hwf := iv_wf h
  have h4 := wf_W hwf
  have hb0 : ¬ b = 0 := by have := (iv_re h).1; omega
  rcases zw_cases hwf hb0 x with ⟨o, ho, rfl⟩ | ⟨hn1, hn2⟩
  · have hn : ∀ n : Nat, n < 2 ^ 31 → 2 < n → ∀ t, t ≤ 2 → ¬ Int32.ofNat n = Int32.ofNat t := fun n q1 q2 t q3 e => by
      have := (zi_eq q1 (by omega)).mp e
      omega
    have hneg : ∀ x : Int32, x < 0 → ∀ t, t ≤ 2 → ¬ x = Int32.ofNat t := fun x q t q3 e => by
      rw [e] at q
      exact zi_0le (by omega) q
    rcases zi_mean y z with ⟨t, l, q1, q2, rfl, rfl⟩ | hno
    · refine ⟨_, _, (zn_le h).1, (zn_le h).2, ?_⟩
      rw [fX11_with]
      refine q11_isWordY h ho ⟨fun q => absurd q (by decide), fun _ => ?_⟩
      refine q11_isMeaning (fun _ _ _ _ _ _ => ?_) (fun hx => absurd ⟨t, l, q1, q2, rfl, rfl⟩ hx)
      refine ⟨fun _ => ⟨_, _, Nat.le_refl _, Nat.le_refl _, ?_⟩, fun q => absurd q (by decide)⟩
      refine q_talliedWordI h ho (fun v big vi vl vc v0 v1 vp v140 vt => ?_)
      rw [zl3, zi_mul, zi_add]
      refine q9_of vt (show 3 * t + l < 121 by omega) ?_
      intro w1 e
      subst e
      refine q_refWord vi (fun u ui u34 u35 u31 ufl => ?_)
      have hkv := hk _ _ u ui (zCost_done (zdone_fl vp v140 ufl))
      refine q12_isTermY ui ho ⟨fun q => absurd q (by decide), fun _ => ?_⟩
      have e9 := u34 o (3 * t + l) ho (by omega)
      rw [← Nat.add_assoc] at e9
      simp (disch := omega) only [fX12_within, e9, ↓zln1, ↓zln2, zl0, zl1, zl2, zl3, zl4, zl5, zl6, zl7, zl8, zl9, zl10, zl12, zl15, zl16, zl20, zl24, zl30, zl32, zl36, zl40, zl48, zl57, zl59, zl60, zl61, zl97, zl99, zl120, zl121, zl122, zl126, zl165, zl255, zl480, zl968, zl1000, zl1100, zi_add, zi_mul, zi_sub, zi_div, zi_mod, zi_nat, zt_le, zf_le, zt_lt, zf_lt, zt_eq, zf_eq, zt_vp, zt_N1lt, zf_N1lt, zf_N1eq, zf_eqN1, zt_N1eq, zt_N1le, zf_leN1, zi_nN1, zi_a1, zi_a15, zi_a255, zi_shr, zi_bit, zt_b0, zt_b1, forall_eq, if_true, if_false, true_implies, false_implies, not_true_eq_false, not_false_eq_true, and_true, true_and, gI_sI_eq, gI_sI_ne, gI_sI_ne2, gL_sI, gR_sI, gI_sL, gL_sL_eq, gL_sL_ne, gL_sL_ne2, gR_sL, gI_sR, gL_sR, gR_sR_eq, gR_sR_ne, gR_sR_ne2, gI_aI_eq, gI_aI_ne, gL_aI, gR_aI]
      first | exact hkv | exact zc_same hkv
    · refine ⟨0, 0, Nat.zero_le _, Nat.zero_le _, ?_⟩
      rw [fX11_with]
      refine q11_isWordY h ho ⟨fun q => absurd q (by decide), fun _ => ?_⟩
      refine q11_isMeaning (fun t l q1 q2 q3 q4 => ?_) (fun _ => ⟨fun q => absurd rfl q, fun _ => ?_⟩)
      · rcases hno with (q | ⟨n, q, y1, y2⟩) | ⟨n, y1, y2, (q | ⟨m, q, z1, z2⟩)⟩
        · exact absurd q3 (hneg y q t q1)
        · rw [q] at q3; exact absurd q3 (hn n y1 y2 t q1)
        · exact absurd q4 (hneg z q l q2)
        · rw [q] at q4; exact absurd q4 (hn m z1 z2 l q2)
      · intro w1 e
        subst e
        refine q_refWord h (fun u ui u34 u35 u31 ufl => ?_)
        have hkv := hk _ _ u ui (zCost_fl ufl)
        refine q12_isTermY ui ho ⟨fun q => absurd q (by decide), fun _ => ?_⟩
        rcases hno with (q | ⟨n, rfl, y1, y2⟩) | ⟨n, y1, rfl, hz⟩
        · exact q12_withinN (lo := 0) q (by decide) ⟨fun _ => zc_same hkv, fun x => absurd rfl x⟩
        · refine q12_within (lo := 0) (hi := 2) y1 (by decide) (by decide) ?_
          rw [if_neg (by omega)]
          exact ⟨fun _ => zc_same hkv, fun x => absurd rfl x⟩
        · refine q12_within (lo := 0) (hi := 2) (by omega) (by decide) (by decide) ?_
          rw [if_pos (by omega)]
          refine ⟨fun x => absurd x (by decide), fun _ => ?_⟩
          rcases hz with q | ⟨m, rfl, z1, z2⟩
          · exact q12_withinN (lo := 0) q (by decide) ⟨fun _ => zc_same hkv, fun x => absurd rfl x⟩
          · refine q12_within (lo := 0) (hi := 2) z1 (by decide) (by decide) ?_
            rw [if_neg (by omega)]
            exact ⟨fun _ => zc_same hkv, fun x => absurd rfl x⟩
  · refine ⟨0, 0, Nat.zero_le _, Nat.zero_le _, ?_⟩
    rw [fX11_with]
    refine hn1 w _ (iv_re h).2.1 (cb_W (iv_cb h)) ⟨fun _ => ?_, fun q => absurd rfl q⟩
    intro w1 e
    subst e
    refine q_refWord h (fun u ui u34 u35 u31 ufl => ?_)
    refine hn2 u _ (rb_W (iv_rb ui)) ⟨fun _ => ?_, fun q => absurd rfl q⟩
    exact zc_same (hk _ _ u ui (zCost_fl ufl))
theorem c_least {B : zBk} {S : Nat → Int32} {N : zNt} {b nn : Nat} {x : Int32} {w : zW} {k : Nat → Nat → zW → Prop} {k0 : zW → Prop} (h : zInv B S N b nn w) (hk : ∀ c s v, zInv B S N b nn v → zCost c s w v → k c s v) : ∃ c s, c ≤ zNA w ∧ s ≤ zNS w ∧ fX11_least c s x w (fun r1 w1 => fX12_least x w1 (fun r2 w2 => (r1 = r2 → k c s w2) ∧ (¬ r1 = r2 → k0 w2))) := by
  have hwf := iv_wf h
  have h8 := wf_R hwf
  have hb0 : ¬ b = 0 := by have := (iv_re h).1; omega
  rcases zr_cases hwf hb0 x with ⟨r, hr, rfl⟩ | ⟨hn1, hn2⟩
  · refine ⟨_, _, (zn_le h).1, (zn_le h).2, ?_⟩
    rw [fX11_least]
    refine q11_isRowY h hr ⟨fun q => absurd q (by decide), fun _ => ⟨_, _, Nat.le_refl _, Nat.le_refl _, ?_⟩⟩
    refine q_talliedRowI h hr (fun v big vi vl vc v0 v1 vp v140 vt => ?_)
    refine q9_lowest vt (zct_6561 hwf S _) ?_
    intro w1 e
    subst e
    refine q_refWord vi (fun u ui u34 u35 u31 ufl => ?_)
    refine q12_isRowY ui hr ⟨fun q => absurd q (by decide), fun _ => ?_⟩
    refine q12_leastBehind (fun n hn => u35 r n hr hn) (by omega) (zct_6561 hwf S _) ?_
    exact zc_same (hk _ _ u ui (zCost_done (zdone_fl vp v140 ufl)))
  · refine ⟨0, 0, Nat.zero_le _, Nat.zero_le _, ?_⟩
    rw [fX11_least]
    refine hn1 w _ (iv_re h).2.1 (cb_R (iv_cb h)) ⟨fun _ => ?_, fun q => absurd rfl q⟩
    intro w1 e
    subst e
    refine q_refWord h (fun u ui u34 u35 u31 ufl => ?_)
    refine hn2 u _ (rb_R (iv_rb ui)) ⟨fun _ => ?_, fun q => absurd rfl q⟩
    exact zc_same (hk _ _ u ui (zCost_fl ufl))
theorem c_most {B : zBk} {S : Nat → Int32} {N : zNt} {b nn : Nat} {x : Int32} {w : zW} {k : Nat → Nat → zW → Prop} {k0 : zW → Prop} (h : zInv B S N b nn w) (hk : ∀ c s v, zInv B S N b nn v → zCost c s w v → k c s v) : ∃ c s, c ≤ zNA w ∧ s ≤ zNS w ∧ fX11_most c s x w (fun r1 w1 => fX12_most x w1 (fun r2 w2 => (r1 = r2 → k c s w2) ∧ (¬ r1 = r2 → k0 w2))) := by
  have hwf := iv_wf h
  have h8 := wf_R hwf
  have hb0 : ¬ b = 0 := by have := (iv_re h).1; omega
  rcases zr_cases hwf hb0 x with ⟨r, hr, rfl⟩ | ⟨hn1, hn2⟩
  · refine ⟨_, _, (zn_le h).1, (zn_le h).2, ?_⟩
    rw [fX11_most]
    refine q11_isRowY h hr ⟨fun q => absurd q (by decide), fun _ => ⟨_, _, Nat.le_refl _, Nat.le_refl _, ?_⟩⟩
    refine q_talliedRowI h hr (fun v big vi vl vc v0 v1 vp v140 vt => ?_)
    refine q9_highest vt (zct_6561 hwf S _) ?_
    intro w1 e
    subst e
    refine q_refWord vi (fun u ui u34 u35 u31 ufl => ?_)
    refine q12_isRowY ui hr ⟨fun q => absurd q (by decide), fun _ => ?_⟩
    refine q12_mostBehind (fun n hn => u35 r n hr hn) (by omega) (zct_6561 hwf S _) ?_
    exact zc_same (hk _ _ u ui (zCost_done (zdone_fl vp v140 ufl)))
  · refine ⟨0, 0, Nat.zero_le _, Nat.zero_le _, ?_⟩
    rw [fX11_most]
    refine hn1 w _ (iv_re h).2.1 (cb_R (iv_cb h)) ⟨fun _ => ?_, fun q => absurd rfl q⟩
    intro w1 e
    subst e
    refine q_refWord h (fun u ui u34 u35 u31 ufl => ?_)
    refine hn2 u _ (rb_R (iv_rb ui)) ⟨fun _ => ?_, fun q => absurd rfl q⟩
    exact zc_same (hk _ _ u ui (zCost_fl ufl))
theorem c_kinds {B : zBk} {S : Nat → Int32} {N : zNt} {b nn : Nat} {x : Int32} {w : zW} {k : Nat → Nat → zW → Prop} {k0 : zW → Prop} (h : zInv B S N b nn w) (hk : ∀ c s v, zInv B S N b nn v → zCost c s w v → k c s v) : ∃ c s, c ≤ zNA w ∧ s ≤ zNS w ∧ fX11_kinds c s x w (fun r1 w1 => fX12_kinds x w1 (fun r2 w2 => (r1 = r2 → k c s w2) ∧ (¬ r1 = r2 → k0 w2))) := by
  have hwf := iv_wf h
  have h8 := wf_R hwf
  have hb0 : ¬ b = 0 := by have := (iv_re h).1; omega
  rcases zr_cases hwf hb0 x with ⟨r, hr, rfl⟩ | ⟨hn1, hn2⟩
  · refine ⟨_, _, (zn_le h).1, (zn_le h).2, ?_⟩
    rw [fX11_kinds]
    refine q11_isRowY h hr ⟨fun q => absurd q (by decide), fun _ => ⟨_, _, Nat.le_refl _, Nat.le_refl _, ?_⟩⟩
    refine q_talliedRowI h hr (fun v big vi vl vc v0 v1 vp v140 vt => ?_)
    refine q9_differing vt (zct_6561 hwf S _) ?_
    intro w1 e
    subst e
    refine q_refWord vi (fun u ui u34 u35 u31 ufl => ?_)
    refine q12_isRowY ui hr ⟨fun q => absurd q (by decide), fun _ => ?_⟩
    refine q12_kindsOf (fun n hn => u35 r n hr hn) (by omega) (zct_6561 hwf S _) ?_
    exact zc_same (hk _ _ u ui (zCost_done (zdone_fl vp v140 ufl)))
  · refine ⟨0, 0, Nat.zero_le _, Nat.zero_le _, ?_⟩
    rw [fX11_kinds]
    refine hn1 w _ (iv_re h).2.1 (cb_R (iv_cb h)) ⟨fun _ => ?_, fun q => absurd rfl q⟩
    intro w1 e
    subst e
    refine q_refWord h (fun u ui u34 u35 u31 ufl => ?_)
    refine hn2 u _ (rb_R (iv_rb ui)) ⟨fun _ => ?_, fun q => absurd rfl q⟩
    exact zc_same (hk _ _ u ui (zCost_fl ufl))
theorem c_has {B : zBk} {S : Nat → Int32} {N : zNt} {b nn : Nat} {x y : Int32} {w : zW} {k : Nat → Nat → zW → Prop} {k0 : zW → Prop} (h : zInv B S N b nn w) (hk : ∀ c s v, zInv B S N b nn v → zCost c s w v → k c s v) : ∃ c s, c ≤ zNA w ∧ s ≤ zNS w ∧ fX11_has c s x y w (fun r1 w1 => fX12_has x y w1 (fun r2 w2 => (r1 = r2 → k c s w2) ∧ (¬ r1 = r2 → k0 w2))) := by
  have hwf := iv_wf h
  have h8 := wf_R hwf
  have hb0 : ¬ b = 0 := by have := (iv_re h).1; omega
  rcases zr_cases hwf hb0 x with ⟨r, hr, rfl⟩ | ⟨hn1, hn2⟩
  · by_cases hy : ∃ n, y = Int32.ofNat n ∧ n ≤ 99
    · obtain ⟨n, rfl, hn⟩ := hy
      refine ⟨_, _, (zn_le h).1, (zn_le h).2, ?_⟩
      rw [fX11_has]
      refine q11_isRowY h hr ⟨fun q => absurd q (by decide), fun _ => ?_⟩
      refine q11_isCount _ (fun _ _ _ => ⟨fun q => absurd q (by decide), fun _ => ⟨_, _, Nat.le_refl _, Nat.le_refl _, ?_⟩⟩) (fun hx => ?_)
      · refine q_talliedRowI h hr (fun v big vi vl vc v0 v1 vp v140 vt => ?_)
        refine q9_of vt (show n < 121 by omega) ?_
        intro w1 e
        subst e
        refine q_refWord vi (fun u ui u34 u35 u31 ufl => ?_)
        have hkv := hk _ _ u ui (zCost_done (zdone_fl vp v140 ufl))
        refine q12_isRowY ui hr ⟨fun q => absurd q (by decide), fun _ => ?_⟩
        simp (disch := omega) only [fX12_within, u35 r n hr (show n < 121 by omega), ↓zln1, ↓zln2, zl0, zl1, zl2, zl3, zl4, zl5, zl6, zl7, zl8, zl9, zl10, zl12, zl15, zl16, zl20, zl24, zl30, zl32, zl36, zl40, zl48, zl57, zl59, zl60, zl61, zl97, zl99, zl120, zl121, zl122, zl126, zl165, zl255, zl480, zl968, zl1000, zl1100, zi_add, zi_mul, zi_sub, zi_div, zi_mod, zi_nat, zt_le, zf_le, zt_lt, zf_lt, zt_eq, zf_eq, zt_vp, zt_N1lt, zf_N1lt, zf_N1eq, zf_eqN1, zt_N1eq, zt_N1le, zf_leN1, zi_nN1, zi_a1, zi_a15, zi_a255, zi_shr, zi_bit, zt_b0, zt_b1, forall_eq, if_true, if_false, true_implies, false_implies, not_true_eq_false, not_false_eq_true, and_true, true_and, gI_sI_eq, gI_sI_ne, gI_sI_ne2, gL_sI, gR_sI, gI_sL, gL_sL_eq, gL_sL_ne, gL_sL_ne2, gR_sL, gI_sR, gL_sR, gR_sR_eq, gR_sR_ne, gR_sR_ne2, gI_aI_eq, gI_aI_ne, gL_aI, gR_aI]
        first | exact hkv | exact zc_same hkv
      · rcases hx with q | ⟨m, q, q1, q2⟩
        · exact absurd q (zi_0le (by omega))
        · have := (zi_eq (by omega) q1).mp q
          omega
    · refine ⟨0, 0, Nat.zero_le _, Nat.zero_le _, ?_⟩
      rw [fX11_has]
      refine q11_isRowY h hr ⟨fun q => absurd q (by decide), fun _ => ?_⟩
      refine q11_isCount y (fun n q1 q2 => absurd ⟨n, q1, q2⟩ hy) (fun hx => ⟨fun _ => ?_, fun q => absurd rfl q⟩)
      intro w1 e
      subst e
      refine q_refWord h (fun u ui u34 u35 u31 ufl => ?_)
      have hkv := hk _ _ u ui (zCost_fl ufl)
      refine q12_isRowY ui hr ⟨fun q => absurd q (by decide), fun _ => ?_⟩
      rcases hx with q | ⟨m, rfl, q1, q2⟩
      · exact q12_withinN (lo := 0) q (by decide) ⟨fun _ => zc_same hkv, fun x => absurd rfl x⟩
      · refine q12_within (lo := 0) (hi := 99) q1 (by decide) (by decide) ?_
        rw [if_neg (by omega)]
        exact ⟨fun _ => zc_same hkv, fun x => absurd rfl x⟩
  · refine ⟨0, 0, Nat.zero_le _, Nat.zero_le _, ?_⟩
    rw [fX11_has]
    refine hn1 w _ (iv_re h).2.1 (cb_R (iv_cb h)) ⟨fun _ => ?_, fun q => absurd rfl q⟩
    intro w1 e
    subst e
    refine q_refWord h (fun u ui u34 u35 u31 ufl => ?_)
    refine hn2 u _ (rb_R (iv_rb ui)) ⟨fun _ => ?_, fun q => absurd rfl q⟩
    exact zc_same (hk _ _ u ui (zCost_fl ufl))

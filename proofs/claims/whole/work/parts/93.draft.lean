/-! Level 2: drafts -/
theorem zprod_lt9 {s : Nat → Nat} (hs : ∀ o, s o ≤ 9) : ∀ n, zprod s n ≤ 9 ^ n := by
  intro n
  induction n with
  | zero => exact Nat.le_refl _
  | succ n ih =>
    show zprod s n * s n ≤ 9 ^ (n + 1)
    rw [Nat.pow_succ]
    exact Nat.mul_le_mul ih (hs n)
theorem zprod_pos' {s : Nat → Nat} {n : Nat} (h : ∀ o, o < n → 0 < s o) : 0 < zprod s n := by
  induction n with
  | zero => exact Nat.one_pos
  | succ n ih =>
    show 0 < zprod s n * s n
    exact Nat.mul_pos (ih (fun o ho => h o (by omega))) (h n (by omega))
theorem c_drafts {B : zBk} {S : Nat → Int32} {N : zNt} {b nn : Nat} {x1 x2 x3 : Int32} {w : zW} {k k0 : zW → Prop} (h : zInv B S N b nn w) (hk : ∀ v, zInv B S N b nn v → zfl w v → k v) : fX11_drafts x1 x2 x3 w (fun r1 w1 => fX12_drafts x1 x2 x3 w1 (fun r2 w2 => (r1 = r2 → k w2) ∧ (¬ r1 = r2 → k0 w2))) := by
  have hwf := iv_wf h
  have hrb := iv_rb h
  have hcb := iv_cb h
  have h4 := wf_W hwf
  have hb := (iv_re h).2.1
  have hb0 : ¬ b = 0 := by have := (iv_re h).1; omega
  have h0 := zInv_t h 0
  have hkv := hk _ h0 ⟨rfl, rfl⟩
  rw [fX11_drafts]
  rcases zi_cases x1 with hx1 | ⟨a, ha, rfl⟩
  · refine ⟨fun _ => ?_, fun z => absurd hx1 z⟩
    intro w1 e
    subst e
    exact q12_withinN (lo := 0) hx1 (by decide) ⟨fun _ => zc_same hkv, fun q => absurd rfl q⟩
  refine ⟨fun z => ((zi_lt0 ha).mp z).elim, fun _ => ?_⟩
  by_cases ha2 : a ≤ 9999
  case neg =>
    refine ⟨fun _ => ?_, fun z => absurd ((zi_lt (a := 9999) (by decide) ha).mpr (by omega)) z⟩
    intro w1 e
    subst e
    refine q12_within (lo := 0) (hi := 9999) ha (by decide) (by decide) ?_
    rw [if_neg (by omega)]
    exact ⟨fun _ => zc_same hkv, fun q => absurd rfl q⟩
  refine ⟨fun z => absurd ((zi_lt (a := 9999) (by decide) ha).mp z) (by omega), fun _ => ?_⟩
  have hA : ∀ k9 : Int32 → zW → Prop, ∀ w9 : zW, k9 (Int32.ofNat 1) w9 → fX12_within (Int32.ofNat a) (0 : Int32) (9999 : Int32) w9 k9 := fun k9 w9 hq => by
    refine q12_within (lo := 0) (hi := 9999) ha (by decide) (by decide) ?_
    rw [if_pos (by omega)]
    exact hq
  rcases zi_cases x2 with hx2 | ⟨c, hc, rfl⟩
  · refine ⟨fun _ => ?_, fun z => absurd (zi_neg_lt (n := 1) hx2 (by decide)) z⟩
    intro w1 e
    subst e
    refine hA _ _ ⟨fun q => absurd q (by decide), fun _ => ?_⟩
    exact q12_withinN (lo := 1) hx2 (by decide) ⟨fun _ => zc_same hkv, fun q => absurd rfl q⟩
  by_cases hc1 : 1 ≤ c
  case neg =>
    refine ⟨fun _ => ?_, fun z => absurd ((zi_lt (b := 1) hc (by decide)).mpr (by omega)) z⟩
    intro w1 e
    subst e
    refine hA _ _ ⟨fun q => absurd q (by decide), fun _ => ?_⟩
    refine q12_within (lo := 1) (hi := 99) hc (by decide) (by decide) ?_
    rw [if_neg (by omega)]
    exact ⟨fun _ => zc_same hkv, fun q => absurd rfl q⟩
  refine ⟨fun z => absurd ((zi_lt (b := 1) hc (by decide)).mp z) (by omega), fun _ => ?_⟩
  by_cases hc2 : c ≤ 99
  case neg =>
    refine ⟨fun _ => ?_, fun z => absurd ((zi_lt (a := 99) (by decide) hc).mpr (by omega)) z⟩
    intro w1 e
    subst e
    refine hA _ _ ⟨fun q => absurd q (by decide), fun _ => ?_⟩
    refine q12_within (lo := 1) (hi := 99) hc (by decide) (by decide) ?_
    rw [if_neg (by omega)]
    exact ⟨fun _ => zc_same hkv, fun q => absurd rfl q⟩
  refine ⟨fun z => absurd ((zi_lt (a := 99) (by decide) hc).mp z) (by omega), fun _ => ?_⟩
  have hC : ∀ k9 : Int32 → zW → Prop, ∀ w9 : zW, k9 (Int32.ofNat 1) w9 → fX12_within (Int32.ofNat c) (1 : Int32) (99 : Int32) w9 k9 := fun k9 w9 hq => by
    refine q12_within (lo := 1) (hi := 99) hc (by decide) (by decide) ?_
    rw [if_pos (by omega)]
    exact hq
  rcases zi_cases x3 with hx3 | ⟨d, hd, rfl⟩
  · refine ⟨fun _ => ?_, fun z => absurd hx3 z⟩
    intro w1 e
    subst e
    refine hA _ _ ⟨fun q => absurd q (by decide), fun _ => ?_⟩
    refine hC _ _ ⟨fun q => absurd q (by decide), fun _ => ?_⟩
    exact q12_withinN (lo := 0) hx3 (by decide) ⟨fun q => absurd rfl q, fun _ => zc_same hkv⟩
  refine ⟨fun z => ((zi_lt0 hd).mp z).elim, fun _ => ?_⟩
  by_cases hd2 : d ≤ 2
  case neg =>
    refine ⟨fun z => absurd ((zi_le (b := 2) hd (by decide)).mp z) (by omega), fun _ => ?_⟩
    intro w1 e
    subst e
    refine hA _ _ ⟨fun q => absurd q (by decide), fun _ => ?_⟩
    refine hC _ _ ⟨fun q => absurd q (by decide), fun _ => ?_⟩
    refine q12_within (lo := 0) (hi := 2) hd (by decide) (by decide) ?_
    rw [if_neg (by omega)]
    exact ⟨fun q => absurd rfl q, fun _ => zc_same hkv⟩
  refine ⟨fun _ => ?_, fun z => absurd ((zi_le (b := 2) hd (by decide)).mpr hd2) z⟩
  rw [hb]
  refine ⟨hb0, ?_⟩
  refine q0_dictionaries hwf hcb ?_
  have h9 := zprod_lt9 (s := fun o => zcnt 9 (bMn B o)) (fun o => zcnt_le 9 (bMn B o)) (bW B)
  have h99 : (9 : Nat) ^ bW B ≤ 9 ^ 4 := Nat.pow_le_pow_right (by omega) h4
  have hpl : zprod (fun o => zcnt 9 (bMn B o)) (bW B) < 2 ^ 31 := by omega
  have h64 : (Int32.ofNat a).toInt64 = Int64.ofNat a := Int32.toInt64_ofNat' (show (a : Int) ≤ 2147483647 by omega)
  have hD : ∀ k9 : Int32 → zW → Prop, ∀ w9 : zW, k9 (Int32.ofNat 1) w9 → fX12_within (Int32.ofNat d) (0 : Int32) (2 : Int32) w9 k9 := fun k9 w9 hq => by
    refine q12_within (lo := 0) (hi := 2) hd (by decide) (by decide) ?_
    rw [if_pos (by omega)]
    exact hq
  have hgo : ∀ (r1 : Int32) (k9 : Int32 → zW → Prop), (∀ w8 : zW, w8 = sL (sI w 200 0 0) 200 42 (Int64.ofNat a) → ∃ n9, fX12_drafts_L56 k9 n9 (Int32.ofNat c) (Int32.ofNat d) (0 : Int32) (0 : Int32) (-1 : Int32) (0 : Int32) w8) → fX12_drafts (Int32.ofNat a) (Int32.ofNat c) (Int32.ofNat d) w k9 := by
    intro r1 k9 hq w1 e
    subst e
    refine hA _ _ ⟨fun q => absurd q (by decide), fun _ => ?_⟩
    refine hC _ _ ⟨fun q => absurd q (by decide), fun _ => ?_⟩
    refine hD _ _ ⟨fun _ => ?_, fun q => absurd q (by decide)⟩
    intro w8 e8
    rw [h64] at e8
    exact hq w8 e8
  have h8i : ∀ w8 : zW, w8 = sL (sI w 200 0 0) 200 42 (Int64.ofNat a) → zInv B S N b nn w8 ∧ zfl w w8 ∧ gL w8 200 42 = Int64.ofNat a := by
    intro w8 e8
    refine ⟨zInv_L h0 (fun a c _ => by rw [e8, gI_sL]) (fun a c => by rw [e8, gR_sL]) (fun a c q => by rw [e8, gL_sL_ne q]), ?_, by rw [e8, gL_sL_eq]⟩
    rw [e8]
    exact ⟨rfl, rfl⟩
  by_cases hp : ∀ o, o < bW B → 0 < zcnt 9 (bMn B o)
  · have hpp := zprod_pos' (s := fun o => zcnt 9 (bMn B o)) hp
    refine ⟨fun _ => ?_, fun z => absurd ((zi_eq (b := 0) hpl (by decide)).mp z) (by omega)⟩
    intro v10 e10
    rw [e10, h64]
    refine q11_draftsL h hp (by omega) hc2 ?_
    refine hgo 0 _ (fun w8 e8 => ?_)
    obtain ⟨i8, f8, l8⟩ := h8i w8 e8
    refine q12_draftsL i8 hp (by omega) hc2 l8 (fun v vi vfl => ?_)
    exact zc_same (hk v vi ⟨vfl.1.trans f8.1, vfl.2.trans f8.2⟩)
  · have hz : zprod (fun o => zcnt 9 (bMn B o)) (bW B) = 0 := by
      rcases Nat.eq_zero_or_pos (zprod (fun o => zcnt 9 (bMn B o)) (bW B)) with z | z
      · exact z
      · exact absurd (zprod_pos z) hp
    rw [hz]
    refine ⟨fun z => absurd rfl z, fun _ => ?_⟩
    intro v28 e28
    refine hgo 0 _ (fun w8 e8 => ?_)
    obtain ⟨i8, f8, l8⟩ := h8i w8 e8
    refine ⟨1, ?_⟩
    rw [fX12_drafts_L56]
    refine ⟨fun q => absurd ((zi_le (b := 0) hc (by decide)).mp q) (by omega), fun _ => ?_⟩
    refine q12_isAny hwf (iv_rb i8) (fun f hf => ?_)
    have hff : f = false := by
      cases f with
      | false => rfl
      | true => exact absurd (hf.mp rfl) hp
    rw [hff]
    refine ⟨fun _ => ?_, fun z => absurd rfl z⟩
    intro v10 e10
    have e : v28 = v10 := by
      rw [e28, e10]
      by_cases d2 : d = 2
      · rw [d2]; rfl
      · rw [if_pos (show ¬ Int32.ofNat d = (2 : Int32) from fun x => d2 ((zi_eq (b := 2) hd (by decide)).mp x))]
        by_cases d0 : d = 0
        · rw [d0]; rfl
        · have d1 : d = 1 := by omega
          rw [d1]; rfl
    rw [e]
    exact zc_same (hk w8 i8 f8)

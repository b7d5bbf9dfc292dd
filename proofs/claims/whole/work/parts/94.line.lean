/-! Level 2: line, but for the brief -/
theorem c_lineB {B : zBk} {S : Nat → Int32} {N : zNt} {b nn : Nat} {x1 x2 : Int32} {w : zW} {k : Nat → Nat → zW → Prop} {k0 : zW → Prop} (h : zInv B S N b nn w) (hk : ∀ c s v, zInv B S N b nn v → zCost c s w v → k c s v) (F : Nat → Int32)
    (hB1 : ∀ r, r < bR B → ∃ c s, c ≤ zNA w ∧ s ≤ zNS w ∧ ∀ g : Int32 → zW → Prop, (∀ v, zInv B S N b nn v → zCost c s w v → g (F r) v) → fX11_briefOf c s (Int32.ofNat r) w g)
    (hB2 : ∀ r v, ∀ g : Int32 → zW → Prop, r < bR B → zInv B S N b nn v → (∀ u, zInv B S N b nn u → zfl v u → g (F r) u) → fX12_briefOf (Int32.ofNat r) v g) :
    ∃ c s, c ≤ zNA w ∧ s ≤ zNS w ∧ fX11_line c s x1 x2 w (fun r1 w1 => fX12_line x1 x2 w1 (fun r2 w2 => (r1 = r2 → k c s w2) ∧ (¬ r1 = r2 → k0 w2))) := by
  have hwf := iv_wf h
  have hcb := iv_cb h
  have h8 := wf_R hwf
  have hb1 := (iv_re h).1
  have hb := (iv_re h).2.1
  have hb0 : ¬ b = 0 := by have := (iv_re h).1; omega
  have h0 := zInv_t h 0
  have hkv := hk 0 0 _ h0 (zCost_fl ⟨rfl, rfl⟩)
  rcases zi_cases x1 with hx | ⟨a, ha, rfl⟩
  · refine ⟨0, 0, Nat.zero_le _, Nat.zero_le _, ?_⟩
    rw [fX11_line]
    refine q11_isRowN hx ⟨fun q => absurd rfl q, fun _ => ?_⟩
    intro w1 e
    subst e
    exact q12_isRowN hx ⟨fun _ => zc_same hkv, fun q => absurd rfl q⟩
  by_cases hr : a < bR B
  case neg =>
    refine ⟨0, 0, Nat.zero_le _, Nat.zero_le _, ?_⟩
    rw [fX11_line]
    refine q11_isRow hwf hb hb0 (cb_R hcb) ha ?_
    rw [if_neg hr]
    refine ⟨fun q => absurd rfl q, fun _ => ?_⟩
    intro w1 e
    subst e
    refine q12_isRow hwf (rb_R (iv_rb h0)) ha ?_
    rw [if_neg hr]
    exact ⟨fun _ => zc_same hkv, fun q => absurd rfl q⟩
  rcases zi_4 x2 with rfl | rfl | rfl | rfl | hy
  · refine ⟨0, 0, Nat.zero_le _, Nat.zero_le _, ?_⟩
    rw [fX11_line]
    refine q11_isRowY h hr ⟨fun _ => ?_, fun q => absurd q (by decide)⟩
    intro sv e
    subst e
    refine ⟨fun _ => ?_, fun q => absurd rfl q⟩
    rw [hb]
    refine ⟨hb0, zi_in (by omega) (by omega), ?_⟩
    rw [zi_nat (show a < 2 ^ 31 by omega), cb_Ln hcb hr]
    intro w1 e
    subst e
    refine q12_isRowY h0 hr ⟨fun q => absurd q (by decide), fun _ => ?_⟩
    refine q12_within (lo := 0) (hi := 3) (by decide) (by decide) (by decide) ?_
    rw [if_pos (by omega)]
    refine ⟨fun _ => ⟨fun q => absurd rfl q, fun _ => ?_⟩, fun q => absurd q (by decide)⟩
    exact q12_longOf hwf (iv_rb h0) hr (zc_same hkv)
  · refine ⟨0, 0, Nat.zero_le _, Nat.zero_le _, ?_⟩
    rw [fX11_line]
    refine q11_isRowY h hr ⟨fun _ => ?_, fun q => absurd q (by decide)⟩
    intro sv e
    subst e
    refine ⟨fun q => absurd q (by decide), fun _ => ⟨fun _ => ?_, fun q => absurd rfl q⟩⟩
    refine q3_countOf (by omega) ?_
    rw [(iv_ha h).2.2 (4 + a) (by omega)]
    intro w1 e
    subst e
    refine q12_isRowY h0 hr ⟨fun q => absurd q (by decide), fun _ => ?_⟩
    refine q12_within (lo := 0) (hi := 3) (by decide) (by decide) (by decide) ?_
    rw [if_pos (by omega)]
    refine ⟨fun _ => ⟨fun _ => ⟨fun q => absurd rfl q, fun _ => ?_⟩, fun q => absurd q (by decide)⟩, fun q => absurd q (by decide)⟩
    rw [zl4, zi_add, zi_nat (show 4 + a < 2 ^ 31 by omega), (iv_ha h0).2.1 (4 + a) (by omega)]
    exact ⟨zi_in (by omega) (by omega), zc_same hkv⟩
  · refine ⟨0, 0, Nat.zero_le _, Nat.zero_le _, ?_⟩
    rw [fX11_line]
    refine q11_isRowY h hr ⟨fun _ => ?_, fun q => absurd q (by decide)⟩
    intro sv e
    subst e
    refine ⟨fun q => absurd q (by decide), fun _ => ⟨fun q => absurd q (by decide), fun _ => ⟨fun _ => ?_, fun q => absurd rfl q⟩⟩⟩
    rw [hb]
    refine ⟨hb0, ?_⟩
    refine q0_beat hwf hcb hb1 hr (fun x hx => ?_)
    intro w1 e
    subst e
    refine q12_isRowY h0 hr ⟨fun q => absurd q (by decide), fun _ => ?_⟩
    refine q12_within (lo := 0) (hi := 3) (by decide) (by decide) (by decide) ?_
    rw [if_pos (by omega)]
    refine ⟨fun _ => ⟨fun _ => ⟨fun _ => ⟨fun q => absurd rfl q, fun _ => ?_⟩, fun q => absurd q (by decide)⟩, fun q => absurd q (by decide)⟩, fun q => absurd q (by decide)⟩
    refine q12_beatOf hwf (iv_rb h0) hr (fun y hy => ?_)
    rw [zbeat_uniq hx hy]
    exact zc_same hkv
  · obtain ⟨c, s, hc, hs, hq⟩ := hB1 a hr
    refine ⟨c, s, hc, hs, ?_⟩
    rw [fX11_line]
    refine q11_isRowY h hr ⟨fun _ => ?_, fun q => absurd q (by decide)⟩
    intro sv e
    subst e
    refine ⟨fun q => absurd q (by decide), fun _ => ⟨fun q => absurd q (by decide), fun _ => ⟨fun q => absurd q (by decide), fun _ => ⟨fun _ => ⟨c, s, Nat.le_refl _, Nat.le_refl _, ?_⟩, fun q => absurd rfl q⟩⟩⟩⟩
    refine hq _ (fun v vi vc => ?_)
    intro w1 e
    subst e
    have v0 := zInv_t vi 0
    refine q12_isRowY v0 hr ⟨fun q => absurd q (by decide), fun _ => ?_⟩
    refine q12_within (lo := 0) (hi := 3) (by decide) (by decide) (by decide) ?_
    rw [if_pos (by omega)]
    refine ⟨fun _ => ⟨fun _ => ⟨fun _ => ⟨fun _ => ?_, fun q => absurd q (by decide)⟩, fun q => absurd q (by decide)⟩, fun q => absurd q (by decide)⟩, fun q => absurd q (by decide)⟩
    refine hB2 a _ _ hr v0 (fun u ui ufl => ?_)
    refine zc_same (hk c s u ui ?_)
    have ufl2 : zfl v u := ⟨ufl.1, ufl.2⟩
    have h00 := zCost_trans vc (zCost_fl ufl2)
    exact h00
  · refine ⟨0, 0, Nat.zero_le _, Nat.zero_le _, ?_⟩
    rw [fX11_line]
    refine q11_isRowY h hr ⟨fun _ => ?_, fun q => absurd q (by decide)⟩
    intro sv e
    subst e
    refine ⟨fun q => absurd q hy.1, fun _ => ⟨fun q => absurd q hy.2.1, fun _ => ⟨fun q => absurd q hy.2.2.1, fun _ => ⟨fun q => absurd q hy.2.2.2, fun _ => ?_⟩⟩⟩⟩
    intro w1 e
    subst e
    refine q12_isRowY h0 hr ⟨fun q => absurd q (by decide), fun _ => ?_⟩
    exact q12_within3 hy ⟨fun q => absurd rfl q, fun _ => zc_same hkv⟩

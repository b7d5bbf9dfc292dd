/-! Level 2: the reference's misprints and misprint -/
theorem zPre_nil {B : zBk} {S : Nat → Int32} {r i : Nat} (h : zPre B S r i 0 = []) : ∀ n, (∀ y, y < n → zHp B S r (bIt B r i) y = false) → zPre B S r i n = [] := by
  intro n
  induction n with
  | zero => intro _; exact h
  | succ n ih =>
    intro hy
    rw [zPre_x, ih (fun y q => hy y (by omega)), if_neg (by rw [hy n (by omega)]; decide)]
    rfl
theorem q12_misprints {B : zBk} {S : Nat → Int32} {N : zNt} {b nn : Nat} {w : zW} {k : Int32 → zW → Prop} (h : zInv B S N b nn w)
    (hk : ∀ v : zW, zInv B S N b nn v → zfl w v → k (Int32.ofNat (zWy B S).length) v) : fX12_misprints w k := by
  have hwf := iv_wf h
  have h4 := wf_W hwf
  have h8 := wf_R hwf
  rw [fX12_misprints]
  intro w1 e1
  subst e1
  refine q12_misprintsNow (zInv_t h 0) (fun v vi vf vt => ?_)
  have hkv := hk v vi ⟨vf.1.trans (gI_sI_ne (by decide) _ _ _ _), vf.2⟩
  rw [zWy_len hwf] at hkv
  refine zrun (fun n (s : Int32 × Int32) => fX12_misprints_L13 k n s.1 s.2 v) (fun r => (Int32.ofNat (zsum r (fun r => zsum (bW B) (fun o => bU B r o * zcnt (bW B) (zHp B S r o)))), Int32.ofNat r)) (bR B) (fun n => ?_) (fun r n hr hc => ?_)
  · show fX12_misprints_L13 k (n + 1) _ (Int32.ofNat (bR B)) v
    rw [fX12_misprints_L13]
    try dsimp only
    rw [fX12_rows, show (2 : Int32).toNatClampNeg = 2 from rfl, rb_R (iv_rb vi)]
    exact ⟨fun _ => hkv, fun q => absurd (Int32.le_refl _) q⟩
  · show fX12_misprints_L13 k (n + 1) _ (Int32.ofNat r) v
    rw [fX12_misprints_L13]
    try dsimp only
    rw [fX12_rows, show (2 : Int32).toNatClampNeg = 2 from rfl, rb_R (iv_rb vi)]
    refine ⟨fun q => absurd ((zi_le (by omega) (by omega)).mp q) (by omega), fun _ => ?_⟩
    refine zrun (fun n' (s : Int32 × Int32) => fX12_misprints_L23 k (fX12_misprints_L13 k n) n' s.1 (Int32.ofNat r) s.2 v) (fun o => (Int32.ofNat (zsum r (fun r => zsum (bW B) (fun o => bU B r o * zcnt (bW B) (zHp B S r o))) + zsum o (fun o => bU B r o * zcnt (bW B) (zHp B S r o))), Int32.ofNat o)) (bW B) (fun n' => ?_) (fun o n' ho hc' => ?_)
    · show fX12_misprints_L23 k (fX12_misprints_L13 k n) (n' + 1) _ (Int32.ofNat r) (Int32.ofNat (bW B)) v
      rw [fX12_misprints_L23]
      try dsimp only
      rw [fX12_wordsTold, show (0 : Int32).toNatClampNeg = 0 from rfl, rb_W (iv_rb vi), zl1, zi_add]
      exact ⟨fun _ => hc, fun q => absurd (Int32.le_refl _) q⟩
    · show fX12_misprints_L23 k (fX12_misprints_L13 k n) (n' + 1) _ (Int32.ofNat r) (Int32.ofNat o) v
      rw [fX12_misprints_L23]
      try dsimp only
      have hlt : zbits (bW B) (zHp B S r o) < 2 ^ 31 := Nat.lt_of_lt_of_le (zbits_lt _ _) (Nat.pow_le_pow_right (n := 2) (by omega) (by omega))
      rw [fX12_wordsTold, show (0 : Int32).toNatClampNeg = 0 from rfl, rb_W (iv_rb vi), zl4, zi_mul, zi_add, zi_nat (show 4 * r + o < 2 ^ 31 by omega), vt r o hr ho (Or.inl hr), rb_U (iv_rb vi) (show r < 8 by omega) (show o < 4 by omega)]
      refine ⟨fun q => absurd ((zi_le (by omega) (by omega)).mp q) (by omega), fun _ => ⟨zi_in (by omega) (by omega), q12_bits hlt ?_⟩⟩
      rw [zones_bits (by omega), zi_mul, zi_add, zl1, zi_add]
      intro v9 e9
      rw [e9, Nat.add_assoc]
      exact hc'
def zAns (B : zBk) (S : Nat → Int32) (x : Int32) : Int32 := if x = 0 then zfst (fun t => t.1) (zWy B S) else if x = 1 then zfst (fun t => t.2.1) (zWy B S) else if x = 2 then zfst (fun t => t.2.2) (zWy B S) else zN1
theorem q12_misprint {B : zBk} {S : Nat → Int32} {N : zNt} {b nn : Nat} {x : Int32} {w : zW} {k : Int32 → zW → Prop} (h : zInv B S N b nn w)
    (hk : ∀ v : zW, zInv B S N b nn v → zfl w v → k (zAns B S x) v) : fX12_misprint x w k := by
  have hwf := iv_wf h
  have h4 := wf_W hwf
  have h8 := wf_R hwf
  rw [fX12_misprint]
  intro w1 e1
  subst e1
  refine q12_misprintsNow (zInv_t h 0) (fun v vi vf vt => ?_)
  have hkv := hk v vi ⟨vf.1.trans (gI_sI_ne (by decide) _ _ _ _), vf.2⟩
  have hR := rb_R (iv_rb vi)
  -- another question than three
  have hoth : (¬ x = 0 ∧ ¬ x = 1 ∧ ¬ x = 2) → (∀ g : Int32 → zW → Prop, g (Int32.ofNat 0) v → fX12_within x (Int32.ofNat 0) (Int32.ofNat 2) v g) → ∃ n9, fX12_misprint_L11 k n9 x (0 : Int32) v := by
    intro hx hg
    rw [zAns, if_neg hx.1, if_neg hx.2.1, if_neg hx.2.2] at hkv
    refine ⟨0 + 1, ?_⟩
    rw [fX12_misprint_L11]
    try dsimp only
    rw [fX12_rows, show (2 : Int32).toNatClampNeg = 2 from rfl, hR]
    refine ⟨fun _ => hkv, fun _ => ?_⟩
    exact hg _ ⟨fun _ => hkv, fun q => absurd rfl q⟩
  have hthree : ∀ j : Nat, j < 3 → x = Int32.ofNat j → ∃ n9, fX12_misprint_L11 k n9 x (0 : Int32) v := by
    intro j hj hxj
    subst hxj
    have hfound : ∀ r i y, r < bR B → i < bLn B r → y < bW B → zPre B S r i y = [] → zHp B S r (bIt B r i) y = true → zAns B S (Int32.ofNat j) = (if ¬ Int32.ofNat j = 0 then (if ¬ Int32.ofNat j = (1 : Int32) then Int32.ofNat y else Int32.ofNat i) else Int32.ofNat r) := by
      intro r i y hr hi hy hp hh
      obtain ⟨t, ht⟩ := zPre_pre B S hr hi (show y + 1 ≤ bW B from hy)
      rw [zPre_x, hp, if_pos hh] at ht
      rw [zAns, ht]
      rcases (show j = 0 ∨ j = 1 ∨ j = 2 by omega) with e | e | e <;> subst e <;> rfl
    have hL30 : ∀ (g11 : Int32 → Int32 → zW → Prop) (r : Nat), r < bR B → (zPre B S (r + 1) 0 0 = [] → g11 (Int32.ofNat j) (Int32.ofNat (r + 1)) v) → ∀ (c i : Nat), i + c = bLn B r → zPre B S r i 0 = [] → fX12_misprint_L30 k g11 (c + 1) (Int32.ofNat j) (Int32.ofNat r) (Int32.ofNat i) v := by
      intro g11 r hr hnext c
      have h60 := wf_Ln hwf hr
      induction c with
      | zero =>
        intro i hi hp
        rw [fX12_misprint_L30]
        try dsimp only
        refine q12_longOf hwf (iv_rb vi) hr ⟨fun _ => ?_, fun q => absurd ((zi_le (by omega) (by omega)).mpr (by omega)) q⟩
        rw [zl1, zi_add]
        exact hnext (by rw [zPre_r, ← hp, show i = bLn B r by omega])
      | succ c ih =>
        intro i hi hp
        have hit := wf_It hwf hr (show i < bLn B r by omega)
        have hlt : zbits (bW B) (zHp B S r (bIt B r i)) < 2 ^ 31 := Nat.lt_of_lt_of_le (zbits_lt _ _) (Nat.pow_le_pow_right (n := 2) (by omega) (by omega))
        rw [fX12_misprint_L30]
        try dsimp only
        refine q12_longOf hwf (iv_rb vi) hr ⟨fun q => absurd ((zi_le (by omega) (by omega)).mp q) (by omega), fun _ => ?_⟩
        refine q12_itemOf hwf (iv_rb vi) hr (by omega) ?_
        rw [zl4, zi_mul, zi_add, zi_nat (show 4 * r + bIt B r i < 2 ^ 31 by omega), vt r (bIt B r i) hr hit (Or.inl hr)]
        refine ⟨zi_in (by omega) (by omega), ?_⟩
        intro v11 e11
        subst e11
        have hgo : ∀ (c2 y : Nat), y + c2 = bW B → (∀ y2, y2 < y → zHp B S r (bIt B r i) y2 = false) → fX12_misprint_L59 k g11 (fX12_misprint_L30 k g11 (c + 1)) (c2 + 1) (Int32.ofNat j) (Int32.ofNat r) (Int32.ofNat i) (Int32.ofNat (zbits (bW B) (zHp B S r (bIt B r i)))) (Int32.ofNat y) v := by
          intro c2
          induction c2 with
          | zero =>
            intro y hy hall
            have e0 : zbits (bW B) (zHp B S r (bIt B r i)) = 0 := zbits_zero.mpr (fun y2 q => hall y2 (by omega))
            rw [fX12_misprint_L59, e0]
            try dsimp only
            refine ⟨fun _ => ⟨fun _ => ?_, fun q => absurd rfl q⟩, fun q => absurd rfl q⟩
            rw [zl1, zi_add]
            exact ih (i + 1) (by omega) (by rw [zPre_i]; exact zPre_nil hp _ (fun y2 q => hall y2 (by omega)))
          | succ c2 ih2 =>
            intro y hy hall
            have hget := zbits_get (zHp B S r (bIt B r i)) (show y < bW B by omega)
            have hne : zHp B S r (bIt B r i) y = true → ¬ zbits (bW B) (zHp B S r (bIt B r i)) = 0 := fun q z => by
              have := zbits_zero.mp z y (by omega)
              rw [q] at this
              exact absurd this (by decide)
            rw [fX12_misprint_L59]
            try dsimp only
            rw [zi_shr hlt (by omega), zl1, zi_a1, hget]
            refine ⟨fun q => ?_, fun q => ⟨fun q2 => ?_, fun q2 => ?_⟩⟩
            · have e0 : zbits (bW B) (zHp B S r (bIt B r i)) = 0 := (zi_eq (b := 0) hlt (by decide)).mp q
              rw [e0]
              refine ⟨fun _ => ?_, fun z => absurd rfl z⟩
              rw [zl1, zi_add]
              exact ih (i + 1) (by omega) (by rw [zPre_i]; exact zPre_nil hp _ (fun y2 _ => zbits_zero.mp e0 y2 (by omega)))
            · have hh : zHp B S r (bIt B r i) y = true := by
                by_cases z : zHp B S r (bIt B r i) y = true
                · exact z
                · rw [if_neg z] at q2; exact absurd rfl q2
              refine ⟨fun z => absurd ((zi_eq (b := 0) hlt (by decide)).mp z) (hne hh), fun _ => ?_⟩
              intro v14 e14
              rw [e14, ← hfound r i y hr (by omega) (by omega) (zPre_nil hp y hall) hh]
              exact hkv
            · have hh : zHp B S r (bIt B r i) y = false := by
                cases z : zHp B S r (bIt B r i) y with
                | false => rfl
                | true => rw [z, if_pos rfl] at q2; exact absurd q2 (by decide)
              rw [zi_add]
              exact ih2 (y + 1) (by omega) (fun y2 q => by
                by_cases e : y2 = y
                · rw [e]; exact hh
                · exact hall y2 (by omega))
        exact ⟨bW B + 1, hgo (bW B) 0 (by omega) (fun y2 q => absurd q (Nat.not_lt_zero _))⟩
    have hL11 : ∀ (c r : Nat), r + c = bR B → zPre B S r 0 0 = [] → fX12_misprint_L11 k (c + 1) (Int32.ofNat j) (Int32.ofNat r) v := by
      intro c
      induction c with
      | zero =>
        intro r hr hp
        rw [fX12_misprint_L11]
        try dsimp only
        rw [fX12_rows, show (2 : Int32).toNatClampNeg = 2 from rfl, hR]
        refine ⟨fun _ => ?_, fun q => absurd ((zi_le (by omega) (by omega)).mpr (by omega)) q⟩
        have e : zWy B S = [] := by rw [← zPre_end, ← hp, show r = bR B by omega]
        rw [zAns, e] at hkv
        rcases (show j = 0 ∨ j = 1 ∨ j = 2 by omega) with e | e | e <;> subst e <;> exact hkv
      | succ c ih =>
        intro r hr hp
        rw [fX12_misprint_L11]
        try dsimp only
        rw [fX12_rows, show (2 : Int32).toNatClampNeg = 2 from rfl, hR]
        refine ⟨fun q => absurd ((zi_le (by omega) (by omega)).mp q) (by omega), fun _ => ?_⟩
        refine q12_within (lo := 0) (hi := 2) (by omega) (by decide) (by decide) ?_
        rw [if_pos (by omega)]
        refine ⟨fun q => absurd q (by decide), fun _ => ?_⟩
        exact ⟨bLn B r + 1, hL30 _ r (by omega) (fun hp' => ih (r + 1) (by omega) hp') (bLn B r) 0 (by omega) hp⟩
    exact ⟨bR B + 1, hL11 (bR B) 0 (by omega) rfl⟩
  rcases zi_cases x with hx | ⟨a, ha, rfl⟩
  · refine hoth ⟨fun z => by rw [z] at hx; exact absurd hx (by decide), fun z => by rw [z] at hx; exact absurd hx (by decide), fun z => by rw [z] at hx; exact absurd hx (by decide)⟩ (fun g hg => q12_withinN hx (by decide) hg)
  · by_cases h3 : a < 3
    · exact hthree a h3 rfl
    · refine hoth ⟨fun z => by have := (zi_eq (b := 0) ha (by decide)).mp z; omega, fun z => by have := (zi_eq (b := 1) ha (by decide)).mp z; omega, fun z => by have := (zi_eq (b := 2) ha (by decide)).mp z; omega⟩ (fun g hg => q12_within ha (by decide) (by decide) (by rw [if_neg (by omega)]; exact hg))

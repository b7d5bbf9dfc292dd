/-! Level 2: the reference's briefOf -/
theorem q12_briefest {B : zBk} {r n m f br : Nat} {w : zW} {k : Int32 → zW → Prop} (hwf : zWF B) (hB : zRB B w) (hr : r < bR B) (hn : n = bLn B r) (ht : ztbl (bIt B r) n m f w) (h1 : 1 ≤ m) (h2 : f + m ≤ n) (hb : br < 4) (hk : k (Int32.ofNat (zT (bIt B r) br f m)) w) : fX12_briefest (Int32.ofNat r) (Int32.ofNat f) (Int32.ofNat m) (Int32.ofNat br) w k := by
  have h60 := wf_Ln hwf hr
  have h8 := wf_R hwf
  have hA := zminL_le m (zSp (bIt B r) br f m) m
  have hL63 : ∀ (c i : Nat), i + 1 + c = m → fX12_briefest_L63 k (c + 1) (Int32.ofNat r) (Int32.ofNat f) (Int32.ofNat m) (Int32.ofNat br) (Int32.ofNat (zminL (i + 1) (zRp (bIt B r) br f m) (zminL m (zSp (bIt B r) br f m) m))) (Int32.ofNat (i + 1)) w := by
    intro c
    induction c with
    | zero =>
      intro i hi
      have e : i + 1 = m := by omega
      rw [fX12_briefest_L63]
      try dsimp only
      refine ⟨fun _ => ?_, fun q => absurd ((zi_le (by omega) (by omega)).mpr (by omega)) q⟩
      rw [e, ← zT_rec]
      exact hk
    | succ c ih =>
      intro i hi
      have ih' := ih (i + 1) (by omega)
      have hacc := zminL_le (i + 1) (zRp (bIt B r) br f m) (zminL m (zSp (bIt B r) br f m) m)
      rw [zminL_S (show 1 ≤ i + 1 by omega)] at ih'
      generalize zminL (i + 1) (zRp (bIt B r) br f m) (zminL m (zSp (bIt B r) br f m) m) = acc at ih' hacc ⊢
      have hdv : m / (i + 1) ≤ m := Nat.div_le_self _ _
      have hN : ∀ (fl t : Nat), ((fl = 0 ∧ ¬ (zagain (bIt B r) f m (i + 1) = true ∧ m / (i + 1) ≤ 20)) ∨ (fl = 1 ∧ (zagain (bIt B r) f m (i + 1) = true ∧ m / (i + 1) ≤ 20) ∧ ((zRp (bIt B r) br f m (i + 1) = t) ∨ (t = acc ∧ zRp (bIt B r) br f m (i + 1) = m)))) → t < 200 → fX12_briefest_J130 k (fX12_briefest_L63 k (c + 1)) (Int32.ofNat r) (Int32.ofNat f) (Int32.ofNat m) (Int32.ofNat br) (Int32.ofNat acc) (Int32.ofNat (i + 1)) (Int32.ofNat fl) (Int32.ofNat t) w := by
        intro fl t hfl ht2
        rw [fX12_briefest_J130]
        intro v7 e7
        rw [zl1, zi_add]
        have hz : v7 = Int32.ofNat (zmin acc (zRp (bIt B r) br f m (i + 1))) := by
          rcases hfl with ⟨q0, q1⟩ | ⟨q0, q1, q2⟩
          · rw [q0] at e7
            rw [e7.trans (if_pos rfl), zRp, if_neg q1, zmin_self (by omega)]
          · rw [q0] at e7
            refine (e7.trans (if_neg (show ¬ Int32.ofNat 1 = 0 by decide))).trans ?_
            rcases q2 with q | ⟨q, q3⟩
            · rw [q]
              by_cases y : acc ≤ t
              · rw [if_pos ((zi_le (by omega) (by omega)).mpr y), zmin_self y]
              · rw [if_neg (fun z => y ((zi_le (by omega) (by omega)).mp z)), zmin, if_pos (by omega)]
            · rw [q, q3, if_pos ((zi_le (by omega) (by omega)).mpr (Nat.le_refl _)), zmin_self (by omega)]
        rw [hz]
        exact ih'
      have hJ : ∀ (fl : Nat), ((fl = 0 ∧ ¬ (zagain (bIt B r) f m (i + 1) = true ∧ m / (i + 1) ≤ 20)) ∨ (fl = 1 ∧ (zagain (bIt B r) f m (i + 1) = true ∧ m / (i + 1) ≤ 20))) → fX12_briefest_J95 k (fX12_briefest_L63 k (c + 1)) (Int32.ofNat r) (Int32.ofNat f) (Int32.ofNat m) (Int32.ofNat br) (Int32.ofNat acc) (Int32.ofNat (i + 1)) (Int32.ofNat fl) w := by
        intro fl hfl
        have hP : ∀ t, ((zagain (bIt B r) f m (i + 1) = true ∧ m / (i + 1) ≤ 20) → ((zRp (bIt B r) br f m (i + 1) = t) ∨ (t = acc ∧ zRp (bIt B r) br f m (i + 1) = m))) → ((fl = 0 ∧ ¬ (zagain (bIt B r) f m (i + 1) = true ∧ m / (i + 1) ≤ 20)) ∨ (fl = 1 ∧ (zagain (bIt B r) f m (i + 1) = true ∧ m / (i + 1) ≤ 20) ∧ ((zRp (bIt B r) br f m (i + 1) = t) ∨ (t = acc ∧ zRp (bIt B r) br f m (i + 1) = m)))) := fun t hh => by
          rcases hfl with q | q
          · exact Or.inl q
          · exact Or.inr ⟨q.1, q.2, hh q.2⟩
        rw [fX12_briefest_J95]
        refine ⟨fun q => ⟨fun q2 => ?_, fun q2 => ?_⟩, fun q => ?_⟩
        · have y : ¬ i + 1 = 1 := fun z => q (by rw [z]; rfl)
          have y2 : br = 0 := by
            have := (zi_le (b := 0) (by omega) (by decide)).mp q2
            omega
          refine hN fl acc (hP acc (fun z => Or.inr ⟨rfl, ?_⟩)) (by omega)
          rw [zRp, if_pos z, if_neg y, if_pos y2]
        · have y : ¬ i + 1 = 1 := fun z => q (by rw [z]; rfl)
          have y2 : ¬ br = 0 := fun z => q2 (by rw [z]; decide)
          rw [zl1, zi_sub (by omega)]
          refine q12_tokensOf (by omega) ht (by omega) (by omega) (Or.inl (by omega)) (by omega) ?_
          rw [zl3, zi_add]
          have := zT_le (bIt B r) (br - 1) f (i + 1)
          refine hN fl _ (hP _ (fun z => Or.inl ?_)) (by omega)
          rw [zRp, if_pos z, if_neg y, if_neg y2]
        · have y : i + 1 = 1 := (zi_eq (b := 1) (by omega) (by decide)).mp q
          rw [zl2]
          refine hN fl 2 (hP 2 (fun z => Or.inl ?_)) (by omega)
          rw [zRp, if_pos z, if_pos y]
      rw [fX12_briefest_L63]
      try dsimp only
      refine ⟨fun q => absurd ((zi_le (by omega) (by omega)).mp q) (by omega), fun _ => ⟨fun q => absurd ((zi_eq (b := 0) (by omega) (by decide)).mp q) (by omega), ?_⟩⟩
      rw [zi_div (by omega) (by omega)]
      refine ⟨fun q => ?_, fun q => ?_⟩
      · have := (zi_lt (a := 20) (by decide) (by omega)).mp q
        exact hJ 0 (Or.inl ⟨rfl, fun z => by omega⟩)
      · have q' : m / (i + 1) ≤ 20 := by
          by_cases y : 20 < m / (i + 1)
          · exact absurd ((zi_lt (a := 20) (by decide) (by omega)).mpr y) q
          · omega
        refine q12_isAgain hwf hB hr (by omega) (by omega) (by omega) ?_
        intro v11 e11
        cases hz : zagain (bIt B r) f m (i + 1) with
        | true =>
          rw [hz] at e11
          rw [e11.trans (if_neg (show ¬ Int32.ofNat (zb2n true) = 0 by decide))]
          exact hJ 1 (Or.inr ⟨rfl, hz, q'⟩)
        | false =>
          rw [hz] at e11
          rw [e11.trans (if_pos (show Int32.ofNat (zb2n false) = 0 by decide))]
          exact hJ 0 (Or.inl ⟨rfl, fun z => by rw [hz] at z; exact absurd z.1 (by decide)⟩)
  have hL6 : ∀ (c i : Nat), i + 1 + c = m → fX12_briefest_L6 k (c + 1) (Int32.ofNat r) (Int32.ofNat f) (Int32.ofNat m) (Int32.ofNat br) (Int32.ofNat (zminL (i + 1) (zSp (bIt B r) br f m) m)) (Int32.ofNat (i + 1)) w := by
    intro c
    induction c with
    | zero =>
      intro i hi
      have e : i + 1 = m := by omega
      rw [fX12_briefest_L6]
      try dsimp only
      refine ⟨fun _ => ⟨m - 1 + 1, ?_⟩, fun q => absurd ((zi_le (by omega) (by omega)).mpr (by omega)) q⟩
      rw [e]
      have h0 := hL63 (m - 1) 0 (by omega)
      rw [zminL_1 (by omega)] at h0
      exact h0
    | succ c ih =>
      intro i hi
      have ih' := ih (i + 1) (by omega)
      have hacc := zminL_le (i + 1) (zSp (bIt B r) br f m) m
      rw [zminL_S (show 1 ≤ i + 1 by omega)] at ih'
      generalize zminL (i + 1) (zSp (bIt B r) br f m) m = acc at ih' hacc ⊢
      rw [fX12_briefest_L6]
      try dsimp only
      refine ⟨fun q => absurd ((zi_le (by omega) (by omega)).mp q) (by omega), fun _ => ?_⟩
      refine q12_tokensOf (by omega) ht (by omega) (by omega) (Or.inl (by omega)) hb ?_
      rw [zi_add, zi_sub (by omega)]
      refine q12_tokensOf (by omega) ht (by omega) (by omega) (Or.inl (by omega)) hb ?_
      rw [zi_add]
      intro v14 e14
      rw [e14]
      intro v15 e15
      have a1 := zT_le (bIt B r) br f (i + 1)
      have a2 := zT_le (bIt B r) br (f + (i + 1)) (m - (i + 1))
      have e : v15 = Int32.ofNat (zmin acc (zSp (bIt B r) br f m (i + 1))) := by
        rw [zSp]
        have a3 : zT (bIt B r) br f (i + 1) + zT (bIt B r) br (f + (i + 1)) (m - (i + 1)) < 200 := by omega
        generalize zT (bIt B r) br f (i + 1) + zT (bIt B r) br (f + (i + 1)) (m - (i + 1)) = t at e15 a3 ⊢
        rw [e15]
        by_cases y : acc ≤ t
        · rw [if_pos ((zi_le (by omega) (by omega)).mpr y), zmin_self y]
        · rw [if_neg (fun z => y ((zi_le (by omega) (by omega)).mp z)), zmin, if_pos (by omega)]
      rw [e, zl1, zi_add]
      exact ih'
  rw [fX12_briefest]
  refine ⟨m - 1 + 1, ?_⟩
  have h0 := hL6 (m - 1) 0 (by omega)
  rw [zminL_1 (by omega)] at h0
  exact h0
theorem zInv_241 {B : zBk} {S : Nat → Int32} {N : zNt} {b nn : Nat} {w : zW} (h : zInv B S N b nn w) (g : Nat → Int32) : zInv B S N b nn (aI w 241 g) :=
  zInv_of h (fun a c hz => gI_aI_ne (by unfold zkeep at hz; omega) _ _ _) rfl
theorem q12_briefOf {B : zBk} {S : Nat → Int32} {N : zNt} {b nn r : Nat} {w : zW} {k : Int32 → zW → Prop} (h : zInv B S N b nn w) (hr : r < bR B) (hk : ∀ u, zInv B S N b nn u → zfl w u → k (Int32.ofNat (zBrf B r)) u) : fX12_briefOf (Int32.ofNat r) w k := by
  have hwf := iv_wf h
  have h60 := wf_Ln hwf hr
  have h8 := wf_R hwf
  have hl1 := wf_Ln1 hwf hr
  have hrb : ∀ g, zRB B (aI w 241 g) := fun g => iv_rb (zInv_241 h g)
  have hput : ∀ (m f : Nat) (g : Nat → Int32) (x : Int32), 1 ≤ m → ztbl (bIt B r) (bLn B r) m f (aI w 241 g) → ztbl (bIt B r) (bLn B r) m f (aI w 241 (fun j => if j = zat f m then x else g j)) := by
    intro m f g x hm ht m2 f2 a1 a2 a3
    have := ht m2 f2 a1 a2 a3
    rw [gI_aI_eq] at this ⊢
    rw [if_neg (fun z => by have := zat_inj a1 hm z; omega)]
    exact this
  have hL38 : ∀ (g2 : Int32 → Int32 → zW → Prop) (g13 : Int32 → Int32 → Int32 → zW → Prop) (m f : Nat), 1 ≤ m → f + m ≤ bLn B r → (∀ g, ztbl (bIt B r) (bLn B r) m (f + 1) (aI w 241 g) → g13 (Int32.ofNat r) (Int32.ofNat m) (Int32.ofNat (f + 1)) (aI w 241 g)) → ∀ (c br : Nat) (g : Nat → Int32), br + c = 4 → ztbl (bIt B r) (bLn B r) m f (aI w 241 g) → g (zat f m) = Int32.ofNat (zPk (bIt B r) br f m) → fX12_briefOf_L38 k g2 g13 (c + 1) (Int32.ofNat r) (Int32.ofNat m) (Int32.ofNat f) (Int32.ofNat br) (aI w 241 g) := by
    intro g2 g13 m f h1 h2 hnext c
    have hl := zat_lt h1 (show f + m ≤ 60 by omega)
    induction c with
    | zero =>
      intro br g hc ht hg
      rw [fX12_briefOf_L38]
      try dsimp only
      refine ⟨fun _ => ?_, fun q => absurd ((zi_le (a := 4) (by decide) (by omega)).mpr (by omega)) q⟩
      rw [zl1, zi_add]
      refine hnext g (fun m2 f2 a1 a2 a3 => ?_)
      by_cases e : m2 = m ∧ f2 = f
      · rw [e.1, e.2, gI_aI_eq, hg, show br = 4 by omega]
      · exact ht m2 f2 a1 a2 (by omega)
    | succ c ih =>
      intro br g hc ht hg
      rw [fX12_briefOf_L38]
      try dsimp only
      refine ⟨fun q => absurd ((zi_le (a := 4) (by decide) (by omega)).mp q) (by omega), fun _ => ?_⟩
      refine q12_partAt h1 (by omega) ⟨zi_in hl (by omega), ?_⟩
      refine q12_briefest hwf (hrb g) hr rfl ht h1 h2 (by omega) ?_
      intro w14 e14
      have hp := zPk_lt (bIt B r) br f m (by omega)
      have hT := zT_le (bIt B r) br f m
      rw [zi_nat (show zat f m < 2 ^ 31 by omega), gI_aI_eq, hg, zl6, zi_mul, zi_shl6 (by omega) (by omega), zi_or, zi_or6 hp, sI_aI] at e14
      rw [e14, zl1, zi_add]
      refine ih (br + 1) _ (by omega) (hput m f g _ h1 ht) ?_
      rw [if_pos rfl, zPk_S]
  have hL13 : ∀ (g2 : Int32 → Int32 → zW → Prop) (m : Nat), 1 ≤ m → m ≤ bLn B r → (∀ g, ztbl (bIt B r) (bLn B r) (m + 1) 0 (aI w 241 g) → g2 (Int32.ofNat r) (Int32.ofNat (m + 1)) (aI w 241 g)) → ∀ (c f : Nat) (g : Nat → Int32), f + c = bLn B r - m + 1 → ztbl (bIt B r) (bLn B r) m f (aI w 241 g) → fX12_briefOf_L13 k g2 (c + 1) (Int32.ofNat r) (Int32.ofNat m) (Int32.ofNat f) (aI w 241 g) := by
    intro g2 m h1 h2 hnext c
    induction c with
    | zero =>
      intro f g hc ht
      rw [fX12_briefOf_L13]
      try dsimp only
      refine q12_longOf hwf (hrb g) hr ?_
      rw [zi_add]
      refine ⟨fun _ => ?_, fun q => absurd ((zi_lt (by omega) (by omega)).mpr (by omega)) q⟩
      rw [zl1, zi_add]
      exact hnext g (fun m2 f2 a1 a2 a3 => ht m2 f2 a1 a2 (by omega))
    | succ c ih =>
      intro f g hc ht
      have hl := zat_lt h1 (show f + m ≤ 60 by omega)
      rw [fX12_briefOf_L13]
      try dsimp only
      refine q12_longOf hwf (hrb g) hr ?_
      rw [zi_add]
      refine ⟨fun q => absurd ((zi_lt (by omega) (by omega)).mp q) (by omega), fun _ => ?_⟩
      refine q12_partAt h1 (by omega) ⟨zi_in hl (by omega), ?_⟩
      intro w9 e9
      rw [zi_nat (show zat f m < 2 ^ 31 by omega), sI_aI] at e9
      rw [e9]
      refine ⟨4 + 1, hL38 g2 _ m f h1 (by omega) (fun g' ht' => ih (f + 1) g' (by omega) ht') 4 0 _ (by omega) (hput m f g _ h1 ht) ?_⟩
      rw [if_pos rfl, zPk_0]
      rfl
  have hL2 : ∀ (c m : Nat) (g : Nat → Int32), m + c = bLn B r + 1 → 1 ≤ m → ztbl (bIt B r) (bLn B r) m 0 (aI w 241 g) → fX12_briefOf_L2 k (c + 1) (Int32.ofNat r) (Int32.ofNat m) (aI w 241 g) := by
    intro c
    induction c with
    | zero =>
      intro m g hc h1 ht
      rw [fX12_briefOf_L2]
      try dsimp only
      refine q12_longOf hwf (hrb g) hr ⟨fun _ => ?_, fun q => absurd ((zi_lt (by omega) (by omega)).mpr (by omega)) q⟩
      refine q12_longOf hwf (hrb g) hr ?_
      refine q12_tokensOf (f2 := 0) (br := 3) h60 ht hl1 (by omega) (Or.inl (by omega)) (by omega) ?_
      rw [← zBrf_eq]
      exact hk _ (zInv_241 h g) ⟨gI_aI_ne (by decide) _ _ _, rfl⟩
    | succ c ih =>
      intro m g hc h1 ht
      rw [fX12_briefOf_L2]
      try dsimp only
      refine q12_longOf hwf (hrb g) hr ⟨fun q => absurd ((zi_lt (by omega) (by omega)).mp q) (by omega), fun _ => ?_⟩
      exact ⟨bLn B r - m + 1 + 1, hL13 _ m h1 (by omega) (fun g' ht' => ih (m + 1) g' (by omega) (by omega) ht') (bLn B r - m + 1) 0 g (by omega) ht⟩
  rw [fX12_briefOf]
  have h0 := hL2 (bLn B r) 1 (fun j => gI w 241 j) (by omega) (by omega) (fun m2 f2 a1 a2 a3 => by omega)
  rw [aI_gI] at h0
  exact ⟨_, h0⟩

/-! Level 2: what rules are worth, on both sides -/
def zwk (c : Nat) (a b : Int32) : Int32 := if c = 4 then a + b else if c = 5 then a - b else if c = 6 then a * b else if c = 7 then (if b ≤ a then 0 else 1) else if c = 8 then (if ¬ a = b then 0 else 1) else if c = 9 then (if a = 0 then 0 else (if b = 0 then 0 else 1)) else (if ¬ a = 0 then 1 else (if b = 0 then 0 else 1))
def zpu (st : Nat → Int32) (i : Nat) (x : Int32) (p : Nat) : Int32 := if p = i then x else st p
def zps1 (F : Nat → Int32) (c : Nat) (q : Nat × (Nat → Int32)) : Nat × (Nat → Int32) :=
  if c % 16 = 1 then (q.1 + 1, zpu q.2 q.1 (Int32.ofNat (c / 16))) else if c % 16 = 2 then (q.1 + 1, zpu q.2 q.1 (F (c / 16))) else if c % 16 = 3 then (q.1, zpu q.2 (q.1 - 1) (if ¬ q.2 (q.1 - 1) = 0 then 0 else 1)) else (q.1 - 1, zpu q.2 (q.1 - 2) (zwk c (q.2 (q.1 - 2)) (q.2 (q.1 - 1))))
def zvr (F : Nat → Int32) (g : Nat → Nat) : Nat → Nat × (Nat → Int32)
  | 0 => (0, fun _ => 0)
  | k + 1 => zps1 F (g k) (zvr F g k)
theorem zps1_h (F : Nat → Int32) {c h : Nat} {q : Nat × (Nat → Int32)} (h1 : zh1 c q.1 = some h) : (zps1 F c q).1 = h := by
  unfold zh1 at h1
  unfold zps1
  by_cases e1 : c % 16 = 1
  · rw [if_pos (Or.inl e1)] at h1
    rw [if_pos e1]
    by_cases e : q.1 < 32
    · rw [if_pos e] at h1; exact Option.some.inj h1
    · rw [if_neg e] at h1; cases h1
  · by_cases e2 : c % 16 = 2
    · rw [if_pos (Or.inr e2)] at h1
      rw [if_neg e1, if_pos e2]
      by_cases e : q.1 < 32
      · rw [if_pos e] at h1; exact Option.some.inj h1
      · rw [if_neg e] at h1; cases h1
    · rw [if_neg (by omega)] at h1
      rw [if_neg e1, if_neg e2]
      by_cases e3 : c % 16 = 3
      · rw [if_pos e3] at h1 ⊢
        by_cases e : 1 ≤ q.1
        · rw [if_pos e] at h1; exact Option.some.inj h1
        · rw [if_neg e] at h1; cases h1
      · rw [if_neg e3] at h1 ⊢
        by_cases e : 2 ≤ q.1
        · rw [if_pos e] at h1; exact Option.some.inj h1
        · rw [if_neg e] at h1; cases h1
/-- the heights on the way -/
theorem zvr_h (F : Nat → Int32) {g : Nat → Nat} : ∀ {N h : Nat}, zht g 0 N 0 = some h → (zvr F g N).1 = h ∧ ∀ k, k < N → ∃ y, zh1 (g k) (zvr F g k).1 = some y ∧ (zvr F g (k + 1)).1 = y := by
  intro N
  induction N with
  | zero => intro h e; exact ⟨Option.some.inj e, fun k hk => absurd hk (Nat.not_lt_zero k)⟩
  | succ N ih =>
    intro h e
    rw [zht] at e
    cases e2 : zht g 0 N 0 with
    | none => rw [e2] at e; cases e
    | some y =>
      obtain ⟨a, b⟩ := ih e2
      rw [e2] at e
      have e' : zh1 (g (0 + N)) y = some h := e
      rw [Nat.zero_add, ← a] at e'
      have e3 := zps1_h F e'
      refine ⟨e3, fun k hk => ?_⟩
      by_cases q : k = N
      · rw [q]; exact ⟨h, e', e3⟩
      · exact b k (by omega)
theorem zh1_push {c h y : Nat} (e : zh1 c h = some y) (hc : c % 16 = 1 ∨ c % 16 = 2) : h < 32 := by
  rw [zh1, if_pos hc] at e
  by_cases q : h < 32
  · exact q
  · rw [if_neg q] at e; cases e
theorem zh1_not {c h y : Nat} (e : zh1 c h = some y) (hc : c = 3) : 1 ≤ h ∧ y = h := by
  rw [zh1, if_neg (by omega), if_pos (by omega)] at e
  by_cases q : 1 ≤ h
  · rw [if_pos q] at e; exact ⟨q, (Option.some.inj e).symm⟩
  · rw [if_neg q] at e; cases e
theorem zh1_bin {c h y : Nat} (e : zh1 c h = some y) (hc : 4 ≤ c ∧ c ≤ 10) : 2 ≤ h ∧ y = h - 1 := by
  rw [zh1, if_neg (by omega), if_neg (by omega)] at e
  by_cases q : 2 ≤ h
  · rw [if_pos q] at e; exact ⟨q, (Option.some.inj e).symm⟩
  · rw [if_neg q] at e; cases e
theorem zh1_le {c h y : Nat} (e : zh1 c h = some y) (hh : h ≤ 32) (hc : zcok c) : y ≤ 32 := by
  rcases hc with q | q | q
  · have := zh1_push e (Or.inl q.1)
    rw [zh1, if_pos (Or.inl q.1), if_pos this] at e
    have := Option.some.inj e; omega
  · have := zh1_push e (Or.inr q.1)
    rw [zh1, if_pos (Or.inr q.1), if_pos this] at e
    have := Option.some.inj e; omega
  · by_cases e3 : c = 3
    · have := zh1_not e e3; omega
    · have := zh1_bin e ⟨by omega, q.2⟩; omega
theorem zvr_le (F : Nat → Int32) {g : Nat → Nat} {N h : Nat} (hz : zht g 0 N 0 = some h) (hc : ∀ i, i < N → zcok (g i)) : ∀ k, k ≤ N → (zvr F g k).1 ≤ 32 := by
  intro k
  induction k with
  | zero => intro _; exact Nat.zero_le _
  | succ k ih =>
    intro hk
    obtain ⟨y, y1, y2⟩ := (zvr_h F hz).2 k (by omega)
    rw [y2]
    exact zh1_le y1 (ih (by omega)) (hc k (by omega))
/-- only the pile changes -/
def zfV (a : Nat) (w v : zW) : Prop := (∀ b c, b ≠ a → gI v b c = gI w b c) ∧ v.2 = w.2
theorem zfV_s {a : Nat} {w v : zW} (h : zfV a w v) (c : Nat) (x : Int32) : zfV a w (sI v a c x) := ⟨fun b d q => by rw [gI_sI_ne q]; exact h.1 b d q, h.2⟩
theorem zfactF : ∀ a : Fin 4, ((16 : Int32) - Int32.ofNat (a.val + 17) ≤ -5 ↔ False) ∧ ((16 : Int32) - Int32.ofNat (a.val + 17) < 0) ∧ ((16 : Int32) - Int32.ofNat (a.val + 17) = -3 ↔ a.val = 2) ∧ ((16 : Int32) - Int32.ofNat (a.val + 17) = -2 ↔ a.val = 1) ∧ ((16 : Int32) - Int32.ofNat (a.val + 17) = -1 ↔ a.val = 0) := by decide +kernel
theorem q7_fact {a : Nat} {x1 x2 x3 x4 : Int32} {F : Nat → Int32} {w : zW} {k : Int32 → zW → Prop} (ha : a < 4) (h1 : F 0 = x1) (h2 : F 1 = x2) (h3 : F 2 = x3) (h4 : F 3 = x4) (hk : k (F a) w) : fX7_fact ((16 : Int32) - Int32.ofNat (a + 17)) x1 x2 x3 x4 w k := by
  obtain ⟨-, -, z3, z2, z1⟩ := zfactF ⟨a, ha⟩
  rw [fX7_fact]
  intro sv e
  rw [e]
  refine ⟨fun q => ?_, fun q => ⟨fun q2 => ?_, fun q2 => ⟨fun q3 => ?_, fun q3 => ?_⟩⟩⟩
  · rw [← h3, ← show a = 2 from z3.mp q]; exact hk
  · rw [← h2, ← show a = 1 from z2.mp q2]; exact hk
  · rw [← h1, ← show a = 0 from z1.mp q3]; exact hk
  · have a3 : ¬ a = 2 := fun y => q (z3.mpr y)
    have a2 : ¬ a = 1 := fun y => q2 (z2.mpr y)
    have a1 : ¬ a = 0 := fun y => q3 (z1.mpr y)
    rw [← h4, ← show a = 3 by omega]; exact hk
theorem q7_join {c : Nat} {a b : Int32} {w : zW} {k : Int32 → zW → Prop} (hc : 4 ≤ c ∧ c ≤ 10) (hk : k (zwk c a b) w) : fX7_join (zstp c) a b w k := by
  rw [fX7_join]
  intro sv e
  rw [e]
  rcases (show c = 4 ∨ c = 5 ∨ c = 6 ∨ c = 7 ∨ c = 8 ∨ c = 9 ∨ c = 10 by omega) with h | h | h | h | h | h | h <;> subst h
  · exact ⟨fun q => absurd q (by decide), fun _ => ⟨fun _ => hk, fun q => absurd (by decide) q⟩⟩
  · exact ⟨fun _ => hk, fun q => absurd (by decide) q⟩
  · exact ⟨fun q => absurd q (by decide), fun _ => ⟨fun q => absurd q (by decide), fun _ => ⟨fun q => absurd q (by decide), fun _ => ⟨fun q => absurd q (by decide), fun _ => ⟨fun q => absurd q (by decide), fun _ => ⟨fun q => absurd q (by decide), fun _ => hk⟩⟩⟩⟩⟩⟩
  · exact ⟨fun q => absurd q (by decide), fun _ => ⟨fun q => absurd q (by decide), fun _ => ⟨fun q => absurd q (by decide), fun _ => ⟨fun _ v7 e7 => by rw [e7]; exact hk, fun q => absurd (by decide) q⟩⟩⟩⟩
  · exact ⟨fun q => absurd q (by decide), fun _ => ⟨fun q => absurd q (by decide), fun _ => ⟨fun _ v7 e7 => by rw [e7]; exact hk, fun q => absurd (by decide) q⟩⟩⟩
  · exact ⟨fun q => absurd q (by decide), fun _ => ⟨fun q => absurd q (by decide), fun _ => ⟨fun q => absurd q (by decide), fun _ => ⟨fun q => absurd q (by decide), fun _ => ⟨fun q => absurd q (by decide), fun _ => ⟨fun _ v7 e7 => by rw [e7]; exact hk, fun q => absurd (by decide) q⟩⟩⟩⟩⟩⟩
  · exact ⟨fun q => absurd q (by decide), fun _ => ⟨fun q => absurd q (by decide), fun _ => ⟨fun q => absurd q (by decide), fun _ => ⟨fun q => absurd q (by decide), fun _ => ⟨fun _ v7 e7 => by rw [e7]; exact hk, fun q => absurd (by decide) q⟩⟩⟩⟩⟩
theorem q12_worked {c : Nat} {a b : Int32} {w : zW} {k : Int32 → zW → Prop} (hc : 4 ≤ c ∧ c ≤ 10) (hk : k (zwk c a b) w) : fX12_worked (Int32.ofNat c) a b w k := by
  rw [fX12_worked]
  intro sv e
  rw [e]
  rcases (show c = 4 ∨ c = 5 ∨ c = 6 ∨ c = 7 ∨ c = 8 ∨ c = 9 ∨ c = 10 by omega) with h | h | h | h | h | h | h <;> subst h
  · exact ⟨fun _ => hk, fun q => absurd (by decide) q⟩
  · exact ⟨fun q => absurd q (by decide), fun _ => ⟨fun _ => hk, fun q => absurd (by decide) q⟩⟩
  · exact ⟨fun q => absurd q (by decide), fun _ => ⟨fun q => absurd q (by decide), fun _ => ⟨fun _ => hk, fun q => absurd (by decide) q⟩⟩⟩
  · exact ⟨fun q => absurd q (by decide), fun _ => ⟨fun q => absurd q (by decide), fun _ => ⟨fun q => absurd q (by decide), fun _ => ⟨fun _ v7 e7 => by rw [e7]; exact hk, fun q => absurd (by decide) q⟩⟩⟩⟩
  · exact ⟨fun q => absurd q (by decide), fun _ => ⟨fun q => absurd q (by decide), fun _ => ⟨fun q => absurd q (by decide), fun _ => ⟨fun q => absurd q (by decide), fun _ => ⟨fun _ v7 e7 => by rw [e7]; exact hk, fun q => absurd (by decide) q⟩⟩⟩⟩⟩
  · exact ⟨fun q => absurd q (by decide), fun _ => ⟨fun q => absurd q (by decide), fun _ => ⟨fun q => absurd q (by decide), fun _ => ⟨fun q => absurd q (by decide), fun _ => ⟨fun q => absurd q (by decide), fun _ => ⟨fun _ v7 e7 => by rw [e7]; exact hk, fun q => absurd (by decide) q⟩⟩⟩⟩⟩⟩
  · exact ⟨fun q => absurd q (by decide), fun _ => ⟨fun q => absurd q (by decide), fun _ => ⟨fun q => absurd q (by decide), fun _ => ⟨fun q => absurd q (by decide), fun _ => ⟨fun q => absurd q (by decide), fun _ => ⟨fun q => absurd q (by decide), fun _ v7 e7 => by rw [e7]; exact hk⟩⟩⟩⟩⟩⟩
theorem zstp_b {c : Nat} (h : 4 ≤ c ∧ c ≤ 10) : zstp c ≤ -5 ∧ ¬ zstp c = -5 := by
  rcases (show c = 4 ∨ c = 5 ∨ c = 6 ∨ c = 7 ∨ c = 8 ∨ c = 9 ∨ c = 10 by omega) with h | h | h | h | h | h | h <;> subst h <;> decide
theorem q7_value {N : Nat} {g : Nat → Nat} {F : Nat → Int32} {x1 x2 x3 x4 : Int32} {w : zW} {k : Int32 → zW → Prop} (hn : gI w 6 3 = Int32.ofNat N) (hN : N ≤ 1000) (hs : ∀ i, i < N → gI w 7 i = zstp (g i)) (hc : ∀ i, i < N → zcok (g i)) (hz : zht g 0 N 0 = some 1)
    (h1 : F 0 = x1) (h2 : F 1 = x2) (h3 : F 2 = x3) (h4 : F 3 = x4) (hk : ∀ v, zfV 8 w v → k ((zvr F g N).2 0) v) : fX7_value x1 x2 x3 x4 w k := by
  have hle := zvr_le F hz hc
  have hst := (zvr_h F hz).2
  have hgo : ∀ (d i : Nat) (v : zW), i + d = N → zfV 8 w v → (∀ p, p < (zvr F g i).1 → gI v 8 p = (zvr F g i).2 p) → fX7_value_L6 k (d + 1) x1 x2 x3 x4 (Int32.ofNat (zvr F g i).1) (Int32.ofNat i) v := by
    intro d
    induction d with
    | zero =>
      intro i v hi fv hp
      have e : i = N := by omega
      subst e
      rw [fX7_value_L6]
      try dsimp only
      rw [fv.1 6 3 (by decide), hn]
      refine ⟨fun _ => ?_, fun q => absurd ((zi_le (by omega) (by omega)).mpr (Nat.le_refl _)) q⟩
      rw [fX7_value_J202]
      have e1 := (zvr_h F hz).1
      have e0 := hp 0 (by omega)
      rw [show ((0 : Int32).toNatClampNeg) = 0 from rfl, e0]
      exact hk v fv
    | succ d ih =>
      intro i v hi fv hp
      have hiN : i < N := by omega
      have hli := hle i (by omega)
      have ih' := ih (i + 1)
      obtain ⟨y, y1, y2⟩ := hst i hiN
      have hci := hc i hiN
      have hz1 : zvr F g (i + 1) = zps1 F (g i) (zvr F g i) := rfl
      generalize hq : zvr F g i = q at *
      rw [hz1] at ih'
      rw [fX7_value_L6]
      try dsimp only
      rw [fv.1 6 3 (by decide), hn, zi_nat (show i < 2 ^ 31 by omega), fv.1 7 i (by decide), hs i hiN]
      refine ⟨fun z => absurd ((zi_le (by omega) (by omega)).mp z) (by omega), fun _ => ⟨fun z => absurd ((zi_le (a := 1000) (by decide) (by omega)).mp z) (by omega), fun _ => ⟨zi_in (by omega) (by omega), ?_⟩⟩⟩
      intro v4 e4
      rw [e4]
      -- a value on the pile
      have hput : ∀ x : Int32, q.1 < 32 → zps1 F (g i) q = (q.1 + 1, zpu q.2 q.1 x) → fX7_value_J84 k (fX7_value_L6 k (d + 1)) x1 x2 x3 x4 (Int32.ofNat q.1) (Int32.ofNat i) x (Int32.ofNat q.1) v := by
        intro x hq32 hx
        rw [fX7_value_J84, zi_nat (show q.1 < 2 ^ 31 by omega)]
        refine ⟨zi_in hq32 (by omega), ?_⟩
        intro w24 e24
        rw [zl1, zi_add, zi_add]
        rw [hx] at ih'
        refine ih' w24 (by omega) (by rw [e24]; exact zfV_s fv _ _) (fun p hp1 => ?_)
        have hp1' : p < q.1 + 1 := hp1
        rw [e24]
        show _ = if p = q.1 then x else q.2 p
        by_cases z : p = q.1
        · rw [if_pos z, z, gI_sI_eq]
        · rw [if_neg z, gI_sI_ne2 z]; exact hp p (by omega)
      rcases hci with hc1 | hc2 | hc3
      · have hq32 := zh1_push y1 (Or.inl hc1.1)
        have ez : zstp (g i) = Int32.ofNat (g i / 16) := by rw [zstp, if_pos hc1.1]
        rw [ez]
        refine ⟨fun z => absurd (Int32.lt_of_le_of_lt z (by decide : (-5 : Int32) < 0)) (zi_0le (by omega)), fun _ => ⟨fun z => absurd z (zi_0le (by omega)), fun _ => ⟨fun _ => ⟨fun z => absurd z (zi_0le (by omega)), fun _ => hput _ hq32 ?_⟩, fun z => absurd ((zi_lt (b := 32) (by omega) (by decide)).mpr hq32) z⟩⟩⟩
        rw [zps1, if_pos hc1.1]
      · have hq32 := zh1_push y1 (Or.inr hc2.1)
        have ez : zstp (g i) = (16 : Int32) - Int32.ofNat (g i / 16 + 17) := by rw [zstp, if_neg (by omega), if_pos hc2.1]
        obtain ⟨z1, z2, -⟩ := zfactF ⟨g i / 16, hc2.2⟩
        rw [ez]
        refine ⟨fun z => absurd (z1.mp z) not_false, fun _ => ⟨fun z => absurd z (zi_0le (by omega)), fun _ => ⟨fun _ => ⟨fun _ => q7_fact hc2.2 h1 h2 h3 h4 (hput _ hq32 ?_), fun z => absurd z2 z⟩, fun z => absurd ((zi_lt (b := 32) (by omega) (by decide)).mpr hq32) z⟩⟩⟩
        rw [zps1, if_neg (by omega), if_pos hc2.1]
      · by_cases hc0 : g i = 3
        · obtain ⟨b1, b2⟩ := zh1_not y1 hc0
          have ex : zps1 F (g i) q = (q.1, zpu q.2 (q.1 - 1) (if ¬ q.2 (q.1 - 1) = 0 then 0 else 1)) := by rw [zps1, if_neg (by omega), if_neg (by omega), if_pos (by omega)]
          rw [hc0, show zstp 3 = -5 from by decide]
          refine ⟨fun _ => ⟨fun z => absurd rfl z, fun _ => ⟨fun z => absurd ((zi_lt (b := 1) (by omega) (by decide)).mp z) (by omega), fun _ => ⟨fun _ => ?_, fun z => absurd ((zi_le (b := 32) (by omega) (by decide)).mpr hli) z⟩⟩⟩, fun z => absurd (by decide) z⟩
          rw [zl1, zi_sub b1, zi_nat (show q.1 - 1 < 2 ^ 31 by omega), hp (q.1 - 1) (by omega)]
          refine ⟨zi_in (by omega) (by omega), ?_⟩
          intro v16 e16
          rw [fX7_value_J141, zi_nat (show q.1 - 1 < 2 ^ 31 by omega)]
          refine ⟨zi_in (by omega) (by omega), ?_⟩
          intro w18 e18
          rw [zl1, zi_add]
          rw [ex] at ih'
          refine ih' w18 (by omega) (by rw [e18]; exact zfV_s fv _ _) (fun p hp1 => ?_)
          have hp1' : p < q.1 := hp1
          rw [e18]
          show _ = if p = q.1 - 1 then (if ¬ q.2 (q.1 - 1) = 0 then (0 : Int32) else 1) else q.2 p
          by_cases z : p = q.1 - 1
          · rw [if_pos z, z, gI_sI_eq, e16]; rfl
          · rw [if_neg z, gI_sI_ne2 z]; exact hp p hp1'
        · have hb : 4 ≤ g i ∧ g i ≤ 10 := ⟨by omega, hc3.2⟩
          obtain ⟨b1, b2⟩ := zh1_bin y1 hb
          have ex : zps1 F (g i) q = (q.1 - 1, zpu q.2 (q.1 - 2) (zwk (g i) (q.2 (q.1 - 2)) (q.2 (q.1 - 1)))) := by rw [zps1, if_neg (by omega), if_neg (by omega), if_neg (by omega)]
          have em : Int32.ofNat q.1 + -1 = Int32.ofNat (q.1 - 1) := by
            rw [show (Int32.ofNat q.1 + -1 : Int32) = Int32.ofNat q.1 - 1 from (Int32.sub_eq_add_neg _ _).symm, zl1, zi_sub (by omega)]
          refine ⟨fun _ => ⟨fun _ => ⟨fun z => absurd ((zi_lt (b := 2) (by omega) (by decide)).mp z) (by omega), fun _ => ⟨fun _ => ?_, fun z => absurd ((zi_le (b := 32) (by omega) (by decide)).mpr hli) z⟩⟩, fun z => absurd z (zstp_b hb).2⟩, fun z => absurd (zstp_b hb).1 z⟩
          rw [em, zl1, zi_sub (show 1 ≤ q.1 - 1 by omega), zi_nat (show q.1 - 1 < 2 ^ 31 by omega), zi_nat (show q.1 - 1 - 1 < 2 ^ 31 by omega), hp (q.1 - 1) (by omega), hp (q.1 - 1 - 1) (by omega), show q.1 - 1 - 1 = q.1 - 2 by omega, zi_add]
          refine ⟨zi_in (by omega) (by omega), zi_in (by omega) (by omega), q7_join hb ?_⟩
          intro w12 e12
          rw [ex] at ih'
          refine ih' w12 (by omega) (by rw [e12]; exact zfV_s fv _ _) (fun p hp1 => ?_)
          have hp1' : p < q.1 - 1 := hp1
          rw [e12]
          show _ = if p = q.1 - 2 then zwk (g i) (q.2 (q.1 - 2)) (q.2 (q.1 - 1)) else q.2 p
          by_cases z : p = q.1 - 2
          · rw [if_pos z, z, gI_sI_eq]
          · rw [if_neg z, gI_sI_ne2 z]; exact hp p (by omega)
  rw [fX7_value]
  exact ⟨N + 1, hgo N 0 w (by omega) ⟨fun _ _ _ => rfl, rfl⟩ (fun p hp => absurd hp (Nat.not_lt_zero p))⟩
theorem q12_worthAt {N : Nat} {g : Nat → Nat} {F : Nat → Int32} {w : zW} {k : Int32 → zW → Prop} (hN : N ≤ 1000) (hs : ∀ i, i < N → gI w 212 i = Int32.ofNat (g i)) (h0 : gI w 212 N = Int32.ofNat 0) (hc : ∀ i, i < N → zcok (g i)) (hz : zht g 0 N 0 = some 1)
    (hF : ∀ a, a < 4 → gI w 218 a = F a) (hk : ∀ v, zfV 219 w v → k ((zvr F g N).2 0) v) : fX12_worthAt (Int32.ofNat 0) w k := by
  have hle := zvr_le F hz hc
  have hst := (zvr_h F hz).2
  have hgo : ∀ (d i : Nat) (v : zW), i + d = N → zfV 219 w v → (∀ p, p < (zvr F g i).1 → gI v 219 p = (zvr F g i).2 p) → fX12_worthAt_L4 k (d + 1) (Int32.ofNat (zvr F g i).1) (Int32.ofNat i) v := by
    intro d
    induction d with
    | zero =>
      intro i v hi fv hp
      have e : i = N := by omega
      subst e
      rw [fX12_worthAt_L4]
      try dsimp only
      rw [zi_nat (show i < 2 ^ 31 by omega), fv.1 212 i (by decide), h0]
      refine ⟨zi_in (by omega) (by omega), fun _ => ?_, fun q => absurd (by decide) q⟩
      have e1 := (zvr_h F hz).1
      have e0 := hp 0 (by omega)
      rw [show ((0 : Int32).toNatClampNeg) = 0 from rfl, e0]
      exact hk v fv
    | succ d ih =>
      intro i v hi fv hp
      have hiN : i < N := by omega
      have hli := hle i (by omega)
      have ih' := ih (i + 1)
      obtain ⟨y, y1, y2⟩ := hst i hiN
      have hci := hc i hiN
      have hz1 : zvr F g (i + 1) = zps1 F (g i) (zvr F g i) := rfl
      have hgb : g i < 160000 + 16 := by
        rcases hci with z | z | z <;> omega
      generalize hq : zvr F g i = q at *
      rw [hz1] at ih'
      have hg : gI v 212 i = Int32.ofNat (g i) := (fv.1 212 i (by decide)).trans (hs i hiN)
      have hmod : Int32.ofNat (g i) % 16 = Int32.ofNat (g i % 16) := by rw [zl16, zi_mod (by omega) (by decide)]
      have hdiv : Int32.ofNat (g i) / 16 = Int32.ofNat (g i / 16) := by rw [zl16, zi_div (by omega) (by decide)]
      have hput : ∀ x : Int32, q.1 < 32 → zps1 F (g i) q = (q.1 + 1, zpu q.2 q.1 x) → fX12_worthAt_J76 k (fX12_worthAt_L4 k (d + 1)) (Int32.ofNat q.1) (Int32.ofNat i) x (Int32.ofNat q.1) v := by
        intro x hq32 hx
        rw [fX12_worthAt_J76, zi_nat (show q.1 < 2 ^ 31 by omega)]
        refine ⟨zi_in (by omega) (by omega), ?_⟩
        intro w24 e24
        rw [zl1, zi_add, zi_add]
        rw [hx] at ih'
        refine ih' w24 (by omega) (by rw [e24]; exact zfV_s fv _ _) (fun p hp1 => ?_)
        have hp1' : p < q.1 + 1 := hp1
        rw [e24]
        show _ = if p = q.1 then x else q.2 p
        by_cases z : p = q.1
        · rw [if_pos z, z, gI_sI_eq]
        · rw [if_neg z, gI_sI_ne2 z]; exact hp p (by omega)
      rw [fX12_worthAt_L4]
      try dsimp only
      rw [zi_nat (show i < 2 ^ 31 by omega), hg, hmod]
      refine ⟨zi_in (by omega) (by omega), fun z => ?_, fun _ => ?_⟩
      · have := (zi_eq (b := 0) (by omega) (by decide)).mp z
        rcases hci with y | y | y <;> omega
      intro v3 e3
      rw [e3]
      rcases hci with hc1 | hc2 | hc3
      · have hq32 := zh1_push y1 (Or.inl hc1.1)
        rw [hc1.1]
        refine ⟨fun _ => ?_, fun z => absurd rfl z⟩
        rw [fX12_worthAt_J39, zi_nat (show i < 2 ^ 31 by omega), hg, hdiv]
        refine ⟨fun z => absurd rfl z, fun _ => ⟨zi_in (by omega) (by omega), hput _ hq32 ?_⟩⟩
        rw [zps1, if_pos hc1.1]
      · have hq32 := zh1_push y1 (Or.inr hc2.1)
        rw [hc2.1]
        refine ⟨fun z => absurd z (by decide), fun _ => ⟨fun z => absurd rfl z, fun _ => ?_⟩⟩
        rw [fX12_worthAt_J39, zi_nat (show i < 2 ^ 31 by omega), hg, hdiv, zi_nat (show g i / 16 < 2 ^ 31 by omega), fv.1 218 _ (by decide), hF _ hc2.2]
        refine ⟨fun _ => ⟨zi_in (by omega) (by omega), zi_in hc2.2 (by omega), hput _ hq32 ?_⟩, fun z => absurd z (by decide)⟩
        rw [zps1, if_neg (by omega), if_pos hc2.1]
      · have ec : g i % 16 = g i := by omega
        rw [ec]
        by_cases hc0 : g i = 3
        · obtain ⟨b1, b2⟩ := zh1_not y1 hc0
          have ex : zps1 F (g i) q = (q.1, zpu q.2 (q.1 - 1) (if ¬ q.2 (q.1 - 1) = 0 then 0 else 1)) := by rw [zps1, if_neg (by omega), if_neg (by omega), if_pos (by omega)]
          rw [hc0]
          refine ⟨fun z => absurd z (by decide), fun _ => ⟨fun _ => ⟨fun z => absurd rfl z, fun _ => ?_⟩, fun z => absurd z (by decide)⟩⟩
          rw [zl1, zi_sub b1, zi_nat (show q.1 - 1 < 2 ^ 31 by omega), hp (q.1 - 1) (by omega)]
          refine ⟨zi_in (by omega) (by omega), ?_⟩
          intro v16 e16
          rw [fX12_worthAt_J112, zi_nat (show q.1 - 1 < 2 ^ 31 by omega)]
          refine ⟨zi_in (by omega) (by omega), ?_⟩
          intro w18 e18
          rw [zl1, zi_add]
          rw [ex] at ih'
          refine ih' w18 (by omega) (by rw [e18]; exact zfV_s fv _ _) (fun p hp1 => ?_)
          have hp1' : p < q.1 := hp1
          rw [e18]
          show _ = if p = q.1 - 1 then (if ¬ q.2 (q.1 - 1) = 0 then (0 : Int32) else 1) else q.2 p
          by_cases z : p = q.1 - 1
          · rw [if_pos z, z, gI_sI_eq, e16]; rfl
          · rw [if_neg z, gI_sI_ne2 z]; exact hp p hp1'
        · have hb : 4 ≤ g i ∧ g i ≤ 10 := ⟨by omega, hc3.2⟩
          obtain ⟨b1, b2⟩ := zh1_bin y1 hb
          have ex : zps1 F (g i) q = (q.1 - 1, zpu q.2 (q.1 - 2) (zwk (g i) (q.2 (q.1 - 2)) (q.2 (q.1 - 1)))) := by rw [zps1, if_neg (by omega), if_neg (by omega), if_neg (by omega)]
          have em : Int32.ofNat q.1 + -1 = Int32.ofNat (q.1 - 1) := by
            rw [show (Int32.ofNat q.1 + -1 : Int32) = Int32.ofNat q.1 - 1 from (Int32.sub_eq_add_neg _ _).symm, zl1, zi_sub (by omega)]
          refine ⟨fun z => absurd ((zi_eq (b := 1) (by omega) (by decide)).mp z) (by omega), fun _ => ⟨fun _ => ⟨fun _ => ?_, fun z => absurd ((zi_eq (b := 3) (by omega) (by decide)).mp z) (by omega)⟩, fun z => absurd ((zi_eq (b := 2) (by omega) (by decide)).mp z) (by omega)⟩⟩
          rw [em, zl1, zi_sub (show 1 ≤ q.1 - 1 by omega), zi_nat (show q.1 - 1 < 2 ^ 31 by omega), zi_nat (show q.1 - 1 - 1 < 2 ^ 31 by omega), hp (q.1 - 1) (by omega), hp (q.1 - 1 - 1) (by omega), show q.1 - 1 - 1 = q.1 - 2 by omega, zi_add]
          refine ⟨zi_in (by omega) (by omega), zi_in (by omega) (by omega), q12_worked hb ?_⟩
          intro w12 e12
          rw [ex] at ih'
          refine ih' w12 (by omega) (by rw [e12]; exact zfV_s fv _ _) (fun p hp1 => ?_)
          have hp1' : p < q.1 - 1 := hp1
          rw [e12]
          show _ = if p = q.1 - 2 then zwk (g i) (q.2 (q.1 - 2)) (q.2 (q.1 - 1)) else q.2 p
          by_cases z : p = q.1 - 2
          · rw [if_pos z, z, gI_sI_eq]
          · rw [if_neg z, gI_sI_ne2 z]; exact hp p (by omega)
  rw [fX12_worthAt]
  exact ⟨N + 1, hgo N 0 w (by omega) ⟨fun _ _ _ => rfl, rfl⟩ (fun p hp => absurd hp (Nat.not_lt_zero p))⟩

/-! Level 2: the class's mendRow -/
theorem zand_pow (n t : Nat) : n &&& 2 ^ t = if n.testBit t = true then 2 ^ t else 0 := by
  apply Nat.eq_of_testBit_eq
  intro i
  rw [Nat.testBit_and, Nat.testBit_two_pow]
  by_cases e : t = i
  · subst e
    rw [decide_eq_true rfl, Bool.and_true]
    by_cases h : n.testBit t = true
    · rw [if_pos h, h, Nat.testBit_two_pow_self]
    · rw [if_neg h, eq_false_of_ne_true h, Nat.zero_testBit]
  · rw [decide_eq_false e, Bool.and_false]
    by_cases h : n.testBit t = true
    · rw [if_pos h, Nat.testBit_two_pow, decide_eq_false e]
    · rw [if_neg h, Nat.zero_testBit]
theorem zi_bitt {t : Nat} (ht : t < 16) (P : Nat → Bool) : (Int32.ofNat (zbits 16 P) &&& Int32.ofNat (2 ^ t) = 0) ↔ P t = false := by
  have h2 : 2 ^ t < 2 ^ 31 := Nat.pow_lt_pow_right (by omega) (by omega)
  have htb := zbits_tb 16 P t
  rw [decide_eq_true ht, Bool.true_and] at htb
  rw [zi_and, zand_pow, htb]
  cases hp : P t with
  | false => exact ⟨fun _ => rfl, fun _ => rfl⟩
  | true =>
    rw [if_pos rfl]
    refine ⟨fun h => ?_, fun h => absurd h (by decide)⟩
    have := (zi_eq (b := 0) h2 (by decide)).mp h
    have : 0 < 2 ^ t := Nat.two_pow_pos t
    omega
theorem zi_bits {t : Nat} (ht : t < 16) (P : Nat → Bool) : Int32.ofNat (zbits 16 P) ||| Int32.ofNat (2 ^ t) = Int32.ofNat (zbits 16 (fun i => P i || i == t)) := by
  rw [zi_or, zbits_or_one ht]
theorem q4_bit {o x : Nat} {w : zW} {k : Int32 → zW → Prop} (h : o * 4 + x < 31) (hk : k (Int32.ofNat (2 ^ (o * 4 + x))) w) : fX4_bit (Int32.ofNat o) (Int32.ofNat x) w k := by
  rw [fX4_bit, zl4, zi_mul, zi_add, zi_shl1 h]
  exact hk
theorem q8_mean {p o : Nat} {w : zW} {k : Int32 → zW → Prop} (hp : p < 2 ^ 31) (ho : o < 4) (hk : k (Int32.ofNat (zdg p o)) w) : fX8_meaningIn (Int32.ofNat p) (Int32.ofNat o) w k := by
  rw [fX8_meaningIn, zl4, zi_mul, zi_shr hp (by omega), zi_and15]
  exact hk
/-- what helps, of some dictionaries: as bits of a row -/
def zHg (B : zBk) (r j : Nat) : Bool := (decide (j / 4 < bW B) && decide (j % 4 < bW B)) && (decide (¬ j / 4 = j % 4) && decide (0 < bU B r (j / 4)))
def zHl (B : zBk) (S : Nat → Int32) (l : List Nat) (r j : Nat) : Bool := zHg B r j && (l.filter (zGu B S)).any (fun d => zMd B S r (j / 4) (j % 4) (zdm (bW B) d))
theorem zHl_app (B : zBk) (S : Nat → Int32) (l : List Nat) (d r j : Nat) : zHl B S (l ++ [d]) r j = (zHl B S l r j || (zHg B r j && (zGu B S d && zMd B S r (j / 4) (j % 4) (zdm (bW B) d)))) := by
  rw [zHl, zHl, List.filter_append, List.any_append, ← Bool.and_or_distrib_left]
  congr 2
  cases h : zGu B S d with
  | true => rw [List.filter_cons_of_pos h]; simp
  | false => rw [List.filter_cons_of_neg (by rw [h]; decide)]; rfl
theorem zHg_iff {B : zBk} {r j : Nat} : zHg B r j = true ↔ (j / 4 < bW B ∧ j % 4 < bW B) ∧ (¬ j / 4 = j % 4 ∧ 0 < bU B r (j / 4)) := by
  rw [zHg, Bool.and_eq_true, Bool.and_eq_true, Bool.and_eq_true, decide_eq_true_iff, decide_eq_true_iff, decide_eq_true_iff, decide_eq_true_iff]
def zRt (B : zBk) (S : Nat → Int32) (r L : Nat) (m : Nat → Nat) : Bool := decide ((S (4 + r) = zN1 ∨ S (4 + r) = Int32.ofNat L) ∧ (r + 1 < bR B → zTk B (r + 1) m = L))
theorem q4_isRight {B : zBk} {S : Nat → Int32} {b r L p : Nat} {m : Nat → Nat} {w : zW} {k : Int32 → zW → Prop} (hwf : zWF B) (hcb : zCB B b w) (hbb : b = 40 ∨ b = 80) (h6 : gR w 31 6 = b) (h7 : gR w 31 7 = 9) (hS : ∀ i, i < 12 → gI w (9 + 1) i = S i) (hr : r < bR B) (hL : L < 2 ^ 31) (hp : p < 2 ^ 31) (hm : ∀ o, o < bW B → zdg p o = m o) (hm9 : ∀ o, m o < 9)
    (hk : k (Int32.ofNat (zb2n (zRt B S r L m))) w) : fX4_isRight (Int32.ofNat r) (Int32.ofNat L) (Int32.ofNat p) w k := by
  have h8 := wf_R hwf
  have hT : zTk B (r + 1) (zdg p) = zTk B (r + 1) m := zsum_congr (fun o ho => by rw [hm o ho])
  have hTl : zTk B (r + 1) m ≤ 120 := zTk_le hwf _ _ m hm9
  rw [fX4_isRight, h7]
  refine ⟨by omega, ?_⟩
  refine q3_countOf (by omega) ?_
  rw [hS (4 + r) (by omega), h6, cb_R hcb, zl1, zi_add]
  refine ⟨by omega, ?_⟩
  intro v4 e4
  -- the next row
  have hJ : (S (4 + r) = zN1 ∨ S (4 + r) = Int32.ofNat L) → fX4_isRight_J50 k (Int32.ofNat r) (Int32.ofNat L) (Int32.ofNat p) v4 w := by
    intro hc
    rw [fX4_isRight_J50]
    by_cases hlast : r + 1 < bR B
    · have e : v4 = 0 := (e4.trans (if_neg (fun z => by have := (zi_le (by omega) (by omega)).mp z; omega))).trans (if_pos ((zi_lt (b := 8) (by omega) (by decide)).mpr (by omega)))
      rw [e, h6, zl1, zi_add]
      refine ⟨fun q => absurd rfl q, fun _ => ⟨by omega, ?_⟩⟩
      refine q0_takesOf hwf hcb hlast hp ?_
      rw [hT]
      intro v9 e9
      by_cases y : zTk B (r + 1) m = L
      · rw [e9.trans (if_neg (fun z => z (by rw [y])))]
        have e : zRt B S r L m = true := decide_eq_true ⟨hc, fun _ => y⟩
        rw [e] at hk
        exact ⟨Or.inr rfl, hk⟩
      · rw [e9.trans (if_pos (fun z => y ((zi_eq (by omega) hL).mp z)))]
        have e : zRt B S r L m = false := decide_eq_false (fun z => y (z.2 hlast))
        rw [e] at hk
        exact ⟨Or.inl rfl, hk⟩
    · have e : v4 = 1 := e4.trans (if_pos ((zi_le (by omega) (by omega)).mpr (by omega)))
      rw [e]
      refine ⟨fun _ => ?_, fun q => absurd q (by decide)⟩
      have e : zRt B S r L m = true := decide_eq_true ⟨hc, fun z => absurd z hlast⟩
      rw [e] at hk
      exact hk
  rw [fX4_isRight_J36]
  refine ⟨fun q => hJ (Or.inl q), fun q => ⟨fun q2 => ?_, fun q2 => hJ (Or.inr q2)⟩⟩
  have e : zRt B S r L m = false := decide_eq_false (fun z => by
    rcases z.1 with y | y
    · exact q y
    · exact q2 y)
  rw [e] at hk
  exact hk
theorem zi_up {a b c d : Nat} (ha : a + c < 2 ^ 31) (hb : b + d < 2 ^ 31) : ((Int32.ofNat a - Int32.ofNat b + Int32.ofNat c) - Int32.ofNat d = 0) ↔ a + c = b + d := by
  have h1 : ∀ a b c d : Int32, (a - b + c - d = 0) ↔ a + c = b + d := by
    intro a b c d
    constructor <;> intro h <;> grind
  rw [h1, zi_add, zi_add]
  exact zi_eq ha hb
theorem q4_mendRow {B : zBk} {S : Nat → Int32} {b r p d : Nat} {l : List Nat} {w : zW} {k : zW → Prop} (hwf : zWF B) (hcb : zCB B b w) (hbb : b = 40 ∨ b = 80) (h6 : gR w 31 6 = b) (h7 : gR w 31 7 = 9) (hS : ∀ i, i < 12 → gI w (9 + 1) i = S i) (hr : r < bR B) (hp : p < 2 ^ 31) (hm : ∀ o, o < bW B → zdg p o = zdm (bW B) d o)
    (hgu : zGu B S d = true) (hC1 : ∀ s, s < bR B → ¬ s = r → ¬ s = r + 1 → zTk B s (zdm (bW B) d) = zTh B s (zdm (bW B) d)) (hC2 : ∀ s, s < bR B → ¬ s = r → zOf B S (zdm (bW B) d) s = false)
    (hg : gI w 32 r = Int32.ofNat (zbits 16 (zHl B S l r)))
    (hk : ∀ v : zW, v.2 = w.2 → (∀ a c, ¬ (a = 32 ∧ c = r) → gI v a c = gI w a c) → gI v 32 r = Int32.ofNat (zbits 16 (zHl B S (l ++ [d]) r)) → k v) : fX4_mendRow (Int32.ofNat r) (Int32.ofNat p) w k := by
  have h8 := wf_R hwf
  have h4 := wf_W hwf
  have hm9 : ∀ o, zdm (bW B) d o < 9 := zdm_lt (bW B) d
  have eT : zTk B r (zdg p) = zTk B r (zdm (bW B) d) := zsum_congr (fun o ho => by rw [hm o ho])
  have eL : ∀ s, zLv B s (zdg p) = zLv B s (zdm (bW B) d) := fun s => zsum_congr (fun o ho => by rw [hm o ho])
  have eH : zTh B r (zdg p) = zTh B r (zdm (bW B) d) := by
    rw [zTh, zTh]
    by_cases e : r = 0
    · rw [if_pos e, if_pos e]
    · rw [if_neg e, if_neg e, eL]
  have bT : zTk B r (zdm (bW B) d) ≤ 120 := zTk_le hwf _ _ _ hm9
  have bL : zLv B r (zdm (bW B) d) ≤ 120 := zLv_le hwf _ _ _
  have bH := zTh_le hwf r (zdm (bW B) d)
  -- where the bits stand behind so many of them
  let P : Nat → Nat → Bool := fun t j => if j < t then zHl B S (l ++ [d]) r j else zHl B S l r j
  have hPS : ∀ t, zHl B S (l ++ [d]) r t = zHl B S l r t → ∀ j, P (t + 1) j = P t j := by
    intro t ht j
    show (if j < t + 1 then zHl B S (l ++ [d]) r j else zHl B S l r j) = (if j < t then zHl B S (l ++ [d]) r j else zHl B S l r j)
    by_cases e : j = t
    · rw [e, if_pos (by omega), if_neg (by omega), ht]
    · by_cases y : j < t
      · rw [if_pos (by omega), if_pos y]
      · rw [if_neg (by omega), if_neg y]
  have hPt : ∀ t, P t t = zHl B S l r t := fun t => if_neg (by omega)
  have hL45 : ∀ (g24 : Int32 → Int32 → Int32 → Int32 → Int32 → zW → Prop) (o : Nat), o < bW B → (∀ v : zW, v.2 = w.2 → (∀ a c, ¬ (a = 32 ∧ c = r) → gI v a c = gI w a c) → gI v 32 r = Int32.ofNat (zbits 16 (P (4 * (o + 1)))) → g24 (Int32.ofNat r) (Int32.ofNat p) (Int32.ofNat (zTk B r (zdm (bW B) d)) - Int32.ofNat (zTh B r (zdm (bW B) d))) (Int32.ofNat (zLv B r (zdm (bW B) d))) (Int32.ofNat (o + 1)) v) →
      ∀ (c x : Nat) (v : zW), x + c = bW B → v.2 = w.2 → (∀ a c, ¬ (a = 32 ∧ c = r) → gI v a c = gI w a c) → gI v 32 r = Int32.ofNat (zbits 16 (P (4 * o + x))) → fX4_mendRow_L45 k g24 (c + 1) (Int32.ofNat r) (Int32.ofNat p) (Int32.ofNat (zTk B r (zdm (bW B) d)) - Int32.ofNat (zTh B r (zdm (bW B) d))) (Int32.ofNat (zLv B r (zdm (bW B) d))) (Int32.ofNat o) (Int32.ofNat x) v := by
    intro g24 o ho hnext c
    induction c with
    | zero =>
      intro x v hx v2 vf vg
      have hR : gR v 31 6 = b := by rw [gR, v2]; exact h6
      rw [fX4_mendRow_L45]
      try dsimp only
      rw [hR, vf b 0 (by omega), cb_W hcb]
      refine ⟨by omega, fun _ => ?_, fun q => absurd ((zi_le (by omega) (by omega)).mpr (by omega)) q⟩
      rw [zl1, zi_add]
      refine hnext v v2 vf (vg.trans (congrArg _ (zbits_congr (fun j hj => ?_))))
      show (if j < 4 * o + x then zHl B S (l ++ [d]) r j else zHl B S l r j) = (if j < 4 * (o + 1) then zHl B S (l ++ [d]) r j else zHl B S l r j)
      by_cases y : j < 4 * o + x
      · rw [if_pos y, if_pos (by omega)]
      · rw [if_neg y]
        by_cases y2 : j < 4 * (o + 1)
        · have e0 : zHg B r j = false := eq_false_of_ne_true (fun z => by
            have := (zHg_iff.mp z).1.2
            omega)
          rw [if_pos y2, zHl, zHl, e0, Bool.false_and, Bool.false_and]
        · rw [if_neg y2]
    | succ c ih =>
      intro x v hx v2 vf vg
      have hR : gR v 31 6 = b := by rw [gR, v2]; exact h6
      have hR7 : gR v 31 7 = 9 := by rw [gR, v2]; exact h7
      have hdiv : (4 * o + x) / 4 = o := by omega
      have hmod : (4 * o + x) % 4 = x := by omega
      have hcbv : zCB B b v := zCB_of hcb (fun a k' q1 q2 => vf a k' (by omega)) hwf
      have hSv : ∀ i, i < 12 → gI v (9 + 1) i = S i := fun i hi => by rw [vf _ _ (by omega)]; exact hS i hi
      -- left as it is
      have hsame : zHl B S (l ++ [d]) r (4 * o + x) = zHl B S l r (4 * o + x) → fX4_mendRow_L45 k g24 (c + 1) (Int32.ofNat r) (Int32.ofNat p) (Int32.ofNat (zTk B r (zdm (bW B) d)) - Int32.ofNat (zTh B r (zdm (bW B) d))) (Int32.ofNat (zLv B r (zdm (bW B) d))) (Int32.ofNat o) (Int32.ofNat x + 1) v := fun ht => by
        rw [zl1, zi_add]
        exact ih (x + 1) v (by omega) v2 vf (vg.trans (congrArg _ (zbits_congr (fun j _ => (hPS _ ht j).symm))))
      have hgf : zHg B r (4 * o + x) = false → zHl B S (l ++ [d]) r (4 * o + x) = zHl B S l r (4 * o + x) := fun z => by
        rw [zHl_app, z, Bool.false_and, Bool.or_false]
      have hu60 := wf_U60 hwf r o
      rw [fX4_mendRow_L45]
      try dsimp only
      rw [hR, vf b 0 (by omega), cb_W hcb, zi_nat (show r < 2 ^ 31 by omega), zi_nat (show o < 2 ^ 31 by omega), vf (b + 20 + 1 + r) o (by omega), cb_U hcb hr (by omega), vg]
      refine ⟨by omega, fun q => absurd ((zi_le (by omega) (by omega)).mp q) (by omega), fun _ => ⟨fun q => absurd ((zi_le (a := 4) (by decide) (by omega)).mp q) (by omega), fun _ => ⟨fun q => ?_, fun q => ⟨zi_in (by omega) (by omega), zi_in (by omega) (by omega), fun q2 => ?_, fun q2 => ?_⟩⟩⟩⟩
      · have e := (zi_eq (by omega) (by omega)).mp q
        exact hsame (hgf (eq_false_of_ne_true (fun z => (zHg_iff.mp z).2.1 (by rw [hdiv, hmod]; exact e))))
      · have e := (zi_eq (b := 0) (by omega) (by decide)).mp q2
        exact hsame (hgf (eq_false_of_ne_true (fun z => by have := (zHg_iff.mp z).2.2; rw [hdiv] at this; omega)))
      · have hox : ¬ o = x := fun e => q (by rw [e])
        have hu : 0 < bU B r o := by
          by_cases y : bU B r o = 0
          · exact absurd (by rw [y]; rfl) q2
          · omega
        refine q4_bit (by omega) ?_
        rw [show o * 4 + x = 4 * o + x by omega]
        have hbt := zi_bitt (show 4 * o + x < 16 by omega) (P (4 * o + x))
        rw [hPt] at hbt
        refine ⟨fun q3 => ?_, fun q3 => ?_⟩
        · have hl0 := hbt.mp q3
          refine q8_mean hp (by omega) (q8_mean hp (by omega) ?_)
          rw [hm o ho, hm x (by omega), zl3, zi_mod (by have := hm9 x; omega) (by decide), zi_mod (by have := hm9 o; omega) (by decide), zi_div (by have := hm9 x; omega) (by decide), zi_div (by have := hm9 o; omega) (by decide), zi_add]
          have hiff := zMd_iff (S := S) (m := zdm (bW B) d) hr hox hu ho (show x < bW B by omega)
          have hg1 : zHg B r (4 * o + x) = true := zHg_iff.mpr (by rw [hdiv, hmod]; exact ⟨⟨ho, by omega⟩, hox, hu⟩)
          have happ := zHl_app B S l d r (4 * o + x)
          rw [hl0, hg1, hgu, hdiv, hmod, Bool.false_or, Bool.true_and, Bool.true_and] at happ
          have hno : zMd B S r o x (zdm (bW B) d) = false → zHl B S (l ++ [d]) r (4 * o + x) = zHl B S l r (4 * o + x) := fun z => by rw [happ, hl0, z]
          have hmx := hm9 x
          have hmo := hm9 o
          have a2 := zmis_Lv hox hu ho (show x < bW B by omega) (zdm (bW B) d)
          rw [zi_sub (by omega)]
          intro v19 e19 v20 e20
          rw [e19]
          rw [fX4_mendRow_J154]
          have hup := zi_up (a := zTk B r (zdm (bW B) d)) (b := zTh B r (zdm (bW B) d)) (c := zdm (bW B) d x / 3) (d := zdm (bW B) d o / 3) (by omega) (by omega)
          by_cases y : zTk B r (zdm (bW B) d) + zdm (bW B) d x / 3 = zTh B r (zdm (bW B) d) + zdm (bW B) d o / 3
          · rw [e20.trans (if_neg (fun z => z (hup.mpr y)))]
            refine ⟨fun z => absurd z (by decide), fun _ => ?_⟩
            refine q4_isRight (m := zdm (bW B) d) hwf hcbv hbb hR hR7 hSv hr (by omega) hp hm hm9 ?_
            cases hq : zRt B S r (zLv B r (zdm (bW B) d) + zdm (bW B) d x % 3 - zdm (bW B) d o % 3) (zdm (bW B) d) with
            | true =>
              have hq' := of_decide_eq_true hq
              refine ⟨fun z => absurd z (by decide), fun _ => ⟨zi_in (by omega) (by omega), q4_bit (by omega) ?_⟩⟩
              rw [show o * 4 + x = 4 * o + x by omega]
              intro w26 e26
              rw [zi_nat (show r < 2 ^ 31 by omega), vg, zi_bits (show 4 * o + x < 16 by omega)] at e26
              rw [zl1, zi_add]
              refine ih (x + 1) w26 (by omega) (by rw [e26]; exact v2) (fun a c' z => ?_) ?_
              · rw [e26, gI_sI, if_neg z]; exact vf a c' z
              · rw [e26, gI_sI_eq]
                refine congrArg _ (zbits_congr (fun j hj => ?_))
                show ((if j < 4 * o + x then zHl B S (l ++ [d]) r j else zHl B S l r j) || j == 4 * o + x) = (if j < 4 * o + (x + 1) then zHl B S (l ++ [d]) r j else zHl B S l r j)
                by_cases e : j = 4 * o + x
                · have ht : zHl B S (l ++ [d]) r (4 * o + x) = true := by
                    rw [happ]
                    exact hiff.mpr ⟨hC1, hC2, y, by omega, hq'.1, hq'.2⟩
                  rw [e, if_pos (show 4 * o + x < 4 * o + (x + 1) by omega), ht, beq_self_eq_true, Bool.or_true]
                · rw [beq_eq_false_iff_ne.mpr e, Bool.or_false]
                  by_cases y : j < 4 * o + x
                  · rw [if_pos y, if_pos (by omega)]
                  · rw [if_neg y, if_neg (by omega)]
            | false =>
              have hq' := of_decide_eq_false hq
              exact ⟨fun _ => hsame (hno (eq_false_of_ne_true (fun z => hq' ⟨(hiff.mp z).2.2.2.2.1, (hiff.mp z).2.2.2.2.2⟩))), fun z => absurd rfl z⟩
          · rw [e20.trans (if_pos (fun z => y (hup.mp z)))]
            exact ⟨fun _ => hsame (hno (eq_false_of_ne_true (fun z => y (hiff.mp z).2.2.1))), fun z => absurd rfl z⟩
        · have hl1 : zHl B S l r (4 * o + x) = true := by
            cases z : zHl B S l r (4 * o + x) with
            | true => rfl
            | false => exact absurd (hbt.mpr z) q3
          exact hsame (by rw [zHl_app, hl1, Bool.true_or])
  have hL24 : ∀ (c o : Nat) (v : zW), o + c = bW B → v.2 = w.2 → (∀ a c, ¬ (a = 32 ∧ c = r) → gI v a c = gI w a c) → gI v 32 r = Int32.ofNat (zbits 16 (P (4 * o))) → fX4_mendRow_L24 k (c + 1) (Int32.ofNat r) (Int32.ofNat p) (Int32.ofNat (zTk B r (zdm (bW B) d)) - Int32.ofNat (zTh B r (zdm (bW B) d))) (Int32.ofNat (zLv B r (zdm (bW B) d))) (Int32.ofNat o) v := by
    intro c
    induction c with
    | zero =>
      intro o v ho v2 vf vg
      have hR : gR v 31 6 = b := by rw [gR, v2]; exact h6
      rw [fX4_mendRow_L24]
      try dsimp only
      rw [hR, vf b 0 (by omega), cb_W hcb]
      refine ⟨by omega, fun _ => ?_, fun q => absurd ((zi_le (by omega) (by omega)).mpr (by omega)) q⟩
      refine hk v v2 vf (vg.trans (congrArg _ (zbits_congr (fun j hj => ?_))))
      show (if j < 4 * o then zHl B S (l ++ [d]) r j else zHl B S l r j) = _
      by_cases y : j < 4 * o
      · rw [if_pos y]
      · have e0 : zHg B r j = false := eq_false_of_ne_true (fun z => by
          have := (zHg_iff.mp z).1.1
          omega)
        rw [if_neg y, zHl, zHl, e0, Bool.false_and, Bool.false_and]
    | succ c ih =>
      intro o v ho v2 vf vg
      have hR : gR v 31 6 = b := by rw [gR, v2]; exact h6
      rw [fX4_mendRow_L24]
      try dsimp only
      rw [hR, vf b 0 (by omega), cb_W hcb]
      refine ⟨by omega, fun q => absurd ((zi_le (by omega) (by omega)).mp q) (by omega), fun _ => ⟨fun q => absurd ((zi_le (a := 4) (by decide) (by omega)).mp q) (by omega), fun _ => ?_⟩⟩
      exact ⟨bW B + 1, hL45 _ o (by omega) (fun v' v2' vf' vg' => ih (o + 1) v' (by omega) v2' vf' vg') (bW B) 0 v (by omega) v2 vf vg⟩
  rw [fX4_mendRow, h6]
  refine ⟨by omega, ?_⟩
  refine q0_excess hwf hcb hr hp ?_
  rw [h6]
  refine ⟨by omega, ?_⟩
  refine q0_leavesOf hwf hcb hr hp ?_
  rw [eT, eH, eL]
  exact ⟨bW B + 1, hL24 (bW B) 0 w (by omega) rfl (fun _ _ _ => rfl) (hg.trans (congrArg _ (zbits_congr (fun j _ => (if_neg (Nat.not_lt_zero j)).symm))))⟩

/-! Level 2: the class's fewest tokens -/
def zqs (w v : zW) : Prop := (∀ a c, (a < 141 ∨ 143 ≤ a) → gI v a c = gI w a c) ∧ (∀ a c, gL v a c = gL w a c) ∧ (∀ a c, a ≠ 140 → gR v a c = gR w a c)
def zt2 (it : Nat → Nat) (br n m f c : Nat) (v : zW) : Prop := ∀ m2 f2, 1 ≤ m2 → f2 + m2 ≤ n → (m2 < m ∨ (m2 = m ∧ f2 < f)) → gI v c (f2 * 60 + m2 - 1) = Int32.ofNat (zT it br f2 m2)
theorem q2_index {f m : Nat} {w : zW} {k : Int32 → zW → Prop} (h1 : 1 ≤ m) (hk : k (Int32.ofNat (f * 60 + m - 1)) w) : fX2_index (Int32.ofNat f) (Int32.ofNat m) w k := by
  rw [fX2_index, zl60, zi_mul, zi_add, zl1, zi_sub (by omega)]
  exact hk
/-- what told as one gives: enough for the fewest -/
def zOne (it : Nat → Nat) (br f m a : Nat) : Prop := a ≤ 240 ∧ zT it br f m ≤ a ∧ (m = 1 → a = 1) ∧ ∀ i, 1 ≤ i → i < m → a ≤ zRp it br f m i ∨ m ≤ zRp it br f m i
theorem zOne_T {it : Nat → Nat} {br f m a : Nat} (h1 : 1 ≤ m) (h : zOne it br f m a) : zminL m (zSp it br f m) a = zT it br f m := by
  obtain ⟨h2, h3, h4, h5⟩ := h
  have hm : zminL m (zSp it br f m) a ≤ m := by
    by_cases e : m = 1
    · have := zminL_le m (zSp it br f m) a
      have := h4 e
      omega
    · have a1 := zminL_at (zSp it br f m) a (show 1 ≤ 1 by omega) (show 1 < m by omega)
      have a2 := zT_le it br f 1
      have a3 := zT_le it br (f + 1) (m - 1)
      rw [zSp] at a1
      omega
  refine Nat.le_antisymm ?_ ?_
  · rcases zT_or it br f m with e | ⟨i, i1, i2, e⟩ | ⟨i, i1, i2, e⟩
    · rw [e]; exact hm
    · rw [e]; exact zminL_at _ _ i1 i2
    · rw [e]
      rcases h5 i i1 i2 with q | q
      · exact Nat.le_trans (zminL_le _ _ _) q
      · exact Nat.le_trans hm q
  · rcases zminL_or m (zSp it br f m) a with e | ⟨i, i1, i2, e⟩
    · rw [e]; exact h3
    · rw [e]; exact zT_sp it i1 i2
theorem q2_asOne {it : Nat → Nat} {br n m f p a1 : Nat} {w : zW} {k : Int32 → zW → Prop} (hp : gR w 140 0 = p) (hpp : p = 141 ∨ p = 142) (hz : zln a1 = 60) (hit : ∀ i, i < n → gI w a1 i = Int32.ofNat (it i)) (h4 : ∀ i, i < n → it i < 4) (hn : n ≤ 60) (hprev : 1 ≤ br → zt2 it (br - 1) n (n + 1) 0 p w) (h1 : 1 ≤ m) (h2 : f + m ≤ n) (hb : br < 4)
    (hk : ∀ a, zOne it br f m a → k (Int32.ofNat a) w) : fX2_asOne 140 a1 (Int32.ofNat f) (Int32.ofNat m) (Int32.ofNat br) w k := by
  have hT := zT_le it br f m
  have hlp : zln p = 3600 := by rcases hpp with e | e <;> subst e <;> rfl
  have hJ : ¬ m = 1 → ¬ (zagain it f m 1 = true ∧ m / 1 ≤ 20) → fX2_asOne_J25 140 a1 k (Int32.ofNat f) (Int32.ofNat m) (Int32.ofNat br) w := by
    intro hm hno
    have hL : ∀ (c i acc : Nat), i + 1 + c = m / 2 + 1 → (acc ≤ 240 ∧ zT it br f m ≤ acc ∧ (1 ≤ br → ∀ j, 1 ≤ j → j < i + 1 → acc ≤ zRp it br f m j ∨ m ≤ zRp it br f m j)) → fX2_asOne_L33 140 a1 k (c + 1) (Int32.ofNat f) (Int32.ofNat m) (Int32.ofNat br) (Int32.ofNat acc) (Int32.ofNat (i + 1)) w := by
      intro c
      induction c with
      | zero =>
        intro i acc hi hacc
        have hend : zOne it br f m acc := by
          refine ⟨hacc.1, hacc.2.1, fun e => absurd e hm, fun j j1 j2 => ?_⟩
          by_cases hbr : 1 ≤ br
          · by_cases y : j < i + 1
            · exact hacc.2.2 hbr j j1 y
            · refine Or.inr ?_
              rw [zRp, if_neg (fun z => ?_)]
              · omega
              · have z1 := ((zagain_iff _ _ _ _).mp z.1).1
                have z2 := Nat.div_add_mod m j
                have z3 : m / j < 2 := Nat.div_lt_of_lt_mul (by omega)
                have z4 : 1 ≤ m / j := (Nat.le_div_iff_mul_le (by omega)).mpr (by omega)
                rw [show m / j = 1 by omega] at z2
                omega
          · refine Or.inr ?_
            rw [zRp]
            by_cases z : zagain it f m j = true ∧ m / j ≤ 20
            · rw [if_pos z]
              by_cases y : j = 1
              · rw [y] at z; exact absurd z hno
              · rw [if_neg y, if_pos (by omega)]; omega
            · rw [if_neg z]; omega
        rw [fX2_asOne_L33]
        try dsimp only
        refine ⟨fun _ => hk acc hend, fun _ => ?_⟩
        rw [zl2, zi_div (by omega) (by omega)]
        exact ⟨fun _ => hk acc hend, fun q => absurd ((zi_lt (by omega) (by omega)).mpr (by omega)) q⟩
      | succ c ih =>
        intro i acc hi hacc
        have hm2 : m / 2 ≤ m := Nat.div_le_self _ _
        have hdv : m / (i + 1) ≤ m := Nat.div_le_self _ _
        have hml := Nat.mod_lt m (show 0 < i + 1 by omega)
        rw [fX2_asOne_L33]
        try dsimp only
        refine ⟨fun q => hk acc ⟨hacc.1, hacc.2.1, fun e => absurd e hm, fun j j1 j2 => Or.inr ?_⟩, fun q0 => ?_⟩
        · have hbr : br = 0 := by have := (zi_le (b := 0) (by omega) (by decide)).mp q; omega
          rw [zRp]
          by_cases z : zagain it f m j = true ∧ m / j ≤ 20
          · rw [if_pos z]
            by_cases y : j = 1
            · rw [y] at z; exact absurd z hno
            · rw [if_neg y, if_pos hbr]; omega
          · rw [if_neg z]; omega
        have hbr : 1 ≤ br := by
          by_cases y : br = 0
          · exact absurd (by rw [y]; decide) q0
          · omega
        have hgo : ∀ acc2, acc2 ≤ acc → zT it br f m ≤ acc2 → (acc2 ≤ zRp it br f m (i + 1) ∨ m ≤ zRp it br f m (i + 1)) → fX2_asOne_L33 140 a1 k (c + 1) (Int32.ofNat f) (Int32.ofNat m) (Int32.ofNat br) (Int32.ofNat acc2) (Int32.ofNat (i + 1) + 1) w := by
          intro acc2 y1 y2 y3
          rw [zl1, zi_add]
          refine ih (i + 1) acc2 (by omega) ⟨by omega, y2, fun hbr j j1 j2 => ?_⟩
          by_cases e : j = i + 1
          · rw [e]; exact y3
          · rcases hacc.2.2 hbr j j1 (by omega) with q | q
            · exact Or.inl (by omega)
            · exact Or.inr q
        have hnot : ¬ (zagain it f m (i + 1) = true ∧ m / (i + 1) ≤ 20) → fX2_asOne_L33 140 a1 k (c + 1) (Int32.ofNat f) (Int32.ofNat m) (Int32.ofNat br) (Int32.ofNat acc) (Int32.ofNat (i + 1) + 1) w := fun z => hgo acc (Nat.le_refl _) hacc.2.1 (Or.inr (by rw [zRp, if_neg z]; omega))
        rw [zl2, zi_div (by omega) (by omega), zi_mod (by omega) (by omega), zi_div (by omega) (by omega)]
        refine ⟨fun q => absurd ((zi_lt (by omega) (by omega)).mp q) (by omega), fun _ => ⟨fun q => absurd ((zi_eq (b := 0) (by omega) (by decide)).mp q) (by omega), fun q => ?_, fun q => ⟨fun q => absurd ((zi_eq (b := 0) (by omega) (by decide)).mp q) (by omega), fun v15 e15 => ?_⟩⟩⟩
        · rw [fX2_asOne_J67]
          exact ⟨fun _ => hnot (fun z => q (by rw [((zagain_iff _ _ _ _).mp z.1).1]; rfl)), fun y => absurd rfl y⟩
        · have hmod := (zi_eq (b := 0) (by omega) (by decide)).mp q
          rw [fX2_asOne_J67]
          by_cases h20 : m / (i + 1) ≤ 20
          · rw [e15.trans (if_neg (fun z => by have := (zi_lt (a := 20) (by decide) (by omega)).mp z; omega))]
            refine ⟨fun y => absurd y (by decide), fun _ => ?_⟩
            refine q0_repeats (it := it) hz (fun j hj => hit j (by omega)) (fun j hj => h4 j (by omega)) (by omega) (by omega) (by omega) (fun z => ?_) (fun z => ?_)
            · refine ⟨fun y => absurd y (by decide), fun _ => ?_⟩
              rw [hp]
              refine ⟨by omega, q2_index (by omega) ⟨by rw [hlp]; exact zi_in (by omega) (by omega), fun v13 e13 => ?_⟩⟩
              have hbe : i + 1 < m := by omega
              rw [zi_nat (by omega), hprev hbr (i + 1) f (by omega) (by omega) (Or.inl (by omega)), zl3, zi_add] at e13
              have hTb := zT_le it (br - 1) f (i + 1)
              have hza : zagain it f m (i + 1) = true := (zagain_iff _ _ _ _).mpr ⟨hmod, z⟩
              have hrp : i + 1 = 1 ∨ zRp it br f m (i + 1) = zT it (br - 1) f (i + 1) + 3 := by
                by_cases y : i + 1 = 1
                · exact Or.inl y
                · exact Or.inr (by rw [zRp, if_pos ⟨hza, h20⟩, if_neg y, if_neg (by omega)])
              have hr0 := zT_rp it (br := br) (f := f) (show 1 ≤ i + 1 by omega) hbe
              have hr1 : ¬ i + 1 = 1 := fun y => hno (by rw [← y]; exact ⟨hza, h20⟩)
              have hrp' := hrp.resolve_left hr1
              by_cases y : zT it (br - 1) f (i + 1) + 3 < acc
              · rw [e13.trans (if_pos ((zi_lt (by omega) (by omega)).mpr y))]
                exact hgo _ (by omega) (by omega) (Or.inl (by omega))
              · rw [e13.trans (if_neg (fun z => y ((zi_lt (by omega) (by omega)).mp z)))]
                exact hgo _ (by omega) hacc.2.1 (Or.inl (by omega))
            · exact ⟨fun _ => hnot (fun y => z ((zagain_iff _ _ _ _).mp y.1).2), fun y => absurd rfl y⟩
          · rw [e15.trans (if_pos ((zi_lt (a := 20) (by decide) (by omega)).mpr (by omega)))]
            exact ⟨fun _ => hnot (fun z => h20 z.2), fun y => absurd rfl y⟩
    rw [fX2_asOne_J25]
    exact ⟨m / 2 + 1, hL (m / 2) 0 240 (by omega) ⟨Nat.le_refl _, by omega, fun _ j j1 j2 => by omega⟩⟩
  rw [fX2_asOne]
  refine ⟨fun q => ?_, fun q => ?_⟩
  · have hm : ¬ m = 1 := fun e => q (by rw [e]; rfl)
    refine ⟨fun q2 => ?_, fun q2 => ?_⟩
    · have := (zi_lt (a := 20) (by decide) (by omega)).mp q2
      exact hJ hm (fun z => by have := z.2; rw [Nat.div_one] at this; omega)
    · have h20 : m ≤ 20 := by
        by_cases y : 20 < m
        · exact absurd ((zi_lt (a := 20) (by decide) (by omega)).mpr y) q2
        · omega
      rw [zl1]
      refine q0_repeats (it := it) hz (fun j hj => hit j (by omega)) (fun j hj => h4 j (by omega)) (by omega) (by omega) (by omega) (fun z => ?_) (fun z => ?_)
      · refine ⟨fun y => absurd y (by decide), fun _ => ?_⟩
        have hza : zagain it f m 1 = true := (zagain_iff _ _ _ _).mpr ⟨Nat.mod_one m, z⟩
        have hr1 : zRp it br f m 1 = 2 := by rw [zRp, if_pos ⟨hza, by rw [Nat.div_one]; exact h20⟩, if_pos rfl]
        have hr0 := zT_rp it (br := br) (f := f) (show 1 ≤ 1 by omega) (show 1 < m by omega)
        refine hk 2 ⟨by omega, by omega, fun e => absurd e hm, fun j j1 j2 => ?_⟩
        rw [zRp]
        by_cases z : zagain it f m j = true ∧ m / j ≤ 20
        · rw [if_pos z]
          by_cases y : j = 1
          · rw [if_pos y]; omega
          · rw [if_neg y]
            by_cases y2 : br = 0
            · rw [if_pos y2]; omega
            · rw [if_neg y2]; omega
        · rw [if_neg z]; omega
      · exact ⟨fun _ => hJ hm (fun y => z ((zagain_iff _ _ _ _).mp y.1).2), fun y => absurd rfl y⟩
  · have hm : m = 1 := (zi_eq (b := 1) (by omega) (by decide)).mp q
    exact hk 1 ⟨by omega, by omega, fun _ => rfl, fun j j1 j2 => by omega⟩
theorem q2_best {it : Nat → Nat} {br n m f p c a1 : Nat} {w : zW} {k : Int32 → zW → Prop} (hp : gR w 140 0 = p) (hc : gR w 140 1 = c) (hpc : (p = 141 ∧ c = 142) ∨ (p = 142 ∧ c = 141)) (hz : zln a1 = 60) (hit : ∀ i, i < n → gI w a1 i = Int32.ofNat (it i)) (h4 : ∀ i, i < n → it i < 4) (hn : n ≤ 60) (hprev : 1 ≤ br → zt2 it (br - 1) n (n + 1) 0 p w) (hcur : zt2 it br n m f c w) (h1 : 1 ≤ m) (h2 : f + m ≤ n) (hb : br < 4)
    (hk : k (Int32.ofNat (zT it br f m)) w) : fX2_best 140 a1 (Int32.ofNat f) (Int32.ofNat m) (Int32.ofNat br) w k := by
  have hlc : zln c = 3600 := by rcases hpc with e | e <;> rw [e.2] <;> rfl
  rw [fX2_best]
  refine q2_asOne hp (by omega) hz hit h4 hn hprev h1 h2 hb (fun a ha => ?_)
  have ha2 := ha.1
  rw [← zOne_T h1 ha] at hk
  have hL : ∀ (c2 i : Nat), i + 1 + c2 = m → fX2_best_L14 140 a1 k (c2 + 1) (Int32.ofNat f) (Int32.ofNat m) (Int32.ofNat (zminL (i + 1) (zSp it br f m) a)) (Int32.ofNat (i + 1)) w := by
    intro c2
    induction c2 with
    | zero =>
      intro i hi
      rw [fX2_best_L14]
      try dsimp only
      refine ⟨fun _ => ?_, fun q => absurd ((zi_le (by omega) (by omega)).mpr (by omega)) q⟩
      rw [show i + 1 = m by omega]
      exact hk
    | succ c2 ih =>
      intro i hi
      have ih' := ih (i + 1) (by omega)
      have hacc := zminL_le (i + 1) (zSp it br f m) a
      rw [zminL_S (show 1 ≤ i + 1 by omega)] at ih'
      generalize zminL (i + 1) (zSp it br f m) a = acc at ih' hacc ⊢
      rw [fX2_best_L14]
      try dsimp only
      rw [hc]
      refine ⟨fun q => absurd ((zi_le (by omega) (by omega)).mp q) (by omega), fun _ => ⟨by omega, q2_index (by omega) ⟨by rw [hlc]; exact zi_in (by omega) (by omega), by omega, ?_⟩⟩⟩
      rw [zi_add, zi_sub (by omega)]
      refine q2_index (by omega) ⟨by rw [hc, hlc]; exact zi_in (by omega) (by omega), ?_⟩
      rw [hc, zi_nat (by omega), zi_nat (by omega), hcur (i + 1) f (by omega) (by omega) (Or.inl (by omega)), hcur (m - (i + 1)) (f + (i + 1)) (by omega) (by omega) (Or.inl (by omega)), zi_add]
      intro v9 e9
      rw [e9]
      intro v10 e10
      have y1 := zT_le it br f (i + 1)
      have y2 := zT_le it br (f + (i + 1)) (m - (i + 1))
      have e : v10 = Int32.ofNat (zmin acc (zSp it br f m (i + 1))) := by
        rw [zSp]
        have a3 : zT it br f (i + 1) + zT it br (f + (i + 1)) (m - (i + 1)) < 200 := by omega
        generalize zT it br f (i + 1) + zT it br (f + (i + 1)) (m - (i + 1)) = t at e10 a3 ⊢
        rw [e10, zmin]
        by_cases y : t < acc
        · rw [if_pos ((zi_lt (by omega) (by omega)).mpr y), if_pos y]
        · rw [if_neg (fun z => y ((zi_lt (by omega) (by omega)).mp z)), if_neg y]
      rw [e, zl1, zi_add]
      exact ih'
  refine ⟨m - 1 + 1, ?_⟩
  have h0 := hL (m - 1) 0 (by omega)
  rw [zminL_1 (by omega)] at h0
  exact h0

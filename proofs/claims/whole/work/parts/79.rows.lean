/-! Level 2: rests -/
/-- what both answer: the number of the equilibria, or the one of a told number, or none -/
def zrh (l c t y : Int32) (i : Nat) : Bool := zrb l c t i && decide (Int32.ofNat (zcnt i (zrb l c t)) = y)
def zrans (l c t y : Int32) : Option Int32 := if y = zN1 then some (Int32.ofNat (zcnt 4 (zrb l c t))) else if zfind 4 (zrh l c t y) = zN1 then none else some (zfind 4 (zrh l c t y))
theorem zrb_half (i : Nat) (hi : i < 4) : i / 2 < 2 ∧ i % 2 < 2 := by omega
theorem zrh_t {l c t y : Int32} {i : Nat} (h1 : zrb l c t i = true) (h2 : Int32.ofNat (zcnt i (zrb l c t)) = y) : zrh l c t y i = true := by
  rw [zrh, h1, decide_eq_true h2]; rfl
theorem zrh_f1 {l c t y : Int32} {i : Nat} (h1 : zrb l c t i = false) : zrh l c t y i = false := by rw [zrh, h1, Bool.false_and]
theorem zrh_f2 {l c t y : Int32} {i : Nat} (h2 : ¬ Int32.ofNat (zcnt i (zrb l c t)) = y) : zrh l c t y i = false := by rw [zrh, decide_eq_false h2, Bool.and_false]
/-- there is at most one of a told number -/
theorem zrh_uniq {l c t y : Int32} {i j : Nat} (hij : i < j) (hj : j < 4) (h1 : zrh l c t y i = true) : zrh l c t y j = false := by
  refine eq_false_of_ne_true fun h2 => ?_
  rw [zrh, Bool.and_eq_true] at h1 h2
  have e1 := of_decide_eq_true h1.2
  have e2 := of_decide_eq_true h2.2
  have m1 := zcnt_mono (zrb l c t) (show i + 1 ≤ j from hij)
  rw [zcnt_t h1.1] at m1
  have c1 := zcnt_le i (zrb l c t)
  have c2 := zcnt_le j (zrb l c t)
  have := (zi_eq (by omega) (by omega)).mp (e1.trans e2.symm)
  omega
theorem q11_restsL {l c t y : Int32} {w : zW} {k : Option Int32 → zW → Prop} (hk : k (zrans l c t y) w) : ∃ n9, fX11_rests_L44 k n9 l c t y (0 : Int32) (0 : Int32) w := by
  refine zinv (fun n (s : Int32 × Int32) => fX11_rests_L44 k n l c t y s.1 s.2 w) (fun i s => s = (Int32.ofNat (zcnt i (zrb l c t)), Int32.ofNat i) ∧ ∀ j, j < i → zrh l c t y j = false) 4 (s0 := (0, 0)) ⟨rfl, fun j hj => absurd hj (Nat.not_lt_zero j)⟩ ?_ ?_
  · rintro n s ⟨rfl, hj⟩
    rw [fX11_rests_L44]
    try dsimp only
    refine ⟨fun _ => ⟨fun q => ?_, fun q => ?_⟩, fun q => absurd (by decide) q⟩
    · rw [zrans, if_pos (show y = zN1 from q)] at hk
      exact hk
    · rw [zrans, if_neg (show ¬ y = zN1 from q), zfind_none hj, if_pos rfl] at hk
      exact hk
  · rintro i n s hi ⟨rfl, hj⟩ hc
    have hcl := zcnt_le i (zrb l c t)
    rw [fX11_rests_L44]
    try dsimp only
    refine ⟨fun q => absurd q (by rw [zl4]; exact zi_nge hi (by omega)), fun _ => ?_⟩
    intro v10 e10 v11 e11
    rw [zl2, zi_div (by omega) (by omega)] at e10
    rw [zl2, zi_mod (by omega) (by omega)] at e11
    subst e10
    subst e11
    have hno : zrb l c t i = false → fX11_rests_L44 k n l c t y (Int32.ofNat (zcnt i (zrb l c t))) (Int32.ofNat i + 1) w := fun hz => by
      rw [zl1, zi_add, ← zcnt_f hz]
      exact hc _ ⟨rfl, fun j q => by
        by_cases e : j = i
        · rw [e]; exact zrh_f1 hz
        · exact hj j (by omega)⟩
    refine q11_isBest (by omega) (by omega) ?_
    by_cases q1 : zgain l c t (i / 2) (i % 2) < zgain l c t (1 - i / 2) (i % 2)
    · rw [if_pos q1]
      exact ⟨fun _ => hno (by rw [zrb, decide_eq_false (fun z => z q1), Bool.false_and]), fun z => absurd rfl z⟩
    · rw [if_neg q1]
      refine ⟨fun z => absurd z (by decide), fun _ => ?_⟩
      refine q11_isBest (by omega) (by omega) ?_
      by_cases q2 : zgain l c t (i % 2) (i / 2) < zgain l c t (1 - i % 2) (i / 2)
      · rw [if_pos q2]
        exact ⟨fun _ => hno (by rw [zrb, decide_eq_false (show ¬ ¬ zgain l c t (i % 2) (i / 2) < zgain l c t (1 - i % 2) (i / 2) from fun z => z q2), Bool.and_false]), fun z => absurd rfl z⟩
      · rw [if_neg q2]
        have hz : zrb l c t i = true := by rw [zrb, decide_eq_true q1, decide_eq_true q2]; rfl
        refine ⟨fun z => absurd z (by decide), fun _ => ⟨fun q => ?_, fun q => ?_⟩⟩
        · rw [zl1, zi_add, zi_add, ← zcnt_t hz]
          exact hc _ ⟨rfl, fun j y1 => by
            by_cases e : j = i
            · rw [e]; exact zrh_f2 q
            · exact hj j (by omega)⟩
        · have e := zfind_some hi (zrh_t hz q) hj
          rw [zrans, if_neg (show ¬ y = zN1 from fun z => by rw [z] at q; exact zN1_ne (by omega) q), e, if_neg (zN1_ne (by omega))] at hk
          exact hk
/-- three numbers of one digit, and what is asked for -/
def zrok (l c t y : Int32) : Prop := (∃ n, l = Int32.ofNat n ∧ n ≤ 9) ∧ (∃ n, c = Int32.ofNat n ∧ n ≤ 9) ∧ (∃ n, t = Int32.ofNat n ∧ n ≤ 9) ∧ ¬ y < zN1
theorem q11_isDigit {x : Int32} {w : zW} {k : Int32 → zW → Prop} (h1 : (∃ n, x = Int32.ofNat n ∧ n ≤ 9) → k (Int32.ofNat 1) w) (h0 : ¬ (∃ n, x = Int32.ofNat n ∧ n ≤ 9) → k (Int32.ofNat 0) w) : fX11_isDigit x w k := by
  rw [fX11_isDigit]
  rcases zi_cases x with hx | ⟨a, ha, rfl⟩
  · intro v e
    rw [e, if_pos hx]
    exact ⟨Or.inl rfl, h0 (fun ⟨n, q1, q2⟩ => by rw [q1] at hx; exact zi_0le (by omega) hx)⟩
  · by_cases q : a ≤ 9
    · simp (disch := omega) only [↓zln1, ↓zln2, zl0, zl1, zl2, zl3, zl4, zl5, zl6, zl7, zl8, zl9, zl10, zl12, zl15, zl16, zl20, zl24, zl30, zl32, zl36, zl40, zl48, zl57, zl59, zl60, zl61, zl97, zl99, zl120, zl121, zl122, zl126, zl165, zl255, zl480, zl968, zl1000, zl1100, zi_add, zi_mul, zi_sub, zi_div, zi_mod, zi_nat, zt_le, zf_le, zt_lt, zf_lt, zt_eq, zf_eq, zt_vp, zt_N1lt, zf_N1lt, zf_N1eq, zf_eqN1, zt_N1eq, zt_N1le, zf_leN1, zi_nN1, zi_a1, zi_a15, zi_a255, zi_shr, zi_bit, zt_b0, zt_b1, forall_eq, if_true, if_false, true_implies, false_implies, not_true_eq_false, not_false_eq_true, and_true, true_and, gI_sI_eq, gI_sI_ne, gI_sI_ne2, gL_sI, gR_sI, gI_sL, gL_sL_eq, gL_sL_ne, gL_sL_ne2, gR_sL, gI_sR, gL_sR, gR_sR_eq, gR_sR_ne, gR_sR_ne2, gI_aI_eq, gI_aI_ne, gL_aI, gR_aI]
      exact h1 ⟨a, rfl, q⟩
    · simp (disch := omega) only [↓zln1, ↓zln2, zl0, zl1, zl2, zl3, zl4, zl5, zl6, zl7, zl8, zl9, zl10, zl12, zl15, zl16, zl20, zl24, zl30, zl32, zl36, zl40, zl48, zl57, zl59, zl60, zl61, zl97, zl99, zl120, zl121, zl122, zl126, zl165, zl255, zl480, zl968, zl1000, zl1100, zi_add, zi_mul, zi_sub, zi_div, zi_mod, zi_nat, zt_le, zf_le, zt_lt, zf_lt, zt_eq, zf_eq, zt_vp, zt_N1lt, zf_N1lt, zf_N1eq, zf_eqN1, zt_N1eq, zt_N1le, zf_leN1, zi_nN1, zi_a1, zi_a15, zi_a255, zi_shr, zi_bit, zt_b0, zt_b1, forall_eq, if_true, if_false, true_implies, false_implies, not_true_eq_false, not_false_eq_true, and_true, true_and, gI_sI_eq, gI_sI_ne, gI_sI_ne2, gL_sI, gR_sI, gI_sL, gL_sL_eq, gL_sL_ne, gL_sL_ne2, gR_sL, gI_sR, gL_sR, gR_sR_eq, gR_sR_ne, gR_sR_ne2, gI_aI_eq, gI_aI_ne, gL_aI, gR_aI]
      exact h0 (fun ⟨n, q1, q2⟩ => by have := (zi_eq ha (by omega)).mp q1; omega)
theorem q12_isDigit {x : Int32} {w : zW} {k : Int32 → zW → Prop} (h1 : (∃ n, x = Int32.ofNat n ∧ n ≤ 9) → k (Int32.ofNat 1) w) (h0 : ¬ (∃ n, x = Int32.ofNat n ∧ n ≤ 9) → k (Int32.ofNat 0) w) : fX12_within x (0 : Int32) (9 : Int32) w k := by
  rcases zi_cases x with hx | ⟨a, ha, rfl⟩
  · exact q12_withinN (lo := 0) hx (by decide) (h0 (fun ⟨n, q1, q2⟩ => by rw [q1] at hx; exact zi_0le (by omega) hx))
  · refine q12_within (lo := 0) (hi := 9) ha (by decide) (by decide) ?_
    by_cases q : a ≤ 9
    · rw [if_pos (by omega)]; exact h1 ⟨a, rfl, q⟩
    · rw [if_neg (by omega)]; exact h0 (fun ⟨n, q1, q2⟩ => by have := (zi_eq ha (by omega)).mp q1; omega)
theorem q11_rests {l c t y : Int32} {w : zW} {k : Option Int32 → zW → Prop} (h1 : zrok l c t y → k (zrans l c t y) w) (h0 : ¬ zrok l c t y → k none w) : fX11_rests l c t y w k := by
  rw [fX11_rests]
  refine q11_isDigit (fun a1 => ⟨fun z => absurd z (by decide), fun _ => ?_⟩) (fun a1 => ⟨fun _ => h0 (fun z => a1 z.1), fun z => absurd rfl z⟩)
  refine q11_isDigit (fun a2 => ⟨fun z => absurd z (by decide), fun _ => ?_⟩) (fun a2 => ⟨fun _ => h0 (fun z => a2 z.2.1), fun z => absurd rfl z⟩)
  refine q11_isDigit (fun a3 => ⟨fun z => absurd z (by decide), fun _ => ?_⟩) (fun a3 => ⟨fun _ => h0 (fun z => a3 z.2.2.1), fun z => absurd rfl z⟩)
  refine ⟨fun q => q11_restsL (h1 ⟨a1, a2, a3, fun z => absurd (Int32.lt_of_lt_of_le z q) Int32.lt_irrefl⟩), fun q => h0 (fun z => q (Int32.not_lt.mp z.2.2.2))⟩
/-- the reference: what it answers, and whether it is thrown -/
theorem q12_rests {l c t y : Int32} {w : zW} {k : Int32 → zW → Prop} (h1 : zrok l c t y → ∀ r, zrans l c t y = some r → k r (sI w 200 0 0)) (h2 : zrok l c t y → zrans l c t y = none → k 0 (sI w 200 0 1)) (h0 : ¬ zrok l c t y → k 0 (sI w 200 0 1)) : fX12_rests l c t y w k := by
  have hbad : ¬ zrok l c t y → fX12_rests_J41 k l c t y (Int32.ofNat 0) w := by
    intro hn
    refine ⟨1, ?_⟩
    rw [fX12_rests_L52]
    try dsimp only
    refine ⟨fun q => absurd q (by decide), fun _ => ⟨fun _ => ?_, fun q => absurd rfl q⟩⟩
    intro v4 e4
    obtain rfl : v4 = 1 := e4.trans (if_pos rfl)
    intro w5 e5 v6 e6
    have g : gI w5 200 0 = 1 := by rw [e5, gI_sI_eq]
    rw [g] at e6
    obtain rfl : v6 = 0 := e6.trans (if_neg (by decide))
    rw [e5]
    exact h0 hn
  rw [fX12_rests]
  refine q12_isDigit (fun a1 => ⟨fun z => absurd z (by decide), fun _ => ?_⟩) (fun a1 => ⟨fun _ => hbad (fun z => a1 z.1), fun z => absurd rfl z⟩)
  refine q12_isDigit (fun a2 => ⟨fun z => absurd z (by decide), fun _ => ?_⟩) (fun a2 => ⟨fun _ => hbad (fun z => a2 z.2.1), fun z => absurd rfl z⟩)
  refine q12_isDigit (fun a3 => ?_) (fun a3 => ?_)
  · intro v26 e26
    have e26' := e26.trans (if_neg (by decide))
    by_cases q : y < zN1
    · have e := e26'.trans (if_pos q)
      rw [e]
      exact hbad (fun z => z.2.2.2 q)
    · have hok : zrok l c t y := ⟨a1, a2, a3, q⟩
      have e := e26'.trans (if_neg q)
      rw [e]
      -- the loop
      have hJ : ∀ (v16 : Int32) (n i : Nat) (fnd : Int32) (b : Bool), i < 4 → zrb l c t i = b → fnd = (if zfind i (zrh l c t y) = zN1 then zN1 else zfind i (zrh l c t y)) → (fX12_rests_L52 k n l c t y (Int32.ofNat 1) (Int32.ofNat (zcnt (i + 1) (zrb l c t))) (zfind (i + 1) (zrh l c t y)) (Int32.ofNat (i + 1)) w) → fX12_rests_J130 k (fX12_rests_L52 k n) l c t y (Int32.ofNat 1) (Int32.ofNat (zcnt i (zrb l c t))) (zfind i (zrh l c t y)) (Int32.ofNat i) (Int32.ofNat (zb2n b)) w := by
        intro _ n i fnd b hi hb _ hc
        intro v16 e16 v17 e17 v18 e18
        have hcl := zcnt_le i (zrb l c t)
        have hfs : zrh l c t y i = false → zfind (i + 1) (zrh l c t y) = zfind i (zrh l c t y) := fun hf => by
          rcases zfind_or i (zrh l c t y) with ⟨e1, e2⟩ | ⟨j, j1, j2, j3, j4⟩
          · rw [e1]
            exact zfind_none (fun j hj => by
              by_cases z : j = i
              · rw [z]; exact hf
              · exact e2 j (by omega))
          · rw [j2]
            exact zfind_some (by omega) j3 j4
        have e18' : v18 = Int32.ofNat (zcnt (i + 1) (zrb l c t)) := by
          cases b with
          | false =>
            have x17 : v17 = Int32.ofNat 0 := e17.trans (if_pos rfl)
            rw [e18, x17, zcnt_f hb, zi_add, Nat.add_zero]
          | true =>
            have x17 : v17 = Int32.ofNat 1 := e17.trans (if_neg (by decide))
            rw [e18, x17, zcnt_t hb, zi_add]
        have e16' : v16 = zfind (i + 1) (zrh l c t y) := by
          cases b with
          | false =>
            rw [hfs (zrh_f1 hb)]
            exact e16.trans (if_pos rfl)
          | true =>
            have x := e16.trans (if_neg (by decide))
            by_cases z : Int32.ofNat (zcnt i (zrb l c t)) = y
            · rw [zfind_some (n := i + 1) (by omega) (zrh_t hb z) (fun j hj => by
                refine eq_false_of_ne_true fun u => ?_
                have := zrh_uniq hj hi u
                rw [zrh_t hb z] at this
                exact absurd this (by decide))]
              exact x.trans (if_neg (fun u => u z))
            · rw [hfs (zrh_f2 z)]
              exact x.trans (if_pos z)
        rw [e18', e16', zl1, zi_add]
        exact hc
      refine zrun (fun n (s : Int32 × Int32 × Int32) => fX12_rests_L52 k n l c t y (Int32.ofNat 1) s.1 s.2.1 s.2.2 w) (fun i => (Int32.ofNat (zcnt i (zrb l c t)), zfind i (zrh l c t y), Int32.ofNat i)) 4 (fun n => ?_) (fun i n hi hc => ?_)
      · rw [fX12_rests_L52]
        try dsimp only
        refine ⟨fun _ => ?_, fun q => absurd (by decide) q⟩
        have hfl : ∀ _ : Nat, (zfind 4 (zrh l c t y) = zN1) ∨ (∃ j, j < 4 ∧ zfind 4 (zrh l c t y) = Int32.ofNat j) := fun _ => by
          rcases zfind_or 4 (zrh l c t y) with ⟨e1, _⟩ | ⟨j, j1, j2, _⟩
          · exact Or.inl e1
          · exact Or.inr ⟨j, j1, j2⟩
        intro v4 e4 w5 e5 v6 e6
        have x4 := e4.trans (if_neg (by decide))
        have hy : y = zN1 ↔ y < 0 := ⟨fun z => by rw [z]; exact zN1_lt, fun z => by
          rcases Int32.lt_or_eq_of_le (Int32.not_lt.mp q) with u | u
          · exfalso
            have u1 := Int32.lt_iff_toInt_lt.mp u
            have u2 := Int32.lt_iff_toInt_lt.mp z
            rw [show zN1.toInt = -1 from rfl] at u1
            rw [show (0 : Int32).toInt = 0 from rfl] at u2
            omega
          · exact u.symm⟩
        by_cases z : y = zN1
        · have y4 := x4.trans (if_pos (hy.mp z))
          rw [y4] at e5
          have g : gI w5 200 0 = 0 := by rw [e5, gI_sI_eq]
          rw [g] at e6
          have y6 : v6 = Int32.ofNat (zcnt 4 (zrb l c t)) := (e6.trans (if_pos (by decide))).trans (if_neg (fun u => absurd (hy.mp z) (Int32.not_lt.mpr u)))
          rw [y6, e5]
          exact h1 hok _ (by rw [zrans, if_pos z])
        · have y4 := x4.trans (if_neg (fun u => z (hy.mpr u)))
          rcases hfl 0 with u | ⟨j, j1, u⟩
          · rw [u] at y4
            have y5 := y4.trans (if_pos zN1_lt)
            rw [y5] at e5
            have g : gI w5 200 0 = 1 := by rw [e5, gI_sI_eq]
            rw [g] at e6
            have y6 : v6 = 0 := e6.trans (if_neg (by decide))
            rw [y6, e5]
            exact h2 hok (by rw [zrans, if_neg z, if_pos u])
          · rw [u] at y4
            have y5 := y4.trans (if_neg (zi_0le (show j < 2 ^ 31 by omega)))
            rw [y5] at e5
            have g : gI w5 200 0 = 0 := by rw [e5, gI_sI_eq]
            rw [g] at e6
            have y6 : v6 = zfind 4 (zrh l c t y) := (e6.trans (if_pos (by decide))).trans (if_pos (Int32.not_lt.mp (fun x => z (hy.mpr x))))
            rw [y6, e5]
            exact h1 hok _ (by rw [zrans, if_neg z, if_neg (by rw [u]; exact zN1_ne (by omega))])
      · rw [fX12_rests_L52]
        try dsimp only
        refine ⟨fun z => absurd z (by rw [zl4]; exact zi_nge hi (by omega)), fun _ => ⟨fun z => absurd z (by decide), fun _ => ?_⟩⟩
        intro v11 e11 v12 e12
        rw [zl2, zi_div (by omega) (by omega)] at e11
        rw [zl2, zi_mod (by omega) (by omega)] at e12
        subst e11
        subst e12
        rw [zl1, zi_sub (by omega), zi_sub (by omega)]
        refine q12_getsBy (by omega) (by omega) (q12_getsBy (by omega) (by omega) ?_)
        refine ⟨fun z => ?_, fun z => ?_⟩
        · exact hJ 0 n i _ false hi (by rw [zrb, decide_eq_false (fun x => x z), Bool.false_and]) rfl hc
        · refine q12_getsBy (by omega) (by omega) (q12_getsBy (by omega) (by omega) ?_)
          intro v22 e22
          by_cases z2 : zgain l c t (i % 2) (i / 2) < zgain l c t (1 - i % 2) (i / 2)
          · have x := e22.trans (if_pos z2)
            rw [x]
            exact hJ 0 n i _ false hi (by rw [zrb, decide_eq_false (show ¬ ¬ zgain l c t (i % 2) (i / 2) < zgain l c t (1 - i % 2) (i / 2) from fun z => z z2), Bool.and_false]) rfl hc
          · have x := e22.trans (if_neg z2)
            rw [x]
            exact hJ 0 n i _ true hi (by rw [zrb, decide_eq_true z, decide_eq_true z2]; rfl) rfl hc
  · intro v26 e26
    have e := e26.trans (if_pos rfl)
    rw [e]
    exact hbad (fun z => a3 z.2.2.1)

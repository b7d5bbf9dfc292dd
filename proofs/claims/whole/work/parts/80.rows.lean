/-! Level 2: repeats, beat, a row's plain answers, alike -/
def zag (it : Nat → Nat) (f n st : Nat) : Prop := ∀ i, i + st < n → it (f + i) = it (f + i + st)
theorem zagain_iff (it : Nat → Nat) (f n st : Nat) : zagain it f n st = true ↔ n % st = 0 ∧ zag it f n st := by
  rw [zagain, Bool.and_eq_true, List.all_eq_true]
  refine ⟨fun h => ⟨eq_of_beq h.1, fun i hi => ?_⟩, fun h => ⟨by rw [h.1]; rfl, fun i hi => ?_⟩⟩
  · have := h.2 (i + st) (List.mem_range.mpr hi)
    rw [Bool.or_eq_true] at this
    rcases this with q | q
    · have q' := of_decide_eq_true q
      omega
    · have q' := eq_of_beq q
      rw [show f + (i + st) - st = f + i by omega, show f + (i + st) = f + i + st by omega] at q'
      exact q'.symm
  · have hi' := List.mem_range.mp hi
    rw [Bool.or_eq_true]
    by_cases q : i < st
    · exact Or.inl (decide_eq_true q)
    · refine Or.inr ?_
      have := h.2 (i - st) (by omega)
      rw [show f + (i - st) = f + i - st by omega, show f + i - st + st = f + i by omega] at this
      rw [this]
      exact beq_self_eq_true _
theorem q0_repeats {it : Nat → Nat} {a f n st : Nat} {w : zW} {k : Int32 → zW → Prop} (ha : zln a = 60) (hit : ∀ i, i < f + n → gI w a i = Int32.ofNat (it i)) (h4 : ∀ i, i < f + n → it i < 4) (h60 : f + n ≤ 60) (hst : 1 ≤ st) (hst2 : st ≤ 60) (h1 : zag it f n st → k (Int32.ofNat 1) w) (h0 : ¬ zag it f n st → k (Int32.ofNat 0) w) : fX0_repeats a (Int32.ofNat f) (Int32.ofNat n) (Int32.ofNat st) w k := by
  rw [fX0_repeats, ha]
  refine ⟨fun q => absurd q (zi_0le (by omega)), fun _ => ⟨fun q => absurd ((zi_lt (b := 1) (by omega) (by decide)).mp q) (by omega), fun _ => ?_⟩⟩
  rw [zi_add]
  refine ⟨fun _ => ?_, fun q => absurd ((zi_le (by omega) (by decide)).mpr h60) q⟩
  have hgo : ∀ (c i : Nat), i + c = n - st → (∀ j, j < i → it (f + j) = it (f + j + st)) → fX0_repeats_L22 a k (c + 1) (Int32.ofNat f) (Int32.ofNat n) (Int32.ofNat st) (Int32.ofNat (f + i)) w := by
    intro c
    induction c with
    | zero =>
      intro i hi hj
      rw [fX0_repeats_L22]
      try dsimp only
      rw [zi_add, zi_add]
      exact ⟨fun _ => h1 (fun j q => hj j (by omega)), fun q => absurd ((zi_le (by omega) (by omega)).mpr (by omega)) q⟩
    | succ c ih =>
      intro i hi hj
      have e1 := hit (f + i) (by omega)
      have e2 := hit (f + i + st) (by omega)
      have b1 := h4 (f + i) (by omega)
      have b2 := h4 (f + i + st) (by omega)
      rw [fX0_repeats_L22]
      try dsimp only
      rw [zi_add, zi_add, ha, zi_nat (show f + i < 2 ^ 31 by omega), zi_nat (show f + i + st < 2 ^ 31 by omega), e1, e2]
      refine ⟨fun q => absurd ((zi_le (by omega) (by omega)).mp q) (by omega), fun _ => ⟨zi_in (by omega) (by omega), zi_in (by omega) (by omega), fun q => ?_, fun q => h0 (fun z => q (by rw [z i (by omega)]))⟩⟩
      rw [zl1, zi_add, show f + i + 1 = f + (i + 1) by omega]
      exact ih (i + 1) (by omega) (fun j hj' => by
        by_cases y : j = i
        · rw [y]; exact (zi_eq (by omega) (by omega)).mp q
        · exact hj j (by omega))
  exact ⟨n - st + 1, hgo (n - st) 0 (by omega) (fun j hj => absurd hj (Nat.not_lt_zero j))⟩
theorem q12_isAgain {B : zBk} {r f n st : Nat} {w : zW} {k : Int32 → zW → Prop} (hwf : zWF B) (hB : zRB B w) (hr : r < bR B) (hfn : f + n ≤ bLn B r) (hst : 1 ≤ st) (hst2 : st ≤ 60) (hk : k (Int32.ofNat (zb2n (zagain (bIt B r) f n st))) w) : fX12_isAgain (Int32.ofNat r) (Int32.ofNat f) (Int32.ofNat n) (Int32.ofNat st) w k := by
  have h8 := wf_R hwf
  have h60 := wf_Ln hwf hr
  rw [fX12_isAgain]
  refine ⟨fun q => absurd ((zi_eq (b := 0) (by omega) (by decide)).mp q) (by omega), ?_⟩
  intro v2 e2
  rw [zi_mod (by omega) (by omega)] at e2
  have hz : ∀ (m i : Nat), (zagain (bIt B r) f n st = false) → fX12_isAgain_L18 k (m + 1) (Int32.ofNat r) (Int32.ofNat f) (Int32.ofNat n) (Int32.ofNat st) (Int32.ofNat 0) (Int32.ofNat i) w := by
    intro m i hf
    rw [hf] at hk
    rw [fX12_isAgain_L18]
    try dsimp only
    exact ⟨fun _ => ⟨Or.inl rfl, hk⟩, fun q => absurd rfl q⟩
  by_cases q0 : n % st = 0
  · have e : v2 = Int32.ofNat 1 := e2.trans (if_neg (fun z => z (by rw [q0]; rfl)))
    rw [e]
    have hgo : ∀ (c i : Nat), st + i + c = max n st → (∀ j, j < i → bIt B r (f + j) = bIt B r (f + j + st)) → fX12_isAgain_L18 k (c + 2) (Int32.ofNat r) (Int32.ofNat f) (Int32.ofNat n) (Int32.ofNat st) (Int32.ofNat 1) (Int32.ofNat (st + i)) w := by
      intro c
      induction c with
      | zero =>
        intro i hi hj
        have ht : zagain (bIt B r) f n st = true := (zagain_iff _ _ _ _).mpr ⟨q0, fun j q => hj j (by omega)⟩
        rw [ht] at hk
        rw [fX12_isAgain_L18]
        try dsimp only
        exact ⟨fun q => absurd q (by decide), fun _ => ⟨fun _ => ⟨Or.inr rfl, hk⟩, fun q => absurd ((zi_le (by omega) (by omega)).mpr (by omega)) q⟩⟩
      | succ c ih =>
        intro i hi hj
        rw [fX12_isAgain_L18]
        try dsimp only
        refine ⟨fun q => absurd q (by decide), fun _ => ⟨fun q => absurd ((zi_le (by omega) (by omega)).mp q) (by omega), fun _ => ?_⟩⟩
        rw [zi_add]
        refine q12_itemOf hwf hB hr (by omega) ?_
        rw [zi_sub (by omega)]
        refine q12_itemOf hwf hB hr (by omega) ?_
        intro v7 e7
        rw [zl1, zi_add]
        by_cases q : bIt B r (f + (st + i)) = bIt B r (f + (st + i) - st)
        · have e : v7 = Int32.ofNat 1 := e7.trans (if_neg (fun z => z (by rw [q])))
          rw [e]
          exact ih (i + 1) (by omega) (fun j hj' => by
            by_cases y : j = i
            · rw [y]
              rw [show f + (st + i) - st = f + i by omega, show f + (st + i) = f + i + st by omega] at q
              exact q.symm
            · exact hj j (by omega))
        · have e : v7 = Int32.ofNat 0 := e7.trans (if_pos (fun z => q ((zIt_eq hwf hr (by omega) hr (by omega)).mp z)))
          rw [e]
          refine hz (c + 1) _ (eq_false_of_ne_true fun z => q ?_)
          have := ((zagain_iff _ _ _ _).mp z).2 i (by omega)
          rw [show f + (st + i) - st = f + i by omega, show f + (st + i) = f + i + st by omega]
          exact this.symm
    exact ⟨max n st - st + 2, hgo (max n st - st) 0 (by omega) (fun j hj => absurd hj (Nat.not_lt_zero j))⟩
  · have hf : zagain (bIt B r) f n st = false := eq_false_of_ne_true fun z => q0 ((zagain_iff _ _ _ _).mp z).1
    have hml := Nat.mod_lt n hst
    have e : v2 = Int32.ofNat 0 := e2.trans (if_pos (fun z => q0 ((zi_eq (b := 0) (by omega) (by decide)).mp z)))
    rw [e]
    exact ⟨1, hz 0 st hf⟩
/-- both sides' beat: the least step by which a row is its first words again and again -/
theorem zagain_self (it : Nat → Nat) (f n : Nat) : zagain it f n n = true := (zagain_iff _ _ _ _).mpr ⟨Nat.mod_self n, fun i hi => by omega⟩
def zbeat (B : zBk) (r : Nat) (x : Nat) : Prop := 1 ≤ x ∧ x ≤ bLn B r ∧ zagain (bIt B r) 0 (bLn B r) x = true ∧ ∀ y, 1 ≤ y → y < x → zagain (bIt B r) 0 (bLn B r) y = false
theorem zbeat_uniq {B : zBk} {r x y : Nat} (h1 : zbeat B r x) (h2 : zbeat B r y) : x = y := by
  obtain ⟨a1, a2, a3, a4⟩ := h1
  obtain ⟨b1, b2, b3, b4⟩ := h2
  by_cases q : x < y
  · have := b4 x a1 q; rw [a3] at this; exact absurd this (by decide)
  · by_cases q2 : y < x
    · have := a4 y b1 q2; rw [b3] at this; exact absurd this (by decide)
    · omega
theorem q0_beat {B : zBk} {b r : Nat} {w : zW} {k : Int32 → zW → Prop} (hwf : zWF B) (hB : zCB B b w) (hbb : b = 40 ∨ b = 80) (hr : r < bR B) (hk : ∀ x, zbeat B r x → k (Int32.ofNat x) w) : fX0_beat b (Int32.ofNat r) w k := by
  have h8 := wf_R hwf
  have h4 := wf_W hwf
  have h60 := wf_Ln hwf hr
  have h1 := wf_Ln1 hwf hr
  rw [fX0_beat]
  refine ⟨zi_in (by omega) (by omega), ?_⟩
  rw [zi_nat (show r < 2 ^ 31 by omega), cb_Ln hB hr]
  intro v2 e2
  subst e2
  have hgo : ∀ (c i : Nat), i + 1 + c = bLn B r → (∀ y, 1 ≤ y → y < i + 1 → zagain (bIt B r) 0 (bLn B r) y = false) → fX0_beat_L9 b k (c + 1) (Int32.ofNat r) (Int32.ofNat (bLn B r)) (Int32.ofNat (i + 1)) w := by
    intro c
    induction c with
    | zero =>
      intro i hi hj
      rw [fX0_beat_L9]
      try dsimp only
      exact ⟨fun _ => hk _ ⟨h1, Nat.le_refl _, zagain_self _ _ _, fun y y1 y2 => hj y y1 (by omega)⟩, fun q => absurd ((zi_le (by omega) (by omega)).mpr (by omega)) q⟩
    | succ c ih =>
      intro i hi hj
      have hml := Nat.mod_lt (bLn B r) (show 0 < i + 1 by omega)
      have hno : zagain (bIt B r) 0 (bLn B r) (i + 1) = false → fX0_beat_L9 b k (c + 1) (Int32.ofNat r) (Int32.ofNat (bLn B r)) (Int32.ofNat (i + 1) + 1) w := fun hf => by
        rw [zl1, zi_add]
        exact ih (i + 1) (by omega) (fun y y1 y2 => by
          by_cases e : y = i + 1
          · rw [e]; exact hf
          · exact hj y y1 (by omega))
      rw [fX0_beat_L9]
      try dsimp only
      rw [zi_mod (by omega) (by omega)]
      refine ⟨fun q => absurd ((zi_le (by omega) (by omega)).mp q) (by omega), fun _ => ⟨fun q => absurd ((zi_eq (b := 0) (by omega) (by decide)).mp q) (by omega), fun q => ?_, fun q => ⟨zi_in (by omega) (by omega), ?_⟩⟩⟩
      · exact hno (eq_false_of_ne_true fun z => q (by rw [((zagain_iff _ _ _ _).mp z).1]; rfl))
      · have q' := (zi_eq (b := 0) (by omega) (by decide)).mp q
        rw [zi_nat (show r < 2 ^ 31 by omega), zl0]
        have hz : zln (b + 11 + 1 + r) = 60 := by
          rcases hbb with e | e <;> subst e <;> rcases (show r = 0 ∨ r = 1 ∨ r = 2 ∨ r = 3 ∨ r = 4 ∨ r = 5 ∨ r = 6 ∨ r = 7 by omega) with e | e | e | e | e | e | e | e <;> subst e <;> rfl
        refine q0_repeats (it := bIt B r) hz (fun j hj' => cb_It hB hr (by omega)) (fun j hj' => by have := wf_It hwf hr (show j < bLn B r by omega); omega) (by omega) (by omega) (by omega) (fun z => ?_) (fun z => ?_)
        · exact ⟨fun y => absurd y (by decide), fun _ => hk _ ⟨by omega, by omega, (zagain_iff _ _ _ _).mpr ⟨q', z⟩, fun y y1 y2 => hj y y1 y2⟩⟩
        · exact ⟨fun _ => hno (eq_false_of_ne_true fun y => z ((zagain_iff _ _ _ _).mp y).2), fun y => absurd rfl y⟩
  exact ⟨bLn B r - 1 + 1, hgo (bLn B r - 1) 0 (by omega) (fun y y1 y2 => by omega)⟩
theorem q12_beatOf {B : zBk} {r : Nat} {w : zW} {k : Int32 → zW → Prop} (hwf : zWF B) (hB : zRB B w) (hr : r < bR B) (hk : ∀ x, zbeat B r x → k (Int32.ofNat x) w) : fX12_beatOf (Int32.ofNat r) w k := by
  have h60 := wf_Ln hwf hr
  have h1 := wf_Ln1 hwf hr
  have hgo : ∀ (c i : Nat), i + 1 + c = bLn B r → (∀ y, 1 ≤ y → y < i + 1 → zagain (bIt B r) 0 (bLn B r) y = false) → fX12_beatOf_L2 k (c + 1) (Int32.ofNat r) (Int32.ofNat (i + 1)) w := by
    intro c
    induction c with
    | zero =>
      intro i hi hj
      rw [fX12_beatOf_L2]
      try dsimp only
      refine q12_longOf hwf hB hr ?_
      refine q12_isAgain (f := 0) hwf hB hr (by omega) (by omega) (by omega) ?_
      rw [show i + 1 = bLn B r by omega, zagain_self]
      exact ⟨fun _ => hk _ ⟨h1, Nat.le_refl _, zagain_self _ _ _, fun y y1 y2 => hj y y1 (by omega)⟩, fun q => absurd q (by decide)⟩
    | succ c ih =>
      intro i hi hj
      rw [fX12_beatOf_L2]
      try dsimp only
      refine q12_longOf hwf hB hr ?_
      refine q12_isAgain (f := 0) hwf hB hr (by omega) (by omega) (by omega) ?_
      cases hq : zagain (bIt B r) 0 (bLn B r) (i + 1) with
      | true => exact ⟨fun _ => hk _ ⟨by omega, by omega, hq, hj⟩, fun q => absurd q (by decide)⟩
      | false =>
        refine ⟨fun q => absurd rfl q, fun _ => ?_⟩
        rw [zl1, zi_add]
        exact ih (i + 1) (by omega) (fun y y1 y2 => by
          by_cases e : y = i + 1
          · rw [e]; exact hq
          · exact hj y y1 (by omega))
  exact ⟨bLn B r - 1 + 1, hgo (bLn B r - 1) 0 (by omega) (fun y y1 y2 => by omega)⟩

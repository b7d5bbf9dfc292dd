/-! Level 2: what a read book is; the class's uses and meanings -/
def zUx (X : zBs) (r o : Nat) : Nat := if r < bR X.1 then zcnt (bLn X.1 r) (fun i => bIt X.1 r i == o) else 0
def zUt (X : zBs) (o : Nat) : Nat := zsum (bR X.1) (fun r => zUx X r o)
def zKok (kd a b : Nat) : Bool := if kd = 1 then decide (b = a) else if kd = 2 then decide (a < b) else if kd = 3 then decide (b < a) else true
def zFc (a b u o : Nat) (i : Nat) : Int32 := Int32.ofNat (if i = 0 then a else if i = 1 then b else if i = 2 then u else o)
def zGo (L : Option (Nat × (Nat → Nat))) (F : Nat → Int32) : Bool := match L with
  | none => true
  | some q => decide (¬ (zvr F q.2 q.1).2 0 = 0)
def zMm (X : zBs) (o m : Nat) : Bool := decide (o < bW X.1) && (zKok (bKd X.1 o) (m / 3) (m % 3) && zGo X.2.2 (zFc (m / 3) (m % 3) (zUt X o) o))
def zFin (X : zBs) : zBk := (bW X.1, bR X.1, bC X.1, bLn X.1, bIt X.1, zUx X, bCt X.1, bKd X.1, zMm X)
theorem zFin_wf {X : zBs} (h : zXok X) : zWF (zFin X) := by
  obtain ⟨h1, h2, h3, h4, h5, h6, h7, h8⟩ := h
  refine ⟨h1, h2, h3, fun r o => rfl, h4, h5, h6, fun o m ho => ?_⟩
  have ho' : bW X.1 ≤ o := ho
  show (decide (o < bW X.1) && _) = false
  rw [decide_eq_false (by omega), Bool.false_and]
theorem zUt_le {X : zBs} (h : zXok X) (o : Nat) : zUt X o ≤ 480 := wf_Us (zFin_wf h) o
theorem zml_ats {f : Nat → Bool} {m : Nat} (hm : m < 9) (hf : f m = true) : (zml f).getD (zcnt m f) 0 = m := by
  have hlen : ∀ n, ((List.range n).filter (fun m => f m)).length = zcnt n f := by
    intro n
    induction n with
    | zero => rfl
    | succ n ih =>
      rw [List.range_succ, List.filter_append, List.length_append, ih, zcnt_S]
      by_cases q : f n = true
      · rw [if_pos q]; simp [q]
      · rw [if_neg q]; simp [q]
  have h : ∀ n, m < n → ((List.range n).filter (fun m => f m)).getD (zcnt m f) 0 = m := by
    intro n
    induction n with
    | zero => intro q; omega
    | succ n ih =>
      intro q
      rw [List.range_succ, List.filter_append, List.getD_eq_getElem?_getD]
      by_cases e : m = n
      · subst e
        rw [List.getElem?_append_right (by rw [hlen]; exact Nat.le_refl _), hlen, Nat.sub_self]
        simp [hf]
      · have hlt : zcnt m f < zcnt n f := by
          have := zcnt_mono f (show m + 1 ≤ n by omega)
          rw [zcnt_S, if_pos hf] at this
          omega
        rw [List.getElem?_append_left (by rw [hlen]; exact hlt), ← List.getD_eq_getElem?_getD]
        exact ih (by omega)
  exact h 9 hm
theorem q0_wordAtX {b r i : Nat} {X : zBs} {w : zW} {k : Int32 → zW → Prop} (hX : zXok X) (h10 : gI w (b + 10) r = Int32.ofNat (bLn X.1 r)) (h12 : gI w (b + 11 + 1 + r) i = Int32.ofNat (bIt X.1 r i)) (hr : r < bR X.1) (hi : i < bLn X.1 r) (hk : k (Int32.ofNat (bIt X.1 r i)) w) : fX0_wordAt b (Int32.ofNat r) (Int32.ofNat i) w k := by
  have h8 := hX.1.2.1
  have h60 := (hX.2.1 r hr).1
  rw [fX0_wordAt, zi_nat (show r < 2 ^ 31 by omega), zi_nat (show i < 2 ^ 31 by omega), h10, h12]
  exact ⟨fun q => absurd q (zi_0le (by omega)), fun _ => ⟨zi_in (by omega) (by omega), fun q => absurd ((zi_le (by omega) (by omega)).mp q) (by omega), fun _ => ⟨fun q => absurd ((zi_le (a := 60) (by decide) (by omega)).mp q) (by omega), fun _ => ⟨zi_in (by omega) (by omega), hk⟩⟩⟩⟩
/-- only how often words are in rows is told anew -/
def zfW (b : Nat) (w v : zW) : Prop := (∀ a c, a ≠ b + 3 → (a < b + 21 ∨ b + 29 ≤ a) → gI v a c = gI w a c) ∧ v.2 = w.2
theorem q0_countUses {b : Nat} {X : zBs} {w : zW} {k : zW → Prop} (hb : b = 40 ∨ b = 80) (hX : zXok X) (h : zCX b X w) (hk : ∀ v, zfW b w v → (∀ r o, r < bR X.1 → o < 4 → gI v (b + 20 + 1 + r) o = Int32.ofNat (zUx X r o)) → (∀ o, o < 4 → gI v (b + 3) o = Int32.ofNat (zUt X o)) → k v) : fX0_countUses b w k := by
  have h8 := hX.1.2.1
  have h4 := hX.1.1
  have hin : ∀ (g : Int32 → zW → Prop) (r : Nat), r < bR X.1 → (∀ v, zfW b w v → (∀ r' o, r' < r + 1 → o < 4 → gI v (b + 20 + 1 + r') o = Int32.ofNat (zUx X r' o)) → (∀ o, o < 4 → gI v (b + 3) o = Int32.ofNat (zsum (r + 1) (fun r => zUx X r o))) → g (Int32.ofNat (r + 1)) v) →
      ∀ (d i : Nat) (v : zW), i + d = bLn X.1 r → zfW b w v → (∀ r' o, r' < r → o < 4 → gI v (b + 20 + 1 + r') o = Int32.ofNat (zUx X r' o)) → (∀ o, o < 4 → gI v (b + 20 + 1 + r) o = Int32.ofNat (zcnt i (fun i => bIt X.1 r i == o))) → (∀ o, o < 4 → gI v (b + 3) o = Int32.ofNat (zsum r (fun r => zUx X r o) + zcnt i (fun i => bIt X.1 r i == o))) → fX0_countUses_L28 b k g (d + 1) (Int32.ofNat r) (Int32.ofNat i) v := by
    intro g r hr hg d
    have h60 := (hX.2.1 r hr).1
    induction d with
    | zero =>
      intro i v hi fv hrow hcur hus
      have e10 : gI v (b + 10) r = Int32.ofNat (bLn X.1 r) := (fv.1 _ _ (by omega) (by omega)).trans (h.2.2.2.2.1 r hr)
      rw [fX0_countUses_L28]
      try dsimp only
      rw [zi_nat (show r < 2 ^ 31 by omega), e10]
      refine ⟨zi_in (by omega) (by omega), fun _ => ?_, fun q => absurd ((zi_le (by omega) (by omega)).mpr (by omega)) q⟩
      rw [zl1, zi_add]
      have ei : i = bLn X.1 r := by omega
      have eU : ∀ o, zUx X r o = zcnt i (fun i => bIt X.1 r i == o) := fun o => by rw [zUx, if_pos hr, ei]
      refine hg v fv (fun r' o hr' ho => ?_) (fun o ho => ?_)
      · by_cases e : r' = r
        · rw [e, hcur o ho, eU]
        · exact hrow r' o (by omega) ho
      · rw [hus o ho, zsum_S, eU]
    | succ d ih =>
      intro i v hi fv hrow hcur hus
      have hil : i < bLn X.1 r := by omega
      have hit := hX.2.2.1 r i hr hil
      have e10 : gI v (b + 10) r = Int32.ofNat (bLn X.1 r) := (fv.1 _ _ (by omega) (by omega)).trans (h.2.2.2.2.1 r hr)
      have e12 : gI v (b + 11 + 1 + r) i = Int32.ofNat (bIt X.1 r i) := (fv.1 _ _ (by omega) (by omega)).trans (h.2.2.2.2.2.1 r i hr hil)
      rw [fX0_countUses_L28]
      try dsimp only
      rw [zi_nat (show r < 2 ^ 31 by omega), e10]
      refine ⟨zi_in (by omega) (by omega), fun q => absurd ((zi_le (by omega) (by omega)).mp q) (by omega), fun _ => q0_wordAtX hX e10 e12 hr hil ⟨fun q => absurd q (zi_0le (by omega)), fun _ => ⟨fun q => absurd ((zi_le (a := 4) (by decide) (by omega)).mp q) (by omega), fun _ => ⟨zi_in (by omega) (by omega), ?_⟩⟩⟩⟩
      intro w11 e11 w12 ew12
      rw [zi_nat (show bIt X.1 r i < 2 ^ 31 by omega), hcur _ (by omega), zl1, zi_add] at e11
      have g3 : gI w11 (b + 3) (bIt X.1 r i) = Int32.ofNat (zsum r (fun r' => zUx X r' (bIt X.1 r i)) + zcnt i (fun j => bIt X.1 r j == bIt X.1 r i)) := by rw [e11, gI_sI_ne (by omega)]; exact hus _ (by omega)
      rw [zi_nat (show bIt X.1 r i < 2 ^ 31 by omega), g3, zl1, zi_add] at ew12
      rw [zl1, zi_add]
      refine ih (i + 1) w12 (by omega) ⟨fun a c q1 q2 => by rw [ew12, gI_sI_ne q1, e11, gI_sI_ne (by omega)]; exact fv.1 a c q1 q2, by rw [ew12, e11]; exact fv.2⟩ (fun r' o hr' ho => ?_) (fun o ho => ?_) (fun o ho => ?_)
      · rw [ew12, gI_sI_ne (by omega), e11, gI_sI_ne (by omega)]; exact hrow r' o hr' ho
      · rw [ew12, gI_sI_ne (by omega), e11, zcnt_S]
        by_cases e : o = bIt X.1 r i
        · rw [e, gI_sI_eq, if_pos (beq_self_eq_true _)]
        · rw [gI_sI_ne2 e, if_neg (fun q => e (eq_of_beq q).symm), Nat.add_zero]; exact hcur o ho
      · rw [ew12, zcnt_S]
        by_cases e : o = bIt X.1 r i
        · rw [e, gI_sI_eq, if_pos (beq_self_eq_true _)]
          exact congrArg _ (by omega)
        · rw [gI_sI_ne2 e, e11, gI_sI_ne (by omega), if_neg (fun q => e (eq_of_beq q).symm), Nat.add_zero]; exact hus o ho
  have hgo : ∀ (d r : Nat) (v : zW), r + d = bR X.1 → zfW b w v → (∀ r' o, r' < r → o < 4 → gI v (b + 20 + 1 + r') o = Int32.ofNat (zUx X r' o)) → (∀ o, o < 4 → gI v (b + 3) o = Int32.ofNat (zsum r (fun r => zUx X r o))) → fX0_countUses_L2 b k (d + 1) (Int32.ofNat r) v := by
    intro d
    induction d with
    | zero =>
      intro r v hr fv hrow hus
      have e7 : gI v b 7 = Int32.ofNat (bR X.1) := (fv.1 _ _ (by omega) (by omega)).trans h.2.1.2.2
      have er : r = bR X.1 := by omega
      subst er
      rw [fX0_countUses_L2]
      try dsimp only
      rw [e7]
      exact ⟨fun _ => hk v fv hrow hus, fun q => absurd ((zi_le (by omega) (by omega)).mpr (by omega)) q⟩
    | succ d ih =>
      intro r v hr fv hrow hus
      have hrl : r < bR X.1 := by omega
      have e7 : gI v b 7 = Int32.ofNat (bR X.1) := (fv.1 _ _ (by omega) (by omega)).trans h.2.1.2.2
      have z4 : zln (b + 20 + 1 + r) = 4 := by
        rcases hb with e | e <;> subst e <;> rcases (show r = 0 ∨ r = 1 ∨ r = 2 ∨ r = 3 ∨ r = 4 ∨ r = 5 ∨ r = 6 ∨ r = 7 by omega) with e | e | e | e | e | e | e | e <;> subst e <;> rfl
      rw [fX0_countUses_L2]
      try dsimp only
      rw [e7, zi_nat (show r < 2 ^ 31 by omega)]
      refine ⟨fun q => absurd ((zi_le (by omega) (by omega)).mp q) (by omega), fun _ => ⟨fun q => absurd ((zi_le (a := 8) (by decide) (by omega)).mp q) (by omega), fun _ => ⟨zi_in (by omega) (by omega), q_fill (by rw [z4]; decide) ?_⟩⟩⟩
      rw [z4]
      refine ⟨bLn X.1 r + 1, hin _ r hrl (fun v2 f2 r2 u2 => ih (r + 1) v2 (by omega) f2 r2 u2) (bLn X.1 r) 0 _ (by omega) ⟨fun a c q1 q2 => by rw [gI_aI_ne (by omega)]; exact fv.1 a c q1 q2, fv.2⟩ (fun r' o hr' ho => ?_) (fun o ho => ?_) (fun o ho => ?_)⟩
      · rw [gI_aI_ne (by omega)]; exact hrow r' o hr' ho
      · rw [gI_aI_eq, if_pos ho]; rfl
      · rw [gI_aI_ne (by omega)]; exact hus o ho
  rw [fX0_countUses]
  exact ⟨bR X.1 + 1, hgo (bR X.1) 0 w (by omega) ⟨fun _ _ _ _ => rfl, rfl⟩ (fun r' o hr' => absurd hr' (Nat.not_lt_zero r')) (fun o ho => (h.2.2.2.2.2.2.2.2.2.2.1 o ho).1)⟩
/-- whether a meaning keeps the rules -/
theorem q7_val {X : zBs} {a b u o : Nat} {w : zW} {k : Int32 → zW → Prop} (hX : zXok X) (h0 : X.2.2 = none → gI w 6 3 = Int32.ofNat 1 ∧ gI w 7 0 = Int32.ofNat 1) (h1 : ∀ n g, X.2.2 = some (n, g) → gI w 6 3 = Int32.ofNat n ∧ ∀ i, i < n → gI w 7 i = zstp (g i))
    (hk : ∀ v r, zfV 8 w v → (zGo X.2.2 (zFc a b u o) = true → ¬ r = 0) → (zGo X.2.2 (zFc a b u o) = false → r = 0) → k r v) : fX7_value (Int32.ofNat a) (Int32.ofNat b) (Int32.ofNat u) (Int32.ofNat o) w k := by
  cases hL : X.2.2 with
  | none =>
    obtain ⟨e1, e2⟩ := h0 hL
    refine q7_value (N := 1) (g := fun _ => 17) (F := zFc a b u o) e1 (by decide) (fun i hi => ?_) (fun i hi => Or.inl ⟨by decide, by decide⟩) rfl rfl rfl rfl rfl (fun v fv => hk v _ fv (fun _ => ?_) (fun q => ?_))
    · rw [show i = 0 by omega, e2]; decide
    · show ¬ (Int32.ofNat 1) = 0
      decide
    · rw [hL] at q; exact Bool.noConfusion (show true = false from q)
  | some q =>
    obtain ⟨n, g⟩ := q
    obtain ⟨e1, e2⟩ := h1 n g hL
    obtain ⟨r1, r2, r3⟩ := hX.2.2.2.2.2.2.2 n g hL
    refine q7_value (N := n) (g := g) (F := zFc a b u o) e1 (by omega) e2 r2 r3 rfl rfl rfl rfl (fun v fv => hk v _ fv (fun q => ?_) (fun q => ?_))
    · rw [hL] at q; exact of_decide_eq_true q
    · rw [hL] at q; exact Decidable.of_not_not (of_decide_eq_false q)
theorem q0_isOfKind {kd a b : Nat} {w : zW} {k : Int32 → zW → Prop} (hkd : kd < 4) (ha : a < 100) (hb : b < 100) (h1 : zKok kd a b = true → k 1 w) (h0 : zKok kd a b = false → k 0 w) : fX0_isOfKind (Int32.ofNat kd) (Int32.ofNat a) (Int32.ofNat b) w k := by
  rw [fX0_isOfKind]
  intro sv e
  rw [e]
  refine ⟨fun q => ?_, fun q => ⟨fun q2 => ?_, fun q2 => ⟨fun q3 => ?_, fun q3 => ?_⟩⟩⟩
  · have e1 : kd = 1 := (zi_eq (b := 1) (by omega) (by decide)).mp q
    intro v3 e3
    by_cases z : b = a
    · rw [e3.trans (if_neg (fun y => y (by rw [z])))]
      exact ⟨Or.inr rfl, h1 (by rw [zKok, if_pos e1, decide_eq_true z])⟩
    · rw [e3.trans (if_pos (fun y => z ((zi_eq (by omega) (by omega)).mp y)))]
      exact ⟨Or.inl rfl, h0 (by rw [zKok, if_pos e1, decide_eq_false z])⟩
  · have e1 : kd = 2 := (zi_eq (b := 2) (by omega) (by decide)).mp q2
    intro v3 e3
    by_cases z : a < b
    · rw [e3.trans (if_neg (fun y => by have := (zi_le (by omega) (by omega)).mp y; omega))]
      exact ⟨Or.inr rfl, h1 (by rw [zKok, if_neg (by omega), if_pos e1, decide_eq_true z])⟩
    · rw [e3.trans (if_pos ((zi_le (by omega) (by omega)).mpr (by omega)))]
      exact ⟨Or.inl rfl, h0 (by rw [zKok, if_neg (by omega), if_pos e1, decide_eq_false z])⟩
  · have e1 : kd = 3 := (zi_eq (b := 3) (by omega) (by decide)).mp q3
    intro v3 e3
    by_cases z : b < a
    · rw [e3.trans (if_neg (fun y => by have := (zi_le (by omega) (by omega)).mp y; omega))]
      exact ⟨Or.inr rfl, h1 (by rw [zKok, if_neg (by omega), if_neg (by omega), if_pos e1, decide_eq_true z])⟩
    · rw [e3.trans (if_pos ((zi_le (by omega) (by omega)).mpr (by omega)))]
      exact ⟨Or.inl rfl, h0 (by rw [zKok, if_neg (by omega), if_neg (by omega), if_pos e1, decide_eq_false z])⟩
  · have e0 : kd = 0 := by
      have n1 : ¬ kd = 1 := fun z => q (by rw [z]; rfl)
      have n2 : ¬ kd = 2 := fun z => q2 (by rw [z]; rfl)
      have n3 : ¬ kd = 3 := fun z => q3 (by rw [z]; rfl)
      omega
    exact h1 (by rw [zKok, if_neg (by omega), if_neg (by omega), if_neg (by omega)])
/-- only meanings are told anew -/
def zfM (b : Nat) (w v : zW) : Prop := (∀ a c, a ≠ 8 → a ≠ b + 4 → (a < b + 6 ∨ b + 10 ≤ a) → gI v a c = gI w a c) ∧ v.2 = w.2
theorem q0_findMeanings {b : Nat} {X : zBs} {w : zW} {k : zW → Prop} (hb : b = 40 ∨ b = 80) (hX : zXok X) (hW : gI w b 0 = Int32.ofNat (bW X.1)) (hKd : ∀ o, o < bW X.1 → gI w (b + 2) o = Int32.ofNat (bKd X.1 o)) (hU : ∀ o, o < 4 → gI w (b + 3) o = Int32.ofNat (zUt X o)) (h04 : ∀ o, o < 4 → gI w (b + 4) o = Int32.ofNat 0)
    (h0 : X.2.2 = none → gI w 6 3 = Int32.ofNat 1 ∧ gI w 7 0 = Int32.ofNat 1) (h1 : ∀ n g, X.2.2 = some (n, g) → gI w 6 3 = Int32.ofNat n ∧ ∀ i, i < n → gI w 7 i = zstp (g i))
    (hk : ∀ v, zfM b w v → (∀ o, o < 4 → gI v (b + 4) o = Int32.ofNat (zcnt 9 (zMm X o))) → (∀ o i, o < bW X.1 → i < zcnt 9 (zMm X o) → gI v (b + 5 + 1 + o) i = Int32.ofNat ((zml (zMm X o)).getD i 0)) → k v) : fX0_findMeanings b w k := by
  have h4 := hX.1.1
  have hin : ∀ (g : Int32 → zW → Prop) (o : Nat), o < bW X.1 → (∀ v, zfM b w v → (∀ o', o' < o + 1 → gI v (b + 4) o' = Int32.ofNat (zcnt 9 (zMm X o'))) → (∀ o', o + 1 ≤ o' → o' < 4 → gI v (b + 4) o' = Int32.ofNat 0) → (∀ o' i, o' < o + 1 → i < zcnt 9 (zMm X o') → gI v (b + 5 + 1 + o') i = Int32.ofNat ((zml (zMm X o')).getD i 0)) → g (Int32.ofNat (o + 1)) v) →
      ∀ (d m : Nat) (v : zW), m + d = 9 → zfM b w v → (∀ o', o' < o → gI v (b + 4) o' = Int32.ofNat (zcnt 9 (zMm X o'))) → (∀ o', o ≤ o' → o' < 4 → gI v (b + 4) o' = Int32.ofNat 0) → (∀ o' i, o' < o → i < zcnt 9 (zMm X o') → gI v (b + 5 + 1 + o') i = Int32.ofNat ((zml (zMm X o')).getD i 0)) → (∀ i, i < zcnt m (zMm X o) → gI v (b + 5 + 1 + o) i = Int32.ofNat ((zml (zMm X o)).getD i 0)) → fX0_findMeanings_L20 b k g (d + 1) (Int32.ofNat o) (Int32.ofNat (zcnt m (zMm X o))) (Int32.ofNat m) v := by
    intro g o ho hg d
    have hu480 := zUt_le hX o
    induction d with
    | zero =>
      intro m v hm fv hs hs0 hml hcur
      have em : m = 9 := by omega
      subst em
      rw [fX0_findMeanings_L20]
      try dsimp only
      rw [zi_nat (show o < 2 ^ 31 by omega)]
      refine ⟨fun _ => ⟨zi_in (by omega) (by omega), ?_⟩, fun q => absurd (by decide) q⟩
      intro w5 e5
      rw [zl1, zi_add]
      refine hg w5 ⟨fun a c q1 q2 q3 => by rw [e5, gI_sI_ne q2]; exact fv.1 a c q1 q2 q3, by rw [e5]; exact fv.2⟩ (fun o' ho' => ?_) (fun o' a1 a2 => ?_) (fun o' i ho' hi => ?_)
      · rw [e5]
        by_cases e : o' = o
        · rw [e, gI_sI_eq]
        · rw [gI_sI_ne2 e]; exact hs o' (by omega)
      · rw [e5, gI_sI_ne2 (by omega)]; exact hs0 o' (by omega) a2
      · rw [e5, gI_sI_ne (by omega)]
        by_cases e : o' = o
        · rw [e] at hi ⊢; exact hcur i hi
        · exact hml o' i (by omega) hi
    | succ d ih =>
      intro m v hm fv hs hs0 hml hcur
      have hm9 : m < 9 := by omega
      have hc9 := zcnt_le m (zMm X o)
      have e2 : gI v (b + 2) o = Int32.ofNat (bKd X.1 o) := (fv.1 _ _ (by omega) (by omega) (by omega)).trans (hKd o ho)
      have hkd4 := hX.2.2.2.2.2.1 o
      have hdm : m / 3 < 100 := by omega
      have hmm : m % 3 < 100 := by omega
      have ih' := ih (m + 1)
      rw [zcnt_S] at ih'
      have h78 : ∀ (t : Int32) (u : zW), zfV 8 v u → (zMm X o m = true → ¬ t = 0) → (zMm X o m = false → t = 0) → fX0_findMeanings_J78 b k g (fX0_findMeanings_L20 b k g (d + 1)) (Int32.ofNat o) (Int32.ofNat (zcnt m (zMm X o))) (Int32.ofNat m) t u := by
        intro t u fu t1 t0
        have fu' : zfM b w u := ⟨fun a c q1 q2 q3 => by rw [fu.1 a c q1]; exact fv.1 a c q1 q2 q3, fu.2.trans fv.2⟩
        have su : ∀ a c, a ≠ 8 → gI u a c = gI v a c := fun a c q => fu.1 a c q
        rw [fX0_findMeanings_J78]
        refine ⟨fun q => ?_, fun q => ?_⟩
        · have ef : zMm X o m = false := by
            cases hz : zMm X o m with
            | false => rfl
            | true => exact absurd q (t1 hz)
          rw [zl1, zi_add]
          rw [ef, if_neg (by decide), Nat.add_zero] at ih'
          exact ih' u (by omega) fu' (fun o' ho' => by rw [su _ _ (by omega)]; exact hs o' ho') (fun o' a1 a2 => by rw [su _ _ (by omega)]; exact hs0 o' a1 a2) (fun o' i ho' hi => by rw [su _ _ (by omega)]; exact hml o' i ho' hi) (fun i hi => by rw [su _ _ (by omega)]; exact hcur i hi)
        · have ef : zMm X o m = true := by
            cases hz : zMm X o m with
            | true => rfl
            | false => exact absurd (t0 hz) q
          rw [ef, if_pos rfl] at ih'
          rw [zi_nat (show o < 2 ^ 31 by omega), zi_nat (show zcnt m (zMm X o) < 2 ^ 31 by omega)]
          refine ⟨fun z => absurd ((zi_le (a := 9) (by decide) (by omega)).mp z) (by omega), fun _ => ⟨zi_in (by omega) (by omega), zi_in (by omega) (by omega), ?_⟩⟩
          intro w15 e15
          rw [zl1, zi_add, zi_add]
          refine ih' w15 (by omega) ⟨fun a c q1 q2 q3 => by rw [e15, gI_sI_ne (by omega)]; exact fu'.1 a c q1 q2 q3, by rw [e15]; exact fu'.2⟩ (fun o' ho' => by rw [e15, gI_sI_ne (by omega), su _ _ (by omega)]; exact hs o' ho') (fun o' a1 a2 => by rw [e15, gI_sI_ne (by omega), su _ _ (by omega)]; exact hs0 o' a1 a2) (fun o' i ho' hi => by rw [e15, gI_sI_ne (by omega), su _ _ (by omega)]; exact hml o' i ho' hi) (fun i hi => ?_)
          rw [e15]
          by_cases e : i = zcnt m (zMm X o)
          · rw [e, gI_sI_eq, zml_ats hm9 ef]
          · rw [gI_sI_ne2 e, su _ _ (by omega)]; exact hcur i (by omega)
      have eMm : zMm X o m = (zKok (bKd X.1 o) (m / 3) (m % 3) && zGo X.2.2 (zFc (m / 3) (m % 3) (zUt X o) o)) := by
        show (decide (o < bW X.1) && _) = _
        rw [decide_eq_true ho, Bool.true_and]
      rw [fX0_findMeanings_L20]
      try dsimp only
      refine ⟨fun q => absurd ((zi_le (a := 9) (by decide) (by omega)).mp q) (by omega), fun _ => ?_⟩
      intro v6 e6 v7 e7
      rw [zl3, zi_div (by omega) (by decide)] at e6
      rw [zl3, zi_mod (by omega) (by decide)] at e7
      rw [e6, e7, zi_nat (show o < 2 ^ 31 by omega), e2]
      refine ⟨zi_in (by omega) (by omega), q0_isOfKind hkd4 hdm hmm (fun z => ⟨fun q => absurd q (by decide), fun _ => ?_⟩) (fun z => ⟨fun _ => ?_, fun q => absurd rfl q⟩)⟩
      · have e3 : gI v (b + 3) o = Int32.ofNat (zUt X o) := (fv.1 _ _ (by omega) (by omega) (by omega)).trans (hU o (by omega))
        rw [e3]
        refine q7_val hX (fun q => ?_) (fun n' g' q => ?_) (fun u r fu r1 r0 => ?_)
        · rw [fv.1 _ _ (by omega) (by omega) (by omega), fv.1 _ _ (by omega) (by omega) (by omega)]; exact h0 q
        · exact ⟨by rw [fv.1 _ _ (by omega) (by omega) (by omega)]; exact (h1 n' g' q).1, fun i hi => by rw [fv.1 _ _ (by omega) (by omega) (by omega)]; exact (h1 n' g' q).2 i hi⟩
        · rw [z, Bool.true_and] at eMm
          intro v17 e17
          refine h78 v17 u fu (fun y => ?_) (fun y => ?_)
          · rw [eMm] at y
            rw [e17.trans (if_neg (r1 y))]; decide
          · rw [eMm] at y
            exact e17.trans (if_pos (r0 y))
      · rw [z, Bool.false_and] at eMm
        exact h78 0 v ⟨fun _ _ _ => rfl, rfl⟩ (fun y => by rw [eMm] at y; exact absurd y (by decide)) (fun _ => rfl)
  have hgo : ∀ (d o : Nat) (v : zW), o + d = bW X.1 → zfM b w v → (∀ o', o' < o → gI v (b + 4) o' = Int32.ofNat (zcnt 9 (zMm X o'))) → (∀ o', o ≤ o' → o' < 4 → gI v (b + 4) o' = Int32.ofNat 0) → (∀ o' i, o' < o → i < zcnt 9 (zMm X o') → gI v (b + 5 + 1 + o') i = Int32.ofNat ((zml (zMm X o')).getD i 0)) → fX0_findMeanings_L2 b k (d + 1) (Int32.ofNat o) v := by
    intro d
    induction d with
    | zero =>
      intro o v ho fv hs hs0 hml
      have eo : o = bW X.1 := by omega
      subst eo
      have e0 : gI v b 0 = Int32.ofNat (bW X.1) := (fv.1 _ _ (by omega) (by omega) (by omega)).trans hW
      rw [fX0_findMeanings_L2]
      try dsimp only
      rw [e0]
      refine ⟨fun _ => hk v fv (fun o ho4 => ?_) hml, fun q => absurd ((zi_le (by omega) (by omega)).mpr (Nat.le_refl _)) q⟩
      by_cases e : o < bW X.1
      · exact hs o e
      · rw [hs0 o (by omega) ho4]
        have ez : ∀ n, zcnt n (zMm X o) = 0 := by
          intro n
          induction n with
          | zero => rfl
          | succ n ih => rw [zcnt_S, ih, if_neg (by show ¬ (decide (o < bW X.1) && _) = true; rw [decide_eq_false e, Bool.false_and]; decide)]
        rw [ez]
    | succ d ih =>
      intro o v ho fv hs hs0 hml
      have e0 : gI v b 0 = Int32.ofNat (bW X.1) := (fv.1 _ _ (by omega) (by omega) (by omega)).trans hW
      rw [fX0_findMeanings_L2]
      try dsimp only
      rw [e0]
      refine ⟨fun q => absurd ((zi_le (by omega) (by omega)).mp q) (by omega), fun _ => ⟨fun q => absurd ((zi_le (a := 4) (by decide) (by omega)).mp q) (by omega), fun _ => ⟨9 + 1, ?_⟩⟩⟩
      exact hin _ o (by omega) (fun v2 f2 a1 a2 a3 => ih (o + 1) v2 (by omega) f2 a1 a2 a3) 9 0 v rfl fv hs hs0 hml (fun i hi => absurd hi (Nat.not_lt_zero i))
  rw [fX0_findMeanings]
  exact ⟨bW X.1 + 1, hgo (bW X.1) 0 w (by omega) ⟨fun _ _ _ _ _ => rfl, rfl⟩ (fun o' ho' => absurd ho' (Nat.not_lt_zero o')) (fun o' _ ho' => h04 o' ho') (fun o' i ho' => absurd ho' (Nat.not_lt_zero o'))⟩
/-- the class's book, read -/
theorem q1_made {b : Nat} {X : zBs} {w : zW} {k : Int32 → zW → Prop} (hb : b = 40 ∨ b = 80) (hX : zXok X) (h : zCX b X w) (hk : ∀ v, (∀ a c, a ≠ 8 → (a < b + 3 ∨ b + 29 ≤ a) → gI v a c = gI w a c) → v.2 = w.2 → zCB (zFin X) b v → k 0 v) : fX1_read_J163 b k w := by
  have h4 := hX.1.1
  have h8 := hX.1.2.1
  rw [fX1_read_J163, h.1]
  refine ⟨by omega, q0_countUses hb hX h (fun v fv vr vu => ?_)⟩
  have r3 : gR v 4 3 = b := by rw [gR, fv.2]; exact h.1
  rw [r3]
  refine ⟨by omega, q0_findMeanings hb hX ((fv.1 _ _ (by omega) (by omega)).trans h.2.1.1) (fun o ho => (fv.1 _ _ (by omega) (by omega)).trans (h.2.2.2.1 o ho)) vu (fun o ho => (fv.1 _ _ (by omega) (by omega)).trans (h.2.2.2.2.2.2.2.2.2.2.1 o ho).2) (fun q => ?_) (fun n g q => ?_) (fun u fu us um => ?_)⟩
  · rw [fv.1 _ _ (by omega) (by omega), fv.1 _ _ (by omega) (by omega)]; exact h.2.2.2.2.2.2.2.2.1 q
  · exact ⟨by rw [fv.1 _ _ (by omega) (by omega)]; exact (h.2.2.2.2.2.2.2.2.2.1 n g q).1, fun i hi => by rw [fv.1 _ _ (by omega) (by omega)]; exact (h.2.2.2.2.2.2.2.2.2.1 n g q).2 i hi⟩
  · have iu : ∀ a c, a ≠ 8 → a ≠ b + 3 → a ≠ b + 4 → (a < b + 6 ∨ b + 10 ≤ a) → (a < b + 21 ∨ b + 29 ≤ a) → gI u a c = gI w a c := fun a c q1 q2 q3 q4 q5 => by rw [fu.1 a c q1 q3 q4]; exact fv.1 a c q2 q5
    refine hk u (fun a c q1 q2 => iu a c q1 (by omega) (by omega) (by omega) (by omega)) (fu.2.trans fv.2) ⟨⟨?_, ?_, ?_⟩, fun o ho => ?_, fun o ho => ?_, us, fun o i ho hi => um o i ho hi, fun r hr => ?_, fun r i hr hi => ?_, fun r o hr ho => ?_, fun r hr => ?_⟩
    · rw [iu _ _ (by omega) (by omega) (by omega) (by omega) (by omega)]; exact h.2.1.1
    · rw [iu _ _ (by omega) (by omega) (by omega) (by omega) (by omega)]; exact h.2.1.2.1
    · rw [iu _ _ (by omega) (by omega) (by omega) (by omega) (by omega)]; exact h.2.1.2.2
    · rw [iu _ _ (by omega) (by omega) (by omega) (by omega) (by omega)]; exact h.2.2.2.1 o ho
    · rw [fu.1 _ _ (by omega) (by omega) (by omega)]; exact vu o ho
    · rw [iu _ _ (by omega) (by omega) (by omega) (by omega) (by omega)]; exact h.2.2.2.2.1 r hr
    · have hr' : r < bR X.1 := hr
      rw [iu _ _ (by omega) (by omega) (by omega) (by omega) (by omega)]; exact h.2.2.2.2.2.1 r i hr hi
    · have hr' : r < bR X.1 := hr
      rw [fu.1 _ _ (by omega) (by omega) (by omega)]; exact vr r o hr' ho
    · rw [iu _ _ (by omega) (by omega) (by omega) (by omega) (by omega)]; exact h.2.2.2.2.2.2.1 r hr

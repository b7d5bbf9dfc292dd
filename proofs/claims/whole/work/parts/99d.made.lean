/-! Level 2: the reference's book is taken over, and begins -/
/-- the told half -/
def zR1 (X : zBs) (v : zW) : Prop :=
  (gI v 210 0 = Int32.ofNat (bW X.1) ∧ gI v 210 1 = Int32.ofNat (bC X.1) ∧ gI v 210 2 = Int32.ofNat (bR X.1)) ∧ gI v 210 3 = (if X.2.2.isSome = true then Int32.ofNat 0 else zN1) ∧
  (∀ o, o < bW X.1 → gI v 210 (4 + o) = Int32.ofNat (bKd X.1 o)) ∧ (∀ r, r < 8 → gI v 210 (8 + r) = bCt X.1 r) ∧ (∀ r, r < bR X.1 → gI v 210 (16 + r) = Int32.ofNat (bLn X.1 r)) ∧ (∀ r i, r < bR X.1 → i < bLn X.1 r → gI v 211 (60 * r + i) = Int32.ofNat (bIt X.1 r i)) ∧
  zNm37 0 (bW X.1) X.2.1 v ∧ (∀ n g, X.2.2 = some (n, g) → (∀ i, i < n → gI v 212 i = Int32.ofNat (g i)) ∧ gI v 212 n = Int32.ofNat 0)
theorem zR1_of {X : zBs} {w v : zW} (h : zR1 X w) (hI : ∀ a c, a = 210 ∨ a = 211 ∨ a = 212 → gI v a c = gI w a c) (hL : ∀ c, gL v 214 c = gL w 214 c) : zR1 X v := by
  obtain ⟨⟨h1, h2, h3⟩, h4, h5, h6, h7, h8, h9, h10⟩ := h
  exact ⟨⟨by rw [hI _ _ (by omega)]; exact h1, by rw [hI _ _ (by omega)]; exact h2, by rw [hI _ _ (by omega)]; exact h3⟩, by rw [hI _ _ (by omega)]; exact h4, fun o ho => by rw [hI _ _ (by omega)]; exact h5 o ho, fun r hr => by rw [hI _ _ (by omega)]; exact h6 r hr, fun r hr => by rw [hI _ _ (by omega)]; exact h7 r hr, fun r i hr hi => by rw [hI _ _ (by omega)]; exact h8 r i hr hi, fun o ho => by rw [hL]; exact h9 o ho, fun n g q => ⟨fun i hi => by rw [hI _ _ (by omega)]; exact (h10 n g q).1 i hi, by rw [hI _ _ (by omega)]; exact (h10 n g q).2⟩⟩
theorem q12_over {X : zBs} {w : zW} {k : Int32 → zW → Prop} (hX : zXok X) (h : zRX X w)
    (hk : ∀ v, (∀ a c, a ≠ 210 → a ≠ 211 → a ≠ 212 → gI v a c = gI w a c) → (∀ a c, a ≠ 214 → gL v a c = gL w a c) → (∀ a c, gR v a c = gR w a c) → zR1 X v → fX12_begins v (fun w11 => k 0 w11)) : ∃ n9, fX12_book_L66 k n9 0 w := by
  have h4 := hX.1.1
  have h8 := hX.1.2.1
  obtain ⟨⟨x1, x2, x3⟩, x4, x5, x6, x7, x8, x9, x10, x11, x12⟩ := h
  -- how many codes
  have hcodes : ∃ c, c ≤ 1000 ∧ gI w 200 13 = Int32.ofNat c ∧ (∀ n g, X.2.2 = some (n, g) → c = n + 1) := by
    cases hL : X.2.2 with
    | none => exact ⟨0, by omega, x11 hL, fun n g q => (nomatch q)⟩
    | some q =>
      obtain ⟨n, g⟩ := q
      have := (hX.2.2.2.2.2.2.2 n g hL).1
      refine ⟨n + 1, by omega, (x12 n g hL).1, fun n' g' q => ?_⟩
      injection q with q
      injection q with qa qb
      rw [qa]
  obtain ⟨nc, hc1, hc2, hc3⟩ := hcodes
  have hL158 : ∀ (d i : Nat) (v : zW), i + d = 4 → (∀ a c, ¬ (a = 210 ∧ c < 30) → ¬ (a = 211 ∧ c < 480) → ¬ (a = 212 ∧ c < 1001) → gI v a c = gI w a c) → (∀ c, c < 30 → gI v 210 c = gI w 210 (30 + c)) → (∀ c, c < 480 → gI v 211 c = gI w 211 (480 + c)) → (∀ c, c < nc → gI v 212 c = gI w 212 (1100 + c)) → (∀ a c, ¬ (a = 214 ∧ c < 4) → gL v a c = gL w a c) → (∀ c, c < i → gL v 214 c = gL w 214 (4 + c)) → (∀ a c, gR v a c = gR w a c) → fX12_book_L158 k (d + 1) (Int32.ofNat i) v := by
    intro d
    induction d with
    | zero =>
      intro i v hi fv f1 f2 f3 fl f4 fr
      have ei : i = 4 := by omega
      subst ei
      rw [fX12_book_L158]
      refine ⟨fun _ => hk v (fun a c q1 q2 q3 => fv a c (by omega) (by omega) (by omega)) (fun a c q => fl a c (by omega)) fr ⟨⟨?_, ?_, ?_⟩, ?_, fun o ho => ?_, fun r hr => ?_, fun r hr => ?_, fun r i hr hi => ?_, fun o ho => ?_, fun n g q => ?_⟩, fun q => absurd (by decide) q⟩
      · rw [f1 _ (by omega)]; exact x1
      · rw [f1 _ (by omega)]; exact x2
      · rw [f1 _ (by omega)]; exact x3
      · rw [f1 _ (by omega)]; exact x4
      · rw [f1 _ (by omega), show 30 + (4 + o) = 34 + o by omega]; exact x6 o ho
      · rw [f1 _ (by omega), show 30 + (8 + r) = 38 + r by omega]; exact x7 r hr
      · rw [f1 _ (by omega), show 30 + (16 + r) = 46 + r by omega]; exact x8 r hr
      · have := (hX.2.1 r hr).1
        rw [f2 _ (by omega), show 480 + (60 * r + i) = 480 + 60 * r + i by omega]; exact x9 r i hr hi (by omega)
      · rw [Nat.zero_add, f4 _ (by omega)]; exact x10 o ho
      · have e := hc3 n g q
        obtain ⟨y1, y2, y3⟩ := x12 n g q
        exact ⟨fun i hi => by rw [f3 _ (by omega)]; exact y2 i hi, by rw [f3 _ (by omega)]; exact y3⟩
    | succ d ih =>
      intro i v hi fv f1 f2 f3 fl f4 fr
      rw [fX12_book_L158]
      try dsimp only
      rw [zl4, zi_add, zi_nat (show i < 2 ^ 31 by omega), zi_nat (show 4 + i < 2 ^ 31 by omega)]
      refine ⟨fun q => absurd ((zi_le (by omega) (by omega)).mp q) (by omega), fun _ => ⟨zi_in (by omega) (by omega), zi_in (by omega) (by omega), ?_⟩⟩
      intro w14 e14
      rw [zl1, zi_add]
      refine ih (i + 1) w14 (by omega) (fun a c q1 q2 q3 => by rw [e14]; exact fv a c q1 q2 q3) (fun c hc => by rw [e14]; exact f1 c hc) (fun c hc => by rw [e14]; exact f2 c hc) (fun c hc => by rw [e14]; exact f3 c hc) (fun a c q => by rw [e14, gL_sL, if_neg (by omega)]; exact fl a c q) (fun c hc => ?_) (fun a c => by rw [e14]; exact fr a c)
      rw [e14]
      by_cases e : c = i
      · rw [e, gL_sL_eq]; exact fl _ _ (by omega)
      · rw [gL_sL_ne2 e]; exact f4 c (by omega)
  have hL126 : ∀ (d i : Nat) (v : zW), i + d = nc → (∀ a c, ¬ (a = 210 ∧ c < 30) → ¬ (a = 211 ∧ c < 480) → ¬ (a = 212 ∧ c < 1001) → gI v a c = gI w a c) → (∀ c, c < 30 → gI v 210 c = gI w 210 (30 + c)) → (∀ c, c < 480 → gI v 211 c = gI w 211 (480 + c)) → (∀ c, c < i → gI v 212 c = gI w 212 (1100 + c)) → v.2 = w.2 → fX12_book_L126 k (d + 1) (Int32.ofNat i) v := by
    intro d
    induction d with
    | zero =>
      intro i v hi fv f1 f2 f3 f4
      have ei : i = nc := by omega
      subst ei
      rw [fX12_book_L126]
      try dsimp only
      rw [fv 200 13 (by omega) (by omega) (by omega), hc2]
      refine ⟨fun _ => ⟨4 + 1, hL158 4 0 v rfl fv f1 f2 f3 (fun a c _ => by rw [gL, gL, f4]) (fun c hc => absurd hc (Nat.not_lt_zero c)) (fun a c => by rw [gR, gR, f4])⟩, fun q => absurd ((zi_le (by omega) (by omega)).mpr (Nat.le_refl _)) q⟩
    | succ d ih =>
      intro i v hi fv f1 f2 f3 f4
      rw [fX12_book_L126]
      try dsimp only
      rw [fv 200 13 (by omega) (by omega) (by omega), hc2, zl1100, zi_add, zi_nat (show i < 2 ^ 31 by omega), zi_nat (show 1100 + i < 2 ^ 31 by omega)]
      refine ⟨fun q => absurd ((zi_le (by omega) (by omega)).mp q) (by omega), fun _ => ⟨zi_in (by omega) (by omega), zi_in (by omega) (by omega), ?_⟩⟩
      intro w17 e17
      rw [zl1, zi_add]
      refine ih (i + 1) w17 (by omega) (fun a c q1 q2 q3 => by rw [e17, gI_sI, if_neg (by omega)]; exact fv a c q1 q2 q3) (fun c hc => by rw [e17, gI_sI_ne (by decide)]; exact f1 c hc) (fun c hc => by rw [e17, gI_sI_ne (by decide)]; exact f2 c hc) (fun c hc => ?_) (by rw [e17]; exact f4)
      rw [e17]
      by_cases e : c = i
      · rw [e, gI_sI_eq]; exact fv _ _ (by omega) (by omega) (by omega)
      · rw [gI_sI_ne2 e]; exact f3 c (by omega)
  have hL95 : ∀ (d i : Nat) (v : zW), i + d = 480 → (∀ a c, ¬ (a = 210 ∧ c < 30) → ¬ (a = 211 ∧ c < 480) → gI v a c = gI w a c) → (∀ c, c < 30 → gI v 210 c = gI w 210 (30 + c)) → (∀ c, c < i → gI v 211 c = gI w 211 (480 + c)) → v.2 = w.2 → fX12_book_L95 k (d + 1) (Int32.ofNat i) v := by
    intro d
    induction d with
    | zero =>
      intro i v hi fv f1 f2 f4
      have ei : i = 480 := by omega
      subst ei
      rw [fX12_book_L95]
      exact ⟨fun _ => ⟨nc + 1, hL126 nc 0 v (by omega) (fun a c q1 q2 _ => fv a c q1 q2) f1 f2 (fun c hc => absurd hc (Nat.not_lt_zero c)) f4⟩, fun q => absurd (by decide) q⟩
    | succ d ih =>
      intro i v hi fv f1 f2 f4
      rw [fX12_book_L95]
      try dsimp only
      rw [zl480, zi_add, zi_nat (show i < 2 ^ 31 by omega), zi_nat (show 480 + i < 2 ^ 31 by omega)]
      refine ⟨fun q => absurd ((zi_le (by omega) (by omega)).mp q) (by omega), fun _ => ⟨zi_in (by omega) (by omega), zi_in (by omega) (by omega), ?_⟩⟩
      intro w17 e17
      rw [zl1, zi_add]
      refine ih (i + 1) w17 (by omega) (fun a c q1 q2 => by rw [e17, gI_sI, if_neg (by omega)]; exact fv a c q1 q2) (fun c hc => by rw [e17, gI_sI_ne (by decide)]; exact f1 c hc) (fun c hc => ?_) (by rw [e17]; exact f4)
      rw [e17]
      by_cases e : c = i
      · rw [e, gI_sI_eq]; exact fv _ _ (by omega) (by omega)
      · rw [gI_sI_ne2 e]; exact f2 c (by omega)
  have hL66 : ∀ (d i : Nat) (v : zW), i + d = 30 → (∀ a c, ¬ (a = 210 ∧ c < 30) → gI v a c = gI w a c) → (∀ c, c < i → gI v 210 c = gI w 210 (30 + c)) → v.2 = w.2 → fX12_book_L66 k (d + 1) (Int32.ofNat i) v := by
    intro d
    induction d with
    | zero =>
      intro i v hi fv f1 f4
      have ei : i = 30 := by omega
      subst ei
      rw [fX12_book_L66]
      exact ⟨fun _ => ⟨480 + 1, hL95 480 0 v rfl (fun a c q1 _ => fv a c q1) f1 (fun c hc => absurd hc (Nat.not_lt_zero c)) f4⟩, fun q => absurd (by decide) q⟩
    | succ d ih =>
      intro i v hi fv f1 f4
      rw [fX12_book_L66]
      try dsimp only
      rw [zl30, zi_add, zi_nat (show i < 2 ^ 31 by omega), zi_nat (show 30 + i < 2 ^ 31 by omega)]
      refine ⟨fun q => absurd ((zi_le (by omega) (by omega)).mp q) (by omega), fun _ => ⟨zi_in (by omega) (by omega), zi_in (by omega) (by omega), ?_⟩⟩
      intro w17 e17
      rw [zl1, zi_add]
      refine ih (i + 1) w17 (by omega) (fun a c q1 => by rw [e17, gI_sI, if_neg (by omega)]; exact fv a c q1) (fun c hc => ?_) (by rw [e17]; exact f4)
      rw [e17]
      by_cases e : c = i
      · rw [e, gI_sI_eq]; exact fv _ _ (by omega)
      · rw [gI_sI_ne2 e]; exact f1 c (by omega)
  exact ⟨30 + 1, hL66 30 0 w rfl (fun _ _ _ => rfl) (fun c hc => absurd hc (Nat.not_lt_zero c)) rfl⟩
theorem q12_usesOfX {X : zBs} {o : Nat} {w : zW} {k : Int32 → zW → Prop} (hX : zXok X) (ho : o < 4) (hR : gI w 210 2 = Int32.ofNat (bR X.1)) (hU : ∀ r, r < bR X.1 → gI w 225 (4 * r + o) = Int32.ofNat (zUx X r o)) (hk : k (Int32.ofNat (zUt X o)) w) : fX12_usesOf (Int32.ofNat o) w k := by
  have h8 := hX.1.2.1
  have hgo : ∀ (d r : Nat), r + d = bR X.1 → fX12_usesOf_L4 k (d + 1) (Int32.ofNat o) (Int32.ofNat (zsum r (fun r => zUx X r o))) (Int32.ofNat r) w := by
    intro d
    induction d with
    | zero =>
      intro r hr
      have er : r = bR X.1 := by omega
      subst er
      rw [fX12_usesOf_L4]
      try dsimp only
      rw [fX12_rows, show (2 : Int32).toNatClampNeg = 2 from rfl, hR]
      exact ⟨fun _ => hk, fun q => absurd ((zi_le (by omega) (by omega)).mpr (Nat.le_refl _)) q⟩
    | succ d ih =>
      intro r hr
      rw [fX12_usesOf_L4]
      try dsimp only
      rw [fX12_rows, show (2 : Int32).toNatClampNeg = 2 from rfl, hR, zl4, zi_mul, zi_add, zi_nat (show 4 * r + o < 2 ^ 31 by omega), hU r (by omega)]
      refine ⟨fun q => absurd ((zi_le (by omega) (by omega)).mp q) (by omega), fun _ => ⟨zi_in (by omega) (by omega), ?_⟩⟩
      intro v4 e4
      rw [zi_add] at e4
      rw [e4, zl1, zi_add]
      exact ih (r + 1) (by omega)
  rw [fX12_usesOf]
  exact ⟨bR X.1 + 1, hgo (bR X.1) 0 (by omega)⟩
/-- only the facts and the pile change -/
def zfF (w v : zW) : Prop := (∀ a c, a ≠ 218 → a ≠ 219 → gI v a c = gI w a c) ∧ v.2 = w.2
theorem q12_means {X : zBs} {o m : Nat} {w : zW} {k : Int32 → zW → Prop} (hX : zXok X) (h : zR1 X w) (ho : o < bW X.1) (hm : m < 9) (hU : ∀ r, r < bR X.1 → gI w 225 (4 * r + o) = Int32.ofNat (zUx X r o))
    (h1 : zMm X o m = true → ∀ v, zfF w v → k 1 v) (h0 : zMm X o m = false → ∀ v, zfF w v → k 0 v) : fX12_means (Int32.ofNat o) (Int32.ofNat m) w k := by
  have h4 := hX.1.1
  have hkd := hX.2.2.2.2.2.1 o
  obtain ⟨⟨y1, y2, y3⟩, y4, y5, y6, y7, y8, y9, y10⟩ := h
  have eMm : zMm X o m = (zKok (bKd X.1 o) (m / 3) (m % 3) && zGo X.2.2 (zFc (m / 3) (m % 3) (zUt X o) o)) := by
    show (decide (o < bW X.1) && _) = _
    rw [decide_eq_true ho, Bool.true_and]
  rw [fX12_means]
  intro v1 e1 v2 e2
  rw [zl3, zi_div (by omega) (by decide)] at e1
  rw [zl3, zi_mod (by omega) (by decide)] at e2
  rw [e1, e2, zl4, zi_add, zi_nat (show 4 + o < 2 ^ 31 by omega), y5 o ho]
  refine ⟨zi_in (by omega) (by omega), ?_⟩
  intro v4 ev4 v5 e5
  rw [ev4] at e5
  have e5' : v5 = if zKok (bKd X.1 o) (m / 3) (m % 3) = true then 1 else 0 := by
    rcases (show bKd X.1 o = 0 ∨ bKd X.1 o = 1 ∨ bKd X.1 o = 2 ∨ bKd X.1 o = 3 by omega) with e | e | e | e
    · rw [e] at e5 ⊢
      have ea : v5 = 1 := e5.trans ((if_pos (by decide)).trans ((if_pos (by decide)).trans (if_pos (by decide))))
      rw [ea]
      exact (if_pos rfl).symm
    · rw [e] at e5 ⊢
      have ea : v5 = if ¬ Int32.ofNat (m % 3) = Int32.ofNat (m / 3) then 0 else 1 := e5.trans (if_neg (by decide))
      have ek : zKok 1 (m / 3) (m % 3) = decide (m % 3 = m / 3) := rfl
      rw [ea, ek]
      by_cases z : m % 3 = m / 3
      · rw [if_neg (fun y => y (by rw [z])), if_pos (decide_eq_true z)]
      · rw [if_pos (fun y => z ((zi_eq (by omega) (by omega)).mp y)), if_neg (fun y => z (of_decide_eq_true y))]
    · rw [e] at e5 ⊢
      have ea : v5 = if Int32.ofNat (m % 3) ≤ Int32.ofNat (m / 3) then 0 else 1 := e5.trans ((if_pos (by decide)).trans (if_neg (by decide)))
      have ek : zKok 2 (m / 3) (m % 3) = decide (m / 3 < m % 3) := rfl
      rw [ea, ek]
      by_cases z : m / 3 < m % 3
      · rw [if_neg (fun y => by have := (zi_le (by omega) (by omega)).mp y; omega), if_pos (decide_eq_true z)]
      · rw [if_pos ((zi_le (by omega) (by omega)).mpr (by omega)), if_neg (fun y => z (of_decide_eq_true y))]
    · rw [e] at e5 ⊢
      have ea : v5 = if Int32.ofNat (m / 3) ≤ Int32.ofNat (m % 3) then 0 else 1 := e5.trans ((if_pos (by decide)).trans ((if_pos (by decide)).trans (if_neg (by decide))))
      have ek : zKok 3 (m / 3) (m % 3) = decide (m % 3 < m / 3) := rfl
      rw [ea, ek]
      by_cases z : m % 3 < m / 3
      · rw [if_neg (fun y => by have := (zi_le (by omega) (by omega)).mp y; omega), if_pos (decide_eq_true z)]
      · rw [if_pos ((zi_le (by omega) (by omega)).mpr (by omega)), if_neg (fun y => z (of_decide_eq_true y))]
  rw [fX12_means_J76]
  intro w6 e6 w7 e7
  rw [show (0 : Int32).toNatClampNeg = 0 from rfl] at e6
  rw [show (1 : Int32).toNatClampNeg = 1 from rfl] at e7
  have f7 : zfF w w7 := ⟨fun a c q1 _ => by rw [e7, gI_sI_ne q1, e6, gI_sI_ne q1], by rw [e7, e6]; rfl⟩
  refine q12_usesOfX hX (by omega) ((f7.1 _ _ (by decide) (by decide)).trans y3) (fun r hr => (f7.1 _ _ (by decide) (by decide)).trans (hU r hr)) ?_
  intro w9 e9 w10 e10
  rw [show (2 : Int32).toNatClampNeg = 2 from rfl] at e9
  rw [show (3 : Int32).toNatClampNeg = 3 from rfl] at e10
  have f10 : zfF w w10 := ⟨fun a c q1 q2 => by rw [e10, gI_sI_ne q1, e9, gI_sI_ne q1]; exact f7.1 a c q1 q2, by rw [e10, e9]; exact f7.2⟩
  have hF : ∀ a, a < 4 → gI w10 218 a = zFc (m / 3) (m % 3) (zUt X o) o a := fun a ha => by
    rcases (show a = 0 ∨ a = 1 ∨ a = 2 ∨ a = 3 by omega) with e | e | e | e <;> subst e
    · rw [e10, gI_sI_ne2 (by decide), e9, gI_sI_ne2 (by decide), e7, gI_sI_ne2 (by decide), e6, gI_sI_eq]; rfl
    · rw [e10, gI_sI_ne2 (by decide), e9, gI_sI_ne2 (by decide), e7, gI_sI_eq]; rfl
    · rw [e10, gI_sI_ne2 (by decide), e9, gI_sI_eq]; rfl
    · rw [e10, gI_sI_eq]; rfl
  have g3 : gI w10 210 (3 : Int32).toNatClampNeg = (if X.2.2.isSome = true then Int32.ofNat 0 else zN1) := (f10.1 _ _ (by decide) (by decide)).trans y4
  rw [g3]
  cases hz : zKok (bKd X.1 o) (m / 3) (m % 3) with
  | false =>
    rw [hz, Bool.false_and] at eMm
    rw [hz, if_neg (by decide)] at e5'
    exact ⟨fun _ => h0 eMm w10 f10, fun q => absurd e5' q⟩
  | true =>
    rw [hz, Bool.true_and] at eMm
    rw [hz, if_pos rfl] at e5'
    refine ⟨fun q => by rw [e5'] at q; exact absurd q (by decide), fun _ => ?_⟩
    cases hL : X.2.2 with
    | none =>
      rw [hL] at eMm
      rw [if_neg (by decide)]
      exact ⟨fun _ => h1 eMm w10 f10, fun q => absurd zN1_lt q⟩
    | some q =>
      obtain ⟨n, g⟩ := q
      rw [hL] at eMm
      obtain ⟨r1, r2, r3⟩ := hX.2.2.2.2.2.2.2 n g hL
      obtain ⟨c1, c2⟩ := y10 n g hL
      rw [if_pos (show (some (n, g)).isSome = true from rfl)]
      refine ⟨fun q => absurd q (by decide), fun _ => ?_⟩
      refine q12_worthAt (N := n) (g := g) (F := zFc (m / 3) (m % 3) (zUt X o) o) (by omega) (fun i hi => (f10.1 _ _ (by decide) (by decide)).trans (c1 i hi)) ((f10.1 _ _ (by decide) (by decide)).trans c2) r2 r3 hF (fun v fv => ?_)
      have fv' : zfF w v := ⟨fun a c q1 q2 => (fv.1 a c q2).trans (f10.1 a c q1 q2), fv.2.trans f10.2⟩
      intro v14 e14
      by_cases z : (zvr (zFc (m / 3) (m % 3) (zUt X o) o) g n).2 0 = 0
      · rw [e14.trans (if_pos z)]
        exact ⟨Or.inl rfl, h0 (eMm.trans (decide_eq_false (fun y => y z))) v fv'⟩
      · rw [e14.trans (if_neg z)]
        exact ⟨Or.inr rfl, h1 (eMm.trans (decide_eq_true z)) v fv'⟩
/-- what begins changes -/
def zfN (w v : zW) : Prop := (∀ a c, a ≠ 218 → a ≠ 219 → a ≠ 220 → a ≠ 222 → a ≠ 223 → a ≠ 224 → a ≠ 225 → ¬ (a = 217 ∧ c = 0) → ¬ (a = 200 ∧ c = 21) → gI v a c = gI w a c) ∧ v.2 = w.2
theorem q12_begins {X : zBs} {w : zW} {k : zW → Prop} (hX : zXok X) (h : zR1 X w)
    (hk : ∀ v, zfN w v → zRB (zFin X) v → zNm37 0 (bW X.1) X.2.1 v → (∀ i, i < 12 → gI v 220 i = zbeg (zFin X) i) → gI v 217 0 = Int32.ofNat 0 → gI v 200 21 = Int32.ofNat 0 → (∀ m, m < 4 → gI v 222 m = Int32.ofNat 0) → k v) : fX12_begins w k := by
  have h4 := hX.1.1
  have h8 := hX.1.2.1
  have hf := h
  obtain ⟨⟨y1, y2, y3⟩, y4, y5, y6, y7, y8, y9, y10⟩ := h
  -- the last loop
  have hL186 : ∀ (d i : Nat) (v : zW), i + d = 4 → (∀ u, (∀ a c, a ≠ 222 → gI u a c = gI v a c) → u.2 = v.2 → (∀ m, m < 4 → gI u 222 m = Int32.ofNat 0) → k u) → (∀ m, m < i → gI v 222 m = Int32.ofNat 0) → fX12_begins_L186 k (d + 1) (Int32.ofNat i) v := by
    intro d
    induction d with
    | zero =>
      intro i v hi hku hm
      have ei : i = 4 := by omega
      subst ei
      rw [fX12_begins_L186]
      exact ⟨fun _ => hku v (fun _ _ _ => rfl) rfl hm, fun q => absurd (by decide) q⟩
    | succ d ih =>
      intro i v hi hku hm
      rw [fX12_begins_L186]
      try dsimp only
      rw [zi_nat (show i < 2 ^ 31 by omega), show ((0 : Int32) &&& 1) = Int32.ofNat 0 from by decide]
      refine ⟨fun q => absurd ((zi_le (a := 4) (by decide) (by omega)).mp q) (by omega), fun _ => ⟨zi_in (by omega) (by omega), ?_⟩⟩
      intro w10 e10
      rw [zl1, zi_add]
      refine ih (i + 1) w10 (by omega) (fun u u1 u2 u3 => hku u (fun a c q => by rw [u1 a c q, e10, gI_sI_ne q]) (by rw [u2, e10]; rfl) u3) (fun m hm1 => ?_)
      rw [e10]
      by_cases e : m = i
      · rw [e, gI_sI_eq]
      · rw [gI_sI_ne2 e]; exact hm m (by omega)
  -- the meanings of a word
  let U : zW → Prop := fun v => ∀ r o, r < 8 → o < 4 → gI v 225 (4 * r + o) = Int32.ofNat (zUx X r o)
  let fr : zW → Prop := fun v => (∀ a c, a ≠ 218 → a ≠ 219 → a ≠ 223 → a ≠ 224 → a ≠ 225 → gI v a c = gI w a c) ∧ v.2 = w.2
  let M : Nat → zW → Prop := fun o v => (∀ p m, p < o → m < 9 → gI v 223 (9 * p + m) = if zMm X p m = true then Int32.ofNat 1 else Int32.ofNat 0) ∧ (∀ p, p < o → gI v 224 p = Int32.ofNat (zcnt 9 (zMm X p)))
  have hL75end : ∀ (n : Nat) (v : zW), fr v → U v → M 4 v → fX12_begins_L75 k (n + 1) (Int32.ofNat 4) v := by
    intro n v fv uv mv
    rw [fX12_begins_L75]
    refine ⟨fun _ => q12_forgets ?_, fun q => absurd (by decide) q⟩
    intro w6 e6 w7 e7
    rw [show (0 : Int32).toNatClampNeg = 0 from rfl] at e6
    refine ⟨4 + 1, hL186 4 0 w7 rfl (fun u u1 u2 u3 => ?_) (fun m hm => absurd hm (Nat.not_lt_zero m))⟩
    have i7 : ∀ a c, a ≠ 220 → ¬ (a = 217 ∧ c = 0) → ¬ (a = 200 ∧ c = 21) → gI w7 a c = gI v a c := fun a c q1 q2 q3 => by rw [e7, gI_sI, if_neg q3, e6, gI_sI, if_neg q2, gI_aI_ne q1]
    have iu : ∀ a c, a ≠ 222 → a ≠ 220 → ¬ (a = 217 ∧ c = 0) → ¬ (a = 200 ∧ c = 21) → gI u a c = gI v a c := fun a c q0 q1 q2 q3 => by rw [u1 a c q0]; exact i7 a c q1 q2 q3
    have su : u.2 = w.2 := by rw [u2, e7, e6]; exact fv.2
    have iw : ∀ a c, a = 210 ∨ a = 211 ∨ a = 212 → gI u a c = gI w a c := fun a c q => by rw [iu a c (by omega) (by omega) (by omega) (by omega)]; exact fv.1 a c (by omega) (by omega) (by omega) (by omega) (by omega)
    refine hk u ⟨fun a c q1 q2 q3 q4 q5 q6 q7 q8 q9 => by rw [iu a c q4 q3 q8 q9]; exact fv.1 a c q1 q2 q5 q6 q7, su⟩ ⟨⟨?_, ?_, ?_⟩, fun o ho => ?_, fun r hr => ?_, fun r hr => ?_, fun r i hr hi => ?_, fun r o hr ho => ?_, fun o m ho hm => ?_, fun o ho => ?_⟩ (fun o ho => by rw [gL, su]; exact y9 o ho) (fun i hi => ?_) ?_ ?_ u3
    · rw [iw _ _ (by omega)]; exact y1
    · rw [iw _ _ (by omega)]; exact y2
    · rw [iw _ _ (by omega)]; exact y3
    · rw [iw _ _ (by omega)]; exact y5 o ho
    · rw [iw _ _ (by omega)]; exact y6 r hr
    · rw [iw _ _ (by omega)]; exact y7 r hr
    · rw [iw _ _ (by omega)]; exact y8 r i hr hi
    · rw [iu _ _ (by omega) (by omega) (by omega) (by omega)]; exact uv r o hr ho
    · rw [iu _ _ (by omega) (by omega) (by omega) (by omega)]; exact mv.1 o m ho hm
    · rw [iu _ _ (by omega) (by omega) (by omega) (by omega)]; exact mv.2 o ho
    · rw [u1 _ _ (by omega), e7, gI_sI_ne (by decide), e6, gI_sI_ne (by decide), gI_aI_eq]
      unfold zbeg
      by_cases e : i < 4
      · rw [if_pos e, if_pos e]; rfl
      · rw [if_neg e, if_pos hi, if_neg e, fv.1 _ _ (by decide) (by decide) (by decide) (by decide) (by decide), show i + 4 = 8 + (i - 4) by omega]
        exact y6 (i - 4) (by omega)
    · rw [u1 _ _ (by omega), e7, gI_sI_ne (by decide), e6, gI_sI_eq]; rfl
    · rw [u1 _ _ (by omega), e7, gI_sI_eq]; rfl
  have hL89 : ∀ (g : Int32 → zW → Prop) (o : Nat), o < 4 → (∀ v, fr v → U v → M (o + 1) v → g (Int32.ofNat (o + 1)) v) →
      ∀ (d m : Nat) (v : zW), m + d = 9 → fr v → U v → M o v → (∀ p, p < m → gI v 223 (9 * o + p) = if zMm X o p = true then Int32.ofNat 1 else Int32.ofNat 0) → gI v 224 o = Int32.ofNat (zcnt m (zMm X o)) → fX12_begins_L89 k g (d + 1) (Int32.ofNat o) (Int32.ofNat m) v := by
    intro g o ho hg d
    induction d with
    | zero =>
      intro m v hm fv uv mv cur cnt
      have em : m = 9 := by omega
      subst em
      rw [fX12_begins_L89]
      refine ⟨fun _ => ?_, fun q => absurd (by decide) q⟩
      rw [zl1, zi_add]
      refine hg v fv uv ⟨fun p m hp hm => ?_, fun p hp => ?_⟩
      · by_cases e : p = o
        · rw [e]; exact cur m hm
        · exact mv.1 p m (by omega) hm
      · by_cases e : p = o
        · rw [e]; exact cnt
        · exact mv.2 p (by omega)
    | succ d ih =>
      intro m v hm fv uv mv cur cnt
      have hc9 := zcnt_le m (zMm X o)
      have ih' := ih (m + 1)
      rw [zcnt_S] at ih'
      have hJ : ∀ (t : Nat) (u : zW), zfF v u → t = (if zMm X o m = true then 1 else 0) → fX12_begins_J127 k g (fX12_begins_L89 k g (d + 1)) (Int32.ofNat o) (Int32.ofNat m) (Int32.ofNat t) (Int32.ofNat (9 * o + m)) u := by
        intro t u fu ht
        have ht2 : t < 2 := by
          rw [ht]
          by_cases z : zMm X o m = true
          · rw [if_pos z]; omega
          · rw [if_neg z]; omega
        have tand : Int32.ofNat t &&& 1 = Int32.ofNat t := by rw [zi_and1, Nat.mod_eq_of_lt ht2]
        rw [fX12_begins_J127, zi_nat (show 9 * o + m < 2 ^ 31 by omega), tand, zl9, zi_mul, zi_add, zi_nat (show 9 * o + m < 2 ^ 31 by omega)]
        refine ⟨zi_in (by omega) (by omega), ?_⟩
        intro w17 e17
        refine ⟨zi_in (by omega) (by omega), zi_in (by omega) (by omega), ?_⟩
        have g223 : gI w17 223 (9 * o + m) = Int32.ofNat t := by rw [e17, gI_sI_eq]
        have g224 : gI w17 224 o = Int32.ofNat (zcnt m (zMm X o)) := by rw [e17, gI_sI_ne (by decide), fu.1 _ _ (by decide) (by decide)]; exact cnt
        intro v20 e20
        rw [g223] at e20
        have e20' : v20 = Int32.ofNat t := by
          by_cases z : t = 0
          · rw [e20.trans (if_pos (by rw [z]; rfl)), z]; rfl
          · rw [e20.trans (if_neg (fun y => z ((zi_eq (b := 0) (by omega) (by decide)).mp y))), show t = 1 by omega]; rfl
        rw [fX12_begins_J154, zi_nat (show o < 2 ^ 31 by omega), g224, e20', zi_add]
        refine ⟨zi_in ho (by omega), ?_⟩
        intro w22 e22
        rw [zl1, zi_add]
        have i22 : ∀ a c, a ≠ 218 → a ≠ 219 → ¬ (a = 223 ∧ c = 9 * o + m) → ¬ (a = 224 ∧ c = o) → gI w22 a c = gI v a c := fun a c q1 q2 q3 q4 => by rw [e22, gI_sI, if_neg q4, e17, gI_sI, if_neg q3]; exact fu.1 a c q1 q2
        refine ih' w22 (by omega) ⟨fun a c q1 q2 q3 q4 q5 => by rw [i22 a c q1 q2 (by omega) (by omega)]; exact fv.1 a c q1 q2 q3 q4 q5, by rw [e22, e17]; exact fu.2.trans fv.2⟩ (fun r o' hr ho' => by rw [i22 _ _ (by omega) (by omega) (by omega) (by omega)]; exact uv r o' hr ho') ⟨fun p m' hp hm' => by rw [i22 _ _ (by omega) (by omega) (by omega) (by omega)]; exact mv.1 p m' hp hm', fun p hp => by rw [i22 _ _ (by omega) (by omega) (by omega) (by omega)]; exact mv.2 p hp⟩ (fun p hp => ?_) ?_
        · by_cases e : p = m
          · rw [e, e22, gI_sI_ne (by decide), g223, ht]
            by_cases z : zMm X o m = true
            · rw [if_pos z, if_pos z]
            · rw [if_neg z, if_neg z]
          · rw [i22 _ _ (by omega) (by omega) (by omega) (by omega)]; exact cur p (by omega)
        · rw [e22, gI_sI_eq, ht]
      have hR1 : zR1 X v := zR1_of hf (fun a c q => fv.1 a c (by omega) (by omega) (by omega) (by omega) (by omega)) (fun c => by rw [gL, gL, fv.2])
      rw [fX12_begins_L89]
      try dsimp only
      rw [fX12_wordsTold, show (0 : Int32).toNatClampNeg = 0 from rfl, hR1.1.1, zl9, zi_mul, zi_add]
      refine ⟨fun q => absurd ((zi_le (by omega) (by omega)).mp q) (by omega), fun _ => ⟨fun q => ?_, fun q => ?_⟩⟩
      · have q' := (zi_le (by omega) (by omega)).mp q
        refine hJ 0 v ⟨fun _ _ _ _ => rfl, rfl⟩ ?_
        rw [if_neg (by show ¬ (decide (o < bW X.1) && _) = true; rw [decide_eq_false (by omega), Bool.false_and]; decide)]
      · have q' : o < bW X.1 := by
          by_cases z : o < bW X.1
          · exact z
          · exact absurd ((zi_le (by omega) (by omega)).mpr (by omega)) q
        refine q12_means hX hR1 q' (by omega) (fun r hr => uv r o (by omega) ho) (fun z u fu => ?_) (fun z u fu => ?_)
        · intro v24 e24
          rw [e24.trans (if_neg (by decide))]
          exact hJ 1 u fu (by rw [z]; rfl)
        · intro v24 e24
          rw [e24.trans (if_pos rfl)]
          exact hJ 0 u fu (by rw [z]; rfl)
  have hL75 : ∀ (d o : Nat) (v : zW), o + d = 4 → fr v → U v → M o v → fX12_begins_L75 k (d + 1) (Int32.ofNat o) v := by
    intro d
    induction d with
    | zero =>
      intro o v ho fv uv mv
      have eo : o = 4 := by omega
      subst eo
      exact hL75end 0 v fv uv mv
    | succ d ih =>
      intro o v ho fv uv mv
      rw [fX12_begins_L75]
      try dsimp only
      rw [zi_nat (show o < 2 ^ 31 by omega)]
      refine ⟨fun q => absurd ((zi_le (a := 4) (by decide) (by omega)).mp q) (by omega), fun _ => ⟨zi_in (by omega) (by omega), ?_⟩⟩
      intro w12 e12
      refine ⟨9 + 1, hL89 _ o (by omega) (fun v2 f2 u2 m2 => ih (o + 1) v2 (by omega) f2 u2 m2) 9 0 w12 rfl ⟨fun a c q1 q2 q3 q4 q5 => by rw [e12, gI_sI_ne q4]; exact fv.1 a c q1 q2 q3 q4 q5, by rw [e12]; exact fv.2⟩ (fun r o' hr ho' => by rw [e12, gI_sI_ne (by decide)]; exact uv r o' hr ho') ⟨fun p m hp hm => by rw [e12, gI_sI_ne (by decide)]; exact mv.1 p m hp hm, fun p hp => by rw [e12, gI_sI_ne2 (by omega)]; exact mv.2 p hp⟩ (fun p hp => absurd hp (Nat.not_lt_zero p)) (by rw [e12, gI_sI_eq]; rfl)⟩
  -- how often each word is in each row
  have hL33 : ∀ (g : Int32 → zW → Prop) (r : Nat), r < bR X.1 → (∀ v, fr v → (∀ r' o, r' < 8 → o < 4 → gI v 225 (4 * r' + o) = Int32.ofNat (if r' < r + 1 then zUx X r' o else 0)) → g (Int32.ofNat (r + 1)) v) →
      ∀ (d i : Nat) (v : zW), i + d = bLn X.1 r → fr v → (∀ r' o, r' < 8 → o < 4 → gI v 225 (4 * r' + o) = Int32.ofNat (if r' < r then zUx X r' o else if r' = r then zcnt i (fun i => bIt X.1 r i == o) else 0)) → fX12_begins_L33 k g (d + 1) (Int32.ofNat r) (Int32.ofNat i) v := by
    intro g r hr hg d
    have h60 := (hX.2.1 r hr).1
    induction d with
    | zero =>
      intro i v hi fv uv
      have e16 : gI v 210 (16 + r) = Int32.ofNat (bLn X.1 r) := (fv.1 _ _ (by decide) (by decide) (by decide) (by decide) (by decide)).trans (y7 r hr)
      rw [fX12_begins_L33]
      try dsimp only
      rw [fX12_longOf, zl16, zi_add, zi_nat (show 16 + r < 2 ^ 31 by omega), e16]
      refine ⟨zi_in (by omega) (by omega), fun _ => ?_, fun q => absurd ((zi_le (by omega) (by omega)).mpr (by omega)) q⟩
      rw [zl1, zi_add]
      refine hg v fv (fun r' o hr' ho => ?_)
      rw [uv r' o hr' ho]
      by_cases e : r' < r
      · rw [if_pos e, if_pos (by omega)]
      · rw [if_neg e]
        by_cases e2 : r' = r
        · rw [if_pos e2, if_pos (by omega), e2, zUx, if_pos hr, show i = bLn X.1 r by omega]
        · rw [if_neg e2, if_neg (by omega)]
    | succ d ih =>
      intro i v hi fv uv
      have hil : i < bLn X.1 r := by omega
      have hit := hX.2.2.1 r i hr hil
      have e16 : gI v 210 (16 + r) = Int32.ofNat (bLn X.1 r) := (fv.1 _ _ (by decide) (by decide) (by decide) (by decide) (by decide)).trans (y7 r hr)
      have e211 : gI v 211 (60 * r + i) = Int32.ofNat (bIt X.1 r i) := (fv.1 _ _ (by decide) (by decide) (by decide) (by decide) (by decide)).trans (y8 r i hr hil)
      rw [fX12_begins_L33]
      try dsimp only
      rw [fX12_longOf, zl16, zi_add, zi_nat (show 16 + r < 2 ^ 31 by omega), e16]
      refine ⟨zi_in (by omega) (by omega), fun q => absurd ((zi_le (by omega) (by omega)).mp q) (by omega), fun _ => ?_⟩
      rw [fX12_itemOf, zl60, zi_mul, zi_add, zi_nat (show 60 * r + i < 2 ^ 31 by omega), e211, zl4, zi_mul, zi_add, zi_nat (show 4 * r + bIt X.1 r i < 2 ^ 31 by omega)]
      refine ⟨zi_in (by omega) (by omega), zi_in (by omega) (by omega), ?_⟩
      intro w29 e29
      have hcur := uv r (bIt X.1 r i) (by omega) (by omega)
      rw [if_neg (Nat.lt_irrefl r), if_pos rfl] at hcur
      rw [hcur, zl1, zi_add] at e29
      rw [zl1, zi_add]
      refine ih (i + 1) w29 (by omega) ⟨fun a c q1 q2 q3 q4 q5 => by rw [e29, gI_sI_ne q5]; exact fv.1 a c q1 q2 q3 q4 q5, by rw [e29]; exact fv.2⟩ (fun r' o hr' ho => ?_)
      rw [e29]
      by_cases e : r' = r
      · rw [e, if_neg (Nat.lt_irrefl r), if_pos rfl, zcnt_S]
        by_cases e2 : o = bIt X.1 r i
        · rw [e2, gI_sI_eq, if_pos (beq_self_eq_true _)]
        · rw [gI_sI_ne2 (by omega), if_neg (fun q => e2 (eq_of_beq q).symm), Nat.add_zero]
          have := uv r o (by omega) ho
          rw [if_neg (Nat.lt_irrefl r), if_pos rfl] at this
          exact this
      · rw [gI_sI_ne2 (by omega)]
        have := uv r' o hr' ho
        rw [if_neg e] at this ⊢
        exact this
  have hL23 : ∀ (d r : Nat) (v : zW), r + d = bR X.1 → fr v → (∀ r' o, r' < 8 → o < 4 → gI v 225 (4 * r' + o) = Int32.ofNat (if r' < r then zUx X r' o else 0)) → fX12_begins_L23 k (d + 1) (Int32.ofNat r) v := by
    intro d
    induction d with
    | zero =>
      intro r v hr fv uv
      have er : r = bR X.1 := by omega
      subst er
      have e2 : gI v 210 2 = Int32.ofNat (bR X.1) := (fv.1 _ _ (by decide) (by decide) (by decide) (by decide) (by decide)).trans y3
      rw [fX12_begins_L23]
      try dsimp only
      rw [fX12_rows, show (2 : Int32).toNatClampNeg = 2 from rfl, e2]
      refine ⟨fun _ => ⟨4 + 1, hL75 4 0 v rfl fv (fun r o hr ho => ?_) ⟨fun p m hp => absurd hp (Nat.not_lt_zero p), fun p hp => absurd hp (Nat.not_lt_zero p)⟩⟩, fun q => absurd ((zi_le (by omega) (by omega)).mpr (Nat.le_refl _)) q⟩
      rw [uv r o hr ho]
      by_cases e : r < bR X.1
      · rw [if_pos e]
      · rw [if_neg e, zUx, if_neg e]
    | succ d ih =>
      intro r v hr fv uv
      have e2 : gI v 210 2 = Int32.ofNat (bR X.1) := (fv.1 _ _ (by decide) (by decide) (by decide) (by decide) (by decide)).trans y3
      rw [fX12_begins_L23]
      try dsimp only
      rw [fX12_rows, show (2 : Int32).toNatClampNeg = 2 from rfl, e2]
      refine ⟨fun q => absurd ((zi_le (by omega) (by omega)).mp q) (by omega), fun _ => ⟨bLn X.1 r + 1, hL33 _ r (by omega) (fun v2 f2 u2 => ih (r + 1) v2 (by omega) f2 u2) (bLn X.1 r) 0 v (by omega) fv (fun r' o hr' ho => ?_)⟩⟩
      rw [uv r' o hr' ho]
      by_cases e : r' < r
      · rw [if_pos e, if_pos e]
      · rw [if_neg e, if_neg e]
        by_cases e3 : r' = r
        · rw [if_pos e3]; rfl
        · rw [if_neg e3]
  have hL2 : ∀ (d i : Nat) (v : zW), i + d = 32 → fr v → (∀ c, c < i → gI v 225 c = Int32.ofNat 0) → fX12_begins_L2 k (d + 1) (Int32.ofNat i) v := by
    intro d
    induction d with
    | zero =>
      intro i v hi fv uv
      have ei : i = 32 := by omega
      subst ei
      rw [fX12_begins_L2]
      refine ⟨fun _ => ⟨bR X.1 + 1, hL23 (bR X.1) 0 v (by omega) fv (fun r' o hr' ho => ?_)⟩, fun q => absurd (by decide) q⟩
      rw [uv _ (by omega), if_neg (Nat.not_lt_zero _)]
    | succ d ih =>
      intro i v hi fv uv
      rw [fX12_begins_L2]
      try dsimp only
      rw [zi_nat (show i < 2 ^ 31 by omega)]
      refine ⟨fun q => absurd ((zi_le (a := 32) (by decide) (by omega)).mp q) (by omega), fun _ => ⟨zi_in (by omega) (by omega), ?_⟩⟩
      intro w31 e31
      rw [zl1, zi_add]
      refine ih (i + 1) w31 (by omega) ⟨fun a c q1 q2 q3 q4 q5 => by rw [e31, gI_sI_ne q5]; exact fv.1 a c q1 q2 q3 q4 q5, by rw [e31]; exact fv.2⟩ (fun c hc => ?_)
      rw [e31]
      by_cases e : c = i
      · rw [e, gI_sI_eq]; rfl
      · rw [gI_sI_ne2 e]; exact uv c (by omega)
  rw [fX12_begins]
  exact ⟨32 + 1, hL2 32 0 w rfl ⟨fun _ _ _ _ _ _ _ => rfl, rfl⟩ (fun c hc => absurd hc (Nat.not_lt_zero c))⟩

/-! Level 2: the reference cuts all signs into tokens -/
theorem q12_isLetter {c : Nat} {w : zW} {k : Int32 → zW → Prop} (hc : c < 127) (h1 : 97 ≤ c ∧ c ≤ 122 → k (Int32.ofNat 1) w) (h0 : ¬ (97 ≤ c ∧ c ≤ 122) → k (Int32.ofNat 0) w) : fX12_isLetter (Int32.ofNat c) w k := by
  rw [fX12_isLetter]
  intro v1 e1
  by_cases a : c < 97
  · rw [e1.trans (if_pos ((zi_lt (b := 97) (by omega) (by decide)).mpr a))]
    exact ⟨Or.inl rfl, h0 (by omega)⟩
  · replace e1 := e1.trans (if_neg (show ¬ Int32.ofNat c < 97 from fun z => a ((zi_lt (b := 97) (by omega) (by decide)).mp z)))
    by_cases b : 122 < c
    · rw [e1.trans (if_pos ((zi_lt (a := 122) (by decide) (by omega)).mpr b))]
      exact ⟨Or.inl rfl, h0 (by omega)⟩
    · rw [e1.trans (if_neg (fun z => b ((zi_lt (a := 122) (by decide) (by omega)).mp z)))]
      exact ⟨Or.inr rfl, h1 (by omega)⟩
theorem q12_isDig {c : Nat} {w : zW} {k : Int32 → zW → Prop} (hc : c < 127) (h1 : 48 ≤ c ∧ c ≤ 57 → k (Int32.ofNat 1) w) (h0 : ¬ (48 ≤ c ∧ c ≤ 57) → k (Int32.ofNat 0) w) : fX12_isDigit (Int32.ofNat c) w k := by
  rw [fX12_isDigit]
  intro v1 e1
  by_cases a : c < 48
  · rw [e1.trans (if_pos ((zi_lt (b := 48) (by omega) (by decide)).mpr a))]
    exact ⟨Or.inl rfl, h0 (by omega)⟩
  · replace e1 := e1.trans (if_neg (show ¬ Int32.ofNat c < 48 from fun z => a ((zi_lt (b := 48) (by omega) (by decide)).mp z)))
    by_cases b : 57 < c
    · rw [e1.trans (if_pos ((zi_lt (a := 57) (by decide) (by omega)).mpr b))]
      exact ⟨Or.inl rfl, h0 (by omega)⟩
    · rw [e1.trans (if_neg (fun z => b ((zi_lt (a := 57) (by decide) (by omega)).mp z)))]
      exact ⟨Or.inr rfl, h1 (by omega)⟩
theorem zsg2F : ∀ c : Fin 127, (if Int32.ofNat c.val = (40 : Int32) then (1 : Int32) else (if Int32.ofNat c.val = (41 : Int32) then (1 : Int32) else (if Int32.ofNat c.val = (59 : Int32) then (1 : Int32) else (if Int32.ofNat c.val = (61 : Int32) then (1 : Int32) else (if Int32.ofNat c.val = (60 : Int32) then (1 : Int32) else (if Int32.ofNat c.val = (43 : Int32) then (1 : Int32) else (if Int32.ofNat c.val = (45 : Int32) then (1 : Int32) else (if ¬ Int32.ofNat c.val = (42 : Int32) then (0 : Int32) else (1 : Int32))))))))) = (if c.val = 40 ∨ c.val = 41 ∨ c.val = 59 ∨ c.val = 61 ∨ c.val = 60 ∨ c.val = 43 ∨ c.val = 45 ∨ c.val = 42 then Int32.ofNat 1 else Int32.ofNat 0) := by decide +kernel
theorem q12_isSignOf {c : Nat} {w : zW} {k : Int32 → zW → Prop} (hc : c < 127) (h1 : (c = 40 ∨ c = 41 ∨ c = 59 ∨ c = 61 ∨ c = 60 ∨ c = 43 ∨ c = 45 ∨ c = 42) → k (Int32.ofNat 1) w) (h0 : ¬ (c = 40 ∨ c = 41 ∨ c = 59 ∨ c = 61 ∨ c = 60 ∨ c = 43 ∨ c = 45 ∨ c = 42) → k (Int32.ofNat 0) w) : fX12_isSignOf (Int32.ofNat c) w k := by
  rw [fX12_isSignOf]
  intro v1 e1
  have e := e1.trans (zsg2F ⟨c, hc⟩)
  by_cases a : c = 40 ∨ c = 41 ∨ c = 59 ∨ c = 61 ∨ c = 60 ∨ c = 43 ∨ c = 45 ∨ c = 42
  · rw [e.trans (if_pos a)]
    exact ⟨Or.inr rfl, h1 a⟩
  · rw [e.trans (if_neg a)]
    exact ⟨Or.inl rfl, h0 a⟩
theorem q12_rank {c : Nat} {w : zW} {k : Int32 → zW → Prop} (hc : 97 ≤ c ∧ c ≤ 122) (hk : k (Int32.ofNat (c - 96)) w) : fX12_rank (Int32.ofNat c) w k := by
  rw [fX12_rank]
  refine q12_isLetter (by omega) (fun _ => ?_) (fun z => absurd hc z)
  intro v2 e2
  rw [e2.trans (if_neg (by decide)), show (96 : Int32) = Int32.ofNat 96 from rfl, zi_sub (by omega)]
  exact hk
def zTkv (T : zTks) (j : Nat) (v : zW) : Prop := (T.kd j = 1 → gL v 206 j = Int64.ofNat (zn37 (T.nm j))) ∧ (T.kd j = 2 → gL v 206 j = Int64.ofNat (T.nu j)) ∧ (T.kd j = 3 → gL v 206 j = Int64.ofNat (T.si j))
/-- the reference's tokens -/
def zTb (T : zTks) (m : Nat) (v : zW) : Prop := m ≤ 1000 ∧ T.kd m = 0 ∧ (∀ j, j < m → ¬ T.kd j = 0) ∧ ∀ j, j ≤ m → gI v 204 j = Int32.ofNat (T.kd j) ∧ gI v 205 j = Int32.ofNat (T.pl j) ∧ zTkv T j v
def zfC (w v : zW) : Prop := (∀ a c, a ≠ 204 → a ≠ 205 → gI v a c = gI w a c) ∧ (∀ a c, a ≠ 206 → gL v a c = gL w a c) ∧ (∀ a c, gR v a c = gR w a c)
theorem q12_cutW {sg : Nat → Nat} {n p j : Nat} {u : zW} {k : zW → Prop} {g17 : Int32 → Int32 → zW → Prop} (hsg : zSg sg n) (hpn : p < n) (hj : j < 1002) (g143 : gI u 200 3 = Int32.ofNat n) (g14 : ∀ i, i < n → gI u 201 i = Int32.ofNat (sg i)) (hl : 97 ≤ sg p ∧ sg p ≤ 122)
    (hput : ∀ (kd : Nat) (x5 : Int64), zKD sg n p = kd → (kd = 1 → x5 = Int64.ofNat (zn37 (zNM sg n p))) → ¬ kd = 0 → fX12_cutAll_J265 k g17 (Int32.ofNat j) (Int32.ofNat (zE sg n p)) x5 (sI u 204 j (Int32.ofNat kd))) : ∃ n9, fX12_cutAll_L70 k g17 n9 (Int32.ofNat j) (Int32.ofNat p) (Int32.ofNat p) (0 : Int64) u := by
  have hn := hsg.1
  have hc127 : ∀ i, i < n → sg i < 127 := fun i hi => by have := hsg.2 i hi; omega
  obtain ⟨b1, b2⟩ := zE_lt (sg := sg) hpn
  have hnp : ¬ n ≤ p := by omega
  have hk1 : zkd (sg p) = 1 := by rw [zkd, if_pos hl]
  obtain ⟨a1, a2, a3, a4⟩ := zE_run (sg := sg) hpn (Or.inl hk1)
  have hfin : ∀ x5 : Int64, (zE sg n p - p ≤ 8 → x5 = Int64.ofNat (zn37 (zlet sg p (zE sg n p - p)))) → fX12_cutAll_J129 k g17 (Int32.ofNat j) (Int32.ofNat (zE sg n p)) (Int32.ofNat p) x5 u := by
    intro x5 hx5
    rw [fX12_cutAll_J129]
    intro v36 e36
    rw [zi_sub (by omega)] at e36
    rw [fX12_cutAll_J148]
    refine ⟨zi_in (by omega) (by omega), ?_⟩
    intro w38 e38
    rw [zi_nat (show j < 2 ^ 31 by omega)] at e38
    by_cases e8 : zE sg n p - p ≤ 8
    · rw [e36.trans (if_pos ((zi_le (b := 8) (by omega) (by decide)).mpr e8))] at e38
      have hKD : zKD sg n p = 1 := by rw [zKD, if_neg hnp, if_neg (by omega), if_neg (by omega), hk1]
      rw [e38]
      exact hput 1 x5 hKD (fun _ => hx5 e8) (by omega)
    · rw [e36.trans (if_neg (fun y => e8 ((zi_le (b := 8) (by omega) (by decide)).mp y)))] at e38
      have hKD : zKD sg n p = 4 := by rw [zKD, if_neg hnp, if_pos ⟨hk1, by omega⟩]
      rw [e38]
      exact hput 4 x5 hKD (fun r => by omega) (by omega)
  have hrun : ∀ (c r : Nat) (x5 : Int64), r + c = zE sg n p → p ≤ r → (r - p ≤ 8 → x5 = Int64.ofNat (zn37 (zlet sg p (r - p)))) → fX12_cutAll_L70 k g17 (c + 1) (Int32.ofNat j) (Int32.ofNat r) (Int32.ofNat p) x5 u := by
    intro c
    induction c with
    | zero =>
      intro r x5 hr hpr hx5
      have e : r = zE sg n p := by omega
      subst e
      rw [fX12_cutAll_L70]
      try dsimp only
      rw [g143]
      refine ⟨fun _ => hfin x5 hx5, fun y => ?_⟩
      have hlt : zE sg n p < n := by
        by_cases y2 : zE sg n p < n
        · exact y2
        · exact absurd ((zi_le (by omega) (by omega)).mpr (by omega)) y
      have hne := a4.resolve_left (by omega)
      rw [zi_nat (show zE sg n p < 2 ^ 31 by omega), g14 _ hlt]
      refine ⟨zi_in (by omega) (by omega), q12_isLetter (hc127 _ hlt) (fun hl2 => ?_) (fun _ => ⟨fun _ => hfin x5 hx5, fun y => absurd rfl y⟩)⟩
      exact absurd (by rw [hk1, zkd, if_pos hl2]) hne
    | succ c ihc =>
      intro r x5 hr hpr hx5
      have hlt : r < n := by omega
      have hkr1 := zkd_1 ((a3 r hpr (by omega)).trans hk1)
      rw [fX12_cutAll_L70]
      try dsimp only
      rw [g143, zi_nat (show r < 2 ^ 31 by omega), g14 r hlt, zi_sub hpr]
      refine ⟨fun y => absurd ((zi_le (by omega) (by omega)).mp y) (by omega), fun _ => ⟨zi_in (by omega) (by omega), ?_⟩⟩
      refine q12_isLetter (hc127 _ hlt) (fun _ => ⟨fun y => absurd y (by decide), fun _ => ⟨fun y => ?_, fun y => ?_⟩⟩) (fun y => absurd hkr1 y)
      · have h8 := (zi_le (a := 8) (by decide) (by omega)).mp y
        rw [zl1, zi_add]
        exact ihc (r + 1) x5 (by omega) (by omega) (fun y => by omega)
      · have h8 : r - p < 8 := by
          by_cases y2 : r - p < 8
          · exact y2
          · exact absurd ((zi_le (a := 8) (by decide) (by omega)).mpr (by omega)) y
        rw [g14 r hlt]
        refine q12_rank hkr1 ?_
        intro v44 e44
        rw [zl1, zi_add]
        refine ihc (r + 1) v44 (by omega) (by omega) (fun _ => ?_)
        rw [e44, hx5 (by omega), show (37 : Int64) = Int64.ofNat 37 from rfl, zi_L64 (by omega), zl_mul, zl_add, show r + 1 - p = (r - p) + 1 by omega, zlet, zn37, show p + (r - p) = r by omega, Nat.mul_comm]
  exact ⟨zE sg n p - p + 1, hrun (zE sg n p - p) p 0 (by omega) (Nat.le_refl _) (fun _ => by rw [Nat.sub_self]; rfl)⟩
theorem q12_cutD {sg : Nat → Nat} {n p j : Nat} {u : zW} {k : zW → Prop} {g17 : Int32 → Int32 → zW → Prop} (hsg : zSg sg n) (hpn : p < n) (hj : j < 1002) (g143 : gI u 200 3 = Int32.ofNat n) (g14 : ∀ i, i < n → gI u 201 i = Int32.ofNat (sg i)) (hd : 48 ≤ sg p ∧ sg p ≤ 57)
    (hput : ∀ (kd : Nat) (x5 : Int64), zKD sg n p = kd → (kd = 2 → x5 = Int64.ofNat (znum sg p (zE sg n p - p))) → ¬ kd = 0 → fX12_cutAll_J265 k g17 (Int32.ofNat j) (Int32.ofNat (zE sg n p)) x5 (sI u 204 j (Int32.ofNat kd))) : ∃ n9, fX12_cutAll_L159 k g17 n9 (Int32.ofNat j) (Int32.ofNat p) (Int32.ofNat p) (0 : Int64) u := by
  have hn := hsg.1
  have hc127 : ∀ i, i < n → sg i < 127 := fun i hi => by have := hsg.2 i hi; omega
  obtain ⟨b1, b2⟩ := zE_lt (sg := sg) hpn
  have hnp : ¬ n ≤ p := by omega
  have hk2 : zkd (sg p) = 2 := by rw [zkd, if_neg (by omega), if_pos hd]
  obtain ⟨a1, a2, a3, a4⟩ := zE_run (sg := sg) hpn (Or.inr hk2)
  have hfin : ∀ x5 : Int64, (zE sg n p - p ≤ 4 → x5 = Int64.ofNat (znum sg p (zE sg n p - p))) → fX12_cutAll_J218 k g17 (Int32.ofNat j) (Int32.ofNat (zE sg n p)) (Int32.ofNat p) x5 u := by
    intro x5 hx5
    rw [fX12_cutAll_J218]
    intro v36 e36
    rw [zi_sub (by omega)] at e36
    rw [fX12_cutAll_J236]
    refine ⟨zi_in (by omega) (by omega), ?_⟩
    intro w38 e38
    rw [zi_nat (show j < 2 ^ 31 by omega)] at e38
    by_cases e8 : zE sg n p - p ≤ 4
    · rw [e36.trans (if_pos ((zi_le (b := 4) (by omega) (by decide)).mpr e8))] at e38
      have hKD : zKD sg n p = 2 := by rw [zKD, if_neg hnp, if_neg (by omega), if_neg (by omega), hk2]
      rw [e38]
      exact hput 2 x5 hKD (fun _ => hx5 e8) (by omega)
    · rw [e36.trans (if_neg (fun y => e8 ((zi_le (b := 4) (by omega) (by decide)).mp y)))] at e38
      have hKD : zKD sg n p = 4 := by rw [zKD, if_neg hnp, if_neg (by omega), if_pos ⟨hk2, by omega⟩]
      rw [e38]
      exact hput 4 x5 hKD (fun r => by omega) (by omega)
  have hrun : ∀ (c r : Nat) (x5 : Int64), r + c = zE sg n p → p ≤ r → (r - p ≤ 4 → x5 = Int64.ofNat (znum sg p (r - p))) → fX12_cutAll_L159 k g17 (c + 1) (Int32.ofNat j) (Int32.ofNat r) (Int32.ofNat p) x5 u := by
    intro c
    induction c with
    | zero =>
      intro r x5 hr hpr hx5
      have e : r = zE sg n p := by omega
      subst e
      rw [fX12_cutAll_L159]
      try dsimp only
      rw [g143]
      refine ⟨fun _ => hfin x5 hx5, fun y => ?_⟩
      have hlt : zE sg n p < n := by
        by_cases y2 : zE sg n p < n
        · exact y2
        · exact absurd ((zi_le (by omega) (by omega)).mpr (by omega)) y
      have hne := a4.resolve_left (by omega)
      rw [zi_nat (show zE sg n p < 2 ^ 31 by omega), g14 _ hlt]
      refine ⟨zi_in (by omega) (by omega), q12_isDig (hc127 _ hlt) (fun hl2 => ?_) (fun _ => ⟨fun _ => hfin x5 hx5, fun y => absurd rfl y⟩)⟩
      exact absurd (by rw [hk2, zkd, if_neg (by omega), if_pos hl2]) hne
    | succ c ihc =>
      intro r x5 hr hpr hx5
      have hlt : r < n := by omega
      have hkr1 := zkd_2 ((a3 r hpr (by omega)).trans hk2)
      rw [fX12_cutAll_L159]
      try dsimp only
      rw [g143, zi_nat (show r < 2 ^ 31 by omega), g14 r hlt, zi_sub hpr]
      refine ⟨fun y => absurd ((zi_le (by omega) (by omega)).mp y) (by omega), fun _ => ⟨zi_in (by omega) (by omega), ?_⟩⟩
      refine q12_isDig (hc127 _ hlt) (fun _ => ⟨fun y => absurd y (by decide), fun _ => ⟨fun y => ?_, fun y => ?_⟩⟩) (fun y => absurd hkr1 y)
      · have h8 := (zi_le (a := 4) (by decide) (by omega)).mp y
        rw [zl1, zi_add]
        exact ihc (r + 1) x5 (by omega) (by omega) (fun y => by omega)
      · have h8 : r - p < 4 := by
          by_cases y2 : r - p < 4
          · exact y2
          · exact absurd ((zi_le (a := 4) (by decide) (by omega)).mpr (by omega)) y
        intro v44 e44
        rw [zl1, zi_add]
        refine ihc (r + 1) v44 (by omega) (by omega) (fun _ => ?_)
        rw [e44, g14 r hlt, hx5 (by omega), show (10 : Int64) = Int64.ofNat 10 from rfl, show (48 : Int64) = Int64.ofNat 48 from rfl, zi_L64 (by omega), zl_mul, zl_add, ← Int64.ofNat_sub _ _ (by omega), show r + 1 - p = (r - p) + 1 by omega, znum, show p + (r - p) = r by omega]
        exact congrArg _ (by omega)
  exact ⟨zE sg n p - p + 1, hrun (zE sg n p - p) p 0 (by omega) (Nat.le_refl _) (fun _ => by rw [Nat.sub_self]; rfl)⟩
theorem q12_cutAll {sg : Nat → Nat} {n : Nat} {w : zW} {k : zW → Prop} (hsg : zSg sg n) (h2 : gI w 200 2 = Int32.ofNat n) (h1 : ∀ i, i < n → gI w 201 i = Int32.ofNat (sg i))
    (hk : ∀ (v : zW) (m : Nat), (∀ a c, a ≠ 204 → a ≠ 205 → (a = 200 → c ≠ 2 ∧ c ≠ 3 ∧ c ≠ 7 ∧ c ≠ 8) → gI v a c = gI w a c) → (∀ a c, a ≠ 206 → gL v a c = gL w a c) → (∀ a c, gR v a c = gR w a c) → gI v 200 2 = Int32.ofNat 0 → gI v 200 7 = Int32.ofNat 0 → gI v 200 8 = Int32.ofNat 0 → zTb (zTT sg n) m v → k v) : fX12_cutAll w k := by
  have hn := hsg.1
  have hc127 : ∀ i, i < n → sg i < 127 := fun i hi => by have := hsg.2 i hi; omega
  rw [fX12_cutAll]
  intro w1 e1 w2 e2
  have e3 : gI w2 200 3 = Int32.ofNat n := by rw [e2, gI_sI_ne2 (by decide), e1, gI_sI_eq]; exact h2
  have e0 : gI w2 200 2 = Int32.ofNat 0 := by rw [e2, gI_sI_eq]; rfl
  have i2 : ∀ a c, (a = 200 → c ≠ 2 ∧ c ≠ 3) → gI w2 a c = gI w a c := fun a c q => by rw [e2, gI_sI, if_neg (by omega), e1, gI_sI, if_neg (by omega)]
  have p2 : w2.2 = w.2 := by rw [e2, e1]; rfl
  -- what is done of the table
  let D : Nat → zW → Prop := fun j u => ∀ i, i < j → ¬ (zTT sg n).kd i = 0 ∧ gI u 204 i = Int32.ofNat ((zTT sg n).kd i) ∧ gI u 205 i = Int32.ofNat ((zTT sg n).pl i) ∧ zTkv (zTT sg n) i u
  have hgo : ∀ (f j p : Nat) (u : zW), n - p < f → j ≤ zps sg n j → zps sg n j ≤ p → p ≤ zST sg n (zps sg n j) → zfC w2 u → D j u → fX12_cutAll_L17 k f (Int32.ofNat j) (Int32.ofNat p) u := by
    intro f
    induction f with
    | zero => intro j p u hf; omega
    | succ f ih =>
      intro j p u hf hj hjp hpq fu hD
      have hjn := zps_le sg n j
      obtain ⟨q1, q2, q3, q4⟩ := zST_spec (sg := sg) hjn
      have g3 : gI u 200 3 = Int32.ofNat n := (fu.1 200 3 (by decide) (by decide)).trans e3
      have g1 : ∀ i, i < n → gI u 201 i = Int32.ofNat (sg i) := fun i hi => (fu.1 201 i (by decide) (by decide)).trans ((i2 201 i (by omega)).trans (h1 i hi))
      rw [fX12_cutAll_L17]
      try dsimp only
      rw [g3, zi_nat (show j < 2 ^ 31 by omega)]
      refine ⟨fun z => ⟨zi_in (by omega) (by omega), ?_⟩, fun z => ?_⟩
      · -- all is cut
        have hpn := (zi_le (by omega) (by omega)).mp z
        have hq : zST sg n (zps sg n j) = n := by omega
        have hkd : (zTT sg n).kd j = 0 := by show zKD sg n (zST sg n (zps sg n j)) = 0; rw [zKD, if_pos (by omega)]
        have hpl : (zTT sg n).pl j = n := hq
        intro w5 e5 w6 e6 w7 e7 w8 e8
        have g53 : gI w5 200 3 = Int32.ofNat n := by rw [e5, gI_sI_ne (by decide)]; exact g3
        rw [g53] at e6
        have i8 : ∀ a c, a ≠ 204 → a ≠ 205 → (a = 200 → c ≠ 7 ∧ c ≠ 8) → gI w8 a c = gI u a c := fun a c r1 r2 r3 => by rw [e8, gI_sI, if_neg (by omega), e7, gI_sI, if_neg (by omega), e6, gI_sI_ne r2, e5, gI_sI_ne r1]
        have j8 : ∀ i, gI w8 204 i = gI w5 204 i ∧ gI w8 205 i = gI w6 205 i := fun i => ⟨by rw [e8, gI_sI_ne (by decide), e7, gI_sI_ne (by decide), e6, gI_sI_ne (by decide)], by rw [e8, gI_sI_ne (by decide), e7, gI_sI_ne (by decide)]⟩
        have l8 : ∀ a c, gL w8 a c = gL u a c := fun a c => by rw [e8, e7, e6, e5]; rfl
        refine hk w8 j (fun a c r1 r2 r3 => ?_) (fun a c r => ?_) (fun a c => ?_) ?_ ?_ ?_ ⟨by omega, hkd, fun i hi => (hD i hi).1, fun i hi => ⟨?_, ?_, ?_⟩⟩
        · rw [i8 a c r1 r2 (fun e => ⟨(r3 e).2.2.1, (r3 e).2.2.2⟩), fu.1 a c r1 r2, i2 a c (fun e => ⟨(r3 e).1, (r3 e).2.1⟩)]
        · rw [l8, fu.2.1 a c r, gL, p2]; rfl
        · rw [e8, e7, e6, e5]
          show gR u a c = _
          rw [fu.2.2, gR, p2]; rfl
        · rw [i8 200 2 (by decide) (by decide) (by decide), fu.1 200 2 (by decide) (by decide)]; exact e0
        · rw [e8, gI_sI_ne2 (by decide), e7, gI_sI_eq]; rfl
        · rw [e8, gI_sI_eq]; rfl
        · rw [(j8 i).1, e5]
          by_cases e : i = j
          · rw [e, gI_sI_eq, hkd]; rfl
          · rw [gI_sI_ne2 e]; exact (hD i (by omega)).2.1
        · rw [(j8 i).2, e6]
          by_cases e : i = j
          · rw [e, gI_sI_eq, hpl]
          · rw [gI_sI_ne2 e, e5, gI_sI_ne (by decide)]; exact (hD i (by omega)).2.2.1
        · by_cases e : i = j
          · rw [e]; exact ⟨fun y => by omega, fun y => by omega, fun y => by omega⟩
          · obtain ⟨y1, y2, y3⟩ := (hD i (by omega)).2.2.2
            exact ⟨fun y => by rw [l8]; exact y1 y, fun y => by rw [l8]; exact y2 y, fun y => by rw [l8]; exact y3 y⟩
      · have hpn : p < n := by
          by_cases y : p < n
          · exact y
          · exact absurd ((zi_le (by omega) (by omega)).mpr (by omega)) z
        have hc := hc127 p hpn
        rw [zi_nat (show p < 2 ^ 31 by omega), g1 p hpn]
        refine ⟨zi_in (by omega) (by omega), ?_⟩
        intro v10 e10
        have hblank : zbl (sg p) → fX12_cutAll_L17 k f (Int32.ofNat j) (Int32.ofNat p + 1) u := fun hb => by
          rw [zl1, zi_add]
          refine ih j (p + 1) u (by omega) hj (by omega) ?_ fu hD
          by_cases e : p = zST sg n (zps sg n j)
          · rcases q4 with y | y
            · omega
            · rw [← e] at y; exact absurd hb y
          · omega
        rw [e10]
        refine ⟨fun y => hblank (Or.inl ((zi_eq (b := 10) (by omega) (by decide)).mp y)), fun y => ⟨fun y2 => ⟨zi_in (by omega) (by omega), ?_⟩, fun y2 => hblank (Or.inr ((zi_eq (b := 32) (by omega) (by decide)).mp y2))⟩⟩
        have hnb : ¬ zbl (sg p) := fun hb => by
          rcases hb with e | e
          · exact y (by rw [e]; rfl)
          · exact y2 (by rw [e]; rfl)
        have hpq2 : zST sg n (zps sg n j) = p := by
          by_cases e : p < zST sg n (zps sg n j)
          · exact absurd (q3 p hjp e) hnb
          · omega
        have hT : (zTT sg n).kd j = zKD sg n p ∧ (zTT sg n).pl j = p ∧ (zTT sg n).nu j = znum sg p (zE sg n p - p) ∧ (zTT sg n).si j = sg p ∧ (zTT sg n).nm j = zNM sg n p := by
          rw [← hpq2]
          exact ⟨rfl, rfl, rfl, rfl, rfl⟩
        obtain ⟨t1, t2, t3, t4, t5⟩ := hT
        have hps : zps sg n (j + 1) = zE sg n p := by rw [zps, hpq2, if_neg (by omega)]
        obtain ⟨b1, b2⟩ := zE_lt (sg := sg) hpn
        have hkr := zkd_rng (sg p)
        have hnp : ¬ n ≤ p := by omega
        intro w14 e14
        have f14 : zfC w2 w14 := ⟨fun a c r1 r2 => by rw [e14, gI_sI_ne r2]; exact fu.1 a c r1 r2, fun a c r => by rw [e14]; exact fu.2.1 a c r, fun a c => by rw [e14]; exact fu.2.2 a c⟩
        have g14 : ∀ i, i < n → gI w14 201 i = Int32.ofNat (sg i) := fun i hi => by rw [e14, gI_sI_ne (by decide)]; exact g1 i hi
        have g143 : gI w14 200 3 = Int32.ofNat n := by rw [e14, gI_sI_ne (by decide)]; exact g3
        -- its kind and its value, and on
        have hput : ∀ (kd : Nat) (x5 : Int64), (zTT sg n).kd j = kd → (kd = 1 → x5 = Int64.ofNat (zn37 ((zTT sg n).nm j))) → (kd = 2 → x5 = Int64.ofNat ((zTT sg n).nu j)) → (kd = 3 → x5 = Int64.ofNat ((zTT sg n).si j)) → ¬ kd = 0 → fX12_cutAll_J265 k (fX12_cutAll_L17 k f) (Int32.ofNat j) (Int32.ofNat (zE sg n p)) x5 (sI w14 204 j (Int32.ofNat kd)) := by
          intro kd x5 hkd h37 hnu hsi hk0
          rw [fX12_cutAll_J265]
          refine ⟨zi_in (by omega) (by omega), ?_⟩
          intro w25 e25
          rw [zi_nat (show j < 2 ^ 31 by omega)] at e25
          rw [zl1, zi_add]
          refine ih (j + 1) (zE sg n p) w25 (by omega) (by rw [hps]; omega) (by rw [hps]; exact Nat.le_refl _) (by rw [hps]; exact (zST_spec (sg := sg) b2).1) ⟨fun a c r1 r2 => ?_, fun a c r => ?_, fun a c => ?_⟩ (fun i hi => ?_)
          · rw [e25, gI_sL, gI_sI_ne r1]; exact f14.1 a c r1 r2
          · rw [e25, gL_sL_ne r, gL_sI]; exact f14.2.1 a c r
          · rw [e25, gR_sL, gR_sI]; exact f14.2.2 a c
          · by_cases e : i = j
            · rw [e]
              refine ⟨by rw [hkd]; exact hk0, ?_, ?_, fun r => ?_, fun r => ?_, fun r => ?_⟩
              · rw [e25, gI_sL, gI_sI_eq, hkd]
              · rw [e25, gI_sL, gI_sI_ne (by decide), e14, gI_sI_eq, t2]
              · rw [e25, gL_sL_eq]; exact h37 (hkd.symm.trans r)
              · rw [e25, gL_sL_eq]; exact hnu (hkd.symm.trans r)
              · rw [e25, gL_sL_eq]; exact hsi (hkd.symm.trans r)
            · obtain ⟨d1, d2, d3, d4, d5, d6⟩ := hD i (by omega)
              have l25 : gL w25 206 i = gL u 206 i := by rw [e25, gL_sL_ne2 e, gL_sI, e14, gL_sI]
              refine ⟨d1, ?_, ?_, fun r => ?_, fun r => ?_, fun r => ?_⟩
              · rw [e25, gI_sL, gI_sI_ne2 e, e14, gI_sI_ne (by decide)]; exact d2
              · rw [e25, gI_sL, gI_sI_ne (by decide), e14, gI_sI_ne2 e]; exact d3
              · rw [l25]; exact d4 r
              · rw [l25]; exact d5 r
              · rw [l25]; exact d6 r
        refine q12_isLetter hc (fun hl => ⟨fun y => absurd y (by decide), fun _ => ?_⟩) (fun hl => ⟨fun _ => ?_, fun y => absurd rfl y⟩)
        · -- a word
          have hk1 : zkd (sg p) = 1 := by rw [zkd, if_pos hl]
          exact q12_cutW hsg hpn (by omega) g143 g14 hl (fun kd x5 e1 e2 e3 => hput kd x5 (t1.trans e1) (fun r => by rw [t5]; exact e2 r) (fun r => by
            have := (zKD_2 (e1.trans r)).2.1
            omega) (fun r => by
            have h := e1.trans r
            rw [zKD, if_neg hnp] at h
            by_cases y3 : zkd (sg p) = 1 ∧ 8 < zE sg n p - p
            · rw [if_pos y3] at h; omega
            · rw [if_neg y3, if_neg (by omega)] at h; omega) e3)
        · have hnk1 : ¬ zkd (sg p) = 1 := fun e => hl (zkd_1 e)
          refine q12_isDig hc (fun hd => ⟨fun y => absurd y (by decide), fun _ => ?_⟩) (fun hd => ⟨fun _ => ?_, fun y => absurd rfl y⟩)
          · -- a number
            have hk2 : zkd (sg p) = 2 := by rw [zkd, if_neg hl, if_pos hd]
            exact q12_cutD hsg hpn (by omega) g143 g14 hd (fun kd x5 e1 e2 e3 => hput kd x5 (t1.trans e1) (fun r => by
              have := (zKD_1 (e1.trans r)).2.1
              omega) (fun r => by rw [t3]; exact e2 r) (fun r => by
              have h := e1.trans r
              rw [zKD, if_neg hnp, if_neg (by omega)] at h
              by_cases y3 : zkd (sg p) = 2 ∧ 4 < zE sg n p - p
              · rw [if_pos y3] at h; omega
              · rw [if_neg y3] at h; omega) e3)
          · -- a sign, or nothing that is known
            have hnk2 : ¬ zkd (sg p) = 2 := fun e => hd (zkd_2 e)
            have hE : zE sg n p = p + 1 := zE_one (by omega)
            have hKD : zKD sg n p = zkd (sg p) := by rw [zKD, if_neg hnp, if_neg (by omega), if_neg (by omega)]
            intro v19 e19
            rw [zi_L64 (by omega)] at e19
            have hJ : ∀ kd : Nat, zkd (sg p) = kd → fX12_cutAll_J261 k (fX12_cutAll_L17 k f) (Int32.ofNat j) (Int32.ofNat p) v19 (Int32.ofNat kd) (Int32.ofNat j) w14 := fun kd hkd => by
              rw [fX12_cutAll_J261]
              refine ⟨zi_in (by omega) (by omega), ?_⟩
              intro w23 e23
              rw [zi_nat (show j < 2 ^ 31 by omega)] at e23
              rw [e23, zl1, zi_add, ← hE]
              exact hput kd v19 (by rw [t1, hKD, hkd]) (fun r => by omega) (fun r => by omega) (fun _ => by rw [t4]; exact e19) (by omega)
            refine q12_isSignOf hc (fun hs => ?_) (fun hs => ?_)
            · intro v21 e21
              rw [e21.trans (if_neg (by decide))]
              exact hJ 3 (by rw [zkd, if_neg hl, if_neg hd, if_pos hs])
            · intro v21 e21
              rw [e21.trans (if_pos (by decide))]
              exact hJ 4 (by rw [zkd, if_neg hl, if_neg hd, if_neg hs])
  exact ⟨n - 0 + 1, hgo (n - 0 + 1) 0 0 w2 (by omega) (Nat.zero_le _) (Nat.le_refl _) (zST_spec (sg := sg) (Nat.zero_le n)).1 ⟨fun _ _ _ _ => rfl, fun _ _ _ => rfl, fun _ _ => rfl⟩ (fun i hi => absurd hi (Nat.not_lt_zero i))⟩

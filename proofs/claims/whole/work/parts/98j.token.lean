/-! Level 2: the class's next token -/
theorem zch_F : ∀ c : Fin 127, narrow .char (.int (Int32.ofNat c.val)) = .int (Int32.ofNat c.val) ∧ fits .char (.int (Int32.ofNat c.val)) = true := by decide +kernel
theorem zch_of {c : Nat} (h : c < 127) : zch (Int32.ofNat c) := zch_F ⟨c, h⟩
theorem zsgF : ∀ c : Fin 127, (∃ j : Fin 8, (zByt.getD 0 []).getD j.val 0 = Int32.ofNat c.val) ↔ (c.val = 40 ∨ c.val = 41 ∨ c.val = 59 ∨ c.val = 61 ∨ c.val = 60 ∨ c.val = 43 ∨ c.val = 45 ∨ c.val = 42) := by decide +kernel
theorem zi8F : ∀ c : Fin 127, (Int32.ofNat c.val).toInt8.toInt32 = Int32.ofNat c.val := by decide +kernel
theorem zlen0 : zLen.getD 0 0 = 8 := by decide +kernel
theorem zlen1 : zLen.getD 1 0 = 168 := by decide +kernel
theorem qJ_length {j : Nat} {w : zW} {k : Int32 → zW → Prop} (hl : zLen.getD j 0 < 2 ^ 31) (hk : k (Int32.ofNat (zLen.getD j 0)) w) : fJ0_length_8abf5 j w k := by
  rw [fJ0_length_8abf5, fJ0_coder_7d493]
  refine ⟨fun q => absurd q (by decide), fun _ => ?_⟩
  have e := zi_shr (r := 0) hl (by decide)
  rw [Nat.pow_zero, Nat.div_one] at e
  rw [zl0, e]
  exact hk
theorem qJ_isLatin {j : Nat} {w : zW} {k : Int32 → zW → Prop} (hk : k 1 w) : fJ0_isLatin1_aae02 j w k := by
  rw [fJ0_isLatin1_aae02]
  refine ⟨fun q => absurd q (by decide), fun _ v2 e => ?_⟩
  rw [e.trans (if_neg (fun z => z rfl))]
  exact ⟨Or.inr rfl, hk⟩
theorem qJ_indexOf {c : Nat} {w : zW} {k : Int32 → zW → Prop} (hc : c < 127) (hk : ∀ x : Int32, (¬ x < 0 ↔ (c = 40 ∨ c = 41 ∨ c = 59 ∨ c = 61 ∨ c = 60 ∨ c = 43 ∨ c = 45 ∨ c = 42)) → k x w) : fJ0_indexOf_0f7a4 0 (Int32.ofNat c) w k := by
  have hF := zsgF ⟨c, hc⟩
  rw [fJ0_indexOf_0f7a4, fJ0_indexOf_7cf53]
  refine qJ_isLatin ⟨fun q => absurd q (by decide), fun _ => ?_⟩
  refine qJ_length (by rw [zlen0]; decide) ?_
  rw [fJ1_indexOf_4cfef, fJ1_canEncode_9a6ad]
  intro v1 e1
  rw [e1.trans ((if_neg (zi_0le (by omega))).trans (if_neg (fun z => by have := (zi_lt (a := 255) (by decide) (by omega)).mp z; omega)))]
  refine ⟨Or.inr rfl, fun _ => ?_, fun q => absurd q (by decide)⟩
  intro v3 e3 v4 e4
  rw [e3.trans (if_neg (by decide)), e4.trans (if_neg (Int32.lt_irrefl)), zlen0]
  refine ⟨fun _ => ?_, fun q => absurd (by decide) q⟩
  rw [fJ1_indexOfChar_4cfef]
  intro v1 e1
  rw [e1.trans (zi8F ⟨c, hc⟩)]
  have hgo : ∀ (d i : Nat), i + d = 8 → (∀ j : Fin 8, j.val < i → ¬ (zByt.getD 0 []).getD j.val 0 = Int32.ofNat c) → fJ1_indexOfChar_4cfef_L7 0 k (d + 1) (Int32.ofNat 8) (Int32.ofNat c) (Int32.ofNat i) w := by
    intro d
    induction d with
    | zero =>
      intro i hi hall
      rw [fJ1_indexOfChar_4cfef_L7]
      try dsimp only
      refine ⟨fun _ => hk _ ⟨fun q => absurd (by decide) q, fun q => ?_⟩, fun q => absurd ((zi_le (by decide) (by omega)).mpr (by omega)) q⟩
      obtain ⟨j, hj⟩ := hF.mpr q
      exact absurd hj (hall j (by omega))
    | succ d ih =>
      intro i hi hall
      rw [fJ1_indexOfChar_4cfef_L7]
      try dsimp only
      rw [zlen0, zi_nat (show i < 2 ^ 31 by omega)]
      refine ⟨fun q => absurd ((zi_le (by decide) (by omega)).mp q) (by omega), fun _ => ⟨zi_in (by omega) (by omega), fun q => ?_, fun q => ?_⟩⟩
      · rw [zl1, zi_add]
        refine ih (i + 1) (by omega) (fun j hj => ?_)
        by_cases e : j.val = i
        · rw [e]; exact q
        · exact hall j (by omega)
      · exact hk _ ⟨fun _ => hF.mp ⟨⟨i, by omega⟩, q⟩, fun _ => zi_0le (by omega)⟩
  exact ⟨8 + 1, hgo 8 0 rfl (fun j hj => absurd hj (Nat.not_lt_zero _))⟩
theorem q10_kindOf {c : Nat} {w : zW} {k : Int32 → zW → Prop} (hc : c < 127) (hk : k (Int32.ofNat (zkd c)) w) : fX10_kindOf (Int32.ofNat c) w k := by
  have hJ28 : ¬ (97 ≤ c ∧ c ≤ 122) → ¬ (48 ≤ c ∧ c ≤ 57) → fX10_kindOf_J28 k (Int32.ofNat c) w := fun h1 h2 => by
    rw [fX10_kindOf_J28]
    refine qJ_indexOf hc (fun x hx => ?_)
    intro v4 e4
    rw [zkd, if_neg h1, if_neg h2] at hk
    by_cases h3 : c = 40 ∨ c = 41 ∨ c = 59 ∨ c = 61 ∨ c = 60 ∨ c = 43 ∨ c = 45 ∨ c = 42
    · rw [if_pos h3] at hk
      rw [e4.trans (if_neg (hx.mpr h3))]
      exact hk
    · rw [if_neg h3] at hk
      rw [e4.trans (if_pos (Decidable.of_not_not (fun z => h3 (hx.mp z))))]
      exact hk
  have hJ14 : ¬ (97 ≤ c ∧ c ≤ 122) → fX10_kindOf_J14 k (Int32.ofNat c) w := fun h1 => by
    rw [fX10_kindOf_J14]
    refine ⟨fun q => hJ28 h1 (fun z => by have := (zi_lt (b := 48) (by omega) (by decide)).mp q; omega), fun q => ⟨fun q2 => hJ28 h1 (fun z => by have := (zi_lt (a := 57) (by decide) (by omega)).mp q2; omega), fun q2 => ?_⟩⟩
    have h2 : 48 ≤ c ∧ c ≤ 57 := by
      refine ⟨?_, ?_⟩
      · by_cases y : c < 48
        · exact absurd ((zi_lt (b := 48) (by omega) (by decide)).mpr y) q
        · omega
      · by_cases y : 57 < c
        · exact absurd ((zi_lt (a := 57) (by decide) (by omega)).mpr y) q2
        · omega
    rw [zkd, if_neg h1, if_pos h2] at hk
    exact hk
  rw [fX10_kindOf]
  refine ⟨fun q => hJ14 (fun z => by have := (zi_lt (b := 97) (by omega) (by decide)).mp q; omega), fun q => ⟨fun q2 => hJ14 (fun z => by have := (zi_lt (a := 122) (by decide) (by omega)).mp q2; omega), fun q2 => ?_⟩⟩
  have h1 : 97 ≤ c ∧ c ≤ 122 := by
    refine ⟨?_, ?_⟩
    · by_cases y : c < 97
      · exact absurd ((zi_lt (b := 97) (by omega) (by decide)).mpr y) q
      · omega
    · by_cases y : 122 < c
      · exact absurd ((zi_lt (a := 122) (by decide) (by omega)).mpr y) q2
      · omega
  rw [zkd, if_pos h1] at hk
  exact hk
def zc1 (i : Nat) : Nat := (((((zByt.getD 1 []).getD i 0) &&& (255 : Int32)).toUInt32 % 65536).toInt32).toNatClampNeg
theorem zc1F : ∀ i : Fin 168, (((((zByt.getD 1 []).getD i.val 0) &&& (255 : Int32)).toUInt32 % 65536).toInt32 = Int32.ofNat (zc1 i.val)) ∧ (zc1 i.val = 32 ∨ (97 ≤ zc1 i.val ∧ zc1 i.val ≤ 122)) := by decide +kernel
theorem zc1_of {i : Nat} (h : i < 168) : (((((zByt.getD 1 []).getD i 0) &&& (255 : Int32)).toUInt32 % 65536).toInt32 = Int32.ofNat (zc1 i)) ∧ (zc1 i = 32 ∨ (97 ≤ zc1 i ∧ zc1 i ≤ 122)) := zc1F ⟨i, h⟩
def zinn : Nat → Nat → Nat → Nat
  | 0, _, acc => acc
  | k + 1, i, acc => if zc1 i = 32 then acc else zinn k (i + 1) (acc * 32 + (zc1 i - 96))
theorem zinF : ∀ i : Fin 21, zinn 8 (8 * i.val) 0 = zn32 (zKL.getD i.val []) := by decide +kernel
theorem qJ_charAt {i : Nat} {w : zW} {k : Int32 → zW → Prop} (hi : i < 168) (hk : k (Int32.ofNat (zc1 i)) w) : fJ0_charAt_5068e 1 (Int32.ofNat i) w k := by
  have hF := zc1_of hi
  have hz : zc1 i < 127 := by rcases hF.2 with e | e <;> omega
  have hch := (zch_of hz).1
  rw [fJ0_charAt_5068e]
  refine qJ_isLatin ⟨fun q => absurd q (by decide), fun _ => ?_⟩
  rw [fJ1_charAt_3b067, fJ0_checkIndex_df160, fJ3_checkIndex_8e157, zlen1, zi_nat (show i < 2 ^ 31 by omega), hF.1]
  exact ⟨zi_0le (by omega), (zi_lt (by omega) (by decide)).mpr hi, zi_in hi (by omega), hch, hch, hk⟩
theorem zl_add {a b : Nat} : Int64.ofNat a + Int64.ofNat b = Int64.ofNat (a + b) := (Int64.ofNat_add a b).symm
theorem zl_mul {a b : Nat} : Int64.ofNat a * Int64.ofNat b = Int64.ofNat (a * b) := (Int64.ofNat_mul a b).symm
theorem zi_L64 {a : Nat} (h : a < 2 ^ 31) : (Int32.ofNat a).toInt64 = Int64.ofNat a := Int32.toInt64_ofNat' (show (a : Int) ≤ 2147483647 by omega)
theorem q10_valueL {c : Nat} {w : zW} {k : Int32 → zW → Prop} (h : 97 ≤ c) (hc : c < 127) (hk : k (Int32.ofNat (c - 96)) w) : fX10_valueOf (Int32.ofNat c) w k := by
  rw [fX10_valueOf]
  intro v1 e1
  rw [e1.trans (if_neg (fun z => by have := (zi_lt (b := 97) (by omega) (by decide)).mp z; omega)), zl97, zi_sub h, zl1, zi_add, show c - 97 + 1 = c - 96 by omega]
  exact hk
theorem q10_valueD {c : Nat} {w : zW} {k : Int32 → zW → Prop} (h : 48 ≤ c) (hc : c ≤ 57) (hk : k (Int32.ofNat (c - 48)) w) : fX10_valueOf (Int32.ofNat c) w k := by
  rw [fX10_valueOf]
  intro v1 e1
  rw [e1.trans (if_pos ((zi_lt (b := 97) (by omega) (by decide)).mpr (by omega))), zl48, zi_sub h]
  exact hk
def zKy (i : Nat) : Int32 := if i < 21 then Int32.ofNat i else zN1
theorem q10_keyOf {l : List Nat} {w : zW} {k : Int32 → zW → Prop} (hl : zSW l) (hk : k (zKy (zKey l)) w) : fX10_keyOf (Int64.ofNat (zn32 l)) w k := by
  have hin : ∀ (g2 : Int64 → Int32 → zW → Prop) (s : Nat), s + 8 ≤ 168 → (fX10_keyOf_J64 k g2 (Int64.ofNat (zn32 l)) (Int32.ofNat s) (Int64.ofNat (zinn 8 s 0)) w) → ∀ (d i acc : Nat), i + d = s + 8 → zinn d i acc = zinn 8 s 0 → fX10_keyOf_L19 k g2 (d + 1) (Int64.ofNat (zn32 l)) (Int32.ofNat s) (Int64.ofNat acc) (Int32.ofNat i) w := by
    intro g2 s hs hJ d
    induction d with
    | zero =>
      intro i acc hi he
      rw [fX10_keyOf_L19]
      try dsimp only
      rw [zl8, zi_add]
      refine ⟨fun _ => ?_, fun q => absurd ((zi_le (by omega) (by omega)).mpr (by omega)) q⟩
      rw [← he] at hJ
      exact hJ
    | succ d ih =>
      intro i acc hi he
      have hF := zc1_of (show i < 168 by omega)
      have hz : zc1 i < 127 := by rcases hF.2 with e | e <;> omega
      rw [fX10_keyOf_L19]
      try dsimp only
      rw [zl8, zi_add]
      refine ⟨fun q => absurd ((zi_le (by omega) (by omega)).mp q) (by omega), fun _ => ?_⟩
      refine qJ_charAt (by omega) ⟨fun q => ?_, fun q => ?_⟩
      · have e := (zi_eq (b := 32) (by omega) (by decide)).mp q
        rw [zinn, if_pos e] at he
        rw [← he] at hJ
        exact hJ
      · have e : ¬ zc1 i = 32 := fun z => q (by rw [z]; rfl)
        have e2 : 97 ≤ zc1 i := (hF.2.resolve_left e).1
        refine qJ_charAt (by omega) (q10_valueL e2 hz ?_)
        intro v9 e9
        rw [zi_L64 (by omega), show (32 : Int64) = Int64.ofNat 32 from rfl, zl_mul, zl_add] at e9
        rw [e9, zl1, zi_add]
        rw [zinn, if_neg e] at he
        exact ih (i + 1) _ (by omega) he
  have hgo : ∀ (c i : Nat), i + c = 21 → (∀ j, j < i → ¬ zKey l = j) → fX10_keyOf_L2 k (c + 1) (Int64.ofNat (zn32 l)) (Int32.ofNat (8 * i)) w := by
    intro c
    induction c with
    | zero =>
      intro i hi hall
      rw [fX10_keyOf_L2]
      try dsimp only
      refine qJ_length (by rw [zlen1]; decide) ?_
      rw [zlen1, zl8, zi_add]
      refine ⟨fun _ => ?_, fun q => absurd ((zi_lt (by decide) (by omega)).mpr (by omega)) q⟩
      have h1 := zKey_le l
      have h2 : ¬ zKey l < 21 := fun z => hall _ (by omega) rfl
      rw [zKy, if_neg h2] at hk
      exact hk
    | succ c ih =>
      intro i hi hall
      rw [fX10_keyOf_L2]
      try dsimp only
      refine qJ_length (by rw [zlen1]; decide) ?_
      rw [zlen1, zl8, zi_add]
      refine ⟨fun q => absurd ((zi_lt (by decide) (by omega)).mp q) (by omega), fun _ => ?_⟩
      refine ⟨8 + 1, hin _ (8 * i) (by omega) ?_ 8 (8 * i) 0 (by omega) rfl⟩
      rw [fX10_keyOf_J64, zinF ⟨i, by omega⟩, lg_cmp_eq, zn32_eq (zKL_ok ⟨i, by omega⟩) hl, zl8, zi_add, zi_div (by omega) (by decide)]
      have hki := zKey_iff (l := l) (show i < 21 by omega)
      refine ⟨fun q => ?_, fun q => ?_⟩
      · rw [show 8 * i + 8 = 8 * (i + 1) by omega]
        refine ih (i + 1) (by omega) (fun j hj => ?_)
        by_cases e : j = i
        · rw [e]; exact fun z => q (hki.mp z).symm
        · exact hall j (by omega)
      · rw [show 8 * i / 8 = i by omega]
        have e : zKey l = i := hki.mpr q.symm
        rw [zKy, e, if_pos (by omega)] at hk
        exact hk
  exact ⟨21 + 1, hgo 21 0 rfl (fun j hj => absurd hj (Nat.not_lt_zero j))⟩

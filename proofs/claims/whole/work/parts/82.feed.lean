/-! Level 2: feed -/
theorem zand255 (y : Int32) : ∃ c : Nat, c < 256 ∧ y &&& (255 : Int32) = Int32.ofNat c := by
  refine ⟨(y &&& (255 : Int32)).toBitVec.toNat, ?_, ?_⟩
  · have h : (y &&& (255 : Int32)).toBitVec = y.toBitVec &&& 255#32 := rfl
    rw [h, BitVec.toNat_and]
    exact Nat.lt_of_le_of_lt Nat.and_le_right (by decide)
  · apply Int32.toBitVec_inj.mp
    apply BitVec.eq_of_toNat_eq
    show _ = (BitVec.ofNat 32 (y &&& (255 : Int32)).toBitVec.toNat).toNat
    rw [BitVec.toNat_ofNat, Nat.mod_eq_of_lt (BitVec.isLt _)]
theorem zcharF : ∀ c : Fin 256, ((((Int32.ofNat c.val).toUInt32 % 65536).toInt32).toUInt32.toUInt16.toUInt32.toInt32) = Int32.ofNat c.val := by decide +kernel
/-- a sign that counts -/
def zgood (c : Nat) : Prop := c = 10 ∨ (32 ≤ c ∧ c ≤ 126)
/-- so much is on the tape, on the class's side and on the reference's -/
def zTc (w : zW) (n : Nat) (t : Nat → Nat) : Prop := gI w 2 1 = Int32.ofNat n ∧ ∀ i, i < n → gI w 3 i = Int32.ofNat (t i)
def zTr (w : zW) (n : Nat) (t : Nat → Nat) : Prop := gI w 200 2 = Int32.ofNat n ∧ ∀ i, i < n → gI w 201 i = Int32.ofNat (t i)
/-- the signs of a long, one after the other -/
def zsgn (x : Int64) (i : Nat) : Nat := (((x >>> ((Int32.ofNat (56 - 8 * i)).toInt64 &&& 63)).toInt32) &&& (255 : Int32)).toNatClampNeg
theorem zsgn_eq (x : Int64) (i : Nat) : zsgn x i < 256 ∧ ((x >>> ((Int32.ofNat (56 - 8 * i)).toInt64 &&& 63)).toInt32) &&& (255 : Int32) = Int32.ofNat (zsgn x i) := by
  obtain ⟨c, c1, c2⟩ := zand255 ((x >>> ((Int32.ofNat (56 - 8 * i)).toInt64 &&& 63)).toInt32)
  unfold zsgn
  rw [c2, zi_nat (by omega)]
  exact ⟨c1, rfl⟩
/-- one sign more, if it counts and there is room -/
def zpush (c : Nat) (s : Nat × (Nat → Nat)) : Nat × (Nat → Nat) := if (c = 10 ∨ (32 ≤ c ∧ c ≤ 126)) ∧ s.1 < 1000 then (s.1 + 1, fun i => if i = s.1 then c else s.2 i) else s
def zlayn (x : Int64) (s : Nat × (Nat → Nat)) : Nat → Nat × (Nat → Nat)
  | 0 => s
  | i + 1 => zpush (zsgn x i) (zlayn x s i)
theorem zpush_wf {c : Nat} {s : Nat × (Nat → Nat)} (h1 : s.1 ≤ 1000) (h2 : ∀ i, i < s.1 → zgood (s.2 i)) : (zpush c s).1 ≤ 1000 ∧ ∀ i, i < (zpush c s).1 → zgood ((zpush c s).2 i) := by
  unfold zpush
  by_cases q : (c = 10 ∨ (32 ≤ c ∧ c ≤ 126)) ∧ s.1 < 1000
  · rw [if_pos q]
    refine ⟨by show s.1 + 1 ≤ 1000; omega, fun i hi => ?_⟩
    have hi' : i < s.1 + 1 := hi
    show zgood (if i = s.1 then c else s.2 i)
    by_cases z : i = s.1
    · rw [if_pos z]; exact q.1
    · rw [if_neg z]; exact h2 i (by omega)
  · rw [if_neg q]; exact ⟨h1, h2⟩
theorem zlayn_wf {x : Int64} {s : Nat × (Nat → Nat)} (h1 : s.1 ≤ 1000) (h2 : ∀ i, i < s.1 → zgood (s.2 i)) (n : Nat) : (zlayn x s n).1 ≤ 1000 ∧ ∀ i, i < (zlayn x s n).1 → zgood ((zlayn x s n).2 i) := by
  induction n with
  | zero => exact ⟨h1, h2⟩
  | succ n ih => exact zpush_wf ih.1 ih.2
theorem zshift {i : Nat} (hi : i < 8) : Int32.ofNat (56 - 8 * i) + (-8 : Int32) = (if i = 7 then (-8 : Int32) else Int32.ofNat (56 - 8 * (i + 1))) := by
  rcases (show i = 0 ∨ i = 1 ∨ i = 2 ∨ i = 3 ∨ i = 4 ∨ i = 5 ∨ i = 6 ∨ i = 7 by omega) with e | e | e | e | e | e | e | e <;> subst e <;> decide
theorem q12_lay {x : Int64} {n : Nat} {t : Nat → Nat} {w : zW} {k : zW → Prop} (hn : n ≤ 1000) (ht : zTr w n t) (hk : ∀ v : zW, v.2 = w.2 → (∀ a c, a ≠ 201 → (a = 200 → c ≠ 2) → gI v a c = gI w a c) → zTr v (zlayn x (n, t) 8).1 (zlayn x (n, t) 8).2 → k v) (hg : ∀ i, i < n → zgood (t i)) : fX12_lay x w k := by
  refine zinv (fun m (s : Int32 × zW) => fX12_lay_L3 k m x s.1 s.2) (fun i s => ∃ v : zW, s = ((if i = 8 then (-8 : Int32) else Int32.ofNat (56 - 8 * i)), v) ∧ v.2 = w.2 ∧ (∀ a c, a ≠ 201 → (a = 200 → c ≠ 2) → gI v a c = gI w a c) ∧ zTr v (zlayn x (n, t) i).1 (zlayn x (n, t) i).2) 8 (s0 := (56, w)) ⟨w, rfl, rfl, fun _ _ _ _ => rfl, ht⟩ ?_ ?_
  · rintro m s ⟨v, rfl, v2, vf, vt⟩
    rw [fX12_lay_L3]
    try dsimp only
    exact ⟨fun _ => hk v v2 vf vt, fun q => absurd (by decide) q⟩
  · rintro i m s hi ⟨v, rfl, v2, vf, vt⟩ hc
    obtain ⟨hs1, hs2⟩ := zsgn_eq x i
    have hwf := zlayn_wf (x := x) (s := (n, t)) hn hg i
    have hnext : ∀ u : zW, u.2 = w.2 → (∀ a c, a ≠ 201 → (a = 200 → c ≠ 2) → gI u a c = gI w a c) → zTr u (zlayn x (n, t) (i + 1)).1 (zlayn x (n, t) (i + 1)).2 → fX12_lay_L3 k m x (Int32.ofNat (56 - 8 * i) + (-8 : Int32)) u := by
      intro u u2 uf ut
      rw [zshift hi]
      refine hc ((if i = 7 then (-8 : Int32) else Int32.ofNat (56 - 8 * (i + 1))), u) ⟨u, ?_, u2, uf, ut⟩
      by_cases z : i = 7
      · rw [if_pos z, if_pos (by omega)]
      · rw [if_neg z, if_neg (by omega)]
    have eS : zlayn x (n, t) (i + 1) = zpush (zsgn x i) (zlayn x (n, t) i) := rfl
    rw [if_neg (show ¬ i = 8 by omega)]
    show fX12_lay_L3 k (m + 1) x (Int32.ofNat (56 - 8 * i)) v
    rw [fX12_lay_L3]
    try dsimp only
    refine ⟨fun q => absurd q (zi_0le (by omega)), fun _ => ?_⟩
    intro y ey
    rw [hs2] at ey
    subst ey
    have hno : ¬ ((zsgn x i = 10 ∨ (32 ≤ zsgn x i ∧ zsgn x i ≤ 126)) ∧ (zlayn x (n, t) i).1 < 1000) → fX12_lay_L3 k m x (Int32.ofNat (56 - 8 * i) + (-8 : Int32)) v := fun z => by
      refine hnext v v2 vf ?_
      rw [eS, zpush, if_neg z]
      exact vt
    have hyes : (zsgn x i = 10 ∨ (32 ≤ zsgn x i ∧ zsgn x i ≤ 126)) → fX12_lay_J38 k (fX12_lay_L3 k m) x (Int32.ofNat (56 - 8 * i)) (Int32.ofNat (zsgn x i)) v := by
      intro hgd
      rw [fX12_lay_J38, vt.1]
      refine ⟨fun q => hno (fun z => by have := (zi_le (a := 1000) (by decide) (by omega)).mp q; omega), fun q => ?_⟩
      have hl : (zlayn x (n, t) i).1 < 1000 := Nat.lt_of_not_le (fun z => q ((zi_le (a := 1000) (by decide) (by omega)).mpr z))
      refine ⟨zi_in hl (by omega), ?_⟩
      intro w6 e6 w7 e7
      rw [zi_nat (show (zlayn x (n, t) i).1 < 2 ^ 31 by omega)] at e6
      have g6 : gI w6 200 2 = Int32.ofNat (zlayn x (n, t) i).1 := by rw [e6, gI_sI_ne (by decide)]; exact vt.1
      rw [g6, zl1, zi_add] at e7
      refine hnext w7 (by rw [e7, e6]; exact v2) (fun a c q1 q2 => by rw [e7, gI_sI, if_neg (fun z => q2 z.1 z.2), e6, gI_sI, if_neg (fun z => q1 z.1)]; exact vf a c q1 q2) ?_
      rw [eS, zpush, if_pos ⟨hgd, hl⟩]
      refine ⟨by rw [e7, gI_sI_eq], fun j hj => ?_⟩
      have hj' : j < (zlayn x (n, t) i).1 + 1 := hj
      show gI w7 201 j = Int32.ofNat (if j = (zlayn x (n, t) i).1 then zsgn x i else (zlayn x (n, t) i).2 j)
      rw [e7, gI_sI_ne (by decide), e6]
      by_cases z : j = (zlayn x (n, t) i).1
      · rw [if_pos z, z, gI_sI_eq]
      · rw [if_neg z, gI_sI_ne2 z]
        exact vt.2 j (by omega)
    refine ⟨fun q => hyes (Or.inl ((zi_eq (by omega) (by decide)).mp q)), fun q => ⟨fun q2 => hno (fun z => ?_), fun q2 => ⟨fun q3 => hno (fun z => ?_), fun q3 => hyes (Or.inr ⟨?_, ?_⟩)⟩⟩⟩
    · have := (zi_lt (b := 32) (by omega) (by decide)).mp q2
      have h10 : ¬ zsgn x i = 10 := fun y => q (by rw [y]; rfl)
      omega
    · have := (zi_lt (a := 126) (by decide) (by omega)).mp q3
      have h10 : ¬ zsgn x i = 10 := fun y => q (by rw [y]; rfl)
      omega
    · exact Nat.le_of_not_lt (fun z => q2 ((zi_lt (b := 32) (by omega) (by decide)).mpr z))
    · exact Nat.le_of_not_lt (fun z => q3 ((zi_lt (a := 126) (by decide) (by omega)).mpr z))
theorem q10_add {x : Int64} {n : Nat} {t : Nat → Nat} {w : zW} {k : zW → Prop} (hn : n ≤ 1000) (ht : zTc w n t) (hg : ∀ i, i < n → zgood (t i)) (hk : ∀ v : zW, v.2 = w.2 → (∀ a c, a ≠ 3 → (a = 2 → c ≠ 1) → gI v a c = gI w a c) → zTc v (zlayn x (n, t) 8).1 (zlayn x (n, t) 8).2 → k v) : fX10_add x w k := by
  refine zinv (fun m (s : Int32 × zW) => fX10_add_L3 k m x s.1 s.2) (fun i s => ∃ v : zW, s = ((if i = 8 then (-8 : Int32) else Int32.ofNat (56 - 8 * i)), v) ∧ v.2 = w.2 ∧ (∀ a c, a ≠ 3 → (a = 2 → c ≠ 1) → gI v a c = gI w a c) ∧ zTc v (zlayn x (n, t) i).1 (zlayn x (n, t) i).2) 8 (s0 := (56, w)) ⟨w, rfl, rfl, fun _ _ _ _ => rfl, ht⟩ ?_ ?_
  · rintro m s ⟨v, rfl, v2, vf, vt⟩
    rw [fX10_add_L3]
    try dsimp only
    exact ⟨fun _ => hk v v2 vf vt, fun q => absurd (by decide) q⟩
  · rintro i m s hi ⟨v, rfl, v2, vf, vt⟩ hc
    obtain ⟨hs1, hs2⟩ := zsgn_eq x i
    have hwf := zlayn_wf (x := x) (s := (n, t)) hn hg i
    have hnext : ∀ u : zW, u.2 = w.2 → (∀ a c, a ≠ 3 → (a = 2 → c ≠ 1) → gI u a c = gI w a c) → zTc u (zlayn x (n, t) (i + 1)).1 (zlayn x (n, t) (i + 1)).2 → fX10_add_L3 k m x (Int32.ofNat (56 - 8 * i) + (-8 : Int32)) u := by
      intro u u2 uf ut
      rw [zshift hi]
      refine hc ((if i = 7 then (-8 : Int32) else Int32.ofNat (56 - 8 * (i + 1))), u) ⟨u, ?_, u2, uf, ut⟩
      by_cases z : i = 7
      · rw [if_pos z, if_pos (by omega)]
      · rw [if_neg z, if_neg (by omega)]
    have eS : zlayn x (n, t) (i + 1) = zpush (zsgn x i) (zlayn x (n, t) i) := rfl
    rw [if_neg (show ¬ i = 8 by omega)]
    show fX10_add_L3 k (m + 1) x (Int32.ofNat (56 - 8 * i)) v
    rw [fX10_add_L3]
    try dsimp only
    refine ⟨fun q => absurd q (zi_0le (by omega)), fun _ => ?_⟩
    intro y ey
    rw [zfeedF hi, hs2] at ey
    subst ey
    intro v3 e3
    have hno : ¬ ((zsgn x i = 10 ∨ (32 ≤ zsgn x i ∧ zsgn x i ≤ 126)) ∧ (zlayn x (n, t) i).1 < 1000) → fX10_add_L3 k m x (Int32.ofNat (56 - 8 * i) + (-8 : Int32)) v := fun z => by
      refine hnext v v2 vf ?_
      rw [eS, zpush, if_neg z]
      exact vt
    have e3' : v3 = if (zsgn x i = 10 ∨ (32 ≤ zsgn x i ∧ zsgn x i ≤ 126)) then 1 else 0 := by
      rw [e3]
      by_cases y1 : zsgn x i = 10
      · rw [if_pos (Or.inl y1)]; exact if_pos (by rw [y1]; rfl)
      · refine (if_neg (fun z => y1 ((zi_eq (b := 10) (by omega) (by decide)).mp z))).trans ?_
        by_cases y2 : zsgn x i < 32
        · rw [if_neg (show ¬ (zsgn x i = 10 ∨ (32 ≤ zsgn x i ∧ zsgn x i ≤ 126)) by omega)]
          exact if_pos ((zi_lt (b := 32) (by omega) (by decide)).mpr y2)
        · refine (if_neg (fun z => y2 ((zi_lt (b := 32) (by omega) (by decide)).mp z))).trans ?_
          by_cases y3 : 126 < zsgn x i
          · rw [if_neg (show ¬ (zsgn x i = 10 ∨ (32 ≤ zsgn x i ∧ zsgn x i ≤ 126)) by omega)]
            exact if_pos ((zi_lt (a := 126) (by decide) (by omega)).mpr y3)
          · rw [if_pos (show (zsgn x i = 10 ∨ (32 ≤ zsgn x i ∧ zsgn x i ≤ 126)) by omega)]
            exact if_neg (fun z => y3 ((zi_lt (a := 126) (by decide) (by omega)).mp z))
    by_cases hgd : zsgn x i = 10 ∨ (32 ≤ zsgn x i ∧ zsgn x i ≤ 126)
    · rw [if_pos hgd] at e3'
      rw [e3', fX10_add_J43, vt.1]
      refine ⟨fun q => absurd q (by decide), fun _ => ⟨fun q => absurd q (zi_0le (by omega)), fun _ => ⟨fun q => hno (fun z => by have := (zi_le (a := 1000) (by decide) (by omega)).mp q; omega), fun q => ?_⟩⟩⟩
      have hl : (zlayn x (n, t) i).1 < 1000 := Nat.lt_of_not_le (fun z => q ((zi_le (a := 1000) (by decide) (by omega)).mpr z))
      refine ⟨zi_in hl (by omega), ?_⟩
      intro w8 e8 w9 e9
      rw [zi_nat (show (zlayn x (n, t) i).1 < 2 ^ 31 by omega), zcharF ⟨zsgn x i, hs1⟩] at e8
      have g8 : gI w8 2 1 = Int32.ofNat (zlayn x (n, t) i).1 := by rw [e8, gI_sI_ne (by decide)]; exact vt.1
      rw [g8, zl1, zi_add] at e9
      refine hnext w9 (by rw [e9, e8]; exact v2) (fun a c q1 q2 => by rw [e9, gI_sI, if_neg (fun z => q2 z.1 z.2), e8, gI_sI, if_neg (fun z => q1 z.1)]; exact vf a c q1 q2) ?_
      rw [eS, zpush, if_pos ⟨hgd, hl⟩]
      refine ⟨by rw [e9, gI_sI_eq], fun j hj => ?_⟩
      have hj' : j < (zlayn x (n, t) i).1 + 1 := hj
      show gI w9 3 j = Int32.ofNat (if j = (zlayn x (n, t) i).1 then zsgn x i else (zlayn x (n, t) i).2 j)
      rw [e9, gI_sI_ne (by decide), e8]
      by_cases z : j = (zlayn x (n, t) i).1
      · rw [if_pos z, z, gI_sI_eq]
      · rw [if_neg z, gI_sI_ne2 z]
        exact vt.2 j (by omega)
    · rw [if_neg hgd] at e3'
      rw [e3', fX10_add_J43]
      exact ⟨fun _ => hno (fun z => hgd z.1), fun q => absurd rfl q⟩

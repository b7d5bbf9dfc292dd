/-! Level 2: told names -/
def zIx (nm : Nat → List Nat) : Nat → List Nat → Nat
  | 0, _ => 0
  | W + 1, l => if zIx nm W l < W then zIx nm W l else if nm W = l then W else W + 1
theorem zIx_sp (nm : Nat → List Nat) (l : List Nat) : ∀ W, zIx nm W l ≤ W ∧ (zIx nm W l < W → nm (zIx nm W l) = l ∧ ∀ o, o < zIx nm W l → ¬ nm o = l) ∧ (¬ zIx nm W l < W → ∀ o, o < W → ¬ nm o = l) := by
  intro W
  induction W with
  | zero => exact ⟨Nat.le_refl _, fun q => absurd q (Nat.not_lt_zero _), fun _ o ho => absurd ho (Nat.not_lt_zero _)⟩
  | succ W ih =>
    obtain ⟨a1, a2, a3⟩ := ih
    rw [zIx]
    by_cases e : zIx nm W l < W
    · rw [if_pos e]
      exact ⟨by omega, fun _ => a2 e, fun q => absurd (show zIx nm W l < W + 1 by omega) q⟩
    · rw [if_neg e]
      by_cases e2 : nm W = l
      · rw [if_pos e2]
        exact ⟨by omega, fun _ => ⟨e2, fun o ho => a3 e o ho⟩, fun q => absurd (Nat.lt_succ_self W) q⟩
      · rw [if_neg e2]
        refine ⟨Nat.le_refl _, fun q => absurd q (Nat.lt_irrefl _), fun _ o ho => ?_⟩
        by_cases y : o = W
        · rw [y]; exact e2
        · exact a3 e o (by omega)
/-- what is wrong with a told name here -/
def zMe (T : zTks) (nm : Nat → List Nat) (W j : Nat) : Nat := if zNmd T j then (if zIx nm W (T.nm j) < W then 0 else 2) else 1
theorem zMe_0 {T : zTks} {nm : Nat → List Nat} {W j : Nat} (h : zMe T nm W j = 0) : zNmd T j ∧ zIx nm W (T.nm j) < W := by
  unfold zMe at h
  by_cases e : zNmd T j
  · rw [if_pos e] at h
    by_cases e2 : zIx nm W (T.nm j) < W
    · exact ⟨e, e2⟩
    · rw [if_neg e2] at h; omega
  · rw [if_neg e] at h; omega
theorem zMe_r (T : zTks) (nm : Nat → List Nat) (W j : Nat) : zMe T nm W j = 0 ∨ zMe T nm W j = 1 ∨ zMe T nm W j = 2 := by
  unfold zMe
  by_cases e : zNmd T j
  · rw [if_pos e]
    by_cases e2 : zIx nm W (T.nm j) < W
    · rw [if_pos e2]; omega
    · rw [if_neg e2]; omega
  · rw [if_neg e]; omega
/-- where some names stand, in both numbers -/
def zNm32 (a W : Nat) (nm : Nat → List Nat) (v : zW) : Prop := ∀ o, o < W → gL v a o = Int64.ofNat (zn32 (nm o))
def zNm37 (a W : Nat) (nm : Nat → List Nat) (v : zW) : Prop := ∀ o, o < W → gL v 214 (a + o) = Int64.ofNat (zn37 (nm o))
/-- names: short words, each another one -/
def zNmok (W : Nat) (nm : Nat → List Nat) : Prop := (∀ o, o < W → zSW (nm o)) ∧ ∀ o p, o < p → p < W → ¬ nm o = nm p
def zIxI (nm : Nat → List Nat) (W : Nat) (l : List Nat) : Int32 := if zIx nm W l < W then Int32.ofNat (zIx nm W l) else -1
theorem q0_wordNamed {b W : Nat} {nm : Nat → List Nat} {l : List Nat} {w : zW} {k : Int32 → zW → Prop} (hW : W ≤ 4) (hw : gI w b 0 = Int32.ofNat W) (hn : zNm32 (b + 1) W nm w) (hok : zNmok W nm) (hl : zSW l) (hk : k (zIxI nm W l) w) : fX0_wordNamed b (Int64.ofNat (zn32 l)) w k := by
  obtain ⟨x1, x2, x3⟩ := zIx_sp nm l W
  have hgo : ∀ (d i : Nat), i + d = W → i ≤ zIx nm W l → fX0_wordNamed_L2 b k (d + 1) (Int64.ofNat (zn32 l)) (Int32.ofNat i) w := by
    intro d
    induction d with
    | zero =>
      intro i hi hx
      rw [fX0_wordNamed_L2]
      try dsimp only
      rw [hw]
      refine ⟨fun _ => ?_, fun q => absurd ((zi_le (by omega) (by omega)).mpr (by omega)) q⟩
      rw [zIxI, if_neg (by omega)] at hk
      exact hk
    | succ d ih =>
      intro i hi hx
      rw [fX0_wordNamed_L2]
      try dsimp only
      rw [hw, zi_nat (show i < 2 ^ 31 by omega), hn i (by omega), lg_cmp_eq, zn32_eq (hok.1 i (by omega)) hl]
      refine ⟨fun q => absurd ((zi_le (by omega) (by omega)).mp q) (by omega), fun _ => ⟨fun q => absurd ((zi_le (a := 4) (by decide) (by omega)).mp q) (by omega), fun _ => ⟨zi_in (by omega) (by omega), fun q => ?_, fun q => ?_⟩⟩⟩
      · rw [zl1, zi_add]
        refine ih (i + 1) (by omega) ?_
        by_cases e : i = zIx nm W l
        · exact absurd (by rw [e]; exact (x2 (by omega)).1) q
        · omega
      · have e : zIx nm W l = i := by
          by_cases y : zIx nm W l < W
          · by_cases z : i < zIx nm W l
            · exact absurd q ((x2 y).2 i z)
            · omega
          · exact absurd q (x3 y i (by omega))
        rw [zIxI, e, if_pos (by omega)] at hk
        exact hk
  rw [fX0_wordNamed]
  exact ⟨W + 1, hgo W 0 (by omega) (Nat.zero_le _)⟩
theorem q10_takeName {sg : Nat → Nat} {n j b W : Nat} {nm : Nat → List Nat} {w : zW} {k : Int32 → zW → Prop} (hsg : zSg sg n) (h : zCt sg n j w) (hW : W ≤ 4) (hw : gI w b 0 = Int32.ofNat W) (hn : zNm32 (b + 1) W nm w) (hok : zNmok W nm)
    (h1 : zMe (zTT sg n) nm W j = 0 → ∀ v, zfT w v → zCt sg n (j + 1) v → k (Int32.ofNat (zIx nm W ((zTT sg n).nm j))) v) (h0 : ¬ zMe (zTT sg n) nm W j = 0 → ∀ v, v = sI w 2 8 (Int32.ofNat (zMe (zTT sg n) nm W j + 16 * (zTT sg n).pl j)) → k (-1) v) : fX10_takeName b w k := by
  rw [fX10_takeName]
  refine q10_isName h (fun y => ⟨fun _ => ?_, fun q => absurd q (by decide)⟩) (fun y => ⟨fun q => absurd rfl q, fun _ => ?_⟩)
  · rw [ct_nm h y.1]
    refine q0_wordNamed hW hw hn hok (zTT_nm y.1) ?_
    have x1 := (zIx_sp nm ((zTT sg n).nm j) W).1
    by_cases e : zIx nm W ((zTT sg n).nm j) < W
    · rw [zIxI, if_pos e]
      have ez : zMe (zTT sg n) nm W j = 0 := by rw [zMe, if_pos y, if_pos e]
      exact ⟨fun _ => q10_nx hsg h (fun v f c => h1 ez v f c), fun q => absurd q (zN1_ne (by omega))⟩
    · rw [zIxI, if_neg e]
      have ez : zMe (zTT sg n) nm W j = 2 := by rw [zMe, if_pos y, if_neg e]
      exact ⟨fun q => absurd rfl q, fun _ => q10_wrong (x := 2) h (fun v ev => h0 (by omega) v (by rw [ez]; exact ev))⟩
  · have ez : zMe (zTT sg n) nm W j = 1 := by rw [zMe, if_neg y]
    exact q10_wrong (x := 1) h (fun v ev => h0 (by omega) v (by rw [ez]; exact ev))
theorem q12_nameAt {sg : Nat → Nat} {n m j a W : Nat} {nm : Nat → List Nat} {w : zW} {k : Int32 → zW → Prop} (h : zRtk sg n m j w) (ha : a + W ≤ 8) (hn : zNm37 a W nm w) (hok : zNmok W nm) (he : (zTT sg n).kd j = 1) (hk : k (zIxI nm W ((zTT sg n).nm j)) w) : fX12_nameAt (Int32.ofNat a) (Int32.ofNat W) w k := by
  have hm1 := h.1.1
  have hjm := h.2.2.1
  have hgo : ∀ (d i : Nat), i + d = W → fX12_nameAt_L5 k (d + 1) (Int32.ofNat a) (Int32.ofNat W) (zIxI nm i ((zTT sg n).nm j)) (Int32.ofNat i) w := by
    intro d
    induction d with
    | zero =>
      intro i hi
      have e : i = W := by omega
      subst e
      rw [fX12_nameAt_L5]
      exact ⟨fun _ => hk, fun q => absurd ((zi_le (by omega) (by omega)).mpr (by omega)) q⟩
    | succ d ih =>
      intro i hi
      have ih' := ih (i + 1) (by omega)
      obtain ⟨x1, x2, x3⟩ := zIx_sp nm ((zTT sg n).nm j) i
      rw [fX12_nameAt_L5]
      try dsimp only
      rw [zi_add, (rt_in h).2, rt_nm h he, zi_nat (show a + i < 2 ^ 31 by omega), hn i (by omega)]
      refine ⟨fun q => absurd ((zi_le (by omega) (by omega)).mp q) (by omega), fun _ => ⟨zi_in (by omega) (by omega), (rt_in h).1, ?_⟩⟩
      intro v4 e4
      rw [zl1, zi_add]
      by_cases y : nm i = (zTT sg n).nm j
      · rw [e4.trans (if_neg (fun z => z ((lg_cmp_eq _ _).mpr (by rw [y]))))]
        have ne : ¬ zIx nm i ((zTT sg n).nm j) < i := fun z => hok.2 _ i z (by omega) (by rw [(x2 z).1, y])
        have e : zIxI nm (i + 1) ((zTT sg n).nm j) = Int32.ofNat i := by rw [zIxI, zIx, if_neg ne, if_pos y, if_pos (by omega)]
        rw [e] at ih'
        exact ih'
      · rw [e4.trans (if_pos (fun z => y ((zn37_eq (hok.1 i (by omega)) (zTT_nm he)).mp ((lg_cmp_eq _ _).mp z))))]
        have e : zIxI nm (i + 1) ((zTT sg n).nm j) = zIxI nm i ((zTT sg n).nm j) := by
          by_cases z : zIx nm i ((zTT sg n).nm j) < i
          · rw [zIxI, zIxI, zIx, if_pos z, if_pos (show zIx nm i ((zTT sg n).nm j) < i + 1 by omega), if_pos z]
          · rw [zIxI, zIxI, zIx, if_neg z, if_neg y, if_neg (by omega), if_neg z]
        rw [e] at ih'
        exact ih'
  have h0 : zIxI nm 0 ((zTT sg n).nm j) = -1 := by rw [zIxI, if_neg (by omega)]
  have := hgo W 0 (by omega)
  rw [h0] at this
  rw [fX12_nameAt]
  exact ⟨W + 1, this⟩
theorem q12_takeToldF {e : Nat} {x1 x2 : Int32} {w : zW} {k : Int32 → zW → Prop} (h : zRf e w) (hk : k 0 w) : fX12_takeTold x1 x2 w k := by
  rw [fX12_takeTold]
  refine ⟨fun _ => ?_, fun q => absurd q (rf_ne h)⟩
  rw [fX12_takeTold_J19]
  refine ⟨fun q => absurd q (rf_le h), fun _ => ?_⟩
  rw [fX12_takeTold_J36]
  refine ⟨fun _ => ?_, fun q => absurd q (rf_ne h)⟩
  rw [fX12_takeTold_J53]
  intro v5 e5
  rw [fX12_takeTold_J70, e5.trans (if_neg (rf_le h)), Int32.add_zero, zsI_id rfl]
  intro w6 e6 v7 e7
  rw [e6] at e7 ⊢
  rw [e7.trans (if_neg (rf_le h))]
  exact hk
theorem q12_takeTold {sg : Nat → Nat} {n m j a W : Nat} {nm : Nat → List Nat} {w : zW} {k : Int32 → zW → Prop} (hsg : zSg sg n) (h : zRtk sg n m j w) (ha : a + W ≤ 8) (hn : zNm37 a W nm w) (hok : zNmok W nm)
    (h1 : zMe (zTT sg n) nm W j = 0 → k (Int32.ofNat (zIx nm W ((zTT sg n).nm j))) (sI w 200 7 (Int32.ofNat (j + 1)))) (h0 : ¬ zMe (zTT sg n) nm W j = 0 → k 0 (sI w 200 8 (Int32.ofNat (zMe (zTT sg n) nm W j + 16 * (zTT sg n).pl j)))) : fX12_takeTold (Int32.ofNat a) (Int32.ofNat W) w k := by
  have hn1 := hsg.1
  have hr := zMe_r (zTT sg n) nm W j
  have hbad : ¬ zMe (zTT sg n) nm W j = 0 → ∀ x : Int32, fX12_takeTold_J53 k x (sI w 200 8 (Int32.ofNat (zMe (zTT sg n) nm W j + 16 * (zTT sg n).pl j))) := fun y x => by
    have hf := rf_wrong (sg := sg) (n := n) (x := zMe (zTT sg n) nm W j) (j := j) w hn1 (by omega)
    rw [fX12_takeTold_J53]
    intro v5 e5
    rw [fX12_takeTold_J70, e5.trans (if_neg (rf_le hf)), Int32.add_zero, zsI_id rfl]
    intro w6 e6 v7 e7
    rw [e6] at e7 ⊢
    rw [e7.trans (if_neg (rf_le hf))]
    exact h0 y
  rw [fX12_takeTold]
  refine ⟨fun q => absurd h.2.2.2.1 q, fun _ => q12_isName h (fun y => ⟨fun _ => ?_, fun q => absurd q (by decide)⟩) (fun y => ⟨fun q => absurd rfl q, fun _ => ?_⟩)⟩
  · rw [fX12_takeTold_J19]
    refine ⟨fun _ => q12_nameAt h ha hn hok y.1 ?_, fun q => absurd (rt_ne h) q⟩
    rw [fX12_takeTold_J36]
    refine ⟨fun q => absurd h.2.2.2.1 q, fun _ => ?_⟩
    have x1 := (zIx_sp nm ((zTT sg n).nm j) W).1
    by_cases e : zIx nm W ((zTT sg n).nm j) < W
    · have ez : zMe (zTT sg n) nm W j = 0 := by rw [zMe, if_pos y, if_pos e]
      rw [zIxI, if_pos e]
      refine ⟨fun _ => ?_, fun q => absurd ((zi_le (a := 0) (by decide) (by omega)).mpr (Nat.zero_le _)) q⟩
      rw [fX12_takeTold_J53]
      intro v5 e5
      rw [fX12_takeTold_J70, e5.trans (if_pos (rt_ne h)), h.2.2.2.2, zl1, zi_add]
      intro w6 e6 v7 e7
      have g8 : gI w6 200 8 = gI w 200 8 := by rw [e6, gI_sI_ne2 (by decide)]
      rw [g8] at e7
      rw [e7.trans (if_pos (rt_ne h)), e6]
      exact h1 ez
    · have ez : zMe (zTT sg n) nm W j = 2 := by rw [zMe, if_pos y, if_neg e]
      have hb := hbad (by omega) (-1)
      rw [ez] at hb
      rw [zIxI, if_neg e]
      exact ⟨fun q => absurd q (by decide), fun _ => q12_wrong (x := 2) h hb⟩
  · have ez : zMe (zTT sg n) nm W j = 1 := by rw [zMe, if_neg y]
    have hf := rf_wrong (sg := sg) (n := n) (x := 1) (j := j) w hn1 (by omega)
    have hb := hbad (by omega) (-1)
    rw [ez] at hb
    refine q12_wrong (x := 1) h ?_
    rw [fX12_takeTold_J19]
    refine ⟨fun q => absurd q (rf_le hf), fun _ => ?_⟩
    rw [fX12_takeTold_J36]
    exact ⟨fun _ => hb, fun q => absurd q (rf_ne hf)⟩

/-! Level 2: the class's dictionaries are laid out and chosen -/
theorem zi_shl16F : ∀ d : Fin 256, Int32.ofNat d.val <<< ((16 : Int32) &&& 31) = Int32.ofNat (d.val * 65536) := by decide +kernel
theorem zi_shl16 {d : Nat} (h : d < 256) : Int32.ofNat d <<< ((16 : Int32) &&& 31) = Int32.ofNat (d * 65536) := zi_shl16F ⟨d, h⟩
theorem zi_pack {p d : Nat} (hp : p < 65536) (hd : d < 256) : Int32.ofNat p ||| (Int32.ofNat d <<< ((16 : Int32) &&& 31)) = Int32.ofNat (p + 65536 * d) := by
  rw [zi_shl16 hd, zi_or]
  have h : p < 2 ^ (4 * 4) := hp
  have e := zi_or_pk (a := p) (m := d) (n := 4) h
  rw [show d * 65536 = d * 2 ^ (4 * 4) from rfl, e, show 65536 * d = d * 2 ^ (4 * 4) from Nat.mul_comm _ _]
theorem zd2_lt {B : zBk} (hwf : zWF B) (m : Nat → Nat) : zd2 B m < 256 := by
  rw [zd2]
  by_cases q : zcnt (bR B) (zDn B m) ≤ 2
  · rw [if_pos q]; exact zdn_lt hwf m
  · rw [if_neg q]; omega
theorem zcnt_pos {n : Nat} {p : Nat → Bool} (h : 0 < zcnt n p) : ∃ i, i < n ∧ p i = true := by
  induction n with
  | zero => exact absurd h (Nat.not_lt_zero _)
  | succ n ih =>
    by_cases q : p n = true
    · exact ⟨n, by omega, q⟩
    · rw [zcnt_f (eq_false_of_ne_true q)] at h
      obtain ⟨i, h1, h2⟩ := ih h
      exact ⟨i, by omega, h2⟩
theorem zbits_zero {n : Nat} {p : Nat → Bool} : zbits n p = 0 ↔ ∀ i, i < n → p i = false := by
  constructor
  · intro h i hi
    have := zbits_get p hi
    rw [h, Nat.zero_div] at this
    by_cases q : p i = true
    · rw [if_pos q] at this; exact absurd this (by decide)
    · exact eq_false_of_ne_true q
  · intro h
    rw [zbits_ext (Nat.zero_le n) (fun i _ q => h i q)]
    rfl
theorem zd2_zero {B : zBk} {m : Nat → Nat} : zd2 B m = 0 ↔ zdn B m = 0 := by
  rw [zd2]
  by_cases q : zcnt (bR B) (zDn B m) ≤ 2
  · rw [if_pos q]
  · rw [if_neg q]
    refine ⟨fun z => absurd z (by decide), fun z => ?_⟩
    obtain ⟨i, h1, h2⟩ := zcnt_pos (show 0 < zcnt (bR B) (zDn B m) by omega)
    rw [zbits_zero.mp z i h1] at h2
    exact absurd h2 (by decide)
/-- those that go up, of the first so many -/
def zULi (B : zBk) (i : Nat) : List Nat := ((zAL B).take i).filter (fun d => zdn B (zdm (bW B) d) == 0)
theorem zULi_all (B : zBk) : zULi B (zAL B).length = zUL B := by rw [zULi, List.take_length]; rfl
theorem zULi_S {B : zBk} {i : Nat} (h : i < (zAL B).length) : zULi B (i + 1) = zULi B i ++ (if (zdn B (zdm (bW B) ((zAL B).getD i 0)) == 0) = true then [(zAL B).getD i 0] else []) := by
  rw [zULi, ztk_succ h, zfilt1]
  rfl
theorem zULi_le (B : zBk) (i : Nat) : (zULi B i).length ≤ i :=
  Nat.le_trans (List.length_filter_le _ _) (List.length_take_le i (zAL B))
/-- how long the new arrays are, if N dictionaries don't fit into arrays of length l; what all arrays may take that come behind such -/
def zsz (N l : Nat) : Nat := if 6561 < (if N < 2 * l then 2 * l else N) then 6561 else (if N < 2 * l then 2 * l else N)
def zpot (l : Nat) : Nat := if 6561 ≤ l then 0 else 59049 - 6 * l
theorem zpot_le (l : Nat) : zpot l ≤ 59049 := by
  unfold zpot
  by_cases h : 6561 ≤ l
  · rw [if_pos h]; omega
  · rw [if_neg h]; omega
theorem zpot_mono {a b : Nat} (h : a ≤ b) : zpot b ≤ zpot a := by
  unfold zpot
  by_cases h1 : 6561 ≤ b
  · rw [if_pos h1]; omega
  · rw [if_neg h1, if_neg (show ¬ 6561 ≤ a by omega)]; omega
theorem zsz_in {N l : Nat} (hl : l ≤ 6561) : l ≤ zsz N l ∧ zsz N l ≤ 6561 := by
  unfold zsz
  by_cases h1 : N < 2 * l
  · rw [if_pos h1]
    by_cases h2 : 6561 < 2 * l
    · rw [if_pos h2]; omega
    · rw [if_neg h2]; omega
  · rw [if_neg h1]
    by_cases h2 : 6561 < N
    · rw [if_pos h2]; omega
    · rw [if_neg h2]; omega
theorem zsz_ok {N l : Nat} (h1 : 1 ≤ l) (hN : ¬ N ≤ l) (hN2 : N ≤ 6561) : l < zsz N l ∧ N ≤ zsz N l ∧ zpot (zsz N l) + 3 * zsz N l ≤ zpot l := by
  unfold zsz
  by_cases h2 : N < 2 * l
  · rw [if_pos h2]
    by_cases h3 : 6561 < 2 * l
    · rw [if_pos h3]
      unfold zpot
      rw [if_pos (Nat.le_refl _), if_neg (show ¬ 6561 ≤ l by omega)]
      omega
    · rw [if_neg h3]
      unfold zpot
      rw [if_neg (show ¬ 6561 ≤ l by omega)]
      by_cases h4 : 6561 ≤ 2 * l
      · rw [if_pos h4]; omega
      · rw [if_neg h4]; omega
  · rw [if_neg h2, if_neg (show ¬ 6561 < N by omega)]
    unfold zpot
    rw [if_neg (show ¬ 6561 ≤ l by omega)]
    by_cases h4 : 6561 ≤ N
    · rw [if_pos h4]; omega
    · rw [if_neg h4]; omega
/-- the room that is asked for -/
def zmc (N : Nat) (w : zW) : Nat := if N ≤ zln (gR w 24 4) then 0 else 3 * (zsz N (zln (gR w 24 4)) - zln (gR w 24 4))
def zms (N : Nat) (w : zW) : Nat := if N ≤ zln (gR w 24 4) then 0 else zpot (zln (gR w 24 4)) - zpot (zsz N (zln (gR w 24 4)))
/-- what was made -/
def zmade (N : Nat) (w v : zW) : Prop := zln (gR w 24 4) ≤ 6561 ∧ zln (gR v 24 4) = if N ≤ zln (gR w 24 4) then zln (gR w 24 4) else zsz N (zln (gR w 24 4))
theorem q8_makeRoom {big N : Nat} {w : zW} {k : zW → Prop} (hB : zBig big w) (hN : gI w 24 2 = Int32.ofNat N) (hN2 : N ≤ 6561)
    (hk : ∀ (big2 : Nat) (v : zW), zBig big2 v → N ≤ zln big2 → (∀ a c, a < 300 → (a = 0 → c < 300) → gI v a c = gI w a c) → (∀ a c, a ≠ 24 → a < 300 → gR v a c = gR w a c) → (∀ c, c ≠ 4 → c ≠ 5 → c ≠ 6 → gR v 24 c = gR w 24 c) → (∀ a c, a < 300 → gL v a c = gL w a c) → zmade N w v → k v) : fX8_makeRoom (zmc N w) (zms N w) w k := by
  have h4 := zBig_4 hB
  have his := zBig_is hB
  have hln := zBig_ln hB
  rw [fX8_makeRoom, h4.1, hN]
  refine ⟨by omega, fun q => ?_, fun q => ?_⟩
  · have hle : N ≤ zln big := (zi_le (by omega) (by omega)).mp q
    exact hk big w hB hle (fun _ _ _ _ => rfl) (fun _ _ _ _ => rfl) (fun _ _ _ _ => rfl) (fun _ _ _ => rfl) ⟨by rw [h4.1]; exact hln.2.2.1, by rw [h4.1, if_pos hle]⟩
  · have hn : ¬ N ≤ zln big := fun z => q ((zi_le (by omega) (by omega)).mpr z)
    have hc3 : zmc N w = 3 * (zsz N (zln big) - zln big) := by rw [zmc, h4.1, if_neg hn]
    have hs3 : zms N w = zpot (zln big) - zpot (zsz N (zln big)) := by rw [zms, h4.1, if_neg hn]
    obtain ⟨s1, s2, s3⟩ := zsz_ok hln.2.2.2 hn hN2
    have s4 := (zsz_in (N := N) hln.2.2.1).2
    intro v3 e3 v4 e4
    have e4' : v4 = Int32.ofNat (zsz N (zln big)) := by
      have e3' : v3 = Int32.ofNat (if N < 2 * zln big then 2 * zln big else N) := by
        rw [e3, zl2, zi_mul]
        by_cases z : N < 2 * zln big
        · rw [if_pos ((zi_lt (by omega) (by omega)).mpr z), if_pos z]
        · rw [if_neg (fun y => z ((zi_lt (by omega) (by omega)).mp y)), if_neg z]
      have hb : (if N < 2 * zln big then 2 * zln big else N) < 2 ^ 31 := by
        by_cases z : N < 2 * zln big
        · rw [if_pos z]; omega
        · rw [if_neg z]; omega
      rw [e4, e3', show (6561 : Int32) = Int32.ofNat 6561 from rfl]
      unfold zsz
      by_cases z : 6561 < (if N < 2 * zln big then 2 * zln big else N)
      · rw [if_pos ((zi_lt (by decide) hb).mpr z), if_pos z]
      · rw [if_neg (fun y => z ((zi_lt (by decide) hb).mp y)), if_neg z]
    subst e4'
    clear e4 e3
    rw [hc3, hs3]
    generalize hsz : zsz N (zln big) = s at *
    rw [zi_nat (show s < 2 ^ 31 by omega)]
    have hm : ∀ c, 300 + 3 * s ≤ c → ¬ gI w 0 c = 1 := fun c hc => hB.2.2.2.2.2 c (by omega) (by
      rcases hB.1 with e | ⟨e1, e2⟩
      · omega
      · rw [zln_big (show 300 ≤ big by omega)] at s1
        omega)
    have hneg : ¬ Int32.ofNat s < 0 := zi_0le (by omega)
    refine ⟨hneg, by omega, hm _ (by omega), by omega, by omega, ?_⟩
    intro w5 e5 w6 e6
    refine ⟨hneg, by omega, ?_, by omega, by omega, ?_⟩
    · rw [e6, gI_sR, e5, gI_nW, if_neg (by omega), if_neg (by omega)]
      exact hm _ (by omega)
    intro w7 e7 w8 e8
    refine ⟨hneg, by omega, ?_, by omega, by omega, ?_⟩
    · rw [e8, gI_sR, e7, gI_nW, if_neg (by omega), if_neg (by omega), e6, gI_sR, e5, gI_nW, if_neg (by omega), if_neg (by omega)]
      exact hm _ (by omega)
    intro w9 e9 w10 e10
    have hI : ∀ a c, gI w10 a c = if a = 300 + 3 * s + 2 then 0 else if a = 0 ∧ c = 300 + 3 * s + 2 then 1 else if a = 300 + 3 * s + 1 then 0 else if a = 0 ∧ c = 300 + 3 * s + 1 then 1 else if a = 300 + 3 * s + 0 then 0 else if a = 0 ∧ c = 300 + 3 * s + 0 then 1 else gI w a c := fun a c => by
      rw [e10, gI_sR, e9, gI_nW, e8, gI_sR, e7, gI_nW, e6, gI_sR, e5, gI_nW]
    have hL : ∀ a c, gL w10 a c = if a = 300 + 3 * s + 2 then 0 else if a = 300 + 3 * s + 1 then 0 else if a = 300 + 3 * s + 0 then 0 else gL w a c := fun a c => by
      rw [e10, gL_sR, e9, gL_nW, e8, gL_sR, e7, gL_nW, e6, gL_sR, e5, gL_nW]
    have hR : ∀ a c, gR w10 a c = if a = 24 ∧ c = 6 then 300 + 3 * s + 2 else if a = 300 + 3 * s + 2 then 0 else if a = 24 ∧ c = 5 then 300 + 3 * s + 1 else if a = 300 + 3 * s + 1 then 0 else if a = 24 ∧ c = 4 then 300 + 3 * s + 0 else if a = 300 + 3 * s + 0 then 0 else gR w a c := fun a c => by
      rw [e10, gR_sR, e9, gR_nW, e8, gR_sR, e7, gR_nW, e6, gR_sR, e5, gR_nW]
    have r4 : gR w10 24 4 = 300 + 3 * s + 0 := by rw [hR, if_neg (by omega), if_neg (by omega), if_neg (by omega), if_neg (by omega), if_pos ⟨rfl, rfl⟩]
    have r5 : gR w10 24 5 = 300 + 3 * s + 1 := by rw [hR, if_neg (by omega), if_neg (by omega), if_pos ⟨rfl, rfl⟩]
    have r6 : gR w10 24 6 = 300 + 3 * s + 2 := by rw [hR, if_pos ⟨rfl, rfl⟩]
    have hz : zln (300 + 3 * s + 0) = s := zbg_ln s (by decide)
    refine hk (300 + 3 * s + 0) w10 ⟨Or.inr ⟨by omega, by omega⟩, by rw [hz]; exact s4, r4, r5.trans (by omega), r6.trans (by omega), fun c q1 q2 => ?_⟩ (by rw [hz]; exact s2) (fun a c q1 q2 => ?_) (fun a c q1 q2 => ?_) (fun c q1 q2 q3 => ?_) (fun a c q1 => ?_) ⟨by rw [h4.1]; exact hln.2.2.1, by rw [r4, hz, h4.1, if_neg hn]; exact hsz.symm⟩
    · rw [hI, if_neg (by omega), if_neg (by omega), if_neg (by omega), if_neg (by omega), if_neg (by omega), if_neg (by omega)]
      exact hm c (by omega)
    · rw [hI, if_neg (by omega), if_neg (by omega), if_neg (by omega), if_neg (by omega), if_neg (by omega), if_neg (by omega)]
    · rw [hR, if_neg (by omega), if_neg (by omega), if_neg (by omega), if_neg (by omega), if_neg (by omega), if_neg (by omega)]
    · rw [hR, if_neg (by omega), if_neg (by omega), if_neg (by omega), if_neg (by omega), if_neg (by omega), if_neg (by omega)]
    · rw [hL, if_neg (by omega), if_neg (by omega), if_neg (by omega)]
/-- cells of the shelf -/
def zfs (w v : zW) : Prop := (∀ a c, (a < 24 ∨ 29 ≤ a) → a < 300 → (a = 0 → c < 300) → gI v a c = gI w a c) ∧ (∀ a c, a < 300 → gL v a c = gL w a c) ∧ (∀ a c, a ≠ 24 → a < 300 → gR v a c = gR w a c)
theorem q8_lay {B : zBk} {S : Nat → Int32} {b : Nat} {w : zW} {k : zW → Prop} (hwf : zWF B) (hcb : zCB B b w) (hbb : b = 40 ∨ b = 80) (hsh : zShelf B S b w) (hhs : gI w 24 1 = Int32.ofNat 1)
    (hk : ∀ v : zW, zfs w v → zShelf B S b v → gI v 24 0 = Int32.ofNat 0 → gI v 24 1 = Int32.ofNat 1 → zmade (zAL B).length w v → k v) : fX8_lay (zmc (zAL B).length w) (zms (zAL B).length w) b w k := by
  obtain ⟨big, bs, hs, z1, z2, z3, z4, z5, z6, z7⟩ := hsh
  have hle := zAL_le hwf
  rw [fX8_lay]
  intro w1 e1
  have r1 : gR w1 24 9 = b := by rw [e1, gR_sR_eq]
  have i1 : ∀ a c, gI w1 a c = gI w a c := fun a c => by rw [e1, gI_sR]
  rw [r1]
  refine ⟨by omega, ?_⟩
  refine q0_dictionaries hwf (zCB_of hcb (fun a c _ _ => i1 a c) hwf) ?_
  rw [← zAL_len]
  intro v4 e4 w5 e5 w6 e6
  have e4' : v4 = Int32.ofNat (zAL B).length := by
    rw [e4]
    exact if_neg (fun q => by have := (zi_lt (a := 6561) (by decide) (by omega)).mp q; omega)
  subst e4'
  have i6 : ∀ a c, (a = 24 → c ≠ 2 ∧ c ≠ 7) → gI w6 a c = gI w a c := fun a c q => by
    rw [e6, gI_sI, if_neg (fun z => (q z.1).2 z.2), e5, gI_sI, if_neg (fun z => (q z.1).1 z.2), i1]
  have l6 : ∀ a c, gL w6 a c = gL w a c := fun a c => by rw [e6, e5, e1]; rfl
  have r6 : ∀ a c, (a = 24 → c ≠ 9) → gR w6 a c = gR w a c := fun a c q => by
    rw [e6, gR_sI, e5, gR_sI, e1, gR_sR, if_neg (fun z => q z.1 z.2)]
  have r69 : gR w6 24 9 = b := by rw [e6, gR_sI, e5, gR_sI]; exact r1
  have n6 : gI w6 24 2 = Int32.ofNat (zAL B).length := by rw [e6, gI_sI_ne2 (by decide), e5, gI_sI_eq]
  have s6 : gI w6 24 7 = Int32.ofNat 0 := by rw [e6, gI_sI_eq]; rfl
  have hB6 : zBig big w6 := zBig_of z5 (fun c hc => r6 24 c (by omega)) (fun c _ => i6 0 c (by omega))
  have hmc : zmc (zAL B).length w6 = zmc (zAL B).length w ∧ zms (zAL B).length w6 = zms (zAL B).length w := by rw [zmc, zms, zmc, zms, r6 24 4 (by decide)]; exact ⟨rfl, rfl⟩
  refine ⟨zmc (zAL B).length w, zms (zAL B).length w, Nat.le_refl _, Nat.le_refl _, ?_⟩
  rw [← hmc.1, ← hmc.2]
  refine q8_makeRoom hB6 n6 hle (fun big2 w7 hB7 hN i7 r7 r724 l7' hkeep => ?_)
  have hbig := zBig_is hB7
  have hln := zBig_ln hB7
  have h4 := zBig_4 hB7
  have hcb7 : zCB B b w7 := zCB_of hcb (fun a c q1 q2 => by rw [i7 a c (by omega) (by omega), i6 a c (by omega)]) hwf
  have h4W := wf_W hwf
  have hfin : ∀ (m1 m2 : Nat) (v : zW), v.2 = w7.2 → (∀ a c, a ≠ 28 → a ≠ big2 → a ≠ big2 + 2 → (a = 24 → c ≠ 7) → gI v a c = gI w7 a c) →
      (∀ j, j < (zAL B).length → gI v big2 j = Int32.ofNat (zpd (bW B) ((zAL B).getD j 0) + 65536 * zd2 B (zdm (bW B) ((zAL B).getD j 0)))) →
      gI v 24 7 = Int32.ofNat (zUL B).length → (∀ j, j < (zUL B).length → gI v (big2 + 2) j = Int32.ofNat (zpd (bW B) ((zUL B).getD j 0))) →
      fX8_lay_J134 b k m1 m2 v := by
    intro m1 m2 v v2 vf va vs vu w10 e10
    have i10 : ∀ a c, (a = 24 → c ≠ 0) → gI w10 a c = gI v a c := fun a c q => by rw [e10, gI_sI, if_neg (fun z => q z.1 z.2)]
    have hR : ∀ a c, gR w10 a c = gR w7 a c := fun a c => by rw [e10, gR_sI, gR, gR, v2]
    have hL : ∀ a c, gL w10 a c = gL w7 a c := fun a c => by rw [e10, gL_sI, gL, gL, v2]
    refine hk w10 ⟨fun a c q1 q2 q3 => ?_, fun a c q1 => ?_, fun a c q1 q2 => ?_⟩ ⟨big2, 0, 1, by decide, by decide, by rw [e10, gI_sI_eq]; rfl, ?_, ?_, fun _ => ⟨?_, hN, ?_, ?_, fun j hj => ?_, fun j hj => ?_⟩, fun q => absurd q (by decide)⟩ (by rw [e10, gI_sI_eq]; rfl) ?_ ?_
    · rw [i10 a c (by omega), vf a c (by omega) (by omega) (by omega) (by omega), i7 a c q2 q3, i6 a c (by omega)]
    · rw [hL, l7' a c q1, l6]
    · rw [hR, r7 a c q1 q2, r6 a c (by omega)]
    · rw [i10 24 1 (by omega), vf 24 1 (by omega) (by omega) (by omega) (by omega), i7 24 1 (by omega) (by omega), i6 24 1 (by omega)]
      exact hhs
    · exact zBig_of hB7 (fun c _ => hR 24 c) (fun c _ => by rw [i10 0 c (by omega), vf 0 c (by omega) (by omega) (by omega) (by omega)])
    · rw [hR, r724 9 (by decide) (by decide) (by decide)]; exact r69
    · rw [i10 24 2 (by omega), vf 24 2 (by omega) (by omega) (by omega) (by omega), i7 24 2 (by omega) (by omega)]; exact n6
    · rw [i10 24 7 (by omega)]; exact vs
    · rw [i10 big2 j (by omega)]; exact va j hj
    · rw [i10 (big2 + 2) j (by omega)]; exact vu j hj
    · rw [i10 24 1 (by omega), vf 24 1 (by omega) (by omega) (by omega) (by omega), i7 24 1 (by omega) (by omega), i6 24 1 (by omega)]
      exact hhs
    · unfold zmade at hkeep ⊢
      rw [hR, ← r6 24 4 (by decide)]
      exact hkeep
  refine q_fill (by decide) ?_
  generalize hw8 : aI w7 28 (fun c => if c < zln 28 then (0 : Int32) else gI w7 28 c) = w8
  have i8 : ∀ a c, a ≠ 28 → gI w8 a c = gI w7 a c := fun a c q => by rw [← hw8, gI_aI_ne q]
  have p8 : w8.2 = w7.2 := by rw [← hw8]; rfl
  have d8 : ∀ o, o < 4 → gI w8 28 o = Int32.ofNat 0 := fun o ho => by rw [← hw8, gI_aI_eq, if_pos (show o < zln 28 from ho)]; rfl
  refine zinv (fun n (s : Int32 × zW) => fX8_lay_L41 b k n _ _ s.1 s.2) (fun i s => ∃ v : zW, s = (Int32.ofNat i, v) ∧ v.2 = w7.2 ∧ (∀ a c, a ≠ 28 → a ≠ big2 → a ≠ big2 + 2 → (a = 24 → c ≠ 7) → gI v a c = gI w7 a c) ∧
    (∀ o, o < bW B → gI v 28 o = Int32.ofNat (zdig (fun o => zcnt 9 (bMn B o)) (bW B) i o)) ∧ (∀ j, j < i → gI v big2 j = Int32.ofNat (zpd (bW B) ((zAL B).getD j 0) + 65536 * zd2 B (zdm (bW B) ((zAL B).getD j 0)))) ∧
    gI v 24 7 = Int32.ofNat (zULi B i).length ∧ (∀ j, j < (zULi B i).length → gI v (big2 + 2) j = Int32.ofNat (zpd (bW B) ((zULi B i).getD j 0)))) (zAL B).length (s0 := (0, w8)) ?_ ?_ ?_
  · refine ⟨w8, rfl, p8, fun a c q1 _ _ _ => i8 a c q1, fun o ho => by rw [zdig_0]; exact d8 o (by omega), fun j hj => absurd hj (Nat.not_lt_zero j), ?_, fun j hj => absurd hj (by rw [zULi, List.take_zero]; exact Nat.not_lt_zero j)⟩
    rw [i8 24 7 (by omega), i7 24 7 (by omega) (by omega), s6, zULi, List.take_zero]
    rfl
  · rintro n s ⟨v, rfl, v2, vf, vd, va, vs, vu⟩
    rw [zULi_all] at vs vu
    have hn : gI v 24 2 = Int32.ofNat (zAL B).length := by rw [vf 24 2 (by omega) (by omega) (by omega) (by omega), i7 24 2 (by omega) (by omega)]; exact n6
    show fX8_lay_L41 b k (n + 1) _ _ (Int32.ofNat (zAL B).length) v
    rw [fX8_lay_L41]
    try dsimp only
    rw [hn]
    exact ⟨fun _ => hfin _ _ v v2 vf va vs vu, fun q => absurd (Int32.le_refl _) q⟩
  · rintro i n s hi ⟨v, rfl, v2, vf, vd, va, vs, vu⟩ hc
    have hn : gI v 24 2 = Int32.ofNat (zAL B).length := by rw [vf 24 2 (by omega) (by omega) (by omega) (by omega), i7 24 2 (by omega) (by omega)]; exact n6
    have hR : ∀ a c, gR v a c = gR w7 a c := fun a c => by rw [gR, gR, v2]
    have hcbv : zCB B b v := zCB_of hcb7 (fun a c q1 q2 => vf a c (by omega) (by omega) (by omega) (by omega)) hwf
    have hr9 : gR v 24 9 = b := by rw [hR, r724 9 (by decide) (by decide) (by decide)]; exact r69
    have hr4 : gR v 24 4 = big2 := by rw [hR]; exact h4.1
    have hr6 : gR v 24 6 = big2 + 2 := by rw [hR]; exact h4.2.2
    have hpos : ∀ o, o < bW B → 0 < zcnt 9 (bMn B o) := zprod_pos (by rw [← zAL_len]; omega)
    have hpl := zpd_lt (bW B) ((zAL B).getD i 0)
    have hdl := zd2_lt hwf (zdm (bW B) ((zAL B).getD i 0))
    have hul := zULi_le B i
    show fX8_lay_L41 b k (n + 1) _ _ (Int32.ofNat i) v
    rw [fX8_lay_L41]
    try dsimp only
    rw [hn, hr4]
    refine ⟨fun q => absurd q (zi_nge hi (by omega)), fun _ => ⟨by omega, fun q => absurd q (zi_nge (by omega) (by omega)), fun _ => ?_⟩⟩
    refine q8_packDigits hwf hcbv hr9 (by omega) hi vd ?_
    rw [hr9]
    refine ⟨by omega, ?_⟩
    refine q0_rowsDown hwf hcbv (most := 2) (m := zdm (bW B) ((zAL B).getD i 0)) (by omega) (by omega) (fun o ho => zdg_pd _ _ (by omega)) (zdm_lt _ _) ?_
    show ¬ gR v 24 4 = 0 ∧ _
    rw [hr4]
    refine ⟨by omega, zi_in (by omega) (by omega), ?_⟩
    intro w18 e18
    have e18' : w18 = sI v big2 i (Int32.ofNat (zpd (bW B) ((zAL B).getD i 0) + 65536 * zd2 B (zdm (bW B) ((zAL B).getD i 0)))) := by
      rw [e18, zi_nat (show i < 2 ^ 31 by omega)]
      exact congrArg _ (zi_pack hpl hdl)
    have f18 : ∀ a c, (a = big2 → c ≠ i) → gI w18 a c = gI v a c := fun a c q => by rw [e18', gI_sI, if_neg (fun z => q z.1 z.2)]
    have p18 : w18.2 = v.2 := by rw [e18']; rfl
    -- on to the next one
    have hgo : ∀ u : zW, u.2 = w7.2 → (∀ a c, a ≠ 28 → a ≠ big2 → a ≠ big2 + 2 → (a = 24 → c ≠ 7) → gI u a c = gI w7 a c) → (∀ o, o < bW B → gI u 28 o = gI v 28 o) → (∀ j, j < i + 1 → gI u big2 j = gI w18 big2 j) →
        gI u 24 7 = Int32.ofNat (zULi B (i + 1)).length → (∀ j, j < (zULi B (i + 1)).length → gI u (big2 + 2) j = Int32.ofNat (zpd (bW B) ((zULi B (i + 1)).getD j 0))) → ∀ m1 m2 : Nat, (∀ x : Int32, ∀ y : zW, (∃ z : zW, (x, y) = (Int32.ofNat (i + 1), z) ∧ z.2 = w7.2 ∧ (∀ a c, a ≠ 28 → a ≠ big2 → a ≠ big2 + 2 → (a = 24 → c ≠ 7) → gI z a c = gI w7 a c) ∧ (∀ o, o < bW B → gI z 28 o = Int32.ofNat (zdig (fun o => zcnt 9 (bMn B o)) (bW B) (i + 1) o)) ∧ (∀ j, j < i + 1 → gI z big2 j = Int32.ofNat (zpd (bW B) ((zAL B).getD j 0) + 65536 * zd2 B (zdm (bW B) ((zAL B).getD j 0)))) ∧ gI z 24 7 = Int32.ofNat (zULi B (i + 1)).length ∧ (∀ j, j < (zULi B (i + 1)).length → gI z (big2 + 2) j = Int32.ofNat (zpd (bW B) ((zULi B (i + 1)).getD j 0)))) → fX8_lay_L41 b k n m1 m2 x y) →
        fX8_lay_J124 b k (fX8_lay_L41 b k n) m1 m2 (Int32.ofNat i) u := by
      intro u u2 uf ud ua us uu m1 m2 hcc
      rw [fX8_lay_J124]
      have hRu : gR u 24 9 = b := by rw [show gR u 24 9 = gR w7 24 9 by rw [gR, gR, u2], r724 9 (by decide) (by decide) (by decide)]; exact r69
      refine q8_nextDigits (i := i) hwf (zCB_of hcb7 (fun a c q1 q2 => uf a c (by omega) (by omega) (by omega) (by omega)) hwf) hbb hRu hpos (fun o ho => by rw [ud o ho]; exact vd o ho) (fun x x2 xf xd => ?_)
      rw [zl1, zi_add]
      refine hcc _ _ ⟨x, rfl, x2.trans u2, fun a c q1 q2 q3 q4 => by rw [xf a c q1]; exact uf a c q1 q2 q3 q4, xd, fun j hj => ?_, by rw [xf 24 7 (by omega)]; exact us, fun j hj => by rw [xf (big2 + 2) j (by omega)]; exact uu j hj⟩
      rw [xf big2 j (by omega), ua j hj]
      by_cases z : j = i
      · rw [z, e18', gI_sI_eq]
      · rw [f18 big2 j (fun _ => z)]
        exact va j (by omega)
    have f18w : ∀ a c, a ≠ 28 → a ≠ big2 → a ≠ big2 + 2 → (a = 24 → c ≠ 7) → gI w18 a c = gI w7 a c := fun a c q1 q2 q3 q4 => by rw [f18 a c (fun z => absurd z q2)]; exact vf a c q1 q2 q3 q4
    by_cases hz : zd2 B (zdm (bW B) ((zAL B).getD i 0)) = 0
    · have hup : (zdn B (zdm (bW B) ((zAL B).getD i 0)) == 0) = true := by rw [zd2_zero.mp hz]; rfl
      have hS : zULi B (i + 1) = zULi B i ++ [(zAL B).getD i 0] := by rw [zULi_S hi, if_pos hup]
      have hr6' : gR w18 24 6 = big2 + 2 := by rw [gR, p18]; exact hr6
      have hs' : gI w18 24 7 = Int32.ofNat (zULi B i).length := by rw [f18 24 7 (by omega)]; exact vs
      refine ⟨fun q => absurd (show Int32.ofNat (zd2 B (zdm (bW B) ((zAL B).getD i 0))) = 0 by rw [hz]; rfl) q, fun _ => ⟨by rw [hr6']; omega, ?_⟩⟩
      rw [hr6', hs', hln.2.1]
      refine ⟨fun q => absurd q (zi_nge (by omega) (by omega)), fun _ => ⟨zi_in (by omega) (by omega), ?_⟩⟩
      intro w24 e24 w25 e25
      rw [zi_nat (show (zULi B i).length < 2 ^ 31 by omega)] at e24
      have g24 : gI w24 24 7 = Int32.ofNat (zULi B i).length := by rw [e24, gI_sI_ne (by omega)]; exact hs'
      rw [g24, zl1, zi_add] at e25
      have f25 : ∀ a c, (a = big2 + 2 → c ≠ (zULi B i).length) → (a = 24 → c ≠ 7) → gI w25 a c = gI w18 a c := fun a c q1 q2 => by
        rw [e25, gI_sI, if_neg (fun z => q2 z.1 z.2), e24, gI_sI, if_neg (fun z => q1 z.1 z.2)]
      refine hgo w25 (by rw [e25, e24]; exact p18.trans v2) (fun a c q1 q2 q3 q4 => by rw [f25 a c (fun z => absurd z q3) q4]; exact f18w a c q1 q2 q3 q4) (fun o ho => by rw [f25 28 o (by omega) (by omega), f18 28 o (by omega)]) (fun j hj => f25 big2 j (by omega) (by omega)) ?_ (fun j hj => ?_) _ _ (fun x y hh => hc (x, y) hh)
      · rw [e25, gI_sI_eq, hS, List.length_append]; rfl
      · rw [hS] at hj ⊢
        rw [List.length_append] at hj
        have hj' : j < (zULi B i).length + 1 := hj
        by_cases z : j = (zULi B i).length
        · rw [z, zgd_r (Nat.le_refl _), Nat.sub_self, e25, gI_sI_ne (by omega), e24, gI_sI_eq]
          rfl
        · rw [zgd_l (by omega), f25 _ _ (fun _ => z) (by omega), f18 _ _ (by omega)]
          exact vu j (by omega)
    · have hup : ¬ (zdn B (zdm (bW B) ((zAL B).getD i 0)) == 0) = true := fun q => hz (zd2_zero.mpr (eq_of_beq q))
      have hS : zULi B (i + 1) = zULi B i := by rw [zULi_S hi, if_neg hup, List.append_nil]
      refine ⟨fun _ => ?_, fun q => absurd ((zi_eq (a := zd2 B (zdm (bW B) ((zAL B).getD i 0))) (b := 0) (by omega) (by decide)).mp q) hz⟩
      refine hgo w18 (p18.trans v2) f18w (fun o ho => f18 28 o (by omega)) (fun j hj => rfl) ?_ (fun j hj => ?_) _ _ (fun x y hh => hc (x, y) hh)
      · rw [hS, f18 24 7 (by omega)]; exact vs
      · rw [hS] at hj ⊢
        rw [f18 _ _ (by omega)]; exact vu j hj

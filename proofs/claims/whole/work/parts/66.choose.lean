/-! Level 2: those that fit; tallies -/
theorem zfs_refl (w : zW) : zfs w w := ⟨fun _ _ _ _ _ => rfl, fun _ _ _ => rfl, fun _ _ _ _ => rfl⟩
theorem zfs_trans {u v w : zW} (h : zfs u v) (h2 : zfs v w) : zfs u w :=
  ⟨fun a c q1 q2 q3 => (h2.1 a c q1 q2 q3).trans (h.1 a c q1 q2 q3), fun a c q => (h2.2.1 a c q).trans (h.2.1 a c q), fun a c q1 q2 => (h2.2.2 a c q1 q2).trans (h.2.2 a c q1 q2)⟩
theorem zCB_fs {B : zBk} {b : Nat} {w v : zW} (h : zCB B b w) (hbb : b = 40 ∨ b = 80) (hf : zfs w v) (hwf : zWF B) : zCB B b v :=
  zCB_of h (fun a c q1 q2 => hf.1 a c (by omega) (by omega) (by omega)) hwf
def zFLi (B : zBk) (S : Nat → Int32) (i : Nat) : List Nat := ((zUL B).take i).filter (fun d => zGu B S d && zof B S (zdm (bW B) d) == 0)
theorem zFLi_all (B : zBk) (S : Nat → Int32) : zFLi B S (zUL B).length = zFL B S := by rw [zFLi, List.take_length]; rfl
theorem zFLi_S {B : zBk} {S : Nat → Int32} {i : Nat} (h : i < (zUL B).length) : zFLi B S (i + 1) = zFLi B S i ++ (if (zGu B S ((zUL B).getD i 0) && zof B S (zdm (bW B) ((zUL B).getD i 0)) == 0) = true then [(zUL B).getD i 0] else []) := by
  rw [zFLi, ztk_succ h, zfilt1]
  rfl
theorem zFLi_le (B : zBk) (S : Nat → Int32) (i : Nat) : (zFLi B S i).length ≤ i :=
  Nat.le_trans (List.length_filter_le _ _) (List.length_take_le i (zUL B))
theorem zUL_le (B : zBk) : (zUL B).length ≤ (zAL B).length := List.length_filter_le _ _
theorem zFL_le (B : zBk) (S : Nat → Int32) : (zFL B S).length ≤ (zUL B).length := List.length_filter_le _ _
/-- what a laid shelf holds -/
def zLaid (B : zBk) (b big : Nat) (w : zW) : Prop := zBig big w ∧ gR w 24 9 = b ∧ (zAL B).length ≤ zln big ∧ gI w 24 2 = Int32.ofNat (zAL B).length ∧ gI w 24 7 = Int32.ofNat (zUL B).length ∧
    (∀ i, i < (zAL B).length → gI w big i = Int32.ofNat (zpd (bW B) ((zAL B).getD i 0) + 65536 * zd2 B (zdm (bW B) ((zAL B).getD i 0)))) ∧
    (∀ i, i < (zUL B).length → gI w (big + 2) i = Int32.ofNat (zpd (bW B) ((zUL B).getD i 0)))
/-- and one that is chosen -/
def zChosen (B : zBk) (S : Nat → Int32) (big : Nat) (w : zW) : Prop := gI w 24 3 = Int32.ofNat (zFL B S).length ∧ (∀ i, i < (zFL B S).length → gI w (big + 1) i = Int32.ofNat (zpd (bW B) ((zFL B S).getD i 0)))
theorem zShelf_laid {B : zBk} {S : Nat → Int32} {b : Nat} {w : zW} (h : zShelf B S b w) (h0 : gI w 24 0 = Int32.ofNat 0) : ∃ big, zLaid B b big w := by
  obtain ⟨big, bs, hs, z1, z2, z3, z4, z5, z6, z7⟩ := h
  have e : bs = 0 := by
    rw [h0] at z3
    have := (zi_eq (by decide) (by omega)).mp z3
    omega
  exact ⟨big, z5, z6 e⟩
theorem zShelf_chosen {B : zBk} {S : Nat → Int32} {b : Nat} {w : zW} (h : zShelf B S b w) (h0 : gI w 24 1 = Int32.ofNat 0) : ∃ big, zLaid B b big w ∧ zChosen B S big w := by
  obtain ⟨big, bs, hs, z1, z2, z3, z4, z5, z6, z7⟩ := h
  have e : hs = 0 := by
    rw [h0] at z4
    have := (zi_eq (by decide) (by omega)).mp z4
    omega
  obtain ⟨q1, q2, q3⟩ := z7 e
  exact ⟨big, ⟨z5, z6 q1⟩, q2, q3⟩
theorem q8_choose {B : zBk} {S : Nat → Int32} {b big : Nat} {w : zW} {k : zW → Prop} (hwf : zWF B) (hcb : zCB B b w) (hbb : b = 40 ∨ b = 80) (hd : zHd B S) (hS : ∀ i, i < 12 → gI w (9 + 1) i = S i) (hl : zLaid B b big w) (h0 : gI w 24 0 = Int32.ofNat 0)
    (hk : ∀ v : zW, zfs w v → zLaid B b big v → zChosen B S big v → gI v 24 0 = Int32.ofNat 0 → gI v 24 1 = Int32.ofNat 0 → (∀ c, gI v 0 c = gI w 0 c) → k v) : fX8_choose 9 w k := by
  obtain ⟨hB, l9, lN, l2, l7, lA, lU⟩ := hl
  have hle := zAL_le hwf
  have hul := zUL_le B
  have his := zBig_is hB
  have hln := zBig_ln hB
  have h4 := zBig_4 hB
  rw [fX8_choose]
  intro w1 e1
  have i1 : ∀ a c, (a = 24 → c ≠ 3) → gI w1 a c = gI w a c := fun a c q => by rw [e1, gI_sI, if_neg (fun z => q z.1 z.2)]
  refine zinv (fun n (s : Int32 × zW) => fX8_choose_L7 9 k n s.1 s.2) (fun i s => ∃ v : zW, s = (Int32.ofNat i, v) ∧ v.2 = w.2 ∧ (∀ a c, a ≠ big + 1 → (a = 24 → c ≠ 3) → gI v a c = gI w a c) ∧ gI v 24 3 = Int32.ofNat (zFLi B S i).length ∧ (∀ j, j < (zFLi B S i).length → gI v (big + 1) j = Int32.ofNat (zpd (bW B) ((zFLi B S i).getD j 0)))) (zUL B).length (s0 := (0, w1)) ?_ ?_ ?_
  · refine ⟨w1, rfl, by rw [e1]; rfl, fun a c _ q => i1 a c q, ?_, fun j hj => absurd hj (by rw [zFLi, List.take_zero]; exact Nat.not_lt_zero j)⟩
    rw [e1, gI_sI_eq, zFLi, List.take_zero]
    rfl
  · rintro n s ⟨v, rfl, v2, vf, v3, va⟩
    rw [zFLi_all] at v3 va
    have e7 : gI v 24 7 = Int32.ofNat (zUL B).length := by rw [vf 24 7 (by omega) (by omega)]; exact l7
    show fX8_choose_L7 9 k (n + 1) (Int32.ofNat (zUL B).length) v
    rw [fX8_choose_L7]
    try dsimp only
    rw [e7]
    refine ⟨fun _ => ?_, fun q => absurd (Int32.le_refl _) q⟩
    intro w3 e3
    have i3 : ∀ a c, (a = 24 → c ≠ 1) → gI w3 a c = gI v a c := fun a c q => by rw [e3, gI_sI, if_neg (fun z => q z.1 z.2)]
    have p3 : w3.2 = w.2 := by rw [e3]; exact v2
    have hR : ∀ a c, gR w3 a c = gR w a c := fun a c => by rw [gR, gR, p3]
    refine hk w3 ⟨fun a c q1 q2 q3 => ?_, fun a c _ => by rw [gL, gL, p3], fun a c _ _ => hR a c⟩ ⟨?_, ?_, lN, ?_, ?_, fun i hi => ?_, fun i hi => ?_⟩ ⟨?_, fun i hi => ?_⟩ ?_ ?_ (fun c => ?_)
    · rw [i3 a c (by omega)]; exact vf a c (by omega) (by omega)
    · exact zBig_of hB (fun c _ => hR 24 c) (fun c _ => by rw [i3 0 c (by omega), vf 0 c (by omega) (by omega)])
    · rw [hR]; exact l9
    · rw [i3 24 2 (by omega), vf 24 2 (by omega) (by omega)]; exact l2
    · rw [i3 24 7 (by omega)]; exact e7
    · rw [i3 big i (by omega), vf big i (by omega) (by omega)]; exact lA i hi
    · rw [i3 (big + 2) i (by omega), vf (big + 2) i (by omega) (by omega)]; exact lU i hi
    · rw [i3 24 3 (by omega)]; exact v3
    · rw [i3 (big + 1) i (by omega)]; exact va i hi
    · rw [i3 24 0 (by omega), vf 24 0 (by omega) (by omega)]; exact h0
    · rw [e3, gI_sI_eq]; rfl
    · rw [i3 0 c (by omega), vf 0 c (by omega) (by omega)]
  · rintro i n s hi ⟨v, rfl, v2, vf, v3, va⟩ hc
    have e7 : gI v 24 7 = Int32.ofNat (zUL B).length := by rw [vf 24 7 (by omega) (by omega)]; exact l7
    have hR : ∀ a c, gR v a c = gR w a c := fun a c => by rw [gR, gR, v2]
    have hcbv : zCB B b v := zCB_of hcb (fun a c q1 q2 => vf a c (by omega) (by omega)) hwf
    have eU : gI v (big + 2) i = Int32.ofNat (zpd (bW B) ((zUL B).getD i 0)) := by rw [vf (big + 2) i (by omega) (by omega)]; exact lU i hi
    have hSv : ∀ j, j < 12 → gI v (9 + 1) j = S j := fun j hj => by rw [vf _ _ (by omega) (by omega)]; exact hS j hj
    have hpl := zpd_lt (bW B) ((zUL B).getD i 0)
    have hfl := zFLi_le B S i
    have h4W := wf_W hwf
    show fX8_choose_L7 9 k (n + 1) (Int32.ofNat i) v
    rw [fX8_choose_L7]
    try dsimp only
    rw [e7, hR 24 6, h4.2.2, hln.2.1]
    refine ⟨fun q => absurd q (zi_nge hi (by omega)), fun _ => ⟨by omega, fun q => absurd q (zi_nge (by omega) (by omega)), fun _ => ⟨zi_in (by omega) (by omega), by rw [hR, l9]; omega, ?_⟩⟩⟩
    rw [hR 24 9, l9, zi_nat (show i < 2 ^ 31 by omega), eU]
    refine q3_agrees (d := (zUL B).getD i 0) hwf hcbv hd hSv (by omega) (fun o ho => zdg_pd _ _ (by omega)) ?_
    by_cases q : (zGu B S ((zUL B).getD i 0) && zof B S (zdm (bW B) ((zUL B).getD i 0)) == 0) = true
    · rw [if_pos q]
      have hSx : zFLi B S (i + 1) = zFLi B S i ++ [(zUL B).getD i 0] := by rw [zFLi_S hi, if_pos q]
      refine ⟨fun z => absurd z (by decide), fun _ => ⟨by rw [hR, h4.2.1]; omega, ?_⟩⟩
      rw [hR 24 5, h4.2.1, v3, hln.1, hR 24 6, h4.2.2, hln.2.1]
      refine ⟨fun z => absurd z (zi_nge (by omega) (by omega)), fun _ => ⟨by omega, zi_in (by omega) (by omega), zi_in (by omega) (by omega), ?_⟩⟩
      intro w15 e15 w16 e16
      rw [zi_nat (show (zFLi B S i).length < 2 ^ 31 by omega), eU] at e15
      have g15 : gI w15 24 3 = Int32.ofNat (zFLi B S i).length := by rw [e15, gI_sI_ne (by omega)]; exact v3
      rw [g15, zl1, zi_add] at e16
      have f16 : ∀ a c, (a = big + 1 → c ≠ (zFLi B S i).length) → (a = 24 → c ≠ 3) → gI w16 a c = gI v a c := fun a c q1 q2 => by
        rw [e16, gI_sI, if_neg (fun z => q2 z.1 z.2), e15, gI_sI, if_neg (fun z => q1 z.1 z.2)]
      rw [zl1, zi_add]
      refine hc _ ⟨w16, rfl, by rw [e16, e15]; exact v2, fun a c q1 q2 => by rw [f16 a c (fun z => absurd z q1) q2]; exact vf a c q1 q2, ?_, fun j hj => ?_⟩
      · rw [e16, gI_sI_eq, hSx, List.length_append]; rfl
      · rw [hSx] at hj ⊢
        rw [List.length_append] at hj
        have hj' : j < (zFLi B S i).length + 1 := hj
        by_cases z : j = (zFLi B S i).length
        · rw [z, zgd_r (Nat.le_refl _), Nat.sub_self, e16, gI_sI_ne (by omega), e15, gI_sI_eq]
          rfl
        · rw [zgd_l (by omega), f16 _ _ (fun _ => z) (by omega)]
          exact va j (by omega)
    · rw [if_neg q]
      have hSx : zFLi B S (i + 1) = zFLi B S i := by rw [zFLi_S hi, if_neg q, List.append_nil]
      refine ⟨fun _ => ?_, fun z => absurd rfl z⟩
      rw [zl1, zi_add]
      exact hc _ ⟨v, rfl, v2, vf, by rw [hSx]; exact v3, fun j hj => by rw [hSx] at hj ⊢; exact va j hj⟩
/-- what may still be made, and what is made now -/
def zrm (w : zW) : Nat := 3 * (6561 - zln (gR w 24 4))
def zrs (w : zW) : Nat := zpot (zln (gR w 24 4))
def znc (N : Nat) (w : zW) : Nat := if gI w 24 0 = 0 then 0 else zmc N w
def zns (N : Nat) (w : zW) : Nat := if gI w 24 0 = 0 then 0 else zms N w
def zpaid (N : Nat) (w v : zW) : Prop := zrm v + znc N w = zrm w ∧ zrs v + zns N w = zrs w
theorem zpaid_of {N : Nat} {w v : zW} (h0 : ¬ gI w 24 0 = 0) (h : zmade N w v) : zpaid N w v := by
  obtain ⟨h1, h2⟩ := h
  unfold zpaid zrm zrs znc zns zmc zms
  rw [if_neg h0, if_neg h0, h2]
  by_cases q : N ≤ zln (gR w 24 4)
  · rw [if_pos q, if_pos q, if_pos q]; exact ⟨rfl, rfl⟩
  · rw [if_neg q, if_neg q, if_neg q]
    obtain ⟨s1, s2⟩ := zsz_in (N := N) h1
    have s3 := zpot_mono s1
    omega
/-- a shelf that is laid, at the told book -/
theorem q11_laid {B : zBk} {S : Nat → Int32} {b : Nat} {w : zW} {k : zW → Prop} (hwf : zWF B) (hcb : zCB B b w) (hbb : b = 40 ∨ b = 80) (hb : gR w 1 9 = b) (hsh : zShelf B S b w)
    (hk : ∀ v : zW, zfs w v → zShelf B S b v → gI v 24 0 = Int32.ofNat 0 → zpaid (zAL B).length w v → (gI w 24 0 = Int32.ofNat 0 → v = w) → k v) : fX11_laidShelf (znc (zAL B).length w) (zns (zAL B).length w) w k := by
  have hsh' := hsh
  obtain ⟨big, bs, hs, z1, z2, z3, z4, z5, z6, z7⟩ := hsh'
  rw [fX11_laidShelf, z3]
  by_cases q : bs = 0
  · subst q
    exact ⟨fun _ => hk w (zfs_refl w) hsh z3 ⟨by rw [znc, if_pos (show gI w 24 0 = 0 from z3), Nat.add_zero], by rw [zns, if_pos (show gI w 24 0 = 0 from z3), Nat.add_zero]⟩ (fun _ => rfl), fun x => absurd rfl x⟩
  · have e : bs = 1 := by omega
    subst e
    have hn0 : ¬ gI w 24 0 = 0 := fun x => absurd (z3.symm.trans x) (by decide)
    refine ⟨fun x => absurd x (by decide), fun _ => ⟨by rw [hb]; omega, zmc (zAL B).length w, zms (zAL B).length w, by rw [znc, if_neg hn0]; exact Nat.le_refl _, by rw [zns, if_neg hn0]; exact Nat.le_refl _, ?_⟩⟩
    rw [hb]
    have hhs : gI w 24 1 = Int32.ofNat 1 := by
      by_cases y : hs = 0
      · exact absurd (z7 y).1 (by decide)
      · rw [z4]; exact congrArg _ (by omega)
    exact q8_lay hwf hcb hbb hsh hhs (fun v q1 q2 q3 q4 q5 => hk v q1 q2 q3 (zpaid_of hn0 q5) (fun x => absurd (z3.symm.trans x) (by decide)))
theorem q11_ready {B : zBk} {S : Nat → Int32} {b : Nat} {w : zW} {k : zW → Prop} (hwf : zWF B) (hcb : zCB B b w) (hbb : b = 40 ∨ b = 80) (hb : gR w 1 9 = b) (hd : zHd B S) (hS : ∀ i, i < 12 → gI w (9 + 1) i = S i) (hsh : zShelf B S b w)
    (hk : ∀ v : zW, zfs w v → zShelf B S b v → gI v 24 0 = Int32.ofNat 0 → gI v 24 1 = Int32.ofNat 0 → zpaid (zAL B).length w v → (gI w 24 1 = Int32.ofNat 0 → v = w) → k v) : fX11_readyShelf (znc (zAL B).length w) (zns (zAL B).length w) w k := by
  refine ⟨znc (zAL B).length w, zns (zAL B).length w, Nat.le_refl _, Nat.le_refl _, ?_⟩
  refine q11_laid hwf hcb hbb hb hsh (fun v vf vs v0 vm vw => ?_)
  obtain ⟨big, hl⟩ := zShelf_laid vs v0
  have hsv := vs
  obtain ⟨big', bs, hs, z1, z2, z3, z4, z5, z6, z7⟩ := hsv
  rw [z4]
  by_cases q : hs = 0
  · subst q
    refine ⟨fun _ => hk v vf vs v0 z4 vm (fun x => ?_), fun x => absurd rfl x⟩
    obtain ⟨big2, bs2, hs2, y1, y2, y3, y4, y5, y6, y7⟩ := hsh
    have e : hs2 = 0 := by
      rw [x] at y4
      have := (zi_eq (by decide) (by omega)).mp y4
      omega
    refine vw ?_
    rw [y3, (y7 e).1]
  · have e : hs = 1 := by omega
    subst e
    refine ⟨fun x => absurd x (by decide), fun _ => ?_⟩
    refine q8_choose hwf (zCB_fs hcb hbb vf hwf) hbb hd (fun i hi => by rw [vf.1 _ _ (by omega) (by omega) (by omega)]; exact hS i hi) hl v0 (fun u uf ul uc u0 u1 ufl => ?_)
    refine hk u (zfs_trans vf uf) ⟨big, 0, 0, by decide, by decide, u0, u1, ul.1, fun _ => ul.2, fun _ => ⟨rfl, uc.1, uc.2⟩⟩ u0 u1 (by unfold zpaid zrm zrs; rw [(zBig_4 ul.1).1, ← (zBig_4 hl.1).1]; exact vm) (fun x => ?_)
    obtain ⟨big2, bs2, hs2, y1, y2, y3, y4, y5, y6, y7⟩ := hsh
    have e : hs2 = 0 := by
      rw [x] at y4
      have := (zi_eq (by decide) (by omega)).mp y4
      omega
    have e2 := vw (by rw [y3, (y7 e).1])
    rw [e2, x] at z4
    exact absurd z4 (by decide)
/-- how many of a list have a number -/
def zct (f : Nat → Nat) (l : List Nat) (n : Nat) : Nat := l.countP (fun d => f d == n)
theorem zct_app (f : Nat → Nat) (l : List Nat) (d n : Nat) : zct f (l ++ [d]) n = zct f l n + (if f d = n then 1 else 0) := by
  rw [zct, List.countP_append, List.countP_cons, List.countP_nil, zct]
  by_cases h : f d = n
  · rw [if_pos h, if_pos (by rw [h]; exact beq_self_eq_true n)]
  · rw [if_neg h, if_neg (fun q => h (eq_of_beq q))]
theorem zct_le (f : Nat → Nat) (l : List Nat) (n : Nat) : zct f l n ≤ l.length := List.countP_le_length
/-- a tally of a list -/
def zTal (f : Nat → Nat) (l : List Nat) (w : zW) : Prop := ∀ n, n < 121 → gI w 30 n = Int32.ofNat (zct f l n)
theorem q9_clear {w : zW} {k : zW → Prop} (f : Nat → Nat) (hk : ∀ v : zW, v.2 = w.2 → (∀ a c, a ≠ 30 → gI v a c = gI w a c) → zTal f [] v → k v) : fX9_clear w k := by
  rw [fX9_clear]
  refine q_fill (by decide) (hk _ rfl (fun a c q => gI_aI_ne q _ _ _) (fun n hn => ?_))
  rw [gI_aI_eq, if_pos (show n < zln 30 from hn)]
  rfl
theorem q9_add {f : Nat → Nat} {l : List Nat} {d : Nat} {w : zW} {k : zW → Prop} (ht : zTal f l w) (hd : f d < 121) (hk : ∀ v : zW, v.2 = w.2 → (∀ a c, a ≠ 30 → gI v a c = gI w a c) → zTal f (l ++ [d]) v → k v) : fX9_add (Int32.ofNat (f d)) w k := by
  simp (disch := omega) only [fX9_add, ht (f d) hd, ↓zln1, ↓zln2, zl0, zl1, zl2, zl3, zl4, zl5, zl6, zl7, zl8, zl9, zl10, zl12, zl15, zl16, zl20, zl24, zl30, zl32, zl36, zl40, zl48, zl57, zl59, zl60, zl61, zl97, zl99, zl120, zl121, zl122, zl126, zl165, zl255, zl480, zl968, zl1000, zl1100, zi_add, zi_mul, zi_sub, zi_div, zi_mod, zi_nat, zt_le, zf_le, zt_lt, zf_lt, zt_eq, zf_eq, zt_vp, zt_N1lt, zf_N1lt, zf_N1eq, zf_eqN1, zt_N1eq, zt_N1le, zf_leN1, zi_nN1, zi_a1, zi_a15, zi_a255, zi_shr, zi_bit, zt_b0, zt_b1, forall_eq, if_true, if_false, true_implies, false_implies, not_true_eq_false, not_false_eq_true, and_true, true_and, gI_sI_eq, gI_sI_ne, gI_sI_ne2, gL_sI, gR_sI, gI_sL, gL_sL_eq, gL_sL_ne, gL_sL_ne2, gR_sL, gI_sR, gL_sR, gR_sR_eq, gR_sR_ne, gR_sR_ne2, gI_aI_eq, gI_aI_ne, gL_aI, gR_aI]
  refine hk _ rfl (fun a c q => gI_sI_ne q _ _ _ _) (fun n hn => ?_)
  rw [zct_app]
  by_cases h : f d = n
  · rw [if_pos h, ← h, gI_sI_eq]
  · rw [if_neg h, Nat.add_zero, gI_sI_ne2 (fun q => h q.symm)]
    exact ht n hn
/-- the fitting ones tallied by a word's meaning or by the stitches behind a row -/
theorem q8_tallyWord {B : zBk} {S : Nat → Int32} {b big o : Nat} {w : zW} {k : zW → Prop} (hwf : zWF B) (ho : o < bW B) (hl : zLaid B b big w) (hc : zChosen B S big w)
    (hk : ∀ v : zW, v.2 = w.2 → (∀ a c, a ≠ 30 → gI v a c = gI w a c) → zTal (fun d => zdm (bW B) d o) (zFL B S) v → k v) : fX8_tallyWord (Int32.ofNat o) w k := by
  have h4 := wf_W hwf
  have hle := zAL_le hwf
  have hul := zUL_le B
  have hfl := zFL_le B S
  have his := zBig_is hl.1
  have hln := zBig_ln hl.1
  have hb4 := zBig_4 hl.1
  have lN := hl.2.2.1
  rw [fX8_tallyWord]
  refine q9_clear (fun d => zdm (bW B) d o) (fun w1 p1 f1 t1 => ?_)
  refine zinv (fun n (s : Int32 × zW) => fX8_tallyWord_L6 k n (Int32.ofNat o) s.1 s.2) (fun i s => ∃ v : zW, s = (Int32.ofNat i, v) ∧ v.2 = w.2 ∧ (∀ a c, a ≠ 30 → gI v a c = gI w a c) ∧ zTal (fun d => zdm (bW B) d o) ((zFL B S).take i) v) (zFL B S).length (s0 := (0, w1)) ⟨w1, rfl, p1, f1, by rw [List.take_zero]; exact t1⟩ ?_ ?_
  · rintro n s ⟨v, rfl, v2, vf, vt⟩
    have e3 : gI v 24 3 = Int32.ofNat (zFL B S).length := by rw [vf 24 3 (by omega)]; exact hc.1
    rw [List.take_length] at vt
    show fX8_tallyWord_L6 k (n + 1) (Int32.ofNat o) (Int32.ofNat (zFL B S).length) v
    rw [fX8_tallyWord_L6]
    try dsimp only
    rw [e3]
    exact ⟨fun _ => hk v v2 vf vt, fun q => absurd (Int32.le_refl _) q⟩
  · rintro i n s hi ⟨v, rfl, v2, vf, vt⟩ hnext
    have e3 : gI v 24 3 = Int32.ofNat (zFL B S).length := by rw [vf 24 3 (by omega)]; exact hc.1
    have hR : ∀ a c, gR v a c = gR w a c := fun a c => by rw [gR, gR, v2]
    have eF : gI v (big + 1) i = Int32.ofNat (zpd (bW B) ((zFL B S).getD i 0)) := by rw [vf _ _ (by omega)]; exact hc.2 i hi
    have hpl := zpd_lt (bW B) ((zFL B S).getD i 0)
    have hdl := zdm_lt (bW B) ((zFL B S).getD i 0) o
    show fX8_tallyWord_L6 k (n + 1) (Int32.ofNat o) (Int32.ofNat i) v
    rw [fX8_tallyWord_L6]
    try dsimp only
    rw [e3, hR, hb4.2.1, hln.1]
    refine ⟨fun q => absurd q (zi_nge hi (by omega)), fun _ => ⟨by omega, fun q => absurd q (zi_nge (by omega) (by omega)), fun _ => ⟨zi_in (by omega) (by omega), ?_⟩⟩⟩
    rw [zi_nat (show i < 2 ^ 31 by omega), eF, fX8_meaningIn, zl4, zi_mul, zi_shr (by omega) (by omega), zi_and15]
    rw [show zpd (bW B) ((zFL B S).getD i 0) / 2 ^ (4 * o) % 16 = zdm (bW B) ((zFL B S).getD i 0) o from zdg_pd _ _ (by omega)]
    refine q9_add (f := fun d => zdm (bW B) d o) (d := (zFL B S).getD i 0) vt (show zdm (bW B) ((zFL B S).getD i 0) o < 121 by omega) (fun u u2 uf ut => ?_)
    rw [zl1, zi_add]
    exact hnext _ ⟨u, rfl, u2.trans v2, fun a c q => (uf a c q).trans (vf a c q), by rw [ztk_succ hi]; exact ut⟩
theorem q8_tallyRow {B : zBk} {S : Nat → Int32} {b big r : Nat} {w : zW} {k : zW → Prop} (hwf : zWF B) (hcb : zCB B b w) (hbb : b = 40 ∨ b = 80) (hr : r < bR B) (hl : zLaid B b big w) (hc : zChosen B S big w)
    (hk : ∀ v : zW, v.2 = w.2 → (∀ a c, a ≠ 30 → gI v a c = gI w a c) → zTal (fun d => zLv B r (zdm (bW B) d)) (zFL B S) v → k v) : fX8_tallyRow (Int32.ofNat r) w k := by
  have h4 := wf_W hwf
  have hle := zAL_le hwf
  have hul := zUL_le B
  have hfl := zFL_le B S
  have his := zBig_is hl.1
  have hln := zBig_ln hl.1
  have hb4 := zBig_4 hl.1
  have lN := hl.2.2.1
  rw [fX8_tallyRow]
  refine q9_clear (fun d => zLv B r (zdm (bW B) d)) (fun w1 p1 f1 t1 => ?_)
  refine zinv (fun n (s : Int32 × zW) => fX8_tallyRow_L6 k n (Int32.ofNat r) s.1 s.2) (fun i s => ∃ v : zW, s = (Int32.ofNat i, v) ∧ v.2 = w.2 ∧ (∀ a c, a ≠ 30 → gI v a c = gI w a c) ∧ zTal (fun d => zLv B r (zdm (bW B) d)) ((zFL B S).take i) v) (zFL B S).length (s0 := (0, w1)) ⟨w1, rfl, p1, f1, by rw [List.take_zero]; exact t1⟩ ?_ ?_
  · rintro n s ⟨v, rfl, v2, vf, vt⟩
    have e3 : gI v 24 3 = Int32.ofNat (zFL B S).length := by rw [vf 24 3 (by omega)]; exact hc.1
    rw [List.take_length] at vt
    show fX8_tallyRow_L6 k (n + 1) (Int32.ofNat r) (Int32.ofNat (zFL B S).length) v
    rw [fX8_tallyRow_L6]
    try dsimp only
    rw [e3]
    exact ⟨fun _ => hk v v2 vf vt, fun q => absurd (Int32.le_refl _) q⟩
  · rintro i n s hi ⟨v, rfl, v2, vf, vt⟩ hnext
    have e3 : gI v 24 3 = Int32.ofNat (zFL B S).length := by rw [vf 24 3 (by omega)]; exact hc.1
    have hR : ∀ a c, gR v a c = gR w a c := fun a c => by rw [gR, gR, v2]
    have eF : gI v (big + 1) i = Int32.ofNat (zpd (bW B) ((zFL B S).getD i 0)) := by rw [vf _ _ (by omega)]; exact hc.2 i hi
    have hpl := zpd_lt (bW B) ((zFL B S).getD i 0)
    have hcbv : zCB B b v := zCB_of hcb (fun a c q1 q2 => vf a c (by omega)) hwf
    have hlv := zLv_le hwf r (bW B) (zdm (bW B) ((zFL B S).getD i 0))
    show fX8_tallyRow_L6 k (n + 1) (Int32.ofNat r) (Int32.ofNat i) v
    rw [fX8_tallyRow_L6]
    try dsimp only
    rw [e3, hR 24 5, hb4.2.1, hln.1, hR 24 9, hl.2.1]
    refine ⟨fun q => absurd q (zi_nge hi (by omega)), fun _ => ⟨by omega, fun q => absurd q (zi_nge (by omega) (by omega)), fun _ => ⟨by omega, zi_in (by omega) (by omega), ?_⟩⟩⟩
    rw [zi_nat (show i < 2 ^ 31 by omega), eF]
    refine q0_leavesOf hwf hcbv hr (by omega) ?_
    rw [show zLv B r (zdg (zpd (bW B) ((zFL B S).getD i 0))) = zLv B r (zdm (bW B) ((zFL B S).getD i 0)) from zsum_congr (fun o ho => by rw [zdg_pd _ _ (by omega)])]
    refine q9_add (f := fun d => zLv B r (zdm (bW B) d)) (d := (zFL B S).getD i 0) vt (show zLv B r (zdm (bW B) ((zFL B S).getD i 0)) < 121 from by rw [zLv]; omega) (fun u u2 uf ut => ?_)
    rw [zl1, zi_add]
    exact hnext _ ⟨u, rfl, u2.trans v2, fun a c q => (uf a c q).trans (vf a c q), by rw [ztk_succ hi]; exact ut⟩

/-! Level 2: the class goes to its next token -/
def zAtk (T : zTks) (j p : Nat) (v : zW) : Prop := gI v 2 2 = Int32.ofNat (T.kd j) ∧ gI v 2 3 = Int32.ofNat (T.pl j) ∧ gI v 2 9 = Int32.ofNat p ∧ gI v 2 5 = zKy (T.ky j) ∧ (T.kd j = 2 → gI v 2 4 = Int32.ofNat (T.nu j)) ∧ (T.kd j = 3 → gI v 2 6 = Int32.ofNat (T.si j)) ∧ (T.kd j = 1 → gL v 2 7 = Int64.ofNat (zn32 (T.nm j)))
def zfT (w v : zW) : Prop := (∀ a c, ¬ (a = 2 ∧ 2 ≤ c ∧ c ≠ 8) → gI v a c = gI w a c) ∧ (∀ a c, ¬ (a = 2 ∧ c = 7) → gL v a c = gL w a c) ∧ (∀ a c, gR v a c = gR w a c)
theorem zfT_refl (w : zW) : zfT w w := ⟨fun _ _ _ => rfl, fun _ _ _ => rfl, fun _ _ => rfl⟩
theorem zfT_trans {u v w : zW} (h : zfT u v) (h2 : zfT v w) : zfT u w := ⟨fun a c q => (h2.1 a c q).trans (h.1 a c q), fun a c q => (h2.2.1 a c q).trans (h.2.1 a c q), fun a c => (h2.2.2 a c).trans (h.2.2 a c)⟩
theorem zfT_sI {w v : zW} {c : Nat} {x : Int32} (h : zfT w v) (h2 : 2 ≤ c) (h8 : c ≠ 8) : zfT w (sI v 2 c x) :=
  ⟨fun a d q => by rw [gI_sI, if_neg (by omega)]; exact h.1 a d q, fun a d q => h.2.1 a d q, fun a d => h.2.2 a d⟩
theorem zfT_sL {w v : zW} {x : Int64} (h : zfT w v) : zfT w (sL v 2 7 x) :=
  ⟨fun a d q => h.1 a d q, fun a d q => by rw [gL_sL, if_neg q]; exact h.2.1 a d q, fun a d => h.2.2 a d⟩
/-- what the signs are -/
def zSg (sg : Nat → Nat) (n : Nat) : Prop := n ≤ 1000 ∧ ∀ i, i < n → sg i = 10 ∨ (32 ≤ sg i ∧ sg i ≤ 126)
theorem q10_next {sg : Nat → Nat} {n j : Nat} {w : zW} {k : zW → Prop} (hsg : zSg sg n) (h1 : gI w 2 1 = Int32.ofNat n) (h3 : ∀ i, i < n → gI w 3 i = Int32.ofNat (sg i)) (h9 : gI w 2 9 = Int32.ofNat (zps sg n j))
    (hk : ∀ v : zW, zfT w v → zAtk (zTT sg n) j (zps sg n (j + 1)) v → k v) : fX10_next w k := by
  have hp := zps_le sg n j
  have hn := hsg.1
  obtain ⟨q1, q2, q3, q4⟩ := zST_spec (sg := sg) hp
  have hc127 : ∀ i, i < n → sg i < 127 := fun i hi => by have := hsg.2 i hi; omega
  generalize hq : zST sg n (zps sg n j) = q at *
  have hTk : ∀ (T : zTks), T = zTT sg n → T.kd j = zKD sg n q ∧ T.pl j = q ∧ T.nu j = znum sg q (zE sg n q - q) ∧ T.si j = sg q ∧ T.nm j = zNM sg n q ∧ T.ky j = (if zKD sg n q = 1 then zKey (zNM sg n q) else 21) := fun T e => by
    subst e
    rw [← hq]
    exact ⟨rfl, rfl, rfl, rfl, rfl, rfl⟩
  obtain ⟨t1, t2, t3, t4, t5, t6⟩ := hTk _ rfl
  have hps : zps sg n (j + 1) = if n ≤ q then n else zE sg n q := by rw [zps, hq]
  -- facts of a world behind some writings
  have hw1 : ∀ v : zW, zfT w v → gI v 2 1 = Int32.ofNat n := fun v hv => (hv.1 2 1 (by omega)).trans h1
  have hw3 : ∀ v : zW, zfT w v → ∀ i, i < n → gI v 3 i = Int32.ofNat (sg i) := fun v hv i hi => (hv.1 3 i (by omega)).trans (h3 i hi)
  -- the token itself
  have hJ59 : ∀ v : zW, zfT w v → gI v 2 9 = Int32.ofNat q → fX10_next_J59 k v := by
    intro v hv v9
    rw [fX10_next_J59]
    intro w2 e2 w3 e3
    have f3 : zfT w w3 := by rw [e3, e2]; exact zfT_sI (zfT_sI hv (by omega) (by omega)) (by omega) (by omega)
    have g9 : gI w3 2 9 = Int32.ofNat q := by rw [e3, gI_sI_ne2 (by decide), e2, gI_sI_ne2 (by decide)]; exact v9
    have g3 : gI w3 2 3 = Int32.ofNat q := by rw [e3, gI_sI_ne2 (by decide), e2, gI_sI_eq]; exact v9
    have g5 : gI w3 2 5 = zN1 := by rw [e3, gI_sI_eq]; rfl
    rw [g9, hw1 w3 f3]
    refine ⟨fun z => absurd z (zi_0le (by omega)), fun _ => ⟨fun z => ?_, fun z => ?_⟩⟩
    · -- a sign stands here
      have hqn : q < n := (zi_lt (by omega) (by omega)).mp z
      have hc := hc127 q hqn
      rw [zi_nat (show q < 2 ^ 31 by omega), hw3 w3 f3 q hqn]
      refine ⟨zi_in (by omega) (by omega), zch_of hc, ?_⟩
      intro w8 e8
      have f8 : zfT w w8 := by rw [e8]; exact zfT_sI f3 (by omega) (by omega)
      have g86 : gI w8 2 6 = Int32.ofNat (sg q) := by rw [e8, gI_sI_eq]
      rw [g86]
      refine q10_kindOf hc ?_
      intro w10 e10
      have f10 : zfT w w10 := by rw [e10]; exact zfT_sI f8 (by omega) (by omega)
      have g106 : gI w10 2 6 = Int32.ofNat (sg q) := by rw [e10, gI_sI_ne2 (by decide)]; exact g86
      -- behind the first sign
      have hafter : ∀ (v12 : Int64) (w13 : zW), w13 = sI w10 2 9 (gI w10 2 9 + 1) → (zkd (sg q) = 1 → v12 = Int64.ofNat (sg q - 96)) → (zkd (sg q) = 2 → v12 = Int64.ofNat (sg q - 48)) → ∀ v14 : Int32, v14 = (if ¬ (gI w13 2 2) = (1 : Int32) then (0 : Int32) else (1 : Int32)) → fX10_next_J152 k v12 v14 w13 := by
        intro v12 w13 e13 hv1 hv2 v14 e14
        have p9 : gI w10 2 9 = Int32.ofNat q := by rw [e10, gI_sI_ne2 (by decide), e8, gI_sI_ne2 (by decide)]; exact g9
        rw [p9, zl1, zi_add] at e13
        have f13 : zfT w w13 := by rw [e13]; exact zfT_sI f10 (by omega) (by omega)
        have r9 : gI w13 2 9 = Int32.ofNat (q + 1) := by rw [e13, gI_sI_eq]
        have r2 : gI w13 2 2 = Int32.ofNat (zkd (sg q)) := by rw [e13, gI_sI_ne2 (by decide), e10, gI_sI_eq]
        have r3 : gI w13 2 3 = Int32.ofNat q := by rw [e13, gI_sI_ne2 (by decide), e10, gI_sI_ne2 (by decide), e8, gI_sI_ne2 (by decide)]; exact g3
        have r5 : gI w13 2 5 = zN1 := by rw [e13, gI_sI_ne2 (by decide), e10, gI_sI_ne2 (by decide), e8, gI_sI_ne2 (by decide)]; exact g5
        have r6 : gI w13 2 6 = Int32.ofNat (sg q) := by rw [e13, gI_sI_ne2 (by decide)]; exact g106
        have hkr := zkd_rng (sg q)
        have hnq : ¬ n ≤ q := by omega
        -- a run's end
        have hend : ∀ (f : Nat) (val : Int64) (u : zW), ((f = 1 ∧ zkd (sg q) = 1 ∧ val = Int64.ofNat (zn32 (zlet sg q (zE sg n q - q)))) ∨ (f = 0 ∧ zkd (sg q) = 2 ∧ val = Int64.ofNat (znum sg q (zE sg n q - q)))) → zfT w u → gI u 2 9 = Int32.ofNat (zE sg n q) → gI u 2 2 = Int32.ofNat (zkd (sg q)) → gI u 2 3 = Int32.ofNat q → gI u 2 5 = zN1 → gI u 2 6 = Int32.ofNat (sg q) → fX10_next_J238 k val (Int32.ofNat f) u := by
          intro f val u hf fu u9 u2 u3 u5 u6
          obtain ⟨b1, b2⟩ := zE_lt (sg := sg) hqn
          rw [fX10_next_J238]
          intro v17 e17
          rw [u9, u3, zi_sub (by omega), fX10_next_J257]
          rcases hf with ⟨hf, hk1, hval⟩ | ⟨hf, hk2, hval⟩
          · rw [hf] at e17 ⊢
            rw [e17.trans (if_neg (by decide)), zl8]
            refine ⟨fun y => ⟨fun y2 => absurd y2 (by decide), fun _ => ?_⟩, fun y => ?_⟩
            · have h8 := (zi_le (by omega) (by decide)).mp y
              have hKD : zKD sg n q = 1 := by rw [zKD, if_neg hnq, if_neg (by omega), if_neg (by omega), hk1]
              intro w21 e21
              rw [hval]
              have hsw := zNM_ok hKD
              refine q10_keyOf (l := zlet sg q (zE sg n q - q)) hsw ?_
              intro w23 e23
              have fe : zfT w w23 := by rw [e23, e21]; exact zfT_sI (zfT_sL fu) (by omega) (by omega)
              refine hk w23 fe ⟨?_, ?_, ?_, ?_, fun y => ?_, fun y => ?_, fun _ => ?_⟩
              · rw [e23, gI_sI_ne2 (by decide), e21, gI_sL, u2, t1, hKD, hk1]
              · rw [e23, gI_sI_ne2 (by decide), e21, gI_sL, u3, t2]
              · rw [e23, gI_sI_ne2 (by decide), e21, gI_sL, u9, hps, if_neg hnq]
              · rw [e23, gI_sI_eq, t6, if_pos hKD]; rfl
              · rw [t1, hKD] at y; omega
              · rw [t1, hKD] at y; omega
              · rw [e23, gL_sI, e21, gL_sL_eq, hval, t5]; rfl
            · have h8 : ¬ zE sg n q - q ≤ 8 := fun z => y ((zi_le (by omega) (by decide)).mpr z)
              have hKD : zKD sg n q = 4 := by rw [zKD, if_neg hnq, if_pos ⟨hk1, by omega⟩]
              intro w24 e24
              have fe : zfT w w24 := by rw [e24]; exact zfT_sI fu (by omega) (by omega)
              refine hk w24 fe ⟨?_, ?_, ?_, ?_, fun y => ?_, fun y => ?_, fun y => ?_⟩
              · rw [e24, gI_sI_eq, t1, hKD] <;> rfl
              · rw [e24, gI_sI_ne2 (by decide), u3, t2]
              · rw [e24, gI_sI_ne2 (by decide), u9, hps, if_neg hnq]
              · rw [e24, gI_sI_ne2 (by decide), u5, t6, if_neg (by omega)]; rfl
              · rw [t1, hKD] at y; omega
              · rw [t1, hKD] at y; omega
              · rw [t1, hKD] at y; omega
          · rw [hf] at e17 ⊢
            rw [e17.trans (if_pos rfl), zl4]
            refine ⟨fun y => ⟨fun _ => ?_, fun y2 => absurd rfl y2⟩, fun y => ?_⟩
            · have h8 := (zi_le (by omega) (by decide)).mp y
              have hKD : zKD sg n q = 2 := by rw [zKD, if_neg hnq, if_neg (by omega), if_neg (by omega), hk2]
              intro w20 e20
              have fe : zfT w w20 := by rw [e20]; exact zfT_sI fu (by omega) (by omega)
              refine hk w20 fe ⟨?_, ?_, ?_, ?_, fun _ => ?_, fun y => ?_, fun y => ?_⟩
              · rw [e20, gI_sI_ne2 (by decide), u2, t1, hKD, hk2]
              · rw [e20, gI_sI_ne2 (by decide), u3, t2]
              · rw [e20, gI_sI_ne2 (by decide), u9, hps, if_neg hnq]
              · rw [e20, gI_sI_ne2 (by decide), u5, t6, if_neg (by omega)]; rfl
              · rw [e20, gI_sI_eq, hval, t3]
                exact Int64.toInt32_ofNat'
              · rw [t1, hKD] at y; omega
              · rw [t1, hKD] at y; omega
            · have h8 : ¬ zE sg n q - q ≤ 4 := fun z => y ((zi_le (by omega) (by decide)).mpr z)
              have hKD : zKD sg n q = 4 := by rw [zKD, if_neg hnq, if_neg (by omega), if_pos ⟨hk2, by omega⟩]
              intro w24 e24
              have fe : zfT w w24 := by rw [e24]; exact zfT_sI fu (by omega) (by omega)
              refine hk w24 fe ⟨?_, ?_, ?_, ?_, fun y => ?_, fun y => ?_, fun y => ?_⟩
              · rw [e24, gI_sI_eq, t1, hKD] <;> rfl
              · rw [e24, gI_sI_ne2 (by decide), u3, t2]
              · rw [e24, gI_sI_ne2 (by decide), u9, hps, if_neg hnq]
              · rw [e24, gI_sI_ne2 (by decide), u5, t6, if_neg (by omega)]; rfl
              · rw [t1, hKD] at y; omega
              · rw [t1, hKD] at y; omega
              · rw [t1, hKD] at y; omega
        -- the run
        have hrun : ∀ (f : Nat), ((f = 1 ∧ zkd (sg q) = 1) ∨ (f = 0 ∧ zkd (sg q) = 2)) → ∀ (c p : Nat) (val : Int64) (u : zW), p + c = zE sg n q → q < p → ((f = 1 ∧ zkd (sg q) = 1 ∧ val = Int64.ofNat (zn32 (zlet sg q (p - q)))) ∨ (f = 0 ∧ zkd (sg q) = 2 ∧ val = Int64.ofNat (znum sg q (p - q)))) → zfT w u → gI u 2 9 = Int32.ofNat p → gI u 2 2 = Int32.ofNat (zkd (sg q)) → gI u 2 3 = Int32.ofNat q → gI u 2 5 = zN1 → gI u 2 6 = Int32.ofNat (sg q) → fX10_next_L166 k (c + 1) val (Int32.ofNat f) u := by
          intro f hf c
          obtain ⟨a1, a2, a3, a4⟩ := zE_run (sg := sg) hqn (by omega)
          induction c with
          | zero =>
            intro p val u hp' hqp hval fu u9 u2 u3 u5 u6
            have e : p = zE sg n q := by omega
            subst e
            rw [fX10_next_L166]
            try dsimp only
            rw [hw1 u fu, u9]
            refine ⟨fun _ => hend f val u hval fu u9 u2 u3 u5 u6, fun y => ?_⟩
            have hlt : zE sg n q < n := by
              by_cases z : zE sg n q < n
              · exact z
              · exact absurd ((zi_le (by omega) (by omega)).mpr (by omega)) y
            rw [zi_nat (show zE sg n q < 2 ^ 31 by omega), hw3 u fu _ hlt]
            refine ⟨zi_in (by omega) (by omega), q10_kindOf (hc127 _ hlt) ?_⟩
            rw [u2]
            have hne := a4.resolve_left (by omega)
            exact ⟨fun _ => hend f val u hval fu u9 u2 u3 u5 u6, fun z => absurd ((zi_eq (by have := zkd_rng (sg (zE sg n q)); omega) (by omega)).mp z) hne⟩
          | succ c ih =>
            intro p val u hp' hqp hval fu u9 u2 u3 u5 u6
            have hlt : p < n := by omega
            have hkp := a3 p (by omega) (by omega)
            rw [fX10_next_L166]
            try dsimp only
            rw [hw1 u fu, u9]
            refine ⟨fun y => absurd ((zi_le (by omega) (by omega)).mp y) (by omega), fun y => ?_⟩
            rw [zi_nat (show p < 2 ^ 31 by omega), hw3 u fu _ hlt]
            refine ⟨zi_in (by omega) (by omega), q10_kindOf (hc127 _ hlt) ?_⟩
            rw [u2, hkp]
            refine ⟨fun z => absurd rfl z, fun _ => ?_⟩
            intro v28 e28
            rw [fX10_next_J208, u9, zi_nat (show p < 2 ^ 31 by omega), hw3 u fu _ hlt]
            refine ⟨zi_in (by omega) (by omega), ?_⟩
            have hstep : ∀ (val2 : Int64) (w32 : zW), w32 = sI u 2 9 (gI u 2 9 + 1) → ((f = 1 ∧ zkd (sg q) = 1 ∧ val2 = Int64.ofNat (zn32 (zlet sg q (p + 1 - q)))) ∨ (f = 0 ∧ zkd (sg q) = 2 ∧ val2 = Int64.ofNat (znum sg q (p + 1 - q)))) → fX10_next_L166 k (c + 1) val2 (Int32.ofNat f) w32 := fun val2 w32 e32 hval2 => by
              rw [u9, zl1, zi_add] at e32
              refine ih (p + 1) val2 w32 (by omega) (by omega) hval2 (by rw [e32]; exact zfT_sI fu (by omega) (by omega)) (by rw [e32, gI_sI_eq]) ?_ ?_ ?_ ?_
              · rw [e32, gI_sI_ne2 (by decide)]; exact u2
              · rw [e32, gI_sI_ne2 (by decide)]; exact u3
              · rw [e32, gI_sI_ne2 (by decide)]; exact u5
              · rw [e32, gI_sI_ne2 (by decide)]; exact u6
            rcases hval with ⟨hf1, hk1, hval⟩ | ⟨hf1, hk2, hval⟩
            · have hl := zkd_1 (hkp.trans hk1)
              refine q10_valueL hl.1 (by omega) ?_
              intro v31 e31 w32 e32
              refine hstep v31 w32 e32 (Or.inl ⟨hf1, hk1, ?_⟩)
              rw [hf1] at e28
              rw [e31, e28.trans (if_neg (by decide)), hval, show ((32 : Int32).toInt64) = Int64.ofNat 32 from rfl, zi_L64 (by omega), zl_mul, zl_add, show p + 1 - q = (p - q) + 1 by omega, zlet, zn32, show q + (p - q) = p by omega]
            · have hl := zkd_2 (hkp.trans hk2)
              refine q10_valueD hl.1 hl.2 ?_
              intro v31 e31 w32 e32
              refine hstep v31 w32 e32 (Or.inr ⟨hf1, hk2, ?_⟩)
              rw [hf1] at e28
              rw [e31, e28.trans (if_pos rfl), hval, show ((10 : Int32).toInt64) = Int64.ofNat 10 from rfl, zi_L64 (by omega), zl_mul, zl_add, show p + 1 - q = (p - q) + 1 by omega, znum, show q + (p - q) = p by omega, Nat.mul_comm]
        rw [fX10_next_J152]
        rw [r2] at e14
        by_cases hk1 : zkd (sg q) = 1
        · have e := e14.trans (if_neg (fun z => z (by rw [hk1]; rfl)))
          rw [e]
          refine ⟨fun _ => ?_, fun y => absurd y (by decide)⟩
          obtain ⟨b1, b2⟩ := zE_lt (sg := sg) hqn
          refine ⟨zE sg n q - (q + 1) + 1, hrun 1 (Or.inl ⟨rfl, hk1⟩) (zE sg n q - (q + 1)) (q + 1) v12 w13 (by omega) (by omega) (Or.inl ⟨rfl, hk1, ?_⟩) f13 r9 r2 r3 r5 r6⟩
          rw [hv1 hk1, show q + 1 - q = 0 + 1 by omega, zlet, zlet, zn32, zn32, Nat.zero_mul, Nat.zero_add, Nat.add_zero]
        · have e := e14.trans (if_pos (fun z => hk1 ((zi_eq (b := 1) (by omega) (by decide)).mp z)))
          rw [e, r2]
          refine ⟨fun y => absurd rfl y, fun _ => ⟨fun y => ?_, fun y => ?_⟩⟩
          · have hk2 := (zi_eq (b := 2) (by omega) (by decide)).mp y
            obtain ⟨b1, b2⟩ := zE_lt (sg := sg) hqn
            refine ⟨zE sg n q - (q + 1) + 1, hrun 0 (Or.inr ⟨rfl, hk2⟩) (zE sg n q - (q + 1)) (q + 1) v12 w13 (by omega) (by omega) (Or.inr ⟨rfl, hk2, ?_⟩) f13 r9 r2 r3 r5 r6⟩
            rw [hv2 hk2, show q + 1 - q = 0 + 1 by omega, znum, znum, Nat.mul_zero, Nat.zero_add, Nat.add_zero]
          · have hk2 : ¬ zkd (sg q) = 2 := fun z => y (by rw [z]; rfl)
            have hKD : zKD sg n q = zkd (sg q) := by rw [zKD, if_neg hnq, if_neg (by omega), if_neg (by omega)]
            refine hk w13 f13 ⟨?_, ?_, ?_, ?_, fun y => ?_, fun y => ?_, fun y => ?_⟩
            · rw [r2, t1, hKD]
            · rw [r3, t2]
            · rw [r9, hps, if_neg hnq, zE_one (by omega)]
            · rw [r5, t6, if_neg (by omega)]; rfl
            · rw [t1, hKD] at y; omega
            · rw [r6, t4]
            · rw [t1, hKD] at y; omega
      rw [g106]
      by_cases hk1 : zkd (sg q) = 1
      · have hl := zkd_1 hk1
        refine q10_valueL hl.1 hc ?_
        intro v12 e12 w13 e13 v14 e14
        exact hafter v12 w13 e13 (fun _ => by rw [e12, zi_L64 (by omega)]) (fun y => by omega) v14 e14
      · by_cases hk2 : zkd (sg q) = 2
        · have hl := zkd_2 hk2
          refine q10_valueD hl.1 hl.2 ?_
          intro v12 e12 w13 e13 v14 e14
          exact hafter v12 w13 e13 (fun y => by omega) (fun _ => by rw [e12, zi_L64 (by omega)]) v14 e14
        · rw [fX10_valueOf]
          intro v1 e1 v12 e12 w13 e13 v14 e14
          exact hafter v12 w13 e13 (fun y => absurd y hk1) (fun y => absurd y hk2) v14 e14
    · -- the end
      have hqn : n ≤ q := by
        by_cases y : q < n
        · exact absurd ((zi_lt (by omega) (by omega)).mpr y) z
        · omega
      have hKD : zKD sg n q = 0 := by rw [zKD, if_pos hqn]
      rw [fX10_next_J90]
      intro w5 e5
      refine hk w5 (by rw [e5]; exact zfT_sI f3 (by omega) (by omega)) ⟨?_, ?_, ?_, ?_, fun y => ?_, fun y => ?_, fun y => ?_⟩
      · rw [e5, gI_sI_eq, t1, hKD]; rfl
      · rw [e5, gI_sI_ne2 (by decide), g3, t2]
      · rw [e5, gI_sI_ne2 (by decide), g9, hps, if_pos hqn]
        exact congrArg _ (by omega)
      · rw [e5, gI_sI_ne2 (by decide), g5, t6, if_neg (by omega)]; rfl
      · rw [t1, hKD] at y; omega
      · rw [t1, hKD] at y; omega
      · rw [t1, hKD] at y; omega
  -- blanks ahead
  have hgo : ∀ (c p : Nat) (v : zW), p + c = q → zps sg n j ≤ p → zfT w v → gI v 2 9 = Int32.ofNat p → fX10_next_L0 k (c + 1) v := by
    intro c
    induction c with
    | zero =>
      intro p v hpc hpj hv v9
      have e : p = q := by omega
      subst e
      rw [fX10_next_L0]
      try dsimp only
      rw [hw1 v hv, v9]
      refine ⟨fun z => absurd z (zi_0le (by omega)), fun _ => ⟨fun _ => hJ59 v hv v9, fun z => ?_⟩⟩
      have hlt : p < n := by
        by_cases y : p < n
        · exact y
        · exact absurd ((zi_le (by omega) (by omega)).mpr (by omega)) z
      have hnb := q4.resolve_left (by omega)
      have hc := hc127 p hlt
      rw [zi_nat (show p < 2 ^ 31 by omega), hw3 v hv p hlt]
      refine ⟨zi_in (by omega) (by omega), fun y => ?_, fun _ => ⟨fun _ => hJ59 v hv v9, fun y => ?_⟩⟩
      · exact absurd (Or.inr ((zi_eq (b := 32) (by omega) (by decide)).mp y)) hnb
      · exact absurd (Or.inl ((zi_eq (b := 10) (by omega) (by decide)).mp y)) hnb
    | succ c ih =>
      intro p v hpc hpj hv v9
      have hlt : p < n := by omega
      have hb := q3 p hpj (by omega)
      have hJ46 : fX10_next_J46 k (fX10_next_L0 k (c + 1)) v := by
        rw [fX10_next_J46, v9]
        intro w37 e37
        rw [zl1, zi_add] at e37
        exact ih (p + 1) w37 (by omega) (by omega) (by rw [e37]; exact zfT_sI hv (by omega) (by omega)) (by rw [e37, gI_sI_eq])
      rw [fX10_next_L0]
      try dsimp only
      rw [hw1 v hv, v9]
      refine ⟨fun z => absurd z (zi_0le (by omega)), fun _ => ⟨fun z => absurd ((zi_le (by omega) (by omega)).mp z) (by omega), fun z => ?_⟩⟩
      rw [zi_nat (show p < 2 ^ 31 by omega), hw3 v hv p hlt]
      refine ⟨zi_in (by omega) (by omega), fun _ => hJ46, fun y => ⟨fun y2 => ?_, fun _ => hJ46⟩⟩
      rcases hb with e | e
      · exact absurd (by rw [e]; rfl) y2
      · exact absurd (by rw [e]; rfl) y
  rw [fX10_next]
  exact ⟨q - zps sg n j + 1, hgo (q - zps sg n j) (zps sg n j) w (by omega) (Nat.le_refl _) (zfT_refl w) h9⟩

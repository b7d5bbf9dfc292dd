/-! Level 2: the class reads a row -/
/-- where the class's book is being read, how many rows and words it has, their names -/
def zCn (b R W : Nat) (nm : Nat → List Nat) (v : zW) : Prop := gR v 4 3 = b ∧ gI v b 7 = Int32.ofNat R ∧ gI v b 0 = Int32.ofNat W ∧ zNm32 (b + 1) W nm v
/-- what the class has of a row -/
def zLr (b R : Nat) (L : zRo) (v : zW) : Prop := gI v 4 5 = Int32.ofNat L.1 ∧ ∀ i, i < 60 → i < L.1 → gI v (b + 11 + 1 + R) i = Int32.ofNat (L.2 i)
theorem zLr_c {b R : Nat} {L L' : zRo} {v : zW} (h : zLr b R L v) (e1 : L'.1 = L.1) (e2 : ∀ i, i < 60 → i < L.1 → L'.2 i = L.2 i) : zLr b R L' v :=
  ⟨by rw [e1]; exact h.1, fun i h1 h2 => by rw [e1] at h2; rw [e2 i h1 h2]; exact h.2 i h1 h2⟩
def zfI (b R : Nat) (w v : zW) : Prop := (∀ a c, ¬ (a = 2 ∧ 2 ≤ c) → ¬ (a = 4 ∧ c = 5) → a ≠ 5 → a ≠ b + 11 + 1 + R → gI v a c = gI w a c) ∧ (∀ a c, ¬ (a = 2 ∧ c = 7) → gL v a c = gL w a c) ∧ (∀ a c, gR v a c = gR w a c)
theorem zfI_refl (b R : Nat) (w : zW) : zfI b R w w := ⟨fun _ _ _ _ _ _ => rfl, fun _ _ _ => rfl, fun _ _ => rfl⟩
theorem zfI_trans {b R : Nat} {u v w : zW} (h : zfI b R u v) (h2 : zfI b R v w) : zfI b R u w := ⟨fun a c q1 q2 q3 q4 => (h2.1 a c q1 q2 q3 q4).trans (h.1 a c q1 q2 q3 q4), fun a c q => (h2.2.1 a c q).trans (h.2.1 a c q), fun a c => (h2.2.2 a c).trans (h.2.2 a c)⟩
theorem zfI_T {b R : Nat} {w v : zW} (h : zfT w v) : zfI b R w v := ⟨fun a c q1 _ _ _ => h.1 a c (by omega), h.2.1, h.2.2⟩
theorem zfI_8 (b R : Nat) (w : zW) (x : Int32) : zfI b R w (sI w 2 8 x) := ⟨fun a c q1 _ _ _ => by rw [gI_sI, if_neg (by omega)], fun _ _ _ => rfl, fun _ _ => rfl⟩
theorem zfI_5 (b R : Nat) (w : zW) (p : Nat) (x : Int32) : zfI b R w (sI w 5 p x) := ⟨fun a c _ _ q3 _ => by rw [gI_sI_ne q3], fun _ _ _ => rfl, fun _ _ => rfl⟩
/-- a word is put behind -/
def zfP (b R : Nat) (w v : zW) : Prop := (∀ a c, ¬ (a = 4 ∧ c = 5) → a ≠ b + 11 + 1 + R → gI v a c = gI w a c) ∧ v.2 = w.2
theorem zfI_P {b R : Nat} {w v : zW} (h : zfP b R w v) : zfI b R w v := ⟨fun a c _ q2 _ q4 => h.1 a c q2 q4, fun a c _ => by rw [gL, gL, h.2], fun a c => by rw [gR, gR, h.2]⟩
theorem zfP_refl (b R : Nat) (w : zW) : zfP b R w w := ⟨fun _ _ _ _ => rfl, rfl⟩
theorem zfP_trans {b R : Nat} {u v w : zW} (h : zfP b R u v) (h2 : zfP b R v w) : zfP b R u w := ⟨fun a c q1 q2 => (h2.1 a c q1 q2).trans (h.1 a c q1 q2), h2.2.trans h.2⟩
theorem q1_put {b R x : Nat} {L : zRo} {w : zW} {k : zW → Prop} (hb : b = 40 ∨ b = 80) (hR8 : R < 8) (h3 : gR w 4 3 = b) (h7 : gI w b 7 = Int32.ofNat R) (hL : L.1 ≤ 61) (h : zLr b R L w) (hk : ∀ v, zfP b R w v → zLr b R (zput L x) v → k v) : fX1_put (Int32.ofNat x) w k := by
  have hJ : ∀ v : zW, (∀ a c, a ≠ b + 11 + 1 + R → gI v a c = gI w a c) → v.2 = w.2 → (∀ i, i < 60 → i < (zput L x).1 → gI v (b + 11 + 1 + R) i = Int32.ofNat ((zput L x).2 i)) → fX1_put_J37 k v := by
    intro v v1 v2 v3
    have e5 : gI v 4 5 = Int32.ofNat L.1 := (v1 4 5 (by omega)).trans h.1
    have hfin : ∀ y : Int32, y = Int32.ofNat (zput L x).1 → fX1_put_J58 k y v := by
      intro y hy
      rw [fX1_put_J58]
      intro w3 e3
      refine hk w3 ⟨fun a c q1 q2 => by rw [e3, gI_sI, if_neg q1]; exact v1 a c q2, by rw [e3]; exact v2⟩ ⟨by rw [e3, gI_sI_eq, hy], fun i i1 i2 => by rw [e3, gI_sI_ne (by omega)]; exact v3 i i1 i2⟩
    rw [fX1_put_J37, e5]
    refine ⟨fun q => hfin _ ?_, fun q => hfin _ ?_⟩
    · have := (zi_le (a := 60) (by decide) (by omega)).mp q
      unfold zput
      by_cases e : L.1 ≤ 60
      · rw [if_pos e]; show (61 : Int32) = Int32.ofNat (L.1 + 1); rw [show L.1 + 1 = 61 by omega]; rfl
      · rw [if_neg e, show L.1 = 61 by omega]; rfl
    · have : L.1 < 60 := by
        by_cases y : L.1 < 60
        · exact y
        · exact absurd ((zi_le (a := 60) (by decide) (by omega)).mpr (by omega)) q
      unfold zput
      rw [if_pos (by omega), zl1, zi_add]
  rw [fX1_put, h.1]
  refine ⟨fun q => absurd q (zi_0le (by omega)), fun _ => ⟨fun q => ?_, fun q => ?_⟩⟩
  · have q' := (zi_le (a := 60) (by decide) (by omega)).mp q
    refine hJ w (fun _ _ _ => rfl) rfl (fun i i1 i2 => ?_)
    rw [h.2 i i1 (by omega)]
    unfold zput
    by_cases e : L.1 ≤ 60
    · rw [if_pos e]; show _ = Int32.ofNat (if i = L.1 then x else L.2 i); rw [if_neg (by omega)]
    · rw [if_neg e]
  · have q' : L.1 < 60 := by
      by_cases y : L.1 < 60
      · exact y
      · exact absurd ((zi_le (a := 60) (by decide) (by omega)).mpr (by omega)) q
    rw [h3, h7, zi_nat (show R < 2 ^ 31 by omega), zi_nat (show L.1 < 2 ^ 31 by omega)]
    refine ⟨by omega, zi_in hR8 (by omega), zi_in q' (by omega), ?_⟩
    intro w8 e8
    refine hJ w8 (fun a c q1 => by rw [e8, gI_sI_ne q1]) (by rw [e8]; rfl) (fun i i1 i2 => ?_)
    unfold zput at i2 ⊢
    rw [if_pos (show L.1 ≤ 60 by omega)] at i2 ⊢
    have i2' : i < L.1 + 1 := i2
    show _ = Int32.ofNat (if i = L.1 then x else L.2 i)
    rw [e8]
    by_cases e : i = L.1
    · rw [if_pos e, e, gI_sI_eq]
    · rw [if_neg e, gI_sI_ne2 e]
      exact h.2 i i1 (by omega)
/-- the class stands in a row -/
def zCI (sg : Nat → Nat) (n b R W : Nat) (nm : Nat → List Nat) (s : Nat × zRo) (v : zW) : Prop := zCt sg n s.1 v ∧ zCn b R W nm v ∧ zLr b R s.2 v
theorem zCn_T {b R W : Nat} {nm : Nat → List Nat} {w v : zW} (hb : b = 40 ∨ b = 80) (hR8 : R < 8) (h : zCn b R W nm w) (f : zfI b R w v) : zCn b R W nm v :=
  ⟨by rw [f.2.2]; exact h.1, by rw [f.1 b 7 (by omega) (by omega) (by omega) (by omega)]; exact h.2.1, by rw [f.1 b 0 (by omega) (by omega) (by omega) (by omega)]; exact h.2.2.1, fun o ho => by rw [f.2.1 _ _ (by omega)]; exact h.2.2.2 o ho⟩
theorem zLr_T {b R : Nat} {L : zRo} {w v : zW} (hb : b = 40 ∨ b = 80) (h : zLr b R L w) (f : zfT w v) : zLr b R L v :=
  ⟨by rw [f.1 4 5 (by omega)]; exact h.1, fun i i1 i2 => by rw [f.1 _ i (by omega)]; exact h.2 i i1 i2⟩
theorem zCt_P {sg : Nat → Nat} {n b R j : Nat} {w v : zW} (hb : b = 40 ∨ b = 80) (h : zCt sg n j w) (f : zfP b R w v) : zCt sg n j v :=
  zCt_of h (fun c _ => f.1 2 c (by omega) (by omega)) (fun c => f.1 3 c (by omega) (by omega)) (by rw [gL, gL, f.2])
theorem zmul_neg : ∀ s : Fin 62, Int32.ofNat s.val * (-1 : Int32) ≤ Int32.ofNat s.val := by decide +kernel
/-- the copies of a bracket -/
theorem q1_rep {b R W fr t : Nat} {nm : Nat → List Nat} {L : zRo} {w : zW} {k : Int32 → zW → Prop} (hb : b = 40 ∨ b = 80) (hR8 : R < 8) (hc : zCn b R W nm w) (hL : zRok W L) (hW : W ≤ 4) (hf : fr ≤ L.1) (ht : 1 ≤ t) (ht2 : t ≤ 20) (h : zLr b R L w)
    (hk : ∀ v, zfP b R w v → zLr b R (zrep fr t L) v → k 1 v) : ∃ n9, fX1_readTimes_L28 k n9 (Int32.ofNat t) (Int32.ofNat (L.1 - fr)) (Int32.ofNat (L.1 - fr)) w := by
  have hL61 := hL.1
  have hst : (L.1 - fr) * 1 ≤ (L.1 - fr) * t := Nat.mul_le_mul_left _ ht
  have hst2 : (L.1 - fr) * t ≤ 61 * 20 := Nat.mul_le_mul (by omega) ht2
  rw [Nat.mul_one] at hst
  have hfin : ∀ (v : zW) (i : Nat), zfP b R w v → zLr b R (zmn 61 (fr + i), fun j => if j < fr then L.2 j else L.2 (fr + (j - fr) % (L.1 - fr))) v → (i = (L.1 - fr) * t ∨ (i ≤ (L.1 - fr) * t ∧ 61 ≤ fr + i)) → fX1_readTimes_J77 k (Int32.ofNat t) v := by
    intro v i fv hv hi
    rw [fX1_readTimes_J77]
    intro v5 e5
    rw [e5.trans (if_neg (zN1_ne (by omega)))]
    refine ⟨Or.inr rfl, hk v fv (zLr_c hv ?_ (fun _ _ _ => rfl))⟩
    show zmn 61 (fr + (L.1 - fr) * t) = zmn 61 (fr + i)
    rcases hi with e | ⟨e1, e2⟩
    · rw [e]
    · rw [zmn_l (by omega), zmn_l e2]
  have hgo : ∀ (d i : Nat) (v : zW), i + d = (L.1 - fr) * t → L.1 - fr ≤ i → zfP b R w v → zLr b R (zmn 61 (fr + i), fun j => if j < fr then L.2 j else L.2 (fr + (j - fr) % (L.1 - fr))) v → fX1_readTimes_L28 k (d + 1) (Int32.ofNat t) (Int32.ofNat (L.1 - fr)) (Int32.ofNat i) v := by
    intro d
    induction d with
    | zero =>
      intro i v hi hsi fv hv
      rw [fX1_readTimes_L28]
      try dsimp only
      rw [zi_mul]
      exact ⟨fun _ => hfin v i fv hv (Or.inl (by omega)), fun q => absurd ((zi_le (by omega) (by omega)).mpr (by omega)) q⟩
    | succ d ih =>
      intro i v hi hsi fv hv
      have hs1 : 1 ≤ L.1 - fr := by
        by_cases e : L.1 - fr = 0
        · rw [e, Nat.zero_mul] at hi; omega
        · omega
      rw [fX1_readTimes_L28]
      try dsimp only
      rw [zi_mul, hv.1]
      refine ⟨fun q => absurd ((zi_le (by omega) (by omega)).mp q) (by omega), fun _ => ⟨fun q => ?_, fun q => ?_⟩⟩
      · have q' := (zi_lt (a := 60) (by decide) (by have := (zmn_le 61 (fr + i)).1; omega)).mp q
        have := (zmn_le 61 (fr + i)).2
        exact hfin v i fv hv (Or.inr ⟨by omega, by omega⟩)
      · have e60 : fr + i ≤ 60 := by
          by_cases y : fr + i ≤ 60
          · exact y
          · rw [zmn_l (by omega)] at q; exact absurd (show (60 : Int32) < Int32.ofNat 61 by decide) q
        have em : zmn 61 (fr + i) = fr + i := zmn_r (by omega)
        rw [em] at hv ⊢
        have h3 : gR v 4 3 = b := by rw [gR, fv.2]; exact hc.1
        have h7 : gI v b 7 = Int32.ofNat R := (fv.1 b 7 (by omega) (by omega)).trans hc.2.1
        have hsrc := hv.2 (fr + i - (L.1 - fr)) (by omega) (show fr + i - (L.1 - fr) < fr + i by omega)
        rw [h3, h7, zi_nat (show R < 2 ^ 31 by omega), zi_sub (show L.1 - fr ≤ fr + i by omega), zi_nat (show fr + i - (L.1 - fr) < 2 ^ 31 by omega), hsrc]
        refine ⟨by omega, zi_in hR8 (by omega), zi_in (by omega) (by omega), ?_⟩
        refine q1_put hb hR8 h3 h7 (show fr + i ≤ 61 by omega) hv (fun v2 f2 h2 => ?_)
        rw [zl1, zi_add]
        refine ih (i + 1) v2 (by omega) (by omega) (zfP_trans fv f2) (zLr_c h2 ?_ (fun j j1 j2 => ?_))
        · unfold zput
          rw [if_pos (show fr + i ≤ 60 from e60)]
          exact zmn_r (by omega)
        · unfold zput
          rw [if_pos (show fr + i ≤ 60 from e60)]
          show (if j < fr then L.2 j else L.2 (fr + (j - fr) % (L.1 - fr))) = if j = fr + i then (if fr + i - (L.1 - fr) < fr then L.2 (fr + i - (L.1 - fr)) else L.2 (fr + (fr + i - (L.1 - fr) - fr) % (L.1 - fr))) else (if j < fr then L.2 j else L.2 (fr + (j - fr) % (L.1 - fr)))
          by_cases e : j = fr + i
          · rw [if_pos e, e, if_neg (by omega), if_neg (by omega), show fr + i - fr = i by omega, show fr + i - (L.1 - fr) - fr = i - (L.1 - fr) by omega, Nat.mod_eq_sub_mod hsi]
          · rw [if_neg e]
  refine ⟨(L.1 - fr) * t - (L.1 - fr) + 1, hgo ((L.1 - fr) * t - (L.1 - fr)) (L.1 - fr) w (by omega) (Nat.le_refl _) (zfP_refl _ _ _) (zLr_c h ?_ (fun j j1 j2 => ?_))⟩
  · show zmn 61 (fr + (L.1 - fr)) = L.1
    rw [zmn_r (by omega)]; omega
  · show (if j < fr then L.2 j else L.2 (fr + (j - fr) % (L.1 - fr))) = L.2 j
    by_cases e : j < fr
    · rw [if_pos e]
    · rw [if_neg e, Nat.mod_eq_of_lt (by omega), show fr + (j - fr) = j by omega]
theorem q1_readTimes {sg : Nat → Nat} {n b R W fr j : Nat} {nm : Nat → List Nat} {L : zRo} {w : zW} {k : Int32 → zW → Prop} (hsg : zSg sg n) (hb : b = 40 ∨ b = 80) (hR8 : R < 8) (hW : W ≤ 4) (hL : zRok W L) (hf : fr ≤ L.1) (h : zCI sg n b R W nm (j, L) w)
    (hok : ∀ v, zfI b R w v → (∀ p, gI v 5 p = gI w 5 p) → (zTak (zTT sg n) fr (j + 1, L)).1 = 0 → zCI sg n b R W nm (zTak (zTT sg n) fr (j + 1, L)).2 v → k 1 v) (herr : ∀ v, zfI b R w v → ¬ (zTak (zTT sg n) fr (j + 1, L)).1 = 0 → gI v 2 8 = Int32.ofNat (zTak (zTT sg n) fr (j + 1, L)).1 → k 0 v) : fX1_readTimes (Int32.ofNat fr) w k := by
  have hL61 := hL.1
  obtain ⟨h1, h2, h3⟩ := h
  have hr := zNe_r (zTT sg n) (j + 1) 1 21
  rw [fX1_readTimes]
  refine q10_nx hsg h1 (fun v1 f1 c1 => ?_)
  have hn1 := zCn_T hb hR8 h2 (zfI_T f1)
  have hl1 := zLr_T hb h3 f1
  refine q10_takeNumber (j := j + 1) (lo := 1) (H := 21) hsg c1 (by decide) (zhi_n (h := 20) (by decide)) (fun e v2 f2 c2 => ?_) (fun e v2 ev => ?_)
  · obtain ⟨a1, a2, a3⟩ := zNe_0 e
    have ez : zTak (zTT sg n) fr (j + 1, L) = (0, j + 1 + 1, zrep fr ((zTT sg n).nu (j + 1)) L) := if_pos e
    rw [ez] at hok
    have hn2 := zCn_T hb hR8 hn1 (zfI_T f2)
    have hl2 := zLr_T hb hl1 f2
    intro v3 e3
    rw [hl2.1, zi_sub hf] at e3
    rw [e3]
    refine q1_rep hb hR8 hn2 hL hW hf a2 (by omega) hl2 (fun v f hv => hok v (zfI_trans (zfI_trans (zfI_T f1) (zfI_T f2)) (zfI_P f)) (fun p => ?_) rfl ⟨zCt_P hb c2 f, zCn_T hb hR8 hn2 (zfI_P f), hv⟩)
    rw [f.1 5 p (by omega) (by omega), f2.1 5 p (by omega), f1.1 5 p (by omega)]
  · have ez : zTak (zTT sg n) fr (j + 1, L) = (zNe (zTT sg n) (j + 1) 1 21 + 16 * (zTT sg n).pl (j + 1), j + 1, L) := if_neg e
    rw [ez] at herr
    intro v3 e3
    have e5 : gI v2 4 5 = Int32.ofNat L.1 := by rw [ev, gI_sI_ne (by decide)]; exact hl1.1
    rw [e5, zi_sub hf] at e3
    rw [e3]
    refine ⟨1, ?_⟩
    rw [fX1_readTimes_L28]
    refine ⟨fun _ => ?_, fun q => absurd (zmul_neg ⟨L.1 - fr, by omega⟩) q⟩
    rw [fX1_readTimes_J77]
    intro v5 e5
    rw [e5.trans (if_pos rfl)]
    refine ⟨Or.inl rfl, herr v2 (zfI_trans (zfI_T f1) (by rw [ev]; exact zfI_8 _ _ _ _)) (fun q => ?_) (by rw [ev, gI_sI_eq])⟩
    have q' : zNe (zTT sg n) (j + 1) 1 21 + 16 * (zTT sg n).pl (j + 1) = 0 := q
    omega
/-- a named word, some times -/
theorem q1_puts {b R W o t : Nat} {nm : Nat → List Nat} {L : zRo} {w : zW} {k : Int32 → zW → Prop} (hb : b = 40 ∨ b = 80) (hR8 : R < 8) (hc : zCn b R W nm w) (hL : L.1 ≤ 61) (ht : 1 ≤ t) (ht2 : t ≤ 20) (h : zLr b R L w)
    (hk : ∀ v, zfP b R w v → zLr b R (zrep L.1 t (zput L o)) v → k 1 v) : ∃ n9, fX1_readNamed_L45 k n9 (Int32.ofNat o) (Int32.ofNat t) 0 w := by
  -- behind some puts
  have hstep : ∀ i, 1 ≤ i → (zput (zrep L.1 i (zput L o)) o).1 = (zrep L.1 (i + 1) (zput L o)).1 ∧ ∀ p, (zrep L.1 (i + 1) (zput L o)).2 p = (zput (zrep L.1 i (zput L o)) o).2 p ∨ 60 ≤ p ∨ (zput (zrep L.1 i (zput L o)) o).1 ≤ p := by
    intro i hi
    by_cases e : L.1 ≤ 60
    · have e1 : zput L o = (L.1 + 1, fun p => if p = L.1 then o else L.2 p) := if_pos e
      have er : ∀ y, zrep L.1 y (zput L o) = (zmn 61 (L.1 + y), fun p => if p < L.1 then (if p = L.1 then o else L.2 p) else o) := fun y => by
        rw [e1]
        show (zmn 61 (L.1 + (L.1 + 1 - L.1) * y), fun p => if p < L.1 then (if p = L.1 then o else L.2 p) else (if L.1 + (p - L.1) % (L.1 + 1 - L.1) = L.1 then o else L.2 (L.1 + (p - L.1) % (L.1 + 1 - L.1)))) = _
        rw [show L.1 + 1 - L.1 = 1 by omega, Nat.one_mul]
        refine congrArg (Prod.mk _) (funext fun p => ?_)
        rw [Nat.mod_one, Nat.add_zero, if_pos rfl]
      rw [er, er]
      by_cases e2 : L.1 + i ≤ 60
      · rw [zmn_r (show L.1 + i ≤ 61 by omega), zmn_r (show L.1 + (i + 1) ≤ 61 by omega)]
        have ep : zput (L.1 + i, fun p => if p < L.1 then (if p = L.1 then o else L.2 p) else o) o = (L.1 + i + 1, fun p => if p = L.1 + i then o else (if p < L.1 then (if p = L.1 then o else L.2 p) else o)) := if_pos e2
        rw [ep]
        refine ⟨rfl, fun p => ?_⟩
        show (if p < L.1 then (if p = L.1 then o else L.2 p) else o) = (if p = L.1 + i then o else (if p < L.1 then (if p = L.1 then o else L.2 p) else o)) ∨ _
        by_cases e3 : p = L.1 + i
        · rw [if_pos e3, if_neg (by omega)]; exact Or.inl rfl
        · rw [if_neg e3]; exact Or.inl rfl
      · rw [zmn_l (show 61 ≤ L.1 + i by omega), zmn_l (show 61 ≤ L.1 + (i + 1) by omega)]
        have ep : zput (61, fun p => if p < L.1 then (if p = L.1 then o else L.2 p) else o) o = (61, fun p => if p < L.1 then (if p = L.1 then o else L.2 p) else o) := if_neg (by omega)
        rw [ep]
        exact ⟨rfl, fun p => Or.inl rfl⟩
    · have e1 : zput L o = L := if_neg e
      have er : ∀ y, zrep L.1 y (zput L o) = (zmn 61 L.1, fun p => if p < L.1 then L.2 p else L.2 (L.1 + (p - L.1) % (L.1 - L.1))) := fun y => by
        rw [e1]
        show (zmn 61 (L.1 + (L.1 - L.1) * y), _) = _
        rw [Nat.sub_self, Nat.zero_mul, Nat.add_zero]
      have e61 : L.1 = 61 := by omega
      rw [er, er, zmn_l (by omega)]
      have ep : zput (61, fun p => if p < L.1 then L.2 p else L.2 (L.1 + (p - L.1) % (L.1 - L.1))) o = (61, fun p => if p < L.1 then L.2 p else L.2 (L.1 + (p - L.1) % (L.1 - L.1))) := if_neg (by omega)
      rw [ep]
      exact ⟨rfl, fun p => Or.inl rfl⟩
  have hone : (zput L o).1 = (zrep L.1 1 (zput L o)).1 ∧ ∀ p, p < (zput L o).1 → (zrep L.1 1 (zput L o)).2 p = (zput L o).2 p := by
    have hp := zput_le L o hL
    refine ⟨?_, fun p hp2 => ?_⟩
    · show _ = zmn 61 (L.1 + ((zput L o).1 - L.1) * 1)
      rw [Nat.mul_one, zmn_r (by omega)]; omega
    · show (if p < L.1 then (zput L o).2 p else (zput L o).2 (L.1 + (p - L.1) % ((zput L o).1 - L.1))) = _
      by_cases e : p < L.1
      · rw [if_pos e]
      · rw [if_neg e, Nat.mod_eq_of_lt (by omega), show L.1 + (p - L.1) = p by omega]
  have hgo : ∀ (d i : Nat) (v : zW), i + d = t → 1 ≤ i → zfP b R w v → zLr b R (zrep L.1 i (zput L o)) v → fX1_readNamed_L45 k (d + 1) (Int32.ofNat o) (Int32.ofNat t) (Int32.ofNat i) v := by
    intro d
    induction d with
    | zero =>
      intro i v hi h1 fv hv
      have e : i = t := by omega
      subst e
      rw [fX1_readNamed_L45]
      refine ⟨fun _ => ?_, fun q => absurd ((zi_le (by omega) (by omega)).mpr (Nat.le_refl _)) q⟩
      intro v6 e6
      rw [e6.trans (if_neg (zN1_ne (by omega)))]
      exact ⟨Or.inr rfl, hk v fv hv⟩
    | succ d ih =>
      intro i v hi h1 fv hv
      have h3 : gR v 4 3 = b := by rw [gR, fv.2]; exact hc.1
      have h7 : gI v b 7 = Int32.ofNat R := (fv.1 b 7 (by omega) (by omega)).trans hc.2.1
      rw [fX1_readNamed_L45]
      refine ⟨fun q => absurd ((zi_le (by omega) (by omega)).mp q) (by omega), fun _ => q1_put hb hR8 h3 h7 ((zmn_le _ _).1) hv (fun v2 f2 h2 => ?_)⟩
      rw [zl1, zi_add]
      obtain ⟨s1, s2⟩ := hstep i h1
      refine ih (i + 1) v2 (by omega) (by omega) (zfP_trans fv f2) (zLr_c h2 s1.symm (fun p p1 p2 => ?_))
      rcases s2 p with e | e | e
      · exact e
      · omega
      · omega
  refine ⟨t + 1, ?_⟩
  obtain ⟨t', rfl⟩ : ∃ t', t = t' + 1 := ⟨t - 1, by omega⟩
  rw [fX1_readNamed_L45]
  refine ⟨fun q => absurd ((zi_le (b := 0) (by omega) (by decide)).mp q) (by omega), fun _ => q1_put hb hR8 hc.1 hc.2.1 hL h (fun v2 f2 h2 => ?_)⟩
  have := hgo t' 1 v2 (by omega) (Nat.le_refl _) f2 (zLr_c h2 hone.1.symm (fun p _ p2 => hone.2 p p2))
  exact this
theorem q1_readNamed {sg : Nat → Nat} {n b R W : Nat} {nm : Nat → List Nat} {s : Nat × zRo} {w : zW} {k : Int32 → zW → Prop} (hsg : zSg sg n) (hb : b = 40 ∨ b = 80) (hR8 : R < 8) (hW : W ≤ 4) (hnm : zNmok W nm) (hL : zRok W s.2) (h : zCI sg n b R W nm s w)
    (hok : ∀ v, zfI b R w v → (∀ p, gI v 5 p = gI w 5 p) → (zNd (zTT sg n) nm W s).1 = 0 → zCI sg n b R W nm (zNd (zTT sg n) nm W s).2 v → k 1 v) (herr : ∀ v, zfI b R w v → ¬ (zNd (zTT sg n) nm W s).1 = 0 → gI v 2 8 = Int32.ofNat (zNd (zTT sg n) nm W s).1 → k 0 v) : fX1_readNamed w k := by
  have hL61 := hL.1
  obtain ⟨h1, h2, h3⟩ := h
  have h4 := zTT_kd4 sg n (s.1 + 1)
  have hr := zMe_r (zTT sg n) nm W s.1
  rw [fX1_readNamed, h2.1]
  refine ⟨by omega, q10_takeName hsg h1 hW h2.2.2.1 h2.2.2.2 hnm (fun e v1 f1 c1 => ⟨fun _ => ?_, fun q => ?_⟩) (fun e v1 ev => ⟨fun q => absurd rfl q, fun _ => ?_⟩)⟩
  · obtain ⟨m1, m2⟩ := zMe_0 e
    have hn1 := zCn_T hb hR8 h2 (zfI_T f1)
    have hl1 := zLr_T hb h3 f1
    have ez : zNd (zTT sg n) nm W s = (if (zTT sg n).kd (s.1 + 1) = 2 then zTak (zTT sg n) s.2.1 (s.1 + 1, zput s.2 (zIx nm W ((zTT sg n).nm s.1))) else (0, s.1 + 1, zput s.2 (zIx nm W ((zTT sg n).nm s.1)))) := if_pos e
    rw [ct_kd c1]
    refine ⟨fun q => ?_, fun q => ?_⟩
    · have e2 : ¬ (zTT sg n).kd (s.1 + 1) = 2 := fun y => q (by rw [y]; rfl)
      rw [ez, if_neg e2] at hok
      refine q1_puts (t := 1) hb hR8 hn1 hL61 (Nat.le_refl 1) (by decide) hl1 (fun v f hv => hok v (zfI_trans (zfI_T f1) (zfI_P f)) (fun p => ?_) rfl ⟨zCt_P hb c1 f, zCn_T hb hR8 hn1 (zfI_P f), zLr_c hv ?_ (fun p p1 p2 => ?_)⟩)
      · rw [f.1 5 p (by omega) (by omega), f1.1 5 p (by omega)]
      · have hp := zput_le s.2 (zIx nm W ((zTT sg n).nm s.1)) hL61
        show _ = zmn 61 (s.2.1 + ((zput s.2 (zIx nm W ((zTT sg n).nm s.1))).1 - s.2.1) * 1)
        rw [Nat.mul_one, zmn_r (by omega)]
        show (zput s.2 (zIx nm W ((zTT sg n).nm s.1))).1 = _
        omega
      · have hp := zput_le s.2 (zIx nm W ((zTT sg n).nm s.1)) hL61
        have p2' : p < zmn 61 (s.2.1 + ((zput s.2 (zIx nm W ((zTT sg n).nm s.1))).1 - s.2.1) * 1) := p2
        rw [Nat.mul_one, zmn_r (by omega)] at p2'
        show (zput s.2 (zIx nm W ((zTT sg n).nm s.1))).2 p = (if p < s.2.1 then (zput s.2 (zIx nm W ((zTT sg n).nm s.1))).2 p else (zput s.2 (zIx nm W ((zTT sg n).nm s.1))).2 (s.2.1 + (p - s.2.1) % ((zput s.2 (zIx nm W ((zTT sg n).nm s.1))).1 - s.2.1)))
        by_cases y : p < s.2.1
        · rw [if_pos y]
        · rw [if_neg y, Nat.mod_eq_of_lt (by omega), show s.2.1 + (p - s.2.1) = p by omega]
    · have e2 := (zi_eq (b := 2) (by omega) (by decide)).mp q
      have hr2 := zNe_r (zTT sg n) (s.1 + 1) 1 21
      rw [ez, if_pos e2] at hok herr
      refine q10_takeNumber (lo := 1) (H := 21) hsg c1 (by decide) (zhi_n (h := 20) (by decide)) (fun e3 v2 f2 c2 => ?_) (fun e3 v2 ev => ?_)
      · obtain ⟨a1, a2, a3⟩ := zNe_0 e3
        have ez2 : zTak (zTT sg n) s.2.1 (s.1 + 1, zput s.2 (zIx nm W ((zTT sg n).nm s.1))) = (0, s.1 + 1 + 1, zrep s.2.1 ((zTT sg n).nu (s.1 + 1)) (zput s.2 (zIx nm W ((zTT sg n).nm s.1)))) := if_pos e3
        rw [ez2] at hok
        have hn2 := zCn_T hb hR8 hn1 (zfI_T f2)
        have hl2 := zLr_T hb hl1 f2
        refine q1_puts hb hR8 hn2 hL61 a2 (by omega) hl2 (fun v f hv => hok v (zfI_trans (zfI_trans (zfI_T f1) (zfI_T f2)) (zfI_P f)) (fun p => ?_) rfl ⟨zCt_P hb c2 f, zCn_T hb hR8 hn2 (zfI_P f), hv⟩)
        rw [f.1 5 p (by omega) (by omega), f2.1 5 p (by omega), f1.1 5 p (by omega)]
      · have ez2 : zTak (zTT sg n) s.2.1 (s.1 + 1, zput s.2 (zIx nm W ((zTT sg n).nm s.1))) = (zNe (zTT sg n) (s.1 + 1) 1 21 + 16 * (zTT sg n).pl (s.1 + 1), s.1 + 1, zput s.2 (zIx nm W ((zTT sg n).nm s.1))) := if_neg e3
        rw [ez2] at herr
        refine ⟨1, ?_⟩
        rw [fX1_readNamed_L45]
        refine ⟨fun _ => ?_, fun y => absurd (by decide) y⟩
        intro v6 e6
        rw [e6.trans (if_pos rfl)]
        refine ⟨Or.inl rfl, herr v2 (zfI_trans (zfI_T f1) (by rw [ev]; exact zfI_8 _ _ _ _)) (fun y => ?_) (by rw [ev, gI_sI_eq])⟩
        have y' : zNe (zTT sg n) (s.1 + 1) 1 21 + 16 * (zTT sg n).pl (s.1 + 1) = 0 := y
        omega
  · exact absurd q (zN1_ne (by have := (zMe_0 e).2; omega))
  · have ez : zNd (zTT sg n) nm W s = (zMe (zTT sg n) nm W s.1 + 16 * (zTT sg n).pl s.1, s) := if_neg e
    rw [ez] at herr
    refine herr v1 (by rw [ev]; exact zfI_8 _ _ _ _) (fun y => ?_) (by rw [ev, gI_sI_eq])
    have y' : zMe (zTT sg n) nm W s.1 + 16 * (zTT sg n).pl s.1 = 0 := y
    omega

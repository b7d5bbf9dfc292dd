/-! Level 2: the call book -/
theorem zps_ge (sg : Nat → Nat) (n : Nat) : ∀ j, (∀ i, i < j → ¬ (zTT sg n).kd i = 0) → j ≤ zps sg n j := by
  intro j
  induction j with
  | zero => intro _; exact Nat.zero_le _
  | succ j ih =>
    intro h
    have h1 := ih (fun i hi => h i (by omega))
    have hk : ¬ zKD sg n (zST sg n (zps sg n j)) = 0 := h j (Nat.lt_succ_self j)
    have hq : ¬ n ≤ zST sg n (zps sg n j) := fun q => hk (by rw [zKD, if_pos q])
    have h2 := (zST_spec (sg := sg) (zps_le sg n j)).1
    have h3 := (zE_lt (sg := sg) (n := n) (q := zST sg n (zps sg n j)) (by omega)).1
    rw [zps, if_neg hq]
    omega
/-- how many tokens there are -/
theorem zTm_ex (sg : Nat → Nat) {n : Nat} (hn : n ≤ 1000) : ∃ m, zTm (zTT sg n) m := by
  have h : ∀ N, (∃ m, m < N ∧ (zTT sg n).kd m = 0 ∧ ∀ j, j < m → ¬ (zTT sg n).kd j = 0) ∨ ∀ j, j < N → ¬ (zTT sg n).kd j = 0 := by
    intro N
    induction N with
    | zero => exact Or.inr (fun j hj => absurd hj (Nat.not_lt_zero j))
    | succ N ih =>
      rcases ih with ⟨m, m1, m2, m3⟩ | ih
      · exact Or.inl ⟨m, by omega, m2, m3⟩
      · by_cases e : (zTT sg n).kd N = 0
        · exact Or.inl ⟨N, Nat.lt_succ_self N, e, ih⟩
        · refine Or.inr (fun j hj => ?_)
          by_cases e2 : j = N
          · rw [e2]; exact e
          · exact ih j (by omega)
  rcases h (n + 1) with ⟨m, m1, m2, m3⟩ | h
  · exact ⟨m, by omega, m2, m3⟩
  · have h1 := zps_ge sg n (n + 1) h
    have h2 := zps_le sg n (n + 1)
    omega
/-- what a faulty book leaves of the reference -/
def zfE (w v : zW) : Prop := (∀ a c, ¬ (a = 200 ∧ (c = 0 ∨ c = 2 ∨ c = 3 ∨ c = 7 ∨ c = 8 ∨ c = 13 ∨ c = 16)) → a ≠ 204 → a ≠ 205 → ¬ (a = 210 ∧ 30 ≤ c) → ¬ (a = 211 ∧ 480 ≤ c) → ¬ (a = 212 ∧ 1100 ≤ c) → a ≠ 215 → gI v a c = gI w a c) ∧ (∀ a c, a ≠ 206 → ¬ (a = 214 ∧ 4 ≤ c) → gL v a c = gL w a c) ∧ (∀ a c, gR v a c = gR w a c)
theorem q12_stands {w : zW} {k : zW → Prop} (hk : ∀ v, (∀ a c, ¬ (a = 210 ∧ 30 ≤ c) → gI v a c = gI w a c) → v.2 = w.2 → (∀ c, c < 30 → c ≠ 3 → (c < 8 ∨ 16 ≤ c) → gI v 210 (30 + c) = Int32.ofNat 0) → gI v 210 33 = zN1 → (∀ r, r < 8 → gI v 210 (38 + r) = zN1) → k v) : fX12_standsAsAlways 30 w k := by
  have hL34 : ∀ (d i : Nat) (v : zW), i + d = 8 → (∀ a c, ¬ (a = 210 ∧ 30 ≤ c) → gI v a c = gI w a c) → v.2 = w.2 → (∀ c, c < 30 → c ≠ 3 → (c < 8 ∨ 16 ≤ c) → gI v 210 (30 + c) = Int32.ofNat 0) → gI v 210 33 = zN1 → (∀ r, r < i → gI v 210 (38 + r) = zN1) → fX12_standsAsAlways_L34 k (d + 1) (Int32.ofNat 30) (Int32.ofNat i) v := by
    intro d
    induction d with
    | zero =>
      intro i v hi fv f2 f0 f3 f8
      have ei : i = 8 := by omega
      subst ei
      rw [fX12_standsAsAlways_L34]
      exact ⟨fun _ => hk v fv f2 f0 f3 f8, fun q => absurd (by decide) q⟩
    | succ d ih =>
      intro i v hi fv f2 f0 f3 f8
      rw [fX12_standsAsAlways_L34]
      try dsimp only
      rw [zl8, zi_add, zi_add, zi_nat (show 30 + 8 + i < 2 ^ 31 by omega)]
      refine ⟨fun q => absurd ((zi_le (by omega) (by omega)).mp q) (by omega), fun _ => ⟨zi_in (by omega) (by omega), ?_⟩⟩
      intro w6 e6
      rw [zl1, zi_add]
      refine ih (i + 1) w6 (by omega) (fun a c q => by rw [e6, gI_sI, if_neg (by omega)]; exact fv a c q) (by rw [e6]; exact f2) (fun c c1 c2 c3 => by rw [e6, gI_sI_ne2 (by omega)]; exact f0 c c1 c2 c3) (by rw [e6, gI_sI_ne2 (by omega)]; exact f3) (fun r hr => ?_)
      rw [e6]
      by_cases e : r = i
      · rw [e, show 38 + i = 30 + 8 + i by omega, gI_sI_eq]; rfl
      · rw [gI_sI_ne2 (by omega)]; exact f8 r (by omega)
  have hL2 : ∀ (d i : Nat) (v : zW), i + d = 30 → (∀ a c, ¬ (a = 210 ∧ 30 ≤ c) → gI v a c = gI w a c) → v.2 = w.2 → (∀ c, c < i → gI v 210 (30 + c) = Int32.ofNat 0) → fX12_standsAsAlways_L2 k (d + 1) (Int32.ofNat 30) (Int32.ofNat i) v := by
    intro d
    induction d with
    | zero =>
      intro i v hi fv f2 f0
      have ei : i = 30 := by omega
      subst ei
      rw [fX12_standsAsAlways_L2]
      try dsimp only
      rw [zl3, zi_add, zi_nat (show 30 + 3 < 2 ^ 31 by omega)]
      refine ⟨fun _ => ⟨zi_in (by omega) (by omega), ?_⟩, fun q => absurd (by decide) q⟩
      intro w3 e3
      exact ⟨8 + 1, hL34 8 0 w3 rfl (fun a c q => by rw [e3, gI_sI, if_neg (by omega)]; exact fv a c q) (by rw [e3]; exact f2) (fun c c1 c2 c3 => by rw [e3, gI_sI_ne2 (by omega)]; exact f0 c c1) (by rw [e3, gI_sI_eq]; rfl) (fun r hr => absurd hr (Nat.not_lt_zero r))⟩
    | succ d ih =>
      intro i v hi fv f2 f0
      rw [fX12_standsAsAlways_L2]
      try dsimp only
      rw [zi_add, zi_nat (show 30 + i < 2 ^ 31 by omega)]
      refine ⟨fun q => absurd ((zi_le (a := 30) (by decide) (by omega)).mp q) (by omega), fun _ => ⟨zi_in (by omega) (by omega), ?_⟩⟩
      intro w8 e8
      rw [zl1, zi_add]
      refine ih (i + 1) w8 (by omega) (fun a c q => by rw [e8, gI_sI, if_neg (by omega)]; exact fv a c q) (by rw [e8]; exact f2) (fun c c1 => ?_)
      rw [e8]
      by_cases e : c = i
      · rw [e, gI_sI_eq]; rfl
      · rw [gI_sI_ne2 (by omega)]; exact f0 c (by omega)
  rw [fX12_standsAsAlways]
  exact ⟨30 + 1, hL2 30 0 w rfl (fun _ _ _ => rfl) rfl (fun c hc => absurd hc (Nat.not_lt_zero c))⟩
theorem q12_book {sg : Nat → Nat} {n : Nat} {w : zW} {k : Int32 → zW → Prop} (hsg : zSg sg n) (h2 : gI w 200 2 = Int32.ofNat n) (h1 : ∀ i, i < n → gI w 201 i = Int32.ofNat (sg i)) (hwd : zWd w)
    (hok : ∀ v, (∀ a c, a < 200 → gI v a c = gI w a c) → (∀ a c, a < 200 ∨ a = 209 → gL v a c = gL w a c) → (∀ a c, gR v a c = gR w a c) → (zBook sg n).1 = 0 → zXok (zBook sg n).2.2 → zRB (zFin (zBook sg n).2.2) v → zNm37 0 (bW (zBook sg n).2.2.1) (zBook sg n).2.2.2.1 v → (∀ i, i < 12 → gI v 220 i = zbeg (zFin (zBook sg n).2.2) i) → gI v 217 0 = Int32.ofNat 0 → gI v 200 21 = Int32.ofNat 0 → (∀ m, m < 4 → gI v 222 m = Int32.ofNat 0) → gI v 200 2 = Int32.ofNat 0 → k 0 v)
    (herr : ∀ v, zfE w v → ¬ (zBook sg n).1 = 0 → gI v 200 2 = Int32.ofNat 0 → k (Int32.ofNat (zBook sg n).1) v) : fX12_book w k := by
  rw [fX12_book]
  intro w1 e1
  refine q12_cutAll hsg (by rw [e1, gI_sI_ne2 (by decide)]; exact h2) (fun i hi => by rw [e1, gI_sI_ne (by decide)]; exact h1 i hi) (fun w2 m i2 l2 r2 z2 z7 z8 tb => ?_)
  have hm : zTm (zTT sg n) m := ⟨tb.1, tb.2.1, tb.2.2.1⟩
  intro w3 e3
  refine q12_stands (fun w4 i4 s4 a0 a3 a8 => ?_)
  have f4 : zfE w w4 := by
    refine ⟨fun a c q1 q2 q3 q4 q5 q6 q7 => ?_, fun a c q1 _ => ?_, fun a c => ?_⟩
    · rw [i4 a c q4, e3, gI_sI, if_neg (by omega), i2 a c q2 q3 (by omega), e1, gI_sI, if_neg (by omega)]
    · rw [gL, s4, e3]; exact (l2 a c q1).trans (by rw [e1]; rfl)
    · rw [gR, s4, e3]; exact (r2 a c).trans (by rw [e1]; rfl)
  have g2 : gI w4 200 2 = Int32.ofNat 0 := by rw [i4 _ _ (by omega), e3, gI_sI_ne2 (by decide)]; exact z2
  have k4 : zfK w2 w4 := ⟨fun c => ⟨by rw [i4 _ _ (by omega), e3, gI_sI_ne (by decide)], by rw [i4 _ _ (by omega), e3, gI_sI_ne (by decide)]⟩, fun c => ⟨by rw [gL, s4, e3]; rfl, by rw [gL, s4, e3]; rfl⟩⟩
  have rt4 : zRtk sg n m 0 w4 := by
    refine ⟨zTb_K tb k4, fun i hi => ?_, Nat.zero_le _, ?_, ?_⟩
    · rw [f4.2.1 _ _ (by decide) (by omega)]; exact hwd i hi
    · rw [i4 _ _ (by omega), e3, gI_sI_ne2 (by decide)]; exact z8
    · rw [i4 _ _ (by omega), e3, gI_sI_ne2 (by decide)]; exact z7
  have rx4 : zRX zX0 w4 := by
    refine ⟨⟨a0 0 (by decide) (by decide) (by omega), a0 1 (by decide) (by decide) (by omega), a0 2 (by decide) (by decide) (by omega)⟩, a3, a0 24 (by decide) (by decide) (by omega), fun o ho => absurd ho (Nat.not_lt_zero o), fun r hr => a8 r hr, fun r hr => absurd hr (Nat.not_lt_zero r), fun r i hr => absurd hr (Nat.not_lt_zero r), fun o ho => absurd ho (Nat.not_lt_zero o), fun _ => ?_, fun n' g' q => (nomatch (show none = some (n', g') from q))⟩
    rw [i4 _ _ (by omega), e3, gI_sI_eq]; rfl
  obtain ⟨b1, b2⟩ := zBl_ok hsg.1 hm 1001 (0, zX0) (Nat.zero_le _) zXok_0
  have fE : ∀ v, zfG w4 v → zfE w v := fun v fv => ⟨fun a c q1 q2 q3 q4 q5 q6 q7 => by rw [fv.1 a c (by omega) q4 q5 q6 q7]; exact f4.1 a c q1 q2 q3 q4 q5 q6 q7, fun a c q1 q2 => by rw [fv.2.1 a c q2]; exact f4.2.1 a c q1 q2, fun a c => (fv.2.2 a c).trans (f4.2.2 a c)⟩
  refine ⟨1001 + 1, q12_bookL (R := zBook sg n) hsg hm (fun v fv e0 rtv rxv => ?_) (fun v fv e0 hf => ?_) 1001 (0, zX0) w4 (by have := hm.1; show m < 0 + 1001; omega) (Nat.zero_le _) zXok_0 (zfG_refl _) rt4 rx4 rfl⟩
  · have hXok : zXok (zBook sg n).2.2 := (b1 e0).2
    rw [fX12_book_J52]
    refine ⟨fun _ => q12_over hXok rxv (fun u iu lu ru h1u => ?_), fun q => absurd (rt_ne rtv) q⟩
    refine q12_begins hXok h1u (fun u2 f2 rb nm s220 s217 s21 s222 => ?_)
    have fv' := fE v fv
    refine hok u2 (fun a c q => ?_) (fun a c q => ?_) (fun a c => ?_) e0 hXok rb nm s220 s217 s21 s222 ?_
    · rw [f2.1 a c (by omega) (by omega) (by omega) (by omega) (by omega) (by omega) (by omega) (by omega) (by omega), iu a c (by omega) (by omega) (by omega)]
      exact fv'.1 a c (by omega) (by omega) (by omega) (by omega) (by omega) (by omega) (by omega)
    · rw [gL, f2.2]
      exact (lu a c (by omega)).trans (fv'.2.1 a c (by omega) (by omega))
    · rw [gR, f2.2]
      exact (ru a c).trans (fv'.2.2 a c)
    · rw [f2.1 _ _ (by omega) (by omega) (by omega) (by omega) (by omega) (by omega) (by omega) (by omega) (by omega), iu _ _ (by omega) (by omega) (by omega), fv.1 _ _ (by omega) (by omega) (by omega) (by omega) (by omega)]
      exact g2
  · refine herr v (fE v fv) e0 ?_
    rw [fv.1 _ _ (by omega) (by omega) (by omega) (by omega) (by omega)]; exact g2
/-- a call that empties what was fed, and changes a book that isn't told and notes that aren't -/
theorem zInv_tape {B : zBk} {S : Nat → Int32} {N : zNt} {b nn : Nat} {w v : zW} (h : zInv B S N b nn w) (hf : ∀ a c, zkeep a c → a ≠ 2 → a ≠ 3 → a ≠ 201 → ¬ (a = 200 ∧ c = 2) → (b ≤ a ∧ a ≤ b + 30 ∨ nn ≤ a ∧ a < nn + 10 ∨ a < 40 ∨ 140 ≤ a) → gI v a c = gI w a c)
    (hL : ∀ a c, (a = 214 ∧ c < 4) ∨ a = b + 1 ∨ a = 209 → gL v a c = gL w a c) (hR : ∀ a c, a = 1 ∨ a = 24 ∨ a = 140 → gR v a c = gR w a c) (h2 : gI v 200 2 = Int32.ofNat 0) (h1 : gI v 2 1 = Int32.ofNat 0) : zInv B S N b nn v := by
  obtain ⟨hwf, hrb, hcb, hha, hpa, hma, _, hna, hre, hsh, hsl, hno, hbr⟩ := h
  have hb := hre.1
  have hnn := hre.2.2.2.1
  have hg : ∀ a c, zkeep a c → a ≠ 2 → a ≠ 3 → a ≠ 201 → ¬ (a = 200 ∧ c = 2) → (b ≤ a ∧ a ≤ b + 30 ∨ nn ≤ a ∧ a < nn + 10 ∨ a < 40 ∨ 140 ≤ a) → gI v a c = gI w a c := hf
  have hW4 := wf_W hwf
  refine ⟨hwf, zRB_of hrb (fun k hk => hg 210 k (by unfold zkeep; omega) (by omega) (by omega) (by omega) (by omega) (by omega)) (fun k hk => hg 211 k (by unfold zkeep; omega) (by omega) (by omega) (by omega) (by omega) (by omega)) (fun k => hg 223 k (by unfold zkeep; omega) (by omega) (by omega) (by omega) (by omega) (by omega)) (fun k => hg 224 k (by unfold zkeep; omega) (by omega) (by omega) (by omega) (by omega) (by omega)) (fun k => hg 225 k (by unfold zkeep; omega) (by omega) (by omega) (by omega) (by omega) (by omega)) hwf,
    zCB_of hcb (fun a k q1 q2 => hg a k (by unfold zkeep; omega) (by omega) (by omega) (by omega) (by omega) (by omega)) hwf, ⟨hha.1, fun i hi => by rw [hg 220 i (by unfold zkeep; omega) (by omega) (by omega) (by omega) (by omega) (by omega)]; exact hha.2.1 i hi, fun i hi => by rw [hg (9 + 1) i (by unfold zkeep; omega) (by omega) (by omega) (by omega) (by omega) (by omega)]; exact hha.2.2 i hi⟩, ?_, ?_, ⟨0, fun _ => 0, Nat.zero_le _, h2, h1, fun i hi => absurd hi (Nat.not_lt_zero i)⟩, zNames_of hna (fun o ho => ⟨hL 214 o (by omega), hL (b + 1) o (by omega)⟩) (fun i => hL 209 i (by omega)), zRefs_of hre (fun k hk => hR 1 k (by omega)), ?_, ?_, ?_, ?_⟩
  · obtain ⟨n, P, p1, p2, p3, p4, p5, p6, p7⟩ := hpa
    refine ⟨n, P, p1, by rw [hg 200 21 (by unfold zkeep; omega) (by omega) (by omega) (by omega) (by omega) (by omega)]; exact p2, by rw [hg 21 0 (by unfold zkeep; omega) (by omega) (by omega) (by omega) (by omega) (by omega)]; exact p3, fun j i hj hi => by rw [hg 220 _ (by unfold zkeep; omega) (by omega) (by omega) (by omega) (by omega) (by omega)]; exact p4 j i hj hi, p5, p6, fun j hj => ?_⟩
    rw [hg 22 j (by unfold zkeep; omega) (by omega) (by omega) (by omega) (by omega) (by omega), hg 23 j (by unfold zkeep; omega) (by omega) (by omega) (by omega) (by omega) (by omega)]
    exact p7 j hj
  · intro m hm
    obtain ⟨f, q1, q2, q3⟩ := hma m hm
    refine ⟨f, by rw [hg 222 m (by unfold zkeep; omega) (by omega) (by omega) (by omega) (by omega) (by omega)]; exact q1, by rw [hg 20 m (by unfold zkeep; omega) (by omega) (by omega) (by omega) (by omega) (by omega)]; exact q2, fun e => ?_⟩
    obtain ⟨Q, z1, z2, z3⟩ := q3 e
    exact ⟨Q, z1, fun i hi => by rw [hg 220 _ (by unfold zkeep; omega) (by omega) (by omega) (by omega) (by omega) (by omega)]; exact z2 i hi, fun i hi => by rw [hg _ i (by unfold zkeep; omega) (by omega) (by omega) (by omega) (by omega) (by omega)]; exact z3 i hi⟩
  · obtain ⟨big, bs, hs, h1, h2, h3, h4, h5, h6, h7⟩ := hsh
    have e24 : ∀ c, gI v 24 c = gI w 24 c := fun c => hg 24 c (by unfold zkeep; omega) (by omega) (by omega) (by omega) (by omega) (by omega)
    have e0 : ∀ c, gI v 0 c = gI w 0 c := fun c => hg 0 c (by unfold zkeep; omega) (by omega) (by omega) (by omega) (by omega) (by omega)
    have r24 : ∀ c, gR v 24 c = gR w 24 c := fun c => hR 24 c (by omega)
    have hbig := zBig_is h5
    refine ⟨big, bs, hs, h1, h2, by rw [e24]; exact h3, by rw [e24]; exact h4, zBig_of h5 (fun c _ => r24 c) (fun c _ => e0 c), fun e => ?_, fun e => ?_⟩
    · obtain ⟨q1, q2, q3, q4, q5, q6⟩ := h6 e
      exact ⟨by rw [r24]; exact q1, q2, by rw [e24]; exact q3, by rw [e24]; exact q4, fun i hi => by rw [hg big i (by unfold zkeep; omega) (by omega) (by omega) (by omega) (by omega) (by omega)]; exact q5 i hi, fun i hi => by rw [hg (big + 2) i (by unfold zkeep; omega) (by omega) (by omega) (by omega) (by omega) (by omega)]; exact q6 i hi⟩
    · obtain ⟨q1, q2, q3⟩ := h7 e
      exact ⟨q1, by rw [e24]; exact q2, fun i hi => by rw [hg (big + 1) i (by unfold zkeep; omega) (by omega) (by omega) (by omega) (by omega) (by omega)]; exact q3 i hi⟩
  · obtain ⟨st, s1, s2, s3⟩ := hsl
    have e31 : ∀ c, gI v 31 c = gI w 31 c := fun c => hg 31 c (by unfold zkeep; omega) (by omega) (by omega) (by omega) (by omega) (by omega)
    exact ⟨st, s1, by rw [e31]; exact s2, fun e => by rw [e31, e31, e31, e31]; exact s3 e⟩
  · have h40 := hno.1.1
    have e217 : ∀ c, c < 165 → gI v 217 c = gI w 217 c := fun c hc => hg 217 c (by unfold zkeep; omega) (by omega) (by omega) (by omega) (by omega) (by omega)
    have enn : ∀ a c, nn ≤ a → a < nn + 10 → gI v a c = gI w a c := fun a c q1 q2 => hg a c (by unfold zkeep; omega) (by omega) (by omega) (by omega) (by omega) (by omega)
    obtain ⟨z1, z2, z3, z4, z5, st, z6, z7, z8⟩ := hno
    refine ⟨z1, by rw [e217 _ (by omega)]; exact z2, by rw [enn _ _ (by omega) (by omega)]; exact z3, fun i hi => ?_, fun i hi => ?_, st, z6, by rw [enn _ _ (by omega) (by omega)]; exact z7, fun e => ?_⟩
    · rw [e217 _ (by omega), e217 _ (by omega), e217 _ (by omega), e217 _ (by omega)]
      exact z4 i hi
    · rw [enn _ _ (by omega) (by omega), enn _ _ (by omega) (by omega), enn _ _ (by omega) (by omega)]
      exact z5 i hi
    · rw [enn _ _ (by omega) (by omega), enn _ _ (by omega) (by omega), enn _ _ (by omega) (by omega)]
      exact z8 e
  · refine ⟨fun r hr => by rw [hg (b + 30) r (by unfold zkeep; omega) (by omega) (by omega) (by omega) (by omega) (by omega)]; exact hbr.1 r hr, ?_⟩
    rw [hR 1 13 (by omega), hR 140 0 (by omega), hR 140 1 (by omega), hg 0 140 (by unfold zkeep; omega) (by omega) (by omega) (by omega) (by omega) (by omega), hg 0 141 (by unfold zkeep; omega) (by omega) (by omega) (by omega) (by omega) (by omega), hg 0 142 (by unfold zkeep; omega) (by omega) (by omega) (by omega) (by omega) (by omega)]
    exact hbr.2
theorem zSg_of {w : zW} (h : zTape w) : ∃ (sg : Nat → Nat) (n : Nat), zSg sg n ∧ gI w 200 2 = Int32.ofNat n ∧ gI w 2 1 = Int32.ofNat n ∧ (∀ i, i < n → gI w 201 i = Int32.ofNat (sg i)) ∧ (∀ i, i < n → gI w 3 i = Int32.ofNat (sg i)) := by
  obtain ⟨n, t, h1, h2, h3, h4⟩ := h
  exact ⟨t, n, ⟨h1, fun i hi => by have := (h4 i hi).1; omega⟩, h2, h3, fun i hi => (h4 i hi).2.1, fun i hi => (h4 i hi).2.2⟩
theorem c_book {B : zBk} {S : Nat → Int32} {N : zNt} {b nn : Nat} {w : zW} {k k0 : zW → Prop} (h : zInv B S N b nn w) (hk : ∀ B' S' N' b' v, zInv B' S' N' b' nn v → zfl w v → k v) : fX11_book w (fun r1 w1 => fX12_book w1 (fun r2 w2 => (r1 = r2 → k w2) ∧ (¬ r1 = r2 → k0 w2))) := by
  obtain ⟨sg, n, hsg, t2, t1, t201, t3⟩ := zSg_of (iv_ta h)
  obtain ⟨m, hm⟩ := zTm_ex sg hsg.1
  have hre := iv_re h
  have hb := hre.1
  have hnn := hre.2.2.2.1
  have hna := iv_na h
  obtain ⟨c, hc⟩ : ∃ c, c = 120 - b := ⟨_, rfl⟩
  have hc2 : c = 40 ∨ c = 80 := by omega
  have r10 : gR w 1 10 = c := by rw [hc]; exact hre.2.2.1
  rw [fX11_book, r10]
  refine ⟨by omega, q1_read (b := c) hsg hm hc2 t1 t3 (fun v fv e0 cx => ?_) (fun v fv e0 => ?_)⟩
  · have hXok : zXok (zBook sg n).2.2 := ((zBl_ok hsg.1 hm 1001 (0, zX0) (Nat.zero_le _) zXok_0).1 e0).2
    refine q1_made hc2 hXok cx (fun v2 i2 s2 cb => ?_)
    have R2 : ∀ a x, ¬ (a = 4 ∧ x = 3) → gR v2 a x = gR w a x := fun a x q => by rw [gR, s2]; exact (fv.2.2 a x).trans (by rw [gR_sR, if_neg q])
    have L2 : ∀ a x, ¬ (a = 2 ∧ x = 7) → a ≠ c + 1 → gL v2 a x = gL w a x := fun a x q1 q2 => by rw [gL, s2]; exact (fv.2.1 a x q1 q2).trans rfl
    have I2 : ∀ a x, ¬ (a = 2 ∧ 2 ≤ x) → ¬ (a = 4 ∧ (x = 4 ∨ x = 5)) → a ≠ 5 → ¬ (a = 6 ∧ x = 3) → a ≠ 7 → a ≠ 8 → (a < c ∨ c + 30 < a) → gI v2 a x = gI w a x := fun a x q1 q2 q3 q4 q5 q6 q7 => by rw [i2 a x q6 (by omega)]; exact fv.1 a x q1 q2 q3 q4 q5 q7
    intro w3 e3
    refine ⟨fun _ => ?_, fun q => absurd rfl q⟩
    have r39 : gR w3 1 9 = b := by rw [e3, gR_sI, R2 _ _ (by omega)]; exact hre.2.1
    have r310 : gR w3 1 10 = c := by rw [e3, gR_sI, R2 _ _ (by omega)]; exact r10
    rw [r39, r310]
    refine ⟨by omega, by omega, ?_⟩
    intro w7 e7 w8 e8
    have r811 : gR w8 1 11 = nn := by rw [e8, gR_sR_ne2 (by decide), e7, gR_sR_ne2 (by decide), e3, gR_sI, R2 _ _ (by omega)]; exact hre.2.2.2.2.1
    rw [r811, fX5_clear]
    refine ⟨by omega, ?_⟩
    intro wa ea wb eb
    have r9 : gR wb 1 9 = c := by rw [eb, gR_sI, ea, gR_sI, e8, gR_sR_ne2 (by decide), e7, gR_sR_eq]
    rw [r9, fX3_begin]
    refine ⟨by omega, q_fill (by decide) ⟨by decide, by decide, by decide, by decide, by decide, ?_⟩⟩
    intro wc ec w13 e13
    -- what is held here
    have I13 : ∀ a x, ¬ (a = 2 ∧ 1 ≤ x) → ¬ (a = 4 ∧ (x = 4 ∨ x = 5)) → a ≠ 5 → ¬ (a = 6 ∧ x = 3) → a ≠ 7 → a ≠ 8 → a ≠ 10 → ¬ (a = 21 ∧ x = 0) → ¬ (a = nn ∧ x ≤ 1) → gI w13 a x = gI v2 a x := fun a x q1 q2 q3 q4 q5 q6 q7 q8 q9 => by
      rw [e13, gI_sI, if_neg q8, ec, gI_cI, if_neg (by omega), gI_aI_ne (by omega), eb, gI_sI, if_neg (by omega), ea, gI_sI, if_neg (by omega), e8, gI_sR, e7, gI_sR, e3, gI_sI, if_neg (by omega)]
    have hn0 : gI w13 nn 0 = Int32.ofNat 0 ∧ gI w13 nn 1 = Int32.ofNat 1 := by
      constructor
      · rw [e13, gI_sI_ne (by omega), ec, gI_cI, if_neg (by omega), gI_aI_ne (by omega), eb, gI_sI_ne2 (by decide), ea, gI_sI_eq]; rfl
      · rw [e13, gI_sI_ne (by omega), ec, gI_cI, if_neg (by omega), gI_aI_ne (by omega), eb, gI_sI_eq]; rfl
    have h210 : gI w13 2 1 = Int32.ofNat 0 := by
      rw [e13, gI_sI_ne (by omega), ec, gI_cI, if_neg (by omega), gI_aI_ne (by omega), eb, gI_sI_ne (by omega), ea, gI_sI_ne (by omega), e8, gI_sR, e7, gI_sR, e3, gI_sI_eq]; rfl
    have hheld : ∀ i, i < 12 → gI w13 10 i = zbeg (zFin (zBook sg n).2.2) i := by
      intro i hi
      rw [e13, gI_sI_ne (by decide), ec, gI_cI]
      unfold zbeg
      by_cases q : i < 4
      · rw [if_neg (fun z => by have := z.2.1; have e4 : (4 : Int32).toNatClampNeg = 4 := rfl; omega), gI_aI_eq, if_pos (show i < zln (9 + 1) from hi), if_pos q]
        rfl
      · rw [if_neg q]
        refine (if_pos ⟨rfl, show (4 : Int32).toNatClampNeg ≤ i from by show 4 ≤ i; omega, show i < (4 : Int32).toNatClampNeg + (8 : Int32).toNatClampNeg from by show i < 4 + 8; omega⟩).trans ?_
        rw [gI_aI_ne (by omega), show (0 : Int32).toNatClampNeg + (i - (4 : Int32).toNatClampNeg) = i - 4 from by show 0 + (i - 4) = i - 4; omega, eb, gI_sI_ne (by omega), ea, gI_sI_ne (by omega), e8, gI_sR, e7, gI_sR, e3, gI_sI_ne (by omega)]
        exact cb_Ct cb (by omega)
    have h21 : gI w13 21 0 = Int32.ofNat 0 := by rw [e13, gI_sI_eq]; rfl
    have L13 : ∀ a x, gL w13 a x = gL v2 a x := fun a x => by rw [e13, gL_sI, ec, show ∀ u, gL (cI u (c + 29) (0 : Int32).toNatClampNeg (9 + 1) (4 : Int32).toNatClampNeg (8 : Int32).toNatClampNeg) a x = gL u a x from fun _ => rfl, gL_aI, eb, gL_sI, ea, gL_sI, e8, gL_sR, e7, gL_sR, e3, gL_sI]
    have R13 : ∀ a x, ¬ (a = 1 ∧ (x = 9 ∨ x = 10)) → gR w13 a x = gR v2 a x := fun a x q => by rw [e13, gR_sI, ec, show ∀ u, gR (cI u (c + 29) (0 : Int32).toNatClampNeg (9 + 1) (4 : Int32).toNatClampNeg (8 : Int32).toNatClampNeg) a x = gR u a x from fun _ => rfl, gR_aI, eb, gR_sI, ea, gR_sI, e8, gR_sR, if_neg (by omega), e7, gR_sR, if_neg (by omega), e3, gR_sI]
    have R13b : gR w13 1 9 = c ∧ gR w13 1 10 = b := by
      constructor
      · rw [e13, gR_sI, ec, show ∀ u, gR (cI u (c + 29) (0 : Int32).toNatClampNeg (9 + 1) (4 : Int32).toNatClampNeg (8 : Int32).toNatClampNeg) 1 9 = gR u 1 9 from fun _ => rfl, gR_aI]; exact r9
      · rw [e13, gR_sI, ec, show ∀ u, gR (cI u (c + 29) (0 : Int32).toNatClampNeg (9 + 1) (4 : Int32).toNatClampNeg (8 : Int32).toNatClampNeg) 1 10 = gR u 1 10 from fun _ => rfl, gR_aI, eb, gR_sI, ea, gR_sI, e8, gR_sR_eq]
    clear e13 ec eb ea
    have hL72 : ∀ (d i : Nat) (u : zW), i + d = 4 → (∀ a x, a ≠ 20 → gI u a x = gI w13 a x) → u.2 = w13.2 → (∀ q, q < i → gI u 20 q = Int32.ofNat 0) → fX11_book_L72 (fun r1 w1 => fX12_book w1 (fun r2 w2 => (r1 = r2 → k w2) ∧ (¬ r1 = r2 → k0 w2))) (d + 1) (Int32.ofNat i) u := by
      intro d
      induction d with
      | zero =>
        intro i u hi iu su u20
        have ei : i = 4 := by omega
        subst ei
        rw [fX11_book_L72]
        refine ⟨fun _ => ?_, fun q => absurd (by decide) q⟩
        intro w15 e15 w16 e16 w17 e17
        have I17 : ∀ a x, a ≠ 20 → ¬ (a = 24 ∧ (x = 0 ∨ x = 1)) → ¬ (a = 31 ∧ x = 0) → gI w17 a x = gI w13 a x := fun a x q1 q2 q3 => by rw [e17, gI_sI, if_neg q3, e16, gI_sI, if_neg (by omega), e15, gI_sI, if_neg (by omega)]; exact iu a x q1
        have s17 : w17.2 = w13.2 := by rw [e17, e16, e15]; exact su
        have g24 : gI w17 24 0 = Int32.ofNat 1 ∧ gI w17 24 1 = Int32.ofNat 1 ∧ gI w17 31 0 = Int32.ofNat 1 := by
          refine ⟨?_, ?_, ?_⟩
          · rw [e17, gI_sI_ne (by decide), e16, gI_sI_ne2 (by decide), e15, gI_sI_eq]; rfl
          · rw [e17, gI_sI_ne (by decide), e16, gI_sI_eq]; rfl
          · rw [e17, gI_sI_eq]; rfl
        have g20 : ∀ q, q < 4 → gI w17 20 q = Int32.ofNat 0 := fun q hq => by rw [e17, gI_sI_ne (by decide), e16, gI_sI_ne (by decide), e15, gI_sI_ne (by decide)]; exact u20 q hq
        have IV : ∀ a x, 10 < a → a ≠ 20 → a ≠ 21 → ¬ (a = 24 ∧ (x = 0 ∨ x = 1)) → ¬ (a = 31 ∧ x = 0) → ¬ (a = nn ∧ x ≤ 1) → gI w17 a x = gI v2 a x := fun a x q1 q2 q3 q4 q5 q6 => by rw [I17 a x q2 q4 q5]; exact I13 a x (by omega) (by omega) (by omega) (by omega) (by omega) (by omega) (by omega) (by omega) q6
        have IW : ∀ a x, 10 < a → a ≠ 20 → a ≠ 21 → ¬ (a = 24 ∧ (x = 0 ∨ x = 1)) → ¬ (a = 31 ∧ x = 0) → ¬ (a = nn ∧ x ≤ 1) → (a < c ∨ c + 30 < a) → gI w17 a x = gI w a x := fun a x q1 q2 q3 q4 q5 q6 q7 => by rw [IV a x q1 q2 q3 q4 q5 q6]; exact I2 a x (by omega) (by omega) (by omega) (by omega) (by omega) (by omega) q7
        have L17 : ∀ a x, gL w17 a x = gL v2 a x := fun a x => by rw [gL, s17]; exact L13 a x
        refine q12_book hsg (by rw [IW _ _ (by omega) (by omega) (by omega) (by omega) (by omega) (by omega) (by omega)]; exact t2) (fun i hi => by rw [IW _ _ (by omega) (by omega) (by omega) (by omega) (by omega) (by omega) (by omega)]; exact t201 i hi) (fun i hi => by rw [L17, L2 _ _ (by omega) (by omega)]; exact hna.1 i hi) (fun f fI fL fR _ _ rb fnm f220 f217 f21 f222 f2 => zc_same ?_) (fun f _ q => absurd e0 q)
        have fV : ∀ a x, a < 200 → 10 < a → a ≠ 20 → a ≠ 21 → ¬ (a = 24 ∧ (x = 0 ∨ x = 1)) → ¬ (a = 31 ∧ x = 0) → ¬ (a = nn ∧ x ≤ 1) → gI f a x = gI v2 a x := fun a x q0 q1 q2 q3 q4 q5 q6 => by rw [fI a x q0]; exact IV a x q1 q2 q3 q4 q5 q6
        have fW : ∀ a x, a < 200 → 10 < a → a ≠ 20 → a ≠ 21 → ¬ (a = 24 ∧ (x = 0 ∨ x = 1)) → ¬ (a = 31 ∧ x = 0) → ¬ (a = nn ∧ x ≤ 1) → (a < c ∨ c + 30 < a) → gI f a x = gI w a x := fun a x q0 q1 q2 q3 q4 q5 q6 q7 => by rw [fI a x q0]; exact IW a x q1 q2 q3 q4 q5 q6 q7
        have f0 : ∀ x, gI f 0 x = gI w 0 x := fun x => by rw [fI 0 x (by omega), I17 0 x (by omega) (by omega) (by omega), I13 0 x (by omega) (by omega) (by omega) (by omega) (by omega) (by omega) (by omega) (by omega) (by omega), I2 0 x (by omega) (by omega) (by omega) (by omega) (by omega) (by omega) (by omega)]
        have fRw : ∀ a x, ¬ (a = 1 ∧ (x = 9 ∨ x = 10)) → ¬ (a = 4 ∧ x = 3) → gR f a x = gR w a x := fun a x q1 q2 => by
          rw [fR, gR, s17]
          exact (R13 a x q1).trans (R2 a x q2)
        have hX4 := hXok.1.1
        refine hk (zFin (zBook sg n).2.2) (zbeg (zFin (zBook sg n).2.2)) (0, fun _ => 0, fun _ => 0, fun _ => 0, fun _ => 0) c f ?_ ⟨f0 140, fRw 24 4 (by omega) (by omega)⟩
        have hwf := zFin_wf hXok
        have hhd := zbeg_hd hwf
        refine ⟨hwf, rb, zCB_of cb (fun a x q1 q2 => fV a x (by omega) (by omega) (by omega) (by omega) (by omega) (by omega) (by omega)) hwf, ⟨hhd, f220, fun i hi => ?_⟩, ⟨0, fun _ => zbeg (zFin (zBook sg n).2.2), Nat.zero_le _, f21, ?_, fun j i hj => absurd hj (Nat.not_lt_zero j), fun j hj => absurd hj (Nat.not_lt_zero j), fun i _ => rfl, fun j hj => absurd hj (Nat.not_lt_zero j)⟩, fun m hm => ⟨false, ?_, ?_, fun q => absurd q (by decide)⟩, ⟨0, fun _ => 0, Nat.zero_le _, f2, ?_, fun i hi => absurd hi (Nat.not_lt_zero i)⟩, ⟨fun i hi => ?_, (zBook sg n).2.2.2.1, fun o ho => ?_, fun o p hop hp => ?_⟩, ⟨hc2, ?_, ?_, hnn, ?_, ?_⟩, ?_, ⟨1, by decide, ?_, fun q => absurd q (by decide)⟩, ⟨⟨Nat.zero_le _, fun i hi => absurd hi (Nat.not_lt_zero i)⟩, f217, ?_, fun i hi => absurd hi (Nat.not_lt_zero i), fun i hi => absurd hi (Nat.not_lt_zero i), 1, by decide, ?_, fun q => absurd q (by decide)⟩, ⟨fun r hr => Or.inl ?_, ?_⟩⟩
        · rw [fI 10 i (by omega), I17 10 i (by omega) (by omega) (by omega)]; exact hheld i hi
        · rw [fI 21 0 (by omega), I17 21 0 (by omega) (by omega) (by omega)]; exact h21
        · rw [f222 m hm]; rfl
        · rw [fI 20 m (by omega), g20 m hm]; rfl
        · rw [fI 2 1 (by omega), I17 2 1 (by omega) (by omega) (by omega)]; exact h210
        · rw [fL _ _ (by omega), L17, L2 _ _ (by omega) (by omega)]; exact hna.1 i hi
        · have ho' : o < bW (zBook sg n).2.2.1 := ho
          obtain ⟨w1, w2, w3⟩ := hXok.2.2.2.2.2.2.1.1 o ho'
          refine ⟨w1, w2, w3, ?_, ?_⟩
          · have := fnm o ho'
            rw [Nat.zero_add] at this
            exact this
          · rw [fL _ _ (by omega), L17, gL, s2]
            exact cx.2.2.1 o ho'
        · exact hXok.2.2.2.2.2.2.1.2 o p hop hp
        · rw [fR, gR, s17]; exact R13b.1
        · rw [fR, gR, s17]; exact R13b.2.trans (by omega)
        · rw [fRw _ _ (by omega) (by omega)]; exact hre.2.2.2.2.1
        · rw [fRw _ _ (by omega) (by omega)]; exact hre.2.2.2.2.2
        · obtain ⟨big, bs, hs, z1, z2, z3, z4, z5, -, -⟩ := iv_sh h
          refine ⟨big, 1, 1, by decide, by decide, by rw [fI 24 0 (by omega)]; exact g24.1, by rw [fI 24 1 (by omega)]; exact g24.2.1, ?_, fun q => absurd q (by decide), fun q => absurd q (by decide)⟩
          exact zBig_of z5 (fun c _ => fRw 24 c (by omega) (by omega)) (fun c _ => f0 c)
        · rw [fI 31 0 (by omega)]; exact g24.2.2
        · rw [fI nn 0 (by omega), I17 nn 0 (by omega) (by omega) (by omega)]; exact hn0.1
        · rw [fI nn 1 (by omega), I17 nn 1 (by omega) (by omega) (by omega)]; exact hn0.2
        · have hr' : r < bR (zBook sg n).2.2.1 := hr
          have hX8 := hXok.1.2.1
          rw [fV _ _ (by omega) (by omega) (by omega) (by omega) (by omega) (by omega) (by omega), i2 _ _ (by omega) (by omega)]
          exact cx.2.2.2.2.2.2.2.2.2.2.2 r (by omega)
        · rw [fRw _ _ (by omega) (by omega), fRw _ _ (by omega) (by omega), fRw _ _ (by omega) (by omega), f0, f0, f0]
          exact (iv_br h).2
      | succ d ih =>
        intro i u hi iu su u20
        rw [fX11_book_L72]
        try dsimp only
        rw [zi_nat (show i < 2 ^ 31 by omega), show ((0 : Int32) &&& 1) = Int32.ofNat 0 from by decide]
        refine ⟨fun q => absurd ((zi_le (a := 4) (by decide) (by omega)).mp q) (by omega), fun _ => ⟨zi_in (by omega) (by omega), ?_⟩⟩
        intro w19 e19
        rw [zl1, zi_add]
        refine ih (i + 1) w19 (by omega) (fun a x q => by rw [e19, gI_sI_ne q]; exact iu a x q) (by rw [e19]; exact su) (fun q hq => ?_)
        rw [e19]
        by_cases e : q = i
        · rw [e, gI_sI_eq]
        · rw [gI_sI_ne2 e]; exact u20 q (by omega)
    exact ⟨4 + 1, hL72 4 0 w13 rfl (fun _ _ _ => rfl) rfl (fun q hq => absurd hq (Nat.not_lt_zero q))⟩
  · have hlt := (zBl_ok hsg.1 hm 1001 (0, zX0) (Nat.zero_le _) zXok_0).2 e0
    have hlt' : (zBook sg n).1 < 20000 := hlt
    intro w3 e3
    refine ⟨fun q => absurd ((zi_eq (b := 0) (by omega) (by decide)).mp q) e0, fun _ => ?_⟩
    have I3 : ∀ a x, ¬ (a = 2 ∧ 1 ≤ x) → ¬ (a = 4 ∧ (x = 4 ∨ x = 5)) → a ≠ 5 → ¬ (a = 6 ∧ x = 3) → a ≠ 7 → (a < c ∨ c + 30 < a) → gI w3 a x = gI w a x := fun a x q1 q2 q3 q4 q5 q6 => by rw [e3, gI_sI, if_neg (by omega)]; exact fv.1 a x (by omega) q2 q3 q4 q5 q6
    have L3 : ∀ a x, ¬ (a = 2 ∧ x = 7) → a ≠ c + 1 → gL w3 a x = gL w a x := fun a x q1 q2 => by rw [e3, gL_sI]; exact (fv.2.1 a x q1 q2).trans rfl
    have R3 : ∀ a x, ¬ (a = 4 ∧ x = 3) → gR w3 a x = gR w a x := fun a x q => by rw [e3, gR_sI]; exact (fv.2.2 a x).trans (by rw [gR_sR, if_neg q])
    refine q12_book hsg (by rw [I3 _ _ (by omega) (by omega) (by omega) (by omega) (by omega) (by omega)]; exact t2) (fun i hi => by rw [I3 _ _ (by omega) (by omega) (by omega) (by omega) (by omega) (by omega)]; exact t201 i hi) (fun i hi => by rw [L3 _ _ (by omega) (by omega)]; exact hna.1 i hi) (fun f _ _ _ q => absurd q e0) (fun f fE _ f2 => zc_same ?_)
    refine hk B S N b f (zInv_tape h (fun a x q1 q2 q3 q4 q5 q6 => ?_) (fun a x q => ?_) (fun a x q => ?_) f2 ?_) ⟨?_, ?_⟩
    · have hkeep := q1
      unfold zkeep at hkeep
      rw [fE.1 a x (by omega) (by omega) (by omega) (by omega) (by omega) (by omega) (by omega)]
      exact I3 a x (by omega) (by omega) (by omega) (by omega) (by omega) (by omega)
    · rw [fE.2.1 a x (by omega) (by omega)]; exact L3 a x (by omega) (by omega)
    · rw [fE.2.2]; exact R3 a x (by omega)
    · rw [fE.1 _ _ (by omega) (by omega) (by omega) (by omega) (by omega) (by omega) (by omega), e3, gI_sI_eq]; rfl
    · rw [fE.1 _ _ (by omega) (by omega) (by omega) (by omega) (by omega) (by omega) (by omega)]; exact I3 _ _ (by omega) (by omega) (by omega) (by omega) (by omega) (by omega)
    · rw [fE.2.2]; exact R3 24 4 (by omega)

/-! Level 2: the class reads a book's lines -/
def zCX (b : Nat) (X : zBs) (v : zW) : Prop :=
  gR v 4 3 = b ∧ (gI v b 0 = Int32.ofNat (bW X.1) ∧ gI v b 6 = Int32.ofNat (bC X.1) ∧ gI v b 7 = Int32.ofNat (bR X.1)) ∧ zNm32 (b + 1) (bW X.1) X.2.1 v ∧
  (∀ o, o < bW X.1 → gI v (b + 2) o = Int32.ofNat (bKd X.1 o)) ∧ (∀ r, r < bR X.1 → gI v (b + 10) r = Int32.ofNat (bLn X.1 r)) ∧ (∀ r i, r < bR X.1 → i < bLn X.1 r → gI v (b + 11 + 1 + r) i = Int32.ofNat (bIt X.1 r i)) ∧ (∀ r, r < 8 → gI v (b + 29) r = bCt X.1 r) ∧
  gI v 4 4 = (if X.2.2.isSome = true then 1 else 0) ∧ (X.2.2 = none → gI v 6 3 = Int32.ofNat 1 ∧ gI v 7 0 = Int32.ofNat 1) ∧ (∀ n g, X.2.2 = some (n, g) → gI v 6 3 = Int32.ofNat n ∧ ∀ i, i < n → gI v 7 i = zstp (g i)) ∧
  (∀ o, o < 4 → gI v (b + 3) o = Int32.ofNat 0 ∧ gI v (b + 4) o = Int32.ofNat 0) ∧ (∀ r, r < 8 → gI v (b + 30) r = Int32.ofNat 0)
theorem zCX_of {b : Nat} {X : zBs} {w v : zW} (hb : b = 40 ∨ b = 80) (h8 : bR X.1 ≤ 8) (h : zCX b X w) (hI : ∀ a c, a ≠ 2 → ¬ (a = 4 ∧ c = 5) → a ≠ 5 → a ≠ b + 11 + 1 + bR X.1 ∨ bR X.1 = 8 → gI v a c = gI w a c) (hL : ∀ a c, ¬ (a = 2 ∧ c = 7) → gL v a c = gL w a c) (hR : gR v 4 3 = gR w 4 3) : zCX b X v := by
  obtain ⟨h1, ⟨h2, h3, h4⟩, h5, h6, h7, h8', h9, h10, h11, h12, h13, h14⟩ := h
  refine ⟨hR.trans h1, ⟨by rw [hI b 0 (by omega) (by omega) (by omega) (by omega)]; exact h2, by rw [hI b 6 (by omega) (by omega) (by omega) (by omega)]; exact h3, by rw [hI b 7 (by omega) (by omega) (by omega) (by omega)]; exact h4⟩, fun o ho => by rw [hL _ _ (by omega)]; exact h5 o ho, fun o ho => by rw [hI _ _ (by omega) (by omega) (by omega) (by omega)]; exact h6 o ho, fun r hr => by rw [hI _ _ (by omega) (by omega) (by omega) (by omega)]; exact h7 r hr, fun r i hr hi => by rw [hI _ _ (by omega) (by omega) (by omega) (by omega)]; exact h8' r i hr hi, fun r hr => by rw [hI _ _ (by omega) (by omega) (by omega) (by omega)]; exact h9 r hr, by rw [hI 4 4 (by omega) (by omega) (by omega) (by omega)]; exact h10, fun e => ⟨by rw [hI 6 3 (by omega) (by omega) (by omega) (by omega)]; exact (h11 e).1, by rw [hI 7 0 (by omega) (by omega) (by omega) (by omega)]; exact (h11 e).2⟩, fun n g e => ⟨by rw [hI 6 3 (by omega) (by omega) (by omega) (by omega)]; exact (h12 n g e).1, fun i hi => by rw [hI 7 i (by omega) (by omega) (by omega) (by omega)]; exact (h12 n g e).2 i hi⟩, fun o ho => ⟨by rw [hI _ _ (by omega) (by omega) (by omega) (by omega)]; exact (h13 o ho).1, by rw [hI _ _ (by omega) (by omega) (by omega) (by omega)]; exact (h13 o ho).2⟩, fun r hr => by rw [hI _ _ (by omega) (by omega) (by omega) (by omega)]; exact h14 r hr⟩
theorem zCX_T {b : Nat} {X : zBs} {w v : zW} (hb : b = 40 ∨ b = 80) (h8 : bR X.1 ≤ 8) (h : zCX b X w) (f : zfT w v) : zCX b X v :=
  zCX_of hb h8 h (fun a c q _ _ _ => f.1 a c (by omega)) (fun a c q => f.2.1 a c q) (f.2.2 4 3)
/-- what the class's reading of a book changes -/
def zfB (b : Nat) (w v : zW) : Prop := (∀ a c, ¬ (a = 2 ∧ 2 ≤ c) → ¬ (a = 4 ∧ (c = 4 ∨ c = 5)) → a ≠ 5 → ¬ (a = 6 ∧ c = 3) → a ≠ 7 → (a < b ∨ b + 30 < a) → gI v a c = gI w a c) ∧ (∀ a c, ¬ (a = 2 ∧ c = 7) → a ≠ b + 1 → gL v a c = gL w a c) ∧ (∀ a c, gR v a c = gR w a c)
theorem zfB_refl (b : Nat) (w : zW) : zfB b w w := ⟨fun _ _ _ _ _ _ _ _ => rfl, fun _ _ _ _ => rfl, fun _ _ => rfl⟩
theorem zfB_trans {b : Nat} {u v w : zW} (h : zfB b u v) (h2 : zfB b v w) : zfB b u w := ⟨fun a c q1 q2 q3 q4 q5 q6 => (h2.1 a c q1 q2 q3 q4 q5 q6).trans (h.1 a c q1 q2 q3 q4 q5 q6), fun a c q1 q2 => (h2.2.1 a c q1 q2).trans (h.2.1 a c q1 q2), fun a c => (h2.2.2 a c).trans (h.2.2 a c)⟩
theorem zfB_R {b : Nat} {w v : zW} (h : zfR w v) : zfB b w v := ⟨fun a c q1 _ _ q4 q5 _ => h.1 a c q1 q4 q5, fun a c q _ => h.2.1 a c q, h.2.2⟩
theorem zfB_T {b : Nat} {w v : zW} (h : zfT w v) : zfB b w v := zfB_R (zfR_T h)
theorem zfB_8 (b : Nat) (w : zW) (x : Int32) : zfB b w (sI w 2 8 x) := zfB_R (zfR_8 w x)
theorem zfB_I {b R : Nat} {w v : zW} (hR : R ≤ 8) (h : zfI b R w v) : zfB b w v := ⟨fun a c q1 q2 q3 _ _ q6 => h.1 a c q1 (by omega) q3 (by omega), fun a c q _ => h.2.1 a c q, h.2.2⟩
theorem zfB_b {b a : Nat} (w : zW) (c : Nat) (x : Int32) (h : b ≤ a ∧ a ≤ b + 30) : zfB b w (sI w a c x) := ⟨fun a' c' _ _ _ _ _ q6 => by rw [gI_sI_ne (by omega)], fun _ _ _ _ => rfl, fun _ _ => rfl⟩
theorem q10_takeEnd {sg : Nat → Nat} {n j : Nat} {w : zW} {k : Int32 → zW → Prop} (hsg : zSg sg n) (h : zCt sg n j w) (h1 : zSn (zTT sg n) 59 j = true → ∀ v, zfT w v → zCt sg n (j + 1) v → k 1 v) (h0 : ¬ zSn (zTT sg n) 59 j = true → ∀ v, v = sI w 2 8 (Int32.ofNat (1 + 16 * (zTT sg n).pl j)) → k 0 v) : fX10_takeEnd w k := by
  rw [fX10_takeEnd]
  refine q10_sn (c := 59) hsg h (by decide) (fun y => ⟨fun _ => q10_nx hsg h (fun v f c => h1 y v f c), fun q => absurd q (by decide)⟩) (fun y => ⟨fun q => absurd rfl q, fun _ => q10_wrong (x := 1) h (fun v ev => ⟨Or.inl rfl, h0 y v ev⟩)⟩)
/-- a line's end -/
theorem q1_endK {sg : Nat → Nat} {n b j : Nat} {X : zBs} {w0 w : zW} {k K : Int32 → zW → Prop} (hsg : zSg sg n) (hb : b = 40 ∨ b = 80) (h8 : bR X.1 ≤ 8) (f0 : zfB b w0 w) (h : zCt sg n j w) (hX : zCX b X w)
    (hok : ∀ v, zfB b w0 v → (zEnd (zTT sg n) (0, j, X)).1 = 0 → zCt sg n (zEnd (zTT sg n) (0, j, X)).2.1 v → zCX b (zEnd (zTT sg n) (0, j, X)).2.2 v → k 1 v) (herr : ∀ v, zfB b w0 v → ¬ (zEnd (zTT sg n) (0, j, X)).1 = 0 → gI v 2 8 = Int32.ofNat (zEnd (zTT sg n) (0, j, X)).1 → k 0 v)
    (hK1 : ∀ v, k 1 v → K 1 v) (hK0 : ∀ v, k 0 v → K 0 v) : fX10_takeEnd w K := by
  refine q10_takeEnd hsg h (fun y v f c => hK1 v ?_) (fun y v ev => hK0 v ?_)
  · have ez : zEnd (zTT sg n) (0, j, X) = (0, j + 1, X) := by show (if (0 : Nat) = 0 then _ else _) = _; rw [if_pos rfl, if_pos y]
    rw [ez] at hok
    exact hok v (zfB_trans f0 (zfB_T f)) rfl c (zCX_T hb h8 hX f)
  · have ez : zEnd (zTT sg n) (0, j, X) = (1 + 16 * (zTT sg n).pl j, j, X) := by show (if (0 : Nat) = 0 then _ else _) = _; rw [if_pos rfl, if_neg y]
    rw [ez] at herr
    refine herr v (by rw [ev]; exact zfB_trans f0 (zfB_8 _ _ _)) (fun z => ?_) (by rw [ev, gI_sI_eq])
    have z' : 1 + 16 * (zTT sg n).pl j = 0 := z
    omega
theorem q1_end {sg : Nat → Nat} {n b j : Nat} {X : zBs} {w0 w : zW} {k : Int32 → zW → Prop} (hsg : zSg sg n) (hb : b = 40 ∨ b = 80) (h8 : bR X.1 ≤ 8) (f0 : zfB b w0 w) (h : zCt sg n j w) (hX : zCX b X w)
    (hok : ∀ v, zfB b w0 v → (zEnd (zTT sg n) (0, j, X)).1 = 0 → zCt sg n (zEnd (zTT sg n) (0, j, X)).2.1 v → zCX b (zEnd (zTT sg n) (0, j, X)).2.2 v → k 1 v) (herr : ∀ v, zfB b w0 v → ¬ (zEnd (zTT sg n) (0, j, X)).1 = 0 → gI v 2 8 = Int32.ofNat (zEnd (zTT sg n) (0, j, X)).1 → k 0 v) : fX10_takeEnd w (fun r v => zb01 r ∧ k r v) :=
  q1_endK hsg hb h8 f0 h hX hok herr (fun _ q => ⟨Or.inr rfl, q⟩) (fun _ q => ⟨Or.inl rfl, q⟩)
def zCl (sg : Nat → Nat) (n m b : Nat) (F : zW → (Int32 → zW → Prop) → Prop) (P : Nat → zBs → zRs) : Prop :=
  ∀ (j : Nat) (X : zBs) (w : zW) (k : Int32 → zW → Prop), j < m → zXok X → zCt sg n j w → zCX b X w → (∀ v, zfB b w v → (zEnd (zTT sg n) (P j X)).1 = 0 → zCt sg n (zEnd (zTT sg n) (P j X)).2.1 v → zCX b (zEnd (zTT sg n) (P j X)).2.2 v → k 1 v) → (∀ v, zfB b w v → ¬ (zEnd (zTT sg n) (P j X)).1 = 0 → gI v 2 8 = Int32.ofNat (zEnd (zTT sg n) (P j X)).1 → k 0 v) → F w k
theorem zEnd_x {T : zTks} {e i j : Nat} {X : zBs} (he : 0 < e) : zEnd T (e + 16 * T.pl i, j, X) = (e + 16 * T.pl i, j, X) := zEnd_e (fun q => by have q' : e + 16 * T.pl i = 0 := q; omega)
/-- something wrong at a token -/
theorem q1_err {sg : Nat → Nat} {n b e i j : Nat} {X : zBs} {w0 w : zW} {k : Int32 → zW → Prop} {r : zRs} (h : zCt sg n i w) (he : 0 < e) (f0 : zfB b w0 w) (hr : r = (e + 16 * (zTT sg n).pl i, j, X)) (herr : ∀ v, zfB b w0 v → ¬ (zEnd (zTT sg n) r).1 = 0 → gI v 2 8 = Int32.ofNat (zEnd (zTT sg n) r).1 → k 0 v) : ∀ v, v = sI w 2 8 (Int32.ofNat (e + 16 * (zTT sg n).pl i)) → k 0 v := by
  intro v ev
  rw [hr, zEnd_x he] at herr
  refine herr v (by rw [ev]; exact zfB_trans f0 (zfB_8 _ _ _)) (fun z => ?_) (by rw [ev, gI_sI_eq])
  have z' : e + 16 * (zTT sg n).pl i = 0 := z
  omega
theorem zNm32_of {a W : Nat} {nm : Nat → List Nat} {w v : zW} (h : zNm32 a W nm w) (hL : ∀ o, gL v a o = gL w a o) : zNm32 a W nm v := fun o ho => by rw [hL]; exact h o ho
theorem q1_readWord {sg : Nat → Nat} {n m b : Nat} (hsg : zSg sg n) (hb : b = 40 ∨ b = 80) : zCl sg n m b fX1_readWord (zLnW (zTT sg n)) := by
  intro j X w k hj hX hct hcx hok herr
  obtain ⟨⟨hW, hR, hC⟩, -, -, -, -, -, h7, -⟩ := hX
  have c1 := hcx.1
  have c2 := hcx.2.1.1
  have h21 := zTT_ky21 sg n (j + 2)
  rw [fX1_readWord, c1, c2]
  refine ⟨by omega, fun q => ?_, fun q => ?_⟩
  · have q' := (zi_lt (b := 4) (by omega) (by decide)).mp q
    refine q10_nx hsg hct (fun v1 f1 ct1 => ?_)
    have cx1 := zCX_T hb hR hcx f1
    refine q10_isName ct1 (fun y => ⟨fun _ => ?_, fun z => absurd z (by decide)⟩) (fun y => ⟨fun z => absurd rfl z, fun _ => q10_wrong (x := 1) ct1 (fun v ev => ⟨Or.inl rfl, q1_err (b := b) (j := j) (X := X) ct1 (by decide) (zfB_T f1) ?_ herr v ev⟩)⟩)
    · rw [cx1.1, ct_nm ct1 y.1]
      refine ⟨by omega, q0_wordNamed hW cx1.2.1.1 cx1.2.2.1 h7 (zTT_nm y.1) ?_⟩
      by_cases e : zIx X.2.1 (bW X.1) ((zTT sg n).nm (j + 1)) < bW X.1
      · rw [zIxI, if_pos e]
        refine ⟨fun z => absurd z (zN1_ne (by omega)), fun _ => q10_wrong (x := 3) ct1 (fun v ev => ⟨Or.inl rfl, q1_err (b := b) (j := j) (X := X) ct1 (by decide) (zfB_T f1) ?_ herr v ev⟩)⟩
        rw [zLnW, if_neg (by omega), if_neg (fun z => z y), if_pos e]
      · rw [zIxI, if_neg e]
        refine ⟨fun _ => ?_, fun z => absurd rfl z⟩
        rw [cx1.1, cx1.2.1.1, ct_nm ct1 y.1, zi_nat (show bW X.1 < 2 ^ 31 by omega)]
        refine ⟨by omega, zi_in q' (by omega), ?_⟩
        intro w11 e11
        have ct11 : zCt sg n (j + 1) w11 := zCt_of ct1 (fun c _ => by rw [e11]; rfl) (fun c => by rw [e11]; rfl) (by rw [e11, gL_sL_ne (by omega)])
        have f11 : zfB b w w11 := zfB_trans (zfB_T f1) ⟨fun a c _ _ _ _ _ _ => by rw [e11]; rfl, fun a c _ q2 => by rw [e11, gL_sL_ne q2], fun _ _ => by rw [e11]; rfl⟩
        refine q10_nx hsg ct11 (fun v2 f2 ct2' => ?_)
        have ct2 : zCt sg n (j + 2) v2 := ct2'
        have i2 : ∀ a c, a ≠ 2 → gI v2 a c = gI v1 a c := fun a c q => by rw [f2.1 a c (by omega), e11]; rfl
        have l2 : ∀ o, gL v2 (b + 1) o = if o = bW X.1 then Int64.ofNat (zn32 ((zTT sg n).nm (j + 1))) else gL v1 (b + 1) o := fun o => by
          rw [f2.2.1 _ _ (by omega), e11]
          by_cases z : o = bW X.1
          · rw [if_pos z, z, gL_sL_eq]
          · rw [if_neg z, gL_sL_ne2 z]
        have r2 : gR v2 4 3 = b := by rw [f2.2.2, e11]; exact cx1.1
        have hbad : ¬ (10 ≤ (zTT sg n).ky (j + 2) ∧ (zTT sg n).ky (j + 2) ≤ 13) → fX1_readWord_J126 k v2 := fun z => by
          rw [fX1_readWord_J126]
          refine q10_wrong (x := 1) ct2 (fun v ev => ⟨Or.inl rfl, q1_err (b := b) (j := j) (X := X) ct2 (by decide) (zfB_trans f11 (zfB_T f2)) ?_ herr v ev⟩)
          rw [zLnW, if_neg (by omega), if_neg (fun z => z y), if_neg e, if_neg z]
        rw [ct_ky ct2]
        by_cases y21 : (zTT sg n).ky (j + 2) < 21
        · rw [zKy_n y21]
          refine ⟨fun z => hbad (fun z2 => by have := (zi_lt (b := 10) (by omega) (by decide)).mp z; have z3 := z2.1; omega), fun z => ⟨fun z2 => ?_, fun z2 => hbad (fun z3 => z2 ((zi_le (b := 13) (by omega) (by decide)).mpr z3.2))⟩⟩
          have k13 := (zi_le (b := 13) (by omega) (by decide)).mp z2
          have k10 : 10 ≤ (zTT sg n).ky (j + 2) := by
            by_cases z3 : 10 ≤ (zTT sg n).ky (j + 2)
            · exact z3
            · exact absurd ((zi_lt (b := 10) (by omega) (by decide)).mpr (by omega)) z
          have ez : zLnW (zTT sg n) j X = (0, j + 3, uW X ((zTT sg n).ky (j + 2) - 10) ((zTT sg n).nm (j + 1))) := by
            rw [zLnW, if_neg (by omega), if_neg (fun z => z y), if_neg e, if_pos ⟨k10, k13⟩]
          rw [ez] at hok herr
          have w2 : gI v2 b 0 = Int32.ofNat (bW X.1) := (i2 b 0 (by omega)).trans cx1.2.1.1
          rw [r2, w2, zi_nat (show bW X.1 < 2 ^ 31 by omega), zl10, zi_sub k10]
          refine ⟨by omega, zi_in q' (by omega), ?_⟩
          intro w18 e18
          have r18 : gR w18 4 3 = b := by rw [e18]; exact r2
          have w18' : gI w18 b 0 = Int32.ofNat (bW X.1) := by rw [e18, gI_sI_ne (by omega)]; exact w2
          rw [r18, w18', zl1, zi_add]
          refine ⟨by omega, ?_⟩
          intro w20 e20
          have i20 : ∀ a c, a ≠ 2 → ¬ (a = b + 2 ∧ c = bW X.1) → ¬ (a = b ∧ c = 0) → gI w20 a c = gI v1 a c := fun a c q1 q2 q3 => by rw [e20, gI_sI, if_neg q3, e18, gI_sI, if_neg q2]; exact i2 a c q1
          have ct20 : zCt sg n (j + 2) w20 := zCt_of ct2 (fun c _ => by rw [e20, gI_sI_ne (by omega), e18, gI_sI_ne (by omega)]) (fun c => by rw [e20, gI_sI_ne (by omega), e18, gI_sI_ne (by omega)]) (by rw [e20, gL_sI, e18, gL_sI])
          refine q10_nx hsg ct20 (fun v3 f3 ct3 => ?_)
          have i3 : ∀ a c, a ≠ 2 → ¬ (a = b + 2 ∧ c = bW X.1) → ¬ (a = b ∧ c = 0) → gI v3 a c = gI v1 a c := fun a c q1 q2 q3 => by rw [f3.1 a c (by omega)]; exact i20 a c q1 q2 q3
          have l3 : ∀ o, gL v3 (b + 1) o = if o = bW X.1 then Int64.ofNat (zn32 ((zTT sg n).nm (j + 1))) else gL v1 (b + 1) o := fun o => by rw [f3.2.1 _ _ (by omega), e20, gL_sI, e18, gL_sI]; exact l2 o
          obtain ⟨-, ⟨g2, g3, g4⟩, g5, g6, g7, g8, g9, g10, g11, g12, g13, g14⟩ := cx1
          have s18 : zfB b v2 w18 := by rw [e18]; exact zfB_b _ _ _ (by omega)
          have s20 : zfB b w18 w20 := by rw [e20]; exact zfB_b _ _ _ (by omega)
          have f3' : zfB b w v3 := zfB_trans f11 (zfB_trans (zfB_T f2) (zfB_trans s18 (zfB_trans s20 (zfB_T f3))))
          refine q1_end (j := j + 3) hsg hb (show bR (uW X ((zTT sg n).ky (j + 2) - 10) ((zTT sg n).nm (j + 1))).1 ≤ 8 from hR) f3' ct3 ?_ hok herr
          refine ⟨by rw [f3.2.2, e20, gR_sI, e18, gR_sI]; exact r2, ⟨?_, ?_, ?_⟩, fun o ho => ?_, fun o ho => ?_, fun r hr => ?_, fun r i hr hi => ?_, fun r hr => ?_, ?_, fun q => ?_, fun n' g' q => ?_, fun o ho => ?_, fun r hr => ?_⟩
          · rw [f3.1 b 0 (by omega), e20, gI_sI_eq]; rfl
          · rw [i3 b 6 (by omega) (by omega) (by omega)]; exact g3
          · rw [i3 b 7 (by omega) (by omega) (by omega)]; exact g4
          · have ho' : o < bW X.1 + 1 := ho
            rw [l3 o]
            show _ = Int64.ofNat (zn32 (if o = bW X.1 then (zTT sg n).nm (j + 1) else X.2.1 o))
            by_cases z : o = bW X.1
            · rw [if_pos z, if_pos z]
            · rw [if_neg z, if_neg z]; exact g5 o (by omega)
          · have ho' : o < bW X.1 + 1 := ho
            show _ = Int32.ofNat (if o = bW X.1 then (zTT sg n).ky (j + 2) - 10 else bKd X.1 o)
            by_cases z : o = bW X.1
            · rw [if_pos z, f3.1 _ _ (by omega), e20, gI_sI_ne (by omega), e18, z, gI_sI_eq]
            · rw [if_neg z, i3 _ _ (by omega) (by omega) (by omega)]; exact g6 o (by omega)
          · rw [i3 _ _ (by omega) (by omega) (by omega)]; exact g7 r hr
          · rw [i3 _ _ (by omega) (by omega) (by omega)]; exact g8 r i hr hi
          · rw [i3 _ _ (by omega) (by omega) (by omega)]; exact g9 r hr
          · rw [i3 _ _ (by omega) (by omega) (by omega)]; exact g10
          · rw [i3 _ _ (by omega) (by omega) (by omega), i3 _ _ (by omega) (by omega) (by omega)]; exact g11 q
          · rw [i3 _ _ (by omega) (by omega) (by omega)]
            exact ⟨(g12 n' g' q).1, fun i hi => by rw [i3 _ _ (by omega) (by omega) (by omega)]; exact (g12 n' g' q).2 i hi⟩
          · rw [i3 _ _ (by omega) (by omega) (by omega), i3 _ _ (by omega) (by omega) (by omega)]; exact g13 o ho
          · rw [i3 _ _ (by omega) (by omega) (by omega)]; exact g14 r hr
        · rw [zKy_N y21]
          exact ⟨fun _ => hbad (fun z2 => by have z3 := z2.2; omega), fun z => absurd (by decide) z⟩
    · rw [zLnW, if_neg (by omega), if_pos y]
  · have q' : 4 ≤ bW X.1 := by
      by_cases z : 4 ≤ bW X.1
      · exact z
      · exact absurd ((zi_lt (b := 4) (by omega) (by decide)).mpr (by omega)) q
    refine q10_wrong (x := 5) hct (fun v ev => ⟨Or.inl rfl, q1_err (b := b) (j := j) (X := X) hct (by decide) (zfB_refl _ _) ?_ herr v ev⟩)
    rw [zLnW, if_pos q']
theorem q1_readCasts {sg : Nat → Nat} {n m b : Nat} (hsg : zSg sg n) (hb : b = 40 ∨ b = 80) : zCl sg n m b fX1_readCasts (zLnC (zTT sg n)) := by
  intro j X w k hj hX hct hcx hok herr
  obtain ⟨⟨hW, hR, hC⟩, -, -, -, -, -, h7, -⟩ := hX
  rw [fX1_readCasts, hcx.1, hcx.2.1.2.1]
  refine ⟨by omega, fun q => ?_, fun q => ?_⟩
  · have e0 := (zi_eq (b := 0) (by omega) (by decide)).mp q
    refine q10_nx hsg hct (fun v1 f1 ct1 => ?_)
    have cx1 := zCX_T hb hR hcx f1
    have hr := zNe_r (zTT sg n) (j + 1) 1 61
    refine q10_takeNumber (lo := 1) (H := 61) hsg ct1 (by decide) (zhi_n (h := 60) (by decide)) (fun e v2 f2 ct2 => ⟨fun _ => ?_, fun z => absurd z (zN1_ne (by have := zTT_nu (zNe_0 e).1; omega))⟩) (fun e v2 ev => ⟨fun z => absurd rfl z, fun _ => ?_⟩)
    · obtain ⟨a1, a2, a3⟩ := zNe_0 e
      have cx2 := zCX_T hb hR cx1 f2
      have ez : zLnC (zTT sg n) j X = (0, j + 2, uC X ((zTT sg n).nu (j + 1))) := by rw [zLnC, if_pos e0, if_pos e]
      rw [ez] at hok herr
      rw [cx2.1]
      refine ⟨by omega, ?_⟩
      intro w7 e7
      have ct7 : zCt sg n (j + 2) w7 := zCt_of ct2 (fun c _ => by rw [e7, gI_sI_ne (by omega)]) (fun c => by rw [e7, gI_sI_ne (by omega)]) (by rw [e7]; rfl)
      have i7 : ∀ a c, ¬ (a = b ∧ c = 6) → gI w7 a c = gI v2 a c := fun a c q => by rw [e7, gI_sI, if_neg q]
      obtain ⟨g1, ⟨g2, g3, g4⟩, g5, g6, g7, g8, g9, g10, g11, g12, g13, g14⟩ := cx2
      refine q1_end (j := j + 2) hsg hb (show bR (uC X ((zTT sg n).nu (j + 1))).1 ≤ 8 from hR) (zfB_trans (zfB_T f1) (zfB_trans (zfB_T f2) (by rw [e7]; exact zfB_b _ _ _ (by omega)))) ct7 ?_ hok herr
      refine ⟨by rw [e7]; exact g1, ⟨by rw [i7 _ _ (by omega)]; exact g2, by rw [e7, gI_sI_eq]; rfl, by rw [i7 _ _ (by omega)]; exact g4⟩, zNm32_of g5 (fun o => by rw [e7]; rfl), fun o ho => by rw [i7 _ _ (by omega)]; exact g6 o ho, fun r hr => by rw [i7 _ _ (by omega)]; exact g7 r hr, fun r i hr hi => by rw [i7 _ _ (by omega)]; exact g8 r i hr hi, fun r hr => by rw [i7 _ _ (by omega)]; exact g9 r hr, by rw [i7 _ _ (by omega)]; exact g10, fun q => by rw [i7 _ _ (by omega), i7 _ _ (by omega)]; exact g11 q, fun n' g' q => ⟨by rw [i7 _ _ (by omega)]; exact (g12 n' g' q).1, fun i hi => by rw [i7 _ _ (by omega)]; exact (g12 n' g' q).2 i hi⟩, fun o ho => by rw [i7 _ _ (by omega), i7 _ _ (by omega)]; exact g13 o ho, fun r hr => by rw [i7 _ _ (by omega)]; exact g14 r hr⟩
    · refine q1_err (b := b) (j := j) (X := X) ct1 (show 0 < zNe (zTT sg n) (j + 1) 1 61 by omega) (zfB_T f1) ?_ herr v2 ev
      rw [zLnC, if_pos e0, if_neg e]
  · have e0 : ¬ bC X.1 = 0 := fun z => q (by rw [z]; rfl)
    refine q10_wrong (x := 3) hct (fun v ev => ⟨Or.inl rfl, q1_err (b := b) (j := j) (X := X) hct (by decide) (zfB_refl _ _) ?_ herr v ev⟩)
    rw [zLnC, if_neg e0]
theorem q1_readAfter {sg : Nat → Nat} {n m b : Nat} (hsg : zSg sg n) (hb : b = 40 ∨ b = 80) : zCl sg n m b fX1_readAfter (zLnA (zTT sg n)) := by
  intro j X w k hj hX hct hcx hok herr
  obtain ⟨⟨hW, hR, hC⟩, -, -, h4, h5, -, h7, -⟩ := hX
  have h4' := zTT_kd4 sg n (j + 1)
  rw [fX1_readAfter]
  refine q10_nx hsg hct (fun v1 f1 ct1 => ?_)
  have cx1 := zCX_T hb hR hcx f1
  have hr := zNe_r (zTT sg n) (j + 1) 0 (bR X.1)
  -- where it isn't told twice
  have hJ73 : (zNe (zTT sg n) (j + 1) 0 (bR X.1) = 0 → bCt X.1 ((zTT sg n).nu (j + 1)) = zN1) → fX1_readAfter_J73 k v1 := by
    intro htw
    rw [fX1_readAfter_J73, cx1.1, cx1.2.1.2.2]
    refine ⟨by omega, ?_⟩
    refine q10_takeNumber (lo := 0) (H := bR X.1) hsg ct1 (by decide) (zhi_r (by omega)) (fun e v2 f2 ct2 => ?_) (fun e v2 ev => ⟨fun _ => ?_, fun z => absurd (by decide) z⟩)
    · obtain ⟨a1, a2, a3⟩ := zNe_0 e
      have e2 := htw e
      have cx2 := zCX_T hb hR cx1 f2
      have ff2 : zfB b w v2 := zfB_trans (zfB_T f1) (zfB_T f2)
      refine ⟨fun z => absurd z (zi_0le (by omega)), fun _ => ⟨fun _ => ?_, fun z => absurd ((zi_lt (b := 8) (by omega) (by decide)).mpr (by omega)) z⟩⟩
      have h21 := zTT_ky21 sg n (j + 2)
      rw [ct_ky ct2]
      refine ⟨fun z => ?_, fun z => ?_⟩
      · have e3 : (zTT sg n).ky (j + 2) = 4 := (zKy_eq (c := 4) h21 (by decide)).mp z
        refine q10_nx hsg ct2 (fun v3 f3 ct3 => ?_)
        have cx3 := zCX_T hb hR cx2 f3
        have ff3 : zfB b w v3 := zfB_trans ff2 (zfB_T f3)
        have hr3 := zNe_r (zTT sg n) (j + 3) 0 100
        refine q10_takeNumber (j := j + 3) (lo := 0) (H := 100) hsg ct3 (by decide) (zhi_n (h := 99) (by decide)) (fun e4 v4 f4 ct4 => ⟨fun _ => ?_, fun z => absurd z (zN1_ne (by have := zTT_nu (zNe_0 e4).1; omega))⟩) (fun e4 v4 ev => ⟨fun z => absurd rfl z, fun _ => ?_⟩)
        · have cx4 := zCX_T hb hR cx3 f4
          have ff4 : zfB b w v4 := zfB_trans ff3 (zfB_T f4)
          have ez : zLnA (zTT sg n) j X = (0, j + 4, uT X ((zTT sg n).nu (j + 1)) ((zTT sg n).nu (j + 3))) := by rw [zLnA, if_pos e, if_pos e2, if_pos e3, if_pos e4]
          rw [ez] at hok herr
          rw [cx4.1, zi_nat (show (zTT sg n).nu (j + 1) < 2 ^ 31 by omega)]
          refine ⟨by omega, zi_in (by omega) (by omega), ?_⟩
          intro w14 e14
          have ct14 : zCt sg n (j + 4) w14 := zCt_of ct4 (fun c _ => by rw [e14, gI_sI_ne (by omega)]) (fun c => by rw [e14, gI_sI_ne (by omega)]) (by rw [e14]; rfl)
          have i7 : ∀ a c, a ≠ b + 29 → gI w14 a c = gI v4 a c := fun a c q => by rw [e14, gI_sI_ne q]
          obtain ⟨g1, ⟨g2, g3, g4⟩, g5, g6, g7, g8, g9, g10, g11, g12, g13, g14⟩ := cx4
          refine q1_end (j := j + 4) hsg hb (show bR (uT X ((zTT sg n).nu (j + 1)) ((zTT sg n).nu (j + 3))).1 ≤ 8 from hR) (zfB_trans ff4 (by rw [e14]; exact zfB_b _ _ _ (by omega))) ct14 ?_ hok herr
          refine ⟨by rw [e14]; exact g1, ⟨by rw [i7 _ _ (by omega)]; exact g2, by rw [i7 _ _ (by omega)]; exact g3, by rw [i7 _ _ (by omega)]; exact g4⟩, zNm32_of g5 (fun o => by rw [e14]; rfl), fun o ho => by rw [i7 _ _ (by omega)]; exact g6 o ho, fun r hr => by rw [i7 _ _ (by omega)]; exact g7 r hr, fun r i hr hi => by have hr' : r < bR X.1 := hr; rw [i7 _ _ (by omega)]; exact g8 r i hr hi, fun r hr => ?_, by rw [i7 _ _ (by omega)]; exact g10, fun q => by rw [i7 _ _ (by omega), i7 _ _ (by omega)]; exact g11 q, fun n' g' q => ⟨by rw [i7 _ _ (by omega)]; exact (g12 n' g' q).1, fun i hi => by rw [i7 _ _ (by omega)]; exact (g12 n' g' q).2 i hi⟩, fun o ho => by rw [i7 _ _ (by omega), i7 _ _ (by omega)]; exact g13 o ho, fun r hr => by rw [i7 _ _ (by omega)]; exact g14 r hr⟩
          show _ = if r = (zTT sg n).nu (j + 1) then Int32.ofNat ((zTT sg n).nu (j + 3)) else bCt X.1 r
          rw [e14]
          by_cases z : r = (zTT sg n).nu (j + 1)
          · rw [if_pos z, z, gI_sI_eq]
          · rw [if_neg z, gI_sI_ne2 z]; exact g9 r hr
        · refine q1_err (b := b) (j := j) (X := X) ct3 (show 0 < zNe (zTT sg n) (j + 3) 0 100 by omega) ff3 ?_ herr v4 ev
          rw [zLnA, if_pos e, if_pos e2, if_pos e3, if_neg e4]
      · have e3 : ¬ (zTT sg n).ky (j + 2) = 4 := fun y => z ((zKy_eq (c := 4) h21 (by decide)).mpr y)
        refine q10_wrong (x := 1) ct2 (fun v ev => ⟨Or.inl rfl, q1_err (b := b) (j := j) (X := X) ct2 (by decide) ff2 ?_ herr v ev⟩)
        rw [zLnA, if_pos e, if_pos e2, if_neg e3]
    · refine q1_err (b := b) (j := j) (X := X) ct1 (show 0 < zNe (zTT sg n) (j + 1) 0 (bR X.1) by omega) (zfB_T f1) ?_ herr v2 ev
      rw [zLnA, if_neg e]
  rw [ct_kd ct1]
  refine ⟨fun q => ?_, fun q => ?_⟩
  · have e : ¬ (zTT sg n).kd (j + 1) = 2 := fun y => q (by rw [y]; rfl)
    rw [fX1_readAfter_J29]
    refine ⟨fun _ => hJ73 (fun y => absurd (zNe_0 y).1 e), fun z => absurd (by decide) z⟩
  · have e : (zTT sg n).kd (j + 1) = 2 := (zi_eq (b := 2) (by omega) (by decide)).mp q
    have hnu := zTT_nu e
    rw [fX1_readAfter_J29, ct_nu ct1 e, cx1.1, cx1.2.1.2.2]
    refine ⟨fun z => absurd z (zi_0le (by omega)), fun _ => ⟨by omega, fun z => hJ73 (fun y => ?_), fun z => ⟨fun z2 => hJ73 (fun y => ?_), fun z2 => ?_⟩⟩⟩
    · have := (zi_le (by omega) (by omega)).mp z
      have := (zNe_0 y).2.2
      omega
    · have := (zi_le (a := 8) (by decide) (by omega)).mp z2
      have := (zNe_0 y).2.2
      omega
    · have l8 : (zTT sg n).nu (j + 1) < 8 := by
        by_cases y : (zTT sg n).nu (j + 1) < 8
        · exact y
        · exact absurd ((zi_le (a := 8) (by decide) (by omega)).mpr (by omega)) z2
      have lR : (zTT sg n).nu (j + 1) < bR X.1 := by
        by_cases y : (zTT sg n).nu (j + 1) < bR X.1
        · exact y
        · exact absurd ((zi_le (by omega) (by omega)).mpr (by omega)) z
      rw [zi_nat (show (zTT sg n).nu (j + 1) < 2 ^ 31 by omega), cx1.2.2.2.2.2.2.1 _ l8]
      refine ⟨zi_in l8 (by omega), fun y => hJ73 (fun _ => y), fun y => ?_⟩
      have e1 : zNe (zTT sg n) (j + 1) 0 (bR X.1) = 0 := by rw [zNe, if_pos e, if_pos ⟨Nat.zero_le _, lR⟩]
      refine q10_wrong (x := 3) ct1 (fun v ev => ⟨Or.inl rfl, q1_err (b := b) (j := j) (X := X) ct1 (by decide) (zfB_T f1) ?_ herr v ev⟩)
      rw [zLnA, if_pos e1, if_neg (show ¬ bCt X.1 ((zTT sg n).nu (j + 1)) = zN1 from y)]
theorem q1_readRules {sg : Nat → Nat} {n m b : Nat} (hsg : zSg sg n) (hm : zTm (zTT sg n) m) (hb : b = 40 ∨ b = 80) : zCl sg n m b fX1_readRules (zLnL (zTT sg n)) := by
  intro j X w k hj hX hct hcx hok herr
  obtain ⟨⟨hW, hR, hC⟩, -, -, -, -, -, h7, -⟩ := hX
  rw [fX1_readRules, hcx.2.2.2.2.2.2.2.1]
  by_cases e1 : X.2.2.isSome = true
  · rw [if_pos e1]
    refine ⟨fun q => absurd q (by decide), fun _ => q10_wrong (x := 3) hct (fun v ev => ⟨Or.inl rfl, q1_err (b := b) (j := j) (X := X) hct (by decide) (zfB_refl _ _) ?_ herr v ev⟩)⟩
    rw [zLnL, if_pos e1]
  · rw [if_neg e1]
    refine ⟨fun _ => ?_, fun q => absurd rfl q⟩
    intro w2 e2
    have ct2 : zCt sg n j w2 := zCt_of hct (fun c _ => by rw [e2, gI_sI_ne (by decide)]) (fun c => by rw [e2, gI_sI_ne (by decide)]) (by rw [e2]; rfl)
    refine q10_nx hsg ct2 (fun v3 f3 ct3 => ?_)
    rw [fX7_read]
    intro w1 ew1
    have ct1 : zCt sg n (j + 1) w1 := zCt_of ct3 (fun c _ => by rw [ew1, gI_sI_ne (by decide)]) (fun c => by rw [ew1, gI_sI_ne (by decide)]) (by rw [ew1]; rfl)
    have i1 : ∀ a c, a ≠ 2 → ¬ (a = 6 ∧ c = 3) → ¬ (a = 4 ∧ c = 4) → gI w1 a c = gI w a c := fun a c q1 q2 q3 => by rw [ew1, gI_sI, if_neg q2, f3.1 a c (by omega), e2, gI_sI, if_neg q3]
    have l1 : ∀ a c, ¬ (a = 2 ∧ c = 7) → gL w1 a c = gL w a c := fun a c q => by rw [ew1, gL_sI, f3.2.1 a c q, e2, gL_sI]
    have r1 : ∀ a c, gR w1 a c = gR w a c := fun a c => by rw [ew1, gR_sI, f3.2.2, e2, gR_sI]
    have g44 : gI w1 4 4 = 1 := by rw [ew1, gI_sI_ne (by decide), f3.1 4 4 (by omega), e2, gI_sI_eq]
    have fw1 : zfB b w w1 := by
      refine ⟨fun a c q1 q2 q3 q4 q5 q6 => ?_, fun a c q1 _ => l1 a c q1, r1⟩
      rw [ew1, gI_sI, if_neg q4, f3.1 a c (by omega), e2, gI_sI, if_neg (by omega)]
    have cs1 : zCS sg n (zSu0 (j + 1)) w1 := ⟨ct1, by rw [ew1, gI_sI_eq]; rfl, fun i hi => absurd hi (Nat.not_lt_zero i)⟩
    refine q7_readAllT hsg hm (zSu0 (j + 1)) w1 _ (Nat.succ_pos j) (show j + 1 ≤ m by omega) cs1 (fun v4 f4 e4 hv4 => ⟨Or.inr rfl, fun q => absurd q (by decide), fun _ => ?_⟩) (fun v4 f4 e4 h8 => ⟨Or.inl rfl, fun _ => ?_, fun q => absurd rfl q⟩)
    · have ez : zLnL (zTT sg n) j X = (0, (zRl (zTT sg n) (zSu0 (j + 1))).2.1, uL X (zRl (zTT sg n) (zSu0 (j + 1))).2.2.1 (zRl (zTT sg n) (zSu0 (j + 1))).2.2.2) := by rw [zLnL, if_neg e1, if_pos e4]
      rw [ez] at hok herr
      obtain ⟨g1, ⟨g2, g3, g4⟩, g5, g6, g7, g8, g9, g10, g11, g12, g13, g14⟩ := hcx
      have i4 : ∀ a c, a ≠ 2 → a ≠ 6 → a ≠ 7 → a ≠ 4 → gI v4 a c = gI w a c := fun a c q1 q2 q3 q4 => by rw [f4.1 a c (by omega) (by omega) q3]; exact i1 a c q1 (by omega) (by omega)
      refine q1_endK (j := (zRl (zTT sg n) (zSu0 (j + 1))).2.1) (X := uL X (zRl (zTT sg n) (zSu0 (j + 1))).2.2.1 (zRl (zTT sg n) (zSu0 (j + 1))).2.2.2) hsg hb hR (zfB_trans fw1 (zfB_R f4)) hv4.1 ?_ hok herr (fun v q v7 e7 => by rw [e7]; exact ⟨Or.inr rfl, q⟩) (fun v q v7 e7 => by rw [e7]; exact ⟨Or.inl rfl, q⟩)
      refine ⟨by rw [f4.2.2, r1]; exact g1, ⟨by rw [i4 _ _ (by omega) (by omega) (by omega) (by omega)]; exact g2, by rw [i4 _ _ (by omega) (by omega) (by omega) (by omega)]; exact g3, by rw [i4 _ _ (by omega) (by omega) (by omega) (by omega)]; exact g4⟩, zNm32_of g5 (fun o => by rw [f4.2.1 _ _ (by omega), l1 _ _ (by omega)]), fun o ho => by rw [i4 _ _ (by omega) (by omega) (by omega) (by omega)]; exact g6 o ho, fun r hr => by rw [i4 _ _ (by omega) (by omega) (by omega) (by omega)]; exact g7 r hr, fun r i hr hi => by rw [i4 _ _ (by omega) (by omega) (by omega) (by omega)]; exact g8 r i hr hi, fun r hr => by rw [i4 _ _ (by omega) (by omega) (by omega) (by omega)]; exact g9 r hr, ?_, fun q => (nomatch (show some ((zRl (zTT sg n) (zSu0 (j + 1))).2.2.1, (zRl (zTT sg n) (zSu0 (j + 1))).2.2.2) = none from q)), fun n' g' q => ?_, fun o ho => by rw [i4 _ _ (by omega) (by omega) (by omega) (by omega), i4 _ _ (by omega) (by omega) (by omega) (by omega)]; exact g13 o ho, fun r hr => by rw [i4 _ _ (by omega) (by omega) (by omega) (by omega)]; exact g14 r hr⟩
      · rw [f4.1 4 4 (by omega) (by omega) (by omega)]; exact g44
      · have q' : some ((zRl (zTT sg n) (zSu0 (j + 1))).2.2.1, (zRl (zTT sg n) (zSu0 (j + 1))).2.2.2) = some (n', g') := q
        injection q' with q'
        injection q' with qa qb
        rw [← qa, ← qb]
        exact hv4.2
    · have ez : zLnL (zTT sg n) j X = ((zRl (zTT sg n) (zSu0 (j + 1))).1, j, X) := by rw [zLnL, if_neg e1, if_neg e4]
      rw [ez, zEnd_e e4] at herr
      exact herr v4 (zfB_trans fw1 (zfB_R f4)) e4 h8
theorem q1_readRow {sg : Nat → Nat} {n m b : Nat} (hsg : zSg sg n) (hm : zTm (zTT sg n) m) (hb : b = 40 ∨ b = 80) : zCl sg n m b fX1_readRow (zLnR (zTT sg n)) := by
  intro j X w k hj hX hct hcx hok herr
  obtain ⟨⟨hW, hR, hC⟩, -, -, -, -, -, h7, -⟩ := hX
  have hm1 := hm.1
  rw [fX1_readRow, hcx.1, hcx.2.1.2.2]
  refine ⟨by omega, fun q => ?_, fun q => ?_⟩
  · have q' := (zi_lt (b := 8) (by omega) (by decide)).mp q
    refine q10_nx hsg hct (fun v1 f1 ct1 => ?_)
    intro w4 e4
    have ct4 : zCt sg n (j + 1) w4 := zCt_of ct1 (fun c _ => by rw [e4, gI_sI_ne (by decide)]) (fun c => by rw [e4, gI_sI_ne (by decide)]) (by rw [e4]; rfl)
    have cx4 : zCX b X w4 := zCX_of hb hR (zCX_T hb hR hcx f1) (fun a c q1 q2 q3 q4 => by rw [e4, gI_sI, if_neg q2]) (fun a c q => by rw [e4]; rfl) (by rw [e4]; rfl)
    have f4 : zfB b w w4 := zfB_trans (zfB_T f1) ⟨fun a c q1 q2 q3 q4 q5 q6 => by rw [e4, gI_sI, if_neg (by omega)], fun a c _ _ => by rw [e4]; rfl, fun a c => by rw [e4]; rfl⟩
    have lr4 : zLr b (bR X.1) zRow0 w4 := ⟨by rw [e4, gI_sI_eq]; rfl, fun i _ hi => absurd hi (Nat.not_lt_zero i)⟩
    have hL0 : zRok (bW X.1) zRow0 := ⟨show 0 ≤ 61 by omega, fun i hi => absurd hi (Nat.not_lt_zero _)⟩
    obtain ⟨o1, o2⟩ := zIs_ok (W := bW X.1) (nm := X.2.1) hsg.1 hm 3
    have p1 := (o1 (j + 1, zRow0) (show j + 1 ≤ m by omega) hL0).1
    have p3 := o2 (j + 1, zRow0) (show j + 1 ≤ m by omega) hL0
    have eR : ¬ 8 ≤ bR X.1 := by omega
    refine ⟨1003, q1_items (k := k) hsg hm hb q' hW h7 3 0 rfl (fun _ => 0) 0 0 1003 (j + 1, zRow0) w4 rfl (Nat.zero_le _) (show j + 1 ≤ m by omega) hL0 ⟨⟨ct4, ⟨cx4.1, cx4.2.1.2.2, cx4.2.1.1, cx4.2.2.1⟩, lr4⟩, fun p hp => absurd hp (Nat.not_lt_zero p)⟩ (Or.inl rfl) (fun v i' N' hN' hi' fv e0 hv => ?_) (fun v fv e0 h8 => ?_)⟩
    · obtain ⟨q1, q2, q3, q4, q5⟩ := p1 e0
      have pm := p3 e0
      have cxv : zCX b X v := zCX_of hb hR cx4 (fun a c q1 q2 q3 q4 => by
        rcases q4 with q4 | q4
        · exact fv.1 a c (by omega) q2 q3 q4
        · omega) (fun a c q => fv.2.1 a c q) (fv.2.2 4 3)
      have ffv : zfB b w v := zfB_trans f4 (zfB_I hR fv)
      have ez : zLnR (zTT sg n) j X = (if zSn (zTT sg n) 59 (zIs (zTT sg n) X.2.1 (bW X.1) 3 (j + 1, zRow0)).2.1 = true ∧ 60 < (zIs (zTT sg n) X.2.1 (bW X.1) 3 (j + 1, zRow0)).2.2.1 then (5 + 16 * (zTT sg n).pl (zIs (zTT sg n) X.2.1 (bW X.1) 3 (j + 1, zRow0)).2.1, j, X) else (0, (zIs (zTT sg n) X.2.1 (bW X.1) 3 (j + 1, zRow0)).2.1, uR X (zIs (zTT sg n) X.2.1 (bW X.1) 3 (j + 1, zRow0)).2.2)) := by rw [zLnR, if_neg eR, if_pos e0]
      rw [ez] at hok herr
      generalize zIs (zTT sg n) X.2.1 (bW X.1) 3 (j + 1, zRow0) = r at q1 q2 q3 q4 q5 pm hv hok herr hi'
      obtain ⟨⟨cv1, cv2, cv3⟩, -⟩ := hv
      obtain ⟨nm40, nmd⟩ := zMor_s pm
      obtain ⟨N2, rfl⟩ : ∃ N2, N' = N2 + 1 := ⟨N' - 1, by omega⟩
      rw [fX1_readRow_L39]
      refine ⟨fun y => absurd ((zi_lt (a := 1000) (by decide) (by omega)).mp y) (by omega), fun _ => ⟨fun y => absurd y (by decide), fun _ => ⟨fun y => absurd rfl y, fun _ => ?_⟩⟩⟩
      refine q10_sn (c := 59) hsg cv1 (by decide) (fun y => ⟨fun z => absurd z (by decide), fun _ => ?_⟩) (fun y => ⟨fun _ => ?_, fun z => absurd rfl z⟩)
      · rw [fX1_endRow, cv3.1, cv2.1, cv2.2.1]
        have l61 := q3.1
        refine ⟨fun z => ⟨by omega, ?_⟩, fun z => ?_⟩
        · have z' := (zi_le (b := 60) (by omega) (by decide)).mp z
          have ez2 : (if zSn (zTT sg n) 59 r.2.1 = true ∧ 60 < r.2.2.1 then (5 + 16 * (zTT sg n).pl r.2.1, j, X) else (0, r.2.1, uR X r.2.2)) = ((0, r.2.1, uR X r.2.2) : zRs) := if_neg (fun q => by have := q.2; omega)
          have ez3 : zEnd (zTT sg n) (0, r.2.1, uR X r.2.2) = (0, r.2.1 + 1, uR X r.2.2) := by show (if (0 : Nat) = 0 then _ else _) = _; rw [if_pos rfl, if_pos y]
          rw [ez2, ez3] at hok
          rw [zi_nat (show bR X.1 < 2 ^ 31 by omega)]
          refine ⟨zi_in q' (by omega), ?_⟩
          intro w4 e4
          have r4 : gR w4 4 3 = b := by rw [e4]; exact cv2.1
          have g47 : gI w4 b 7 = Int32.ofNat (bR X.1) := by rw [e4, gI_sI_ne (by omega)]; exact cv2.2.1
          rw [r4, g47, zl1, zi_add]
          refine ⟨by omega, ?_⟩
          intro w6 e6
          have i6 : ∀ a c, ¬ (a = b + 10 ∧ c = bR X.1) → ¬ (a = b ∧ c = 7) → gI w6 a c = gI v a c := fun a c q1 q2 => by rw [e6, gI_sI, if_neg q2, e4, gI_sI, if_neg q1]
          have ct6 : zCt sg n r.2.1 w6 := zCt_of cv1 (fun c _ => i6 2 c (by omega) (by omega)) (fun c => i6 3 c (by omega) (by omega)) (by rw [e6, e4]; rfl)
          obtain ⟨g1, ⟨g2, g3, g4⟩, g5, g6, g7, g8, g9, g10, g11, g12, g13, g14⟩ := cxv
          have cx6 : zCX b (uR X r.2.2) w6 := by
            refine ⟨by rw [e6]; exact r4, ⟨by rw [i6 _ _ (by omega) (by omega)]; exact g2, by rw [i6 _ _ (by omega) (by omega)]; exact g3, by rw [e6, gI_sI_eq]; rfl⟩, zNm32_of g5 (fun o => by rw [e6, e4]; rfl), fun o ho => by rw [i6 _ _ (by omega) (by omega)]; exact g6 o ho, fun r' hr' => ?_, fun r' i hr' hi => ?_, fun r' hr' => by rw [i6 _ _ (by omega) (by omega)]; exact g9 r' hr', by rw [i6 _ _ (by omega) (by omega)]; exact g10, fun q => by rw [i6 _ _ (by omega) (by omega), i6 _ _ (by omega) (by omega)]; exact g11 q, fun n' g' q => ⟨by rw [i6 _ _ (by omega) (by omega)]; exact (g12 n' g' q).1, fun i hi => by rw [i6 _ _ (by omega) (by omega)]; exact (g12 n' g' q).2 i hi⟩, fun o ho => by rw [i6 _ _ (by omega) (by omega), i6 _ _ (by omega) (by omega)]; exact g13 o ho, fun r' hr' => by rw [i6 _ _ (by omega) (by omega)]; exact g14 r' hr'⟩
            · have hr'' : r' < bR X.1 + 1 := hr'
              show _ = Int32.ofNat (if r' = bR X.1 then r.2.2.1 else bLn X.1 r')
              by_cases z : r' = bR X.1
              · rw [if_pos z, e6, gI_sI_ne (by omega), e4, z, gI_sI_eq]
              · rw [if_neg z, i6 _ _ (by omega) (by omega)]; exact g7 r' (by omega)
            · have hr'' : r' < bR X.1 + 1 := hr'
              have hi' : i < (if r' = bR X.1 then r.2.2.1 else bLn X.1 r') := hi
              show _ = Int32.ofNat (if r' = bR X.1 then r.2.2.2 i else bIt X.1 r' i)
              by_cases z : r' = bR X.1
              · rw [if_pos z] at hi' ⊢
                rw [i6 _ _ (by omega) (by omega), z]; exact cv3.2 i (by omega) hi'
              · rw [if_neg z] at hi' ⊢
                rw [i6 _ _ (by omega) (by omega)]; exact g8 r' i (by omega) hi'
          have s4 : zfB b v w4 := by rw [e4]; exact zfB_b _ _ _ (by omega)
          have s6 : zfB b w4 w6 := by rw [e6]; exact zfB_b _ _ _ (by omega)
          have ff6 : zfB b w w6 := zfB_trans ffv (zfB_trans s4 s6)
          exact q10_nx hsg ct6 (fun v7 f7 ct7 => ⟨Or.inr rfl, hok v7 (zfB_trans ff6 (zfB_T f7)) rfl ct7 (zCX_T hb (show bR X.1 + 1 ≤ 8 by omega) cx6 f7)⟩)
        · have z' : 60 < r.2.2.1 := by
            by_cases y2 : 60 < r.2.2.1
            · exact y2
            · exact absurd ((zi_le (b := 60) (by omega) (by decide)).mpr (by omega)) z
          refine q10_wrong (x := 5) cv1 (fun v5 ev => ⟨Or.inl rfl, Or.inl rfl, q1_err (b := b) (j := j) (X := X) cv1 (by decide) ffv ?_ herr v5 ev⟩)
          exact if_pos ⟨y, z'⟩
      · have ez2 : (if zSn (zTT sg n) 59 r.2.1 = true ∧ 60 < r.2.2.1 then (5 + 16 * (zTT sg n).pl r.2.1, j, X) else (0, r.2.1, uR X r.2.2)) = ((0, r.2.1, uR X r.2.2) : zRs) := if_neg (fun q => y q.1)
        have ez3 : zEnd (zTT sg n) (0, r.2.1, uR X r.2.2) = (1 + 16 * (zTT sg n).pl r.2.1, r.2.1, uR X r.2.2) := by show (if (0 : Nat) = 0 then _ else _) = _; rw [if_pos rfl, if_neg y]
        rw [ez2, ez3] at herr
        rw [fX1_readRow_J71]
        refine q10_sn (c := 40) hsg cv1 (by decide) (fun z => absurd z nm40) (fun _ => ⟨fun _ => ⟨fun z => absurd z (by decide), fun _ => ⟨fun _ => ?_, fun z => absurd (by decide) z⟩⟩, fun z => absurd rfl z⟩)
        rw [fX1_readRow_J164]
        have ez4 : zNd (zTT sg n) X.2.1 (bW X.1) r.2 = (1 + 16 * (zTT sg n).pl r.2.1, r.2) := by
          have em : zMe (zTT sg n) X.2.1 (bW X.1) r.2.1 = 1 := by rw [zMe, if_neg nmd]
          rw [zNd, if_neg (by rw [em]; decide), em]
        refine q1_readNamed (s := r.2) hsg hb q' hW h7 q3 ⟨cv1, cv2, cv3⟩ (fun v4 f4 v45 e4 hv4 => ?_) (fun v4 f4 e4 h8 => ⟨fun z => absurd rfl z, fun _ => ?_⟩)
        · rw [ez4] at e4
          have e4' : 1 + 16 * (zTT sg n).pl r.2.1 = 0 := e4
          omega
        · rw [ez4] at e4 h8
          exact herr v4 (zfB_trans ffv (zfB_I hR f4)) e4 h8
    · have ez : zLnR (zTT sg n) j X = ((zIs (zTT sg n) X.2.1 (bW X.1) 3 (j + 1, zRow0)).1, j, X) := by rw [zLnR, if_neg eR, if_neg e0]
      rw [ez, zEnd_e e0] at herr
      exact herr v (zfB_trans f4 (zfB_I hR fv)) e0 h8
  · have q' : 8 ≤ bR X.1 := by
      by_cases z : 8 ≤ bR X.1
      · exact z
      · exact absurd ((zi_lt (b := 8) (by omega) (by decide)).mpr (by omega)) q
    refine q10_wrong (x := 5) hct (fun v ev => ⟨Or.inl rfl, q1_err (b := b) (j := j) (X := X) hct (by decide) (zfB_refl _ _) ?_ herr v ev⟩)
    rw [zLnR, if_pos q']

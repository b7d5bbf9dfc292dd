/-! Level 2: the calls that look at the book and the hand alone -/
/-- which rooms are made -/
def zfl (w v : zW) : Prop := gI v 0 140 = gI w 0 140 ∧ gR v 24 4 = gR w 24 4
theorem zInv_t {B : zBk} {S : Nat → Int32} {N : zNt} {b nn : Nat} {w : zW} (h : zInv B S N b nn w) (x : Int32) : zInv B S N b nn (sI w 200 0 x) :=
  zInv_of h (fun a c q => by rw [gI_sI]; exact if_neg (fun z => by unfold zkeep at q; omega)) rfl
theorem zc_same {a : Int32} {p q : Prop} (hp : p) : (a = a → p) ∧ (¬ a = a → q) := ⟨fun _ => hp, fun z => absurd rfl z⟩
theorem zi_4 (y : Int32) : y = Int32.ofNat 0 ∨ y = Int32.ofNat 1 ∨ y = Int32.ofNat 2 ∨ y = Int32.ofNat 3 ∨ (¬ y = 0 ∧ ¬ y = 1 ∧ ¬ y = 2 ∧ ¬ y = 3) := by
  by_cases h0 : y = 0
  · exact Or.inl h0
  · by_cases h1 : y = 1
    · exact Or.inr (Or.inl h1)
    · by_cases h2 : y = 2
      · exact Or.inr (Or.inr (Or.inl h2))
      · by_cases h3 : y = 3
        · exact Or.inr (Or.inr (Or.inr (Or.inl h3)))
        · exact Or.inr (Or.inr (Or.inr (Or.inr ⟨h0, h1, h2, h3⟩)))
/-- none of the numbers 0 to 3 -/
theorem q12_within3 {y : Int32} {w : zW} {k : Int32 → zW → Prop} (h : ¬ y = 0 ∧ ¬ y = 1 ∧ ¬ y = 2 ∧ ¬ y = 3) (hk : k (Int32.ofNat 0) w) : fX12_within y (0 : Int32) (3 : Int32) w k := by
  rcases zi_cases y with hy | ⟨a, ha, rfl⟩
  · exact q12_withinN (lo := 0) hy (by decide) hk
  · refine q12_within (lo := 0) (hi := 3) ha (by decide) (by decide) ?_
    have e0 : a ≠ 0 := fun q => h.1 (by rw [q]; rfl)
    have e1 : a ≠ 1 := fun q => h.2.1 (by rw [q]; rfl)
    have e2 : a ≠ 2 := fun q => h.2.2.1 (by rw [q]; rfl)
    have e3 : a ≠ 3 := fun q => h.2.2.2 (by rw [q]; rfl)
    rw [if_neg (by omega)]
    exact hk
theorem c_term {B : zBk} {S : Nat → Int32} {N : zNt} {b nn : Nat} {x y : Int32} {w : zW} {k k0 : zW → Prop} (h : zInv B S N b nn w) (hk : ∀ v, zInv B S N b nn v → zfl w v → k v) : fX11_term x y w (fun r1 w1 => fX12_term x y w1 (fun r2 w2 => (r1 = r2 → k w2) ∧ (¬ r1 = r2 → k0 w2))) := by
  have hwf := iv_wf h
  have hrb := iv_rb h
  have hcb := iv_cb h
  have h4 := wf_W hwf
  have hb := (iv_re h).2.1
  have hb0 : ¬ b = 0 := by have := (iv_re h).1; omega
  have hkv := hk _ (zInv_t h 0) ⟨rfl, rfl⟩
  rw [fX11_term]
  rcases zi_cases x with hx | ⟨a, ha, rfl⟩
  · refine q11_isWordN hx ⟨fun q => absurd rfl q, fun _ => ?_⟩
    intro w1 e
    subst e
    exact q12_isTermN hx ⟨fun _ => zc_same hkv, fun q => absurd rfl q⟩
  · refine q11_isWord hwf hb hb0 (cb_W hcb) ha ?_
    by_cases ho : a < bW B
    · rw [if_pos ho]
      rcases zi_4 y with rfl | rfl | rfl | rfl | hy
      · simp (disch := omega) only [hb, hb0, cb_Kd hcb ho, fX12_term, fX12_isTerm, fX12_wordsTold, rb_W hrb, fX12_within, rb_Kd hrb ho, ↓zln1, ↓zln2, zl0, zl1, zl2, zl3, zl4, zl5, zl6, zl7, zl8, zl9, zl10, zl12, zl15, zl16, zl20, zl24, zl30, zl32, zl36, zl40, zl48, zl57, zl59, zl60, zl61, zl97, zl99, zl120, zl121, zl122, zl126, zl165, zl255, zl480, zl968, zl1000, zl1100, zi_add, zi_mul, zi_sub, zi_div, zi_mod, zi_nat, zt_le, zf_le, zt_lt, zf_lt, zt_eq, zf_eq, zt_vp, zt_N1lt, zf_N1lt, zf_N1eq, zf_eqN1, zt_N1eq, zt_N1le, zf_leN1, zi_nN1, zi_a1, zi_a15, zi_a255, zi_shr, zi_bit, zt_b0, zt_b1, forall_eq, if_true, if_false, true_implies, false_implies, not_true_eq_false, not_false_eq_true, and_true, true_and, gI_sI_eq, gI_sI_ne, gI_sI_ne2, gL_sI, gR_sI, gI_sL, gL_sL_eq, gL_sL_ne, gL_sL_ne2, gR_sL, gI_sR, gL_sR, gR_sR_eq, gR_sR_ne, gR_sR_ne2, gI_aI_eq, gI_aI_ne, gL_aI, gR_aI]
        exact hkv
      · simp (disch := omega) only [fX3_guessOf, (iv_ha h).2.2 a (by omega), fX12_term, fX12_isTerm, fX12_wordsTold, rb_W hrb, fX12_within, (iv_ha h).2.1 a (by omega), ↓zln1, ↓zln2, zl0, zl1, zl2, zl3, zl4, zl5, zl6, zl7, zl8, zl9, zl10, zl12, zl15, zl16, zl20, zl24, zl30, zl32, zl36, zl40, zl48, zl57, zl59, zl60, zl61, zl97, zl99, zl120, zl121, zl122, zl126, zl165, zl255, zl480, zl968, zl1000, zl1100, zi_add, zi_mul, zi_sub, zi_div, zi_mod, zi_nat, zt_le, zf_le, zt_lt, zf_lt, zt_eq, zf_eq, zt_vp, zt_N1lt, zf_N1lt, zf_N1eq, zf_eqN1, zt_N1eq, zt_N1le, zf_leN1, zi_nN1, zi_a1, zi_a15, zi_a255, zi_shr, zi_bit, zt_b0, zt_b1, forall_eq, if_true, if_false, true_implies, false_implies, not_true_eq_false, not_false_eq_true, and_true, true_and, gI_sI_eq, gI_sI_ne, gI_sI_ne2, gL_sI, gR_sI, gI_sL, gL_sL_eq, gL_sL_ne, gL_sL_ne2, gR_sL, gI_sR, gL_sR, gR_sR_eq, gR_sR_ne, gR_sR_ne2, gI_aI_eq, gI_aI_ne, gL_aI, gR_aI]
        first | exact zc_same hkv | exact hkv
      · simp (disch := omega) only [hb, hb0, cb_Sz hcb (show a < 4 by omega), fX12_term, fX12_isTerm, fX12_wordsTold, rb_W hrb, fX12_within, rb_Sz hrb (show a < 4 by omega), ↓zln1, ↓zln2, zl0, zl1, zl2, zl3, zl4, zl5, zl6, zl7, zl8, zl9, zl10, zl12, zl15, zl16, zl20, zl24, zl30, zl32, zl36, zl40, zl48, zl57, zl59, zl60, zl61, zl97, zl99, zl120, zl121, zl122, zl126, zl165, zl255, zl480, zl968, zl1000, zl1100, zi_add, zi_mul, zi_sub, zi_div, zi_mod, zi_nat, zt_le, zf_le, zt_lt, zf_lt, zt_eq, zf_eq, zt_vp, zt_N1lt, zf_N1lt, zf_N1eq, zf_eqN1, zt_N1eq, zt_N1le, zf_leN1, zi_nN1, zi_a1, zi_a15, zi_a255, zi_shr, zi_bit, zt_b0, zt_b1, forall_eq, if_true, if_false, true_implies, false_implies, not_true_eq_false, not_false_eq_true, and_true, true_and, gI_sI_eq, gI_sI_ne, gI_sI_ne2, gL_sI, gR_sI, gI_sL, gL_sL_eq, gL_sL_ne, gL_sL_ne2, gR_sL, gI_sR, gL_sR, gR_sR_eq, gR_sR_ne, gR_sR_ne2, gI_aI_eq, gI_aI_ne, gL_aI, gR_aI]
        exact hkv
      · simp (disch := omega) only [hb, hb0, cb_Us hcb (show a < 4 by omega), fX12_term, fX12_isTerm, fX12_wordsTold, rb_W hrb, fX12_within, ↓zln1, ↓zln2, zl0, zl1, zl2, zl3, zl4, zl5, zl6, zl7, zl8, zl9, zl10, zl12, zl15, zl16, zl20, zl24, zl30, zl32, zl36, zl40, zl48, zl57, zl59, zl60, zl61, zl97, zl99, zl120, zl121, zl122, zl126, zl165, zl255, zl480, zl968, zl1000, zl1100, zi_add, zi_mul, zi_sub, zi_div, zi_mod, zi_nat, zt_le, zf_le, zt_lt, zf_lt, zt_eq, zf_eq, zt_vp, zt_N1lt, zf_N1lt, zf_N1eq, zf_eqN1, zt_N1eq, zt_N1le, zf_leN1, zi_nN1, zi_a1, zi_a15, zi_a255, zi_shr, zi_bit, zt_b0, zt_b1, forall_eq, if_true, if_false, true_implies, false_implies, not_true_eq_false, not_false_eq_true, and_true, true_and, gI_sI_eq, gI_sI_ne, gI_sI_ne2, gL_sI, gR_sI, gI_sL, gL_sL_eq, gL_sL_ne, gL_sL_ne2, gR_sL, gI_sR, gL_sR, gR_sR_eq, gR_sR_ne, gR_sR_ne2, gI_aI_eq, gI_aI_ne, gL_aI, gR_aI]
        refine q12_usesOf hwf (iv_rb (zInv_t h _)) (by omega) ?_
        first | exact zc_same hkv | exact hkv
      · refine ⟨fun _ => ?_, fun q => absurd q (by decide)⟩
        intro sv e
        subst e
        refine ⟨fun q => absurd q hy.1, fun _ => ⟨fun q => absurd q hy.2.1, fun _ => ⟨fun q => absurd q hy.2.2.1, fun _ => ⟨fun q => absurd q hy.2.2.2, fun _ => ?_⟩⟩⟩⟩
        intro w1 e
        subst e
        refine q12_isTerm hwf (rb_W (iv_rb (zInv_t h 0))) ha ?_
        rw [if_pos ho]
        refine ⟨fun q => absurd q (by decide), fun _ => ?_⟩
        exact q12_within3 hy ⟨fun q => absurd rfl q, fun _ => zc_same hkv⟩
    · rw [if_neg ho]
      refine ⟨fun q => absurd rfl q, fun _ => ?_⟩
      intro w1 e
      subst e
      refine q12_isTerm hwf (rb_W (iv_rb (zInv_t h 0))) ha ?_
      rw [if_neg ho]
      exact ⟨fun _ => zc_same hkv, fun q => absurd rfl q⟩
theorem c_there {B : zBk} {S : Nat → Int32} {N : zNt} {b nn : Nat} {x y : Int32} {w : zW} {k k0 : zW → Prop} (h : zInv B S N b nn w) (hk : ∀ v, zInv B S N b nn v → zfl w v → k v) : fX11_there x y w (fun r1 w1 => fX12_there x y w1 (fun r2 w2 => (r1 = r2 → k w2) ∧ (¬ r1 = r2 → k0 w2))) := by
  have hwf := iv_wf h
  have hrb := iv_rb h
  have hcb := iv_cb h
  have h8 := wf_R hwf
  have hb := (iv_re h).2.1
  have hb0 : ¬ b = 0 := by have := (iv_re h).1; omega
  have hkv := hk _ (zInv_t h 0) ⟨rfl, rfl⟩
  have hrb1 := iv_rb (zInv_t h 0)
  rw [fX11_there]
  rcases zi_cases x with hx | ⟨a, ha, rfl⟩
  · refine q11_isRowN hx ⟨fun _ => ?_, fun q => absurd rfl q⟩
    intro w1 e
    subst e
    exact q12_isRowN hx ⟨fun _ => zc_same hkv, fun q => absurd rfl q⟩
  · refine q11_isRow hwf hb hb0 (cb_R hcb) ha ?_
    by_cases ho : a < bR B
    · rw [if_pos ho]
      refine ⟨fun q => absurd q (by decide), fun _ => ⟨by rw [hb]; exact hb0, ?_⟩⟩
      rw [hb]
      have hl := wf_Ln hwf ho
      have hl1 := wf_Ln1 hwf ho
      have hlen : ∀ K : Int32 → zW → Prop, K (Int32.ofNat (bLn B a)) (sI w 200 0 0) → fX12_longOf (Int32.ofNat a) (sI w 200 0 0) K := fun K hK => by
        simp (disch := omega) only [fX12_longOf, rb_Ln hrb ho, ↓zln1, ↓zln2, zl0, zl1, zl2, zl3, zl4, zl5, zl6, zl7, zl8, zl9, zl10, zl12, zl15, zl16, zl20, zl24, zl30, zl32, zl36, zl40, zl48, zl57, zl59, zl60, zl61, zl97, zl99, zl120, zl121, zl122, zl126, zl165, zl255, zl480, zl968, zl1000, zl1100, zi_add, zi_mul, zi_sub, zi_div, zi_mod, zi_nat, zt_le, zf_le, zt_lt, zf_lt, zt_eq, zf_eq, zt_vp, zt_N1lt, zf_N1lt, zf_N1eq, zf_eqN1, zt_N1eq, zt_N1le, zf_leN1, zi_nN1, zi_a1, zi_a15, zi_a255, zi_shr, zi_bit, zt_b0, zt_b1, forall_eq, if_true, if_false, true_implies, false_implies, not_true_eq_false, not_false_eq_true, and_true, true_and, gI_sI_eq, gI_sI_ne, gI_sI_ne2, gL_sI, gR_sI, gI_sL, gL_sL_eq, gL_sL_ne, gL_sL_ne2, gR_sL, gI_sR, gL_sR, gR_sR_eq, gR_sR_ne, gR_sR_ne2, gI_aI_eq, gI_aI_ne, gL_aI, gR_aI]
        exact hK
      by_cases hy : ∃ i, y = Int32.ofNat i ∧ i < bLn B a
      · obtain ⟨i, rfl, hi⟩ := hy
        refine q0_wordAt hwf hcb ho hi ?_
        intro w1 e
        subst e
        refine q12_isRow hwf (rb_R hrb1) ha ?_
        rw [if_pos ho]
        refine ⟨fun q => absurd q (by decide), fun _ => hlen _ ?_⟩
        rw [zl1, zi_sub (by omega)]
        refine q12_within (lo := 0) (by omega) (by decide) (by omega) ?_
        rw [if_pos (by omega)]
        refine ⟨fun q => absurd q (by decide), fun _ => ?_⟩
        simp (disch := omega) only [fX12_itemOf, rb_It hrb ho hi, ↓zln1, ↓zln2, zl0, zl1, zl2, zl3, zl4, zl5, zl6, zl7, zl8, zl9, zl10, zl12, zl15, zl16, zl20, zl24, zl30, zl32, zl36, zl40, zl48, zl57, zl59, zl60, zl61, zl97, zl99, zl120, zl121, zl122, zl126, zl165, zl255, zl480, zl968, zl1000, zl1100, zi_add, zi_mul, zi_sub, zi_div, zi_mod, zi_nat, zt_le, zf_le, zt_lt, zf_lt, zt_eq, zf_eq, zt_vp, zt_N1lt, zf_N1lt, zf_N1eq, zf_eqN1, zt_N1eq, zt_N1le, zf_leN1, zi_nN1, zi_a1, zi_a15, zi_a255, zi_shr, zi_bit, zt_b0, zt_b1, forall_eq, if_true, if_false, true_implies, false_implies, not_true_eq_false, not_false_eq_true, and_true, true_and, gI_sI_eq, gI_sI_ne, gI_sI_ne2, gL_sI, gR_sI, gI_sL, gL_sL_eq, gL_sL_ne, gL_sL_ne2, gR_sL, gI_sR, gL_sR, gR_sR_eq, gR_sR_ne, gR_sR_ne2, gI_aI_eq, gI_aI_ne, gL_aI, gR_aI]
        exact hkv
      · have hy2 : y < 0 ∨ ∃ i, y = Int32.ofNat i ∧ i < 2 ^ 31 ∧ bLn B a ≤ i := by
          rcases zi_cases y with q | ⟨i, q1, q2⟩
          · exact Or.inl q
          · exact Or.inr ⟨i, q2, q1, Nat.le_of_not_lt fun q => hy ⟨i, q2, q⟩⟩
        refine q0_wordAtN hwf hcb ho hy2 ?_
        intro w1 e
        subst e
        refine q12_isRow hwf (rb_R hrb1) ha ?_
        rw [if_pos ho]
        refine ⟨fun q => absurd q (by decide), fun _ => hlen _ ?_⟩
        rw [zl1, zi_sub (by omega)]
        rcases hy2 with q | ⟨i, rfl, q1, q2⟩
        · exact q12_withinN (lo := 0) q (by decide) ⟨fun _ => zc_same hkv, fun q => absurd rfl q⟩
        · refine q12_within (lo := 0) (by omega) (by decide) (by omega) ?_
          rw [if_neg (by omega)]
          exact ⟨fun _ => zc_same hkv, fun q => absurd rfl q⟩
    · rw [if_neg ho]
      refine ⟨fun _ => ?_, fun q => absurd rfl q⟩
      intro w1 e
      subst e
      refine q12_isRow hwf (rb_R hrb1) ha ?_
      rw [if_neg ho]
      exact ⟨fun _ => zc_same hkv, fun q => absurd rfl q⟩
/-- one thing done on the class's side; then the reference keeps its own and does the same -/
theorem q_change {B : zBk} {S : Nat → Int32} {N : zNt} {b nn s : Nat} {x : Int32} {w : zW} {k : Int32 → zW → Prop} (h : zInv B S N b nn w) (hs : s < 12) (hx : zHd B (zup S s x))
    (hk : ∀ v : zW, v.2 = w.2 → (∀ a c, 200 ≤ a → gI v a c = gI w a c) → (∀ K : Int32 → zW → Prop, (∀ u, zInv B (zup S s x) N b nn u → zfl w u → K (S s) u) → fX12_keeps (sI v 200 0 (Int32.ofNat 0)) (fun w6 => K (gI w6 220 s) (sI w6 220 s x))) → k (S s) v) :
    fX11_change (Int32.ofNat s) x w k := by
  obtain ⟨n, P, h16, p2, p3, p4, p5, p6, p7⟩ := iv_pa h
  have hha := iv_ha h
  refine q11_change hha hs p3 h16 (fun v e2 hf h10 h24 h31 h21 h22 h23 => ?_)
  refine hk v e2 (fun a c q => hf a c (by omega) (by omega) (by omega) (by omega) (by omega) (by omega)) (fun K hK => ?_)
  refine q12_keeps (n := n) (by rw [gI_sI_ne2 (by decide), hf 200 21 (by omega) (by omega) (by omega) (by omega) (by omega) (by omega)]; exact p2) h16 (fun u u2 uf u60 u21 uP => ?_)
  have e220 : ∀ i, gI v 220 i = gI w 220 i := fun i => hf 220 i (by omega) (by omega) (by omega) (by omega) (by omega) (by omega)
  have es : gI u 220 s = S s := by
    rw [u60 s (by omega), gI_sI_ne (by decide), e220]
    exact hha.2.1 s hs
  rw [es]
  have hg : ∀ a c, a ≠ 220 → (a = 200 → c ≠ 21 ∧ c ≠ 0) → gI (sI u 220 s x) a c = gI v a c := fun a c q1 q2 => by
    rw [gI_sI_ne q1, uf a c q1 (fun q => (q2 q).1), gI_sI]
    exact if_neg (fun q => (q2 q.1).2 q.2)
  refine hK _ (zInv_change h hs hx h16 p4 p5 p6 p7 (u2.trans e2) (fun a c n1 n2 n3 n4 n5 n6 n7 n8 => ?_) (fun i hi => ?_) ?_ ?_ ?_ (fun j hj => ?_) (fun j hj => ?_) (fun i hi => ?_) (fun i q1 q2 => ?_) ?_ (fun j i hj hi => ?_)) ⟨?_, ?_⟩
  · rw [hg a c n4 n8]
    exact hf a c n1 n2 n3 n5 n6 n7
  · rw [hg 10 i (by omega) (by omega)]; exact h10 i hi
  · rw [hg 24 1 (by omega) (by omega)]; exact h24
  · rw [hg 31 0 (by omega) (by omega)]; exact h31
  · rw [hg 21 0 (by omega) (by omega)]; exact h21
  · rw [hg 22 j (by omega) (by omega)]; exact h22 j hj
  · rw [hg 23 j (by omega) (by omega)]; exact h23 j hj
  · rw [gI_sI]
    by_cases e : i = s
    · rw [if_pos ⟨rfl, e⟩, e, zup_eq]
    · rw [if_neg (fun q => e q.2), u60 i (by omega), gI_sI_ne (by decide), e220, zup_ne S x e]
      exact hha.2.1 i hi
  · rw [gI_sI, if_neg (by omega), u60 i q2, gI_sI_ne (by decide), e220]
  · rw [gI_sI_ne (by decide)]; exact u21
  · rw [gI_sI, if_neg (by omega), uP j i hj hi, gI_sI_ne (by decide), gI_sI_ne (by decide), e220, e220]
    by_cases e : j = n - (if n = 16 then 1 else 0)
    · rw [if_pos e, if_pos e]
      exact hha.2.1 i hi
    · rw [if_neg e, if_neg e]
  · rw [hg 0 140 (by omega) (by omega)]
    exact hf 0 140 (by omega) (by omega) (by omega) (by omega) (by omega) (by omega)
  · exact zr2 (v := sI u 220 s x) (u2.trans e2) 24 4
theorem zsm_m {n N : Nat} (h : n < N) : zsm N (Int32.ofNat n) := Or.inr ⟨n, h, rfl⟩
theorem c_forget {B : zBk} {S : Nat → Int32} {N : zNt} {b nn : Nat} {x : Int32} {w : zW} {k k0 : zW → Prop} (h : zInv B S N b nn w) (hk : ∀ S' v, zInv B S' N b nn v → zfl w v → k v) : fX11_forget x w (fun r1 w1 => fX12_forget x w1 (fun r2 w2 => (r1 = r2 → k w2) ∧ (¬ r1 = r2 → k0 w2))) := by
  have hwf := iv_wf h
  have hrb := iv_rb h
  have hcb := iv_cb h
  have h4 := wf_W hwf
  have hb := (iv_re h).2.1
  have hb0 : ¬ b = 0 := by have := (iv_re h).1; omega
  have hkv := hk _ _ (zInv_t h 0) ⟨rfl, rfl⟩
  have hrb1 := iv_rb (zInv_t h 0)
  rw [fX11_forget]
  rcases zi_cases x with hx | ⟨a, ha, rfl⟩
  · refine q11_isWordN hx ⟨fun _ => ?_, fun q => absurd rfl q⟩
    refine ⟨fun _ => ?_, fun q => absurd rfl q⟩
    intro w1 e
    subst e
    exact q12_isTermN hx ⟨fun _ => zc_same hkv, fun q => absurd rfl q⟩
  · refine q11_isWord hwf hb hb0 (cb_W hcb) ha ?_
    by_cases ho : a < bW B
    · rw [if_pos ho]
      refine ⟨fun q => absurd q (by decide), fun _ => ?_⟩
      refine q3_guessOf (by omega) ?_
      rw [(iv_ha h).2.2 a (by omega)]
      rcases (iv_ha h).1.1 a (by omega) with e | ⟨m, m1, m2⟩
      · rw [e]
        intro v6 e6
        obtain rfl : v6 = _ := e6.trans (if_pos rfl)
        refine ⟨fun _ => ?_, fun q => absurd rfl q⟩
        intro w1 e1
        subst e1
        refine q12_isTerm hwf (rb_W hrb1) ha ?_
        rw [if_pos ho]
        have e3 : gI w 220 a = zN1 := by rw [(iv_ha h).2.1 a (by omega)]; exact e
        simp (disch := omega) only [e3, ↓zln1, ↓zln2, zl0, zl1, zl2, zl3, zl4, zl5, zl6, zl7, zl8, zl9, zl10, zl12, zl15, zl16, zl20, zl24, zl30, zl32, zl36, zl40, zl48, zl57, zl59, zl60, zl61, zl97, zl99, zl120, zl121, zl122, zl126, zl165, zl255, zl480, zl968, zl1000, zl1100, zi_add, zi_mul, zi_sub, zi_div, zi_mod, zi_nat, zt_le, zf_le, zt_lt, zf_lt, zt_eq, zf_eq, zt_vp, zt_N1lt, zf_N1lt, zf_N1eq, zf_eqN1, zt_N1eq, zt_N1le, zf_leN1, zi_nN1, zi_a1, zi_a15, zi_a255, zi_shr, zi_bit, zt_b0, zt_b1, forall_eq, if_true, if_false, true_implies, false_implies, not_true_eq_false, not_false_eq_true, and_true, true_and, gI_sI_eq, gI_sI_ne, gI_sI_ne2, gL_sI, gR_sI, gI_sL, gL_sL_eq, gL_sL_ne, gL_sL_ne2, gR_sL, gI_sR, gL_sR, gR_sR_eq, gR_sR_ne, gR_sR_ne2, gI_aI_eq, gI_aI_ne, gL_aI, gR_aI]
        exact hkv
      · have hne : ¬ S a = zN1 := by rw [m2]; exact zN1_ne (by omega)
        intro v6 e6
        obtain rfl : v6 = _ := e6.trans (if_neg hne)
        refine ⟨fun q => absurd q (by decide), fun _ => ?_⟩
        refine q_change h (show a < 12 by omega) (x := zN1) (zHd_up (iv_ha h).1 (fun _ => ⟨Or.inl rfl, fun _ => rfl⟩) (fun r q => by omega)) (fun v v2 vf vk => ?_)
        intro w1 e1
        subst e1
        refine q12_isTerm hwf (show gI (sI v 200 0 0) 210 0 = _ by rw [gI_sI_ne (by decide), vf 210 0 (by omega)]; exact rb_W hrb) ha ?_
        rw [if_pos ho]
        have e3 : gI v 220 a = Int32.ofNat m := by rw [vf 220 a (by omega), (iv_ha h).2.1 a (by omega)]; exact m2
        simp (disch := omega) only [e3, ↓zln1, ↓zln2, zl0, zl1, zl2, zl3, zl4, zl5, zl6, zl7, zl8, zl9, zl10, zl12, zl15, zl16, zl20, zl24, zl30, zl32, zl36, zl40, zl48, zl57, zl59, zl60, zl61, zl97, zl99, zl120, zl121, zl122, zl126, zl165, zl255, zl480, zl968, zl1000, zl1100, zi_add, zi_mul, zi_sub, zi_div, zi_mod, zi_nat, zt_le, zf_le, zt_lt, zf_lt, zt_eq, zf_eq, zt_vp, zt_N1lt, zf_N1lt, zf_N1eq, zf_eqN1, zt_N1eq, zt_N1le, zf_leN1, zi_nN1, zi_a1, zi_a15, zi_a255, zi_shr, zi_bit, zt_b0, zt_b1, forall_eq, if_true, if_false, true_implies, false_implies, not_true_eq_false, not_false_eq_true, and_true, true_and, gI_sI_eq, gI_sI_ne, gI_sI_ne2, gL_sI, gR_sI, gI_sL, gL_sL_eq, gL_sL_ne, gL_sL_ne2, gR_sL, gI_sR, gL_sR, gR_sR_eq, gR_sR_ne, gR_sR_ne2, gI_aI_eq, gI_aI_ne, gL_aI, gR_aI]
        exact vk (fun r2 w2 => (S a = r2 → k w2) ∧ (¬ S a = r2 → k0 w2)) (fun u hu hfl => zc_same (hk _ u hu hfl))
    · rw [if_neg ho]
      refine ⟨fun _ => ?_, fun q => absurd rfl q⟩
      refine ⟨fun _ => ?_, fun q => absurd rfl q⟩
      intro w1 e
      subst e
      refine q12_isTerm hwf (rb_W hrb1) ha ?_
      rw [if_neg ho]
      exact ⟨fun _ => zc_same hkv, fun q => absurd rfl q⟩
theorem c_drop {B : zBk} {S : Nat → Int32} {N : zNt} {b nn : Nat} {x : Int32} {w : zW} {k k0 : zW → Prop} (h : zInv B S N b nn w) (hk : ∀ S' v, zInv B S' N b nn v → zfl w v → k v) : fX11_drop x w (fun r1 w1 => fX12_drop x w1 (fun r2 w2 => (r1 = r2 → k w2) ∧ (¬ r1 = r2 → k0 w2))) := by
  have hwf := iv_wf h
  have hrb := iv_rb h
  have hcb := iv_cb h
  have h8 := wf_R hwf
  have hb := (iv_re h).2.1
  have hb0 : ¬ b = 0 := by have := (iv_re h).1; omega
  have hkv := hk _ _ (zInv_t h 0) ⟨rfl, rfl⟩
  have hrb1 := iv_rb (zInv_t h 0)
  rw [fX11_drop]
  rcases zi_cases x with hx | ⟨a, ha, rfl⟩
  · refine q11_isRowN hx ⟨fun _ => ?_, fun q => absurd rfl q⟩
    refine ⟨fun _ => ?_, fun q => absurd rfl q⟩
    intro w1 e
    subst e
    exact q12_isRowN hx ⟨fun _ => zc_same hkv, fun q => absurd rfl q⟩
  · refine q11_isRow hwf hb hb0 (cb_R hcb) ha ?_
    by_cases ho : a < bR B
    · rw [if_pos ho]
      refine ⟨fun q => absurd q (by decide), fun _ => ?_⟩
      refine q3_countOf (by omega) ?_
      rw [(iv_ha h).2.2 (4 + a) (by omega)]
      rcases (iv_ha h).1.2.2.1 a (by omega) with e | ⟨m, m1, m2⟩
      · rw [e]
        intro v6 e6
        obtain rfl : v6 = _ := e6.trans (if_pos rfl)
        refine ⟨fun _ => ?_, fun q => absurd rfl q⟩
        intro w1 e1
        subst e1
        refine q12_isRow hwf (rb_R hrb1) ha ?_
        rw [if_pos ho]
        have e3 : gI w 220 (4 + a) = zN1 := by rw [(iv_ha h).2.1 (4 + a) (by omega)]; exact e
        simp (disch := omega) only [e3, ↓zln1, ↓zln2, zl0, zl1, zl2, zl3, zl4, zl5, zl6, zl7, zl8, zl9, zl10, zl12, zl15, zl16, zl20, zl24, zl30, zl32, zl36, zl40, zl48, zl57, zl59, zl60, zl61, zl97, zl99, zl120, zl121, zl122, zl126, zl165, zl255, zl480, zl968, zl1000, zl1100, zi_add, zi_mul, zi_sub, zi_div, zi_mod, zi_nat, zt_le, zf_le, zt_lt, zf_lt, zt_eq, zf_eq, zt_vp, zt_N1lt, zf_N1lt, zf_N1eq, zf_eqN1, zt_N1eq, zt_N1le, zf_leN1, zi_nN1, zi_a1, zi_a15, zi_a255, zi_shr, zi_bit, zt_b0, zt_b1, forall_eq, if_true, if_false, true_implies, false_implies, not_true_eq_false, not_false_eq_true, and_true, true_and, gI_sI_eq, gI_sI_ne, gI_sI_ne2, gL_sI, gR_sI, gI_sL, gL_sL_eq, gL_sL_ne, gL_sL_ne2, gR_sL, gI_sR, gL_sR, gR_sR_eq, gR_sR_ne, gR_sR_ne2, gI_aI_eq, gI_aI_ne, gL_aI, gR_aI]
        exact hkv
      · have hne : ¬ S (4 + a) = zN1 := by rw [m2]; exact zN1_ne (by omega)
        intro v6 e6
        obtain rfl : v6 = _ := e6.trans (if_neg hne)
        refine ⟨fun q => absurd q (by decide), fun _ => ?_⟩
        rw [zl4, zi_add]
        refine q_change h (show 4 + a < 12 by omega) (x := zN1) (zHd_up (iv_ha h).1 (fun q => by omega) (fun r q => ⟨Or.inl rfl, fun _ => rfl⟩)) (fun v v2 vf vk => ?_)
        intro w1 e1
        subst e1
        refine q12_isRow hwf (show gI (sI v 200 0 0) 210 2 = _ by rw [gI_sI_ne (by decide), vf 210 2 (by omega)]; exact rb_R hrb) ha ?_
        rw [if_pos ho]
        have e3 : gI v 220 (4 + a) = Int32.ofNat m := by rw [vf 220 (4 + a) (by omega), (iv_ha h).2.1 (4 + a) (by omega)]; exact m2
        simp (disch := omega) only [e3, ↓zln1, ↓zln2, zl0, zl1, zl2, zl3, zl4, zl5, zl6, zl7, zl8, zl9, zl10, zl12, zl15, zl16, zl20, zl24, zl30, zl32, zl36, zl40, zl48, zl57, zl59, zl60, zl61, zl97, zl99, zl120, zl121, zl122, zl126, zl165, zl255, zl480, zl968, zl1000, zl1100, zi_add, zi_mul, zi_sub, zi_div, zi_mod, zi_nat, zt_le, zf_le, zt_lt, zf_lt, zt_eq, zf_eq, zt_vp, zt_N1lt, zf_N1lt, zf_N1eq, zf_eqN1, zt_N1eq, zt_N1le, zf_leN1, zi_nN1, zi_a1, zi_a15, zi_a255, zi_shr, zi_bit, zt_b0, zt_b1, forall_eq, if_true, if_false, true_implies, false_implies, not_true_eq_false, not_false_eq_true, and_true, true_and, gI_sI_eq, gI_sI_ne, gI_sI_ne2, gL_sI, gR_sI, gI_sL, gL_sL_eq, gL_sL_ne, gL_sL_ne2, gR_sL, gI_sR, gL_sR, gR_sR_eq, gR_sR_ne, gR_sR_ne2, gI_aI_eq, gI_aI_ne, gL_aI, gR_aI]
        exact vk (fun r2 w2 => (S (4 + a) = r2 → k w2) ∧ (¬ S (4 + a) = r2 → k0 w2)) (fun u hu hfl => zc_same (hk _ u hu hfl))
    · rw [if_neg ho]
      refine ⟨fun _ => ?_, fun q => absurd rfl q⟩
      refine ⟨fun _ => ?_, fun q => absurd rfl q⟩
      intro w1 e
      subst e
      refine q12_isRow hwf (rb_R hrb1) ha ?_
      rw [if_neg ho]
      exact ⟨fun _ => zc_same hkv, fun q => absurd rfl q⟩
theorem q11_isCount (y : Int32) {w : zW} {k : Int32 → zW → Prop} (h1 : ∀ n, y = Int32.ofNat n → n ≤ 99 → k (Int32.ofNat 1) w) (h0 : (y < 0 ∨ ∃ n, y = Int32.ofNat n ∧ n < 2 ^ 31 ∧ 99 < n) → k (Int32.ofNat 0) w) : fX11_isCount y w k := by
  rw [fX11_isCount]
  rcases zi_cases y with hy | ⟨a, ha, rfl⟩
  · intro v e
    rw [if_pos hy] at e
    subst e
    exact ⟨Or.inl rfl, h0 (Or.inl hy)⟩
  · by_cases q : a ≤ 99
    · simp (disch := omega) only [↓zln1, ↓zln2, zl0, zl1, zl2, zl3, zl4, zl5, zl6, zl7, zl8, zl9, zl10, zl12, zl15, zl16, zl20, zl24, zl30, zl32, zl36, zl40, zl48, zl57, zl59, zl60, zl61, zl97, zl99, zl120, zl121, zl122, zl126, zl165, zl255, zl480, zl968, zl1000, zl1100, zi_add, zi_mul, zi_sub, zi_div, zi_mod, zi_nat, zt_le, zf_le, zt_lt, zf_lt, zt_eq, zf_eq, zt_vp, zt_N1lt, zf_N1lt, zf_N1eq, zf_eqN1, zt_N1eq, zt_N1le, zf_leN1, zi_nN1, zi_a1, zi_a15, zi_a255, zi_shr, zi_bit, zt_b0, zt_b1, forall_eq, if_true, if_false, true_implies, false_implies, not_true_eq_false, not_false_eq_true, and_true, true_and, gI_sI_eq, gI_sI_ne, gI_sI_ne2, gL_sI, gR_sI, gI_sL, gL_sL_eq, gL_sL_ne, gL_sL_ne2, gR_sL, gI_sR, gL_sR, gR_sR_eq, gR_sR_ne, gR_sR_ne2, gI_aI_eq, gI_aI_ne, gL_aI, gR_aI]
      exact h1 a rfl q
    · simp (disch := omega) only [↓zln1, ↓zln2, zl0, zl1, zl2, zl3, zl4, zl5, zl6, zl7, zl8, zl9, zl10, zl12, zl15, zl16, zl20, zl24, zl30, zl32, zl36, zl40, zl48, zl57, zl59, zl60, zl61, zl97, zl99, zl120, zl121, zl122, zl126, zl165, zl255, zl480, zl968, zl1000, zl1100, zi_add, zi_mul, zi_sub, zi_div, zi_mod, zi_nat, zt_le, zf_le, zt_lt, zf_lt, zt_eq, zf_eq, zt_vp, zt_N1lt, zf_N1lt, zf_N1eq, zf_eqN1, zt_N1eq, zt_N1le, zf_leN1, zi_nN1, zi_a1, zi_a15, zi_a255, zi_shr, zi_bit, zt_b0, zt_b1, forall_eq, if_true, if_false, true_implies, false_implies, not_true_eq_false, not_false_eq_true, and_true, true_and, gI_sI_eq, gI_sI_ne, gI_sI_ne2, gL_sI, gR_sI, gI_sL, gL_sL_eq, gL_sL_ne, gL_sL_ne2, gR_sL, gI_sR, gL_sR, gR_sR_eq, gR_sR_ne, gR_sR_ne2, gI_aI_eq, gI_aI_ne, gL_aI, gR_aI]
      exact h0 (Or.inr ⟨a, rfl, ha, by omega⟩)
theorem c_tell {B : zBk} {S : Nat → Int32} {N : zNt} {b nn : Nat} {x y : Int32} {w : zW} {k k0 : zW → Prop} (h : zInv B S N b nn w) (hk : ∀ S' v, zInv B S' N b nn v → zfl w v → k v) : fX11_tell x y w (fun r1 w1 => fX12_tell x y w1 (fun r2 w2 => (r1 = r2 → k w2) ∧ (¬ r1 = r2 → k0 w2))) := by
  have hwf := iv_wf h
  have hrb := iv_rb h
  have hcb := iv_cb h
  have h8 := wf_R hwf
  have hb := (iv_re h).2.1
  have hb0 : ¬ b = 0 := by have := (iv_re h).1; omega
  have hkv := hk _ _ (zInv_t h 0) ⟨rfl, rfl⟩
  have hrb1 := iv_rb (zInv_t h 0)
  rw [fX11_tell]
  rcases zi_cases x with hx | ⟨a, ha, rfl⟩
  · refine q11_isRowN hx ⟨fun _ => ?_, fun q => absurd rfl q⟩
    refine ⟨fun _ => ?_, fun q => absurd rfl q⟩
    intro w1 e
    subst e
    exact q12_isRowN hx ⟨fun _ => zc_same hkv, fun q => absurd rfl q⟩
  · refine q11_isRow hwf hb hb0 (cb_R hcb) ha ?_
    by_cases ho : a < bR B
    · rw [if_pos ho]
      refine ⟨fun q => absurd q (by decide), fun _ => ?_⟩
      refine q11_isCount y (fun n en hn => ?_) (fun hn => ?_)
      · subst en
        intro v6 e6
        obtain rfl : v6 = _ := e6.trans (if_neg (by decide))
        refine ⟨fun q => absurd q (by decide), fun _ => ?_⟩
        rw [zl4, zi_add]
        refine q_change h (show 4 + a < 12 by omega) (x := Int32.ofNat n) (zHd_up (iv_ha h).1 (fun q => by omega) (fun r q => ⟨zsm_m (by omega), fun q2 => by omega⟩)) (fun v v2 vf vk => ?_)
        intro w1 e1
        subst e1
        refine q12_isRow hwf (show gI (sI v 200 0 0) 210 2 = _ by rw [gI_sI_ne (by decide), vf 210 2 (by omega)]; exact rb_R hrb) ha ?_
        rw [if_pos ho]
        refine ⟨fun q => absurd q (by decide), fun _ => ?_⟩
        refine q12_within (lo := 0) (hi := 99) (by omega) (by decide) (by decide) ?_
        rw [if_pos (by omega)]
        simp (disch := omega) only [↓zln1, ↓zln2, zl0, zl1, zl2, zl3, zl4, zl5, zl6, zl7, zl8, zl9, zl10, zl12, zl15, zl16, zl20, zl24, zl30, zl32, zl36, zl40, zl48, zl57, zl59, zl60, zl61, zl97, zl99, zl120, zl121, zl122, zl126, zl165, zl255, zl480, zl968, zl1000, zl1100, zi_add, zi_mul, zi_sub, zi_div, zi_mod, zi_nat, zt_le, zf_le, zt_lt, zf_lt, zt_eq, zf_eq, zt_vp, zt_N1lt, zf_N1lt, zf_N1eq, zf_eqN1, zt_N1eq, zt_N1le, zf_leN1, zi_nN1, zi_a1, zi_a15, zi_a255, zi_shr, zi_bit, zt_b0, zt_b1, forall_eq, if_true, if_false, true_implies, false_implies, not_true_eq_false, not_false_eq_true, and_true, true_and, gI_sI_eq, gI_sI_ne, gI_sI_ne2, gL_sI, gR_sI, gI_sL, gL_sL_eq, gL_sL_ne, gL_sL_ne2, gR_sL, gI_sR, gL_sR, gR_sR_eq, gR_sR_ne, gR_sR_ne2, gI_aI_eq, gI_aI_ne, gL_aI, gR_aI]
        exact vk (fun r2 w2 => (S (4 + a) = r2 → k w2) ∧ (¬ S (4 + a) = r2 → k0 w2)) (fun u hu hfl => zc_same (hk _ u hu hfl))
      · intro v6 e6
        obtain rfl : v6 = _ := e6.trans (if_pos rfl)
        refine ⟨fun _ => ?_, fun q => absurd rfl q⟩
        intro w1 e1
        subst e1
        refine q12_isRow hwf (rb_R hrb1) ha ?_
        rw [if_pos ho]
        refine ⟨fun q => absurd q (by decide), fun _ => ?_⟩
        rcases hn with q | ⟨n, rfl, q1, q2⟩
        · exact q12_withinN (lo := 0) q (by decide) ⟨fun q => absurd rfl q, fun _ => zc_same hkv⟩
        · refine q12_within (lo := 0) (hi := 99) (by omega) (by decide) (by decide) ?_
          rw [if_neg (by omega)]
          exact ⟨fun q => absurd rfl q, fun _ => zc_same hkv⟩
    · rw [if_neg ho]
      refine ⟨fun _ => ?_, fun q => absurd rfl q⟩
      refine ⟨fun _ => ?_, fun q => absurd rfl q⟩
      intro w1 e
      subst e
      refine q12_isRow hwf (rb_R hrb1) ha ?_
      rw [if_neg ho]
      exact ⟨fun _ => zc_same hkv, fun q => absurd rfl q⟩

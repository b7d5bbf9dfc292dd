/-! Level 2: turned, alike, a row's beat, rests -/
/-- how the class and the reference look at a row's words -/
theorem q12_longOf {B : zBk} {r : Nat} {w : zW} {k : Int32 → zW → Prop} (hwf : zWF B) (hB : zRB B w) (hr : r < bR B) (hk : k (Int32.ofNat (bLn B r)) w) : fX12_longOf (Int32.ofNat r) w k := by
  have h8 := wf_R hwf
  simp (disch := omega) only [fX12_longOf, rb_Ln hB hr, ↓zln1, ↓zln2, zl0, zl1, zl2, zl3, zl4, zl5, zl6, zl7, zl8, zl9, zl10, zl12, zl15, zl16, zl20, zl24, zl30, zl32, zl36, zl40, zl48, zl57, zl59, zl60, zl61, zl97, zl99, zl120, zl121, zl122, zl126, zl165, zl255, zl480, zl968, zl1000, zl1100, zi_add, zi_mul, zi_sub, zi_div, zi_mod, zi_nat, zt_le, zf_le, zt_lt, zf_lt, zt_eq, zf_eq, zt_vp, zt_N1lt, zf_N1lt, zf_N1eq, zf_eqN1, zt_N1eq, zt_N1le, zf_leN1, zi_nN1, zi_a1, zi_a15, zi_a255, zi_shr, zi_bit, zt_b0, zt_b1, forall_eq, if_true, if_false, true_implies, false_implies, not_true_eq_false, not_false_eq_true, and_true, true_and, gI_sI_eq, gI_sI_ne, gI_sI_ne2, gL_sI, gR_sI, gI_sL, gL_sL_eq, gL_sL_ne, gL_sL_ne2, gR_sL, gI_sR, gL_sR, gR_sR_eq, gR_sR_ne, gR_sR_ne2, gI_aI_eq, gI_aI_ne, gL_aI, gR_aI]
  exact hk
theorem q12_itemOf {B : zBk} {r i : Nat} {w : zW} {k : Int32 → zW → Prop} (hwf : zWF B) (hB : zRB B w) (hr : r < bR B) (hi : i < bLn B r) (hk : k (Int32.ofNat (bIt B r i)) w) : fX12_itemOf (Int32.ofNat r) (Int32.ofNat i) w k := by
  have h8 := wf_R hwf
  have h60 := wf_Ln hwf hr
  simp (disch := omega) only [fX12_itemOf, rb_It hB hr hi, ↓zln1, ↓zln2, zl0, zl1, zl2, zl3, zl4, zl5, zl6, zl7, zl8, zl9, zl10, zl12, zl15, zl16, zl20, zl24, zl30, zl32, zl36, zl40, zl48, zl57, zl59, zl60, zl61, zl97, zl99, zl120, zl121, zl122, zl126, zl165, zl255, zl480, zl968, zl1000, zl1100, zi_add, zi_mul, zi_sub, zi_div, zi_mod, zi_nat, zt_le, zf_le, zt_lt, zf_lt, zt_eq, zf_eq, zt_vp, zt_N1lt, zf_N1lt, zf_N1eq, zf_eqN1, zt_N1eq, zt_N1le, zf_leN1, zi_nN1, zi_a1, zi_a15, zi_a255, zi_shr, zi_bit, zt_b0, zt_b1, forall_eq, if_true, if_false, true_implies, false_implies, not_true_eq_false, not_false_eq_true, and_true, true_and, gI_sI_eq, gI_sI_ne, gI_sI_ne2, gL_sI, gR_sI, gI_sL, gL_sL_eq, gL_sL_ne, gL_sL_ne2, gR_sL, gI_sR, gL_sR, gR_sR_eq, gR_sR_ne, gR_sR_ne2, gI_aI_eq, gI_aI_ne, gL_aI, gR_aI]
  exact hk
theorem zIt_eq {B : zBk} (hwf : zWF B) {r r' i j : Nat} (hr : r < bR B) (hi : i < bLn B r) (hr' : r' < bR B) (hj : j < bLn B r') : Int32.ofNat (bIt B r i) = Int32.ofNat (bIt B r' j) ↔ bIt B r i = bIt B r' j := by
  have h4 := wf_W hwf
  have h1 := wf_It hwf hr hi
  have h2 := wf_It hwf hr' hj
  exact zi_eq (by omega) (by omega)
/-- a row is the same from the other end -/
def zturn (B : zBk) (r : Nat) : Prop := ∀ i, i < bLn B r → bIt B r i = bIt B r (bLn B r - 1 - i)
theorem c_turned {B : zBk} {S : Nat → Int32} {N : zNt} {b nn : Nat} {x : Int32} {w : zW} {k k0 : zW → Prop} (h : zInv B S N b nn w) (hk : ∀ v, zInv B S N b nn v → zfl w v → k v) : fX11_turned x w (fun r1 w1 => fX12_turned x w1 (fun r2 w2 => (r1 = r2 → k w2) ∧ (¬ r1 = r2 → k0 w2))) := by
  have hwf := iv_wf h
  have h8 := wf_R hwf
  have hb0 : ¬ b = 0 := by have := (iv_re h).1; omega
  have ht := zInv_t h 0
  have hkv := hk _ ht ⟨rfl, rfl⟩
  rcases zr_cases hwf hb0 x with ⟨r, hr, rfl⟩ | ⟨hn1, hn2⟩
  · have hl := wf_Ln hwf hr
    -- the reference's side
    have href : ∀ K : Int32 → zW → Prop, (zturn B r → K (Int32.ofNat 1) (sI w 200 0 0)) → (¬ zturn B r → K (Int32.ofNat 0) (sI w 200 0 0)) → fX12_turned (Int32.ofNat r) w K := by
      intro K h1 h0 w1 e
      subst e
      refine q12_isRowY ht hr ?_
      have hz : ∀ (n i : Nat), fX12_turned_L13 K (n + 1) (Int32.ofNat r) (Int32.ofNat 0) (Int32.ofNat i) (sI w 200 0 0) ↔ K (Int32.ofNat 0) (sI w 200 0 0) := by
        intro n i
        rw [fX12_turned_L13]
        try dsimp only
        exact ⟨fun q => (q.1 rfl).2, fun q => ⟨fun _ => ⟨Or.inl rfl, q⟩, fun z => absurd rfl z⟩⟩
      have hgo : ∀ (c i : Nat), i + c = bLn B r → (∀ j, j < i → bIt B r j = bIt B r (bLn B r - 1 - j)) → fX12_turned_L13 K (c + 2) (Int32.ofNat r) (Int32.ofNat 1) (Int32.ofNat i) (sI w 200 0 0) := by
        intro c
        induction c with
        | zero =>
          intro i hi hj
          rw [fX12_turned_L13]
          try dsimp only
          refine ⟨fun q => absurd q (by decide), fun _ => q12_longOf hwf (iv_rb ht) hr ⟨fun _ => ⟨Or.inr rfl, h1 (fun j q => hj j (by omega))⟩, fun q => absurd ((zi_le (by omega) (by omega)).mpr (by omega)) q⟩⟩
        | succ c ih =>
          intro i hi hj
          rw [fX12_turned_L13]
          try dsimp only
          refine ⟨fun q => absurd q (by decide), fun _ => q12_longOf hwf (iv_rb ht) hr ⟨fun q => absurd q (zi_nge (by omega) (by omega)), fun _ => ?_⟩⟩
          refine q12_itemOf hwf (iv_rb ht) hr (by omega) (q12_longOf hwf (iv_rb ht) hr ?_)
          rw [zl1, zi_sub (by omega), zi_sub (by omega)]
          refine q12_itemOf hwf (iv_rb ht) hr (by omega) ?_
          intro v9 e9
          rw [zi_add]
          by_cases q : bIt B r i = bIt B r (bLn B r - 1 - i)
          · have e : v9 = Int32.ofNat 1 := e9.trans (if_neg (fun z => z (by rw [q])))
            rw [e]
            exact ih (i + 1) (by omega) (fun j hj' => by
              by_cases y : j = i
              · rw [y]; exact q
              · exact hj j (by omega))
          · have e : v9 = Int32.ofNat 0 := e9.trans (if_pos (fun z => q ((zIt_eq hwf hr (by omega) hr (by omega)).mp z)))
            rw [e]
            exact (hz (c + 1) (i + 1)).mpr (h0 (fun z => q (z i (by omega))))
      exact ⟨bLn B r + 2, hgo (bLn B r) 0 (by omega) (fun j hj => absurd hj (Nat.not_lt_zero j))⟩
    rw [fX11_turned]
    refine q11_isRowY h hr ⟨fun q => absurd q (by decide), fun _ => ⟨by rw [(iv_re h).2.1]; exact hb0, ?_⟩⟩
    rw [(iv_re h).2.1]
    refine ⟨zi_in (by omega) (by omega), ?_⟩
    intro v2 e2
    rw [zi_nat (show r < 2 ^ 31 by omega), cb_Ln (iv_cb h) hr] at e2
    subst e2
    refine zinv (fun n (s : Int32) => fX0_sameTurned_L9 b _ n (Int32.ofNat r) (Int32.ofNat (bLn B r)) s w) (fun i s => s = Int32.ofNat i ∧ ∀ j, j < i → bIt B r j = bIt B r (bLn B r - 1 - j)) (bLn B r / 2) (s0 := 0) ⟨rfl, fun j hj => absurd hj (Nat.not_lt_zero j)⟩ ?_ ?_
    · rintro n s ⟨rfl, hj⟩
      have hturn : zturn B r := fun i hi => by
        by_cases q : i < bLn B r / 2
        · exact hj i q
        · by_cases q2 : bLn B r - 1 - i < bLn B r / 2
          · have := hj (bLn B r - 1 - i) q2
            rw [show bLn B r - 1 - (bLn B r - 1 - i) = i by omega] at this
            exact this.symm
          · exact congrArg _ (by omega)
      rw [fX0_sameTurned_L9]
      try dsimp only
      rw [zl2, zi_div (by omega) (by omega)]
      refine ⟨fun _ => ?_, fun q => absurd (Int32.le_refl _) q⟩
      intro v5 e5
      obtain rfl : v5 = _ := e5.trans (if_neg (by decide))
      exact ⟨Or.inr rfl, href _ (fun _ => zc_same hkv) (fun z => absurd hturn z)⟩
    · rintro i n s hi ⟨rfl, hj⟩ hc
      rw [fX0_sameTurned_L9]
      try dsimp only
      rw [zl2, zi_div (by omega) (by omega)]
      refine ⟨fun q => absurd q (zi_nge hi (by omega)), fun _ => ?_⟩
      refine q0_wordAt hwf (iv_cb h) hr (by omega) ?_
      rw [zl1, zi_sub (by omega), zi_sub (by omega)]
      refine q0_wordAt hwf (iv_cb h) hr (by omega) ?_
      refine ⟨fun q => ?_, fun q => ?_⟩
      · have q' := (zIt_eq hwf hr (by omega) hr (by omega)).mp q
        rw [zi_add]
        refine hc _ ⟨rfl, fun j hj' => ?_⟩
        by_cases y : j = i
        · rw [y]; exact q'
        · exact hj j (by omega)
      · intro v5 e5
        obtain rfl : v5 = _ := e5.trans (if_pos rfl)
        exact ⟨Or.inl rfl, href _ (fun z => absurd (by rw [z i (by omega)]) q) (fun _ => zc_same hkv)⟩
  · rw [fX11_turned]
    refine hn1 w _ (iv_re h).2.1 (cb_R (iv_cb h)) ⟨fun _ => ?_, fun q => absurd rfl q⟩
    intro w1 e
    subst e
    refine hn2 _ _ (rb_R (iv_rb ht)) ⟨1, ?_⟩
    rw [fX12_turned_L13]
    try dsimp only
    exact ⟨fun _ => ⟨Or.inl rfl, zc_same hkv⟩, fun q => absurd rfl q⟩
/-! rests: an equilibrium of two at the needle -/
def zgain (l c t : Int32) (own oth : Nat) : Int32 := if own = 1 then (if oth = 1 then -l else c) else (if oth = 1 then t else 0)
def zrb (l c t : Int32) (i : Nat) : Bool := decide (¬ zgain l c t (i / 2) (i % 2) < zgain l c t (1 - i / 2) (i % 2)) && decide (¬ zgain l c t (i % 2) (i / 2) < zgain l c t (1 - i % 2) (i / 2))
theorem q11_gain {l c t : Int32} {a o : Nat} {w : zW} {k : Int32 → zW → Prop} (ha : a < 2) (ho : o < 2) (hk : k (zgain l c t a o) w) : fX11_gain l c t (Int32.ofNat a) (Int32.ofNat o) w k := by
  rcases (show a = 0 ∨ a = 1 by omega) with e | e <;> rcases (show o = 0 ∨ o = 1 by omega) with e2 | e2 <;> subst e <;> subst e2
  · exact ⟨fun _ v ev => by rw [ev]; exact hk, fun q => absurd q (by decide)⟩
  · exact ⟨fun _ v ev => by rw [ev]; exact hk, fun q => absurd q (by decide)⟩
  · exact ⟨fun q => absurd rfl q, fun _ v ev => by rw [ev]; exact hk⟩
  · exact ⟨fun q => absurd rfl q, fun _ v ev => by rw [ev]; exact hk⟩
theorem q11_isBest {l c t : Int32} {a o : Nat} {w : zW} {k : Int32 → zW → Prop} (ha : a < 2) (ho : o < 2) (hk : k (if zgain l c t a o < zgain l c t (1 - a) o then Int32.ofNat 0 else Int32.ofNat 1) w) : fX11_isBest l c t (Int32.ofNat a) (Int32.ofNat o) w k := by
  rw [fX11_isBest]
  refine q11_gain ha ho ?_
  rw [zl1, zi_sub (by omega)]
  refine q11_gain (by omega) ho ?_
  intro v3 e3
  rw [e3]
  refine ⟨?_, hk⟩
  by_cases q : zgain l c t a o < zgain l c t (1 - a) o
  · exact Or.inl (if_pos q)
  · exact Or.inr (if_neg q)
theorem q12_getsBy {l c t : Int32} {a o : Nat} {w : zW} {k : Int32 → zW → Prop} (ha : a < 2) (ho : o < 2) (hk : k (zgain l c t a o) w) : fX12_getsBy (Int32.ofNat a) (Int32.ofNat o) l c t w k := by
  intro v ev
  have e : v = zgain l c t a o := by
    rw [ev]
    rcases (show a = 0 ∨ a = 1 by omega) with e | e <;> rcases (show o = 0 ∨ o = 1 by omega) with e2 | e2 <;> subst e <;> subst e2 <;> rfl
  rw [e]
  exact hk

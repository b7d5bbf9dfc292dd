/-! Level 2: misprints, misprint -/
theorem zHl_AL {B : zBk} {S : Nat → Int32} {r o x : Nat} (hwf : zWF B) (ho : o < bW B) (hx : x < bW B) : zHl B S (zAL B) r (4 * o + x) = zHp B S r o x := by
  have h4 := wf_W hwf
  rw [zHl, zHg, show (4 * o + x) / 4 = o by omega, show (4 * o + x) % 4 = x by omega, decide_eq_true ho, decide_eq_true hx, zHp_eq]
  rfl
theorem zWy_le {B : zBk} (hwf : zWF B) (S : Nat → Int32) : (zWy B S).length ≤ 7680 := by
  have h4 := wf_W hwf
  have h8 := wf_R hwf
  rw [zWy_len hwf]
  have h1 : ∀ r, r < bR B → zsum (bW B) (fun o => bU B r o * zcnt (bW B) (zHp B S r o)) ≤ 960 := fun r _ => by
    have h2 : ∀ o, o < bW B → bU B r o * zcnt (bW B) (zHp B S r o) ≤ 240 := fun o _ => by
      have a1 := wf_U60 hwf r o
      have a2 := zcnt_le (bW B) (zHp B S r o)
      exact Nat.le_trans (Nat.mul_le_mul a1 (Nat.le_trans a2 h4)) (by omega)
    have h3 := zsum_lim h2
    have h5 : bW B * 240 ≤ 4 * 240 := Nat.mul_le_mul_right _ h4
    omega
  have h3 := zsum_lim h1
  have h5 : bR B * 960 ≤ 8 * 960 := Nat.mul_le_mul_right _ h8
  omega
/-- the sum, as it stands -/
def zSm (l : List (Nat × Nat × Nat)) (v : zW) : Prop := gI v 31 1 = Int32.ofNat l.length ∧ gI v 31 2 = zfst (fun t => t.1) l ∧ gI v 31 3 = zfst (fun t => t.2.1) l ∧ gI v 31 4 = zfst (fun t => t.2.2) l
theorem q4_addWay {l : List (Nat × Nat × Nat)} {r i x : Nat} {w : zW} {k : zW → Prop} (hl : l.length < 10000) (hs : zSm l w) (hk : ∀ v : zW, v.2 = w.2 → (∀ a c, ¬ (a = 31 ∧ 1 ≤ c ∧ c ≤ 4) → gI v a c = gI w a c) → zSm (l ++ [(r, i, x)]) v → k v) : fX4_addWay (Int32.ofNat r) (Int32.ofNat i) (Int32.ofNat x) w k := by
  obtain ⟨s1, s2, s3, s4⟩ := hs
  rw [fX4_addWay, s1]
  refine ⟨fun q => ?_, fun q => ?_⟩
  · have hne : ¬ l = [] := fun z => q (by rw [z]; rfl)
    rw [fX4_addWay_J22, s1]
    intro w2 e2
    rw [zl1, zi_add] at e2
    refine hk w2 (by rw [e2]; rfl) (fun a c z => by rw [e2, gI_sI, if_neg (by omega)]) ⟨?_, ?_, ?_, ?_⟩
    · rw [e2, gI_sI_eq, List.length_append]; rfl
    · rw [e2, gI_sI_ne2 (by decide), s2, zfst_app, if_neg hne]
    · rw [e2, gI_sI_ne2 (by decide), s3, zfst_app, if_neg hne]
    · rw [e2, gI_sI_ne2 (by decide), s4, zfst_app, if_neg hne]
  · have h0 : l = [] := List.eq_nil_of_length_eq_zero ((zi_eq (b := 0) (by omega) (by decide)).mp q)
    intro w3 e3 w4 e4 w5 e5
    rw [fX4_addWay_J22]
    intro w2 e2
    have e1 : gI w5 31 1 = Int32.ofNat l.length := by rw [e5, gI_sI_ne2 (by decide), e4, gI_sI_ne2 (by decide), e3, gI_sI_ne2 (by decide)]; exact s1
    rw [e1, zl1, zi_add] at e2
    refine hk w2 (by rw [e2, e5, e4, e3]; rfl) (fun a c z => by rw [e2, gI_sI, if_neg (by omega), e5, gI_sI, if_neg (by omega), e4, gI_sI, if_neg (by omega), e3, gI_sI, if_neg (by omega)]) ⟨?_, ?_, ?_, ?_⟩
    · rw [e2, gI_sI_eq, List.length_append]; rfl
    · rw [e2, gI_sI_ne2 (by decide), e5, gI_sI_ne2 (by decide), e4, gI_sI_ne2 (by decide), e3, gI_sI_eq, h0]; rfl
    · rw [e2, gI_sI_ne2 (by decide), e5, gI_sI_ne2 (by decide), e4, gI_sI_eq, h0]; rfl
    · rw [e2, gI_sI_ne2 (by decide), e5, gI_sI_eq, h0]; rfl
theorem q4_sumUp {B : zBk} {S : Nat → Int32} {b : Nat} {w : zW} {k : zW → Prop} (hwf : zWF B) (hcb : zCB B b w) (hbb : b = 40 ∨ b = 80) (h6 : gR w 31 6 = b) (hg : ∀ r, r < bR B → gI w 32 r = Int32.ofNat (zbits 16 (zHl B S (zAL B) r)))
    (hk : ∀ v : zW, v.2 = w.2 → (∀ a c, ¬ (a = 31 ∧ 1 ≤ c ∧ c ≤ 4) → gI v a c = gI w a c) → zSm (zWy B S) v → k v) : fX4_sumUp w k := by
  have h8 := wf_R hwf
  have h4 := wf_W hwf
  have hwy := zWy_le hwf S
  have hL56 : ∀ (g22 : Int32 → zW → Prop) (g41 : Int32 → Int32 → zW → Prop) (r i : Nat), r < bR B → i < bLn B r → (∀ v : zW, v.2 = w.2 → (∀ a c, ¬ (a = 31 ∧ 1 ≤ c ∧ c ≤ 4) → gI v a c = gI w a c) → zSm (zPre B S r (i + 1) 0) v → g41 (Int32.ofNat r) (Int32.ofNat (i + 1)) v) →
      ∀ (c x : Nat) (v : zW), x + c = bW B → v.2 = w.2 → (∀ a c, ¬ (a = 31 ∧ 1 ≤ c ∧ c ≤ 4) → gI v a c = gI w a c) → zSm (zPre B S r i x) v → fX4_sumUp_L56 k g22 g41 (c + 1) (Int32.ofNat r) (Int32.ofNat i) (Int32.ofNat x) v := by
    intro g22 g41 r i hr hi hnext c
    have h60 := wf_Ln hwf hr
    have hit := wf_It hwf hr hi
    induction c with
    | zero =>
      intro x v hx v2 vf vs
      have hR : gR v 31 6 = b := by rw [gR, v2]; exact h6
      rw [fX4_sumUp_L56]
      try dsimp only
      rw [hR, vf b 0 (by omega), cb_W hcb]
      refine ⟨by omega, fun _ => ?_, fun q => absurd ((zi_le (by omega) (by omega)).mpr (by omega)) q⟩
      rw [zl1, zi_add]
      exact hnext v v2 vf (by rw [zPre_i, ← show x = bW B by omega]; exact vs)
    | succ c ih =>
      intro x v hx v2 vf vs
      have hR : gR v 31 6 = b := by rw [gR, v2]; exact h6
      have hcbv : zCB B b v := zCB_of hcb (fun a k' q1 q2 => vf a k' (by omega)) hwf
      rw [fX4_sumUp_L56]
      try dsimp only
      rw [hR, vf b 0 (by omega), cb_W hcb]
      refine ⟨by omega, fun q => absurd ((zi_le (by omega) (by omega)).mp q) (by omega), fun _ => ⟨fun q => absurd ((zi_le (a := 4) (by decide) (by omega)).mp q) (by omega), fun _ => ⟨zi_in (by omega) (by omega), ?_⟩⟩⟩
      refine q0_wordAt hwf hcbv hr hi ?_
      refine q4_bit (by omega) ?_
      rw [zi_nat (show r < 2 ^ 31 by omega), vf 32 r (by omega), hg r hr, show bIt B r i * 4 + x = 4 * bIt B r i + x by omega, zi_bitt (show 4 * bIt B r i + x < 16 by omega), zHl_AL hwf hit (show x < bW B by omega)]
      obtain ⟨t, ht⟩ := zPre_pre B S hr hi (show x ≤ bW B by omega)
      have hlen : (zPre B S r i x).length ≤ (zWy B S).length := by rw [ht, List.length_append]; omega
      refine ⟨fun q => ?_, fun q => ?_⟩
      · rw [zl1, zi_add]
        refine ih (x + 1) v (by omega) v2 vf ?_
        rw [zPre_x, if_neg (by rw [q]; decide), List.append_nil]
        exact vs
      · refine q4_addWay (by omega) vs (fun u u2 uf us => ?_)
        rw [zl1, zi_add]
        refine ih (x + 1) u (by omega) (u2.trans v2) (fun a c' z => by rw [uf a c' z]; exact vf a c' z) ?_
        rw [zPre_x, if_pos (by cases z : zHp B S r (bIt B r i) x with | true => rfl | false => exact absurd z q)]
        exact us
  have hL41 : ∀ (g22 : Int32 → zW → Prop) (r : Nat), r < bR B → (∀ v : zW, v.2 = w.2 → (∀ a c, ¬ (a = 31 ∧ 1 ≤ c ∧ c ≤ 4) → gI v a c = gI w a c) → zSm (zPre B S (r + 1) 0 0) v → g22 (Int32.ofNat (r + 1)) v) →
      ∀ (c i : Nat) (v : zW), i + c = bLn B r → v.2 = w.2 → (∀ a c, ¬ (a = 31 ∧ 1 ≤ c ∧ c ≤ 4) → gI v a c = gI w a c) → zSm (zPre B S r i 0) v → fX4_sumUp_L41 k g22 (c + 1) (Int32.ofNat r) (Int32.ofNat i) v := by
    intro g22 r hr hnext c
    have h60 := wf_Ln hwf hr
    induction c with
    | zero =>
      intro i v hi v2 vf vs
      have hR : gR v 31 6 = b := by rw [gR, v2]; exact h6
      rw [fX4_sumUp_L41]
      try dsimp only
      rw [hR, zi_nat (show r < 2 ^ 31 by omega), vf (b + 10) r (by omega), cb_Ln hcb hr]
      refine ⟨by omega, zi_in (by omega) (by omega), fun _ => ?_, fun q => absurd ((zi_le (by omega) (by omega)).mpr (by omega)) q⟩
      rw [zl1, zi_add]
      exact hnext v v2 vf (by rw [zPre_r, ← show i = bLn B r by omega]; exact vs)
    | succ c ih =>
      intro i v hi v2 vf vs
      have hR : gR v 31 6 = b := by rw [gR, v2]; exact h6
      rw [fX4_sumUp_L41]
      try dsimp only
      rw [hR, zi_nat (show r < 2 ^ 31 by omega), vf (b + 10) r (by omega), cb_Ln hcb hr]
      refine ⟨by omega, zi_in (by omega) (by omega), fun q => absurd ((zi_le (by omega) (by omega)).mp q) (by omega), fun _ => ?_⟩
      exact ⟨bW B + 1, hL56 g22 _ r i hr (by omega) (fun v' v2' vf' vs' => ih (i + 1) v' (by omega) v2' vf' vs') (bW B) 0 v (by omega) v2 vf vs⟩
  have hL22 : ∀ (c r : Nat) (v : zW), r + c = bR B → v.2 = w.2 → (∀ a c, ¬ (a = 31 ∧ 1 ≤ c ∧ c ≤ 4) → gI v a c = gI w a c) → zSm (zPre B S r 0 0) v → fX4_sumUp_L22 k (c + 1) (Int32.ofNat r) v := by
    intro c
    induction c with
    | zero =>
      intro r v hr v2 vf vs
      have hR : gR v 31 6 = b := by rw [gR, v2]; exact h6
      rw [fX4_sumUp_L22]
      try dsimp only
      rw [hR, vf b 7 (by omega), cb_R hcb]
      refine ⟨by omega, fun _ => hk v v2 vf ?_, fun q => absurd ((zi_le (by omega) (by omega)).mpr (by omega)) q⟩
      rw [← zPre_end, ← show r = bR B by omega]
      exact vs
    | succ c ih =>
      intro r v hr v2 vf vs
      have hR : gR v 31 6 = b := by rw [gR, v2]; exact h6
      rw [fX4_sumUp_L22]
      try dsimp only
      rw [hR, vf b 7 (by omega), cb_R hcb]
      refine ⟨by omega, fun q => absurd ((zi_le (by omega) (by omega)).mp q) (by omega), fun _ => ⟨fun q => absurd ((zi_le (a := 8) (by decide) (by omega)).mp q) (by omega), fun _ => ?_⟩⟩
      exact ⟨bLn B r + 1, hL41 _ r (by omega) (fun v' v2' vf' vs' => ih (r + 1) v' (by omega) v2' vf' vs') (bLn B r) 0 v (by omega) v2 vf vs⟩
  rw [fX4_sumUp]
  intro w1 e1 w2 e2 w3 e3 w4 e4
  refine ⟨bR B + 1, hL22 (bR B) 0 w4 (by omega) (by rw [e4, e3, e2, e1]; rfl) (fun a c z => by rw [e4, gI_sI, if_neg (by omega), e3, gI_sI, if_neg (by omega), e2, gI_sI, if_neg (by omega), e1, gI_sI, if_neg (by omega)]) ⟨?_, ?_, ?_, ?_⟩⟩
  · rw [e4, gI_sI_ne2 (by decide), e3, gI_sI_ne2 (by decide), e2, gI_sI_ne2 (by decide), e1, gI_sI_eq]; rfl
  · rw [e4, gI_sI_ne2 (by decide), e3, gI_sI_ne2 (by decide), e2, gI_sI_eq]; rfl
  · rw [e4, gI_sI_ne2 (by decide), e3, gI_sI_eq]; rfl
  · rw [e4, gI_sI_eq]; rfl
theorem q4_find {B : zBk} {S : Nat → Int32} {b big : Nat} {w : zW} {k : zW → Prop} (hwf : zWF B) (hcb : zCB B b w) (hbb : b = 40 ∨ b = 80) (hd : zHd B S) (hS : ∀ i, i < 12 → gI w (9 + 1) i = S i) (hl : zLaid B b big w)
    (hk : ∀ v : zW, (∀ a c, gL v a c = gL w a c) → (∀ a c, a ≠ 31 → gR v a c = gR w a c) → (∀ a c, a ≠ 31 → a ≠ 32 → gI v a c = gI w a c) → gI v 31 0 = Int32.ofNat 0 → zSm (zWy B S) v → k v) : fX4_find b 9 w k := by
  have h8 := wf_R hwf
  have h4W := wf_W hwf
  obtain ⟨hB, l9, lN, l2, l7, lA, lU⟩ := hl
  have hbig := zBig_is hB
  have hln := zBig_ln hB
  have hB4 := zBig_4 hB
  rw [fX4_find]
  intro w1 e1 w2 e2
  refine q_fill (by decide) ?_
  generalize hw3 : aI w2 32 (fun c => if c < zln 32 then (0 : Int32) else gI w2 32 c) = w3
  have i3 : ∀ a c, a ≠ 32 → gI w3 a c = gI w a c := fun a c q => by rw [← hw3, gI_aI_ne q, e2, e1]; rfl
  have r6 : gR w3 31 6 = b := by rw [← hw3, gR_aI, e2, gR_sR_ne2 (by decide), e1, gR_sR_eq]
  have r7 : gR w3 31 7 = 9 := by rw [← hw3, gR_aI, e2, gR_sR_eq]
  have rr : ∀ a c, a ≠ 31 → gR w3 a c = gR w a c := fun a c q => by rw [← hw3, gR_aI, e2, gR_sR_ne q, e1, gR_sR_ne q]
  have ll : ∀ a c, gL w3 a c = gL w a c := fun a c => by rw [← hw3, gL_aI, e2, e1]; rfl
  have g3 : ∀ r, r < bR B → gI w3 32 r = Int32.ofNat (zbits 16 (zHl B S [] r)) := fun r hr => by
    have z32 : zln 32 = 8 := rfl
    rw [← hw3, gI_aI_eq, if_pos (by omega), zbits_zero.mpr (fun j _ => by rw [zHl]; show (zHg B r j && false) = false; exact Bool.and_false _)]
    rfl
  have hcb3 : zCB B b w3 := zCB_of hcb (fun a k' q1 q2 => i3 a k' (by omega)) hwf
  have hend : ∀ v : zW, v.2 = w3.2 → (∀ a c, a ≠ 32 → gI v a c = gI w3 a c) → (∀ r, r < bR B → gI v 32 r = Int32.ofNat (zbits 16 (zHl B S (zAL B) r))) → fX4_find_J84 b 9 k v := fun v v2 vf vg => by
    rw [fX4_find_J84]
    refine q4_sumUp hwf (zCB_of hcb3 (fun a k' q1 q2 => vf a k' (by omega)) hwf) hbb (by rw [gR, v2]; exact r6) vg (fun u u2 uf us => ?_)
    intro w6 e6
    have p6 : w6.2 = w3.2 := by rw [e6]; exact u2.trans v2
    refine hk w6 (fun a c => by rw [gL, p6]; exact ll a c) (fun a c q => by rw [gR, p6]; exact rr a c q) (fun a c q1 q2 => ?_) (by rw [e6, gI_sI_eq]; rfl) ⟨?_, ?_, ?_, ?_⟩
    · rw [e6, gI_sI_ne q1, uf a c (by omega), vf a c q2]
      exact i3 a c q2
    · rw [e6, gI_sI_ne2 (by decide)]; exact us.1
    · rw [e6, gI_sI_ne2 (by decide)]; exact us.2.1
    · rw [e6, gI_sI_ne2 (by decide)]; exact us.2.2.1
    · rw [e6, gI_sI_ne2 (by decide)]; exact us.2.2.2
  have hgo : ∀ (c i : Nat) (v : zW), i + c = (zAL B).length → v.2 = w3.2 → (∀ a c, a ≠ 32 → gI v a c = gI w3 a c) → (∀ r, r < bR B → gI v 32 r = Int32.ofNat (zbits 16 (zHl B S ((zAL B).take i) r))) → fX4_find_L21 b 9 k (c + 1) (Int32.ofNat i) v := by
    intro c
    induction c with
    | zero =>
      intro i v hi v2 vf vg
      have e2 : gI v 24 2 = Int32.ofNat (zAL B).length := by rw [vf _ _ (by omega), i3 _ _ (by omega)]; exact l2
      rw [fX4_find_L21]
      try dsimp only
      rw [e2]
      refine ⟨fun _ => hend v v2 vf (fun r hr => ?_), fun q => absurd ((zi_le (by omega) (by omega)).mpr (by omega)) q⟩
      rw [vg r hr, List.take_of_length_le (by omega)]
    | succ c ih =>
      intro i v hi v2 vf vg
      have e2 : gI v 24 2 = Int32.ofNat (zAL B).length := by rw [vf _ _ (by omega), i3 _ _ (by omega)]; exact l2
      have e4 : gR v 24 4 = big := by rw [gR, v2]; exact (rr 24 4 (by decide)).trans hB4.1
      have eA : gI v big i = Int32.ofNat (zpd (bW B) ((zAL B).getD i 0) + 65536 * zd2 B (zdm (bW B) ((zAL B).getD i 0))) := by rw [vf _ _ (by omega), i3 _ _ (by omega)]; exact lA i (by omega)
      have hR6 : gR v 31 6 = b := by rw [gR, v2]; exact r6
      have hR7 : gR v 31 7 = 9 := by rw [gR, v2]; exact r7
      have hcbv : zCB B b v := zCB_of hcb3 (fun a k' q1 q2 => vf a k' (by omega)) hwf
      have hSv : ∀ j, j < 12 → gI v (9 + 1) j = S j := fun j hj => by rw [vf _ _ (by omega), i3 _ _ (by omega)]; exact hS j hj
      have htk : (zAL B).take (i + 1) = (zAL B).take i ++ [(zAL B).getD i 0] := by
        rw [List.take_succ_eq_append_getElem (show i < (zAL B).length by omega), List.getD_eq_getElem?_getD, List.getElem?_eq_getElem (show i < (zAL B).length by omega)]
        rfl
      have hpl := zpd_lt (bW B) ((zAL B).getD i 0)
      have hz2 := zd2_lt hwf (zdm (bW B) ((zAL B).getD i 0))
      have hsame : (∀ r, r < bR B → ∀ j, zHl B S ((zAL B).take i ++ [(zAL B).getD i 0]) r j = zHl B S ((zAL B).take i) r j) → fX4_find_L21 b 9 k (c + 1) (Int32.ofNat i + 1) v := fun hh => by
        rw [zl1, zi_add]
        refine ih (i + 1) v (by omega) v2 vf (fun r hr => ?_)
        rw [vg r hr, htk]
        exact congrArg _ (zbits_congr (fun j _ => (hh r hr j).symm))
      rw [fX4_find_L21]
      try dsimp only
      rw [e2, e4, zi_nat (show i < 2 ^ 31 by omega), eA]
      refine ⟨fun q => absurd ((zi_le (by omega) (by omega)).mp q) (by omega), fun _ => ⟨by omega, fun q => absurd ((zi_le (by omega) (by omega)).mp q) (by omega), fun _ => ⟨zi_in (by omega) (by omega), ?_⟩⟩⟩
      intro v10 e10
      rw [e10]
      refine q8_down hpl hz2 ⟨fun q => ?_, fun q => ?_⟩
      · have q' := (zi_eq (b := 255) (by omega) (by decide)).mp q
        refine hsame (fun r hr j => zHl_same hr (fun z => ?_) j)
        refine (zd2_two hwf (m := zdm (bW B) ((zAL B).getD i 0)) (show r < 8 by omega) (fun s hs hd => ?_)).2 q'
        by_cases n1 : s = r
        · exact Or.inl n1
        · by_cases n2 : s = r + 1
          · exact Or.inr n2
          · exact absurd (z.1 s hs n1 n2) (zDn_iff.mp hd)
      · have q' : ¬ zd2 B (zdm (bW B) ((zAL B).getD i 0)) = 255 := fun z => q (by rw [z]; rfl)
        rw [hR7]
        refine ⟨by omega, ?_⟩
        refine q3_guesses (m := zdm (bW B) ((zAL B).getD i 0)) hwf hd hSv (by omega) (fun o ho => by rw [zdg_big _ _ (by omega)]; exact zdg_pd _ _ (by omega)) ?_
        have hq : decide (∀ o, o < bW B → S o = zN1 ∨ S o = Int32.ofNat (zdm (bW B) ((zAL B).getD i 0) o)) = zGu B S ((zAL B).getD i 0) := rfl
        rw [hq]
        cases hgu : zGu B S ((zAL B).getD i 0) with
        | false => exact ⟨fun _ => hsame (fun r hr j => zHl_gu hgu j), fun z => absurd rfl z⟩
        | true =>
          refine ⟨fun z => absurd z (by decide), fun _ => ?_⟩
          refine q4_mendBy (l := (zAL B).take i) hwf hcbv hbb hR6 hR7 hSv hgu q' vg (fun u u2 uf ug => ?_)
          rw [zl1, zi_add]
          refine ih (i + 1) u (by omega) (u2.trans v2) (fun a c' z => by rw [uf a c' z]; exact vf a c' z) (fun r hr => ?_)
          rw [htk]
          exact ug r hr
  exact ⟨(zAL B).length + 1, hgo (zAL B).length 0 w3 (by omega) rfl (fun _ _ _ => rfl) g3⟩
theorem q11_slips {B : zBk} {S : Nat → Int32} {N : zNt} {b nn : Nat} {w : zW} (h : zInv B S N b nn w) :
    ∃ c s, c ≤ zNA w ∧ s ≤ zNS w ∧ ∀ k : zW → Prop, (∀ v, zInv B S N b nn v → zCost c s w v → zSm (zWy B S) v → k v) → fX11_knownSlips c s w k := by
  have hsl := iv_sl h
  obtain ⟨st, s1, s2, s3⟩ := hsl
  by_cases q : st = 0
  · refine ⟨0, 0, Nat.zero_le _, Nat.zero_le _, fun k hk => ?_⟩
    rw [fX11_knownSlips, s2, q]
    obtain ⟨a1, a2, a3, a4⟩ := s3 q
    exact ⟨fun _ => hk w h (zCost_fl ⟨rfl, rfl⟩) ⟨a1, a2, a3, a4⟩, fun z => absurd rfl z⟩
  · refine ⟨_, _, (zn_le h).1, (zn_le h).2, fun k hk => ?_⟩
    have hb := (iv_re h).1
    rw [fX11_knownSlips, s2, (iv_re h).2.1]
    refine ⟨fun z => absurd ((zi_eq (b := 0) (by omega) (by decide)).mp z) q, fun _ => ⟨by omega, _, _, Nat.le_refl _, Nat.le_refl _, ?_⟩⟩
    refine q_laidI h (fun v big vi vl v0 vp v140 => ?_)
    refine q4_find (iv_wf vi) (iv_cb vi) hb (iv_ha vi).1 (iv_ha vi).2.2 vl (fun u uL uR uI u0 us => ?_)
    refine hk u (zInv_x vi (fun a c q1 q2 q3 q4 => uI a c q2 (by unfold zkeep at q1; omega)) (fun a c _ _ _ => uL a c) (fun a c q1 => uR a c (by omega)) ⟨0, by decide, u0, fun _ => us⟩ ?_) ?_ us
    · exact ⟨fun r hr => by rw [uI _ _ (by omega) (by omega)]; exact (iv_br vi).1 r hr, by rw [uR 1 13 (by omega), uR 140 0 (by omega), uR 140 1 (by omega), uI 0 140 (by omega) (by omega), uI 0 141 (by omega) (by omega), uI 0 142 (by omega) (by omega)]; exact (iv_br vi).2⟩
    · exact zCost_done (zdone_fl vp v140 ⟨uI 0 140 (by omega) (by omega), uR 24 4 (by omega)⟩)
theorem c_misprints {B : zBk} {S : Nat → Int32} {N : zNt} {b nn : Nat} {w : zW} {k : Nat → Nat → zW → Prop} {k0 : zW → Prop} (h : zInv B S N b nn w) (hk : ∀ c s v, zInv B S N b nn v → zCost c s w v → k c s v) : ∃ c s, c ≤ zNA w ∧ s ≤ zNS w ∧ fX11_misprints c s w (fun r1 w1 => fX12_misprints w1 (fun r2 w2 => (r1 = r2 → k c s w2) ∧ (¬ r1 = r2 → k0 w2))) := by
  obtain ⟨c, s, hc, hs, hq⟩ := q11_slips h
  refine ⟨c, s, hc, hs, c, s, Nat.le_refl _, Nat.le_refl _, hq _ (fun v vi vc vs => ?_)⟩
  rw [vs.1]
  refine q12_misprints vi (fun u ui ufl => ?_)
  exact zc_same (hk _ _ u ui (zCost_trans vc (zCost_fl ufl)))
theorem c_misprint {B : zBk} {S : Nat → Int32} {N : zNt} {b nn : Nat} {x : Int32} {w : zW} {k : Nat → Nat → zW → Prop} {k0 : zW → Prop} (h : zInv B S N b nn w) (hk : ∀ c s v, zInv B S N b nn v → zCost c s w v → k c s v) : ∃ c s, c ≤ zNA w ∧ s ≤ zNS w ∧ fX11_misprint c s x w (fun r1 w1 => fX12_misprint x w1 (fun r2 w2 => (r1 = r2 → k c s w2) ∧ (¬ r1 = r2 → k0 w2))) := by
  obtain ⟨c, s, hc, hs, hq⟩ := q11_slips h
  refine ⟨c, s, hc, hs, c, s, Nat.le_refl _, Nat.le_refl _, hq _ (fun v vi vc vs => ?_)⟩
  have hfin : ∀ y : Int32, y = zAns B S x → fX12_misprint x v (fun r2 w2 => (y = r2 → k c s w2) ∧ (¬ y = r2 → k0 w2)) := fun y hy => by
    refine q12_misprint vi (fun u ui ufl => ?_)
    rw [hy]
    exact zc_same (hk _ _ u ui (zCost_trans vc (zCost_fl ufl)))
  intro sv2 e2
  rw [e2]
  refine ⟨fun q => hfin _ (by rw [vs.2.1, zAns, if_pos q]), fun q => ⟨fun q2 => hfin _ (by rw [vs.2.2.1, zAns, if_neg q, if_pos q2]), fun q2 => ⟨fun q3 => hfin _ (by rw [vs.2.2.2, zAns, if_neg q, if_neg q2, if_pos q3]), fun q3 => hfin _ (by rw [zAns, if_neg q, if_neg q2, if_neg q3]; rfl)⟩⟩⟩

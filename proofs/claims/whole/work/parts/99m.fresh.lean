/-! Level 2: the law's start: an empty book, nothing fed, nothing noted -/
theorem q12_stands0 {w : zW} {k : zW → Prop} (hk : ∀ v, (∀ a c, ¬ a = 210 → gI v a c = gI w a c) → v.2 = w.2 → (∀ c, c < 30 → c ≠ 3 → (c < 8 ∨ 16 ≤ c) → gI v 210 (0 + c) = Int32.ofNat 0) → gI v 210 3 = zN1 → (∀ r, r < 8 → gI v 210 (8 + r) = zN1) → k v) : fX12_standsAsAlways 0 w k := by
  have hL34 : ∀ (d i : Nat) (v : zW), i + d = 8 → (∀ a c, ¬ a = 210 → gI v a c = gI w a c) → v.2 = w.2 → (∀ c, c < 30 → c ≠ 3 → (c < 8 ∨ 16 ≤ c) → gI v 210 (0 + c) = Int32.ofNat 0) → gI v 210 3 = zN1 → (∀ r, r < i → gI v 210 (8 + r) = zN1) → fX12_standsAsAlways_L34 k (d + 1) (Int32.ofNat 0) (Int32.ofNat i) v := by
    intro d
    induction d with
    | zero =>
      intro i v hi fv f2 f0 f3 f8
      have ei : i = 8 := by omega
      subst ei
      rw [fX12_standsAsAlways_L34]
      exact ⟨fun _ => hk v fv f2 f0 f3 f8, fun q => absurd (by decide) q⟩
    | succ d ih =>
      intro i v hi fv f2 f0 f3 f8
      rw [fX12_standsAsAlways_L34]
      try dsimp only
      rw [zl8, zi_add, zi_add, zi_nat (show 0 + 8 + i < 2 ^ 31 by omega)]
      refine ⟨fun q => absurd ((zi_le (by omega) (by omega)).mp q) (by omega), fun _ => ⟨zi_in (by omega) (by omega), ?_⟩⟩
      intro w6 e6
      rw [zl1, zi_add]
      refine ih (i + 1) w6 (by omega) (fun a c q => by rw [e6, gI_sI, if_neg (by omega)]; exact fv a c q) (by rw [e6]; exact f2) (fun c c1 c2 c3 => by rw [e6, gI_sI_ne2 (by omega)]; exact f0 c c1 c2 c3) (by rw [e6, gI_sI_ne2 (by omega)]; exact f3) (fun r hr => ?_)
      rw [e6]
      by_cases e : r = i
      · rw [e, show 8 + i = 0 + 8 + i by omega, gI_sI_eq]; rfl
      · rw [gI_sI_ne2 (by omega)]; exact f8 r (by omega)
  have hL2 : ∀ (d i : Nat) (v : zW), i + d = 30 → (∀ a c, ¬ a = 210 → gI v a c = gI w a c) → v.2 = w.2 → (∀ c, c < i → gI v 210 (0 + c) = Int32.ofNat 0) → fX12_standsAsAlways_L2 k (d + 1) (Int32.ofNat 0) (Int32.ofNat i) v := by
    intro d
    induction d with
    | zero =>
      intro i v hi fv f2 f0
      have ei : i = 30 := by omega
      subst ei
      rw [fX12_standsAsAlways_L2]
      try dsimp only
      rw [zl3, zi_add, zi_nat (show 0 + 3 < 2 ^ 31 by omega)]
      refine ⟨fun _ => ⟨zi_in (by omega) (by omega), ?_⟩, fun q => absurd (by decide) q⟩
      intro w3 e3
      exact ⟨8 + 1, hL34 8 0 w3 rfl (fun a c q => by rw [e3, gI_sI, if_neg (by omega)]; exact fv a c q) (by rw [e3]; exact f2) (fun c c1 c2 c3 => by rw [e3, gI_sI_ne2 (by omega)]; exact f0 c c1) (by rw [e3, gI_sI_eq]; rfl) (fun r hr => absurd hr (Nat.not_lt_zero r))⟩
    | succ d ih =>
      intro i v hi fv f2 f0
      rw [fX12_standsAsAlways_L2]
      try dsimp only
      rw [zi_add, zi_nat (show 0 + i < 2 ^ 31 by omega)]
      refine ⟨fun q => absurd ((zi_le (a := 30) (by decide) (by omega)).mp q) (by omega), fun _ => ⟨zi_in (by omega) (by omega), ?_⟩⟩
      intro w8 e8
      rw [zl1, zi_add]
      refine ih (i + 1) w8 (by omega) (fun a c q => by rw [e8, gI_sI, if_neg (by omega)]; exact fv a c q) (by rw [e8]; exact f2) (fun c c1 => ?_)
      rw [e8]
      by_cases e : c = i
      · rw [e, gI_sI_eq]; rfl
      · rw [gI_sI_ne2 (by omega)]; exact f0 c (by omega)
  rw [fX12_standsAsAlways]
  exact ⟨30 + 1, hL2 30 0 w rfl (fun _ _ _ => rfl) rfl (fun c hc => absurd hc (Nat.not_lt_zero c))⟩
/-- the empty book -/
abbrev zB0 : zBk := zFin zX0
theorem z0_I1 : (gI zsB 40 0 = Int32.ofNat 0 ∧ gI zsB 40 6 = Int32.ofNat 0 ∧ gI zsB 40 7 = Int32.ofNat 0) ∧ (∀ o, o < 4 → gI zsB 43 o = Int32.ofNat 0) ∧ (∀ o, o < 4 → gI zsB 44 o = Int32.ofNat 0) ∧ (∀ r, r < 8 → gI zsB 69 r = zN1) := by decide +kernel
theorem z0_I2 : (∀ i, i < 12 → gI zsB 10 i = zN1) ∧ gI zsB 21 0 = Int32.ofNat 0 ∧ (∀ m, m < 4 → gI zsB 20 m = Int32.ofNat 0) ∧ gI zsB 2 1 = Int32.ofNat 0 ∧ gI zsB 200 2 = Int32.ofNat 0 := by decide +kernel
theorem z0_I3 : gI zsB 24 0 = Int32.ofNat 1 ∧ gI zsB 24 1 = Int32.ofNat 1 ∧ gI zsB 31 0 = Int32.ofNat 1 ∧ gI zsB 120 0 = Int32.ofNat 0 ∧ gI zsB 120 1 = Int32.ofNat 1 := by decide +kernel
theorem z0_I4 : ¬ gI zsB 0 140 = 1 ∧ ¬ gI zsB 0 141 = 1 ∧ ¬ gI zsB 0 142 = 1 ∧ ¬ gI zsB 0 150 = 1 := by decide +kernel
theorem z0_R : gR zsB 1 9 = 40 ∧ gR zsB 1 10 = 80 ∧ gR zsB 1 11 = 120 ∧ gR zsB 1 12 = 130 ∧ gR zsB 1 13 = 0 ∧ gR zsB 24 4 = 25 ∧ gR zsB 24 5 = 26 ∧ gR zsB 24 6 = 27 := by decide +kernel
theorem z0_L : ∀ i, i < 21 → gL zsB 209 i = Int64.ofNat (zn37 (zKL.getD i [])) := by decide +kernel
theorem z0_us (o : Nat) : zUs zB0 o = 0 := rfl
theorem z0_ct (r : Nat) : bCt zB0 r = zN1 := rfl
theorem z0_mn (o : Nat) : zcnt 9 (bMn zB0 o) = 0 := by
  have e : ∀ n, zcnt n (bMn zB0 o) = zcnt n (fun _ => false) := fun n => zcnt_congr (fun i _ => wf_Mn (zFin_wf zXok_0) i (Nat.zero_le o))
  rw [e]
  rfl
theorem z0_beg (i : Nat) : zbeg zB0 i = zN1 := by
  unfold zbeg
  split
  · rfl
  · rfl
theorem zInv_0 {v : zW} (hI : ∀ a c, a < 200 → a ≠ 150 → ¬ (a = 0 ∧ c = 150) → gI v a c = gI zsB a c) (h2 : gI v 200 2 = Int32.ofNat 0) (hR : ∀ a c, a ≠ 150 → gR v a c = gR zsB a c) (hL : ∀ a c, a ≠ 150 → gL v a c = gL zsB a c)
    (hrb : zRB zB0 v) (hS : ∀ i, i < 12 → gI v 220 i = zbeg zB0 i) (h17 : gI v 217 0 = Int32.ofNat 0) (h21 : gI v 200 21 = Int32.ofNat 0) (h22 : ∀ m, m < 4 → gI v 222 m = Int32.ofNat 0) : zInv zB0 (zbeg zB0) zN00 40 120 v := by
  have hwf := zFin_wf zXok_0
  obtain ⟨⟨c1, c2, c3⟩, c4, c5, c6⟩ := z0_I1
  obtain ⟨d1, d2, d3, d4, d5⟩ := z0_I2
  obtain ⟨e1, e2, e3, e4, e5⟩ := z0_I3
  obtain ⟨f4, f5, f6, f7⟩ := z0_I4
  obtain ⟨r1, r2, r3, r4, r5, r6, r7, r8⟩ := z0_R
  have hJ : ∀ a c, a < 200 → a ≠ 150 → a ≠ 0 → gI v a c = gI zsB a c := fun a c q1 q2 q3 => hI a c q1 q2 (fun z => q3 z.1)
  have hK : ∀ c, c ≠ 150 → gI v 0 c = gI zsB 0 c := fun c q => hI 0 c (by omega) (by omega) (fun z => q z.2)
  refine ⟨hwf, hrb, ⟨⟨?_, ?_, ?_⟩, fun o ho => absurd ho (Nat.not_lt_zero o), fun o ho => ?_, fun o ho => ?_, fun o i ho => absurd ho (Nat.not_lt_zero o), fun r hr => absurd hr (Nat.not_lt_zero r), fun r i hr => absurd hr (Nat.not_lt_zero r), fun r o hr => absurd hr (Nat.not_lt_zero r), fun r hr => ?_⟩, ⟨zbeg_hd hwf, hS, fun i hi => ?_⟩,
    ⟨0, fun _ => zbeg zB0, by omega, h21, ?_, fun j i hj => absurd hj (Nat.not_lt_zero j), fun j hj => absurd hj (Nat.not_lt_zero j), fun i _ => rfl, fun j hj => absurd hj (Nat.not_lt_zero j)⟩,
    fun m hm => ⟨false, ?_, ?_, fun q => absurd q (by decide)⟩, ⟨0, fun _ => 0, by omega, h2, ?_, fun i hi => absurd hi (Nat.not_lt_zero i)⟩,
    ⟨fun i hi => ?_, fun _ => [], fun o ho => absurd ho (Nat.not_lt_zero o), fun o p _ hp => absurd hp (Nat.not_lt_zero p)⟩, ⟨Or.inl rfl, ?_, ?_, Or.inl rfl, ?_, ?_⟩,
    ⟨25, 1, 1, by omega, by omega, ?_, ?_, ⟨Or.inl rfl, by decide, ?_, ?_, ?_, fun c q1 _ => ?_⟩, fun q => absurd q (by decide), fun q => absurd q (by decide)⟩, ⟨1, by omega, ?_, fun q => absurd q (by decide)⟩,
    ⟨⟨Nat.zero_le _, fun i hi => absurd hi (Nat.not_lt_zero i)⟩, h17, ?_, fun i hi => absurd hi (Nat.not_lt_zero i), fun i hi => absurd hi (Nat.not_lt_zero i), 1, by omega, ?_, fun q => absurd q (by decide)⟩,
    ⟨fun r hr => absurd hr (Nat.not_lt_zero r), Or.inl ⟨?_, ?_, ?_, ?_⟩⟩⟩
  · rw [hJ _ _ (by omega) (by omega) (by omega)]; exact c1
  · rw [hJ _ _ (by omega) (by omega) (by omega)]; exact c2
  · rw [hJ _ _ (by omega) (by omega) (by omega)]; exact c3
  · rw [hJ _ _ (by omega) (by omega) (by omega), z0_us]; exact c4 o ho
  · rw [hJ _ _ (by omega) (by omega) (by omega), z0_mn]; exact c5 o ho
  · rw [hJ _ _ (by omega) (by omega) (by omega), z0_ct]; exact c6 r hr
  · rw [hJ _ _ (by omega) (by omega) (by omega), z0_beg]; exact d1 i hi
  · rw [hJ _ _ (by omega) (by omega) (by omega)]; exact d2
  · rw [if_neg (by decide)]; exact h22 m hm
  · rw [if_neg (by decide), hJ _ _ (by omega) (by omega) (by omega)]; exact d3 m hm
  · rw [hJ _ _ (by omega) (by omega) (by omega)]; exact d4
  · rw [hL _ _ (by omega)]; exact z0_L i hi
  · rw [hR _ _ (by omega)]; exact r1
  · rw [hR _ _ (by omega)]; exact r2
  · rw [hR _ _ (by omega)]; exact r3
  · rw [hR _ _ (by omega)]; exact r4
  · rw [hJ _ _ (by omega) (by omega) (by omega)]; exact e1
  · rw [hJ _ _ (by omega) (by omega) (by omega)]; exact e2
  · rw [hR _ _ (by omega)]; exact r6
  · rw [hR _ _ (by omega)]; exact r7
  · rw [hR _ _ (by omega)]; exact r8
  · rw [hK c (by omega), zno_B c q1]; decide
  · rw [hJ _ _ (by omega) (by omega) (by omega)]; exact e3
  · rw [hJ _ _ (by omega) (by omega) (by omega)]; exact e4
  · rw [hJ _ _ (by omega) (by omega) (by omega)]; exact e5
  · rw [hR _ _ (by omega)]; exact r5
  · rw [hK _ (by omega)]; exact f4
  · rw [hK _ (by omega)]; exact f5
  · rw [hK _ (by omega)]; exact f6
theorem q_fresh {k : zW → Prop} (hk : ∀ v, ¬ gI v 0 150 = 1 → (∀ w5, w5 = nW v 150 → zInv zB0 (zbeg zB0) zN00 40 120 w5) → k v) : fX12_init 29 11029 200 (nW zsC 200) k := by
  refine q_X12_init (q12_stands0 (fun u hu u2 u0 u3 u8 => ?_))
  have hR1 : zR1 zX0 u := by
    refine ⟨⟨?_, ?_, ?_⟩, u3, fun o ho => absurd ho (Nat.not_lt_zero o), fun r hr => u8 r hr, fun r hr => absurd hr (Nat.not_lt_zero r), fun r i hr => absurd hr (Nat.not_lt_zero r), fun o ho => absurd ho (Nat.not_lt_zero o), fun n g q => by cases q⟩
    · exact u0 0 (by omega) (by omega) (by omega)
    · exact u0 1 (by omega) (by omega) (by omega)
    · exact u0 2 (by omega) (by omega) (by omega)
  refine q12_begins zXok_0 hR1 (fun v hv hrb _ hS h17 h21 h22 => ?_)
  have hI : ∀ a c, a < 200 → gI v a c = gI zsB a c := fun a c q => by
    rw [hv.1 a c (by omega) (by omega) (by omega) (by omega) (by omega) (by omega) (by omega) (by omega) (by omega), hu a c (by omega)]
  have h2 : gI v 200 2 = Int32.ofNat 0 := by
    rw [hv.1 200 2 (by omega) (by omega) (by omega) (by omega) (by omega) (by omega) (by omega) (by omega) (by omega), hu 200 2 (by omega)]
    exact z0_I2.2.2.2.2
  have e2 : v.2 = zsB.2 := by rw [hv.2, u2]
  have hR : ∀ a c, gR v a c = gR zsB a c := fun a c => by unfold gR; rw [e2]
  have hL : ∀ a c, gL v a c = gL zsB a c := fun a c => by unfold gL; rw [e2]
  refine hk v (by rw [hI _ _ (by omega)]; exact z0_I4.2.2.2) (fun w5 e5 => ?_)
  subst e5
  refine zInv_0 (fun a c q1 q2 q3 => ?_) ?_ (fun a c q => ?_) (fun a c q => ?_) (zRB_of hrb (fun c hc => ?_) (fun c hc => ?_) (fun c => ?_) (fun c => ?_) (fun c => ?_) (zFin_wf zXok_0)) (fun i hi => ?_) ?_ ?_ (fun m hm => ?_)
  · rw [gI_nW, if_neg q2, if_neg q3]; exact hI a c q1
  · rw [gI_nW, if_neg (by omega), if_neg (by omega)]; exact h2
  · rw [gR_nW, if_neg q]; exact hR a c
  · rw [gL_nW, if_neg q]; exact hL a c
  · rw [gI_nW, if_neg (by omega), if_neg (by omega)]
  · rw [gI_nW, if_neg (by omega), if_neg (by omega)]
  · rw [gI_nW, if_neg (by omega), if_neg (by omega)]
  · rw [gI_nW, if_neg (by omega), if_neg (by omega)]
  · rw [gI_nW, if_neg (by omega), if_neg (by omega)]
  · rw [gI_nW, if_neg (by omega), if_neg (by omega)]; exact hS i hi
  · rw [gI_nW, if_neg (by omega), if_neg (by omega)]; exact h17
  · rw [gI_nW, if_neg (by omega), if_neg (by omega)]; exact h21
  · rw [gI_nW, if_neg (by omega), if_neg (by omega)]; exact h22 m hm

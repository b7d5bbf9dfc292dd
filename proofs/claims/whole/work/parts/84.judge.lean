/-! Level 2: the call alike; notes judged -/
theorem c_alike {B : zBk} {S : Nat → Int32} {N : zNt} {b nn : Nat} {x y : Int32} {w : zW} {k k0 : zW → Prop} (h : zInv B S N b nn w) (hk : ∀ v, zInv B S N b nn v → zfl w v → k v) : fX11_alike x y w (fun r1 w1 => fX12_alike x y w1 (fun r2 w2 => (r1 = r2 → k w2) ∧ (¬ r1 = r2 → k0 w2))) := by
  have hwf := iv_wf h
  have h8 := wf_R hwf
  have hb0 : ¬ b = 0 := by have := (iv_re h).1; omega
  have ht := zInv_t h 0
  have hkv := hk _ ht ⟨rfl, rfl⟩
  have hz : ∀ (p q : Int32) (K : Int32 → zW → Prop) (v : zW), K (Int32.ofNat 0) v → fX12_alike_J44 K p q (0 : Int32) v := fun p q K v hK => by
    refine ⟨1, ?_⟩
    rw [fX12_alike_L48]
    try dsimp only
    exact ⟨fun _ => ⟨Or.inl rfl, hK⟩, fun q => absurd rfl q⟩
  rw [fX11_alike]
  rcases zr_cases hwf hb0 x with ⟨r, hr, rfl⟩ | ⟨hn1, hn2⟩
  · refine q11_isRowY h hr ⟨fun q => absurd q (by decide), fun _ => ?_⟩
    rcases zr_cases hwf hb0 y with ⟨o, ho, rfl⟩ | ⟨hn1, hn2⟩
    · refine q11_isRowY h ho ⟨fun q => absurd q (by decide), fun _ => ⟨fun q => ?_, fun q => ⟨by rw [(iv_re h).2.1]; exact hb0, ?_⟩⟩⟩
      · intro w1 e
        subst e
        refine q12_isRowY ht hr ⟨fun q => absurd q (by decide), fun _ => q12_isRowY ht ho ⟨fun q => absurd q (by decide), fun _ => ⟨fun _ => hz _ _ _ _ (zc_same hkv), fun z => absurd q z⟩⟩⟩
      · rw [(iv_re h).2.1]
        have l1 := wf_Ln hwf hr
        have l2 := wf_Ln hwf ho
        have href : ∀ K : Int32 → zW → Prop, (zalike B r o → K (Int32.ofNat 1) (sI w 200 0 0)) → (¬ zalike B r o → K (Int32.ofNat 0) (sI w 200 0 0)) → fX12_alike (Int32.ofNat r) (Int32.ofNat o) w K := by
          intro K h1 h0 w1 e
          subst e
          refine q12_isRowY ht hr ⟨fun q => absurd q (by decide), fun _ => q12_isRowY ht ho ⟨fun q => absurd q (by decide), fun _ => ⟨fun z => absurd z q, fun _ => ?_⟩⟩⟩
          refine q12_longOf hwf (iv_rb ht) hr (q12_longOf hwf (iv_rb ht) ho ?_)
          intro v21 e21
          by_cases hl : bLn B r = bLn B o
          · have x21 : v21 = Int32.ofNat 1 := e21.trans (if_neg (fun z => z (by rw [hl])))
            rw [x21]
            exact q12_alikeL hwf (iv_rb ht) hr ho hl h1 h0
          · have x21 : v21 = (0 : Int32) := e21.trans (if_pos (fun z => hl ((zi_eq (by omega) (by omega)).mp z)))
            rw [x21]
            exact hz _ _ _ _ (h0 (fun z => hl z.1))
        refine q0_sameShape hwf (iv_cb h) hr ho (fun z => ?_) (fun z => ?_)
        · intro v8 e8
          obtain rfl : v8 = _ := e8.trans (if_neg (by decide))
          exact ⟨Or.inr rfl, href _ (fun _ => zc_same hkv) (fun y => absurd z y)⟩
        · intro v8 e8
          obtain rfl : v8 = _ := e8.trans (if_pos rfl)
          exact ⟨Or.inl rfl, href _ (fun y => absurd y z) (fun _ => zc_same hkv)⟩
    · refine hn1 w _ (iv_re h).2.1 (cb_R (iv_cb h)) ⟨fun _ => ?_, fun q => absurd rfl q⟩
      intro w1 e
      subst e
      refine q12_isRowY ht hr ⟨fun q => absurd q (by decide), fun _ => hn2 _ _ (rb_R (iv_rb ht)) ⟨fun _ => hz _ _ _ _ (zc_same hkv), fun q => absurd rfl q⟩⟩
  · refine hn1 w _ (iv_re h).2.1 (cb_R (iv_cb h)) ⟨fun _ => ?_, fun q => absurd rfl q⟩
    intro w1 e
    subst e
    exact hn2 _ _ (rb_R (iv_rb ht)) ⟨fun _ => hz _ _ _ _ (zc_same hkv), fun q => absurd rfl q⟩
/-- the hands of notes are hands -/
theorem zbeg_hd {B : zBk} (hwf : zWF B) : zHd B (zbeg B) := by
  refine ⟨fun o ho => ?_, fun o _ ho => ?_, fun r hr => ?_, fun r q hr => ?_⟩
  · rw [zbeg, if_pos ho]; exact Or.inl rfl
  · rw [zbeg, if_pos ho]
  · rw [zbeg, if_neg (by omega), show 4 + r - 4 = r by omega]; exact wf_Ct hwf r
  · rw [zbeg, if_neg (by omega), show 4 + r - 4 = r by omega]; exact wf_Ct1 hwf q
theorem zNh_hd {B : zBk} {N : zNt} (hwf : zWF B) (hN : zNwf B N) : ∀ n, n ≤ N.1 → zHd B (zNh B N n) := by
  have h4 := wf_W hwf
  have h8 := wf_R hwf
  intro n
  induction n with
  | zero => intro _; exact zbeg_hd hwf
  | succ n ih =>
    intro hn
    have hd := ih (by omega)
    obtain ⟨a1, a2, a3, a4, a5⟩ := hN.2 n (by omega)
    show zHd B (if zNcan B N n (zNh B N n) = true then zup (zNh B N n) (zNslot N n) (zNval N n) else zNh B N n)
    by_cases q : zNcan B N n (zNh B N n) = true
    · rw [if_pos q]
      refine zHd_up hd (fun hs => ?_) (fun r hr => ?_)
      · have hs' : N.2.1 n < 2 := by
          by_cases z : N.2.1 n < 2
          · exact z
          · rw [zNslot, if_neg z] at hs; omega
        have h2 := a2 hs'
        rw [zNslot, if_pos hs']
        refine ⟨?_, fun y => by omega⟩
        rw [zNval]
        by_cases z : N.2.1 n = 0
        · rw [if_pos z]
          have := a4 z
          exact zsm_m (by omega)
        · rw [if_neg z, if_neg (by omega)]
          exact Or.inl rfl
      · have hs' : ¬ N.2.1 n < 2 := by
          intro z
          have h2 := a2 z
          rw [zNslot, if_pos z] at hr
          omega
        have h3 := a3 (by omega)
        rw [zNslot, if_neg hs'] at hr
        refine ⟨?_, fun y => by omega⟩
        rw [zNval, if_neg (by omega)]
        by_cases z : N.2.1 n = 2
        · rw [if_pos z]
          have := a5 z
          exact zsm_m (by omega)
        · rw [if_neg z]
          exact Or.inl rfl
    · rw [if_neg q]; exact hd
theorem zNslot_lt {B : zBk} {N : zNt} (hwf : zWF B) (hN : zNwf B N) {i : Nat} (hi : i < N.1) : zNslot N i < 12 := by
  have h4 := wf_W hwf
  have h8 := wf_R hwf
  obtain ⟨a1, a2, a3, a4, a5⟩ := hN.2 i hi
  rw [zNslot]
  by_cases z : N.2.1 i < 2
  · rw [if_pos z]; have := a2 z; omega
  · rw [if_neg z]; have := a3 (by omega); omega
/-- how many fit, by a hand that is not the one held -/
theorem q8_fittingBy {B : zBk} {T : Nat → Int32} {a b big : Nat} {w : zW} {k : Int32 → zW → Prop} (hwf : zWF B) (hcb : zCB B b w) (hbb : b = 40 ∨ b = 80) (hd : zHd B T) (hS : ∀ i, i < 12 → gI w (a + 1) i = T i) (hl : zLaid B b big w) (hk : k (Int32.ofNat (zFL B T).length) w) : fX8_fittingBy a w k := by
  have h4 := wf_W hwf
  have hle := zAL_le hwf
  have hUA := zUL_le B
  have hln := zBig_ln hl.1
  have hb4 := zBig_4 hl.1
  have lN := hl.2.2.1
  refine zrun (fun n (s : Int32 × Int32) => fX8_fittingBy_L4 a k n s.1 s.2 w) (fun i => (Int32.ofNat (zFLi B T i).length, Int32.ofNat i)) (zUL B).length (fun n => ?_) (fun i n hi hc => ?_)
  · rw [zFLi_all]
    rw [fX8_fittingBy_L4]
    try dsimp only
    rw [hl.2.2.2.2.1]
    exact ⟨fun _ => hk, fun q => absurd (Int32.le_refl _) q⟩
  · have hpl := zpd_lt (bW B) ((zUL B).getD i 0)
    have eU := hl.2.2.2.2.2.2 i hi
    rw [zFLi_S hi] at hc
    rw [fX8_fittingBy_L4]
    try dsimp only
    rw [hl.2.2.2.2.1, hb4.2.2, hln.2.1, hl.2.1]
    refine ⟨fun q => absurd q (zi_nge hi (by omega)), fun _ => ⟨by omega, fun q => absurd q (zi_nge (by omega) (by omega)), fun _ => ⟨zi_in (by omega) (by omega), by omega, ?_⟩⟩⟩
    rw [zi_nat (show i < 2 ^ 31 by omega), eU]
    refine q3_agrees (d := (zUL B).getD i 0) hwf hcb hd hS (by omega) (fun o ho => zdg_pd _ _ (by omega)) ?_
    intro v7 e7 v8 e8
    rw [zl1, zi_add]
    by_cases q : (zGu B T ((zUL B).getD i 0) && zof B T (zdm (bW B) ((zUL B).getD i 0)) == 0) = true
    · rw [if_pos q] at e7 hc
      have x7 : v7 = Int32.ofNat 1 := e7.trans (if_neg (by decide))
      rw [x7, zi_add] at e8
      rw [e8]
      rw [List.length_append] at hc
      exact hc
    · rw [if_neg q] at e7 hc
      have x7 : v7 = Int32.ofNat 0 := e7.trans (if_pos rfl)
      rw [x7, zi_add, Nat.add_zero] at e8
      rw [e8]
      rw [List.append_nil] at hc
      exact hc
/-- whether a line of notes can be, on the class's side -/
theorem q5_canBe {B : zBk} {N : zNt} {T : Nat → Int32} {b nn i : Nat} {w : zW} {k : Int32 → zW → Prop} (hwf : zWF B) (hcb : zCB B b w) (hN : zNwf B N) (hi : i < N.1) (hd : gI w (nn + 1) i = Int32.ofNat (6 + N.2.1 i)) (hs : gI w (nn + 2) i = Int32.ofNat (zNslot N i)) (hv : gI w (nn + 3) i = zNval N i) (hT : ∀ i, i < 12 → gI w (nn + 4 + 1) i = T i) (hk : k (Int32.ofNat (zb2n (zNcan B N i T))) w) : fX5_canBe nn b (Int32.ofNat i) w k := by
  have h40 := hN.1
  have hsl := zNslot_lt hwf hN hi
  obtain ⟨a1, a2, a3, a4, a5⟩ := hN.2 i hi
  rw [fX5_canBe]
  refine ⟨zi_in (by omega) (by omega), ?_⟩
  rw [zi_nat (show i < 2 ^ 31 by omega), hd, hs, hv]
  intro sv es
  subst es
  by_cases q0 : N.2.1 i = 0
  · have hw := a2 (by omega)
    have hm := a4 q0
    refine ⟨fun _ => ?_, fun q => absurd (show Int32.ofNat (6 + N.2.1 i) = 6 by rw [q0]; rfl) q⟩
    rw [zNslot, if_pos (by omega), zNval, if_pos q0]
    rw [zNcan, if_pos q0] at hk
    refine q0_means hwf hcb hw (by omega) (fun hh => ?_) (fun hh => ?_)
    · rw [hh] at hk
      exact ⟨Or.inr rfl, hk⟩
    · rw [hh] at hk
      exact ⟨Or.inl rfl, hk⟩
  · refine ⟨fun q => absurd ((zi_eq (b := 6) (by omega) (by decide)).mp q) (by omega), fun _ => ?_⟩
    by_cases q2 : N.2.1 i = 2
    · rw [zNcan, if_neg q0, if_neg (by omega), if_pos q2] at hk
      exact ⟨fun _ => hk, fun q => absurd (show Int32.ofNat (6 + N.2.1 i) = 8 by rw [q2]; rfl) q⟩
    · refine ⟨fun q => absurd ((zi_eq (b := 8) (by omega) (by decide)).mp q) (by omega), fun _ => ?_⟩
      refine q3_at hsl ?_
      rw [hT _ hsl]
      have hcan : zNcan B N i T = zh T (zNslot N i) := by
        rw [zNcan, if_neg q0, zNslot]
        by_cases q1 : N.2.1 i = 1
        · rw [if_pos q1, if_pos (by omega)]
        · rw [if_neg q1, if_neg q2, if_neg (by omega)]
      rw [hcan] at hk
      intro v7 e7
      by_cases y : T (zNslot N i) = zN1
      · rw [zh_f y] at hk
        have x : v7 = Int32.ofNat 0 := e7.trans (if_pos y)
        rw [x]
        exact ⟨Or.inl rfl, hk⟩
      · rw [zh_t y] at hk
        have x : v7 = Int32.ofNat 1 := e7.trans (if_neg y)
        rw [x]
        exact ⟨Or.inr rfl, hk⟩

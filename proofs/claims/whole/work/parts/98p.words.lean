/-! Level 2: the reference at a token -/
/-- the reference knows its words -/
def zWd (w : zW) : Prop := ∀ i, i < 21 → gL w 209 i = Int64.ofNat (zn37 (zKL.getD i []))
def zRtk (sg : Nat → Nat) (n m j : Nat) (v : zW) : Prop := zTb (zTT sg n) m v ∧ zWd v ∧ j ≤ m ∧ gI v 200 8 = 0 ∧ gI v 200 7 = Int32.ofNat j
theorem rt_m {sg : Nat → Nat} {n m j : Nat} {v : zW} (h : zRtk sg n m j v) : zTm (zTT sg n) m := ⟨h.1.1, h.1.2.1, h.1.2.2.1⟩
theorem rt_kd {sg : Nat → Nat} {n m j : Nat} {v : zW} (h : zRtk sg n m j v) : gI v 204 j = Int32.ofNat ((zTT sg n).kd j) := (h.1.2.2.2 j h.2.2.1).1
theorem rt_pl {sg : Nat → Nat} {n m j : Nat} {v : zW} (h : zRtk sg n m j v) : gI v 205 j = Int32.ofNat ((zTT sg n).pl j) := (h.1.2.2.2 j h.2.2.1).2.1
theorem rt_nm {sg : Nat → Nat} {n m j : Nat} {v : zW} (h : zRtk sg n m j v) (e : (zTT sg n).kd j = 1) : gL v 206 j = Int64.ofNat (zn37 ((zTT sg n).nm j)) := (h.1.2.2.2 j h.2.2.1).2.2.1 e
theorem rt_nu {sg : Nat → Nat} {n m j : Nat} {v : zW} (h : zRtk sg n m j v) (e : (zTT sg n).kd j = 2) : gL v 206 j = Int64.ofNat ((zTT sg n).nu j) := (h.1.2.2.2 j h.2.2.1).2.2.2.1 e
theorem rt_si {sg : Nat → Nat} {n m j : Nat} {v : zW} (h : zRtk sg n m j v) (e : (zTT sg n).kd j = 3) : gL v 206 j = Int64.ofNat ((zTT sg n).si j) := (h.1.2.2.2 j h.2.2.1).2.2.2.2 e
/-- the tokens stand -/
def zfK (w v : zW) : Prop := (∀ c, gI v 204 c = gI w 204 c ∧ gI v 205 c = gI w 205 c) ∧ (∀ c, gL v 206 c = gL w 206 c ∧ gL v 209 c = gL w 209 c)
theorem zfK_trans {u v w : zW} (h : zfK u v) (h2 : zfK v w) : zfK u w := ⟨fun c => ⟨(h2.1 c).1.trans (h.1 c).1, (h2.1 c).2.trans (h.1 c).2⟩, fun c => ⟨(h2.2 c).1.trans (h.2 c).1, (h2.2 c).2.trans (h.2 c).2⟩⟩
theorem zTb_K {T : zTks} {m : Nat} {w v : zW} (h : zTb T m w) (f : zfK w v) : zTb T m v := by
  refine ⟨h.1, h.2.1, h.2.2.1, fun j hj => ?_⟩
  obtain ⟨q1, q2, q3, q4, q5⟩ := h.2.2.2 j hj
  exact ⟨by rw [(f.1 j).1]; exact q1, by rw [(f.1 j).2]; exact q2, fun e => by rw [(f.2 j).1]; exact q3 e, fun e => by rw [(f.2 j).1]; exact q4 e, fun e => by rw [(f.2 j).1]; exact q5 e⟩
theorem zRt_K {sg : Nat → Nat} {n m j j' : Nat} {w v : zW} (h : zRtk sg n m j w) (f : zfK w v) (hj : j' ≤ m) (h8 : gI v 200 8 = 0) (h7 : gI v 200 7 = Int32.ofNat j') : zRtk sg n m j' v :=
  ⟨zTb_K h.1 f, fun i hi => by rw [(f.2 i).2]; exact h.2.1 i hi, hj, h8, h7⟩
theorem zfK_sI (w : zW) {a : Nat} (c : Nat) (x : Int32) (h : a ≠ 204 ∧ a ≠ 205) : zfK w (sI w a c x) := ⟨fun c => ⟨by rw [gI_sI_ne (by omega)], by rw [gI_sI_ne (by omega)]⟩, fun _ => ⟨rfl, rfl⟩⟩
theorem zRt_7 {sg : Nat → Nat} {n m j j' : Nat} {w : zW} (h : zRtk sg n m j w) (hj : j' ≤ m) : zRtk sg n m j' (sI w 200 7 (Int32.ofNat j')) :=
  zRt_K h (zfK_sI _ _ _ (by decide)) hj (by rw [gI_sI_ne2 (by decide)]; exact h.2.2.2.1) (gI_sI_eq _ _ _ _)
theorem zsI_id {w : zW} {a c : Nat} {x : Int32} (h : gI w a c = x) : sI w a c x = w := by
  refine zWext (fun a' c' => ?_) (fun _ _ => rfl) (fun _ _ => rfl)
  rw [gI_sI]
  by_cases e : a' = a ∧ c' = c
  · rw [if_pos e, e.1, e.2, h]
  · rw [if_neg e]
/-- a fault is there -/
def zRf (e : Nat) (v : zW) : Prop := 0 < e ∧ e < 20000 ∧ gI v 200 8 = Int32.ofNat e
theorem rf_ne {e : Nat} {v : zW} (h : zRf e v) : ¬ gI v 200 8 = 0 := by
  rw [h.2.2]
  have h1 := h.1
  have h2 := h.2.1
  exact fun q => by have := (zi_eq (b := 0) (by omega) (by decide)).mp q; omega
theorem rf_le {e : Nat} {v : zW} (h : zRf e v) : ¬ gI v 200 8 ≤ 0 := by
  rw [h.2.2]
  have h1 := h.1
  have h2 := h.2.1
  exact fun q => by have := (zi_le (b := 0) (by omega) (by decide)).mp q; omega
theorem rt_ne {sg : Nat → Nat} {n m j : Nat} {v : zW} (h : zRtk sg n m j v) : gI v 200 8 ≤ 0 := by rw [h.2.2.2.1]; decide
theorem rt_in {sg : Nat → Nat} {n m j : Nat} {v : zW} (h : zRtk sg n m j v) : vp_in (gI v 200 7) 1002 ∧ (gI v 200 7).toNatClampNeg = j := by
  have h1 := h.1.1
  have h2 := h.2.2.1
  rw [h.2.2.2.2]
  exact ⟨zi_in (by omega) (by omega), zi_nat (by omega)⟩
theorem q12_isSignF {e : Nat} {x : Int32} {w : zW} {k : Int32 → zW → Prop} (h : zRf e w) (hk : k 0 w) : fX12_isSign x w k := by
  rw [fX12_isSign]
  exact ⟨fun _ => hk, fun q => absurd q (rf_ne h)⟩
theorem q12_sn {sg : Nat → Nat} {n m j c : Nat} {w : zW} {k : Int32 → zW → Prop} (hsg : zSg sg n) (h : zRtk sg n m j w) (hc : c < 127) (h1 : zSn (zTT sg n) c j = true → k 1 w) (h0 : ¬ zSn (zTT sg n) c j = true → k 0 w) : fX12_isSign (Int32.ofNat c) w k := by
  have h4 := zTT_kd4 sg n j
  rw [fX12_isSign, (rt_in h).2, rt_kd h]
  refine ⟨fun q => absurd h.2.2.2.1 q, fun _ => ⟨(rt_in h).1, fun q => h0 (fun y => q (by rw [(zSn_t y).1]; rfl)), fun q => ?_⟩⟩
  have e := (zi_eq (b := 3) (by omega) (by decide)).mp q
  have hsi := zTT_si hsg e
  intro v4 e4
  rw [rt_si h e, zi_L64 (by omega)] at e4
  by_cases z : (zTT sg n).si j = c
  · rw [e4.trans (if_neg (fun y => y ((lg_cmp_eq _ _).mpr (by rw [z]))))]
    exact ⟨Or.inr rfl, h1 (zSn_i e z)⟩
  · rw [e4.trans (if_pos (fun y => z (zl_inj (by omega) (by omega) ((lg_cmp_eq _ _).mp y))))]
    exact ⟨Or.inl rfl, h0 (zSn_f (fun y => z y.2))⟩
theorem q12_isWordF {e : Nat} {x : Int32} {w : zW} {k : Int32 → zW → Prop} (h : zRf e w) (hk : k 0 w) : fX12_isWord x w k := by
  rw [fX12_isWord]
  exact ⟨fun _ => hk, fun q => absurd q (rf_ne h)⟩
theorem q12_isWord {sg : Nat → Nat} {n m j i : Nat} {w : zW} {k : Int32 → zW → Prop} (h : zRtk sg n m j w) (hi : i < 21) (h1 : (zTT sg n).ky j = i → k 1 w) (h0 : ¬ (zTT sg n).ky j = i → k 0 w) : fX12_isWord (Int32.ofNat i) w k := by
  have h4 := zTT_kd4 sg n j
  have hks := zTT_ks (sg := sg) (n := n) (j := j) hi
  rw [fX12_isWord, (rt_in h).2, rt_kd h]
  refine ⟨fun q => absurd h.2.2.2.1 q, fun _ => ⟨(rt_in h).1, fun q => h0 (fun y => q (by rw [(hks.mp y).1]; rfl)), fun q => ⟨zi_in hi (by omega), ?_⟩⟩⟩
  have e := (zi_eq (b := 1) (by omega) (by decide)).mp q
  intro v4 e4
  rw [rt_nm h e, zi_nat (show i < 2 ^ 31 by omega), h.2.1 i hi] at e4
  by_cases z : (zTT sg n).nm j = zKL.getD i []
  · rw [e4.trans (if_neg (fun y => y ((lg_cmp_eq _ _).mpr (by rw [z]))))]
    exact ⟨Or.inr rfl, h1 (hks.mpr ⟨e, z⟩)⟩
  · rw [e4.trans (if_pos (fun y => z ((zn37_eq (zTT_nm e) (zKL_ok ⟨i, hi⟩)).mp ((lg_cmp_eq _ _).mp y))))]
    exact ⟨Or.inl rfl, h0 (fun y => z (hks.mp y).2)⟩
theorem q12_wordHereF {e N : Nat} {x : Int32} {w : zW} {k : Int32 → zW → Prop} (h : zRf e w) (hN : N < 2 ^ 31) (hk : k (-1) w) : fX12_wordHere x (Int32.ofNat N) w k := by
  rw [fX12_wordHere]
  have hgo : ∀ (d i : Nat), i + d = N → fX12_wordHere_L5 k (d + 1) x (Int32.ofNat N) (-1 : Int32) (Int32.ofNat i) w := by
    intro d
    induction d with
    | zero =>
      intro i hi
      rw [fX12_wordHere_L5]
      exact ⟨fun _ => hk, fun q => absurd ((zi_le (by omega) (by omega)).mpr (by omega)) q⟩
    | succ d ih =>
      intro i hi
      rw [fX12_wordHere_L5]
      refine ⟨fun q => absurd ((zi_le (by omega) (by omega)).mp q) (by omega), fun _ => q12_isWordF h ?_⟩
      intro v3 e3
      rw [e3.trans (if_pos rfl), zl1, zi_add]
      exact ih (i + 1) (by omega)
  exact ⟨N + 1, hgo N 0 (by omega)⟩
/-- which of some of the language's words stands here -/
def zWh (T : zTks) (a N j : Nat) : Int32 := if a ≤ T.ky j ∧ T.ky j < a + N then Int32.ofNat (T.ky j - a) else -1
theorem q12_wordHere {sg : Nat → Nat} {n m j a N : Nat} {w : zW} {k : Int32 → zW → Prop} (h : zRtk sg n m j w) (hN : a + N ≤ 21) (hk : k (zWh (zTT sg n) a N j) w) : fX12_wordHere (Int32.ofNat a) (Int32.ofNat N) w k := by
  rw [fX12_wordHere]
  have hgo : ∀ (d i : Nat), i + d = N → fX12_wordHere_L5 k (d + 1) (Int32.ofNat a) (Int32.ofNat N) (zWh (zTT sg n) a i j) (Int32.ofNat i) w := by
    intro d
    induction d with
    | zero =>
      intro i hi
      have e : i = N := by omega
      subst e
      rw [fX12_wordHere_L5]
      exact ⟨fun _ => hk, fun q => absurd ((zi_le (by omega) (by omega)).mpr (by omega)) q⟩
    | succ d ih =>
      intro i hi
      have ih' := ih (i + 1) (by omega)
      rw [fX12_wordHere_L5]
      refine ⟨fun q => absurd ((zi_le (by omega) (by omega)).mp q) (by omega), fun _ => ?_⟩
      rw [zi_add]
      refine q12_isWord h (by omega) (fun y => ?_) (fun y => ?_)
      · intro v3 e3
        rw [zWh, if_pos (by omega), show (zTT sg n).ky j - a = i by omega] at ih'
        rw [e3.trans (if_neg (by decide)), zl1, zi_add]
        exact ih'
      · intro v3 e3
        have e : zWh (zTT sg n) a (i + 1) j = zWh (zTT sg n) a i j := by
          rw [zWh, zWh]
          by_cases z : a ≤ (zTT sg n).ky j ∧ (zTT sg n).ky j < a + i
          · rw [if_pos z, if_pos (by omega)]
          · rw [if_neg z, if_neg (by omega)]
        rw [e] at ih'
        rw [e3.trans (if_pos rfl), zl1, zi_add]
        exact ih'
  have h0 : zWh (zTT sg n) a 0 j = -1 := by rw [zWh, if_neg (by omega)]
  have := hgo N 0 (by omega)
  rw [h0] at this
  exact ⟨N + 1, this⟩
theorem zWh_neg {T : zTks} {a N j : Nat} (h : ¬ (a ≤ T.ky j ∧ T.ky j < a + N)) : zWh T a N j = -1 := if_neg h
theorem zWh_pos {T : zTks} {a N j : Nat} (h : a ≤ T.ky j ∧ T.ky j < a + N) : zWh T a N j = Int32.ofNat (T.ky j - a) := if_pos h
theorem q12_isNameF {e : Nat} {w : zW} {k : Int32 → zW → Prop} (h : zRf e w) (hk : k 0 w) : fX12_isName w k := by
  rw [fX12_isName]
  exact ⟨fun _ => hk, fun q => absurd q (rf_ne h)⟩
theorem q12_isName {sg : Nat → Nat} {n m j : Nat} {w : zW} {k : Int32 → zW → Prop} (h : zRtk sg n m j w) (h1 : zNmd (zTT sg n) j → k 1 w) (h0 : ¬ zNmd (zTT sg n) j → k 0 w) : fX12_isName w k := by
  have h4 := zTT_kd4 sg n j
  have h21 := zTT_ky21 sg n j
  rw [fX12_isName, (rt_in h).2, rt_kd h]
  refine ⟨fun q => absurd h.2.2.2.1 q, fun _ => ⟨(rt_in h).1, fun q => h0 (fun y => q (by rw [y.1]; rfl)), fun q => ?_⟩⟩
  have e := (zi_eq (b := 1) (by omega) (by decide)).mp q
  refine q12_wordHere (a := 0) (N := 17) h (by decide) ?_
  intro v5 e5
  by_cases z : (zTT sg n).ky j < 17
  · rw [zWh_pos (by omega)] at e5
    rw [e5.trans (if_pos ((zi_le (a := 0) (by decide) (by omega)).mpr (Nat.zero_le _)))]
    exact ⟨Or.inl rfl, h0 (fun y => by have := y.2; omega)⟩
  · rw [zWh_neg (by omega)] at e5
    rw [e5.trans (if_neg (by decide))]
    exact ⟨Or.inr rfl, h1 ⟨e, by omega⟩⟩
theorem q12_wrongF {e : Nat} {x : Int32} {w : zW} {k : zW → Prop} (h : zRf e w) (hk : k w) : fX12_wrong x w k := by
  rw [fX12_wrong]
  exact ⟨fun _ => hk, fun q => absurd q (rf_ne h)⟩
theorem q12_wrong {sg : Nat → Nat} {n m j x : Nat} {w : zW} {k : zW → Prop} (h : zRtk sg n m j w) (hk : k (sI w 200 8 (Int32.ofNat (x + 16 * (zTT sg n).pl j)))) : fX12_wrong (Int32.ofNat x) w k := by
  rw [fX12_wrong, (rt_in h).2, rt_pl h]
  refine ⟨fun q => absurd h.2.2.2.1 q, fun _ => ⟨(rt_in h).1, ?_⟩⟩
  intro w3 e3
  rw [zl16, zi_mul, zi_add] at e3
  rw [e3]; exact hk
theorem rf_wrong {sg : Nat → Nat} {n x j : Nat} (w : zW) (hn : n ≤ 1000) (hx : 0 < x ∧ x < 16) : zRf (x + 16 * (zTT sg n).pl j) (sI w 200 8 (Int32.ofNat (x + 16 * (zTT sg n).pl j))) := by
  have := zTT_pl (sg := sg) hn j
  exact ⟨by omega, by omega, gI_sI_eq _ _ _ _⟩
theorem rf_of {e : Nat} {w v : zW} (h : zRf e w) (q : gI v 200 8 = gI w 200 8) : zRf e v := ⟨h.1, h.2.1, q.trans h.2.2⟩
theorem q12_takeSignF {e : Nat} {x : Int32} {w : zW} {k : zW → Prop} (h : zRf e w) (hk : k w) : fX12_takeSign x w k := by
  rw [fX12_takeSign]
  exact q12_isSignF h ⟨fun _ => q12_wrongF h hk, fun q => absurd rfl q⟩
theorem q12_takeSign {sg : Nat → Nat} {n m j c : Nat} {w : zW} {k : zW → Prop} (hsg : zSg sg n) (h : zRtk sg n m j w) (hc : c < 127) (h1 : zSn (zTT sg n) c j = true → k (sI w 200 7 (Int32.ofNat (j + 1)))) (h0 : ¬ zSn (zTT sg n) c j = true → k (sI w 200 8 (Int32.ofNat (1 + 16 * (zTT sg n).pl j)))) : fX12_takeSign (Int32.ofNat c) w k := by
  rw [fX12_takeSign]
  refine q12_sn hsg h hc (fun y => ⟨fun q => absurd q (by decide), fun _ => ?_⟩) (fun y => ⟨fun _ => q12_wrong (x := 1) h (h0 y), fun q => absurd rfl q⟩)
  intro w4 e4
  rw [h.2.2.2.2, zl1, zi_add] at e4
  rw [e4]; exact h1 y
theorem q12_hasSignF {e : Nat} {x : Int32} {w : zW} {k : Int32 → zW → Prop} (h : zRf e w) (hk : k 0 w) : fX12_hasSign x w k := by
  rw [fX12_hasSign]
  refine q12_isSignF h ?_
  intro v2 e2
  rw [fX12_hasSign_J20, e2.trans (if_pos rfl), Int32.add_zero, zsI_id rfl]
  intro w3 e3
  rw [e3]
  exact ⟨Or.inl rfl, hk⟩
theorem q12_hasSign {sg : Nat → Nat} {n m j c : Nat} {w : zW} {k : Int32 → zW → Prop} (hsg : zSg sg n) (h : zRtk sg n m j w) (hc : c < 127) (h1 : zSn (zTT sg n) c j = true → k 1 (sI w 200 7 (Int32.ofNat (j + 1)))) (h0 : ¬ zSn (zTT sg n) c j = true → k 0 w) : fX12_hasSign (Int32.ofNat c) w k := by
  rw [fX12_hasSign]
  refine q12_sn hsg h hc (fun y => ?_) (fun y => ?_)
  · intro v2 e2
    rw [fX12_hasSign_J20, e2.trans (if_neg (by decide)), h.2.2.2.2, zl1, zi_add]
    intro w3 e3
    rw [e3]
    exact ⟨Or.inr rfl, h1 y⟩
  · intro v2 e2
    rw [fX12_hasSign_J20, e2.trans (if_pos rfl), Int32.add_zero, zsI_id rfl]
    intro w3 e3
    rw [e3]
    exact ⟨Or.inl rfl, h0 y⟩
theorem q12_hasWordF {e : Nat} {x : Int32} {w : zW} {k : Int32 → zW → Prop} (h : zRf e w) (hk : k 0 w) : fX12_hasWord x w k := by
  rw [fX12_hasWord]
  refine q12_isWordF h ?_
  intro v2 e2
  rw [fX12_hasWord_J20, e2.trans (if_pos rfl), Int32.add_zero, zsI_id rfl]
  intro w3 e3
  rw [e3]
  exact ⟨Or.inl rfl, hk⟩
theorem q12_hasWord {sg : Nat → Nat} {n m j i : Nat} {w : zW} {k : Int32 → zW → Prop} (h : zRtk sg n m j w) (hi : i < 21) (h1 : (zTT sg n).ky j = i → k 1 (sI w 200 7 (Int32.ofNat (j + 1)))) (h0 : ¬ (zTT sg n).ky j = i → k 0 w) : fX12_hasWord (Int32.ofNat i) w k := by
  rw [fX12_hasWord]
  refine q12_isWord h hi (fun y => ?_) (fun y => ?_)
  · intro v2 e2
    rw [fX12_hasWord_J20, e2.trans (if_neg (by decide)), h.2.2.2.2, zl1, zi_add]
    intro w3 e3
    rw [e3]
    exact ⟨Or.inr rfl, h1 y⟩
  · intro v2 e2
    rw [fX12_hasWord_J20, e2.trans (if_pos rfl), Int32.add_zero, zsI_id rfl]
    intro w3 e3
    rw [e3]
    exact ⟨Or.inl rfl, h0 y⟩
theorem q12_takeWordF {e : Nat} {x : Int32} {w : zW} {k : zW → Prop} (h : zRf e w) (hk : k w) : fX12_takeWord x w k := by
  rw [fX12_takeWord]
  exact q12_hasWordF h ⟨fun q => absurd rfl q, fun _ => q12_wrongF h hk⟩
theorem q12_takeWord {sg : Nat → Nat} {n m j i : Nat} {w : zW} {k : zW → Prop} (h : zRtk sg n m j w) (hi : i < 21) (h1 : (zTT sg n).ky j = i → k (sI w 200 7 (Int32.ofNat (j + 1)))) (h0 : ¬ (zTT sg n).ky j = i → k (sI w 200 8 (Int32.ofNat (1 + 16 * (zTT sg n).pl j)))) : fX12_takeWord (Int32.ofNat i) w k := by
  rw [fX12_takeWord]
  exact q12_hasWord h hi (fun y => ⟨fun _ => h1 y, fun q => absurd q (by decide)⟩) (fun y => ⟨fun q => absurd rfl q, fun _ => q12_wrong (x := 1) h (h0 y)⟩)
/-- an upper bound of ints, as numbers -/
def zhx (x : Int32) (H : Nat) : Prop := ∀ a, a < 10000 → (Int32.ofNat a ≤ x ↔ a < H) ∧ (Int64.ofNat a ≤ x.toInt64 ↔ a < H)
theorem zl_le {a b : Nat} (ha : a < 2 ^ 31) (hb : b < 2 ^ 31) : Int64.ofNat a ≤ Int64.ofNat b ↔ a ≤ b := by
  rw [Int64.le_iff_toInt_le, Int64.toInt_ofNat_of_lt (by omega), Int64.toInt_ofNat_of_lt (by omega)]
  omega
theorem zl_lt {a b : Nat} (ha : a < 2 ^ 31) (hb : b < 2 ^ 31) : Int64.ofNat a < Int64.ofNat b ↔ a < b := by
  rw [Int64.lt_iff_toInt_lt, Int64.toInt_ofNat_of_lt (by omega), Int64.toInt_ofNat_of_lt (by omega)]
  omega
theorem zhi_n {h : Nat} (hh : h < 10000) : zhx (Int32.ofNat h) (h + 1) := fun a ha => ⟨by rw [zi_le (by omega) (by omega)]; omega, by rw [zi_L64 (by omega), zl_le (by omega) (by omega)]; omega⟩
theorem zhi_r {R : Nat} (hR : R ≤ 100) : zhx (Int32.ofNat R - 1) R := by
  intro a ha
  by_cases e : R = 0
  · subst e
    rw [show Int32.ofNat 0 - 1 = zN1 from by decide]
    refine ⟨⟨fun q => absurd q (zi_neg_nle zN1_lt (by omega)), fun q => absurd q (Nat.not_lt_zero a)⟩, ⟨fun q => ?_, fun q => absurd q (Nat.not_lt_zero a)⟩⟩
    rw [Int64.le_iff_toInt_le, Int64.toInt_ofNat_of_lt (by omega), show zN1.toInt64.toInt = -1 from by decide] at q
    omega
  · rw [zl1, zi_sub (by omega)]
    have := zhi_n (h := R - 1) (by omega) a ha
    rw [show R - 1 + 1 = R by omega] at this
    exact this
/-- what is wrong with a number here -/
def zNe (T : zTks) (j lo H : Nat) : Nat := if T.kd j = 2 then (if lo ≤ T.nu j ∧ T.nu j < H then 0 else 4) else 1
theorem zNe_0 {T : zTks} {j lo H : Nat} (h : zNe T j lo H = 0) : T.kd j = 2 ∧ lo ≤ T.nu j ∧ T.nu j < H := by
  unfold zNe at h
  by_cases e : T.kd j = 2
  · rw [if_pos e] at h
    by_cases e2 : lo ≤ T.nu j ∧ T.nu j < H
    · exact ⟨e, e2⟩
    · rw [if_neg e2] at h; omega
  · rw [if_neg e] at h; omega
theorem zNe_r (T : zTks) (j lo H : Nat) : zNe T j lo H = 0 ∨ zNe T j lo H = 1 ∨ zNe T j lo H = 4 := by
  unfold zNe
  by_cases e : T.kd j = 2
  · rw [if_pos e]
    by_cases e2 : lo ≤ T.nu j ∧ T.nu j < H
    · rw [if_pos e2]; omega
    · rw [if_neg e2]; omega
  · rw [if_neg e]; omega
theorem q10_takeNumber {sg : Nat → Nat} {n j lo H : Nat} {x : Int32} {w : zW} {k : Int32 → zW → Prop} (hsg : zSg sg n) (h : zCt sg n j w) (hlo : lo < 10000) (hx : zhx x H) (h1 : zNe (zTT sg n) j lo H = 0 → ∀ v, zfT w v → zCt sg n (j + 1) v → k (Int32.ofNat ((zTT sg n).nu j)) v) (h0 : ¬ zNe (zTT sg n) j lo H = 0 → ∀ v, v = sI w 2 8 (Int32.ofNat (zNe (zTT sg n) j lo H + 16 * (zTT sg n).pl j)) → k (-1) v) : fX10_takeNumber (Int32.ofNat lo) x w k := by
  have h4 := zTT_kd4 sg n j
  rw [fX10_takeNumber, ct_kd h]
  refine ⟨fun q => ?_, fun q => ?_⟩
  · have e := (zi_eq (b := 2) (by omega) (by decide)).mp q
    have hnu := zTT_nu e
    have hJ : ¬ (lo ≤ (zTT sg n).nu j ∧ (zTT sg n).nu j < H) → fX10_takeNumber_J32 k w := fun y => by
      have ez : zNe (zTT sg n) j lo H = 4 := by rw [zNe, if_pos e, if_neg y]
      rw [fX10_takeNumber_J32]
      exact q10_wrong (x := 4) h (fun v ev => h0 (by omega) v (by rw [ez]; exact ev))
    rw [ct_nu h e]
    refine ⟨fun y => hJ (fun z => by have := (zi_lt (by omega) (by omega)).mp y; omega), fun y => ⟨fun y2 => ?_, fun y2 => hJ (fun z => y2 ((hx _ hnu).1.mpr z.2))⟩⟩
    have elo : lo ≤ (zTT sg n).nu j := by
      by_cases z : lo ≤ (zTT sg n).nu j
      · exact z
      · exact absurd ((zi_lt (by omega) (by omega)).mpr (by omega)) y
    have ez : zNe (zTT sg n) j lo H = 0 := by
      rw [zNe, if_pos e, if_pos ⟨elo, (hx _ hnu).1.mp y2⟩]
    intro v5 e5
    refine q10_nx hsg h (fun v f c => ?_)
    rw [e5]
    exact h1 ez v f c
  · have e : ¬ (zTT sg n).kd j = 2 := fun y => q (by rw [y]; rfl)
    have ez : zNe (zTT sg n) j lo H = 1 := by rw [zNe, if_neg e]
    exact q10_wrong (x := 1) h (fun v ev => h0 (by omega) v (by rw [ez]; exact ev))
theorem q12_takeNumberF {e : Nat} {x1 x2 : Int32} {w : zW} {k : Int32 → zW → Prop} (h : zRf e w) (hk : k 0 w) : fX12_takeNumber x1 x2 w k := by
  rw [fX12_takeNumber]
  refine ⟨fun _ => ?_, fun q => absurd q (rf_ne h)⟩
  rw [fX12_takeNumber_J28]
  refine ⟨fun _ => ?_, fun q => absurd q (rf_ne h)⟩
  rw [fX12_takeNumber_J70]
  exact ⟨fun q => absurd q (rf_le h), fun _ => hk⟩
theorem q12_takeNumber {sg : Nat → Nat} {n m j lo H : Nat} {x : Int32} {w : zW} {k : Int32 → zW → Prop} (hsg : zSg sg n) (h : zRtk sg n m j w) (hlo : lo < 10000) (hx : zhx x H) (h1 : zNe (zTT sg n) j lo H = 0 → k (Int32.ofNat ((zTT sg n).nu j)) (sI w 200 7 (Int32.ofNat (j + 1)))) (h0 : ¬ zNe (zTT sg n) j lo H = 0 → k 0 (sI w 200 8 (Int32.ofNat (zNe (zTT sg n) j lo H + 16 * (zTT sg n).pl j)))) : fX12_takeNumber (Int32.ofNat lo) x w k := by
  have h4 := zTT_kd4 sg n j
  have hm1 := h.1.1
  have hjm := h.2.2.1
  have hn1 := hsg.1
  have hbad : ¬ zNe (zTT sg n) j lo H = 0 → fX12_takeNumber_J70 k (sI w 200 8 (Int32.ofNat (zNe (zTT sg n) j lo H + 16 * (zTT sg n).pl j))) := fun y => by
    have hr := zNe_r (zTT sg n) j lo H
    rw [fX12_takeNumber_J70]
    exact ⟨fun q => absurd q (rf_le (rf_wrong (sg := sg) w hn1 ⟨by omega, by omega⟩)), fun _ => h0 y⟩
  rw [fX12_takeNumber]
  refine ⟨fun q => absurd h.2.2.2.1 q, fun _ => ⟨(rt_in h).1, ?_⟩⟩
  rw [(rt_in h).2, rt_kd h]
  refine ⟨fun q => ?_, fun q => ?_⟩
  · have e := (zi_eq (b := 2) (by omega) (by decide)).mp q
    have hnu := zTT_nu e
    have hJ : ¬ (lo ≤ (zTT sg n).nu j ∧ (zTT sg n).nu j < H) → fX12_takeNumber_J65 k w := fun y => by
      have ez : zNe (zTT sg n) j lo H = 4 := by rw [zNe, if_pos e, if_neg y]
      have hb := hbad (by omega)
      rw [ez] at hb
      rw [fX12_takeNumber_J65]
      exact q12_wrong (x := 4) h hb
    rw [fX12_takeNumber_J28]
    refine ⟨fun y => absurd h.2.2.2.1 y, fun _ => ⟨(rt_in h).1, ?_⟩⟩
    rw [(rt_in h).2, rt_nu h e, zi_L64 (show lo < 2 ^ 31 by omega), lg_cmp_lt, lg_cmp_le]
    refine ⟨fun y => hJ (fun z => by have := (zl_lt (by omega) (by omega)).mp y; omega), fun y => ⟨fun y2 => ?_, fun y2 => hJ (fun z => y2 ((hx _ hnu).2.mpr z.2))⟩⟩
    have elo : lo ≤ (zTT sg n).nu j := by
      by_cases z : lo ≤ (zTT sg n).nu j
      · exact z
      · exact absurd ((zl_lt (by omega) (by omega)).mpr (by omega)) y
    have ez : zNe (zTT sg n) j lo H = 0 := by
      rw [zNe, if_pos e, if_pos ⟨elo, (hx _ hnu).2.mp y2⟩]
    rw [fX12_takeNumber_J70]
    refine ⟨fun _ => ?_, fun y2 => absurd (rt_ne h) y2⟩
    intro w4 e4
    rw [h.2.2.2.2, zl1, zi_add] at e4
    have g7 : gI w4 200 7 = Int32.ofNat (j + 1) := by rw [e4, gI_sI_eq]
    rw [g7, zl1, zi_sub (by omega), show j + 1 - 1 = j by omega]
    refine ⟨zi_in (by omega) (by omega), ?_⟩
    rw [zi_nat (show j < 2 ^ 31 by omega), show gL w4 206 j = gL w 206 j by rw [e4]; rfl, rt_nu h e, show (Int64.ofNat ((zTT sg n).nu j)).toInt32 = Int32.ofNat ((zTT sg n).nu j) from Int64.toInt32_ofNat', e4]
    exact h1 ez
  · have e : ¬ (zTT sg n).kd j = 2 := fun y => q (by rw [y]; rfl)
    have ez : zNe (zTT sg n) j lo H = 1 := by rw [zNe, if_neg e]
    have hb := hbad (by omega)
    rw [ez] at hb
    exact q12_wrong (x := 1) h hb

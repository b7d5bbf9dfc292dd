/-! Level 2: twins, spare -/
/-- two words mean the same in all that fit -/
def ztw (B : zBk) (S : Nat → Int32) (o p : Nat) : Bool := (zFL B S).all (fun d => zdm (bW B) d o == zdm (bW B) d p)
theorem ztw_comm (B : zBk) (S : Nat → Int32) (o p : Nat) : ztw B S o p = ztw B S p o := by
  unfold ztw
  exact congrArg _ (funext fun d => Bool.beq_comm ..)
def zb2n (p : Bool) : Nat := if p = true then 1 else 0
theorem zpairs (t : Nat → Nat → Nat) (ht : ∀ a b, t a b = t b a) {W : Nat} (hW : W ≤ 4) : zsum W (fun a => zsum (W - (a + 1)) (fun j => t a (a + 1 + j))) = zsum W (fun a => zsum a (fun o => t a o)) := by
  rcases (show W = 0 ∨ W = 1 ∨ W = 2 ∨ W = 3 ∨ W = 4 by omega) with e | e | e | e | e <;> subst e
  · rfl
  · rfl
  · have h1 := ht 1 0
    show 0 + (0 + t 0 1) + 0 = 0 + 0 + (0 + t 1 0)
    omega
  · have h1 := ht 1 0
    have h2 := ht 2 0
    have h3 := ht 2 1
    show 0 + (0 + t 0 1 + t 0 2) + (0 + t 1 2) + 0 = 0 + 0 + (0 + t 1 0) + (0 + t 2 0 + t 2 1)
    omega
  · have h1 := ht 1 0
    have h2 := ht 2 0
    have h3 := ht 2 1
    have h4 := ht 3 0
    have h5 := ht 3 1
    have h6 := ht 3 2
    show 0 + (0 + t 0 1 + t 0 2 + t 0 3) + (0 + t 1 2 + t 1 3) + (0 + t 2 3) + 0 = 0 + 0 + (0 + t 1 0) + (0 + t 2 0 + t 2 1) + (0 + t 3 0 + t 3 1 + t 3 2)
    omega
theorem q8_alwaysSame {B : zBk} {S : Nat → Int32} {b big o p : Nat} {w : zW} {k : Int32 → zW → Prop} (hwf : zWF B) (ho : o < bW B) (hp : p < bW B) (hl : zLaid B b big w) (hc : zChosen B S big w) (hk : k (Int32.ofNat (zb2n (ztw B S o p))) w) : fX8_alwaysSame (Int32.ofNat o) (Int32.ofNat p) w k := by
  have h4 := wf_W hwf
  have hL := zFL_6561 hwf S
  have hln := zBig_ln hl.1
  have hb4 := zBig_4 hl.1
  have lN := hl.2.2.1
  have hFU := zFL_le B S
  have hUA := zUL_le B
  refine zinv (fun n (s : Int32) => fX8_alwaysSame_L2 k n (Int32.ofNat o) (Int32.ofNat p) s w) (fun i s => s = Int32.ofNat i ∧ ∀ j, j < i → zdm (bW B) ((zFL B S).getD j 0) o = zdm (bW B) ((zFL B S).getD j 0) p) (zFL B S).length ⟨rfl, fun j hj => absurd hj (Nat.not_lt_zero j)⟩ ?_ ?_
  · rintro n s ⟨rfl, hj⟩
    have e : ztw B S o p = true := by
      rw [ztw, List.all_eq_true]
      intro d hd
      obtain ⟨j, j1, j2⟩ := zgd_of_mem hd
      rw [← j2, hj j j1]
      exact beq_self_eq_true _
    rw [e] at hk
    rw [fX8_alwaysSame_L2]
    try dsimp only
    rw [hc.1]
    exact ⟨fun _ => hk, fun q => absurd (Int32.le_refl _) q⟩
  · rintro i n s hi ⟨rfl, hj⟩ hnext
    have hpl := zpd_lt (bW B) ((zFL B S).getD i 0)
    have hdo := zdm_lt (bW B) ((zFL B S).getD i 0) o
    have hdp := zdm_lt (bW B) ((zFL B S).getD i 0) p
    rw [fX8_alwaysSame_L2]
    try dsimp only
    rw [hc.1, hb4.2.1, hln.1]
    refine ⟨fun q => absurd q (zi_nge hi (by omega)), fun _ => ⟨by omega, fun q => absurd q (zi_nge (by omega) (by omega)), fun _ => ⟨zi_in (by omega) (by omega), ?_⟩⟩⟩
    rw [zi_nat (show i < 2 ^ 31 by omega), hc.2 i hi]
    have em : ∀ q : Nat, q < 4 → ((Int32.ofNat (zpd (bW B) ((zFL B S).getD i 0)) >>> (((4 : Int32) * Int32.ofNat q) &&& 31)) &&& (15 : Int32)) = Int32.ofNat (zdm (bW B) ((zFL B S).getD i 0) q) := fun q hq => by
      rw [zl4, zi_mul, zi_shr (by omega) (by omega), zi_and15]
      exact congrArg _ (zdg_pd _ _ hq)
    rw [fX8_meaningIn, em o (by omega)]
    refine ⟨by rw [hb4.2.1]; omega, by rw [hb4.2.1]; exact zi_in (by omega) (by omega), ?_⟩
    rw [hb4.2.1, hc.2 i hi, fX8_meaningIn, em p (by omega)]
    refine ⟨fun q => ?_, fun q => ?_⟩
    · rw [zl1, zi_add]
      refine hnext _ ⟨rfl, fun j hj' => ?_⟩
      by_cases z : j = i
      · rw [z]; exact (zi_eq (by omega) (by omega)).mp q
      · exact hj j (by omega)
    · have e : ztw B S o p = false := by
        refine eq_false_of_ne_true fun z => q ?_
        rw [ztw, List.all_eq_true] at z
        rw [eq_of_beq (z _ (zgd_mem hi))]
      rw [e] at hk
      exact hk
theorem zb2n_le (p : Bool) : zb2n p ≤ 1 := by cases p <;> decide
theorem zsum_lim {n M : Nat} {f : Nat → Nat} (h : ∀ i, i < n → f i ≤ M) : zsum n f ≤ n * M := by
  induction n with
  | zero => exact Nat.zero_le _
  | succ n ih =>
    have h1 := ih (fun i hi => h i (by omega))
    have h2 := h n (by omega)
    rw [zsum_S, Nat.succ_mul]
    omega
theorem c_twins {B : zBk} {S : Nat → Int32} {N : zNt} {b nn : Nat} {w : zW} {k : Nat → Nat → zW → Prop} {k0 : zW → Prop} (h : zInv B S N b nn w) (hk : ∀ c s v, zInv B S N b nn v → zCost c s w v → k c s v) : ∃ c s, c ≤ zNA w ∧ s ≤ zNS w ∧ fX11_twins c s w (fun r1 w1 => fX12_twins w1 (fun r2 w2 => (r1 = r2 → k c s w2) ∧ (¬ r1 = r2 → k0 w2))) := by
  have hwf := iv_wf h
  have h4 := wf_W hwf
  refine ⟨_, _, (zn_le h).1, (zn_le h).2, _, _, Nat.le_refl _, Nat.le_refl _, q_readyI h (fun v big vi vl vc v0 v1 vp v140 => ?_)⟩
  have hbv := (iv_re vi).1
  have hr9 := (iv_re vi).2.1
  refine zrun (fun n (s : Int32 × Int32) => fX11_twins_L9 _ n _ _ s.1 s.2 v) (fun i => (Int32.ofNat (zsum i (fun a => zsum (bW B - (a + 1)) (fun j => zb2n (ztw B S a (a + 1 + j))))), Int32.ofNat i)) (bW B) (fun n => ?_) (fun i n hi hc => ?_)
  · rw [fX11_twins_L9]
    try dsimp only
    rw [hr9]
    refine ⟨by omega, ?_⟩
    rw [cb_W (iv_cb vi)]
    refine ⟨fun _ => ?_, fun q => absurd (Int32.le_refl _) q⟩
    rw [zpairs (fun a c => zb2n (ztw B S a c)) (fun a c => by rw [ztw_comm]) h4]
    intro w1 e
    subst e
    refine q_gathersI (zInv_t vi 0) (fun u ui ug ufl u32 u00 => ?_)
    have hkv := hk _ _ u ui (zCost_done (zdone_fl vp v140 ⟨ufl.1, ufl.2⟩))
    have e37 : ∀ o p, o < bW B → p < bW B → gI u 237 (4 * o + p) = Int32.ofNat (zb2n (ztw B S o p)) := fun o p ho hp => by
      rw [ug.2.2.2.2.1 o p ho hp, zGL_FL]
      rfl
    refine zrun (fun n (s : Int32 × Int32) => fX12_twins_L13 _ n s.1 s.2 u) (fun i => (Int32.ofNat (zsum i (fun a => zsum a (fun o => zb2n (ztw B S a o)))), Int32.ofNat i)) (bW B) (fun n => ?_) (fun i n hi hc => ?_)
    · rw [fX12_twins_L13]
      try dsimp only
      rw [fX12_wordsTold, show (0 : Int32).toNatClampNeg = 0 from rfl, rb_W (iv_rb ui)]
      exact ⟨fun _ => zc_same hkv, fun q => absurd (Int32.le_refl _) q⟩
    · rw [fX12_twins_L13]
      try dsimp only
      rw [fX12_wordsTold, show (0 : Int32).toNatClampNeg = 0 from rfl, rb_W (iv_rb ui)]
      refine ⟨fun q => absurd q (zi_nge hi (by omega)), fun _ => ?_⟩
      refine zrun (fun n' (s : Int32 × Int32) => fX12_twins_L23 _ (fX12_twins_L13 _ n) n' s.1 (Int32.ofNat i) s.2 u) (fun j => (Int32.ofNat (zsum i (fun a => zsum a (fun o => zb2n (ztw B S a o))) + zsum j (fun o => zb2n (ztw B S i o))), Int32.ofNat j)) i (fun n' => ?_) (fun j n' hj hc' => ?_)
      · rw [fX12_twins_L23]
        try dsimp only
        refine ⟨fun _ => ?_, fun q => absurd (Int32.le_refl _) q⟩
        rw [zl1, zi_add]
        exact hc
      · rw [fX12_twins_L23]
        try dsimp only
        refine ⟨fun q => absurd q (zi_nge hj (by omega)), fun _ => ?_⟩
        rw [zl4, zi_mul, zi_add, zi_nat (show 4 * i + j < 2 ^ 31 by omega), e37 i j hi (by omega)]
        refine ⟨zi_in (by omega) (by omega), ?_⟩
        intro v7 e7 v8 e8
        have e7' : v7 = Int32.ofNat (zb2n (ztw B S i j)) := by
          cases hq : ztw B S i j with
          | true => rw [hq] at e7; exact e7.trans (if_neg (by decide))
          | false => rw [hq] at e7; exact e7.trans (if_pos rfl)
        rw [e7', zi_add, Nat.add_assoc] at e8
        rw [e8, zl1, zi_add]
        exact hc'
  · rw [fX11_twins_L9]
    try dsimp only
    rw [hr9]
    refine ⟨by omega, ?_⟩
    rw [cb_W (iv_cb vi)]
    refine ⟨fun q => absurd q (zi_nge hi (by omega)), fun _ => ?_⟩
    intro v4 e4
    rw [zl1, zi_add] at e4
    subst e4
    refine zrun (fun n' (s : Int32 × Int32) => fX11_twins_L25 _ (fX11_twins_L9 _ n) n' _ _ s.1 (Int32.ofNat i) s.2 v) (fun j => (Int32.ofNat (zsum i (fun a => zsum (bW B - (a + 1)) (fun j => zb2n (ztw B S a (a + 1 + j)))) + zsum j (fun j => zb2n (ztw B S i (i + 1 + j)))), Int32.ofNat (i + 1 + j))) (bW B - (i + 1)) (fun n' => ?_) (fun j n' hj hc' => ?_)
    · rw [fX11_twins_L25]
      try dsimp only
      rw [hr9]
      refine ⟨by omega, ?_⟩
      rw [cb_W (iv_cb vi)]
      refine ⟨fun _ => ?_, fun q => absurd ((zi_le (by omega) (by omega)).mpr (by omega)) q⟩
      rw [zl1, zi_add]
      exact hc
    · rw [fX11_twins_L25]
      try dsimp only
      rw [hr9]
      refine ⟨by omega, ?_⟩
      rw [cb_W (iv_cb vi)]
      refine ⟨fun q => absurd q (zi_nge (by omega) (by omega)), fun _ => ?_⟩
      refine q8_alwaysSame hwf hi (by omega) vl vc ?_
      have es : zsum (j + 1) (fun j => zb2n (ztw B S i (i + 1 + j))) = zsum j (fun j => zb2n (ztw B S i (i + 1 + j))) + zb2n (ztw B S i (i + 1 + j)) := rfl
      cases hq : ztw B S i (i + 1 + j) with
      | true =>
        rw [hq] at es
        refine ⟨fun z => absurd z (by decide), fun _ => ?_⟩
        rw [zl1, zi_add, zi_add, Nat.add_assoc, show zsum j (fun j => zb2n (ztw B S i (i + 1 + j))) + 1 = zsum (j + 1) (fun j => zb2n (ztw B S i (i + 1 + j))) from es.symm]
        exact hc'
      | false =>
        rw [hq] at es
        refine ⟨fun _ => ?_, fun z => absurd rfl z⟩
        rw [zl1, zi_add, show zsum j (fun j => zb2n (ztw B S i (i + 1 + j))) = zsum (j + 1) (fun j => zb2n (ztw B S i (i + 1 + j))) from es.symm]
        exact hc'
theorem zbits_tb (n : Nat) (p : Nat → Bool) (i : Nat) : (zbits n p).testBit i = (decide (i < n) && p i) := by
  rw [Nat.testBit_eq_decide_div_mod_eq]
  by_cases h : i < n
  · rw [zbits_get p h, decide_eq_true h, Bool.true_and]
    by_cases q : p i = true
    · rw [if_pos q, q]; rfl
    · rw [if_neg q, eq_false_of_ne_true q]; rfl
  · rw [Nat.div_eq_of_lt (Nat.lt_of_lt_of_le (zbits_lt n p) (Nat.pow_le_pow_right (by omega) (by omega))), decide_eq_false h]
    rfl
theorem zbits_or_one {n r : Nat} (hr : r < n) (p : Nat → Bool) : zbits n p ||| 2 ^ r = zbits n (fun i => p i || i == r) := by
  apply Nat.eq_of_testBit_eq
  intro i
  rw [Nat.testBit_or, zbits_tb, zbits_tb, Nat.testBit_two_pow]
  by_cases q : i = r
  · subst q
    rw [decide_eq_true hr, decide_eq_true rfl, beq_self_eq_true, Bool.or_true, Bool.or_true]
    rfl
  · rw [beq_false_of_ne q, decide_eq_false (show ¬ r = i from fun z => q z.symm), Bool.or_false, Bool.or_false]
theorem zi_notF : ∀ y : Fin 256, Int32.ofNat y.val ^^^ (-1 : Int32) = Int32.ofNat (2 ^ 32 - 1 - y.val) := by decide +kernel
theorem zi_diff {n : Nat} (hn : n ≤ 8) (p q : Nat → Bool) : Int32.ofNat (zbits n p) &&& (Int32.ofNat (zbits n q) ^^^ (-1 : Int32)) = Int32.ofNat (zbits n (fun i => p i && !q i)) := by
  have hq := zbits_lt n q
  have hp2 : 2 ^ n ≤ 256 := Nat.pow_le_pow_right (n := 2) (by omega) hn
  have e : Int32.ofNat (zbits n q) ^^^ (-1 : Int32) = Int32.ofNat (2 ^ 32 - 1 - zbits n q) := zi_notF ⟨zbits n q, by omega⟩
  rw [e, zi_and]
  refine congrArg _ ?_
  apply Nat.eq_of_testBit_eq
  intro i
  rw [Nat.testBit_and, zbits_tb, zbits_tb, show 2 ^ 32 - 1 - zbits n q = 2 ^ 32 - (zbits n q + 1) by omega, Nat.testBit_two_pow_sub_succ (by omega), zbits_tb]
  by_cases h : i < n
  · rw [decide_eq_true h, decide_eq_true (show i < 32 by omega)]
    cases p i <;> cases q i <;> rfl
  · rw [decide_eq_false h]
    rfl

/-! Level 2: spare, turned, alike, and a row's plain answers -/
theorem zcnt_one {n : Nat} {p : Nat → Bool} (h : zcnt n p = 1) : ∃ r, r < n ∧ zbits n p = 2 ^ r := by
  induction n with
  | zero => exact absurd h (show ¬ (0 : Nat) = 1 by decide)
  | succ n ih =>
    by_cases q : p n = true
    · rw [zcnt_t q] at h
      have h0 : zcnt n p = 0 := by omega
      refine ⟨n, by omega, ?_⟩
      rw [zbits_S, if_pos q]
      have hz : zbits n p = 0 := zbits_zero.mpr (fun i hi => by
        by_cases y : p i = true
        · have h1 := zcnt_mono p (show i + 1 ≤ n from hi)
          rw [zcnt_t y] at h1
          omega
        · exact eq_false_of_ne_true y)
      rw [hz, Nat.zero_add]
    · rw [zcnt_f (eq_false_of_ne_true q)] at h
      obtain ⟨r, r1, r2⟩ := ih h
      exact ⟨r, by omega, by rw [zbits_s0 (eq_false_of_ne_true q)]; exact r2⟩
theorem zones_powF : ∀ r : Fin 8, zones (2 ^ r.val) = 1 := by decide +kernel
/-- a row whose count alone is in the way of one, among the first so many that go up -/
def zpN (B : zBk) (S : Nat → Int32) (l : List Nat) (r : Nat) : Bool := l.any (fun d => zGu B S d && zof B S (zdm (bW B) d) == 2 ^ r)
theorem zpN_app (B : zBk) (S : Nat → Int32) (l : List Nat) (d r : Nat) : zpN B S (l ++ [d]) r = (zpN B S l r || (zGu B S d && zof B S (zdm (bW B) d) == 2 ^ r)) := by
  rw [zpN, List.any_append, List.any_cons, List.any_nil, Bool.or_false]
  rfl
theorem q8_needed {B : zBk} {S : Nat → Int32} {b big : Nat} {w : zW} {k : Int32 → zW → Prop} (hwf : zWF B) (hcb : zCB B b w) (hbb : b = 40 ∨ b = 80) (hd : zHd B S) (hS : ∀ i, i < 12 → gI w (9 + 1) i = S i) (hl : zLaid B b big w) (hk : k (Int32.ofNat (zbits 8 (zpN B S (zUL B)))) w) : fX8_neededCounts 9 w k := by
  have h4 := wf_W hwf
  have h8 := wf_R hwf
  have hle := zAL_le hwf
  have hUA := zUL_le B
  have hln := zBig_ln hl.1
  have hb4 := zBig_4 hl.1
  have lN := hl.2.2.1
  refine zrun (fun n (s : Int32 × Int32) => fX8_neededCounts_L4 9 k n s.1 s.2 w) (fun i => (Int32.ofNat (zbits 8 (zpN B S ((zUL B).take i))), Int32.ofNat i)) (zUL B).length (fun n => ?_) (fun i n hi hc => ?_)
  · rw [List.take_length]
    rw [fX8_neededCounts_L4]
    try dsimp only
    rw [hl.2.2.2.2.1]
    exact ⟨fun _ => hk, fun q => absurd (Int32.le_refl _) q⟩
  · have hpl := zpd_lt (bW B) ((zUL B).getD i 0)
    have hof := zof_lt hwf S (zdm (bW B) ((zUL B).getD i 0))
    have eU := hl.2.2.2.2.2.2 i hi
    have hz : zones (zof B S (zdm (bW B) ((zUL B).getD i 0))) = zcnt (bR B) (zOf B S (zdm (bW B) ((zUL B).getD i 0))) := zones_bits (by omega) _
    have hcl := zcnt_le (bR B) (zOf B S (zdm (bW B) ((zUL B).getD i 0)))
    rw [ztk_succ hi] at hc
    have hsame : (∀ r, r < 8 → (zGu B S ((zUL B).getD i 0) && zof B S (zdm (bW B) ((zUL B).getD i 0)) == 2 ^ r) = false) → fX8_neededCounts_L4 9 k n (Int32.ofNat (zbits 8 (zpN B S ((zUL B).take i)))) (Int32.ofNat i + 1) w := fun hh => by
      rw [zl1, zi_add, zbits_congr (q := zpN B S ((zUL B).take i ++ [(zUL B).getD i 0])) (fun r hr => by rw [zpN_app, hh r hr, Bool.or_false])]
      exact hc
    rw [fX8_neededCounts_L4]
    try dsimp only
    rw [hl.2.2.2.2.1, hb4.2.2, hln.2.1, hl.2.1]
    refine ⟨fun q => absurd q (zi_nge hi (by omega)), fun _ => ⟨by omega, fun q => absurd q (zi_nge (by omega) (by omega)), fun _ => ⟨zi_in (by omega) (by omega), by omega, ?_⟩⟩⟩
    rw [zi_nat (show i < 2 ^ 31 by omega), eU]
    refine q3_missed (m := zdm (bW B) ((zUL B).getD i 0)) hwf hcb hS (by omega) (fun o ho => zdg_pd _ _ (by omega)) ?_
    refine q_bitCount hof ?_
    rw [hz]
    refine ⟨fun q => hsame (fun r hr => ?_), fun q => ⟨by rw [hb4.2.2]; omega, by rw [hb4.2.2]; exact zi_in (by omega) (by omega), ?_⟩⟩
    · refine eq_false_of_ne_true fun z => q ?_
      rw [Bool.and_eq_true] at z
      rw [← hz, eq_of_beq z.2, zones_powF ⟨r, hr⟩]
      rfl
    · have q1 : zcnt (bR B) (zOf B S (zdm (bW B) ((zUL B).getD i 0))) = 1 := (zi_eq (b := 1) (by omega) (by decide)).mp q
      obtain ⟨r, r1, r2⟩ := zcnt_one q1
      have r3 : zof B S (zdm (bW B) ((zUL B).getD i 0)) = 2 ^ r := r2
      rw [hb4.2.2, eU]
      refine q3_guesses (m := zdm (bW B) ((zUL B).getD i 0)) hwf hd hS (by omega) (fun o ho => zdg_pd _ _ (by omega)) ?_
      have hq : decide (∀ o, o < bW B → S o = zN1 ∨ S o = Int32.ofNat (zdm (bW B) ((zUL B).getD i 0) o)) = zGu B S ((zUL B).getD i 0) := rfl
      rw [hq]
      by_cases y : zGu B S ((zUL B).getD i 0) = true
      · rw [if_pos y]
        refine ⟨fun z => absurd z (by decide), fun _ => ?_⟩
        intro v13 e13
        rw [r3, zi_or, zbits_or_one (show r < 8 by omega)] at e13
        rw [e13, zl1, zi_add, zbits_congr (q := zpN B S ((zUL B).take i ++ [(zUL B).getD i 0])) (fun j hj => by
          rw [zpN_app, y, Bool.true_and, r3]
          by_cases e : j = r
          · rw [e, beq_self_eq_true, beq_self_eq_true]
          · rw [beq_false_of_ne e, beq_false_of_ne (fun z => e ((Nat.pow_right_inj (by omega)).mp z).symm)])]
        exact hc
      · rw [if_neg y]
        refine ⟨fun _ => hsame (fun r _ => by rw [eq_false_of_ne_true y, Bool.false_and]), fun z => absurd rfl z⟩
theorem c_spare {B : zBk} {S : Nat → Int32} {N : zNt} {b nn : Nat} {w : zW} {k : Nat → Nat → zW → Prop} {k0 : zW → Prop} (h : zInv B S N b nn w) (hk : ∀ c s v, zInv B S N b nn v → zCost c s w v → k c s v) : ∃ c s, c ≤ zNA w ∧ s ≤ zNS w ∧ fX11_spare c s w (fun r1 w1 => fX12_spare w1 (fun r2 w2 => (r1 = r2 → k c s w2) ∧ (¬ r1 = r2 → k0 w2))) := by
  have hwf := iv_wf h
  have h8 := wf_R hwf
  have hha := (iv_ha h).1
  refine ⟨_, _, (zn_le h).1, (zn_le h).2, _, _, Nat.le_refl _, Nat.le_refl _, q_laidI h (fun v big vi vl v0 vp v140 => ?_)⟩
  refine q8_needed hwf (iv_cb vi) (iv_re vi).1 hha (iv_ha vi).2.2 vl ?_
  refine q3_countBits (iv_ha vi).2.2 ?_
  rw [zi_diff (by omega)]
  refine q_bitCount (Nat.lt_of_lt_of_le (zbits_lt 8 _) (by decide)) ?_
  rw [zones_bits (by omega)]
  intro w1 e
  subst e
  refine q_gathersI (zInv_t vi 0) (fun u ui ug ufl u32 u00 => ?_)
  have hkv := hk _ _ u ui (zCost_done (zdone_fl vp v140 ⟨ufl.1, ufl.2⟩))
  have hmo : ∀ r, r < bR B → ((zGL B S).countP (fun d => zdn B (zdm (bW B) d) == 0 && zof B S (zdm (bW B) d) == 2 ^ r) = 0 ↔ zpN B S (zUL B) r = false) := by
    intro r hr
    rw [List.countP_eq_zero, zpN, List.any_eq_false]
    refine ⟨fun hh d hd z => ?_, fun hh d hd z => ?_⟩
    · rw [Bool.and_eq_true] at z
      rw [zUL, List.mem_filter] at hd
      refine hh d ?_ ?_
      · rw [zGL, List.mem_filter]; exact ⟨hd.1, z.1⟩
      · rw [Bool.and_eq_true]; exact ⟨hd.2, z.2⟩
    · rw [Bool.and_eq_true] at z
      rw [zGL, List.mem_filter] at hd
      refine hh d ?_ ?_
      · rw [zUL, List.mem_filter]; exact ⟨hd.1, z.1⟩
      · rw [Bool.and_eq_true]; exact ⟨hd.2, z.2⟩
  have hcl : ∀ p : Nat → Bool, (zGL B S).countP p ≤ 6561 := fun p => Nat.le_trans List.countP_le_length (Nat.le_trans (List.length_filter_le _ _) (zAL_le hwf))
  have ecnt : zcnt 8 (fun i => zh S (4 + i) && !zpN B S (zUL B) i) = zcnt (bR B) (fun i => zh S (4 + i) && !zpN B S (zUL B) i) := by
    have hx : ∀ n, bR B ≤ n → n ≤ 8 → zcnt n (fun i => zh S (4 + i) && !zpN B S (zUL B) i) = zcnt (bR B) (fun i => zh S (4 + i) && !zpN B S (zUL B) i) := by
      intro n
      induction n with
      | zero => intro q _; rw [show bR B = 0 by omega]
      | succ n ih =>
        intro q1 q2
        by_cases e : bR B = n + 1
        · rw [e]
        · rw [zcnt_f (by show (zh S (4 + n) && !zpN B S (zUL B) n) = false; rw [zh_f (hha.2.2.2 n (by omega) (by omega)), Bool.false_and]), ih (by omega) (by omega)]
    exact hx 8 h8 (by omega)
  rw [ecnt]
  refine zrun (fun n (s : Int32 × Int32) => fX12_spare_L13 _ n s.1 s.2 u) (fun i => (Int32.ofNat (zcnt i (fun i => zh S (4 + i) && !zpN B S (zUL B) i)), Int32.ofNat i)) (bR B) (fun n => ?_) (fun i n hi hc => ?_)
  · rw [fX12_spare_L13]
    try dsimp only
    rw [fX12_rows, show (2 : Int32).toNatClampNeg = 2 from rfl, rb_R (iv_rb ui)]
    exact ⟨fun _ => zc_same hkv, fun q => absurd (Int32.le_refl _) q⟩
  · have e20 := (iv_ha ui).2.1 (4 + i) (by omega)
    have e38 := ug.2.2.2.2.2.1 i hi
    have hcl' := hcl (fun d => zdn B (zdm (bW B) d) == 0 && zof B S (zdm (bW B) d) == 2 ^ i)
    rcases hha.2.2.1 i (by omega) with e | ⟨m, m1, e⟩
    · rw [e] at e20
      rw [zcnt_f (show (zh S (4 + i) && !zpN B S (zUL B) i) = false by rw [zh_f e, Bool.false_and])] at hc
      simp (disch := omega) only [fX12_spare_L13, fX12_spare_J47, fX12_rows, rb_R (iv_rb ui), e20, ↓zln1, ↓zln2, zl0, zl1, zl2, zl3, zl4, zl5, zl6, zl7, zl8, zl9, zl10, zl12, zl15, zl16, zl20, zl24, zl30, zl32, zl36, zl40, zl48, zl57, zl59, zl60, zl61, zl97, zl99, zl120, zl121, zl122, zl126, zl165, zl255, zl480, zl968, zl1000, zl1100, zi_add, zi_mul, zi_sub, zi_div, zi_mod, zi_nat, zt_le, zf_le, zt_lt, zf_lt, zt_eq, zf_eq, zt_vp, zt_N1lt, zf_N1lt, zf_N1eq, zf_eqN1, zt_N1eq, zt_N1le, zf_leN1, zi_nN1, zi_a1, zi_a15, zi_a255, zi_shr, zi_bit, zt_b0, zt_b1, forall_eq, if_true, if_false, true_implies, false_implies, not_true_eq_false, not_false_eq_true, and_true, true_and, gI_sI_eq, gI_sI_ne, gI_sI_ne2, gL_sI, gR_sI, gI_sL, gL_sL_eq, gL_sL_ne, gL_sL_ne2, gR_sL, gI_sR, gL_sR, gR_sR_eq, gR_sR_ne, gR_sR_ne2, gI_aI_eq, gI_aI_ne, gL_aI, gR_aI]
      exact hc
    · rw [e] at e20
      have ezh : zh S (4 + i) = true := zh_t (by rw [e]; exact zN1_ne (by omega))
      by_cases y : zpN B S (zUL B) i = false
      · have y0 := (hmo i hi).mpr y
        rw [y0] at e38
        rw [zcnt_t (show (zh S (4 + i) && !zpN B S (zUL B) i) = true by rw [ezh, y]; rfl)] at hc
        simp (disch := omega) only [fX12_spare_L13, fX12_spare_J47, fX12_rows, rb_R (iv_rb ui), e20, e38, ↓zln1, ↓zln2, zl0, zl1, zl2, zl3, zl4, zl5, zl6, zl7, zl8, zl9, zl10, zl12, zl15, zl16, zl20, zl24, zl30, zl32, zl36, zl40, zl48, zl57, zl59, zl60, zl61, zl97, zl99, zl120, zl121, zl122, zl126, zl165, zl255, zl480, zl968, zl1000, zl1100, zi_add, zi_mul, zi_sub, zi_div, zi_mod, zi_nat, zt_le, zf_le, zt_lt, zf_lt, zt_eq, zf_eq, zt_vp, zt_N1lt, zf_N1lt, zf_N1eq, zf_eqN1, zt_N1eq, zt_N1le, zf_leN1, zi_nN1, zi_a1, zi_a15, zi_a255, zi_shr, zi_bit, zt_b0, zt_b1, forall_eq, if_true, if_false, true_implies, false_implies, not_true_eq_false, not_false_eq_true, and_true, true_and, gI_sI_eq, gI_sI_ne, gI_sI_ne2, gL_sI, gR_sI, gI_sL, gL_sL_eq, gL_sL_ne, gL_sL_ne2, gR_sL, gI_sR, gL_sR, gR_sR_eq, gR_sR_ne, gR_sR_ne2, gI_aI_eq, gI_aI_ne, gL_aI, gR_aI]
        exact hc
      · have y0 : ¬ (zGL B S).countP (fun d => zdn B (zdm (bW B) d) == 0 && zof B S (zdm (bW B) d) == 2 ^ i) = 0 := fun z => y ((hmo i hi).mp z)
        rw [zcnt_f (show (zh S (4 + i) && !zpN B S (zUL B) i) = false by rw [ezh, show zpN B S (zUL B) i = true from by cases hq : zpN B S (zUL B) i with | true => rfl | false => exact absurd hq y]; rfl)] at hc
        simp (disch := omega) only [fX12_spare_L13, fX12_spare_J47, fX12_rows, rb_R (iv_rb ui), e20, e38, ↓zln1, ↓zln2, zl0, zl1, zl2, zl3, zl4, zl5, zl6, zl7, zl8, zl9, zl10, zl12, zl15, zl16, zl20, zl24, zl30, zl32, zl36, zl40, zl48, zl57, zl59, zl60, zl61, zl97, zl99, zl120, zl121, zl122, zl126, zl165, zl255, zl480, zl968, zl1000, zl1100, zi_add, zi_mul, zi_sub, zi_div, zi_mod, zi_nat, zt_le, zf_le, zt_lt, zf_lt, zt_eq, zf_eq, zt_vp, zt_N1lt, zf_N1lt, zf_N1eq, zf_eqN1, zt_N1eq, zt_N1le, zf_leN1, zi_nN1, zi_a1, zi_a15, zi_a255, zi_shr, zi_bit, zt_b0, zt_b1, forall_eq, if_true, if_false, true_implies, false_implies, not_true_eq_false, not_false_eq_true, and_true, true_and, gI_sI_eq, gI_sI_ne, gI_sI_ne2, gL_sI, gR_sI, gI_sL, gL_sL_eq, gL_sL_ne, gL_sL_ne2, gR_sL, gI_sR, gL_sR, gR_sR_eq, gR_sR_ne, gR_sR_ne2, gI_aI_eq, gI_aI_ne, gL_aI, gR_aI]
        exact hc

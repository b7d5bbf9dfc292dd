/-! Level 2: strict, chance, twins, spare -/
theorem zd2_pow {B : zBk} {m : Nat → Nat} {r : Nat} (hr : r < 8) : zd2 B m = 2 ^ r ↔ zdn B m = 2 ^ r := by
  have h2 : 2 ^ r ≤ 128 := Nat.pow_le_pow_right (n := 2) (by omega) (show r ≤ 7 by omega)
  rw [zd2]
  by_cases q : zcnt (bR B) (zDn B m) ≤ 2
  · rw [if_pos q]
  · rw [if_neg q]
    refine ⟨fun z => by omega, fun z => ?_⟩
    exfalso
    refine q ?_
    have h1 : ∀ i, i < bR B → i ≠ r → zDn B m i = false := fun i hi hne => by
      have hg := zbits_get (zDn B m) hi
      have hz : zbits (bR B) (zDn B m) = 2 ^ r := z
      rw [hz] at hg
      by_cases y : zDn B m i = true
      · rw [if_pos y] at hg
        exfalso
        by_cases x : i < r
        · have e : 2 ^ r / 2 ^ i = 2 * 2 ^ (r - i - 1) := by
            rw [Nat.pow_div (by omega) (by omega), ← Nat.pow_succ']
            exact congrArg _ (by omega)
          rw [e] at hg
          omega
        · have e : 2 ^ r / 2 ^ i = 0 := Nat.div_eq_of_lt (Nat.pow_lt_pow_right (by omega) (by omega))
          rw [e] at hg
          omega
      · exact eq_false_of_ne_true y
    have h3 : ∀ n, n ≤ bR B → zcnt n (zDn B m) ≤ if r < n then 1 else 0 := by
      intro n
      induction n with
      | zero => intro _; exact Nat.zero_le _
      | succ n ih =>
        intro hn
        have := ih (by omega)
        by_cases y : n = r
        · subst y
          rw [if_neg (by omega)] at this
          rw [if_pos (by omega), zcnt_S]
          split <;> omega
        · rw [zcnt_f (h1 n (by omega) y)]
          by_cases x : r < n
          · rw [if_pos x] at this; rw [if_pos (by omega)]; exact this
          · rw [if_neg x] at this; rw [if_neg (by omega)]; exact this
    have := h3 (bR B) (Nat.le_refl _)
    by_cases x : r < bR B
    · rw [if_pos x] at this; omega
    · rw [if_neg x] at this; omega
theorem zcp_filter (p q : Nat → Bool) (l : List Nat) : (l.filter q).countP p = l.countP (fun d => p d && q d) := List.countP_filter
theorem zcp_congr {p q : Nat → Bool} (l : List Nat) (h : ∀ d, p d = q d) : l.countP p = l.countP q := by
  rw [show p = q from funext h]
theorem zdg_big (p q : Nat) {o : Nat} (ho : o < 4) : zdg (p + 65536 * q) o = zdg p o := by
  rw [zdg, zdg]
  have e : (65536 : Nat) = 2 ^ (4 * o) * (16 * 2 ^ (12 - 4 * o)) := by
    rcases (show o = 0 ∨ o = 1 ∨ o = 2 ∨ o = 3 by omega) with e | e | e | e <;> rw [e] <;> rfl
  rw [e, Nat.mul_assoc, Nat.add_mul_div_left _ _ (Nat.two_pow_pos _), Nat.mul_assoc]
  omega
theorem c_strict {B : zBk} {S : Nat → Int32} {N : zNt} {b nn : Nat} {x : Int32} {w : zW} {k : Nat → Nat → zW → Prop} {k0 : zW → Prop} (h : zInv B S N b nn w) (hk : ∀ c s v, zInv B S N b nn v → zCost c s w v → k c s v) : ∃ c s, c ≤ zNA w ∧ s ≤ zNS w ∧ fX11_strict c s x w (fun r1 w1 => fX12_strict x w1 (fun r2 w2 => (r1 = r2 → k c s w2) ∧ (¬ r1 = r2 → k0 w2))) := by
  have hwf := iv_wf h
  have h8 := wf_R hwf
  have h4 := wf_W hwf
  have hle := zAL_le hwf
  have hb0 : ¬ b = 0 := by have := (iv_re h).1; omega
  rcases zr_cases hwf hb0 x with ⟨r, hr, rfl⟩ | ⟨hn1, hn2⟩
  · refine ⟨_, _, (zn_le h).1, (zn_le h).2, ?_⟩
    rw [fX11_strict]
    refine q11_isRowY h hr ⟨fun q => absurd q (by decide), fun _ => ⟨_, _, Nat.le_refl _, Nat.le_refl _, ?_⟩⟩
    refine q_laidI h (fun v big vi vl v0 vp v140 => ?_)
    have hbig := zBig_is vl.1
    have hln := zBig_ln vl.1
    have hb4 := zBig_4 vl.1
    have lN := vl.2.2.1
    have hb := (iv_re vi).1
    have hpw : 2 ^ r ≤ 128 := Nat.pow_le_pow_right (n := 2) (by omega) (show r ≤ 7 by omega)
    refine zrun (fun n (s : Int32 × Int32) => fX8_heldBackBy_L5 9 _ n (Int32.ofNat r) s.1 s.2 v) (fun i => (Int32.ofNat (((zAL B).take i).countP (fun d => zdn B (zdm (bW B) d) == 2 ^ r && (zGu B S d && zof B S (zdm (bW B) d) == 0))), Int32.ofNat i)) (zAL B).length (fun n => ?_) (fun i n hi hc => ?_)
    · rw [List.take_length]
      rw [fX8_heldBackBy_L5]
      try dsimp only
      rw [vl.2.2.2.1]
      refine ⟨fun _ => ?_, fun q => absurd (Int32.le_refl _) q⟩
      intro w1 e
      subst e
      refine q_gathersI (zInv_t vi 0) (fun u ui ug ufl u32 u00 => ?_)
      refine q12_isRowY ui hr ⟨fun q => absurd q (by decide), fun _ => ⟨zi_in (by omega) (by omega), ?_⟩⟩
      rw [zi_nat (show r < 2 ^ 31 by omega), ug.2.2.2.2.2.2.1 r hr, zGL, zcp_filter]
      rw [zcp_congr (p := fun d => (zof B S (zdm (bW B) d) == 0 && zdn B (zdm (bW B) d) == 2 ^ r) && zGu B S d) (q := fun d => zdn B (zdm (bW B) d) == 2 ^ r && (zGu B S d && zof B S (zdm (bW B) d) == 0)) (zAL B) (fun d => by
        cases (zof B S (zdm (bW B) d) == 0) <;> cases (zdn B (zdm (bW B) d) == 2 ^ r) <;> cases zGu B S d <;> rfl)]
      exact zc_same (hk _ _ u ui (zCost_done (zdone_fl vp v140 ⟨ufl.1, ufl.2⟩)))
    · have hpl := zpd_lt (bW B) ((zAL B).getD i 0)
      have hdl := zd2_lt hwf (zdm (bW B) ((zAL B).getD i 0))
      have eA := vl.2.2.2.2.2.1 i hi
      have htk : ((zAL B).take (i + 1)).countP (fun d => zdn B (zdm (bW B) d) == 2 ^ r && (zGu B S d && zof B S (zdm (bW B) d) == 0)) = ((zAL B).take i).countP (fun d => zdn B (zdm (bW B) d) == 2 ^ r && (zGu B S d && zof B S (zdm (bW B) d) == 0)) + (if (zdn B (zdm (bW B) ((zAL B).getD i 0)) == 2 ^ r && (zGu B S ((zAL B).getD i 0) && zof B S (zdm (bW B) ((zAL B).getD i 0)) == 0)) = true then 1 else 0) := by
        rw [ztk_succ hi, zcp_app]
      rw [htk] at hc
      rw [fX8_heldBackBy_L5]
      try dsimp only
      rw [vl.2.2.2.1, hb4.1]
      refine ⟨fun q => absurd q (zi_nge hi (by omega)), fun _ => ⟨by omega, fun q => absurd q (zi_nge (by omega) (by omega)), fun _ => ⟨zi_in (by omega) (by omega), ?_⟩⟩⟩
      rw [zi_nat (show i < 2 ^ 31 by omega), eA, fX8_downIn]
      have edn : ((Int32.ofNat (zpd (bW B) ((zAL B).getD i 0) + 65536 * zd2 B (zdm (bW B) ((zAL B).getD i 0)))) >>> ((16 : Int32) &&& 31)) &&& (255 : Int32) = Int32.ofNat (zd2 B (zdm (bW B) ((zAL B).getD i 0))) := by
        rw [zl16, zi_shr (by omega) (by omega), zi_and255]
        exact congrArg _ (by omega)
      rw [edn, zi_shl1 (by omega), zl1, zi_add]
      refine ⟨fun q => ?_, fun q => ⟨by rw [hb4.1]; omega, by rw [hb4.1]; exact zi_in (by omega) (by omega), by rw [vl.2.1]; omega, ?_⟩⟩
      · rw [beq_false_of_ne (fun z => q (congrArg _ (zd2_pow (by omega) |>.mpr z))), Bool.false_and, if_neg (by decide), Nat.add_zero] at hc
        exact hc
      · have q' : zd2 B (zdm (bW B) ((zAL B).getD i 0)) = 2 ^ r := (zi_eq (by omega) (by omega)).mp q
        rw [(zd2_pow (by omega)).mp q', beq_self_eq_true, Bool.true_and] at hc
        rw [hb4.1, vl.2.1, eA]
        refine q3_agrees (d := (zAL B).getD i 0) hwf (iv_cb vi) (iv_ha vi).1 (iv_ha vi).2.2 (by omega) (fun o ho => by rw [zdg_big _ _ (by omega)]; exact zdg_pd _ _ (by omega)) ?_
        by_cases y : (zGu B S ((zAL B).getD i 0) && zof B S (zdm (bW B) ((zAL B).getD i 0)) == 0) = true
        · rw [if_pos y] at hc ⊢
          refine ⟨fun z => absurd z (by decide), fun _ => ?_⟩
          rw [zi_add]
          exact hc
        · rw [if_neg y] at hc ⊢
          exact ⟨fun _ => hc, fun z => absurd rfl z⟩
  · refine ⟨0, 0, Nat.zero_le _, Nat.zero_le _, ?_⟩
    rw [fX11_strict]
    refine hn1 w _ (iv_re h).2.1 (cb_R (iv_cb h)) ⟨fun _ => ?_, fun q => absurd rfl q⟩
    intro w1 e
    subst e
    refine q_refWord h (fun u ui u34 u35 u31 ufl => ?_)
    refine hn2 u _ (rb_R (iv_rb ui)) ⟨fun _ => ?_, fun q => absurd rfl q⟩
    exact zc_same (hk _ _ u ui (zCost_fl ufl))
theorem zfrom_le {B : zBk} (hwf : zWF B) (S : Nat → Int32) (f : Nat → Nat) (a n : Nat) : zfrom (zct f (zFL B S)) a n ≤ 6561 := by
  have h : ∀ (l : List Nat) (n : Nat), zfrom (zct f l) a n ≤ l.length := by
    intro l n
    induction l with
    | nil => exact Nat.le_of_eq (zsum_zero (f := fun i => zct f [] (a + i)) (fun i _ => rfl))
    | cons d l ih =>
      have e1 : ∀ i, zct f (d :: l) i = zct f l i + (if f d = i then 1 else 0) := fun i => by
        rw [zct, List.countP_cons, zct]
        by_cases q : f d = i
        · rw [if_pos q, if_pos (by rw [q]; exact beq_self_eq_true i)]
        · rw [if_neg q, if_neg (fun z => q (eq_of_beq z))]
      have e2 : zfrom (zct f (d :: l)) a n = zfrom (zct f l) a n + zsum n (fun i => if f d = a + i then 1 else 0) := by
        rw [zfrom, zfrom, ← zsum_add]
        exact zsum_congr (fun i _ => e1 (a + i))
      have e3 : ∀ n, zsum n (fun i => if f d = a + i then 1 else 0) ≤ if f d < a + n then 1 else 0 := by
        intro n
        induction n with
        | zero => exact Nat.zero_le _
        | succ n ih =>
          rw [zsum_S]
          by_cases q : f d = a + n
          · rw [if_neg (by omega)] at ih
            rw [if_pos q, if_pos (by omega)]
            omega
          · rw [if_neg q]
            by_cases y : f d < a + n
            · rw [if_pos y] at ih; rw [if_pos (by omega)]; omega
            · rw [if_neg y] at ih; rw [if_neg (by omega)]; omega
      have := e3 n
      have h1 : (if f d < a + n then 1 else 0) ≤ 1 := by split <;> omega
      rw [e2, List.length_cons]
      omega
  exact Nat.le_trans (h _ n) (zFL_6561 hwf S)
theorem zi_64 {n : Nat} (h : n ≤ 6561) : (Int32.ofNat n).toInt64 = Int64.ofNat n := Int32.toInt64_ofNat' (by
  show (n : Int) ≤ 2147483647
  omega)
theorem c_chance {B : zBk} {S : Nat → Int32} {N : zNt} {b nn : Nat} {x y : Int32} {w : zW} {k : Nat → Nat → zW → Prop} {k0 : zW → Prop} (h : zInv B S N b nn w) (hk : ∀ c s v, zInv B S N b nn v → zCost c s w v → k c s v) : ∃ c s, c ≤ zNA w ∧ s ≤ zNS w ∧ fX11_chance c s x y w (fun r1 w1 => fX12_chance x y w1 (fun r2 w2 => (r1 = r2 → k c s w2) ∧ (¬ r1 = r2 → k0 w2))) := by
  have hwf := iv_wf h
  have h8 := wf_R hwf
  have hL := zFL_6561 hwf S
  have hb0 : ¬ b = 0 := by have := (iv_re h).1; omega
  refine ⟨_, _, (zn_le h).1, (zn_le h).2, _, _, Nat.le_refl _, Nat.le_refl _, q_readyI h (fun v big vi vl vc v0 v1 vp v140 => ?_)⟩
  rw [vc.1]
  intro v2 e2
  subst e2
  rcases zr_cases hwf hb0 x with ⟨r, hr, rfl⟩ | ⟨hn1, hn2⟩
  · refine q11_isRowY vi hr ⟨fun q => absurd q (by decide), fun _ => ?_⟩
    refine q11_isCount y (fun n en hn => ⟨fun q => absurd q (by decide), fun _ => ?_⟩) (fun hx => ⟨fun _ => ?_, fun q => absurd rfl q⟩)
    · subst en
      by_cases hL0 : (zFL B S).length = 0
      · refine ⟨fun q => absurd q (by rw [hL0]; decide), fun _ => ?_⟩
        intro w1 e
        subst e
        refine q_refWord vi (fun u ui u34 u35 u31 ufl => ?_)
        have hkv := hk _ _ u ui (zCost_done (zdone_fl vp v140 ufl))
        refine q12_isRowY ui hr ⟨fun q => absurd q (by decide), fun _ => ?_⟩
        refine q12_within (lo := 0) (hi := 99) (by omega) (by decide) (by decide) ?_
        rw [if_pos (by omega)]
        refine ⟨fun q => absurd q (by decide), fun _ => ?_⟩
        rw [u31, hL0]
        exact ⟨fun q => absurd rfl q, fun _ => zc_same hkv⟩
      · have hz0 := znc_0 (N := znD B) v0
        refine ⟨fun _ => ⟨znc (znD B) v, zns (znD B) v, by rw [hz0.1]; exact Nat.zero_le _, by rw [hz0.2]; exact Nat.zero_le _, ?_⟩, fun q => absurd ((zi_lt (a := 0) (by decide) (by omega)).mpr (by omega)) q⟩
        refine q_talliedRowI vi hr (fun t big' ti tl tc t0 t1 tp t140 tt => ?_)
        have td := zdone_next ⟨vp, v140⟩ v0 tp t140
        refine q9_from tt hn ?_
        intro v10 e10
        have hfl := zfrom_le hwf S (fun d => zLv B r (zdm (bW B) d)) n (121 - n)
        rw [zi_64 hfl] at e10
        have hLn : ¬ (Int32.ofNat (zFL B S).length).toInt64 = 0 := fun z => by
          have z2 := congrArg Int64.toInt z
          rw [zi_64 hL, Int64.toInt_ofNat_of_lt (by omega)] at z2
          have : ((zFL B S).length : Int) = 0 := z2
          omega
        refine ⟨hLn, ?_⟩
        rw [e10]
        intro w1 e
        subst e
        refine q_refWord ti (fun u ui u34 u35 u31 ufl => ?_)
        have hkv := hk _ _ u ui (zCost_done (zdone_fl td.1 td.2 ufl))
        refine q12_isRowY ui hr ⟨fun q => absurd q (by decide), fun _ => ?_⟩
        refine q12_within (lo := 0) (hi := 99) (by omega) (by decide) (by decide) ?_
        rw [if_pos (by omega)]
        refine ⟨fun q => absurd q (by decide), fun _ => ?_⟩
        rw [u31]
        refine ⟨fun _ => ?_, fun q => absurd ((zi_eq (b := 0) (by omega) (by decide)).mp q) hL0⟩
        refine zrun (fun n' (s : Int64 × Int32) => fX12_chance_L41 _ n' (Int32.ofNat r) s.1 s.2 u) (fun i => (Int64.ofNat (zfrom (zct (fun d => zLv B r (zdm (bW B) d)) (zFL B S)) n i), Int32.ofNat (n + i))) (121 - n) (fun n' => ?_) (fun i n' hi hc => ?_)
        · rw [fX12_chance_L41]
          try dsimp only
          rw [u31]
          refine ⟨fun _ => ⟨hLn, zc_same hkv⟩, fun q => absurd ((zi_lt (a := 120) (by decide) (by omega)).mpr (by omega)) q⟩
        · rw [fX12_chance_L41]
          try dsimp only
          refine ⟨fun q => absurd ((zi_lt (a := 120) (by decide) (by omega)).mp q) (by omega), fun _ => ?_⟩
          rw [zl121, zi_mul, zi_add, zi_nat (show 121 * r + (n + i) < 2 ^ 31 by omega), u35 r (n + i) hr (by omega)]
          refine ⟨zi_in (by omega) (by omega), ?_⟩
          intro v11 e11
          rw [zi_64 (zct_6561 hwf S _ _), ← Int64.ofNat_add] at e11
          rw [e11, zl1, zi_add]
          exact hc
    · intro w1 e
      subst e
      refine q_refWord vi (fun u ui u34 u35 u31 ufl => ?_)
      have hkv := hk _ _ u ui (zCost_done (zdone_fl vp v140 ufl))
      refine q12_isRowY ui hr ⟨fun q => absurd q (by decide), fun _ => ?_⟩
      rcases hx with q | ⟨m, rfl, q1, q2⟩
      · exact q12_withinN (lo := 0) q (by decide) ⟨fun _ => zc_same hkv, fun x => absurd rfl x⟩
      · refine q12_within (lo := 0) (hi := 99) q1 (by decide) (by decide) ?_
        rw [if_neg (by omega)]
        exact ⟨fun _ => zc_same hkv, fun x => absurd rfl x⟩
  · refine hn1 v _ (iv_re vi).2.1 (cb_R (iv_cb vi)) ⟨fun _ => ?_, fun q => absurd rfl q⟩
    intro w1 e
    subst e
    refine q_refWord vi (fun u ui u34 u35 u31 ufl => ?_)
    refine hn2 u _ (rb_R (iv_rb ui)) ⟨fun _ => ?_, fun q => absurd rfl q⟩
    exact zc_same (hk _ _ u ui (zCost_done (zdone_fl vp v140 ufl)))

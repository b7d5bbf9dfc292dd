/-! Level 2: the reference gathers, to its end -/
theorem zcompl (n : Nat) (p : Nat → Bool) : zbits n p + zbits n (fun i => !p i) + 1 = 2 ^ n := by
  induction n with
  | zero => rfl
  | succ n ih =>
    rw [zbits_S, zbits_S, Nat.pow_succ]
    by_cases h : p n = true
    · rw [if_pos h, h, if_neg (by decide)]; omega
    · rw [if_neg h, eq_false_of_ne_true h, if_pos (by decide)]; omega
theorem zi_downF : ∀ (n : Fin 9) (u : Fin 256), u.val < 2 ^ n.val → (((1 : Int32) <<< (Int32.ofNat n.val &&& 31)) - (1 : Int32)) &&& ((Int32.ofNat u.val) ^^^ (-1 : Int32)) = Int32.ofNat (2 ^ n.val - 1 - u.val) := by decide +kernel
theorem zi_down {n u : Nat} (hn : n ≤ 8) (hu : u < 2 ^ n) : (((1 : Int32) <<< (Int32.ofNat n &&& 31)) - (1 : Int32)) &&& ((Int32.ofNat u) ^^^ (-1 : Int32)) = Int32.ofNat (2 ^ n - 1 - u) :=
  zi_downF ⟨n, by omega⟩ ⟨u, Nat.lt_of_lt_of_le hu (Nat.pow_le_pow_right (n := 2) (by omega) hn)⟩ hu
theorem zdn_compl (B : zBk) (m : Nat → Nat) : 2 ^ bR B - 1 - zbits (bR B) (fun r => !zDn B m r) = zdn B m := by
  have h := zcompl (bR B) (zDn B m)
  rw [zdn]
  omega
theorem q12_bits {v : Nat} {w : zW} {k : Int32 → zW → Prop} (hv : v < 2 ^ 31) (hk : k (Int32.ofNat (zones v)) w) : fX12_bits (Int32.ofNat v) w k := by
  refine zrun (fun n (s : Int32 × Int32) => fX12_bits_L4 k n (Int32.ofNat v) s.1 s.2 w) (fun i => (Int32.ofNat (zcnt i (fun i => v / 2 ^ i % 2 == 1)), Int32.ofNat i)) 30 (fun n => ?_) (fun i n hi hc => ?_)
  · simp (disch := omega) only [fX12_bits_L4, ↓zln1, ↓zln2, zl0, zl1, zl2, zl3, zl4, zl5, zl6, zl7, zl8, zl9, zl10, zl12, zl15, zl16, zl20, zl24, zl30, zl32, zl36, zl40, zl48, zl57, zl59, zl60, zl61, zl97, zl99, zl120, zl121, zl122, zl126, zl165, zl255, zl480, zl968, zl1000, zl1100, zi_add, zi_mul, zi_sub, zi_div, zi_mod, zi_nat, zt_le, zf_le, zt_lt, zf_lt, zt_eq, zf_eq, zt_vp, zt_N1lt, zf_N1lt, zf_N1eq, zf_eqN1, zt_N1eq, zt_N1le, zf_leN1, zi_nN1, zi_a1, zi_a15, zi_a255, zi_shr, zi_bit, zt_b0, zt_b1, forall_eq, if_true, if_false, true_implies, false_implies, not_true_eq_false, not_false_eq_true, and_true, true_and, gI_sI_eq, gI_sI_ne, gI_sI_ne2, gL_sI, gR_sI, gI_sL, gL_sL_eq, gL_sL_ne, gL_sL_ne2, gR_sL, gI_sR, gL_sR, gR_sR_eq, gR_sR_ne, gR_sR_ne2, gI_aI_eq, gI_aI_ne, gL_aI, gR_aI]
    exact hk
  · by_cases q : v / 2 ^ i % 2 = 1
    · simp (disch := omega) only [fX12_bits_L4, ↓zln1, ↓zln2, zl0, zl1, zl2, zl3, zl4, zl5, zl6, zl7, zl8, zl9, zl10, zl12, zl15, zl16, zl20, zl24, zl30, zl32, zl36, zl40, zl48, zl57, zl59, zl60, zl61, zl97, zl99, zl120, zl121, zl122, zl126, zl165, zl255, zl480, zl968, zl1000, zl1100, zi_add, zi_mul, zi_sub, zi_div, zi_mod, zi_nat, zt_le, zf_le, zt_lt, zf_lt, zt_eq, zf_eq, zt_vp, zt_N1lt, zf_N1lt, zf_N1eq, zf_eqN1, zt_N1eq, zt_N1le, zf_leN1, zi_nN1, zi_a1, zi_a15, zi_a255, zi_shr, zi_bit, zt_b0, zt_b1, forall_eq, if_true, if_false, true_implies, false_implies, not_true_eq_false, not_false_eq_true, and_true, true_and, gI_sI_eq, gI_sI_ne, gI_sI_ne2, gL_sI, gR_sI, gI_sL, gL_sL_eq, gL_sL_ne, gL_sL_ne2, gR_sL, gI_sR, gL_sR, gR_sR_eq, gR_sR_ne, gR_sR_ne2, gI_aI_eq, gI_aI_ne, gL_aI, gR_aI]
      rw [q]
      have e : zcnt (i + 1) (fun i => v / 2 ^ i % 2 == 1) = zcnt i (fun i => v / 2 ^ i % 2 == 1) + 1 := zcnt_t (p := fun i => v / 2 ^ i % 2 == 1) (by show (v / 2 ^ i % 2 == 1) = true; rw [q]; rfl)
      rw [← e]
      exact hc
    · have q0 : v / 2 ^ i % 2 = 0 := by omega
      simp (disch := omega) only [fX12_bits_L4, ↓zln1, ↓zln2, zl0, zl1, zl2, zl3, zl4, zl5, zl6, zl7, zl8, zl9, zl10, zl12, zl15, zl16, zl20, zl24, zl30, zl32, zl36, zl40, zl48, zl57, zl59, zl60, zl61, zl97, zl99, zl120, zl121, zl122, zl126, zl165, zl255, zl480, zl968, zl1000, zl1100, zi_add, zi_mul, zi_sub, zi_div, zi_mod, zi_nat, zt_le, zf_le, zt_lt, zf_lt, zt_eq, zf_eq, zt_vp, zt_N1lt, zf_N1lt, zf_N1eq, zf_eqN1, zt_N1eq, zt_N1le, zf_leN1, zi_nN1, zi_a1, zi_a15, zi_a255, zi_shr, zi_bit, zt_b0, zt_b1, forall_eq, if_true, if_false, true_implies, false_implies, not_true_eq_false, not_false_eq_true, and_true, true_and, gI_sI_eq, gI_sI_ne, gI_sI_ne2, gL_sI, gR_sI, gI_sL, gL_sL_eq, gL_sL_ne, gL_sL_ne2, gR_sL, gI_sR, gL_sR, gR_sR_eq, gR_sR_ne, gR_sR_ne2, gI_aI_eq, gI_aI_ne, gL_aI, gR_aI]
      rw [q0]
      have e : zcnt (i + 1) (fun i => v / 2 ^ i % 2 == 1) = zcnt i (fun i => v / 2 ^ i % 2 == 1) := zcnt_f (p := fun i => v / 2 ^ i % 2 == 1) (by show (v / 2 ^ i % 2 == 1) = false; rw [q0]; rfl)
      rw [Nat.add_zero, ← e]
      exact hc
theorem zct_filter {B : zBk} {S : Nat → Int32} {l : List Nat} {d : Nat} (f : Nat → Nat) (n : Nat) : zct f ((l ++ [d]).filter (zFt B S)) n = zct f (l.filter (zFt B S)) n + (if zFt B S d = true ∧ f d = n then 1 else 0) := by
  rw [zfilt1]
  by_cases q : zFt B S d = true
  · rw [if_pos q, zct_app]
    by_cases z : f d = n
    · rw [if_pos z, if_pos ⟨q, z⟩]
    · rw [if_neg z, if_neg (fun y => z y.2)]
  · rw [if_neg q, List.append_nil, if_neg (fun y => q y.1), Nat.add_zero]
/-- one dictionary told of -/
theorem q12_tells {B : zBk} {S : Nat → Int32} {l : List Nat} {d : Nat} {w : zW} {k : zW → Prop} (hwf : zWF B) (hR : gI w 210 2 = Int32.ofNat (bR B)) (hW : gI w 210 0 = Int32.ofNat (bW B)) (hm : ∀ o, o < bW B → gI w 227 o = Int32.ofNat (zdm (bW B) d o))
    (h29 : gI w 200 29 = Int32.ofNat (zbits (bR B) (fun r => !zDn B (zdm (bW B) d) r))) (h30 : gI w 200 30 = Int32.ofNat (zof B S (zdm (bW B) d))) (hb : ∀ r, r < bR B → gI w 228 r = Int32.ofNat (zLv B r (zdm (bW B) d))) (hga : zGa B S l w) (hlen : l.length < 6561)
    (hk : ∀ v : zW, v.2 = w.2 → (∀ a c, (a < 234 ∨ 239 < a) → (a = 200 → c ≠ 31 ∧ c ≠ 33) → gI v a c = gI w a c) → zGa B S (l ++ [d]) v → k v) : fX12_tells w k := by
  have h8 := wf_R hwf
  have h4 := wf_W hwf
  obtain ⟨g1, g2, g3, g4, g5, g6, g7, g8⟩ := hga
  have hdn := zdn_lt hwf (zdm (bW B) d)
  have hof := zof_lt hwf S (zdm (bW B) d)
  have hFl : (l.filter (zFt B S)).length ≤ l.length := List.length_filter_le _ _
  have hpow : ∀ r, r < 8 → 2 ^ r ≤ 128 := fun r hr => Nat.pow_le_pow_right (n := 2) (by omega) (show r ≤ 7 by omega)
  have hxd : ∀ (a : Nat), a < 256 → ∀ r, r < bR B → (Int32.ofNat a = (1 : Int32) <<< (Int32.ofNat r &&& 31) ↔ a = 2 ^ r) := fun a ha r hr => by
    have := hpow r (by omega)
    rw [zi_shl1 (by omega)]
    exact zi_eq (by omega) (by omega)
  have hcl : ∀ p : Nat → Bool, l.countP p ≤ l.length := fun p => List.countP_le_length
  rw [fX12_tells, fX12_allRows, fX12_rows, show (2 : Int32).toNatClampNeg = 2 from rfl, hR]
  intro v2 e2
  rw [h29, zi_down h8 (zbits_lt _ _), zdn_compl] at e2
  subst e2
  -- the last part: what fits
  have hC : ∀ v : zW, v.2 = w.2 → (∀ a c, a ≠ 238 → a ≠ 239 → (a = 200 → c ≠ 33) → gI v a c = gI w a c) → gI v 200 33 = zoi (zfew B S ((l ++ [d]).filter (fun d => zdn B (zdm (bW B) d) == 0))) →
      (∀ r, r < bR B → gI v 238 r = Int32.ofNat ((l ++ [d]).countP (fun d => zdn B (zdm (bW B) d) == 0 && zof B S (zdm (bW B) d) == 2 ^ r))) → (∀ r, r < bR B → gI v 239 r = Int32.ofNat ((l ++ [d]).countP (fun d => zof B S (zdm (bW B) d) == 0 && zdn B (zdm (bW B) d) == 2 ^ r))) →
      fX12_tells_J148 k (Int32.ofNat (zdn B (zdm (bW B) d))) v := by
    intro v v2 vf v33 v38 v39
    have x30 : gI v 200 30 = Int32.ofNat (zof B S (zdm (bW B) d)) := by rw [vf 200 30 (by omega) (by omega) (by omega)]; exact h30
    have hno : ¬ zFt B S d = true → k v := by
      intro q
      have e : (l ++ [d]).filter (zFt B S) = l.filter (zFt B S) := by rw [zfilt1, if_neg q, List.append_nil]
      refine hk v v2 (fun a c q1 q2 => vf a c (by omega) (by omega) (fun z => (q2 z).2)) ⟨?_, v33, ?_, ?_, ?_, v38, v39, ?_⟩
      · rw [e, vf 200 31 (by omega) (by omega) (by omega)]; exact g1
      · intro o m ho hm'; rw [e, vf 234 _ (by omega) (by omega) (by omega)]; exact g3 o m ho hm'
      · intro r n hr hn; rw [e, vf 235 _ (by omega) (by omega) (by omega)]; exact g4 r n hr hn
      · intro o p ho hp; rw [e, vf 237 _ (by omega) (by omega) (by omega)]; exact g5 o p ho hp
      · intro j hj1 hj2 o ho
        rw [e] at hj2 ⊢
        rw [vf 200 32 (by omega) (by omega) (by omega)] at hj1
        rw [vf 236 _ (by omega) (by omega) (by omega)]; exact g8 j hj1 hj2 o ho
    rw [fX12_tells_J148]
    refine ⟨fun q => hno (fun z => q ?_), fun q => ?_⟩
    · rw [zFt, Bool.and_eq_true] at z
      rw [eq_of_beq z.1]
      rfl
    have q0 : zdn B (zdm (bW B) d) = 0 := (zi_eq (b := 0) (by omega) (by decide)).mp q
    rw [x30]
    refine ⟨fun y => ?_, fun y => hno (fun z => y ?_)⟩
    · have y0 : zof B S (zdm (bW B) d) = 0 := (zi_eq (b := 0) (by omega) (by decide)).mp y
      have hft : zFt B S d = true := by rw [zFt, q0, y0]; rfl
      have e : (l ++ [d]).filter (zFt B S) = l.filter (zFt B S) ++ [d] := by rw [zfilt1, if_pos hft]
      refine q12_tellsD (m := zdm (bW B) d) (f := fun o m => zct (fun d => zdm (bW B) d o) (l.filter (zFt B S)) m) (g := fun o p => if (l.filter (zFt B S)).all (fun d => zdm (bW B) d o == zdm (bW B) d p) = true then 1 else 0) (F := (l.filter (zFt B S)).length) hwf
        (by rw [vf 210 0 (by omega) (by omega) (by omega)]; exact hW) (zdm_lt _ _) (fun o ho => by rw [vf 227 o (by omega) (by omega) (by omega)]; exact hm o ho) (fun o x ho hx => by rw [vf 234 _ (by omega) (by omega) (by omega)]; exact g3 o x ho hx)
        (fun o p ho hp => ⟨by rw [vf 237 _ (by omega) (by omega) (by omega)]; exact g5 o p ho hp, by show (if _ then 1 else 0) < 2; split <;> omega⟩) (by rw [vf 200 31 (by omega) (by omega) (by omega)]; exact g1) (fun u u2 uf u34 u37 u36 => ?_)
      refine q12_tellsE (m := zdm (bW B) d) (f := fun r n => zct (fun d => zLv B r (zdm (bW B) d)) (l.filter (zFt B S)) n) (F := (l.filter (zFt B S)).length) hwf
        (by rw [uf 210 2 (by omega) (by omega) (by omega), vf 210 2 (by omega) (by omega) (by omega)]; exact hR) (fun r hr => by rw [uf 228 r (by omega) (by omega) (by omega), vf 228 r (by omega) (by omega) (by omega)]; exact hb r hr)
        (fun r n hr hn => by rw [uf 235 _ (by omega) (by omega) (by omega), vf 235 _ (by omega) (by omega) (by omega)]; exact g4 r n hr hn) (by rw [uf 200 31 (by omega) (by omega) (by omega), vf 200 31 (by omega) (by omega) (by omega)]; exact g1) (fun t t2 tf t35 t31 => ?_)
      refine hk t ((t2.trans u2).trans v2) (fun a c q1 q2 => by rw [tf a c (by omega) (fun z => (q2 z).1), uf a c (by omega) (by omega) (by omega), vf a c (by omega) (by omega) (fun z => (q2 z).2)]) ⟨?_, ?_, ?_, ?_, ?_, ?_, ?_, ?_⟩
      · rw [e, t31, List.length_append]; rfl
      · rw [tf 200 33 (by omega) (by omega), uf 200 33 (by omega) (by omega) (by omega)]; exact v33
      · intro o x ho hx
        rw [tf 234 _ (by omega) (by omega), u34 o x ho hx, e, zct_app]
      · intro r n hr hn
        rw [t35 r n hr hn, e, zct_app]
      · intro o p ho hp
        rw [tf 237 _ (by omega) (by omega), u37 o p ho hp, e, zall_app]
        by_cases z : (l.filter (zFt B S)).all (fun d => zdm (bW B) d o == zdm (bW B) d p) = true
        · rw [z, Bool.true_and]
          by_cases x : zdm (bW B) d o = zdm (bW B) d p
          · rw [if_pos ⟨if_pos rfl, x⟩, if_pos (by rw [x]; exact beq_self_eq_true _)]
          · rw [if_neg (fun y => x y.2), if_neg (fun y => x (eq_of_beq y))]
        · rw [eq_false_of_ne_true z, Bool.false_and, if_neg (fun y => by rw [if_neg (by decide)] at y; exact absurd y.1 (by decide)), if_neg (by decide)]
      · intro r hr
        rw [tf 238 r (by omega) (by omega), uf 238 r (by omega) (by omega) (by omega)]; exact v38 r hr
      · intro r hr
        rw [tf 239 r (by omega) (by omega), uf 239 r (by omega) (by omega) (by omega)]; exact v39 r hr
      · intro j hj1 hj2 o ho
        rw [tf 200 32 (by omega) (by omega), uf 200 32 (by omega) (by omega) (by omega)] at hj1
        rw [e, List.length_append] at hj2
        have hj2' : j < (l.filter (zFt B S)).length + 1 := hj2
        rw [tf 236 _ (by omega) (by omega), u36 o ho, e]
        by_cases z : j = (l.filter (zFt B S)).length
        · rw [if_pos (by rw [hj1, z]), z, zgd_r (Nat.le_refl _), Nat.sub_self]
          rfl
        · rw [if_neg (fun y => z ((zi_eq (by omega) (by omega)).mp (y.trans hj1)).symm), zgd_l (by omega), vf 236 _ (by omega) (by omega) (by omega)]
          rw [vf 200 32 (by omega) (by omega) (by omega)] at hj1
          exact g8 j hj1 (by omega) o ho
    · rw [zFt, Bool.and_eq_true] at z
      rw [eq_of_beq z.2]
      rfl
  -- the fewest counts
  have hBp : ∀ v : zW, v.2 = w.2 → (∀ a c, a ≠ 238 → a ≠ 239 → gI v a c = gI w a c) →
      (∀ r, r < bR B → gI v 238 r = Int32.ofNat ((l ++ [d]).countP (fun d => zdn B (zdm (bW B) d) == 0 && zof B S (zdm (bW B) d) == 2 ^ r))) → (∀ r, r < bR B → gI v 239 r = Int32.ofNat ((l ++ [d]).countP (fun d => zof B S (zdm (bW B) d) == 0 && zdn B (zdm (bW B) d) == 2 ^ r))) →
      fX12_tells_L14 k 1 (Int32.ofNat (zdn B (zdm (bW B) d))) (Int32.ofNat (bR B)) v := by
    intro v v2 vf v38 v39
    have xR : gI v 210 2 = Int32.ofNat (bR B) := by rw [vf 210 2 (by omega) (by omega)]; exact hR
    have x30 : gI v 200 30 = Int32.ofNat (zof B S (zdm (bW B) d)) := by rw [vf 200 30 (by omega) (by omega)]; exact h30
    have x33 : gI v 200 33 = zoi (zfew B S (l.filter (fun d => zdn B (zdm (bW B) d) == 0))) := by rw [vf 200 33 (by omega) (by omega)]; exact g2
    have hkeep : zfew B S ((l ++ [d]).filter (fun d => zdn B (zdm (bW B) d) == 0)) = zfew B S (l.filter (fun d => zdn B (zdm (bW B) d) == 0)) → fX12_tells_J148 k (Int32.ofNat (zdn B (zdm (bW B) d))) v := fun q =>
      hC v v2 (fun a c q1 q2 _ => vf a c q1 q2) (by rw [q]; exact x33) v38 v39
    have htake : zfew B S ((l ++ [d]).filter (fun d => zdn B (zdm (bW B) d) == 0)) = some (zof B S (zdm (bW B) d)) → fX12_tells_J140 k (Int32.ofNat (zdn B (zdm (bW B) d))) v := by
      intro q w34 e34
      rw [x30] at e34
      refine hC w34 (by rw [e34]; exact v2) (fun a c q1 q2 q3 => by rw [e34, gI_sI, if_neg (fun z => q3 z.1 z.2)]; exact vf a c q1 q2) (by rw [q, e34, gI_sI_eq]; rfl) (fun r hr => by rw [e34, gI_sI_ne (by decide)]; exact v38 r hr) (fun r hr => by rw [e34, gI_sI_ne (by decide)]; exact v39 r hr)
    rw [fX12_tells_L14]
    try dsimp only
    rw [fX12_rows, show (2 : Int32).toNatClampNeg = 2 from rfl, xR]
    refine ⟨fun _ => ⟨fun q => hkeep ?_, fun q => ?_⟩, fun q => absurd (Int32.le_refl _) q⟩
    · rw [zfilt1, if_neg (fun z => q (by rw [eq_of_beq z]; rfl)), List.append_nil]
    · have q0 : zdn B (zdm (bW B) d) = 0 := (zi_eq (b := 0) (by omega) (by decide)).mp q
      have e : zfew B S ((l ++ [d]).filter (fun d => zdn B (zdm (bW B) d) == 0)) = zbest (zfew B S (l.filter (fun d => zdn B (zdm (bW B) d) == 0))) (zof B S (zdm (bW B) d)) := by
        rw [zfilt1, if_pos (by rw [q0]; rfl), zfew_app]
      rw [x33]
      cases hfe : zfew B S (l.filter (fun d => zdn B (zdm (bW B) d) == 0)) with
      | none =>
        rw [hfe] at e
        exact ⟨fun _ => htake e, fun z => absurd zN1_lt z⟩
      | some a =>
        rw [hfe] at e
        have ha := zfew_lt hwf S _ a hfe
        have ho1 : zones (zof B S (zdm (bW B) d)) ≤ 30 := zcnt_le 30 _
        have ho2 : zones a ≤ 30 := zcnt_le 30 _
        show ((Int32.ofNat a < 0 → _) ∧ _)
        refine ⟨fun z => absurd z (zi_0le (by omega)), fun _ => ?_⟩
        rw [x30]
        refine q12_bits (by omega) ?_
        rw [x33, hfe]
        refine q12_bits (v := a) (by omega) ?_
        by_cases z : zones (zof B S (zdm (bW B) d)) < zones a
        · refine ⟨fun _ => htake ?_, fun y => absurd ((zi_lt (by omega) (by omega)).mpr z) y⟩
          rw [e]
          show (if zless (zof B S (zdm (bW B) d)) a = true then _ else _) = _
          rw [zless, decide_eq_true z, Bool.true_or, if_pos rfl]
        · refine ⟨fun y => absurd ((zi_lt (by omega) (by omega)).mp y) z, fun _ => ?_⟩
          rw [x30]
          refine q12_bits (by omega) ?_
          rw [x33, hfe]
          refine q12_bits (v := a) (by omega) ?_
          by_cases y : zones (zof B S (zdm (bW B) d)) = zones a
          · refine ⟨fun x => absurd (by rw [y]) x, fun _ => ?_⟩
            rw [x33, x30, hfe]
            show ((Int32.ofNat a ≤ Int32.ofNat (zof B S (zdm (bW B) d)) → _) ∧ _)
            by_cases x : a ≤ zof B S (zdm (bW B) d)
            · refine ⟨fun _ => hkeep ?_, fun u => absurd ((zi_le (by omega) (by omega)).mpr x) u⟩
              rw [e, hfe]
              show (if zless (zof B S (zdm (bW B) d)) a = true then _ else _) = _
              rw [zless, decide_eq_false z, decide_eq_false (show ¬ zof B S (zdm (bW B) d) < a by omega), Bool.and_false, Bool.or_false, if_neg (by decide)]
            · refine ⟨fun u => absurd ((zi_le (by omega) (by omega)).mp u) x, fun _ => htake ?_⟩
              rw [e]
              show (if zless (zof B S (zdm (bW B) d)) a = true then _ else _) = _
              rw [zless, y, beq_self_eq_true, decide_eq_true (show zof B S (zdm (bW B) d) < a by omega), Bool.and_true, Bool.or_true, if_pos rfl]
          · refine ⟨fun _ => hkeep ?_, fun x => absurd ((zi_eq (by omega) (by omega)).mp x) y⟩
            rw [e, hfe]
            show (if zless (zof B S (zdm (bW B) d)) a = true then _ else _) = _
            rw [zless, decide_eq_false z, beq_false_of_ne y, Bool.false_and, Bool.or_false, if_neg (by decide)]
  -- the rows that alone are to blame
  have hA : ∀ (j i : Nat) (v : zW), i + j = bR B → v.2 = w.2 → (∀ a c, a ≠ 238 → a ≠ 239 → gI v a c = gI w a c) →
      (∀ r, r < bR B → gI v 238 r = Int32.ofNat ((if r < i then l ++ [d] else l).countP (fun d => zdn B (zdm (bW B) d) == 0 && zof B S (zdm (bW B) d) == 2 ^ r))) → (∀ r, r < bR B → gI v 239 r = Int32.ofNat ((if r < i then l ++ [d] else l).countP (fun d => zof B S (zdm (bW B) d) == 0 && zdn B (zdm (bW B) d) == 2 ^ r))) →
      fX12_tells_L14 k (j + 1) (Int32.ofNat (zdn B (zdm (bW B) d))) (Int32.ofNat i) v := by
    intro j
    induction j with
    | zero =>
      intro i v hij v2 vf v38 v39
      obtain rfl : i = bR B := by omega
      exact hBp v v2 vf (fun r hr => by rw [v38 r hr, if_pos hr]) (fun r hr => by rw [v39 r hr, if_pos hr])
    | succ j ih =>
      intro i v hij v2 vf v38 v39
      have hi : i < bR B := by omega
      have xR : gI v 210 2 = Int32.ofNat (bR B) := by rw [vf 210 2 (by omega) (by omega)]; exact hR
      have x30 : gI v 200 30 = Int32.ofNat (zof B S (zdm (bW B) d)) := by rw [vf 200 30 (by omega) (by omega)]; exact h30
      have x38 := v38 i hi
      have x39 := v39 i hi
      rw [if_neg (by omega)] at x38 x39
      have hJ2 : ∀ (t : Nat) (u : zW), u.2 = w.2 → (∀ a c, a ≠ 238 → a ≠ 239 → gI u a c = gI w a c) → (∀ r, r < bR B → gI u 238 r = Int32.ofNat ((if r < i + 1 then l ++ [d] else l).countP (fun d => zdn B (zdm (bW B) d) == 0 && zof B S (zdm (bW B) d) == 2 ^ r))) →
          (∀ r, gI u 239 r = gI v 239 r) → t = (if (zof B S (zdm (bW B) d) == 0 && zdn B (zdm (bW B) d) == 2 ^ i) = true then 1 else 0) →
          fX12_tells_J76 k (fX12_tells_L14 k (j + 1)) (Int32.ofNat (zdn B (zdm (bW B) d))) (Int32.ofNat i) (Int32.ofNat t) (gI u 239 i) (Int32.ofNat i) u := by
        intro t u u2 uf u38 u39 ht
        refine ⟨zi_in (by omega) (by omega), ?_⟩
        intro w49 e49
        rw [zi_nat (show i < 2 ^ 31 by omega), u39, x39, zi_add, ht] at e49
        rw [zl1, zi_add]
        refine ih (i + 1) w49 (by omega) (by rw [e49]; exact u2) (fun a c q1 q2 => by rw [e49, gI_sI_ne q2]; exact uf a c q1 q2) (fun r hr => by rw [e49, gI_sI_ne (by decide)]; exact u38 r hr) (fun r hr => ?_)
        rw [e49]
        by_cases q : r = i
        · rw [q, gI_sI_eq, if_pos (show i < i + 1 by omega), zcp_app]
        · rw [gI_sI_ne2 q, u39, v39 r hr]
          by_cases z : r < i
          · rw [if_pos z, if_pos (by omega)]
          · rw [if_neg z, if_neg (by omega)]
      have hJ1 : ∀ (t : Nat), t = (if (zdn B (zdm (bW B) d) == 0 && zof B S (zdm (bW B) d) == 2 ^ i) = true then 1 else 0) →
          fX12_tells_J48 k (fX12_tells_L14 k (j + 1)) (Int32.ofNat (zdn B (zdm (bW B) d))) (Int32.ofNat i) (Int32.ofNat t) (Int32.ofNat (l.countP (fun d => zdn B (zdm (bW B) d) == 0 && zof B S (zdm (bW B) d) == 2 ^ i))) (Int32.ofNat i) v := by
        intro t ht
        refine ⟨zi_in (by omega) (by omega), ?_⟩
        intro w45 e45
        rw [zi_nat (show i < 2 ^ 31 by omega), zi_add, ht] at e45
        refine ⟨zi_in (by omega) (by omega), ?_⟩
        intro v47 e47
        have x30' : gI w45 200 30 = Int32.ofNat (zof B S (zdm (bW B) d)) := by rw [e45, gI_sI_ne (by decide)]; exact x30
        rw [x30'] at e47
        have e47' : v47 = Int32.ofNat (if (zof B S (zdm (bW B) d) == 0 && zdn B (zdm (bW B) d) == 2 ^ i) = true then 1 else 0) := by
          rw [e47]
          by_cases q : zof B S (zdm (bW B) d) = 0
          · rw [q, if_neg (show ¬ ¬ Int32.ofNat 0 = 0 from fun z => z rfl), beq_self_eq_true, Bool.true_and]
            by_cases z : zdn B (zdm (bW B) d) = 2 ^ i
            · rw [if_neg (show ¬ ¬ Int32.ofNat (zdn B (zdm (bW B) d)) = (1 : Int32) <<< (Int32.ofNat i &&& 31) from fun y => y ((hxd _ hdn i hi).mpr z)), if_pos (by rw [z]; exact beq_self_eq_true _)]
              rfl
            · rw [if_pos (show ¬ Int32.ofNat (zdn B (zdm (bW B) d)) = (1 : Int32) <<< (Int32.ofNat i &&& 31) from fun y => z ((hxd _ hdn i hi).mp y)), if_neg (fun y => z (eq_of_beq y))]
              rfl
          · rw [if_pos (show ¬ Int32.ofNat (zof B S (zdm (bW B) d)) = 0 from fun z => q ((zi_eq (b := 0) (by omega) (by decide)).mp z)), beq_false_of_ne q, Bool.false_and, if_neg (by decide)]
            rfl
        rw [e47', zi_nat (show i < 2 ^ 31 by omega)]
        refine hJ2 _ w45 (by rw [e45]; exact v2) (fun a c q1 q2 => by rw [e45, gI_sI_ne q1]; exact vf a c q1 q2) (fun r hr => ?_) (fun r => by rw [e45, gI_sI_ne (by decide)]) rfl
        rw [e45]
        by_cases q : r = i
        · rw [q, gI_sI_eq, if_pos (show i < i + 1 by omega), zcp_app]
        · rw [gI_sI_ne2 q, v38 r hr]
          by_cases z : r < i
          · rw [if_pos z, if_pos (by omega)]
          · rw [if_neg z, if_neg (by omega)]
      rw [fX12_tells_L14]
      try dsimp only
      rw [fX12_rows, show (2 : Int32).toNatClampNeg = 2 from rfl, xR]
      refine ⟨fun q => absurd q (zi_nge hi (by omega)), fun _ => ⟨zi_in (by omega) (by omega), ?_⟩⟩
      rw [zi_nat (show i < 2 ^ 31 by omega), x38, x30]
      refine ⟨fun q => hJ1 0 ?_, fun q => ?_⟩
      · rw [beq_false_of_ne (fun z => q (by rw [z]; rfl)), Bool.false_and, if_neg (by decide)]
      · have q0 : zdn B (zdm (bW B) d) = 0 := (zi_eq (b := 0) (by omega) (by decide)).mp q
        intro v51 e51
        by_cases z : zof B S (zdm (bW B) d) = 2 ^ i
        · rw [if_neg (show ¬ ¬ Int32.ofNat (zof B S (zdm (bW B) d)) = (1 : Int32) <<< (Int32.ofNat i &&& 31) from fun y => y ((hxd _ hof i hi).mpr z))] at e51
          rw [e51]
          exact hJ1 1 (by rw [q0, z, beq_self_eq_true, beq_self_eq_true, Bool.true_and, if_pos rfl])
        · rw [if_pos (show ¬ Int32.ofNat (zof B S (zdm (bW B) d)) = (1 : Int32) <<< (Int32.ofNat i &&& 31) from fun y => z ((hxd _ hof i hi).mp y))] at e51
          rw [e51]
          exact hJ1 0 (by rw [beq_false_of_ne z, Bool.and_false, if_neg (by decide)])
  exact ⟨bR B + 1, hA (bR B) 0 w (by omega) rfl (fun _ _ _ _ => rfl) (fun r hr => by rw [if_neg (by omega)]; exact g6 r hr) (fun r hr => by rw [if_neg (by omega)]; exact g7 r hr)⟩

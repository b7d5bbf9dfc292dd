/-! Level 2: the ways to mend a row: a list, its parts, how many -/
def zWx (B : zBk) (S : Nat → Int32) (r i x : Nat) : List (Nat × Nat × Nat) := ((List.range x).filter fun y => zHp B S r (bIt B r i) y).map fun y => (r, i, y)
def zWr (B : zBk) (S : Nat → Int32) (r n : Nat) : List (Nat × Nat × Nat) := (List.range n).flatMap fun i => zWx B S r i (bW B)
def zWn (B : zBk) (S : Nat → Int32) (n : Nat) : List (Nat × Nat × Nat) := (List.range n).flatMap fun r => zWr B S r (bLn B r)
def zPre (B : zBk) (S : Nat → Int32) (r i x : Nat) : List (Nat × Nat × Nat) := zWn B S r ++ (zWr B S r i ++ zWx B S r i x)
theorem zWy_eq (B : zBk) (S : Nat → Int32) : zWy B S = zWn B S (bR B) := rfl
theorem zfm_S {α : Type} (f : Nat → List α) (n : Nat) : (List.range (n + 1)).flatMap f = (List.range n).flatMap f ++ f n := by
  rw [List.range_succ, List.flatMap_append, List.flatMap_cons, List.flatMap_nil, List.append_nil]
theorem zWx_S (B : zBk) (S : Nat → Int32) (r i x : Nat) : zWx B S r i (x + 1) = zWx B S r i x ++ (if zHp B S r (bIt B r i) x = true then [(r, i, x)] else []) := by
  rw [zWx, zWx, List.range_succ, List.filter_append, List.map_append]
  by_cases h : zHp B S r (bIt B r i) x = true
  · rw [if_pos h, List.filter_cons_of_pos h]; rfl
  · rw [if_neg h, List.filter_cons_of_neg h]; rfl
theorem zWr_S (B : zBk) (S : Nat → Int32) (r n : Nat) : zWr B S r (n + 1) = zWr B S r n ++ zWx B S r n (bW B) := zfm_S _ n
theorem zWn_S (B : zBk) (S : Nat → Int32) (n : Nat) : zWn B S (n + 1) = zWn B S n ++ zWr B S n (bLn B n) := zfm_S _ n
theorem zPre_x (B : zBk) (S : Nat → Int32) (r i x : Nat) : zPre B S r i (x + 1) = zPre B S r i x ++ (if zHp B S r (bIt B r i) x = true then [(r, i, x)] else []) := by
  rw [zPre, zPre, zWx_S, ← List.append_assoc, ← List.append_assoc, ← List.append_assoc]
theorem zPre_i (B : zBk) (S : Nat → Int32) (r i : Nat) : zPre B S r (i + 1) 0 = zPre B S r i (bW B) := by
  rw [zPre, zPre, zWr_S]
  show zWn B S r ++ (_ ++ []) = _
  rw [List.append_nil]
theorem zPre_r (B : zBk) (S : Nat → Int32) (r : Nat) : zPre B S (r + 1) 0 0 = zPre B S r (bLn B r) 0 := by
  rw [zPre, zPre, zWn_S]
  show _ ++ ([] ++ []) = _ ++ (_ ++ [])
  rw [List.append_nil, List.append_nil, List.append_nil]
theorem zPre_0 (B : zBk) (S : Nat → Int32) : zPre B S 0 0 0 = [] := rfl
theorem zPre_end (B : zBk) (S : Nat → Int32) : zPre B S (bR B) 0 0 = zWy B S := by
  rw [zWy_eq, zPre]
  show _ ++ ([] ++ []) = _
  rw [List.append_nil, List.append_nil]
theorem zfm_pre {α : Type} (f : Nat → List α) {a n : Nat} (h : a ≤ n) : ∃ t, (List.range n).flatMap f = (List.range a).flatMap f ++ t := by
  induction n with
  | zero => exact ⟨[], by rw [show a = 0 by omega]; rfl⟩
  | succ n ih =>
    by_cases e : a = n + 1
    · exact ⟨[], by rw [e, List.append_nil]⟩
    · obtain ⟨t, ht⟩ := ih (by omega)
      exact ⟨t ++ f n, by rw [zfm_S, ht, List.append_assoc]⟩
theorem zWx_pre (B : zBk) (S : Nat → Int32) (r i : Nat) {x n : Nat} (h : x ≤ n) : ∃ t, zWx B S r i n = zWx B S r i x ++ t := by
  induction n with
  | zero => exact ⟨[], by rw [show x = 0 by omega]; rfl⟩
  | succ n ih =>
    by_cases e : x = n + 1
    · exact ⟨[], by rw [e, List.append_nil]⟩
    · obtain ⟨t, ht⟩ := ih (by omega)
      exact ⟨_, by rw [zWx_S, ht, List.append_assoc]⟩
theorem zPre_pre (B : zBk) (S : Nat → Int32) {r i x : Nat} (hr : r < bR B) (hi : i < bLn B r) (hx : x ≤ bW B) : ∃ t, zWy B S = zPre B S r i x ++ t := by
  obtain ⟨t1, h1⟩ := zfm_pre (fun r => zWr B S r (bLn B r)) (show r + 1 ≤ bR B from hr)
  obtain ⟨t2, h2⟩ := zfm_pre (fun i => zWx B S r i (bW B)) (show i + 1 ≤ bLn B r from hi)
  obtain ⟨t3, h3⟩ := zWx_pre B S r i hx
  have e1 : zWy B S = zWn B S (r + 1) ++ t1 := h1
  have e2 : zWr B S r (bLn B r) = zWr B S r (i + 1) ++ t2 := h2
  exact ⟨t3 ++ (t2 ++ t1), by rw [e1, zWn_S, e2, zWr_S, h3, zPre]; simp only [List.append_assoc]⟩
theorem zfst_app (f : Nat × Nat × Nat → Nat) (l : List (Nat × Nat × Nat)) (t : Nat × Nat × Nat) : zfst f (l ++ [t]) = if l = [] then Int32.ofNat (f t) else zfst f l := by
  cases l with
  | nil => rfl
  | cons a l => rw [if_neg (fun z => nomatch z)]; rfl
theorem zWx_len (B : zBk) (S : Nat → Int32) (r i n : Nat) : (zWx B S r i n).length = zcnt n (zHp B S r (bIt B r i)) := by
  induction n with
  | zero => rfl
  | succ n ih =>
    rw [zWx_S, List.length_append, ih, zcnt_S]
    by_cases h : zHp B S r (bIt B r i) n = true
    · rw [if_pos h, if_pos h]; rfl
    · rw [if_neg h, if_neg h]; rfl
theorem zfm_len {α : Type} (f : Nat → List α) (n : Nat) : ((List.range n).flatMap f).length = zsum n (fun i => (f i).length) := by
  induction n with
  | zero => rfl
  | succ n ih => rw [zfm_S, List.length_append, ih, zsum_S]
theorem zsum_one {W o : Nat} (h : o < W) (g : Nat → Nat) : zsum W (fun p => (if (o == p) = true then 1 else 0) * g p) = g o := by
  induction W with
  | zero => omega
  | succ W ih =>
    rw [zsum_S]
    by_cases e : o = W
    · rw [e, zsum_zero (fun i hi => by rw [if_neg (by rw [beq_iff_eq]; omega), Nat.zero_mul]), if_pos (beq_self_eq_true W)]
      omega
    · rw [ih (by omega), if_neg (by rw [beq_iff_eq]; omega)]
      omega
theorem zsum_by {it g : Nat → Nat} {n W : Nat} (h : ∀ i, i < n → it i < W) : zsum n (fun i => g (it i)) = zsum W (fun o => zcnt n (fun i => it i == o) * g o) := by
  induction n with
  | zero => exact (zsum_zero (fun o _ => Nat.zero_mul _)).symm
  | succ n ih =>
    rw [zsum_S, ih (fun i hi => h i (by omega)), ← zsum_one (h n (by omega)) g, ← zsum_add]
    refine zsum_congr (fun o _ => ?_)
    rw [zcnt_S, Nat.add_mul]
theorem zWy_len {B : zBk} (hwf : zWF B) (S : Nat → Int32) : (zWy B S).length = zsum (bR B) (fun r => zsum (bW B) (fun o => bU B r o * zcnt (bW B) (zHp B S r o))) := by
  rw [zWy_eq, zWn, zfm_len]
  refine zsum_congr (fun r hr => ?_)
  rw [zWr, zfm_len]
  have h1 := zsum_by (it := bIt B r) (g := fun o => zcnt (bW B) (zHp B S r o)) (n := bLn B r) (W := bW B) (fun i hi => wf_It hwf hr hi)
  rw [zsum_congr (fun i _ => zWx_len B S r i (bW B)), h1]
  exact zsum_congr (fun o _ => by rw [wf_U hwf, if_pos hr])
theorem zHp_0 {B : zBk} {S : Nat → Int32} {r o : Nat} (h : bU B r o = 0) (x : Nat) : zHp B S r o x = false := by
  rw [zHp_eq, h, show decide (0 < 0) = false from rfl, Bool.and_false, Bool.false_and]
theorem zHp_self (B : zBk) (S : Nat → Int32) (r o : Nat) : zHp B S r o o = false := by
  rw [zHp_eq, decide_eq_false (fun z => z rfl), Bool.false_and, Bool.false_and]
/-- the reference's table of what helps -/
def zHt (B : zBk) (S : Nat → Int32) (r o : Nat) (v : zW) : Prop := ∀ r2 o2, r2 < bR B → o2 < bW B → (r2 < r ∨ (r2 = r ∧ o2 < o)) → gI v 240 (4 * r2 + o2) = Int32.ofNat (zbits (bW B) (zHp B S r2 o2))
theorem q12_misprintsNow {B : zBk} {S : Nat → Int32} {N : zNt} {b nn : Nat} {w : zW} {k : zW → Prop} (h : zInv B S N b nn w)
    (hk : ∀ v : zW, zInv B S N b nn v → zfl w v → zHt B S (bR B) 0 v → k v) : fX12_misprintsNow w k := by
  have hwf := iv_wf h
  have h4 := wf_W hwf
  have h8 := wf_R hwf
  have hL33 : ∀ (g2 : Int32 → zW → Prop) (g12 : Int32 → Int32 → zW → Prop) (r o : Nat), r < bR B → o < bW B → (∀ v : zW, zInv B S N b nn v → zfl w v → zHt B S r (o + 1) v → g12 (Int32.ofNat r) (Int32.ofNat (o + 1)) v) → ∀ (c x : Nat) (v : zW), x + c = bW B → zInv B S N b nn v → zfl w v → zHt B S r o v → gI v 240 (4 * r + o) = Int32.ofNat (zbits x (zHp B S r o)) → fX12_misprintsNow_L33 k g2 g12 (c + 1) (Int32.ofNat r) (Int32.ofNat o) (Int32.ofNat x) v := by
    intro g2 g12 r o hr ho hnext c
    have hdone : ∀ v : zW, zInv B S N b nn v → zfl w v → zHt B S r o v → gI v 240 (4 * r + o) = Int32.ofNat (zbits (bW B) (zHp B S r o)) → g12 (Int32.ofNat r) (Int32.ofNat o + 1) v := fun v vi vf vt vg => by
      rw [zl1, zi_add]
      refine hnext v vi vf (fun r2 o2 b1 b2 b3 => ?_)
      by_cases e : r2 = r ∧ o2 = o
      · rw [e.1, e.2]; exact vg
      · exact vt r2 o2 b1 b2 (by omega)
    induction c with
    | zero =>
      intro x v hx vi vf vt vg
      rw [fX12_misprintsNow_L33]
      try dsimp only
      rw [fX12_wordsTold, show (0 : Int32).toNatClampNeg = 0 from rfl, rb_W (iv_rb vi)]
      refine ⟨fun _ => ?_, fun q => absurd ((zi_le (by omega) (by omega)).mpr (by omega)) q⟩
      rw [show x = bW B by omega] at vg
      exact hdone v vi vf vt vg
    | succ c ih =>
      intro x v hx vi vf vt vg
      rw [fX12_misprintsNow_L33]
      try dsimp only
      rw [fX12_wordsTold, show (0 : Int32).toNatClampNeg = 0 from rfl, rb_W (iv_rb vi), zl4, zi_mul, zi_add, zi_nat (show 4 * r + o < 2 ^ 31 by omega), rb_U (iv_rb vi) (show r < 8 by omega) (show o < 4 by omega)]
      have hu60 := wf_U60 hwf r o
      refine ⟨fun q => absurd ((zi_le (by omega) (by omega)).mp q) (by omega), fun _ => ⟨zi_in (by omega) (by omega), fun q => ?_, fun q => ?_⟩⟩
      · have e0 : bU B r o = 0 := by
          have := (zi_le (b := 0) (by omega) (by decide)).mp q
          omega
        refine hdone v vi vf vt (vg.trans (congrArg _ ?_))
        rw [zbits_zero.mpr (fun i _ => zHp_0 e0 i), zbits_zero.mpr (fun i _ => zHp_0 e0 i)]
      · have hu : 0 < bU B r o := by
          by_cases y : bU B r o = 0
          · exact absurd (by rw [y]; decide) q
          · omega
        have hJ : ∀ (u : zW) (t0 : Int32), zInv B S N b nn u → zfl w u → (∀ j, gI u 240 j = gI v 240 j) → Int32.ofNat (zbits x (zHp B S r o)) ||| t0 = Int32.ofNat (zbits (x + 1) (zHp B S r o)) → fX12_misprintsNow_J87 k g2 g12 (fX12_misprintsNow_L33 k g2 g12 (c + 1)) (Int32.ofNat r) (Int32.ofNat o) (Int32.ofNat x) t0 (gI v 240 (4 * r + o)) (Int32.ofNat (4 * r + o)) u := by
          intro u t0 ui uf ug ht
          rw [fX12_misprintsNow_J87, vg, ht]
          refine ⟨zi_in (by omega) (by omega), ?_⟩
          intro w13 e13
          rw [zi_nat (show 4 * r + o < 2 ^ 31 by omega)] at e13
          rw [zl1, zi_add]
          refine ih (x + 1) w13 (by omega) (zInv_of ui (fun a c' z => by rw [e13]; exact gI_sI_ne (by unfold zkeep at z; omega) _ _ _ _) (by rw [e13]; rfl)) ⟨?_, ?_⟩ (fun r2 o2 b1 b2 b3 => ?_) (by rw [e13, gI_sI_eq])
          · rw [e13, gI_sI_ne (by omega)]; exact uf.1
          · rw [e13]; exact uf.2
          · rw [e13, gI_sI_ne2 (by omega), ug]
            exact vt r2 o2 b1 b2 b3
        refine ⟨fun z => ?_, fun z => ?_⟩
        · have e := (zi_eq (by omega) (by omega)).mp z
          refine hJ v 0 vi vf (fun _ => rfl) ?_
          exact zbits_f (by rw [e]; exact zHp_self B S r o)
        · have hox : ¬ o = x := fun e => z (by rw [e])
          refine q12_fitsWith vi hr hox hu ho (by omega) (fun u u2 uf => ?_)
          intro v15 e15
          refine hJ u v15 (zInv_go vi u2 uf) ⟨(uf 0 140 (by omega) (by omega) (by omega)).trans vf.1, (zr2 u2 24 4).trans vf.2⟩ (fun j => uf 240 j (by omega) (by omega) (by omega)) ?_
          cases hq : zHp B S r o x with
          | true =>
            rw [hq] at e15
            rw [e15.trans (if_neg (show ¬ Int32.ofNat (zb2n true) = 0 by decide)), zi_shl1 (by omega)]
            exact zbits_t (by omega) hq
          | false =>
            rw [hq] at e15
            rw [e15.trans (if_pos (show Int32.ofNat (zb2n false) = 0 by decide))]
            exact zbits_f hq
  have hL12 : ∀ (g2 : Int32 → zW → Prop) (r : Nat), r < bR B → (∀ v : zW, zInv B S N b nn v → zfl w v → zHt B S (r + 1) 0 v → g2 (Int32.ofNat (r + 1)) v) → ∀ (c o : Nat) (v : zW), o + c = bW B → zInv B S N b nn v → zfl w v → zHt B S r o v → fX12_misprintsNow_L12 k g2 (c + 1) (Int32.ofNat r) (Int32.ofNat o) v := by
    intro g2 r hr hnext c
    induction c with
    | zero =>
      intro o v ho vi vf vt
      rw [fX12_misprintsNow_L12]
      try dsimp only
      rw [fX12_wordsTold, show (0 : Int32).toNatClampNeg = 0 from rfl, rb_W (iv_rb vi)]
      refine ⟨fun _ => ?_, fun q => absurd ((zi_le (by omega) (by omega)).mpr (by omega)) q⟩
      rw [zl1, zi_add]
      exact hnext v vi vf (fun r2 o2 b1 b2 b3 => vt r2 o2 b1 b2 (by omega))
    | succ c ih =>
      intro o v ho vi vf vt
      rw [fX12_misprintsNow_L12]
      try dsimp only
      rw [fX12_wordsTold, show (0 : Int32).toNatClampNeg = 0 from rfl, rb_W (iv_rb vi), zl4, zi_mul, zi_add, zi_nat (show 4 * r + o < 2 ^ 31 by omega)]
      refine ⟨fun q => absurd ((zi_le (by omega) (by omega)).mp q) (by omega), fun _ => ⟨zi_in (by omega) (by omega), ?_⟩⟩
      intro w6 e6
      refine ⟨bW B + 1, hL33 g2 _ r o hr (by omega) (fun v' vi' vf' vt' => ih (o + 1) v' (by omega) vi' vf' vt') (bW B) 0 w6 (by omega) (zInv_of vi (fun a c' z => by rw [e6]; exact gI_sI_ne (by unfold zkeep at z; omega) _ _ _ _) (by rw [e6]; rfl)) ⟨?_, ?_⟩ (fun r2 o2 b1 b2 b3 => ?_) (by rw [e6, gI_sI_eq]; rfl)⟩
      · rw [e6, gI_sI_ne (by omega)]; exact vf.1
      · rw [e6]; exact vf.2
      · rw [e6, gI_sI_ne2 (by omega)]
        exact vt r2 o2 b1 b2 b3
  have hL2 : ∀ (c r : Nat) (v : zW), r + c = bR B → zInv B S N b nn v → zfl w v → zHt B S r 0 v → fX12_misprintsNow_L2 k (c + 1) (Int32.ofNat r) v := by
    intro c
    induction c with
    | zero =>
      intro r v hr vi vf vt
      rw [fX12_misprintsNow_L2]
      try dsimp only
      rw [fX12_rows, show (2 : Int32).toNatClampNeg = 2 from rfl, rb_R (iv_rb vi)]
      refine ⟨fun _ => ?_, fun q => absurd ((zi_le (by omega) (by omega)).mpr (by omega)) q⟩
      rw [show r = bR B by omega] at vt
      exact hk v vi vf vt
    | succ c ih =>
      intro r v hr vi vf vt
      rw [fX12_misprintsNow_L2]
      try dsimp only
      rw [fX12_rows, show (2 : Int32).toNatClampNeg = 2 from rfl, rb_R (iv_rb vi)]
      refine ⟨fun q => absurd ((zi_le (by omega) (by omega)).mp q) (by omega), fun _ => ?_⟩
      exact ⟨bW B + 1, hL12 _ r (by omega) (fun v' vi' vf' vt' => ih (r + 1) v' (by omega) vi' vf' vt') (bW B) 0 v (by omega) vi vf vt⟩
  rw [fX12_misprintsNow]
  exact ⟨bR B + 1, hL2 (bR B) 0 w (by omega) h ⟨rfl, rfl⟩ (fun r2 o2 b1 b2 b3 => by omega)⟩

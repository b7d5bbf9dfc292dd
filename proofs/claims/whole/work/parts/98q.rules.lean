/-! Level 2: the reference reads rules -/
def zRS (sg : Nat → Nat) (n m : Nat) (s : zSu) (v : zW) : Prop := zRtk sg n m s.1 v ∧ gI v 200 13 = Int32.ofNat s.2.1 ∧ ∀ i, i < s.2.1 → gI v 212 (1100 + i) = Int32.ofNat (s.2.2 i)
/-- what its reading of rules changes -/
def zfQ (w v : zW) : Prop := (∀ a c, ¬ (a = 200 ∧ (c = 7 ∨ c = 8 ∨ c = 13)) → ¬ (a = 212 ∧ 1100 ≤ c) → gI v a c = gI w a c) ∧ v.2 = w.2
theorem zfQ_refl (w : zW) : zfQ w w := ⟨fun _ _ _ _ => rfl, rfl⟩
theorem zfQ_trans {u v w : zW} (h : zfQ u v) (h2 : zfQ v w) : zfQ u w := ⟨fun a c q1 q2 => (h2.1 a c q1 q2).trans (h.1 a c q1 q2), h2.2.trans h.2⟩
theorem zfQ_s (w : zW) {c : Nat} (x : Int32) (h : c = 7 ∨ c = 8 ∨ c = 13) : zfQ w (sI w 200 c x) := ⟨fun a d q1 _ => by rw [gI_sI, if_neg (by omega)], rfl⟩
theorem zfQ_e (w : zW) (c : Nat) (x : Int32) : zfQ w (sI w 212 (1100 + c) x) := ⟨fun a d _ q2 => by rw [gI_sI, if_neg (by omega)], rfl⟩
/-- not too many codes -/
def zRc (m : Nat) (s : zSu) (v : zW) : Prop := ∃ c, c + s.1 ≤ s.2.1 + m ∧ gI v 200 13 = Int32.ofNat c
theorem q12_emit {c : Nat} {x1 x2 : Int32} {w : zW} {k : zW → Prop} (hn : gI w 200 13 = Int32.ofNat c) (hc : c < 1100) (hk : ∀ v : zW, v = sI (sI w 212 (1100 + c) (x1 + 16 * x2)) 200 13 (Int32.ofNat (c + 1)) → k v) : fX12_emit x1 x2 w k := by
  rw [fX12_emit, hn, zl1100, zi_add, zi_nat (show 1100 + c < 2 ^ 31 by omega)]
  refine ⟨zi_in (by omega) (by omega), ?_⟩
  intro w2 e2 w3 e3
  rw [e2, gI_sI_ne (by decide), hn, zl1, zi_add] at e3
  exact hk w3 e3
theorem zRS_emit {sg : Nat → Nat} {n m : Nat} {s : zSu} {w : zW} (h : zRS sg n m s w) (x : Nat) : zRS sg n m (zemit s x) (sI (sI w 212 (1100 + s.2.1) (Int32.ofNat x)) 200 13 (Int32.ofNat (s.2.1 + 1))) := by
  refine ⟨zRt_K h.1 (zfK_trans (zfK_sI _ _ _ (by decide)) (zfK_sI _ _ _ (by decide))) h.1.2.2.1 ?_ ?_, gI_sI_eq _ _ _ _, fun i hi => ?_⟩
  · rw [gI_sI_ne2 (by decide), gI_sI_ne (by decide)]; exact h.1.2.2.2.1
  · rw [gI_sI_ne2 (by decide), gI_sI_ne (by decide)]; exact h.1.2.2.2.2
  · have hi' : i < s.2.1 + 1 := hi
    rw [gI_sI_ne (by decide)]
    show _ = Int32.ofNat (if i = s.2.1 then x else s.2.2 i)
    by_cases e : i = s.2.1
    · rw [if_pos e, e, gI_sI_eq]
    · rw [if_neg e, gI_sI_ne2 (by omega)]
      exact h.2.2 i (by omega)
theorem zRS_nx {sg : Nat → Nat} {n m : Nat} {s : zSu} {w : zW} (h : zRS sg n m s w) (hj : s.1 < m) : zRS sg n m (znx s) (sI w 200 7 (Int32.ofNat (s.1 + 1))) :=
  ⟨zRt_7 h.1 hj, by rw [gI_sI_ne2 (by decide)]; exact h.2.1, fun i hi => by rw [gI_sI_ne (by decide)]; exact h.2.2 i hi⟩
theorem zfQ_em (w : zW) (c : Nat) (x y : Int32) : zfQ w (sI (sI w 212 (1100 + c) x) 200 13 y) := zfQ_trans (zfQ_e _ _ _) (zfQ_s _ _ (by omega))
def zRsub (sg : Nat → Nat) (n m : Nat) (F : zW → (zW → Prop) → Prop) (P : zSu → Nat × zSu) : Prop :=
  ∀ (s : zSu) (w : zW) (k : zW → Prop), s.2.1 < s.1 → s.1 ≤ m → zRS sg n m s w → (∀ v, zfQ w v → (P s).1 = 0 → zRS sg n m (P s).2 v → k v) → (∀ v, zfQ w v → ¬ (P s).1 = 0 → zRf (P s).1 v → zRc m s v → k v) → F w k
/-- with a fault nothing is done -/
def zRflt (F : zW → (zW → Prop) → Prop) : Prop := ∀ (e : Nat) (w : zW) (k : zW → Prop), zRf e w → k w → F w k
theorem q12_loop {sg : Nat → Nat} {n m H : Nat} {rp : zW → (zW → Prop) → Prop} {P : zSu → Nat × zSu} {op : Nat → Nat} {C : Nat → Nat → Prop} {F : Nat} {Lp : Nat → zW → Prop} {k : zW → Prop} {w : zW} {s0 : zSu} {R : Nat × zSu} (hm : zTm (zTT sg n) m) (hP : zOK (zTT sg n) m H P) (hS : zRsub sg n m rp P)
    (hop : ∀ j, j ≤ m → ¬ op j = 0 → j < m ∧ 4 ≤ op j ∧ op j ≤ 10) (hC : ∀ f j j', C (f + 1) j → j < j' → C f j')
    (h0 : ∀ v s, zRS sg n m s v → C 0 s.1 → k v → Lp 1 v)
    (hA : ∀ f v s, zRS sg n m s v → op s.1 = 0 → k v → Lp (f + 1) v)
    (hF : ∀ e f v, zRf e v → k v → Lp (f + 1) v)
    (hB : ∀ f v s, f < F → zRS sg n m s v → ¬ op s.1 = 0 → (∀ K : zW → Prop, (∀ v3, fX12_emit (Int32.ofNat (op s.1)) 0 v3 (fun v4 => Lp (f + 1) v4) → K v3) → rp (sI v 200 7 (Int32.ofNat (s.1 + 1))) K) → Lp (f + 1 + 1) v)
    (hok : ∀ v, zfQ w v → R.1 = 0 → zRS sg n m R.2 v → k v) (herr : ∀ v, zfQ w v → ¬ R.1 = 0 → zRf R.1 v → zRc m s0 v → k v) :
    ∀ (f : Nat) (s : zSu) (v : zW), f ≤ F → C f s.1 → s.2.1 < s.1 → s.1 ≤ m → s.2.1 + s0.1 ≤ s0.2.1 + s.1 → s0.2.1 < s0.1 → zfQ w v → zRS sg n m s v → zCh P op f s = R → Lp (f + 1) v := by
  have hm1 := hm.1
  intro f
  induction f with
  | zero =>
    intro s v hf hc hn hj hd h0n fv hv hR
    rw [zCh] at hR
    subst hR
    exact h0 v s hv hc (hok v fv rfl hv)
  | succ f ih =>
    intro s v hf hc hn hj hd h0n fv hv hR
    by_cases e : op s.1 = 0
    · rw [zCh_0 _ e] at hR
      subst hR
      exact hA _ v s hv e (hok v fv rfl hv)
    · obtain ⟨o1, o2, o3⟩ := hop _ hj e
      refine hB f v s (by omega) hv e (fun K hK => ?_)
      have hv2 := zRS_nx hv o1
      have fv2 : zfQ w (sI v 200 7 (Int32.ofNat (s.1 + 1))) := zfQ_trans fv (zfQ_s _ _ (by omega))
      refine hS (znx s) _ K (show s.2.1 < s.1 + 1 by omega) o1 hv2 (fun v3 f3 e3 hv3 => hK v3 ?_) (fun v3 f3 e3 h3 c3 => hK v3 ?_)
      · obtain ⟨b1, b2, b3, b4, -⟩ := (hP (znx s) o1).1 e3
        have b1' : s.1 + 1 < (P (znx s)).2.1 := b1
        have b4' : (P (znx s)).2.2.1 + (s.1 + 1) ≤ s.2.1 + (P (znx s)).2.1 := b4
        rw [zCh_s _ e e3] at hR
        refine q12_emit hv3.2.1 (by omega) (fun v4 e4 => ?_)
        rw [zl0, zl16, zi_mul, zi_add, Nat.mul_zero, Nat.add_zero] at e4
        refine ih (zemit (P (znx s)).2 (op s.1)) v4 (by omega) (hC f s.1 _ hc (by show s.1 < (P (znx s)).2.1; omega)) (show (P (znx s)).2.2.1 + 1 < (P (znx s)).2.1 by omega) b2 (show (P (znx s)).2.2.1 + 1 + s0.1 ≤ s0.2.1 + (P (znx s)).2.1 by omega) h0n ?_ ?_ hR
        · rw [e4]; exact zfQ_trans (zfQ_trans fv2 f3) (zfQ_em _ _ _ _)
        · rw [e4]; exact zRS_emit hv3 _
      · rw [zCh_e _ e e3] at hR
        subst hR
        obtain ⟨c, c1, c2⟩ := c3
        have c1' : c + (s.1 + 1) ≤ s.2.1 + m := c1
        refine q12_emit c2 (by omega) (fun v4 e4 => ?_)
        have f4 : zRf (P (znx s)).1 v4 := rf_of h3 (by rw [e4, gI_sI_ne2 (by decide), gI_sI_ne (by decide)])
        refine hF _ f v4 f4 (herr v4 ?_ e3 f4 ⟨c + 1, by omega, by rw [e4, gI_sI_eq]⟩)
        rw [e4]; exact zfQ_trans (zfQ_trans fv2 f3) (zfQ_em _ _ _ _)
theorem q12_chain {sg : Nat → Nat} {n m H F : Nat} {rp F' : zW → (zW → Prop) → Prop} {P : zSu → Nat × zSu} {op : Nat → Nat} {C : Nat → Nat → Prop} {Lp : (zW → Prop) → Nat → zW → Prop} (hm : zTm (zTT sg n) m) (hP : zOK (zTT sg n) m H P) (hS : zRsub sg n m rp P)
    (hop : ∀ j, j ≤ m → ¬ op j = 0 → j < m ∧ 4 ≤ op j ∧ op j ≤ 10) (hC : ∀ f j j', C (f + 1) j → j < j' → C f j') (hC0 : ∀ j, C F j)
    (h0 : ∀ k v s, zRS sg n m s v → C 0 s.1 → k v → Lp k 1 v)
    (hA : ∀ k f v s, zRS sg n m s v → op s.1 = 0 → k v → Lp k (f + 1) v)
    (hF : ∀ k e f v, zRf e v → k v → Lp k (f + 1) v)
    (hB : ∀ k f v s, f < F → zRS sg n m s v → ¬ op s.1 = 0 → (∀ K : zW → Prop, (∀ v3, fX12_emit (Int32.ofNat (op s.1)) 0 v3 (fun v4 => Lp k (f + 1) v4) → K v3) → rp (sI v 200 7 (Int32.ofNat (s.1 + 1))) K) → Lp k (f + 1 + 1) v)
    (hG : ∀ w k, (∀ K : zW → Prop, (∀ v, Lp k (F + 1) v → K v) → rp w K) → F' w k) : zRsub sg n m F' (zThen F P op) := by
  intro s w k hn hj hw hok herr
  refine hG w k (fun K hK => hS s w K hn hj hw (fun v fv e0 hv => hK v ?_) (fun v fv e0 h3 c3 => hK v ?_))
  · obtain ⟨b1, b2, b3, b4, -⟩ := (hP s hj).1 e0
    exact q12_loop (s0 := s) hm hP hS hop hC (h0 k) (hA k) (hF k) (hB k) hok herr F _ v (Nat.le_refl _) (hC0 _) (by omega) b2 b4 hn fv hv (zThen_0 e0).symm
  · refine hF k _ F v h3 (herr v fv ?_ ?_ c3)
    · rw [zThen_e e0]; exact e0
    · rw [zThen_e e0]; exact h3
theorem zCle {m : Nat} (f j j' : Nat) (h : m ≤ j + (f + 1)) (q : j < j') : m ≤ j' + f := by omega
theorem q12_products {sg : Nat → Nat} {n m H : Nat} {rp : Int32 → zW → (zW → Prop) → Prop} {P : zSu → Nat × zSu} {x : Int32} (hsg : zSg sg n) (hm : zTm (zTT sg n) m) (hP : zOK (zTT sg n) m H P) (hS : zRsub sg n m (rp x) P) : zRsub sg n m (fX12_products rp x) (zThen 1000 P (zOpMul (zTT sg n))) := by
  have hm1 := hm.1
  have hA : ∀ (k : zW → Prop) (f : Nat) (v : zW) (s : zSu), zRS sg n m s v → zOpMul (zTT sg n) s.1 = 0 → k v → fX12_products_L5 rp k (f + 1) x v := fun k f v s hv e hk => by
    rw [fX12_products_L5]
    refine q12_hasSign (c := 42) hsg hv.1 (by decide) (fun q => ?_) (fun _ => ⟨fun _ => hk, fun q => absurd rfl q⟩)
    rw [zOpMul, if_pos q] at e; exact absurd e (by decide)
  refine q12_chain (C := fun f j => m ≤ j + f) (Lp := fun k f v => fX12_products_L5 rp k f x v) hm hP hS (zop_mul hm) zCle (fun j => by omega) (fun k v s hv hc hk => ?_) hA (fun k e f v h hk => ?_) (fun k f v s hf hv e hk => ?_) (fun w k hk => ?_)
  · refine hA k 0 v s hv ?_ hk
    by_cases e : zOpMul (zTT sg n) s.1 = 0
    · exact e
    · have := (zop_mul hm s.1 hv.1.2.2.1 e).1; omega
  · rw [fX12_products_L5]
    exact q12_hasSignF h ⟨fun _ => hk, fun q => absurd rfl q⟩
  · rw [fX12_products_L5]
    refine q12_hasSign (c := 42) hsg hv.1 (by decide) (fun q => ⟨fun y => absurd y (by decide), fun _ => ?_⟩) (fun q => ?_)
    · rw [zOpMul, if_pos q] at hk
      exact hk _ (fun v3 h => h)
    · rw [zOpMul, if_neg q] at e; exact absurd rfl e
  · rw [fX12_products]
    exact hk _ (fun v h => ⟨1000 + 1, h⟩)
theorem q12_productsF {rp : Int32 → zW → (zW → Prop) → Prop} {x : Int32} (h : zRflt (rp x)) : zRflt (fX12_products rp x) := by
  intro e w k hw hk
  rw [fX12_products]
  refine h e w _ hw ⟨1, ?_⟩
  rw [fX12_products_L5]
  exact q12_hasSignF hw ⟨fun _ => hk, fun q => absurd rfl q⟩
theorem q12_sums {sg : Nat → Nat} {n m H : Nat} {rp : Int32 → zW → (zW → Prop) → Prop} {P : zSu → Nat × zSu} {x : Int32} (hsg : zSg sg n) (hm : zTm (zTT sg n) m) (hP : zOK (zTT sg n) m H P) (hS : zRsub sg n m (rp x) P) : zRsub sg n m (fX12_sums rp x) (zThen 1000 P (zOpSum (zTT sg n))) := by
  have hm1 := hm.1
  have hA : ∀ (k : zW → Prop) (f : Nat) (v : zW) (s : zSu), zRS sg n m s v → zOpSum (zTT sg n) s.1 = 0 → k v → fX12_sums_L5 rp k (f + 1) x v := fun k f v s hv e hk => by
    rw [fX12_sums_L5]
    refine q12_sn (c := 43) hsg hv.1 (by decide) (fun q => ?_) (fun q => ⟨fun y => absurd rfl y, fun _ => q12_sn (c := 45) hsg hv.1 (by decide) (fun q2 => ?_) (fun _ => ⟨fun _ => hk, fun y => absurd rfl y⟩)⟩)
    · rw [zOpSum, if_pos q] at e; exact absurd e (by decide)
    · rw [zOpSum, if_neg q, if_pos q2] at e; exact absurd e (by decide)
  refine q12_chain (C := fun f j => m ≤ j + f) (Lp := fun k f v => fX12_sums_L5 rp k f x v) hm hP hS (zop_sum hm) zCle (fun j => by omega) (fun k v s hv hc hk => ?_) hA (fun k e f v h hk => ?_) (fun k f v s hf hv e hk => ?_) (fun w k hk => ?_)
  · refine hA k 0 v s hv ?_ hk
    by_cases e : zOpSum (zTT sg n) s.1 = 0
    · exact e
    · have := (zop_sum hm s.1 hv.1.2.2.1 e).1; omega
  · rw [fX12_sums_L5]
    exact q12_isSignF h ⟨fun q => absurd rfl q, fun _ => q12_isSignF h ⟨fun _ => hk, fun q => absurd rfl q⟩⟩
  · have hJ : fX12_sums_J23 rp k (fX12_sums_L5 rp k (f + 1)) x v := by
      rw [fX12_sums_J23]
      refine q12_sn (c := 43) hsg hv.1 (by decide) (fun q => ?_) (fun q => ?_)
      · intro w5 e5
        rw [hv.1.2.2.2.2, zl1, zi_add] at e5
        rw [e5]
        refine hk _ (fun v3 h => ?_)
        intro v7 e7
        rw [fX12_sums_J55, e7.trans (if_neg (by decide))]
        rw [zOpSum, if_pos q] at h
        exact h
      · intro w5 e5
        rw [hv.1.2.2.2.2, zl1, zi_add] at e5
        rw [e5]
        refine hk _ (fun v3 h => ?_)
        intro v7 e7
        rw [fX12_sums_J55, e7.trans (if_pos rfl)]
        by_cases q2 : zSn (zTT sg n) 45 s.1 = true
        · rw [zOpSum, if_neg q, if_pos q2] at h
          exact h
        · rw [zOpSum, if_neg q, if_neg q2] at e; exact absurd rfl e
    rw [fX12_sums_L5]
    refine q12_sn (c := 43) hsg hv.1 (by decide) (fun q => ⟨fun _ => hJ, fun y => absurd y (by decide)⟩) (fun q => ⟨fun y => absurd rfl y, fun _ => q12_sn (c := 45) hsg hv.1 (by decide) (fun q2 => ⟨fun y => absurd y (by decide), fun _ => hJ⟩) (fun q2 => ?_)⟩)
    rw [zOpSum, if_neg q, if_neg q2] at e; exact absurd rfl e
  · rw [fX12_sums]
    exact hk _ (fun v h => ⟨1000 + 1, h⟩)
theorem q12_sumsF {rp : Int32 → zW → (zW → Prop) → Prop} {x : Int32} (h : zRflt (rp x)) : zRflt (fX12_sums rp x) := by
  intro e w k hw hk
  rw [fX12_sums]
  refine h e w _ hw ⟨1, ?_⟩
  rw [fX12_sums_L5]
  exact q12_isSignF hw ⟨fun q => absurd rfl q, fun _ => q12_isSignF hw ⟨fun _ => hk, fun q => absurd rfl q⟩⟩
def zTrr (rp : Int32 → zW → (zW → Prop) → Prop) (x : Int32) (k : zW → Prop) (v : zW) : Prop :=
  fX12_isSign (60 : Int32) v (fun r2 w2 => fX12_hasSign (60 : Int32) w2 (fun r3 w3 => ((¬ r3 = 0 → fX12_test_J30 rp k x r2 w3) ∧ (r3 = 0 → fX12_hasSign (61 : Int32) w3 (fun r8 w8 => ((r8 = 0 → k w8) ∧ (¬ r8 = 0 → fX12_test_J30 rp k x r2 w8)))))))
def zTrL (rp : Int32 → zW → (zW → Prop) → Prop) (x : Int32) (k : zW → Prop) (f : Nat) (v : zW) : Prop := if f = 1 then k v else zTrr rp x k v
theorem q12_test {sg : Nat → Nat} {n m H : Nat} {rp : Int32 → zW → (zW → Prop) → Prop} {P : zSu → Nat × zSu} {x : Int32} (hsg : zSg sg n) (hm : zTm (zTT sg n) m) (hP : zOK (zTT sg n) m H P) (hS : zRsub sg n m (rp x) P) : zRsub sg n m (fX12_test rp x) (zThen 1 P (zOpTst (zTT sg n))) := by
  refine q12_chain (C := fun _ _ => True) (Lp := fun k f v => zTrL rp x k f v) hm hP hS (zop_tst hm) (fun _ _ _ _ _ => trivial) (fun j => trivial) (fun k v s hv hc hk => ?_) (fun k f v s hv e hk => ?_) (fun k e f v h hk => ?_) (fun k f v s hf hv e hk => ?_) (fun w k hk => ?_)
  · show zTrL rp x k 1 v
    rw [zTrL, if_pos rfl]; exact hk
  · show zTrL rp x k (f + 1) v
    by_cases f1 : f + 1 = 1
    · rw [zTrL, if_pos f1]; exact hk
    · rw [zTrL, if_neg f1, zTrr]
      refine q12_sn (c := 60) hsg hv.1 (by decide) (fun q => ?_) (fun q => ?_)
      · rw [zOpTst, if_pos q] at e; exact absurd e (by decide)
      · refine q12_hasSign (c := 60) hsg hv.1 (by decide) (fun q2 => absurd q2 q) (fun _ => ⟨fun y => absurd rfl y, fun _ => q12_hasSign (c := 61) hsg hv.1 (by decide) (fun q2 => ?_) (fun _ => ⟨fun _ => hk, fun y => absurd rfl y⟩)⟩)
        rw [zOpTst, if_neg q, if_pos q2] at e; exact absurd e (by decide)
  · show zTrL rp x k (f + 1) v
    by_cases f1 : f + 1 = 1
    · rw [zTrL, if_pos f1]; exact hk
    · rw [zTrL, if_neg f1, zTrr]
      exact q12_isSignF h (q12_hasSignF h ⟨fun y => absurd rfl y, fun _ => q12_hasSignF h ⟨fun _ => hk, fun y => absurd rfl y⟩⟩)
  · have f0 : f = 0 := by omega
    subst f0
    show zTrL rp x k 2 v
    rw [zTrL, if_neg (by decide), zTrr]
    refine q12_sn (c := 60) hsg hv.1 (by decide) (fun q => ?_) (fun q => ?_)
    · refine q12_hasSign (c := 60) hsg hv.1 (by decide) (fun _ => ⟨fun _ => ?_, fun y => absurd y (by decide)⟩) (fun q2 => absurd q q2)
      rw [fX12_test_J30]
      refine hk _ (fun v3 h => ?_)
      intro v6 e6
      rw [fX12_test_J47, e6.trans (if_neg (by decide))]
      rw [zOpTst, if_pos q] at h
      exact h
    · refine q12_hasSign (c := 60) hsg hv.1 (by decide) (fun q2 => absurd q2 q) (fun _ => ⟨fun y => absurd rfl y, fun _ => q12_hasSign (c := 61) hsg hv.1 (by decide) (fun q2 => ⟨fun y => absurd y (by decide), fun _ => ?_⟩) (fun q2 => ?_)⟩)
      · rw [fX12_test_J30]
        refine hk _ (fun v3 h => ?_)
        intro v6 e6
        rw [fX12_test_J47, e6.trans (if_pos rfl)]
        rw [zOpTst, if_neg q, if_pos q2] at h
        exact h
      · rw [zOpTst, if_neg q, if_neg q2] at e; exact absurd rfl e
  · rw [fX12_test]
    refine hk _ (fun v h => ?_)
    have h' : zTrL rp x k 2 v := h
    rw [zTrL, if_neg (by decide)] at h'
    exact h'
theorem q12_testF {rp : Int32 → zW → (zW → Prop) → Prop} {x : Int32} (h : zRflt (rp x)) : zRflt (fX12_test rp x) := by
  intro e w k hw hk
  rw [fX12_test]
  exact h e w _ hw (q12_isSignF hw (q12_hasSignF hw ⟨fun y => absurd rfl y, fun _ => q12_hasSignF hw ⟨fun _ => hk, fun y => absurd rfl y⟩⟩))
theorem q12_wholeS {sg : Nat → Nat} {n m H : Nat} {rp : Int32 → zW → (zW → Prop) → Prop} {P : zSu → Nat × zSu} {x : Int32} (hm : zTm (zTT sg n) m) (hP : zOK (zTT sg n) m H P) (hS : zRsub sg n m (rp x) P) : zRsub sg n m (fX12_whole rp x) (zThen 1000 P (zOpAll (zTT sg n))) := by
  have hm1 := hm.1
  have hA : ∀ (k : zW → Prop) (f : Nat) (v : zW) (s : zSu), zRS sg n m s v → zOpAll (zTT sg n) s.1 = 0 → k v → fX12_whole_L5 rp k (f + 1) x v := fun k f v s hv e hk => by
    rw [fX12_whole_L5]
    refine q12_isWord (i := 15) hv.1 (by decide) (fun q => ?_) (fun q => ⟨fun y => absurd rfl y, fun _ => q12_isWord (i := 16) hv.1 (by decide) (fun q2 => ?_) (fun _ => ⟨fun _ => hk, fun y => absurd rfl y⟩)⟩)
    · rw [zOpAll, if_pos q] at e; exact absurd e (by decide)
    · rw [zOpAll, if_neg q, if_pos q2] at e; exact absurd e (by decide)
  refine q12_chain (C := fun f j => m ≤ j + f) (Lp := fun k f v => fX12_whole_L5 rp k f x v) hm hP hS (zop_all hm) zCle (fun j => by omega) (fun k v s hv hc hk => ?_) hA (fun k e f v h hk => ?_) (fun k f v s hf hv e hk => ?_) (fun w k hk => ?_)
  · refine hA k 0 v s hv ?_ hk
    by_cases e : zOpAll (zTT sg n) s.1 = 0
    · exact e
    · have := (zop_all hm s.1 hv.1.2.2.1 e).1; omega
  · rw [fX12_whole_L5]
    exact q12_isWordF h ⟨fun q => absurd rfl q, fun _ => q12_isWordF h ⟨fun _ => hk, fun q => absurd rfl q⟩⟩
  · have hJ : fX12_whole_J23 rp k (fX12_whole_L5 rp k (f + 1)) x v := by
      rw [fX12_whole_J23]
      refine q12_isWord (i := 15) hv.1 (by decide) (fun q => ?_) (fun q => ?_)
      · intro w5 e5
        rw [hv.1.2.2.2.2, zl1, zi_add] at e5
        rw [e5]
        refine hk _ (fun v3 h => ?_)
        intro v7 e7
        rw [fX12_whole_J57, e7.trans (if_neg (by decide))]
        rw [zOpAll, if_pos q] at h
        exact h
      · intro w5 e5
        rw [hv.1.2.2.2.2, zl1, zi_add] at e5
        rw [e5]
        refine hk _ (fun v3 h => ?_)
        intro v7 e7
        rw [fX12_whole_J57, e7.trans (if_pos rfl)]
        by_cases q2 : (zTT sg n).ky s.1 = 16
        · rw [zOpAll, if_neg q, if_pos q2] at h
          exact h
        · rw [zOpAll, if_neg q, if_neg q2] at e; exact absurd rfl e
    rw [fX12_whole_L5]
    refine q12_isWord (i := 15) hv.1 (by decide) (fun q => ⟨fun _ => hJ, fun y => absurd y (by decide)⟩) (fun q => ⟨fun y => absurd rfl y, fun _ => q12_isWord (i := 16) hv.1 (by decide) (fun q2 => ⟨fun y => absurd y (by decide), fun _ => hJ⟩) (fun q2 => ?_)⟩)
    rw [zOpAll, if_neg q, if_neg q2] at e; exact absurd rfl e
  · rw [fX12_whole]
    exact hk _ (fun v h => ⟨1000 + 1, h⟩)
theorem q12_wholeF {rp : Int32 → zW → (zW → Prop) → Prop} {x : Int32} (h : zRflt (rp x)) : zRflt (fX12_whole rp x) := by
  intro e w k hw hk
  rw [fX12_whole]
  refine h e w _ hw ⟨1, ?_⟩
  rw [fX12_whole_L5]
  exact q12_isWordF hw ⟨fun q => absurd rfl q, fun _ => q12_isWordF hw ⟨fun _ => hk, fun q => absurd rfl q⟩⟩
theorem q12_allS {sg : Nat → Nat} {n m H : Nat} {rp : Int32 → zW → (zW → Prop) → Prop} {P : zSu → Nat × zSu} {x : Int32} (hsg : zSg sg n) (hm : zTm (zTT sg n) m) (hP : zOK (zTT sg n) m H P) (hS : zRsub sg n m (rp x) P) : zRsub sg n m (fX12_whole (fX12_test (fX12_sums (fX12_products rp))) x) (zAll (zTT sg n) P) := by
  have h1 := q12_products hsg hm hP hS
  have o1 := zOK_then (F := 1000) hP (zop_mul hm)
  have h2 := q12_sums hsg hm o1 h1
  have o2 := zOK_then (F := 1000) o1 (zop_sum hm)
  have h3 := q12_test hsg hm o2 h2
  have o3 := zOK_then (F := 1) o2 (zop_tst hm)
  exact q12_wholeS hm o3 h3
theorem q12_takePartF (N : Nat) (x : Int32) : zRflt (fX12_takePartN (N + 1) x) := by
  intro e w k hw hk
  rw [fX12_takePartN]
  try dsimp only
  rw [fX12_takePart]
  exact ⟨fun q => absurd q (rf_le hw), fun _ => hk⟩
theorem q12_first {sg : Nat → Nat} {n m j : Nat} {tp wh : Int32 → zW → (zW → Prop) → Prop} {x1 : Int32} {w : zW} {k : zW → Prop} (hsg : zSg sg n) (h : zRtk sg n m j w)
    (hA : ∀ t r : Int32, zFst (zTT sg n) j = true → t = (if (zTT sg n).kd j = 2 then 1 else 0) → r = zWh (zTT sg n) 17 4 j → fX12_takePart_J69 tp wh k x1 t r w)
    (hB : ∀ t r : Int32, ¬ zFst (zTT sg n) j = true → fX12_takePart_J79 tp wh k x1 t r (sI w 200 8 (Int32.ofNat (1 + 16 * (zTT sg n).pl j)))) : fX12_takePart tp wh x1 w k := by
  have h4 := zTT_kd4 sg n j
  rw [fX12_takePart]
  refine ⟨fun _ => ⟨(rt_in h).1, ?_⟩, fun q => absurd (rt_ne h) q⟩
  intro v3 e3
  rw [(rt_in h).2, rt_kd h] at e3
  have e3' : v3 = if (zTT sg n).kd j = 2 then 1 else 0 := by
    by_cases y : (zTT sg n).kd j = 2
    · rw [if_pos y, e3.trans (if_neg (fun z => z (by rw [y]; rfl)))]
    · rw [if_neg y, e3.trans (if_pos (fun z => y ((zi_eq (b := 2) (by omega) (by decide)).mp z)))]
  rw [fX12_takePart_J26]
  refine q12_wordHere (a := 17) (N := 4) h (by decide) ?_
  refine ⟨fun q => hA _ _ ?_ e3' rfl, fun q => ⟨fun q2 => hA _ _ ?_ e3' rfl, fun q2 => q12_sn (c := 40) hsg h (by decide) (fun q3 => ⟨fun _ => hA _ _ ?_ e3' rfl, fun y => absurd y (by decide)⟩) (fun q3 => ⟨fun y => absurd rfl y, fun _ => q12_isWord (i := 14) h (by decide) (fun q4 => ⟨fun _ => hA _ _ ?_ e3' rfl, fun y => absurd y (by decide)⟩) (fun q4 => ⟨fun y => absurd rfl y, fun _ => q12_wrong (x := 1) h (hB _ _ (fun y => ?_))⟩)⟩)⟩⟩
  · have y : 17 ≤ (zTT sg n).ky j ∧ (zTT sg n).ky j < 17 + 4 := by
      by_cases y : 17 ≤ (zTT sg n).ky j ∧ (zTT sg n).ky j < 17 + 4
      · exact y
      · rw [zWh_neg y] at q; exact absurd q (by decide)
    rw [zFst, decide_eq_true (Or.inr (Or.inl ⟨y.1, by omega⟩))]; rfl
  · have y : (zTT sg n).kd j = 2 := by
      by_cases y : (zTT sg n).kd j = 2
      · exact y
      · rw [e3', if_neg y] at q2; exact absurd rfl q2
    rw [zFst, decide_eq_true (Or.inl y)]; rfl
  · rw [zFst, q3, Bool.or_true]
  · rw [zFst, decide_eq_true (Or.inr (Or.inr q4))]; rfl
  · rw [zFst, Bool.or_eq_true] at y
    rcases y with y | y
    · rcases of_decide_eq_true y with z | z | z
      · rw [e3', if_pos z] at q2; exact absurd q2 (by decide)
      · rw [zWh_pos (by omega)] at q
        exact q ((zi_le (a := 0) (by decide) (by omega)).mpr (Nat.zero_le _))
      · exact q4 z
    · exact q3 y
theorem q12_part {sg : Nat → Nat} {n m : Nat} (hsg : zSg sg n) (hm : zTm (zTT sg n) m) : ∀ (d N : Nat), d < N → d ≤ 5 → zRsub sg n m (fX12_takePartN N (Int32.ofNat (5 - d))) (zPt (zTT sg n) d) := by
  have hm1 := hm.1
  have hn1 := hsg.1
  intro d
  induction d with
  | zero =>
    intro N hN hd s w k hn hj hw hok herr
    obtain ⟨N', rfl⟩ : ∃ N', N = N' + 1 := ⟨N - 1, by omega⟩
    have h4 := zTT_kd4 sg n s.1
    rw [fX12_takePartN]
    refine q12_first hsg hw.1 (fun t r y ht hr => ?_) (fun t r y => ?_)
    · have e : zPt (zTT sg n) 0 s = (5 + 16 * (zTT sg n).pl s.1, s) := by rw [zPt, if_pos y]
      rw [e] at herr
      rw [fX12_takePart_J69]
      refine ⟨fun q => absurd rfl q, fun _ => q12_wrong (x := 5) hw.1 ?_⟩
      have hf := rf_wrong (sg := sg) (n := n) (x := 5) (j := s.1) w hn1 (by omega)
      rw [fX12_takePart_J79]
      refine ⟨fun q => absurd q (rf_le hf), fun _ => herr _ (zfQ_s _ _ (by omega)) (fun q => by have q' : 5 + 16 * (zTT sg n).pl s.1 = 0 := q; omega) hf ⟨s.2.1, by omega, ?_⟩⟩
      rw [gI_sI_ne2 (by decide)]; exact hw.2.1
    · have e : zPt (zTT sg n) 0 s = (1 + 16 * (zTT sg n).pl s.1, s) := by rw [zPt, if_neg y]
      rw [e] at herr
      have hf := rf_wrong (sg := sg) (n := n) (x := 1) (j := s.1) w hn1 (by omega)
      rw [fX12_takePart_J79]
      refine ⟨fun q => absurd q (rf_le hf), fun _ => herr _ (zfQ_s _ _ (by omega)) (fun q => by have q' : 1 + 16 * (zTT sg n).pl s.1 = 0 := q; omega) hf ⟨s.2.1, by omega, ?_⟩⟩
      rw [gI_sI_ne2 (by decide)]; exact hw.2.1
  | succ d ih =>
    intro N hN hd s w k hn hj hw hok herr
    obtain ⟨N', rfl⟩ : ∃ N', N = N' + 1 + 1 := ⟨N - 2, by omega⟩
    have ihN := ih (N' + 1) (by omega) (by omega)
    have hx1 : Int32.ofNat (5 - (d + 1)) + 1 = Int32.ofNat (5 - d) := by rw [zl1, zi_add, show 5 - (d + 1) + 1 = 5 - d by omega]
    rw [fX12_takePartN]
    refine q12_first hsg hw.1 (fun t r y ht hr => ?_) (fun t r y => ?_)
    · have hlt := zFst_lt hm hj y
      have hpt : zPt (zTT sg n) (d + 1) s = (if (zTT sg n).kd s.1 = 2 then (0, znx (zemit s (1 + 16 * (zTT sg n).nu s.1)))
       else if 17 ≤ (zTT sg n).ky s.1 ∧ (zTT sg n).ky s.1 ≤ 20 then (0, znx (zemit s (2 + 16 * ((zTT sg n).ky s.1 - 17))))
       else if (zTT sg n).ky s.1 = 14 then (if (zPt (zTT sg n) d (znx s)).1 = 0 then (0, zemit (zPt (zTT sg n) d (znx s)).2 3) else zPt (zTT sg n) d (znx s))
       else if (zAll (zTT sg n) (zPt (zTT sg n) d) (znx s)).1 = 0 then
         (if zSn (zTT sg n) 41 (zAll (zTT sg n) (zPt (zTT sg n) d) (znx s)).2.1 = true then (0, znx (zAll (zTT sg n) (zPt (zTT sg n) d) (znx s)).2) else (1 + 16 * (zTT sg n).pl (zAll (zTT sg n) (zPt (zTT sg n) d) (znx s)).2.1, s))
       else zAll (zTT sg n) (zPt (zTT sg n) d) (znx s)) := by rw [zPt, if_pos y]
      rw [hpt] at hok herr
      have hpush : ∀ c x : Nat, (∀ v, zfQ w v → zRS sg n m (znx (zemit s (c + 16 * x))) v → k v) → fX12_emit (Int32.ofNat c) (Int32.ofNat x) w (fun w14 => ∀ w15 : zW, w15 = sI w14 200 7 ((gI w14 200 7) + (1 : Int32)) → k w15) := by
        intro c x hx
        refine q12_emit hw.2.1 (by omega) (fun v ev => ?_)
        rw [zl16, zi_mul, zi_add] at ev
        have hv := zRS_emit hw (c + 16 * x)
        rw [← ev] at hv
        intro w15 e15
        rw [hv.1.2.2.2.2, zl1, zi_add] at e15
        rw [e15]
        refine hx _ ?_ (zRS_nx hv hlt)
        refine zfQ_trans ?_ (zfQ_s _ _ (by omega))
        rw [ev]; exact zfQ_em _ _ _ _
      rw [fX12_takePart_J69]
      refine ⟨fun _ => ?_, fun q => absurd ((zi_eq (b := 5) (by omega) (by decide)).mp q) (by omega)⟩
      rw [fX12_takePart_J79]
      refine ⟨fun _ => ?_, fun q => absurd (rt_ne hw.1) q⟩
      rw [hx1]
      refine q12_hasWord (i := 14) hw.1 (by decide) (fun e4 => ⟨fun q => absurd q (by decide), fun _ => ?_⟩) (fun e4 => ⟨fun _ => ?_, fun q => absurd rfl q⟩)
      · have e2 : ¬ (zTT sg n).kd s.1 = 2 := fun q => by have := zTT_k1 (sg := sg) (n := n) (j := s.1) (by omega); omega
        rw [if_neg e2, if_neg (by omega), if_pos e4] at hok herr
        have f2 : zfQ w (sI w 200 7 (Int32.ofNat (s.1 + 1))) := zfQ_s _ _ (by omega)
        refine ihN (znx s) _ _ (show s.2.1 < s.1 + 1 by omega) hlt (zRS_nx hw hlt) (fun v3 f3 e5 hv3 => ?_) (fun v3 f3 e5 h3 c3 => ?_)
        · obtain ⟨b1, b2, b3, b4, -⟩ := (zOK_pt hn1 hm d (znx s) hlt).1 e5
          have b4' : (zPt (zTT sg n) d (znx s)).2.2.1 + (s.1 + 1) ≤ s.2.1 + (zPt (zTT sg n) d (znx s)).2.1 := b4
          rw [if_pos e5] at hok
          refine q12_emit hv3.2.1 (by omega) (fun v4 e4 => ?_)
          rw [zl3, zl0, zl16, zi_mul, zi_add, Nat.mul_zero, Nat.add_zero] at e4
          refine hok v4 ?_ rfl ?_
          · rw [e4]; exact zfQ_trans (zfQ_trans f2 f3) (zfQ_em _ _ _ _)
          · rw [e4]; exact zRS_emit hv3 _
        · rw [if_neg e5] at herr
          obtain ⟨c, c1, c2⟩ := c3
          have c1' : c + (s.1 + 1) ≤ s.2.1 + m := c1
          refine q12_emit c2 (by omega) (fun v4 e4 => ?_)
          refine herr v4 ?_ e5 (rf_of h3 (by rw [e4, gI_sI_ne2 (by decide), gI_sI_ne (by decide)])) ⟨c + 1, by omega, by rw [e4, gI_sI_eq]⟩
          rw [e4]; exact zfQ_trans (zfQ_trans f2 f3) (zfQ_em _ _ _ _)
      · refine q12_hasSign (c := 40) hsg hw.1 (by decide) (fun e5 => ⟨fun q => absurd q (by decide), fun _ => ?_⟩) (fun e5 => ⟨fun _ => ?_, fun q => absurd rfl q⟩)
        · have e3 := (zSn_t e5).1
          have e2 : ¬ (zTT sg n).kd s.1 = 2 := by omega
          have ek : (zTT sg n).ky s.1 = 21 := zTT_ky (by omega)
          rw [if_neg e2, if_neg (by omega), if_neg e4] at hok herr
          have f2 : zfQ w (sI w 200 7 (Int32.ofNat (s.1 + 1))) := zfQ_s _ _ (by omega)
          refine q12_allS hsg hm (zOK_pt hn1 hm d) ihN (znx s) _ _ (show s.2.1 < s.1 + 1 by omega) hlt (zRS_nx hw hlt) (fun v3 f3 e6 hv3 => ?_) (fun v3 f3 e6 h3 c3 => ?_)
          · rw [if_pos e6] at hok herr
            obtain ⟨b1, b2, b3, b4, -⟩ := (zOK_all hm (zOK_pt hn1 hm d) (znx s) hlt).1 e6
            have b4' : (zAll (zTT sg n) (zPt (zTT sg n) d) (znx s)).2.2.1 + (s.1 + 1) ≤ s.2.1 + (zAll (zTT sg n) (zPt (zTT sg n) d) (znx s)).2.1 := b4
            refine q12_takeSign (c := 41) hsg hv3.1 (by decide) (fun q => ?_) (fun q => ?_)
            · rw [if_pos q] at hok
              exact hok _ (zfQ_trans (zfQ_trans f2 f3) (zfQ_s _ _ (by omega))) rfl (zRS_nx hv3 (zTm_lt hm b2 (by rw [(zSn_t q).1]; decide)))
            · rw [if_neg q] at herr
              refine herr _ (zfQ_trans (zfQ_trans f2 f3) (zfQ_s _ _ (by omega))) (fun q' => ?_) (rf_wrong _ hn1 (by omega)) ⟨(zAll (zTT sg n) (zPt (zTT sg n) d) (znx s)).2.2.1, by omega, by rw [gI_sI_ne2 (by decide)]; exact hv3.2.1⟩
              have q'' : 1 + 16 * (zTT sg n).pl (zAll (zTT sg n) (zPt (zTT sg n) d) (znx s)).2.1 = 0 := q'
              omega
          · rw [if_neg e6] at herr
            obtain ⟨c, c1, c2⟩ := c3
            have c1' : c + (s.1 + 1) ≤ s.2.1 + m := c1
            exact q12_takeSignF h3 (herr v3 (zfQ_trans f2 f3) e6 h3 ⟨c, by omega, c2⟩)
        · intro v12 e12
          rw [fX12_takePart_J147]
          by_cases e2 : (zTT sg n).kd s.1 = 2
          · rw [if_pos e2] at hok
            rw [if_pos e2] at ht
            refine ⟨fun q => by rw [ht] at q; exact absurd q (by decide), fun _ => ⟨(rt_in hw.1).1, ?_⟩⟩
            rw [fX12_takePart_J165, (rt_in hw.1).2, rt_nu hw.1 e2, show (Int64.ofNat ((zTT sg n).nu s.1)).toInt32 = Int32.ofNat ((zTT sg n).nu s.1) from Int64.toInt32_ofNat', e12.trans (if_neg (by rw [ht]; decide))]
            exact hpush 1 _ (fun v fv hv => hok v fv rfl hv)
          · rw [if_neg e2] at hok
            rw [if_neg e2] at ht
            have e3 : 17 ≤ (zTT sg n).ky s.1 ∧ (zTT sg n).ky s.1 ≤ 20 := by
              rw [zFst, Bool.or_eq_true] at y
              rcases y with y | y
              · rcases of_decide_eq_true y with z | z | z
                · exact absurd z e2
                · exact z
                · exact absurd z e4
              · exact absurd y e5
            rw [if_pos e3] at hok
            refine ⟨fun _ => ?_, fun q => absurd ht q⟩
            rw [fX12_takePart_J165, hr, zWh_pos (by omega), e12.trans (if_pos ht)]
            exact hpush 2 _ (fun v fv hv => hok v fv rfl hv)
    · have e : zPt (zTT sg n) (d + 1) s = (1 + 16 * (zTT sg n).pl s.1, s) := by rw [zPt, if_neg y]
      rw [e] at herr
      have hf := rf_wrong (sg := sg) (n := n) (x := 1) (j := s.1) w hn1 (by omega)
      rw [fX12_takePart_J79]
      refine ⟨fun q => absurd q (rf_le hf), fun _ => herr _ (zfQ_s _ _ (by omega)) (fun q => by have q' : 1 + 16 * (zTT sg n).pl s.1 = 0 := q; omega) hf ⟨s.2.1, by omega, ?_⟩⟩
      rw [gI_sI_ne2 (by decide)]; exact hw.2.1
theorem q12_wholeT {sg : Nat → Nat} {n m : Nat} (hsg : zSg sg n) (hm : zTm (zTT sg n) m) : zRsub sg n m (fX12_wholeT 0) (zRl (zTT sg n)) :=
  q12_allS hsg hm (zOK_pt hsg.1 hm 5) (q12_part hsg hm 5 7 (by decide) (by decide))

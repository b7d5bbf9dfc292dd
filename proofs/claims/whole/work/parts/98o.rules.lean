/-! Level 2: the class reads rules -/
/-- a code, as the class keeps it -/
def zstp (c : Nat) : Int32 := if c % 16 = 1 then Int32.ofNat (c / 16) else if c % 16 = 2 then (16 : Int32) - Int32.ofNat (c / 16 + 17) else if c = 3 then -5 else if c = 4 then -10 else if c = 5 then -11 else if c = 6 then -12 else if c = 7 then -8 else if c = 8 then -9 else if c = 9 then -6 else -7
theorem q7_addStep {n : Nat} {x : Int32} {w : zW} {k : zW → Prop} (hn : gI w 6 3 = Int32.ofNat n) (h : n < 1000) (hk : ∀ v : zW, v = sI (sI w 7 n x) 6 3 (Int32.ofNat (n + 1)) → k v) : fX7_addStep x w k := by
  rw [fX7_addStep, hn]
  refine ⟨fun q => absurd q (zi_0le (by omega)), fun _ => ⟨fun q => absurd ((zi_le (a := 1000) (by decide) (by omega)).mp q) (by omega), fun _ => ⟨zi_in (by omega) (by omega), ?_⟩⟩⟩
  intro w4 e4 w5 e5
  rw [zi_nat (show n < 2 ^ 31 by omega)] at e4
  rw [e4, gI_sI_ne (by decide), hn, zl1, zi_add] at e5
  exact hk w5 e5
/-- the class stands at a place, with so many steps -/
def zCS (sg : Nat → Nat) (n : Nat) (s : zSu) (v : zW) : Prop := zCt sg n s.1 v ∧ gI v 6 3 = Int32.ofNat s.2.1 ∧ ∀ i, i < s.2.1 → gI v 7 i = zstp (s.2.2 i)
theorem zCS_emit {sg : Nat → Nat} {n : Nat} {s : zSu} {w : zW} (h : zCS sg n s w) (x : Nat) : zCS sg n (zemit s x) (sI (sI w 7 s.2.1 (zstp x)) 6 3 (Int32.ofNat (s.2.1 + 1))) := by
  refine ⟨zCt_of h.1 (fun c _ => by rw [gI_sI_ne (by decide), gI_sI_ne (by decide)]) (fun c => by rw [gI_sI_ne (by decide), gI_sI_ne (by decide)]) rfl, gI_sI_eq _ _ _ _, fun i hi => ?_⟩
  have hi' : i < s.2.1 + 1 := hi
  rw [gI_sI_ne (by decide)]
  show _ = zstp (if i = s.2.1 then x else s.2.2 i)
  by_cases e : i = s.2.1
  · rw [if_pos e, e, gI_sI_eq]
  · rw [if_neg e, gI_sI_ne2 e]
    exact h.2.2 i (by omega)
theorem zCS_nx {sg : Nat → Nat} {n : Nat} {s : zSu} {w v : zW} (h : zCS sg n s w) (f : zfT w v) (h2 : zCt sg n (s.1 + 1) v) : zCS sg n (znx s) v :=
  ⟨h2, by rw [f.1 6 3 (by omega)]; exact h.2.1, fun i hi => by rw [f.1 7 i (by omega)]; exact h.2.2 i hi⟩
theorem zfR_st (w : zW) (n : Nat) (x y : Int32) : zfR w (sI (sI w 7 n x) 6 3 y) := ⟨fun a c q1 q2 q3 => by rw [gI_sI, if_neg q2, gI_sI_ne q3], fun _ _ _ => rfl, fun _ _ => rfl⟩
/-- a method of the class reads a piece of rules -/
def zCsub (sg : Nat → Nat) (n m : Nat) (F : zW → (Int32 → zW → Prop) → Prop) (P : zSu → Nat × zSu) : Prop :=
  ∀ (s : zSu) (w : zW) (k : Int32 → zW → Prop), s.2.1 < s.1 → s.1 ≤ m → zCS sg n s w → (∀ v, zfR w v → (P s).1 = 0 → zCS sg n (P s).2 v → k 1 v) → (∀ v, zfR w v → ¬ (P s).1 = 0 → gI v 2 8 = Int32.ofNat (P s).1 → k 0 v) → F w k
theorem q7_loop {sg : Nat → Nat} {n m H F : Nat} {rp : zW → (Int32 → zW → Prop) → Prop} {P : zSu → Nat × zSu} {op : Nat → Nat} {Lp : Nat → Nat → zW → Prop} {k : Int32 → zW → Prop} {w : zW} {R : Nat × zSu} (hsg : zSg sg n) (hm : zTm (zTT sg n) m) (hP : zOK (zTT sg n) m H P) (hS : zCsub sg n m rp P)
    (hop : ∀ j, j ≤ m → ¬ op j = 0 → j < m ∧ 4 ≤ op j ∧ op j ≤ 10)
    (hA : ∀ f i v s, i < F → zCS sg n s v → op s.1 = 0 → k 1 v → Lp (f + 1) i v)
    (hB : ∀ f i v s, i < F → zCS sg n s v → ¬ op s.1 = 0 → (∀ v2, zfT v v2 → zCt sg n (s.1 + 1) v2 → ∀ K : Int32 → zW → Prop, (∀ v3, fX7_addStep (zstp (op s.1)) v3 (fun v4 => Lp f (i + 1) v4) → K 1 v3) → (∀ v3, k 0 v3 → K 0 v3) → rp v2 K) → Lp (f + 1) i v)
    (hC : ∀ f v, k 1 v → Lp (f + 1) F v)
    (hok : ∀ v, zfR w v → R.1 = 0 → zCS sg n R.2 v → k 1 v) (herr : ∀ v, zfR w v → ¬ R.1 = 0 → gI v 2 8 = Int32.ofNat R.1 → k 0 v) :
    ∀ (f i : Nat) (s : zSu) (v : zW), i + f = F → s.2.1 < s.1 → s.1 ≤ m → zfR w v → zCS sg n s v → zCh P op f s = R → Lp (f + 1) i v := by
  have hm1 := hm.1
  intro f
  induction f with
  | zero =>
    intro i s v hi hn hj fv hv hR
    have e : i = F := by omega
    rw [e]
    rw [zCh] at hR
    subst hR
    exact hC 0 v (hok v fv rfl hv)
  | succ f ih =>
    intro i s v hi hn hj fv hv hR
    by_cases e : op s.1 = 0
    · rw [zCh_0 _ e] at hR
      subst hR
      exact hA _ i v s (by omega) hv e (hok v fv rfl hv)
    · obtain ⟨o1, o2, o3⟩ := hop _ hj e
      refine hB _ i v s (by omega) hv e (fun v2 f2 c2 K hK1 hK0 => ?_)
      have hv2 := zCS_nx hv f2 c2
      have fv2 := zfR_trans fv (zfR_T f2)
      refine hS (znx s) v2 K (show s.2.1 < s.1 + 1 by omega) o1 hv2 (fun v3 f3 e3 hv3 => hK1 v3 ?_) (fun v3 f3 e3 h3 => hK0 v3 ?_)
      · obtain ⟨b1, b2, b3, b4, -⟩ := (hP (znx s) o1).1 e3
        have b1' : s.1 + 1 < (P (znx s)).2.1 := b1
        have b4' : (P (znx s)).2.2.1 + (s.1 + 1) ≤ s.2.1 + (P (znx s)).2.1 := b4
        rw [zCh_s _ e e3] at hR
        refine q7_addStep hv3.2.1 (by omega) (fun v4 e4 => ?_)
        refine ih (i + 1) (zemit (P (znx s)).2 (op s.1)) v4 (by omega) (show (P (znx s)).2.2.1 + 1 < (P (znx s)).2.1 by omega) b2 ?_ ?_ hR
        · rw [e4]; exact zfR_trans (zfR_trans fv2 f3) (zfR_st _ _ _ _)
        · rw [e4]; exact zCS_emit hv3 _
      · rw [zCh_e _ e e3] at hR
        subst hR
        exact herr v3 (zfR_trans fv2 f3) e3 h3
theorem q7_chain {sg : Nat → Nat} {n m H F : Nat} {rp F' : zW → (Int32 → zW → Prop) → Prop} {P : zSu → Nat × zSu} {op : Nat → Nat} {Lp : (Int32 → zW → Prop) → Nat → Nat → zW → Prop} (hsg : zSg sg n) (hm : zTm (zTT sg n) m) (hP : zOK (zTT sg n) m H P) (hS : zCsub sg n m rp P)
    (hop : ∀ j, j ≤ m → ¬ op j = 0 → j < m ∧ 4 ≤ op j ∧ op j ≤ 10)
    (hA : ∀ k f i v s, i < F → zCS sg n s v → op s.1 = 0 → k 1 v → Lp k (f + 1) i v)
    (hB : ∀ k f i v s, i < F → zCS sg n s v → ¬ op s.1 = 0 → (∀ v2, zfT v v2 → zCt sg n (s.1 + 1) v2 → ∀ K : Int32 → zW → Prop, (∀ v3, fX7_addStep (zstp (op s.1)) v3 (fun v4 => Lp k f (i + 1) v4) → K 1 v3) → (∀ v3, k 0 v3 → K 0 v3) → rp v2 K) → Lp k (f + 1) i v)
    (hC : ∀ k f v, k 1 v → Lp k (f + 1) F v)
    (hF : ∀ w k, (∀ K : Int32 → zW → Prop, (∀ v s, zCS sg n s v → (∃ n9, Lp k n9 0 v) → K 1 v) → (∀ v, k 0 v → K 0 v) → rp w K) → F' w k) : zCsub sg n m F' (zThen F P op) := by
  intro s w k hn hj hw hok herr
  refine hF w k (fun K hK1 hK0 => hS s w K hn hj hw (fun v fv e0 hv => hK1 v _ hv ?_) (fun v fv e0 hv => hK0 v ?_))
  · obtain ⟨b1, b2, b3, b4, -⟩ := (hP s hj).1 e0
    refine ⟨F + 1, q7_loop hsg hm hP hS hop (hA k) (hB k) (hC k) hok herr F 0 _ v (by omega) (by omega) b2 fv hv ?_⟩
    exact (zThen_0 e0).symm
  · refine herr v fv ?_ ?_
    · rw [zThen_e e0]; exact e0
    · rw [zThen_e e0]; exact hv
theorem zSn_n {T : zTks} {c j : Nat} (h : ¬ zSn T c j = true) : ¬ (T.kd j = 3 ∧ T.si j = c) := fun q => h (zSn_i q.1 q.2)
theorem q10_sn {sg : Nat → Nat} {n j c : Nat} {w : zW} {k : Int32 → zW → Prop} (hsg : zSg sg n) (h : zCt sg n j w) (hc : c < 127) (h1 : zSn (zTT sg n) c j = true → k 1 w) (h0 : ¬ zSn (zTT sg n) c j = true → k 0 w) : fX10_isSign (Int32.ofNat c) w k :=
  q10_isSign hsg h hc (fun a b => h1 (zSn_i a b)) (fun q => h0 (zSn_f q))
theorem q7_product {sg : Nat → Nat} {n m H : Nat} {rp : Int32 → zW → (Int32 → zW → Prop) → Prop} {P : zSu → Nat × zSu} {x : Int32} (hsg : zSg sg n) (hm : zTm (zTT sg n) m) (hP : zOK (zTT sg n) m H P) (hS : zCsub sg n m (rp x) P) : zCsub sg n m (fX7_readProduct rp x) (zThen 1000 P (zOpMul (zTT sg n))) := by
  refine q7_chain (Lp := fun k f i v => fX7_readProduct_L12 rp k f x (Int32.ofNat i) v) hsg hm hP hS (zop_mul hm) (fun k f i v s hi hv e hk => ?_) (fun k f i v s hi hv e hk => ?_) (fun k f v hk => ?_) (fun w k hk => ?_)
  · rw [fX7_readProduct_L12]
    refine ⟨fun _ => hk, fun _ => q10_sn (c := 42) hsg hv.1 (by decide) (fun q => ?_) (fun _ => ⟨fun _ => hk, fun q => absurd rfl q⟩)⟩
    rw [zOpMul, if_pos q] at e; exact absurd e (by decide)
  · rw [fX7_readProduct_L12]
    refine ⟨fun q => absurd ((zi_le (a := 1000) (by decide) (by omega)).mp q) (by omega), fun _ => q10_sn (c := 42) hsg hv.1 (by decide) (fun q => ⟨fun y => absurd y (by decide), fun _ => ?_⟩) (fun q => ?_)⟩
    · refine q10_nx hsg hv.1 (fun v2 f2 c2 => hk v2 f2 c2 _ (fun v3 h => ⟨fun _ => ?_, fun y => absurd y (by decide)⟩) (fun v3 h => ⟨fun y => absurd rfl y, fun _ => h⟩))
      rw [zl1, zi_add]
      rw [zOpMul, if_pos q] at h
      exact h
    · rw [zOpMul, if_neg q] at e; exact absurd rfl e
  · rw [fX7_readProduct_L12]
    exact ⟨fun _ => hk, fun q => absurd ((zi_le (a := 1000) (b := 1000) (by decide) (by decide)).mpr (Nat.le_refl _)) q⟩
  · rw [fX7_readProduct]
    exact hk _ (fun v s hv h => ⟨fun _ => h, fun y => absurd y (by decide)⟩) (fun v h => ⟨fun y => absurd rfl y, fun _ => h⟩)
theorem q7_sum {sg : Nat → Nat} {n m H : Nat} {rp : Int32 → zW → (Int32 → zW → Prop) → Prop} {P : zSu → Nat × zSu} {x : Int32} (hsg : zSg sg n) (hm : zTm (zTT sg n) m) (hP : zOK (zTT sg n) m H P) (hS : zCsub sg n m (rp x) P) : zCsub sg n m (fX7_readSum rp x) (zThen 1000 P (zOpSum (zTT sg n))) := by
  refine q7_chain (Lp := fun k f i v => fX7_readSum_L12 rp k f x (Int32.ofNat i) v) hsg hm hP hS (zop_sum hm) (fun k f i v s hi hv e hk => ?_) (fun k f i v s hi hv e hk => ?_) (fun k f v hk => ?_) (fun w k hk => ?_)
  · rw [fX7_readSum_L12]
    refine ⟨fun _ => hk, fun _ => q10_sn (c := 43) hsg hv.1 (by decide) (fun q => ?_) (fun q => ⟨fun y => absurd rfl y, fun _ => ?_⟩)⟩
    · rw [zOpSum, if_pos q] at e; exact absurd e (by decide)
    · refine q10_sn (c := 45) hsg hv.1 (by decide) (fun q2 => ?_) (fun _ => ⟨fun y => absurd rfl y, fun _ => hk⟩)
      rw [zOpSum, if_neg q, if_pos q2] at e; exact absurd e (by decide)
  · rw [fX7_readSum_L12]
    refine ⟨fun q => absurd ((zi_le (a := 1000) (by decide) (by omega)).mp q) (by omega), fun _ => q10_sn (c := 43) hsg hv.1 (by decide) (fun q => ⟨fun _ => ?_, fun y => absurd y (by decide)⟩) (fun q => ⟨fun y => absurd rfl y, fun _ => q10_sn (c := 45) hsg hv.1 (by decide) (fun q2 => ⟨fun _ => ?_, fun y => absurd y (by decide)⟩) (fun q2 => ?_)⟩)⟩
    · rw [fX7_readSum_J47]
      refine q10_nx hsg hv.1 (fun v2 f2 c2 => hk v2 f2 c2 _ (fun v3 h => ⟨fun _ => ?_, fun y => absurd y (by decide)⟩) (fun v3 h => ⟨fun y => absurd rfl y, fun _ => h⟩))
      intro v9 e9
      rw [fX7_readSum_J76, zl1, zi_add, e9.trans (if_neg (by decide))]
      rw [zOpSum, if_pos q] at h
      exact h
    · rw [fX7_readSum_J47]
      refine q10_nx hsg hv.1 (fun v2 f2 c2 => hk v2 f2 c2 _ (fun v3 h => ⟨fun _ => ?_, fun y => absurd y (by decide)⟩) (fun v3 h => ⟨fun y => absurd rfl y, fun _ => h⟩))
      intro v9 e9
      rw [fX7_readSum_J76, zl1, zi_add, e9.trans (if_pos rfl)]
      rw [zOpSum, if_neg q, if_pos q2] at h
      exact h
    · rw [zOpSum, if_neg q, if_neg q2] at e; exact absurd rfl e
  · rw [fX7_readSum_L12]
    exact ⟨fun _ => hk, fun q => absurd ((zi_le (a := 1000) (b := 1000) (by decide) (by decide)).mpr (Nat.le_refl _)) q⟩
  · rw [fX7_readSum]
    exact hk _ (fun v s hv h => ⟨fun _ => h, fun y => absurd y (by decide)⟩) (fun v h => ⟨fun y => absurd rfl y, fun _ => h⟩)
theorem q7_all {sg : Nat → Nat} {n m H : Nat} {rp : Int32 → zW → (Int32 → zW → Prop) → Prop} {P : zSu → Nat × zSu} {x : Int32} (hsg : zSg sg n) (hm : zTm (zTT sg n) m) (hP : zOK (zTT sg n) m H P) (hS : zCsub sg n m (rp x) P) : zCsub sg n m (fX7_readAll rp x) (zThen 1000 P (zOpAll (zTT sg n))) := by
  refine q7_chain (Lp := fun k f i v => fX7_readAll_L12 rp k f x (Int32.ofNat i) v) hsg hm hP hS (zop_all hm) (fun k f i v s hi hv e hk => ?_) (fun k f i v s hi hv e hk => ?_) (fun k f v hk => ?_) (fun w k hk => ?_)
  · rw [fX7_readAll_L12]
    refine ⟨fun _ => hk, fun _ => ?_⟩
    intro v4 e4
    have h21 := zTT_ky21 sg n s.1
    rw [ct_ky hv.1] at e4
    rw [e4]
    refine ⟨fun q => ?_, fun q => ⟨fun q2 => ?_, fun _ => hk⟩⟩
    · rw [zOpAll, if_pos ((zKy_eq (c := 15) h21 (by decide)).mp q)] at e; exact absurd e (by decide)
    · rw [zOpAll, if_neg (fun y => q (by rw [y]; rfl)), if_pos ((zKy_eq (c := 16) h21 (by decide)).mp q2)] at e; exact absurd e (by decide)
  · rw [fX7_readAll_L12]
    refine ⟨fun q => absurd ((zi_le (a := 1000) (by decide) (by omega)).mp q) (by omega), fun _ => ?_⟩
    intro v4 e4
    have h21 := zTT_ky21 sg n s.1
    rw [ct_ky hv.1] at e4
    rw [e4]
    refine ⟨fun q => ?_, fun q => ⟨fun q2 => ?_, fun q2 => ?_⟩⟩
    · have q' := (zKy_eq (c := 15) h21 (by decide)).mp q
      rw [fX7_readAll_J41]
      refine q10_nx hsg hv.1 (fun v2 f2 c2 => hk v2 f2 c2 _ (fun v3 h => ⟨fun _ => ?_, fun y => absurd y (by decide)⟩) (fun v3 h => ⟨fun y => absurd rfl y, fun _ => h⟩))
      intro v9 e9
      rw [fX7_readAll_J72, zl1, zi_add, e9.trans (if_neg (fun y => y q))]
      rw [zOpAll, if_pos q'] at h
      exact h
    · have q' : ¬ (zTT sg n).ky s.1 = 15 := fun y => q (by rw [y]; rfl)
      have q2' := (zKy_eq (c := 16) h21 (by decide)).mp q2
      rw [fX7_readAll_J41]
      refine q10_nx hsg hv.1 (fun v2 f2 c2 => hk v2 f2 c2 _ (fun v3 h => ⟨fun _ => ?_, fun y => absurd y (by decide)⟩) (fun v3 h => ⟨fun y => absurd rfl y, fun _ => h⟩))
      intro v9 e9
      rw [fX7_readAll_J72, zl1, zi_add, e9.trans (if_pos q)]
      rw [zOpAll, if_neg q', if_pos q2'] at h
      exact h
    · rw [zOpAll, if_neg (fun y => q (by rw [y]; rfl)), if_neg (fun y => q2 (by rw [y]; rfl))] at e; exact absurd rfl e
  · rw [fX7_readAll_L12]
    exact ⟨fun _ => hk, fun q => absurd ((zi_le (a := 1000) (b := 1000) (by decide) (by decide)).mpr (Nat.le_refl _)) q⟩
  · rw [fX7_readAll]
    exact hk _ (fun v s hv h => ⟨fun _ => h, fun y => absurd y (by decide)⟩) (fun v h => ⟨fun y => absurd rfl y, fun _ => h⟩)
/-- what stands behind a sum: at most one more -/
def zTe (rp : Int32 → zW → (Int32 → zW → Prop) → Prop) (x : Int32) (k : Int32 → zW → Prop) (v : zW) : Prop :=
  fX10_isSign (60 : Int32) v (fun r3 w3 => (¬ r3 = 0 → fX7_readTest_J38 rp k x r3 w3) ∧ (r3 = 0 → fX10_isSign (61 : Int32) w3 (fun r10 w10 => (¬ r10 = 0 → fX7_readTest_J38 rp k x r3 w10) ∧ (r10 = 0 → k (1 : Int32) w10))))
def zTeL (rp : Int32 → zW → (Int32 → zW → Prop) → Prop) (x : Int32) (k : Int32 → zW → Prop) (i : Nat) (v : zW) : Prop := if i = 0 then zTe rp x k v else k 1 v
theorem q7_test {sg : Nat → Nat} {n m H : Nat} {rp : Int32 → zW → (Int32 → zW → Prop) → Prop} {P : zSu → Nat × zSu} {x : Int32} (hsg : zSg sg n) (hm : zTm (zTT sg n) m) (hP : zOK (zTT sg n) m H P) (hS : zCsub sg n m (rp x) P) : zCsub sg n m (fX7_readTest rp x) (zThen 1 P (zOpTst (zTT sg n))) := by
  refine q7_chain (Lp := fun k f i v => zTeL rp x k i v) hsg hm hP hS (zop_tst hm) (fun k f i v s hi hv e hk => ?_) (fun k f i v s hi hv e hk => ?_) (fun k f v hk => ?_) (fun w k hk => ?_)
  · have e0 : i = 0 := by omega
    rw [zTeL, if_pos e0, zTe]
    refine q10_sn (c := 60) hsg hv.1 (by decide) (fun q => ?_) (fun q => ⟨fun y => absurd rfl y, fun _ => ?_⟩)
    · rw [zOpTst, if_pos q] at e; exact absurd e (by decide)
    · refine q10_sn (c := 61) hsg hv.1 (by decide) (fun q2 => ?_) (fun _ => ⟨fun y => absurd rfl y, fun _ => hk⟩)
      rw [zOpTst, if_neg q, if_pos q2] at e; exact absurd e (by decide)
  · have e0 : i = 0 := by omega
    rw [zTeL, if_pos e0, zTe]
    refine q10_sn (c := 60) hsg hv.1 (by decide) (fun q => ⟨fun _ => ?_, fun y => absurd y (by decide)⟩) (fun q => ⟨fun y => absurd rfl y, fun _ => q10_sn (c := 61) hsg hv.1 (by decide) (fun q2 => ⟨fun _ => ?_, fun y => absurd y (by decide)⟩) (fun q2 => ?_)⟩)
    · rw [fX7_readTest_J38]
      refine q10_nx hsg hv.1 (fun v2 f2 c2 => hk v2 f2 c2 _ (fun v3 h => ⟨fun _ => ?_, fun y => absurd y (by decide)⟩) (fun v3 h => ⟨fun y => absurd rfl y, fun _ => h⟩))
      intro v9 e9
      rw [fX7_readTest_J67, e9.trans (if_neg (by decide))]
      rw [zOpTst, if_pos q, e0] at h
      exact h
    · rw [fX7_readTest_J38]
      refine q10_nx hsg hv.1 (fun v2 f2 c2 => hk v2 f2 c2 _ (fun v3 h => ⟨fun _ => ?_, fun y => absurd y (by decide)⟩) (fun v3 h => ⟨fun y => absurd rfl y, fun _ => h⟩))
      intro v9 e9
      rw [fX7_readTest_J67, e9.trans (if_pos rfl)]
      rw [zOpTst, if_neg q, if_pos q2, e0] at h
      exact h
    · rw [zOpTst, if_neg q, if_neg q2] at e; exact absurd rfl e
  · exact hk
  · rw [fX7_readTest]
    refine hk _ (fun v s hv h => ⟨fun _ => ?_, fun y => absurd y (by decide)⟩) (fun v h => ⟨fun y => absurd rfl y, fun _ => h⟩)
    obtain ⟨n9, h9⟩ := h
    exact h9
/-- all of the class's, of its parts -/
theorem q7_whole {sg : Nat → Nat} {n m H : Nat} {rp : Int32 → zW → (Int32 → zW → Prop) → Prop} {P : zSu → Nat × zSu} {x : Int32} (hsg : zSg sg n) (hm : zTm (zTT sg n) m) (hP : zOK (zTT sg n) m H P) (hS : zCsub sg n m (rp x) P) : zCsub sg n m (fX7_readAll (fX7_readTest (fX7_readSum (fX7_readProduct rp))) x) (zAll (zTT sg n) P) := by
  have h1 := q7_product hsg hm hP hS
  have o1 := zOK_then (F := 1000) hP (zop_mul hm)
  have h2 := q7_sum hsg hm o1 h1
  have o2 := zOK_then (F := 1000) o1 (zop_sum hm)
  have h3 := q7_test hsg hm o2 h2
  have o3 := zOK_then (F := 1) o2 (zop_tst hm)
  exact q7_all hsg hm o3 h3
theorem zstp_1 (a : Nat) : zstp (1 + 16 * a) = Int32.ofNat a := by
  rw [zstp, if_pos (by omega), show (1 + 16 * a) / 16 = a by omega]
theorem zstp_2 (a : Nat) : zstp (2 + 16 * a) = (16 : Int32) - Int32.ofNat (a + 17) := by
  rw [zstp, if_neg (by omega), if_pos (by omega), show (2 + 16 * a) / 16 = a by omega]
theorem q7_first {sg : Nat → Nat} {n j : Nat} {rn rb : Int32 → zW → (Int32 → zW → Prop) → Prop} {x1 : Int32} {w : zW} {k : Int32 → zW → Prop} (hsg : zSg sg n) (h : zCt sg n j w)
    (hA : zFst (zTT sg n) j = true → fX7_readPart_J100 rn rb k x1 (if (zTT sg n).kd j = 2 then 1 else 0) (if 17 ≤ (zTT sg n).ky j ∧ (zTT sg n).ky j ≤ 20 then 1 else 0) (if (zTT sg n).ky j = 14 then 1 else 0) w)
    (hB : ¬ zFst (zTT sg n) j = true → ∀ v : zW, v = sI w 2 8 (Int32.ofNat (1 + 16 * (zTT sg n).pl j)) → k 0 v) : fX7_readPart rn rb x1 w k := by
  have h4 := zTT_kd4 sg n j
  have h21 := zTT_ky21 sg n j
  rw [fX7_readPart]
  intro v1 e1
  rw [ct_kd h] at e1
  have e1' : v1 = if (zTT sg n).kd j = 2 then 1 else 0 := by
    by_cases y : (zTT sg n).kd j = 2
    · rw [if_pos y, e1.trans (if_neg (fun z => z (by rw [y]; rfl)))]
    · rw [if_neg y, e1.trans (if_pos (fun z => y ((zi_eq (b := 2) (by omega) (by decide)).mp z)))]
  have hJ46 : ∀ t : Int32, t = (if 17 ≤ (zTT sg n).ky j ∧ (zTT sg n).ky j ≤ 20 then (1 : Int32) else 0) → fX7_readPart_J46 rn rb k x1 v1 t w := by
    intro t et
    rw [fX7_readPart_J46]
    intro v3 e3
    rw [ct_ky h] at e3
    have e3' : v3 = if (zTT sg n).ky j = 14 then 1 else 0 := by
      by_cases y : (zTT sg n).ky j = 14
      · rw [if_pos y, e3.trans (if_neg (fun z => z (by rw [y]; rfl)))]
      · rw [if_neg y, e3.trans (if_pos (fun z => y ((zKy_eq (c := 14) h21 (by decide)).mp z)))]
    have hJ : zFst (zTT sg n) j = true → fX7_readPart_J100 rn rb k x1 v1 t v3 w := fun y => by rw [e1', et, e3']; exact hA y
    rw [fX7_readPart_J64]
    refine ⟨fun q => hJ ?_, fun q => ⟨fun q2 => hJ ?_, fun q2 => ⟨fun q3 => hJ ?_, fun q3 => q10_sn (c := 40) hsg h (by decide) (fun q4 => ⟨fun _ => hJ ?_, fun y => absurd y (by decide)⟩) (fun q4 => ⟨fun y => absurd rfl y, fun _ => ?_⟩)⟩⟩⟩
    · have y : (zTT sg n).kd j = 2 := by
        by_cases y : (zTT sg n).kd j = 2
        · exact y
        · rw [e1', if_neg y] at q; exact absurd rfl q
      rw [zFst, decide_eq_true (Or.inl y)]; rfl
    · have y : 17 ≤ (zTT sg n).ky j ∧ (zTT sg n).ky j ≤ 20 := by
        by_cases y : 17 ≤ (zTT sg n).ky j ∧ (zTT sg n).ky j ≤ 20
        · exact y
        · rw [et, if_neg y] at q2; exact absurd rfl q2
      rw [zFst, decide_eq_true (Or.inr (Or.inl y))]; rfl
    · have y : (zTT sg n).ky j = 14 := by
        by_cases y : (zTT sg n).ky j = 14
        · exact y
        · rw [e3', if_neg y] at q3; exact absurd rfl q3
      rw [zFst, decide_eq_true (Or.inr (Or.inr y))]; rfl
    · rw [zFst, q4, Bool.or_true]
    · refine q10_wrong (x := 1) h (fun v ev => ⟨Or.inl rfl, hB (fun y => ?_) v ev⟩)
      rw [zFst, Bool.or_eq_true] at y
      rcases y with y | y
      · rcases of_decide_eq_true y with z | z | z
        · rw [e1', if_pos z] at q; exact absurd q (by decide)
        · rw [et, if_pos z] at q2; exact absurd q2 (by decide)
        · rw [e3', if_pos z] at q3; exact absurd q3 (by decide)
      · exact q4 y
  rw [fX7_readPart_J16, ct_ky h]
  by_cases y : (zTT sg n).ky j < 21
  · rw [zKy_n y]
    refine ⟨fun q => hJ46 0 ?_, fun q => ?_⟩
    · have := (zi_lt (b := 17) (by omega) (by decide)).mp q
      rw [if_neg (by omega)]
    · intro v21 e21
      have q' : ¬ (zTT sg n).ky j < 17 := fun z => q ((zi_lt (b := 17) (by omega) (by decide)).mpr z)
      refine hJ46 v21 ?_
      rw [if_pos (by omega), e21.trans (if_neg (fun z => by have := (zi_lt (a := 20) (by decide) (by omega)).mp z; omega))]
  · rw [zKy_N y]
    refine ⟨fun q => hJ46 0 ?_, fun q => absurd (by decide) q⟩
    rw [if_neg (by omega)]
theorem q7_part {sg : Nat → Nat} {n m : Nat} (hsg : zSg sg n) (hm : zTm (zTT sg n) m) : ∀ (d N : Nat), d < N → d ≤ 5 → zCsub sg n m (fX7_readPartN N (Int32.ofNat (5 - d))) (zPt (zTT sg n) d) := by
  have hm1 := hm.1
  have hn1 := hsg.1
  intro d
  induction d with
  | zero =>
    intro N hN hd s w k hn hj hw hok herr
    obtain ⟨N', rfl⟩ : ∃ N', N = N' + 1 := ⟨N - 1, by omega⟩
    rw [fX7_readPartN]
    refine q7_first hsg hw.1 (fun y => ?_) (fun y v ev => ?_)
    · rw [fX7_readPart_J100]
      refine ⟨fun q => absurd q (by decide), fun _ => q10_wrong (x := 5) hw.1 (fun v ev => ⟨Or.inl rfl, ?_⟩)⟩
      have e : zPt (zTT sg n) 0 s = (5 + 16 * (zTT sg n).pl s.1, s) := by rw [zPt, if_pos y]
      rw [e] at herr
      exact herr v (by rw [ev]; exact zfR_8 _ _) (fun q => by have q' : 5 + 16 * (zTT sg n).pl s.1 = 0 := q; omega) (by rw [ev, gI_sI_eq])
    · have e : zPt (zTT sg n) 0 s = (1 + 16 * (zTT sg n).pl s.1, s) := by rw [zPt, if_neg y]
      rw [e] at herr
      exact herr v (by rw [ev]; exact zfR_8 _ _) (fun q => by have q' : 1 + 16 * (zTT sg n).pl s.1 = 0 := q; omega) (by rw [ev, gI_sI_eq])
  | succ d ih =>
    intro N hN hd s w k hn hj hw hok herr
    obtain ⟨N', rfl⟩ : ∃ N', N = N' + 1 := ⟨N - 1, by omega⟩
    have ihN := ih N' (by omega) (by omega)
    have hx1 : Int32.ofNat (5 - (d + 1)) + 1 = Int32.ofNat (5 - d) := by rw [zl1, zi_add, show 5 - (d + 1) + 1 = 5 - d by omega]
    rw [fX7_readPartN]
    refine q7_first hsg hw.1 (fun y => ?_) (fun y v ev => ?_)
    · have hlt := zFst_lt hm hj y
      have hpt : zPt (zTT sg n) (d + 1) s = (if (zTT sg n).kd s.1 = 2 then (0, znx (zemit s (1 + 16 * (zTT sg n).nu s.1)))
       else if 17 ≤ (zTT sg n).ky s.1 ∧ (zTT sg n).ky s.1 ≤ 20 then (0, znx (zemit s (2 + 16 * ((zTT sg n).ky s.1 - 17))))
       else if (zTT sg n).ky s.1 = 14 then (if (zPt (zTT sg n) d (znx s)).1 = 0 then (0, zemit (zPt (zTT sg n) d (znx s)).2 3) else zPt (zTT sg n) d (znx s))
       else if (zAll (zTT sg n) (zPt (zTT sg n) d) (znx s)).1 = 0 then
         (if zSn (zTT sg n) 41 (zAll (zTT sg n) (zPt (zTT sg n) d) (znx s)).2.1 = true then (0, znx (zAll (zTT sg n) (zPt (zTT sg n) d) (znx s)).2) else (1 + 16 * (zTT sg n).pl (zAll (zTT sg n) (zPt (zTT sg n) d) (znx s)).2.1, s))
       else zAll (zTT sg n) (zPt (zTT sg n) d) (znx s)) := by rw [zPt, if_pos y]
      rw [hpt] at hok herr
      have hpush : ∀ x : Nat, (∀ v, zfR w v → zCS sg n (znx (zemit s x)) v → k 1 v) → fX7_addStep (zstp x) w (fun w8 => fX10_next w8 (fun w9 => k 1 w9)) := by
        intro x hx
        refine q7_addStep hw.2.1 (by omega) (fun v ev => ?_)
        have hv := zCS_emit hw x
        rw [← ev] at hv
        refine q10_nx hsg hv.1 (fun v2 f2 c2 => hx v2 ?_ (zCS_nx hv f2 c2))
        refine zfR_trans ?_ (zfR_T f2)
        rw [ev]; exact zfR_st _ _ _ _
      rw [fX7_readPart_J100]
      refine ⟨fun _ => ?_, fun q => absurd ((zi_lt (b := 5) (by omega) (by decide)).mpr (by omega)) q⟩
      by_cases e2 : (zTT sg n).kd s.1 = 2
      · rw [if_pos e2] at hok
        rw [if_pos e2]
        refine ⟨fun _ => ?_, fun q => absurd q (by decide)⟩
        rw [fX7_readPart_J122]
        refine ⟨fun q => absurd q (by decide), fun _ => ?_⟩
        rw [fX7_readPart_J147, ct_nu hw.1 e2, ← zstp_1]
        exact hpush _ (fun v fv hv => hok v fv rfl hv)
      · rw [if_neg e2] at hok herr ⊢
        refine ⟨fun q => absurd rfl q, fun _ => ?_⟩
        by_cases e3 : 17 ≤ (zTT sg n).ky s.1 ∧ (zTT sg n).ky s.1 ≤ 20
        · rw [if_pos e3] at hok
          rw [if_pos e3]
          refine ⟨fun q => absurd q (by decide), fun _ => ?_⟩
          rw [fX7_readPart_J122]
          refine ⟨fun _ => ?_, fun q => absurd rfl q⟩
          rw [fX7_readPart_J147, ct_ky hw.1, zKy_n (by omega), show (zTT sg n).ky s.1 = ((zTT sg n).ky s.1 - 17) + 17 by omega, ← zstp_2]
          exact hpush _ (fun v fv hv => hok v fv rfl hv)
        · rw [if_neg e3] at hok herr ⊢
          refine ⟨fun _ => q10_nx hsg hw.1 (fun v2 f2 c2 => ?_), fun q => absurd rfl q⟩
          have hv2 := zCS_nx hw f2 c2
          have fv2 := zfR_T f2
          rw [hx1]
          by_cases e4 : (zTT sg n).ky s.1 = 14
          · rw [if_pos e4] at hok herr ⊢
            refine ⟨fun q => absurd q (by decide), fun _ => ?_⟩
            rw [fX7_readNegated]
            refine ihN (znx s) v2 _ (show s.2.1 < s.1 + 1 by omega) hlt hv2 (fun v3 f3 e5 hv3 => ⟨fun _ => ?_, fun q => absurd q (by decide)⟩) (fun v3 f3 e5 h3 => ⟨fun q => absurd rfl q, fun _ => ?_⟩)
            · obtain ⟨b1, b2, b3, b4, -⟩ := (zOK_pt hn1 hm d (znx s) hlt).1 e5
              have b4' : (zPt (zTT sg n) d (znx s)).2.2.1 + (s.1 + 1) ≤ s.2.1 + (zPt (zTT sg n) d (znx s)).2.1 := b4
              rw [if_pos e5] at hok
              refine q7_addStep (x := zstp 3) hv3.2.1 (by omega) (fun v4 e4 => ⟨Or.inr rfl, hok v4 ?_ rfl ?_⟩)
              · rw [e4]; exact zfR_trans (zfR_trans fv2 f3) (zfR_st _ _ _ _)
              · rw [e4]; exact zCS_emit hv3 _
            · rw [if_neg e5] at herr
              exact ⟨Or.inl rfl, herr v3 (zfR_trans fv2 f3) e5 h3⟩
          · rw [if_neg e4] at hok herr ⊢
            refine ⟨fun _ => ?_, fun q => absurd rfl q⟩
            rw [fX7_readBracketed]
            refine q7_whole hsg hm (zOK_pt hn1 hm d) ihN (znx s) v2 _ (show s.2.1 < s.1 + 1 by omega) hlt hv2 (fun v3 f3 e5 hv3 => ⟨fun _ => ?_, fun q => absurd q (by decide)⟩) (fun v3 f3 e5 h3 => ⟨fun q => absurd rfl q, fun _ => ?_⟩)
            · rw [if_pos e5] at hok herr
              refine q10_sn (c := 41) hsg hv3.1 (by decide) (fun q => ⟨fun _ => ?_, fun y => absurd y (by decide)⟩) (fun q => ⟨fun y => absurd rfl y, fun _ => ?_⟩)
              · rw [if_pos q] at hok
                refine q10_nx hsg hv3.1 (fun v4 f4 c4 => ⟨Or.inr rfl, hok v4 (zfR_trans (zfR_trans fv2 f3) (zfR_T f4)) rfl (zCS_nx hv3 f4 c4)⟩)
              · rw [if_neg q] at herr
                refine q10_wrong (x := 1) hv3.1 (fun v4 e4 => ⟨Or.inl rfl, Or.inl rfl, herr v4 ?_ ?_ ?_⟩)
                · rw [e4]; exact zfR_trans (zfR_trans fv2 f3) (zfR_8 _ _)
                · intro q'; have q'' : 1 + 16 * (zTT sg n).pl (zAll (zTT sg n) (zPt (zTT sg n) d) (znx s)).2.1 = 0 := q'; omega
                · rw [e4, gI_sI_eq]
            · rw [if_neg e5] at herr
              exact ⟨Or.inl rfl, herr v3 (zfR_trans fv2 f3) e5 h3⟩
    · have e : zPt (zTT sg n) (d + 1) s = (1 + 16 * (zTT sg n).pl s.1, s) := by rw [zPt, if_neg y]
      rw [e] at herr
      exact herr v (by rw [ev]; exact zfR_8 _ _) (fun q => by have q' : 1 + 16 * (zTT sg n).pl s.1 = 0 := q; omega) (by rw [ev, gI_sI_eq])
/-- rules, from their begin on -/
def zRl (T : zTks) (s : zSu) : Nat × zSu := zAll T (zPt T 5) s
theorem zOK_rl {sg : Nat → Nat} {n m : Nat} (hn : n ≤ 1000) (hm : zTm (zTT sg n) m) : zOK (zTT sg n) m 25 (zRl (zTT sg n)) := zOK_all hm (zOK_pt hn hm 5)
theorem q7_readAllT {sg : Nat → Nat} {n m : Nat} (hsg : zSg sg n) (hm : zTm (zTT sg n) m) : zCsub sg n m (fX7_readAllT 0) (zRl (zTT sg n)) :=
  q7_whole hsg hm (zOK_pt hsg.1 hm 5) (q7_part hsg hm 5 7 (by decide) (by decide))

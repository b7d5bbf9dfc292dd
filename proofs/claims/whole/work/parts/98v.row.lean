/-! Level 2: the class's loop over a row's items -/
theorem zMor_s {T : zTks} {j : Nat} (h : ¬ zMor T j = true) : ¬ zSn T 40 j = true ∧ ¬ zNmd T j := by
  unfold zMor at h
  rw [Bool.or_eq_true] at h
  exact ⟨fun q => h (Or.inl q), fun q => h (Or.inr (decide_eq_true q))⟩
theorem zMor_n {T : zTks} {j : Nat} (h : zMor T j = true) (h2 : ¬ zSn T 40 j = true) : zNmd T j := by
  unfold zMor at h
  rw [Bool.or_eq_true] at h
  rcases h with q | q
  · exact absurd q h2
  · exact of_decide_eq_true q
theorem zNmd_s {T : zTks} {j c : Nat} (h : zNmd T j) : ¬ zSn T c j = true := fun q => by
  have := (zSn_t q).1
  have := h.1
  omega
/-- what is known at a head of the class's loop -/
def zHd1 (sg : Nat → Nat) (n b R W : Nat) (nm : Nat → List Nat) (dep : Nat) (op : Nat → Nat) (s : Nat × zRo) (v : zW) : Prop := zCI sg n b R W nm s v ∧ ∀ p, p < dep → gI v 5 p = Int32.ofNat (op p)
/-- all items on one level -/
def zCit (sg : Nat → Nat) (n m b R W : Nat) (nm : Nat → List Nat) (k : Int32 → zW → Prop) (dep : Nat) (P : Nat × zRo → Nat × Nat × zRo) (b1 : Nat → Nat → Nat → Bool) : Prop :=
  ∀ (op : Nat → Nat) (x2 : Nat) (i N : Nat) (s : Nat × zRo) (w : zW), N + i = 1003 → i ≤ s.1 → s.1 ≤ m → zRok W s.2 → zHd1 sg n b R W nm dep op s w → (x2 = 0 ∨ (x2 = 1 ∧ zMor (zTT sg n) s.1 = true)) →
    (∀ v i' N', N' + i' = 1003 → i' ≤ (P s).2.1 → zfI b R w v → (P s).1 = 0 → zHd1 sg n b R W nm dep op (P s).2 v → fX1_readRow_L39 k N' (Int32.ofNat dep) 1 (Int32.ofNat i') v) →
    (∀ v, zfI b R w v → ¬ (P s).1 = 0 → gI v 2 8 = Int32.ofNat (P s).1 → k 0 v) → fX1_readRow_L39 k N (Int32.ofNat dep) (Int32.ofNat x2) (Int32.ofNat i) w
theorem q1_item {sg : Nat → Nat} {n m b R W dep : Nat} {nm : Nat → List Nat} {k : Int32 → zW → Prop} {b0 : Bool} {P : Nat × zRo → Nat × Nat × zRo} (hsg : zSg sg n) (hm : zTm (zTT sg n) m) (hb : b = 40 ∨ b = 80) (hR8 : R < 8) (hW : W ≤ 4) (hnm : zNmok W nm)
    (hd : dep ≤ 3) (hb0 : b0 = true ↔ dep < 3) (hP : b0 = true → zIok m W P ∧ ∀ s, s.1 ≤ m → zRok W s.2 → (P s).1 = 0 → ¬ zMor (zTT sg n) (P s).2.1 = true)
    (hS : b0 = true → zCit sg n m b R W nm k (dep + 1) P (fun _ _ _ => true)) : zCit sg n m b R W nm k dep (zIm (zTT sg n) nm W b0 P) (fun _ _ _ => true) := by
  have hm1 := hm.1
  have hn1 := hsg.1
  intro op x2 i N s w hN hi hj hL hw hx hok herr
  obtain ⟨N', rfl⟩ : ∃ N', N = N' + 1 := ⟨N - 1, by omega⟩
  obtain ⟨⟨h1, h2, h3⟩, hop⟩ := hw
  -- the word that stands here
  have hJ164 : ¬ zSn (zTT sg n) 40 s.1 = true → fX1_readRow_J164 k (fX1_readRow_L39 k N') (Int32.ofNat dep) (Int32.ofNat i) w := by
    intro e
    have ez : zIm (zTT sg n) nm W b0 P s = zNd (zTT sg n) nm W s := if_neg e
    rw [ez] at hok herr
    rw [fX1_readRow_J164]
    refine q1_readNamed hsg hb hR8 hW hnm hL ⟨h1, h2, h3⟩ (fun v f v5 e0 hv => ⟨fun _ => ?_, fun q => absurd q (by decide)⟩) (fun v f e0 hv => ⟨fun q => absurd rfl q, fun _ => herr v f e0 hv⟩)
    rw [zl1, zi_add]
    have hg : s.1 < (zNd (zTT sg n) nm W s).2.1 := by
      have := ((zIm_ok (nm := nm) (b := false) (P := fun s => (0, s)) hn1 hm (fun q => absurd q (by decide))) s hj hL).1
      have e2 : zIm (zTT sg n) nm W false (fun s => (0, s)) s = zNd (zTT sg n) nm W s := if_neg e
      rw [e2] at this
      exact (this e0).1
    exact hok v (i + 1) N' (by omega) (by omega) f e0 ⟨hv, fun p hp => by rw [v5]; exact hop p hp⟩
  -- a bracket, or a word
  have hJ71 : fX1_readRow_J71 k (fX1_readRow_L39 k N') (Int32.ofNat dep) (Int32.ofNat x2) (Int32.ofNat i) w := by
    rw [fX1_readRow_J71]
    refine q10_sn (c := 40) hsg h1 (by decide) (fun e => ⟨fun q => absurd q (by decide), fun _ => ⟨fun q => absurd q (zi_0le (by omega)), fun _ => ⟨fun q => ?_, fun q => ?_⟩⟩⟩) (fun e => ⟨fun _ => ⟨fun _ => hJ164 e, fun q => ⟨fun _ => hJ164 e, fun _ => ?_⟩⟩, fun q => absurd rfl q⟩)
    · have hd3 := (zi_lt (b := 3) (by omega) (by decide)).mp q
      have eb := hb0.mpr hd3
      have hlt := zTm_lt hm hj (by rw [(zSn_t e).1]; decide)
      have ez : zIm (zTT sg n) nm W b0 P s = (if (P (s.1 + 1, s.2)).1 = 0 then (if zSn (zTT sg n) 41 (P (s.1 + 1, s.2)).2.1 = true then zTak (zTT sg n) s.2.1 ((P (s.1 + 1, s.2)).2.1 + 1, (P (s.1 + 1, s.2)).2.2) else (1 + 16 * (zTT sg n).pl (P (s.1 + 1, s.2)).2.1, s)) else P (s.1 + 1, s.2)) := by
        rw [zIm, if_pos e, if_pos eb]
      rw [ez] at hok herr
      obtain ⟨p1, p2⟩ := (hP eb).1 (s.1 + 1, s.2) hlt hL
      have p3 := (hP eb).2 (s.1 + 1, s.2) hlt hL
      rw [h3.1, zi_nat (show dep < 2 ^ 31 by omega)]
      refine ⟨zi_in hd3 (by omega), ?_⟩
      intro w23 e23
      have c23 : zCt sg n s.1 w23 := zCt_of h1 (fun c _ => by rw [e23, gI_sI_ne (by decide)]) (fun c => by rw [e23, gI_sI_ne (by decide)]) (by rw [e23]; rfl)
      have f23 : zfI b R w w23 := by rw [e23]; exact zfI_5 _ _ _ _ _
      have n23 := zCn_T hb hR8 h2 f23
      have l23 : zLr b R s.2 w23 := ⟨by rw [e23, gI_sI_ne (by decide)]; exact h3.1, fun p p1 p2 => by rw [e23, gI_sI_ne (by omega)]; exact h3.2 p p1 p2⟩
      refine q10_nx hsg c23 (fun v2 f2 c2 => ?_)
      have n2 := zCn_T hb hR8 n23 (zfI_T f2)
      have l2 := zLr_T hb l23 f2
      have g2 : zfI b R w v2 := zfI_trans f23 (zfI_T f2)
      have o2 : ∀ p, p < dep + 1 → gI v2 5 p = Int32.ofNat ((fun p => if p = dep then s.2.1 else op p) p) := by
        intro p hp
        show _ = Int32.ofNat (if p = dep then s.2.1 else op p)
        rw [f2.1 5 p (by omega), e23]
        by_cases y : p = dep
        · rw [if_pos y, y, gI_sI_eq]
        · rw [if_neg y, gI_sI_ne2 y]; exact hop p (by omega)
      rw [zl1, zi_add, zi_add]
      refine hS eb (fun p => if p = dep then s.2.1 else op p) 0 (i + 1) N' (s.1 + 1, s.2) v2 (by omega) (show i + 1 ≤ s.1 + 1 by omega) hlt hL ⟨⟨c2, n2, l2⟩, o2⟩ (Or.inl rfl) (fun v3 i' N2 hN2 hi' f3 e3 hv3 => ?_) (fun v3 f3 e3 h8 => ?_)
      · obtain ⟨q1, q2, q3, q4, q5⟩ := p1 e3
        have q1' : s.1 + 1 < (P (s.1 + 1, s.2)).2.1 := q1
        have q4' : s.2.1 ≤ (P (s.1 + 1, s.2)).2.2.1 := q4
        obtain ⟨nm40, nmd⟩ := zMor_s (p3 e3)
        rw [if_pos e3] at hok herr
        obtain ⟨⟨a1, a2, a3⟩, a4⟩ := hv3
        obtain ⟨N3, rfl⟩ : ∃ N3, N2 = N3 + 1 := ⟨N2 - 1, by omega⟩
        have hdep1 : Int32.ofNat (dep + 1) + -1 = Int32.ofNat dep := by
          rw [show (Int32.ofNat (dep + 1) + -1 : Int32) = Int32.ofNat (dep + 1) - 1 from (Int32.sub_eq_add_neg _ _).symm, zl1, zi_sub (by omega), Nat.add_sub_cancel]
        rw [fX1_readRow_L39]
        refine ⟨fun y => absurd ((zi_lt (a := 1000) (by decide) (by omega)).mp y) (by omega), fun _ => ⟨fun y => absurd y (by decide), fun _ => ⟨fun _ => ?_, fun y => absurd ((zi_eq (b := 0) (by omega) (by decide)).mp y) (by omega)⟩⟩⟩
        rw [fX1_readRow_J71]
        refine q10_sn (c := 40) hsg a1 (by decide) (fun y => absurd y nm40) (fun _ => ⟨fun _ => ⟨fun y => absurd y (by decide), fun _ => ⟨fun y => absurd ((zi_le (b := 0) (by omega) (by decide)).mp y) (by omega), fun _ => ?_⟩⟩, fun y => absurd rfl y⟩)
        refine q10_sn (c := 41) hsg a1 (by decide) (fun y => ⟨fun z => absurd z (by decide), fun _ => ?_⟩) (fun y => ⟨fun _ => ?_, fun z => absurd rfl z⟩)
        · rw [if_pos y] at hok herr
          rw [hdep1, zi_nat (show dep < 2 ^ 31 by omega), a4 dep (Nat.lt_succ_self _)]
          show vp_in (Int32.ofNat dep) 3 ∧ fX1_readTimes (Int32.ofNat (if dep = dep then s.2.1 else op dep)) v3 _
          rw [if_pos rfl]
          refine ⟨zi_in hd3 (by omega), q1_readTimes (j := (P (s.1 + 1, s.2)).2.1) hsg hb hR8 hW q3 q4' ⟨a1, a2, a3⟩ (fun v4 f4 v45 e4 hv4 => ⟨fun _ => ?_, fun z => absurd z (by decide)⟩) (fun v4 f4 e4 h8 => ⟨fun z => absurd rfl z, fun _ => herr v4 (zfI_trans (zfI_trans g2 f3) f4) e4 h8⟩)⟩
          rw [zl1, zi_add]
          have hj4 : (zTak (zTT sg n) s.2.1 ((P (s.1 + 1, s.2)).2.1 + 1, (P (s.1 + 1, s.2)).2.2)).2.1 = (P (s.1 + 1, s.2)).2.1 + 1 + 1 := by
            have hr := zNe_r (zTT sg n) ((P (s.1 + 1, s.2)).2.1 + 1) 1 21
            by_cases z : zNe (zTT sg n) ((P (s.1 + 1, s.2)).2.1 + 1) 1 21 = 0
            · rw [zTak, if_pos z]
            · rw [zTak, if_neg z] at e4
              have e4' : zNe (zTT sg n) ((P (s.1 + 1, s.2)).2.1 + 1) 1 21 + 16 * (zTT sg n).pl ((P (s.1 + 1, s.2)).2.1 + 1) = 0 := e4
              omega
          refine hok v4 (i' + 1) N3 (by omega) (by omega) (zfI_trans (zfI_trans g2 f3) f4) e4 ⟨hv4, fun p hp => ?_⟩
          rw [v45, a4 p (by omega)]
          show Int32.ofNat (if p = dep then s.2.1 else op p) = _
          rw [if_neg (by omega)]
        · rw [if_neg y] at herr
          rw [fX1_readRow_J164]
          have ez2 : zNd (zTT sg n) nm W (P (s.1 + 1, s.2)).2 = (1 + 16 * (zTT sg n).pl (P (s.1 + 1, s.2)).2.1, (P (s.1 + 1, s.2)).2) := by
            have em : zMe (zTT sg n) nm W (P (s.1 + 1, s.2)).2.1 = 1 := by rw [zMe, if_neg nmd]
            rw [zNd, if_neg (by rw [em]; decide), em]
          refine q1_readNamed (s := (P (s.1 + 1, s.2)).2) hsg hb hR8 hW hnm q3 ⟨a1, a2, a3⟩ (fun v4 f4 v45 e4 hv4 => ?_) (fun v4 f4 e4 h8 => ⟨fun z => absurd rfl z, fun _ => ?_⟩)
          · rw [ez2] at e4
            have e4' : 1 + 16 * (zTT sg n).pl (P (s.1 + 1, s.2)).2.1 = 0 := e4
            omega
          · rw [ez2] at e4 h8
            exact herr v4 (zfI_trans (zfI_trans g2 f3) f4) e4 h8
      · rw [if_neg e3] at herr
        exact herr v3 (zfI_trans g2 f3) e3 h8
    · have hd3 : ¬ dep < 3 := fun y => q ((zi_lt (b := 3) (by omega) (by decide)).mpr y)
      have eb : ¬ b0 = true := fun y => hd3 (hb0.mp y)
      have ez : zIm (zTT sg n) nm W b0 P s = (5 + 16 * (zTT sg n).pl s.1, s) := by rw [zIm, if_pos e, if_neg eb]
      rw [ez] at herr
      rw [fX1_readRow_J92]
      refine q10_wrong (x := 5) h1 (fun v ev => ⟨Or.inl rfl, herr v (by rw [ev]; exact zfI_8 _ _ _ _) (fun y => ?_) (by rw [ev, gI_sI_eq])⟩)
      have y' : 5 + 16 * (zTT sg n).pl s.1 = 0 := y
      omega
    · rcases hx with hx | ⟨hx, hmor⟩
      · exact absurd (by rw [hx]; rfl) q
      · exact q10_sn (c := 41) hsg h1 (by decide) (fun y => absurd y (zNmd_s (zMor_n hmor e))) (fun _ => ⟨fun _ => hJ164 e, fun y => absurd rfl y⟩)
  rw [fX1_readRow_L39]
  refine ⟨fun y => absurd ((zi_lt (a := 1000) (by decide) (by omega)).mp y) (by omega), fun _ => ⟨fun _ => hJ71, fun q => ⟨fun _ => hJ71, fun q2 => ?_⟩⟩⟩
  rcases hx with hx | ⟨hx, hmor⟩
  · exact absurd (by rw [hx]; rfl) q
  · refine q10_sn (c := 59) hsg h1 (by decide) (fun y => ?_) (fun _ => ⟨fun _ => hJ71, fun y => absurd rfl y⟩)
    by_cases e : zSn (zTT sg n) 40 s.1 = true
    · have e1 := (zSn_t e).2
      have e2 := (zSn_t y).2
      omega
    · exact absurd y (zNmd_s (zMor_n hmor e))
theorem q1_level {sg : Nat → Nat} {n m b R W dep : Nat} {nm : Nat → List Nat} {k : Int32 → zW → Prop} {I : Nat × zRo → Nat × Nat × zRo} (hm : zTm (zTT sg n) m) (hI : zIok m W I) (hS : zCit sg n m b R W nm k dep I (fun _ _ _ => true)) : ∀ f : Nat, ∀ (op : Nat → Nat) (x2 : Nat) (i N : Nat) (s : Nat × zRo) (w : zW), m < s.1 + f → N + i = 1003 → i ≤ s.1 → s.1 ≤ m → zRok W s.2 → zHd1 sg n b R W nm dep op s w → (x2 = 0 ∨ (x2 = 1 ∧ zMor (zTT sg n) s.1 = true)) →
    (∀ v i' N', N' + i' = 1003 → i' ≤ (zIl (zTT sg n) I f s).2.1 → zfI b R w v → (zIl (zTT sg n) I f s).1 = 0 → zHd1 sg n b R W nm dep op (zIl (zTT sg n) I f s).2 v → fX1_readRow_L39 k N' (Int32.ofNat dep) 1 (Int32.ofNat i') v) →
    (∀ v, zfI b R w v → ¬ (zIl (zTT sg n) I f s).1 = 0 → gI v 2 8 = Int32.ofNat (zIl (zTT sg n) I f s).1 → k 0 v) → fX1_readRow_L39 k N (Int32.ofNat dep) (Int32.ofNat x2) (Int32.ofNat i) w := by
  intro f
  induction f with
  | zero => intro op x2 i N s w hf hN hi hj; omega
  | succ f ih =>
    intro op x2 i N s w hf hN hi hj hL hw hx hok herr
    obtain ⟨p1, p2⟩ := hI s hj hL
    refine hS op x2 i N s w hN hi hj hL hw hx (fun v i' N' hN' hi' fv e0 hv => ?_) (fun v fv e0 h8 => ?_)
    · obtain ⟨c1, c2, c3, c4, c5⟩ := p1 e0
      by_cases e2 : zMor (zTT sg n) (I s).2.1 = true
      · have ez : zIl (zTT sg n) I (f + 1) s = zIl (zTT sg n) I f (I s).2 := by rw [zIl, if_pos e0, if_pos e2]
        rw [ez] at hok herr
        exact ih op 1 i' N' (I s).2 v (by omega) hN' hi' c2 c3 hv (Or.inr ⟨rfl, e2⟩) (fun v2 i2 N2 a1 a2 a3 a4 a5 => hok v2 i2 N2 a1 a2 (zfI_trans fv a3) a4 a5) (fun v2 a1 a2 a3 => herr v2 (zfI_trans fv a1) a2 a3)
      · have ez : zIl (zTT sg n) I (f + 1) s = I s := by rw [zIl, if_pos e0, if_neg e2]
        rw [ez] at hok
        exact hok v i' N' hN' hi' fv e0 hv
    · have ez : zIl (zTT sg n) I (f + 1) s = I s := by rw [zIl, if_neg e0]
      rw [ez] at herr
      exact herr v fv e0 h8
theorem q1_items {sg : Nat → Nat} {n m b R W : Nat} {nm : Nat → List Nat} {k : Int32 → zW → Prop} (hsg : zSg sg n) (hm : zTm (zTT sg n) m) (hb : b = 40 ∨ b = 80) (hR8 : R < 8) (hW : W ≤ 4) (hnm : zNmok W nm) : ∀ d dep, dep + d = 3 → zCit sg n m b R W nm k dep (zIs (zTT sg n) nm W d) (fun _ _ _ => true) := by
  have hm1 := hm.1
  have hn1 := hsg.1
  intro d
  induction d with
  | zero =>
    intro dep hd
    have hI := zIm_ok (W := W) (nm := nm) (b := false) (P := fun s => (0, s)) hn1 hm (fun q => absurd q (by decide))
    have hS := q1_item (k := k) (b0 := false) (P := fun s => (0, s)) hsg hm hb hR8 hW hnm (dep := dep) (by omega) ⟨fun q => absurd q (by decide), fun q => by omega⟩ (fun q => absurd q (by decide)) (fun q => absurd q (by decide))
    intro op x2 i N s w hN hi hj hL hw hx hok herr
    exact q1_level hm hI hS 1001 op x2 i N s w (by omega) hN hi hj hL hw hx hok herr
  | succ d ih =>
    intro dep hd
    have ho := zIs_ok (W := W) (nm := nm) hn1 hm d
    have hI := zIm_ok (W := W) (nm := nm) (b := true) (P := zIs (zTT sg n) nm W d) hn1 hm (fun _ => ho.1)
    have hS := q1_item (k := k) (b0 := true) (P := zIs (zTT sg n) nm W d) hsg hm hb hR8 hW hnm (dep := dep) (by omega) ⟨fun _ => by omega, fun _ => rfl⟩ (fun _ => ho) (fun _ => ih (dep + 1) (by omega))
    intro op x2 i N s w hN hi hj hL hw hx hok herr
    exact q1_level hm hI hS 1001 op x2 i N s w (by omega) hN hi hj hL hw hx hok herr

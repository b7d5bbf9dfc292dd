/-! Level 2: the reference reads a row -/
def zLq (L : zRo) (v : zW) : Prop := gI v 200 16 = Int32.ofNat L.1 ∧ ∀ i, i < L.1 → gI v 215 i = Int32.ofNat (L.2 i)
theorem zLq_c {L L' : zRo} {v : zW} (h : zLq L v) (e1 : L'.1 = L.1) (e2 : ∀ i, i < L.1 → L'.2 i = L.2 i) : zLq L' v :=
  ⟨by rw [e1]; exact h.1, fun i h2 => by rw [e1] at h2; rw [e2 i h2]; exact h.2 i h2⟩
/-- words put behind -/
def zfU (w v : zW) : Prop := (∀ a c, ¬ (a = 200 ∧ c = 16) → a ≠ 215 → gI v a c = gI w a c) ∧ v.2 = w.2
theorem zfU_refl (w : zW) : zfU w w := ⟨fun _ _ _ _ => rfl, rfl⟩
theorem zfU_trans {u v w : zW} (h : zfU u v) (h2 : zfU v w) : zfU u w := ⟨fun a c q1 q2 => (h2.1 a c q1 q2).trans (h.1 a c q1 q2), h2.2.trans h.2⟩
/-- what reading a row changes -/
def zfJ (w v : zW) : Prop := (∀ a c, ¬ (a = 200 ∧ (c = 7 ∨ c = 8 ∨ c = 16)) → a ≠ 215 → gI v a c = gI w a c) ∧ v.2 = w.2
theorem zfJ_refl (w : zW) : zfJ w w := ⟨fun _ _ _ _ => rfl, rfl⟩
theorem zfJ_trans {u v w : zW} (h : zfJ u v) (h2 : zfJ v w) : zfJ u w := ⟨fun a c q1 q2 => (h2.1 a c q1 q2).trans (h.1 a c q1 q2), h2.2.trans h.2⟩
theorem zfJ_U {w v : zW} (h : zfU w v) : zfJ w v := ⟨fun a c q1 q2 => h.1 a c (by omega) q2, h.2⟩
theorem zfJ_s (w : zW) {c : Nat} (x : Int32) (h : c = 7 ∨ c = 8 ∨ c = 16) : zfJ w (sI w 200 c x) := ⟨fun a d q1 _ => by rw [gI_sI, if_neg (by omega)], rfl⟩
theorem zfK_J {w v : zW} (h : zfJ w v) : zfK w v := ⟨fun c => ⟨h.1 204 c (by omega) (by omega), h.1 205 c (by omega) (by omega)⟩, fun c => ⟨by rw [gL, gL, h.2], by rw [gL, gL, h.2]⟩⟩
theorem q12_puts {x : Nat} {L : zRo} {w : zW} {k : zW → Prop} (hL : L.1 ≤ 61) (h : zLq L w) (hk : ∀ v, zfU w v → zLq (zput L x) v → k v) : fX12_puts (Int32.ofNat x) w k := by
  rw [fX12_puts, h.1]
  refine ⟨fun q => ?_, fun q => ?_⟩
  · have q' := (zi_lt (a := 60) (by decide) (by omega)).mp q
    refine hk w (zfU_refl w) ?_
    have e : zput L x = L := if_neg (by omega)
    rw [e]; exact h
  · have q' : L.1 ≤ 60 := by
      by_cases y : L.1 ≤ 60
      · exact y
      · exact absurd ((zi_lt (a := 60) (by decide) (by omega)).mpr (by omega)) q
    rw [zi_nat (show L.1 < 2 ^ 31 by omega)]
    refine ⟨zi_in (by omega) (by omega), ?_⟩
    intro w3 e3 w4 e4
    have e : zput L x = (L.1 + 1, fun i => if i = L.1 then x else L.2 i) := if_pos q'
    rw [e] at hk
    rw [e3, gI_sI_ne (by decide), h.1, zl1, zi_add] at e4
    refine hk w4 ⟨fun a c q1 q2 => by rw [e4, gI_sI, if_neg q1, gI_sI_ne q2], by rw [e4]; rfl⟩ ⟨by rw [e4, gI_sI_eq], fun i hi => ?_⟩
    have hi' : i < L.1 + 1 := hi
    rw [e4, gI_sI_ne (by decide)]
    show _ = Int32.ofNat (if i = L.1 then x else L.2 i)
    by_cases y : i = L.1
    · rw [if_pos y, y, gI_sI_eq]
    · rw [if_neg y, gI_sI_ne2 y]; exact h.2 i (by omega)
theorem q12_repeats0 {x : Int32} {w : zW} {k : zW → Prop} (hk : k w) : fX12_repeats x 0 w k := by
  rw [fX12_repeats]
  intro v1 e1
  refine ⟨1, ?_⟩
  rw [fX12_repeats_L10]
  exact ⟨fun _ => hk, fun q => absurd (by decide) q⟩
theorem q12_repeats {W fr t : Nat} {L : zRo} {w : zW} {k : zW → Prop} (hL : zRok W L) (hf : fr ≤ L.1) (ht : 1 ≤ t) (ht2 : t ≤ 20) (h : zLq L w) (hk : ∀ v, zfU w v → zLq (zrep fr t L) v → k v) : fX12_repeats (Int32.ofNat fr) (Int32.ofNat t) w k := by
  have hL61 := hL.1
  rw [fX12_repeats]
  intro v1 e1
  rw [h.1, zi_sub hf] at e1
  rw [e1]
  -- a part's copies, from a word on
  have hin : ∀ (g : Int32 → Int32 → Int32 → Int32 → zW → Prop) (i : Nat), 1 ≤ i → i < t → (∀ v, zfU w v → zLq (zmn 61 (fr + (L.1 - fr) * (i + 1)), fun j => if j < fr then L.2 j else L.2 (fr + (j - fr) % (L.1 - fr))) v → g (Int32.ofNat fr) (Int32.ofNat t) (Int32.ofNat (L.1 - fr)) (Int32.ofNat (i + 1)) v) →
      ∀ (d q : Nat) (v : zW), q + d = L.1 - fr → zfU w v → zLq (zmn 61 (fr + (L.1 - fr) * i + q), fun j => if j < fr then L.2 j else L.2 (fr + (j - fr) % (L.1 - fr))) v → fX12_repeats_L19 k g (d + 1) (Int32.ofNat fr) (Int32.ofNat t) (Int32.ofNat (L.1 - fr)) (Int32.ofNat i) (Int32.ofNat q) v := by
    intro g i hi1 hit hg d
    induction d with
    | zero =>
      intro q v hq fv hv
      rw [fX12_repeats_L19]
      try dsimp only
      refine ⟨fun _ => ?_, fun z => absurd ((zi_le (by omega) (by omega)).mpr (by omega)) z⟩
      rw [zl1, zi_add]
      refine hg v fv ?_
      rw [Nat.mul_succ, ← Nat.add_assoc, ← show q = L.1 - fr by omega]
      rw [show L.1 - fr = q by omega] at hv
      exact hv
    | succ d ih =>
      intro q v hq fv hv
      have hmi : (L.1 - fr) * 1 ≤ (L.1 - fr) * i := Nat.mul_le_mul_left _ hi1
      rw [Nat.mul_one] at hmi
      rw [fX12_repeats_L19]
      try dsimp only
      refine ⟨fun z => absurd ((zi_le (by omega) (by omega)).mp z) (by omega), fun _ => ?_⟩
      have hlen : fr + q < zmn 61 (fr + (L.1 - fr) * i + q) := by
        unfold zmn
        by_cases y : 61 ≤ fr + (L.1 - fr) * i + q
        · rw [if_pos y]; omega
        · rw [if_neg y]; omega
      have hsrc := hv.2 (fr + q) hlen
      have hsrc' : gI v 215 (fr + q) = Int32.ofNat (L.2 (fr + q)) := by
        rw [hsrc]
        show Int32.ofNat (if fr + q < fr then L.2 (fr + q) else L.2 (fr + (fr + q - fr) % (L.1 - fr))) = _
        rw [if_neg (by omega), show fr + q - fr = q by omega, Nat.mod_eq_of_lt (by omega)]
      rw [zi_add, zi_nat (show fr + q < 2 ^ 31 by omega), hsrc']
      refine ⟨zi_in (by omega) (by omega), q12_puts ((zmn_le _ _).1) hv (fun v2 f2 h2 => ?_)⟩
      rw [zl1, zi_add]
      refine ih (q + 1) v2 (by omega) (zfU_trans fv f2) (zLq_c h2 ?_ (fun j hj => ?_))
      · show zmn 61 (fr + (L.1 - fr) * i + (q + 1)) = (zput (zmn 61 (fr + (L.1 - fr) * i + q), _) _).1
        unfold zput
        by_cases y : 61 ≤ fr + (L.1 - fr) * i + q
        · rw [zmn_l y, zmn_l (show 61 ≤ fr + (L.1 - fr) * i + (q + 1) by omega), if_neg (show ¬ (61 ≤ 60) by omega)]
        · rw [zmn_r (show fr + (L.1 - fr) * i + q ≤ 61 by omega), zmn_r (show fr + (L.1 - fr) * i + (q + 1) ≤ 61 by omega), if_pos (show fr + (L.1 - fr) * i + q ≤ 60 by omega)]
          rfl
      · show (if j < fr then L.2 j else L.2 (fr + (j - fr) % (L.1 - fr))) = (zput (zmn 61 (fr + (L.1 - fr) * i + q), fun j => if j < fr then L.2 j else L.2 (fr + (j - fr) % (L.1 - fr))) (L.2 (fr + q))).2 j
        unfold zput
        by_cases y : 61 ≤ fr + (L.1 - fr) * i + q
        · rw [zmn_l y, if_neg (show ¬ (61 ≤ 60) by omega)]
        · rw [zmn_r (show fr + (L.1 - fr) * i + q ≤ 61 by omega), if_pos (show fr + (L.1 - fr) * i + q ≤ 60 by omega)]
          show _ = if j = fr + (L.1 - fr) * i + q then L.2 (fr + q) else (if j < fr then L.2 j else L.2 (fr + (j - fr) % (L.1 - fr)))
          by_cases z : j = fr + (L.1 - fr) * i + q
          · rw [if_pos z, z, if_neg (by omega), show fr + (L.1 - fr) * i + q - fr = (L.1 - fr) * i + q by omega, Nat.mul_add_mod, Nat.mod_eq_of_lt (by omega)]
          · rw [if_neg z]
  have hgo : ∀ (d i : Nat) (v : zW), i + d = t → 1 ≤ i → zfU w v → zLq (zmn 61 (fr + (L.1 - fr) * i), fun j => if j < fr then L.2 j else L.2 (fr + (j - fr) % (L.1 - fr))) v → fX12_repeats_L10 k (d + 1) (Int32.ofNat fr) (Int32.ofNat t) (Int32.ofNat (L.1 - fr)) (Int32.ofNat i) v := by
    intro d
    induction d with
    | zero =>
      intro i v hi h1 fv hv
      have e : i = t := by omega
      subst e
      rw [fX12_repeats_L10]
      exact ⟨fun _ => hk v fv hv, fun z => absurd ((zi_le (by omega) (by omega)).mpr (Nat.le_refl _)) z⟩
    | succ d ih =>
      intro i v hi h1 fv hv
      rw [fX12_repeats_L10]
      refine ⟨fun z => absurd ((zi_le (by omega) (by omega)).mp z) (by omega), fun _ => ⟨L.1 - fr + 1, ?_⟩⟩
      exact hin _ i h1 (by omega) (fun v2 f2 h2 => ih (i + 1) v2 (by omega) (by omega) f2 h2) (L.1 - fr) 0 v (by omega) fv hv
  have hst : zLq (zmn 61 (fr + (L.1 - fr) * 1), fun j => if j < fr then L.2 j else L.2 (fr + (j - fr) % (L.1 - fr))) w := by
    refine zLq_c h ?_ (fun j j2 => ?_)
    · show zmn 61 (fr + (L.1 - fr) * 1) = L.1
      rw [Nat.mul_one, zmn_r (by omega)]; omega
    · show (if j < fr then L.2 j else L.2 (fr + (j - fr) % (L.1 - fr))) = L.2 j
      by_cases e : j < fr
      · rw [if_pos e]
      · rw [if_neg e, Nat.mod_eq_of_lt (by omega), show fr + (j - fr) = j by omega]
  exact ⟨t - 1 + 1, hgo (t - 1) 1 w (by omega) (Nat.le_refl _) (zfU_refl w) hst⟩
/-- the reference stands in a row -/
def zRI (sg : Nat → Nat) (n m W : Nat) (nm : Nat → List Nat) (s : Nat × zRo) (v : zW) : Prop := zRtk sg n m s.1 v ∧ zLq s.2 v ∧ zNm37 4 W nm v ∧ gI v 210 30 = Int32.ofNat W
theorem zRtk_J {sg : Nat → Nat} {n m j j' : Nat} {w v : zW} (h : zRtk sg n m j w) (f : zfJ w v) (hj : j' ≤ m) (h8 : gI v 200 8 = gI w 200 8) (h7 : gI v 200 7 = Int32.ofNat j') : zRtk sg n m j' v :=
  zRt_K h (zfK_J f) hj (h8.trans h.2.2.2.1) h7
theorem zRI_7 {sg : Nat → Nat} {n m W : Nat} {nm : Nat → List Nat} {s : Nat × zRo} {w : zW} {j : Nat} (h : zRI sg n m W nm s w) (hj : j ≤ m) : zRI sg n m W nm (j, s.2) (sI w 200 7 (Int32.ofNat j)) :=
  ⟨zRt_7 h.1 hj, ⟨by rw [gI_sI_ne2 (by decide)]; exact h.2.1.1, fun i hi => by rw [gI_sI_ne (by decide)]; exact h.2.1.2 i hi⟩, fun o ho => h.2.2.1 o ho, by rw [gI_sI_ne (by decide)]; exact h.2.2.2⟩
theorem zRI_U {sg : Nat → Nat} {n m W : Nat} {nm : Nat → List Nat} {s : Nat × zRo} {w v : zW} {L : zRo} (h : zRI sg n m W nm s w) (f : zfU w v) (hL : zLq L v) : zRI sg n m W nm (s.1, L) v :=
  ⟨zRtk_J h.1 (zfJ_U f) h.1.2.2.1 (f.1 200 8 (by omega) (by omega)) ((f.1 200 7 (by omega) (by omega)).trans h.1.2.2.2.2), hL, fun o ho => by rw [gL, f.2]; exact h.2.2.1 o ho, (f.1 210 30 (by omega) (by omega)).trans h.2.2.2⟩
def zRit (sg : Nat → Nat) (n m W : Nat) (nm : Nat → List Nat) (F : zW → (zW → Prop) → Prop) (P : Nat × zRo → Nat × Nat × zRo) : Prop :=
  ∀ (s : Nat × zRo) (w : zW) (k : zW → Prop), s.1 ≤ m → zRok W s.2 → zRI sg n m W nm s w → (∀ v, zfJ w v → (P s).1 = 0 → zRI sg n m W nm (P s).2 v → k v) → (∀ v, zfJ w v → ¬ (P s).1 = 0 → zRf (P s).1 v → k v) → F w k
/-- a number of times, behind a word or a bracket -/
theorem q12_tak {sg : Nat → Nat} {n m W fr : Nat} {nm : Nat → List Nat} {s : Nat × zRo} {w : zW} {k : zW → Prop} (hsg : zSg sg n) (hL : zRok W s.2) (hf : fr ≤ s.2.1) (h : zRI sg n m W nm s w)
    (hok : ∀ v, zfJ w v → (zTak (zTT sg n) fr s).1 = 0 → zRI sg n m W nm (zTak (zTT sg n) fr s).2 v → k v) (herr : ∀ v, zfJ w v → ¬ (zTak (zTT sg n) fr s).1 = 0 → zRf (zTak (zTT sg n) fr s).1 v → k v) :
    fX12_takeNumber 1 20 w (fun r v => fX12_repeats (Int32.ofNat fr) r v k) := by
  have hn1 := hsg.1
  have hr := zNe_r (zTT sg n) s.1 1 21
  refine q12_takeNumber (lo := 1) (H := 21) hsg h.1 (by decide) (zhi_n (h := 20) (by decide)) (fun e => ?_) (fun e => ?_)
  · obtain ⟨a1, a2, a3⟩ := zNe_0 e
    have ez : zTak (zTT sg n) fr s = (0, s.1 + 1, zrep fr ((zTT sg n).nu s.1) s.2) := if_pos e
    rw [ez] at hok
    have hlt := zTm_lt (rt_m h.1) h.1.2.2.1 (by rw [a1]; decide)
    have h7 := zRI_7 (j := s.1 + 1) h hlt
    refine q12_repeats hL hf a2 (by omega) h7.2.1 (fun v f hv => hok v (zfJ_trans (zfJ_s _ _ (by omega)) (zfJ_U f)) rfl ?_)
    exact zRI_U h7 f hv
  · have ez : zTak (zTT sg n) fr s = (zNe (zTT sg n) s.1 1 21 + 16 * (zTT sg n).pl s.1, s) := if_neg e
    rw [ez] at herr
    refine q12_repeats0 (herr _ (zfJ_s _ _ (by omega)) (fun y => ?_) (rf_wrong _ hn1 ⟨by omega, by omega⟩))
    have y' : zNe (zTT sg n) s.1 1 21 + 16 * (zTT sg n).pl s.1 = 0 := y
    omega
theorem q12_level {sg : Nat → Nat} {n m W dep : Nat} {nm : Nat → List Nat} {zX : Int32 → zW → (zW → Prop) → Prop} {b0 : Bool} {P : Nat × zRo → Nat × Nat × zRo} (hsg : zSg sg n) (hm : zTm (zTT sg n) m) (hW : W ≤ 4) (hnm : zNmok W nm)
    (hd : dep ≤ 3) (hb0 : b0 = true ↔ dep < 3) (hP : b0 = true → zIok m W P) (hS : b0 = true → zRit sg n m W nm (zX (Int32.ofNat (dep + 1))) P) : ∀ f : Nat, ∀ (s : Nat × zRo) (w : zW) (k : zW → Prop), m < s.1 + f → s.1 ≤ m → zRok W s.2 → zRI sg n m W nm s w →
    (∀ v, zfJ w v → (zIl (zTT sg n) (zIm (zTT sg n) nm W b0 P) f s).1 = 0 → zRI sg n m W nm (zIl (zTT sg n) (zIm (zTT sg n) nm W b0 P) f s).2 v → k v) → (∀ v, zfJ w v → ¬ (zIl (zTT sg n) (zIm (zTT sg n) nm W b0 P) f s).1 = 0 → zRf (zIl (zTT sg n) (zIm (zTT sg n) nm W b0 P) f s).1 v → k v) → fX12_readItems_L0 zX k f (Int32.ofNat dep) w := by
  have hn1 := hsg.1
  have hI := zIm_ok (W := W) (nm := nm) (b := b0) (P := P) hn1 hm hP
  intro f
  induction f with
  | zero => intro s w k hf hj; omega
  | succ f ih =>
    intro s w k hf hj hL hw hok herr
    obtain ⟨c1, c2⟩ := hI s hj hL
    have h4 := zTT_kd4 sg n (s.1 + 1)
    -- behind an item
    have hJok : ∀ v, zfJ w v → (zIm (zTT sg n) nm W b0 P s).1 = 0 → zRI sg n m W nm (zIm (zTT sg n) nm W b0 P s).2 v → fX12_readItems_J113 zX k (fX12_readItems_L0 zX k f) (Int32.ofNat dep) v := by
      intro v fv e hv
      obtain ⟨d1, d2, d3, d4, d5⟩ := c1 e
      have hmore : zMor (zTT sg n) (zIm (zTT sg n) nm W b0 P s).2.1 = true → fX12_readItems_L0 zX k f (Int32.ofNat dep) v := fun e2 => by
        have ez : zIl (zTT sg n) (zIm (zTT sg n) nm W b0 P) (f + 1) s = zIl (zTT sg n) (zIm (zTT sg n) nm W b0 P) f (zIm (zTT sg n) nm W b0 P s).2 := by rw [zIl, if_pos e, if_pos e2]
        rw [ez] at hok herr
        exact ih _ v k (by omega) d2 d3 hv (fun v2 f2 => hok v2 (zfJ_trans fv f2)) (fun v2 f2 => herr v2 (zfJ_trans fv f2))
      rw [fX12_readItems_J113]
      refine ⟨fun q => absurd hv.1.2.2.2.1 q, fun _ => q12_sn (c := 40) hsg hv.1 (by decide) (fun y => ⟨fun _ => hmore ?_, fun q => absurd q (by decide)⟩) (fun y => ⟨fun q => absurd rfl q, fun _ => q12_isName hv.1 (fun y2 => ⟨fun _ => hmore ?_, fun q => absurd q (by decide)⟩) (fun y2 => ⟨fun q => absurd rfl q, fun _ => ?_⟩)⟩)⟩
      · rw [zMor, y]; rfl
      · rw [zMor, decide_eq_true y2, Bool.or_true]
      · have e2 : ¬ zMor (zTT sg n) (zIm (zTT sg n) nm W b0 P s).2.1 = true := fun q => y2 (zMor_n q y)
        have ez : zIl (zTT sg n) (zIm (zTT sg n) nm W b0 P) (f + 1) s = zIm (zTT sg n) nm W b0 P s := by rw [zIl, if_pos e, if_neg e2]
        rw [ez] at hok
        exact hok v fv e hv
    have hJerr : ∀ v, zfJ w v → ¬ (zIm (zTT sg n) nm W b0 P s).1 = 0 → zRf (zIm (zTT sg n) nm W b0 P s).1 v → k v := by
      intro v fv e hv
      have ez : zIl (zTT sg n) (zIm (zTT sg n) nm W b0 P) (f + 1) s = zIm (zTT sg n) nm W b0 P s := by rw [zIl, if_neg e]
      rw [ez] at herr
      exact herr v fv e hv
    have hJ113F : ∀ v, zfJ w v → ¬ (zIm (zTT sg n) nm W b0 P s).1 = 0 → zRf (zIm (zTT sg n) nm W b0 P s).1 v → fX12_readItems_J113 zX k (fX12_readItems_L0 zX k f) (Int32.ofNat dep) v := fun v fv e hv => by
      rw [fX12_readItems_J113]
      exact ⟨fun _ => hJerr v fv e hv, fun q => absurd q (rf_ne hv)⟩
    rw [fX12_readItems_L0]
    intro v1 e1
    rw [hw.2.1.1] at e1
    rw [e1]
    refine q12_sn (c := 40) hsg hw.1 (by decide) (fun e => ⟨fun q => absurd q (by decide), fun _ => ⟨fun q => ?_, fun q => ?_⟩⟩) (fun e => ⟨fun _ => ?_, fun q => absurd rfl q⟩)
    · have hd3 : dep < 3 := by
        by_cases y : dep = 3
        · exact absurd (by rw [y]; rfl) q
        · omega
      have eb := hb0.mpr hd3
      have hlt := zTm_lt hm hj (by rw [(zSn_t e).1]; decide)
      have ez : zIm (zTT sg n) nm W b0 P s = (if (P (s.1 + 1, s.2)).1 = 0 then (if zSn (zTT sg n) 41 (P (s.1 + 1, s.2)).2.1 = true then zTak (zTT sg n) s.2.1 ((P (s.1 + 1, s.2)).2.1 + 1, (P (s.1 + 1, s.2)).2.2) else (1 + 16 * (zTT sg n).pl (P (s.1 + 1, s.2)).2.1, s)) else P (s.1 + 1, s.2)) := by
        rw [zIm, if_pos e, if_pos eb]
      rw [ez] at hJok hJ113F
      obtain ⟨p1, p2⟩ := hP eb (s.1 + 1, s.2) hlt hL
      intro w17 e17
      rw [hw.1.2.2.2.2, zl1, zi_add] at e17
      rw [zl1, zi_add, e17]
      have f17 : zfJ w (sI w 200 7 (Int32.ofNat (s.1 + 1))) := zfJ_s _ _ (by omega)
      refine hS eb (s.1 + 1, s.2) _ _ hlt hL (zRI_7 hw hlt) (fun v2 f2 e2 hv2 => ?_) (fun v2 f2 e2 hv2 => ?_)
      · obtain ⟨q1, q2, q3, q4, q5⟩ := p1 e2
        rw [if_pos e2] at hJok hJ113F
        refine q12_takeSign (c := 41) hsg hv2.1 (by decide) (fun y => ?_) (fun y => ?_)
        · rw [if_pos y] at hJok hJ113F
          have hlt2 := zTm_lt hm q2 (by rw [(zSn_t y).1]; decide)
          have h3 := zRI_7 (j := (P (s.1 + 1, s.2)).2.1 + 1) hv2 hlt2
          have f3 : zfJ v2 (sI v2 200 7 (Int32.ofNat ((P (s.1 + 1, s.2)).2.1 + 1))) := zfJ_s _ _ (by omega)
          exact q12_tak (s := ((P (s.1 + 1, s.2)).2.1 + 1, (P (s.1 + 1, s.2)).2.2)) hsg q3 q4 h3 (fun v4 f4 => hJok v4 (zfJ_trans (zfJ_trans (zfJ_trans f17 f2) f3) f4)) (fun v4 f4 => hJ113F v4 (zfJ_trans (zfJ_trans (zfJ_trans f17 f2) f3) f4))
        · rw [if_neg y] at hJ113F
          have hf := rf_wrong (sg := sg) (n := n) (x := 1) (j := (P (s.1 + 1, s.2)).2.1) v2 hn1 (by omega)
          refine q12_takeNumberF hf (q12_repeats0 (hJ113F _ (zfJ_trans (zfJ_trans f17 f2) (zfJ_s _ _ (by omega))) (fun z => ?_) hf))
          have z' : 1 + 16 * (zTT sg n).pl (P (s.1 + 1, s.2)).2.1 = 0 := z
          omega
      · rw [if_neg e2] at hJ113F
        exact q12_takeSignF hv2 (q12_takeNumberF hv2 (q12_repeats0 (hJ113F v2 (zfJ_trans f17 f2) e2 hv2)))
    · have hd3 : dep = 3 := (zi_eq (b := 3) (by omega) (by decide)).mp q
      have eb : ¬ b0 = true := fun y => by have := hb0.mp y; omega
      have ez : zIm (zTT sg n) nm W b0 P s = (5 + 16 * (zTT sg n).pl s.1, s) := by rw [zIm, if_pos e, if_neg eb]
      rw [ez] at hJerr
      refine q12_wrong (x := 5) hw.1 (hJerr _ (zfJ_s _ _ (by omega)) (fun z => ?_) (rf_wrong _ hn1 (by omega)))
      have z' : 5 + 16 * (zTT sg n).pl s.1 = 0 := z
      omega
    · have ez : zIm (zTT sg n) nm W b0 P s = zNd (zTT sg n) nm W s := if_neg e
      rw [ez] at hJok hJ113F
      have h30 : gI w 210 (30 : Int32).toNatClampNeg = Int32.ofNat W := hw.2.2.2
      rw [h30]
      refine q12_takeTold (a := 4) hsg hw.1 (by omega) hw.2.2.1 hnm (fun e2 => ?_) (fun e2 => ?_)
      · obtain ⟨m1, m2⟩ := zMe_0 e2
        have hlt := zTm_lt hm hj (by rw [m1.1]; decide)
        have h3 := zRI_7 (j := s.1 + 1) hw hlt
        have f3 : zfJ w (sI w 200 7 (Int32.ofNat (s.1 + 1))) := zfJ_s _ _ (by omega)
        have ez2 : zNd (zTT sg n) nm W s = (if (zTT sg n).kd (s.1 + 1) = 2 then zTak (zTT sg n) s.2.1 (s.1 + 1, zput s.2 (zIx nm W ((zTT sg n).nm s.1))) else (0, s.1 + 1, zput s.2 (zIx nm W ((zTT sg n).nm s.1)))) := if_pos e2
        rw [ez2] at hJok hJ113F
        refine q12_puts hL.1 h3.2.1 (fun v4 f4 h4' => ?_)
        have h5 : zRI sg n m W nm (s.1 + 1, zput s.2 (zIx nm W ((zTT sg n).nm s.1))) v4 := zRI_U h3 f4 h4'
        have g5 : zfJ w v4 := zfJ_trans f3 (zfJ_U f4)
        refine ⟨fun q => absurd h5.1.2.2.2.1 q, fun _ => ⟨(rt_in h5.1).1, ?_⟩⟩
        rw [(rt_in h5.1).2, rt_kd h5.1]
        refine ⟨fun q => ?_, fun q => ?_⟩
        · have e3 : ¬ (zTT sg n).kd (s.1 + 1) = 2 := fun y => q (by show Int32.ofNat ((zTT sg n).kd (s.1 + 1)) = 2; rw [y]; rfl)
          rw [if_neg e3] at hJok
          exact hJok v4 g5 rfl h5
        · have e3 : (zTT sg n).kd (s.1 + 1) = 2 := (zi_eq (b := 2) (by omega) (by decide)).mp q
          rw [if_pos e3] at hJok hJ113F
          exact q12_tak (s := (s.1 + 1, zput s.2 (zIx nm W ((zTT sg n).nm s.1)))) hsg (zput_ok hL m2) (zput_le s.2 _ hL.1).1 h5 (fun v5 f5 => hJok v5 (zfJ_trans g5 f5)) (fun v5 f5 => hJ113F v5 (zfJ_trans g5 f5))
      · have hr := zMe_r (zTT sg n) nm W s.1
        have ez2 : zNd (zTT sg n) nm W s = (zMe (zTT sg n) nm W s.1 + 16 * (zTT sg n).pl s.1, s) := if_neg e2
        rw [ez2] at hJ113F
        have hf := rf_wrong (sg := sg) (n := n) (x := zMe (zTT sg n) nm W s.1) (j := s.1) w hn1 ⟨by omega, by omega⟩
        refine q12_puts (x := 0) (L := s.2) hL.1 ⟨by rw [gI_sI_ne2 (by decide)]; exact hw.2.1.1, fun i hi => by rw [gI_sI_ne (by decide)]; exact hw.2.1.2 i hi⟩ (fun v4 f4 h4' => ?_)
        have hf4 : zRf (zMe (zTT sg n) nm W s.1 + 16 * (zTT sg n).pl s.1) v4 := rf_of hf (f4.1 200 8 (by omega) (by omega))
        refine ⟨fun _ => hJ113F v4 (zfJ_trans (zfJ_s _ _ (by omega)) (zfJ_U f4)) (fun z => ?_) hf4, fun q => absurd q (rf_ne hf4)⟩
        have z' : zMe (zTT sg n) nm W s.1 + 16 * (zTT sg n).pl s.1 = 0 := z
        omega
theorem q12_items {sg : Nat → Nat} {n m W : Nat} {nm : Nat → List Nat} (hsg : zSg sg n) (hm : zTm (zTT sg n) m) (hW : W ≤ 4) (hnm : zNmok W nm) : ∀ d dep N, dep + d = 3 → d < N → zRit sg n m W nm (fX12_readItemsN N (Int32.ofNat dep)) (zIs (zTT sg n) nm W d) := by
  have hm1 := hm.1
  have hn1 := hsg.1
  intro d
  induction d with
  | zero =>
    intro dep N hd hN s w k hj hL hw hok herr
    obtain ⟨N', rfl⟩ : ∃ N', N = N' + 1 := ⟨N - 1, by omega⟩
    rw [fX12_readItemsN]
    try dsimp only
    rw [fX12_readItems]
    exact ⟨1001, q12_level (b0 := false) (P := fun s => (0, s)) hsg hm hW hnm (by omega) ⟨fun q => absurd q (by decide), fun q => by omega⟩ (fun q => absurd q (by decide)) (fun q => absurd q (by decide)) 1001 s w k (by omega) hj hL hw hok herr⟩
  | succ d ih =>
    intro dep N hd hN s w k hj hL hw hok herr
    obtain ⟨N', rfl⟩ : ∃ N', N = N' + 1 := ⟨N - 1, by omega⟩
    have ho := zIs_ok (W := W) (nm := nm) hn1 hm d
    rw [fX12_readItemsN]
    try dsimp only
    rw [fX12_readItems]
    exact ⟨1001, q12_level (b0 := true) (P := zIs (zTT sg n) nm W d) hsg hm hW hnm (by omega) ⟨fun _ => by omega, fun _ => rfl⟩ (fun _ => ho.1) (fun _ => ih (dep + 1) N' (by omega) (by omega)) 1001 s w k (by omega) hj hL hw hok herr⟩

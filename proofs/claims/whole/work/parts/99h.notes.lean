/-! Level 2: the reference's notes; the call notes -/
theorem zInv_tapeN {B : zBk} {S : Nat → Int32} {N N' : zNt} {b nn nn' : Nat} {w v : zW} (h : zInv B S N b nn w) (hf : ∀ a c, zkeep a c → a ≠ 2 → a ≠ 3 → a ≠ 201 → a ≠ 217 → ¬ (a = 200 ∧ c = 2) → (b ≤ a ∧ a ≤ b + 30 ∨ a < 40 ∨ 140 ≤ a) → gI v a c = gI w a c)
    (hL : ∀ a c, (a = 214 ∧ c < 4) ∨ a = b + 1 ∨ a = 209 → gL v a c = gL w a c) (hR : ∀ a c, (a = 1 ∧ c = 13) ∨ a = 24 ∨ a = 140 → gR v a c = gR w a c) (h2 : gI v 200 2 = Int32.ofNat 0) (h1 : gI v 2 1 = Int32.ofNat 0) (hre' : zRefs b nn' v) (hno' : zNotes B N' nn' v) : zInv B S N' b nn' v := by
  obtain ⟨hwf, hrb, hcb, hha, hpa, hma, _, hna, hre, hsh, hsl, hno, hbr⟩ := h
  have hb := hre.1
  have hnn := hre.2.2.2.1
  have hg : ∀ a c, zkeep a c → a ≠ 2 → a ≠ 3 → a ≠ 201 → a ≠ 217 → ¬ (a = 200 ∧ c = 2) → (b ≤ a ∧ a ≤ b + 30 ∨ a < 40 ∨ 140 ≤ a) → gI v a c = gI w a c := hf
  have hW4 := wf_W hwf
  refine ⟨hwf, zRB_of hrb (fun k hk => hg 210 k (by unfold zkeep; omega) (by omega) (by omega) (by omega) (by omega) (by omega) (by omega)) (fun k hk => hg 211 k (by unfold zkeep; omega) (by omega) (by omega) (by omega) (by omega) (by omega) (by omega)) (fun k => hg 223 k (by unfold zkeep; omega) (by omega) (by omega) (by omega) (by omega) (by omega) (by omega)) (fun k => hg 224 k (by unfold zkeep; omega) (by omega) (by omega) (by omega) (by omega) (by omega) (by omega)) (fun k => hg 225 k (by unfold zkeep; omega) (by omega) (by omega) (by omega) (by omega) (by omega) (by omega)) hwf,
    zCB_of hcb (fun a k q1 q2 => hg a k (by unfold zkeep; omega) (by omega) (by omega) (by omega) (by omega) (by omega) (by omega)) hwf, ⟨hha.1, fun i hi => by rw [hg 220 i (by unfold zkeep; omega) (by omega) (by omega) (by omega) (by omega) (by omega) (by omega)]; exact hha.2.1 i hi, fun i hi => by rw [hg (9 + 1) i (by unfold zkeep; omega) (by omega) (by omega) (by omega) (by omega) (by omega) (by omega)]; exact hha.2.2 i hi⟩, ?_, ?_, ⟨0, fun _ => 0, Nat.zero_le _, h2, h1, fun i hi => absurd hi (Nat.not_lt_zero i)⟩, zNames_of hna (fun o ho => ⟨hL 214 o (by omega), hL (b + 1) o (by omega)⟩) (fun i => hL 209 i (by omega)), hre', ?_, ?_, hno', ?_⟩
  · obtain ⟨n, P, p1, p2, p3, p4, p5, p6, p7⟩ := hpa
    refine ⟨n, P, p1, by rw [hg 200 21 (by unfold zkeep; omega) (by omega) (by omega) (by omega) (by omega) (by omega) (by omega)]; exact p2, by rw [hg 21 0 (by unfold zkeep; omega) (by omega) (by omega) (by omega) (by omega) (by omega) (by omega)]; exact p3, fun j i hj hi => by rw [hg 220 _ (by unfold zkeep; omega) (by omega) (by omega) (by omega) (by omega) (by omega) (by omega)]; exact p4 j i hj hi, p5, p6, fun j hj => ?_⟩
    rw [hg 22 j (by unfold zkeep; omega) (by omega) (by omega) (by omega) (by omega) (by omega) (by omega), hg 23 j (by unfold zkeep; omega) (by omega) (by omega) (by omega) (by omega) (by omega) (by omega)]
    exact p7 j hj
  · intro m hm
    obtain ⟨f, q1, q2, q3⟩ := hma m hm
    refine ⟨f, by rw [hg 222 m (by unfold zkeep; omega) (by omega) (by omega) (by omega) (by omega) (by omega) (by omega)]; exact q1, by rw [hg 20 m (by unfold zkeep; omega) (by omega) (by omega) (by omega) (by omega) (by omega) (by omega)]; exact q2, fun e => ?_⟩
    obtain ⟨Q, z1, z2, z3⟩ := q3 e
    exact ⟨Q, z1, fun i hi => by rw [hg 220 _ (by unfold zkeep; omega) (by omega) (by omega) (by omega) (by omega) (by omega) (by omega)]; exact z2 i hi, fun i hi => by rw [hg _ i (by unfold zkeep; omega) (by omega) (by omega) (by omega) (by omega) (by omega) (by omega)]; exact z3 i hi⟩
  · obtain ⟨big, bs, hs, h1, h2, h3, h4, h5, h6, h7⟩ := hsh
    have e24 : ∀ c, gI v 24 c = gI w 24 c := fun c => hg 24 c (by unfold zkeep; omega) (by omega) (by omega) (by omega) (by omega) (by omega) (by omega)
    have e0 : ∀ c, gI v 0 c = gI w 0 c := fun c => hg 0 c (by unfold zkeep; omega) (by omega) (by omega) (by omega) (by omega) (by omega) (by omega)
    have r24 : ∀ c, gR v 24 c = gR w 24 c := fun c => hR 24 c (by omega)
    have hbig := zBig_is h5
    refine ⟨big, bs, hs, h1, h2, by rw [e24]; exact h3, by rw [e24]; exact h4, zBig_of h5 (fun c _ => r24 c) (fun c _ => e0 c), fun e => ?_, fun e => ?_⟩
    · obtain ⟨q1, q2, q3, q4, q5, q6⟩ := h6 e
      exact ⟨by rw [r24]; exact q1, q2, by rw [e24]; exact q3, by rw [e24]; exact q4, fun i hi => by rw [hg big i (by unfold zkeep; omega) (by omega) (by omega) (by omega) (by omega) (by omega) (by omega)]; exact q5 i hi, fun i hi => by rw [hg (big + 2) i (by unfold zkeep; omega) (by omega) (by omega) (by omega) (by omega) (by omega) (by omega)]; exact q6 i hi⟩
    · obtain ⟨q1, q2, q3⟩ := h7 e
      exact ⟨q1, by rw [e24]; exact q2, fun i hi => by rw [hg (big + 1) i (by unfold zkeep; omega) (by omega) (by omega) (by omega) (by omega) (by omega) (by omega)]; exact q3 i hi⟩
  · obtain ⟨st, s1, s2, s3⟩ := hsl
    have e31 : ∀ c, gI v 31 c = gI w 31 c := fun c => hg 31 c (by unfold zkeep; omega) (by omega) (by omega) (by omega) (by omega) (by omega) (by omega)
    exact ⟨st, s1, by rw [e31]; exact s2, fun e => by rw [e31, e31, e31, e31]; exact s3 e⟩
  · refine ⟨fun r hr => by rw [hg (b + 30) r (by unfold zkeep; omega) (by omega) (by omega) (by omega) (by omega) (by omega) (by omega)]; exact hbr.1 r hr, ?_⟩
    rw [hR 1 13 (by omega), hR 140 0 (by omega), hR 140 1 (by omega), hg 0 140 (by unfold zkeep; omega) (by omega) (by omega) (by omega) (by omega) (by omega) (by omega), hg 0 141 (by unfold zkeep; omega) (by omega) (by omega) (by omega) (by omega) (by omega) (by omega), hg 0 142 (by unfold zkeep; omega) (by omega) (by omega) (by omega) (by omega) (by omega) (by omega)]
    exact hbr.2
theorem q12_notesL {sg : Nat → Nat} {n m W R : Nat} {nm : Nat → List Nat} {w : zW} {k : Int32 → zW → Prop} {Q : zNr} (hsg : zSg sg n) (hm : zTm (zTT sg n) m) (hW : W ≤ 4) (hR : R ≤ 8) (hnm : zNmok W nm) (hra : zRA W R nm w)
    (hok : ∀ v, zfH w v → Q.1 = 0 → zNok W R Q.2.2 → zRN Q.2.2 v → gI v 200 8 = 0 → fX12_notes_J98 k (Int32.ofNat Q.2.2.1) v) (herr : ∀ v, zfH w v → ¬ Q.1 = 0 → zRf Q.1 v → k (Int32.ofNat Q.1) v) :
    ∀ (f : Nat) (s : Nat × zNt) (v : zW), m < s.1 + f → s.1 ≤ m → zNok W R s.2 → zfH w v → zRtk sg n m s.1 v → zRN s.2 v → zNl (zTT sg n) nm W R f s = Q → fX12_notes_L11 k (f + 1) (Int32.ofNat s.2.1) v := by
  have hm1 := hm.1
  have hn1 := hsg.1
  intro f
  induction f with
  | zero => intro s v hf hj; omega
  | succ f ih =>
    intro s v hf hj hN fv hrt hrn hQ
    have h4 := zTT_kd4 sg n s.1
    have h21 := zTT_ky21 sg n s.1
    have hN40 := hN.1
    rw [fX12_notes_L11]
    refine ⟨fun q => absurd hrt.2.2.2.1 q, fun _ => ⟨(rt_in hrt).1, ?_⟩⟩
    rw [(rt_in hrt).2, rt_kd hrt]
    refine ⟨fun q => ?_, fun q => ?_⟩
    · have e : (zTT sg n).kd s.1 = 0 := (zi_eq (b := 0) (by omega) (by decide)).mp q
      rw [zNl, if_pos e] at hQ
      subst hQ
      exact hok v fv rfl hN hrn hrt.2.2.2.1
    · have e : ¬ (zTT sg n).kd s.1 = 0 := fun y => q (by rw [y]; rfl)
      have hlt := zTm_lt hm hj e
      obtain ⟨p1, p2⟩ := zN_ok (nm := nm) hn1 hm s hlt hN
      rw [zNl, if_neg e] at hQ
      have hflt : ∀ (x : Int32) v2, zfH v v2 → ¬ (zEnN (zTT sg n) (zN0 (zTT sg n) nm W R s)).1 = 0 → zRf (zEnN (zTT sg n) (zN0 (zTT sg n) nm W R s)).1 v2 → fX12_notes_L11 k (f + 1) x v2 := by
        intro x v2 f2 e2 h8
        rw [if_neg e2] at hQ
        rw [fX12_notes_L11]
        refine ⟨fun _ => ?_, fun y => absurd y (rf_ne h8)⟩
        rw [fX12_notes_J98]
        refine ⟨fun y => absurd y (rf_le h8), fun _ => ?_⟩
        rw [h8.2.2, hQ]
        rw [hQ] at h8 e2
        exact herr v2 (zfH_trans fv f2) e2 h8
      have h89F : ∀ (x : Int32) v2, zfH v v2 → ¬ (zN0 (zTT sg n) nm W R s).1 = 0 → zRf (zN0 (zTT sg n) nm W R s).1 v2 → fX12_notes_J89 k (fX12_notes_L11 k (f + 1)) x v2 := by
        intro x v2 f2 e2 h8
        have ez : zEnN (zTT sg n) (zN0 (zTT sg n) nm W R s) = zN0 (zTT sg n) nm W R s := if_neg e2
        rw [ez] at hflt
        rw [fX12_notes_J89]
        exact q12_takeSignF h8 (hflt x v2 f2 e2 h8)
      refine q12_wordHere (a := 6) (N := 4) hrt (by decide) ?_
      by_cases hky : 6 ≤ (zTT sg n).ky s.1 ∧ (zTT sg n).ky s.1 ≤ 9
      · rw [zWh_pos (by omega)]
        refine ⟨fun _ => ⟨fun q2 => ?_, fun q2 => ?_⟩, fun q2 => absurd ((zi_le (a := 0) (by decide) (by omega)).mpr (Nat.zero_le _)) q2⟩
        · have h40 : s.2.1 < 40 := by
            by_cases z : s.2.1 = 40
            · exact absurd (by rw [z]; rfl) q2
            · omega
          intro w15 e15
          rw [hrt.2.2.2.2, zl1, zi_add] at e15
          have r15 : zRtk sg n m (s.1 + 1) w15 := by rw [e15]; exact zRt_7 hrt hlt
          have f15 : zfH v w15 := by rw [e15]; exact zfH_s _ _ (by omega)
          have n15 : zRN s.2 w15 := fun i hi => by rw [e15, gI_sI_ne (by decide), gI_sI_ne (by decide), gI_sI_ne (by decide), gI_sI_ne (by decide)]; exact hrn i hi
          rw [zl4, zi_mul, show (165 : Int32) = Int32.ofNat 165 from rfl, zi_add]
          refine q12_readNotes hsg hm hW hR hnm hlt hky h40 r15 (zRA_H hra (zfH_trans fv f15)) n15 (fun v2 f2 e2 r2 n2 c2 => ?_) (fun v2 f2 e2 h8 => h89F _ v2 (zfH_trans f15 f2) e2 h8)
          rw [fX12_notes_J89]
          refine q12_takeSign (c := 59) hsg r2 (by decide) (fun y => ?_) (fun y => ?_)
          · have ez : zEnN (zTT sg n) (zN0 (zTT sg n) nm W R s) = (0, (zN0 (zTT sg n) nm W R s).2.1 + 1, (zN0 (zTT sg n) nm W R s).2.2) := by rw [zEnN, if_pos e2, if_pos y]
            rw [ez] at hQ p1
            rw [if_pos rfl] at hQ
            obtain ⟨q1, q2', q3⟩ := p1 rfl
            have q1' : s.1 < (zN0 (zTT sg n) nm W R s).2.1 + 1 := q1
            have q2'' : (zN0 (zTT sg n) nm W R s).2.1 + 1 ≤ m := q2'
            rw [zl1, zi_add, ← c2]
            refine ih ((zN0 (zTT sg n) nm W R s).2.1 + 1, (zN0 (zTT sg n) nm W R s).2.2) _ (by show m < (zN0 (zTT sg n) nm W R s).2.1 + 1 + f; omega) q2' q3 (zfH_trans fv (zfH_trans f15 (zfH_trans f2 (zfH_s _ _ (by omega))))) (zRt_7 r2 q2'') (fun i hi => by rw [gI_sI_ne (by decide), gI_sI_ne (by decide), gI_sI_ne (by decide), gI_sI_ne (by decide)]; exact n2 i hi) hQ
          · have ez : zEnN (zTT sg n) (zN0 (zTT sg n) nm W R s) = (1 + 16 * (zTT sg n).pl (zN0 (zTT sg n) nm W R s).2.1, (zN0 (zTT sg n) nm W R s).2) := by rw [zEnN, if_pos e2, if_neg y]
            rw [ez] at hflt
            refine hflt _ _ (zfH_trans f15 (zfH_trans f2 (zfH_s _ _ (by omega)))) (fun z => ?_) (rf_e _ hn1 (by omega))
            have z' : 1 + 16 * (zTT sg n).pl (zN0 (zTT sg n) nm W R s).2.1 = 0 := z
            omega
        · have e40 : s.2.1 = 40 := (zi_eq (b := 40) (by omega) (by decide)).mp q2
          have ez : zN0 (zTT sg n) nm W R s = (5 + 16 * (zTT sg n).pl s.1, s) := by rw [zN0, if_neg (fun z => z hky), if_pos (by omega)]
          rw [ez] at h89F
          refine q12_wrong (x := 5) hrt (h89F _ _ (zfH_s _ _ (by omega)) (fun z => ?_) (rf_e _ hn1 (by omega)))
          have z' : 5 + 16 * (zTT sg n).pl s.1 = 0 := z
          omega
      · rw [zWh_neg (by omega)]
        have ez : zN0 (zTT sg n) nm W R s = (1 + 16 * (zTT sg n).pl s.1, s) := by rw [zN0, if_pos hky]
        rw [ez] at h89F
        refine ⟨fun q2 => absurd q2 (by decide), fun _ => q12_wrong (x := 1) hrt (h89F _ _ (zfH_s _ _ (by omega)) (fun z => ?_) (rf_e _ hn1 (by omega)))⟩
        have z' : 1 + 16 * (zTT sg n).pl s.1 = 0 := z
        omega
/-- the notes are taken over -/
theorem q12_kept {c : Nat} {w : zW} {k : Int32 → zW → Prop} (hc : c ≤ 40) (h8 : gI w 200 8 = 0) (hk : ∀ v, (∀ a x, ¬ (a = 217 ∧ x < 165) → gI v a x = gI w a x) → v.2 = w.2 → gI v 217 0 = Int32.ofNat c → (∀ i, i < 4 * c → gI v 217 (1 + i) = gI w 217 (165 + i)) → k 0 v) : fX12_notes_J98 k (Int32.ofNat c) w := by
  have hL : ∀ (d i : Nat) (v : zW), i + d = 4 * c → (∀ a x, ¬ (a = 217 ∧ x < 165) → gI v a x = gI w a x) → v.2 = w.2 → gI v 217 0 = Int32.ofNat c → (∀ j, j < i → gI v 217 (1 + j) = gI w 217 (165 + j)) → fX12_notes_L119 k (d + 1) (Int32.ofNat c) (Int32.ofNat i) v := by
    intro d
    induction d with
    | zero =>
      intro i v hi fv f2 f0 fc
      rw [fX12_notes_L119]
      try dsimp only
      rw [zl4, zi_mul]
      exact ⟨fun _ => hk v fv f2 f0 (fun j hj => fc j (by omega)), fun q => absurd ((zi_le (by omega) (by omega)).mpr (by omega)) q⟩
    | succ d ih =>
      intro i v hi fv f2 f0 fc
      rw [fX12_notes_L119]
      try dsimp only
      rw [zl4, zi_mul, show (165 : Int32) = Int32.ofNat 165 from rfl, zi_add, zl1, zi_add, zi_nat (show 165 + i < 2 ^ 31 by omega), zi_nat (show 1 + i < 2 ^ 31 by omega)]
      refine ⟨fun q => absurd ((zi_le (by omega) (by omega)).mp q) (by omega), fun _ => ⟨zi_in (by omega) (by omega), zi_in (by omega) (by omega), ?_⟩⟩
      intro w9 e9
      rw [zi_add]
      refine ih (i + 1) w9 (by omega) (fun a x q => by rw [e9, gI_sI, if_neg (by omega)]; exact fv a x q) (by rw [e9]; exact f2) (by rw [e9, gI_sI_ne2 (by omega)]; exact f0) (fun j hj => ?_)
      rw [e9]
      by_cases e : j = i
      · rw [e, gI_sI_eq]; exact fv _ _ (by omega)
      · rw [gI_sI_ne2 (by omega)]; exact fc j (by omega)
  rw [fX12_notes_J98, h8]
  refine ⟨fun _ => ?_, fun q => absurd (by decide) q⟩
  intro w5 e5
  rw [show (0 : Int32).toNatClampNeg = 0 from rfl] at e5
  exact ⟨4 * c + 1, hL (4 * c) 0 w5 (by omega) (fun a x q => by rw [e5, gI_sI, if_neg (by omega)]) (by rw [e5]; rfl) (by rw [e5, gI_sI_eq]) (fun j hj => absurd hj (Nat.not_lt_zero j))⟩
theorem q12_notes {sg : Nat → Nat} {n W R : Nat} {nm : Nat → List Nat} {w : zW} {k : Int32 → zW → Prop} (hsg : zSg sg n) (hW : W ≤ 4) (hR : R ≤ 8) (hnm : zNmok W nm) (h2 : gI w 200 2 = Int32.ofNat n) (h1 : ∀ i, i < n → gI w 201 i = Int32.ofNat (sg i)) (hwd : zWd w) (hra : zRA W R nm w)
    (hok : ∀ v, (∀ a c, ¬ (a = 200 ∧ (c = 0 ∨ c = 2 ∨ c = 3 ∨ c = 7 ∨ c = 8)) → a ≠ 204 → a ≠ 205 → a ≠ 217 → gI v a c = gI w a c) → (∀ a c, a ≠ 206 → gL v a c = gL w a c) → (∀ a c, gR v a c = gR w a c) → (zNts sg n nm W R).1 = 0 → gI v 200 2 = Int32.ofNat 0 → gI v 217 0 = Int32.ofNat (zNts sg n nm W R).2.2.1 → (∀ i, i < (zNts sg n nm W R).2.2.1 → gI v 217 (1 + 4 * i) = Int32.ofNat ((zNts sg n nm W R).2.2.2.1 i) ∧ gI v 217 (1 + 4 * i + 1) = Int32.ofNat ((zNts sg n nm W R).2.2.2.2.1 i) ∧ ((zNts sg n nm W R).2.2.2.1 i = 0 ∨ (zNts sg n nm W R).2.2.2.1 i = 2 → gI v 217 (1 + 4 * i + 2) = Int32.ofNat ((zNts sg n nm W R).2.2.2.2.2.1 i)) ∧ ((zNts sg n nm W R).2.2.2.1 i = 0 → gI v 217 (1 + 4 * i + 3) = Int32.ofNat ((zNts sg n nm W R).2.2.2.2.2.2 i))) → k 0 v)
    (herr : ∀ v, (∀ a c, ¬ (a = 200 ∧ (c = 0 ∨ c = 2 ∨ c = 3 ∨ c = 7 ∨ c = 8)) → a ≠ 204 → a ≠ 205 → ¬ (a = 217 ∧ 165 ≤ c) → gI v a c = gI w a c) → (∀ a c, a ≠ 206 → gL v a c = gL w a c) → (∀ a c, gR v a c = gR w a c) → ¬ (zNts sg n nm W R).1 = 0 → gI v 200 2 = Int32.ofNat 0 → k (Int32.ofNat (zNts sg n nm W R).1) v) : fX12_notes w k := by
  rw [fX12_notes]
  intro w1 e1
  refine q12_cutAll hsg (by rw [e1, gI_sI_ne2 (by decide)]; exact h2) (fun i hi => by rw [e1, gI_sI_ne (by decide)]; exact h1 i hi) (fun w2 m i2 l2 r2 z2 z7 z8 tb => ?_)
  have hm : zTm (zTT sg n) m := ⟨tb.1, tb.2.1, tb.2.2.1⟩
  have I2 : ∀ a c, ¬ (a = 200 ∧ (c = 0 ∨ c = 2 ∨ c = 3 ∨ c = 7 ∨ c = 8)) → a ≠ 204 → a ≠ 205 → gI w2 a c = gI w a c := fun a c q1 q2 q3 => by rw [i2 a c q2 q3 (by omega), e1, gI_sI, if_neg (by omega)]
  have L2 : ∀ a c, a ≠ 206 → gL w2 a c = gL w a c := fun a c q => by rw [l2 a c q, e1]; rfl
  have R2 : ∀ a c, gR w2 a c = gR w a c := fun a c => by rw [r2 a c, e1]; rfl
  have rt2 : zRtk sg n m 0 w2 := ⟨tb, fun i hi => by rw [L2 _ _ (by decide)]; exact hwd i hi, Nat.zero_le _, z8, z7⟩
  have ra2 : zRA W R nm w2 := ⟨by rw [I2 _ _ (by omega) (by omega) (by omega)]; exact hra.1, by rw [I2 _ _ (by omega) (by omega) (by omega)]; exact hra.2.1, fun o ho => by rw [L2 _ _ (by decide)]; exact hra.2.2 o ho⟩
  refine ⟨1001 + 1, q12_notesL (Q := zNts sg n nm W R) hsg hm hW hR hnm ra2 (fun v fv e0 nok rn g8 => ?_) (fun v fv e0 hf => ?_) 1001 (0, zN00) w2 (by have := hm.1; show m < 0 + 1001; omega) (Nat.zero_le _) (zNok_0 W R) (zfH_refl _) rt2 (fun i hi => absurd hi (Nat.not_lt_zero i)) rfl⟩
  · refine q12_kept nok.1 g8 (fun u fu u2 u0 uc => ?_)
    refine hok u (fun a c q1 q2 q3 q4 => ?_) (fun a c q => ?_) (fun a c => ?_) e0 ?_ u0 (fun i hi => ?_)
    · rw [fu a c (by omega), fv.1 a c (by omega) (by omega)]; exact I2 a c q1 q2 q3
    · rw [gL, u2, fv.2]; exact L2 a c q
    · rw [gR, u2, fv.2]; exact R2 a c
    · rw [fu _ _ (by omega), fv.1 _ _ (by omega) (by omega)]; exact z2
    · obtain ⟨q1, q2, q3, q4⟩ := rn i hi
      refine ⟨(uc (4 * i) (by omega)).trans q1, ?_, fun z => ?_, fun z => ?_⟩
      · rw [Nat.add_assoc]; exact (uc (4 * i + 1) (by omega)).trans q2
      · rw [Nat.add_assoc]; exact (uc (4 * i + 2) (by omega)).trans (q3 z)
      · rw [Nat.add_assoc]; exact (uc (4 * i + 3) (by omega)).trans (q4 z)
  · refine herr v (fun a c q1 q2 q3 q4 => ?_) (fun a c q => ?_) (fun a c => ?_) e0 ?_
    · rw [fv.1 a c (by omega) q4]; exact I2 a c q1 q2 q3
    · rw [gL, fv.2]; exact L2 a c q
    · rw [gR, fv.2]; exact R2 a c
    · rw [fv.1 _ _ (by omega) (by omega)]; exact z2
theorem c_notes {B : zBk} {S : Nat → Int32} {N : zNt} {b nn : Nat} {w : zW} {k k0 : zW → Prop} (h : zInv B S N b nn w) (hk : ∀ N' nn' v, zInv B S N' b nn' v → zfl w v → k v) : fX11_notes w (fun r1 w1 => fX12_notes w1 (fun r2 w2 => (r1 = r2 → k w2) ∧ (¬ r1 = r2 → k0 w2))) := by
  obtain ⟨sg, n, hsg, t2, t1, t201, t3⟩ := zSg_of (iv_ta h)
  obtain ⟨m, hm⟩ := zTm_ex sg hsg.1
  have hwf := iv_wf h
  have hrb := iv_rb h
  have hcb := iv_cb h
  have hre := iv_re h
  have hb := hre.1
  have hnn := hre.2.2.2.1
  obtain ⟨hwd, nm, hna1, hna2⟩ := iv_na h
  have hW := wf_W hwf
  have hR := wf_R hwf
  have hnm : zNmok (bW B) nm := ⟨fun o ho => ⟨(hna1 o ho).1, (hna1 o ho).2.1, (hna1 o ho).2.2.1⟩, hna2⟩
  obtain ⟨d, hd⟩ : ∃ d, d = 250 - nn := ⟨_, rfl⟩
  have hd2 : d = 120 ∨ d = 130 := by omega
  have r12 : gR w 1 12 = d := by rw [hd]; exact hre.2.2.2.2.2
  rw [fX11_notes, r12, hre.2.1]
  refine ⟨by omega, by omega, q5_read hsg hm hd2 hb hW hR hnm (cb_W hcb) (cb_R hcb) (fun o ho => (hna1 o ho).2.2.2.2) t1 t3 (fun v fI fL fR e0 nok cn g1 => ?_) (fun v fI fL fR e0 elt => ?_)⟩
  · intro w4 e4
    refine ⟨fun _ => ?_, fun q => absurd rfl q⟩
    have r411 : gR w4 1 11 = nn := by rw [e4, gR_sI, fR _ _ (by omega)]; exact hre.2.2.2.2.1
    have r412 : gR w4 1 12 = d := by rw [e4, gR_sI, fR _ _ (by omega)]; exact r12
    rw [r411, r412]
    refine ⟨by omega, by omega, ?_⟩
    intro w8 e8 w9 e9
    have I9 : ∀ a c, ¬ (a = 2 ∧ 1 ≤ c) → ¬ (a = d ∧ c ≤ 1) → (a < d + 1 ∨ d + 4 ≤ a) → gI w9 a c = gI w a c := fun a c q1 q2 q3 => by rw [e9, gI_sR, e8, gI_sR, e4, gI_sI, if_neg (by omega)]; exact fI a c (by omega) q2 q3
    have V9 : ∀ a c, ¬ (a = 2 ∧ c = 1) → gI w9 a c = gI v a c := fun a c q1 => by rw [e9, gI_sR, e8, gI_sR, e4, gI_sI, if_neg q1]
    have L9 : ∀ a c, ¬ (a = 2 ∧ c = 7) → gL w9 a c = gL w a c := fun a c q => by rw [e9, gL_sR, e8, gL_sR, e4, gL_sI]; exact fL a c q
    have R9 : ∀ a c, ¬ (a = d ∧ (c = 9 ∨ c = 10)) → ¬ (a = 1 ∧ (c = 11 ∨ c = 12)) → gR w9 a c = gR w a c := fun a c q1 q2 => by rw [e9, gR_sR, if_neg (by omega), e8, gR_sR, if_neg (by omega), e4, gR_sI]; exact fR a c q1
    have r911 : gR w9 1 11 = d := by rw [e9, gR_sR_ne2 (by decide), e8, gR_sR_eq]
    have r912 : gR w9 1 12 = nn := by rw [e9, gR_sR_eq]
    refine q12_notes hsg hW hR hnm (by rw [I9 _ _ (by omega) (by omega) (by omega)]; exact t2) (fun i hi => by rw [I9 _ _ (by omega) (by omega) (by omega)]; exact t201 i hi) (fun i hi => by rw [L9 _ _ (by omega)]; exact hwd i hi) ⟨by rw [I9 _ _ (by omega) (by omega) (by omega)]; exact rb_W hrb, by rw [I9 _ _ (by omega) (by omega) (by omega)]; exact rb_R hrb, fun o ho => by rw [Nat.zero_add, L9 _ _ (by omega)]; exact (hna1 o ho).2.2.2.1⟩ (fun f gI' gL' gR' _ g2 g0 gc => zc_same ?_) (fun f _ _ _ q => absurd e0 q)
    refine hk (zNts sg n nm (bW B) (bR B)).2.2 d f (zInv_tapeN h (fun a c q1 q2 q3 q4 q45 q5 q6 => ?_) (fun a c q => ?_) (fun a c q => ?_) g2 ?_ ⟨hb, ?_, ?_, hd2, ?_, ?_⟩ ⟨nok, g0, ?_, gc, fun i hi => ?_, 1, by decide, ?_, fun q => absurd q (by decide)⟩) ⟨?_, ?_⟩
    · have hkeep := q1
      unfold zkeep at hkeep
      rw [gI' a c (by omega) (by omega) (by omega) (by omega)]
      exact I9 a c (by omega) (by omega) (by omega)
    · rw [gL' a c (by omega)]; exact L9 a c (by omega)
    · rw [gR']; exact R9 a c (by omega) (by omega)
    · rw [gI' _ _ (by omega) (by omega) (by omega) (by omega), e9, gI_sR, e8, gI_sR, e4, gI_sI_eq]; rfl
    · rw [gR', R9 _ _ (by omega) (by omega)]; exact hre.2.1
    · rw [gR', R9 _ _ (by omega) (by omega)]; exact hre.2.2.1
    · rw [gR']; exact r911
    · rw [gR', r912]; omega
    · rw [gI' _ _ (by omega) (by omega) (by omega) (by omega), V9 _ _ (by omega)]; exact cn.1
    · rw [gI' _ _ (by omega) (by omega) (by omega) (by omega), V9 _ _ (by omega), gI' _ _ (by omega) (by omega) (by omega) (by omega), V9 _ _ (by omega), gI' _ _ (by omega) (by omega) (by omega) (by omega), V9 _ _ (by omega)]; exact cn.2 i hi
    · rw [gI' _ _ (by omega) (by omega) (by omega) (by omega), V9 _ _ (by omega)]; exact g1
    · rw [gI' _ _ (by omega) (by omega) (by omega) (by omega)]; exact I9 _ _ (by omega) (by omega) (by omega)
    · rw [gR']; exact R9 24 4 (by omega) (by omega)
  · intro w4 e4
    refine ⟨fun q => absurd ((zi_eq (b := 0) (by omega) (by decide)).mp q) e0, fun _ => ?_⟩
    have I4 : ∀ a c, ¬ (a = 2 ∧ 1 ≤ c) → ¬ (a = d ∧ c ≤ 1) → (a < d + 1 ∨ d + 4 ≤ a) → gI w4 a c = gI w a c := fun a c q1 q2 q3 => by rw [e4, gI_sI, if_neg (by omega)]; exact fI a c (by omega) q2 q3
    have L4 : ∀ a c, ¬ (a = 2 ∧ c = 7) → gL w4 a c = gL w a c := fun a c q => by rw [e4, gL_sI]; exact fL a c q
    have R4 : ∀ a c, ¬ (a = d ∧ (c = 9 ∨ c = 10)) → gR w4 a c = gR w a c := fun a c q1 => by rw [e4, gR_sI]; exact fR a c q1
    refine q12_notes hsg hW hR hnm (by rw [I4 _ _ (by omega) (by omega) (by omega)]; exact t2) (fun i hi => by rw [I4 _ _ (by omega) (by omega) (by omega)]; exact t201 i hi) (fun i hi => by rw [L4 _ _ (by omega)]; exact hwd i hi) ⟨by rw [I4 _ _ (by omega) (by omega) (by omega)]; exact rb_W hrb, by rw [I4 _ _ (by omega) (by omega) (by omega)]; exact rb_R hrb, fun o ho => by rw [Nat.zero_add, L4 _ _ (by omega)]; exact (hna1 o ho).2.2.2.1⟩ (fun f _ _ _ q => absurd q e0) (fun f gI' gL' gR' _ g2 => zc_same ?_)
    refine hk N nn f (zInv_tape h (fun a c q1 q2 q3 q4 q5 q6 => ?_) (fun a c q => ?_) (fun a c q => ?_) g2 ?_) ⟨?_, ?_⟩
    · have hkeep := q1
      unfold zkeep at hkeep
      rw [gI' a c (by omega) (by omega) (by omega) (by omega)]
      exact I4 a c (by omega) (by omega) (by omega)
    · rw [gL' a c (by omega)]; exact L4 a c (by omega)
    · rw [gR']; exact R4 a c (by omega)
    · rw [gI' _ _ (by omega) (by omega) (by omega) (by omega), e4, gI_sI_eq]; rfl
    · rw [gI' _ _ (by omega) (by omega) (by omega) (by omega)]; exact I4 _ _ (by omega) (by omega) (by omega)
    · rw [gR']; exact R4 24 4 (by omega)

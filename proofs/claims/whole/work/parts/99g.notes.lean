/-! Level 2: all notes, on both sides; the call notes -/
def zNts (sg : Nat → Nat) (n : Nat) (nm : Nat → List Nat) (W R : Nat) : zNr := zNl (zTT sg n) nm W R 1001 (0, (0, fun _ => 0, fun _ => 0, fun _ => 0, fun _ => 0))
def zN00 : zNt := (0, fun _ => 0, fun _ => 0, fun _ => 0, fun _ => 0)
theorem zNok_0 (W R : Nat) : zNok W R zN00 := ⟨Nat.zero_le _, fun i hi => absurd hi (Nat.not_lt_zero i)⟩
theorem q5_notesL {sg : Nat → Nat} {n m d b W R : Nat} {nm : Nat → List Nat} {w : zW} {k : Int32 → zW → Prop} {Q : zNr} (hsg : zSg sg n) (hm : zTm (zTT sg n) m) (hd : d = 120 ∨ d = 130) (hb : b = 40 ∨ b = 80) (hW : W ≤ 4) (hR : R ≤ 8) (hnm : zNmok W nm) (hca : zCA d b W R nm w)
    (hok : ∀ v, zfD d w v → Q.1 = 0 → zCN d Q.2.2 v → k 0 v) (herr : ∀ v, zfD d w v → ¬ Q.1 = 0 → k (Int32.ofNat Q.1) v) :
    ∀ (f i : Nat) (s : Nat × zNt) (v : zW), i + f = 1001 → s.1 ≤ m → zNok W R s.2 → zfD d w v → zCt sg n s.1 v → zCN d s.2 v → zNl (zTT sg n) nm W R f s = Q → fX5_read_L23 d b k (f + 1) (Int32.ofNat i) v := by
  have hm1 := hm.1
  intro f
  induction f with
  | zero =>
    intro i s v hi hj hN fv hct hcn hQ
    rw [zNl] at hQ
    subst hQ
    rw [fX5_read_L23]
    exact ⟨fun _ => hok v fv rfl hcn, fun q => absurd ((zi_lt (a := 1000) (by decide) (by omega)).mpr (by omega)) q⟩
  | succ f ih =>
    intro i s v hi hj hN fv hct hcn hQ
    have h4 := zTT_kd4 sg n s.1
    have cav := zCA_T hd hb hca fv
    rw [fX5_read_L23]
    refine ⟨fun q => absurd ((zi_lt (a := 1000) (by decide) (by omega)).mp q) (by omega), fun _ => ?_⟩
    rw [cav.1, ct_kd hct]
    refine ⟨by decide, fun q => ?_, fun q => ?_⟩
    · have e : (zTT sg n).kd s.1 = 0 := (zi_eq (b := 0) (by omega) (by decide)).mp q
      rw [zNl, if_pos e] at hQ
      subst hQ
      exact hok v fv rfl hcn
    · have e : ¬ (zTT sg n).kd s.1 = 0 := fun y => q (by rw [y]; rfl)
      have hlt := zTm_lt hm hj e
      obtain ⟨p1, p2⟩ := zN_ok (nm := nm) hsg.1 hm s hlt hN
      rw [zNl, if_neg e] at hQ
      refine q5_line (m := m) hsg hd hb hW hR hnm hN hct cav hcn (fun v2 f2 e2 c2 n2 => ⟨fun _ => ?_, fun y => absurd y (by decide)⟩) (fun v2 f2 e2 h8 => ⟨fun y => absurd rfl y, fun _ => ?_⟩)
      · rw [if_pos e2] at hQ
        obtain ⟨q1, q2, q3⟩ := p1 e2
        rw [zl1, zi_add]
        exact ih (i + 1) _ v2 (by omega) q2 q3 (zfD_trans fv f2) c2 n2 hQ
      · rw [if_neg e2] at hQ
        have ca2 := zCA_T hd hb cav f2
        rw [ca2.1, h8, hQ]
        exact ⟨by decide, herr v2 (zfD_trans fv f2) (by rw [← hQ]; exact e2)⟩
theorem q5_read {sg : Nat → Nat} {n m d b W R : Nat} {nm : Nat → List Nat} {w : zW} {k : Int32 → zW → Prop} (hsg : zSg sg n) (hm : zTm (zTT sg n) m) (hd : d = 120 ∨ d = 130) (hb : b = 40 ∨ b = 80) (hW : W ≤ 4) (hR : R ≤ 8) (hnm : zNmok W nm) (hW0 : gI w b 0 = Int32.ofNat W) (hR7 : gI w b 7 = Int32.ofNat R) (hn32 : zNm32 (b + 1) W nm w)
    (h1 : gI w 2 1 = Int32.ofNat n) (h3 : ∀ i, i < n → gI w 3 i = Int32.ofNat (sg i))
    (hok : ∀ v, (∀ a c, ¬ (a = 2 ∧ 2 ≤ c) → ¬ (a = d ∧ c ≤ 1) → (a < d + 1 ∨ d + 4 ≤ a) → gI v a c = gI w a c) → (∀ a c, ¬ (a = 2 ∧ c = 7) → gL v a c = gL w a c) → (∀ a c, ¬ (a = d ∧ (c = 9 ∨ c = 10)) → gR v a c = gR w a c) → (zNts sg n nm W R).1 = 0 → zNok W R (zNts sg n nm W R).2.2 → zCN d (zNts sg n nm W R).2.2 v → gI v d 1 = Int32.ofNat 1 → k 0 v)
    (herr : ∀ v, (∀ a c, ¬ (a = 2 ∧ 2 ≤ c) → ¬ (a = d ∧ c ≤ 1) → (a < d + 1 ∨ d + 4 ≤ a) → gI v a c = gI w a c) → (∀ a c, ¬ (a = 2 ∧ c = 7) → gL v a c = gL w a c) → (∀ a c, ¬ (a = d ∧ (c = 9 ∨ c = 10)) → gR v a c = gR w a c) → ¬ (zNts sg n nm W R).1 = 0 → (zNts sg n nm W R).1 < 20000 → k (Int32.ofNat (zNts sg n nm W R).1) v) : fX5_read d b w k := by
  rw [fX5_read]
  intro w1 e1 w2 e2
  rw [fX5_clear]
  intro wa ea wb eb
  have rb10 : gR wb d 10 = 2 := by rw [eb, gR_sI, ea, gR_sI, e2, gR_sR_ne2 (by decide), e1, gR_sR_eq]
  have rb9 : gR wb d 9 = b := by rw [eb, gR_sI, ea, gR_sI, e2, gR_sR_eq]
  rw [rb10, fX10_begin]
  refine ⟨by decide, ?_⟩
  intro wc ec wd ed
  have I : ∀ a c, ¬ (a = 2 ∧ (c = 8 ∨ c = 9)) → ¬ (a = d ∧ c ≤ 1) → gI wd a c = gI w a c := fun a c q1 q2 => by rw [ed, gI_sI, if_neg (by omega), ec, gI_sI, if_neg (by omega), eb, gI_sI, if_neg (by omega), ea, gI_sI, if_neg (by omega), e2, gI_sR, e1, gI_sR]
  have L : ∀ a c, gL wd a c = gL w a c := fun a c => by rw [ed, gL_sI, ec, gL_sI, eb, gL_sI, ea, gL_sI, e2, gL_sR, e1, gL_sR]
  have Rr : ∀ a c, ¬ (a = d ∧ (c = 9 ∨ c = 10)) → gR wd a c = gR w a c := fun a c q => by rw [ed, gR_sI, ec, gR_sI, eb, gR_sI, ea, gR_sI, e2, gR_sR, if_neg (by omega), e1, gR_sR, if_neg (by omega)]
  have rd10 : gR wd d 10 = 2 := by rw [ed, gR_sI, ec, gR_sI]; exact rb10
  have rd9 : gR wd d 9 = b := by rw [ed, gR_sI, ec, gR_sI]; exact rb9
  have g0 : gI wd d 0 = Int32.ofNat 0 := by rw [ed, gI_sI_ne (by omega), ec, gI_sI_ne (by omega), eb, gI_sI_ne2 (by decide), ea, gI_sI_eq]; rfl
  have g1 : gI wd d 1 = Int32.ofNat 1 := by rw [ed, gI_sI_ne (by omega), ec, gI_sI_ne (by omega), eb, gI_sI_eq]; rfl
  refine q10_next (j := 0) hsg ?_ (fun i hi => ?_) ?_ (fun v fv av => ?_)
  · rw [I _ _ (by omega) (by omega)]; exact h1
  · rw [I _ _ (by omega) (by omega)]; exact h3 i hi
  · rw [ed, gI_sI_ne2 (by decide), ec, gI_sI_eq]; rfl
  · have ctv : zCt sg n 0 v := ⟨by rw [fv.1 _ _ (by omega), I _ _ (by omega) (by omega)]; exact h1, fun i hi => by rw [fv.1 _ _ (by omega), I _ _ (by omega) (by omega)]; exact h3 i hi, av⟩
    have cav : zCA d b W R nm v := ⟨by rw [fv.2.2]; exact rd10, by rw [fv.2.2]; exact rd9, by rw [fv.1 _ _ (by omega), I _ _ (by omega) (by omega)]; exact hW0, by rw [fv.1 _ _ (by omega), I _ _ (by omega) (by omega)]; exact hR7, fun o ho => by rw [fv.2.1 _ _ (by omega), L]; exact hn32 o ho⟩
    have cnv : zCN d zN00 v := ⟨by rw [fv.1 _ _ (by omega)]; exact g0, fun i hi => absurd hi (Nat.not_lt_zero i)⟩
    have hfr : ∀ u, zfD d v u → (∀ a c, ¬ (a = 2 ∧ 2 ≤ c) → ¬ (a = d ∧ c ≤ 1) → (a < d + 1 ∨ d + 4 ≤ a) → gI u a c = gI w a c) ∧ (∀ a c, ¬ (a = 2 ∧ c = 7) → gL u a c = gL w a c) ∧ (∀ a c, ¬ (a = d ∧ (c = 9 ∨ c = 10)) → gR u a c = gR w a c) ∧ gI u d 1 = Int32.ofNat 1 := fun u fu => by
      refine ⟨fun a c q1 q2 q3 => ?_, fun a c q => ?_, fun a c q => ?_, ?_⟩
      · rw [fu.1 a c q1 (by omega) q3, fv.1 a c (by omega)]; exact I a c (by omega) q2
      · rw [fu.2.1 a c q, fv.2.1 a c q]; exact L a c
      · rw [fu.2.2, fv.2.2]; exact Rr a c q
      · rw [fu.1 _ _ (by omega) (by omega) (by omega), fv.1 _ _ (by omega)]; exact g1
    obtain ⟨b1, b2⟩ := zNl_ok (W := W) (R := R) (nm := nm) hsg.1 hm 1001 (0, zN00) (Nat.zero_le _) (zNok_0 W R)
    refine ⟨1001 + 1, q5_notesL (Q := zNts sg n nm W R) hsg hm hd hb hW hR hnm cav (fun u fu e0 cu => ?_) (fun u fu e0 => ?_) 1001 0 (0, zN00) v rfl (Nat.zero_le _) (zNok_0 W R) (zfD_refl _ _) ctv cnv rfl⟩
    · obtain ⟨x1, x2, x3, x4⟩ := hfr u fu
      exact hok u x1 x2 x3 e0 (b1 e0) cu x4
    · obtain ⟨x1, x2, x3, x4⟩ := hfr u fu
      exact herr u x1 x2 x3 e0 (b2 e0)
/-- the reference's notes under way -/
def zRN (N : zNt) (v : zW) : Prop := ∀ i, i < N.1 → gI v 217 (165 + 4 * i) = Int32.ofNat (N.2.1 i) ∧ gI v 217 (165 + 4 * i + 1) = Int32.ofNat (N.2.2.1 i) ∧ (N.2.1 i = 0 ∨ N.2.1 i = 2 → gI v 217 (165 + 4 * i + 2) = Int32.ofNat (N.2.2.2.1 i)) ∧ (N.2.1 i = 0 → gI v 217 (165 + 4 * i + 3) = Int32.ofNat (N.2.2.2.2 i))
def zRA (W R : Nat) (nm : Nat → List Nat) (v : zW) : Prop := gI v 210 0 = Int32.ofNat W ∧ gI v 210 2 = Int32.ofNat R ∧ zNm37 0 W nm v
def zfH (w v : zW) : Prop := (∀ a c, ¬ (a = 200 ∧ (c = 7 ∨ c = 8)) → ¬ (a = 217 ∧ 165 ≤ c) → gI v a c = gI w a c) ∧ v.2 = w.2
theorem zfH_refl (w : zW) : zfH w w := ⟨fun _ _ _ _ => rfl, rfl⟩
theorem zfH_trans {u v w : zW} (h : zfH u v) (h2 : zfH v w) : zfH u w := ⟨fun a c q1 q2 => (h2.1 a c q1 q2).trans (h.1 a c q1 q2), h2.2.trans h.2⟩
theorem zfH_s (w : zW) {c : Nat} (x : Int32) (h : c = 7 ∨ c = 8) : zfH w (sI w 200 c x) := ⟨fun a d q1 _ => by rw [gI_sI, if_neg (by omega)], rfl⟩
theorem zfH_n (w : zW) {c : Nat} (x : Int32) (h : 165 ≤ c) : zfH w (sI w 217 c x) := ⟨fun a d _ q2 => by rw [gI_sI, if_neg (by omega)], rfl⟩
theorem zRA_H {W R : Nat} {nm : Nat → List Nat} {w v : zW} (h : zRA W R nm w) (f : zfH w v) : zRA W R nm v := ⟨by rw [f.1 _ _ (by omega) (by omega)]; exact h.1, by rw [f.1 _ _ (by omega) (by omega)]; exact h.2.1, fun o ho => by rw [gL, f.2]; exact h.2.2 o ho⟩
theorem zRt_n {sg : Nat → Nat} {n m j : Nat} {w : zW} (h : zRtk sg n m j w) (c : Nat) (x : Int32) : zRtk sg n m j (sI w 217 c x) := zRt_K h (zfK_sI _ _ _ (by decide)) h.2.2.1 (by rw [gI_sI_ne (by decide)]; exact h.2.2.2.1) (by rw [gI_sI_ne (by decide)]; exact h.2.2.2.2)
theorem q12_readNotes {sg : Nat → Nat} {n m W R : Nat} {nm : Nat → List Nat} {s : Nat × zNt} {w : zW} {k : zW → Prop} (hsg : zSg sg n) (hm : zTm (zTT sg n) m) (hW : W ≤ 4) (hR : R ≤ 8) (hnm : zNmok W nm) (hj : s.1 < m) (hky : 6 ≤ (zTT sg n).ky s.1 ∧ (zTT sg n).ky s.1 ≤ 9) (h40 : s.2.1 < 40) (hrt : zRtk sg n m (s.1 + 1) w) (hra : zRA W R nm w) (hrn : zRN s.2 w)
    (hok : ∀ v, zfH w v → (zN0 (zTT sg n) nm W R s).1 = 0 → zRtk sg n m (zN0 (zTT sg n) nm W R s).2.1 v → zRN (zN0 (zTT sg n) nm W R s).2.2 v → (zN0 (zTT sg n) nm W R s).2.2.1 = s.2.1 + 1 → k v) (herr : ∀ v, zfH w v → ¬ (zN0 (zTT sg n) nm W R s).1 = 0 → zRf (zN0 (zTT sg n) nm W R s).1 v → k v) :
    fX12_readNotes (Int32.ofNat (165 + 4 * s.2.1)) (Int32.ofNat ((zTT sg n).ky s.1 - 6)) w k := by
  have hn1 := hsg.1
  have hz0 : zN0 (zTT sg n) nm W R s = (if zNsE (zTT sg n) nm W R s.1 = 0 then
    (if (zTT sg n).ky s.1 = 6 then
      (if zNe (zTT sg n) (s.1 + 2) 0 3 = 0 then (if zNe (zTT sg n) (s.1 + 3) 0 3 = 0 then (0, s.1 + 4, uN s.2 0 (zNsV (zTT sg n) nm W s.1) ((zTT sg n).nu (s.1 + 2)) ((zTT sg n).nu (s.1 + 3))) else (zNe (zTT sg n) (s.1 + 3) 0 3 + 16 * (zTT sg n).pl (s.1 + 3), s)) else (zNe (zTT sg n) (s.1 + 2) 0 3 + 16 * (zTT sg n).pl (s.1 + 2), s))
     else if (zTT sg n).ky s.1 = 8 then (if zNe (zTT sg n) (s.1 + 2) 0 100 = 0 then (0, s.1 + 3, uN s.2 2 (zNsV (zTT sg n) nm W s.1) ((zTT sg n).nu (s.1 + 2)) 0) else (zNe (zTT sg n) (s.1 + 2) 0 100 + 16 * (zTT sg n).pl (s.1 + 2), s))
     else (0, s.1 + 2, uN s.2 ((zTT sg n).ky s.1 - 6) (zNsV (zTT sg n) nm W s.1) 0 0))
  else (zNsE (zTT sg n) nm W R s.1 + 16 * (zTT sg n).pl (s.1 + 1), s)) := by rw [zN0, if_neg (fun z => z hky), if_neg (by omega)]
  -- with a fault
  have hx : ∀ (e i : Nat) (u : zW), 0 < e → e < 16 → zfH w u → zN0 (zTT sg n) nm W R s = (e + 16 * (zTT sg n).pl i, s) → zRf (e + 16 * (zTT sg n).pl i) u → k u := by
    intro e i u he he2 fu hr hf
    rw [hr] at herr
    exact herr u fu (fun z => by have z' : e + 16 * (zTT sg n).pl i = 0 := z; omega) hf
  have h101 : ∀ (u : zW) (x : Int32), (k (sI u 217 (165 + 4 * s.2.1 + 3) x)) → fX12_readNotes_J101 k x (Int32.ofNat (165 + 4 * s.2.1) + 3) u := by
    intro u x hk
    rw [fX12_readNotes_J101, zl3, zi_add, zi_nat (show 165 + 4 * s.2.1 + 3 < 2 ^ 31 by omega)]
    refine ⟨zi_in (by omega) (by omega), ?_⟩
    intro w14 e14
    rw [e14]; exact hk
  have h79F : ∀ (e i : Nat) (u : zW) (x : Int32), 0 < e → e < 16 → zfH w u → zN0 (zTT sg n) nm W R s = (e + 16 * (zTT sg n).pl i, s) → zRf (e + 16 * (zTT sg n).pl i) u → fX12_readNotes_J79 k (Int32.ofNat (165 + 4 * s.2.1)) (Int32.ofNat ((zTT sg n).ky s.1 - 6)) x (Int32.ofNat (165 + 4 * s.2.1) + 2) u := by
    intro e i u x he he2 fu hr hf
    rw [fX12_readNotes_J79, zl2, zi_add, zi_nat (show 165 + 4 * s.2.1 + 2 < 2 ^ 31 by omega)]
    refine ⟨zi_in (by omega) (by omega), ?_⟩
    intro w11 e11
    have f11 : zfH w w11 := zfH_trans fu (by rw [e11]; exact zfH_n _ _ (by omega))
    have hf11 : zRf (e + 16 * (zTT sg n).pl i) w11 := rf_of hf (by rw [e11, gI_sI_ne (by decide)])
    have hfin : ∀ x : Int32, fX12_readNotes_J101 k x (Int32.ofNat (165 + 4 * s.2.1) + 3) w11 := fun x => h101 w11 x (hx e i _ he he2 (zfH_trans f11 (zfH_n _ _ (by omega))) hr (rf_of hf11 (by rw [gI_sI_ne (by decide)])))
    exact ⟨fun _ => hfin 0, fun _ => q12_takeNumberF hf11 (hfin 0)⟩
  have h42F : ∀ (e i : Nat) (u : zW) (x : Int32), 0 < e → e < 16 → zfH w u → zN0 (zTT sg n) nm W R s = (e + 16 * (zTT sg n).pl i, s) → zRf (e + 16 * (zTT sg n).pl i) u → fX12_readNotes_J42 k (Int32.ofNat (165 + 4 * s.2.1)) (Int32.ofNat ((zTT sg n).ky s.1 - 6)) x (Int32.ofNat (165 + 4 * s.2.1) + 1) u := by
    intro e i u x he he2 fu hr hf
    rw [fX12_readNotes_J42, zl1, zi_add, zi_nat (show 165 + 4 * s.2.1 + 1 < 2 ^ 31 by omega)]
    refine ⟨zi_in (by omega) (by omega), ?_⟩
    intro w7 e7
    have f7 : zfH w w7 := zfH_trans fu (by rw [e7]; exact zfH_n _ _ (by omega))
    have hf7 : zRf (e + 16 * (zTT sg n).pl i) w7 := rf_of hf (by rw [e7, gI_sI_ne (by decide)])
    exact ⟨fun _ => ⟨fun _ => h79F e i w7 0 he he2 f7 hr hf7, fun _ => q12_takeNumberF hf7 (h79F e i w7 0 he he2 f7 hr hf7)⟩, fun _ => q12_takeNumberF hf7 (h79F e i w7 0 he he2 f7 hr hf7)⟩
  -- what stands behind all four
  have hall : ∀ (u : zW) (j' s' vx vy : Nat), zfH w u → zRtk sg n m j' u → zN0 (zTT sg n) nm W R s = (0, j', uN s.2 ((zTT sg n).ky s.1 - 6) s' vx vy) → (∀ i, i < 4 * s.2.1 → gI u 217 (165 + i) = gI w 217 (165 + i)) → gI u 217 (165 + 4 * s.2.1) = Int32.ofNat ((zTT sg n).ky s.1 - 6) → gI u 217 (165 + 4 * s.2.1 + 1) = Int32.ofNat s' → gI u 217 (165 + 4 * s.2.1 + 2) = Int32.ofNat vx → gI u 217 (165 + 4 * s.2.1 + 3) = Int32.ofNat vy → k u := by
    intro u j' s' vx vy fu ru hr g0 g1 g2 g3 g4
    rw [hr] at hok
    refine hok u fu rfl ru (fun i hi => ?_) rfl
    have hi' : i < s.2.1 + 1 := hi
    show gI u 217 (165 + 4 * i) = Int32.ofNat (if i = s.2.1 then (zTT sg n).ky s.1 - 6 else s.2.2.1 i) ∧ gI u 217 (165 + 4 * i + 1) = Int32.ofNat (if i = s.2.1 then s' else s.2.2.2.1 i) ∧ ((if i = s.2.1 then (zTT sg n).ky s.1 - 6 else s.2.2.1 i) = 0 ∨ (if i = s.2.1 then (zTT sg n).ky s.1 - 6 else s.2.2.1 i) = 2 → gI u 217 (165 + 4 * i + 2) = Int32.ofNat (if i = s.2.1 then vx else s.2.2.2.2.1 i)) ∧ ((if i = s.2.1 then (zTT sg n).ky s.1 - 6 else s.2.2.1 i) = 0 → gI u 217 (165 + 4 * i + 3) = Int32.ofNat (if i = s.2.1 then vy else s.2.2.2.2.2 i))
    by_cases e : i = s.2.1
    · rw [if_pos e, if_pos e, if_pos e, if_pos e, e]
      exact ⟨g1, g2, fun _ => g3, fun _ => g4⟩
    · rw [if_neg e, if_neg e, if_neg e, if_neg e]
      obtain ⟨q1, q2, q3, q4⟩ := hrn i (by omega)
      refine ⟨(g0 _ (by omega)).trans q1, ?_, fun z => ?_, fun z => ?_⟩
      · rw [Nat.add_assoc]; exact (g0 _ (by omega)).trans q2
      · rw [Nat.add_assoc]; exact (g0 _ (by omega)).trans (q3 z)
      · rw [Nat.add_assoc]; exact (g0 _ (by omega)).trans (q4 z)
  have h79 : ∀ (u : zW) (s' vx j2 : Nat), zfH w u → zRtk sg n m j2 u → (∀ i, i < 4 * s.2.1 → gI u 217 (165 + i) = gI w 217 (165 + i)) → gI u 217 (165 + 4 * s.2.1) = Int32.ofNat ((zTT sg n).ky s.1 - 6) → gI u 217 (165 + 4 * s.2.1 + 1) = Int32.ofNat s' →
      (¬ (zTT sg n).ky s.1 = 6 → zN0 (zTT sg n) nm W R s = (0, j2, uN s.2 ((zTT sg n).ky s.1 - 6) s' vx 0)) →
      ((zTT sg n).ky s.1 = 6 → zN0 (zTT sg n) nm W R s = (if zNe (zTT sg n) j2 0 3 = 0 then (0, j2 + 1, uN s.2 ((zTT sg n).ky s.1 - 6) s' vx ((zTT sg n).nu j2)) else (zNe (zTT sg n) j2 0 3 + 16 * (zTT sg n).pl j2, s))) →
      fX12_readNotes_J79 k (Int32.ofNat (165 + 4 * s.2.1)) (Int32.ofNat ((zTT sg n).ky s.1 - 6)) (Int32.ofNat vx) (Int32.ofNat (165 + 4 * s.2.1) + 2) u := by
    intro u s' vx j2 fu ru g0 g1 g2 hn6 h6
    rw [fX12_readNotes_J79, zl2, zi_add, zi_nat (show 165 + 4 * s.2.1 + 2 < 2 ^ 31 by omega)]
    refine ⟨zi_in (by omega) (by omega), ?_⟩
    intro w11 e11
    have f11 : zfH w w11 := zfH_trans fu (by rw [e11]; exact zfH_n _ _ (by omega))
    have r11 : zRtk sg n m j2 w11 := by rw [e11]; exact zRt_n ru _ _
    have g11 : ∀ c, c ≠ 165 + 4 * s.2.1 + 2 → gI w11 217 c = gI u 217 c := fun c q => by rw [e11, gI_sI_ne2 q]
    have g112 : gI w11 217 (165 + 4 * s.2.1 + 2) = Int32.ofNat vx := by rw [e11, gI_sI_eq]
    refine ⟨fun q => ?_, fun q => ?_⟩
    · have n6 : ¬ (zTT sg n).ky s.1 = 6 := fun z => q (by rw [z]; rfl)
      refine h101 w11 0 (hall _ j2 s' vx 0 (zfH_trans f11 (zfH_n _ _ (by omega))) (zRt_n r11 _ _) (hn6 n6) (fun i hi => ?_) ?_ ?_ ?_ ?_)
      · rw [gI_sI_ne2 (by omega), g11 _ (by omega)]; exact g0 i hi
      · rw [gI_sI_ne2 (by omega), g11 _ (by omega)]; exact g1
      · rw [gI_sI_ne2 (by omega), g11 _ (by omega)]; exact g2
      · rw [gI_sI_ne2 (by omega)]; exact g112
      · rw [gI_sI_eq]; rfl
    · have y6 : (zTT sg n).ky s.1 = 6 := by
        have := (zi_eq (b := 0) (by omega) (by decide)).mp q
        omega
      have hr := zNe_r (zTT sg n) j2 0 3
      refine q12_takeNumber (lo := 0) (H := 3) hsg r11 (by decide) (zhi_n (h := 2) (by decide)) (fun e => ?_) (fun e => ?_)
      · obtain ⟨b1, b2, b3⟩ := zNe_0 e
        have hlt := zTm_lt hm r11.2.2.1 (by rw [b1]; decide)
        have h6' := h6 y6
        rw [if_pos e] at h6'
        refine h101 _ _ (hall _ (j2 + 1) s' vx ((zTT sg n).nu j2) (zfH_trans f11 (zfH_trans (zfH_s _ _ (by omega)) (zfH_n _ _ (by omega)))) (zRt_n (zRt_7 r11 hlt) _ _) h6' (fun i hi => ?_) ?_ ?_ ?_ ?_)
        · rw [gI_sI_ne2 (by omega), gI_sI_ne (by decide), g11 _ (by omega)]; exact g0 i hi
        · rw [gI_sI_ne2 (by omega), gI_sI_ne (by decide), g11 _ (by omega)]; exact g1
        · rw [gI_sI_ne2 (by omega), gI_sI_ne (by decide), g11 _ (by omega)]; exact g2
        · rw [gI_sI_ne2 (by omega), gI_sI_ne (by decide)]; exact g112
        · rw [gI_sI_eq]
      · have h6' := h6 y6
        rw [if_neg e] at h6'
        have hf := rf_e (sg := sg) (n := n) (e := zNe (zTT sg n) j2 0 3) (i := j2) w11 hn1 ⟨by omega, by omega⟩
        exact h101 _ _ (hx (zNe (zTT sg n) j2 0 3) j2 _ (by omega) (by omega) (zfH_trans f11 (zfH_trans (zfH_s _ _ (by omega)) (zfH_n _ _ (by omega)))) h6' (rf_of hf (by rw [gI_sI_ne (by decide)])))
  have h42 : ∀ (u : zW), zfH w u → zRtk sg n m (s.1 + 2) u → zNsE (zTT sg n) nm W R s.1 = 0 → (∀ i, i < 4 * s.2.1 → gI u 217 (165 + i) = gI w 217 (165 + i)) → gI u 217 (165 + 4 * s.2.1) = Int32.ofNat ((zTT sg n).ky s.1 - 6) → fX12_readNotes_J42 k (Int32.ofNat (165 + 4 * s.2.1)) (Int32.ofNat ((zTT sg n).ky s.1 - 6)) (Int32.ofNat (zNsV (zTT sg n) nm W s.1)) (Int32.ofNat (165 + 4 * s.2.1) + 1) u := by
    intro u fu ru e0 g0 g1
    rw [fX12_readNotes_J42, zl1, zi_add, zi_nat (show 165 + 4 * s.2.1 + 1 < 2 ^ 31 by omega)]
    refine ⟨zi_in (by omega) (by omega), ?_⟩
    intro w7 e7
    have f7 : zfH w w7 := zfH_trans fu (by rw [e7]; exact zfH_n _ _ (by omega))
    have r7 : zRtk sg n m (s.1 + 2) w7 := by rw [e7]; exact zRt_n ru _ _
    have g7 : ∀ c, c ≠ 165 + 4 * s.2.1 + 1 → gI w7 217 c = gI u 217 c := fun c q => by rw [e7, gI_sI_ne2 q]
    have g71 : gI w7 217 (165 + 4 * s.2.1 + 1) = Int32.ofNat (zNsV (zTT sg n) nm W s.1) := by rw [e7, gI_sI_eq]
    refine ⟨fun q => ⟨fun q2 => ?_, fun q2 => ?_⟩, fun q => ?_⟩
    · have n6 : ¬ (zTT sg n).ky s.1 = 6 := fun z => q (by rw [z]; rfl)
      have n8 : ¬ (zTT sg n).ky s.1 = 8 := fun z => q2 (by rw [z]; rfl)
      exact h79 w7 _ 0 (s.1 + 2) f7 r7 (fun i hi => by rw [g7 _ (by omega)]; exact g0 i hi) (by rw [g7 _ (by omega)]; exact g1) g71 (fun _ => by rw [hz0, if_pos e0, if_neg n6, if_neg n8]) (fun z => absurd z n6)
    · have y8 : (zTT sg n).ky s.1 = 8 := by
        have := (zi_eq (b := 2) (by omega) (by decide)).mp q2
        omega
      have n6 : ¬ (zTT sg n).ky s.1 = 6 := by omega
      have hr := zNe_r (zTT sg n) (s.1 + 2) 0 100
      refine q12_takeNumber (j := s.1 + 2) (lo := 0) (H := 100) hsg r7 (by decide) (zhi_n (h := 99) (by decide)) (fun e => ?_) (fun e => ?_)
      · obtain ⟨b1, b2, b3⟩ := zNe_0 e
        have hlt := zTm_lt hm r7.2.2.1 (by rw [b1]; decide)
        exact h79 _ _ ((zTT sg n).nu (s.1 + 2)) (s.1 + 3) (zfH_trans f7 (zfH_s _ _ (by omega))) (zRt_7 r7 hlt) (fun i hi => by rw [gI_sI_ne (by decide), g7 _ (by omega)]; exact g0 i hi) (by rw [gI_sI_ne (by decide), g7 _ (by omega)]; exact g1) (by rw [gI_sI_ne (by decide)]; exact g71) (fun _ => by rw [hz0, if_pos e0, if_neg n6, if_pos y8, if_pos e, y8]) (fun z => absurd z n6)
      · exact h79F (zNe (zTT sg n) (s.1 + 2) 0 100) (s.1 + 2) _ 0 (by omega) (by omega) (zfH_trans f7 (zfH_s _ _ (by omega))) (by rw [hz0, if_pos e0, if_neg n6, if_pos y8, if_neg e]) (rf_e _ hn1 ⟨by omega, by omega⟩)
    · have y6 : (zTT sg n).ky s.1 = 6 := by
        have := (zi_eq (b := 0) (by omega) (by decide)).mp q
        omega
      have hr := zNe_r (zTT sg n) (s.1 + 2) 0 3
      refine q12_takeNumber (j := s.1 + 2) (lo := 0) (H := 3) hsg r7 (by decide) (zhi_n (h := 2) (by decide)) (fun e => ?_) (fun e => ?_)
      · obtain ⟨b1, b2, b3⟩ := zNe_0 e
        have hlt := zTm_lt hm r7.2.2.1 (by rw [b1]; decide)
        exact h79 _ _ ((zTT sg n).nu (s.1 + 2)) (s.1 + 3) (zfH_trans f7 (zfH_s _ _ (by omega))) (zRt_7 r7 hlt) (fun i hi => by rw [gI_sI_ne (by decide), g7 _ (by omega)]; exact g0 i hi) (by rw [gI_sI_ne (by decide), g7 _ (by omega)]; exact g1) (by rw [gI_sI_ne (by decide)]; exact g71) (fun z => absurd y6 z) (fun _ => by rw [hz0, if_pos e0, if_pos y6, if_pos e, y6])
      · exact h79F (zNe (zTT sg n) (s.1 + 2) 0 3) (s.1 + 2) _ 0 (by omega) (by omega) (zfH_trans f7 (zfH_s _ _ (by omega))) (by rw [hz0, if_pos e0, if_pos y6, if_neg e]) (rf_e _ hn1 ⟨by omega, by omega⟩)
  rw [fX12_readNotes, zi_nat (show 165 + 4 * s.2.1 < 2 ^ 31 by omega)]
  refine ⟨zi_in (by omega) (by omega), ?_⟩
  intro w2 e2
  have f2 : zfH w w2 := by rw [e2]; exact zfH_n _ _ (by omega)
  have r2 : zRtk sg n m (s.1 + 1) w2 := by rw [e2]; exact zRt_n hrt _ _
  have a2 := zRA_H hra f2
  have g2 : ∀ i, i < 4 * s.2.1 → gI w2 217 (165 + i) = gI w 217 (165 + i) := fun i hi => by rw [e2, gI_sI_ne2 (by omega)]
  have g21 : gI w2 217 (165 + 4 * s.2.1) = Int32.ofNat ((zTT sg n).ky s.1 - 6) := by rw [e2, gI_sI_eq]
  refine ⟨fun q => ?_, fun q => ?_⟩
  · have n8 : ¬ (zTT sg n).ky s.1 < 8 := by
      have := (zi_le (a := 2) (by decide) (by omega)).mp q
      omega
    have eE : zNsE (zTT sg n) nm W R s.1 = zNe (zTT sg n) (s.1 + 1) 0 R := if_neg n8
    have eV : zNsV (zTT sg n) nm W s.1 = (zTT sg n).nu (s.1 + 1) := if_neg n8
    have hr := zNe_r (zTT sg n) (s.1 + 1) 0 R
    rw [fX12_rows, show (2 : Int32).toNatClampNeg = 2 from rfl, a2.2.1]
    refine q12_takeNumber (j := s.1 + 1) (lo := 0) (H := R) hsg r2 (by decide) (zhi_r (by omega)) (fun e => ?_) (fun e => ?_)
    · obtain ⟨b1, b2, b3⟩ := zNe_0 e
      have hlt := zTm_lt hm r2.2.2.1 (by rw [b1]; decide)
      have := h42 _ (zfH_trans f2 (zfH_s _ _ (by omega))) (zRt_7 (j' := s.1 + 2) r2 hlt) (eE.trans e) (fun i hi => by rw [gI_sI_ne (by decide)]; exact g2 i hi) (by rw [gI_sI_ne (by decide)]; exact g21)
      rw [eV] at this
      exact this
    · exact h42F (zNe (zTT sg n) (s.1 + 1) 0 R) (s.1 + 1) _ 0 (by omega) (by omega) (zfH_trans f2 (zfH_s _ _ (by omega))) (by rw [hz0, if_neg (by rw [eE]; exact e), eE]) (rf_e _ hn1 ⟨by omega, by omega⟩)
  · have n8 : (zTT sg n).ky s.1 < 8 := by
      by_cases z : (zTT sg n).ky s.1 < 8
      · exact z
      · exact absurd ((zi_le (a := 2) (by decide) (by omega)).mpr (by omega)) q
    have eE : zNsE (zTT sg n) nm W R s.1 = zMe (zTT sg n) nm W (s.1 + 1) := if_pos n8
    have eV : zNsV (zTT sg n) nm W s.1 = zIx nm W ((zTT sg n).nm (s.1 + 1)) := if_pos n8
    have hr := zMe_r (zTT sg n) nm W (s.1 + 1)
    rw [fX12_wordsTold, show (0 : Int32).toNatClampNeg = 0 from rfl, a2.1]
    refine q12_takeTold (a := 0) hsg r2 (by omega) a2.2.2 hnm (fun e => ?_) (fun e => ?_)
    · have hlt := zTm_lt hm r2.2.2.1 (by rw [(zMe_0 e).1.1]; decide)
      have := h42 _ (zfH_trans f2 (zfH_s _ _ (by omega))) (zRt_7 (j' := s.1 + 2) r2 hlt) (eE.trans e) (fun i hi => by rw [gI_sI_ne (by decide)]; exact g2 i hi) (by rw [gI_sI_ne (by decide)]; exact g21)
      rw [eV] at this
      exact this
    · exact h42F (zMe (zTT sg n) nm W (s.1 + 1)) (s.1 + 1) _ 0 (by omega) (by omega) (zfH_trans f2 (zfH_s _ _ (by omega))) (by rw [hz0, if_neg (by rw [eE]; exact e), eE]) (rf_e _ hn1 ⟨by omega, by omega⟩)

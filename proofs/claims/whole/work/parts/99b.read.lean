/-! Level 2: all lines of a book, on both sides -/
theorem zBl_ok {sg : Nat → Nat} {n m : Nat} (hn : n ≤ 1000) (hm : zTm (zTT sg n) m) : ∀ (f : Nat) (s : Nat × zBs), s.1 ≤ m → zXok s.2 → ((zBl (zTT sg n) f s).1 = 0 → (zBl (zTT sg n) f s).2.1 ≤ m ∧ zXok (zBl (zTT sg n) f s).2.2) ∧ (¬ (zBl (zTT sg n) f s).1 = 0 → (zBl (zTT sg n) f s).1 < 20000) := by
  intro f
  induction f with
  | zero => intro s hj hX; exact ⟨fun _ => ⟨hj, hX⟩, fun q => absurd rfl q⟩
  | succ f ih =>
    intro s hj hX
    rw [zBl]
    by_cases e : (zTT sg n).kd s.1 = 0
    · rw [if_pos e]; exact ⟨fun _ => ⟨hj, hX⟩, fun q => absurd rfl q⟩
    · rw [if_neg e]
      obtain ⟨p1, p2⟩ := zLn_ok hn hm (zTm_lt hm hj e) hX
      by_cases e2 : (zEnd (zTT sg n) (zLn0 (zTT sg n) s.1 s.2)).1 = 0
      · rw [if_pos e2]
        obtain ⟨q1, q2, q3⟩ := p1 e2
        exact ih _ q2 q3
      · rw [if_neg e2]
        exact ⟨fun q => absurd q e2, fun q => p2 q⟩
theorem q1_bookL {sg : Nat → Nat} {n m b : Nat} {w : zW} {k : Int32 → zW → Prop} {R : zRs} (hsg : zSg sg n) (hm : zTm (zTT sg n) m) (hb : b = 40 ∨ b = 80)
    (hok : ∀ v, zfB b w v → R.1 = 0 → zCt sg n R.2.1 v → zCX b R.2.2 v → fX1_read_J163 b k v) (herr : ∀ v, zfB b w v → ¬ R.1 = 0 → k (Int32.ofNat R.1) v) :
    ∀ (f i : Nat) (s : Nat × zBs) (v : zW), i + f = 1001 → s.1 ≤ m → zXok s.2 → zfB b w v → zCt sg n s.1 v → zCX b s.2 v → zBl (zTT sg n) f s = R → fX1_read_L33 b k (f + 1) (Int32.ofNat i) v := by
  have hm1 := hm.1
  intro f
  induction f with
  | zero =>
    intro i s v hi hj hX fv hct hcx hR
    rw [zBl] at hR
    subst hR
    rw [fX1_read_L33]
    exact ⟨fun _ => hok v fv rfl hct hcx, fun q => absurd ((zi_lt (a := 1000) (by decide) (by omega)).mpr (by omega)) q⟩
  | succ f ih =>
    intro i s v hi hj hX fv hct hcx hR
    have h4 := zTT_kd4 sg n s.1
    have h21 := zTT_ky21 sg n s.1
    rw [fX1_read_L33]
    refine ⟨fun q => absurd ((zi_lt (a := 1000) (by decide) (by omega)).mp q) (by omega), fun _ => ?_⟩
    rw [ct_kd hct, ct_ky hct]
    refine ⟨fun q => ?_, fun q => ?_⟩
    · have e : (zTT sg n).kd s.1 = 0 := (zi_eq (b := 0) (by omega) (by decide)).mp q
      rw [zBl, if_pos e] at hR
      subst hR
      exact hok v fv rfl hct hcx
    · have e : ¬ (zTT sg n).kd s.1 = 0 := fun y => q (by rw [y]; rfl)
      have hlt := zTm_lt hm hj e
      obtain ⟨p1, p2⟩ := zLn_ok hsg.1 hm hlt hX
      rw [zBl, if_neg e] at hR
      -- behind a line
      have hJ1 : ∀ v2, zfB b v v2 → (zEnd (zTT sg n) (zLn0 (zTT sg n) s.1 s.2)).1 = 0 → zCt sg n (zEnd (zTT sg n) (zLn0 (zTT sg n) s.1 s.2)).2.1 v2 → zCX b (zEnd (zTT sg n) (zLn0 (zTT sg n) s.1 s.2)).2.2 v2 → fX1_read_J145 b k (fX1_read_L33 b k (f + 1)) (Int32.ofNat i) 1 v2 := by
        intro v2 f2 e2 c2 x2
        rw [if_pos e2] at hR
        obtain ⟨q1, q2, q3⟩ := p1 e2
        rw [fX1_read_J145]
        refine ⟨fun _ => ?_, fun y => absurd y (by decide)⟩
        rw [zl1, zi_add]
        exact ih (i + 1) _ v2 (by omega) q2 q3 (zfB_trans fv f2) c2 x2 hR
      have hJ0 : ∀ v2, zfB b v v2 → ¬ (zEnd (zTT sg n) (zLn0 (zTT sg n) s.1 s.2)).1 = 0 → gI v2 2 8 = Int32.ofNat (zEnd (zTT sg n) (zLn0 (zTT sg n) s.1 s.2)).1 → fX1_read_J145 b k (fX1_read_L33 b k (f + 1)) (Int32.ofNat i) 0 v2 := by
        intro v2 f2 e2 h8
        rw [if_neg e2] at hR
        rw [fX1_read_J145]
        refine ⟨fun y => absurd rfl y, fun _ => ?_⟩
        rw [h8, hR]
        exact herr v2 (zfB_trans fv f2) (by rw [← hR]; exact e2)
      have hbad : ∀ kx : zLn0 (zTT sg n) s.1 s.2 = (1 + 16 * (zTT sg n).pl s.1, s.1, s.2), fX10_wrong (1 : Int32) v (fun r24 w24 => fX1_read_J145 b k (fX1_read_L33 b k (f + 1)) (Int32.ofNat i) r24 w24) := fun kx => by
        refine q10_wrong (x := 1) hct (fun v2 ev => hJ0 v2 (by rw [ev]; exact zfB_8 _ _ _) ?_ ?_)
        · rw [kx, zEnd_x (by decide)]
          intro z
          have z' : 1 + 16 * (zTT sg n).pl s.1 = 0 := z
          omega
        · rw [kx, zEnd_x (by decide), ev, gI_sI_eq]
      intro sv esv
      rw [esv]
      refine ⟨fun y => ?_, fun y0 => ⟨fun y => ?_, fun y1 => ⟨fun y => ?_, fun y2 => ⟨fun y => ?_, fun y3 => ⟨fun y => ?_, fun y4 => ⟨fun y => ?_, fun y5 => ?_⟩⟩⟩⟩⟩⟩
      · have k0 := (zKy_eq (c := 0) h21 (by decide)).mp y
        have ez : zLn0 (zTT sg n) s.1 s.2 = zLnW (zTT sg n) s.1 s.2 := by rw [zLn0, if_pos k0]
        rw [ez] at hJ1 hJ0
        exact q1_readWord (m := m) hsg hb s.1 s.2 v _ hlt hX hct hcx hJ1 hJ0
      · have k1 := (zKy_eq (c := 1) h21 (by decide)).mp y
        have ez : zLn0 (zTT sg n) s.1 s.2 = zLnC (zTT sg n) s.1 s.2 := by rw [zLn0, if_neg (by omega), if_neg (by omega), if_neg (by omega), if_pos k1]
        rw [ez] at hJ1 hJ0
        exact q1_readCasts (m := m) hsg hb s.1 s.2 v _ hlt hX hct hcx hJ1 hJ0
      · have k2 := (zKy_eq (c := 2) h21 (by decide)).mp y
        have ez : zLn0 (zTT sg n) s.1 s.2 = zLnR (zTT sg n) s.1 s.2 := by rw [zLn0, if_neg (by omega), if_pos k2]
        rw [ez] at hJ1 hJ0
        exact q1_readRow hsg hm hb s.1 s.2 v _ hlt hX hct hcx hJ1 hJ0
      · have k3 := (zKy_eq (c := 3) h21 (by decide)).mp y
        have ez : zLn0 (zTT sg n) s.1 s.2 = zLnA (zTT sg n) s.1 s.2 := by rw [zLn0, if_neg (by omega), if_neg (by omega), if_pos k3]
        rw [ez] at hJ1 hJ0
        exact q1_readAfter (m := m) hsg hb s.1 s.2 v _ hlt hX hct hcx hJ1 hJ0
      · have k4 := (zKy_eq (c := 4) h21 (by decide)).mp y
        exact hbad (by rw [zLn0, if_neg (by omega), if_neg (by omega), if_neg (by omega), if_neg (by omega), if_neg (by omega)])
      · have k5 := (zKy_eq (c := 5) h21 (by decide)).mp y
        have ez : zLn0 (zTT sg n) s.1 s.2 = zLnL (zTT sg n) s.1 s.2 := by rw [zLn0, if_neg (by omega), if_neg (by omega), if_neg (by omega), if_neg (by omega), if_pos k5]
        rw [ez] at hJ1 hJ0
        exact q1_readRules hsg hm hb s.1 s.2 v _ hlt hX hct hcx hJ1 hJ0
      · have n0 : ¬ (zTT sg n).ky s.1 = 0 := fun z => y0 ((zKy_eq (c := 0) h21 (by decide)).mpr z)
        have n1 : ¬ (zTT sg n).ky s.1 = 1 := fun z => y1 ((zKy_eq (c := 1) h21 (by decide)).mpr z)
        have n2 : ¬ (zTT sg n).ky s.1 = 2 := fun z => y2 ((zKy_eq (c := 2) h21 (by decide)).mpr z)
        have n3 : ¬ (zTT sg n).ky s.1 = 3 := fun z => y3 ((zKy_eq (c := 3) h21 (by decide)).mpr z)
        have n5 : ¬ (zTT sg n).ky s.1 = 5 := fun z => y5 ((zKy_eq (c := 5) h21 (by decide)).mpr z)
        exact hbad (by rw [zLn0, if_neg n0, if_neg n2, if_neg n3, if_neg n1, if_neg n5])
theorem q12_bookL {sg : Nat → Nat} {n m : Nat} {w : zW} {k : Int32 → zW → Prop} {R : zRs} (hsg : zSg sg n) (hm : zTm (zTT sg n) m)
    (hok : ∀ v, zfG w v → R.1 = 0 → zRtk sg n m R.2.1 v → zRX R.2.2 v → fX12_book_J52 k v) (herr : ∀ v, zfG w v → ¬ R.1 = 0 → zRf R.1 v → k (Int32.ofNat R.1) v) :
    ∀ (f : Nat) (s : Nat × zBs) (v : zW), m < s.1 + f → s.1 ≤ m → zXok s.2 → zfG w v → zRtk sg n m s.1 v → zRX s.2 v → zBl (zTT sg n) f s = R → fX12_book_L20 k (f + 1) v := by
  have hm1 := hm.1
  have hn1 := hsg.1
  intro f
  induction f with
  | zero => intro s v hf hj; omega
  | succ f ih =>
    intro s v hf hj hX fv hrt hrx hR
    have h4 := zTT_kd4 sg n s.1
    rw [fX12_book_L20]
    refine ⟨fun q => absurd hrt.2.2.2.1 q, fun _ => ⟨(rt_in hrt).1, ?_⟩⟩
    rw [(rt_in hrt).2, rt_kd hrt]
    refine ⟨fun q => ?_, fun q => ?_⟩
    · have e : (zTT sg n).kd s.1 = 0 := (zi_eq (b := 0) (by omega) (by decide)).mp q
      rw [zBl, if_pos e] at hR
      subst hR
      exact hok v fv rfl hrt hrx
    · have e : ¬ (zTT sg n).kd s.1 = 0 := fun y => q (by rw [y]; rfl)
      have hlt := zTm_lt hm hj e
      obtain ⟨p1, p2⟩ := zLn_ok hn1 hm hlt hX
      rw [zBl, if_neg e] at hR
      have hflt : ∀ v2, zfG v v2 → ¬ (zEnd (zTT sg n) (zLn0 (zTT sg n) s.1 s.2)).1 = 0 → zRf (zEnd (zTT sg n) (zLn0 (zTT sg n) s.1 s.2)).1 v2 → fX12_book_L20 k (f + 1) v2 := by
        intro v2 f2 e2 h8
        rw [if_neg e2] at hR
        rw [fX12_book_L20]
        refine ⟨fun _ => ?_, fun y => absurd y (rf_ne h8)⟩
        rw [fX12_book_J52]
        refine ⟨fun y => absurd y (rf_le h8), fun _ => ?_⟩
        rw [h8.2.2, hR]
        rw [hR] at h8 e2
        exact herr v2 (zfG_trans fv f2) e2 h8
      refine q12_readLine hsg hm s.1 s.2 v _ hlt hX hrt hrx (fun v2 f2 e2 rt2 rx2 => ?_) (fun v2 f2 e2 h8 => ?_)
      · refine q12_takeSign (c := 59) hsg rt2 (by decide) (fun y => ?_) (fun y => ?_)
        · have ez : zEnd (zTT sg n) (zLn0 (zTT sg n) s.1 s.2) = (0, (zLn0 (zTT sg n) s.1 s.2).2.1 + 1, (zLn0 (zTT sg n) s.1 s.2).2.2) := by rw [zEnd, if_pos e2, if_pos y]
          rw [ez] at hR p1
          rw [if_pos rfl] at hR
          obtain ⟨q1, q2, q3⟩ := p1 rfl
          have q1' : s.1 < (zLn0 (zTT sg n) s.1 s.2).2.1 + 1 := q1
          have q2' : (zLn0 (zTT sg n) s.1 s.2).2.1 + 1 ≤ m := q2
          exact ih _ _ (by show m < (zLn0 (zTT sg n) s.1 s.2).2.1 + 1 + f; omega) q2 q3 (zfG_trans fv (zfG_trans f2 (zfG_s _ _ (by omega)))) (zRt_7 rt2 q2') (zRX_s rx2 _ (by decide)) hR
        · have ez : zEnd (zTT sg n) (zLn0 (zTT sg n) s.1 s.2) = (1 + 16 * (zTT sg n).pl (zLn0 (zTT sg n) s.1 s.2).2.1, (zLn0 (zTT sg n) s.1 s.2).2) := by rw [zEnd, if_pos e2, if_neg y]
          rw [ez] at hflt
          refine hflt _ (zfG_trans f2 (zfG_s _ _ (by omega))) (fun z => ?_) (rf_e _ hn1 (by omega))
          have z' : 1 + 16 * (zTT sg n).pl (zLn0 (zTT sg n) s.1 s.2).2.1 = 0 := z
          omega
      · have ez : zEnd (zTT sg n) (zLn0 (zTT sg n) s.1 s.2) = zLn0 (zTT sg n) s.1 s.2 := zEnd_e e2
        rw [ez] at hflt
        exact q12_takeSignF h8 (hflt v2 f2 e2 h8)
/-- what a book's signs come to -/
def zBook (sg : Nat → Nat) (n : Nat) : zRs := zBl (zTT sg n) 1001 (0, zX0)
/-- the class's book before anything is read -/
theorem q1_read {sg : Nat → Nat} {n m b : Nat} {w : zW} {k : Int32 → zW → Prop} (hsg : zSg sg n) (hm : zTm (zTT sg n) m) (hb : b = 40 ∨ b = 80) (h1 : gI w 2 1 = Int32.ofNat n) (h3 : ∀ i, i < n → gI w 3 i = Int32.ofNat (sg i))
    (hok : ∀ v, zfB b (sR w 4 3 b) v → (zBook sg n).1 = 0 → zCX b (zBook sg n).2.2 v → fX1_read_J163 b k v) (herr : ∀ v, zfB b (sR w 4 3 b) v → ¬ (zBook sg n).1 = 0 → k (Int32.ofNat (zBook sg n).1) v) : fX1_read b w k := by
  rw [fX1_read]
  intro w1 e1
  have r1 : gR w1 4 3 = b := by rw [e1, gR_sR_eq]
  rw [r1, fX0_clear]
  refine ⟨by omega, ?_⟩
  intro wa ea wb eb wc ec
  have z3 : zln (b + 3) = 4 := by rcases hb with e | e <;> rw [e] <;> rfl
  have z4 : zln (b + 4) = 4 := by rcases hb with e | e <;> rw [e] <;> rfl
  have z29 : zln (b + 29) = 8 := by rcases hb with e | e <;> rw [e] <;> rfl
  have z30 : zln (b + 30) = 8 := by rcases hb with e | e <;> rw [e] <;> rfl
  refine q_fill (by rw [z3]; decide) (q_fill (by rw [z4]; decide) (q_fill (by rw [z29]; decide) (q_fill (by rw [z30]; decide) ?_)))
  rw [z3, z4, z29, z30, fX7_clear]
  intro wd ed
  -- what is there now
  have id : ∀ a c, (a < b ∨ b + 30 < a) → ¬ (a = 6 ∧ c = 3) → gI wd a c = gI w a c := fun a c q1 q2 => by
    rw [ed, gI_sI, if_neg q2, gI_aI_ne (by omega), gI_aI_ne (by omega), gI_aI_ne (by omega), gI_aI_ne (by omega), ec, gI_sI, if_neg (by omega), eb, gI_sI, if_neg (by omega), ea, gI_sI, if_neg (by omega), e1]; rfl
  have i0 : gI wd b 0 = Int32.ofNat 0 ∧ gI wd b 6 = Int32.ofNat 0 ∧ gI wd b 7 = Int32.ofNat 0 := by
    refine ⟨?_, ?_, ?_⟩
    · rw [ed, gI_sI_ne (by omega), gI_aI_ne (by omega), gI_aI_ne (by omega), gI_aI_ne (by omega), gI_aI_ne (by omega), ec, gI_sI_ne2 (by decide), eb, gI_sI_ne2 (by decide), ea, gI_sI_eq]; rfl
    · rw [ed, gI_sI_ne (by omega), gI_aI_ne (by omega), gI_aI_ne (by omega), gI_aI_ne (by omega), gI_aI_ne (by omega), ec, gI_sI_ne2 (by decide), eb, gI_sI_eq]; rfl
    · rw [ed, gI_sI_ne (by omega), gI_aI_ne (by omega), gI_aI_ne (by omega), gI_aI_ne (by omega), gI_aI_ne (by omega), ec, gI_sI_eq]; rfl
  have i3 : ∀ o, o < 4 → gI wd (b + 3) o = Int32.ofNat 0 ∧ gI wd (b + 4) o = Int32.ofNat 0 := fun o ho => by
    constructor
    · rw [ed, gI_sI_ne (by omega), gI_aI_ne (by omega), gI_aI_ne (by omega), gI_aI_ne (by omega), gI_aI_eq, if_pos ho]; rfl
    · rw [ed, gI_sI_ne (by omega), gI_aI_ne (by omega), gI_aI_ne (by omega), gI_aI_eq, if_pos ho]; rfl
  have i29 : ∀ r, r < 8 → gI wd (b + 29) r = zN1 ∧ gI wd (b + 30) r = Int32.ofNat 0 := fun r hr => by
    constructor
    · rw [ed, gI_sI_ne (by omega), gI_aI_ne (by omega), gI_aI_eq, if_pos hr]; rfl
    · rw [ed, gI_sI_ne (by omega), gI_aI_eq, if_pos hr]; rfl
  have sd : ∀ a c, gL wd a c = gL w a c := fun a c => by rw [ed, gL_sI, gL_aI, gL_aI, gL_aI, gL_aI, ec, gL_sI, eb, gL_sI, ea, gL_sI, e1, gL_sR]
  have rd : ∀ a c, gR wd a c = gR w1 a c := fun a c => by rw [ed, gR_sI, gR_aI, gR_aI, gR_aI, gR_aI, ec, gR_sI, eb, gR_sI, ea, gR_sI]
  have g63 : gI wd 6 3 = Int32.ofNat 0 := by rw [ed, gI_sI_eq]; rfl
  clear ed
  refine q7_addStep g63 (by decide) (fun we ee => ?_)
  intro w5 e5
  rw [fX10_begin]
  intro w6 e6 w7 e7
  have i7 : ∀ a c, ¬ (a = 2 ∧ (c = 8 ∨ c = 9)) → ¬ (a = 4 ∧ c = 4) → ¬ (a = 6 ∧ c = 3) → ¬ (a = 7 ∧ c = 0) → gI w7 a c = gI wd a c := fun a c q1 q2 q3 q4 => by
    rw [e7, gI_sI, if_neg (by omega), e6, gI_sI, if_neg (by omega), e5, gI_sI, if_neg q2, ee, gI_sI, if_neg q3, gI_sI, if_neg q4]
  have s7 : w7.2 = wd.2 := by rw [e7, e6, e5, ee]; rfl
  have l7 : ∀ a c, gL w7 a c = gL w a c := fun a c => by rw [gL, s7]; exact sd a c
  have r7 : ∀ a c, gR w7 a c = gR w1 a c := fun a c => by rw [gR, s7]; exact rd a c
  refine q10_next (j := 0) hsg ?_ (fun i hi => ?_) ?_ (fun v fv av => ?_)
  · rw [i7 _ _ (by omega) (by omega) (by omega) (by omega), id _ _ (by omega) (by omega)]; exact h1
  · rw [i7 _ _ (by omega) (by omega) (by omega) (by omega), id _ _ (by omega) (by omega)]; exact h3 i hi
  · rw [e7, gI_sI_ne2 (by decide), e6, gI_sI_eq]; rfl
  · have ctv : zCt sg n 0 v := by
      refine ⟨?_, fun i hi => ?_, av⟩
      · rw [fv.1 _ _ (by omega), i7 _ _ (by omega) (by omega) (by omega) (by omega), id _ _ (by omega) (by omega)]; exact h1
      · rw [fv.1 _ _ (by omega), i7 _ _ (by omega) (by omega) (by omega) (by omega), id _ _ (by omega) (by omega)]; exact h3 i hi
    have jv : ∀ a c, a ≠ 2 → ¬ (a = 4 ∧ c = 4) → ¬ (a = 6 ∧ c = 3) → ¬ (a = 7 ∧ c = 0) → gI v a c = gI wd a c := fun a c q1 q2 q3 q4 => by rw [fv.1 a c (by omega)]; exact i7 a c (by omega) q2 q3 q4
    have cxv : zCX b zX0 v := by
      refine ⟨by rw [fv.2.2, r7]; exact r1, ⟨?_, ?_, ?_⟩, fun o ho => absurd ho (Nat.not_lt_zero o), fun o ho => absurd ho (Nat.not_lt_zero o), fun r hr => absurd hr (Nat.not_lt_zero r), fun r i hr => absurd hr (Nat.not_lt_zero r), fun r hr => ?_, ?_, fun _ => ⟨?_, ?_⟩, fun n' g' q => (nomatch (show none = some (n', g') from q)), fun o ho => ?_, fun r hr => ?_⟩
      · rw [jv _ _ (by omega) (by omega) (by omega) (by omega)]; exact i0.1
      · rw [jv _ _ (by omega) (by omega) (by omega) (by omega)]; exact i0.2.1
      · rw [jv _ _ (by omega) (by omega) (by omega) (by omega)]; exact i0.2.2
      · rw [jv _ _ (by omega) (by omega) (by omega) (by omega)]; exact (i29 r hr).1
      · rw [fv.1 _ _ (by omega), e7, gI_sI_ne (by decide), e6, gI_sI_ne (by decide), e5, gI_sI_eq]; rfl
      · rw [fv.1 _ _ (by omega), e7, gI_sI_ne (by decide), e6, gI_sI_ne (by decide), e5, gI_sI_ne (by decide), ee, gI_sI_eq]
      · rw [fv.1 _ _ (by omega), e7, gI_sI_ne (by decide), e6, gI_sI_ne (by decide), e5, gI_sI_ne (by decide), ee, gI_sI_ne (by decide), gI_sI_eq]; rfl
      · rw [jv _ _ (by omega) (by omega) (by omega) (by omega), jv _ _ (by omega) (by omega) (by omega) (by omega)]; exact i3 o ho
      · rw [jv _ _ (by omega) (by omega) (by omega) (by omega)]; exact (i29 r hr).2
    have ffv : zfB b (sR w 4 3 b) v := by
      refine ⟨fun a c q1 q2 q3 q4 q5 q6 => ?_, fun a c q1 q2 => ?_, fun a c => ?_⟩
      · rw [fv.1 a c (by omega), i7 a c (by omega) (by omega) q4 (by omega), id a c q6 q4]; rfl
      · rw [fv.2.1 a c q1, l7]; rfl
      · rw [fv.2.2, r7, e1]
    exact ⟨1001 + 1, q1_bookL (R := zBook sg n) hsg hm hb (fun v2 f2 e2 c2 x2 => hok v2 (zfB_trans ffv f2) e2 x2) (fun v2 f2 e2 => herr v2 (zfB_trans ffv f2) e2) 1001 0 (0, zX0) v rfl (Nat.zero_le _) zXok_0 (zfB_refl _ _) ctv cxv rfl⟩

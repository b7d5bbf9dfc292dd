/-! Level 2: lines of notes, of tokens alone; the class reads them -/
abbrev zNr : Type := Nat × Nat × zNt
def uN (N : zNt) (d s x y : Nat) : zNt := (N.1 + 1, fun i => if i = N.1 then d else N.2.1 i, fun i => if i = N.1 then s else N.2.2.1 i, fun i => if i = N.1 then x else N.2.2.2.1 i, fun i => if i = N.1 then y else N.2.2.2.2 i)
/-- what it is about: a word, or a row -/
def zNsE (T : zTks) (nm : Nat → List Nat) (W R j : Nat) : Nat := if T.ky j < 8 then zMe T nm W (j + 1) else zNe T (j + 1) 0 R
def zNsV (T : zTks) (nm : Nat → List Nat) (W j : Nat) : Nat := if T.ky j < 8 then zIx nm W (T.nm (j + 1)) else T.nu (j + 1)
def zN0 (T : zTks) (nm : Nat → List Nat) (W R : Nat) (s : Nat × zNt) : zNr :=
  if ¬ (6 ≤ T.ky s.1 ∧ T.ky s.1 ≤ 9) then (1 + 16 * T.pl s.1, s)
  else if 40 ≤ s.2.1 then (5 + 16 * T.pl s.1, s)
  else if zNsE T nm W R s.1 = 0 then
    (if T.ky s.1 = 6 then
      (if zNe T (s.1 + 2) 0 3 = 0 then (if zNe T (s.1 + 3) 0 3 = 0 then (0, s.1 + 4, uN s.2 0 (zNsV T nm W s.1) (T.nu (s.1 + 2)) (T.nu (s.1 + 3))) else (zNe T (s.1 + 3) 0 3 + 16 * T.pl (s.1 + 3), s)) else (zNe T (s.1 + 2) 0 3 + 16 * T.pl (s.1 + 2), s))
     else if T.ky s.1 = 8 then (if zNe T (s.1 + 2) 0 100 = 0 then (0, s.1 + 3, uN s.2 2 (zNsV T nm W s.1) (T.nu (s.1 + 2)) 0) else (zNe T (s.1 + 2) 0 100 + 16 * T.pl (s.1 + 2), s))
     else (0, s.1 + 2, uN s.2 (T.ky s.1 - 6) (zNsV T nm W s.1) 0 0))
  else (zNsE T nm W R s.1 + 16 * T.pl (s.1 + 1), s)
def zEnN (T : zTks) (r : zNr) : zNr := if r.1 = 0 then (if zSn T 59 r.2.1 = true then (0, r.2.1 + 1, r.2.2) else (1 + 16 * T.pl r.2.1, r.2)) else r
def zNl (T : zTks) (nm : Nat → List Nat) (W R : Nat) : Nat → Nat × zNt → zNr
  | 0, s => (0, s)
  | f + 1, s => if T.kd s.1 = 0 then (0, s) else if (zEnN T (zN0 T nm W R s)).1 = 0 then zNl T nm W R f (zEnN T (zN0 T nm W R s)).2 else zEnN T (zN0 T nm W R s)
/-- notes that can be done: zNwf without a book -/
def zNok (W R : Nat) (N : zNt) : Prop := N.1 ≤ 40 ∧ ∀ i, i < N.1 → N.2.1 i < 4 ∧ (N.2.1 i < 2 → N.2.2.1 i < W) ∧ (2 ≤ N.2.1 i → N.2.2.1 i < R) ∧ (N.2.1 i = 0 → N.2.2.2.1 i ≤ 2 ∧ N.2.2.2.2 i ≤ 2) ∧ (N.2.1 i = 2 → N.2.2.2.1 i ≤ 99)
theorem zNok_u {W R d s x y : Nat} {N : zNt} (h : zNok W R N) (h40 : N.1 < 40) (hd : d < 4) (h1 : d < 2 → s < W) (h2 : 2 ≤ d → s < R) (h3 : d = 0 → x ≤ 2 ∧ y ≤ 2) (h4 : d = 2 → x ≤ 99) : zNok W R (uN N d s x y) := by
  refine ⟨h40, fun i hi => ?_⟩
  have hi' : i < N.1 + 1 := hi
  show (if i = N.1 then d else N.2.1 i) < 4 ∧ ((if i = N.1 then d else N.2.1 i) < 2 → (if i = N.1 then s else N.2.2.1 i) < W) ∧ (2 ≤ (if i = N.1 then d else N.2.1 i) → (if i = N.1 then s else N.2.2.1 i) < R) ∧ ((if i = N.1 then d else N.2.1 i) = 0 → (if i = N.1 then x else N.2.2.2.1 i) ≤ 2 ∧ (if i = N.1 then y else N.2.2.2.2 i) ≤ 2) ∧ ((if i = N.1 then d else N.2.1 i) = 2 → (if i = N.1 then x else N.2.2.2.1 i) ≤ 99)
  by_cases e : i = N.1
  · rw [if_pos e, if_pos e, if_pos e, if_pos e]; exact ⟨hd, h1, h2, h3, h4⟩
  · rw [if_neg e, if_neg e, if_neg e, if_neg e]; exact h.2 i (by omega)
def zNgk (m W R : Nat) (s : Nat × zNt) (r : zNr) : Prop := (r.1 = 0 → s.1 < r.2.1 ∧ r.2.1 ≤ m ∧ zNok W R r.2.2) ∧ (¬ r.1 = 0 → r.1 < 20000)
theorem zNsE_r (T : zTks) (nm : Nat → List Nat) (W R j : Nat) : zNsE T nm W R j ≤ 4 := by
  unfold zNsE
  by_cases e : T.ky j < 8
  · rw [if_pos e]; have := zMe_r T nm W (j + 1); omega
  · rw [if_neg e]; have := zNe_r T (j + 1) 0 R; omega
theorem zNsE_0 {T : zTks} {nm : Nat → List Nat} {W R j : Nat} (h : zNsE T nm W R j = 0) : ¬ T.kd (j + 1) = 0 ∧ (T.ky j < 8 → zNsV T nm W j < W) ∧ (¬ T.ky j < 8 → zNsV T nm W j < R) := by
  unfold zNsE at h
  unfold zNsV
  by_cases e : T.ky j < 8
  · rw [if_pos e] at h ⊢
    obtain ⟨a1, a2⟩ := zMe_0 h
    exact ⟨by rw [a1.1]; decide, fun _ => a2, fun q => absurd e q⟩
  · rw [if_neg e] at h ⊢
    obtain ⟨a1, a2, a3⟩ := zNe_0 h
    exact ⟨by rw [a1]; decide, fun q => absurd q e, fun _ => a3⟩
theorem zN_ok {sg : Nat → Nat} {n m W R : Nat} {nm : Nat → List Nat} (hn : n ≤ 1000) (hm : zTm (zTT sg n) m) (s : Nat × zNt) (hj : s.1 < m) (hN : zNok W R s.2) : zNgk m W R s (zEnN (zTT sg n) (zN0 (zTT sg n) nm W R s)) := by
  have hpl : ∀ i, (zTT sg n).pl i ≤ 1000 := zTT_pl hn
  have herr : ∀ (e i : Nat), 0 < e → e < 16 → zNgk m W R s (zEnN (zTT sg n) (e + 16 * (zTT sg n).pl i, s)) := fun e i he he2 => by
    have hp := hpl i
    have ez : zEnN (zTT sg n) (e + 16 * (zTT sg n).pl i, s) = (e + 16 * (zTT sg n).pl i, s) := if_neg (show ¬ e + 16 * (zTT sg n).pl i = 0 by omega)
    rw [ez]
    exact ⟨fun q => by have q' : e + 16 * (zTT sg n).pl i = 0 := q; omega, fun _ => show e + 16 * (zTT sg n).pl i < 20000 by omega⟩
  have hend : ∀ (j' : Nat) (N' : zNt), s.1 < j' → j' ≤ m → zNok W R N' → zNgk m W R s (zEnN (zTT sg n) (0, j', N')) := fun j' N' h1 h2 h3 => by
    have ez : zEnN (zTT sg n) (0, j', N') = (if zSn (zTT sg n) 59 j' = true then (0, j' + 1, N') else (1 + 16 * (zTT sg n).pl j', j', N')) := if_pos rfl
    rw [ez]
    by_cases e : zSn (zTT sg n) 59 j' = true
    · rw [if_pos e]
      exact ⟨fun _ => ⟨Nat.lt_succ_of_lt h1, zTm_lt hm h2 (by rw [(zSn_t e).1]; decide), h3⟩, fun q => absurd rfl q⟩
    · have hp := hpl j'
      rw [if_neg e]
      exact ⟨fun q => by have q' : 1 + 16 * (zTT sg n).pl j' = 0 := q; omega, fun _ => show 1 + 16 * (zTT sg n).pl j' < 20000 by omega⟩
  unfold zN0
  by_cases e1 : 6 ≤ (zTT sg n).ky s.1 ∧ (zTT sg n).ky s.1 ≤ 9
  · rw [if_neg (fun q => q e1)]
    by_cases e2 : 40 ≤ s.2.1
    · rw [if_pos e2]; exact herr 5 _ (by omega) (by omega)
    · rw [if_neg e2]
      have hr := zNsE_r (zTT sg n) nm W R s.1
      by_cases e3 : zNsE (zTT sg n) nm W R s.1 = 0
      · rw [if_pos e3]
        obtain ⟨a1, a2, a3⟩ := zNsE_0 e3
        have l1 := zTm_lt hm (show s.1 + 1 ≤ m by omega) a1
        by_cases e4 : (zTT sg n).ky s.1 = 6
        · rw [if_pos e4]
          have hr2 := zNe_r (zTT sg n) (s.1 + 2) 0 3
          by_cases e5 : zNe (zTT sg n) (s.1 + 2) 0 3 = 0
          · rw [if_pos e5]
            obtain ⟨b1, b2, b3⟩ := zNe_0 e5
            have l2 := zTm_lt hm (show s.1 + 2 ≤ m by omega) (by rw [b1]; decide)
            have hr3 := zNe_r (zTT sg n) (s.1 + 3) 0 3
            by_cases e6 : zNe (zTT sg n) (s.1 + 3) 0 3 = 0
            · rw [if_pos e6]
              obtain ⟨c1, c2, c3⟩ := zNe_0 e6
              have l3 := zTm_lt hm (show s.1 + 3 ≤ m by omega) (by rw [c1]; decide)
              exact hend _ _ (by omega) (by omega) (zNok_u hN (by omega) (by omega) (fun _ => a2 (by omega)) (fun q => by omega) (fun _ => by omega) (fun q => by omega))
            · rw [if_neg e6]; exact herr _ _ (by omega) (by omega)
          · rw [if_neg e5]; exact herr _ _ (by omega) (by omega)
        · rw [if_neg e4]
          by_cases e5 : (zTT sg n).ky s.1 = 8
          · rw [if_pos e5]
            have hr2 := zNe_r (zTT sg n) (s.1 + 2) 0 100
            by_cases e6 : zNe (zTT sg n) (s.1 + 2) 0 100 = 0
            · rw [if_pos e6]
              obtain ⟨b1, b2, b3⟩ := zNe_0 e6
              have l2 := zTm_lt hm (show s.1 + 2 ≤ m by omega) (by rw [b1]; decide)
              exact hend _ _ (by omega) (by omega) (zNok_u hN (by omega) (by omega) (fun q => by omega) (fun _ => a3 (by omega)) (fun q => by omega) (fun _ => by omega))
            · rw [if_neg e6]; exact herr _ _ (by omega) (by omega)
          · rw [if_neg e5]
            exact hend _ _ (by omega) (by omega) (zNok_u hN (by omega) (by omega) (fun q => a2 (by omega)) (fun q => a3 (by omega)) (fun q => by omega) (fun q => by omega))
      · rw [if_neg e3]; exact herr _ _ (by omega) (by omega)
  · rw [if_pos e1]; exact herr 1 _ (by omega) (by omega)
theorem zNl_ok {sg : Nat → Nat} {n m W R : Nat} {nm : Nat → List Nat} (hn : n ≤ 1000) (hm : zTm (zTT sg n) m) : ∀ (f : Nat) (s : Nat × zNt), s.1 ≤ m → zNok W R s.2 → ((zNl (zTT sg n) nm W R f s).1 = 0 → zNok W R (zNl (zTT sg n) nm W R f s).2.2) ∧ (¬ (zNl (zTT sg n) nm W R f s).1 = 0 → (zNl (zTT sg n) nm W R f s).1 < 20000) := by
  intro f
  induction f with
  | zero => intro s hj hN; exact ⟨fun _ => hN, fun q => absurd rfl q⟩
  | succ f ih =>
    intro s hj hN
    rw [zNl]
    by_cases e : (zTT sg n).kd s.1 = 0
    · rw [if_pos e]; exact ⟨fun _ => hN, fun q => absurd rfl q⟩
    · rw [if_neg e]
      obtain ⟨p1, p2⟩ := zN_ok (nm := nm) hn hm s (zTm_lt hm hj e) hN
      by_cases e2 : (zEnN (zTT sg n) (zN0 (zTT sg n) nm W R s)).1 = 0
      · rw [if_pos e2]
        obtain ⟨q1, q2, q3⟩ := p1 e2
        exact ih _ q2 q3
      · rw [if_neg e2]
        exact ⟨fun q => absurd q e2, fun q => p2 q⟩
/-- the class's notes under way; the book they are about -/
def zCN (d : Nat) (N : zNt) (v : zW) : Prop := gI v d 0 = Int32.ofNat N.1 ∧ ∀ i, i < N.1 → gI v (d + 1) i = Int32.ofNat (6 + N.2.1 i) ∧ gI v (d + 2) i = Int32.ofNat (zNslot N i) ∧ gI v (d + 3) i = zNval N i
def zCA (d b W R : Nat) (nm : Nat → List Nat) (v : zW) : Prop := gR v d 10 = 2 ∧ gR v d 9 = b ∧ gI v b 0 = Int32.ofNat W ∧ gI v b 7 = Int32.ofNat R ∧ zNm32 (b + 1) W nm v
def zfD (d : Nat) (w v : zW) : Prop := (∀ a c, ¬ (a = 2 ∧ 2 ≤ c) → ¬ (a = d ∧ c = 0) → (a < d + 1 ∨ d + 4 ≤ a) → gI v a c = gI w a c) ∧ (∀ a c, ¬ (a = 2 ∧ c = 7) → gL v a c = gL w a c) ∧ (∀ a c, gR v a c = gR w a c)
theorem zfD_refl (d : Nat) (w : zW) : zfD d w w := ⟨fun _ _ _ _ _ => rfl, fun _ _ _ => rfl, fun _ _ => rfl⟩
theorem zfD_trans {d : Nat} {u v w : zW} (h : zfD d u v) (h2 : zfD d v w) : zfD d u w := ⟨fun a c q1 q2 q3 => (h2.1 a c q1 q2 q3).trans (h.1 a c q1 q2 q3), fun a c q => (h2.2.1 a c q).trans (h.2.1 a c q), fun a c => (h2.2.2 a c).trans (h.2.2 a c)⟩
theorem zfD_T {d : Nat} {w v : zW} (h : zfT w v) : zfD d w v := ⟨fun a c q1 _ _ => h.1 a c (by omega), h.2.1, h.2.2⟩
theorem zfD_8 (d : Nat) (w : zW) (x : Int32) : zfD d w (sI w 2 8 x) := ⟨fun a c q1 _ _ => by rw [gI_sI, if_neg (by omega)], fun _ _ _ => rfl, fun _ _ => rfl⟩
theorem zCA_T {d b W R : Nat} {nm : Nat → List Nat} {w v : zW} (hd : d = 120 ∨ d = 130) (hb : b = 40 ∨ b = 80) (h : zCA d b W R nm w) (f : zfD d w v) : zCA d b W R nm v :=
  ⟨by rw [f.2.2]; exact h.1, by rw [f.2.2]; exact h.2.1, by rw [f.1 b 0 (by omega) (by omega) (by omega)]; exact h.2.2.1, by rw [f.1 b 7 (by omega) (by omega) (by omega)]; exact h.2.2.2.1, fun o ho => by rw [f.2.1 _ _ (by omega)]; exact h.2.2.2.2 o ho⟩
theorem zCN_T {d : Nat} {N : zNt} {w v : zW} (hd : d = 120 ∨ d = 130) (h : zCN d N w) (f : zfT w v) : zCN d N v :=
  ⟨by rw [f.1 _ _ (by omega)]; exact h.1, fun i hi => by rw [f.1 _ _ (by omega), f.1 _ _ (by omega), f.1 _ _ (by omega)]; exact h.2 i hi⟩
theorem zNslot_u (N : zNt) (d s x y i : Nat) : zNslot (uN N d s x y) i = if i = N.1 then (if d < 2 then s else 4 + s) else zNslot N i := by
  show (if (if i = N.1 then d else N.2.1 i) < 2 then (if i = N.1 then s else N.2.2.1 i) else 4 + (if i = N.1 then s else N.2.2.1 i)) = _
  by_cases e : i = N.1
  · rw [if_pos e, if_pos e, if_pos e]
  · rw [if_neg e, if_neg e, if_neg e]; rfl
theorem zNval_u (N : zNt) (d s x y i : Nat) : zNval (uN N d s x y) i = if i = N.1 then (if d = 0 then Int32.ofNat (3 * x + y) else if d = 2 then Int32.ofNat x else zN1) else zNval N i := by
  show (if (if i = N.1 then d else N.2.1 i) = 0 then Int32.ofNat (3 * (if i = N.1 then x else N.2.2.2.1 i) + (if i = N.1 then y else N.2.2.2.2 i)) else if (if i = N.1 then d else N.2.1 i) = 2 then Int32.ofNat (if i = N.1 then x else N.2.2.2.1 i) else zN1) = _
  by_cases e : i = N.1
  · rw [if_pos e, if_pos e, if_pos e, if_pos e]
  · rw [if_neg e, if_neg e, if_neg e, if_neg e]; rfl
theorem zm2_ne {n : Nat} (h : n < 2 ^ 31) : ¬ Int32.ofNat n = -2 := fun q => zi_0le h (by rw [q]; decide)
theorem q5_line {sg : Nat → Nat} {n m d b W R : Nat} {nm : Nat → List Nat} {s : Nat × zNt} {w : zW} {k : Int32 → zW → Prop} (hsg : zSg sg n) (hd : d = 120 ∨ d = 130) (hb : b = 40 ∨ b = 80) (hW : W ≤ 4) (hR : R ≤ 8) (hnm : zNmok W nm) (hN : zNok W R s.2) (hct : zCt sg n s.1 w) (hca : zCA d b W R nm w) (hcn : zCN d s.2 w)
    (hok : ∀ v, zfD d w v → (zEnN (zTT sg n) (zN0 (zTT sg n) nm W R s)).1 = 0 → zCt sg n (zEnN (zTT sg n) (zN0 (zTT sg n) nm W R s)).2.1 v → zCN d (zEnN (zTT sg n) (zN0 (zTT sg n) nm W R s)).2.2 v → k 1 v)
    (herr : ∀ v, zfD d w v → ¬ (zEnN (zTT sg n) (zN0 (zTT sg n) nm W R s)).1 = 0 → gI v 2 8 = Int32.ofNat (zEnN (zTT sg n) (zN0 (zTT sg n) nm W R s)).1 → k 0 v) : fX5_readLine d w k := by
  have h21 := zTT_ky21 sg n s.1
  have hN40 := hN.1
  have hx : ∀ (e i : Nat) (w' : zW), 0 < e → zfD d w w' → zN0 (zTT sg n) nm W R s = (e + 16 * (zTT sg n).pl i, s) → ∀ v, v = sI w' 2 8 (Int32.ofNat (e + 16 * (zTT sg n).pl i)) → k 0 v := by
    intro e i w' he f0 hr v ev
    have ez : zEnN (zTT sg n) (e + 16 * (zTT sg n).pl i, s) = (e + 16 * (zTT sg n).pl i, s) := if_neg (show ¬ e + 16 * (zTT sg n).pl i = 0 by omega)
    rw [hr, ez] at herr
    refine herr v (by rw [ev]; exact zfD_trans f0 (zfD_8 _ _ _)) (fun z => ?_) (by rw [ev, gI_sI_eq])
    have z' : e + 16 * (zTT sg n).pl i = 0 := z
    omega
  -- the line is kept, and its end
  have hJ167 : ∀ (w' : zW) (j' D s' vx vy : Nat), zfD d w w' → zCt sg n j' w' → zCN d s.2 w' → s.2.1 < 40 → zN0 (zTT sg n) nm W R s = (0, j', uN s.2 D s' vx vy) → ∀ (v21 : zW) (x4 : Int32) (t0 : Int32), v21 = sI w' (d + 1) s.2.1 (Int32.ofNat (6 + D)) → t0 = Int32.ofNat (if D < 2 then s' else 4 + s') → x4 = (if D = 0 then Int32.ofNat (3 * vx + vy) else if D = 2 then Int32.ofNat vx else zN1) → fX5_readLine_J167 d k x4 t0 (gI v21 d 0) v21 := by
    intro w' j' D s' vx vy f0 hc hn h40 hr v21 x4 t0 e21 ht hx4
    have g0 : gI v21 d 0 = Int32.ofNat s.2.1 := by rw [e21, gI_sI_ne (by omega)]; exact hn.1
    rw [fX5_readLine_J167, g0, zi_nat (show s.2.1 < 2 ^ 31 by omega)]
    refine ⟨zi_in (by omega) (by omega), ?_⟩
    intro w24 e24
    have g24 : gI w24 d 0 = Int32.ofNat s.2.1 := by rw [e24, gI_sI_ne (by omega)]; exact g0
    rw [g24, zi_nat (show s.2.1 < 2 ^ 31 by omega)]
    refine ⟨zi_in (by omega) (by omega), ?_⟩
    intro w26 e26 w27 e27
    have g26 : gI w26 d 0 = Int32.ofNat s.2.1 := by rw [e26, gI_sI_ne (by omega)]; exact g24
    rw [g26, zl1, zi_add] at e27
    have f27 : zfD d w' w27 := ⟨fun a c q1 q2 q3 => by rw [e27, gI_sI, if_neg q2, e26, gI_sI_ne (by omega), e24, gI_sI_ne (by omega), e21, gI_sI_ne (by omega)], fun a c _ => by rw [e27, e26, e24, e21]; rfl, fun a c => by rw [e27, e26, e24, e21]; rfl⟩
    have c27 : zCt sg n j' w27 := zCt_of hc (fun c _ => by rw [e27, gI_sI_ne (by omega), e26, gI_sI_ne (by omega), e24, gI_sI_ne (by omega), e21, gI_sI_ne (by omega)]) (fun c => by rw [e27, gI_sI_ne (by omega), e26, gI_sI_ne (by omega), e24, gI_sI_ne (by omega), e21, gI_sI_ne (by omega)]) (by rw [e27, e26, e24, e21]; rfl)
    have r27 : gR w27 d 10 = 2 := by rw [f27.2.2, f0.2.2]; exact hca.1
    have n27 : zCN d (uN s.2 D s' vx vy) w27 := by
      refine ⟨by rw [e27, gI_sI_eq]; rfl, fun i hi => ?_⟩
      have hi' : i < s.2.1 + 1 := hi
      rw [zNslot_u, zNval_u]
      show gI w27 (d + 1) i = Int32.ofNat (6 + (if i = s.2.1 then D else s.2.2.1 i)) ∧ _ ∧ _
      by_cases e : i = s.2.1
      · rw [if_pos e, if_pos e, if_pos e, e]
        refine ⟨?_, ?_, ?_⟩
        · rw [e27, gI_sI_ne (by omega), e26, gI_sI_ne (by omega), e24, gI_sI_ne (by omega), e21, gI_sI_eq]
        · rw [e27, gI_sI_ne (by omega), e26, gI_sI_ne (by omega), e24, gI_sI_eq, ht]
        · rw [e27, gI_sI_ne (by omega), e26, gI_sI_eq, hx4]
      · rw [if_neg e, if_neg e, if_neg e]
        obtain ⟨q1, q2, q3⟩ := hn.2 i (by omega)
        refine ⟨?_, ?_, ?_⟩
        · rw [e27, gI_sI_ne (by omega), e26, gI_sI_ne (by omega), e24, gI_sI_ne (by omega), e21, gI_sI_ne2 e]; exact q1
        · rw [e27, gI_sI_ne (by omega), e26, gI_sI_ne (by omega), e24, gI_sI_ne2 e, e21, gI_sI_ne (by omega)]; exact q2
        · rw [e27, gI_sI_ne (by omega), e26, gI_sI_ne2 e, e24, gI_sI_ne (by omega), e21, gI_sI_ne (by omega)]; exact q3
    rw [r27]
    refine ⟨by decide, q10_takeEnd hsg c27 (fun y v f c => ⟨Or.inr rfl, ?_⟩) (fun y v ev => ⟨Or.inl rfl, ?_⟩)⟩
    · have ez : zEnN (zTT sg n) (zN0 (zTT sg n) nm W R s) = (0, j' + 1, uN s.2 D s' vx vy) := by
        rw [hr]
        exact (if_pos rfl).trans (if_pos y)
      rw [ez] at hok
      exact hok v (zfD_trans (zfD_trans f0 f27) (zfD_T f)) rfl c (zCN_T hd n27 f)
    · have ez : zEnN (zTT sg n) (zN0 (zTT sg n) nm W R s) = (1 + 16 * (zTT sg n).pl j', j', uN s.2 D s' vx vy) := by
        rw [hr]
        exact (if_pos rfl).trans (if_neg y)
      rw [ez] at herr
      refine herr v (zfD_trans (zfD_trans f0 f27) (by rw [ev]; exact zfD_8 _ _ _)) (fun z => ?_) (by rw [ev, gI_sI_eq])
      have z' : 1 + 16 * (zTT sg n).pl j' = 0 := z
      omega
  rw [fX5_readLine, hca.1]
  refine ⟨by decide, ?_⟩
  intro v2 e2
  rw [ct_ky hct] at e2
  have hJ20 : ¬ (6 ≤ (zTT sg n).ky s.1 ∧ (zTT sg n).ky s.1 ≤ 9) → fX5_readLine_J20 d k w := fun y => by
    rw [fX5_readLine_J20, hca.1]
    exact ⟨by decide, q10_wrong (x := 1) hct (fun v ev => ⟨Or.inl rfl, hx 1 s.1 w (by decide) (zfD_refl _ _) (if_pos y) v ev⟩)⟩
  by_cases e21 : (zTT sg n).ky s.1 < 21
  case neg =>
    rw [zKy_N e21] at e2
    rw [e2]
    exact ⟨fun _ => hJ20 (fun y => by omega), fun q => absurd (by decide) q⟩
  rw [zKy_n e21] at e2
  rw [e2, hcn.1]
  refine ⟨fun q => hJ20 (fun y => by have := (zi_lt (b := 6) (by omega) (by decide)).mp q; omega), fun q => ⟨fun q2 => ⟨fun q3 => absurd q3 (zi_0le (by omega)), fun _ => ⟨fun q3 => ?_, fun q3 => ?_⟩⟩, fun q2 => hJ20 (fun y => q2 ((zi_le (b := 9) (by omega) (by decide)).mpr y.2))⟩⟩
  case refine_2 =>
    have k9 := (zi_le (b := 9) (by omega) (by decide)).mp q2
    have k6 : 6 ≤ (zTT sg n).ky s.1 := by
      by_cases z : 6 ≤ (zTT sg n).ky s.1
      · exact z
      · exact absurd ((zi_lt (b := 6) (by omega) (by decide)).mpr (by omega)) q
    have e40 : 40 ≤ s.2.1 := by
      by_cases z : 40 ≤ s.2.1
      · exact z
      · exact absurd ((zi_lt (b := 40) (by omega) (by decide)).mpr (by omega)) q3
    rw [fX5_readLine_J45, hca.1]
    exact ⟨by decide, q10_wrong (x := 5) hct (fun v ev => ⟨Or.inl rfl, hx 5 s.1 w (by decide) (zfD_refl _ _) (by rw [zN0, if_neg (fun z => z ⟨k6, k9⟩), if_pos e40]) v ev⟩)⟩
  have k9 := (zi_le (b := 9) (by omega) (by decide)).mp q2
  have k6 : 6 ≤ (zTT sg n).ky s.1 := by
    by_cases z : 6 ≤ (zTT sg n).ky s.1
    · exact z
    · exact absurd ((zi_lt (b := 6) (by omega) (by decide)).mpr (by omega)) q
  have e40 : s.2.1 < 40 := (zi_lt (b := 40) (by omega) (by decide)).mp q3
  have hz0 : zN0 (zTT sg n) nm W R s = (if zNsE (zTT sg n) nm W R s.1 = 0 then
    (if (zTT sg n).ky s.1 = 6 then
      (if zNe (zTT sg n) (s.1 + 2) 0 3 = 0 then (if zNe (zTT sg n) (s.1 + 3) 0 3 = 0 then (0, s.1 + 4, uN s.2 0 (zNsV (zTT sg n) nm W s.1) ((zTT sg n).nu (s.1 + 2)) ((zTT sg n).nu (s.1 + 3))) else (zNe (zTT sg n) (s.1 + 3) 0 3 + 16 * (zTT sg n).pl (s.1 + 3), s)) else (zNe (zTT sg n) (s.1 + 2) 0 3 + 16 * (zTT sg n).pl (s.1 + 2), s))
     else if (zTT sg n).ky s.1 = 8 then (if zNe (zTT sg n) (s.1 + 2) 0 100 = 0 then (0, s.1 + 3, uN s.2 2 (zNsV (zTT sg n) nm W s.1) ((zTT sg n).nu (s.1 + 2)) 0) else (zNe (zTT sg n) (s.1 + 2) 0 100 + 16 * (zTT sg n).pl (s.1 + 2), s))
     else (0, s.1 + 2, uN s.2 ((zTT sg n).ky s.1 - 6) (zNsV (zTT sg n) nm W s.1) 0 0))
  else (zNsE (zTT sg n) nm W R s.1 + 16 * (zTT sg n).pl (s.1 + 1), s)) := by rw [zN0, if_neg (fun z => z ⟨k6, k9⟩), if_neg (by omega)]
  refine q10_nx hsg hct (fun w11 f11 c11 => ?_)
  intro v12 e12
  have e12' : v12 = if (zTT sg n).ky s.1 < 8 then 1 else 0 := by
    by_cases z6 : (zTT sg n).ky s.1 = 6
    · rw [if_pos (by omega)]; exact e12.trans (if_pos (by rw [z6]; rfl))
    · have n6 : ¬ Int32.ofNat ((zTT sg n).ky s.1) = 6 := fun y => z6 ((zi_eq (b := 6) (by omega) (by decide)).mp y)
      by_cases z7 : (zTT sg n).ky s.1 = 7
      · rw [if_pos (by omega)]; exact (e12.trans (if_neg n6)).trans (if_neg (fun y => y (by rw [z7]; rfl)))
      · rw [if_neg (by omega)]; exact (e12.trans (if_neg n6)).trans (if_pos (fun y => z7 ((zi_eq (b := 7) (by omega) (by decide)).mp y)))
  have f1 := zfD_T (d := d) f11
  have ca1 := zCA_T hd hb hca f1
  have cn1 := zCN_T hd hcn f11
  -- behind its subject
  have hJ114 : ∀ v', zfT w11 v' → zCt sg n (s.1 + 2) v' → zNsE (zTT sg n) nm W R s.1 = 0 → fX5_readLine_J114 d k (Int32.ofNat ((zTT sg n).ky s.1)) v12 (Int32.ofNat (zNsV (zTT sg n) nm W s.1)) v' := by
    intro v' fv' cv' e0
    obtain ⟨a1, a2, a3⟩ := zNsE_0 e0
    have hV : zNsV (zTT sg n) nm W s.1 < 8 := by
      by_cases z : (zTT sg n).ky s.1 < 8
      · have := a2 z; omega
      · have := a3 z; omega
    have cnv := zCN_T hd cn1 fv'
    have ffv : zfD d w v' := zfD_trans f1 (zfD_T fv')
    have cav := zCA_T hd hb hca ffv
    -- its line is kept
    have hkeep : ∀ (u : zW) (j' D vx vy : Nat) (r18 : Int32), zfD d w u → zCt sg n j' u → zCN d s.2 u → (zTT sg n).ky s.1 = 6 + D → zN0 (zTT sg n) nm W R s = (0, j', uN s.2 D (zNsV (zTT sg n) nm W s.1) vx vy) → r18 = (if D = 0 then Int32.ofNat (3 * vx + vy) else if D = 2 then Int32.ofNat vx else zN1) → ¬ r18 = -2 → ((¬ r18 = (-2 : Int32) → vp_in (gI u d 0) 40 ∧ ∀ w21 : zW, w21 = sI u (d + 1) (gI u d 0).toNatClampNeg (Int32.ofNat ((zTT sg n).ky s.1)) → ∀ v22 : Int32, v22 = (if v12 = 0 then ((4 : Int32) + Int32.ofNat (zNsV (zTT sg n) nm W s.1)) else Int32.ofNat (zNsV (zTT sg n) nm W s.1)) → fX5_readLine_J167 d k r18 v22 (gI w21 d 0) w21) ∧ (r18 = (-2 : Int32) → k (0 : Int32) u)) := by
      intro u j' D vx vy r18 fu cu nu hky hr hr18 hne
      refine ⟨fun _ => ?_, fun q => absurd q hne⟩
      rw [nu.1, zi_nat (show s.2.1 < 2 ^ 31 by omega)]
      refine ⟨zi_in e40 (by omega), ?_⟩
      intro w21 e21' v22 e22
      refine hJ167 u j' D _ vx vy fu cu nu e40 hr w21 r18 v22 (by rw [e21', hky]) ?_ hr18
      by_cases z : D < 2
      · rw [if_pos z, e22.trans (if_neg (by rw [e12', if_pos (by omega)]; decide))]
      · rw [if_neg z, e22.trans (if_pos (by rw [e12', if_neg (by omega)])), zl4, zi_add]
    rw [fX5_readLine_J114]
    refine ⟨fun _ => ?_, fun z => absurd z (zN1_ne (by omega))⟩
    rw [fX5_readValue]
    by_cases z8 : (zTT sg n).ky s.1 = 8
    · have z6 : ¬ (zTT sg n).ky s.1 = 6 := by omega
      refine ⟨fun y => absurd (by rw [z8]; rfl) y, fun _ => ?_⟩
      rw [cav.1]
      have hr2 := zNe_r (zTT sg n) (s.1 + 2) 0 100
      refine ⟨by decide, q10_takeNumber (j := s.1 + 2) (lo := 0) (H := 100) hsg cv' (by decide) (zhi_n (h := 99) (by decide)) (fun e4 u fu cu => ?_) (fun e4 u eu => ?_)⟩
      · obtain ⟨b1, b2, b3⟩ := zNe_0 e4
        intro v11 e11
        rw [e11.trans (if_pos (zN1_ne (by omega)))]
        refine hkeep u (s.1 + 3) 2 ((zTT sg n).nu (s.1 + 2)) 0 _ (zfD_trans ffv (zfD_T fu)) cu (zCN_T hd cnv fu) z8 ?_ rfl (zm2_ne (by omega))
        rw [hz0, if_pos e0, if_neg z6, if_pos z8, if_pos e4]
      · intro v11 e11
        rw [e11.trans (if_neg (fun y => y rfl))]
        refine ⟨fun y => absurd rfl y, fun _ => hx (zNe (zTT sg n) (s.1 + 2) 0 100) (s.1 + 2) v' (by omega) ffv ?_ u eu⟩
        rw [hz0, if_pos e0, if_neg z6, if_pos z8, if_neg e4]
    · refine ⟨fun _ => ⟨fun y => ?_, fun y => ?_⟩, fun y => absurd ((zi_eq (b := 8) (by omega) (by decide)).mp y) z8⟩
      · have z6 : (zTT sg n).ky s.1 = 6 := (zi_eq (b := 6) (by omega) (by decide)).mp y
        rw [cav.1]
        have hr2 := zNe_r (zTT sg n) (s.1 + 2) 0 3
        have hr3 := zNe_r (zTT sg n) (s.1 + 3) 0 3
        refine ⟨by decide, q10_takeNumber (j := s.1 + 2) (lo := 0) (H := 3) hsg cv' (by decide) (zhi_n (h := 2) (by decide)) (fun e4 u fu cu => ⟨fun _ => ?_, fun y2 => absurd y2 (zN1_ne (by have := zTT_nu (zNe_0 e4).1; omega))⟩) (fun e4 u eu => ⟨fun y2 => absurd rfl y2, fun _ => ?_⟩)⟩
        · obtain ⟨b1, b2, b3⟩ := zNe_0 e4
          have ffu : zfD d w u := zfD_trans ffv (zfD_T fu)
          have cau := zCA_T hd hb hca ffu
          rw [cau.1]
          refine ⟨by decide, q10_takeNumber (j := s.1 + 3) (lo := 0) (H := 3) hsg cu (by decide) (zhi_n (h := 2) (by decide)) (fun e5 u2 fu2 cu2 => ?_) (fun e5 u2 eu2 => ?_)⟩
          · obtain ⟨c1, c2, c3⟩ := zNe_0 e5
            rw [fX5_readValue_J65]
            intro v8 e8
            rw [e8.trans (if_pos (zN1_ne (by omega))), zl3, zi_mul, zi_add]
            refine hkeep u2 (s.1 + 4) 0 ((zTT sg n).nu (s.1 + 2)) ((zTT sg n).nu (s.1 + 3)) _ (zfD_trans ffu (zfD_T fu2)) cu2 (zCN_T hd (zCN_T hd cnv fu) fu2) z6 ?_ rfl (zm2_ne (by omega))
            rw [hz0, if_pos e0, if_pos z6, if_pos e4, if_pos e5]
          · rw [fX5_readValue_J65]
            intro v8 e8
            rw [e8.trans (if_neg (fun y => y rfl))]
            refine ⟨fun y => absurd rfl y, fun _ => hx (zNe (zTT sg n) (s.1 + 3) 0 3) (s.1 + 3) u (by omega) ffu ?_ u2 eu2⟩
            rw [hz0, if_pos e0, if_pos z6, if_pos e4, if_neg e5]
        · rw [fX5_readValue_J65]
          intro v8 e8
          rw [e8.trans (if_neg (fun y => y rfl))]
          refine ⟨fun y => absurd rfl y, fun _ => hx (zNe (zTT sg n) (s.1 + 2) 0 3) (s.1 + 2) v' (by omega) ffv ?_ u eu⟩
          rw [hz0, if_pos e0, if_pos z6, if_neg e4]
      · have z6 : ¬ (zTT sg n).ky s.1 = 6 := fun z => y (by rw [z]; rfl)
        have hD : (zTT sg n).ky s.1 = 6 + ((zTT sg n).ky s.1 - 6) := by omega
        refine hkeep v' (s.1 + 2) ((zTT sg n).ky s.1 - 6) 0 0 _ ffv cv' cnv hD ?_ ?_ (by decide)
        · rw [hz0, if_pos e0, if_neg z6, if_neg z8]
        · rw [if_neg (by omega), if_neg (by omega)]; rfl
  have hJ114e : ∀ v', (∀ u, u = v' → k 0 u) → fX5_readLine_J114 d k (Int32.ofNat ((zTT sg n).ky s.1)) v12 (-1) v' := fun v' h0 => by
    rw [fX5_readLine_J114]
    exact ⟨fun z => absurd rfl z, fun _ => h0 v' rfl⟩
  rw [fX5_readLine_J78, ca1.1, ca1.2.1, ca1.2.2.2.1]
  by_cases z8 : (zTT sg n).ky s.1 < 8
  · rw [if_pos z8] at e12'
    refine ⟨fun y => by rw [e12'] at y; exact absurd y (by decide), fun _ => ⟨by decide, by omega, q10_takeName hsg c11 hW ca1.2.2.1 ca1.2.2.2.2 hnm (fun e v' fv' cv' => ?_) (fun e v' ev' => hJ114e v' (fun u hu => ?_))⟩⟩
    · have eE : zNsE (zTT sg n) nm W R s.1 = 0 := (if_pos z8).trans e
      have eV : zNsV (zTT sg n) nm W s.1 = zIx nm W ((zTT sg n).nm (s.1 + 1)) := if_pos z8
      have := hJ114 v' fv' cv' eE
      rw [eV] at this
      exact this
    · have eE : zNsE (zTT sg n) nm W R s.1 = zMe (zTT sg n) nm W (s.1 + 1) := if_pos z8
      have hr := zMe_r (zTT sg n) nm W (s.1 + 1)
      refine hx (zMe (zTT sg n) nm W (s.1 + 1)) (s.1 + 1) w11 (by omega) f1 ?_ u (hu.trans ev')
      rw [hz0, if_neg (by rw [eE]; exact e), eE]
  · rw [if_neg z8] at e12'
    refine ⟨fun _ => ⟨by decide, by omega, q10_takeNumber (j := s.1 + 1) (lo := 0) (H := R) hsg c11 (by decide) (zhi_r (by omega)) (fun e v' fv' cv' => ?_) (fun e v' ev' => hJ114e v' (fun u hu => ?_))⟩, fun y => absurd e12' y⟩
    · have eE : zNsE (zTT sg n) nm W R s.1 = 0 := (if_neg z8).trans e
      have eV : zNsV (zTT sg n) nm W s.1 = (zTT sg n).nu (s.1 + 1) := if_neg z8
      have := hJ114 v' fv' cv' eE
      rw [eV] at this
      exact this
    · have eE : zNsE (zTT sg n) nm W R s.1 = zNe (zTT sg n) (s.1 + 1) 0 R := if_neg z8
      have hr := zNe_r (zTT sg n) (s.1 + 1) 0 R
      refine hx (zNe (zTT sg n) (s.1 + 1) 0 R) (s.1 + 1) w11 (by omega) f1 ?_ u (hu.trans ev')
      rw [hz0, if_neg (by rw [eE]; exact e), eE]

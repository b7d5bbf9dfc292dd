/-! Level 2: what rules come to, of tokens alone: a place, how many codes, the codes -/
abbrev zSu : Type := Nat × Nat × (Nat → Nat)
def zemit (s : zSu) (x : Nat) : zSu := (s.1, s.2.1 + 1, fun i => if i = s.2.1 then x else s.2.2 i)
def znx (s : zSu) : zSu := (s.1 + 1, s.2)
def zCh (P : zSu → Nat × zSu) (op : Nat → Nat) : Nat → zSu → Nat × zSu
  | 0, s => (0, s)
  | f + 1, s => if op s.1 = 0 then (0, s) else if (P (znx s)).1 = 0 then zCh P op f (zemit (P (znx s)).2 (op s.1)) else ((P (znx s)).1, s)
def zThen (F : Nat) (P : zSu → Nat × zSu) (op : Nat → Nat) (s : zSu) : Nat × zSu := if (P s).1 = 0 then zCh P op F (P s).2 else P s
theorem zCh_0 {P : zSu → Nat × zSu} {op : Nat → Nat} {s : zSu} (f : Nat) (h : op s.1 = 0) : zCh P op f s = (0, s) := by
  cases f with
  | zero => rfl
  | succ f => rw [zCh, if_pos h]
theorem zCh_e {P : zSu → Nat × zSu} {op : Nat → Nat} {s : zSu} (f : Nat) (h : ¬ op s.1 = 0) (e : ¬ (P (znx s)).1 = 0) : zCh P op (f + 1) s = ((P (znx s)).1, s) := by
  rw [zCh, if_neg h, if_neg e]
theorem zCh_s {P : zSu → Nat × zSu} {op : Nat → Nat} {s : zSu} (f : Nat) (h : ¬ op s.1 = 0) (e : (P (znx s)).1 = 0) : zCh P op (f + 1) s = zCh P op f (zemit (P (znx s)).2 (op s.1)) := by
  rw [zCh, if_neg h, if_pos e]
theorem zThen_0 {F : Nat} {P : zSu → Nat × zSu} {op : Nat → Nat} {s : zSu} (h : (P s).1 = 0) : zThen F P op s = zCh P op F (P s).2 := if_pos h
theorem zThen_e {F : Nat} {P : zSu → Nat × zSu} {op : Nat → Nat} {s : zSu} (h : ¬ (P s).1 = 0) : zThen F P op s = P s := if_neg h
def zSn (T : zTks) (c j : Nat) : Bool := decide (T.kd j = 3 ∧ T.si j = c)
def zOpMul (T : zTks) (j : Nat) : Nat := if zSn T 42 j = true then 6 else 0
def zOpSum (T : zTks) (j : Nat) : Nat := if zSn T 43 j = true then 4 else if zSn T 45 j = true then 5 else 0
def zOpTst (T : zTks) (j : Nat) : Nat := if zSn T 60 j = true then 7 else if zSn T 61 j = true then 8 else 0
def zOpAll (T : zTks) (j : Nat) : Nat := if T.ky j = 15 then 9 else if T.ky j = 16 then 10 else 0
def zAll (T : zTks) (P : zSu → Nat × zSu) : zSu → Nat × zSu := zThen 1000 (zThen 1 (zThen 1000 (zThen 1000 P (zOpMul T)) (zOpSum T)) (zOpTst T)) (zOpAll T)
def zFst (T : zTks) (j : Nat) : Bool := decide (T.kd j = 2 ∨ (17 ≤ T.ky j ∧ T.ky j ≤ 20) ∨ T.ky j = 14) || zSn T 40 j
/-- a part, so many brackets being let within each other -/
def zPt (T : zTks) : Nat → zSu → Nat × zSu
  | 0, s => if zFst T s.1 = true then (5 + 16 * T.pl s.1, s) else (1 + 16 * T.pl s.1, s)
  | d + 1, s =>
    if zFst T s.1 = true then
      (if T.kd s.1 = 2 then (0, znx (zemit s (1 + 16 * T.nu s.1)))
       else if 17 ≤ T.ky s.1 ∧ T.ky s.1 ≤ 20 then (0, znx (zemit s (2 + 16 * (T.ky s.1 - 17))))
       else if T.ky s.1 = 14 then (if (zPt T d (znx s)).1 = 0 then (0, zemit (zPt T d (znx s)).2 3) else zPt T d (znx s))
       else if (zAll T (zPt T d) (znx s)).1 = 0 then
         (if zSn T 41 (zAll T (zPt T d) (znx s)).2.1 = true then (0, znx (zAll T (zPt T d) (znx s)).2) else (1 + 16 * T.pl (zAll T (zPt T d) (znx s)).2.1, s))
       else zAll T (zPt T d) (znx s))
    else (1 + 16 * T.pl s.1, s)
/-- how high the pile is, behind one code, behind some -/
def zh1 (c h : Nat) : Option Nat := if c % 16 = 1 ∨ c % 16 = 2 then (if h < 32 then some (h + 1) else none) else if c % 16 = 3 then (if 1 ≤ h then some h else none) else if 2 ≤ h then some (h - 1) else none
def zht (g : Nat → Nat) (i : Nat) : Nat → Nat → Option Nat
  | 0, h => some h
  | k + 1, h => (zht g i k h).bind (fun y => zh1 (g (i + k)) y)
theorem zht_congr {g g' : Nat → Nat} {i : Nat} : ∀ {k h : Nat}, (∀ p, i ≤ p → p < i + k → g p = g' p) → zht g i k h = zht g' i k h
  | 0, h, _ => rfl
  | k + 1, h, e => by rw [zht, zht, zht_congr (k := k) (fun p p1 p2 => e p p1 (by omega)), e (i + k) (by omega) (by omega)]
theorem zht_add (g : Nat → Nat) (i a : Nat) : ∀ (b h : Nat), zht g i (a + b) h = (zht g i a h).bind (fun y => zht g (i + a) b y)
  | 0, h => by
    rw [Nat.add_zero]
    show _ = (zht g i a h).bind (fun y => some y)
    rw [Option.bind_fun_some]
  | b + 1, h => by
    rw [← Nat.add_assoc, zht, zht_add g i a b h, Option.bind_assoc]
    refine congrArg _ (funext fun y => ?_)
    show _ = (zht g (i + a) b y).bind (fun y => zh1 (g (i + a + b)) y)
    rw [Nat.add_assoc]
/-- a code is one that there is -/
def zcok (c : Nat) : Prop := (c % 16 = 1 ∧ c / 16 < 10000) ∨ (c % 16 = 2 ∧ c / 16 < 4) ∨ (3 ≤ c ∧ c ≤ 10)
/-- how a piece of rules is read: on and no further than the end, as many codes as tokens at most, one more on the pile -/
def zGdd (m H : Nat) (s s' : zSu) : Prop := s.1 < s'.1 ∧ s'.1 ≤ m ∧ s.2.1 < s'.2.1 ∧ s'.2.1 + s.1 ≤ s.2.1 + s'.1 ∧ (∀ i, i < s.2.1 → s'.2.2 i = s.2.2 i) ∧ (∀ i, s.2.1 ≤ i → i < s'.2.1 → zcok (s'.2.2 i)) ∧ ∀ h, h + H ≤ 32 → zht s'.2.2 s.2.1 (s'.2.1 - s.2.1) h = some (h + 1)
def zOK (T : zTks) (m H : Nat) (P : zSu → Nat × zSu) : Prop := ∀ s, s.1 ≤ m → ((P s).1 = 0 → zGdd m H s (P s).2) ∧ (¬ (P s).1 = 0 → (P s).1 < 20000)
theorem zGd_mono {m H H' : Nat} {s s' : zSu} (h : zGdd m H s s') (hH : H ≤ H') : zGdd m H' s s' := ⟨h.1, h.2.1, h.2.2.1, h.2.2.2.1, h.2.2.2.2.1, h.2.2.2.2.2.1, fun y q => h.2.2.2.2.2.2 y (by omega)⟩
/-- behind a piece, an operator and one more piece -/
theorem zGd_op {m H x : Nat} {s s1 s2 : zSu} (h1 : zGdd m (H + 1) s s1) (h2 : zGdd m H (znx s1) s2) (hx : 4 ≤ x ∧ x ≤ 10) : zGdd m (H + 1) s (zemit s2 x) := by
  obtain ⟨a1, a2, a3, a4, a5, a6, a7⟩ := h1
  obtain ⟨b1, b2, b3, b4, b5, b6, b7⟩ := h2
  have b1' : s1.1 + 1 < s2.1 := b1
  have b3' : s1.2.1 < s2.2.1 := b3
  have b4' : s2.2.1 + (s1.1 + 1) ≤ s1.2.1 + s2.1 := b4
  have b5' : ∀ i, i < s1.2.1 → s2.2.2 i = s1.2.2 i := b5
  have b6' : ∀ i, s1.2.1 ≤ i → i < s2.2.1 → zcok (s2.2.2 i) := b6
  have b7' : ∀ h, h + H ≤ 32 → zht s2.2.2 s1.2.1 (s2.2.1 - s1.2.1) h = some (h + 1) := b7
  refine ⟨show s.1 < s2.1 by omega, b2, show s.2.1 < s2.2.1 + 1 by omega, show s2.2.1 + 1 + s.1 ≤ s.2.1 + s2.1 by omega, fun i hi => ?_, fun i i1 i2 => ?_, fun h hh => ?_⟩
  · show (if i = s2.2.1 then x else s2.2.2 i) = _
    rw [if_neg (by omega), b5' i (by omega), a5 i hi]
  · have i2' : i < s2.2.1 + 1 := i2
    show zcok (if i = s2.2.1 then x else s2.2.2 i)
    by_cases e : i = s2.2.1
    · rw [if_pos e]; exact Or.inr (Or.inr ⟨by omega, by omega⟩)
    · rw [if_neg e]
      by_cases e2 : i < s1.2.1
      · rw [b5' i e2]; exact a6 i i1 e2
      · exact b6' i (by omega) (by omega)
  · show zht (fun i => if i = s2.2.1 then x else s2.2.2 i) s.2.1 (s2.2.1 + 1 - s.2.1) h = some (h + 1)
    rw [show s2.2.1 + 1 - s.2.1 = (s1.2.1 - s.2.1) + (s2.2.1 - s1.2.1) + 1 by omega, zht, zht_add]
    rw [zht_congr (g' := s1.2.2) (k := s1.2.1 - s.2.1) (fun p p1 p2 => by rw [if_neg (by omega)]; exact b5' p (by omega)), a7 h hh]
    show ((zht _ _ _ _).bind _) = _
    rw [zht_congr (g' := s2.2.2) (fun p p1 p2 => by rw [if_neg (by omega)]), show s.2.1 + (s1.2.1 - s.2.1) = s1.2.1 by omega, b7' (h + 1) (by omega)]
    show zh1 (if s.2.1 + (s1.2.1 - s.2.1 + (s2.2.1 - s1.2.1)) = s2.2.1 then x else _) (h + 1 + 1) = _
    rw [if_pos (by omega), zh1, if_neg (by omega), if_neg (by omega), if_pos (by omega)]
    rfl
theorem zOK_ch {T : zTks} {m H : Nat} {P : zSu → Nat × zSu} {op : Nat → Nat} (hP : zOK T m H P) (hop : ∀ j, j ≤ m → ¬ op j = 0 → j < m ∧ 4 ≤ op j ∧ op j ≤ 10) : ∀ (f : Nat) (s s1 : zSu), zGdd m (H + 1) s s1 → ((zCh P op f s1).1 = 0 → zGdd m (H + 1) s (zCh P op f s1).2) ∧ (¬ (zCh P op f s1).1 = 0 → (zCh P op f s1).1 < 20000) := by
  intro f
  induction f with
  | zero => intro s s1 h1; exact ⟨fun _ => h1, fun q => absurd rfl q⟩
  | succ f ih =>
    intro s s1 h1
    by_cases e : op s1.1 = 0
    · rw [zCh_0 _ e]; exact ⟨fun _ => h1, fun q => absurd rfl q⟩
    · obtain ⟨o1, o2, o3⟩ := hop _ h1.2.1 e
      obtain ⟨p1, p2⟩ := hP (znx s1) (show s1.1 + 1 ≤ m by omega)
      by_cases e2 : (P (znx s1)).1 = 0
      · rw [zCh_s _ e e2]
        exact ih s _ (zGd_op h1 (p1 e2) ⟨o2, o3⟩)
      · rw [zCh_e _ e e2]
        exact ⟨fun q => absurd q e2, fun q => p2 e2⟩
theorem zOK_then {T : zTks} {m H F : Nat} {P : zSu → Nat × zSu} {op : Nat → Nat} (hP : zOK T m H P) (hop : ∀ j, j ≤ m → ¬ op j = 0 → j < m ∧ 4 ≤ op j ∧ op j ≤ 10) : zOK T m (H + 1) (zThen F P op) := by
  intro s hs
  obtain ⟨p1, p2⟩ := hP s hs
  by_cases e : (P s).1 = 0
  · rw [zThen_0 e]
    exact zOK_ch hP hop F s _ (zGd_mono (p1 e) (by omega))
  · rw [zThen_e e]
    exact ⟨fun q => absurd q e, fun q => p2 q⟩
theorem zSn_t {T : zTks} {c j : Nat} (h : zSn T c j = true) : T.kd j = 3 ∧ T.si j = c := of_decide_eq_true h
theorem zSn_f {T : zTks} {c j : Nat} (h : ¬ (T.kd j = 3 ∧ T.si j = c)) : ¬ zSn T c j = true := fun q => h (zSn_t q)
theorem zSn_i {T : zTks} {c j : Nat} (h : T.kd j = 3) (h2 : T.si j = c) : zSn T c j = true := decide_eq_true ⟨h, h2⟩
theorem zop_mul {sg : Nat → Nat} {n m : Nat} (hm : zTm (zTT sg n) m) : ∀ j, j ≤ m → ¬ zOpMul (zTT sg n) j = 0 → j < m ∧ 4 ≤ zOpMul (zTT sg n) j ∧ zOpMul (zTT sg n) j ≤ 10 := by
  intro j hj h
  unfold zOpMul at h ⊢
  by_cases e : zSn (zTT sg n) 42 j = true
  · rw [if_pos e]; exact ⟨zTm_lt hm hj (by rw [(zSn_t e).1]; decide), by omega, by omega⟩
  · rw [if_neg e] at h; exact absurd rfl h
theorem zop_sum {sg : Nat → Nat} {n m : Nat} (hm : zTm (zTT sg n) m) : ∀ j, j ≤ m → ¬ zOpSum (zTT sg n) j = 0 → j < m ∧ 4 ≤ zOpSum (zTT sg n) j ∧ zOpSum (zTT sg n) j ≤ 10 := by
  intro j hj h
  unfold zOpSum at h ⊢
  by_cases e : zSn (zTT sg n) 43 j = true
  · rw [if_pos e]; exact ⟨zTm_lt hm hj (by rw [(zSn_t e).1]; decide), by omega, by omega⟩
  · rw [if_neg e] at h ⊢
    by_cases e2 : zSn (zTT sg n) 45 j = true
    · rw [if_pos e2]; exact ⟨zTm_lt hm hj (by rw [(zSn_t e2).1]; decide), by omega, by omega⟩
    · rw [if_neg e2] at h; exact absurd rfl h
theorem zop_tst {sg : Nat → Nat} {n m : Nat} (hm : zTm (zTT sg n) m) : ∀ j, j ≤ m → ¬ zOpTst (zTT sg n) j = 0 → j < m ∧ 4 ≤ zOpTst (zTT sg n) j ∧ zOpTst (zTT sg n) j ≤ 10 := by
  intro j hj h
  unfold zOpTst at h ⊢
  by_cases e : zSn (zTT sg n) 60 j = true
  · rw [if_pos e]; exact ⟨zTm_lt hm hj (by rw [(zSn_t e).1]; decide), by omega, by omega⟩
  · rw [if_neg e] at h ⊢
    by_cases e2 : zSn (zTT sg n) 61 j = true
    · rw [if_pos e2]; exact ⟨zTm_lt hm hj (by rw [(zSn_t e2).1]; decide), by omega, by omega⟩
    · rw [if_neg e2] at h; exact absurd rfl h
theorem zTT_ne0 {sg : Nat → Nat} {n j : Nat} (h : (zTT sg n).ky j < 21) : ¬ (zTT sg n).kd j = 0 := by rw [zTT_k1 h]; decide
theorem zop_all {sg : Nat → Nat} {n m : Nat} (hm : zTm (zTT sg n) m) : ∀ j, j ≤ m → ¬ zOpAll (zTT sg n) j = 0 → j < m ∧ 4 ≤ zOpAll (zTT sg n) j ∧ zOpAll (zTT sg n) j ≤ 10 := by
  intro j hj h
  unfold zOpAll at h ⊢
  by_cases e : (zTT sg n).ky j = 15
  · rw [if_pos e]; exact ⟨zTm_lt hm hj (zTT_ne0 (by omega)), by omega, by omega⟩
  · rw [if_neg e] at h ⊢
    by_cases e2 : (zTT sg n).ky j = 16
    · rw [if_pos e2]; exact ⟨zTm_lt hm hj (zTT_ne0 (by omega)), by omega, by omega⟩
    · rw [if_neg e2] at h; exact absurd rfl h
theorem zOK_all {sg : Nat → Nat} {n m H : Nat} {P : zSu → Nat × zSu} (hm : zTm (zTT sg n) m) (hP : zOK (zTT sg n) m H P) : zOK (zTT sg n) m (H + 4) (zAll (zTT sg n) P) :=
  zOK_then (zOK_then (zOK_then (zOK_then hP (zop_mul hm)) (zop_sum hm)) (zop_tst hm)) (zop_all hm)
theorem zFst_lt {sg : Nat → Nat} {n m j : Nat} (hm : zTm (zTT sg n) m) (hj : j ≤ m) (h : zFst (zTT sg n) j = true) : j < m := by
  refine zTm_lt hm hj ?_
  rw [zFst, Bool.or_eq_true] at h
  rcases h with h | h
  · rcases of_decide_eq_true h with e | e | e
    · rw [e]; decide
    · exact zTT_ne0 (by omega)
    · exact zTT_ne0 (by omega)
  · rw [(zSn_t h).1]; decide
theorem zht_1 (g : Nat → Nat) (i h : Nat) : zht g i 1 h = zh1 (g i) h := rfl
/-- one value pushed, and on -/
theorem zGd_push {m x : Nat} {s : zSu} (hj : s.1 < m) (hx : (x % 16 = 1 ∧ x / 16 < 10000) ∨ (x % 16 = 2 ∧ x / 16 < 4)) : zGdd m 1 s (znx (zemit s x)) := by
  refine ⟨Nat.lt_succ_self _, hj, Nat.lt_succ_self _, show s.2.1 + 1 + s.1 ≤ s.2.1 + (s.1 + 1) by omega, fun i hi => if_neg (by omega), fun i i1 i2 => ?_, fun h hh => ?_⟩
  · have i2' : i < s.2.1 + 1 := i2
    show zcok (if i = s.2.1 then x else s.2.2 i)
    rw [if_pos (by omega)]
    rcases hx with q | q
    · exact Or.inl q
    · exact Or.inr (Or.inl q)
  · show zht (fun i => if i = s.2.1 then x else s.2.2 i) s.2.1 (s.2.1 + 1 - s.2.1) h = some (h + 1)
    rw [show s.2.1 + 1 - s.2.1 = 1 by omega, zht_1, if_pos rfl, zh1, if_pos (by omega), if_pos (by omega)]
theorem zOK_pt {sg : Nat → Nat} {n m : Nat} (hn : n ≤ 1000) (hm : zTm (zTT sg n) m) : ∀ d, zOK (zTT sg n) m (1 + 4 * d) (zPt (zTT sg n) d) := by
  intro d
  induction d with
  | zero =>
    intro s hs
    have hpl := zTT_pl (sg := sg) hn s.1
    rw [zPt]
    by_cases e : zFst (zTT sg n) s.1 = true
    · rw [if_pos e]; exact ⟨fun q => by have q' : 5 + 16 * (zTT sg n).pl s.1 = 0 := q; omega, fun _ => show 5 + 16 * (zTT sg n).pl s.1 < 20000 by omega⟩
    · rw [if_neg e]; exact ⟨fun q => by have q' : 1 + 16 * (zTT sg n).pl s.1 = 0 := q; omega, fun _ => show 1 + 16 * (zTT sg n).pl s.1 < 20000 by omega⟩
  | succ d ih =>
    intro s hs
    have hpl := zTT_pl (sg := sg) hn s.1
    rw [zPt]
    by_cases e : zFst (zTT sg n) s.1 = true
    · have hlt := zFst_lt hm hs e
      rw [if_pos e]
      by_cases e2 : (zTT sg n).kd s.1 = 2
      · have := zTT_nu e2
        rw [if_pos e2]
        exact ⟨fun _ => zGd_mono (zGd_push hlt (Or.inl ⟨by omega, by omega⟩)) (by omega), fun q => absurd rfl q⟩
      · rw [if_neg e2]
        by_cases e3 : 17 ≤ (zTT sg n).ky s.1 ∧ (zTT sg n).ky s.1 ≤ 20
        · rw [if_pos e3]
          exact ⟨fun _ => zGd_mono (zGd_push hlt (Or.inr ⟨by omega, by omega⟩)) (by omega), fun q => absurd rfl q⟩
        · rw [if_neg e3]
          by_cases e4 : (zTT sg n).ky s.1 = 14
          · rw [if_pos e4]
            obtain ⟨p1, p2⟩ := ih (znx s) hlt
            by_cases e5 : (zPt (zTT sg n) d (znx s)).1 = 0
            · rw [if_pos e5]
              refine ⟨fun _ => ?_, fun q => absurd rfl q⟩
              obtain ⟨b1, b2, b3, b4, b5, b6, b7⟩ := p1 e5
              have b1' : s.1 + 1 < (zPt (zTT sg n) d (znx s)).2.1 := b1
              have b3' : s.2.1 < (zPt (zTT sg n) d (znx s)).2.2.1 := b3
              have b4' : (zPt (zTT sg n) d (znx s)).2.2.1 + (s.1 + 1) ≤ s.2.1 + (zPt (zTT sg n) d (znx s)).2.1 := b4
              have b5' : ∀ i, i < s.2.1 → (zPt (zTT sg n) d (znx s)).2.2.2 i = s.2.2 i := b5
              have b6' : ∀ i, s.2.1 ≤ i → i < (zPt (zTT sg n) d (znx s)).2.2.1 → zcok ((zPt (zTT sg n) d (znx s)).2.2.2 i) := b6
              have b7' : ∀ h, h + (1 + 4 * d) ≤ 32 → zht (zPt (zTT sg n) d (znx s)).2.2.2 s.2.1 ((zPt (zTT sg n) d (znx s)).2.2.1 - s.2.1) h = some (h + 1) := b7
              generalize (zPt (zTT sg n) d (znx s)).2 = s2 at b1' b2 b3' b4' b5' b6' b7' ⊢
              refine ⟨show s.1 < s2.1 by omega, b2, show s.2.1 < s2.2.1 + 1 by omega, show s2.2.1 + 1 + s.1 ≤ s.2.1 + s2.1 by omega, fun i hi => ?_, fun i i1 i2 => ?_, fun h hh => ?_⟩
              · show (if i = s2.2.1 then 3 else s2.2.2 i) = _
                rw [if_neg (by omega), b5' i hi]
              · have i2' : i < s2.2.1 + 1 := i2
                show zcok (if i = s2.2.1 then 3 else s2.2.2 i)
                by_cases y : i = s2.2.1
                · rw [if_pos y]; exact Or.inr (Or.inr ⟨by omega, by omega⟩)
                · rw [if_neg y]; exact b6' i i1 (by omega)
              · show zht (fun i => if i = s2.2.1 then 3 else s2.2.2 i) s.2.1 (s2.2.1 + 1 - s.2.1) h = some (h + 1)
                rw [show s2.2.1 + 1 - s.2.1 = (s2.2.1 - s.2.1) + 1 by omega, zht, zht_congr (g' := s2.2.2) (fun p p1 p2 => by rw [if_neg (by omega)]), b7' h (by omega)]
                show zh1 (if s.2.1 + (s2.2.1 - s.2.1) = s2.2.1 then 3 else _) (h + 1) = _
                rw [if_pos (by omega), zh1, if_neg (by omega), if_pos (by omega), if_pos (by omega)]
            · rw [if_neg e5]
              exact ⟨fun q => absurd q e5, fun q => p2 q⟩
          · rw [if_neg e4]
            obtain ⟨p1, p2⟩ := zOK_all hm ih (znx s) hlt
            by_cases e5 : (zAll (zTT sg n) (zPt (zTT sg n) d) (znx s)).1 = 0
            · rw [if_pos e5]
              obtain ⟨b1, b2, b3, b4, b5, b6, b7⟩ := p1 e5
              have b1' : s.1 + 1 < (zAll (zTT sg n) (zPt (zTT sg n) d) (znx s)).2.1 := b1
              have b4' : (zAll (zTT sg n) (zPt (zTT sg n) d) (znx s)).2.2.1 + (s.1 + 1) ≤ s.2.1 + (zAll (zTT sg n) (zPt (zTT sg n) d) (znx s)).2.1 := b4
              generalize (zAll (zTT sg n) (zPt (zTT sg n) d) (znx s)).2 = s2 at b1' b2 b3 b4' b5 b6 b7 ⊢
              have hp2 := zTT_pl (sg := sg) hn s2.1
              by_cases e6 : zSn (zTT sg n) 41 s2.1 = true
              · rw [if_pos e6]
                refine ⟨fun _ => ⟨show s.1 < s2.1 + 1 by omega, zTm_lt hm b2 (by rw [(zSn_t e6).1]; decide), b3, show s2.2.1 + s.1 ≤ s.2.1 + (s2.1 + 1) by omega, b5, b6, fun h hh => b7 h (by omega)⟩, fun q => absurd rfl q⟩
              · rw [if_neg e6]
                exact ⟨fun q => by have q' : 1 + 16 * (zTT sg n).pl s2.1 = 0 := q; omega, fun _ => show 1 + 16 * (zTT sg n).pl s2.1 < 20000 by omega⟩
            · rw [if_neg e5]
              exact ⟨fun q => absurd q e5, fun q => p2 q⟩
    · rw [if_neg e]; exact ⟨fun q => by have q' : 1 + 16 * (zTT sg n).pl s.1 = 0 := q; omega, fun _ => show 1 + 16 * (zTT sg n).pl s.1 < 20000 by omega⟩

/-! Level 2: a row's items, of tokens alone -/
abbrev zRo : Type := Nat × (Nat → Nat)
def zput (L : zRo) (x : Nat) : zRo := if L.1 ≤ 60 then (L.1 + 1, fun i => if i = L.1 then x else L.2 i) else L
def zmn (a b : Nat) : Nat := if a ≤ b then a else b
def zrep (fr times : Nat) (L : zRo) : zRo := (zmn 61 (fr + (L.1 - fr) * times), fun i => if i < fr then L.2 i else L.2 (fr + (i - fr) % (L.1 - fr)))
def zTak (T : zTks) (fr : Nat) (s : Nat × zRo) : Nat × Nat × zRo := if zNe T s.1 1 21 = 0 then (0, s.1 + 1, zrep fr (T.nu s.1) s.2) else (zNe T s.1 1 21 + 16 * T.pl s.1, s)
def zNd (T : zTks) (nm : Nat → List Nat) (W : Nat) (s : Nat × zRo) : Nat × Nat × zRo :=
  if zMe T nm W s.1 = 0 then
    (if T.kd (s.1 + 1) = 2 then zTak T s.2.1 (s.1 + 1, zput s.2 (zIx nm W (T.nm s.1))) else (0, s.1 + 1, zput s.2 (zIx nm W (T.nm s.1))))
  else (zMe T nm W s.1 + 16 * T.pl s.1, s)
def zIm (T : zTks) (nm : Nat → List Nat) (W : Nat) (b : Bool) (P : Nat × zRo → Nat × Nat × zRo) (s : Nat × zRo) : Nat × Nat × zRo :=
  if zSn T 40 s.1 = true then
    (if b = true then
      (if (P (s.1 + 1, s.2)).1 = 0 then (if zSn T 41 (P (s.1 + 1, s.2)).2.1 = true then zTak T s.2.1 ((P (s.1 + 1, s.2)).2.1 + 1, (P (s.1 + 1, s.2)).2.2) else (1 + 16 * T.pl (P (s.1 + 1, s.2)).2.1, s))
       else P (s.1 + 1, s.2))
     else (5 + 16 * T.pl s.1, s))
  else zNd T nm W s
def zMor (T : zTks) (j : Nat) : Bool := zSn T 40 j || decide (zNmd T j)
def zIl (T : zTks) (I : Nat × zRo → Nat × Nat × zRo) : Nat → Nat × zRo → Nat × Nat × zRo
  | 0, s => (0, s)
  | f + 1, s => if (I s).1 = 0 then (if zMor T (I s).2.1 = true then zIl T I f (I s).2 else I s) else I s
def zIs (T : zTks) (nm : Nat → List Nat) (W : Nat) : Nat → Nat × zRo → Nat × Nat × zRo
  | 0 => zIl T (zIm T nm W false (fun s => (0, s))) 1001
  | d + 1 => zIl T (zIm T nm W true (zIs T nm W d)) 1001
def zRok (W : Nat) (L : zRo) : Prop := L.1 ≤ 61 ∧ ∀ i, i < L.1 → L.2 i < W
theorem zput_le (L : zRo) (x : Nat) (h : L.1 ≤ 61) : L.1 ≤ (zput L x).1 ∧ (zput L x).1 ≤ 61 ∧ 1 ≤ (zput L x).1 := by
  unfold zput
  by_cases e : L.1 ≤ 60
  · rw [if_pos e]; exact ⟨Nat.le_succ _, show L.1 + 1 ≤ 61 by omega, Nat.succ_le_succ (Nat.zero_le _)⟩
  · rw [if_neg e]; omega
theorem zput_ok {W : Nat} {L : zRo} {x : Nat} (h : zRok W L) (hx : x < W) : zRok W (zput L x) := by
  refine ⟨(zput_le L x h.1).2.1, ?_⟩
  unfold zput
  by_cases e : L.1 ≤ 60
  · rw [if_pos e]
    intro i hi
    have hi' : i < L.1 + 1 := hi
    show (if i = L.1 then x else L.2 i) < W
    by_cases e2 : i = L.1
    · rw [if_pos e2]; exact hx
    · rw [if_neg e2]; exact h.2 i (by omega)
  · rw [if_neg e]; exact h.2
theorem zmn_l {a b : Nat} (h : a ≤ b) : zmn a b = a := if_pos h
theorem zmn_r {a b : Nat} (h : b ≤ a) : zmn a b = b := by
  unfold zmn
  by_cases e : a ≤ b
  · rw [if_pos e]; omega
  · rw [if_neg e]
theorem zmn_le (a b : Nat) : zmn a b ≤ a ∧ zmn a b ≤ b := by
  unfold zmn
  by_cases e : a ≤ b
  · rw [if_pos e]; omega
  · rw [if_neg e]; omega
theorem zrep_le {fr times : Nat} {L : zRo} (h : L.1 ≤ 61) (hf : fr ≤ L.1) (ht : 1 ≤ times) : L.1 ≤ (zrep fr times L).1 ∧ (zrep fr times L).1 ≤ 61 := by
  show L.1 ≤ zmn 61 (fr + (L.1 - fr) * times) ∧ zmn 61 (fr + (L.1 - fr) * times) ≤ 61
  have h1 : (L.1 - fr) * 1 ≤ (L.1 - fr) * times := Nat.mul_le_mul_left _ ht
  rw [Nat.mul_one] at h1
  refine ⟨?_, (zmn_le _ _).1⟩
  unfold zmn
  by_cases e : 61 ≤ fr + (L.1 - fr) * times
  · rw [if_pos e]; exact h
  · rw [if_neg e]; omega
theorem zrep_ok {W fr times : Nat} {L : zRo} (h : zRok W L) (hf : fr ≤ L.1) (ht : 1 ≤ times) : zRok W (zrep fr times L) := by
  refine ⟨(zrep_le h.1 hf ht).2, fun i hi => ?_⟩
  show (if i < fr then L.2 i else L.2 (fr + (i - fr) % (L.1 - fr))) < W
  by_cases e : i < fr
  · rw [if_pos e]; exact h.2 i (by omega)
  · rw [if_neg e]
    by_cases e2 : L.1 - fr = 0
    · have hi' : i < zmn 61 (fr + (L.1 - fr) * times) := hi
      rw [e2, Nat.zero_mul] at hi'
      have := (zmn_le 61 (fr + 0)).2
      omega
    · have := Nat.mod_lt (i - fr) (show 0 < L.1 - fr by omega)
      exact h.2 _ (by omega)
/-- how a piece of a row is read -/
def zIok (m W : Nat) (P : Nat × zRo → Nat × Nat × zRo) : Prop := ∀ s, s.1 ≤ m → zRok W s.2 → ((P s).1 = 0 → s.1 < (P s).2.1 ∧ (P s).2.1 ≤ m ∧ zRok W (P s).2.2 ∧ s.2.1 ≤ (P s).2.2.1 ∧ 1 ≤ (P s).2.2.1) ∧ (¬ (P s).1 = 0 → (P s).1 < 20000)
theorem zTak_ok {sg : Nat → Nat} {n m W fr : Nat} (hn : n ≤ 1000) (hm : zTm (zTT sg n) m) {s : Nat × zRo} (hs : s.1 ≤ m) (hL : zRok W s.2) (hf : fr ≤ s.2.1) : ((zTak (zTT sg n) fr s).1 = 0 → s.1 < (zTak (zTT sg n) fr s).2.1 ∧ (zTak (zTT sg n) fr s).2.1 ≤ m ∧ zRok W (zTak (zTT sg n) fr s).2.2 ∧ s.2.1 ≤ (zTak (zTT sg n) fr s).2.2.1) ∧ (¬ (zTak (zTT sg n) fr s).1 = 0 → (zTak (zTT sg n) fr s).1 < 20000) := by
  have hpl := zTT_pl (sg := sg) hn s.1
  have hr := zNe_r (zTT sg n) s.1 1 21
  unfold zTak
  by_cases e : zNe (zTT sg n) s.1 1 21 = 0
  · obtain ⟨a1, a2, a3⟩ := zNe_0 e
    rw [if_pos e]
    exact ⟨fun _ => ⟨Nat.lt_succ_self _, zTm_lt hm hs (by rw [a1]; decide), zrep_ok hL hf a2, (zrep_le hL.1 hf a2).1⟩, fun q => absurd rfl q⟩
  · rw [if_neg e]
    exact ⟨fun q => by have q' : zNe (zTT sg n) s.1 1 21 + 16 * (zTT sg n).pl s.1 = 0 := q; omega, fun _ => show zNe (zTT sg n) s.1 1 21 + 16 * (zTT sg n).pl s.1 < 20000 by omega⟩
theorem zIm_ok {sg : Nat → Nat} {n m W : Nat} {nm : Nat → List Nat} {b : Bool} {P : Nat × zRo → Nat × Nat × zRo} (hn : n ≤ 1000) (hm : zTm (zTT sg n) m) (hP : b = true → zIok m W P) : zIok m W (zIm (zTT sg n) nm W b P) := by
  intro s hs hL
  have hpl := zTT_pl (sg := sg) hn s.1
  have hr := zMe_r (zTT sg n) nm W s.1
  unfold zIm
  by_cases e : zSn (zTT sg n) 40 s.1 = true
  · have hlt := zTm_lt hm hs (by rw [(zSn_t e).1]; decide)
    rw [if_pos e]
    by_cases eb : b = true
    · obtain ⟨p1, p2⟩ := hP eb (s.1 + 1, s.2) hlt hL
      rw [if_pos eb]
      by_cases e2 : (P (s.1 + 1, s.2)).1 = 0
      · obtain ⟨c1, c2, c3, c4, c5⟩ := p1 e2
        have c1' : s.1 + 1 < (P (s.1 + 1, s.2)).2.1 := c1
        have c4' : s.2.1 ≤ (P (s.1 + 1, s.2)).2.2.1 := c4
        have hpl2 := zTT_pl (sg := sg) hn (P (s.1 + 1, s.2)).2.1
        rw [if_pos e2]
        by_cases e3 : zSn (zTT sg n) 41 (P (s.1 + 1, s.2)).2.1 = true
        · rw [if_pos e3]
          have hlt2 := zTm_lt hm c2 (by rw [(zSn_t e3).1]; decide)
          obtain ⟨q1, q2⟩ := zTak_ok (W := W) (fr := s.2.1) hn hm (s := ((P (s.1 + 1, s.2)).2.1 + 1, (P (s.1 + 1, s.2)).2.2)) hlt2 c3 c4'
          refine ⟨fun q => ?_, q2⟩
          obtain ⟨d1, d2, d3, d4⟩ := q1 q
          have d1' : (P (s.1 + 1, s.2)).2.1 + 1 < (zTak (zTT sg n) s.2.1 ((P (s.1 + 1, s.2)).2.1 + 1, (P (s.1 + 1, s.2)).2.2)).2.1 := d1
          have d4' : (P (s.1 + 1, s.2)).2.2.1 ≤ (zTak (zTT sg n) s.2.1 ((P (s.1 + 1, s.2)).2.1 + 1, (P (s.1 + 1, s.2)).2.2)).2.2.1 := d4
          exact ⟨by omega, d2, d3, by omega, by omega⟩
        · rw [if_neg e3]
          exact ⟨fun q => by have q' : 1 + 16 * (zTT sg n).pl (P (s.1 + 1, s.2)).2.1 = 0 := q; omega, fun _ => show 1 + 16 * (zTT sg n).pl (P (s.1 + 1, s.2)).2.1 < 20000 by omega⟩
      · rw [if_neg e2]
        exact ⟨fun q => absurd q e2, p2⟩
    · rw [if_neg eb]
      exact ⟨fun q => by have q' : 5 + 16 * (zTT sg n).pl s.1 = 0 := q; omega, fun _ => show 5 + 16 * (zTT sg n).pl s.1 < 20000 by omega⟩
  · rw [if_neg e]
    unfold zNd
    by_cases e2 : zMe (zTT sg n) nm W s.1 = 0
    · obtain ⟨m1, m2⟩ := zMe_0 e2
      have hlt := zTm_lt hm hs (by rw [m1.1]; decide)
      have hp := zput_le s.2 (zIx nm W ((zTT sg n).nm s.1)) hL.1
      have hpo := zput_ok hL m2
      rw [if_pos e2]
      by_cases e3 : (zTT sg n).kd (s.1 + 1) = 2
      · rw [if_pos e3]
        obtain ⟨q1, q2⟩ := zTak_ok (W := W) (fr := s.2.1) hn hm (s := (s.1 + 1, zput s.2 (zIx nm W ((zTT sg n).nm s.1)))) hlt hpo hp.1
        refine ⟨fun q => ?_, q2⟩
        obtain ⟨d1, d2, d3, d4⟩ := q1 q
        have d1' : s.1 + 1 < (zTak (zTT sg n) s.2.1 (s.1 + 1, zput s.2 (zIx nm W ((zTT sg n).nm s.1)))).2.1 := d1
        have d4' : (zput s.2 (zIx nm W ((zTT sg n).nm s.1))).1 ≤ (zTak (zTT sg n) s.2.1 (s.1 + 1, zput s.2 (zIx nm W ((zTT sg n).nm s.1)))).2.2.1 := d4
        exact ⟨by omega, d2, d3, by omega, by omega⟩
      · rw [if_neg e3]
        exact ⟨fun _ => ⟨Nat.lt_succ_self _, hlt, hpo, hp.1, hp.2.2⟩, fun q => absurd rfl q⟩
    · rw [if_neg e2]
      exact ⟨fun q => by have q' : zMe (zTT sg n) nm W s.1 + 16 * (zTT sg n).pl s.1 = 0 := q; omega, fun _ => show zMe (zTT sg n) nm W s.1 + 16 * (zTT sg n).pl s.1 < 20000 by omega⟩
theorem zIl_ok {sg : Nat → Nat} {n m W : Nat} {I : Nat × zRo → Nat × Nat × zRo} (hm : zTm (zTT sg n) m) (hI : zIok m W I) : ∀ (f : Nat) (s : Nat × zRo), s.1 ≤ m → zRok W s.2 → m < s.1 + f → ((zIl (zTT sg n) I f s).1 = 0 → s.1 < (zIl (zTT sg n) I f s).2.1 ∧ (zIl (zTT sg n) I f s).2.1 ≤ m ∧ zRok W (zIl (zTT sg n) I f s).2.2 ∧ s.2.1 ≤ (zIl (zTT sg n) I f s).2.2.1 ∧ 1 ≤ (zIl (zTT sg n) I f s).2.2.1 ∧ ¬ zMor (zTT sg n) (zIl (zTT sg n) I f s).2.1 = true) ∧ (¬ (zIl (zTT sg n) I f s).1 = 0 → (zIl (zTT sg n) I f s).1 < 20000) := by
  intro f
  induction f with
  | zero => intro s hs hL hf; omega
  | succ f ih =>
    intro s hs hL hf
    obtain ⟨p1, p2⟩ := hI s hs hL
    rw [zIl]
    by_cases e : (I s).1 = 0
    · obtain ⟨c1, c2, c3, c4, c5⟩ := p1 e
      rw [if_pos e]
      by_cases e2 : zMor (zTT sg n) (I s).2.1 = true
      · rw [if_pos e2]
        obtain ⟨q1, q2⟩ := ih (I s).2 c2 c3 (by omega)
        refine ⟨fun q => ?_, q2⟩
        obtain ⟨d1, d2, d3, d4, d5, d6⟩ := q1 q
        exact ⟨by omega, d2, d3, by omega, d5, d6⟩
      · rw [if_neg e2]
        exact ⟨fun _ => ⟨c1, c2, c3, c4, c5, e2⟩, fun q => absurd e q⟩
    · rw [if_neg e]
      exact ⟨fun q => absurd q e, p2⟩
theorem zIs_I {T : zTks} {nm : Nat → List Nat} {W : Nat} (d : Nat) : ∃ (b : Bool) (P : Nat × zRo → Nat × Nat × zRo), zIs T nm W d = zIl T (zIm T nm W b P) 1001 ∧ (b = true ↔ 0 < d) ∧ (b = true → P = zIs T nm W (d - 1)) := by
  cases d with
  | zero => exact ⟨false, _, rfl, ⟨fun q => absurd q (by decide), fun q => absurd q (Nat.lt_irrefl 0)⟩, fun q => absurd q (by decide)⟩
  | succ d => exact ⟨true, _, rfl, ⟨fun _ => Nat.succ_pos d, fun _ => rfl⟩, fun _ => rfl⟩
theorem zIs_ok {sg : Nat → Nat} {n m W : Nat} {nm : Nat → List Nat} (hn : n ≤ 1000) (hm : zTm (zTT sg n) m) : ∀ d, zIok m W (zIs (zTT sg n) nm W d) ∧ ∀ s, s.1 ≤ m → zRok W s.2 → (zIs (zTT sg n) nm W d s).1 = 0 → ¬ zMor (zTT sg n) (zIs (zTT sg n) nm W d s).2.1 = true := by
  have hm1 := hm.1
  have hgo : ∀ (b : Bool) (P : Nat × zRo → Nat × Nat × zRo), (b = true → zIok m W P) → zIok m W (zIl (zTT sg n) (zIm (zTT sg n) nm W b P) 1001) ∧ ∀ s, s.1 ≤ m → zRok W s.2 → (zIl (zTT sg n) (zIm (zTT sg n) nm W b P) 1001 s).1 = 0 → ¬ zMor (zTT sg n) (zIl (zTT sg n) (zIm (zTT sg n) nm W b P) 1001 s).2.1 = true := by
    intro b P hP
    have hI := zIm_ok (nm := nm) hn hm hP
    refine ⟨fun s hs hL => ?_, fun s hs hL q => ((zIl_ok hm hI 1001 s hs hL (by omega)).1 q).2.2.2.2.2⟩
    obtain ⟨q1, q2⟩ := zIl_ok hm hI 1001 s hs hL (by omega)
    exact ⟨fun q => ⟨(q1 q).1, (q1 q).2.1, (q1 q).2.2.1, (q1 q).2.2.2.1, (q1 q).2.2.2.2.1⟩, q2⟩
  intro d
  induction d with
  | zero => exact hgo _ _ (fun q => absurd q (by decide))
  | succ d ih => exact hgo _ _ (fun _ => ih.1)

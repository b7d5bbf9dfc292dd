/-! Level 2: a book's lines, of tokens alone: the book, its names, its rules -/
abbrev zBs : Type := zBk × (Nat → List Nat) × Option (Nat × (Nat → Nat))
def zX0 : zBs := ((0, 0, 0, fun _ => 0, fun _ _ => 0, fun _ _ => 0, fun _ => zN1, fun _ => 0, fun _ _ => false), fun _ => [], none)
def uW (X : zBs) (kd : Nat) (l : List Nat) : zBs := ((bW X.1 + 1, bR X.1, bC X.1, bLn X.1, bIt X.1, bU X.1, bCt X.1, fun o => if o = bW X.1 then kd else bKd X.1 o, bMn X.1), fun o => if o = bW X.1 then l else X.2.1 o, X.2.2)
def uC (X : zBs) (c : Nat) : zBs := ((bW X.1, bR X.1, c, bLn X.1, bIt X.1, bU X.1, bCt X.1, bKd X.1, bMn X.1), X.2.1, X.2.2)
def uR (X : zBs) (L : zRo) : zBs := ((bW X.1, bR X.1 + 1, bC X.1, fun r => if r = bR X.1 then L.1 else bLn X.1 r, fun r i => if r = bR X.1 then L.2 i else bIt X.1 r i, bU X.1, bCt X.1, bKd X.1, bMn X.1), X.2.1, X.2.2)
def uT (X : zBs) (r c : Nat) : zBs := ((bW X.1, bR X.1, bC X.1, bLn X.1, bIt X.1, bU X.1, fun q => if q = r then Int32.ofNat c else bCt X.1 q, bKd X.1, bMn X.1), X.2.1, X.2.2)
def uL (X : zBs) (n : Nat) (g : Nat → Nat) : zBs := (X.1, X.2.1, some (n, g))
abbrev zRs : Type := Nat × Nat × zBs
def zLnW (T : zTks) (j : Nat) (X : zBs) : zRs :=
  if 4 ≤ bW X.1 then (5 + 16 * T.pl j, j, X)
  else if ¬ zNmd T (j + 1) then (1 + 16 * T.pl (j + 1), j, X)
  else if zIx X.2.1 (bW X.1) (T.nm (j + 1)) < bW X.1 then (3 + 16 * T.pl (j + 1), j, X)
  else if 10 ≤ T.ky (j + 2) ∧ T.ky (j + 2) ≤ 13 then (0, j + 3, uW X (T.ky (j + 2) - 10) (T.nm (j + 1)))
  else (1 + 16 * T.pl (j + 2), j, X)
def zLnC (T : zTks) (j : Nat) (X : zBs) : zRs :=
  if bC X.1 = 0 then (if zNe T (j + 1) 1 61 = 0 then (0, j + 2, uC X (T.nu (j + 1))) else (zNe T (j + 1) 1 61 + 16 * T.pl (j + 1), j, X))
  else (3 + 16 * T.pl j, j, X)
def zRow0 : zRo := (0, fun _ => 0)
def zLnR (T : zTks) (j : Nat) (X : zBs) : zRs :=
  if 8 ≤ bR X.1 then (5 + 16 * T.pl j, j, X)
  else if (zIs T X.2.1 (bW X.1) 3 (j + 1, zRow0)).1 = 0 then
    (if zSn T 59 (zIs T X.2.1 (bW X.1) 3 (j + 1, zRow0)).2.1 = true ∧ 60 < (zIs T X.2.1 (bW X.1) 3 (j + 1, zRow0)).2.2.1 then (5 + 16 * T.pl (zIs T X.2.1 (bW X.1) 3 (j + 1, zRow0)).2.1, j, X)
     else (0, (zIs T X.2.1 (bW X.1) 3 (j + 1, zRow0)).2.1, uR X (zIs T X.2.1 (bW X.1) 3 (j + 1, zRow0)).2.2))
  else ((zIs T X.2.1 (bW X.1) 3 (j + 1, zRow0)).1, j, X)
def zLnA (T : zTks) (j : Nat) (X : zBs) : zRs :=
  if zNe T (j + 1) 0 (bR X.1) = 0 then
    (if bCt X.1 (T.nu (j + 1)) = zN1 then
      (if T.ky (j + 2) = 4 then (if zNe T (j + 3) 0 100 = 0 then (0, j + 4, uT X (T.nu (j + 1)) (T.nu (j + 3))) else (zNe T (j + 3) 0 100 + 16 * T.pl (j + 3), j, X))
       else (1 + 16 * T.pl (j + 2), j, X))
     else (3 + 16 * T.pl (j + 1), j, X))
  else (zNe T (j + 1) 0 (bR X.1) + 16 * T.pl (j + 1), j, X)
def zSu0 (j : Nat) : zSu := (j, 0, fun _ => 0)
def zLnL (T : zTks) (j : Nat) (X : zBs) : zRs :=
  if X.2.2.isSome = true then (3 + 16 * T.pl j, j, X)
  else if (zRl T (zSu0 (j + 1))).1 = 0 then (0, (zRl T (zSu0 (j + 1))).2.1, uL X (zRl T (zSu0 (j + 1))).2.2.1 (zRl T (zSu0 (j + 1))).2.2.2)
  else ((zRl T (zSu0 (j + 1))).1, j, X)
def zLn0 (T : zTks) (j : Nat) (X : zBs) : zRs :=
  if T.ky j = 0 then zLnW T j X else if T.ky j = 2 then zLnR T j X else if T.ky j = 3 then zLnA T j X else if T.ky j = 1 then zLnC T j X else if T.ky j = 5 then zLnL T j X else (1 + 16 * T.pl j, j, X)
def zEnd (T : zTks) (r : zRs) : zRs := if r.1 = 0 then (if zSn T 59 r.2.1 = true then (0, r.2.1 + 1, r.2.2) else (1 + 16 * T.pl r.2.1, r.2)) else r
def zBl (T : zTks) : Nat → Nat × zBs → zRs
  | 0, s => (0, s)
  | f + 1, s => if T.kd s.1 = 0 then (0, s) else if (zEnd T (zLn0 T s.1 s.2)).1 = 0 then zBl T f (zEnd T (zLn0 T s.1 s.2)).2 else zEnd T (zLn0 T s.1 s.2)
/-- rules that can be worked out -/
def zRlok (n : Nat) (g : Nat → Nat) : Prop := n < 1000 ∧ (∀ i, i < n → zcok (g i)) ∧ zht g 0 n 0 = some 1
def zXok (X : zBs) : Prop := (bW X.1 ≤ 4 ∧ bR X.1 ≤ 8 ∧ bC X.1 ≤ 60) ∧ (∀ r, r < bR X.1 → bLn X.1 r ≤ 60 ∧ 1 ≤ bLn X.1 r) ∧ (∀ r i, r < bR X.1 → i < bLn X.1 r → bIt X.1 r i < bW X.1) ∧
  (∀ r, zsm 100 (bCt X.1 r)) ∧ (∀ r, bR X.1 ≤ r → bCt X.1 r = zN1) ∧ (∀ o, bKd X.1 o < 4) ∧ zNmok (bW X.1) X.2.1 ∧ ∀ n g, X.2.2 = some (n, g) → zRlok n g
theorem zXok_0 : zXok zX0 := ⟨⟨Nat.zero_le _, Nat.zero_le _, Nat.zero_le _⟩, fun r hr => absurd hr (Nat.not_lt_zero _), fun r i hr => absurd hr (Nat.not_lt_zero _), fun r => Or.inl rfl, fun r _ => rfl, fun o => by show 0 < 4; omega, ⟨fun o ho => absurd ho (Nat.not_lt_zero _), fun o p _ hp => absurd hp (Nat.not_lt_zero _)⟩, fun n g h => by cases h⟩
/-- a line, with its end: on, and what it leaves is as it must be; else what is wrong -/
def zRgk (m j : Nat) (r : zRs) : Prop := (r.1 = 0 → j < r.2.1 ∧ r.2.1 ≤ m ∧ zXok r.2.2) ∧ (¬ r.1 = 0 → r.1 < 20000)
theorem zRgk_e {T : zTks} {m j e j' : Nat} {X : zBs} (hpl : ∀ i, T.pl i ≤ 1000) (he : 0 < e ∧ e < 16) (i : Nat) : zRgk m j (e + 16 * T.pl i, j', X) :=
  ⟨fun q => by have q' : e + 16 * T.pl i = 0 := q; omega, fun _ => by have := hpl i; show e + 16 * T.pl i < 20000; omega⟩
theorem zEnd_e {T : zTks} {r : zRs} (h : ¬ r.1 = 0) : zEnd T r = r := if_neg h
theorem zEnd_ok {T : zTks} {m j j' : Nat} {X : zBs} (hm : zTm T m) (hpl : ∀ i, T.pl i ≤ 1000) (hj : j < j') (hj2 : j' ≤ m) (hX : zSn T 59 j' = true → zXok X) : zRgk m j (zEnd T (0, j', X)) := by
  rw [zEnd, if_pos rfl]
  by_cases e : zSn T 59 j' = true
  · rw [if_pos e]
    exact ⟨fun _ => ⟨Nat.lt_succ_of_lt hj, zTm_lt hm hj2 (by rw [(zSn_t e).1]; decide), hX e⟩, fun q => absurd rfl q⟩
  · rw [if_neg e]
    exact zRgk_e hpl (by omega) _
theorem zE_err {T : zTks} {m j e j' : Nat} {X : zBs} (hpl : ∀ i, T.pl i ≤ 1000) (he : 0 < e ∧ e < 16) (i : Nat) : zRgk m j (zEnd T (e + 16 * T.pl i, j', X)) := by
  rw [zEnd_e (fun q => by have q' : e + 16 * T.pl i = 0 := q; omega)]
  exact zRgk_e hpl he i
theorem zE_errN {T : zTks} {m j j' i lo H : Nat} {X : zBs} (hpl : ∀ i, T.pl i ≤ 1000) (e : ¬ zNe T i lo H = 0) : zRgk m j (zEnd T (zNe T i lo H + 16 * T.pl i, j', X)) := by
  have := zNe_r T i lo H
  exact zE_err hpl ⟨by omega, by omega⟩ i
theorem zLn_ok {sg : Nat → Nat} {n m j : Nat} {X : zBs} (hn : n ≤ 1000) (hm : zTm (zTT sg n) m) (hj : j < m) (hX : zXok X) : zRgk m j (zEnd (zTT sg n) (zLn0 (zTT sg n) j X)) := by
  have hpl : ∀ i, (zTT sg n).pl i ≤ 1000 := zTT_pl hn
  have hm1 := hm.1
  obtain ⟨⟨hW, hR, hC⟩, h2, h3, h4, h5, h6, h7, h8⟩ := hX
  unfold zLn0
  by_cases k0 : (zTT sg n).ky j = 0
  · rw [if_pos k0]
    unfold zLnW
    by_cases e1 : 4 ≤ bW X.1
    · rw [if_pos e1]; exact zE_err hpl (by omega) _
    · rw [if_neg e1]
      by_cases e2 : zNmd (zTT sg n) (j + 1)
      · rw [if_neg (fun q => q e2)]
        have l1 := zTm_lt hm (show j + 1 ≤ m by omega) (by rw [e2.1]; decide)
        by_cases e3 : zIx X.2.1 (bW X.1) ((zTT sg n).nm (j + 1)) < bW X.1
        · rw [if_pos e3]; exact zE_err hpl (by omega) _
        · rw [if_neg e3]
          by_cases e4 : 10 ≤ (zTT sg n).ky (j + 2) ∧ (zTT sg n).ky (j + 2) ≤ 13
          · rw [if_pos e4]
            have l2 := zTm_lt hm (show j + 2 ≤ m by omega) (zTT_ne0 (by omega))
            refine zEnd_ok hm hpl (by omega) (by omega) (fun _ => ⟨⟨show bW X.1 + 1 ≤ 4 by omega, hR, hC⟩, h2, fun r i hr hi => ?_, h4, h5, fun o => ?_, ⟨fun o ho => ?_, fun o p hop hp => ?_⟩, h8⟩)
            · have := h3 r i hr hi
              show bIt X.1 r i < bW X.1 + 1
              omega
            · show (if o = bW X.1 then (zTT sg n).ky (j + 2) - 10 else bKd X.1 o) < 4
              by_cases y : o = bW X.1
              · rw [if_pos y]; omega
              · rw [if_neg y]; exact h6 o
            · have ho' : o < bW X.1 + 1 := ho
              show zSW (if o = bW X.1 then (zTT sg n).nm (j + 1) else X.2.1 o)
              by_cases y : o = bW X.1
              · rw [if_pos y]; exact zTT_nm e2.1
              · rw [if_neg y]; exact h7.1 o (by omega)
            · have hp' : p < bW X.1 + 1 := hp
              show ¬ (if o = bW X.1 then (zTT sg n).nm (j + 1) else X.2.1 o) = (if p = bW X.1 then (zTT sg n).nm (j + 1) else X.2.1 p)
              rw [if_neg (show ¬ o = bW X.1 by omega)]
              by_cases y : p = bW X.1
              · rw [if_pos y]; exact (zIx_sp X.2.1 ((zTT sg n).nm (j + 1)) (bW X.1)).2.2 e3 o (by omega)
              · rw [if_neg y]; exact h7.2 o p hop (by omega)
          · rw [if_neg e4]; exact zE_err hpl (by omega) _
      · rw [if_pos e2]; exact zE_err hpl (by omega) _
  · rw [if_neg k0]
    by_cases k2 : (zTT sg n).ky j = 2
    · rw [if_pos k2]
      unfold zLnR
      by_cases e1 : 8 ≤ bR X.1
      · rw [if_pos e1]; exact zE_err hpl (by omega) _
      · rw [if_neg e1]
        obtain ⟨p1, p2⟩ := (zIs_ok (W := bW X.1) (nm := X.2.1) hn hm 3).1 (j + 1, zRow0) (show j + 1 ≤ m by omega) ⟨show 0 ≤ 61 by omega, fun i hi => absurd hi (Nat.not_lt_zero _)⟩
        generalize zIs (zTT sg n) X.2.1 (bW X.1) 3 (j + 1, zRow0) = r at p1 p2 ⊢
        by_cases e2 : r.1 = 0
        · rw [if_pos e2]
          obtain ⟨q1, q2, q3, q4, q5⟩ := p1 e2
          have q1' : j + 1 < r.2.1 := q1
          by_cases e3 : zSn (zTT sg n) 59 r.2.1 = true ∧ 60 < r.2.2.1
          · rw [if_pos e3]; exact zE_err hpl (by omega) _
          · rw [if_neg e3]
            refine zEnd_ok hm hpl (by omega) q2 (fun e4 => ?_)
            have l60 : r.2.2.1 ≤ 60 := by
              by_cases y : r.2.2.1 ≤ 60
              · exact y
              · exact absurd ⟨e4, by omega⟩ e3
            refine ⟨⟨hW, show bR X.1 + 1 ≤ 8 by omega, hC⟩, fun r' hr' => ?_, fun r' i hr' hi => ?_, h4, fun r' hr' => h5 r' (Nat.le_of_succ_le hr'), h6, h7, h8⟩
            · have hr'' : r' < bR X.1 + 1 := hr'
              show (if r' = bR X.1 then r.2.2.1 else bLn X.1 r') ≤ 60 ∧ 1 ≤ (if r' = bR X.1 then r.2.2.1 else bLn X.1 r')
              by_cases y : r' = bR X.1
              · rw [if_pos y]; exact ⟨l60, q5⟩
              · rw [if_neg y]; exact h2 r' (by omega)
            · have hr'' : r' < bR X.1 + 1 := hr'
              have hi' : i < (if r' = bR X.1 then r.2.2.1 else bLn X.1 r') := hi
              show (if r' = bR X.1 then r.2.2.2 i else bIt X.1 r' i) < bW X.1
              by_cases y : r' = bR X.1
              · rw [if_pos y] at hi' ⊢; exact q3.2 i hi'
              · rw [if_neg y] at hi' ⊢; exact h3 r' i (by omega) hi'
        · rw [if_neg e2, zEnd_e e2]
          exact ⟨fun q => absurd q e2, fun q => p2 q⟩
    · rw [if_neg k2]
      by_cases k3 : (zTT sg n).ky j = 3
      · rw [if_pos k3]
        unfold zLnA
        by_cases e1 : zNe (zTT sg n) (j + 1) 0 (bR X.1) = 0
        · rw [if_pos e1]
          obtain ⟨a1, a2, a3⟩ := zNe_0 e1
          have l1 := zTm_lt hm (show j + 1 ≤ m by omega) (by rw [a1]; decide)
          by_cases e2 : bCt X.1 ((zTT sg n).nu (j + 1)) = zN1
          · rw [if_pos e2]
            by_cases e3 : (zTT sg n).ky (j + 2) = 4
            · rw [if_pos e3]
              have l2 := zTm_lt hm (show j + 2 ≤ m by omega) (zTT_ne0 (by omega))
              by_cases e4 : zNe (zTT sg n) (j + 3) 0 100 = 0
              · rw [if_pos e4]
                obtain ⟨b1, b2, b3⟩ := zNe_0 e4
                have l3 := zTm_lt hm (show j + 3 ≤ m by omega) (by rw [b1]; decide)
                refine zEnd_ok hm hpl (by omega) (by omega) (fun _ => ⟨⟨hW, hR, hC⟩, h2, h3, fun r => ?_, fun r hr => ?_, h6, h7, h8⟩)
                · show zsm 100 (if r = (zTT sg n).nu (j + 1) then Int32.ofNat ((zTT sg n).nu (j + 3)) else bCt X.1 r)
                  by_cases y : r = (zTT sg n).nu (j + 1)
                  · rw [if_pos y]; exact Or.inr ⟨_, b3, rfl⟩
                  · rw [if_neg y]; exact h4 r
                · have hr' : bR X.1 ≤ r := hr
                  show (if r = (zTT sg n).nu (j + 1) then Int32.ofNat ((zTT sg n).nu (j + 3)) else bCt X.1 r) = zN1
                  rw [if_neg (by omega)]; exact h5 r hr'
              · rw [if_neg e4]; exact zE_errN hpl e4
            · rw [if_neg e3]; exact zE_err hpl (by omega) _
          · rw [if_neg e2]; exact zE_err hpl (by omega) _
        · rw [if_neg e1]; exact zE_errN hpl e1
      · rw [if_neg k3]
        by_cases k1 : (zTT sg n).ky j = 1
        · rw [if_pos k1]
          unfold zLnC
          by_cases e1 : bC X.1 = 0
          · rw [if_pos e1]
            by_cases e2 : zNe (zTT sg n) (j + 1) 1 61 = 0
            · rw [if_pos e2]
              obtain ⟨b1, b2, b3⟩ := zNe_0 e2
              have l1 := zTm_lt hm (show j + 1 ≤ m by omega) (by rw [b1]; decide)
              exact zEnd_ok hm hpl (by omega) (by omega) (fun _ => ⟨⟨hW, hR, show (zTT sg n).nu (j + 1) ≤ 60 by omega⟩, h2, h3, h4, h5, h6, h7, h8⟩)
            · rw [if_neg e2]; exact zE_errN hpl e2
          · rw [if_neg e1]; exact zE_err hpl (by omega) _
        · rw [if_neg k1]
          by_cases k5 : (zTT sg n).ky j = 5
          · rw [if_pos k5]
            unfold zLnL
            by_cases e1 : X.2.2.isSome = true
            · rw [if_pos e1]; exact zE_err hpl (by omega) _
            · rw [if_neg e1]
              obtain ⟨p1, p2⟩ := zOK_rl hn hm (zSu0 (j + 1)) (show j + 1 ≤ m by omega)
              generalize zRl (zTT sg n) (zSu0 (j + 1)) = r at p1 p2 ⊢
              by_cases e2 : r.1 = 0
              · rw [if_pos e2]
                obtain ⟨q1, q2, q3, q4, q5, q6, q7⟩ := p1 e2
                have q1' : j + 1 < r.2.1 := q1
                have q4' : r.2.2.1 + (j + 1) ≤ 0 + r.2.1 := q4
                have q6' : ∀ i, 0 ≤ i → i < r.2.2.1 → zcok (r.2.2.2 i) := q6
                have q7' : ∀ h, h + 25 ≤ 32 → zht r.2.2.2 0 (r.2.2.1 - 0) h = some (h + 1) := q7
                refine zEnd_ok hm hpl (by omega) q2 (fun _ => ⟨⟨hW, hR, hC⟩, h2, h3, h4, h5, h6, h7, fun n' g' h' => ?_⟩)
                have h'' : some (r.2.2.1, r.2.2.2) = some (n', g') := h'
                injection h'' with h''
                injection h'' with ha hb
                rw [← ha, ← hb]
                exact ⟨by omega, fun i hi => q6' i (Nat.zero_le _) hi, q7' 0 (by decide)⟩
              · rw [if_neg e2, zEnd_e e2]
                exact ⟨fun q => absurd q e2, fun q => p2 q⟩
          · rw [if_neg k5]; exact zE_err hpl (by omega) _

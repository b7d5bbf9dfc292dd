/-! Level 2: dictionaries by their numbers, and all that is held between two calls -/
/-- the meaning of a word in a dictionary that has a number -/
def zdm (W d o : Nat) : Nat := if o < W then d / 9 ^ (W - 1 - o) % 9 else 0
theorem zdm_lt (W d o : Nat) : zdm W d o < 9 := by
  rw [zdm]
  by_cases h : o < W
  · rw [if_pos h]; omega
  · rw [if_neg h]; omega
/-- the same, packed -/
def zpd (W d : Nat) : Nat := zpk 4 (zdm W d)
theorem zpd_lt (W d : Nat) : zpd W d < 65536 := zpk_lt (m := zdm W d) (fun o => by have := zdm_lt W d o; omega) 4
theorem zdg_pd (W d : Nat) {o : Nat} (ho : o < 4) : zdg (zpd W d) o = zdm W d o := zdg_pk (m := zdm W d) (fun o => by have := zdm_lt W d o; omega) ho
def zAl (B : zBk) (d : Nat) : Bool := decide (∀ o, o < bW B → bMn B o (zdm (bW B) d o) = true)
def zGu (B : zBk) (S : Nat → Int32) (d : Nat) : Bool := decide (∀ o, o < bW B → S o = zN1 ∨ S o = Int32.ofNat (zdm (bW B) d o))
/-- a row does not go up; a count is not as told -/
def zDn (B : zBk) (m : Nat → Nat) (r : Nat) : Bool := decide (¬ zTk B r m = zTh B r m)
def zOf (B : zBk) (S : Nat → Int32) (m : Nat → Nat) (r : Nat) : Bool := decide (¬ S (4 + r) = zN1 ∧ ¬ S (4 + r) = Int32.ofNat (zLv B r m))
def zdn (B : zBk) (m : Nat → Nat) : Nat := zbits (bR B) (zDn B m)
def zof (B : zBk) (S : Nat → Int32) (m : Nat → Nat) : Nat := zbits (bR B) (zOf B S m)
def zAL (B : zBk) : List Nat := (List.range (9 ^ bW B)).filter (zAl B)
def zGL (B : zBk) (S : Nat → Int32) : List Nat := (zAL B).filter (zGu B S)
def zUL (B : zBk) : List Nat := (zAL B).filter (fun d => zdn B (zdm (bW B) d) == 0)
def zFL (B : zBk) (S : Nat → Int32) : List Nat := (zUL B).filter (fun d => zGu B S d && zof B S (zdm (bW B) d) == 0)
/-- the rows that do not go up, as the class keeps them -/
def zd2 (B : zBk) (m : Nat → Nat) : Nat := if zcnt (bR B) (zDn B m) ≤ 2 then zdn B m else 255
/-- what the shelf's arrays are: the first ones, of length 1, or three that were made later; longer ones are not there yet -/
def zBig (big : Nat) (w : zW) : Prop := (big = 25 ∨ (303 ≤ big ∧ big % 3 = 0)) ∧ zln big ≤ 6561 ∧ gR w 24 4 = big ∧ gR w 24 5 = big + 1 ∧ gR w 24 6 = big + 2 ∧ ∀ c, 300 ≤ c → big + 3 ≤ c → ¬ gI w 0 c = 1
theorem zBig_is {big : Nat} {w : zW} (h : zBig big w) : big = 25 ∨ 303 ≤ big := by
  rcases h.1 with q | q
  · exact Or.inl q
  · exact Or.inr q.1
theorem zBig_4 {big : Nat} {w : zW} (h : zBig big w) : gR w 24 4 = big ∧ gR w 24 5 = big + 1 ∧ gR w 24 6 = big + 2 := ⟨h.2.2.1, h.2.2.2.1, h.2.2.2.2.1⟩
theorem zBig_of {big : Nat} {w v : zW} (h : zBig big w) (hR : ∀ c, c = 4 ∨ c = 5 ∨ c = 6 → gR v 24 c = gR w 24 c) (h0 : ∀ c, 300 ≤ c → gI v 0 c = gI w 0 c) : zBig big v := by
  obtain ⟨h1, h2, h3, h4, h5, h6⟩ := h
  exact ⟨h1, h2, by rw [hR 4 (by omega)]; exact h3, by rw [hR 5 (by omega)]; exact h4, by rw [hR 6 (by omega)]; exact h5, fun c q1 q2 => by rw [h0 c q1]; exact h6 c q1 q2⟩
theorem zBig_ln {big : Nat} {w : zW} (h : zBig big w) : zln (big + 1) = zln big ∧ zln (big + 2) = zln big ∧ zln big ≤ 6561 ∧ 1 ≤ zln big := by
  rcases h.1 with e | ⟨e1, e2⟩
  · subst e; decide
  · have h2 := h.2.1
    rw [zln_big (show 300 ≤ big by omega)] at h2 ⊢
    rw [zln_big (show 300 ≤ big + 1 by omega), zln_big (show 300 ≤ big + 2 by omega)]
    omega
theorem zr2 {v w : zW} (h : v.2 = w.2) (a c : Nat) : gR v a c = gR w a c := by rw [gR, gR, h]
/-- the class's dictionaries: where its arrays are; what is in them, if it is not stale -/
def zShelf (B : zBk) (S : Nat → Int32) (b : Nat) (w : zW) : Prop := ∃ (big : Nat) (bs hs : Nat), bs < 2 ∧ hs < 2 ∧ gI w 24 0 = Int32.ofNat bs ∧ gI w 24 1 = Int32.ofNat hs ∧
  zBig big w ∧
  (bs = 0 → gR w 24 9 = b ∧ (zAL B).length ≤ zln big ∧ gI w 24 2 = Int32.ofNat (zAL B).length ∧ gI w 24 7 = Int32.ofNat (zUL B).length ∧
    (∀ i, i < (zAL B).length → gI w big i = Int32.ofNat (zpd (bW B) ((zAL B).getD i 0) + 65536 * zd2 B (zdm (bW B) ((zAL B).getD i 0)))) ∧
    (∀ i, i < (zUL B).length → gI w (big + 2) i = Int32.ofNat (zpd (bW B) ((zUL B).getD i 0)))) ∧
  (hs = 0 → bs = 0 ∧ gI w 24 3 = Int32.ofNat (zFL B S).length ∧ (∀ i, i < (zFL B S).length → gI w (big + 1) i = Int32.ofNat (zpd (bW B) ((zFL B S).getD i 0))))
/-- a book with a word put in place of another one in a row -/
def zMis (B : zBk) (r o x : Nat) : zBk := (bW B, bR B, bC B, bLn B, bIt B, (fun s p => if s = r then (if p = o then bU B s p - 1 else if p = x then bU B s p + 1 else bU B s p) else bU B s p), bCt B, bKd B, bMn B)
/-- whether that helps -/
def zHp (B : zBk) (S : Nat → Int32) (r o x : Nat) : Bool := decide (¬ o = x) && decide (0 < bU B r o) && (zGL B S).any (fun d => zdn (zMis B r o x) (zdm (bW B) d) == 0 && zof (zMis B r o x) S (zdm (bW B) d) == 0)
def zWy (B : zBk) (S : Nat → Int32) : List (Nat × Nat × Nat) := (List.range (bR B)).flatMap fun r => (List.range (bLn B r)).flatMap fun i => ((List.range (bW B)).filter fun x => zHp B S r (bIt B r i) x).map fun x => (r, i, x)
def zfst (f : Nat × Nat × Nat → Nat) : List (Nat × Nat × Nat) → Int32
  | [] => zN1
  | t :: _ => Int32.ofNat (f t)
def zSlips (B : zBk) (S : Nat → Int32) (w : zW) : Prop := ∃ st, st < 2 ∧ gI w 31 0 = Int32.ofNat st ∧ (st = 0 → gI w 31 1 = Int32.ofNat (zWy B S).length ∧
  gI w 31 2 = zfst (fun t => t.1) (zWy B S) ∧ gI w 31 3 = zfst (fun t => t.2.1) (zWy B S) ∧ gI w 31 4 = zfst (fun t => t.2.2) (zWy B S))
/-- notes: how many lines, of each what it does, of what, and two numbers -/
abbrev zNt : Type := Nat × (Nat → Nat) × (Nat → Nat) × (Nat → Nat) × (Nat → Nat)
def zNcan (B : zBk) (N : zNt) (i : Nat) (S : Nat → Int32) : Bool :=
  if N.2.1 i = 0 then bMn B (N.2.2.1 i) (3 * N.2.2.2.1 i + N.2.2.2.2 i) else if N.2.1 i = 1 then zh S (N.2.2.1 i) else if N.2.1 i = 2 then true else zh S (4 + N.2.2.1 i)
def zNslot (N : zNt) (i : Nat) : Nat := if N.2.1 i < 2 then N.2.2.1 i else 4 + N.2.2.1 i
def zNval (N : zNt) (i : Nat) : Int32 := if N.2.1 i = 0 then Int32.ofNat (3 * N.2.2.2.1 i + N.2.2.2.2 i) else if N.2.1 i = 2 then Int32.ofNat (N.2.2.2.1 i) else zN1
/-- nothing guessed, the counts as told -/
def zbeg (B : zBk) (i : Nat) : Int32 := if i < 4 then zN1 else bCt B (i - 4)
/-- the hand behind so many lines -/
def zNh (B : zBk) (N : zNt) : Nat → Nat → Int32
  | 0 => zbeg B
  | n + 1 => if zNcan B N n (zNh B N n) = true then zup (zNh B N n) (zNslot N n) (zNval N n) else zNh B N n
/-- the first number below n of which something is so -/
def zfind (n : Nat) (p : Nat → Bool) : Int32 := match (List.range n).find? p with
  | none => zN1
  | some i => Int32.ofNat i
def zNwf (B : zBk) (N : zNt) : Prop := N.1 ≤ 40 ∧ ∀ i, i < N.1 → N.2.1 i < 4 ∧ (N.2.1 i < 2 → N.2.2.1 i < bW B) ∧ (2 ≤ N.2.1 i → N.2.2.1 i < bR B) ∧ (N.2.1 i = 0 → N.2.2.2.1 i ≤ 2 ∧ N.2.2.2.2 i ≤ 2) ∧ (N.2.1 i = 2 → N.2.2.2.1 i ≤ 99)
def zNotes (B : zBk) (N : zNt) (nn : Nat) (w : zW) : Prop := zNwf B N ∧ gI w 217 0 = Int32.ofNat N.1 ∧ gI w nn 0 = Int32.ofNat N.1 ∧
  (∀ i, i < N.1 → gI w 217 (1 + 4 * i) = Int32.ofNat (N.2.1 i) ∧ gI w 217 (1 + 4 * i + 1) = Int32.ofNat (N.2.2.1 i) ∧ (N.2.1 i = 0 ∨ N.2.1 i = 2 → gI w 217 (1 + 4 * i + 2) = Int32.ofNat (N.2.2.2.1 i)) ∧ (N.2.1 i = 0 → gI w 217 (1 + 4 * i + 3) = Int32.ofNat (N.2.2.2.2 i))) ∧
  (∀ i, i < N.1 → gI w (nn + 1) i = Int32.ofNat (6 + N.2.1 i) ∧ gI w (nn + 2) i = Int32.ofNat (zNslot N i) ∧ gI w (nn + 3) i = zNval N i) ∧
  (∃ st, st < 2 ∧ gI w nn 1 = Int32.ofNat st ∧ (st = 0 → gI w nn 2 = zfind N.1 (fun i => !zNcan B N i (zNh B N i)) ∧ gI w nn 3 = zfind N.1 (fun i => (zFL B (zNh B N (i + 1))).length == 0) ∧ gI w nn 4 = Int32.ofNat (zFL B (zNh B N N.1)).length))
/-- what has been fed -/
def zTape (w : zW) : Prop := ∃ (n : Nat) (t : Nat → Nat), n ≤ 1000 ∧ gI w 200 2 = Int32.ofNat n ∧ gI w 2 1 = Int32.ofNat n ∧ ∀ i, i < n → (t i = 10 ∨ 32 ≤ t i ∧ t i ≤ 126) ∧ gI w 201 i = Int32.ofNat (t i) ∧ gI w 3 i = Int32.ofNat (t i)
/-- names: letters as numbers from 1, in base 37 and in base 32 -/
def zn37 : List Nat → Nat
  | [] => 0
  | c :: l => zn37 l * 37 + c
def zn32 : List Nat → Nat
  | [] => 0
  | c :: l => zn32 l * 32 + c
/-- the told words of the language -/
def zKL : List (List Nat) := [[4, 18, 15, 23], [19, 20, 19, 1, 3], [23, 15, 18], [18, 5, 20, 6, 1], [19, 9], [19, 5, 12, 21, 18], [19, 19, 5, 21, 7], [20, 5, 7, 18, 15, 6], [12, 12, 5, 20], [16, 15, 18, 4], [25, 14, 1], [14, 5, 22, 5], [19, 23, 15, 18, 7], [19, 19, 5, 12], [20, 15, 14], [4, 14, 1], [18, 15], [19, 5, 11, 1, 20], [19, 5, 22, 1, 5, 12], [19, 5, 19, 21], [8, 3, 9, 8, 23]]
def zNames (W b : Nat) (w : zW) : Prop := (∀ i, i < 21 → gL w 209 i = Int64.ofNat (zn37 (zKL.getD i []))) ∧ ∃ nm : Nat → List Nat, (∀ o, o < W → 1 ≤ (nm o).length ∧ (nm o).length ≤ 8 ∧ (∀ c, c ∈ nm o → 1 ≤ c ∧ c ≤ 26) ∧ gL w 214 o = Int64.ofNat (zn37 (nm o)) ∧ gL w (b + 1) o = Int64.ofNat (zn32 (nm o))) ∧ ∀ o p, o < p → p < W → ¬ nm o = nm p
/-- where the told book and notes are -/
def zRefs (b nn : Nat) (w : zW) : Prop := (b = 40 ∨ b = 80) ∧ gR w 1 9 = b ∧ gR w 1 10 = 120 - b ∧ (nn = 120 ∨ nn = 130) ∧ gR w 1 11 = nn ∧ gR w 1 12 = 250 - nn
/-- the fewest tokens of a row's part: in sizes, then by begin -/
def zagain (it : Nat → Nat) (from0 many beat : Nat) : Bool := many % beat == 0 && (List.range many).all (fun i => decide (i < beat) || it (from0 + i) == it (from0 + i - beat))
def zmin (a b : Nat) : Nat := if b < a then b else a
/-- over 1 to n - 1 -/
def zminL (n : Nat) (f : Nat → Nat) (a : Nat) : Nat := ((List.range n).filter (fun i => decide (1 ≤ i))).foldl (fun x i => zmin x (f i)) a
def ztok (it : Nat → Nat) : Nat → Nat → Nat → Nat → Nat
  | 0, _, _, _ => 0
  | f + 1, br, from0, many => zminL many (fun beat => if zagain it from0 many beat = true ∧ many / beat ≤ 20 then (if beat = 1 then 2 else if br = 0 then many else ztok it f (br - 1) from0 beat + 3) else many) (zminL many (fun k => ztok it f br from0 k + ztok it f br (from0 + k) (many - k)) many)
def zBrf (B : zBk) (r : Nat) : Nat := ztok (bIt B r) (bLn B r) 3 0 (bLn B r)
def zBrief (B : zBk) (b : Nat) (w : zW) : Prop := (∀ r, r < bR B → gI w (b + 30) r = 0 ∨ gI w (b + 30) r = Int32.ofNat (zBrf B r)) ∧
  ((gR w 1 13 = 0 ∧ ¬ gI w 0 140 = 1 ∧ ¬ gI w 0 141 = 1 ∧ ¬ gI w 0 142 = 1) ∨ (gR w 1 13 = 140 ∧ gI w 0 140 = 1 ∧ (gR w 140 0 = 141 ∧ gR w 140 1 = 142 ∨ gR w 140 0 = 142 ∧ gR w 140 1 = 141)))
/-- all that is held between two calls -/
def zInv (B : zBk) (S : Nat → Int32) (N : zNt) (b nn : Nat) (w : zW) : Prop :=
  zWF B ∧ zRB B w ∧ zCB B b w ∧ zHand B S w ∧ zPast B S w ∧ zMarks B w ∧ zTape w ∧ zNames (bW B) b w ∧ zRefs b nn w ∧ zShelf B S b w ∧ zSlips B S w ∧ zNotes B N nn w ∧ zBrief B b w

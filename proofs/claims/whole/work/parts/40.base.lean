/-! Level 2: worlds as functions, small ints as numbers -/
theorem gI_sI (w : zW) (n k a b : Nat) (x : Int32) : gI (sI w n k x) a b = if a = n ∧ b = k then x else gI w a b := rfl
theorem gL_sI (w : zW) (n k a b : Nat) (x : Int32) : gL (sI w n k x) a b = gL w a b := rfl
theorem gR_sI (w : zW) (n k a b : Nat) (x : Int32) : gR (sI w n k x) a b = gR w a b := rfl
theorem gI_sL (w : zW) (n k a b : Nat) (x : Int64) : gI (sL w n k x) a b = gI w a b := rfl
theorem gL_sL (w : zW) (n k a b : Nat) (x : Int64) : gL (sL w n k x) a b = if a = n ∧ b = k then x else gL w a b := rfl
theorem gR_sL (w : zW) (n k a b : Nat) (x : Int64) : gR (sL w n k x) a b = gR w a b := rfl
theorem gI_sR (w : zW) (n k a b x : Nat) : gI (sR w n k x) a b = gI w a b := rfl
theorem gL_sR (w : zW) (n k a b x : Nat) : gL (sR w n k x) a b = gL w a b := rfl
theorem gR_sR (w : zW) (n k a b x : Nat) : gR (sR w n k x) a b = if a = n ∧ b = k then x else gR w a b := rfl
theorem gI_nW (w : zW) (j a b : Nat) : gI (nW w j) a b = if a = j then 0 else if a = 0 ∧ b = j then 1 else gI w a b := rfl
theorem gL_nW (w : zW) (j a b : Nat) : gL (nW w j) a b = if a = j then 0 else gL w a b := rfl
theorem gR_nW (w : zW) (j a b : Nat) : gR (nW w j) a b = if a = j then 0 else gR w a b := rfl
/-- an array's ints, all at once -/
def aI (w : zW) (n : Nat) (g : Nat → Int32) : zW := (fun a b => if a = n then g b else w.1 a b, w.2)
theorem gI_aI (w : zW) (n a b : Nat) (g : Nat → Int32) : gI (aI w n g) a b = if a = n then g b else gI w a b := rfl
theorem gL_aI (w : zW) (n a b : Nat) (g : Nat → Int32) : gL (aI w n g) a b = gL w a b := rfl
theorem gR_aI (w : zW) (n a b : Nat) (g : Nat → Int32) : gR (aI w n g) a b = gR w a b := rfl
theorem zWext {w v : zW} (h1 : ∀ a b, gI w a b = gI v a b) (h2 : ∀ a b, gL w a b = gL v a b) (h3 : ∀ a b, gR w a b = gR v a b) : w = v :=
  Prod.ext (funext fun a => funext fun b => h1 a b) (Prod.ext (funext fun a => funext fun b => h2 a b) (funext fun a => funext fun b => h3 a b))
theorem sI_aI (w : zW) (n k : Nat) (g : Nat → Int32) (x : Int32) : sI (aI w n g) n k x = aI w n (fun b => if b = k then x else g b) := by
  refine zWext (fun a b => ?_) (fun _ _ => rfl) (fun _ _ => rfl)
  rw [gI_sI, gI_aI, gI_aI]
  by_cases h : a = n
  · by_cases h2 : b = k
    · rw [if_pos ⟨h, h2⟩, if_pos h, if_pos h2]
    · rw [if_neg (fun z => h2 z.2), if_pos h, if_pos h, if_neg h2]
  · rw [if_neg (fun z => h z.1), if_neg h, if_neg h]
theorem aI_gI (w : zW) (n : Nat) : aI w n (fun b => gI w n b) = w := by
  refine zWext (fun a b => ?_) (fun _ _ => rfl) (fun _ _ => rfl)
  rw [gI_aI]
  by_cases h : a = n
  · rw [if_pos h, h]
  · rw [if_neg h]
theorem aI_id {w : zW} {n : Nat} {g : Nat → Int32} (h : ∀ b, g b = gI w n b) : aI w n g = w := by
  rw [show g = fun b => gI w n b from funext h]
  exact aI_gI w n
theorem aI_aI (w : zW) (n : Nat) (g h : Nat → Int32) : aI (aI w n g) n h = aI w n h := by
  refine zWext (fun a b => ?_) (fun _ _ => rfl) (fun _ _ => rfl)
  rw [gI_aI, gI_aI, gI_aI]
  by_cases e : a = n
  · rw [if_pos e, if_pos e]
  · rw [if_neg e, if_neg e, if_neg e]
theorem aI_congr {w : zW} {n : Nat} {g h : Nat → Int32} (e : ∀ b, g b = h b) : aI w n g = aI w n h := by rw [show g = h from funext e]
theorem sI_eq (w : zW) (n k : Nat) (x : Int32) : sI w n k x = aI w n (fun b => if b = k then x else gI w n b) := by
  have h := sI_aI w n k (fun b => gI w n b) x
  rw [aI_gI] at h
  exact h
theorem zi_nat {n : Nat} (h : n < 2 ^ 31) : (Int32.ofNat n).toNatClampNeg = n := Int32.toNatClampNeg_ofNat_of_lt h
theorem zi_le {a b : Nat} (ha : a < 2 ^ 31) (hb : b < 2 ^ 31) : (Int32.ofNat a ≤ Int32.ofNat b) ↔ a ≤ b := Int32.ofNat_le_iff_le ha hb
theorem zi_lt {a b : Nat} (ha : a < 2 ^ 31) (hb : b < 2 ^ 31) : (Int32.ofNat a < Int32.ofNat b) ↔ a < b := Int32.ofNat_lt_iff_lt ha hb
theorem zi_succ (n : Nat) : Int32.ofNat n + 1 = Int32.ofNat (n + 1) := (Int32.ofNat_add n 1).symm
theorem zi_0le {n : Nat} (h : n < 2 ^ 31) : ¬ Int32.ofNat n < 0 := fun q => by
  have := (zi_lt (a := n) (b := 0) h (by decide)).mp q
  omega
theorem zi_in {n N : Nat} (h : n < N) (hN : n < 2 ^ 31) : vp_in (Int32.ofNat n) N := fun q => by
  rcases q with q | q
  · exact zi_0le hN q
  · rw [zi_nat hN] at q
    omega
theorem zi_of {x : Int32} (h : ¬ x < 0) : ∃ n : Nat, n < 2 ^ 31 ∧ x = Int32.ofNat n :=
  ⟨x.toNatClampNeg, Int32.toNatClampNeg_lt x, (Int32.ofNat_toNatClampNeg x (Int32.not_lt.mp h)).symm⟩
theorem zi_eq {a b : Nat} (ha : a < 2 ^ 31) (hb : b < 2 ^ 31) : (Int32.ofNat a = Int32.ofNat b) ↔ a = b := by
  refine ⟨fun h => ?_, fun h => by rw [h]⟩
  have h1 := zi_nat ha
  rw [h, zi_nat hb] at h1
  exact h1.symm
/-- Arrays.fill -/
theorem q_fillL {a : Nat} {x : Int32} {k : zW → Prop} {N : Nat} (hN : N < 2 ^ 31) (hz : N = zln a) : ∀ (j n : Nat) (w : zW), n + j = N → k (aI w a (fun b => if n ≤ b ∧ b < N then x else gI w a b)) → fJ7_fill_53178_L5 a k (j + 1) x (Int32.ofNat n) (Int32.ofNat N) w := by
  intro j
  induction j with
  | zero =>
    intro n w hj hk
    obtain rfl : n = N := by omega
    rw [fJ7_fill_53178_L5]
    refine ⟨fun _ => ?_, fun h => absurd ((zi_le hN hN).mpr (Nat.le_refl _)) h⟩
    rw [aI_id (fun b => if_neg (by omega))] at hk
    exact hk
  | succ j ih =>
    intro n w hj hk
    rw [fJ7_fill_53178_L5]
    refine ⟨fun h => absurd ((zi_le hN (by omega)).mp h) (by omega), fun _ => ⟨?_, fun w4 e => ?_⟩⟩
    · rw [← hz]; exact zi_in (by omega) (by omega)
    · subst e
      rw [zi_nat (by omega), zi_succ]
      refine ih (n + 1) _ (by omega) ?_
      have e : aI (sI w a n x) a (fun b => if n + 1 ≤ b ∧ b < N then x else gI (sI w a n x) a b) = aI w a (fun b => if n ≤ b ∧ b < N then x else gI w a b) := by
        rw [sI_eq, aI_aI]
        refine aI_congr fun b => ?_
        rw [gI_aI, if_pos rfl]
        by_cases h : b = n
        · subst h
          rw [if_neg (by omega), if_pos rfl, if_pos ⟨Nat.le_refl _, by omega⟩]
        · by_cases h2 : n + 1 ≤ b ∧ b < N
          · rw [if_pos h2, if_pos (by omega)]
          · rw [if_neg h2, if_neg h, if_neg (by omega)]
      rw [e]
      exact hk
theorem q_fill {a : Nat} {x : Int32} {w : zW} {k : zW → Prop} (hN : zln a < 2 ^ 31) (hk : k (aI w a (fun b => if b < zln a then x else gI w a b))) : fJ7_fill_53178 a x w k := by
  intro v e
  subst e
  refine ⟨zln a + 1, q_fillL hN rfl (zln a) 0 w (by omega) ?_⟩
  rw [show (fun b => if 0 ≤ b ∧ b < zln a then x else gI w a b) = fun b => if b < zln a then x else gI w a b from funext fun b => by simp]
  exact hk
/-- a loop that goes up to N: what holds at its i-th head -/
theorem zloop {σ : Type} (Lp : Nat → σ → Prop) (I : Nat → σ → Prop) (N : Nat) (hend : ∀ (n : Nat) (s : σ), I N s → Lp (n + 1) s) (hstep : ∀ (i n : Nat) (s : σ), i < N → I i s → (∀ s' : σ, I (i + 1) s' → Lp n s') → Lp (n + 1) s) : ∀ (j i : Nat) (s : σ), i + j = N → I i s → Lp (j + 1) s := by
  intro j
  induction j with
  | zero =>
    intro i s h hI
    obtain rfl : i = N := by omega
    exact hend 0 s hI
  | succ j ih =>
    intro i s h hI
    exact hstep i (j + 1) s (by omega) hI (fun s' h' => ih (i + 1) s' (by omega) h')
/-- the same, of a loop whose only variable is its counter -/
theorem zfor {Lp : Nat → Int32 → zW → Prop} (W : Nat → zW) (N : Nat) (hN : N < 2 ^ 31) (hend : ∀ n : Nat, Lp (n + 1) (Int32.ofNat N) (W N)) (hstep : ∀ i n : Nat, i < N → Lp n (Int32.ofNat (i + 1)) (W (i + 1)) → Lp (n + 1) (Int32.ofNat i) (W i)) : ∃ n, Lp n (0 : Int32) (W 0) :=
  ⟨N + 1, zloop (fun n (s : Int32 × zW) => Lp n s.1 s.2) (fun i s => s = (Int32.ofNat i, W i)) N (fun n s e => by rw [e]; exact hend n) (fun i n s hi e hc => by rw [e]; exact hstep i n hi (hc _ rfl)) N 0 (Int32.ofNat 0, W 0) (by omega) rfl⟩
theorem zi_add (a b : Nat) : Int32.ofNat a + Int32.ofNat b = Int32.ofNat (a + b) := (Int32.ofNat_add a b).symm
theorem zi_mul (a b : Nat) : Int32.ofNat a * Int32.ofNat b = Int32.ofNat (a * b) := (Int32.ofNat_mul a b).symm
theorem zi_nge {a i : Nat} (h : i < a) (ha : a < 2 ^ 31) : ¬ Int32.ofNat a ≤ Int32.ofNat i := fun q => by
  have := (zi_le ha (by omega)).mp q
  omega
theorem zi_ge {a i : Nat} (h : a ≤ i) (hi : i < 2 ^ 31) : Int32.ofNat a ≤ Int32.ofNat i := (zi_le (by omega) hi).mpr h

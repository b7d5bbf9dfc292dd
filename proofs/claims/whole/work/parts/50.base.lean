/-! Level 2: numbers -/
theorem zl0 : (0 : Int32) = Int32.ofNat 0 := rfl
theorem zl1 : (1 : Int32) = Int32.ofNat 1 := rfl
theorem zl2 : (2 : Int32) = Int32.ofNat 2 := rfl
theorem zl3 : (3 : Int32) = Int32.ofNat 3 := rfl
theorem zl4 : (4 : Int32) = Int32.ofNat 4 := rfl
theorem zl5 : (5 : Int32) = Int32.ofNat 5 := rfl
theorem zl6 : (6 : Int32) = Int32.ofNat 6 := rfl
theorem zl7 : (7 : Int32) = Int32.ofNat 7 := rfl
theorem zl8 : (8 : Int32) = Int32.ofNat 8 := rfl
theorem zl9 : (9 : Int32) = Int32.ofNat 9 := rfl
theorem zl10 : (10 : Int32) = Int32.ofNat 10 := rfl
theorem zl12 : (12 : Int32) = Int32.ofNat 12 := rfl
theorem zl15 : (15 : Int32) = Int32.ofNat 15 := rfl
theorem zl16 : (16 : Int32) = Int32.ofNat 16 := rfl
theorem zl20 : (20 : Int32) = Int32.ofNat 20 := rfl
theorem zl24 : (24 : Int32) = Int32.ofNat 24 := rfl
theorem zl30 : (30 : Int32) = Int32.ofNat 30 := rfl
theorem zl32 : (32 : Int32) = Int32.ofNat 32 := rfl
theorem zl36 : (36 : Int32) = Int32.ofNat 36 := rfl
theorem zl40 : (40 : Int32) = Int32.ofNat 40 := rfl
theorem zl59 : (59 : Int32) = Int32.ofNat 59 := rfl
theorem zl60 : (60 : Int32) = Int32.ofNat 60 := rfl
theorem zl61 : (61 : Int32) = Int32.ofNat 61 := rfl
theorem zl99 : (99 : Int32) = Int32.ofNat 99 := rfl
theorem zl120 : (120 : Int32) = Int32.ofNat 120 := rfl
theorem zl121 : (121 : Int32) = Int32.ofNat 121 := rfl
theorem zl126 : (126 : Int32) = Int32.ofNat 126 := rfl
theorem zl165 : (165 : Int32) = Int32.ofNat 165 := rfl
theorem zl255 : (255 : Int32) = Int32.ofNat 255 := rfl
theorem zl480 : (480 : Int32) = Int32.ofNat 480 := rfl
theorem zl968 : (968 : Int32) = Int32.ofNat 968 := rfl
theorem zl1000 : (1000 : Int32) = Int32.ofNat 1000 := rfl
theorem zl1100 : (1100 : Int32) = Int32.ofNat 1100 := rfl
theorem zl48 : (48 : Int32) = Int32.ofNat 48 := rfl
theorem zl57 : (57 : Int32) = Int32.ofNat 57 := rfl
theorem zl97 : (97 : Int32) = Int32.ofNat 97 := rfl
theorem zl122 : (122 : Int32) = Int32.ofNat 122 := rfl
/-- none, none such -/
def zN1 : Int32 := -1
def zN2 : Int32 := -2
theorem zln1 : (-1 : Int32) = zN1 := rfl
theorem zln2 : (-2 : Int32) = zN2 := rfl
theorem zi_div {a b : Nat} (ha : a < 2 ^ 31) (hb : b < 2 ^ 31) : Int32.ofNat a / Int32.ofNat b = Int32.ofNat (a / b) := (Int32.ofNat_div ha hb).symm
theorem zi_mod {a b : Nat} (ha : a < 2 ^ 31) (hb : b < 2 ^ 31) : Int32.ofNat a % Int32.ofNat b = Int32.ofNat (a % b) := (Int32.ofNat_mod ha hb).symm
theorem zi_sub {a b : Nat} (h : b ≤ a) : Int32.ofNat a - Int32.ofNat b = Int32.ofNat (a - b) := (Int32.ofNat_sub a b h).symm
theorem zi_vp {n N : Nat} (h : n < 2 ^ 31) : vp_in (Int32.ofNat n) N ↔ n < N :=
  ⟨fun q => Nat.lt_of_not_le fun z => q (Or.inr (by rw [zi_nat h]; exact z)), fun q => zi_in q h⟩
theorem zi_lt0 {n : Nat} (h : n < 2 ^ 31) : (Int32.ofNat n < 0) ↔ False := ⟨zi_0le h, False.elim⟩
theorem zi_cases (x : Int32) : x < 0 ∨ ∃ n : Nat, n < 2 ^ 31 ∧ x = Int32.ofNat n := by
  by_cases h : x < 0
  · exact Or.inl h
  · exact Or.inr (zi_of h)
theorem zN1_lt : zN1 < 0 := by decide
theorem zN1_ne {n : Nat} (h : n < 2 ^ 31) : ¬ Int32.ofNat n = zN1 := fun q => zi_0le h (by rw [q]; decide)
theorem zN1_ne' {n : Nat} (h : n < 2 ^ 31) : ¬ zN1 = Int32.ofNat n := fun q => zi_0le h (by rw [← q]; decide)
/-- a negative int is less than each small number -/
theorem zi_neg_lt {x : Int32} {n : Nat} (hx : x < 0) (h : n < 2 ^ 31) : x < Int32.ofNat n :=
  Int32.lt_of_lt_of_le hx (Int32.not_lt.mp (zi_0le h))
theorem zi_neg_nle {x : Int32} {n : Nat} (hx : x < 0) (h : n < 2 ^ 31) : ¬ Int32.ofNat n ≤ x :=
  Int32.not_le.mpr (zi_neg_lt hx h)
theorem zt_le {a b : Nat} (h : a ≤ b) (hb : b < 2 ^ 31) : (Int32.ofNat a ≤ Int32.ofNat b) = True := eq_true ((zi_le (by omega) hb).mpr h)
theorem zf_le {a b : Nat} (h : b < a) (ha : a < 2 ^ 31) : (Int32.ofNat a ≤ Int32.ofNat b) = False := eq_false fun q => by
  have := (zi_le ha (by omega)).mp q
  omega
theorem zt_lt {a b : Nat} (h : a < b) (hb : b < 2 ^ 31) : (Int32.ofNat a < Int32.ofNat b) = True := eq_true ((zi_lt (by omega) hb).mpr h)
theorem zf_lt {a b : Nat} (h : b ≤ a) (ha : a < 2 ^ 31) : (Int32.ofNat a < Int32.ofNat b) = False := eq_false fun q => by
  have := (zi_lt ha (by omega)).mp q
  omega
theorem zt_eq {a b : Nat} (h : a = b) : (Int32.ofNat a = Int32.ofNat b) = True := eq_true (by rw [h])
theorem zf_eq {a b : Nat} (h : a ≠ b) (ha : a < 2 ^ 31) (hb : b < 2 ^ 31) : (Int32.ofNat a = Int32.ofNat b) = False := eq_false fun q => h ((zi_eq ha hb).mp q)
theorem zt_vp {n N : Nat} (h : n < N) (hn : n < 2 ^ 31) : vp_in (Int32.ofNat n) N = True := eq_true (zi_in h hn)
theorem zt_N1lt {n : Nat} (h : n < 2 ^ 31) : (zN1 < Int32.ofNat n) = True := eq_true (zi_neg_lt zN1_lt h)
theorem zf_N1lt {n : Nat} (h : n < 2 ^ 31) : (Int32.ofNat n < zN1) = False := eq_false fun q => zi_neg_nle zN1_lt h (Int32.le_of_lt q)
theorem zf_N1eq {n : Nat} (h : n < 2 ^ 31) : (Int32.ofNat n = zN1) = False := eq_false (zN1_ne h)
theorem zf_eqN1 {n : Nat} (h : n < 2 ^ 31) : (zN1 = Int32.ofNat n) = False := eq_false (zN1_ne' h)
theorem zt_N1eq : (zN1 = zN1) = True := eq_self zN1
theorem zt_N1le {n : Nat} (h : n < 2 ^ 31) : (zN1 ≤ Int32.ofNat n) = True := eq_true (Int32.le_of_lt (zi_neg_lt zN1_lt h))
theorem zf_leN1 {n : Nat} (h : n < 2 ^ 31) : (Int32.ofNat n ≤ zN1) = False := eq_false (zi_neg_nle zN1_lt h)
theorem zi_nN1 : zN1.toNatClampNeg = 0 := by decide
theorem zt_b0 : zb01 (Int32.ofNat 0) = True := eq_true (Or.inl rfl)
theorem zt_b1 : zb01 (Int32.ofNat 1) = True := eq_true (Or.inr rfl)
theorem gI_sI_eq (w : zW) (n k : Nat) (x : Int32) : gI (sI w n k x) n k = x := if_pos ⟨rfl, rfl⟩
theorem gI_sI_ne {n a : Nat} (h : a ≠ n) (w : zW) (k b : Nat) (x : Int32) : gI (sI w n k x) a b = gI w a b := if_neg fun q => h q.1
theorem gI_sI_ne2 {k b : Nat} (h : b ≠ k) (w : zW) (n : Nat) (x : Int32) : gI (sI w n k x) n b = gI w n b := if_neg fun q => h q.2
theorem gL_sL_eq (w : zW) (n k : Nat) (x : Int64) : gL (sL w n k x) n k = x := if_pos ⟨rfl, rfl⟩
theorem gL_sL_ne {n a : Nat} (h : a ≠ n) (w : zW) (k b : Nat) (x : Int64) : gL (sL w n k x) a b = gL w a b := if_neg fun q => h q.1
theorem gL_sL_ne2 {k b : Nat} (h : b ≠ k) (w : zW) (n : Nat) (x : Int64) : gL (sL w n k x) n b = gL w n b := if_neg fun q => h q.2
theorem gR_sR_eq (w : zW) (n k x : Nat) : gR (sR w n k x) n k = x := if_pos ⟨rfl, rfl⟩
theorem gR_sR_ne {n a : Nat} (h : a ≠ n) (w : zW) (k b x : Nat) : gR (sR w n k x) a b = gR w a b := if_neg fun q => h q.1
theorem gR_sR_ne2 {k b : Nat} (h : b ≠ k) (w : zW) (n x : Nat) : gR (sR w n k x) n b = gR w n b := if_neg fun q => h q.2
/-- a loop that goes up to N with its state known at each head -/
theorem zrun {σ : Type} (Lp : Nat → σ → Prop) (F : Nat → σ) (N : Nat) (hend : ∀ n : Nat, Lp (n + 1) (F N)) (hstep : ∀ i n : Nat, i < N → Lp n (F (i + 1)) → Lp (n + 1) (F i)) : ∃ n, Lp n (F 0) :=
  ⟨N + 1, zloop Lp (fun i s => s = F i) N (fun n s e => by rw [e]; exact hend n) (fun i n s hi e hc => by rw [e]; exact hstep i n hi (hc _ rfl)) N 0 (F 0) (by omega) rfl⟩
/-- a loop with an invariant -/
theorem zinv {σ : Type} (Lp : Nat → σ → Prop) (I : Nat → σ → Prop) (N : Nat) {s0 : σ} (h0 : I 0 s0) (hend : ∀ (n : Nat) (s : σ), I N s → Lp (n + 1) s) (hstep : ∀ (i n : Nat) (s : σ), i < N → I i s → (∀ s' : σ, I (i + 1) s' → Lp n s') → Lp (n + 1) s) : ∃ n, Lp n s0 :=
  ⟨N + 1, zloop Lp I N hend hstep N 0 s0 (by omega) h0⟩
/-- sums -/
def zsum : Nat → (Nat → Nat) → Nat
  | 0, _ => 0
  | n + 1, f => zsum n f + f n
theorem zsum_0 (f : Nat → Nat) : zsum 0 f = 0 := rfl
theorem zsum_S (n : Nat) (f : Nat → Nat) : zsum (n + 1) f = zsum n f + f n := rfl
theorem zsum_congr {n : Nat} {f g : Nat → Nat} (h : ∀ i, i < n → f i = g i) : zsum n f = zsum n g := by
  induction n with
  | zero => rfl
  | succ n ih => rw [zsum_S, zsum_S, ih (fun i hi => h i (by omega)), h n (by omega)]
theorem zsum_le {n : Nat} {f g : Nat → Nat} (h : ∀ i, i < n → f i ≤ g i) : zsum n f ≤ zsum n g := by
  induction n with
  | zero => exact Nat.le_refl _
  | succ n ih =>
    have h1 := ih (fun i hi => h i (by omega))
    have h2 := h n (by omega)
    rw [zsum_S, zsum_S]
    omega
theorem zsum_mono {m n : Nat} (f : Nat → Nat) (h : m ≤ n) : zsum m f ≤ zsum n f := by
  induction n with
  | zero => rw [Nat.le_zero.mp h]; exact Nat.le_refl _
  | succ n ih =>
    by_cases e : m = n + 1
    · rw [e]; exact Nat.le_refl _
    · have := ih (by omega)
      rw [zsum_S]
      omega
theorem zsum_add (n : Nat) (f g : Nat → Nat) : zsum n (fun i => f i + g i) = zsum n f + zsum n g := by
  induction n with
  | zero => rfl
  | succ n ih => rw [zsum_S, zsum_S, zsum_S, ih]; omega
theorem zsum_mul (n c : Nat) (f : Nat → Nat) : zsum n (fun i => c * f i) = c * zsum n f := by
  induction n with
  | zero => rfl
  | succ n ih => rw [zsum_S, zsum_S, ih, Nat.mul_add]
theorem zsum_zero {n : Nat} {f : Nat → Nat} (h : ∀ i, i < n → f i = 0) : zsum n f = 0 := by
  induction n with
  | zero => rfl
  | succ n ih => rw [zsum_S, ih (fun i hi => h i (by omega)), h n (by omega)]
theorem zsum_get {n i : Nat} (f : Nat → Nat) (h : i < n) : f i ≤ zsum n f := by
  have h1 := zsum_mono f (show i + 1 ≤ n from h)
  rw [zsum_S] at h1
  omega
/-- sets as bits -/
def zbits : Nat → (Nat → Bool) → Nat
  | 0, _ => 0
  | n + 1, p => zbits n p + (if p n = true then 2 ^ n else 0)
theorem zbits_S (n : Nat) (p : Nat → Bool) : zbits (n + 1) p = zbits n p + (if p n = true then 2 ^ n else 0) := rfl
theorem zbits_lt (n : Nat) (p : Nat → Bool) : zbits n p < 2 ^ n := by
  induction n with
  | zero => exact Nat.one_pos
  | succ n ih =>
    rw [zbits_S, Nat.pow_succ]
    by_cases h : p n = true
    · rw [if_pos h]; omega
    · rw [if_neg h]; omega
theorem zbits_congr {n : Nat} {p q : Nat → Bool} (h : ∀ i, i < n → p i = q i) : zbits n p = zbits n q := by
  induction n with
  | zero => rfl
  | succ n ih => rw [zbits_S, zbits_S, ih (fun i hi => h i (by omega)), h n (by omega)]
theorem zi_or (a b : Nat) : Int32.ofNat a ||| Int32.ofNat b = Int32.ofNat (a ||| b) := by
  apply Int32.toBitVec_inj.mp
  exact (BitVec.ofNat_or (w := 32) (x := a) (y := b)).symm
theorem zi_and (a b : Nat) : Int32.ofNat a &&& Int32.ofNat b = Int32.ofNat (a &&& b) := by
  apply Int32.toBitVec_inj.mp
  exact (BitVec.ofNat_and (w := 32) (x := a) (y := b)).symm
theorem zi_shl1F : ∀ r : Fin 31, (1 : Int32) <<< (Int32.ofNat r.val &&& 31) = Int32.ofNat (2 ^ r.val) := by decide +kernel
theorem zi_shl1 {r : Nat} (h : r < 31) : (1 : Int32) <<< (Int32.ofNat r &&& 31) = Int32.ofNat (2 ^ r) := zi_shl1F ⟨r, h⟩
theorem zi_or_bit {a r : Nat} (h : a < 2 ^ r) : a ||| 2 ^ r = a + 2 ^ r := by
  have e := Nat.two_pow_add_eq_or_of_lt h 1
  rw [Nat.mul_one] at e
  rw [Nat.or_comm, ← e, Nat.add_comm]
theorem zi_smod : ∀ r : Fin 32, ((Int32.ofNat r.val &&& 31).toBitVec.smod 32).toNat = r.val := by decide +kernel
theorem zi_shr {n r : Nat} (hn : n < 2 ^ 31) (hr : r < 32) : Int32.ofNat n >>> (Int32.ofNat r &&& 31) = Int32.ofNat (n / 2 ^ r) := by
  have h1 : n / 2 ^ r < 2 ^ 31 := Nat.lt_of_le_of_lt (Nat.div_le_self _ _) hn
  apply Int32.toInt_inj.mp
  rw [Int32.toInt_ofNat_of_lt h1]
  show (BitVec.sshiftRight' (Int32.ofNat n).toBitVec ((Int32.ofNat r &&& 31).toBitVec.smod 32)).toInt = _
  rw [BitVec.toInt_sshiftRight', zi_smod ⟨r, hr⟩]
  rw [show (Int32.ofNat n).toBitVec.toInt = (n : Int) from Int32.toInt_ofNat_of_lt hn]
  rw [Int.shiftRight_eq_div_pow]
  rfl
theorem zi_and1 (n : Nat) : Int32.ofNat n &&& 1 = Int32.ofNat (n % 2) := by
  rw [zl1, zi_and]
  exact congrArg Int32.ofNat (Nat.and_two_pow_sub_one_eq_mod n 1)
theorem zi_and15 (n : Nat) : Int32.ofNat n &&& 15 = Int32.ofNat (n % 16) := by
  rw [zl15, zi_and]
  exact congrArg Int32.ofNat (Nat.and_two_pow_sub_one_eq_mod n 4)
theorem zi_and255 (n : Nat) : Int32.ofNat n &&& 255 = Int32.ofNat (n % 256) := by
  rw [zl255, zi_and]
  exact congrArg Int32.ofNat (Nat.and_two_pow_sub_one_eq_mod n 8)
theorem zi_a1 (n : Nat) : Int32.ofNat n &&& Int32.ofNat 1 = Int32.ofNat (n % 2) := zi_and1 n
theorem zi_a15 (n : Nat) : Int32.ofNat n &&& Int32.ofNat 15 = Int32.ofNat (n % 16) := zi_and15 n
theorem zi_a255 (n : Nat) : Int32.ofNat n &&& Int32.ofNat 255 = Int32.ofNat (n % 256) := zi_and255 n
theorem zi_bit {r : Nat} (h : r < 31) : Int32.ofNat 1 <<< (Int32.ofNat r &&& 31) = Int32.ofNat (2 ^ r) := zi_shl1 h
theorem zbits_or {n : Nat} (hn : n < 31) (p : Nat → Bool) : Int32.ofNat (zbits n p) ||| (if p n = true then (1 : Int32) <<< (Int32.ofNat n &&& 31) else 0) = Int32.ofNat (zbits (n + 1) p) := by
  rw [zbits_S]
  by_cases h : p n = true
  · rw [if_pos h, if_pos h, zi_shl1 hn, zi_or, zi_or_bit (zbits_lt n p)]
  · rw [if_neg h, if_neg h, Nat.add_zero, zl0, zi_or, Nat.or_zero]
theorem zbits_or' {n : Nat} (hn : n < 31) (p : Nat → Bool) : (if p n = true then (1 : Int32) <<< (Int32.ofNat n &&& 31) else 0) ||| Int32.ofNat (zbits n p) = Int32.ofNat (zbits (n + 1) p) := by
  rw [Int32.or_comm]
  exact zbits_or hn p
/-- how many -/
def zcnt : Nat → (Nat → Bool) → Nat
  | 0, _ => 0
  | n + 1, p => zcnt n p + (if p n = true then 1 else 0)
theorem zcnt_S (n : Nat) (p : Nat → Bool) : zcnt (n + 1) p = zcnt n p + (if p n = true then 1 else 0) := rfl
theorem zcnt_le (n : Nat) (p : Nat → Bool) : zcnt n p ≤ n := by
  induction n with
  | zero => exact Nat.le_refl _
  | succ n ih =>
    rw [zcnt_S]
    by_cases h : p n = true
    · rw [if_pos h]; omega
    · rw [if_neg h]; omega
theorem zcnt_congr {n : Nat} {p q : Nat → Bool} (h : ∀ i, i < n → p i = q i) : zcnt n p = zcnt n q := by
  induction n with
  | zero => rfl
  | succ n ih => rw [zcnt_S, zcnt_S, ih (fun i hi => h i (by omega)), h n (by omega)]
/-- the bits of a number -/
def zones (v : Nat) : Nat := zcnt 30 (fun i => v / 2 ^ i % 2 == 1)
theorem zones_bits {n : Nat} (hn : n ≤ 16) (p : Nat → Bool) : zones (zbits n p) = zcnt n p := by
  have hb : ∀ (n m i : Nat) (p : Nat → Bool), i < n → zbits n p / 2 ^ i % 2 = if p i = true then 1 else 0 := by
    intro n
    induction n with
    | zero => intro m i p h; exact absurd h (Nat.not_lt_zero _)
    | succ n ih =>
      intro m i p h
      rw [zbits_S]
      by_cases e : i = n
      · subst e
        have h1 := zbits_lt i p
        by_cases h2 : p i = true
        · rw [if_pos h2, if_pos h2, Nat.add_div_right _ (Nat.two_pow_pos i), Nat.div_eq_of_lt h1]
        · rw [if_neg h2, if_neg h2, Nat.add_zero, Nat.div_eq_of_lt h1]
      · have h1 : i < n := by omega
        rw [← ih 0 i p h1]
        by_cases h2 : p n = true
        · rw [if_pos h2, show n = i + 1 + (n - i - 1) by omega, Nat.pow_add, Nat.pow_add, Nat.mul_assoc, Nat.add_mul_div_left _ _ (Nat.two_pow_pos i), Nat.pow_one, ← show n = i + 1 + (n - i - 1) by omega]
          omega
        · rw [if_neg h2, Nat.add_zero]
  have hz : ∀ (n i : Nat) (p : Nat → Bool), n ≤ i → zbits n p / 2 ^ i = 0 := by
    intro n i p h
    exact Nat.div_eq_of_lt (Nat.lt_of_lt_of_le (zbits_lt n p) (Nat.pow_le_pow_right (by omega) h))
  have hc : ∀ m : Nat, n ≤ m → zcnt m (fun i => zbits n p / 2 ^ i % 2 == 1) = zcnt n (fun i => zbits n p / 2 ^ i % 2 == 1) := by
    intro m
    induction m with
    | zero => intro h; rw [show n = 0 by omega]
    | succ m ih =>
      intro h
      by_cases e : n = m + 1
      · rw [e]
      · rw [zcnt_S, ih (by omega), hz n m p (by omega)]
        rfl
  unfold zones
  rw [hc 30 (by omega)]
  refine zcnt_congr (fun i hi => ?_)
  show (zbits n p / 2 ^ i % 2 == 1) = p i
  rw [hb n 0 i p hi]
  by_cases h : p i = true
  · rw [if_pos h, h]; rfl
  · rw [if_neg h, eq_false_of_ne_true h]
    rfl
theorem gI_aI_eq (w : zW) (n b : Nat) (g : Nat → Int32) : gI (aI w n g) n b = g b := if_pos rfl
theorem gI_aI_ne {n a : Nat} (h : a ≠ n) (w : zW) (b : Nat) (g : Nat → Int32) : gI (aI w n g) a b = gI w a b := if_neg h
theorem zR_aI (w : zW) (n : Nat) (g : Nat → Int32) : (aI w n g).2 = w.2 := rfl
theorem zc_eq {a b : Int32} (h : a = b) (p q : Prop) (hp : p) : (a = b → p) ∧ (¬ a = b → q) := ⟨fun _ => hp, fun z => absurd h z⟩

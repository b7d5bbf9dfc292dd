/-! Level 2: the fewest tokens of a row's part: what both sides count; the reference's table of them -/
theorem zmin_le1 (a b : Nat) : zmin a b ≤ a := by
  rw [zmin]
  by_cases h : b < a
  · rw [if_pos h]; omega
  · rw [if_neg h]; omega
theorem zmin_le2 (a b : Nat) : zmin a b ≤ b := by
  rw [zmin]
  by_cases h : b < a
  · rw [if_pos h]; omega
  · rw [if_neg h]; omega
theorem zmin_or (a b : Nat) : zmin a b = a ∨ zmin a b = b := by
  rw [zmin]
  by_cases h : b < a
  · rw [if_pos h]; exact Or.inr rfl
  · rw [if_neg h]; exact Or.inl rfl
theorem zmin_self {a b : Nat} (h : a ≤ b) : zmin a b = a := by rw [zmin, if_neg (by omega)]
theorem zminL_S {n : Nat} (h : 1 ≤ n) (f : Nat → Nat) (a : Nat) : zminL (n + 1) f a = zmin (zminL n f a) (f n) := by
  rw [zminL, zminL, List.range_succ, List.filter_append, List.foldl_append]
  rw [show List.filter (fun i => decide (1 ≤ i)) [n] = [n] from List.filter_cons_of_pos (decide_eq_true h)]
  rfl
theorem zminL_1 {n : Nat} (h : n ≤ 1) (f : Nat → Nat) (a : Nat) : zminL n f a = a := by
  rcases (show n = 0 ∨ n = 1 by omega) with e | e <;> subst e <;> rfl
theorem zminL_congr {n : Nat} {f g : Nat → Nat} {a : Nat} (h : ∀ i, 1 ≤ i → i < n → f i = g i) : zminL n f a = zminL n g a := by
  induction n with
  | zero => rfl
  | succ n ih =>
    by_cases h1 : 1 ≤ n
    · rw [zminL_S h1, zminL_S h1, ih (fun i a b => h i a (by omega)), h n h1 (by omega)]
    · rw [zminL_1 (by omega), zminL_1 (by omega)]
theorem zminL_le (n : Nat) (f : Nat → Nat) (a : Nat) : zminL n f a ≤ a := by
  induction n with
  | zero => exact Nat.le_refl _
  | succ n ih =>
    by_cases h1 : 1 ≤ n
    · rw [zminL_S h1]
      exact Nat.le_trans (zmin_le1 _ _) ih
    · rw [zminL_1 (by omega)]; omega
theorem zminL_at {n i : Nat} (f : Nat → Nat) (a : Nat) (h1 : 1 ≤ i) (h2 : i < n) : zminL n f a ≤ f i := by
  induction n with
  | zero => omega
  | succ n ih =>
    rw [zminL_S (by omega)]
    by_cases e : i = n
    · rw [e]; exact zmin_le2 _ _
    · exact Nat.le_trans (zmin_le1 _ _) (ih (by omega))
theorem zminL_or (n : Nat) (f : Nat → Nat) (a : Nat) : zminL n f a = a ∨ ∃ i, 1 ≤ i ∧ i < n ∧ zminL n f a = f i := by
  induction n with
  | zero => exact Or.inl rfl
  | succ n ih =>
    by_cases h1 : 1 ≤ n
    · rw [zminL_S h1]
      rcases zmin_or (zminL n f a) (f n) with e | e
      · rw [e]
        rcases ih with q | ⟨i, a1, a2, a3⟩
        · exact Or.inl q
        · exact Or.inr ⟨i, a1, by omega, a3⟩
      · exact Or.inr ⟨n, h1, by omega, e⟩
    · rw [zminL_1 (by omega)]; exact Or.inl rfl
/-- the fewest tokens of so many words from one on, so deep -/
def zT (it : Nat → Nat) (br f m : Nat) : Nat := ztok it m br f m
def zRp (it : Nat → Nat) (br f m beat : Nat) : Nat := if zagain it f m beat = true ∧ m / beat ≤ 20 then (if beat = 1 then 2 else if br = 0 then m else zT it (br - 1) f beat + 3) else m
def zSp (it : Nat → Nat) (br f m k : Nat) : Nat := zT it br f k + zT it br (f + k) (m - k)
theorem ztok_S (it : Nat → Nat) (F br f m : Nat) : ztok it (F + 1) br f m = zminL m (fun beat => if zagain it f m beat = true ∧ m / beat ≤ 20 then (if beat = 1 then 2 else if br = 0 then m else ztok it F (br - 1) f beat + 3) else m) (zminL m (fun k => ztok it F br f k + ztok it F br (f + k) (m - k)) m) := rfl
theorem ztok_F (it : Nat → Nat) : ∀ (F m br f : Nat), m ≤ F → ztok it F br f m = ztok it m br f m := by
  intro F
  induction F using Nat.strongRecOn with
  | _ F ih =>
    intro m br f hm
    cases m with
    | zero =>
      cases F with
      | zero => rfl
      | succ F => rw [ztok_S, zminL_1 (by omega), zminL_1 (by omega)]; rfl
    | succ m =>
      cases F with
      | zero => omega
      | succ F =>
        rw [ztok_S, ztok_S]
        have e1 : ∀ (k br f : Nat), k ≤ m → ztok it F br f k = ztok it m br f k := fun k br f hk => by
          rw [ih F (by omega) k br f (by omega)]
          by_cases q : m < F + 1
          · exact (ih m q k br f hk).symm
          · omega
        rw [zminL_congr (fun k k1 k2 => (by rw [e1 k br f (by omega), e1 (m + 1 - k) br (f + k) (by omega)] : ztok it F br f k + ztok it F br (f + k) (m + 1 - k) = ztok it m br f k + ztok it m br (f + k) (m + 1 - k)))]
        exact zminL_congr (fun k k1 k2 => by rw [e1 k (br - 1) f (by omega)])
theorem zT_rec (it : Nat → Nat) (br f m : Nat) : zT it br f m = zminL m (zRp it br f m) (zminL m (zSp it br f m) m) := by
  cases m with
  | zero => rfl
  | succ m =>
    rw [zT, ztok_S]
    have e1 : zminL (m + 1) (fun k => ztok it m br f k + ztok it m br (f + k) (m + 1 - k)) (m + 1) = zminL (m + 1) (zSp it br f (m + 1)) (m + 1) := zminL_congr (fun k k1 k2 => by
      show ztok it m br f k + ztok it m br (f + k) (m + 1 - k) = ztok it k br f k + ztok it (m + 1 - k) br (f + k) (m + 1 - k)
      rw [ztok_F it m k br f (by omega), ztok_F it m (m + 1 - k) br (f + k) (by omega)])
    rw [e1]
    refine zminL_congr (fun k k1 k2 => ?_)
    show (if zagain it f (m + 1) k = true ∧ (m + 1) / k ≤ 20 then (if k = 1 then 2 else if br = 0 then m + 1 else ztok it m (br - 1) f k + 3) else m + 1) = (if zagain it f (m + 1) k = true ∧ (m + 1) / k ≤ 20 then (if k = 1 then 2 else if br = 0 then m + 1 else ztok it k (br - 1) f k + 3) else m + 1)
    rw [ztok_F it m k (br - 1) f (by omega)]
theorem zT_le (it : Nat → Nat) (br f m : Nat) : zT it br f m ≤ m := by
  rw [zT_rec]
  exact Nat.le_trans (zminL_le _ _ _) (zminL_le _ _ _)
theorem zT_sp (it : Nat → Nat) {br f m k : Nat} (h1 : 1 ≤ k) (h2 : k < m) : zT it br f m ≤ zSp it br f m k := by
  rw [zT_rec]
  exact Nat.le_trans (zminL_le _ _ _) (zminL_at _ _ h1 h2)
theorem zT_rp (it : Nat → Nat) {br f m k : Nat} (h1 : 1 ≤ k) (h2 : k < m) : zT it br f m ≤ zRp it br f m k := by
  rw [zT_rec]
  exact zminL_at _ _ h1 h2
theorem zT_or (it : Nat → Nat) (br f m : Nat) : zT it br f m = m ∨ (∃ k, 1 ≤ k ∧ k < m ∧ zT it br f m = zSp it br f m k) ∨ (∃ k, 1 ≤ k ∧ k < m ∧ zT it br f m = zRp it br f m k) := by
  rcases zminL_or m (zRp it br f m) (zminL m (zSp it br f m) m) with e | ⟨k, k1, k2, e⟩
  · rcases zminL_or m (zSp it br f m) m with e2 | ⟨k, k1, k2, e2⟩
    · exact Or.inl (by rw [zT_rec, e, e2])
    · exact Or.inr (Or.inl ⟨k, k1, k2, by rw [zT_rec, e, e2]⟩)
  · exact Or.inr (Or.inr ⟨k, k1, k2, by rw [zT_rec, e]⟩)
theorem zT_1 (it : Nat → Nat) (br f : Nat) : zT it br f 1 = 1 := by rw [zT_rec, zminL_1 (by omega), zminL_1 (by omega)]
theorem zBrf_eq (B : zBk) (r : Nat) : zBrf B r = zT (bIt B r) 3 0 (bLn B r) := rfl
/-- the reference's table: where, and what -/
def ztri : Nat → Nat
  | 0 => 0
  | n + 1 => ztri n + n
theorem ztri_eq (n : Nat) : n * (n - 1) / 2 = ztri n := by
  have h : ∀ n, n * (n - 1) = 2 * ztri n := by
    intro n
    induction n with
    | zero => rfl
    | succ n ih =>
      rw [show ztri (n + 1) = ztri n + n from rfl, Nat.add_sub_cancel, Nat.mul_add, ← ih]
      cases n with
      | zero => rfl
      | succ n =>
        rw [Nat.add_sub_cancel, Nat.add_mul (n + 1) 1 (n + 1), Nat.one_mul, Nat.mul_add (n + 1) n 1, Nat.mul_one]
        omega
  rw [h]
  omega
theorem ztri_le {a b : Nat} (h : a < b) : ztri a + a ≤ ztri b := by
  induction b with
  | zero => omega
  | succ b ih =>
    rw [show ztri (b + 1) = ztri b + b from rfl]
    by_cases e : a = b
    · rw [e]; omega
    · have := ih (by omega); omega
def zat (f m : Nat) : Nat := ztri (f + m) + f
theorem zat_inj {f m f2 m2 : Nat} (h1 : 1 ≤ m) (h2 : 1 ≤ m2) (h : zat f m = zat f2 m2) : f = f2 ∧ m = m2 := by
  rw [zat, zat] at h
  by_cases a : f + m < f2 + m2
  · have := ztri_le a; omega
  · by_cases b : f2 + m2 < f + m
    · have := ztri_le b; omega
    · have e : f + m = f2 + m2 := by omega
      rw [e] at h
      omega
theorem zat_lt {f m : Nat} (h1 : 1 ≤ m) (h : f + m ≤ 60) : zat f m < 1891 := by
  have : ztri (f + m) ≤ 1830 := by
    by_cases e : f + m = 61
    · omega
    · have h2 := ztri_le (show f + m < 61 by omega)
      have h3 : ztri 61 = 1830 := by decide
      omega
  rw [zat]; omega
theorem q12_partAt {f m : Nat} {w : zW} {k : Int32 → zW → Prop} (h1 : 1 ≤ m) (h : f + m ≤ 60) (hk : k (Int32.ofNat (zat f m)) w) : fX12_partAt (Int32.ofNat f) (Int32.ofNat m) w k := by
  rw [fX12_partAt]
  intro v1 e
  rw [zi_add] at e
  subst e
  have hb : (f + m) * (f + m - 1) ≤ 60 * 60 := Nat.mul_le_mul h (by omega)
  rw [zl1, zi_sub (by omega), zi_mul, zl2, zi_div (by omega) (by omega), zi_add, ztri_eq]
  exact hk
/-- the tokens for the depths below one, packed -/
def zPk (it : Nat → Nat) (br f m : Nat) : Nat := zsum br (fun j => zT it j f m * 64 ^ j)
theorem zPk_0 (it : Nat → Nat) (f m : Nat) : zPk it 0 f m = 0 := rfl
theorem zPk_S (it : Nat → Nat) (br f m : Nat) : zPk it (br + 1) f m = zPk it br f m + zT it br f m * 64 ^ br := rfl
theorem zPk_lt (it : Nat → Nat) (br f m : Nat) (h : m ≤ 60) : zPk it br f m < 64 ^ br := by
  induction br with
  | zero => rw [zPk_0]; omega
  | succ br ih =>
    have h2 := zT_le it br f m
    have h3 : zT it br f m * 64 ^ br ≤ 60 * 64 ^ br := Nat.mul_le_mul_right _ (by omega)
    rw [zPk_S, Nat.pow_succ]
    omega
theorem zPk_get (it : Nat → Nat) {br f m : Nat} (h : m ≤ 60) (hb : br < 4) : zPk it 4 f m / 2 ^ (6 * br) % 64 = zT it br f m := by
  have h0 := zT_le it 0 f m
  have h1 := zT_le it 1 f m
  have h2 := zT_le it 2 f m
  have h3 := zT_le it 3 f m
  have e : zPk it 4 f m = zT it 0 f m + zT it 1 f m * 64 + zT it 2 f m * 4096 + zT it 3 f m * 262144 := by
    rw [zPk_S, zPk_S, zPk_S, zPk_S, zPk_0]
    simp only [show (64 : Nat) ^ 0 = 1 from rfl, show (64 : Nat) ^ 1 = 64 from rfl, show (64 : Nat) ^ 2 = 4096 from rfl, show (64 : Nat) ^ 3 = 262144 from rfl]
    omega
  rw [e]
  rcases (show br = 0 ∨ br = 1 ∨ br = 2 ∨ br = 3 by omega) with q | q | q | q <;> subst q
  · rw [show 2 ^ (6 * 0) = 1 from rfl]; omega
  · rw [show 2 ^ (6 * 1) = 64 from rfl]; omega
  · rw [show 2 ^ (6 * 2) = 4096 from rfl]; omega
  · rw [show 2 ^ (6 * 3) = 262144 from rfl]; omega
theorem zi_a63 (n : Nat) : Int32.ofNat n &&& (63 : Int32) = Int32.ofNat (n % 64) := by
  rw [show (63 : Int32) = Int32.ofNat 63 from rfl, zi_and]
  exact congrArg Int32.ofNat (Nat.and_two_pow_sub_one_eq_mod n 6)
theorem zi_shl6F : ∀ t : Fin 64, ∀ b : Fin 4, Int32.ofNat t.val <<< (Int32.ofNat (6 * b.val) &&& 31) = Int32.ofNat (t.val * 64 ^ b.val) := by decide +kernel
theorem zi_shl6 {t b : Nat} (ht : t < 64) (hb : b < 4) : Int32.ofNat t <<< (Int32.ofNat (6 * b) &&& 31) = Int32.ofNat (t * 64 ^ b) := zi_shl6F ⟨t, ht⟩ ⟨b, hb⟩
theorem zi_or6 {a t b : Nat} (h : a < 64 ^ b) : a ||| t * 64 ^ b = a + t * 64 ^ b := by
  have e : 64 ^ b = 2 ^ (6 * b) := by rw [Nat.pow_mul]
  rw [e] at h ⊢
  have q := Nat.two_pow_add_eq_or_of_lt h t
  rw [Nat.or_comm, Nat.mul_comm t, ← q, Nat.add_comm]
/-- the table is right where it is done -/
def ztbl (it : Nat → Nat) (n m f : Nat) (v : zW) : Prop := ∀ m2 f2, 1 ≤ m2 → f2 + m2 ≤ n → (m2 < m ∨ (m2 = m ∧ f2 < f)) → gI v 241 (zat f2 m2) = Int32.ofNat (zPk it 4 f2 m2)
theorem q12_tokensOf {it : Nat → Nat} {n m f m2 f2 br : Nat} {w : zW} {k : Int32 → zW → Prop} (hn : n ≤ 60) (ht : ztbl it n m f w) (h1 : 1 ≤ m2) (h2 : f2 + m2 ≤ n) (h3 : m2 < m ∨ (m2 = m ∧ f2 < f)) (hb : br < 4) (hk : k (Int32.ofNat (zT it br f2 m2)) w) : fX12_tokensOf (Int32.ofNat f2) (Int32.ofNat m2) (Int32.ofNat br) w k := by
  have hl := zat_lt h1 (show f2 + m2 ≤ 60 by omega)
  rw [fX12_tokensOf]
  refine q12_partAt h1 (by omega) ⟨zi_in hl (by omega), ?_⟩
  have hp := zPk_lt it 4 f2 m2 (by omega)
  rw [zi_nat (show zat f2 m2 < 2 ^ 31 by omega), ht m2 f2 h1 h2 h3, zl6, zi_mul, zi_shr (by omega) (by omega), zi_a63, zPk_get it (by omega) hb]
  exact hk

/-! Level 2: tallies read, on both sides -/
def znz (T : Nat → Nat) (n : Nat) : Bool := decide (¬ T n = 0)
theorem znz_t {T : Nat → Nat} {n : Nat} (h : ¬ T n = 0) : znz T n = true := decide_eq_true h
theorem znz_f {T : Nat → Nat} {n : Nat} (h : T n = 0) : znz T n = false := decide_eq_false (fun q => q h)
/-- the last number below n of which there are some -/
def zhi (T : Nat → Nat) : Nat → Int32
  | 0 => zN1
  | n + 1 => if T n = 0 then zhi T n else Int32.ofNat n
theorem zhi_S (T : Nat → Nat) (n : Nat) : zhi T (n + 1) = if T n = 0 then zhi T n else Int32.ofNat n := rfl
/-- the greatest below n -/
def zmx (T : Nat → Nat) : Nat → Nat
  | 0 => 0
  | n + 1 => if zmx T n < T n then T n else zmx T n
theorem zmx_S (T : Nat → Nat) (n : Nat) : zmx T (n + 1) = if zmx T n < T n then T n else zmx T n := rfl
theorem zmx_le {T : Nat → Nat} {M : Nat} (h : ∀ n, T n ≤ M) (n : Nat) : zmx T n ≤ M := by
  induction n with
  | zero => exact Nat.zero_le _
  | succ n ih =>
    have := h n
    rw [zmx_S]
    by_cases q : zmx T n < T n
    · rw [if_pos q]; exact this
    · rw [if_neg q]; exact ih
theorem zmx_ext {T : Nat → Nat} {m n : Nat} (hmn : m ≤ n) (h : ∀ i, m ≤ i → T i = 0) : zmx T n = zmx T m := by
  induction n with
  | zero => rw [show m = 0 by omega]
  | succ n ih =>
    by_cases e : m = n + 1
    · rw [e]
    · rw [zmx_S, h n (by omega), if_neg (Nat.not_lt_zero _), ih (by omega)]
theorem q9_of {T : Nat → Nat} {n : Nat} {w : zW} {k : Int32 → zW → Prop} (ht : ∀ n, n < 121 → gI w 30 n = Int32.ofNat (T n)) (hn : n < 121) (hk : k (Int32.ofNat (T n)) w) : fX9_of (Int32.ofNat n) w k := by
  simp (disch := omega) only [fX9_of, ht n hn, ↓zln1, ↓zln2, zl0, zl1, zl2, zl3, zl4, zl5, zl6, zl7, zl8, zl9, zl10, zl12, zl15, zl16, zl20, zl24, zl30, zl32, zl36, zl40, zl48, zl57, zl59, zl60, zl61, zl97, zl99, zl120, zl121, zl122, zl126, zl165, zl255, zl480, zl968, zl1000, zl1100, zi_add, zi_mul, zi_sub, zi_div, zi_mod, zi_nat, zt_le, zf_le, zt_lt, zf_lt, zt_eq, zf_eq, zt_vp, zt_N1lt, zf_N1lt, zf_N1eq, zf_eqN1, zt_N1eq, zt_N1le, zf_leN1, zi_nN1, zi_a1, zi_a15, zi_a255, zi_shr, zi_bit, zt_b0, zt_b1, forall_eq, if_true, if_false, true_implies, false_implies, not_true_eq_false, not_false_eq_true, and_true, true_and, gI_sI_eq, gI_sI_ne, gI_sI_ne2, gL_sI, gR_sI, gI_sL, gL_sL_eq, gL_sL_ne, gL_sL_ne2, gR_sL, gI_sR, gL_sR, gR_sR_eq, gR_sR_ne, gR_sR_ne2, gI_aI_eq, gI_aI_ne, gL_aI, gR_aI]
  exact hk
theorem q9_lowest {T : Nat → Nat} {w : zW} {k : Int32 → zW → Prop} (ht : ∀ n, n < 121 → gI w 30 n = Int32.ofNat (T n)) (hT : ∀ n, T n ≤ 6561) (hk : k (zfind 121 (znz T)) w) : fX9_lowest w k := by
  refine zinv (fun n (s : Int32) => fX9_lowest_L2 k n s w) (fun i s => s = Int32.ofNat i ∧ ∀ j, j < i → znz T j = false) 121 ⟨rfl, fun j hj => absurd hj (Nat.not_lt_zero j)⟩ ?_ ?_
  · rintro n s ⟨rfl, hj⟩
    rw [zfind_none hj] at hk
    simp (disch := omega) only [fX9_lowest_L2, ↓zln1, ↓zln2, zl0, zl1, zl2, zl3, zl4, zl5, zl6, zl7, zl8, zl9, zl10, zl12, zl15, zl16, zl20, zl24, zl30, zl32, zl36, zl40, zl48, zl57, zl59, zl60, zl61, zl97, zl99, zl120, zl121, zl122, zl126, zl165, zl255, zl480, zl968, zl1000, zl1100, zi_add, zi_mul, zi_sub, zi_div, zi_mod, zi_nat, zt_le, zf_le, zt_lt, zf_lt, zt_eq, zf_eq, zt_vp, zt_N1lt, zf_N1lt, zf_N1eq, zf_eqN1, zt_N1eq, zt_N1le, zf_leN1, zi_nN1, zi_a1, zi_a15, zi_a255, zi_shr, zi_bit, zt_b0, zt_b1, forall_eq, if_true, if_false, true_implies, false_implies, not_true_eq_false, not_false_eq_true, and_true, true_and, gI_sI_eq, gI_sI_ne, gI_sI_ne2, gL_sI, gR_sI, gI_sL, gL_sL_eq, gL_sL_ne, gL_sL_ne2, gR_sL, gI_sR, gL_sR, gR_sR_eq, gR_sR_ne, gR_sR_ne2, gI_aI_eq, gI_aI_ne, gL_aI, gR_aI]
    exact hk
  · rintro i n s hi ⟨rfl, hj⟩ hc
    have hTi := hT i
    by_cases q : T i = 0
    · simp (disch := omega) only [fX9_lowest_L2, ht i hi, ↓zln1, ↓zln2, zl0, zl1, zl2, zl3, zl4, zl5, zl6, zl7, zl8, zl9, zl10, zl12, zl15, zl16, zl20, zl24, zl30, zl32, zl36, zl40, zl48, zl57, zl59, zl60, zl61, zl97, zl99, zl120, zl121, zl122, zl126, zl165, zl255, zl480, zl968, zl1000, zl1100, zi_add, zi_mul, zi_sub, zi_div, zi_mod, zi_nat, zt_le, zf_le, zt_lt, zf_lt, zt_eq, zf_eq, zt_vp, zt_N1lt, zf_N1lt, zf_N1eq, zf_eqN1, zt_N1eq, zt_N1le, zf_leN1, zi_nN1, zi_a1, zi_a15, zi_a255, zi_shr, zi_bit, zt_b0, zt_b1, forall_eq, if_true, if_false, true_implies, false_implies, not_true_eq_false, not_false_eq_true, and_true, true_and, gI_sI_eq, gI_sI_ne, gI_sI_ne2, gL_sI, gR_sI, gI_sL, gL_sL_eq, gL_sL_ne, gL_sL_ne2, gR_sL, gI_sR, gL_sR, gR_sR_eq, gR_sR_ne, gR_sR_ne2, gI_aI_eq, gI_aI_ne, gL_aI, gR_aI]
      refine hc _ ⟨rfl, fun j z => ?_⟩
      by_cases y : j = i
      · rw [y]; exact znz_f q
      · exact hj j (by omega)
    · rw [zfind_some hi (znz_t q) hj] at hk
      simp (disch := omega) only [fX9_lowest_L2, ht i hi, ↓zln1, ↓zln2, zl0, zl1, zl2, zl3, zl4, zl5, zl6, zl7, zl8, zl9, zl10, zl12, zl15, zl16, zl20, zl24, zl30, zl32, zl36, zl40, zl48, zl57, zl59, zl60, zl61, zl97, zl99, zl120, zl121, zl122, zl126, zl165, zl255, zl480, zl968, zl1000, zl1100, zi_add, zi_mul, zi_sub, zi_div, zi_mod, zi_nat, zt_le, zf_le, zt_lt, zf_lt, zt_eq, zf_eq, zt_vp, zt_N1lt, zf_N1lt, zf_N1eq, zf_eqN1, zt_N1eq, zt_N1le, zf_leN1, zi_nN1, zi_a1, zi_a15, zi_a255, zi_shr, zi_bit, zt_b0, zt_b1, forall_eq, if_true, if_false, true_implies, false_implies, not_true_eq_false, not_false_eq_true, and_true, true_and, gI_sI_eq, gI_sI_ne, gI_sI_ne2, gL_sI, gR_sI, gI_sL, gL_sL_eq, gL_sL_ne, gL_sL_ne2, gR_sL, gI_sR, gL_sR, gR_sR_eq, gR_sR_ne, gR_sR_ne2, gI_aI_eq, gI_aI_ne, gL_aI, gR_aI]
      exact hk
theorem q9_highest {T : Nat → Nat} {w : zW} {k : Int32 → zW → Prop} (ht : ∀ n, n < 121 → gI w 30 n = Int32.ofNat (T n)) (hT : ∀ n, T n ≤ 6561) (hk : k (zhi T 121) w) : fX9_highest w k := by
  rw [fX9_highest]
  intro v1 e1
  rw [zl121, zl1, zi_sub (by omega)] at e1
  have hgo : ∀ (c n : Nat), c ≤ 121 → c < n → zhi T c = zhi T 121 → fX9_highest_L8 k n (if c = 0 then zN1 else Int32.ofNat (c - 1)) w := by
    intro c
    induction c with
    | zero =>
      intro n hc hn hz
      obtain ⟨n, rfl⟩ : ∃ m, n = m + 1 := ⟨n - 1, by omega⟩
      rw [if_pos rfl, fX9_highest_L8]
      refine ⟨fun _ => ?_, fun q => absurd zN1_lt q⟩
      rw [← hz] at hk
      exact hk
    | succ c ih =>
      intro n hc hn hz
      obtain ⟨n, rfl⟩ : ∃ m, n = m + 1 := ⟨n - 1, by omega⟩
      have hTi := hT c
      rw [if_neg (by omega), Nat.add_sub_cancel]
      rw [zhi_S] at hz
      by_cases q : T c = 0
      · rw [if_pos q] at hz
        simp (disch := omega) only [fX9_highest_L8, ht c (by omega), ↓zln1, ↓zln2, zl0, zl1, zl2, zl3, zl4, zl5, zl6, zl7, zl8, zl9, zl10, zl12, zl15, zl16, zl20, zl24, zl30, zl32, zl36, zl40, zl48, zl57, zl59, zl60, zl61, zl97, zl99, zl120, zl121, zl122, zl126, zl165, zl255, zl480, zl968, zl1000, zl1100, zi_add, zi_mul, zi_sub, zi_div, zi_mod, zi_nat, zt_le, zf_le, zt_lt, zf_lt, zt_eq, zf_eq, zt_vp, zt_N1lt, zf_N1lt, zf_N1eq, zf_eqN1, zt_N1eq, zt_N1le, zf_leN1, zi_nN1, zi_a1, zi_a15, zi_a255, zi_shr, zi_bit, zt_b0, zt_b1, forall_eq, if_true, if_false, true_implies, false_implies, not_true_eq_false, not_false_eq_true, and_true, true_and, gI_sI_eq, gI_sI_ne, gI_sI_ne2, gL_sI, gR_sI, gI_sL, gL_sL_eq, gL_sL_ne, gL_sL_ne2, gR_sL, gI_sR, gL_sR, gR_sR_eq, gR_sR_ne, gR_sR_ne2, gI_aI_eq, gI_aI_ne, gL_aI, gR_aI]
        have e : Int32.ofNat c + zN1 = (if c = 0 then zN1 else Int32.ofNat (c - 1)) := by
          by_cases z : c = 0
          · rw [if_pos z, z]; rfl
          · rw [if_neg z]
            have e : Int32.ofNat c = Int32.ofNat (c - 1) + 1 := by rw [zi_succ]; exact congrArg _ (by omega)
            rw [e, Int32.add_assoc, show (1 : Int32) + zN1 = 0 from rfl, Int32.add_zero]
        rw [e]
        exact ih n (by omega) (by omega) hz
      · rw [if_neg q] at hz
        rw [← hz] at hk
        simp (disch := omega) only [fX9_highest_L8, ht c (by omega), ↓zln1, ↓zln2, zl0, zl1, zl2, zl3, zl4, zl5, zl6, zl7, zl8, zl9, zl10, zl12, zl15, zl16, zl20, zl24, zl30, zl32, zl36, zl40, zl48, zl57, zl59, zl60, zl61, zl97, zl99, zl120, zl121, zl122, zl126, zl165, zl255, zl480, zl968, zl1000, zl1100, zi_add, zi_mul, zi_sub, zi_div, zi_mod, zi_nat, zt_le, zf_le, zt_lt, zf_lt, zt_eq, zf_eq, zt_vp, zt_N1lt, zf_N1lt, zf_N1eq, zf_eqN1, zt_N1eq, zt_N1le, zf_leN1, zi_nN1, zi_a1, zi_a15, zi_a255, zi_shr, zi_bit, zt_b0, zt_b1, forall_eq, if_true, if_false, true_implies, false_implies, not_true_eq_false, not_false_eq_true, and_true, true_and, gI_sI_eq, gI_sI_ne, gI_sI_ne2, gL_sI, gR_sI, gI_sL, gL_sL_eq, gL_sL_ne, gL_sL_ne2, gR_sL, gI_sR, gL_sR, gR_sR_eq, gR_sR_ne, gR_sR_ne2, gI_aI_eq, gI_aI_ne, gL_aI, gR_aI]
        exact hk
  rw [e1]
  exact ⟨122, hgo 121 122 (by omega) (by omega) rfl⟩
theorem q9_differing {T : Nat → Nat} {w : zW} {k : Int32 → zW → Prop} (ht : ∀ n, n < 121 → gI w 30 n = Int32.ofNat (T n)) (hT : ∀ n, T n ≤ 6561) (hk : k (Int32.ofNat (zcnt 121 (znz T))) w) : fX9_differing w k := by
  refine zrun (fun n (s : Int32 × Int32) => fX9_differing_L4 k n s.1 s.2 w) (fun i => (Int32.ofNat (zcnt i (znz T)), Int32.ofNat i)) 121 (fun n => ?_) (fun i n hi hc => ?_)
  · simp (disch := omega) only [fX9_differing_L4, ↓zln1, ↓zln2, zl0, zl1, zl2, zl3, zl4, zl5, zl6, zl7, zl8, zl9, zl10, zl12, zl15, zl16, zl20, zl24, zl30, zl32, zl36, zl40, zl48, zl57, zl59, zl60, zl61, zl97, zl99, zl120, zl121, zl122, zl126, zl165, zl255, zl480, zl968, zl1000, zl1100, zi_add, zi_mul, zi_sub, zi_div, zi_mod, zi_nat, zt_le, zf_le, zt_lt, zf_lt, zt_eq, zf_eq, zt_vp, zt_N1lt, zf_N1lt, zf_N1eq, zf_eqN1, zt_N1eq, zt_N1le, zf_leN1, zi_nN1, zi_a1, zi_a15, zi_a255, zi_shr, zi_bit, zt_b0, zt_b1, forall_eq, if_true, if_false, true_implies, false_implies, not_true_eq_false, not_false_eq_true, and_true, true_and, gI_sI_eq, gI_sI_ne, gI_sI_ne2, gL_sI, gR_sI, gI_sL, gL_sL_eq, gL_sL_ne, gL_sL_ne2, gR_sL, gI_sR, gL_sR, gR_sR_eq, gR_sR_ne, gR_sR_ne2, gI_aI_eq, gI_aI_ne, gL_aI, gR_aI]
    exact hk
  · have hTi := hT i
    by_cases q : T i = 0
    · simp (disch := omega) only [fX9_differing_L4, fX9_differing_J28, ht i hi, ↓zln1, ↓zln2, zl0, zl1, zl2, zl3, zl4, zl5, zl6, zl7, zl8, zl9, zl10, zl12, zl15, zl16, zl20, zl24, zl30, zl32, zl36, zl40, zl48, zl57, zl59, zl60, zl61, zl97, zl99, zl120, zl121, zl122, zl126, zl165, zl255, zl480, zl968, zl1000, zl1100, zi_add, zi_mul, zi_sub, zi_div, zi_mod, zi_nat, zt_le, zf_le, zt_lt, zf_lt, zt_eq, zf_eq, zt_vp, zt_N1lt, zf_N1lt, zf_N1eq, zf_eqN1, zt_N1eq, zt_N1le, zf_leN1, zi_nN1, zi_a1, zi_a15, zi_a255, zi_shr, zi_bit, zt_b0, zt_b1, forall_eq, if_true, if_false, true_implies, false_implies, not_true_eq_false, not_false_eq_true, and_true, true_and, gI_sI_eq, gI_sI_ne, gI_sI_ne2, gL_sI, gR_sI, gI_sL, gL_sL_eq, gL_sL_ne, gL_sL_ne2, gR_sL, gI_sR, gL_sR, gR_sR_eq, gR_sR_ne, gR_sR_ne2, gI_aI_eq, gI_aI_ne, gL_aI, gR_aI]
      rw [Nat.add_zero, ← zcnt_f (znz_f q)]
      exact hc
    · simp (disch := omega) only [fX9_differing_L4, fX9_differing_J28, ht i hi, ↓zln1, ↓zln2, zl0, zl1, zl2, zl3, zl4, zl5, zl6, zl7, zl8, zl9, zl10, zl12, zl15, zl16, zl20, zl24, zl30, zl32, zl36, zl40, zl48, zl57, zl59, zl60, zl61, zl97, zl99, zl120, zl121, zl122, zl126, zl165, zl255, zl480, zl968, zl1000, zl1100, zi_add, zi_mul, zi_sub, zi_div, zi_mod, zi_nat, zt_le, zf_le, zt_lt, zf_lt, zt_eq, zf_eq, zt_vp, zt_N1lt, zf_N1lt, zf_N1eq, zf_eqN1, zt_N1eq, zt_N1le, zf_leN1, zi_nN1, zi_a1, zi_a15, zi_a255, zi_shr, zi_bit, zt_b0, zt_b1, forall_eq, if_true, if_false, true_implies, false_implies, not_true_eq_false, not_false_eq_true, and_true, true_and, gI_sI_eq, gI_sI_ne, gI_sI_ne2, gL_sI, gR_sI, gI_sL, gL_sL_eq, gL_sL_ne, gL_sL_ne2, gR_sL, gI_sR, gL_sR, gR_sR_eq, gR_sR_ne, gR_sR_ne2, gI_aI_eq, gI_aI_ne, gL_aI, gR_aI]
      rw [← zcnt_t (znz_t q)]
      exact hc
theorem q9_greatest {T : Nat → Nat} {w : zW} {k : Int32 → zW → Prop} (ht : ∀ n, n < 121 → gI w 30 n = Int32.ofNat (T n)) (hT : ∀ n, T n ≤ 6561) (hk : k (Int32.ofNat (zmx T 121)) w) : fX9_greatest w k := by
  refine zrun (fun n (s : Int32 × Int32) => fX9_greatest_L4 k n s.1 s.2 w) (fun i => (Int32.ofNat (zmx T i), Int32.ofNat i)) 121 (fun n => ?_) (fun i n hi hc => ?_)
  · simp (disch := omega) only [fX9_greatest_L4, ↓zln1, ↓zln2, zl0, zl1, zl2, zl3, zl4, zl5, zl6, zl7, zl8, zl9, zl10, zl12, zl15, zl16, zl20, zl24, zl30, zl32, zl36, zl40, zl48, zl57, zl59, zl60, zl61, zl97, zl99, zl120, zl121, zl122, zl126, zl165, zl255, zl480, zl968, zl1000, zl1100, zi_add, zi_mul, zi_sub, zi_div, zi_mod, zi_nat, zt_le, zf_le, zt_lt, zf_lt, zt_eq, zf_eq, zt_vp, zt_N1lt, zf_N1lt, zf_N1eq, zf_eqN1, zt_N1eq, zt_N1le, zf_leN1, zi_nN1, zi_a1, zi_a15, zi_a255, zi_shr, zi_bit, zt_b0, zt_b1, forall_eq, if_true, if_false, true_implies, false_implies, not_true_eq_false, not_false_eq_true, and_true, true_and, gI_sI_eq, gI_sI_ne, gI_sI_ne2, gL_sI, gR_sI, gI_sL, gL_sL_eq, gL_sL_ne, gL_sL_ne2, gR_sL, gI_sR, gL_sR, gR_sR_eq, gR_sR_ne, gR_sR_ne2, gI_aI_eq, gI_aI_ne, gL_aI, gR_aI]
    exact hk
  · have hTi := hT i
    have hm := zmx_le hT i
    have e : zmx T (i + 1) = if zmx T i < T i then T i else zmx T i := rfl
    by_cases q : zmx T i < T i
    · rw [if_pos q] at e
      simp (disch := omega) only [fX9_greatest_L4, ht i hi, ↓zln1, ↓zln2, zl0, zl1, zl2, zl3, zl4, zl5, zl6, zl7, zl8, zl9, zl10, zl12, zl15, zl16, zl20, zl24, zl30, zl32, zl36, zl40, zl48, zl57, zl59, zl60, zl61, zl97, zl99, zl120, zl121, zl122, zl126, zl165, zl255, zl480, zl968, zl1000, zl1100, zi_add, zi_mul, zi_sub, zi_div, zi_mod, zi_nat, zt_le, zf_le, zt_lt, zf_lt, zt_eq, zf_eq, zt_vp, zt_N1lt, zf_N1lt, zf_N1eq, zf_eqN1, zt_N1eq, zt_N1le, zf_leN1, zi_nN1, zi_a1, zi_a15, zi_a255, zi_shr, zi_bit, zt_b0, zt_b1, forall_eq, if_true, if_false, true_implies, false_implies, not_true_eq_false, not_false_eq_true, and_true, true_and, gI_sI_eq, gI_sI_ne, gI_sI_ne2, gL_sI, gR_sI, gI_sL, gL_sL_eq, gL_sL_ne, gL_sL_ne2, gR_sL, gI_sR, gL_sR, gR_sR_eq, gR_sR_ne, gR_sR_ne2, gI_aI_eq, gI_aI_ne, gL_aI, gR_aI]
      rw [← e]
      exact hc
    · rw [if_neg q] at e
      simp (disch := omega) only [fX9_greatest_L4, ht i hi, ↓zln1, ↓zln2, zl0, zl1, zl2, zl3, zl4, zl5, zl6, zl7, zl8, zl9, zl10, zl12, zl15, zl16, zl20, zl24, zl30, zl32, zl36, zl40, zl48, zl57, zl59, zl60, zl61, zl97, zl99, zl120, zl121, zl122, zl126, zl165, zl255, zl480, zl968, zl1000, zl1100, zi_add, zi_mul, zi_sub, zi_div, zi_mod, zi_nat, zt_le, zf_le, zt_lt, zf_lt, zt_eq, zf_eq, zt_vp, zt_N1lt, zf_N1lt, zf_N1eq, zf_eqN1, zt_N1eq, zt_N1le, zf_leN1, zi_nN1, zi_a1, zi_a15, zi_a255, zi_shr, zi_bit, zt_b0, zt_b1, forall_eq, if_true, if_false, true_implies, false_implies, not_true_eq_false, not_false_eq_true, and_true, true_and, gI_sI_eq, gI_sI_ne, gI_sI_ne2, gL_sI, gR_sI, gI_sL, gL_sL_eq, gL_sL_ne, gL_sL_ne2, gR_sL, gI_sR, gL_sR, gR_sR_eq, gR_sR_ne, gR_sR_ne2, gI_aI_eq, gI_aI_ne, gL_aI, gR_aI]
      rw [← e]
      exact hc
theorem q9_bits {T : Nat → Nat} {w : zW} {k : Int32 → zW → Prop} (ht : ∀ n, n < 121 → gI w 30 n = Int32.ofNat (T n)) (hT : ∀ n, T n ≤ 6561) (hk : k (Int32.ofNat (zbits 9 (znz T))) w) : fX9_bits w k := by
  refine zrun (fun n (s : Int32 × Int32) => fX9_bits_L4 k n s.1 s.2 w) (fun i => (Int32.ofNat (zbits i (znz T)), Int32.ofNat i)) 9 (fun n => ?_) (fun i n hi hc => ?_)
  · simp (disch := omega) only [fX9_bits_L4, ↓zln1, ↓zln2, zl0, zl1, zl2, zl3, zl4, zl5, zl6, zl7, zl8, zl9, zl10, zl12, zl15, zl16, zl20, zl24, zl30, zl32, zl36, zl40, zl48, zl57, zl59, zl60, zl61, zl97, zl99, zl120, zl121, zl122, zl126, zl165, zl255, zl480, zl968, zl1000, zl1100, zi_add, zi_mul, zi_sub, zi_div, zi_mod, zi_nat, zt_le, zf_le, zt_lt, zf_lt, zt_eq, zf_eq, zt_vp, zt_N1lt, zf_N1lt, zf_N1eq, zf_eqN1, zt_N1eq, zt_N1le, zf_leN1, zi_nN1, zi_a1, zi_a15, zi_a255, zi_shr, zi_bit, zt_b0, zt_b1, forall_eq, if_true, if_false, true_implies, false_implies, not_true_eq_false, not_false_eq_true, and_true, true_and, gI_sI_eq, gI_sI_ne, gI_sI_ne2, gL_sI, gR_sI, gI_sL, gL_sL_eq, gL_sL_ne, gL_sL_ne2, gR_sL, gI_sR, gL_sR, gR_sR_eq, gR_sR_ne, gR_sR_ne2, gI_aI_eq, gI_aI_ne, gL_aI, gR_aI]
    exact hk
  · have hTi := hT i
    by_cases q : T i = 0
    · simp (disch := omega) only [fX9_bits_L4, fX9_bits_J27, ht i (by omega), ↓zln1, ↓zln2, zl0, zl1, zl2, zl3, zl4, zl5, zl6, zl7, zl8, zl9, zl10, zl12, zl15, zl16, zl20, zl24, zl30, zl32, zl36, zl40, zl48, zl57, zl59, zl60, zl61, zl97, zl99, zl120, zl121, zl122, zl126, zl165, zl255, zl480, zl968, zl1000, zl1100, zi_add, zi_mul, zi_sub, zi_div, zi_mod, zi_nat, zt_le, zf_le, zt_lt, zf_lt, zt_eq, zf_eq, zt_vp, zt_N1lt, zf_N1lt, zf_N1eq, zf_eqN1, zt_N1eq, zt_N1le, zf_leN1, zi_nN1, zi_a1, zi_a15, zi_a255, zi_shr, zi_bit, zt_b0, zt_b1, forall_eq, if_true, if_false, true_implies, false_implies, not_true_eq_false, not_false_eq_true, and_true, true_and, gI_sI_eq, gI_sI_ne, gI_sI_ne2, gL_sI, gR_sI, gI_sL, gL_sL_eq, gL_sL_ne, gL_sL_ne2, gR_sL, gI_sR, gL_sR, gR_sR_eq, gR_sR_ne, gR_sR_ne2, gI_aI_eq, gI_aI_ne, gL_aI, gR_aI]
      rw [zbits_f (znz_f q)]
      exact hc
    · simp (disch := omega) only [fX9_bits_L4, fX9_bits_J27, ht i (by omega), ↓zln1, ↓zln2, zl0, zl1, zl2, zl3, zl4, zl5, zl6, zl7, zl8, zl9, zl10, zl12, zl15, zl16, zl20, zl24, zl30, zl32, zl36, zl40, zl48, zl57, zl59, zl60, zl61, zl97, zl99, zl120, zl121, zl122, zl126, zl165, zl255, zl480, zl968, zl1000, zl1100, zi_add, zi_mul, zi_sub, zi_div, zi_mod, zi_nat, zt_le, zf_le, zt_lt, zf_lt, zt_eq, zf_eq, zt_vp, zt_N1lt, zf_N1lt, zf_N1eq, zf_eqN1, zt_N1eq, zt_N1le, zf_leN1, zi_nN1, zi_a1, zi_a15, zi_a255, zi_shr, zi_bit, zt_b0, zt_b1, forall_eq, if_true, if_false, true_implies, false_implies, not_true_eq_false, not_false_eq_true, and_true, true_and, gI_sI_eq, gI_sI_ne, gI_sI_ne2, gL_sI, gR_sI, gI_sL, gL_sL_eq, gL_sL_ne, gL_sL_ne2, gR_sL, gI_sR, gL_sR, gR_sR_eq, gR_sR_ne, gR_sR_ne2, gI_aI_eq, gI_aI_ne, gL_aI, gR_aI]
      rw [zbits_t (by omega) (znz_t q)]
      exact hc
/-- from a number on -/
def zfrom (T : Nat → Nat) (a n : Nat) : Nat := zsum n (fun i => T (a + i))
theorem q9_from {T : Nat → Nat} {a : Nat} {w : zW} {k : Int32 → zW → Prop} (ht : ∀ n, n < 121 → gI w 30 n = Int32.ofNat (T n)) (ha : a ≤ 99) (hk : k (Int32.ofNat (zfrom T a (121 - a))) w) : fX9_from (Int32.ofNat a) w k := by
  rw [fX9_from]
  intro v1 e1
  have e : v1 = Int32.ofNat a := e1.trans (if_neg (zi_0le (by omega)))
  subst e
  refine zrun (fun n (s : Int32 × Int32) => fX9_from_L8 k n s.1 s.2 w) (fun i => (Int32.ofNat (zfrom T a i), Int32.ofNat (a + i))) (121 - a) (fun n => ?_) (fun i n hi hc => ?_)
  · simp (disch := omega) only [fX9_from_L8, ↓zln1, ↓zln2, zl0, zl1, zl2, zl3, zl4, zl5, zl6, zl7, zl8, zl9, zl10, zl12, zl15, zl16, zl20, zl24, zl30, zl32, zl36, zl40, zl48, zl57, zl59, zl60, zl61, zl97, zl99, zl120, zl121, zl122, zl126, zl165, zl255, zl480, zl968, zl1000, zl1100, zi_add, zi_mul, zi_sub, zi_div, zi_mod, zi_nat, zt_le, zf_le, zt_lt, zf_lt, zt_eq, zf_eq, zt_vp, zt_N1lt, zf_N1lt, zf_N1eq, zf_eqN1, zt_N1eq, zt_N1le, zf_leN1, zi_nN1, zi_a1, zi_a15, zi_a255, zi_shr, zi_bit, zt_b0, zt_b1, forall_eq, if_true, if_false, true_implies, false_implies, not_true_eq_false, not_false_eq_true, and_true, true_and, gI_sI_eq, gI_sI_ne, gI_sI_ne2, gL_sI, gR_sI, gI_sL, gL_sL_eq, gL_sL_ne, gL_sL_ne2, gR_sL, gI_sR, gL_sR, gR_sR_eq, gR_sR_ne, gR_sR_ne2, gI_aI_eq, gI_aI_ne, gL_aI, gR_aI]
    exact hk
  · simp (disch := omega) only [fX9_from_L8, ht (a + i) (by omega), ↓zln1, ↓zln2, zl0, zl1, zl2, zl3, zl4, zl5, zl6, zl7, zl8, zl9, zl10, zl12, zl15, zl16, zl20, zl24, zl30, zl32, zl36, zl40, zl48, zl57, zl59, zl60, zl61, zl97, zl99, zl120, zl121, zl122, zl126, zl165, zl255, zl480, zl968, zl1000, zl1100, zi_add, zi_mul, zi_sub, zi_div, zi_mod, zi_nat, zt_le, zf_le, zt_lt, zf_lt, zt_eq, zf_eq, zt_vp, zt_N1lt, zf_N1lt, zf_N1eq, zf_eqN1, zt_N1eq, zt_N1le, zf_leN1, zi_nN1, zi_a1, zi_a15, zi_a255, zi_shr, zi_bit, zt_b0, zt_b1, forall_eq, if_true, if_false, true_implies, false_implies, not_true_eq_false, not_false_eq_true, and_true, true_and, gI_sI_eq, gI_sI_ne, gI_sI_ne2, gL_sI, gR_sI, gI_sL, gL_sL_eq, gL_sL_ne, gL_sL_ne2, gR_sL, gI_sR, gL_sR, gR_sR_eq, gR_sR_ne, gR_sR_ne2, gI_aI_eq, gI_aI_ne, gL_aI, gR_aI]
    exact hc
theorem q9_only {T : Nat → Nat} {w : zW} {k : Int32 → zW → Prop} (ht : ∀ n, n < 121 → gI w 30 n = Int32.ofNat (T n)) (hT : ∀ n, T n ≤ 6561) (hk : k (if zfind 121 (znz T) = zhi T 121 then zfind 121 (znz T) else zN1) w) : fX9_only w k := by
  rw [fX9_only]
  refine q9_lowest ht hT (q9_highest ht hT ?_)
  intro v3 e3
  by_cases q : zfind 121 (znz T) = zhi T 121
  · rw [if_pos q] at hk
    have e : v3 = zfind 121 (znz T) := e3.trans (if_neg (fun z => z q))
    rw [e]
    exact hk
  · rw [if_neg q] at hk
    have e : v3 = zN1 := e3.trans (if_pos q)
    rw [e]
    exact hk
/-! the reference's -/
theorem q12_leastBehind {T : Nat → Nat} {r : Nat} {w : zW} {k : Int32 → zW → Prop} (ht : ∀ n, n < 121 → gI w 235 (121 * r + n) = Int32.ofNat (T n)) (hr : r < 8) (hT : ∀ n, T n ≤ 6561) (hk : k (zfind 121 (znz T)) w) : fX12_leastBehind (Int32.ofNat r) w k := by
  have hgo : ∀ (c n : Nat) (x : Int32), c ≤ 121 → c < n → ((x = zN1 ∧ ∀ j, c ≤ j → j < 121 → znz T j = false) ∨ ∃ i, c ≤ i ∧ i < 121 ∧ x = Int32.ofNat i ∧ znz T i = true ∧ ∀ j, c ≤ j → j < i → znz T j = false) → fX12_leastBehind_L5 k n (Int32.ofNat r) x (if c = 0 then zN1 else Int32.ofNat (c - 1)) w := by
    intro c
    induction c with
    | zero =>
      intro n x hc hn hx
      obtain ⟨n, rfl⟩ : ∃ m, n = m + 1 := ⟨n - 1, by omega⟩
      rw [if_pos rfl, fX12_leastBehind_L5]
      refine ⟨fun _ => ?_, fun q => absurd zN1_lt q⟩
      rcases hx with ⟨q1, q2⟩ | ⟨i, q1, q2, q3, q4, q5⟩
      · rw [zfind_none (fun j hj => q2 j (Nat.zero_le j) hj)] at hk
        rw [q1]; exact hk
      · rw [zfind_some q2 q4 (fun j hj => q5 j (Nat.zero_le j) hj)] at hk
        rw [q3]; exact hk
    | succ c ih =>
      intro n x hc hn hx
      obtain ⟨n, rfl⟩ : ∃ m, n = m + 1 := ⟨n - 1, by omega⟩
      have hTi := hT c
      rw [if_neg (by omega), Nat.add_sub_cancel]
      have e : Int32.ofNat c + zN1 = (if c = 0 then zN1 else Int32.ofNat (c - 1)) := by
        by_cases z : c = 0
        · rw [if_pos z, z]; rfl
        · rw [if_neg z]
          have e : Int32.ofNat c = Int32.ofNat (c - 1) + 1 := by rw [zi_succ]; exact congrArg _ (by omega)
          rw [e, Int32.add_assoc, show (1 : Int32) + zN1 = 0 from rfl, Int32.add_zero]
      by_cases q : T c = 0
      · simp (disch := omega) only [fX12_leastBehind_L5, ht c (by omega), ↓zln1, ↓zln2, zl0, zl1, zl2, zl3, zl4, zl5, zl6, zl7, zl8, zl9, zl10, zl12, zl15, zl16, zl20, zl24, zl30, zl32, zl36, zl40, zl48, zl57, zl59, zl60, zl61, zl97, zl99, zl120, zl121, zl122, zl126, zl165, zl255, zl480, zl968, zl1000, zl1100, zi_add, zi_mul, zi_sub, zi_div, zi_mod, zi_nat, zt_le, zf_le, zt_lt, zf_lt, zt_eq, zf_eq, zt_vp, zt_N1lt, zf_N1lt, zf_N1eq, zf_eqN1, zt_N1eq, zt_N1le, zf_leN1, zi_nN1, zi_a1, zi_a15, zi_a255, zi_shr, zi_bit, zt_b0, zt_b1, forall_eq, if_true, if_false, true_implies, false_implies, not_true_eq_false, not_false_eq_true, and_true, true_and, gI_sI_eq, gI_sI_ne, gI_sI_ne2, gL_sI, gR_sI, gI_sL, gL_sL_eq, gL_sL_ne, gL_sL_ne2, gR_sL, gI_sR, gL_sR, gR_sR_eq, gR_sR_ne, gR_sR_ne2, gI_aI_eq, gI_aI_ne, gL_aI, gR_aI]
        rw [e]
        refine ih n x (by omega) (by omega) ?_
        rcases hx with ⟨q1, q2⟩ | ⟨i, q1, q2, q3, q4, q5⟩
        · refine Or.inl ⟨q1, fun j y1 y2 => ?_⟩
          by_cases y : j = c
          · rw [y]; exact znz_f q
          · exact q2 j (by omega) y2
        · refine Or.inr ⟨i, by omega, q2, q3, q4, fun j y1 y2 => ?_⟩
          by_cases y : j = c
          · rw [y]; exact znz_f q
          · exact q5 j (by omega) y2
      · simp (disch := omega) only [fX12_leastBehind_L5, ht c (by omega), ↓zln1, ↓zln2, zl0, zl1, zl2, zl3, zl4, zl5, zl6, zl7, zl8, zl9, zl10, zl12, zl15, zl16, zl20, zl24, zl30, zl32, zl36, zl40, zl48, zl57, zl59, zl60, zl61, zl97, zl99, zl120, zl121, zl122, zl126, zl165, zl255, zl480, zl968, zl1000, zl1100, zi_add, zi_mul, zi_sub, zi_div, zi_mod, zi_nat, zt_le, zf_le, zt_lt, zf_lt, zt_eq, zf_eq, zt_vp, zt_N1lt, zf_N1lt, zf_N1eq, zf_eqN1, zt_N1eq, zt_N1le, zf_leN1, zi_nN1, zi_a1, zi_a15, zi_a255, zi_shr, zi_bit, zt_b0, zt_b1, forall_eq, if_true, if_false, true_implies, false_implies, not_true_eq_false, not_false_eq_true, and_true, true_and, gI_sI_eq, gI_sI_ne, gI_sI_ne2, gL_sI, gR_sI, gI_sL, gL_sL_eq, gL_sL_ne, gL_sL_ne2, gR_sL, gI_sR, gL_sR, gR_sR_eq, gR_sR_ne, gR_sR_ne2, gI_aI_eq, gI_aI_ne, gL_aI, gR_aI]
        rw [e]
        exact ih n _ (by omega) (by omega) (Or.inr ⟨c, Nat.le_refl _, by omega, rfl, znz_t q, fun j y1 y2 => by omega⟩)
  exact ⟨122, hgo 121 122 (-1) (by omega) (by omega) (Or.inl ⟨rfl, fun j q1 q2 => by omega⟩)⟩
theorem q12_mostBehind {T : Nat → Nat} {r : Nat} {w : zW} {k : Int32 → zW → Prop} (ht : ∀ n, n < 121 → gI w 235 (121 * r + n) = Int32.ofNat (T n)) (hr : r < 8) (hT : ∀ n, T n ≤ 6561) (hk : k (zhi T 121) w) : fX12_mostBehind (Int32.ofNat r) w k := by
  refine zrun (fun n (s : Int32 × Int32) => fX12_mostBehind_L4 k n (Int32.ofNat r) s.1 s.2 w) (fun i => (zhi T i, Int32.ofNat i)) 121 (fun n => ?_) (fun i n hi hc => ?_)
  · simp (disch := omega) only [fX12_mostBehind_L4, ↓zln1, ↓zln2, zl0, zl1, zl2, zl3, zl4, zl5, zl6, zl7, zl8, zl9, zl10, zl12, zl15, zl16, zl20, zl24, zl30, zl32, zl36, zl40, zl48, zl57, zl59, zl60, zl61, zl97, zl99, zl120, zl121, zl122, zl126, zl165, zl255, zl480, zl968, zl1000, zl1100, zi_add, zi_mul, zi_sub, zi_div, zi_mod, zi_nat, zt_le, zf_le, zt_lt, zf_lt, zt_eq, zf_eq, zt_vp, zt_N1lt, zf_N1lt, zf_N1eq, zf_eqN1, zt_N1eq, zt_N1le, zf_leN1, zi_nN1, zi_a1, zi_a15, zi_a255, zi_shr, zi_bit, zt_b0, zt_b1, forall_eq, if_true, if_false, true_implies, false_implies, not_true_eq_false, not_false_eq_true, and_true, true_and, gI_sI_eq, gI_sI_ne, gI_sI_ne2, gL_sI, gR_sI, gI_sL, gL_sL_eq, gL_sL_ne, gL_sL_ne2, gR_sL, gI_sR, gL_sR, gR_sR_eq, gR_sR_ne, gR_sR_ne2, gI_aI_eq, gI_aI_ne, gL_aI, gR_aI]
    exact hk
  · have hTi := hT i
    have e := zhi_S T i
    by_cases q : T i = 0
    · rw [if_pos q] at e
      simp (disch := omega) only [fX12_mostBehind_L4, ht i hi, ↓zln1, ↓zln2, zl0, zl1, zl2, zl3, zl4, zl5, zl6, zl7, zl8, zl9, zl10, zl12, zl15, zl16, zl20, zl24, zl30, zl32, zl36, zl40, zl48, zl57, zl59, zl60, zl61, zl97, zl99, zl120, zl121, zl122, zl126, zl165, zl255, zl480, zl968, zl1000, zl1100, zi_add, zi_mul, zi_sub, zi_div, zi_mod, zi_nat, zt_le, zf_le, zt_lt, zf_lt, zt_eq, zf_eq, zt_vp, zt_N1lt, zf_N1lt, zf_N1eq, zf_eqN1, zt_N1eq, zt_N1le, zf_leN1, zi_nN1, zi_a1, zi_a15, zi_a255, zi_shr, zi_bit, zt_b0, zt_b1, forall_eq, if_true, if_false, true_implies, false_implies, not_true_eq_false, not_false_eq_true, and_true, true_and, gI_sI_eq, gI_sI_ne, gI_sI_ne2, gL_sI, gR_sI, gI_sL, gL_sL_eq, gL_sL_ne, gL_sL_ne2, gR_sL, gI_sR, gL_sR, gR_sR_eq, gR_sR_ne, gR_sR_ne2, gI_aI_eq, gI_aI_ne, gL_aI, gR_aI]
      rw [← e]
      exact hc
    · rw [if_neg q] at e
      simp (disch := omega) only [fX12_mostBehind_L4, ht i hi, ↓zln1, ↓zln2, zl0, zl1, zl2, zl3, zl4, zl5, zl6, zl7, zl8, zl9, zl10, zl12, zl15, zl16, zl20, zl24, zl30, zl32, zl36, zl40, zl48, zl57, zl59, zl60, zl61, zl97, zl99, zl120, zl121, zl122, zl126, zl165, zl255, zl480, zl968, zl1000, zl1100, zi_add, zi_mul, zi_sub, zi_div, zi_mod, zi_nat, zt_le, zf_le, zt_lt, zf_lt, zt_eq, zf_eq, zt_vp, zt_N1lt, zf_N1lt, zf_N1eq, zf_eqN1, zt_N1eq, zt_N1le, zf_leN1, zi_nN1, zi_a1, zi_a15, zi_a255, zi_shr, zi_bit, zt_b0, zt_b1, forall_eq, if_true, if_false, true_implies, false_implies, not_true_eq_false, not_false_eq_true, and_true, true_and, gI_sI_eq, gI_sI_ne, gI_sI_ne2, gL_sI, gR_sI, gI_sL, gL_sL_eq, gL_sL_ne, gL_sL_ne2, gR_sL, gI_sR, gL_sR, gR_sR_eq, gR_sR_ne, gR_sR_ne2, gI_aI_eq, gI_aI_ne, gL_aI, gR_aI]
      rw [← e]
      exact hc
theorem q12_kindsOf {T : Nat → Nat} {r : Nat} {w : zW} {k : Int32 → zW → Prop} (ht : ∀ n, n < 121 → gI w 235 (121 * r + n) = Int32.ofNat (T n)) (hr : r < 8) (hT : ∀ n, T n ≤ 6561) (hk : k (Int32.ofNat (zcnt 121 (znz T))) w) : fX12_kindsOf (Int32.ofNat r) w k := by
  refine zrun (fun n (s : Int32 × Int32) => fX12_kindsOf_L4 k n (Int32.ofNat r) s.1 s.2 w) (fun i => (Int32.ofNat (zcnt i (znz T)), Int32.ofNat i)) 121 (fun n => ?_) (fun i n hi hc => ?_)
  · simp (disch := omega) only [fX12_kindsOf_L4, ↓zln1, ↓zln2, zl0, zl1, zl2, zl3, zl4, zl5, zl6, zl7, zl8, zl9, zl10, zl12, zl15, zl16, zl20, zl24, zl30, zl32, zl36, zl40, zl48, zl57, zl59, zl60, zl61, zl97, zl99, zl120, zl121, zl122, zl126, zl165, zl255, zl480, zl968, zl1000, zl1100, zi_add, zi_mul, zi_sub, zi_div, zi_mod, zi_nat, zt_le, zf_le, zt_lt, zf_lt, zt_eq, zf_eq, zt_vp, zt_N1lt, zf_N1lt, zf_N1eq, zf_eqN1, zt_N1eq, zt_N1le, zf_leN1, zi_nN1, zi_a1, zi_a15, zi_a255, zi_shr, zi_bit, zt_b0, zt_b1, forall_eq, if_true, if_false, true_implies, false_implies, not_true_eq_false, not_false_eq_true, and_true, true_and, gI_sI_eq, gI_sI_ne, gI_sI_ne2, gL_sI, gR_sI, gI_sL, gL_sL_eq, gL_sL_ne, gL_sL_ne2, gR_sL, gI_sR, gL_sR, gR_sR_eq, gR_sR_ne, gR_sR_ne2, gI_aI_eq, gI_aI_ne, gL_aI, gR_aI]
    exact hk
  · have hTi := hT i
    by_cases q : T i = 0
    · simp (disch := omega) only [fX12_kindsOf_L4, fX12_kindsOf_J30, ht i hi, ↓zln1, ↓zln2, zl0, zl1, zl2, zl3, zl4, zl5, zl6, zl7, zl8, zl9, zl10, zl12, zl15, zl16, zl20, zl24, zl30, zl32, zl36, zl40, zl48, zl57, zl59, zl60, zl61, zl97, zl99, zl120, zl121, zl122, zl126, zl165, zl255, zl480, zl968, zl1000, zl1100, zi_add, zi_mul, zi_sub, zi_div, zi_mod, zi_nat, zt_le, zf_le, zt_lt, zf_lt, zt_eq, zf_eq, zt_vp, zt_N1lt, zf_N1lt, zf_N1eq, zf_eqN1, zt_N1eq, zt_N1le, zf_leN1, zi_nN1, zi_a1, zi_a15, zi_a255, zi_shr, zi_bit, zt_b0, zt_b1, forall_eq, if_true, if_false, true_implies, false_implies, not_true_eq_false, not_false_eq_true, and_true, true_and, gI_sI_eq, gI_sI_ne, gI_sI_ne2, gL_sI, gR_sI, gI_sL, gL_sL_eq, gL_sL_ne, gL_sL_ne2, gR_sL, gI_sR, gL_sR, gR_sR_eq, gR_sR_ne, gR_sR_ne2, gI_aI_eq, gI_aI_ne, gL_aI, gR_aI]
      rw [Nat.add_zero, ← zcnt_f (znz_f q)]
      exact hc
    · simp (disch := omega) only [fX12_kindsOf_L4, fX12_kindsOf_J30, ht i hi, ↓zln1, ↓zln2, zl0, zl1, zl2, zl3, zl4, zl5, zl6, zl7, zl8, zl9, zl10, zl12, zl15, zl16, zl20, zl24, zl30, zl32, zl36, zl40, zl48, zl57, zl59, zl60, zl61, zl97, zl99, zl120, zl121, zl122, zl126, zl165, zl255, zl480, zl968, zl1000, zl1100, zi_add, zi_mul, zi_sub, zi_div, zi_mod, zi_nat, zt_le, zf_le, zt_lt, zf_lt, zt_eq, zf_eq, zt_vp, zt_N1lt, zf_N1lt, zf_N1eq, zf_eqN1, zt_N1eq, zt_N1le, zf_leN1, zi_nN1, zi_a1, zi_a15, zi_a255, zi_shr, zi_bit, zt_b0, zt_b1, forall_eq, if_true, if_false, true_implies, false_implies, not_true_eq_false, not_false_eq_true, and_true, true_and, gI_sI_eq, gI_sI_ne, gI_sI_ne2, gL_sI, gR_sI, gI_sL, gL_sL_eq, gL_sL_ne, gL_sL_ne2, gR_sL, gI_sR, gL_sR, gR_sR_eq, gR_sR_ne, gR_sR_ne2, gI_aI_eq, gI_aI_ne, gL_aI, gR_aI]
      rw [← zcnt_t (znz_t q)]
      exact hc
/-- what is sure, of counts that come to L in all -/
def zsr (T : Nat → Nat) (L : Nat) : Nat → Int32
  | 0 => zN1
  | n + 1 => if 0 < L ∧ T n = L then Int32.ofNat n else zsr T L n
theorem zsr_S (T : Nat → Nat) (L n : Nat) : zsr T L (n + 1) = if 0 < L ∧ T n = L then Int32.ofNat n else zsr T L n := rfl
theorem zsr_0 (T : Nat → Nat) (n : Nat) : zsr T 0 n = zN1 := by
  induction n with
  | zero => rfl
  | succ n ih => rw [zsr_S, if_neg (fun q => absurd q.1 (Nat.lt_irrefl 0)), ih]
theorem q12_sureOf {T : Nat → Nat} {o L : Nat} {w : zW} {k : Int32 → zW → Prop} (ht : ∀ n, n < 9 → gI w 234 (9 * o + n) = Int32.ofNat (T n)) (h31 : gI w 200 31 = Int32.ofNat L) (hL : L ≤ 6561) (ho : o < 4) (hT : ∀ n, T n ≤ 6561) (hk : k (zsr T L 9) w) : fX12_sureOf (Int32.ofNat o) w k := by
  by_cases q0 : L = 0
  · subst q0
    rw [zsr_0] at hk
    refine ⟨1, ?_⟩
    simp (disch := omega) only [fX12_sureOf_L4, h31, ↓zln1, ↓zln2, zl0, zl1, zl2, zl3, zl4, zl5, zl6, zl7, zl8, zl9, zl10, zl12, zl15, zl16, zl20, zl24, zl30, zl32, zl36, zl40, zl48, zl57, zl59, zl60, zl61, zl97, zl99, zl120, zl121, zl122, zl126, zl165, zl255, zl480, zl968, zl1000, zl1100, zi_add, zi_mul, zi_sub, zi_div, zi_mod, zi_nat, zt_le, zf_le, zt_lt, zf_lt, zt_eq, zf_eq, zt_vp, zt_N1lt, zf_N1lt, zf_N1eq, zf_eqN1, zt_N1eq, zt_N1le, zf_leN1, zi_nN1, zi_a1, zi_a15, zi_a255, zi_shr, zi_bit, zt_b0, zt_b1, forall_eq, if_true, if_false, true_implies, false_implies, not_true_eq_false, not_false_eq_true, and_true, true_and, gI_sI_eq, gI_sI_ne, gI_sI_ne2, gL_sI, gR_sI, gI_sL, gL_sL_eq, gL_sL_ne, gL_sL_ne2, gR_sL, gI_sR, gL_sR, gR_sR_eq, gR_sR_ne, gR_sR_ne2, gI_aI_eq, gI_aI_ne, gL_aI, gR_aI]
    exact hk
  · refine zrun (fun n (s : Int32 × Int32) => fX12_sureOf_L4 k n (Int32.ofNat o) s.1 s.2 w) (fun i => (zsr T L i, Int32.ofNat i)) 9 (fun n => ?_) (fun i n hi hc => ?_)
    · simp (disch := omega) only [fX12_sureOf_L4, ↓zln1, ↓zln2, zl0, zl1, zl2, zl3, zl4, zl5, zl6, zl7, zl8, zl9, zl10, zl12, zl15, zl16, zl20, zl24, zl30, zl32, zl36, zl40, zl48, zl57, zl59, zl60, zl61, zl97, zl99, zl120, zl121, zl122, zl126, zl165, zl255, zl480, zl968, zl1000, zl1100, zi_add, zi_mul, zi_sub, zi_div, zi_mod, zi_nat, zt_le, zf_le, zt_lt, zf_lt, zt_eq, zf_eq, zt_vp, zt_N1lt, zf_N1lt, zf_N1eq, zf_eqN1, zt_N1eq, zt_N1le, zf_leN1, zi_nN1, zi_a1, zi_a15, zi_a255, zi_shr, zi_bit, zt_b0, zt_b1, forall_eq, if_true, if_false, true_implies, false_implies, not_true_eq_false, not_false_eq_true, and_true, true_and, gI_sI_eq, gI_sI_ne, gI_sI_ne2, gL_sI, gR_sI, gI_sL, gL_sL_eq, gL_sL_ne, gL_sL_ne2, gR_sL, gI_sR, gL_sR, gR_sR_eq, gR_sR_ne, gR_sR_ne2, gI_aI_eq, gI_aI_ne, gL_aI, gR_aI]
      exact hk
    · have hTi := hT i
      have e := zsr_S T L i
      by_cases q : T i = L
      · rw [if_pos ⟨by omega, q⟩] at e
        simp (disch := omega) only [fX12_sureOf_L4, h31, ht i hi, ↓zln1, ↓zln2, zl0, zl1, zl2, zl3, zl4, zl5, zl6, zl7, zl8, zl9, zl10, zl12, zl15, zl16, zl20, zl24, zl30, zl32, zl36, zl40, zl48, zl57, zl59, zl60, zl61, zl97, zl99, zl120, zl121, zl122, zl126, zl165, zl255, zl480, zl968, zl1000, zl1100, zi_add, zi_mul, zi_sub, zi_div, zi_mod, zi_nat, zt_le, zf_le, zt_lt, zf_lt, zt_eq, zf_eq, zt_vp, zt_N1lt, zf_N1lt, zf_N1eq, zf_eqN1, zt_N1eq, zt_N1le, zf_leN1, zi_nN1, zi_a1, zi_a15, zi_a255, zi_shr, zi_bit, zt_b0, zt_b1, forall_eq, if_true, if_false, true_implies, false_implies, not_true_eq_false, not_false_eq_true, and_true, true_and, gI_sI_eq, gI_sI_ne, gI_sI_ne2, gL_sI, gR_sI, gI_sL, gL_sL_eq, gL_sL_ne, gL_sL_ne2, gR_sL, gI_sR, gL_sR, gR_sR_eq, gR_sR_ne, gR_sR_ne2, gI_aI_eq, gI_aI_ne, gL_aI, gR_aI]
        rw [← e]
        exact hc
      · rw [if_neg (fun z => q z.2)] at e
        simp (disch := omega) only [fX12_sureOf_L4, h31, ht i hi, ↓zln1, ↓zln2, zl0, zl1, zl2, zl3, zl4, zl5, zl6, zl7, zl8, zl9, zl10, zl12, zl15, zl16, zl20, zl24, zl30, zl32, zl36, zl40, zl48, zl57, zl59, zl60, zl61, zl97, zl99, zl120, zl121, zl122, zl126, zl165, zl255, zl480, zl968, zl1000, zl1100, zi_add, zi_mul, zi_sub, zi_div, zi_mod, zi_nat, zt_le, zf_le, zt_lt, zf_lt, zt_eq, zf_eq, zt_vp, zt_N1lt, zf_N1lt, zf_N1eq, zf_eqN1, zt_N1eq, zt_N1le, zf_leN1, zi_nN1, zi_a1, zi_a15, zi_a255, zi_shr, zi_bit, zt_b0, zt_b1, forall_eq, if_true, if_false, true_implies, false_implies, not_true_eq_false, not_false_eq_true, and_true, true_and, gI_sI_eq, gI_sI_ne, gI_sI_ne2, gL_sI, gR_sI, gI_sL, gL_sL_eq, gL_sL_ne, gL_sL_ne2, gR_sL, gI_sR, gL_sR, gR_sR_eq, gR_sR_ne, gR_sR_ne2, gI_aI_eq, gI_aI_ne, gL_aI, gR_aI]
        rw [← e]
        exact hc
/-- the one number that there was, by counts of a list -/
theorem zonly {f : Nat → Nat} {l : List Nat} (hf : ∀ d, d ∈ l → f d < 9) : (if zfind 121 (znz (zct f l)) = zhi (zct f l) 121 then zfind 121 (znz (zct f l)) else zN1) = zsr (zct f l) l.length 9 := by
  have hz : ∀ n, zct f l n = 0 ↔ ∀ d, d ∈ l → ¬ f d = n := fun n => by
    rw [zct, List.countP_eq_zero]
    exact ⟨fun h d hd e => h d hd (by rw [e]; exact beq_self_eq_true n), fun h d hd e => h d hd (eq_of_beq e)⟩
  have ha : ∀ n, zct f l n = l.length ↔ ∀ d, d ∈ l → f d = n := fun n => by
    rw [zct, List.countP_eq_length]
    exact ⟨fun h d hd => eq_of_beq (h d hd), fun h d hd => by rw [h d hd]; exact beq_self_eq_true n⟩
  have hsr : ∀ m, (zsr (zct f l) l.length m = zN1 ∧ ∀ n, n < m → ¬ (0 < l.length ∧ zct f l n = l.length)) ∨ ∃ n, n < m ∧ zsr (zct f l) l.length m = Int32.ofNat n ∧ 0 < l.length ∧ zct f l n = l.length := by
    intro m
    induction m with
    | zero => exact Or.inl ⟨rfl, fun n hn => absurd hn (Nat.not_lt_zero n)⟩
    | succ m ih =>
      rw [zsr_S]
      by_cases q : 0 < l.length ∧ zct f l m = l.length
      · rw [if_pos q]; exact Or.inr ⟨m, by omega, rfl, q.1, q.2⟩
      · rw [if_neg q]
        rcases ih with ⟨h1, h2⟩ | ⟨n, h1, h2, h3, h4⟩
        · refine Or.inl ⟨h1, fun n hn => ?_⟩
          by_cases e : n = m
          · rw [e]; exact q
          · exact h2 n (by omega)
        · exact Or.inr ⟨n, by omega, h2, h3, h4⟩
  have hhi : ∀ m, (zhi (zct f l) m = zN1 ∧ ∀ n, n < m → zct f l n = 0) ∨ ∃ n, n < m ∧ zhi (zct f l) m = Int32.ofNat n ∧ ¬ zct f l n = 0 ∧ ∀ j, n < j → j < m → zct f l j = 0 := by
    intro m
    induction m with
    | zero => exact Or.inl ⟨rfl, fun n hn => absurd hn (Nat.not_lt_zero n)⟩
    | succ m ih =>
      rw [zhi_S]
      by_cases q : zct f l m = 0
      · rw [if_pos q]
        rcases ih with ⟨h1, h2⟩ | ⟨n, h1, h2, h3, h4⟩
        · refine Or.inl ⟨h1, fun n hn => ?_⟩
          by_cases e : n = m
          · rw [e]; exact q
          · exact h2 n (by omega)
        · refine Or.inr ⟨n, by omega, h2, h3, fun j y1 y2 => ?_⟩
          by_cases e : j = m
          · rw [e]; exact q
          · exact h4 j y1 (by omega)
      · rw [if_neg q]
        exact Or.inr ⟨m, by omega, rfl, q, fun j y1 y2 => by omega⟩
  rcases zfind_or 121 (znz (zct f l)) with ⟨e1, n1⟩ | ⟨i, i1, i2, i3, i4⟩
  · -- there is none at all
    have hno : ∀ d, d ∈ l → False := fun d hd => by
      have h1 := hf d hd
      have h2 : zct f l (f d) = 0 := by
        by_cases q : zct f l (f d) = 0
        · exact q
        · have := n1 (f d) (by omega)
          rw [znz_t q] at this
          exact absurd this (by decide)
      exact (hz _).mp h2 d hd rfl
    have hl : l.length = 0 := by
      cases l with
      | nil => rfl
      | cons a l => exact absurd (List.mem_cons_self) (hno a)
    rw [hl, zsr_0, e1]
    by_cases q : zN1 = zhi (zct f l) 121
    · rw [if_pos q]
    · rw [if_neg q]
  · have i5 : ¬ zct f l i = 0 := of_decide_eq_true i3
    rw [i2]
    rcases hhi 121 with ⟨e1, n1⟩ | ⟨j, j1, j2, j3, j4⟩
    · exact absurd (n1 i i1) i5
    · rw [j2]
      obtain ⟨d, hd, hdi⟩ : ∃ d, d ∈ l ∧ f d = i := Classical.byContradiction fun q => i5 ((hz i).mpr fun d hd e => q ⟨d, hd, e⟩)
      have hlen : 0 < l.length := List.length_pos_of_mem hd
      have hi9 : i < 9 := by rw [← hdi]; exact hf d hd
      by_cases q : Int32.ofNat i = Int32.ofNat j
      · rw [if_pos q]
        have e := (zi_eq (by omega) (by omega)).mp q
        subst e
        have hall : ∀ d, d ∈ l → f d = i := fun d hd => by
          have h9 := hf d hd
          by_cases y : f d = i
          · exact y
          · have h2 : ¬ zct f l (f d) = 0 := fun z => (hz _).mp z d hd rfl
            by_cases x : f d < i
            · have := i4 (f d) x
              rw [znz_t h2] at this
              exact absurd this (by decide)
            · exact absurd (j4 (f d) (by omega) (by omega)) h2
        rcases hsr 9 with ⟨h1, h2⟩ | ⟨n, h1, h2, h3, h4⟩
        · exact absurd ⟨hlen, (ha i).mpr hall⟩ (h2 i hi9)
        · rw [h2, ← (ha n).mp h4 d hd, hdi]
      · rw [if_neg q]
        rcases hsr 9 with ⟨h1, h2⟩ | ⟨n, h1, h2, h3, h4⟩
        · exact h1.symm
        · have hn := (ha n).mp h4
          obtain ⟨d2, hd2, hdj⟩ : ∃ d, d ∈ l ∧ f d = j := Classical.byContradiction fun q => j3 ((hz j).mpr fun d hd e => q ⟨d, hd, e⟩)
          exact absurd (by rw [← hdi, ← hdj, hn d hd, hn d2 hd2]) q

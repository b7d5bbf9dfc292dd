/-! Level 2: tokens: what stands where, of signs alone -/
def zkd (c : Nat) : Nat := if 97 ≤ c ∧ c ≤ 122 then 1 else if 48 ≤ c ∧ c ≤ 57 then 2 else if c = 40 ∨ c = 41 ∨ c = 59 ∨ c = 61 ∨ c = 60 ∨ c = 43 ∨ c = 45 ∨ c = 42 then 3 else 4
abbrev zbl (c : Nat) : Prop := c = 10 ∨ c = 32
def zskF (sg : Nat → Nat) (n : Nat) : Nat → Nat → Nat
  | 0, p => p
  | k + 1, p => if p < n ∧ zbl (sg p) then zskF sg n k (p + 1) else p
/-- where the next token begins -/
def zST (sg : Nat → Nat) (n p : Nat) : Nat := zskF sg n (n - p) p
def zenF (sg : Nat → Nat) (n K : Nat) : Nat → Nat → Nat
  | 0, p => p
  | k + 1, p => if p < n ∧ zkd (sg p) = K then zenF sg n K k (p + 1) else p
/-- where a token ends -/
def zE (sg : Nat → Nat) (n q : Nat) : Nat := if zkd (sg q) = 1 ∨ zkd (sg q) = 2 then zenF sg n (zkd (sg q)) (n - q) q else q + 1
theorem zskF_spec (sg : Nat → Nat) (n : Nat) : ∀ k p, p + k = n → p ≤ zskF sg n k p ∧ zskF sg n k p ≤ n ∧ (∀ i, p ≤ i → i < zskF sg n k p → zbl (sg i)) ∧ (zskF sg n k p = n ∨ ¬ zbl (sg (zskF sg n k p))) := by
  intro k
  induction k with
  | zero => intro p hp; exact ⟨Nat.le_refl _, by rw [zskF]; omega, fun i a b => by rw [zskF] at b; omega, Or.inl (by rw [zskF]; omega)⟩
  | succ k ih =>
    intro p hp
    rw [zskF]
    by_cases h : p < n ∧ zbl (sg p)
    · rw [if_pos h]
      obtain ⟨a1, a2, a3, a4⟩ := ih (p + 1) (by omega)
      refine ⟨by omega, a2, fun i i1 i2 => ?_, a4⟩
      by_cases e : i = p
      · rw [e]; exact h.2
      · exact a3 i (by omega) i2
    · rw [if_neg h]
      exact ⟨Nat.le_refl _, by omega, fun i a b => by omega, Or.inr (fun z => h ⟨by omega, z⟩)⟩
theorem zST_spec {sg : Nat → Nat} {n p : Nat} (hp : p ≤ n) : p ≤ zST sg n p ∧ zST sg n p ≤ n ∧ (∀ i, p ≤ i → i < zST sg n p → zbl (sg i)) ∧ (zST sg n p = n ∨ ¬ zbl (sg (zST sg n p))) := zskF_spec sg n (n - p) p (by omega)
theorem zenF_spec (sg : Nat → Nat) (n K : Nat) : ∀ k p, p + k = n → p ≤ zenF sg n K k p ∧ zenF sg n K k p ≤ n ∧ (∀ i, p ≤ i → i < zenF sg n K k p → zkd (sg i) = K) ∧ (zenF sg n K k p = n ∨ ¬ zkd (sg (zenF sg n K k p)) = K) := by
  intro k
  induction k with
  | zero => intro p hp; exact ⟨Nat.le_refl _, by rw [zenF]; omega, fun i a b => by rw [zenF] at b; omega, Or.inl (by rw [zenF]; omega)⟩
  | succ k ih =>
    intro p hp
    rw [zenF]
    by_cases h : p < n ∧ zkd (sg p) = K
    · rw [if_pos h]
      obtain ⟨a1, a2, a3, a4⟩ := ih (p + 1) (by omega)
      refine ⟨by omega, a2, fun i i1 i2 => ?_, a4⟩
      by_cases e : i = p
      · rw [e]; exact h.2
      · exact a3 i (by omega) i2
    · rw [if_neg h]
      exact ⟨Nat.le_refl _, by omega, fun i a b => by omega, Or.inr (fun z => h ⟨by omega, z⟩)⟩
/-- a run of letters or digits -/
theorem zE_run {sg : Nat → Nat} {n q : Nat} (hq : q < n) (hk : zkd (sg q) = 1 ∨ zkd (sg q) = 2) : q < zE sg n q ∧ zE sg n q ≤ n ∧ (∀ i, q ≤ i → i < zE sg n q → zkd (sg i) = zkd (sg q)) ∧ (zE sg n q = n ∨ ¬ zkd (sg (zE sg n q)) = zkd (sg q)) := by
  rw [zE, if_pos hk]
  obtain ⟨a1, a2, a3, a4⟩ := zenF_spec sg n (zkd (sg q)) (n - q) q (by omega)
  refine ⟨?_, a2, a3, a4⟩
  by_cases e : zenF sg n (zkd (sg q)) (n - q) q = q
  · rcases a4 with z | z
    · omega
    · rw [e] at z; exact absurd rfl z
  · omega
theorem zE_one {sg : Nat → Nat} {n q : Nat} (hk : ¬ (zkd (sg q) = 1 ∨ zkd (sg q) = 2)) : zE sg n q = q + 1 := by rw [zE, if_neg hk]
theorem zE_lt {sg : Nat → Nat} {n q : Nat} (hq : q < n) : q < zE sg n q ∧ zE sg n q ≤ n := by
  by_cases hk : zkd (sg q) = 1 ∨ zkd (sg q) = 2
  · exact ⟨(zE_run hq hk).1, (zE_run hq hk).2.1⟩
  · rw [zE_one hk]; omega
def zlet (sg : Nat → Nat) (q : Nat) : Nat → List Nat
  | 0 => []
  | k + 1 => (sg (q + k) - 96) :: zlet sg q k
def znum (sg : Nat → Nat) (q : Nat) : Nat → Nat
  | 0 => 0
  | k + 1 => 10 * znum sg q k + (sg (q + k) - 48)
/-- which of the told words of the language; 21 if none -/
def zKey (l : List Nat) : Nat := zKL.findIdx (· == l)
/-- tokens, one behind the other -/
abbrev zTks : Type := (Nat → Nat) × (Nat → Nat) × (Nat → Nat) × (Nat → Nat) × (Nat → List Nat) × (Nat → Nat)
def zTks.kd (T : zTks) : Nat → Nat := T.1
def zTks.pl (T : zTks) : Nat → Nat := T.2.1
def zTks.nu (T : zTks) : Nat → Nat := T.2.2.1
def zTks.si (T : zTks) : Nat → Nat := T.2.2.2.1
def zTks.nm (T : zTks) : Nat → List Nat := T.2.2.2.2.1
def zTks.ky (T : zTks) : Nat → Nat := T.2.2.2.2.2
def zps (sg : Nat → Nat) (n : Nat) : Nat → Nat
  | 0 => 0
  | j + 1 => if n ≤ zST sg n (zps sg n j) then n else zE sg n (zST sg n (zps sg n j))
def zKD (sg : Nat → Nat) (n q : Nat) : Nat := if n ≤ q then 0 else if zkd (sg q) = 1 ∧ 8 < zE sg n q - q then 4 else if zkd (sg q) = 2 ∧ 4 < zE sg n q - q then 4 else zkd (sg q)
def zNM (sg : Nat → Nat) (n q : Nat) : List Nat := zlet sg q (zE sg n q - q)
def zTT (sg : Nat → Nat) (n : Nat) : zTks := (fun j => zKD sg n (zST sg n (zps sg n j)), fun j => zST sg n (zps sg n j), fun j => znum sg (zST sg n (zps sg n j)) (zE sg n (zST sg n (zps sg n j)) - zST sg n (zps sg n j)), fun j => sg (zST sg n (zps sg n j)), fun j => zNM sg n (zST sg n (zps sg n j)), fun j => if zKD sg n (zST sg n (zps sg n j)) = 1 then zKey (zNM sg n (zST sg n (zps sg n j))) else 21)
theorem zps_le (sg : Nat → Nat) (n : Nat) : ∀ j, zps sg n j ≤ n
  | 0 => Nat.zero_le _
  | j + 1 => by
    rw [zps]
    by_cases h : n ≤ zST sg n (zps sg n j)
    · rw [if_pos h]; exact Nat.le_refl _
    · rw [if_neg h]; exact (zE_lt (by omega)).2
/-- names, in both numbers -/
theorem zn32_inj {l m : List Nat} (hl : ∀ c, c ∈ l → 1 ≤ c ∧ c ≤ 26) (hm : ∀ c, c ∈ m → 1 ≤ c ∧ c ≤ 26) (h : zn32 l = zn32 m) : l = m := by
  induction l generalizing m with
  | nil =>
    cases m with
    | nil => rfl
    | cons c m =>
      have := hm c (List.mem_cons_self)
      rw [zn32, zn32] at h
      omega
  | cons d l ih =>
    have hd := hl d (List.mem_cons_self)
    cases m with
    | nil => rw [zn32, zn32] at h; omega
    | cons c m =>
      have hc := hm c (List.mem_cons_self)
      rw [zn32, zn32] at h
      have e1 : d = c := by omega
      have e2 : zn32 l = zn32 m := by omega
      rw [e1, ih (fun x hx => hl x (List.mem_cons_of_mem _ hx)) (fun x hx => hm x (List.mem_cons_of_mem _ hx)) e2]
theorem zn37_inj {l m : List Nat} (hl : ∀ c, c ∈ l → 1 ≤ c ∧ c ≤ 26) (hm : ∀ c, c ∈ m → 1 ≤ c ∧ c ≤ 26) (h : zn37 l = zn37 m) : l = m := by
  induction l generalizing m with
  | nil =>
    cases m with
    | nil => rfl
    | cons c m =>
      have := hm c (List.mem_cons_self)
      rw [zn37, zn37] at h
      omega
  | cons d l ih =>
    have hd := hl d (List.mem_cons_self)
    cases m with
    | nil => rw [zn37, zn37] at h; omega
    | cons c m =>
      have hc := hm c (List.mem_cons_self)
      rw [zn37, zn37] at h
      have e1 : d = c := by omega
      have e2 : zn37 l = zn37 m := by omega
      rw [e1, ih (fun x hx => hl x (List.mem_cons_of_mem _ hx)) (fun x hx => hm x (List.mem_cons_of_mem _ hx)) e2]
theorem zn32_lt {l : List Nat} (hl : ∀ c, c ∈ l → 1 ≤ c ∧ c ≤ 26) : zn32 l < 32 ^ l.length := by
  induction l with
  | nil => exact Nat.one_pos
  | cons c l ih =>
    have hc := hl c (List.mem_cons_self)
    have := ih (fun x hx => hl x (List.mem_cons_of_mem _ hx))
    rw [zn32, List.length_cons, Nat.pow_succ]
    omega
theorem zn37_lt {l : List Nat} (hl : ∀ c, c ∈ l → 1 ≤ c ∧ c ≤ 26) : zn37 l < 37 ^ l.length := by
  induction l with
  | nil => exact Nat.one_pos
  | cons c l ih =>
    have hc := hl c (List.mem_cons_self)
    have := ih (fun x hx => hl x (List.mem_cons_of_mem _ hx))
    rw [zn37, List.length_cons, Nat.pow_succ]
    omega
theorem zl_inj {a b : Nat} (ha : a < 2 ^ 63) (hb : b < 2 ^ 63) (h : Int64.ofNat a = Int64.ofNat b) : a = b := by
  have h2 := congrArg Int64.toInt h
  rw [Int64.toInt_ofNat_of_lt ha, Int64.toInt_ofNat_of_lt hb] at h2
  omega
/-- a short word's letters -/
def zSW (l : List Nat) : Prop := 1 ≤ l.length ∧ l.length ≤ 8 ∧ ∀ c, c ∈ l → 1 ≤ c ∧ c ≤ 26
theorem zn32_eq {l m : List Nat} (hl : zSW l) (hm : zSW m) : Int64.ofNat (zn32 l) = Int64.ofNat (zn32 m) ↔ l = m := by
  refine ⟨fun h => ?_, fun h => by rw [h]⟩
  have b1 : (32 : Nat) ^ l.length ≤ 32 ^ 8 := Nat.pow_le_pow_right (by omega) hl.2.1
  have b2 : (32 : Nat) ^ m.length ≤ 32 ^ 8 := Nat.pow_le_pow_right (by omega) hm.2.1
  have a1 := zn32_lt hl.2.2
  have a2 := zn32_lt hm.2.2
  exact zn32_inj hl.2.2 hm.2.2 (zl_inj (by omega) (by omega) h)
theorem zn37_eq {l m : List Nat} (hl : zSW l) (hm : zSW m) : Int64.ofNat (zn37 l) = Int64.ofNat (zn37 m) ↔ l = m := by
  refine ⟨fun h => ?_, fun h => by rw [h]⟩
  have b1 : (37 : Nat) ^ l.length ≤ 37 ^ 8 := Nat.pow_le_pow_right (by omega) hl.2.1
  have b2 : (37 : Nat) ^ m.length ≤ 37 ^ 8 := Nat.pow_le_pow_right (by omega) hm.2.1
  have a1 := zn37_lt hl.2.2
  have a2 := zn37_lt hm.2.2
  exact zn37_inj hl.2.2 hm.2.2 (zl_inj (by omega) (by omega) h)
theorem zlet_len (sg : Nat → Nat) (q : Nat) : ∀ k, (zlet sg q k).length = k
  | 0 => rfl
  | k + 1 => by rw [zlet, List.length_cons, zlet_len sg q k]
theorem zkd_1 {c : Nat} (h : zkd c = 1) : 97 ≤ c ∧ c ≤ 122 := by
  rw [zkd] at h
  by_cases e : 97 ≤ c ∧ c ≤ 122
  · exact e
  · rw [if_neg e] at h
    by_cases e2 : 48 ≤ c ∧ c ≤ 57
    · rw [if_pos e2] at h; omega
    · rw [if_neg e2] at h
      by_cases e3 : c = 40 ∨ c = 41 ∨ c = 59 ∨ c = 61 ∨ c = 60 ∨ c = 43 ∨ c = 45 ∨ c = 42
      · rw [if_pos e3] at h; omega
      · rw [if_neg e3] at h; omega
theorem zkd_2 {c : Nat} (h : zkd c = 2) : 48 ≤ c ∧ c ≤ 57 := by
  rw [zkd] at h
  by_cases e : 97 ≤ c ∧ c ≤ 122
  · rw [if_pos e] at h; omega
  · rw [if_neg e] at h
    by_cases e2 : 48 ≤ c ∧ c ≤ 57
    · exact e2
    · rw [if_neg e2] at h
      by_cases e3 : c = 40 ∨ c = 41 ∨ c = 59 ∨ c = 61 ∨ c = 60 ∨ c = 43 ∨ c = 45 ∨ c = 42
      · rw [if_pos e3] at h; omega
      · rw [if_neg e3] at h; omega
theorem zkd_rng (c : Nat) : zkd c = 1 ∨ zkd c = 2 ∨ zkd c = 3 ∨ zkd c = 4 := by
  rw [zkd]
  by_cases e : 97 ≤ c ∧ c ≤ 122
  · rw [if_pos e]; omega
  · rw [if_neg e]
    by_cases e2 : 48 ≤ c ∧ c ≤ 57
    · rw [if_pos e2]; omega
    · rw [if_neg e2]
      by_cases e3 : c = 40 ∨ c = 41 ∨ c = 59 ∨ c = 61 ∨ c = 60 ∨ c = 43 ∨ c = 45 ∨ c = 42
      · rw [if_pos e3]; omega
      · rw [if_neg e3]; omega
theorem zlet_ok {sg : Nat → Nat} {q : Nat} : ∀ k, (∀ i, q ≤ i → i < q + k → zkd (sg i) = 1) → ∀ c, c ∈ zlet sg q k → 1 ≤ c ∧ c ≤ 26
  | 0, _, c, hc => nomatch hc
  | k + 1, h, c, hc => by
    rw [zlet] at hc
    rcases List.mem_cons.mp hc with e | e
    · have := zkd_1 (h (q + k) (by omega) (by omega))
      omega
    · exact zlet_ok k (fun i a b => h i a (by omega)) c e
theorem znum_lt {sg : Nat → Nat} {q : Nat} : ∀ k, (∀ i, q ≤ i → i < q + k → zkd (sg i) = 2) → znum sg q k < 10 ^ k
  | 0, _ => Nat.one_pos
  | k + 1, h => by
    have := zkd_2 (h (q + k) (by omega) (by omega))
    have := znum_lt k (fun i a b => h i a (by omega))
    rw [znum, Nat.pow_succ]
    omega
theorem zKD_1 {sg : Nat → Nat} {n q : Nat} (h : zKD sg n q = 1) : q < n ∧ zkd (sg q) = 1 ∧ zE sg n q - q ≤ 8 := by
  rw [zKD] at h
  by_cases e : n ≤ q
  · rw [if_pos e] at h; omega
  · rw [if_neg e] at h
    by_cases e1 : zkd (sg q) = 1 ∧ 8 < zE sg n q - q
    · rw [if_pos e1] at h; omega
    · rw [if_neg e1] at h
      by_cases e2 : zkd (sg q) = 2 ∧ 4 < zE sg n q - q
      · rw [if_pos e2] at h; omega
      · rw [if_neg e2] at h; omega
theorem zKD_2 {sg : Nat → Nat} {n q : Nat} (h : zKD sg n q = 2) : q < n ∧ zkd (sg q) = 2 ∧ zE sg n q - q ≤ 4 := by
  rw [zKD] at h
  by_cases e : n ≤ q
  · rw [if_pos e] at h; omega
  · rw [if_neg e] at h
    by_cases e1 : zkd (sg q) = 1 ∧ 8 < zE sg n q - q
    · rw [if_pos e1] at h; omega
    · rw [if_neg e1] at h
      by_cases e2 : zkd (sg q) = 2 ∧ 4 < zE sg n q - q
      · rw [if_pos e2] at h; omega
      · rw [if_neg e2] at h; omega
theorem zNM_ok {sg : Nat → Nat} {n q : Nat} (h : zKD sg n q = 1) : zSW (zNM sg n q) := by
  obtain ⟨h1, h2, h3⟩ := zKD_1 h
  obtain ⟨a1, a2, a3, a4⟩ := zE_run h1 (Or.inl h2)
  rw [zSW, zNM, zlet_len]
  exact ⟨by omega, h3, zlet_ok _ (fun i i1 i2 => by rw [a3 i i1 (by omega), h2])⟩
theorem zKL_ok : ∀ i : Fin 21, zSW (zKL.getD i.val []) := by
  have h : ∀ i : Fin 21, 1 ≤ (zKL.getD i.val []).length ∧ (zKL.getD i.val []).length ≤ 8 ∧ ((zKL.getD i.val []).all (fun c => decide (1 ≤ c ∧ c ≤ 26))) = true := by decide +kernel
  intro i
  obtain ⟨a, b, c⟩ := h i
  exact ⟨a, b, fun x hx => of_decide_eq_true (List.all_eq_true.mp c x hx)⟩
theorem zKL_inj : ∀ i j : Fin 21, zKL.getD i.val [] = zKL.getD j.val [] → i = j := by decide +kernel
theorem zKey_le (l : List Nat) : zKey l ≤ 21 := List.findIdx_le_length
theorem zKey_iff {l : List Nat} {i : Nat} (hi : i < 21) : zKey l = i ↔ l = zKL.getD i [] := by
  have hlen : zKL.length = 21 := rfl
  have hd : ∀ j, (hj : j < 21) → zKL.getD j [] = zKL[j]'(by omega) := fun j hj => by rw [List.getD_eq_getElem?_getD, List.getElem?_eq_getElem (by omega)]; rfl
  constructor
  · intro h
    have hlt : zKL.findIdx (· == l) < zKL.length := by
      have : zKey l < 21 := by omega
      exact this
    have hg := List.findIdx_getElem (w := hlt)
    have e := eq_of_beq hg
    rw [← e, hd i hi]
    congr 1
  · intro h
    have hlt : zKL.findIdx (· == l) < zKL.length := List.findIdx_lt_length_of_exists ⟨zKL.getD i [], by rw [hd i hi]; exact List.getElem_mem _, by rw [h]; exact beq_self_eq_true _⟩
    have hg := List.findIdx_getElem (w := hlt)
    have e := eq_of_beq hg
    have e2 : zKL.getD (zKey l) [] = zKL.getD i [] := by rw [hd _ (by rw [hlen] at hlt; exact hlt)]; exact e.trans h
    have := zKL_inj ⟨zKey l, by rw [hlen] at hlt; exact hlt⟩ ⟨i, hi⟩ e2
    exact congrArg Fin.val this

/-! Level 2: what a token is; the class at a token -/
theorem zTT_kd4 (sg : Nat → Nat) (n j : Nat) : (zTT sg n).kd j ≤ 4 := by
  show zKD sg n (zST sg n (zps sg n j)) ≤ 4
  have := zkd_rng (sg (zST sg n (zps sg n j)))
  unfold zKD
  by_cases e : n ≤ zST sg n (zps sg n j)
  · rw [if_pos e]; omega
  · rw [if_neg e]
    by_cases e1 : zkd (sg (zST sg n (zps sg n j))) = 1 ∧ 8 < zE sg n (zST sg n (zps sg n j)) - zST sg n (zps sg n j)
    · rw [if_pos e1]; omega
    · rw [if_neg e1]
      by_cases e2 : zkd (sg (zST sg n (zps sg n j))) = 2 ∧ 4 < zE sg n (zST sg n (zps sg n j)) - zST sg n (zps sg n j)
      · rw [if_pos e2]; omega
      · rw [if_neg e2]; omega
theorem zTT_ky {sg : Nat → Nat} {n j : Nat} (h : ¬ (zTT sg n).kd j = 1) : (zTT sg n).ky j = 21 := if_neg h
theorem zTT_key {sg : Nat → Nat} {n j : Nat} (h : (zTT sg n).kd j = 1) : (zTT sg n).ky j = zKey ((zTT sg n).nm j) := if_pos h
theorem zTT_ky21 (sg : Nat → Nat) (n j : Nat) : (zTT sg n).ky j ≤ 21 := by
  by_cases h : (zTT sg n).kd j = 1
  · rw [zTT_key h]; exact zKey_le _
  · rw [zTT_ky h]; exact Nat.le_refl _
theorem zTT_k1 {sg : Nat → Nat} {n j : Nat} (h : (zTT sg n).ky j < 21) : (zTT sg n).kd j = 1 := by
  by_cases e : (zTT sg n).kd j = 1
  · exact e
  · rw [zTT_ky e] at h; omega
theorem zTT_nm {sg : Nat → Nat} {n j : Nat} (h : (zTT sg n).kd j = 1) : zSW ((zTT sg n).nm j) := zNM_ok h
theorem zTT_ks {sg : Nat → Nat} {n j i : Nat} (hi : i < 21) : (zTT sg n).ky j = i ↔ (zTT sg n).kd j = 1 ∧ (zTT sg n).nm j = zKL.getD i [] := by
  constructor
  · intro h
    have e := zTT_k1 (sg := sg) (n := n) (j := j) (by omega)
    exact ⟨e, (zKey_iff hi).mp ((zTT_key e).symm.trans h)⟩
  · intro h
    exact (zTT_key h.1).trans ((zKey_iff hi).mpr h.2)
theorem zTT_nu {sg : Nat → Nat} {n j : Nat} (h : (zTT sg n).kd j = 2) : (zTT sg n).nu j < 10000 := by
  have h' : zKD sg n (zST sg n (zps sg n j)) = 2 := h
  show znum sg (zST sg n (zps sg n j)) (zE sg n (zST sg n (zps sg n j)) - zST sg n (zps sg n j)) < 10000
  generalize zST sg n (zps sg n j) = q at h' ⊢
  obtain ⟨h1, h2, h3⟩ := zKD_2 h'
  obtain ⟨a1, a2, a3, a4⟩ := zE_run h1 (Or.inr h2)
  have hlt := znum_lt (sg := sg) (q := q) (zE sg n q - q) (fun i i1 i2 => by rw [a3 i i1 (by omega), h2])
  have hle : 10 ^ (zE sg n q - q) ≤ 10000 := Nat.pow_le_pow_right (n := 10) (by omega) h3
  omega
theorem zTT_pl {sg : Nat → Nat} {n : Nat} (hn : n ≤ 1000) (j : Nat) : (zTT sg n).pl j ≤ 1000 := Nat.le_trans (zST_spec (sg := sg) (zps_le sg n j)).2.1 hn
theorem zTT_si {sg : Nat → Nat} {n j : Nat} (hsg : zSg sg n) (h : (zTT sg n).kd j = 3) : (zTT sg n).si j < 127 := by
  have h' : zKD sg n (zST sg n (zps sg n j)) = 3 := h
  show sg (zST sg n (zps sg n j)) < 127
  generalize zST sg n (zps sg n j) = q at h' ⊢
  by_cases e : n ≤ q
  · rw [zKD, if_pos e] at h'; omega
  · have := hsg.2 q (by omega); omega
/-- so many tokens -/
def zTm (T : zTks) (m : Nat) : Prop := m ≤ 1000 ∧ T.kd m = 0 ∧ ∀ j, j < m → ¬ T.kd j = 0
theorem zTm_lt {T : zTks} {m j : Nat} (h : zTm T m) (hj : j ≤ m) (hk : ¬ T.kd j = 0) : j < m := by
  by_cases e : j = m
  · rw [e] at hk; exact absurd h.2.1 hk
  · omega
/-- the class stands at a token -/
def zCt (sg : Nat → Nat) (n j : Nat) (v : zW) : Prop := gI v 2 1 = Int32.ofNat n ∧ (∀ i, i < n → gI v 3 i = Int32.ofNat (sg i)) ∧ zAtk (zTT sg n) j (zps sg n (j + 1)) v
theorem ct_kd {sg : Nat → Nat} {n j : Nat} {v : zW} (h : zCt sg n j v) : gI v 2 2 = Int32.ofNat ((zTT sg n).kd j) := h.2.2.1
theorem ct_pl {sg : Nat → Nat} {n j : Nat} {v : zW} (h : zCt sg n j v) : gI v 2 3 = Int32.ofNat ((zTT sg n).pl j) := h.2.2.2.1
theorem ct_ky {sg : Nat → Nat} {n j : Nat} {v : zW} (h : zCt sg n j v) : gI v 2 5 = zKy ((zTT sg n).ky j) := h.2.2.2.2.2.1
theorem ct_nu {sg : Nat → Nat} {n j : Nat} {v : zW} (h : zCt sg n j v) (e : (zTT sg n).kd j = 2) : gI v 2 4 = Int32.ofNat ((zTT sg n).nu j) := h.2.2.2.2.2.2.1 e
theorem ct_si {sg : Nat → Nat} {n j : Nat} {v : zW} (h : zCt sg n j v) (e : (zTT sg n).kd j = 3) : gI v 2 6 = Int32.ofNat ((zTT sg n).si j) := h.2.2.2.2.2.2.2.1 e
theorem ct_nm {sg : Nat → Nat} {n j : Nat} {v : zW} (h : zCt sg n j v) (e : (zTT sg n).kd j = 1) : gL v 2 7 = Int64.ofNat (zn32 ((zTT sg n).nm j)) := h.2.2.2.2.2.2.2.2 e
theorem zCt_of {sg : Nat → Nat} {n j : Nat} {w v : zW} (h : zCt sg n j w) (h2 : ∀ c, c ≠ 8 → gI v 2 c = gI w 2 c) (h3 : ∀ c, gI v 3 c = gI w 3 c) (h7 : gL v 2 7 = gL w 2 7) : zCt sg n j v :=
  ⟨by rw [h2 1 (by decide)]; exact h.1, fun i hi => by rw [h3]; exact h.2.1 i hi, by rw [h2 2 (by decide)]; exact h.2.2.1, by rw [h2 3 (by decide)]; exact h.2.2.2.1, by rw [h2 9 (by decide)]; exact h.2.2.2.2.1, by rw [h2 5 (by decide)]; exact h.2.2.2.2.2.1, fun e => by rw [h2 4 (by decide)]; exact ct_nu h e, fun e => by rw [h2 6 (by decide)]; exact ct_si h e, fun e => by rw [h7]; exact ct_nm h e⟩
theorem q10_nx {sg : Nat → Nat} {n j : Nat} {w : zW} {k : zW → Prop} (hsg : zSg sg n) (h : zCt sg n j w) (hk : ∀ v : zW, zfT w v → zCt sg n (j + 1) v → k v) : fX10_next w k :=
  q10_next (j := j + 1) hsg h.1 h.2.1 h.2.2.2.2.1 (fun v f a => hk v f ⟨by rw [f.1 2 1 (by omega)]; exact h.1, fun i hi => by rw [f.1 3 i (by omega)]; exact h.2.1 i hi, a⟩)
theorem q10_isSign {sg : Nat → Nat} {n j c : Nat} {w : zW} {k : Int32 → zW → Prop} (hsg : zSg sg n) (h : zCt sg n j w) (hc : c < 127) (h1 : (zTT sg n).kd j = 3 → (zTT sg n).si j = c → k 1 w) (h0 : ¬ ((zTT sg n).kd j = 3 ∧ (zTT sg n).si j = c) → k 0 w) : fX10_isSign (Int32.ofNat c) w k := by
  have h4 := zTT_kd4 sg n j
  rw [fX10_isSign, ct_kd h]
  refine ⟨fun q => h0 (fun z => q (by rw [z.1]; rfl)), fun q => ?_⟩
  have e := (zi_eq (b := 3) (by omega) (by decide)).mp q
  have hsi := zTT_si hsg e
  intro v2 e2
  rw [ct_si h e] at e2
  by_cases z : (zTT sg n).si j = c
  · rw [e2.trans (if_neg (fun y => y (by rw [z])))]
    exact ⟨Or.inr rfl, h1 e z⟩
  · rw [e2.trans (if_pos (fun y => z ((zi_eq (by omega) (by omega)).mp y)))]
    exact ⟨Or.inl rfl, h0 (fun y => z y.2)⟩
/-- what the class's reading of rules changes -/
def zfR (w v : zW) : Prop := (∀ a c, ¬ (a = 2 ∧ 2 ≤ c) → ¬ (a = 6 ∧ c = 3) → a ≠ 7 → gI v a c = gI w a c) ∧ (∀ a c, ¬ (a = 2 ∧ c = 7) → gL v a c = gL w a c) ∧ (∀ a c, gR v a c = gR w a c)
theorem zfR_refl (w : zW) : zfR w w := ⟨fun _ _ _ _ _ => rfl, fun _ _ _ => rfl, fun _ _ => rfl⟩
theorem zfR_trans {u v w : zW} (h : zfR u v) (h2 : zfR v w) : zfR u w := ⟨fun a c q1 q2 q3 => (h2.1 a c q1 q2 q3).trans (h.1 a c q1 q2 q3), fun a c q => (h2.2.1 a c q).trans (h.2.1 a c q), fun a c => (h2.2.2 a c).trans (h.2.2 a c)⟩
theorem zfR_T {v w : zW} (h : zfT v w) : zfR v w := ⟨fun a c q1 _ _ => h.1 a c (by omega), fun a c q => h.2.1 a c q, h.2.2⟩
theorem zfR_8 (w : zW) (x : Int32) : zfR w (sI w 2 8 x) := ⟨fun a c q1 _ _ => by rw [gI_sI, if_neg (by omega)], fun _ _ _ => rfl, fun _ _ => rfl⟩
theorem q10_wrong {sg : Nat → Nat} {n j x : Nat} {w : zW} {k : Int32 → zW → Prop} (h : zCt sg n j w) (hk : ∀ v : zW, v = sI w 2 8 (Int32.ofNat (x + 16 * (zTT sg n).pl j)) → k 0 v) : fX10_wrong (Int32.ofNat x) w k := by
  rw [fX10_wrong]
  intro v1 e1
  rw [ct_pl h, zl16, zi_mul, zi_add] at e1
  exact hk v1 e1
/-- a name, to both: a word that isn't one of the first seventeen -/
abbrev zNmd (T : zTks) (j : Nat) : Prop := T.kd j = 1 ∧ 17 ≤ T.ky j
theorem zKy_n {i : Nat} (h : i < 21) : zKy i = Int32.ofNat i := if_pos h
theorem zKy_N {i : Nat} (h : ¬ i < 21) : zKy i = zN1 := if_neg h
/-- a key is one of the language's -/
theorem zKy_eq {i c : Nat} (hi : i ≤ 21) (hc : c < 21) : zKy i = Int32.ofNat c ↔ i = c := by
  by_cases e : i < 21
  · rw [zKy_n e]; exact zi_eq (by omega) (by omega)
  · rw [zKy_N e]
    exact ⟨fun q => absurd q (zN1_ne' (by omega)), fun q => by omega⟩
theorem q10_isName {sg : Nat → Nat} {n j : Nat} {w : zW} {k : Int32 → zW → Prop} (h : zCt sg n j w) (h1 : zNmd (zTT sg n) j → k 1 w) (h0 : ¬ zNmd (zTT sg n) j → k 0 w) : fX10_isName w k := by
  have h4 := zTT_kd4 sg n j
  have h21 := zTT_ky21 sg n j
  rw [fX10_isName, ct_kd h, ct_ky h]
  refine ⟨fun q => h0 (fun z => q (by rw [z.1]; rfl)), fun q => ?_⟩
  have e := (zi_eq (b := 1) (by omega) (by decide)).mp q
  refine ⟨fun y => h1 ⟨e, ?_⟩, fun y => ?_⟩
  · by_cases z : (zTT sg n).ky j < 21
    · rw [zKy_n z] at y; exact absurd y (zN1_ne (by omega))
    · omega
  · have z : (zTT sg n).ky j < 21 := by
      by_cases z : (zTT sg n).ky j < 21
      · exact z
      · rw [zKy_N z] at y; exact absurd rfl y
    intro v3 e3
    rw [zKy_n z] at e3
    by_cases x : (zTT sg n).ky j < 17
    · rw [e3.trans (if_pos ((zi_lt (b := 17) (by omega) (by decide)).mpr x))]
      exact ⟨Or.inl rfl, h0 (fun y => by have := y.2; omega)⟩
    · rw [e3.trans (if_neg (fun y => x ((zi_lt (b := 17) (by omega) (by decide)).mp y)))]
      exact ⟨Or.inr rfl, h1 ⟨e, by omega⟩⟩

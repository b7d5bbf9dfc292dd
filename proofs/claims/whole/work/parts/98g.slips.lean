/-! Level 2: the class's misprints found -/
theorem zi_mask3F : ∀ (D : Fin 256) (r : Fin 8), ((Int32.ofNat D.val &&& (((3 : Int32) <<< (Int32.ofNat r.val &&& 31)) ^^^ (-1 : Int32))) = 0) ↔ ∀ s : Fin 8, D.val / 2 ^ s.val % 2 = 1 → s.val = r.val ∨ s.val = r.val + 1 := by decide +kernel
theorem zi_mask1F : ∀ (D : Fin 256) (r : Fin 8), ((Int32.ofNat D.val &&& (((1 : Int32) <<< (Int32.ofNat r.val &&& 31)) ^^^ (-1 : Int32))) = 0) ↔ ∀ s : Fin 8, D.val / 2 ^ s.val % 2 = 1 → s.val = r.val := by decide +kernel
theorem zi_mask3 {n r : Nat} {p : Nat → Bool} (hn : n ≤ 8) (hr : r < 8) : ((Int32.ofNat (zbits n p) &&& (((3 : Int32) <<< (Int32.ofNat r &&& 31)) ^^^ (-1 : Int32))) = 0) ↔ ∀ s, s < n → p s = true → s = r ∨ s = r + 1 := by
  have hl : zbits n p < 256 := Nat.lt_of_lt_of_le (zbits_lt n p) (Nat.pow_le_pow_right (n := 2) (by omega) hn)
  refine (zi_mask3F ⟨_, hl⟩ ⟨r, hr⟩).trans ⟨fun h s hs q => ?_, fun h s q => ?_⟩
  · have := h ⟨s, by omega⟩
    exact this (by show zbits n p / 2 ^ s % 2 = 1; rw [zbits_get p hs, if_pos q])
  · by_cases hs : s.val < n
    · have q' : zbits n p / 2 ^ s.val % 2 = 1 := q
      rw [zbits_get p hs] at q'
      by_cases y : p s.val = true
      · exact h s.val hs y
      · rw [if_neg y] at q'; exact absurd q' (by decide)
    · have q' : zbits n p / 2 ^ s.val % 2 = 1 := q
      rw [Nat.div_eq_of_lt (Nat.lt_of_lt_of_le (zbits_lt n p) (Nat.pow_le_pow_right (by omega) (by omega)))] at q'
      exact absurd q' (by decide)
theorem zi_mask1 {n r : Nat} {p : Nat → Bool} (hn : n ≤ 8) (hr : r < 8) : ((Int32.ofNat (zbits n p) &&& (((1 : Int32) <<< (Int32.ofNat r &&& 31)) ^^^ (-1 : Int32))) = 0) ↔ ∀ s, s < n → p s = true → s = r := by
  have hl : zbits n p < 256 := Nat.lt_of_lt_of_le (zbits_lt n p) (Nat.pow_le_pow_right (n := 2) (by omega) hn)
  refine (zi_mask1F ⟨_, hl⟩ ⟨r, hr⟩).trans ⟨fun h s hs q => ?_, fun h s q => ?_⟩
  · have := h ⟨s, by omega⟩
    exact this (by show zbits n p / 2 ^ s % 2 = 1; rw [zbits_get p hs, if_pos q])
  · by_cases hs : s.val < n
    · have q' : zbits n p / 2 ^ s.val % 2 = 1 := q
      rw [zbits_get p hs] at q'
      by_cases y : p s.val = true
      · exact h s.val hs y
      · rw [if_neg y] at q'; exact absurd q' (by decide)
    · have q' : zbits n p / 2 ^ s.val % 2 = 1 := q
      rw [Nat.div_eq_of_lt (Nat.lt_of_lt_of_le (zbits_lt n p) (Nat.pow_le_pow_right (by omega) (by omega)))] at q'
      exact absurd q' (by decide)
theorem zcnt_two {n r : Nat} {p : Nat → Bool} (h : ∀ s, s < n → p s = true → s = r ∨ s = r + 1) : zcnt n p ≤ (if r < n then 1 else 0) + (if r + 1 < n then 1 else 0) := by
  induction n with
  | zero => exact Nat.le_refl _
  | succ n ih =>
    have hi := ih (fun s hs q => h s (by omega) q)
    have m1 : (if r < n then 1 else 0) ≤ (if r < n + 1 then 1 else 0) := by
      by_cases y : r < n
      · rw [if_pos y, if_pos (by omega)]; omega
      · rw [if_neg y]; omega
    have m2 : (if r + 1 < n then 1 else 0) ≤ (if r + 1 < n + 1 then 1 else 0) := by
      by_cases y : r + 1 < n
      · rw [if_pos y, if_pos (by omega)]; omega
      · rw [if_neg y]; omega
    by_cases q : p n = true
    · rw [zcnt_t q]
      rcases h n (by omega) q with e | e
      · rw [if_pos (show r < n + 1 by omega), if_neg (show ¬ r + 1 < n + 1 by omega)]
        rw [if_neg (show ¬ r < n by omega), if_neg (show ¬ r + 1 < n by omega)] at hi
        omega
      · rw [if_pos (show r + 1 < n + 1 by omega), if_pos (show r < n + 1 by omega)]
        rw [if_neg (show ¬ r + 1 < n by omega), if_pos (show r < n by omega)] at hi
        omega
    · rw [zcnt_f (eq_false_of_ne_true q)]
      omega
/-- the rows down of a dictionary that can be mended are at most two, and told in full -/
theorem zd2_two {B : zBk} (hwf : zWF B) {m : Nat → Nat} {r : Nat} (hr : r < 8) (h : ∀ s, s < bR B → zDn B m s = true → s = r ∨ s = r + 1) : zd2 B m = zdn B m ∧ ¬ zd2 B m = 255 := by
  have h8 := wf_R hwf
  have hc := zcnt_two h
  have hc2 : zcnt (bR B) (zDn B m) ≤ 2 := by
    have a1 : (if r < bR B then 1 else 0) ≤ 1 := by
      by_cases y : r < bR B
      · rw [if_pos y]; omega
      · rw [if_neg y]; omega
    have a2 : (if r + 1 < bR B then 1 else 0) ≤ 1 := by
      by_cases y : r + 1 < bR B
      · rw [if_pos y]; omega
      · rw [if_neg y]; omega
    omega
  have e : zd2 B m = zdn B m := by rw [zd2, if_pos hc2]
  refine ⟨e, fun z => ?_⟩
  rw [e, zdn] at z
  have hlt := zbits_lt (bR B) (zDn B m)
  have hn : bR B = 8 := by
    by_cases y : bR B = 8
    · exact y
    · have : 2 ^ bR B ≤ 2 ^ 7 := Nat.pow_le_pow_right (by omega) (by omega)
      omega
  have hall : ∀ s, s < 8 → zDn B m s = true := fun s hs => by
    have hg := zbits_get (zDn B m) (show s < bR B by omega)
    rw [z] at hg
    by_cases y : zDn B m s = true
    · exact y
    · rw [if_neg y] at hg
      rcases (show s = 0 ∨ s = 1 ∨ s = 2 ∨ s = 3 ∨ s = 4 ∨ s = 5 ∨ s = 6 ∨ s = 7 by omega) with e | e | e | e | e | e | e | e <;> subst e <;> exact absurd hg (by decide)
  by_cases y : r < 6
  · have := h 7 (by omega) (hall 7 (by omega)); omega
  · have := h 0 (by omega) (hall 0 (by omega)); omega
theorem zDn_iff {B : zBk} {m : Nat → Nat} {s : Nat} : zDn B m s = true ↔ ¬ zTk B s m = zTh B s m := decide_eq_true_iff
/-- mended rows only where all other rows go up and are as told -/
theorem zHl_same {B : zBk} {S : Nat → Int32} {l : List Nat} {d r : Nat} (hr : r < bR B) (h : ¬ ((∀ s, s < bR B → ¬ s = r → ¬ s = r + 1 → zTk B s (zdm (bW B) d) = zTh B s (zdm (bW B) d)) ∧ (∀ s, s < bR B → ¬ s = r → zOf B S (zdm (bW B) d) s = false))) (j : Nat) : zHl B S (l ++ [d]) r j = zHl B S l r j := by
  rw [zHl_app]
  have e : (zHg B r j && (zGu B S d && zMd B S r (j / 4) (j % 4) (zdm (bW B) d))) = false := by
    cases hg : zHg B r j with
    | false => rfl
    | true =>
      have hg' := zHg_iff.mp hg
      have : zMd B S r (j / 4) (j % 4) (zdm (bW B) d) = false := eq_false_of_ne_true (fun z => h ⟨((zMd_iff hr hg'.2.1 hg'.2.2 hg'.1.1 hg'.1.2).mp z).1, ((zMd_iff hr hg'.2.1 hg'.2.2 hg'.1.1 hg'.1.2).mp z).2.1⟩)
      rw [this, Bool.and_false, Bool.and_false]
  rw [e, Bool.or_false]
theorem zHl_gu {B : zBk} {S : Nat → Int32} {l : List Nat} {d r : Nat} (h : zGu B S d = false) (j : Nat) : zHl B S (l ++ [d]) r j = zHl B S l r j := by
  rw [zHl_app, h, Bool.false_and, Bool.and_false, Bool.or_false]
theorem q8_down {p z : Nat} {w : zW} {k : Int32 → zW → Prop} (hp : p < 65536) (hz : z < 256) (hk : k (Int32.ofNat z) w) : fX8_downIn (Int32.ofNat (p + 65536 * z)) w k := by
  rw [fX8_downIn, zl16, zi_shr (by omega) (by omega), zi_and255, show (2 : Nat) ^ 16 = 65536 from rfl, show (p + 65536 * z) / 65536 % 256 = z by omega]
  exact hk
theorem q4_mendBy {B : zBk} {S : Nat → Int32} {b d : Nat} {l : List Nat} {w : zW} {k : zW → Prop} (hwf : zWF B) (hcb : zCB B b w) (hbb : b = 40 ∨ b = 80) (h6 : gR w 31 6 = b) (h7 : gR w 31 7 = 9) (hS : ∀ i, i < 12 → gI w (9 + 1) i = S i)
    (hgu : zGu B S d = true) (h255 : ¬ zd2 B (zdm (bW B) d) = 255) (hg : ∀ r, r < bR B → gI w 32 r = Int32.ofNat (zbits 16 (zHl B S l r)))
    (hk : ∀ v : zW, v.2 = w.2 → (∀ a c, a ≠ 32 → gI v a c = gI w a c) → (∀ r, r < bR B → gI v 32 r = Int32.ofNat (zbits 16 (zHl B S (l ++ [d]) r))) → k v) : fX4_mendBy (Int32.ofNat (zpd (bW B) d + 65536 * zd2 B (zdm (bW B) d))) w k := by
  have h8 := wf_R hwf
  have h4 := wf_W hwf
  have hpl := zpd_lt (bW B) d
  have hz2 := zd2_lt hwf (zdm (bW B) d)
  have hm : ∀ o, o < bW B → zdg (zpd (bW B) d + 65536 * zd2 B (zdm (bW B) d)) o = zdm (bW B) d o := fun o ho => by rw [zdg_big _ _ (by omega)]; exact zdg_pd _ _ (by omega)
  have hpb : zpd (bW B) d + 65536 * zd2 B (zdm (bW B) d) < 2 ^ 31 := by omega
  have hzd : zd2 B (zdm (bW B) d) = zbits (bR B) (zDn B (zdm (bW B) d)) := by
    rw [zd2] at h255 ⊢
    by_cases y : zcnt (bR B) (zDn B (zdm (bW B) d)) ≤ 2
    · rw [if_pos y]; rfl
    · rw [if_neg y] at h255; exact absurd rfl h255
  rw [fX4_mendBy]
  refine q8_down hpl hz2 ?_
  rw [h6, h7]
  refine ⟨by omega, by omega, ?_⟩
  refine q3_missed hwf hcb hS hpb hm ?_
  rw [zof]
  generalize hpe : zpd (bW B) d + 65536 * zd2 B (zdm (bW B) d) = p at *
  rw [hzd]
  have hgo : ∀ (c r : Nat) (v : zW), r + c = bR B → v.2 = w.2 → (∀ a c, a ≠ 32 → gI v a c = gI w a c) → (∀ s, s < bR B → gI v 32 s = Int32.ofNat (zbits 16 (if s < r then zHl B S (l ++ [d]) s else zHl B S l s))) → fX4_mendBy_L21 k (c + 1) (Int32.ofNat p) (Int32.ofNat (zbits (bR B) (zDn B (zdm (bW B) d)))) (Int32.ofNat (zbits (bR B) (zOf B S (zdm (bW B) d)))) (Int32.ofNat r) v := by
    intro c
    induction c with
    | zero =>
      intro r v hr v2 vf vg
      have hR : gR v 31 6 = b := by rw [gR, v2]; exact h6
      rw [fX4_mendBy_L21]
      try dsimp only
      rw [hR, vf b 7 (by omega), cb_R hcb]
      refine ⟨by omega, fun _ => hk v v2 vf (fun s hs => ?_), fun q => absurd ((zi_le (by omega) (by omega)).mpr (by omega)) q⟩
      rw [vg s hs, if_pos (by omega)]
    | succ c ih =>
      intro r v hr v2 vf vg
      have hR : gR v 31 6 = b := by rw [gR, v2]; exact h6
      have hR7 : gR v 31 7 = 9 := by rw [gR, v2]; exact h7
      have hcbv : zCB B b v := zCB_of hcb (fun a k' q1 q2 => vf a k' (by omega)) hwf
      have hSv : ∀ i, i < 12 → gI v (9 + 1) i = S i := fun i hi => by rw [vf _ _ (by omega)]; exact hS i hi
      have hsame : ¬ ((∀ s, s < bR B → ¬ s = r → ¬ s = r + 1 → zTk B s (zdm (bW B) d) = zTh B s (zdm (bW B) d)) ∧ (∀ s, s < bR B → ¬ s = r → zOf B S (zdm (bW B) d) s = false)) → fX4_mendBy_L21 k (c + 1) (Int32.ofNat p) (Int32.ofNat (zbits (bR B) (zDn B (zdm (bW B) d)))) (Int32.ofNat (zbits (bR B) (zOf B S (zdm (bW B) d)))) (Int32.ofNat r + 1) v := fun hn => by
        rw [zl1, zi_add]
        refine ih (r + 1) v (by omega) v2 vf (fun s hs => ?_)
        rw [vg s hs]
        by_cases e : s = r
        · rw [if_neg (by omega), if_pos (by omega)]
          refine congrArg _ (zbits_congr (fun j _ => ?_))
          rw [e]
          exact (zHl_same (by omega) hn j).symm
        · by_cases y : s < r
          · rw [if_pos y, if_pos (by omega)]
          · rw [if_neg y, if_neg (by omega)]
      rw [fX4_mendBy_L21]
      try dsimp only
      rw [hR, vf b 7 (by omega), cb_R hcb]
      refine ⟨by omega, fun q => absurd ((zi_le (by omega) (by omega)).mp q) (by omega), fun _ => ⟨fun q => absurd ((zi_le (a := 8) (by decide) (by omega)).mp q) (by omega), fun _ => ⟨fun q => ?_, fun q => ⟨fun q2 => ?_, fun q2 => ?_⟩⟩⟩⟩
      · refine hsame (fun z => q ((zi_mask3 h8 (by omega)).mpr (fun s hs hd => ?_)))
        by_cases e1 : s = r
        · exact Or.inl e1
        · by_cases e2 : s = r + 1
          · exact Or.inr e2
          · exact absurd (z.1 s hs e1 e2) (zDn_iff.mp hd)
      · refine hsame (fun z => q2 ((zi_mask1 h8 (by omega)).mpr (fun s hs hd => ?_)))
        by_cases e1 : s = r
        · exact e1
        · rw [z.2 s hs e1] at hd; exact absurd hd (by decide)
      · have C1 : ∀ s, s < bR B → ¬ s = r → ¬ s = r + 1 → zTk B s (zdm (bW B) d) = zTh B s (zdm (bW B) d) := fun s hs n1 n2 => by
          by_cases y : zTk B s (zdm (bW B) d) = zTh B s (zdm (bW B) d)
          · exact y
          · have := (zi_mask3 h8 (show r < 8 by omega)).mp q s hs (zDn_t y); omega
        have C2 : ∀ s, s < bR B → ¬ s = r → zOf B S (zdm (bW B) d) s = false := fun s hs n1 => by
          cases y : zOf B S (zdm (bW B) d) s with
          | false => rfl
          | true => exact absurd ((zi_mask1 h8 (show r < 8 by omega)).mp q2 s hs y) n1
        refine q4_mendRow (l := l) hwf hcbv hbb hR hR7 hSv (by omega) hpb hm hgu C1 C2 (by rw [vg r (by omega), if_neg (by omega)]) (fun u u2 uf ug => ?_)
        rw [zl1, zi_add]
        refine ih (r + 1) u (by omega) (u2.trans v2) (fun a c' z => by rw [uf a c' (by omega)]; exact vf a c' z) (fun s hs => ?_)
        by_cases e : s = r
        · rw [e, ug, if_pos (by omega)]
        · rw [uf 32 s (by omega), vg s hs]
          by_cases y : s < r
          · rw [if_pos y, if_pos (by omega)]
          · rw [if_neg y, if_neg (by omega)]
  exact ⟨bR B + 1, hgo (bR B) 0 w (by omega) rfl (fun _ _ _ => rfl) (fun s hs => by rw [hg s hs, if_neg (Nat.not_lt_zero s)])⟩

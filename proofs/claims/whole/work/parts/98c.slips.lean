/-! Level 2: the reference's fitsWith -/
theorem zrange_any_S (n : Nat) (Q : Nat → Bool) : (List.range (n + 1)).any Q = ((List.range n).any Q || Q n) := by
  rw [List.range_succ, List.any_append, List.any_cons, List.any_nil, Bool.or_false]
theorem zrange_any_t {n i : Nat} {Q : Nat → Bool} (hi : i < n) (h : Q i = true) : (List.range n).any Q = true :=
  List.any_eq_true.mpr ⟨i, List.mem_range.mpr hi, h⟩
theorem q12_fitsWith {B : zBk} {S : Nat → Int32} {N : zNt} {b nn r o x : Nat} {w : zW} {k : Int32 → zW → Prop} (h : zInv B S N b nn w) (hr : r < bR B) (hox : ¬ o = x) (hu : 0 < bU B r o) (ho : o < bW B) (hx : x < bW B)
    (hk : ∀ v : zW, v.2 = w.2 → (∀ a c, a ≠ 227 → a ≠ 228 → (a = 200 → c ≠ 29 ∧ c ≠ 30) → gI v a c = gI w a c) → k (Int32.ofNat (zb2n (zHp B S r o x))) v) : fX12_fitsWith (Int32.ofNat r) (Int32.ofNat o) (Int32.ofNat x) w k := by
  have hwf := iv_wf h
  have hrb := iv_rb h
  have hha := iv_ha h
  have h4 := wf_W hwf
  have h8 := wf_R hwf
  have hb := wf_R hwf
  have h9 : 9 ^ bW B ≤ 6561 := Nat.pow_le_pow_right (n := 9) (by omega) h4
  rw [fX12_fitsWith, zl4, zi_mul, zi_add, zi_add, zi_nat (show 4 * r + o < 2 ^ 31 by omega), zi_nat (show 4 * r + x < 2 ^ 31 by omega)]
  refine ⟨zi_in (by omega) (by omega), ?_⟩
  intro w2 e2
  refine ⟨zi_in (by omega) (by omega), ?_⟩
  intro w4 e4
  have e2o : gI w2 225 (4 * r + x) = Int32.ofNat (bU B r x) := by rw [e2, gI_sI_ne2 (by omega)]; exact rb_U hrb (by omega) (by omega)
  rw [rb_U hrb (by omega) (by omega), zl1, zi_sub (by omega)] at e2
  rw [e2o, zl1, zi_add] at e4
  have hf4 : ∀ a c, ¬ (a = 225 ∧ (c = 4 * r + o ∨ c = 4 * r + x)) → gI w4 a c = gI w a c := fun a c q => by
    rw [e4, gI_sI, if_neg (by omega), e2, gI_sI, if_neg (by omega)]
  have h24 : w4.2 = w.2 := by rw [e4, e2]; rfl
  have hU4 : ∀ s p, s < 8 → p < 4 → gI w4 225 (4 * s + p) = Int32.ofNat (bU (zMis B r o x) s p) := fun s p hs hp => by
    rw [zmis_U]
    by_cases n1 : s = r
    · rw [if_pos n1, n1]
      by_cases n2 : p = o
      · rw [if_pos n2, n2, e4, gI_sI_ne2 (by omega), e2, gI_sI_eq]
      · rw [if_neg n2]
        by_cases n3 : p = x
        · rw [if_pos n3, n3, e4, gI_sI_eq]
        · rw [if_neg n3, hf4 _ _ (by omega)]
          exact rb_U hrb (by omega) (by omega)
    · rw [if_neg n1, hf4 _ _ (by omega)]
      exact rb_U hrb (by omega) (by omega)
  have hend : ∀ u : zW, u.2 = w4.2 → (∀ a c, a ≠ 227 → a ≠ 228 → (a = 200 → c ≠ 29 ∧ c ≠ 30) → gI u a c = gI w4 a c) → ∀ f : Bool, f = zHp B S r o x → fX12_fitsWith_J92 k (Int32.ofNat r) (Int32.ofNat o) (Int32.ofNat x) (Int32.ofNat (zb2n f)) u := by
    intro u u2 uf f hf
    have hu1 : gI u 225 (4 * r + o) = Int32.ofNat (bU B r o - 1) := by
      rw [uf _ _ (by omega) (by omega) (by omega), hU4 r o (by omega) (by omega), zmis_U, if_pos rfl, if_pos rfl]
    have hu2 : gI u 225 (4 * r + x) = Int32.ofNat (bU B r x + 1) := by
      rw [uf _ _ (by omega) (by omega) (by omega), hU4 r x (by omega) (by omega), zmis_U, if_pos rfl, if_neg (fun z => hox z.symm), if_pos rfl]
    rw [fX12_fitsWith_J92, zl4, zi_mul, zi_add, zi_add, zi_nat (show 4 * r + o < 2 ^ 31 by omega), zi_nat (show 4 * r + x < 2 ^ 31 by omega), hu1]
    refine ⟨zi_in (by omega) (by omega), ?_⟩
    intro w8 e8
    refine ⟨zi_in (by omega) (by omega), ?_⟩
    intro w10 e10
    rw [zl1, zi_add] at e8
    have e8o : gI w8 225 (4 * r + x) = Int32.ofNat (bU B r x + 1) := by rw [e8, gI_sI_ne2 (by omega)]; exact hu2
    rw [e8o, zl1, zi_sub (by omega), Nat.add_sub_cancel] at e10
    refine ⟨by cases f; exact Or.inl rfl; exact Or.inr rfl, ?_⟩
    rw [hf]
    refine hk w10 (by rw [e10, e8]; exact u2.trans h24) (fun a c q1 q2 q3 => ?_)
    by_cases n1 : a = 225 ∧ (c = 4 * r + o ∨ c = 4 * r + x)
    · obtain ⟨n2, n3⟩ := n1
      rw [n2]
      rcases n3 with n3 | n3
      · rw [n3, e10, gI_sI_ne2 (by omega), e8, gI_sI_eq, show bU B r o - 1 + 1 = bU B r o by omega]
        exact (rb_U hrb (by omega) (by omega)).symm
      · rw [n3, e10, gI_sI_eq]
        exact (rb_U hrb (by omega) (by omega)).symm
    · rw [e10, gI_sI, if_neg (by omega), e8, gI_sI, if_neg (by omega), uf a c q1 q2 q3]
      exact hf4 a c n1
  have hH : zHp B S r o x = (List.range (9 ^ bW B)).any (fun d => (zAl B d && zGu B S d) && zMd B S r o x (zdm (bW B) d)) := by
    rw [zHp_eq, decide_eq_true hox, decide_eq_true hu, Bool.true_and, Bool.true_and, zGL_any]
  have hth : ∀ (m : Nat → Nat) (s : Nat), (∀ p, m p < 9) → zTh (zMis B r o x) s m ≤ 400 ∧ zTk (zMis B r o x) s m ≤ 400 ∧ zLv (zMis B r o x) s m ≤ 400 := by
    intro m s hm9
    have hT : ∀ s, zTk (zMis B r o x) s m ≤ 400 := fun s => by
      by_cases e : s = r
      · have a1 := zmis_Tk hox hu ho hx m
        have a2 : zTk B r m ≤ 120 := zTk_le hwf r _ m hm9
        have a3 := hm9 x
        rw [e]; omega
      · rw [zmis_Tk2 e]
        have a2 : zTk B s m ≤ 120 := zTk_le hwf s _ m hm9
        omega
    have hL : ∀ s, zLv (zMis B r o x) s m ≤ 400 := fun s => by
      by_cases e : s = r
      · have a1 := zmis_Lv hox hu ho hx m
        have a2 : zLv B r m ≤ 120 := zLv_le hwf r _ m
        have a3 := hm9 x
        rw [e]; omega
      · rw [zmis_Lv2 e]
        have a2 : zLv B s m ≤ 120 := zLv_le hwf s _ m
        omega
    refine ⟨?_, hT s, hL s⟩
    rw [zmis_Th]
    by_cases e : s = 0
    · rw [if_pos e]; have := wf_C hwf; omega
    · rw [if_neg e]; exact hL _
  have hgo : ∀ (c i : Nat) (u : zW), i + c = 9 ^ bW B → u.2 = w4.2 → (∀ a c, a ≠ 227 → a ≠ 228 → (a = 200 → c ≠ 29 ∧ c ≠ 30) → gI u a c = gI w4 a c) →
      (List.range i).any (fun d => (zAl B d && zGu B S d) && zMd B S r o x (zdm (bW B) d)) = false → fX12_fitsWith_L34 k (c + 2) (Int32.ofNat r) (Int32.ofNat o) (Int32.ofNat x) (Int32.ofNat 0) (Int32.ofNat i) u := by
    intro c
    induction c with
    | zero =>
      intro i u hi u2 uf hany
      have hW : gI u 210 0 = Int32.ofNat (bW B) := by rw [uf 210 0 (by omega) (by omega) (by omega), hf4 _ _ (by omega)]; exact rb_W hrb
      rw [fX12_fitsWith_L34]
      try dsimp only
      refine q12_allDict hwf hW ⟨fun _ => ?_, fun q => absurd ((zi_le (by omega) (by omega)).mpr (by omega)) q⟩
      refine hend u u2 uf false ?_
      rw [hH, ← hany, show i = 9 ^ bW B by omega]
    | succ c ih =>
      intro i u hi u2 uf hany
      have hfu : ∀ a c, a ≠ 227 → a ≠ 228 → (a = 200 → c ≠ 29 ∧ c ≠ 30) → a ≠ 225 → gI u a c = gI w a c := fun a c q1 q2 q3 q4 => by rw [uf a c q1 q2 q3, hf4 _ _ (by omega)]
      have hW : gI u 210 0 = Int32.ofNat (bW B) := by rw [hfu 210 0 (by omega) (by omega) (by omega) (by omega)]; exact rb_W hrb
      have hnext : ∀ v : zW, v.2 = w4.2 → (∀ a c, a ≠ 227 → a ≠ 228 → (a = 200 → c ≠ 29 ∧ c ≠ 30) → gI v a c = gI w4 a c) → ((zAl B i && zGu B S i) && zMd B S r o x (zdm (bW B) i)) = false → fX12_fitsWith_L34 k (c + 2) (Int32.ofNat r) (Int32.ofNat o) (Int32.ofNat x) (Int32.ofNat 0) (Int32.ofNat i + 1) v := fun v v2 vf hq => by
        rw [zl1, zi_add]
        exact ih (i + 1) v (by omega) v2 vf (by rw [zrange_any_S, hany, hq]; rfl)
      rw [fX12_fitsWith_L34]
      try dsimp only
      refine q12_allDict hwf hW ⟨fun q => absurd ((zi_le (by omega) (by omega)).mp q) (by omega), fun _ => ⟨fun q => absurd rfl q, fun _ => ?_⟩⟩
      refine q12_laysL (B := B) (S := S) h4 hW (fun p m hp hm => by rw [hfu 223 _ (by omega) (by omega) (by omega) (by omega)]; exact rb_Mn hrb hp hm) hha.1 (fun j hj => by rw [hfu 220 _ (by omega) (by omega) (by omega) (by omega)]; exact hha.2.1 j hj) (by omega) (fun v v2 vf vm => ?_)
      have hfv : ∀ a c, a ≠ 227 → a ≠ 228 → (a = 200 → c ≠ 29 ∧ c ≠ 30) → a ≠ 225 → gI v a c = gI w a c := fun a c q1 q2 q3 q4 => by rw [vf a c q1]; exact hfu a c q1 q2 q3 q4
      by_cases q : (zAl B i && zGu B S i) = true
      · rw [if_pos q]
        refine ⟨fun z => absurd z (by decide), fun _ => ?_⟩
        refine q12_goesL (B := zMis B r o x) (S := S) (m := zdm (bW B) i) h4 h8 (by rw [hfv 210 1 (by omega) (by omega) (by omega) (by omega)]; exact (rb_C hrb : gI w 210 1 = Int32.ofNat (bC B))) (by rw [hfv 210 2 (by omega) (by omega) (by omega) (by omega)]; exact (rb_R hrb : gI w 210 2 = Int32.ofNat (bR B))) (by rw [hfv 210 0 (by omega) (by omega) (by omega) (by omega)]; exact (rb_W hrb : gI w 210 0 = Int32.ofNat (bW B)))
          (fun s p hs hp => by rw [vf _ _ (by omega), uf _ _ (by omega) (by omega) (by omega)]; exact hU4 s p hs hp) (fun s => (hth _ s (zdm_lt (bW B) i)).1) (fun s => (hth _ s (zdm_lt (bW B) i)).2.1) (fun s => (hth _ s (zdm_lt (bW B) i)).2.2) hha.1
          (fun j hj => by rw [hfv 220 _ (by omega) (by omega) (by omega) (by omega)]; exact hha.2.1 j hj) vm (zdm_lt (bW B) i) (fun t t2 tf t29 t30 _ => ?_)
        have htf : ∀ a c, a ≠ 227 → a ≠ 228 → (a = 200 → c ≠ 29 ∧ c ≠ 30) → gI t a c = gI w4 a c := fun a c q1 q2 q3 => by rw [tf a c q2 q3, vf a c q1]; exact uf a c q1 q2 q3
        have ht2 : t.2 = w4.2 := t2.trans (v2.trans u2)
        have hRt : gI t 210 2 = Int32.ofNat (bR B) := by rw [htf 210 2 (by omega) (by omega) (by omega), hf4 _ _ (by omega)]; exact rb_R hrb
        have hnb := zbits_not (bR B) (zDn (zMis B r o x) (zdm (bW B) i))
        have h28 : 2 ^ bR B ≤ 256 := Nat.pow_le_pow_right (n := 2) (by omega) h8
        have h21 : 1 ≤ 2 ^ bR B := Nat.one_le_two_pow
        have hlt := zbits_lt (bR B) (fun s => !zDn (zMis B r o x) (zdm (bW B) i) s)
        have t29' : gI t 200 29 = Int32.ofNat (zbits (bR B) (fun s => !zDn (zMis B r o x) (zdm (bW B) i) s)) := t29
        have hdn : zbits (bR B) (zDn (zMis B r o x) (zdm (bW B) i)) = zdn (zMis B r o x) (zdm (bW B) i) := rfl
        rw [fX12_allRows, fX12_rows, show (2 : Int32).toNatClampNeg = 2 from rfl, hRt, zi_shl1 (by omega), zl1, zi_sub (by omega), t29', t30]
        refine ⟨fun y => ?_, fun y => ?_⟩
        · refine hnext t ht2 htf ?_
          have e : ¬ zdn (zMis B r o x) (zdm (bW B) i) = 0 := fun z => y (by rw [show zbits (bR B) (fun s => !zDn (zMis B r o x) (zdm (bW B) i) s) = 2 ^ bR B - 1 by omega])
          rw [zMd, show (zdn (zMis B r o x) (zdm (bW B) i) == 0) = false from beq_eq_false_iff_ne.mpr e, Bool.false_and, Bool.and_false]
        · have e : zdn (zMis B r o x) (zdm (bW B) i) = 0 := by
            have := (zi_eq (by omega) (by omega)).mp y
            omega
          have hof : zof (zMis B r o x) S (zdm (bW B) i) < 2 ^ 31 := Nat.lt_of_lt_of_le (zbits_lt _ _) (Nat.le_trans h28 (by omega))
          intro v17 e17
          by_cases z : zof (zMis B r o x) S (zdm (bW B) i) = 0
          · rw [e17.trans (if_neg (fun y => y (by rw [z]; rfl)))]
            have hres : zHp B S r o x = true := by
              rw [hH]
              refine zrange_any_t (i := i) (by omega) ?_
              show ((zAl B i && zGu B S i) && zMd B S r o x (zdm (bW B) i)) = true
              rw [q, zMd, e, z]
              rfl
            have hWt : gI t 210 0 = Int32.ofNat (bW B) := by rw [htf 210 0 (by omega) (by omega) (by omega), hf4 _ _ (by omega)]; exact rb_W hrb
            rw [fX12_fitsWith_L34]
            try dsimp only
            refine q12_allDict hwf hWt ⟨fun _ => hend t ht2 htf true hres.symm, fun _ => ⟨fun _ => hend t ht2 htf true hres.symm, fun y => absurd y (by decide)⟩⟩
          · rw [e17.trans (if_pos (fun y => z ((zi_eq (b := 0) hof (by decide)).mp y)))]
            refine hnext t ht2 htf ?_
            rw [zMd, show (zof (zMis B r o x) S (zdm (bW B) i) == 0) = false from beq_eq_false_iff_ne.mpr z, Bool.and_false, Bool.and_false]
      · rw [if_neg q]
        refine ⟨fun _ => hnext v (v2.trans u2) (fun a c q1 q2 q3 => by rw [vf a c q1]; exact uf a c q1 q2 q3) (by rw [eq_false_of_ne_true q, Bool.false_and]), fun z => absurd rfl z⟩
  exact ⟨9 ^ bW B + 2, hgo (9 ^ bW B) 0 w4 (by omega) rfl (fun _ _ _ _ _ => rfl) rfl⟩

/-! The class as it is made -/
theorem q_fillA {a a' : Nat} {x : Int32} {w : zW} {k : zW → Prop} (h : a = a') (hN : zln a' < 2 ^ 31) (hk : k (aI w a' (fun b => if b < zln a' then x else gI w a' b))) : fJ7_fill_53178 a x w k := by
  subst h
  exact q_fill hN hk
def zsC : zW :=
  let w := nW zw0 1
  let w := nW w 2
  let w := nW w 3
  let w := sR w 2 0 3
  let w := sR w 1 0 2
  let w := nW w 4
  let w := nW w 5
  let w := sR w 4 2 5
  let w := sR w 4 0 2
  let w := nW w 6
  let w := nW w 7
  let w := sR w 6 1 7
  let w := nW w 8
  let w := sR w 6 2 8
  let w := sR w 6 0 2
  let w := sR w 4 1 6
  let w := sR w 1 1 4
  let w := nW w 9
  let w := nW w 10
  let w := sR w 9 0 10
  let w := aI w 10 (fun b => if b < zln 10 then (-1) else gI w 10 b)
  let w := sR w 1 2 9
  let w := nW w 11
  let w := sR w 1 3 11
  let w := nW w 12
  let w := nW w 13
  let w := sR w 12 0 13
  let w := aI w 13 (fun b => if b < zln 13 then (-1) else gI w 13 b)
  let w := sR w (gR w 1 3) 0 12
  let w := nW w 14
  let w := nW w 15
  let w := sR w 14 0 15
  let w := aI w 15 (fun b => if b < zln 15 then (-1) else gI w 15 b)
  let w := sR w (gR w 1 3) 1 14
  let w := nW w 16
  let w := nW w 17
  let w := sR w 16 0 17
  let w := aI w 17 (fun b => if b < zln 17 then (-1) else gI w 17 b)
  let w := sR w (gR w 1 3) 2 16
  let w := nW w 18
  let w := nW w 19
  let w := sR w 18 0 19
  let w := aI w 19 (fun b => if b < zln 19 then (-1) else gI w 19 b)
  let w := sR w (gR w 1 3) 3 18
  let w := nW w 20
  let w := sR w 1 4 20
  let w := nW w 21
  let w := nW w 22
  let w := sR w 21 1 22
  let w := nW w 23
  let w := sR w 21 2 23
  let w := sR w 1 5 21
  let w := nW w 24
  let w := sI w 24 0 (1 : Int32)
  let w := sI w 24 1 (1 : Int32)
  let w := nW w 25
  let w := sR w 24 4 25
  let w := nW w 26
  let w := sR w 24 5 26
  let w := nW w 27
  let w := sR w 24 6 27
  let w := nW w 28
  let w := sR w 24 8 28
  let w := sR w 1 6 24
  let w := nW w 29
  let w := nW w 30
  let w := sR w 29 0 30
  let w := sR w 1 7 29
  let w := nW w 31
  let w := sI w 31 0 (1 : Int32)
  let w := nW w 32
  let w := sR w 31 5 32
  let w := sR w 1 8 31
  let w := nW w 40
  let w := nW w 41
  let w := sR w 40 1 41
  let w := nW w 42
  let w := sR w 40 2 42
  let w := nW w 43
  let w := sR w 40 3 43
  let w := nW w 44
  let w := sR w 40 4 44
  let w := nM w 45 4
  let w := sR w 40 5 45
  let w := nW w 50
  let w := sR w 40 8 50
  let w := nM w 51 8
  let w := sR w 40 9 51
  let w := nM w 60 8
  let w := sR w 40 10 60
  let w := nW w 69
  let w := sR w 40 11 69
  let w := nW w 70
  let w := sR w 40 12 70
  let w := aI w 69 (fun b => if b < zln 69 then (-1) else gI w 69 b)
  let w := sR w 1 9 40
  let w := nW w 80
  let w := nW w 81
  let w := sR w 80 1 81
  let w := nW w 82
  let w := sR w 80 2 82
  let w := nW w 83
  let w := sR w 80 3 83
  let w := nW w 84
  let w := sR w 80 4 84
  let w := nM w 85 4
  let w := sR w 80 5 85
  let w := nW w 90
  let w := sR w 80 8 90
  let w := nM w 91 8
  let w := sR w 80 9 91
  let w := nM w 100 8
  let w := sR w 80 10 100
  let w := nW w 109
  let w := sR w 80 11 109
  let w := nW w 110
  let w := sR w 80 12 110
  let w := aI w 109 (fun b => if b < zln 109 then (-1) else gI w 109 b)
  let w := sR w 1 10 80
  let w := nW w 120
  let w := sI w 120 1 (1 : Int32)
  let w := nW w 121
  let w := sR w 120 5 121
  let w := nW w 122
  let w := sR w 120 6 122
  let w := nW w 123
  let w := sR w 120 7 123
  let w := nW w 124
  let w := nW w 125
  let w := sR w 124 0 125
  let w := aI w 125 (fun b => if b < zln 125 then (-1) else gI w 125 b)
  let w := sR w 120 8 124
  let w := sR w 1 11 120
  let w := nW w 130
  let w := sI w 130 1 (1 : Int32)
  let w := nW w 131
  let w := sR w 130 5 131
  let w := nW w 132
  let w := sR w 130 6 132
  let w := nW w 133
  let w := sR w 130 7 133
  let w := nW w 134
  let w := nW w 135
  let w := sR w 134 0 135
  let w := aI w 135 (fun b => if b < zln 135 then (-1) else gI w 135 b)
  let w := sR w 130 8 134
  let w := sR w 1 12 130
  w
set_option maxRecDepth 100000 in
set_option maxHeartbeats 4000000 in
theorem q_X11_init {k : zW → Prop} (hk : k zsC) : fX11_init 105 3848 1 (nW zw0 1) k := by
  unfold fX11_init
  refine ⟨by decide +kernel, by decide, by decide, fun w9 e9 => ?_⟩
  subst e9
  refine ⟨1, 1000, by decide, by decide, ?_⟩
  unfold fX10_init_2
  refine ⟨by decide +kernel, by decide, by decide, fun w9 e9 => ?_⟩
  subst e9
  intro w9 e9
  subst e9
  intro w9 e9
  subst e9
  unfold fX11_init_J15
  refine ⟨by decide +kernel, by decide, by decide, fun w9 e9 => ?_⟩
  subst e9
  refine ⟨by decide +kernel, ?_⟩
  refine ⟨4, 1039, by decide, by decide, ?_⟩
  unfold fX1_init_4
  refine ⟨by decide +kernel, by decide, by decide, fun w9 e9 => ?_⟩
  subst e9
  intro w9 e9
  subst e9
  intro w9 e9
  subst e9
  refine ⟨by decide +kernel, by decide, by decide, fun w9 e9 => ?_⟩
  subst e9
  refine ⟨2, 1032, by decide, by decide, ?_⟩
  unfold fX7_init_6
  refine ⟨by decide +kernel, by decide, by decide, fun w9 e9 => ?_⟩
  subst e9
  intro w9 e9
  subst e9
  refine ⟨by decide +kernel, by decide, by decide, fun w9 e9 => ?_⟩
  subst e9
  intro w9 e9
  subst e9
  intro w9 e9
  subst e9
  intro w9 e9
  subst e9
  intro w9 e9
  subst e9
  unfold fX11_init_J30
  refine ⟨by decide +kernel, by decide, by decide, fun w9 e9 => ?_⟩
  subst e9
  refine ⟨1, 12, by decide, by decide, ?_⟩
  unfold fX3_init_9
  refine ⟨by decide +kernel, by decide, by decide, fun w9 e9 => ?_⟩
  subst e9
  intro w9 e9
  subst e9
  refine ⟨by decide +kernel, ?_⟩
  refine q_fillA (a' := 10) (by decide +kernel) (by decide +kernel) ?_
  intro w9 e9
  subst e9
  unfold fX11_init_J41
  refine ⟨by decide +kernel, by decide, by decide, fun w9 e9 => ?_⟩
  subst e9
  intro w9 e9
  subst e9
  refine ⟨by decide +kernel, ?_⟩
  refine ⟨by decide +kernel, by decide, by decide, fun w9 e9 => ?_⟩
  subst e9
  refine ⟨1, 12, by decide, by decide, ?_⟩
  unfold fX3_init_12
  refine ⟨by decide +kernel, by decide, by decide, fun w9 e9 => ?_⟩
  subst e9
  intro w9 e9
  subst e9
  refine ⟨by decide +kernel, ?_⟩
  refine q_fillA (a' := 13) (by decide +kernel) (by decide +kernel) ?_
  refine ⟨by decide +kernel, ?_⟩
  intro w9 e9
  subst e9
  refine ⟨by decide +kernel, ?_⟩
  refine ⟨by decide +kernel, by decide, by decide, fun w9 e9 => ?_⟩
  subst e9
  refine ⟨1, 12, by decide, by decide, ?_⟩
  unfold fX3_init_14
  refine ⟨by decide +kernel, by decide, by decide, fun w9 e9 => ?_⟩
  subst e9
  intro w9 e9
  subst e9
  refine ⟨by decide +kernel, ?_⟩
  refine q_fillA (a' := 15) (by decide +kernel) (by decide +kernel) ?_
  refine ⟨by decide +kernel, ?_⟩
  intro w9 e9
  subst e9
  refine ⟨by decide +kernel, ?_⟩
  refine ⟨by decide +kernel, by decide, by decide, fun w9 e9 => ?_⟩
  subst e9
  refine ⟨1, 12, by decide, by decide, ?_⟩
  unfold fX3_init_16
  refine ⟨by decide +kernel, by decide, by decide, fun w9 e9 => ?_⟩
  subst e9
  intro w9 e9
  subst e9
  refine ⟨by decide +kernel, ?_⟩
  refine q_fillA (a' := 17) (by decide +kernel) (by decide +kernel) ?_
  refine ⟨by decide +kernel, ?_⟩
  intro w9 e9
  subst e9
  refine ⟨by decide +kernel, ?_⟩
  refine ⟨by decide +kernel, by decide, by decide, fun w9 e9 => ?_⟩
  subst e9
  refine ⟨1, 12, by decide, by decide, ?_⟩
  unfold fX3_init_18
  refine ⟨by decide +kernel, by decide, by decide, fun w9 e9 => ?_⟩
  subst e9
  intro w9 e9
  subst e9
  refine ⟨by decide +kernel, ?_⟩
  refine q_fillA (a' := 19) (by decide +kernel) (by decide +kernel) ?_
  refine ⟨by decide +kernel, ?_⟩
  intro w9 e9
  subst e9
  unfold fX11_init_J75
  refine ⟨by decide +kernel, by decide, by decide, fun w9 e9 => ?_⟩
  subst e9
  intro w9 e9
  subst e9
  unfold fX11_init_J82
  refine ⟨by decide +kernel, by decide, by decide, fun w9 e9 => ?_⟩
  subst e9
  refine ⟨2, 32, by decide, by decide, ?_⟩
  unfold fX6_init_21
  refine ⟨by decide +kernel, by decide, by decide, fun w9 e9 => ?_⟩
  subst e9
  intro w9 e9
  subst e9
  refine ⟨by decide +kernel, by decide, by decide, fun w9 e9 => ?_⟩
  subst e9
  intro w9 e9
  subst e9
  intro w9 e9
  subst e9
  unfold fX11_init_J93
  refine ⟨by decide +kernel, by decide, by decide, fun w9 e9 => ?_⟩
  subst e9
  refine ⟨4, 7, by decide, by decide, ?_⟩
  unfold fX8_init_24
  intro w9 e9
  subst e9
  intro w9 e9
  subst e9
  refine ⟨by decide +kernel, by decide, by decide, fun w9 e9 => ?_⟩
  subst e9
  intro w9 e9
  subst e9
  refine ⟨by decide +kernel, by decide, by decide, fun w9 e9 => ?_⟩
  subst e9
  intro w9 e9
  subst e9
  refine ⟨by decide +kernel, by decide, by decide, fun w9 e9 => ?_⟩
  subst e9
  intro w9 e9
  subst e9
  refine ⟨by decide +kernel, by decide, by decide, fun w9 e9 => ?_⟩
  subst e9
  intro w9 e9
  subst e9
  intro w9 e9
  subst e9
  unfold fX11_init_J104
  refine ⟨by decide +kernel, by decide, by decide, fun w9 e9 => ?_⟩
  subst e9
  refine ⟨1, 121, by decide, by decide, ?_⟩
  unfold fX9_init_29
  refine ⟨by decide +kernel, by decide, by decide, fun w9 e9 => ?_⟩
  subst e9
  intro w9 e9
  subst e9
  intro w9 e9
  subst e9
  unfold fX11_init_J115
  refine ⟨by decide +kernel, by decide, by decide, fun w9 e9 => ?_⟩
  subst e9
  refine ⟨1, 8, by decide, by decide, ?_⟩
  unfold fX4_init_31
  intro w9 e9
  subst e9
  refine ⟨by decide +kernel, by decide, by decide, fun w9 e9 => ?_⟩
  subst e9
  intro w9 e9
  subst e9
  intro w9 e9
  subst e9
  unfold fX11_init_J126
  refine ⟨by decide +kernel, by decide, by decide, fun w9 e9 => ?_⟩
  subst e9
  refine ⟨30, 608, by decide, by decide, ?_⟩
  unfold fX0_init_40
  refine ⟨by decide +kernel, by decide, by decide, fun w9 e9 => ?_⟩
  subst e9
  intro w9 e9
  subst e9
  refine ⟨by decide +kernel, by decide, by decide, fun w9 e9 => ?_⟩
  subst e9
  intro w9 e9
  subst e9
  refine ⟨by decide +kernel, by decide, by decide, fun w9 e9 => ?_⟩
  subst e9
  intro w9 e9
  subst e9
  refine ⟨by decide +kernel, by decide, by decide, fun w9 e9 => ?_⟩
  subst e9
  intro w9 e9
  subst e9
  refine ⟨by decide +kernel, by decide, by decide, fun w9 e9 => ?_⟩
  subst e9
  intro w9 e9
  subst e9
  refine ⟨by decide +kernel, by decide, by decide, fun w9 e9 => ?_⟩
  subst e9
  intro w9 e9
  subst e9
  refine ⟨by decide +kernel, by decide, by decide, fun w9 e9 => ?_⟩
  subst e9
  intro w9 e9
  subst e9
  refine ⟨by decide +kernel, by decide, by decide, fun w9 e9 => ?_⟩
  subst e9
  intro w9 e9
  subst e9
  refine ⟨by decide +kernel, by decide, by decide, fun w9 e9 => ?_⟩
  subst e9
  intro w9 e9
  subst e9
  refine ⟨by decide +kernel, by decide, by decide, fun w9 e9 => ?_⟩
  subst e9
  intro w9 e9
  subst e9
  refine ⟨by decide +kernel, ?_⟩
  refine q_fillA (a' := 69) (by decide +kernel) (by decide +kernel) ?_
  intro w9 e9
  subst e9
  unfold fX11_init_J137
  refine ⟨by decide +kernel, by decide, by decide, fun w9 e9 => ?_⟩
  subst e9
  refine ⟨30, 608, by decide, by decide, ?_⟩
  unfold fX0_init_80
  refine ⟨by decide +kernel, by decide, by decide, fun w9 e9 => ?_⟩
  subst e9
  intro w9 e9
  subst e9
  refine ⟨by decide +kernel, by decide, by decide, fun w9 e9 => ?_⟩
  subst e9
  intro w9 e9
  subst e9
  refine ⟨by decide +kernel, by decide, by decide, fun w9 e9 => ?_⟩
  subst e9
  intro w9 e9
  subst e9
  refine ⟨by decide +kernel, by decide, by decide, fun w9 e9 => ?_⟩
  subst e9
  intro w9 e9
  subst e9
  refine ⟨by decide +kernel, by decide, by decide, fun w9 e9 => ?_⟩
  subst e9
  intro w9 e9
  subst e9
  refine ⟨by decide +kernel, by decide, by decide, fun w9 e9 => ?_⟩
  subst e9
  intro w9 e9
  subst e9
  refine ⟨by decide +kernel, by decide, by decide, fun w9 e9 => ?_⟩
  subst e9
  intro w9 e9
  subst e9
  refine ⟨by decide +kernel, by decide, by decide, fun w9 e9 => ?_⟩
  subst e9
  intro w9 e9
  subst e9
  refine ⟨by decide +kernel, by decide, by decide, fun w9 e9 => ?_⟩
  subst e9
  intro w9 e9
  subst e9
  refine ⟨by decide +kernel, by decide, by decide, fun w9 e9 => ?_⟩
  subst e9
  intro w9 e9
  subst e9
  refine ⟨by decide +kernel, ?_⟩
  refine q_fillA (a' := 109) (by decide +kernel) (by decide +kernel) ?_
  intro w9 e9
  subst e9
  unfold fX11_init_J148
  refine ⟨by decide +kernel, by decide, by decide, fun w9 e9 => ?_⟩
  subst e9
  refine ⟨5, 133, by decide, by decide, ?_⟩
  unfold fX5_init_120
  intro w9 e9
  subst e9
  refine ⟨by decide +kernel, by decide, by decide, fun w9 e9 => ?_⟩
  subst e9
  intro w9 e9
  subst e9
  refine ⟨by decide +kernel, by decide, by decide, fun w9 e9 => ?_⟩
  subst e9
  intro w9 e9
  subst e9
  refine ⟨by decide +kernel, by decide, by decide, fun w9 e9 => ?_⟩
  subst e9
  intro w9 e9
  subst e9
  refine ⟨by decide +kernel, by decide, by decide, fun w9 e9 => ?_⟩
  subst e9
  refine ⟨1, 12, by decide, by decide, ?_⟩
  unfold fX3_init_124
  refine ⟨by decide +kernel, by decide, by decide, fun w9 e9 => ?_⟩
  subst e9
  intro w9 e9
  subst e9
  refine ⟨by decide +kernel, ?_⟩
  refine q_fillA (a' := 125) (by decide +kernel) (by decide +kernel) ?_
  intro w9 e9
  subst e9
  intro w9 e9
  subst e9
  unfold fX11_init_J159
  refine ⟨by decide +kernel, by decide, by decide, fun w9 e9 => ?_⟩
  subst e9
  refine ⟨5, 133, by decide, by decide, ?_⟩
  unfold fX5_init_130
  intro w9 e9
  subst e9
  refine ⟨by decide +kernel, by decide, by decide, fun w9 e9 => ?_⟩
  subst e9
  intro w9 e9
  subst e9
  refine ⟨by decide +kernel, by decide, by decide, fun w9 e9 => ?_⟩
  subst e9
  intro w9 e9
  subst e9
  refine ⟨by decide +kernel, by decide, by decide, fun w9 e9 => ?_⟩
  subst e9
  intro w9 e9
  subst e9
  refine ⟨by decide +kernel, by decide, by decide, fun w9 e9 => ?_⟩
  subst e9
  refine ⟨1, 12, by decide, by decide, ?_⟩
  unfold fX3_init_134
  refine ⟨by decide +kernel, by decide, by decide, fun w9 e9 => ?_⟩
  subst e9
  intro w9 e9
  subst e9
  refine ⟨by decide +kernel, ?_⟩
  refine q_fillA (a' := 135) (by decide +kernel) (by decide +kernel) ?_
  intro w9 e9
  subst e9
  intro w9 e9
  subst e9
  exact hk
/-- the final references stand: by program -/
def zMadeB (w : zW) : Bool := (List.range 260).all fun n => (!zfix n || gI w 0 n == 1) && (zsh n == 99 || (List.range (if zsh n < 20 then 43 else if zsh n = 24 ∨ zsh n = 25 then zln n else 0)).all fun k => !(ztag true n k == 2 && ztag false n k == 3) || (gR w n k == zst n k && gR w n k != 0))
theorem zMade_of {w : zW} (h : zMadeB w = true) : zMade w := by
  have h1 : ∀ n, n < 260 → (zfix n = true → gI w 0 n = 1) ∧ (zsh n ≠ 99 → ∀ k, k < (if zsh n < 20 then 43 else if zsh n = 24 ∨ zsh n = 25 then zln n else 0) → ztag true n k = 2 → ztag false n k = 3 → gR w n k = zst n k ∧ gR w n k ≠ 0) := by
    intro n hn
    have h2 := List.all_eq_true.mp h n (List.mem_range.mpr hn)
    simp only [Bool.and_eq_true, Bool.or_eq_true, Bool.not_eq_true', beq_iff_eq] at h2
    refine ⟨fun hf => h2.1.resolve_left (by rw [hf]; decide), fun h99 k hk t1 t2 => ?_⟩
    have h3 := List.all_eq_true.mp (h2.2.resolve_left h99) k (List.mem_range.mpr hk)
    simp only [t1, t2, beq_self_eq_true, Bool.and_self, Bool.not_true, Bool.false_or, Bool.and_eq_true, beq_iff_eq, bne_iff_ne, ne_eq] at h3
    exact h3
  refine ⟨fun n hf => ?_, fun n k hk h99 t1 t2 => ?_⟩
  · by_cases hn : n < 260
    · exact (h1 n hn).1 hf
    · have hl := zsh_lt3 (n := n) (by intro e; unfold zfix at hf; rw [e] at hf; simp at hf) (fun q => by unfold zfix at hf; rw [Nat.ble_eq_true_of_le q] at hf; simp at hf)
      exact absurd hl hn
  · have hl := zsh_lt3 h99 (fun q => by
      have e : ztag true n k = 0 := by
        unfold ztag
        rw [zsh_big q]
        rfl
      rw [e] at t1
      cases t1)
    refine (h1 n hl).2 h99 k ?_ t1 t2
    unfold zbd at hk
    by_cases e : zsh n < 20
    · rw [if_pos e] at hk ⊢
      exact hk
    · rw [if_neg e] at hk ⊢
      by_cases e2 : zsh n = 24 ∨ zsh n = 25
      · rw [if_pos e2]
        exact hk
      · exfalso
        unfold ztag ztg at t1
        rw [if_neg (fun z => e2 (Or.inl z))] at t1
        by_cases e3 : zsh n = 21
        · rw [if_pos e3] at t1; cases t1
        · rw [if_neg e3, if_neg (fun z => e2 (Or.inr z)), if_neg (by omega)] at t1
          cases t1
def zsB : zW :=
  let w := nW zsC 200
  let w := nW w 201
  let w := sR w 200 1 201
  let w := nW w 204
  let w := sR w 200 4 204
  let w := nW w 205
  let w := sR w 200 5 205
  let w := nW w 206
  let w := sR w 200 6 206
  let w := nW w 209
  let w := sL w 209 (0 : Int32).toNatClampNeg (1186224 : Int64)
  let w := sL w 209 (1 : Int32).toNatClampNeg (5699906 : Int64)
  let w := sL w 209 (2 : Int32).toNatClampNeg (25220 : Int64)
  let w := sL w 209 (3 : Int32).toNatClampNeg (2205662 : Int64)
  let w := sL w 209 (4 : Int32).toNatClampNeg (352 : Int64)
  let w := sL w 209 (5 : Int32).toNatClampNeg (34815243 : Int64)
  let w := sL w 209 (6 : Int32).toNatClampNeg (14190407 : Int64)
  let w := sL w 209 (7 : Int32).toNatClampNeg (445097699 : Int64)
  let w := sL w 209 (8 : Int32).toNatClampNeg (1020361 : Int64)
  let w := sL w 209 (9 : Int32).toNatClampNeg (227825 : Int64)
  let w := sL w 209 (10 : Int32).toNatClampNeg (1912 : Int64)
  let w := sL w 209 (11 : Int32).toNatClampNeg (283582 : Int64)
  let w := sL w 209 (12 : Int32).toNatClampNeg (14052286 : Int64)
  let w := sL w 209 (13 : Int32).toNatClampNeg (615403 : Int64)
  let w := sL w 209 (14 : Int32).toNatClampNeg (19741 : Int64)
  let w := sL w 209 (15 : Int32).toNatClampNeg (1891 : Int64)
  let w := sL w 209 (16 : Int32).toNatClampNeg (573 : Int64)
  let w := sL w 209 (17 : Int32).toNatClampNeg (37549136 : Int64)
  let w := sL w 209 (18 : Int32).toNatClampNeg (841579264 : Int64)
  let w := sL w 209 (19 : Int32).toNatClampNeg (1089928 : Int64)
  let w := sL w 209 (20 : Int32).toNatClampNeg (43523367 : Int64)
  let w := sR w 200 9 209
  let w := nW w 210
  let w := sR w 200 10 210
  let w := nW w 211
  let w := sR w 200 11 211
  let w := nW w 212
  let w := sR w 200 12 212
  let w := nW w 214
  let w := sR w 200 14 214
  let w := nW w 215
  let w := sR w 200 15 215
  let w := nW w 217
  let w := sR w 200 17 217
  let w := nW w 218
  let w := sR w 200 18 218
  let w := nW w 219
  let w := sR w 200 19 219
  let w := nW w 220
  let w := sR w 200 20 220
  let w := nW w 222
  let w := sR w 200 22 222
  let w := nW w 223
  let w := sR w 200 23 223
  let w := nW w 224
  let w := sR w 200 24 224
  let w := nW w 225
  let w := sR w 200 25 225
  let w := nW w 226
  let w := sR w 200 26 226
  let w := nW w 227
  let w := sR w 200 27 227
  let w := nW w 228
  let w := sR w 200 28 228
  let w := nW w 234
  let w := sR w 200 34 234
  let w := nW w 235
  let w := sR w 200 35 235
  let w := nW w 236
  let w := sR w 200 36 236
  let w := nW w 237
  let w := sR w 200 37 237
  let w := nW w 238
  let w := sR w 200 38 238
  let w := nW w 239
  let w := sR w 200 39 239
  let w := nW w 240
  let w := sR w 200 40 240
  let w := nW w 241
  let w := sR w 200 41 241
  w
set_option maxRecDepth 100000 in
set_option maxHeartbeats 4000000 in
theorem q_X12_init {k : zW → Prop} (hk : fX12_standsAsAlways 0 zsB (fun w1 => fX12_begins w1 k)) : fX12_init 29 11029 200 (nW zsC 200) k := by
  unfold fX12_init
  refine ⟨by decide +kernel, by decide, by decide, fun w9 e9 => ?_⟩
  subst e9
  intro w9 e9
  subst e9
  unfold fX12_init_J13
  refine ⟨by decide +kernel, by decide, by decide, fun w9 e9 => ?_⟩
  subst e9
  intro w9 e9
  subst e9
  unfold fX12_init_J22
  refine ⟨by decide +kernel, by decide, by decide, fun w9 e9 => ?_⟩
  subst e9
  intro w9 e9
  subst e9
  unfold fX12_init_J31
  refine ⟨by decide +kernel, by decide, by decide, fun w9 e9 => ?_⟩
  subst e9
  intro w9 e9
  subst e9
  unfold fX12_init_J40
  refine ⟨by decide +kernel, by decide, by decide, fun w9 e9 => ?_⟩
  subst e9
  intro w9 e9
  subst e9
  intro w9 e9
  subst e9
  intro w9 e9
  subst e9
  intro w9 e9
  subst e9
  intro w9 e9
  subst e9
  intro w9 e9
  subst e9
  intro w9 e9
  subst e9
  intro w9 e9
  subst e9
  intro w9 e9
  subst e9
  intro w9 e9
  subst e9
  intro w9 e9
  subst e9
  intro w9 e9
  subst e9
  intro w9 e9
  subst e9
  intro w9 e9
  subst e9
  intro w9 e9
  subst e9
  intro w9 e9
  subst e9
  intro w9 e9
  subst e9
  intro w9 e9
  subst e9
  intro w9 e9
  subst e9
  intro w9 e9
  subst e9
  intro w9 e9
  subst e9
  intro w9 e9
  subst e9
  unfold fX12_init_J189
  refine ⟨by decide +kernel, by decide, by decide, fun w9 e9 => ?_⟩
  subst e9
  intro w9 e9
  subst e9
  refine ⟨by decide +kernel, by decide, by decide, fun w9 e9 => ?_⟩
  subst e9
  intro w9 e9
  subst e9
  unfold fX12_init_J206
  refine ⟨by decide +kernel, by decide, by decide, fun w9 e9 => ?_⟩
  subst e9
  intro w9 e9
  subst e9
  refine ⟨by decide +kernel, by decide, by decide, fun w9 e9 => ?_⟩
  subst e9
  intro w9 e9
  subst e9
  unfold fX12_init_J223
  refine ⟨by decide +kernel, by decide, by decide, fun w9 e9 => ?_⟩
  subst e9
  intro w9 e9
  subst e9
  refine ⟨by decide +kernel, by decide, by decide, fun w9 e9 => ?_⟩
  subst e9
  intro w9 e9
  subst e9
  refine ⟨by decide +kernel, by decide, by decide, fun w9 e9 => ?_⟩
  subst e9
  intro w9 e9
  subst e9
  refine ⟨by decide +kernel, by decide, by decide, fun w9 e9 => ?_⟩
  subst e9
  intro w9 e9
  subst e9
  unfold fX12_init_J255
  refine ⟨by decide +kernel, by decide, by decide, fun w9 e9 => ?_⟩
  subst e9
  intro w9 e9
  subst e9
  refine ⟨by decide +kernel, by decide, by decide, fun w9 e9 => ?_⟩
  subst e9
  intro w9 e9
  subst e9
  unfold fX12_init_J271
  refine ⟨by decide +kernel, by decide, by decide, fun w9 e9 => ?_⟩
  subst e9
  intro w9 e9
  subst e9
  refine ⟨by decide +kernel, by decide, by decide, fun w9 e9 => ?_⟩
  subst e9
  intro w9 e9
  subst e9
  unfold fX12_init_J286
  refine ⟨by decide +kernel, by decide, by decide, fun w9 e9 => ?_⟩
  subst e9
  intro w9 e9
  subst e9
  refine ⟨by decide +kernel, by decide, by decide, fun w9 e9 => ?_⟩
  subst e9
  intro w9 e9
  subst e9
  unfold fX12_init_J303
  refine ⟨by decide +kernel, by decide, by decide, fun w9 e9 => ?_⟩
  subst e9
  intro w9 e9
  subst e9
  refine ⟨by decide +kernel, by decide, by decide, fun w9 e9 => ?_⟩
  subst e9
  intro w9 e9
  subst e9
  refine ⟨by decide +kernel, by decide, by decide, fun w9 e9 => ?_⟩
  subst e9
  intro w9 e9
  subst e9
  refine ⟨by decide +kernel, by decide, by decide, fun w9 e9 => ?_⟩
  subst e9
  intro w9 e9
  subst e9
  refine ⟨by decide +kernel, by decide, by decide, fun w9 e9 => ?_⟩
  subst e9
  intro w9 e9
  subst e9
  refine ⟨by decide +kernel, by decide, by decide, fun w9 e9 => ?_⟩
  subst e9
  intro w9 e9
  subst e9
  refine ⟨by decide +kernel, by decide, by decide, fun w9 e9 => ?_⟩
  subst e9
  intro w9 e9
  subst e9
  unfold fX12_init_J357
  refine ⟨by decide +kernel, by decide, by decide, fun w9 e9 => ?_⟩
  subst e9
  intro w9 e9
  subst e9
  refine ⟨by decide +kernel, by decide, by decide, fun w9 e9 => ?_⟩
  subst e9
  intro w9 e9
  subst e9
  unfold fX12_init_J373
  refine ⟨by decide +kernel, by decide, by decide, fun w9 e9 => ?_⟩
  subst e9
  intro w9 e9
  subst e9
  unfold fX12_init_J382
  refine ⟨rfl, zMade_of (by decide +kernel), ?_⟩
  exact hk

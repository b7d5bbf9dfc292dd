/-! Level 2: the call judged -/
def zjans (B : zBk) (N : zNt) (x : Nat) : Int32 := if x = 0 then zfind N.1 (zcb B N) else if x = 1 then zfind N.1 (znl B N) else Int32.ofNat (zFL B (zNh B N N.1)).length
theorem q12_judged {B : zBk} {S : Nat → Int32} {N : zNt} {b nn x : Nat} {w : zW} {k : Int32 → zW → Prop} (h : zInv B S N b nn w) (hx : x ≤ 2) (hk : ∀ v : zW, v.2 = w.2 → (∀ a c, a ≠ 226 → a ≠ 227 → a ≠ 228 → (a < 234 ∨ 239 < a) → (a = 200 → c ≠ 29 ∧ c ≠ 30 ∧ c ≠ 31 ∧ c ≠ 33) → gI v a c = gI w a c) → k (zjans B N x) v) : ∃ n9, fX12_judged_L19 k n9 (Int32.ofNat x) (0 : Int32) w := by
  have hwf := iv_wf h
  have hrb := iv_rb h
  have h4 := wf_W hwf
  have h8 := wf_R hwf
  obtain ⟨hN, n0, -, nl, -, -⟩ := iv_no h
  have h40 := hN.1
  have hS := (iv_ha h).2.1
  have hBv : ∀ u : zW, (∀ a c, a = 210 ∨ a = 211 ∨ a = 223 ∨ a = 224 ∨ a = 225 → gI u a c = gI w a c) → zRB B u := fun u hh => zRB_of hrb (fun k _ => hh 210 k (by omega)) (fun k _ => hh 211 k (by omega)) (fun k => hh 223 k (by omega)) (fun k => hh 224 k (by omega)) (fun k => hh 225 k (by omega)) hwf
  refine zinv (fun m (s : Int32 × zW) => fX12_judged_L19 k m (Int32.ofNat x) s.1 s.2) (fun i s => ∃ v : zW, s = (Int32.ofNat i, v) ∧ v.2 = w.2 ∧ (∀ a c, a ≠ 226 → gI v a c = gI w a c) ∧ ∀ j, j < i → gI v 226 j = S j) 12 (s0 := (0, w)) ⟨w, rfl, rfl, fun _ _ _ => rfl, fun j hj => absurd hj (Nat.not_lt_zero j)⟩ ?_ ?_
  · rintro m s ⟨v, rfl, v2, vf, vS⟩
    rw [fX12_judged_L19]
    try dsimp only
    refine ⟨fun _ => ?_, fun q => absurd (by decide) q⟩
    refine q12_forgets ?_
    obtain ⟨u0, hu0⟩ : ∃ u0, u0 = aI v 220 (fun b => if b < 4 then (-1 : Int32) else if b < 12 then gI v 210 (b + 4) else gI v 220 b) := ⟨_, rfl⟩
    rw [← hu0]
    -- the lines, one after the other
    refine zinv (fun m (s : Int32 × Int32 × Int32 × zW) => fX12_judged_L54 k m (Int32.ofNat x) s.1 s.2.1 s.2.2.1 s.2.2.2) (fun i s => ∃ u : zW, s = (zfind i (zcb B N), (if x = 1 then zfind i (znl B N) else zN1), Int32.ofNat i, u) ∧ u.2 = w.2 ∧ (∀ a c, a ≠ 226 → a ≠ 227 → a ≠ 228 → (a < 234 ∨ 239 < a) → (a = 220 → 12 ≤ c) → (a = 200 → c ≠ 29 ∧ c ≠ 30 ∧ c ≠ 31 ∧ c ≠ 33) → gI u a c = gI w a c) ∧ (∀ j, j < 12 → gI u 226 j = S j) ∧ (∀ j, j < 12 → gI u 220 j = zNh B N i j)) N.1 (s0 := ((-1 : Int32), (-1 : Int32), 0, u0)) ?_ ?_ ?_
    · refine ⟨u0, ?_, by rw [hu0]; exact v2, fun a c q1 q2 q3 q4 q5 q6 => ?_, fun j hj => ?_, fun j hj => ?_⟩
      · by_cases z : x = 1
        · rw [if_pos z]; rfl
        · rw [if_neg z]; rfl
      · by_cases z : a = 220
        · subst z
          have := q5 rfl
          rw [hu0, gI_aI_eq, if_neg (by omega), if_neg (by omega)]
          exact vf 220 c q1
        · rw [hu0, gI_aI_ne z]; exact vf a c q1
      · rw [hu0, gI_aI_ne (by decide)]; exact vS j hj
      · rw [hu0, gI_aI_eq]
        show _ = zbeg B j
        rw [zbeg]
        by_cases z : j < 4
        · rw [if_pos z, if_pos z]; rfl
        · rw [if_neg z, if_pos hj, if_neg z, vf 210 _ (by decide)]
          have := rb_Ct hrb (show j - 4 < 8 by omega)
          rw [show 8 + (j - 4) = j + 4 by omega] at this
          exact this
    · rintro m s ⟨u, rfl, u2, uf, uS, uT⟩
      have e0 : gI u 217 0 = Int32.ofNat N.1 := by rw [uf 217 0 (by omega) (by omega) (by omega) (by omega) (by omega) (by omega)]; exact n0
      rw [fX12_judged_L54]
      try dsimp only
      rw [show (0 : Int32).toNatClampNeg = 0 from rfl, e0]
      refine ⟨fun _ => ?_, fun q => absurd (Int32.le_refl _) q⟩
      refine q12_gathers hwf (hBv u (fun a c q => uf a c (by omega) (by omega) (by omega) (by omega) (by omega) (by omega))) (zNh_hd hwf hN N.1 (Nat.le_refl _)) uT (fun t t2 tf tg => ?_)
      have e31 : gI t 200 31 = Int32.ofNat (zFL B (zNh B N N.1)).length := by rw [tg.1, zGL_FL]
      have tS : ∀ j, j < 12 → gI t 226 j = S j := fun j hj => by rw [tf 226 j (by omega) (by omega) (by omega) (by omega)]; exact uS j hj
      -- what was held is held again
      refine zinv (fun m (s : Int32 × zW) => fX12_judged_L129 k m (Int32.ofNat x) (zfind N.1 (zcb B N)) (if x = 1 then zfind N.1 (znl B N) else zN1) s.1 s.2) (fun i s => ∃ y : zW, s = (Int32.ofNat i, y) ∧ y.2 = w.2 ∧ (∀ a c, (a = 220 → 12 ≤ c) → gI y a c = gI t a c) ∧ ∀ j, j < i → gI y 220 j = S j) 12 (s0 := (0, t)) ⟨t, rfl, t2.trans u2, fun _ _ _ => rfl, fun j hj => absurd hj (Nat.not_lt_zero j)⟩ ?_ ?_
      · rintro m s ⟨y, rfl, y2, yf, yS⟩
        have hkv := hk y y2 (fun a c q1 q2 q3 q4 q5 => by
          by_cases z : a = 220 ∧ c < 12
          · rw [z.1, yS c z.2]; exact (hS c z.2).symm
          · rw [yf a c (by omega), tf a c q2 q3 q4 q5]; exact uf a c q1 q2 q3 q4 (by omega) q5)
        rw [fX12_judged_L129]
        try dsimp only
        refine ⟨fun _ => ⟨fun q => ⟨fun q2 => ?_, fun q2 => ?_⟩, fun q => ?_⟩, fun q => absurd (by decide) q⟩
        · have z0 : ¬ x = 0 := fun z => q (by rw [z]; rfl)
          have z1 : ¬ x = 1 := fun z => q2 (by rw [z]; rfl)
          rw [zjans, if_neg z0, if_neg z1] at hkv
          rw [yf 200 31 (by omega), e31]
          exact hkv
        · have z1 : x = 1 := (zi_eq (b := 1) (by omega) (by decide)).mp q2
          rw [zjans, if_neg (by omega), if_pos z1] at hkv
          rw [if_pos z1]
          exact hkv
        · have z0 : x = 0 := (zi_eq (b := 0) (by omega) (by decide)).mp q
          rw [zjans, if_pos z0] at hkv
          exact hkv
      · rintro i m s hi ⟨y, rfl, y2, yf, yS⟩ hc
        rw [fX12_judged_L129]
        try dsimp only
        refine ⟨fun q => absurd q (by rw [zl12]; exact zi_nge hi (by decide)), fun _ => ⟨zi_in (by omega) (by omega), zi_in (by omega) (by omega), ?_⟩⟩
        intro w13 e13
        rw [zi_nat (show i < 2 ^ 31 by omega), yf 226 i (by omega), tS i hi] at e13
        rw [zl1, zi_add]
        refine hc _ ⟨w13, rfl, by rw [e13]; exact y2, fun a c q => by rw [e13, gI_sI, if_neg (fun z => by have := q z.1; omega)]; exact yf a c q, fun j hj => ?_⟩
        rw [e13]
        by_cases z : j = i
        · rw [z, gI_sI_eq]
        · rw [gI_sI_ne2 z]; exact yS j (by omega)
    · rintro i m s hi ⟨u, rfl, u2, uf, uS, uT⟩ hc
      have e0 : gI u 217 0 = Int32.ofNat N.1 := by rw [uf 217 0 (by omega) (by omega) (by omega) (by omega) (by omega) (by omega)]; exact n0
      have hu217 : ∀ c, gI u 217 c = gI w 217 c := fun c => uf 217 c (by omega) (by omega) (by omega) (by omega) (by omega) (by omega)
      have hsl := zNslot_lt hwf hN hi
      have hSb := zfind_S (show i < 100 by omega) (zcb B N)
      have hSl := zfind_S (show i < 100 by omega) (znl B N)
      rw [fX12_judged_L54]
      try dsimp only
      rw [show (0 : Int32).toNatClampNeg = 0 from rfl, e0]
      refine ⟨fun q => absurd q (zi_nge hi (by omega)), fun _ => ?_⟩
      rw [zl4, zi_mul, zl1, zi_add]
      refine q12_doesLine hwf (hBv u (fun a c q => uf a c (by omega) (by omega) (by omega) (by omega) (by omega) (by omega))) (zNh_hd hwf hN i (by omega)) hN hi uT (by rw [hu217, hu217, hu217, hu217]; exact nl i hi) ?_
      obtain ⟨y, hy⟩ : ∃ y, y = (if zNcan B N i (zNh B N i) = true then sI u 220 (zNslot N i) (zNval N i) else u) := ⟨_, rfl⟩
      rw [← hy]
      have y2 : y.2 = w.2 := by
        rw [hy]
        by_cases z : zNcan B N i (zNh B N i) = true
        · rw [if_pos z]; exact u2
        · rw [if_neg z]; exact u2
      have yf : ∀ a c, (a = 220 → 12 ≤ c) → gI y a c = gI u a c := fun a c q => by
        rw [hy]
        by_cases z : zNcan B N i (zNh B N i) = true
        · rw [if_pos z, gI_sI, if_neg (fun x => by have := q x.1; omega)]
        · rw [if_neg z]
      have yT : ∀ j, j < 12 → gI y 220 j = zNh B N (i + 1) j := fun j hj => by
        rw [hy, zNh_S]
        by_cases z : zNcan B N i (zNh B N i) = true
        · rw [if_pos z, if_pos z, gI_sI, zup]
          by_cases e : j = zNslot N i
          · rw [if_pos ⟨rfl, e⟩, if_pos e]
          · rw [if_neg (fun x => e x.2), if_neg e]; exact uT j hj
        · rw [if_neg z, if_neg z]; exact uT j hj
      have yall : ∀ a c, a ≠ 226 → a ≠ 227 → a ≠ 228 → (a < 234 ∨ 239 < a) → (a = 220 → 12 ≤ c) → (a = 200 → c ≠ 29 ∧ c ≠ 30 ∧ c ≠ 31 ∧ c ≠ 33) → gI y a c = gI w a c := fun a c q1 q2 q3 q4 q5 q6 => by rw [yf a c q5]; exact uf a c q1 q2 q3 q4 q5 q6
      have yS : ∀ j, j < 12 → gI y 226 j = S j := fun j hj => by rw [yf 226 j (by omega)]; exact uS j hj
      intro v15 e15
      have x15 : v15 = zfind (i + 1) (zcb B N) := by
        rw [hSb]
        cases hq : zNcan B N i (zNh B N i) with
        | true =>
          rw [hq] at e15
          have hf : zcb B N i = false := by rw [zcb, hq]; rfl
          rw [hf]
          have e := e15.trans (if_pos (show ¬ Int32.ofNat (zb2n true) = 0 by decide))
          rw [e]
          by_cases z : zfind i (zcb B N) = zN1
          · rw [if_pos z, if_neg (by decide)]; exact z
          · rw [if_neg z]
        | false =>
          rw [hq] at e15
          have ht : zcb B N i = true := by rw [zcb, hq]; rfl
          have e := e15.trans (if_neg (show ¬ ¬ Int32.ofNat (zb2n false) = 0 from fun z => z rfl))
          rw [e]
          rcases zfind_or i (zcb B N) with ⟨f1, f2⟩ | ⟨j, j1, j2, j3, j4⟩
          · rw [if_pos f1, if_pos ht, f1]
            exact if_neg (by decide)
          · rw [if_neg (show ¬ zfind i (zcb B N) = zN1 by rw [j2]; exact zN1_ne (n := j) (by omega)), j2]
            exact if_pos (Int32.not_lt.mp (zi_0le (n := j) (by omega)))
      rw [x15]
      have hc2 : ∀ t : zW, t.2 = w.2 → (∀ a c, a ≠ 226 → a ≠ 227 → a ≠ 228 → (a < 234 ∨ 239 < a) → (a = 220 → 12 ≤ c) → (a = 200 → c ≠ 29 ∧ c ≠ 30 ∧ c ≠ 31 ∧ c ≠ 33) → gI t a c = gI w a c) → (∀ j, j < 12 → gI t 226 j = S j) → (∀ j, j < 12 → gI t 220 j = zNh B N (i + 1) j) → fX12_judged_L54 k m (Int32.ofNat x) (zfind (i + 1) (zcb B N)) (if x = 1 then zfind (i + 1) (znl B N) else zN1) (Int32.ofNat (i + 1)) t := fun t p1 p2 p3 p4 => hc (_, _, _, t) ⟨t, rfl, p1, p2, p3, p4⟩
      -- the room of those that fit, if it is asked for
      rw [fX12_judged_J88]
      have hz0 : zfind i (znl B N) = zN1 ∨ ∃ j, j < i ∧ zfind i (znl B N) = Int32.ofNat j := by
        rcases zfind_or i (znl B N) with ⟨f1, _⟩ | ⟨j, j1, j2, _⟩
        · exact Or.inl f1
        · exact Or.inr ⟨j, j1, j2⟩
      by_cases hx1 : x = 1
      · rw [if_pos hx1]
        rcases hz0 with f1 | ⟨j, j1, j2⟩
        · rw [f1]
          refine ⟨fun q => absurd q (by decide), fun _ => ⟨fun q => absurd (show Int32.ofNat x = 1 by rw [hx1]; rfl) q, fun _ => ?_⟩⟩
          refine q12_gathers hwf (hBv y (fun a c q => yall a c (by omega) (by omega) (by omega) (by omega) (by omega) (by omega))) (zNh_hd hwf hN (i + 1) (by omega)) yT (fun t t2 tf tg => ?_)
          have e31 : gI t 200 31 = Int32.ofNat (zFL B (zNh B N (i + 1))).length := by rw [tg.1, zGL_FL]
          have hFl := zFL_6561 hwf (zNh B N (i + 1))
          intro v19 e19
          rw [e31] at e19
          have x19 : v19 = zfind (i + 1) (znl B N) := by
            rw [hSl, if_pos f1]
            by_cases z : (zFL B (zNh B N (i + 1))).length = 0
            · have ht : znl B N i = true := by rw [znl, z]; rfl
              rw [if_pos ht]
              exact e19.trans (if_neg (fun u => u (by rw [z]; rfl)))
            · have hf : znl B N i = false := beq_false_of_ne z
              rw [hf, if_neg (by decide)]
              exact e19.trans (if_pos (show ¬ Int32.ofNat (zFL B (zNh B N (i + 1))).length = 0 from fun u => z ((zi_eq (b := 0) (by omega) (by decide)).mp u)))
          rw [x19, zl1, zi_add]
          rw [if_pos hx1] at hc2
          exact hc2 t (t2.trans y2) (fun a c q1 q2 q3 q4 q5 q6 => by rw [tf a c q2 q3 q4 q6]; exact yall a c q1 q2 q3 q4 q5 q6) (fun j hj => by rw [tf 226 j (by omega) (by omega) (by omega) (by omega)]; exact yS j hj) (fun j hj => by rw [tf 220 j (by omega) (by omega) (by omega) (by omega)]; exact yT j hj)
        · refine ⟨fun _ => ?_, fun q => absurd (show (0 : Int32) ≤ zfind i (znl B N) by rw [j2]; exact Int32.not_lt.mp (zi_0le (n := j) (by omega))) q⟩
          rw [zl1, zi_add]
          rw [if_pos hx1, hSl, if_neg (show ¬ zfind i (znl B N) = zN1 by rw [j2]; exact zN1_ne (n := j) (by omega))] at hc2
          exact hc2 y y2 yall yS yT
      · rw [if_neg hx1]
        refine ⟨fun q => absurd q (by decide), fun _ => ⟨fun _ => ?_, fun q => absurd ((zi_eq (b := 1) (by omega) (by decide)).mp q) hx1⟩⟩
        rw [zl1, zi_add]
        rw [if_neg hx1] at hc2
        exact hc2 y y2 yall yS yT
  · rintro i m s hi ⟨v, rfl, v2, vf, vS⟩ hc
    rw [fX12_judged_L19]
    try dsimp only
    refine ⟨fun q => absurd q (by rw [zl12]; exact zi_nge hi (by decide)), fun _ => ⟨zi_in (by omega) (by omega), zi_in (by omega) (by omega), ?_⟩⟩
    intro w23 e23
    rw [zi_nat (show i < 2 ^ 31 by omega), vf 220 i (by decide), hS i hi] at e23
    rw [zl1, zi_add]
    refine hc _ ⟨w23, rfl, by rw [e23]; exact v2, fun a c q => by rw [e23, gI_sI_ne q]; exact vf a c q, fun j hj => ?_⟩
    rw [e23]
    by_cases z : j = i
    · rw [z, gI_sI_eq]
    · rw [gI_sI_ne2 z]; exact vS j (by omega)

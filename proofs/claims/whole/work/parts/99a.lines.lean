/-! Level 2: the reference's other lines, and each -/
theorem zonceF : ∀ a b : Fin 2, (¬ ((Int32.ofNat (a.val + 2 * b.val) >>> ((0 : Int32) &&& 31)) &&& 1 = 1) ↔ a.val = 0) ∧ (¬ ((Int32.ofNat (a.val + 2 * b.val) >>> ((1 : Int32) &&& 31)) &&& 1 = 1) ↔ b.val = 0) ∧ (a.val = 0 → Int32.ofNat (a.val + 2 * b.val) ||| ((1 : Int32) <<< ((0 : Int32) &&& 31)) = Int32.ofNat (1 + 2 * b.val)) ∧ (b.val = 0 → Int32.ofNat (a.val + 2 * b.val) ||| ((1 : Int32) <<< ((1 : Int32) &&& 31)) = Int32.ofNat (a.val + 2)) := by decide +kernel
theorem q12_casts {sg : Nat → Nat} {n m : Nat} {j : Nat} {X : zBs} {w : zW} {k : zW → Prop} (hsg : zSg sg n) (hm : zTm (zTT sg n) m) (hj : j < m) (hX : zXok X) (hrt : zRtk sg n m j w) (hrx : zRX X w)
    (hok : ∀ v, zfG w v → (zLnC (zTT sg n) j X).1 = 0 → zRtk sg n m (zLnC (zTT sg n) j X).2.1 v → zRX (zLnC (zTT sg n) j X).2.2 v → k v) (herr : ∀ v, zfG w v → ¬ (zLnC (zTT sg n) j X).1 = 0 → zRf (zLnC (zTT sg n) j X).1 v → k v) :
    fX12_isOnce 0 w (fun r17 w17 => ((r17 = 0 → k w17) ∧ (¬ r17 = 0 → fX12_takeNumber (1 : Int32) (60 : Int32) w17 (fun r19 w19 => ∀ w20 : zW, w20 = sI w19 210 (31 : Int32).toNatClampNeg r19 → k w20)))) := by
  have hn1 := hsg.1
  obtain ⟨⟨hW, hR, hC⟩, -, -, -, -, -, h7, -⟩ := hX
  have hr := zNe_r (zTT sg n) (j + 1) 1 61
  have h54 : gI w 210 (54 : Int32).toNatClampNeg = Int32.ofNat ((if bC X.1 = 0 then 0 else 1) + 2 * (if X.2.2.isSome = true then 1 else 0)) := by
    show gI w 210 54 = _
    rw [hrx.2.2.1]
    by_cases z : X.2.2.isSome = true
    · rw [if_pos z, if_pos z]
    · rw [if_neg z, if_neg z]
  have hb1 : (if X.2.2.isSome = true then 1 else 0) < 2 := by
    by_cases z : X.2.2.isSome = true
    · rw [if_pos z]; omega
    · rw [if_neg z]; omega
  have ha1 : (if bC X.1 = 0 then 0 else 1) < 2 := by
    by_cases z : bC X.1 = 0
    · rw [if_pos z]; omega
    · rw [if_neg z]; omega
  obtain ⟨z1, -, z3, -⟩ := zonceF ⟨_, ha1⟩ ⟨_, hb1⟩
  have z1' : ¬ ((Int32.ofNat ((if bC X.1 = 0 then 0 else 1) + 2 * (if X.2.2.isSome = true then 1 else 0)) >>> ((0 : Int32) &&& 31)) &&& 1 = 1) ↔ bC X.1 = 0 := by
    refine z1.trans ⟨fun q => ?_, fun q => if_pos q⟩
    by_cases z : bC X.1 = 0
    · exact z
    · have q' : (if bC X.1 = 0 then 0 else 1) = 0 := q
      rw [if_neg z] at q'; omega
  rw [fX12_isOnce, h54]
  refine ⟨fun q => ?_, fun q => ?_⟩
  · have e0 := z1'.mp q
    have z3' : Int32.ofNat ((if bC X.1 = 0 then 0 else 1) + 2 * (if X.2.2.isSome = true then 1 else 0)) ||| ((1 : Int32) <<< ((0 : Int32) &&& 31)) = Int32.ofNat (1 + 2 * (if X.2.2.isSome = true then 1 else 0)) := z3 (if_pos e0)
    intro w2 e2 w3 e3
    rw [z3', show (54 : Int32).toNatClampNeg = 54 from rfl] at e2
    have g7 : gI w2 200 7 = Int32.ofNat j := by rw [e2, gI_sI_ne (by decide)]; exact hrt.2.2.2.2
    rw [g7, zl1, zi_add] at e3
    have i3 : ∀ a c, ¬ (a = 210 ∧ c = 54) → ¬ (a = 200 ∧ c = 7) → gI w3 a c = gI w a c := fun a c q1 q2 => by rw [e3, gI_sI, if_neg q2, e2, gI_sI, if_neg q1]
    have s3 : w3.2 = w.2 := by rw [e3, e2]; rfl
    have f3 : zfG w w3 := ⟨fun a c q1 q2 _ _ _ => i3 a c (by omega) (by omega), fun a c _ => by rw [gL, gL, s3], fun a c => by rw [gR, gR, s3]⟩
    have rt3 : zRtk sg n m (j + 1) w3 := zRt_K hrt ⟨fun c => ⟨i3 _ _ (by omega) (by omega), i3 _ _ (by omega) (by omega)⟩, fun c => ⟨by rw [gL, gL, s3], by rw [gL, gL, s3]⟩⟩ hj (by rw [i3 _ _ (by omega) (by omega)]; exact hrt.2.2.2.1) (by rw [e3, gI_sI_eq])
    refine ⟨fun y => absurd y (by decide), fun _ => ?_⟩
    refine q12_takeNumber (lo := 1) (H := 61) hsg rt3 (by decide) (zhi_n (h := 60) (by decide)) (fun e => ?_) (fun e => ?_)
    · obtain ⟨a1, a2, a3⟩ := zNe_0 e
      have hlt := zTm_lt hm (show j + 1 ≤ m by omega) (by rw [a1]; decide)
      have ez : zLnC (zTT sg n) j X = (0, j + 2, uC X ((zTT sg n).nu (j + 1))) := by rw [zLnC, if_pos e0, if_pos e]
      rw [ez] at hok
      intro w20 e20
      rw [show (31 : Int32).toNatClampNeg = 31 from rfl] at e20
      have i20 : ∀ a c, ¬ (a = 210 ∧ (c = 54 ∨ c = 31)) → ¬ (a = 200 ∧ c = 7) → gI w20 a c = gI w a c := fun a c q1 q2 => by rw [e20, gI_sI, if_neg (by omega), gI_sI, if_neg (by omega)]; exact i3 a c (by omega) q2
      have s20 : w20.2 = w.2 := by rw [e20]; exact s3
      refine hok w20 ⟨fun a c q1 q2 _ _ _ => i20 a c (by omega) (by omega), fun a c _ => by rw [gL, gL, s20], fun a c => by rw [gR, gR, s20]⟩ rfl ?_ ?_
      · refine zRt_K hrt ⟨fun c => ⟨i20 _ _ (by omega) (by omega), i20 _ _ (by omega) (by omega)⟩, fun c => ⟨by rw [gL, gL, s20], by rw [gL, gL, s20]⟩⟩ hlt ?_ ?_
        · rw [i20 _ _ (by omega) (by omega)]; exact hrt.2.2.2.1
        · rw [e20, gI_sI_ne (by decide), gI_sI_eq]
      · obtain ⟨⟨y1, y2, y3⟩, y4, y5, y6, y7, y8, y9, y10, y11, y12⟩ := hrx
        refine ⟨⟨by rw [i20 _ _ (by omega) (by omega)]; exact y1, by rw [e20, gI_sI_eq]; rfl, by rw [i20 _ _ (by omega) (by omega)]; exact y3⟩, by rw [i20 _ _ (by omega) (by omega)]; exact y4, ?_, fun o ho => by have ho' : o < bW X.1 := ho; rw [i20 _ _ (by omega) (by omega)]; exact y6 o ho, fun r hr => by rw [i20 _ _ (by omega) (by omega)]; exact y7 r hr, fun r hr => by have hr' : r < bR X.1 := hr; rw [i20 _ _ (by omega) (by omega)]; exact y8 r hr, fun r i hr hi h60 => by rw [i20 _ _ (by omega) (by omega)]; exact y9 r i hr hi h60, fun o ho => by rw [gL, s20]; exact y10 o ho, fun q => by rw [i20 _ _ (by omega) (by omega)]; exact y11 q, fun n' g' q => ⟨by rw [i20 _ _ (by omega) (by omega)]; exact (y12 n' g' q).1, fun i hi => by rw [i20 _ _ (by omega) (by omega)]; exact (y12 n' g' q).2.1 i hi, by rw [i20 _ _ (by omega) (by omega)]; exact (y12 n' g' q).2.2⟩⟩
        show _ = Int32.ofNat ((if (zTT sg n).nu (j + 1) = 0 then 0 else 1) + (if X.2.2.isSome = true then 2 else 0))
        rw [if_neg (by omega), e20, gI_sI_ne2 (by decide), gI_sI_ne (by decide), e3, gI_sI_ne (by decide), e2, gI_sI_eq]
        by_cases z : X.2.2.isSome = true
        · rw [if_pos z, if_pos z]
        · rw [if_neg z, if_neg z]
    · intro w20 e20
      have ez : zLnC (zTT sg n) j X = (zNe (zTT sg n) (j + 1) 1 61 + 16 * (zTT sg n).pl (j + 1), j, X) := by rw [zLnC, if_pos e0, if_neg e]
      rw [ez] at herr
      have hf := rf_e (sg := sg) (n := n) (e := zNe (zTT sg n) (j + 1) 1 61) (i := j + 1) w3 hn1 ⟨by omega, by omega⟩
      refine herr w20 ?_ (fun z => ?_) (rf_of hf (by rw [e20, gI_sI_ne (by decide)]))
      · rw [e20]; exact zfG_trans f3 (zfG_trans (zfG_s _ _ (by omega)) (zfG_b _ _ (by decide)))
      · have z' : zNe (zTT sg n) (j + 1) 1 61 + 16 * (zTT sg n).pl (j + 1) = 0 := z
        omega
  · have e0 : ¬ bC X.1 = 0 := fun z => z1'.mpr z q
    refine q12_wrong (x := 3) hrt ⟨fun _ => q12_err hn1 (by omega) (zfG_refl _) (j := j) (X := X) ?_ herr, fun y => absurd rfl y⟩
    rw [zLnC, if_neg e0]
theorem q12_rulesL {sg : Nat → Nat} {n m : Nat} {j : Nat} {X : zBs} {w : zW} {k : zW → Prop} (hsg : zSg sg n) (hm : zTm (zTT sg n) m) (hj : j < m) (hX : zXok X) (hrt : zRtk sg n m j w) (hrx : zRX X w)
    (hok : ∀ v, zfG w v → (zLnL (zTT sg n) j X).1 = 0 → zRtk sg n m (zLnL (zTT sg n) j X).2.1 v → zRX (zLnL (zTT sg n) j X).2.2 v → k v) (herr : ∀ v, zfG w v → ¬ (zLnL (zTT sg n) j X).1 = 0 → zRf (zLnL (zTT sg n) j X).1 v → k v) :
    fX12_isOnce 1 w (fun r11 w11 => ((r11 = 0 → k w11) ∧ (¬ r11 = 0 → ∀ w13 : zW, w13 = sI w11 210 (33 : Int32).toNatClampNeg (gI w11 200 13) → fX12_wholeT (0 : Int32) w13 (fun w14 => fX12_emit (0 : Int32) (0 : Int32) w14 (fun w15 => k w15))))) := by
  have hn1 := hsg.1
  have hm1 := hm.1
  have h54 : gI w 210 (54 : Int32).toNatClampNeg = Int32.ofNat ((if bC X.1 = 0 then 0 else 1) + 2 * (if X.2.2.isSome = true then 1 else 0)) := by
    show gI w 210 54 = _
    rw [hrx.2.2.1]
    by_cases z : X.2.2.isSome = true
    · rw [if_pos z, if_pos z]
    · rw [if_neg z, if_neg z]
  have hb1 : (if X.2.2.isSome = true then 1 else 0) < 2 := by
    by_cases z : X.2.2.isSome = true
    · rw [if_pos z]; omega
    · rw [if_neg z]; omega
  have ha1 : (if bC X.1 = 0 then 0 else 1) < 2 := by
    by_cases z : bC X.1 = 0
    · rw [if_pos z]; omega
    · rw [if_neg z]; omega
  obtain ⟨-, z1, -, z3⟩ := zonceF ⟨_, ha1⟩ ⟨_, hb1⟩
  have z1' : ¬ ((Int32.ofNat ((if bC X.1 = 0 then 0 else 1) + 2 * (if X.2.2.isSome = true then 1 else 0)) >>> ((1 : Int32) &&& 31)) &&& 1 = 1) ↔ ¬ X.2.2.isSome = true := by
    refine z1.trans ⟨fun q z => ?_, fun q => if_neg q⟩
    have q' : (if X.2.2.isSome = true then 1 else 0) = 0 := q
    rw [if_pos z] at q'; omega
  rw [fX12_isOnce, h54]
  refine ⟨fun q => ?_, fun q => ?_⟩
  · have e0 := z1'.mp q
    have en : X.2.2 = none := by
      cases h : X.2.2 with
      | none => rfl
      | some y => rw [h] at e0; exact absurd rfl e0
    have z3' : Int32.ofNat ((if bC X.1 = 0 then 0 else 1) + 2 * (if X.2.2.isSome = true then 1 else 0)) ||| ((1 : Int32) <<< ((1 : Int32) &&& 31)) = Int32.ofNat ((if bC X.1 = 0 then 0 else 1) + 2) := z3 (if_neg e0)
    intro w2 e2 w3 e3
    rw [z3', show (54 : Int32).toNatClampNeg = 54 from rfl] at e2
    have g7 : gI w2 200 7 = Int32.ofNat j := by rw [e2, gI_sI_ne (by decide)]; exact hrt.2.2.2.2
    rw [g7, zl1, zi_add] at e3
    refine ⟨fun y => absurd y (by decide), fun _ => ?_⟩
    intro w13 e13
    have g13 : gI w3 200 13 = Int32.ofNat 0 := by rw [e3, gI_sI_ne2 (by decide), e2, gI_sI_ne (by decide)]; exact hrx.2.2.2.2.2.2.2.2.1 en
    rw [g13, show (33 : Int32).toNatClampNeg = 33 from rfl] at e13
    have i13 : ∀ a c, ¬ (a = 210 ∧ (c = 54 ∨ c = 33)) → ¬ (a = 200 ∧ c = 7) → gI w13 a c = gI w a c := fun a c q1 q2 => by rw [e13, gI_sI, if_neg (by omega), e3, gI_sI, if_neg q2, e2, gI_sI, if_neg (by omega)]
    have s13 : w13.2 = w.2 := by rw [e13, e3, e2]; rfl
    have f13 : zfG w w13 := ⟨fun a c q1 q2 _ _ _ => i13 a c (by omega) (by omega), fun a c _ => by rw [gL, gL, s13], fun a c => by rw [gR, gR, s13]⟩
    have rt13 : zRtk sg n m (j + 1) w13 := zRt_K hrt ⟨fun c => ⟨i13 _ _ (by omega) (by omega), i13 _ _ (by omega) (by omega)⟩, fun c => ⟨by rw [gL, gL, s13], by rw [gL, gL, s13]⟩⟩ hj (by rw [i13 _ _ (by omega) (by omega)]; exact hrt.2.2.2.1) (by rw [e13, gI_sI_ne (by decide), e3, gI_sI_eq])
    have rs13 : zRS sg n m (zSu0 (j + 1)) w13 := ⟨rt13, by rw [i13 _ _ (by omega) (by omega)]; exact hrx.2.2.2.2.2.2.2.2.1 en, fun i hi => absurd hi (Nat.not_lt_zero i)⟩
    obtain ⟨o1, o2⟩ := zOK_rl hn1 hm (zSu0 (j + 1)) (show j + 1 ≤ m by omega)
    refine q12_wholeT hsg hm (zSu0 (j + 1)) w13 _ (Nat.succ_pos j) (show j + 1 ≤ m by omega) rs13 (fun v4 f4 e4 hv4 => ?_) (fun v4 f4 e4 h8 c4 => ?_)
    · have ez : zLnL (zTT sg n) j X = (0, (zRl (zTT sg n) (zSu0 (j + 1))).2.1, uL X (zRl (zTT sg n) (zSu0 (j + 1))).2.2.1 (zRl (zTT sg n) (zSu0 (j + 1))).2.2.2) := by rw [zLnL, if_neg e0, if_pos e4]
      rw [ez] at hok
      obtain ⟨q1, q2, q3, q4, -⟩ := o1 e4
      have q4' : (zRl (zTT sg n) (zSu0 (j + 1))).2.2.1 + (j + 1) ≤ 0 + (zRl (zTT sg n) (zSu0 (j + 1))).2.1 := q4
      generalize (zRl (zTT sg n) (zSu0 (j + 1))).2 = s2 at q2 q4' hv4 hok
      refine q12_emit hv4.2.1 (by omega) (fun v5 e5 => ?_)
      have hx0 : (0 : Int32) + 16 * 0 = Int32.ofNat 0 := by decide
      rw [hx0] at e5
      have f5 : zfQ v4 v5 := by rw [e5]; exact zfQ_em _ _ _ _
      refine hok v5 (zfG_trans f13 (zfG_trans (zfG_Q f4) (zfG_Q f5))) rfl ?_ ?_
      · refine zRt_K hv4.1 ⟨fun c => ⟨f5.1 _ _ (by omega) (by omega), f5.1 _ _ (by omega) (by omega)⟩, fun c => ⟨by rw [gL, gL, f5.2], by rw [gL, gL, f5.2]⟩⟩ q2 ?_ ?_
        · rw [e5, gI_sI_ne2 (by decide), gI_sI_ne (by decide)]; exact hv4.1.2.2.2.1
        · rw [e5, gI_sI_ne2 (by decide), gI_sI_ne (by decide)]; exact hv4.1.2.2.2.2
      · have i5 : ∀ a c, ¬ (a = 200 ∧ (c = 7 ∨ c = 8 ∨ c = 13)) → ¬ (a = 212 ∧ 1100 ≤ c) → ¬ (a = 210 ∧ (c = 54 ∨ c = 33)) → gI v5 a c = gI w a c := fun a c q1 q2 q3 => by rw [f5.1 a c q1 q2, f4.1 a c q1 q2]; exact i13 a c q3 (by omega)
        have s5 : v5.2 = w.2 := f5.2.trans (f4.2.trans s13)
        obtain ⟨⟨y1, y2, y3⟩, y4, y5, y6, y7, y8, y9, y10, y11, y12⟩ := hrx
        refine ⟨⟨by rw [i5 _ _ (by omega) (by omega) (by omega)]; exact y1, by rw [i5 _ _ (by omega) (by omega) (by omega)]; exact y2, by rw [i5 _ _ (by omega) (by omega) (by omega)]; exact y3⟩, ?_, ?_, fun o ho => by have ho' : o < bW X.1 := ho; have hw4 := hX.1.1; rw [i5 _ _ (by omega) (by omega) (by omega)]; exact y6 o ho, fun r hr => by rw [i5 _ _ (by omega) (by omega) (by omega)]; exact y7 r hr, fun r hr => by have hr' : r < bR X.1 := hr; have hr8 := hX.1.2.1; rw [i5 _ _ (by omega) (by omega) (by omega)]; exact y8 r hr, fun r i hr hi h60 => by rw [i5 _ _ (by omega) (by omega) (by omega)]; exact y9 r i hr hi h60, fun o ho => by rw [gL, s5]; exact y10 o ho, fun q => (nomatch (show some (s2.2.1, s2.2.2) = none from q)), fun n' g' q => ?_⟩
        · show _ = Int32.ofNat 0
          rw [f5.1 _ _ (by omega) (by omega), f4.1 _ _ (by omega) (by omega), e13, gI_sI_eq]
        · show _ = Int32.ofNat ((if bC X.1 = 0 then 0 else 1) + 2)
          rw [f5.1 _ _ (by omega) (by omega), f4.1 _ _ (by omega) (by omega), e13, gI_sI_ne2 (by decide), e3, gI_sI_ne (by decide), e2, gI_sI_eq]
        · have q' : some (s2.2.1, s2.2.2) = some (n', g') := q
          injection q' with q'
          injection q' with qa qb
          rw [← qa, ← qb]
          refine ⟨by rw [e5, gI_sI_eq], fun i hi => ?_, by rw [e5, gI_sI_ne (by decide), gI_sI_eq]⟩
          rw [e5, gI_sI_ne (by decide), gI_sI_ne2 (by omega)]
          exact hv4.2.2 i hi
    · have ez : zLnL (zTT sg n) j X = ((zRl (zTT sg n) (zSu0 (j + 1))).1, j, X) := by rw [zLnL, if_neg e0, if_neg e4]
      rw [ez] at herr
      obtain ⟨c, c1, c2⟩ := c4
      have c1' : c + (j + 1) ≤ 0 + m := c1
      refine q12_emit c2 (by omega) (fun v5 e5 => ?_)
      have f5 : zfQ v4 v5 := by rw [e5]; exact zfQ_em _ _ _ _
      exact herr v5 (zfG_trans f13 (zfG_trans (zfG_Q f4) (zfG_Q f5))) e4 (rf_of h8 (by rw [e5, gI_sI_ne2 (by decide), gI_sI_ne (by decide)]))
  · have e0 : X.2.2.isSome = true := Decidable.of_not_not (fun z => z1'.mpr z q)
    refine q12_wrong (x := 3) hrt ⟨fun _ => q12_err hn1 (by omega) (zfG_refl _) (j := j) (X := X) ?_ herr, fun y => absurd rfl y⟩
    rw [zLnL, if_pos e0]
theorem q12_after {sg : Nat → Nat} {n m : Nat} {j : Nat} {X : zBs} {w : zW} {k : zW → Prop} (hsg : zSg sg n) (hm : zTm (zTT sg n) m) (hj : j < m) (hX : zXok X) (hrt : zRtk sg n m j w) (hrx : zRX X w)
    (hok : ∀ v, zfG w v → (zLnA (zTT sg n) j X).1 = 0 → zRtk sg n m (zLnA (zTT sg n) j X).2.1 v → zRX (zLnA (zTT sg n) j X).2.2 v → k v) (herr : ∀ v, zfG w v → ¬ (zLnA (zTT sg n) j X).1 = 0 → zRf (zLnA (zTT sg n) j X).1 v → k v) :
    ∀ w21 : zW, w21 = sI w 200 7 ((gI w 200 7) + (1 : Int32)) → fX12_takeNumber (0 : Int32) ((gI w21 210 (32 : Int32).toNatClampNeg) - (1 : Int32)) w21 (fun r22 w22 => ((¬ (gI w22 200 8) = 0 → fX12_readLine_J97 k r22 w22) ∧ ((gI w22 200 8) = 0 → vp_in ((38 : Int32) + r22) 60 ∧ (((gI w22 210 ((38 : Int32) + r22).toNatClampNeg) < 0 → fX12_readLine_J97 k r22 w22) ∧ (¬ (gI w22 210 ((38 : Int32) + r22).toNatClampNeg) < 0 → ∀ w31 : zW, w31 = sI w22 200 7 ((gI w22 200 7) - (1 : Int32)) → fX12_wrong (3 : Int32) w31 (fun w32 => fX12_readLine_J97 k r22 w32)))))) := by
  have hn1 := hsg.1
  obtain ⟨⟨hW, hR, hC⟩, -, -, h4, h5, -, h7, -⟩ := hX
  have hJF : ∀ (e : Nat) (v : zW) (x : Int32), zRf e v → k v → fX12_readLine_J97 k x v := fun e v x hv hk => by
    rw [fX12_readLine_J97]
    exact q12_takeWordF hv (q12_takeNumberF hv ⟨fun _ => hk, fun q => absurd q (rf_ne hv)⟩)
  have hr := zNe_r (zTT sg n) (j + 1) 0 (bR X.1)
  intro w21 e21
  rw [hrt.2.2.2.2, zl1, zi_add] at e21
  have rt1 : zRtk sg n m (j + 1) w21 := by rw [e21]; exact zRt_7 hrt hj
  have rx1 : zRX X w21 := by rw [e21]; exact zRX_s hrx _ (by decide)
  have f1 : zfG w w21 := by rw [e21]; exact zfG_s _ _ (by omega)
  have h32 : gI w21 210 (32 : Int32).toNatClampNeg = Int32.ofNat (bR X.1) := rx1.1.2.2
  rw [h32]
  refine q12_takeNumber (lo := 0) (H := bR X.1) hsg rt1 (by decide) (zhi_r (by omega)) (fun e => ?_) (fun e => ?_)
  · obtain ⟨a1, a2, a3⟩ := zNe_0 e
    have hlt := zTm_lt hm (show j + 1 ≤ m by omega) (by rw [a1]; decide)
    have rt2 : zRtk sg n m (j + 2) (sI w21 200 7 (Int32.ofNat (j + 2))) := zRt_7 rt1 hlt
    have rx2 : zRX X (sI w21 200 7 (Int32.ofNat (j + 2))) := zRX_s rx1 _ (by decide)
    have f2 : zfG w (sI w21 200 7 (Int32.ofNat (j + 2))) := zfG_trans f1 (zfG_s _ _ (by omega))
    refine ⟨fun q => absurd rt2.2.2.2.1 q, fun _ => ?_⟩
    have hct : gI (sI w21 200 7 (Int32.ofNat (j + 2))) 210 (38 + (zTT sg n).nu (j + 1)) = bCt X.1 ((zTT sg n).nu (j + 1)) := rx2.2.2.2.2.1 _ (by omega)
    rw [show (38 : Int32) = Int32.ofNat 38 from rfl, zi_add, zi_nat (show 38 + (zTT sg n).nu (j + 1) < 2 ^ 31 by omega), show j + 1 + 1 = j + 2 from rfl, hct]
    refine ⟨zi_in (by omega) (by omega), fun q => ?_, fun q => ?_⟩
    · have e2 : bCt X.1 ((zTT sg n).nu (j + 1)) = zN1 := by
        rcases h4 ((zTT sg n).nu (j + 1)) with z | ⟨y, y1, y2⟩
        · exact z
        · rw [y2] at q; exact absurd q (zi_0le (by omega))
      rw [fX12_readLine_J97]
      refine q12_takeWord (i := 4) rt2 (by decide) (fun e3 => ?_) (fun e3 => ?_)
      · have hlt2 := zTm_lt hm (show j + 2 ≤ m by omega) (zTT_ne0 (by omega))
        have rt3 := zRt_7 (j' := j + 3) rt2 hlt2
        have rx3 : zRX X (sI (sI w21 200 7 (Int32.ofNat (j + 2))) 200 7 (Int32.ofNat (j + 3))) := zRX_s rx2 _ (by decide)
        have f3 : zfG w (sI (sI w21 200 7 (Int32.ofNat (j + 2))) 200 7 (Int32.ofNat (j + 3))) := zfG_trans f2 (zfG_s _ _ (by omega))
        have hr3 := zNe_r (zTT sg n) (j + 3) 0 100
        refine q12_takeNumber (j := j + 3) (lo := 0) (H := 100) hsg rt3 (by decide) (zhi_n (h := 99) (by decide)) (fun e4 => ?_) (fun e4 => ?_)
        · obtain ⟨b1, b2, b3⟩ := zNe_0 e4
          have hlt3 := zTm_lt hm (show j + 3 ≤ m by omega) (by rw [b1]; decide)
          have rt4 := zRt_7 (j' := j + 4) rt3 hlt3
          have ez : zLnA (zTT sg n) j X = (0, j + 4, uT X ((zTT sg n).nu (j + 1)) ((zTT sg n).nu (j + 3))) := by rw [zLnA, if_pos e, if_pos e2, if_pos e3, if_pos e4]
          rw [ez] at hok
          refine ⟨fun z => absurd rt4.2.2.2.1 z, fun _ => ?_⟩
          rw [show (38 : Int32) = Int32.ofNat 38 from rfl, zi_add, zi_nat (show 38 + (zTT sg n).nu (j + 1) < 2 ^ 31 by omega)]
          refine ⟨zi_in (by omega) (by omega), ?_⟩
          intro w28 e28
          have rx4 : zRX X (sI (sI (sI w21 200 7 (Int32.ofNat (j + 2))) 200 7 (Int32.ofNat (j + 3))) 200 7 (Int32.ofNat (j + 4))) := zRX_s rx3 _ (by decide)
          have f4 : zfG w (sI (sI (sI w21 200 7 (Int32.ofNat (j + 2))) 200 7 (Int32.ofNat (j + 3))) 200 7 (Int32.ofNat (j + 4))) := zfG_trans f3 (zfG_s _ _ (by omega))
          have e28' : w28 = sI (sI (sI (sI w21 200 7 (Int32.ofNat (j + 2))) 200 7 (Int32.ofNat (j + 3))) 200 7 (Int32.ofNat (j + 4))) 210 (38 + (zTT sg n).nu (j + 1)) (Int32.ofNat ((zTT sg n).nu (j + 3))) := e28
          generalize sI (sI (sI w21 200 7 (Int32.ofNat (j + 2))) 200 7 (Int32.ofNat (j + 3))) 200 7 (Int32.ofNat (j + 4)) = u4 at rt4 rx4 f4 e28'
          have i28 : ∀ a c, ¬ (a = 210 ∧ c = 38 + (zTT sg n).nu (j + 1)) → gI w28 a c = gI u4 a c := fun a c q => by rw [e28', gI_sI, if_neg q]
          have s28 : w28.2 = u4.2 := by rw [e28']; rfl
          refine hok w28 (zfG_trans f4 (by rw [e28']; exact zfG_b _ _ (by omega))) rfl ?_ ?_
          · exact zRt_K rt4 ⟨fun c => ⟨i28 _ _ (by omega), i28 _ _ (by omega)⟩, fun c => ⟨by rw [gL, gL, s28], by rw [gL, gL, s28]⟩⟩ hlt3 (by rw [i28 _ _ (by omega)]; exact rt4.2.2.2.1) (by rw [i28 _ _ (by omega)]; exact rt4.2.2.2.2)
          · obtain ⟨⟨y1, y2, y3⟩, y4, y5, y6, y7, y8, y9, y10, y11, y12⟩ := rx4
            refine ⟨⟨by rw [i28 _ _ (by omega)]; exact y1, by rw [i28 _ _ (by omega)]; exact y2, by rw [i28 _ _ (by omega)]; exact y3⟩, by rw [i28 _ _ (by omega)]; exact y4, by rw [i28 _ _ (by omega)]; exact y5, fun o ho => by have ho' : o < bW X.1 := ho; rw [i28 _ _ (by omega)]; exact y6 o ho, fun r hr => ?_, fun r hr => by rw [i28 _ _ (by omega)]; exact y8 r hr, fun r i hr hi h60 => by rw [i28 _ _ (by omega)]; exact y9 r i hr hi h60, fun o ho => by rw [gL, s28]; exact y10 o ho, fun q => by rw [i28 _ _ (by omega)]; exact y11 q, fun n' g' q => ⟨by rw [i28 _ _ (by omega)]; exact (y12 n' g' q).1, fun i hi => by rw [i28 _ _ (by omega)]; exact (y12 n' g' q).2.1 i hi, by rw [i28 _ _ (by omega)]; exact (y12 n' g' q).2.2⟩⟩
            show _ = if r = (zTT sg n).nu (j + 1) then Int32.ofNat ((zTT sg n).nu (j + 3)) else bCt X.1 r
            by_cases z : r = (zTT sg n).nu (j + 1)
            · rw [if_pos z, e28', z, gI_sI_eq]
            · rw [if_neg z, i28 _ _ (by omega)]; exact y7 r hr
        · have hf := rf_e (sg := sg) (n := n) (e := zNe (zTT sg n) (j + 3) 0 100) (i := j + 3) (sI (sI w21 200 7 (Int32.ofNat (j + 2))) 200 7 (Int32.ofNat (j + 3))) hn1 ⟨by omega, by omega⟩
          refine ⟨fun _ => q12_err hn1 ⟨by omega, by omega⟩ f3 (j := j) (X := X) ?_ herr, fun z => absurd z (rf_ne hf)⟩
          rw [zLnA, if_pos e, if_pos e2, if_pos e3, if_neg e4]
      · have hf := rf_e (sg := sg) (n := n) (e := 1) (i := j + 2) (sI w21 200 7 (Int32.ofNat (j + 2))) hn1 (by omega)
        refine q12_takeNumberF hf ⟨fun _ => q12_err hn1 (by omega) f2 (j := j) (X := X) ?_ herr, fun z => absurd z (rf_ne hf)⟩
        rw [zLnA, if_pos e, if_pos e2, if_neg e3]
    · have e2 : ¬ bCt X.1 ((zTT sg n).nu (j + 1)) = zN1 := fun z => q (by rw [z]; exact zN1_lt)
      intro w31 e31
      rw [gI_sI_eq, zl1, zi_sub (by omega), show j + 2 - 1 = j + 1 by omega] at e31
      have rt31 : zRtk sg n m (j + 1) w31 := by rw [e31]; exact zRt_7 rt2 (by omega)
      have f31 : zfG w w31 := by rw [e31]; exact zfG_trans f2 (zfG_s _ _ (by omega))
      refine q12_wrong (x := 3) rt31 (hJF _ _ _ (rf_e _ hn1 (by omega)) (q12_err hn1 (by omega) f31 (j := j) (X := X) ?_ herr))
      rw [zLnA, if_pos e, if_neg e2]
  · have hf := rf_e (sg := sg) (n := n) (e := zNe (zTT sg n) (j + 1) 0 (bR X.1)) (i := j + 1) w21 hn1 ⟨by omega, by omega⟩
    refine ⟨fun _ => hJF _ _ _ hf (q12_err hn1 ⟨by omega, by omega⟩ f1 (j := j) (X := X) ?_ herr), fun z => absurd z (rf_ne hf)⟩
    rw [zLnA, if_neg e]
theorem q12_readLine {sg : Nat → Nat} {n m : Nat} (hsg : zSg sg n) (hm : zTm (zTT sg n) m) : zRln sg n m fX12_readLine (zLn0 (zTT sg n)) := by
  intro j X w k hj hX hrt hrx hok herr
  have hn1 := hsg.1
  rw [fX12_readLine]
  refine q12_isWord (i := 0) hrt (by decide) (fun k0 => ⟨fun q => absurd q (by decide), fun _ => ?_⟩) (fun k0 => ⟨fun _ => ?_, fun q => absurd rfl q⟩)
  · have ez : zLn0 (zTT sg n) j X = zLnW (zTT sg n) j X := by rw [zLn0, if_pos k0]
    rw [ez] at hok herr
    exact q12_readWord hsg hm j X w k hj hX hrt hrx hok herr
  refine q12_isWord (i := 2) hrt (by decide) (fun k2 => ⟨fun q => absurd q (by decide), fun _ => ?_⟩) (fun k2 => ⟨fun _ => ?_, fun q => absurd rfl q⟩)
  · have ez : zLn0 (zTT sg n) j X = zLnR (zTT sg n) j X := by rw [zLn0, if_neg k0, if_pos k2]
    rw [ez] at hok herr
    exact q12_row hsg hm j X w k hj hX hrt hrx hok herr
  refine q12_isWord (i := 3) hrt (by decide) (fun k3 => ⟨fun q => absurd q (by decide), fun _ => ?_⟩) (fun k3 => ⟨fun _ => ?_, fun q => absurd rfl q⟩)
  · have ez : zLn0 (zTT sg n) j X = zLnA (zTT sg n) j X := by rw [zLn0, if_neg k0, if_neg k2, if_pos k3]
    rw [ez] at hok herr
    exact q12_after hsg hm hj hX hrt hrx hok herr
  refine q12_isWord (i := 1) hrt (by decide) (fun k1 => ⟨fun q => absurd q (by decide), fun _ => ?_⟩) (fun k1 => ⟨fun _ => ?_, fun q => absurd rfl q⟩)
  · have ez : zLn0 (zTT sg n) j X = zLnC (zTT sg n) j X := by rw [zLn0, if_neg k0, if_neg k2, if_neg k3, if_pos k1]
    rw [ez] at hok herr
    exact q12_casts hsg hm hj hX hrt hrx hok herr
  refine q12_isWord (i := 5) hrt (by decide) (fun k5 => ⟨fun _ => ?_, fun q => absurd q (by decide)⟩) (fun k5 => ⟨fun q => absurd rfl q, fun _ => ?_⟩)
  · have ez : zLn0 (zTT sg n) j X = zLnL (zTT sg n) j X := by rw [zLn0, if_neg k0, if_neg k2, if_neg k3, if_neg k1, if_pos k5]
    rw [ez] at hok herr
    exact q12_rulesL hsg hm hj hX hrt hrx hok herr
  · refine q12_wrong (x := 1) hrt (q12_err hn1 (by omega) (zfG_refl _) (j := j) (X := X) ?_ herr)
    rw [zLn0, if_neg k0, if_neg k2, if_neg k3, if_neg k1, if_neg k5]

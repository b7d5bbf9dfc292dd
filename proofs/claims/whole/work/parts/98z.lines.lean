/-! Level 2: the reference reads a book's lines -/
def zRX (X : zBs) (v : zW) : Prop :=
  (gI v 210 30 = Int32.ofNat (bW X.1) ∧ gI v 210 31 = Int32.ofNat (bC X.1) ∧ gI v 210 32 = Int32.ofNat (bR X.1)) ∧ gI v 210 33 = (if X.2.2.isSome = true then Int32.ofNat 0 else zN1) ∧ gI v 210 54 = Int32.ofNat ((if bC X.1 = 0 then 0 else 1) + (if X.2.2.isSome = true then 2 else 0)) ∧
  (∀ o, o < bW X.1 → gI v 210 (34 + o) = Int32.ofNat (bKd X.1 o)) ∧ (∀ r, r < 8 → gI v 210 (38 + r) = bCt X.1 r) ∧ (∀ r, r < bR X.1 → gI v 210 (46 + r) = Int32.ofNat (bLn X.1 r)) ∧ (∀ r i, r < bR X.1 → i < bLn X.1 r → i < 60 → gI v 211 (480 + 60 * r + i) = Int32.ofNat (bIt X.1 r i)) ∧
  zNm37 4 (bW X.1) X.2.1 v ∧ (X.2.2 = none → gI v 200 13 = Int32.ofNat 0) ∧ (∀ n g, X.2.2 = some (n, g) → gI v 200 13 = Int32.ofNat (n + 1) ∧ (∀ i, i < n → gI v 212 (1100 + i) = Int32.ofNat (g i)) ∧ gI v 212 (1100 + n) = Int32.ofNat 0)
/-- what the reference's reading of a book changes -/
def zfG (w v : zW) : Prop := (∀ a c, ¬ (a = 200 ∧ (c = 7 ∨ c = 8 ∨ c = 13 ∨ c = 16)) → ¬ (a = 210 ∧ 30 ≤ c) → ¬ (a = 211 ∧ 480 ≤ c) → ¬ (a = 212 ∧ 1100 ≤ c) → a ≠ 215 → gI v a c = gI w a c) ∧ (∀ a c, ¬ (a = 214 ∧ 4 ≤ c) → gL v a c = gL w a c) ∧ (∀ a c, gR v a c = gR w a c)
theorem zfG_refl (w : zW) : zfG w w := ⟨fun _ _ _ _ _ _ _ => rfl, fun _ _ _ => rfl, fun _ _ => rfl⟩
theorem zfG_trans {u v w : zW} (h : zfG u v) (h2 : zfG v w) : zfG u w := ⟨fun a c q1 q2 q3 q4 q5 => (h2.1 a c q1 q2 q3 q4 q5).trans (h.1 a c q1 q2 q3 q4 q5), fun a c q => (h2.2.1 a c q).trans (h.2.1 a c q), fun a c => (h2.2.2 a c).trans (h.2.2 a c)⟩
theorem zfG_Q {w v : zW} (h : zfQ w v) : zfG w v := ⟨fun a c q1 _ _ q4 _ => h.1 a c (by omega) q4, fun a c _ => by rw [gL, gL, h.2], fun a c => by rw [gR, gR, h.2]⟩
theorem zfG_J {w v : zW} (h : zfJ w v) : zfG w v := ⟨fun a c q1 _ _ _ q5 => h.1 a c (by omega) q5, fun a c _ => by rw [gL, gL, h.2], fun a c => by rw [gR, gR, h.2]⟩
theorem zfG_s (w : zW) {c : Nat} (x : Int32) (h : c = 7 ∨ c = 8 ∨ c = 13 ∨ c = 16) : zfG w (sI w 200 c x) := ⟨fun a d q1 _ _ _ _ => by rw [gI_sI, if_neg (by omega)], fun _ _ _ => rfl, fun _ _ => rfl⟩
theorem zfG_b (w : zW) {c : Nat} (x : Int32) (h : 30 ≤ c) : zfG w (sI w 210 c x) := ⟨fun a d _ q2 _ _ _ => by rw [gI_sI, if_neg (by omega)], fun _ _ _ => rfl, fun _ _ => rfl⟩
theorem zRX_K {X : zBs} {w v : zW} (h : zRX X w) (hI : ∀ a c, (a = 210 ∧ 30 ≤ c) ∨ (a = 211 ∧ 480 ≤ c) ∨ (a = 212 ∧ 1100 ≤ c) ∨ (a = 200 ∧ c = 13) → gI v a c = gI w a c) (hL : ∀ c, gL v 214 c = gL w 214 c) : zRX X v := by
  obtain ⟨⟨h1, h2, h3⟩, h4, h5, h6, h7, h8, h9, h10, h11, h12⟩ := h
  exact ⟨⟨by rw [hI 210 30 (by omega)]; exact h1, by rw [hI 210 31 (by omega)]; exact h2, by rw [hI 210 32 (by omega)]; exact h3⟩, by rw [hI 210 33 (by omega)]; exact h4, by rw [hI 210 54 (by omega)]; exact h5, fun o ho => by rw [hI _ _ (by omega)]; exact h6 o ho, fun r hr => by rw [hI _ _ (by omega)]; exact h7 r hr, fun r hr => by rw [hI _ _ (by omega)]; exact h8 r hr, fun r i hr hi h60 => by rw [hI _ _ (by omega)]; exact h9 r i hr hi h60, fun o ho => by rw [hL]; exact h10 o ho, fun q => by rw [hI _ _ (by omega)]; exact h11 q, fun n g q => ⟨by rw [hI _ _ (by omega)]; exact (h12 n g q).1, fun i hi => by rw [hI _ _ (by omega)]; exact (h12 n g q).2.1 i hi, by rw [hI _ _ (by omega)]; exact (h12 n g q).2.2⟩⟩
theorem zRX_s {X : zBs} {w : zW} (h : zRX X w) {c : Nat} (x : Int32) (hc : c ≠ 13) : zRX X (sI w 200 c x) := zRX_K h (fun a d q => by rw [gI_sI, if_neg (by omega)]) (fun _ => rfl)
def zRln (sg : Nat → Nat) (n m : Nat) (F : zW → (zW → Prop) → Prop) (P : Nat → zBs → zRs) : Prop :=
  ∀ (j : Nat) (X : zBs) (w : zW) (k : zW → Prop), j < m → zXok X → zRtk sg n m j w → zRX X w → (∀ v, zfG w v → (P j X).1 = 0 → zRtk sg n m (P j X).2.1 v → zRX (P j X).2.2 v → k v) → (∀ v, zfG w v → ¬ (P j X).1 = 0 → zRf (P j X).1 v → k v) → F w k
/-- something wrong at a token -/
theorem q12_err {sg : Nat → Nat} {n e i j : Nat} {X : zBs} {w0 w : zW} {k : zW → Prop} {r : zRs} (hn : n ≤ 1000) (he : 0 < e ∧ e < 16) (f0 : zfG w0 w) (hr : r = (e + 16 * (zTT sg n).pl i, j, X)) (herr : ∀ v, zfG w0 v → ¬ r.1 = 0 → zRf r.1 v → k v) : k (sI w 200 8 (Int32.ofNat (e + 16 * (zTT sg n).pl i))) := by
  rw [hr] at herr
  refine herr _ (zfG_trans f0 (zfG_s _ _ (by omega))) (fun z => ?_) (rf_wrong _ hn he)
  have z' : e + 16 * (zTT sg n).pl i = 0 := z
  omega
theorem rf_e {sg : Nat → Nat} {n e i : Nat} (w : zW) (hn : n ≤ 1000) (he : 0 < e ∧ e < 16) : zRf (e + 16 * (zTT sg n).pl i) (sI w 200 8 (Int32.ofNat (e + 16 * (zTT sg n).pl i))) := rf_wrong w hn he
theorem q12_takeOne {sg : Nat → Nat} {n m j a N : Nat} {w : zW} {k : Int32 → zW → Prop} (hn : n ≤ 1000) (h : zRtk sg n m j w) (hN : a + N ≤ 21) (h1 : a ≤ (zTT sg n).ky j ∧ (zTT sg n).ky j < a + N → k (Int32.ofNat ((zTT sg n).ky j - a)) (sI w 200 7 (Int32.ofNat (j + 1)))) (h0 : ¬ (a ≤ (zTT sg n).ky j ∧ (zTT sg n).ky j < a + N) → k 0 (sI w 200 8 (Int32.ofNat (1 + 16 * (zTT sg n).pl j)))) : fX12_takeOne (Int32.ofNat a) (Int32.ofNat N) w k := by
  rw [fX12_takeOne]
  refine ⟨fun _ => q12_wordHere h hN ?_, fun q => absurd (rt_ne h) q⟩
  rw [fX12_takeOne_J17]
  refine ⟨fun q => absurd h.2.2.2.1 q, fun _ => ?_⟩
  by_cases e : a ≤ (zTT sg n).ky j ∧ (zTT sg n).ky j < a + N
  · rw [zWh_pos e]
    refine ⟨fun _ => ?_, fun q => absurd ((zi_le (a := 0) (by decide) (by omega)).mpr (Nat.zero_le _)) q⟩
    rw [fX12_takeOne_J34]
    intro v4 e4
    rw [fX12_takeOne_J51, e4.trans (if_pos (rt_ne h)), h.2.2.2.2, zl1, zi_add]
    intro w5 e5 v6 e6
    have g8 : gI w5 200 8 = gI w 200 8 := by rw [e5, gI_sI_ne2 (by decide)]
    rw [g8] at e6
    rw [e6.trans (if_pos (rt_ne h)), e5]
    exact h1 e
  · rw [zWh_neg e]
    refine ⟨fun q => absurd q (by decide), fun _ => q12_wrong (x := 1) h ?_⟩
    have hf := rf_wrong (sg := sg) (n := n) (x := 1) (j := j) w hn (by omega)
    rw [fX12_takeOne_J34]
    intro v4 e4
    rw [fX12_takeOne_J51, e4.trans (if_neg (rf_le hf)), Int32.add_zero, zsI_id rfl]
    intro w5 e5 v6 e6
    rw [e5] at e6 ⊢
    rw [e6.trans (if_neg (rf_le hf))]
    exact h0 e
theorem q12_readWord {sg : Nat → Nat} {n m : Nat} (hsg : zSg sg n) (hm : zTm (zTT sg n) m) : zRln sg n m fX12_readWord (zLnW (zTT sg n)) := by
  intro j X w k hj hX hrt hrx hok herr
  have hn1 := hsg.1
  obtain ⟨⟨hW, hR, hC⟩, -, -, -, -, -, h7, -⟩ := hX
  have h30 : gI w 210 (30 : Int32).toNatClampNeg = Int32.ofNat (bW X.1) := hrx.1.1
  have hJF : ∀ (e : Nat) (v : zW) (x : Int32), zRf e v → k v → fX12_readWord_J58 k x v := fun e v x hv hk => by
    rw [fX12_readWord_J58]
    exact ⟨fun q => absurd q (rf_le hv), fun _ => hk⟩
  rw [fX12_readWord, h30]
  intro v1 e1
  rw [e1]
  refine ⟨fun q => ?_, fun q => ?_⟩
  · have q' : bW X.1 < 4 := by
      by_cases z : bW X.1 = 4
      · exact absurd (by rw [z]; rfl) q
      · omega
    intro w3 e3
    rw [hrt.2.2.2.2, zl1, zi_add] at e3
    have rt3 : zRtk sg n m (j + 1) w3 := by rw [e3]; exact zRt_7 hrt hj
    have rx3 : zRX X w3 := by rw [e3]; exact zRX_s hrx _ (by decide)
    have f3 : zfG w w3 := by rw [e3]; exact zfG_s _ _ (by omega)
    refine q12_isName rt3 (fun y => ⟨fun _ => ?_, fun z => absurd z (by decide)⟩) (fun y => ⟨fun z => absurd rfl z, fun _ => q12_wrong (x := 1) rt3 ?_⟩)
    · refine q12_nameAt (a := 4) rt3 (by omega) rx3.2.2.2.2.2.2.2.1 h7 y.1 ?_
      by_cases e : zIx X.2.1 (bW X.1) ((zTT sg n).nm (j + 1)) < bW X.1
      · rw [zIxI, if_pos e]
        refine ⟨fun z => absurd z (zi_0le (by omega)), fun _ => q12_wrong (x := 3) rt3 (hJF _ _ _ (rf_e _ hn1 (by omega)) (q12_err hn1 (by omega) f3 (j := j) (X := X) ?_ herr))⟩
        rw [zLnW, if_neg (by omega), if_neg (fun z => z y), if_pos e]
      · rw [zIxI, if_neg e]
        refine ⟨fun _ => ?_, fun z => absurd (by decide) z⟩
        have hlt := zTm_lt hm (show j + 1 ≤ m by omega) (by rw [y.1]; decide)
        rw [fX12_readWord_J58, (rt_in rt3).2, rt_nm rt3 y.1, zl4, zi_add, zi_nat (show 4 + bW X.1 < 2 ^ 31 by omega)]
        refine ⟨fun _ => ⟨(rt_in rt3).1, zi_in (by omega) (by omega), ?_⟩, fun z => absurd (rt_ne rt3) z⟩
        intro w11 e11 w12 e12
        have g7 : gI w11 200 7 = Int32.ofNat (j + 1) := by rw [e11, gI_sL]; exact rt3.2.2.2.2
        rw [g7, zl1, zi_add] at e12
        have k12 : zfK w3 w12 := ⟨fun c => ⟨by rw [e12, gI_sI_ne (by decide), e11]; rfl, by rw [e12, gI_sI_ne (by decide), e11]; rfl⟩, fun c => ⟨by rw [e12, gL_sI, e11, gL_sL_ne (by decide)], by rw [e12, gL_sI, e11, gL_sL_ne (by decide)]⟩⟩
        have rt12 : zRtk sg n m (j + 2) w12 := zRt_K rt3 k12 (by omega) (by rw [e12, gI_sI_ne2 (by decide), e11, gI_sL]; exact rt3.2.2.2.1) (by rw [e12, gI_sI_eq])
        have f12 : zfG w w12 := by
          refine zfG_trans f3 ⟨fun a c q1 _ _ _ _ => ?_, fun a c q1 => ?_, fun a c => ?_⟩
          · rw [e12, gI_sI, if_neg (by omega), e11]; rfl
          · rw [e12, gL_sI, e11, gL_sL, if_neg (by omega)]
          · rw [e12, gR_sI, e11]; rfl
        have rx12 : zRX X w12 := by
          refine ⟨?_, ?_, ?_, ?_, ?_, ?_, ?_, fun o ho => ?_, ?_, ?_⟩
          · rw [e12, gI_sI_ne (by decide), gI_sI_ne (by decide), gI_sI_ne (by decide), e11]; exact rx3.1
          · rw [e12, gI_sI_ne (by decide), e11]; exact rx3.2.1
          · rw [e12, gI_sI_ne (by decide), e11]; exact rx3.2.2.1
          · intro o ho; rw [e12, gI_sI_ne (by decide), e11]; exact rx3.2.2.2.1 o ho
          · intro r hr; rw [e12, gI_sI_ne (by decide), e11]; exact rx3.2.2.2.2.1 r hr
          · intro r hr; rw [e12, gI_sI_ne (by decide), e11]; exact rx3.2.2.2.2.2.1 r hr
          · intro r i hr hi h60; rw [e12, gI_sI_ne (by decide), e11]; exact rx3.2.2.2.2.2.2.1 r i hr hi h60
          · rw [e12, gL_sI, e11, gL_sL_ne2 (by omega)]; exact rx3.2.2.2.2.2.2.2.1 o ho
          · intro q; rw [e12, gI_sI_ne2 (by decide), e11]; exact rx3.2.2.2.2.2.2.2.2.1 q
          · intro n' g' q
            obtain ⟨y1, y2, y3⟩ := rx3.2.2.2.2.2.2.2.2.2 n' g' q
            exact ⟨by rw [e12, gI_sI_ne2 (by decide), e11]; exact y1, fun i hi => by rw [e12, gI_sI_ne (by decide), e11]; exact y2 i hi, by rw [e12, gI_sI_ne (by decide), e11]; exact y3⟩
        have hnm12 : gL w12 214 (4 + bW X.1) = Int64.ofNat (zn37 ((zTT sg n).nm (j + 1))) := by rw [e12, gL_sI, e11, gL_sL_eq]
        refine q12_takeOne (a := 10) (N := 4) hn1 rt12 (by decide) (fun e4 => ?_) (fun e4 => ?_)
        · have hlt2 := zTm_lt hm (show j + 2 ≤ m by omega) (zTT_ne0 (by omega))
          have ez : zLnW (zTT sg n) j X = (0, j + 3, uW X ((zTT sg n).ky (j + 2) - 10) ((zTT sg n).nm (j + 1))) := by
            rw [zLnW, if_neg (by omega), if_neg (fun z => z y), if_neg e, if_pos ⟨e4.1, by omega⟩]
          rw [ez] at hok
          have rt13 : zRtk sg n m (j + 3) (sI w12 200 7 (Int32.ofNat (j + 3))) := zRt_7 rt12 hlt2
          refine ⟨fun z => absurd rt13.2.2.2.1 z, fun _ => ?_⟩
          rw [show (34 : Int32) = Int32.ofNat 34 from rfl, zi_add, zi_nat (show 34 + bW X.1 < 2 ^ 31 by omega), show (30 : Int32).toNatClampNeg = 30 from rfl]
          refine ⟨zi_in (by omega) (by omega), ?_⟩
          intro w16 e16 w17 e17
          have g30 : gI w16 210 30 = Int32.ofNat (bW X.1) := by rw [e16, gI_sI_ne2 (by omega), gI_sI_ne (by decide)]; exact rx12.1.1
          rw [g30, zl1, zi_add] at e17
          have i17 : ∀ a c, ¬ (a = 210 ∧ (c = 30 ∨ c = 34 + bW X.1)) → ¬ (a = 200 ∧ c = 7) → gI w17 a c = gI w12 a c := fun a c q1 q2 => by rw [e17, gI_sI, if_neg (by omega), e16, gI_sI, if_neg (by omega), gI_sI, if_neg q2]
          have l17 : ∀ a c, gL w17 a c = gL w12 a c := fun a c => by rw [e17, e16]; rfl
          refine hok w17 (zfG_trans f12 ⟨fun a c q1 q2 _ _ _ => i17 a c (by omega) (by omega), fun a c _ => l17 a c, fun a c => by rw [e17, e16]; rfl⟩) rfl ?_ ?_
          · refine zRt_K rt12 ⟨fun c => ⟨i17 _ _ (by omega) (by omega), i17 _ _ (by omega) (by omega)⟩, fun c => ⟨l17 _ _, l17 _ _⟩⟩ hlt2 ?_ ?_
            · rw [i17 200 8 (by omega) (by omega)]; exact rt12.2.2.2.1
            · rw [e17, gI_sI_ne (by decide), e16, gI_sI_ne (by decide), gI_sI_eq]
          · refine ⟨⟨by rw [e17, gI_sI_eq]; rfl, ?_, ?_⟩, ?_, ?_, fun o ho => ?_, fun r hr => ?_, fun r hr => ?_, fun r i hr hi h60 => ?_, fun o ho => ?_, fun q => ?_, fun n' g' q => ?_⟩
            · rw [i17 _ _ (by omega) (by omega)]; exact rx12.1.2.1
            · rw [i17 _ _ (by omega) (by omega)]; exact rx12.1.2.2
            · rw [i17 _ _ (by omega) (by omega)]; exact rx12.2.1
            · rw [i17 _ _ (by omega) (by omega)]; exact rx12.2.2.1
            · have ho' : o < bW X.1 + 1 := ho
              show _ = Int32.ofNat (if o = bW X.1 then (zTT sg n).ky (j + 2) - 10 else bKd X.1 o)
              by_cases z : o = bW X.1
              · rw [if_pos z, e17, gI_sI_ne2 (by omega), e16, z, gI_sI_eq]
              · rw [if_neg z, i17 _ _ (by omega) (by omega)]; exact rx12.2.2.2.1 o (by omega)
            · rw [i17 _ _ (by omega) (by omega)]; exact rx12.2.2.2.2.1 r hr
            · rw [i17 _ _ (by omega) (by omega)]; exact rx12.2.2.2.2.2.1 r hr
            · rw [i17 _ _ (by omega) (by omega)]; exact rx12.2.2.2.2.2.2.1 r i hr hi h60
            · have ho' : o < bW X.1 + 1 := ho
              rw [l17]
              show _ = Int64.ofNat (zn37 (if o = bW X.1 then (zTT sg n).nm (j + 1) else X.2.1 o))
              by_cases z : o = bW X.1
              · rw [if_pos z, z]; exact hnm12
              · rw [if_neg z]; exact rx12.2.2.2.2.2.2.2.1 o (by omega)
            · rw [i17 _ _ (by omega) (by omega)]; exact rx12.2.2.2.2.2.2.2.2.1 q
            · obtain ⟨y1, y2, y3⟩ := rx12.2.2.2.2.2.2.2.2.2 n' g' q
              exact ⟨by rw [i17 _ _ (by omega) (by omega)]; exact y1, fun i hi => by rw [i17 _ _ (by omega) (by omega)]; exact y2 i hi, by rw [i17 _ _ (by omega) (by omega)]; exact y3⟩
        · have hf := rf_e (sg := sg) (n := n) (e := 1) (i := j + 2) w12 hn1 (by omega)
          refine ⟨fun _ => q12_err hn1 (by omega) f12 (j := j) (X := X) ?_ herr, fun z => absurd z (rf_ne hf)⟩
          rw [zLnW, if_neg (by omega), if_neg (fun z => z y), if_neg e, if_neg (by omega)]
    · refine hJF _ _ _ (rf_e _ hn1 (by omega)) (q12_err hn1 (by omega) f3 (j := j) (X := X) ?_ herr)
      rw [zLnW, if_neg (by omega), if_pos y]
  · have q' : bW X.1 = 4 := (zi_eq (b := 4) (by omega) (by decide)).mp q
    refine q12_wrong (x := 5) hrt (q12_err hn1 (by omega) (zfG_refl _) (j := j) (X := X) ?_ herr)
    rw [zLnW, if_pos (by omega)]
theorem q12_row {sg : Nat → Nat} {n m : Nat} (hsg : zSg sg n) (hm : zTm (zTT sg n) m) : zRln sg n m fX12_readRow (zLnR (zTT sg n)) := by
  intro j X w k hj hX hrt hrx hok herr
  have hn1 := hsg.1
  obtain ⟨⟨hW, hR, hC⟩, h2, -, -, -, -, h7, -⟩ := hX
  have h32 : gI w 210 (32 : Int32).toNatClampNeg = Int32.ofNat (bR X.1) := hrx.1.2.2
  have hJF : ∀ (e : Nat) (v : zW) (x : Int32), zRf e v → k v → fX12_readRow_J63 k x v := fun e v x hv hk => by
    rw [fX12_readRow_J63]
    exact ⟨fun q => absurd q (rf_le hv), fun _ => hk⟩
  rw [fX12_readRow, h32]
  intro v1 e1
  rw [e1]
  refine ⟨fun q => ?_, fun q => ?_⟩
  · have q' : bR X.1 < 8 := by
      by_cases z : bR X.1 = 8
      · exact absurd (by rw [z]; rfl) q
      · omega
    intro w3 e3 w4 e4
    rw [hrt.2.2.2.2, zl1, zi_add] at e3
    have f4 : zfG w w4 := by rw [e4, e3]; exact zfG_trans (zfG_s _ _ (by omega)) (zfG_s _ _ (by omega))
    have rx4 : zRX X w4 := by rw [e4, e3]; exact zRX_s (zRX_s hrx _ (by decide)) _ (by decide)
    have rt4 : zRtk sg n m (j + 1) w4 := by
      have := zRt_7 (j' := j + 1) hrt hj
      rw [e4, e3]
      exact zRt_K this (zfK_sI _ _ _ (by decide)) hj (by rw [gI_sI_ne2 (by decide)]; exact this.2.2.2.1) (by rw [gI_sI_ne2 (by decide)]; exact this.2.2.2.2)
    have hL0 : zRok (bW X.1) zRow0 := ⟨show 0 ≤ 61 by omega, fun i hi => absurd hi (Nat.not_lt_zero _)⟩
    have lq4 : zLq zRow0 w4 := ⟨by rw [e4, gI_sI_eq]; rfl, fun i hi => absurd hi (Nat.not_lt_zero i)⟩
    obtain ⟨o1, o2⟩ := zIs_ok (W := bW X.1) (nm := X.2.1) hn1 hm 3
    have p1 := (o1 (j + 1, zRow0) (show j + 1 ≤ m by omega) hL0).1
    have eR : ¬ 8 ≤ bR X.1 := by omega
    rw [fX12_readItemsT]
    refine q12_items hsg hm hW h7 3 0 5 rfl (by decide) (j + 1, zRow0) w4 _ (show j + 1 ≤ m by omega) hL0 ⟨rt4, lq4, rx4.2.2.2.2.2.2.2.1, rx4.1.1⟩ (fun v fv e0 hv => ?_) (fun v fv e0 hv => ?_)
    · obtain ⟨p1a, p1b, p1c, p1d, p1e⟩ := p1 e0
      have ez : zLnR (zTT sg n) j X = (if zSn (zTT sg n) 59 (zIs (zTT sg n) X.2.1 (bW X.1) 3 (j + 1, zRow0)).2.1 = true ∧ 60 < (zIs (zTT sg n) X.2.1 (bW X.1) 3 (j + 1, zRow0)).2.2.1 then (5 + 16 * (zTT sg n).pl (zIs (zTT sg n) X.2.1 (bW X.1) 3 (j + 1, zRow0)).2.1, j, X) else (0, (zIs (zTT sg n) X.2.1 (bW X.1) 3 (j + 1, zRow0)).2.1, uR X (zIs (zTT sg n) X.2.1 (bW X.1) 3 (j + 1, zRow0)).2.2)) := by rw [zLnR, if_neg eR, if_pos e0]
      rw [ez] at hok herr
      generalize zIs (zTT sg n) X.2.1 (bW X.1) 3 (j + 1, zRow0) = r at p1a p1b p1c p1d p1e hv hok herr
      have ffv : zfG w v := zfG_trans f4 (zfG_J fv)
      have rxv : zRX X v := zRX_K rx4 (fun a c q => fv.1 a c (by omega) (by omega)) (fun c => by rw [gL, gL, fv.2])
      have l61 := p1c.1
      have hgood : ¬ (zSn (zTT sg n) 59 r.2.1 = true ∧ 60 < r.2.2.1) → fX12_readRow_J63 k (Int32.ofNat (bR X.1)) v := fun hne => by
        have ez2 : (if zSn (zTT sg n) 59 r.2.1 = true ∧ 60 < r.2.2.1 then (5 + 16 * (zTT sg n).pl r.2.1, j, X) else (0, r.2.1, uR X r.2.2)) = ((0, r.2.1, uR X r.2.2) : zRs) := if_neg hne
        rw [ez2] at hok
        have hJ114 : ∀ (u : zW) (i : Nat), (∀ a c, ¬ (a = 211 ∧ 480 + 60 * bR X.1 ≤ c ∧ c < 480 + 60 * bR X.1 + 60) → gI u a c = gI v a c) → u.2 = v.2 → (∀ p, p < i → gI u 211 (480 + 60 * bR X.1 + p) = Int32.ofNat (r.2.2.2 p)) → (i = r.2.2.1 ∨ i = 60) → fX12_readRow_J114 k (Int32.ofNat (bR X.1)) u := by
          intro u i hu hu2 hp hi
          have g16 : gI u 200 16 = Int32.ofNat r.2.2.1 := (hu _ _ (by omega)).trans hv.2.1.1
          rw [fX12_readRow_J114, show (46 : Int32) = Int32.ofNat 46 from rfl, zi_add, zi_nat (show 46 + bR X.1 < 2 ^ 31 by omega), g16, show (32 : Int32).toNatClampNeg = 32 from rfl]
          refine ⟨zi_in (by omega) (by omega), ?_⟩
          intro w11 e11 w12 e12
          have g32 : gI w11 210 32 = Int32.ofNat (bR X.1) := by rw [e11, gI_sI_ne2 (by omega), hu _ _ (by omega)]; exact rxv.1.2.2
          rw [g32, zl1, zi_add] at e12
          have i12 : ∀ a c, ¬ (a = 210 ∧ (c = 32 ∨ c = 46 + bR X.1)) → gI w12 a c = gI u a c := fun a c q => by rw [e12, gI_sI, if_neg (by omega), e11, gI_sI, if_neg (by omega)]
          have s12 : w12.2 = v.2 := by rw [e12, e11]; exact hu2
          refine hok w12 (zfG_trans ffv ⟨fun a c q1 q2 q3 q4 q5 => by rw [i12 a c (by omega)]; exact hu a c (by omega), fun a c _ => by rw [gL, gL, s12], fun a c => by rw [gR, gR, s12]⟩) rfl ?_ ?_
          · refine zRt_K hv.1 ⟨fun c => ⟨?_, ?_⟩, fun c => ⟨by rw [gL, gL, s12], by rw [gL, gL, s12]⟩⟩ p1b ?_ ?_
            · rw [i12 _ _ (by omega)]; exact hu _ _ (by omega)
            · rw [i12 _ _ (by omega)]; exact hu _ _ (by omega)
            · rw [i12 _ _ (by omega), hu _ _ (by omega)]; exact hv.1.2.2.2.1
            · rw [i12 _ _ (by omega), hu _ _ (by omega)]; exact hv.1.2.2.2.2
          · refine ⟨⟨?_, ?_, by rw [e12, gI_sI_eq]; rfl⟩, ?_, ?_, fun o ho => ?_, fun r' hr => ?_, fun r' hr => ?_, fun r' i' hr hi' h60 => ?_, fun o ho => ?_, fun q => ?_, fun n' g' q => ?_⟩
            · rw [i12 _ _ (by omega), hu _ _ (by omega)]; exact rxv.1.1
            · rw [i12 _ _ (by omega), hu _ _ (by omega)]; exact rxv.1.2.1
            · rw [i12 _ _ (by omega), hu _ _ (by omega)]; exact rxv.2.1
            · rw [i12 _ _ (by omega), hu _ _ (by omega)]; exact rxv.2.2.1
            · have ho' : o < bW X.1 := ho
              rw [i12 _ _ (by omega), hu _ _ (by omega)]; exact rxv.2.2.2.1 o ho
            · rw [i12 _ _ (by omega), hu _ _ (by omega)]; exact rxv.2.2.2.2.1 r' hr
            · have hr' : r' < bR X.1 + 1 := hr
              show _ = Int32.ofNat (if r' = bR X.1 then r.2.2.1 else bLn X.1 r')
              by_cases z : r' = bR X.1
              · rw [if_pos z, e12, gI_sI_ne2 (by omega), e11, z, gI_sI_eq]
              · rw [if_neg z, i12 _ _ (by omega), hu _ _ (by omega)]; exact rxv.2.2.2.2.2.1 r' (by omega)
            · have hr' : r' < bR X.1 + 1 := hr
              have hi'' : i' < (if r' = bR X.1 then r.2.2.1 else bLn X.1 r') := hi'
              show _ = Int32.ofNat (if r' = bR X.1 then r.2.2.2 i' else bIt X.1 r' i')
              by_cases z : r' = bR X.1
              · rw [if_pos z] at hi'' ⊢
                rw [i12 _ _ (by omega), z]; exact hp i' (by omega)
              · rw [if_neg z] at hi'' ⊢
                rw [i12 _ _ (by omega), hu _ _ (by omega)]; exact rxv.2.2.2.2.2.2.1 r' i' (by omega) hi'' h60
            · rw [gL, s12]; exact rxv.2.2.2.2.2.2.2.1 o ho
            · rw [i12 _ _ (by omega), hu _ _ (by omega)]; exact rxv.2.2.2.2.2.2.2.2.1 q
            · obtain ⟨y1, y2, y3⟩ := rxv.2.2.2.2.2.2.2.2.2 n' g' q
              exact ⟨by rw [i12 _ _ (by omega), hu _ _ (by omega)]; exact y1, fun i hi => by rw [i12 _ _ (by omega), hu _ _ (by omega)]; exact y2 i hi, by rw [i12 _ _ (by omega), hu _ _ (by omega)]; exact y3⟩
        have hgo : ∀ (d i : Nat) (u : zW), i + d = zmn 60 r.2.2.1 → (∀ a c, ¬ (a = 211 ∧ 480 + 60 * bR X.1 ≤ c ∧ c < 480 + 60 * bR X.1 + 60) → gI u a c = gI v a c) → u.2 = v.2 → (∀ p, p < i → gI u 211 (480 + 60 * bR X.1 + p) = Int32.ofNat (r.2.2.2 p)) → fX12_readRow_L73 k (d + 1) (Int32.ofNat (bR X.1)) (Int32.ofNat i) u := by
          intro d
          induction d with
          | zero =>
            intro i u hi hu hu2 hp
            have g16 : gI u 200 16 = Int32.ofNat r.2.2.1 := (hu _ _ (by omega)).trans hv.2.1.1
            rw [fX12_readRow_L73]
            try dsimp only
            rw [g16]
            by_cases z : r.2.2.1 ≤ 60
            · rw [zmn_r z] at hi
              exact ⟨fun _ => hJ114 u i hu hu2 hp (by omega), fun y => absurd ((zi_le (by omega) (by omega)).mpr (by omega)) y⟩
            · rw [zmn_l (by omega)] at hi
              exact ⟨fun _ => hJ114 u i hu hu2 hp (by omega), fun _ => ⟨fun _ => hJ114 u i hu hu2 hp (by omega), fun y => absurd ((zi_le (a := 60) (by decide) (by omega)).mpr (by omega)) y⟩⟩
          | succ d ih =>
            intro i u hi hu hu2 hp
            have hz := zmn_le 60 r.2.2.1
            have g16 : gI u 200 16 = Int32.ofNat r.2.2.1 := (hu _ _ (by omega)).trans hv.2.1.1
            rw [fX12_readRow_L73]
            try dsimp only
            rw [g16, zi_nat (show i < 2 ^ 31 by omega), show gI u 215 i = Int32.ofNat (r.2.2.2 i) from (hu _ _ (by omega)).trans (hv.2.1.2 i (by omega)), zl480, zl60, zi_mul, zi_add, zi_add, zi_nat (show 480 + 60 * bR X.1 + i < 2 ^ 31 by omega)]
            refine ⟨fun y => absurd ((zi_le (by omega) (by omega)).mp y) (by omega), fun _ => ⟨fun y => absurd ((zi_le (by omega) (by omega)).mp y) (by omega), fun _ => ⟨zi_in (by omega) (by omega), zi_in (by omega) (by omega), ?_⟩⟩⟩
            intro w16 e16
            rw [zl1, zi_add]
            refine ih (i + 1) w16 (by omega) (fun a c q => by rw [e16, gI_sI, if_neg (by omega)]; exact hu a c q) (by rw [e16]; exact hu2) (fun p hp1 => ?_)
            rw [e16]
            by_cases z : p = i
            · rw [z, gI_sI_eq]
            · rw [gI_sI_ne2 (by omega)]; exact hp p (by omega)
        rw [fX12_readRow_J63]
        exact ⟨fun _ => ⟨zmn 60 r.2.2.1 + 1, hgo (zmn 60 r.2.2.1) 0 v (by omega) (fun _ _ _ => rfl) rfl (fun p hp => absurd hp (Nat.not_lt_zero p))⟩, fun y => absurd (rt_ne hv.1) y⟩
      refine q12_sn (c := 59) hsg hv.1 (by decide) (fun y => ⟨fun z => absurd z (by decide), fun _ => ?_⟩) (fun y => ⟨fun _ => hgood (fun z => y z.1), fun z => absurd rfl z⟩)
      rw [hv.2.1.1]
      refine ⟨fun z => hgood (fun z2 => ?_), fun z => ?_⟩
      · have := (zi_le (b := 60) (by omega) (by decide)).mp z
        have := z2.2
        omega
      · have z' : 60 < r.2.2.1 := by
          by_cases y2 : 60 < r.2.2.1
          · exact y2
          · exact absurd ((zi_le (b := 60) (by omega) (by decide)).mpr (by omega)) z
        refine q12_wrong (x := 5) hv.1 (hJF _ _ _ (rf_e _ hn1 (by omega)) (q12_err hn1 (by omega) ffv (j := j) (X := X) (if_pos ⟨y, z'⟩) herr))
    · have ez : zLnR (zTT sg n) j X = ((zIs (zTT sg n) X.2.1 (bW X.1) 3 (j + 1, zRow0)).1, j, X) := by rw [zLnR, if_neg eR, if_neg e0]
      rw [ez] at herr
      exact q12_isSignF hv ⟨fun _ => hJF _ v _ hv (herr v (zfG_trans f4 (zfG_J fv)) e0 hv), fun z => absurd rfl z⟩
  · have q' : bR X.1 = 8 := (zi_eq (b := 8) (by omega) (by decide)).mp q
    refine q12_wrong (x := 5) hrt (q12_err hn1 (by omega) (zfG_refl _) (j := j) (X := X) ?_ herr)
    rw [zLnR, if_pos (by omega)]

/-! Level 2: the class's briefOf; line -/
theorem zInv_x {B : zBk} {S : Nat → Int32} {N : zNt} {b nn : Nat} {w v : zW} (h : zInv B S N b nn w) (hf : ∀ a c, zkeep a c → a ≠ 31 → a ≠ b + 30 → (a = 0 → c < 140 ∨ 143 ≤ c) → gI v a c = gI w a c)
    (hL : ∀ a c, a ≠ 140 → a ≠ 141 → a ≠ 142 → gL v a c = gL w a c) (hR : ∀ a c, (a = 1 ∧ c < 13) ∨ a = 24 → gR v a c = gR w a c) (hsl : zSlips B S v) (hbr : zBrief B b v) : zInv B S N b nn v := by
  obtain ⟨hwf, hrb, hcb, hha, hpa, hma, hta, hna, hre, hsh, _, hno, _⟩ := h
  have hb := hre.1
  have hnn := hre.2.2.2.1
  refine ⟨hwf, zRB_of hrb (fun k hk => hf 210 k (by unfold zkeep; omega) (by omega) (by omega) (by omega)) (fun k hk => hf 211 k (by unfold zkeep; omega) (by omega) (by omega) (by omega)) (fun k => hf 223 k (by unfold zkeep; omega) (by omega) (by omega) (by omega)) (fun k => hf 224 k (by unfold zkeep; omega) (by omega) (by omega) (by omega)) (fun k => hf 225 k (by unfold zkeep; omega) (by omega) (by omega) (by omega)) hwf,
    zCB_of hcb (fun a k h1 h2 => hf a k (by unfold zkeep; omega) (by omega) (by omega) (by omega)) hwf, ⟨hha.1, fun i hi => by rw [hf 220 i (by unfold zkeep; omega) (by omega) (by omega) (by omega)]; exact hha.2.1 i hi, fun i hi => by rw [hf (9 + 1) i (by unfold zkeep; omega) (by omega) (by omega) (by omega)]; exact hha.2.2 i hi⟩, ?_, ?_, ?_, zNames_of hna (fun o _ => ⟨hL 214 o (by omega) (by omega) (by omega), hL (b + 1) o (by omega) (by omega) (by omega)⟩) (fun i => hL 209 i (by omega) (by omega) (by omega)), zRefs_of hre (fun k hk => hR 1 k (by omega)), ?_, hsl, ?_, hbr⟩
  · obtain ⟨n, P, p1, p2, p3, p4, p5, p6, p7⟩ := hpa
    refine ⟨n, P, p1, by rw [hf 200 21 (by unfold zkeep; omega) (by omega) (by omega) (by omega)]; exact p2, by rw [hf 21 0 (by unfold zkeep; omega) (by omega) (by omega) (by omega)]; exact p3, fun j i hj hi => by rw [hf 220 _ (by unfold zkeep; omega) (by omega) (by omega) (by omega)]; exact p4 j i hj hi, p5, p6, fun j hj => ?_⟩
    rw [hf 22 j (by unfold zkeep; omega) (by omega) (by omega) (by omega), hf 23 j (by unfold zkeep; omega) (by omega) (by omega) (by omega)]
    exact p7 j hj
  · intro m hm
    obtain ⟨f, q1, q2, q3⟩ := hma m hm
    refine ⟨f, by rw [hf 222 m (by unfold zkeep; omega) (by omega) (by omega) (by omega)]; exact q1, by rw [hf 20 m (by unfold zkeep; omega) (by omega) (by omega) (by omega)]; exact q2, fun e => ?_⟩
    obtain ⟨Q, z1, z2, z3⟩ := q3 e
    exact ⟨Q, z1, fun i hi => by rw [hf 220 _ (by unfold zkeep; omega) (by omega) (by omega) (by omega)]; exact z2 i hi, fun i hi => by rw [hf _ i (by unfold zkeep; omega) (by omega) (by omega) (by omega)]; exact z3 i hi⟩
  · obtain ⟨n', t, t1, t2, t3, t4⟩ := hta
    exact ⟨n', t, t1, by rw [hf 200 2 (by unfold zkeep; omega) (by omega) (by omega) (by omega)]; exact t2, by rw [hf 2 1 (by unfold zkeep; omega) (by omega) (by omega) (by omega)]; exact t3, fun i hi => ⟨(t4 i hi).1, by rw [hf 201 i (by unfold zkeep; omega) (by omega) (by omega) (by omega)]; exact (t4 i hi).2.1, by rw [hf 3 i (by unfold zkeep; omega) (by omega) (by omega) (by omega)]; exact (t4 i hi).2.2⟩⟩
  · obtain ⟨big, bs, hs, h1, h2, h3, h4, h5, h6, h7⟩ := hsh
    have e24 : ∀ c, gI v 24 c = gI w 24 c := fun c => hf 24 c (by unfold zkeep; omega) (by omega) (by omega) (by omega)
    have e0 : ∀ c, 143 ≤ c → gI v 0 c = gI w 0 c := fun c hc => hf 0 c (by unfold zkeep; omega) (by omega) (by omega) (by omega)
    have r24 : ∀ c, gR v 24 c = gR w 24 c := fun c => hR 24 c (by omega)
    have hbig := zBig_is h5
    refine ⟨big, bs, hs, h1, h2, by rw [e24]; exact h3, by rw [e24]; exact h4, zBig_of h5 (fun c _ => r24 c) (fun c hc => e0 c (by omega)), fun e => ?_, fun e => ?_⟩
    · obtain ⟨q1, q2, q3, q4, q5, q6⟩ := h6 e
      exact ⟨by rw [r24]; exact q1, q2, by rw [e24]; exact q3, by rw [e24]; exact q4, fun i hi => by rw [hf big i (by unfold zkeep; omega) (by omega) (by omega) (by omega)]; exact q5 i hi, fun i hi => by rw [hf (big + 2) i (by unfold zkeep; omega) (by omega) (by omega) (by omega)]; exact q6 i hi⟩
    · obtain ⟨q1, q2, q3⟩ := h7 e
      exact ⟨q1, by rw [e24]; exact q2, fun i hi => by rw [hf (big + 1) i (by unfold zkeep; omega) (by omega) (by omega) (by omega)]; exact q3 i hi⟩
  · have h40 := hno.1.1
    obtain ⟨z1, z2, z3, z4, z5, st, z6, z7, z8⟩ := hno
    refine ⟨z1, by rw [hf 217 0 (by unfold zkeep; omega) (by omega) (by omega) (by omega)]; exact z2, by rw [hf nn 0 (by unfold zkeep; omega) (by omega) (by omega) (by omega)]; exact z3, fun i hi => ?_, fun i hi => ?_, st, z6, by rw [hf nn 1 (by unfold zkeep; omega) (by omega) (by omega) (by omega)]; exact z7, fun e => ?_⟩
    · rw [hf 217 _ (by unfold zkeep; omega) (by omega) (by omega) (by omega), hf 217 _ (by unfold zkeep; omega) (by omega) (by omega) (by omega), hf 217 _ (by unfold zkeep; omega) (by omega) (by omega) (by omega), hf 217 _ (by unfold zkeep; omega) (by omega) (by omega) (by omega)]
      exact z4 i hi
    · rw [hf (nn + 1) _ (by unfold zkeep; omega) (by omega) (by omega) (by omega), hf (nn + 2) _ (by unfold zkeep; omega) (by omega) (by omega) (by omega), hf (nn + 3) _ (by unfold zkeep; omega) (by omega) (by omega) (by omega)]
      exact z5 i hi
    · rw [hf nn _ (by unfold zkeep; omega) (by omega) (by omega) (by omega), hf nn _ (by unfold zkeep; omega) (by omega) (by omega) (by omega), hf nn _ (by unfold zkeep; omega) (by omega) (by omega) (by omega)]
      exact z8 e
/-- where the class's table stands in its work -/
abbrev zFw (it : Nat → Nat) (n br m f p c : Nat) (w v : zW) : Prop := zqs w v ∧ gR v 140 0 = p ∧ gR v 140 1 = c ∧ ((p = 141 ∧ c = 142) ∨ (p = 142 ∧ c = 141)) ∧ zt2 it br n m f c v ∧ (1 ≤ br → zt2 it (br - 1) n (n + 1) 0 p v)
theorem zFw.qs {it : Nat → Nat} {n br m f p c : Nat} {w v : zW} (h : zFw it n br m f p c w v) : zqs w v := h.1
theorem zFw.rp {it : Nat → Nat} {n br m f p c : Nat} {w v : zW} (h : zFw it n br m f p c w v) : gR v 140 0 = p := h.2.1
theorem zFw.rc {it : Nat → Nat} {n br m f p c : Nat} {w v : zW} (h : zFw it n br m f p c w v) : gR v 140 1 = c := h.2.2.1
theorem zFw.pc {it : Nat → Nat} {n br m f p c : Nat} {w v : zW} (h : zFw it n br m f p c w v) : (p = 141 ∧ c = 142) ∨ (p = 142 ∧ c = 141) := h.2.2.2.1
theorem zFw.cur {it : Nat → Nat} {n br m f p c : Nat} {w v : zW} (h : zFw it n br m f p c w v) : zt2 it br n m f c v := h.2.2.2.2.1
theorem zFw.prev {it : Nat → Nat} {n br m f p c : Nat} {w v : zW} (h : zFw it n br m f p c w v) : 1 ≤ br → zt2 it (br - 1) n (n + 1) 0 p v := h.2.2.2.2.2
theorem q2_fewest {it : Nat → Nat} {n a1 : Nat} {w : zW} {k : Int32 → zW → Prop} (hpc : (gR w 140 0 = 141 ∧ gR w 140 1 = 142) ∨ (gR w 140 0 = 142 ∧ gR w 140 1 = 141)) (hz : zln a1 = 60) (ha1 : a1 < 140) (hit : ∀ i, i < n → gI w a1 i = Int32.ofNat (it i)) (h4 : ∀ i, i < n → it i < 4) (h1 : 1 ≤ n) (hn : n ≤ 60)
    (hk : ∀ v, zqs w v → ((gR v 140 0 = 141 ∧ gR v 140 1 = 142) ∨ (gR v 140 0 = 142 ∧ gR v 140 1 = 141)) → k (Int32.ofNat (zT it 3 0 n)) v) : fX2_fewest 140 a1 (Int32.ofNat n) w k := by
  have hitv : ∀ v, zqs w v → ∀ i, i < n → gI v a1 i = Int32.ofNat (it i) := fun v hv i hi => by rw [hv.1 a1 i (by omega)]; exact hit i hi
  have hL58 : ∀ (g21 : Int32 → Int32 → zW → Prop) (g49 : Int32 → Int32 → Int32 → zW → Prop) (br m p c : Nat), br < 4 → 1 ≤ m → m ≤ n → (∀ v, zFw it n br (m + 1) 0 p c w v → g49 (Int32.ofNat n) (Int32.ofNat br) (Int32.ofNat (m + 1)) v) → ∀ (d f : Nat) (v : zW), f + d = n - m + 1 → zFw it n br m f p c w v → fX2_fewest_L58 140 a1 k g21 g49 (d + 1) (Int32.ofNat n) (Int32.ofNat br) (Int32.ofNat m) (Int32.ofNat f) v := by
    intro g21 g49 br m p c hb hm1 hm2 hnext d
    induction d with
    | zero =>
      intro f v hd hv
      rw [fX2_fewest_L58]
      try dsimp only
      rw [zi_add]
      refine ⟨fun _ => ?_, fun q => absurd ((zi_lt (by omega) (by omega)).mpr (by omega)) q⟩
      rw [zl1, zi_add]
      exact hnext v ⟨hv.qs, hv.rp, hv.rc, hv.pc, fun m2 f2 b1 b2 b3 => hv.cur m2 f2 b1 b2 (by omega), hv.prev⟩
    | succ d ih =>
      intro f v hd hv
      have hpc2 := hv.pc
      have hlc : zln c = 3600 := by rcases hpc2 with e | e <;> rw [e.2] <;> rfl
      rw [fX2_fewest_L58]
      try dsimp only
      rw [zi_add, hv.rc]
      refine ⟨fun q => absurd ((zi_lt (by omega) (by omega)).mp q) (by omega), fun _ => ⟨by omega, q2_index hm1 ?_⟩⟩
      refine q2_best hv.rp hv.rc hv.pc hz (hitv v hv.qs) h4 hn hv.prev hv.cur hm1 (by omega) hb ⟨by rw [hlc]; exact zi_in (by omega) (by omega), ?_⟩
      intro w18 e18
      rw [zi_nat (by omega)] at e18
      rw [zl1, zi_add]
      subst e18
      refine ih (f + 1) _ (by omega) ⟨⟨fun a j ha => ?_, fun a j => hv.qs.2.1 a j, fun a j ha => hv.qs.2.2 a j ha⟩, hv.rp, hv.rc, hv.pc, fun m2 f2 b1 b2 b3 => ?_, fun hb1 m2 f2 b1 b2 b3 => ?_⟩
      · rw [gI_sI_ne (by omega)]
        exact hv.qs.1 a j ha
      · by_cases e : m2 = m ∧ f2 = f
        · rw [e.1, e.2, gI_sI_eq]
        · rw [gI_sI_ne2 (by omega)]
          exact hv.cur m2 f2 b1 b2 (by omega)
      · rw [gI_sI_ne (by omega)]
        exact hv.prev hb1 m2 f2 b1 b2 b3
  have hL49 : ∀ (g21 : Int32 → Int32 → zW → Prop) (br p c : Nat), br < 4 → (∀ v, zFw it n br (n + 1) 0 p c w v → g21 (Int32.ofNat n) (Int32.ofNat (br + 1)) v) → ∀ (d m : Nat) (v : zW), m + d = n + 1 → 1 ≤ m → zFw it n br m 0 p c w v → fX2_fewest_L49 140 a1 k g21 (d + 1) (Int32.ofNat n) (Int32.ofNat br) (Int32.ofNat m) v := by
    intro g21 br p c hb hnext d
    induction d with
    | zero =>
      intro m v hd hm hv
      rw [fX2_fewest_L49]
      try dsimp only
      refine ⟨fun _ => ?_, fun q => absurd ((zi_lt (by omega) (by omega)).mpr (by omega)) q⟩
      rw [zl1, zi_add]
      rw [show m = n + 1 by omega] at hv
      exact hnext v hv
    | succ d ih =>
      intro m v hd hm hv
      rw [fX2_fewest_L49]
      try dsimp only
      refine ⟨fun q => absurd ((zi_lt (by omega) (by omega)).mp q) (by omega), fun _ => ?_⟩
      exact ⟨n - m + 1 + 1, hL58 _ _ br m p c hb hm (by omega) (fun v' hv' => ih (m + 1) v' (by omega) (by omega) hv') (n - m + 1) 0 v (by omega) hv⟩
  have hL21 : ∀ (d br p c : Nat) (v : zW), br + d = 4 → zqs w v → gR v 140 0 = p → gR v 140 1 = c → ((p = 141 ∧ c = 142) ∨ (p = 142 ∧ c = 141)) → (1 ≤ br → zt2 it (br - 1) n (n + 1) 0 c v) → fX2_fewest_L21 140 a1 k (d + 1) (Int32.ofNat n) (Int32.ofNat br) v := by
    intro d
    induction d with
    | zero =>
      intro br p c v hd hqs hp hc hpc2 hcur
      have hlc : zln c = 3600 := by rcases hpc2 with e | e <;> rw [e.2] <;> rfl
      rw [fX2_fewest_L21]
      try dsimp only
      rw [hc]
      refine ⟨fun _ => ⟨by omega, q2_index (f := 0) h1 ⟨by rw [hlc]; exact zi_in (by omega) (by omega), ?_⟩⟩, fun q => absurd ((zi_lt (a := 3) (by decide) (by omega)).mpr (by omega)) q⟩
      rw [zi_nat (by omega), hcur (by omega) n 0 h1 (by omega) (Or.inl (by omega)), show br - 1 = 3 by omega]
      exact hk v hqs (by rw [hp, hc]; exact hpc2)
    | succ d ih =>
      intro br p c v hd hqs hp hc hpc2 hcur
      rw [fX2_fewest_L21]
      try dsimp only
      rw [hp, hc]
      refine ⟨fun q => absurd ((zi_lt (a := 3) (by decide) (by omega)).mp q) (by omega), fun _ => ⟨by omega, by omega, ?_⟩⟩
      intro w10 e10 w11 e11
      subst e10
      subst e11
      refine ⟨n + 1, hL49 _ br c p (by omega) (fun v' hv' => ?_) n 1 _ (by omega) (by omega) ⟨⟨fun a j ha => hqs.1 a j ha, fun a j => hqs.2.1 a j, fun a j ha => ?_⟩, ?_, gR_sR_eq _ _ _ _, by omega, fun m2 f2 b1 b2 b3 => by omega, fun hb1 => hcur hb1⟩⟩
      · exact ih (br + 1) c p v' (by omega) hv'.qs hv'.rp hv'.rc (by omega) (fun _ => hv'.cur)
      · rw [gR_sR_ne (by omega), gR_sR_ne (by omega)]
        exact hqs.2.2 a j ha
      · rw [gR_sR_ne2 (by omega), gR_sR_eq]
  rw [fX2_fewest, hz]
  refine ⟨fun q => absurd ((zi_lt (b := 1) (by omega) (by decide)).mp q) (by omega), fun _ => ⟨fun q => absurd ((zi_lt (a := 60) (by decide) (by omega)).mp q) (by omega), fun _ => ⟨fun _ => ?_, fun q => absurd ((zi_le (by omega) (by decide)).mpr hn) q⟩⟩⟩
  exact ⟨4 + 1, hL21 4 0 _ _ w (by omega) ⟨fun _ _ _ => rfl, fun _ _ => rfl, fun _ _ _ => rfl⟩ rfl rfl hpc (fun q => by omega)⟩
theorem q11_brief30 {B : zBk} {S : Nat → Int32} {N : zNt} {b nn r mc ms : Nat} {w w0 : zW} {k : Int32 → zW → Prop} (h : zInv B S N b nn w0) (hr : r < bR B) (h13 : gR w 1 13 = 140) (h140 : gI w 0 140 = 1) (hpc : (gR w 140 0 = 141 ∧ gR w 140 1 = 142) ∨ (gR w 140 0 = 142 ∧ gR w 140 1 = 141))
    (hI : ∀ a c, (a < 140 ∨ 143 ≤ a) → (a = 0 → c < 140 ∨ 143 ≤ c) → gI w a c = gI w0 a c) (hL : ∀ a c, (a < 140 ∨ 143 ≤ a) → gL w a c = gL w0 a c) (hR : ∀ a c, (a < 140 ∨ 143 ≤ a) → ¬ (a = 1 ∧ c = 13) → gR w a c = gR w0 a c)
    (hk : ∀ v, zInv B S N b nn v → gI v 0 140 = 1 → gR v 24 4 = gR w0 24 4 → k (Int32.ofNat (zBrf B r)) v) : fX11_briefOf_J30 k mc ms (Int32.ofNat r) w := by
  have hwf := iv_wf h
  have hcb := iv_cb h
  have h8 := wf_R hwf
  have h60 := wf_Ln hwf hr
  have hl1 := wf_Ln1 hwf hr
  have hb1 := (iv_re h).1
  have hb : gR w 1 9 = b := (hR 1 9 (by omega) (by omega)).trans (iv_re h).2.1
  have hz : zln (b + 11 + 1 + r) = 60 := by
    rcases hb1 with e | e <;> subst e <;> rcases (show r = 0 ∨ r = 1 ∨ r = 2 ∨ r = 3 ∨ r = 4 ∨ r = 5 ∨ r = 6 ∨ r = 7 by omega) with e | e | e | e | e | e | e | e <;> subst e <;> rfl
  rw [fX11_briefOf_J30, hb, h13]
  refine ⟨by omega, by omega, zi_in (by omega) (by omega), ?_⟩
  rw [zi_nat (show r < 2 ^ 31 by omega), hI (b + 10) r (by omega) (by omega), cb_Ln hcb hr]
  refine q2_fewest (it := bIt B r) hpc hz (by omega) (fun i hi => by rw [hI _ _ (by omega) (by omega)]; exact cb_It hcb hr hi) (fun i hi => by have := wf_It hwf hr hi; have := wf_W hwf; omega) hl1 h60 (fun v vq vpc => ?_)
  intro w14 e14
  have e9 : gR w14 1 9 = b := by rw [e14, gR_sI, vq.2.2 1 9 (by omega)]; exact hb
  rw [fX11_briefOf_J64, e9, zi_nat (show r < 2 ^ 31 by omega)]
  refine ⟨by omega, zi_in (by omega) (by omega), ?_⟩
  have e30 : gI w14 (b + 30) r = Int32.ofNat (zBrf B r) := by rw [e14, gI_sI_eq, ← zBrf_eq]
  rw [e30]
  have hIv : ∀ a c, a ≠ b + 30 → (a < 141 ∨ 143 ≤ a) → gI w14 a c = gI w a c := fun a c q1 q2 => by rw [e14, gI_sI_ne q1]; exact vq.1 a c q2
  refine hk w14 (zInv_x h (fun a c q1 q2 q3 q4 => ?_) (fun a c q1 q2 q3 => ?_) (fun a c q => ?_) ?_ ?_) ?_ ?_
  · have q5 : a < 140 ∨ 143 ≤ a := by unfold zkeep at q1; omega
    rw [hIv a c q3 (by omega)]
    exact hI a c q5 q4
  · rw [e14, gL_sI, vq.2.1]
    exact hL a c (by omega)
  · rw [e14, gR_sI, vq.2.2 a c (by omega)]
    exact hR a c (by omega) (by omega)
  · obtain ⟨st, s1, s2, s3⟩ := iv_sl h
    have e31 : ∀ c, gI w14 31 c = gI w0 31 c := fun c => (hIv 31 c (by omega) (by omega)).trans (hI 31 c (by omega) (by omega))
    exact ⟨st, s1, by rw [e31]; exact s2, fun e => by rw [e31, e31, e31, e31]; exact s3 e⟩
  · refine ⟨fun r2 hr2 => ?_, Or.inr ⟨?_, ?_, ?_⟩⟩
    · by_cases e : r2 = r
      · rw [e]; exact Or.inr e30
      · rw [e14, gI_sI_ne2 e, vq.1 _ _ (by omega), hI _ _ (by omega) (by omega)]
        exact (iv_br h).1 r2 hr2
    · rw [e14, gR_sI, vq.2.2 1 13 (by omega)]; exact h13
    · rw [hIv 0 140 (by omega) (by omega)]; exact h140
    · rw [e14, gR_sI, gR_sI]; exact vpc
  · rw [hIv 0 140 (by omega) (by omega)]; exact h140
  · rw [e14, gR_sI, vq.2.2 24 4 (by omega)]; exact hR 24 4 (by omega) (by omega)
theorem q11_briefOf {B : zBk} {S : Nat → Int32} {N : zNt} {b nn r : Nat} {w : zW} (h : zInv B S N b nn w) (hr : r < bR B) :
    ∃ c s, c ≤ zNA w ∧ s ≤ zNS w ∧ ∀ g : Int32 → zW → Prop, (∀ v, zInv B S N b nn v → zCost c s w v → g (Int32.ofNat (zBrf B r)) v) → fX11_briefOf c s (Int32.ofNat r) w g := by
  have hwf := iv_wf h
  have h8 := wf_R hwf
  have hb1 := (iv_re h).1
  have hb := (iv_re h).2.1
  have hbr := iv_br h
  by_cases hc0 : gI w (b + 30) r = 0
  case neg =>
    refine ⟨0, 0, Nat.zero_le _, Nat.zero_le _, fun g hk => ?_⟩
    rw [fX11_briefOf, hb, zi_nat (show r < 2 ^ 31 by omega)]
    refine ⟨by omega, zi_in (by omega) (by omega), fun _ => ?_, fun q => absurd q hc0⟩
    rw [fX11_briefOf_J64, hb, zi_nat (show r < 2 ^ 31 by omega), (hbr.1 r hr).resolve_left hc0]
    exact ⟨by omega, zi_in (by omega) (by omega), hk w h (zCost_fl ⟨rfl, rfl⟩)⟩
  rcases hbr.2 with ⟨h13, h140, h141, h142⟩ | ⟨h13, h140, hpc⟩
  · refine ⟨3, 7202, by unfold zNA zbm; rw [if_neg h140]; omega, by unfold zNS zbs; rw [if_neg h140]; omega, fun g hk => ?_⟩
    rw [fX11_briefOf, hb, zi_nat (show r < 2 ^ 31 by omega)]
    refine ⟨by omega, zi_in (by omega) (by omega), fun q => absurd hc0 q, fun _ => ⟨fun _ => ⟨h140, by omega, by omega, ?_⟩, fun q => absurd h13 q⟩⟩
    intro w7 e7
    refine ⟨2, 7200, by omega, by omega, ?_⟩
    rw [fX2_init]
    have hI7 : ∀ a c, a ≠ 140 → ¬ (a = 0 ∧ c = 140) → gI w7 a c = gI w a c := fun a c q1 q2 => by rw [e7, gI_nW, if_neg q1, if_neg q2]
    refine ⟨by rw [hI7 _ _ (by omega) (by omega)]; exact h141, by omega, by omega, ?_⟩
    intro w1 e1 w2 e2
    have hI2 : ∀ a c, a ≠ 140 → a ≠ 141 → ¬ (a = 0 ∧ (c = 140 ∨ c = 141)) → gI w2 a c = gI w a c := fun a c q1 q2 q3 => by rw [e2, gI_sR, e1, gI_nW, if_neg q2, if_neg (by omega)]; exact hI7 a c q1 (by omega)
    refine ⟨by rw [hI2 _ _ (by omega) (by omega) (by omega)]; exact h142, by omega, by omega, ?_⟩
    intro w3 e3 w4 e4 w9 e9
    have hI9 : ∀ a c, a ≠ 140 → a ≠ 141 → a ≠ 142 → ¬ (a = 0 ∧ (c = 140 ∨ c = 141 ∨ c = 142)) → gI w9 a c = gI w a c := fun a c q1 q2 q3 q4 => by rw [e9, gI_sR, e4, gI_sR, e3, gI_nW, if_neg q3, if_neg (by omega)]; exact hI2 a c q1 q2 (by omega)
    refine q11_brief30 (w0 := w) h hr (by rw [e9, gR_sR_eq]) ?_ (Or.inl ⟨?_, ?_⟩) (fun a c q1 q2 => hI9 a c (by omega) (by omega) (by omega) (by omega)) (fun a c q => ?_) (fun a c q1 q2 => ?_) (fun v vi v0 v3 => ?_)
    · rw [e9, gI_sR, e4, gI_sR, e3, gI_nW, if_neg (by omega), if_neg (by omega), e2, gI_sR, e1, gI_nW, if_neg (by omega), if_neg (by omega), e7, gI_nW, if_neg (by omega), if_pos ⟨rfl, rfl⟩]
    · rw [e9, gR_sR_ne (by omega), e4, gR_sR_ne2 (by omega), e3, gR_nW, if_neg (by omega), e2, gR_sR_eq]
    · rw [e9, gR_sR_ne (by omega), e4, gR_sR_eq]
    · rw [e9, gL_sR, e4, gL_sR, e3, gL_nW, if_neg (by omega), e2, gL_sR, e1, gL_nW, if_neg (by omega), e7, gL_nW, if_neg (by omega)]
    · rw [e9, gR_sR, if_neg (by omega), e4, gR_sR, if_neg (by omega), e3, gR_nW, if_neg (by omega), e2, gR_sR, if_neg (by omega), e1, gR_nW, if_neg (by omega), e7, gR_nW, if_neg (by omega)]
    · refine hk v vi ?_
      unfold zCost zNA zNS zrm zrs zbm zbs
      rw [v3, v0, if_pos rfl, if_neg h140, if_pos rfl, if_neg h140]
      omega
  · refine ⟨0, 0, Nat.zero_le _, Nat.zero_le _, fun g hk => ?_⟩
    rw [fX11_briefOf, hb, zi_nat (show r < 2 ^ 31 by omega)]
    refine ⟨by omega, zi_in (by omega) (by omega), fun q => absurd hc0 q, fun _ => ⟨fun q => by omega, fun _ => ?_⟩⟩
    exact q11_brief30 (w0 := w) h hr h13 h140 hpc (fun _ _ _ _ => rfl) (fun _ _ _ => rfl) (fun _ _ _ _ => rfl) (fun v vi v0 v3 => hk v vi (zCost_fl ⟨by rw [v0, h140], v3⟩))
theorem c_line {B : zBk} {S : Nat → Int32} {N : zNt} {b nn : Nat} {x1 x2 : Int32} {w : zW} {k : Nat → Nat → zW → Prop} {k0 : zW → Prop} (h : zInv B S N b nn w) (hk : ∀ c s v, zInv B S N b nn v → zCost c s w v → k c s v) :
    ∃ c s, c ≤ zNA w ∧ s ≤ zNS w ∧ fX11_line c s x1 x2 w (fun r1 w1 => fX12_line x1 x2 w1 (fun r2 w2 => (r1 = r2 → k c s w2) ∧ (¬ r1 = r2 → k0 w2))) :=
  c_lineB h hk (fun r => Int32.ofNat (zBrf B r)) (fun r hr => q11_briefOf h hr) (fun r v g hr vi hg => q12_briefOf vi hr hg)

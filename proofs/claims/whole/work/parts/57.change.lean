/-! Level 2: one thing done by hand, on both sides -/
theorem zup_eq (S : Nat → Int32) (s : Nat) (x : Int32) : zup S s x s = x := if_pos rfl
theorem zup_ne (S : Nat → Int32) {s i : Nat} (x : Int32) (h : i ≠ s) : zup S s x i = S i := if_neg h
theorem zHd_up {B : zBk} {S : Nat → Int32} {s : Nat} {x : Int32} (h : zHd B S) (h1 : s < 4 → zsm 9 x ∧ (bW B ≤ s → x = zN1)) (h2 : ∀ r, s = 4 + r → zsm 100 x ∧ (bR B ≤ r → x = zN1)) : zHd B (zup S s x) := by
  refine ⟨fun o ho => ?_, fun o q ho => ?_, fun r hr => ?_, fun r q hr => ?_⟩
  · by_cases e : o = s
    · subst e; rw [zup_eq]; exact (h1 ho).1
    · rw [zup_ne S x e]; exact h.1 o ho
  · by_cases e : o = s
    · subst e; rw [zup_eq]; exact (h1 ho).2 q
    · rw [zup_ne S x e]; exact h.2.1 o q ho
  · by_cases e : 4 + r = s
    · subst e; rw [zup_eq]; exact (h2 r rfl).1
    · rw [zup_ne S x e]; exact h.2.2.1 r hr
  · by_cases e : 4 + r = s
    · subst e; rw [zup_eq]; exact (h2 r rfl).2 q
    · rw [zup_ne S x e]; exact h.2.2.2 r q hr
/-- the class does one thing -/
theorem q11_change {B : zBk} {S : Nat → Int32} {s n : Nat} {x : Int32} {w : zW} {k : Int32 → zW → Prop} (hha : zHand B S w) (hs : s < 12) (hn : gI w 21 0 = Int32.ofNat n) (h16 : n ≤ 16)
    (hk : ∀ v : zW, v.2 = w.2 → (∀ a c, a ≠ 10 → a ≠ 22 → a ≠ 23 → (a = 21 → c ≠ 0) → (a = 24 → c ≠ 1) → (a = 31 → c ≠ 0) → gI v a c = gI w a c) → (∀ i, i < 12 → gI v 10 i = zup S s x i) → gI v 24 1 = Int32.ofNat 1 → gI v 31 0 = Int32.ofNat 1 →
      gI v 21 0 = Int32.ofNat (n + 1 - (if n = 16 then 1 else 0)) → (∀ j, j < n + 1 - (if n = 16 then 1 else 0) → gI v 22 j = if j = n - (if n = 16 then 1 else 0) then Int32.ofNat s else gI w 22 (j + (if n = 16 then 1 else 0))) → (∀ j, j < n + 1 - (if n = 16 then 1 else 0) → gI v 23 j = if j = n - (if n = 16 then 1 else 0) then S s else gI w 23 (j + (if n = 16 then 1 else 0))) → k (S s) v) : fX11_change (Int32.ofNat s) x w k := by
  rw [fX11_change]
  refine q3_put hs ?_
  rw [hha.2.2 s hs]
  refine q6_keep (n := n) (by rw [gI_sI_ne (by decide)]; exact hn) h16 (fun v e2 hf h21 h22 h23 => ?_)
  intro w1 e1 w2 e3
  subst e3; subst e1
  refine hk _ e2 (fun a c n1 n2 n3 n4 n5 n6 => ?_) (fun i hi => ?_) ?_ ?_ ?_ (fun j hj => ?_) (fun j hj => ?_)
  · have q1 : gI (sI (sI v 24 1 (1 : Int32)) 31 0 (1 : Int32)) a c = gI v a c := by
      rw [gI_sI, gI_sI]
      rw [if_neg (fun z => n6 z.1 z.2), if_neg (fun z => n5 z.1 z.2)]
    rw [q1, hf a c n2 n3 n4, gI_sI_ne n1]
  · rw [gI_sI_ne (by decide), gI_sI_ne (by decide), hf 10 i (by omega) (by omega) (by omega), gI_sI]
    by_cases e : i = s
    · rw [if_pos ⟨rfl, e⟩, e, zup_eq]
    · rw [if_neg (fun z => e z.2), zup_ne S x e]
      exact hha.2.2 i hi
  · rw [gI_sI_ne (by decide), gI_sI_eq]; rfl
  · rw [gI_sI_eq]; rfl
  · rw [gI_sI_ne (by decide), gI_sI_ne (by decide)]; exact h21
  · rw [gI_sI_ne (by decide), gI_sI_ne (by decide), h22 j hj, gI_sI_ne (by decide)]
  · rw [gI_sI_ne (by decide), gI_sI_ne (by decide), h23 j hj, gI_sI_ne (by decide)]
/-- what is held behind a change of the hand -/
theorem zInv_hand {B : zBk} {S T : Nat → Int32} {N : zNt} {b nn : Nat} {w v : zW} (h : zInv B S N b nn w) (hha : zHand B T v) (hpa : zPast B T v) (hma : zMarks B v) (h2 : v.2 = w.2)
    (hf : ∀ a c, (a < 9 ∨ 24 ≤ a) → a ≠ 220 → a ≠ 222 → (a = 24 → c ≠ 1) → (a = 31 → c ≠ 0) → (a = 200 → c ≠ 21 ∧ c ≠ 0) → gI v a c = gI w a c)
    (h24 : gI v 24 1 = Int32.ofNat 1) (h31 : gI v 31 0 = Int32.ofNat 1) : zInv B T N b nn v := by
  obtain ⟨hwf, hrb, hcb, -, -, -, hta, hna, hre, hsh, hsl, hno, hbr⟩ := h
  have hL : ∀ a c, gL v a c = gL w a c := fun a c => by rw [gL, gL, h2]
  have hR : ∀ a c, gR v a c = gR w a c := fun a c => by rw [gR, gR, h2]
  have hb := hre.1
  have hnn := hre.2.2.2.1
  have hg : ∀ a c, (a < 9 ∨ 25 ≤ a) → a ≠ 31 → a ≠ 200 → a ≠ 220 → a ≠ 222 → gI v a c = gI w a c := fun a c n1 n2 n3 n4 n5 => hf a c (by omega) n4 n5 (by omega) (by omega) (by omega)
  refine ⟨hwf, zRB_of hrb (fun k hk => hg 210 k (by omega) (by omega) (by omega) (by omega) (by omega)) (fun k hk => hg 211 k (by omega) (by omega) (by omega) (by omega) (by omega)) (fun k => hg 223 k (by omega) (by omega) (by omega) (by omega) (by omega)) (fun k => hg 224 k (by omega) (by omega) (by omega) (by omega) (by omega)) (fun k => hg 225 k (by omega) (by omega) (by omega) (by omega) (by omega)) hwf,
    zCB_of hcb (fun a k q1 q2 => hg a k (by omega) (by omega) (by omega) (by omega) (by omega)) hwf, hha, hpa, hma, ?_, zNames_of hna (fun o _ => ⟨hL _ _, hL _ _⟩) (fun _ => hL _ _), zRefs_of hre (fun k _ => hR 1 k), ?_, ?_, ?_, ?_⟩
  · obtain ⟨n', t, t1, t2, t3, t4⟩ := hta
    exact ⟨n', t, t1, by rw [hf 200 2 (by omega) (by omega) (by omega) (by omega) (by omega) (by omega)]; exact t2, by rw [hg 2 1 (by omega) (by omega) (by omega) (by omega) (by omega)]; exact t3, fun i hi => ⟨(t4 i hi).1, by rw [hg 201 i (by omega) (by omega) (by omega) (by omega) (by omega)]; exact (t4 i hi).2.1, by rw [hg 3 i (by omega) (by omega) (by omega) (by omega) (by omega)]; exact (t4 i hi).2.2⟩⟩
  · obtain ⟨big, bs, hs', z1, z2, z3, z4, z5, z6, z7⟩ := hsh
    have hbig := zBig_is z5
    have e24 : ∀ c, c ≠ 1 → gI v 24 c = gI w 24 c := fun c hc => hf 24 c (by omega) (by omega) (by omega) (fun _ => hc) (by omega) (by omega)
    have e0 : ∀ c, gI v 0 c = gI w 0 c := fun c => hg 0 c (by omega) (by omega) (by omega) (by omega) (by omega)
    refine ⟨big, bs, 1, z1, by omega, by rw [e24 0 (by decide)]; exact z3, h24, zBig_of z5 (fun c _ => hR 24 c) (fun c _ => e0 c), fun e => ?_, fun e => absurd e (by decide)⟩
    obtain ⟨q1, q2, q3, q4, q5, q6⟩ := z6 e
    exact ⟨by rw [hR]; exact q1, q2, by rw [e24 2 (by decide)]; exact q3, by rw [e24 7 (by decide)]; exact q4, fun i hi => by rw [hg big i (by omega) (by omega) (by omega) (by omega) (by omega)]; exact q5 i hi, fun i hi => by rw [hg (big + 2) i (by omega) (by omega) (by omega) (by omega) (by omega)]; exact q6 i hi⟩
  · exact ⟨1, by omega, h31, fun e => absurd e (by decide)⟩
  · obtain ⟨z1, z2, z3, z4, z5, st, z6, z7, z8⟩ := hno
    refine ⟨z1, by rw [hg 217 0 (by omega) (by omega) (by omega) (by omega) (by omega)]; exact z2, by rw [hg nn 0 (by omega) (by omega) (by omega) (by omega) (by omega)]; exact z3, fun i hi => ?_, fun i hi => ?_, st, z6, by rw [hg nn 1 (by omega) (by omega) (by omega) (by omega) (by omega)]; exact z7, fun e => ?_⟩
    · rw [hg 217 _ (by omega) (by omega) (by omega) (by omega) (by omega), hg 217 _ (by omega) (by omega) (by omega) (by omega) (by omega), hg 217 _ (by omega) (by omega) (by omega) (by omega) (by omega), hg 217 _ (by omega) (by omega) (by omega) (by omega) (by omega)]
      exact z4 i hi
    · rw [hg (nn + 1) _ (by omega) (by omega) (by omega) (by omega) (by omega), hg (nn + 2) _ (by omega) (by omega) (by omega) (by omega) (by omega), hg (nn + 3) _ (by omega) (by omega) (by omega) (by omega) (by omega)]
      exact z5 i hi
    · rw [hg nn _ (by omega) (by omega) (by omega) (by omega) (by omega), hg nn _ (by omega) (by omega) (by omega) (by omega) (by omega), hg nn _ (by omega) (by omega) (by omega) (by omega) (by omega)]
      exact z8 e
  · refine ⟨fun r hr => by rw [hg (b + 30) r (by omega) (by omega) (by omega) (by omega) (by omega)]; exact hbr.1 r hr, ?_⟩
    rw [hR, hR, hR, hg 0 140 (by omega) (by omega) (by omega) (by omega) (by omega), hg 0 141 (by omega) (by omega) (by omega) (by omega) (by omega), hg 0 142 (by omega) (by omega) (by omega) (by omega) (by omega)]
    exact hbr.2
/-- what is held behind one thing done on both sides -/
theorem zInv_change {B : zBk} {S : Nat → Int32} {N : zNt} {b nn s n : Nat} {x : Int32} {w v : zW} {P : Nat → Nat → Int32} (h : zInv B S N b nn w) (hs : s < 12) (hx : zHd B (zup S s x)) (h16 : n ≤ 16)
    (p4 : ∀ j i, j < n → i < 12 → gI w 220 (12 * (5 + j) + i) = P j i) (p5 : ∀ j, j < n → zHd B (P j)) (p6 : ∀ i, i < 12 → P n i = S i)
    (p7 : ∀ j, j < n → ∃ s, s < 12 ∧ gI w 22 j = Int32.ofNat s ∧ ∀ i, i < 12 → P j i = if i = s then gI w 23 j else P (j + 1) i)
    (h2 : v.2 = w.2) (hf : ∀ a c, a ≠ 10 → a ≠ 22 → a ≠ 23 → a ≠ 220 → (a = 21 → c ≠ 0) → (a = 24 → c ≠ 1) → (a = 31 → c ≠ 0) → (a = 200 → c ≠ 21 ∧ c ≠ 0) → gI v a c = gI w a c)
    (h10 : ∀ i, i < 12 → gI v 10 i = zup S s x i) (h24 : gI v 24 1 = Int32.ofNat 1) (h31 : gI v 31 0 = Int32.ofNat 1)
    (h21 : gI v 21 0 = Int32.ofNat (n + 1 - (if n = 16 then 1 else 0))) (h22 : ∀ j, j < n + 1 - (if n = 16 then 1 else 0) → gI v 22 j = if j = n - (if n = 16 then 1 else 0) then Int32.ofNat s else gI w 22 (j + (if n = 16 then 1 else 0)))
    (h23 : ∀ j, j < n + 1 - (if n = 16 then 1 else 0) → gI v 23 j = if j = n - (if n = 16 then 1 else 0) then S s else gI w 23 (j + (if n = 16 then 1 else 0)))
    (r12 : ∀ i, i < 12 → gI v 220 i = zup S s x i) (r60 : ∀ i, 12 ≤ i → i < 60 → gI v 220 i = gI w 220 i) (r21 : gI v 200 21 = Int32.ofNat (n + 1 - (if n = 16 then 1 else 0)))
    (rP : ∀ j i, j < n + 1 - (if n = 16 then 1 else 0) → i < 12 → gI v 220 (12 * (5 + j) + i) = if j = n - (if n = 16 then 1 else 0) then S i else gI w 220 (12 * (5 + (j + (if n = 16 then 1 else 0))) + i)) : zInv B (zup S s x) N b nn v := by
  have hha := iv_ha h
  have hma := iv_ma h
  generalize hd : (if n = 16 then 1 else 0) = d at *
  have hd' : (d = 1 ∧ n = 16) ∨ (d = 0 ∧ n < 16) := by
    by_cases e : n = 16
    · rw [if_pos e] at hd; omega
    · rw [if_neg e] at hd; omega
  refine zInv_hand h ⟨hx, r12, h10⟩ ?_ ?_ h2 (fun a c q1 q2 q3 q4 q5 q6 => hf a c (by omega) (by omega) (by omega) q2 (by omega) q4 q5 q6) h24 h31
  · refine ⟨n + 1 - d, fun j i => if j < n - d then P (j + d) i else if j = n - d then S i else zup S s x i, by omega, r21, h21, fun j i hj hi => ?_, fun j hj => ?_, fun i hi => ?_, fun j hj => ?_⟩
    · rw [rP j i hj hi]
      by_cases e : j = n - d
      · rw [if_pos e]
        show S i = if j < n - d then P (j + d) i else if j = n - d then S i else zup S s x i
        rw [if_neg (by omega), if_pos e]
      · rw [if_neg e]
        show _ = if j < n - d then P (j + d) i else if j = n - d then S i else zup S s x i
        rw [if_pos (by omega)]
        exact p4 (j + d) i (by omega) hi
    · by_cases e : j = n - d
      · have q : (fun i => if j < n - d then P (j + d) i else if j = n - d then S i else zup S s x i) = S := funext fun i => by rw [if_neg (by omega), if_pos e]
        show zHd B (fun i => if j < n - d then P (j + d) i else if j = n - d then S i else zup S s x i)
        rw [q]; exact hha.1
      · have q : (fun i => if j < n - d then P (j + d) i else if j = n - d then S i else zup S s x i) = P (j + d) := funext fun i => by rw [if_pos (by omega)]
        show zHd B (fun i => if j < n - d then P (j + d) i else if j = n - d then S i else zup S s x i)
        rw [q]; exact p5 (j + d) (by omega)
    · show (if n + 1 - d < n - d then P (n + 1 - d + d) i else if n + 1 - d = n - d then S i else zup S s x i) = zup S s x i
      rw [if_neg (by omega), if_neg (by omega)]
    · by_cases e : j = n - d
      · refine ⟨s, hs, by rw [h22 j hj, if_pos e], fun i hi => ?_⟩
        show (if j < n - d then P (j + d) i else if j = n - d then S i else zup S s x i) = if i = s then gI v 23 j else (if j + 1 < n - d then P (j + 1 + d) i else if j + 1 = n - d then S i else zup S s x i)
        rw [if_neg (by omega), if_pos e, if_neg (show ¬ j + 1 < n - d by omega), if_neg (show ¬ j + 1 = n - d by omega), h23 j hj, if_pos e]
        by_cases e2 : i = s
        · rw [if_pos e2, e2]
        · rw [if_neg e2, zup_ne S x e2]
      · obtain ⟨s', s1, s2, s3⟩ := p7 (j + d) (by omega)
        refine ⟨s', s1, by rw [h22 j hj, if_neg e]; exact s2, fun i hi => ?_⟩
        show (if j < n - d then P (j + d) i else if j = n - d then S i else zup S s x i) = if i = s' then gI v 23 j else (if j + 1 < n - d then P (j + 1 + d) i else if j + 1 = n - d then S i else zup S s x i)
        rw [if_pos (by omega), s3 i hi, h23 j hj, if_neg e]
        by_cases e2 : j + 1 = n - d
        · rw [if_neg (show ¬ j + 1 < n - d by omega), if_pos e2, show j + d + 1 = n by omega, p6 i hi]
        · rw [if_pos (show j + 1 < n - d by omega), show j + d + 1 = j + 1 + d by omega]
  · intro m hm
    obtain ⟨f, q1, q2, q3⟩ := hma m hm
    refine ⟨f, by rw [hf 222 m (by omega) (by omega) (by omega) (by omega) (by omega) (by omega) (by omega) (by omega)]; exact q1, by rw [hf 20 m (by omega) (by omega) (by omega) (by omega) (by omega) (by omega) (by omega) (by omega)]; exact q2, fun e => ?_⟩
    obtain ⟨Q, z1, z2, z3⟩ := q3 e
    exact ⟨Q, z1, fun i hi => by rw [r60 _ (by omega) (by omega)]; exact z2 i hi, fun i hi => by rw [hf _ i (by omega) (by omega) (by omega) (by omega) (by omega) (by omega) (by omega) (by omega)]; exact z3 i hi⟩

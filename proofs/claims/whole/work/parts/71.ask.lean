/-! Level 2: the shelf's questions -/
theorem zInv_fs {B : zBk} {S : Nat → Int32} {N : zNt} {b nn : Nat} {w v : zW} (h : zInv B S N b nn w) (hf : zfs w v) (hs : zShelf B S b v) : zInv B S N b nn v := by
  obtain ⟨hwf, hrb, hcb, hha, hpa, hma, hta, hna, hre, hsh, hsl, hno, hbr⟩ := h
  have hb := hre.1
  have hnn := hre.2.2.2.1
  have hg : ∀ a c, (a < 24 ∨ 29 ≤ a) → a < 300 → (a = 0 → c < 300) → gI v a c = gI w a c := hf.1
  refine ⟨hwf, zRB_of hrb (fun k _ => hg 210 k (by omega) (by omega) (by omega)) (fun k _ => hg 211 k (by omega) (by omega) (by omega)) (fun k => hg 223 k (by omega) (by omega) (by omega)) (fun k => hg 224 k (by omega) (by omega) (by omega)) (fun k => hg 225 k (by omega) (by omega) (by omega)) hwf,
    zCB_fs hcb hb hf hwf, ⟨hha.1, fun i hi => by rw [hg 220 i (by omega) (by omega) (by omega)]; exact hha.2.1 i hi, fun i hi => by rw [hg (9 + 1) i (by omega) (by omega) (by omega)]; exact hha.2.2 i hi⟩, ?_, ?_, ?_, zNames_of hna (fun o _ => ⟨hf.2.1 214 o (by omega), hf.2.1 (b + 1) o (by omega)⟩) (fun i => hf.2.1 209 i (by omega)), zRefs_of hre (fun k _ => hf.2.2 1 k (by omega) (by omega)), hs, ?_, ?_, ?_⟩
  · obtain ⟨n, P, p1, p2, p3, p4, p5, p6, p7⟩ := hpa
    refine ⟨n, P, p1, by rw [hg 200 21 (by omega) (by omega) (by omega)]; exact p2, by rw [hg 21 0 (by omega) (by omega) (by omega)]; exact p3, fun j i hj hi => by rw [hg 220 _ (by omega) (by omega) (by omega)]; exact p4 j i hj hi, p5, p6, fun j hj => ?_⟩
    rw [hg 22 j (by omega) (by omega) (by omega), hg 23 j (by omega) (by omega) (by omega)]
    exact p7 j hj
  · intro m hm
    obtain ⟨f, q1, q2, q3⟩ := hma m hm
    refine ⟨f, by rw [hg 222 m (by omega) (by omega) (by omega)]; exact q1, by rw [hg 20 m (by omega) (by omega) (by omega)]; exact q2, fun e => ?_⟩
    obtain ⟨Q, z1, z2, z3⟩ := q3 e
    exact ⟨Q, z1, fun i hi => by rw [hg 220 _ (by omega) (by omega) (by omega)]; exact z2 i hi, fun i hi => by rw [hg _ i (by omega) (by omega) (by omega)]; exact z3 i hi⟩
  · obtain ⟨n', t, t1, t2, t3, t4⟩ := hta
    exact ⟨n', t, t1, by rw [hg 200 2 (by omega) (by omega) (by omega)]; exact t2, by rw [hg 2 1 (by omega) (by omega) (by omega)]; exact t3, fun i hi => ⟨(t4 i hi).1, by rw [hg 201 i (by omega) (by omega) (by omega)]; exact (t4 i hi).2.1, by rw [hg 3 i (by omega) (by omega) (by omega)]; exact (t4 i hi).2.2⟩⟩
  · obtain ⟨st, z1, z2, z3⟩ := hsl
    have e31 : ∀ c, gI v 31 c = gI w 31 c := fun c => hg 31 c (by omega) (by omega) (by omega)
    exact ⟨st, z1, by rw [e31]; exact z2, fun e => by rw [e31, e31, e31, e31]; exact z3 e⟩
  · obtain ⟨z1, z2, z3, z4, z5, st, z6, z7, z8⟩ := hno
    refine ⟨z1, by rw [hg 217 0 (by omega) (by omega) (by omega)]; exact z2, by rw [hg nn 0 (by omega) (by omega) (by omega)]; exact z3, fun i hi => ?_, fun i hi => ?_, st, z6, by rw [hg nn 1 (by omega) (by omega) (by omega)]; exact z7, fun e => ?_⟩
    · rw [hg 217 _ (by omega) (by omega) (by omega), hg 217 _ (by omega) (by omega) (by omega), hg 217 _ (by omega) (by omega) (by omega), hg 217 _ (by omega) (by omega) (by omega)]
      exact z4 i hi
    · rw [hg (nn + 1) _ (by omega) (by omega) (by omega), hg (nn + 2) _ (by omega) (by omega) (by omega), hg (nn + 3) _ (by omega) (by omega) (by omega)]
      exact z5 i hi
    · rw [hg nn _ (by omega) (by omega) (by omega), hg nn _ (by omega) (by omega) (by omega), hg nn _ (by omega) (by omega) (by omega)]
      exact z8 e
  · refine ⟨fun r hr => by rw [hg (b + 30) r (by omega) (by omega) (by omega)]; exact hbr.1 r hr, ?_⟩
    rw [hf.2.2 1 13 (by omega) (by omega), hf.2.2 140 0 (by omega) (by omega), hf.2.2 140 1 (by omega) (by omega), hg 0 140 (by omega) (by omega) (by omega), hg 0 141 (by omega) (by omega) (by omega), hg 0 142 (by omega) (by omega) (by omega)]
    exact hbr.2
/-- so many dictionaries the told book has -/
def znD (B : zBk) : Nat := (zAL B).length
/-- a shelf at hand: laid, or laid and chosen -/
theorem q_laidI {B : zBk} {S : Nat → Int32} {N : zNt} {b nn : Nat} {w : zW} {k : zW → Prop} (h : zInv B S N b nn w)
    (hk : ∀ (v : zW) (big : Nat), zInv B S N b nn v → zLaid B b big v → gI v 24 0 = Int32.ofNat 0 → zpaid (znD B) w v → gI v 0 140 = gI w 0 140 → k v) : fX11_laidShelf (znc (znD B) w) (zns (znD B) w) w k := by
  refine q11_laid (iv_wf h) (iv_cb h) (iv_re h).1 (iv_re h).2.1 (iv_sh h) (fun v vf vs v0 vp _ => ?_)
  obtain ⟨big, hl⟩ := zShelf_laid vs v0
  exact hk v big (zInv_fs h vf vs) hl v0 vp (vf.1 0 140 (by omega) (by omega) (by omega))
theorem q_readyI {B : zBk} {S : Nat → Int32} {N : zNt} {b nn : Nat} {w : zW} {k : zW → Prop} (h : zInv B S N b nn w)
    (hk : ∀ (v : zW) (big : Nat), zInv B S N b nn v → zLaid B b big v → zChosen B S big v → gI v 24 0 = Int32.ofNat 0 → gI v 24 1 = Int32.ofNat 0 → zpaid (znD B) w v → gI v 0 140 = gI w 0 140 → k v) : fX11_readyShelf (znc (znD B) w) (zns (znD B) w) w k := by
  refine q11_ready (iv_wf h) (iv_cb h) (iv_re h).1 (iv_re h).2.1 (iv_ha h).1 (iv_ha h).2.2 (iv_sh h) (fun v vf vs v0 v1 vp _ => ?_)
  obtain ⟨big, hl, hc⟩ := zShelf_chosen vs v1
  exact hk v big (zInv_fs h vf vs) hl hc v0 v1 vp (vf.1 0 140 (by omega) (by omega) (by omega))
theorem zInv_30 {B : zBk} {S : Nat → Int32} {N : zNt} {b nn : Nat} {w v : zW} (h : zInv B S N b nn w) (h2 : v.2 = w.2) (hf : ∀ a c, a ≠ 30 → gI v a c = gI w a c) : zInv B S N b nn v :=
  zInv_of h (fun a c q => hf a c (by unfold zkeep at q; omega)) h2
theorem zLaid_30 {B : zBk} {b big : Nat} {w v : zW} (h : zLaid B b big w) (h2 : v.2 = w.2) (hf : ∀ a c, a ≠ 30 → gI v a c = gI w a c) : zLaid B b big v := by
  obtain ⟨hB, l9, lN, l2, l7, lA, lU⟩ := h
  have hR : ∀ a c, gR v a c = gR w a c := fun a c => by rw [gR, gR, h2]
  have hbig := zBig_is hB
  refine ⟨?_, by rw [hR]; exact l9, lN, by rw [hf _ _ (by omega)]; exact l2, by rw [hf _ _ (by omega)]; exact l7, fun i hi => by rw [hf _ _ (by omega)]; exact lA i hi, fun i hi => by rw [hf _ _ (by omega)]; exact lU i hi⟩
  exact zBig_of hB (fun c _ => hR 24 c) (fun c _ => hf 0 c (by omega))
theorem zChosen_30 {B : zBk} {S : Nat → Int32} {big : Nat} {w v : zW} (h : zChosen B S big w) (hbig : big = 25 ∨ 303 ≤ big) (hf : ∀ a c, a ≠ 30 → gI v a c = gI w a c) : zChosen B S big v :=
  ⟨by rw [hf _ _ (by omega)]; exact h.1, fun i hi => by rw [hf _ _ (by omega)]; exact h.2 i hi⟩
theorem zpaid_30 {n : Nat} {w u v : zW} (h : zpaid n w u) (hf : gR v 24 4 = gR u 24 4) : zpaid n w v := by
  unfold zpaid zrm zrs at *
  rw [hf]
  exact h
theorem q_talliedWordI {B : zBk} {S : Nat → Int32} {N : zNt} {b nn o : Nat} {w : zW} {k : zW → Prop} (h : zInv B S N b nn w) (ho : o < bW B)
    (hk : ∀ (v : zW) (big : Nat), zInv B S N b nn v → zLaid B b big v → zChosen B S big v → gI v 24 0 = Int32.ofNat 0 → gI v 24 1 = Int32.ofNat 0 → zpaid (znD B) w v → gI v 0 140 = gI w 0 140 → (∀ n, n < 121 → gI v 30 n = Int32.ofNat (zct (fun d => zdm (bW B) d o) (zFL B S) n)) → k v) : fX11_talliedWord (znc (znD B) w) (zns (znD B) w) (Int32.ofNat o) w k := by
  refine ⟨_, _, Nat.le_refl _, Nat.le_refl _, q_readyI h (fun v big vi vl vc v0 v1 vp v140 => ?_)⟩
  refine q8_tallyWord (iv_wf h) ho vl vc (fun u u2 uf ut => ?_)
  exact hk u big (zInv_30 vi u2 uf) (zLaid_30 vl u2 uf) (zChosen_30 vc (zBig_is vl.1) uf) (by rw [uf _ _ (by omega)]; exact v0) (by rw [uf _ _ (by omega)]; exact v1) (zpaid_30 vp (zr2 u2 24 4)) (by rw [uf _ _ (by omega)]; exact v140) ut
theorem q_talliedRowI {B : zBk} {S : Nat → Int32} {N : zNt} {b nn r : Nat} {w : zW} {k : zW → Prop} (h : zInv B S N b nn w) (hr : r < bR B)
    (hk : ∀ (v : zW) (big : Nat), zInv B S N b nn v → zLaid B b big v → zChosen B S big v → gI v 24 0 = Int32.ofNat 0 → gI v 24 1 = Int32.ofNat 0 → zpaid (znD B) w v → gI v 0 140 = gI w 0 140 → (∀ n, n < 121 → gI v 30 n = Int32.ofNat (zct (fun d => zLv B r (zdm (bW B) d)) (zFL B S) n)) → k v) : fX11_talliedRow (znc (znD B) w) (zns (znD B) w) (Int32.ofNat r) w k := by
  refine ⟨_, _, Nat.le_refl _, Nat.le_refl _, q_readyI h (fun v big vi vl vc v0 v1 vp v140 => ?_)⟩
  refine q8_tallyRow (iv_wf h) (iv_cb vi) (iv_re h).1 hr vl vc (fun u u2 uf ut => ?_)
  exact hk u big (zInv_30 vi u2 uf) (zLaid_30 vl u2 uf) (zChosen_30 vc (zBig_is vl.1) uf) (by rw [uf _ _ (by omega)]; exact v0) (by rw [uf _ _ (by omega)]; exact v1) (zpaid_30 vp (zr2 u2 24 4)) (by rw [uf _ _ (by omega)]; exact v140) ut
/-- the reference's side: gathered, with its cells apart -/
theorem zGL_FL (B : zBk) (S : Nat → Int32) : (zGL B S).filter (zFt B S) = zFL B S := by
  rw [zGL, zFL, zUL, List.filter_filter, List.filter_filter]
  refine List.filter_congr (fun d _ => ?_)
  rw [zFt]
  cases zGu B S d <;> cases (zdn B (zdm (bW B) d) == 0) <;> cases (zof B S (zdm (bW B) d) == 0) <;> rfl
theorem q_gathersI {B : zBk} {S : Nat → Int32} {N : zNt} {b nn : Nat} {w : zW} {k : zW → Prop} (h : zInv B S N b nn w)
    (hk : ∀ v : zW, zInv B S N b nn v → zGa B S (zGL B S) v → zfl w v → gI v 200 32 = gI w 200 32 → gI v 200 0 = gI w 200 0 → k v) : fX12_gathers w k := by
  refine q12_gathers (iv_wf h) (iv_rb h) (iv_ha h).1 (iv_ha h).2.1 (fun v v2 vf vg => ?_)
  exact hk v (zInv_of h (fun a c q => vf a c (by unfold zkeep at q; omega) (by unfold zkeep at q; omega) (by unfold zkeep at q; omega) (by unfold zkeep at q; omega)) v2) vg ⟨vf 0 140 (by omega) (by omega) (by omega) (by omega), zr2 v2 24 4⟩ (vf 200 32 (by omega) (by omega) (by omega) (by omega)) (vf 200 0 (by omega) (by omega) (by omega) (by omega))
theorem zFL_6561 {B : zBk} (hwf : zWF B) (S : Nat → Int32) : (zFL B S).length ≤ 6561 :=
  Nat.le_trans (zFL_le B S) (Nat.le_trans (zUL_le B) (zAL_le hwf))
theorem zct_6561 {B : zBk} (hwf : zWF B) (S : Nat → Int32) (f : Nat → Nat) (n : Nat) : zct f (zFL B S) n ≤ 6561 :=
  Nat.le_trans (zct_le f _ n) (zFL_6561 hwf S)
/-- what a call that may make room leaves: the invariant, and what it paid -/
def zdone (B : zBk) (w v : zW) : Prop := zpaid (znD B) w v ∧ gI v 0 140 = gI w 0 140
theorem zdone_fl {B : zBk} {w u v : zW} (h1 : zpaid (znD B) w u) (h2 : gI u 0 140 = gI w 0 140) (h : zfl u v) : zdone B w v :=
  ⟨zpaid_30 h1 h.2, h.1.trans h2⟩
theorem zdone_t {B : zBk} {w u v : zW} {x : Int32} (h1 : zpaid (znD B) w u) (h2 : gI u 0 140 = gI w 0 140) (h : zfl (sI u 200 0 x) v) : zdone B w v :=
  zdone_fl h1 h2 ⟨h.1.trans (gI_sI_ne (by decide) _ _ _ _), h.2⟩
/-- the reference's answer of a word, of a row -/
theorem q_refWord {B : zBk} {S : Nat → Int32} {N : zNt} {b nn : Nat} {w : zW} {k : zW → Prop} (h : zInv B S N b nn w)
    (hk : ∀ v : zW, zInv B S N b nn v → (∀ o n, o < bW B → n < 9 → gI v 234 (9 * o + n) = Int32.ofNat (zct (fun d => zdm (bW B) d o) (zFL B S) n)) → (∀ r n, r < bR B → n < 121 → gI v 235 (121 * r + n) = Int32.ofNat (zct (fun d => zLv B r (zdm (bW B) d)) (zFL B S) n)) → gI v 200 31 = Int32.ofNat (zFL B S).length → zfl w v → k v) : fX12_gathers (sI w 200 0 0) k := by
  refine q_gathersI (zInv_t h 0) (fun u ui ug ufl u32 u00 => ?_)
  obtain ⟨g1, g2, g3, g4, g5, g6, g7, g8⟩ := ug
  rw [zGL_FL] at g1
  refine hk u ui (fun o n ho hn => ?_) (fun r n hr hn => ?_) g1 ⟨ufl.1, ufl.2⟩
  · rw [g3 o n ho hn, zGL_FL]
  · rw [g4 r n hr hn, zGL_FL]

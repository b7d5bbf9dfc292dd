/-! Level 2: what between two calls looks only at some cells -/
def zkeep (a c : Nat) : Prop := a = 0 ∨ (a = 2 ∧ c = 1) ∨ a = 3 ∨ (9 ≤ a ∧ a ≤ 27) ∨ a = 31 ∨ (40 ≤ a ∧ a < 140) ∨ 300 ≤ a ∨ a = 201 ∨ (a = 200 ∧ (c = 2 ∨ c = 21)) ∨ (a = 210 ∧ c < 30) ∨ (a = 211 ∧ c < 480) ∨ (a = 217 ∧ c < 165) ∨ a = 220 ∨ a = 222 ∨ a = 223 ∨ a = 224 ∨ a = 225
theorem zHand_of {B : zBk} {S : Nat → Int32} {w v : zW} (h : zHand B S w) (hf : ∀ a c, zkeep a c → gI v a c = gI w a c) : zHand B S v :=
  ⟨h.1, fun i hi => by rw [hf 220 i (by unfold zkeep; omega)]; exact h.2.1 i hi, fun i hi => by rw [hf (9 + 1) i (by unfold zkeep; omega)]; exact h.2.2 i hi⟩
theorem zPast_of {B : zBk} {S : Nat → Int32} {w v : zW} (h : zPast B S w) (hf : ∀ a c, zkeep a c → gI v a c = gI w a c) : zPast B S v := by
  obtain ⟨n, P, h1, h2, h3, h4, h5, h6, h7⟩ := h
  refine ⟨n, P, h1, by rw [hf 200 21 (by unfold zkeep; omega)]; exact h2, by rw [hf 21 0 (by unfold zkeep; omega)]; exact h3, fun j i hj hi => by rw [hf 220 _ (by unfold zkeep; omega)]; exact h4 j i hj hi, h5, h6, fun j hj => ?_⟩
  obtain ⟨s, s1, s2, s3⟩ := h7 j hj
  exact ⟨s, s1, by rw [hf 22 j (by unfold zkeep; omega)]; exact s2, fun i hi => by rw [hf 23 j (by unfold zkeep; omega)]; exact s3 i hi⟩
theorem zMarks_of {B : zBk} {w v : zW} (h : zMarks B w) (hf : ∀ a c, zkeep a c → gI v a c = gI w a c) : zMarks B v := by
  intro m hm
  obtain ⟨f, h1, h2, h3⟩ := h m hm
  refine ⟨f, by rw [hf 222 m (by unfold zkeep; omega)]; exact h1, by rw [hf 20 m (by unfold zkeep; omega)]; exact h2, fun e => ?_⟩
  obtain ⟨Q, q1, q2, q3⟩ := h3 e
  exact ⟨Q, q1, fun i hi => by rw [hf 220 _ (by unfold zkeep; omega)]; exact q2 i hi, fun i hi => by rw [hf _ i (by unfold zkeep; omega)]; exact q3 i hi⟩
theorem zTape_of {w v : zW} (h : zTape w) (hf : ∀ a c, zkeep a c → gI v a c = gI w a c) : zTape v := by
  obtain ⟨n, t, h1, h2, h3, h4⟩ := h
  exact ⟨n, t, h1, by rw [hf 200 2 (by unfold zkeep; omega)]; exact h2, by rw [hf 2 1 (by unfold zkeep; omega)]; exact h3, fun i hi => ⟨(h4 i hi).1, by rw [hf 201 i (by unfold zkeep; omega)]; exact (h4 i hi).2.1, by rw [hf 3 i (by unfold zkeep; omega)]; exact (h4 i hi).2.2⟩⟩
theorem zNames_of {W b : Nat} {w v : zW} (h : zNames W b w) (hL : ∀ o, o < W → gL v 214 o = gL w 214 o ∧ gL v (b + 1) o = gL w (b + 1) o) (h9 : ∀ i, gL v 209 i = gL w 209 i) : zNames W b v := by
  obtain ⟨h0, nm, h1, h2⟩ := h
  exact ⟨fun i hi => by rw [h9]; exact h0 i hi, nm, fun o ho => ⟨(h1 o ho).1, (h1 o ho).2.1, (h1 o ho).2.2.1, by rw [(hL o ho).1]; exact (h1 o ho).2.2.2.1, by rw [(hL o ho).2]; exact (h1 o ho).2.2.2.2⟩, h2⟩
theorem zRefs_of {b nn : Nat} {w v : zW} (h : zRefs b nn w) (hR : ∀ k, k < 13 → gR v 1 k = gR w 1 k) : zRefs b nn v := by
  obtain ⟨h1, h2, h3, h4, h5, h6⟩ := h
  exact ⟨h1, by rw [hR 9 (by omega)]; exact h2, by rw [hR 10 (by omega)]; exact h3, h4, by rw [hR 11 (by omega)]; exact h5, by rw [hR 12 (by omega)]; exact h6⟩
theorem zShelf_of {B : zBk} {S : Nat → Int32} {b : Nat} {w v : zW} (h : zShelf B S b w) (hf : ∀ a c, zkeep a c → gI v a c = gI w a c) (hR : ∀ k, gR v 24 k = gR w 24 k) : zShelf B S b v := by
  obtain ⟨big, bs, hs, h1, h2, h3, h4, h5, h6, h7⟩ := h
  have e24 : ∀ c, gI v 24 c = gI w 24 c := fun c => hf 24 c (by unfold zkeep; omega)
  have e0 : ∀ c, gI v 0 c = gI w 0 c := fun c => hf 0 c (by unfold zkeep; omega)
  have hbig := zBig_is h5
  refine ⟨big, bs, hs, h1, h2, by rw [e24]; exact h3, by rw [e24]; exact h4, zBig_of h5 (fun c _ => hR c) (fun c _ => e0 c), fun e => ?_, fun e => ?_⟩
  · obtain ⟨q1, q2, q3, q4, q5, q6⟩ := h6 e
    exact ⟨by rw [hR]; exact q1, q2, by rw [e24]; exact q3, by rw [e24]; exact q4, fun i hi => by rw [hf big i (by unfold zkeep; omega)]; exact q5 i hi, fun i hi => by rw [hf (big + 2) i (by unfold zkeep; omega)]; exact q6 i hi⟩
  · obtain ⟨q1, q2, q3⟩ := h7 e
    exact ⟨q1, by rw [e24]; exact q2, fun i hi => by rw [hf (big + 1) i (by unfold zkeep; omega)]; exact q3 i hi⟩
theorem zSlips_of {B : zBk} {S : Nat → Int32} {w v : zW} (h : zSlips B S w) (hf : ∀ a c, zkeep a c → gI v a c = gI w a c) : zSlips B S v := by
  have e31 : ∀ c, gI v 31 c = gI w 31 c := fun c => hf 31 c (by unfold zkeep; omega)
  obtain ⟨st, h1, h2, h3⟩ := h
  exact ⟨st, h1, by rw [e31]; exact h2, fun e => by rw [e31, e31, e31, e31]; exact h3 e⟩
theorem zNotes_of {B : zBk} {N : zNt} {nn : Nat} {w v : zW} (hn : nn = 120 ∨ nn = 130) (h : zNotes B N nn w) (hf : ∀ a c, zkeep a c → gI v a c = gI w a c) : zNotes B N nn v := by
  obtain ⟨h1, h2, h3, h4, h5, st, h6, h7, h8⟩ := h
  have h40 := h1.1
  refine ⟨h1, by rw [hf 217 0 (by unfold zkeep; omega)]; exact h2, by rw [hf nn 0 (by unfold zkeep; omega)]; exact h3, fun i hi => ?_, fun i hi => ?_, st, h6, by rw [hf nn 1 (by unfold zkeep; omega)]; exact h7, fun e => ?_⟩
  · obtain ⟨q1, q2, q3, q4⟩ := h4 i hi
    exact ⟨by rw [hf 217 _ (by unfold zkeep; omega)]; exact q1, by rw [hf 217 _ (by unfold zkeep; omega)]; exact q2, fun z => by rw [hf 217 _ (by unfold zkeep; omega)]; exact q3 z, fun z => by rw [hf 217 _ (by unfold zkeep; omega)]; exact q4 z⟩
  · obtain ⟨q1, q2, q3⟩ := h5 i hi
    exact ⟨by rw [hf (nn + 1) _ (by unfold zkeep; omega)]; exact q1, by rw [hf (nn + 2) _ (by unfold zkeep; omega)]; exact q2, by rw [hf (nn + 3) _ (by unfold zkeep; omega)]; exact q3⟩
  · obtain ⟨q1, q2, q3⟩ := h8 e
    exact ⟨by rw [hf nn _ (by unfold zkeep; omega)]; exact q1, by rw [hf nn _ (by unfold zkeep; omega)]; exact q2, by rw [hf nn _ (by unfold zkeep; omega)]; exact q3⟩
theorem zBrief_of {B : zBk} {b : Nat} {w v : zW} (hb : b = 40 ∨ b = 80) (h : zBrief B b w) (hf : ∀ a c, zkeep a c → gI v a c = gI w a c) (hR1 : gR v 1 13 = gR w 1 13) (hR : ∀ k, gR v 140 k = gR w 140 k) : zBrief B b v := by
  refine ⟨fun r hr => by rw [hf (b + 30) r (by unfold zkeep; omega)]; exact h.1 r hr, ?_⟩
  rw [hR1, hR, hR, hf 0 140 (by unfold zkeep; omega), hf 0 141 (by unfold zkeep; omega), hf 0 142 (by unfold zkeep; omega)]
  exact h.2
/-- a call that only changes other cells -/
theorem zInv_of {B : zBk} {S : Nat → Int32} {N : zNt} {b nn : Nat} {w v : zW} (h : zInv B S N b nn w) (hf : ∀ a c, zkeep a c → gI v a c = gI w a c) (h2 : v.2 = w.2) : zInv B S N b nn v := by
  obtain ⟨hwf, hrb, hcb, hha, hpa, hma, hta, hna, hre, hsh, hsl, hno, hbr⟩ := h
  have hL : ∀ a c, gL v a c = gL w a c := fun a c => by rw [gL, gL, h2]
  have hR : ∀ a c, gR v a c = gR w a c := fun a c => by rw [gR, gR, h2]
  have hb := hre.1
  refine ⟨hwf, zRB_of hrb (fun k hk => hf 210 k (by unfold zkeep; omega)) (fun k hk => hf 211 k (by unfold zkeep; omega)) (fun k => hf 223 k (by unfold zkeep; omega)) (fun k => hf 224 k (by unfold zkeep; omega)) (fun k => hf 225 k (by unfold zkeep; omega)) hwf,
    zCB_of hcb (fun a k h1 h2 => hf a k (by unfold zkeep; omega)) hwf, zHand_of hha hf, zPast_of hpa hf, zMarks_of hma hf, zTape_of hta hf, zNames_of hna (fun o _ => ⟨hL _ _, hL _ _⟩) (fun _ => hL _ _), zRefs_of hre (fun k _ => hR 1 k), zShelf_of hsh hf (hR 24), zSlips_of hsl hf, zNotes_of hre.2.2.2.1 hno hf, zBrief_of hb hbr hf (hR 1 13) (hR 140)⟩
theorem iv_wf {B : zBk} {S : Nat → Int32} {N : zNt} {b nn : Nat} {w : zW} (h : zInv B S N b nn w) : zWF B := h.1
theorem iv_rb {B : zBk} {S : Nat → Int32} {N : zNt} {b nn : Nat} {w : zW} (h : zInv B S N b nn w) : zRB B w := h.2.1
theorem iv_cb {B : zBk} {S : Nat → Int32} {N : zNt} {b nn : Nat} {w : zW} (h : zInv B S N b nn w) : zCB B b w := h.2.2.1
theorem iv_ha {B : zBk} {S : Nat → Int32} {N : zNt} {b nn : Nat} {w : zW} (h : zInv B S N b nn w) : zHand B S w := h.2.2.2.1
theorem iv_pa {B : zBk} {S : Nat → Int32} {N : zNt} {b nn : Nat} {w : zW} (h : zInv B S N b nn w) : zPast B S w := h.2.2.2.2.1
theorem iv_ma {B : zBk} {S : Nat → Int32} {N : zNt} {b nn : Nat} {w : zW} (h : zInv B S N b nn w) : zMarks B w := h.2.2.2.2.2.1
theorem iv_ta {B : zBk} {S : Nat → Int32} {N : zNt} {b nn : Nat} {w : zW} (h : zInv B S N b nn w) : zTape w := h.2.2.2.2.2.2.1
theorem iv_na {B : zBk} {S : Nat → Int32} {N : zNt} {b nn : Nat} {w : zW} (h : zInv B S N b nn w) : zNames (bW B) b w := h.2.2.2.2.2.2.2.1
theorem iv_re {B : zBk} {S : Nat → Int32} {N : zNt} {b nn : Nat} {w : zW} (h : zInv B S N b nn w) : zRefs b nn w := h.2.2.2.2.2.2.2.2.1
theorem iv_sh {B : zBk} {S : Nat → Int32} {N : zNt} {b nn : Nat} {w : zW} (h : zInv B S N b nn w) : zShelf B S b w := h.2.2.2.2.2.2.2.2.2.1
theorem iv_sl {B : zBk} {S : Nat → Int32} {N : zNt} {b nn : Nat} {w : zW} (h : zInv B S N b nn w) : zSlips B S w := h.2.2.2.2.2.2.2.2.2.2.1
theorem iv_no {B : zBk} {S : Nat → Int32} {N : zNt} {b nn : Nat} {w : zW} (h : zInv B S N b nn w) : zNotes B N nn w := h.2.2.2.2.2.2.2.2.2.2.2.1
theorem iv_br {B : zBk} {S : Nat → Int32} {N : zNt} {b nn : Nat} {w : zW} (h : zInv B S N b nn w) : zBrief B b w := h.2.2.2.2.2.2.2.2.2.2.2.2

/-! Level 2: the reference gathers -/
def zFt (B : zBk) (S : Nat → Int32) (d : Nat) : Bool := zdn B (zdm (bW B) d) == 0 && zof B S (zdm (bW B) d) == 0
/-- one set of counts is less than another one -/
def zless (a b : Nat) : Bool := decide (zones a < zones b) || (zones a == zones b && decide (a < b))
def zbest (x : Option Nat) (y : Nat) : Option Nat := match x with
  | none => some y
  | some a => if zless y a = true then some y else some a
def zoi : Option Nat → Int32
  | none => zN1
  | some a => Int32.ofNat a
def zfew (B : zBk) (S : Nat → Int32) (l : List Nat) : Option Nat := l.foldl (fun x d => zbest x (zof B S (zdm (bW B) d))) none
theorem zfew_app (B : zBk) (S : Nat → Int32) (l : List Nat) (d : Nat) : zfew B S (l ++ [d]) = zbest (zfew B S l) (zof B S (zdm (bW B) d)) := by
  rw [zfew, List.foldl_append]
  rfl
theorem zfew_lt {B : zBk} (hwf : zWF B) (S : Nat → Int32) (l : List Nat) : ∀ a, zfew B S l = some a → a < 256 := by
  have h : ∀ (l : List Nat) (x : Option Nat), (∀ a, x = some a → a < 256) → ∀ a, l.foldl (fun x d => zbest x (zof B S (zdm (bW B) d))) x = some a → a < 256 := by
    intro l
    induction l with
    | nil => intro x hx a ha; exact hx a ha
    | cons d l ih =>
      intro x hx a ha
      refine ih _ (fun a ha => ?_) a ha
      have hz := zof_lt hwf S (zdm (bW B) d)
      cases x with
      | none =>
        have : some (zof B S (zdm (bW B) d)) = some a := ha
        injection this with this
        omega
      | some c =>
        have hc := hx c rfl
        have ha' : (if zless (zof B S (zdm (bW B) d)) c = true then some (zof B S (zdm (bW B) d)) else some c) = some a := ha
        by_cases q : zless (zof B S (zdm (bW B) d)) c = true
        · rw [if_pos q] at ha'
          injection ha' with ha'
          omega
        · rw [if_neg q] at ha'
          injection ha' with ha'
          omega
  exact h l none (fun a ha => absurd ha (by simp))
/-- what is gathered of some dictionaries -/
def zGa (B : zBk) (S : Nat → Int32) (l : List Nat) (w : zW) : Prop :=
  gI w 200 31 = Int32.ofNat (l.filter (zFt B S)).length ∧ gI w 200 33 = zoi (zfew B S (l.filter (fun d => zdn B (zdm (bW B) d) == 0))) ∧
  (∀ o m, o < bW B → m < 9 → gI w 234 (9 * o + m) = Int32.ofNat (zct (fun d => zdm (bW B) d o) (l.filter (zFt B S)) m)) ∧
  (∀ r n, r < bR B → n < 121 → gI w 235 (121 * r + n) = Int32.ofNat (zct (fun d => zLv B r (zdm (bW B) d)) (l.filter (zFt B S)) n)) ∧
  (∀ o p, o < bW B → p < bW B → gI w 237 (4 * o + p) = Int32.ofNat (if (l.filter (zFt B S)).all (fun d => zdm (bW B) d o == zdm (bW B) d p) = true then 1 else 0)) ∧
  (∀ r, r < bR B → gI w 238 r = Int32.ofNat (l.countP (fun d => zdn B (zdm (bW B) d) == 0 && zof B S (zdm (bW B) d) == 2 ^ r))) ∧
  (∀ r, r < bR B → gI w 239 r = Int32.ofNat (l.countP (fun d => zof B S (zdm (bW B) d) == 0 && zdn B (zdm (bW B) d) == 2 ^ r))) ∧
  (∀ j, gI w 200 32 = Int32.ofNat j → j < (l.filter (zFt B S)).length → ∀ o, o < bW B → gI w 236 o = Int32.ofNat (zdm (bW B) ((l.filter (zFt B S)).getD j 0) o))
theorem zall_app (l : List Nat) (d : Nat) (p : Nat → Bool) : (l ++ [d]).all p = (l.all p && p d) := by
  rw [List.all_append, List.all_cons, List.all_nil, Bool.and_true]
theorem zcp_app (p : Nat → Bool) (l : List Nat) (d : Nat) : (l ++ [d]).countP p = l.countP p + (if p d = true then 1 else 0) := by
  rw [List.countP_append, List.countP_cons, List.countP_nil, Nat.zero_add]
/-- the stitches behind each row are counted -/
theorem q12_tellsE {B : zBk} {m : Nat → Nat} {f : Nat → Nat → Nat} {F : Nat} {w : zW} {k : zW → Prop} (hwf : zWF B) (hR : gI w 210 2 = Int32.ofNat (bR B)) (hb : ∀ r, r < bR B → gI w 228 r = Int32.ofNat (zLv B r m)) (hs : ∀ r n, r < bR B → n < 121 → gI w 235 (121 * r + n) = Int32.ofNat (f r n)) (hF : gI w 200 31 = Int32.ofNat F)
    (hk : ∀ v : zW, v.2 = w.2 → (∀ a c, a ≠ 235 → (a = 200 → c ≠ 31) → gI v a c = gI w a c) → (∀ r n, r < bR B → n < 121 → gI v 235 (121 * r + n) = Int32.ofNat (f r n + (if zLv B r m = n then 1 else 0))) → gI v 200 31 = Int32.ofNat (F + 1) → k v) : ∃ n9, fX12_tells_L289 k n9 (0 : Int32) w := by
  have h8 := wf_R hwf
  refine zinv (fun n (s : Int32 × zW) => fX12_tells_L289 k n s.1 s.2) (fun i s => ∃ v : zW, s = (Int32.ofNat i, v) ∧ v.2 = w.2 ∧ (∀ a c, a ≠ 235 → gI v a c = gI w a c) ∧ (∀ r n, r < bR B → n < 121 → gI v 235 (121 * r + n) = Int32.ofNat (f r n + (if r < i ∧ zLv B r m = n then 1 else 0)))) (bR B) (s0 := (0, w)) ?_ ?_ ?_
  · exact ⟨w, rfl, rfl, fun _ _ _ => rfl, fun r n hr hn => by rw [if_neg (by omega)]; exact hs r n hr hn⟩
  · rintro n s ⟨v, rfl, v2, vf, vs⟩
    have eR : gI v 210 2 = Int32.ofNat (bR B) := by rw [vf 210 2 (by omega)]; exact hR
    have eF : gI v 200 31 = Int32.ofNat F := by rw [vf 200 31 (by omega)]; exact hF
    simp (disch := omega) only [fX12_tells_L289, fX12_rows, eR, eF, ↓zln1, ↓zln2, zl0, zl1, zl2, zl3, zl4, zl5, zl6, zl7, zl8, zl9, zl10, zl12, zl15, zl16, zl20, zl24, zl30, zl32, zl36, zl40, zl48, zl57, zl59, zl60, zl61, zl97, zl99, zl120, zl121, zl122, zl126, zl165, zl255, zl480, zl968, zl1000, zl1100, zi_add, zi_mul, zi_sub, zi_div, zi_mod, zi_nat, zt_le, zf_le, zt_lt, zf_lt, zt_eq, zf_eq, zt_vp, zt_N1lt, zf_N1lt, zf_N1eq, zf_eqN1, zt_N1eq, zt_N1le, zf_leN1, zi_nN1, zi_a1, zi_a15, zi_a255, zi_shr, zi_bit, zt_b0, zt_b1, forall_eq, if_true, if_false, true_implies, false_implies, not_true_eq_false, not_false_eq_true, and_true, true_and, gI_sI_eq, gI_sI_ne, gI_sI_ne2, gL_sI, gR_sI, gI_sL, gL_sL_eq, gL_sL_ne, gL_sL_ne2, gR_sL, gI_sR, gL_sR, gR_sR_eq, gR_sR_ne, gR_sR_ne2, gI_aI_eq, gI_aI_ne, gL_aI, gR_aI]
    refine hk _ v2 (fun a c q1 q2 => by rw [gI_sI, if_neg (fun z => q2 z.1 z.2)]; exact vf a c q1) (fun r n hr hn => ?_) (gI_sI_eq _ _ _ _)
    rw [gI_sI_ne (by decide), vs r n hr hn]
    by_cases q : zLv B r m = n
    · rw [if_pos ⟨hr, q⟩, if_pos q]
    · rw [if_neg (fun z => q z.2), if_neg q]
  · rintro i n s hi ⟨v, rfl, v2, vf, vs⟩ hc
    have eR : gI v 210 2 = Int32.ofNat (bR B) := by rw [vf 210 2 (by omega)]; exact hR
    have eB : gI v 228 i = Int32.ofNat (zLv B i m) := by rw [vf 228 i (by omega)]; exact hb i hi
    have hlv : zLv B i m ≤ 120 := zLv_le hwf i _ m
    have eS := vs i (zLv B i m) hi (by omega)
    rw [if_neg (by omega), Nat.add_zero] at eS
    simp (disch := omega) only [fX12_tells_L289, fX12_rows, eR, eB, eS, ↓zln1, ↓zln2, zl0, zl1, zl2, zl3, zl4, zl5, zl6, zl7, zl8, zl9, zl10, zl12, zl15, zl16, zl20, zl24, zl30, zl32, zl36, zl40, zl48, zl57, zl59, zl60, zl61, zl97, zl99, zl120, zl121, zl122, zl126, zl165, zl255, zl480, zl968, zl1000, zl1100, zi_add, zi_mul, zi_sub, zi_div, zi_mod, zi_nat, zt_le, zf_le, zt_lt, zf_lt, zt_eq, zf_eq, zt_vp, zt_N1lt, zf_N1lt, zf_N1eq, zf_eqN1, zt_N1eq, zt_N1le, zf_leN1, zi_nN1, zi_a1, zi_a15, zi_a255, zi_shr, zi_bit, zt_b0, zt_b1, forall_eq, if_true, if_false, true_implies, false_implies, not_true_eq_false, not_false_eq_true, and_true, true_and, gI_sI_eq, gI_sI_ne, gI_sI_ne2, gL_sI, gR_sI, gI_sL, gL_sL_eq, gL_sL_ne, gL_sL_ne2, gR_sL, gI_sR, gL_sR, gR_sR_eq, gR_sR_ne, gR_sR_ne2, gI_aI_eq, gI_aI_ne, gL_aI, gR_aI]
    refine hc _ ⟨sI v 235 (121 * i + zLv B i m) _, rfl, v2, fun a c q => by rw [gI_sI_ne q]; exact vf a c q, fun r n hr hn => ?_⟩
    by_cases q : r = i ∧ n = zLv B i m
    · obtain ⟨q1, q2⟩ := q
      subst q1
      subst q2
      rw [gI_sI_eq, if_pos ⟨by omega, rfl⟩]
    · rw [gI_sI_ne2 (by omega), vs r n hr hn]
      by_cases z : r < i ∧ zLv B r m = n
      · rw [if_pos z, if_pos ⟨by omega, z.2⟩]
      · rw [if_neg z, if_neg (fun y => z ⟨Nat.lt_of_le_of_ne (by omega) (fun x => q ⟨x, by rw [← y.2, x]⟩), y.2⟩)]
/-- the words' meanings are counted, the twins kept, the wanted one written down -/
theorem q12_tellsD {B : zBk} {m : Nat → Nat} {f : Nat → Nat → Nat} {g : Nat → Nat → Nat} {F : Nat} {w : zW} {k : zW → Prop} (hwf : zWF B) (hW : gI w 210 0 = Int32.ofNat (bW B)) (hm9 : ∀ o, m o < 9) (hm : ∀ o, o < bW B → gI w 227 o = Int32.ofNat (m o)) (hw : ∀ o x, o < bW B → x < 9 → gI w 234 (9 * o + x) = Int32.ofNat (f o x)) (hg : ∀ o p, o < bW B → p < bW B → gI w 237 (4 * o + p) = Int32.ofNat (g o p) ∧ g o p < 2) (hF : gI w 200 31 = Int32.ofNat F)
    (hk : ∀ v : zW, v.2 = w.2 → (∀ a c, a ≠ 234 → a ≠ 236 → a ≠ 237 → gI v a c = gI w a c) → (∀ o x, o < bW B → x < 9 → gI v 234 (9 * o + x) = Int32.ofNat (f o x + (if m o = x then 1 else 0))) → (∀ o p, o < bW B → p < bW B → gI v 237 (4 * o + p) = Int32.ofNat (if g o p = 1 ∧ m o = m p then 1 else 0)) → (∀ o, o < bW B → gI v 236 o = if Int32.ofNat F = gI w 200 32 then Int32.ofNat (m o) else gI w 236 o) → ∃ n9, fX12_tells_L289 k n9 (0 : Int32) v) : ∃ n9, fX12_tells_L162 k n9 (0 : Int32) w := by
  have h4 := wf_W hwf
  refine zinv (fun n (s : Int32 × zW) => fX12_tells_L162 k n s.1 s.2) (fun i s => ∃ v : zW, s = (Int32.ofNat i, v) ∧ v.2 = w.2 ∧ (∀ a c, a ≠ 234 → a ≠ 236 → a ≠ 237 → gI v a c = gI w a c) ∧ (∀ o x, o < bW B → x < 9 → gI v 234 (9 * o + x) = Int32.ofNat (f o x + (if o < i ∧ m o = x then 1 else 0))) ∧
    (∀ o p, o < bW B → p < bW B → gI v 237 (4 * o + p) = Int32.ofNat (if o < i then (if g o p = 1 ∧ m o = m p then 1 else 0) else g o p)) ∧ (∀ o, o < bW B → gI v 236 o = if o < i ∧ Int32.ofNat F = gI w 200 32 then Int32.ofNat (m o) else gI w 236 o)) (bW B) (s0 := (0, w)) ?_ ?_ ?_
  · refine ⟨w, rfl, rfl, fun _ _ _ _ _ => rfl, fun o x ho hx => by rw [if_neg (by omega)]; exact hw o x ho hx, fun o p ho hp => by rw [if_neg (by omega)]; exact (hg o p ho hp).1, fun o ho => by rw [if_neg (by omega)]⟩
  · rintro n s ⟨v, rfl, v2, vf, vw, vg, v6⟩
    have eW : gI v 210 0 = Int32.ofNat (bW B) := by rw [vf 210 0 (by omega) (by omega) (by omega)]; exact hW
    simp (disch := omega) only [fX12_tells_L162, fX12_wordsTold, eW, ↓zln1, ↓zln2, zl0, zl1, zl2, zl3, zl4, zl5, zl6, zl7, zl8, zl9, zl10, zl12, zl15, zl16, zl20, zl24, zl30, zl32, zl36, zl40, zl48, zl57, zl59, zl60, zl61, zl97, zl99, zl120, zl121, zl122, zl126, zl165, zl255, zl480, zl968, zl1000, zl1100, zi_add, zi_mul, zi_sub, zi_div, zi_mod, zi_nat, zt_le, zf_le, zt_lt, zf_lt, zt_eq, zf_eq, zt_vp, zt_N1lt, zf_N1lt, zf_N1eq, zf_eqN1, zt_N1eq, zt_N1le, zf_leN1, zi_nN1, zi_a1, zi_a15, zi_a255, zi_shr, zi_bit, zt_b0, zt_b1, forall_eq, if_true, if_false, true_implies, false_implies, not_true_eq_false, not_false_eq_true, and_true, true_and, gI_sI_eq, gI_sI_ne, gI_sI_ne2, gL_sI, gR_sI, gI_sL, gL_sL_eq, gL_sL_ne, gL_sL_ne2, gR_sL, gI_sR, gL_sR, gR_sR_eq, gR_sR_ne, gR_sR_ne2, gI_aI_eq, gI_aI_ne, gL_aI, gR_aI]
    refine hk v v2 vf (fun o x ho hx => ?_) (fun o p ho hp => ?_) (fun o ho => ?_)
    · rw [vw o x ho hx]
      by_cases q : m o = x
      · rw [if_pos ⟨ho, q⟩, if_pos q]
      · rw [if_neg (fun z => q z.2), if_neg q]
    · rw [vg o p ho hp, if_pos ho]
    · rw [v6 o ho]
      by_cases q : Int32.ofNat F = gI w 200 32
      · rw [if_pos ⟨ho, q⟩, if_pos q]
      · rw [if_neg (fun z => q z.2), if_neg q]
  · rintro i n s hi ⟨v, rfl, v2, vf, vw, vg, v6⟩ hc
    have eW : gI v 210 0 = Int32.ofNat (bW B) := by rw [vf 210 0 (by omega) (by omega) (by omega)]; exact hW
    have eM : ∀ o, o < bW B → gI v 227 o = Int32.ofNat (m o) := fun o ho => by rw [vf 227 o (by omega) (by omega) (by omega)]; exact hm o ho
    have hmi := hm9 i
    have eS := vw i (m i) hi hmi
    rw [if_neg (by omega), Nat.add_zero] at eS
    have e1 := eM i hi
    show fX12_tells_L162 k (n + 1) (Int32.ofNat i) v
    simp (disch := omega) only [fX12_tells_L162, fX12_wordsTold, eW, e1, eS, ↓zln1, ↓zln2, zl0, zl1, zl2, zl3, zl4, zl5, zl6, zl7, zl8, zl9, zl10, zl12, zl15, zl16, zl20, zl24, zl30, zl32, zl36, zl40, zl48, zl57, zl59, zl60, zl61, zl97, zl99, zl120, zl121, zl122, zl126, zl165, zl255, zl480, zl968, zl1000, zl1100, zi_add, zi_mul, zi_sub, zi_div, zi_mod, zi_nat, zt_le, zf_le, zt_lt, zf_lt, zt_eq, zf_eq, zt_vp, zt_N1lt, zf_N1lt, zf_N1eq, zf_eqN1, zt_N1eq, zt_N1le, zf_leN1, zi_nN1, zi_a1, zi_a15, zi_a255, zi_shr, zi_bit, zt_b0, zt_b1, forall_eq, if_true, if_false, true_implies, false_implies, not_true_eq_false, not_false_eq_true, and_true, true_and, gI_sI_eq, gI_sI_ne, gI_sI_ne2, gL_sI, gR_sI, gI_sL, gL_sL_eq, gL_sL_ne, gL_sL_ne2, gR_sL, gI_sR, gL_sR, gR_sR_eq, gR_sR_ne, gR_sR_ne2, gI_aI_eq, gI_aI_ne, gL_aI, gR_aI]
    -- the twins of this word
    have hu : ∀ (a c : Nat), a ≠ 234 → gI (sI v 234 (9 * i + m i) (Int32.ofNat (f i (m i) + 1))) a c = gI v a c := fun a c q => gI_sI_ne q _ _ _ _
    have hu34 : ∀ o x, o < bW B → x < 9 → gI (sI v 234 (9 * i + m i) (Int32.ofNat (f i (m i) + 1))) 234 (9 * o + x) = Int32.ofNat (f o x + (if o < i + 1 ∧ m o = x then 1 else 0)) := by
      intro o x ho hx
      by_cases q : o = i ∧ x = m i
      · obtain ⟨q1, q2⟩ := q
        subst q1
        subst q2
        rw [gI_sI_eq, if_pos ⟨by omega, rfl⟩]
      · rw [gI_sI_ne2 (by omega), vw o x ho hx]
        by_cases z : o < i ∧ m o = x
        · rw [if_pos z, if_pos ⟨by omega, z.2⟩]
        · rw [if_neg z, if_neg (fun y => z ⟨Nat.lt_of_le_of_ne (by omega) (fun x' => q ⟨x', by rw [← y.2, x']⟩), y.2⟩)]
    refine zinv (fun n' (s : Int32 × zW) => fX12_tells_L192 k (fX12_tells_L162 k n) n' (Int32.ofNat i) s.1 s.2) (fun j s => ∃ u : zW, s = (Int32.ofNat j, u) ∧ u.2 = w.2 ∧ (∀ a c, a ≠ 237 → gI u a c = gI (sI v 234 (9 * i + m i) (Int32.ofNat (f i (m i) + 1))) a c) ∧
      (∀ o p, o < bW B → p < bW B → gI u 237 (4 * o + p) = Int32.ofNat (if o < i ∨ (o = i ∧ p < j) then (if g o p = 1 ∧ m o = m p then 1 else 0) else g o p))) (bW B) (s0 := (Int32.ofNat 0, sI v 234 (9 * i + m i) (Int32.ofNat (f i (m i) + 1)))) ?_ ?_ ?_
    · refine ⟨sI v 234 (9 * i + m i) (Int32.ofNat (f i (m i) + 1)), rfl, v2, fun _ _ _ => rfl, fun o p ho hp => ?_⟩
      rw [hu 237 _ (by omega), vg o p ho hp]
      by_cases q : o < i
      · rw [if_pos q, if_pos (Or.inl q)]
      · rw [if_neg q, if_neg (by omega)]
    · rintro n' s ⟨u, rfl, u2, uf, ug⟩
      have xW : gI u 210 0 = Int32.ofNat (bW B) := by rw [uf 210 0 (by omega), hu 210 0 (by omega)]; exact eW
      have xF : gI u 200 31 = Int32.ofNat F := by rw [uf 200 31 (by omega), hu 200 31 (by omega), vf 200 31 (by omega) (by omega) (by omega)]; exact hF
      have x32 : gI u 200 32 = gI w 200 32 := by rw [uf 200 32 (by omega), hu 200 32 (by omega), vf 200 32 (by omega) (by omega) (by omega)]
      have xM : gI u 227 i = Int32.ofNat (m i) := by rw [uf 227 i (by omega), hu 227 i (by omega)]; exact e1
      have x6 : ∀ o, gI u 236 o = gI v 236 o := fun o => by rw [uf 236 o (by omega), hu 236 o (by omega)]
      have hJ : ∀ t : Int32, t = (if Int32.ofNat F = gI w 200 32 then Int32.ofNat (m i) else gI w 236 i) → fX12_tells_J280 k (fX12_tells_L162 k n) (Int32.ofNat i) t (Int32.ofNat i) u := by
        intro t ht
        refine ⟨zi_in (by omega) (by omega), ?_⟩
        intro w24 e24
        rw [zi_nat (show i < 2 ^ 31 by omega)] at e24
        rw [zl1, zi_add]
        refine hc _ ⟨w24, rfl, by rw [e24]; exact u2, fun a c q1 q2 q3 => ?_, fun o x ho hx => ?_, fun o p ho hp => ?_, fun o ho => ?_⟩
        · rw [e24, gI_sI_ne q2, uf a c q3, hu a c q1, vf a c q1 q2 q3]
        · rw [e24, gI_sI_ne (by decide), uf 234 _ (by omega)]
          exact hu34 o x ho hx
        · rw [e24, gI_sI_ne (by decide), ug o p ho hp]
          by_cases q : o < i + 1
          · rw [if_pos q, if_pos (by omega)]
          · rw [if_neg q, if_neg (by omega)]
        · rw [e24]
          by_cases q : o = i
          · rw [q, gI_sI_eq, ht]
            by_cases z : Int32.ofNat F = gI w 200 32
            · rw [if_pos z, if_pos ⟨by omega, z⟩]
            · rw [if_neg z, if_neg (fun y => z y.2)]
          · rw [gI_sI_ne2 q, x6, v6 o ho]
            by_cases z : o < i ∧ Int32.ofNat F = gI w 200 32
            · rw [if_pos z, if_pos ⟨by omega, z.2⟩]
            · rw [if_neg z, if_neg (fun y => z ⟨by omega, y.2⟩)]
      show fX12_tells_L192 k (fX12_tells_L162 k n) (n' + 1) (Int32.ofNat i) (Int32.ofNat (bW B)) u
      rw [fX12_tells_L192]
      try dsimp only
      show fX12_wordsTold u _
      rw [fX12_wordsTold, show (0 : Int32).toNatClampNeg = 0 from rfl, xW]
      refine ⟨fun _ => ?_, fun q => absurd (Int32.le_refl _) q⟩
      rw [xF, x32, zi_nat (show i < 2 ^ 31 by omega)]
      refine ⟨fun q => ⟨zi_in (by omega) (by omega), hJ _ ?_⟩, fun q => ⟨zi_in (by omega) (by omega), hJ _ ?_⟩⟩
      · rw [if_neg q, x6, v6 i hi, if_neg (by omega)]
      · rw [if_pos q, xM]
    · rintro j n' s hj ⟨u, rfl, u2, uf, ug⟩ hc'
      have xW : gI u 210 0 = Int32.ofNat (bW B) := by rw [uf 210 0 (by omega), hu 210 0 (by omega)]; exact eW
      have xMi : gI u 227 i = Int32.ofNat (m i) := by rw [uf 227 i (by omega), hu 227 i (by omega)]; exact e1
      have xMj : gI u 227 j = Int32.ofNat (m j) := by rw [uf 227 j (by omega), hu 227 j (by omega)]; exact eM j hj
      have xg : gI u 237 (4 * i + j) = Int32.ofNat (g i j) := by rw [ug i j hi hj, if_neg (by omega)]
      have hmj := hm9 j
      have hg2 := (hg i j hi hj).2
      have hJ : ∀ t : Nat, t = (if g i j = 1 ∧ m i = m j then 1 else 0) → fX12_tells_J242 k (fX12_tells_L162 k n) (fX12_tells_L192 k (fX12_tells_L162 k n) n') (Int32.ofNat i) (Int32.ofNat j) (Int32.ofNat t) (Int32.ofNat (4 * i + j)) u := by
        intro t ht
        have ht2 : t % 2 = t := by
          rw [ht]
          by_cases z : g i j = 1 ∧ m i = m j
          · rw [if_pos z]
          · rw [if_neg z]
        refine ⟨zi_in (by omega) (by omega), ?_⟩
        intro w29 e29
        rw [zi_nat (show 4 * i + j < 2 ^ 31 by omega), zi_and1, ht2] at e29
        rw [zl1, zi_add]
        refine hc' _ ⟨w29, rfl, by rw [e29]; exact u2, fun a c q => by rw [e29, gI_sI_ne q]; exact uf a c q, fun o p ho hp => ?_⟩
        rw [e29]
        by_cases q : o = i ∧ p = j
        · obtain ⟨q1, q2⟩ := q
          subst q1
          subst q2
          rw [gI_sI_eq, if_pos (by omega), ht]
        · rw [gI_sI_ne2 (by omega), ug o p ho hp]
          by_cases z : o < i ∨ (o = i ∧ p < j)
          · rw [if_pos z, if_pos (show o < i ∨ (o = i ∧ p < j + 1) by omega)]
          · rw [if_neg z, if_neg (show ¬ (o < i ∨ (o = i ∧ p < j + 1)) by omega)]
      by_cases z0 : g i j = 0
      · rw [z0] at xg
        simp (disch := omega) only [fX12_tells_L192, fX12_wordsTold, xW, xg, ↓zln1, ↓zln2, zl0, zl1, zl2, zl3, zl4, zl5, zl6, zl7, zl8, zl9, zl10, zl12, zl15, zl16, zl20, zl24, zl30, zl32, zl36, zl40, zl48, zl57, zl59, zl60, zl61, zl97, zl99, zl120, zl121, zl122, zl126, zl165, zl255, zl480, zl968, zl1000, zl1100, zi_add, zi_mul, zi_sub, zi_div, zi_mod, zi_nat, zt_le, zf_le, zt_lt, zf_lt, zt_eq, zf_eq, zt_vp, zt_N1lt, zf_N1lt, zf_N1eq, zf_eqN1, zt_N1eq, zt_N1le, zf_leN1, zi_nN1, zi_a1, zi_a15, zi_a255, zi_shr, zi_bit, zt_b0, zt_b1, forall_eq, if_true, if_false, true_implies, false_implies, not_true_eq_false, not_false_eq_true, and_true, true_and, gI_sI_eq, gI_sI_ne, gI_sI_ne2, gL_sI, gR_sI, gI_sL, gL_sL_eq, gL_sL_ne, gL_sL_ne2, gR_sL, gI_sR, gL_sR, gR_sR_eq, gR_sR_ne, gR_sR_ne2, gI_aI_eq, gI_aI_ne, gL_aI, gR_aI]
        exact hJ 0 (by rw [if_neg (by omega)])
      · have z1 : g i j = 1 := by omega
        rw [z1] at xg
        by_cases y : m i = m j
        · simp (disch := omega) only [fX12_tells_L192, fX12_wordsTold, xW, xg, xMi, xMj, ↓zln1, ↓zln2, zl0, zl1, zl2, zl3, zl4, zl5, zl6, zl7, zl8, zl9, zl10, zl12, zl15, zl16, zl20, zl24, zl30, zl32, zl36, zl40, zl48, zl57, zl59, zl60, zl61, zl97, zl99, zl120, zl121, zl122, zl126, zl165, zl255, zl480, zl968, zl1000, zl1100, zi_add, zi_mul, zi_sub, zi_div, zi_mod, zi_nat, zt_le, zf_le, zt_lt, zf_lt, zt_eq, zf_eq, zt_vp, zt_N1lt, zf_N1lt, zf_N1eq, zf_eqN1, zt_N1eq, zt_N1le, zf_leN1, zi_nN1, zi_a1, zi_a15, zi_a255, zi_shr, zi_bit, zt_b0, zt_b1, forall_eq, if_true, if_false, true_implies, false_implies, not_true_eq_false, not_false_eq_true, and_true, true_and, gI_sI_eq, gI_sI_ne, gI_sI_ne2, gL_sI, gR_sI, gI_sL, gL_sL_eq, gL_sL_ne, gL_sL_ne2, gR_sL, gI_sR, gL_sR, gR_sR_eq, gR_sR_ne, gR_sR_ne2, gI_aI_eq, gI_aI_ne, gL_aI, gR_aI]
          exact hJ 1 (by rw [if_pos ⟨z1, y⟩])
        · simp (disch := omega) only [fX12_tells_L192, fX12_wordsTold, xW, xg, xMi, xMj, ↓zln1, ↓zln2, zl0, zl1, zl2, zl3, zl4, zl5, zl6, zl7, zl8, zl9, zl10, zl12, zl15, zl16, zl20, zl24, zl30, zl32, zl36, zl40, zl48, zl57, zl59, zl60, zl61, zl97, zl99, zl120, zl121, zl122, zl126, zl165, zl255, zl480, zl968, zl1000, zl1100, zi_add, zi_mul, zi_sub, zi_div, zi_mod, zi_nat, zt_le, zf_le, zt_lt, zf_lt, zt_eq, zf_eq, zt_vp, zt_N1lt, zf_N1lt, zf_N1eq, zf_eqN1, zt_N1eq, zt_N1le, zf_leN1, zi_nN1, zi_a1, zi_a15, zi_a255, zi_shr, zi_bit, zt_b0, zt_b1, forall_eq, if_true, if_false, true_implies, false_implies, not_true_eq_false, not_false_eq_true, and_true, true_and, gI_sI_eq, gI_sI_ne, gI_sI_ne2, gL_sI, gR_sI, gI_sL, gL_sL_eq, gL_sL_ne, gL_sL_ne2, gR_sL, gI_sR, gL_sR, gR_sR_eq, gR_sR_ne, gR_sR_ne2, gI_aI_eq, gI_aI_ne, gL_aI, gR_aI]
          exact hJ 0 (by rw [if_neg (fun x => y x.2)])

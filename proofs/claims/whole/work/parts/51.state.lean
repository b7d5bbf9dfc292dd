/-! Level 2: what is there. A book as both sides hold it: words, rows, casts, how long a row is, its items, uses, counts, kinds, meanings -/
abbrev zBk : Type := Nat × Nat × Nat × (Nat → Nat) × (Nat → Nat → Nat) × (Nat → Nat → Nat) × (Nat → Int32) × (Nat → Nat) × (Nat → Nat → Bool)
def bW (B : zBk) : Nat := B.1
def bR (B : zBk) : Nat := B.2.1
def bC (B : zBk) : Nat := B.2.2.1
def bLn (B : zBk) : Nat → Nat := B.2.2.2.1
def bIt (B : zBk) : Nat → Nat → Nat := B.2.2.2.2.1
def bU (B : zBk) : Nat → Nat → Nat := B.2.2.2.2.2.1
def bCt (B : zBk) : Nat → Int32 := B.2.2.2.2.2.2.1
def bKd (B : zBk) : Nat → Nat := B.2.2.2.2.2.2.2.1
def bMn (B : zBk) : Nat → Nat → Bool := B.2.2.2.2.2.2.2.2
/-- nothing, or a small number -/
def zsm (N : Nat) (x : Int32) : Prop := x = zN1 ∨ ∃ n, n < N ∧ x = Int32.ofNat n
def zWF (B : zBk) : Prop :=
  (bW B ≤ 4 ∧ bR B ≤ 8 ∧ bC B ≤ 60) ∧ (∀ r, r < bR B → bLn B r ≤ 60 ∧ 1 ≤ bLn B r) ∧ (∀ r i, r < bR B → i < bLn B r → bIt B r i < bW B) ∧
  (∀ r o, bU B r o = if r < bR B then zcnt (bLn B r) (fun i => bIt B r i == o) else 0) ∧
  (∀ r, zsm 100 (bCt B r)) ∧ (∀ r, bR B ≤ r → bCt B r = zN1) ∧ (∀ o, bKd B o < 4) ∧ (∀ o m, bW B ≤ o → bMn B o m = false)
/-- the reference's book -/
def zRB (B : zBk) (w : zW) : Prop :=
  (gI w 210 0 = Int32.ofNat (bW B) ∧ gI w 210 1 = Int32.ofNat (bC B) ∧ gI w 210 2 = Int32.ofNat (bR B)) ∧
  (∀ o, o < bW B → gI w 210 (4 + o) = Int32.ofNat (bKd B o)) ∧ (∀ r, r < 8 → gI w 210 (8 + r) = bCt B r) ∧
  (∀ r, r < bR B → gI w 210 (16 + r) = Int32.ofNat (bLn B r)) ∧ (∀ r i, r < bR B → i < bLn B r → gI w 211 (60 * r + i) = Int32.ofNat (bIt B r i)) ∧
  (∀ r o, r < 8 → o < 4 → gI w 225 (4 * r + o) = Int32.ofNat (bU B r o)) ∧
  (∀ o m, o < 4 → m < 9 → gI w 223 (9 * o + m) = if bMn B o m = true then Int32.ofNat 1 else Int32.ofNat 0) ∧ (∀ o, o < 4 → gI w 224 o = Int32.ofNat (zcnt 9 (bMn B o)))
/-- how often a word is in the book -/
def zUs (B : zBk) (o : Nat) : Nat := zsum (bR B) (fun r => bU B r o)
/-- the meanings of a word, in their order -/
def zml (f : Nat → Bool) : List Nat := (List.range 9).filter (fun m => f m)
/-- the class's book, at its cell -/
def zCB (B : zBk) (b : Nat) (w : zW) : Prop :=
  (gI w b 0 = Int32.ofNat (bW B) ∧ gI w b 6 = Int32.ofNat (bC B) ∧ gI w b 7 = Int32.ofNat (bR B)) ∧
  (∀ o, o < bW B → gI w (b + 2) o = Int32.ofNat (bKd B o)) ∧ (∀ o, o < 4 → gI w (b + 3) o = Int32.ofNat (zUs B o)) ∧
  (∀ o, o < 4 → gI w (b + 4) o = Int32.ofNat (zcnt 9 (bMn B o))) ∧ (∀ o i, o < bW B → i < zcnt 9 (bMn B o) → gI w (b + 6 + o) i = Int32.ofNat ((zml (bMn B o)).getD i 0)) ∧
  (∀ r, r < bR B → gI w (b + 10) r = Int32.ofNat (bLn B r)) ∧ (∀ r i, r < bR B → i < bLn B r → gI w (b + 12 + r) i = Int32.ofNat (bIt B r i)) ∧
  (∀ r o, r < bR B → o < 4 → gI w (b + 21 + r) o = Int32.ofNat (bU B r o)) ∧ (∀ r, r < 8 → gI w (b + 29) r = bCt B r)
theorem wf_W {B : zBk} (h : zWF B) : bW B ≤ 4 := h.1.1
theorem wf_R {B : zBk} (h : zWF B) : bR B ≤ 8 := h.1.2.1
theorem wf_C {B : zBk} (h : zWF B) : bC B ≤ 60 := h.1.2.2
theorem wf_Ln {B : zBk} (h : zWF B) {r : Nat} (hr : r < bR B) : bLn B r ≤ 60 := (h.2.1 r hr).1
theorem wf_Ln1 {B : zBk} (h : zWF B) {r : Nat} (hr : r < bR B) : 1 ≤ bLn B r := (h.2.1 r hr).2
theorem wf_It {B : zBk} (h : zWF B) {r i : Nat} (hr : r < bR B) (hi : i < bLn B r) : bIt B r i < bW B := h.2.2.1 r i hr hi
theorem wf_U {B : zBk} (h : zWF B) (r o : Nat) : bU B r o = if r < bR B then zcnt (bLn B r) (fun i => bIt B r i == o) else 0 := h.2.2.2.1 r o
theorem wf_Ct {B : zBk} (h : zWF B) (r : Nat) : zsm 100 (bCt B r) := h.2.2.2.2.1 r
theorem wf_Ct1 {B : zBk} (h : zWF B) {r : Nat} (hr : bR B ≤ r) : bCt B r = zN1 := h.2.2.2.2.2.1 r hr
theorem wf_Kd {B : zBk} (h : zWF B) (o : Nat) : bKd B o < 4 := h.2.2.2.2.2.2.1 o
theorem wf_Mn {B : zBk} (h : zWF B) {o : Nat} (m : Nat) (ho : bW B ≤ o) : bMn B o m = false := h.2.2.2.2.2.2.2 o m ho
theorem rb_W {B : zBk} {w : zW} (h : zRB B w) : gI w 210 0 = Int32.ofNat (bW B) := h.1.1
theorem rb_C {B : zBk} {w : zW} (h : zRB B w) : gI w 210 1 = Int32.ofNat (bC B) := h.1.2.1
theorem rb_R {B : zBk} {w : zW} (h : zRB B w) : gI w 210 2 = Int32.ofNat (bR B) := h.1.2.2
theorem rb_Kd {B : zBk} {w : zW} (h : zRB B w) {o : Nat} (ho : o < bW B) : gI w 210 (4 + o) = Int32.ofNat (bKd B o) := h.2.1 o ho
theorem rb_Ct {B : zBk} {w : zW} (h : zRB B w) {r : Nat} (hr : r < 8) : gI w 210 (8 + r) = bCt B r := h.2.2.1 r hr
theorem rb_Ln {B : zBk} {w : zW} (h : zRB B w) {r : Nat} (hr : r < bR B) : gI w 210 (16 + r) = Int32.ofNat (bLn B r) := h.2.2.2.1 r hr
theorem rb_It {B : zBk} {w : zW} (h : zRB B w) {r i : Nat} (hr : r < bR B) (hi : i < bLn B r) : gI w 211 (60 * r + i) = Int32.ofNat (bIt B r i) := h.2.2.2.2.1 r i hr hi
theorem rb_U {B : zBk} {w : zW} (h : zRB B w) {r o : Nat} (hr : r < 8) (ho : o < 4) : gI w 225 (4 * r + o) = Int32.ofNat (bU B r o) := h.2.2.2.2.2.1 r o hr ho
theorem rb_Mn {B : zBk} {w : zW} (h : zRB B w) {o m : Nat} (ho : o < 4) (hm : m < 9) : gI w 223 (9 * o + m) = if bMn B o m = true then Int32.ofNat 1 else Int32.ofNat 0 := h.2.2.2.2.2.2.1 o m ho hm
theorem rb_Sz {B : zBk} {w : zW} (h : zRB B w) {o : Nat} (ho : o < 4) : gI w 224 o = Int32.ofNat (zcnt 9 (bMn B o)) := h.2.2.2.2.2.2.2 o ho
theorem cb_W {B : zBk} {b : Nat} {w : zW} (h : zCB B b w) : gI w b 0 = Int32.ofNat (bW B) := h.1.1
theorem cb_C {B : zBk} {b : Nat} {w : zW} (h : zCB B b w) : gI w b 6 = Int32.ofNat (bC B) := h.1.2.1
theorem cb_R {B : zBk} {b : Nat} {w : zW} (h : zCB B b w) : gI w b 7 = Int32.ofNat (bR B) := h.1.2.2
theorem cb_Kd {B : zBk} {b : Nat} {w : zW} (h : zCB B b w) {o : Nat} (ho : o < bW B) : gI w (b + 2) o = Int32.ofNat (bKd B o) := h.2.1 o ho
theorem cb_Us {B : zBk} {b : Nat} {w : zW} (h : zCB B b w) {o : Nat} (ho : o < 4) : gI w (b + 3) o = Int32.ofNat (zUs B o) := h.2.2.1 o ho
theorem cb_Sz {B : zBk} {b : Nat} {w : zW} (h : zCB B b w) {o : Nat} (ho : o < 4) : gI w (b + 4) o = Int32.ofNat (zcnt 9 (bMn B o)) := h.2.2.2.1 o ho
theorem cb_ml {B : zBk} {b : Nat} {w : zW} (h : zCB B b w) {o i : Nat} (ho : o < bW B) (hi : i < zcnt 9 (bMn B o)) : gI w (b + 5 + 1 + o) i = Int32.ofNat ((zml (bMn B o)).getD i 0) := h.2.2.2.2.1 o i ho hi
theorem cb_Ln {B : zBk} {b : Nat} {w : zW} (h : zCB B b w) {r : Nat} (hr : r < bR B) : gI w (b + 10) r = Int32.ofNat (bLn B r) := h.2.2.2.2.2.1 r hr
theorem cb_It {B : zBk} {b : Nat} {w : zW} (h : zCB B b w) {r i : Nat} (hr : r < bR B) (hi : i < bLn B r) : gI w (b + 11 + 1 + r) i = Int32.ofNat (bIt B r i) := h.2.2.2.2.2.2.1 r i hr hi
theorem cb_U {B : zBk} {b : Nat} {w : zW} (h : zCB B b w) {r o : Nat} (hr : r < bR B) (ho : o < 4) : gI w (b + 20 + 1 + r) o = Int32.ofNat (bU B r o) := h.2.2.2.2.2.2.2.1 r o hr ho
theorem cb_Ct {B : zBk} {b : Nat} {w : zW} (h : zCB B b w) {r : Nat} (hr : r < 8) : gI w (b + 29) r = bCt B r := h.2.2.2.2.2.2.2.2 r hr
/-- both only look at some cells -/
theorem zRB_of {B : zBk} {w v : zW} (h : zRB B w) (e1 : ∀ k, k < 30 → gI v 210 k = gI w 210 k) (e2 : ∀ k, k < 480 → gI v 211 k = gI w 211 k) (e3 : ∀ k, gI v 223 k = gI w 223 k) (e4 : ∀ k, gI v 224 k = gI w 224 k) (e5 : ∀ k, gI v 225 k = gI w 225 k) (hwf : zWF B) : zRB B v := by
  have hW := wf_W hwf
  have hR := wf_R hwf
  refine ⟨⟨by rw [e1 0 (by omega)]; exact rb_W h, by rw [e1 1 (by omega)]; exact rb_C h, by rw [e1 2 (by omega)]; exact rb_R h⟩, fun o ho => ?_, fun r hr => ?_, fun r hr => ?_, fun r i hr hi => ?_, fun r o hr ho => ?_, fun o m ho hm => ?_, fun o ho => ?_⟩
  · rw [e1 _ (by omega)]; exact rb_Kd h ho
  · rw [e1 _ (by omega)]; exact rb_Ct h hr
  · rw [e1 _ (by omega)]; exact rb_Ln h hr
  · have := wf_Ln hwf hr
    rw [e2 _ (by omega)]; exact rb_It h hr hi
  · rw [e5]; exact rb_U h hr ho
  · rw [e3]; exact rb_Mn h ho hm
  · rw [e4]; exact rb_Sz h ho
theorem zCB_of {B : zBk} {b : Nat} {w v : zW} (h : zCB B b w) (e : ∀ a k, b ≤ a → a < b + 30 → gI v a k = gI w a k) (hwf : zWF B) : zCB B b v := by
  have hW := wf_W hwf
  have hR := wf_R hwf
  refine ⟨⟨by rw [e _ _ (by omega) (by omega)]; exact cb_W h, by rw [e _ _ (by omega) (by omega)]; exact cb_C h, by rw [e _ _ (by omega) (by omega)]; exact cb_R h⟩, fun o ho => ?_, fun o ho => ?_, fun o ho => ?_, fun o i ho hi => ?_, fun r hr => ?_, fun r i hr hi => ?_, fun r o hr ho => ?_, fun r hr => ?_⟩
  · rw [e _ _ (by omega) (by omega)]; exact cb_Kd h ho
  · rw [e _ _ (by omega) (by omega)]; exact cb_Us h ho
  · rw [e _ _ (by omega) (by omega)]; exact cb_Sz h ho
  · rw [e _ _ (by omega) (by omega)]; exact cb_ml h ho hi
  · rw [e _ _ (by omega) (by omega)]; exact cb_Ln h hr
  · rw [e _ _ (by omega) (by omega)]; exact cb_It h hr hi
  · rw [e _ _ (by omega) (by omega)]; exact cb_U h hr ho
  · rw [e _ _ (by omega) (by omega)]; exact cb_Ct h hr
/-- how many of a row's words are each word: no more than it is long -/
theorem zcnt_sum (n : Nat) (f : Nat → Nat) (W : Nat) : zsum W (fun o => zcnt n (fun i => f i == o)) ≤ n := by
  induction n with
  | zero => exact Nat.le_of_eq (zsum_zero (f := fun o => zcnt 0 (fun i => f i == o)) (fun i _ => rfl))
  | succ n ih =>
    have e : zsum W (fun o => zcnt (n + 1) (fun i => f i == o)) = zsum W (fun o => zcnt n (fun i => f i == o)) + zsum W (fun o => if (f n == o) = true then 1 else 0) := by
      rw [← zsum_add]
      rfl
    have h1 : ∀ W : Nat, zsum W (fun o => if (f n == o) = true then 1 else 0) = if f n < W then 1 else 0 := by
      intro W
      induction W with
      | zero => rfl
      | succ W ih2 =>
        rw [zsum_S, ih2]
        by_cases h : f n = W
        · rw [if_neg (by omega), if_pos (by rw [h]; exact beq_self_eq_true W), if_pos (by omega)]
        · rw [if_neg (show ¬ (f n == W) = true from fun q => h (eq_of_beq q))]
          by_cases h2 : f n < W
          · rw [if_pos h2, if_pos (by omega)]
          · rw [if_neg h2, if_neg (by omega)]
    rw [e, h1 W]
    by_cases h : f n < W
    · rw [if_pos h]; omega
    · rw [if_neg h]; omega
theorem wf_Usum {B : zBk} (h : zWF B) (r W : Nat) : zsum W (fun o => bU B r o) ≤ 60 := by
  by_cases hr : r < bR B
  · have e : zsum W (fun o => bU B r o) = zsum W (fun o => zcnt (bLn B r) (fun i => bIt B r i == o)) := zsum_congr (fun o _ => by rw [wf_U h, if_pos hr])
    rw [e]
    exact Nat.le_trans (zcnt_sum _ _ _) (wf_Ln h hr)
  · rw [zsum_zero (fun o _ => by rw [wf_U h, if_neg hr])]
    omega
theorem wf_U60 {B : zBk} (h : zWF B) (r o : Nat) : bU B r o ≤ 60 :=
  Nat.le_trans (zsum_get (fun o => bU B r o) (Nat.lt_succ_self o)) (wf_Usum h r (o + 1))
theorem wf_Us {B : zBk} (h : zWF B) (o : Nat) : zUs B o ≤ 480 := by
  have h1 : zUs B o ≤ zsum (bR B) (fun _ => 60) := zsum_le (fun i _ => wf_U60 h i o)
  have h2 : ∀ n, zsum n (fun _ => 60) = 60 * n := by
    intro n
    induction n with
    | zero => rfl
    | succ n ih => rw [zsum_S, ih]; omega
  rw [h2] at h1
  have := wf_R h
  omega
/-- what a row's words take and leave by some meanings -/
def zTk (B : zBk) (r : Nat) (m : Nat → Nat) : Nat := zsum (bW B) (fun o => bU B r o * (m o / 3))
def zLv (B : zBk) (r : Nat) (m : Nat → Nat) : Nat := zsum (bW B) (fun o => bU B r o * (m o % 3))
/-- what there is for a row -/
def zTh (B : zBk) (r : Nat) (m : Nat → Nat) : Nat := if r = 0 then bC B else zLv B (r - 1) m
theorem zTk_le {B : zBk} (h : zWF B) (r n : Nat) (m : Nat → Nat) (hm : ∀ o, m o < 9) : zsum n (fun o => bU B r o * (m o / 3)) ≤ 120 := by
  have h1 : zsum n (fun o => bU B r o * (m o / 3)) ≤ zsum n (fun o => 2 * bU B r o) := zsum_le (fun o _ => by
    have := hm o
    rw [Nat.mul_comm]
    exact Nat.mul_le_mul_right _ (by omega))
  rw [zsum_mul] at h1
  have : zsum n (bU B r) ≤ 60 := wf_Usum h r n
  omega
theorem zLv_le {B : zBk} (h : zWF B) (r n : Nat) (m : Nat → Nat) : zsum n (fun o => bU B r o * (m o % 3)) ≤ 120 := by
  have h1 : zsum n (fun o => bU B r o * (m o % 3)) ≤ zsum n (fun o => 2 * bU B r o) := zsum_le (fun o _ => by
    rw [Nat.mul_comm]
    exact Nat.mul_le_mul_right _ (by omega))
  rw [zsum_mul] at h1
  have : zsum n (bU B r) ≤ 60 := wf_Usum h r n
  omega

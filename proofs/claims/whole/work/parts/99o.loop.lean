/-! Level 2: the law's loop, to its end -/
theorem zx7 {L : Nat} (hL : L ≤ 3584) {x : Nat} (hx : x ≤ 3584) : (Int32.ofNat L - (7 : Int32) < Int32.ofNat x) ↔ L < x + 7 := by
  rw [zl7]
  by_cases h : 7 ≤ L
  · rw [zi_sub h, zi_lt (by omega) (by omega)]
    omega
  · have : ∀ l, l < 7 → Int32.ofNat l - Int32.ofNat 7 < 0 := by decide
    have h2 := this L (by omega)
    refine ⟨fun _ => by omega, fun _ => ?_⟩
    have h3 := zi_0le (n := x) (by omega)
    rw [Int32.lt_iff_toInt_lt] at h2 h3 ⊢
    omega
theorem zOk_dn {n mc ms : Nat} {w : zW} (h : zOk (n + 1) mc ms w) : zOk n mc ms w := ⟨h.1, by have := h.2.1; omega, by have := h.2.2; omega⟩
set_option maxRecDepth 100000 in
theorem zlawL {L : Nat} {xs : Nat → Int32} (hL : L ≤ 3584) : ∀ (n x mc ms : Nat) (w : zW), L < x + 7 * n + 7 → x ≤ L → zOk n mc ms w → fL_law_L23 L xs 150 (fun v _ => v = 1) (n + 1) mc ms (Int32.ofNat x) w := by
  intro n
  induction n with
  | zero =>
    intro x mc ms w h1 h2 h
    rw [fL_law_L23]
    exact ⟨fun _ => rfl, fun q => absurd ((zx7 hL (by omega)).mpr (by omega)) q⟩
  | succ n ih =>
    intro x mc ms w h1 h2 h
    rw [fL_law_L23]
    refine ⟨fun _ => rfl, fun q => ?_⟩
    have hx : x + 7 ≤ L := by
      by_cases c : L < x + 7
      · exact absurd ((zx7 hL (by omega)).mpr c) q
      · omega
    have hg : zHj n L xs (fun v _ => v = 1) (fL_law_L23 L xs 150 (fun v _ => v = 1) (n + 1)) x := fun mc ms w h => by
      unfold fL_law_J1479
      rw [zl7, zi_add]
      exact ih (x + 7) mc ms w (by omega) hx h
    have hd := zOk_dn h
    refine ⟨zi_in (by omega) (by omega), fun sv _ => ?_⟩
    refine ⟨fun _ => zj_224 hL hx hg hd, fun _ => ?_⟩
    refine ⟨fun _ => zj_371 hL hx hg hd, fun _ => ?_⟩
    refine ⟨fun _ => zj_384 hL hx hg hd, fun _ => ?_⟩
    refine ⟨fun _ => zj_397 hL hx hg hd, fun _ => ?_⟩
    refine ⟨fun _ => zj_434 hL hx hg hd, fun _ => ?_⟩
    refine ⟨fun _ => zj_471 hL hx hg hd, fun _ => ?_⟩
    refine ⟨fun _ => zj_508 hL hx hg hd, fun _ => ?_⟩
    refine ⟨fun _ => zj_557 hL hx hg hd, fun _ => ?_⟩
    refine ⟨fun _ => zj_582 hL hx hg hd, fun _ => ?_⟩
    refine ⟨fun _ => zj_619 hL hx hg hd, fun _ => ?_⟩
    refine ⟨fun _ => zj_644 hL hx hg hd, fun _ => ?_⟩
    refine ⟨fun _ => zj_657 hL hx hg hd, fun _ => ?_⟩
    refine ⟨fun _ => zj_682 hL hx hg hd, fun _ => ?_⟩
    refine ⟨fun _ => zj_695 hL hx hg hd, fun _ => ?_⟩
    refine ⟨fun _ => zj_732 hL hx hg hd, fun _ => ?_⟩
    refine ⟨fun _ => zj_757 hL hx hg hd, fun _ => ?_⟩
    refine ⟨fun _ => zj_782 hL hx hg hd, fun _ => ?_⟩
    refine ⟨fun _ => zj_795 hL hx hg hd, fun _ => ?_⟩
    refine ⟨fun _ => zj_844 hL hx hg hd, fun _ => ?_⟩
    refine ⟨fun _ => zj_869 hL hx hg hd, fun _ => ?_⟩
    refine ⟨fun _ => zj_894 hL hx hg hd, fun _ => ?_⟩
    refine ⟨fun _ => zj_919 hL hx hg hd, fun _ => ?_⟩
    refine ⟨fun _ => zj_932 hL hx hg hd, fun _ => ?_⟩
    refine ⟨fun _ => zj_969 hL hx hg hd, fun _ => ?_⟩
    refine ⟨fun _ => zj_982 hL hx hg hd, fun _ => ?_⟩
    refine ⟨fun _ => zj_995 hL hx hg hd, fun _ => ?_⟩
    refine ⟨fun _ => zj_1008 hL hx hg hd, fun _ => ?_⟩
    refine ⟨fun _ => zj_1021 hL hx hg hd, fun _ => ?_⟩
    refine ⟨fun _ => zj_1046 hL hx hg hd, fun _ => ?_⟩
    refine ⟨fun _ => zj_1059 hL hx hg hd, fun _ => ?_⟩
    refine ⟨fun _ => zj_1072 hL hx hg hd, fun _ => ?_⟩
    refine ⟨fun _ => zj_1085 hL hx hg hd, fun _ => ?_⟩
    refine ⟨fun _ => zj_1098 hL hx hg hd, fun _ => ?_⟩
    refine ⟨fun _ => zj_1123 hL hx hg hd, fun _ => ?_⟩
    refine ⟨fun _ => zj_1148 hL hx hg hd, fun _ => ?_⟩
    refine ⟨fun _ => zj_1185 hL hx hg hd, fun _ => ?_⟩
    refine ⟨fun _ => zj_1198 hL hx hg hd, fun _ => ?_⟩
    refine ⟨fun _ => zj_1223 hL hx hg hd, fun _ => ?_⟩
    refine ⟨fun _ => zj_1260 hL hx hg h, fun _ => ?_⟩
    refine ⟨fun _ => zj_1352 hL hx hg hd, fun _ => ?_⟩
    refine ⟨fun _ => zj_1401 hL hx hg hd, fun _ => ?_⟩
    refine ⟨fun _ => zj_1454 hL hx hg hd, fun _ => ?_⟩
    exact hg _ _ _ hd
theorem zNA6 (w : zW) : zNA w ≤ 19686 ∧ zNS w ≤ 66251 := by
  unfold zNA zNS zrm zbm zrs zbs
  have h := zpot_le (zln (gR w 24 4))
  constructor <;> split <;> omega

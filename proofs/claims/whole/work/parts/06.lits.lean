/-! Where cells lie: of a single object by its number, of the others by an offset -/
def zoffok (ci off κ N : Nat) : Bool := (List.range 260).all fun a => zsh a != ci || (zfix (a + off) && zsh (a + off) == κ && zln (a + off) == N)
def zrowok (ci off N M : Nat) : Bool := (List.range 260).all fun a => zsh a != ci || (List.range N).all fun j => zfix (a + off + 1 + j) && zsh (a + off + 1 + j) == 20 && zln (a + off + 1 + j) == M
def zdcC (ci k : Nat) : Nat := if ci < 13 then (zDC.getD ci []).getD k 0 else if ci = 24 then 20 else 3
theorem zdc_of {n ci k v : Nat} (h : zsh n = ci) (hv : zdcC ci k = v) : zdc n k = v := by
  unfold zdc
  rw [h]
  exact hv
theorem zsh_lt3 {n : Nat} (h : zsh n ≠ 99) (h3 : ¬ 300 ≤ n) : n < 260 := by
  by_cases hl : n < zshL.length
  · have : zshL.length ≤ 260 := by decide +kernel
    omega
  · exfalso
    apply h
    rw [zsh_sm h3, List.getD_eq_getElem?_getD, List.getElem?_eq_none (by omega)]
    rfl
theorem zsh_lt {n ci : Nat} (h : zsh n = ci) (hc : ci ≠ 99) (h20 : ci ≠ 20) : n < 260 :=
  zsh_lt3 (by rw [h]; exact hc) (fun h3 => h20 (h.symm.trans (zsh_big h3)))
theorem zst_0 {n : Nat} (h : zsh n = 0) (k : Nat) {r : Nat} (hr : n + (zLIT.getD 0 []).getD k 0 = r) : zst n k = r := by
  unfold zst; rw [h]; exact hr
theorem zst_3 {n : Nat} (h : zsh n = 3) (k : Nat) {r : Nat} (hr : n + (zLIT.getD 3 []).getD k 0 = r) : zst n k = r := by
  unfold zst; rw [h]; exact hr
theorem zst_5 {n : Nat} (h : zsh n = 5) (k : Nat) {r : Nat} (hr : n + (zLIT.getD 5 []).getD k 0 = r) : zst n k = r := by
  unfold zst; rw [h]; exact hr
theorem z_i32ne {x k : Int32} (h : ¬ x = k) : ¬ x.toInt = k.toInt := fun e => h (Int32.toInt_inj.mp e)
section ZLITS
variable {s : State} {H : Heap} {locs : List Loc} {D : va_G} {dA : Nat → ClassId} {ad ad0 : Nat → Nat} {al al0 : Nat → Prop} {w : zW}
theorem zlit (hR : zSt D dA true ad0 al0 ad al w s H locs) {n : Nat} (h : zfix n = true) : al n := (hR.1.2.2.2.1.1 n).mpr (Or.inl h)
theorem zoff (hR : zSt D dA true ad0 al0 ad al w s H locs) {a ci off κ N : Nat} (h : zsh a = ci) (hd : zoffok ci off κ N = true) (hc : ci ≠ 99 := by decide) (h20 : ci ≠ 20 := by decide) : al (a + off) ∧ zsh (a + off) = κ ∧ zln (a + off) = N := by
  have h1 := List.all_eq_true.mp hd a (List.mem_range.mpr (zsh_lt h hc h20))
  simp only [h, bne_self_eq_false, Bool.false_or, Bool.and_eq_true, beq_iff_eq] at h1
  exact ⟨zlit hR h1.1.1, h1.1.2, h1.2⟩
theorem zrow (hR : zSt D dA true ad0 al0 ad al w s H locs) {a ci off N M : Nat} {i : Int32} (h : zsh a = ci) (hd : zrowok ci off N M = true) (hin : vp_in i N) (hc : ci ≠ 99 := by decide) (h20 : ci ≠ 20 := by decide) : al (a + off + 1 + i.toNatClampNeg) ∧ zsh (a + off + 1 + i.toNatClampNeg) = 20 ∧ zln (a + off + 1 + i.toNatClampNeg) = M := by
  have h1 := List.all_eq_true.mp hd a (List.mem_range.mpr (zsh_lt h hc h20))
  simp only [h, bne_self_eq_false, Bool.false_or] at h1
  have h2 := List.all_eq_true.mp h1 i.toNatClampNeg (List.mem_range.mpr (Nat.not_le.mp fun q => hin (Or.inr q)))
  simp only [Bool.and_eq_true, beq_iff_eq] at h2
  exact ⟨zlit hR h2.1.1, h2.1.2, h2.2⟩
theorem zhand (hR : zSt D dA true ad0 al0 ad al w s H locs) {i : Int32} (hin : vp_in i 4) : al (11 + 1 + 2 * i.toNatClampNeg) ∧ zsh (11 + 1 + 2 * i.toNatClampNeg) = 3 := by
  have h1 : ∀ j, j < 4 → zfix (11 + 1 + 2 * j) = true ∧ zsh (11 + 1 + 2 * j) = 3 := by decide +kernel
  have h2 := h1 _ (Nat.not_le.mp fun q => hin (Or.inr q))
  exact ⟨zlit hR h2.1, h2.2⟩
theorem zwt_of (hR : zSt D dA true ad0 al0 ad al w s H locs) {n ci k v : Nat} (hn : al n) (hsh : zsh n = ci) (ht : ztg true ci k = 3) (h0 : ¬ gR w n k = 0) (hv : zdc n k = v) : al (gR w n k) ∧ zsh (gR w n k) = v := by
  have h := zwt_ok hR hn hsh ht h0
  rw [hv] at h
  exact h
end ZLITS
theorem zin {i : Int32} {n : Nat} (h : (!decide (i < 0) && decide (i.toNatClampNeg < n)) = true) : vp_in i n := by
  simp only [Bool.and_eq_true, Bool.not_eq_true', decide_eq_false_iff_not, decide_eq_true_eq] at h
  exact fun q => q.elim h.1 (fun z => by omega)

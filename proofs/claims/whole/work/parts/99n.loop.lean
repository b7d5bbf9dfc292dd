/-! Level 2: the law's loop. What holds at each of its turns, call by call -/
def zOk (n mc ms : Nat) (w : zW) : Prop := (∃ B S N b nn, zInv B S N b nn w) ∧ zNA w + n ≤ mc ∧ zNS w + 6 * n ≤ ms
theorem zOk_fl {n mc ms : Nat} {w v : zW} {B : zBk} {S : Nat → Int32} {N : zNt} {b nn : Nat} (hv : zInv B S N b nn v) (hf : zfl w v) (h : zNA w + n ≤ mc ∧ zNS w + 6 * n ≤ ms) : zOk n mc ms v := by
  have h1 : zNA v + 0 = zNA w := (zCost_fl hf).1
  have h2 : zNS v + 0 = zNS w := (zCost_fl hf).2
  exact ⟨⟨B, S, N, b, nn, hv⟩, by omega, by omega⟩
theorem zOk_co {n mc ms c s : Nat} {w v : zW} {B : zBk} {S : Nat → Int32} {N : zNt} {b nn : Nat} (hv : zInv B S N b nn v) (hf : zCost c s w v) (h : zNA w + n ≤ mc ∧ zNS w + 6 * n ≤ ms) : zOk n (mc - c) (ms - s) v := by
  have h1 : zNA v + c = zNA w := hf.1
  have h2 : zNS v + s = zNS w := hf.2
  exact ⟨⟨B, S, N, b, nn, hv⟩, by omega, by omega⟩
theorem zin6 {x4 L : Nat} (j : Nat) (hj : j < 7) (h : x4 + 7 ≤ L) (hL : L ≤ 3584) : vp_in (Int32.ofNat x4 + Int32.ofNat j) L := by
  rw [zi_add]
  exact zi_in (by omega) (by omega)
section ZJ
variable {L n mc ms x : Nat} {xs : Nat → Int32} {k : Int32 → zW → Prop} {g : Nat → Nat → Int32 → zW → Prop} {w : zW}
abbrev zHj (n L : Nat) (xs : Nat → Int32) (k : Int32 → zW → Prop) (g : Nat → Nat → Int32 → zW → Prop) (x : Nat) : Prop := ∀ mc ms w, zOk n mc ms w → fL_law_J1479 L xs 150 k g mc ms (Int32.ofNat x) w
theorem zj_224 (hL : L ≤ 3584) (hx : x + 7 ≤ L) (hg : zHj n L xs k g x) (h : zOk n mc ms w) : fL_law_J224 L xs 150 k g mc ms (Int32.ofNat x) w := by
  obtain ⟨⟨B, S, N, b, nn, hi⟩, hr⟩ := h
  unfold fL_law_J224
  exact ⟨zin6 1 (by omega) hx hL, zin6 2 (by omega) hx hL, zin6 3 (by omega) hx hL, zin6 4 (by omega) hx hL, zin6 5 (by omega) hx hL, zin6 6 (by omega) hx hL, c_feed hi (fun v hv hf => hg _ _ _ (zOk_fl hv hf hr))⟩
theorem zj_371 (hL : L ≤ 3584) (hx : x + 7 ≤ L) (hg : zHj n L xs k g x) (h : zOk n mc ms w) : fL_law_J371 L xs 150 k g mc ms (Int32.ofNat x) w := by
  obtain ⟨⟨B, S, N, b, nn, hi⟩, hr⟩ := h
  unfold fL_law_J371
  exact c_book hi (fun _ _ _ _ v hv hf => hg _ _ _ (zOk_fl hv hf hr))
theorem zj_384 (hL : L ≤ 3584) (hx : x + 7 ≤ L) (hg : zHj n L xs k g x) (h : zOk n mc ms w) : fL_law_J384 L xs 150 k g mc ms (Int32.ofNat x) w := by
  obtain ⟨⟨B, S, N, b, nn, hi⟩, hr⟩ := h
  unfold fL_law_J384
  exact c_notes hi (fun _ _ v hv hf => hg _ _ _ (zOk_fl hv hf hr))
theorem zj_397 (hL : L ≤ 3584) (hx : x + 7 ≤ L) (hg : zHj n L xs k g x) (h : zOk n mc ms w) : fL_law_J397 L xs 150 k g mc ms (Int32.ofNat x) w := by
  obtain ⟨⟨B, S, N, b, nn, hi⟩, hr⟩ := h
  unfold fL_law_J397
  exact ⟨zin6 1 (by omega) hx hL, zin6 2 (by omega) hx hL, c_term hi (fun v hv hf => hg _ _ _ (zOk_fl hv hf hr))⟩
theorem zj_434 (hL : L ≤ 3584) (hx : x + 7 ≤ L) (hg : zHj n L xs k g x) (h : zOk n mc ms w) : fL_law_J434 L xs 150 k g mc ms (Int32.ofNat x) w := by
  obtain ⟨⟨B, S, N, b, nn, hi⟩, hr⟩ := h
  unfold fL_law_J434
  obtain ⟨c, s, h1, h2, h3⟩ := c_line (k := fun c s v => fL_law_J1479 L xs 150 k g (mc - c) (ms - s) (Int32.ofNat x) v) (k0 := fun v => k 0 v) hi (fun c s v hv hz => hg _ _ _ (zOk_co hv hz hr))
  exact ⟨zin6 1 (by omega) hx hL, zin6 2 (by omega) hx hL, c, s, by omega, by omega, h3⟩
theorem zj_471 (hL : L ≤ 3584) (hx : x + 7 ≤ L) (hg : zHj n L xs k g x) (h : zOk n mc ms w) : fL_law_J471 L xs 150 k g mc ms (Int32.ofNat x) w := by
  obtain ⟨⟨B, S, N, b, nn, hi⟩, hr⟩ := h
  unfold fL_law_J471
  exact ⟨zin6 1 (by omega) hx hL, zin6 2 (by omega) hx hL, c_there hi (fun v hv hf => hg _ _ _ (zOk_fl hv hf hr))⟩
theorem zj_508 (hL : L ≤ 3584) (hx : x + 7 ≤ L) (hg : zHj n L xs k g x) (h : zOk n mc ms w) : fL_law_J508 L xs 150 k g mc ms (Int32.ofNat x) w := by
  obtain ⟨⟨B, S, N, b, nn, hi⟩, hr⟩ := h
  unfold fL_law_J508
  exact ⟨zin6 1 (by omega) hx hL, zin6 2 (by omega) hx hL, zin6 3 (by omega) hx hL, c_guess hi (fun _ v hv hf => hg _ _ _ (zOk_fl hv hf hr))⟩
theorem zj_557 (hL : L ≤ 3584) (hx : x + 7 ≤ L) (hg : zHj n L xs k g x) (h : zOk n mc ms w) : fL_law_J557 L xs 150 k g mc ms (Int32.ofNat x) w := by
  obtain ⟨⟨B, S, N, b, nn, hi⟩, hr⟩ := h
  unfold fL_law_J557
  exact ⟨zin6 1 (by omega) hx hL, c_forget hi (fun _ v hv hf => hg _ _ _ (zOk_fl hv hf hr))⟩
theorem zj_582 (hL : L ≤ 3584) (hx : x + 7 ≤ L) (hg : zHj n L xs k g x) (h : zOk n mc ms w) : fL_law_J582 L xs 150 k g mc ms (Int32.ofNat x) w := by
  obtain ⟨⟨B, S, N, b, nn, hi⟩, hr⟩ := h
  unfold fL_law_J582
  exact ⟨zin6 1 (by omega) hx hL, zin6 2 (by omega) hx hL, c_tell hi (fun _ v hv hf => hg _ _ _ (zOk_fl hv hf hr))⟩
theorem zj_619 (hL : L ≤ 3584) (hx : x + 7 ≤ L) (hg : zHj n L xs k g x) (h : zOk n mc ms w) : fL_law_J619 L xs 150 k g mc ms (Int32.ofNat x) w := by
  obtain ⟨⟨B, S, N, b, nn, hi⟩, hr⟩ := h
  unfold fL_law_J619
  exact ⟨zin6 1 (by omega) hx hL, c_drop hi (fun _ v hv hf => hg _ _ _ (zOk_fl hv hf hr))⟩
theorem zj_644 (hL : L ≤ 3584) (hx : x + 7 ≤ L) (hg : zHj n L xs k g x) (h : zOk n mc ms w) : fL_law_J644 L xs 150 k g mc ms (Int32.ofNat x) w := by
  obtain ⟨⟨B, S, N, b, nn, hi⟩, hr⟩ := h
  unfold fL_law_J644
  exact c_undo hi (fun _ v hv hf => hg _ _ _ (zOk_fl hv hf hr))
theorem zj_657 (hL : L ≤ 3584) (hx : x + 7 ≤ L) (hg : zHj n L xs k g x) (h : zOk n mc ms w) : fL_law_J657 L xs 150 k g mc ms (Int32.ofNat x) w := by
  obtain ⟨⟨B, S, N, b, nn, hi⟩, hr⟩ := h
  unfold fL_law_J657
  obtain ⟨c, s, h1, h2, h3⟩ := c_judged (k := fun c s v => fL_law_J1479 L xs 150 k g (mc - c) (ms - s) (Int32.ofNat x) v) (k0 := fun v => k 0 v) hi (fun c s v hv hz => hg _ _ _ (zOk_co hv hz hr))
  exact ⟨zin6 1 (by omega) hx hL, c, s, by omega, by omega, h3⟩
theorem zj_682 (hL : L ≤ 3584) (hx : x + 7 ≤ L) (hg : zHj n L xs k g x) (h : zOk n mc ms w) : fL_law_J682 L xs 150 k g mc ms (Int32.ofNat x) w := by
  obtain ⟨⟨B, S, N, b, nn, hi⟩, hr⟩ := h
  unfold fL_law_J682
  obtain ⟨c, s, h1, h2, h3⟩ := c_fits (k := fun c s v => fL_law_J1479 L xs 150 k g (mc - c) (ms - s) (Int32.ofNat x) v) (k0 := fun v => k 0 v) hi (fun c s v hv hz => hg _ _ _ (zOk_co hv hz hr))
  exact ⟨c, s, by omega, by omega, h3⟩
theorem zj_695 (hL : L ≤ 3584) (hx : x + 7 ≤ L) (hg : zHj n L xs k g x) (h : zOk n mc ms w) : fL_law_J695 L xs 150 k g mc ms (Int32.ofNat x) w := by
  obtain ⟨⟨B, S, N, b, nn, hi⟩, hr⟩ := h
  unfold fL_law_J695
  obtain ⟨c, s, h1, h2, h3⟩ := c_entry (k := fun c s v => fL_law_J1479 L xs 150 k g (mc - c) (ms - s) (Int32.ofNat x) v) (k0 := fun v => k 0 v) hi (fun c s v hv hz => hg _ _ _ (zOk_co hv hz hr))
  exact ⟨zin6 1 (by omega) hx hL, zin6 2 (by omega) hx hL, c, s, by omega, by omega, h3⟩
theorem zj_732 (hL : L ≤ 3584) (hx : x + 7 ≤ L) (hg : zHj n L xs k g x) (h : zOk n mc ms w) : fL_law_J732 L xs 150 k g mc ms (Int32.ofNat x) w := by
  obtain ⟨⟨B, S, N, b, nn, hi⟩, hr⟩ := h
  unfold fL_law_J732
  obtain ⟨c, s, h1, h2, h3⟩ := c_could (k := fun c s v => fL_law_J1479 L xs 150 k g (mc - c) (ms - s) (Int32.ofNat x) v) (k0 := fun v => k 0 v) hi (fun c s v hv hz => hg _ _ _ (zOk_co hv hz hr))
  exact ⟨zin6 1 (by omega) hx hL, c, s, by omega, by omega, h3⟩
theorem zj_757 (hL : L ≤ 3584) (hx : x + 7 ≤ L) (hg : zHj n L xs k g x) (h : zOk n mc ms w) : fL_law_J757 L xs 150 k g mc ms (Int32.ofNat x) w := by
  obtain ⟨⟨B, S, N, b, nn, hi⟩, hr⟩ := h
  unfold fL_law_J757
  obtain ⟨c, s, h1, h2, h3⟩ := c_sure (k := fun c s v => fL_law_J1479 L xs 150 k g (mc - c) (ms - s) (Int32.ofNat x) v) (k0 := fun v => k 0 v) hi (fun c s v hv hz => hg _ _ _ (zOk_co hv hz hr))
  exact ⟨zin6 1 (by omega) hx hL, c, s, by omega, by omega, h3⟩
theorem zj_782 (hL : L ≤ 3584) (hx : x + 7 ≤ L) (hg : zHj n L xs k g x) (h : zOk n mc ms w) : fL_law_J782 L xs 150 k g mc ms (Int32.ofNat x) w := by
  obtain ⟨⟨B, S, N, b, nn, hi⟩, hr⟩ := h
  unfold fL_law_J782
  obtain ⟨c, s, h1, h2, h3⟩ := c_fixed (k := fun c s v => fL_law_J1479 L xs 150 k g (mc - c) (ms - s) (Int32.ofNat x) v) (k0 := fun v => k 0 v) hi (fun c s v hv hz => hg _ _ _ (zOk_co hv hz hr))
  exact ⟨c, s, by omega, by omega, h3⟩
theorem zj_795 (hL : L ≤ 3584) (hx : x + 7 ≤ L) (hg : zHj n L xs k g x) (h : zOk n mc ms w) : fL_law_J795 L xs 150 k g mc ms (Int32.ofNat x) w := by
  obtain ⟨⟨B, S, N, b, nn, hi⟩, hr⟩ := h
  unfold fL_law_J795
  obtain ⟨c, s, h1, h2, h3⟩ := c_with (k := fun c s v => fL_law_J1479 L xs 150 k g (mc - c) (ms - s) (Int32.ofNat x) v) (k0 := fun v => k 0 v) hi (fun c s v hv hz => hg _ _ _ (zOk_co hv hz hr))
  exact ⟨zin6 1 (by omega) hx hL, zin6 2 (by omega) hx hL, zin6 3 (by omega) hx hL, c, s, by omega, by omega, h3⟩
theorem zj_844 (hL : L ≤ 3584) (hx : x + 7 ≤ L) (hg : zHj n L xs k g x) (h : zOk n mc ms w) : fL_law_J844 L xs 150 k g mc ms (Int32.ofNat x) w := by
  obtain ⟨⟨B, S, N, b, nn, hi⟩, hr⟩ := h
  unfold fL_law_J844
  obtain ⟨c, s, h1, h2, h3⟩ := c_least (k := fun c s v => fL_law_J1479 L xs 150 k g (mc - c) (ms - s) (Int32.ofNat x) v) (k0 := fun v => k 0 v) hi (fun c s v hv hz => hg _ _ _ (zOk_co hv hz hr))
  exact ⟨zin6 1 (by omega) hx hL, c, s, by omega, by omega, h3⟩
theorem zj_869 (hL : L ≤ 3584) (hx : x + 7 ≤ L) (hg : zHj n L xs k g x) (h : zOk n mc ms w) : fL_law_J869 L xs 150 k g mc ms (Int32.ofNat x) w := by
  obtain ⟨⟨B, S, N, b, nn, hi⟩, hr⟩ := h
  unfold fL_law_J869
  obtain ⟨c, s, h1, h2, h3⟩ := c_most (k := fun c s v => fL_law_J1479 L xs 150 k g (mc - c) (ms - s) (Int32.ofNat x) v) (k0 := fun v => k 0 v) hi (fun c s v hv hz => hg _ _ _ (zOk_co hv hz hr))
  exact ⟨zin6 1 (by omega) hx hL, c, s, by omega, by omega, h3⟩
theorem zj_894 (hL : L ≤ 3584) (hx : x + 7 ≤ L) (hg : zHj n L xs k g x) (h : zOk n mc ms w) : fL_law_J894 L xs 150 k g mc ms (Int32.ofNat x) w := by
  obtain ⟨⟨B, S, N, b, nn, hi⟩, hr⟩ := h
  unfold fL_law_J894
  obtain ⟨c, s, h1, h2, h3⟩ := c_kinds (k := fun c s v => fL_law_J1479 L xs 150 k g (mc - c) (ms - s) (Int32.ofNat x) v) (k0 := fun v => k 0 v) hi (fun c s v hv hz => hg _ _ _ (zOk_co hv hz hr))
  exact ⟨zin6 1 (by omega) hx hL, c, s, by omega, by omega, h3⟩
theorem zj_919 (hL : L ≤ 3584) (hx : x + 7 ≤ L) (hg : zHj n L xs k g x) (h : zOk n mc ms w) : fL_law_J919 L xs 150 k g mc ms (Int32.ofNat x) w := by
  obtain ⟨⟨B, S, N, b, nn, hi⟩, hr⟩ := h
  unfold fL_law_J919
  obtain ⟨c, s, h1, h2, h3⟩ := c_open (k := fun c s v => fL_law_J1479 L xs 150 k g (mc - c) (ms - s) (Int32.ofNat x) v) (k0 := fun v => k 0 v) hi (fun c s v hv hz => hg _ _ _ (zOk_co hv hz hr))
  exact ⟨c, s, by omega, by omega, h3⟩
theorem zj_932 (hL : L ≤ 3584) (hx : x + 7 ≤ L) (hg : zHj n L xs k g x) (h : zOk n mc ms w) : fL_law_J932 L xs 150 k g mc ms (Int32.ofNat x) w := by
  obtain ⟨⟨B, S, N, b, nn, hi⟩, hr⟩ := h
  unfold fL_law_J932
  obtain ⟨c, s, h1, h2, h3⟩ := c_has (k := fun c s v => fL_law_J1479 L xs 150 k g (mc - c) (ms - s) (Int32.ofNat x) v) (k0 := fun v => k 0 v) hi (fun c s v hv hz => hg _ _ _ (zOk_co hv hz hr))
  exact ⟨zin6 1 (by omega) hx hL, zin6 2 (by omega) hx hL, c, s, by omega, by omega, h3⟩
theorem zj_969 (hL : L ≤ 3584) (hx : x + 7 ≤ L) (hg : zHj n L xs k g x) (h : zOk n mc ms w) : fL_law_J969 L xs 150 k g mc ms (Int32.ofNat x) w := by
  obtain ⟨⟨B, S, N, b, nn, hi⟩, hr⟩ := h
  unfold fL_law_J969
  obtain ⟨c, s, h1, h2, h3⟩ := c_ask (k := fun c s v => fL_law_J1479 L xs 150 k g (mc - c) (ms - s) (Int32.ofNat x) v) (k0 := fun v => k 0 v) hi (fun c s v hv hz => hg _ _ _ (zOk_co hv hz hr))
  exact ⟨c, s, by omega, by omega, h3⟩
theorem zj_982 (hL : L ≤ 3584) (hx : x + 7 ≤ L) (hg : zHj n L xs k g x) (h : zOk n mc ms w) : fL_law_J982 L xs 150 k g mc ms (Int32.ofNat x) w := by
  obtain ⟨⟨B, S, N, b, nn, hi⟩, hr⟩ := h
  unfold fL_law_J982
  obtain ⟨c, s, h1, h2, h3⟩ := c_learn (k := fun c s v => fL_law_J1479 L xs 150 k g (mc - c) (ms - s) (Int32.ofNat x) v) (k0 := fun v => k 0 v) hi (fun c s v hv hz => hg _ _ _ (zOk_co hv hz hr))
  exact ⟨c, s, by omega, by omega, h3⟩
theorem zj_995 (hL : L ≤ 3584) (hx : x + 7 ≤ L) (hg : zHj n L xs k g x) (h : zOk n mc ms w) : fL_law_J995 L xs 150 k g mc ms (Int32.ofNat x) w := by
  obtain ⟨⟨B, S, N, b, nn, hi⟩, hr⟩ := h
  unfold fL_law_J995
  exact c_bad hi (fun v hv hf => hg _ _ _ (zOk_fl hv hf hr))
theorem zj_1008 (hL : L ≤ 3584) (hx : x + 7 ≤ L) (hg : zHj n L xs k g x) (h : zOk n mc ms w) : fL_law_J1008 L xs 150 k g mc ms (Int32.ofNat x) w := by
  obtain ⟨⟨B, S, N, b, nn, hi⟩, hr⟩ := h
  unfold fL_law_J1008
  exact c_off hi (fun v hv hf => hg _ _ _ (zOk_fl hv hf hr))
theorem zj_1021 (hL : L ≤ 3584) (hx : x + 7 ≤ L) (hg : zHj n L xs k g x) (h : zOk n mc ms w) : fL_law_J1021 L xs 150 k g mc ms (Int32.ofNat x) w := by
  obtain ⟨⟨B, S, N, b, nn, hi⟩, hr⟩ := h
  unfold fL_law_J1021
  exact ⟨zin6 1 (by omega) hx hL, c_behind hi (fun v hv hf => hg _ _ _ (zOk_fl hv hf hr))⟩
theorem zj_1046 (hL : L ≤ 3584) (hx : x + 7 ≤ L) (hg : zHj n L xs k g x) (h : zOk n mc ms w) : fL_law_J1046 L xs 150 k g mc ms (Int32.ofNat x) w := by
  obtain ⟨⟨B, S, N, b, nn, hi⟩, hr⟩ := h
  unfold fL_law_J1046
  obtain ⟨c, s, h1, h2, h3⟩ := c_twins (k := fun c s v => fL_law_J1479 L xs 150 k g (mc - c) (ms - s) (Int32.ofNat x) v) (k0 := fun v => k 0 v) hi (fun c s v hv hz => hg _ _ _ (zOk_co hv hz hr))
  exact ⟨c, s, by omega, by omega, h3⟩
theorem zj_1059 (hL : L ≤ 3584) (hx : x + 7 ≤ L) (hg : zHj n L xs k g x) (h : zOk n mc ms w) : fL_law_J1059 L xs 150 k g mc ms (Int32.ofNat x) w := by
  obtain ⟨⟨B, S, N, b, nn, hi⟩, hr⟩ := h
  unfold fL_law_J1059
  exact c_idle hi (fun v hv hf => hg _ _ _ (zOk_fl hv hf hr))
theorem zj_1072 (hL : L ≤ 3584) (hx : x + 7 ≤ L) (hg : zHj n L xs k g x) (h : zOk n mc ms w) : fL_law_J1072 L xs 150 k g mc ms (Int32.ofNat x) w := by
  obtain ⟨⟨B, S, N, b, nn, hi⟩, hr⟩ := h
  unfold fL_law_J1072
  obtain ⟨c, s, h1, h2, h3⟩ := c_drops (k := fun c s v => fL_law_J1479 L xs 150 k g (mc - c) (ms - s) (Int32.ofNat x) v) (k0 := fun v => k 0 v) hi (fun c s v hv hz => hg _ _ _ (zOk_co hv hz hr))
  exact ⟨c, s, by omega, by omega, h3⟩
theorem zj_1085 (hL : L ≤ 3584) (hx : x + 7 ≤ L) (hg : zHj n L xs k g x) (h : zOk n mc ms w) : fL_law_J1085 L xs 150 k g mc ms (Int32.ofNat x) w := by
  obtain ⟨⟨B, S, N, b, nn, hi⟩, hr⟩ := h
  unfold fL_law_J1085
  obtain ⟨c, s, h1, h2, h3⟩ := c_misprints (k := fun c s v => fL_law_J1479 L xs 150 k g (mc - c) (ms - s) (Int32.ofNat x) v) (k0 := fun v => k 0 v) hi (fun c s v hv hz => hg _ _ _ (zOk_co hv hz hr))
  exact ⟨c, s, by omega, by omega, h3⟩
theorem zj_1098 (hL : L ≤ 3584) (hx : x + 7 ≤ L) (hg : zHj n L xs k g x) (h : zOk n mc ms w) : fL_law_J1098 L xs 150 k g mc ms (Int32.ofNat x) w := by
  obtain ⟨⟨B, S, N, b, nn, hi⟩, hr⟩ := h
  unfold fL_law_J1098
  obtain ⟨c, s, h1, h2, h3⟩ := c_misprint (k := fun c s v => fL_law_J1479 L xs 150 k g (mc - c) (ms - s) (Int32.ofNat x) v) (k0 := fun v => k 0 v) hi (fun c s v hv hz => hg _ _ _ (zOk_co hv hz hr))
  exact ⟨zin6 1 (by omega) hx hL, c, s, by omega, by omega, h3⟩
theorem zj_1123 (hL : L ≤ 3584) (hx : x + 7 ≤ L) (hg : zHj n L xs k g x) (h : zOk n mc ms w) : fL_law_J1123 L xs 150 k g mc ms (Int32.ofNat x) w := by
  obtain ⟨⟨B, S, N, b, nn, hi⟩, hr⟩ := h
  unfold fL_law_J1123
  exact ⟨zin6 1 (by omega) hx hL, c_turned hi (fun v hv hf => hg _ _ _ (zOk_fl hv hf hr))⟩
theorem zj_1148 (hL : L ≤ 3584) (hx : x + 7 ≤ L) (hg : zHj n L xs k g x) (h : zOk n mc ms w) : fL_law_J1148 L xs 150 k g mc ms (Int32.ofNat x) w := by
  obtain ⟨⟨B, S, N, b, nn, hi⟩, hr⟩ := h
  unfold fL_law_J1148
  exact ⟨zin6 1 (by omega) hx hL, zin6 2 (by omega) hx hL, c_alike hi (fun v hv hf => hg _ _ _ (zOk_fl hv hf hr))⟩
theorem zj_1185 (hL : L ≤ 3584) (hx : x + 7 ≤ L) (hg : zHj n L xs k g x) (h : zOk n mc ms w) : fL_law_J1185 L xs 150 k g mc ms (Int32.ofNat x) w := by
  obtain ⟨⟨B, S, N, b, nn, hi⟩, hr⟩ := h
  unfold fL_law_J1185
  obtain ⟨c, s, h1, h2, h3⟩ := c_spare (k := fun c s v => fL_law_J1479 L xs 150 k g (mc - c) (ms - s) (Int32.ofNat x) v) (k0 := fun v => k 0 v) hi (fun c s v hv hz => hg _ _ _ (zOk_co hv hz hr))
  exact ⟨c, s, by omega, by omega, h3⟩
theorem zj_1198 (hL : L ≤ 3584) (hx : x + 7 ≤ L) (hg : zHj n L xs k g x) (h : zOk n mc ms w) : fL_law_J1198 L xs 150 k g mc ms (Int32.ofNat x) w := by
  obtain ⟨⟨B, S, N, b, nn, hi⟩, hr⟩ := h
  unfold fL_law_J1198
  obtain ⟨c, s, h1, h2, h3⟩ := c_strict (k := fun c s v => fL_law_J1479 L xs 150 k g (mc - c) (ms - s) (Int32.ofNat x) v) (k0 := fun v => k 0 v) hi (fun c s v hv hz => hg _ _ _ (zOk_co hv hz hr))
  exact ⟨zin6 1 (by omega) hx hL, c, s, by omega, by omega, h3⟩
theorem zj_1223 (hL : L ≤ 3584) (hx : x + 7 ≤ L) (hg : zHj n L xs k g x) (h : zOk n mc ms w) : fL_law_J1223 L xs 150 k g mc ms (Int32.ofNat x) w := by
  obtain ⟨⟨B, S, N, b, nn, hi⟩, hr⟩ := h
  unfold fL_law_J1223
  obtain ⟨c, s, h1, h2, h3⟩ := c_chance (k := fun c s v => fL_law_J1479 L xs 150 k g (mc - c) (ms - s) (Int32.ofNat x) v) (k0 := fun v => k 0 v) hi (fun c s v hv hz => hg _ _ _ (zOk_co hv hz hr))
  exact ⟨zin6 1 (by omega) hx hL, zin6 2 (by omega) hx hL, c, s, by omega, by omega, h3⟩
theorem zj_1352 (hL : L ≤ 3584) (hx : x + 7 ≤ L) (hg : zHj n L xs k g x) (h : zOk n mc ms w) : fL_law_J1352 L xs 150 k g mc ms (Int32.ofNat x) w := by
  obtain ⟨⟨B, S, N, b, nn, hi⟩, hr⟩ := h
  unfold fL_law_J1352
  exact ⟨zin6 1 (by omega) hx hL, zin6 2 (by omega) hx hL, zin6 3 (by omega) hx hL, c_drafts hi (fun v hv hf => hg _ _ _ (zOk_fl hv hf hr))⟩
theorem zj_1454 (hL : L ≤ 3584) (hx : x + 7 ≤ L) (hg : zHj n L xs k g x) (h : zOk n mc ms w) : fL_law_J1454 L xs 150 k g mc ms (Int32.ofNat x) w := by
  obtain ⟨⟨B, S, N, b, nn, hi⟩, hr⟩ := h
  unfold fL_law_J1454
  exact ⟨zin6 1 (by omega) hx hL, c_count hi (fun v hv hf => hg _ _ _ (zOk_fl hv hf hr))⟩
theorem zj_1401 (hL : L ≤ 3584) (hx : x + 7 ≤ L) (hg : zHj n L xs k g x) (h : zOk n mc ms w) : fL_law_J1401 L xs 150 k g mc ms (Int32.ofNat x) w := by
  obtain ⟨⟨B, S, N, b, nn, hi⟩, hr⟩ := h
  have i1 : vp_in (Int32.ofNat x + (1 : Int32)) L := zin6 1 (by omega) hx hL
  have i2 : vp_in (Int32.ofNat x + (2 : Int32)) L := zin6 2 (by omega) hx hL
  unfold fL_law_J1401
  refine ⟨i1, i2, fun v1 e1 => ?_⟩
  unfold fL_law_J1422
  have e : (fun (r : Int32) (w1 : zW) => vp_in (Int32.ofNat x + (1 : Int32)) L ∧ vp_in (Int32.ofNat x + (2 : Int32)) L ∧ ∀ v2 : Int32, v2 = (if (xs (Int32.ofNat x + (2 : Int32)).toNatClampNeg) = 0 then (0 : Int32) else (1 : Int32)) → fL_law_J1446 L xs 150 k g mc ms (Int32.ofNat x) v2 (xs (Int32.ofNat x + (1 : Int32)).toNatClampNeg) r w1)
    = (fun (r : Int32) (w1 : zW) => fL_law_J1446 L xs 150 k g mc ms (Int32.ofNat x) v1 (xs (Int32.ofNat x + (1 : Int32)).toNatClampNeg) r w1) := by
    funext r w1
    exact propext ⟨fun q => q.2.2 v1 e1, fun q => ⟨i1, i2, fun v2 e2 => by rw [e2, ← e1]; exact q⟩⟩
  rw [e]
  unfold fL_law_J1446
  exact c_mark hi (fun _ v hv hf => hg _ _ _ (zOk_fl hv hf hr))
theorem zcmp0 (x : Int64) : lg_cmp x x = 0 := by
  unfold lg_cmp
  rw [if_neg (by simp), if_pos rfl]
theorem zInv_150 {B : zBk} {S : Nat → Int32} {N : zNt} {b nn : Nat} {w : zW} (h : zInv B S N b nn w) (x : Int64) : zInv B S N b nn (sL w 150 0 x) := by
  obtain ⟨h1, h2, h3, h4, h5, h6, h7, h8, h9, h10, h11, h12, h13⟩ := h
  have hb := h9.1
  refine ⟨h1, h2, h3, h4, h5, h6, h7, ?_, h9, h10, h11, h12, h13⟩
  refine zNames_of h8 (fun o ho => ⟨?_, ?_⟩) (fun i => ?_)
  · rw [gL_sL, if_neg (by omega)]
  · rw [gL_sL, if_neg (by omega)]
  · rw [gL_sL, if_neg (by omega)]
theorem zj_1260 (hL : L ≤ 3584) (hx : x + 7 ≤ L) (hg : zHj n L xs k g x) (h : zOk (n + 1) mc ms w) : fL_law_J1260 L xs 150 k g mc ms (Int32.ofNat x) w := by
  obtain ⟨⟨B, S, N, b, nn, hi⟩, hr1, hr2⟩ := h
  have i1 : vp_in (Int32.ofNat x + (1 : Int32)) L := zin6 1 (by omega) hx hL
  have i2 : vp_in (Int32.ofNat x + (2 : Int32)) L := zin6 2 (by omega) hx hL
  have i3 : vp_in (Int32.ofNat x + (3 : Int32)) L := zin6 3 (by omega) hx hL
  have i4 : vp_in (Int32.ofNat x + (4 : Int32)) L := zin6 4 (by omega) hx hL
  unfold fL_law_J1260
  refine ⟨i1, i2, i3, i4, by omega, by omega, ?_⟩
  unfold fL_rests
  have hok : ∀ (t : Int32) (v : zW), zInv B S N b nn v → zNA v = zNA w → zNS v = zNS w → fL_law_J1479 L xs 150 k g (mc - 1) (ms - 6) (Int32.ofNat x) (sI v 200 0 t) := fun t v hv e1 e2 => by
    have f1 : zNA (sI v 200 0 t) = zNA v := rfl
    have f2 : zNS (sI v 200 0 t) = zNS v := rfl
    exact hg _ _ _ ⟨⟨B, S, N, b, nn, zInv_t hv t⟩, by omega, by omega⟩
  refine q11_rests (fun hk => ?_) (fun hk => ?_)
  · generalize hz : zrans _ _ _ _ = o
    cases o with
    | none =>
      refine q12_rests (fun _ r hr => by rw [hz] at hr; cases hr) (fun _ _ => ?_) (fun q => absurd hk q)
      unfold fX12_thrown
      rw [gI_sI_eq]
      exact ⟨fun _ => ⟨fun _ => hok _ w hi rfl rfl, fun q => absurd q (by decide)⟩, fun q => absurd rfl q⟩
    | some r =>
      refine ⟨zl_150, fun w2 e2 => ?_⟩
      subst e2
      refine q12_rests (fun _ r2 hr => ?_) (fun _ q => by rw [hz] at q; cases q) (fun q => absurd hk q)
      rw [hz] at hr
      cases hr
      unfold fX12_thrown
      rw [gI_sI_eq]
      refine ⟨fun _ => ⟨fun q => absurd rfl q, fun _ => ⟨by rw [zl_150]; exact zi_in (n := 0) (by omega) (by omega), ?_⟩⟩, fun q => absurd rfl q⟩
      have e3 : gL (sI (sL w 150 0 r.toInt64) 200 0 0) 150 (0 : Int32).toNatClampNeg = r.toInt64 := by
        show gL (sL w 150 0 r.toInt64) 150 0 = _
        rw [gL_sL, if_pos ⟨rfl, rfl⟩]
      rw [e3, zcmp0]
      exact ⟨fun _ => hok _ _ (zInv_150 hi _) rfl rfl, fun q => absurd rfl q⟩
  · refine q12_rests (fun q => absurd q hk) (fun q => absurd q hk) (fun _ => ?_)
    unfold fX12_thrown
    rw [gI_sI_eq]
    exact ⟨fun _ => ⟨fun _ => hok _ w hi rfl rfl, fun q => absurd q (by decide)⟩, fun q => absurd rfl q⟩
end ZJ

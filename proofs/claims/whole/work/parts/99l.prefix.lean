theorem zq_0 : Cond.classLink RL 8 RX11 ∈ zG := List.mem_of_getElem? (i := 0) (by decide +kernel)
theorem zq_3 : Cond.classLink RL 16 RX12 ∈ zG := List.mem_of_getElem? (i := 3) (by decide +kernel)
theorem zq_8 : Cond.methodLink RL 15 yX11_init ∈ zG := List.mem_of_getElem? (i := 8) (by decide +kernel)
theorem zq_9 : Cond.instanceMethod yX11_init ∈ zG := List.mem_of_getElem? (i := 9) (by decide +kernel)
theorem zq_10 : Cond.code yX11_init cX11_init 2 none ∈ zG := List.mem_of_getElem? (i := 10) (by decide +kernel)
theorem zq_136 : Cond.methodLink RL 18 yX12_init ∈ zG := List.mem_of_getElem? (i := 136) (by decide +kernel)
theorem zq_137 : Cond.instanceMethod yX12_init ∈ zG := List.mem_of_getElem? (i := 137) (by decide +kernel)
theorem zq_138 : Cond.code yX12_init cX12_init 1 none ∈ zG := List.mem_of_getElem? (i := 138) (by decide +kernel)
theorem zs_150 : zsh 150 = 21 := by decide +kernel
theorem zl_150 : zln 150 = 1 := by decide +kernel
/-! The law from its entry to its loop -/
section ZP
variable {p : Program} {l : Launch} {e : Env} {R : Room} {s : State} {m : MethodId} {args : Array Value} {below : List Frame} {meth : Method} {c : Code} {H : Heap} {locs : List Loc} {cells slots : Nat} {Q : State → Prop}
variable {cc : ByteArray} {pc nL index n k ci N fr fr1 np mc ms : Nat} {ls : Array Slot} {rest st : List Value} {D : va_G} {dA : Nat → ClassId} {md : Bool} {ad ad0 : Nat → Nat} {al al0 : Nat → Prop} {w : zW} {own : String} {ret ret1 : Option FieldType}
variable {y : MethodName} {bytes : ByteArray} {maxL : Nat} {As : List Value}
theorem z_callCV {md1 : Bool} (X : zCx p s m args meth c cc nL own ret) (hr : zRm R (fr1 + 1) (cells + mc) (slots + ms)) (hR : zSt D dA md ad0 al0 ad al w s H locs) (hl : Cond.methodLink own index y ∈ zG) (hyn : y.name = "<init>") (hc : Cond.code y bytes maxL none ∈ zG) (hi : Cond.instanceMethod y ∈ zG) (hini : Cond.initialized y.cls ∈ zG) (hd : y.cls ≠ "java/lang/invoke/MethodHandle" ∧ y.cls ≠ "java/lang/invoke/VarHandle") (hnp : (parseMethodDescriptor y.desc).map (fun d => d.parameters.length) = some np) (hm : maxL ≤ 41) {b : Nat} {K : zW → Prop} (hM : zmetCV l y bytes maxL none fr1 mc ms (.ref (ad b) :: As) D dA md md1 ad al w K) (hn : As.length = np) {lv : List (Nat × Value)} (hsz : lv_has ls nL lv) (hst : (rest.map fun v => v.category).sum ≤ 8) (hdg : decode cc pc = .ok (.invokespecial index, 3)) (hstk : st = As.reverse ++ .ref (ad b) :: rest)
    (kk : ∀ (w1 : zW) (H1 : Heap) (locs1 : List Loc) (ad1 : Nat → Nat) (al1 : Nat → Prop), K w1 → zExt ad al ad1 al1 → zSt D dA md1 ad0 al0 ad1 al1 w1 s H1 locs1 → W p l e R s m args below meth c H1 locs1 (cells + mc) (slots + ms) Q (F0 m (pc + 3) ls rest)) : W p l e R s m args below meth c H locs cells slots Q (F0 m pc ls st) := by
  have hts := X.2.2.2.2.1
  have hrun := va_runI (e := e) (below := below) (meth := meth) (cells := cells) (slots := slots) (As := As) (rest := rest) (locs := locs) ⟨X.1, X.2.1, X.2.2.1, X.2.2.2.1, hts⟩ (hM H.size) (own := own) (n := np)
    ⟨zcallB X hr hc hini hd hnp hm hl, hyn, hts _ hi⟩
    (b := ad b) (H := H) ⟨zpreBlind, fun U hU hW => ⟨rfl, by rw [hU], by rw [hU]; exact hR.2.2.2.go hW hR.2.2.1.2.1 (zA_in hR.2.1 hR.2.2.1.1), by rw [hU]; exact hR.1.moved hW.alike⟩⟩ (g := F0 m pc ls st) rfl hn hsz.1 hstk (lv_room hst) hdg ⟨hr.2.2.1, hr.2.2.2⟩
  refine va_callv hrun hR.2.2.1 (fun q _ h => zA_in hR.2.1 hR.2.2.1.1 q h) (zA_in hR.2.1 hR.2.2.1.1) (fun u t H1 locs1 ht hvm hw hB hz hk hS1 => ?_)
  obtain ⟨ad1, al1, hE, h, hN⟩ := hB
  rw [ht] at h
  exact kk u H1 locs1 ad1 al1 hw hE ⟨h.moved hvm.symm, fun n hn => zA_in hR.2.1 hR.2.2.1.1 _ (hN n hn), hS1, hR.2.2.2⟩
def fL_law (L : Nat) (xs : Nat → Int32) (mc ms : Nat) (k : Int32 → zW → Prop) : Prop :=
  1 ≤ mc ∧ 14 ≤ ms ∧ ∀ w1 : zW, w1 = nW zw0 1 →
  ∃ c2 s2, c2 ≤ mc - 1 ∧ s2 ≤ ms - 14 ∧ fX11_init c2 s2 1 w1 (fun w2 =>
  ¬ gI w2 0 200 = 1 ∧ 1 ≤ mc - 1 - c2 ∧ 43 ≤ ms - 14 - s2 ∧ ∀ w3 : zW, w3 = nW w2 200 →
  ∃ c4 s4, c4 ≤ mc - 1 - c2 - 1 ∧ s4 ≤ ms - 14 - s2 - 43 ∧ fX12_init c4 s4 200 w3 (fun w4 =>
  ¬ gI w4 0 150 = 1 ∧ 1 ≤ mc - 1 - c2 - 1 - c4 ∧ 1 ≤ ms - 14 - s2 - 43 - s4 ∧ ∀ w5 : zW, w5 = nW w4 150 →
  ∃ n9, fL_law_L23 L xs 150 k n9 (mc - 1 - c2 - 1 - c4 - 1) (ms - 14 - s2 - 43 - s4 - 1) 0 w5))
set_option maxHeartbeats 4000000 in
set_option maxRecDepth 100000 in
theorem mL_law {b L : Nat} {xs : Nat → Int32} {k : Int32 → zW → Prop} (X : zCx p s m args meth c cL_law 7 RL (some .boolean)) (hr : zRm R 145 mc ms) (hQ : zRetAI p l e R s m args below meth c Q D dA true (fun _ => 0) (fun _ => False) cL_law k) (hsc : va_X b L xs s s.heap ∧ b < s.heap.size ∧ ¬ zA (fun _ => 0) (fun _ => False) s.heap.size b) (hl0 : l.stackTraces = false) (hTh : zThE (zA (fun _ => 0) (fun _ => False) s.heap.size) s s.heap) (htw : ∀ w ∈ zTw, w.before args s = true) (hR : zSt D dA false (fun _ => 0) (fun _ => False) (fun _ => 0) (fun _ => False) zw0 s s.heap []) (hl : lv_has ls 7 [(0, .ref b)]) (hf : fL_law L xs mc ms k) : W p l e R s m args below meth c s.heap [] 0 0 Q (F0 m 0 ls []) := by
  have hx := X.1
  have hb := X.2.1
  unfold fL_law at hf
  have hr : zRm R 145 (0 + mc) (0 + ms) := by rw [Nat.zero_add, Nat.zero_add]; exact hr
  have hX : zExt (fun _ => 0) (fun _ => False) (fun _ => 0) (fun _ => False) := zExt.rf
  obtain ⟨hc1, hs1, hf⟩ := hf
  refine z_newo (N := 14) X (hr.new hc1 hs1) hR (j := 1) (fun h9 => absurd h9 (by decide)) (by decide) zs_1 (by decide) (q := (RX11, TX11, 14)) rfl rfl tyX11 tyX11_ok (by decide +kernel) zq_0 zq_1 zq_2 dL_law_0 (fun ad1 al1 H hE1 hj1 hR => ?_)
  obtain ⟨w1, hw1⟩ : ∃ z : zW, z = nW zw0 1 := ⟨_, rfl⟩
  rw [← hw1] at hR
  replace hf := hf w1 hw1
  have hX := hX.tr hE1
  have hr := hr.after hc1 hs1
  refine lv_dup hx hb dL_law_3 rfl ?_
  obtain ⟨c2, s2, hc2, hs2, hf⟩ := hf
  refine z_callAIV (fr1 := 3) (mc := c2) (ms := s2) (b := 1) (As := []) (rest := [.ref (ad1 1)]) X (hr.call hc2 hs2 (by decide)) hR zq_8 rfl zq_10 zq_9 zq_2 ⟨by decide, by decide⟩ (np := 0) (by decide +kernel) (by decide) (mX11_init ⟨hj1, zs_1⟩ hf) rfl hl (Nat.le_of_ble_eq_true rfl) dL_law_4 rfl (fun w2 H locs ad2 al2 hf hE2 hR => ?_)
  have hX := hX.tr hE2
  have hr := hr.after hc2 hs2
  have h1 : al2 1 := (hE2 1 hj1).1
  rw [← (hE2 1 hj1).2]
  refine lv_astore_n (lv' := [(1, .ref (ad2 1)), (0, .ref b)]) hx hb dL_law_7 rfl hl (by decide) rfl (fun ls hl => ?_)
  obtain ⟨hg3, hc3, hs3, hf⟩ := hf
  refine z_newo (N := 43) X (hr.new hc3 hs3) hR (j := 200) (fun h9 => absurd h9 (by decide)) hg3 zs_200 (by decide) (q := (RX12, TX12, 43)) rfl rfl tyX12 tyX12_ok (by decide +kernel) zq_3 zq_4 zq_5 dL_law_8 (fun ad3 al3 H hE3 hj3 hR => ?_)
  obtain ⟨w3, hw3⟩ : ∃ z : zW, z = nW w2 200 := ⟨_, rfl⟩
  rw [← hw3] at hR
  replace hf := hf w3 hw3
  have hX := hX.tr hE3
  have hr := hr.after hc3 hs3
  rw [← (hE3 1 h1).2] at hl
  have h1 : al3 1 := (hE3 1 h1).1
  refine lv_dup hx hb dL_law_11 rfl ?_
  obtain ⟨c4, s4, hc4, hs4, hf⟩ := hf
  refine z_callCV (fr1 := 4) (mc := c4) (ms := s4) (b := 200) (As := []) (rest := [.ref (ad3 200)]) X (hr.call hc4 hs4 (by decide)) hR zq_136 rfl zq_138 zq_137 zq_5 ⟨by decide, by decide⟩ (np := 0) (by decide +kernel) (by decide) (mX12_init ⟨hj3, zs_200⟩ hf) rfl hl (Nat.le_of_ble_eq_true rfl) dL_law_12 rfl (fun w4 H locs ad4 al4 hf hE4 hR => ?_)
  have hX := hX.tr hE4
  have hr := hr.after hc4 hs4
  rw [← (hE4 1 h1).2] at hl
  rw [← (hE4 200 hj3).2]
  have h1 : al4 1 := (hE4 1 h1).1
  have h2 : al4 200 := (hE4 200 hj3).1
  refine lv_astore_n (lv' := [(2, .ref (ad4 200)), (1, .ref (ad4 1)), (0, .ref b)]) hx hb dL_law_15 rfl hl (by decide) rfl (fun ls hl => ?_)
  refine lv_iconst (v := (1 : Int32)) hx hb dL_law_16 (by decide) ?_
  obtain ⟨hg5, hc5, hs5, hf⟩ := hf
  refine z_newaL (N := 1) X (hr.new hc5 hs5) hR (j := 150) (fun _ => ⟨by decide, by decide +kernel⟩) hg5 zs_150 zl_150 (by decide) (by decide) (by decide) zq_6 dL_law_17 (fun ad5 al5 H hE5 hj5 hR => ?_)
  obtain ⟨w5, hw5⟩ : ∃ z : zW, z = nW w4 150 := ⟨_, rfl⟩
  rw [← hw5] at hR
  replace hf := hf w5 hw5
  have hX := hX.tr hE5
  have hr := hr.after hc5 hs5
  rw [← (hE5 1 h1).2, ← (hE5 200 h2).2] at hl
  refine lv_astore_n (lv' := [(3, .ref (ad5 150)), (2, .ref (ad5 200)), (1, .ref (ad5 1)), (0, .ref b)]) hx hb dL_law_19 rfl hl (by decide) rfl (fun ls hl => ?_)
  refine lv_iconst (v := (0 : Int32)) hx hb dL_law_20 (by decide) ?_
  refine lv_istore (lv' := [(4, .int (0 : Int32)), (3, .ref (ad5 150)), (2, .ref (ad5 200)), (1, .ref (ad5 1)), (0, .ref b)]) hx hb dL_law_21 hl (by decide) rfl (fun ls hl => ?_)
  obtain ⟨n9, hf⟩ := hf
  exact mL_law_L23 X hQ hsc hl0 hTh htw n9 _ _ _ _ (0 : Int32) _ _ w5 _ _ _ ⟨hj5, zs_150⟩ hf hX hr hR (lv_sub hl [4, 3, 2, 1, 0] rfl)
end ZP

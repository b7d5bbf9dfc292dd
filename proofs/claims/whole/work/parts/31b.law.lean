section ZM
variable {p : Program} {l : Launch} {e : Env} {R : Room} {s : State} {m : MethodId} {args : Array Value} {below : List Frame} {meth : Method} {c : Code} {cells slots : Nat} {Q : State → Prop} {D : va_G} {dA : Nat → ClassId} {ad ad0 : Nat → Nat} {al al0 : Nat → Prop}
variable {b L : Nat} {xs : Nat → Int32}
def fL_law_J1072 (L : Nat) (xs : Nat → Int32) (a3 : Nat) (k : Int32 → zW → Prop) (g23 : Nat → Nat → Int32 → zW → Prop) (mc ms : Nat) (x4 : Int32) (w : zW) : Prop :=
  ∃ c158 s158, c158 ≤ mc ∧ s158 ≤ ms ∧ fX11_drops c158 s158  w (fun r158 w158 =>
  fX12_drops  w158 (fun r159 w159 =>
  ((r158 = r159 →
    fL_law_J1479 L xs a3 k g23 (mc - c158) (ms - s158) x4 w159) ∧
   (¬ r158 = r159 →
    k (0 : Int32) w159))))
set_option maxHeartbeats 4000000 in
set_option maxRecDepth 100000 in
theorem mL_law_J1072 {k : Int32 → zW → Prop} {g23 : Nat → Nat → Int32 → zW → Prop} {a3 : Nat} (X : zCx p s m args meth c cL_law 7 RL (some .boolean)) (hQ : zRetAI p l e R s m args below meth c Q D dA true ad0 al0 cL_law k) (hsc : va_X b L xs s s.heap ∧ b < s.heap.size ∧ ¬ zA ad0 al0 s.heap.size b) (hl0 : l.stackTraces = false) (hTh : zThE (zA ad0 al0 s.heap.size) s s.heap) (htw : ∀ w ∈ zTw, w.before args s = true) (hg23 : ∀ (cells slots mc ms : Nat) (x4 : Int32) (ad : Nat → Nat) (al : Nat → Prop) (w : zW) (H : Heap) (locs : List Loc) (ls : Array Slot) (ha3 : al a3 ∧ zsh a3 = 21), g23 mc ms x4 w → zExt ad0 al0 ad al → zRm R 145 (cells + mc) (slots + ms) → zSt D dA true ad0 al0 ad al w s H locs → lv_has ls 7 [(0, .ref b), (1, .ref (ad 1)), (2, .ref (ad 200)), (3, .ref (ad a3)), (4, .int x4)] → W p l e R s m args below meth c H locs cells slots Q (F0 m 23 ls [])) {cells slots mc ms : Nat} {x4 : Int32} {ad : Nat → Nat} {al : Nat → Prop} {w : zW} {H : Heap} {locs : List Loc} {ls : Array Slot} (ha3 : al a3 ∧ zsh a3 = 21) (hf : fL_law_J1072 L xs a3 k g23 mc ms x4 w) (hX : zExt ad0 al0 ad al) (hr : zRm R 145 (cells + mc) (slots + ms)) (hR : zSt D dA true ad0 al0 ad al w s H locs) (hl : lv_has ls 7 [(0, .ref b), (1, .ref (ad 1)), (2, .ref (ad 200)), (3, .ref (ad a3)), (4, .int x4)]) : W p l e R s m args below meth c H locs cells slots Q (F0 m 1072 ls []) := by
  have hx := X.1
  have hb := X.2.1
  have hml := X.2.2.1
  have hown := X.2.2.2.1
  have hts := X.2.2.2.2.1
  unfold fL_law_J1072 at hf
  refine lv_aload_n hx hb dL_law_1072 rfl (lv_at hl 1 rfl) ?_
  have hw158_1 : al 1 := (zlit hR zf_1)
  have hw158_2 : al 200 := (zlit hR zf_200)
  have hw158_3 : al a3 := ha3.1
  have hv158_1 : al 1 := (zlit hR zf_1)
  obtain ⟨c158, s158, hc158, hs158, hf⟩ := hf
  refine z_callAVI (fr1 := 4) (mc := c158) (ms := s158) (b := 1) (As := []) (rest := []) X (hr.call hc158 hs158 (by decide)) hR zy_X11_drops zq_1362 (zlit hR zf_1) (by rw [zs_1]; rfl) rfl (mX11_drops  hf) rfl hl (Nat.le_of_ble_eq_true rfl) dL_law_1073 rfl (fun r158 w158 H locs ad158 al158 hf hE158 hR => ?_)
  have hX := hX.tr hE158
  have hr := hr.after hc158 hs158
  have ha3 : al158 a3 ∧ zsh a3 = 21 := ⟨(hE158 _ ha3.1).1, ha3.2⟩
  rw [← (hE158 1 hw158_1).2] at hl
  rw [← (hE158 200 hw158_2).2] at hl
  rw [← (hE158 a3 hw158_3).2] at hl
  refine lv_aload_n hx hb dL_law_1076 rfl (lv_at hl 2 rfl) ?_
  refine z_callVI (fr1 := 4) (b := 200) (As := []) (rest := [.int r158]) X (hr.none (by decide)) hR zy_X12_drops zq_1376 (zlit hR zf_200) (by rw [zs_200]; rfl) rfl (mX12_drops  hf) rfl hl (Nat.le_of_ble_eq_true rfl) dL_law_1077 rfl (fun r159 w159 H locs hf hR => ?_)
  refine lv_icmp_eq (tgt := 1479) hx hb dL_law_1080 (by decide) (fun c160 => ?_) (fun c160 => ?_)
  · replace hf := hf.1 c160
    exact mL_law_J1479 X hQ hsc hl0 hTh htw hg23 ha3 hf hX hr hR (lv_sub hl [0, 1, 2, 3, 4] rfl)
  · replace hf := hf.2 c160
    refine lv_iconst (v := (0 : Int32)) hx hb dL_law_1083 (by decide) ?_
    exact hQ _ _ _ _ _ _ _ _ _ _ hX (by have := hr.2.2.1; omega) (by have := hr.2.2.2; omega) hf hR dL_law_1084
def fL_law_J1085 (L : Nat) (xs : Nat → Int32) (a3 : Nat) (k : Int32 → zW → Prop) (g23 : Nat → Nat → Int32 → zW → Prop) (mc ms : Nat) (x4 : Int32) (w : zW) : Prop :=
  ∃ c162 s162, c162 ≤ mc ∧ s162 ≤ ms ∧ fX11_misprints c162 s162  w (fun r162 w162 =>
  fX12_misprints  w162 (fun r163 w163 =>
  ((r162 = r163 →
    fL_law_J1479 L xs a3 k g23 (mc - c162) (ms - s162) x4 w163) ∧
   (¬ r162 = r163 →
    k (0 : Int32) w163))))
set_option maxHeartbeats 4000000 in
set_option maxRecDepth 100000 in
theorem mL_law_J1085 {k : Int32 → zW → Prop} {g23 : Nat → Nat → Int32 → zW → Prop} {a3 : Nat} (X : zCx p s m args meth c cL_law 7 RL (some .boolean)) (hQ : zRetAI p l e R s m args below meth c Q D dA true ad0 al0 cL_law k) (hsc : va_X b L xs s s.heap ∧ b < s.heap.size ∧ ¬ zA ad0 al0 s.heap.size b) (hl0 : l.stackTraces = false) (hTh : zThE (zA ad0 al0 s.heap.size) s s.heap) (htw : ∀ w ∈ zTw, w.before args s = true) (hg23 : ∀ (cells slots mc ms : Nat) (x4 : Int32) (ad : Nat → Nat) (al : Nat → Prop) (w : zW) (H : Heap) (locs : List Loc) (ls : Array Slot) (ha3 : al a3 ∧ zsh a3 = 21), g23 mc ms x4 w → zExt ad0 al0 ad al → zRm R 145 (cells + mc) (slots + ms) → zSt D dA true ad0 al0 ad al w s H locs → lv_has ls 7 [(0, .ref b), (1, .ref (ad 1)), (2, .ref (ad 200)), (3, .ref (ad a3)), (4, .int x4)] → W p l e R s m args below meth c H locs cells slots Q (F0 m 23 ls [])) {cells slots mc ms : Nat} {x4 : Int32} {ad : Nat → Nat} {al : Nat → Prop} {w : zW} {H : Heap} {locs : List Loc} {ls : Array Slot} (ha3 : al a3 ∧ zsh a3 = 21) (hf : fL_law_J1085 L xs a3 k g23 mc ms x4 w) (hX : zExt ad0 al0 ad al) (hr : zRm R 145 (cells + mc) (slots + ms)) (hR : zSt D dA true ad0 al0 ad al w s H locs) (hl : lv_has ls 7 [(0, .ref b), (1, .ref (ad 1)), (2, .ref (ad 200)), (3, .ref (ad a3)), (4, .int x4)]) : W p l e R s m args below meth c H locs cells slots Q (F0 m 1085 ls []) := by
  have hx := X.1
  have hb := X.2.1
  have hml := X.2.2.1
  have hown := X.2.2.2.1
  have hts := X.2.2.2.2.1
  unfold fL_law_J1085 at hf
  refine lv_aload_n hx hb dL_law_1085 rfl (lv_at hl 1 rfl) ?_
  have hw162_1 : al 1 := (zlit hR zf_1)
  have hw162_2 : al 200 := (zlit hR zf_200)
  have hw162_3 : al a3 := ha3.1
  have hv162_1 : al 1 := (zlit hR zf_1)
  obtain ⟨c162, s162, hc162, hs162, hf⟩ := hf
  refine z_callAVI (fr1 := 6) (mc := c162) (ms := s162) (b := 1) (As := []) (rest := []) X (hr.call hc162 hs162 (by decide)) hR zy_X11_misprints zq_1380 (zlit hR zf_1) (by rw [zs_1]; rfl) rfl (mX11_misprints  hf) rfl hl (Nat.le_of_ble_eq_true rfl) dL_law_1086 rfl (fun r162 w162 H locs ad162 al162 hf hE162 hR => ?_)
  have hX := hX.tr hE162
  have hr := hr.after hc162 hs162
  have ha3 : al162 a3 ∧ zsh a3 = 21 := ⟨(hE162 _ ha3.1).1, ha3.2⟩
  rw [← (hE162 1 hw162_1).2] at hl
  rw [← (hE162 200 hw162_2).2] at hl
  rw [← (hE162 a3 hw162_3).2] at hl
  refine lv_aload_n hx hb dL_law_1089 rfl (lv_at hl 2 rfl) ?_
  refine z_callVI (fr1 := 4) (b := 200) (As := []) (rest := [.int r162]) X (hr.none (by decide)) hR zy_X12_misprints zq_1440 (zlit hR zf_200) (by rw [zs_200]; rfl) rfl (mX12_misprints  hf) rfl hl (Nat.le_of_ble_eq_true rfl) dL_law_1090 rfl (fun r163 w163 H locs hf hR => ?_)
  refine lv_icmp_eq (tgt := 1479) hx hb dL_law_1093 (by decide) (fun c164 => ?_) (fun c164 => ?_)
  · replace hf := hf.1 c164
    exact mL_law_J1479 X hQ hsc hl0 hTh htw hg23 ha3 hf hX hr hR (lv_sub hl [0, 1, 2, 3, 4] rfl)
  · replace hf := hf.2 c164
    refine lv_iconst (v := (0 : Int32)) hx hb dL_law_1096 (by decide) ?_
    exact hQ _ _ _ _ _ _ _ _ _ _ hX (by have := hr.2.2.1; omega) (by have := hr.2.2.2; omega) hf hR dL_law_1097
def fL_law_J1098 (L : Nat) (xs : Nat → Int32) (a3 : Nat) (k : Int32 → zW → Prop) (g23 : Nat → Nat → Int32 → zW → Prop) (mc ms : Nat) (x4 : Int32) (w : zW) : Prop :=
  vp_in (x4 + (1 : Int32)) L ∧ 
  ∃ c167 s167, c167 ≤ mc ∧ s167 ≤ ms ∧ fX11_misprint c167 s167 (xs (x4 + (1 : Int32)).toNatClampNeg) w (fun r167 w167 =>
  fX12_misprint (xs (x4 + (1 : Int32)).toNatClampNeg) w167 (fun r168 w168 =>
  ((r167 = r168 →
    fL_law_J1479 L xs a3 k g23 (mc - c167) (ms - s167) x4 w168) ∧
   (¬ r167 = r168 →
    k (0 : Int32) w168))))
set_option maxHeartbeats 4000000 in
set_option maxRecDepth 100000 in
theorem mL_law_J1098 {k : Int32 → zW → Prop} {g23 : Nat → Nat → Int32 → zW → Prop} {a3 : Nat} (X : zCx p s m args meth c cL_law 7 RL (some .boolean)) (hQ : zRetAI p l e R s m args below meth c Q D dA true ad0 al0 cL_law k) (hsc : va_X b L xs s s.heap ∧ b < s.heap.size ∧ ¬ zA ad0 al0 s.heap.size b) (hl0 : l.stackTraces = false) (hTh : zThE (zA ad0 al0 s.heap.size) s s.heap) (htw : ∀ w ∈ zTw, w.before args s = true) (hg23 : ∀ (cells slots mc ms : Nat) (x4 : Int32) (ad : Nat → Nat) (al : Nat → Prop) (w : zW) (H : Heap) (locs : List Loc) (ls : Array Slot) (ha3 : al a3 ∧ zsh a3 = 21), g23 mc ms x4 w → zExt ad0 al0 ad al → zRm R 145 (cells + mc) (slots + ms) → zSt D dA true ad0 al0 ad al w s H locs → lv_has ls 7 [(0, .ref b), (1, .ref (ad 1)), (2, .ref (ad 200)), (3, .ref (ad a3)), (4, .int x4)] → W p l e R s m args below meth c H locs cells slots Q (F0 m 23 ls [])) {cells slots mc ms : Nat} {x4 : Int32} {ad : Nat → Nat} {al : Nat → Prop} {w : zW} {H : Heap} {locs : List Loc} {ls : Array Slot} (ha3 : al a3 ∧ zsh a3 = 21) (hf : fL_law_J1098 L xs a3 k g23 mc ms x4 w) (hX : zExt ad0 al0 ad al) (hr : zRm R 145 (cells + mc) (slots + ms)) (hR : zSt D dA true ad0 al0 ad al w s H locs) (hl : lv_has ls 7 [(0, .ref b), (1, .ref (ad 1)), (2, .ref (ad 200)), (3, .ref (ad a3)), (4, .int x4)]) : W p l e R s m args below meth c H locs cells slots Q (F0 m 1098 ls []) := by
  have hx := X.1
  have hb := X.2.1
  have hml := X.2.2.1
  have hown := X.2.2.2.1
  have hts := X.2.2.2.2.1
  unfold fL_law_J1098 at hf
  refine lv_aload_n hx hb dL_law_1098 rfl (lv_at hl 1 rfl) ?_
  refine lv_aload_n hx hb dL_law_1099 rfl (lv_at hl 0 rfl) ?_
  refine lv_iload hx hb dL_law_1100 (lv_at hl 4 rfl) ?_
  refine lv_iconst (v := (1 : Int32)) hx hb dL_law_1102 (by decide) ?_
  refine lv_iadd hx hb dL_law_1103 ?_
  obtain ⟨hb166, hf⟩ := hf
  refine va_sld hx hb hsc.1 hsc.2.1 hsc.2.2 hR.2.2.1 hb166 dL_law_1104 ?_
  have hw167_1 : al 1 := (zlit hR zf_1)
  have hw167_2 : al 200 := (zlit hR zf_200)
  have hw167_3 : al a3 := ha3.1
  have hv167_1 : al 1 := (zlit hR zf_1)
  obtain ⟨c167, s167, hc167, hs167, hf⟩ := hf
  refine z_callAVI (fr1 := 6) (mc := c167) (ms := s167) (b := 1) (As := [.int (xs (x4 + (1 : Int32)).toNatClampNeg)]) (rest := []) X (hr.call hc167 hs167 (by decide)) hR zy_X11_misprint zq_1452 (zlit hR zf_1) (by rw [zs_1]; rfl) rfl (mX11_misprint  hf) rfl hl (Nat.le_of_ble_eq_true rfl) dL_law_1105 rfl (fun r167 w167 H locs ad167 al167 hf hE167 hR => ?_)
  have hX := hX.tr hE167
  have hr := hr.after hc167 hs167
  have ha3 : al167 a3 ∧ zsh a3 = 21 := ⟨(hE167 _ ha3.1).1, ha3.2⟩
  rw [← (hE167 1 hw167_1).2] at hl
  rw [← (hE167 200 hw167_2).2] at hl
  rw [← (hE167 a3 hw167_3).2] at hl
  refine lv_aload_n hx hb dL_law_1108 rfl (lv_at hl 2 rfl) ?_
  refine lv_aload_n hx hb dL_law_1109 rfl (lv_at hl 0 rfl) ?_
  refine lv_iload hx hb dL_law_1110 (lv_at hl 4 rfl) ?_
  refine lv_iconst (v := (1 : Int32)) hx hb dL_law_1112 (by decide) ?_
  refine lv_iadd hx hb dL_law_1113 ?_
  refine va_sld hx hb hsc.1 hsc.2.1 hsc.2.2 hR.2.2.1 hb166 dL_law_1114 ?_
  refine z_callVI (fr1 := 4) (b := 200) (As := [.int (xs (x4 + (1 : Int32)).toNatClampNeg)]) (rest := [.int r167]) X (hr.none (by decide)) hR zy_X12_misprint zq_1459 (zlit hR zf_200) (by rw [zs_200]; rfl) rfl (mX12_misprint  hf) rfl hl (Nat.le_of_ble_eq_true rfl) dL_law_1115 rfl (fun r168 w168 H locs hf hR => ?_)
  refine lv_icmp_eq (tgt := 1479) hx hb dL_law_1118 (by decide) (fun c169 => ?_) (fun c169 => ?_)
  · replace hf := hf.1 c169
    exact mL_law_J1479 X hQ hsc hl0 hTh htw hg23 ha3 hf hX hr hR (lv_sub hl [0, 1, 2, 3, 4] rfl)
  · replace hf := hf.2 c169
    refine lv_iconst (v := (0 : Int32)) hx hb dL_law_1121 (by decide) ?_
    exact hQ _ _ _ _ _ _ _ _ _ _ hX (by have := hr.2.2.1; omega) (by have := hr.2.2.2; omega) hf hR dL_law_1122
def fL_law_J1123 (L : Nat) (xs : Nat → Int32) (a3 : Nat) (k : Int32 → zW → Prop) (g23 : Nat → Nat → Int32 → zW → Prop) (mc ms : Nat) (x4 : Int32) (w : zW) : Prop :=
  vp_in (x4 + (1 : Int32)) L ∧ 
  fX11_turned (xs (x4 + (1 : Int32)).toNatClampNeg) w (fun r172 w172 =>
  fX12_turned (xs (x4 + (1 : Int32)).toNatClampNeg) w172 (fun r173 w173 =>
  ((r172 = r173 →
    fL_law_J1479 L xs a3 k g23 mc ms x4 w173) ∧
   (¬ r172 = r173 →
    k (0 : Int32) w173))))
set_option maxHeartbeats 4000000 in
set_option maxRecDepth 100000 in
theorem mL_law_J1123 {k : Int32 → zW → Prop} {g23 : Nat → Nat → Int32 → zW → Prop} {a3 : Nat} (X : zCx p s m args meth c cL_law 7 RL (some .boolean)) (hQ : zRetAI p l e R s m args below meth c Q D dA true ad0 al0 cL_law k) (hsc : va_X b L xs s s.heap ∧ b < s.heap.size ∧ ¬ zA ad0 al0 s.heap.size b) (hl0 : l.stackTraces = false) (hTh : zThE (zA ad0 al0 s.heap.size) s s.heap) (htw : ∀ w ∈ zTw, w.before args s = true) (hg23 : ∀ (cells slots mc ms : Nat) (x4 : Int32) (ad : Nat → Nat) (al : Nat → Prop) (w : zW) (H : Heap) (locs : List Loc) (ls : Array Slot) (ha3 : al a3 ∧ zsh a3 = 21), g23 mc ms x4 w → zExt ad0 al0 ad al → zRm R 145 (cells + mc) (slots + ms) → zSt D dA true ad0 al0 ad al w s H locs → lv_has ls 7 [(0, .ref b), (1, .ref (ad 1)), (2, .ref (ad 200)), (3, .ref (ad a3)), (4, .int x4)] → W p l e R s m args below meth c H locs cells slots Q (F0 m 23 ls [])) {cells slots mc ms : Nat} {x4 : Int32} {ad : Nat → Nat} {al : Nat → Prop} {w : zW} {H : Heap} {locs : List Loc} {ls : Array Slot} (ha3 : al a3 ∧ zsh a3 = 21) (hf : fL_law_J1123 L xs a3 k g23 mc ms x4 w) (hX : zExt ad0 al0 ad al) (hr : zRm R 145 (cells + mc) (slots + ms)) (hR : zSt D dA true ad0 al0 ad al w s H locs) (hl : lv_has ls 7 [(0, .ref b), (1, .ref (ad 1)), (2, .ref (ad 200)), (3, .ref (ad a3)), (4, .int x4)]) : W p l e R s m args below meth c H locs cells slots Q (F0 m 1123 ls []) := by
  have hx := X.1
  have hb := X.2.1
  have hml := X.2.2.1
  have hown := X.2.2.2.1
  have hts := X.2.2.2.2.1
  unfold fL_law_J1123 at hf
  refine lv_aload_n hx hb dL_law_1123 rfl (lv_at hl 1 rfl) ?_
  refine lv_aload_n hx hb dL_law_1124 rfl (lv_at hl 0 rfl) ?_
  refine lv_iload hx hb dL_law_1125 (lv_at hl 4 rfl) ?_
  refine lv_iconst (v := (1 : Int32)) hx hb dL_law_1127 (by decide) ?_
  refine lv_iadd hx hb dL_law_1128 ?_
  obtain ⟨hb171, hf⟩ := hf
  refine va_sld hx hb hsc.1 hsc.2.1 hsc.2.2 hR.2.2.1 hb171 dL_law_1129 ?_
  refine z_callVI (fr1 := 2) (b := 1) (As := [.int (xs (x4 + (1 : Int32)).toNatClampNeg)]) (rest := []) X (hr.none (by decide)) hR zy_X11_turned zq_1463 (zlit hR zf_1) (by rw [zs_1]; rfl) rfl (mX11_turned  hf) rfl hl (Nat.le_of_ble_eq_true rfl) dL_law_1130 rfl (fun r172 w172 H locs hf hR => ?_)
  refine lv_aload_n hx hb dL_law_1133 rfl (lv_at hl 2 rfl) ?_
  refine lv_aload_n hx hb dL_law_1134 rfl (lv_at hl 0 rfl) ?_
  refine lv_iload hx hb dL_law_1135 (lv_at hl 4 rfl) ?_
  refine lv_iconst (v := (1 : Int32)) hx hb dL_law_1137 (by decide) ?_
  refine lv_iadd hx hb dL_law_1138 ?_
  refine va_sld hx hb hsc.1 hsc.2.1 hsc.2.2 hR.2.2.1 hb171 dL_law_1139 ?_
  refine z_callVI (fr1 := 2) (b := 200) (As := [.int (xs (x4 + (1 : Int32)).toNatClampNeg)]) (rest := [.int r172]) X (hr.none (by decide)) hR zy_X12_turned zq_1471 (zlit hR zf_200) (by rw [zs_200]; rfl) rfl (mX12_turned  hf) rfl hl (Nat.le_of_ble_eq_true rfl) dL_law_1140 rfl (fun r173 w173 H locs hf hR => ?_)
  refine lv_icmp_eq (tgt := 1479) hx hb dL_law_1143 (by decide) (fun c174 => ?_) (fun c174 => ?_)
  · replace hf := hf.1 c174
    exact mL_law_J1479 X hQ hsc hl0 hTh htw hg23 ha3 hf hX hr hR (lv_sub hl [0, 1, 2, 3, 4] rfl)
  · replace hf := hf.2 c174
    refine lv_iconst (v := (0 : Int32)) hx hb dL_law_1146 (by decide) ?_
    exact hQ _ _ _ _ _ _ _ _ _ _ hX (by have := hr.2.2.1; omega) (by have := hr.2.2.2; omega) hf hR dL_law_1147
def fL_law_J1148 (L : Nat) (xs : Nat → Int32) (a3 : Nat) (k : Int32 → zW → Prop) (g23 : Nat → Nat → Int32 → zW → Prop) (mc ms : Nat) (x4 : Int32) (w : zW) : Prop :=
  vp_in (x4 + (1 : Int32)) L ∧ 
  vp_in (x4 + (2 : Int32)) L ∧ 
  fX11_alike (xs (x4 + (1 : Int32)).toNatClampNeg) (xs (x4 + (2 : Int32)).toNatClampNeg) w (fun r178 w178 =>
  fX12_alike (xs (x4 + (1 : Int32)).toNatClampNeg) (xs (x4 + (2 : Int32)).toNatClampNeg) w178 (fun r179 w179 =>
  ((r178 = r179 →
    fL_law_J1479 L xs a3 k g23 mc ms x4 w179) ∧
   (¬ r178 = r179 →
    k (0 : Int32) w179))))
set_option maxHeartbeats 4000000 in
set_option maxRecDepth 100000 in
theorem mL_law_J1148 {k : Int32 → zW → Prop} {g23 : Nat → Nat → Int32 → zW → Prop} {a3 : Nat} (X : zCx p s m args meth c cL_law 7 RL (some .boolean)) (hQ : zRetAI p l e R s m args below meth c Q D dA true ad0 al0 cL_law k) (hsc : va_X b L xs s s.heap ∧ b < s.heap.size ∧ ¬ zA ad0 al0 s.heap.size b) (hl0 : l.stackTraces = false) (hTh : zThE (zA ad0 al0 s.heap.size) s s.heap) (htw : ∀ w ∈ zTw, w.before args s = true) (hg23 : ∀ (cells slots mc ms : Nat) (x4 : Int32) (ad : Nat → Nat) (al : Nat → Prop) (w : zW) (H : Heap) (locs : List Loc) (ls : Array Slot) (ha3 : al a3 ∧ zsh a3 = 21), g23 mc ms x4 w → zExt ad0 al0 ad al → zRm R 145 (cells + mc) (slots + ms) → zSt D dA true ad0 al0 ad al w s H locs → lv_has ls 7 [(0, .ref b), (1, .ref (ad 1)), (2, .ref (ad 200)), (3, .ref (ad a3)), (4, .int x4)] → W p l e R s m args below meth c H locs cells slots Q (F0 m 23 ls [])) {cells slots mc ms : Nat} {x4 : Int32} {ad : Nat → Nat} {al : Nat → Prop} {w : zW} {H : Heap} {locs : List Loc} {ls : Array Slot} (ha3 : al a3 ∧ zsh a3 = 21) (hf : fL_law_J1148 L xs a3 k g23 mc ms x4 w) (hX : zExt ad0 al0 ad al) (hr : zRm R 145 (cells + mc) (slots + ms)) (hR : zSt D dA true ad0 al0 ad al w s H locs) (hl : lv_has ls 7 [(0, .ref b), (1, .ref (ad 1)), (2, .ref (ad 200)), (3, .ref (ad a3)), (4, .int x4)]) : W p l e R s m args below meth c H locs cells slots Q (F0 m 1148 ls []) := by
  have hx := X.1
  have hb := X.2.1
  have hml := X.2.2.1
  have hown := X.2.2.2.1
  have hts := X.2.2.2.2.1
  unfold fL_law_J1148 at hf
  refine lv_aload_n hx hb dL_law_1148 rfl (lv_at hl 1 rfl) ?_
  refine lv_aload_n hx hb dL_law_1149 rfl (lv_at hl 0 rfl) ?_
  refine lv_iload hx hb dL_law_1150 (lv_at hl 4 rfl) ?_
  refine lv_iconst (v := (1 : Int32)) hx hb dL_law_1152 (by decide) ?_
  refine lv_iadd hx hb dL_law_1153 ?_
  obtain ⟨hb176, hf⟩ := hf
  refine va_sld hx hb hsc.1 hsc.2.1 hsc.2.2 hR.2.2.1 hb176 dL_law_1154 ?_
  refine lv_aload_n hx hb dL_law_1155 rfl (lv_at hl 0 rfl) ?_
  refine lv_iload hx hb dL_law_1156 (lv_at hl 4 rfl) ?_
  refine lv_iconst (v := (2 : Int32)) hx hb dL_law_1158 (by decide) ?_
  refine lv_iadd hx hb dL_law_1159 ?_
  obtain ⟨hb177, hf⟩ := hf
  refine va_sld hx hb hsc.1 hsc.2.1 hsc.2.2 hR.2.2.1 hb177 dL_law_1160 ?_
  refine z_callVI (fr1 := 2) (b := 1) (As := [.int (xs (x4 + (1 : Int32)).toNatClampNeg), .int (xs (x4 + (2 : Int32)).toNatClampNeg)]) (rest := []) X (hr.none (by decide)) hR zy_X11_alike zq_1475 (zlit hR zf_1) (by rw [zs_1]; rfl) rfl (mX11_alike  hf) rfl hl (Nat.le_of_ble_eq_true rfl) dL_law_1161 rfl (fun r178 w178 H locs hf hR => ?_)
  refine lv_aload_n hx hb dL_law_1164 rfl (lv_at hl 2 rfl) ?_
  refine lv_aload_n hx hb dL_law_1165 rfl (lv_at hl 0 rfl) ?_
  refine lv_iload hx hb dL_law_1166 (lv_at hl 4 rfl) ?_
  refine lv_iconst (v := (1 : Int32)) hx hb dL_law_1168 (by decide) ?_
  refine lv_iadd hx hb dL_law_1169 ?_
  refine va_sld hx hb hsc.1 hsc.2.1 hsc.2.2 hR.2.2.1 hb176 dL_law_1170 ?_
  refine lv_aload_n hx hb dL_law_1171 rfl (lv_at hl 0 rfl) ?_
  refine lv_iload hx hb dL_law_1172 (lv_at hl 4 rfl) ?_
  refine lv_iconst (v := (2 : Int32)) hx hb dL_law_1174 (by decide) ?_
  refine lv_iadd hx hb dL_law_1175 ?_
  refine va_sld hx hb hsc.1 hsc.2.1 hsc.2.2 hR.2.2.1 hb177 dL_law_1176 ?_
  refine z_callVI (fr1 := 2) (b := 200) (As := [.int (xs (x4 + (1 : Int32)).toNatClampNeg), .int (xs (x4 + (2 : Int32)).toNatClampNeg)]) (rest := [.int r178]) X (hr.none (by decide)) hR zy_X12_alike zq_1483 (zlit hR zf_200) (by rw [zs_200]; rfl) rfl (mX12_alike  hf) rfl hl (Nat.le_of_ble_eq_true rfl) dL_law_1177 rfl (fun r179 w179 H locs hf hR => ?_)
  refine lv_icmp_eq (tgt := 1479) hx hb dL_law_1180 (by decide) (fun c180 => ?_) (fun c180 => ?_)
  · replace hf := hf.1 c180
    exact mL_law_J1479 X hQ hsc hl0 hTh htw hg23 ha3 hf hX hr hR (lv_sub hl [0, 1, 2, 3, 4] rfl)
  · replace hf := hf.2 c180
    refine lv_iconst (v := (0 : Int32)) hx hb dL_law_1183 (by decide) ?_
    exact hQ _ _ _ _ _ _ _ _ _ _ hX (by have := hr.2.2.1; omega) (by have := hr.2.2.2; omega) hf hR dL_law_1184
def fL_law_J1185 (L : Nat) (xs : Nat → Int32) (a3 : Nat) (k : Int32 → zW → Prop) (g23 : Nat → Nat → Int32 → zW → Prop) (mc ms : Nat) (x4 : Int32) (w : zW) : Prop :=
  ∃ c182 s182, c182 ≤ mc ∧ s182 ≤ ms ∧ fX11_spare c182 s182  w (fun r182 w182 =>
  fX12_spare  w182 (fun r183 w183 =>
  ((r182 = r183 →
    fL_law_J1479 L xs a3 k g23 (mc - c182) (ms - s182) x4 w183) ∧
   (¬ r182 = r183 →
    k (0 : Int32) w183))))
set_option maxHeartbeats 4000000 in
set_option maxRecDepth 100000 in
theorem mL_law_J1185 {k : Int32 → zW → Prop} {g23 : Nat → Nat → Int32 → zW → Prop} {a3 : Nat} (X : zCx p s m args meth c cL_law 7 RL (some .boolean)) (hQ : zRetAI p l e R s m args below meth c Q D dA true ad0 al0 cL_law k) (hsc : va_X b L xs s s.heap ∧ b < s.heap.size ∧ ¬ zA ad0 al0 s.heap.size b) (hl0 : l.stackTraces = false) (hTh : zThE (zA ad0 al0 s.heap.size) s s.heap) (htw : ∀ w ∈ zTw, w.before args s = true) (hg23 : ∀ (cells slots mc ms : Nat) (x4 : Int32) (ad : Nat → Nat) (al : Nat → Prop) (w : zW) (H : Heap) (locs : List Loc) (ls : Array Slot) (ha3 : al a3 ∧ zsh a3 = 21), g23 mc ms x4 w → zExt ad0 al0 ad al → zRm R 145 (cells + mc) (slots + ms) → zSt D dA true ad0 al0 ad al w s H locs → lv_has ls 7 [(0, .ref b), (1, .ref (ad 1)), (2, .ref (ad 200)), (3, .ref (ad a3)), (4, .int x4)] → W p l e R s m args below meth c H locs cells slots Q (F0 m 23 ls [])) {cells slots mc ms : Nat} {x4 : Int32} {ad : Nat → Nat} {al : Nat → Prop} {w : zW} {H : Heap} {locs : List Loc} {ls : Array Slot} (ha3 : al a3 ∧ zsh a3 = 21) (hf : fL_law_J1185 L xs a3 k g23 mc ms x4 w) (hX : zExt ad0 al0 ad al) (hr : zRm R 145 (cells + mc) (slots + ms)) (hR : zSt D dA true ad0 al0 ad al w s H locs) (hl : lv_has ls 7 [(0, .ref b), (1, .ref (ad 1)), (2, .ref (ad 200)), (3, .ref (ad a3)), (4, .int x4)]) : W p l e R s m args below meth c H locs cells slots Q (F0 m 1185 ls []) := by
  have hx := X.1
  have hb := X.2.1
  have hml := X.2.2.1
  have hown := X.2.2.2.1
  have hts := X.2.2.2.2.1
  unfold fL_law_J1185 at hf
  refine lv_aload_n hx hb dL_law_1185 rfl (lv_at hl 1 rfl) ?_
  have hw182_1 : al 1 := (zlit hR zf_1)
  have hw182_2 : al 200 := (zlit hR zf_200)
  have hw182_3 : al a3 := ha3.1
  have hv182_1 : al 1 := (zlit hR zf_1)
  obtain ⟨c182, s182, hc182, hs182, hf⟩ := hf
  refine z_callAVI (fr1 := 4) (mc := c182) (ms := s182) (b := 1) (As := []) (rest := []) X (hr.call hc182 hs182 (by decide)) hR zy_X11_spare zq_1487 (zlit hR zf_1) (by rw [zs_1]; rfl) rfl (mX11_spare  hf) rfl hl (Nat.le_of_ble_eq_true rfl) dL_law_1186 rfl (fun r182 w182 H locs ad182 al182 hf hE182 hR => ?_)
  have hX := hX.tr hE182
  have hr := hr.after hc182 hs182
  have ha3 : al182 a3 ∧ zsh a3 = 21 := ⟨(hE182 _ ha3.1).1, ha3.2⟩
  rw [← (hE182 1 hw182_1).2] at hl
  rw [← (hE182 200 hw182_2).2] at hl
  rw [← (hE182 a3 hw182_3).2] at hl
  refine lv_aload_n hx hb dL_law_1189 rfl (lv_at hl 2 rfl) ?_
  refine z_callVI (fr1 := 4) (b := 200) (As := []) (rest := [.int r182]) X (hr.none (by decide)) hR zy_X12_spare zq_1500 (zlit hR zf_200) (by rw [zs_200]; rfl) rfl (mX12_spare  hf) rfl hl (Nat.le_of_ble_eq_true rfl) dL_law_1190 rfl (fun r183 w183 H locs hf hR => ?_)
  refine lv_icmp_eq (tgt := 1479) hx hb dL_law_1193 (by decide) (fun c184 => ?_) (fun c184 => ?_)
  · replace hf := hf.1 c184
    exact mL_law_J1479 X hQ hsc hl0 hTh htw hg23 ha3 hf hX hr hR (lv_sub hl [0, 1, 2, 3, 4] rfl)
  · replace hf := hf.2 c184
    refine lv_iconst (v := (0 : Int32)) hx hb dL_law_1196 (by decide) ?_
    exact hQ _ _ _ _ _ _ _ _ _ _ hX (by have := hr.2.2.1; omega) (by have := hr.2.2.2; omega) hf hR dL_law_1197
def fL_law_J1198 (L : Nat) (xs : Nat → Int32) (a3 : Nat) (k : Int32 → zW → Prop) (g23 : Nat → Nat → Int32 → zW → Prop) (mc ms : Nat) (x4 : Int32) (w : zW) : Prop :=
  vp_in (x4 + (1 : Int32)) L ∧ 
  ∃ c187 s187, c187 ≤ mc ∧ s187 ≤ ms ∧ fX11_strict c187 s187 (xs (x4 + (1 : Int32)).toNatClampNeg) w (fun r187 w187 =>
  fX12_strict (xs (x4 + (1 : Int32)).toNatClampNeg) w187 (fun r188 w188 =>
  ((r187 = r188 →
    fL_law_J1479 L xs a3 k g23 (mc - c187) (ms - s187) x4 w188) ∧
   (¬ r187 = r188 →
    k (0 : Int32) w188))))
set_option maxHeartbeats 4000000 in
set_option maxRecDepth 100000 in
theorem mL_law_J1198 {k : Int32 → zW → Prop} {g23 : Nat → Nat → Int32 → zW → Prop} {a3 : Nat} (X : zCx p s m args meth c cL_law 7 RL (some .boolean)) (hQ : zRetAI p l e R s m args below meth c Q D dA true ad0 al0 cL_law k) (hsc : va_X b L xs s s.heap ∧ b < s.heap.size ∧ ¬ zA ad0 al0 s.heap.size b) (hl0 : l.stackTraces = false) (hTh : zThE (zA ad0 al0 s.heap.size) s s.heap) (htw : ∀ w ∈ zTw, w.before args s = true) (hg23 : ∀ (cells slots mc ms : Nat) (x4 : Int32) (ad : Nat → Nat) (al : Nat → Prop) (w : zW) (H : Heap) (locs : List Loc) (ls : Array Slot) (ha3 : al a3 ∧ zsh a3 = 21), g23 mc ms x4 w → zExt ad0 al0 ad al → zRm R 145 (cells + mc) (slots + ms) → zSt D dA true ad0 al0 ad al w s H locs → lv_has ls 7 [(0, .ref b), (1, .ref (ad 1)), (2, .ref (ad 200)), (3, .ref (ad a3)), (4, .int x4)] → W p l e R s m args below meth c H locs cells slots Q (F0 m 23 ls [])) {cells slots mc ms : Nat} {x4 : Int32} {ad : Nat → Nat} {al : Nat → Prop} {w : zW} {H : Heap} {locs : List Loc} {ls : Array Slot} (ha3 : al a3 ∧ zsh a3 = 21) (hf : fL_law_J1198 L xs a3 k g23 mc ms x4 w) (hX : zExt ad0 al0 ad al) (hr : zRm R 145 (cells + mc) (slots + ms)) (hR : zSt D dA true ad0 al0 ad al w s H locs) (hl : lv_has ls 7 [(0, .ref b), (1, .ref (ad 1)), (2, .ref (ad 200)), (3, .ref (ad a3)), (4, .int x4)]) : W p l e R s m args below meth c H locs cells slots Q (F0 m 1198 ls []) := by
  have hx := X.1
  have hb := X.2.1
  have hml := X.2.2.1
  have hown := X.2.2.2.1
  have hts := X.2.2.2.2.1
  unfold fL_law_J1198 at hf
  refine lv_aload_n hx hb dL_law_1198 rfl (lv_at hl 1 rfl) ?_
  refine lv_aload_n hx hb dL_law_1199 rfl (lv_at hl 0 rfl) ?_
  refine lv_iload hx hb dL_law_1200 (lv_at hl 4 rfl) ?_
  refine lv_iconst (v := (1 : Int32)) hx hb dL_law_1202 (by decide) ?_
  refine lv_iadd hx hb dL_law_1203 ?_
  obtain ⟨hb186, hf⟩ := hf
  refine va_sld hx hb hsc.1 hsc.2.1 hsc.2.2 hR.2.2.1 hb186 dL_law_1204 ?_
  have hw187_1 : al 1 := (zlit hR zf_1)
  have hw187_2 : al 200 := (zlit hR zf_200)
  have hw187_3 : al a3 := ha3.1
  have hv187_1 : al 1 := (zlit hR zf_1)
  obtain ⟨c187, s187, hc187, hs187, hf⟩ := hf
  refine z_callAVI (fr1 := 4) (mc := c187) (ms := s187) (b := 1) (As := [.int (xs (x4 + (1 : Int32)).toNatClampNeg)]) (rest := []) X (hr.call hc187 hs187 (by decide)) hR zy_X11_strict zq_1504 (zlit hR zf_1) (by rw [zs_1]; rfl) rfl (mX11_strict  hf) rfl hl (Nat.le_of_ble_eq_true rfl) dL_law_1205 rfl (fun r187 w187 H locs ad187 al187 hf hE187 hR => ?_)
  have hX := hX.tr hE187
  have hr := hr.after hc187 hs187
  have ha3 : al187 a3 ∧ zsh a3 = 21 := ⟨(hE187 _ ha3.1).1, ha3.2⟩
  rw [← (hE187 1 hw187_1).2] at hl
  rw [← (hE187 200 hw187_2).2] at hl
  rw [← (hE187 a3 hw187_3).2] at hl
  refine lv_aload_n hx hb dL_law_1208 rfl (lv_at hl 2 rfl) ?_
  refine lv_aload_n hx hb dL_law_1209 rfl (lv_at hl 0 rfl) ?_
  refine lv_iload hx hb dL_law_1210 (lv_at hl 4 rfl) ?_
  refine lv_iconst (v := (1 : Int32)) hx hb dL_law_1212 (by decide) ?_
  refine lv_iadd hx hb dL_law_1213 ?_
  refine va_sld hx hb hsc.1 hsc.2.1 hsc.2.2 hR.2.2.1 hb186 dL_law_1214 ?_
  refine z_callVI (fr1 := 4) (b := 200) (As := [.int (xs (x4 + (1 : Int32)).toNatClampNeg)]) (rest := [.int r187]) X (hr.none (by decide)) hR zy_X12_strict zq_1513 (zlit hR zf_200) (by rw [zs_200]; rfl) rfl (mX12_strict  hf) rfl hl (Nat.le_of_ble_eq_true rfl) dL_law_1215 rfl (fun r188 w188 H locs hf hR => ?_)
  refine lv_icmp_eq (tgt := 1479) hx hb dL_law_1218 (by decide) (fun c189 => ?_) (fun c189 => ?_)
  · replace hf := hf.1 c189
    exact mL_law_J1479 X hQ hsc hl0 hTh htw hg23 ha3 hf hX hr hR (lv_sub hl [0, 1, 2, 3, 4] rfl)
  · replace hf := hf.2 c189
    refine lv_iconst (v := (0 : Int32)) hx hb dL_law_1221 (by decide) ?_
    exact hQ _ _ _ _ _ _ _ _ _ _ hX (by have := hr.2.2.1; omega) (by have := hr.2.2.2; omega) hf hR dL_law_1222
def fL_law_J1223 (L : Nat) (xs : Nat → Int32) (a3 : Nat) (k : Int32 → zW → Prop) (g23 : Nat → Nat → Int32 → zW → Prop) (mc ms : Nat) (x4 : Int32) (w : zW) : Prop :=
  vp_in (x4 + (1 : Int32)) L ∧ 
  vp_in (x4 + (2 : Int32)) L ∧ 
  ∃ c193 s193, c193 ≤ mc ∧ s193 ≤ ms ∧ fX11_chance c193 s193 (xs (x4 + (1 : Int32)).toNatClampNeg) (xs (x4 + (2 : Int32)).toNatClampNeg) w (fun r193 w193 =>
  fX12_chance (xs (x4 + (1 : Int32)).toNatClampNeg) (xs (x4 + (2 : Int32)).toNatClampNeg) w193 (fun r194 w194 =>
  ((r193 = r194 →
    fL_law_J1479 L xs a3 k g23 (mc - c193) (ms - s193) x4 w194) ∧
   (¬ r193 = r194 →
    k (0 : Int32) w194))))
set_option maxHeartbeats 4000000 in
set_option maxRecDepth 100000 in
theorem mL_law_J1223 {k : Int32 → zW → Prop} {g23 : Nat → Nat → Int32 → zW → Prop} {a3 : Nat} (X : zCx p s m args meth c cL_law 7 RL (some .boolean)) (hQ : zRetAI p l e R s m args below meth c Q D dA true ad0 al0 cL_law k) (hsc : va_X b L xs s s.heap ∧ b < s.heap.size ∧ ¬ zA ad0 al0 s.heap.size b) (hl0 : l.stackTraces = false) (hTh : zThE (zA ad0 al0 s.heap.size) s s.heap) (htw : ∀ w ∈ zTw, w.before args s = true) (hg23 : ∀ (cells slots mc ms : Nat) (x4 : Int32) (ad : Nat → Nat) (al : Nat → Prop) (w : zW) (H : Heap) (locs : List Loc) (ls : Array Slot) (ha3 : al a3 ∧ zsh a3 = 21), g23 mc ms x4 w → zExt ad0 al0 ad al → zRm R 145 (cells + mc) (slots + ms) → zSt D dA true ad0 al0 ad al w s H locs → lv_has ls 7 [(0, .ref b), (1, .ref (ad 1)), (2, .ref (ad 200)), (3, .ref (ad a3)), (4, .int x4)] → W p l e R s m args below meth c H locs cells slots Q (F0 m 23 ls [])) {cells slots mc ms : Nat} {x4 : Int32} {ad : Nat → Nat} {al : Nat → Prop} {w : zW} {H : Heap} {locs : List Loc} {ls : Array Slot} (ha3 : al a3 ∧ zsh a3 = 21) (hf : fL_law_J1223 L xs a3 k g23 mc ms x4 w) (hX : zExt ad0 al0 ad al) (hr : zRm R 145 (cells + mc) (slots + ms)) (hR : zSt D dA true ad0 al0 ad al w s H locs) (hl : lv_has ls 7 [(0, .ref b), (1, .ref (ad 1)), (2, .ref (ad 200)), (3, .ref (ad a3)), (4, .int x4)]) : W p l e R s m args below meth c H locs cells slots Q (F0 m 1223 ls []) := by
  have hx := X.1
  have hb := X.2.1
  have hml := X.2.2.1
  have hown := X.2.2.2.1
  have hts := X.2.2.2.2.1
  unfold fL_law_J1223 at hf
  refine lv_aload_n hx hb dL_law_1223 rfl (lv_at hl 1 rfl) ?_
  refine lv_aload_n hx hb dL_law_1224 rfl (lv_at hl 0 rfl) ?_
  refine lv_iload hx hb dL_law_1225 (lv_at hl 4 rfl) ?_
  refine lv_iconst (v := (1 : Int32)) hx hb dL_law_1227 (by decide) ?_
  refine lv_iadd hx hb dL_law_1228 ?_
  obtain ⟨hb191, hf⟩ := hf
  refine va_sld hx hb hsc.1 hsc.2.1 hsc.2.2 hR.2.2.1 hb191 dL_law_1229 ?_
  refine lv_aload_n hx hb dL_law_1230 rfl (lv_at hl 0 rfl) ?_
  refine lv_iload hx hb dL_law_1231 (lv_at hl 4 rfl) ?_
  refine lv_iconst (v := (2 : Int32)) hx hb dL_law_1233 (by decide) ?_
  refine lv_iadd hx hb dL_law_1234 ?_
  obtain ⟨hb192, hf⟩ := hf
  refine va_sld hx hb hsc.1 hsc.2.1 hsc.2.2 hR.2.2.1 hb192 dL_law_1235 ?_
  have hw193_1 : al 1 := (zlit hR zf_1)
  have hw193_2 : al 200 := (zlit hR zf_200)
  have hw193_3 : al a3 := ha3.1
  have hv193_1 : al 1 := (zlit hR zf_1)
  obtain ⟨c193, s193, hc193, hs193, hf⟩ := hf
  refine z_callAVI (fr1 := 6) (mc := c193) (ms := s193) (b := 1) (As := [.int (xs (x4 + (1 : Int32)).toNatClampNeg), .int (xs (x4 + (2 : Int32)).toNatClampNeg)]) (rest := []) X (hr.call hc193 hs193 (by decide)) hR zy_X11_chance zq_1517 (zlit hR zf_1) (by rw [zs_1]; rfl) rfl (mX11_chance  hf) rfl hl (Nat.le_of_ble_eq_true rfl) dL_law_1236 rfl (fun r193 w193 H locs ad193 al193 hf hE193 hR => ?_)
  have hX := hX.tr hE193
  have hr := hr.after hc193 hs193
  have ha3 : al193 a3 ∧ zsh a3 = 21 := ⟨(hE193 _ ha3.1).1, ha3.2⟩
  rw [← (hE193 1 hw193_1).2] at hl
  rw [← (hE193 200 hw193_2).2] at hl
  rw [← (hE193 a3 hw193_3).2] at hl
  refine lv_aload_n hx hb dL_law_1239 rfl (lv_at hl 2 rfl) ?_
  refine lv_aload_n hx hb dL_law_1240 rfl (lv_at hl 0 rfl) ?_
  refine lv_iload hx hb dL_law_1241 (lv_at hl 4 rfl) ?_
  refine lv_iconst (v := (1 : Int32)) hx hb dL_law_1243 (by decide) ?_
  refine lv_iadd hx hb dL_law_1244 ?_
  refine va_sld hx hb hsc.1 hsc.2.1 hsc.2.2 hR.2.2.1 hb191 dL_law_1245 ?_
  refine lv_aload_n hx hb dL_law_1246 rfl (lv_at hl 0 rfl) ?_
  refine lv_iload hx hb dL_law_1247 (lv_at hl 4 rfl) ?_
  refine lv_iconst (v := (2 : Int32)) hx hb dL_law_1249 (by decide) ?_
  refine lv_iadd hx hb dL_law_1250 ?_
  refine va_sld hx hb hsc.1 hsc.2.1 hsc.2.2 hR.2.2.1 hb192 dL_law_1251 ?_
  refine z_callVI (fr1 := 4) (b := 200) (As := [.int (xs (x4 + (1 : Int32)).toNatClampNeg), .int (xs (x4 + (2 : Int32)).toNatClampNeg)]) (rest := [.int r193]) X (hr.none (by decide)) hR zy_X12_chance zq_1526 (zlit hR zf_200) (by rw [zs_200]; rfl) rfl (mX12_chance  hf) rfl hl (Nat.le_of_ble_eq_true rfl) dL_law_1252 rfl (fun r194 w194 H locs hf hR => ?_)
  refine lv_icmp_eq (tgt := 1479) hx hb dL_law_1255 (by decide) (fun c195 => ?_) (fun c195 => ?_)
  · replace hf := hf.1 c195
    exact mL_law_J1479 X hQ hsc hl0 hTh htw hg23 ha3 hf hX hr hR (lv_sub hl [0, 1, 2, 3, 4] rfl)
  · replace hf := hf.2 c195
    refine lv_iconst (v := (0 : Int32)) hx hb dL_law_1258 (by decide) ?_
    exact hQ _ _ _ _ _ _ _ _ _ _ hX (by have := hr.2.2.1; omega) (by have := hr.2.2.2; omega) hf hR dL_law_1259
def fL_law_J1260 (L : Nat) (xs : Nat → Int32) (a3 : Nat) (k : Int32 → zW → Prop) (g23 : Nat → Nat → Int32 → zW → Prop) (mc ms : Nat) (x4 : Int32) (w : zW) : Prop :=
  vp_in (x4 + (1 : Int32)) L ∧ 
  vp_in (x4 + (2 : Int32)) L ∧ 
  vp_in (x4 + (3 : Int32)) L ∧ 
  vp_in (x4 + (4 : Int32)) L ∧ 
  1 ≤ mc ∧ 6 ≤ ms ∧ fL_rests a3 (xs (x4 + (1 : Int32)).toNatClampNeg) (xs (x4 + (2 : Int32)).toNatClampNeg) (xs (x4 + (3 : Int32)).toNatClampNeg) (xs (x4 + (4 : Int32)).toNatClampNeg) w (fun r201 w201 =>
  fX12_rests (xs (x4 + (1 : Int32)).toNatClampNeg) (xs (x4 + (2 : Int32)).toNatClampNeg) (xs (x4 + (3 : Int32)).toNatClampNeg) (xs (x4 + (4 : Int32)).toNatClampNeg) w201 (fun r202 w202 =>
  fX12_thrown  w202 (fun r203 w203 =>
  ((r203 = r201 →
    ((¬ r201 = 0 →
      fL_law_J1479 L xs a3 k g23 (mc - 1) (ms - 6) x4 w203) ∧
     (r201 = 0 →
      vp_in (0 : Int32) (zln a3) ∧ 
      (((lg_cmp (gL w203 a3 (0 : Int32).toNatClampNeg) r202.toInt64) = 0 →
        fL_law_J1479 L xs a3 k g23 (mc - 1) (ms - 6) x4 w203) ∧
       (¬ (lg_cmp (gL w203 a3 (0 : Int32).toNatClampNeg) r202.toInt64) = 0 →
        k (0 : Int32) w203))))) ∧
   (¬ r203 = r201 →
    k (0 : Int32) w203)))))
set_option maxHeartbeats 4000000 in
set_option maxRecDepth 100000 in
theorem mL_law_J1260 {k : Int32 → zW → Prop} {g23 : Nat → Nat → Int32 → zW → Prop} {a3 : Nat} (X : zCx p s m args meth c cL_law 7 RL (some .boolean)) (hQ : zRetAI p l e R s m args below meth c Q D dA true ad0 al0 cL_law k) (hsc : va_X b L xs s s.heap ∧ b < s.heap.size ∧ ¬ zA ad0 al0 s.heap.size b) (hl0 : l.stackTraces = false) (hTh : zThE (zA ad0 al0 s.heap.size) s s.heap) (htw : ∀ w ∈ zTw, w.before args s = true) (hg23 : ∀ (cells slots mc ms : Nat) (x4 : Int32) (ad : Nat → Nat) (al : Nat → Prop) (w : zW) (H : Heap) (locs : List Loc) (ls : Array Slot) (ha3 : al a3 ∧ zsh a3 = 21), g23 mc ms x4 w → zExt ad0 al0 ad al → zRm R 145 (cells + mc) (slots + ms) → zSt D dA true ad0 al0 ad al w s H locs → lv_has ls 7 [(0, .ref b), (1, .ref (ad 1)), (2, .ref (ad 200)), (3, .ref (ad a3)), (4, .int x4)] → W p l e R s m args below meth c H locs cells slots Q (F0 m 23 ls [])) {cells slots mc ms : Nat} {x4 : Int32} {ad : Nat → Nat} {al : Nat → Prop} {w : zW} {H : Heap} {locs : List Loc} {ls : Array Slot} (ha3 : al a3 ∧ zsh a3 = 21) (hf : fL_law_J1260 L xs a3 k g23 mc ms x4 w) (hX : zExt ad0 al0 ad al) (hr : zRm R 145 (cells + mc) (slots + ms)) (hR : zSt D dA true ad0 al0 ad al w s H locs) (hl : lv_has ls 7 [(0, .ref b), (1, .ref (ad 1)), (2, .ref (ad 200)), (3, .ref (ad a3)), (4, .int x4)]) : W p l e R s m args below meth c H locs cells slots Q (F0 m 1260 ls []) := by
  have hx := X.1
  have hb := X.2.1
  have hml := X.2.2.1
  have hown := X.2.2.2.1
  have hts := X.2.2.2.2.1
  unfold fL_law_J1260 at hf
  refine lv_aload_n hx hb dL_law_1260 rfl (lv_at hl 1 rfl) ?_
  refine lv_aload_n hx hb dL_law_1261 rfl (lv_at hl 0 rfl) ?_
  refine lv_iload hx hb dL_law_1262 (lv_at hl 4 rfl) ?_
  refine lv_iconst (v := (1 : Int32)) hx hb dL_law_1264 (by decide) ?_
  refine lv_iadd hx hb dL_law_1265 ?_
  obtain ⟨hb197, hf⟩ := hf
  refine va_sld hx hb hsc.1 hsc.2.1 hsc.2.2 hR.2.2.1 hb197 dL_law_1266 ?_
  refine lv_aload_n hx hb dL_law_1267 rfl (lv_at hl 0 rfl) ?_
  refine lv_iload hx hb dL_law_1268 (lv_at hl 4 rfl) ?_
  refine lv_iconst (v := (2 : Int32)) hx hb dL_law_1270 (by decide) ?_
  refine lv_iadd hx hb dL_law_1271 ?_
  obtain ⟨hb198, hf⟩ := hf
  refine va_sld hx hb hsc.1 hsc.2.1 hsc.2.2 hR.2.2.1 hb198 dL_law_1272 ?_
  refine lv_aload_n hx hb dL_law_1273 rfl (lv_at hl 0 rfl) ?_
  refine lv_iload hx hb dL_law_1274 (lv_at hl 4 rfl) ?_
  refine lv_iconst (v := (3 : Int32)) hx hb dL_law_1276 (by decide) ?_
  refine lv_iadd hx hb dL_law_1277 ?_
  obtain ⟨hb199, hf⟩ := hf
  refine va_sld hx hb hsc.1 hsc.2.1 hsc.2.2 hR.2.2.1 hb199 dL_law_1278 ?_
  refine lv_aload_n hx hb dL_law_1279 rfl (lv_at hl 0 rfl) ?_
  refine lv_iload hx hb dL_law_1280 (lv_at hl 4 rfl) ?_
  refine lv_iconst (v := (4 : Int32)) hx hb dL_law_1282 (by decide) ?_
  refine lv_iadd hx hb dL_law_1283 ?_
  obtain ⟨hb200, hf⟩ := hf
  refine va_sld hx hb hsc.1 hsc.2.1 hsc.2.2 hR.2.2.1 hb200 dL_law_1284 ?_
  refine lv_aload_n hx hb dL_law_1285 rfl (lv_at hl 3 rfl) ?_
  have hw201_1 : al 1 := (zlit hR zf_1)
  have hw201_2 : al 200 := (zlit hR zf_200)
  have hw201_3 : al a3 := ha3.1
  have hv201_1 : al a3 := ha3.1
  have hv201_2 : al 1 := (zlit hR zf_1)
  obtain ⟨hc201, hs201, hf⟩ := hf
  refine z_callLR (b0 := 0) (rest := []) X (hr.call hc201 hs201 (by decide)) hR hTh htw zq_1531 ha3.1 (zlit hR zf_1) (mL_rests hl0 ⟨ha3.1, ha3.2⟩ (zlit hR zf_1) hf) hl (Nat.le_of_ble_eq_true rfl) dL_law_1286 (fun r201 w201 H locs hf hR => ?_)
  have hr := hr.after hc201 hs201
  refine lv_istore (lv' := [(5, .int r201), (0, .ref b), (1, .ref (ad 1)), (2, .ref (ad 200)), (3, .ref (ad a3)), (4, .int x4)]) hx hb dL_law_1289 hl (by decide) rfl (fun ls hl => ?_)
  refine lv_aload_n hx hb dL_law_1291 rfl (lv_at hl 3 rfl) ?_
  refine lv_aload_n hx hb dL_law_1292 rfl (lv_at hl 1 rfl) ?_
  refine lv_iload hx hb dL_law_1293 (lv_at hl 5 rfl) ?_
  refine lv_iconst (v := (1 : Int32)) hx hb dL_law_1295 (by decide) ?_
  refine lv_iadd hx hb dL_law_1296 ?_
  refine va_sld hx hb hsc.1 hsc.2.1 hsc.2.2 hR.2.2.1 hb197 dL_law_1297 ?_
  refine lv_aload_n hx hb dL_law_1298 rfl (lv_at hl 1 rfl) ?_
  refine lv_iload hx hb dL_law_1299 (lv_at hl 5 rfl) ?_
  refine lv_iconst (v := (2 : Int32)) hx hb dL_law_1301 (by decide) ?_
  refine lv_iadd hx hb dL_law_1302 ?_
  refine va_sld hx hb hsc.1 hsc.2.1 hsc.2.2 hR.2.2.1 hb198 dL_law_1303 ?_
  refine lv_aload_n hx hb dL_law_1304 rfl (lv_at hl 1 rfl) ?_
  refine lv_iload hx hb dL_law_1305 (lv_at hl 5 rfl) ?_
  refine lv_iconst (v := (3 : Int32)) hx hb dL_law_1307 (by decide) ?_
  refine lv_iadd hx hb dL_law_1308 ?_
  refine va_sld hx hb hsc.1 hsc.2.1 hsc.2.2 hR.2.2.1 hb199 dL_law_1309 ?_
  refine lv_aload_n hx hb dL_law_1310 rfl (lv_at hl 1 rfl) ?_
  refine lv_iload hx hb dL_law_1311 (lv_at hl 5 rfl) ?_
  refine lv_iconst (v := (4 : Int32)) hx hb dL_law_1313 (by decide) ?_
  refine lv_iadd hx hb dL_law_1314 ?_
  refine va_sld hx hb hsc.1 hsc.2.1 hsc.2.2 hR.2.2.1 hb200 dL_law_1315 ?_
  refine z_callVI (fr1 := 1) (b := 200) (As := [.int (xs (x4 + (1 : Int32)).toNatClampNeg), .int (xs (x4 + (2 : Int32)).toNatClampNeg), .int (xs (x4 + (3 : Int32)).toNatClampNeg), .int (xs (x4 + (4 : Int32)).toNatClampNeg)]) (rest := []) X (hr.none (by decide)) hR zy_X12_rests zq_1551 (zlit hR zf_200) (by rw [zs_200]; rfl) rfl (mX12_rests  hf) rfl hl (Nat.le_of_ble_eq_true rfl) dL_law_1316 rfl (fun r202 w202 H locs hf hR => ?_)
  refine lv_istore (lv' := [(6, .int r202), (5, .int r201), (0, .ref b), (1, .ref (ad 1)), (2, .ref (ad 200)), (3, .ref (ad a3)), (4, .int x4)]) hx hb dL_law_1319 hl (by decide) rfl (fun ls hl => ?_)
  refine lv_aload_n hx hb dL_law_1321 rfl (lv_at hl 4 rfl) ?_
  refine z_callVI (fr1 := 0) (b := 200) (As := []) (rest := []) X (hr.none (by decide)) hR zy_X12_thrown zq_1558 (zlit hR zf_200) (by rw [zs_200]; rfl) rfl (mX12_thrown  hf) rfl hl (Nat.le_of_ble_eq_true rfl) dL_law_1322 rfl (fun r203 w203 H locs hf hR => ?_)
  refine lv_iload hx hb dL_law_1325 (lv_at hl 1 rfl) ?_
  refine lv_icmp_eq (tgt := 1332) hx hb dL_law_1327 (by decide) (fun c204 => ?_) (fun c204 => ?_)
  · replace hf := hf.1 c204
    refine lv_iload hx hb dL_law_1332 (lv_at hl 1 rfl) ?_
    refine lv_if_ne (tgt := 1349) hx hb dL_law_1334 (by decide) (fun c205 => ?_) (fun c205 => ?_)
    · replace hf := hf.1 c205
      refine lv_goto (tgt := 1479) hx hb dL_law_1349 (by decide) ?_
      exact mL_law_J1479 X hQ hsc hl0 hTh htw hg23 ha3 hf hX hr hR (lv_sub hl [2, 3, 4, 5, 6] rfl)
    · replace hf := hf.2 c205
      refine lv_aload_n hx hb dL_law_1337 rfl (lv_at hl 5 rfl) ?_
      refine lv_iconst (v := (0 : Int32)) hx hb dL_law_1338 (by decide) ?_
      obtain ⟨hb206, hf⟩ := hf
      refine z_lald X hR ha3.1 ha3.2 rfl hb206 dL_law_1339 ?_
      refine lv_iload hx hb dL_law_1340 (lv_at hl 0 rfl) ?_
      refine lv_i2l hx hb dL_law_1342 rfl ?_
      refine W.lcmp hx hb dL_law_1343 ?_
      refine lv_if_eq (tgt := 1349) hx hb dL_law_1344 (by decide) (fun c207 => ?_) (fun c207 => ?_)
      · replace hf := hf.1 c207
        refine lv_goto (tgt := 1479) hx hb dL_law_1349 (by decide) ?_
        exact mL_law_J1479 X hQ hsc hl0 hTh htw hg23 ha3 hf hX hr hR (lv_sub hl [2, 3, 4, 5, 6] rfl)
      · replace hf := hf.2 c207
        refine lv_iconst (v := (0 : Int32)) hx hb dL_law_1347 (by decide) ?_
        exact hQ _ _ _ _ _ _ _ _ _ _ hX (by have := hr.2.2.1; omega) (by have := hr.2.2.2; omega) hf hR dL_law_1348
  · replace hf := hf.2 c204
    refine lv_iconst (v := (0 : Int32)) hx hb dL_law_1330 (by decide) ?_
    exact hQ _ _ _ _ _ _ _ _ _ _ hX (by have := hr.2.2.1; omega) (by have := hr.2.2.2; omega) hf hR dL_law_1331
def fL_law_J1352 (L : Nat) (xs : Nat → Int32) (a3 : Nat) (k : Int32 → zW → Prop) (g23 : Nat → Nat → Int32 → zW → Prop) (mc ms : Nat) (x4 : Int32) (w : zW) : Prop :=
  vp_in (x4 + (1 : Int32)) L ∧ 
  vp_in (x4 + (2 : Int32)) L ∧ 
  vp_in (x4 + (3 : Int32)) L ∧ 
  fX11_drafts (xs (x4 + (1 : Int32)).toNatClampNeg) (xs (x4 + (2 : Int32)).toNatClampNeg) (xs (x4 + (3 : Int32)).toNatClampNeg) w (fun r212 w212 =>
  fX12_drafts (xs (x4 + (1 : Int32)).toNatClampNeg) (xs (x4 + (2 : Int32)).toNatClampNeg) (xs (x4 + (3 : Int32)).toNatClampNeg) w212 (fun r213 w213 =>
  ((r212 = r213 →
    fL_law_J1479 L xs a3 k g23 mc ms x4 w213) ∧
   (¬ r212 = r213 →
    k (0 : Int32) w213))))
set_option maxHeartbeats 4000000 in
set_option maxRecDepth 100000 in
theorem mL_law_J1352 {k : Int32 → zW → Prop} {g23 : Nat → Nat → Int32 → zW → Prop} {a3 : Nat} (X : zCx p s m args meth c cL_law 7 RL (some .boolean)) (hQ : zRetAI p l e R s m args below meth c Q D dA true ad0 al0 cL_law k) (hsc : va_X b L xs s s.heap ∧ b < s.heap.size ∧ ¬ zA ad0 al0 s.heap.size b) (hl0 : l.stackTraces = false) (hTh : zThE (zA ad0 al0 s.heap.size) s s.heap) (htw : ∀ w ∈ zTw, w.before args s = true) (hg23 : ∀ (cells slots mc ms : Nat) (x4 : Int32) (ad : Nat → Nat) (al : Nat → Prop) (w : zW) (H : Heap) (locs : List Loc) (ls : Array Slot) (ha3 : al a3 ∧ zsh a3 = 21), g23 mc ms x4 w → zExt ad0 al0 ad al → zRm R 145 (cells + mc) (slots + ms) → zSt D dA true ad0 al0 ad al w s H locs → lv_has ls 7 [(0, .ref b), (1, .ref (ad 1)), (2, .ref (ad 200)), (3, .ref (ad a3)), (4, .int x4)] → W p l e R s m args below meth c H locs cells slots Q (F0 m 23 ls [])) {cells slots mc ms : Nat} {x4 : Int32} {ad : Nat → Nat} {al : Nat → Prop} {w : zW} {H : Heap} {locs : List Loc} {ls : Array Slot} (ha3 : al a3 ∧ zsh a3 = 21) (hf : fL_law_J1352 L xs a3 k g23 mc ms x4 w) (hX : zExt ad0 al0 ad al) (hr : zRm R 145 (cells + mc) (slots + ms)) (hR : zSt D dA true ad0 al0 ad al w s H locs) (hl : lv_has ls 7 [(0, .ref b), (1, .ref (ad 1)), (2, .ref (ad 200)), (3, .ref (ad a3)), (4, .int x4)]) : W p l e R s m args below meth c H locs cells slots Q (F0 m 1352 ls []) := by
  have hx := X.1
  have hb := X.2.1
  have hml := X.2.2.1
  have hown := X.2.2.2.1
  have hts := X.2.2.2.2.1
  unfold fL_law_J1352 at hf
  refine lv_aload_n hx hb dL_law_1352 rfl (lv_at hl 1 rfl) ?_
  refine lv_aload_n hx hb dL_law_1353 rfl (lv_at hl 0 rfl) ?_
  refine lv_iload hx hb dL_law_1354 (lv_at hl 4 rfl) ?_
  refine lv_iconst (v := (1 : Int32)) hx hb dL_law_1356 (by decide) ?_
  refine lv_iadd hx hb dL_law_1357 ?_
  obtain ⟨hb209, hf⟩ := hf
  refine va_sld hx hb hsc.1 hsc.2.1 hsc.2.2 hR.2.2.1 hb209 dL_law_1358 ?_
  refine lv_aload_n hx hb dL_law_1359 rfl (lv_at hl 0 rfl) ?_
  refine lv_iload hx hb dL_law_1360 (lv_at hl 4 rfl) ?_
  refine lv_iconst (v := (2 : Int32)) hx hb dL_law_1362 (by decide) ?_
  refine lv_iadd hx hb dL_law_1363 ?_
  obtain ⟨hb210, hf⟩ := hf
  refine va_sld hx hb hsc.1 hsc.2.1 hsc.2.2 hR.2.2.1 hb210 dL_law_1364 ?_
  refine lv_aload_n hx hb dL_law_1365 rfl (lv_at hl 0 rfl) ?_
  refine lv_iload hx hb dL_law_1366 (lv_at hl 4 rfl) ?_
  refine lv_iconst (v := (3 : Int32)) hx hb dL_law_1368 (by decide) ?_
  refine lv_iadd hx hb dL_law_1369 ?_
  obtain ⟨hb211, hf⟩ := hf
  refine va_sld hx hb hsc.1 hsc.2.1 hsc.2.2 hR.2.2.1 hb211 dL_law_1370 ?_
  refine z_callVI (fr1 := 3) (b := 1) (As := [.int (xs (x4 + (1 : Int32)).toNatClampNeg), .int (xs (x4 + (2 : Int32)).toNatClampNeg), .int (xs (x4 + (3 : Int32)).toNatClampNeg)]) (rest := []) X (hr.none (by decide)) hR zy_X11_drafts zq_1562 (zlit hR zf_1) (by rw [zs_1]; rfl) rfl (mX11_drafts  hf) rfl hl (Nat.le_of_ble_eq_true rfl) dL_law_1371 rfl (fun r212 w212 H locs hf hR => ?_)
  refine lv_aload_n hx hb dL_law_1374 rfl (lv_at hl 2 rfl) ?_
  refine lv_aload_n hx hb dL_law_1375 rfl (lv_at hl 0 rfl) ?_
  refine lv_iload hx hb dL_law_1376 (lv_at hl 4 rfl) ?_
  refine lv_iconst (v := (1 : Int32)) hx hb dL_law_1378 (by decide) ?_
  refine lv_iadd hx hb dL_law_1379 ?_
  refine va_sld hx hb hsc.1 hsc.2.1 hsc.2.2 hR.2.2.1 hb209 dL_law_1380 ?_
  refine lv_aload_n hx hb dL_law_1381 rfl (lv_at hl 0 rfl) ?_
  refine lv_iload hx hb dL_law_1382 (lv_at hl 4 rfl) ?_
  refine lv_iconst (v := (2 : Int32)) hx hb dL_law_1384 (by decide) ?_
  refine lv_iadd hx hb dL_law_1385 ?_
  refine va_sld hx hb hsc.1 hsc.2.1 hsc.2.2 hR.2.2.1 hb210 dL_law_1386 ?_
  refine lv_aload_n hx hb dL_law_1387 rfl (lv_at hl 0 rfl) ?_
  refine lv_iload hx hb dL_law_1388 (lv_at hl 4 rfl) ?_
  refine lv_iconst (v := (3 : Int32)) hx hb dL_law_1390 (by decide) ?_
  refine lv_iadd hx hb dL_law_1391 ?_
  refine va_sld hx hb hsc.1 hsc.2.1 hsc.2.2 hR.2.2.1 hb211 dL_law_1392 ?_
  refine z_callVI (fr1 := 3) (b := 200) (As := [.int (xs (x4 + (1 : Int32)).toNatClampNeg), .int (xs (x4 + (2 : Int32)).toNatClampNeg), .int (xs (x4 + (3 : Int32)).toNatClampNeg)]) (rest := [.int r212]) X (hr.none (by decide)) hR zy_X12_drafts zq_1577 (zlit hR zf_200) (by rw [zs_200]; rfl) rfl (mX12_drafts  hf) rfl hl (Nat.le_of_ble_eq_true rfl) dL_law_1393 rfl (fun r213 w213 H locs hf hR => ?_)
  refine lv_icmp_eq (tgt := 1479) hx hb dL_law_1396 (by decide) (fun c214 => ?_) (fun c214 => ?_)
  · replace hf := hf.1 c214
    exact mL_law_J1479 X hQ hsc hl0 hTh htw hg23 ha3 hf hX hr hR (lv_sub hl [0, 1, 2, 3, 4] rfl)
  · replace hf := hf.2 c214
    refine lv_iconst (v := (0 : Int32)) hx hb dL_law_1399 (by decide) ?_
    exact hQ _ _ _ _ _ _ _ _ _ _ hX (by have := hr.2.2.1; omega) (by have := hr.2.2.2; omega) hf hR dL_law_1400
def fL_law_J1446 (L : Nat) (xs : Nat → Int32) (a3 : Nat) (k : Int32 → zW → Prop) (g23 : Nat → Nat → Int32 → zW → Prop) (mc ms : Nat) (x4 : Int32) (t0 : Int32) (t1 : Int32) (t3 : Int32) (w : zW) : Prop :=
  fX12_mark t1 t0 w (fun r223 w223 =>
  ((t3 = r223 →
    fL_law_J1479 L xs a3 k g23 mc ms x4 w223) ∧
   (¬ t3 = r223 →
    k (0 : Int32) w223)))
set_option maxHeartbeats 4000000 in
set_option maxRecDepth 100000 in
theorem mL_law_J1446 {k : Int32 → zW → Prop} {g23 : Nat → Nat → Int32 → zW → Prop} {a3 : Nat} (X : zCx p s m args meth c cL_law 7 RL (some .boolean)) (hQ : zRetAI p l e R s m args below meth c Q D dA true ad0 al0 cL_law k) (hsc : va_X b L xs s s.heap ∧ b < s.heap.size ∧ ¬ zA ad0 al0 s.heap.size b) (hl0 : l.stackTraces = false) (hTh : zThE (zA ad0 al0 s.heap.size) s s.heap) (htw : ∀ w ∈ zTw, w.before args s = true) (hg23 : ∀ (cells slots mc ms : Nat) (x4 : Int32) (ad : Nat → Nat) (al : Nat → Prop) (w : zW) (H : Heap) (locs : List Loc) (ls : Array Slot) (ha3 : al a3 ∧ zsh a3 = 21), g23 mc ms x4 w → zExt ad0 al0 ad al → zRm R 145 (cells + mc) (slots + ms) → zSt D dA true ad0 al0 ad al w s H locs → lv_has ls 7 [(0, .ref b), (1, .ref (ad 1)), (2, .ref (ad 200)), (3, .ref (ad a3)), (4, .int x4)] → W p l e R s m args below meth c H locs cells slots Q (F0 m 23 ls [])) {cells slots mc ms : Nat} {x4 : Int32} {t0 : Int32} {t1 : Int32} {t3 : Int32} {ad : Nat → Nat} {al : Nat → Prop} {w : zW} {H : Heap} {locs : List Loc} {ls : Array Slot} (ha3 : al a3 ∧ zsh a3 = 21) (hf : fL_law_J1446 L xs a3 k g23 mc ms x4 t0 t1 t3 w) (hX : zExt ad0 al0 ad al) (hr : zRm R 145 (cells + mc) (slots + ms)) (hR : zSt D dA true ad0 al0 ad al w s H locs) (hl : lv_has ls 7 [(0, .ref b), (1, .ref (ad 1)), (2, .ref (ad 200)), (3, .ref (ad a3)), (4, .int x4)]) : W p l e R s m args below meth c H locs cells slots Q (F0 m 1446 ls [.int t0, .int t1, .ref (ad 200), .int t3]) := by
  have hx := X.1
  have hb := X.2.1
  have hml := X.2.2.1
  have hown := X.2.2.2.1
  have hts := X.2.2.2.2.1
  unfold fL_law_J1446 at hf
  refine z_callVI (fr1 := 1) (b := 200) (As := [.int t1, .int t0]) (rest := [.int t3]) X (hr.none (by decide)) hR zy_X12_mark zq_1606 (zlit hR zf_200) (by rw [zs_200]; rfl) rfl (mX12_mark  hf) rfl hl (Nat.le_of_ble_eq_true rfl) dL_law_1446 rfl (fun r223 w223 H locs hf hR => ?_)
  refine lv_icmp_eq (tgt := 1479) hx hb dL_law_1449 (by decide) (fun c224 => ?_) (fun c224 => ?_)
  · replace hf := hf.1 c224
    exact mL_law_J1479 X hQ hsc hl0 hTh htw hg23 ha3 hf hX hr hR (lv_sub hl [0, 1, 2, 3, 4] rfl)
  · replace hf := hf.2 c224
    refine lv_iconst (v := (0 : Int32)) hx hb dL_law_1452 (by decide) ?_
    exact hQ _ _ _ _ _ _ _ _ _ _ hX (by have := hr.2.2.1; omega) (by have := hr.2.2.2; omega) hf hR dL_law_1453
def fL_law_J1422 (L : Nat) (xs : Nat → Int32) (a3 : Nat) (k : Int32 → zW → Prop) (g23 : Nat → Nat → Int32 → zW → Prop) (mc ms : Nat) (x4 : Int32) (t0 : Int32) (t1 : Int32) (w : zW) : Prop :=
  fX11_mark t1 t0 w (fun r219 w219 =>
  vp_in (x4 + (1 : Int32)) L ∧ 
  vp_in (x4 + (2 : Int32)) L ∧ 
  ∀ v222 : Int32, v222 = (if (xs (x4 + (2 : Int32)).toNatClampNeg) = 0 then (0 : Int32) else (1 : Int32)) →
  fL_law_J1446 L xs a3 k g23 mc ms x4 v222 (xs (x4 + (1 : Int32)).toNatClampNeg) r219 w219)
set_option maxHeartbeats 4000000 in
set_option maxRecDepth 100000 in
theorem mL_law_J1422 {k : Int32 → zW → Prop} {g23 : Nat → Nat → Int32 → zW → Prop} {a3 : Nat} (X : zCx p s m args meth c cL_law 7 RL (some .boolean)) (hQ : zRetAI p l e R s m args below meth c Q D dA true ad0 al0 cL_law k) (hsc : va_X b L xs s s.heap ∧ b < s.heap.size ∧ ¬ zA ad0 al0 s.heap.size b) (hl0 : l.stackTraces = false) (hTh : zThE (zA ad0 al0 s.heap.size) s s.heap) (htw : ∀ w ∈ zTw, w.before args s = true) (hg23 : ∀ (cells slots mc ms : Nat) (x4 : Int32) (ad : Nat → Nat) (al : Nat → Prop) (w : zW) (H : Heap) (locs : List Loc) (ls : Array Slot) (ha3 : al a3 ∧ zsh a3 = 21), g23 mc ms x4 w → zExt ad0 al0 ad al → zRm R 145 (cells + mc) (slots + ms) → zSt D dA true ad0 al0 ad al w s H locs → lv_has ls 7 [(0, .ref b), (1, .ref (ad 1)), (2, .ref (ad 200)), (3, .ref (ad a3)), (4, .int x4)] → W p l e R s m args below meth c H locs cells slots Q (F0 m 23 ls [])) {cells slots mc ms : Nat} {x4 : Int32} {t0 : Int32} {t1 : Int32} {ad : Nat → Nat} {al : Nat → Prop} {w : zW} {H : Heap} {locs : List Loc} {ls : Array Slot} (ha3 : al a3 ∧ zsh a3 = 21) (hf : fL_law_J1422 L xs a3 k g23 mc ms x4 t0 t1 w) (hX : zExt ad0 al0 ad al) (hr : zRm R 145 (cells + mc) (slots + ms)) (hR : zSt D dA true ad0 al0 ad al w s H locs) (hl : lv_has ls 7 [(0, .ref b), (1, .ref (ad 1)), (2, .ref (ad 200)), (3, .ref (ad a3)), (4, .int x4)]) : W p l e R s m args below meth c H locs cells slots Q (F0 m 1422 ls [.int t0, .int t1, .ref (ad 1)]) := by
  have hx := X.1
  have hb := X.2.1
  have hml := X.2.2.1
  have hown := X.2.2.2.1
  have hts := X.2.2.2.2.1
  unfold fL_law_J1422 at hf
  refine z_callVI (fr1 := 3) (b := 1) (As := [.int t1, .int t0]) (rest := []) X (hr.none (by decide)) hR zy_X11_mark zq_1598 (zlit hR zf_1) (by rw [zs_1]; rfl) rfl (mX11_mark  hf) rfl hl (Nat.le_of_ble_eq_true rfl) dL_law_1422 rfl (fun r219 w219 H locs hf hR => ?_)
  refine lv_aload_n hx hb dL_law_1425 rfl (lv_at hl 2 rfl) ?_
  refine lv_aload_n hx hb dL_law_1426 rfl (lv_at hl 0 rfl) ?_
  refine lv_iload hx hb dL_law_1427 (lv_at hl 4 rfl) ?_
  refine lv_iconst (v := (1 : Int32)) hx hb dL_law_1429 (by decide) ?_
  refine lv_iadd hx hb dL_law_1430 ?_
  obtain ⟨hb220, hf⟩ := hf
  refine va_sld hx hb hsc.1 hsc.2.1 hsc.2.2 hR.2.2.1 hb220 dL_law_1431 ?_
  refine lv_aload_n hx hb dL_law_1432 rfl (lv_at hl 0 rfl) ?_
  refine lv_iload hx hb dL_law_1433 (lv_at hl 4 rfl) ?_
  refine lv_iconst (v := (2 : Int32)) hx hb dL_law_1435 (by decide) ?_
  refine lv_iadd hx hb dL_law_1436 ?_
  obtain ⟨hb221, hf⟩ := hf
  refine va_sld hx hb hsc.1 hsc.2.1 hsc.2.2 hR.2.2.1 hb221 dL_law_1437 ?_
  have kJ222 : ∀ v222 : Int32, v222 = (if (xs (x4 + (2 : Int32)).toNatClampNeg) = 0 then (0 : Int32) else (1 : Int32)) → W p l e R s m args below meth c H locs cells slots Q (F0 m 1446 ls (.int v222 :: .int (xs (x4 + (1 : Int32)).toNatClampNeg) :: .ref (ad 200) :: .int r219 :: [])) := by
    intro v222 hv222
    replace hf := hf v222 hv222
    exact mL_law_J1446 X hQ hsc hl0 hTh htw hg23 ha3 hf hX hr hR (lv_sub hl [0, 1, 2, 3, 4] rfl)
  refine lv_if_eq (tgt := 1445) hx hb dL_law_1438 (by decide) (fun c222 => ?_) (fun c222 => ?_)
  · refine lv_iconst (v := (0 : Int32)) hx hb dL_law_1445 (by decide) ?_
    exact kJ222 _ (if_pos c222).symm
  · refine lv_iconst (v := (1 : Int32)) hx hb dL_law_1441 (by decide) ?_
    refine lv_goto (tgt := 1446) hx hb dL_law_1442 (by decide) ?_
    exact kJ222 _ (if_neg c222).symm
def fL_law_J1401 (L : Nat) (xs : Nat → Int32) (a3 : Nat) (k : Int32 → zW → Prop) (g23 : Nat → Nat → Int32 → zW → Prop) (mc ms : Nat) (x4 : Int32) (w : zW) : Prop :=
  vp_in (x4 + (1 : Int32)) L ∧ 
  vp_in (x4 + (2 : Int32)) L ∧ 
  ∀ v218 : Int32, v218 = (if (xs (x4 + (2 : Int32)).toNatClampNeg) = 0 then (0 : Int32) else (1 : Int32)) →
  fL_law_J1422 L xs a3 k g23 mc ms x4 v218 (xs (x4 + (1 : Int32)).toNatClampNeg) w
set_option maxHeartbeats 4000000 in
set_option maxRecDepth 100000 in
theorem mL_law_J1401 {k : Int32 → zW → Prop} {g23 : Nat → Nat → Int32 → zW → Prop} {a3 : Nat} (X : zCx p s m args meth c cL_law 7 RL (some .boolean)) (hQ : zRetAI p l e R s m args below meth c Q D dA true ad0 al0 cL_law k) (hsc : va_X b L xs s s.heap ∧ b < s.heap.size ∧ ¬ zA ad0 al0 s.heap.size b) (hl0 : l.stackTraces = false) (hTh : zThE (zA ad0 al0 s.heap.size) s s.heap) (htw : ∀ w ∈ zTw, w.before args s = true) (hg23 : ∀ (cells slots mc ms : Nat) (x4 : Int32) (ad : Nat → Nat) (al : Nat → Prop) (w : zW) (H : Heap) (locs : List Loc) (ls : Array Slot) (ha3 : al a3 ∧ zsh a3 = 21), g23 mc ms x4 w → zExt ad0 al0 ad al → zRm R 145 (cells + mc) (slots + ms) → zSt D dA true ad0 al0 ad al w s H locs → lv_has ls 7 [(0, .ref b), (1, .ref (ad 1)), (2, .ref (ad 200)), (3, .ref (ad a3)), (4, .int x4)] → W p l e R s m args below meth c H locs cells slots Q (F0 m 23 ls [])) {cells slots mc ms : Nat} {x4 : Int32} {ad : Nat → Nat} {al : Nat → Prop} {w : zW} {H : Heap} {locs : List Loc} {ls : Array Slot} (ha3 : al a3 ∧ zsh a3 = 21) (hf : fL_law_J1401 L xs a3 k g23 mc ms x4 w) (hX : zExt ad0 al0 ad al) (hr : zRm R 145 (cells + mc) (slots + ms)) (hR : zSt D dA true ad0 al0 ad al w s H locs) (hl : lv_has ls 7 [(0, .ref b), (1, .ref (ad 1)), (2, .ref (ad 200)), (3, .ref (ad a3)), (4, .int x4)]) : W p l e R s m args below meth c H locs cells slots Q (F0 m 1401 ls []) := by
  have hx := X.1
  have hb := X.2.1
  have hml := X.2.2.1
  have hown := X.2.2.2.1
  have hts := X.2.2.2.2.1
  unfold fL_law_J1401 at hf
  refine lv_aload_n hx hb dL_law_1401 rfl (lv_at hl 1 rfl) ?_
  refine lv_aload_n hx hb dL_law_1402 rfl (lv_at hl 0 rfl) ?_
  refine lv_iload hx hb dL_law_1403 (lv_at hl 4 rfl) ?_
  refine lv_iconst (v := (1 : Int32)) hx hb dL_law_1405 (by decide) ?_
  refine lv_iadd hx hb dL_law_1406 ?_
  obtain ⟨hb216, hf⟩ := hf
  refine va_sld hx hb hsc.1 hsc.2.1 hsc.2.2 hR.2.2.1 hb216 dL_law_1407 ?_
  refine lv_aload_n hx hb dL_law_1408 rfl (lv_at hl 0 rfl) ?_
  refine lv_iload hx hb dL_law_1409 (lv_at hl 4 rfl) ?_
  refine lv_iconst (v := (2 : Int32)) hx hb dL_law_1411 (by decide) ?_
  refine lv_iadd hx hb dL_law_1412 ?_
  obtain ⟨hb217, hf⟩ := hf
  refine va_sld hx hb hsc.1 hsc.2.1 hsc.2.2 hR.2.2.1 hb217 dL_law_1413 ?_
  have kJ218 : ∀ v218 : Int32, v218 = (if (xs (x4 + (2 : Int32)).toNatClampNeg) = 0 then (0 : Int32) else (1 : Int32)) → W p l e R s m args below meth c H locs cells slots Q (F0 m 1422 ls (.int v218 :: .int (xs (x4 + (1 : Int32)).toNatClampNeg) :: .ref (ad 1) :: [])) := by
    intro v218 hv218
    replace hf := hf v218 hv218
    exact mL_law_J1422 X hQ hsc hl0 hTh htw hg23 ha3 hf hX hr hR (lv_sub hl [0, 1, 2, 3, 4] rfl)
  refine lv_if_eq (tgt := 1421) hx hb dL_law_1414 (by decide) (fun c218 => ?_) (fun c218 => ?_)
  · refine lv_iconst (v := (0 : Int32)) hx hb dL_law_1421 (by decide) ?_
    exact kJ218 _ (if_pos c218).symm
  · refine lv_iconst (v := (1 : Int32)) hx hb dL_law_1417 (by decide) ?_
    refine lv_goto (tgt := 1422) hx hb dL_law_1418 (by decide) ?_
    exact kJ218 _ (if_neg c218).symm
def fL_law_J1454 (L : Nat) (xs : Nat → Int32) (a3 : Nat) (k : Int32 → zW → Prop) (g23 : Nat → Nat → Int32 → zW → Prop) (mc ms : Nat) (x4 : Int32) (w : zW) : Prop :=
  vp_in (x4 + (1 : Int32)) L ∧ 
  fX11_count (xs (x4 + (1 : Int32)).toNatClampNeg) w (fun r227 w227 =>
  fX12_count (xs (x4 + (1 : Int32)).toNatClampNeg) w227 (fun r228 w228 =>
  ((r227 = r228 →
    fL_law_J1479 L xs a3 k g23 mc ms x4 w228) ∧
   (¬ r227 = r228 →
    k (0 : Int32) w228))))
set_option maxHeartbeats 4000000 in
set_option maxRecDepth 100000 in
theorem mL_law_J1454 {k : Int32 → zW → Prop} {g23 : Nat → Nat → Int32 → zW → Prop} {a3 : Nat} (X : zCx p s m args meth c cL_law 7 RL (some .boolean)) (hQ : zRetAI p l e R s m args below meth c Q D dA true ad0 al0 cL_law k) (hsc : va_X b L xs s s.heap ∧ b < s.heap.size ∧ ¬ zA ad0 al0 s.heap.size b) (hl0 : l.stackTraces = false) (hTh : zThE (zA ad0 al0 s.heap.size) s s.heap) (htw : ∀ w ∈ zTw, w.before args s = true) (hg23 : ∀ (cells slots mc ms : Nat) (x4 : Int32) (ad : Nat → Nat) (al : Nat → Prop) (w : zW) (H : Heap) (locs : List Loc) (ls : Array Slot) (ha3 : al a3 ∧ zsh a3 = 21), g23 mc ms x4 w → zExt ad0 al0 ad al → zRm R 145 (cells + mc) (slots + ms) → zSt D dA true ad0 al0 ad al w s H locs → lv_has ls 7 [(0, .ref b), (1, .ref (ad 1)), (2, .ref (ad 200)), (3, .ref (ad a3)), (4, .int x4)] → W p l e R s m args below meth c H locs cells slots Q (F0 m 23 ls [])) {cells slots mc ms : Nat} {x4 : Int32} {ad : Nat → Nat} {al : Nat → Prop} {w : zW} {H : Heap} {locs : List Loc} {ls : Array Slot} (ha3 : al a3 ∧ zsh a3 = 21) (hf : fL_law_J1454 L xs a3 k g23 mc ms x4 w) (hX : zExt ad0 al0 ad al) (hr : zRm R 145 (cells + mc) (slots + ms)) (hR : zSt D dA true ad0 al0 ad al w s H locs) (hl : lv_has ls 7 [(0, .ref b), (1, .ref (ad 1)), (2, .ref (ad 200)), (3, .ref (ad a3)), (4, .int x4)]) : W p l e R s m args below meth c H locs cells slots Q (F0 m 1454 ls []) := by
  have hx := X.1
  have hb := X.2.1
  have hml := X.2.2.1
  have hown := X.2.2.2.1
  have hts := X.2.2.2.2.1
  unfold fL_law_J1454 at hf
  refine lv_aload_n hx hb dL_law_1454 rfl (lv_at hl 1 rfl) ?_
  refine lv_aload_n hx hb dL_law_1455 rfl (lv_at hl 0 rfl) ?_
  refine lv_iload hx hb dL_law_1456 (lv_at hl 4 rfl) ?_
  refine lv_iconst (v := (1 : Int32)) hx hb dL_law_1458 (by decide) ?_
  refine lv_iadd hx hb dL_law_1459 ?_
  obtain ⟨hb226, hf⟩ := hf
  refine va_sld hx hb hsc.1 hsc.2.1 hsc.2.2 hR.2.2.1 hb226 dL_law_1460 ?_
  refine z_callVI (fr1 := 2) (b := 1) (As := [.int (xs (x4 + (1 : Int32)).toNatClampNeg)]) (rest := []) X (hr.none (by decide)) hR zy_X11_count zq_1610 (zlit hR zf_1) (by rw [zs_1]; rfl) rfl (mX11_count  hf) rfl hl (Nat.le_of_ble_eq_true rfl) dL_law_1461 rfl (fun r227 w227 H locs hf hR => ?_)
  refine lv_aload_n hx hb dL_law_1464 rfl (lv_at hl 2 rfl) ?_
  refine lv_aload_n hx hb dL_law_1465 rfl (lv_at hl 0 rfl) ?_
  refine lv_iload hx hb dL_law_1466 (lv_at hl 4 rfl) ?_
  refine lv_iconst (v := (1 : Int32)) hx hb dL_law_1468 (by decide) ?_
  refine lv_iadd hx hb dL_law_1469 ?_
  refine va_sld hx hb hsc.1 hsc.2.1 hsc.2.2 hR.2.2.1 hb226 dL_law_1470 ?_
  refine z_callVI (fr1 := 2) (b := 200) (As := [.int (xs (x4 + (1 : Int32)).toNatClampNeg)]) (rest := [.int r227]) X (hr.none (by decide)) hR zy_X12_count zq_1617 (zlit hR zf_200) (by rw [zs_200]; rfl) rfl (mX12_count  hf) rfl hl (Nat.le_of_ble_eq_true rfl) dL_law_1471 rfl (fun r228 w228 H locs hf hR => ?_)
  refine lv_icmp_eq (tgt := 1479) hx hb dL_law_1474 (by decide) (fun c229 => ?_) (fun c229 => ?_)
  · replace hf := hf.1 c229
    exact mL_law_J1479 X hQ hsc hl0 hTh htw hg23 ha3 hf hX hr hR (lv_sub hl [0, 1, 2, 3, 4] rfl)
  · replace hf := hf.2 c229
    refine lv_iconst (v := (0 : Int32)) hx hb dL_law_1477 (by decide) ?_
    exact hQ _ _ _ _ _ _ _ _ _ _ hX (by have := hr.2.2.1; omega) (by have := hr.2.2.2; omega) hf hR dL_law_1478
def fL_law_L23 (L : Nat) (xs : Nat → Int32) (a3 : Nat) (k : Int32 → zW → Prop) : Nat → Nat → Nat → Int32 → zW → Prop
  | 0 => fun _ _ _ _ => False
  | n + 1 => fun mc ms x4 w =>
    ((((Int32.ofNat L) - (7 : Int32)) < x4 →
      k (1 : Int32) w) ∧
     (¬ ((Int32.ofNat L) - (7 : Int32)) < x4 →
      vp_in x4 L ∧ 
      ∀ sv3 : Int32, sv3 = (xs x4.toNatClampNeg) &&& (63 : Int32) →
      ((sv3 = (0 : Int32) →
        fL_law_J224 L xs a3 k (fL_law_L23 L xs a3 k n) mc ms x4 w) ∧
      (¬ sv3 = (0 : Int32) →
      ((sv3 = (1 : Int32) →
        fL_law_J371 L xs a3 k (fL_law_L23 L xs a3 k n) mc ms x4 w) ∧
      (¬ sv3 = (1 : Int32) →
      ((sv3 = (2 : Int32) →
        fL_law_J384 L xs a3 k (fL_law_L23 L xs a3 k n) mc ms x4 w) ∧
      (¬ sv3 = (2 : Int32) →
      ((sv3 = (3 : Int32) →
        fL_law_J397 L xs a3 k (fL_law_L23 L xs a3 k n) mc ms x4 w) ∧
      (¬ sv3 = (3 : Int32) →
      ((sv3 = (4 : Int32) →
        fL_law_J434 L xs a3 k (fL_law_L23 L xs a3 k n) mc ms x4 w) ∧
      (¬ sv3 = (4 : Int32) →
      ((sv3 = (5 : Int32) →
        fL_law_J471 L xs a3 k (fL_law_L23 L xs a3 k n) mc ms x4 w) ∧
      (¬ sv3 = (5 : Int32) →
      ((sv3 = (6 : Int32) →
        fL_law_J508 L xs a3 k (fL_law_L23 L xs a3 k n) mc ms x4 w) ∧
      (¬ sv3 = (6 : Int32) →
      ((sv3 = (7 : Int32) →
        fL_law_J557 L xs a3 k (fL_law_L23 L xs a3 k n) mc ms x4 w) ∧
      (¬ sv3 = (7 : Int32) →
      ((sv3 = (8 : Int32) →
        fL_law_J582 L xs a3 k (fL_law_L23 L xs a3 k n) mc ms x4 w) ∧
      (¬ sv3 = (8 : Int32) →
      ((sv3 = (9 : Int32) →
        fL_law_J619 L xs a3 k (fL_law_L23 L xs a3 k n) mc ms x4 w) ∧
      (¬ sv3 = (9 : Int32) →
      ((sv3 = (10 : Int32) →
        fL_law_J644 L xs a3 k (fL_law_L23 L xs a3 k n) mc ms x4 w) ∧
      (¬ sv3 = (10 : Int32) →
      ((sv3 = (11 : Int32) →
        fL_law_J657 L xs a3 k (fL_law_L23 L xs a3 k n) mc ms x4 w) ∧
      (¬ sv3 = (11 : Int32) →
      ((sv3 = (12 : Int32) →
        fL_law_J682 L xs a3 k (fL_law_L23 L xs a3 k n) mc ms x4 w) ∧
      (¬ sv3 = (12 : Int32) →
      ((sv3 = (13 : Int32) →
        fL_law_J695 L xs a3 k (fL_law_L23 L xs a3 k n) mc ms x4 w) ∧
      (¬ sv3 = (13 : Int32) →
      ((sv3 = (14 : Int32) →
        fL_law_J732 L xs a3 k (fL_law_L23 L xs a3 k n) mc ms x4 w) ∧
      (¬ sv3 = (14 : Int32) →
      ((sv3 = (15 : Int32) →
        fL_law_J757 L xs a3 k (fL_law_L23 L xs a3 k n) mc ms x4 w) ∧
      (¬ sv3 = (15 : Int32) →
      ((sv3 = (16 : Int32) →
        fL_law_J782 L xs a3 k (fL_law_L23 L xs a3 k n) mc ms x4 w) ∧
      (¬ sv3 = (16 : Int32) →
      ((sv3 = (17 : Int32) →
        fL_law_J795 L xs a3 k (fL_law_L23 L xs a3 k n) mc ms x4 w) ∧
      (¬ sv3 = (17 : Int32) →
      ((sv3 = (18 : Int32) →
        fL_law_J844 L xs a3 k (fL_law_L23 L xs a3 k n) mc ms x4 w) ∧
      (¬ sv3 = (18 : Int32) →
      ((sv3 = (19 : Int32) →
        fL_law_J869 L xs a3 k (fL_law_L23 L xs a3 k n) mc ms x4 w) ∧
      (¬ sv3 = (19 : Int32) →
      ((sv3 = (20 : Int32) →
        fL_law_J894 L xs a3 k (fL_law_L23 L xs a3 k n) mc ms x4 w) ∧
      (¬ sv3 = (20 : Int32) →
      ((sv3 = (21 : Int32) →
        fL_law_J919 L xs a3 k (fL_law_L23 L xs a3 k n) mc ms x4 w) ∧
      (¬ sv3 = (21 : Int32) →
      ((sv3 = (22 : Int32) →
        fL_law_J932 L xs a3 k (fL_law_L23 L xs a3 k n) mc ms x4 w) ∧
      (¬ sv3 = (22 : Int32) →
      ((sv3 = (23 : Int32) →
        fL_law_J969 L xs a3 k (fL_law_L23 L xs a3 k n) mc ms x4 w) ∧
      (¬ sv3 = (23 : Int32) →
      ((sv3 = (24 : Int32) →
        fL_law_J982 L xs a3 k (fL_law_L23 L xs a3 k n) mc ms x4 w) ∧
      (¬ sv3 = (24 : Int32) →
      ((sv3 = (25 : Int32) →
        fL_law_J995 L xs a3 k (fL_law_L23 L xs a3 k n) mc ms x4 w) ∧
      (¬ sv3 = (25 : Int32) →
      ((sv3 = (26 : Int32) →
        fL_law_J1008 L xs a3 k (fL_law_L23 L xs a3 k n) mc ms x4 w) ∧
      (¬ sv3 = (26 : Int32) →
      ((sv3 = (27 : Int32) →
        fL_law_J1021 L xs a3 k (fL_law_L23 L xs a3 k n) mc ms x4 w) ∧
      (¬ sv3 = (27 : Int32) →
      ((sv3 = (28 : Int32) →
        fL_law_J1046 L xs a3 k (fL_law_L23 L xs a3 k n) mc ms x4 w) ∧
      (¬ sv3 = (28 : Int32) →
      ((sv3 = (29 : Int32) →
        fL_law_J1059 L xs a3 k (fL_law_L23 L xs a3 k n) mc ms x4 w) ∧
      (¬ sv3 = (29 : Int32) →
      ((sv3 = (30 : Int32) →
        fL_law_J1072 L xs a3 k (fL_law_L23 L xs a3 k n) mc ms x4 w) ∧
      (¬ sv3 = (30 : Int32) →
      ((sv3 = (31 : Int32) →
        fL_law_J1085 L xs a3 k (fL_law_L23 L xs a3 k n) mc ms x4 w) ∧
      (¬ sv3 = (31 : Int32) →
      ((sv3 = (32 : Int32) →
        fL_law_J1098 L xs a3 k (fL_law_L23 L xs a3 k n) mc ms x4 w) ∧
      (¬ sv3 = (32 : Int32) →
      ((sv3 = (33 : Int32) →
        fL_law_J1123 L xs a3 k (fL_law_L23 L xs a3 k n) mc ms x4 w) ∧
      (¬ sv3 = (33 : Int32) →
      ((sv3 = (34 : Int32) →
        fL_law_J1148 L xs a3 k (fL_law_L23 L xs a3 k n) mc ms x4 w) ∧
      (¬ sv3 = (34 : Int32) →
      ((sv3 = (35 : Int32) →
        fL_law_J1185 L xs a3 k (fL_law_L23 L xs a3 k n) mc ms x4 w) ∧
      (¬ sv3 = (35 : Int32) →
      ((sv3 = (36 : Int32) →
        fL_law_J1198 L xs a3 k (fL_law_L23 L xs a3 k n) mc ms x4 w) ∧
      (¬ sv3 = (36 : Int32) →
      ((sv3 = (37 : Int32) →
        fL_law_J1223 L xs a3 k (fL_law_L23 L xs a3 k n) mc ms x4 w) ∧
      (¬ sv3 = (37 : Int32) →
      ((sv3 = (38 : Int32) →
        fL_law_J1260 L xs a3 k (fL_law_L23 L xs a3 k n) mc ms x4 w) ∧
      (¬ sv3 = (38 : Int32) →
      ((sv3 = (39 : Int32) →
        fL_law_J1352 L xs a3 k (fL_law_L23 L xs a3 k n) mc ms x4 w) ∧
      (¬ sv3 = (39 : Int32) →
      ((sv3 = (40 : Int32) →
        fL_law_J1401 L xs a3 k (fL_law_L23 L xs a3 k n) mc ms x4 w) ∧
      (¬ sv3 = (40 : Int32) →
      ((sv3 = (41 : Int32) →
        fL_law_J1454 L xs a3 k (fL_law_L23 L xs a3 k n) mc ms x4 w) ∧
      (¬ sv3 = (41 : Int32) →
      
      fL_law_J1479 L xs a3 k (fL_law_L23 L xs a3 k n) mc ms x4 w))))))))))))))))))))))))))))))))))))))))))))))))))))))))))))))))))))))))))))))))))))))
set_option maxHeartbeats 4000000 in
set_option maxRecDepth 100000 in
theorem mL_law_L23 {k : Int32 → zW → Prop} {a3 : Nat} (X : zCx p s m args meth c cL_law 7 RL (some .boolean)) (hQ : zRetAI p l e R s m args below meth c Q D dA true ad0 al0 cL_law k) (hsc : va_X b L xs s s.heap ∧ b < s.heap.size ∧ ¬ zA ad0 al0 s.heap.size b) (hl0 : l.stackTraces = false) (hTh : zThE (zA ad0 al0 s.heap.size) s s.heap) (htw : ∀ w ∈ zTw, w.before args s = true)  : ∀ (n cells slots mc ms : Nat) (x4 : Int32) (ad : Nat → Nat) (al : Nat → Prop) (w : zW) (H : Heap) (locs : List Loc) (ls : Array Slot) (ha3 : al a3 ∧ zsh a3 = 21), fL_law_L23 L xs a3 k n mc ms x4 w → zExt ad0 al0 ad al → zRm R 145 (cells + mc) (slots + ms) → zSt D dA true ad0 al0 ad al w s H locs → lv_has ls 7 [(0, .ref b), (1, .ref (ad 1)), (2, .ref (ad 200)), (3, .ref (ad a3)), (4, .int x4)] → W p l e R s m args below meth c H locs cells slots Q (F0 m 23 ls []) := by
  intro n
  induction n with
  | zero => exact fun _ _ _ _ _ _ _ _ _ _ _ _ hf => hf.elim
  | succ n ih =>
    intro cells slots mc ms x4 ad al w H locs ls ha3 hf hX hr hR hl
    have hx := X.1
    have hb := X.2.1
    have hml := X.2.2.1
    have hown := X.2.2.2.1
    have hts := X.2.2.2.2.1
    rw [fL_law_L23] at hf
    refine lv_iload hx hb dL_law_23 (lv_at hl 4 rfl) ?_
    refine lv_aload_n hx hb dL_law_25 rfl (lv_at hl 0 rfl) ?_
    refine va_slen hx hb hsc.1 hsc.2.1 hsc.2.2 hR.2.2.1 dL_law_26 ?_
    refine lv_bipush (v := (7 : Int32)) hx hb dL_law_27 (by decide) ?_
    refine lv_isub hx hb dL_law_29 ?_
    refine lv_icmp_gt (tgt := 1485) hx hb dL_law_30 (by decide) (fun c1 => ?_) (fun c1 => ?_)
    · replace hf := hf.1 c1
      refine lv_iconst (v := (1 : Int32)) hx hb dL_law_1485 (by decide) ?_
      exact hQ _ _ _ _ _ _ _ _ _ _ hX (by have := hr.2.2.1; omega) (by have := hr.2.2.2; omega) hf hR dL_law_1486
    · replace hf := hf.2 c1
      refine lv_aload_n hx hb dL_law_33 rfl (lv_at hl 0 rfl) ?_
      refine lv_iload hx hb dL_law_34 (lv_at hl 4 rfl) ?_
      obtain ⟨hb2, hf⟩ := hf
      refine va_sld hx hb hsc.1 hsc.2.1 hsc.2.2 hR.2.2.1 hb2 dL_law_36 ?_
      refine lv_bipush (v := (63 : Int32)) hx hb dL_law_37 (by decide) ?_
      refine lv_iand hx hb dL_law_39 ?_
      refine lv_topi (fun sv3 hsv3 => ?_)
      replace hf := hf sv3 hsv3
      by_cases c4 : sv3 = (0 : Int32)
      · replace hf := hf.1 c4
        refine lv_tableIn (off := 184) (tgt := 224) hx hb dL_law_40 (by rw [c4]; decide) (by rw [c4]; decide) (by rw [c4]; decide) (by decide) ?_
        exact mL_law_J224 X hQ hsc hl0 hTh htw ih ha3 hf hX hr hR (lv_sub hl [0, 1, 2, 3, 4] rfl)
      replace hf := hf.2 c4
      by_cases c14 : sv3 = (1 : Int32)
      · replace hf := hf.1 c14
        refine lv_tableIn (off := 331) (tgt := 371) hx hb dL_law_40 (by rw [c14]; decide) (by rw [c14]; decide) (by rw [c14]; decide) (by decide) ?_
        exact mL_law_J371 X hQ hsc hl0 hTh htw ih ha3 hf hX hr hR (lv_sub hl [0, 1, 2, 3, 4] rfl)
      replace hf := hf.2 c14
      by_cases c18 : sv3 = (2 : Int32)
      · replace hf := hf.1 c18
        refine lv_tableIn (off := 344) (tgt := 384) hx hb dL_law_40 (by rw [c18]; decide) (by rw [c18]; decide) (by rw [c18]; decide) (by decide) ?_
        exact mL_law_J384 X hQ hsc hl0 hTh htw ih ha3 hf hX hr hR (lv_sub hl [0, 1, 2, 3, 4] rfl)
      replace hf := hf.2 c18
      by_cases c22 : sv3 = (3 : Int32)
      · replace hf := hf.1 c22
        refine lv_tableIn (off := 357) (tgt := 397) hx hb dL_law_40 (by rw [c22]; decide) (by rw [c22]; decide) (by rw [c22]; decide) (by decide) ?_
        exact mL_law_J397 X hQ hsc hl0 hTh htw ih ha3 hf hX hr hR (lv_sub hl [0, 1, 2, 3, 4] rfl)
      replace hf := hf.2 c22
      by_cases c28 : sv3 = (4 : Int32)
      · replace hf := hf.1 c28
        refine lv_tableIn (off := 394) (tgt := 434) hx hb dL_law_40 (by rw [c28]; decide) (by rw [c28]; decide) (by rw [c28]; decide) (by decide) ?_
        exact mL_law_J434 X hQ hsc hl0 hTh htw ih ha3 hf hX hr hR (lv_sub hl [0, 1, 2, 3, 4] rfl)
      replace hf := hf.2 c28
      by_cases c34 : sv3 = (5 : Int32)
      · replace hf := hf.1 c34
        refine lv_tableIn (off := 431) (tgt := 471) hx hb dL_law_40 (by rw [c34]; decide) (by rw [c34]; decide) (by rw [c34]; decide) (by decide) ?_
        exact mL_law_J471 X hQ hsc hl0 hTh htw ih ha3 hf hX hr hR (lv_sub hl [0, 1, 2, 3, 4] rfl)
      replace hf := hf.2 c34
      by_cases c40 : sv3 = (6 : Int32)
      · replace hf := hf.1 c40
        refine lv_tableIn (off := 468) (tgt := 508) hx hb dL_law_40 (by rw [c40]; decide) (by rw [c40]; decide) (by rw [c40]; decide) (by decide) ?_
        exact mL_law_J508 X hQ hsc hl0 hTh htw ih ha3 hf hX hr hR (lv_sub hl [0, 1, 2, 3, 4] rfl)
      replace hf := hf.2 c40
      by_cases c47 : sv3 = (7 : Int32)
      · replace hf := hf.1 c47
        refine lv_tableIn (off := 517) (tgt := 557) hx hb dL_law_40 (by rw [c47]; decide) (by rw [c47]; decide) (by rw [c47]; decide) (by decide) ?_
        exact mL_law_J557 X hQ hsc hl0 hTh htw ih ha3 hf hX hr hR (lv_sub hl [0, 1, 2, 3, 4] rfl)
      replace hf := hf.2 c47
      by_cases c52 : sv3 = (8 : Int32)
      · replace hf := hf.1 c52
        refine lv_tableIn (off := 542) (tgt := 582) hx hb dL_law_40 (by rw [c52]; decide) (by rw [c52]; decide) (by rw [c52]; decide) (by decide) ?_
        exact mL_law_J582 X hQ hsc hl0 hTh htw ih ha3 hf hX hr hR (lv_sub hl [0, 1, 2, 3, 4] rfl)
      replace hf := hf.2 c52
      by_cases c58 : sv3 = (9 : Int32)
      · replace hf := hf.1 c58
        refine lv_tableIn (off := 579) (tgt := 619) hx hb dL_law_40 (by rw [c58]; decide) (by rw [c58]; decide) (by rw [c58]; decide) (by decide) ?_
        exact mL_law_J619 X hQ hsc hl0 hTh htw ih ha3 hf hX hr hR (lv_sub hl [0, 1, 2, 3, 4] rfl)
      replace hf := hf.2 c58
      by_cases c63 : sv3 = (10 : Int32)
      · replace hf := hf.1 c63
        refine lv_tableIn (off := 604) (tgt := 644) hx hb dL_law_40 (by rw [c63]; decide) (by rw [c63]; decide) (by rw [c63]; decide) (by decide) ?_
        exact mL_law_J644 X hQ hsc hl0 hTh htw ih ha3 hf hX hr hR (lv_sub hl [0, 1, 2, 3, 4] rfl)
      replace hf := hf.2 c63
      by_cases c67 : sv3 = (11 : Int32)
      · replace hf := hf.1 c67
        refine lv_tableIn (off := 617) (tgt := 657) hx hb dL_law_40 (by rw [c67]; decide) (by rw [c67]; decide) (by rw [c67]; decide) (by decide) ?_
        exact mL_law_J657 X hQ hsc hl0 hTh htw ih ha3 hf hX hr hR (lv_sub hl [0, 1, 2, 3, 4] rfl)
      replace hf := hf.2 c67
      by_cases c72 : sv3 = (12 : Int32)
      · replace hf := hf.1 c72
        refine lv_tableIn (off := 642) (tgt := 682) hx hb dL_law_40 (by rw [c72]; decide) (by rw [c72]; decide) (by rw [c72]; decide) (by decide) ?_
        exact mL_law_J682 X hQ hsc hl0 hTh htw ih ha3 hf hX hr hR (lv_sub hl [0, 1, 2, 3, 4] rfl)
      replace hf := hf.2 c72
      by_cases c76 : sv3 = (13 : Int32)
      · replace hf := hf.1 c76
        refine lv_tableIn (off := 655) (tgt := 695) hx hb dL_law_40 (by rw [c76]; decide) (by rw [c76]; decide) (by rw [c76]; decide) (by decide) ?_
        exact mL_law_J695 X hQ hsc hl0 hTh htw ih ha3 hf hX hr hR (lv_sub hl [0, 1, 2, 3, 4] rfl)
      replace hf := hf.2 c76
      by_cases c82 : sv3 = (14 : Int32)
      · replace hf := hf.1 c82
        refine lv_tableIn (off := 692) (tgt := 732) hx hb dL_law_40 (by rw [c82]; decide) (by rw [c82]; decide) (by rw [c82]; decide) (by decide) ?_
        exact mL_law_J732 X hQ hsc hl0 hTh htw ih ha3 hf hX hr hR (lv_sub hl [0, 1, 2, 3, 4] rfl)
      replace hf := hf.2 c82
      by_cases c87 : sv3 = (15 : Int32)
      · replace hf := hf.1 c87
        refine lv_tableIn (off := 717) (tgt := 757) hx hb dL_law_40 (by rw [c87]; decide) (by rw [c87]; decide) (by rw [c87]; decide) (by decide) ?_
        exact mL_law_J757 X hQ hsc hl0 hTh htw ih ha3 hf hX hr hR (lv_sub hl [0, 1, 2, 3, 4] rfl)
      replace hf := hf.2 c87
      by_cases c92 : sv3 = (16 : Int32)
      · replace hf := hf.1 c92
        refine lv_tableIn (off := 742) (tgt := 782) hx hb dL_law_40 (by rw [c92]; decide) (by rw [c92]; decide) (by rw [c92]; decide) (by decide) ?_
        exact mL_law_J782 X hQ hsc hl0 hTh htw ih ha3 hf hX hr hR (lv_sub hl [0, 1, 2, 3, 4] rfl)
      replace hf := hf.2 c92
      by_cases c96 : sv3 = (17 : Int32)
      · replace hf := hf.1 c96
        refine lv_tableIn (off := 755) (tgt := 795) hx hb dL_law_40 (by rw [c96]; decide) (by rw [c96]; decide) (by rw [c96]; decide) (by decide) ?_
        exact mL_law_J795 X hQ hsc hl0 hTh htw ih ha3 hf hX hr hR (lv_sub hl [0, 1, 2, 3, 4] rfl)
      replace hf := hf.2 c96
      by_cases c103 : sv3 = (18 : Int32)
      · replace hf := hf.1 c103
        refine lv_tableIn (off := 804) (tgt := 844) hx hb dL_law_40 (by rw [c103]; decide) (by rw [c103]; decide) (by rw [c103]; decide) (by decide) ?_
        exact mL_law_J844 X hQ hsc hl0 hTh htw ih ha3 hf hX hr hR (lv_sub hl [0, 1, 2, 3, 4] rfl)
      replace hf := hf.2 c103
      by_cases c108 : sv3 = (19 : Int32)
      · replace hf := hf.1 c108
        refine lv_tableIn (off := 829) (tgt := 869) hx hb dL_law_40 (by rw [c108]; decide) (by rw [c108]; decide) (by rw [c108]; decide) (by decide) ?_
        exact mL_law_J869 X hQ hsc hl0 hTh htw ih ha3 hf hX hr hR (lv_sub hl [0, 1, 2, 3, 4] rfl)
      replace hf := hf.2 c108
      by_cases c113 : sv3 = (20 : Int32)
      · replace hf := hf.1 c113
        refine lv_tableIn (off := 854) (tgt := 894) hx hb dL_law_40 (by rw [c113]; decide) (by rw [c113]; decide) (by rw [c113]; decide) (by decide) ?_
        exact mL_law_J894 X hQ hsc hl0 hTh htw ih ha3 hf hX hr hR (lv_sub hl [0, 1, 2, 3, 4] rfl)
      replace hf := hf.2 c113
      by_cases c118 : sv3 = (21 : Int32)
      · replace hf := hf.1 c118
        refine lv_tableIn (off := 879) (tgt := 919) hx hb dL_law_40 (by rw [c118]; decide) (by rw [c118]; decide) (by rw [c118]; decide) (by decide) ?_
        exact mL_law_J919 X hQ hsc hl0 hTh htw ih ha3 hf hX hr hR (lv_sub hl [0, 1, 2, 3, 4] rfl)
      replace hf := hf.2 c118
      by_cases c122 : sv3 = (22 : Int32)
      · replace hf := hf.1 c122
        refine lv_tableIn (off := 892) (tgt := 932) hx hb dL_law_40 (by rw [c122]; decide) (by rw [c122]; decide) (by rw [c122]; decide) (by decide) ?_
        exact mL_law_J932 X hQ hsc hl0 hTh htw ih ha3 hf hX hr hR (lv_sub hl [0, 1, 2, 3, 4] rfl)
      replace hf := hf.2 c122
      by_cases c128 : sv3 = (23 : Int32)
      · replace hf := hf.1 c128
        refine lv_tableIn (off := 929) (tgt := 969) hx hb dL_law_40 (by rw [c128]; decide) (by rw [c128]; decide) (by rw [c128]; decide) (by decide) ?_
        exact mL_law_J969 X hQ hsc hl0 hTh htw ih ha3 hf hX hr hR (lv_sub hl [0, 1, 2, 3, 4] rfl)
      replace hf := hf.2 c128
      by_cases c132 : sv3 = (24 : Int32)
      · replace hf := hf.1 c132
        refine lv_tableIn (off := 942) (tgt := 982) hx hb dL_law_40 (by rw [c132]; decide) (by rw [c132]; decide) (by rw [c132]; decide) (by decide) ?_
        exact mL_law_J982 X hQ hsc hl0 hTh htw ih ha3 hf hX hr hR (lv_sub hl [0, 1, 2, 3, 4] rfl)
      replace hf := hf.2 c132
      by_cases c136 : sv3 = (25 : Int32)
      · replace hf := hf.1 c136
        refine lv_tableIn (off := 955) (tgt := 995) hx hb dL_law_40 (by rw [c136]; decide) (by rw [c136]; decide) (by rw [c136]; decide) (by decide) ?_
        exact mL_law_J995 X hQ hsc hl0 hTh htw ih ha3 hf hX hr hR (lv_sub hl [0, 1, 2, 3, 4] rfl)
      replace hf := hf.2 c136
      by_cases c140 : sv3 = (26 : Int32)
      · replace hf := hf.1 c140
        refine lv_tableIn (off := 968) (tgt := 1008) hx hb dL_law_40 (by rw [c140]; decide) (by rw [c140]; decide) (by rw [c140]; decide) (by decide) ?_
        exact mL_law_J1008 X hQ hsc hl0 hTh htw ih ha3 hf hX hr hR (lv_sub hl [0, 1, 2, 3, 4] rfl)
      replace hf := hf.2 c140
      by_cases c144 : sv3 = (27 : Int32)
      · replace hf := hf.1 c144
        refine lv_tableIn (off := 981) (tgt := 1021) hx hb dL_law_40 (by rw [c144]; decide) (by rw [c144]; decide) (by rw [c144]; decide) (by decide) ?_
        exact mL_law_J1021 X hQ hsc hl0 hTh htw ih ha3 hf hX hr hR (lv_sub hl [0, 1, 2, 3, 4] rfl)
      replace hf := hf.2 c144
      by_cases c149 : sv3 = (28 : Int32)
      · replace hf := hf.1 c149
        refine lv_tableIn (off := 1006) (tgt := 1046) hx hb dL_law_40 (by rw [c149]; decide) (by rw [c149]; decide) (by rw [c149]; decide) (by decide) ?_
        exact mL_law_J1046 X hQ hsc hl0 hTh htw ih ha3 hf hX hr hR (lv_sub hl [0, 1, 2, 3, 4] rfl)
      replace hf := hf.2 c149
      by_cases c153 : sv3 = (29 : Int32)
      · replace hf := hf.1 c153
        refine lv_tableIn (off := 1019) (tgt := 1059) hx hb dL_law_40 (by rw [c153]; decide) (by rw [c153]; decide) (by rw [c153]; decide) (by decide) ?_
        exact mL_law_J1059 X hQ hsc hl0 hTh htw ih ha3 hf hX hr hR (lv_sub hl [0, 1, 2, 3, 4] rfl)
      replace hf := hf.2 c153
      by_cases c157 : sv3 = (30 : Int32)
      · replace hf := hf.1 c157
        refine lv_tableIn (off := 1032) (tgt := 1072) hx hb dL_law_40 (by rw [c157]; decide) (by rw [c157]; decide) (by rw [c157]; decide) (by decide) ?_
        exact mL_law_J1072 X hQ hsc hl0 hTh htw ih ha3 hf hX hr hR (lv_sub hl [0, 1, 2, 3, 4] rfl)
      replace hf := hf.2 c157
      by_cases c161 : sv3 = (31 : Int32)
      · replace hf := hf.1 c161
        refine lv_tableIn (off := 1045) (tgt := 1085) hx hb dL_law_40 (by rw [c161]; decide) (by rw [c161]; decide) (by rw [c161]; decide) (by decide) ?_
        exact mL_law_J1085 X hQ hsc hl0 hTh htw ih ha3 hf hX hr hR (lv_sub hl [0, 1, 2, 3, 4] rfl)
      replace hf := hf.2 c161
      by_cases c165 : sv3 = (32 : Int32)
      · replace hf := hf.1 c165
        refine lv_tableIn (off := 1058) (tgt := 1098) hx hb dL_law_40 (by rw [c165]; decide) (by rw [c165]; decide) (by rw [c165]; decide) (by decide) ?_
        exact mL_law_J1098 X hQ hsc hl0 hTh htw ih ha3 hf hX hr hR (lv_sub hl [0, 1, 2, 3, 4] rfl)
      replace hf := hf.2 c165
      by_cases c170 : sv3 = (33 : Int32)
      · replace hf := hf.1 c170
        refine lv_tableIn (off := 1083) (tgt := 1123) hx hb dL_law_40 (by rw [c170]; decide) (by rw [c170]; decide) (by rw [c170]; decide) (by decide) ?_
        exact mL_law_J1123 X hQ hsc hl0 hTh htw ih ha3 hf hX hr hR (lv_sub hl [0, 1, 2, 3, 4] rfl)
      replace hf := hf.2 c170
      by_cases c175 : sv3 = (34 : Int32)
      · replace hf := hf.1 c175
        refine lv_tableIn (off := 1108) (tgt := 1148) hx hb dL_law_40 (by rw [c175]; decide) (by rw [c175]; decide) (by rw [c175]; decide) (by decide) ?_
        exact mL_law_J1148 X hQ hsc hl0 hTh htw ih ha3 hf hX hr hR (lv_sub hl [0, 1, 2, 3, 4] rfl)
      replace hf := hf.2 c175
      by_cases c181 : sv3 = (35 : Int32)
      · replace hf := hf.1 c181
        refine lv_tableIn (off := 1145) (tgt := 1185) hx hb dL_law_40 (by rw [c181]; decide) (by rw [c181]; decide) (by rw [c181]; decide) (by decide) ?_
        exact mL_law_J1185 X hQ hsc hl0 hTh htw ih ha3 hf hX hr hR (lv_sub hl [0, 1, 2, 3, 4] rfl)
      replace hf := hf.2 c181
      by_cases c185 : sv3 = (36 : Int32)
      · replace hf := hf.1 c185
        refine lv_tableIn (off := 1158) (tgt := 1198) hx hb dL_law_40 (by rw [c185]; decide) (by rw [c185]; decide) (by rw [c185]; decide) (by decide) ?_
        exact mL_law_J1198 X hQ hsc hl0 hTh htw ih ha3 hf hX hr hR (lv_sub hl [0, 1, 2, 3, 4] rfl)
      replace hf := hf.2 c185
      by_cases c190 : sv3 = (37 : Int32)
      · replace hf := hf.1 c190
        refine lv_tableIn (off := 1183) (tgt := 1223) hx hb dL_law_40 (by rw [c190]; decide) (by rw [c190]; decide) (by rw [c190]; decide) (by decide) ?_
        exact mL_law_J1223 X hQ hsc hl0 hTh htw ih ha3 hf hX hr hR (lv_sub hl [0, 1, 2, 3, 4] rfl)
      replace hf := hf.2 c190
      by_cases c196 : sv3 = (38 : Int32)
      · replace hf := hf.1 c196
        refine lv_tableIn (off := 1220) (tgt := 1260) hx hb dL_law_40 (by rw [c196]; decide) (by rw [c196]; decide) (by rw [c196]; decide) (by decide) ?_
        exact mL_law_J1260 X hQ hsc hl0 hTh htw ih ha3 hf hX hr hR (lv_sub hl [0, 1, 2, 3, 4] rfl)
      replace hf := hf.2 c196
      by_cases c208 : sv3 = (39 : Int32)
      · replace hf := hf.1 c208
        refine lv_tableIn (off := 1312) (tgt := 1352) hx hb dL_law_40 (by rw [c208]; decide) (by rw [c208]; decide) (by rw [c208]; decide) (by decide) ?_
        exact mL_law_J1352 X hQ hsc hl0 hTh htw ih ha3 hf hX hr hR (lv_sub hl [0, 1, 2, 3, 4] rfl)
      replace hf := hf.2 c208
      by_cases c215 : sv3 = (40 : Int32)
      · replace hf := hf.1 c215
        refine lv_tableIn (off := 1361) (tgt := 1401) hx hb dL_law_40 (by rw [c215]; decide) (by rw [c215]; decide) (by rw [c215]; decide) (by decide) ?_
        exact mL_law_J1401 X hQ hsc hl0 hTh htw ih ha3 hf hX hr hR (lv_sub hl [0, 1, 2, 3, 4] rfl)
      replace hf := hf.2 c215
      by_cases c225 : sv3 = (41 : Int32)
      · replace hf := hf.1 c225
        refine lv_tableIn (off := 1414) (tgt := 1454) hx hb dL_law_40 (by rw [c225]; decide) (by rw [c225]; decide) (by rw [c225]; decide) (by decide) ?_
        exact mL_law_J1454 X hQ hsc hl0 hTh htw ih ha3 hf hX hr hR (lv_sub hl [0, 1, 2, 3, 4] rfl)
      replace hf := hf.2 c225
      have ho40 : sv3.toInt < 0 ∨ 41 < sv3.toInt := by
        have h9 := ztab 42 (x := sv3.toInt) (fun j hj => match j, hj with
          | 0, _ => fun e9 => z_i32ne (k := (0 : Int32)) c4 (e9.trans (by decide))
          | 1, _ => fun e9 => z_i32ne (k := (1 : Int32)) c14 (e9.trans (by decide))
          | 2, _ => fun e9 => z_i32ne (k := (2 : Int32)) c18 (e9.trans (by decide))
          | 3, _ => fun e9 => z_i32ne (k := (3 : Int32)) c22 (e9.trans (by decide))
          | 4, _ => fun e9 => z_i32ne (k := (4 : Int32)) c28 (e9.trans (by decide))
          | 5, _ => fun e9 => z_i32ne (k := (5 : Int32)) c34 (e9.trans (by decide))
          | 6, _ => fun e9 => z_i32ne (k := (6 : Int32)) c40 (e9.trans (by decide))
          | 7, _ => fun e9 => z_i32ne (k := (7 : Int32)) c47 (e9.trans (by decide))
          | 8, _ => fun e9 => z_i32ne (k := (8 : Int32)) c52 (e9.trans (by decide))
          | 9, _ => fun e9 => z_i32ne (k := (9 : Int32)) c58 (e9.trans (by decide))
          | 10, _ => fun e9 => z_i32ne (k := (10 : Int32)) c63 (e9.trans (by decide))
          | 11, _ => fun e9 => z_i32ne (k := (11 : Int32)) c67 (e9.trans (by decide))
          | 12, _ => fun e9 => z_i32ne (k := (12 : Int32)) c72 (e9.trans (by decide))
          | 13, _ => fun e9 => z_i32ne (k := (13 : Int32)) c76 (e9.trans (by decide))
          | 14, _ => fun e9 => z_i32ne (k := (14 : Int32)) c82 (e9.trans (by decide))
          | 15, _ => fun e9 => z_i32ne (k := (15 : Int32)) c87 (e9.trans (by decide))
          | 16, _ => fun e9 => z_i32ne (k := (16 : Int32)) c92 (e9.trans (by decide))
          | 17, _ => fun e9 => z_i32ne (k := (17 : Int32)) c96 (e9.trans (by decide))
          | 18, _ => fun e9 => z_i32ne (k := (18 : Int32)) c103 (e9.trans (by decide))
          | 19, _ => fun e9 => z_i32ne (k := (19 : Int32)) c108 (e9.trans (by decide))
          | 20, _ => fun e9 => z_i32ne (k := (20 : Int32)) c113 (e9.trans (by decide))
          | 21, _ => fun e9 => z_i32ne (k := (21 : Int32)) c118 (e9.trans (by decide))
          | 22, _ => fun e9 => z_i32ne (k := (22 : Int32)) c122 (e9.trans (by decide))
          | 23, _ => fun e9 => z_i32ne (k := (23 : Int32)) c128 (e9.trans (by decide))
          | 24, _ => fun e9 => z_i32ne (k := (24 : Int32)) c132 (e9.trans (by decide))
          | 25, _ => fun e9 => z_i32ne (k := (25 : Int32)) c136 (e9.trans (by decide))
          | 26, _ => fun e9 => z_i32ne (k := (26 : Int32)) c140 (e9.trans (by decide))
          | 27, _ => fun e9 => z_i32ne (k := (27 : Int32)) c144 (e9.trans (by decide))
          | 28, _ => fun e9 => z_i32ne (k := (28 : Int32)) c149 (e9.trans (by decide))
          | 29, _ => fun e9 => z_i32ne (k := (29 : Int32)) c153 (e9.trans (by decide))
          | 30, _ => fun e9 => z_i32ne (k := (30 : Int32)) c157 (e9.trans (by decide))
          | 31, _ => fun e9 => z_i32ne (k := (31 : Int32)) c161 (e9.trans (by decide))
          | 32, _ => fun e9 => z_i32ne (k := (32 : Int32)) c165 (e9.trans (by decide))
          | 33, _ => fun e9 => z_i32ne (k := (33 : Int32)) c170 (e9.trans (by decide))
          | 34, _ => fun e9 => z_i32ne (k := (34 : Int32)) c175 (e9.trans (by decide))
          | 35, _ => fun e9 => z_i32ne (k := (35 : Int32)) c181 (e9.trans (by decide))
          | 36, _ => fun e9 => z_i32ne (k := (36 : Int32)) c185 (e9.trans (by decide))
          | 37, _ => fun e9 => z_i32ne (k := (37 : Int32)) c190 (e9.trans (by decide))
          | 38, _ => fun e9 => z_i32ne (k := (38 : Int32)) c196 (e9.trans (by decide))
          | 39, _ => fun e9 => z_i32ne (k := (39 : Int32)) c208 (e9.trans (by decide))
          | 40, _ => fun e9 => z_i32ne (k := (40 : Int32)) c215 (e9.trans (by decide))
          | 41, _ => fun e9 => z_i32ne (k := (41 : Int32)) c225 (e9.trans (by decide))
          | q + 42, h => absurd h (by omega))
        omega
      refine lv_tableOut (tgt := 1479) hx hb dL_law_40 ho40 (by decide) ?_
      exact mL_law_J1479 X hQ hsc hl0 hTh htw ih ha3 hf hX hr hR (lv_sub hl [0, 1, 2, 3, 4] rfl)
end ZM

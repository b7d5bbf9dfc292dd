theorem dX11_count_0 : decode cX11_count 0 = .ok (.iload_n 1, 1) := by decide +kernel
theorem dX11_count_1 : decode cX11_count 1 = .ok (.tableswitch 123 0 8 #[51, 59, 67, 75, 83, 91, 99, 107, 115], 51) := by decide +kernel
theorem dX11_count_52 : decode cX11_count 52 = .ok (.aload_n 0, 1) := by decide +kernel
theorem dX11_count_53 : decode cX11_count 53 = .ok (.getfield 71, 3) := by decide +kernel
theorem dX11_count_56 : decode cX11_count 56 = .ok (.getfield 221, 3) := by decide +kernel
theorem dX11_count_59 : decode cX11_count 59 = .ok (.ireturn, 1) := by decide +kernel
theorem dX11_count_60 : decode cX11_count 60 = .ok (.aload_n 0, 1) := by decide +kernel
theorem dX11_count_61 : decode cX11_count 61 = .ok (.getfield 71, 3) := by decide +kernel
theorem dX11_count_64 : decode cX11_count 64 = .ok (.getfield 239, 3) := by decide +kernel
theorem dX11_count_67 : decode cX11_count 67 = .ok (.ireturn, 1) := by decide +kernel
theorem dX11_count_68 : decode cX11_count 68 = .ok (.aload_n 0, 1) := by decide +kernel
theorem dX11_count_69 : decode cX11_count 69 = .ok (.getfield 71, 3) := by decide +kernel
theorem dX11_count_72 : decode cX11_count 72 = .ok (.getfield 349, 3) := by decide +kernel
theorem dX11_count_75 : decode cX11_count 75 = .ok (.ireturn, 1) := by decide +kernel
theorem dX11_count_76 : decode cX11_count 76 = .ok (.aload_n 0, 1) := by decide +kernel
theorem dX11_count_77 : decode cX11_count 77 = .ok (.getfield 28, 3) := by decide +kernel
theorem dX11_count_80 : decode cX11_count 80 = .ok (.invokevirtual 352, 3) := by decide +kernel
theorem dX11_count_83 : decode cX11_count 83 = .ok (.ireturn, 1) := by decide +kernel
theorem dX11_count_84 : decode cX11_count 84 = .ok (.aload_n 0, 1) := by decide +kernel
theorem dX11_count_85 : decode cX11_count 85 = .ok (.getfield 28, 3) := by decide +kernel
theorem dX11_count_88 : decode cX11_count 88 = .ok (.invokevirtual 292, 3) := by decide +kernel
theorem dX11_count_91 : decode cX11_count 91 = .ok (.ireturn, 1) := by decide +kernel
theorem dX11_count_92 : decode cX11_count 92 = .ok (.aload_n 0, 1) := by decide +kernel
theorem dX11_count_93 : decode cX11_count 93 = .ok (.getfield 71, 3) := by decide +kernel
theorem dX11_count_96 : decode cX11_count 96 = .ok (.invokevirtual 323, 3) := by decide +kernel
theorem dX11_count_99 : decode cX11_count 99 = .ok (.ireturn, 1) := by decide +kernel
theorem dX11_count_100 : decode cX11_count 100 = .ok (.aload_n 0, 1) := by decide +kernel
theorem dX11_count_101 : decode cX11_count 101 = .ok (.getfield 81, 3) := by decide +kernel
theorem dX11_count_104 : decode cX11_count 104 = .ok (.getfield 355, 3) := by decide +kernel
theorem dX11_count_107 : decode cX11_count 107 = .ok (.ireturn, 1) := by decide +kernel
theorem dX11_count_108 : decode cX11_count 108 = .ok (.aload_n 0, 1) := by decide +kernel
theorem dX11_count_109 : decode cX11_count 109 = .ok (.getfield 43, 3) := by decide +kernel
theorem dX11_count_112 : decode cX11_count 112 = .ok (.getfield 107, 3) := by decide +kernel
theorem dX11_count_115 : decode cX11_count 115 = .ok (.ireturn, 1) := by decide +kernel
theorem dX11_count_116 : decode cX11_count 116 = .ok (.aload_n 0, 1) := by decide +kernel
theorem dX11_count_117 : decode cX11_count 117 = .ok (.getfield 10, 3) := by decide +kernel
theorem dX11_count_120 : decode cX11_count 120 = .ok (.getfield 92, 3) := by decide +kernel
theorem dX11_count_123 : decode cX11_count 123 = .ok (.ireturn, 1) := by decide +kernel
theorem dX11_count_124 : decode cX11_count 124 = .ok (.iconst (-1), 1) := by decide +kernel
theorem dX11_count_125 : decode cX11_count 125 = .ok (.ireturn, 1) := by decide +kernel
theorem zq_1614 : Cond.fieldLink RX11 349 "ForeignKnit$Book" "casts" "I" ∈ zG := List.mem_of_getElem? (i := 1614) (by decide +kernel)
theorem zq_1615 : Cond.fieldLink RX11 355 "ForeignKnit$Notes" "lines" "I" ∈ zG := List.mem_of_getElem? (i := 1615) (by decide +kernel)
theorem zq_1616 : Cond.methodLink RX11 352 yX3_guessBits ∈ zG := List.mem_of_getElem? (i := 1616) (by decide +kernel)
theorem zfd_X11_107 : zFd RX11 107 6 0 := ⟨_, rfl, by decide, zq_258⟩
theorem zfd_X11_349 : zFd RX11 349 0 6 := ⟨_, rfl, by decide, zq_1614⟩
theorem zfd_X11_355 : zFd RX11 355 5 0 := ⟨_, rfl, by decide, zq_1615⟩
section ZM
variable {p : Program} {l : Launch} {e : Env} {R : Room} {s : State} {m : MethodId} {args : Array Value} {below : List Frame} {meth : Method} {c : Code} {cells slots : Nat} {Q : State → Prop} {D : va_G} {dA : Nat → ClassId} {ad ad0 : Nat → Nat} {al al0 : Nat → Prop}
/-! X11_count -/
def fX11_count (x1 : Int32) (w : zW) (k : Int32 → zW → Prop) : Prop :=
  ∀ sv1 : Int32, sv1 = x1 →
  ((sv1 = (0 : Int32) →
    ¬ gR w 1 9 = 0 ∧
    k (gI w (gR w 1 9) 0) w) ∧
  (¬ sv1 = (0 : Int32) →
  ((sv1 = (1 : Int32) →
    ¬ gR w 1 9 = 0 ∧
    k (gI w (gR w 1 9) 7) w) ∧
  (¬ sv1 = (1 : Int32) →
  ((sv1 = (2 : Int32) →
    ¬ gR w 1 9 = 0 ∧
    k (gI w (gR w 1 9) 6) w) ∧
  (¬ sv1 = (2 : Int32) →
  ((sv1 = (3 : Int32) →
    fX3_guessBits 9 w (fun r9 w9 =>
    k r9 w9)) ∧
  (¬ sv1 = (3 : Int32) →
  ((sv1 = (4 : Int32) →
    fX3_countBits 9 w (fun r11 w11 =>
    k r11 w11)) ∧
  (¬ sv1 = (4 : Int32) →
  ((sv1 = (5 : Int32) →
    ¬ gR w 1 9 = 0 ∧
    fX0_dictionaries (gR w 1 9) w (fun r14 w14 =>
    k r14 w14)) ∧
  (¬ sv1 = (5 : Int32) →
  ((sv1 = (6 : Int32) →
    ¬ gR w 1 11 = 0 ∧
    k (gI w (gR w 1 11) 0) w) ∧
  (¬ sv1 = (6 : Int32) →
  ((sv1 = (7 : Int32) →
    k (gI w 21 0) w) ∧
  (¬ sv1 = (7 : Int32) →
  ((sv1 = (8 : Int32) →
    k (gI w 2 1) w) ∧
  (¬ sv1 = (8 : Int32) →
  
  k (-1 : Int32) w))))))))))))))))))
set_option maxHeartbeats 4000000 in
set_option maxRecDepth 100000 in
theorem mX11_count {l : Launch} {D : va_G} {dA : Nat → ClassId} {ad : Nat → Nat} {al : Nat → Prop} {w : zW} {k : Int32 → zW → Prop} {x1 : Int32}   (hf : fX11_count x1 w k) : zmetI l yX11_count cX11_count 2 (some .int) 2 [.ref (ad 1), .int x1] D dA true ad al w k := by
  refine zmetI_of (by decide) (Nat.le_of_ble_eq_true rfl) ?_
  intro p e R s m below meth c Q H ls args locs cells slots X hr hQ hR hl
  have hx := X.1
  have hb := X.2.1
  have hml := X.2.2.1
  have hown := X.2.2.2.1
  have hts := X.2.2.2.2.1
  unfold fX11_count at hf
  have hl : lv_has ls 2 [(0, .ref (ad 1)), (1, .int x1)] := hl
  refine lv_iload_n hx hb dX11_count_0 rfl (lv_at hl 1 rfl) ?_
  refine lv_topi (fun sv1 hsv1 => ?_)
  replace hf := hf sv1 hsv1
  by_cases c2 : sv1 = (0 : Int32)
  · replace hf := hf.1 c2
    refine lv_tableIn (off := 51) (tgt := 52) hx hb dX11_count_1 (by rw [c2]; decide) (by rw [c2]; decide) (by rw [c2]; decide) (by decide) ?_
    refine lv_aload_n hx hb dX11_count_52 rfl (lv_at hl 0 rfl) ?_
    refine z_getR X hR (zlit hR zf_1) zs_1 (by decide) zfd_X11_71 rfl dX11_count_53 ?_
    obtain ⟨hn30, hf⟩ := hf
    have hn3 : al (gR w 1 9) ∧ zsh (gR w 1 9) = 0 := zwt_of hR (zlit hR zf_1) zs_1 rfl hn30 (zdc_of zs_1 rfl)
    rw [zrf_pos hn30]
    refine z_getI X hR hn3.1 hn3.2 (by decide) zfd_X11_221 rfl dX11_count_56 ?_
    exact hQ _ _ _ _ _ _ hf hR dX11_count_59
  replace hf := hf.2 c2
  by_cases c4 : sv1 = (1 : Int32)
  · replace hf := hf.1 c4
    refine lv_tableIn (off := 59) (tgt := 60) hx hb dX11_count_1 (by rw [c4]; decide) (by rw [c4]; decide) (by rw [c4]; decide) (by decide) ?_
    refine lv_aload_n hx hb dX11_count_60 rfl (lv_at hl 0 rfl) ?_
    refine z_getR X hR (zlit hR zf_1) zs_1 (by decide) zfd_X11_71 rfl dX11_count_61 ?_
    obtain ⟨hn50, hf⟩ := hf
    have hn5 : al (gR w 1 9) ∧ zsh (gR w 1 9) = 0 := zwt_of hR (zlit hR zf_1) zs_1 rfl hn50 (zdc_of zs_1 rfl)
    rw [zrf_pos hn50]
    refine z_getI X hR hn5.1 hn5.2 (by decide) zfd_X11_239 rfl dX11_count_64 ?_
    exact hQ _ _ _ _ _ _ hf hR dX11_count_67
  replace hf := hf.2 c4
  by_cases c6 : sv1 = (2 : Int32)
  · replace hf := hf.1 c6
    refine lv_tableIn (off := 67) (tgt := 68) hx hb dX11_count_1 (by rw [c6]; decide) (by rw [c6]; decide) (by rw [c6]; decide) (by decide) ?_
    refine lv_aload_n hx hb dX11_count_68 rfl (lv_at hl 0 rfl) ?_
    refine z_getR X hR (zlit hR zf_1) zs_1 (by decide) zfd_X11_71 rfl dX11_count_69 ?_
    obtain ⟨hn70, hf⟩ := hf
    have hn7 : al (gR w 1 9) ∧ zsh (gR w 1 9) = 0 := zwt_of hR (zlit hR zf_1) zs_1 rfl hn70 (zdc_of zs_1 rfl)
    rw [zrf_pos hn70]
    refine z_getI X hR hn7.1 hn7.2 (by decide) zfd_X11_349 rfl dX11_count_72 ?_
    exact hQ _ _ _ _ _ _ hf hR dX11_count_75
  replace hf := hf.2 c6
  by_cases c8 : sv1 = (3 : Int32)
  · replace hf := hf.1 c8
    refine lv_tableIn (off := 75) (tgt := 76) hx hb dX11_count_1 (by rw [c8]; decide) (by rw [c8]; decide) (by rw [c8]; decide) (by decide) ?_
    refine lv_aload_n hx hb dX11_count_76 rfl (lv_at hl 0 rfl) ?_
    refine z_getS X hR (zlit hR zf_1) zs_1 (by decide) zfd_X11_28 rfl (r := 9) (by decide +kernel) dX11_count_77 ?_
    refine z_callVI (fr1 := 1) (b := 9) (As := []) (rest := []) X (hr.le (by decide)) hR zy_X3_guessBits zq_1616 (zlit hR zf_9) (by rw [zs_9]; rfl) rfl (mX3_guessBits ⟨(zlit hR zf_9), zs_9⟩ hf) rfl hl (Nat.le_of_ble_eq_true rfl) dX11_count_80 rfl (fun r9 w9 H locs hf hR => ?_)
    exact hQ _ _ _ _ _ _ hf hR dX11_count_83
  replace hf := hf.2 c8
  by_cases c10 : sv1 = (4 : Int32)
  · replace hf := hf.1 c10
    refine lv_tableIn (off := 83) (tgt := 84) hx hb dX11_count_1 (by rw [c10]; decide) (by rw [c10]; decide) (by rw [c10]; decide) (by decide) ?_
    refine lv_aload_n hx hb dX11_count_84 rfl (lv_at hl 0 rfl) ?_
    refine z_getS X hR (zlit hR zf_1) zs_1 (by decide) zfd_X11_28 rfl (r := 9) (by decide +kernel) dX11_count_85 ?_
    refine z_callVI (fr1 := 1) (b := 9) (As := []) (rest := []) X (hr.le (by decide)) hR zy_X3_countBits zq_1495 (zlit hR zf_9) (by rw [zs_9]; rfl) rfl (mX3_countBits ⟨(zlit hR zf_9), zs_9⟩ hf) rfl hl (Nat.le_of_ble_eq_true rfl) dX11_count_88 rfl (fun r11 w11 H locs hf hR => ?_)
    exact hQ _ _ _ _ _ _ hf hR dX11_count_91
  replace hf := hf.2 c10
  by_cases c12 : sv1 = (5 : Int32)
  · replace hf := hf.1 c12
    refine lv_tableIn (off := 91) (tgt := 92) hx hb dX11_count_1 (by rw [c12]; decide) (by rw [c12]; decide) (by rw [c12]; decide) (by decide) ?_
    refine lv_aload_n hx hb dX11_count_92 rfl (lv_at hl 0 rfl) ?_
    refine z_getR X hR (zlit hR zf_1) zs_1 (by decide) zfd_X11_71 rfl dX11_count_93 ?_
    obtain ⟨hn130, hf⟩ := hf
    have hn13 : al (gR w 1 9) ∧ zsh (gR w 1 9) = 0 := zwt_of hR (zlit hR zf_1) zs_1 rfl hn130 (zdc_of zs_1 rfl)
    rw [zrf_pos hn130]
    refine z_callVI (fr1 := 0) (b := (gR w 1 9)) (As := []) (rest := []) X (hr.le (by decide)) hR zy_X0_dictionaries zq_1570 hn13.1 (by rw [hn13.2]; rfl) rfl (mX0_dictionaries ⟨hn13.1, hn13.2⟩ hf) rfl hl (Nat.le_of_ble_eq_true rfl) dX11_count_96 rfl (fun r14 w14 H locs hf hR => ?_)
    exact hQ _ _ _ _ _ _ hf hR dX11_count_99
  replace hf := hf.2 c12
  by_cases c15 : sv1 = (6 : Int32)
  · replace hf := hf.1 c15
    refine lv_tableIn (off := 99) (tgt := 100) hx hb dX11_count_1 (by rw [c15]; decide) (by rw [c15]; decide) (by rw [c15]; decide) (by decide) ?_
    refine lv_aload_n hx hb dX11_count_100 rfl (lv_at hl 0 rfl) ?_
    refine z_getR X hR (zlit hR zf_1) zs_1 (by decide) zfd_X11_81 rfl dX11_count_101 ?_
    obtain ⟨hn160, hf⟩ := hf
    have hn16 : al (gR w 1 11) ∧ zsh (gR w 1 11) = 5 := zwt_of hR (zlit hR zf_1) zs_1 rfl hn160 (zdc_of zs_1 rfl)
    rw [zrf_pos hn160]
    refine z_getI X hR hn16.1 hn16.2 (by decide) zfd_X11_355 rfl dX11_count_104 ?_
    exact hQ _ _ _ _ _ _ hf hR dX11_count_107
  replace hf := hf.2 c15
  by_cases c17 : sv1 = (7 : Int32)
  · replace hf := hf.1 c17
    refine lv_tableIn (off := 107) (tgt := 108) hx hb dX11_count_1 (by rw [c17]; decide) (by rw [c17]; decide) (by rw [c17]; decide) (by decide) ?_
    refine lv_aload_n hx hb dX11_count_108 rfl (lv_at hl 0 rfl) ?_
    refine z_getS X hR (zlit hR zf_1) zs_1 (by decide) zfd_X11_43 rfl (r := 21) (by decide +kernel) dX11_count_109 ?_
    refine z_getI X hR (zlit hR zf_21) zs_21 (by decide) zfd_X11_107 rfl dX11_count_112 ?_
    exact hQ _ _ _ _ _ _ hf hR dX11_count_115
  replace hf := hf.2 c17
  by_cases c18 : sv1 = (8 : Int32)
  · replace hf := hf.1 c18
    refine lv_tableIn (off := 115) (tgt := 116) hx hb dX11_count_1 (by rw [c18]; decide) (by rw [c18]; decide) (by rw [c18]; decide) (by decide) ?_
    refine lv_aload_n hx hb dX11_count_116 rfl (lv_at hl 0 rfl) ?_
    refine z_getS X hR (zlit hR zf_1) zs_1 (by decide) zfd_X11_10 rfl (r := 2) (by decide +kernel) dX11_count_117 ?_
    refine z_getI X hR (zlit hR zf_2) zs_2 (by decide) zfd_X11_92 rfl dX11_count_120 ?_
    exact hQ _ _ _ _ _ _ hf hR dX11_count_123
  replace hf := hf.2 c18
  have ho1 : sv1.toInt < 0 ∨ 8 < sv1.toInt := by
    have := z_i32ne (k := (0 : Int32)) c2
    have := z_i32ne (k := (1 : Int32)) c4
    have := z_i32ne (k := (2 : Int32)) c6
    have := z_i32ne (k := (3 : Int32)) c8
    have := z_i32ne (k := (4 : Int32)) c10
    have := z_i32ne (k := (5 : Int32)) c12
    have := z_i32ne (k := (6 : Int32)) c15
    have := z_i32ne (k := (7 : Int32)) c17
    have := z_i32ne (k := (8 : Int32)) c18
    simp only [show ((0 : Int32)).toInt = 0 from by decide, show ((1 : Int32)).toInt = 1 from by decide, show ((2 : Int32)).toInt = 2 from by decide, show ((3 : Int32)).toInt = 3 from by decide, show ((4 : Int32)).toInt = 4 from by decide, show ((5 : Int32)).toInt = 5 from by decide, show ((6 : Int32)).toInt = 6 from by decide, show ((7 : Int32)).toInt = 7 from by decide, show ((8 : Int32)).toInt = 8 from by decide] at *
    omega
  refine lv_tableOut (tgt := 124) hx hb dX11_count_1 ho1 (by decide) ?_
  refine lv_iconst (v := (-1 : Int32)) hx hb dX11_count_124 (by decide) ?_
  exact hQ _ _ _ _ _ _ hf hR dX11_count_125
end ZM

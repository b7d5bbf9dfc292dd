theorem dX11_rests_0 : decode cX11_rests 0 = .ok (.iload_n 1, 1) := by decide +kernel
theorem dX11_rests_1 : decode cX11_rests 1 = .ok (.invokestatic 309, 3) := by decide +kernel
theorem dX11_rests_4 : decode cX11_rests 4 = .ok (.ifCond .eq 23, 3) := by decide +kernel
theorem dX11_rests_7 : decode cX11_rests 7 = .ok (.iload_n 2, 1) := by decide +kernel
theorem dX11_rests_8 : decode cX11_rests 8 = .ok (.invokestatic 309, 3) := by decide +kernel
theorem dX11_rests_11 : decode cX11_rests 11 = .ok (.ifCond .eq 16, 3) := by decide +kernel
theorem dX11_rests_14 : decode cX11_rests 14 = .ok (.iload_n 3, 1) := by decide +kernel
theorem dX11_rests_15 : decode cX11_rests 15 = .ok (.invokestatic 309, 3) := by decide +kernel
theorem dX11_rests_18 : decode cX11_rests 18 = .ok (.ifCond .eq 9, 3) := by decide +kernel
theorem dX11_rests_21 : decode cX11_rests 21 = .ok (.iload 4, 2) := by decide +kernel
theorem dX11_rests_23 : decode cX11_rests 23 = .ok (.iconst (-1), 1) := by decide +kernel
theorem dX11_rests_24 : decode cX11_rests 24 = .ok (.if_icmp .ge 14, 3) := by decide +kernel
theorem dX11_rests_27 : decode cX11_rests 27 = .ok (.new 312, 3) := by decide +kernel
theorem dX11_rests_30 : decode cX11_rests 30 = .ok (.dup, 1) := by decide +kernel
theorem dX11_rests_31 : decode cX11_rests 31 = .ok (.ldc_w 314, 3) := by decide +kernel
theorem dX11_rests_34 : decode cX11_rests 34 = .ok (.invokespecial 316, 3) := by decide +kernel
theorem dX11_rests_37 : decode cX11_rests 37 = .ok (.athrow, 1) := by decide +kernel
theorem dX11_rests_38 : decode cX11_rests 38 = .ok (.iconst 0, 1) := by decide +kernel
theorem dX11_rests_39 : decode cX11_rests 39 = .ok (.istore 5, 2) := by decide +kernel
theorem dX11_rests_41 : decode cX11_rests 41 = .ok (.iconst 0, 1) := by decide +kernel
theorem dX11_rests_42 : decode cX11_rests 42 = .ok (.istore 6, 2) := by decide +kernel
theorem dX11_rests_44 : decode cX11_rests 44 = .ok (.iload 6, 2) := by decide +kernel
theorem dX11_rests_46 : decode cX11_rests 46 = .ok (.iconst 4, 1) := by decide +kernel
theorem dX11_rests_47 : decode cX11_rests 47 = .ok (.if_icmp .ge 60, 3) := by decide +kernel
theorem dX11_rests_50 : decode cX11_rests 50 = .ok (.iload 6, 2) := by decide +kernel
theorem dX11_rests_52 : decode cX11_rests 52 = .ok (.iconst 2, 1) := by decide +kernel
theorem dX11_rests_53 : decode cX11_rests 53 = .ok (.idiv, 1) := by decide +kernel
theorem dX11_rests_54 : decode cX11_rests 54 = .ok (.istore 7, 2) := by decide +kernel
theorem dX11_rests_56 : decode cX11_rests 56 = .ok (.iload 6, 2) := by decide +kernel
theorem dX11_rests_58 : decode cX11_rests 58 = .ok (.iconst 2, 1) := by decide +kernel
theorem dX11_rests_59 : decode cX11_rests 59 = .ok (.irem, 1) := by decide +kernel
theorem dX11_rests_60 : decode cX11_rests 60 = .ok (.istore 8, 2) := by decide +kernel
theorem dX11_rests_62 : decode cX11_rests 62 = .ok (.iload_n 1, 1) := by decide +kernel
theorem dX11_rests_63 : decode cX11_rests 63 = .ok (.iload_n 2, 1) := by decide +kernel
theorem dX11_rests_64 : decode cX11_rests 64 = .ok (.iload_n 3, 1) := by decide +kernel
theorem dX11_rests_65 : decode cX11_rests 65 = .ok (.iload 7, 2) := by decide +kernel
theorem dX11_rests_67 : decode cX11_rests 67 = .ok (.iload 8, 2) := by decide +kernel
theorem dX11_rests_69 : decode cX11_rests 69 = .ok (.invokestatic 319, 3) := by decide +kernel
theorem dX11_rests_72 : decode cX11_rests 72 = .ok (.ifCond .eq 29, 3) := by decide +kernel
theorem dX11_rests_75 : decode cX11_rests 75 = .ok (.iload_n 1, 1) := by decide +kernel
theorem dX11_rests_76 : decode cX11_rests 76 = .ok (.iload_n 2, 1) := by decide +kernel
theorem dX11_rests_77 : decode cX11_rests 77 = .ok (.iload_n 3, 1) := by decide +kernel
theorem dX11_rests_78 : decode cX11_rests 78 = .ok (.iload 8, 2) := by decide +kernel
theorem dX11_rests_80 : decode cX11_rests 80 = .ok (.iload 7, 2) := by decide +kernel
theorem dX11_rests_82 : decode cX11_rests 82 = .ok (.invokestatic 319, 3) := by decide +kernel
theorem dX11_rests_85 : decode cX11_rests 85 = .ok (.ifCond .eq 16, 3) := by decide +kernel
theorem dX11_rests_88 : decode cX11_rests 88 = .ok (.iload 5, 2) := by decide +kernel
theorem dX11_rests_90 : decode cX11_rests 90 = .ok (.iload 4, 2) := by decide +kernel
theorem dX11_rests_92 : decode cX11_rests 92 = .ok (.if_icmp .ne 6, 3) := by decide +kernel
theorem dX11_rests_95 : decode cX11_rests 95 = .ok (.iload 6, 2) := by decide +kernel
theorem dX11_rests_97 : decode cX11_rests 97 = .ok (.ireturn, 1) := by decide +kernel
theorem dX11_rests_98 : decode cX11_rests 98 = .ok (.iinc 5 1, 3) := by decide +kernel
theorem dX11_rests_101 : decode cX11_rests 101 = .ok (.iinc 6 1, 3) := by decide +kernel
theorem dX11_rests_104 : decode cX11_rests 104 = .ok (.goto (-60), 3) := by decide +kernel
theorem dX11_rests_107 : decode cX11_rests 107 = .ok (.iload 4, 2) := by decide +kernel
theorem dX11_rests_109 : decode cX11_rests 109 = .ok (.iconst (-1), 1) := by decide +kernel
theorem dX11_rests_110 : decode cX11_rests 110 = .ok (.if_icmp .eq 14, 3) := by decide +kernel
theorem dX11_rests_113 : decode cX11_rests 113 = .ok (.new 312, 3) := by decide +kernel
theorem dX11_rests_116 : decode cX11_rests 116 = .ok (.dup, 1) := by decide +kernel
theorem dX11_rests_117 : decode cX11_rests 117 = .ok (.ldc_w 314, 3) := by decide +kernel
theorem dX11_rests_120 : decode cX11_rests 120 = .ok (.invokespecial 316, 3) := by decide +kernel
theorem dX11_rests_123 : decode cX11_rests 123 = .ok (.athrow, 1) := by decide +kernel
theorem dX11_rests_124 : decode cX11_rests 124 = .ok (.iload 5, 2) := by decide +kernel
theorem dX11_rests_126 : decode cX11_rests 126 = .ok (.ireturn, 1) := by decide +kernel
theorem dL_rests_0 : decode cL_rests 0 = .ok (.aload 5, 2) := by decide +kernel
theorem dL_rests_2 : decode cL_rests 2 = .ok (.iconst 0, 1) := by decide +kernel
theorem dL_rests_3 : decode cL_rests 3 = .ok (.aload_n 0, 1) := by decide +kernel
theorem dL_rests_4 : decode cL_rests 4 = .ok (.iload_n 1, 1) := by decide +kernel
theorem dL_rests_5 : decode cL_rests 5 = .ok (.iload_n 2, 1) := by decide +kernel
theorem dL_rests_6 : decode cL_rests 6 = .ok (.iload_n 3, 1) := by decide +kernel
theorem dL_rests_7 : decode cL_rests 7 = .ok (.iload 4, 2) := by decide +kernel
theorem dL_rests_9 : decode cL_rests 9 = .ok (.invokevirtual 7, 3) := by decide +kernel
theorem dL_rests_12 : decode cL_rests 12 = .ok (.i2l, 1) := by decide +kernel
theorem dL_rests_13 : decode cL_rests 13 = .ok (.lastore, 1) := by decide +kernel
theorem dL_rests_14 : decode cL_rests 14 = .ok (.goto 7, 3) := by decide +kernel
theorem dL_rests_17 : decode cL_rests 17 = .ok (.astore 6, 2) := by decide +kernel
theorem dL_rests_19 : decode cL_rests 19 = .ok (.iconst 1, 1) := by decide +kernel
theorem dL_rests_20 : decode cL_rests 20 = .ok (.ireturn, 1) := by decide +kernel
theorem dL_rests_21 : decode cL_rests 21 = .ok (.iconst 0, 1) := by decide +kernel
theorem dL_rests_22 : decode cL_rests 22 = .ok (.ireturn, 1) := by decide +kernel
theorem zq_1532 : Cond.static yL_rests ∈ zG := List.mem_of_getElem? (i := 1532) (by decide +kernel)
theorem zq_1533 : Cond.initialized RL ∈ zG := List.mem_of_getElem? (i := 1533) (by decide +kernel)
theorem zq_1535 : Cond.classLink RL 13 "java/util/NoSuchElementException" ∈ zG := List.mem_of_getElem? (i := 1535) (by decide +kernel)
theorem zq_1536 : Cond.methodLink RL 7 yX11_rests ∈ zG := List.mem_of_getElem? (i := 1536) (by decide +kernel)
theorem zq_1537 : Cond.instanceMethod yX11_rests ∈ zG := List.mem_of_getElem? (i := 1537) (by decide +kernel)
theorem zq_1538 : Cond.selects RX11 yX11_rests yX11_rests ∈ zG := List.mem_of_getElem? (i := 1538) (by decide +kernel)
theorem zq_1539 : Cond.code yX11_rests cX11_rests 9 (some .int) ∈ zG := List.mem_of_getElem? (i := 1539) (by decide +kernel)
theorem zq_1540 : Cond.classLink RX11 312 "java/util/NoSuchElementException" ∈ zG := List.mem_of_getElem? (i := 1540) (by decide +kernel)
theorem zq_1541 : Cond.initialized "java/util/NoSuchElementException" ∈ zG := List.mem_of_getElem? (i := 1541) (by decide +kernel)
theorem zq_1542 : Cond.methodLink RX11 309 yX11_isDigit ∈ zG := List.mem_of_getElem? (i := 1542) (by decide +kernel)
theorem zq_1545 : Cond.methodLink RX11 319 yX11_isBest ∈ zG := List.mem_of_getElem? (i := 1545) (by decide +kernel)
theorem zq_1547 : Cond.code yX11_isBest cX11_isBest 5 (some .boolean) ∈ zG := List.mem_of_getElem? (i := 1547) (by decide +kernel)
theorem zq_1546 : Cond.static yX11_isBest ∈ zG := List.mem_of_getElem? (i := 1546) (by decide +kernel)
theorem zy_X11_isBest : zyS yX11_isBest cX11_isBest 5 (some .boolean) 5 := ⟨zq_1547, zq_1546, zq_2, ⟨by decide, by decide⟩, by decide +kernel, by decide⟩
theorem zq_1544 : Cond.code yX11_isDigit cX11_isDigit 1 (some .boolean) ∈ zG := List.mem_of_getElem? (i := 1544) (by decide +kernel)
theorem zq_1543 : Cond.static yX11_isDigit ∈ zG := List.mem_of_getElem? (i := 1543) (by decide +kernel)
theorem zy_X11_isDigit : zyS yX11_isDigit cX11_isDigit 1 (some .boolean) 1 := ⟨zq_1544, zq_1543, zq_2, ⟨by decide, by decide⟩, by decide +kernel, by decide⟩
section ZM
variable {p : Program} {l : Launch} {e : Env} {R : Room} {s : State} {m : MethodId} {args : Array Value} {below : List Frame} {meth : Method} {c : Code} {cells slots : Nat} {Q : State → Prop} {D : va_G} {dA : Nat → ClassId} {ad ad0 : Nat → Nat} {al al0 : Nat → Prop}
def fX11_rests_J27 (k : Option Int32 → zW → Prop)  (w : zW) : Prop :=
  k none w
set_option maxHeartbeats 4000000 in
set_option maxRecDepth 100000 in
theorem mX11_rests_J27 {k : Option Int32 → zW → Prop} (X : zCx p s m args meth c cX11_rests 9 RX11 (some .int)) (hr : zRm R 8 cells slots) (hQ : zRetX p l e R s m args below meth c cells slots Q D dA true ad0 al0 ad al cX11_rests k)   {w : zW} {H : Heap} {locs : List Loc} {ls : Array Slot} (hf : fX11_rests_J27 k  w) (hR : zSt D dA true ad0 al0 ad al w s H locs) (hl : lv_has ls 9 []) : W p l e R s m args below meth c H locs cells slots Q (F0 m 27 ls []) := by
  have hx := X.1
  have hb := X.2.1
  have hml := X.2.2.1
  have hown := X.2.2.2.1
  have hts := X.2.2.2.2.1
  unfold fX11_rests_J27 at hf
  exact hQ.2 _ _ _ _ _ hf hR (hl.1.trans X.2.2.1.symm) dX11_rests_27 dX11_rests_30 dX11_rests_31 dX11_rests_34 dX11_rests_37
def fX11_rests_L44 (k : Option Int32 → zW → Prop) : Nat → Int32 → Int32 → Int32 → Int32 → Int32 → Int32 → zW → Prop
  | 0 => fun _ _ _ _ _ _ _ => False
  | n + 1 => fun x1 x2 x3 x4 x5 x6 w =>
    (((4 : Int32) ≤ x6 →
      ((x4 = (-1 : Int32) →
        k (some x5) w) ∧
       (¬ x4 = (-1 : Int32) →
        k none w))) ∧
     (¬ (4 : Int32) ≤ x6 →
      ∀ v10 : Int32, v10 = x6 / (2 : Int32) →
      ∀ v11 : Int32, v11 = x6 % (2 : Int32) →
      fX11_isBest x1 x2 x3 v10 v11 w (fun r12 w12 =>
      ((r12 = 0 →
        fX11_rests_L44 k n x1 x2 x3 x4 x5 (x6 + (1 : Int32)) w12) ∧
       (¬ r12 = 0 →
        fX11_isBest x1 x2 x3 v11 v10 w12 (fun r14 w14 =>
        ((r14 = 0 →
          fX11_rests_L44 k n x1 x2 x3 x4 x5 (x6 + (1 : Int32)) w14) ∧
         (¬ r14 = 0 →
          ((¬ x5 = x4 →
            fX11_rests_L44 k n x1 x2 x3 x4 (x5 + (1 : Int32)) (x6 + (1 : Int32)) w14) ∧
           (x5 = x4 →
            k (some x6) w14))))))))))
set_option maxHeartbeats 4000000 in
set_option maxRecDepth 100000 in
theorem mX11_rests_L44 {k : Option Int32 → zW → Prop} (X : zCx p s m args meth c cX11_rests 9 RX11 (some .int)) (hr : zRm R 8 cells slots) (hQ : zRetX p l e R s m args below meth c cells slots Q D dA true ad0 al0 ad al cX11_rests k)  : ∀ (n : Nat) (x1 : Int32) (x2 : Int32) (x3 : Int32) (x4 : Int32) (x5 : Int32) (x6 : Int32) (w : zW) (H : Heap) (locs : List Loc) (ls : Array Slot), fX11_rests_L44 k n x1 x2 x3 x4 x5 x6 w → zSt D dA true ad0 al0 ad al w s H locs → lv_has ls 9 [(1, .int x1), (2, .int x2), (3, .int x3), (4, .int x4), (5, .int x5), (6, .int x6)] → W p l e R s m args below meth c H locs cells slots Q (F0 m 44 ls []) := by
  intro n
  induction n with
  | zero => exact fun _ _ _ _ _ _ _ _ _ _ hf => hf.elim
  | succ n ih =>
    intro x1 x2 x3 x4 x5 x6 w H locs ls hf hR hl
    have hx := X.1
    have hb := X.2.1
    have hml := X.2.2.1
    have hown := X.2.2.2.1
    have hts := X.2.2.2.2.1
    rw [fX11_rests_L44] at hf
    refine lv_iload hx hb dX11_rests_44 (lv_at hl 5 rfl) ?_
    refine lv_iconst (v := (4 : Int32)) hx hb dX11_rests_46 (by decide) ?_
    refine lv_icmp_ge (tgt := 107) hx hb dX11_rests_47 (by decide) (fun c8 => ?_) (fun c8 => ?_)
    · replace hf := hf.1 c8
      refine lv_iload hx hb dX11_rests_107 (lv_at hl 3 rfl) ?_
      refine lv_iconst (v := (-1 : Int32)) hx hb dX11_rests_109 (by decide) ?_
      refine lv_icmp_eq (tgt := 124) hx hb dX11_rests_110 (by decide) (fun c9 => ?_) (fun c9 => ?_)
      · replace hf := hf.1 c9
        refine lv_iload hx hb dX11_rests_124 (lv_at hl 4 rfl) ?_
        exact hQ.1 _ _ _ _ _ _ hf hR dX11_rests_126
      · replace hf := hf.2 c9
        exact hQ.2 _ _ _ _ _ hf hR (hl.1.trans X.2.2.1.symm) dX11_rests_113 dX11_rests_116 dX11_rests_117 dX11_rests_120 dX11_rests_123
    · replace hf := hf.2 c8
      refine lv_iload hx hb dX11_rests_50 (lv_at hl 5 rfl) ?_
      refine lv_iconst (v := (2 : Int32)) hx hb dX11_rests_52 (by decide) ?_
      refine lv_idiv hx hb dX11_rests_53 (by decide) ?_
      refine lv_topi (fun v10 hv10 => ?_)
      replace hf := hf v10 hv10
      refine lv_istore (lv' := [(7, .int v10), (1, .int x1), (2, .int x2), (3, .int x3), (4, .int x4), (5, .int x5), (6, .int x6)]) hx hb dX11_rests_54 hl (by decide) rfl (fun ls hl => ?_)
      refine lv_iload hx hb dX11_rests_56 (lv_at hl 6 rfl) ?_
      refine lv_iconst (v := (2 : Int32)) hx hb dX11_rests_58 (by decide) ?_
      refine z_irem X dX11_rests_59 (by decide) ?_
      refine lv_topi (fun v11 hv11 => ?_)
      replace hf := hf v11 hv11
      refine lv_istore (lv' := [(8, .int v11), (7, .int v10), (1, .int x1), (2, .int x2), (3, .int x3), (4, .int x4), (5, .int x5), (6, .int x6)]) hx hb dX11_rests_60 hl (by decide) rfl (fun ls hl => ?_)
      refine lv_iload_n hx hb dX11_rests_62 rfl (lv_at hl 2 rfl) ?_
      refine lv_iload_n hx hb dX11_rests_63 rfl (lv_at hl 3 rfl) ?_
      refine lv_iload_n hx hb dX11_rests_64 rfl (lv_at hl 4 rfl) ?_
      refine lv_iload hx hb dX11_rests_65 (lv_at hl 1 rfl) ?_
      refine lv_iload hx hb dX11_rests_67 (lv_at hl 0 rfl) ?_
      refine z_callSI (fr1 := 1) (As := [.int x1, .int x2, .int x3, .int v10, .int v11]) (rest := []) X (hr.le (by decide)) hR zy_X11_isBest zq_1545 (mX11_isBest  hf) rfl hl (Nat.le_of_ble_eq_true rfl) dX11_rests_69 rfl (fun r12 w12 H locs hf hR => ?_)
      refine lv_if_eq (tgt := 101) hx hb dX11_rests_72 (by decide) (fun c13 => ?_) (fun c13 => ?_)
      · replace hf := hf.1 c13
        refine lv_iinc (v := x6 + (1 : Int32)) (lv' := [(6, .int (x6 + (1 : Int32))), (8, .int v11), (7, .int v10), (1, .int x1), (2, .int x2), (3, .int x3), (4, .int x4), (5, .int x5)]) hx hb dX11_rests_101 hl (k := 7) rfl rfl (by decide) rfl (fun ls hl => ?_)
        refine lv_goto (tgt := 44) hx hb dX11_rests_104 (by decide) ?_
        exact ih x1 x2 x3 x4 x5 (x6 + (1 : Int32)) w12 _ _ _ hf hR (lv_sub hl [3, 4, 5, 6, 7, 0] rfl)
      · replace hf := hf.2 c13
        refine lv_iload_n hx hb dX11_rests_75 rfl (lv_at hl 2 rfl) ?_
        refine lv_iload_n hx hb dX11_rests_76 rfl (lv_at hl 3 rfl) ?_
        refine lv_iload_n hx hb dX11_rests_77 rfl (lv_at hl 4 rfl) ?_
        refine lv_iload hx hb dX11_rests_78 (lv_at hl 0 rfl) ?_
        refine lv_iload hx hb dX11_rests_80 (lv_at hl 1 rfl) ?_
        refine z_callSI (fr1 := 1) (As := [.int x1, .int x2, .int x3, .int v11, .int v10]) (rest := []) X (hr.le (by decide)) hR zy_X11_isBest zq_1545 (mX11_isBest  hf) rfl hl (Nat.le_of_ble_eq_true rfl) dX11_rests_82 rfl (fun r14 w14 H locs hf hR => ?_)
        refine lv_if_eq (tgt := 101) hx hb dX11_rests_85 (by decide) (fun c15 => ?_) (fun c15 => ?_)
        · replace hf := hf.1 c15
          refine lv_iinc (v := x6 + (1 : Int32)) (lv' := [(6, .int (x6 + (1 : Int32))), (8, .int v11), (7, .int v10), (1, .int x1), (2, .int x2), (3, .int x3), (4, .int x4), (5, .int x5)]) hx hb dX11_rests_101 hl (k := 7) rfl rfl (by decide) rfl (fun ls hl => ?_)
          refine lv_goto (tgt := 44) hx hb dX11_rests_104 (by decide) ?_
          exact ih x1 x2 x3 x4 x5 (x6 + (1 : Int32)) w14 _ _ _ hf hR (lv_sub hl [3, 4, 5, 6, 7, 0] rfl)
        · replace hf := hf.2 c15
          refine lv_iload hx hb dX11_rests_88 (lv_at hl 6 rfl) ?_
          refine lv_iload hx hb dX11_rests_90 (lv_at hl 5 rfl) ?_
          refine lv_icmp_ne (tgt := 98) hx hb dX11_rests_92 (by decide) (fun c16 => ?_) (fun c16 => ?_)
          · replace hf := hf.1 c16
            refine lv_iinc (v := x5 + (1 : Int32)) (lv' := [(5, .int (x5 + (1 : Int32))), (8, .int v11), (7, .int v10), (1, .int x1), (2, .int x2), (3, .int x3), (4, .int x4), (6, .int x6)]) hx hb dX11_rests_98 hl (k := 6) rfl rfl (by decide) rfl (fun ls hl => ?_)
            refine lv_iinc (v := x6 + (1 : Int32)) (lv' := [(6, .int (x6 + (1 : Int32))), (5, .int (x5 + (1 : Int32))), (8, .int v11), (7, .int v10), (1, .int x1), (2, .int x2), (3, .int x3), (4, .int x4)]) hx hb dX11_rests_101 hl (k := 7) rfl rfl (by decide) rfl (fun ls hl => ?_)
            refine lv_goto (tgt := 44) hx hb dX11_rests_104 (by decide) ?_
            exact ih x1 x2 x3 x4 (x5 + (1 : Int32)) (x6 + (1 : Int32)) w14 _ _ _ hf hR (lv_sub hl [4, 5, 6, 7, 1, 0] rfl)
          · replace hf := hf.2 c16
            refine lv_iload hx hb dX11_rests_95 (lv_at hl 7 rfl) ?_
            exact hQ.1 _ _ _ _ _ _ hf hR dX11_rests_97
def fX11_rests (x1 : Int32) (x2 : Int32) (x3 : Int32) (x4 : Int32) (w : zW) (k : Option Int32 → zW → Prop) : Prop :=
  fX11_isDigit x1 w (fun r1 w1 =>
  ((r1 = 0 →
    fX11_rests_J27 k  w1) ∧
   (¬ r1 = 0 →
    fX11_isDigit x2 w1 (fun r3 w3 =>
    ((r3 = 0 →
      fX11_rests_J27 k  w3) ∧
     (¬ r3 = 0 →
      fX11_isDigit x3 w3 (fun r5 w5 =>
      ((r5 = 0 →
        fX11_rests_J27 k  w5) ∧
       (¬ r5 = 0 →
        (((-1 : Int32) ≤ x4 →
          ∃ n9, fX11_rests_L44 k n9 x1 x2 x3 x4 (0 : Int32) (0 : Int32) w5) ∧
         (¬ (-1 : Int32) ≤ x4 →
          fX11_rests_J27 k  w5)))))))))))
set_option maxHeartbeats 4000000 in
set_option maxRecDepth 100000 in
theorem mX11_rests {l : Launch} {D : va_G} {dA : Nat → ClassId} {ad : Nat → Nat} {al : Nat → Prop} {w : zW} {k : Option Int32 → zW → Prop} {x1 : Int32} {x2 : Int32} {x3 : Int32} {x4 : Int32}  (hl0 : l.stackTraces = false) (hf : fX11_rests x1 x2 x3 x4 w k) : zmetX l yX11_rests cX11_rests 9 (some .int) 8 [.ref (ad 1), .int x1, .int x2, .int x3, .int x4] D dA true ad al w k := by
  refine zmetX_of hl0 (by decide) rfl (by decide) (Nat.le_of_ble_eq_true rfl) zq_1540 zq_1541 ?_
  intro p e R s m below meth c Q H ls args locs cells slots X hr hQ hR hl
  have hx := X.1
  have hb := X.2.1
  have hml := X.2.2.1
  have hown := X.2.2.2.1
  have hts := X.2.2.2.2.1
  unfold fX11_rests at hf
  have hl : lv_has ls 9 [(0, .ref (ad 1)), (1, .int x1), (2, .int x2), (3, .int x3), (4, .int x4)] := hl
  refine lv_iload_n hx hb dX11_rests_0 rfl (lv_at hl 1 rfl) ?_
  refine z_callSI (fr1 := 0) (As := [.int x1]) (rest := []) X (hr.le (by decide)) hR zy_X11_isDigit zq_1542 (mX11_isDigit  hf) rfl hl (Nat.le_of_ble_eq_true rfl) dX11_rests_1 rfl (fun r1 w1 H locs hf hR => ?_)
  refine lv_if_eq (tgt := 27) hx hb dX11_rests_4 (by decide) (fun c2 => ?_) (fun c2 => ?_)
  · replace hf := hf.1 c2
    exact mX11_rests_J27 X hr hQ  hf hR (lv_sub hl [] rfl)
  · replace hf := hf.2 c2
    refine lv_iload_n hx hb dX11_rests_7 rfl (lv_at hl 2 rfl) ?_
    refine z_callSI (fr1 := 0) (As := [.int x2]) (rest := []) X (hr.le (by decide)) hR zy_X11_isDigit zq_1542 (mX11_isDigit  hf) rfl hl (Nat.le_of_ble_eq_true rfl) dX11_rests_8 rfl (fun r3 w3 H locs hf hR => ?_)
    refine lv_if_eq (tgt := 27) hx hb dX11_rests_11 (by decide) (fun c4 => ?_) (fun c4 => ?_)
    · replace hf := hf.1 c4
      exact mX11_rests_J27 X hr hQ  hf hR (lv_sub hl [] rfl)
    · replace hf := hf.2 c4
      refine lv_iload_n hx hb dX11_rests_14 rfl (lv_at hl 3 rfl) ?_
      refine z_callSI (fr1 := 0) (As := [.int x3]) (rest := []) X (hr.le (by decide)) hR zy_X11_isDigit zq_1542 (mX11_isDigit  hf) rfl hl (Nat.le_of_ble_eq_true rfl) dX11_rests_15 rfl (fun r5 w5 H locs hf hR => ?_)
      refine lv_if_eq (tgt := 27) hx hb dX11_rests_18 (by decide) (fun c6 => ?_) (fun c6 => ?_)
      · replace hf := hf.1 c6
        exact mX11_rests_J27 X hr hQ  hf hR (lv_sub hl [] rfl)
      · replace hf := hf.2 c6
        refine lv_iload hx hb dX11_rests_21 (lv_at hl 4 rfl) ?_
        refine lv_iconst (v := (-1 : Int32)) hx hb dX11_rests_23 (by decide) ?_
        refine lv_icmp_ge (tgt := 38) hx hb dX11_rests_24 (by decide) (fun c7 => ?_) (fun c7 => ?_)
        · replace hf := hf.1 c7
          refine lv_iconst (v := (0 : Int32)) hx hb dX11_rests_38 (by decide) ?_
          refine lv_istore (lv' := [(5, .int (0 : Int32)), (0, .ref (ad 1)), (1, .int x1), (2, .int x2), (3, .int x3), (4, .int x4)]) hx hb dX11_rests_39 hl (by decide) rfl (fun ls hl => ?_)
          refine lv_iconst (v := (0 : Int32)) hx hb dX11_rests_41 (by decide) ?_
          refine lv_istore (lv' := [(6, .int (0 : Int32)), (5, .int (0 : Int32)), (0, .ref (ad 1)), (1, .int x1), (2, .int x2), (3, .int x3), (4, .int x4)]) hx hb dX11_rests_42 hl (by decide) rfl (fun ls hl => ?_)
          obtain ⟨n9, hf⟩ := hf
          exact mX11_rests_L44 X hr hQ  n9 x1 x2 x3 x4 (0 : Int32) (0 : Int32) w5 _ _ _ hf hR (lv_sub hl [3, 4, 5, 6, 1, 0] rfl)
        · replace hf := hf.2 c7
          exact mX11_rests_J27 X hr hQ  hf hR (lv_sub hl [] rfl)
end ZM
/-! the law's own method: calls rests, catches -/
section ZL
variable {p : Program} {l : Launch} {e : Env} {R : Room} {s : State} {m : MethodId} {args : Array Value} {below : List Frame} {meth : Method} {c : Code} {H : Heap} {locs : List Loc} {cells slots : Nat} {Q : State → Prop}
variable {cc : ByteArray} {pc nL index n k ci N fr fr1 np mc ms : Nat} {ls : Array Slot} {rest st : List Value} {D : va_G} {dA : Nat → ClassId} {md : Bool} {ad ad0 : Nat → Nat} {al al0 : Nat → Prop} {w : zW} {own : String} {ret ret1 : Option FieldType}
variable {y : MethodName} {bytes : ByteArray} {maxL : Nat} {As : List Value}
theorem z_ofWH {hh : List (Nat × Nat × Nat × Nat)} {ws ws' : List Cond} {rm : Room} {Pc : Array Value → State → Prop} {Qc : Array Value → State → Outcome → State → Prop} {free : Addr → Prop}
    (hy : plainName y.cls = true) (hw : ws = Cond.codeWith y cc maxL ret hh :: ws')
    (body : ∀ p e s m args below meth c s₁, BodyLoose p l y (headSpec ws rm) cc maxL ret e s m args below meth c s₁ → c.maxLocals = maxL → c.exceptionTable.toList.map (fun h => (h.startPc, h.endPc, h.handlerPc, h.catchType)) = hh → Pc args s →
      W p l e (headSpec ws rm).room s m args below meth c s.heap [] 0 0 (MQ below Qc args s mc ms free) (entryFrame m args maxL)) : Met l y ws rm Pc Qc mc ms free := by
  refine MetFree.of_bodyS (code := cc) (maxLocals := maxL) (ret := ret) hy ?_ ?_
  · intro args s m h hn
    obtain ⟨m9, meth, c, hn9, h1, h2, h3, h4, -, h5, h6, -⟩ := Cond.codeWith_spec (atoms_spec (ws := ws) h _ (by rw [hw]; exact List.mem_cons_self))
    cases Option.some.inj (hn9.symm.trans hn)
    exact ⟨meth, c, h1, h2, h3, h4, h5, h6⟩
  · intro p e s m args below meth c s₁ B hml hP _
    have hh0 : s₁.heap = s.heap := by rw [B.state]; rfl
    have ht : c.exceptionTable.toList.map (fun h => (h.startPc, h.endPc, h.handlerPc, h.catchType)) = hh := by
      obtain ⟨m9, meth9, c9, hn9, h1, h2, -, -, h6, -⟩ := Cond.codeWith_spec (atoms_spec (ws := ws) B.pre _ (by rw [hw]; exact List.mem_cons_self))
      cases Option.some.inj (hn9.symm.trans B.named)
      cases Option.some.inj (h1.symm.trans B.method)
      cases Option.some.inj (h2.symm.trans (Stand.of_body B).code)
      exact h6
    obtain ⟨t, a1, o, b1, b2, b3⟩ := body p e s m args below meth c s₁ B hml ht hP s₁ hh0 (Stand.of_body B)
    exact ⟨t, o, a1, b1, b2, ⟨b3.1, b3.2⟩⟩
theorem zpreBlindX {av : List Value} {sz : Nat} : FrameBlind (va_Pc av (fun U => zpre D dA md ad al w sz U ∧ zThE (zA ad al sz) U U.heap)) :=
  fun a U g mk q => ⟨q.1, ⟨q.2.1.1, q.2.1.2.1.same (U := U.calling g mk a) rfl, zRel.moved (u := U) (U := U.calling g mk a) (Vm.Alike.refl U.vm) q.2.1.2.2⟩, q.2.2.same (U := U.calling g mk a) rfl⟩
theorem zpayX (hts : ∀ w ∈ zG, w.before args s = true) (htw : ∀ w ∈ zTw, w.before args s = true) {w0 : Cond} (hw0 : ∀ (a' : Array Value) (U : State), s.WarmedH U.vm → w0.before a' U = true) : ∀ w ∈ (w0 :: (zG ++ zTw)), ∀ (a' : Array Value) (U : State), s.WarmedH U.vm → w.before a' U = true := by
  intro w hw a' U hW
  rcases List.mem_cons.mp hw with rfl | hw
  · exact hw0 a' U hW
  · rcases List.mem_append.mp hw with h | h
    · exact word_at hW (good_of_word (List.all_eq_true.mp zGood w h)) (hts w h)
    · exact word_at hW (good_of_word (List.mem_filter.mp h).2) (htw w h)
def fL_rests (o : Nat) (x1 x2 x3 x4 : Int32) (w : zW) (k : Int32 → zW → Prop) : Prop :=
  fX11_rests x1 x2 x3 x4 w (fun v9 w1 => match v9 with
    | some r => zln o = 1 ∧ ∀ w2 : zW, w2 = sL w1 o 0 r.toInt64 → k 0 w2
    | none => k 1 w1)
def zmetLR (l : Launch) (D : va_G) (dA : Nat → ClassId) (ad : Nat → Nat) (al : Nat → Prop) (w : zW) (o : Nat) (x1 x2 x3 x4 : Int32) (k : Int32 → zW → Prop) : Prop :=
  ∀ sz : Nat, Met l yL_rests (Cond.codeWith yL_rests cL_rests 7 (some .int) [(0, 14, 17, 13)] :: (zG ++ zTw)) (zroom 9 1 6) (va_Pc [.ref (ad 1), .int x1, .int x2, .int x3, .int x4, .ref (ad o)] (fun U => zpre D dA true ad al w sz U ∧ zThE (zA ad al sz) U U.heap)) (va_Qi k (zB D dA true ad al) (zA ad al sz)) 1 6 (zA ad al sz)
set_option maxHeartbeats 4000000 in
theorem mL_rests {o : Nat} {x1 x2 x3 x4 : Int32} {k : Int32 → zW → Prop} (hl0 : l.stackTraces = false) (ho : al o ∧ zsh o = 21) (h1 : al 1) (hf : fL_rests o x1 x2 x3 x4 w k) : zmetLR l D dA ad al w o x1 x2 x3 x4 k := by
  intro sz
  refine z_ofWH (cc := cL_rests) (maxL := 7) (ret := some .int) (hh := [(0, 14, 17, 13)]) (by decide) rfl ?_
  intro p e s m args below meth c s₁ B hml htab hv
  obtain ⟨rfl, ⟨hsz, hEv, hRel⟩, hTh⟩ := hv
  subst hsz
  have hx := B.exec
  have hb := B.bytes
  have hr := B.returns
  have hlk := B.notSynchronized
  have hts := atoms_spec (ws := Cond.codeWith yL_rests cL_rests 7 (some .int) [(0, 14, 17, 13)] :: (zG ++ zTw)) B.pre
  have htG : ∀ w ∈ zG, w.before #[.ref (ad 1), .int x1, .int x2, .int x3, .int x4, .ref (ad o)] s = true := fun w hw => hts w (List.mem_cons_of_mem _ (List.mem_append_left _ hw))
  have htW : ∀ w ∈ zTw, w.before #[.ref (ad 1), .int x1, .int x2, .int x3, .int x4, .ref (ad o)] s = true := fun w hw => hts w (List.mem_cons_of_mem _ (List.mem_append_right _ hw))
  have hown : s.vm.findClass RL = some m.cls := findClass_of_methodNamed B.named
  have X : zCx p s m _ meth c cL_rests 7 RL (some .int) := ⟨hx, hb, hml, hown, htG, hr, hlk⟩
  have hR : zSt D dA true ad al ad al w s s.heap [] := zhold0 hRel hEv
  have hl := lv_entry [.ref (ad 1), .int x1, .int x2, .int x3, .int x4, .ref (ad o)] (n := 7) (Nat.le_of_ble_eq_true rfl)
  rw [lg_entry_eq]
  generalize (lg_sl [.ref (ad 1), .int x1, .int x2, .int x3, .int x4, .ref (ad o)] ++ List.replicate (7 - (lg_sl [.ref (ad 1), .int x1, .int x2, .int x3, .int x4, .ref (ad o)]).length) Slot.unset).toArray = ls at hl ⊢
  have hl : lv_has ls 7 [(0, .ref (ad 1)), (1, .int x1), (2, .int x2), (3, .int x3), (4, .int x4), (5, .ref (ad o))] := hl
  refine lv_aload hx hb dL_rests_0 (lv_at hl 5 rfl) ?_
  refine lv_iconst (v := (0 : Int32)) hx hb dL_rests_2 (by decide) ?_
  refine lv_aload_n hx hb dL_rests_3 rfl (lv_at hl 0 rfl) ?_
  refine lv_iload_n hx hb dL_rests_4 rfl (lv_at hl 1 rfl) ?_
  refine lv_iload_n hx hb dL_rests_5 rfl (lv_at hl 2 rfl) ?_
  refine lv_iload_n hx hb dL_rests_6 rfl (lv_at hl 3 rfl) ?_
  refine lv_iload hx hb dL_rests_7 (lv_at hl 4 rfl) ?_
  have hM := mX11_rests (l := l) (D := D) (dA := dA) (ad := ad) (al := al) hl0 hf s.heap.size
  have hpay := zpayX (w0 := Cond.code yX11_rests cX11_rests 9 (some .int)) htG htW (fun a' U hW => word_at hW (good_of_word (List.all_eq_true.mp zGood _ zq_1539)) (htG _ zq_1539))
  have hrun := vx_runV (e := e) (below := below) (meth := meth) (c := c) (cells := 0) (slots := 0) (locs := []) (R := zroom 9 1 6) (As := [.int x1, .int x2, .int x3, .int x4]) (rest := [.int 0, .ref (ad o)]) (g := F0 m (0 + 2 + 1 + 1 + 1 + 1 + 1 + 2) ls ([.int x1, .int x2, .int x3, .int x4].reverse ++ .ref (ad 1) :: [.int 0, .ref (ad o)])) (own := RL) (C := RX11) (b := ad 1) (index := 7) (n := 4) (nL := 7) ⟨hx, hb, hml, hown, htG⟩ hM
    ⟨⟨rfl, rfl, by decide, by decide, hpay, List.mem_cons_self, htG _ zq_1539, htG _ zq_2, ⟨by decide, by decide⟩, fun sig h => by
      have h9 : (parseMethodDescriptor yX11_rests.desc).map (fun d => d.parameters.length) = some 4 := by decide +kernel
      rw [h] at h9
      exact (Option.some.inj h9).symm, htG _ zq_1536⟩, htG _ zq_1537, htG _ zq_1538⟩
    (H := s.heap) ⟨zpreBlindX, zrecv hR h1 (q := (RX11, TX11, 14)) (by rw [zs_1]; rfl), fun U hU hW => ⟨rfl, ⟨by rw [hU], by rw [hU]; exact hEv.go hW (fun _ _ _ => rfl) (fun _ h => h), by rw [hU]; exact hRel.moved hW.alike⟩, by rw [hU]; exact hTh.go hW (fun _ _ _ => rfl) (fun _ h => h)⟩⟩ rfl rfl hl.1 rfl (lv_room (Nat.le_of_ble_eq_true rfl)) dL_rests_9 ⟨Nat.le_refl _, Nat.le_refl _⟩
  refine vx_calli hrun hR.2.2.1 (fun _ _ h => h) (fun _ h => h) (fun _ _ h => h) (fun E ce q9 u t H1 locs1 ht hvm hpx hB hz hq hS1 hce hcv hcl => ?_) (fun r u t H1 locs1 ht hvm hpo hB hz hq hS1 => ?_)
  · obtain ⟨rfl, hB⟩ := hB
    obtain ⟨x, ht1, ht2⟩ := List.map_eq_singleton_iff.mp htab
    simp only [Prod.mk.injEq] at ht2
    refine vx_catch (name := zNSE) hown [] x [] (by rw [ht1]; rfl) (fun z hz => nomatch hz) (by simp [covers, ht2.1, ht2.2.1]) (by rw [ht2.2.2.2]; decide) (by rw [ht2.2.2.2]; exact htG _ zq_1535) (va_Nw.use (zTnL_tab zTnL_cast) (hTh.1 _ zTnL_cast)) hce hcv hcl ?_
    rw [ht2.2.2.1]
    refine lv_astore (lv' := [(6, .ref q9), (0, .ref (ad 1)), (1, .int x1), (2, .int x2), (3, .int x3), (4, .int x4), (5, .ref (ad o))]) hx hb dL_rests_17 hl (by decide) rfl (fun ls hl => ?_)
    refine lv_iconst (v := (1 : Int32)) hx hb dL_rests_19 (by decide) ?_
    refine W.widen (k := 1) (n := 6) (by decide) (by decide) ?_
    exact W.iret hx hb hr (fun t ht hW => ⟨⟨1, u, rfl, hpx, zhold (zback hR (by assumption) (by assumption) hB hS1) ht hW⟩, hS1.F ht⟩) hS1.2.2 dL_rests_20 hlk
  · have hR1 := zback hR ht hvm hB hS1
    refine lv_i2l hx hb dL_rests_12 rfl ?_
    refine z_last (N := 1) X hR1 ho.1 ho.2 hpo.1 (zin (by decide)) dL_rests_13 (fun H2 locs2 hR2 => ?_)
    refine lv_goto (tgt := 21) hx hb dL_rests_14 (by decide) ?_
    refine lv_iconst (v := (0 : Int32)) hx hb dL_rests_21 (by decide) ?_
    refine W.widen (k := 1) (n := 6) (by decide) (by decide) ?_
    exact W.iret hx hb hr (fun t ht hW => ⟨⟨0, _, rfl, hpo.2 _ rfl, zhold hR2 ht hW⟩, hR2.2.2.1.F ht⟩) hR2.2.2.1.2.2 dL_rests_22 hlk
theorem zwLR : Cond.codeWith yL_rests cL_rests 7 (some .int) [(0, 14, 17, 13)] ∈ zG := List.mem_of_getElem? (i := 1534) (by decide +kernel)
/-- the law's call of it -/
theorem z_callLR {b0 : Nat} (X : zCx p s m args meth c cc nL RL ret) (hr : zRm R (9 + 1) (cells + 1) (slots + 6)) (hR : zSt D dA true ad0 al0 ad al w s H locs) (hTh : zThE (zA ad0 al0 s.heap.size) s s.heap) (htw : ∀ w ∈ zTw, w.before args s = true) (hl : Cond.methodLink RL index yL_rests ∈ zG) {o : Nat} {x1 x2 x3 x4 : Int32} (ho : al o) (h1 : al 1) {K : Int32 → zW → Prop} (hM : zmetLR l D dA ad al w o x1 x2 x3 x4 K) {lv : List (Nat × Value)} (hsz : lv_has ls nL lv) (hst : (rest.map fun v => v.category).sum ≤ 8) (hdg : decode cc pc = .ok (.invokestatic index, 3))
    (kk : ∀ (r : Int32) (w1 : zW) (H1 : Heap) (locs1 : List Loc), K r w1 → zSt D dA true ad0 al0 ad al w1 s H1 locs1 → W p l e R s m args below meth c H1 locs1 (cells + 1) (slots + 6) Q (F0 m (pc + 3) ls (.int r :: rest))) : W p l e R s m args below meth c H locs cells slots Q (F0 m pc ls (.ref (ad o) :: .int x4 :: .int x3 :: .int x2 :: .int x1 :: .ref (ad 1) :: rest)) := by
  have hts := X.2.2.2.2.1
  have hcw := zwLR
  have hpay := zpayX (w0 := Cond.codeWith yL_rests cL_rests 7 (some .int) [(0, 14, 17, 13)]) hts htw (fun a' U hW => word_at hW (good_of_word (List.all_eq_true.mp zGood _ hcw)) (hts _ hcw))
  have hrl : 8 + (7 + 11) + 60 * 9 ≤ R.locals := by have h9 := hr.2.1; omega
  refine va_calli (vx_runSW (e := e) (below := below) (meth := meth) (c := c) (cells := cells) (slots := slots) (locs := locs) (As := [.ref (ad 1), .int x1, .int x2, .int x3, .int x4, .ref (ad o)]) (rest := rest) (g := F0 m pc ls (.ref (ad o) :: .int x4 :: .int x3 :: .int x2 :: .int x1 :: .ref (ad 1) :: rest)) (own := RL) (index := index) (n := 6) (nL := nL) ⟨X.1, X.2.1, X.2.2.1, X.2.2.2.1, hts⟩ (hM H.size)
    ⟨⟨rfl, rfl, hr.1, hrl, hpay, List.mem_cons_self⟩, hts _ hcw, hts _ zq_1533, ⟨by decide, by decide⟩, fun sig h => by
      have h9 : (parseMethodDescriptor yL_rests.desc).map (fun d => d.parameters.length) = some 6 := by decide +kernel
      rw [h] at h9
      exact (Option.some.inj h9).symm, hts _ hl, hts _ zq_1532⟩
    (H := H) ⟨zpreBlindX, fun U hU hW => ⟨rfl, ⟨by rw [hU], by rw [hU]; exact hR.2.2.2.go hW hR.2.2.1.2.1 (zA_in hR.2.1 hR.2.2.1.1), by rw [hU]; exact hR.1.moved hW.alike⟩, by rw [hU]; exact hTh.go hW hR.2.2.1.2.1 (zA_in hR.2.1 hR.2.2.1.1)⟩⟩ rfl rfl hsz.1 rfl (lv_room hst) hdg ⟨hr.2.2.1, hr.2.2.2⟩) hR.2.2.1 (fun q _ h => zA_in hR.2.1 hR.2.2.1.1 q h) (zA_in hR.2.1 hR.2.2.1.1) (fun r u t H1 locs1 ht hvm hw hB hz hk hS1 => ?_)
  exact kk r u H1 locs1 hw (zback hR ht hvm hB hS1)
end ZL

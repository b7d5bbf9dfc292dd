/-! rests of the class: it returns or throws -/
def zNSE : String := "java/util/NoSuchElementException"
def zAt : List Cond := vx_atS RX11 316 "java/util/NoSuchElementException" ["java/lang/RuntimeException", "java/lang/Exception"]
def zTw : List Cond := zAt.filter goodWord
def zTnL : List Cond := [.declares (Bundle.initS "java/lang/RuntimeException"), .declares (Bundle.initS "java/lang/Exception"), .declares (Bundle.initS Bundle.tN), .castable "java/util/NoSuchElementException" "java/util/NoSuchElementException"]
theorem zTn : zAt.filter (fun w => !goodWord w) = zTnL := by decide +kernel
theorem zTnL_warm {s U : State} (hW : s.WarmedH U.vm) (h : ∀ w ∈ zTnL, va_Nw w s) : ∀ w ∈ zTnL, va_Nw w U := by
  intro w hw
  have h1 := h w hw
  simp only [zTnL, List.mem_cons, List.not_mem_nil, or_false] at hw
  rcases hw with rfl | rfl | rfl | rfl
  · exact va_Nw.warmD hW h1
  · exact va_Nw.warmD hW h1
  · exact va_Nw.warmD hW h1
  · exact va_Nw.warmC hW h1
theorem zTnL_tab {w : Cond} (hw : w ∈ zTnL) : w.onTables = true := by
  simp only [zTnL, List.mem_cons, List.not_mem_nil, or_false] at hw
  rcases hw with rfl | rfl | rfl | rfl <;> rfl
theorem zTnL_cast : Cond.castable "java/util/NoSuchElementException" "java/util/NoSuchElementException" ∈ zTnL := by simp [zTnL]
theorem zAtOt : (Cond.classLink RX11 312 "java/util/NoSuchElementException" :: Cond.initialized "java/util/NoSuchElementException" :: zAt).all vx_ot = true := by decide +kernel
/-- what a throw finds: a class that casts to itself, two statics of Throwable -/
def zThE (A : Nat → Prop) (U : State) (H : Heap) : Prop := (∀ w ∈ zTnL, va_Nw w U) ∧ vx_Zq Bundle.tN "UNASSIGNED_STACK" Bundle.steD A U H ∧ vx_Zq Bundle.tN "SUPPRESSED_SENTINEL" Bundle.listD A U H
theorem zThE.go {A B : Nat → Prop} {s U : State} {H H1 : Heap} (h : zThE A s H) (hW : s.WarmedH U.vm) (hq : ∀ a : Nat, a < H.size → ¬ A a → H1[a]? = H[a]?) (hAB : ∀ q, B q → A q) : zThE B U H1 :=
  ⟨zTnL_warm hW h.1, ((h.2.1.moved hW.alike).kept hq).narrow hAB, ((h.2.2.moved hW.alike).kept hq).narrow hAB⟩
theorem zThE.same {A : Nat → Prop} {s U : State} {H : Heap} (h : zThE A s H) (hv : s.vm = U.vm) : zThE A U H :=
  ⟨fun w hw => va_Nw.same (zTnL_tab hw) hv (h.1 w hw), h.2.1.moved (by rw [hv]; exact Vm.Alike.refl _), h.2.2.moved (by rw [hv]; exact Vm.Alike.refl _)⟩
def zRetX (p : Program) (l : Launch) (e : Env) (R : Room) (s : State) (m : MethodId) (args : Array Value) (below : List Frame) (meth : Method) (c : Code) (cells slots : Nat) (Q : State → Prop) (D : va_G) (dA : Nat → ClassId) (md : Bool) (ad0 : Nat → Nat) (al0 : Nat → Prop) (ad : Nat → Nat) (al : Nat → Prop) (cc : ByteArray) (K : Option Int32 → zW → Prop) : Prop :=
  (∀ (v : Int32) (w : zW) (H : Heap) (locs : List Loc) (ls : Array Slot) (pc : Nat), K (some v) w → zSt D dA md ad0 al0 ad al w s H locs → decode cc pc = .ok (.ireturn, 1) → W p l e R s m args below meth c H locs cells slots Q (F0 m pc ls [.int v])) ∧
  ∀ (w : zW) (H : Heap) (locs : List Loc) (ls : Array Slot) (pc : Nat), K none w → zSt D dA md ad0 al0 ad al w s H locs → ls.size = c.maxLocals → decode cc pc = .ok (.new 312, 3) → decode cc (pc + 3) = .ok (.dup, 1) → decode cc (pc + 4) = .ok (.ldc_w 314, 3) → decode cc (pc + 7) = .ok (.invokespecial 316, 3) → decode cc (pc + 10) = .ok (.athrow, 1) → W p l e R s m args below meth c H locs cells slots Q (F0 m pc ls [])
def zmetX (l : Launch) (y : MethodName) (bytes : ByteArray) (maxL : Nat) (ret : Option FieldType) (fr : Nat) (av : List Value) (D : va_G) (dA : Nat → ClassId) (md : Bool) (ad : Nat → Nat) (al : Nat → Prop) (w : zW) (K : Option Int32 → zW → Prop) : Prop :=
  ∀ sz : Nat, vx_Met l y (Cond.code y bytes maxL ret :: (zG ++ zTw)) (zroom fr 1 6) (va_Pc av (fun U => zpre D dA md ad al w sz U ∧ zThE (zA ad al sz) U U.heap)) (va_Qi (fun r => K (some r)) (zB D dA md ad al) (zA ad al sz)) (vx_X (fun w1 => K none w1) (fun E w1 t => E = zNSE ∧ zB D dA md ad al w1 t) (zA ad al sz)) 1 6 (zA ad al sz)
section ZX
variable {p : Program} {l : Launch} {e : Env} {R : Room} {s : State} {m : MethodId} {args : Array Value} {below : List Frame} {meth : Method} {c : Code} {H : Heap} {locs : List Loc} {cells slots : Nat} {Q : State → Prop}
variable {cc : ByteArray} {pc nL index n k ci N fr fr1 np mc ms : Nat} {ls : Array Slot} {rest st : List Value} {D : va_G} {dA : Nat → ClassId} {md : Bool} {ad ad0 : Nat → Nat} {al al0 : Nat → Prop} {w : zW} {own : String} {ret ret1 : Option FieldType}
variable {y : MethodName} {bytes : ByteArray} {maxL : Nat} {As : List Value}
/-- cells in a heap that has grown -/
theorem zRel.ext {t : State} {H1 : Heap} (h : zRel D dA md ad al w s H) (hvm : s.vm.Alike t.vm) (hq : ∀ q : Nat, q < H.size → H1[q]? = H[q]?) : zRel D dA md ad al w t H1 := by
  have h1 := h.moved hvm
  obtain ⟨hK, hC, hI, hB, hW⟩ := h1
  refine ⟨hK, fun n hn => ?_, hI, hB, hW⟩
  have hc := hC n hn
  have hlt : ad n < H.size := by
    unfold zcell at hc
    by_cases hl : zsh n < 20
    · rw [if_pos hl] at hc
      obtain ⟨r, -, cell, h1, -⟩ := hc
      exact (Array.getElem?_eq_some_iff.mp h1).1
    · rw [if_neg hl] at hc
      exact (Array.getElem?_eq_some_iff.mp hc).1
  exact hc.to rfl (hq _ hlt) (fun k _ => rfl)
theorem zmetX_of (hl0 : l.stackTraces = false) (hfr : 8 ≤ fr) (hyc : y.cls = RX11) (hy : plainName y.cls = true) (hlen : (lg_sl As).length ≤ maxL) (hk0 : Cond.classLink RX11 312 "java/util/NoSuchElementException" ∈ zG) (hi0 : Cond.initialized "java/util/NoSuchElementException" ∈ zG) {K : Option Int32 → zW → Prop}
    (body : ∀ (p : Program) (e : Env) (R : Room) (s : State) (m : MethodId) (below : List Frame) (meth : Method) (c : Code) (Q : State → Prop) (H : Heap) (ls : Array Slot) (args : Array Value) (locs : List Loc) (cells slots : Nat), zCx p s m args meth c bytes maxL y.cls (some .int) → zRm R fr cells slots → zRetX p l e R s m args below meth c cells slots Q D dA md ad al ad al bytes K → zSt D dA md ad al ad al w s H locs → lv_has ls maxL (lv_args 0 As) →
      W p l e R s m args below meth c H locs cells slots Q (F0 m 0 ls [])) : zmetX l y bytes maxL (some .int) fr As D dA md ad al w K := by
  intro sz
  refine vx_ofW (cc := bytes) (maxL := maxL) (ret := (some .int)) hy rfl ?_
  intro p e s m args below meth c s₁ B hml hno hv
  obtain ⟨rfl, ⟨hsz, hEv, hRel⟩, hTh⟩ := hv
  subst hsz
  have hx := B.exec
  have hb := B.bytes
  have hr := B.returns
  have hlk := B.notSynchronized
  have hts := atoms_spec (ws := Cond.code y bytes maxL (some .int) :: (zG ++ zTw)) B.pre
  have htG : ∀ w ∈ zG, w.before (As.toArray) s = true := fun w hw => hts w (List.mem_cons_of_mem _ (List.mem_append_left _ hw))
  have hown := findClass_of_methodNamed B.named
  have hl := lv_entry As (n := maxL) hlen
  rw [lg_entry_eq]
  generalize (lg_sl As ++ List.replicate (maxL - (lg_sl As).length) Slot.unset).toArray = ls at hl ⊢
  refine body p e _ s m below meth c _ s.heap ls _ [] 0 0 ⟨hx, hb, hml, hown, htG, hr, hlk⟩ ⟨Nat.le_refl _, Nat.le_refl _, Nat.zero_le _, Nat.zero_le _⟩ ⟨fun v w1 H1 locs1 ls1 pc1 hk hS hdg => ?_, fun w1 H1 locs1 ls1 pc1 hk hS hls d0 d3 d4 d7 d10 => ?_⟩ (zhold0 hRel hEv) hl
  · refine vx_ret ?_
    refine W.widen (k := 1) (n := 6) (Nat.zero_le _) (Nat.zero_le _) ?_
    exact W.iret hx hb hr (fun t ht hW => ⟨⟨v, w1, rfl, hk, zhold hS ht hW⟩, hS.2.2.1.F ht⟩) hS.2.2.1.2.2 hdg hlk
  · rw [hyc] at hown
    refine vx_throwSW (text := zTx 2) (sa := dA (100 + 2)) (names := ["java/lang/RuntimeException", "java/lang/Exception"]) (A := zA ad al s.heap.size) (rest := []) hx hb hl0 hown (by decide +kernel) (by decide +kernel) (htG _ hk0) (htG _ hi0) hEv.2.1.2.2.2 ?_ (fun w hw => List.all_eq_true.mp zAtOt w hw) hTh.2.1 hTh.2.2 hS.2.2.1 hls d0 d3 d4 d7 d10 (fun x hx => (hno x hx).elim) ?_ ?_ ?_ ?_ hlk ?_ hS.2.2.1.2.2 (Nat.le_of_eq (Nat.zero_add _)) (Nat.le_of_eq (Nat.zero_add _))
    · exact vx_hat (B := zTnL) (fun w hw => hts w (List.mem_cons_of_mem _ (List.mem_append_right _ hw))) (fun w hw => by
        have h9 : w ∈ zAt.filter (fun w => !goodWord w) := hw
        rw [zTn] at h9
        exact h9) (fun w hw => va_Nw.use (zTnL_tab hw) (hTh.1 w hw))
    · show 2 + 3 < fr
      omega
    · show (List.map (fun v => Value.category v) []).sum + (13 * (2 + 1) + 43) ≤ 60 * fr
      simp only [List.map_nil, List.sum_nil]
      omega
    · exact Nat.le_refl _
    · exact Nat.le_refl _
    · intro t hvm hz hq
      refine ⟨w1, hk, ⟨rfl, ?_⟩, ?_, ?_⟩
      · exact hS.1.ext hvm hq
      · exact Nat.le_trans hS.2.2.1.1 hz
      · intro q h1 h2
        rw [hq q (Nat.lt_of_lt_of_le h1 hS.2.2.1.1)]
        exact hS.2.2.1.2.1 q h1 h2
theorem ztab (n : Nat) {x : Int} (h : ∀ j : Nat, j < n → x ≠ (j : Int)) : x < 0 ∨ (n : Int) - 1 < x := by
  by_cases h0 : x < 0
  · exact Or.inl h0
  · refine Or.inr ?_
    by_cases h1 : (n : Int) - 1 < x
    · exact h1
    · exact absurd (by omega) (h x.toNat (by omega))
end ZX

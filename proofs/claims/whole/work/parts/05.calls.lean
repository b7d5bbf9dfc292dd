/-! Calls, ends, contracts over the abstract world -/
def zroom (fr mc ms : Nat) : Room := { frames := fr, cells := mc, slots := ms, locals := 60 * fr }
def zRm (R : Room) (fr cells slots : Nat) : Prop := fr ≤ R.frames ∧ 60 * fr ≤ R.locals ∧ cells ≤ R.cells ∧ slots ≤ R.slots
theorem zRm.le {R : Room} {f1 f2 cells slots : Nat} (h : zRm R f1 cells slots) (hf : f2 ≤ f1) : zRm R f2 cells slots := ⟨by have := h.1; omega, by have := h.2.1; omega, h.2.2⟩
def zpre (D : va_G) (dA : Nat → ClassId) (md : Bool) (ad : Nat → Nat) (al : Nat → Prop) (w : zW) (sz : Nat) : State → Prop := fun U => U.heap.size = sz ∧ zEnv dA (zA ad al sz) U U.heap ∧ zRel D dA md ad al w U U.heap
def zB (D : va_G) (dA : Nat → ClassId) (md : Bool) (ad : Nat → Nat) (al : Nat → Prop) : zW → State → Prop := fun w t => zRel D dA md ad al w t t.heap
def zmetI (l : Launch) (y : MethodName) (bytes : ByteArray) (maxL : Nat) (ret : Option FieldType) (fr : Nat) (av : List Value) (D : va_G) (dA : Nat → ClassId) (md : Bool) (ad : Nat → Nat) (al : Nat → Prop) (w : zW) (K : Int32 → zW → Prop) : Prop :=
  ∀ sz : Nat, Met l y (Cond.code y bytes maxL ret :: zG) (zroom fr 0 0) (va_Pc av (zpre D dA md ad al w sz)) (va_Qi K (zB D dA md ad al) (zA ad al sz)) 0 0 (zA ad al sz)
def zmetL (l : Launch) (y : MethodName) (bytes : ByteArray) (maxL : Nat) (ret : Option FieldType) (fr : Nat) (av : List Value) (D : va_G) (dA : Nat → ClassId) (md : Bool) (ad : Nat → Nat) (al : Nat → Prop) (w : zW) (K : Int64 → zW → Prop) : Prop :=
  ∀ sz : Nat, Met l y (Cond.code y bytes maxL ret :: zG) (zroom fr 0 0) (va_Pc av (zpre D dA md ad al w sz)) (va_Ql K (zB D dA md ad al) (zA ad al sz)) 0 0 (zA ad al sz)
def zmetV (l : Launch) (y : MethodName) (bytes : ByteArray) (maxL : Nat) (ret : Option FieldType) (fr : Nat) (av : List Value) (D : va_G) (dA : Nat → ClassId) (md : Bool) (ad : Nat → Nat) (al : Nat → Prop) (w : zW) (K : zW → Prop) : Prop :=
  ∀ sz : Nat, Met l y (Cond.code y bytes maxL ret :: zG) (zroom fr 0 0) (va_Pc av (zpre D dA md ad al w sz)) (va_Qv K (zB D dA md ad al) (zA ad al sz)) 0 0 (zA ad al sz)
theorem zGood : zG.all goodWord = true := by decide +kernel
/-- what the tables say of a method that is called on an object -/
def zyV (y : MethodName) (bytes : ByteArray) (maxL : Nat) (ret : Option FieldType) (n : Nat) : Prop := Cond.code y bytes maxL ret ∈ zG ∧ Cond.instanceMethod y ∈ zG ∧ Cond.selects y.cls y y ∈ zG ∧ Cond.initialized y.cls ∈ zG ∧ (y.cls ≠ "java/lang/invoke/MethodHandle" ∧ y.cls ≠ "java/lang/invoke/VarHandle") ∧ (parseMethodDescriptor y.desc).map (fun d => d.parameters.length) = some n ∧ maxL ≤ 41
/-- of a static one -/
def zyS (y : MethodName) (bytes : ByteArray) (maxL : Nat) (ret : Option FieldType) (n : Nat) : Prop := Cond.code y bytes maxL ret ∈ zG ∧ Cond.static y ∈ zG ∧ Cond.initialized y.cls ∈ zG ∧ (y.cls ≠ "java/lang/invoke/MethodHandle" ∧ y.cls ≠ "java/lang/invoke/VarHandle") ∧ (parseMethodDescriptor y.desc).map (fun d => d.parameters.length) = some n ∧ maxL ≤ 41
theorem zA_in {s : State} {H : Heap} {ad ad0 : Nat → Nat} {al al0 : Nat → Prop} (hRA : ∀ n, al n → zA ad0 al0 s.heap.size (ad n)) (hS1 : s.heap.size ≤ H.size) : ∀ q, zA ad al H.size q → zA ad0 al0 s.heap.size q := by
  intro q h
  rcases h with ⟨n, hn, rfl⟩ | h
  · exact hRA n hn
  · exact Or.inr (Nat.le_trans hS1 h)
section ZCALLS
variable {p : Program} {l : Launch} {e : Env} {R : Room} {s : State} {m : MethodId} {args : Array Value} {below : List Frame} {meth : Method} {c : Code} {H : Heap} {locs : List Loc} {cells slots : Nat} {Q : State → Prop}
variable {cc : ByteArray} {pc nL index n k ci N fr fr1 np : Nat} {ls : Array Slot} {rest st : List Value} {D : va_G} {dA : Nat → ClassId} {md : Bool} {ad ad0 : Nat → Nat} {al al0 : Nat → Prop} {w : zW} {own : String} {ret ret1 : Option FieldType}
variable {y : MethodName} {bytes : ByteArray} {maxL : Nat} {As : List Value}
theorem zpay (hts : ∀ w ∈ zG, w.before args s = true) (hc : Cond.code y bytes maxL ret1 ∈ zG) : ∀ w ∈ (Cond.code y bytes maxL ret1 :: zG), ∀ (a' : Array Value) (U : State), s.WarmedH U.vm → w.before a' U = true := by
  intro w hw a' U hW
  have hm : w ∈ zG := by
    rcases List.mem_cons.mp hw with rfl | h
    · exact hc
    · exact h
  exact word_at hW (good_of_word (List.all_eq_true.mp zGood w hm)) (hts w hm)
theorem zcallB (X : zCx p s m args meth c cc nL own ret) (hR : zRm R (fr1 + 1) cells slots) (hc : Cond.code y bytes maxL ret1 ∈ zG) (hi : Cond.initialized y.cls ∈ zG) (hd : y.cls ≠ "java/lang/invoke/MethodHandle" ∧ y.cls ≠ "java/lang/invoke/VarHandle") (hn : (parseMethodDescriptor y.desc).map (fun d => d.parameters.length) = some np) (hm : maxL ≤ 41) (hl : Cond.methodLink own index y ∈ zG) {mc ms : Nat} :
    CallB R s args own index y bytes maxL ret1 (Cond.code y bytes maxL ret1 :: zG) (zroom fr1 mc ms) mc ms np := by
  have hts := X.2.2.2.2.1
  refine ⟨rfl, rfl, hR.1, ?_, zpay hts hc, List.mem_cons_self, hts _ hc, hts _ hi, hd, fun sig h => ?_, hts _ hl⟩
  · have h1 := hR.2.1
    show 8 + (maxL + 11) + 60 * fr1 ≤ R.locals
    omega
  · rw [h] at hn
    exact (Option.some.inj hn).symm
theorem zpreBlind {av : List Value} {sz : Nat} : FrameBlind (va_Pc av (zpre D dA md ad al w sz)) :=
  fun a U g mk q => ⟨q.1, q.2.1, q.2.2.1.same (U := U.calling g mk a) rfl, zRel.moved (u := U) (U := U.calling g mk a) (Vm.Alike.refl U.vm) q.2.2.2⟩
theorem zrecv (hR : zSt D dA md ad0 al0 ad al w s H locs) {b : Nat} (hb : al b) {q : vw_C} (hq : vwCl[zsh b]? = some q) : ∃ cellB : Cell, H[ad b]? = some cellB ∧ cellB.vm.isStatics = false ∧ s.vm.findClass q.1 = some cellB.cls := by
  have h0 := hR.1.2.1 b hb
  unfold zcell at h0
  have hc : zsh b < 20 := by
    have : zsh b < vwCl.length := (List.getElem?_eq_some_iff.mp hq).1
    have h13 : vwCl.length = 13 := rfl
    omega
  rw [if_pos hc] at h0
  obtain ⟨r, hr, cell, q1, q2, q3, q4⟩ := h0
  cases hq.symm.trans hr
  refine ⟨cell, q1, by rw [q3]; rfl, ?_⟩
  rw [q2]
  exact (hR.1.1.1 _ _ hq).2.1
theorem zback {w1 : zW} {t : State} {H1 : Heap} {locs1 : List Loc} (hR : zSt D dA md ad0 al0 ad al w s H locs) (ht : t.heap = H1) (hvm : s.vm.Alike t.vm) (hB : zB D dA md ad al w1 t) (hS1 : va_S (zA ad0 al0 s.heap.size) s.heap H1 locs1) : zSt D dA md ad0 al0 ad al w1 s H1 locs1 := by
  refine ⟨?_, hR.2.1, hS1, hR.2.2.2⟩
  have h : zRel D dA md ad al w1 t t.heap := hB
  rw [ht] at h
  exact h.moved hvm.symm
theorem zrunV (X : zCx p s m args meth c cc nL own ret) (hR : zSt D dA md ad0 al0 ad al w s H locs) {mc ms : Nat} (hr : zRm R (fr1 + 1) (cells + mc) (slots + ms)) (hy : zyV y bytes maxL ret1 np) (hl : Cond.methodLink own index y ∈ zG) {b : Nat} (hb : al b) {q : vw_C} (hq : vwCl[zsh b]? = some q) (hqc : q.1 = y.cls) {Qc : Array Value → State → Outcome → State → Prop} {free : Addr → Prop}
    (hM : Met l y (Cond.code y bytes maxL ret1 :: zG) (zroom fr1 mc ms) (va_Pc (.ref (ad b) :: As) (zpre D dA md ad al w H.size)) Qc mc ms free) (hn : As.length = np) {lv : List (Nat × Value)} (hsz : lv_has ls nL lv) (hst : (rest.map fun v => v.category).sum ≤ 8) (hdg : decode cc pc = .ok (.invokevirtual index, 3)) (hstk : st = As.reverse ++ .ref (ad b) :: rest) :
    va_Run p l e R s m args below meth c H locs cells slots mc ms (F0 m pc ls st) rest (Qc (Value.ref (ad b) :: As).toArray) free := by
  obtain ⟨y1, y2, y3, y4, y5, y6, y7⟩ := hy
  have hts := X.2.2.2.2.1
  refine va_runV (As := As) (rest := rest) ⟨X.1, X.2.1, X.2.2.1, X.2.2.2.1, hts⟩ hM ⟨zcallB X hr y1 y4 y5 y6 y7 hl, hts _ y2, hts _ y3⟩ ⟨zpreBlind, ?_, fun U hU hW => ⟨rfl, by rw [hU], ?_, ?_⟩⟩ rfl hn hsz.1 hstk (lv_room hst) hdg ⟨hr.2.2.1, hr.2.2.2⟩
  · rw [← hqc]; exact zrecv hR hb hq
  · rw [hU]; exact hR.2.2.2.go hW hR.2.2.1.2.1 (zA_in hR.2.1 hR.2.2.1.1)
  · rw [hU]; exact hR.1.moved hW.alike
theorem zrunS (X : zCx p s m args meth c cc nL own ret) (hR : zSt D dA md ad0 al0 ad al w s H locs) {mc ms : Nat} (hr : zRm R (fr1 + 1) (cells + mc) (slots + ms)) (hy : zyS y bytes maxL ret1 np) (hl : Cond.methodLink own index y ∈ zG) {Qc : Array Value → State → Outcome → State → Prop} {free : Addr → Prop}
    (hM : Met l y (Cond.code y bytes maxL ret1 :: zG) (zroom fr1 mc ms) (va_Pc As (zpre D dA md ad al w H.size)) Qc mc ms free) (hn : As.length = np) {lv : List (Nat × Value)} (hsz : lv_has ls nL lv) (hst : (rest.map fun v => v.category).sum ≤ 8) (hdg : decode cc pc = .ok (.invokestatic index, 3)) (hstk : st = As.reverse ++ rest) :
    va_Run p l e R s m args below meth c H locs cells slots mc ms (F0 m pc ls st) rest (Qc As.toArray) free := by
  obtain ⟨y1, y2, y4, y5, y6, y7⟩ := hy
  have hts := X.2.2.2.2.1
  refine va_runS (As := As) (rest := rest) ⟨X.1, X.2.1, X.2.2.1, X.2.2.2.1, hts⟩ hM ⟨zcallB X hr y1 y4 y5 y6 y7 hl, hts _ y2⟩ ⟨zpreBlind, fun U hU hW => ⟨rfl, by rw [hU], ?_, ?_⟩⟩ rfl hn hsz.1 hstk (lv_room hst) hdg ⟨hr.2.2.1, hr.2.2.2⟩
  · rw [hU]; exact hR.2.2.2.go hW hR.2.2.1.2.1 (zA_in hR.2.1 hR.2.2.1.1)
  · rw [hU]; exact hR.1.moved hW.alike
theorem z_callVI (X : zCx p s m args meth c cc nL own ret) (hr : zRm R (fr1 + 1) cells slots) (hR : zSt D dA md ad0 al0 ad al w s H locs) (hy : zyV y bytes maxL ret1 np) (hl : Cond.methodLink own index y ∈ zG) {b : Nat} (hb : al b) {q : vw_C} (hq : vwCl[zsh b]? = some q) (hqc : q.1 = y.cls) {K : Int32 → zW → Prop} (hM : zmetI l y bytes maxL ret1 fr1 (.ref (ad b) :: As) D dA md ad al w K) (hn : As.length = np) {lv : List (Nat × Value)} (hsz : lv_has ls nL lv) (hst : (rest.map fun v => v.category).sum ≤ 8) (hdg : decode cc pc = .ok (.invokevirtual index, 3)) (hstk : st = As.reverse ++ .ref (ad b) :: rest)
    (kk : ∀ (r : Int32) (w1 : zW) (H1 : Heap) (locs1 : List Loc), K r w1 → zSt D dA md ad0 al0 ad al w1 s H1 locs1 → W p l e R s m args below meth c H1 locs1 cells slots Q (F0 m (pc + 3) ls (.int r :: rest))) : W p l e R s m args below meth c H locs cells slots Q (F0 m pc ls st) := by
  refine va_calli (zrunV X hR hr hy hl hb hq hqc (hM H.size) hn hsz hst hdg hstk) hR.2.2.1 (fun q _ h => zA_in hR.2.1 hR.2.2.1.1 q h) (zA_in hR.2.1 hR.2.2.1.1) (fun r u t H1 locs1 ht hvm hw hB hz hk hS1 => ?_)
  exact kk r u H1 locs1 hw (zback hR ht hvm hB hS1)
theorem z_callVL (X : zCx p s m args meth c cc nL own ret) (hr : zRm R (fr1 + 1) cells slots) (hR : zSt D dA md ad0 al0 ad al w s H locs) (hy : zyV y bytes maxL ret1 np) (hl : Cond.methodLink own index y ∈ zG) {b : Nat} (hb : al b) {q : vw_C} (hq : vwCl[zsh b]? = some q) (hqc : q.1 = y.cls) {K : Int64 → zW → Prop} (hM : zmetL l y bytes maxL ret1 fr1 (.ref (ad b) :: As) D dA md ad al w K) (hn : As.length = np) {lv : List (Nat × Value)} (hsz : lv_has ls nL lv) (hst : (rest.map fun v => v.category).sum ≤ 8) (hdg : decode cc pc = .ok (.invokevirtual index, 3)) (hstk : st = As.reverse ++ .ref (ad b) :: rest)
    (kk : ∀ (r : Int64) (w1 : zW) (H1 : Heap) (locs1 : List Loc), K r w1 → zSt D dA md ad0 al0 ad al w1 s H1 locs1 → W p l e R s m args below meth c H1 locs1 cells slots Q (F0 m (pc + 3) ls (.long r :: rest))) : W p l e R s m args below meth c H locs cells slots Q (F0 m pc ls st) := by
  refine va_calll (zrunV X hR hr hy hl hb hq hqc (hM H.size) hn hsz hst hdg hstk) hR.2.2.1 (fun q _ h => zA_in hR.2.1 hR.2.2.1.1 q h) (zA_in hR.2.1 hR.2.2.1.1) (fun r u t H1 locs1 ht hvm hw hB hz hk hS1 => ?_)
  exact kk r u H1 locs1 hw (zback hR ht hvm hB hS1)
theorem z_callVV (X : zCx p s m args meth c cc nL own ret) (hr : zRm R (fr1 + 1) cells slots) (hR : zSt D dA md ad0 al0 ad al w s H locs) (hy : zyV y bytes maxL ret1 np) (hl : Cond.methodLink own index y ∈ zG) {b : Nat} (hb : al b) {q : vw_C} (hq : vwCl[zsh b]? = some q) (hqc : q.1 = y.cls) {K : zW → Prop} (hM : zmetV l y bytes maxL ret1 fr1 (.ref (ad b) :: As) D dA md ad al w K) (hn : As.length = np) {lv : List (Nat × Value)} (hsz : lv_has ls nL lv) (hst : (rest.map fun v => v.category).sum ≤ 8) (hdg : decode cc pc = .ok (.invokevirtual index, 3)) (hstk : st = As.reverse ++ .ref (ad b) :: rest)
    (kk : ∀ (w1 : zW) (H1 : Heap) (locs1 : List Loc), K w1 → zSt D dA md ad0 al0 ad al w1 s H1 locs1 → W p l e R s m args below meth c H1 locs1 cells slots Q (F0 m (pc + 3) ls rest)) : W p l e R s m args below meth c H locs cells slots Q (F0 m pc ls st) := by
  refine va_callv (zrunV X hR hr hy hl hb hq hqc (hM H.size) hn hsz hst hdg hstk) hR.2.2.1 (fun q _ h => zA_in hR.2.1 hR.2.2.1.1 q h) (zA_in hR.2.1 hR.2.2.1.1) (fun u t H1 locs1 ht hvm hw hB hz hk hS1 => ?_)
  exact kk u H1 locs1 hw (zback hR ht hvm hB hS1)
theorem z_callSI (X : zCx p s m args meth c cc nL own ret) (hr : zRm R (fr1 + 1) cells slots) (hR : zSt D dA md ad0 al0 ad al w s H locs) (hy : zyS y bytes maxL ret1 np) (hl : Cond.methodLink own index y ∈ zG) {K : Int32 → zW → Prop} (hM : zmetI l y bytes maxL ret1 fr1 As D dA md ad al w K) (hn : As.length = np) {lv : List (Nat × Value)} (hsz : lv_has ls nL lv) (hst : (rest.map fun v => v.category).sum ≤ 8) (hdg : decode cc pc = .ok (.invokestatic index, 3)) (hstk : st = As.reverse ++ rest)
    (kk : ∀ (r : Int32) (w1 : zW) (H1 : Heap) (locs1 : List Loc), K r w1 → zSt D dA md ad0 al0 ad al w1 s H1 locs1 → W p l e R s m args below meth c H1 locs1 cells slots Q (F0 m (pc + 3) ls (.int r :: rest))) : W p l e R s m args below meth c H locs cells slots Q (F0 m pc ls st) := by
  refine va_calli (zrunS X hR hr hy hl (hM H.size) hn hsz hst hdg hstk) hR.2.2.1 (fun q _ h => zA_in hR.2.1 hR.2.2.1.1 q h) (zA_in hR.2.1 hR.2.2.1.1) (fun r u t H1 locs1 ht hvm hw hB hz hk hS1 => ?_)
  exact kk r u H1 locs1 hw (zback hR ht hvm hB hS1)
theorem z_callSL (X : zCx p s m args meth c cc nL own ret) (hr : zRm R (fr1 + 1) cells slots) (hR : zSt D dA md ad0 al0 ad al w s H locs) (hy : zyS y bytes maxL ret1 np) (hl : Cond.methodLink own index y ∈ zG) {K : Int64 → zW → Prop} (hM : zmetL l y bytes maxL ret1 fr1 As D dA md ad al w K) (hn : As.length = np) {lv : List (Nat × Value)} (hsz : lv_has ls nL lv) (hst : (rest.map fun v => v.category).sum ≤ 8) (hdg : decode cc pc = .ok (.invokestatic index, 3)) (hstk : st = As.reverse ++ rest)
    (kk : ∀ (r : Int64) (w1 : zW) (H1 : Heap) (locs1 : List Loc), K r w1 → zSt D dA md ad0 al0 ad al w1 s H1 locs1 → W p l e R s m args below meth c H1 locs1 cells slots Q (F0 m (pc + 3) ls (.long r :: rest))) : W p l e R s m args below meth c H locs cells slots Q (F0 m pc ls st) := by
  refine va_calll (zrunS X hR hr hy hl (hM H.size) hn hsz hst hdg hstk) hR.2.2.1 (fun q _ h => zA_in hR.2.1 hR.2.2.1.1 q h) (zA_in hR.2.1 hR.2.2.1.1) (fun r u t H1 locs1 ht hvm hw hB hz hk hS1 => ?_)
  exact kk r u H1 locs1 hw (zback hR ht hvm hB hS1)
theorem z_callSV (X : zCx p s m args meth c cc nL own ret) (hr : zRm R (fr1 + 1) cells slots) (hR : zSt D dA md ad0 al0 ad al w s H locs) (hy : zyS y bytes maxL ret1 np) (hl : Cond.methodLink own index y ∈ zG) {K : zW → Prop} (hM : zmetV l y bytes maxL ret1 fr1 As D dA md ad al w K) (hn : As.length = np) {lv : List (Nat × Value)} (hsz : lv_has ls nL lv) (hst : (rest.map fun v => v.category).sum ≤ 8) (hdg : decode cc pc = .ok (.invokestatic index, 3)) (hstk : st = As.reverse ++ rest)
    (kk : ∀ (w1 : zW) (H1 : Heap) (locs1 : List Loc), K w1 → zSt D dA md ad0 al0 ad al w1 s H1 locs1 → W p l e R s m args below meth c H1 locs1 cells slots Q (F0 m (pc + 3) ls rest)) : W p l e R s m args below meth c H locs cells slots Q (F0 m pc ls st) := by
  refine va_callv (zrunS X hR hr hy hl (hM H.size) hn hsz hst hdg hstk) hR.2.2.1 (fun q _ h => zA_in hR.2.1 hR.2.2.1.1 q h) (zA_in hR.2.1 hR.2.2.1.1) (fun u t H1 locs1 ht hvm hw hB hz hk hS1 => ?_)
  exact kk u H1 locs1 hw (zback hR ht hvm hB hS1)
/-- an end of the method, for what K holds of -/
def zRetI (p : Program) (l : Launch) (e : Env) (R : Room) (s : State) (m : MethodId) (args : Array Value) (below : List Frame) (meth : Method) (c : Code) (cells slots : Nat) (Q : State → Prop) (D : va_G) (dA : Nat → ClassId) (md : Bool) (ad0 : Nat → Nat) (al0 : Nat → Prop) (ad : Nat → Nat) (al : Nat → Prop) (cc : ByteArray) (K : Int32 → zW → Prop) : Prop :=
  ∀ (v : Int32) (w : zW) (H : Heap) (locs : List Loc) (ls : Array Slot) (pc : Nat), K v w → zSt D dA md ad0 al0 ad al w s H locs → decode cc pc = .ok (.ireturn, 1) → W p l e R s m args below meth c H locs cells slots Q (F0 m pc ls [.int v])
def zRetZ (p : Program) (l : Launch) (e : Env) (R : Room) (s : State) (m : MethodId) (args : Array Value) (below : List Frame) (meth : Method) (c : Code) (cells slots : Nat) (Q : State → Prop) (D : va_G) (dA : Nat → ClassId) (md : Bool) (ad0 : Nat → Nat) (al0 : Nat → Prop) (ad : Nat → Nat) (al : Nat → Prop) (cc : ByteArray) (K : Int32 → zW → Prop) : Prop :=
  ∀ (v : Int32) (w : zW) (H : Heap) (locs : List Loc) (ls : Array Slot) (pc : Nat), zb01 v → K v w → zSt D dA md ad0 al0 ad al w s H locs → decode cc pc = .ok (.ireturn, 1) → W p l e R s m args below meth c H locs cells slots Q (F0 m pc ls [.int v])
def zRetL (p : Program) (l : Launch) (e : Env) (R : Room) (s : State) (m : MethodId) (args : Array Value) (below : List Frame) (meth : Method) (c : Code) (cells slots : Nat) (Q : State → Prop) (D : va_G) (dA : Nat → ClassId) (md : Bool) (ad0 : Nat → Nat) (al0 : Nat → Prop) (ad : Nat → Nat) (al : Nat → Prop) (cc : ByteArray) (K : Int64 → zW → Prop) : Prop :=
  ∀ (v : Int64) (w : zW) (H : Heap) (locs : List Loc) (ls : Array Slot) (pc : Nat), K v w → zSt D dA md ad0 al0 ad al w s H locs → decode cc pc = .ok (.lreturn, 1) → W p l e R s m args below meth c H locs cells slots Q (F0 m pc ls [.long v])
def zRetV (p : Program) (l : Launch) (e : Env) (R : Room) (s : State) (m : MethodId) (args : Array Value) (below : List Frame) (meth : Method) (c : Code) (cells slots : Nat) (Q : State → Prop) (D : va_G) (dA : Nat → ClassId) (md : Bool) (ad0 : Nat → Nat) (al0 : Nat → Prop) (ad : Nat → Nat) (al : Nat → Prop) (cc : ByteArray) (K : zW → Prop) : Prop :=
  ∀ (w : zW) (H : Heap) (locs : List Loc) (ls : Array Slot) (pc : Nat), K w → zSt D dA md ad0 al0 ad al w s H locs → decode cc pc = .ok (.return_, 1) → W p l e R s m args below meth c H locs cells slots Q (F0 m pc ls [])
theorem zhold {t : State} (hR : zSt D dA md ad al ad al w s H locs) (ht : t.heap = H) (hW : s.WarmedH t.vm) : zB D dA md ad al w t := by
  show zRel D dA md ad al w t t.heap
  rw [ht]
  exact hR.1.moved hW.alike
theorem zhold0 {D : va_G} {dA : Nat → ClassId} {md : Bool} {ad : Nat → Nat} {al : Nat → Prop} {w : zW} {s : State} (h : zRel D dA md ad al w s s.heap) (he : zEnv dA (zA ad al s.heap.size) s s.heap) : zSt D dA md ad al ad al w s s.heap [] := ⟨h, fun n hn => Or.inl ⟨n, hn, rfl⟩, va_S.rf, he⟩
end ZCALLS
theorem zmetI_of {l : Launch} {y : MethodName} {bytes : ByteArray} {maxL fr : Nat} {av : List Value} {D : va_G} {dA : Nat → ClassId} {md : Bool} {ad : Nat → Nat} {al : Nat → Prop} {w : zW} {K : Int32 → zW → Prop} (hy : plainName y.cls = true) (hlen : (lg_sl av).length ≤ maxL)
    (body : ∀ (p : Program) (e : Env) (R : Room) (s : State) (m : MethodId) (below : List Frame) (meth : Method) (c : Code) (Q : State → Prop) (H : Heap) (ls : Array Slot) (args : Array Value) (locs : List Loc) (cells slots : Nat), zCx p s m args meth c bytes maxL y.cls (some .int) → zRm R fr cells slots → zRetI p l e R s m args below meth c cells slots Q D dA md ad al ad al bytes K → zSt D dA md ad al ad al w s H locs → lv_has ls maxL (lv_args 0 av) →
      W p l e R s m args below meth c H locs cells slots Q (F0 m 0 ls [])) : zmetI l y bytes maxL (some .int) fr av D dA md ad al w K := by
  intro sz
  refine Met.ofW (cc := bytes) (maxL := maxL) (ret := (some .int)) hy rfl ?_
  intro p e s m args below meth c s₁ B hml hv
  obtain ⟨rfl, hsz, hEv, hRel⟩ := hv
  subst hsz
  have hx := B.exec
  have hb := B.bytes
  have hr := B.returns
  have hlk := B.notSynchronized
  have hts := atoms_spec (ws := Cond.code y bytes maxL (some .int) :: zG) B.pre
  have hl := lv_entry av (n := maxL) hlen
  rw [lg_entry_eq]
  generalize (lg_sl av ++ List.replicate (maxL - (lg_sl av).length) Slot.unset).toArray = ls at hl ⊢
  refine body p e _ s m below meth c _ s.heap ls _ [] 0 0 ⟨hx, hb, hml, findClass_of_methodNamed B.named, fun w hw => hts w (List.mem_cons_of_mem _ hw), hr, hlk⟩ ⟨Nat.le_refl _, Nat.le_refl _, Nat.zero_le _, Nat.zero_le _⟩ (fun v w1 H1 locs1 ls1 pc1 hk hS hdg => ?_) (zhold0 hRel hEv) hl
  exact W.iret hx hb hr (fun t ht hW => ⟨⟨v, w1, rfl, hk, zhold hS ht hW⟩, hS.2.2.1.F ht⟩) hS.2.2.1.2.2 hdg hlk
theorem zmetZ_of {l : Launch} {y : MethodName} {bytes : ByteArray} {maxL fr : Nat} {av : List Value} {D : va_G} {dA : Nat → ClassId} {md : Bool} {ad : Nat → Nat} {al : Nat → Prop} {w : zW} {K : Int32 → zW → Prop} (hy : plainName y.cls = true) (hlen : (lg_sl av).length ≤ maxL)
    (body : ∀ (p : Program) (e : Env) (R : Room) (s : State) (m : MethodId) (below : List Frame) (meth : Method) (c : Code) (Q : State → Prop) (H : Heap) (ls : Array Slot) (args : Array Value) (locs : List Loc) (cells slots : Nat), zCx p s m args meth c bytes maxL y.cls (some .boolean) → zRm R fr cells slots → zRetZ p l e R s m args below meth c cells slots Q D dA md ad al ad al bytes K → zSt D dA md ad al ad al w s H locs → lv_has ls maxL (lv_args 0 av) →
      W p l e R s m args below meth c H locs cells slots Q (F0 m 0 ls [])) : zmetI l y bytes maxL (some .boolean) fr av D dA md ad al w K := by
  intro sz
  refine Met.ofW (cc := bytes) (maxL := maxL) (ret := (some .boolean)) hy rfl ?_
  intro p e s m args below meth c s₁ B hml hv
  obtain ⟨rfl, hsz, hEv, hRel⟩ := hv
  subst hsz
  have hx := B.exec
  have hb := B.bytes
  have hr := B.returns
  have hlk := B.notSynchronized
  have hts := atoms_spec (ws := Cond.code y bytes maxL (some .boolean) :: zG) B.pre
  have hl := lv_entry av (n := maxL) hlen
  rw [lg_entry_eq]
  generalize (lg_sl av ++ List.replicate (maxL - (lg_sl av).length) Slot.unset).toArray = ls at hl ⊢
  refine body p e _ s m below meth c _ s.heap ls _ [] 0 0 ⟨hx, hb, hml, findClass_of_methodNamed B.named, fun w hw => hts w (List.mem_cons_of_mem _ hw), hr, hlk⟩ ⟨Nat.le_refl _, Nat.le_refl _, Nat.zero_le _, Nat.zero_le _⟩ (fun v w1 H1 locs1 ls1 pc1 h01 hk hS hdg => ?_) (zhold0 hRel hEv) hl
  exact W.zret hx hb hr (by rcases h01 with rfl | rfl <;> rfl) (fun t ht hW => ⟨⟨v, w1, rfl, hk, zhold hS ht hW⟩, hS.2.2.1.F ht⟩) hS.2.2.1.2.2 hdg hlk
theorem zmetL_of {l : Launch} {y : MethodName} {bytes : ByteArray} {maxL fr : Nat} {av : List Value} {D : va_G} {dA : Nat → ClassId} {md : Bool} {ad : Nat → Nat} {al : Nat → Prop} {w : zW} {K : Int64 → zW → Prop} (hy : plainName y.cls = true) (hlen : (lg_sl av).length ≤ maxL)
    (body : ∀ (p : Program) (e : Env) (R : Room) (s : State) (m : MethodId) (below : List Frame) (meth : Method) (c : Code) (Q : State → Prop) (H : Heap) (ls : Array Slot) (args : Array Value) (locs : List Loc) (cells slots : Nat), zCx p s m args meth c bytes maxL y.cls (some .long) → zRm R fr cells slots → zRetL p l e R s m args below meth c cells slots Q D dA md ad al ad al bytes K → zSt D dA md ad al ad al w s H locs → lv_has ls maxL (lv_args 0 av) →
      W p l e R s m args below meth c H locs cells slots Q (F0 m 0 ls [])) : zmetL l y bytes maxL (some .long) fr av D dA md ad al w K := by
  intro sz
  refine Met.ofW (cc := bytes) (maxL := maxL) (ret := (some .long)) hy rfl ?_
  intro p e s m args below meth c s₁ B hml hv
  obtain ⟨rfl, hsz, hEv, hRel⟩ := hv
  subst hsz
  have hx := B.exec
  have hb := B.bytes
  have hr := B.returns
  have hlk := B.notSynchronized
  have hts := atoms_spec (ws := Cond.code y bytes maxL (some .long) :: zG) B.pre
  have hl := lv_entry av (n := maxL) hlen
  rw [lg_entry_eq]
  generalize (lg_sl av ++ List.replicate (maxL - (lg_sl av).length) Slot.unset).toArray = ls at hl ⊢
  refine body p e _ s m below meth c _ s.heap ls _ [] 0 0 ⟨hx, hb, hml, findClass_of_methodNamed B.named, fun w hw => hts w (List.mem_cons_of_mem _ hw), hr, hlk⟩ ⟨Nat.le_refl _, Nat.le_refl _, Nat.zero_le _, Nat.zero_le _⟩ (fun v w1 H1 locs1 ls1 pc1 hk hS hdg => ?_) (zhold0 hRel hEv) hl
  exact W.lret hx hb hr (fun t ht hW => ⟨⟨v, w1, rfl, hk, zhold hS ht hW⟩, hS.2.2.1.F ht⟩) hS.2.2.1.2.2 hdg hlk
theorem zmetV_of {l : Launch} {y : MethodName} {bytes : ByteArray} {maxL fr : Nat} {av : List Value} {D : va_G} {dA : Nat → ClassId} {md : Bool} {ad : Nat → Nat} {al : Nat → Prop} {w : zW} {K : zW → Prop} (hy : plainName y.cls = true) (hlen : (lg_sl av).length ≤ maxL)
    (body : ∀ (p : Program) (e : Env) (R : Room) (s : State) (m : MethodId) (below : List Frame) (meth : Method) (c : Code) (Q : State → Prop) (H : Heap) (ls : Array Slot) (args : Array Value) (locs : List Loc) (cells slots : Nat), zCx p s m args meth c bytes maxL y.cls none → zRm R fr cells slots → zRetV p l e R s m args below meth c cells slots Q D dA md ad al ad al bytes K → zSt D dA md ad al ad al w s H locs → lv_has ls maxL (lv_args 0 av) →
      W p l e R s m args below meth c H locs cells slots Q (F0 m 0 ls [])) : zmetV l y bytes maxL none fr av D dA md ad al w K := by
  intro sz
  refine Met.ofW (cc := bytes) (maxL := maxL) (ret := none) hy rfl ?_
  intro p e s m args below meth c s₁ B hml hv
  obtain ⟨rfl, hsz, hEv, hRel⟩ := hv
  subst hsz
  have hx := B.exec
  have hb := B.bytes
  have hr := B.returns
  have hlk := B.notSynchronized
  have hts := atoms_spec (ws := Cond.code y bytes maxL none :: zG) B.pre
  have hl := lv_entry av (n := maxL) hlen
  rw [lg_entry_eq]
  generalize (lg_sl av ++ List.replicate (maxL - (lg_sl av).length) Slot.unset).toArray = ls at hl ⊢
  refine body p e _ s m below meth c _ s.heap ls _ [] 0 0 ⟨hx, hb, hml, findClass_of_methodNamed B.named, fun w hw => hts w (List.mem_cons_of_mem _ hw), hr, hlk⟩ ⟨Nat.le_refl _, Nat.le_refl _, Nat.zero_le _, Nat.zero_le _⟩ (fun w1 H1 locs1 ls1 pc1 hk hS hdg => ?_) (zhold0 hRel hEv) hl
  exact W.vret hx hb hr (fun t ht hW => ⟨⟨w1, rfl, hk, zhold hS ht hW⟩, hS.2.2.1.F ht⟩) hS.2.2.1.2.2 hdg hlk

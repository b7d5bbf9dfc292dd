/-! Methods that make cells: the cells and their addresses grow -/
def zExt (ad : Nat → Nat) (al : Nat → Prop) (ad1 : Nat → Nat) (al1 : Nat → Prop) : Prop := ∀ n, al n → al1 n ∧ ad1 n = ad n
theorem zExt.rf {ad : Nat → Nat} {al : Nat → Prop} : zExt ad al ad al := fun _ h => ⟨h, rfl⟩
theorem zExt.tr {ad ad1 ad2 : Nat → Nat} {al al1 al2 : Nat → Prop} (h : zExt ad al ad1 al1) (h2 : zExt ad1 al1 ad2 al2) : zExt ad al ad2 al2 := fun n hn => ⟨(h2 n (h n hn).1).1, (h2 n (h n hn).1).2.trans (h n hn).2⟩
def zBA (D : va_G) (dA : Nat → ClassId) (md : Bool) (ad : Nat → Nat) (al : Nat → Prop) (sz : Nat) : zW → State → Prop := fun w t => ∃ (ad1 : Nat → Nat) (al1 : Nat → Prop), zExt ad al ad1 al1 ∧ zRel D dA md ad1 al1 w t t.heap ∧ ∀ n, al1 n → zA ad al sz (ad1 n)
def zmetAI (l : Launch) (y : MethodName) (bytes : ByteArray) (maxL : Nat) (ret : Option FieldType) (fr mc ms : Nat) (av : List Value) (D : va_G) (dA : Nat → ClassId) (md : Bool) (ad : Nat → Nat) (al : Nat → Prop) (w : zW) (K : Int32 → zW → Prop) : Prop :=
  ∀ sz : Nat, Met l y (Cond.code y bytes maxL ret :: zG) (zroom fr mc ms) (va_Pc av (zpre D dA md ad al w sz)) (va_Qi K (zBA D dA md ad al sz) (zA ad al sz)) mc ms (zA ad al sz)
def zmetAV (l : Launch) (y : MethodName) (bytes : ByteArray) (maxL : Nat) (ret : Option FieldType) (fr mc ms : Nat) (av : List Value) (D : va_G) (dA : Nat → ClassId) (md : Bool) (ad : Nat → Nat) (al : Nat → Prop) (w : zW) (K : zW → Prop) : Prop :=
  ∀ sz : Nat, Met l y (Cond.code y bytes maxL ret :: zG) (zroom fr mc ms) (va_Pc av (zpre D dA md ad al w sz)) (va_Qv K (zBA D dA md ad al sz) (zA ad al sz)) mc ms (zA ad al sz)
/-- the answer is the cell r -/
def zmetAR (l : Launch) (y : MethodName) (bytes : ByteArray) (maxL : Nat) (ret : Option FieldType) (fr mc ms : Nat) (r : Nat) (av : List Value) (D : va_G) (dA : Nat → ClassId) (md : Bool) (ad : Nat → Nat) (al : Nat → Prop) (w : zW) (K : zW → Prop) : Prop :=
  ∀ sz : Nat, Met l y (Cond.code y bytes maxL ret :: zG) (zroom fr mc ms) (va_Pc av (zpre D dA md ad al w sz)) (va_Qr K (fun w1 a t => a = ad r ∧ zBA D dA md ad al sz w1 t) (zA ad al sz)) mc ms (zA ad al sz)
/-- w, and a new cell j, empty -/
def nW (w : zW) (j : Nat) : zW := (fun a b => if a = j then 0 else if a = 0 ∧ b = j then 1 else w.1 a b, fun a b => if a = j then 0 else w.2.1 a b, fun a b => if a = j then 0 else w.2.2 a b)
section ZALLOC
variable {p : Program} {l : Launch} {e : Env} {R : Room} {s : State} {m : MethodId} {args : Array Value} {below : List Frame} {meth : Method} {c : Code} {H : Heap} {locs : List Loc} {cells slots : Nat} {Q : State → Prop}
variable {cc : ByteArray} {pc nL index n k ci N fr fr1 np mc ms : Nat} {ls : Array Slot} {rest st : List Value} {D : va_G} {dA : Nat → ClassId} {md : Bool} {ad ad0 : Nat → Nat} {al al0 : Nat → Prop} {w : zW} {own : String} {ret ret1 : Option FieldType}
variable {y : MethodName} {bytes : ByteArray} {maxL : Nat} {As : List Value}
theorem zbackA {w1 : zW} {t : State} {H1 : Heap} {locs1 : List Loc} (hR : zSt D dA md ad0 al0 ad al w s H locs) (ht : t.heap = H1) (hvm : s.vm.Alike t.vm) (hB : zBA D dA md ad al H.size w1 t) (hS1 : va_S (zA ad0 al0 s.heap.size) s.heap H1 locs1) : ∃ (ad1 : Nat → Nat) (al1 : Nat → Prop), zExt ad al ad1 al1 ∧ zSt D dA md ad0 al0 ad1 al1 w1 s H1 locs1 := by
  obtain ⟨ad1, al1, hE, h, hN⟩ := hB
  rw [ht] at h
  exact ⟨ad1, al1, hE, h.moved hvm.symm, fun n hn => zA_in hR.2.1 hR.2.2.1.1 _ (hN n hn), hS1, hR.2.2.2⟩
theorem z_callAVI (X : zCx p s m args meth c cc nL own ret) (hr : zRm R (fr1 + 1) (cells + mc) (slots + ms)) (hR : zSt D dA md ad0 al0 ad al w s H locs) (hy : zyV y bytes maxL ret1 np) (hl : Cond.methodLink own index y ∈ zG) {b : Nat} (hb : al b) {q : vw_C} (hq : vwCl[zsh b]? = some q) (hqc : q.1 = y.cls) {K : Int32 → zW → Prop} (hM : zmetAI l y bytes maxL ret1 fr1 mc ms (.ref (ad b) :: As) D dA md ad al w K) (hn : As.length = np) {lv : List (Nat × Value)} (hsz : lv_has ls nL lv) (hst : (rest.map fun v => v.category).sum ≤ 8) (hdg : decode cc pc = .ok (.invokevirtual index, 3)) (hstk : st = As.reverse ++ .ref (ad b) :: rest)
    (kk : ∀ (r : Int32) (w1 : zW) (H1 : Heap) (locs1 : List Loc) (ad1 : Nat → Nat) (al1 : Nat → Prop), K r w1 → zExt ad al ad1 al1 → zSt D dA md ad0 al0 ad1 al1 w1 s H1 locs1 → W p l e R s m args below meth c H1 locs1 (cells + mc) (slots + ms) Q (F0 m (pc + 3) ls (.int r :: rest))) : W p l e R s m args below meth c H locs cells slots Q (F0 m pc ls st) := by
  refine va_calli (zrunV X hR hr hy hl hb hq hqc (hM H.size) hn hsz hst hdg hstk) hR.2.2.1 (fun q _ h => zA_in hR.2.1 hR.2.2.1.1 q h) (zA_in hR.2.1 hR.2.2.1.1) (fun r u t H1 locs1 ht hvm hw hB hz hk hS1 => ?_)
  obtain ⟨ad1, al1, hE, hR1⟩ := zbackA hR ht hvm hB hS1
  exact kk r u H1 locs1 ad1 al1 hw hE hR1
theorem z_callAVV (X : zCx p s m args meth c cc nL own ret) (hr : zRm R (fr1 + 1) (cells + mc) (slots + ms)) (hR : zSt D dA md ad0 al0 ad al w s H locs) (hy : zyV y bytes maxL ret1 np) (hl : Cond.methodLink own index y ∈ zG) {b : Nat} (hb : al b) {q : vw_C} (hq : vwCl[zsh b]? = some q) (hqc : q.1 = y.cls) {K : zW → Prop} (hM : zmetAV l y bytes maxL ret1 fr1 mc ms (.ref (ad b) :: As) D dA md ad al w K) (hn : As.length = np) {lv : List (Nat × Value)} (hsz : lv_has ls nL lv) (hst : (rest.map fun v => v.category).sum ≤ 8) (hdg : decode cc pc = .ok (.invokevirtual index, 3)) (hstk : st = As.reverse ++ .ref (ad b) :: rest)
    (kk : ∀ (w1 : zW) (H1 : Heap) (locs1 : List Loc) (ad1 : Nat → Nat) (al1 : Nat → Prop), K w1 → zExt ad al ad1 al1 → zSt D dA md ad0 al0 ad1 al1 w1 s H1 locs1 → W p l e R s m args below meth c H1 locs1 (cells + mc) (slots + ms) Q (F0 m (pc + 3) ls rest)) : W p l e R s m args below meth c H locs cells slots Q (F0 m pc ls st) := by
  refine va_callv (zrunV X hR hr hy hl hb hq hqc (hM H.size) hn hsz hst hdg hstk) hR.2.2.1 (fun q _ h => zA_in hR.2.1 hR.2.2.1.1 q h) (zA_in hR.2.1 hR.2.2.1.1) (fun u t H1 locs1 ht hvm hw hB hz hk hS1 => ?_)
  obtain ⟨ad1, al1, hE, hR1⟩ := zbackA hR ht hvm hB hS1
  exact kk u H1 locs1 ad1 al1 hw hE hR1
theorem z_callAVR (X : zCx p s m args meth c cc nL own ret) (hr : zRm R (fr1 + 1) (cells + mc) (slots + ms)) (hR : zSt D dA md ad0 al0 ad al w s H locs) (hy : zyV y bytes maxL ret1 np) (hl : Cond.methodLink own index y ∈ zG) {b : Nat} (hb : al b) {q : vw_C} (hq : vwCl[zsh b]? = some q) (hqc : q.1 = y.cls) {r : Nat} (hr9 : al r) {K : zW → Prop} (hM : zmetAR l y bytes maxL ret1 fr1 mc ms r (.ref (ad b) :: As) D dA md ad al w K) (hn : As.length = np) {lv : List (Nat × Value)} (hsz : lv_has ls nL lv) (hst : (rest.map fun v => v.category).sum ≤ 8) (hdg : decode cc pc = .ok (.invokevirtual index, 3)) (hstk : st = As.reverse ++ .ref (ad b) :: rest)
    (kk : ∀ (w1 : zW) (H1 : Heap) (locs1 : List Loc) (ad1 : Nat → Nat) (al1 : Nat → Prop), K w1 → zExt ad al ad1 al1 → zSt D dA md ad0 al0 ad1 al1 w1 s H1 locs1 → W p l e R s m args below meth c H1 locs1 (cells + mc) (slots + ms) Q (F0 m (pc + 3) ls (.ref (ad1 r) :: rest))) : W p l e R s m args below meth c H locs cells slots Q (F0 m pc ls st) := by
  refine va_callr (zrunV X hR hr hy hl hb hq hqc (hM H.size) hn hsz hst hdg hstk) hR.2.2.1 (fun q _ h => zA_in hR.2.1 hR.2.2.1.1 q h) (zA_in hR.2.1 hR.2.2.1.1) (fun u a t H1 locs1 ht hvm hw hB hz hk hS1 => ?_)
  obtain ⟨rfl, hB⟩ := hB
  obtain ⟨ad1, al1, hE, hR1⟩ := zbackA hR ht hvm hB hS1
  have h := kk u H1 locs1 ad1 al1 hw hE hR1
  rw [(hE r hr9).2] at h
  exact h
def zRetAI (p : Program) (l : Launch) (e : Env) (R : Room) (s : State) (m : MethodId) (args : Array Value) (below : List Frame) (meth : Method) (c : Code) (Q : State → Prop) (D : va_G) (dA : Nat → ClassId) (md : Bool) (ad0 : Nat → Nat) (al0 : Nat → Prop) (cc : ByteArray) (K : Int32 → zW → Prop) : Prop :=
  ∀ (ad : Nat → Nat) (al : Nat → Prop) (cells slots : Nat) (v : Int32) (w : zW) (H : Heap) (locs : List Loc) (ls : Array Slot) (pc : Nat), zExt ad0 al0 ad al → cells ≤ R.cells → slots ≤ R.slots → K v w → zSt D dA md ad0 al0 ad al w s H locs → decode cc pc = .ok (.ireturn, 1) → W p l e R s m args below meth c H locs cells slots Q (F0 m pc ls [.int v])
def zRetAV (p : Program) (l : Launch) (e : Env) (R : Room) (s : State) (m : MethodId) (args : Array Value) (below : List Frame) (meth : Method) (c : Code) (Q : State → Prop) (D : va_G) (dA : Nat → ClassId) (md : Bool) (ad0 : Nat → Nat) (al0 : Nat → Prop) (cc : ByteArray) (K : zW → Prop) : Prop :=
  ∀ (ad : Nat → Nat) (al : Nat → Prop) (cells slots : Nat) (w : zW) (H : Heap) (locs : List Loc) (ls : Array Slot) (pc : Nat), zExt ad0 al0 ad al → cells ≤ R.cells → slots ≤ R.slots → K w → zSt D dA md ad0 al0 ad al w s H locs → decode cc pc = .ok (.return_, 1) → W p l e R s m args below meth c H locs cells slots Q (F0 m pc ls [])
def zRetAR (p : Program) (l : Launch) (e : Env) (R : Room) (s : State) (m : MethodId) (args : Array Value) (below : List Frame) (meth : Method) (c : Code) (Q : State → Prop) (D : va_G) (dA : Nat → ClassId) (md : Bool) (ad0 : Nat → Nat) (al0 : Nat → Prop) (cc : ByteArray) (r : Nat) (K : zW → Prop) : Prop :=
  ∀ (ad : Nat → Nat) (al : Nat → Prop) (cells slots : Nat) (w : zW) (H : Heap) (locs : List Loc) (ls : Array Slot) (pc : Nat), zExt ad0 al0 ad al → cells ≤ R.cells → slots ≤ R.slots → K w → zSt D dA md ad0 al0 ad al w s H locs → decode cc pc = .ok (.areturn, 1) → W p l e R s m args below meth c H locs cells slots Q (F0 m pc ls [.ref (ad r)])
theorem zholdA {t : State} (hR : zSt D dA md ad0 al0 ad al w s H locs) (hE : zExt ad0 al0 ad al) (ht : t.heap = H) (hW : s.WarmedH t.vm) : zBA D dA md ad0 al0 s.heap.size w t := by
  refine ⟨ad, al, hE, ?_, hR.2.1⟩
  rw [ht]
  exact hR.1.moved hW.alike
theorem zmetAI_of (hy : plainName y.cls = true) (hlen : (lg_sl As).length ≤ maxL) {K : Int32 → zW → Prop}
    (body : ∀ (p : Program) (e : Env) (R : Room) (s : State) (m : MethodId) (below : List Frame) (meth : Method) (c : Code) (Q : State → Prop) (H : Heap) (ls : Array Slot) (args : Array Value) (locs : List Loc) (cells slots : Nat), zCx p s m args meth c bytes maxL y.cls (some .int) → zRm R fr (cells + mc) (slots + ms) → zRetAI p l e R s m args below meth c Q D dA md ad al bytes K → zSt D dA md ad al ad al w s H locs → lv_has ls maxL (lv_args 0 As) →
      W p l e R s m args below meth c H locs cells slots Q (F0 m 0 ls [])) : zmetAI l y bytes maxL (some .int) fr mc ms As D dA md ad al w K := by
  intro sz
  refine Met.ofW (cc := bytes) (maxL := maxL) (ret := (some .int)) hy rfl ?_
  intro p e s m args below meth c s₁ B hml hv
  obtain ⟨rfl, hsz, hEv, hRel⟩ := hv
  subst hsz
  have hx := B.exec
  have hb := B.bytes
  have hr := B.returns
  have hlk := B.notSynchronized
  have hts := atoms_spec (ws := Cond.code y bytes maxL (some .int) :: zG) B.pre
  have hl := lv_entry As (n := maxL) hlen
  rw [lg_entry_eq]
  generalize (lg_sl As ++ List.replicate (maxL - (lg_sl As).length) Slot.unset).toArray = ls at hl ⊢
  refine body p e _ s m below meth c _ s.heap ls _ [] 0 0 ⟨hx, hb, hml, findClass_of_methodNamed B.named, fun w hw => hts w (List.mem_cons_of_mem _ hw), hr, hlk⟩ ⟨Nat.le_refl _, Nat.le_refl _, Nat.le_of_eq (Nat.zero_add _), Nat.le_of_eq (Nat.zero_add _)⟩ (fun ad1 al1 cells1 slots1 v w1 H1 locs1 ls1 pc1 hE hc hs hk hS hdg => ?_) (zhold0 hRel hEv) hl
  refine W.widen (k := mc) (n := ms) hc hs ?_
  exact W.iret hx hb hr (fun t ht hW => ⟨⟨v, w1, rfl, hk, zholdA hS hE ht hW⟩, hS.2.2.1.F ht⟩) hS.2.2.1.2.2 hdg hlk
theorem zmetAV_of (hy : plainName y.cls = true) (hlen : (lg_sl As).length ≤ maxL) {K : zW → Prop}
    (body : ∀ (p : Program) (e : Env) (R : Room) (s : State) (m : MethodId) (below : List Frame) (meth : Method) (c : Code) (Q : State → Prop) (H : Heap) (ls : Array Slot) (args : Array Value) (locs : List Loc) (cells slots : Nat), zCx p s m args meth c bytes maxL y.cls none → zRm R fr (cells + mc) (slots + ms) → zRetAV p l e R s m args below meth c Q D dA md ad al bytes K → zSt D dA md ad al ad al w s H locs → lv_has ls maxL (lv_args 0 As) →
      W p l e R s m args below meth c H locs cells slots Q (F0 m 0 ls [])) : zmetAV l y bytes maxL none fr mc ms As D dA md ad al w K := by
  intro sz
  refine Met.ofW (cc := bytes) (maxL := maxL) (ret := none) hy rfl ?_
  intro p e s m args below meth c s₁ B hml hv
  obtain ⟨rfl, hsz, hEv, hRel⟩ := hv
  subst hsz
  have hx := B.exec
  have hb := B.bytes
  have hr := B.returns
  have hlk := B.notSynchronized
  have hts := atoms_spec (ws := Cond.code y bytes maxL none :: zG) B.pre
  have hl := lv_entry As (n := maxL) hlen
  rw [lg_entry_eq]
  generalize (lg_sl As ++ List.replicate (maxL - (lg_sl As).length) Slot.unset).toArray = ls at hl ⊢
  refine body p e _ s m below meth c _ s.heap ls _ [] 0 0 ⟨hx, hb, hml, findClass_of_methodNamed B.named, fun w hw => hts w (List.mem_cons_of_mem _ hw), hr, hlk⟩ ⟨Nat.le_refl _, Nat.le_refl _, Nat.le_of_eq (Nat.zero_add _), Nat.le_of_eq (Nat.zero_add _)⟩ (fun ad1 al1 cells1 slots1 w1 H1 locs1 ls1 pc1 hE hc hs hk hS hdg => ?_) (zhold0 hRel hEv) hl
  refine W.widen (k := mc) (n := ms) hc hs ?_
  exact W.vret hx hb hr (fun t ht hW => ⟨⟨w1, rfl, hk, zholdA hS hE ht hW⟩, hS.2.2.1.F ht⟩) hS.2.2.1.2.2 hdg hlk
theorem zmetAR_of (hy : plainName y.cls = true) (hlen : (lg_sl As).length ≤ maxL) {r : Nat} (hr0 : zgh md w r) {cn : String} {K : zW → Prop}
    (body : ∀ (p : Program) (e : Env) (R : Room) (s : State) (m : MethodId) (below : List Frame) (meth : Method) (c : Code) (Q : State → Prop) (H : Heap) (ls : Array Slot) (args : Array Value) (locs : List Loc) (cells slots : Nat), zCx p s m args meth c bytes maxL y.cls (some (.object cn)) → zRm R fr (cells + mc) (slots + ms) → zRetAR p l e R s m args below meth c Q D dA md ad al bytes r K → zSt D dA md ad al ad al w s H locs → lv_has ls maxL (lv_args 0 As) →
      W p l e R s m args below meth c H locs cells slots Q (F0 m 0 ls [])) : zmetAR l y bytes maxL (some (.object cn)) fr mc ms r As D dA md ad al w K := by
  intro sz
  refine Met.ofW (cc := bytes) (maxL := maxL) (ret := (some (.object cn))) hy rfl ?_
  intro p e s m args below meth c s₁ B hml hv
  obtain ⟨rfl, hsz, hEv, hRel⟩ := hv
  subst hsz
  have hx := B.exec
  have hb := B.bytes
  have hr := B.returns
  have hlk := B.notSynchronized
  have hts := atoms_spec (ws := Cond.code y bytes maxL (some (.object cn)) :: zG) B.pre
  have hl := lv_entry As (n := maxL) hlen
  have hal : al r := (hRel.2.2.2.1.1 r).mpr hr0
  rw [lg_entry_eq]
  generalize (lg_sl As ++ List.replicate (maxL - (lg_sl As).length) Slot.unset).toArray = ls at hl ⊢
  refine body p e _ s m below meth c _ s.heap ls _ [] 0 0 ⟨hx, hb, hml, findClass_of_methodNamed B.named, fun w hw => hts w (List.mem_cons_of_mem _ hw), hr, hlk⟩ ⟨Nat.le_refl _, Nat.le_refl _, Nat.le_of_eq (Nat.zero_add _), Nat.le_of_eq (Nat.zero_add _)⟩ (fun ad1 al1 cells1 slots1 w1 H1 locs1 ls1 pc1 hE hc hs hk hS hdg => ?_) (zhold0 hRel hEv) hl
  refine W.widen (k := mc) (n := ms) hc hs ?_
  exact W.aret hx hb hr (Or.inl ⟨_, rfl⟩) (Or.inr ⟨_, rfl⟩) (fun t ht hW => ⟨⟨w1, ad1 r, rfl, hk, (hE r hal).2, zholdA hS hE ht hW⟩, hS.2.2.1.F ht⟩) hS.2.2.1.2.2 hdg hlk
/-- Object's constructor -/
theorem z_objInit (X : zCx p s m args meth c cc nL own ret) (hr : zRm R 1 cells slots) (hl : Cond.methodLink own index objectInit ∈ zG) (hi : Cond.instanceMethod objectInit ∈ zG) (hc : Cond.code objectInit ⟨#[0xb1]⟩ 1 none ∈ zG) {lv : List (Nat × Value)} (hsz : lv_has ls nL lv) (hst : (rest.map fun v => v.category).sum ≤ 8) {a : Nat} (hdg : decode cc pc = .ok (.invokespecial index, 3))
    (kk : W p l e R s m args below meth c H locs cells slots Q (F0 m (pc + 3) ls rest)) : W p l e R s m args below meth c H locs cells slots Q (F0 m pc ls (.ref a :: rest)) := by
  have hts := X.2.2.2.2.1
  refine W.objInit X.1 X.2.1 X.2.2.2.1 (hts _ hl) (hts _ hi) (hts _ hc) rfl (by rw [X.2.2.1]; exact hsz.1) rfl hdg hr.1 ?_ kk
  have h1 := hr.2.1
  have h2 := lv_room (m := m) (pc := pc) (ls := ls) (rest := rest) hst
  have h3 : 2 * (F0 m pc ls rest).monitorRoom + (rest.map fun v => v.category).sum + 12 ≤ R.locals := by omega
  exact h3
theorem zst_dyn0 : ((List.range 260).all fun n => (List.range 43).all fun k => !(zsh n < 13 || ((zsh n == 24 || zsh n == 25) && decide (k < zln n))) || (decide (ztag true n k ≤ 3) && (ztag true n k != 2 || !zdyn (zst n k)))) = true := by decide +kernel
theorem zln_small0 : ((List.range 260).all fun n => !(zsh n == 24 || zsh n == 25) || decide (zln n ≤ 8)) = true := by decide +kernel
theorem zsh_big0 : ((List.range 260).all fun n => decide (zsh n < 13) || decide (20 ≤ zsh n)) = true := by decide +kernel
theorem zst_dyn {n k : Nat} (hb : zbd n k) (hn : zsh n ≠ 99) : ztag true n k ≤ 3 ∧ (ztag true n k = 2 → zdyn (zst n k) = false) := by
  by_cases g3 : 300 ≤ n
  · have g4 : ztag true n k = 0 := by
      unfold ztag
      rw [zsh_big g3]
      rfl
    exact ⟨by omega, fun h => by omega⟩
  have hl := zsh_lt3 hn g3
  have h1 := List.all_eq_true.mp zsh_big0 n (List.mem_range.mpr hl)
  simp only [Bool.or_eq_true, decide_eq_true_eq] at h1
  have key : k < 43 → (zsh n < 13 ∨ ((zsh n = 24 ∨ zsh n = 25) ∧ k < zln n)) → ztag true n k ≤ 3 ∧ (ztag true n k = 2 → zdyn (zst n k) = false) := by
    intro hk h
    have h2 := List.all_eq_true.mp (List.all_eq_true.mp zst_dyn0 n (List.mem_range.mpr hl)) k (List.mem_range.mpr hk)
    simp only [Bool.or_eq_true, Bool.and_eq_true, Bool.not_eq_true', decide_eq_true_eq, decide_eq_false_iff_not, Bool.or_eq_false_iff, Bool.and_eq_false_iff, beq_eq_false_iff_ne, beq_iff_eq, bne_iff_ne, ne_eq] at h2
    rcases h2 with h2 | h2
    · exact absurd h (by omega)
    · exact ⟨h2.1, fun h3 => h2.2.resolve_left (fun h4 => h4 h3)⟩
  rcases h1 with h1 | h1
  · unfold zbd at hb
    rw [if_pos (by omega)] at hb
    exact key hb (Or.inl h1)
  · unfold zbd at hb
    rw [if_neg (by omega)] at hb
    by_cases h2 : zsh n = 24 ∨ zsh n = 25
    · have h3 := List.all_eq_true.mp zln_small0 n (List.mem_range.mpr hl)
      simp only [Bool.or_eq_true, Bool.not_eq_true', Bool.or_eq_false_iff, beq_eq_false_iff_ne, decide_eq_true_eq] at h3
      exact key (by omega) (Or.inr ⟨h2, hb⟩)
    · have h4 : ztag true n k ≤ 1 := by
        unfold ztag ztg
        rw [if_neg (by omega)]
        by_cases h5 : zsh n = 21
        · rw [if_pos h5]
          exact Nat.le_refl 1
        · rw [if_neg h5, if_neg (by omega), if_neg (by omega)]
          exact Nat.zero_le 1
      exact ⟨by omega, fun h => by omega⟩
/-- the tags while all is being made -/
theorem ztag_f {n k : Nat} (h3 : ztag true n k ≤ 3) : ztag false n k ≤ 3 ∧ (ztag false n k = 2 → zsh n = 24) := by
  unfold ztag ztg at h3 ⊢
  by_cases a : zsh n = 24
  · rw [if_pos a]
    exact ⟨by decide, fun _ => a⟩
  · rw [if_neg a] at h3 ⊢
    by_cases b : zsh n = 21
    · rw [if_pos b]
      exact ⟨by decide, fun h => by omega⟩
    · rw [if_neg b] at h3 ⊢
      by_cases c : zsh n = 25
      · rw [if_pos c]
        exact ⟨by decide, fun h => absurd h (by decide)⟩
      · rw [if_neg c] at h3 ⊢
        by_cases d : zsh n < 13
        · rw [if_pos d] at h3 ⊢
          unfold ztgC at h3 ⊢
          by_cases f : (zTG.getD (zsh n) []).getD k 0 = 2
          · rw [if_pos f]
            exact ⟨by decide, fun h => absurd h (by decide)⟩
          · rw [if_neg f] at h3 ⊢
            exact ⟨h3, fun h => absurd h f⟩
        · rw [if_neg d]
          exact ⟨by decide, fun h => by omega⟩
/-- new cells, at the heap's end, in place of none: what stays of the others -/
theorem zgrow0 (hR : zSt D dA md ad0 al0 ad al w s H locs) {P : Nat → Prop} (hnP : ∀ n, al n → ¬ P n) {ad1 : Nat → Nat} (hid : ∀ n, ¬ P n → ad1 n = ad n) {w1 : zW} (hw1 : ∀ n k, al n → gI w1 n k = gI w n k ∧ gL w1 n k = gL w n k ∧ gR w1 n k = gR w n k) {H1 : Heap} (hq : ∀ q : Nat, q < H.size → H1[q]? = H[q]?) (hst : ∀ n k, al n → zbd n k → ztag md n k = 2 → ¬ P (zst n k)) :
    ∀ n, al n → ad1 n = ad n ∧ zcell D dA md ad1 w1 n H1 ∧ ad n < H.size := by
  obtain ⟨⟨hK, hC, hI, hB, hW⟩, hRA, hRS, hEv⟩ := hR
  have hlt : ∀ n, al n → ad n < H.size := by
    intro n hn
    have h := hC n hn
    unfold zcell at h
    by_cases hl : zsh n < 20
    · rw [if_pos hl] at h
      obtain ⟨r, -, cell, h1, -⟩ := h
      exact (Array.getElem?_eq_some_iff.mp h1).1
    · rw [if_neg hl] at h
      exact (Array.getElem?_eq_some_iff.mp h).1
  intro n hn
  have had := hid n (hnP n hn)
  refine ⟨had, (hC n hn).to had (hq _ (hlt n hn)) (fun k hk => ?_), hlt n hn⟩
  have h99 := hB.2.2 n hn
  obtain ⟨e0, e1, e2⟩ := hw1 n k hn
  have h3 : ztag md n k ≤ 3 := by
    have h4 := (zst_dyn hk h99).1
    cases md with
    | true => exact h4
    | false => exact (ztag_f h4).1
  unfold zv
  by_cases t0 : ztag md n k = 0
  · simp [t0, e0]
  · by_cases t1 : ztag md n k = 1
    · simp [t1, e1]
    · by_cases t2 : ztag md n k = 2
      · simp [t2, hid _ (hst n k hn hk t2)]
      · have t3 : ztag md n k = 3 := by omega
        simp only [if_neg t0, if_neg t1, if_neg t2, e2]
        unfold zrf
        by_cases z0 : gR w n k = 0
        · simp [z0]
        · rw [if_neg z0, if_neg z0]
          rcases hW n k hn t3 with h9 | h9
          · exact absurd h9 z0
          · rw [hid _ (hnP _ h9.1)]
/-- a new cell among the others -/
theorem zgrow (hR : zSt D dA md ad0 al0 ad al w s H locs) {j : Nat} (hd : md = true → zdyn j = true ∧ zfix j = false) (hf : ¬ gI w 0 j = 1) (h99 : zsh j ≠ 99) (h24 : zsh j ≠ 24) {x : Cell} (hc : ∀ ad1 : Nat → Nat, ad1 j = H.size → zcell D dA md ad1 (nW w j) j (H.push x)) :
    ∃ (ad1 : Nat → Nat) (al1 : Nat → Prop), zExt ad al ad1 al1 ∧ ad1 j = H.size ∧ al1 j ∧ zSt D dA md ad0 al0 ad1 al1 (nW w j) s (H.push x) locs := by
  have hR0 := hR
  obtain ⟨⟨hK, hC, hI, hB, hW⟩, hRA, hRS, hEv⟩ := hR
  have hnj : ¬ al j := fun h => by
    have h1 := (hB.1 j).mp h
    cases md with
    | true =>
      rcases h1 with h1 | h1
      · rw [(hd rfl).2] at h1; cases h1
      · exact hf h1.2
    | false => exact hf h1
  have h0 : j ≠ 0 := by
    intro h9
    subst h9
    exact h99 (by decide)
  have hne : ∀ n, al n → ¬ n = j := fun n hn h9 => hnj (h9 ▸ hn)
  have key := zgrow0 hR0 (P := fun n => n = j) hne (ad1 := fun n => if n = j then H.size else ad n) (fun n h => if_neg h) (w1 := nW w j) (fun n k hn => by
      have e1 := hne n hn
      have en : n ≠ 0 := fun h9 => hB.2.2 n hn (by subst h9; decide)
      exact ⟨by simp [gI, nW, e1, en], by simp [gL, nW, e1], by simp [gR, nW, e1]⟩) (H1 := H.push x) (fun q h => by rw [Array.getElem?_push, if_neg (Nat.ne_of_lt h)]) (fun n k hn hk ht h9 => by
      cases md with
      | true =>
        have h8 := (zst_dyn hk (hB.2.2 n hn)).2 ht
        rw [h9, (hd rfl).1] at h8
        cases h8
      | false =>
        have h8 := (ztag_f (zst_dyn hk (hB.2.2 n hn)).1).2 ht
        have hk2 : k < zln n := by
          unfold zbd at hk
          rw [if_neg (by omega)] at hk
          exact hk
        refine hne _ (hB.2.1 n k hn h8 hk2) ?_
        rw [← h9]
        unfold zst
        rw [h8]
        rfl)
  refine ⟨fun n => if n = j then H.size else ad n, fun n => al n ∨ n = j, fun n hn => ⟨Or.inl hn, (key n hn).1⟩, if_pos rfl, Or.inr rfl, ⟨hK, fun n hn => ?_, fun a b ha hb hab => ?_, ⟨fun n => ?_, fun n k hn hs hk => ?_, fun n hn => ?_⟩, fun n k hn ht => ?_⟩, fun n hn => ?_, ⟨by rw [Array.size_push]; exact Nat.le_succ_of_le hRS.1, fun q h1 h2 => ?_, hRS.2.2⟩, hEv⟩
  · rcases hn with hn | rfl
    · exact (key n hn).2.1
    · exact hc _ (if_pos rfl)
  · dsimp only at hab
    rcases ha with ha | rfl <;> rcases hb with hb | rfl
    · have e1 := (key a ha).1
      have e2 := (key b hb).1
      rw [e1, e2] at hab
      exact hI a b ha hb hab
    · have e1 := (key a ha).1
      rw [e1, if_pos rfl] at hab
      exact absurd hab (Nat.ne_of_lt (key a ha).2.2)
    · have e1 := (key b hb).1
      rw [e1, if_pos rfl] at hab
      exact absurd hab.symm (Nat.ne_of_lt (key b hb).2.2)
    · rfl
  · have h1 := hB.1 n
    by_cases e1 : n = j
    · subst e1
      refine ⟨fun _ => ?_, fun _ => Or.inr rfl⟩
      cases md with
      | true => exact Or.inr ⟨(hd rfl).1, by simp [gI, nW, Ne.symm h0]⟩
      | false => show gI (nW w n) 0 n = 1; simp [gI, nW, Ne.symm h0]
    · have e2 : gI (nW w j) 0 n = gI w 0 n := by simp [gI, nW, Ne.symm h0, e1]
      have e3 : zgh md (nW w j) n ↔ zgh md w n := by cases md <;> simp only [zgh, e2]
      rw [e3, ← h1]
      exact ⟨fun h => h.resolve_right e1, Or.inl⟩
  · rcases hn with hn | rfl
    · exact Or.inl (hB.2.1 n k hn hs hk)
    · exact absurd hs h24
  · rcases hn with hn | rfl
    · exact hB.2.2 n hn
    · exact h99
  · rcases hn with hn | rfl
    · have e1 := hne n hn
      have e2 : gR (nW w j) n k = gR w n k := by simp [gR, nW, e1]
      rw [e2]
      rcases hW n k hn ht with h9 | h9
      · exact Or.inl h9
      · exact Or.inr ⟨Or.inl h9.1, h9.2⟩
    · exact Or.inl (by simp [gR, nW])
  · rcases hn with hn | rfl
    · show zA ad0 al0 s.heap.size (if n = j then H.size else ad n)
      rw [if_neg (hne n hn)]
      exact hRA n hn
    · show zA ad0 al0 s.heap.size (if n = n then H.size else ad n)
      rw [if_pos rfl]
      exact Or.inr hRS.1
  · rw [Array.getElem?_push, if_neg (Nat.ne_of_lt (Nat.lt_of_lt_of_le h1 hRS.1))]
    exact hRS.2.1 q h1 h2
theorem z_newaI (X : zCx p s m args meth c cc nL own ret) (hr : cells + 1 ≤ R.cells ∧ slots + N ≤ R.slots) (hR : zSt D dA md ad0 al0 ad al w s H locs) {j : Nat} (hd : md = true → zdyn j = true ∧ zfix j = false) (hf : ¬ gI w 0 j = 1) (hsh : zsh j = 20) (hN : zln j = N) {n : Int32} (hn : ¬ n < 0) (hn2 : n.toNatClampNeg = N) (hby : N * 4 ≤ 536870912) (har : Cond.arrayClass .int ∈ zG) (hdg : decode cc pc = .ok (.newarray .int, 2))
    (kk : ∀ (ad1 : Nat → Nat) (al1 : Nat → Prop) (H1 : Heap), zExt ad al ad1 al1 → al1 j → zSt D dA md ad0 al0 ad1 al1 (nW w j) s H1 locs → W p l e R s m args below meth c H1 locs (cells + 1) (slots + N) Q (F0 m (pc + 2) ls (.ref (ad1 j) :: rest))) : W p l e R s m args below meth c H locs cells slots Q (F0 m pc ls (.int n :: rest)) := by
  subst hn2
  refine W.newa (atype := .int) X.1 X.2.1 (X.2.2.2.2.1 _ har) rfl hdg rfl hn (by exact hby) hr.1 hr.2 (fun cA kA comp h1 h2 h3 => ?_)
  have hc : cA = dA 20 := by
    have h4 : s.vm.findClass ("[" ++ (FieldType.int).toString) = some (dA 20) := (hR.1.1.2 0 _ rfl).2
    exact Option.some.inj (h1.symm.trans h4)
  subst hc
  obtain ⟨ad1, al1, hE, hj, haj, hR1⟩ := zgrow hR hd hf (by rw [hsh]; decide) (by rw [hsh]; decide) (x := { cls := dA 20, slots := Array.replicate n.toNatClampNeg (defaultValue .int), vm := .none }) (fun ad1 h => by
    unfold zcell
    rw [if_neg (by rw [hsh]; decide), h, hsh, hN, arrV_new]
    rw [Array.getElem?_push, if_pos rfl]
    refine congrArg some (arrV_congr fun k _ => ?_)
    rw [zv_I (by unfold ztag; rw [hsh]; rfl)]
    simp [gI, nW, defaultValue])
  rw [← hj]
  exact kk ad1 al1 _ hE haj hR1
theorem z_newo (X : zCx p s m args meth c cc nL own ret) (hr : cells + 1 ≤ R.cells ∧ slots + N ≤ R.slots) (hR : zSt D dA md ad0 al0 ad al w s H locs) {j : Nat} (hd : md = true → zdyn j = true ∧ zfix j = false) (hf : ¬ gI w 0 j = 1) (hsh : zsh j = ci) (hc : ci < 13) {q : vw_C} (hq : vwCl[ci]? = some q) (hqN : q.2.2 = N) (ty : Nat → FieldType) (hty : ∀ k, k < q.2.2 → parseFieldDescriptor (q.2.1 k).2.2.1 = some (ty k)) (hdef : ∀ k, k < q.2.2 → (ztg md ci k = 0 ∧ defaultValue (ty k) = .int 0) ∨ (ztg md ci k = 1 ∧ defaultValue (ty k) = .long 0) ∨ (ztg md ci k = 3 ∧ defaultValue (ty k) = .null))
    (hcl : Cond.classLink own index q.1 ∈ zG) (hin : Cond.instantiable q.1 N ∈ zG) (hini : Cond.initialized q.1 ∈ zG) (hdg : decode cc pc = .ok (.new index, 3))
    (kk : ∀ (ad1 : Nat → Nat) (al1 : Nat → Prop) (H1 : Heap), zExt ad al ad1 al1 → al1 j → zSt D dA md ad0 al0 ad1 al1 (nW w j) s H1 locs → W p l e R s m args below meth c H1 locs (cells + 1) (slots + N) Q (F0 m (pc + 3) ls (.ref (ad1 j) :: rest))) : W p l e R s m args below meth c H locs cells slots Q (F0 m pc ls rest) := by
  have hts := X.2.2.2.2.1
  refine W.newc X.1 X.2.1 X.2.2.2.1 (hts _ hcl) (hts _ hin) (hts _ hini) rfl hdg hr.1 hr.2 (fun cC kC h1 h3 h4 h5 => ?_)
  have hKn := hR.1.1.1 _ _ hq
  have hcC : cC = D.1 ci := Option.some.inj (h1.symm.trans hKn.2.1)
  subst hcC
  obtain ⟨ad1, al1, hE, hj, haj, hR1⟩ := zgrow hR hd hf (by rw [hsh]; omega) (by rw [hsh]; omega) (x := { cls := D.1 ci, slots := kC.instanceTypes.map defaultValue, vm := .none }) (fun ad1 h => by
    unfold zcell
    rw [if_pos (by rw [hsh]; omega), h, hsh]
    refine ⟨q, hq, (u_born (o := H.size) (H := H.push (blank (D.1 ci) kC)) ty hts (zcls hq).1 hKn h3 (by rw [Array.getElem?_push, if_pos rfl]) hty).to (fun k hk => ?_)⟩
    rcases hdef k hk with ⟨g1, g2⟩ | ⟨g1, g2⟩ | ⟨g1, g2⟩
    · rw [g2, zv_I (by unfold ztag; rw [hsh]; exact g1)]
      simp [gI, nW]
    · rw [g2, zv_L (by unfold ztag; rw [hsh]; exact g1)]
      simp [gL, nW]
    · rw [g2, zv_R (by unfold ztag; rw [hsh]; exact g1)]
      simp [gR, nW, zrf])
  rw [← hj]
  exact kk ad1 al1 _ hE haj hR1
/-- a constructor of a nest mate, that may make cells -/
theorem z_callANV (X : zCx p s m args meth c cc nL own ret) (hr : zRm R (fr1 + 1) (cells + mc) (slots + ms)) (hR : zSt D dA md ad0 al0 ad al w s H locs) {host : String} (hnw : Cond.methodLinkNest own index y host ∈ zNest) (hyn : y.name = "<init>") (hc : Cond.code y bytes maxL none ∈ zG) (hi : Cond.instanceMethod y ∈ zG) (hini : Cond.initialized y.cls ∈ zG) (hd : y.cls ≠ "java/lang/invoke/MethodHandle" ∧ y.cls ≠ "java/lang/invoke/VarHandle") (hnp : (parseMethodDescriptor y.desc).map (fun d => d.parameters.length) = some np) (hm : maxL ≤ 41) {b : Nat} {K : zW → Prop} (hM : zmetAV l y bytes maxL none fr1 mc ms (.ref (ad b) :: As) D dA md ad al w K) (hn : As.length = np) {lv : List (Nat × Value)} (hsz : lv_has ls nL lv) (hst : (rest.map fun v => v.category).sum ≤ 8) (hdg : decode cc pc = .ok (.invokespecial index, 3)) (hstk : st = As.reverse ++ .ref (ad b) :: rest)
    (kk : ∀ (w1 : zW) (H1 : Heap) (locs1 : List Loc) (ad1 : Nat → Nat) (al1 : Nat → Prop), K w1 → zExt ad al ad1 al1 → zSt D dA md ad0 al0 ad1 al1 w1 s H1 locs1 → W p l e R s m args below meth c H1 locs1 (cells + mc) (slots + ms) Q (F0 m (pc + 3) ls rest)) : W p l e R s m args below meth c H locs cells slots Q (F0 m pc ls st) := by
  have hts := X.2.2.2.2.1
  have hrl : 8 + (maxL + 11) + 60 * fr1 ≤ R.locals := by have h1 := hr.2.1; omega
  have hrun := va_runIN (e := e) (below := below) (meth := meth) (cells := cells) (slots := slots) (As := As) (rest := rest) (locs := locs) ⟨X.1, X.2.1, X.2.2.1, X.2.2.2.1, hts⟩ (hM H.size) (own := own) (host := host) (n := np)
    ⟨⟨⟨rfl, rfl, hr.1, hrl, zpay hts hc, List.mem_cons_self⟩, hts _ hc, hts _ hini, hd, fun sig h => by rw [h] at hnp; exact (Option.some.inj hnp).symm, va_Nw.use (A := args) (by rfl) (hR.2.2.2.1 _ hnw)⟩, hyn, hts _ hi⟩
    (b := ad b) (H := H) ⟨zpreBlind, fun U hU hW => ⟨rfl, by rw [hU], by rw [hU]; exact hR.2.2.2.go hW hR.2.2.1.2.1 (zA_in hR.2.1 hR.2.2.1.1), by rw [hU]; exact hR.1.moved hW.alike⟩⟩ (g := F0 m pc ls st) rfl hn hsz.1 hstk (lv_room hst) hdg ⟨hr.2.2.1, hr.2.2.2⟩
  refine va_callv hrun hR.2.2.1 (fun q _ h => zA_in hR.2.1 hR.2.2.1.1 q h) (zA_in hR.2.1 hR.2.2.1.1) (fun u t H1 locs1 ht hvm hw hB hz hk hS1 => ?_)
  obtain ⟨ad1, al1, hE, hR1⟩ := zbackA hR ht hvm hB hS1
  exact kk u H1 locs1 ad1 al1 hw hE hR1
end ZALLOC
theorem zRm.none {R : Room} {f f1 cells slots mc ms : Nat} (h : zRm R f (cells + mc) (slots + ms)) (hf : f1 ≤ f) : zRm R f1 cells slots := ⟨by have := h.1; omega, by have := h.2.1; omega, by have := h.2.2.1; omega, by have := h.2.2.2; omega⟩
theorem zRm.call {R : Room} {f f1 cells slots mc ms c1 s1 : Nat} (h : zRm R f (cells + mc) (slots + ms)) (hc : c1 ≤ mc) (hs : s1 ≤ ms) (hf : f1 ≤ f) : zRm R f1 (cells + c1) (slots + s1) := ⟨by have := h.1; omega, by have := h.2.1; omega, by have := h.2.2.1; omega, by have := h.2.2.2; omega⟩
theorem zRm.after {R : Room} {f cells slots mc ms c1 s1 : Nat} (h : zRm R f (cells + mc) (slots + ms)) (hc : c1 ≤ mc) (hs : s1 ≤ ms) : zRm R f (cells + c1 + (mc - c1)) (slots + s1 + (ms - s1)) := ⟨h.1, h.2.1, by have := h.2.2.1; omega, by have := h.2.2.2; omega⟩
theorem zRm.new {R : Room} {f cells slots mc ms c1 s1 : Nat} (h : zRm R f (cells + mc) (slots + ms)) (hc : c1 ≤ mc) (hs : s1 ≤ ms) : cells + c1 ≤ R.cells ∧ slots + s1 ≤ R.slots := ⟨by have := h.2.2.1; omega, by have := h.2.2.2; omega⟩

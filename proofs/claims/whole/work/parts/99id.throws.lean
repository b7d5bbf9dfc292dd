/-! A throw of a class whose constructor of a text hands it on by its own entry 13 (the library's rows know 7 only): the proof follows the library's of ctorThrowS -/
def zsix : ByteArray := ⟨#[0x2a, 0x2b, 0xb7, 0x00, 0x0d, 0xb1]⟩
theorem zsix_0 : decode zsix 0 = .ok (.aload_n 0, 1) := by decide +kernel
theorem zsix_1 : decode zsix 1 = .ok (.aload_n 1, 1) := by decide +kernel
theorem zsix_2 : decode zsix 2 = .ok (.invokespecial 13, 3) := by decide +kernel
theorem zsix_5 : decode zsix 5 = .ok (.return_, 1) := by decide +kernel
def zOwn (own : String) (ic : Nat) (X Y : String) (names : List String) : List Cond :=
  Bundle.throwableAtoms ++ Bundle.throwableSAtoms ++ Bundle.passSAtoms X Y 13 zsix ++ Bundle.chainSAtoms Y names ++
  [.methodLink own ic (Bundle.initS X), .instantiable X 6, .castable X X, .selects X Bundle.tFill0 Bundle.tFill0, .selects X Bundle.tFill Bundle.tFill,
   .lays X Bundle.tN "cause" "Ljava/lang/Throwable;", .lays X Bundle.tN "stackTrace" Bundle.steD, .lays X Bundle.tN "suppressedExceptions" Bundle.listD, .lays X Bundle.tN "detailMessage" "Ljava/lang/String;",
   .isRef (.static Bundle.tN "UNASSIGNED_STACK" Bundle.steD), .isRef (.static Bundle.tN "SUPPRESSED_SENTINEL" Bundle.listD),
   .fieldLink Bundle.tN 198 Bundle.tN "backtrace" "Ljava/lang/Object;", .lays Bundle.tN Bundle.tN "backtrace" "Ljava/lang/Object;", .lays X Bundle.tN "backtrace" "Ljava/lang/Object;"]
section ZW
variable {p : Program} {l : Launch} {e : Env} {R : Room} {s : State} {m₀ : MethodId} {args : Array Value} {below : List Frame} {meth : Method} {c : Code} {W : State} {locs : List Loc} {cells slots : Nat}
set_option maxHeartbeats 4000000 in
theorem z_ctor13 (X : Stand p l e R s m₀ args below meth c W locs cells slots) (hexec : p.tables.exec = Jvm.exec) (htr : e.platform.stackTraces = false) {own cls Yn : String} {names : List String} {ic : Nat}
    (hown : s.vm.findClass own = some m₀.cls) (hcls : Bundle.fit cls = true) (hYn : Bundle.fit Yn = true) (hnames : ∀ n ∈ names, Bundle.fit n = true)
    (h : ∀ a ∈ zOwn own ic cls Yn names, a.before args s = true) (hlocs : ∀ x ∈ locs, ∀ cell, s.heap[x.base]? = some cell → cell.vm.isStatics = false)
    {a : Addr} {cX : ClassId} {kX : Class} (hfoundX : s.vm.findClass cls = some cX) (hkX : s.vm.classes[cX]? = some kX) (hcell : W.heap[a]? = some (freshCell cX kX)) (hnew : s.heap.size ≤ a)
    {msg : Value} (hmsg : msg.isRef = true) {g : JFrame} (hg : g.method = m₀) (hsize : g.locals.size = c.maxLocals) (hlocked : g.locked = none) (hentered : g.entered = []) {rest : List Value} (hstack : g.stack = msg :: .ref a :: .ref a :: rest)
    (hd6 : decode c.code g.pc = .ok (.invokespecial ic, 3)) (hd9 : decode c.code (g.pc + 3) = .ok (.athrow, 1)) (hout : ∀ x ∈ c.exceptionTable.toList, covers x (g.pc + 3) = false)
    (hRframes : names.length + 4 < R.frames) (hRlocals : 2 * g.monitorRoom + ((Value.ref a :: rest).map fun v => v.category).sum + (13 * (names.length + 2) + 42) ≤ R.locals) (hlocks : meth.locks = false) :
    ∃ U : State, Steps p.tables e below (W.setTop g) U ∧ U.status = .running ∧ Ended U below (.threw a) ∧ s.WarmedH U.vm ∧ s.sameButNew ({ U with vm := s.vm } : State) locs cells slots ∧
      ∃ ce, U.heap[a]? = some ce ∧ s.vm.findClass cls = some ce.cls ∧ ce.vm = .none := by
  have howns : e.platform.frameOwnsMonitors = true := by rw [X.admits.platform]
  have hfin : e.platform.finalization = false := by rw [X.admits.platform]
  have hpl : e.platform.magicAccessors = ({} : Platform).magicAccessors := by rw [X.admits.platform]
  have a' : ∀ x, x ∈ zOwn own ic cls Yn names → x.holds args s none s [] = true := fun x hx => h x hx
  obtain ⟨T, Z0, L, -, Y⟩ := ThrowableC.of_atoms (args := args) howns hfin hpl (fun x hx => h x (by simp [zOwn, hx]))
  obtain ⟨Z, M, LZ, LM, hnZ⟩ := Init0T.ofS_atoms (args := args) hpl L Y (fun x hx => h x (by simp [zOwn, hx]))
  obtain ⟨P2, Ps, hlen, L2, hL, hP2m, hlink2, hlink⟩ := Bundle.chainS (args := args) hpl hnZ names Yn hYn hnames (fun x hx => h x (by simp [zOwn, hx]))
  obtain ⟨P1, L1, hP1m, hP1s⟩ := PassC.ofS_atoms (args := args) (s := s) hpl (X := cls) (Y := Yn) (Bundle.fit_spec hcls).1 (Bundle.fit_spec hYn).2 zsix_0 zsix_1 zsix_2 zsix_5 (fun x hx => h x (by simp [zOwn, hx]))
  have hlink1 : P1.sup = P2.m := Option.some.inj (hP1s.symm.trans hP2m)
  have hfound : s.vm.findClass cls = some P1.m.cls := findClass_of_methodNamed hP1m
  cases Option.some.inj (hfoundX.symm.trans hfound)
  obtain ⟨c1, kX', hc1, hk, hord, -, -, hn6⟩ := Cond.instantiable_spec (a' (.instantiable cls 6) (by simp [zOwn]))
  cases Option.some.inj (hc1.symm.trans hfound)
  cases Option.some.inj (hkX.symm.trans hk)
  have hsel0 : selectMethod e.platform s.vm P1.m.cls T.fill0 = .method T.fill0 := by
    obtain ⟨c2, r2, m2, q1, q2, q3, q4, -⟩ := Cond.selects_spec (a' (.selects cls Bundle.tFill0 Bundle.tFill0) (by simp [zOwn]))
    cases Option.some.inj (q1.symm.trans hfound)
    cases Option.some.inj (q2.symm.trans (State.methodFound?_of_named Y.fill0 (by decide)))
    cases Option.some.inj (q3.symm.trans Y.fill0)
    rw [Launch.admits_selectMethod X.admits]; exact q4
  have hselF : selectMethod e.platform s.vm P1.m.cls T.fill = .method T.fill := by
    obtain ⟨c2, r2, m2, q1, q2, q3, q4, -⟩ := Cond.selects_spec (a' (.selects cls Bundle.tFill Bundle.tFill) (by simp [zOwn]))
    cases Option.some.inj (q1.symm.trans hfound)
    cases Option.some.inj (q2.symm.trans (State.methodFound?_of_named Y.fill (by decide)))
    cases Option.some.inj (q3.symm.trans Y.fill)
    rw [Launch.admits_selectMethod X.admits]; exact q4
  obtain ⟨cellS0, hcS0, hiss⟩ := Y.statics
  obtain ⟨u0, hu0⟩ := Cond.staticRefV Y.unassigned L.unassignedStatic L.statics hcS0 hiss (a' (.isRef (.static Bundle.tN "UNASSIGNED_STACK" Bundle.steD)) (by simp [zOwn]))
  obtain ⟨sen, hsen⟩ := Cond.staticRefV Y.sentinel L.sentinelStatic L.statics hcS0 hiss (a' (.isRef (.static Bundle.tN "SUPPRESSED_SENTINEL" Bundle.listD)) (by simp [zOwn]))
  obtain ⟨ci198, i198, fB, hk198, hg198, ha198, hsB, -, hnB, htB, hffB⟩ := Cond.ownField (t := .object "java/lang/Object") Y.found L.cls (by decide +kernel) (a' (.fieldLink Bundle.tN 198 Bundle.tN "backtrace" "Ljava/lang/Object;") (by simp [zOwn])) (a' (.lays Bundle.tN Bundle.tN "backtrace" "Ljava/lang/Object;") (by simp [zOwn])) e.platform hpl
  obtain ⟨cellS, hcS', heS, -, hkeep⟩ := X.same.2.2.2.2.2 T.aS cellS0 hcS0
  have hcellS : W.heap[T.aS]? = some cellS := hcS'
  have hout' : ∀ i, (⟨T.aS, i⟩ : Loc) ∉ locs := fun i hmem => by
    have := hlocs _ hmem cellS0 hcS0
    rw [hiss] at this; cases this
  have hknownS : cellS.vm ≠ .unknown := by
    rw [heS]; intro hu
    rw [show cellS0.vm = .unknown from hu] at hiss
    cases hiss
  have hneS : T.aS ≠ a := Nat.ne_of_lt (Nat.lt_of_lt_of_le (Array.getElem?_eq_some_iff.mp hcS0).1 hnew)
  obtain ⟨iM, hffM⟩ := Y.msg
  obtain ⟨tyC, dC, hdC, hdnC⟩ := Cond.laysAt hfound hk Y.cause (a' (.lays cls Bundle.tN "cause" "Ljava/lang/Throwable;") (by simp [zOwn]))
  obtain ⟨tyS, dS, hdS, hdnS⟩ := Cond.laysAt hfound hk Y.stack (a' (.lays cls Bundle.tN "stackTrace" Bundle.steD) (by simp [zOwn]))
  obtain ⟨tyP, dP, hdP, hdnP⟩ := Cond.laysAt hfound hk Y.supp (a' (.lays cls Bundle.tN "suppressedExceptions" Bundle.listD) (by simp [zOwn]))
  obtain ⟨tyM, dM, hdM, hdnM⟩ := Cond.laysAt hfound hk hffM (a' (.lays cls Bundle.tN "detailMessage" "Ljava/lang/String;") (by simp [zOwn]))
  obtain ⟨tyB, dB, hdB, hdnB⟩ := Cond.laysAt hfound hk hffB (a' (.lays cls Bundle.tN "backtrace" "Ljava/lang/Object;") (by simp [zOwn]))
  have bC := Cond.laysApart hdB hdC hdnB hdnC (by rw [hnB, Y.causeName]; decide)
  have bS := Cond.laysApart hdB hdS hdnB hdnS (by rw [hnB, Y.stackName]; decide)
  have bP := Cond.laysApart hdB hdP hdnB hdnP (by rw [hnB, Y.suppName]; decide)
  have hskip : SkipFacts T e.platform s (fun u => u) u0 ((preparedCellV T.toThrowableT (freshCell P1.m.cls kX) a u0 sen).withEntry W.cur) :=
    ⟨{ ci198 := ci198, i198 := i198, fBack := fB }, ⟨hk198, hg198, ha198, hsB⟩, by
      have := fresh_default (c := P1.m.cls) tyB
      rw [htB] at this
      simpa [preparedCellV, Cell.setSlot, Cell.withEntry, Array.getElem?_setIfInBounds, bC, bS, bP, bC.symm, bS.symm, bP.symm, defaultValue] using this, fun _ _ => rfl⟩
  obtain ⟨tm, methC, cdC, kC, vm₁, hnC, -, -, -, -, -, -, -, hW₁, st1⟩ := Steps.initColdS (tb := p.tables) (e := e) (below := below) (s := s) (U := W) X.here hexec X.warmed hpl hown (t := Bundle.initS cls) rfl rfl (Bundle.fit_spec hcls).2
    (a' (.methodLink own ic (Bundle.initS cls)) (by simp [zOwn])) (h (.instanceMethod (Bundle.initS cls)) (by simp [zOwn, Bundle.passSAtoms])) (bytes := zsix) (maxL := 2) (h (.code (Bundle.initS cls) zsix 2 none) (by simp [zOwn, Bundle.passSAtoms]))
    (f := g) hg (a := a) (msg := msg) (rest := .ref a :: rest) hstack hd6
  cases Option.some.inj (hnC.symm.trans hP1m)
  have X₁ := X.noted hW₁
  obtain ⟨vm₂, X₂, st2⟩ := X₁.ctorMessageOffV hexec (g := { g with stack := .ref a :: rest }) hg hsize T L Z LZ M LM (P1 :: P2 :: Ps)
    (fun P hP => by
      rcases List.mem_cons.mp hP with rfl | hP
      · exact L1
      · rcases List.mem_cons.mp hP with rfl | hP
        · exact L2
        · exact hL P hP) ⟨hlink1, hlink2, hlink⟩ (u0 := u0) (sen := sen) (self := a) hmsg (cell := freshCell P1.m.cls kX) (cellS := cellS)
    hcell (fun _ => by simp) (by simp) rfl rfl hsel0 hselF hcellS hneS hknownS (by rw [hkeep _ (hout' _)]; exact hu0) (by rw [hkeep _ (hout' _)]; exact hsen)
    (Takes.of_laid hk hord tyC (by rw [Y.causeType]; rfl)) (Takes.of_laid hk hord tyS (by rw [Y.stackType]; exact fits_refV_array _ u0)) (Takes.of_laid hk hord tyP (by rw [Y.suppType]; exact fits_refV_object _ sen))
    (Takes.of_laid hk hord tyM (by rw [Y.msgType]; exact fits_refV_object _ ⟨msg, hmsg⟩)) Y.objLocals hskip htr [] hd6
    (by simp only [List.length_cons, hlen]; omega) (by simp only [List.length_cons, hlen]; exact hRlocals)
  obtain ⟨hwalk, hrun, hended, hWU, hsame⟩ := X₂.athrowLeaves hexec (g := { g with stack := .ref a :: rest, pc := g.pc + 3 }) hg hlocked hentered hout (a := a) (rest := rest) rfl hd9
  have hlt : a < ((W.setVm vm₁).setVm vm₂).heap.size := (Array.getElem?_eq_some_iff.mp hcell).1
  have hU := heapAt_setCell_self (s := (W.setVm vm₁).setVm vm₂) (plainBareV T.toThrowableT (freshCell P1.m.cls kX) a u0 sen msg) hlt
  refine ⟨_, st1 _ (fun acts => ?_), hrun, hended, hWU, hsame.weaken (fun y hy hlt' => ?_) (Nat.le_refl _) (Nat.le_refl _), _, hU, hfound, rfl⟩
  · rw [doInvoke_state]
    exact st2 _ hwalk
  · rcases List.mem_append.mp hy with h1 | h1
    · exact h1
    · exfalso
      have hb : y.base = a := by
        simp only [List.mem_cons, List.not_mem_nil, or_false] at h1
        rcases h1 with rfl | rfl | rfl | rfl | rfl <;> rfl
      rw [hb] at hlt'
      exact Nat.not_lt.mpr hnew hlt'
end ZW
section ZV
variable {p : Program} {l : Launch} {e : Env} {R : Room} {s : State} {m : MethodId} {args : Array Value} {below : List Frame} {meth : Method} {c : Code} {H : Heap} {locs : List Loc} {cells slots : Nat} {Q : State → Prop}
variable {mc ms : Nat} {free : Addr → Prop} {A0 A1 : Nat → Prop} {H0 : Heap} {a : Array Value} {ls : Array Slot} {st0 rest : List Value}
variable {Qc : Array Value → State → Outcome → State → Prop} {XC : String → State → State → Prop}
/-- 'throw new E("text")', the text by a wide index -/
theorem z_throw13 {cc : ByteArray} {pc : Nat} (hexec : p.tables.exec = Jvm.exec) (hb : c.code = cc) (hl : l.stackTraces = false) {own cls Yn text : String} {names : List String} {ik is ic mc ms sa : Nat} {A : Nat → Prop}
    (hown : s.vm.findClass own = some m.cls) (hcls : Bundle.fit cls = true) (hYn : Bundle.fit Yn = true) (hnames : ∀ n ∈ names, Bundle.fit n = true)
    (hk : (Cond.classLink own ik cls).before args s = true) (hini : (Cond.initialized cls).before args s = true) (hstr : vk_R own is text sa s) (hat : ∀ w ∈ (zOwn own ic cls Yn names).filter vx_no, w.before args s = true)
    (hgood : ∀ w ∈ Cond.classLink own ik cls :: Cond.initialized cls :: (zOwn own ic cls Yn names).filter vx_no, vx_ot w = true)
    (hU : vx_Zq Bundle.tN "UNASSIGNED_STACK" Bundle.steD A s s.heap) (hN : vx_Zq Bundle.tN "SUPPRESSED_SENTINEL" Bundle.listD A s s.heap) (hS : va_S A s.heap H locs) (hsize : ls.size = c.maxLocals)
    (d0 : decode cc pc = .ok (.new ik, 3)) (d3 : decode cc (pc + 3) = .ok (.dup, 1)) (d4 : decode cc (pc + 4) = .ok (.ldc_w is, 3)) (d7 : decode cc (pc + 7) = .ok (.invokespecial ic, 3)) (d10 : decode cc (pc + 10) = .ok (.athrow, 1))
    (hout : ∀ x ∈ c.exceptionTable.toList, covers x (pc + 10) = false)
    (hRframes : names.length + 4 < R.frames) (hRlocals : (rest.map fun v => v.category).sum + (13 * (names.length + 2) + 43) ≤ R.locals) (hRcells : cells + 1 ≤ R.cells) (hRslots : slots + 6 ≤ R.slots) (hlocks : meth.locks = false)
    (hx : ∀ t : State, s.vm.Alike t.vm → H.size ≤ t.heap.size → (∀ q : Nat, q < H.size → t.heap[q]? = H[q]?) → XC cls s t)
    (hf : ∀ z ∈ locs, free z.base) (hc : cells + 1 ≤ mc) (hs : slots + 6 ≤ ms) :
    W p l e R s m args below meth c H locs cells slots (vx_MQ below Qc XC args s mc ms free) (F0 m pc ls rest) := by
  intro T hT X
  have htr : e.platform.stackTraces = false := (show e.platform.stackTraces = l.stackTraces by rw [X.admits.platform]).trans hl
  have Y := vx_rebase X (R' := { frames := R.frames, locals := R.locals, cells := 1, slots := 6 }) (Nat.le_refl _) (Nat.le_refl _) hRcells hRslots
  obtain ⟨s', hA⟩ : ∃ z, z = (T.setVm s.vm).setFrames (.invoking m args :: below) := ⟨_, rfl⟩
  rw [← hA] at Y
  have hvm : s'.vm = s.vm := by rw [hA]; rfl
  have hhp : s'.heap = H := by rw [hA]; exact hT
  have hW0 : s.WarmedH s'.vm := by rw [hvm]; exact State.WarmedH.refl s
  have hat' : ∀ w ∈ (zOwn own ic cls Yn names).filter vx_no, w.before args s' = true := fun w hw => vx_ot_at hW0 hvm.symm (hgood w (List.mem_cons_of_mem _ (List.mem_cons_of_mem _ hw))) (hat w hw)
  have hk' : (Cond.classLink own ik cls).before args s' = true := vx_ot_at hW0 hvm.symm (hgood _ List.mem_cons_self) hk
  have hini' : (Cond.initialized cls).before args s' = true := vx_ot_at hW0 hvm.symm (hgood _ (List.mem_cons_of_mem _ List.mem_cons_self)) hini
  have hU' : vx_Zq Bundle.tN "UNASSIGNED_STACK" Bundle.steD A s' s'.heap := by rw [hhp]; exact vx_Zq.moved hW0.alike (hU.kept hS.2.1)
  have hN' : vx_Zq Bundle.tN "SUPPRESSED_SENTINEL" Bundle.listD A s' s'.heap := by rw [hhp]; exact vx_Zq.moved hW0.alike (hN.kept hS.2.1)
  have h : ∀ w ∈ zOwn own ic cls Yn names, w.before args s' = true := vx_own hat' (vx_isRefq hU'.1) (vx_isRefq hN'.1) hU'.2.word hN'.2.word
  have hown' : s'.vm.findClass own = some m.cls := by rw [hvm]; exact hown
  have hins : (Cond.instantiable cls 6).before args s' = true := h _ (by simp [zOwn])
  obtain ⟨vm₁, cX, kX, hfX, hkX, -, -, X₁, st1⟩ := Y.newCold hexec (own := own) (C := cls) (index := ik) (n := 6) hown' hk' hins hini'
    (g := F0 m pc ls rest) rfl (by rw [hb]; exact d0) (Nat.le_refl _) (Nat.le_refl _)
  generalize hT1 : (T.setVm vm₁).pushCell { cls := cX, slots := kX.instanceTypes.map defaultValue, vm := .none } = T1 at X₁ st1
  have hcat : (Value.ref T.heap.size).category = 1 := rfl
  have hcellA : T1.heap[T.heap.size]? = some (freshCell cX kX) := by rw [← hT1]; exact State.heap_pushCell_size _ _
  have d3' : decode c.code (pc + 3) = .ok (.dup, 1) := by rw [hb]; exact d3
  have d4' : decode c.code (pc + 4) = .ok (.ldc_w is, 3) := by rw [hb]; exact d4
  have hstr' : vk_R own is text sa s' := vk_R.warm hW0 hstr
  obtain ⟨U, hsteps, hrun, hend, hW, hsame, ce, hce, hO1, hO2⟩ := z_ctor13 X₁ hexec htr (own := own) (cls := cls) (Yn := Yn) (names := names) (ic := ic) hown' hcls hYn hnames h (fun x hx => nomatch hx) hfX hkX hcellA (by rw [hhp, hT]; exact Nat.le_refl _) (msg := .ref sa) rfl
    (g := { method := m, pc := pc + 7, locals := ls, stack := .ref sa :: .ref T.heap.size :: .ref T.heap.size :: rest, locked := none }) rfl hsize rfl rfl (rest := rest) rfl
    (by rw [hb]; exact d7) (by rw [hb]; exact d10) hout hRframes (by simp only [List.map_cons, List.sum_cons, hcat]; omega) hlocks
  obtain ⟨f1, f2⟩ := vx_frame hsame
  rw [hhp] at f1 f2
  have hWs : s.WarmedH U.vm := State.WarmedH.trans hW0 hW
  have hcl : s.vm.findClass cls = some ce.cls := by
    have h9 := hO1
    rw [hvm] at h9
    exact h9
  have hall : s.sameButNew ({ U with vm := s.vm } : State) locs mc ms := by
    subst hA
    obtain ⟨e1, e2⟩ := hsame
    rw [State.setFrames_setFrames] at e1
    have h2 : (T.setVm s.vm).sameButNew ({ U with vm := s.vm } : State) [] (0 + 1) (0 + 6) := ⟨e1, e2⟩
    have h3 := X.same.trans h2
    rw [List.append_nil] at h3
    exact h3.mono hc hs
  refine ⟨U, ?_, .threw T.heap.size, hrun, hend, Or.inr ⟨T.heap.size, rfl, cls, ce, locs, hx U hWs.alike f1 (fun q hq => f2 q hq (fun z hz => nomatch hz)), hce, hO2, hcl, hWs, hall, hf⟩⟩
  refine st1 _ ?_
  show Steps p.tables e below (T1.setTop { method := m, pc := pc + 3, locals := ls, stack := .ref T.heap.size :: rest, locked := none }) _
  jvm_step X₁.here [X₁.here.top, hexec, d3', Value.category]
  exact X₁.ldcStringW hexec (own := own) (text := text) (index := is) (a := sa) hown' hstr'.1 hstr'.2
    (g := { method := m, pc := pc + 4, locals := ls, stack := .ref T.heap.size :: .ref T.heap.size :: rest, locked := none }) rfl d4' _ hsteps
end ZV
def zAt2 : List Cond := (zOwn RX11 316 "java/util/NoSuchElementException" "java/lang/RuntimeException" ["java/lang/Exception"]).filter vx_no
def zTw2 : List Cond := zAt2.filter goodWord
theorem zTn2 : zAt2.filter (fun w => !goodWord w) = zTnL := by decide +kernel
theorem zAtOt2 : (Cond.classLink RX11 312 "java/util/NoSuchElementException" :: Cond.initialized "java/util/NoSuchElementException" :: zAt2).all vx_ot = true := by decide +kernel
theorem zTw2_in : ∀ w ∈ zTw2, w ∈ lw_tbl := by
  unfold zTw2 zAt2
  decide +kernel
def zmetX2 (l : Launch) (y : MethodName) (bytes : ByteArray) (maxL : Nat) (ret : Option FieldType) (fr : Nat) (av : List Value) (D : va_G) (dA : Nat → ClassId) (md : Bool) (ad : Nat → Nat) (al : Nat → Prop) (w : zW) (K : Option Int32 → zW → Prop) : Prop :=
  ∀ sz : Nat, vx_Met l y (Cond.code y bytes maxL ret :: (zG ++ zTw2)) (zroom fr 1 6) (va_Pc av (fun U => zpre D dA md ad al w sz U ∧ zThE (zA ad al sz) U U.heap)) (va_Qi (fun r => K (some r)) (zB D dA md ad al) (zA ad al sz)) (vx_X (fun w1 => K none w1) (fun E w1 t => E = zNSE ∧ zB D dA md ad al w1 t) (zA ad al sz)) 1 6 (zA ad al sz)
section ZX2
variable {p : Program} {l : Launch} {e : Env} {R : Room} {s : State} {m : MethodId} {args : Array Value} {below : List Frame} {meth : Method} {c : Code} {H : Heap} {locs : List Loc} {cells slots : Nat} {Q : State → Prop}
variable {cc : ByteArray} {pc nL index n k ci N fr fr1 np mc ms : Nat} {ls : Array Slot} {rest st : List Value} {D : va_G} {dA : Nat → ClassId} {md : Bool} {ad ad0 : Nat → Nat} {al al0 : Nat → Prop} {w : zW} {own : String} {ret ret1 : Option FieldType}
variable {y : MethodName} {bytes : ByteArray} {maxL : Nat} {As : List Value}
theorem zmetX2_of (hl0 : l.stackTraces = false) (hfr : 8 ≤ fr) (hyc : y.cls = RX11) (hy : plainName y.cls = true) (hlen : (lg_sl As).length ≤ maxL) (hk0 : Cond.classLink RX11 312 "java/util/NoSuchElementException" ∈ zG) (hi0 : Cond.initialized "java/util/NoSuchElementException" ∈ zG) {K : Option Int32 → zW → Prop}
    (body : ∀ (p : Program) (e : Env) (R : Room) (s : State) (m : MethodId) (below : List Frame) (meth : Method) (c : Code) (Q : State → Prop) (H : Heap) (ls : Array Slot) (args : Array Value) (locs : List Loc) (cells slots : Nat), zCx p s m args meth c bytes maxL y.cls (some .int) → zRm R fr cells slots → zRetX p l e R s m args below meth c cells slots Q D dA md ad al ad al bytes K → zSt D dA md ad al ad al w s H locs → lv_has ls maxL (lv_args 0 As) →
      W p l e R s m args below meth c H locs cells slots Q (F0 m 0 ls [])) : zmetX2 l y bytes maxL (some .int) fr As D dA md ad al w K := by
  intro sz
  refine vx_ofW (cc := bytes) (maxL := maxL) (ret := (some .int)) hy rfl ?_
  intro p e s m args below meth c s₁ B hml hno hv
  obtain ⟨rfl, ⟨hsz, hEv, hRel⟩, hTh⟩ := hv
  subst hsz
  have hx := B.exec
  have hb := B.bytes
  have hr := B.returns
  have hlk := B.notSynchronized
  have hts := atoms_spec (ws := Cond.code y bytes maxL (some .int) :: (zG ++ zTw2)) B.pre
  have htG : ∀ w ∈ zG, w.before (As.toArray) s = true := fun w hw => hts w (List.mem_cons_of_mem _ (List.mem_append_left _ hw))
  have hown := findClass_of_methodNamed B.named
  have hl := lv_entry As (n := maxL) hlen
  rw [lg_entry_eq]
  generalize (lg_sl As ++ List.replicate (maxL - (lg_sl As).length) Slot.unset).toArray = ls at hl ⊢
  refine body p e _ s m below meth c _ s.heap ls _ [] 0 0 ⟨hx, hb, hml, hown, htG, hr, hlk⟩ ⟨Nat.le_refl _, Nat.le_refl _, Nat.zero_le _, Nat.zero_le _⟩ ⟨fun v w1 H1 locs1 ls1 pc1 hk hS hdg => ?_, fun w1 H1 locs1 ls1 pc1 hk hS hls d0 d3 d4 d7 d10 => ?_⟩ (zhold0 hRel hEv) hl
  · refine vx_ret ?_
    refine W.widen (k := 1) (n := 6) (Nat.zero_le _) (Nat.zero_le _) ?_
    exact W.iret hx hb hr (fun t ht hW => ⟨⟨v, w1, rfl, hk, zhold hS ht hW⟩, hS.2.2.1.F ht⟩) hS.2.2.1.2.2 hdg hlk
  · rw [hyc] at hown
    refine z_throw13 (text := zTx 2) (sa := dA (100 + 2)) (Yn := "java/lang/RuntimeException") (names := ["java/lang/Exception"]) (A := zA ad al s.heap.size) (rest := []) hx hb hl0 hown (by decide +kernel) (by decide +kernel) (by decide +kernel) (htG _ hk0) (htG _ hi0) hEv.2.1.2.2.2 ?_ (fun w hw => List.all_eq_true.mp zAtOt2 w hw) hTh.2.1 hTh.2.2 hS.2.2.1 hls d0 d3 d4 d7 d10 (fun x hx => (hno x hx).elim) ?_ ?_ ?_ ?_ hlk ?_ hS.2.2.1.2.2 (Nat.le_of_eq (Nat.zero_add _)) (Nat.le_of_eq (Nat.zero_add _))
    · exact vx_hat (B := zTnL) (fun w hw => hts w (List.mem_cons_of_mem _ (List.mem_append_right _ hw))) (fun w hw => by
        have h9 : w ∈ zAt2.filter (fun w => !goodWord w) := hw
        rw [zTn2] at h9
        exact h9) (fun w hw => va_Nw.use (zTnL_tab hw) (hTh.1 w hw))
    · show 1 + 4 < fr
      omega
    · show (List.map (fun v => Value.category v) []).sum + (13 * (1 + 2) + 43) ≤ 60 * fr
      simp only [List.map_nil, List.sum_nil]
      omega
    · exact Nat.le_refl _
    · exact Nat.le_refl _
    · intro t hvm hz hq
      refine ⟨w1, hk, ⟨rfl, ?_⟩, ?_, ?_⟩
      · exact hS.1.ext hvm hq
      · exact Nat.le_trans hS.2.2.1.1 hz
      · intro q h1 h2
        rw [hq q (Nat.lt_of_lt_of_le h1 hS.2.2.1.1)]
        exact hS.2.2.1.2.1 q h1 h2
set_option maxHeartbeats 4000000 in
set_option maxRecDepth 100000 in
theorem mX11_rests2 {l : Launch} {D : va_G} {dA : Nat → ClassId} {ad : Nat → Nat} {al : Nat → Prop} {w : zW} {k : Option Int32 → zW → Prop} {x1 : Int32} {x2 : Int32} {x3 : Int32} {x4 : Int32}  (hl0 : l.stackTraces = false) (hf : fX11_rests x1 x2 x3 x4 w k) : zmetX2 l yX11_rests cX11_rests 9 (some .int) 8 [.ref (ad 1), .int x1, .int x2, .int x3, .int x4] D dA true ad al w k := by
  refine zmetX2_of hl0 (by decide) rfl (by decide) (Nat.le_of_ble_eq_true rfl) zq_1539 zq_1540 ?_
  intro p e R s m below meth c Q H ls args locs cells slots X hr hQ hR hl
  have hx := X.1
  have hb := X.2.1
  have hml := X.2.2.1
  have hown := X.2.2.2.1
  have hts := X.2.2.2.2.1
  unfold fX11_rests at hf
  have hl : lv_has ls 9 [(0, .ref (ad 1)), (1, .int x1), (2, .int x2), (3, .int x3), (4, .int x4)] := hl
  refine lv_iload_n hx hb dX11_rests_0 rfl (lv_at hl 1 rfl) ?_
  refine z_callSI (fr1 := 0) (As := [.int x1]) (rest := []) X (hr.le (by decide)) hR zy_X11_isDigit zq_1541 (mX11_isDigit  hf) rfl hl (Nat.le_of_ble_eq_true rfl) dX11_rests_1 rfl (fun r1 w1 H locs hf hR => ?_)
  refine lv_if_eq (tgt := 27) hx hb dX11_rests_4 (by decide) (fun c2 => ?_) (fun c2 => ?_)
  · replace hf := hf.1 c2
    exact mX11_rests_J27 X hr hQ  hf hR (lv_sub hl [] rfl)
  · replace hf := hf.2 c2
    refine lv_iload_n hx hb dX11_rests_7 rfl (lv_at hl 2 rfl) ?_
    refine z_callSI (fr1 := 0) (As := [.int x2]) (rest := []) X (hr.le (by decide)) hR zy_X11_isDigit zq_1541 (mX11_isDigit  hf) rfl hl (Nat.le_of_ble_eq_true rfl) dX11_rests_8 rfl (fun r3 w3 H locs hf hR => ?_)
    refine lv_if_eq (tgt := 27) hx hb dX11_rests_11 (by decide) (fun c4 => ?_) (fun c4 => ?_)
    · replace hf := hf.1 c4
      exact mX11_rests_J27 X hr hQ  hf hR (lv_sub hl [] rfl)
    · replace hf := hf.2 c4
      refine lv_iload_n hx hb dX11_rests_14 rfl (lv_at hl 3 rfl) ?_
      refine z_callSI (fr1 := 0) (As := [.int x3]) (rest := []) X (hr.le (by decide)) hR zy_X11_isDigit zq_1541 (mX11_isDigit  hf) rfl hl (Nat.le_of_ble_eq_true rfl) dX11_rests_15 rfl (fun r5 w5 H locs hf hR => ?_)
      refine lv_if_eq (tgt := 27) hx hb dX11_rests_18 (by decide) (fun c6 => ?_) (fun c6 => ?_)
      · replace hf := hf.1 c6
        exact mX11_rests_J27 X hr hQ  hf hR (lv_sub hl [] rfl)
      · replace hf := hf.2 c6
        refine lv_iload hx hb dX11_rests_21 (lv_at hl 4 rfl) ?_
        refine lv_iconst (v := (-1 : Int32)) hx hb dX11_rests_23 (by decide) ?_
        refine lv_icmp_ge (tgt := 38) hx hb dX11_rests_24 (by decide) (fun c7 => ?_) (fun c7 => ?_)
        · replace hf := hf.1 c7
          refine lv_iconst (v := (0 : Int32)) hx hb dX11_rests_38 (by decide) ?_
          refine lv_istore (lv' := [(5, .int (0 : Int32)), (0, .ref (ad 1)), (1, .int x1), (2, .int x2), (3, .int x3), (4, .int x4)]) hx hb dX11_rests_39 hl (by decide) rfl (fun ls hl => ?_)
          refine lv_iconst (v := (0 : Int32)) hx hb dX11_rests_41 (by decide) ?_
          refine lv_istore (lv' := [(6, .int (0 : Int32)), (5, .int (0 : Int32)), (0, .ref (ad 1)), (1, .int x1), (2, .int x2), (3, .int x3), (4, .int x4)]) hx hb dX11_rests_42 hl (by decide) rfl (fun ls hl => ?_)
          obtain ⟨n9, hf⟩ := hf
          exact mX11_rests_L44 X hr hQ  n9 x1 x2 x3 x4 (0 : Int32) (0 : Int32) w5 _ _ _ hf hR (lv_sub hl [3, 4, 5, 6, 1, 0] rfl)
        · replace hf := hf.2 c7
          exact mX11_rests_J27 X hr hQ  hf hR (lv_sub hl [] rfl)
theorem zpayX2 (hts : ∀ w ∈ zG, w.before args s = true) (htw : ∀ w ∈ zTw2, w.before args s = true) {w0 : Cond} (hw0 : ∀ (a' : Array Value) (U : State), s.WarmedH U.vm → w0.before a' U = true) : ∀ w ∈ (w0 :: (zG ++ zTw2)), ∀ (a' : Array Value) (U : State), s.WarmedH U.vm → w.before a' U = true := by
  intro w hw a' U hW
  rcases List.mem_cons.mp hw with rfl | hw
  · exact hw0 a' U hW
  · rcases List.mem_append.mp hw with h | h
    · exact word_at hW (good_of_word (List.all_eq_true.mp zGood w h)) (hts w h)
    · exact word_at hW (good_of_word (List.mem_filter.mp h).2) (htw w h)
def zmetLR2 (l : Launch) (D : va_G) (dA : Nat → ClassId) (ad : Nat → Nat) (al : Nat → Prop) (w : zW) (o : Nat) (x1 x2 x3 x4 : Int32) (k : Int32 → zW → Prop) : Prop :=
  ∀ sz : Nat, Met l yL_rests (Cond.codeWith yL_rests cL_rests 7 (some .int) [(0, 14, 17, 13)] :: (zG ++ zTw2)) (zroom 9 1 6) (va_Pc [.ref (ad 1), .int x1, .int x2, .int x3, .int x4, .ref (ad o)] (fun U => zpre D dA true ad al w sz U ∧ zThE (zA ad al sz) U U.heap)) (va_Qi k (zB D dA true ad al) (zA ad al sz)) 1 6 (zA ad al sz)
set_option maxHeartbeats 4000000 in
theorem mL_rests2 {o : Nat} {x1 x2 x3 x4 : Int32} {k : Int32 → zW → Prop} (hl0 : l.stackTraces = false) (ho : al o ∧ zsh o = 21) (h1 : al 1) (hf : fL_rests o x1 x2 x3 x4 w k) : zmetLR2 l D dA ad al w o x1 x2 x3 x4 k := by
  intro sz
  refine z_ofWH (cc := cL_rests) (maxL := 7) (ret := some .int) (hh := [(0, 14, 17, 13)]) (by decide) rfl ?_
  intro p e s m args below meth c s₁ B hml htab hv
  obtain ⟨rfl, ⟨hsz, hEv, hRel⟩, hTh⟩ := hv
  subst hsz
  have hx := B.exec
  have hb := B.bytes
  have hr := B.returns
  have hlk := B.notSynchronized
  have hts := atoms_spec (ws := Cond.codeWith yL_rests cL_rests 7 (some .int) [(0, 14, 17, 13)] :: (zG ++ zTw2)) B.pre
  have htG : ∀ w ∈ zG, w.before #[.ref (ad 1), .int x1, .int x2, .int x3, .int x4, .ref (ad o)] s = true := fun w hw => hts w (List.mem_cons_of_mem _ (List.mem_append_left _ hw))
  have htW : ∀ w ∈ zTw2, w.before #[.ref (ad 1), .int x1, .int x2, .int x3, .int x4, .ref (ad o)] s = true := fun w hw => hts w (List.mem_cons_of_mem _ (List.mem_append_right _ hw))
  have hown : s.vm.findClass RL = some m.cls := findClass_of_methodNamed B.named
  have X : zCx p s m _ meth c cL_rests 7 RL (some .int) := ⟨hx, hb, hml, hown, htG, hr, hlk⟩
  have hR : zSt D dA true ad al ad al w s s.heap [] := zhold0 hRel hEv
  have hl := lv_entry [.ref (ad 1), .int x1, .int x2, .int x3, .int x4, .ref (ad o)] (n := 7) (Nat.le_of_ble_eq_true rfl)
  rw [lg_entry_eq]
  generalize (lg_sl [.ref (ad 1), .int x1, .int x2, .int x3, .int x4, .ref (ad o)] ++ List.replicate (7 - (lg_sl [.ref (ad 1), .int x1, .int x2, .int x3, .int x4, .ref (ad o)]).length) Slot.unset).toArray = ls at hl ⊢
  have hl : lv_has ls 7 [(0, .ref (ad 1)), (1, .int x1), (2, .int x2), (3, .int x3), (4, .int x4), (5, .ref (ad o))] := hl
  refine lv_aload hx hb dL_rests_0 (lv_at hl 5 rfl) ?_
  refine lv_iconst (v := (0 : Int32)) hx hb dL_rests_2 (by decide) ?_
  refine lv_aload_n hx hb dL_rests_3 rfl (lv_at hl 0 rfl) ?_
  refine lv_iload_n hx hb dL_rests_4 rfl (lv_at hl 1 rfl) ?_
  refine lv_iload_n hx hb dL_rests_5 rfl (lv_at hl 2 rfl) ?_
  refine lv_iload_n hx hb dL_rests_6 rfl (lv_at hl 3 rfl) ?_
  refine lv_iload hx hb dL_rests_7 (lv_at hl 4 rfl) ?_
  have hM := mX11_rests2 (l := l) (D := D) (dA := dA) (ad := ad) (al := al) hl0 hf s.heap.size
  have hpay := zpayX2 (w0 := Cond.code yX11_rests cX11_rests 9 (some .int)) htG htW (fun a' U hW => word_at hW (good_of_word (List.all_eq_true.mp zGood _ zq_1538)) (htG _ zq_1538))
  have hrun := vx_runV (e := e) (below := below) (meth := meth) (c := c) (cells := 0) (slots := 0) (locs := []) (R := zroom 9 1 6) (As := [.int x1, .int x2, .int x3, .int x4]) (rest := [.int 0, .ref (ad o)]) (g := F0 m (0 + 2 + 1 + 1 + 1 + 1 + 1 + 2) ls ([.int x1, .int x2, .int x3, .int x4].reverse ++ .ref (ad 1) :: [.int 0, .ref (ad o)])) (own := RL) (C := RX11) (b := ad 1) (index := 7) (n := 4) (nL := 7) ⟨hx, hb, hml, hown, htG⟩ hM
    ⟨⟨rfl, rfl, by decide, by decide, hpay, List.mem_cons_self, htG _ zq_1538, htG _ zq_2, ⟨by decide, by decide⟩, fun sig h => by
      have h9 : (parseMethodDescriptor yX11_rests.desc).map (fun d => d.parameters.length) = some 4 := by decide +kernel
      rw [h] at h9
      exact (Option.some.inj h9).symm, htG _ zq_1535⟩, htG _ zq_1536, htG _ zq_1537⟩
    (H := s.heap) ⟨zpreBlindX, zrecv hR h1 (q := (RX11, TX11, 14)) (by rw [zs_1]; rfl), fun U hU hW => ⟨rfl, ⟨by rw [hU], by rw [hU]; exact hEv.go hW (fun _ _ _ => rfl) (fun _ h => h), by rw [hU]; exact hRel.moved hW.alike⟩, by rw [hU]; exact hTh.go hW (fun _ _ _ => rfl) (fun _ h => h)⟩⟩ rfl rfl hl.1 rfl (lv_room (Nat.le_of_ble_eq_true rfl)) dL_rests_9 ⟨Nat.le_refl _, Nat.le_refl _⟩
  refine vx_calli hrun hR.2.2.1 (fun _ _ h => h) (fun _ h => h) (fun _ _ h => h) (fun E ce q9 u t H1 locs1 ht hvm hpx hB hz hq hS1 hce hcv hcl => ?_) (fun r u t H1 locs1 ht hvm hpo hB hz hq hS1 => ?_)
  · obtain ⟨rfl, hB⟩ := hB
    obtain ⟨x, ht1, ht2⟩ := List.map_eq_singleton_iff.mp htab
    simp only [Prod.mk.injEq] at ht2
    refine vx_catch (name := zNSE) hown [] x [] (by rw [ht1]; rfl) (fun z hz => nomatch hz) (by simp [covers, ht2.1, ht2.2.1]) (by rw [ht2.2.2.2]; decide) (by rw [ht2.2.2.2]; exact htG _ zq_1534) (va_Nw.use (zTnL_tab zTnL_cast) (hTh.1 _ zTnL_cast)) hce hcv hcl ?_
    rw [ht2.2.2.1]
    refine lv_astore (lv' := [(6, .ref q9), (0, .ref (ad 1)), (1, .int x1), (2, .int x2), (3, .int x3), (4, .int x4), (5, .ref (ad o))]) hx hb dL_rests_17 hl (by decide) rfl (fun ls hl => ?_)
    refine lv_iconst (v := (1 : Int32)) hx hb dL_rests_19 (by decide) ?_
    refine W.widen (k := 1) (n := 6) (by decide) (by decide) ?_
    exact W.iret hx hb hr (fun t ht hW => ⟨⟨1, u, rfl, hpx, zhold (zback hR (by assumption) (by assumption) hB hS1) ht hW⟩, hS1.F ht⟩) hS1.2.2 dL_rests_20 hlk
  · have hR1 := zback hR ht hvm hB hS1
    refine lv_i2l hx hb dL_rests_12 rfl ?_
    refine z_last (N := 1) X hR1 ho.1 ho.2 hpo.1 (zin (by decide)) dL_rests_13 (fun H2 locs2 hR2 => ?_)
    refine lv_goto (tgt := 21) hx hb dL_rests_14 (by decide) ?_
    refine lv_iconst (v := (0 : Int32)) hx hb dL_rests_21 (by decide) ?_
    refine W.widen (k := 1) (n := 6) (by decide) (by decide) ?_
    exact W.iret hx hb hr (fun t ht hW => ⟨⟨0, _, rfl, hpo.2 _ rfl, zhold hR2 ht hW⟩, hR2.2.2.1.F ht⟩) hR2.2.2.1.2.2 dL_rests_22 hlk
/-- the law's call of it -/
theorem z_callLR2 {b0 : Nat} (X : zCx p s m args meth c cc nL RL ret) (hr : zRm R (9 + 1) (cells + 1) (slots + 6)) (hR : zSt D dA true ad0 al0 ad al w s H locs) (hTh : zThE (zA ad0 al0 s.heap.size) s s.heap) (htw : ∀ w ∈ zTw2, w.before args s = true) (hl : Cond.methodLink RL index yL_rests ∈ zG) {o : Nat} {x1 x2 x3 x4 : Int32} (ho : al o) (h1 : al 1) {K : Int32 → zW → Prop} (hM : zmetLR2 l D dA ad al w o x1 x2 x3 x4 K) {lv : List (Nat × Value)} (hsz : lv_has ls nL lv) (hst : (rest.map fun v => v.category).sum ≤ 8) (hdg : decode cc pc = .ok (.invokestatic index, 3))
    (kk : ∀ (r : Int32) (w1 : zW) (H1 : Heap) (locs1 : List Loc), K r w1 → zSt D dA true ad0 al0 ad al w1 s H1 locs1 → W p l e R s m args below meth c H1 locs1 (cells + 1) (slots + 6) Q (F0 m (pc + 3) ls (.int r :: rest))) : W p l e R s m args below meth c H locs cells slots Q (F0 m pc ls (.ref (ad o) :: .int x4 :: .int x3 :: .int x2 :: .int x1 :: .ref (ad 1) :: rest)) := by
  have hts := X.2.2.2.2.1
  have hcw := zwLR
  have hpay := zpayX2 (w0 := Cond.codeWith yL_rests cL_rests 7 (some .int) [(0, 14, 17, 13)]) hts htw (fun a' U hW => word_at hW (good_of_word (List.all_eq_true.mp zGood _ hcw)) (hts _ hcw))
  have hrl : 8 + (7 + 11) + 60 * 9 ≤ R.locals := by have h9 := hr.2.1; omega
  refine va_calli (vx_runSW (e := e) (below := below) (meth := meth) (c := c) (cells := cells) (slots := slots) (locs := locs) (As := [.ref (ad 1), .int x1, .int x2, .int x3, .int x4, .ref (ad o)]) (rest := rest) (g := F0 m pc ls (.ref (ad o) :: .int x4 :: .int x3 :: .int x2 :: .int x1 :: .ref (ad 1) :: rest)) (own := RL) (index := index) (n := 6) (nL := nL) ⟨X.1, X.2.1, X.2.2.1, X.2.2.2.1, hts⟩ (hM H.size)
    ⟨⟨rfl, rfl, hr.1, hrl, hpay, List.mem_cons_self⟩, hts _ hcw, hts _ zq_1532, ⟨by decide, by decide⟩, fun sig h => by
      have h9 : (parseMethodDescriptor yL_rests.desc).map (fun d => d.parameters.length) = some 6 := by decide +kernel
      rw [h] at h9
      exact (Option.some.inj h9).symm, hts _ hl, hts _ zq_1531⟩
    (H := H) ⟨zpreBlindX, fun U hU hW => ⟨rfl, ⟨by rw [hU], by rw [hU]; exact hR.2.2.2.go hW hR.2.2.1.2.1 (zA_in hR.2.1 hR.2.2.1.1), by rw [hU]; exact hR.1.moved hW.alike⟩, by rw [hU]; exact hTh.go hW hR.2.2.1.2.1 (zA_in hR.2.1 hR.2.2.1.1)⟩⟩ rfl rfl hsz.1 rfl (lv_room hst) hdg ⟨hr.2.2.1, hr.2.2.2⟩) hR.2.2.1 (fun q _ h => zA_in hR.2.1 hR.2.2.1.1 q h) (zA_in hR.2.1 hR.2.2.1.1) (fun r u t H1 locs1 ht hvm hw hB hz hk hS1 => ?_)
  exact kk r u H1 locs1 hw (zback hR ht hvm hB hS1)
end ZX2

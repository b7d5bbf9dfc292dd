/-! Strings: methods of the String constants -/
section ZSTR
variable {p : Program} {l : Launch} {e : Env} {R : Room} {s : State} {m : MethodId} {args : Array Value} {below : List Frame} {meth : Method} {c : Code} {H : Heap} {locs : List Loc} {cells slots : Nat} {Q : State → Prop}
variable {cc : ByteArray} {pc nL index fr1 np : Nat} {ls : Array Slot} {rest st : List Value} {D : va_G} {dA : Nat → ClassId} {md : Bool} {ad ad0 : Nat → Nat} {al al0 : Nat → Prop} {w : zW} {own : String} {ret ret1 : Option FieldType}
variable {y : MethodName} {bytes : ByteArray} {maxL : Nat} {As : List Value}
theorem z_callTI (X : zCx p s m args meth c cc nL own ret) (hr : zRm R (fr1 + 1) cells slots) (hR : zSt D dA md ad0 al0 ad al w s H locs) (hy : zyV y bytes maxL ret1 np) (hl : Cond.methodLink own index y ∈ zG) {j : Nat} (hj : j < 3) (hyc : y.cls = "java/lang/String") {K : Int32 → zW → Prop} (hM : zmetI l y bytes maxL ret1 fr1 (.ref (dA (100 + j)) :: As) D dA md ad al w K) (hn : As.length = np) {lv : List (Nat × Value)} (hsz : lv_has ls nL lv) (hst : (rest.map fun v => v.category).sum ≤ 8) (hdg : decode cc pc = .ok (.invokevirtual index, 3)) (hstk : st = As.reverse ++ .ref (dA (100 + j)) :: rest)
    (kk : ∀ (r : Int32) (w1 : zW) (H1 : Heap) (locs1 : List Loc), K r w1 → zSt D dA md ad0 al0 ad al w1 s H1 locs1 → W p l e R s m args below meth c H1 locs1 cells slots Q (F0 m (pc + 3) ls (.int r :: rest))) : W p l e R s m args below meth c H locs cells slots Q (F0 m pc ls st) := by
  obtain ⟨y1, y2, y3, y4, y5, y6, y7⟩ := id hy
  have hts := X.2.2.2.2.1
  have hO := (hR.2.2.2.2.1.1.1 j hj).1.kept hR.2.2.1.2.1
  obtain ⟨cell, h1, h2, h3, h4⟩ := hO
  refine va_calli (va_runV (As := As) (rest := rest) (cells := cells) (slots := slots) ⟨X.1, X.2.1, X.2.2.1, X.2.2.2.1, hts⟩ (hM H.size) ⟨zcallB X hr y1 y4 y5 y6 y7 hl, hts _ y2, hts _ y3⟩ ⟨zpreBlind, ⟨cell, h1, h2, by rw [hyc]; exact h3⟩, fun U hU hW => ⟨rfl, by rw [hU], by rw [hU]; exact hR.2.2.2.go hW hR.2.2.1.2.1 (zA_in hR.2.1 hR.2.2.1.1), by rw [hU]; exact hR.1.moved hW.alike⟩⟩ rfl hn hsz.1 hstk (lv_room hst) hdg ⟨hr.2.2.1, hr.2.2.2⟩) hR.2.2.1 (fun q _ h => zA_in hR.2.1 hR.2.2.1.1 q h) (zA_in hR.2.1 hR.2.2.1.1) (fun r u t H1 locs1 ht hvm hw hB hz hk hS1 => ?_)
  exact kk r u H1 locs1 hw (zback hR ht hvm hB hS1)
def zRetN (ty : FieldType) (p : Program) (l : Launch) (e : Env) (R : Room) (s : State) (m : MethodId) (args : Array Value) (below : List Frame) (meth : Method) (c : Code) (cells slots : Nat) (Q : State → Prop) (D : va_G) (dA : Nat → ClassId) (md : Bool) (ad0 : Nat → Nat) (al0 : Nat → Prop) (ad : Nat → Nat) (al : Nat → Prop) (cc : ByteArray) (K : Int32 → zW → Prop) : Prop :=
  ∀ (v : Int32) (w : zW) (H : Heap) (locs : List Loc) (ls : Array Slot) (pc : Nat), narrow ty (.int v) = .int v → K v w → zSt D dA md ad0 al0 ad al w s H locs → decode cc pc = .ok (.ireturn, 1) → W p l e R s m args below meth c H locs cells slots Q (F0 m pc ls [.int v])
theorem zmetN_of {ty : FieldType} {fr : Nat} {av : List Value} {K : Int32 → zW → Prop} (hy : plainName y.cls = true) (hlen : (lg_sl av).length ≤ maxL)
    (body : ∀ (p : Program) (e : Env) (R : Room) (s : State) (m : MethodId) (below : List Frame) (meth : Method) (c : Code) (Q : State → Prop) (H : Heap) (ls : Array Slot) (args : Array Value) (locs : List Loc) (cells slots : Nat), zCx p s m args meth c bytes maxL y.cls (some ty) → zRm R fr cells slots → zRetN ty p l e R s m args below meth c cells slots Q D dA md ad al ad al bytes K → zSt D dA md ad al ad al w s H locs → lv_has ls maxL (lv_args 0 av) →
      W p l e R s m args below meth c H locs cells slots Q (F0 m 0 ls [])) : zmetI l y bytes maxL (some ty) fr av D dA md ad al w K := by
  intro sz
  refine Met.ofW (cc := bytes) (maxL := maxL) (ret := (some ty)) hy rfl ?_
  intro p e s m args below meth c s₁ B hml hv
  obtain ⟨rfl, hsz, hEv, hRel⟩ := hv
  subst hsz
  have hx := B.exec
  have hb := B.bytes
  have hr := B.returns
  have hlk := B.notSynchronized
  have hts := atoms_spec (ws := Cond.code y bytes maxL (some ty) :: zG) B.pre
  have hl := lv_entry av (n := maxL) hlen
  rw [lg_entry_eq]
  generalize (lg_sl av ++ List.replicate (maxL - (lg_sl av).length) Slot.unset).toArray = ls at hl ⊢
  refine body p e _ s m below meth c _ s.heap ls _ [] 0 0 ⟨hx, hb, hml, findClass_of_methodNamed B.named, fun w hw => hts w (List.mem_cons_of_mem _ hw), hr, hlk⟩ ⟨Nat.le_refl _, Nat.le_refl _, Nat.zero_le _, Nat.zero_le _⟩ (fun v w1 H1 locs1 ls1 pc1 h01 hk hS hdg => ?_) (zhold0 hRel hEv) hl
  exact W.zret hx hb hr h01 (fun t ht hW => ⟨⟨v, w1, rfl, hk, zhold hS ht hW⟩, hS.2.2.1.F ht⟩) hS.2.2.1.2.2 hdg hlk
end ZSTR

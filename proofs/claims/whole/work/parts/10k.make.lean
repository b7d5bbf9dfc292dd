/-! While all is being made (md = false): final fields, arrays of all kinds, constructors; and the end of it -/
/-- a final field of the class itself -/
def zFf (own : String) (index ci k : Nat) (ty : FieldType) : Prop := ∃ q : vw_C, vwCl[ci]? = some q ∧ k < q.2.2 ∧ Cond.fieldLink own index (q.2.1 k).1 (q.2.1 k).2.1 (q.2.1 k).2.2.1 ∈ zG ∧ (q.2.1 k).2.2.2 = true ∧ (q.2.1 k).1 = own ∧ parseFieldDescriptor (q.2.1 k).2.2.1 = some ty
theorem zFf.fd {own : String} {index ci k : Nat} {ty : FieldType} (h : zFf own index ci k ty) : zFd own index ci k := by
  obtain ⟨q, h1, h2, h3, -⟩ := h
  exact ⟨q, h1, h2, h3⟩
def nM (w : zW) (j N : Nat) : zW := (fun a b => if j ≤ a ∧ a ≤ j + N then 0 else if a = 0 ∧ j ≤ b ∧ b ≤ j + N then 1 else w.1 a b, fun a b => if j ≤ a ∧ a ≤ j + N then 0 else w.2.1 a b, fun a b => if j ≤ a ∧ a ≤ j + N then 0 else w.2.2 a b)
theorem zarrstr : "[" ++ (FieldType.array .int).toString = "[[I" := by decide
section ZMAKE
variable {p : Program} {l : Launch} {e : Env} {R : Room} {s : State} {m : MethodId} {args : Array Value} {below : List Frame} {meth : Method} {c : Code} {H : Heap} {locs : List Loc} {cells slots : Nat} {Q : State → Prop}
variable {cc : ByteArray} {pc nL index n k ci N fr fr1 np mc ms : Nat} {ls : Array Slot} {rest st : List Value} {D : va_G} {dA : Nat → ClassId} {md : Bool} {ad ad0 : Nat → Nat} {al al0 : Nat → Prop} {w : zW} {own : String} {ret ret1 : Option FieldType}
variable {y : MethodName} {bytes : ByteArray} {maxL : Nat} {As : List Value}
theorem zwt_ofM (hR : zSt D dA md ad0 al0 ad al w s H locs) {v : Nat} (hn : al n) (hsh : zsh n = ci) (ht : ztg md ci k = 3) (h0 : ¬ gR w n k = 0) (hv : zdc n k = v) : al (gR w n k) ∧ zsh (gR w n k) = v := by
  have h := zwt_ok hR hn hsh ht h0
  rw [hv] at h
  exact h
theorem z_putFV (X : zCx p s m args meth c cc nL own ret) (hR : zSt D dA md ad0 al0 ad al w s H locs) (hin2 : meth.name = "<init>") (hn : al n) (hsh : zsh n = ci) (hc : ci < 20) {ty : FieldType} (hF : zFf own index ci k ty) {v : Value} (hnar : narrow ty v = v) (hfit : fits ty v = true) {w1 : zW} (hu : zUp md ad al w w1 n k v) (hdg : decode cc pc = .ok (.putfield index, 3))
    (kk : ∀ (H1 : Heap) (locs1 : List Loc), zSt D dA md ad0 al0 ad al w1 s H1 locs1 → W p l e R s m args below meth c H1 locs1 cells slots Q (F0 m (pc + 3) ls rest)) : W p l e R s m args below meth c H locs cells slots Q (F0 m pc ls (v :: .ref (ad n) :: rest)) := by
  obtain ⟨hx, hb, -, hown, hts, -, -⟩ := X
  obtain ⟨hRel, hRA, hRS, hEv⟩ := hR
  obtain ⟨hK, hC, -⟩ := id hRel
  obtain ⟨q, hq, hk, hl, hfin, hdecl, hd⟩ := hF
  subst hsh
  have h0 := hC n hn
  unfold zcell at h0
  rw [if_pos hc] at h0
  obtain ⟨r, hr, cell, q1, q2, q3, q4⟩ := h0
  cases hq.symm.trans hr
  obtain ⟨hin, ⟨ty0, hty0⟩, hnm⟩ := zcls hq
  have hap := va_apart (own := own) hts hin ty0 hty0 hnm hK hq
  obtain ⟨hS, hfc, kC, hkC, hkind⟩ := hK.1 _ _ hq
  obtain ⟨cf, kf, fi, f, hi, hsl⟩ := hS k hk
  have hlay := hts _ (hin _ (u_in_lay hk))
  unfold u_lay at hlay
  rw [if_pos hfin] at hlay
  have hst := (u_facts hfc hkC (u_lays hts hin hk) hi).1
  have hcf : m.cls = cf := by
    obtain ⟨_, _, c', _, _, _, -, -, hf', -, -, -, hown2, -⟩ := Cond.laysFinal_spec hlay
    have e1 : c' = cf := by have := hi.symm.trans hf'; simp at this; exact this.1.symm
    rw [hdecl] at hown2
    rw [← e1]; exact Option.some.inj (hown.symm.trans hown2)
  have h6 := u_fits hfc hkC hkind (Or.inr hlay) hi hd hnar hfit
  refine W.putFinK hx hb hown (hts _ hl) hi hst hcf hin2 (by rw [q2]; exact h6) q1 q3 (by rw [hsl]; exact k2_hasslot (q4 k hk)) rfl rfl hdg fun H' e1 e2 e3 => ?_
  rw [hsl] at e1 ⊢
  refine kk H' _ ⟨hRel.put hn hu ?_ e3, hRA, hRS.put e2 e3 (hRA n hn), hEv⟩
  unfold zcell
  rw [if_pos hc]
  refine ⟨_, hq, t_OB.to (V := updV (fun k => zv md ad w n k) k v) ⟨_, e1, q2, q3, t_set q4 hap hk v⟩ (fun j _ => ?_)⟩
  rw [hu.1]
  simp [updV]
theorem z_putFR (X : zCx p s m args meth c cc nL own ret) (hR : zSt D dA md ad0 al0 ad al w s H locs) (hin2 : meth.name = "<init>") (hn : al n) (hsh : zsh n = ci) (hc : ci < 20) {ty : FieldType} (hF : zFf own index ci k ty) (hty : ty.isReference = true) (ht : ztg md ci k = 3) {r : Nat} (h0 : r ≠ 0) (hr : al r) (hrs : zsh r = zdc n k) (hdg : decode cc pc = .ok (.putfield index, 3))
    (kk : ∀ (H1 : Heap) (locs1 : List Loc), zSt D dA md ad0 al0 ad al (sR w n k r) s H1 locs1 → W p l e R s m args below meth c H1 locs1 cells slots Q (F0 m (pc + 3) ls rest)) : W p l e R s m args below meth c H locs cells slots Q (F0 m pc ls (.ref (ad r) :: .ref (ad n) :: rest)) := by
  refine z_putFV X hR hin2 hn hsh hc hF ?_ ?_ (v := .ref (ad r)) (w1 := sR w n k r) ?_ hdg kk
  · cases ty <;> first | rfl | cases hty
  · cases ty <;> first | rfl | cases hty
  · have h := zUp_R (md := md) (ad := ad) (al := al) (w := w) (n := n) (k := k) (x := r) (by unfold ztag; rw [hsh]; exact ht) (Or.inr ⟨hr, hrs⟩)
    rw [zrf_pos h0] at h
    exact h
theorem z_newaL (X : zCx p s m args meth c cc nL own ret) (hr : cells + 1 ≤ R.cells ∧ slots + N ≤ R.slots) (hR : zSt D dA md ad0 al0 ad al w s H locs) {j : Nat} (hd : md = true → zdyn j = true ∧ zfix j = false) (hf : ¬ gI w 0 j = 1) (hsh : zsh j = 21) (hN : zln j = N) {n : Int32} (hn : ¬ n < 0) (hn2 : n.toNatClampNeg = N) (hby : N * 8 ≤ 536870912) (har : Cond.arrayClass .long ∈ zG) (hdg : decode cc pc = .ok (.newarray .long, 2))
    (kk : ∀ (ad1 : Nat → Nat) (al1 : Nat → Prop) (H1 : Heap), zExt ad al ad1 al1 → al1 j → zSt D dA md ad0 al0 ad1 al1 (nW w j) s H1 locs → W p l e R s m args below meth c H1 locs (cells + 1) (slots + N) Q (F0 m (pc + 2) ls (.ref (ad1 j) :: rest))) : W p l e R s m args below meth c H locs cells slots Q (F0 m pc ls (.int n :: rest)) := by
  subst hn2
  refine W.newa (atype := .long) X.1 X.2.1 (X.2.2.2.2.1 _ har) rfl hdg rfl hn (by exact hby) hr.1 hr.2 (fun cA kA comp h1 h2 h3 => ?_)
  have hc : cA = dA 21 := by
    have h4 : s.vm.findClass ("[" ++ (FieldType.long).toString) = some (dA 21) := (hR.1.1.2 1 _ rfl).2
    exact Option.some.inj (h1.symm.trans h4)
  subst hc
  obtain ⟨ad1, al1, hE, hj, haj, hR1⟩ := zgrow hR hd hf (by rw [hsh]; decide) (by rw [hsh]; decide) (x := { cls := dA 21, slots := Array.replicate n.toNatClampNeg (defaultValue .long), vm := .none }) (fun ad1 h => by
    unfold zcell
    rw [if_neg (by rw [hsh]; decide), h, hsh, hN, arrV_new]
    rw [Array.getElem?_push, if_pos rfl]
    refine congrArg some (arrV_congr fun k _ => ?_)
    rw [zv_L (by unfold ztag; rw [hsh]; rfl)]
    simp [gL, nW, defaultValue])
  rw [← hj]
  exact kk ad1 al1 _ hE haj hR1
theorem z_newaZ (X : zCx p s m args meth c cc nL own ret) (hr : cells + 1 ≤ R.cells ∧ slots + N ≤ R.slots) (hR : zSt D dA md ad0 al0 ad al w s H locs) {j : Nat} (hd : md = true → zdyn j = true ∧ zfix j = false) (hf : ¬ gI w 0 j = 1) (hsh : zsh j = 22) (hN : zln j = N) {n : Int32} (hn : ¬ n < 0) (hn2 : n.toNatClampNeg = N) (hby : N * 1 ≤ 536870912) (har : Cond.arrayClass .boolean ∈ zG) (hdg : decode cc pc = .ok (.newarray .boolean, 2))
    (kk : ∀ (ad1 : Nat → Nat) (al1 : Nat → Prop) (H1 : Heap), zExt ad al ad1 al1 → al1 j → zSt D dA md ad0 al0 ad1 al1 (nW w j) s H1 locs → W p l e R s m args below meth c H1 locs (cells + 1) (slots + N) Q (F0 m (pc + 2) ls (.ref (ad1 j) :: rest))) : W p l e R s m args below meth c H locs cells slots Q (F0 m pc ls (.int n :: rest)) := by
  subst hn2
  refine W.newa (atype := .boolean) X.1 X.2.1 (X.2.2.2.2.1 _ har) rfl hdg rfl hn (by exact hby) hr.1 hr.2 (fun cA kA comp h1 h2 h3 => ?_)
  have hc : cA = dA 22 := by
    have h4 : s.vm.findClass ("[" ++ (FieldType.boolean).toString) = some (dA 22) := (hR.1.1.2 2 _ rfl).2
    exact Option.some.inj (h1.symm.trans h4)
  subst hc
  obtain ⟨ad1, al1, hE, hj, haj, hR1⟩ := zgrow hR hd hf (by rw [hsh]; decide) (by rw [hsh]; decide) (x := { cls := dA 22, slots := Array.replicate n.toNatClampNeg (defaultValue .boolean), vm := .none }) (fun ad1 h => by
    unfold zcell
    rw [if_neg (by rw [hsh]; decide), h, hsh, hN, arrV_new]
    rw [Array.getElem?_push, if_pos rfl]
    refine congrArg some (arrV_congr fun k _ => ?_)
    rw [zv_I (by unfold ztag; rw [hsh]; rfl)]
    simp [gI, nW, defaultValue])
  rw [← hj]
  exact kk ad1 al1 _ hE haj hR1
theorem z_newaC (X : zCx p s m args meth c cc nL own ret) (hr : cells + 1 ≤ R.cells ∧ slots + N ≤ R.slots) (hR : zSt D dA md ad0 al0 ad al w s H locs) {j : Nat} (hd : md = true → zdyn j = true ∧ zfix j = false) (hf : ¬ gI w 0 j = 1) (hsh : zsh j = 23) (hN : zln j = N) {n : Int32} (hn : ¬ n < 0) (hn2 : n.toNatClampNeg = N) (hby : N * 2 ≤ 536870912) (har : Cond.arrayClass .char ∈ zG) (hdg : decode cc pc = .ok (.newarray .char, 2))
    (kk : ∀ (ad1 : Nat → Nat) (al1 : Nat → Prop) (H1 : Heap), zExt ad al ad1 al1 → al1 j → zSt D dA md ad0 al0 ad1 al1 (nW w j) s H1 locs → W p l e R s m args below meth c H1 locs (cells + 1) (slots + N) Q (F0 m (pc + 2) ls (.ref (ad1 j) :: rest))) : W p l e R s m args below meth c H locs cells slots Q (F0 m pc ls (.int n :: rest)) := by
  subst hn2
  refine W.newa (atype := .char) X.1 X.2.1 (X.2.2.2.2.1 _ har) rfl hdg rfl hn (by exact hby) hr.1 hr.2 (fun cA kA comp h1 h2 h3 => ?_)
  have hc : cA = dA 23 := by
    have h4 : s.vm.findClass ("[" ++ (FieldType.char).toString) = some (dA 23) := (hR.1.1.2 3 _ rfl).2
    exact Option.some.inj (h1.symm.trans h4)
  subst hc
  obtain ⟨ad1, al1, hE, hj, haj, hR1⟩ := zgrow hR hd hf (by rw [hsh]; decide) (by rw [hsh]; decide) (x := { cls := dA 23, slots := Array.replicate n.toNatClampNeg (defaultValue .char), vm := .none }) (fun ad1 h => by
    unfold zcell
    rw [if_neg (by rw [hsh]; decide), h, hsh, hN, arrV_new]
    rw [Array.getElem?_push, if_pos rfl]
    refine congrArg some (arrV_congr fun k _ => ?_)
    rw [zv_I (by unfold ztag; rw [hsh]; rfl)]
    simp [gI, nW, defaultValue])
  rw [← hj]
  exact kk ad1 al1 _ hE haj hR1
theorem z_anewH (X : zCx p s m args meth c cc nL own ret) (hr : cells + 1 ≤ R.cells ∧ slots + N ≤ R.slots) (hR : zSt D dA false ad0 al0 ad al w s H locs) {j : Nat} (hf : ¬ gI w 0 j = 1) (hsh : zsh j = 25) (hN : zln j = N) {n : Int32} (hn : ¬ n < 0) (hn2 : n.toNatClampNeg = N) (hby : N * 4 ≤ 536870912) (hcl : Cond.classLink own index "ForeignKnit$Hand" ∈ zG) (hdg : decode cc pc = .ok (.anewarray index, 3))
    (kk : ∀ (ad1 : Nat → Nat) (al1 : Nat → Prop) (H1 : Heap), zExt ad al ad1 al1 → al1 j → zSt D dA false ad0 al0 ad1 al1 (nW w j) s H1 locs → W p l e R s m args below meth c H1 locs (cells + 1) (slots + N) Q (F0 m (pc + 3) ls (.ref (ad1 j) :: rest))) : W p l e R s m args below meth c H locs cells slots Q (F0 m pc ls (.int n :: rest)) := by
  subst hn2
  refine W.anew X.1 X.2.1 X.2.2.2.1 (X.2.2.2.2.1 _ hcl) (va_AO.use hR.2.2.2.2.2.2.2.1) rfl hdg rfl hn hby hr.1 hr.2 (fun cA kA comp h1 h2 h3 h4 => ?_)
  have hc : cA = dA 25 := by
    obtain ⟨kA', comp', -, -, -, h5⟩ := (hR.1.1.2 5 _ rfl).2
    exact Option.some.inj (h1.symm.trans h5)
  subst hc
  obtain ⟨ad1, al1, hE, hj, haj, hR1⟩ := zgrow hR (fun h => by cases h) hf (by rw [hsh]; decide) (by rw [hsh]; decide) (x := { cls := dA 25, slots := Array.replicate n.toNatClampNeg .null, vm := .none }) (fun ad1 h => by
    unfold zcell
    rw [if_neg (by rw [hsh]; decide), h, hsh, hN, arrV_new]
    rw [Array.getElem?_push, if_pos rfl]
    refine congrArg some (arrV_congr fun k _ => ?_)
    rw [zv_R (by unfold ztag; rw [hsh]; rfl)]
    simp [gR, nW, zrf])
  rw [← hj]
  exact kk ad1 al1 _ hE haj hR1
theorem z_aast (X : zCx p s m args meth c cc nL own ret) (hR : zSt D dA false ad0 al0 ad al w s H locs) (hn : al n) (hsh : zsh n = 25) (hN : zln n = N) {i : Int32} {iN : Nat} (hi : i.toNatClampNeg = iN) (hin : vp_in i N) {r : Nat} (h0 : r ≠ 0) (hr : al r) (hrs : zsh r = 3) (hdg : decode cc pc = .ok (.aastore, 1))
    (kk : ∀ (H1 : Heap) (locs1 : List Loc), zSt D dA false ad0 al0 ad al (sR w n iN r) s H1 locs1 → W p l e R s m args below meth c H1 locs1 cells slots Q (F0 m (pc + 1) ls rest)) : W p l e R s m args below meth c H locs cells slots Q (F0 m pc ls (.ref (ad r) :: .int i :: .ref (ad n) :: rest)) := by
  subst hi
  have hlt : i.toNatClampNeg < N := Nat.not_le.mp fun q => hin (Or.inr q)
  have h0i : ¬ i < 0 := fun q => hin (Or.inl q)
  have hz := hR.1.2.1 r hr
  unfold zcell at hz
  rw [if_pos (by rw [hrs]; decide)] at hz
  obtain ⟨q, hq, cellV, g1, g2, g3, -⟩ := hz
  rw [hrs] at hq g2
  have hcls := (hR.1.1.1 3 q hq).2
  obtain ⟨kA, comp, k1, k2, k3, -⟩ := (hR.1.1.2 5 _ rfl).2
  have hcomp : comp = D.1 3 := by
    cases hq
    exact Option.some.inj (k3.symm.trans hcls.1)
  subst hcomp
  obtain ⟨kC, hkC, -⟩ := hcls.2
  refine W.aast X.1 X.2.1 (zarr hR hn hsh (by decide) hN) (fun q h => by cases h) (fun h => by cases h) k1 k2 rfl hkC ⟨h0i, by rw [arrV_size]; exact hlt⟩ g1 (fun q h => by rw [g3] at h; cases h) (by rw [g2]; exact hkC) (by rw [g2]; exact va_assign hcls) rfl rfl hdg fun H1 e1 e2 e3 => ?_
  have hu := zUp_R (md := false) (ad := ad) (al := al) (w := w) (n := n) (k := i.toNatClampNeg) (x := r) (by unfold ztag; rw [hsh]; rfl) (Or.inr ⟨hr, by rw [hrs]; unfold zdc; rw [hsh]; rfl⟩)
  rw [zrf_pos h0] at hu
  exact kk H1 _ (zarr_put hR hn hsh (by decide) hN hu e1 e2 e3)
/-- an int[][] and its rows, among the others -/
theorem zgrowM (hR : zSt D dA false ad0 al0 ad al w s H locs) {j : Nat} (hj0 : 0 < j) (hf : ∀ i, i ≤ N → ¬ gI w 0 (j + i) = 1) (hsh : zsh j = 24) (hN : zln j = N) (hrows : ∀ i, i < N → zsh (j + 1 + i) = 20) {H1 : Heap} (hz : H.size ≤ H1.size) (hq : ∀ q : Nat, q < H.size → H1[q]? = H[q]?) (h0 : H1[H.size]? = some (arrV (dA 24) N (fun i => va_rf (if i < N then some (H.size + 1 + i) else none)))) (hr : ∀ i, i < N → H1[H.size + 1 + i]? = some (arrV (dA 20) (zln (j + 1 + i)) fun _ => .int 0)) :
    ∃ (ad1 : Nat → Nat) (al1 : Nat → Prop), zExt ad al ad1 al1 ∧ ad1 j = H.size ∧ al1 j ∧ zSt D dA false ad0 al0 ad1 al1 (nM w j N) s H1 locs := by
  have hR0 := hR
  obtain ⟨⟨hK, hC, hI, hB, hW⟩, hRA, hRS, hEv⟩ := hR
  have hne : ∀ n, al n → ¬ (j ≤ n ∧ n ≤ j + N) := fun n hn hp => by
    have h1 := (hB.1 n).mp hn
    have h2 := hf (n - j) (by omega)
    rw [show j + (n - j) = n by omega] at h2
    exact h2 h1
  have h99 : ∀ n, al n → n ≠ 0 := fun n hn e => hB.2.2 n hn (by subst e; decide)
  have key := zgrow0 hR0 (P := fun n => j ≤ n ∧ n ≤ j + N) hne (ad1 := fun n => if j ≤ n ∧ n ≤ j + N then H.size + (n - j) else ad n) (fun n h => if_neg h) (w1 := nM w j N) (fun n k hn => by
      have e1 := hne n hn
      have en := h99 n hn
      exact ⟨by simp only [gI, nM, if_neg e1]; rw [if_neg (fun h => en h.1)], by simp only [gL, nM, if_neg e1], by simp only [gR, nM, if_neg e1]⟩) (H1 := H1) hq (fun n k hn hk ht h9 => by
      have h8 := (ztag_f (zst_dyn hk (hB.2.2 n hn)).1).2 ht
      have hk2 : k < zln n := by
        unfold zbd at hk
        rw [if_neg (by omega)] at hk
        exact hk
      refine hne _ (hB.2.1 n k hn h8 hk2) ?_
      have h7 : zst n k = n + 1 + k := by unfold zst; rw [h8]; rfl
      rw [← h7]
      exact h9)
  have hgh : ∀ n, gI (nM w j N) 0 n = if j ≤ n ∧ n ≤ j + N then 1 else gI w 0 n := fun n => by
    simp only [gI, nM]
    rw [if_neg (fun h => by omega)]
    by_cases e : j ≤ n ∧ n ≤ j + N
    · rw [if_pos ⟨trivial, e⟩, if_pos e]
    · rw [if_neg (fun h => e h.2), if_neg e]
  have hnew : ∀ n, (j ≤ n ∧ n ≤ j + N) → n = j ∨ (∃ i, i < N ∧ n = j + 1 + i) := fun n h => by
    by_cases e : n = j
    · exact Or.inl e
    · exact Or.inr ⟨n - j - 1, by omega, by omega⟩
  refine ⟨fun n => if j ≤ n ∧ n ≤ j + N then H.size + (n - j) else ad n, fun n => al n ∨ (j ≤ n ∧ n ≤ j + N), fun n hn => ⟨Or.inl hn, (key n hn).1⟩, ?_, Or.inr ⟨Nat.le_refl _, by omega⟩, ⟨hK, fun n hn => ?_, fun a b ha hb hab => ?_, ⟨fun n => ?_, fun n k hn hs hk => ?_, fun n hn => ?_⟩, fun n k hn ht => ?_⟩, fun n hn => ?_, ⟨Nat.le_trans hRS.1 hz, fun q h1 h2 => ?_, hRS.2.2⟩, hEv⟩
  · show (if j ≤ j ∧ j ≤ j + N then H.size + (j - j) else ad j) = H.size
    rw [if_pos ⟨Nat.le_refl _, by omega⟩]
    omega
  · rcases hn with hn | hn
    · exact (key n hn).2.1
    · rcases hnew n hn with rfl | ⟨i, hi, rfl⟩
      · unfold zcell
        rw [if_neg (by rw [hsh]; decide)]
        show H1[if n ≤ n ∧ n ≤ n + N then H.size + (n - n) else ad n]? = _
        rw [if_pos hn, Nat.sub_self, Nat.add_zero, h0, hsh, hN]
        refine congrArg some (arrV_congr fun k hk => ?_)
        rw [zv_S (by unfold ztag; rw [hsh]; rfl), if_pos hk]
        have h7 : zst n k = n + 1 + k := by unfold zst; rw [hsh]; rfl
        show Value.ref (H.size + 1 + k) = Value.ref (if n ≤ zst n k ∧ zst n k ≤ n + N then H.size + (zst n k - n) else ad (zst n k))
        rw [if_pos (⟨by omega, by omega⟩ : n ≤ zst n k ∧ zst n k ≤ n + N)]
        have h5 : H.size + 1 + k = H.size + (zst n k - n) := by omega
        rw [h5]
      · unfold zcell
        rw [if_neg (by rw [hrows i hi]; decide)]
        show H1[if j ≤ j + 1 + i ∧ j + 1 + i ≤ j + N then H.size + (j + 1 + i - j) else ad (j + 1 + i)]? = _
        rw [if_pos hn, show H.size + (j + 1 + i - j) = H.size + 1 + i by omega, hr i hi, hrows i hi]
        refine congrArg some (arrV_congr fun k hk => ?_)
        rw [zv_I (by unfold ztag; rw [hrows i hi]; rfl)]
        simp only [gI, nM]
        rw [if_pos hn]
  · dsimp only at hab
    rcases ha with ha | ha <;> rcases hb with hb | hb
    · rw [(key a ha).1, (key b hb).1] at hab
      exact hI a b ha hb hab
    · rw [(key a ha).1, if_pos hb] at hab
      have := (key a ha).2.2
      omega
    · rw [(key b hb).1, if_pos ha] at hab
      have := (key b hb).2.2
      omega
    · rw [if_pos ha, if_pos hb] at hab
      omega
  · show (al n ∨ (j ≤ n ∧ n ≤ j + N)) ↔ gI (nM w j N) 0 n = 1
    rw [hgh]
    by_cases e : j ≤ n ∧ n ≤ j + N
    · rw [if_pos e]
      exact ⟨fun _ => rfl, fun _ => Or.inr e⟩
    · rw [if_neg e]
      exact ⟨fun h => (hB.1 n).mp (h.resolve_right e), fun h => Or.inl ((hB.1 n).mpr h)⟩
  · rcases hn with hn | hn
    · exact Or.inl (hB.2.1 n k hn hs hk)
    · rcases hnew n hn with rfl | ⟨i, hi, rfl⟩
      · exact Or.inr ⟨by omega, by omega⟩
      · rw [hrows i hi] at hs
        exact absurd hs (by decide)
  · rcases hn with hn | hn
    · exact hB.2.2 n hn
    · rcases hnew n hn with rfl | ⟨i, hi, rfl⟩
      · rw [hsh]; decide
      · rw [hrows i hi]; decide
  · have e2 : gR (nM w j N) n k = if j ≤ n ∧ n ≤ j + N then 0 else gR w n k := rfl
    rw [e2]
    rcases hn with hn | hn
    · rw [if_neg (hne n hn)]
      rcases hW n k hn ht with h9 | h9
      · exact Or.inl h9
      · exact Or.inr ⟨Or.inl h9.1, h9.2⟩
    · rw [if_pos hn]
      exact Or.inl rfl
  · rcases hn with hn | hn
    · show zA ad0 al0 s.heap.size (if j ≤ n ∧ n ≤ j + N then H.size + (n - j) else ad n)
      rw [if_neg (hne n hn)]
      exact hRA n hn
    · show zA ad0 al0 s.heap.size (if j ≤ n ∧ n ≤ j + N then H.size + (n - j) else ad n)
      rw [if_pos hn]
      exact Or.inr (Nat.le_trans hRS.1 (Nat.le_add_right _ _))
  · rw [hq q (Nat.lt_of_lt_of_le h1 hRS.1)]
    exact hRS.2.1 q h1 h2
theorem zouter (c : ClassId) (N h0 : Nat) : ∀ i : Nat, Jvm.Free.Multi.outerC c N h0 i = arrV c N (fun j => va_rf (if j < i then some (h0 + 1 + j) else none))
  | 0 => by
    show ({ cls := c, slots := Array.replicate N .null, vm := .none } : Cell) = _
    rw [arrV_new]
    exact congrArg (arrV c N) (funext fun j => by simp [va_rf])
  | i + 1 => by
    show (Jvm.Free.Multi.outerC c N h0 i).setSlot i (.ref (h0 + 1 + i)) = _
    rw [zouter c N h0 i, arrV_store]
    refine congrArg (arrV c N) (funext fun j => ?_)
    by_cases e : j = i
    · subst e
      simp [updV, va_rf]
    · by_cases h : j < i
      · simp [updV, e, h, Nat.lt_succ_of_lt h]
      · simp [updV, e, h, show ¬ j < i + 1 by omega]
theorem z_mna (X : zCx p s m args meth c cc nL own ret) {M j : Nat} (hr : cells + (1 + N) ≤ R.cells ∧ slots + (N + N * M) ≤ R.slots) (hR : zSt D dA false ad0 al0 ad al w s H locs) (hj0 : 0 < j) (hf : ∀ i, i ≤ N → ¬ gI w 0 (j + i) = 1) (hsh : zsh j = 24) (hN : zln j = N) (hrows : ∀ i, i < N → zsh (j + 1 + i) = 20 ∧ zln (j + 1 + i) = M) {n k : Int32} (hn : ¬ n < 0) (hk : ¬ k < 0) (hn2 : n.toNatClampNeg = N) (hk2 : k.toNatClampNeg = M) (hb1 : N * 4 ≤ 536870912) (hb2 : M * 4 ≤ 536870912) (hcl : Cond.classLink own index "[[I" ∈ zG) (har : Cond.arrayClass .int ∈ zG) (hdg : decode cc pc = .ok (.multianewarray index 2, 4))
    (kk : ∀ (ad1 : Nat → Nat) (al1 : Nat → Prop) (H1 : Heap), zExt ad al ad1 al1 → al1 j → zSt D dA false ad0 al0 ad1 al1 (nM w j N) s H1 locs → W p l e R s m args below meth c H1 locs (cells + (1 + N)) (slots + (N + N * M)) Q (F0 m (pc + 4) ls (.ref (ad1 j) :: rest))) : W p l e R s m args below meth c H locs cells slots Q (F0 m pc ls (.int k :: .int n :: rest)) := by
  subst hn2
  subst hk2
  intro T hT Xs
  obtain ⟨vm₁, cA, comp, -, fA, fC, hO, -, X', step⟩ := Xs.multianewarray2F X.1 X.2.2.2.1 (by rw [zarrstr]; exact X.2.2.2.2.1 _ hcl) hR.2.2.2.2.2.2.2.2 (X.2.2.2.2.1 _ har) (g := F0 m pc ls (.int k :: .int n :: rest)) rfl (by rw [X.2.1]; exact hdg) rfl hn hk hb1 hb2 (by omega) rfl rfl hr.1 hr.2
  have hcA : cA = dA 24 := by
    have h4 : s.vm.findClass ("[" ++ (FieldType.array .int).toString) = some (dA 24) := (hR.1.1.2 4 _ rfl).2
    exact Option.some.inj (fA.symm.trans h4)
  have hcc : comp = dA 20 := by
    have h4 : s.vm.findClass ("[" ++ (FieldType.int).toString) = some (dA 20) := (hR.1.1.2 0 _ rfl).2
    exact Option.some.inj (fC.symm.trans h4)
  subst hcA
  subst hcc
  generalize hF : Jvm.Free.Multi.fill (T.setVm vm₁) (dA 24) (dA 20) n.toNatClampNeg k.toNatClampNeg (defaultValue .int) n.toNatClampNeg = F at X' step
  have hTh : (T.setVm vm₁).heap = H := hT
  obtain ⟨f1, f2, -, -⟩ := Jvm.Free.Multi.fill_facts (T.setVm vm₁) (dA 24) (dA 20) n.toNatClampNeg k.toNatClampNeg (defaultValue .int) n.toNatClampNeg
  rw [hF, hTh] at f1 f2
  rw [zouter] at f2
  obtain ⟨ad1, al1, hE, hj1, haj, hR1⟩ := zgrowM hR hj0 hf hsh hN (fun i hi => (hrows i hi).1) (H1 := F.heap) (by omega) (fun x hx => by
    have := Jvm.Free.Multi.fill_old (T.setVm vm₁) (dA 24) (dA 20) n.toNatClampNeg k.toNatClampNeg (defaultValue .int) (a := x) (by rw [hTh]; exact hx) n.toNatClampNeg
    rw [hF, hTh] at this
    exact this) f2 (fun i hi => by
    have := Jvm.Free.Multi.fill_inner (T.setVm vm₁) (dA 24) (dA 20) n.toNatClampNeg k.toNatClampNeg (defaultValue .int) n.toNatClampNeg i hi
    rw [hF, hTh] at this
    rw [this, (hrows i hi).2]
    refine congrArg some ?_
    show ({ cls := dA 20, slots := Array.replicate k.toNatClampNeg (defaultValue .int), vm := .none } : Cell) = _
    rw [arrV_new]
    rfl)
  have e1 : cells + 1 + n.toNatClampNeg = cells + (1 + n.toNatClampNeg) := by omega
  have e2 : slots + n.toNatClampNeg + n.toNatClampNeg * k.toNatClampNeg = slots + (n.toNatClampNeg + n.toNatClampNeg * k.toNatClampNeg) := by omega
  rw [e1, e2] at X'
  have h8 := kk ad1 al1 F.heap hE haj hR1
  rw [hj1] at h8
  obtain ⟨t, a1, b1⟩ := h8 F rfl X'
  rw [hT] at step
  exact ⟨t, step t a1, b1⟩
/-- a constructor by a link of its own -/
theorem z_callAIV (X : zCx p s m args meth c cc nL own ret) (hr : zRm R (fr1 + 1) (cells + mc) (slots + ms)) (hR : zSt D dA md ad0 al0 ad al w s H locs) (hl : Cond.methodLink own index y ∈ zG) (hyn : y.name = "<init>") (hc : Cond.code y bytes maxL none ∈ zG) (hi : Cond.instanceMethod y ∈ zG) (hini : Cond.initialized y.cls ∈ zG) (hd : y.cls ≠ "java/lang/invoke/MethodHandle" ∧ y.cls ≠ "java/lang/invoke/VarHandle") (hnp : (parseMethodDescriptor y.desc).map (fun d => d.parameters.length) = some np) (hm : maxL ≤ 41) {b : Nat} {K : zW → Prop} (hM : zmetAV l y bytes maxL none fr1 mc ms (.ref (ad b) :: As) D dA md ad al w K) (hn : As.length = np) {lv : List (Nat × Value)} (hsz : lv_has ls nL lv) (hst : (rest.map fun v => v.category).sum ≤ 8) (hdg : decode cc pc = .ok (.invokespecial index, 3)) (hstk : st = As.reverse ++ .ref (ad b) :: rest)
    (kk : ∀ (w1 : zW) (H1 : Heap) (locs1 : List Loc) (ad1 : Nat → Nat) (al1 : Nat → Prop), K w1 → zExt ad al ad1 al1 → zSt D dA md ad0 al0 ad1 al1 w1 s H1 locs1 → W p l e R s m args below meth c H1 locs1 (cells + mc) (slots + ms) Q (F0 m (pc + 3) ls rest)) : W p l e R s m args below meth c H locs cells slots Q (F0 m pc ls st) := by
  have hts := X.2.2.2.2.1
  have hrun := va_runI (e := e) (below := below) (meth := meth) (cells := cells) (slots := slots) (As := As) (rest := rest) (locs := locs) ⟨X.1, X.2.1, X.2.2.1, X.2.2.2.1, hts⟩ (hM H.size) (own := own) (n := np)
    ⟨zcallB X hr hc hini hd hnp hm hl, hyn, hts _ hi⟩
    (b := ad b) (H := H) ⟨zpreBlind, fun U hU hW => ⟨rfl, by rw [hU], by rw [hU]; exact hR.2.2.2.go hW hR.2.2.1.2.1 (zA_in hR.2.1 hR.2.2.1.1), by rw [hU]; exact hR.1.moved hW.alike⟩⟩ (g := F0 m pc ls st) rfl hn hsz.1 hstk (lv_room hst) hdg ⟨hr.2.2.1, hr.2.2.2⟩
  refine va_callv hrun hR.2.2.1 (fun q _ h => zA_in hR.2.1 hR.2.2.1.1 q h) (zA_in hR.2.1 hR.2.2.1.1) (fun u t H1 locs1 ht hvm hw hB hz hk hS1 => ?_)
  obtain ⟨ad1, al1, hE, hR1⟩ := zbackA hR ht hvm hB hS1
  exact kk u H1 locs1 ad1 al1 hw hE hR1
/-- a constructor's contract: it begins with md, and ends with md1 -/
def zmetCV (l : Launch) (y : MethodName) (bytes : ByteArray) (maxL : Nat) (ret : Option FieldType) (fr mc ms : Nat) (av : List Value) (D : va_G) (dA : Nat → ClassId) (md md1 : Bool) (ad : Nat → Nat) (al : Nat → Prop) (w : zW) (K : zW → Prop) : Prop :=
  ∀ sz : Nat, Met l y (Cond.code y bytes maxL ret :: zG) (zroom fr mc ms) (va_Pc av (zpre D dA md ad al w sz)) (va_Qv K (zBA D dA md1 ad al sz) (zA ad al sz)) mc ms (zA ad al sz)
theorem zmetCV_of {md1 : Bool} (hy : plainName y.cls = true) (hyn : y.name = "<init>") (hlen : (lg_sl As).length ≤ maxL) {K : zW → Prop}
    (body : ∀ (p : Program) (e : Env) (R : Room) (s : State) (m : MethodId) (below : List Frame) (meth : Method) (c : Code) (Q : State → Prop) (H : Heap) (ls : Array Slot) (args : Array Value) (locs : List Loc) (cells slots : Nat), zCx p s m args meth c bytes maxL y.cls none → zRm R fr (cells + mc) (slots + ms) → zRetAV p l e R s m args below meth c Q D dA md1 ad al bytes K → meth.name = "<init>" → zSt D dA md ad al ad al w s H locs → lv_has ls maxL (lv_args 0 As) →
      W p l e R s m args below meth c H locs cells slots Q (F0 m 0 ls [])) : zmetCV l y bytes maxL none fr mc ms As D dA md md1 ad al w K := by
  intro sz
  refine Met.ofW (cc := bytes) (maxL := maxL) (ret := none) hy rfl ?_
  intro p e s m args below meth c s₁ B hml hv
  obtain ⟨rfl, hsz, hEv, hRel⟩ := hv
  subst hsz
  have hx := B.exec
  have hb := B.bytes
  have hr := B.returns
  have hlk := B.notSynchronized
  have hts := atoms_spec (ws := Cond.code y bytes maxL none :: zG) B.pre
  have hl := lv_entry As (n := maxL) hlen
  rw [lg_entry_eq]
  generalize (lg_sl As ++ List.replicate (maxL - (lg_sl As).length) Slot.unset).toArray = ls at hl ⊢
  refine body p e _ s m below meth c _ s.heap ls _ [] 0 0 ⟨hx, hb, hml, findClass_of_methodNamed B.named, fun w hw => hts w (List.mem_cons_of_mem _ hw), hr, hlk⟩ ⟨Nat.le_refl _, Nat.le_refl _, Nat.le_of_eq (Nat.zero_add _), Nat.le_of_eq (Nat.zero_add _)⟩ (fun ad1 al1 cells1 slots1 w1 H1 locs1 ls1 pc1 hE hc hs hk hS hdg => ?_) ((name_of_methodNamed B.named B.method).1.trans hyn) (zhold0 hRel hEv) hl
  refine W.widen (k := mc) (n := ms) hc hs ?_
  exact W.vret hx hb hr (fun t ht hW => ⟨⟨w1, rfl, hk, zholdA hS hE ht hW⟩, hS.2.2.1.F ht⟩) hS.2.2.1.2.2 hdg hlk
/-- all is made: what the final references must lead to -/
def zMade (w : zW) : Prop := (∀ n, zfix n = true → gI w 0 n = 1) ∧ ∀ n k, zbd n k → zsh n ≠ 99 → ztag true n k = 2 → ztag false n k = 3 → gR w n k = zst n k ∧ gR w n k ≠ 0
theorem ztag_same {n k : Nat} (h : ztag true n k ≠ 2) : ztag false n k = ztag true n k := by
  unfold ztag ztg at h ⊢
  by_cases a : zsh n = 24
  · rw [if_pos a] at h
    exact absurd rfl h
  · rw [if_neg a] at h ⊢
    rw [if_neg a]
    by_cases b : zsh n = 21
    · rw [if_pos b, if_pos b]
    · rw [if_neg b] at h ⊢
      rw [if_neg b]
      by_cases c : zsh n = 25
      · rw [if_pos c] at h
        exact absurd rfl h
      · rw [if_neg c] at h ⊢
        rw [if_neg c]
        by_cases d : zsh n < 13
        · rw [if_pos d] at h ⊢
          rw [if_pos d]
          unfold ztgC at h ⊢
          by_cases f : (zTG.getD (zsh n) []).getD k 0 = 2
          · rw [if_pos f] at h
            exact absurd rfl h
          · rw [if_neg f, if_neg f]
        · rw [if_neg d, if_neg d]
theorem zSt.made (hR : zSt D dA false ad0 al0 ad al w s H locs) (hm : zMade w) : zSt D dA true ad0 al0 ad al w s H locs := by
  obtain ⟨⟨hK, hC, hI, hB, hW⟩, hRA, hRS, hEv⟩ := hR
  obtain ⟨m1, m2⟩ := hm
  have hzv : ∀ n, al n → ∀ k, zbd n k → zv true ad w n k = zv false ad w n k := fun n hn k hk => by
    have h99 := hB.2.2 n hn
    by_cases t2 : ztag true n k = 2
    · have h3 := ztag_f (zst_dyn hk h99).1
      by_cases f2 : ztag false n k = 2
      · rw [zv_S t2, zv_S f2]
      · by_cases f3 : ztag false n k = 3
        · obtain ⟨g1, g2⟩ := m2 n k hk h99 t2 f3
          rw [zv_S t2, zv_R f3, zrf_pos g2, g1]
        · exfalso
          have h24 : zsh n ≠ 24 := fun e => f2 (by unfold ztag ztg; rw [if_pos e])
          unfold ztag ztg at t2 f3
          rw [if_neg h24] at t2 f3
          by_cases b : zsh n = 21
          · rw [if_pos b] at t2; cases t2
          · rw [if_neg b] at t2 f3
            by_cases c : zsh n = 25
            · rw [if_pos c] at f3; exact f3 rfl
            · rw [if_neg c] at t2 f3
              by_cases d : zsh n < 13
              · rw [if_pos d] at t2 f3
                unfold ztgC at t2 f3
                by_cases f : (zTG.getD (zsh n) []).getD k 0 = 2
                · rw [if_pos f] at f3; exact f3 rfl
                · rw [if_neg f] at t2; exact f t2
              · rw [if_neg d] at t2; cases t2
    · have e := ztag_same t2
      unfold zv
      rw [e]
  refine ⟨⟨hK, fun n hn => ?_, hI, ⟨fun n => ?_, hB.2⟩, fun n k hn ht => hW n k hn ?_⟩, hRA, hRS, hEv⟩
  · have h := hC n hn
    unfold zcell at h ⊢
    by_cases hl : zsh n < 20
    · rw [if_pos hl] at h ⊢
      obtain ⟨r, h1, h2⟩ := h
      exact ⟨r, h1, h2.to (fun k hk => (hzv n hn k (by unfold zbd; rw [if_pos hl]; exact Nat.lt_of_lt_of_le hk (zcl_43 h1))).symm)⟩
    · rw [if_neg hl] at h ⊢
      rw [h]
      exact congrArg some (arrV_congr fun k hk => (hzv n hn k (by unfold zbd; rw [if_neg hl]; exact hk)).symm)
  · have h1 := hB.1 n
    rw [h1]
    show gI w 0 n = 1 ↔ (zfix n = true ∨ (zdyn n = true ∧ gI w 0 n = 1))
    refine ⟨fun h => ?_, fun h => h.elim (m1 n) And.right⟩
    have h99 := hB.2.2 n (h1.mpr h)
    unfold zfix
    by_cases hd : zdyn n = true
    · exact Or.inr ⟨hd, h⟩
    · refine Or.inl ?_
      unfold zdyn at hd
      rw [Bool.or_eq_true] at hd
      rw [show Nat.ble 300 n = false from Bool.eq_false_iff.mpr (fun q => hd (Or.inl q)), show [140, 141, 142, 150].contains n = false from Bool.eq_false_iff.mpr (fun q => hd (Or.inr q))]
      simp only [Bool.not_false, Bool.true_and, Bool.and_true, bne_iff_ne, ne_eq]
      exact h99
  · by_cases t2 : ztag true n k = 2
    · rw [t2] at ht; cases ht
    · rw [ztag_same t2]; exact ht
end ZMAKE
theorem zn_391 : Cond.methodLinkNest RX11 391 yX2_init RX11 ∈ zNest := List.mem_of_getElem? (i := 0) rfl
theorem zn_42 : Cond.methodLinkNest RX11 42 yX6_init RX11 ∈ zNest := List.mem_of_getElem? (i := 1) rfl
theorem zn_49 : Cond.methodLinkNest RX11 49 yX8_init RX11 ∈ zNest := List.mem_of_getElem? (i := 2) rfl
theorem zn_56 : Cond.methodLinkNest RX11 56 yX9_init RX11 ∈ zNest := List.mem_of_getElem? (i := 3) rfl
theorem zn_63 : Cond.methodLinkNest RX11 63 yX4_init RX11 ∈ zNest := List.mem_of_getElem? (i := 4) rfl
theorem zn_80 : Cond.methodLinkNest RX11 80 yX5_init RX11 ∈ zNest := List.mem_of_getElem? (i := 5) rfl
theorem zn_9 : Cond.methodLinkNest RX11 9 yX10_init RX11 ∈ zNest := List.mem_of_getElem? (i := 6) rfl

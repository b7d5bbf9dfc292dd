/-! The walk over the abstract world: rows of my own over the kit's. zW: what the cells hold (ints, longs, references by number); zSt: the heap holds it, at addresses ad, for the cells al. -/
abbrev zW : Type := (Nat → Nat → Int32) × (Nat → Nat → Int64) × (Nat → Nat → Nat)
def gI (w : zW) (n k : Nat) : Int32 := w.1 n k
def gL (w : zW) (n k : Nat) : Int64 := w.2.1 n k
def gR (w : zW) (n k : Nat) : Nat := w.2.2 n k
def sI (w : zW) (n k : Nat) (x : Int32) : zW := (fun a b => if a = n ∧ b = k then x else w.1 a b, w.2)
def sL (w : zW) (n k : Nat) (x : Int64) : zW := (w.1, fun a b => if a = n ∧ b = k then x else w.2.1 a b, w.2.2)
def sR (w : zW) (n k : Nat) (x : Nat) : zW := (w.1, w.2.1, fun a b => if a = n ∧ b = k then x else w.2.2 a b)
def zrf (ad : Nat → Nat) (r : Nat) : Value := if r = 0 then .null else .ref (ad r)
def zv (md : Bool) (ad : Nat → Nat) (w : zW) (n k : Nat) : Value :=
  if ztag md n k = 0 then .int (gI w n k) else if ztag md n k = 1 then .long (gL w n k) else if ztag md n k = 2 then .ref (ad (zst n k)) else zrf ad (gR w n k)
noncomputable def zG : List Cond := wsL_law0
def zK (D : va_G) (dA : Nat → ClassId) (s : State) : Prop := va_K D vwCl [(dA 20, .int), (dA 21, .long), (dA 22, .boolean), (dA 23, .char), (dA 24, .array .int), (dA 25, .object "ForeignKnit$Hand")] s
def zcell (D : va_G) (dA : Nat → ClassId) (md : Bool) (ad : Nat → Nat) (w : zW) (n : Nat) (H : Heap) : Prop :=
  if zsh n < 20 then ∃ r : vw_C, vwCl[zsh n]? = some r ∧ t_OB (ad n) (D.1 (zsh n)) r.2.2 (D.2 (zsh n)) H (fun k => zv md ad w n k)
  else H[ad n]? = some (arrV (dA (zsh n)) (zln n) (fun k => zv md ad w n k))
def zwt (md : Bool) (al : Nat → Prop) (w : zW) : Prop := ∀ n k, al n → ztag md n k = 3 → gR w n k = 0 ∨ (al (gR w n k) ∧ zsh (gR w n k) = zdc n k)
/-- the cells that come later: which of them are there is told in the cell 0 of the abstract world -/
def zdyn (n : Nat) : Bool := Nat.ble 300 n || [140, 141, 142, 150].contains n
theorem zsh_big {n : Nat} (h : 300 ≤ n) : zsh n = 20 := by
  unfold zsh
  rw [Nat.ble_eq_true_of_le h]
  rfl
theorem zln_big {n : Nat} (h : 300 ≤ n) : zln n = (n - 300) / 3 := by
  unfold zln
  rw [Nat.ble_eq_true_of_le h]
  rfl
theorem zsh_sm {n : Nat} (h : ¬ 300 ≤ n) : zsh n = zshL.getD n 99 := by
  unfold zsh
  rw [show Nat.ble 300 n = false from Bool.eq_false_iff.mpr (fun q => h (Nat.le_of_ble_eq_true q))]
  rfl
theorem zbg_sh (n q : Nat) : zsh (300 + 3 * n + q) = 20 := zsh_big (by omega)
theorem zbg_ln (n : Nat) {q : Nat} (h : q < 3) : zln (300 + 3 * n + q) = n := by
  rw [zln_big (by omega)]
  omega
theorem zbg_dyn (n q : Nat) : zdyn (300 + 3 * n + q) = true ∧ zfix (300 + 3 * n + q) = false := by
  have h : Nat.ble 300 (300 + 3 * n + q) = true := Nat.ble_eq_true_of_le (by omega)
  refine ⟨?_, ?_⟩
  · unfold zdyn
    rw [h]
    rfl
  · unfold zfix
    rw [h]
    rfl
theorem zne0 {n ci : Nat} (h : zsh n = ci) (hc : ci ≠ 99) : n ≠ 0 := by
  intro e
  subst e
  exact hc (h.symm.trans (by decide))
/-- which cells are there: told in the cell 0, but for those that stand once all is made -/
def zgh (md : Bool) (w : zW) (n : Nat) : Prop := match md with
  | true => zfix n = true ∨ (zdyn n = true ∧ gI w 0 n = 1)
  | false => gI w 0 n = 1
theorem zgh_eq {md : Bool} {w w1 : zW} (h : ∀ j, gI w1 0 j = gI w 0 j) (n : Nat) : zgh md w1 n ↔ zgh md w n := by
  cases md <;> simp only [zgh, h]
def zRel (D : va_G) (dA : Nat → ClassId) (md : Bool) (ad : Nat → Nat) (al : Nat → Prop) (w : zW) (s : State) (H : Heap) : Prop :=
  zK D dA s ∧ (∀ n, al n → zcell D dA md ad w n H) ∧ (∀ n m, al n → al m → ad n = ad m → n = m) ∧ ((∀ n, al n ↔ zgh md w n) ∧ (∀ n k, al n → zsh n = 24 → k < zln n → al (n + 1 + k)) ∧ ∀ n, al n → zsh n ≠ 99) ∧ zwt md al w
def zA (ad0 : Nat → Nat) (al0 : Nat → Prop) (sz : Nat) : Nat → Prop := fun q => (∃ n, al0 n ∧ ad0 n = q) ∨ sz ≤ q
def zNest : List Cond := [.methodLinkNest RX11 391 yX2_init RX11, .methodLinkNest RX11 42 yX6_init RX11, .methodLinkNest RX11 49 yX8_init RX11, .methodLinkNest RX11 56 yX9_init RX11, .methodLinkNest RX11 63 yX4_init RX11, .methodLinkNest RX11 80 yX5_init RX11, .methodLinkNest RX11 9 yX10_init RX11]
def zTx (i : Nat) : String := if i = 0 then "()<=+-*;" else if i = 1 then "word    casts   row     after   is      rules   guess   forget  tell    drop    any     even    grows   less    not     and     or      takes   leaves  uses    which   " else "none such"
def zByt : List (List Int32) := (List.range 3).map fun i => (zTx i).toList.map fun c => Int32.ofNat c.toNat
def zLen : List Nat := zByt.map List.length
/-- arrays of int[] are known -/
def zAOA (U : State) : Prop := (Cond.arrayOver (.array .int)).before #[] U = true
theorem zAOA.moved {u U : State} (hvm : u.vm.Alike U.vm) (h : zAOA u) : zAOA U := Jvm.Stand.arrayOver_alikeB hvm h
/-- what a method finds beside its cells: the nest's words, the String constants (at dA 100 .., their bytes at dA 110 ..), two statics of the JDK -/
def zEnv (dA : Nat → ClassId) (A : Nat → Prop) (U : State) (H : Heap) : Prop :=
  (∀ w ∈ zNest, va_Nw w U) ∧ (vk_S 3 zLen zByt (fun i => dA (100 + i)) (fun i => dA (110 + i)) A U H ∧ vk_R RX10 59 (zTx 0) (dA (100 + 0)) U ∧ vk_R RX10 67 (zTx 1) (dA (100 + 1)) U ∧ vk_R RX11 314 (zTx 2) (dA (100 + 2)) U) ∧ va_Z "java/lang/String" "COMPACT_STRINGS" "Z" (.int 1) A U H ∧ va_Zq "jdk/internal/util/Preconditions" "SIOOBE_FORMATTER" "Ljava/util/function/BiFunction;" A U H ∧ va_AO "ForeignKnit$Hand" U ∧ zAOA U
theorem zNest_warm {s U : State} (hW : s.WarmedH U.vm) (h : ∀ w ∈ zNest, va_Nw w s) : ∀ w ∈ zNest, va_Nw w U := by
  intro w hw
  have h1 := h w hw
  simp only [zNest, List.mem_cons, List.not_mem_nil, or_false] at hw
  rcases hw with rfl | rfl | rfl | rfl | rfl | rfl | rfl <;> exact va_Nw.warmM hW h1
theorem zNest_same {s U : State} (hv : s.vm = U.vm) (h : ∀ w ∈ zNest, va_Nw w s) : ∀ w ∈ zNest, va_Nw w U := by
  intro w hw
  have h1 := h w hw
  simp only [zNest, List.mem_cons, List.not_mem_nil, or_false] at hw
  rcases hw with rfl | rfl | rfl | rfl | rfl | rfl | rfl <;> exact va_Nw.same rfl hv h1
/-- at a call: the tables warmer, the heap moved within A, the callee's part within A -/
theorem zEnv.go {A B : Nat → Prop} {s U : State} {H H1 : Heap} {dA : Nat → ClassId} (h : zEnv dA A s H) (hW : s.WarmedH U.vm) (hq : ∀ a : Nat, a < H.size → ¬ A a → H1[a]? = H[a]?) (hAB : ∀ q, B q → A q) : zEnv dA B U H1 := by
  obtain ⟨h1, ⟨h2, h3, h4, h5⟩, h6, h7, h8, h9⟩ := h
  exact ⟨zNest_warm hW h1, ⟨((h2.moved hW.alike).kept hq).narrow hAB, h3.warm hW, h4.warm hW, h5.warm hW⟩, ((h6.moved hW.alike).kept hq).narrow hAB, ((h7.moved hW.alike).kept hq).narrow hAB, h8.moved hW.alike, h9.moved hW.alike⟩
theorem zEnv.same {dA : Nat → ClassId} {A : Nat → Prop} {s U : State} {H : Heap} (h : zEnv dA A s H) (hv : s.vm = U.vm) : zEnv dA A U H := by
  obtain ⟨h1, ⟨h2, h3, h4, h5⟩, h6, h7, h8, h9⟩ := h
  have hA : s.vm.Alike U.vm := by rw [hv]; exact Vm.Alike.refl _
  exact ⟨zNest_same hv h1, ⟨h2.moved hA, h3.same hv.symm, h4.same hv.symm, h5.same hv.symm⟩, h6.moved hA, h7.moved hA, h8.moved hA, h9.moved hA⟩
def zSt (D : va_G) (dA : Nat → ClassId) (md : Bool) (ad0 : Nat → Nat) (al0 : Nat → Prop) (ad : Nat → Nat) (al : Nat → Prop) (w : zW) (s : State) (H : Heap) (locs : List Loc) : Prop :=
  zRel D dA md ad al w s H ∧ (∀ n, al n → zA ad0 al0 s.heap.size (ad n)) ∧ va_S (zA ad0 al0 s.heap.size) s.heap H locs ∧ zEnv dA (zA ad0 al0 s.heap.size) s s.heap
def zCx (p : Program) (s : State) (m : MethodId) (args : Array Value) (meth : Method) (c : Code) (cc : ByteArray) (nL : Nat) (own : String) (ret : Option FieldType) : Prop :=
  p.tables.exec = Jvm.exec ∧ c.code = cc ∧ c.maxLocals = nL ∧ s.vm.findClass own = some m.cls ∧ (∀ w ∈ zG, w.before args s = true) ∧ meth.sig.returnType = ret ∧ meth.locks = false
/-- a field's link in the tables -/
def zFd (own : String) (index ci k : Nat) : Prop := ∃ q : vw_C, vwCl[ci]? = some q ∧ k < q.2.2 ∧ Cond.fieldLink own index (q.2.1 k).1 (q.2.1 k).2.1 (q.2.1 k).2.2.1 ∈ zG
/-- the same of a field that isn't final, of a type -/
def zFp (own : String) (index ci k : Nat) (ty : FieldType) : Prop := ∃ q : vw_C, vwCl[ci]? = some q ∧ k < q.2.2 ∧ Cond.fieldLink own index (q.2.1 k).1 (q.2.1 k).2.1 (q.2.1 k).2.2.1 ∈ zG ∧ (q.2.1 k).2.2.2 = false ∧ parseFieldDescriptor (q.2.1 k).2.2.1 = some ty
theorem zFp.fd {own : String} {index ci k : Nat} {ty : FieldType} (h : zFp own index ci k ty) : zFd own index ci k := by
  obtain ⟨q, h1, h2, h3, -⟩ := h
  exact ⟨q, h1, h2, h3⟩
def zcl (q : vw_C) : Prop := (∀ x ∈ u_ws q.1 q.2.1 q.2.2, x ∈ zG) ∧ (∃ ty : Nat → FieldType, ∀ k, k < q.2.2 → parseFieldDescriptor (q.2.1 k).2.2.1 = some (ty k)) ∧ (∀ a, a < q.2.2 → ∀ b, b < q.2.2 → a ≠ b → (q.2.1 a).2.1 ≠ (q.2.1 b).2.1)
theorem zcl0 : zcl (RX0, TX0, 13) := ⟨fun x hx => by unfold zG wsL_law0; exact List.mem_append_left _ (List.mem_append_left _ (List.mem_append_left _ (List.mem_append_left _ (List.mem_append_right _ hx)))), ⟨tyX0, tyX0_ok⟩, nmX0⟩
theorem zcl1 : zcl (RX1, TX1, 6) := ⟨fun x hx => by unfold zG wsL_law0; exact List.mem_append_left _ (List.mem_append_left _ (List.mem_append_left _ (List.mem_append_left _ (List.mem_append_left _ (List.mem_append_left _ (List.mem_append_left _ (List.mem_append_left _ (List.mem_append_left _ (List.mem_append_left _ (List.mem_append_right _ hx)))))))))), ⟨tyX1, tyX1_ok⟩, nmX1⟩
theorem zcl2 : zcl (RX2, TX2, 2) := ⟨fun x hx => by unfold zG wsL_law0; exact List.mem_append_left _ (List.mem_append_right _ hx), ⟨tyX2, tyX2_ok⟩, nmX2⟩
theorem zcl3 : zcl (RX3, TX3, 1) := ⟨fun x hx => by unfold zG wsL_law0; exact List.mem_append_left _ (List.mem_append_left _ (List.mem_append_left _ (List.mem_append_left _ (List.mem_append_left _ (List.mem_append_left _ (List.mem_append_left _ (List.mem_append_left _ (List.mem_append_left _ (List.mem_append_right _ hx))))))))), ⟨tyX3, tyX3_ok⟩, nmX3⟩
theorem zcl4 : zcl (RX4, TX4, 8) := ⟨fun x hx => by unfold zG wsL_law0; exact List.mem_append_left _ (List.mem_append_left _ (List.mem_append_left _ (List.mem_append_left _ (List.mem_append_left _ (List.mem_append_right _ hx))))), ⟨tyX4, tyX4_ok⟩, nmX4⟩
theorem zcl5 : zcl (RX5, TX5, 11) := ⟨fun x hx => by unfold zG wsL_law0; exact List.mem_append_left _ (List.mem_append_left _ (List.mem_append_left _ (List.mem_append_right _ hx))), ⟨tyX5, tyX5_ok⟩, nmX5⟩
theorem zcl6 : zcl (RX6, TX6, 3) := ⟨fun x hx => by unfold zG wsL_law0; exact List.mem_append_left _ (List.mem_append_left _ (List.mem_append_left _ (List.mem_append_left _ (List.mem_append_left _ (List.mem_append_left _ (List.mem_append_left _ (List.mem_append_left _ (List.mem_append_right _ hx)))))))), ⟨tyX6, tyX6_ok⟩, nmX6⟩
theorem zcl7 : zcl (RX7, TX7, 4) := ⟨fun x hx => by unfold zG wsL_law0; exact List.mem_append_left _ (List.mem_append_left _ (List.mem_append_right _ hx)), ⟨tyX7, tyX7_ok⟩, nmX7⟩
theorem zcl8 : zcl (RX8, TX8, 10) := ⟨fun x hx => by unfold zG wsL_law0; exact List.mem_append_left _ (List.mem_append_left _ (List.mem_append_left _ (List.mem_append_left _ (List.mem_append_left _ (List.mem_append_left _ (List.mem_append_left _ (List.mem_append_right _ hx))))))), ⟨tyX8, tyX8_ok⟩, nmX8⟩
theorem zcl9 : zcl (RX9, TX9, 1) := ⟨fun x hx => by unfold zG wsL_law0; exact List.mem_append_left _ (List.mem_append_left _ (List.mem_append_left _ (List.mem_append_left _ (List.mem_append_left _ (List.mem_append_left _ (List.mem_append_right _ hx)))))), ⟨tyX9, tyX9_ok⟩, nmX9⟩
theorem zcl10 : zcl (RX10, TX10, 10) := ⟨fun x hx => by unfold zG wsL_law0; exact List.mem_append_left _ (List.mem_append_left _ (List.mem_append_left _ (List.mem_append_left _ (List.mem_append_left _ (List.mem_append_left _ (List.mem_append_left _ (List.mem_append_left _ (List.mem_append_left _ (List.mem_append_left _ (List.mem_append_left _ (List.mem_append_right _ hx))))))))))), ⟨tyX10, tyX10_ok⟩, nmX10⟩
theorem zcl11 : zcl (RX11, TX11, 14) := ⟨fun x hx => by unfold zG wsL_law0; exact List.mem_append_left _ (List.mem_append_left _ (List.mem_append_left _ (List.mem_append_left _ (List.mem_append_left _ (List.mem_append_left _ (List.mem_append_left _ (List.mem_append_left _ (List.mem_append_left _ (List.mem_append_left _ (List.mem_append_left _ (List.mem_append_left _ (List.mem_append_left _ (List.mem_append_right _ hx))))))))))))), ⟨tyX11, tyX11_ok⟩, nmX11⟩
theorem zcl12 : zcl (RX12, TX12, 43) := ⟨fun x hx => by unfold zG wsL_law0; exact List.mem_append_left _ (List.mem_append_left _ (List.mem_append_left _ (List.mem_append_left _ (List.mem_append_left _ (List.mem_append_left _ (List.mem_append_left _ (List.mem_append_left _ (List.mem_append_left _ (List.mem_append_left _ (List.mem_append_left _ (List.mem_append_left _ (List.mem_append_right _ hx)))))))))))), ⟨tyX12, tyX12_ok⟩, nmX12⟩
theorem zcls {ci : Nat} {q : vw_C} (h : vwCl[ci]? = some q) : zcl q := by
  match ci, h with
  | 0, h => cases h; exact zcl0
  | 1, h => cases h; exact zcl1
  | 2, h => cases h; exact zcl2
  | 3, h => cases h; exact zcl3
  | 4, h => cases h; exact zcl4
  | 5, h => cases h; exact zcl5
  | 6, h => cases h; exact zcl6
  | 7, h => cases h; exact zcl7
  | 8, h => cases h; exact zcl8
  | 9, h => cases h; exact zcl9
  | 10, h => cases h; exact zcl10
  | 11, h => cases h; exact zcl11
  | 12, h => cases h; exact zcl12
  | k + 13, h => exact absurd h (by simp [vwCl])
theorem zrf_pos {ad : Nat → Nat} {r : Nat} (h : r ≠ 0) : zrf ad r = .ref (ad r) := if_neg h
theorem zv_I {md : Bool} {ad : Nat → Nat} {w : zW} {n k : Nat} (h : ztag md n k = 0) : zv md ad w n k = .int (gI w n k) := by unfold zv; rw [if_pos h]
theorem zv_L {md : Bool} {ad : Nat → Nat} {w : zW} {n k : Nat} (h : ztag md n k = 1) : zv md ad w n k = .long (gL w n k) := by unfold zv; rw [if_neg (by omega), if_pos h]
theorem zv_S {md : Bool} {ad : Nat → Nat} {w : zW} {n k : Nat} (h : ztag md n k = 2) : zv md ad w n k = .ref (ad (zst n k)) := by unfold zv; rw [if_neg (by omega), if_neg (by omega), if_pos h]
theorem zv_R {md : Bool} {ad : Nat → Nat} {w : zW} {n k : Nat} (h : ztag md n k = 3) : zv md ad w n k = zrf ad (gR w n k) := by unfold zv; rw [if_neg (by omega), if_neg (by omega), if_neg (by omega)]
/-- w1 is w but for one slot, that holds v -/
def zUp (md : Bool) (ad : Nat → Nat) (al : Nat → Prop) (w w1 : zW) (n k : Nat) (v : Value) : Prop := (∀ n' k', zv md ad w1 n' k' = if n' = n ∧ k' = k then v else zv md ad w n' k') ∧ (zwt md al w → zwt md al w1) ∧ ∀ j, gI w1 0 j = gI w 0 j
theorem zUp_I {md : Bool} {ad : Nat → Nat} {al : Nat → Prop} {w : zW} {n k : Nat} {x : Int32} (h0 : n ≠ 0) (h : ztag md n k = 0) : zUp md ad al w (sI w n k x) n k (.int x) := by
  refine ⟨fun n' k' => ?_, fun h => h, fun j => by simp [gI, sI, Ne.symm h0]⟩
  by_cases e : n' = n ∧ k' = k
  · obtain ⟨rfl, rfl⟩ := e
    rw [zv_I h, if_pos ⟨rfl, rfl⟩]
    simp [gI, sI]
  · rw [if_neg e]
    unfold zv
    simp [gI, gL, gR, sI, e]
theorem zUp_L {md : Bool} {ad : Nat → Nat} {al : Nat → Prop} {w : zW} {n k : Nat} {x : Int64} (h : ztag md n k = 1) : zUp md ad al w (sL w n k x) n k (.long x) := by
  refine ⟨fun n' k' => ?_, fun h => h, fun j => rfl⟩
  by_cases e : n' = n ∧ k' = k
  · obtain ⟨rfl, rfl⟩ := e
    rw [zv_L h, if_pos ⟨rfl, rfl⟩]
    simp [gL, sL]
  · rw [if_neg e]
    unfold zv
    simp [gI, gL, gR, sL, e]
theorem zUp_R {md : Bool} {ad : Nat → Nat} {al : Nat → Prop} {w : zW} {n k x : Nat} (h : ztag md n k = 3) (hx : x = 0 ∨ (al x ∧ zsh x = zdc n k)) : zUp md ad al w (sR w n k x) n k (zrf ad x) := by
  refine ⟨fun n' k' => ?_, fun hw n' k' ha ht => ?_, fun j => rfl⟩
  · by_cases e : n' = n ∧ k' = k
    · obtain ⟨rfl, rfl⟩ := e
      rw [zv_R h, if_pos ⟨rfl, rfl⟩]
      simp [gR, sR]
    · rw [if_neg e]
      unfold zv
      simp [gI, gL, gR, sR, e]
  · by_cases e : n' = n ∧ k' = k
    · obtain ⟨rfl, rfl⟩ := e
      simpa [gR, sR] using hx
    · have := hw n' k' ha ht
      simpa [gR, sR, e] using this
/-- the places of a cell that count -/
def zbd (n k : Nat) : Prop := if zsh n < 20 then k < 43 else k < zln n
theorem zcl_43 {ci : Nat} {q : vw_C} (h : vwCl[ci]? = some q) : q.2.2 ≤ 43 := by
  have h1 : ∀ ci, ci < 13 → ∀ q : vw_C, vwCl[ci]? = some q → q.2.2 ≤ 43 := by
    intro ci hci q hq
    match ci, hci, hq with
    | 0, _, hq | 1, _, hq | 2, _, hq | 3, _, hq | 4, _, hq | 5, _, hq | 6, _, hq | 7, _, hq | 8, _, hq | 9, _, hq | 10, _, hq | 11, _, hq | 12, _, hq => cases hq; decide
  exact h1 ci (List.getElem?_eq_some_iff.mp h).1 q h
theorem arrV_congr {c : ClassId} {N : Nat} {f g : Nat → Value} (h : ∀ k, k < N → f k = g k) : arrV c N f = arrV c N g := by
  unfold arrV
  congr 1
  apply Array.ext
  · simp
  · intro k h1 h2
    simp only [Array.getElem_ofFn]
    exact h k (by simpa using h1)
theorem zcell.to {D : va_G} {dA : Nat → ClassId} {md : Bool} {ad ad1 : Nat → Nat} {w w1 : zW} {n : Nat} {H H1 : Heap} (h : zcell D dA md ad w n H) (ha : ad1 n = ad n) (hq : H1[ad n]? = H[ad n]?) (hz : ∀ k, zbd n k → zv md ad1 w1 n k = zv md ad w n k) : zcell D dA md ad1 w1 n H1 := by
  unfold zcell at h ⊢
  by_cases hl : zsh n < 20
  · rw [if_pos hl] at h ⊢
    obtain ⟨r, h1, h2⟩ := h
    rw [ha]
    exact ⟨r, h1, (h2.kept hq).to (fun k hk => (hz k (by unfold zbd; rw [if_pos hl]; exact Nat.lt_of_lt_of_le hk (zcl_43 h1))).symm)⟩
  · rw [if_neg hl] at h ⊢
    rw [ha, hq, h]
    exact congrArg some (arrV_congr fun k hk => (hz k (by unfold zbd; rw [if_neg hl]; exact hk)).symm)
theorem zRel.put {D : va_G} {dA : Nat → ClassId} {md : Bool} {ad : Nat → Nat} {al : Nat → Prop} {w w1 : zW} {s : State} {H H1 : Heap} {n k : Nat} {v : Value} (h : zRel D dA md ad al w s H) (hn : al n) (hu : zUp md ad al w w1 n k v) (hc : zcell D dA md ad w1 n H1) (oq : ∀ q : Nat, q ≠ ad n → H1[q]? = H[q]?) : zRel D dA md ad al w1 s H1 := by
  obtain ⟨hK, hC, hI, hB, hW⟩ := h
  refine ⟨hK, fun n' hn' => ?_, hI, ⟨fun n' => (hB.1 n').trans (zgh_eq hu.2.2 n').symm, hB.2⟩, hu.2.1 hW⟩
  by_cases e : n' = n
  · subst e; exact hc
  · exact (hC n' hn').to rfl (oq (ad n') (fun z => e (hI n' n hn' hn z))) (fun k' _ => by rw [hu.1]; exact if_neg (fun z => e z.1))
theorem zRel.moved {D : va_G} {dA : Nat → ClassId} {md : Bool} {ad : Nat → Nat} {al : Nat → Prop} {w : zW} {u U : State} {H : Heap} (hvm : u.vm.Alike U.vm) (h : zRel D dA md ad al w u H) : zRel D dA md ad al w U H := ⟨va_K.moved hvm h.1, h.2⟩
theorem z_i32rem (x y : Int32) : x - x / y * y = x % y := by
  rw [← Int32.toInt_inj, Int32.toInt_sub, Int32.toInt_mul, Int32.toInt_div]
  have h1 : (x % y).toInt = (x.toInt.tmod y.toInt).bmod (2 ^ 32) := by
    have ha := Int32.toInt_lt (x % y)
    have hb := Int32.le_toInt (x % y)
    rw [← Int32.toInt_mod]
    exact (Int.bmod_eq_of_le (by omega) (by omega)).symm
  rw [h1, Int.tmod_def, Int.mul_comm y.toInt]
  rw [Int.sub_bmod_bmod, Int.sub_bmod, Int.bmod_mul_bmod, ← Int.sub_bmod]
theorem z_i64rem (x y : Int64) : x - x / y * y = x % y := by
  rw [← Int64.toInt_inj, Int64.toInt_sub, Int64.toInt_mul, Int64.toInt_div]
  have h1 : (x % y).toInt = (x.toInt.tmod y.toInt).bmod (2 ^ 64) := by
    have ha := Int64.toInt_lt (x % y)
    have hb := Int64.le_toInt (x % y)
    rw [← Int64.toInt_mod]
    exact (Int.bmod_eq_of_le (by omega) (by omega)).symm
  rw [h1, Int.tmod_def, Int.mul_comm y.toInt]
  rw [Int.sub_bmod_bmod, Int.sub_bmod, Int.bmod_mul_bmod, ← Int.sub_bmod]
section ZROWS
variable {p : Program} {l : Launch} {e : Env} {R : Room} {s : State} {m : MethodId} {args : Array Value} {below : List Frame} {meth : Method} {c : Code} {H : Heap} {locs : List Loc} {cells slots : Nat} {Q : State → Prop}
variable {cc : ByteArray} {pc nL index n k ci N : Nat} {ls : Array Slot} {rest : List Value} {D : va_G} {dA : Nat → ClassId} {md : Bool} {ad ad0 : Nat → Nat} {al al0 : Nat → Prop} {w : zW} {own : String} {ret : Option FieldType}
theorem z_getV (X : zCx p s m args meth c cc nL own ret) (hR : zSt D dA md ad0 al0 ad al w s H locs) (hn : al n) (hsh : zsh n = ci) (hc : ci < 20) (hF : zFd own index ci k) {v : Value} (hv : zv md ad w n k = v) (hdg : decode cc pc = .ok (.getfield index, 3))
    (kk : W p l e R s m args below meth c H locs cells slots Q (F0 m (pc + 3) ls (v :: rest))) : W p l e R s m args below meth c H locs cells slots Q (F0 m pc ls (.ref (ad n) :: rest)) := by
  obtain ⟨hx, hb, -, hown, hts, -, -⟩ := X
  obtain ⟨⟨hK, hC, -⟩, -, -⟩ := hR
  obtain ⟨q, hq, hk, hl⟩ := hF
  subst hsh
  have h0 := hC n hn
  unfold zcell at h0
  rw [if_pos hc] at h0
  obtain ⟨r, hr, cell, q1, q2, q3, q4⟩ := h0
  cases hq.symm.trans hr
  obtain ⟨hS, hfc, kC, hkC, hkind⟩ := hK.1 _ _ hq
  obtain ⟨cf, kf, fi, f, hi, hsl⟩ := hS k hk
  refine W.getf hx hb hown (hts _ hl) hi (u_facts hfc hkC (u_lays hts (zcls hq).1 hk) hi).1 q1 (by rw [q3]; exact fun h => by cases h) (v := v) ?_ rfl rfl hdg kk
  rw [hsl, q4 k hk, ← hv]
theorem z_getI (X : zCx p s m args meth c cc nL own ret) (hR : zSt D dA md ad0 al0 ad al w s H locs) (hn : al n) (hsh : zsh n = ci) (hc : ci < 20) (hF : zFd own index ci k) (ht : ztg md ci k = 0) (hdg : decode cc pc = .ok (.getfield index, 3))
    (kk : W p l e R s m args below meth c H locs cells slots Q (F0 m (pc + 3) ls (.int (gI w n k) :: rest))) : W p l e R s m args below meth c H locs cells slots Q (F0 m pc ls (.ref (ad n) :: rest)) :=
  z_getV X hR hn hsh hc hF (zv_I (by unfold ztag; rw [hsh]; exact ht)) hdg kk
theorem z_getL (X : zCx p s m args meth c cc nL own ret) (hR : zSt D dA md ad0 al0 ad al w s H locs) (hn : al n) (hsh : zsh n = ci) (hc : ci < 20) (hF : zFd own index ci k) (ht : ztg md ci k = 1) (hdg : decode cc pc = .ok (.getfield index, 3))
    (kk : W p l e R s m args below meth c H locs cells slots Q (F0 m (pc + 3) ls (.long (gL w n k) :: rest))) : W p l e R s m args below meth c H locs cells slots Q (F0 m pc ls (.ref (ad n) :: rest)) :=
  z_getV X hR hn hsh hc hF (zv_L (by unfold ztag; rw [hsh]; exact ht)) hdg kk
theorem z_getS (X : zCx p s m args meth c cc nL own ret) (hR : zSt D dA md ad0 al0 ad al w s H locs) (hn : al n) (hsh : zsh n = ci) (hc : ci < 20) (hF : zFd own index ci k) (ht : ztg md ci k = 2) {r : Nat} (hr : zst n k = r) (hdg : decode cc pc = .ok (.getfield index, 3))
    (kk : W p l e R s m args below meth c H locs cells slots Q (F0 m (pc + 3) ls (.ref (ad r) :: rest))) : W p l e R s m args below meth c H locs cells slots Q (F0 m pc ls (.ref (ad n) :: rest)) := by
  subst hr
  exact z_getV X hR hn hsh hc hF (zv_S (by unfold ztag; rw [hsh]; exact ht)) hdg kk
theorem z_getR (X : zCx p s m args meth c cc nL own ret) (hR : zSt D dA md ad0 al0 ad al w s H locs) (hn : al n) (hsh : zsh n = ci) (hc : ci < 20) (hF : zFd own index ci k) (ht : ztg md ci k = 3) (hdg : decode cc pc = .ok (.getfield index, 3))
    (kk : W p l e R s m args below meth c H locs cells slots Q (F0 m (pc + 3) ls (zrf ad (gR w n k) :: rest))) : W p l e R s m args below meth c H locs cells slots Q (F0 m pc ls (.ref (ad n) :: rest)) :=
  z_getV X hR hn hsh hc hF (zv_R (by unfold ztag; rw [hsh]; exact ht)) hdg kk
/-- what a reference field leads to, if it isn't null -/
theorem zwt_ok (hR : zSt D dA md ad0 al0 ad al w s H locs) (hn : al n) (hsh : zsh n = ci) (ht : ztg md ci k = 3) (h0 : gR w n k ≠ 0) : al (gR w n k) ∧ zsh (gR w n k) = zdc n k := by
  rcases hR.1.2.2.2.2 n k hn (by unfold ztag; rw [hsh]; exact ht) with h | h
  · exact absurd h h0
  · exact h
theorem z_putV (X : zCx p s m args meth c cc nL own ret) (hR : zSt D dA md ad0 al0 ad al w s H locs) (hn : al n) (hsh : zsh n = ci) (hc : ci < 20) {ty : FieldType} (hF : zFp own index ci k ty) {v : Value} (hnar : narrow ty v = v) (hfit : fits ty v = true) {w1 : zW} (hu : zUp md ad al w w1 n k v) (hdg : decode cc pc = .ok (.putfield index, 3))
    (kk : ∀ (H1 : Heap) (locs1 : List Loc), zSt D dA md ad0 al0 ad al w1 s H1 locs1 → W p l e R s m args below meth c H1 locs1 cells slots Q (F0 m (pc + 3) ls rest)) : W p l e R s m args below meth c H locs cells slots Q (F0 m pc ls (v :: .ref (ad n) :: rest)) := by
  obtain ⟨hx, hb, -, hown, hts, -, -⟩ := X
  obtain ⟨hRel, hRA, hRS, hEv⟩ := hR
  obtain ⟨hK, hC, -⟩ := id hRel
  obtain ⟨q, hq, hk, hl, hfin, hd⟩ := hF
  subst hsh
  have h0 := hC n hn
  unfold zcell at h0
  rw [if_pos hc] at h0
  obtain ⟨r, hr, cell, q1, q2, q3, q4⟩ := h0
  cases hq.symm.trans hr
  obtain ⟨hin, ⟨ty0, hty0⟩, hnm⟩ := zcls hq
  have hap := va_apart (own := own) hts hin ty0 hty0 hnm hK hq
  obtain ⟨hS, hfc, kC, hkC, hkind⟩ := hK.1 _ _ hq
  obtain ⟨cf, kf, fi, f, hi, hsl⟩ := hS k hk
  have hlay := hts _ (hin _ (u_in_lay hk))
  unfold u_lay at hlay
  rw [if_neg (by rw [hfin]; decide)] at hlay
  have hst := (u_facts hfc hkC (u_lays hts hin hk) hi).1
  have h6 := u_store hfc hkC hkind hlay hi hd hnar hfit
  refine W.putK hx hb (f := f) ⟨hown, hts _ hl, ⟨_, _, _, hi⟩, hst⟩ (by rw [q2]; exact h6) q1 q3 (by rw [hsl]; exact k2_hasslot (q4 k hk)) rfl rfl hdg fun H' e1 e2 e3 => ?_
  rw [hsl] at e1 ⊢
  refine kk H' _ ⟨hRel.put hn hu ?_ e3, hRA, hRS.put e2 e3 (hRA n hn), hEv⟩
  unfold zcell
  rw [if_pos hc]
  refine ⟨_, hq, t_OB.to (V := updV (fun k => zv md ad w n k) k v) ⟨_, e1, q2, q3, t_set q4 hap hk v⟩ (fun j _ => ?_)⟩
  rw [hu.1]
  simp [updV]
theorem z_putI (X : zCx p s m args meth c cc nL own ret) (hR : zSt D dA md ad0 al0 ad al w s H locs) (hn : al n) (hsh : zsh n = ci) (hc : ci < 20) (hF : zFp own index ci k .int) (ht : ztg md ci k = 0) {x : Int32} (hdg : decode cc pc = .ok (.putfield index, 3))
    (kk : ∀ (H1 : Heap) (locs1 : List Loc), zSt D dA md ad0 al0 ad al (sI w n k x) s H1 locs1 → W p l e R s m args below meth c H1 locs1 cells slots Q (F0 m (pc + 3) ls rest)) : W p l e R s m args below meth c H locs cells slots Q (F0 m pc ls (.int x :: .ref (ad n) :: rest)) :=
  z_putV X hR hn hsh hc hF rfl rfl (zUp_I (zne0 hsh (by omega)) (by unfold ztag; rw [hsh]; exact ht)) hdg kk
/-- a boolean field: what comes is 0 or 1 -/
def zb01 (x : Int32) : Prop := x = 0 ∨ x = 1
theorem zb01_0 : zb01 0 := Or.inl rfl
theorem zb01_1 : zb01 1 := Or.inr rfl
theorem z_putZ (X : zCx p s m args meth c cc nL own ret) (hR : zSt D dA md ad0 al0 ad al w s H locs) (hn : al n) (hsh : zsh n = ci) (hc : ci < 20) (hF : zFp own index ci k .boolean) (ht : ztg md ci k = 0) {x : Int32} (h01 : zb01 x) (hdg : decode cc pc = .ok (.putfield index, 3))
    (kk : ∀ (H1 : Heap) (locs1 : List Loc), zSt D dA md ad0 al0 ad al (sI w n k x) s H1 locs1 → W p l e R s m args below meth c H1 locs1 cells slots Q (F0 m (pc + 3) ls rest)) : W p l e R s m args below meth c H locs cells slots Q (F0 m pc ls (.int x :: .ref (ad n) :: rest)) :=
  z_putV X hR hn hsh hc hF (by rcases h01 with rfl | rfl <;> rfl) (by rcases h01 with rfl | rfl <;> rfl) (zUp_I (zne0 hsh (by omega)) (by unfold ztag; rw [hsh]; exact ht)) hdg kk
/-- a char field -/
def zch (x : Int32) : Prop := narrow .char (.int x) = .int x ∧ fits .char (.int x) = true
theorem z_putC (X : zCx p s m args meth c cc nL own ret) (hR : zSt D dA md ad0 al0 ad al w s H locs) (hn : al n) (hsh : zsh n = ci) (hc : ci < 20) (hF : zFp own index ci k .char) (ht : ztg md ci k = 0) {x : Int32} (hch : zch x) (hdg : decode cc pc = .ok (.putfield index, 3))
    (kk : ∀ (H1 : Heap) (locs1 : List Loc), zSt D dA md ad0 al0 ad al (sI w n k x) s H1 locs1 → W p l e R s m args below meth c H1 locs1 cells slots Q (F0 m (pc + 3) ls rest)) : W p l e R s m args below meth c H locs cells slots Q (F0 m pc ls (.int x :: .ref (ad n) :: rest)) :=
  z_putV X hR hn hsh hc hF hch.1 hch.2 (zUp_I (zne0 hsh (by omega)) (by unfold ztag; rw [hsh]; exact ht)) hdg kk
theorem z_putL (X : zCx p s m args meth c cc nL own ret) (hR : zSt D dA md ad0 al0 ad al w s H locs) (hn : al n) (hsh : zsh n = ci) (hc : ci < 20) (hF : zFp own index ci k .long) (ht : ztg md ci k = 1) {x : Int64} (hdg : decode cc pc = .ok (.putfield index, 3))
    (kk : ∀ (H1 : Heap) (locs1 : List Loc), zSt D dA md ad0 al0 ad al (sL w n k x) s H1 locs1 → W p l e R s m args below meth c H1 locs1 cells slots Q (F0 m (pc + 3) ls rest)) : W p l e R s m args below meth c H locs cells slots Q (F0 m pc ls (.long x :: .ref (ad n) :: rest)) :=
  z_putV X hR hn hsh hc hF rfl rfl (zUp_L (by unfold ztag; rw [hsh]; exact ht)) hdg kk
theorem z_putR (X : zCx p s m args meth c cc nL own ret) (hR : zSt D dA md ad0 al0 ad al w s H locs) (hn : al n) (hsh : zsh n = ci) (hc : ci < 20) {ty : FieldType} (hF : zFp own index ci k ty) (hty : ty.isReference = true) (ht : ztg md ci k = 3) {r : Nat} (h0 : r ≠ 0) (hr : al r) (hrs : zsh r = zdc n k) (hdg : decode cc pc = .ok (.putfield index, 3))
    (kk : ∀ (H1 : Heap) (locs1 : List Loc), zSt D dA md ad0 al0 ad al (sR w n k r) s H1 locs1 → W p l e R s m args below meth c H1 locs1 cells slots Q (F0 m (pc + 3) ls rest)) : W p l e R s m args below meth c H locs cells slots Q (F0 m pc ls (.ref (ad r) :: .ref (ad n) :: rest)) := by
  refine z_putV X hR hn hsh hc hF ?_ ?_ (v := .ref (ad r)) (w1 := sR w n k r) ?_ hdg kk
  · cases ty <;> first | rfl | cases hty
  · cases ty <;> first | rfl | cases hty
  · have h := zUp_R (md := md) (ad := ad) (al := al) (w := w) (n := n) (k := k) (x := r) (by unfold ztag; rw [hsh]; exact ht) (Or.inr ⟨hr, hrs⟩)
    rw [zrf_pos h0] at h
    exact h
theorem zarr (hR : zSt D dA md ad0 al0 ad al w s H locs) (hn : al n) (hsh : zsh n = ci) (hc : ¬ ci < 20) (hN : zln n = N) : H[ad n]? = some (arrV (dA ci) N (fun k => zv md ad w n k)) := by
  subst hsh; subst hN
  have h0 := hR.1.2.1 n hn
  unfold zcell at h0
  rw [if_neg hc] at h0
  exact h0
theorem zarr_put (hR : zSt D dA md ad0 al0 ad al w s H locs) (hn : al n) (hsh : zsh n = ci) (hc : ¬ ci < 20) (hN : zln n = N) {v : Value} {w1 : zW} (hu : zUp md ad al w w1 n k v) {H1 : Heap} {z : Nat} (e1 : H1[ad n]? = some ((arrV (dA ci) N (fun k => zv md ad w n k)).setSlot k v)) (e2 : H1.size = H.size) (e3 : ∀ q, q ≠ ad n → H1[q]? = H[q]?) : zSt D dA md ad0 al0 ad al w1 s H1 (locs ++ [⟨ad n, z⟩]) := by
  obtain ⟨hRel, hRA, hRS, hEv⟩ := hR
  refine ⟨hRel.put hn hu ?_ e3, hRA, hRS.put e2 e3 (hRA n hn), hEv⟩
  subst hsh; subst hN
  unfold zcell
  rw [if_neg hc, e1, arrV_store]
  refine congrArg (fun f => some (arrV (dA (zsh n)) (zln n) f)) (funext fun j => ?_)
  rw [hu.1]
  simp [updV]
theorem z_iald (X : zCx p s m args meth c cc nL own ret) (hR : zSt D dA md ad0 al0 ad al w s H locs) (hn : al n) (hsh : zsh n = 20) (hN : zln n = N) {i : Int32} (hin : vp_in i N) (hdg : decode cc pc = .ok (.iaload, 1))
    (kk : W p l e R s m args below meth c H locs cells slots Q (F0 m (pc + 1) ls (.int (gI w n i.toNatClampNeg) :: rest))) : W p l e R s m args below meth c H locs cells slots Q (F0 m pc ls (.int i :: .ref (ad n) :: rest)) := by
  have hlt : i.toNatClampNeg < N := Nat.not_le.mp fun q => hin (Or.inr q)
  refine W.iald (v := .int (gI w n i.toNatClampNeg)) X.1 X.2.1 (zarr hR hn hsh (by decide) hN) ((hR.1.1.2 0 _ rfl).1 N _) (fun q => by cases q) (by rw [arrV_size]; exact hin) ?_ rfl rfl hdg kk
  rw [arrV_read _ _ hlt, zv_I (by unfold ztag; rw [hsh]; rfl)]
theorem z_zald (X : zCx p s m args meth c cc nL own ret) (hR : zSt D dA md ad0 al0 ad al w s H locs) (hn : al n) (hsh : zsh n = 22) (hN : zln n = N) {i : Int32} (hin : vp_in i N) (hdg : decode cc pc = .ok (.baload, 1))
    (kk : W p l e R s m args below meth c H locs cells slots Q (F0 m (pc + 1) ls (.int (gI w n i.toNatClampNeg) :: rest))) : W p l e R s m args below meth c H locs cells slots Q (F0 m pc ls (.int i :: .ref (ad n) :: rest)) := by
  have hlt : i.toNatClampNeg < N := Nat.not_le.mp fun q => hin (Or.inr q)
  refine W.zald (v := .int (gI w n i.toNatClampNeg)) X.1 X.2.1 (zarr hR hn hsh (by decide) hN) ((hR.1.1.2 2 _ rfl).1 N _) (fun q => by cases q) (by rw [arrV_size]; exact hin) ?_ rfl rfl hdg kk
  rw [arrV_read _ _ hlt, zv_I (by unfold ztag; rw [hsh]; rfl)]
theorem z_cald (X : zCx p s m args meth c cc nL own ret) (hR : zSt D dA md ad0 al0 ad al w s H locs) (hn : al n) (hsh : zsh n = 23) (hN : zln n = N) {i : Int32} (hin : vp_in i N) (hdg : decode cc pc = .ok (.caload, 1))
    (kk : W p l e R s m args below meth c H locs cells slots Q (F0 m (pc + 1) ls (.int (gI w n i.toNatClampNeg) :: rest))) : W p l e R s m args below meth c H locs cells slots Q (F0 m pc ls (.int i :: .ref (ad n) :: rest)) := by
  have hlt : i.toNatClampNeg < N := Nat.not_le.mp fun q => hin (Or.inr q)
  refine W.cald (v := .int (gI w n i.toNatClampNeg)) X.1 X.2.1 (zarr hR hn hsh (by decide) hN) ((hR.1.1.2 3 _ rfl).1 N _) (fun q => by cases q) (by rw [arrV_size]; exact hin) ?_ rfl rfl hdg kk
  rw [arrV_read _ _ hlt, zv_I (by unfold ztag; rw [hsh]; rfl)]
theorem z_lald (X : zCx p s m args meth c cc nL own ret) (hR : zSt D dA md ad0 al0 ad al w s H locs) (hn : al n) (hsh : zsh n = 21) (hN : zln n = N) {i : Int32} (hin : vp_in i N) (hdg : decode cc pc = .ok (.laload, 1))
    (kk : W p l e R s m args below meth c H locs cells slots Q (F0 m (pc + 1) ls (.long (gL w n i.toNatClampNeg) :: rest))) : W p l e R s m args below meth c H locs cells slots Q (F0 m pc ls (.int i :: .ref (ad n) :: rest)) := by
  have hlt : i.toNatClampNeg < N := Nat.not_le.mp fun q => hin (Or.inr q)
  refine W.lald (v := .long (gL w n i.toNatClampNeg)) X.1 X.2.1 (zarr hR hn hsh (by decide) hN) ((hR.1.1.2 1 _ rfl).1 N _) (fun q => by cases q) (by rw [arrV_size]; exact hin) ?_ rfl rfl hdg kk
  rw [arrV_read _ _ hlt, zv_L (by unfold ztag; rw [hsh]; rfl)]
/-- a row of int[][] -/
theorem z_aald (X : zCx p s m args meth c cc nL own ret) (hR : zSt D dA md ad0 al0 ad al w s H locs) (hn : al n) (hsh : zsh n = 24) (hN : zln n = N) {i : Int32} (hin : vp_in i N) (hdg : decode cc pc = .ok (.aaload, 1))
    (kk : W p l e R s m args below meth c H locs cells slots Q (F0 m (pc + 1) ls (.ref (ad (n + 1 + i.toNatClampNeg)) :: rest))) : W p l e R s m args below meth c H locs cells slots Q (F0 m pc ls (.int i :: .ref (ad n) :: rest)) := by
  have hlt : i.toNatClampNeg < N := Nat.not_le.mp fun q => hin (Or.inr q)
  refine W.aald (v := .ref (ad (n + 1 + i.toNatClampNeg))) (ty := .array .int) X.1 X.2.1 (zarr hR hn hsh (by decide) hN) ((hR.1.1.2 4 _ rfl).1 N _) rfl (fun q => by cases q) (by rw [arrV_size]; exact hin) ?_ rfl rfl hdg kk
  rw [arrV_read _ _ hlt, zv_S (by unfold ztag; rw [hsh]; rfl)]
  unfold zst
  rw [hsh]
  rfl
/-- an element of Hand[], once all is made -/
theorem z_aaldH (X : zCx p s m args meth c cc nL own ret) (hR : zSt D dA true ad0 al0 ad al w s H locs) (hn : al n) (hsh : zsh n = 25) (hN : zln n = N) {i : Int32} (hin : vp_in i N) (hdg : decode cc pc = .ok (.aaload, 1))
    (kk : W p l e R s m args below meth c H locs cells slots Q (F0 m (pc + 1) ls (.ref (ad (n + 1 + 2 * i.toNatClampNeg)) :: rest))) : W p l e R s m args below meth c H locs cells slots Q (F0 m pc ls (.int i :: .ref (ad n) :: rest)) := by
  have hlt : i.toNatClampNeg < N := Nat.not_le.mp fun q => hin (Or.inr q)
  refine W.aald (v := .ref (ad (n + 1 + 2 * i.toNatClampNeg))) (ty := .object "ForeignKnit$Hand") X.1 X.2.1 (zarr hR hn hsh (by decide) hN) ((hR.1.1.2 5 _ rfl).1 N _) rfl (fun q => by cases q) (by rw [arrV_size]; exact hin) ?_ rfl rfl hdg kk
  rw [arrV_read _ _ hlt, zv_S (by unfold ztag; rw [hsh]; rfl)]
  unfold zst
  rw [hsh]
  rfl
theorem z_iast (X : zCx p s m args meth c cc nL own ret) (hR : zSt D dA md ad0 al0 ad al w s H locs) (hn : al n) (hsh : zsh n = 20) (hN : zln n = N) {i x : Int32} (hin : vp_in i N) (hdg : decode cc pc = .ok (.iastore, 1))
    (kk : ∀ (H1 : Heap) (locs1 : List Loc), zSt D dA md ad0 al0 ad al (sI w n i.toNatClampNeg x) s H1 locs1 → W p l e R s m args below meth c H1 locs1 cells slots Q (F0 m (pc + 1) ls rest)) : W p l e R s m args below meth c H locs cells slots Q (F0 m pc ls (.int x :: .int i :: .ref (ad n) :: rest)) := by
  refine W.iast X.1 X.2.1 (zarr hR hn hsh (by decide) hN) ((hR.1.1.2 0 _ rfl).1 N _) (fun q => by cases q) (by rw [arrV_size]; exact hin) rfl rfl hdg fun H1 e1 e2 e3 => ?_
  exact kk H1 _ (zarr_put hR hn hsh (by decide) hN (zUp_I (zne0 hsh (by decide)) (by unfold ztag; rw [hsh]; rfl)) e1 e2 e3)
theorem z_last (X : zCx p s m args meth c cc nL own ret) (hR : zSt D dA md ad0 al0 ad al w s H locs) (hn : al n) (hsh : zsh n = 21) (hN : zln n = N) {i : Int32} {x : Int64} (hin : vp_in i N) (hdg : decode cc pc = .ok (.lastore, 1))
    (kk : ∀ (H1 : Heap) (locs1 : List Loc), zSt D dA md ad0 al0 ad al (sL w n i.toNatClampNeg x) s H1 locs1 → W p l e R s m args below meth c H1 locs1 cells slots Q (F0 m (pc + 1) ls rest)) : W p l e R s m args below meth c H locs cells slots Q (F0 m pc ls (.long x :: .int i :: .ref (ad n) :: rest)) := by
  refine W.last X.1 X.2.1 (zarr hR hn hsh (by decide) hN) ((hR.1.1.2 1 _ rfl).1 N _) (fun q => by cases q) (by rw [arrV_size]; exact hin) rfl rfl hdg fun H1 e1 e2 e3 => ?_
  exact kk H1 _ (zarr_put hR hn hsh (by decide) hN (zUp_L (by unfold ztag; rw [hsh]; rfl)) e1 e2 e3)
theorem z_zast (X : zCx p s m args meth c cc nL own ret) (hR : zSt D dA md ad0 al0 ad al w s H locs) (hn : al n) (hsh : zsh n = 22) (hN : zln n = N) {i x : Int32} (hin : vp_in i N) (hdg : decode cc pc = .ok (.bastore, 1))
    (kk : ∀ (H1 : Heap) (locs1 : List Loc), zSt D dA md ad0 al0 ad al (sI w n i.toNatClampNeg (x &&& 1)) s H1 locs1 → W p l e R s m args below meth c H1 locs1 cells slots Q (F0 m (pc + 1) ls rest)) : W p l e R s m args below meth c H locs cells slots Q (F0 m pc ls (.int x :: .int i :: .ref (ad n) :: rest)) := by
  refine W.zast X.1 X.2.1 (zarr hR hn hsh (by decide) hN) ((hR.1.1.2 2 _ rfl).1 N _) (fun q => by cases q) (by rw [arrV_size]; exact hin) rfl rfl hdg fun H1 e1 e2 e3 => ?_
  exact kk H1 _ (zarr_put hR hn hsh (by decide) hN (zUp_I (zne0 hsh (by decide)) (by unfold ztag; rw [hsh]; rfl)) (by rw [e1]; rfl) e2 e3)
theorem z_cast (X : zCx p s m args meth c cc nL own ret) (hR : zSt D dA md ad0 al0 ad al w s H locs) (hn : al n) (hsh : zsh n = 23) (hN : zln n = N) {i x : Int32} (hin : vp_in i N) (hdg : decode cc pc = .ok (.castore, 1))
    (kk : ∀ (H1 : Heap) (locs1 : List Loc), zSt D dA md ad0 al0 ad al (sI w n i.toNatClampNeg (x.toUInt32.toUInt16.toUInt32.toInt32)) s H1 locs1 → W p l e R s m args below meth c H1 locs1 cells slots Q (F0 m (pc + 1) ls rest)) : W p l e R s m args below meth c H locs cells slots Q (F0 m pc ls (.int x :: .int i :: .ref (ad n) :: rest)) := by
  refine W.cast X.1 X.2.1 (zarr hR hn hsh (by decide) hN) ((hR.1.1.2 3 _ rfl).1 N _) (fun q => by cases q) (by rw [arrV_size]; exact hin) rfl rfl hdg fun H1 e1 e2 e3 => ?_
  exact kk H1 _ (zarr_put hR hn hsh (by decide) hN (zUp_I (zne0 hsh (by decide)) (by unfold ztag; rw [hsh]; rfl)) (by rw [e1]; rfl) e2 e3)
def zty (ci : Nat) : FieldType := if ci = 20 then .int else if ci = 21 then .long else if ci = 22 then .boolean else if ci = 23 then .char else if ci = 24 then .array .int else .object "ForeignKnit$Hand"
theorem zty_ok (hR : zSt D dA md ad0 al0 ad al w s H locs) (h1 : 20 ≤ ci) (h2 : ci ≤ 25) : ArrOfT s (dA ci) (zty ci) := by
  rcases (show ci = 20 ∨ ci = 21 ∨ ci = 22 ∨ ci = 23 ∨ ci = 24 ∨ ci = 25 by omega) with rfl | rfl | rfl | rfl | rfl | rfl
  · exact (hR.1.1.2 0 _ rfl).1
  · exact (hR.1.1.2 1 _ rfl).1
  · exact (hR.1.1.2 2 _ rfl).1
  · exact (hR.1.1.2 3 _ rfl).1
  · exact (hR.1.1.2 4 _ rfl).1
  · exact (hR.1.1.2 5 _ rfl).1
theorem z_alen (X : zCx p s m args meth c cc nL own ret) (hR : zSt D dA md ad0 al0 ad al w s H locs) (hn : al n) (hsh : zsh n = ci) (hc : ¬ ci < 20) (hc2 : ci ≤ 25) (hN : zln n = N) {v : Int32} (hv : Int32.ofNat N = v) (hdg : decode cc pc = .ok (.arraylength, 1))
    (kk : W p l e R s m args below meth c H locs cells slots Q (F0 m (pc + 1) ls (.int v :: rest))) : W p l e R s m args below meth c H locs cells slots Q (F0 m pc ls (.ref (ad n) :: rest)) :=
  W.alen (n := v) X.1 X.2.1 (zarr hR hn hsh hc hN) (zty_ok hR (by omega) hc2 N _) (by rw [arrV_size]; exact hv) rfl rfl hdg kk
theorem z_irem (X : zCx p s m args meth c cc nL own ret) {x y : Int32} (hdg : decode cc pc = .ok (.irem, 1)) (hne : ¬ y = 0)
    (kk : W p l e R s m args below meth c H locs cells slots Q (F0 m (pc + 1) ls (.int (x % y) :: rest))) : W p l e R s m args below meth c H locs cells slots Q (F0 m pc ls (.int y :: .int x :: rest)) := by
  refine lv_irem X.1 X.2.1 hdg hne ?_
  rw [z_i32rem]
  exact kk
theorem z_lrem (X : zCx p s m args meth c cc nL own ret) {x y : Int64} (hdg : decode cc pc = .ok (.lrem, 1)) (hne : ¬ y = 0)
    (kk : W p l e R s m args below meth c H locs cells slots Q (F0 m (pc + 1) ls (.long (x % y) :: rest))) : W p l e R s m args below meth c H locs cells slots Q (F0 m pc ls (.long y :: .long x :: rest)) := by
  refine lv_lrem X.1 X.2.1 hdg hne ?_
  rw [z_i64rem]
  exact kk
end ZROWS

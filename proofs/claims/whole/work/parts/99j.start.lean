theorem zq_1 : Cond.instantiable RX11 14 ∈ zG := List.mem_of_getElem? (i := 1) (by decide +kernel)
theorem zq_4 : Cond.instantiable RX12 43 ∈ zG := List.mem_of_getElem? (i := 4) (by decide +kernel)
/-! What the Statement gives of the start, as the abstract world wants it -/

theorem zTw_in : ∀ w ∈ zTw, w ∈ lw_tbl := by
  unfold zTw zAt
  decide +kernel
def zw0 : zW := (fun _ _ => 0, fun _ _ => 0, fun _ _ => 0)
def zTmc (i : Nat) : Term := if i = 0 then .string "ForeignKnit$Tape" 59 else if i = 1 then .string "ForeignKnit$Tape" 67 else .string "ForeignKnit" 314
def zFl : List Cond := flatC (Jvm.Cond.and given_1 narrow_1)
def zVal (i : Nat) : Term := .field (zTmc i) "java/lang/String" "value" "[B"
theorem zfl_ex : ∀ i, i < 3 → Cond.exactly (zTmc i) "java/lang/String" ∈ zFl := by decide +kernel
theorem zfl_co : ∀ i, i < 3 → Cond.eq (.field (zTmc i) "java/lang/String" "coder" "B") (.int 0) ∈ zFl := by decide +kernel
theorem zfl_ar : ∀ i, i < 3 → Cond.arrayOf (zVal i) .byte ∈ zFl := by decide +kernel
theorem zfl_le : ∀ i, i < 3 → Cond.eq (.length (zVal i)) (.int (Int32.ofNat (zLen.getD i 0))) ∈ zFl := by decide +kernel
theorem zfl_e0 : ∀ i, i < 3 → ∀ j, j < zLen.getD i 0 → zFl[[28, 40, 213].getD i 0 + j]? = some (Cond.eq (.elem (zVal i) (.int (Int32.ofNat j))) (.int ((zByt.getD i []).getD j 0))) := by decide +kernel
theorem zfl_el (i : Nat) (hi : i < 3) (j : Nat) (hj : j < zLen.getD i 0) : Cond.eq (.elem (zVal i) (.int (Int32.ofNat j))) (.int ((zByt.getD i []).getD j 0)) ∈ zFl := List.mem_of_getElem? (zfl_e0 i hi j hj)
theorem zfl_ne : ∀ i, i < 3 → ∀ j, j < 3 → i ≠ j → Cond.not (Cond.eq (zTmc i) (zTmc j)) ∈ zFl ∨ Cond.not (Cond.eq (zTmc j) (zTmc i)) ∈ zFl := by decide +kernel
theorem zinst {ci : Nat} {q : vw_C} (h : vwCl[ci]? = some q) : ∃ n, Cond.instantiable q.1 n ∈ zG := by
  match ci, h with
  | 0, h => cases h; exact ⟨13, zq_46⟩
  | 1, h => cases h; exact ⟨6, zq_19⟩
  | 2, h => cases h; exact ⟨2, zq_804⟩
  | 3, h => cases h; exact ⟨1, zq_23⟩
  | 4, h => cases h; exact ⟨8, zq_42⟩
  | 5, h => cases h; exact ⟨11, zq_51⟩
  | 6, h => cases h; exact ⟨3, zq_30⟩
  | 7, h => cases h; exact ⟨4, zq_68⟩
  | 8, h => cases h; exact ⟨10, zq_34⟩
  | 9, h => cases h; exact ⟨1, zq_38⟩
  | 10, h => cases h; exact ⟨10, zq_15⟩
  | 11, h => cases h; exact ⟨14, zq_1⟩
  | 12, h => cases h; exact ⟨43, zq_4⟩
  | k + 13, h => exact absurd h (by simp [vwCl])
section ZST
variable {s : State} {As : Array Value}
theorem zarr_of {ty : FieldType} (h : (Cond.arrayClass ty).before As s = true) : ∃ c : ClassId, ArrOfT s c ty ∧ s.vm.findClass ("[" ++ ty.toString) = some c := by
  obtain ⟨c, k, comp, h1, h2, h3⟩ := Cond.arrayClass_spec h
  exact ⟨c, fun N z => ⟨(fun k9 h => by cases h), k, h2, comp, h3⟩, h1⟩
theorem zclass (hz : ∀ w ∈ zG, w.before As s = true) : ∃ D : va_G, ∀ (ci : Nat) (q : vw_C), vwCl[ci]? = some q → u_Kn s q.1 q.2.1 q.2.2 (D.1 ci) (D.2 ci) := by
  have h : ∀ ci : Nat, ∃ p : ClassId × (Nat → Nat), ∀ q : vw_C, vwCl[ci]? = some q → u_Kn s q.1 q.2.1 q.2.2 p.1 p.2 := by
    intro ci
    cases hq : vwCl[ci]? with
    | none => exact ⟨(0, fun _ => 0), fun q h => by cases h⟩
    | some q =>
      obtain ⟨n, hn⟩ := zinst hq
      obtain ⟨cC, iS, hK⟩ := u_known (C := q.1) (T := q.2.1) (N := q.2.2) hz (zcls hq).1 (hz _ hn)
      exact ⟨(cC, iS), fun q' h' => by cases h'; exact hK⟩
  obtain ⟨f, hf⟩ := Classical.skolem.mp h
  exact ⟨(fun ci => (f ci).1, fun ci => (f ci).2), fun ci q hq => hf ci q hq⟩
theorem zarrs (hz : ∀ w ∈ lw_tbl, w.before As s = true) : ∃ f : Nat → ClassId, ∀ (k : Nat) (q : ClassId × FieldType), [(f 20, FieldType.int), (f 21, .long), (f 22, .boolean), (f 23, .char), (f 24, .array .int), (f 25, .object "ForeignKnit$Hand")][k]? = some q → ArrOfT s q.1 q.2 ∧ va_RA s q.1 q.2 := by
  obtain ⟨c0, a0, b0⟩ := zarr_of (hz (.arrayClass .int) (by decide +kernel))
  obtain ⟨c1, a1, b1⟩ := zarr_of (hz (.arrayClass .long) (by decide +kernel))
  obtain ⟨c2, a2, b2⟩ := zarr_of (hz (.arrayClass .boolean) (by decide +kernel))
  obtain ⟨c3, a3, b3⟩ := zarr_of (hz (.arrayClass .char) (by decide +kernel))
  obtain ⟨p4, c4, k4, -, -, h43, h44, h45⟩ := arrayOverA_spec (hz (.arrayOver (.array .int)) (by decide +kernel))
  obtain ⟨p5, c5, k5, h51, -, h53, h54, h55⟩ := Cond.arrayOver_spec (hz (.arrayOver (.object "ForeignKnit$Hand")) (by decide +kernel))
  refine ⟨fun n => if n = 20 then c0 else if n = 21 then c1 else if n = 22 then c2 else if n = 23 then c3 else if n = 24 then c4 else c5, fun k q hq => ?_⟩
  match k, hq with
  | 0, hq => cases hq; exact ⟨a0, b0⟩
  | 1, hq => cases hq; exact ⟨a1, b1⟩
  | 2, hq => cases hq; exact ⟨a2, b2⟩
  | 3, hq => cases hq; exact ⟨a3, b3⟩
  | 4, hq => cases hq; exact ⟨fun N z => ⟨(fun k9 h => by cases h), k4, h43, p4, h44⟩, h45⟩
  | 5, hq => cases hq; exact ⟨fun N z => ⟨(fun k9 h => by cases h), k5, h53, p5, h54⟩, ⟨k5, p5, h53, h54, h51, h55⟩⟩
  | k + 6, hq => exact absurd hq (by simp)
theorem zstart {b : Nat} (hts : ∀ w ∈ lw_tbl, w.before #[Value.ref b] s = true) (hgv : (Jvm.Cond.and given_1 narrow_1).before #[Value.ref b] s = true) :
    ∃ (D : va_G) (dA : Nat → ClassId), zSt D dA false (fun _ => 0) (fun _ => False) (fun _ => 0) (fun _ => False) zw0 s s.heap [] ∧ zThE (zA (fun _ => 0) (fun _ => False) s.heap.size) s s.heap := by
  have hz : ∀ w ∈ zG, w.before #[Value.ref b] s = true := fun w hw => hts w (wsL_law_in0 w hw)
  have hs : ∀ w ∈ zFl, w.before #[Value.ref b] s = true := flat_of_before _ hgv
  obtain ⟨D, hD⟩ := zclass hz
  obtain ⟨f, hf⟩ := zarrs hts
  have hA : ∀ a : Nat, a < s.heap.size → ¬ zA (fun _ => 0) (fun _ => False) s.heap.size a := fun a ha h => by
    rcases h with ⟨n, h, -⟩ | h
    · exact h
    · exact absurd ha (Nat.not_lt.mpr h)
  obtain ⟨adK, adV, hS, hE⟩ := vk_Sof (args := #[Value.ref b]) (s := s) (N := 3) (tm := zTmc) (len := zLen) (byt := zByt) (by decide +kernel) (fun i hi => hs _ (zfl_ex i hi)) (fun i hi => hs _ (zfl_co i hi)) (fun i hi => hs _ (zfl_ar i hi)) (fun i hi => hs _ (zfl_le i hi)) (fun i hi j hj => hs _ (zfl_el i hi j hj)) (fun i j hi hj hij => (zfl_ne i hi j hj hij).elim (fun h => Or.inl (hs _ h)) (fun h => Or.inr (hs _ h))) hA
  refine ⟨D, fun n => if n < 100 then f n else if n < 110 then adK (n - 100) else adV (n - 110), ⟨⟨⟨hD, ?_⟩, fun n h => h.elim, fun n m h => h.elim, ⟨fun n => ⟨fun h => h.elim, fun h => ?_⟩, fun n k h => h.elim, fun n h => h.elim⟩, fun n k h => h.elim⟩, fun n h => h.elim, va_S.rf, ⟨fun w hw => ?_, ⟨⟨fun i hi => ?_, fun i j hi hj hij => ?_⟩, ?_, ?_, ?_⟩, ?_, ?_, ?_, ?_⟩⟩, ?_, ?_, ?_⟩
  · exact hf
  · exact absurd h (by show ¬ (0 : Int32) = 1; decide)
  · have h1 : ∀ w ∈ zNest, w ∈ lw_tbl := by decide +kernel
    have h2 : ∀ w ∈ zNest, w.onTables = true := by decide +kernel
    exact va_Nw.of (h2 w hw) (hts w (h1 w hw))
  · have e1 : ¬ 100 + i < 100 := by omega
    have e2 : 100 + i < 110 := by omega
    have e3 : ¬ 110 + i < 100 := by omega
    have e4 : ¬ 110 + i < 110 := by omega
    simp only [if_neg e1, if_pos e2, if_neg e3, if_neg e4, Nat.add_sub_cancel_left]
    exact hS.1 i hi
  · have e1 : ¬ 100 + i < 100 := by omega
    have e2 : 100 + i < 110 := by omega
    have e3 : ¬ 100 + j < 100 := by omega
    have e4 : 100 + j < 110 := by omega
    simp only [if_neg e1, if_pos e2, if_neg e3, if_pos e4, Nat.add_sub_cancel_left] at hij
    exact hS.2 i j hi hj hij
  · exact vk_R.of (hts (.stringRef "ForeignKnit$Tape" 59 (zTx 0)) (by decide +kernel)) (hE 0 (by decide))
  · exact vk_R.of (hts (.stringRef "ForeignKnit$Tape" 67 (zTx 1)) (by decide +kernel)) (hE 1 (by decide))
  · exact vk_R.of (hts (.stringRef "ForeignKnit" 314 (zTx 2)) (by decide +kernel)) (hE 2 (by decide))
  · refine va_Zof (hts (.laysStatic "java/lang/String" "COMPACT_STRINGS" "Z") (by decide +kernel)) (hts (.initialized "java/lang/String") (by decide +kernel)) ?_ hA
    have h9 : (Cond.eq (.static "java/lang/String" "COMPACT_STRINGS" "Z") (.int 1)).value #[Value.ref b] s none s [] = some true := by
      have h8 := hs (.eq (.static "java/lang/String" "COMPACT_STRINGS" "Z") (.int 1)) (by decide +kernel)
      simpa [Cond.before, Cond.holds] using h8
    exact va_eqI h9 (by simp [Term.eval])
  · exact va_Zqof (hts (.laysStatic "jdk/internal/util/Preconditions" "SIOOBE_FORMATTER" "Ljava/util/function/BiFunction;") (by decide +kernel)) (hts (.initialized "jdk/internal/util/Preconditions") (by decide +kernel)) (hs (.isRef (.static "jdk/internal/util/Preconditions" "SIOOBE_FORMATTER" "Ljava/util/function/BiFunction;")) (by decide +kernel)) hA
  · exact va_AO.of (hts (.arrayOver (.object "ForeignKnit$Hand")) (by decide +kernel))
  · exact hts (.arrayOver (.array .int)) (by decide +kernel)
  · have h1 : ∀ w ∈ zTnL, w ∈ lw_tbl := by decide +kernel
    exact fun w hw => va_Nw.of (zTnL_tab hw) (hts w (h1 w hw))
  · exact vx_Zqof (hts (.laysStatic Bundle.tN "UNASSIGNED_STACK" Bundle.steD) (by decide +kernel)) (hts (.initialized Bundle.tN) (by decide +kernel)) (hs (.isRef (.static Bundle.tN "UNASSIGNED_STACK" Bundle.steD)) (by decide +kernel)) hA
  · exact vx_Zqof (hts (.laysStatic Bundle.tN "SUPPRESSED_SENTINEL" Bundle.listD) (by decide +kernel)) (hts (.initialized Bundle.tN) (by decide +kernel)) (hs (.isRef (.static Bundle.tN "SUPPRESSED_SENTINEL" Bundle.listD)) (by decide +kernel)) hA
end ZST

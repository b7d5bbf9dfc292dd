/-! System.arraycopy, new arrays -/
/-- w, but n ints from src's place sp on put into dst from dp on -/
def cI (w : zW) (src sp dst dp n : Nat) : zW := (fun a b => if a = dst ∧ dp ≤ b ∧ b < dp + n then w.1 src (sp + (b - dp)) else w.1 a b, w.2)
section ZMORE
variable {p : Program} {l : Launch} {e : Env} {R : Room} {s : State} {m : MethodId} {args : Array Value} {below : List Frame} {meth : Method} {c : Code} {H : Heap} {locs : List Loc} {cells slots : Nat} {Q : State → Prop}
variable {cc : ByteArray} {pc nL index n k ci N : Nat} {ls : Array Slot} {rest : List Value} {D : va_G} {dA : Nat → ClassId} {md : Bool} {ad ad0 : Nat → Nat} {al al0 : Nat → Prop} {w : zW} {own : String} {ret : Option FieldType}
theorem z_nn {z : Int32} (hz : ¬ z < 0) : z.toInt = (z.toNatClampNeg : Int) := by
  have hz0 : (0 : Int) ≤ z.toInt := by
    have := Int32.not_lt.mp hz
    simpa using Int32.le_iff_toInt_le.mp this
  show z.toInt = ((z.toInt.toNat : Nat) : Int)
  omega
theorem z_copyi (X : zCx p s m args meth c cc nL own ret) (hR : zSt D dA md ad0 al0 ad al w s H locs) (hml : c.maxLocals = ls.size)
    (hlink : Cond.methodLink own index arraycopyName ∈ zG) (hnat : Cond.native arraycopyName ∈ zG) (hstat : Cond.static arraycopyName ∈ zG) (hini : Cond.initialized "java/lang/System" ∈ zG)
    {src dst n0 n1 : Nat} (ha : al src) (hs : zsh src = 20) (hn0 : zln src = n0) (hb : al dst) (hd : zsh dst = 20) (hn1 : zln dst = n1) {sp dp n : Int32} (h1 : ¬ sp < 0) (h2 : ¬ dp < 0) (h3 : ¬ n < 0) (h4 : sp.toNatClampNeg + n.toNatClampNeg ≤ n0) (h5 : dp.toNatClampNeg + n.toNatClampNeg ≤ n1)
    (hframes : 1 ≤ R.frames) (hlocals : (rest.map fun v => v.category).sum + (nativeFrameWords "java/lang/System" "arraycopy" 5 + 11) ≤ R.locals) (hdg : decode cc pc = .ok (.invokestatic index, 3))
    (kk : ∀ (H1 : Heap) (locs1 : List Loc), zSt D dA md ad0 al0 ad al (cI w src sp.toNatClampNeg dst dp.toNatClampNeg n.toNatClampNeg) s H1 locs1 → W p l e R s m args below meth c H1 locs1 cells slots Q (F0 m (pc + 3) ls rest)) : W p l e R s m args below meth c H locs cells slots Q (F0 m pc ls (.int n :: .int dp :: .ref (ad dst) :: .int sp :: .ref (ad src) :: rest)) := by
  obtain ⟨hx, hb', -, hown, hts, -, -⟩ := X
  intro T hT X
  have htag : ∀ a, zsh a = 20 → ∀ k', ztag md a k' = 0 := fun a h k' => by unfold ztag; rw [h]; rfl
  have hf : ∀ a, zsh a = 20 → (fun k' => zv md ad w a k') = fun j => Value.int (gI w a j) := fun a h => funext fun j => zv_I (htag a h j)
  have hc0 : H[ad src]? = some (arrV (dA 20) n0 (fun j => .int (gI w src j))) := by rw [zarr hR ha hs (by decide) hn0, hf src hs]
  have hc1 : H[ad dst]? = some (arrV (dA 20) n1 (fun j => .int (gI w dst j))) := by rw [zarr hR hb hd (by decide) hn1, hf dst hd]
  obtain ⟨-, k0, hk0, cm0, hkk0⟩ := (hR.1.1.2 0 _ rfl).1 n0 (fun j => .int (gI w src j))
  obtain ⟨-, k1, hk1, cm1, hkk1⟩ := (hR.1.1.2 0 _ rfl).1 n1 (fun j => .int (gI w dst j))
  obtain ⟨vm', X', step⟩ := X.arraycopy hx hown (hts _ hlink) (hts _ hnat) (hts _ hstat) (hts _ hini) (src := ad src) (dst := ad dst) (cs := arrV (dA 20) n0 (fun j => .int (gI w src j))) (cd := arrV (dA 20) n1 (fun j => .int (gI w dst j))) (srcPos := sp) (destPos := dp) (n := n) (by rw [hT]; exact hc0) (by rw [hT]; exact hc1)
    (fun _ h => by cases h) (fun _ h => by cases h) (fun h => by cases h) (fun h => by cases h) hk0 hk1 hkk0 hkk1 (by simp [refKind]) h1 h2 h3
    (by rw [z_nn h1, z_nn h3, arrV_size]; omega)
    (by rw [z_nn h2, z_nn h3, arrV_size]; omega)
    (fun vm₁ _ i hi => by
      have e : (arrV (dA 20) n0 (fun j => Value.int (gI w src j))).slots.getD (sp.toNatClampNeg + i) .null = .int (gI w src (sp.toNatClampNeg + i)) := by
        rw [Array.getD_eq_getD_getElem?, arrV_read _ _ (by omega)]
        rfl
      refine ⟨?_, ?_⟩
      · rw [e]
        rfl
      · rw [e]
        exact trivial)
    (g := F0 m pc ls (.int n :: .int dp :: .ref (ad dst) :: .int sp :: .ref (ad src) :: rest)) rfl (by rw [hml]) (rest := rest) rfl (by rw [hb']; exact hdg) hframes (by show 2 * 0 + _ + _ ≤ _; omega)
  have e1 : copied (arrV (dA 20) n0 (fun j => .int (gI w src j))) (arrV (dA 20) n1 (fun j => .int (gI w dst j))) sp dp n = arrV (dA 20) n1 (fun j => .int (va_cpy (gI w src) (gI w dst) sp.toNatClampNeg dp.toNatClampNeg n.toNatClampNeg j)) := va_copied (fun z => .int z) _ _ (gI w src) (gI w dst) h4
  rw [e1] at X' step
  have hl : ad dst < H.size := (Array.getElem?_eq_some_iff.mp hc1).1
  generalize hC : arrV (dA 20) n1 (fun j => Value.int (va_cpy (gI w src) (gI w dst) sp.toNatClampNeg dp.toNatClampNeg n.toNatClampNeg j)) = C at X' step
  have hheap : ((T.setVm vm').setCell (ad dst) C).heap = H.setIfInBounds (ad dst) C := by rw [← hT]; rfl
  have oq : ∀ q : Nat, q ≠ ad dst → (H.setIfInBounds (ad dst) C)[q]? = H[q]? := fun q hq => by simp [Array.getElem?_setIfInBounds, Ne.symm hq]
  obtain ⟨hRel, hRA, hRS, hEv⟩ := hR
  have hz : ∀ n' k', n' ≠ dst → zv md ad (cI w src sp.toNatClampNeg dst dp.toNatClampNeg n.toNatClampNeg) n' k' = zv md ad w n' k' := by
    intro n' k' h
    unfold zv
    simp [gI, gL, gR, cI, h]
  have hzd : (fun k' => zv md ad (cI w src sp.toNatClampNeg dst dp.toNatClampNeg n.toNatClampNeg) dst k') = fun j => Value.int (va_cpy (gI w src) (gI w dst) sp.toNatClampNeg dp.toNatClampNeg n.toNatClampNeg j) := by
    funext j
    rw [zv_I (htag dst hd j)]
    simp [gI, cI, va_cpy]
  have hnew : zRel D dA md ad al (cI w src sp.toNatClampNeg dst dp.toNatClampNeg n.toNatClampNeg) s (H.setIfInBounds (ad dst) C) := by
    obtain ⟨hK, hCe, hI, hB, hW⟩ := hRel
    refine ⟨hK, fun n' hn' => ?_, hI, ⟨fun n' => (hB.1 n').trans (zgh_eq (fun j => by simp [gI, cI, Ne.symm (zne0 hd (by decide))]) n').symm, hB.2⟩, hW⟩
    by_cases e : n' = dst
    · subst e
      unfold zcell
      rw [if_neg (by rw [hd]; decide), hd, hn1, hzd, hC]
      simp [Array.getElem?_setIfInBounds, hl]
    · exact (hCe n' hn').to rfl (oq (ad n') (fun z => e (hI n' dst hn' hb z))) (fun k' _ => hz n' k' e)
  obtain ⟨t, a1, b1⟩ := kk _ _ ⟨hnew, hRA, ⟨by simp; exact hRS.1, fun q g1 g2 => by
      rw [oq q (fun e => g2 (by rw [e]; exact hRA dst hb))]
      exact hRS.2.1 q g1 g2, fun q hq => by
      rcases List.mem_append.mp hq with h | h
      · exact hRS.2.2 q h
      · obtain ⟨z, -, hz⟩ := List.mem_map.mp h
        rw [← hz]
        exact hRA dst hb⟩, hEv⟩ _ hheap X'
  exact ⟨t, step t a1, b1⟩
end ZMORE

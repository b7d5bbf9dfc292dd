/-! Level 2: one draft of the reference -/
theorem q12_drawsOne {B : zBk} {S : Nat → Int32} {g : Nat} {w : zW} {k : Int32 → zW → Prop} (hwf : zWF B) (hB : zRB B w) (hd : zHd B S) (hS : ∀ i, i < 12 → gI w 220 i = S i) (hp : ∀ o, o < bW B → 0 < zcnt 9 (bMn B o)) (hg : g < 2147483648) (hL : gL w 200 42 = Int64.ofNat g)
    (hk : ∀ v : zW, (∀ a c, gR v a c = gR w a c) → (∀ a c, a ≠ 200 → gL v a c = gL w a c) → (∀ a c, a ≠ 227 → a ≠ 228 → (a = 200 → c ≠ 29 ∧ c ≠ 30) → gI v a c = gI w a c) → gL v 200 42 = Int64.ofNat (zgi g (bW B)) → gI v 200 29 = Int32.ofNat (zbits (bR B) (fun r => !zDn B (zmd B g) r)) → gI v 200 30 = Int32.ofNat (zof B S (zmd B g)) → k (Int32.ofNat (zb2n (zgum B S (zmd B g)))) v) : fX12_drawsOne w k := by
  have h4 := wf_W hwf
  have hm9 := zmd_lt hp g
  unfold fX12_drawsOne
  refine zinv (fun n (s : Int32 × Int32 × zW) => fX12_drawsOne_L4 k n s.1 s.2.1 s.2.2) (fun i s => ∃ (f : Bool) (v : zW), s = (Int32.ofNat (zb2n f), Int32.ofNat i, v) ∧ (∀ a c, gR v a c = gR w a c) ∧ (∀ a c, a ≠ 200 → gL v a c = gL w a c) ∧ (∀ a c, a ≠ 227 → gI v a c = gI w a c) ∧ gL v 200 42 = Int64.ofNat (zgi g i) ∧ (∀ o, o < i → gI v 227 o = Int32.ofNat (zmd B g o)) ∧ (f = true ↔ ∀ o, o < i → S o = zN1 ∨ S o = Int32.ofNat (zmd B g o))) (bW B) (s0 := (1, 0, w)) ?_ ?_ ?_
  · exact ⟨true, w, rfl, fun _ _ => rfl, fun _ _ _ => rfl, fun _ _ _ => rfl, hL, fun o ho => absurd ho (Nat.not_lt_zero o), ⟨fun _ o ho => absurd ho (Nat.not_lt_zero o), fun _ => rfl⟩⟩
  · rintro n s ⟨f, v, rfl, vR, vL, vf, v42, v227, vi⟩
    have hBv : zRB B v := zRB_of hB (fun k _ => vf 210 k (by omega)) (fun k _ => vf 211 k (by omega)) (fun k => vf 223 k (by omega)) (fun k => vf 224 k (by omega)) (fun k => vf 225 k (by omega)) hwf
    have hf : zgum B S (zmd B g) = f := by
      rw [zgum]
      cases f with
      | true => exact decide_eq_true (vi.mp rfl)
      | false => exact decide_eq_false (fun z => absurd (vi.mpr z) (by decide))
    rw [hf] at hk
    show fX12_drawsOne_L4 k (n + 1) (Int32.ofNat (zb2n f)) (Int32.ofNat (bW B)) v
    rw [fX12_drawsOne_L4]
    show fX12_wordsTold v _
    rw [fX12_wordsTold, show (0 : Int32).toNatClampNeg = 0 from rfl, rb_W hBv]
    refine ⟨fun _ => ?_, fun q => absurd (Int32.le_refl _) q⟩
    refine q12_goes hwf hBv hd (fun i hi => by rw [vf 220 i (by omega)]; exact hS i hi) v227 hm9 (fun u u2 uf u29 u30 _ => ?_)
    have uR : ∀ a c, gR u a c = gR v a c := fun a c => by rw [gR, gR, u2]
    have uL : ∀ a c, gL u a c = gL v a c := fun a c => by rw [gL, gL, u2]
    refine ⟨by cases f; exact Or.inl rfl; exact Or.inr rfl, ?_⟩
    exact hk u (fun a c => (uR a c).trans (vR a c)) (fun a c q => (uL a c).trans (vL a c q)) (fun a c q1 q2 q3 => (uf a c q2 q3).trans (vf a c q1)) ((uL _ _).trans v42) u29 u30
  · rintro i n s hi ⟨f, v, rfl, vR, vL, vf, v42, v227, vi⟩ hc
    have hBv : zRB B v := zRB_of hB (fun k _ => vf 210 k (by omega)) (fun k _ => vf 211 k (by omega)) (fun k => vf 223 k (by omega)) (fun k => vf 224 k (by omega)) (fun k => vf 225 k (by omega)) hwf
    have h9 := zcnt_le 9 (bMn B i)
    have hgi := zgi_lt hg i
    have hgl := zlcg_lt (zgi g i)
    show fX12_drawsOne_L4 k (n + 1) (Int32.ofNat (zb2n f)) (Int32.ofNat i) v
    rw [fX12_drawsOne_L4]
    show fX12_wordsTold v _
    rw [fX12_wordsTold, show (0 : Int32).toNatClampNeg = 0 from rfl, rb_W hBv]
    refine ⟨fun q => absurd q (zi_nge hi (by omega)), fun _ => ⟨zi_in (by omega) (by omega), ?_⟩⟩
    rw [zi_nat (show i < 2 ^ 31 by omega), rb_Sz hBv (by omega)]
    intro w1 e1
    rw [v42, zlcg_64 hgi] at e1
    have l1 : gL w1 200 42 = Int64.ofNat (zlcg (zgi g i)) := by rw [e1, gL_sL_eq]
    obtain ⟨d1, d2⟩ := zdrw_64 hgl (hp i hi) h9
    refine ⟨zsz_64 (hp i hi) h9, ?_⟩
    rw [l1, d1]
    have f1 : ∀ a c, gI w1 a c = gI v a c := fun a c => by rw [e1, gI_sL]
    have hB1 : zRB B w1 := zRB_of hBv (fun k _ => f1 210 k) (fun k _ => f1 211 k) (fun k => f1 223 k) (fun k => f1 224 k) (fun k => f1 225 k) hwf
    refine q12_seek hB1 (by omega) d2 (fun u eu => ?_)
    have em : (zml (bMn B i)).getD (zdrw (zlcg (zgi g i)) (zcnt 9 (bMn B i))) 0 = zmd B g i := by rw [zmd, if_pos hi]; rfl
    rw [em] at eu
    rw [em]
    have uf : ∀ a c, a ≠ 227 → gI u a c = gI w a c := fun a c q => by rw [eu, gI_sI_ne q, f1]; exact vf a c q
    have u220 : gI u 220 i = S i := by rw [uf 220 i (by omega)]; exact hS i (by omega)
    have hall : ∀ f2 : Bool, (f2 = true ↔ ∀ o, o < i + 1 → S o = zN1 ∨ S o = Int32.ofNat (zmd B g o)) → fX12_drawsOne_L4 k n (Int32.ofNat (zb2n f2)) (Int32.ofNat i + (1 : Int32)) u := by
      intro f2 h2
      rw [zl1, zi_add]
      refine hc (Int32.ofNat (zb2n f2), Int32.ofNat (i + 1), u) ⟨f2, u, rfl, fun a c => ?_, fun a c q => ?_, uf, ?_, fun o ho => ?_, h2⟩
      · rw [eu, gR_sI, e1, gR_sL]; exact vR a c
      · rw [eu, gL_sI, e1, gL_sL_ne q]; exact vL a c q
      · rw [eu, gL_sI]; exact l1
      · rw [eu]
        by_cases q : o = i
        · rw [q, gI_sI_eq]
        · rw [gI_sI_ne2 q, f1]; exact v227 o (by omega)
    have hs := hd.1 i (by omega)
    refine ⟨fun z => ?_, fun z => ⟨zi_in (by omega) (by omega), fun y => ?_, fun y => ?_⟩⟩
    · have hf : f = false := by cases f; rfl; exact absurd z (by decide)
      refine hall false ⟨fun y => absurd y (by decide), fun y => ?_⟩
      have := vi.mpr (fun o ho => y o (by omega))
      rw [hf] at this
      exact this
    · have hf : f = true := by cases f; exact absurd rfl z; rfl
      rw [zi_nat (show i < 2 ^ 31 by omega), u220] at y
      refine hall true ⟨fun _ o ho => ?_, fun _ => rfl⟩
      by_cases q : o = i
      · rw [q]
        rcases hs with hs | ⟨m, hm, hs⟩
        · exact Or.inl hs
        · rw [hs] at y; exact ((zi_lt0 (by omega)).mp y).elim
      · exact vi.mp hf o (by omega)
    · have hf : f = true := by cases f; exact absurd rfl z; rfl
      rw [zi_nat (show i < 2 ^ 31 by omega), u220] at y
      intro v17 e17
      rw [zi_nat (show i < 2 ^ 31 by omega), u220] at e17
      by_cases q : S i = Int32.ofNat (zmd B g i)
      · have e : v17 = Int32.ofNat (zb2n true) := e17.trans (if_neg (fun x => x q))
        rw [e]
        refine hall true ⟨fun _ o ho => ?_, fun _ => rfl⟩
        by_cases q2 : o = i
        · rw [q2]; exact Or.inr q
        · exact vi.mp hf o (by omega)
      · have e : v17 = Int32.ofNat (zb2n false) := e17.trans (if_pos q)
        rw [e]
        refine hall false ⟨fun x => absurd x (by decide), fun x => ?_⟩
        rcases x i (by omega) with x | x
        · exact absurd (show S i < 0 by rw [x]; decide) y
        · exact absurd x q

/-! Level 2: drafts, one after another -/
def zGd (B : zBk) (g : Nat) : Nat → Nat
  | 0 => g
  | n + 1 => zgi (zGd B g n) (bW B)
def zft (B : zBk) (S : Nat → Int32) (g : Nat) : Nat → Nat
  | 0 => 0
  | n + 1 => zft B S g n + zb2n (zdok B S (zmd B (zGd B g n)))
def zupd (B : zBk) (g : Nat) : Nat → Nat
  | 0 => 0
  | n + 1 => zupd B g n + zcnt (bR B) (fun r => !zDn B (zmd B (zGd B g n)) r)
def zfi (B : zBk) (S : Nat → Int32) (g : Nat) : Nat → Int32
  | 0 => zN1
  | n + 1 => if zdok B S (zmd B (zGd B g n)) = true then (if zfi B S g n = zN1 then Int32.ofNat n else zfi B S g n) else zfi B S g n
theorem zGd_lt {B : zBk} {g : Nat} (hg : g < 2147483648) (n : Nat) : zGd B g n < 2147483648 := by
  induction n with
  | zero => exact hg
  | succ n ih => exact zgi_lt ih _
theorem zfi_sm (B : zBk) (S : Nat → Int32) (g n : Nat) : zsm n (zfi B S g n) := by
  induction n with
  | zero => exact Or.inl rfl
  | succ n ih =>
    rw [zfi]
    by_cases q : zdok B S (zmd B (zGd B g n)) = true
    · rw [if_pos q]
      by_cases y : zfi B S g n = zN1
      · rw [if_pos y]; exact Or.inr ⟨n, Nat.lt_succ_self n, rfl⟩
      · rw [if_neg y]
        rcases ih with e | ⟨m, hm, e⟩
        · exact absurd e y
        · exact Or.inr ⟨m, by omega, e⟩
    · rw [if_neg q]
      rcases ih with e | ⟨m, hm, e⟩
      · exact Or.inl e
      · exact Or.inr ⟨m, by omega, e⟩
theorem zbits_not (n : Nat) (p : Nat → Bool) : zbits n (fun i => !p i) + zbits n p = 2 ^ n - 1 := by
  induction n with
  | zero => rfl
  | succ n ih =>
    have := Nat.two_pow_pos n
    rw [zbits_S, zbits_S, Nat.pow_succ]
    by_cases q : p n = true
    · rw [if_pos q, if_neg (show ¬ (!p n) = true by rw [q]; decide)]; omega
    · rw [if_neg q, if_pos (show (!p n) = true by rw [eq_false_of_ne_true q]; decide)]; omega
theorem q11_draftsL {B : zBk} {S : Nat → Int32} {N : zNt} {b nn g c : Nat} {x3 : Int32} {w : zW} {k : Int32 → zW → Prop} (h : zInv B S N b nn w) (hp : ∀ o, o < bW B → 0 < zcnt 9 (bMn B o)) (hg : g < 2147483648) (hc99 : c ≤ 99)
    (hk : k (if ¬ x3 = 0 then (if ¬ x3 = (1 : Int32) then zfi B S g c else Int32.ofNat (zupd B g c)) else Int32.ofNat (zft B S g c)) w) :
    ∃ n9, fX11_drafts_L71 k n9 (Int32.ofNat c) x3 (0 : Int32) (0 : Int32) (-1 : Int32) (Int64.ofNat g) (0 : Int32) w := by
  refine zrun (fun n (s : Int32 × Int32 × Int32 × Int64 × Int32) => fX11_drafts_L71 k n (Int32.ofNat c) x3 s.1 s.2.1 s.2.2.1 s.2.2.2.1 s.2.2.2.2 w) (fun i => (Int32.ofNat (zft B S g i), Int32.ofNat (zupd B g i), zfi B S g i, Int64.ofNat (zGd B g i), Int32.ofNat i)) c (fun n => ?_) (fun i n hi hc => ?_)
  · rw [fX11_drafts_L71]
    try dsimp only
    refine ⟨fun _ => ?_, fun q => absurd (Int32.le_refl _) q⟩
    intro v12 e12
    rw [e12]
    exact hk
  · rw [fX11_drafts_L71]
    try dsimp only
    refine ⟨fun q => absurd q (zi_nge hi (by omega)), fun _ => ?_⟩
    exact q11_draft h hp (zGd_lt hg i) hc
theorem q12_isAny {B : zBk} {w : zW} {k : Int32 → zW → Prop} (hwf : zWF B) (hB : zRB B w)
    (hk : ∀ f : Bool, (f = true ↔ ∀ o, o < bW B → 0 < zcnt 9 (bMn B o)) → k (Int32.ofNat (zb2n f)) w) : fX12_isAny w k := by
  have h4 := wf_W hwf
  unfold fX12_isAny
  refine zinv (fun n (s : Int32 × Int32) => fX12_isAny_L4 k n s.1 s.2 w) (fun i s => ∃ f : Bool, s = (Int32.ofNat (zb2n f), Int32.ofNat i) ∧ (f = true ↔ ∀ o, o < i → 0 < zcnt 9 (bMn B o))) (bW B) (s0 := (1, 0)) ?_ ?_ ?_
  · exact ⟨true, rfl, ⟨fun _ o ho => absurd ho (Nat.not_lt_zero o), fun _ => rfl⟩⟩
  · rintro n s ⟨f, rfl, vi⟩
    show fX12_isAny_L4 k (n + 1) (Int32.ofNat (zb2n f)) (Int32.ofNat (bW B)) w
    rw [fX12_isAny_L4]
    show fX12_wordsTold w _
    rw [fX12_wordsTold, show (0 : Int32).toNatClampNeg = 0 from rfl, rb_W hB]
    refine ⟨fun _ => ⟨by cases f; exact Or.inl rfl; exact Or.inr rfl, hk f vi⟩, fun q => absurd (Int32.le_refl _) q⟩
  · rintro i n s hi ⟨f, rfl, vi⟩ hc
    have h9 := zcnt_le 9 (bMn B i)
    show fX12_isAny_L4 k (n + 1) (Int32.ofNat (zb2n f)) (Int32.ofNat i) w
    rw [fX12_isAny_L4]
    show fX12_wordsTold w _
    rw [fX12_wordsTold, show (0 : Int32).toNatClampNeg = 0 from rfl, rb_W hB]
    refine ⟨fun q => absurd q (zi_nge hi (by omega)), fun _ => ⟨fun z => ?_, fun z => ⟨zi_in (by omega) (by omega), ?_⟩⟩⟩
    · have hf : f = false := by cases f; rfl; exact absurd z (by decide)
      rw [zl1, zi_add]
      refine hc (Int32.ofNat (zb2n false), Int32.ofNat (i + 1)) ⟨false, rfl, ⟨fun y => absurd y (by decide), fun y => ?_⟩⟩
      have := vi.mpr (fun o ho => y o (by omega))
      rw [hf] at this
      exact this
    · have hf : f = true := by cases f; exact absurd rfl z; rfl
      rw [zi_nat (show i < 2 ^ 31 by omega), rb_Sz hB (by omega)]
      intro v5 e5
      rw [zl1, zi_add]
      by_cases y : zcnt 9 (bMn B i) = 0
      · have e : v5 = Int32.ofNat (zb2n false) := e5.trans (if_pos (by rw [y]; decide))
        rw [e]
        refine hc (Int32.ofNat (zb2n false), Int32.ofNat (i + 1)) ⟨false, rfl, ⟨fun x => absurd x (by decide), fun x => ?_⟩⟩
        have := x i (by omega)
        omega
      · have e : v5 = Int32.ofNat (zb2n true) := e5.trans (if_neg (fun x => y (Nat.le_zero.mp ((zi_le (b := 0) (by omega) (by decide)).mp x))))
        rw [e]
        refine hc (Int32.ofNat (zb2n true), Int32.ofNat (i + 1)) ⟨true, rfl, ⟨fun _ o ho => ?_, fun _ => rfl⟩⟩
        by_cases q : o = i
        · rw [q]; omega
        · exact vi.mp hf o (by omega)
theorem q12_draftsL {B : zBk} {S : Nat → Int32} {N : zNt} {b nn g c : Nat} {x3 : Int32} {w : zW} {k : Int32 → zW → Prop} (h : zInv B S N b nn w) (hp : ∀ o, o < bW B → 0 < zcnt 9 (bMn B o)) (hg : g < 2147483648) (hc99 : c ≤ 99) (hL : gL w 200 42 = Int64.ofNat g)
    (hk : ∀ v, zInv B S N b nn v → zfl w v → k (if ¬ x3 = 0 then (if ¬ x3 = (1 : Int32) then zfi B S g c else Int32.ofNat (zupd B g c)) else Int32.ofNat (zft B S g c)) v) :
    ∃ n9, fX12_drafts_L56 k n9 (Int32.ofNat c) x3 (0 : Int32) (0 : Int32) (-1 : Int32) (0 : Int32) w := by
  have hwf := iv_wf h
  have h8 := wf_R hwf
  refine zinv (fun n (s : Int32 × Int32 × Int32 × Int32 × zW) => fX12_drafts_L56 k n (Int32.ofNat c) x3 s.1 s.2.1 s.2.2.1 s.2.2.2.1 s.2.2.2.2) (fun i s => ∃ v : zW, s = (Int32.ofNat (zft B S g i), Int32.ofNat (zupd B g i), zfi B S g i, Int32.ofNat i, v) ∧ zInv B S N b nn v ∧ zfl w v ∧ gL v 200 42 = Int64.ofNat (zGd B g i)) c (s0 := (0, 0, -1, 0, w)) ?_ ?_ ?_
  · exact ⟨w, rfl, h, ⟨rfl, rfl⟩, hL⟩
  · rintro n s ⟨v, rfl, vi, vfl, vL⟩
    show fX12_drafts_L56 k (n + 1) (Int32.ofNat c) x3 (Int32.ofNat (zft B S g c)) (Int32.ofNat (zupd B g c)) (zfi B S g c) (Int32.ofNat c) v
    rw [fX12_drafts_L56]
    refine ⟨fun _ => ?_, fun q => absurd (Int32.le_refl _) q⟩
    intro v10 e10
    rw [e10]
    exact hk v vi vfl
  · rintro i n s hi ⟨v, rfl, vi, vfl, vL⟩ hc
    show fX12_drafts_L56 k (n + 1) (Int32.ofNat c) x3 (Int32.ofNat (zft B S g i)) (Int32.ofNat (zupd B g i)) (zfi B S g i) (Int32.ofNat i) v
    rw [fX12_drafts_L56]
    refine ⟨fun q => absurd q (zi_nge hi (by omega)), fun _ => ?_⟩
    refine q12_isAny hwf (iv_rb vi) (fun f hf => ?_)
    have hft : f = true := hf.mpr hp
    rw [hft]
    refine ⟨fun z => absurd z (by decide), fun _ => ?_⟩
    refine q12_drawsOne hwf (iv_rb vi) (iv_ha vi).1 (iv_ha vi).2.1 hp (zGd_lt hg i) vL (fun u uR uL uf u42 u29 u30 => ?_)
    have ui : zInv B S N b nn u := zInv_L vi (fun a c q => uf a c (by unfold zkeep at q; omega) (by unfold zkeep at q; omega) (by unfold zkeep at q; omega)) uR uL
    have ufl : zfl w u := ⟨(uf 0 140 (by omega) (by omega) (by omega)).trans vfl.1, (uR 24 4).trans vfl.2⟩
    have hl := zbits_lt (bR B) (fun r => !zDn B (zmd B (zGd B g i)) r)
    have hpw : 2 ^ bR B ≤ 2 ^ 8 := Nat.pow_le_pow_right (by omega) h8
    have hpp := Nat.two_pow_pos (bR B)
    have hnt := zbits_not (bR B) (zDn B (zmd B (zGd B g i)))
    have hofl := zof_lt hwf S (zmd B (zGd B g i))
    have hJ : fX12_drafts_J99 k (fX12_drafts_L56 k n) (Int32.ofNat c) x3 (Int32.ofNat (zft B S g i)) (Int32.ofNat (zupd B g i)) (zfi B S g i) (Int32.ofNat i) (Int32.ofNat (zb2n (zdok B S (zmd B (zGd B g i))))) u := by
      intro v16 e16 v17 e17
      rw [u29]
      refine q12_bits (by omega) ?_
      rw [show zones (zbits (bR B) (fun r => !zDn B (zmd B (zGd B g i)) r)) = zcnt (bR B) (fun r => !zDn B (zmd B (zGd B g i)) r) from zones_bits (by omega) _]
      intro v19 e19 v20 e20
      rw [zi_add] at e19
      have a1 : v17 = Int32.ofNat (zft B S g (i + 1)) := by
        rw [e17, e16, zft]
        cases zdok B S (zmd B (zGd B g i)) with
        | true => rw [if_neg (by decide)]; exact zi_add _ 1
        | false => rw [if_pos (by decide)]; exact zi_add _ 0
      have a2 : v19 = Int32.ofNat (zupd B g (i + 1)) := e19
      have a3 : v20 = zfi B S g (i + 1) := by
        rw [e20, zfi]
        cases zdok B S (zmd B (zGd B g i)) with
        | true =>
          rw [if_neg (by decide), if_pos rfl]
          rcases zfi_sm B S g i with e | ⟨m, hm, e⟩
          · rw [e, if_neg (by decide), if_pos rfl]
          · rw [e, if_pos (show (0 : Int32) ≤ Int32.ofNat m from (zi_le (a := 0) (by decide) (by omega)).mpr (Nat.zero_le _)), if_neg (zN1_ne (by omega))]
        | false => rw [if_pos (by decide), if_neg (by decide)]
      rw [a1, a2, a3, zl1, zi_add]
      exact hc (Int32.ofNat (zft B S g (i + 1)), Int32.ofNat (zupd B g (i + 1)), zfi B S g (i + 1), Int32.ofNat (i + 1), u) ⟨u, rfl, ui, ufl, u42⟩
    have hok : zdok B S (zmd B (zGd B g i)) = (zdn B (zmd B (zGd B g i)) == 0 && (zgum B S (zmd B (zGd B g i)) && zof B S (zmd B (zGd B g i)) == 0)) := rfl
    refine ⟨fun z => ?_, fun z => ?_⟩
    · have hg0 : zgum B S (zmd B (zGd B g i)) = false := by
        cases q : zgum B S (zmd B (zGd B g i)) with
        | false => rfl
        | true => rw [q] at z; exact absurd z (by decide)
      rw [hg0, Bool.false_and, Bool.and_false] at hok
      rw [hok] at hJ
      exact hJ
    · have hg1 : zgum B S (zmd B (zGd B g i)) = true := by
        cases q : zgum B S (zmd B (zGd B g i)) with
        | true => rfl
        | false => rw [q] at z; exact absurd rfl z
      rw [hg1, Bool.true_and] at hok
      rw [fX12_allRows, fX12_rows, show (2 : Int32).toNatClampNeg = 2 from rfl, rb_R (iv_rb ui), zi_shl1 (by omega), zl1, zi_sub (by omega), u29]
      by_cases q : zdn B (zmd B (zGd B g i)) = 0
      · have q2 : zbits (bR B) (zDn B (zmd B (zGd B g i))) = 0 := q
        refine ⟨fun y => absurd (by rw [show zbits (bR B) (fun r => !zDn B (zmd B (zGd B g i)) r) = 2 ^ bR B - 1 by omega]) y, fun _ => ?_⟩
        rw [q, beq_self_eq_true, Bool.true_and] at hok
        intro v24 e24
        rw [u30] at e24
        have e : v24 = Int32.ofNat (zb2n (zdok B S (zmd B (zGd B g i)))) := by
          rw [hok, e24]
          by_cases y : zof B S (zmd B (zGd B g i)) = 0
          · rw [y, if_neg (fun x => x rfl)]; rfl
          · rw [if_pos (show ¬ Int32.ofNat (zof B S (zmd B (zGd B g i))) = 0 from fun x => y ((zi_eq (b := 0) (by omega) (by decide)).mp x)), beq_false_of_ne y]; rfl
        rw [e]
        exact hJ
      · have q2 : ¬ zbits (bR B) (zDn B (zmd B (zGd B g i))) = 0 := q
        rw [beq_false_of_ne q, Bool.false_and] at hok
        rw [hok] at hJ
        exact ⟨fun _ => hJ, fun y => absurd ((zi_eq (by omega) (by omega)).mp y) (by omega)⟩

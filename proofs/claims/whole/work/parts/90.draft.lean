/-! Level 2: one draft, on both sides -/
def zgum (B : zBk) (S : Nat → Int32) (m : Nat → Nat) : Bool := decide (∀ o, o < bW B → S o = zN1 ∨ S o = Int32.ofNat (m o))
/-- a draft fits -/
def zdok (B : zBk) (S : Nat → Int32) (m : Nat → Nat) : Bool := zdn B m == 0 && (zgum B S m && zof B S m == 0)
theorem q3_agreesM {B : zBk} {a b p : Nat} {S : Nat → Int32} {m : Nat → Nat} {w : zW} {k : Int32 → zW → Prop} (hwf : zWF B) (hcb : zCB B b w) (hd : zHd B S) (hS : ∀ i, i < 12 → gI w (a + 1) i = S i) (hp : p < 2 ^ 31) (hm : ∀ o, o < bW B → zdg p o = m o)
    (hk : k (Int32.ofNat (zb2n (zgum B S m && zof B S m == 0))) w) : fX3_agrees a b (Int32.ofNat p) w k := by
  have hl := zof_lt hwf S m
  rw [fX3_agrees]
  refine q3_guesses hwf hd hS hp hm ?_
  have hq : decide (∀ o, o < bW B → S o = zN1 ∨ S o = Int32.ofNat (m o)) = zgum B S m := rfl
  rw [hq]
  by_cases q : zgum B S m = true
  · rw [if_pos q]
    rw [q, Bool.true_and] at hk
    refine ⟨fun z => absurd z (by decide), fun _ => ?_⟩
    refine q3_missed hwf hcb hS hp hm ?_
    intro v4 e4
    by_cases z : zof B S m = 0
    · rw [z] at hk e4
      have e : v4 = Int32.ofNat 1 := e4.trans (if_neg (fun y => y rfl))
      rw [e]
      exact ⟨Or.inr rfl, hk⟩
    · rw [beq_false_of_ne z] at hk
      have e : v4 = Int32.ofNat 0 := e4.trans (if_pos (show ¬ Int32.ofNat (zof B S m) = 0 from fun y => z ((zi_eq (b := 0) (by omega) (by decide)).mp y)))
      rw [e]
      exact ⟨Or.inl rfl, hk⟩
  · rw [if_neg q]
    rw [eq_false_of_ne_true q, Bool.false_and] at hk
    exact ⟨fun _ => hk, fun z => absurd rfl z⟩
theorem zcnt_not (n : Nat) (p : Nat → Bool) : zcnt n (fun i => !p i) = n - zcnt n p := by
  induction n with
  | zero => rfl
  | succ n ih =>
    have := zcnt_le n p
    by_cases q : p n = true
    · rw [zcnt_t q, zcnt_f (p := fun i => !p i) (by show (!p n) = false; rw [q]; rfl), ih]; omega
    · rw [zcnt_f (eq_false_of_ne_true q), zcnt_t (p := fun i => !p i) (by show (!p n) = true; rw [eq_false_of_ne_true q]; rfl), ih]; omega
/-- the class: a draft from a number on -/
theorem q11_draft {B : zBk} {S : Nat → Int32} {N : zNt} {b nn g fit up i : Nat} {x2 x3 x6 : Int32} {w : zW} {k : Int32 → zW → Prop} {g71 : Int32 → Int32 → Int32 → Int32 → Int32 → Int64 → Int32 → zW → Prop} (h : zInv B S N b nn w) (hp : ∀ o, o < bW B → 0 < zcnt 9 (bMn B o)) (hg : g < 2147483648)
    (hk : g71 x2 x3 (Int32.ofNat (fit + zb2n (zdok B S (zmd B g)))) (Int32.ofNat (up + zcnt (bR B) (fun r => !zDn B (zmd B g) r))) (if zdok B S (zmd B g) = true then (if x6 = zN1 then Int32.ofNat i else x6) else x6) (Int64.ofNat (zgi g (bW B))) (Int32.ofNat (i + 1)) w) :
    ∃ n9, fX11_drafts_L83 k g71 n9 x2 x3 (Int32.ofNat fit) (Int32.ofNat up) x6 (Int64.ofNat g) (Int32.ofNat i) (0 : Int32) (0 : Int32) w := by
  have hwf := iv_wf h
  have hcb := iv_cb h
  have h4 := wf_W hwf
  have h8 := wf_R hwf
  have hb := (iv_re h).1
  have hr9 := (iv_re h).2.1
  have hm9 := zmd_lt hp g
  have hm16 : ∀ o, zmd B g o < 16 := fun o => by have := hm9 o; omega
  refine zrun (fun n (s : Int64 × Int32 × Int32) => fX11_drafts_L83 k g71 n x2 x3 (Int32.ofNat fit) (Int32.ofNat up) x6 s.1 (Int32.ofNat i) s.2.1 s.2.2 w) (fun j => (Int64.ofNat (zgi g j), Int32.ofNat (zpk j (zmd B g)), Int32.ofNat j)) (bW B) (fun n => ?_) (fun j n hj hc => ?_)
  · have hpl : zpk (bW B) (zmd B g) < 2 ^ 31 := Nat.lt_of_lt_of_le (zpk_lt hm16 (bW B)) (Nat.pow_le_pow_right (by omega) (by omega))
    have hdg : ∀ o, o < bW B → zdg (zpk (bW B) (zmd B g)) o = zmd B g o := fun o ho => zdg_pk hm16 ho
    have hcl := zcnt_le (bR B) (zDn B (zmd B g))
    have hnot := zcnt_not (bR B) (zDn B (zmd B g))
    have hdl := zdn_lt hwf (zmd B g)
    rw [fX11_drafts_L83]
    try dsimp only
    rw [hr9]
    refine ⟨by omega, ?_⟩
    rw [cb_W hcb]
    refine ⟨fun _ => ?_, fun q => absurd (Int32.le_refl _) q⟩
    refine q0_rowsDown (most := 8) (m := zmd B g) hwf hcb hpl (by omega) hdg hm9 ?_
    rw [if_pos (by omega), hr9]
    refine ⟨by omega, ?_⟩
    refine q_bitCount hdl ?_
    rw [show zones (zdn B (zmd B g)) = zcnt (bR B) (zDn B (zmd B g)) from zones_bits (by omega) _, cb_R hcb, zi_sub hcl, zi_add, ← hnot]
    intro v19 e19
    subst e19
    by_cases q0 : zdn B (zmd B g) = 0
    · refine ⟨fun q => absurd (by rw [q0]; rfl) q, fun _ => ?_⟩
      rw [hr9]
      refine ⟨by omega, ?_⟩
      refine q3_agreesM (m := zmd B g) hwf hcb (iv_ha h).1 (iv_ha h).2.2 hpl hdg ?_
      have hok : zdok B S (zmd B g) = (zgum B S (zmd B g) && zof B S (zmd B g) == 0) := by rw [zdok, q0, beq_self_eq_true, Bool.true_and]
      rw [hok] at hk
      cases hq : (zgum B S (zmd B g) && zof B S (zmd B g) == 0) with
      | true =>
        rw [hq, if_pos rfl] at hk
        refine ⟨fun z => absurd z (by decide), fun _ => ?_⟩
        intro v24 e24
        rw [zl1, zi_add, zi_add]
        have e : v24 = (if x6 = zN1 then Int32.ofNat i else x6) := by
          rw [e24]
          by_cases y : x6 = zN1
          · rw [if_pos y]; exact if_neg (fun u => u y)
          · rw [if_neg y]; exact if_pos y
        rw [e]
        exact hk
      | false =>
        rw [hq, if_neg (by decide)] at hk
        refine ⟨fun _ => ?_, fun z => absurd rfl z⟩
        rw [zl1, zi_add]
        exact hk
    · have hok : zdok B S (zmd B g) = false := by rw [zdok, beq_false_of_ne q0, Bool.false_and]
      rw [hok, if_neg (by decide)] at hk
      refine ⟨fun _ => ?_, fun q => absurd ((zi_eq (b := 0) (by omega) (by decide)).mp q) q0⟩
      rw [zl1, zi_add]
      exact hk
  · have hgj := zgi_lt hg j
    rw [fX11_drafts_L83]
    try dsimp only
    rw [hr9]
    refine ⟨by omega, ?_⟩
    rw [cb_W hcb]
    refine ⟨fun q => absurd q (zi_nge hj (by omega)), fun _ => ?_⟩
    intro v25 e25
    rw [zlcg_64 hgj] at e25
    subst e25
    refine q0_meaningBelow hwf hcb hj (hp j hj) (zlcg_lt _) ?_
    intro v27 e27
    have em : (zml (bMn B j)).getD (zdrw (zlcg (zgi g j)) (zcnt 9 (bMn B j))) 0 = zmd B g j := by rw [zmd, if_pos hj]; rfl
    rw [em, zl4, zi_mul, zpk_or hm16 (by omega)] at e27
    rw [e27, zl1, zi_add]
    exact hc
/-- the meaning at a place -/
theorem zml_at {f : Nat → Bool} : ∀ (n m : Nat), m < n → f m = true → ((List.range n).filter (fun i => f i)).getD (zcnt m f) 0 = m := by
  have hl : ∀ n, ((List.range n).filter (fun i => f i)).length = zcnt n f := by
    intro n
    induction n with
    | zero => rfl
    | succ n ih =>
      rw [zfl_succ, List.length_append, ih, zcnt_S]
      by_cases q : f n = true
      · rw [if_pos q, if_pos q]; rfl
      · rw [if_neg q, if_neg q]; rfl
  intro n
  induction n with
  | zero => intro m hm; exact absurd hm (Nat.not_lt_zero m)
  | succ n ih =>
    intro m hm hf
    rw [zfl_succ]
    by_cases e : m = n
    · subst e
      rw [if_pos hf, zgd_r (by rw [hl]; exact Nat.le_refl _), hl, Nat.sub_self]
      rfl
    · have h1 := zcnt_mono f (show m + 1 ≤ n by omega)
      rw [zcnt_t hf] at h1
      rw [zgd_l (by rw [hl]; omega)]
      exact ih m (by omega) hf
theorem zInv_L {B : zBk} {S : Nat → Int32} {N : zNt} {b nn : Nat} {w v : zW} (h : zInv B S N b nn w) (hI : ∀ a c, zkeep a c → gI v a c = gI w a c) (hR : ∀ a c, gR v a c = gR w a c) (hL : ∀ a c, a ≠ 200 → gL v a c = gL w a c) : zInv B S N b nn v := by
  obtain ⟨hwf, hrb, hcb, hha, hpa, hma, hta, hna, hre, hsh, hsl, hno, hbr⟩ := h
  have hb := hre.1
  exact ⟨hwf, zRB_of hrb (fun k hk => hI 210 k (by unfold zkeep; omega)) (fun k hk => hI 211 k (by unfold zkeep; omega)) (fun k => hI 223 k (by unfold zkeep; omega)) (fun k => hI 224 k (by unfold zkeep; omega)) (fun k => hI 225 k (by unfold zkeep; omega)) hwf,
    zCB_of hcb (fun a k h1 h2 => hI a k (by unfold zkeep; omega)) hwf, zHand_of hha hI, zPast_of hpa hI, zMarks_of hma hI, zTape_of hta hI, zNames_of hna (fun o _ => ⟨hL _ _ (by omega), hL _ _ (by omega)⟩) (fun _ => hL _ _ (by omega)), zRefs_of hre (fun k _ => hR 1 k), zShelf_of hsh hI (hR 24), zSlips_of hsl hI, zNotes_of hre.2.2.2.1 hno hI, zBrief_of hb hbr hI (hR 1 13) (hR 140)⟩
/-- the reference looks for the meaning that is drawn -/
theorem q12_seek {B : zBk} {o d : Nat} {fl : Int32} {w : zW} {k : Int32 → zW → Prop} {g4 : Int32 → Int32 → zW → Prop} (hB : zRB B w) (ho : o < 4) (hd : d < zcnt 9 (bMn B o))
    (hk : ∀ v : zW, v = sI w 227 o (Int32.ofNat ((zml (bMn B o)).getD d 0)) → ((fl = 0 → g4 (0 : Int32) (Int32.ofNat o + (1 : Int32)) v) ∧ (¬ fl = 0 → vp_in (Int32.ofNat o) 252 ∧ (((gI v 220 (Int32.ofNat o).toNatClampNeg) < 0 → g4 (1 : Int32) (Int32.ofNat o + (1 : Int32)) v) ∧ (¬ (gI v 220 (Int32.ofNat o).toNatClampNeg) < 0 → ∀ v17 : Int32, v17 = (if ¬ (gI v 220 (Int32.ofNat o).toNatClampNeg) = Int32.ofNat ((zml (bMn B o)).getD d 0) then (0 : Int32) else (1 : Int32)) → g4 v17 (Int32.ofNat o + (1 : Int32)) v))))) :
    ∃ n9, fX12_drawsOne_L26 k g4 n9 fl (Int32.ofNat o) (Int32.ofNat d) (0 : Int32) w := by
  have h9 := zcnt_le 9 (bMn B o)
  have hgo : ∀ (c m : Nat), m + c = 9 → zcnt m (bMn B o) ≤ d → fX12_drawsOne_L26 k g4 (c + 1) fl (Int32.ofNat o) (Int32.ofNat (d - zcnt m (bMn B o))) (Int32.ofNat m) w := by
    intro c
    induction c with
    | zero =>
      intro m hm hle
      rw [show m = 9 by omega] at hle
      omega
    | succ c ih =>
      intro m hm hle
      have hcm := zcnt_le m (bMn B o)
      rw [fX12_drawsOne_L26]
      try dsimp only
      rw [zl9, zi_mul, zi_add, zi_nat (show 9 * o + m < 2 ^ 31 by omega), rb_Mn hB ho (show m < 9 by omega)]
      refine ⟨zi_in (by omega) (by omega), ?_⟩
      by_cases q : bMn B o m = true
      · rw [if_pos q]
        refine ⟨fun z => absurd z (by decide), fun _ => ⟨fun z => ⟨zi_in (by omega) (by omega), ?_⟩, fun z => ?_⟩⟩
        · have z' := (zi_le (b := 0) (by omega) (by decide)).mp z
          have e : zcnt m (bMn B o) = d := by omega
          have em : (zml (bMn B o)).getD d 0 = m := by rw [← e]; exact zml_at 9 m (by omega) q
          intro w13 e13
          rw [zi_nat (show o < 2 ^ 31 by omega)] at e13
          rw [em] at hk
          exact hk w13 e13
        · have z' : ¬ d - zcnt m (bMn B o) ≤ 0 := fun y => z ((zi_le (b := 0) (by omega) (by decide)).mpr y)
          rw [fX12_drawsOne_J45, zl9, zi_mul, zi_add, zi_nat (show 9 * o + m < 2 ^ 31 by omega), rb_Mn hB ho (show m < 9 by omega), if_pos q]
          refine ⟨zi_in (by omega) (by omega), ?_⟩
          intro v9 e9
          have x9 : v9 = Int32.ofNat 1 := e9.trans (if_neg (by decide))
          intro v10 e10
          rw [x9, zi_sub (by omega)] at e10
          rw [e10, zl1, zi_add]
          have := ih (m + 1) (by omega) (by rw [zcnt_t q]; omega)
          rw [zcnt_t q, show d - (zcnt m (bMn B o) + 1) = d - zcnt m (bMn B o) - 1 by omega] at this
          exact this
      · rw [if_neg q]
        refine ⟨fun _ => ?_, fun z => absurd rfl z⟩
        rw [fX12_drawsOne_J45, zl9, zi_mul, zi_add, zi_nat (show 9 * o + m < 2 ^ 31 by omega), rb_Mn hB ho (show m < 9 by omega), if_neg q]
        refine ⟨zi_in (by omega) (by omega), ?_⟩
        intro v9 e9
        have x9 : v9 = Int32.ofNat 0 := e9.trans (if_pos rfl)
        intro v10 e10
        rw [x9, zi_sub (by omega), Nat.sub_zero] at e10
        rw [e10, zl1, zi_add]
        have := ih (m + 1) (by omega) (by rw [zcnt_f (eq_false_of_ne_true q)]; exact hle)
        rw [zcnt_f (eq_false_of_ne_true q)] at this
        exact this
  exact ⟨10, hgo 9 0 (by omega) (Nat.zero_le _)⟩

/-! Level 2: drafts: draws of meanings -/
def zlcg (g : Nat) : Nat := (g * 1103515245 + 12345) % 2147483648
def zgi (g : Nat) : Nat → Nat
  | 0 => g
  | n + 1 => zlcg (zgi g n)
theorem zlcg_lt (g : Nat) : zlcg g < 2147483648 := Nat.mod_lt _ (by decide)
theorem zgi_lt {g : Nat} (hg : g < 2147483648) (n : Nat) : zgi g n < 2147483648 := by
  cases n with
  | zero => exact hg
  | succ n => exact zlcg_lt _
theorem zlcg_64 {g : Nat} (hg : g < 2147483648) : (Int64.ofNat g * (1103515245 : Int64) + (12345 : Int64)) % (2147483648 : Int64) = Int64.ofNat (zlcg g) := by
  rw [show (1103515245 : Int64) = Int64.ofNat 1103515245 from rfl, show (12345 : Int64) = Int64.ofNat 12345 from rfl, show (2147483648 : Int64) = Int64.ofNat 2147483648 from rfl]
  rw [← Int64.ofNat_mul, ← Int64.ofNat_add, ← Int64.ofNat_mod (by omega) (by omega)]
  rfl
/-- the place of the meaning that is drawn -/
def zdrw (g sz : Nat) : Nat := g / 65536 % sz
theorem zdrw_64 {g sz : Nat} (hg : g < 2147483648) (hs : 0 < sz) (hs9 : sz ≤ 9) : ((Int64.ofNat g / (65536 : Int64)) % (Int32.ofNat sz).toInt64).toInt32 = Int32.ofNat (zdrw g sz) ∧ zdrw g sz < sz := by
  have h1 := Nat.mod_lt (g / 65536) hs
  refine ⟨?_, h1⟩
  rw [zi_64 (by omega), show (65536 : Int64) = Int64.ofNat 65536 from rfl, ← Int64.ofNat_div (by omega) (by omega), ← Int64.ofNat_mod (by omega) (by omega)]
  exact Int64.toInt32_ofNat'
theorem zsz_64 {sz : Nat} (hs : 0 < sz) (hs9 : sz ≤ 9) : ¬ (Int32.ofNat sz).toInt64 = 0 := fun z => by
  have z2 := congrArg Int64.toInt z
  rw [zi_64 (by omega), Int64.toInt_ofNat_of_lt (by omega)] at z2
  have : (sz : Int) = 0 := z2
  omega
/-- the meaning drawn for a word, by the number ahead of a draft -/
def zmd (B : zBk) (g o : Nat) : Nat := if o < bW B then (zml (bMn B o)).getD (zdrw (zgi g (o + 1)) (zcnt 9 (bMn B o))) 0 else 0
theorem zmd_lt {B : zBk} (hp : ∀ o, o < bW B → 0 < zcnt 9 (bMn B o)) (g o : Nat) : zmd B g o < 9 := by
  rw [zmd]
  by_cases q : o < bW B
  · rw [if_pos q]
    exact (zml_lt (Nat.mod_lt _ (hp o q))).1
  · rw [if_neg q]; omega
theorem q0_meaningBelow {B : zBk} {b o g : Nat} {w : zW} {k : Int32 → zW → Prop} (hwf : zWF B) (hB : zCB B b w) (ho : o < bW B) (hp : 0 < zcnt 9 (bMn B o)) (hg : g < 2147483648) (hk : k (Int32.ofNat ((zml (bMn B o)).getD (zdrw g (zcnt 9 (bMn B o))) 0)) w) : fX0_meaningBelow b (Int32.ofNat o) (Int64.ofNat g / (65536 : Int64)) w k := by
  have h4 := wf_W hwf
  have h9 := zcnt_le 9 (bMn B o)
  obtain ⟨d1, d2⟩ := zdrw_64 hg hp h9
  rw [fX0_meaningBelow]
  refine ⟨zi_in (by omega) (by omega), ?_⟩
  rw [zi_nat (show o < 2 ^ 31 by omega), cb_Sz hB (by omega)]
  intro v2 e2
  subst e2
  refine ⟨fun q => absurd ((zi_le (b := 0) (by omega) (by decide)).mp q) (by omega), fun _ => ⟨fun _ => ⟨zsz_64 hp h9, ?_⟩, fun q => ?_⟩⟩
  · rw [d1]
    intro v6 e6
    subst e6
    refine ⟨fun q => absurd ((zi_le (a := 9) (by decide) (by omega)).mp q) (by omega), fun _ => ⟨zi_in (by omega) (by omega), ?_⟩⟩
    rw [zi_nat (show zdrw g (zcnt 9 (bMn B o)) < 2 ^ 31 by omega), cb_ml hB ho d2]
    exact hk
  · exfalso
    refine q ?_
    have e : Int64.ofNat g / (65536 : Int64) = Int64.ofNat (g / 65536) := by
      rw [show (65536 : Int64) = Int64.ofNat 65536 from rfl, ← Int64.ofNat_div (by omega) (by omega)]
    rw [e]
    unfold lg_cmp
    have h0 : ¬ Int64.ofNat (g / 65536) < 0 := fun z => by
      have z2 := Int64.lt_iff_toInt_lt.mp z
      rw [Int64.toInt_ofNat_of_lt (by omega), show (0 : Int64).toInt = 0 from rfl] at z2
      omega
    by_cases z : Int64.ofNat (g / 65536) = 0
    · rw [z]; decide
    · have hn : ¬ g / 65536 = 0 := fun y => z (by rw [y]; rfl)
      have hp0 : (0 : Int64) < Int64.ofNat (g / 65536) := by
        refine Int64.lt_iff_toInt_lt.mpr ?_
        rw [Int64.toInt_ofNat_of_lt (by omega), show (0 : Int64).toInt = 0 from rfl]
        omega
      simp [h0, z, hp0]

/-! parts in lowest terms; hoarse ones -/
theorem l_zero {a : Nat} (h : a < 2 ^ 63) : lN a = 0 ↔ a = 0 := by
  constructor
  · intro e
    have := congrArg Int64.toInt e
    rw [show lN a = Int64.ofNat a from rfl, Int64.toInt_ofNat_of_lt h] at this
    have h0 : (0 : Int64).toInt = 0 := rfl
    omega
  · intro e
    rw [e]
    rfl
theorem l_rem {a b : Nat} (ha : a < 2 ^ 63) (h0 : 0 < b) (hb : b < 2 ^ 63) : zlrem (lN a) (lN b) = lN (a % b) := pk_lRem ha h0 hb
theorem g_step (a b : Nat) : Nat.gcd b (a % b) = Nat.gcd a b := by
  rw [Nat.gcd_comm a b, Nat.gcd_rec b a, Nat.gcd_comm]
theorem x_euclid (N : Nat) (K : Int64 → Int64 → Int32 → Int64 → Option Int64) (x0 x2 : Int64) (x4 : Int32) : ∀ k a b i m : Nat, a < 2 ^ 63 → b < 2 ^ k → k ≤ 40 → i + 2 * k + 1 ≤ 100 → 2 * k + 1 < m → fX6_partOf_9 N K m x0 x2 x4 (lN a) (lN b) (nI i) = K x0 x2 x4 (lN (Nat.gcd a b)) := by
  intro k
  induction k with
  | zero =>
    intro a b i m ha hb hk hi hm
    obtain ⟨m, rfl⟩ : ∃ k, m = k + 1 := ⟨m - 1, by omega⟩
    have : b = 0 := by omega
    subst this
    rw [fX6_partOf_9, if_neg (fun h => by have := (nI_leI (by omega) (by omega)).mp h; omega), if_pos (show lg_cmp (lN 0) 0 = 0 from (lg_cmp_eq _ _).mpr rfl), Nat.gcd_zero_right]
  | succ k ih =>
    intro a b i m ha hb hk hi hm
    obtain ⟨m, rfl⟩ : ∃ k, m = k + 2 := ⟨m - 2, by omega⟩
    have h63 : (2 : Nat) ^ (k + 1) ≤ 2 ^ 41 := Nat.pow_le_pow_right (by decide) (by omega)
    have hle : ∀ j, j < 100 → ¬ nI 100 ≤ nI j := fun j hj h => by have := (nI_leI (by omega) (by omega)).mp h; omega
    by_cases hb0 : b = 0
    · subst hb0
      rw [fX6_partOf_9, if_neg (hle i (by omega)), if_pos (show lg_cmp (lN 0) 0 = 0 from (lg_cmp_eq _ _).mpr rfl), Nat.gcd_zero_right]
    · have e0 : ¬ lN b = 0 := fun h => hb0 ((l_zero (by omega)).mp h)
      have hr : a % b < b := Nat.mod_lt _ (by omega)
      rw [fX6_partOf_9, if_neg (hle i (by omega)), if_neg (fun h => e0 ((lg_cmp_eq _ _).mp h)), if_pos e0, zlet_eq, l_rem ha (by omega) (by omega), nI_add]
      by_cases hr0 : a % b = 0
      · rw [hr0, fX6_partOf_9, if_neg (hle _ (by omega)), if_pos (show lg_cmp (lN 0) 0 = 0 from (lg_cmp_eq _ _).mpr rfl), ← g_step a b, hr0, Nat.gcd_zero_right]
      · have e1 : ¬ lN (a % b) = 0 := fun h => hr0 ((l_zero (by omega)).mp h)
        have hd := Nat.div_add_mod b (a % b)
        have hl := Nat.mod_lt b (show 0 < a % b by omega)
        have hq : 1 ≤ b / (a % b) := (Nat.one_le_div_iff (by omega)).mpr (by omega)
        have hq2 : a % b ≤ a % b * (b / (a % b)) := Nat.le_mul_of_pos_right _ hq
        have hp : (2 : Nat) ^ (k + 1) = 2 * 2 ^ k := by rw [Nat.pow_succ, Nat.mul_comm]
        rw [fX6_partOf_9, if_neg (hle _ (by omega)), if_neg (fun h => e1 ((lg_cmp_eq _ _).mp h)), if_pos e1, zlet_eq, l_rem (by omega) (by omega) (by omega), nI_add, ih (a % b) (b % (a % b)) (i + 1 + 1) m (by omega) (by omega) (by omega) (by omega) (by omega), g_step, g_step]
theorem y_euclid (N : Nat) (K : Int64 → Int64 → Int32 → Int64 → Option Int64) (x0 x2 : Int64) (x4 : Int32) : ∀ k a b m : Nat, a < 2 ^ 63 → b < 2 ^ k → k ≤ 40 → 2 * k + 1 < m → fX7_lowest_6 N K m x0 x2 x4 (lN a) (lN b) = K x0 x2 x4 (lN (Nat.gcd a b)) := by
  intro k
  induction k with
  | zero =>
    intro a b m ha hb hk hm
    obtain ⟨m, rfl⟩ : ∃ k, m = k + 1 := ⟨m - 1, by omega⟩
    have : b = 0 := by omega
    subst this
    rw [fX7_lowest_6, if_pos (show lg_cmp (lN 0) 0 = 0 from (lg_cmp_eq _ _).mpr rfl), Nat.gcd_zero_right]
  | succ k ih =>
    intro a b m ha hb hk hm
    obtain ⟨m, rfl⟩ : ∃ k, m = k + 2 := ⟨m - 2, by omega⟩
    have h63 : (2 : Nat) ^ (k + 1) ≤ 2 ^ 41 := Nat.pow_le_pow_right (by decide) (by omega)
    by_cases hb0 : b = 0
    · subst hb0
      rw [fX7_lowest_6, if_pos (show lg_cmp (lN 0) 0 = 0 from (lg_cmp_eq _ _).mpr rfl), Nat.gcd_zero_right]
    · have e0 : ¬ lN b = 0 := fun h => hb0 ((l_zero (by omega)).mp h)
      have hr : a % b < b := Nat.mod_lt _ (by omega)
      rw [fX7_lowest_6, if_neg (fun h => e0 ((lg_cmp_eq _ _).mp h)), if_pos e0, zlet_eq, l_rem ha (by omega) (by omega)]
      by_cases hr0 : a % b = 0
      · rw [hr0, fX7_lowest_6, if_pos (show lg_cmp (lN 0) 0 = 0 from (lg_cmp_eq _ _).mpr rfl), ← g_step a b, hr0, Nat.gcd_zero_right]
      · have e1 : ¬ lN (a % b) = 0 := fun h => hr0 ((l_zero (by omega)).mp h)
        have hd := Nat.div_add_mod b (a % b)
        have hl := Nat.mod_lt b (show 0 < a % b by omega)
        have hq : 1 ≤ b / (a % b) := (Nat.one_le_div_iff (by omega)).mpr (by omega)
        have hq2 : a % b ≤ a % b * (b / (a % b)) := Nat.le_mul_of_pos_right _ hq
        have hp : (2 : Nat) ^ (k + 1) = 2 * 2 ^ k := by rw [Nat.pow_succ, Nat.mul_comm]
        rw [fX7_lowest_6, if_neg (fun h => e1 ((lg_cmp_eq _ _).mp h)), if_pos e1, zlet_eq, l_rem (by omega) (by omega) (by omega), ih (a % b) (b % (a % b)) m (by omega) (by omega) (by omega) (by omega), g_step, g_step]
theorem part_eq (N : Nat) (hN : 4000 ≤ N) {a b : Nat} (ha : a < 2 ^ 63) (h0 : 0 < b) (hb : b < 2 ^ 40) (x : Int32) : ∃ r, fX6_partOf N (lN a) (lN b) x = some r ∧ fX7_lowest N (lN a) (lN b) x = some r := by
  have hg : 0 < Nat.gcd a b := Nat.gcd_pos_of_pos_right _ h0
  have hgl : Nat.gcd a b ≤ b := Nat.gcd_le_right _ h0
  have e : ¬ lN (Nat.gcd a b) = 0 := fun h => by have := (l_zero (by omega)).mp h; omega
  unfold fX6_partOf fX7_lowest
  rw [x_euclid N _ _ _ _ 40 a b 0 N ha hb (by decide) (by decide) (by omega), y_euclid N _ _ _ _ 40 a b N ha hb (by decide) (by omega)]
  unfold fX6_partOf_44 fX7_lowest_31 fX7_lowest_41
  rw [if_neg (fun h => e ((lg_cmp_eq _ _).mp h)), if_pos e, if_pos e]
  by_cases c : x = 0
  · rw [if_pos c]; exact ⟨_, rfl, rfl⟩
  · rw [if_neg c]; exact ⟨_, rfl, rfl⟩
/-! powers, silence -/
theorem x_pow_loop (N : Nat) {b t : Nat} (hb : b < 2 ^ 31) (ht : t < 1000) : ∀ d i p m : Nat, i + d = t → d < m → fX6_power_5 N m (nI b) (nI t) (lN p) (nI i) = some (lN (p * b ^ d)) := by
  intro d
  induction d with
  | zero =>
    intro i p m hi hm
    obtain ⟨m, rfl⟩ : ∃ k, m = k + 1 := ⟨m - 1, by omega⟩
    rw [fX6_power_5, if_pos ((nI_leI (by omega) (by omega)).mpr (by omega)), Nat.pow_zero, Nat.mul_one]
  | succ d ih =>
    intro i p m hi hm
    obtain ⟨m, rfl⟩ : ∃ k, m = k + 1 := ⟨m - 1, by omega⟩
    rw [fX6_power_5, if_neg (fun h => by have := (nI_leI (by omega) (by omega)).mp h; omega), zlet_eq, nI_l hb, lN_mul, nI_add, ih (i + 1) (p * b) m (by omega) (by omega), Nat.pow_succ, Nat.mul_assoc, Nat.mul_comm b]
theorem x_power (N : Nat) (hN : 4000 ≤ N) {b t : Nat} (hb : b < 2 ^ 31) (ht : t < 1000) : fX6_power N (nI b) (nI t) = some (lN (b ^ t)) := by
  have := x_pow_loop N hb ht t 0 1 N (by omega) (by omega)
  rw [Nat.one_mul] at this
  exact this
theorem x_sil_loop (N : Nat) {β : mB} (hO : BOk β) {s : Nat} (hs : s < 2 ^ 31) : ∀ d i : Nat, i + d = β.1 2 → ∀ (m : Nat) (σ : zS), d < m → σ.1 42 8 = nI (β.1 2) → (∀ j, j < β.1 2 → σ.2 4 j = nI (β.2 4 j)) → (∀ j, j < β.1 2 → σ.2 34 (β.2 4 j) = nI (if j < i ∧ s.testBit j = true then 0 else β.2 2 (β.2 4 j))) → ∃ σ' : zS, fX6_silence_19 N m (nI s) (nI i) σ = some σ' ∧ σ'.1 = σ.1 ∧ (∀ q, q ≠ 34 → σ'.2 q = σ.2 q) ∧ ∀ j, j < β.1 2 → σ'.2 34 (β.2 4 j) = nI (if s.testBit j = true then 0 else β.2 2 (β.2 4 j)) := by
  have b0 := hO.1
  have b2 := hO.2.2.1
  have h7 := hO.2.2.2.2.2.2.1
  have h8 := hO.2.2.2.2.2.2.2.1
  intro d
  induction d with
  | zero =>
    intro i hi m σ hm s8 s4 s34
    obtain ⟨m, rfl⟩ : ∃ k, m = k + 1 := ⟨m - 1, by omega⟩
    refine ⟨σ, ?_, rfl, fun _ _ => rfl, fun j hj => ?_⟩
    · rw [fX6_silence_19, s8, if_pos ((nI_leI (by omega) (by omega)).mpr (by omega))]
    · rw [s34 j hj]
      by_cases c : s.testBit j = true
      · rw [if_pos ⟨by omega, c⟩, if_pos c]
      · rw [if_neg (fun h => c h.2), if_neg c]
  | succ d ih =>
    intro i hi m σ hm s8 s4 s34
    obtain ⟨m, rfl⟩ : ∃ k, m = k + 1 := ⟨m - 1, by omega⟩
    have ht := h7 i (by omega)
    rw [fX6_silence_19, s8, if_neg (fun h => by have := (nI_leI (by omega) (by omega)).mp h; omega)]
    by_cases c : s.testBit i = true
    · obtain ⟨σ', e1, e2, e3, e4⟩ := ih (i + 1) (by omega) m (zpa σ 34 (upd (σ.2 34) (β.2 4 i) (nI 0))) (by omega) s8 s4 (fun j hj => by
        rw [zpa_at, zupd]
        by_cases e : j = i
        · rw [if_pos (by rw [e]), if_pos ⟨by omega, by rw [e]; exact c⟩]
        · rw [if_neg (fun h => e (h8 j hj i (by omega) h)), s34 j hj]
          by_cases c2 : j < i ∧ s.testBit j = true
          · rw [if_pos c2, if_pos ⟨by omega, c2.2⟩]
          · rw [if_neg c2, if_neg (fun h => c2 ⟨by omega, h.2⟩)])
      refine ⟨σ', ?_, e2, fun q hq => by rw [e3 q hq, zpa_2, if_neg hq], e4⟩
      rw [if_pos ((m_tst1 hs (by omega)).mpr c), if_pos (m_zin (show i < zlen 4 from (show i < 5 by omega)) (by decide)), zlet_eq, nI_clamp (by omega), s4 i (by omega), if_pos (m_zin (show β.2 4 i < zlen 34 from (show _ < 5 by omega)) (by decide)), zlet_eq, nI_clamp (by omega), fX6_silence_54, nI_add]
      exact e1
    · obtain ⟨σ', e1, e2, e3, e4⟩ := ih (i + 1) (by omega) m σ (by omega) s8 s4 (fun j hj => by
        rw [s34 j hj]
        by_cases c2 : j < i ∧ s.testBit j = true
        · rw [if_pos c2, if_pos ⟨by omega, c2.2⟩]
        · rw [if_neg c2, if_neg (fun h => by
            by_cases e : j = i
            · exact c (by rw [← e]; exact h.2)
            · exact c2 ⟨by omega, h.2⟩)])
      refine ⟨σ', ?_, e2, e3, e4⟩
      rw [if_neg (fun h => c ((m_tst1 hs (by omega)).mp h)), fX6_silence_54, nI_add]
      exact e1
theorem mnoise_H {T V V0 : Nat → Nat} {s : Nat} : ∀ h : Nat, (∀ i, i < h → V (T i) = if s.testBit i = true then 0 else V0 (T i)) → mnoise T V h = mnoiseH T V0 s h
  | 0, _ => rfl
  | h + 1, hh => by
    rw [mnoise, mnoiseH, mnoise_H h (fun i hi => hh i (by omega)), hh h (by omega)]
    by_cases c : s.testBit h = true
    · rw [if_pos c, if_pos c, Nat.zero_mul]
    · rw [if_neg c, if_neg c]
theorem mnoiseH_le (T V : Nat → Nat) (s : Nat) : ∀ h : Nat, mnoiseH T V s h ≤ mnoise T V h
  | 0 => Nat.le_refl _
  | h + 1 => by
    have := mnoiseH_le T V s h
    rw [mnoiseH, mnoise]
    split <;> omega
/-- the class's noise with the places of a mask hoarse -/
theorem x_hoarseNoise (N : Nat) (hN : 4000 ≤ N) {σ : zS} {β : mB} (hO : BOk β) (hX : BX σ 42 β) {s : Nat} (hs : s < 2 ^ 31) : ∃ σ' : zS, fX6_silence N σ (nI s) = some σ' ∧ σ'.1 = σ.1 ∧ (∀ q, q ≠ 34 → σ'.2 q = σ.2 q) ∧ fX0_noiseBy N σ' 42 4 (nI (β.1 2)) 34 = some (nI (mnoiseH (β.2 4) (β.2 2) s (β.1 2))) := by
  have b0 := hO.1
  have b2 := hO.2.2.1
  have h7 := hO.2.2.2.2.2.2.1
  have h4 := hO.2.2.2.2.1
  obtain ⟨σ', e1, e2, e3, e4⟩ := x_sil_loop N hO hs (β.1 2) 0 (by omega) N (zpa σ 34 (va_cpy (σ.2 2) (σ.2 34) (nI 0).toNatClampNeg (nI 0).toNatClampNeg (nI 5).toNatClampNeg)) (by omega) hX.2.2.1 (fun j hj => hX.2.2.2.2.2.2 j hj) (fun j hj => by
    have := h7 j hj
    rw [zpa_at, x_cpy (by decide), if_pos (by omega), if_neg (by omega)]
    exact (hX.2.2.2.2.1 _ this).2.2.1)
  have e3' : ∀ q, q ≠ 34 → σ'.2 q = σ.2 q := fun q hq => by rw [e3 q hq, zpa_2, if_neg hq]
  refine ⟨σ', ?_, e2, e3', ?_⟩
  · unfold fX6_silence
    rw [if_pos (z_cond (n := 5) (a := zlen 2) (b := zlen 34) (by decide) (by decide) (by decide)), zlet_eq]
    exact e1
  · have hv : ∀ j, j < β.1 2 → (σ'.2 34 (β.2 4 j)).toNatClampNeg = if s.testBit j = true then 0 else β.2 2 (β.2 4 j) := fun j hj => by
      have := (h4 _ (h7 j hj)).2.2.2.1
      rw [e4 j hj]
      apply nI_clamp
      split <;> omega
    rw [← mnoise_H (V := fun b => (σ'.2 34 b).toNatClampNeg) (β.1 2) hv]
    refine x_noiseBy N hN (row := 4) (vo := 34) (T := β.2 4) (V := fun b => (σ'.2 34 b).toNatClampNeg) (show β.1 2 ≤ 5 by omega) (by decide) (by decide) (fun i hi => ⟨by rw [e3' 4 (by decide)]; exact hX.2.2.2.2.2.2 i hi, by have := h7 i hi; show _ < 5; omega, ?_⟩)
    show _ = nI ((σ'.2 34 (β.2 4 i)).toNatClampNeg)
    rw [hv i hi, e4 i hi]
/-! the sums -/
def podds (v s : Nat) : Nat → Nat
  | 0 => 1
  | i + 1 => podds v s i * (if s.testBit i = true then v else 10 - v)
theorem podds_eq : ∀ h, h < 6 → ∀ s, s < 2 ^ h → ∀ v, v < 11 → podds v s h = v ^ mpop s * (10 - v) ^ (h - mpop s) := by decide +kernel
theorem mpop_le : ∀ h, h < 6 → ∀ s, s < 2 ^ h → mpop s ≤ h := by decide +kernel
theorem podds_le {v s : Nat} (hv : v ≤ 10) : ∀ h, podds v s h ≤ 10 ^ h
  | 0 => Nat.le_refl _
  | h + 1 => by
    rw [podds, Nat.pow_succ]
    exact Nat.mul_le_mul (podds_le hv h) (by split <;> omega)
def hgain (β : mB) (w s : Nat) : Nat :=
  if w = 0 then mpop (mflee (β.2 3) (mnoiseH (β.2 4) (β.2 2) s (β.1 2)) (β.1 1)).1
  else if mpop (mflee (β.2 3) (mnoiseH (β.2 4) (β.2 2) s (β.1 2)) (β.1 1)).1 = β.1 1 then 1 else 0
def hsum (β : mB) (v w : Nat) : Nat → Nat
  | 0 => 0
  | s + 1 => hsum β v w s + podds v s (β.1 2) * hgain β w s
theorem hgain_le (β : mB) (w s : Nat) : hgain β w s ≤ 5 := by
  unfold hgain mpop
  split
  · omega
  · split <;> omega
theorem hsum_le {β : mB} {v w : Nat} (hO : BOk β) (hv : v ≤ 10) : ∀ s, hsum β v w s ≤ s * 500000
  | 0 => by rw [hsum]; omega
  | s + 1 => by
    have h1 := hsum_le (w := w) hO hv s
    have h2 := podds_le (s := s) hv (β.1 2)
    have h3 : (10 : Nat) ^ (β.1 2) ≤ 10 ^ 5 := Nat.pow_le_pow_right (by decide) (by have := hO.1; have := hO.2.2.1; omega)
    have h4 : podds v s (β.1 2) * hgain β w s ≤ 100000 * 5 := Nat.mul_le_mul (by omega) (hgain_le β w s)
    rw [hsum]
    omega
theorem x_hsum_loop (N : Nat) (hN : 4000 ≤ N) {σ0 : zS} {β : mB} (hO : BOk β) (hX : BX σ0 42 β) {v w : Nat} (hv : v ≤ 10) (hw : w ≤ 1) : ∀ d s : Nat, s + d = 2 ^ β.1 2 → ∀ (m : Nat) (σ : zS), d < m → σ.1 = σ0.1 → (∀ q, q ≠ 34 → σ.2 q = σ0.2 q) → ∃ σ' : zS, fX6_hoarseSum_5 N m (nI v) (nI w) (lN (hsum β v w s)) (nI s) σ = some (lN (hsum β v w (2 ^ β.1 2)), σ') ∧ σ'.1 = σ0.1 ∧ ∀ q, q ≠ 34 → σ'.2 q = σ0.2 q := by
  have b0 := hO.1
  have b1 := hO.2.1
  have b2 := hO.2.2.1
  have hp : (2 : Nat) ^ β.1 2 ≤ 2 ^ 5 := Nat.pow_le_pow_right (by decide) (by omega)
  intro d
  induction d with
  | zero =>
    intro s hs m σ hm i1 i2
    obtain ⟨m, rfl⟩ : ∃ k, m = k + 1 := ⟨m - 1, by omega⟩
    have e : s = 2 ^ β.1 2 := by omega
    refine ⟨σ, ?_, i1, i2⟩
    rw [fX6_hoarseSum_5, i1, show σ0.1 42 8 = nI (β.1 2) from hX.2.2.1, m_bit (by omega), e, if_pos ((nI_leI (by omega) (by omega)).mpr (Nat.le_refl _))]
  | succ d ih =>
    intro s hs m σ hm i1 i2
    obtain ⟨m, rfl⟩ : ∃ k, m = k + 1 := ⟨m - 1, by omega⟩
    have hX' : BX σ 42 β := BX_eq (by rw [i1]) (fun k hk => i2 _ (by unfold zba; omega)) hX
    obtain ⟨σ', e1, e2, e3, e4⟩ := x_hoarseNoise N hN hO hX' (s := s) (by omega)
    have hX2 : BX σ' 42 β := BX_eq (by rw [e2]) (fun k hk => e3 _ (by unfold zba; omega)) hX'
    have hL : mnoiseH (β.2 4) (β.2 2) s (β.1 2) ≤ 100000 := Nat.le_trans (mnoiseH_le _ _ _ _) (mnoise_le hO)
    have hf32 := mflee_32 hO (mnoiseH (β.2 4) (β.2 2) s (β.1 2))
    have hpl := mpop_le (β.1 2) (by omega) s (by omega)
    have hpe := podds_eq (β.1 2) (by omega) s (by omega) v (by omega)
    obtain ⟨σ2, g1, g2, g3⟩ := ih (s + 1) (by omega) m σ' (by omega) (by rw [e2, i1]) (fun q hq => by rw [e3 q hq, i2 q hq])
    refine ⟨σ2, ?_, g2, g3⟩
    have h8 : σ'.1 42 8 = nI (β.1 2) := hX2.2.2.1
    have hpf : mpop (mflee (β.2 3) (mnoiseH (β.2 4) (β.2 2) s (β.1 2)) (β.1 1)).1 ≤ 5 := by unfold mpop; omega
    rw [fX6_hoarseSum_5, show σ.1 42 8 = nI (β.1 2) from hX'.2.2.1, m_bit (by omega), if_neg (fun h => by have := (nI_leI (by omega) (by omega)).mp h; omega), e1, Option.bind_some, h8, e4, Option.bind_some, x_fledBits N hN (by decide) (by decide) hO hX2 hL, Option.bind_some, x_bitCount N hf32, Option.bind_some, x_bitCount N (show s < 32 by omega), Option.bind_some, x_power N hN (by omega) (by omega), Option.bind_some, m_sub (show v ≤ 10 by omega), m_sub hpl, x_power N hN (by omega) (by omega), Option.bind_some]
    rw [hsum] at g1
    unfold hgain at g1
    rcases (show w = 0 ∨ w = 1 by omega) with rfl | rfl
    · rw [if_pos rfl] at g1
      rw [if_pos m_zero, zlet_eq, lN_mul, nI_l (by omega), lN_mul, lN_add, ← hpe, fX6_hoarseSum_132, nI_add]
      exact g1
    · rw [if_neg (show ¬ (1 : Nat) = 0 by decide)] at g1
      rw [if_neg (show ¬ nI 1 = 0 by decide), show σ'.1 42 7 = nI (β.1 1) from hX2.2.1]
      by_cases c : mpop (mflee (β.2 3) (mnoiseH (β.2 4) (β.2 2) s (β.1 2)) (β.1 1)).1 = β.1 1
      · rw [if_pos c, Nat.mul_one] at g1
        rw [if_pos (by rw [c]), fX6_hoarseSum_118, fX6_hoarseSum_132, lN_mul, lN_add, ← hpe, nI_add]
        exact g1
      · rw [if_neg c, Nat.mul_zero] at g1
        rw [if_neg (fun h => c ((nI_eq (by omega) (by omega)).mp h)), fX6_hoarseSum_118, fX6_hoarseSum_132, show (0 : Int64) = lN 0 from rfl, lN_add, nI_add]
        exact g1
section YH
variable {τ : zS} {β : mB}
theorem y_ten_loop (N : Nat) (hO : BOk β) (k : Int32 → Int32 → Int32 → Int32 → Int64 → Int64 → Option Int64) (x1 x2 x3 : Int32) (x5 : Int64) : ∀ d i p m : Nat, i + d = β.1 2 → d < m → fX7_byHoarse_18 N τ k m x1 x2 x3 (nI (β.1 2)) x5 (lN p) (nI i) = k x1 x2 x3 (nI (β.1 2)) x5 (lN (p * 10 ^ d)) := by
  have b0 := hO.1
  have b2 := hO.2.2.1
  intro d
  induction d with
  | zero =>
    intro i p m hi hm
    obtain ⟨m, rfl⟩ : ∃ k, m = k + 1 := ⟨m - 1, by omega⟩
    rw [fX7_byHoarse_18, if_pos ((nI_leI (by omega) (by omega)).mpr (by omega)), Nat.pow_zero, Nat.mul_one]
  | succ d ih =>
    intro i p m hi hm
    obtain ⟨m, rfl⟩ : ∃ k, m = k + 1 := ⟨m - 1, by omega⟩
    rw [fX7_byHoarse_18, if_neg (fun h => by have := (nI_leI (by omega) (by omega)).mp h; omega), show (10 : Int64) = lN 10 from rfl, lN_mul, nI_add, ih (i + 1) (p * 10) m (by omega) (by omega), Nat.pow_succ, Nat.mul_assoc, Nat.mul_comm 10]
theorem y_odds_loop (N : Nat) (hO : BOk β) (k : Int32 → Int32 → Int32 → Int32 → Int64 → Int64 → Int32 → Int64 → Option Int64) {v s : Nat} (hv : v ≤ 10) (hs : s < 2 ^ 31) (x2 x3 : Int32) (x5 x7 : Int64) : ∀ d i m : Nat, i + d = β.1 2 → d < m → fX7_byHoarse_57 N τ k m (nI v) x2 x3 (nI (β.1 2)) x5 x7 (nI s) (lN (podds v s i)) (nI i) = k (nI v) x2 x3 (nI (β.1 2)) x5 x7 (nI s) (lN (podds v s (β.1 2))) := by
  have b0 := hO.1
  have b2 := hO.2.2.1
  intro d
  induction d with
  | zero =>
    intro i m hi hm
    obtain ⟨m, rfl⟩ : ∃ k, m = k + 1 := ⟨m - 1, by omega⟩
    have e : i = β.1 2 := by omega
    subst e
    rw [fX7_byHoarse_57, if_pos ((nI_leI (by omega) (by omega)).mpr (Nat.le_refl _))]
  | succ d ih =>
    intro i m hi hm
    obtain ⟨m, rfl⟩ : ∃ k, m = k + 1 := ⟨m - 1, by omega⟩
    have g := ih (i + 1) m (by omega) (by omega)
    rw [podds] at g
    rw [fX7_byHoarse_57, if_neg (fun h => by have := (nI_leI (by omega) (by omega)).mp h; omega)]
    by_cases c : s.testBit i = true
    · rw [if_pos c] at g
      rw [if_pos ((m_tst1 hs (by omega)).mpr c), fX7_byHoarse_87, nI_l (by omega), lN_mul, nI_add]
      exact g
    · rw [if_neg c] at g
      rw [if_neg (fun h => c ((m_tst1 hs (by omega)).mp h)), fX7_byHoarse_87, m_sub hv, nI_l (by omega), lN_mul, nI_add]
      exact g
theorem y_hsum_loop (N : Nat) (hN : 4000 ≤ N) (hO : BOk β) (hM : BM τ 0 β) (n2 : τ.1 66 2 = nI (β.1 1)) (k : Int32 → Int64 → Int64 → Option Int64) {v w : Nat} (hv : v ≤ 10) (hw : w ≤ 1) (x3 : Int32) (x7 : Int64) : ∀ d s m : Nat, s + d = 2 ^ β.1 2 → d < m → fX7_byHoarse_42 N τ k m (nI v) (nI (1 - w)) x3 (nI (β.1 2)) (lN (hsum β v w s)) x7 (nI s) = k x3 (lN (hsum β v w (2 ^ β.1 2))) x7 := by
  have b0 := hO.1
  have b1 := hO.2.1
  have b2 := hO.2.2.1
  have hp : (2 : Nat) ^ β.1 2 ≤ 2 ^ 5 := Nat.pow_le_pow_right (by decide) (by omega)
  intro d
  induction d with
  | zero =>
    intro s m hs hm
    obtain ⟨m, rfl⟩ : ∃ k, m = k + 1 := ⟨m - 1, by omega⟩
    have e : s = 2 ^ β.1 2 := by omega
    rw [fX7_byHoarse_42, m_bit (by omega), e, if_pos ((nI_leI (by omega) (by omega)).mpr (Nat.le_refl _))]
  | succ d ih =>
    intro s m hs hm
    obtain ⟨m, rfl⟩ : ∃ k, m = k + 1 := ⟨m - 1, by omega⟩
    have hL : mnoiseH (β.2 4) (β.2 2) s (β.1 2) ≤ 100000 := Nat.le_trans (mnoiseH_le _ _ _ _) (mnoise_le hO)
    have hf32 := mflee_32 hO (mnoiseH (β.2 4) (β.2 2) s (β.1 2))
    have hpf : mpop (mflee (β.2 3) (mnoiseH (β.2 4) (β.2 2) s (β.1 2)) (β.1 1)).1 ≤ 5 := by unfold mpop; omega
    have g1 := ih (s + 1) m (by omega) (by omega)
    rw [fX7_byHoarse_42, m_bit (by omega), if_neg (fun h => by have := (nI_leI (by omega) (by omega)).mp h; omega)]
    rw [show fX7_byHoarse_57 N τ (fX7_byHoarse_96 N τ (fX7_byHoarse_42 N τ k m) k) N (nI v) (nI (1 - w)) x3 (nI (β.1 2)) (lN (hsum β v w s)) x7 (nI s) 1 (nI 0) = _ from y_odds_loop N hO _ hv (s := s) (by omega) _ _ _ _ (β.1 2) 0 N (by omega) (by omega)]
    rw [fX7_byHoarse_96, y_noiseBy N hN hO hM (by omega), Option.bind_some, y_fleeBy N hN hO hM n2 hL, Option.bind_some, y_bitsOf N hN hf32, Option.bind_some, n2]
    rw [hsum] at g1
    unfold hgain at g1
    rcases (show w = 0 ∨ w = 1 by omega) with rfl | rfl
    · rw [if_pos rfl] at g1
      rw [if_neg (show ¬ nI (1 - 0) = 0 by decide), fX7_byHoarse_138, zlet_eq, nI_l (by omega), lN_mul, lN_add, nI_add]
      exact g1
    · rw [if_neg (show ¬ (1 : Nat) = 0 by decide)] at g1
      rw [if_pos (show nI (1 - 1) = 0 from rfl)]
      by_cases c : mpop (mflee (β.2 3) (mnoiseH (β.2 4) (β.2 2) s (β.1 2)) (β.1 1)).1 = β.1 1
      · rw [if_pos c] at g1
        rw [if_pos (by rw [c]), fX7_byHoarse_138, zlet_eq, nI_l (by decide), lN_mul, lN_add, nI_add]
        exact g1
      · rw [if_neg c] at g1
        rw [if_neg (fun h => c ((nI_eq (by omega) (by omega)).mp h)), fX7_byHoarse_138, zlet_eq, nI_l (by decide), lN_mul, lN_add, nI_add]
        exact g1
theorem y_byHoarse (N : Nat) (hN : 4000 ≤ N) (hO : BOk β) (hM : BM τ 0 β) (n2 : τ.1 66 2 = nI (β.1 1)) {v w : Nat} (hv : v ≤ 10) (hw : w ≤ 1) (x3 : Int32) : fX7_byHoarse N τ (nI v) (nI (1 - w)) x3 = (fX7_lowest N (lN (hsum β v w (2 ^ β.1 2))) (lN (10 ^ β.1 2)) x3).bind fun q1 => some q1 := by
  have b0 := hO.1
  have b2 := hO.2.2.1
  have hp : (2 : Nat) ^ β.1 2 ≤ 2 ^ 5 := Nat.pow_le_pow_right (by decide) (by omega)
  unfold fX7_byHoarse
  rw [if_pos z24, zlet_eq, y_at24 hM]
  rw [show fX7_byHoarse_18 N τ (fX7_byHoarse_39 N τ) N (nI v) (nI (1 - w)) x3 (nI (β.1 2)) 0 1 (nI 0) = _ from y_ten_loop N hO _ _ _ _ _ (β.1 2) 0 1 N (by omega) (by omega), Nat.one_mul, fX7_byHoarse_39]
  rw [show fX7_byHoarse_42 N τ (fX7_byHoarse_149 N τ) N (nI v) (nI (1 - w)) x3 (nI (β.1 2)) 0 (lN (10 ^ β.1 2)) (nI 0) = _ from y_hsum_loop N hN hO hM n2 _ hv hw _ _ (2 ^ β.1 2) 0 N (by omega) (by omega)]
  rfl
end YH
theorem hoarse_eq (N : Nat) (hN : 4000 ≤ N) {σ τ : zS} {β : mB} (hO : BOk β) (hX : BX σ 42 β) (hM : BM τ 0 β) (n1 : τ.1 66 1 = nI (β.1 0)) (n2 : τ.1 66 2 = nI (β.1 1)) (hrest : RI σ τ β ∧ RT σ τ ∧ RS σ τ ∧ RH σ τ ∧ RC τ ∧ σ.1 50 9 = τ.1 66 12 ∧ σ.1 54 9 = τ.1 66 35) {v w : Nat} (hv : v ≤ 10) (hw : w ≤ 1) (x : Int32) : ∃ rx rm, ((fX6_hoarseSum N σ (nI v) (nI w)).bind fun q5 => (fX6_power N (nI 10) (q5.2.1 42 8)).bind fun q6 => (fX6_partOf N q5.1 q6 x).bind fun q7 => some (q7, q5.2)) = some rx ∧ ((fX7_byHoarse N τ (nI v) (nI (1 - w)) x).bind fun q5 => some q5) = some rm ∧ rx.1 = rm ∧ Rel rx.2 τ := by
  have b0 := hO.1
  have b2 := hO.2.2.1
  have hp : (2 : Nat) ^ β.1 2 ≤ 2 ^ 5 := Nat.pow_le_pow_right (by decide) (by omega)
  have ht : (10 : Nat) ^ β.1 2 ≤ 10 ^ 5 := Nat.pow_le_pow_right (by decide) (by omega)
  have ht0 : 0 < (10 : Nat) ^ β.1 2 := Nat.pow_pos (by decide)
  have hsl := hsum_le (w := w) hO hv (2 ^ β.1 2)
  obtain ⟨σ', e1, e2, e3⟩ := x_hsum_loop N hN hO hX hv hw (2 ^ β.1 2) 0 (by omega) N σ (by omega) rfl (fun _ _ => rfl)
  have e1' : fX6_hoarseSum N σ (nI v) (nI w) = some (lN (hsum β v w (2 ^ β.1 2)), σ') := e1
  obtain ⟨r, p1, p2⟩ := part_eq N hN (a := hsum β v w (2 ^ β.1 2)) (b := 10 ^ β.1 2) (by omega) ht0 (by omega) x
  rw [e1', Option.bind_some]
  dsimp only
  rw [e2, show σ.1 42 8 = nI (β.1 2) from hX.2.2.1, x_power N hN (by decide) (by omega), Option.bind_some, p1, Option.bind_some, y_byHoarse N hN hO hM n2 hv hw, p2]
  exact ⟨_, _, rfl, rfl, rfl, Rel_band (β' := β) hrest ⟨hO, BX_eq (by rw [e2]) (fun k hk => e3 _ (by unfold zba; omega)) hX, hM, n1, n2⟩ rfl rfl (fun q _ _ _ => by rw [e2]) (fun q h1 h2 => e3 q (by omega)) (fun _ _ => rfl) (fun _ _ _ => rfl) (fun _ _ _ => rfl)⟩
theorem okp_mean (N : Nat) (hN : 4000 ≤ N) : ok_mean N Rel := by
  intro σ τ x1 x2 hrel
  obtain ⟨β, ⟨hO, hX, hM, n1, n2⟩, hrest⟩ := id hrel
  unfold fX6_mean fX7_mean
  by_cases hx : ∃ k, 0 ≤ k ∧ k ≤ 10 ∧ x1 = nI k
  · obtain ⟨v, -, hv, rfl⟩ := hx
    have wm : fX7_in N (nI v).toInt64 0 10 = some 1 := y_in1 N (lo := 0) (hi := 10) (by omega) hv (by decide)
    rw [x_within1 N (by omega) hv (by decide), Option.bind_some, if_neg z10, wm, Option.bind_some, if_neg z10]
    by_cases hy : ∃ k, 0 ≤ k ∧ k ≤ 1 ∧ x2 = nI k
    · obtain ⟨a, -, ha, rfl⟩ := hy
      have wm : fX7_in N (nI a).toInt64 0 1 = some 1 := y_in1 N (lo := 0) (hi := 1) (by omega) ha (by decide)
      rw [x_within1 N (by omega) ha (by decide), Option.bind_some, if_neg z10, wm, Option.bind_some, if_neg z10]
      exact hoarse_eq N hN hO hX hM n1 n2 hrest hv (w := 0) (by decide) (nI a)
    · have wm : fX7_in N x2.toInt64 0 1 = some 0 := y_in0 N (lo := 0) (hi := 1) (by decide) (by decide) hy
      rw [x_within0 N (by decide) (by decide) hy, Option.bind_some, if_pos rfl, wm, Option.bind_some, if_pos rfl]
      exact ⟨_, _, rfl, rfl, rfl, hrel⟩
  · have wm : fX7_in N x1.toInt64 0 10 = some 0 := y_in0 N (lo := 0) (hi := 10) (by decide) (by decide) hx
    rw [x_within0 N (by decide) (by decide) hx, Option.bind_some, if_pos rfl, wm, Option.bind_some, if_pos rfl]
    exact ⟨_, _, rfl, rfl, rfl, hrel⟩
theorem okp_luck (N : Nat) (hN : 4000 ≤ N) : ok_luck N Rel := by
  intro σ τ x1 x2 hrel
  obtain ⟨β, ⟨hO, hX, hM, n1, n2⟩, hrest⟩ := id hrel
  unfold fX6_luck fX7_luck
  by_cases hx : ∃ k, 0 ≤ k ∧ k ≤ 10 ∧ x1 = nI k
  · obtain ⟨v, -, hv, rfl⟩ := hx
    have wm : fX7_in N (nI v).toInt64 0 10 = some 1 := y_in1 N (lo := 0) (hi := 10) (by omega) hv (by decide)
    rw [x_within1 N (by omega) hv (by decide), Option.bind_some, if_neg z10, wm, Option.bind_some, if_neg z10]
    by_cases hy : ∃ k, 0 ≤ k ∧ k ≤ 1 ∧ x2 = nI k
    · obtain ⟨a, -, ha, rfl⟩ := hy
      have wm : fX7_in N (nI a).toInt64 0 1 = some 1 := y_in1 N (lo := 0) (hi := 1) (by omega) ha (by decide)
      rw [x_within1 N (by omega) ha (by decide), Option.bind_some, if_neg z10, wm, Option.bind_some, if_neg z10]
      exact hoarse_eq N hN hO hX hM n1 n2 hrest hv (w := 1) (by decide) (nI a)
    · have wm : fX7_in N x2.toInt64 0 1 = some 0 := y_in0 N (lo := 0) (hi := 1) (by decide) (by decide) hy
      rw [x_within0 N (by decide) (by decide) hy, Option.bind_some, if_pos rfl, wm, Option.bind_some, if_pos rfl]
      exact ⟨_, _, rfl, rfl, rfl, hrel⟩
  · have wm : fX7_in N x1.toInt64 0 10 = some 0 := y_in0 N (lo := 0) (hi := 10) (by decide) (by decide) hx
    rw [x_within0 N (by decide) (by decide) hx, Option.bind_some, if_pos rfl, wm, Option.bind_some, if_pos rfl]
    exact ⟨_, _, rfl, rfl, rfl, hrel⟩

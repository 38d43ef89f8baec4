/-! the model's page, by its picture -/
theorem zlen55 : zlen 55 = 155 := rfl
theorem m_one : nI 1 = 1 := rfl
section BM
variable {τ : zS} {o : Nat} {β : mB}
def KW (τ : zS) (o : Nat) (β : mB) : Prop := ∀ i, i < β.1 0 → τ.2 55 (o + i) = nI (β.2 0 i) ∧ τ.2 55 (o + 5 + i) = nI (β.2 1 i)
theorem BM_K (h : BM τ o β) : KW τ o β := fun i hi => ⟨(h.2.2.1 i hi).1, (h.2.2.1 i hi).2.1⟩
theorem y_bearsOn (N : Nat) (ho : o ≤ 124) (hO : BOk β) (hM : KW τ o β) {i : Nat} (hi : i < β.1 0) : fX7_bearsOn N τ (nI o) (nI i) = some (nI (mbear (β.2 0 i) (β.2 1 i))) := by
  obtain ⟨o0, o1, o2, o3, o4, -⟩ := hO
  unfold fX7_bearsOn
  rw [zlen55, nI_add, nI_add, nI_add, if_pos (m_zin (by omega) (by decide)), zlet_eq, if_pos (m_zin (by omega) (by decide)), zlet_eq, nI_clamp (by omega), nI_clamp (by omega), (hM i hi).1, (hM i hi).2, y_byKind N (o4 i hi).1]
  rfl
theorem y_hurts (N : Nat) (hO : BOk β) (hM : BM τ 0 β) {i : Nat} (hi : i < β.1 0) : fX7_hurts N τ (nI i) = some (nI (mbear (β.2 0 i) 1)) := by
  obtain ⟨o0, o1, o2, o3, o4, -⟩ := hO
  obtain ⟨y0, y1, y2, y3, y4⟩ := hM
  have e := (y2 i hi).1
  rw [Nat.zero_add] at e
  unfold fX7_hurts
  rw [zlen55, if_pos (m_zin (by omega) (by decide)), zlet_eq, nI_clamp (by omega), e, y_byKind N (o4 i hi).1]
  rfl
theorem y_stands_loop (N : Nat) (ho : o ≤ 124) (hO : BOk β) (hM : KW τ o β) {T : Nat → Nat} {h : Nat} (h5 : h ≤ 5) (hT : ∀ i, i < h → τ.2 55 (o + 19 + i) = nI (T i) ∧ T i < β.1 0) : ∀ i : Nat, i ≤ h → ∀ m : Nat, i < m → ∀ a f : Nat, a + 10 * i ≤ 1000000 → f ≤ 1 → fX7_standsOn_17 N τ m (nI o) (nI a) (nI f) (nI i - nI 1) = some (if f = 1 ∧ cs β T i a = true then 1 else 0) := by
  intro i
  induction i with
  | zero =>
    intro _ m hm a f ha hf
    obtain ⟨m, rfl⟩ : ∃ k, m = k + 1 := ⟨m - 1, by omega⟩
    rw [fX7_standsOn_17, if_pos (by decide)]
    rcases (show f = 0 ∨ f = 1 by omega) with rfl | rfl
    · rw [if_pos (Or.inl m_zero), if_neg (by simp)]; rfl
    · rw [if_pos (Or.inr m_one), if_pos ⟨rfl, rfl⟩]; rfl
  | succ i ih =>
    intro hi m hm a f ha hf
    obtain ⟨m, rfl⟩ : ∃ k, m = k + 1 := ⟨m - 1, by omega⟩
    obtain ⟨r1, r2⟩ := hT i (by omega)
    have hbr := y_bearsOn N ho hO hM r2
    obtain ⟨o0, o1, o2, o3, o4, -⟩ := hO
    have hb9 := mbear_le (o4 _ r2).1 (o4 _ r2).2.2.1
    have hw := (o4 _ r2).2.2.1
    have s56 : ∀ f', f' ≤ 1 → fX7_standsOn_56 N τ (fX7_standsOn_17 N τ m) (nI o) (nI a) (nI i) (nI (T i)) (nI f') = some (if f' = 1 ∧ cs β T i (a + β.2 1 (T i)) = true then 1 else 0) := by
      intro f' hf'
      unfold fX7_standsOn_56
      rw [zlen55, nI_add, nI_add, if_pos (m_zin (by omega) (by decide)), zlet_eq, nI_clamp (by omega), (hM _ r2).2, nI_add, m_dec]
      exact ih (by omega) m (by omega) (a + β.2 1 (T i)) f' (by omega) hf'
    rw [m_s1, fX7_standsOn_17, if_neg (nI_pos (by omega)), zlen55, nI_add, nI_add, if_pos (m_zin (by omega) (by decide)), zlet_eq, nI_clamp (by omega), r1]
    rcases (show f = 0 ∨ f = 1 by omega) with rfl | rfl
    · rw [if_pos m_zero, fX7_standsOn_55, s56 0 (by decide), if_neg (by simp), if_neg (by simp)]
    · rw [if_neg (by decide), hbr, Option.bind_some]
      by_cases hc : a ≤ mbear (β.2 0 (T i)) (β.2 1 (T i))
      · rw [if_neg (fun h => by have := (nI_ltI (by omega) (by omega)).mp h; omega), s56 1 (by decide)]
        simp [cs, hc]
      · rw [if_pos ((nI_ltI (by omega) (by omega)).mpr (by omega)), fX7_standsOn_55, s56 0 (by decide)]
        simp [cs, hc]
theorem y_standsG (N : Nat) (hN : 4000 ≤ N) (ho : o ≤ 124) (hO : BOk β) (hM : KW τ o β) {T : Nat → Nat} {h : Nat} (h5 : h ≤ 5) (h24 : τ.2 55 (o + 24) = nI h) (hT : ∀ i, i < h → τ.2 55 (o + 19 + i) = nI (T i) ∧ T i < β.1 0) : fX7_standsOn N τ (nI o) = some (if cs β T h 0 = true then 1 else 0) := by
  unfold fX7_standsOn
  rw [zlen55, nI_add, if_pos (m_zin (by omega) (by decide)), zlet_eq, zlet_eq, nI_clamp (by omega), h24, y_stands_loop N ho hO hM h5 hT h (Nat.le_refl _) N (by omega) 0 1 (by omega) (Nat.le_refl _)]
  simp
theorem y_standsOn (N : Nat) (hN : 4000 ≤ N) (ho : o ≤ 124) (hO : BOk β) (hM : BM τ o β) : fX7_standsOn N τ (nI o) = some (if cs β (β.2 4) (β.1 2) 0 = true then 1 else 0) :=
  y_standsG N hN ho hO (BM_K hM) (by have := hO.1; have := hO.2.2.1; omega) hM.1 (fun i hi => ⟨hM.2.2.2.2 i hi, hO.2.2.2.2.2.2.1 i hi⟩)
/-- where a number first stands in a row -/
def mfind (T : Nat → Nat) (b : Nat) : Nat → Nat → Option Nat
  | 0, _ => none
  | d + 1, i => if T i = b then some i else mfind T b d (i + 1)
def mopt (q : Option Nat) : Int32 := match q with
  | some j => nI j
  | none => -4
theorem mfind_none (T : Nat → Nat) (b : Nat) : ∀ d i : Nat, mfind T b d i = none ↔ ∀ j, i ≤ j → j < i + d → T j ≠ b
  | 0, i => by
    constructor
    · intro _ j h1 h2; omega
    · intro _; rfl
  | d + 1, i => by
    rw [mfind]
    by_cases h : T i = b
    · rw [if_pos h]
      constructor
      · intro h'; cases h'
      · intro h'; exact absurd h (h' i (Nat.le_refl _) (by omega))
    · rw [if_neg h, mfind_none T b d (i + 1)]
      constructor
      · intro h' j h1 h2
        by_cases e : j = i
        · subst e; exact h
        · exact h' j (by omega) (by omega)
      · intro h' j h1 h2; exact h' j (by omega) (by omega)
theorem mfind_lt (T : Nat → Nat) (b : Nat) : ∀ d i j : Nat, mfind T b d i = some j → j < i + d
  | 0, i, j, h => by cases h
  | d + 1, i, j, h => by
    rw [mfind] at h
    by_cases e : T i = b
    · rw [if_pos e] at h; cases h; omega
    · rw [if_neg e] at h
      have := mfind_lt T b d (i + 1) j h
      omega
theorem y_place_loop (N : Nat) (hO : BOk β) (hM : BM τ 0 β) {q : Nat} (hq : q < 2 ^ 31) : ∀ d i : Nat, i + d = β.1 2 → ∀ m : Nat, d < m → fX7_placeOf_2 N τ m (nI q) (nI i) = some (mopt (mfind (β.2 4) q d i)) := by
  obtain ⟨o0, o1, o2, o3, o4, o5, o6, -⟩ := hO
  obtain ⟨y0, y1, y2, y3, y4⟩ := hM
  rw [Nat.zero_add] at y0
  intro d
  induction d with
  | zero =>
    intro i hi m hm
    obtain ⟨m, rfl⟩ : ∃ k, m = k + 1 := ⟨m - 1, by omega⟩
    rw [fX7_placeOf_2, zlen55, if_pos (m_zin (by decide) (by decide)), zlet_eq, nI_clamp (by decide), y0, if_pos ((nI_leI (by omega) (by omega)).mpr (by omega))]
    rfl
  | succ d ih =>
    intro i hi m hm
    obtain ⟨m, rfl⟩ : ∃ k, m = k + 1 := ⟨m - 1, by omega⟩
    have e4 := y4 i (by omega)
    rw [Nat.zero_add] at e4
    have ht := o6 i (by omega)
    rw [fX7_placeOf_2, zlen55, if_pos (m_zin (by decide) (by decide)), zlet_eq, nI_clamp (by decide), y0, if_neg (fun h => by have := (nI_leI (by omega) (by omega)).mp h; omega), nI_add, if_pos (m_zin (by omega) (by decide)), zlet_eq, nI_clamp (by omega), e4, mfind]
    by_cases hc : β.2 4 i = q
    · rw [if_pos ((nI_eq (by omega) hq).mpr hc), if_pos hc]; rfl
    · rw [if_neg (fun h => hc ((nI_eq (by omega) hq).mp h)), if_neg hc, nI_add]
      exact ih (i + 1) (by omega) m (by omega)
theorem y_placeOf (N : Nat) (hN : 4000 ≤ N) (hO : BOk β) (hM : BM τ 0 β) {q : Nat} (hq : q < 2 ^ 31) : fX7_placeOf N τ (nI q) = some (mopt (mfind (β.2 4) q (β.1 2) 0)) := by
  unfold fX7_placeOf
  exact y_place_loop N hO hM hq (β.1 2) 0 (by omega) N (by have := hO.1; have := hO.2.2.1; omega)
theorem y_tower_loop (N : Nat) (hO : BOk β) (hM : BM τ 0 β) : ∀ d i : Nat, i + d = β.1 2 → ∀ m : Nat, d < m → fX7_inTower_4 N τ m (nI (mbits (β.2 4) i)) (nI i) = some (nI (mbits (β.2 4) (β.1 2))) := by
  obtain ⟨o0, o1, o2, o3, o4, o5, o6, -⟩ := hO
  obtain ⟨y0, y1, y2, y3, y4⟩ := hM
  rw [Nat.zero_add] at y0
  intro d
  induction d with
  | zero =>
    intro i hi m hm
    obtain ⟨m, rfl⟩ : ∃ k, m = k + 1 := ⟨m - 1, by omega⟩
    have e : i = β.1 2 := by omega
    subst e
    rw [fX7_inTower_4, zlen55, if_pos (m_zin (by decide) (by decide)), zlet_eq, nI_clamp (by decide), y0, if_pos ((nI_leI (by omega) (by omega)).mpr (Nat.le_refl _))]
  | succ d ih =>
    intro i hi m hm
    obtain ⟨m, rfl⟩ : ∃ k, m = k + 1 := ⟨m - 1, by omega⟩
    have e4 := y4 i (by omega)
    rw [Nat.zero_add] at e4
    have ht := o6 i (by omega)
    rw [fX7_inTower_4, zlen55, if_pos (m_zin (by decide) (by decide)), zlet_eq, nI_clamp (by decide), y0, if_neg (fun h => by have := (nI_leI (by omega) (by omega)).mp h; omega), nI_add, if_pos (m_zin (by omega) (by decide)), zlet_eq, nI_clamp (by omega), e4, zlet_eq, m_bit (by omega), m_or, nI_add]
    exact ih (i + 1) (by omega) m (by omega)
theorem y_inTower (N : Nat) (hN : 4000 ≤ N) (hO : BOk β) (hM : BM τ 0 β) : fX7_inTower N τ = some (nI (mbits (β.2 4) (β.1 2))) := by
  unfold fX7_inTower
  exact y_tower_loop N hO hM (β.1 2) 0 (by omega) N (by have := hO.1; have := hO.2.2.1; omega)
/-- a tower's noise where the places of a mask are hoarse -/
def mnoiseH (T V : Nat → Nat) (m : Nat) : Nat → Nat
  | 0 => 0
  | i + 1 => mnoiseH T V m i + (if m.testBit i = true then 0 else V (T i) * (i + 1))
theorem mnoiseH_0 (T V : Nat → Nat) : ∀ i : Nat, mnoiseH T V 0 i = mnoise T V i
  | 0 => rfl
  | i + 1 => by rw [mnoiseH, mnoise, mnoiseH_0 T V i]; simp
theorem y_noise_loop (N : Nat) (hO : BOk β) (hM : BM τ 0 β) {w : Nat} (hw : w < 2 ^ 31) : ∀ d i : Nat, i + d = β.1 2 → ∀ m : Nat, d < m → fX7_noiseBy_4 N τ m (nI w) (nI (mnoiseH (β.2 4) (β.2 2) w i)) (nI i) = some (nI (mnoiseH (β.2 4) (β.2 2) w (β.1 2))) := by
  obtain ⟨o0, o1, o2, o3, o4, o5, o6, -⟩ := hO
  obtain ⟨y0, y1, y2, y3, y4⟩ := hM
  rw [Nat.zero_add] at y0
  intro d
  induction d with
  | zero =>
    intro i hi m hm
    obtain ⟨m, rfl⟩ : ∃ k, m = k + 1 := ⟨m - 1, by omega⟩
    have e : i = β.1 2 := by omega
    subst e
    rw [fX7_noiseBy_4, zlen55, if_pos (m_zin (by decide) (by decide)), zlet_eq, nI_clamp (by decide), y0, if_pos ((nI_leI (by omega) (by omega)).mpr (Nat.le_refl _))]
  | succ d ih =>
    intro i hi m hm
    obtain ⟨m, rfl⟩ : ∃ k, m = k + 1 := ⟨m - 1, by omega⟩
    have e4 := y4 i (by omega)
    rw [Nat.zero_add] at e4
    have ht := o6 i (by omega)
    have e2 := (y2 _ ht).2.2.1
    rw [Nat.zero_add] at e2
    have ihn := ih (i + 1) (by omega) m (by omega)
    rw [fX7_noiseBy_4, zlen55, if_pos (m_zin (by decide) (by decide)), zlet_eq, nI_clamp (by decide), y0, if_neg (fun h => by have := (nI_leI (by omega) (by omega)).mp h; omega)]
    by_cases hc : w.testBit i = true
    · rw [mnoiseH, if_pos hc] at ihn
      rw [if_pos ((m_tst1 hw (by omega)).mpr hc), fX7_noiseBy_50, nI_add, nI_add]
      exact ihn
    · rw [mnoiseH, if_neg hc] at ihn
      rw [if_neg (fun h => hc ((m_tst1 hw (by omega)).mp h)), nI_add, if_pos (m_zin (by omega) (by decide)), zlet_eq, nI_clamp (by omega), e4, nI_add, if_pos (m_zin (by omega) (by decide)), zlet_eq, nI_clamp (by omega), e2, nI_add, m_mul, fX7_noiseBy_50, nI_add, nI_add]
      exact ihn
theorem y_noiseBy (N : Nat) (hN : 4000 ≤ N) (hO : BOk β) (hM : BM τ 0 β) {w : Nat} (hw : w < 2 ^ 31) : fX7_noiseBy N τ (nI w) = some (nI (mnoiseH (β.2 4) (β.2 2) w (β.1 2))) := by
  unfold fX7_noiseBy
  exact y_noise_loop N hO hM hw (β.1 2) 0 (by omega) N (by have := hO.1; have := hO.2.2.1; omega)
theorem y_flee_loop (N : Nat) (hO : BOk β) (hM : BM τ 0 β) (hr : τ.1 66 2 = nI (β.1 1)) {L : Nat} (hL : L ≤ 100000) : ∀ d i : Nat, i + d = β.1 1 → ∀ m : Nat, d < m → fX7_fleeBy_7 N τ m (nI L) (nI (mflee (β.2 3) L i).1) (nI (mflee (β.2 3) L i).2) (nI i) = some (nI (mflee (β.2 3) L (β.1 1)).1) := by
  obtain ⟨o0, o1, o2, o3, o4, o5, o6, -⟩ := hO
  obtain ⟨y0, y1, y2, y3, y4⟩ := hM
  intro d
  induction d with
  | zero =>
    intro i hi m hm
    obtain ⟨m, rfl⟩ : ∃ k, m = k + 1 := ⟨m - 1, by omega⟩
    have e : i = β.1 1 := by omega
    subst e
    rw [fX7_fleeBy_7, hr, if_pos ((nI_leI (by omega) (by omega)).mpr (Nat.le_refl _))]
  | succ d ih =>
    intro i hi m hm
    obtain ⟨m, rfl⟩ : ∃ k, m = k + 1 := ⟨m - 1, by omega⟩
    have e3 := y3 i (by omega)
    rw [Nat.zero_add] at e3
    have hc := o5 i (by omega)
    have hle := (mflee_le (β.2 3) L i).1
    have ihn := ih (i + 1) (by omega) m (by omega)
    rw [fX7_fleeBy_7, hr, if_neg (fun h => by have := (nI_leI (by omega) (by omega)).mp h; omega), zlen55, nI_add, if_pos (m_zin (by omega) (by decide)), zlet_eq, nI_clamp (by omega), e3, m_mul, nI_add]
    by_cases hf : β.2 3 i < L + 2 * (mflee (β.2 3) L i).2
    · rw [mflee, if_pos hf] at ihn
      rw [if_neg (fun h => by have := (nI_leI (by omega) (by omega)).mp h; omega), zlet_eq, fX7_fleeBy_44, m_bit (by omega), m_or, nI_add, nI_add]
      exact ihn
    · rw [mflee, if_neg hf] at ihn
      rw [if_pos ((nI_leI (by omega) (by omega)).mpr (by omega)), fX7_fleeBy_44, nI_add]
      exact ihn
theorem y_fleeBy (N : Nat) (hN : 4000 ≤ N) (hO : BOk β) (hM : BM τ 0 β) (hr : τ.1 66 2 = nI (β.1 1)) {L : Nat} (hL : L ≤ 100000) : fX7_fleeBy N τ (nI L) = some (nI (mflee (β.2 3) L (β.1 1)).1) := by
  unfold fX7_fleeBy
  exact y_flee_loop N hO hM hr hL (β.1 1) 0 (by omega) N (by have := hO.2.1; omega)
end BM

/-! a band's methods, by its picture -/
theorem zlen_ba {b : Nat} (h1 : 42 ≤ b) (h2 : b < 46) : zlen (zba b 0) = 5 ∧ zlen (zba b 1) = 5 ∧ zlen (zba b 2) = 5 ∧ zlen (zba b 3) = 4 ∧ zlen (zba b 4) = 5 ∧ zlen (zba b 5) = 5 := by
  have h : b = 42 ∨ b = 43 ∨ b = 44 ∨ b = 45 := by omega
  rcases h with rfl | rfl | rfl | rfl <;> decide
theorem m_dec (x : Int32) : x + (-1) = x - nI 1 := (Int32.sub_eq_add_neg x (nI 1)).symm
theorem m_s1 (i : Nat) : nI (i + 1) - nI 1 = nI i := by rw [m_sub (by omega), Nat.add_sub_cancel]
theorem mbear_le {k w : Nat} (hk : k ≤ 3) (hw : w ≤ 9) : mbear k w ≤ 23 := by
  unfold mbear
  split
  · omega
  · split
    · omega
    · split <;> omega
theorem x_byKind (N : Nat) {k w : Nat} (hk : k ≤ 3) : fX0_byKind N (nI k) (nI w) = some (nI (mbear k w)) := by
  unfold fX0_byKind mbear
  rcases (show k = 0 ∨ k = 1 ∨ k = 2 ∨ k = 3 by omega) with rfl | rfl | rfl | rfl
  · rw [if_pos rfl, if_pos rfl]
  · rw [if_neg (by decide), if_pos rfl, if_neg (by decide), if_pos rfl, nI_add]
  · rw [if_neg (by decide), if_neg (by decide), if_pos rfl, if_neg (by decide), if_neg (by decide), if_pos rfl, nI_add, m_mul]
  · rw [if_neg (by decide), if_neg (by decide), if_neg (by decide), if_neg (by decide), if_neg (by decide), if_neg (by decide), nI_add, m_mul, nI_add]
theorem y_byKind (N : Nat) {k w : Nat} (hk : k ≤ 3) : fX7_byKind N (nI k) (nI w) = some (nI (mbear k w)) := by
  unfold fX7_byKind mbear
  rcases (show k = 0 ∨ k = 1 ∨ k = 2 ∨ k = 3 by omega) with rfl | rfl | rfl | rfl
  · rw [if_pos m_zero, if_pos rfl]
  · rw [if_neg (by decide), if_pos rfl, if_neg (by decide), if_pos rfl, nI_add]
  · rw [if_neg (by decide), if_neg (by decide), if_pos rfl, if_neg (by decide), if_neg (by decide), if_pos rfl, nI_add, m_mul]
  · rw [if_neg (by decide), if_neg (by decide), if_neg (by decide), if_neg (by decide), if_neg (by decide), if_neg (by decide), nI_add, m_mul, nI_add]
section BX
variable {σ : zS} {b : Nat} {β : mB}
def KX (σ : zS) (b : Nat) (β : mB) : Prop := ∀ i, i < β.1 0 → σ.2 (zba b 0) i = nI (β.2 0 i) ∧ σ.2 (zba b 1) i = nI (β.2 1 i)
theorem BX_K (h : BX σ b β) : KX σ b β := fun i hi => ⟨(h.2.2.2.2.1 i hi).1, (h.2.2.2.2.1 i hi).2.1⟩
theorem x_bears (N : Nat) (h1 : 42 ≤ b) (h2 : b < 46) (hO : BOk β) (hX : KX σ b β) {i : Nat} (hi : i < β.1 0) : fX0_bears N σ b (nI i) = some (nI (mbear (β.2 0 i) (β.2 1 i))) := by
  obtain ⟨z0, z1, z2, z3, z4, z5⟩ := zlen_ba h1 h2
  obtain ⟨o0, o1, o2, o3, o4, -⟩ := hO
  have hin : zin (nI i) 5 := m_zin (by omega) (by decide)
  unfold fX0_bears
  rw [z0, z1, if_pos hin, zlet_eq, if_pos hin, zlet_eq, nI_clamp (by omega), (hX i hi).1, (hX i hi).2, x_byKind N (o4 i hi).1]
  rfl
theorem x_hurts (N : Nat) (h1 : 42 ≤ b) (h2 : b < 46) (hO : BOk β) (hX : BX σ b β) {i : Nat} (hi : i < β.1 0) : fX0_hurts N σ b (nI i) = some (nI (mbear (β.2 0 i) 1)) := by
  obtain ⟨z0, z1, z2, z3, z4, z5⟩ := zlen_ba h1 h2
  obtain ⟨o0, o1, o2, o3, o4, -⟩ := hO
  obtain ⟨x0, x1, x2, x3, x4, x5, x6⟩ := hX
  have hin : zin (nI i) 5 := m_zin (by omega) (by decide)
  unfold fX0_hurts
  rw [z0, if_pos hin, zlet_eq, nI_clamp (by omega), (x4 i hi).1, x_byKind N (o4 i hi).1]
  rfl
theorem x_carries_loop (N : Nat) (h1 : 42 ≤ b) (h2 : b < 46) (hO : BOk β) (hX : KX σ b β) {row : Nat} {T : Nat → Nat} {sz : Nat} (hs : sz ≤ zlen row) (hl : zlen row ≤ 1000) (hT : ∀ i, i < sz → σ.2 row i = nI (T i) ∧ T i < β.1 0) : ∀ i : Nat, i ≤ sz → ∀ m : Nat, i < m → ∀ a : Nat, a + 10 * i ≤ 1000000 → fX0_carries_8 N σ m b row (nI a) (nI i - nI 1) = some (if cs β T i a = true then 1 else 0) := by
  intro i
  induction i with
  | zero =>
    intro _ m hm a ha
    obtain ⟨m, rfl⟩ : ∃ k, m = k + 1 := ⟨m - 1, by omega⟩
    rw [fX0_carries_8, if_pos (by decide)]
    simp [cs]
  | succ i ih =>
    intro hi m hm a ha
    obtain ⟨m, rfl⟩ : ∃ k, m = k + 1 := ⟨m - 1, by omega⟩
    obtain ⟨r1, r2⟩ := hT i (by omega)
    obtain ⟨z0, z1, z2, z3, z4, z5⟩ := zlen_ba h1 h2
    have hbr := x_bears N h1 h2 hO hX r2
    obtain ⟨o0, o1, o2, o3, o4, -⟩ := hO
    have hb9 := mbear_le (o4 _ r2).1 (o4 _ r2).2.2.1
    have hin : zin (nI i) (zlen row) := m_zin (by omega) (by omega)
    have hin2 : zin (nI (T i)) 5 := m_zin (by omega) (by decide)
    have hw := (o4 _ r2).2.2.1
    have r1 : σ.2 row (nI i).toNatClampNeg = nI (T i) := by rw [nI_clamp (by omega)]; exact r1
    rw [m_s1, fX0_carries_8, if_neg (nI_pos (by omega)), if_pos hin, zlet_eq, r1, hbr, Option.bind_some]
    by_cases hc : a ≤ mbear (β.2 0 (T i)) (β.2 1 (T i))
    · rw [if_pos ((nI_leI (by omega) (by omega)).mpr hc), if_pos hin, zlet_eq, z1, if_pos hin2, zlet_eq, nI_clamp (by omega), (hX _ r2).2, nI_add, m_dec, ih (by omega) m (by omega) (a + β.2 1 (T i)) (by omega)]
      simp [cs, hc]
    · rw [if_neg (fun h => hc ((nI_leI (by omega) (by omega)).mp h))]
      simp [cs, hc]
theorem x_carries (N : Nat) (hN : 4000 ≤ N) (h1 : 42 ≤ b) (h2 : b < 46) (hO : BOk β) (hX : KX σ b β) {row : Nat} {T : Nat → Nat} {sz a : Nat} (hs : sz ≤ zlen row) (hl : zlen row ≤ 1000) (hT : ∀ i, i < sz → σ.2 row i = nI (T i) ∧ T i < β.1 0) (ha : a ≤ 100) : fX0_carries N σ b row (nI sz) (nI a) = some (if cs β T sz a = true then 1 else 0) := by
  unfold fX0_carries
  rw [zlet_eq]
  exact x_carries_loop N h1 h2 hO hX hs hl hT sz (Nat.le_refl _) N (by omega) a (by omega)
theorem x_standsG (N : Nat) (hN : 4000 ≤ N) (h1 : 42 ≤ b) (h2 : b < 46) (hO : BOk β) (hX : KX σ b β) {T : Nat → Nat} {h : Nat} (h5 : h ≤ 5) (h8 : σ.1 b 8 = nI h) (hT : ∀ i, i < h → σ.2 (zba b 4) i = nI (T i) ∧ T i < β.1 0) : fX0_stands N σ b = some (if cs β T h 0 = true then 1 else 0) := by
  obtain ⟨z0, z1, z2, z3, z4, z5⟩ := zlen_ba h1 h2
  unfold fX0_stands
  rw [h8, x_carries N hN h1 h2 hO hX (T := T) (by rw [z4]; omega) (by rw [z4]; decide) hT (by decide), Option.bind_some, if_pos (by split <;> simp)]
theorem x_stands (N : Nat) (hN : 4000 ≤ N) (h1 : 42 ≤ b) (h2 : b < 46) (hO : BOk β) (hX : BX σ b β) : fX0_stands N σ b = some (if cs β (β.2 4) (β.1 2) 0 = true then 1 else 0) :=
  x_standsG N hN h1 h2 hO (BX_K hX) (by have := hO.1; have := hO.2.2.1; omega) hX.2.2.1 (fun i hi => ⟨hX.2.2.2.2.2.2 i hi, hO.2.2.2.2.2.2.1 i hi⟩)
/-- how loud a tower is -/
def mnoise (T V : Nat → Nat) : Nat → Nat
  | 0 => 0
  | i + 1 => mnoise T V i + V (T i) * (i + 1)
theorem x_noise_loop (N : Nat) {row vo sz : Nat} {T V : Nat → Nat} (hs : sz ≤ zlen row) (hl : zlen row ≤ 1000) (hv : zlen vo ≤ 1000) (hT : ∀ i, i < sz → σ.2 row i = nI (T i) ∧ T i < zlen vo ∧ σ.2 vo (T i) = nI (V (T i))) : ∀ d i : Nat, i + d = sz → ∀ m : Nat, d < m → fX0_noiseBy_6 N σ m row (nI sz) vo (nI (mnoise T V i)) (nI i) = some (nI (mnoise T V sz)) := by
  intro d
  induction d with
  | zero =>
    intro i hi m hm
    obtain ⟨m, rfl⟩ : ∃ k, m = k + 1 := ⟨m - 1, by omega⟩
    have e : i = sz := by omega
    subst e
    rw [fX0_noiseBy_6, if_pos ((nI_leI (by omega) (by omega)).mpr (Nat.le_refl _))]
  | succ d ih =>
    intro i hi m hm
    obtain ⟨m, rfl⟩ : ∃ k, m = k + 1 := ⟨m - 1, by omega⟩
    obtain ⟨r1, r2, r3⟩ := hT i (by omega)
    rw [fX0_noiseBy_6, if_neg (fun h => by have := (nI_leI (by omega) (by omega)).mp h; omega), if_pos (m_zin (by omega) (by omega)), zlet_eq, nI_clamp (by omega), r1, if_pos (m_zin r2 (by omega)), zlet_eq, nI_clamp (by omega), r3, zlet_eq, nI_add, m_mul, nI_add]
    exact ih (i + 1) (by omega) m (by omega)
theorem x_noiseBy (N : Nat) (hN : 4000 ≤ N) {row vo sz b0 : Nat} {T V : Nat → Nat} (hs : sz ≤ zlen row) (hl : zlen row ≤ 1000) (hv : zlen vo ≤ 1000) (hT : ∀ i, i < sz → σ.2 row i = nI (T i) ∧ T i < zlen vo ∧ σ.2 vo (T i) = nI (V (T i))) : fX0_noiseBy N σ b0 row (nI sz) vo = some (nI (mnoise T V sz)) := by
  unfold fX0_noiseBy
  exact x_noise_loop N hs hl hv hT sz 0 (by omega) N (by omega)
/-- who flees: the bits, and how many -/
def mflee (C : Nat → Nat) (L : Nat) : Nat → Nat × Nat
  | 0 => (0, 0)
  | r + 1 => if C r < L + 2 * (mflee C L r).2 then ((mflee C L r).1 ||| 2 ^ r, (mflee C L r).2 + 1) else mflee C L r
theorem mflee_le (C : Nat → Nat) (L : Nat) : ∀ r : Nat, (mflee C L r).2 ≤ r ∧ (mflee C L r).1 < 2 ^ r
  | 0 => ⟨Nat.le_refl _, by show 0 < 2 ^ 0; decide⟩
  | r + 1 => by
    obtain ⟨h1, h2⟩ := mflee_le C L r
    have h3 : (2 : Nat) ^ r < 2 ^ (r + 1) := Nat.pow_lt_pow_right (by decide) (by omega)
    rw [mflee]
    split
    · exact ⟨by dsimp only; omega, Nat.or_lt_two_pow (by omega) h3⟩
    · exact ⟨by omega, by omega⟩
theorem x_fled_loop (N : Nat) (h1 : 42 ≤ b) (h2 : b < 46) (hO : BOk β) (hX : BX σ b β) {L : Nat} (hL : L ≤ 100000) : ∀ d i : Nat, i + d = β.1 1 → ∀ m : Nat, d < m → fX0_fledBits_7 N σ m b (nI (mflee (β.2 3) L i).1) (nI (L + 2 * (mflee (β.2 3) L i).2)) (nI i) = some (nI (mflee (β.2 3) L (β.1 1)).1) := by
  obtain ⟨z0, z1, z2, z3, z4, z5⟩ := zlen_ba h1 h2
  obtain ⟨o0, o1, o2, o3, o4, o5, -⟩ := hO
  obtain ⟨x0, x1, x2, x3, x4, x5, x6⟩ := hX
  intro d
  induction d with
  | zero =>
    intro i hi m hm
    obtain ⟨m, rfl⟩ : ∃ k, m = k + 1 := ⟨m - 1, by omega⟩
    have e : i = β.1 1 := by omega
    subst e
    rw [fX0_fledBits_7, x1, if_pos ((nI_leI (by omega) (by omega)).mpr (Nat.le_refl _))]
  | succ d ih =>
    intro i hi m hm
    obtain ⟨m, rfl⟩ : ∃ k, m = k + 1 := ⟨m - 1, by omega⟩
    have hc := o5 i (by omega)
    have hle := (mflee_le (β.2 3) L i).1
    have ihn := ih (i + 1) (by omega) m (by omega)
    rw [fX0_fledBits_7, x1, if_neg (fun h => by have := (nI_leI (by omega) (by omega)).mp h; omega), z3, if_pos (m_zin (by omega) (by decide)), zlet_eq, nI_clamp (by omega), x5 i (by omega)]
    by_cases hf : β.2 3 i < L + 2 * (mflee (β.2 3) L i).2
    · rw [mflee, if_pos hf] at ihn
      rw [if_neg (fun h => by have := (nI_leI (by omega) (by omega)).mp h; omega), zlet_eq, fX0_fledBits_37, m_bit (by omega), m_or, nI_add, nI_add]
      rw [show L + 2 * (mflee (β.2 3) L i).2 + 2 = L + 2 * ((mflee (β.2 3) L i).2 + 1) by omega]
      exact ihn
    · rw [mflee, if_neg hf] at ihn
      rw [if_pos ((nI_leI (by omega) (by omega)).mpr (by omega)), fX0_fledBits_37, nI_add]
      exact ihn
theorem x_fledBits (N : Nat) (hN : 4000 ≤ N) (h1 : 42 ≤ b) (h2 : b < 46) (hO : BOk β) (hX : BX σ b β) {L : Nat} (hL : L ≤ 100000) : fX0_fledBits N σ b (nI L) = some (nI (mflee (β.2 3) L (β.1 1)).1) := by
  unfold fX0_fledBits
  have := x_fled_loop N h1 h2 hO hX hL (β.1 1) 0 (by omega) N (by have := hO.2.1; omega)
  exact this
theorem x_tower_loop (N : Nat) (h1 : 42 ≤ b) (h2 : b < 46) (hO : BOk β) (hX : BX σ b β) : ∀ d i : Nat, i + d = β.1 2 → ∀ m : Nat, d < m → fX0_towerBits_4 N σ m b (nI (mbits (β.2 4) i)) (nI i) = some (nI (mbits (β.2 4) (β.1 2))) := by
  obtain ⟨z0, z1, z2, z3, z4, z5⟩ := zlen_ba h1 h2
  obtain ⟨o0, o1, o2, o3, o4, o5, o6, -⟩ := hO
  obtain ⟨x0, x1, x2, x3, x4, x5, x6⟩ := hX
  intro d
  induction d with
  | zero =>
    intro i hi m hm
    obtain ⟨m, rfl⟩ : ∃ k, m = k + 1 := ⟨m - 1, by omega⟩
    have e : i = β.1 2 := by omega
    subst e
    rw [fX0_towerBits_4, x2, if_pos ((nI_leI (by omega) (by omega)).mpr (Nat.le_refl _))]
  | succ d ih =>
    intro i hi m hm
    obtain ⟨m, rfl⟩ : ∃ k, m = k + 1 := ⟨m - 1, by omega⟩
    have ht := o6 i (by omega)
    rw [fX0_towerBits_4, x2, if_neg (fun h => by have := (nI_leI (by omega) (by omega)).mp h; omega), z4, if_pos (m_zin (by omega) (by decide)), zlet_eq, nI_clamp (by omega), x6 i (by omega), zlet_eq, m_bit (by omega), m_or, nI_add]
    exact ih (i + 1) (by omega) m (by omega)
theorem x_towerBits (N : Nat) (hN : 4000 ≤ N) (h1 : 42 ≤ b) (h2 : b < 46) (hO : BOk β) (hX : BX σ b β) : fX0_towerBits N σ b = some (nI (mbits (β.2 4) (β.1 2))) := by
  unfold fX0_towerBits
  exact x_tower_loop N h1 h2 hO hX (β.1 2) 0 (by omega) N (by have := hO.1; have := hO.2.2.1; omega)
/-- what beds hurt, up to one -/
def mhurt (β : mB) (T : Nat → Nat) : Nat → Nat
  | 0 => 0
  | i + 1 => mhurt β T i + mbear (β.2 0 (T i)) 1
theorem x_hurt_loop (N : Nat) (h1 : 42 ≤ b) (h2 : b < 46) (hO : BOk β) (hX : BX σ b β) {row sz : Nat} {T : Nat → Nat} (hs : sz ≤ zlen row) (hl : zlen row ≤ 1000) (hT : ∀ i, i < sz → σ.2 row i = nI (T i) ∧ T i < β.1 0) : ∀ d i : Nat, i + d = sz → ∀ m : Nat, d < m → fX0_hurtBehind_5 N σ m b row (nI sz) (nI (mhurt β T i)) (nI i) = some (nI (mhurt β T sz)) := by
  intro d
  induction d with
  | zero =>
    intro i hi m hm
    obtain ⟨m, rfl⟩ : ∃ k, m = k + 1 := ⟨m - 1, by omega⟩
    have e : i = sz := by omega
    subst e
    rw [fX0_hurtBehind_5, if_pos ((nI_leI (by omega) (by omega)).mpr (Nat.le_refl _))]
  | succ d ih =>
    intro i hi m hm
    obtain ⟨m, rfl⟩ : ∃ k, m = k + 1 := ⟨m - 1, by omega⟩
    obtain ⟨r1, r2⟩ := hT i (by omega)
    rw [fX0_hurtBehind_5, if_neg (fun h => by have := (nI_leI (by omega) (by omega)).mp h; omega), if_pos (m_zin (by omega) (by omega)), zlet_eq, nI_clamp (by omega), r1, x_hurts N h1 h2 hO hX r2, Option.bind_some, nI_add, nI_add]
    exact ih (i + 1) (by omega) m (by omega)
theorem x_hurtBehind (N : Nat) (hN : 4000 ≤ N) (h1 : 42 ≤ b) (h2 : b < 46) (hO : BOk β) (hX : BX σ b β) {row sz : Nat} {T : Nat → Nat} (hs : sz ≤ zlen row) (hl : zlen row ≤ 1000) (hT : ∀ i, i < sz → σ.2 row i = nI (T i) ∧ T i < β.1 0) : fX0_hurtBehind N σ b row (nI sz) = some (nI (mhurt β T sz)) := by
  unfold fX0_hurtBehind
  exact x_hurt_loop N h1 h2 hO hX hs hl hT sz 0 (by omega) N (by omega)
/-- how many beds the scout meets, from the i-th on, with d beds left -/
def mmet (β : mB) (T : Nat → Nat) : Nat → Nat → Nat
  | 0, i => i
  | d + 1, i => if β.1 3 < mhurt β T i then i else mmet β T d (i + 1)
theorem mhurt_le (hO : BOk β) {T : Nat → Nat} : ∀ i : Nat, (∀ j, j < i → T j < β.1 0) → mhurt β T i ≤ 7 * i
  | 0, _ => Nat.le_refl _
  | i + 1, h => by
    have h1 := mhurt_le hO i (fun j hj => h j (by omega))
    have h2 : mbear (β.2 0 (T i)) 1 ≤ 7 := by
      have hk := (hO.2.2.2.2.1 (T i) (h i (by omega))).1
      unfold mbear
      split
      · omega
      · split
        · omega
        · split <;> omega
    rw [mhurt]
    omega
theorem x_met_loop (N : Nat) (h1 : 42 ≤ b) (h2 : b < 46) (hO : BOk β) (hX : BX σ b β) {row : Nat} {T : Nat → Nat} (hs : β.1 0 ≤ zlen row) (hl : zlen row ≤ 1000) (hT : ∀ i, i < β.1 0 → σ.2 row i = nI (T i) ∧ T i < β.1 0) : ∀ d i : Nat, i + d = β.1 0 → ∀ m : Nat, d < m → fX0_metOn_4 N σ m b row (nI (mhurt β T i)) (nI i) = some (nI (mmet β T d i)) := by
  have x0 := hX.1
  have x3 := hX.2.2.2.1
  have o3 := hO.2.2.2.1
  intro d
  induction d with
  | zero =>
    intro i hi m hm
    obtain ⟨m, rfl⟩ : ∃ k, m = k + 1 := ⟨m - 1, by omega⟩
    rw [fX0_metOn_4, x0, if_pos ((nI_leI (by omega) (by omega)).mpr (by omega))]
    rfl
  | succ d ih =>
    intro i hi m hm
    obtain ⟨m, rfl⟩ : ∃ k, m = k + 1 := ⟨m - 1, by omega⟩
    obtain ⟨r1, r2⟩ := hT i (by omega)
    have hh := mhurt_le hO i (fun j hj => (hT j (by omega)).2)
    rw [fX0_metOn_4, x0, if_neg (fun h => by have := (nI_leI (by omega) (by omega)).mp h; omega), x3, mmet]
    by_cases hc : β.1 3 < mhurt β T i
    · rw [if_pos ((nI_ltI (by omega) (by omega)).mpr hc), if_pos hc]
    · rw [if_neg (fun h => hc ((nI_ltI (by omega) (by omega)).mp h)), if_neg hc, if_pos (m_zin (by omega) (by omega)), zlet_eq, nI_clamp (by omega), r1, x_hurts N h1 h2 hO hX r2, Option.bind_some, nI_add, nI_add]
      exact ih (i + 1) (by omega) m (by omega)
theorem x_metOn (N : Nat) (hN : 4000 ≤ N) (h1 : 42 ≤ b) (h2 : b < 46) (hO : BOk β) (hX : BX σ b β) {row : Nat} {T : Nat → Nat} (hs : β.1 0 ≤ zlen row) (hl : zlen row ≤ 1000) (hT : ∀ i, i < β.1 0 → σ.2 row i = nI (T i) ∧ T i < β.1 0) : fX0_metOn N σ b row = some (nI (mmet β T (β.1 0) 0)) := by
  unfold fX0_metOn
  exact x_met_loop N h1 h2 hO hX hs hl hT (β.1 0) 0 (by omega) N (by have := hO.1; omega)
end BX

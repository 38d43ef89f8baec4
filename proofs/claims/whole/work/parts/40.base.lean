/-! numbers of both sides as naturals -/
theorem m_in {k n : Nat} (hk : k < 2 ^ 31) : zin (nI k) n ↔ k < n := by
  have h0 := nI_pos hk
  have hc := nI_clamp hk
  constructor
  · intro h
    have := z_inl h
    rw [hc] at this
    exact this
  · intro h h'
    rcases h' with h' | h'
    · exact h0 h'
    · rw [hc] at h'; omega
theorem m_zin {k n : Nat} (h : k < n) (hn : n ≤ 2 ^ 31) : zin (nI k) n := (m_in (by omega)).mpr h
theorem m_sub {a b : Nat} (h : b ≤ a) : nI a - nI b = nI (a - b) := by
  have e : nI a = nI (a - b) + nI b := by rw [nI_add, Nat.sub_add_cancel h]
  rw [e]
  exact Int32.add_sub_cancel _ _
theorem m_mul (a b : Nat) : nI a * nI b = nI (a * b) := (Int32.ofNat_mul a b).symm
theorem m_neg1 {a : Nat} (h : 1 ≤ a) : nI a + (-1) = nI (a - 1) := by
  rw [← m_sub h]
  exact (Int32.sub_eq_add_neg (nI a) (nI 1)).symm
theorem m_zero : nI 0 = 0 := rfl
theorem m_z0 : nI 0 + (-1) = (-1 : Int32) := by decide
theorem m_neg_lt {n : Nat} (h : n < 2 ^ 31) (k : Int32) (hk : k < 0) : ¬ nI n = k := by
  intro e
  rw [← e] at hk
  exact nI_pos h hk
theorem m_within (N : Nat) (x a b : Int32) : fX6_within N x a b = some (if a ≤ x ∧ x ≤ b then 1 else 0) := by
  unfold fX6_within
  by_cases h1 : x < a
  · rw [if_pos h1, if_neg (fun h => absurd h1 (Int32.not_lt.mpr h.1))]
  · rw [if_neg h1]
    by_cases h2 : b < x
    · rw [if_pos h2, if_neg (fun h => absurd h2 (Int32.not_lt.mpr h.2))]
    · rw [if_neg h2, if_pos ⟨Int32.not_lt.mp h1, Int32.not_lt.mp h2⟩]
theorem m_inq (N : Nat) (x a b : Int64) : fX7_in N x a b = some (if a ≤ x ∧ x ≤ b then 1 else 0) := by
  unfold fX7_in
  have h1 : lg_cmp x a < 0 ↔ ¬ a ≤ x := by
    rw [← lg_cmp_ge]; exact Int32.not_le.symm
  have h2 : 0 < lg_cmp x b ↔ ¬ x ≤ b := by
    rw [← lg_cmp_le]; exact Int32.not_le.symm
  by_cases c1 : a ≤ x
  · rw [if_neg (fun h => h1.mp h c1)]
    by_cases c2 : x ≤ b
    · rw [if_neg (fun h => h2.mp h c2), if_pos ⟨c1, c2⟩]
    · rw [if_pos (h2.mpr c2), if_neg (fun h => c2 h.2)]
  · rw [if_pos (h1.mpr c1), if_neg (fun h => c1 h.1)]
theorem m_in32 (N : Nat) (x a b : Int32) : fX7_in N x.toInt64 a.toInt64 b.toInt64 = some (if a ≤ x ∧ x ≤ b then 1 else 0) := by
  rw [m_inq]
  have e : ∀ u v : Int32, u.toInt64 ≤ v.toInt64 ↔ u ≤ v := fun u v => by
    rw [Int64.le_iff_toInt_le, Int32.le_iff_toInt_le, Int32.toInt_toInt64, Int32.toInt_toInt64]
  simp only [e]
/-! reading behind a write -/
theorem zpa_1 (σ : zS) (q : Nat) (f : Nat → Int32) : (zpa σ q f).1 = σ.1 := rfl
theorem zpf_2 (σ : zS) (q k : Nat) (v : Int32) : (zpf σ q k v).2 = σ.2 := rfl
theorem zpa_2 (σ : zS) (q : Nat) (f : Nat → Int32) (r : Nat) : (zpa σ q f).2 r = if r = q then f else σ.2 r := rfl
theorem zpf_1 (σ : zS) (q k : Nat) (v : Int32) (r : Nat) : (zpf σ q k v).1 r = if r = q then va_up (σ.1 q) k v else σ.1 r := rfl
theorem zup (f : Nat → Int32) (k : Nat) (v : Int32) (j : Nat) : va_up f k v j = if j = k then v else f j := rfl
theorem zupd (f : Nat → Int32) (k : Nat) (v : Int32) (j : Nat) : upd f k v j = if j = k then v else f j := rfl
theorem zlet_eq {α β : Type} (v : α) (f : α → β) : zlet v f = f v := rfl
/-! the picture of a band -/
abbrev mB : Type := (Nat → Nat) × (Nat → Nat → Nat)
def mbear (k w : Nat) : Nat := if k = 0 then w else if k = 1 then w + 1 else if k = 2 then 2 * (w + 1) else 2 * (w + 1) + 3
def cs (β : mB) (T : Nat → Nat) : Nat → Nat → Bool
  | 0, _ => true
  | i + 1, a => decide (a ≤ mbear (β.2 0 (T i)) (β.2 1 (T i))) && cs β T i (a + β.2 1 (T i))
def BX (σ : zS) (b : Nat) (β : mB) : Prop :=
  σ.1 b 6 = nI (β.1 0) ∧ σ.1 b 7 = nI (β.1 1) ∧ σ.1 b 8 = nI (β.1 2) ∧ σ.1 b 9 = nI (β.1 3) ∧
  (∀ i, i < β.1 0 → σ.2 (zba b 0) i = nI (β.2 0 i) ∧ σ.2 (zba b 1) i = nI (β.2 1 i) ∧ σ.2 (zba b 2) i = nI (β.2 2 i) ∧ σ.2 (zba b 5) i = nI (β.2 5 i)) ∧
  (∀ i, i < β.1 1 → σ.2 (zba b 3) i = nI (β.2 3 i)) ∧ (∀ i, i < β.1 2 → σ.2 (zba b 4) i = nI (β.2 4 i))
def BM (τ : zS) (o : Nat) (β : mB) : Prop :=
  τ.2 55 (o + 24) = nI (β.1 2) ∧ τ.2 55 (o + 30) = nI (β.1 3) - nI 5 ∧
  (∀ i, i < β.1 0 → τ.2 55 (o + i) = nI (β.2 0 i) ∧ τ.2 55 (o + 5 + i) = nI (β.2 1 i) ∧ τ.2 55 (o + 10 + i) = nI (β.2 2 i) ∧ τ.2 55 (o + 25 + i) = nI (β.2 5 i) - nI i) ∧
  (∀ i, i < β.1 1 → τ.2 55 (o + 15 + i) = nI (β.2 3 i)) ∧ (∀ i, i < β.1 2 → τ.2 55 (o + 19 + i) = nI (β.2 4 i))
def BOk (β : mB) : Prop :=
  β.1 0 ≤ 5 ∧ β.1 1 ≤ 4 ∧ β.1 2 ≤ β.1 0 ∧ β.1 3 ≤ 40 ∧
  (∀ i, i < β.1 0 → β.2 0 i ≤ 3 ∧ 1 ≤ β.2 1 i ∧ β.2 1 i ≤ 9 ∧ β.2 2 i ≤ 9 ∧ β.2 5 i < β.1 0) ∧
  (∀ i, i < β.1 1 → β.2 3 i ≤ 99) ∧ (∀ i, i < β.1 2 → β.2 4 i < β.1 0) ∧
  (∀ i, i < β.1 2 → ∀ j, j < β.1 2 → β.2 4 i = β.2 4 j → i = j) ∧
  (∀ i, i < β.1 0 → ∀ j, j < β.1 0 → β.2 5 i = β.2 5 j → i = j) ∧ cs β (β.2 4) (β.1 2) 0 = true
/-! how the two states stand to each other -/
def RB (σ τ : zS) (β : mB) : Prop := BOk β ∧ BX σ 42 β ∧ BM τ 0 β ∧ τ.1 66 1 = nI (β.1 0) ∧ τ.1 66 2 = nI (β.1 1)
def RI (σ τ : zS) (β : mB) : Prop := ∀ k, k < 2 → (σ.2 39 k = 0 ∧ τ.2 65 k = 0) ∨ (σ.2 39 k = 1 ∧ τ.2 65 k = 1 ∧ ∃ γ : mB, BOk γ ∧ γ.1 0 = β.1 0 ∧ γ.1 1 = β.1 1 ∧ BX σ (44 + k) γ ∧ BM τ (31 * (k + 1)) γ)
def RT (σ τ : zS) : Prop := ∃ n, n ≤ 160 ∧ σ.1 50 2 = nI n ∧ τ.1 66 11 = nI n ∧ ∀ i, i < n → ∃ c, c ≤ 127 ∧ σ.2 24 i = nI c ∧ τ.2 57 i = nI c
def RS (σ τ : zS) : Prop := ∃ m, m ≤ 6 ∧ σ.1 51 2 = nI m ∧ τ.1 66 28 = nI m ∧ ∀ i, i < m → ∃ a b, 1 ≤ a ∧ a ≤ 5 ∧ b ≤ 99 ∧ σ.2 25 i = nI a ∧ τ.2 60 (2 * i) = nI a ∧ σ.2 26 i = nI b ∧ τ.2 60 (2 * i + 1) = nI b
def RH (σ τ : zS) : Prop := ∀ k, k < 4 → ((σ.1 (46 + k) 1 = -1 ∧ τ.2 62 k = -4) ∨ ∃ a, a ≤ 2 ∧ σ.1 (46 + k) 1 = nI a ∧ τ.2 62 k = nI a) ∧ ∃ m, m ≤ 40 ∧ σ.1 (46 + k) 2 = nI m ∧ τ.2 63 k = nI m ∧ ∀ i, i < m → σ.2 (35 + k) i = τ.2 64 (40 * k + i)
def mcuts : List Nat := [0, 4, 7, 12, 15, 21, 26, 31, 35]
def mletters : List Nat := [99, 111, 99, 107, 99, 97, 116, 104, 111, 117, 110, 100, 97, 115, 115, 114, 111, 98, 98, 101, 114, 115, 99, 111, 117, 116, 116, 111, 119, 101, 114, 98, 101, 100, 115]
def RC (τ : zS) : Prop := (∀ i, i < 9 → τ.2 58 i = nI (mcuts.getD i 0)) ∧ ∀ i, i < 35 → τ.2 59 i = nI (mletters.getD i 0)
def Rel (σ τ : zS) : Prop := ∃ β : mB, RB σ τ β ∧ RI σ τ β ∧ RT σ τ ∧ RS σ τ ∧ RH σ τ ∧ RC τ ∧ σ.1 50 9 = τ.1 66 12 ∧ σ.1 54 9 = τ.1 66 35
/-! what a state's picture rests on -/
theorem BX_eq {σ σ' : zS} {b : Nat} {β : mB} (h1 : σ'.1 b = σ.1 b) (h2 : ∀ k, k < 6 → σ'.2 (zba b k) = σ.2 (zba b k)) (h : BX σ b β) : BX σ' b β := by
  unfold BX at h ⊢
  rw [h1, h2 0 (by decide), h2 1 (by decide), h2 2 (by decide), h2 3 (by decide), h2 4 (by decide), h2 5 (by decide)]
  exact h
theorem BM_eq {τ τ' : zS} {o : Nat} {β : mB} (hO : BOk β) (h : ∀ i, o ≤ i → i < o + 31 → τ'.2 55 i = τ.2 55 i) (hM : BM τ o β) : BM τ' o β := by
  obtain ⟨b0, b1, b2, b3, -⟩ := hO
  obtain ⟨h1, h2, h3, h4, h5⟩ := hM
  refine ⟨by rw [h _ (by omega) (by omega)]; exact h1, by rw [h _ (by omega) (by omega)]; exact h2, fun i hi => ?_, fun i hi => ?_, fun i hi => ?_⟩
  · rw [h _ (by omega) (by omega), h _ (by omega) (by omega), h _ (by omega) (by omega), h _ (by omega) (by omega)]; exact h3 i hi
  · rw [h _ (by omega) (by omega)]; exact h4 i hi
  · rw [h _ (by omega) (by omega)]; exact h5 i hi

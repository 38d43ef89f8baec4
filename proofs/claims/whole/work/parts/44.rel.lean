/-! ranges, and what each part of the relation rests on -/
theorem z24 : zin (nI 24) (zlen 55) := by decide
theorem z30 : zin (nI 30) (zlen 55) := by decide
theorem z02 : zin (nI 0) 2 := by decide
theorem z10 : ¬ (1 : Int32) = 0 := by decide
theorem m_rng {x : Int32} {lo hi : Nat} (hh : hi < 2 ^ 31) : (nI lo ≤ x ∧ x ≤ nI hi) ∧ lo < 2 ^ 31 → ∃ k, lo ≤ k ∧ k ≤ hi ∧ x = nI k := by
  rintro ⟨⟨h1, h2⟩, hl⟩
  have h0 : ¬ x < 0 := by
    intro h
    have a := Int32.le_iff_toInt_le.mp h1
    have b := Int32.lt_iff_toInt_lt.mp h
    rw [nI_toInt hl] at a
    have : (0 : Int32).toInt = 0 := rfl
    omega
  obtain ⟨k, hk, rfl⟩ := nI_of h0
  exact ⟨k, (nI_leI hl hk).mp h1, (nI_leI hk hh).mp h2, rfl⟩
theorem x_within1 (N : Nat) {lo k hi : Nat} (h1 : lo ≤ k) (h2 : k ≤ hi) (hh : hi < 2 ^ 31) : fX6_within N (nI k) (nI lo) (nI hi) = some 1 := by
  rw [m_within, if_pos ⟨(nI_leI (by omega) (by omega)).mpr h1, (nI_leI (by omega) hh).mpr h2⟩]
theorem x_within0 (N : Nat) {x : Int32} {lo hi : Nat} (hh : hi < 2 ^ 31) (hl : lo < 2 ^ 31) (h : ¬ ∃ k, lo ≤ k ∧ k ≤ hi ∧ x = nI k) : fX6_within N x (nI lo) (nI hi) = some 0 := by
  rw [m_within, if_neg (fun h' => h (m_rng hh ⟨h', hl⟩))]
theorem y_in1 (N : Nat) {lo k hi : Nat} (h1 : lo ≤ k) (h2 : k ≤ hi) (hh : hi < 2 ^ 31) : fX7_in N (nI k).toInt64 (lN lo) (lN hi) = some 1 := by
  rw [← nI_l (by omega), ← nI_l hh, m_in32, if_pos ⟨(nI_leI (by omega) (by omega)).mpr h1, (nI_leI (by omega) hh).mpr h2⟩]
theorem y_in0 (N : Nat) {x : Int32} {lo hi : Nat} (hh : hi < 2 ^ 31) (hl : lo < 2 ^ 31) (h : ¬ ∃ k, lo ≤ k ∧ k ≤ hi ∧ x = nI k) : fX7_in N x.toInt64 (lN lo) (lN hi) = some 0 := by
  rw [← nI_l hl, ← nI_l hh, m_in32, if_neg (fun h' => h (m_rng hh ⟨h', hl⟩))]
/-- below a count that may be 0 -/
theorem m_below {x : Int32} {n : Nat} (hn : n < 2 ^ 30) : (nI 0 ≤ x ∧ x ≤ nI n - nI 1) ↔ ∃ k, k < n ∧ x = nI k := by
  constructor
  · rintro ⟨h1, h2⟩
    have a := Int32.le_iff_toInt_le.mp h1
    have b := Int32.le_iff_toInt_le.mp h2
    rw [pk_sub_toInt hn (by decide)] at b
    rw [nI_toInt (by decide)] at a
    have h0 : ¬ x < 0 := by
      intro h
      have c := Int32.lt_iff_toInt_lt.mp h
      have : (0 : Int32).toInt = 0 := rfl
      omega
    obtain ⟨k, hk, rfl⟩ := nI_of h0
    rw [nI_toInt hk] at b
    exact ⟨k, by omega, rfl⟩
  · rintro ⟨k, hk, rfl⟩
    refine ⟨(nI_leI (by decide) (by omega)).mpr (Nat.zero_le _), ?_⟩
    rw [m_sub (by omega)]
    exact (nI_leI (by omega) (by omega)).mpr (by omega)
theorem x_below1 (N : Nat) {k n : Nat} (hn : n < 2 ^ 30) (h : k < n) : fX6_within N (nI k) (nI 0) (nI n - nI 1) = some 1 := by
  rw [m_within, if_pos ((m_below hn).mpr ⟨k, h, rfl⟩)]
theorem x_below0 (N : Nat) {x : Int32} {n : Nat} (hn : n < 2 ^ 30) (h : ¬ ∃ k, k < n ∧ x = nI k) : fX6_within N x (nI 0) (nI n - nI 1) = some 0 := by
  rw [m_within, if_neg (fun h' => h ((m_below hn).mp h'))]
theorem y_below1 (N : Nat) {k n : Nat} (hn : n < 2 ^ 30) (h : k < n) : fX7_in N (nI k).toInt64 0 (nI n - nI 1).toInt64 = some 1 := by
  have := m_in32 N (nI k) (nI 0) (nI n - nI 1)
  rw [if_pos ((m_below hn).mpr ⟨k, h, rfl⟩)] at this
  exact this
theorem y_below0 (N : Nat) {x : Int32} {n : Nat} (hn : n < 2 ^ 30) (h : ¬ ∃ k, k < n ∧ x = nI k) : fX7_in N x.toInt64 0 (nI n - nI 1).toInt64 = some 0 := by
  have := m_in32 N x (nI 0) (nI n - nI 1)
  rw [if_neg (fun h' => h ((m_below hn).mp h'))] at this
  exact this
theorem x_has1 (N : Nat) {σ : zS} {b n k : Nat} (hx : σ.1 b 6 = nI n) (hn : n < 2 ^ 30) (h : k < n) : fX0_hasBeast N σ b (nI k) = some 1 := by
  unfold fX0_hasBeast
  rw [hx, x_below1 N hn h, Option.bind_some]
  rfl
theorem x_has0 (N : Nat) {σ : zS} {b n : Nat} {x : Int32} (hx : σ.1 b 6 = nI n) (hn : n < 2 ^ 30) (h : ¬ ∃ k, k < n ∧ x = nI k) : fX0_hasBeast N σ b x = some 0 := by
  unfold fX0_hasBeast
  rw [hx, x_below0 N hn h, Option.bind_some]
  rfl
theorem x_hasR1 (N : Nat) {σ : zS} {b n k : Nat} (hx : σ.1 b 7 = nI n) (hn : n < 2 ^ 30) (h : k < n) : fX0_hasRobber N σ b (nI k) = some 1 := by
  unfold fX0_hasRobber
  rw [hx, x_below1 N hn h, Option.bind_some]
  rfl
theorem x_hasR0 (N : Nat) {σ : zS} {b n : Nat} {x : Int32} (hx : σ.1 b 7 = nI n) (hn : n < 2 ^ 30) (h : ¬ ∃ k, k < n ∧ x = nI k) : fX0_hasRobber N σ b x = some 0 := by
  unfold fX0_hasRobber
  rw [hx, x_below0 N hn h, Option.bind_some]
  rfl
theorem y_has1 (N : Nat) {τ : zS} {n k : Nat} (hx : τ.1 66 1 = nI n) (hn : n < 2 ^ 30) (h : k < n) : fX7_isBeast N τ (nI k) = some 1 := by
  unfold fX7_isBeast
  rw [hx, y_below1 N hn h, Option.bind_some]
  rfl
theorem y_has0 (N : Nat) {τ : zS} {n : Nat} {x : Int32} (hx : τ.1 66 1 = nI n) (hn : n < 2 ^ 30) (h : ¬ ∃ k, k < n ∧ x = nI k) : fX7_isBeast N τ x = some 0 := by
  unfold fX7_isBeast
  rw [hx, y_below0 N hn h, Option.bind_some]
  rfl
theorem y_hasR1 (N : Nat) {τ : zS} {n k : Nat} (hx : τ.1 66 2 = nI n) (hn : n < 2 ^ 30) (h : k < n) : fX7_isRobber N τ (nI k) = some 1 := by
  unfold fX7_isRobber
  rw [hx, y_below1 N hn h, Option.bind_some]
  rfl
theorem y_hasR0 (N : Nat) {τ : zS} {n : Nat} {x : Int32} (hx : τ.1 66 2 = nI n) (hn : n < 2 ^ 30) (h : ¬ ∃ k, k < n ∧ x = nI k) : fX7_isRobber N τ x = some 0 := by
  unfold fX7_isRobber
  rw [hx, y_below0 N hn h, Option.bind_some]
  rfl
section REQ
variable {σ σ' τ τ' : zS} {β : mB}
theorem RB_eq (h : RB σ τ β)  (h1 : σ'.1 42 = σ.1 42) (h2 : ∀ q, q < 6 → σ'.2 q = σ.2 q) (h3 : ∀ i, i < 31 → τ'.2 55 i = τ.2 55 i) (h4 : τ'.1 66 1 = τ.1 66 1) (h5 : τ'.1 66 2 = τ.1 66 2) : RB σ' τ' β := by
  obtain ⟨a, b, c, d, e⟩ := h
  exact ⟨a, BX_eq h1 (fun k hk => h2 (zba 42 k) (by unfold zba; omega)) b, BM_eq a (fun i _ hi => h3 i (by omega)) c, by rw [h4]; exact d, by rw [h5]; exact e⟩
theorem RI_eq (h : RI σ τ β)  (h1 : σ'.2 39 = σ.2 39) (h2 : ∀ q, 44 ≤ q → q < 46 → σ'.1 q = σ.1 q) (h3 : ∀ q, 12 ≤ q → q < 24 → σ'.2 q = σ.2 q) (h4 : τ'.2 65 = τ.2 65) (h5 : ∀ i, 31 ≤ i → i < 93 → τ'.2 55 i = τ.2 55 i) : RI σ' τ' β := by
  intro k hk
  rw [h1, h4]
  rcases h k hk with h' | ⟨a, b, γ, c, d, e, f, g⟩
  · exact Or.inl h'
  · exact Or.inr ⟨a, b, γ, c, d, e, BX_eq (h2 _ (by omega) (by omega)) (fun j hj => h3 _ (by unfold zba; omega) (by unfold zba; omega)) f, BM_eq c (fun i h1 h2 => h5 i (by omega) (by omega)) g⟩
theorem RI_n {β' : mB} (h0 : β'.1 0 = β.1 0) (h1 : β'.1 1 = β.1 1) (h : RI σ τ β) : RI σ τ β' := by
  intro k hk
  rcases h k hk with h' | ⟨a, b, γ, c, d, e, f⟩
  · exact Or.inl h'
  · exact Or.inr ⟨a, b, γ, c, by rw [h0]; exact d, by rw [h1]; exact e, f⟩
theorem RT_eq (h : RT σ τ)  (h1 : σ'.1 50 2 = σ.1 50 2) (h2 : τ'.1 66 11 = τ.1 66 11) (h3 : σ'.2 24 = σ.2 24) (h4 : τ'.2 57 = τ.2 57) : RT σ' τ' := by
  unfold RT at h ⊢
  rw [h1, h2, h3, h4]
  exact h
theorem RS_eq (h : RS σ τ)  (h1 : σ'.1 51 2 = σ.1 51 2) (h2 : τ'.1 66 28 = τ.1 66 28) (h3 : σ'.2 25 = σ.2 25) (h4 : σ'.2 26 = σ.2 26) (h5 : τ'.2 60 = τ.2 60) : RS σ' τ' := by
  unfold RS at h ⊢
  rw [h1, h2, h3, h4, h5]
  exact h
theorem RH_eq (h : RH σ τ)  (h1 : ∀ q, 46 ≤ q → q < 50 → σ'.1 q = σ.1 q) (h2 : ∀ q, 35 ≤ q → q < 39 → σ'.2 q = σ.2 q) (h3 : τ'.2 62 = τ.2 62) (h4 : τ'.2 63 = τ.2 63) (h5 : τ'.2 64 = τ.2 64) : RH σ' τ' := by
  intro k hk
  rw [h1 _ (by omega) (by omega), h2 _ (by omega) (by omega), h3, h4, h5]
  exact h k hk
theorem RC_eq (h : RC τ)  (h1 : τ'.2 58 = τ.2 58) (h2 : τ'.2 59 = τ.2 59) : RC τ' := by
  unfold RC at h ⊢
  rw [h1, h2]
  exact h
end REQ

/-! the class's next order -/
theorem x_exch (N : Nat) {σ : zS} {q i j : Nat} (hl : zlen q ≤ 1000) (hi : i < zlen q) (hj : j < zlen q) : fX6_exchange N σ q (nI i) (nI j) = some (zpa σ q (upd (upd (σ.2 q) i (σ.2 q j)) j (σ.2 q i))) := by
  have h1 := m_zin hi (by omega)
  have h2 := m_zin hj (by omega)
  unfold fX6_exchange
  rw [if_pos h1, zlet_eq, if_pos h2, zlet_eq, if_pos h1, zlet_eq, if_pos h2, zlet_eq, m_upd (show i < 2 ^ 31 by omega), m_upd (show j < 2 ^ 31 by omega), nI_clamp (by omega), nI_clamp (by omega), zpa_zpa, zpa_at]
def RW (σ : zS) (f : Nat → Nat) (n : Nat) : Prop := ∀ k, k < n → σ.2 30 k = nI (f k)
theorem RW_ex {σ : zS} {f : Nat → Nat} {n i j : Nat} (h : RW σ f n) (hi : i < n) (hj : j < n) : RW (zpa σ 30 (upd (upd (σ.2 30) i (σ.2 30 j)) j (σ.2 30 i))) (mex f i j) n := by
  intro k hk
  rw [zpa_at, zupd, zupd]
  unfold mex
  by_cases e1 : k = j
  · rw [if_pos e1, if_pos e1]; exact h i hi
  · rw [if_neg e1, if_neg e1]
    by_cases e2 : k = i
    · rw [if_pos e2, if_pos e2]; exact h j hj
    · rw [if_neg e2, if_neg e2]; exact h k hk
theorem x_st4 (N : Nat) {σ : zS} {f : Nat → Nat} {n : Nat} (hn : n ≤ 5) (h : RW σ f n) (hf : ∀ k, k < n → f k < 5) (K : Int32 → Int32 → zS → Option zS) : ∀ k m : Nat, k < n → k < m → fX1_stepOn_4 N K m (nI n) (nI k - nI 1) σ = match mfi f k with
    | none => K (nI n) (-1) σ
    | some i => K (nI n) (nI i) σ := by
  intro k
  induction k with
  | zero =>
    intro m hk hm
    obtain ⟨m, rfl⟩ : ∃ k, m = k + 1 := ⟨m - 1, by omega⟩
    rw [fX1_stepOn_4, if_pos (by decide)]
    rfl
  | succ k ih =>
    intro m hk hm
    obtain ⟨m, rfl⟩ : ∃ k, m = k + 1 := ⟨m - 1, by omega⟩
    have f1 := hf k (by omega)
    have f2 := hf (k + 1) (by omega)
    rw [m_s1, fX1_stepOn_4, if_neg (nI_pos (by omega)), nI_add, if_pos (m_zin (show k < zlen 30 from (show k < 5 by omega)) (by decide)), zlet_eq, if_pos (m_zin (show k + 1 < zlen 30 from (show k + 1 < 5 by omega)) (by decide)), zlet_eq, nI_clamp (by omega), nI_clamp (by omega), h k (by omega), h (k + 1) (by omega), mfi]
    by_cases c : f k ≤ f (k + 1)
    · rw [if_pos ((nI_leI (by omega) (by omega)).mpr c), if_pos c]
    · rw [if_neg (fun h' => c ((nI_leI (by omega) (by omega)).mp h')), if_neg c, m_dec]
      exact ih m (by omega) (by omega)
theorem x_st40 (N : Nat) {σ : zS} {f : Nat → Nat} {n i : Nat} (hn : n ≤ 5) (h : RW σ f n) (hf : ∀ k, k < n → f k < 5) (hi : i < n) (K : Int32 → Int32 → Int32 → zS → Option zS) : ∀ j m : Nat, j < n → j < m → fX1_stepOn_40 N K m (nI n) (nI i) (nI j) σ = K (nI n) (nI i) (nI (mfj f i j)) σ := by
  intro j
  induction j with
  | zero =>
    intro m hj hm
    obtain ⟨m, rfl⟩ : ∃ k, m = k + 1 := ⟨m - 1, by omega⟩
    rw [fX1_stepOn_40, if_pos ((nI_leI (by omega) (by omega)).mpr (Nat.zero_le _))]
    rfl
  | succ j ih =>
    intro m hj hm
    obtain ⟨m, rfl⟩ : ∃ k, m = k + 1 := ⟨m - 1, by omega⟩
    have f1 := hf i hi
    have f2 := hf (j + 1) (by omega)
    rw [fX1_stepOn_40, mfj]
    by_cases c : j + 1 ≤ i
    · rw [if_pos ((nI_leI (by omega) (by omega)).mpr c), if_pos c]
    · rw [if_neg (fun h' => c ((nI_leI (by omega) (by omega)).mp h')), if_neg c, if_pos (m_zin (show j + 1 < zlen 30 from (show j + 1 < 5 by omega)) (by decide)), zlet_eq, if_pos (m_zin (show i < zlen 30 from (show i < 5 by omega)) (by decide)), zlet_eq, nI_clamp (by omega), nI_clamp (by omega), h (j + 1) (by omega), h i hi]
      by_cases c2 : f i ≤ f (j + 1)
      · rw [if_pos ((nI_leI (by omega) (by omega)).mpr c2), if_pos c2]
      · rw [if_neg (fun h' => c2 ((nI_leI (by omega) (by omega)).mp h')), if_neg c2, m_neg1 (by omega)]
        exact ih m (by omega) (by omega)
theorem mfj_lt (f : Nat → Nat) (i : Nat) : ∀ j, mfj f i j ≤ j
  | 0 => Nat.le_refl _
  | j + 1 => by
    rw [mfj]
    split
    · exact Nat.le_refl _
    · split
      · exact Nat.le_refl _
      · have := mfj_lt f i j; omega
theorem mfi_lt (f : Nat → Nat) : ∀ k i, mfi f k = some i → i < k
  | 0, i, h => by cases h
  | k + 1, i, h => by
    rw [mfi] at h
    split at h
    · cases h; omega
    · have := mfi_lt f k i h; omega
theorem x_st85 (N : Nat) {n : Nat} (hn : n ≤ 5) : ∀ d : Nat, ∀ (f : Nat → Nat) (lo hi m : Nat) (σ : zS), hi - lo ≤ d → lo < n → hi < n → d < m → RW σ f n → ∃ σ' : zS, fX1_stepOn_85 N m (nI lo) (nI hi) σ = some σ' ∧ RW σ' (mrev d f lo hi) n ∧ σ'.1 = σ.1 ∧ ∀ q, q ≠ 30 → σ'.2 q = σ.2 q := by
  intro d
  induction d with
  | zero =>
    intro f lo hi m σ h1 h2 h3 hm h
    obtain ⟨m, rfl⟩ : ∃ k, m = k + 1 := ⟨m - 1, by omega⟩
    refine ⟨σ, ?_, h, rfl, fun _ _ => rfl⟩
    rw [fX1_stepOn_85, if_pos ((nI_leI (by omega) (by omega)).mpr (by omega))]
  | succ d ih =>
    intro f lo hi m σ h1 h2 h3 hm h
    obtain ⟨m, rfl⟩ : ∃ k, m = k + 1 := ⟨m - 1, by omega⟩
    rw [fX1_stepOn_85, mrev]
    by_cases c : hi ≤ lo
    · rw [if_pos ((nI_leI (by omega) (by omega)).mpr c), if_pos c]
      exact ⟨σ, rfl, h, rfl, fun _ _ => rfl⟩
    · obtain ⟨σ', e1, e2, e3, e4⟩ := ih (mex f lo hi) (lo + 1) (hi - 1) m _ (by omega) (by omega) (by omega) (by omega) (RW_ex h h2 h3)
      rw [if_neg (fun h' => c ((nI_leI (by omega) (by omega)).mp h')), if_neg c, x_exch N (by decide) (show lo < zlen 30 from (show lo < 5 by omega)) (show hi < zlen 30 from (show hi < 5 by omega)), Option.bind_some, nI_add, m_neg1 (by omega)]
      exact ⟨σ', e1, e2, e3, fun q hq => by rw [e4 q hq, zpa_2, if_neg hq]⟩
theorem x_stepOn (N : Nat) (hN : 4000 ≤ N) {σ : zS} {f : Nat → Nat} {n : Nat} (hn : n ≤ 5) (h : RW σ f n) (hf : ∀ k, k < n → f k < 5) : ∃ σ' : zS, fX1_stepOn N σ (nI n) = some σ' ∧ RW σ' (mstep n f) n ∧ σ'.1 = σ.1 ∧ ∀ q, q ≠ 30 → σ'.2 q = σ.2 q := by
  obtain ⟨M, rfl⟩ : ∃ M, N = M + 1 := ⟨N - 1, by omega⟩
  unfold fX1_stepOn
  rw [zlet_eq]
  by_cases h0 : n = 0
  · subst h0
    rw [fX1_stepOn_4, if_pos (by decide), fX1_stepOn_31, if_neg (by decide)]
    exact ⟨σ, rfl, fun k hk => by omega, rfl, fun _ _ => rfl⟩
  · have e : nI n - nI 2 = nI (n - 1) - nI 1 := by
      rcases (show n = 1 ∨ n = 2 ∨ n = 3 ∨ n = 4 ∨ n = 5 by omega) with rfl | rfl | rfl | rfl | rfl <;> decide
    rw [e, x_st4 (M + 1) hn h hf _ (n - 1) (M + 1) (by omega) (by omega)]
    unfold mstep
    cases hm : mfi f (n - 1) with
    | none =>
      dsimp only
      rw [fX1_stepOn_31, if_neg (by decide)]
      exact ⟨σ, rfl, h, rfl, fun _ _ => rfl⟩
    | some i =>
      dsimp only
      have hi := mfi_lt f _ _ hm
      have hj := mfj_lt f i (n - 1)
      obtain ⟨σ', e1, e2, e3, e4⟩ := x_st85 (M + 1) hn 5 (mex f i (mfj f i (n - 1))) (i + 1) (n - 1) (M + 1) _ (by omega) (by omega) (by omega) (by omega) (RW_ex h (show i < n by omega) (show mfj f i (n - 1) < n by omega))
      rw [fX1_stepOn_31, if_pos (show (0 : Int32) ≤ nI i from (nI_leI (a := 0) (by decide) (by omega)).mpr (Nat.zero_le _)), zlet_eq, m_sub (by omega), x_st40 (M + 1) hn h hf (by omega) _ (n - 1) (M + 1) (by omega) (by omega), fX1_stepOn_66, x_exch (M + 1) (by decide) (show i < zlen 30 from (show i < 5 by omega)) (show mfj f i (n - 1) < zlen 30 from (show _ < 5 by omega)), Option.bind_some, zlet_eq, zlet_eq, nI_add, m_sub (by omega)]
      exact ⟨σ', e1, e2, e3, fun q hq => by rw [e4 q hq, zpa_2, if_neg hq]⟩
/-! rows filled by order; factorials -/
theorem x_fill_loop (N : Nat) {q : Nat} (hq : zlen q = 5) : ∀ d i : Nat, i + d = 5 → ∀ (m : Nat) (σ : zS), d < m → ∃ σ' : zS, fX6_fillByOrder_2 N m q (nI i) σ = some σ' ∧ σ'.1 = σ.1 ∧ (∀ r, r ≠ q → σ'.2 r = σ.2 r) ∧ ∀ e, e < 5 → σ'.2 q e = if i ≤ e then nI e else σ.2 q e := by
  intro d
  induction d with
  | zero =>
    intro i hi m σ hm
    obtain ⟨m, rfl⟩ : ∃ k, m = k + 1 := ⟨m - 1, by omega⟩
    refine ⟨σ, ?_, rfl, fun _ _ => rfl, fun e he => by rw [if_neg (by omega)]⟩
    rw [fX6_fillByOrder_2, hq, if_pos (show Int32.ofNat 5 ≤ nI i from (nI_leI (a := 5) (by decide) (by omega)).mpr (by omega))]
  | succ d ih =>
    intro i hi m σ hm
    obtain ⟨m, rfl⟩ : ∃ k, m = k + 1 := ⟨m - 1, by omega⟩
    obtain ⟨σ', h1, h2, h3, h4⟩ := ih (i + 1) (by omega) m (zpa σ q (upd (σ.2 q) i (nI i))) (by omega)
    refine ⟨σ', ?_, h2, fun r hr => by rw [h3 r hr, zpa_2, if_neg hr], fun e he => ?_⟩
    · rw [fX6_fillByOrder_2, hq, if_neg (fun h => by have := (nI_leI (a := 5) (by decide) (by omega)).mp h; omega), if_pos (m_zin (by omega) (by decide)), zlet_eq, m_upd (by omega), nI_add]
      exact h1
    · rw [h4 e he, zpa_at, zupd]
      by_cases c : i + 1 ≤ e
      · rw [if_pos c, if_pos (by omega)]
      · rw [if_neg c]
        by_cases c2 : e = i
        · rw [if_pos c2, if_pos (by omega), c2]
        · rw [if_neg c2, if_neg (by omega)]
theorem x_fill (N : Nat) (hN : 4000 ≤ N) {q : Nat} (hq : zlen q = 5) (σ : zS) : ∃ σ' : zS, fX6_fillByOrder N σ q = some σ' ∧ σ'.1 = σ.1 ∧ (∀ r, r ≠ q → σ'.2 r = σ.2 r) ∧ ∀ e, e < 5 → σ'.2 q e = nI e := by
  obtain ⟨σ', h1, h2, h3, h4⟩ := x_fill_loop N hq 5 0 (by omega) N σ (by omega)
  exact ⟨σ', h1, h2, h3, fun e he => by rw [h4 e he, if_pos (Nat.zero_le _)]⟩
theorem x_fact (N : Nat) (hN : 4000 ≤ N) {n : Nat} (hn : n ≤ 5) : fX6_factorial N (nI n) = some (nI (mfact n)) := by
  obtain ⟨M, rfl⟩ : ∃ M, N = M + 6 := ⟨N - 6, by omega⟩
  unfold fX6_factorial
  rcases (show n = 0 ∨ n = 1 ∨ n = 2 ∨ n = 3 ∨ n = 4 ∨ n = 5 by omega) with rfl | rfl | rfl | rfl | rfl | rfl <;> (repeat (first | (rw [fX6_factorial_4, if_pos (by decide)]; done) | rw [fX6_factorial_4, if_neg (by decide), m_mul, nI_add])) <;> rfl
theorem y_fact (N : Nat) (hN : 4000 ≤ N) {n : Nat} (hn : n ≤ 5) : fX7_ordersOf N (nI n) = some (nI (mfact n)) := by
  obtain ⟨M, rfl⟩ : ∃ M, N = M + 6 := ⟨N - 6, by omega⟩
  unfold fX7_ordersOf
  rcases (show n = 0 ∨ n = 1 ∨ n = 2 ∨ n = 3 ∨ n = 4 ∨ n = 5 by omega) with rfl | rfl | rfl | rfl | rfl | rfl <;> (repeat (first | (rw [fX7_ordersOf_4, if_pos (by decide)]; done) | rw [fX7_ordersOf_4, if_neg (by decide), m_mul, nI_add])) <;> rfl

theorem m_or (a b : Nat) : nI a ||| nI b = nI (a ||| b) := Int32.toBitVec_inj.1 (by
  show BitVec.ofNat 32 a ||| BitVec.ofNat 32 b = BitVec.ofNat 32 (a ||| b)
  exact BitVec.ofNat_or.symm)
theorem m_and (a b : Nat) : nI a &&& nI b = nI (a &&& b) := Int32.toBitVec_inj.1 (by
  show BitVec.ofNat 32 a &&& BitVec.ofNat 32 b = BitVec.ofNat 32 (a &&& b)
  exact BitVec.ofNat_and.symm)
theorem m_31 {k : Nat} (h : k < 32) : nI k &&& 31 = nI k := by
  rw [pk_andN (by omega) 5 rfl, Nat.mod_eq_of_lt (by omega)]
theorem m_smod : ∀ k, k < 32 → ((nI k).toBitVec.smod 32).toNat = k := by decide +kernel
theorem m_bit {k : Nat} (h : k < 31) : nI 1 <<< (nI k &&& 31) = nI (2 ^ k) := by
  rw [m_31 (by omega), pk_shlN (nI k) k (m_smod k (by omega)) (by rw [Nat.one_mul]; exact Nat.pow_lt_pow_right (by decide) (by omega)), Nat.one_mul]
theorem m_shr {m k : Nat} (hm : m < 2 ^ 31) (h : k < 31) : nI m >>> (nI k &&& 31) = nI (m / 2 ^ k) := by
  rw [m_31 (by omega), pk_shrN hm (nI k) k (m_smod k (by omega))]
theorem m_tst {m k : Nat} (hm : m < 2 ^ 31) (h : k < 31) : (nI m >>> (nI k &&& 31)) &&& nI 1 = nI (m / 2 ^ k % 2) := by
  have hd : m / 2 ^ k ≤ m := Nat.div_le_self _ _
  rw [m_shr hm h, pk_andN (by omega) 1 rfl]
/-- masks of beasts and robbers: below 32 -/
def mbits (T : Nat → Nat) : Nat → Nat
  | 0 => 0
  | i + 1 => mbits T i ||| 2 ^ T i
theorem mbits_lt (T : Nat → Nat) : ∀ h : Nat, (∀ i, i < h → T i < 5) → mbits T h < 32
  | 0, _ => Nat.zero_lt_succ 31
  | h + 1, ht => by
    have h1 := mbits_lt T h (fun i hi => ht i (by omega))
    have h2 : 2 ^ T h < 2 ^ 5 := Nat.pow_lt_pow_right (by decide) (ht h (by omega))
    exact Nat.or_lt_two_pow (n := 5) h1 h2
theorem mbits_tst (T : Nat → Nat) (k : Nat) : ∀ h : Nat, (mbits T h).testBit k = true ↔ ∃ i, i < h ∧ T i = k
  | 0 => by simp [mbits]
  | h + 1 => by
    rw [mbits, Nat.testBit_or, Bool.or_eq_true, mbits_tst T k h, Nat.testBit_two_pow]
    constructor
    · rintro (⟨i, h1, h2⟩ | h1)
      · exact ⟨i, by omega, h2⟩
      · exact ⟨h, by omega, by simpa using h1⟩
    · rintro ⟨i, h1, h2⟩
      by_cases e : i = h
      · subst e; right; simpa using h2
      · left; exact ⟨i, by omega, h2⟩
theorem m_tst0 {m k : Nat} (hm : m < 2 ^ 31) (h : k < 31) : ((nI m >>> (nI k &&& 31)) &&& nI 1 = 0) ↔ m.testBit k = false := by
  rw [m_tst hm h, ← m_zero, nI_eq (by omega) (by decide), Nat.testBit_eq_decide_div_mod_eq]
  simp
theorem m_tst1 {m k : Nat} (hm : m < 2 ^ 31) (h : k < 31) : ((nI m >>> (nI k &&& 31)) &&& nI 1 = nI 1) ↔ m.testBit k = true := by
  rw [m_tst hm h, nI_eq (by omega) (by decide), Nat.testBit_eq_decide_div_mod_eq]
  simp

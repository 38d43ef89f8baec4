/-! what stands on the tape, byte by byte -/
def run (B : Nat → Nat) (lo hi : Nat) : Nat → Nat → Nat
  | 0, p => p
  | d + 1, p => if lo ≤ B p ∧ B p ≤ hi then run B lo hi d (p + 1) else p
theorem run_le (B : Nat → Nat) (lo hi : Nat) : ∀ d p : Nat, p ≤ run B lo hi d p ∧ run B lo hi d p ≤ p + d
  | 0, p => ⟨Nat.le_refl _, Nat.le_refl _⟩
  | d + 1, p => by
    rw [run]
    split
    · have := run_le B lo hi d (p + 1); omega
    · omega
theorem run_in (B : Nat → Nat) (lo hi : Nat) : ∀ d p j : Nat, p ≤ j → j < run B lo hi d p → lo ≤ B j ∧ B j ≤ hi
  | 0, p, j, h1, h2 => absurd h2 (by rw [run]; omega)
  | d + 1, p, j, h1, h2 => by
    rw [run] at h2
    split at h2
    · next h =>
      by_cases e : j = p
      · rw [e]; exact h
      · exact run_in B lo hi d (p + 1) j (by omega) h2
    · omega
theorem run_out (B : Nat → Nat) (lo hi : Nat) : ∀ d p : Nat, run B lo hi d p < p + d → ¬ (lo ≤ B (run B lo hi d p) ∧ B (run B lo hi d p) ≤ hi)
  | 0, p, h => absurd h (by rw [run]; omega)
  | d + 1, p, h => by
    rw [run] at h ⊢
    split
    · next h' => rw [if_pos h'] at h; exact run_out B lo hi d (p + 1) (by omega)
    · next h' => exact h'
theorem x_wn (N : Nat) {b lo hi : Nat} (hb : b < 2 ^ 31) (hl : lo < 2 ^ 31) (hh : hi < 2 ^ 31) : fX6_within N (nI b) (nI lo) (nI hi) = some (if lo ≤ b ∧ b ≤ hi then 1 else 0) := by
  rw [m_within]
  simp only [nI_leI hl hb, nI_leI hb hh]
theorem y_wn (N : Nat) {b lo hi : Nat} (hb : b < 2 ^ 31) (hl : lo < 2 ^ 31) (hh : hi < 2 ^ 31) : fX7_in N (nI b).toInt64 (lN lo) (lN hi) = some (if lo ≤ b ∧ b ≤ hi then 1 else 0) := by
  rw [nI_l hb, m_inq]
  simp only [lN_le hl hb, lN_le hb hh]
def TX (σ : zS) (B : Nat → Nat) (n : Nat) : Prop := σ.1 50 2 = nI n ∧ ∀ i, i < n → σ.2 24 i = nI (B i)
def TY (τ : zS) (B : Nat → Nat) (n : Nat) : Prop := τ.1 66 11 = nI n ∧ ∀ i, i < n → τ.2 57 i = nI (B i)
def TB (B : Nat → Nat) (n : Nat) : Prop := n ≤ 160 ∧ ∀ i, i < n → B i ≤ 127
def FX (σ σ' : zS) : Prop := σ'.2 = σ.2 ∧ (∀ q, q ≠ 50 → σ'.1 q = σ.1 q) ∧ ∀ k, k = 2 ∨ k = 7 ∨ k = 8 → σ'.1 50 k = σ.1 50 k
theorem FX_rfl (σ : zS) : FX σ σ := ⟨rfl, fun _ _ => rfl, fun _ _ => rfl⟩
theorem FX_tr {a b c : zS} (h1 : FX a b) (h2 : FX b c) : FX a c := ⟨h2.1.trans h1.1, fun q hq => (h2.2.1 q hq).trans (h1.2.1 q hq), fun q hq => (h2.2.2 q hq).trans (h1.2.2 q hq)⟩
theorem FX_f (σ : zS) {k : Nat} (h : k ≠ 2 ∧ k ≠ 7 ∧ k ≠ 8) (v : Int32) : FX σ (zpf σ 50 k v) := ⟨rfl, fun q hq => by rw [zpf_1, if_neg hq], fun j hj => by rw [zpf_1, if_pos rfl, zup, if_neg (by omega)]⟩
theorem TX_eq {σ σ' : zS} {B : Nat → Nat} {n : Nat} (h : FX σ σ') (ht : TX σ B n) : TX σ' B n := ⟨(h.2.2 2 (by omega)).trans ht.1, by rw [h.1]; exact ht.2⟩
def FW (τ τ' : zS) : Prop := τ'.2 = τ.2 ∧ (∀ q, q ≠ 66 → τ'.1 q = τ.1 q) ∧ ∀ k, k < 13 ∨ 19 ≤ k → τ'.1 66 k = τ.1 66 k
theorem FW_rfl (τ : zS) : FW τ τ := ⟨rfl, fun _ _ => rfl, fun _ _ => rfl⟩
theorem FW_tr {a b c : zS} (h1 : FW a b) (h2 : FW b c) : FW a c := ⟨h2.1.trans h1.1, fun q hq => (h2.2.1 q hq).trans (h1.2.1 q hq), fun q hq => (h2.2.2 q hq).trans (h1.2.2 q hq)⟩
theorem FW_f (τ : zS) {k : Nat} (h : 13 ≤ k ∧ k < 19) (v : Int32) : FW τ (zpf τ 66 k v) := ⟨rfl, fun q hq => by rw [zpf_1, if_neg hq], fun j hj => by rw [zpf_1, if_pos rfl, zup, if_neg (by omega)]⟩
theorem TY_eq {τ τ' : zS} {B : Nat → Nat} {n : Nat} (h : FW τ τ') (ht : TY τ B n) : TY τ' B n := ⟨(h.2.2 11 (by omega)).trans ht.1, by rw [h.1]; exact ht.2⟩
theorem f50 (σ : zS) (k j : Nat) (v : Int32) : (zpf σ 50 k v).1 50 j = if j = k then v else σ.1 50 j := by rw [zpf_1, if_pos rfl, zup]
theorem f66 (τ : zS) (k j : Nat) (v : Int32) : (zpf τ 66 k v).1 66 j = if j = k then v else τ.1 66 j := by rw [zpf_1, if_pos rfl, zup]
theorem zlen24 : zlen 24 = 160 := rfl
theorem zlen57 : zlen 57 = 160 := rfl
section TOK
variable {B : Nat → Nat} {n : Nat}
theorem x_byte {σ : zS} (hB : TB B n) (ht : TX σ B n) {p : Nat} (hp : p < n) : zin (nI p) (zlen 24) ∧ σ.2 24 (nI p).toNatClampNeg = nI (B p) := by
  have := hB.1
  exact ⟨m_zin (by rw [zlen24]; omega) (by decide), by rw [nI_clamp (by omega)]; exact ht.2 p hp⟩
theorem y_byte (N : Nat) {τ : zS} (hB : TB B n) (ht : TY τ B n) {p : Nat} (hp : p < n) : fX7_byteAt N τ (nI p) = some (nI (B p)) := by
  have := hB.1
  unfold fX7_byteAt
  rw [ht.1, if_neg (fun h => by have := (nI_leI (by omega) (by omega)).mp h; omega), if_pos (m_zin (by rw [zlen57]; omega) (by decide)), zlet_eq, nI_clamp (by omega), ht.2 p hp]
theorem y_end (N : Nat) {τ : zS} (hB : TB B n) (ht : TY τ B n) : fX7_byteAt N τ (nI n) = some (-4) := by
  have := hB.1
  unfold fX7_byteAt
  rw [ht.1, if_pos ((nI_leI (by omega) (by omega)).mpr (Nat.le_refl _))]
theorem x_pass (N : Nat) (hB : TB B n) {lo hi : Nat} (hl : lo < 2 ^ 31) (hh : hi < 2 ^ 31) : ∀ d p : Nat, p + d = n → ∀ (f : Nat) (σ : zS), d < f → TX σ B n → σ.1 50 3 = nI p → ∃ σ' : zS, fX4_passRun_0 N f (nI lo) (nI hi) σ = some σ' ∧ FX σ σ' ∧ (∀ k, k ≠ 3 → σ'.1 50 k = σ.1 50 k) ∧ σ'.1 50 3 = nI (run B lo hi d p) := by
  have hn := hB.1
  intro d
  induction d with
  | zero =>
    intro p hp f σ hf ht h3
    obtain ⟨f, rfl⟩ : ∃ k, f = k + 1 := ⟨f - 1, by omega⟩
    rw [fX4_passRun_0, h3, ht.1, if_pos ((nI_leI (by omega) (by omega)).mpr (by omega))]
    exact ⟨σ, rfl, FX_rfl σ, fun _ _ => rfl, h3⟩
  | succ d ih =>
    intro p hp f σ hf ht h3
    obtain ⟨f, rfl⟩ : ∃ k, f = k + 1 := ⟨f - 1, by omega⟩
    obtain ⟨b1, b2⟩ := x_byte hB ht (p := p) (by omega)
    have hb := hB.2 p (by omega)
    rw [fX4_passRun_0, h3, ht.1, if_neg (fun h => by have := (nI_leI (by omega) (by omega)).mp h; omega), if_pos b1, zlet_eq, b2, x_wn N (by omega) hl hh, Option.bind_some, run]
    by_cases hc : lo ≤ B p ∧ B p ≤ hi
    · rw [if_pos hc, if_neg z10, zlet_eq, nI_add, if_pos hc]
      have hF := FX_f σ (k := 3) (by decide) (nI (p + 1))
      obtain ⟨σ', k1, k2, k3, k4⟩ := ih (p + 1) (by omega) f (zpf σ 50 3 (nI (p + 1))) (by omega) (TX_eq hF ht) (by rw [f50, if_pos rfl])
      exact ⟨σ', k1, FX_tr hF k2, fun k hk => by rw [k3 k hk, f50, if_neg hk], k4⟩
    · rw [if_neg hc, if_pos rfl, if_neg hc]
      exact ⟨σ, rfl, FX_rfl σ, fun _ _ => rfl, h3⟩
theorem x_skip (N : Nat) (hB : TB B n) (K : zS → Option (Int32 × zS)) : ∀ d p : Nat, p + d = n → ∀ (f : Nat) (σ : zS), d < f → TX σ B n → σ.1 50 3 = nI p → ∃ σ' : zS, fX4_takeToken_0 N K f σ = K σ' ∧ FX σ σ' ∧ (∀ k, k ≠ 3 → σ'.1 50 k = σ.1 50 k) ∧ σ'.1 50 3 = nI (run B 32 32 d p) := by
  have hn := hB.1
  intro d
  induction d with
  | zero =>
    intro p hp f σ hf ht h3
    obtain ⟨f, rfl⟩ : ∃ k, f = k + 1 := ⟨f - 1, by omega⟩
    rw [fX4_takeToken_0, h3, ht.1, if_pos ((nI_leI (by omega) (by omega)).mpr (by omega))]
    exact ⟨σ, rfl, FX_rfl σ, fun _ _ => rfl, h3⟩
  | succ d ih =>
    intro p hp f σ hf ht h3
    obtain ⟨f, rfl⟩ : ∃ k, f = k + 1 := ⟨f - 1, by omega⟩
    obtain ⟨b1, b2⟩ := x_byte hB ht (p := p) (by omega)
    have hb := hB.2 p (by omega)
    rw [fX4_takeToken_0, h3, ht.1, if_neg (fun h => by have := (nI_leI (by omega) (by omega)).mp h; omega), if_pos b1, zlet_eq, b2, run]
    by_cases hc : B p = 32
    · rw [if_pos (show nI (B p) = nI 32 by rw [hc]), zlet_eq, nI_add, if_pos (by omega)]
      have hF := FX_f σ (k := 3) (by decide) (nI (p + 1))
      obtain ⟨σ', k1, k2, k3, k4⟩ := ih (p + 1) (by omega) f (zpf σ 50 3 (nI (p + 1))) (by omega) (TX_eq hF ht) (by rw [f50, if_pos rfl])
      exact ⟨σ', k1, FX_tr hF k2, fun k hk => by rw [k3 k hk, f50, if_neg hk], k4⟩
    · rw [if_neg (fun h => hc ((nI_eq (by omega) (by decide)).mp h)), if_neg (by omega)]
      exact ⟨σ, rfl, FX_rfl σ, fun _ _ => rfl, h3⟩
def spl (B : Nat → Nat) : Nat → Nat → Nat → Nat
  | 0, _, a => a
  | d + 1, i, a => spl B d (i + 1) (10 * a + B i - 48)
theorem x_spell (N : Nat) (hB : TB B n) {e : Nat} (he : e ≤ n) : ∀ d i : Nat, i + d = e → ∀ (f a : Nat) (σ : zS), d < f → TX σ B n → σ.1 50 3 = nI e → σ.1 50 6 = nI a → (∀ j, i ≤ j → j < e → 48 ≤ B j) → ∃ σ' : zS, fX4_spellNumber_10 N f (nI i) σ = some (1, σ') ∧ FX σ σ' ∧ (∀ k, k ≠ 6 → σ'.1 50 k = σ.1 50 k) ∧ σ'.1 50 6 = nI (spl B d i a) := by
  have hn := hB.1
  intro d
  induction d with
  | zero =>
    intro i hi f a σ hf ht h3 h6 hd
    obtain ⟨f, rfl⟩ : ∃ k, f = k + 1 := ⟨f - 1, by omega⟩
    rw [fX4_spellNumber_10, h3, if_pos ((nI_leI (by omega) (by omega)).mpr (by omega))]
    exact ⟨σ, rfl, FX_rfl σ, fun _ _ => rfl, h6⟩
  | succ d ih =>
    intro i hi f a σ hf ht h3 h6 hd
    obtain ⟨f, rfl⟩ : ∃ k, f = k + 1 := ⟨f - 1, by omega⟩
    obtain ⟨b1, b2⟩ := x_byte hB ht (p := i) (by omega)
    have hb := hd i (Nat.le_refl _) (by omega)
    have e1 : nI a * nI 10 + nI (B i) - nI 48 = nI (10 * a + B i - 48) := by rw [m_mul, nI_add, m_sub (by omega), Nat.mul_comm]
    rw [fX4_spellNumber_10, h3, if_neg (fun h => by have := (nI_leI (by omega) (by omega)).mp h; omega), if_pos b1, zlet_eq, b2, zlet_eq, h6, e1, nI_add]
    have hF := FX_f σ (k := 6) (by decide) (nI (10 * a + B i - 48))
    obtain ⟨σ', k1, k2, k3, k4⟩ := ih (i + 1) (by omega) f (10 * a + B i - 48) (zpf σ 50 6 (nI (10 * a + B i - 48))) (by omega) (TX_eq hF ht) (by rw [f50, if_neg (by decide)]; exact h3) (by rw [f50, if_pos rfl]) (fun j h1 h2 => hd j (by omega) h2)
    exact ⟨σ', k1, FX_tr hF k2, fun k hk => by rw [k3 k hk, f50, if_neg hk], k4⟩
/-- the token at a place: its kind (0 name, 1 number, 2 stop, 3 end, 4 none), start, end -/
def tS (B : Nat → Nat) (n p : Nat) : Nat := run B 32 32 (n - p) p
def tC (B : Nat → Nat) (n p : Nat) : Nat × Nat :=
  if tS B n p = n then (3, n)
  else if 97 ≤ B (tS B n p) ∧ B (tS B n p) ≤ 122 then (0, run B 97 122 (n - tS B n p) (tS B n p))
  else if 48 ≤ B (tS B n p) ∧ B (tS B n p) ≤ 57 then (if run B 48 57 (n - tS B n p) (tS B n p) - tS B n p ≤ 2 then 1 else 4, run B 48 57 (n - tS B n p) (tS B n p))
  else if B (tS B n p) = 59 then (2, tS B n p + 1) else (4, tS B n p + 1)
def tV (B : Nat → Nat) (n p : Nat) : Nat := spl B ((tC B n p).2 - tS B n p) (tS B n p) 0
theorem tS_le {p : Nat} (hp : p ≤ n) : p ≤ tS B n p ∧ tS B n p ≤ n := by
  have := run_le B 32 32 (n - p) p
  unfold tS
  omega
theorem run_pos {lo hi : Nat} {p : Nat} (hp : p < n) (h : lo ≤ B p ∧ B p ≤ hi) : p < run B lo hi (n - p) p ∧ run B lo hi (n - p) p ≤ n := by
  have h2 := run_le B lo hi (n - p) p
  refine ⟨?_, by omega⟩
  rw [show n - p = (n - p - 1) + 1 by omega, run, if_pos h]
  have := run_le B lo hi (n - p - 1) (p + 1)
  omega
theorem tC_le {p : Nat} (hp : p ≤ n) : (tC B n p).1 ≤ 4 ∧ (tC B n p).2 ≤ n ∧ tS B n p ≤ (tC B n p).2 ∧ ((tC B n p).1 ≠ 3 → tS B n p < (tC B n p).2) ∧ ((tC B n p).1 = 3 → tS B n p = n) := by
  have h := tS_le (B := B) hp
  unfold tC
  split
  · next h1 => exact ⟨show 3 ≤ 4 by decide, Nat.le_refl _, h.2, fun h => absurd rfl h, fun _ => h1⟩
  · next h1 =>
    split
    · next h2 => have := run_pos (n := n) (by omega) h2; exact ⟨show 0 ≤ 4 by decide, this.2, Nat.le_of_lt this.1, fun _ => this.1, fun h => absurd (show 0 = 3 from h) (by decide)⟩
    · split
      · next h2 =>
        have := run_pos (n := n) (by omega) h2
        refine ⟨?_, this.2, Nat.le_of_lt this.1, fun _ => this.1, ?_⟩
        · show (if _ then 1 else 4) ≤ 4
          split <;> decide
        · show (if _ then 1 else 4) = 3 → _
          split
          · exact fun h => absurd h (by decide)
          · exact fun h => absurd h (by decide)
      · split
        · exact ⟨show 2 ≤ 4 by decide, (show tS B n p + 1 ≤ n by omega), (show tS B n p ≤ tS B n p + 1 by omega), fun _ => (show tS B n p < tS B n p + 1 by omega), fun h => absurd (show 2 = 3 from h) (by decide)⟩
        · exact ⟨show 4 ≤ 4 by decide, (show tS B n p + 1 ≤ n by omega), (show tS B n p ≤ tS B n p + 1 by omega), fun _ => (show tS B n p < tS B n p + 1 by omega), fun h => absurd (show 4 = 3 from h) (by decide)⟩
theorem x_tok (N : Nat) (hN : 4000 ≤ N) (hB : TB B n) {σ : zS} (ht : TX σ B n) {p : Nat} (hp : p ≤ n) (h3 : σ.1 50 3 = nI p) : ∃ σ' : zS, fX4_takeToken N σ = some (if (tC B n p).1 = 4 then 0 else 1, σ') ∧ FX σ σ' ∧ σ'.1 50 5 = nI (tS B n p) ∧ ((tC B n p).1 = 4 → σ'.1 50 9 = nI 1 ∧ σ'.1 50 10 = nI (tS B n p)) ∧ ((tC B n p).1 ≠ 4 → σ'.1 50 9 = σ.1 50 9 ∧ σ'.1 50 3 = nI (tC B n p).2 ∧ σ'.1 50 4 = nI (tC B n p).1 ∧ ((tC B n p).1 = 1 → σ'.1 50 6 = nI (tV B n p))) := by
  have hn := hB.1
  obtain ⟨s1, s2⟩ := tS_le (B := B) hp
  obtain ⟨σ1, k1, k2, k3, k4⟩ := x_skip N hB (fX4_takeToken_38 N) (n - p) p (by omega) N σ (by omega) ht h3
  have k4 : σ1.1 50 3 = nI (tS B n p) := k4
  have ht1 := TX_eq k2 ht
  have e0 : fX4_takeToken N σ = fX4_takeToken_38 N σ1 := k1
  rw [e0, fX4_takeToken_38, zlet_eq, k4]
  generalize hσ2 : zpf σ1 50 5 (nI (tS B n p)) = σ2
  have F2 : FX σ σ2 := by rw [← hσ2]; exact FX_tr k2 (FX_f _ (by decide) _)
  have ht2 := TX_eq F2 ht
  have a3 : σ2.1 50 3 = nI (tS B n p) := by rw [← hσ2, f50, if_neg (by decide)]; exact k4
  have a5 : σ2.1 50 5 = nI (tS B n p) := by rw [← hσ2, f50, if_pos rfl]
  have a9 : σ2.1 50 9 = σ.1 50 9 := by rw [← hσ2, f50, if_neg (by decide)]; exact k3 9 (by decide)
  rw [a3, ht2.1]
  by_cases he : tS B n p = n
  · have hC : tC B n p = (3, n) := by unfold tC; rw [if_pos he]
    have hC1 : (tC B n p).1 = 3 := by rw [hC]
    have hC2 : (tC B n p).2 = n := by rw [hC]
    rw [if_neg (fun h => by have := (nI_ltI (by omega) (by omega)).mp h; omega), zlet_eq, hC1, hC2, if_neg (by decide)]
    refine ⟨_, rfl, FX_tr F2 (FX_f _ (by decide) _), ?_, fun h => absurd h (by decide), fun _ => ⟨?_, ?_, ?_, fun h => absurd h (by decide)⟩⟩
    · rw [f50, if_neg (by decide)]; exact a5
    · rw [f50, if_neg (by decide)]; exact a9
    · rw [f50, if_neg (by decide), a3, he]
    · rw [f50, if_pos rfl]
  · have hlt : tS B n p < n := by omega
    obtain ⟨b1, b2⟩ := x_byte hB ht2 hlt
    have hb := hB.2 _ hlt
    rw [if_pos ((nI_ltI (by omega) (by omega)).mpr hlt), if_pos b1, zlet_eq, b2]
    by_cases h59 : B (tS B n p) = 59
    · have hC : tC B n p = (2, tS B n p + 1) := by unfold tC; rw [if_neg he, if_neg (by omega), if_neg (by omega), if_pos h59]
      have hC1 : (tC B n p).1 = 2 := by rw [hC]
      have hC2 : (tC B n p).2 = tS B n p + 1 := by rw [hC]
      rw [if_pos (show nI (B (tS B n p)) = nI 59 by rw [h59]), zlet_eq, zlet_eq, hC1, hC2, if_neg (by decide)]
      refine ⟨_, rfl, FX_tr F2 (FX_tr (FX_f _ (by decide) _) (FX_f _ (by decide) _)), ?_, fun h => absurd h (by decide), fun _ => ⟨?_, ?_, ?_, fun h => absurd h (by decide)⟩⟩
      · rw [f50, if_neg (by decide), f50, if_neg (by decide)]; exact a5
      · rw [f50, if_neg (by decide), f50, if_neg (by decide)]; exact a9
      · rw [f50, if_pos rfl, f50, if_neg (by decide), a3, nI_add]
      · rw [f50, if_neg (by decide), f50, if_pos rfl]
    · rw [if_neg (fun h => h59 ((nI_eq (by omega) (by decide)).mp h)), x_wn N (by omega) (by decide) (by decide), Option.bind_some]
      by_cases hL : 97 ≤ B (tS B n p) ∧ B (tS B n p) ≤ 122
      · have hC : tC B n p = (0, run B 97 122 (n - tS B n p) (tS B n p)) := by unfold tC; rw [if_neg he, if_pos hL]
        have hC1 : (tC B n p).1 = 0 := by rw [hC]
        have hC2 : (tC B n p).2 = run B 97 122 (n - tS B n p) (tS B n p) := by rw [hC]
        rw [if_pos hL, if_neg z10, zlet_eq]
        have F3 := FX_tr F2 (FX_f σ2 (k := 4) (by decide) (nI 0))
        obtain ⟨σ3, l1, l2, l3, l4⟩ := x_pass N hB (lo := 97) (hi := 122) (by decide) (by decide) (n - tS B n p) (tS B n p) (by omega) N (zpf σ2 50 4 (nI 0)) (by omega) (TX_eq F3 ht) (by rw [f50, if_neg (by decide)]; exact a3)
        have l1 : fX4_passRun N (zpf σ2 50 4 (nI 0)) (nI 97) (nI 122) = some σ3 := l1
        rw [l1, Option.bind_some, hC1, hC2, if_neg (by decide)]
        refine ⟨_, rfl, FX_tr F3 l2, ?_, fun h => absurd h (by decide), fun _ => ⟨?_, l4, ?_, fun h => absurd h (by decide)⟩⟩
        · rw [l3 5 (by decide), f50, if_neg (by decide)]; exact a5
        · rw [l3 9 (by decide), f50, if_neg (by decide)]; exact a9
        · rw [l3 4 (by decide), f50, if_pos rfl]
      · rw [if_neg hL, if_pos rfl, x_wn N (by omega) (by decide) (by decide), Option.bind_some]
        by_cases hD : 48 ≤ B (tS B n p) ∧ B (tS B n p) ≤ 57
        · rw [if_pos hD, if_neg z10, zlet_eq]
          have hr := run_pos (n := n) hlt hD
          have F3 := FX_tr F2 (FX_f σ2 (k := 4) (by decide) (nI 1))
          obtain ⟨σ3, l1, l2, l3, l4⟩ := x_pass N hB (lo := 48) (hi := 57) (by decide) (by decide) (n - tS B n p) (tS B n p) (by omega) N (zpf σ2 50 4 (nI 1)) (by omega) (TX_eq F3 ht) (by rw [f50, if_neg (by decide)]; exact a3)
          have l1 : fX4_passRun N (zpf σ2 50 4 (nI 1)) (nI 48) (nI 57) = some σ3 := l1
          have c5 : σ3.1 50 5 = nI (tS B n p) := by rw [l3 5 (by decide), f50, if_neg (by decide)]; exact a5
          have F4 := FX_tr F3 l2
          rw [l1, Option.bind_some, l4, c5, m_sub (by omega)]
          by_cases h2 : run B 48 57 (n - tS B n p) (tS B n p) - tS B n p ≤ 2
          · have hC : tC B n p = (1, run B 48 57 (n - tS B n p) (tS B n p)) := by unfold tC; rw [if_neg he, if_neg hL, if_pos hD, if_pos h2]
            have hC1 : (tC B n p).1 = 1 := by rw [hC]
            have hC2 : (tC B n p).2 = run B 48 57 (n - tS B n p) (tS B n p) := by rw [hC]
            rw [if_neg (fun h => by have := (nI_ltI (by decide) (by omega)).mp h; omega), fX4_spellNumber, zlet_eq, zlet_eq]
            have F5 := FX_tr F4 (FX_f σ3 (k := 6) (by decide) (nI 0))
            have c5' : (zpf σ3 50 6 (nI 0)).1 50 5 = nI (tS B n p) := by rw [f50, if_neg (by decide)]; exact c5
            obtain ⟨σ4, m1, m2, m3, m4⟩ := x_spell N hB (e := run B 48 57 (n - tS B n p) (tS B n p)) hr.2 (run B 48 57 (n - tS B n p) (tS B n p) - tS B n p) (tS B n p) (by omega) N 0 (zpf σ3 50 6 (nI 0)) (by omega) (TX_eq F5 ht) (by rw [f50, if_neg (by decide)]; exact l4) (by rw [f50, if_pos rfl]) (fun j h1 h2 => (run_in B 48 57 _ _ j h1 h2).1)
            rw [c5', m1, Option.bind_some]
            dsimp only
            rw [if_pos (Or.inr rfl), hC1, hC2, if_neg (by decide)]
            refine ⟨_, rfl, FX_tr F5 m2, ?_, fun h => absurd h (by decide), fun _ => ⟨?_, ?_, ?_, fun _ => ?_⟩⟩
            · rw [m3 5 (by decide)]; exact c5'
            · rw [m3 9 (by decide), f50, if_neg (by decide), l3 9 (by decide), f50, if_neg (by decide)]; exact a9
            · rw [m3 3 (by decide), f50, if_neg (by decide)]; exact l4
            · rw [m3 4 (by decide), f50, if_neg (by decide), l3 4 (by decide), f50, if_pos rfl]
            · rw [m4]; unfold tV; rw [hC]
          · have hC : tC B n p = (4, run B 48 57 (n - tS B n p) (tS B n p)) := by unfold tC; rw [if_neg he, if_neg hL, if_pos hD, if_neg h2]
            have hC1 : (tC B n p).1 = 4 := by rw [hC]
            have hC2 : (tC B n p).2 = run B 48 57 (n - tS B n p) (tS B n p) := by rw [hC]
            rw [if_pos ((nI_ltI (by decide) (by omega)).mpr (by omega)), fX4_refuse, zlet_eq, zlet_eq, Option.bind_some]
            dsimp only
            rw [if_pos (Or.inl rfl), hC1, hC2, if_pos rfl]
            refine ⟨_, rfl, FX_tr F4 (FX_tr (FX_f _ (by decide) _) (FX_f _ (by decide) _)), ?_, fun _ => ⟨?_, ?_⟩, fun h => absurd rfl h⟩
            · rw [f50, if_neg (by decide), f50, if_neg (by decide)]; exact c5
            · rw [f50, if_neg (by decide), f50, if_pos rfl]
            · rw [f50, if_pos rfl]
        · have hC : tC B n p = (4, tS B n p + 1) := by unfold tC; rw [if_neg he, if_neg hL, if_neg hD, if_neg h59]
          have hC1 : (tC B n p).1 = 4 := by rw [hC]
          have hC2 : (tC B n p).2 = tS B n p + 1 := by rw [hC]
          rw [if_neg hD, if_pos rfl, a5, fX4_refuse, zlet_eq, zlet_eq, Option.bind_some]
          dsimp only
          rw [if_pos (Or.inl rfl), hC1, hC2, if_pos rfl]
          refine ⟨_, rfl, FX_tr F2 (FX_tr (FX_f _ (by decide) _) (FX_f _ (by decide) _)), ?_, fun _ => ⟨?_, ?_⟩, fun h => absurd rfl h⟩
          · rw [f50, if_neg (by decide), f50, if_neg (by decide)]; exact a5
          · rw [f50, if_neg (by decide), f50, if_pos rfl]
          · rw [f50, if_pos rfl]
/-! the model's step -/
theorem y_skip (N : Nat) (hB : TB B n) (K : zS → Option zS) : ∀ d p : Nat, p + d = n → ∀ (f : Nat) (τ : zS), d < f → TY τ B n → τ.1 66 15 = nI p → ∃ τ' : zS, fX7_step_8 N K f τ = K τ' ∧ FW τ τ' ∧ (∀ k, k ≠ 15 → τ'.1 66 k = τ.1 66 k) ∧ τ'.1 66 15 = nI (run B 32 32 d p) := by
  have hn := hB.1
  intro d
  induction d with
  | zero =>
    intro p hp f τ hf ht h3
    obtain ⟨f, rfl⟩ : ∃ k, f = k + 1 := ⟨f - 1, by omega⟩
    have hpn : p = n := by omega
    rw [fX7_step_8, h3, hpn, y_end N hB ht, Option.bind_some, if_neg (by decide)]
    exact ⟨τ, rfl, FW_rfl τ, fun _ _ => rfl, by rw [h3, hpn]; rfl⟩
  | succ d ih =>
    intro p hp f τ hf ht h3
    obtain ⟨f, rfl⟩ : ∃ k, f = k + 1 := ⟨f - 1, by omega⟩
    have hb := hB.2 p (by omega)
    rw [fX7_step_8, h3, y_byte N hB ht (by omega), Option.bind_some, run]
    by_cases hc : B p = 32
    · rw [if_pos (show nI (B p) = nI 32 by rw [hc]), zlet_eq, nI_add, if_pos (by omega)]
      have hF := FW_f τ (k := 15) (by decide) (nI (p + 1))
      obtain ⟨τ', k1, k2, k3, k4⟩ := ih (p + 1) (by omega) f (zpf τ 66 15 (nI (p + 1))) (by omega) (TY_eq hF ht) (by rw [f66, if_pos rfl])
      exact ⟨τ', k1, FW_tr hF k2, fun k hk => by rw [k3 k hk, f66, if_neg hk], k4⟩
    · rw [if_neg (fun h => hc ((nI_eq (by omega) (by decide)).mp h)), if_neg (by omega)]
      exact ⟨τ, rfl, FW_rfl τ, fun _ _ => rfl, h3⟩
theorem y_in4 (N : Nat) {lo hi : Nat} (hl : lo < 2 ^ 31) (hh : hi < 2 ^ 31) : fX7_in N (-4 : Int32).toInt64 (lN lo) (lN hi) = some 0 := y_in0 N hh hl (fun ⟨k, h1, h2, h3⟩ => m_neg_lt (n := k) (by omega) (-4) (by decide) h3.symm)
theorem y_letters (N : Nat) (hB : TB B n) (K : zS → Option zS) : ∀ d p : Nat, p + d = n → ∀ (f : Nat) (τ : zS), d < f → TY τ B n → τ.1 66 15 = nI p → ∃ τ' : zS, fX7_step_84 N K f τ = K τ' ∧ FW τ τ' ∧ (∀ k, k ≠ 15 → τ'.1 66 k = τ.1 66 k) ∧ τ'.1 66 15 = nI (run B 97 122 d p) := by
  have hn := hB.1
  intro d
  induction d with
  | zero =>
    intro p hp f τ hf ht h3
    obtain ⟨f, rfl⟩ : ∃ k, f = k + 1 := ⟨f - 1, by omega⟩
    have hpn : p = n := by omega
    rw [fX7_step_84, h3, hpn, y_end N hB ht, Option.bind_some, show fX7_in N (-4 : Int32).toInt64 97 122 = some 0 from y_in4 N (lo := 97) (hi := 122) (by decide) (by decide), Option.bind_some, if_pos rfl]
    exact ⟨τ, rfl, FW_rfl τ, fun _ _ => rfl, by rw [h3, hpn]; rfl⟩
  | succ d ih =>
    intro p hp f τ hf ht h3
    obtain ⟨f, rfl⟩ : ∃ k, f = k + 1 := ⟨f - 1, by omega⟩
    have hb := hB.2 p (by omega)
    rw [fX7_step_84, h3, y_byte N hB ht (by omega), Option.bind_some, show fX7_in N (nI (B p)).toInt64 97 122 = some (if 97 ≤ B p ∧ B p ≤ 122 then 1 else 0) from y_wn N (lo := 97) (hi := 122) (by omega) (by decide) (by decide), Option.bind_some, run]
    by_cases hc : 97 ≤ B p ∧ B p ≤ 122
    · rw [if_pos hc, if_neg z10, zlet_eq, nI_add, if_pos hc]
      have hF := FW_f τ (k := 15) (by decide) (nI (p + 1))
      obtain ⟨τ', k1, k2, k3, k4⟩ := ih (p + 1) (by omega) f (zpf τ 66 15 (nI (p + 1))) (by omega) (TY_eq hF ht) (by rw [f66, if_pos rfl])
      exact ⟨τ', k1, FW_tr hF k2, fun k hk => by rw [k3 k hk, f66, if_neg hk], k4⟩
    · rw [if_neg hc, if_pos rfl, if_neg hc]
      exact ⟨τ, rfl, FW_rfl τ, fun _ _ => rfl, h3⟩
theorem y_digits (N : Nat) (hB : TB B n) (K : zS → Option zS) {s : Nat} : ∀ d p : Nat, p + d = n → s ≤ p → ∀ (f a : Nat) (τ : zS), d < f → TY τ B n → τ.1 66 15 = nI p → τ.1 66 16 = nI s → τ.1 66 18 = nI a → ∃ τ' : zS, fX7_step_140 N K f τ = K τ' ∧ FW τ τ' ∧ (∀ k, k ≠ 15 → k ≠ 18 → τ'.1 66 k = τ.1 66 k) ∧ τ'.1 66 15 = nI (run B 48 57 d p) ∧ (run B 48 57 d p - s ≤ 2 → τ'.1 66 18 = nI (spl B (run B 48 57 d p - p) p a)) := by
  have hn := hB.1
  intro d
  induction d with
  | zero =>
    intro p hp hs f a τ hf ht h3 h16 h18
    obtain ⟨f, rfl⟩ : ∃ k, f = k + 1 := ⟨f - 1, by omega⟩
    have hpn : p = n := by omega
    rw [fX7_step_140, h3, hpn, y_end N hB ht, Option.bind_some, show fX7_in N (-4 : Int32).toInt64 48 57 = some 0 from y_in4 N (lo := 48) (hi := 57) (by decide) (by decide), Option.bind_some, if_pos rfl]
    exact ⟨τ, rfl, FW_rfl τ, fun _ _ _ => rfl, by rw [h3, hpn]; rfl, fun _ => by rw [run, Nat.sub_self]; exact h18⟩
  | succ d ih =>
    intro p hp hs f a τ hf ht h3 h16 h18
    obtain ⟨f, rfl⟩ : ∃ k, f = k + 1 := ⟨f - 1, by omega⟩
    have hb := hB.2 p (by omega)
    rw [fX7_step_140, h3, y_byte N hB ht (by omega), Option.bind_some, show fX7_in N (nI (B p)).toInt64 48 57 = some (if 48 ≤ B p ∧ B p ≤ 57 then 1 else 0) from y_wn N (lo := 48) (hi := 57) (by omega) (by decide) (by decide), Option.bind_some, run]
    by_cases hc : 48 ≤ B p ∧ B p ≤ 57
    · have hle := run_le B 48 57 d (p + 1)
      rw [if_pos hc, if_neg z10, if_pos hc, h16, m_sub hs]
      by_cases h2 : 2 ≤ p - s
      · rw [if_pos ((nI_leI (by decide) (by omega)).mpr h2), fX7_step_201, zlet_eq, zlet_eq]
        have hF : FW τ (zpf (zpf τ 66 18 (τ.1 66 18)) 66 15 ((zpf τ 66 18 (τ.1 66 18)).1 66 15 + nI 1)) := FW_tr (FW_f _ (by decide) _) (FW_f _ (by decide) _)
        obtain ⟨τ', k1, k2, k3, k4, k5⟩ := ih (p + 1) (by omega) (by omega) f a _ (by omega) (TY_eq hF ht) (by rw [f66, if_pos rfl, f66, if_neg (by decide), h3, nI_add]) (by rw [f66, if_neg (by decide), f66, if_neg (by decide)]; exact h16) (by rw [f66, if_neg (by decide), f66, if_pos rfl]; exact h18)
        exact ⟨τ', k1, FW_tr hF k2, fun k hk hk' => by rw [k3 k hk hk', f66, if_neg hk, f66, if_neg hk'], k4, fun h => absurd h (by omega)⟩
      · have e1 : nI 10 * nI a + nI (B p) - nI 48 = nI (10 * a + B p - 48) := by rw [m_mul, nI_add, m_sub (by omega)]
        rw [if_neg (fun h => h2 ((nI_leI (by decide) (by omega)).mp h)), Option.bind_some, h18, e1, fX7_step_201, zlet_eq, zlet_eq]
        have hF : FW τ (zpf (zpf τ 66 18 (nI (10 * a + B p - 48))) 66 15 ((zpf τ 66 18 (nI (10 * a + B p - 48))).1 66 15 + nI 1)) := FW_tr (FW_f _ (by decide) _) (FW_f _ (by decide) _)
        obtain ⟨τ', k1, k2, k3, k4, k5⟩ := ih (p + 1) (by omega) (by omega) f (10 * a + B p - 48) _ (by omega) (TY_eq hF ht) (by rw [f66, if_pos rfl, f66, if_neg (by decide), h3, nI_add]) (by rw [f66, if_neg (by decide), f66, if_neg (by decide)]; exact h16) (by rw [f66, if_neg (by decide), f66, if_pos rfl])
        refine ⟨τ', k1, FW_tr hF k2, fun k hk hk' => by rw [k3 k hk hk', f66, if_neg hk, f66, if_neg hk'], k4, fun h => ?_⟩
        rw [k5 h, show run B 48 57 d (p + 1) - p = (run B 48 57 d (p + 1) - (p + 1)) + 1 by omega, spl]
    · rw [if_neg hc, if_pos rfl, if_neg hc]
      exact ⟨τ, rfl, FW_rfl τ, fun _ _ _ => rfl, h3, fun _ => by rw [Nat.sub_self]; exact h18⟩
theorem y_fails (N : Nat) {τ : zS} (h : τ.1 66 13 = nI 0) (w : Int32) : ∃ τ' : zS, fX7_fails N τ w = some τ' ∧ FW τ τ' ∧ τ'.1 66 13 = w ∧ τ'.1 66 14 = τ.1 66 16 ∧ ∀ k, k ≠ 13 → k ≠ 14 → τ'.1 66 k = τ.1 66 k := by
  unfold fX7_fails
  rw [h, if_pos m_zero, zlet_eq, zlet_eq]
  refine ⟨_, rfl, FW_tr (FW_f _ (by decide) _) (FW_f _ (by decide) _), ?_, ?_, fun k h1 h2 => ?_⟩
  · rw [f66, if_neg (by decide), f66, if_pos rfl]
  · rw [f66, if_pos rfl, f66, if_neg (by decide)]
  · rw [f66, if_neg h2, f66, if_neg h1]
theorem y_tok (N : Nat) (hN : 4000 ≤ N) (hB : TB B n) {τ : zS} (ht : TY τ B n) {p : Nat} (hp : p ≤ n) (h3 : τ.1 66 15 = nI p) (h13 : τ.1 66 13 = nI 0) : ∃ τ' : zS, fX7_step N τ = some τ' ∧ FW τ τ' ∧ τ'.1 66 16 = nI (tS B n p) ∧ ((tC B n p).1 = 4 → τ'.1 66 13 = nI 1 ∧ τ'.1 66 14 = nI (tS B n p)) ∧ ((tC B n p).1 ≠ 4 → τ'.1 66 13 = nI 0 ∧ τ'.1 66 15 = nI (tC B n p).2 ∧ τ'.1 66 17 = nI (((tC B n p).1 + 1) % 4) ∧ ((tC B n p).1 = 1 → τ'.1 66 18 = nI (tV B n p))) := by
  have hn := hB.1
  obtain ⟨s1, s2⟩ := tS_le (B := B) hp
  obtain ⟨τ1, k1, k2, k3, k4⟩ := y_skip N hB (fX7_step_34 N) (n - p) p (by omega) N τ (by omega) ht h3
  have k4 : τ1.1 66 15 = nI (tS B n p) := k4
  unfold fX7_step
  rw [h13, if_pos (by decide), k1, fX7_step_34, zlet_eq, k4]
  generalize hτ2 : zpf τ1 66 16 (nI (tS B n p)) = τ2
  have F2 : FW τ τ2 := by rw [← hτ2]; exact FW_tr k2 (FW_f _ (by decide) _)
  have ht2 := TY_eq F2 ht
  have a15 : τ2.1 66 15 = nI (tS B n p) := by rw [← hτ2, f66, if_neg (by decide)]; exact k4
  have a16 : τ2.1 66 16 = nI (tS B n p) := by rw [← hτ2, f66, if_pos rfl]
  have a13 : τ2.1 66 13 = nI 0 := by rw [← hτ2, f66, if_neg (by decide), k3 13 (by decide)]; exact h13
  rw [a15]
  have F3 := FW_tr F2 (FW_f τ2 (k := 18) (by decide) (nI 0))
  by_cases he : tS B n p = n
  · have hC : tC B n p = (3, n) := by unfold tC; rw [if_pos he]
    have hC1 : (tC B n p).1 = 3 := by rw [hC]
    have hC2 : (tC B n p).2 = n := by rw [hC]
    rw [he, y_end N hB ht2, Option.bind_some, zlet_eq, if_pos rfl, zlet_eq, hC1, hC2]
    refine ⟨_, rfl, FW_tr F3 (FW_f _ (by decide) _), ?_, fun h => absurd h (by decide), fun _ => ⟨?_, ?_, ?_, fun h => absurd h (by decide)⟩⟩
    · rw [f66, if_neg (by decide), f66, if_neg (by decide), a16, he]
    · rw [f66, if_neg (by decide), f66, if_neg (by decide)]; exact a13
    · rw [f66, if_neg (by decide), f66, if_neg (by decide), a15, he]
    · rw [f66, if_pos rfl]
  · have hlt : tS B n p < n := by omega
    have hb := hB.2 _ hlt
    rw [y_byte N hB ht2 hlt, Option.bind_some, zlet_eq, if_neg (m_neg_lt (by omega) _ (by decide)), show fX7_in N (nI (B (tS B n p))).toInt64 97 122 = some (if 97 ≤ B (tS B n p) ∧ B (tS B n p) ≤ 122 then 1 else 0) from y_wn N (lo := 97) (hi := 122) (by omega) (by decide) (by decide), Option.bind_some]
    by_cases hL : 97 ≤ B (tS B n p) ∧ B (tS B n p) ≤ 122
    · have hC : tC B n p = (0, run B 97 122 (n - tS B n p) (tS B n p)) := by unfold tC; rw [if_neg he, if_pos hL]
      have hC1 : (tC B n p).1 = 0 := by rw [hC]
      have hC2 : (tC B n p).2 = run B 97 122 (n - tS B n p) (tS B n p) := by rw [hC]
      rw [if_pos hL, if_neg z10]
      obtain ⟨τ3, l1, l2, l3, l4⟩ := y_letters N hB (fX7_step_118 N) (n - tS B n p) (tS B n p) (by omega) N (zpf τ2 66 18 (nI 0)) (by omega) (TY_eq F3 ht) (by rw [f66, if_neg (by decide)]; exact a15)
      rw [l1, fX7_step_118, zlet_eq, hC1, hC2]
      refine ⟨_, rfl, FW_tr F3 (FW_tr l2 (FW_f _ (by decide) _)), ?_, fun h => absurd h (by decide), fun _ => ⟨?_, ?_, ?_, fun h => absurd h (by decide)⟩⟩
      · rw [f66, if_neg (by decide), l3 16 (by decide), f66, if_neg (by decide)]; exact a16
      · rw [f66, if_neg (by decide), l3 13 (by decide), f66, if_neg (by decide)]; exact a13
      · rw [f66, if_neg (by decide)]; exact l4
      · rw [f66, if_pos rfl]
    · rw [if_neg hL, if_pos rfl, show fX7_in N (nI (B (tS B n p))).toInt64 48 57 = some (if 48 ≤ B (tS B n p) ∧ B (tS B n p) ≤ 57 then 1 else 0) from y_wn N (lo := 48) (hi := 57) (by omega) (by decide) (by decide), Option.bind_some]
      by_cases hD : 48 ≤ B (tS B n p) ∧ B (tS B n p) ≤ 57
      · rw [if_pos hD, if_neg z10]
        have hr := run_pos (n := n) hlt hD
        obtain ⟨τ3, l1, l2, l3, l4, l5⟩ := y_digits N hB (fX7_step_217 N) (s := tS B n p) (n - tS B n p) (tS B n p) (by omega) (Nat.le_refl _) N 0 (zpf τ2 66 18 (nI 0)) (by omega) (TY_eq F3 ht) (by rw [f66, if_neg (by decide)]; exact a15) (by rw [f66, if_neg (by decide)]; exact a16) (by rw [f66, if_pos rfl])
        have c16 : (zpf τ3 66 17 (nI 2)).1 66 16 = nI (tS B n p) := by rw [f66, if_neg (by decide), l3 16 (by decide) (by decide), f66, if_neg (by decide)]; exact a16
        have c15 : (zpf τ3 66 17 (nI 2)).1 66 15 = nI (run B 48 57 (n - tS B n p) (tS B n p)) := by rw [f66, if_neg (by decide)]; exact l4
        have c13 : (zpf τ3 66 17 (nI 2)).1 66 13 = nI 0 := by rw [f66, if_neg (by decide), l3 13 (by decide) (by decide), f66, if_neg (by decide)]; exact a13
        have F4 := FW_tr F3 (FW_tr l2 (FW_f τ3 (k := 17) (by decide) (nI 2)))
        rw [l1, fX7_step_217, zlet_eq, c15, c16, m_sub (by omega)]
        by_cases h2 : run B 48 57 (n - tS B n p) (tS B n p) - tS B n p ≤ 2
        · have hC : tC B n p = (1, run B 48 57 (n - tS B n p) (tS B n p)) := by unfold tC; rw [if_neg he, if_neg hL, if_pos hD, if_pos h2]
          have hC1 : (tC B n p).1 = 1 := by rw [hC]
          have hC2 : (tC B n p).2 = run B 48 57 (n - tS B n p) (tS B n p) := by rw [hC]
          rw [if_pos ((nI_leI (by omega) (by decide)).mpr h2), hC1, hC2]
          refine ⟨_, rfl, F4, c16, fun h => absurd h (by decide), fun _ => ⟨c13, c15, by rw [f66, if_pos rfl], fun _ => ?_⟩⟩
          rw [f66, if_neg (by decide), l5 h2]
          unfold tV
          rw [hC]
        · have hC : tC B n p = (4, run B 48 57 (n - tS B n p) (tS B n p)) := by unfold tC; rw [if_neg he, if_neg hL, if_pos hD, if_neg h2]
          have hC1 : (tC B n p).1 = 4 := by rw [hC]
          have hC2 : (tC B n p).2 = run B 48 57 (n - tS B n p) (tS B n p) := by rw [hC]
          obtain ⟨τ4, m1, m2, m3, m4, m5⟩ := y_fails N c13 (nI 1)
          rw [if_neg (fun h => h2 ((nI_leI (by omega) (by decide)).mp h)), m1, Option.bind_some, hC1, hC2]
          exact ⟨_, rfl, FW_tr F4 m2, by rw [m5 16 (by decide) (by decide)]; exact c16, fun _ => ⟨m3, by rw [m4]; exact c16⟩, fun h => absurd rfl h⟩
      · rw [if_neg hD, if_pos rfl, zlet_eq, zlet_eq]
        generalize hτ3 : zpf (zpf (zpf τ2 66 18 (nI 0)) 66 17 (nI 3)) 66 15 ((zpf (zpf τ2 66 18 (nI 0)) 66 17 (nI 3)).1 66 15 + nI 1) = τ3
        have F4 : FW τ τ3 := by rw [← hτ3]; exact FW_tr F3 (FW_tr (FW_f _ (by decide) _) (FW_f _ (by decide) _))
        have c16 : τ3.1 66 16 = nI (tS B n p) := by rw [← hτ3, f66, if_neg (by decide), f66, if_neg (by decide), f66, if_neg (by decide)]; exact a16
        have c13 : τ3.1 66 13 = nI 0 := by rw [← hτ3, f66, if_neg (by decide), f66, if_neg (by decide), f66, if_neg (by decide)]; exact a13
        have c15 : τ3.1 66 15 = nI (tS B n p + 1) := by rw [← hτ3, f66, if_pos rfl, f66, if_neg (by decide), f66, if_neg (by decide), a15, nI_add]
        have c17 : τ3.1 66 17 = nI 3 := by rw [← hτ3, f66, if_neg (by decide), f66, if_pos rfl]
        by_cases h59 : B (tS B n p) = 59
        · have hC : tC B n p = (2, tS B n p + 1) := by unfold tC; rw [if_neg he, if_neg hL, if_neg hD, if_pos h59]
          have hC1 : (tC B n p).1 = 2 := by rw [hC]
          have hC2 : (tC B n p).2 = tS B n p + 1 := by rw [hC]
          rw [if_pos (show nI (B (tS B n p)) = nI 59 by rw [h59]), hC1, hC2]
          exact ⟨_, rfl, F4, c16, fun h => absurd h (by decide), fun _ => ⟨c13, c15, c17, fun h => absurd h (by decide)⟩⟩
        · have hC : tC B n p = (4, tS B n p + 1) := by unfold tC; rw [if_neg he, if_neg hL, if_neg hD, if_neg h59]
          have hC1 : (tC B n p).1 = 4 := by rw [hC]
          have hC2 : (tC B n p).2 = tS B n p + 1 := by rw [hC]
          obtain ⟨τ4, m1, m2, m3, m4, m5⟩ := y_fails N c13 (nI 1)
          rw [if_neg (fun h => h59 ((nI_eq (by omega) (by decide)).mp h)), m1, Option.bind_some, hC1, hC2]
          exact ⟨_, rfl, FW_tr F4 m2, by rw [m5 16 (by decide) (by decide)]; exact c16, fun _ => ⟨m3, by rw [m4]; exact c16⟩, fun h => absurd rfl h⟩
end TOK

/-! rows as numbers of figures below five -/
def dig (m c i : Nat) : Nat := c / 5 ^ (m - 1 - i) % 5
theorem dig_lt (m c i : Nat) : dig m c i < 5 := Nat.mod_lt _ (by decide)
theorem p5_le {k : Nat} (h : k ≤ 5) : 5 ^ k ≤ 3125 := Nat.pow_le_pow_right (n := 5) (by decide) h
theorem y_pow_loop (N : Nat) {t : Nat} (ht : t ≤ 5) : ∀ d i m : Nat, i + d = t → d < m → fX7_powerOf_4 N m (nI t) (nI (5 ^ i)) (nI i) = some (nI (5 ^ t)) := by
  intro d
  induction d with
  | zero =>
    intro i m hi hm
    obtain ⟨m, rfl⟩ : ∃ k, m = k + 1 := ⟨m - 1, by omega⟩
    have e : i = t := by omega
    subst e
    rw [fX7_powerOf_4, if_pos ((nI_leI (by omega) (by omega)).mpr (Nat.le_refl _))]
  | succ d ih =>
    intro i m hi hm
    obtain ⟨m, rfl⟩ : ∃ k, m = k + 1 := ⟨m - 1, by omega⟩
    rw [fX7_powerOf_4, if_neg (fun h => by have := (nI_leI (by omega) (by omega)).mp h; omega), zlet_eq, m_mul, nI_add, ← Nat.pow_succ]
    exact ih (i + 1) m (by omega) (by omega)
theorem y_powerOf (N : Nat) (hN : 4000 ≤ N) {t : Nat} (ht : t ≤ 5) : fX7_powerOf N (nI t) = some (nI (5 ^ t)) := y_pow_loop N ht t 0 N (by omega) (by omega)
theorem y_figure (N : Nat) (hN : 4000 ≤ N) {c m i : Nat} (hc : c < 2 ^ 31) (hm : m ≤ 5) (hi : i < m) : fX7_figureOf N (nI c) (nI m) (nI i) = some (nI (dig m c i)) := by
  have hp : 5 ^ (m - 1 - i) ≤ 3125 := p5_le (by omega)
  have h0 : 0 < 5 ^ (m - 1 - i) := Nat.pow_pos (by decide)
  have hd : c / 5 ^ (m - 1 - i) ≤ c := Nat.div_le_self _ _
  unfold fX7_figureOf
  rw [m_sub (by omega), m_sub (by omega), y_powerOf N hN (by omega), Option.bind_some, if_pos (fun h => by have := (nI_eq (a := 5 ^ (m - 1 - i)) (b := 0) (by omega) (by decide)).mp h; omega), zlet_eq, pk_div hc h0 (by omega), zlet_eq, z_rem (by omega) (by decide) (by decide)]
  rfl
/-- what the model makes of a number's figures: their bits, or 0 -/
def mrowL (n m c : Nat) : Nat → Nat → Nat → Nat
  | 0, _, s => s
  | d + 1, i, s => if dig m c i < n then (if s.testBit (dig m c i) = true then 0 else mrowL n m c d (i + 1) (s ||| 2 ^ dig m c i)) else 0
theorem y_row_loop (N : Nat) (hN : 4000 ≤ N) {τ : zS} {n m c : Nat} (n1 : τ.1 66 1 = nI n) (hn : n ≤ 5) (hm : m ≤ 5) (hc : c < 2 ^ 31) : ∀ d i s f : Nat, i + d = m → s < 32 → d < f → fX7_rowOf_5 N τ f (nI c) (nI m) (nI s) (nI i) = some (nI (mrowL n m c d i s)) := by
  intro d
  induction d with
  | zero =>
    intro i s f hi hs hf
    obtain ⟨f, rfl⟩ : ∃ k, f = k + 1 := ⟨f - 1, by omega⟩
    rw [fX7_rowOf_5, if_pos ((nI_leI (by omega) (by omega)).mpr (by omega))]
    rfl
  | succ d ih =>
    intro i s f hi hs hf
    obtain ⟨f, rfl⟩ : ∃ k, f = k + 1 := ⟨f - 1, by omega⟩
    have h5 := dig_lt m c i
    rw [fX7_rowOf_5, if_neg (fun h => by have := (nI_leI (by omega) (by omega)).mp h; omega), y_figure N hN hc hm (by omega), Option.bind_some, mrowL]
    by_cases hb : dig m c i < n
    · rw [y_has1 N n1 (by omega) hb, Option.bind_some, if_neg z10, if_pos hb]
      by_cases ht : s.testBit (dig m c i) = true
      · rw [if_pos ((m_tst1 (by omega) (by omega)).mpr ht), if_pos ht]
      · have hlt : s ||| 2 ^ dig m c i < 2 ^ 5 := Nat.or_lt_two_pow (by omega) (Nat.pow_lt_pow_right (by decide) h5)
        rw [if_neg (fun h => ht ((m_tst1 (by omega) (by omega)).mp h)), if_neg ht, zlet_eq, m_bit (by omega), m_or, nI_add]
        exact ih (i + 1) _ f (by omega) (by omega) (by omega)
    · rw [y_has0 N n1 (by omega) (fun ⟨k, h1, h2⟩ => hb (by have := (nI_eq (by omega) (by omega)).mp h2; omega)), Option.bind_some, if_pos rfl, if_neg hb]
def mrow (n m c : Nat) : Nat := mrowL n m c m 0 0
theorem y_rowOf (N : Nat) (hN : 4000 ≤ N) {τ : zS} {n m c : Nat} (n1 : τ.1 66 1 = nI n) (hn : n ≤ 5) (hm : m ≤ 5) (hc : c < 2 ^ 31) : fX7_rowOf N τ (nI c) (nI m) = some (nI (mrow n m c)) := y_row_loop N hN n1 hn hm hc m 0 0 N (by omega) (by decide) (by omega)
/-! orders -/
def isO (n c : Nat) : Bool := n == 0 || mrow n n c == 2 ^ n - 1
def ordsF (n : Nat) : Nat → Nat → List Nat
  | 0, _ => []
  | d + 1, c => if isO n c = true then c :: ordsF n d (c + 1) else ordsF n d (c + 1)
/-- the next order by rows -/
def mfi (f : Nat → Nat) : Nat → Option Nat
  | 0 => none
  | k + 1 => if f k ≤ f (k + 1) then some k else mfi f k
def mfj (f : Nat → Nat) (i : Nat) : Nat → Nat
  | 0 => 0
  | j + 1 => if j + 1 ≤ i then j + 1 else if f i ≤ f (j + 1) then j + 1 else mfj f i j
def mex (f : Nat → Nat) (i j : Nat) : Nat → Nat := fun k => if k = j then f i else if k = i then f j else f k
def mrev : Nat → (Nat → Nat) → Nat → Nat → (Nat → Nat)
  | 0, f, _, _ => f
  | d + 1, f, lo, hi => if hi ≤ lo then f else mrev d (mex f lo hi) (lo + 1) (hi - 1)
def mstep (n : Nat) (f : Nat → Nat) : Nat → Nat := match mfi f (n - 1) with
  | none => f
  | some i => mrev 5 (mex f i (mfj f i (n - 1))) (i + 1) (n - 1)
def chainB (n : Nat) : List Nat → Bool
  | [] => true
  | c :: t => (match t with
    | [] => true
    | c' :: _ => (List.range n).all (fun j => mstep n (fun i => dig n c i) j == dig n c' j)) && chainB n t
def mfact : Nat → Nat
  | 0 => 1
  | n + 1 => (n + 1) * mfact n
set_option maxRecDepth 100000 in
theorem ords_all : ∀ n, n < 6 → (chainB n (ordsF n (5 ^ n) 0) && (ordsF n (5 ^ n) 0).length == mfact n && (List.range n).all (fun j => dig n ((ordsF n (5 ^ n) 0).headD 0) j == j) && (ordsF n (5 ^ n) 0).all (fun c => (List.range n).all (fun j => decide (dig n c j < n)) && decide (c < 3125))) = true := by decide +kernel
set_option maxRecDepth 100000 in
theorem isO_dig : ∀ n, n < 6 → ∀ c, c < 5 ^ n → isO n c = true → ∀ j, j < n → dig n c j < n := by decide +kernel

/-! towers, as numbers of figures -/
def kG (F : Nat → List (Nat × Nat)) : Nat → Nat → List (Nat × Nat)
  | 0, _ => []
  | e + 1, b => F b ++ kG F e (b + 1)
def dG (n : Nat) : Nat → Nat → Nat → Nat → List (Nat × Nat)
  | 0, m, c, _ => [(m, c)]
  | d + 1, m, c, u => (m, c) :: kG (fun b => if u.testBit b = true then [] else dG n d (m + 1) (5 * c + b) (u ||| 2 ^ b)) n 0
def gB (n m c : Nat) : Bool := m == 0 || mrow n m c != 0
def cdL (n m : Nat) : Nat → Nat → List (Nat × Nat)
  | 0, _ => []
  | e + 1, c => if gB n m c = true then (m, c) :: cdL n m e (c + 1) else cdL n m e (c + 1)
def szL (n : Nat) : Nat → Nat → List (Nat × Nat)
  | 0, _ => []
  | e + 1, m => cdL n m (5 ^ m) 0 ++ szL n e (m + 1)
def aL (n : Nat) : List (Nat × Nat) := szL n (n + 1) 0
set_option maxRecDepth 1000000 in
theorem aperm : ∀ n, n < 6 → (dG n 5 0 0 0).isPerm (aL n) = true := by decide +kernel
def gOk (n m c : Nat) : Bool := (List.range m).all (fun i => decide (dig m c i < n)) && (List.range m).all (fun i => (List.range i).all (fun j => dig m c i != dig m c j)) && mrow n m c == mbits (dig m c) m
set_option maxRecDepth 1000000 in
theorem g_okA : ∀ n, n < 6 → ((aL n).all fun q => gOk n q.1 q.2) = true := by decide +kernel
theorem cdL_mem {n m c : Nat} (hg : gB n m c = true) : ∀ e c0 : Nat, c0 ≤ c → c < c0 + e → (m, c) ∈ cdL n m e c0
  | 0, c0, h1, h2 => by omega
  | e + 1, c0, h1, h2 => by
    rw [cdL]
    by_cases h : c0 = c
    · rw [h, if_pos hg]
      exact List.mem_cons_self
    · have := cdL_mem hg e (c0 + 1) (by omega) (by omega)
      split
      · exact List.mem_cons_of_mem _ this
      · exact this
theorem szL_mem {n m c : Nat} (hg : gB n m c = true) (hc : c < 5 ^ m) : ∀ e m0 : Nat, m0 ≤ m → m < m0 + e → (m, c) ∈ szL n e m0
  | 0, m0, h1, h2 => by omega
  | e + 1, m0, h1, h2 => by
    rw [szL]
    by_cases h : m0 = m
    · rw [h]
      exact List.mem_append_left _ (cdL_mem hg _ _ (Nat.zero_le _) (by omega))
    · exact List.mem_append_right _ (szL_mem hg hc e (m0 + 1) (by omega) (by omega))
theorem g_ok {n m c : Nat} (hn : n < 6) (hm : m ≤ n) (hc : c < 5 ^ m) (hg : gB n m c = true) : gOk n m c = true :=
  List.all_eq_true.mp (g_okA n hn) (m, c) (szL_mem hg hc (n + 1) 0 (Nat.zero_le _) (by omega))
def pwB (R : Nat × Nat → Nat × Nat → Bool) : List (Nat × Nat) → Bool
  | [] => true
  | a :: t => t.all (R a) && pwB R t
set_option maxRecDepth 1000000 in
theorem a_pw : ∀ n, n < 6 → pwB (fun a b => a.1.blt b.1 || (a.1.beq b.1 && a.2.blt b.2)) (aL n) = true := by decide +kernel
set_option maxRecDepth 1000000 in
theorem d_pw : ∀ n, n < 6 → pwB (fun a b => !(a.1.beq b.1) || a.2.blt b.2) (dG n 5 0 0 0) = true := by decide +kernel
/-! the best of them -/
abbrev qT : Type := Nat × Nat
def better (sc : qT → Nat) (r x : qT) : Prop := sc x < sc r ∨ (sc x = sc r ∧ (r.1 < x.1 ∨ (r.1 = x.1 ∧ r.2 < x.2)))
def isBest (sc : qT → Nat) (l : List qT) (r : qT) : Prop := r ∈ l ∧ ∀ x, x ∈ l → x = r ∨ better sc r x
theorem isBest_uniq {sc : qT → Nat} {l l' : List qT} (hl : ∀ x, x ∈ l ↔ x ∈ l') {r r' : qT} (h : isBest sc l r) (h' : isBest sc l' r') : r = r' := by
  rcases h.2 r' ((hl r').mpr h'.1) with e | h1
  · exact e.symm
  · rcases h'.2 r ((hl r).mp h.1) with e | h2
    · exact e
    · unfold better at h1 h2
      exfalso
      omega
/-- the class's choice -/
def selX (sc : qT → Nat) : Option qT → qT → Option qT
  | none, q => some q
  | some r, q => if sc r < sc q ∨ (sc q = sc r ∧ q.1 < r.1) then some q else some r
/-- the model's choice -/
def selY (sc : qT → Nat) : Option qT → qT → Option qT
  | none, q => some q
  | some r, q => if sc r < sc q then some q else some r
theorem better_tr {sc : qT → Nat} {a b c : qT} (h1 : better sc a b) (h2 : better sc b c) : better sc a c := by
  unfold better at *
  omega
theorem selX_best {sc : qT → Nat} : ∀ (l pre : List qT) (r : qT), (pre ++ l).Pairwise (fun a b => a.1 = b.1 → a.2 < b.2) → isBest sc pre r → ∃ r', l.foldl (selX sc) (some r) = some r' ∧ isBest sc (pre ++ l) r'
  | [], pre, r, _, h => ⟨r, rfl, by rw [List.append_nil]; exact h⟩
  | q :: l, pre, r, hp, h => by
    have hp' : ((pre ++ [q]) ++ l).Pairwise (fun a b => a.1 = b.1 → a.2 < b.2) := by rw [List.append_assoc]; exact hp
    have hq : r.1 = q.1 → r.2 < q.2 := (List.pairwise_append.mp hp).2.2 r h.1 q List.mem_cons_self
    rw [List.foldl_cons, selX, List.append_cons]
    by_cases hc : sc r < sc q ∨ (sc q = sc r ∧ q.1 < r.1)
    · rw [if_pos hc]
      refine selX_best l (pre ++ [q]) q hp' ⟨by simp, fun x hx => ?_⟩
      have hb : better sc q r := by unfold better; omega
      rcases List.mem_append.mp hx with hx | hx
      · rcases h.2 x hx with rfl | h2
        · exact Or.inr hb
        · exact Or.inr (better_tr hb h2)
      · exact Or.inl (List.mem_singleton.mp hx)
    · rw [if_neg hc]
      refine selX_best l (pre ++ [q]) r hp' ⟨by simp [h.1], fun x hx => ?_⟩
      rcases List.mem_append.mp hx with hx | hx
      · exact h.2 x hx
      · rw [List.mem_singleton.mp hx]
        right
        unfold better
        omega
theorem selY_best {sc : qT → Nat} : ∀ (l pre : List qT) (r : qT), (pre ++ l).Pairwise (fun a b => a.1 < b.1 ∨ (a.1 = b.1 ∧ a.2 < b.2)) → isBest sc pre r → ∃ r', l.foldl (selY sc) (some r) = some r' ∧ isBest sc (pre ++ l) r'
  | [], pre, r, _, h => ⟨r, rfl, by rw [List.append_nil]; exact h⟩
  | q :: l, pre, r, hp, h => by
    have hp' : ((pre ++ [q]) ++ l).Pairwise (fun a b => a.1 < b.1 ∨ (a.1 = b.1 ∧ a.2 < b.2)) := by rw [List.append_assoc]; exact hp
    have hq : r.1 < q.1 ∨ (r.1 = q.1 ∧ r.2 < q.2) := (List.pairwise_append.mp hp).2.2 r h.1 q List.mem_cons_self
    rw [List.foldl_cons, selY, List.append_cons]
    by_cases hc : sc r < sc q
    · rw [if_pos hc]
      refine selY_best l (pre ++ [q]) q hp' ⟨by simp, fun x hx => ?_⟩
      have hb : better sc q r := by unfold better; omega
      rcases List.mem_append.mp hx with hx | hx
      · rcases h.2 x hx with rfl | h2
        · exact Or.inr hb
        · exact Or.inr (better_tr hb h2)
      · exact Or.inl (List.mem_singleton.mp hx)
    · rw [if_neg hc]
      refine selY_best l (pre ++ [q]) r hp' ⟨by simp [h.1], fun x hx => ?_⟩
      rcases List.mem_append.mp hx with hx | hx
      · exact h.2 x hx
      · rw [List.mem_singleton.mp hx]
        right
        unfold better
        omega
theorem one_best (sc : qT → Nat) (q : qT) : isBest sc [q] q := ⟨List.mem_singleton.mpr rfl, fun x hx => Or.inl (List.mem_singleton.mp hx)⟩
theorem selX_all {sc : qT → Nat} {l : List qT} (hl : l ≠ []) (hp : l.Pairwise (fun a b => a.1 = b.1 → a.2 < b.2)) : ∃ r, l.foldl (selX sc) none = some r ∧ isBest sc l r := by
  cases l with
  | nil => exact absurd rfl hl
  | cons q l =>
    rw [List.foldl_cons]
    exact selX_best l [q] q hp (one_best sc q)
theorem selY_all {sc : qT → Nat} {l : List qT} (hl : l ≠ []) (hp : l.Pairwise (fun a b => a.1 < b.1 ∨ (a.1 = b.1 ∧ a.2 < b.2))) : ∃ r, l.foldl (selY sc) none = some r ∧ isBest sc l r := by
  cases l with
  | nil => exact absurd rfl hl
  | cons q l =>
    rw [List.foldl_cons]
    exact selY_best l [q] q hp (one_best sc q)
/-- spreading -/
def rL : Nat → Nat → List Nat
  | 0, s => [s]
  | k + 1, s => if s.testBit k = true then rL k s ++ rL k (s ^^^ 2 ^ k) else rL k s
theorem rL_mem : ∀ s, s < 32 → ∀ u, u < 32 → (u ∈ rL 5 s ↔ u &&& s = u) := by decide +kernel
theorem rL_lt : ∀ s, s < 32 → ((rL 5 s).all fun u => u.blt 32) = true := by decide +kernel

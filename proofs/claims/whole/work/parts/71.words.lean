/-! the eight words -/
def wln (w : Nat) : Nat := mcuts.getD (w + 1) 0 - mcuts.getD w 0
def wlt (w j : Nat) : Nat := mletters.getD (mcuts.getD w 0 + j) 0
theorem w_len : ∀ w, w < 8 → zsL.getD w 0 = wln w ∧ wln w ≤ 6 ∧ mcuts.getD w 0 + wln w = mcuts.getD (w + 1) 0 ∧ mcuts.getD (w + 1) 0 ≤ 35 := by decide +kernel
theorem w_let : ∀ w, w < 8 → ∀ j, j < wln w → (zsB.getD w []).getD j 0 = nI (wlt w j) ∧ wlt w j ≤ 127 := by decide +kernel
def sp (B : Nat → Nat) (s w : Nat) : Nat → Nat → Bool
  | 0, _ => true
  | d + 1, j => (B (s + j) == wlt w j) && sp B s w d (j + 1)
def spelt (B : Nat → Nat) (s e w : Nat) : Bool := (e - s == wln w) && sp B s w (wln w) 0
def wrd (B : Nat → Nat) (s e : Nat) : Nat → Nat → Nat
  | 0, _ => 8
  | d + 1, w => if spelt B s e w = true then w else wrd B s e d (w + 1)
theorem wrd_le (B : Nat → Nat) (s e : Nat) : ∀ d w : Nat, w + d = 8 → wrd B s e d w ≤ 8
  | 0, _, _ => Nat.le_refl _
  | d + 1, w, h => by
    rw [wrd]
    split
    · omega
    · exact wrd_le B s e d (w + 1) (by omega)
section WRD
variable {B : Nat → Nat} {n : Nat}
theorem x_slen (N : Nat) {w : Nat} (hw : w < 8) : fJ0_length_8abf5 N w = some (nI (wln w)) := by
  unfold fJ0_length_8abf5
  rw [(w_len w hw).1]
  rfl
theorem x_spelt_loop (N : Nat) (hB : TB B n) {σ : zS} (ht : TX σ B n) {s w : Nat} (hw : w < 8) (h5 : σ.1 50 5 = nI s) (hs : s + wln w ≤ n) : ∀ d j : Nat, j + d = wln w → ∀ f : Nat, d < f → fX4_isSpelt_20 N σ f w (nI j) = some (if sp B s w d j = true then 1 else 0) := by
  have hn := hB.1
  obtain ⟨l1, l2, l3, l4⟩ := w_len w hw
  intro d
  induction d with
  | zero =>
    intro j hj f hf
    obtain ⟨f, rfl⟩ : ∃ k, f = k + 1 := ⟨f - 1, by omega⟩
    rw [fX4_isSpelt_20, x_slen N hw, Option.bind_some, if_pos ((nI_leI (by omega) (by omega)).mpr (by omega)), sp, if_pos rfl]
  | succ d ih =>
    intro j hj f hf
    obtain ⟨f, rfl⟩ : ∃ k, f = k + 1 := ⟨f - 1, by omega⟩
    obtain ⟨b1, b2⟩ := x_byte hB ht (p := s + j) (by omega)
    obtain ⟨c1, c2⟩ := w_let w hw j (by omega)
    have hb := hB.2 (s + j) (by omega)
    have ec : fJ0_charAt_5068e N w (nI j) = some (nI (wlt w j)) := by
      unfold fJ0_charAt_5068e
      rw [l1, if_pos (m_zin (by omega) (by omega)), nI_clamp (by omega), c1]
    rw [fX4_isSpelt_20, x_slen N hw, Option.bind_some, if_neg (fun h => by have := (nI_leI (by omega) (by omega)).mp h; omega), h5, nI_add, if_pos b1, zlet_eq, b2, ec, Option.bind_some, sp]
    by_cases hc : B (s + j) = wlt w j
    · rw [if_pos (show nI (B (s + j)) = nI (wlt w j) by rw [hc]), nI_add, hc, beq_self_eq_true, Bool.true_and]
      exact ih (j + 1) (by omega) f (by omega)
    · rw [if_neg (fun h => hc ((nI_eq (by omega) (by omega)).mp h)), show (B (s + j) == wlt w j) = false by simpa using hc, Bool.false_and, if_neg (by decide)]
theorem x_spelt (N : Nat) (hN : 4000 ≤ N) (hB : TB B n) {σ : zS} (ht : TX σ B n) {s e w : Nat} (hw : w < 8) (h5 : σ.1 50 5 = nI s) (h3 : σ.1 50 3 = nI e) (hs : s ≤ e) (he : e ≤ n) : fX4_isSpelt N σ w = some (if spelt B s e w = true then 1 else 0) := by
  have hn := hB.1
  obtain ⟨l1, l2, l3, l4⟩ := w_len w hw
  unfold fX4_isSpelt spelt
  rw [x_slen N hw, Option.bind_some, h3, h5, m_sub hs]
  by_cases hc : e - s = wln w
  · rw [if_pos (show nI (wln w) = nI (e - s) by rw [hc]), x_spelt_loop N hB ht hw h5 (by omega) (wln w) 0 (by omega) N (by omega), hc, beq_self_eq_true, Bool.true_and]
  · rw [if_neg (fun h => hc ((nI_eq (by omega) (by omega)).mp h).symm), show (e - s == wln w) = false by simpa using hc, Bool.false_and, if_neg (by decide)]
theorem x_spelling0 : ∀ w, w < 8 → fX4_spelling 0 (nI w) = some w := by decide +kernel
theorem x_word (N : Nat) (hN : 4000 ≤ N) (hB : TB B n) {σ : zS} (ht : TX σ B n) {s e : Nat} (h5 : σ.1 50 5 = nI s) (h3 : σ.1 50 3 = nI e) (hs : s ≤ e) (he : e ≤ n) : ∀ d w : Nat, w + d = 8 → ∀ f : Nat, d < f → fX4_wordRead_2 N σ f (nI w) = some (nI (wrd B s e d w)) := by
  intro d
  induction d with
  | zero =>
    intro w hw f hf
    obtain ⟨f, rfl⟩ : ∃ k, f = k + 1 := ⟨f - 1, by omega⟩
    have e8 : w = 8 := by omega
    rw [fX4_wordRead_2, e8, if_pos (by decide), wrd]
  | succ d ih =>
    intro w hw f hf
    obtain ⟨f, rfl⟩ : ∃ k, f = k + 1 := ⟨f - 1, by omega⟩
    rw [fX4_wordRead_2, if_neg (fun h => by have := (nI_leI (by decide) (by omega)).mp h; omega), show fX4_spelling N (nI w) = some w from x_spelling0 w (by omega), Option.bind_some, x_spelt N hN hB ht (by omega) h5 h3 hs he, Option.bind_some, wrd]
    by_cases hc : spelt B s e w = true
    · rw [if_pos hc, if_neg z10, if_pos hc]
    · rw [if_neg hc, if_pos rfl, if_neg hc, nI_add]
      exact ih (w + 1) (by omega) f (by omega)
theorem zlen58 : zlen 58 = 9 := rfl
theorem zlen59 : zlen 59 = 35 := rfl
theorem y_flag0 (N : Nat) {τ : zS} (K : Int32 → Int32 → Option Int32) (x1 x3 : Int32) (f : Nat) (hf : 0 < f) : fX7_nameHere_51 N τ K f x1 (nI 0) x3 = K x1 (nI 0) := by
  obtain ⟨f, rfl⟩ : ∃ k, f = k + 1 := ⟨f - 1, by omega⟩
  rw [fX7_nameHere_51, if_pos m_zero]
theorem y_spelt_loop (N : Nat) (hB : TB B n) {τ : zS} (ht : TY τ B n) (hC : RC τ) {s e w : Nat} (hw : w < 8) (h16 : τ.1 66 16 = nI s) (h15 : τ.1 66 15 = nI e) (hs : s ≤ e) (he : e ≤ n) (hl : e - s = wln w) (K : Int32 → Int32 → Option Int32) : ∀ d j : Nat, j + d = wln w → ∀ f : Nat, d + 1 < f → fX7_nameHere_51 N τ K f (nI w) (nI 1) (nI j) = K (nI w) (if sp B s w d j = true then nI 1 else nI 0) := by
  have hn := hB.1
  obtain ⟨l1, l2, l3, l4⟩ := w_len w hw
  intro d
  induction d with
  | zero =>
    intro j hj f hf
    obtain ⟨f, rfl⟩ : ∃ k, f = k + 1 := ⟨f - 1, by omega⟩
    rw [fX7_nameHere_51, if_neg (by decide), h15, h16, m_sub hs, if_pos ((nI_leI (by omega) (by omega)).mpr (by omega)), sp, if_pos rfl]
  | succ d ih =>
    intro j hj f hf
    obtain ⟨f, rfl⟩ : ∃ k, f = k + 1 := ⟨f - 1, by omega⟩
    obtain ⟨c1, c2⟩ := w_let w hw j (by omega)
    have hb := hB.2 (s + j) (by omega)
    have r1 : τ.2 58 (nI w).toNatClampNeg = nI (mcuts.getD w 0) := by rw [nI_clamp (by omega)]; exact hC.1 w (by omega)
    have r2 : τ.2 59 (nI (mcuts.getD w 0 + j)).toNatClampNeg = nI (wlt w j) := by rw [nI_clamp (by omega)]; exact hC.2 _ (by omega)
    rw [fX7_nameHere_51, if_neg (by decide), h15, h16, m_sub hs, if_neg (fun h => by have := (nI_leI (by omega) (by omega)).mp h; omega), nI_add, y_byte N hB ht (by omega), Option.bind_some, zlen58, if_pos (m_zin (by omega) (by decide)), zlet_eq, r1, nI_add, zlen59, if_pos (m_zin (by omega) (by decide)), zlet_eq, r2, sp]
    by_cases hc : B (s + j) = wlt w j
    · rw [if_pos (show nI (B (s + j)) = nI (wlt w j) by rw [hc]), fX7_nameHere_99, nI_add, hc, beq_self_eq_true, Bool.true_and]
      exact ih (j + 1) (by omega) f (by omega)
    · rw [if_neg (fun h => hc ((nI_eq (by omega) (by omega)).mp h)), fX7_nameHere_99, show (B (s + j) == wlt w j) = false by simpa using hc, Bool.false_and, if_neg (by decide)]
      exact y_flag0 N K _ _ f (by omega)
theorem y_word (N : Nat) (hN : 4000 ≤ N) (hB : TB B n) {τ : zS} (ht : TY τ B n) (hC : RC τ) {s e : Nat} (h17 : τ.1 66 17 = nI 1) (h16 : τ.1 66 16 = nI s) (h15 : τ.1 66 15 = nI e) (hs : s ≤ e) (he : e ≤ n) : ∀ d w : Nat, w + d = 8 → ∀ f : Nat, d < f → fX7_nameHere_2 N τ f (nI w) = some (if wrd B s e d w = 8 then -4 else nI (wrd B s e d w)) := by
  have hn := hB.1
  intro d
  induction d with
  | zero =>
    intro w hw f hf
    obtain ⟨f, rfl⟩ : ∃ k, f = k + 1 := ⟨f - 1, by omega⟩
    have e8 : w = 8 := by omega
    rw [fX7_nameHere_2, e8, if_pos (by decide), wrd, if_pos rfl]
  | succ d ih =>
    intro w hw f hf
    obtain ⟨f, rfl⟩ : ∃ k, f = k + 1 := ⟨f - 1, by omega⟩
    have hw8 : w < 8 := by omega
    obtain ⟨l1, l2, l3, l4⟩ := w_len w hw8
    have r1 : τ.2 58 (nI w).toNatClampNeg = nI (mcuts.getD w 0) := by rw [nI_clamp (by omega)]; exact hC.1 w (by omega)
    have r2 : τ.2 58 (nI (w + 1)).toNatClampNeg = nI (mcuts.getD (w + 1) 0) := by rw [nI_clamp (by omega)]; exact hC.1 (w + 1) (by omega)
    have ihn := ih (w + 1) (by omega) f (by omega)
    rw [fX7_nameHere_2, if_neg (fun h => by have := (nI_leI (by decide) (by omega)).mp h; omega), if_pos h17, nI_add, zlen58, if_pos (m_zin (by omega) (by decide)), zlet_eq, r2, if_pos (m_zin (by omega) (by decide)), zlet_eq, r1, h15, h16, m_sub hs, m_sub (by omega), wrd, show mcuts.getD (w + 1) 0 - mcuts.getD w 0 = wln w from rfl]
    by_cases hc : e - s = wln w
    · rw [if_pos (show nI (e - s) = nI (wln w) by rw [hc]), fX7_nameHere_48, y_spelt_loop N hB ht hC hw8 h16 h15 hs he hc _ (wln w) 0 (by omega) N (by omega)]
      have hsp : spelt B s e w = sp B s w (wln w) 0 := by unfold spelt; rw [hc, beq_self_eq_true, Bool.true_and]
      rw [hsp]
      by_cases h2 : sp B s w (wln w) 0 = true
      · rw [if_pos h2, if_pos h2, fX7_nameHere_106, if_neg (by decide), if_neg (by omega)]
      · rw [if_neg h2, if_neg h2, fX7_nameHere_106, if_pos m_zero, nI_add]
        exact ihn
    · rw [if_neg (fun h => hc ((nI_eq (by omega) (by omega)).mp h)), fX7_nameHere_48, y_flag0 N _ _ _ N (by omega), fX7_nameHere_106, if_pos m_zero, nI_add]
      have hsp : ¬ spelt B s e w = true := by unfold spelt; rw [show (e - s == wln w) = false by simpa using hc, Bool.false_and]; decide
      rw [if_neg hsp]
      exact ihn
end WRD

/-! beds swapped; images -/
def mpsw (i j k : Nat) : Nat := if k = j then i else if k = i then j else k
theorem mpsw_inj (i j a b : Nat) (h : mpsw i j a = mpsw i j b) : a = b := by
  unfold mpsw at h
  split at h <;> split at h <;> (try split at h) <;> (try split at h) <;> omega
theorem mpsw_lt {i j k n : Nat} (hi : i < n) (hj : j < n) (hk : k < n) : mpsw i j k < n := by
  unfold mpsw
  split
  · exact hi
  · split
    · exact hj
    · exact hk
def mswap (β : mB) (i j : Nat) : mB := (β.1, fun a k => if a = 5 then β.2 5 (mpsw i j k) else β.2 a k)
theorem mswap_ok {β : mB} {i j : Nat} (hO : BOk β) (hi : i < β.1 0) (hj : j < β.1 0) : BOk (mswap β i j) := by
  obtain ⟨o0, o1, o2, o3, o4, o5, o6, o7, o8, o9⟩ := hO
  refine ⟨o0, o1, o2, o3, fun k hk => ?_, o5, o6, o7, fun a ha b hb e => ?_, ?_⟩
  · have h1 := o4 k hk
    have h2 := o4 _ (mpsw_lt hi hj hk)
    exact ⟨h1.1, h1.2.1, h1.2.2.1, h1.2.2.2.1, h2.2.2.2.2⟩
  · exact mpsw_inj i j a b (o8 _ (mpsw_lt hi hj ha) _ (mpsw_lt hi hj hb) e)
  · exact (cs_congr (β' := mswap β i j) (β := β) (T := β.2 4) (T' := β.2 4) (β.1 2) 0 (fun i hi => ⟨rfl, rfl, rfl⟩)).trans o9
theorem okp_swap (N : Nat) : ok_swap N Rel := by
  intro σ τ x1 x2 hrel
  obtain ⟨β, ⟨hO, hX, hM, n1, n2⟩, hrest⟩ := id hrel
  have b0 := hO.1
  have b1 := hO.2.1
  have b2 := hO.2.2.1
  unfold fX6_swap fX7_swap
  rw [zlet_eq, hX.1]
  by_cases hx : ∃ k, k < β.1 0 ∧ x1 = nI k
  · obtain ⟨i, hi, rfl⟩ := hx
    rw [x_below1 N (by omega) hi, Option.bind_some, if_neg z10, y_has1 N n1 (by omega) hi, Option.bind_some, if_neg z10]
    by_cases hy : ∃ k, k < β.1 0 ∧ x2 = nI k
    · obtain ⟨j, hj, rfl⟩ := hy
      rw [x_below1 N (by omega) hj, Option.bind_some, if_neg z10, y_has1 N n1 (by omega) hj, Option.bind_some, if_neg z10]
      by_cases e : i = j
      · rw [if_pos (by rw [e]), if_pos (by rw [e])]
        exact ⟨_, _, rfl, rfl, rfl, hrel⟩
      · have ne : ¬ nI i = nI j := fun h => e ((nI_eq (by omega) (by omega)).mp h)
        have hin : zin (nI i) (zlen 5) := m_zin (show i < 5 by omega) (by decide)
        have hjn : zin (nI j) (zlen 5) := m_zin (show j < 5 by omega) (by decide)
        have him : zin (nI (25 + i)) (zlen 55) := m_zin (show 25 + i < 155 by omega) (by decide)
        have hjm : zin (nI (25 + j)) (zlen 55) := m_zin (show 25 + j < 155 by omega) (by decide)
        have ri : σ.2 5 (nI i).toNatClampNeg = nI (β.2 5 i) := by rw [nI_clamp (by omega)]; exact (hX.2.2.2.2.1 i hi).2.2.2
        have rj : σ.2 5 (nI j).toNatClampNeg = nI (β.2 5 j) := by rw [nI_clamp (by omega)]; exact (hX.2.2.2.2.1 j hj).2.2.2
        have rr : upd (upd (σ.2 5) i (nI (β.2 5 j))) j (nI (β.2 5 i)) (nI i).toNatClampNeg = nI (β.2 5 j) := by
          rw [nI_clamp (by omega), zupd, if_neg e, zupd, if_pos rfl]
        rw [if_neg ne, if_neg ne, fX6_exchange, if_pos hin, zlet_eq, if_pos hjn, zlet_eq, if_pos hin, zlet_eq, if_pos hjn, zlet_eq, Option.bind_some, if_pos hin, zlet_eq, ri, rj, m_upd (show i < 2 ^ 31 by omega), m_upd (show j < 2 ^ 31 by omega), zpa_zpa, zpa_at, zpa_at, rr, y_bed N hO hM hi, Option.bind_some, y_bed N hO hM hj, Option.bind_some, nI_add, nI_add, if_pos him, zlet_eq, if_pos hjm, zlet_eq, m_upd (show 25 + i < 2 ^ 31 by omega), m_upd (show 25 + j < 2 ^ 31 by omega), zpa_zpa, zpa_at]
        have rd : ∀ e, (zpa τ 55 (upd (upd (τ.2 55) (25 + i) (nI (β.2 5 j) - nI i)) (25 + j) (nI (β.2 5 i) - nI j))).2 55 e = if e = 25 + j then nI (β.2 5 i) - nI j else if e = 25 + i then nI (β.2 5 j) - nI i else τ.2 55 e := fun e => rfl
        refine ⟨_, _, rfl, rfl, rfl, Rel_band (β' := mswap β i j) hrest ⟨mswap_ok hO hi hj, ?_, ?_, n1, n2⟩ rfl rfl (fun q _ _ _ => rfl) (fun q h1 _ => by rw [zpa_2, if_neg (by omega)]) (fun k _ => rfl) (fun q hq _ => by rw [zpa_2, if_neg hq]) (fun k h1 h2 => by rw [rd, if_neg (by omega), if_neg (by omega)])⟩
        · obtain ⟨x0, x1, x2, x3, x4, x5, x6⟩ := hX
          refine ⟨x0, x1, x2, x3, fun k hk => ⟨(x4 k hk).1, (x4 k hk).2.1, (x4 k hk).2.2.1, ?_⟩, x5, x6⟩
          show (if k = j then nI (β.2 5 i) else if k = i then nI (β.2 5 j) else σ.2 5 k) = nI (β.2 5 (mpsw i j k))
          unfold mpsw
          by_cases e1 : k = j
          · rw [if_pos e1, if_pos e1]
          · rw [if_neg e1, if_neg e1]
            by_cases e2 : k = i
            · rw [if_pos e2, if_pos e2]
            · rw [if_neg e2, if_neg e2]; exact (x4 k hk).2.2.2
        · obtain ⟨y0, y1, y2, y3, y4⟩ := hM
          refine ⟨by rw [rd, if_neg (by omega), if_neg (by omega)]; exact y0, by rw [rd, if_neg (by omega), if_neg (by omega)]; exact y1, fun k hk => ?_, fun k hk => ?_, fun k hk => ?_⟩
          · have hk : k < β.1 0 := hk
            rw [rd, rd, rd, rd, if_neg (by omega), if_neg (by omega), if_neg (by omega), if_neg (by omega), if_neg (by omega), if_neg (by omega)]
            refine ⟨(y2 k hk).1, (y2 k hk).2.1, (y2 k hk).2.2.1, ?_⟩
            show _ = nI (β.2 5 (mpsw i j k)) - nI k
            unfold mpsw
            by_cases e1 : k = j
            · rw [if_pos (by omega), if_pos e1, e1]
            · rw [if_neg (by omega), if_neg e1]
              by_cases e2 : k = i
              · rw [if_pos (by omega), if_pos e2, e2]
              · rw [if_neg (by omega), if_neg e2]; exact (y2 k hk).2.2.2
          · have hk : k < β.1 1 := hk
            rw [rd, if_neg (by omega), if_neg (by omega)]; exact y3 k hk
          · have hk : k < β.1 2 := hk
            rw [rd, if_neg (by omega), if_neg (by omega)]; exact y4 k hk
    · rw [x_below0 N (by omega) hy, y_has0 N n1 (by omega) hy]
      exact ⟨_, _, rfl, rfl, rfl, hrel⟩
  · rw [x_below0 N (by omega) hx, y_has0 N n1 (by omega) hx]
    exact ⟨_, _, rfl, rfl, rfl, hrel⟩
/-! pages copied -/
theorem y_copy_loop (N : Nat) {a b : Nat} (ha : a + 31 ≤ 155) (hb : b + 31 ≤ 155) (hab : a + 31 ≤ b ∨ b + 31 ≤ a) : ∀ d k : Nat, k + d = 31 → ∀ (m : Nat) (τ : zS), d < m → ∃ τ' : zS, fX7_copies_2 N m (nI a) (nI b) (nI k) τ = some τ' ∧ τ'.1 = τ.1 ∧ (∀ q, q ≠ 55 → τ'.2 q = τ.2 q) ∧ ∀ e, τ'.2 55 e = if b + k ≤ e ∧ e < b + 31 then τ.2 55 (a + (e - b)) else τ.2 55 e := by
  intro d
  induction d with
  | zero =>
    intro k hk m τ hm
    obtain ⟨m, rfl⟩ : ∃ k, m = k + 1 := ⟨m - 1, by omega⟩
    have e : k = 31 := by omega
    subst e
    refine ⟨τ, ?_, rfl, fun _ _ => rfl, fun e => by rw [if_neg (by omega)]⟩
    rw [fX7_copies_2, if_pos (by decide)]
  | succ d ih =>
    intro k hk m τ hm
    obtain ⟨m, rfl⟩ : ∃ k, m = k + 1 := ⟨m - 1, by omega⟩
    obtain ⟨τ', h1, h2, h3, h4⟩ := ih (k + 1) (by omega) m (zpa τ 55 (upd (τ.2 55) (b + k) (τ.2 55 (a + k)))) (by omega)
    refine ⟨τ', ?_, h2, fun q hq => by rw [h3 q hq, zpa_2, if_neg hq], fun e => ?_⟩
    · rw [fX7_copies_2, if_neg (fun h => by have := (nI_leI (by omega) (by omega)).mp h; omega), zlen55, nI_add, nI_add, if_pos (m_zin (by omega) (by decide)), zlet_eq, if_pos (m_zin (by omega) (by decide)), zlet_eq, nI_clamp (by omega), nI_clamp (by omega), nI_add]
      exact h1
    · rw [h4 e, zpa_at, zupd, zupd]
      by_cases c : b + (k + 1) ≤ e ∧ e < b + 31
      · rw [if_pos c, if_neg (show ¬ a + (e - b) = b + k by omega), if_pos (show b + k ≤ e ∧ e < b + 31 by omega)]
      · rw [if_neg c]
        by_cases c2 : e = b + k
        · rw [if_pos c2, if_pos (show b + k ≤ e ∧ e < b + 31 by omega), show a + (e - b) = a + k by omega]
        · rw [if_neg c2, if_neg (show ¬ (b + k ≤ e ∧ e < b + 31) by omega)]
theorem y_copies (N : Nat) (hN : 4000 ≤ N) {a b : Nat} (ha : a + 31 ≤ 155) (hb : b + 31 ≤ 155) (hab : a + 31 ≤ b ∨ b + 31 ≤ a) (τ : zS) : ∃ τ' : zS, fX7_copies N τ (nI a) (nI b) = some τ' ∧ τ'.1 = τ.1 ∧ (∀ q, q ≠ 55 → τ'.2 q = τ.2 q) ∧ (∀ i, i < 31 → τ'.2 55 (b + i) = τ.2 55 (a + i)) ∧ ∀ e, e < b ∨ b + 31 ≤ e → τ'.2 55 e = τ.2 55 e := by
  obtain ⟨τ', h1, h2, h3, h4⟩ := y_copy_loop N ha hb hab 31 0 (by omega) N τ (by omega)
  refine ⟨τ', h1, h2, h3, fun i hi => ?_, fun e he => ?_⟩
  · rw [h4, if_pos (show b + 0 ≤ b + i ∧ b + i < b + 31 by omega), show a + (b + i - b) = a + i by omega]
  · rw [h4, if_neg (show ¬ (b + 0 ≤ e ∧ e < b + 31) by omega)]
theorem BM_mv {τ τ' : zS} {a b : Nat} {β : mB} (hO : BOk β) (h : ∀ i, i < 31 → τ'.2 55 (b + i) = τ.2 55 (a + i)) (hM : BM τ a β) : BM τ' b β := by
  obtain ⟨b0, b1, b2, b3, -⟩ := hO
  obtain ⟨h1, h2, h3, h4, h5⟩ := hM
  refine ⟨by rw [h _ (by omega)]; exact h1, by rw [h _ (by omega)]; exact h2, fun i hi => ?_, fun i hi => ?_, fun i hi => ?_⟩
  · rw [h _ (by omega), Nat.add_assoc b, h _ (by omega), Nat.add_assoc b, h _ (by omega), Nat.add_assoc b, h _ (by omega), ← Nat.add_assoc, ← Nat.add_assoc, ← Nat.add_assoc]; exact h3 i hi
  · rw [Nat.add_assoc b, h _ (by omega), ← Nat.add_assoc]; exact h4 i hi
  · rw [Nat.add_assoc b, h _ (by omega), ← Nat.add_assoc]; exact h5 i hi
theorem x_cpy {f g : Nat → Int32} {i : Nat} {n : Nat} (hn : n < 2 ^ 31) : va_cpy f g (nI 0).toNatClampNeg (nI 0).toNatClampNeg (nI n).toNatClampNeg i = if i < n then f i else g i := by
  rw [nI_clamp (by decide), nI_clamp hn]
  unfold va_cpy
  by_cases h : i < n
  · rw [if_pos (by omega), if_pos h]; congr 1; omega
  · rw [if_neg (by omega), if_neg h]
theorem z_cond {n a b : Nat} (hn : n < 2 ^ 31) (ha : n ≤ a) (hb : n ≤ b) : ¬ ((nI 0) : Int32) < 0 ∧ ¬ ((nI 0) : Int32) < 0 ∧ ¬ ((nI n) : Int32) < 0 ∧ (nI 0).toNatClampNeg + (nI n).toNatClampNeg ≤ a ∧ (nI 0).toNatClampNeg + (nI n).toNatClampNeg ≤ b := by
  have h0 : (nI 0).toNatClampNeg = 0 := nI_clamp (by decide)
  rw [h0, nI_clamp hn, Nat.zero_add]
  exact ⟨by decide, by decide, nI_pos hn, ha, hb⟩
theorem x_copy (N : Nat) {σ : zS} {a b : Nat} {β : mB} (h1 : 42 ≤ a) (h2 : a < 46) (h3 : 42 ≤ b) (h4 : b < 46) (hab : a ≠ b) (hO : BOk β) (hX : BX σ b β) : ∃ σ' : zS, fX0_copyFrom N σ a b = some σ' ∧ BX σ' a β ∧ (∀ q, q ≠ a → σ'.1 q = σ.1 q) ∧ ∀ q, (q < 6 * (a - 42) ∨ 6 * (a - 42) + 6 ≤ q) → σ'.2 q = σ.2 q := by
  obtain ⟨za0, za1, za2, za3, za4, za5⟩ := zlen_ba h1 h2
  obtain ⟨zb0, zb1, zb2, zb3, zb4, zb5⟩ := zlen_ba h3 h4
  have c5 := z_cond (n := 5) (a := 5) (b := 5) (by decide) (by decide) (by decide)
  have c4 := z_cond (n := 4) (a := 4) (b := 4) (by decide) (by decide) (by decide)
  obtain ⟨b0, b1, b2, b3, -⟩ := hO
  obtain ⟨x0, x1, x2, x3, x4, x5, x6⟩ := hX
  have e : ∀ k l, (zba a k = zba a l) = (k = l) := fun k l => propext (by unfold zba; omega)
  have f : ∀ k l, k < 6 → l < 6 → (zba b k = zba a l) = False := fun k l hk hl => propext (by unfold zba; exact ⟨fun h => by omega, False.elim⟩)
  unfold fX0_copyFrom
  rw [za0, za1, za2, za3, za4, za5, zb0, zb1, zb2, zb3, zb4, zb5, if_pos c5, zlet_eq, if_pos c5, zlet_eq, if_pos c5, zlet_eq, if_pos c4, zlet_eq, if_pos c5, zlet_eq, if_pos c5, zlet_eq, zlet_eq, zlet_eq, zlet_eq, zlet_eq]
  refine ⟨_, rfl, ⟨?_, ?_, ?_, ?_, fun i hi => ⟨?_, ?_, ?_, ?_⟩, fun i hi => ?_, fun i hi => ?_⟩, fun q hq => ?_, fun q hq => ?_⟩
  · simp [zpf_1, zpa_1, zup, Ne.symm hab]; exact x0
  · simp [zpf_1, zpa_1, zup, Ne.symm hab]; exact x1
  · simp [zpf_1, zpa_1, zup, Ne.symm hab]; exact x2
  · simp [zpf_1, zpa_1, zup, Ne.symm hab]; exact x3
  · simp [zpf_2, zpa_2, e, f, x_cpy, show i < 5 by omega]; exact (x4 i hi).1
  · simp [zpf_2, zpa_2, e, f, x_cpy, show i < 5 by omega]; exact (x4 i hi).2.1
  · simp [zpf_2, zpa_2, e, f, x_cpy, show i < 5 by omega]; exact (x4 i hi).2.2.1
  · simp [zpf_2, zpa_2, e, f, x_cpy, show i < 5 by omega]; exact (x4 i hi).2.2.2
  · simp [zpf_2, zpa_2, e, f, x_cpy, show i < 4 by omega]; exact x5 i hi
  · simp [zpf_2, zpa_2, e, f, x_cpy, show i < 5 by omega]; exact x6 i hi
  · simp only [zpf_1, zpa_1, if_neg hq]
  · have g : ∀ l, l < 6 → (q = zba a l) = False := fun l hl => propext (by unfold zba; exact ⟨fun h => by omega, False.elim⟩)
    simp [zpf_2, zpa_2, g]
theorem zn1 : vp_nar .boolean (nI 1) = 1 := by decide
theorem z_k2 {k : Nat} (h : k < 2) : zin (nI k) 2 := m_zin h (by decide)
theorem okp_keep (N : Nat) (hN : 4000 ≤ N) : ok_keep N Rel := by
  intro σ τ x1 hrel
  obtain ⟨β, hB, hI, hT, hS, hH, hC, hF, hTn⟩ := id hrel
  obtain ⟨hO, hX, hM, n1, n2⟩ := id hB
  by_cases hx : ∃ k, 0 ≤ k ∧ k ≤ 1 ∧ x1 = nI k
  · obtain ⟨k, -, hk, rfl⟩ := hx
    have wm : fX7_in N (nI k).toInt64 0 1 = some 1 := y_in1 N (lo := 0) (hi := 1) (by omega) hk (by decide)
    have hz := z_k2 (show k < 2 by omega)
    obtain ⟨σ', e1, e2, e3, e4⟩ := x_copy N (σ := σ) (a := 44 + k) (b := 42) (by omega) (by omega) (by decide) (by decide) (by omega) hO hX
    obtain ⟨τ', f1, f2, f3, f4, f5⟩ := y_copies N hN (a := 0) (b := 31 * (k + 1)) (by omega) (by omega) (by omega) τ
    have hq : ∃ v : Int32, fX6_keep N σ (nI k) = some (v, zpa σ' 39 (upd (σ'.2 39) k 1)) ∧ fX7_keep N τ (nI k) = some (v, zpa τ' 65 (upd (τ'.2 65) k 1)) := by
      unfold fX6_keep fX7_keep fX6_keep_25 fX7_keep_37
      rw [x_within1 N (by omega) hk (by decide), Option.bind_some, if_neg z10, wm, Option.bind_some, if_neg z10, nI_add, m_mul, f1, Option.bind_some]
      simp only [if_pos hz, zlet_eq, nI_clamp (show k < 2 ^ 31 by omega), e1, Option.bind_some, f3 65 (by decide), zn1]
      rcases hI k (by omega) with ⟨a1, a2⟩ | ⟨a1, a2, -⟩
      · rw [a1, a2, if_pos rfl, if_pos rfl]
        exact ⟨_, rfl, rfl⟩
      · rw [a1, a2, if_neg z10, if_neg z10]
        exact ⟨_, rfl, rfl⟩
    obtain ⟨v, g1, g2⟩ := hq
    refine ⟨_, _, g1, g2, rfl, β, RB_eq hB (by rw [zpa_1]; exact e3 42 (by omega)) (fun q hq => by rw [zpa_2, if_neg (by omega)]; exact e4 q (by omega)) (fun i hi => by rw [zpa_2, if_neg (by decide)]; exact f5 i (by omega)) (by rw [zpa_1, f2]) (by rw [zpa_1, f2]), fun j hj => ?_, RT_eq hT (by rw [zpa_1, e3 50 (by omega)]) (by rw [zpa_1, f2]) (by rw [zpa_2, if_neg (by decide)]; exact e4 24 (by omega)) (by rw [zpa_2, if_neg (by decide)]; exact f3 57 (by decide)), RS_eq hS (by rw [zpa_1, e3 51 (by omega)]) (by rw [zpa_1, f2]) (by rw [zpa_2, if_neg (by decide)]; exact e4 25 (by omega)) (by rw [zpa_2, if_neg (by decide)]; exact e4 26 (by omega)) (by rw [zpa_2, if_neg (by decide)]; exact f3 60 (by decide)), RH_eq hH (fun q h1 h2 => by rw [zpa_1, e3 q (by omega)]) (fun q h1 h2 => by rw [zpa_2, if_neg (by omega)]; exact e4 q (by omega)) (by rw [zpa_2, if_neg (by decide)]; exact f3 62 (by decide)) (by rw [zpa_2, if_neg (by decide)]; exact f3 63 (by decide)) (by rw [zpa_2, if_neg (by decide)]; exact f3 64 (by decide)), RC_eq hC (by rw [zpa_2, if_neg (by decide)]; exact f3 58 (by decide)) (by rw [zpa_2, if_neg (by decide)]; exact f3 59 (by decide)), by rw [zpa_1, zpa_1, e3 50 (by omega), f2]; exact hF, by rw [zpa_1, zpa_1, e3 54 (by omega), f2]; exact hTn⟩
    rw [zpa_at, zpa_at, zupd, zupd]
    by_cases c : j = k
    · subst c
      rw [if_pos rfl, if_pos rfl]
      refine Or.inr ⟨rfl, rfl, β, hO, rfl, rfl, BX_eq (by rw [zpa_1]) (fun i hi => by rw [zpa_2, if_neg (by unfold zba; omega)]) e2, BM_mv (a := 0) hO (fun i hi => by rw [zpa_2, if_neg (by decide)]; exact f4 i hi) hM⟩
    · rw [if_neg c, if_neg c, e4 39 (by omega), f3 65 (by decide)]
      rcases hI j hj with h | ⟨a, b, γ, c1, c2, c3, c4, c5⟩
      · exact Or.inl h
      · exact Or.inr ⟨a, b, γ, c1, c2, c3, BX_eq (by rw [zpa_1]; exact e3 _ (by omega)) (fun i hi => by rw [zpa_2, if_neg (by unfold zba; omega)]; exact e4 _ (by unfold zba; omega)) c4, BM_eq c1 (fun i h1 h2 => by rw [zpa_2, if_neg (by decide)]; exact f5 i (by omega)) c5⟩
  · have wm : fX7_in N x1.toInt64 0 1 = some 0 := y_in0 N (lo := 0) (hi := 1) (by decide) (by decide) hx
    unfold fX6_keep fX7_keep
    rw [x_within0 N (by decide) (by decide) hx, Option.bind_some, if_pos rfl, wm, Option.bind_some, if_pos rfl]
    exact ⟨_, _, rfl, rfl, rfl, hrel⟩
theorem okp_back (N : Nat) (hN : 4000 ≤ N) : ok_back N Rel := by
  intro σ τ x1 hrel
  obtain ⟨β, ⟨hO, hX, hM, n1, n2⟩, hrest⟩ := id hrel
  unfold fX6_back fX7_back
  by_cases hx : ∃ k, 0 ≤ k ∧ k ≤ 1 ∧ x1 = nI k
  · obtain ⟨k, -, hk, rfl⟩ := hx
    have wm : fX7_in N (nI k).toInt64 0 1 = some 1 := y_in1 N (lo := 0) (hi := 1) (by omega) hk (by decide)
    have hz := z_k2 (show k < 2 by omega)
    rw [x_within1 N (by omega) hk (by decide), Option.bind_some, if_neg z10, wm, Option.bind_some, if_neg z10]
    simp only [if_pos hz, zlet_eq, nI_clamp (show k < 2 ^ 31 by omega)]
    rcases hrest.1 k (by omega) with ⟨a1, a2⟩ | ⟨a1, a2, γ, c1, c2, c3, c4, c5⟩
    · rw [a1, a2, if_pos rfl, if_pos rfl]
      exact ⟨_, _, rfl, rfl, rfl, hrel⟩
    · obtain ⟨σ', e1, e2, e3, e4⟩ := x_copy N (σ := σ) (a := 42) (b := 44 + k) (by decide) (by decide) (by omega) (by omega) (by omega) c1 c4
      obtain ⟨τ', f1, f2, f3, f4, f5⟩ := y_copies N hN (a := 31 * (k + 1)) (b := 0) (by omega) (by omega) (by omega) τ
      have hM' : BM τ' 0 γ := BM_mv c1 f4 c5
      rw [a1, a2, if_neg z10, if_neg z10, e1, Option.bind_some, nI_add, m_mul, f1, Option.bind_some, if_pos z24, y_at24 hM']
      exact ⟨_, _, rfl, rfl, e2.2.2.1, Rel_band (β' := γ) hrest ⟨c1, e2, hM', by rw [f2, c2]; exact n1, by rw [f2, c3]; exact n2⟩ c2 c3 (fun q h1 _ _ => e3 q h1) (fun q h1 _ => e4 q (by omega)) (fun k _ => by rw [f2]) (fun q hq _ => f3 q hq) (fun i h1 h2 => f5 i (by omega))⟩
  · have wm : fX7_in N x1.toInt64 0 1 = some 0 := y_in0 N (lo := 0) (hi := 1) (by decide) (by decide) hx
    rw [x_within0 N (by decide) (by decide) hx, Option.bind_some, if_pos rfl, wm, Option.bind_some, if_pos rfl]
    exact ⟨_, _, rfl, rfl, rfl, hrel⟩

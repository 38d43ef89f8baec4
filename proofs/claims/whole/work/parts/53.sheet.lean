/-! sheets -/
theorem zlen_sa {k : Nat} (h : k < 4) : zlen (zsa (46 + k)) = 40 ∧ zsa (46 + k) = 35 + k := by
  rcases (show k = 0 ∨ k = 1 ∨ k = 2 ∨ k = 3 by omega) with rfl | rfl | rfl | rfl <;> decide
theorem x_renew_loop (N : Nat) {k : Nat} (hk : k < 4) : ∀ d i : Nat, i + d = 40 → ∀ (m : Nat) (σ : zS), d < m → ∃ σ' : zS, fX3_renew_12 N m (46 + k) (nI i) σ = some σ' ∧ σ'.1 = σ.1 ∧ (∀ q, q ≠ 35 + k → σ'.2 q = σ.2 q) ∧ ∀ e, e < 40 → σ'.2 (35 + k) e = if i ≤ e then 0 else σ.2 (35 + k) e := by
  obtain ⟨z1, z2⟩ := zlen_sa hk
  intro d
  induction d with
  | zero =>
    intro i hi m σ hm
    obtain ⟨m, rfl⟩ : ∃ k, m = k + 1 := ⟨m - 1, by omega⟩
    have e : i = 40 := by omega
    subst e
    refine ⟨σ, ?_, rfl, fun _ _ => rfl, fun e he => by rw [if_neg (by omega)]⟩
    rw [fX3_renew_12, if_pos (by decide)]
  | succ d ih =>
    intro i hi m σ hm
    obtain ⟨m, rfl⟩ : ∃ k, m = k + 1 := ⟨m - 1, by omega⟩
    obtain ⟨σ', h1, h2, h3, h4⟩ := ih (i + 1) (by omega) m (zpa σ (35 + k) (upd (σ.2 (35 + k)) i (nI 0))) (by omega)
    refine ⟨σ', ?_, h2, fun q hq => by rw [h3 q hq, zpa_2, if_neg hq], fun e he => ?_⟩
    · rw [fX3_renew_12, if_neg (fun h => by have := (nI_leI (by omega) (by omega)).mp h; omega), z1, if_pos (m_zin (by omega) (by decide)), zlet_eq, nI_clamp (by omega), z2, nI_add]
      exact h1
    · rw [h4 e he, zpa_at, zupd]
      by_cases c : i + 1 ≤ e
      · rw [if_pos c, if_pos (by omega)]
      · rw [if_neg c]
        by_cases c2 : e = i
        · rw [if_pos c2, if_pos (by omega)]; rfl
        · rw [if_neg c2, if_neg (by omega)]
theorem y_sheet_loop (N : Nat) {k : Nat} (hk : k < 4) : ∀ d i : Nat, i + d = 40 → ∀ (m : Nat) (τ : zS), d < m → ∃ τ' : zS, fX7_sheet_56 N m (nI k) (nI i) τ = some (nI 1, τ') ∧ τ'.1 = τ.1 ∧ (∀ q, q ≠ 64 → τ'.2 q = τ.2 q) ∧ ∀ e, τ'.2 64 e = if 40 * k + i ≤ e ∧ e < 40 * k + 40 then 0 else τ.2 64 e := by
  intro d
  induction d with
  | zero =>
    intro i hi m τ hm
    obtain ⟨m, rfl⟩ : ∃ k, m = k + 1 := ⟨m - 1, by omega⟩
    have e : i = 40 := by omega
    subst e
    refine ⟨τ, ?_, rfl, fun _ _ => rfl, fun e => by rw [if_neg (by omega)]⟩
    rw [fX7_sheet_56, if_pos (by decide)]
  | succ d ih =>
    intro i hi m τ hm
    obtain ⟨m, rfl⟩ : ∃ k, m = k + 1 := ⟨m - 1, by omega⟩
    obtain ⟨τ', h1, h2, h3, h4⟩ := ih (i + 1) (by omega) m (zpa τ 64 (upd (τ.2 64) (40 * k + i) (nI 0))) (by omega)
    refine ⟨τ', ?_, h2, fun q hq => by rw [h3 q hq, zpa_2, if_neg hq], fun e => ?_⟩
    · rw [fX7_sheet_56, if_neg (fun h => by have := (nI_leI (by omega) (by omega)).mp h; omega), m_mul, nI_add, if_pos (m_zin (show 40 * k + i < zlen 64 from (show 40 * k + i < 160 by omega)) (by decide)), zlet_eq, nI_clamp (by omega), nI_add]
      exact h1
    · rw [h4 e, zpa_at, zupd]
      by_cases c : 40 * k + (i + 1) ≤ e ∧ e < 40 * k + 40
      · rw [if_pos c, if_pos (show 40 * k + i ≤ e ∧ e < 40 * k + 40 by omega)]
      · rw [if_neg c]
        by_cases c2 : e = 40 * k + i
        · rw [if_pos c2, if_pos (show 40 * k + i ≤ e ∧ e < 40 * k + 40 by omega)]; rfl
        · rw [if_neg c2, if_neg (show ¬ (40 * k + i ≤ e ∧ e < 40 * k + 40) by omega)]
/-- what a call that touches sheets alone keeps -/
theorem Rel_sheet {σ σ' τ τ' : zS} (h : Rel σ τ) (hH : RH σ' τ') (f1 : ∀ q, q < 46 ∨ 50 ≤ q → σ'.1 q = σ.1 q) (f2 : ∀ q, q < 35 ∨ 39 ≤ q → σ'.2 q = σ.2 q) (g1 : τ'.1 = τ.1) (g2 : ∀ q, q < 62 ∨ 65 ≤ q → τ'.2 q = τ.2 q) : Rel σ' τ' := by
  obtain ⟨β, hB, hI, hT, hS, -, hC, hF, hTn⟩ := h
  exact ⟨β, RB_eq hB (f1 42 (by omega)) (fun q hq => f2 q (by omega)) (fun i _ => by rw [g2 55 (by omega)]) (by rw [g1]) (by rw [g1]), RI_eq hI (f2 39 (by omega)) (fun q _ _ => f1 q (by omega)) (fun q _ _ => f2 q (by omega)) (g2 65 (by omega)) (fun i _ _ => by rw [g2 55 (by omega)]), RT_eq hT (by rw [f1 50 (by omega)]) (by rw [g1]) (f2 24 (by omega)) (g2 57 (by omega)), RS_eq hS (by rw [f1 51 (by omega)]) (by rw [g1]) (f2 25 (by omega)) (f2 26 (by omega)) (g2 60 (by omega)), hH, RC_eq hC (g2 58 (by omega)) (g2 59 (by omega)), by rw [f1 50 (by omega), g1]; exact hF, by rw [f1 54 (by omega), g1]; exact hTn⟩
theorem okp_sheet (N : Nat) (hN : 4000 ≤ N) : ok_sheet N Rel := by
  intro σ τ x1 x2 x3 hrel
  obtain ⟨β, hB, hI, hT, hS, hH, hC, hF, hTn⟩ := id hrel
  unfold fX6_sheet fX7_sheet
  by_cases hx : ∃ k, 0 ≤ k ∧ k ≤ 3 ∧ x1 = nI k
  · obtain ⟨k, -, hk, rfl⟩ := hx
    have wm : fX7_in N (nI k).toInt64 0 3 = some 1 := y_in1 N (lo := 0) (hi := 3) (by omega) hk (by decide)
    rw [x_within1 N (by omega) hk (by decide), Option.bind_some, if_neg z10, wm, Option.bind_some, if_neg z10]
    by_cases hy : ∃ k, 0 ≤ k ∧ k ≤ 2 ∧ x2 = nI k
    · obtain ⟨a, -, ha, rfl⟩ := hy
      have wm : fX7_in N (nI a).toInt64 0 2 = some 1 := y_in1 N (lo := 0) (hi := 2) (by omega) ha (by decide)
      rw [x_within1 N (by omega) ha (by decide), Option.bind_some, if_neg z10, wm, Option.bind_some, if_neg z10]
      by_cases h40 : x3 ≤ nI 40
      · rw [if_pos h40, if_pos h40]
        by_cases h0 : 0 ≤ x3
        · obtain ⟨n, -, hn, rfl⟩ := m_rng (lo := 0) (hi := 40) (by decide) ⟨⟨h0, h40⟩, by decide⟩
          have hz4 : zin (nI k) 4 := m_zin (by omega) (by decide)
          obtain ⟨σ', e1, e2, e3, e4⟩ := x_renew_loop N (k := k) (by omega) 40 0 (by omega) N (zpf (zpf σ (46 + k) 1 (nI a)) (46 + k) 2 (nI n)) (by omega)
          obtain ⟨τ', f1, f2, f3, f4⟩ := y_sheet_loop N (k := k) (by omega) 40 0 (by omega) N (zpa (zpa τ 62 (upd (τ.2 62) k (nI a))) 63 (upd (τ.2 63) k (nI n))) (by omega)
          have gx : fX3_renew N σ (46 + (nI k).toNatClampNeg) (nI a) (nI n) = some σ' := by
            unfold fX3_renew
            rw [zlet_eq, zlet_eq, nI_clamp (by omega)]
            exact e1
          have gm : fX7_sheet_56 N N (nI k) (nI 0) (zpa (zpa τ 62 (upd (τ.2 62) (nI k).toNatClampNeg (nI a))) 63 (upd ((zpa τ 62 (upd (τ.2 62) (nI k).toNatClampNeg (nI a))).2 63) (nI k).toNatClampNeg (nI n))) = some (nI 1, τ') := by
            rw [nI_clamp (by omega)]
            exact f1
          rw [if_pos h0, if_pos h0, if_pos hz4, gx, Option.bind_some, if_pos (show zin (nI k) (zlen 62) from hz4), zlet_eq, if_pos (show zin (nI k) (zlen 63) from hz4), zlet_eq, gm]
          refine ⟨_, _, rfl, rfl, rfl, Rel_sheet hrel (fun j hj => ?_) (fun q hq => by rw [e2, zpf_1, if_neg (by omega), zpf_1, if_neg (by omega)]) (fun q hq => by rw [e3 q (by omega)]; rfl) (by rw [f2]; rfl) (fun q hq => by rw [f3 q (by omega), zpa_2, if_neg (by omega), zpa_2, if_neg (by omega)])⟩
          have r62 : τ'.2 62 j = if j = k then nI a else τ.2 62 j := by rw [f3 62 (by decide)]; rfl
          have r63 : τ'.2 63 j = if j = k then nI n else τ.2 63 j := by rw [f3 63 (by decide)]; rfl
          by_cases c : j = k
          · subst c
            refine ⟨Or.inr ⟨a, ha, ?_, by rw [r62, if_pos rfl]⟩, n, hn, ?_, by rw [r63, if_pos rfl], fun i hi => ?_⟩
            · rw [e2, zpf_1, if_pos rfl, zup, if_neg (by decide), zpf_1, if_pos rfl, zup, if_pos rfl]
            · rw [e2, zpf_1, if_pos rfl, zup, if_pos rfl]
            · rw [e4 i (by omega), if_pos (by omega), f4, if_pos (by omega)]
          · obtain ⟨hl, m, hm, s1, s2, s3⟩ := hH j hj
            have q1 : σ'.1 (46 + j) = σ.1 (46 + j) := by rw [e2, zpf_1, if_neg (by omega), zpf_1, if_neg (by omega)]
            refine ⟨by rw [q1, r62, if_neg c]; exact hl, m, hm, by rw [q1]; exact s1, by rw [r63, if_neg c]; exact s2, fun i hi => ?_⟩
            rw [e3 (35 + j) (by omega), f4, if_neg (by omega)]
            exact s3 i hi
        · rw [if_neg h0, if_neg h0]
          exact ⟨_, _, rfl, rfl, rfl, hrel⟩
      · rw [if_neg h40, if_neg h40]
        exact ⟨_, _, rfl, rfl, rfl, hrel⟩
    · have wm : fX7_in N x2.toInt64 0 2 = some 0 := y_in0 N (lo := 0) (hi := 2) (by decide) (by decide) hy
      rw [x_within0 N (by decide) (by decide) hy, Option.bind_some, if_pos rfl, wm, Option.bind_some, if_pos rfl]
      exact ⟨_, _, rfl, rfl, rfl, hrel⟩
  · have wm : fX7_in N x1.toInt64 0 3 = some 0 := y_in0 N (lo := 0) (hi := 3) (by decide) (by decide) hx
    rw [x_within0 N (by decide) (by decide) hx, Option.bind_some, if_pos rfl, wm, Option.bind_some, if_pos rfl]
    exact ⟨_, _, rfl, rfl, rfl, hrel⟩
/-- one cell written on both sides -/
theorem RH_put {σ τ : zS} {k p : Nat} {v : Int32} (hH : RH σ τ) (hk : k < 4) (hp : p < 40) : RH (zpa σ (35 + k) (upd (σ.2 (35 + k)) p v)) (zpa τ 64 (upd (τ.2 64) (40 * k + p) v)) := by
  intro j hj
  obtain ⟨hl, m, hm, s1, s2, s3⟩ := hH j hj
  refine ⟨hl, m, hm, s1, s2, fun i hi => ?_⟩
  rw [zpa_at, zupd, zpa_2]
  by_cases c : j = k
  · subst c
    rw [if_pos rfl, zupd]
    by_cases c2 : i = p
    · rw [if_pos c2, if_pos (by omega)]
    · rw [if_neg c2, if_neg (by omega)]; exact s3 i hi
  · rw [if_neg (by omega), if_neg (by omega)]; exact s3 i hi
theorem okp_lay (N : Nat) (hN : 4000 ≤ N) : ok_lay N Rel := by
  intro σ τ x1 x2 x3 hrel
  obtain ⟨β, hB, hI, hT, hS, hH, hC, hF, hTn⟩ := id hrel
  by_cases hx : ∃ k, 0 ≤ k ∧ k ≤ 3 ∧ x1 = nI k
  · obtain ⟨k, -, hk, rfl⟩ := hx
    have wm : fX7_in N (nI k).toInt64 0 3 = some 1 := y_in1 N (lo := 0) (hi := 3) (by omega) hk (by decide)
    have hz4 : zin (nI k) 4 := m_zin (by omega) (by decide)
    have hc : (nI k).toNatClampNeg = k := nI_clamp (by omega)
    obtain ⟨hl, m, hm, s1, s2, s3⟩ := hH k (by omega)
    obtain ⟨z1, z2⟩ := zlen_sa (k := k) (by omega)
    have ex0 : fX6_lay N σ (nI k) x2 x3 = (fX3_faultAt N σ (46 + k) x2).bind fun q4 => if q4 = 0 then (fX3_put N σ (46 + k) x2 x3).bind fun q7 => some (nI 1, q7) else some ((-10) - q4, σ) := by
      unfold fX6_lay
      rw [x_within1 N (by omega) hk (by decide), Option.bind_some, if_neg z10, if_pos hz4]
      simp only [if_pos hz4, hc]
    rcases hl with ⟨l1, l2⟩ | ⟨a, ha, l1, l2⟩
    · have em : fX7_lay N τ (nI k) x2 x3 = some (-11, τ) := by
        unfold fX7_lay
        rw [wm, Option.bind_some, if_neg z10, if_pos (show zin (nI k) (zlen 62) from hz4), zlet_eq]
        simp only [hc]
        rw [l2, if_pos rfl]
      rw [ex0, em, fX3_faultAt, l1, if_pos rfl, Option.bind_some, if_neg (by decide)]
      exact ⟨_, _, rfl, rfl, rfl, hrel⟩
    · have hna : ¬ nI a = (-4 : Int32) := m_neg_lt (by omega) _ (by decide)
      have hna1 : ¬ nI a = (-1 : Int32) := m_neg_lt (by omega) _ (by decide)
      by_cases hp : ∃ p, p < m ∧ x2 = nI p
      · obtain ⟨p, hp, rfl⟩ := hp
        have hzp : zin (nI p) (zlen (zsa (46 + k))) := by rw [z1]; exact m_zin (by omega) (by decide)
        have hzq : zin (nI p) (zlen (35 + k)) := by rw [← z2]; exact hzp
        have hcp : (nI p).toNatClampNeg = p := nI_clamp (by omega)
        have hz64 : zin (nI (40 * k + p)) (zlen 64) := m_zin (show 40 * k + p < 160 by omega) (by decide)
        have hv : ∃ v : Int32, fX3_put N σ (46 + k) (nI p) x3 = some (zpa σ (35 + k) (upd (σ.2 (35 + k)) p v)) ∧ fX7_lay N τ (nI k) (nI p) x3 = some (nI 1, zpa τ 64 (upd (τ.2 64) (40 * k + p) v)) := by
          unfold fX3_put fX7_lay
          rw [l1, wm, Option.bind_some, if_neg z10, if_pos (show zin (nI k) (zlen 62) from hz4), zlet_eq]
          simp only [if_pos (show zin (nI k) (zlen 62) from hz4), if_pos (show zin (nI k) (zlen 63) from hz4), if_pos hzp, if_pos hzq, zlet_eq, hc, l2, s2, hcp, z2, if_neg hna, y_below1 N (show m < 2 ^ 30 by omega) hp, Option.bind_some, if_neg z10, m_mul, nI_add, fX7_lay_99, if_pos hz64, nI_clamp (show 40 * k + p < 2 ^ 31 by omega), z_sh8, z_sh16]
          rcases (show a = 0 ∨ a = 1 ∨ a = 2 by omega) with rfl | rfl | rfl
          · rw [if_pos m_zero, if_pos m_zero]; exact ⟨_, rfl, rfl⟩
          · rw [if_neg (show ¬ nI 1 = 0 by decide), if_pos rfl, if_neg (show ¬ nI 1 = 0 by decide), if_pos rfl]; exact ⟨_, rfl, rfl⟩
          · rw [if_neg (show ¬ nI 2 = 0 by decide), if_neg (show ¬ nI 2 = nI 1 by decide), if_neg (show ¬ nI 2 = 0 by decide), if_neg (show ¬ nI 2 = nI 1 by decide)]; exact ⟨_, rfl, rfl⟩
        obtain ⟨v, v1, v2⟩ := hv
        rw [ex0, fX3_faultAt, l1, if_neg hna1, s1, x_below1 N (by omega) hp, Option.bind_some, if_neg z10, Option.bind_some, if_pos m_zero, v1, v2, Option.bind_some]
        exact ⟨_, _, rfl, rfl, rfl, Rel_sheet hrel (RH_put hH (by omega) (by omega)) (fun q _ => rfl) (fun q hq => by rw [zpa_2, if_neg (by omega)]) rfl (fun q hq => by rw [zpa_2, if_neg (by omega)])⟩
      · have em : fX7_lay N τ (nI k) x2 x3 = some (-12, τ) := by
          unfold fX7_lay
          rw [wm, Option.bind_some, if_neg z10, if_pos (show zin (nI k) (zlen 62) from hz4), zlet_eq]
          simp only [if_pos (show zin (nI k) (zlen 62) from hz4), if_pos (show zin (nI k) (zlen 63) from hz4), zlet_eq, hc, l2, s2, if_neg hna, y_below0 N (show m < 2 ^ 30 by omega) hp, Option.bind_some]
          rw [if_pos trivial]
        rw [ex0, em, fX3_faultAt, l1, if_neg hna1, s1, x_below0 N (by omega) hp, Option.bind_some, if_pos rfl, Option.bind_some, if_neg (by decide)]
        exact ⟨_, _, rfl, rfl, rfl, hrel⟩
  · have wm : fX7_in N x1.toInt64 0 3 = some 0 := y_in0 N (lo := 0) (hi := 3) (by decide) (by decide) hx
    unfold fX6_lay fX7_lay
    rw [x_within0 N (by decide) (by decide) hx, Option.bind_some, if_pos rfl, wm, Option.bind_some, if_pos rfl]
    exact ⟨_, _, rfl, rfl, rfl, hrel⟩

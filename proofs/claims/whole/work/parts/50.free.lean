/-! who may climb; beds swapped; a beast -/
def mcanB (β : mB) (b : Nat) : Bool := !((mbits (β.2 4) (β.1 2)).testBit b) && cs β (β.2 4) (β.1 2) (β.2 1 b)
theorem mcanB_iff {β : mB} {b : Nat} : mcanB β b = true ↔ mcan β b := by
  unfold mcanB mcan
  rw [Bool.and_eq_true, Bool.not_eq_true', mbits_no]
def mfree (β : mB) : Nat → Nat
  | 0 => 0
  | b + 1 => if mcanB β b = true then mfree β b ||| 2 ^ b else mfree β b
theorem x_free_loop (N : Nat) (hN : 4000 ≤ N) {σ : zS} {β : mB} (hO : BOk β) (hX : BX σ 42 β) : ∀ d i : Nat, i + d = β.1 0 → ∀ m : Nat, d < m → fX6_free_4 N σ m (nI (mfree β i)) (nI i) = some (nI (mfree β (β.1 0))) := by
  have b0 := hO.1
  intro d
  induction d with
  | zero =>
    intro i hi m hm
    obtain ⟨m, rfl⟩ : ∃ k, m = k + 1 := ⟨m - 1, by omega⟩
    have e : i = β.1 0 := by omega
    subst e
    rw [fX6_free_4, hX.1, if_pos ((nI_leI (by omega) (by omega)).mpr (Nat.le_refl _))]
  | succ d ih =>
    intro i hi m hm
    obtain ⟨m, rfl⟩ : ∃ k, m = k + 1 := ⟨m - 1, by omega⟩
    obtain ⟨h1, h0⟩ := x_canClimb N hN hO hX (show i < β.1 0 by omega)
    have ihn := ih (i + 1) (by omega) m (by omega)
    rw [fX6_free_4, hX.1, if_neg (fun h => by have := (nI_leI (by omega) (by omega)).mp h; omega)]
    by_cases hc : mcan β i
    · rw [mfree, if_pos (mcanB_iff.mpr hc)] at ihn
      rw [h1 hc, Option.bind_some, if_neg (by decide), zlet_eq, fX6_free_32, m_bit (by omega), m_or, nI_add]
      exact ihn
    · rw [mfree, if_neg (fun h => hc (mcanB_iff.mp h))] at ihn
      rw [h0 hc, Option.bind_some, if_pos rfl, fX6_free_32, nI_add]
      exact ihn
theorem y_free_loop (N : Nat) (hN : 4000 ≤ N) {β : mB} (hO : BOk β) : ∀ d i : Nat, i + d = β.1 0 → ∀ (m : Nat) (τ : zS), d < m → BM τ 0 β → τ.1 66 1 = nI (β.1 0) → ∃ τ' : zS, fX7_free_4 N m (nI (mfree β i)) (nI i) τ = some (nI (mfree β (β.1 0)), τ') ∧ τ'.1 = τ.1 ∧ (∀ q, q ≠ 55 → τ'.2 q = τ.2 q) ∧ ∀ e, e ≠ 19 + β.1 2 ∨ β.1 2 = 5 → τ'.2 55 e = τ.2 55 e := by
  have b0 := hO.1
  have b2 := hO.2.2.1
  intro d
  induction d with
  | zero =>
    intro i hi m τ hm hM n1
    obtain ⟨m, rfl⟩ : ∃ k, m = k + 1 := ⟨m - 1, by omega⟩
    have e : i = β.1 0 := by omega
    subst e
    refine ⟨τ, ?_, rfl, fun _ _ => rfl, fun _ _ => rfl⟩
    rw [fX7_free_4, n1, if_pos ((nI_leI (by omega) (by omega)).mpr (Nat.le_refl _))]
  | succ d ih =>
    intro i hi m τ hm hM n1
    obtain ⟨m, rfl⟩ : ∃ k, m = k + 1 := ⟨m - 1, by omega⟩
    have hb : i < β.1 0 := by omega
    obtain ⟨q1, q0⟩ := y_climbs N hN hO hM n1 hb
    rw [fX7_free_4, n1, if_neg (fun h => by have := (nI_leI (by omega) (by omega)).mp h; omega)]
    by_cases hc : mcan β i
    · have hl := mcan_lt hO hb hc.1
      have e24 := y_at24 hM
      rw [nI_clamp (by decide)] at e24
      have r24 : (zpa τ 55 (upd (upd (τ.2 55) (19 + β.1 2) (nI i)) 24 (nI (β.1 2 + 1)))).2 55 (nI 24).toNatClampNeg = nI (β.1 2 + 1) := by
        rw [zpa_at, zupd, nI_clamp (by decide), if_pos rfl]
      have hk : ∀ e, e ≠ 19 + β.1 2 ∨ β.1 2 = 5 → (zpa τ 55 (upd (upd (upd (τ.2 55) (19 + β.1 2) (nI i)) 24 (nI (β.1 2 + 1))) 24 (nI (β.1 2)))).2 55 e = τ.2 55 e := by
        intro e he
        rw [zpa_at, zupd, zupd, zupd]
        by_cases h24 : e = 24
        · rw [if_pos h24, h24]; exact e24.symm
        · rw [if_neg h24, if_neg h24, if_neg (by omega)]
      obtain ⟨τ', h1, h2, h3, h4⟩ := ih (i + 1) (by omega) m (zpa τ 55 (upd (upd (upd (τ.2 55) (19 + β.1 2) (nI i)) 24 (nI (β.1 2 + 1))) 24 (nI (β.1 2)))) (by omega) (BM_fail hO hM hk) n1
      refine ⟨τ', ?_, h2, fun q hq => by rw [h3 q hq, zpa_2, if_neg hq], fun e he => by rw [h4 e he, hk e he]⟩
      rw [mfree, if_pos (mcanB_iff.mpr hc)] at h1
      rw [q1 hc, Option.bind_some]
      dsimp only
      rw [if_neg (show ¬ nI (β.1 2 + 1) ≤ 0 from nI_nle (by omega) (by omega)), if_pos z24, zlet_eq, r24, if_pos z24, zlet_eq, m_upd (show 24 < 2 ^ 31 by decide), zpa_zpa, zpa_at, m_s1, zlet_eq, fX7_free_37, m_bit (by omega), m_or, nI_add]
      exact h1
    · obtain ⟨τ1, e1, e2, e3, e4⟩ := q0 hc
      obtain ⟨τ', h1, h2, h3, h4⟩ := ih (i + 1) (by omega) m τ1 (by omega) (BM_fail hO hM e4) (by rw [e2]; exact n1)
      refine ⟨τ', ?_, by rw [h2, e2], fun q hq => by rw [h3 q hq, e3 q hq], fun e he => by rw [h4 e he, e4 e he]⟩
      rw [mfree, if_neg (fun h => hc (mcanB_iff.mp h))] at h1
      rw [e1, Option.bind_some]
      dsimp only
      rw [if_pos (by decide), fX7_free_37, nI_add]
      exact h1
theorem okp_free (N : Nat) (hN : 4000 ≤ N) : ok_free N Rel := by
  intro σ τ hrel
  obtain ⟨β, ⟨hO, hX, hM, n1, n2⟩, hrest⟩ := id hrel
  have b0 := hO.1
  have b2 := hO.2.2.1
  obtain ⟨τ', e1, e2, e3, e4⟩ := y_free_loop N hN hO (β.1 0) 0 (by omega) N τ (by omega) hM n1
  exact ⟨_, _, x_free_loop N hN hO hX (β.1 0) 0 (by omega) N (by omega), e1, rfl, Rel_band (β' := β) hrest ⟨hO, hX, BM_fail hO hM e4, by rw [e2]; exact n1, by rw [e2]; exact n2⟩ rfl rfl (fun q _ _ _ => rfl) (fun q _ _ => rfl) (fun k _ => by rw [e2]) (fun q hq _ => e3 q hq) (fun i h1 h2 => e4 i (by omega))⟩
theorem x_place_loop (N : Nat) {σ : zS} {row sz q : Nat} {T : Nat → Nat} (hs : sz ≤ zlen row) (hl : zlen row ≤ 1000) (hq : q < 2 ^ 31) (hT : ∀ i, i < sz → σ.2 row i = nI (T i) ∧ T i < 1000) : ∀ d i : Nat, i + d = sz → ∀ m : Nat, d < m → fX6_placeIn_2 N σ m row (nI sz) (nI q) (nI i) = some (mopt (mfind T q d i)) := by
  intro d
  induction d with
  | zero =>
    intro i hi m hm
    obtain ⟨m, rfl⟩ : ∃ k, m = k + 1 := ⟨m - 1, by omega⟩
    rw [fX6_placeIn_2, if_pos ((nI_leI (by omega) (by omega)).mpr (by omega))]
    rfl
  | succ d ih =>
    intro i hi m hm
    obtain ⟨m, rfl⟩ : ∃ k, m = k + 1 := ⟨m - 1, by omega⟩
    obtain ⟨r1, r2⟩ := hT i (by omega)
    rw [fX6_placeIn_2, if_neg (fun h => by have := (nI_leI (by omega) (by omega)).mp h; omega), if_pos (m_zin (by omega) (by omega)), zlet_eq, nI_clamp (by omega), r1, mfind]
    by_cases hc : T i = q
    · rw [if_pos ((nI_eq (by omega) hq).mpr hc), if_pos hc]; rfl
    · rw [if_neg (fun h => hc ((nI_eq (by omega) hq).mp h)), if_neg hc, nI_add]
      exact ih (i + 1) (by omega) m (by omega)
theorem y_bedOf_loop (N : Nat) {τ : zS} {β : mB} (hO : BOk β) (hM : BM τ 0 β) (n1 : τ.1 66 1 = nI (β.1 0)) {q : Nat} (hq : q < 2 ^ 31) : ∀ d i : Nat, i + d = β.1 0 → ∀ (m : Nat) (x : Int32), d < m → ((∀ j, i ≤ j → j < β.1 0 → β.2 5 j ≠ q) ∨ x = -4) → fX7_bedOf_5 N τ m (nI q) x (nI i) = some (match mfind (β.2 5) q d i with | some j => nI j | none => x) := by
  have b0 := hO.1
  intro d
  induction d with
  | zero =>
    intro i hi m x hm hx
    obtain ⟨m, rfl⟩ : ∃ k, m = k + 1 := ⟨m - 1, by omega⟩
    rw [fX7_bedOf_5, n1, if_pos ((nI_leI (by omega) (by omega)).mpr (by omega))]
    rfl
  | succ d ih =>
    intro i hi m x hm hx
    obtain ⟨m, rfl⟩ : ∃ k, m = k + 1 := ⟨m - 1, by omega⟩
    have hd := (hO.2.2.2.2.1 i (by omega)).2.2.2.2
    rw [fX7_bedOf_5, n1, if_neg (fun h => by have := (nI_leI (by omega) (by omega)).mp h; omega), y_bed N hO hM (show i < β.1 0 by omega), Option.bind_some, mfind]
    by_cases hc : β.2 5 i = q
    · have hno : ∀ j, i + 1 ≤ j → j < β.1 0 → β.2 5 j ≠ q := fun j h1 h2 e => by
        have := hO.2.2.2.2.2.2.2.2.1 i (by omega) j h2 (by omega)
        omega
      rw [if_pos ((nI_eq (by omega) hq).mpr hc), if_pos hc, fX7_bedOf_27, nI_add, ih (i + 1) (by omega) m (nI i) (by omega) (Or.inl hno), (mfind_none (β.2 5) q d (i + 1)).mpr (fun j h1 h2 => hno j h1 (by omega))]
    · rw [if_neg (fun h => hc ((nI_eq (by omega) hq).mp h)), if_neg hc, fX7_bedOf_27, nI_add]
      exact ih (i + 1) (by omega) m x (by omega) (hx.imp (fun h j h1 h2 => h j (by omega) h2) id)
theorem okp_beast (N : Nat) (hN : 4000 ≤ N) : ok_beast N Rel := by
  intro σ τ x1 x2 hrel
  obtain ⟨β, ⟨hO, hX, hM, n1, n2⟩, hrest⟩ := id hrel
  have b0 := hO.1
  have b2 := hO.2.2.1
  unfold fX6_beast fX7_beast
  by_cases hx : ∃ k, k < β.1 0 ∧ x1 = nI k
  · obtain ⟨b, hb, rfl⟩ := hx
    have hin : zin (nI b) 5 := m_zin (by omega) (by decide)
    have r := hX.2.2.2.2.1 b hb
    have s := hM.2.2.1 b hb
    rw [x_has1 N hX.1 (by omega) hb, Option.bind_some, if_neg z10, y_has1 N n1 (by omega) hb, Option.bind_some, if_neg z10]
    by_cases c0 : x2 = nI 0
    · subst c0
      have s0 := s.1
      rw [Nat.zero_add] at s0
      rw [if_pos rfl, if_pos rfl, show zlen 0 = 5 from rfl, if_pos hin, zlet_eq, nI_clamp (by omega), zlen55, m_mul, nI_add, if_pos (m_zin (by omega) (by decide)), zlet_eq, nI_clamp (by omega), show 5 * 0 + b = b by omega, s0]
      exact ⟨_, _, rfl, rfl, r.1, hrel⟩
    rw [if_neg c0, if_neg c0]
    by_cases c1 : x2 = nI 1
    · subst c1
      have s0 := s.2.1
      rw [Nat.zero_add] at s0
      rw [if_pos rfl, if_pos rfl, show zlen 1 = 5 from rfl, if_pos hin, zlet_eq, nI_clamp (by omega), zlen55, m_mul, nI_add, if_pos (m_zin (by omega) (by decide)), zlet_eq, nI_clamp (by omega), show 5 * 1 + b = 5 + b by omega, s0]
      exact ⟨_, _, rfl, rfl, r.2.1, hrel⟩
    rw [if_neg c1, if_neg c1]
    by_cases c2 : x2 = nI 2
    · subst c2
      have s0 := s.2.2.1
      rw [Nat.zero_add] at s0
      rw [if_pos rfl, if_pos rfl, show zlen 2 = 5 from rfl, if_pos hin, zlet_eq, nI_clamp (by omega), zlen55, m_mul, nI_add, if_pos (m_zin (by omega) (by decide)), zlet_eq, nI_clamp (by omega), show 5 * 2 + b = 10 + b by omega, s0]
      exact ⟨_, _, rfl, rfl, r.2.2.1, hrel⟩
    rw [if_neg c2, if_neg c2]
    by_cases c3 : x2 = nI 3
    · rw [if_pos c3, if_pos c3, x_bears N (by decide) (by decide) hO (BX_K hX) hb, y_bearsOn N (by decide) hO (BM_K hM) hb]
      exact ⟨_, _, rfl, rfl, rfl, hrel⟩
    rw [if_neg c3, if_neg c3]
    by_cases c4 : x2 = nI 4
    · rw [if_pos c4, if_pos c4, x_hurts N (by decide) (by decide) hO hX hb, y_hurts N hO hM hb]
      exact ⟨_, _, rfl, rfl, rfl, hrel⟩
    rw [if_neg c4, if_neg c4]
    by_cases c5 : x2 = nI 5
    · have e := x_place_loop N (σ := σ) (row := 4) (sz := β.1 2) (q := b) (T := β.2 4) (show _ ≤ 5 by omega) (by decide) (by omega) (fun i hi => ⟨hX.2.2.2.2.2.2 i hi, by have := hO.2.2.2.2.2.2.1 i hi; omega⟩) (β.1 2) 0 (by omega) N (by omega)
      rw [if_pos c5, if_pos c5, hX.2.2.1, y_placeOf N hN hO hM (by omega)]
      unfold fX6_placeIn
      rw [e]
      exact ⟨_, _, rfl, rfl, rfl, hrel⟩
    rw [if_neg c5, if_neg c5]
    by_cases c6 : x2 = nI 6
    · have e := x_place_loop N (σ := σ) (row := 5) (sz := β.1 0) (q := b) (T := β.2 5) (show _ ≤ 5 by omega) (by decide) (by omega) (fun i hi => ⟨(x_bedrow hO hX i hi).1, by have := (x_bedrow hO hX i hi).2; omega⟩) (β.1 0) 0 (by omega) N (by omega)
      have e2 := y_bedOf_loop N hO hM n1 (q := b) (by omega) (β.1 0) 0 (by omega) N (-4) (by omega) (Or.inr rfl)
      rw [if_pos c6, if_pos c6, hX.1]
      unfold fX6_placeIn fX7_bedOf
      rw [e, e2]
      refine ⟨_, _, rfl, rfl, ?_, hrel⟩
      unfold mopt
      cases mfind (β.2 5) b (β.1 0) 0 <;> rfl
    rw [if_neg c6, if_neg c6]
    exact ⟨_, _, rfl, rfl, rfl, hrel⟩
  · rw [x_has0 N hX.1 (by omega) hx, y_has0 N n1 (by omega) hx]
    exact ⟨_, _, rfl, rfl, rfl, hrel⟩

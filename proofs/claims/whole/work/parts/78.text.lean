/-! text -/
theorem y_zero (N : Nat) (K : Int32 → zS → Option (Int32 × zS)) (x1 : Int32) : ∀ d j : Nat, j + d = 31 → ∀ (f : Nat) (τ : zS), d < f → (∀ e, e < j → τ.2 56 e = nI 0) → ∃ τ' : zS, fX7_text_44 N K f x1 (nI j) τ = K x1 τ' ∧ τ'.1 = τ.1 ∧ (∀ q, q ≠ 56 → τ'.2 q = τ.2 q) ∧ ∀ e, e < 31 → τ'.2 56 e = nI 0 := by
  intro d
  induction d with
  | zero =>
    intro j hj f τ hf h
    obtain ⟨f, rfl⟩ : ∃ k, f = k + 1 := ⟨f - 1, by omega⟩
    rw [fX7_text_44, if_pos ((nI_leI (by decide) (by omega)).mpr (by omega))]
    exact ⟨τ, rfl, rfl, fun _ _ => rfl, fun e he => h e (by omega)⟩
  | succ d ih =>
    intro j hj f τ hf h
    obtain ⟨f, rfl⟩ : ∃ k, f = k + 1 := ⟨f - 1, by omega⟩
    rw [fX7_text_44, if_neg (fun h => by have := (nI_leI (by decide) (by omega)).mp h; omega), zlen56, if_pos (m_zin (by omega) (by decide)), zlet_eq, nI_add]
    obtain ⟨τ', k1, k2, k3, k4⟩ := ih (j + 1) (by omega) f (zpa τ 56 (upd (τ.2 56) (nI j).toNatClampNeg (nI 0))) (by omega) (fun e he => by
      rw [a56 _ (by omega)]
      by_cases h1 : e = j
      · rw [if_pos h1]
      · rw [if_neg h1]; exact h e (by omega))
    exact ⟨τ', k1, k2, fun q hq => by rw [k3 q hq, zpa_2, if_neg hq], k4⟩
theorem y_tcopy (N : Nat) (K : Int32 → zS → Option (Int32 × zS)) (x1 : Int32) : ∀ d j : Nat, j + d = 31 → ∀ (f : Nat) (τ : zS), d < f → ∃ τ' : zS, fX7_text_132 N K f x1 (nI j) τ = K x1 τ' ∧ τ'.1 = τ.1 ∧ (∀ q, q ≠ 55 → τ'.2 q = τ.2 q) ∧ ∀ e, τ'.2 55 e = if j ≤ e ∧ e < 31 then τ.2 56 e else τ.2 55 e := by
  intro d
  induction d with
  | zero =>
    intro j hj f τ hf
    obtain ⟨f, rfl⟩ : ∃ k, f = k + 1 := ⟨f - 1, by omega⟩
    rw [fX7_text_132, if_pos ((nI_leI (by decide) (by omega)).mpr (by omega))]
    exact ⟨τ, rfl, rfl, fun _ _ => rfl, fun e => by rw [if_neg (by omega)]⟩
  | succ d ih =>
    intro j hj f τ hf
    obtain ⟨f, rfl⟩ : ∃ k, f = k + 1 := ⟨f - 1, by omega⟩
    have r1 : τ.2 56 (nI j).toNatClampNeg = τ.2 56 j := by rw [nI_clamp (by omega)]
    rw [fX7_text_132, if_neg (fun h => by have := (nI_leI (by decide) (by omega)).mp h; omega), zlen56, if_pos (m_zin (by omega) (by decide)), zlet_eq, r1, zlen55, if_pos (m_zin (by omega) (by decide)), zlet_eq, nI_add]
    obtain ⟨τ', k1, k2, k3, k4⟩ := ih (j + 1) (by omega) f (zpa τ 55 (upd (τ.2 55) (nI j).toNatClampNeg (τ.2 56 j))) (by omega)
    refine ⟨τ', k1, k2, fun q hq => by rw [k3 q hq, zpa_2, if_neg hq], fun e => ?_⟩
    rw [k4, zpa_ne _ _ (show 56 ≠ 55 by decide), zpa_2, if_pos rfl, zupd, nI_clamp (by omega)]
    by_cases h1 : e = j
    · rw [if_neg (by omega), if_pos h1, if_pos (by omega), h1]
    · by_cases h2 : j + 1 ≤ e ∧ e < 31
      · rw [if_pos h2, if_pos (by omega)]
      · rw [if_neg h2, if_neg h1, if_neg (by omega)]
def QY (τ τ' : zS) : Prop := (∀ q, q ≠ 66 → τ'.1 q = τ.1 q) ∧ (∀ k, k < 4 ∨ (10 ≤ k ∧ k < 13) ∨ 19 ≤ k → τ'.1 66 k = τ.1 66 k) ∧ (∀ q, q ≠ 55 → q ≠ 56 → τ'.2 q = τ.2 q) ∧ ∀ i, i < 124 → τ'.2 55 i = τ.2 55 i
theorem QY_tr {a b c : zS} (h1 : QY a b) (h2 : QY b c) : QY a c := ⟨fun q hq => (h2.1 q hq).trans (h1.1 q hq), fun q hq => (h2.2.1 q hq).trans (h1.2.1 q hq), fun q h h' => (h2.2.2.1 q h h').trans (h1.2.2.1 q h h'), fun q hq => (h2.2.2.2 q hq).trans (h1.2.2.2 q hq)⟩
theorem GY_Q {τ τ' : zS} (h : GY τ τ') : QY τ τ' := ⟨h.1, h.2.1, fun q _ h' => h.2.2 q h', fun i _ => by rw [h.2.2 55 (by decide)]⟩
theorem HY_Q {τ τ' : zS} (h : HY τ τ') : QY τ τ' := ⟨h.1, fun k hk => h.2.1 k (by omega) (by omega), fun q h' _ => h.2.2.1 q h', h.2.2.2⟩
def TE (N : Nat) (q1 : Int32 × zS) : Option (Int32 × zS) :=
  zlet (zpf q1.2 50 2 (nI 0)) fun σ2 =>
  if (σ2.1 50 9) = 0 then
    (fX0_copyFrom N σ2 42 43).bind fun q4 =>
    zlet (zpf q4 51 2 (nI 0)) fun σ5 =>
    (fX6_text_50 N N) q1.1 (nI 0) σ5
  else
    some (q1.1, σ2)
theorem end_bad (N : Nat) {σ τ σ' τ' : zS} (hrel : Rel σ τ) (g : GX σ σ') (h : QY τ τ') {w pl : Nat} (hx : XF σ' w pl) (hy : YF τ' w pl) (x : Int32) : ∃ rx rm, TE N ((-10) - (σ'.1 50 10), σ') = some rx ∧ fX7_text_102 N x τ' = some rm ∧ rx.1 = rm.1 ∧ Rel rx.2 rm.2 := by
  obtain ⟨β, hRB, hRI, hRT, hRS, hRH, hRC, hF, hTn⟩ := hrel
  unfold TE fX7_text_102
  rw [zlet_eq, zlet_eq, zlet_eq]
  dsimp only
  have e9 : (zpf σ' 50 2 (nI 0)).1 50 9 = nI w := by rw [f50, if_neg (by decide)]; exact hx.1
  have e13' : (zpf τ' 66 11 (nI 0)).1 66 13 = nI w := by rw [f66, if_neg (by decide)]; exact hy.1
  have e13 : (zpf (zpf τ' 66 11 (nI 0)) 66 12 (nI w)).1 66 13 = nI w := by rw [f66, if_neg (by decide)]; exact e13'
  rw [e9, if_neg (w_no hx.2.2), e13', e13, if_neg (w_le hy.2.2)]
  refine ⟨_, _, rfl, rfl, ?_, β, RB_eq hRB ?_ ?_ ?_ ?_ ?_, RI_eq hRI ?_ ?_ ?_ ?_ ?_, ⟨0, by decide, ?_, ?_, fun i hi => absurd hi (by omega)⟩, RS_eq hRS ?_ ?_ ?_ ?_ ?_, RH_eq hRH ?_ ?_ ?_ ?_ ?_, RC_eq hRC ?_ ?_, ?_, ?_⟩
  · rw [hx.2.1, f66, if_neg (by decide), f66, if_neg (by decide), hy.2.1]
  · rw [zpf_1, if_neg (by decide), g.1 42 (by decide) (by decide)]
  · exact fun q hq => by rw [zpf_2, g.2.2 q (by omega)]
  · exact fun i hi => by rw [zpf_2, zpf_2, h.2.2.2 i (by omega)]
  · rw [f66, if_neg (by decide), f66, if_neg (by decide), h.2.1 1 (by omega)]
  · rw [f66, if_neg (by decide), f66, if_neg (by decide), h.2.1 2 (by omega)]
  · rw [zpf_2, g.2.2 39 (by omega)]
  · exact fun q h1 h2 => by rw [zpf_1, if_neg (by omega), g.1 q (by omega) (by omega)]
  · exact fun q h1 h2 => by rw [zpf_2, g.2.2 q (by omega)]
  · rw [zpf_2, zpf_2, h.2.2.1 65 (by decide) (by decide)]
  · exact fun i h1 h2 => by rw [zpf_2, zpf_2, h.2.2.2 i (by omega)]
  · rw [f50, if_pos rfl]
  · rw [f66, if_neg (by decide), f66, if_pos rfl]
  · rw [zpf_1, if_neg (by decide), g.1 51 (by decide) (by decide)]
  · rw [f66, if_neg (by decide), f66, if_neg (by decide), h.2.1 28 (by omega)]
  · rw [zpf_2, g.2.2 25 (by omega)]
  · rw [zpf_2, g.2.2 26 (by omega)]
  · rw [zpf_2, zpf_2, h.2.2.1 60 (by decide) (by decide)]
  · exact fun q h1 h2 => by rw [zpf_1, if_neg (by omega), g.1 q (by omega) (by omega)]
  · exact fun q h1 h2 => by rw [zpf_2, g.2.2 q (by omega)]
  · rw [zpf_2, zpf_2, h.2.2.1 62 (by decide) (by decide)]
  · rw [zpf_2, zpf_2, h.2.2.1 63 (by decide) (by decide)]
  · rw [zpf_2, zpf_2, h.2.2.1 64 (by decide) (by decide)]
  · rw [zpf_2, zpf_2, h.2.2.1 58 (by decide) (by decide)]
  · rw [zpf_2, zpf_2, h.2.2.1 59 (by decide) (by decide)]
  · rw [f50, if_neg (by decide), hx.1, f66, if_pos rfl]
  · rw [zpf_1, if_neg (by decide), g.1 54 (by decide) (by decide), f66, if_neg (by decide), f66, if_neg (by decide), h.2.1 35 (by omega)]
    exact hTn
theorem zn0 : vp_nar .boolean (nI 0) = 0 := by decide
theorem x_kept (N : Nat) (hN : 4000 ≤ N) (x1 : Int32) (σ : zS) : ∃ σ' : zS, fX6_text_50 N N x1 (nI 0) σ = some (x1, σ') ∧ σ'.1 = σ.1 ∧ (∀ q, q ≠ 39 → σ'.2 q = σ.2 q) ∧ ∀ k, k < 2 → σ'.2 39 k = 0 := by
  obtain ⟨f, rfl⟩ : ∃ k, N = k + 3 := ⟨N - 3, by omega⟩
  rw [fX6_text_50, if_neg (by decide), if_pos (by decide), zlet_eq, nI_add, fX6_text_50, if_neg (by decide), if_pos (by decide), zlet_eq, nI_add, fX6_text_50, if_pos (by decide), zn0]
  refine ⟨_, rfl, rfl, fun q hq => by rw [zpa_2, if_neg hq, zpa_2, if_neg hq], fun k hk => ?_⟩
  rw [aXX _ (by decide), aXX _ (by decide)]
  rcases (show k = 0 ∨ k = 1 by omega) with rfl | rfl
  · rw [if_neg (by decide), if_pos rfl]
  · rw [if_pos rfl]
theorem end_good (N : Nat) (hN : 4000 ≤ N) {σ τ σ' τ1 τ' : zS} (hrel : Rel σ τ) (g : GX σ σ') (h1 : QY τ τ1) (h2 : HY τ1 τ') {β : mB} {k t t' : Nat} (hd : DD σ' τ1 β k t t') (hO : BOk β) (h9 : σ'.1 50 9 = nI 0) (h13 : τ'.1 66 13 = nI 0) (x : Int32) : ∃ rx rm, TE N (x, σ') = some rx ∧ fX7_text_102 N x τ' = some rm ∧ rx.1 = rm.1 ∧ Rel rx.2 rm.2 := by
  obtain ⟨β0, hRB, hRI, hRT, hRS, hRH, hRC, hF, hTn⟩ := hrel
  have h : QY τ τ' := QY_tr h1 (HY_Q h2)
  obtain ⟨-, ⟨⟨a1, a2, a3, a4⟩, a5, a6, a7, a8, a9⟩, ⟨⟨z1, z2, z3, z4⟩, z5, z6, z7, z8, -, -, -⟩, -⟩ := hd
  have b0 := hO.1
  have b1 := hO.2.1
  have b2 := hO.2.2.1
  -- the class
  have hX : BX (zpf σ' 50 2 (nI 0)) 43 β := by
    refine ⟨?_, ?_, ?_, ?_, fun i hi => ⟨(a5 i hi).1, (a5 i hi).2.1, (a5 i hi).2.2, a8 i (by omega)⟩, a6, a7⟩
    · rw [zpf_1, if_neg (by decide)]; exact a1
    · rw [zpf_1, if_neg (by decide)]; exact a2
    · rw [zpf_1, if_neg (by decide)]; exact a3
    · rw [zpf_1, if_neg (by decide)]; exact a4
  obtain ⟨σ4, c1, c2, c3, c4⟩ := x_copy N (a := 42) (b := 43) (by decide) (by decide) (by decide) (by decide) (by decide) hO hX
  obtain ⟨σ5, e1, e2, e3, e4⟩ := x_kept N hN x (zpf σ4 51 2 (nI 0))
  have hfx : ∀ q, q ≠ 42 → q ≠ 51 → σ5.1 q = (zpf σ' 50 2 (nI 0)).1 q := fun q h1 h2 => by rw [e2, zpf_1, if_neg h2, c3 q h1]
  have hfa : ∀ q, 12 ≤ q → q ≠ 39 → σ5.2 q = σ.2 q := fun q h1 h2 => by rw [e3 q h2, zpf_2, c4 q (by omega), zpf_2, g.2.2 q (by omega)]
  have hfs : ∀ q, q ≠ 42 → q ≠ 43 → q ≠ 50 → q ≠ 51 → σ5.1 q = σ.1 q := fun q h1 h2 h3 h4 => by rw [hfx q h1 h4, zpf_1, if_neg h3, g.1 q h2 h3]
  unfold TE
  rw [zlet_eq]
  dsimp only
  have e9 : (zpf σ' 50 2 (nI 0)).1 50 9 = nI 0 := by rw [f50, if_neg (by decide)]; exact h9
  rw [e9, if_pos m_zero, c1, Option.bind_some, zlet_eq, e1]
  -- the model
  unfold fX7_text_102
  have e13' : (zpf τ' 66 11 (nI 0)).1 66 13 = nI 0 := by rw [f66, if_neg (by decide)]; exact h13
  have e13 : (zpf (zpf τ' 66 11 (nI 0)) 66 12 (nI 0)).1 66 13 = nI 0 := by rw [f66, if_neg (by decide)]; exact e13'
  rw [zlet_eq, zlet_eq, e13', e13, if_pos (by decide)]
  generalize hτ2 : zpf (zpf τ' 66 11 (nI 0)) 66 12 (nI 0) = τ2
  have s66 : ∀ j, j ≠ 11 → j ≠ 12 → τ2.1 66 j = τ'.1 66 j := fun j h1 h2 => by rw [← hτ2, f66, if_neg h2, f66, if_neg h1]
  have s2 : τ2.2 = τ'.2 := by rw [← hτ2]; rfl
  obtain ⟨τ3, k1, k2, k3, k4⟩ := y_tcopy N (fX7_text_156 N) x 31 0 rfl N τ2 (by omega)
  rw [k1, fX7_text_156, zlet_eq, zlet_eq, zlet_eq, if_pos (by decide), zlet_eq, if_pos (by decide), zlet_eq, zn0]
  generalize hτ4 : zpf (zpf (zpf τ3 66 1 (τ3.1 66 4)) 66 2 ((zpf τ3 66 1 (τ3.1 66 4)).1 66 5)) 66 28 (nI 0) = τ4
  have u66 : ∀ j, j ≠ 1 → j ≠ 2 → j ≠ 28 → τ4.1 66 j = τ2.1 66 j := fun j h1 h2 h3 => by rw [← hτ4, f66, if_neg h3, f66, if_neg h2, f66, if_neg h1, k2]
  have u1 : τ4.1 66 1 = nI (β.1 0) := by rw [← hτ4, f66, if_neg (by decide), f66, if_neg (by decide), f66, if_pos rfl, k2, s66 4 (by decide) (by decide), h2.2.1 4 (by decide) (by decide)]; exact z1
  have u2 : τ4.1 66 2 = nI (β.1 1) := by rw [← hτ4, f66, if_neg (by decide), f66, if_pos rfl, f66, if_neg (by decide), k2, s66 5 (by decide) (by decide), h2.2.1 5 (by decide) (by decide)]; exact z2
  have u28 : τ4.1 66 28 = nI 0 := by rw [← hτ4, f66, if_pos rfl]
  have v2 : τ4.2 = τ3.2 := by rw [← hτ4]; rfl
  generalize hτ5 : zpa (zpa τ4 65 (upd (τ4.2 65) (nI 0).toNatClampNeg 0)) 65 (upd ((zpa τ4 65 (upd (τ4.2 65) (nI 0).toNatClampNeg 0)).2 65) (nI 1).toNatClampNeg 0) = τ5
  have w1 : τ5.1 = τ4.1 := by rw [← hτ5]; rfl
  have w2 : ∀ q, q ≠ 65 → τ5.2 q = τ3.2 q := fun q hq => by rw [← hτ5, zpa_2, if_neg hq, zpa_2, if_neg hq, v2]
  have w65 : ∀ k, k < 2 → τ5.2 65 k = 0 := fun k hk => by
    rw [← hτ5, aXX _ (by decide), aXX _ (by decide)]
    rcases (show k = 0 ∨ k = 1 by omega) with rfl | rfl
    · rw [if_neg (by decide), if_pos rfl]
    · rw [if_pos rfl]
  have w56 : ∀ e, e < 31 → τ5.2 55 e = τ1.2 56 e := fun e he => by rw [w2 55 (by decide), k4, if_pos (by omega), s2, h2.2.2.1 56 (by decide)]
  have wo : ∀ q, q ≠ 55 → q ≠ 56 → q ≠ 65 → τ5.2 q = τ.2 q := fun q h1 h2 h3 => by rw [w2 q h3, k3 q h1, s2, h.2.2.1 q h1 h2]
  refine ⟨_, _, rfl, rfl, rfl, β, ⟨hO, ?_, ?_, ?_, ?_⟩, fun k hk => Or.inl ⟨e4 k hk, w65 k hk⟩, ⟨0, by decide, ?_, ?_, fun i hi => absurd hi (by omega)⟩, ⟨0, by decide, ?_, ?_, fun i hi => absurd hi (by omega)⟩, RH_eq hRH ?_ ?_ ?_ ?_ ?_, RC_eq hRC ?_ ?_, ?_, ?_⟩
  · exact BX_eq (by rw [e2, zpf_1, if_neg (by decide)]) (fun k hk => by rw [e3 _ (by unfold zba; omega), zpf_2]) c2
  · refine ⟨?_, ?_, fun i hi => ⟨?_, ?_, ?_, ?_⟩, fun i hi => ?_, fun i hi => ?_⟩
    · rw [w56 _ (by decide)]; exact z3
    · rw [w56 _ (by decide)]; exact z4
    · rw [Nat.zero_add, w56 _ (by omega)]; exact (z5 i hi).1
    · rw [Nat.zero_add, w56 _ (by omega)]; exact (z5 i hi).2.1
    · rw [Nat.zero_add, w56 _ (by omega)]; exact (z5 i hi).2.2
    · rw [Nat.zero_add, w56 _ (by omega)]; exact z8 i (by omega)
    · rw [Nat.zero_add, w56 _ (by omega)]; exact z6 i hi
    · rw [Nat.zero_add, w56 _ (by omega)]; exact z7 i hi
  · rw [w1]; exact u1
  · rw [w1]; exact u2
  · rw [hfx 50 (by decide) (by decide), f50, if_pos rfl]
  · rw [w1, u66 11 (by decide) (by decide) (by decide), ← hτ2, f66, if_neg (by decide), f66, if_pos rfl]
  · rw [e2, zpf_1, if_pos rfl, zup, if_pos rfl]
  · rw [w1]; exact u28
  · exact fun q h1 h2 => hfs q (by omega) (by omega) (by omega) (by omega)
  · exact fun q h1 h2 => hfa q (by omega) (by omega)
  · exact wo 62 (by decide) (by decide) (by decide)
  · exact wo 63 (by decide) (by decide) (by decide)
  · exact wo 64 (by decide) (by decide) (by decide)
  · exact wo 58 (by decide) (by decide) (by decide)
  · exact wo 59 (by decide) (by decide) (by decide)
  · rw [hfx 50 (by decide) (by decide), f50, if_neg (by decide), h9, w1, u66 12 (by decide) (by decide) (by decide), ← hτ2, f66, if_pos rfl]
  · rw [hfs 54 (by decide) (by decide) (by decide) (by decide), w1, u66 35 (by decide) (by decide) (by decide), s66 35 (by decide) (by decide), h.2.1 35 (by omega)]
    exact hTn
def mzero : mB := (fun j => if j = 3 then 5 else 0, fun _ i => i)
theorem okp_text (N : Nat) (hN : 4000 ≤ N) : ok_text N Rel := by
  intro σ τ hrel
  obtain ⟨β0, hRB, hRI, hRT, hRS, hRH, hRC, hF, hTn⟩ := id hrel
  obtain ⟨n, hn, t1, t2, t3⟩ := hRT
  obtain ⟨B, hB, ht, ht'⟩ : ∃ B : Nat → Nat, TB B n ∧ TX σ B n ∧ TY τ B n := by
    refine ⟨fun i => (σ.2 24 i).toNatClampNeg, ⟨hn, fun i hi => ?_⟩, ⟨t1, fun i hi => ?_⟩, t2, fun i hi => ?_⟩
    · obtain ⟨c, c1, c2, c3⟩ := t3 i hi
      dsimp only
      rw [c2, nI_clamp (by omega)]; exact c1
    · obtain ⟨c, c1, c2, c3⟩ := t3 i hi
      dsimp only
      rw [c2, nI_clamp (by omega)]
    · obtain ⟨c, c1, c2, c3⟩ := t3 i hi
      dsimp only
      rw [c2, nI_clamp (by omega)]; exact c3
  -- the class begins
  have hclear : fX0_clear N σ 43 = some (zpf (zpf (zpf (zpf σ 43 6 (nI 0)) 43 7 (nI 0)) 43 8 (nI 0)) 43 9 (nI 5)) := rfl
  generalize hσ1 : zpf (zpf (zpf (zpf σ 43 6 (nI 0)) 43 7 (nI 0)) 43 8 (nI 0)) 43 9 (nI 5) = σ1 at hclear
  have g1 : GX σ σ1 := by rw [← hσ1]; exact GX_tr (GX_43 _ _ _) (GX_tr (GX_43 _ _ _) (GX_tr (GX_43 _ _ _) (GX_43 _ _ _)))
  have x6 : σ1.1 43 6 = nI 0 := by rw [← hσ1]; simp [zpf_1, zup]
  have x7 : σ1.1 43 7 = nI 0 := by rw [← hσ1]; simp [zpf_1, zup]
  have x8 : σ1.1 43 8 = nI 0 := by rw [← hσ1]; simp [zpf_1, zup]
  have x9 : σ1.1 43 9 = nI 5 := by rw [← hσ1]; simp [zpf_1, zup]
  obtain ⟨σ2, f1, f2, f3, f4⟩ := x_fill N hN (q := 11) rfl σ1
  have g2 : GX σ σ2 := GX_tr g1 ⟨fun q _ _ => by rw [f2], by rw [f2], fun q hq => f3 q (by omega)⟩
  generalize hσ3 : zpf (zpf (zpf (zpf σ2 50 3 (nI 0)) 50 7 (nI 0)) 50 8 (nI 0)) 50 9 (nI 0) = σ3
  have g3 : GX σ σ3 := by rw [← hσ3]; exact GX_tr g2 (GX_tr (GX_50 _ (by decide) _) (GX_tr (GX_50 _ (by decide) _) (GX_tr (GX_50 _ (by decide) _) (GX_50 _ (by decide) _))))
  have j43 : σ3.1 43 = σ1.1 43 := by rw [← hσ3, zpf_1, if_neg (by decide), zpf_1, if_neg (by decide), zpf_1, if_neg (by decide), zpf_1, if_neg (by decide), f2]
  have j2 : σ3.2 = σ2.2 := by rw [← hσ3]; rfl
  have ex : fX4_tellAll N σ = fX4_tellAll_39 N (fX4_tellAll_59 N) N (nI 0) σ3 := by
    unfold fX4_tellAll
    rw [hclear, Option.bind_some, f1, Option.bind_some, zlet_eq, zlet_eq, zlet_eq, zlet_eq, hσ3]
  -- the model begins
  generalize hτ1 : zpf (zpf (zpf (zpf (zpf (zpf (zpf (zpf τ 66 13 (nI 0)) 66 15 (nI 0)) 66 4 (nI 0)) 66 5 (nI 0)) 66 6 (nI 0)) 66 7 (nI 0)) 66 8 (nI 0)) 66 9 (nI 0) = τ1
  have h1 : GY τ τ1 := by rw [← hτ1]; exact GY_tr (FW_G (FW_f _ (by decide) _)) (GY_tr (FW_G (FW_f _ (by decide) _)) (GY_tr (GY_f _ (by decide) _) (GY_tr (GY_f _ (by decide) _) (GY_tr (GY_f _ (by decide) _) (GY_tr (GY_f _ (by decide) _) (GY_tr (GY_f _ (by decide) _) (GY_f _ (by decide) _)))))))
  have y0 : ∀ k, k = 13 ∨ k = 15 ∨ (4 ≤ k ∧ k < 10) → τ1.1 66 k = nI 0 := fun k hk => by
    rw [← hτ1, f66, f66, f66, f66, f66, f66, f66, f66]
    rcases (show k = 13 ∨ k = 15 ∨ k = 4 ∨ k = 5 ∨ k = 6 ∨ k = 7 ∨ k = 8 ∨ k = 9 by omega) with rfl | rfl | rfl | rfl | rfl | rfl | rfl | rfl <;> rfl
  obtain ⟨τ2, m1, m2, m3, m4⟩ := y_zero N (fX7_text_63 N) (nI 0) 31 0 rfl N τ1 (by omega) (fun e he => absurd he (by omega))
  have h2 : GY τ τ2 := GY_tr h1 ⟨fun q _ => by rw [m2], fun q _ => by rw [m2], m3⟩
  obtain ⟨τ3, n1, n2, n3⟩ := y_tok N hN hB (GY_T h2 ht') (p := 0) (Nat.zero_le _) (by rw [m2]; exact y0 15 (by omega)) (by rw [m2]; exact y0 13 (by omega))
  have n3 : YT τ3 B n 0 := n3
  have h3 : GY τ τ3 := GY_tr h2 (FW_G n2)
  have ey : fX7_text N τ = fX7_text_67 N (fX7_text_91 N) N (nI 0) τ3 := by
    unfold fX7_text
    rw [zlet_eq, zlet_eq, zlet_eq, zlet_eq, zlet_eq, zlet_eq, zlet_eq, zlet_eq, hτ1, m1, fX7_text_63, n1, Option.bind_some]
  have hd : DD σ3 τ3 mzero 0 0 0 := by
    have p0 : ∀ e, e < 31 → τ3.2 56 e = nI 0 := fun e he => by rw [n2.1]; exact m4 e he
    have q0 : ∀ k, 4 ≤ k ∧ k < 10 → τ3.1 66 k = nI 0 := fun k hk => by rw [n2.2.2 k (by omega), m2]; exact y0 k (by omega)
    refine ⟨⟨by decide, by decide, by decide, by decide, by decide, fun i hi => absurd hi (Nat.not_lt_zero i), fun i hi => absurd hi (Nat.not_lt_zero i), ⟨fun i hi => absurd hi (Nat.not_lt_zero i), fun i hi => absurd hi (Nat.not_lt_zero i)⟩, ⟨fun i hi => absurd hi (Nat.not_lt_zero i), fun i hi => absurd hi (Nat.not_lt_zero i)⟩, fun i _ _ => rfl⟩, ⟨⟨by rw [j43]; exact x6, by rw [j43]; exact x7, by rw [j43]; exact x8, by rw [j43]; exact x9⟩, fun i hi => absurd hi (Nat.not_lt_zero i), fun i hi => absurd hi (Nat.not_lt_zero i), fun i hi => absurd hi (Nat.not_lt_zero i), fun i hi => by rw [j2]; exact f4 i hi, ?_⟩, ⟨⟨q0 4 (by decide), q0 5 (by decide), p0 24 (by decide), ?_⟩, fun i hi => absurd hi (Nat.not_lt_zero i), fun i hi => absurd hi (Nat.not_lt_zero i), fun i hi => absurd hi (Nat.not_lt_zero i), fun i hi => ?_, q0 7 (by decide), q0 8 (by decide), q0 9 (by decide)⟩, ?_, q0 6 (by decide), by decide, by decide, fun _ _ _ => rfl, fun _ => rfl, fun _ => rfl⟩
    · rw [← hσ3]; simp [f50]
    · rw [p0 30 (by decide)]; rfl
    · rw [p0 _ (by omega)]; exact (Int32.sub_self (nI i)).symm
    · rw [← hσ3]; simp [f50]
  obtain ⟨σ4, τ4, L1, L2, e1, e2, e3, e4, e5⟩ := loop_eq N hN hB (fX4_tellAll_59 N) (fX7_text_91 N) (n - 0) 0 rfl (Nat.zero_le _) σ3 τ3 0 N N (Nat.zero_le _) (by omega) (by omega) (GX_T g3 ht) (GY_T h3 ht') (by rw [← hσ3]; simp [f50]) (by rw [← hσ3]; simp [f50]) n3 (RC_eq hRC (h3.2.2 58 (by decide)) (h3.2.2 59 (by decide))) ⟨mzero, 0, 0, 0, hd⟩
  have gx := GX_tr g3 e3
  have gy := GY_tr h3 e4
  have etx : fX6_text N σ = (fX4_tellAll N σ).bind (TE N) := rfl
  rw [etx, ex, e1, ey, e2]
  rcases e5 with ⟨w, pl, hxf, hyf⟩ | ⟨hL, k1, k2, k3, β, k, t, t', hdd⟩
  · rw [fX4_tellAll_59, hxf.1, if_neg (w_no hxf.2.2), fX4_tellAll_70, hxf.1, if_neg (w_no hxf.2.2), Option.bind_some, fX7_text_91, hyf.1, if_neg (w_no hyf.2.2)]
    exact end_bad N hrel gx (GY_Q gy) hxf hyf _
  · obtain ⟨σ5, τ5, q1, q2, q3, q4, q5⟩ := whole_eq (n := n) N hN hdd (by rw [gx.2.1]; exact t1) k2 k3
    rw [fX4_tellAll_59, k1, if_pos m_zero, q1, Option.bind_some, fX7_text_91, k2, if_pos m_zero, q2, Option.bind_some, fX4_tellAll_70]
    rcases q5 with ⟨w, pl, hxf, hyf⟩ | ⟨r1, r2, r3⟩
    · rw [hxf.1, if_neg (w_no hxf.2.2), Option.bind_some]
      exact end_bad N hrel (GX_tr gx (FX_G q3)) (QY_tr (GY_Q gy) (HY_Q q4)) hxf hyf _
    · rw [r1, k1, if_pos m_zero, Option.bind_some, hL]
      exact end_good N hN hrel gx (GY_Q gy) q4 hdd r3 k1 r2 _

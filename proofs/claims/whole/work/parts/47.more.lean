/-! what was seen, the scout, counts, a beast -/
theorem okp_forget (N : Nat) : ok_forget N Rel := by
  intro σ τ x1 hrel
  obtain ⟨β, hB, hI, hT, hS, hH, hC, hF, hTn⟩ := id hrel
  obtain ⟨m, hm, s1, s2, s3⟩ := id hS
  unfold fX6_forget fX7_forget
  rw [s1, s2, nI_l (n := m) (by omega)]
  by_cases hx : ∃ k, 0 ≤ k ∧ k ≤ m ∧ x1 = nI k
  · obtain ⟨k, -, hk, rfl⟩ := hx
    have wm : fX7_in N (nI k).toInt64 0 (lN m) = some 1 := y_in1 N (lo := 0) (by omega) hk (by omega)
    rw [x_within1 N (by omega) hk (by omega), Option.bind_some, if_neg z10, zlet_eq, wm, Option.bind_some, if_neg z10, zlet_eq, zlet_eq]
    exact ⟨_, _, rfl, rfl, rfl, β, RB_eq hB rfl (fun q hq => rfl) (fun i hi => rfl) rfl rfl, RI_eq hI rfl (fun q h1 h2 => by rw [zpf_1, if_neg (by omega)]) (fun q h1 h2 => rfl) rfl (fun i h1 h2 => rfl), RT_eq hT rfl rfl rfl rfl, ⟨k, by omega, rfl, rfl, fun i hi => s3 i (by omega)⟩, RH_eq hH (fun q h1 h2 => by rw [zpf_1, if_neg (by omega)]) (fun q h1 h2 => rfl) rfl rfl rfl, RC_eq hC rfl rfl, hF, hTn⟩
  · have wm : fX7_in N x1.toInt64 0 (lN m) = some 0 := y_in0 N (lo := 0) (by omega) (by decide) hx
    rw [x_within0 N (by omega) (by decide) hx, Option.bind_some, if_pos rfl, wm, Option.bind_some, if_pos rfl]
    exact ⟨_, _, rfl, rfl, rfl, hrel⟩
theorem okp_see (N : Nat) : ok_see N Rel := by
  intro σ τ x1 x2 hrel
  obtain ⟨β, hB, hI, hT, hS, hH, hC, hF, hTn⟩ := id hrel
  obtain ⟨m, hm, s1, s2, s3⟩ := id hS
  unfold fX6_see fX7_see
  by_cases hx : ∃ k, 1 ≤ k ∧ k ≤ 5 ∧ x1 = nI k
  · obtain ⟨a, ha1, ha5, rfl⟩ := hx
    have wm : fX7_in N (nI a).toInt64 1 5 = some 1 := y_in1 N (lo := 1) (hi := 5) ha1 ha5 (by decide)
    rw [x_within1 N ha1 ha5 (by decide), Option.bind_some, if_neg z10, wm, Option.bind_some, if_neg z10]
    by_cases hv : ∃ v, 0 ≤ v ∧ v ≤ 99 ∧ x2 = nI v
    · obtain ⟨v, -, hv, rfl⟩ := hv
      have wm2 : fX7_in N (nI v).toInt64 0 99 = some 1 := y_in1 N (lo := 0) (hi := 99) (by omega) hv (by decide)
      rw [x_within1 N (by omega) hv (by decide), Option.bind_some, if_neg z10, wm2, Option.bind_some, if_neg z10, s1, s2]
      by_cases h6 : m = 6
      · subst h6
        rw [if_neg (by decide), if_pos rfl]
        exact ⟨_, _, rfl, rfl, rfl, hrel⟩
      · rw [if_pos ((nI_ltI (by omega) (by decide)).mpr (by omega)), if_neg (fun h => h6 ((nI_eq (by omega) (by decide)).mp h)), if_pos (m_zin (show m < zlen 25 from (show m < 6 by omega)) (by decide)), zlet_eq, zpa_1, s1, if_pos (m_zin (show m < zlen 26 from (show m < 6 by omega)) (by decide)), zlet_eq, zlet_eq, zpa_1, zpa_1, s1, nI_add, nI_clamp (by omega), m_mul, if_pos (m_zin (show 2 * m < zlen 60 from (show 2 * m < 12 by omega)) (by decide)), zlet_eq, zpa_1, s2, m_mul, nI_add, if_pos (m_zin (show 2 * m + 1 < zlen 60 from (show 2 * m + 1 < 12 by omega)) (by decide)), zlet_eq, zlet_eq, zpa_1, zpa_1, s2, nI_add, nI_clamp (by omega), nI_clamp (by omega)]
        refine ⟨_, _, rfl, rfl, rfl, β, RB_eq hB rfl (fun q hq => by rw [zpf_2, zpa_2, if_neg (by omega), zpa_2, if_neg (by omega)]) (fun i hi => rfl) rfl rfl, RI_eq hI rfl (fun q h1 h2 => by rw [zpf_1, if_neg (by omega), zpa_1, zpa_1]) (fun q h1 h2 => by rw [zpf_2, zpa_2, if_neg (by omega), zpa_2, if_neg (by omega)]) rfl (fun i h1 h2 => rfl), RT_eq hT rfl rfl rfl rfl, ⟨m + 1, by omega, rfl, rfl, fun i hi => ?_⟩, RH_eq hH (fun q h1 h2 => by rw [zpf_1, if_neg (by omega), zpa_1, zpa_1]) (fun q h1 h2 => by rw [zpf_2, zpa_2, if_neg (by omega), zpa_2, if_neg (by omega)]) rfl rfl rfl, RC_eq hC rfl rfl, hF, hTn⟩
        have c1 : (zpf (zpa (zpa σ 25 (upd (σ.2 25) m (nI a))) 26 (upd ((zpa σ 25 (upd (σ.2 25) m (nI a))).2 26) m (nI v))) 51 2 (nI (m + 1))).2 25 i = if i = m then nI a else σ.2 25 i := rfl
        have c2 : (zpf (zpa (zpa σ 25 (upd (σ.2 25) m (nI a))) 26 (upd ((zpa σ 25 (upd (σ.2 25) m (nI a))).2 26) m (nI v))) 51 2 (nI (m + 1))).2 26 i = if i = m then nI v else σ.2 26 i := rfl
        have c3 : ∀ e, (zpf (zpa (zpa τ 60 (upd (τ.2 60) (2 * m) (nI a))) 60 (upd ((zpa τ 60 (upd (τ.2 60) (2 * m) (nI a))).2 60) (2 * m + 1) (nI v))) 66 28 (nI (m + 1))).2 60 e = if e = 2 * m + 1 then nI v else if e = 2 * m then nI a else τ.2 60 e := fun e => rfl
        by_cases e : i = m
        · subst e
          exact ⟨a, v, ha1, ha5, hv, by rw [c1, if_pos rfl], by rw [c3, if_neg (by omega), if_pos rfl], by rw [c2, if_pos rfl], by rw [c3, if_pos rfl]⟩
        · obtain ⟨a', b', h1, h2, h3, h4, h5, h6', h7⟩ := s3 i (by omega)
          exact ⟨a', b', h1, h2, h3, by rw [c1, if_neg e]; exact h4, by rw [c3, if_neg (by omega), if_neg (by omega)]; exact h5, by rw [c2, if_neg e]; exact h6', by rw [c3, if_neg (by omega), if_neg (by omega)]; exact h7⟩
    · have wm2 : fX7_in N x2.toInt64 0 99 = some 0 := y_in0 N (lo := 0) (hi := 99) (by decide) (by decide) hv
      rw [x_within0 N (by decide) (by decide) hv, wm2, Option.bind_some, Option.bind_some, if_pos rfl, if_pos rfl]
      exact ⟨_, _, rfl, rfl, rfl, hrel⟩
  · have wm : fX7_in N x1.toInt64 1 5 = some 0 := y_in0 N (lo := 1) (hi := 5) (by decide) (by decide) hx
    rw [x_within0 N (by decide) (by decide) hx, wm, Option.bind_some, Option.bind_some, if_pos rfl, if_pos rfl]
    exact ⟨_, _, rfl, rfl, rfl, hrel⟩
/-- beds of the class and of the model -/
theorem x_bedrow {σ : zS} {β : mB} (hO : BOk β) (hX : BX σ 42 β) : ∀ i, i < β.1 0 → σ.2 5 i = nI (β.2 5 i) ∧ β.2 5 i < β.1 0 := fun i hi => ⟨(hX.2.2.2.2.1 i hi).2.2.2, (hO.2.2.2.2.1 i hi).2.2.2.2⟩
theorem mmet_le (β : mB) (T : Nat → Nat) : ∀ d i : Nat, i ≤ mmet β T d i ∧ mmet β T d i ≤ i + d
  | 0, i => ⟨Nat.le_refl _, Nat.le_refl _⟩
  | d + 1, i => by
    rw [mmet]
    split
    · omega
    · have := mmet_le β T d (i + 1)
      omega
theorem y_hurtBy_loop (N : Nat) {β : mB} (hO : BOk β) : ∀ d i : Nat, i + d = β.1 0 → ∀ (m : Nat) (τ : zS), d < m → BM τ 0 β → τ.1 66 1 = nI (β.1 0) → τ.1 66 26 = nI i → ∃ τ' : zS, fX7_hurtBy_7 N m (-4) (nI (mhurt β (β.2 5) i)) τ = some (nI (mhurt β (β.2 5) (mmet β (β.2 5) d i)), τ') ∧ τ'.2 = τ.2 ∧ τ'.1 66 26 = nI (mmet β (β.2 5) d i) ∧ ∀ k, k ≠ 26 → τ'.1 66 k = τ.1 66 k := by
  have b0 := hO.1
  have b3 := hO.2.2.2.1
  intro d
  induction d with
  | zero =>
    intro i hi m τ hm hM n1 n26
    obtain ⟨m, rfl⟩ : ∃ k, m = k + 1 := ⟨m - 1, by omega⟩
    refine ⟨τ, ?_, rfl, n26, fun k _ => rfl⟩
    rw [fX7_hurtBy_7, n1, n26, if_pos ((nI_leI (by omega) (by omega)).mpr (by omega))]
    rfl
  | succ d ih =>
    intro i hi m τ hm hM n1 n26
    obtain ⟨m, rfl⟩ : ∃ k, m = k + 1 := ⟨m - 1, by omega⟩
    have hd := (hO.2.2.2.2.1 i (by omega)).2.2.2.2
    have hh := mhurt_le hO i (T := β.2 5) (fun j hj => (hO.2.2.2.2.1 j (by omega)).2.2.2.2)
    rw [fX7_hurtBy_7, n1, n26, if_neg (fun h => by have := (nI_leI (by omega) (by omega)).mp h; omega), if_pos z30, zlet_eq, y_at30 hM, Int32.sub_add_cancel, mmet]
    by_cases hc : β.1 3 < mhurt β (β.2 5) i
    · rw [if_pos ((nI_ltI (by omega) (by omega)).mpr hc), if_pos hc]
      exact ⟨τ, rfl, rfl, n26, fun k _ => rfl⟩
    · rw [if_neg (fun h => hc ((nI_ltI (by omega) (by omega)).mp h)), if_neg hc, if_pos rfl, y_bed N hO hM (show i < β.1 0 by omega), Option.bind_some, fX7_hurtBy_62, y_hurts N hO hM hd, Option.bind_some, zlet_eq, n26, nI_add, nI_add]
      obtain ⟨τ', h1, h2, h3, h4⟩ := ih (i + 1) (by omega) m (zpf τ 66 26 (nI (i + 1))) (by omega) (BM_eq hO (fun _ _ _ => rfl) hM) n1 rfl
      exact ⟨τ', h1, h2, h3, fun k hk => by rw [h4 k hk, zpf_1, if_pos rfl, zup, if_neg hk]⟩
theorem okp_tale (N : Nat) (hN : 4000 ≤ N) : ok_tale N Rel := by
  intro σ τ x1 hrel
  obtain ⟨β, ⟨hO, hX, hM, n1, n2⟩, hrest⟩ := id hrel
  have b0 := hO.1
  have hml := mmet_le β (β.2 5) (β.1 0) 0
  have hbr := x_bedrow hO hX
  obtain ⟨τ', e1, e2, e3, e4⟩ := y_hurtBy_loop N hO (β.1 0) 0 (by omega) N (zpf τ 66 26 (nI 0)) (by omega) (BM_eq hO (fun _ _ _ => rfl) hM) n1 rfl
  have em : fX7_hurtBy N τ (-4) = some (nI (mhurt β (β.2 5) (mmet β (β.2 5) (β.1 0) 0)), τ') := by unfold fX7_hurtBy; rw [zlet_eq]; exact e1
  have ex := x_metOn N hN (by decide) (by decide) hO hX (row := 5) (T := β.2 5) (show β.1 0 ≤ 5 by omega) (by decide) hbr
  have eh := x_hurtBehind N hN (b := 42) (by decide) (by decide) hO hX (row := 5) (T := β.2 5) (sz := mmet β (β.2 5) (β.1 0) 0) (show _ ≤ 5 by omega) (by decide) (fun i hi => hbr i (by omega))
  have hR : Rel σ τ' := Rel_band (β' := β) hrest ⟨hO, hX, BM_eq hO (fun _ _ _ => by rw [e2]; rfl) hM, by rw [e4 1 (by decide)]; exact n1, by rw [e4 2 (by decide)]; exact n2⟩ rfl rfl (fun q _ _ _ => rfl) (fun q _ _ => rfl) (fun k hk => by rw [e4 k (by omega), zpf_1, if_pos rfl, zup, if_neg (by omega)]) (fun q _ _ => by rw [e2]; rfl) (fun i _ _ => by rw [e2]; rfl)
  unfold fX6_tale fX7_tale
  rw [ex, Option.bind_some, em, Option.bind_some, eh]
  by_cases c0 : x1 = nI 0
  · rw [if_pos c0, if_pos (show x1 = 0 from c0)]; exact ⟨_, _, rfl, rfl, rfl, hR⟩
  rw [if_neg c0, if_neg (show ¬ x1 = 0 from c0)]
  by_cases c1 : x1 = nI 1
  · rw [if_pos c1, if_pos c1]; exact ⟨_, _, rfl, rfl, e3.symm, hR⟩
  rw [if_neg c1, if_neg c1]
  by_cases c2 : x1 = nI 2
  · rw [if_pos c2, if_pos c2]; exact ⟨_, _, rfl, rfl, rfl, hR⟩
  rw [if_neg c2, if_neg c2]
  exact ⟨_, _, rfl, rfl, rfl, hR⟩
theorem y_brave_loop (N : Nat) {τ : zS} {β : mB} (hO : BOk β) (hM : BM τ 0 β) (n1 : τ.1 66 1 = nI (β.1 0)) {h : Nat} (hh : β.1 0 = h + 1) (k : Int32 → Option Int32) : ∀ d i : Nat, i + d = h → ∀ m : Nat, d < m → fX7_brave_4 N τ k m (nI (mhurt β (β.2 5) i)) (nI i) = k (nI (mhurt β (β.2 5) h)) := by
  have b0 := hO.1
  intro d
  induction d with
  | zero =>
    intro i hi m hm
    obtain ⟨m, rfl⟩ : ∃ k, m = k + 1 := ⟨m - 1, by omega⟩
    have e : i = h := by omega
    subst e
    rw [fX7_brave_4, n1, hh, m_s1, if_pos ((nI_leI (by omega) (by omega)).mpr (Nat.le_refl _))]
  | succ d ih =>
    intro i hi m hm
    obtain ⟨m, rfl⟩ : ∃ k, m = k + 1 := ⟨m - 1, by omega⟩
    have hd := (hO.2.2.2.2.1 i (by omega)).2.2.2.2
    rw [fX7_brave_4, n1, hh, m_s1, if_neg (fun h => by have := (nI_leI (by omega) (by omega)).mp h; omega), y_bed N hO hM (show i < β.1 0 by omega), Option.bind_some, y_hurts N hO hM hd, Option.bind_some, nI_add, nI_add]
    exact ih (i + 1) (by omega) m (by omega)
theorem okp_brave (N : Nat) (hN : 4000 ≤ N) : ok_brave N Rel := by
  intro σ τ hrel
  obtain ⟨β, ⟨hO, hX, hM, n1, n2⟩, hrest⟩ := id hrel
  have b0 := hO.1
  unfold fX6_brave fX7_brave
  rw [hX.1]
  obtain ⟨M, rfl⟩ : ∃ M, N = M + 1 := ⟨N - 1, by omega⟩
  by_cases h0 : β.1 0 = 0
  · rw [h0] at n1 ⊢
    unfold fX0_hurtBehind
    rw [fX0_hurtBehind_5, if_pos (by decide), Option.bind_some, if_neg (by decide), fX7_brave_4, n1, if_pos (by decide), fX7_brave_32, if_pos (by decide)]
    exact ⟨_, _, rfl, rfl, rfl, hrel⟩
  · obtain ⟨h, hh⟩ : ∃ h, β.1 0 = h + 1 := ⟨β.1 0 - 1, by omega⟩
    have hle := mhurt_le hO h (T := β.2 5) (fun j hj => (hO.2.2.2.2.1 j (by omega)).2.2.2.2)
    rw [hh, m_s1, x_hurtBehind (M + 1) hN (b := 42) (by decide) (by decide) hO hX (row := 5) (T := β.2 5) (sz := h) (show _ ≤ 5 by omega) (by decide) (fun i hi => x_bedrow hO hX i (by omega)), Option.bind_some, show fX7_brave_4 (M + 1) τ (fX7_brave_32 (M + 1) τ) (M + 1) (nI 0) (nI 0) = _ from y_brave_loop (M + 1) hO hM n1 hh _ h 0 (by omega) (M + 1) (by omega), fX7_brave_32]
    by_cases hc : mhurt β (β.2 5) h ≤ 40
    · rw [if_neg (fun h' => by have := (nI_ltI (by decide) (by omega)).mp h'; omega), if_pos ((nI_leI (by omega) (by decide)).mpr hc)]
      exact ⟨_, _, rfl, rfl, rfl, hrel⟩
    · rw [if_pos ((nI_ltI (by decide) (by omega)).mpr (by omega)), if_neg (fun h' => hc ((nI_leI (by omega) (by decide)).mp h'))]
      exact ⟨_, _, rfl, rfl, rfl, hrel⟩
/-- sums of rows -/
def msum (f : Nat → Nat) : Nat → Nat
  | 0 => 0
  | i + 1 => msum f i + f i
theorem x_sum_loop (N : Nat) {σ : zS} {row n : Nat} {f : Nat → Nat} (hn : n ≤ zlen row) (hl : zlen row ≤ 1000) (hf : ∀ i, i < n → σ.2 row i = nI (f i)) : ∀ d i : Nat, i + d = n → ∀ m : Nat, d < m → fX6_sumOf_4 N σ m row (nI n) (nI (msum f i)) (nI i) = some (nI (msum f n)) := by
  intro d
  induction d with
  | zero =>
    intro i hi m hm
    obtain ⟨m, rfl⟩ : ∃ k, m = k + 1 := ⟨m - 1, by omega⟩
    have e : i = n := by omega
    subst e
    rw [fX6_sumOf_4, if_pos ((nI_leI (by omega) (by omega)).mpr (Nat.le_refl _))]
  | succ d ih =>
    intro i hi m hm
    obtain ⟨m, rfl⟩ : ∃ k, m = k + 1 := ⟨m - 1, by omega⟩
    rw [fX6_sumOf_4, if_neg (fun h => by have := (nI_leI (by omega) (by omega)).mp h; omega), if_pos (m_zin (by omega) (by omega)), zlet_eq, nI_clamp (by omega), hf i (by omega), nI_add, nI_add]
    exact ih (i + 1) (by omega) m (by omega)
theorem y_cnt_loop1 (N : Nat) {τ : zS} {β : mB} (hO : BOk β) (hM : BM τ 0 β) (n1 : τ.1 66 1 = nI (β.1 0)) (k : Int32 → Int32 → Int32 → Option Int32) (x1 x3 : Int32) : ∀ d i : Nat, i + d = β.1 0 → ∀ m : Nat, d < m → fX7_count_7 N τ k m x1 (nI (msum (β.2 1) i)) x3 (nI i) = k x1 (nI (msum (β.2 1) (β.1 0))) x3 := by
  have b0 := hO.1
  intro d
  induction d with
  | zero =>
    intro i hi m hm
    obtain ⟨m, rfl⟩ : ∃ k, m = k + 1 := ⟨m - 1, by omega⟩
    have e : i = β.1 0 := by omega
    subst e
    rw [fX7_count_7, n1, if_pos ((nI_leI (by omega) (by omega)).mpr (Nat.le_refl _))]
  | succ d ih =>
    intro i hi m hm
    obtain ⟨m, rfl⟩ : ∃ k, m = k + 1 := ⟨m - 1, by omega⟩
    have e := (hM.2.2.1 i (by omega)).2.1
    rw [Nat.zero_add] at e
    rw [fX7_count_7, n1, if_neg (fun h => by have := (nI_leI (by omega) (by omega)).mp h; omega), zlen55, nI_add, if_pos (m_zin (by omega) (by decide)), zlet_eq, nI_clamp (by omega), e, nI_add, nI_add]
    exact ih (i + 1) (by omega) m (by omega)
theorem y_cnt_loop2 (N : Nat) {τ : zS} {β : mB} (hO : BOk β) (hM : BM τ 0 β) (n2 : τ.1 66 2 = nI (β.1 1)) (k : Int32 → Int32 → Int32 → Option Int32) (x1 x2 : Int32) : ∀ d i : Nat, i + d = β.1 1 → ∀ m : Nat, d < m → fX7_count_37 N τ k m x1 x2 (nI (msum (β.2 3) i)) (nI i) = k x1 x2 (nI (msum (β.2 3) (β.1 1))) := by
  have b1 := hO.2.1
  intro d
  induction d with
  | zero =>
    intro i hi m hm
    obtain ⟨m, rfl⟩ : ∃ k, m = k + 1 := ⟨m - 1, by omega⟩
    have e : i = β.1 1 := by omega
    subst e
    rw [fX7_count_37, n2, if_pos ((nI_leI (by omega) (by omega)).mpr (Nat.le_refl _))]
  | succ d ih =>
    intro i hi m hm
    obtain ⟨m, rfl⟩ : ∃ k, m = k + 1 := ⟨m - 1, by omega⟩
    have e := hM.2.2.2.1 i (by omega)
    rw [Nat.zero_add] at e
    rw [fX7_count_37, n2, if_neg (fun h => by have := (nI_leI (by omega) (by omega)).mp h; omega), zlen55, nI_add, if_pos (m_zin (by omega) (by decide)), zlet_eq, nI_clamp (by omega), e, nI_add, nI_add]
    exact ih (i + 1) (by omega) m (by omega)
theorem okp_count (N : Nat) (hN : 4000 ≤ N) : ok_count N Rel := by
  intro σ τ x1 hrel
  obtain ⟨β, ⟨hO, hX, hM, n1, n2⟩, hI, hT, hS, hH, hC, hF, hTn⟩ := id hrel
  have b0 := hO.1
  have b1 := hO.2.1
  have em : fX7_count N τ x1 = fX7_count_65 N τ x1 (nI (msum (β.2 1) (β.1 0))) (nI (msum (β.2 3) (β.1 1))) := by
    unfold fX7_count
    rw [show fX7_count_7 N τ (fX7_count_34 N τ) N x1 (nI 0) (nI 0) (nI 0) = _ from y_cnt_loop1 N hO hM n1 _ x1 _ (β.1 0) 0 (by omega) N (by omega), fX7_count_34]
    exact y_cnt_loop2 N hO hM n2 _ x1 _ (β.1 1) 0 (by omega) N (by omega)
  rw [em]
  unfold fX6_count fX7_count_65
  by_cases c0 : x1 = nI 0
  · rw [if_pos c0, if_pos c0]
    obtain ⟨m, -, s1, s2, -⟩ := hS
    exact ⟨_, _, rfl, rfl, s1.trans s2.symm, hrel⟩
  rw [if_neg c0, if_neg c0]
  by_cases c1 : x1 = nI 1
  · have k0 : (σ.2 39 (nI 0).toNatClampNeg = 0 ∧ τ.2 65 (nI 0).toNatClampNeg = 0) ∨ (σ.2 39 (nI 0).toNatClampNeg = 1 ∧ τ.2 65 (nI 0).toNatClampNeg = 1) := (hI 0 (by decide)).imp id (fun h => ⟨h.1, h.2.1⟩)
    have k1 : (σ.2 39 (nI 1).toNatClampNeg = 0 ∧ τ.2 65 (nI 1).toNatClampNeg = 0) ∨ (σ.2 39 (nI 1).toNatClampNeg = 1 ∧ τ.2 65 (nI 1).toNatClampNeg = 1) := (hI 1 (by decide)).imp id (fun h => ⟨h.1, h.2.1⟩)
    rw [if_pos c1, if_pos c1, if_pos z02, if_pos z02, zlet_eq, zlet_eq]
    unfold fX6_count_62 fX7_count_123
    rcases k0 with ⟨a1, a2⟩ | ⟨a1, a2⟩ <;> rcases k1 with ⟨a3, a4⟩ | ⟨a3, a4⟩ <;> (rw [a1, a2]; simp only [zlet_eq, a3, a4]; exact ⟨_, _, rfl, rfl, rfl, hrel⟩)
  rw [if_neg c1, if_neg c1]
  by_cases c2 : x1 = nI 2
  · rw [if_pos c2, if_pos c2]
    obtain ⟨n, -, t1, t2, -⟩ := hT
    exact ⟨_, _, rfl, rfl, t1.trans t2.symm, hrel⟩
  rw [if_neg c2, if_neg c2]
  by_cases c3 : x1 = nI 3
  · rw [if_pos c3, if_pos c3, if_pos (show zin (nI 0) 4 by decide), if_pos (show zin (nI 0) (zlen 62) by decide), zlet_eq]
    obtain ⟨hl, m, hm, z1, z2, -⟩ := hH 0 (by decide)
    have z1 : σ.1 (46 + (nI 0).toNatClampNeg) 2 = nI m := z1
    have z2 : τ.2 63 (nI 0).toNatClampNeg = nI m := z2
    rcases hl with ⟨l1, l2⟩ | ⟨a, ha, l1, l2⟩
    · have l1 : σ.1 (46 + (nI 0).toNatClampNeg) 1 = -1 := l1
      have l2 : τ.2 62 (nI 0).toNatClampNeg = -4 := l2
      rw [l1, l2, if_pos rfl, if_pos rfl]
      exact ⟨_, _, rfl, rfl, rfl, hrel⟩
    · have l1 : σ.1 (46 + (nI 0).toNatClampNeg) 1 = nI a := l1
      have l2 : τ.2 62 (nI 0).toNatClampNeg = nI a := l2
      rw [l1, l2, if_neg (m_neg_lt (by omega) _ (by decide)), if_neg (m_neg_lt (by omega) _ (by decide)), if_pos (show zin (nI 0) (zlen 63) by decide), zlet_eq, z1, z2]
      exact ⟨_, _, rfl, rfl, rfl, hrel⟩
  rw [if_neg c3, if_neg c3]
  by_cases c4 : x1 = nI 4
  · rw [if_pos c4, if_pos c4, hX.1]
    have e := x_sum_loop N (σ := σ) (row := 1) (f := β.2 1) (n := β.1 0) (show _ ≤ 5 by omega) (by decide) (fun i hi => (hX.2.2.2.2.1 i hi).2.1) (β.1 0) 0 (by omega) N (by omega)
    unfold fX6_sumOf
    rw [show fX6_sumOf_4 N σ N 1 (nI (β.1 0)) (nI 0) (nI 0) = _ from e]
    exact ⟨_, _, rfl, rfl, rfl, hrel⟩
  rw [if_neg c4, if_neg c4]
  by_cases c5 : x1 = nI 5
  · rw [if_pos c5, if_pos c5, hX.2.1]
    have e := x_sum_loop N (σ := σ) (row := 3) (f := β.2 3) (n := β.1 1) (show _ ≤ 4 by omega) (by decide) (fun i hi => hX.2.2.2.2.2.1 i hi) (β.1 1) 0 (by omega) N (by omega)
    unfold fX6_sumOf
    rw [show fX6_sumOf_4 N σ N 3 (nI (β.1 1)) (nI 0) (nI 0) = _ from e]
    exact ⟨_, _, rfl, rfl, rfl, hrel⟩
  rw [if_neg c5, if_neg c5]
  exact ⟨_, _, rfl, rfl, rfl, hrel⟩

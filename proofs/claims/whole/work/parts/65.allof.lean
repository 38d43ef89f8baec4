/-! the model's towers -/
theorem g_row {n m c : Nat} (hn : n ≤ 5) (hm : m ≤ n) (hc : c < 5 ^ m) (hg : gB n m c = true) : (∀ i, i < m → dig m c i < n) ∧ (∀ i, i < m → ∀ j, j < m → dig m c i = dig m c j → i = j) ∧ mrow n m c = bitsQ (m, c) := by
  have h := g_ok (by omega) hm hc hg
  unfold gOk at h
  rw [Bool.and_eq_true, Bool.and_eq_true, List.all_eq_true, List.all_eq_true] at h
  obtain ⟨⟨h1, h2⟩, h3⟩ := h
  have key : ∀ i, i < m → ∀ j, j < i → ¬ dig m c i = dig m c j := fun i hi j hj => by
    have := List.all_eq_true.mp (h2 i (List.mem_range.mpr hi)) j (List.mem_range.mpr hj)
    simpa using this
  refine ⟨fun i hi => by simpa using h1 i (List.mem_range.mpr hi), fun i hi j hj e => ?_, (show mrow n m c = mbits (dig m c) m by simpa using h3)⟩
  rcases Nat.lt_trichotomy i j with h | h | h
  · exact absurd e.symm (key j hj i h)
  · exact h
  · exact absurd e (key i hi j h)
def mtow (β : mB) (m c : Nat) : mB := (fun j => if j = 2 then m else β.1 j, fun a => if a = 4 then dig m c else β.2 a)
theorem mtow_ok {β : mB} (hO : BOk β) {m c : Nat} (hm : m ≤ β.1 0) (h1 : ∀ i, i < m → dig m c i < β.1 0) (h2 : ∀ i, i < m → ∀ j, j < m → dig m c i = dig m c j → i = j) (hp : pQ β (m, c) = true) : BOk (mtow β m c) := by
  obtain ⟨o0, o1, o2, o3, o4, o5, o6, o7, o8, o9⟩ := hO
  refine ⟨o0, o1, hm, o3, o4, o5, h1, h2, o8, ?_⟩
  have e : cs (mtow β m c) (dig m c) m 0 = cs β (dig m c) m 0 := cs_congr m 0 (fun i hi => ⟨rfl, rfl, rfl⟩)
  exact e.trans hp
def FY (τ τ' : zS) : Prop := (∀ q, q ≠ 66 → τ'.1 q = τ.1 q) ∧ (∀ k, k < 21 ∨ 26 ≤ k → τ'.1 66 k = τ.1 66 k) ∧ (∀ q, q ≠ 55 → τ'.2 q = τ.2 q) ∧ ∀ i, i < 19 ∨ 25 ≤ i → τ'.2 55 i = τ.2 55 i
theorem FY_rfl (τ : zS) : FY τ τ := ⟨fun _ _ => rfl, fun _ _ => rfl, fun _ _ => rfl, fun _ _ => rfl⟩
theorem FY_tr {a b c : zS} (h1 : FY a b) (h2 : FY b c) : FY a c := ⟨fun q hq => (h2.1 q hq).trans (h1.1 q hq), fun q hq => (h2.2.1 q hq).trans (h1.2.1 q hq), fun q hq => (h2.2.2.1 q hq).trans (h1.2.2.1 q hq), fun q hq => (h2.2.2.2 q hq).trans (h1.2.2.2 q hq)⟩
theorem FY_p (τ : zS) {k : Nat} (h1 : 19 ≤ k) (h2 : k < 25) (v : Int32) : FY τ (zpa τ 55 (upd (τ.2 55) (nI k).toNatClampNeg v)) := ⟨fun q _ => by rw [zpa_1], fun q _ => by rw [zpa_1], fun q hq => by rw [zpa_2, if_neg hq], fun i hi => by rw [zpa_2, if_pos rfl, zupd, nI_clamp (by omega), if_neg (by omega)]⟩
theorem FY_s (τ : zS) {k : Nat} (h1 : 21 ≤ k) (h2 : k < 26) (v : Int32) : FY τ (zpf τ 66 k v) := ⟨fun q hq => by rw [zpf_1, if_neg hq], fun q hq => by rw [zpf_1, if_pos rfl, zup, if_neg (by omega)], fun q hq => by rw [zpf_2], fun i hi => by rw [zpf_2]⟩
theorem BM_tow {τ τ' : zS} {β : mB} {m c : Nat} (hO : BOk β) (hM : BM τ 0 β) (hf : FY τ τ') (h24 : τ'.2 55 24 = nI m) (h19 : ∀ i, i < m → τ'.2 55 (19 + i) = nI (dig m c i)) : BM τ' 0 (mtow β m c) := by
  obtain ⟨o0, o1, o2, o3, o4, o5, o6, o7, o8, o9⟩ := hO
  obtain ⟨b1, b2, b3, b4, b5⟩ := hM
  refine ⟨by rw [Nat.zero_add]; exact h24, ?_, fun i hi => ?_, fun i hi => ?_, fun i hi => ?_⟩
  · rw [hf.2.2.2 _ (by omega)]; exact b2
  · have hi : i < β.1 0 := hi
    rw [hf.2.2.2 _ (by omega), hf.2.2.2 _ (by omega), hf.2.2.2 _ (by omega), hf.2.2.2 _ (by omega)]
    exact b3 i hi
  · have hi : i < β.1 1 := hi
    rw [hf.2.2.2 _ (by omega)]; exact b4 i hi
  · rw [Nat.zero_add]; exact h19 i hi
theorem m_not : ∀ s, s < 32 → ∀ r, r < 32 → ((nI r &&& (nI s ^^^ (-1))) = 0 ↔ r &&& s = r) := by decide +kernel
def sQ (s : Nat) (β : mB) (q : qT) : Bool := (bitsQ q &&& s == bitsQ q) && pQ β q
theorem y_lay_loop (N : Nat) (hN : 4000 ≤ N) {m c : Nat} (hm : m ≤ 5) (hc : c < 2 ^ 31) (K : Int32 → zS → Option (Int32 × zS)) : ∀ d i : Nat, i + d = m → ∀ (f : Nat) (τ : zS), d < f → (∀ j, j < i → τ.2 55 (19 + j) = nI (dig m c j)) → ∃ τ' : zS, fX7_laysTower_31 N K f (nI c) (nI m) (nI i) τ = K (nI m) τ' ∧ FY τ τ' ∧ τ'.1 = τ.1 ∧ ∀ j, j < m → τ'.2 55 (19 + j) = nI (dig m c j) := by
  intro d
  induction d with
  | zero =>
    intro i hi f τ hf h
    obtain ⟨f, rfl⟩ : ∃ k, f = k + 1 := ⟨f - 1, by omega⟩
    rw [fX7_laysTower_31, if_pos ((nI_leI (by omega) (by omega)).mpr (by omega))]
    exact ⟨τ, rfl, FY_rfl τ, rfl, fun j hj => h j (by omega)⟩
  | succ d ih =>
    intro i hi f τ hf h
    obtain ⟨f, rfl⟩ : ∃ k, f = k + 1 := ⟨f - 1, by omega⟩
    rw [fX7_laysTower_31, if_neg (fun h => by have := (nI_leI (by omega) (by omega)).mp h; omega), y_figure N hN hc hm (by omega), Option.bind_some, nI_add, nI_add, zlen55, if_pos (m_zin (by omega) (by decide)), zlet_eq]
    obtain ⟨τ', k1, k2, k3, k4⟩ := ih (i + 1) (by omega) f (zpa τ 55 (upd (τ.2 55) (nI (19 + i)).toNatClampNeg (nI (dig m c i)))) (by omega) (fun j hj => by
      rw [zpa_2, if_pos rfl, zupd, nI_clamp (by omega)]
      by_cases hj' : j = i
      · rw [if_pos (by omega), hj']
      · rw [if_neg (by omega)]; exact h j (by omega))
    exact ⟨τ', k1, FY_tr (FY_p _ (by omega) (by omega) _) k2, k3, k4⟩
theorem FY_BK {τ τ' : zS} {β : mB} (hO : BOk β) (hM : BM τ 0 β) (hf : FY τ τ') : KW τ' 0 β := fun i hi => by
  have := hO.1
  rw [hf.2.2.2 _ (by omega), hf.2.2.2 _ (by omega)]
  exact BM_K hM i hi
theorem y_lays (N : Nat) (hN : 4000 ≤ N) {τ0 τ : zS} {β : mB} (hO : BOk β) (hM : BM τ0 0 β) (n1 : τ0.1 66 1 = nI (β.1 0)) (hf : FY τ0 τ) {m c s : Nat} (hm : m ≤ β.1 0) (hc : c < 5 ^ m) (hs : s < 32) : ∃ τ' : zS, fX7_laysTower N τ (nI c) (nI m) (nI s) = some (if gB (β.1 0) m c = true ∧ sQ s β (m, c) = true then 1 else 0, τ') ∧ FY τ0 τ' ∧ τ'.1 = τ.1 ∧ (gB (β.1 0) m c = true ∧ sQ s β (m, c) = true → BM τ' 0 (mtow β m c) ∧ BOk (mtow β m c)) := by
  have hn := hO.1
  have h5 : 5 ^ m ≤ 3125 := p5_le (by omega)
  have n1' : τ.1 66 1 = nI (β.1 0) := by rw [hf.2.1 1 (by omega)]; exact n1
  have hr := mrowL_lt (β.1 0) m c m 0 0 (by decide)
  have hr : mrow (β.1 0) m c < 32 := hr
  have hx : m ≤ 5 := by omega
  unfold fX7_laysTower
  rw [y_rowOf N hN n1' hn (by omega) (by omega), Option.bind_some]
  by_cases hg : gB (β.1 0) m c = true
  · obtain ⟨g1, g2, g3⟩ := g_row hn (by omega) hc hg
    have hb := bitsQ_lt (m, c)
    have hgo : ∃ τ' : zS, fX7_laysTower_17 N (nI c) (nI m) (nI s) (nI (mrow (β.1 0) m c)) τ = some (if gB (β.1 0) m c = true ∧ sQ s β (m, c) = true then 1 else 0, τ') ∧ FY τ0 τ' ∧ τ'.1 = τ.1 ∧ (gB (β.1 0) m c = true ∧ sQ s β (m, c) = true → BM τ' 0 (mtow β m c) ∧ BOk (mtow β m c)) := by
      rw [fX7_laysTower_17, g3]
      by_cases hsub : bitsQ (m, c) &&& s = bitsQ (m, c)
      · obtain ⟨τ1, k1, k2, k3, k4⟩ := y_lay_loop N hN (m := m) (c := c) (by omega) (by omega) (fX7_laysTower_60 N) m 0 (by omega) N τ (by omega) (fun j hj => absurd hj (by omega))
        rw [if_pos ((m_not s hs _ hb).mpr hsub), k1, fX7_laysTower_60, if_pos z24, zlet_eq]
        generalize hτ2 : zpa τ1 55 (upd (τ1.2 55) (nI 24).toNatClampNeg (nI m)) = τ2
        have f2 : FY τ0 τ2 := by rw [← hτ2]; exact FY_tr hf (FY_tr k2 (FY_p _ (by decide) (by decide) _))
        have e24 : τ2.2 55 24 = nI m := by rw [← hτ2, zpa_2, if_pos rfl, zupd, nI_clamp (by decide), if_pos rfl]
        have e19 : ∀ i, i < m → τ2.2 55 (19 + i) = nI (dig m c i) := fun i hi => by rw [← hτ2, zpa_2, if_pos rfl, zupd, nI_clamp (by decide), if_neg (by omega)]; exact k4 i hi
        have e1 : τ2.1 = τ.1 := by rw [← hτ2, zpa_1]; exact k3
        have hst : fX7_standsOn N τ2 (nI 0) = some (if cs β (dig m c) m 0 = true then 1 else 0) := y_standsG N hN (by decide) hO (FY_BK hO hM f2) (by omega) (by rw [Nat.zero_add]; exact e24) (fun i hi => ⟨by rw [Nat.zero_add]; exact e19 i hi, g1 i hi⟩)
        rw [hst, Option.bind_some]
        by_cases hp : cs β (dig m c) m 0 = true
        · have hq : sQ s β (m, c) = true := by unfold sQ; rw [Bool.and_eq_true]; exact ⟨by simpa using hsub, hp⟩
          rw [if_pos hp, if_pos (by decide), if_pos ⟨hg, hq⟩]
          exact ⟨τ2, rfl, f2, e1, fun _ => ⟨BM_tow hO hM f2 e24 e19, mtow_ok hO hm g1 g2 hp⟩⟩
        · have hq : ¬ sQ s β (m, c) = true := by unfold sQ; rw [Bool.and_eq_true]; exact fun h => hp h.2
          rw [if_neg hp, if_pos (by decide), if_neg (fun h => hq h.2)]
          exact ⟨τ2, rfl, f2, e1, fun h => absurd h.2 hq⟩
      · have hq : ¬ sQ s β (m, c) = true := by unfold sQ; rw [Bool.and_eq_true]; exact fun h => hsub (by simpa using h.1)
        rw [if_neg (fun h => hsub ((m_not s hs _ hb).mp h)), if_neg (fun h => hq h.2)]
        exact ⟨τ, rfl, hf, rfl, fun h => absurd h.2 hq⟩
    by_cases h0 : m = 0
    · rw [if_pos (show nI m ≤ 0 by rw [h0]; decide)]
      exact hgo
    · rw [if_neg (fun h => h0 (by have := (nI_leI (a := m) (b := 0) (by omega) (by decide)).mp h; omega))]
      have hne : ¬ mrow (β.1 0) m c = 0 := by
        unfold gB at hg
        simpa [h0] using hg
      rw [if_neg (show ¬ nI (mrow (β.1 0) m c) = 0 from fun h => hne ((nI_eq (b := 0) (by omega) (by decide)).mp h))]
      exact hgo
  · have h0 : ¬ m = 0 ∧ mrow (β.1 0) m c = 0 := by
      unfold gB at hg
      simpa using hg
    rw [if_neg (fun h => h0.1 (by have := (nI_leI (a := m) (b := 0) (by omega) (by decide)).mp h; omega)), h0.2, if_pos m_zero, if_neg (fun h => hg h.1)]
    exact ⟨τ, rfl, hf, rfl, fun h => absurd h.1 hg⟩
def BY (τ : zS) (β : mB) (aim : Nat) : Option qT → Prop
  | none => τ.1 66 23 = -1
  | some r => (inQ β r ∧ r.2 < 3125) ∧ τ.1 66 23 = nI (scQ β aim r) ∧ τ.1 66 24 = nI (noQ β r) ∧ τ.1 66 21 = nI r.2 ∧ τ.1 66 22 = nI r.1
def YA (τ : zS) (β : mB) (aim : Nat) (A : Nat × Option qT) : Prop := τ.1 66 25 = nI A.1 ∧ BY τ β aim A.2
def stY (β : mB) (aim : Nat) (A : Nat × Option qT) (q : qT) : Nat × Option qT := (A.1 + 1, selY (scQ β aim) A.2 q)
theorem YA_eq {τ τ' : zS} {β : mB} {aim : Nat} {A : Nat × Option qT} (h : τ'.1 = τ.1) (hA : YA τ β aim A) : YA τ' β aim A := by
  obtain ⟨h1, h2⟩ := hA
  refine ⟨by rw [h]; exact h1, ?_⟩
  revert h2
  cases A.2 with
  | none => intro h2; show τ'.1 66 23 = -1; rw [h]; exact h2
  | some r => intro h2; unfold BY; rw [h]; exact h2
theorem y_75 (N : Nat) {β : mB} (hO : BOk β) {aim : Nat} {m c : Nat} (hq : inQ β (m, c)) (hc : c < 3125) (rc : Int32 → Int32 → Int32 → Int32 → zS → Option zS) (K : Int32 → Int32 → Int32 → zS → Option zS) (x1 x2 : Int32) {τ : zS} {A : Nat × Option qT} (hA : YA τ β aim A) : ∃ τ' : zS, fX7_allTowers_75 N rc K x1 x2 (nI m) (nI c) (nI (noQ β (m, c))) (nI (scQ β aim (m, c))) τ = rc x1 x2 (nI m) (nI (c + 1)) τ' ∧ FY τ τ' ∧ YA τ' β aim (stY β aim A (m, c)) := by
  have hs := scQ_le (aim := aim) hO hq
  obtain ⟨a1, a2⟩ := hA
  unfold fX7_allTowers_75
  rw [zlet_eq]
  have htake : ∃ τ' : zS, (zlet (zpf (zpf τ 66 25 (τ.1 66 25 + nI 1)) 66 23 (nI (scQ β aim (m, c)))) fun τ3 => zlet (zpf τ3 66 24 (nI (noQ β (m, c)))) fun τ4 => zlet (zpf τ4 66 21 (nI c)) fun τ5 => zlet (zpf τ5 66 22 (nI m)) fun τ6 => (fX7_allTowers_119 N rc K) x1 x2 (nI m) (nI c) τ6) = rc x1 x2 (nI m) (nI (c + 1)) τ' ∧ FY τ τ' ∧ YA τ' β aim (A.1 + 1, some (m, c)) := by
    rw [zlet_eq, zlet_eq, zlet_eq, zlet_eq, fX7_allTowers_119, nI_add]
    refine ⟨_, rfl, FY_tr (FY_s _ (by decide) (by decide) _) (FY_tr (FY_s _ (by decide) (by decide) _) (FY_tr (FY_s _ (by decide) (by decide) _) (FY_tr (FY_s _ (by decide) (by decide) _) (FY_s _ (by decide) (by decide) _)))), ?_, ⟨hq, hc⟩, ?_, ?_, ?_, ?_⟩
    · simp [zpf_1, zup, a1, nI_add]
    · simp [zpf_1, zup]
    · simp [zpf_1, zup]
    · simp [zpf_1, zup]
    · simp [zpf_1, zup]
  have h23 : (zpf τ 66 25 (τ.1 66 25 + nI 1)).1 66 23 = τ.1 66 23 := by simp [zpf_1, zup]
  rw [h23]
  unfold stY
  revert a2
  cases A.2 with
  | none =>
    intro a2
    have a2 : τ.1 66 23 = -1 := a2
    rw [a2, if_neg (Int32.not_le.mpr (show (-1 : Int32) < nI (scQ β aim (m, c)) from Int32.lt_of_lt_of_le (b := nI 0) (by decide) ((nI_leI (by decide) (by omega)).mpr (Nat.zero_le _))))]
    exact htake
  | some r =>
    intro a2
    obtain ⟨⟨b0, b0'⟩, b1, b2, b3, b4⟩ := a2
    have hs' := scQ_le (aim := aim) hO b0
    rw [b1, selY]
    by_cases h : scQ β aim r < scQ β aim (m, c)
    · rw [if_neg (fun h' => by have := (nI_leI (by omega) (by omega)).mp h'; omega), if_pos h]
      exact htake
    · rw [if_pos ((nI_leI (by omega) (by omega)).mpr (by omega)), if_neg h, fX7_allTowers_119, nI_add]
      refine ⟨_, rfl, FY_s _ (by decide) (by decide) _, ?_, ⟨b0, b0'⟩, ?_, ?_, ?_, ?_⟩
      · simp [zpf_1, zup, a1, nI_add]
      · simp [zpf_1, zup, b1]
      · simp [zpf_1, zup, b2]
      · simp [zpf_1, zup, b3]
      · simp [zpf_1, zup, b4]
theorem y_codes (N : Nat) (hN : 4000 ≤ N) {τ0 : zS} {β : mB} (hO : BOk β) (hM : BM τ0 0 β) (n1 : τ0.1 66 1 = nI (β.1 0)) (n2 : τ0.1 66 2 = nI (β.1 1)) {m s way : Nat} (hm : m ≤ β.1 0) (hs : s < 32) (hw : way < 2) (K : Int32 → Int32 → Int32 → zS → Option zS) : ∀ e c : Nat, c + e = 5 ^ m → ∀ (f : Nat) (τ : zS) (A : Nat × Option qT), e < f → FY τ0 τ → YA τ β (2 * way) A → ∃ τ' : zS, fX7_allTowers_30 N K f (nI s) (nI way) (nI m) (nI c) τ = K (nI s) (nI way) (nI m) τ' ∧ FY τ0 τ' ∧ YA τ' β (2 * way) (((cdL (β.1 0) m e c).filter (sQ s β)).foldl (stY β (2 * way)) A) := by
  have hn := hO.1
  have h5 : 5 ^ m ≤ 3125 := p5_le (by omega)
  intro e
  induction e with
  | zero =>
    intro c hc f τ A hf hF hA
    obtain ⟨f, rfl⟩ : ∃ k, f = k + 1 := ⟨f - 1, by omega⟩
    rw [fX7_allTowers_30, y_powerOf N hN (by omega), Option.bind_some, if_pos ((nI_leI (by omega) (by omega)).mpr (by omega))]
    exact ⟨τ, rfl, hF, hA⟩
  | succ e ih =>
    intro c hc f τ A hf hF hA
    obtain ⟨f, rfl⟩ : ∃ k, f = k + 1 := ⟨f - 1, by omega⟩
    obtain ⟨τ1, k1, k2, k3, k4⟩ := y_lays N hN hO hM n1 hF (m := m) (c := c) (s := s) hm (by omega) hs
    rw [fX7_allTowers_30, y_powerOf N hN (by omega), Option.bind_some, if_neg (fun h => by have := (nI_leI (by omega) (by omega)).mp h; omega), k1, Option.bind_some]
    dsimp only
    rw [cdL]
    by_cases hg : gB (β.1 0) m c = true
    · rw [if_pos hg]
      by_cases hq : sQ s β (m, c) = true
      · obtain ⟨m1, m2⟩ := k4 ⟨hg, hq⟩
        obtain ⟨g1, g2, g3⟩ := g_row hn (by omega) (by omega) hg
        have hin : inQ β (m, c) := ⟨by show m ≤ 5; omega, g1⟩
        have hL := noQ_le hO hin
        have n2' : τ1.1 66 2 = nI ((mtow β m c).1 1) := by rw [k2.2.1 2 (by omega)]; exact n2
        have e1 : fX7_noiseBy N τ1 (nI 0) = some (nI (noQ β (m, c))) := by
          rw [y_noiseBy N hN m2 m1 (by decide), mnoiseH_0]
          rfl
        rw [if_neg (show ¬ (if gB (β.1 0) m c = true ∧ sQ s β (m, c) = true then (1 : Int32) else 0) = 0 by rw [if_pos ⟨hg, hq⟩]; exact z10), e1, Option.bind_some, List.filter_cons_of_pos hq, List.foldl_cons]
        have hA1 : YA τ1 β (2 * way) A := YA_eq k3 hA
        rcases (show way = 0 ∨ way = 1 by omega) with rfl | rfl
        · have e2 : fX7_fleeBy N τ1 (nI (noQ β (m, c))) = some (nI (mflee (β.2 3) (noQ β (m, c)) (β.1 1)).1) := y_fleeBy N hN m2 m1 n2' (by omega)
          have e3 : fX7_bitsOf N (nI (mflee (β.2 3) (noQ β (m, c)) (β.1 1)).1) = some (nI (scQ β (2 * 0) (m, c))) := y_bitsOf N hN (mflee_32 hO _)
          rw [if_pos m_zero, e2, Option.bind_some, e3, Option.bind_some]
          obtain ⟨τ2, l1, l2, l3⟩ := y_75 N hO (aim := 2 * 0) hin (by omega) (fX7_allTowers_30 N K f) K (nI s) (nI 0) hA1
          rw [l1]
          exact ih (c + 1) (by omega) f τ2 _ (by omega) (FY_tr k2 l2) l3
        · rw [if_neg (by decide)]
          obtain ⟨τ2, l1, l2, l3⟩ := y_75 N hO (aim := 2 * 1) hin (by omega) (fX7_allTowers_30 N K f) K (nI s) (nI 1) hA1
          have l1 : fX7_allTowers_75 N (fX7_allTowers_30 N K f) K (nI s) (nI 1) (nI m) (nI c) (nI (noQ β (m, c))) (nI (noQ β (m, c))) τ1 = _ := l1
          rw [l1]
          exact ih (c + 1) (by omega) f τ2 _ (by omega) (FY_tr k2 l2) l3
      · rw [if_pos (show (if gB (β.1 0) m c = true ∧ sQ s β (m, c) = true then (1 : Int32) else 0) = 0 from if_neg (fun h => hq h.2)), List.filter_cons_of_neg hq, fX7_allTowers_119, nI_add]
        exact ih (c + 1) (by omega) f τ1 A (by omega) k2 (YA_eq k3 hA)
    · rw [if_pos (show (if gB (β.1 0) m c = true ∧ sQ s β (m, c) = true then (1 : Int32) else 0) = 0 from if_neg (fun h => hg h.1)), if_neg hg, fX7_allTowers_119, nI_add]
      exact ih (c + 1) (by omega) f τ1 A (by omega) k2 (YA_eq k3 hA)
theorem y_sizes (N : Nat) (hN : 4000 ≤ N) {τ0 : zS} {β : mB} (hO : BOk β) (hM : BM τ0 0 β) (n1 : τ0.1 66 1 = nI (β.1 0)) (n2 : τ0.1 66 2 = nI (β.1 1)) {s way : Nat} (hs : s < 32) (hw : way < 2) (K : zS → Option zS) : ∀ e m : Nat, m + e = β.1 0 + 1 → ∀ (f : Nat) (τ : zS) (A : Nat × Option qT), e < f → FY τ0 τ → YA τ β (2 * way) A → ∃ τ' : zS, fX7_allTowers_19 N K f (nI s) (nI way) (nI m) τ = K τ' ∧ FY τ0 τ' ∧ YA τ' β (2 * way) (((szL (β.1 0) e m).filter (sQ s β)).foldl (stY β (2 * way)) A) := by
  have hn := hO.1
  intro e
  induction e with
  | zero =>
    intro m hm f τ A hf hF hA
    obtain ⟨f, rfl⟩ : ∃ k, f = k + 1 := ⟨f - 1, by omega⟩
    rw [fX7_allTowers_19, hF.2.1 1 (by omega), n1, if_pos ((nI_ltI (by omega) (by omega)).mpr (by omega))]
    exact ⟨τ, rfl, hF, hA⟩
  | succ e ih =>
    intro m hm f τ A hf hF hA
    obtain ⟨f, rfl⟩ : ∃ k, f = k + 1 := ⟨f - 1, by omega⟩
    have h5 : 5 ^ m ≤ 3125 := p5_le (by omega)
    rw [fX7_allTowers_19, hF.2.1 1 (by omega), n1, if_neg (fun h => by have := (nI_ltI (by omega) (by omega)).mp h; omega)]
    obtain ⟨τ1, k1, k2, k3⟩ := y_codes N hN hO hM n1 n2 (m := m) (by omega) hs hw (fX7_allTowers_125 N (fX7_allTowers_19 N K f) K) (5 ^ m) 0 (by omega) N τ A (by omega) hF hA
    rw [k1, fX7_allTowers_125, nI_add, szL, List.filter_append, List.foldl_append]
    exact ih (m + 1) (by omega) f τ1 _ (by omega) k2 k3
def AY (β : mB) (s aim : Nat) : Nat × Option qT := ((aL (β.1 0)).filter (sQ s β)).foldl (stY β aim) (0, none)
def FZ (τ τ' : zS) : Prop := (∀ q, q ≠ 66 → τ'.1 q = τ.1 q) ∧ (∀ k, k < 21 ∨ 26 ≤ k → τ'.1 66 k = τ.1 66 k) ∧ (∀ q, q ≠ 55 → τ'.2 q = τ.2 q) ∧ ∀ i, i < 124 → τ'.2 55 i = τ.2 55 i
theorem FZ_tr {a b c : zS} (h1 : FZ a b) (h2 : FZ b c) : FZ a c := ⟨fun q hq => (h2.1 q hq).trans (h1.1 q hq), fun q hq => (h2.2.1 q hq).trans (h1.2.1 q hq), fun q hq => (h2.2.2.1 q hq).trans (h1.2.2.1 q hq), fun q hq => (h2.2.2.2 q hq).trans (h1.2.2.2 q hq)⟩
theorem FZ_rfl (τ : zS) : FZ τ τ := ⟨fun _ _ => rfl, fun _ _ => rfl, fun _ _ => rfl, fun _ _ => rfl⟩
theorem FZ_M {τ τ' : zS} {β : mB} (hO : BOk β) (hf : FZ τ τ') (hM : BM τ 0 β) : BM τ' 0 β := BM_eq hO (fun i _ hi => hf.2.2.2 i (by omega)) hM
theorem y_all (N : Nat) (hN : 4000 ≤ N) {τ : zS} {β : mB} (hO : BOk β) (hM : BM τ 0 β) (n1 : τ.1 66 1 = nI (β.1 0)) (n2 : τ.1 66 2 = nI (β.1 1)) {s way : Nat} (hs : s < 32) (hw : way < 2) : ∃ τ' : zS, fX7_allTowers N τ (nI s) (nI way) = some τ' ∧ YA τ' β (2 * way) (AY β s (2 * way)) ∧ FZ τ τ' := by
  unfold fX7_allTowers
  obtain ⟨τ1, k1, k2, k3, k4, k5⟩ := y_copies N hN (a := 0) (b := 124) (by decide) (by decide) (by decide) τ
  rw [k1, Option.bind_some, zlet_eq, zlet_eq]
  generalize hτ2 : zpf (zpf τ1 66 23 (-1)) 66 25 (nI 0) = τ2
  have f12 : FY τ1 τ2 := by rw [← hτ2]; exact FY_tr (FY_s _ (by decide) (by decide) _) (FY_s _ (by decide) (by decide) _)
  have hA : YA τ2 β (2 * way) (0, none) := by
    rw [← hτ2]
    refine ⟨by simp [zpf_1, zup], ?_⟩
    show _ = _
    simp [zpf_1, zup]
  have hM2 : BM τ2 0 β := BM_eq hO (fun i _ hi => by rw [← hτ2, zpf_2, zpf_2]; exact k5 i (by omega)) hM
  obtain ⟨τ3, l1, l2, l3⟩ := y_sizes N hN hO hM2 (by rw [f12.2.1 1 (by omega), k2]; exact n1) (by rw [f12.2.1 2 (by omega), k2]; exact n2) hs hw (fX7_allTowers_131 N) (β.1 0 + 1) 0 (by omega) N τ2 _ (by have := hO.1; omega) (FY_rfl τ2) hA
  obtain ⟨τ4, m1, m2, m3, m4, m5⟩ := y_copies N hN (a := 124) (b := 0) (by decide) (by decide) (by decide) τ3
  rw [l1, fX7_allTowers_131, m1, Option.bind_some]
  have l2 := FY_tr f12 l2
  refine ⟨τ4, rfl, YA_eq m2 l3, fun q hq => by rw [m2, l2.1 q hq, k2], fun k hk => by rw [m2, l2.2.1 k hk, k2], fun q hq => by rw [m3 q hq, l2.2.2.1 q hq, k3 q hq], fun i hi => ?_⟩
  by_cases h : i < 31
  · have := m4 i h
    rw [Nat.zero_add] at this
    rw [this, l2.2.2.2 _ (by omega), k4 i h, Nat.zero_add]
  · rw [m5 i (by omega), l2.2.2.2 i (by omega), k5 i (by omega)]

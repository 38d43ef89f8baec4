/-! the class's walk over towers -/
def bitsQ (q : qT) : Nat := mbits (dig q.1 q.2) q.1
def noQ (β : mB) (q : qT) : Nat := mnoise (dig q.1 q.2) (β.2 2) q.1
def flQ (β : mB) (q : qT) : Nat := mpop (mflee (β.2 3) (noQ β q) (β.1 1)).1
def scQ (β : mB) (aim : Nat) (q : qT) : Nat := if aim = 1 then (if flQ β q = β.1 1 then 1 else 0) else if aim = 2 then noQ β q else flQ β q
def inQ (β : mB) (q : qT) : Prop := q.1 ≤ 5 ∧ ∀ i, i < q.1 → dig q.1 q.2 i < β.1 0
def pQ (β : mB) (q : qT) : Bool := cs β (dig q.1 q.2) q.1 0
theorem mnoise_b {T V : Nat → Nat} : ∀ m : Nat, m ≤ 5 → (∀ i, i < m → V (T i) ≤ 9) → mnoise T V m ≤ 45 * m
  | 0, _, _ => Nat.le_refl _
  | m + 1, hm, h => by
    have h1 := mnoise_b m (by omega) (fun i hi => h i (by omega))
    have h2 : V (T m) * (m + 1) ≤ 9 * 5 := Nat.mul_le_mul (h m (by omega)) (by omega)
    rw [mnoise]
    omega
theorem noQ_le {β : mB} (hO : BOk β) {q : qT} (h : inQ β q) : noQ β q ≤ 225 := by
  have := mnoise_b (T := dig q.1 q.2) (V := β.2 2) q.1 h.1 (fun i hi => (hO.2.2.2.2.1 _ (h.2 i hi)).2.2.2.1)
  have h5 := h.1
  unfold noQ
  omega
theorem mpop_5 (m : Nat) : mpop m ≤ 5 := by unfold mpop; omega
theorem flQ_le (β : mB) (q : qT) : flQ β q ≤ 5 := mpop_5 _
theorem scQ_le {β : mB} (hO : BOk β) {aim : Nat} {q : qT} (h : inQ β q) : scQ β aim q ≤ 225 := by
  have h1 := noQ_le hO h
  have h2 := flQ_le β q
  unfold scQ
  split
  · split <;> omega
  · split <;> omega
theorem bitsQ_lt (q : qT) : bitsQ q < 32 := mbits_lt _ _ (fun i _ => dig_lt _ _ _)
def FT (σ σ' : zS) : Prop := (∀ q, q ≠ 52 → σ'.1 q = σ.1 q) ∧ ∀ q, q < 27 ∨ 30 ≤ q → σ'.2 q = σ.2 q
theorem FT_rfl (σ : zS) : FT σ σ := ⟨fun _ _ => rfl, fun _ _ => rfl⟩
theorem FT_tr {a b c : zS} (h1 : FT a b) (h2 : FT b c) : FT a c := ⟨fun q hq => (h2.1 q hq).trans (h1.1 q hq), fun q hq => (h2.2 q hq).trans (h1.2 q hq)⟩
theorem FT_X {σ σ' : zS} {β : mB} (h : FT σ σ') (hX : BX σ 42 β) : BX σ' 42 β := BX_eq (h.1 42 (by decide)) (fun k hk => h.2 _ (by unfold zba; omega)) hX
theorem FT_f (σ : zS) (k : Nat) (v : Int32) : FT σ (zpf σ 52 k v) := ⟨fun q hq => by rw [zpf_1, if_neg hq], fun q _ => by rw [zpf_2]⟩
theorem FT_a (σ : zS) {r : Nat} (h1 : 27 ≤ r) (h2 : r < 30) (f : Nat → Int32) : FT σ (zpa σ r f) := ⟨fun q _ => by rw [zpa_1], fun q hq => by rw [zpa_2, if_neg (by omega)]⟩
def BR (σ : zS) (β : mB) (aim : Nat) : Option qT → Prop
  | none => σ.1 52 4 = -1
  | some r => inQ β r ∧ σ.1 52 4 = nI (scQ β aim r) ∧ σ.1 52 5 = nI (noQ β r) ∧ σ.1 52 3 = nI r.1 ∧ ∀ i, i < r.1 → σ.2 28 i = nI (dig r.1 r.2 i)
abbrev aT : Type := Nat × (Nat → Nat) × Option qT
def RA (σ : zS) (β : mB) (aim : Nat) (A : aT) : Prop := σ.1 52 6 = nI A.1 ∧ (∀ u, u < 32 → σ.2 29 u = nI (A.2.1 u) ∧ A.2.1 u ≤ 5) ∧ BR σ β aim A.2.2
def stX (β : mB) (aim : Nat) (A : aT) (q : qT) : aT := (A.1 + 1, (fun u => if u = bitsQ q then max (A.2.1 u) (flQ β q) else A.2.1 u), selX (scQ β aim) A.2.2 q)
theorem zlen27 : zlen 27 = 5 := rfl
theorem zlen28 : zlen 28 = 5 := rfl
theorem zlen29 : zlen 29 = 32 := rfl
theorem x_take (N : Nat) {σ : zS} {β : mB} {aim : Nat} {q : qT} (hq : inQ β q) (hr : ∀ i, i < q.1 → σ.2 27 i = nI (dig q.1 q.2 i)) : ∃ σ' : zS, fX5_weigh_118 N (nI q.1) (nI (noQ β q)) (nI (scQ β aim q)) σ = some σ' ∧ BR σ' β aim (some q) ∧ σ'.1 52 6 = σ.1 52 6 ∧ σ'.2 29 = σ.2 29 ∧ σ'.2 27 = σ.2 27 ∧ FT σ σ' := by
  unfold fX5_weigh_118
  rw [zlet_eq, zlet_eq, zlet_eq, zlen27, zlen28, if_pos (z_cond (by decide) (by decide) (by decide)), zlet_eq]
  refine ⟨_, rfl, ⟨hq, ?_, ?_, ?_, ?_⟩, ?_, ?_, ?_, ?_⟩
  · simp [zpa_1, zpf_1, zup]
  · simp [zpa_1, zpf_1, zup]
  · simp [zpa_1, zpf_1, zup]
  · intro i hi
    rw [zpa_2, if_pos rfl, x_cpy (by decide), if_pos (by have := hq.1; omega)]
    exact hr i hi
  · simp [zpa_1, zpf_1, zup]
  · rw [zpa_2, if_neg (by decide)]; rfl
  · rw [zpa_2, if_neg (by decide)]; rfl
  · exact FT_tr (FT_tr (FT_tr (FT_f _ _ _) (FT_f _ _ _)) (FT_f _ _ _)) (FT_a _ (by decide) (by decide) _)
theorem x_weigh92 (N : Nat) {σ : zS} {β : mB} (hO : BOk β) {aim : Nat} {q : qT} (hq : inQ β q) {o : Option qT} (hb : BR σ β aim o) (hr : ∀ i, i < q.1 → σ.2 27 i = nI (dig q.1 q.2 i)) : ∃ σ' : zS, fX5_weigh_92 N (nI q.1) (nI (noQ β q)) (nI (scQ β aim q)) σ = some σ' ∧ BR σ' β aim (selX (scQ β aim) o q) ∧ σ'.1 52 6 = σ.1 52 6 ∧ σ'.2 29 = σ.2 29 ∧ σ'.2 27 = σ.2 27 ∧ FT σ σ' := by
  have hs := scQ_le (aim := aim) hO hq
  have hq5 := hq.1
  have ht := x_take N (σ := σ) (aim := aim) hq hr
  unfold fX5_weigh_92
  cases o with
  | none =>
    have hb : σ.1 52 4 = -1 := hb
    rw [hb, if_pos (show (-1 : Int32) < nI (scQ β aim q) from Int32.lt_of_lt_of_le (b := nI 0) (by decide) ((nI_leI (by decide) (by omega)).mpr (Nat.zero_le _)))]
    exact ht
  | some r =>
    obtain ⟨b0, b1, b2, b3, b4⟩ := hb
    have hs' := scQ_le (aim := aim) hO b0
    have hr5 := b0.1
    rw [b1, b3, selX]
    by_cases h1 : scQ β aim r < scQ β aim q
    · rw [if_pos ((nI_ltI (by omega) (by omega)).mpr h1), if_pos (Or.inl h1)]
      exact ht
    · rw [if_neg (fun h => h1 ((nI_ltI (by omega) (by omega)).mp h))]
      by_cases h2 : scQ β aim q = scQ β aim r
      · rw [if_pos (show nI (scQ β aim q) = nI (scQ β aim r) by rw [h2])]
        by_cases h3 : r.1 ≤ q.1
        · rw [if_pos ((nI_leI (by omega) (by omega)).mpr h3), if_neg (by omega)]
          exact ⟨σ, rfl, ⟨b0, b1, b2, b3, b4⟩, rfl, rfl, rfl, FT_rfl σ⟩
        · rw [if_neg (fun h => h3 ((nI_leI (by omega) (by omega)).mp h)), if_pos (by omega)]
          exact ht
      · rw [if_neg (fun h => h2 ((nI_eq (by omega) (by omega)).mp h)), if_neg (by omega)]
        exact ⟨σ, rfl, ⟨b0, b1, b2, b3, b4⟩, rfl, rfl, rfl, FT_rfl σ⟩
theorem x_weigh (N : Nat) (hN : 4000 ≤ N) {σ : zS} {β : mB} (hO : BOk β) (hX : BX σ 42 β) {aim : Nat} (ha : aim < 3) {q : qT} (hq : inQ β q) {A : aT} (hA : RA σ β aim A) (hr : ∀ i, i < q.1 → σ.2 27 i = nI (dig q.1 q.2 i)) : ∃ σ' : zS, fX5_weigh N σ 42 (nI aim) (nI q.1) (nI (bitsQ q)) = some σ' ∧ RA σ' β aim (stX β aim A q) ∧ σ'.2 27 = σ.2 27 ∧ FT σ σ' := by
  have hq5 := hq.1
  have hL := noQ_le hO hq
  have hF := flQ_le β q
  have hn := hO.1
  have hrob := hO.2.1
  have hu := bitsQ_lt q
  obtain ⟨z0, z1, z2, z3, z4, z5⟩ := zlen_ba (b := 42) (by decide) (by decide)
  have e1 : fX0_noiseBy N σ 42 27 (nI q.1) (zba 42 2) = some (nI (noQ β q)) :=
    x_noiseBy N hN (T := dig q.1 q.2) (V := β.2 2) (by rw [zlen27]; exact hq5) (by decide) (by decide) (fun i hi => ⟨hr i hi, by rw [z2]; exact dig_lt _ _ _, (hX.2.2.2.2.1 _ (hq.2 i hi)).2.2.1⟩)
  have e2 := x_fledBits N hN (by decide) (by decide) hO hX (L := noQ β q) (by omega)
  have e3 : fJ6_bitCount_0f7a4 N (nI (mflee (β.2 3) (noQ β q) (β.1 1)).1) = some (nI (flQ β q)) := x_bitCount N (mflee_32 hO _)
  obtain ⟨hA1, hA2, hA3⟩ := hA
  have hz : zin (nI (bitsQ q)) (zlen 29) := m_zin hu (by decide)
  have hv := hA2 _ hu
  have er : (zpf σ 52 6 (σ.1 52 6 + nI 1)).2 29 (nI (bitsQ q)).toNatClampNeg = nI (A.2.1 (bitsQ q)) := by rw [zpf_2, nI_clamp (by omega)]; exact hv.1
  have em : (if nI (A.2.1 (bitsQ q)) < nI (flQ β q) then nI (flQ β q) else nI (A.2.1 (bitsQ q))) = nI (max (A.2.1 (bitsQ q)) (flQ β q)) := by
    by_cases h : A.2.1 (bitsQ q) < flQ β q
    · rw [if_pos ((nI_ltI (by omega) (by omega)).mpr h), Nat.max_eq_right (by omega)]
    · rw [if_neg (fun h' => h ((nI_ltI (by omega) (by omega)).mp h')), Nat.max_eq_left (by omega)]
  unfold fX5_weigh
  rw [e1, Option.bind_some, e2, Option.bind_some, e3, Option.bind_some, zlet_eq, if_pos hz, zlet_eq, er, zlet_eq, em, if_pos hz, zlet_eq]
  generalize hσ9 : zpa (zpf σ 52 6 (σ.1 52 6 + nI 1)) 29 (upd ((zpf σ 52 6 (σ.1 52 6 + nI 1)).2 29) (nI (bitsQ q)).toNatClampNeg (nI (max (A.2.1 (bitsQ q)) (flQ β q)))) = σ9
  have hf9 : FT σ σ9 := by rw [← hσ9]; exact FT_tr (FT_f _ _ _) (FT_a _ (by decide) (by decide) _)
  have h27 : σ9.2 27 = σ.2 27 := by rw [← hσ9, zpa_2, if_neg (by decide)]; rfl
  have h28 : σ9.2 28 = σ.2 28 := by rw [← hσ9, zpa_2, if_neg (by decide)]; rfl
  have h6 : σ9.1 52 6 = nI (A.1 + 1) := by rw [← hσ9, zpa_1, zpf_1, if_pos rfl, zup, if_pos rfl, hA1, nI_add]
  have h52 : ∀ k, k ≠ 6 → σ9.1 52 k = σ.1 52 k := fun k hk => by rw [← hσ9, zpa_1, zpf_1, if_pos rfl, zup, if_neg hk]
  have h29 : ∀ u, u < 32 → σ9.2 29 u = nI ((stX β aim A q).2.1 u) ∧ (stX β aim A q).2.1 u ≤ 5 := by
    intro u hu'
    have hx : (stX β aim A q).2.1 u = if u = bitsQ q then max (A.2.1 u) (flQ β q) else A.2.1 u := rfl
    rw [← hσ9, zpa_2, if_pos rfl, zupd, nI_clamp (by omega), zpf_2, hx]
    by_cases h : u = bitsQ q
    · rw [if_pos h, if_pos h, h]
      exact ⟨rfl, by omega⟩
    · rw [if_neg h, if_neg h]
      exact hA2 u hu'
  have hb9 : BR σ9 β aim A.2.2 := by
    have := hA3
    revert this
    cases A.2.2 with
    | none => intro h; show σ9.1 52 4 = -1; rw [h52 4 (by decide)]; exact h
    | some r => intro h; exact ⟨h.1, by rw [h52 4 (by decide)]; exact h.2.1, by rw [h52 5 (by decide)]; exact h.2.2.1, by rw [h52 3 (by decide)]; exact h.2.2.2.1, by rw [h28]; exact h.2.2.2.2⟩
  obtain ⟨σ', k1, k2, k3, k4, k5, k6⟩ := x_weigh92 N hO hq hb9 (by rw [h27]; exact hr)
  have hgo : ∃ σ' : zS, fX5_weigh_92 N (nI q.1) (nI (noQ β q)) (nI (scQ β aim q)) σ9 = some σ' ∧ RA σ' β aim (stX β aim A q) ∧ σ'.2 27 = σ.2 27 ∧ FT σ σ' :=
    ⟨σ', k1, ⟨by rw [k3, h6]; rfl, by rw [k4]; exact h29, k2⟩, by rw [k5, h27], FT_tr hf9 k6⟩
  have h7 : σ9.1 42 7 = nI (β.1 1) := by rw [hf9.1 42 (by decide)]; exact hX.2.1
  rcases (show aim = 0 ∨ aim = 1 ∨ aim = 2 by omega) with rfl | rfl | rfl
  · rw [if_neg (by decide), if_neg (by decide)]
    exact hgo
  · rw [if_pos rfl, h7]
    by_cases h : flQ β q = β.1 1
    · rw [if_pos (by rw [h]), fX5_weigh_78]
      rw [show scQ β 1 q = 1 by unfold scQ; rw [if_pos rfl, if_pos h]] at hgo
      exact hgo
    · rw [if_neg (fun h' => h ((nI_eq (by omega) (by omega)).mp h')), fX5_weigh_78]
      rw [show scQ β 1 q = 0 by unfold scQ; rw [if_pos rfl, if_neg h]] at hgo
      exact hgo
  · rw [if_neg (by decide), if_pos rfl]
    exact hgo
/-! the tree -/
theorem dig_lo {m c b i : Nat} (hb : b < 5) (hi : i < m) : dig (m + 1) (5 * c + b) i = dig m c i := by
  unfold dig
  rw [show m + 1 - 1 - i = (m - 1 - i) + 1 by omega, Nat.pow_succ', ← Nat.div_div_eq_div_mul, show (5 * c + b) / 5 = c by omega]
theorem dig_hi {m c b : Nat} (hb : b < 5) : dig (m + 1) (5 * c + b) m = b := by
  unfold dig
  rw [show m + 1 - 1 - m = 0 by omega, Nat.pow_zero, Nat.div_one]
  omega
theorem mbits_congr {T T' : Nat → Nat} : ∀ m : Nat, (∀ i, i < m → T i = T' i) → mbits T m = mbits T' m
  | 0, _ => rfl
  | m + 1, h => by rw [mbits, mbits, mbits_congr m (fun i hi => h i (by omega)), h m (by omega)]
theorem mbits_kid {m c b : Nat} (hb : b < 5) : mbits (dig (m + 1) (5 * c + b)) (m + 1) = mbits (dig m c) m ||| 2 ^ b := by
  rw [mbits, dig_hi hb, mbits_congr m (fun i hi => dig_lo hb hi)]
theorem kG_mem {F : Nat → List (Nat × Nat)} {q : Nat × Nat} : ∀ e b : Nat, q ∈ kG F e b → ∃ b', b ≤ b' ∧ b' < b + e ∧ q ∈ F b'
  | 0, _, h => absurd h (List.not_mem_nil)
  | e + 1, b, h => by
    rw [kG] at h
    rcases List.mem_append.mp h with h | h
    · exact ⟨b, Nat.le_refl _, by omega, h⟩
    · obtain ⟨b', h1, h2, h3⟩ := kG_mem e (b + 1) h
      exact ⟨b', by omega, by omega, h3⟩
theorem dG_ext {n : Nat} (hn : n ≤ 5) {q : Nat × Nat} : ∀ d m c u : Nat, q ∈ dG n d m c u → m ≤ q.1 ∧ ∀ i, i < m → dig q.1 q.2 i = dig m c i
  | 0, m, c, u, h => by
    rw [dG] at h
    rw [List.mem_singleton.mp h]
    exact ⟨Nat.le_refl _, fun _ _ => rfl⟩
  | d + 1, m, c, u, h => by
    rw [dG] at h
    rcases List.mem_cons.mp h with h | h
    · rw [h]
      exact ⟨Nat.le_refl _, fun _ _ => rfl⟩
    · obtain ⟨b', h1, h2, h3⟩ := kG_mem _ _ h
      split at h3
      · exact absurd h3 (List.not_mem_nil)
      · obtain ⟨k1, k2⟩ := dG_ext hn d _ _ _ h3
        exact ⟨by omega, fun i hi => by rw [k2 i (by omega), dig_lo (by omega) hi]⟩
theorem dG_none {n : Nat} (hn : n ≤ 5) {β : mB} {d m c u : Nat} (h : ¬ cs β (dig m c) m 0 = true) : (dG n d m c u).filter (pQ β) = [] := by
  rw [List.filter_eq_nil_iff]
  intro q hq hp
  obtain ⟨h1, h2⟩ := dG_ext hn d m c u hq
  apply h
  have := cs_less (β := β) (T := dig q.1 q.2) q.1 m h1 0 hp
  rw [← this]
  exact cs_congr m 0 (fun i hi => ⟨(h2 i hi).symm, rfl, rfl⟩)
theorem cs_kid {β : mB} {m c b : Nat} (hb : b < 5) : cs β (dig (m + 1) (5 * c + b)) (m + 1) 0 = cs β (dig m c) m (β.2 1 b) := by
  rw [cs, dig_hi hb, Nat.zero_add]
  rw [cs_congr (β := β) (β' := β) (T := dig m c) m (β.2 1 b) (fun i hi => ⟨dig_lo hb hi, rfl, rfl⟩)]
  simp
def VI (N : Nat) (β : mB) (aim d m c : Nat) : Prop := (∀ i, i < m → dig m c i < β.1 0) → cs β (dig m c) m 0 = true → ∀ (σ : zS) (A : aT), BX σ 42 β → (∀ i, i < m → σ.2 27 i = nI (dig m c i)) → RA σ β aim A → ∃ σ' : zS, fX5_visit_D (d + 2) N σ 42 (nI aim) (nI m) (nI (mbits (dig m c) m)) = some σ' ∧ RA σ' β aim (((dG (β.1 0) d m c (mbits (dig m c) m)).filter (pQ β)).foldl (stX β aim) A) ∧ FT σ σ' ∧ ∀ i, i < m → σ'.2 27 i = σ.2 27 i
theorem x_vloop (N : Nat) (hN : 4000 ≤ N) {β : mB} (hO : BOk β) {aim d m c : Nat} (hm : m < 5) (hd : ∀ i, i < m → dig m c i < β.1 0) (IH : ∀ b, b < β.1 0 → VI N β aim d (m + 1) (5 * c + b)) : ∀ e b : Nat, b + e = β.1 0 → ∀ (f : Nat) (σ : zS) (A : aT), e < f → BX σ 42 β → (∀ i, i < m → σ.2 27 i = nI (dig m c i)) → RA σ β aim A → ∃ σ' : zS, fX5_visit_18 N (fX5_visit_D (d + 2)) f 42 (nI aim) (nI m) (nI (mbits (dig m c) m)) (nI b) σ = some σ' ∧ RA σ' β aim (((kG (fun b => if (mbits (dig m c) m).testBit b = true then [] else dG (β.1 0) d (m + 1) (5 * c + b) (mbits (dig m c) m ||| 2 ^ b)) e b).filter (pQ β)).foldl (stX β aim) A) ∧ FT σ σ' ∧ ∀ i, i < m → σ'.2 27 i = σ.2 27 i := by
  have hn := hO.1
  obtain ⟨z0, z1, z2, z3, z4, z5⟩ := zlen_ba (b := 42) (by decide) (by decide)
  have hu : mbits (dig m c) m < 32 := bitsQ_lt (m, c)
  intro e
  induction e with
  | zero =>
    intro b hb f σ A hf hX hr hA
    obtain ⟨f, rfl⟩ : ∃ k, f = k + 1 := ⟨f - 1, by omega⟩
    rw [fX5_visit_18, hX.1, if_pos ((nI_leI (by omega) (by omega)).mpr (by omega))]
    exact ⟨σ, rfl, hA, FT_rfl σ, fun _ _ => rfl⟩
  | succ e ih =>
    intro b hb f σ A hf hX hr hA
    obtain ⟨f, rfl⟩ : ∃ k, f = k + 1 := ⟨f - 1, by omega⟩
    rw [fX5_visit_18, hX.1, if_neg (fun h => by have := (nI_leI (by omega) (by omega)).mp h; omega), kG, List.filter_append, List.foldl_append]
    by_cases ht : (mbits (dig m c) m).testBit b = true
    · rw [if_neg (fun h => by have := (m_tst0 (by omega) (by omega)).mp h; rw [ht] at this; exact absurd this (by decide)), if_pos ht, fX5_visit_80, nI_add]
      exact ih (b + 1) (by omega) f σ A (by omega) hX hr hA
    · have hw := (hO.2.2.2.2.1 b (by omega)).2.2.1
      have hrd : σ.2 (zba 42 1) (nI b).toNatClampNeg = nI (β.2 1 b) := by rw [nI_clamp (by omega)]; exact (hX.2.2.2.2.1 b (by omega)).2.1
      rw [if_pos ((m_tst0 (by omega) (by omega)).mpr (by simpa using ht)), if_neg ht, z1, if_pos (m_zin (by omega) (by decide)), zlet_eq, hrd, x_carries N hN (by decide) (by decide) hO (BX_K hX) (T := dig m c) (by rw [zlen27]; omega) (by decide) (fun i hi => ⟨hr i hi, hd i hi⟩) (by omega), Option.bind_some]
      by_cases hc : cs β (dig m c) m (β.2 1 b) = true
      · rw [if_pos hc, if_neg z10, if_pos (m_zin (by rw [zlen27]; omega) (by decide)), zlet_eq, m_bit (by omega), m_or, nI_add]
        have hkd : ∀ i, i < m + 1 → dig (m + 1) (5 * c + b) i < β.1 0 := fun i hi => by
          by_cases h : i = m
          · rw [h, dig_hi (by omega)]; omega
          · rw [dig_lo (by omega) (by omega)]; exact hd i (by omega)
        have hkr : ∀ i, i < m + 1 → (zpa σ 27 (upd (σ.2 27) (nI m).toNatClampNeg (nI b))).2 27 i = nI (dig (m + 1) (5 * c + b) i) := fun i hi => by
          rw [zpa_2, if_pos rfl, zupd, nI_clamp (by omega)]
          by_cases h : i = m
          · rw [if_pos h, h, dig_hi (by omega)]
          · rw [if_neg h, dig_lo (by omega) (by omega)]; exact hr i (by omega)
        have hfa : FT σ (zpa σ 27 (upd (σ.2 27) (nI m).toNatClampNeg (nI b))) := FT_a _ (by decide) (by decide) _
        have hra : RA (zpa σ 27 (upd (σ.2 27) (nI m).toNatClampNeg (nI b))) β aim A := hA
        obtain ⟨σ1, k1, k2, k3, k4⟩ := IH b (by omega) hkd (by rw [cs_kid (by omega)]; exact hc) _ A (FT_X hfa hX) hkr hra
        rw [mbits_kid (by omega)] at k1 k2
        rw [k1, Option.bind_some, fX5_visit_80, nI_add]
        have h3 : FT σ σ1 := FT_tr hfa k3
        have hkeep : ∀ i, i < m → σ1.2 27 i = σ.2 27 i := fun i hi => by
          rw [k4 i (by omega), zpa_2, if_pos rfl, zupd, nI_clamp (by omega), if_neg (by omega)]
        obtain ⟨σ2, l1, l2, l3, l4⟩ := ih (b + 1) (by omega) f σ1 _ (by omega) (FT_X h3 hX) (fun i hi => by rw [hkeep i hi]; exact hr i hi) k2
        exact ⟨σ2, l1, l2, FT_tr h3 l3, fun i hi => by rw [l4 i hi, hkeep i hi]⟩
      · rw [if_neg hc, if_pos rfl, fX5_visit_80, nI_add, dG_none hn (by rw [cs_kid (by omega)]; exact hc)]
        exact ih (b + 1) (by omega) f σ A (by omega) hX hr hA
theorem x_visit (N : Nat) (hN : 4000 ≤ N) {β : mB} (hO : BOk β) {aim : Nat} (ha : aim < 3) : ∀ d m c : Nat, m + d = 5 → VI N β aim d m c := by
  intro d
  induction d with
  | zero =>
    intro m c hm hd hc σ A hX hr hA
    obtain ⟨σ', k1, k2, k3, k4⟩ := x_weigh N hN hO hX ha (q := (m, c)) ⟨by show m ≤ 5; omega, hd⟩ hA hr
    have k1 : fX5_weigh N σ 42 (nI aim) (nI m) (nI (mbits (dig m c) m)) = some σ' := k1
    rw [fX5_visit_D, fX5_visit_B, k1, Option.bind_some, if_neg (fun h => by have := (nI_ltI (by omega) (by decide)).mp h; omega), dG, List.filter_cons_of_pos (show pQ β (m, c) = true from hc)]
    exact ⟨σ', rfl, k2, k4, fun i _ => by rw [k3]⟩
  | succ d ih =>
    intro m c hm hd hc σ A hX hr hA
    obtain ⟨σ', k1, k2, k3, k4⟩ := x_weigh N hN hO hX ha (q := (m, c)) ⟨by show m ≤ 5; omega, hd⟩ hA hr
    have k1 : fX5_weigh N σ 42 (nI aim) (nI m) (nI (mbits (dig m c) m)) = some σ' := k1
    rw [fX5_visit_D, fX5_visit_B, k1, Option.bind_some, if_pos ((nI_ltI (by omega) (by decide)).mpr (by omega)), dG, List.filter_cons_of_pos (show pQ β (m, c) = true from hc), List.foldl_cons]
    obtain ⟨σ2, l1, l2, l3, l4⟩ := x_vloop N hN hO (aim := aim) (d := d) (m := m) (c := c) (by omega) hd (fun b _ => ih (m + 1) (5 * c + b) (by omega)) (β.1 0) 0 (by omega) N σ' _ (by have := hO.1; omega) (FT_X k4 hX) (fun i hi => by rw [k3]; exact hr i hi) k2
    exact ⟨σ2, l1, l2, FT_tr k4 l3, fun i hi => by rw [l4 i hi, k3]⟩

/-! what each is worth -/
def vlQ (β : mB) (s : Nat) : Nat := supL (AX β 0).2.1 (rL 5 s)
theorem vlQ_top {β : mB} {s : Nat} (hs : s < 32) : (∀ q, q ∈ LX β → bitsQ q &&& s = bitsQ q → flQ β q ≤ vlQ β s) ∧ ∃ q, q ∈ LX β ∧ bitsQ q &&& s = bitsQ q ∧ flQ β q = vlQ β s := by
  have hf := (stX_fold β 0 (LX β) (0, (fun _ => 0), none)).2.2
  have up : ∀ q, q ∈ LX β → bitsQ q &&& s = bitsQ q → flQ β q ≤ vlQ β s := fun q hq he => by
    have h1 := (hf (bitsQ q)).2.1 q hq rfl
    have h2 := supL_mem (AX β 0).2.1 (rL 5 s) (bitsQ q) ((rL_mem s hs _ (bitsQ_lt q)).mpr he)
    exact Nat.le_trans h1 h2
  refine ⟨up, ?_⟩
  have h0 : bitsQ ((0, 0) : qT) &&& s = bitsQ (0, 0) := Nat.zero_and s
  have hz : vlQ β s = 0 → ∃ q, q ∈ LX β ∧ bitsQ q &&& s = bitsQ q ∧ flQ β q = vlQ β s := fun h => ⟨(0, 0), LX_mem0 β, h0, by have := up _ (LX_mem0 β) h0; omega⟩
  rcases supL_at (AX β 0).2.1 (rL 5 s) with h | ⟨u, h1, h2⟩
  · exact hz h
  · have hu := rL_32 5 s (by decide) hs u h1
    rcases (hf u).2.2 with h3 | ⟨q, h3, h4, h5⟩
    · exact hz (h2.symm.trans h3)
    · refine ⟨q, h3, by rw [h4]; exact (rL_mem s hs u hu).mp h1, h5.trans h2⟩
theorem y_valueOf (N : Nat) (hN : 4000 ≤ N) {τ : zS} {β : mB} (hO : BOk β) (hM : BM τ 0 β) (n1 : τ.1 66 1 = nI (β.1 0)) (n2 : τ.1 66 2 = nI (β.1 1)) {s : Nat} (hs : s < 32) : ∃ τ' : zS, fX7_valueOf N τ (nI s) = some (nI (vlQ β s), τ') ∧ FZ τ τ' := by
  obtain ⟨τ', f1, ⟨f2, f3⟩, f4⟩ := y_all N hN hO hM n1 n2 (s := s) (way := 0) hs (by decide)
  obtain ⟨r, h1, h2, h3⟩ := AY_best hO.1 s 0
  have f3 : BY τ' β 0 (AY β s 0).2 := f3
  rw [h1] at f3
  obtain ⟨t1, q, t2, t3, t4⟩ := vlQ_top (β := β) hs
  have hmem : ∀ x, x ∈ (aL (β.1 0)).filter (sQ s β) ↔ x ∈ LX β ∧ bitsQ x &&& s = bitsQ x := fun x => by
    rw [(LX_perm hO.1).mem_iff, List.mem_filter, List.mem_filter]
    unfold sQ
    rw [Bool.and_eq_true, beq_iff_eq]
    exact ⟨fun h => ⟨⟨h.1, h.2.2⟩, h.2.1⟩, fun h => ⟨h.1.1, h.2, h.1.2⟩⟩
  have e : flQ β r = vlQ β s := by
    have hr := (hmem r).mp h2
    have h4 := t1 r hr.1 hr.2
    have h5 : flQ β q ≤ flQ β r := by
      rcases h3 q ((hmem q).mpr ⟨t2, t3⟩) with rfl | hb
      · exact Nat.le_refl _
      · unfold better at hb
        rw [scQ_0, scQ_0] at hb
        omega
    omega
  unfold fX7_valueOf
  rw [f1, Option.bind_some, f3.2.1, scQ_0, e]
  exact ⟨τ', rfl, f4⟩
theorem p2_le {n : Nat} (h : n ≤ 5) : 2 ^ n ≤ 32 := Nat.pow_le_pow_right (n := 2) (by decide) h
theorem okp_value (N : Nat) (hN : 4000 ≤ N) : ok_value N Rel := by
  intro σ τ x1 hrel
  obtain ⟨β, ⟨hO, hX, hM, n1, n2⟩, hrest⟩ := id hrel
  have h2 := p2_le hO.1
  have h0 : 0 < 2 ^ β.1 0 := Nat.pow_pos (by decide)
  have b0 := hO.1
  unfold fX6_value fX7_value
  rw [hX.1, n1, m_bit (by omega)]
  by_cases hx : ∃ k, k < 2 ^ β.1 0 ∧ x1 = nI k
  · obtain ⟨k, hk, rfl⟩ := hx
    obtain ⟨σ', e1, e2, e3, e4, e5⟩ := x_walk N hN hO hX (aim := 0) (by decide)
    obtain ⟨τ', f1, f2⟩ := y_valueOf N hN hO hM n1 n2 (s := k) (by omega)
    rw [x_below1 N (by omega) hk, Option.bind_some, if_neg z10, y_below1 N (by omega) hk, Option.bind_some, if_neg z10, e1, f1, Option.bind_some, Option.bind_some, if_pos (m_zin (by rw [zlen29]; omega) (by decide)), zlet_eq, nI_clamp (by omega)]
    exact ⟨_, _, rfl, rfl, (e3 k (by omega)).1, FTZ_rel e5 f2 hrel⟩
  · rw [x_below0 N (by omega) hx, Option.bind_some, if_pos rfl, y_below0 N (by omega) hx, Option.bind_some, if_pos rfl]
    exact ⟨_, _, rfl, rfl, rfl, hrel⟩
/-- the sum of all that one adds -/
def shS (n b : Nat) (V : Nat → Nat) : Nat → Nat → Nat → Nat
  | 0, _, a => a
  | e + 1, s, a => shS n b V e (s + 1) (if s.testBit b = true then a else a + mfact (mpop s) * mfact (n - 1 - mpop s) * (V (s ||| 2 ^ b) - V s))
theorem mpop_n : ∀ n, n < 6 → ∀ s, s < 2 ^ n → ∀ b, b < n → s.testBit b = false → mpop s + 1 ≤ n := by decide +kernel
theorem shS_le {n b : Nat} {V : Nat → Nat} (hn : n ≤ 5) (hV : ∀ s, s < 32 → V s ≤ 5) (hb : b < n) : ∀ e s a : Nat, s + e ≤ 32 → shS n b V e s a ≤ a + 72000 * e
  | 0, s, a, _ => Nat.le_add_right _ _
  | e + 1, s, a, h => by
    rw [shS]
    have hs : s ||| 2 ^ b < 2 ^ 5 := Nat.or_lt_two_pow (by omega) (Nat.pow_lt_pow_right (by decide) (by omega))
    have h1 := mfact_le (mpop s) (by have := mpop_5 s; omega)
    have h2 := mfact_le (n - 1 - mpop s) (by omega)
    have h3 : mfact (mpop s) * mfact (n - 1 - mpop s) * (V (s ||| 2 ^ b) - V s) ≤ 120 * 120 * 5 := Nat.mul_le_mul (Nat.mul_le_mul h1 h2) (by have := hV _ hs; omega)
    split
    · have := shS_le hn hV hb e (s + 1) a (by omega); omega
    · have := shS_le hn hV hb e (s + 1) (a + mfact (mpop s) * mfact (n - 1 - mpop s) * (V (s ||| 2 ^ b) - V s)) (by omega); omega
theorem sub_or : ∀ s, s < 32 → ∀ b, b < 5 → ∀ u, u < 32 → u &&& s = u → u &&& (s ||| 2 ^ b) = u := by decide +kernel
theorem vlQ_mono {β : mB} {s b : Nat} (hs : s < 32) (hb : b < 5) : vlQ β s ≤ vlQ β (s ||| 2 ^ b) := by
  have hs' : s ||| 2 ^ b < 2 ^ 5 := Nat.or_lt_two_pow (by omega) (Nat.pow_lt_pow_right (by decide) (by omega))
  refine supL_le _ _ _ (fun u hu => supL_mem _ _ _ ?_)
  have h32 := rL_32 5 s (by decide) hs u hu
  exact (rL_mem _ hs' u h32).mpr (sub_or s hs b hb u h32 ((rL_mem s hs u h32).mp hu))
theorem sh_term {n s v w : Nat} (hn : n ≤ 5) (h : mpop s + 1 ≤ n) (hw : w ≤ v) (hv : v ≤ 5) (a : Nat) : lN a + (nI (mfact (mpop s)) * nI (mfact (n - 1 - mpop s))).toInt64 * (nI v - nI w).toInt64 = lN (a + mfact (mpop s) * mfact (n - 1 - mpop s) * (v - w)) := by
  have h1 := mfact_le (mpop s) (by omega)
  have h2 := mfact_le (n - 1 - mpop s) (by omega)
  have h3 : mfact (mpop s) * mfact (n - 1 - mpop s) ≤ 120 * 120 := Nat.mul_le_mul h1 h2
  rw [m_mul, nI_l (by omega), m_sub hw, nI_l (by omega), lN_mul, lN_add]
theorem x_share_loop (N : Nat) (hN : 4000 ≤ N) {σ : zS} {n b : Nat} {V : Nat → Nat} (hn : n ≤ 5) (hb : b < n) (h6 : σ.1 42 6 = nI n) (h29 : ∀ s, s < 32 → σ.2 29 s = nI (V s) ∧ V s ≤ 5) (hmo : ∀ s, s < 32 → V s ≤ V (s ||| 2 ^ b)) (K : Int32 → Int64 → zS → Option (Int64 × zS)) (x2 : Int32) : ∀ e s : Nat, s + e = 2 ^ n → ∀ (f a : Nat), e < f → fX6_share_41 N K f (nI b) x2 (lN a) (nI s) σ = K x2 (lN (shS n b V e s a)) σ := by
  have h2 := p2_le hn
  intro e
  induction e with
  | zero =>
    intro s hs f a hf
    obtain ⟨f, rfl⟩ : ∃ k, f = k + 1 := ⟨f - 1, by omega⟩
    rw [fX6_share_41, h6, m_bit (by omega), if_pos ((nI_leI (by omega) (by omega)).mpr (by omega))]
    rfl
  | succ e ih =>
    intro s hs f a hf
    obtain ⟨f, rfl⟩ : ∃ k, f = k + 1 := ⟨f - 1, by omega⟩
    have hs' : s ||| 2 ^ b < 2 ^ 5 := Nat.or_lt_two_pow (by omega) (Nat.pow_lt_pow_right (by decide) (by omega))
    rw [fX6_share_41, h6, m_bit (by omega), if_neg (fun h => by have := (nI_leI (by omega) (by omega)).mp h; omega), shS]
    by_cases ht : s.testBit b = true
    · rw [if_neg (fun h => by have := (m_tst0 (by omega) (by omega)).mp h; rw [ht] at this; exact absurd this (by decide)), if_pos ht, fX6_share_127, nI_add]
      exact ih (s + 1) (by omega) f a (by omega)
    · have hf' : s.testBit b = false := by simpa using ht
      have hp := mpop_n n (by omega) s (by omega) b hb hf'
      have r1 : σ.2 29 (nI (s ||| 2 ^ b)).toNatClampNeg = nI (V (s ||| 2 ^ b)) := by rw [nI_clamp (by omega)]; exact (h29 _ (by omega)).1
      have r2 : σ.2 29 (nI s).toNatClampNeg = nI (V s) := by rw [nI_clamp (by omega)]; exact (h29 _ (by omega)).1
      rw [if_pos ((m_tst0 (by omega) (by omega)).mpr hf'), if_neg ht, x_bitCount N (by omega), Option.bind_some, x_fact N hN (by omega), Option.bind_some, m_sub (by omega), m_sub (by omega), x_fact N hN (by omega), Option.bind_some, zlet_eq, m_bit (by omega), m_or, if_pos (m_zin (by rw [zlen29]; omega) (by decide)), zlet_eq, r1, if_pos (m_zin (by rw [zlen29]; omega) (by decide)), zlet_eq, r2, zlet_eq, sh_term hn hp (hmo s (by omega)) (h29 _ (by omega)).2, fX6_share_127, nI_add]
      exact ih (s + 1) (by omega) f _ (by omega)
theorem y_share_loop (N : Nat) (hN : 4000 ≤ N) {β : mB} (hO : BOk β) {b : Nat} (hb : b < β.1 0) (hV : ∀ s, s < 32 → vlQ β s ≤ 5) (K : Int32 → Int64 → zS → Option (Int64 × zS)) (x2 : Int32) : ∀ e s : Nat, s + e = 2 ^ β.1 0 → ∀ (f a : Nat) (τ : zS), e < f → BM τ 0 β → τ.1 66 1 = nI (β.1 0) → τ.1 66 2 = nI (β.1 1) → ∃ τ' : zS, fX7_share_27 N K f (nI b) x2 (lN a) (nI s) τ = K x2 (lN (shS (β.1 0) b (vlQ β) e s a)) τ' ∧ FZ τ τ' := by
  have hn := hO.1
  have h2 := p2_le hn
  intro e
  induction e with
  | zero =>
    intro s hs f a τ hf hM n1 n2
    obtain ⟨f, rfl⟩ : ∃ k, f = k + 1 := ⟨f - 1, by omega⟩
    rw [fX7_share_27, n1, m_bit (by omega), if_pos ((nI_leI (by omega) (by omega)).mpr (by omega))]
    exact ⟨τ, rfl, FZ_rfl τ⟩
  | succ e ih =>
    intro s hs f a τ hf hM n1 n2
    obtain ⟨f, rfl⟩ : ∃ k, f = k + 1 := ⟨f - 1, by omega⟩
    have hs' : s ||| 2 ^ b < 2 ^ 5 := Nat.or_lt_two_pow (by omega) (Nat.pow_lt_pow_right (by decide) (by omega))
    rw [fX7_share_27, n1, m_bit (by omega), if_neg (fun h => by have := (nI_leI (by omega) (by omega)).mp h; omega), shS]
    by_cases ht : s.testBit b = true
    · rw [if_neg (fun h => by have := (m_tst0 (by omega) (by omega)).mp h; rw [ht] at this; exact absurd this (by decide)), if_pos ht, fX7_share_99, nI_add]
      exact ih (s + 1) (by omega) f a τ (by omega) hM n1 n2
    · have hf' : s.testBit b = false := by simpa using ht
      have hp := mpop_n (β.1 0) (by omega) s (by omega) b hb hf'
      obtain ⟨τ1, k1, k2⟩ := y_valueOf N hN hO hM n1 n2 (s := s ||| 2 ^ b) (by omega)
      have hM1 := FZ_M hO k2 hM
      have a1 : τ1.1 66 1 = nI (β.1 0) := by rw [k2.2.1 1 (by decide)]; exact n1
      have a2 : τ1.1 66 2 = nI (β.1 1) := by rw [k2.2.1 2 (by decide)]; exact n2
      obtain ⟨τ2, l1, l2⟩ := y_valueOf N hN hO hM1 a1 a2 (s := s) (by omega)
      have hM2 := FZ_M hO l2 hM1
      rw [if_pos ((m_tst0 (by omega) (by omega)).mpr hf'), if_neg ht, y_bitsOf N hN (by omega), Option.bind_some, y_fact N hN (by omega), Option.bind_some, m_sub (by omega), m_sub (by omega), y_fact N hN (by omega), Option.bind_some, m_bit (by omega), m_or, k1, Option.bind_some]
      dsimp only
      rw [l1, Option.bind_some]
      dsimp only
      rw [zlet_eq, sh_term hn hp (vlQ_mono (by omega) (by omega)) (hV _ hs'), fX7_share_99, nI_add]
      obtain ⟨τ3, m1, m2⟩ := ih (s + 1) (by omega) f _ τ2 (by omega) hM2 (by rw [l2.2.1 1 (by decide)]; exact a1) (by rw [l2.2.1 2 (by decide)]; exact a2)
      exact ⟨τ3, m1, FZ_tr (FZ_tr k2 l2) m2⟩
theorem okp_share (N : Nat) (hN : 4000 ≤ N) : ok_share N Rel := by
  intro σ τ x1 x2 hrel
  obtain ⟨β, ⟨hO, hX, hM, n1, n2⟩, hrest⟩ := id hrel
  have b0 := hO.1
  have h2 := p2_le hO.1
  unfold fX6_share fX7_share
  by_cases hx : ∃ k, k < β.1 0 ∧ x1 = nI k
  · obtain ⟨b, hb, rfl⟩ := hx
    rw [x_has1 N hX.1 (by omega) hb, Option.bind_some, if_neg z10, y_has1 N n1 (by omega) hb, Option.bind_some, if_neg z10]
    by_cases hy : ∃ k, 0 ≤ k ∧ k ≤ 1 ∧ x2 = nI k
    · obtain ⟨a, -, ha, rfl⟩ := hy
      have wm : fX7_in N (nI a).toInt64 0 1 = some 1 := y_in1 N (lo := 0) (hi := 1) (by omega) ha (by decide)
      obtain ⟨σ', e1, e2, e3, e4, e5⟩ := x_walk N hN hO hX (aim := 0) (by decide)
      have hX' := FT_X e5 hX
      have s1 := x_share_loop N hN (σ := σ') (V := vlQ β) b0 hb hX'.1 e3 (fun s hs => vlQ_mono hs (by omega)) (fX6_share_133 N) (nI a) (2 ^ β.1 0) 0 (by omega) N 0 (by omega)
      obtain ⟨τ', s2, s3⟩ := y_share_loop N hN hO hb (fun s hs => (e3 s hs).2) (fX7_share_105 N) (nI a) (2 ^ β.1 0) 0 (by omega) N 0 τ (by omega) hM n1 n2
      rw [x_within1 N (by omega) ha (by decide), Option.bind_some, if_neg z10, wm, Option.bind_some, if_neg z10, e1, Option.bind_some, show (0 : Int64) = lN 0 from rfl, s1, s2, fX6_share_133, fX7_share_105, hX'.1, s3.2.1 1 (by decide), n1, x_fact N hN b0, y_fact N hN b0, Option.bind_some, Option.bind_some]
      have hbd := shS_le (n := β.1 0) (b := b) (V := vlQ β) b0 (fun s hs => (e3 s hs).2) hb (2 ^ β.1 0) 0 0 (by omega)
      have hfl := mfact_le (β.1 0) (by omega)
      obtain ⟨r, p1, p2⟩ := part_eq N hN (a := shS (β.1 0) b (vlQ β) (2 ^ β.1 0) 0 0) (b := mfact (β.1 0)) (by omega) (mfact_pos _) (by omega) (nI a)
      rw [nI_l (by omega), p1, p2, Option.bind_some, Option.bind_some]
      exact ⟨_, _, rfl, rfl, rfl, FTZ_rel e5 s3 hrel⟩
    · have wm : fX7_in N x2.toInt64 0 1 = some 0 := y_in0 N (lo := 0) (hi := 1) (by decide) (by decide) hy
      rw [x_within0 N (by decide) (by decide) hy, Option.bind_some, if_pos rfl, wm, Option.bind_some, if_pos rfl]
      exact ⟨_, _, rfl, rfl, rfl, hrel⟩
  · rw [x_has0 N hX.1 (by omega) hx, Option.bind_some, if_pos rfl, y_has0 N n1 (by omega) hx, Option.bind_some, if_pos rfl]
    exact ⟨_, _, rfl, rfl, rfl, hrel⟩

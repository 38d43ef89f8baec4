/-! the plain calls -/
theorem okp_fault (N : Nat) : ok_fault N Rel := by
  intro σ τ hrel
  obtain ⟨β, hB, hI, hT, hS, hH, hC, hF, hTn⟩ := id hrel
  exact ⟨_, _, rfl, rfl, hF, hrel⟩
theorem okp_torn (N : Nat) : ok_torn N Rel := by
  intro σ τ hrel
  obtain ⟨β, hB, hI, hT, hS, hH, hC, hF, hTn⟩ := id hrel
  exact ⟨_, _, rfl, rfl, hTn, hrel⟩
theorem okp_feed (N : Nat) : ok_feed N Rel := by
  intro σ τ x1 hrel
  obtain ⟨β, hB, hI, hT, hS, hH, hC, hF, hTn⟩ := id hrel
  obtain ⟨n, hn, t1, t2, t3⟩ := id hT
  by_cases hx : ∃ k, 0 ≤ k ∧ k ≤ 127 ∧ x1 = nI k
  · obtain ⟨k, -, hk, rfl⟩ := hx
    have wx : fX6_within N (nI k) (nI 0) (nI 127) = some 1 := x_within1 N (by omega) hk (by decide)
    have wm : fX7_in N (nI k).toInt64 0 127 = some 1 := y_in1 N (lo := 0) (hi := 127) (by omega) hk (by decide)
    by_cases hf : n = 160
    · subst hf
      refine ⟨(-3, σ), (-3, τ), ?_, ?_, rfl, hrel⟩
      · unfold fX6_feed
        rw [wx, Option.bind_some, if_neg (by decide), t1, if_neg (fun h => by have := (nI_ltI (by decide) (by decide)).mp h; omega)]
      · unfold fX7_feed
        rw [wm, Option.bind_some, if_neg (by decide), t2, if_pos rfl]
    · refine ⟨(nI (n + 1), zpf (zpa σ 24 (upd (σ.2 24) n (nI k))) 50 2 (nI (n + 1))), (nI (n + 1), zpf (zpa τ 57 (upd (τ.2 57) n (nI k))) 66 11 (nI (n + 1))), ?_, ?_, rfl, β, RB_eq hB rfl (fun q hq => by rw [zpf_2, zpa_2, if_neg (by omega)]) (fun i hi => rfl) rfl rfl, RI_eq hI rfl (fun q h1 h2 => by rw [zpf_1, if_neg (by omega), zpa_1]) (fun q h1 h2 => by rw [zpf_2, zpa_2, if_neg (by omega)]) rfl (fun i h1 h2 => rfl), ⟨n + 1, by omega, rfl, rfl, fun i hi => ?_⟩, RS_eq hS rfl rfl rfl rfl rfl, RH_eq hH (fun q h1 h2 => by rw [zpf_1, if_neg (by omega), zpa_1]) (fun q h1 h2 => by rw [zpf_2, zpa_2, if_neg (by omega)]) rfl rfl rfl, RC_eq hC rfl rfl, hF, hTn⟩
      · unfold fX6_feed
        rw [wx, Option.bind_some, if_neg (by decide), t1, if_pos ((nI_ltI (by omega) (by decide)).mpr (by omega)), if_pos (m_zin (show n < zlen 24 from (show n < 160 by omega)) (by decide)), zlet_eq, zlet_eq, zpa_1, t1, nI_add, nI_clamp (by omega)]
        rfl
      · unfold fX7_feed
        rw [wm, Option.bind_some, if_neg (by decide), t2, if_neg (fun h => hf ((nI_eq (by omega) (by decide)).mp h)), if_pos (m_zin (show n < zlen 57 from (show n < 160 by omega)) (by decide)), zlet_eq, zlet_eq, zpa_1, t2, nI_add, nI_clamp (by omega)]
        rfl
      · by_cases e : i = n
        · subst e
          exact ⟨k, hk, by show upd (σ.2 24) i (nI k) i = nI k; rw [zupd, if_pos rfl], by show upd (τ.2 57) i (nI k) i = nI k; rw [zupd, if_pos rfl]⟩
        · obtain ⟨c, h1, h2, h3⟩ := t3 i (by omega)
          exact ⟨c, h1, by show upd (σ.2 24) n (nI k) i = nI c; rw [zupd, if_neg e]; exact h2, by show upd (τ.2 57) n (nI k) i = nI c; rw [zupd, if_neg e]; exact h3⟩
  · have wx : fX6_within N x1 (nI 0) (nI 127) = some 0 := x_within0 N (by decide) (by decide) hx
    have wm : fX7_in N x1.toInt64 0 127 = some 0 := y_in0 N (lo := 0) (hi := 127) (by decide) (by decide) hx
    refine ⟨(-1, σ), (-1, τ), ?_, ?_, rfl, hrel⟩
    · unfold fX6_feed
      rw [wx, Option.bind_some, if_pos rfl]
    · unfold fX7_feed
      rw [wm, Option.bind_some, if_pos rfl]
theorem okp_end (N : Nat) : ok_end N Rel := by
  intro σ τ x1 hrel
  obtain ⟨β, hB, hI, hT, hS, hH, hC, hF, hTn⟩ := id hrel
  obtain ⟨n, hn, t1, t2, t3⟩ := id hT
  by_cases hx : ∃ k, 0 ≤ k ∧ k ≤ n ∧ x1 = nI k
  · obtain ⟨k, -, hk, rfl⟩ := hx
    have wx : fX6_within N (nI k) (nI 0) (nI n) = some 1 := x_within1 N (by omega) hk (by omega)
    have wm : fX7_in N (nI k).toInt64 0 (nI n).toInt64 = some 1 := by rw [nI_l (n := n) (by omega)]; exact y_in1 N (lo := 0) (by omega) hk (by omega)
    refine ⟨(nI n, zpf σ 50 2 (nI k)), (nI n, zpf τ 66 11 (nI k)), ?_, ?_, rfl, β, RB_eq hB rfl (fun q hq => rfl) (fun i hi => rfl) rfl rfl, RI_eq hI rfl (fun q h1 h2 => by rw [zpf_1, if_neg (by omega)]) (fun q h1 h2 => rfl) rfl (fun i h1 h2 => rfl), ⟨k, by omega, rfl, rfl, fun i hi => t3 i (by omega)⟩, RS_eq hS rfl rfl rfl rfl rfl, RH_eq hH (fun q h1 h2 => by rw [zpf_1, if_neg (by omega)]) (fun q h1 h2 => rfl) rfl rfl rfl, RC_eq hC rfl rfl, hF, hTn⟩
    · unfold fX6_end
      rw [t1, wx, Option.bind_some, if_neg (by decide), zlet_eq]
    · unfold fX7_end
      rw [t2, wm, Option.bind_some, if_neg (by decide), zlet_eq, zlet_eq]
  · have wx : fX6_within N x1 (nI 0) (nI n) = some 0 := x_within0 N (by omega) (by decide) hx
    have wm : fX7_in N x1.toInt64 0 (nI n).toInt64 = some 0 := by rw [nI_l (n := n) (by omega)]; exact y_in0 N (lo := 0) (by omega) (by decide) hx
    refine ⟨(-1, σ), (-1, τ), ?_, ?_, rfl, hrel⟩
    · unfold fX6_end
      rw [t1, wx, Option.bind_some, if_pos rfl]
    · unfold fX7_end
      rw [t2, wm, Option.bind_some, if_pos rfl]
theorem y_at24 {τ : zS} {β : mB} (hM : BM τ 0 β) : τ.2 55 (nI 24).toNatClampNeg = nI (β.1 2) := by
  have := hM.1
  rw [Nat.zero_add] at this
  rw [nI_clamp (by decide)]
  exact this
theorem y_at30 {τ : zS} {β : mB} (hM : BM τ 0 β) : τ.2 55 (nI 30).toNatClampNeg = nI (β.1 3) - nI 5 := by
  have := hM.2.1
  rw [Nat.zero_add] at this
  rw [nI_clamp (by decide)]
  exact this
theorem okp_rule (N : Nat) (hN : 4000 ≤ N) : ok_rule N Rel := by
  intro σ τ x1 hrel
  obtain ⟨β, ⟨hO, hX, hM, n1, n2⟩, hI, hT, hS, hH, hC, hF, hTn⟩ := id hrel
  unfold fX6_rule fX7_rule
  by_cases c0 : x1 = nI 0
  · rw [if_pos c0, if_pos c0]; exact ⟨_, _, rfl, rfl, hX.1.trans n1.symm, hrel⟩
  rw [if_neg c0, if_neg c0]
  by_cases c1 : x1 = nI 1
  · rw [if_pos c1, if_pos c1]; exact ⟨_, _, rfl, rfl, hX.2.1.trans n2.symm, hrel⟩
  rw [if_neg c1, if_neg c1]
  by_cases c2 : x1 = nI 2
  · rw [if_pos c2, if_pos c2, if_pos z24, zlet_eq, y_at24 hM]; exact ⟨_, _, rfl, rfl, hX.2.2.1, hrel⟩
  rw [if_neg c2, if_neg c2]
  by_cases c3 : x1 = nI 3
  · rw [if_pos c3, if_pos c3, if_pos z30, zlet_eq, y_at30 hM, Int32.sub_add_cancel]; exact ⟨_, _, rfl, rfl, hX.2.2.2.1, hrel⟩
  rw [if_neg c3, if_neg c3]
  by_cases c4 : x1 = nI 4
  · rw [if_pos c4, if_pos c4, x_towerBits N hN (by decide) (by decide) hO hX, y_inTower N hN hO hM]; exact ⟨_, _, rfl, rfl, rfl, hrel⟩
  rw [if_neg c4, if_neg c4]
  exact ⟨_, _, rfl, rfl, rfl, hrel⟩
theorem okp_robber (N : Nat) : ok_robber N Rel := by
  intro σ τ x1 hrel
  obtain ⟨β, ⟨hO, hX, hM, n1, n2⟩, hI, hT, hS, hH, hC, hF, hTn⟩ := id hrel
  have hr := hO.2.1
  unfold fX6_robber fX7_robber
  by_cases hx : ∃ k, k < β.1 1 ∧ x1 = nI k
  · obtain ⟨k, hk, rfl⟩ := hx
    have e1 := hX.2.2.2.2.2.1 k hk
    have e2 := hM.2.2.2.1 k hk
    rw [Nat.zero_add] at e2
    rw [x_hasR1 N hX.2.1 (by omega) hk, Option.bind_some, if_neg z10, if_pos (m_zin (show k < zlen 3 from (show k < 4 by omega)) (by decide)), zlet_eq, nI_clamp (by omega), y_hasR1 N n2 (by omega) hk, Option.bind_some, if_neg z10, zlen55, nI_add, if_pos (m_zin (by omega) (by decide)), zlet_eq, nI_clamp (by omega), e2]
    exact ⟨_, _, rfl, rfl, e1, hrel⟩
  · rw [x_hasR0 N hX.2.1 (by omega) hx, y_hasR0 N n2 (by omega) hx]
    exact ⟨_, _, rfl, rfl, rfl, hrel⟩
theorem y_bed {τ : zS} {β : mB} (N : Nat) (hO : BOk β) (hM : BM τ 0 β) {i : Nat} (hi : i < β.1 0) : fX7_bedBeast N τ (nI i) = some (nI (β.2 5 i)) := by
  have e := (hM.2.2.1 i hi).2.2.2
  rw [Nat.zero_add] at e
  have := hO.1
  unfold fX7_bedBeast
  rw [zlen55, nI_add, if_pos (m_zin (by omega) (by decide)), zlet_eq, nI_clamp (by omega), e, Int32.sub_add_cancel]
theorem okp_at (N : Nat) : ok_at N Rel := by
  intro σ τ x1 x2 hrel
  obtain ⟨β, ⟨hO, hX, hM, n1, n2⟩, hI, hT, hS, hH, hC, hF, hTn⟩ := id hrel
  have h5 := hO.1
  have h6 := hO.2.2.1
  unfold fX6_at fX7_at
  by_cases c0 : x1 = 0
  · rw [if_pos c0, if_pos c0, if_pos z24, zlet_eq, y_at24 hM, hX.2.2.1]
    by_cases hx : ∃ k, k < β.1 2 ∧ x2 = nI k
    · obtain ⟨k, hk, rfl⟩ := hx
      have e1 := hX.2.2.2.2.2.2 k hk
      have e2 := hM.2.2.2.2 k hk
      rw [Nat.zero_add] at e2
      rw [x_below1 N (by omega) hk, Option.bind_some, if_neg z10, if_pos (m_zin (show k < zlen 4 from (show k < 5 by omega)) (by decide)), zlet_eq, nI_clamp (by omega), y_below1 N (by omega) hk, Option.bind_some, if_neg z10, zlen55, nI_add, if_pos (m_zin (by omega) (by decide)), zlet_eq, nI_clamp (by omega), e2]
      exact ⟨_, _, rfl, rfl, e1, hrel⟩
    · rw [x_below0 N (by omega) hx, Option.bind_some, if_pos rfl, zlet_eq, y_below0 N (by omega) hx]
      exact ⟨_, _, rfl, rfl, rfl, hrel⟩
  rw [if_neg c0, if_neg c0]
  by_cases c1 : x1 = nI 1
  · rw [if_pos c1, if_pos c1, hX.1]
    by_cases hx : ∃ k, k < β.1 0 ∧ x2 = nI k
    · obtain ⟨k, hk, rfl⟩ := hx
      have e1 := (hX.2.2.2.2.1 k hk).2.2.2
      rw [x_below1 N (by omega) hk, Option.bind_some, if_neg z10, if_pos (m_zin (show k < zlen 5 from (show k < 5 by omega)) (by decide)), zlet_eq, nI_clamp (by omega), y_has1 N n1 (by omega) hk, Option.bind_some, if_neg z10, y_bed N hO hM hk]
      exact ⟨_, _, rfl, rfl, e1, hrel⟩
    · rw [x_below0 N (by omega) hx, y_has0 N n1 (by omega) hx]
      exact ⟨_, _, rfl, rfl, rfl, hrel⟩
  · rw [if_neg c1, if_neg c1]
    exact ⟨_, _, rfl, rfl, rfl, hrel⟩
theorem okp_noise (N : Nat) (hN : 4000 ≤ N) : ok_noise N Rel := by
  intro σ τ hrel
  obtain ⟨β, ⟨hO, hX, hM, n1, n2⟩, hI, hT, hS, hH, hC, hF, hTn⟩ := id hrel
  have h5 := hO.1
  have h6 := hO.2.2.1
  have h7 := hO.2.2.2.2.2.2.1
  unfold fX6_noise fX7_noise
  rw [hX.2.2.1, x_noiseBy N hN (row := 4) (vo := 2) (T := β.2 4) (V := β.2 2) (show β.1 2 ≤ 5 by omega) (by decide) (by decide) (fun i hi => ⟨hX.2.2.2.2.2.2 i hi, by have := h7 i hi; show _ < 5; omega, (hX.2.2.2.2.1 _ (h7 i hi)).2.2.1⟩), y_noiseBy N hN hO hM (by decide), mnoiseH_0]
  exact ⟨_, _, rfl, rfl, rfl, hrel⟩
/-- how many bits a mask of five has -/
def mpop (m : Nat) : Nat := m % 2 + m / 2 % 2 + m / 4 % 2 + m / 8 % 2 + m / 16 % 2
theorem x_bitCount0 : ∀ m, m < 32 → fJ6_bitCount_0f7a4 0 (nI m) = some (nI (mpop m)) := by decide +kernel
theorem x_bitCount (N : Nat) {m : Nat} (h : m < 32) : fJ6_bitCount_0f7a4 N (nI m) = some (nI (mpop m)) := x_bitCount0 m h
theorem y_bitsOf (N : Nat) (hN : 4000 ≤ N) {m : Nat} (h : m < 32) : fX7_bitsOf N (nI m) = some (nI (mpop m)) := by
  obtain ⟨K, rfl⟩ : ∃ K, N = K + 6 := ⟨N - 6, by omega⟩
  unfold fX7_bitsOf
  have hm : m < 2 ^ 31 := by omega
  rw [fX7_bitsOf_4, if_neg (by decide), zlet_eq, m_tst hm (by decide), nI_add, nI_add, fX7_bitsOf_4, if_neg (by decide), zlet_eq, m_tst hm (by decide), nI_add, nI_add, fX7_bitsOf_4, if_neg (by decide), zlet_eq, m_tst hm (by decide), nI_add, nI_add, fX7_bitsOf_4, if_neg (by decide), zlet_eq, m_tst hm (by decide), nI_add, nI_add, fX7_bitsOf_4, if_neg (by decide), zlet_eq, m_tst hm (by decide), nI_add, nI_add, fX7_bitsOf_4, if_pos (by decide)]
  have e : 0 + m / 2 ^ 0 % 2 + m / 2 ^ (0 + 1) % 2 + m / 2 ^ (0 + 1 + 1) % 2 + m / 2 ^ (0 + 1 + 1 + 1) % 2 + m / 2 ^ (0 + 1 + 1 + 1 + 1) % 2 = mpop m := by
    unfold mpop
    rw [show (2 : Nat) ^ 0 = 1 from rfl, show (2 : Nat) ^ (0 + 1) = 2 from rfl, show (2 : Nat) ^ (0 + 1 + 1) = 4 from rfl, show (2 : Nat) ^ (0 + 1 + 1 + 1) = 8 from rfl, show (2 : Nat) ^ (0 + 1 + 1 + 1 + 1) = 16 from rfl, Nat.div_one, Nat.zero_add]
  rw [e]
theorem mnoise_le {β : mB} (hO : BOk β) : mnoise (β.2 4) (β.2 2) (β.1 2) ≤ 100000 := by
  have h5 := hO.1
  have h6 := hO.2.2.1
  have h7 := hO.2.2.2.2.2.2.1
  have h8 := hO.2.2.2.2.1
  have key : ∀ i, i ≤ β.1 2 → mnoise (β.2 4) (β.2 2) i ≤ 9 * i * i := by
    intro i
    induction i with
    | zero => intro _; exact Nat.le_refl _
    | succ i ih =>
      intro hi
      have a := ih (by omega)
      have b := (h8 _ (h7 i (by omega))).2.2.2.1
      have c : β.2 2 (β.2 4 i) * (i + 1) ≤ 9 * (i + 1) := Nat.mul_le_mul_right _ b
      rw [mnoise]
      have d : 9 * (i + 1) * (i + 1) = 9 * i * i + 18 * i + 9 := by simp only [Nat.mul_add, Nat.add_mul]; omega
      omega
  have a := key (β.1 2) (Nat.le_refl _)
  have b : 9 * β.1 2 * β.1 2 ≤ 45 * 5 := Nat.mul_le_mul (by omega) (by omega)
  omega
theorem mflee_32 {β : mB} (hO : BOk β) (L : Nat) : (mflee (β.2 3) L (β.1 1)).1 < 32 := by
  have a := (mflee_le (β.2 3) L (β.1 1)).2
  have b : (2 : Nat) ^ β.1 1 ≤ 2 ^ 4 := Nat.pow_le_pow_right (by decide) hO.2.1
  omega
theorem okp_flight (N : Nat) (hN : 4000 ≤ N) : ok_flight N Rel := by
  intro σ τ x1 hrel
  obtain ⟨β, ⟨hO, hX, hM, n1, n2⟩, hI, hT, hS, hH, hC, hF, hTn⟩ := id hrel
  have h5 := hO.1
  have h6 := hO.2.2.1
  have h7 := hO.2.2.2.2.2.2.1
  have hnl := mnoise_le hO
  have hf32 := mflee_32 hO (mnoise (β.2 4) (β.2 2) (β.1 2))
  have ex : fX0_noiseBy N σ 42 4 (σ.1 42 8) 2 = some (nI (mnoise (β.2 4) (β.2 2) (β.1 2))) := by
    rw [hX.2.2.1, x_noiseBy N hN (row := 4) (vo := 2) (T := β.2 4) (V := β.2 2) (show β.1 2 ≤ 5 by omega) (by decide) (by decide) (fun i hi => ⟨hX.2.2.2.2.2.2 i hi, by have := h7 i hi; show _ < 5; omega, (hX.2.2.2.2.1 _ (h7 i hi)).2.2.1⟩)]
  have em : fX7_noiseBy N τ (nI 0) = some (nI (mnoise (β.2 4) (β.2 2) (β.1 2))) := by rw [y_noiseBy N hN hO hM (by decide), mnoiseH_0]
  unfold fX6_flight fX7_flight
  rw [em, Option.bind_some, y_fleeBy N hN hO hM n2 hnl, Option.bind_some, ex]
  by_cases hx : ∃ k, 0 ≤ k ∧ k ≤ 1 ∧ x1 = nI k
  · obtain ⟨k, -, hk, rfl⟩ := hx
    rw [x_within1 N (by omega) hk (by decide), Option.bind_some, if_neg z10, Option.bind_some, x_fledBits N hN (by decide) (by decide) hO hX hnl, Option.bind_some]
    rcases (show k = 0 ∨ k = 1 by omega) with rfl | rfl
    · rw [if_pos m_zero, if_pos m_zero]
      exact ⟨_, _, rfl, rfl, rfl, hrel⟩
    · rw [if_neg (by decide), if_neg (by decide), if_pos rfl, x_bitCount N hf32, y_bitsOf N hN hf32]
      exact ⟨_, _, rfl, rfl, rfl, hrel⟩
  · rw [x_within0 N (by decide) (by decide) hx, Option.bind_some, if_pos rfl, if_neg (show ¬ x1 = 0 from fun h => hx ⟨0, by omega, by omega, h⟩), if_neg (fun h => hx ⟨1, by omega, by omega, h⟩)]
    exact ⟨_, _, rfl, rfl, rfl, hrel⟩
/-- the courage that is needed -/
def mneed (C : Nat → Nat) : Nat → Int32
  | 0 => nI 0
  | r + 1 => if mneed C r < nI (C r) - nI (2 * r) + nI 1 then nI (C r) - nI (2 * r) + nI 1 else mneed C r
theorem x_need_loop (N : Nat) {σ : zS} {β : mB} (hO : BOk β) (hX : BX σ 42 β) : ∀ d i : Nat, i + d = β.1 1 → ∀ m : Nat, d < m → fX6_need_4 N σ m (mneed (β.2 3) i) (nI i) = some (mneed (β.2 3) (β.1 1)) := by
  have hr := hO.2.1
  intro d
  induction d with
  | zero =>
    intro i hi m hm
    obtain ⟨m, rfl⟩ : ∃ k, m = k + 1 := ⟨m - 1, by omega⟩
    have e : i = β.1 1 := by omega
    subst e
    rw [fX6_need_4, hX.2.1, if_pos ((nI_leI (by omega) (by omega)).mpr (Nat.le_refl _))]
  | succ d ih =>
    intro i hi m hm
    obtain ⟨m, rfl⟩ : ∃ k, m = k + 1 := ⟨m - 1, by omega⟩
    rw [fX6_need_4, hX.2.1, if_neg (fun h => by have := (nI_leI (by omega) (by omega)).mp h; omega), if_pos (m_zin (show i < zlen 3 from (show i < 4 by omega)) (by decide)), zlet_eq, nI_clamp (by omega), zlet_eq, show σ.2 3 i = nI (β.2 3 i) from hX.2.2.2.2.2.1 i (by omega), m_mul, nI_add]
    exact ih (i + 1) (by omega) m (by omega)
theorem y_need_loop (N : Nat) {τ : zS} {β : mB} (hO : BOk β) (hM : BM τ 0 β) (n2 : τ.1 66 2 = nI (β.1 1)) : ∀ d i : Nat, i + d = β.1 1 → ∀ m : Nat, d < m → fX7_need_4 N τ m (mneed (β.2 3) i) (nI i) = some (mneed (β.2 3) (β.1 1)) := by
  have hr := hO.2.1
  intro d
  induction d with
  | zero =>
    intro i hi m hm
    obtain ⟨m, rfl⟩ : ∃ k, m = k + 1 := ⟨m - 1, by omega⟩
    have e : i = β.1 1 := by omega
    subst e
    rw [fX7_need_4, n2, if_pos ((nI_leI (by omega) (by omega)).mpr (Nat.le_refl _))]
  | succ d ih =>
    intro i hi m hm
    obtain ⟨m, rfl⟩ : ∃ k, m = k + 1 := ⟨m - 1, by omega⟩
    have e3 := hM.2.2.2.1 i (by omega)
    rw [Nat.zero_add] at e3
    have ihn := ih (i + 1) (by omega) m (by omega)
    rw [fX7_need_4, n2, if_neg (fun h => by have := (nI_leI (by omega) (by omega)).mp h; omega), zlen55, nI_add, if_pos (m_zin (by omega) (by decide)), zlet_eq, nI_clamp (by omega), zlet_eq, e3, m_mul]
    by_cases hc : mneed (β.2 3) i < nI (β.2 3 i) - nI (2 * i) + nI 1
    · rw [mneed, if_pos hc] at ihn
      rw [if_neg (Int32.not_le.mpr hc), fX7_need_38, nI_add]
      exact ihn
    · rw [mneed, if_neg hc] at ihn
      rw [if_pos (Int32.not_lt.mp hc), fX7_need_38, nI_add]
      exact ihn
theorem okp_need (N : Nat) (hN : 4000 ≤ N) : ok_need N Rel := by
  intro σ τ hrel
  obtain ⟨β, ⟨hO, hX, hM, n1, n2⟩, hI, hT, hS, hH, hC, hF, hTn⟩ := id hrel
  have hr := hO.2.1
  exact ⟨_, _, x_need_loop N hO hX (β.1 1) 0 (by omega) N (by omega), y_need_loop N hO hM n2 (β.1 1) 0 (by omega) N (by omega), rfl, hrel⟩

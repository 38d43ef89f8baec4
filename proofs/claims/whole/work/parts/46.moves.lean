/-! calls that change the band -/
theorem Rel_band {σ σ' τ τ' : zS} {β β' : mB} (h : RI σ τ β ∧ RT σ τ ∧ RS σ τ ∧ RH σ τ ∧ RC τ ∧ σ.1 50 9 = τ.1 66 12 ∧ σ.1 54 9 = τ.1 66 35) (hB' : RB σ' τ' β') (hn : β'.1 0 = β.1 0) (hr : β'.1 1 = β.1 1) (f1 : ∀ q, q ≠ 42 → q ≠ 52 → q ≠ 53 → σ'.1 q = σ.1 q) (f2 : ∀ q, 6 ≤ q → q < 27 ∨ 35 ≤ q → σ'.2 q = σ.2 q) (g1 : ∀ k, k = 11 ∨ k = 12 ∨ k = 28 ∨ k = 35 → τ'.1 66 k = τ.1 66 k) (g2 : ∀ q, q ≠ 55 → q ≠ 61 → τ'.2 q = τ.2 q) (g3 : ∀ i, 31 ≤ i → i < 93 → τ'.2 55 i = τ.2 55 i) : Rel σ' τ' := by
  obtain ⟨hI, hT, hS, hH, hC, hF, hTn⟩ := h
  refine ⟨β', hB', RI_n hn hr (RI_eq hI (f2 39 (by decide) (by decide)) (fun q h1 h2 => f1 q (by omega) (by omega) (by omega)) (fun q h1 h2 => f2 q (by omega) (by omega)) (g2 65 (by decide) (by decide)) g3), RT_eq hT (by rw [f1 50 (by decide) (by decide) (by decide)]) (g1 11 (by decide)) (f2 24 (by decide) (by decide)) (g2 57 (by decide) (by decide)), RS_eq hS (by rw [f1 51 (by decide) (by decide) (by decide)]) (g1 28 (by decide)) (f2 25 (by decide) (by decide)) (f2 26 (by decide) (by decide)) (g2 60 (by decide) (by decide)), RH_eq hH (fun q h1 h2 => f1 q (by omega) (by omega) (by omega)) (fun q h1 h2 => f2 q (by omega) (by omega)) (g2 62 (by decide) (by decide)) (g2 63 (by decide) (by decide)) (g2 64 (by decide) (by decide)), RC_eq hC (g2 58 (by decide) (by decide)) (g2 59 (by decide) (by decide)), ?_, ?_⟩
  · rw [f1 50 (by decide) (by decide) (by decide), g1 12 (by decide)]; exact hF
  · rw [f1 54 (by decide) (by decide) (by decide), g1 35 (by decide)]; exact hTn
def mset1 (β : mB) (k v : Nat) : mB := (fun j => if j = k then v else β.1 j, β.2)
def mset2 (β : mB) (a i v : Nat) : mB := (β.1, fun a' j => if a' = a ∧ j = i then v else β.2 a' j)
theorem cs_congr {β β' : mB} {T T' : Nat → Nat} : ∀ (h a : Nat), (∀ i, i < h → T' i = T i ∧ β'.2 0 (T i) = β.2 0 (T i) ∧ β'.2 1 (T i) = β.2 1 (T i)) → cs β' T' h a = cs β T h a
  | 0, _, _ => rfl
  | h + 1, a, hh => by
    obtain ⟨e1, e2, e3⟩ := hh h (by omega)
    rw [cs, cs, e1, e2, e3, cs_congr h _ (fun i hi => hh i (by omega))]
theorem cs_mono {β : mB} {T : Nat → Nat} : ∀ (h a a' : Nat), a' ≤ a → cs β T h a = true → cs β T h a' = true
  | 0, _, _, _, _ => rfl
  | h + 1, a, a', ha, hc => by
    rw [cs, Bool.and_eq_true, decide_eq_true_eq] at hc ⊢
    exact ⟨by omega, cs_mono h _ _ (by omega) hc.2⟩
theorem cs_less {β : mB} {T : Nat → Nat} : ∀ (h n : Nat), n ≤ h → ∀ a, cs β T h a = true → cs β T n 0 = true
  | 0, n, hn, a, _ => by
    have : n = 0 := by omega
    subst this
    rfl
  | h + 1, n, hn, a, hc => by
    by_cases e : n = h + 1
    · subst e
      exact cs_mono _ a 0 (Nat.zero_le _) hc
    · rw [cs, Bool.and_eq_true] at hc
      exact cs_less h n (by omega) _ hc.2
theorem okp_scout (N : Nat) : ok_scout N Rel := by
  intro σ τ x1 hrel
  obtain ⟨β, ⟨hO, hX, hM, n1, n2⟩, hrest⟩ := id hrel
  unfold fX6_scout fX7_scout
  by_cases hx : ∃ k, 0 ≤ k ∧ k ≤ 40 ∧ x1 = nI k
  · obtain ⟨k, -, hk, rfl⟩ := hx
    have wm : fX7_in N (nI k).toInt64 0 40 = some 1 := y_in1 N (lo := 0) (hi := 40) (by omega) hk (by decide)
    rw [x_within1 N (by omega) hk (by decide), Option.bind_some, if_neg z10, zlet_eq, wm, Option.bind_some, fX7_puts, if_neg z10, if_pos z30, zlet_eq, if_pos z30, zlet_eq, Option.bind_some, y_at30 hM, Int32.sub_add_cancel]
    refine ⟨_, _, rfl, rfl, hX.2.2.2.1, Rel_band (β' := mset1 β 3 k) hrest ⟨⟨hO.1, hO.2.1, hO.2.2.1, hk, hO.2.2.2.2.1, hO.2.2.2.2.2.1, hO.2.2.2.2.2.2.1, hO.2.2.2.2.2.2.2.1, hO.2.2.2.2.2.2.2.2.1, (cs_congr (β' := mset1 β 3 k) (β := β) (T := β.2 4) (T' := β.2 4) (β.1 2) 0 (fun i hi => ⟨rfl, rfl, rfl⟩)).trans hO.2.2.2.2.2.2.2.2.2⟩, ⟨hX.1, hX.2.1, hX.2.2.1, rfl, hX.2.2.2.2⟩, ?_, n1, n2⟩ rfl rfl (fun q h1 _ _ => by rw [zpf_1, if_neg h1]) (fun q _ _ => rfl) (fun k _ => rfl) (fun q hq _ => by rw [zpa_2, if_neg hq]) (fun i h1 h2 => by rw [zpa_2, if_pos rfl, zupd, nI_clamp (by decide), if_neg (by omega)])⟩
    have rd : ∀ e, (zpa τ 55 (upd (τ.2 55) (nI 30).toNatClampNeg (nI k - nI 5))).2 55 e = if e = 30 then nI k - nI 5 else τ.2 55 e := fun e => by rw [zpa_2, if_pos rfl, zupd, nI_clamp (by decide)]
    have b0 := hO.1
    have b1 := hO.2.1
    have b2 := hO.2.2.1
    refine ⟨by rw [rd, if_neg (by decide)]; exact hM.1, by rw [rd, if_pos (by decide)]; rfl, fun i hi => ?_, fun i hi => ?_, fun i hi => ?_⟩
    · have hi : i < β.1 0 := hi
      rw [rd, rd, rd, rd, if_neg (by omega), if_neg (by omega), if_neg (by omega), if_neg (by omega)]; exact hM.2.2.1 i hi
    · have hi : i < β.1 1 := hi
      rw [rd, if_neg (by omega)]; exact hM.2.2.2.1 i hi
    · have hi : i < β.1 2 := hi
      rw [rd, if_neg (by omega)]; exact hM.2.2.2.2 i hi
  · have wm : fX7_in N x1.toInt64 0 40 = some 0 := y_in0 N (lo := 0) (hi := 40) (by decide) (by decide) hx
    rw [x_within0 N (by decide) (by decide) hx, Option.bind_some, if_pos rfl, wm, Option.bind_some, fX7_puts, if_pos rfl]
    exact ⟨_, _, rfl, rfl, rfl, hrel⟩
theorem okp_down (N : Nat) : ok_down N Rel := by
  intro σ τ x1 hrel
  obtain ⟨β, ⟨hO, hX, hM, n1, n2⟩, hrest⟩ := id hrel
  have b0 := hO.1
  have b1 := hO.2.1
  have b2 := hO.2.2.1
  unfold fX6_down fX7_down
  rw [if_pos z24, zlet_eq, zlet_eq, y_at24 hM, hX.2.2.1, nI_l (n := β.1 2) (by omega)]
  by_cases hx : ∃ k, 0 ≤ k ∧ k ≤ β.1 2 ∧ x1 = nI k
  · obtain ⟨k, -, hk, rfl⟩ := hx
    have wm : fX7_in N (nI k).toInt64 0 (lN (β.1 2)) = some 1 := y_in1 N (lo := 0) (by omega) hk (by omega)
    rw [x_within1 N (by omega) hk (by omega), Option.bind_some, if_neg z10, wm, Option.bind_some, fX7_puts, if_neg z10, if_pos z24, zlet_eq, if_pos z24, zlet_eq, Option.bind_some, y_at24 hM, m_zero, Int32.add_zero]
    obtain ⟨o0, o1, o2, o3, o4, o5, o6, o7, o8, o9⟩ := hO
    refine ⟨_, _, rfl, rfl, rfl, Rel_band (β' := mset1 β 2 k) hrest ⟨⟨o0, o1, by show k ≤ β.1 0; omega, o3, o4, o5, fun i hi => o6 i (by have hi : i < k := hi; omega), fun i hi j hj => o7 i (by have hi : i < k := hi; omega) j (by have hj : j < k := hj; omega), o8, ?_⟩, ⟨hX.1, hX.2.1, rfl, hX.2.2.2.1, hX.2.2.2.2.1, hX.2.2.2.2.2.1, fun i hi => hX.2.2.2.2.2.2 i (by have hi : i < k := hi; omega)⟩, ?_, n1, n2⟩ rfl rfl (fun q h1 _ _ => by rw [zpf_1, if_neg h1]) (fun q _ _ => rfl) (fun k _ => rfl) (fun q hq _ => by rw [zpa_2, if_neg hq]) (fun i h1 h2 => by rw [zpa_2, if_pos rfl, zupd, nI_clamp (by decide), if_neg (by omega)])⟩
    · show cs (mset1 β 2 k) (β.2 4) k 0 = true
      exact (cs_congr (β' := mset1 β 2 k) (β := β) (T := β.2 4) (T' := β.2 4) k 0 (fun i hi => ⟨rfl, rfl, rfl⟩)).trans (cs_less _ _ hk _ o9)
    · have rd : ∀ e, (zpa τ 55 (upd (τ.2 55) (nI 24).toNatClampNeg (nI k - 0))).2 55 e = if e = 24 then nI k else τ.2 55 e := fun e => by rw [zpa_2, if_pos rfl, zupd, nI_clamp (by decide), Int32.sub_zero]
      show BM (zpa τ 55 (upd (τ.2 55) (nI 24).toNatClampNeg (nI k - 0))) 0 (mset1 β 2 k)
      refine ⟨by rw [rd, if_pos (by decide)]; rfl, by rw [rd, if_neg (by decide)]; exact hM.2.1, fun i hi => ?_, fun i hi => ?_, fun i hi => ?_⟩
      · have hi : i < β.1 0 := hi
        rw [rd, rd, rd, rd, if_neg (by omega), if_neg (by omega), if_neg (by omega), if_neg (by omega)]; exact hM.2.2.1 i hi
      · have hi : i < β.1 1 := hi
        rw [rd, if_neg (by omega)]; exact hM.2.2.2.1 i hi
      · have hi : i < k := hi
        rw [rd, if_neg (by omega)]; exact hM.2.2.2.2 i (by omega)
  · have wm : fX7_in N x1.toInt64 0 (lN (β.1 2)) = some 0 := y_in0 N (lo := 0) (by omega) (by decide) hx
    rw [x_within0 N (by omega) (by decide) hx, Option.bind_some, if_pos rfl, wm, Option.bind_some, fX7_puts, if_pos rfl]
    exact ⟨_, _, rfl, rfl, rfl, hrel⟩
section SET2
variable {σ τ : zS} {β : mB}
theorem BX_set2 {a i v : Nat} (ha : a < 6) (hX : BX σ 42 β) : BX (zpa σ a (upd (σ.2 a) i (nI v))) 42 (mset2 β a i v) := by
  have key : ∀ a' j, σ.2 a' j = nI (β.2 a' j) → (zpa σ a (upd (σ.2 a) i (nI v))).2 a' j = nI ((mset2 β a i v).2 a' j) := by
    intro a' j h
    rw [zpa_2]
    show _ = nI (if a' = a ∧ j = i then v else β.2 a' j)
    by_cases e1 : a' = a
    · subst e1
      rw [if_pos rfl, zupd]
      by_cases e2 : j = i
      · rw [if_pos e2, if_pos ⟨rfl, e2⟩]
      · rw [if_neg e2, if_neg (fun h => e2 h.2)]; exact h
    · rw [if_neg e1, if_neg (fun h => e1 h.1)]; exact h
  obtain ⟨x0, x1, x2, x3, x4, x5, x6⟩ := hX
  exact ⟨x0, x1, x2, x3, fun j hj => ⟨key 0 j (x4 j hj).1, key 1 j (x4 j hj).2.1, key 2 j (x4 j hj).2.2.1, key 5 j (x4 j hj).2.2.2⟩, fun j hj => key 3 j (x5 j hj), fun j hj => key 4 j (x6 j hj)⟩
theorem BM_set2 {a i v : Nat} (hO : BOk β) (ha : a ≤ 3) (hi : i < if a = 3 then β.1 1 else β.1 0) (hM : BM τ 0 β) : BM (zpa τ 55 (upd (τ.2 55) (5 * a + i) (nI v))) 0 (mset2 β a i v) := by
  have b0 := hO.1
  have b1 := hO.2.1
  have b2 := hO.2.2.1
  have hi5 : i < 5 ∧ (a = 3 → i < 4) := by
    split at hi <;> omega
  have rd : ∀ e, (zpa τ 55 (upd (τ.2 55) (5 * a + i) (nI v))).2 55 e = if e = 5 * a + i then nI v else τ.2 55 e := fun e => rfl
  have key : ∀ a' j e, e = 5 * a' + j → j < 5 → τ.2 55 e = nI (β.2 a' j) → (zpa τ 55 (upd (τ.2 55) (5 * a + i) (nI v))).2 55 e = nI ((mset2 β a i v).2 a' j) := by
    intro a' j e he hj h
    rw [rd]
    show _ = nI (if a' = a ∧ j = i then v else β.2 a' j)
    by_cases e1 : a' = a ∧ j = i
    · rw [if_pos e1, if_pos (by omega)]
    · rw [if_neg e1, if_neg (by omega)]; exact h
  have far : ∀ e, 19 ≤ e → (zpa τ 55 (upd (τ.2 55) (5 * a + i) (nI v))).2 55 e = τ.2 55 e := fun e he => by rw [rd, if_neg (by omega)]
  have n45 : ∀ a' j, 4 ≤ a' → (mset2 β a i v).2 a' j = β.2 a' j := fun a' j h => by
    show (if a' = a ∧ j = i then v else β.2 a' j) = _
    rw [if_neg (by omega)]
  obtain ⟨y0, y1, y2, y3, y4⟩ := hM
  refine ⟨by rw [far _ (by omega)]; exact y0, by rw [far _ (by omega)]; exact y1, fun j hj => ⟨key 0 j _ (by omega) (by have hj : j < β.1 0 := hj; omega) (y2 j hj).1, key 1 j _ (by omega) (by have hj : j < β.1 0 := hj; omega) (y2 j hj).2.1, key 2 j _ (by omega) (by have hj : j < β.1 0 := hj; omega) (y2 j hj).2.2.1, by rw [far _ (by omega), n45 5 j (by decide)]; exact (y2 j hj).2.2.2⟩, fun j hj => key 3 j _ (by omega) (by have hj : j < β.1 1 := hj; omega) (y3 j hj), fun j hj => by rw [far _ (by omega), n45 4 j (by decide)]; exact y4 j hj⟩
end SET2
theorem okp_steel (N : Nat) : ok_steel N Rel := by
  intro σ τ x1 x2 hrel
  obtain ⟨β, ⟨hO, hX, hM, n1, n2⟩, hrest⟩ := id hrel
  have b0 := hO.1
  have b1 := hO.2.1
  have b2 := hO.2.2.1
  unfold fX6_steel fX7_steel
  by_cases hx : ∃ k, k < β.1 1 ∧ x1 = nI k
  · obtain ⟨k, hk, rfl⟩ := hx
    rw [x_hasR1 N hX.2.1 (by omega) hk, Option.bind_some, if_neg z10, y_hasR1 N n2 (by omega) hk, Option.bind_some, if_neg z10]
    by_cases hv : ∃ v, 0 ≤ v ∧ v ≤ 99 ∧ x2 = nI v
    · obtain ⟨v, -, hv, rfl⟩ := hv
      have wm : fX7_in N (nI v).toInt64 0 99 = some 1 := y_in1 N (lo := 0) (hi := 99) (by omega) hv (by decide)
      have e1 := hX.2.2.2.2.2.1 k hk
      have e2 := hM.2.2.2.1 k hk
      rw [Nat.zero_add] at e2
      have hin : zin (nI k) (zlen 3) := m_zin (show k < 4 by omega) (by decide)
      rw [x_within1 N (by omega) hv (by decide), Option.bind_some, if_neg z10, if_pos hin, zlet_eq, if_pos hin, zlet_eq, nI_clamp (by omega), wm, Option.bind_some, if_neg z10, fX7_steel_26, fX7_puts, if_neg (show ¬ nI 1 = 0 from z10), zlen55, nI_add, if_pos (m_zin (by omega) (by decide)), zlet_eq, if_pos (m_zin (by omega) (by decide)), zlet_eq, Option.bind_some, nI_clamp (by omega), e2, m_zero, Int32.sub_zero, Int32.add_zero]
      obtain ⟨o0, o1, o2, o3, o4, o5, o6, o7, o8, o9⟩ := id hO
      refine ⟨_, _, rfl, rfl, e1, Rel_band (β' := mset2 β 3 k v) hrest ⟨⟨o0, o1, o2, o3, fun i hi => ?_, fun i hi => ?_, o6, o7, fun i hi j hj => ?_, ?_⟩, BX_set2 (a := 3) (by decide) hX, BM_set2 (a := 3) hO (by decide) hk hM, n1, n2⟩ rfl rfl (fun q _ _ _ => rfl) (fun q h1 _ => by rw [zpa_2, if_neg (by omega)]) (fun k _ => rfl) (fun q hq _ => by rw [zpa_2, if_neg hq]) (fun i h1 h2 => by rw [zpa_2, if_pos rfl, zupd, if_neg (by omega)])⟩
      · exact o4 i hi
      · show (if 3 = 3 ∧ i = k then v else β.2 3 i) ≤ 99
        split
        · exact hv
        · exact o5 i hi
      · exact o8 i hi j hj
      · show cs (mset2 β 3 k v) (β.2 4) (β.1 2) 0 = true
        exact (cs_congr (β' := mset2 β 3 k v) (β := β) (T := β.2 4) (T' := β.2 4) (β.1 2) 0 (fun i hi => ⟨rfl, rfl, rfl⟩)).trans o9
    · have wm : fX7_in N x2.toInt64 0 99 = some 0 := y_in0 N (lo := 0) (hi := 99) (by decide) (by decide) hv
      rw [x_within0 N (by decide) (by decide) hv, Option.bind_some, if_pos rfl, wm, Option.bind_some, if_pos rfl, fX7_steel_25, fX7_steel_26, fX7_puts, if_pos m_zero]
      exact ⟨_, _, rfl, rfl, rfl, hrel⟩
  · rw [x_hasR0 N hX.2.1 (by omega) hx, y_hasR0 N n2 (by omega) hx, Option.bind_some, Option.bind_some, if_pos rfl, if_pos rfl, fX7_steel_25, fX7_steel_26, fX7_puts, if_pos m_zero]
    exact ⟨_, _, rfl, rfl, rfl, hrel⟩

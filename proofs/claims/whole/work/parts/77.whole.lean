/-! all lines, then the whole -/
section ALL
variable {B : Nat → Nat} {n : Nat}
theorem loop_eq (N : Nat) (hN : 4000 ≤ N) (hB : TB B n) (KX KY : Int32 → zS → Option (Int32 × zS)) : ∀ m p : Nat, n - p = m → p ≤ n → ∀ (σ τ : zS) (L fx fy : Nat), L ≤ p → n - p + 1 < fx → n - p + 2 < fy → TX σ B n → TY τ B n → σ.1 50 3 = nI p → σ.1 50 9 = nI 0 → YT τ B n p → RC τ → (∃ (β : mB) (k t t' : Nat), DD σ τ β k t t') → ∃ (σ' τ' : zS) (L1 L2 : Nat), fX4_tellAll_39 N KX fx (nI L) σ = KX (nI L1) σ' ∧ fX7_text_67 N KY fy (nI L) τ = KY (nI L2) τ' ∧ GX σ σ' ∧ GY τ τ' ∧ ((∃ w pl, XF σ' w pl ∧ YF τ' w pl) ∨ (L1 = L2 ∧ σ'.1 50 9 = nI 0 ∧ τ'.1 66 13 = nI 0 ∧ τ'.1 66 16 = nI n ∧ ∃ (β : mB) (k t t' : Nat), DD σ' τ' β k t t')) := by
  have hn := hB.1
  intro m
  induction m using Nat.strongRecOn with
  | ind m ih =>
    intro p hm hp σ τ L fx fy hL hfx hfy ht ht' h3 h9 hy hC hd
    obtain ⟨fx, rfl⟩ : ∃ k, fx = k + 1 := ⟨fx - 1, by omega⟩
    obtain ⟨fy, rfl⟩ : ∃ k, fy = k + 1 := ⟨fy - 1, by omega⟩
    obtain ⟨c4, c2, c3, c5, c6⟩ := tC_le (B := B) hp
    have hs := tS_le (B := B) hp
    rw [fX4_tellAll_39, if_neg (fun h => by have := (nI_ltI (by decide) (by omega)).mp h; omega), fX7_text_67]
    by_cases h4 : (tC B n p).1 = 4
    · obtain ⟨σ1, k1, k2, k3, k4, -⟩ := x_tok N hN hB ht hp h3
      have hF := YT_F hy h4
      rw [fX4_takeLine, k1, Option.bind_some, if_pos h4]
      dsimp only
      rw [if_pos rfl, Option.bind_some, hF.1, if_neg (w_no hF.2.2)]
      dsimp only
      rw [if_pos rfl]
      exact ⟨σ1, τ, L, L, rfl, rfl, FX_G k2, GY_rfl τ, Or.inl ⟨1, _, ⟨(k4 h4).1, (k4 h4).2, by decide, by decide⟩, hF⟩⟩
    · obtain ⟨y13, y15, y17, -⟩ := hy.2.2 h4
      by_cases hk3 : (tC B n p).1 = 3
      · obtain ⟨σ1, k1, k2, k3, -, k5⟩ := x_tok N hN hB ht hp h3
        obtain ⟨l1, l2, l3, -⟩ := k5 h4
        rw [fX4_takeLine, k1, Option.bind_some, if_neg h4]
        dsimp only
        rw [if_neg z10, l3, if_pos (show nI (tC B n p).1 = nI 3 by rw [hk3]), Option.bind_some, y13, if_pos m_zero, y17, if_pos (show nI (((tC B n p).1 + 1) % 4) = 0 by rw [hk3]; rfl)]
        dsimp only
        rw [if_pos rfl]
        obtain ⟨β, k, t, t', hd⟩ := hd
        exact ⟨σ1, τ, L, L, rfl, rfl, FX_G k2, GY_rfl τ, Or.inr ⟨rfl, l1.trans h9, y13, by rw [hy.1, c6 hk3], β, k, t, t', DD_eq k2 (FW_rfl τ) hd⟩⟩
      · obtain ⟨β, k, t, t', hd⟩ := hd
        have hO := line_eq N hN hB hp ht ht' h3 h9 hy hC hd h4 hk3
        rw [y13, if_pos m_zero, y17, if_neg (show ¬ nI (((tC B n p).1 + 1) % 4) = 0 from fun h => by have := (nI_eq (b := 0) (by omega) (by decide)).mp h; omega)]
        rcases hO with ⟨σ1, τ1, w, pl, e1, e2, e3, e4, e5, e6⟩ | ⟨σ1, τ1, p', e1, e2, e3, e4, e5, e6, e7, e8, e9, hd'⟩
        · obtain ⟨fy, rfl⟩ : ∃ k, fy = k + 1 := ⟨fy - 1, by omega⟩
          rw [e1, e2, Option.bind_some, Option.bind_some, fX7_text_67, e6.1, if_neg (w_no e6.2.2)]
          dsimp only
          rw [if_pos rfl, nI_add]
          exact ⟨σ1, τ1, L, L + 1, rfl, rfl, e3, e4, Or.inl ⟨w, pl, e5, e6⟩⟩
        · rw [e1, e2, Option.bind_some, Option.bind_some]
          dsimp only
          rw [if_neg z10, nI_add]
          obtain ⟨σ2, τ2, L1, L2, q1, q2, q3, q4, q5⟩ := ih (n - p') (by omega) p' rfl e6 σ1 τ1 (L + 1) fx fy (by omega) (by omega) (by omega) (GX_T e3 ht) (GY_T e4 ht') e7 e8 e9 (RC_eq hC (e4.2.2 58 (by decide)) (e4.2.2 59 (by decide))) hd'
          exact ⟨σ2, τ2, L1, L2, q1, q2, GX_tr e3 q3, GY_tr e4 q4, q5⟩
theorem x_there_loop (N : Nat) {σ : zS} {b1 b sz : Nat} {T : Nat → Nat} (hb : σ.1 43 6 = nI b) (hb5 : b ≤ 5) (hz : sz ≤ zlen b1) (hz5 : zlen b1 ≤ 31) (hT : ∀ i, i < sz → σ.2 b1 i = nI (T i) ∧ T i < 5) : ∀ d i : Nat, i + d = sz → ∀ f : Nat, d < f → ((∀ j, i ≤ j → j < sz → T j < b) → fX4_areThere_2 N σ f b1 (nI sz) (nI i) = some 1) ∧ ((¬ ∀ j, i ≤ j → j < sz → T j < b) → fX4_areThere_2 N σ f b1 (nI sz) (nI i) = some 0) := by
  intro d
  induction d with
  | zero =>
    intro i hi f hf
    obtain ⟨f, rfl⟩ : ∃ k, f = k + 1 := ⟨f - 1, by omega⟩
    rw [fX4_areThere_2, if_pos ((nI_leI (by omega) (by omega)).mpr (by omega))]
    exact ⟨fun _ => rfl, fun h => absurd (fun j h1 h2 => by omega) h⟩
  | succ d ih =>
    intro i hi f hf
    obtain ⟨f, rfl⟩ : ∃ k, f = k + 1 := ⟨f - 1, by omega⟩
    obtain ⟨t1, t2⟩ := hT i (by omega)
    obtain ⟨i1, i2⟩ := ih (i + 1) (by omega) f (by omega)
    rw [fX4_areThere_2, if_neg (fun h => by have := (nI_leI (by omega) (by omega)).mp h; omega), if_pos (m_zin (by omega) (by omega)), zlet_eq, nI_clamp (by omega), t1]
    by_cases h : T i < b
    · rw [x_has1 N hb (by omega) h, Option.bind_some, if_neg z10, nI_add]
      refine ⟨fun ha => i1 (fun j h1 h2 => ha j (by omega) h2), fun ha => i2 (fun hh => ha (fun j h1 h2 => ?_))⟩
      by_cases e : j = i
      · rw [e]; exact h
      · exact hh j (by omega) h2
    · rw [x_has0 N hb (by omega) (fun ⟨q, h1, h2⟩ => h (by have := (nI_eq (by omega) (by omega)).mp h2; omega)), Option.bind_some, if_pos rfl]
      exact ⟨fun ha => absurd (ha i (Nat.le_refl _) (by omega)) h, fun _ => rfl⟩
theorem x_there (N : Nat) (hN : 4000 ≤ N) {σ : zS} {b1 b sz : Nat} {T : Nat → Nat} (hb : σ.1 43 6 = nI b) (hb5 : b ≤ 5) (hz : sz ≤ zlen b1) (hz5 : zlen b1 ≤ 31) (hT : ∀ i, i < sz → σ.2 b1 i = nI (T i) ∧ T i < 5) : ((∀ j, j < sz → T j < b) → fX4_areThere N σ b1 (nI sz) = some 1) ∧ ((¬ ∀ j, j < sz → T j < b) → fX4_areThere N σ b1 (nI sz) = some 0) := by
  obtain ⟨h1, h2⟩ := x_there_loop N hb hb5 hz hz5 hT sz 0 (by omega) N (by omega)
  exact ⟨fun h => h1 (fun j _ hj => h j hj), fun h => h2 (fun hh => h (fun j hj => hh j (Nat.zero_le _) hj))⟩
def HY (τ τ' : zS) : Prop := (∀ q, q ≠ 66 → τ'.1 q = τ.1 q) ∧ (∀ k, k ≠ 13 → k ≠ 14 → τ'.1 66 k = τ.1 66 k) ∧ (∀ q, q ≠ 55 → τ'.2 q = τ.2 q) ∧ ∀ i, i < 124 → τ'.2 55 i = τ.2 55 i
theorem HY_tr {a b c : zS} (h1 : HY a b) (h2 : HY b c) : HY a c := ⟨fun q hq => (h2.1 q hq).trans (h1.1 q hq), fun q h h' => (h2.2.1 q h h').trans (h1.2.1 q h h'), fun q hq => (h2.2.2.1 q hq).trans (h1.2.2.1 q hq), fun q hq => (h2.2.2.2 q hq).trans (h1.2.2.2 q hq)⟩
theorem y_wcopy (N : Nat) (K : zS → Option zS) : ∀ d j : Nat, j + d = 31 → ∀ (f : Nat) (τ : zS), d < f → ∃ τ' : zS, fX7_readWhole_60 N K f (nI j) τ = K τ' ∧ τ'.1 = τ.1 ∧ (∀ q, q ≠ 55 → τ'.2 q = τ.2 q) ∧ ∀ e, τ'.2 55 e = if 124 + j ≤ e ∧ e < 155 then τ.2 56 (e - 124) else τ.2 55 e := by
  intro d
  induction d with
  | zero =>
    intro j hj f τ hf
    obtain ⟨f, rfl⟩ : ∃ k, f = k + 1 := ⟨f - 1, by omega⟩
    rw [fX7_readWhole_60, if_pos ((nI_leI (by decide) (by omega)).mpr (by omega))]
    exact ⟨τ, rfl, rfl, fun _ _ => rfl, fun e => by rw [if_neg (by omega)]⟩
  | succ d ih =>
    intro j hj f τ hf
    obtain ⟨f, rfl⟩ : ∃ k, f = k + 1 := ⟨f - 1, by omega⟩
    have r1 : τ.2 56 (nI j).toNatClampNeg = τ.2 56 j := by rw [nI_clamp (by omega)]
    rw [fX7_readWhole_60, if_neg (fun h => by have := (nI_leI (by decide) (by omega)).mp h; omega), zlen56, if_pos (m_zin (by omega) (by decide)), zlet_eq, r1, nI_add, zlen55, if_pos (m_zin (by omega) (by decide)), zlet_eq, nI_add]
    obtain ⟨τ', k1, k2, k3, k4⟩ := ih (j + 1) (by omega) f (zpa τ 55 (upd (τ.2 55) (nI (124 + j)).toNatClampNeg (τ.2 56 j))) (by omega)
    refine ⟨τ', k1, k2, fun q hq => by rw [k3 q hq, zpa_2, if_neg hq], fun e => ?_⟩
    rw [k4, zpa_ne _ _ (show 56 ≠ 55 by decide), zpa_2, if_pos rfl, zupd, nI_clamp (by omega)]
    by_cases h1 : e = 124 + j
    · rw [if_neg (by omega), if_pos h1, if_pos (by omega), h1, Nat.add_sub_cancel_left]
    · by_cases h2 : 124 + (j + 1) ≤ e ∧ e < 155
      · rw [if_pos h2, if_pos (by omega)]
      · rw [if_neg h2, if_neg h1, if_neg (by omega)]
theorem y_58 (N : Nat) (hN : 4000 ≤ N) (τ : zS) : ∃ τ' : zS, fX7_readWhole_58 N τ = fX7_readWhole_87 N τ' ∧ τ'.1 = τ.1 ∧ HY τ τ' ∧ ∀ i, i < 31 → τ'.2 55 (124 + i) = τ.2 56 i := by
  obtain ⟨τ', k1, k2, k3, k4⟩ := y_wcopy N (fX7_readWhole_87 N) 31 0 rfl N τ (by omega)
  exact ⟨τ', k1, k2, ⟨fun q _ => by rw [k2], fun q _ _ => by rw [k2], k3, fun i hi => by rw [k4, if_neg (by omega)]⟩, fun i hi => by rw [k4, if_pos (by omega), Nat.add_sub_cancel_left]⟩
theorem y_58B (N : Nat) (hN : 4000 ≤ N) {τ : zS} {w pl : Nat} (h : YF τ w pl) : ∃ τ' : zS, fX7_readWhole_58 N τ = some τ' ∧ HY τ τ' ∧ YF τ' w pl := by
  obtain ⟨τ', k1, k2, k3, -⟩ := y_58 N hN τ
  have hF : YF τ' w pl := YF_eq (fun k _ _ => by rw [k2]) h
  rw [k1, fX7_readWhole_87, hF.1, if_neg (w_no h.2.2)]
  exact ⟨τ', rfl, k3, hF⟩
theorem y_failsB (N : Nat) {τ : zS} {w pl : Nat} (h : YF τ w pl) (x : Int32) : fX7_fails N τ x = some τ := by
  unfold fX7_fails
  rw [h.1, if_neg (w_no h.2.2)]
theorem y_31B (N : Nat) (hN : 4000 ≤ N) {τ : zS} {w pl : Nat} (h : YF τ w pl) (x : Int32) : ∃ τ' : zS, fX7_readWhole_31 N x τ = some τ' ∧ HY τ τ' ∧ YF τ' w pl := by
  rw [fX7_readWhole_31]
  split
  · split
    · exact y_58B N hN h
    · rw [y_failsB N h, Option.bind_some]; exact y_58B N hN h
  · exact y_58B N hN h
theorem FW_H {τ τ' : zS} (h : FW τ τ') (h' : ∀ k, k ≠ 13 → k ≠ 14 → τ'.1 66 k = τ.1 66 k) : HY τ τ' := ⟨h.2.1, h', fun q _ => by rw [h.1], fun i _ => by rw [h.1]⟩
theorem and_lt : ∀ b, b < 6 → ∀ r, r < 32 → (r &&& (2 ^ b - 1) = r ↔ r < 2 ^ b) := by decide +kernel
theorem pop_full : ∀ b, b < 6 → ∀ r, r < 2 ^ b → mpop r = b → r = 2 ^ b - 1 := by decide +kernel
theorem pop_top : ∀ b, b < 6 → mpop (2 ^ b - 1) = b := by decide +kernel
theorem mbits_all {T : Nat → Nat} {b : Nat} : ∀ i : Nat, mbits T i < 2 ^ b ↔ ∀ j, j < i → T j < b
  | 0 => ⟨fun _ j hj => absurd hj (by omega), fun _ => by rw [mbits]; exact Nat.pow_pos (by decide)⟩
  | i + 1 => by
    have ih := mbits_all (T := T) (b := b) i
    constructor
    · intro h j hj
      by_cases hc : T j < b
      · exact hc
      · exfalso
        have h1 : (mbits T (i + 1)).testBit (T j) = true := (mbits_tst T (T j) (i + 1)).mpr ⟨j, hj, rfl⟩
        have h2 : mbits T (i + 1) < 2 ^ T j := Nat.lt_of_lt_of_le h (Nat.pow_le_pow_right (by decide) (by omega))
        rw [Nat.testBit_lt_two_pow h2] at h1
        exact absurd h1 (by decide)
    · intro h
      rw [mbits]
      exact Nat.or_lt_two_pow (ih.mpr (fun j hj => h j (by omega))) (Nat.pow_lt_pow_right (by decide) (h i (by omega)))
theorem p2_top : ∀ b, b < 6 → 2 ^ b - 1 < 32 := by decide
theorem low_ok {β : mB} {k : Nat} (hO : DO β k) (hb : ∀ i, i < β.1 0 → β.2 5 i < β.1 0) (hi : ∀ i, i < β.1 0 → ∀ j, j < β.1 0 → β.2 5 i = β.2 5 j → i = j) : BOk (mset1 β 2 0) := by
  obtain ⟨o0, o1, o2, o3, o4, o5, o6, o7, o8, o9⟩ := hO
  exact ⟨o0, o1, Nat.zero_le _, o3, fun i h => ⟨(o5 i h).1, (o5 i h).2.1, (o5 i h).2.2.1, (o5 i h).2.2.2, hb i h⟩, o6, fun i h => absurd h (Nat.not_lt_zero i), fun i h => absurd h (Nat.not_lt_zero i), hi, rfl⟩
theorem cs_low {β : mB} {T : Nat → Nat} (h a : Nat) : cs (mset1 β 2 0) T h a = cs β T h a := cs_congr h a (fun _ _ => ⟨rfl, rfl, rfl⟩)
theorem whole_eq (N : Nat) (hN : 4000 ≤ N) {σ τ : zS} {β : mB} {k t t' : Nat} (hd : DD σ τ β k t t') (ht : σ.1 50 2 = nI n) (h13 : τ.1 66 13 = nI 0) (h16 : τ.1 66 16 = nI n) : ∃ σ' τ' : zS, fX4_lookAtWhole N σ = some σ' ∧ fX7_readWhole N τ = some τ' ∧ FX σ σ' ∧ HY τ τ' ∧ ((∃ w pl, XF σ' w pl ∧ YF τ' w pl) ∨ (σ' = σ ∧ τ'.1 66 13 = nI 0 ∧ BOk β)) := by
  obtain ⟨hO, hX, hY, d1, d2, d3, d4, d5, d6, d7⟩ := hd
  obtain ⟨o0, o1, o2, o3, o4, o5, o6, o7, o8, o9⟩ := id hO
  obtain ⟨⟨a1, a2, a3, a4⟩, a5, a6, a7, a8, a9⟩ := id hX
  obtain ⟨⟨z1, z2, z3, z4⟩, z5, z6, z7, z8, z9, z10', z11⟩ := id hY
  have m1 := mbits_lt (β.2 4) (β.1 2) o7.1
  have m2 := mbits_lt (β.2 5) k o8.1
  have hor : mbits (β.2 4) (β.1 2) ||| mbits (β.2 5) k < 32 := Nat.or_lt_two_pow (n := 5) m1 m2
  have hp0 : 0 < 2 ^ β.1 0 := Nat.pow_pos (by decide)
  have hp32 := p2_top (β.1 0) (by omega)
  obtain ⟨e1, e2⟩ := x_there N hN (b1 := 10) (T := β.2 4) (sz := β.1 2) a1 o0 (show β.1 2 ≤ 5 from o2) (by decide) (fun i hi => ⟨a7 i hi, o7.1 i hi⟩)
  obtain ⟨e3, e4⟩ := x_there N hN (b1 := 11) (T := β.2 5) (sz := k) a1 o0 (show k ≤ 5 from o4) (by decide) (fun i hi => ⟨a8 i (by omega), o8.1 i hi⟩)
  have hv : (nI 1 <<< (nI (β.1 0) &&& 31)) - nI 1 = nI (2 ^ β.1 0 - 1) := by rw [m_bit (by omega), m_sub (by omega)]
  have hsplit : mbits (β.2 4) (β.1 2) ||| mbits (β.2 5) k < 2 ^ β.1 0 ↔ (∀ j, j < β.1 2 → β.2 4 j < β.1 0) ∧ ∀ j, j < k → β.2 5 j < β.1 0 := by
    rw [← mbits_all, ← mbits_all]
    exact ⟨fun h => ⟨Nat.lt_of_le_of_lt Nat.left_le_or h, Nat.lt_of_le_of_lt Nat.right_le_or h⟩, fun h => Nat.or_lt_two_pow h.1 h.2⟩
  have hm := (m_not _ hp32 _ hor).trans ((and_lt (β.1 0) (by omega) _ hor).trans hsplit)
  have hl : fX4_lookAtWhole N σ = fX4_lookAtWhole_18 N (nI (if t.testBit 7 = true then 1 else 0)) σ := by
    unfold fX4_lookAtWhole
    rw [d1]
    by_cases h : t.testBit 7 = true
    · rw [if_pos ((m_tst1 (by omega) (by decide)).mpr h), if_pos h]
    · rw [if_neg (fun h' => h ((m_tst1 (by omega) (by decide)).mp h')), if_neg h]
  have hrefuse : ∀ w, 1 ≤ w ∧ w ≤ 8 → ∃ σ' : zS, ((fX4_refuse N σ (nI w) (σ.1 50 2)).bind fun q => some q.2) = some σ' ∧ FX σ σ' ∧ XF σ' w n := fun w hw => by
    obtain ⟨σ', k1, k2, k3⟩ := x_refuse N σ (w := w) (pl := n) hw
    rw [ht, k1, Option.bind_some]
    exact ⟨σ', rfl, k2, k3⟩
  have hfail : ∀ w, 1 ≤ w ∧ w ≤ 8 → ∃ τ' : zS, fX7_fails N τ (nI w) = some τ' ∧ HY τ τ' ∧ YF τ' w n := fun w hw => by
    obtain ⟨τ', k1, k2, k3, k4, k5⟩ := y_fails N h13 (nI w)
    exact ⟨τ', k1, FW_H k2 k5, k3, by rw [k4]; exact h16, hw⟩
  unfold fX7_readWhole
  rw [hl, zlet_eq, z1, hv, z9, z10', m_or, fX4_lookAtWhole_18, a3, a9]
  by_cases hAC : (∀ j, j < β.1 2 → β.2 4 j < β.1 0) ∧ ∀ j, j < k → β.2 5 j < β.1 0
  · rw [if_pos (hm.mpr hAC), e1 hAC.1, Option.bind_some, if_neg z10, e3 hAC.2, Option.bind_some, if_neg z10, fX7_readWhole_31, d2, z10']
    -- what is left when the beds are well told
    have hend : (∀ i, i < β.1 0 → β.2 5 i < β.1 0) → (∀ i, i < β.1 0 → ∀ j, j < β.1 0 → β.2 5 i = β.2 5 j → i = j) → ∃ σ' τ' : zS, fX4_lookAtWhole_104 N σ = some σ' ∧ fX7_readWhole_58 N τ = some τ' ∧ FX σ σ' ∧ HY τ τ' ∧ ((∃ w pl, XF σ' w pl ∧ YF τ' w pl) ∨ (σ' = σ ∧ τ'.1 66 13 = nI 0 ∧ BOk β)) := fun hb hi => by
      have hL := low_ok hO hb hi
      obtain ⟨τ1, k1, k2, k3, k4⟩ := y_58 N hN τ
      have hxs : fX0_stands N σ 43 = some (if cs β (β.2 4) (β.1 2) 0 = true then 1 else 0) := by
        rw [x_standsG N hN (by decide) (by decide) hL (T := β.2 4) (h := β.1 2) (fun i hi => ⟨(a5 i hi).1, (a5 i hi).2.1⟩) o2 a3 (fun i hi => ⟨a7 i hi, hAC.1 i hi⟩), cs_low]
      have hys : fX7_standsOn N τ1 (nI 124) = some (if cs β (β.2 4) (β.1 2) 0 = true then 1 else 0) := by
        rw [y_standsG N hN (by decide) hL (T := β.2 4) (h := β.1 2) (fun i hi => by
          have hi' : i < β.1 0 := hi
          exact ⟨by rw [k4 i (by omega)]; exact (z5 i hi').1, by rw [show 124 + 5 + i = 124 + (5 + i) by omega, k4 _ (by omega)]; exact (z5 i hi').2.1⟩) o2 (by rw [k4 24 (by decide)]; exact z3) (fun i hi => ⟨by rw [show 124 + 19 + i = 124 + (19 + i) by omega, k4 _ (by omega)]; exact z7 i hi, hAC.1 i hi⟩), cs_low]
      rw [fX4_lookAtWhole_104, hxs, Option.bind_some, k1, fX7_readWhole_87, k2, h13, if_pos m_zero, hys, Option.bind_some]
      by_cases hc : cs β (β.2 4) (β.1 2) 0 = true
      · rw [if_pos hc, if_neg z10, if_neg z10]
        refine ⟨σ, τ1, rfl, rfl, FX_rfl σ, k3, Or.inr ⟨rfl, by rw [k2]; exact h13, o0, o1, m_pig _ _ _ hAC.1 o7.2, o3, fun i h => ⟨(o5 i h).1, (o5 i h).2.1, (o5 i h).2.2.1, (o5 i h).2.2.2, hb i h⟩, o6, hAC.1, o7.2, hi, hc⟩⟩
      · rw [if_neg hc, if_pos rfl, if_pos rfl]
        obtain ⟨σ', q1, q2, q3⟩ := hrefuse 8 (by decide)
        obtain ⟨τ2, l1, l2, l3, l4, l5⟩ := y_fails N (τ := τ1) (by rw [k2]; exact h13) (nI 8)
        rw [q1, l1, Option.bind_some]
        exact ⟨σ', τ2, rfl, rfl, q2, HY_tr k3 (FW_H l2 l5), Or.inl ⟨8, n, q3, l3, by rw [l4, k2]; exact h16, by decide, by decide⟩⟩
    by_cases h7 : t.testBit 7 = true
    · rw [if_pos h7, if_neg (by decide), a1, if_pos ((m_tst1 (by omega) (by decide)).mpr (by rw [← d5 7 (by decide) (by decide)]; exact h7))]
      by_cases hk : k = β.1 0
      · have hmask : mbits (β.2 5) k = 2 ^ β.1 0 - 1 := pop_full (β.1 0) (by omega) _ ((mbits_all k).mpr hAC.2) (by rw [mpop_bits k o8]; exact hk)
        rw [if_pos (by rw [hk]), if_pos (by rw [hmask])]
        rw [hk] at hAC o8
        exact hend hAC.2 o8.2
      · have hmask : ¬ mbits (β.2 5) k = 2 ^ β.1 0 - 1 := fun h => hk (by rw [← mpop_bits k o8, h, pop_top _ (by omega)])
        rw [if_neg (fun h => hk ((nI_eq (by omega) (by omega)).mp h)), if_neg (fun h => hmask ((nI_eq (by omega) (by omega)).mp h))]
        obtain ⟨σ', q1, q2, q3⟩ := hrefuse 7 (by decide)
        obtain ⟨τ1, l1, l2, l3⟩ := hfail 7 (by decide)
        obtain ⟨τ2, n1, n2, n3⟩ := y_58B N hN l3
        rw [q1, l1, Option.bind_some, n1]
        exact ⟨σ', τ2, rfl, rfl, q2, HY_tr l2 n2, Or.inl ⟨7, n, q3, n3⟩⟩
    · have h7' : t.testBit 7 = false := by simpa using h7
      have hk0 := d7 h7'
      rw [if_neg h7, if_pos m_zero, if_neg (fun h => h7 (by rw [d5 7 (by decide) (by decide)]; exact (m_tst1 (by omega) (by decide)).mp h))]
      have hid : ∀ i, i < β.1 0 → β.2 5 i = i := fun i hi => o9 i (by omega) (by omega)
      exact hend (fun i hi => by rw [hid i hi]; exact hi) (fun i hi j hj e => by rw [hid i hi, hid j hj] at e; exact e)
  · rw [if_neg (fun h => hAC (hm.mp h))]
    obtain ⟨σ', q1, q2, q3⟩ := hrefuse 6 (by decide)
    obtain ⟨τ1, l1, l2, l3⟩ := hfail 6 (by decide)
    obtain ⟨τ2, n1, n2, n3⟩ := y_31B N hN l3 (nI (2 ^ β.1 0 - 1))
    rw [l1, Option.bind_some, n1]
    have hgo : fX4_lookAtWhole_58 N σ = some σ' := q1
    by_cases hA : ∀ j, j < β.1 2 → β.2 4 j < β.1 0
    · rw [e1 hA, Option.bind_some, if_neg z10, e4 (fun h => hAC ⟨hA, h⟩), Option.bind_some, if_pos rfl, hgo]
      exact ⟨σ', τ2, rfl, rfl, q2, HY_tr l2 n2, Or.inl ⟨6, n, q3, n3⟩⟩
    · rw [e2 hA, Option.bind_some, if_pos rfl, hgo]
      exact ⟨σ', τ2, rfl, rfl, q2, HY_tr l2 n2, Or.inl ⟨6, n, q3, n3⟩⟩
end ALL

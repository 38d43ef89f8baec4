/-! the band that is being told, on both sides -/
def DO (β : mB) (k : Nat) : Prop :=
  β.1 0 ≤ 5 ∧ β.1 1 ≤ 4 ∧ β.1 2 ≤ 5 ∧ β.1 3 ≤ 40 ∧ k ≤ 5 ∧
  (∀ i, i < β.1 0 → β.2 0 i ≤ 3 ∧ 1 ≤ β.2 1 i ∧ β.2 1 i ≤ 9 ∧ β.2 2 i ≤ 9) ∧ (∀ i, i < β.1 1 → β.2 3 i ≤ 99) ∧
  ((∀ i, i < β.1 2 → β.2 4 i < 5) ∧ ∀ i, i < β.1 2 → ∀ j, j < β.1 2 → β.2 4 i = β.2 4 j → i = j) ∧
  ((∀ i, i < k → β.2 5 i < 5) ∧ ∀ i, i < k → ∀ j, j < k → β.2 5 i = β.2 5 j → i = j) ∧ ∀ i, k ≤ i → i < 5 → β.2 5 i = i
def DX (σ : zS) (β : mB) (k : Nat) : Prop :=
  (σ.1 43 6 = nI (β.1 0) ∧ σ.1 43 7 = nI (β.1 1) ∧ σ.1 43 8 = nI (β.1 2) ∧ σ.1 43 9 = nI (β.1 3)) ∧
  (∀ i, i < β.1 0 → σ.2 6 i = nI (β.2 0 i) ∧ σ.2 7 i = nI (β.2 1 i) ∧ σ.2 8 i = nI (β.2 2 i)) ∧
  (∀ i, i < β.1 1 → σ.2 9 i = nI (β.2 3 i)) ∧ (∀ i, i < β.1 2 → σ.2 10 i = nI (β.2 4 i)) ∧ (∀ i, i < 5 → σ.2 11 i = nI (β.2 5 i)) ∧ σ.1 50 8 = nI k
def DY (τ : zS) (β : mB) (k : Nat) : Prop :=
  (τ.1 66 4 = nI (β.1 0) ∧ τ.1 66 5 = nI (β.1 1) ∧ τ.2 56 24 = nI (β.1 2) ∧ τ.2 56 30 = nI (β.1 3) - nI 5) ∧
  (∀ i, i < β.1 0 → τ.2 56 i = nI (β.2 0 i) ∧ τ.2 56 (5 + i) = nI (β.2 1 i) ∧ τ.2 56 (10 + i) = nI (β.2 2 i)) ∧
  (∀ i, i < β.1 1 → τ.2 56 (15 + i) = nI (β.2 3 i)) ∧ (∀ i, i < β.1 2 → τ.2 56 (19 + i) = nI (β.2 4 i)) ∧ (∀ i, i < 5 → τ.2 56 (25 + i) = nI (β.2 5 i) - nI i) ∧
  τ.1 66 7 = nI (mbits (β.2 4) (β.1 2)) ∧ τ.1 66 8 = nI (mbits (β.2 5) k) ∧ τ.1 66 9 = nI k
def DT (σ τ : zS) (β : mB) (k t t' : Nat) : Prop := σ.1 50 7 = nI t ∧ τ.1 66 6 = nI t' ∧ t < 256 ∧ t' < 256 ∧ (∀ w, 5 ≤ w → w < 8 → t.testBit w = t'.testBit w) ∧ (t.testBit 6 = false → β.1 2 = 0) ∧ (t.testBit 7 = false → k = 0)
def DD (σ τ : zS) (β : mB) (k t t' : Nat) : Prop := DO β k ∧ DX σ β k ∧ DY τ β k ∧ DT σ τ β k t t'
theorem DX_eq {σ σ' : zS} {β : mB} {k : Nat} (h : FX σ σ') (hd : DX σ β k) : DX σ' β k := by
  unfold DX at hd ⊢
  rw [h.1, h.2.1 43 (by decide), h.2.2 8 (by omega)]
  exact hd
theorem DY_eq {τ τ' : zS} {β : mB} {k : Nat} (h : FW τ τ') (hd : DY τ β k) : DY τ' β k := by
  unfold DY at hd ⊢
  rw [h.1, h.2.2 4 (by omega), h.2.2 5 (by omega), h.2.2 7 (by omega), h.2.2 8 (by omega), h.2.2 9 (by omega)]
  exact hd
theorem DT_eq {σ σ' τ τ' : zS} {β : mB} {k t t' : Nat} (h : FX σ σ') (h' : FW τ τ') (hd : DT σ τ β k t t') : DT σ' τ' β k t t' := by
  unfold DT at hd ⊢
  rw [h.2.2 7 (by omega), h'.2.2 6 (by omega)]
  exact hd
theorem DD_eq {σ σ' τ τ' : zS} {β : mB} {k t t' : Nat} (h : FX σ σ') (h' : FW τ τ') (hd : DD σ τ β k t t') : DD σ' τ' β k t t' := ⟨hd.1, DX_eq h hd.2.1, DY_eq h' hd.2.2.1, DT_eq h h' hd.2.2.2⟩
def OUT (B : Nat → Nat) (n p : Nat) (σ τ : zS) (cx : Option (Int32 × zS)) (cy : Option zS) : Prop :=
  (∃ (σ' τ' : zS) (w pl : Nat), cx = some (0, σ') ∧ cy = some τ' ∧ GX σ σ' ∧ GY τ τ' ∧ XF σ' w pl ∧ YF τ' w pl) ∨
  (∃ (σ' τ' : zS) (p' : Nat), cx = some (1, σ') ∧ cy = some τ' ∧ GX σ σ' ∧ GY τ τ' ∧ p < p' ∧ p' ≤ n ∧ σ'.1 50 3 = nI p' ∧ σ'.1 50 9 = nI 0 ∧ YT τ' B n p' ∧ ∃ (β : mB) (k t t' : Nat), DD σ' τ' β k t t')
section LINES
variable {B : Nat → Nat} {n : Nat}
theorem fin_stop (N : Nat) (hN : 4000 ≤ N) (hB : TB B n) {σ0 τ0 σ τ : zS} {p0 p : Nat} (hp0 : p0 < p) (hp : p ≤ n) (g1 : GX σ0 σ) (g2 : GY τ0 τ) (ht : TX σ B n) (ht' : TY τ B n) (h3 : σ.1 50 3 = nI p) (h9 : σ.1 50 9 = nI 0) (hy : YT τ B n p) {β : mB} {k t t' : Nat} (hd : DD σ τ β k t t') : OUT B n p0 σ0 τ0 (fX4_takeStop N σ) (LE N τ) := by
  obtain ⟨-, c2, c3, -, -⟩ := tC_le (B := B) hp
  have hs := tS_le (B := B) hp
  obtain ⟨a1, a2⟩ := x_stop N hN hB ht hp h3 h9
  obtain ⟨b1, b2⟩ := y_LE N hN hB ht' hp hy
  by_cases h : sc B n p = 0
  · obtain ⟨σ', k1, k2, k3, k4⟩ := a2 h
    obtain ⟨τ', l1, l2, l3⟩ := b2 h
    exact Or.inr ⟨σ', τ', (tC B n p).2, k1, l1, GX_tr g1 (FX_G k2), GY_tr g2 (FW_G l2), by omega, c2, k3, k4, l3, β, k, t, t', DD_eq k2 l2 hd⟩
  · obtain ⟨σ', k1, k2, k3⟩ := a1 h
    obtain ⟨τ', l1, l2, l3⟩ := b1 h
    exact Or.inl ⟨σ', τ', _, _, k1, l1, GX_tr g1 (FX_G k2), GY_tr g2 (FW_G l2), k3, l3⟩
theorem y_76 (N : Nat) (hN : 4000 ≤ N) (hB : TB B n) {τ : zS} (ht : TY τ B n) {p w t' : Nat} (hp : p ≤ n) (hw : w < 8) (h15 : τ.1 66 15 = nI p) (h13 : τ.1 66 13 = nI 0) (h6 : τ.1 66 6 = nI t') : ∃ q2 : zS, FW (zpf τ 66 6 (nI (t' ||| 2 ^ w))) q2 ∧ YT q2 B n p ∧ fX7_readLine_76 N (nI w) τ = if (tC B n p).1 = 4 then some q2 else (fX7_readMore N q2 (nI w)).bind (LE N) := by
  have hG := GY_f τ (k := 6) (by decide) (nI (t' ||| 2 ^ w))
  obtain ⟨q2, k1, k2, k3⟩ := y_tok N hN hB (GY_T hG ht) hp (by rw [f66, if_neg (by decide)]; exact h15) (by rw [f66, if_neg (by decide)]; exact h13)
  have k3 : YT q2 B n p := k3
  refine ⟨q2, k2, k3, ?_⟩
  rw [fX7_readLine_76, h6, m_bit (by omega), m_or, zlet_eq, k1, Option.bind_some]
  by_cases h4 : (tC B n p).1 = 4
  · rw [if_pos h4, (k3.2.1 h4).1, if_neg (by decide)]
  · rw [if_neg h4, (k3.2.2 h4).1, if_pos (by decide)]
    rfl
theorem y_76B (N : Nat) {τ : zS} {w pl : Nat} (h : YF τ w pl) (x1 : Int32) : ∃ τ' : zS, fX7_readLine_76 N x1 τ = some τ' ∧ GY τ τ' ∧ YF τ' w pl := by
  have hF : YF (zpf τ 66 6 ((τ.1 66 6) ||| ((nI 1) <<< (x1 &&& 31)))) w pl := YF_eq (fun k h1 _ => by rw [f66, if_neg (by omega)]) h
  rw [fX7_readLine_76, zlet_eq, y_stepB N hF, Option.bind_some, hF.1, if_neg (w_le h.2.2)]
  exact ⟨_, rfl, GY_f _ (by decide) _, hF⟩
theorem t_or {t' w : Nat} (h : t' < 256) (hw : w < 8) : t' ||| 2 ^ w < 256 := Nat.or_lt_two_pow (n := 8) h (Nat.pow_lt_pow_right (by decide) hw)
theorem t_tst {t' w v : Nat} (h : w ≠ v) : (t' ||| 2 ^ w).testBit v = t'.testBit v := by
  rw [Nat.testBit_or, Nat.testBit_two_pow]
  simp [h]
theorem t_tst1 {t' w : Nat} : (t' ||| 2 ^ w).testBit w = true := by
  rw [Nat.testBit_or, Nat.testBit_two_pow]
  simp
def badd (β : mB) (w v1 v2 : Nat) : mB := (fun j => if j = 0 then β.1 0 + 1 else β.1 j, fun a i => if i = β.1 0 ∧ a < 3 then (if a = 0 then w else if a = 1 then v1 else v2) else β.2 a i)
theorem badd_0 (β : mB) (w v1 v2 : Nat) : (badd β w v1 v2).2 0 (β.1 0) = w := by simp [badd]
theorem badd_1 (β : mB) (w v1 v2 : Nat) : (badd β w v1 v2).2 1 (β.1 0) = v1 := by simp [badd]
theorem badd_2 (β : mB) (w v1 v2 : Nat) : (badd β w v1 v2).2 2 (β.1 0) = v2 := by simp [badd]
theorem badd_lo (β : mB) (w v1 v2 a : Nat) {i : Nat} (h : i ≠ β.1 0) : (badd β w v1 v2).2 a i = β.2 a i := by simp [badd, h]
theorem badd_hi (β : mB) (w v1 v2 : Nat) {a : Nat} (h : 3 ≤ a) : (badd β w v1 v2).2 a = β.2 a := by
  funext i
  simp [badd, show ¬ a < 3 by omega]
theorem zpa_ne (σ : zS) {q r : Nat} (f : Nat → Int32) (h : r ≠ q) : (zpa σ q f).2 r = σ.2 r := by rw [zpa_2, if_neg h]
theorem zlen56 : zlen 56 = 31 := rfl
theorem a56 (τ : zS) {i : Nat} (hi : i < 31) (v : Int32) (j : Nat) : (zpa τ 56 (upd (τ.2 56) (nI i).toNatClampNeg v)).2 56 j = if j = i then v else τ.2 56 j := by
  rw [zpa_2, if_pos rfl, zupd, nI_clamp (by omega)]
theorem aXX (σ : zS) {q i : Nat} (hi : i < 31) (v : Int32) (j : Nat) : (zpa σ q (upd (σ.2 q) (nI i).toNatClampNeg v)).2 q j = if j = i then v else σ.2 q j := by
  rw [zpa_2, if_pos rfl, zupd, nI_clamp (by omega)]
theorem line_beast (N : Nat) (hN : 4000 ≤ N) (hB : TB B n) {σ0 τ0 σ τ : zS} {p0 p : Nat} (hp0 : p0 < p) (hp : p ≤ n) (g1 : GX σ0 σ) (g2 : GY τ0 τ) (ht : TX σ B n) (ht' : TY τ B n) (h3 : σ.1 50 3 = nI p) (h9 : σ.1 50 9 = nI 0) (h15 : τ.1 66 15 = nI p) (h13 : τ.1 66 13 = nI 0) {β : mB} {k t t' : Nat} (hd : DD σ τ β k t t') {w : Nat} (hw : w ≤ 3) (hb : β.1 0 < 5) : OUT B n p0 σ0 τ0 (fX4_takeBeast N σ (nI w)) (fX7_readLine_76 N (nI w) τ) := by
  obtain ⟨hO, hX, hY, d1, d2, d3, d4, d5, d6, d7⟩ := hd
  obtain ⟨q2, F2, Y2, e2⟩ := y_76 N hN hB ht' (w := w) hp (by omega) h15 h13 d2
  obtain ⟨c1, c2, c3, -, -⟩ := tC_le (B := B) hp
  have hs := tS_le (B := B) hp
  have hG2 : GY τ q2 := GY_tr (GY_f τ (k := 6) (by decide) _) (FW_G F2)
  have b4 : q2.1 66 4 = nI (β.1 0) := by rw [F2.2.2 4 (by omega), f66, if_neg (by decide)]; exact hY.1.1
  obtain ⟨x1, x2⟩ := x_number N hN hB ht hp h3 h9 (lo := 1) (hi := 9) (by decide) (by decide)
  have hzb : ∀ {m : Nat}, 5 ≤ m → m ≤ 2 ^ 31 → zin (nI (β.1 0)) m := fun h h' => m_zin (by omega) h'
  unfold fX4_takeBeast
  rw [hX.1.1, if_pos ((nI_ltI (by omega) (by decide)).mpr hb), e2]
  -- the model's own steps
  have hq15 : YT (zpa q2 56 (upd (q2.2 56) (nI (β.1 0)).toNatClampNeg (nI w))) B n p := Y2
  have ht15 : TY (zpa q2 56 (upd (q2.2 56) (nI (β.1 0)).toNatClampNeg (nI w))) B n := GY_T (GY_tr hG2 (GY_a _ _)) ht'
  obtain ⟨y1, y2⟩ := y_other N hN hB ht15 (lo := 1) (hi := 9) (so := 0) hp hq15 (by decide) (by decide) (by decide) (Or.inl rfl)
  by_cases hc : oc B n p 1 9 0 = 0
  · obtain ⟨σ1, u1, u2, u3, u4, u5, u6, u7⟩ := x2 hc
    obtain ⟨τ1, v1, v2, v3⟩ := y2 hc
    have hk4 : ¬ (tC B n p).1 = 4 := fun h => by unfold oc at hc; rw [if_pos h] at hc; exact absurd hc (by decide)
    have b4' : (zpa q2 56 (upd (q2.2 56) (nI (β.1 0)).toNatClampNeg (nI w))).1 66 4 = nI (β.1 0) := b4
    have w1 : τ1.1 66 4 = nI (β.1 0) := by rw [v2.2.2 4 (by omega)]; exact b4'
    rw [u1, Option.bind_some]
    dsimp only
    rw [if_neg z10, if_pos (hzb (by decide) (by decide)), zlet_eq, if_pos (hzb (by decide) (by decide)), zlet_eq, if_neg hk4, fX7_readMore, if_neg (show ¬ nI 3 < nI w from fun h => by have := (nI_ltI (by decide) (by omega)).mp h; omega), b4, zlen56, if_pos (hzb (by decide) (by decide)), zlet_eq, v1, Option.bind_some]
    dsimp only
    rw [b4', nI_add, if_pos (m_zin (show 5 + β.1 0 < 31 by omega) (by decide)), zlet_eq]
    generalize hσ7 : zpa (zpa σ1 6 (upd (σ1.2 6) (nI (β.1 0)).toNatClampNeg (nI w))) 7 (upd ((zpa σ1 6 (upd (σ1.2 6) (nI (β.1 0)).toNatClampNeg (nI w))).2 7) (nI (β.1 0)).toNatClampNeg ((zpa σ1 6 (upd (σ1.2 6) (nI (β.1 0)).toNatClampNeg (nI w))).1 50 6)) = σ7
    generalize hτ18 : zpa τ1 56 (upd (τ1.2 56) (nI (5 + β.1 0)).toNatClampNeg (nI (tV B n p))) = τ18
    have G7 : GX σ σ7 := by rw [← hσ7]; exact GX_tr (FX_G u2) (GX_tr (GX_a _ (by decide) (by decide) _) (GX_a _ (by decide) (by decide) _))
    have H18 : GY τ τ18 := by rw [← hτ18]; exact GY_tr hG2 (GY_tr (GY_a _ _) (GY_tr (FW_G v2) (GY_a _ _)))
    have s1 : σ7.1 = σ1.1 := by rw [← hσ7]; rfl
    have s2 : τ18.1 = τ1.1 := by rw [← hτ18]; rfl
    obtain ⟨x3, x4⟩ := x_number N hN hB (GX_T G7 ht) c2 (by rw [s1]; exact u6) (by rw [s1]; exact u7) (lo := 0) (hi := 9) (by decide) (by decide)
    obtain ⟨y3, y4⟩ := y_other N hN hB (GY_T H18 ht') (lo := 0) (hi := 9) (so := 0) c2 (YT_eq (fun k _ _ => by rw [s2]) v3) (by decide) (by decide) (by decide) (Or.inl rfl)
    by_cases hc2 : oc B n (tC B n p).2 0 9 0 = 0
    · obtain ⟨σ3, m1, m2, m3, m4, m5, m6, m7⟩ := x4 hc2
      obtain ⟨τ3, n1, n2, n3⟩ := y4 hc2
      have hp2 := tC_le (B := B) c2
      have hs2 := tS_le (B := B) c2
      rw [m1, Option.bind_some]
      dsimp only
      rw [if_neg z10, if_pos (hzb (by decide) (by decide)), zlet_eq, zlet_eq, n1, Option.bind_some]
      dsimp only
      have w2 : τ18.1 66 4 = nI (β.1 0) := by rw [s2]; exact w1
      have w3 : σ3.1 43 6 = nI (β.1 0) := by rw [m2.2.1 43 (by decide), s1, u2.2.1 43 (by decide)]; exact hX.1.1
      have w4 : τ3.1 66 4 = nI (β.1 0) := by rw [n2.2.2 4 (by omega)]; exact w2
      rw [w2, nI_add, if_pos (m_zin (show 10 + β.1 0 < 31 by omega) (by decide)), zlet_eq, zlet_eq, Option.bind_some, m5]
      rw [show (zpa σ3 8 (upd (σ3.2 8) (nI (β.1 0)).toNatClampNeg (nI (tV B n (tC B n p).2)))).1 43 6 = nI (β.1 0) from w3, show (zpa τ3 56 (upd (τ3.2 56) (nI (10 + β.1 0)).toNatClampNeg (nI (tV B n (tC B n p).2)))).1 66 4 = nI (β.1 0) from w4, nI_add]
      have hstop : ∀ q : Option (Int32 × zS), (q.bind fun q13 => if q13.1 = 0 ∨ q13.1 = 1 then some (q13.1, q13.2) else none) = q ∨ ¬ (∃ s : zS, q = some (0, s) ∨ q = some (1, s)) := fun q => by
        by_cases h : ∃ s : zS, q = some (0, s) ∨ q = some (1, s)
        · left
          obtain ⟨s, h | h⟩ := h
          · rw [h, Option.bind_some]; exact if_pos (Or.inl rfl)
          · rw [h, Option.bind_some]; exact if_pos (Or.inr rfl)
        · exact Or.inr h
      generalize hσ12 : zpf (zpa σ3 8 (upd (σ3.2 8) (nI (β.1 0)).toNatClampNeg (nI (tV B n (tC B n p).2)))) 43 6 (nI (β.1 0 + 1)) = σ12
      generalize hτ22 : zpf (zpa τ3 56 (upd (τ3.2 56) (nI (10 + β.1 0)).toNatClampNeg (nI (tV B n (tC B n p).2)))) 66 4 (nI (β.1 0 + 1)) = τ22
      have G12 : GX σ σ12 := by rw [← hσ12]; exact GX_tr G7 (GX_tr (FX_G m2) (GX_tr (GX_a _ (by decide) (by decide) _) (GX_43 _ _ _)))
      have H22 : GY τ τ22 := by rw [← hτ22]; exact GY_tr H18 (GY_tr (FW_G n2) (GY_tr (GY_a _ _) (GY_f _ (by decide) _)))
      have x50 : ∀ j, σ12.1 50 j = σ3.1 50 j := fun j => by rw [← hσ12, zpf_1, if_neg (by decide), zpa_1]
      have x43 : ∀ j, j ≠ 6 → σ12.1 43 j = σ.1 43 j := fun j hj => by
        rw [← hσ12, zpf_1, if_pos rfl, zup, if_neg hj, zpa_1, m2.2.1 43 (by decide), s1, u2.2.1 43 (by decide)]
      have y66 : ∀ j, j ≠ 4 → τ22.1 66 j = τ3.1 66 j := fun j hj => by rw [← hτ22, f66, if_neg hj, zpa_1]
      have hA : ∀ q, q ≠ 6 → q ≠ 7 → q ≠ 8 → σ12.2 q = σ.2 q := fun q h6 h7 h8 => by
        rw [← hσ12, zpf_2, zpa_2, if_neg h8, m2.1, ← hσ7, zpa_2, if_neg h7, zpa_2, if_neg h6, u2.1]
      have hA6 : ∀ i, σ12.2 6 i = if i = β.1 0 then nI w else σ.2 6 i := fun i => by
        rw [← hσ12, zpf_2, zpa_2, if_neg (by decide), m2.1, ← hσ7, zpa_2, if_neg (by decide), aXX _ (by omega), u2.1]
      have hA7 : ∀ i, σ12.2 7 i = if i = β.1 0 then nI (tV B n p) else σ.2 7 i := fun i => by
        rw [← hσ12, zpf_2, zpa_2, if_neg (by decide), m2.1, ← hσ7, aXX _ (by omega), zpa_1, u5, zpa_ne _ _ (show 7 ≠ 6 by decide), u2.1]
      have hA8 : ∀ i, σ12.2 8 i = if i = β.1 0 then nI (tV B n (tC B n p).2) else σ.2 8 i := fun i => by
        rw [← hσ12, zpf_2, aXX _ (by omega), m2.1, ← hσ7, zpa_ne _ _ (show 8 ≠ 7 by decide), zpa_ne _ _ (show 8 ≠ 6 by decide), u2.1]
      have hP : ∀ j, τ22.2 56 j = if j = 10 + β.1 0 then nI (tV B n (tC B n p).2) else if j = 5 + β.1 0 then nI (tV B n p) else if j = β.1 0 then nI w else τ.2 56 j := fun j => by
        rw [← hτ22, zpf_2, a56 _ (by omega), n2.1, ← hτ18, a56 _ (by omega), v2.1, a56 _ (by omega), F2.1, zpf_2]
      have y66' : ∀ j, j ≠ 4 → j ≠ 6 → j < 13 → τ22.1 66 j = τ.1 66 j := fun j h4 h6 h => by
        rw [y66 j h4, n2.2.2 j (by omega), s2, v2.2.2 j (by omega), zpa_1, F2.2.2 j (by omega), f66, if_neg h6]
      have hD : DD σ12 τ22 (badd β w (tV B n p) (tV B n (tC B n p).2)) k t (t' ||| 2 ^ w) := by
        obtain ⟨o0, o1, o2, o3, o4, o5, o6, o7, o8, o9⟩ := hO
        obtain ⟨⟨a1, a2, a3, a4⟩, a5, a6, a7, a8, a9⟩ := hX
        obtain ⟨⟨z1, z2, z3, z4⟩, z5, z6, z7, z8, z9, z10, z11⟩ := hY
        refine ⟨⟨by show β.1 0 + 1 ≤ 5; omega, o1, o2, o3, o4, fun i hi => ?_, fun i hi => ?_, ?_, ?_, ?_⟩, ⟨⟨?_, ?_, ?_, ?_⟩, fun i hi => ?_, fun i hi => ?_, fun i hi => ?_, fun i hi => ?_, ?_⟩, ⟨⟨?_, ?_, ?_, ?_⟩, fun i hi => ?_, fun i hi => ?_, fun i hi => ?_, fun i hi => ?_, ?_, ?_, ?_⟩, ?_, ?_, d3, t_or d4 (by omega), fun v h1 h2 => ?_, d6, d7⟩
        · have hi : i < β.1 0 + 1 := hi
          by_cases e : i = β.1 0
          · rw [e, badd_0, badd_1, badd_2]
            exact ⟨hw, u3, u4, m4⟩
          · rw [badd_lo _ _ _ _ _ e, badd_lo _ _ _ _ _ e, badd_lo _ _ _ _ _ e]
            exact o5 i (by omega)
        · rw [badd_hi _ _ _ _ (by decide)]
          exact o6 i hi
        · rw [badd_hi _ _ _ _ (by decide)]
          exact o7
        · rw [badd_hi _ _ _ _ (by decide)]
          exact o8
        · rw [badd_hi _ _ _ _ (by decide)]
          exact o9
        · rw [← hσ12, zpf_1, if_pos rfl, zup, if_pos rfl]; rfl
        · rw [x43 7 (by decide)]; exact a2
        · rw [x43 8 (by decide)]; exact a3
        · rw [x43 9 (by decide)]; exact a4
        · have hi : i < β.1 0 + 1 := hi
          rw [hA6, hA7, hA8]
          by_cases e : i = β.1 0
          · rw [if_pos e, if_pos e, if_pos e, e, badd_0, badd_1, badd_2]
            exact ⟨rfl, rfl, rfl⟩
          · rw [if_neg e, if_neg e, if_neg e]
            rw [badd_lo _ _ _ _ _ e, badd_lo _ _ _ _ _ e, badd_lo _ _ _ _ _ e]
            exact a5 i (by omega)
        · rw [hA 9 (by decide) (by decide) (by decide)]
          rw [badd_hi _ _ _ _ (by decide)]
          exact a6 i hi
        · rw [hA 10 (by decide) (by decide) (by decide)]
          rw [badd_hi _ _ _ _ (by decide)]
          exact a7 i hi
        · rw [hA 11 (by decide) (by decide) (by decide)]
          rw [badd_hi _ _ _ _ (by decide)]
          exact a8 i hi
        · rw [x50, m2.2.2 8 (by omega), s1, u2.2.2 8 (by omega)]; exact a9
        · rw [← hτ22, f66, if_pos rfl]; rfl
        · rw [y66' 5 (by decide) (by decide) (by decide)]; exact z2
        · rw [hP, if_neg (by omega), if_neg (by omega), if_neg (by omega)]; exact z3
        · rw [hP, if_neg (by omega), if_neg (by omega), if_neg (by omega)]; exact z4
        · have hi : i < β.1 0 + 1 := hi
          by_cases e : i = β.1 0
          · rw [hP, hP, hP, if_neg (by omega), if_neg (by omega), if_pos e, if_neg (by omega), if_pos (by omega), if_pos (by omega)]
            rw [e, badd_0, badd_1, badd_2]
            exact ⟨rfl, rfl, rfl⟩
          · rw [hP, hP, hP, if_neg (by omega), if_neg (by omega), if_neg e, if_neg (by omega), if_neg (by omega), if_neg (by omega), if_neg (by omega), if_neg (by omega), if_neg (by omega)]
            rw [badd_lo _ _ _ _ _ e, badd_lo _ _ _ _ _ e, badd_lo _ _ _ _ _ e]
            exact z5 i (by omega)
        · have hi' : i < 4 := Nat.lt_of_lt_of_le hi o1
          rw [hP, if_neg (by omega), if_neg (by omega), if_neg (by omega)]
          rw [badd_hi _ _ _ _ (by decide)]
          exact z6 i hi
        · have hi' : i < 5 := Nat.lt_of_lt_of_le hi o2
          rw [hP, if_neg (by omega), if_neg (by omega), if_neg (by omega)]
          rw [badd_hi _ _ _ _ (by decide)]
          exact z7 i hi
        · rw [hP, if_neg (by omega), if_neg (by omega), if_neg (by omega)]
          rw [badd_hi _ _ _ _ (by decide)]
          exact z8 i hi
        · rw [y66' 7 (by decide) (by decide) (by decide), z9]
          congr 1
          exact mbits_congr _ (fun i _ => by rw [badd_hi _ _ _ _ (by decide)])
        · rw [y66' 8 (by decide) (by decide) (by decide), z10]
          congr 1
          exact mbits_congr _ (fun i _ => by rw [badd_hi _ _ _ _ (by decide)])
        · rw [y66' 9 (by decide) (by decide) (by decide)]; exact z11
        · rw [x50, m2.2.2 7 (by omega), s1, u2.2.2 7 (by omega)]; exact d1
        · rw [y66 6 (by decide), n2.2.2 6 (by omega), s2, v2.2.2 6 (by omega), zpa_1, F2.2.2 6 (by omega), f66, if_pos rfl]
        · rw [t_tst (by omega)]; exact d5 v h1 h2
      have hfin := fin_stop N hN hB (σ0 := σ0) (τ0 := τ0) (σ := σ12) (τ := τ22) (p0 := p0) (p := (tC B n (tC B n p).2).2) (by omega) hp2.2.1 (GX_tr g1 G12) (GY_tr g2 H22) (GX_T G12 ht) (GY_T H22 ht') (by rw [x50]; exact m6) (by rw [x50]; exact m7) (YT_eq (fun k h1 _ => y66 k (by omega)) n3) hD
      rcases hstop (fX4_takeStop N σ12) with h | h
      · rw [h]; exact hfin
      · exfalso
        apply h
        rcases hfin with ⟨s, _, _, _, h1, _⟩ | ⟨s, _, _, h1, _⟩
        · exact ⟨s, Or.inl h1⟩
        · exact ⟨s, Or.inr h1⟩
    · obtain ⟨σ3, m1, m2, m3⟩ := x3 hc2
      obtain ⟨τ3, n1, n2, n3⟩ := y3 hc2
      rw [m1, Option.bind_some]
      dsimp only
      rw [if_pos rfl, n1, Option.bind_some]
      dsimp only
      rw [show τ18.1 66 4 = nI (β.1 0) by rw [s2]; exact w1, nI_add, if_pos (m_zin (show 10 + β.1 0 < 31 by omega) (by decide)), zlet_eq, zlet_eq, Option.bind_some]
      have hF : YF (zpf (zpa τ3 56 (upd (τ3.2 56) (nI (10 + β.1 0)).toNatClampNeg (nI 0))) 66 4 ((zpa τ3 56 (upd (τ3.2 56) (nI (10 + β.1 0)).toNatClampNeg (nI 0))).1 66 4 + nI 1)) (oc B n (tC B n p).2 0 9 0) (tS B n (tC B n p).2) := YF_eq (fun k h1 _ => by rw [f66, if_neg (by omega), zpa_1]) n3
      rw [y_LEB N hF]
      exact Or.inl ⟨_, _, _, _, rfl, rfl, GX_tr g1 (GX_tr G7 (FX_G m2)), GY_tr g2 (GY_tr H18 (GY_tr (FW_G n2) (GY_tr (GY_a _ _) (GY_f _ (by decide) _)))), m3, hF⟩
  · obtain ⟨σ1, u1, u2, u3⟩ := x1 hc
    rw [u1, Option.bind_some]
    dsimp only
    rw [if_pos rfl]
    by_cases hk4 : (tC B n p).1 = 4
    · rw [if_pos hk4]
      have e1 : oc B n p 1 9 0 = 1 := by unfold oc; rw [if_pos hk4]
      rw [e1] at u3
      exact Or.inl ⟨σ1, q2, _, _, rfl, rfl, GX_tr g1 (FX_G u2), GY_tr g2 hG2, u3, YT_F Y2 hk4⟩
    · obtain ⟨τ1, v1, v2, v3⟩ := y1 hc
      rw [if_neg hk4, fX7_readMore, if_neg (show ¬ nI 3 < nI w from fun h => by have := (nI_ltI (by decide) (by omega)).mp h; omega), b4, zlen56, if_pos (hzb (by decide) (by decide)), zlet_eq, v1, Option.bind_some]
      dsimp only
      rw [show (zpa q2 56 (upd (q2.2 56) (nI (β.1 0)).toNatClampNeg (nI w))).1 66 4 = nI (β.1 0) from b4, nI_add, if_pos (m_zin (show 5 + β.1 0 < 31 by omega) (by decide)), zlet_eq]
      have hF1 : YF (zpa τ1 56 (upd (τ1.2 56) (nI (5 + β.1 0)).toNatClampNeg (nI 1))) (oc B n p 1 9 0) (tS B n p) := v3
      rw [y_otherB N hF1, Option.bind_some]
      dsimp only
      rw [show (zpa τ1 56 (upd (τ1.2 56) (nI (5 + β.1 0)).toNatClampNeg (nI 1))).1 66 4 = nI (β.1 0) from (v2.2.2 4 (by omega)).trans b4, nI_add, if_pos (m_zin (show 10 + β.1 0 < 31 by omega) (by decide)), zlet_eq, zlet_eq, Option.bind_some]
      generalize hτ21 : zpa (zpa τ1 56 (upd (τ1.2 56) (nI (5 + β.1 0)).toNatClampNeg (nI 1))) 56 (upd ((zpa τ1 56 (upd (τ1.2 56) (nI (5 + β.1 0)).toNatClampNeg (nI 1))).2 56) (nI (10 + β.1 0)).toNatClampNeg (nI 0)) = τ21
      have hG21 : GY τ1 τ21 := by rw [← hτ21]; exact GY_tr (GY_a _ _) (GY_a _ _)
      have s3 : τ21.1 = τ1.1 := by rw [← hτ21]; rfl
      have hF : YF (zpf τ21 66 4 (τ21.1 66 4 + nI 1)) (oc B n p 1 9 0) (tS B n p) := YF_eq (fun k h1 _ => by rw [f66, if_neg (by omega), s3]) v3
      rw [y_LEB N hF]
      exact Or.inl ⟨_, _, _, _, rfl, rfl, GX_tr g1 (FX_G u2), GY_tr g2 (GY_tr hG2 (GY_tr (GY_a _ _) (GY_tr (FW_G v2) (GY_tr hG21 (GY_f _ (by decide) _))))), u3, hF⟩
end LINES

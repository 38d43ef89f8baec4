/-! robbers, the scout, rows -/
theorem OUT_wrap {B : Nat → Nat} {n p : Nat} {σ τ : zS} {cx : Option (Int32 × zS)} {cy : Option zS} (h : OUT B n p σ τ cx cy) : OUT B n p σ τ (cx.bind fun q => if q.1 = 0 ∨ q.1 = 1 then some (q.1, q.2) else none) cy := by
  rcases h with ⟨σ', τ', w, pl, h1, h⟩ | ⟨σ', τ', p', h1, h⟩
  · exact Or.inl ⟨σ', τ', w, pl, by rw [h1, Option.bind_some]; exact if_pos (Or.inl rfl), h⟩
  · exact Or.inr ⟨σ', τ', p', by rw [h1, Option.bind_some]; exact if_pos (Or.inr rfl), h⟩
def radd (β : mB) (v : Nat) : mB := (fun j => if j = 1 then β.1 1 + 1 else β.1 j, fun a i => if a = 3 ∧ i = β.1 1 then v else β.2 a i)
theorem radd_ne (β : mB) (v : Nat) {a : Nat} (h : a ≠ 3) : (radd β v).2 a = β.2 a := by
  funext i
  simp [radd, h]
theorem radd_3 (β : mB) (v i : Nat) : (radd β v).2 3 i = if i = β.1 1 then v else β.2 3 i := by simp [radd]
section LINES
variable {B : Nat → Nat} {n : Nat}
theorem line_robber (N : Nat) (hN : 4000 ≤ N) (hB : TB B n) {σ0 τ0 σ τ : zS} {p0 p : Nat} (hp0 : p0 < p) (hp : p ≤ n) (g1 : GX σ0 σ) (g2 : GY τ0 τ) (ht : TX σ B n) (ht' : TY τ B n) (h3 : σ.1 50 3 = nI p) (h9 : σ.1 50 9 = nI 0) (h15 : τ.1 66 15 = nI p) (h13 : τ.1 66 13 = nI 0) {β : mB} {k t t' : Nat} (hd : DD σ τ β k t t') (hb : β.1 1 < 4) : OUT B n p0 σ0 τ0 (fX4_takeRobber N σ) (fX7_readLine_76 N (nI 4) τ) := by
  obtain ⟨hO, hX, hY, d1, d2, d3, d4, d5, d6, d7⟩ := hd
  obtain ⟨q2, F2, Y2, e2⟩ := y_76 N hN hB ht' (w := 4) hp (by decide) h15 h13 d2
  obtain ⟨c1, c2, c3, -, -⟩ := tC_le (B := B) hp
  have hs := tS_le (B := B) hp
  have hG2 : GY τ q2 := GY_tr (GY_f τ (k := 6) (by decide) _) (FW_G F2)
  have b5 : q2.1 66 5 = nI (β.1 1) := by rw [F2.2.2 5 (by omega), f66, if_neg (by decide)]; exact hY.1.2.1
  obtain ⟨x1, x2⟩ := x_number N hN hB ht hp h3 h9 (lo := 0) (hi := 99) (by decide) (by decide)
  obtain ⟨y1, y2⟩ := y_other N hN hB (GY_T hG2 ht') (lo := 0) (hi := 99) (so := 0) hp Y2 (by decide) (by decide) (by decide) (Or.inl rfl)
  have hmore : fX7_readMore N q2 (nI 4) = (fX7_other N q2 (nI 0) (nI 99) (nI 0)).bind fun q10 => if zin ((nI 15) + (q2.1 66 5)) (zlen 56) then zlet (zpa q10.2 56 (upd (q10.2.2 56) ((nI 15) + (q2.1 66 5)).toNatClampNeg q10.1)) fun τ12 => zlet (zpf τ12 66 5 ((τ12.1 66 5) + (nI 1))) fun τ13 => some τ13 else none := by
    rw [fX7_readMore, if_pos (by decide), if_pos rfl]
  unfold fX4_takeRobber
  rw [hX.1.2.1, if_pos ((nI_ltI (by omega) (by decide)).mpr hb), e2]
  by_cases hc : oc B n p 0 99 0 = 0
  · obtain ⟨σ1, u1, u2, u3, u4, u5, u6, u7⟩ := x2 hc
    obtain ⟨τ1, v1, v2, v3⟩ := y2 hc
    have hk4 : ¬ (tC B n p).1 = 4 := fun h => by unfold oc at hc; rw [if_pos h] at hc; exact absurd hc (by decide)
    rw [u1, Option.bind_some]
    dsimp only
    rw [if_neg z10, if_pos (m_zin (show β.1 1 < zlen 9 from hb) (by decide)), zlet_eq, zlet_eq, u5, if_neg hk4, hmore, v1, Option.bind_some]
    dsimp only
    rw [b5, nI_add, zlen56, if_pos (m_zin (show 15 + β.1 1 < 31 by omega) (by decide)), zlet_eq, zlet_eq, Option.bind_some]
    rw [show (zpa σ1 9 (upd (σ1.2 9) (nI (β.1 1)).toNatClampNeg (nI (tV B n p)))).1 43 7 = nI (β.1 1) from (by rw [zpa_1, u2.2.1 43 (by decide)]; exact hX.1.2.1), show (zpa τ1 56 (upd (τ1.2 56) (nI (15 + β.1 1)).toNatClampNeg (nI (tV B n p)))).1 66 5 = nI (β.1 1) from (by rw [zpa_1, v2.2.2 5 (by omega)]; exact b5), nI_add]
    generalize hσ12 : zpf (zpa σ1 9 (upd (σ1.2 9) (nI (β.1 1)).toNatClampNeg (nI (tV B n p)))) 43 7 (nI (β.1 1 + 1)) = σ12
    generalize hτ22 : zpf (zpa τ1 56 (upd (τ1.2 56) (nI (15 + β.1 1)).toNatClampNeg (nI (tV B n p)))) 66 5 (nI (β.1 1 + 1)) = τ22
    have G12 : GX σ σ12 := by rw [← hσ12]; exact GX_tr (FX_G u2) (GX_tr (GX_a _ (by decide) (by decide) _) (GX_43 _ _ _))
    have H22 : GY τ τ22 := by rw [← hτ22]; exact GY_tr hG2 (GY_tr (FW_G v2) (GY_tr (GY_a _ _) (GY_f _ (by decide) _)))
    have x50 : ∀ j, σ12.1 50 j = σ1.1 50 j := fun j => by rw [← hσ12, zpf_1, if_neg (by decide), zpa_1]
    have x43 : ∀ j, j ≠ 7 → σ12.1 43 j = σ.1 43 j := fun j hj => by
      rw [← hσ12, zpf_1, if_pos rfl, zup, if_neg hj, zpa_1, u2.2.1 43 (by decide)]
    have y66 : ∀ j, j ≠ 5 → τ22.1 66 j = τ1.1 66 j := fun j hj => by rw [← hτ22, f66, if_neg hj, zpa_1]
    have hA : ∀ q, q ≠ 9 → σ12.2 q = σ.2 q := fun q h9 => by rw [← hσ12, zpf_2, zpa_2, if_neg h9, u2.1]
    have hA9 : ∀ i, σ12.2 9 i = if i = β.1 1 then nI (tV B n p) else σ.2 9 i := fun i => by rw [← hσ12, zpf_2, aXX _ (by omega), u2.1]
    have hP : ∀ j, τ22.2 56 j = if j = 15 + β.1 1 then nI (tV B n p) else τ.2 56 j := fun j => by
      rw [← hτ22, zpf_2, a56 _ (by omega), v2.1, F2.1, zpf_2]
    have y66' : ∀ j, j ≠ 5 → j ≠ 6 → j < 13 → τ22.1 66 j = τ.1 66 j := fun j h4 h6 h => by
      rw [y66 j h4, v2.2.2 j (by omega), F2.2.2 j (by omega), f66, if_neg h6]
    have hD : DD σ12 τ22 (radd β (tV B n p)) k t (t' ||| 2 ^ 4) := by
      obtain ⟨o0, o1, o2, o3, o4, o5, o6, o7, o8, o9⟩ := hO
      obtain ⟨⟨a1, a2, a3, a4⟩, a5, a6, a7, a8, a9⟩ := hX
      obtain ⟨⟨z1, z2, z3, z4⟩, z5, z6, z7, z8, z9, z10, z11⟩ := hY
      refine ⟨⟨o0, by show β.1 1 + 1 ≤ 4; omega, o2, o3, o4, fun i hi => ?_, fun i hi => ?_, ?_, ?_, ?_⟩, ⟨⟨?_, ?_, ?_, ?_⟩, fun i hi => ?_, fun i hi => ?_, fun i hi => ?_, fun i hi => ?_, ?_⟩, ⟨⟨?_, ?_, ?_, ?_⟩, fun i hi => ?_, fun i hi => ?_, fun i hi => ?_, fun i hi => ?_, ?_, ?_, ?_⟩, ?_, ?_, d3, t_or d4 (by decide), fun v h1 h2 => ?_, d6, d7⟩
      · rw [radd_ne _ _ (by decide), radd_ne _ _ (by decide), radd_ne _ _ (by decide)]; exact o5 i hi
      · have hi : i < β.1 1 + 1 := hi
        rw [radd_3]
        by_cases e : i = β.1 1
        · rw [if_pos e]; exact u4
        · rw [if_neg e]; exact o6 i (by omega)
      · rw [radd_ne _ _ (by decide)]; exact o7
      · rw [radd_ne _ _ (by decide)]; exact o8
      · rw [radd_ne _ _ (by decide)]; exact o9
      · rw [x43 6 (by decide)]; exact a1
      · rw [← hσ12, zpf_1, if_pos rfl, zup, if_pos rfl]; rfl
      · rw [x43 8 (by decide)]; exact a3
      · rw [x43 9 (by decide)]; exact a4
      · rw [hA 6 (by decide), hA 7 (by decide), hA 8 (by decide), radd_ne _ _ (by decide), radd_ne _ _ (by decide), radd_ne _ _ (by decide)]; exact a5 i hi
      · have hi : i < β.1 1 + 1 := hi
        rw [hA9, radd_3]
        by_cases e : i = β.1 1
        · rw [if_pos e, if_pos e]
        · rw [if_neg e, if_neg e]; exact a6 i (by omega)
      · rw [hA 10 (by decide), radd_ne _ _ (by decide)]; exact a7 i hi
      · rw [hA 11 (by decide), radd_ne _ _ (by decide)]; exact a8 i hi
      · rw [x50, u2.2.2 8 (by omega)]; exact a9
      · rw [y66' 4 (by decide) (by decide) (by decide)]; exact z1
      · rw [← hτ22, f66, if_pos rfl]; rfl
      · rw [hP, if_neg (by omega)]; exact z3
      · rw [hP, if_neg (by omega)]; exact z4
      · have hi' : i < 5 := Nat.lt_of_lt_of_le hi o0
        rw [hP, hP, hP, if_neg (by omega), if_neg (by omega), if_neg (by omega), radd_ne _ _ (by decide), radd_ne _ _ (by decide), radd_ne _ _ (by decide)]; exact z5 i hi
      · have hi : i < β.1 1 + 1 := hi
        rw [hP, radd_3]
        by_cases e : i = β.1 1
        · rw [if_pos (by omega), if_pos e]
        · rw [if_neg (by omega), if_neg e]; exact z6 i (by omega)
      · rw [hP, if_neg (by omega), radd_ne _ _ (by decide)]; exact z7 i hi
      · rw [hP, if_neg (by omega), radd_ne _ _ (by decide)]; exact z8 i hi
      · rw [y66' 7 (by decide) (by decide) (by decide), radd_ne _ _ (by decide)]; exact z9
      · rw [y66' 8 (by decide) (by decide) (by decide), radd_ne _ _ (by decide)]; exact z10
      · rw [y66' 9 (by decide) (by decide) (by decide)]; exact z11
      · rw [x50, u2.2.2 7 (by omega)]; exact d1
      · rw [y66 6 (by decide), v2.2.2 6 (by omega), F2.2.2 6 (by omega), f66, if_pos rfl]
      · rw [t_tst (by omega)]; exact d5 v h1 h2
    exact OUT_wrap (fin_stop N hN hB (σ0 := σ0) (τ0 := τ0) (σ := σ12) (τ := τ22) (p0 := p0) (p := (tC B n p).2) (by omega) c2 (GX_tr g1 G12) (GY_tr g2 H22) (GX_T G12 ht) (GY_T H22 ht') (by rw [x50]; exact u6) (by rw [x50]; exact u7) (YT_eq (fun k h1 _ => y66 k (by omega)) v3) hD)
  · obtain ⟨σ1, u1, u2, u3⟩ := x1 hc
    rw [u1, Option.bind_some]
    dsimp only
    rw [if_pos rfl]
    by_cases hk4 : (tC B n p).1 = 4
    · rw [if_pos hk4]
      have e1 : oc B n p 0 99 0 = 1 := by unfold oc; rw [if_pos hk4]
      rw [e1] at u3
      exact Or.inl ⟨σ1, q2, _, _, rfl, rfl, GX_tr g1 (FX_G u2), GY_tr g2 hG2, u3, YT_F Y2 hk4⟩
    · obtain ⟨τ1, v1, v2, v3⟩ := y1 hc
      rw [if_neg hk4, hmore, v1, Option.bind_some]
      dsimp only
      rw [b5, nI_add, zlen56, if_pos (m_zin (show 15 + β.1 1 < 31 by omega) (by decide)), zlet_eq, zlet_eq, Option.bind_some]
      have hF : YF (zpf (zpa τ1 56 (upd (τ1.2 56) (nI (15 + β.1 1)).toNatClampNeg (nI 0))) 66 5 ((zpa τ1 56 (upd (τ1.2 56) (nI (15 + β.1 1)).toNatClampNeg (nI 0))).1 66 5 + nI 1)) (oc B n p 0 99 0) (tS B n p) := YF_eq (fun k h1 _ => by rw [f66, if_neg (by omega), zpa_1]) v3
      rw [y_LEB N hF]
      exact Or.inl ⟨_, _, _, _, rfl, rfl, GX_tr g1 (FX_G u2), GY_tr g2 (GY_tr hG2 (GY_tr (FW_G v2) (GY_tr (GY_a _ _) (GY_f _ (by decide) _)))), u3, hF⟩
theorem x_first (N : Nat) {σ : zS} {t w st : Nat} (hw : w < 8) (ht : t < 256) (h7 : σ.1 50 7 = nI t) (h5 : σ.1 50 5 = nI st) : (t.testBit w = true → ∃ σ' : zS, fX4_isFirst N σ (nI w) = some (0, σ') ∧ FX σ σ' ∧ XF σ' 4 st) ∧ (t.testBit w = false → fX4_isFirst N σ (nI w) = some (1, zpf σ 50 7 (nI (t ||| 2 ^ w)))) := by
  unfold fX4_isFirst
  rw [h7, h5]
  refine ⟨fun h => ?_, fun h => ?_⟩
  · obtain ⟨σ', k1, k2, k3⟩ := x_refuse N σ (w := 4) (pl := st) (by decide)
    rw [if_pos ((m_tst1 (by omega) (by omega)).mpr h), k1, Option.bind_some]
    exact ⟨σ', if_pos (Or.inl rfl), k2, k3⟩
  · rw [if_neg (fun h' => by rw [(m_tst1 (by omega) (by omega)).mp h'] at h; exact absurd h (by decide)), m_bit (by omega), m_or, zlet_eq]
/-- the model at a word that was told already -/
theorem y_54 (N : Nat) {τ : zS} {t' w st : Nat} (hw : w < 8) (h5 : 5 ≤ w) (ht : t' < 256) (h6 : τ.1 66 6 = nI t') (h13 : τ.1 66 13 = nI 0) (h16 : τ.1 66 16 = nI st) : (t'.testBit w = true → ∃ τ' : zS, fX7_readLine_54 N (nI w) τ = some τ' ∧ GY τ τ' ∧ YF τ' 4 st) ∧ (t'.testBit w = false → fX7_readLine_54 N (nI w) τ = fX7_readLine_76 N (nI w) τ) := by
  rw [fX7_readLine_54, if_neg (fun h => by have := (nI_ltI (by omega) (by decide)).mp h; omega), h6]
  refine ⟨fun h => ?_, fun h => ?_⟩
  · obtain ⟨τ', k1, k2, k3, k4, k5⟩ := y_fails N h13 (nI 4)
    have hF : YF τ' 4 st := ⟨k3, by rw [k4]; exact h16, by decide, by decide⟩
    rw [if_pos ((m_tst1 (by omega) (by omega)).mpr h), k1, Option.bind_some]
    obtain ⟨τ2, l1, l2, l3⟩ := y_76B N hF (nI w)
    exact ⟨τ2, l1, GY_tr (FW_G k2) l2, l3⟩
  · rw [if_neg (fun h' => by rw [(m_tst1 (by omega) (by omega)).mp h'] at h; exact absurd h (by decide))]
theorem line_scout (N : Nat) (hN : 4000 ≤ N) (hB : TB B n) {σ0 τ0 σ τ : zS} {p0 p st : Nat} (hp0 : p0 < p) (hp : p ≤ n) (g1 : GX σ0 σ) (g2 : GY τ0 τ) (ht : TX σ B n) (ht' : TY τ B n) (h3 : σ.1 50 3 = nI p) (h9 : σ.1 50 9 = nI 0) (h5 : σ.1 50 5 = nI st) (h15 : τ.1 66 15 = nI p) (h13 : τ.1 66 13 = nI 0) (h16 : τ.1 66 16 = nI st) {β : mB} {k t t' : Nat} (hd : DD σ τ β k t t') : OUT B n p0 σ0 τ0 (fX4_takeScout N σ) (fX7_readLine_54 N (nI 5) τ) := by
  obtain ⟨hO, hX, hY, d1, d2, d3, d4, d5, d6, d7⟩ := hd
  obtain ⟨xf1, xf2⟩ := x_first N (w := 5) (by decide) d3 d1 h5
  obtain ⟨yf1, yf2⟩ := y_54 N (w := 5) (by decide) (by decide) d4 d2 h13 h16
  unfold fX4_takeScout
  by_cases htold : t.testBit 5 = true
  · obtain ⟨σ1, k1, k2, k3⟩ := xf1 htold
    obtain ⟨τ1, l1, l2, l3⟩ := yf1 (by rw [← d5 5 (by decide) (by decide)]; exact htold)
    rw [k1, Option.bind_some, l1]
    exact Or.inl ⟨σ1, τ1, _, _, if_pos rfl, rfl, GX_tr g1 (FX_G k2), GY_tr g2 l2, k3, l3⟩
  · have htold : t.testBit 5 = false := by simpa using htold
    obtain ⟨q2, F2, Y2, e2⟩ := y_76 N hN hB ht' (w := 5) hp (by decide) h15 h13 d2
    obtain ⟨c1, c2, c3, -, -⟩ := tC_le (B := B) hp
    have hs := tS_le (B := B) hp
    have hG2 : GY τ q2 := GY_tr (GY_f τ (k := 6) (by decide) _) (FW_G F2)
    rw [xf2 htold, Option.bind_some, yf2 (by rw [← d5 5 (by decide) (by decide)]; exact htold), e2]
    dsimp only
    rw [if_neg z10]
    generalize hσ2 : zpf σ 50 7 (nI (t ||| 2 ^ 5)) = σ2
    have hG1 : GX σ σ2 := by rw [← hσ2]; exact GX_50 _ (by decide) _
    have j50 : ∀ j, j ≠ 7 → σ2.1 50 j = σ.1 50 j := fun j hj => by rw [← hσ2, f50, if_neg hj]
    have j43 : σ2.1 43 = σ.1 43 := by rw [← hσ2, zpf_1, if_neg (by decide)]
    have j2 : σ2.2 = σ.2 := by rw [← hσ2]; rfl
    obtain ⟨x1, x2⟩ := x_number N hN hB (GX_T hG1 ht) hp (by rw [j50 3 (by decide)]; exact h3) (by rw [j50 9 (by decide)]; exact h9) (lo := 0) (hi := 40) (by decide) (by decide)
    obtain ⟨y1, y2⟩ := y_other N hN hB (GY_T hG2 ht') (lo := 0) (hi := 40) (so := 0) hp Y2 (by decide) (by decide) (by decide) (Or.inl rfl)
    have hmore : fX7_readMore N q2 (nI 5) = (fX7_other N q2 (nI 0) (nI 40) (nI 0)).bind fun q7 => if zin (nI 30) (zlen 56) then zlet (zpa q7.2 56 (upd (q7.2.2 56) (nI 30).toNatClampNeg (q7.1 - (nI 5)))) fun τ9 => some τ9 else none := by
      rw [fX7_readMore, if_pos (by decide), if_neg (by decide), if_pos rfl]
    by_cases hc : oc B n p 0 40 0 = 0
    · obtain ⟨σ1, u1, u2, u3, u4, u5, u6, u7⟩ := x2 hc
      obtain ⟨τ1, v1, v2, v3⟩ := y2 hc
      have hk4 : ¬ (tC B n p).1 = 4 := fun h => by unfold oc at hc; rw [if_pos h] at hc; exact absurd hc (by decide)
      rw [u1, Option.bind_some]
      dsimp only
      rw [if_neg z10, zlet_eq, u5, if_neg hk4, hmore, v1, Option.bind_some]
      dsimp only
      rw [zlen56, if_pos (by decide), zlet_eq, Option.bind_some]
      generalize hσ12 : zpf σ1 43 9 (nI (tV B n p)) = σ12
      generalize hτ22 : zpa τ1 56 (upd (τ1.2 56) (nI 30).toNatClampNeg (nI (tV B n p) - nI 5)) = τ22
      have G12 : GX σ σ12 := by rw [← hσ12]; exact GX_tr hG1 (GX_tr (FX_G u2) (GX_43 _ _ _))
      have H22 : GY τ τ22 := by rw [← hτ22]; exact GY_tr hG2 (GY_tr (FW_G v2) (GY_a _ _))
      have x50 : ∀ j, σ12.1 50 j = σ1.1 50 j := fun j => by rw [← hσ12, zpf_1, if_neg (by decide)]
      have x43 : ∀ j, j ≠ 9 → σ12.1 43 j = σ.1 43 j := fun j hj => by
        rw [← hσ12, zpf_1, if_pos rfl, zup, if_neg hj, u2.2.1 43 (by decide), j43]
      have y66 : τ22.1 = τ1.1 := by rw [← hτ22]; rfl
      have hA : σ12.2 = σ.2 := by rw [← hσ12, zpf_2, u2.1, j2]
      have hP : ∀ j, τ22.2 56 j = if j = 30 then nI (tV B n p) - nI 5 else τ.2 56 j := fun j => by
        rw [← hτ22, a56 _ (by omega), v2.1, F2.1, zpf_2]
      have y66' : ∀ j, j ≠ 6 → j < 13 → τ22.1 66 j = τ.1 66 j := fun j h6 h => by
        rw [y66, v2.2.2 j (by omega), F2.2.2 j (by omega), f66, if_neg h6]
      have hD : DD σ12 τ22 (mset1 β 3 (tV B n p)) k (t ||| 2 ^ 5) (t' ||| 2 ^ 5) := by
        obtain ⟨o0, o1, o2, o3, o4, o5, o6, o7, o8, o9⟩ := hO
        obtain ⟨⟨a1, a2, a3, a4⟩, a5, a6, a7, a8, a9⟩ := hX
        obtain ⟨⟨z1, z2, z3, z4⟩, z5, z6, z7, z8, z9, z10, z11⟩ := hY
        refine ⟨⟨o0, o1, o2, u4, o4, o5, o6, o7, o8, o9⟩, ⟨⟨?_, ?_, ?_, ?_⟩, ?_, ?_, ?_, ?_, ?_⟩, ⟨⟨?_, ?_, ?_, ?_⟩, fun i hi => ?_, fun i hi => ?_, fun i hi => ?_, fun i hi => ?_, ?_, ?_, ?_⟩, ?_, ?_, t_or d3 (by decide), t_or d4 (by decide), fun v h1 h2 => ?_, fun h => d6 (by rw [t_tst (by decide)] at h; exact h), fun h => d7 (by rw [t_tst (by decide)] at h; exact h)⟩
        · rw [x43 6 (by decide)]; exact a1
        · rw [x43 7 (by decide)]; exact a2
        · rw [x43 8 (by decide)]; exact a3
        · rw [← hσ12, zpf_1, if_pos rfl, zup, if_pos rfl]; rfl
        · rw [hA]; exact a5
        · rw [hA]; exact a6
        · rw [hA]; exact a7
        · rw [hA]; exact a8
        · rw [x50, u2.2.2 8 (by omega), j50 8 (by decide)]; exact a9
        · rw [y66' 4 (by decide) (by decide)]; exact z1
        · rw [y66' 5 (by decide) (by decide)]; exact z2
        · rw [hP, if_neg (by omega)]; exact z3
        · rw [hP, if_pos rfl]; rfl
        · have hi' : i < 5 := Nat.lt_of_lt_of_le hi o0
          rw [hP, hP, hP, if_neg (by omega), if_neg (by omega), if_neg (by omega)]; exact z5 i hi
        · have hi' : i < 4 := Nat.lt_of_lt_of_le hi o1
          rw [hP, if_neg (by omega)]; exact z6 i hi
        · have hi' : i < 5 := Nat.lt_of_lt_of_le hi o2
          rw [hP, if_neg (by omega)]; exact z7 i hi
        · rw [hP, if_neg (by omega)]; exact z8 i hi
        · rw [y66' 7 (by decide) (by decide)]; exact z9
        · rw [y66' 8 (by decide) (by decide)]; exact z10
        · rw [y66' 9 (by decide) (by decide)]; exact z11
        · rw [x50, u2.2.2 7 (by omega), ← hσ2, f50, if_pos rfl]
        · rw [y66, v2.2.2 6 (by omega), F2.2.2 6 (by omega), f66, if_pos rfl]
        · by_cases e : 5 = v
          · rw [← e, t_tst1, t_tst1]
          · rw [t_tst e, t_tst e]; exact d5 v h1 h2
      exact OUT_wrap (fin_stop N hN hB (σ0 := σ0) (τ0 := τ0) (σ := σ12) (τ := τ22) (p0 := p0) (p := (tC B n p).2) (by omega) c2 (GX_tr g1 G12) (GY_tr g2 H22) (GX_T G12 ht) (GY_T H22 ht') (by rw [x50]; exact u6) (by rw [x50]; exact u7) (YT_eq (fun k h1 _ => by rw [y66]) v3) hD)
    · obtain ⟨σ1, u1, u2, u3⟩ := x1 hc
      rw [u1, Option.bind_some]
      dsimp only
      rw [if_pos rfl]
      by_cases hk4 : (tC B n p).1 = 4
      · rw [if_pos hk4]
        have e1 : oc B n p 0 40 0 = 1 := by unfold oc; rw [if_pos hk4]
        rw [e1] at u3
        exact Or.inl ⟨σ1, q2, _, _, rfl, rfl, GX_tr g1 (GX_tr hG1 (FX_G u2)), GY_tr g2 hG2, u3, YT_F Y2 hk4⟩
      · obtain ⟨τ1, v1, v2, v3⟩ := y1 hc
        rw [if_neg hk4, hmore, v1, Option.bind_some]
        dsimp only
        rw [zlen56, if_pos (by decide), zlet_eq, Option.bind_some]
        have hF : YF (zpa τ1 56 (upd (τ1.2 56) (nI 30).toNatClampNeg (nI 0 - nI 5))) (oc B n p 0 40 0) (tS B n p) := v3
        rw [y_LEB N hF]
        exact Or.inl ⟨_, _, _, _, rfl, rfl, GX_tr g1 (GX_tr hG1 (FX_G u2)), GY_tr g2 (GY_tr hG2 (GY_tr (FW_G v2) (GY_a _ _))), u3, hF⟩
end LINES

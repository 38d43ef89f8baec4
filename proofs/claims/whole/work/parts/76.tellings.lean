/-! towers and beds, told -/
def mtel (β : mB) (h : Nat) (T : Nat → Nat) : mB := (fun j => if j = 2 then h else β.1 j, fun a => if a = 4 then T else β.2 a)
def mbed (β : mB) (U : Nat → Nat) : mB := (β.1, fun a => if a = 5 then U else β.2 a)
theorem gR_0 (T : Nat → Nat) : gR T 0 := ⟨fun j hj => absurd hj (by omega), fun j hj => absurd hj (by omega)⟩
section LINES
variable {B : Nat → Nat} {n : Nat}
theorem t_two {t t' w v : Nat} (d5 : ∀ w, 5 ≤ w → w < 8 → t.testBit w = t'.testBit w) (h1 : 5 ≤ v) (h2 : v < 8) : (t ||| 2 ^ w).testBit v = (t' ||| 2 ^ w).testBit v := by
  by_cases e : w = v
  · rw [e, t_tst1, t_tst1]
  · rw [t_tst e, t_tst e]; exact d5 v h1 h2
theorem line_tower (N : Nat) (hN : 4000 ≤ N) (hB : TB B n) {σ0 τ0 σ τ : zS} {p0 p st : Nat} (hp0 : p0 < p) (hp : p ≤ n) (g1 : GX σ0 σ) (g2 : GY τ0 τ) (ht : TX σ B n) (ht' : TY τ B n) (h3 : σ.1 50 3 = nI p) (h9 : σ.1 50 9 = nI 0) (h5 : σ.1 50 5 = nI st) (h15 : τ.1 66 15 = nI p) (h13 : τ.1 66 13 = nI 0) (h16 : τ.1 66 16 = nI st) {β : mB} {k t t' : Nat} (hd : DD σ τ β k t t') : OUT B n p0 σ0 τ0 (fX4_takeTower N σ) (fX7_readLine_54 N (nI 6) τ) := by
  obtain ⟨hO, hX, hY, d1, d2, d3, d4, d5, d6, d7⟩ := hd
  obtain ⟨xf1, xf2⟩ := x_first N (w := 6) (by decide) d3 d1 h5
  obtain ⟨yf1, yf2⟩ := y_54 N (w := 6) (by decide) (by decide) d4 d2 h13 h16
  unfold fX4_takeTower
  by_cases htold : t.testBit 6 = true
  · obtain ⟨σ1, k1, k2, k3⟩ := xf1 htold
    obtain ⟨τ1, l1, l2, l3⟩ := yf1 (by rw [← d5 6 (by decide) (by decide)]; exact htold)
    rw [k1, Option.bind_some, l1]
    exact Or.inl ⟨σ1, τ1, _, _, if_pos rfl, rfl, GX_tr g1 (FX_G k2), GY_tr g2 l2, k3, l3⟩
  · have htold : t.testBit 6 = false := by simpa using htold
    have hh0 := d6 htold
    obtain ⟨q2, F2, Y2, e2⟩ := y_76 N hN hB ht' (w := 6) hp (by decide) h15 h13 d2
    have hG2 : GY τ q2 := GY_tr (GY_f τ (k := 6) (by decide) _) (FW_G F2)
    rw [xf2 htold, Option.bind_some, yf2 (by rw [← d5 6 (by decide) (by decide)]; exact htold), e2]
    dsimp only
    rw [if_neg z10]
    generalize hσ2 : zpf σ 50 7 (nI (t ||| 2 ^ 6)) = σ2
    have hG1 : GX σ σ2 := by rw [← hσ2]; exact GX_50 _ (by decide) _
    have j50 : ∀ j, j ≠ 7 → σ2.1 50 j = σ.1 50 j := fun j hj => by rw [← hσ2, f50, if_neg hj]
    have j43 : σ2.1 43 = σ.1 43 := by rw [← hσ2, zpf_1, if_neg (by decide)]
    have j2 : σ2.2 = σ.2 := by rw [← hσ2]; rfl
    obtain ⟨r1, r2, r3, r4, r5, r6, r7, r8⟩ := rowA_ok (B := B) (n := n) 6 0 p (β.2 4) rfl (by decide) hp (gR_0 _)
    obtain ⟨σ3, u1, u2, u3, u4⟩ := x_row N hN hB (b1 := 10) (Or.inl rfl) (fun _ => False) 6 0 p (β.2 4) σ2 N rfl (by decide) hp (gR_0 _) (by omega) (GX_T hG1 ht) (by rw [j50 3 (by decide)]; exact h3) (by rw [j50 9 (by decide)]; exact h9) (fun j hj => absurd hj (by simp))
    have u1 : fX4_takeRow N σ2 10 = some (nI (rowA B n 6 p 0 (β.2 4)).2.1, σ3) := u1
    rw [u1, Option.bind_some]
    dsimp only
    rw [zlet_eq]
    generalize hσ4 : zpf σ3 43 8 (nI (rowA B n 6 p 0 (β.2 4)).2.1) = σ4
    have R3 : GX σ σ3 := GX_tr hG1 ⟨fun q _ h' => u2.1 q h', u2.2.1 2 (by omega), fun q hq => u2.2.2 q (by omega)⟩
    have G4 : GX σ σ4 := by rw [← hσ4]; exact GX_tr R3 (GX_43 _ _ _)
    have x50 : ∀ j, σ4.1 50 j = σ3.1 50 j := fun j => by rw [← hσ4, zpf_1, if_neg (by decide)]
    by_cases hk4 : (tC B n p).1 = 4
    · have e : oc B n p 0 4 (mbits (β.2 4) 0) = 1 := by unfold oc; rw [if_pos hk4]
      have er : rowA B n 6 p 0 (β.2 4) = ((1, p), 0, β.2 4) := by rw [rowA_w (show (tC B n p).1 ≠ 2 by omega) (by rw [e]; decide), e]
      have hF := u3 (by rw [er]; exact Nat.one_ne_zero)
      rw [er] at hF
      have hF : XF σ3 1 (tS B n p) := hF
      rw [if_pos hk4, if_neg (show ¬ σ4.1 50 9 = 0 by rw [x50, hF.1]; exact w_no hF.2.2)]
      exact Or.inl ⟨σ4, q2, _, _, rfl, rfl, GX_tr g1 G4, GY_tr g2 hG2, ⟨by rw [x50]; exact hF.1, by rw [x50]; exact hF.2.1, hF.2.2⟩, YT_F Y2 hk4⟩
    · have hmore : fX7_readMore N q2 (nI 6) = fX7_readTower_0 N N q2 := by
        rw [fX7_readMore, if_pos (by decide), if_neg (by decide), if_neg (by decide), if_pos rfl, fX7_readTower]
        cases fX7_readTower_0 N N q2 <;> rfl
      have P2 : q2.2 56 = τ.2 56 := by rw [F2.1, zpf_2]
      have q66 : ∀ j, j ≠ 6 → j < 13 → q2.1 66 j = τ.1 66 j := fun j h6 h => by rw [F2.2.2 j (by omega), f66, if_neg h6]
      obtain ⟨τ3, v1, v2, v3, v4, v5, v6⟩ := y_rowT N hN hB 6 0 p (β.2 4) q2 N rfl (by decide) hp (gR_0 _) (by omega) (GY_T hG2 ht') Y2 (fun _ => ⟨by rw [q66 7 (by decide) (by decide), hY.2.2.2.2.2.1, hh0], by rw [P2, hY.1.2.2.1, hh0], fun j hj => absurd hj (by omega)⟩)
      rw [if_neg hk4, hmore, v1, Option.bind_some]
      have H3 : GY τ τ3 := GY_tr hG2 (SF_G (by decide) v2)
      by_cases hw : (rowA B n 6 p 0 (β.2 4)).1.1 = 0
      · obtain ⟨a1, a2, a3⟩ := u4 hw
        obtain ⟨b1, b2, b3, b4⟩ := v6 hw
        have hk2 := r6 hw
        obtain ⟨-, c2, c3, c4, -⟩ := tC_le (B := B) r3
        have hs := tS_le (B := B) r3
        have es : sc B n (rowA B n 6 p 0 (β.2 4)).1.2 = 0 := by unfold sc; rw [if_neg (by omega), if_neg (fun h => h hk2)]
        obtain ⟨τ4, l1, l2, l3⟩ := (y_LE N hN hB (GY_T H3 ht') r3 b1).2 es
        rw [l1, if_pos (show σ4.1 50 9 = 0 by rw [x50]; exact a2)]
        refine Or.inr ⟨σ4, τ4, _, rfl, rfl, GX_tr g1 G4, GY_tr g2 (GY_tr H3 (FW_G l2)), ?_, c2, by rw [x50]; exact a1, by rw [x50]; exact a2, l3, mtel β (rowA B n 6 p 0 (β.2 4)).2.1 (rowA B n 6 p 0 (β.2 4)).2.2, k, t ||| 2 ^ 6, t' ||| 2 ^ 6, ?_⟩
        · omega
        · obtain ⟨o0, o1, o2, o3, o4, o5, o6, o7, o8, o9⟩ := hO
          obtain ⟨⟨a1', a2', a3', a4'⟩, a5, a6, a7, a8, a9⟩ := hX
          obtain ⟨⟨z1, z2, z3, z4⟩, z5, z6, z7, z8, z9, z10, z11⟩ := hY
          have x43 : ∀ j, j ≠ 8 → σ4.1 43 j = σ.1 43 j := fun j hj => by rw [← hσ4, zpf_1, if_pos rfl, zup, if_neg hj, u2.1 43 (by decide), j43]
          have hA : ∀ q, q ≠ 10 → σ4.2 q = σ.2 q := fun q hq => by rw [← hσ4, zpf_2, u2.2.2 q hq, j2]
          have hP : ∀ j, j < 19 ∨ 25 ≤ j → τ4.2 56 j = τ.2 56 j := fun j hj => by rw [l2.1, v4 j hj, P2]
          have y66 : ∀ j, j ≠ 6 → j ≠ 7 → j < 13 → τ4.1 66 j = τ.1 66 j := fun j h6 h7 h => by
            rw [l2.2.2 j (by omega)]
            by_cases e9 : j = 9
            · rw [e9, v3, q66 9 (by decide) (by decide)]
            · rw [v2.2.1 j (by omega), q66 j h6 h]
          refine ⟨⟨o0, o1, r4, o3, o4, o5, o6, r5, o8, o9⟩, ⟨⟨?_, ?_, ?_, ?_⟩, ?_, ?_, ?_, ?_, ?_⟩, ⟨⟨?_, ?_, ?_, ?_⟩, fun i hi => ?_, fun i hi => ?_, fun i hi => ?_, fun i hi => ?_, ?_, ?_, ?_⟩, ?_, ?_, t_or d3 (by decide), t_or d4 (by decide), fun v h1 h2 => t_two d5 h1 h2, fun h => absurd h (by rw [t_tst1]; decide), fun h => d7 (by rw [t_tst (by decide)] at h; exact h)⟩
          · rw [x43 6 (by decide)]; exact a1'
          · rw [x43 7 (by decide)]; exact a2'
          · rw [← hσ4, zpf_1, if_pos rfl, zup, if_pos rfl]; rfl
          · rw [x43 9 (by decide)]; exact a4'
          · rw [hA 6 (by decide), hA 7 (by decide), hA 8 (by decide)]; exact a5
          · rw [hA 9 (by decide)]; exact a6
          · intro i hi
            rw [← hσ4, zpf_2]
            exact a3 i (Or.inl hi) (Nat.lt_of_lt_of_le hi r4)
          · rw [hA 11 (by decide)]; exact a8
          · rw [x50, u2.2.1 8 (by omega), j50 8 (by decide)]; exact a9
          · rw [y66 4 (by decide) (by decide) (by decide)]; exact z1
          · rw [y66 5 (by decide) (by decide) (by decide)]; exact z2
          · rw [l2.1]; exact b3
          · rw [hP 30 (by omega)]; exact z4
          · have hi' : i < 5 := Nat.lt_of_lt_of_le hi o0
            rw [hP _ (by omega), hP _ (by omega), hP _ (by omega)]; exact z5 i hi
          · have hi' : i < 4 := Nat.lt_of_lt_of_le hi o1
            rw [hP _ (by omega)]; exact z6 i hi
          · rw [l2.1]; exact b4 i hi
          · rw [hP _ (by omega)]; exact z8 i hi
          · rw [l2.2.2 7 (by omega)]; exact b2
          · rw [y66 8 (by decide) (by decide) (by decide)]; exact z10
          · rw [y66 9 (by decide) (by decide) (by decide)]; exact z11
          · rw [x50, u2.2.1 7 (by omega), ← hσ2, f50, if_pos rfl]
          · rw [l2.2.2 6 (by omega), v2.2.1 6 (by omega), F2.2.2 6 (by omega), f66, if_pos rfl]
      · have hF := u3 hw
        obtain ⟨τ4, l1, l2, l3⟩ := v5 hw
        rw [l1, if_neg (show ¬ σ4.1 50 9 = 0 by rw [x50, hF.1]; exact w_no hF.2.2)]
        exact Or.inl ⟨σ4, τ4, _, _, rfl, rfl, GX_tr g1 G4, GY_tr g2 (GY_tr H3 (FW_G l2)), ⟨by rw [x50]; exact hF.1, by rw [x50]; exact hF.2.1, hF.2.2⟩, l3⟩
theorem line_beds (N : Nat) (hN : 4000 ≤ N) (hB : TB B n) {σ0 τ0 σ τ : zS} {p0 p st : Nat} (hp0 : p0 < p) (hp : p ≤ n) (g1 : GX σ0 σ) (g2 : GY τ0 τ) (ht : TX σ B n) (ht' : TY τ B n) (h3 : σ.1 50 3 = nI p) (h9 : σ.1 50 9 = nI 0) (h5 : σ.1 50 5 = nI st) (h15 : τ.1 66 15 = nI p) (h13 : τ.1 66 13 = nI 0) (h16 : τ.1 66 16 = nI st) {β : mB} {k t t' : Nat} (hd : DD σ τ β k t t') : OUT B n p0 σ0 τ0 (fX4_takeBeds N σ) (fX7_readLine_54 N (nI 7) τ) := by
  obtain ⟨hO, hX, hY, d1, d2, d3, d4, d5, d6, d7⟩ := hd
  obtain ⟨xf1, xf2⟩ := x_first N (w := 7) (by decide) d3 d1 h5
  obtain ⟨yf1, yf2⟩ := y_54 N (w := 7) (by decide) (by decide) d4 d2 h13 h16
  unfold fX4_takeBeds
  by_cases htold : t.testBit 7 = true
  · obtain ⟨σ1, k1, k2, k3⟩ := xf1 htold
    obtain ⟨τ1, l1, l2, l3⟩ := yf1 (by rw [← d5 7 (by decide) (by decide)]; exact htold)
    rw [k1, Option.bind_some, l1]
    exact Or.inl ⟨σ1, τ1, _, _, if_pos rfl, rfl, GX_tr g1 (FX_G k2), GY_tr g2 l2, k3, l3⟩
  · have htold : t.testBit 7 = false := by simpa using htold
    have hh0 := d7 htold
    obtain ⟨q2, F2, Y2, e2⟩ := y_76 N hN hB ht' (w := 7) hp (by decide) h15 h13 d2
    have hG2 : GY τ q2 := GY_tr (GY_f τ (k := 6) (by decide) _) (FW_G F2)
    rw [xf2 htold, Option.bind_some, yf2 (by rw [← d5 7 (by decide) (by decide)]; exact htold), e2]
    dsimp only
    rw [if_neg z10]
    generalize hσ2 : zpf σ 50 7 (nI (t ||| 2 ^ 7)) = σ2
    have hG1 : GX σ σ2 := by rw [← hσ2]; exact GX_50 _ (by decide) _
    have j50 : ∀ j, j ≠ 7 → σ2.1 50 j = σ.1 50 j := fun j hj => by rw [← hσ2, f50, if_neg hj]
    have j43 : σ2.1 43 = σ.1 43 := by rw [← hσ2, zpf_1, if_neg (by decide)]
    have j2 : σ2.2 = σ.2 := by rw [← hσ2]; rfl
    obtain ⟨r1, r2, r3, r4, r5, r6, r7, r8⟩ := rowA_ok (B := B) (n := n) 6 0 p (β.2 5) rfl (by decide) hp (gR_0 _)
    obtain ⟨σ3, u1, u2, u3, u4⟩ := x_row N hN hB (b1 := 11) (Or.inr rfl) (fun _ => True) 6 0 p (β.2 5) σ2 N rfl (by decide) hp (gR_0 _) (by omega) (GX_T hG1 ht) (by rw [j50 3 (by decide)]; exact h3) (by rw [j50 9 (by decide)]; exact h9) (fun j _ hj => by rw [j2]; exact hX.2.2.2.2.1 j hj)
    have u1 : fX4_takeRow N σ2 11 = some (nI (rowA B n 6 p 0 (β.2 5)).2.1, σ3) := u1
    rw [u1, Option.bind_some]
    dsimp only
    rw [zlet_eq]
    generalize hσ4 : zpf σ3 50 8 (nI (rowA B n 6 p 0 (β.2 5)).2.1) = σ4
    have R3 : GX σ σ3 := GX_tr hG1 ⟨fun q _ h' => u2.1 q h', u2.2.1 2 (by omega), fun q hq => u2.2.2 q (by omega)⟩
    have G4 : GX σ σ4 := by rw [← hσ4]; exact GX_tr R3 (GX_50 _ (by decide) _)
    have x50 : ∀ j, j ≠ 8 → σ4.1 50 j = σ3.1 50 j := fun j hj => by rw [← hσ4, f50, if_neg hj]
    by_cases hk4 : (tC B n p).1 = 4
    · have e : oc B n p 0 4 (mbits (β.2 5) 0) = 1 := by unfold oc; rw [if_pos hk4]
      have er : rowA B n 6 p 0 (β.2 5) = ((1, p), 0, β.2 5) := by rw [rowA_w (show (tC B n p).1 ≠ 2 by omega) (by rw [e]; decide), e]
      have hF := u3 (by rw [er]; exact Nat.one_ne_zero)
      rw [er] at hF
      have hF : XF σ3 1 (tS B n p) := hF
      rw [if_pos hk4, if_neg (show ¬ σ4.1 50 9 = 0 by rw [x50 9 (by decide), hF.1]; exact w_no hF.2.2)]
      exact Or.inl ⟨σ4, q2, _, _, rfl, rfl, GX_tr g1 G4, GY_tr g2 hG2, ⟨by rw [x50 9 (by decide)]; exact hF.1, by rw [x50 10 (by decide)]; exact hF.2.1, hF.2.2⟩, YT_F Y2 hk4⟩
    · have hmore : fX7_readMore N q2 (nI 7) = fX7_readBeds_0 N N q2 := by
        rw [fX7_readMore, if_pos (by decide), if_neg (by decide), if_neg (by decide), if_neg (by decide), fX7_readBeds]
        cases fX7_readBeds_0 N N q2 <;> rfl
      have P2 : q2.2 56 = τ.2 56 := by rw [F2.1, zpf_2]
      have q66 : ∀ j, j ≠ 6 → j < 13 → q2.1 66 j = τ.1 66 j := fun j h6 h => by rw [F2.2.2 j (by omega), f66, if_neg h6]
      obtain ⟨τ3, v1, v2, v4, v5, v6⟩ := y_rowB N hN hB 6 0 p (β.2 5) q2 N rfl (by decide) hp (gR_0 _) (by omega) (GY_T hG2 ht') Y2 (fun _ => ⟨by rw [q66 8 (by decide) (by decide), hY.2.2.2.2.2.2.1, hh0], by rw [q66 9 (by decide) (by decide), hY.2.2.2.2.2.2.2, hh0], fun j hj => by rw [P2]; exact hY.2.2.2.2.1 j hj⟩)
      rw [if_neg hk4, hmore, v1, Option.bind_some]
      have H3 : GY τ τ3 := GY_tr hG2 (SF_G (by decide) v2)
      by_cases hw : (rowA B n 6 p 0 (β.2 5)).1.1 = 0
      · obtain ⟨a1, a2, a3⟩ := u4 hw
        obtain ⟨b1, b2, b3, b4⟩ := v6 hw
        have hk2 := r6 hw
        obtain ⟨-, c2, c3, c4, -⟩ := tC_le (B := B) r3
        have hs := tS_le (B := B) r3
        have es : sc B n (rowA B n 6 p 0 (β.2 5)).1.2 = 0 := by unfold sc; rw [if_neg (by omega), if_neg (fun h => h hk2)]
        obtain ⟨τ4, l1, l2, l3⟩ := (y_LE N hN hB (GY_T H3 ht') r3 b1).2 es
        rw [l1, if_pos (show σ4.1 50 9 = 0 by rw [x50 9 (by decide)]; exact a2)]
        refine Or.inr ⟨σ4, τ4, _, rfl, rfl, GX_tr g1 G4, GY_tr g2 (GY_tr H3 (FW_G l2)), ?_, c2, by rw [x50 3 (by decide)]; exact a1, by rw [x50 9 (by decide)]; exact a2, l3, mbed β (rowA B n 6 p 0 (β.2 5)).2.2, (rowA B n 6 p 0 (β.2 5)).2.1, t ||| 2 ^ 7, t' ||| 2 ^ 7, ?_⟩
        · omega
        · obtain ⟨o0, o1, o2, o3, o4, o5, o6, o7, o8, o9⟩ := hO
          obtain ⟨⟨a1', a2', a3', a4'⟩, a5, a6, a7, a8, a9⟩ := hX
          obtain ⟨⟨z1, z2, z3, z4⟩, z5, z6, z7, z8, z9, z10, z11⟩ := hY
          have x43 : σ4.1 43 = σ.1 43 := by rw [← hσ4, zpf_1, if_neg (by decide), u2.1 43 (by decide), j43]
          have hA : ∀ q, q ≠ 11 → σ4.2 q = σ.2 q := fun q hq => by rw [← hσ4, zpf_2, u2.2.2 q hq, j2]
          have hP : ∀ j, j < 25 ∨ 30 ≤ j → τ4.2 56 j = τ.2 56 j := fun j hj => by rw [l2.1, v4 j hj, P2]
          have y66 : ∀ j, j ≠ 6 → j ≠ 8 → j ≠ 9 → j < 13 → τ4.1 66 j = τ.1 66 j := fun j h6 h7 h9 h => by
            rw [l2.2.2 j (by omega), v2.2.1 j (by omega), q66 j h6 h]
          refine ⟨⟨o0, o1, o2, o3, r4, o5, o6, o7, r5, fun i hi hi5 => ?_⟩, ⟨⟨?_, ?_, ?_, ?_⟩, ?_, ?_, ?_, ?_, ?_⟩, ⟨⟨?_, ?_, ?_, ?_⟩, fun i hi => ?_, fun i hi => ?_, fun i hi => ?_, fun i hi => ?_, ?_, ?_, ?_⟩, ?_, ?_, t_or d3 (by decide), t_or d4 (by decide), fun v h1 h2 => t_two d5 h1 h2, fun h => d6 (by rw [t_tst (by decide)] at h; exact h), fun h => absurd h (by rw [t_tst1]; decide)⟩
          · exact (r8 i hi).trans (o9 i (by omega) hi5)
          · rw [x43]; exact a1'
          · rw [x43]; exact a2'
          · rw [x43]; exact a3'
          · rw [x43]; exact a4'
          · rw [hA 6 (by decide), hA 7 (by decide), hA 8 (by decide)]; exact a5
          · rw [hA 9 (by decide)]; exact a6
          · rw [hA 10 (by decide)]; exact a7
          · intro i hi
            rw [← hσ4, zpf_2]
            exact a3 i (Or.inr trivial) hi
          · rw [← hσ4, f50, if_pos rfl]
          · rw [y66 4 (by decide) (by decide) (by decide) (by decide)]; exact z1
          · rw [y66 5 (by decide) (by decide) (by decide) (by decide)]; exact z2
          · rw [hP 24 (by omega)]; exact z3
          · rw [hP 30 (by omega)]; exact z4
          · have hi' : i < 5 := Nat.lt_of_lt_of_le hi o0
            rw [hP _ (by omega), hP _ (by omega), hP _ (by omega)]; exact z5 i hi
          · have hi' : i < 4 := Nat.lt_of_lt_of_le hi o1
            rw [hP _ (by omega)]; exact z6 i hi
          · have hi' : i < 5 := Nat.lt_of_lt_of_le hi o2
            rw [hP _ (by omega)]; exact z7 i hi
          · rw [l2.1]; exact b4 i hi
          · rw [y66 7 (by decide) (by decide) (by decide) (by decide)]; exact z9
          · rw [l2.2.2 8 (by omega)]; exact b2
          · rw [l2.2.2 9 (by omega)]; exact b3
          · rw [x50 7 (by decide), u2.2.1 7 (by omega), ← hσ2, f50, if_pos rfl]
          · rw [l2.2.2 6 (by omega), v2.2.1 6 (by omega), F2.2.2 6 (by omega), f66, if_pos rfl]
      · have hF := u3 hw
        obtain ⟨τ4, l1, l2, l3⟩ := v5 hw
        rw [l1, if_neg (show ¬ σ4.1 50 9 = 0 by rw [x50 9 (by decide), hF.1]; exact w_no hF.2.2)]
        exact Or.inl ⟨σ4, τ4, _, _, rfl, rfl, GX_tr g1 G4, GY_tr g2 (GY_tr H3 (FW_G l2)), ⟨by rw [x50 9 (by decide)]; exact hF.1, by rw [x50 10 (by decide)]; exact hF.2.1, hF.2.2⟩, l3⟩
/-! any line -/
theorem y_49 (N : Nat) {τ : zS} {w st : Nat} (hw : w < 5) (h13 : τ.1 66 13 = nI 0) (h16 : τ.1 66 16 = nI st) : ∃ τ' : zS, fX7_readLine_49 N (nI w) τ = some τ' ∧ GY τ τ' ∧ YF τ' 5 st := by
  obtain ⟨τ', k1, k2, k3, k4, k5⟩ := y_fails N h13 (nI 5)
  have hF : YF τ' 5 st := ⟨k3, by rw [k4]; exact h16, by decide, by decide⟩
  rw [fX7_readLine_49, k1, Option.bind_some, fX7_readLine_54, if_pos ((nI_ltI (by omega) (by decide)).mpr hw)]
  obtain ⟨τ2, l1, l2, l3⟩ := y_76B N hF (nI w)
  exact ⟨τ2, l1, GY_tr (FW_G k2) l2, l3⟩
theorem line_bad (N : Nat) {σ0 τ σ : zS} {p st : Nat} (g : GX σ0 σ) (h5 : σ.1 50 5 = nI st) (h13 : τ.1 66 13 = nI 0) (h16 : τ.1 66 16 = nI st) (hn : fX7_nameHere N τ = some (-4)) : OUT B n p σ0 τ (fX4_takeLine_33 N (nI 8) σ) (fX7_readLine N τ) := by
  obtain ⟨σ', k1, k2, k3⟩ := x_refuse N σ (w := 2) (pl := st) (by decide)
  obtain ⟨τ', l1, l2, l3, l4, l5⟩ := y_fails N h13 (nI 2)
  rw [fX4_takeLine_33, if_neg (by decide), if_neg (by decide), if_neg (by decide), if_neg (by decide), if_pos rfl, h5, k1, Option.bind_some, fX7_readLine, hn, Option.bind_some, show fX7_in N (-4 : Int32).toInt64 0 7 = some 0 from y_in4 N (lo := 0) (hi := 7) (by decide) (by decide), Option.bind_some, if_pos rfl, l1, Option.bind_some]
  exact Or.inl ⟨σ', τ', _, _, if_pos (Or.inl rfl), rfl, GX_tr g (FX_G k2), FW_G l2, k3, l3, by rw [l4]; exact h16, by decide, by decide⟩
theorem line_eq (N : Nat) (hN : 4000 ≤ N) (hB : TB B n) {σ τ : zS} {p : Nat} (hp : p ≤ n) (ht : TX σ B n) (ht' : TY τ B n) (h3 : σ.1 50 3 = nI p) (h9 : σ.1 50 9 = nI 0) (hy : YT τ B n p) (hC : RC τ) {β : mB} {k t t' : Nat} (hd : DD σ τ β k t t') (hk4 : (tC B n p).1 ≠ 4) (hk3 : (tC B n p).1 ≠ 3) : OUT B n p σ τ (fX4_takeLine N σ) (fX7_readLine N τ) := by
  obtain ⟨c4, c2, c3, c5, -⟩ := tC_le (B := B) hp
  have hs := tS_le (B := B) hp
  have c5 := c5 hk3
  obtain ⟨σ1, k1, k2, k3, -, k5⟩ := x_tok N hN hB ht hp h3
  obtain ⟨l1, l2, l3, -⟩ := k5 hk4
  obtain ⟨y13, y15, y17, -⟩ := hy.2.2 hk4
  have hd1 : DD σ1 τ β k t t' := DD_eq k2 (FW_rfl τ) hd
  have ht1 := TX_eq k2 ht
  have l1 : σ1.1 50 9 = nI 0 := l1.trans h9
  rw [fX4_takeLine, k1, Option.bind_some, if_neg hk4]
  dsimp only
  rw [if_neg z10, l3, if_neg (fun h => hk3 ((nI_eq (by omega) (by decide)).mp h))]
  by_cases h0 : (tC B n p).1 = 0
  · have hy17 : τ.1 66 17 = nI 1 := by rw [y17, h0]
    have ew : fX4_wordRead N σ1 = some (nI (wrd B (tS B n p) (tC B n p).2 8 0)) := x_word N hN hB ht1 k3 l2 c3 c2 8 0 rfl N (by omega)
    have en : fX7_nameHere N τ = some (if wrd B (tS B n p) (tC B n p).2 8 0 = 8 then -4 else nI (wrd B (tS B n p) (tC B n p).2 8 0)) := y_word N hN hB ht' hC hy17 hy.1 y15 c3 c2 8 0 rfl N (by omega)
    have hw8 := wrd_le B (tS B n p) (tC B n p).2 8 0 rfl
    rw [if_pos (show nI (tC B n p).1 = 0 by rw [h0]; rfl), ew, Option.bind_some]
    generalize wrd B (tS B n p) (tC B n p).2 8 0 = w at en hw8 ⊢
    by_cases h8 : w = 8
    · rw [h8]
      rw [if_pos h8] at en
      exact line_bad N (FX_G k2) k3 y13 hy.1 en
    · rw [if_neg h8] at en
      have hw : w < 8 := by omega
      have ein : fX7_in N (nI w).toInt64 0 7 = some 1 := y_in1 N (lo := 0) (hi := 7) (by omega) (by omega) (by decide)
      have e8 : ∀ v, v < 9 → v ≠ w → ¬ nI w = nI v := fun v hv hne h => hne ((nI_eq (by omega) (by omega)).mp h).symm
      rw [fX7_readLine, en, Option.bind_some, ein, Option.bind_some, if_neg z10]
      have hb := hd1.1.1
      have hr := hd1.1.2.1
      by_cases hw3 : w ≤ 3
      · rw [if_neg (fun h => by have := (nI_ltI (by decide) (by omega)).mp h; omega), fX4_takeLine_33, if_neg (e8 4 (by decide) (by omega)), if_neg (e8 5 (by decide) (by omega)), if_neg (e8 6 (by decide) (by omega)), if_neg (e8 7 (by decide) (by omega)), if_neg (e8 8 (by decide) (by omega)), hd1.2.2.1.1.1]
        apply OUT_wrap
        by_cases hb5 : β.1 0 = 5
        · obtain ⟨τ2, m1, m2, m3⟩ := y_49 N (w := w) (by omega) y13 hy.1
          obtain ⟨σ2, n1, n2, n3⟩ := x_refuse N σ1 (w := 5) (pl := tS B n p) (by decide)
          rw [if_pos (by rw [hb5]), m1, fX4_takeBeast, hd1.2.1.1.1, if_neg (fun h => by have := (nI_ltI (by omega) (by decide)).mp h; omega), k3, n1, Option.bind_some]
          exact Or.inl ⟨σ2, τ2, _, _, if_pos (Or.inl rfl), rfl, FX_G (FX_tr k2 n2), m2, n3, m3⟩
        · rw [if_neg (fun h => hb5 ((nI_eq (by omega) (by decide)).mp h)), fX7_readLine_36, if_neg (e8 4 (by decide) (by omega)), fX7_readLine_54, if_pos ((nI_ltI (by omega) (by decide)).mpr (by omega))]
          exact line_beast N hN hB (by omega) c2 (FX_G k2) (GY_rfl τ) ht1 ht' l2 l1 y15 y13 hd1 hw3 (by omega)
      · rw [if_pos ((nI_ltI (by decide) (by omega)).mpr (by omega)), fX7_readLine_36]
        rcases (show w = 4 ∨ w = 5 ∨ w = 6 ∨ w = 7 by omega) with rfl | rfl | rfl | rfl
        · rw [if_pos rfl, fX4_takeLine_33, if_pos rfl, hd1.2.2.1.1.2.1]
          apply OUT_wrap
          by_cases hr4 : β.1 1 = 4
          · obtain ⟨τ2, m1, m2, m3⟩ := y_49 N (w := 4) (by decide) y13 hy.1
            obtain ⟨σ2, n1, n2, n3⟩ := x_refuse N σ1 (w := 5) (pl := tS B n p) (by decide)
            rw [if_pos (by rw [hr4]), m1, fX4_takeRobber, hd1.2.1.1.2.1, if_neg (fun h => by have := (nI_ltI (by omega) (by decide)).mp h; omega), k3, n1, Option.bind_some]
            exact Or.inl ⟨σ2, τ2, _, _, if_pos (Or.inl rfl), rfl, FX_G (FX_tr k2 n2), m2, n3, m3⟩
          · rw [if_neg (fun h => hr4 ((nI_eq (by omega) (by decide)).mp h)), fX7_readLine_54, if_pos (by decide)]
            exact line_robber N hN hB (by omega) c2 (FX_G k2) (GY_rfl τ) ht1 ht' l2 l1 y15 y13 hd1 (by omega)
        · rw [if_neg (by decide), fX4_takeLine_33, if_neg (by decide), if_pos rfl]
          apply OUT_wrap
          exact line_scout N hN hB (by omega) c2 (FX_G k2) (GY_rfl τ) ht1 ht' l2 l1 k3 y15 y13 hy.1 hd1
        · rw [if_neg (by decide), fX4_takeLine_33, if_neg (by decide), if_neg (by decide), if_pos rfl]
          apply OUT_wrap
          exact line_tower N hN hB (by omega) c2 (FX_G k2) (GY_rfl τ) ht1 ht' l2 l1 k3 y15 y13 hy.1 hd1
        · rw [if_neg (by decide), fX4_takeLine_33, if_neg (by decide), if_neg (by decide), if_neg (by decide), if_pos rfl]
          apply OUT_wrap
          exact line_beds N hN hB (by omega) c2 (FX_G k2) (GY_rfl τ) ht1 ht' l2 l1 k3 y15 y13 hy.1 hd1
  · have en : fX7_nameHere N τ = some (-4) := by
      unfold fX7_nameHere
      obtain ⟨f, rfl⟩ : ∃ k, N = k + 1 := ⟨N - 1, by omega⟩
      rw [fX7_nameHere_2, if_neg (by decide), y17, if_neg (show ¬ nI (((tC B n p).1 + 1) % 4) = nI 1 from fun h => by have := (nI_eq (by omega) (by decide)).mp h; omega)]
    rw [if_neg (show ¬ nI (tC B n p).1 = 0 from fun h => h0 ((nI_eq (b := 0) (by omega) (by decide)).mp h))]
    exact line_bad N (FX_G k2) k3 y13 hy.1 en
end LINES

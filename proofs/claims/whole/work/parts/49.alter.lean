/-! altering, who may climb, swapping beds, a beast -/
theorem m_updb (f : Nat → Int32) (k : Nat) (v : Int32) : upd (upd f k v) k (f k) = f := by
  funext j
  rw [zupd, zupd]
  by_cases e : j = k
  · rw [if_pos e, e]
  · rw [if_neg e, if_neg e]
theorem zpa_self (σ : zS) (q : Nat) : zpa σ q (σ.2 q) = σ := by
  have : va_up σ.2 q (σ.2 q) = σ.2 := by
    funext j
    show (if j = q then σ.2 q else σ.2 j) = σ.2 j
    split
    · next h => rw [h]
    · rfl
  unfold zpa
  rw [this]
section AL
variable {σ τ : zS} {β : mB}
theorem w_in {a b v : Nat} (hO : BOk β) (hv : (a = 0 ∧ v ≤ 3) ∨ (a = 1 ∧ 1 ≤ v ∧ v ≤ 9) ∨ (a = 2 ∧ v ≤ 9)) : ∀ i, i < β.1 0 → (mset2 β a b v).2 0 i ≤ 3 ∧ 1 ≤ (mset2 β a b v).2 1 i ∧ (mset2 β a b v).2 1 i ≤ 9 ∧ (mset2 β a b v).2 2 i ≤ 9 ∧ (mset2 β a b v).2 5 i < β.1 0 := by
  intro i hi
  obtain ⟨p1, p2, p3, p4, p5⟩ := hO.2.2.2.2.1 i hi
  show (if 0 = a ∧ i = b then v else β.2 0 i) ≤ 3 ∧ 1 ≤ (if 1 = a ∧ i = b then v else β.2 1 i) ∧ (if 1 = a ∧ i = b then v else β.2 1 i) ≤ 9 ∧ (if 2 = a ∧ i = b then v else β.2 2 i) ≤ 9 ∧ (if 5 = a ∧ i = b then v else β.2 5 i) < β.1 0
  refine ⟨?_, ?_, ?_, ?_, ?_⟩
  · split <;> omega
  · split <;> omega
  · split <;> omega
  · split <;> omega
  · rw [if_neg (by omega)]; exact p5
theorem w_ok0 {a b v : Nat} (hO : BOk β) (hv : (a = 0 ∧ v ≤ 3) ∨ (a = 1 ∧ 1 ≤ v ∧ v ≤ 9) ∨ (a = 2 ∧ v ≤ 9)) : BOk (mset1 (mset2 β a b v) 2 0) := by
  obtain ⟨o0, o1, o2, o3, o4, o5, o6, o7, o8, o9⟩ := id hO
  refine ⟨o0, o1, Nat.zero_le _, o3, w_in hO hv, fun i hi => ?_, fun i hi => absurd hi (Nat.not_lt_zero _), fun i hi => absurd hi (Nat.not_lt_zero _), fun i hi j hj e => ?_, rfl⟩
  · show (if 3 = a ∧ i = b then v else β.2 3 i) ≤ 99
    rw [if_neg (by omega)]; exact o5 i hi
  · have e : (if 5 = a ∧ i = b then v else β.2 5 i) = (if 5 = a ∧ j = b then v else β.2 5 j) := e
    rw [if_neg (by omega), if_neg (by omega)] at e
    exact o8 i hi j hj e
theorem w_ok {a b v : Nat} (hO : BOk β) (hv : (a = 0 ∧ v ≤ 3) ∨ (a = 1 ∧ 1 ≤ v ∧ v ≤ 9) ∨ (a = 2 ∧ v ≤ 9)) (hs : cs (mset2 β a b v) (β.2 4) (β.1 2) 0 = true) : BOk (mset2 β a b v) := by
  have e4 : (mset2 β a b v).2 4 = β.2 4 := by
    funext j
    show (if 4 = a ∧ j = b then v else β.2 4 j) = _
    rw [if_neg (by omega)]
  obtain ⟨p0, p1, p2, p3, p4, p5, p6, p7, p8, p9⟩ := w_ok0 (b := b) hO hv
  obtain ⟨o0, o1, o2, o3, o4, o5, o6, o7, o8, o9⟩ := hO
  refine ⟨o0, o1, o2, o3, p4, p5, ?_, ?_, p8, ?_⟩
  · rw [e4]; exact o6
  · rw [e4]; exact o7
  · rw [e4]; exact hs
theorem x_change (N : Nat) (hN : 4000 ≤ N) {a b v : Nat} (hO : BOk β) (hX : BX σ 42 β) (hb : b < β.1 0) (hv : (a = 0 ∧ v ≤ 3) ∨ (a = 1 ∧ 1 ≤ v ∧ v ≤ 9) ∨ (a = 2 ∧ v ≤ 9)) : fX6_change N σ a (nI b) (nI v) = some (if cs (mset2 β a b v) (β.2 4) (β.1 2) 0 = true then (nI (β.2 a b), zpa σ a (upd (σ.2 a) b (nI v))) else (-2, σ)) := by
  have b0 := hO.1
  have b2 := hO.2.2.1
  have hz : zlen a = 5 := by rcases hv with ⟨rfl, -⟩ | ⟨rfl, -⟩ | ⟨rfl, -⟩ <;> rfl
  have hin : zin (nI b) (zlen a) := by rw [hz]; exact m_zin (by omega) (by decide)
  have hrd : σ.2 a b = nI (β.2 a b) := by
    rcases hv with ⟨rfl, -⟩ | ⟨rfl, -⟩ | ⟨rfl, -⟩
    · exact (hX.2.2.2.2.1 b hb).1
    · exact (hX.2.2.2.2.1 b hb).2.1
    · exact (hX.2.2.2.2.1 b hb).2.2.1
  have hrd2 : σ.2 a (nI b).toNatClampNeg = σ.2 a b := by rw [nI_clamp (by omega)]
  have hX' := BX_set2 (σ := σ) (β := β) (a := a) (i := b) (v := v) (by omega) hX
  have e4 : (mset2 β a b v).2 4 = β.2 4 := by
    funext j
    show (if 4 = a ∧ j = b then v else β.2 4 j) = _
    rw [if_neg (by omega)]
  have hst := x_standsG N hN (b := 42) (σ := zpa σ a (upd (σ.2 a) b (nI v))) (by decide) (by decide) (w_ok0 (b := b) hO hv) (fun i hi => BX_K (β := mset2 β a b v) hX' i hi) (T := β.2 4) (h := β.1 2) (by omega) hX'.2.2.1 (fun i hi => ⟨by have := hX'.2.2.2.2.2.2 i hi; rw [e4] at this; exact this, hO.2.2.2.2.2.2.1 i hi⟩)
  rw [cs_congr (β := mset2 β a b v) (β' := mset1 (mset2 β a b v) 2 0) (T := β.2 4) (T' := β.2 4) (β.1 2) 0 (fun i hi => ⟨rfl, rfl, rfl⟩)] at hst
  unfold fX6_change
  rw [if_pos hin, zlet_eq, if_pos hin, zlet_eq, hrd2, m_upd (by omega), hst, Option.bind_some]
  by_cases hc : cs (mset2 β a b v) (β.2 4) (β.1 2) 0 = true
  · rw [if_pos hc, if_pos hc, if_neg (by decide), hrd]
  · rw [if_neg hc, if_neg hc, if_pos rfl, if_pos hin, zlet_eq, m_upd (by omega), zpa_zpa, zpa_at, m_updb, zpa_self]
theorem y_change (N : Nat) (hN : 4000 ≤ N) {a b v : Nat} (hO : BOk β) (hM : BM τ 0 β) (hb : b < β.1 0) (hv : (a = 0 ∧ v ≤ 3) ∨ (a = 1 ∧ 1 ≤ v ∧ v ≤ 9) ∨ (a = 2 ∧ v ≤ 9)) : fX7_alter_76 N (nI b) (nI a) (nI v) (nI 1) τ = some (if cs (mset2 β a b v) (β.2 4) (β.1 2) 0 = true then (nI (β.2 a b), zpa τ 55 (upd (τ.2 55) (5 * a + b) (nI v))) else (-2, τ)) := by
  have b0 := hO.1
  have b2 := hO.2.2.1
  have ho := hO.2.2.2.2.1 b hb
  have hlt : β.2 a b < 100 := by
    rcases hv with ⟨rfl, -⟩ | ⟨rfl, -⟩ | ⟨rfl, -⟩ <;> omega
  have hin : zin (nI (5 * a + b)) (zlen 55) := m_zin (show 5 * a + b < 155 by omega) (by decide)
  have hrd : τ.2 55 (5 * a + b) = nI (β.2 a b) := by
    rcases hv with ⟨rfl, -⟩ | ⟨rfl, -⟩ | ⟨rfl, -⟩
    · rw [show 5 * 0 + b = 0 + b by omega]; exact (hM.2.2.1 b hb).1
    · rw [show 5 * 1 + b = 0 + 5 + b by omega]; exact (hM.2.2.1 b hb).2.1
    · rw [show 5 * 2 + b = 0 + 10 + b by omega]; exact (hM.2.2.1 b hb).2.2.1
  have hrd2 : τ.2 55 (nI (5 * a + b)).toNatClampNeg = τ.2 55 (5 * a + b) := by rw [nI_clamp (by omega)]
  have hM' := BM_set2 (τ := τ) (β := β) (a := a) (i := b) (v := v) hO (by omega) (by rw [if_neg (by omega)]; exact hb) hM
  have e4 : (mset2 β a b v).2 4 = β.2 4 := by
    funext j
    show (if 4 = a ∧ j = b then v else β.2 4 j) = _
    rw [if_neg (by omega)]
  have hst := y_standsG N hN (o := 0) (τ := zpa τ 55 (upd (τ.2 55) (5 * a + b) (nI v))) (by decide) (w_ok0 (b := b) hO hv) (fun i hi => BM_K (β := mset2 β a b v) hM' i hi) (T := β.2 4) (h := β.1 2) (by omega) hM'.1 (fun i hi => ⟨by have := hM'.2.2.2.2 i hi; rw [e4] at this; exact this, hO.2.2.2.2.2.2.1 i hi⟩)
  rw [cs_congr (β := mset2 β a b v) (β' := mset1 (mset2 β a b v) 2 0) (T := β.2 4) (T' := β.2 4) (β.1 2) 0 (fun i hi => ⟨rfl, rfl, rfl⟩)] at hst
  unfold fX7_alter_76 fX7_puts
  rw [if_neg (by decide), m_mul, nI_add, if_pos hin, zlet_eq, if_pos hin, zlet_eq, Option.bind_some, hrd2, m_upd (by omega), m_zero, Int32.sub_zero, Int32.add_zero]
  dsimp only
  rw [if_neg (show ¬ τ.2 55 (5 * a + b) = -1 by rw [hrd]; exact m_neg_lt (by omega) _ (by decide)), show fX7_standsOn N (zpa τ 55 (upd (τ.2 55) (5 * a + b) (nI v))) 0 = _ from hst, Option.bind_some]
  by_cases hc : cs (mset2 β a b v) (β.2 4) (β.1 2) 0 = true
  · rw [if_pos hc, if_pos hc, if_neg (by decide), hrd]
  · rw [if_neg hc, if_neg hc, if_pos rfl, if_pos hin, zlet_eq, m_upd (by omega), zpa_zpa, zpa_at, m_updb, zpa_self]
end AL
theorem alter_rel {σ τ : zS} {β : mB} {a b v : Nat} (hrel : Rel σ τ) (hrest : RI σ τ β ∧ RT σ τ ∧ RS σ τ ∧ RH σ τ ∧ RC τ ∧ σ.1 50 9 = τ.1 66 12 ∧ σ.1 54 9 = τ.1 66 35) (hO : BOk β) (hX : BX σ 42 β) (hM : BM τ 0 β) (n1 : τ.1 66 1 = nI (β.1 0)) (n2 : τ.1 66 2 = nI (β.1 1)) (hb : b < β.1 0) (hv : (a = 0 ∧ v ≤ 3) ∨ (a = 1 ∧ 1 ≤ v ∧ v ≤ 9) ∨ (a = 2 ∧ v ≤ 9)) : ∃ rx rm : Int32 × zS, (if cs (mset2 β a b v) (β.2 4) (β.1 2) 0 = true then (nI (β.2 a b), zpa σ a (upd (σ.2 a) b (nI v))) else (-2, σ)) = rx ∧ (if cs (mset2 β a b v) (β.2 4) (β.1 2) 0 = true then (nI (β.2 a b), zpa τ 55 (upd (τ.2 55) (5 * a + b) (nI v))) else (-2, τ)) = rm ∧ rx.1 = rm.1 ∧ Rel rx.2 rm.2 := by
  have b0 := hO.1
  by_cases hc : cs (mset2 β a b v) (β.2 4) (β.1 2) 0 = true
  · rw [if_pos hc, if_pos hc]
    exact ⟨_, _, rfl, rfl, rfl, Rel_band (β' := mset2 β a b v) hrest ⟨w_ok hO hv hc, BX_set2 (by omega) hX, BM_set2 hO (by omega) (by rw [if_neg (by omega)]; exact hb) hM, n1, n2⟩ rfl rfl (fun q _ _ _ => rfl) (fun q h1 _ => by rw [zpa_2, if_neg (by omega)]) (fun k _ => rfl) (fun q hq _ => by rw [zpa_2, if_neg hq]) (fun i h1 h2 => by rw [zpa_at, zupd, if_neg (by omega)])⟩
  · rw [if_neg hc, if_neg hc]
    exact ⟨_, _, rfl, rfl, rfl, hrel⟩
theorem okp_alter (N : Nat) (hN : 4000 ≤ N) : ok_alter N Rel := by
  intro σ τ x1 x2 x3 hrel
  obtain ⟨β, ⟨hO, hX, hM, n1, n2⟩, hrest⟩ := id hrel
  have b0 := hO.1
  have bad76 : fX7_alter_76 N x1 x2 x3 (nI 0) τ = some (-1, τ) := by
    unfold fX7_alter_76 fX7_puts
    rw [if_pos m_zero, Option.bind_some, if_pos rfl]
  have bad75 : fX7_alter_75 N x1 x2 x3 τ = some (-1, τ) := bad76
  unfold fX6_alter fX7_alter
  by_cases hx : ∃ k, k < β.1 0 ∧ x1 = nI k
  · obtain ⟨b, hb, rfl⟩ := hx
    have g55 : ∀ s0, fX7_alter_55 N (nI b) x2 x3 s0 τ = if s0 = 0 then some (-1, τ) else fX7_alter_76 N (nI b) x2 x3 (nI 1) τ := by
      intro s0
      unfold fX7_alter_55
      rw [y_has1 N n1 (by omega) hb, Option.bind_some, if_neg (by decide), bad75]
    have g54 : fX7_alter_54 N (nI b) x2 x3 τ = some (-1, τ) := by
      unfold fX7_alter_54
      rw [g55, if_pos m_zero]
    rw [x_has1 N hX.1 (by omega) hb, Option.bind_some, if_neg (by decide)]
    by_cases c0 : x2 = nI 0
    · rw [if_pos c0, if_pos (show x2 = 0 from c0)]
      by_cases hv : ∃ v, 0 ≤ v ∧ v ≤ 3 ∧ x3 = nI v
      · obtain ⟨v, -, hv, rfl⟩ := hv
        have wm : fX7_in N (nI v).toInt64 0 3 = some 1 := y_in1 N (lo := 0) (hi := 3) (by omega) hv (by decide)
        subst c0
        rw [x_within1 N (by omega) hv (by decide), wm, Option.bind_some, if_neg z10, Option.bind_some, g55, if_neg z10, x_change N hN hO hX hb (Or.inl ⟨rfl, hv⟩), y_change N hN hO hM hb (Or.inl ⟨rfl, hv⟩), Option.bind_some]
        obtain ⟨rx, rm, e1, e2, e3, e4⟩ := alter_rel (a := 0) hrel hrest hO hX hM n1 n2 hb (Or.inl ⟨rfl, hv⟩)
        rw [e1, e2]
        exact ⟨_, _, rfl, rfl, e3, e4⟩
      · have wm : fX7_in N x3.toInt64 0 3 = some 0 := y_in0 N (lo := 0) (hi := 3) (by decide) (by decide) hv
        rw [x_within0 N (by decide) (by decide) hv, wm, Option.bind_some, Option.bind_some, if_pos rfl, g55, if_pos rfl]
        exact ⟨_, _, rfl, rfl, rfl, hrel⟩
    rw [if_neg c0, if_neg (show ¬ x2 = 0 from c0)]
    by_cases c1 : x2 = nI 1
    · rw [if_pos c1, if_pos c1]
      by_cases hv : ∃ v, 1 ≤ v ∧ v ≤ 9 ∧ x3 = nI v
      · obtain ⟨v, hv1, hv, rfl⟩ := hv
        have wm : fX7_in N (nI v).toInt64 1 9 = some 1 := y_in1 N (lo := 1) (hi := 9) hv1 hv (by decide)
        subst c1
        rw [x_within1 N hv1 hv (by decide), wm, Option.bind_some, if_neg z10, Option.bind_some, g55, if_neg z10, x_change N hN hO hX hb (Or.inr (Or.inl ⟨rfl, hv1, hv⟩)), y_change N hN hO hM hb (Or.inr (Or.inl ⟨rfl, hv1, hv⟩)), Option.bind_some]
        obtain ⟨rx, rm, e1, e2, e3, e4⟩ := alter_rel (a := 1) hrel hrest hO hX hM n1 n2 hb (Or.inr (Or.inl ⟨rfl, hv1, hv⟩))
        rw [e1, e2]
        exact ⟨_, _, rfl, rfl, e3, e4⟩
      · have wm : fX7_in N x3.toInt64 1 9 = some 0 := y_in0 N (lo := 1) (hi := 9) (by decide) (by decide) hv
        rw [x_within0 N (by decide) (by decide) hv, wm, Option.bind_some, Option.bind_some, if_pos rfl, g55, if_pos rfl]
        exact ⟨_, _, rfl, rfl, rfl, hrel⟩
    rw [if_neg c1, if_neg c1]
    by_cases c2 : x2 = nI 2
    · rw [if_pos c2, if_pos c2]
      by_cases hv : ∃ v, 0 ≤ v ∧ v ≤ 9 ∧ x3 = nI v
      · obtain ⟨v, -, hv, rfl⟩ := hv
        have wm : fX7_in N (nI v).toInt64 0 9 = some 1 := y_in1 N (lo := 0) (hi := 9) (by omega) hv (by decide)
        subst c2
        rw [x_within1 N (by omega) hv (by decide), wm, Option.bind_some, if_neg z10, Option.bind_some, if_neg z10, g55, if_neg (show ¬ nI 1 = 0 from z10), x_change N hN hO hX hb (Or.inr (Or.inr ⟨rfl, hv⟩)), y_change N hN hO hM hb (Or.inr (Or.inr ⟨rfl, hv⟩)), Option.bind_some]
        obtain ⟨rx, rm, e1, e2, e3, e4⟩ := alter_rel (a := 2) hrel hrest hO hX hM n1 n2 hb (Or.inr (Or.inr ⟨rfl, hv⟩))
        rw [e1, e2]
        exact ⟨_, _, rfl, rfl, e3, e4⟩
      · have wm : fX7_in N x3.toInt64 0 9 = some 0 := y_in0 N (lo := 0) (hi := 9) (by decide) (by decide) hv
        rw [x_within0 N (by decide) (by decide) hv, wm, Option.bind_some, Option.bind_some, if_pos rfl, if_pos rfl, g54]
        exact ⟨_, _, rfl, rfl, rfl, hrel⟩
    rw [if_neg c2, if_neg c2, g54]
    exact ⟨_, _, rfl, rfl, rfl, hrel⟩
  · have g55 : ∀ s0, fX7_alter_55 N x1 x2 x3 s0 τ = some (-1, τ) := by
      intro s0
      unfold fX7_alter_55
      rw [y_has0 N n1 (by omega) hx, Option.bind_some, if_pos rfl, bad75]
    have g54 : fX7_alter_54 N x1 x2 x3 τ = some (-1, τ) := g55 _
    have hq : ∀ lo hi : Int64, ∃ q, fX7_in N x3.toInt64 lo hi = some q := fun lo hi => ⟨_, m_inq N _ _ _⟩
    obtain ⟨q1, e1⟩ := hq 0 3
    obtain ⟨q2, e2⟩ := hq 1 9
    obtain ⟨q3, e3⟩ := hq 0 9
    rw [x_has0 N hX.1 (by omega) hx, Option.bind_some, if_pos rfl, e1, e2, e3, Option.bind_some, Option.bind_some, Option.bind_some, g55, g55, g54, g55, ite_self, ite_self, ite_self, ite_self]
    exact ⟨_, _, rfl, rfl, rfl, hrel⟩

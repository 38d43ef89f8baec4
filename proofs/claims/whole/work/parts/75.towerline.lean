/-! rows of beasts -/
def rowA (B : Nat → Nat) (n : Nat) : Nat → Nat → Nat → (Nat → Nat) → (Nat × Nat) × Nat × (Nat → Nat)
  | 0, p, i, T => ((9, p), i, T)
  | d + 1, p, i, T => if (tC B n p).1 = 2 then ((0, p), i, T) else if oc B n p 0 4 (mbits T i) ≠ 0 then ((oc B n p 0 4 (mbits T i), p), i, T) else rowA B n d (tC B n p).2 (i + 1) (fun j => if j = i then tV B n p else T j)
theorem rowA_s {B : Nat → Nat} {n d p i : Nat} {T : Nat → Nat} (h : (tC B n p).1 = 2) : rowA B n (d + 1) p i T = ((0, p), i, T) := by rw [rowA, if_pos h]
theorem rowA_w {B : Nat → Nat} {n d p i : Nat} {T : Nat → Nat} (h : (tC B n p).1 ≠ 2) (h0 : oc B n p 0 4 (mbits T i) ≠ 0) : rowA B n (d + 1) p i T = ((oc B n p 0 4 (mbits T i), p), i, T) := by rw [rowA, if_neg h, if_pos h0]
theorem rowA_n {B : Nat → Nat} {n d p i : Nat} {T : Nat → Nat} (h : (tC B n p).1 ≠ 2) (h0 : oc B n p 0 4 (mbits T i) = 0) : rowA B n (d + 1) p i T = rowA B n d (tC B n p).2 (i + 1) (fun j => if j = i then tV B n p else T j) := by rw [rowA, if_neg h, if_neg (fun h => h h0)]
def gR (T : Nat → Nat) (i : Nat) : Prop := (∀ j, j < i → T j < 5) ∧ ∀ j, j < i → ∀ l, l < i → T j = T l → j = l
theorem mpop_add : ∀ m, m < 32 → ∀ x, x < 5 → m.testBit x = false → mpop (m ||| 2 ^ x) = mpop m + 1 := by decide +kernel
theorem mpop_bits {T : Nat → Nat} : ∀ i : Nat, gR T i → mpop (mbits T i) = i
  | 0, _ => by rw [mbits]; decide
  | i + 1, h => by
    have h' : gR T i := ⟨fun j hj => h.1 j (by omega), fun j hj l hl e => h.2 j (by omega) l (by omega) e⟩
    rw [mbits, mpop_add _ (mbits_lt _ _ h'.1) _ (h.1 i (by omega)), mpop_bits i h']
    cases hb : (mbits T i).testBit (T i) with
    | false => rfl
    | true =>
      obtain ⟨j, h1, h2⟩ := (mbits_tst T (T i) i).mp hb
      have := h.2 j (by omega) i (by omega) h2
      omega
theorem mpop_all : ∀ m, m < 32 → mpop m = 5 → ∀ v, v < 5 → m.testBit v = true := by decide +kernel
theorem gR_step {T : Nat → Nat} {i v : Nat} (h : gR T i) (hv : v < 5) (hb : ¬ (mbits T i).testBit v = true) : gR (fun j => if j = i then v else T j) (i + 1) := by
  have key : ∀ j, j < i → T j ≠ v := fun j hj e => hb ((mbits_tst T v i).mpr ⟨j, hj, e⟩)
  refine ⟨fun j hj => ?_, fun j hj l hl e => ?_⟩
  · dsimp only
    split
    · exact hv
    · exact h.1 j (by omega)
  · dsimp only at e
    by_cases h1 : j = i
    · by_cases h2 : l = i
      · omega
      · rw [if_pos h1, if_neg h2] at e
        exact absurd e.symm (key l (by omega))
    · by_cases h2 : l = i
      · rw [if_neg h1, if_pos h2] at e
        exact absurd e (key j (by omega))
      · rw [if_neg h1, if_neg h2] at e
        exact h.2 j (by omega) l (by omega) e
theorem mbits_step {T : Nat → Nat} {i v : Nat} : mbits (fun j => if j = i then v else T j) (i + 1) = mbits T i ||| 2 ^ v := by
  rw [mbits, if_pos rfl, mbits_congr i (T' := T) (fun j hj => if_neg (by omega))]
theorem oc_so (B : Nat → Nat) (n p so : Nat) : oc B n p 0 4 so = if oc B n p 0 4 0 ≠ 0 then oc B n p 0 4 0 else if so.testBit (tV B n p) = true then 4 else 0 := by
  unfold oc
  by_cases h4 : (tC B n p).1 = 4
  · rw [if_pos h4, if_pos h4, if_pos (by decide)]
  · rw [if_neg h4, if_neg h4]
    by_cases h1 : (tC B n p).1 ≠ 1
    · rw [if_pos h1, if_pos h1, if_pos (by decide)]
    · rw [if_neg h1, if_neg h1]
      by_cases h3 : ¬ (0 ≤ tV B n p ∧ tV B n p ≤ 4)
      · rw [if_pos h3, if_pos h3, if_pos (by decide)]
      · rw [if_neg h3, if_neg h3, if_neg (show ¬ ((0 : Nat) ≠ 0 ∧ (0 : Nat).testBit (tV B n p) = true) from fun h => h.1 rfl), if_neg (show ¬ ((0 : Nat) ≠ 0) from fun h => h rfl)]
        by_cases hb : so.testBit (tV B n p) = true
        · rw [if_pos hb, if_pos ⟨fun e => by rw [e, Nat.zero_testBit] at hb; exact absurd hb (by decide), hb⟩]
        · rw [if_neg hb, if_neg (fun h => hb h.2)]
theorem oc_0 {B : Nat → Nat} {n p lo hi so : Nat} (h : oc B n p lo hi so = 0) : (tC B n p).1 = 1 ∧ lo ≤ tV B n p ∧ tV B n p ≤ hi ∧ (so ≠ 0 → so.testBit (tV B n p) = false) := by
  unfold oc at h
  by_cases h4 : (tC B n p).1 = 4
  · rw [if_pos h4] at h; exact absurd h (by decide)
  · rw [if_neg h4] at h
    by_cases h1 : (tC B n p).1 ≠ 1
    · rw [if_pos h1] at h; exact absurd h (by decide)
    · rw [if_neg h1] at h
      by_cases h3 : ¬ (lo ≤ tV B n p ∧ tV B n p ≤ hi)
      · rw [if_pos h3] at h; exact absurd h (by decide)
      · rw [if_neg h3] at h
        by_cases hb : so ≠ 0 ∧ so.testBit (tV B n p) = true
        · rw [if_pos hb] at h; exact absurd h (by decide)
        · have h3 := Decidable.not_not.mp h3
          exact ⟨Decidable.not_not.mp h1, h3.1, h3.2, fun h0 => by cases hc : so.testBit (tV B n p) with | false => rfl | true => exact absurd ⟨h0, hc⟩ hb⟩
theorem oc_le {B : Nat → Nat} {n p lo hi so : Nat} : oc B n p lo hi so ≤ 4 := by
  unfold oc
  split
  · omega
  · split
    · omega
    · split
      · omega
      · split <;> omega
theorem row_step {B : Nat → Nat} {n p i : Nat} {T : Nat → Nat} (h : gR T i) (hi : i ≤ 5) (h0 : oc B n p 0 4 (mbits T i) = 0) : i < 5 ∧ (tC B n p).1 = 1 ∧ tV B n p < 5 ∧ ¬ (mbits T i).testBit (tV B n p) = true := by
  obtain ⟨h1, h2, h3, h4⟩ := oc_0 h0
  have hb : ¬ (mbits T i).testBit (tV B n p) = true := fun hb => by
    rw [h4 (fun e => by rw [e, Nat.zero_testBit] at hb; exact absurd hb (by decide))] at hb
    exact absurd hb (by decide)
  refine ⟨?_, h1, by omega, hb⟩
  by_cases e : i = 5
  · exfalso
    have hm := mpop_bits i h
    exact hb (mpop_all _ (mbits_lt _ _ h.1) (by rw [hm, e]) _ (by omega))
  · omega
section ROWS
variable {B : Nat → Nat} {n : Nat}
theorem rowA_ok : ∀ d i p : Nat, ∀ T : Nat → Nat, i + d = 6 → i ≤ 5 → p ≤ n → gR T i → (rowA B n d p i T).1.1 ≤ 4 ∧ p ≤ (rowA B n d p i T).1.2 ∧ (rowA B n d p i T).1.2 ≤ n ∧ (rowA B n d p i T).2.1 ≤ 5 ∧ gR (rowA B n d p i T).2.2 (rowA B n d p i T).2.1 ∧ ((rowA B n d p i T).1.1 = 0 → (tC B n (rowA B n d p i T).1.2).1 = 2) ∧ i ≤ (rowA B n d p i T).2.1 ∧ ∀ j, (rowA B n d p i T).2.1 ≤ j → (rowA B n d p i T).2.2 j = T j := by
  intro d
  induction d with
  | zero => intro i p T h1 h2 _ _; omega
  | succ d ih =>
    intro i p T h1 h2 hp hg
    by_cases hs : (tC B n p).1 = 2
    · rw [rowA_s hs]
      exact ⟨Nat.zero_le _, Nat.le_refl _, hp, h2, hg, fun _ => hs, Nat.le_refl _, fun _ _ => rfl⟩
    · by_cases h0 : oc B n p 0 4 (mbits T i) = 0
      · rw [rowA_n hs h0]
        obtain ⟨r1, r2, r3, r4⟩ := row_step hg h2 h0
        obtain ⟨-, c2, c3, -, -⟩ := tC_le (B := B) hp
        have hss := tS_le (B := B) hp
        obtain ⟨k1, k2, k3, k4, k5, k6, k7, k8⟩ := ih (i + 1) (tC B n p).2 _ (by omega) (by omega) c2 (gR_step hg r3 r4)
        exact ⟨k1, by omega, k3, k4, k5, k6, by omega, fun j hj => by rw [k8 j hj, if_neg (by omega)]⟩
      · rw [rowA_w hs h0]
        exact ⟨oc_le, Nat.le_refl _, hp, h2, hg, fun h => absurd h h0, Nat.le_refl _, fun _ _ => rfl⟩
def RF (b1 : Nat) (σ σ' : zS) : Prop := (∀ q, q ≠ 50 → σ'.1 q = σ.1 q) ∧ (∀ k, k = 2 ∨ k = 7 ∨ k = 8 → σ'.1 50 k = σ.1 50 k) ∧ ∀ q, q ≠ b1 → σ'.2 q = σ.2 q
theorem RF_tr {b1 : Nat} {a b c : zS} (h1 : RF b1 a b) (h2 : RF b1 b c) : RF b1 a c := ⟨fun q hq => (h2.1 q hq).trans (h1.1 q hq), fun q hq => (h2.2.1 q hq).trans (h1.2.1 q hq), fun q hq => (h2.2.2 q hq).trans (h1.2.2 q hq)⟩
theorem FX_R {b1 : Nat} {σ σ' : zS} (h : FX σ σ') : RF b1 σ σ' := ⟨h.2.1, h.2.2, fun q _ => by rw [h.1]⟩
theorem RF_T {b1 : Nat} (hb : b1 ≠ 24) {σ σ' : zS} (h : RF b1 σ σ') (ht : TX σ B n) : TX σ' B n := ⟨(h.2.1 2 (by omega)).trans ht.1, by rw [h.2.2 24 (fun e => hb e.symm)]; exact ht.2⟩
theorem x_row (N : Nat) (hN : 4000 ≤ N) (hB : TB B n) {b1 : Nat} (hb1 : b1 = 10 ∨ b1 = 11) (H : Nat → Prop) : ∀ d i p : Nat, ∀ (T : Nat → Nat) (σ : zS) (f : Nat), i + d = 6 → i ≤ 5 → p ≤ n → gR T i → d < f → TX σ B n → σ.1 50 3 = nI p → σ.1 50 9 = nI 0 → (∀ j, j < i ∨ H j → j < 5 → σ.2 b1 j = nI (T j)) → ∃ σ' : zS, fX4_takeRow_7 N (fX4_takeRow_58 N) f b1 (nI i) (nI (mbits T i)) (nI i) σ = some (nI (rowA B n d p i T).2.1, σ') ∧ RF b1 σ σ' ∧ ((rowA B n d p i T).1.1 ≠ 0 → XF σ' (rowA B n d p i T).1.1 (tS B n (rowA B n d p i T).1.2)) ∧ ((rowA B n d p i T).1.1 = 0 → σ'.1 50 3 = nI (tC B n (rowA B n d p i T).1.2).2 ∧ σ'.1 50 9 = nI 0 ∧ ∀ j, j < (rowA B n d p i T).2.1 ∨ H j → j < 5 → σ'.2 b1 j = nI ((rowA B n d p i T).2.2 j)) := by
  have hzl : zlen b1 = 5 := by rcases hb1 with rfl | rfl <;> rfl
  have hb24 : b1 ≠ 24 := by omega
  intro d
  induction d with
  | zero => intro i p T σ f h1 h2; omega
  | succ d ih =>
    intro i p T σ f h1 h2 hp hg hf ht h3 h9 hv
    obtain ⟨f, rfl⟩ : ∃ k, f = k + 1 := ⟨f - 1, by omega⟩
    obtain ⟨c4, c2, c3, -, -⟩ := tC_le (B := B) hp
    obtain ⟨σ1, k1, k2, k3, k4, k5⟩ := x_tok N hN hB ht hp h3
    have hm32 := mbits_lt T i hg.1
    rw [fX4_takeRow_7, if_neg (fun h => by have := (nI_ltI (by decide) (by omega)).mp h; omega), k1, Option.bind_some]
    by_cases h4 : (tC B n p).1 = 4
    · have e : oc B n p 0 4 (mbits T i) = 1 := by unfold oc; rw [if_pos h4]
      rw [rowA_w (show (tC B n p).1 ≠ 2 by omega) (by rw [e]; decide), e, if_pos h4]
      dsimp only
      rw [if_pos rfl]
      exact ⟨σ1, rfl, FX_R k2, fun _ => ⟨(k4 h4).1, (k4 h4).2, by decide, by decide⟩, fun h => absurd h (by decide)⟩
    · obtain ⟨l1, l2, l3, l4⟩ := k5 h4
      rw [if_neg h4]
      dsimp only
      rw [if_neg z10, l3]
      by_cases hs : (tC B n p).1 = 2
      · rw [if_pos (show nI (tC B n p).1 = nI 2 by rw [hs]), rowA_s hs]
        exact ⟨σ1, rfl, FX_R k2, fun h => absurd rfl h, fun _ => ⟨l2, l1.trans h9, by rw [k2.1]; exact hv⟩⟩
      · obtain ⟨m1, m2⟩ := x_nw N (B := B) (n := n) (p := p) (σ := σ1) (lo := 0) (hi := 4) (by decide) (by decide) h4 c4 k3 l3 l4
        rw [if_neg (fun h => hs ((nI_eq (by omega) (by decide)).mp h))]
        by_cases h0 : oc B n p 0 4 0 = 0
        · obtain ⟨n1, n2, n3, n4⟩ := m2 h0
          rw [n4, Option.bind_some]
          dsimp only
          rw [if_neg z10, l4 n1]
          by_cases hb : (mbits T i).testBit (tV B n p) = true
          · have hoc4 : oc B n p 0 4 (mbits T i) = 4 := by rw [oc_so, if_neg (fun h => h h0), if_pos hb]
            rw [if_pos ((m_tst1 (by omega) (by omega)).mpr hb), rowA_w hs (by rw [hoc4]; decide), hoc4, fX4_takeRow_58, k3]
            obtain ⟨σ2, q1, q2, q3⟩ := x_refuse N σ1 (w := 4) (pl := tS B n p) (by decide)
            rw [q1, Option.bind_some]
            exact ⟨σ2, rfl, FX_R (FX_tr k2 q2), fun _ => q3, fun h => absurd (show 4 = 0 from h) (by decide)⟩
          · have hoc : oc B n p 0 4 (mbits T i) = 0 := by rw [oc_so, if_neg (fun h => h h0), if_neg hb]
            obtain ⟨r1, r2, r3, r4⟩ := row_step hg h2 hoc
            rw [if_neg (fun h => hb ((m_tst1 (by omega) (by omega)).mp h)), rowA_n hs hoc, if_pos ((nI_ltI (by omega) (by decide)).mpr r1), zlet_eq, m_bit (by omega), m_or, hzl, if_pos (m_zin (by omega) (by decide)), zlet_eq, nI_add, ← mbits_step (T := T) (i := i)]
            have hRa : RF b1 σ (zpa σ1 b1 (upd (σ1.2 b1) (nI i).toNatClampNeg (nI (tV B n p)))) := RF_tr (FX_R k2) ⟨fun q _ => by rw [zpa_1], fun k _ => by rw [zpa_1], fun q hq => by rw [zpa_2, if_neg hq]⟩
            obtain ⟨σ2, q1, q2, q3, q4⟩ := ih (i + 1) (tC B n p).2 (fun j => if j = i then tV B n p else T j) _ f (by omega) (by omega) c2 (gR_step hg r3 r4) (by omega) (RF_T hb24 hRa ht) l2 (l1.trans h9) (fun j hj hj5 => by
              rw [aXX _ (by omega)]
              by_cases e : j = i
              · rw [if_pos e]; rw [if_pos e]
              · rw [if_neg e]; rw [if_neg e, k2.1]; exact hv j (hj.imp_left (by omega)) hj5)
            exact ⟨σ2, q1, RF_tr hRa q2, q3, q4⟩
        · obtain ⟨σ2, q1, q2, q3⟩ := m1 h0
          have e : oc B n p 0 4 (mbits T i) = oc B n p 0 4 0 := by rw [oc_so, if_pos h0]
          rw [q1, Option.bind_some, rowA_w hs (by rw [e]; exact h0), e]
          dsimp only
          rw [if_pos rfl]
          exact ⟨σ2, rfl, FX_R (FX_tr k2 q2), fun _ => q3, fun h => absurd h h0⟩
/-- what the model's rows leave alone -/
def SF (m : Nat) (τ τ' : zS) : Prop := (∀ q, q ≠ 66 → τ'.1 q = τ.1 q) ∧ (∀ k, (k < 13 ∧ k ≠ m ∧ k ≠ 9) ∨ 19 ≤ k → τ'.1 66 k = τ.1 66 k) ∧ (∀ q, q ≠ 56 → τ'.2 q = τ.2 q)
theorem SF_tr {m : Nat} {a b c : zS} (h1 : SF m a b) (h2 : SF m b c) : SF m a c := ⟨fun q hq => (h2.1 q hq).trans (h1.1 q hq), fun q hq => (h2.2.1 q hq).trans (h1.2.1 q hq), fun q hq => (h2.2.2 q hq).trans (h1.2.2 q hq)⟩
theorem FW_S {m : Nat} {τ τ' : zS} (h : FW τ τ') : SF m τ τ' := ⟨h.2.1, fun k hk => h.2.2 k (by omega), fun q _ => by rw [h.1]⟩
theorem SF_a {m : Nat} (τ : zS) (f : Nat → Int32) : SF m τ (zpa τ 56 f) := ⟨fun q _ => by rw [zpa_1], fun q _ => by rw [zpa_1], fun q hq => by rw [zpa_2, if_neg hq]⟩
theorem SF_f {m : Nat} (τ : zS) {k : Nat} (h : k = m ∨ k = 9) (hk : k < 13) (v : Int32) : SF m τ (zpf τ 66 k v) := ⟨fun q hq => by rw [zpf_1, if_neg hq], fun j hj => by rw [f66, if_neg (by omega)], fun q _ => by rw [zpf_2]⟩
theorem SF_T {m : Nat} (hm : m < 11) {τ τ' : zS} (h : SF m τ τ') (ht : TY τ B n) : TY τ' B n := ⟨(h.2.1 11 (by omega)).trans ht.1, by rw [h.2.2 57 (by decide)]; exact ht.2⟩
theorem SF_G {m : Nat} (hm : 7 ≤ m ∧ m < 9) {τ τ' : zS} (h : SF m τ τ') : GY τ τ' := ⟨h.1, fun k hk => h.2.1 k (by omega), h.2.2⟩
theorem y_rowT (N : Nat) (hN : 4000 ≤ N) (hB : TB B n) : ∀ d i p : Nat, ∀ (T : Nat → Nat) (τ : zS) (f : Nat), i + d = 6 → i ≤ 5 → p ≤ n → gR T i → d + 1 < f → TY τ B n → YT τ B n p → ((tC B n p).1 ≠ 4 → τ.1 66 7 = nI (mbits T i) ∧ τ.2 56 24 = nI i ∧ ∀ j, j < i → τ.2 56 (19 + j) = nI (T j)) → ∃ τ' : zS, fX7_readTower_0 N f τ = some τ' ∧ SF 7 τ τ' ∧ τ'.1 66 9 = τ.1 66 9 ∧ (∀ j, j < 19 ∨ 25 ≤ j → τ'.2 56 j = τ.2 56 j) ∧ ((rowA B n d p i T).1.1 ≠ 0 → ∃ τ'' : zS, LE N τ' = some τ'' ∧ FW τ' τ'' ∧ YF τ'' (rowA B n d p i T).1.1 (tS B n (rowA B n d p i T).1.2)) ∧ ((rowA B n d p i T).1.1 = 0 → YT τ' B n (rowA B n d p i T).1.2 ∧ τ'.1 66 7 = nI (mbits (rowA B n d p i T).2.2 (rowA B n d p i T).2.1) ∧ τ'.2 56 24 = nI (rowA B n d p i T).2.1 ∧ ∀ j, j < (rowA B n d p i T).2.1 → τ'.2 56 (19 + j) = nI ((rowA B n d p i T).2.2 j)) := by
  intro d
  induction d with
  | zero => intro i p T τ f h1 h2; omega
  | succ d ih =>
    intro i p T τ f h1 h2 hp hg hf ht hy hv
    obtain ⟨f, rfl⟩ : ∃ k, f = k + 1 := ⟨f - 1, by omega⟩
    obtain ⟨c4, c2, c3, -, -⟩ := tC_le (B := B) hp
    have hm32 := mbits_lt T i hg.1
    rw [fX7_readTower_0]
    by_cases h4 : (tC B n p).1 = 4
    · have e : oc B n p 0 4 (mbits T i) = 1 := by unfold oc; rw [if_pos h4]
      have hF := YT_F hy h4
      rw [hF.1, if_neg (w_no hF.2.2), rowA_w (show (tC B n p).1 ≠ 2 by omega) (by rw [e]; decide), e]
      exact ⟨τ, rfl, FW_S (FW_rfl τ), rfl, fun _ _ => rfl, fun _ => ⟨τ, y_LEB N hF, FW_rfl τ, hF⟩, fun h => absurd (show 1 = 0 from h) (by decide)⟩
    · obtain ⟨y13, y15, y17, y18⟩ := hy.2.2 h4
      obtain ⟨v1, v2, v3⟩ := hv h4
      rw [y13, if_pos m_zero, y17]
      by_cases hs : (tC B n p).1 = 2
      · rw [if_neg (show ¬ nI (((tC B n p).1 + 1) % 4) = nI 2 by rw [hs]; decide), rowA_s hs]
        exact ⟨τ, rfl, FW_S (FW_rfl τ), rfl, fun _ _ => rfl, fun h => absurd rfl h, fun _ => ⟨hy, v1, v2, v3⟩⟩
      · by_cases h1' : (tC B n p).1 = 1
        · rw [if_pos (show nI (((tC B n p).1 + 1) % 4) = nI 2 by rw [h1']), v1]
          obtain ⟨o1, o2⟩ := y_other N hN hB ht (lo := 0) (hi := 4) (so := mbits T i) hp hy (by decide) (by decide) hm32 (Or.inr (by decide))
          by_cases h0 : oc B n p 0 4 (mbits T i) = 0
          · obtain ⟨τ1, k1, k2, k3⟩ := o2 h0
            obtain ⟨r1, r2, r3, r4⟩ := row_step hg h2 h0
            rw [k1, Option.bind_some, rowA_n hs h0]
            dsimp only
            by_cases h4' : (tC B n (tC B n p).2).1 = 4
            · rw [(k3.2.1 h4').1, if_neg (by decide), fX7_readTower_72]
              obtain ⟨τ2, q1, q2, q3, q4, q5, q6⟩ := ih (i + 1) (tC B n p).2 (fun j => if j = i then tV B n p else T j) τ1 f (by omega) (by omega) c2 (gR_step hg r3 r4) (by omega) (TY_eq k2 ht) k3 (fun h => absurd h4' h)
              exact ⟨τ2, q1, SF_tr (FW_S k2) q2, by rw [q3, k2.2.2 9 (by omega)], fun j hj => by rw [q4 j hj, k2.1], q5, q6⟩
            · obtain ⟨w13, -, -, -⟩ := k3.2.2 h4'
              have e24 : (zpf τ1 66 7 (τ1.1 66 7 ||| nI 1 <<< (nI (tV B n p) &&& 31))).2 56 (nI 24).toNatClampNeg = nI i := by rw [zpf_2, nI_clamp (by decide), k2.1]; exact v2
              rw [w13, if_pos m_zero, zlet_eq, zlen56, if_pos (by decide), zlet_eq, e24, nI_add, if_pos (m_zin (show 19 + i < 31 by omega) (by decide)), zlet_eq, if_pos (by decide), zlet_eq]
              have e24' : (zpa (zpf τ1 66 7 (τ1.1 66 7 ||| nI 1 <<< (nI (tV B n p) &&& 31))) 56 (upd ((zpf τ1 66 7 (τ1.1 66 7 ||| nI 1 <<< (nI (tV B n p) &&& 31))).2 56) (nI (19 + i)).toNatClampNeg (nI (tV B n p)))).2 56 (nI 24).toNatClampNeg = nI i := by rw [a56 _ (by omega), nI_clamp (by decide), if_neg (by omega), zpf_2, k2.1]; exact v2
              rw [e24', nI_add, if_pos (by decide), zlet_eq, fX7_readTower_72]
              generalize hτ13 : zpa (zpa (zpf τ1 66 7 (τ1.1 66 7 ||| nI 1 <<< (nI (tV B n p) &&& 31))) 56 (upd ((zpf τ1 66 7 (τ1.1 66 7 ||| nI 1 <<< (nI (tV B n p) &&& 31))).2 56) (nI (19 + i)).toNatClampNeg (nI (tV B n p)))) 56 (upd ((zpa (zpf τ1 66 7 (τ1.1 66 7 ||| nI 1 <<< (nI (tV B n p) &&& 31))) 56 (upd ((zpf τ1 66 7 (τ1.1 66 7 ||| nI 1 <<< (nI (tV B n p) &&& 31))).2 56) (nI (19 + i)).toNatClampNeg (nI (tV B n p)))).2 56) (nI 24).toNatClampNeg (nI (i + 1))) = τ13
              have S13 : SF 7 τ τ13 := by rw [← hτ13]; exact SF_tr (FW_S k2) (SF_tr (SF_f _ (Or.inl rfl) (by decide) _) (SF_tr (SF_a _ _) (SF_a _ _)))
              have s7 : τ13.1 66 7 = nI (mbits T i ||| 2 ^ tV B n p) := by rw [← hτ13, zpa_1, zpa_1, f66, if_pos rfl, k2.2.2 7 (by omega), v1, m_bit (by omega), m_or]
              have s66 : ∀ k, k ≠ 7 → τ13.1 66 k = τ1.1 66 k := fun k hk => by rw [← hτ13, zpa_1, zpa_1, f66, if_neg hk]
              have s56 : ∀ j, τ13.2 56 j = if j = 24 then nI (i + 1) else if j = 19 + i then nI (tV B n p) else τ.2 56 j := fun j => by rw [← hτ13, a56 _ (by decide), a56 _ (by omega), zpf_2, k2.1]
              obtain ⟨τ2, q1, q2, q3, q4, q5, q6⟩ := ih (i + 1) (tC B n p).2 (fun j => if j = i then tV B n p else T j) τ13 f (by omega) (by omega) c2 (gR_step hg r3 r4) (by omega) (SF_T (by decide) S13 ht) (YT_eq (fun k h1 _ => s66 k (by omega)) k3) (fun _ => ⟨by rw [s7, mbits_step], by rw [s56, if_pos rfl], fun j hj => by
                rw [s56, if_neg (by omega)]
                by_cases e : j = i
                · rw [if_pos (by omega)]; rw [if_pos e]
                · rw [if_neg (by omega)]; rw [if_neg e]; exact v3 j (by omega)⟩)
              exact ⟨τ2, q1, SF_tr S13 q2, by rw [q3, s66 9 (by decide), k2.2.2 9 (by omega)], fun j hj => by rw [q4 j hj, s56, if_neg (by omega), if_neg (by omega)], q5, q6⟩
          · obtain ⟨τ1, k1, k2, k3⟩ := o1 h0
            rw [k1, Option.bind_some, rowA_w hs h0]
            dsimp only
            obtain ⟨f, rfl⟩ : ∃ k, f = k + 1 := ⟨f - 1, by omega⟩
            rw [k3.1, if_neg (w_no k3.2.2), fX7_readTower_72, fX7_readTower_0, k3.1, if_neg (w_no k3.2.2)]
            exact ⟨τ1, rfl, FW_S k2, k2.2.2 9 (by omega), fun j _ => by rw [k2.1], fun _ => ⟨τ1, y_LEB N k3, FW_rfl τ1, k3⟩, fun h => absurd h h0⟩
        · have e : oc B n p 0 4 (mbits T i) = 2 := by unfold oc; rw [if_neg h4, if_pos h1']
          have es : sc B n p = 2 := by unfold sc; rw [if_neg h4, if_pos hs]
          rw [if_neg (show ¬ nI (((tC B n p).1 + 1) % 4) = nI 2 from fun h => by have := (nI_eq (by omega) (by decide)).mp h; omega), rowA_w hs (by rw [e]; decide), e]
          obtain ⟨τ1, k1, k2, k3⟩ := (y_LE N hN hB ht hp hy).1 (by rw [es]; decide)
          rw [es] at k3
          exact ⟨τ, rfl, FW_S (FW_rfl τ), rfl, fun _ _ => rfl, fun _ => ⟨τ1, k1, k2, k3⟩, fun h => absurd (show 2 = 0 from h) (by decide)⟩
theorem y_rowB (N : Nat) (hN : 4000 ≤ N) (hB : TB B n) : ∀ d i p : Nat, ∀ (T : Nat → Nat) (τ : zS) (f : Nat), i + d = 6 → i ≤ 5 → p ≤ n → gR T i → d + 1 < f → TY τ B n → YT τ B n p → ((tC B n p).1 ≠ 4 → τ.1 66 8 = nI (mbits T i) ∧ τ.1 66 9 = nI i ∧ ∀ j, j < 5 → τ.2 56 (25 + j) = nI (T j) - nI j) → ∃ τ' : zS, fX7_readBeds_0 N f τ = some τ' ∧ SF 8 τ τ' ∧ (∀ j, j < 25 ∨ 30 ≤ j → τ'.2 56 j = τ.2 56 j) ∧ ((rowA B n d p i T).1.1 ≠ 0 → ∃ τ'' : zS, LE N τ' = some τ'' ∧ FW τ' τ'' ∧ YF τ'' (rowA B n d p i T).1.1 (tS B n (rowA B n d p i T).1.2)) ∧ ((rowA B n d p i T).1.1 = 0 → YT τ' B n (rowA B n d p i T).1.2 ∧ τ'.1 66 8 = nI (mbits (rowA B n d p i T).2.2 (rowA B n d p i T).2.1) ∧ τ'.1 66 9 = nI (rowA B n d p i T).2.1 ∧ ∀ j, j < 5 → τ'.2 56 (25 + j) = nI ((rowA B n d p i T).2.2 j) - nI j) := by
  intro d
  induction d with
  | zero => intro i p T τ f h1 h2; omega
  | succ d ih =>
    intro i p T τ f h1 h2 hp hg hf ht hy hv
    obtain ⟨f, rfl⟩ : ∃ k, f = k + 1 := ⟨f - 1, by omega⟩
    obtain ⟨c4, c2, c3, -, -⟩ := tC_le (B := B) hp
    have hm32 := mbits_lt T i hg.1
    rw [fX7_readBeds_0]
    by_cases h4 : (tC B n p).1 = 4
    · have e : oc B n p 0 4 (mbits T i) = 1 := by unfold oc; rw [if_pos h4]
      have hF := YT_F hy h4
      rw [hF.1, if_neg (w_no hF.2.2), rowA_w (show (tC B n p).1 ≠ 2 by omega) (by rw [e]; decide), e]
      exact ⟨τ, rfl, FW_S (FW_rfl τ), fun _ _ => rfl, fun _ => ⟨τ, y_LEB N hF, FW_rfl τ, hF⟩, fun h => absurd (show 1 = 0 from h) (by decide)⟩
    · obtain ⟨y13, y15, y17, y18⟩ := hy.2.2 h4
      obtain ⟨v1, v2, v3⟩ := hv h4
      rw [y13, if_pos m_zero, y17]
      by_cases hs : (tC B n p).1 = 2
      · rw [if_neg (show ¬ nI (((tC B n p).1 + 1) % 4) = nI 2 by rw [hs]; decide), rowA_s hs]
        exact ⟨τ, rfl, FW_S (FW_rfl τ), fun _ _ => rfl, fun h => absurd rfl h, fun _ => ⟨hy, v1, v2, v3⟩⟩
      · by_cases h1' : (tC B n p).1 = 1
        · rw [if_pos (show nI (((tC B n p).1 + 1) % 4) = nI 2 by rw [h1']), v1]
          obtain ⟨o1, o2⟩ := y_other N hN hB ht (lo := 0) (hi := 4) (so := mbits T i) hp hy (by decide) (by decide) hm32 (Or.inr (by decide))
          by_cases h0 : oc B n p 0 4 (mbits T i) = 0
          · obtain ⟨τ1, k1, k2, k3⟩ := o2 h0
            obtain ⟨r1, r2, r3, r4⟩ := row_step hg h2 h0
            rw [k1, Option.bind_some, rowA_n hs h0]
            dsimp only
            by_cases h4' : (tC B n (tC B n p).2).1 = 4
            · rw [(k3.2.1 h4').1, if_neg (by decide), fX7_readBeds_73]
              obtain ⟨τ2, q1, q2, q4, q5, q6⟩ := ih (i + 1) (tC B n p).2 (fun j => if j = i then tV B n p else T j) τ1 f (by omega) (by omega) c2 (gR_step hg r3 r4) (by omega) (TY_eq k2 ht) k3 (fun h => absurd h4' h)
              exact ⟨τ2, q1, SF_tr (FW_S k2) q2, fun j hj => by rw [q4 j hj, k2.1], q5, q6⟩
            · obtain ⟨w13, -, -, -⟩ := k3.2.2 h4'
              have e9 : (zpf τ1 66 8 (τ1.1 66 8 ||| nI 1 <<< (nI (tV B n p) &&& 31))).1 66 9 = nI i := by rw [f66, if_neg (by decide), k2.2.2 9 (by omega)]; exact v2
              rw [w13, if_pos m_zero, zlet_eq, e9, nI_add, zlen56, if_pos (m_zin (show 25 + i < 31 by omega) (by decide)), zlet_eq, zlet_eq, zpa_1, e9, nI_add, fX7_readBeds_73]
              generalize hτ8 : zpf (zpa (zpf τ1 66 8 (τ1.1 66 8 ||| nI 1 <<< (nI (tV B n p) &&& 31))) 56 (upd ((zpf τ1 66 8 (τ1.1 66 8 ||| nI 1 <<< (nI (tV B n p) &&& 31))).2 56) (nI (25 + i)).toNatClampNeg (nI (tV B n p) - nI i))) 66 9 (nI (i + 1)) = τ8
              have S8 : SF 8 τ τ8 := by rw [← hτ8]; exact SF_tr (FW_S k2) (SF_tr (SF_f _ (Or.inl rfl) (by decide) _) (SF_tr (SF_a _ _) (SF_f _ (Or.inr rfl) (by decide) _)))
              have s8 : τ8.1 66 8 = nI (mbits T i ||| 2 ^ tV B n p) := by rw [← hτ8, f66, if_neg (by decide), zpa_1, f66, if_pos rfl, k2.2.2 8 (by omega), v1, m_bit (by omega), m_or]
              have s9 : τ8.1 66 9 = nI (i + 1) := by rw [← hτ8, f66, if_pos rfl]
              have s66 : ∀ k, k ≠ 8 → k ≠ 9 → τ8.1 66 k = τ1.1 66 k := fun k hk hk' => by rw [← hτ8, f66, if_neg hk', zpa_1, f66, if_neg hk]
              have s56 : ∀ j, τ8.2 56 j = if j = 25 + i then nI (tV B n p) - nI i else τ.2 56 j := fun j => by rw [← hτ8, zpf_2, a56 _ (by omega), zpf_2, k2.1]
              obtain ⟨τ2, q1, q2, q4, q5, q6⟩ := ih (i + 1) (tC B n p).2 (fun j => if j = i then tV B n p else T j) τ8 f (by omega) (by omega) c2 (gR_step hg r3 r4) (by omega) (SF_T (by decide) S8 ht) (YT_eq (fun k h1 _ => s66 k (by omega) (by omega)) k3) (fun _ => ⟨by rw [s8, mbits_step], s9, fun j hj => by
                rw [s56]
                by_cases e : j = i
                · rw [if_pos (by omega)]; rw [if_pos e, e]
                · rw [if_neg (by omega)]; rw [if_neg e]; exact v3 j (by omega)⟩)
              exact ⟨τ2, q1, SF_tr S8 q2, fun j hj => by rw [q4 j hj, s56, if_neg (by omega)], q5, q6⟩
          · obtain ⟨τ1, k1, k2, k3⟩ := o1 h0
            rw [k1, Option.bind_some, rowA_w hs h0]
            dsimp only
            obtain ⟨f, rfl⟩ : ∃ k, f = k + 1 := ⟨f - 1, by omega⟩
            rw [k3.1, if_neg (w_no k3.2.2), fX7_readBeds_73, fX7_readBeds_0, k3.1, if_neg (w_no k3.2.2)]
            exact ⟨τ1, rfl, FW_S k2, fun j _ => by rw [k2.1], fun _ => ⟨τ1, y_LEB N k3, FW_rfl τ1, k3⟩, fun h => absurd h h0⟩
        · have e : oc B n p 0 4 (mbits T i) = 2 := by unfold oc; rw [if_neg h4, if_pos h1']
          have es : sc B n p = 2 := by unfold sc; rw [if_neg h4, if_pos hs]
          rw [if_neg (show ¬ nI (((tC B n p).1 + 1) % 4) = nI 2 from fun h => by have := (nI_eq (by omega) (by decide)).mp h; omega), rowA_w hs (by rw [e]; decide), e]
          obtain ⟨τ1, k1, k2, k3⟩ := (y_LE N hN hB ht hp hy).1 (by rw [es]; decide)
          rw [es] at k3
          exact ⟨τ, rfl, FW_S (FW_rfl τ), fun _ _ => rfl, fun _ => ⟨τ1, k1, k2, k3⟩, fun h => absurd (show 2 = 0 from h) (by decide)⟩
end ROWS

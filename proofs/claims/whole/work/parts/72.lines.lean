/-! numbers, stops and what a line leaves behind -/
def XF (σ : zS) (w pl : Nat) : Prop := σ.1 50 9 = nI w ∧ σ.1 50 10 = nI pl ∧ 1 ≤ w ∧ w ≤ 8
def YF (τ : zS) (w pl : Nat) : Prop := τ.1 66 13 = nI w ∧ τ.1 66 14 = nI pl ∧ 1 ≤ w ∧ w ≤ 8
def YT (τ : zS) (B : Nat → Nat) (n p : Nat) : Prop := τ.1 66 16 = nI (tS B n p) ∧ ((tC B n p).1 = 4 → τ.1 66 13 = nI 1 ∧ τ.1 66 14 = nI (tS B n p)) ∧ ((tC B n p).1 ≠ 4 → τ.1 66 13 = nI 0 ∧ τ.1 66 15 = nI (tC B n p).2 ∧ τ.1 66 17 = nI (((tC B n p).1 + 1) % 4) ∧ ((tC B n p).1 = 1 → τ.1 66 18 = nI (tV B n p)))
theorem YT_eq {τ τ' : zS} {B : Nat → Nat} {n p : Nat} (h : ∀ k, 13 ≤ k → k < 19 → τ'.1 66 k = τ.1 66 k) (hy : YT τ B n p) : YT τ' B n p := by
  unfold YT at hy ⊢
  rw [h 13 (by decide) (by decide), h 14 (by decide) (by decide), h 15 (by decide) (by decide), h 16 (by decide) (by decide), h 17 (by decide) (by decide), h 18 (by decide) (by decide)]
  exact hy
theorem YF_eq {τ τ' : zS} {w pl : Nat} (h : ∀ k, 13 ≤ k → k < 19 → τ'.1 66 k = τ.1 66 k) (hy : YF τ w pl) : YF τ' w pl := by
  unfold YF at hy ⊢
  rw [h 13 (by decide) (by decide), h 14 (by decide) (by decide)]
  exact hy
theorem YT_F {τ : zS} {B : Nat → Nat} {n p : Nat} (hy : YT τ B n p) (h : (tC B n p).1 = 4) : YF τ 1 (tS B n p) := ⟨(hy.2.1 h).1, (hy.2.1 h).2, by decide, by decide⟩
def GX (σ σ' : zS) : Prop := (∀ q, q ≠ 43 → q ≠ 50 → σ'.1 q = σ.1 q) ∧ σ'.1 50 2 = σ.1 50 2 ∧ ∀ q, q < 6 ∨ 12 ≤ q → σ'.2 q = σ.2 q
theorem GX_tr {a b c : zS} (h1 : GX a b) (h2 : GX b c) : GX a c := ⟨fun q h h' => (h2.1 q h h').trans (h1.1 q h h'), h2.2.1.trans h1.2.1, fun q hq => (h2.2.2 q hq).trans (h1.2.2 q hq)⟩
theorem GX_rfl (σ : zS) : GX σ σ := ⟨fun _ _ _ => rfl, rfl, fun _ _ => rfl⟩
theorem FX_G {σ σ' : zS} (h : FX σ σ') : GX σ σ' := ⟨fun q _ h' => h.2.1 q h', h.2.2 2 (by omega), fun q _ => by rw [h.1]⟩
theorem GX_a (σ : zS) {r : Nat} (h1 : 6 ≤ r) (h2 : r < 12) (f : Nat → Int32) : GX σ (zpa σ r f) := ⟨fun q _ _ => by rw [zpa_1], by rw [zpa_1], fun q hq => by rw [zpa_2, if_neg (by omega)]⟩
theorem GX_43 (σ : zS) (k : Nat) (v : Int32) : GX σ (zpf σ 43 k v) := ⟨fun q h _ => by rw [zpf_1, if_neg h], by rw [zpf_1, if_neg (by decide)], fun q _ => by rw [zpf_2]⟩
theorem GX_50 (σ : zS) {k : Nat} (h : k ≠ 2) (v : Int32) : GX σ (zpf σ 50 k v) := ⟨fun q _ h' => by rw [zpf_1, if_neg h'], by rw [f50, if_neg (by omega)], fun q _ => by rw [zpf_2]⟩
theorem GX_T {σ σ' : zS} {B : Nat → Nat} {n : Nat} (h : GX σ σ') (ht : TX σ B n) : TX σ' B n := ⟨h.2.1.trans ht.1, by rw [h.2.2 24 (by decide)]; exact ht.2⟩
def GY (τ τ' : zS) : Prop := (∀ q, q ≠ 66 → τ'.1 q = τ.1 q) ∧ (∀ k, k < 4 ∨ (10 ≤ k ∧ k < 13) ∨ 19 ≤ k → τ'.1 66 k = τ.1 66 k) ∧ ∀ q, q ≠ 56 → τ'.2 q = τ.2 q
theorem GY_tr {a b c : zS} (h1 : GY a b) (h2 : GY b c) : GY a c := ⟨fun q hq => (h2.1 q hq).trans (h1.1 q hq), fun q hq => (h2.2.1 q hq).trans (h1.2.1 q hq), fun q hq => (h2.2.2 q hq).trans (h1.2.2 q hq)⟩
theorem GY_rfl (τ : zS) : GY τ τ := ⟨fun _ _ => rfl, fun _ _ => rfl, fun _ _ => rfl⟩
theorem FW_G {τ τ' : zS} (h : FW τ τ') : GY τ τ' := ⟨h.2.1, fun k hk => h.2.2 k (by omega), fun q _ => by rw [h.1]⟩
theorem GY_a (τ : zS) (f : Nat → Int32) : GY τ (zpa τ 56 f) := ⟨fun q _ => by rw [zpa_1], fun q _ => by rw [zpa_1], fun q hq => by rw [zpa_2, if_neg hq]⟩
theorem GY_f (τ : zS) {k : Nat} (h : 4 ≤ k ∧ k < 10) (v : Int32) : GY τ (zpf τ 66 k v) := ⟨fun q hq => by rw [zpf_1, if_neg hq], fun j hj => by rw [f66, if_neg (by omega)], fun q _ => by rw [zpf_2]⟩
theorem GY_T {τ τ' : zS} {B : Nat → Nat} {n : Nat} (h : GY τ τ') (ht : TY τ B n) : TY τ' B n := ⟨(h.2.1 11 (by omega)).trans ht.1, by rw [h.2.2 57 (by decide)]; exact ht.2⟩
theorem w_no {w : Nat} (h : 1 ≤ w ∧ w ≤ 8) : ¬ nI w = 0 := fun e => by have := (nI_eq (b := 0) (by omega) (by decide)).mp e; omega
theorem w_le {w : Nat} (h : 1 ≤ w ∧ w ≤ 8) : ¬ nI w ≤ 0 := fun e => by have := (nI_leI (b := 0) (by omega) (by decide)).mp e; omega
theorem y_stepB (N : Nat) {τ : zS} {w pl : Nat} (h : YF τ w pl) : fX7_step N τ = some τ := by
  unfold fX7_step
  rw [h.1, if_neg (w_le h.2.2)]
theorem y_75B (N : Nat) {τ : zS} {w pl : Nat} (h : YF τ w pl) (x1 : Int32) : fX7_other_75 N x1 τ = some (x1, τ) := by
  rw [fX7_other_75, h.1, if_neg (w_no h.2.2), fX7_other_90, y_stepB N h, Option.bind_some]
theorem y_47B (N : Nat) {τ : zS} {w pl : Nat} (h : YF τ w pl) (x1 x3 : Int32) : fX7_other_47 N x1 x3 τ = some (x1, τ) := by
  rw [fX7_other_47, h.1, if_neg (w_no h.2.2), y_75B N h]
theorem y_20B (N : Nat) {τ : zS} {w pl : Nat} (h : YF τ w pl) (x1 x2 x3 : Int32) : fX7_other_20 N x1 x2 x3 τ = some (x1, τ) := by
  rw [fX7_other_20, h.1, if_neg (w_no h.2.2), y_47B N h]
theorem y_otherB (N : Nat) {τ : zS} {w pl : Nat} (h : YF τ w pl) (x1 x2 x3 : Int32) : fX7_other N τ x1 x2 x3 = some (x1, τ) := by
  rw [fX7_other, h.1, if_neg (w_no h.2.2), y_20B N h]
def oc (B : Nat → Nat) (n p lo hi so : Nat) : Nat :=
  if (tC B n p).1 = 4 then 1 else if (tC B n p).1 ≠ 1 then 2 else if ¬ (lo ≤ tV B n p ∧ tV B n p ≤ hi) then 3 else if so ≠ 0 ∧ so.testBit (tV B n p) = true then 4 else 0
def sc (B : Nat → Nat) (n p : Nat) : Nat := if (tC B n p).1 = 4 then 1 else if (tC B n p).1 ≠ 2 then 2 else 0
theorem tV_le {B : Nat → Nat} {n p : Nat} (h : (tC B n p).1 = 1) : tV B n p ≤ 99 := by
  unfold tC at h
  split at h
  · exact absurd (show 3 = 1 from h) (by decide)
  · next h1 =>
    split at h
    · exact absurd (show 0 = 1 from h) (by decide)
    · next h2 =>
      split at h
      · next h3 =>
        by_cases h4 : run B 48 57 (n - tS B n p) (tS B n p) - tS B n p ≤ 2
        · have hC2 : (tC B n p).2 = run B 48 57 (n - tS B n p) (tS B n p) := by unfold tC; rw [if_neg h1, if_neg h2, if_pos h3]
          unfold tV
          rw [hC2]
          have hin := run_in B 48 57 (n - tS B n p) (tS B n p)
          rcases (show run B 48 57 (n - tS B n p) (tS B n p) - tS B n p = 0 ∨ run B 48 57 (n - tS B n p) (tS B n p) - tS B n p = 1 ∨ run B 48 57 (n - tS B n p) (tS B n p) - tS B n p = 2 by omega) with e | e | e
          · rw [e, spl]; omega
          · have a1 := hin (tS B n p) (Nat.le_refl _) (by omega)
            rw [e, spl, spl]; omega
          · have a1 := hin (tS B n p) (Nat.le_refl _) (by omega)
            have a2 := hin (tS B n p + 1) (by omega) (by omega)
            rw [e, spl, spl, spl]; omega
        · exfalso
          have h : (if run B 48 57 (n - tS B n p) (tS B n p) - tS B n p ≤ 2 then 1 else 4) = 1 := h
          rw [if_neg h4] at h
          exact absurd h (by decide)
      · split at h
        · exact absurd (show 2 = 1 from h) (by decide)
        · exact absurd (show 4 = 1 from h) (by decide)
section NUM
variable {B : Nat → Nat} {n : Nat}
theorem y_other (N : Nat) (hN : 4000 ≤ N) (hB : TB B n) {τ : zS} (ht : TY τ B n) {p lo hi so : Nat} (hp : p ≤ n) (hy : YT τ B n p) (hlo : lo ≤ 99) (hhi : hi ≤ 99) (hso : so < 32) (hs4 : so = 0 ∨ hi ≤ 4) : (oc B n p lo hi so ≠ 0 → ∃ τ' : zS, fX7_other N τ (nI lo) (nI hi) (nI so) = some (nI lo, τ') ∧ FW τ τ' ∧ YF τ' (oc B n p lo hi so) (tS B n p)) ∧ (oc B n p lo hi so = 0 → ∃ τ' : zS, fX7_other N τ (nI lo) (nI hi) (nI so) = some (nI (tV B n p), τ') ∧ FW τ τ' ∧ YT τ' B n (tC B n p).2) := by
  obtain ⟨c4, c2, -, -, -⟩ := tC_le (B := B) hp
  by_cases h4 : (tC B n p).1 = 4
  · have e : oc B n p lo hi so = 1 := by unfold oc; rw [if_pos h4]
    rw [e]
    exact ⟨fun _ => ⟨τ, y_otherB N (YT_F hy h4) _ _ _, FW_rfl τ, YT_F hy h4⟩, fun h => absurd h (by decide)⟩
  · obtain ⟨y13, y15, y17, y18⟩ := hy.2.2 h4
    by_cases h1 : (tC B n p).1 = 1
    · have hv := tV_le h1
      have y18 := y18 h1
      rw [h1] at y17
      have y17 : τ.1 66 17 = nI 2 := y17
      have ein : fX7_in N (nI (tV B n p)).toInt64 (nI lo).toInt64 (nI hi).toInt64 = some (if lo ≤ tV B n p ∧ tV B n p ≤ hi then 1 else 0) := by
        rw [nI_l (n := lo) (by omega), nI_l (n := hi) (by omega)]
        exact y_wn N (by omega) (by omega) (by omega)
      rw [fX7_other, y13, if_pos m_zero, y17, if_pos rfl, fX7_other_20, y13, if_pos m_zero, y18, ein, Option.bind_some]
      by_cases h3 : lo ≤ tV B n p ∧ tV B n p ≤ hi
      · rw [if_pos h3, if_neg z10, fX7_other_47, y13, if_pos m_zero, y18]
        have fin : ∃ τ' : zS, fX7_other_75 N (nI lo) τ = some (nI (tV B n p), τ') ∧ FW τ τ' ∧ YT τ' B n (tC B n p).2 := by
          obtain ⟨τ', k1, k2, k3⟩ := y_tok N hN hB ht (p := (tC B n p).2) c2 y15 y13
          rw [fX7_other_75, y13, if_pos m_zero, y18, fX7_other_90, k1, Option.bind_some]
          exact ⟨τ', rfl, k2, k3⟩
        by_cases h0 : so = 0
        · have e : oc B n p lo hi so = 0 := by unfold oc; rw [if_neg h4, if_neg (fun h => h h1), if_neg (fun h => h h3), if_neg (fun h => h.1 h0)]
          rw [e, h0, if_pos m_zero]
          exact ⟨fun h => absurd rfl h, fun _ => fin⟩
        · rw [if_neg (show ¬ nI so = 0 from fun h => h0 ((nI_eq (b := 0) (by omega) (by decide)).mp h))]
          by_cases hb : so.testBit (tV B n p) = true
          · have e : oc B n p lo hi so = 4 := by unfold oc; rw [if_neg h4, if_neg (fun h => h h1), if_neg (fun h => h h3), if_pos ⟨h0, hb⟩]
            obtain ⟨τ', k1, k2, k3, k4, k5⟩ := y_fails N y13 (nI 4)
            have hF : YF τ' 4 (tS B n p) := ⟨k3, by rw [k4]; exact hy.1, by decide, by decide⟩
            rw [e, if_pos ((m_tst1 (by omega) (by omega)).mpr hb), k1, Option.bind_some, y_75B N hF]
            exact ⟨fun _ => ⟨τ', rfl, k2, hF⟩, fun h => absurd h (by decide)⟩
          · have e : oc B n p lo hi so = 0 := by unfold oc; rw [if_neg h4, if_neg (fun h => h h1), if_neg (fun h => h h3), if_neg (fun h => hb h.2)]
            rw [e, if_neg (fun h => hb ((m_tst1 (by omega) (by omega)).mp h))]
            exact ⟨fun h => absurd rfl h, fun _ => fin⟩
      · have e : oc B n p lo hi so = 3 := by unfold oc; rw [if_neg h4, if_neg (fun h => h h1), if_pos h3]
        obtain ⟨τ', k1, k2, k3, k4, k5⟩ := y_fails N y13 (nI 3)
        have hF : YF τ' 3 (tS B n p) := ⟨k3, by rw [k4]; exact hy.1, by decide, by decide⟩
        rw [e, if_neg h3, if_pos rfl, k1, Option.bind_some, y_47B N hF]
        exact ⟨fun _ => ⟨τ', rfl, k2, hF⟩, fun h => absurd h (by decide)⟩
    · have e : oc B n p lo hi so = 2 := by unfold oc; rw [if_neg h4, if_pos h1]
      obtain ⟨τ', k1, k2, k3, k4, k5⟩ := y_fails N y13 (nI 2)
      have hF : YF τ' 2 (tS B n p) := ⟨k3, by rw [k4]; exact hy.1, by decide, by decide⟩
      rw [e, fX7_other, y13, if_pos m_zero, y17, if_neg (show ¬ nI (((tC B n p).1 + 1) % 4) = nI 2 from fun h => by have := (nI_eq (by omega) (by decide)).mp h; omega), k1, Option.bind_some, y_20B N hF]
      exact ⟨fun _ => ⟨τ', rfl, k2, hF⟩, fun h => absurd h (by decide)⟩
theorem x_refuse (N : Nat) (σ : zS) {w pl : Nat} (hw : 1 ≤ w ∧ w ≤ 8) : ∃ σ' : zS, fX4_refuse N σ (nI w) (nI pl) = some (0, σ') ∧ FX σ σ' ∧ XF σ' w pl := by
  unfold fX4_refuse
  rw [zlet_eq, zlet_eq]
  exact ⟨_, rfl, FX_tr (FX_f _ (by decide) _) (FX_f _ (by decide) _), by rw [f50, if_neg (by decide), f50, if_pos rfl], by rw [f50, if_pos rfl], hw⟩
/-- what a number asked for between two bounds comes to, behind its token -/
theorem x_nw (N : Nat) {σ : zS} {p lo hi : Nat} (hlo : lo ≤ 99) (hhi : hi ≤ 99) (h4 : (tC B n p).1 ≠ 4) (hc : (tC B n p).1 ≤ 4) (e5 : σ.1 50 5 = nI (tS B n p)) (e4 : σ.1 50 4 = nI (tC B n p).1) (e6 : (tC B n p).1 = 1 → σ.1 50 6 = nI (tV B n p)) : (oc B n p lo hi 0 ≠ 0 → ∃ σ' : zS, fX4_numberWithin N σ (nI lo) (nI hi) = some (0, σ') ∧ FX σ σ' ∧ XF σ' (oc B n p lo hi 0) (tS B n p)) ∧ (oc B n p lo hi 0 = 0 → (tC B n p).1 = 1 ∧ lo ≤ tV B n p ∧ tV B n p ≤ hi ∧ fX4_numberWithin N σ (nI lo) (nI hi) = some (1, σ)) := by
  unfold fX4_numberWithin
  rw [e4, e5]
  by_cases h1 : (tC B n p).1 = 1
  · have hv := tV_le h1
    rw [h1, if_pos rfl, e6 h1, x_wn N (by omega) (by omega) (by omega), Option.bind_some]
    by_cases h3 : lo ≤ tV B n p ∧ tV B n p ≤ hi
    · have e : oc B n p lo hi 0 = 0 := by unfold oc; rw [if_neg h4, if_neg (fun h => h h1), if_neg (fun h => h h3), if_neg (fun h => h.1 rfl)]
      rw [e, if_pos h3, if_neg z10, fX4_numberWithin_42]
      exact ⟨fun h => absurd rfl h, fun _ => ⟨rfl, h3.1, h3.2, rfl⟩⟩
    · have e : oc B n p lo hi 0 = 3 := by unfold oc; rw [if_neg h4, if_neg (fun h => h h1), if_pos h3]
      obtain ⟨σ', k1, k2, k3⟩ := x_refuse N σ (w := 3) (pl := tS B n p) (by decide)
      rw [e, if_neg h3, if_pos rfl, k1, Option.bind_some]
      exact ⟨fun _ => ⟨σ', by dsimp only; rw [if_pos rfl], k2, k3⟩, fun h => absurd h (by decide)⟩
  · have e : oc B n p lo hi 0 = 2 := by unfold oc; rw [if_neg h4, if_pos h1]
    obtain ⟨σ', k1, k2, k3⟩ := x_refuse N σ (w := 2) (pl := tS B n p) (by decide)
    rw [e, if_neg (fun h => h1 ((nI_eq (by omega) (by decide)).mp h)), k1, Option.bind_some]
    exact ⟨fun _ => ⟨σ', by dsimp only; rw [if_pos (Or.inl rfl)], k2, k3⟩, fun h => absurd h (by decide)⟩
theorem x_number (N : Nat) (hN : 4000 ≤ N) (hB : TB B n) {σ : zS} (ht : TX σ B n) {p lo hi : Nat} (hp : p ≤ n) (h3 : σ.1 50 3 = nI p) (h9 : σ.1 50 9 = nI 0) (hlo : lo ≤ 99) (hhi : hi ≤ 99) : (oc B n p lo hi 0 ≠ 0 → ∃ σ' : zS, fX4_takeNumber N σ (nI lo) (nI hi) = some (0, σ') ∧ FX σ σ' ∧ XF σ' (oc B n p lo hi 0) (tS B n p)) ∧ (oc B n p lo hi 0 = 0 → ∃ σ' : zS, fX4_takeNumber N σ (nI lo) (nI hi) = some (1, σ') ∧ FX σ σ' ∧ lo ≤ tV B n p ∧ tV B n p ≤ hi ∧ σ'.1 50 6 = nI (tV B n p) ∧ σ'.1 50 3 = nI (tC B n p).2 ∧ σ'.1 50 9 = nI 0) := by
  obtain ⟨c4, c2, -, -, -⟩ := tC_le (B := B) hp
  obtain ⟨σ1, k1, k2, k3, k4, k5⟩ := x_tok N hN hB ht hp h3
  unfold fX4_takeNumber
  rw [k1, Option.bind_some]
  by_cases h4 : (tC B n p).1 = 4
  · have e : oc B n p lo hi 0 = 1 := by unfold oc; rw [if_pos h4]
    rw [e, if_pos h4]
    exact ⟨fun _ => ⟨σ1, by dsimp only; rw [if_pos rfl], k2, (k4 h4).1, (k4 h4).2, by decide, by decide⟩, fun h => absurd h (by decide)⟩
  · obtain ⟨l1, l2, l3, l4⟩ := k5 h4
    obtain ⟨m1, m2⟩ := x_nw N (B := B) (n := n) (p := p) (σ := σ1) hlo hhi h4 c4 k3 l3 l4
    rw [if_neg h4]
    dsimp only
    rw [if_neg z10]
    refine ⟨fun h => ?_, fun h => ?_⟩
    · obtain ⟨σ', n1, n2, n3⟩ := m1 h
      rw [n1, Option.bind_some]
      exact ⟨σ', by dsimp only; rw [if_pos rfl], FX_tr k2 n2, n3⟩
    · obtain ⟨n0, n1, n2, n3⟩ := m2 h
      rw [n3, Option.bind_some]
      exact ⟨σ1, by dsimp only; rw [if_neg z10], k2, n1, n2, l4 n0, l2, l1.trans h9⟩
theorem x_stop (N : Nat) (hN : 4000 ≤ N) (hB : TB B n) {σ : zS} (ht : TX σ B n) {p : Nat} (hp : p ≤ n) (h3 : σ.1 50 3 = nI p) (h9 : σ.1 50 9 = nI 0) : (sc B n p ≠ 0 → ∃ σ' : zS, fX4_takeStop N σ = some (0, σ') ∧ FX σ σ' ∧ XF σ' (sc B n p) (tS B n p)) ∧ (sc B n p = 0 → ∃ σ' : zS, fX4_takeStop N σ = some (1, σ') ∧ FX σ σ' ∧ σ'.1 50 3 = nI (tC B n p).2 ∧ σ'.1 50 9 = nI 0) := by
  obtain ⟨c4, c2, -, -, -⟩ := tC_le (B := B) hp
  obtain ⟨σ1, k1, k2, k3, k4, k5⟩ := x_tok N hN hB ht hp h3
  unfold fX4_takeStop
  rw [k1, Option.bind_some]
  by_cases h4 : (tC B n p).1 = 4
  · have e : sc B n p = 1 := by unfold sc; rw [if_pos h4]
    rw [e, if_pos h4]
    exact ⟨fun _ => ⟨σ1, by dsimp only; rw [if_pos rfl], k2, (k4 h4).1, (k4 h4).2, by decide, by decide⟩, fun h => absurd h (by decide)⟩
  · obtain ⟨l1, l2, l3, l4⟩ := k5 h4
    rw [if_neg h4]
    dsimp only
    rw [if_neg z10, l3, k3]
    by_cases h2 : (tC B n p).1 = 2
    · have e : sc B n p = 0 := by unfold sc; rw [if_neg h4, if_neg (fun h => h h2)]
      rw [e, if_pos (show nI (tC B n p).1 = nI 2 by rw [h2]), fX4_takeStop_27]
      exact ⟨fun h => absurd rfl h, fun _ => ⟨σ1, rfl, k2, l2, l1.trans h9⟩⟩
    · have e : sc B n p = 2 := by unfold sc; rw [if_neg h4, if_pos h2]
      obtain ⟨σ', m1, m2, m3⟩ := x_refuse N σ1 (w := 2) (pl := tS B n p) (by decide)
      rw [e, if_neg (fun h => h2 ((nI_eq (by omega) (by decide)).mp h)), m1, Option.bind_some]
      exact ⟨fun _ => ⟨σ', by dsimp only; rw [if_pos rfl], FX_tr k2 m2, m3⟩, fun h => absurd h (by decide)⟩
def LE (N : Nat) (q4 : zS) : Option zS :=
  if (q4.1 66 13) = 0 then
    if (q4.1 66 17) = (nI 3) then
      (fX7_readLine_125 N) q4
    else
      (fX7_fails N q4 (nI 2)).bind fun q7 =>
      (fX7_readLine_125 N) q7
  else
    (fX7_readLine_125 N) q4
theorem y_LEB (N : Nat) {τ : zS} {w pl : Nat} (h : YF τ w pl) : LE N τ = some τ := by
  unfold LE
  rw [h.1, if_neg (w_no h.2.2), fX7_readLine_125, y_stepB N h, Option.bind_some]
theorem y_LE (N : Nat) (hN : 4000 ≤ N) (hB : TB B n) {τ : zS} (ht : TY τ B n) {p : Nat} (hp : p ≤ n) (hy : YT τ B n p) : (sc B n p ≠ 0 → ∃ τ' : zS, LE N τ = some τ' ∧ FW τ τ' ∧ YF τ' (sc B n p) (tS B n p)) ∧ (sc B n p = 0 → ∃ τ' : zS, LE N τ = some τ' ∧ FW τ τ' ∧ YT τ' B n (tC B n p).2) := by
  obtain ⟨c4, c2, -, -, -⟩ := tC_le (B := B) hp
  by_cases h4 : (tC B n p).1 = 4
  · have e : sc B n p = 1 := by unfold sc; rw [if_pos h4]
    rw [e]
    exact ⟨fun _ => ⟨τ, y_LEB N (YT_F hy h4), FW_rfl τ, YT_F hy h4⟩, fun h => absurd h (by decide)⟩
  · obtain ⟨y13, y15, y17, -⟩ := hy.2.2 h4
    unfold LE
    rw [y13, if_pos m_zero, y17]
    by_cases h2 : (tC B n p).1 = 2
    · have e : sc B n p = 0 := by unfold sc; rw [if_neg h4, if_neg (fun h => h h2)]
      obtain ⟨τ', k1, k2, k3⟩ := y_tok N hN hB ht (p := (tC B n p).2) c2 y15 y13
      rw [e, if_pos (show nI (((tC B n p).1 + 1) % 4) = nI 3 by rw [h2]), fX7_readLine_125, k1, Option.bind_some]
      exact ⟨fun h => absurd rfl h, fun _ => ⟨τ', rfl, k2, k3⟩⟩
    · have e : sc B n p = 2 := by unfold sc; rw [if_neg h4, if_pos h2]
      obtain ⟨τ', k1, k2, k3, k4, k5⟩ := y_fails N y13 (nI 2)
      have hF : YF τ' 2 (tS B n p) := ⟨k3, by rw [k4]; exact hy.1, by decide, by decide⟩
      rw [e, if_neg (show ¬ nI (((tC B n p).1 + 1) % 4) = nI 3 from fun h => by have := (nI_eq (by omega) (by decide)).mp h; omega), k1, Option.bind_some, fX7_readLine_125, y_stepB N hF, Option.bind_some]
      exact ⟨fun _ => ⟨τ', rfl, k2, hF⟩, fun h => absurd h (by decide)⟩
end NUM

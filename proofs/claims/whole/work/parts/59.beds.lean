/-! the beds that hurt most -/
theorem ords_spec {n : Nat} (hn : n ≤ 5) : chainB n (ordsF n (5 ^ n) 0) = true ∧ (ordsF n (5 ^ n) 0).length = mfact n ∧ (∀ j, j < n → dig n ((ordsF n (5 ^ n) 0).headD 0) j = j) ∧ ∀ c, c ∈ ordsF n (5 ^ n) 0 → (∀ j, j < n → dig n c j < n) ∧ c < 3125 := by
  have h := ords_all n (by omega)
  rw [Bool.and_eq_true, Bool.and_eq_true, Bool.and_eq_true, List.all_eq_true, List.all_eq_true, beq_iff_eq] at h
  obtain ⟨⟨⟨h1, h2⟩, h3⟩, h4⟩ := h
  refine ⟨h1, h2, fun j hj => beq_iff_eq.mp (h3 j (List.mem_range.mpr hj)), fun c hc => ?_⟩
  have := h4 c hc
  rw [Bool.and_eq_true, List.all_eq_true, decide_eq_true_eq] at this
  exact ⟨fun j hj => of_decide_eq_true (this.1 j (List.mem_range.mpr hj)), this.2⟩
def FR (σ σ' : zS) : Prop := (∀ q, q ≠ 53 → σ'.1 q = σ.1 q) ∧ ∀ q, q < 30 ∨ 34 ≤ q → σ'.2 q = σ.2 q
theorem FR_rfl (σ : zS) : FR σ σ := ⟨fun _ _ => rfl, fun _ _ => rfl⟩
theorem FR_tr {a b c : zS} (h1 : FR a b) (h2 : FR b c) : FR a c := ⟨fun q hq => (h2.1 q hq).trans (h1.1 q hq), fun q hq => (h2.2 q hq).trans (h1.2 q hq)⟩
theorem FR_X {σ σ' : zS} {β : mB} (h : FR σ σ') (hX : BX σ 42 β) : BX σ' 42 β := BX_eq (h.1 42 (by decide)) (fun k hk => h.2 _ (by unfold zba; omega)) hX
theorem FR_rel {σ σ' τ : zS} (h : FR σ σ') (hr : Rel σ τ) : Rel σ' τ := by
  obtain ⟨β, ⟨hO, hX, hM, n1, n2⟩, hrest⟩ := hr
  exact Rel_band (β' := β) hrest ⟨hO, FR_X h hX, hM, n1, n2⟩ rfl rfl (fun q _ _ h3 => h.1 q h3) (fun q _ h2 => h.2 q (by omega)) (fun _ _ => rfl) (fun _ _ _ => rfl) (fun _ _ _ => rfl)
theorem FR_30 {σ σ' : zS} (h1 : σ'.1 = σ.1) (h2 : ∀ q, q ≠ 30 → σ'.2 q = σ.2 q) : FR σ σ' := ⟨fun q _ => by rw [h1], fun q hq => h2 q (by omega)⟩
def RWH (σ : zS) (n : Nat) : List Nat → Prop
  | [] => True
  | c :: _ => RW σ (fun i => dig n c i) n
theorem x_next (N : Nat) (hN : 4000 ≤ N) {σ : zS} {n c : Nat} {t : List Nat} (hn : n ≤ 5) (hc : chainB n (c :: t) = true) (h : RW σ (fun i => dig n c i) n) : ∃ σ' : zS, fX1_stepOn N σ (nI n) = some σ' ∧ RWH σ' n t ∧ chainB n t = true ∧ σ'.1 = σ.1 ∧ ∀ q, q ≠ 30 → σ'.2 q = σ.2 q := by
  obtain ⟨σ', e1, e2, e3, e4⟩ := x_stepOn N hN hn h (fun k _ => dig_lt n c k)
  cases t with
  | nil => exact ⟨σ', e1, trivial, rfl, e3, e4⟩
  | cons c' t' =>
    have hc' : ((List.range n).all (fun j => mstep n (fun i => dig n c i) j == dig n c' j) && chainB n (c' :: t')) = true := hc
    rw [Bool.and_eq_true, List.all_eq_true] at hc'
    have h1 := hc'.1
    refine ⟨σ', e1, ?_, hc'.2, e3, e4⟩
    intro k hk
    rw [e2 k hk]
    exact congrArg nI (beq_iff_eq.mp (h1 k (List.mem_range.mpr hk)))
def bfold (H : Nat → Nat) : List Nat → Int32 × Nat → Int32 × Nat
  | [], a => a
  | c :: t, a => bfold H t (if nI (H c) ≤ a.1 then a else (nI (H c), c))
def FO (σ : zS) (n : Nat) (a : Int32 × Nat) : Prop := a.1 = -1 ∨ ∀ j, j < n → σ.2 31 j = nI (dig n a.2 j)
def mH (β : mB) (c : Nat) : Nat := mhurt β (fun i => dig (β.1 0) c i) (mmet β (fun i => dig (β.1 0) c i) (β.1 0) 0)
theorem x_worst_loop (N : Nat) (hN : 4000 ≤ N) {β : mB} (hO : BOk β) {tot : Nat} (htot : tot ≤ 1000) : ∀ (l : List Nat) (i m : Nat) (σ : zS) (a : Int32 × Nat), i + l.length = tot → l.length < m → chainB (β.1 0) l = true → (∀ c, c ∈ l → ∀ j, j < β.1 0 → dig (β.1 0) c j < β.1 0) → BX σ 42 β → RWH σ (β.1 0) l → σ.1 53 5 = a.1 → FO σ (β.1 0) a → ∃ σ' : zS, fX1_seekWorst_22 N m 42 (nI tot) (nI i) σ = some σ' ∧ FR σ σ' ∧ σ'.1 53 5 = (bfold (mH β) l a).1 ∧ FO σ' (β.1 0) (bfold (mH β) l a) := by
  have b0 := hO.1
  intro l
  induction l with
  | nil =>
    intro i m σ a hi hm _ _ hX _ h5 hf
    obtain ⟨m, rfl⟩ : ∃ k, m = k + 1 := ⟨m - 1, by omega⟩
    refine ⟨σ, ?_, FR_rfl σ, h5, hf⟩
    rw [fX1_seekWorst_22, if_pos ((nI_leI (by omega) (by simp at hi; omega)).mpr (by simp at hi; omega))]
  | cons c t ih =>
    intro i m σ a hi hm hch hd hX hrw h5 hf
    have hi' : i + (t.length + 1) = tot := hi
    have hm' : t.length + 1 < m := hm
    obtain ⟨m, rfl⟩ : ∃ k, m = k + 1 := ⟨m - 1, by omega⟩
    have hdc := hd c (List.mem_cons_self ..)
    have hrw : RW σ (fun i => dig (β.1 0) c i) (β.1 0) := hrw
    have hT : ∀ i, i < β.1 0 → σ.2 30 i = nI (dig (β.1 0) c i) ∧ dig (β.1 0) c i < β.1 0 := fun i hi => ⟨hrw i hi, hdc i hi⟩
    have hmet := x_metOn N hN (by decide) (by decide) hO hX (row := 30) (T := fun i => dig (β.1 0) c i) (show β.1 0 ≤ 5 by omega) (by decide) hT
    have hml := mmet_le β (fun i => dig (β.1 0) c i) (β.1 0) 0
    have hhb := x_hurtBehind N hN (b := 42) (by decide) (by decide) hO hX (row := 30) (T := fun i => dig (β.1 0) c i) (sz := mmet β (fun i => dig (β.1 0) c i) (β.1 0) 0) (show _ ≤ 5 by omega) (by decide) (fun i hi => hT i (by omega))
    have key : ∀ (σ2 : zS) (a2 : Int32 × Nat), FR σ σ2 → σ2.2 30 = σ.2 30 → σ2.1 53 5 = a2.1 → FO σ2 (β.1 0) a2 → ∃ σ' : zS, fX1_seekWorst_74 N (fX1_seekWorst_22 N m) 42 (nI tot) (nI i) σ2 = some σ' ∧ FR σ σ' ∧ σ'.1 53 5 = (bfold (mH β) t a2).1 ∧ FO σ' (β.1 0) (bfold (mH β) t a2) := by
      intro σ2 a2 hfr h30 h5' hf'
      obtain ⟨σ3, e1, e2, e3, e4, e5⟩ := x_next N hN (by omega) hch (σ := σ2) (fun k hk => by rw [h30]; exact hrw k hk)
      obtain ⟨σ4, g1, g2, g3, g4⟩ := ih (i + 1) m σ3 a2 (by omega) (by omega) e3 (fun c' hc' => hd c' (List.mem_cons_of_mem _ hc')) (FR_X (FR_tr hfr (FR_30 e4 e5)) hX) e2 (by rw [e4]; exact h5') (hf'.imp id (fun h j hj => by rw [e5 31 (by decide)]; exact h j hj))
      refine ⟨σ4, ?_, FR_tr hfr (FR_tr (FR_30 e4 e5) g2), g3, g4⟩
      rw [fX1_seekWorst_74, show σ2.1 42 6 = nI (β.1 0) from (FR_X hfr hX).1, e1, Option.bind_some, nI_add]
      exact g1
    rw [fX1_seekWorst_22, if_neg (fun h => by have := (nI_leI (by omega) (by omega)).mp h; omega), hmet, Option.bind_some, hhb, Option.bind_some, h5, bfold]
    by_cases c1 : nI (mH β c) ≤ a.1
    · rw [if_pos c1, if_pos (show nI (mhurt β (fun i => dig (β.1 0) c i) (mmet β (fun i => dig (β.1 0) c i) (β.1 0) 0)) ≤ a.1 from c1)]
      exact key σ a (FR_rfl σ) rfl h5 hf
    · rw [if_neg c1, if_neg (show ¬ nI (mhurt β (fun i => dig (β.1 0) c i) (mmet β (fun i => dig (β.1 0) c i) (β.1 0) 0)) ≤ a.1 from c1), zlet_eq, if_pos (z_cond (n := 5) (a := zlen 30) (b := zlen 31) (by decide) (by decide) (by decide)), zlet_eq]
      refine key _ (nI (mH β c), c) ⟨fun q hq => by rw [zpa_1, zpf_1, if_neg hq], fun q hq => by rw [zpa_2, if_neg (by omega)]; rfl⟩ rfl rfl (Or.inr (fun j hj => ?_))
      rw [zpa_at, x_cpy (by decide), if_pos (by omega)]
      exact hrw j hj
/-! the model's -/
theorem mrowL_lt (n m c : Nat) : ∀ d i s : Nat, s < 32 → mrowL n m c d i s < 32
  | 0, _, s, h => h
  | d + 1, i, s, h => by
    rw [mrowL]
    split
    · split
      · decide
      · exact mrowL_lt n m c d _ _ (Nat.or_lt_two_pow (n := 5) h (Nat.pow_lt_pow_right (by decide) (dig_lt m c i)))
    · decide
theorem y_isOrder (N : Nat) (hN : 4000 ≤ N) {τ : zS} {n c : Nat} (n1 : τ.1 66 1 = nI n) (hn : n ≤ 5) (hc : c < 2 ^ 31) : fX7_isOrder N τ (nI c) = some (if isO n c = true then 1 else 0) := by
  unfold fX7_isOrder fX7_isOrder_27 isO
  rw [n1]
  by_cases h0 : n = 0
  · subst h0
    rw [if_pos m_zero, if_pos (by simp)]
  · have hp : (2 : Nat) ^ n ≤ 2 ^ 5 := Nat.pow_le_pow_right (by decide) hn
    have hp1 : 1 ≤ (2 : Nat) ^ n := Nat.one_le_two_pow
    have hr : mrow n n c < 32 := mrowL_lt n n c n 0 0 (by decide)
    rw [if_neg (show ¬ nI n = 0 from fun h => h0 ((nI_eq (a := n) (b := 0) (by omega) (by decide)).mp h)), y_rowOf N hN n1 hn hn hc, Option.bind_some, m_bit (by omega), m_sub hp1]
    by_cases h1 : mrow n n c = 2 ^ n - 1
    · rw [if_pos (by rw [h1]), if_pos (by simp [h1])]
    · rw [if_neg (fun h => h1 ((nI_eq (by omega) (by omega)).mp h)), if_neg (by simp [h0, h1])]
theorem y_hurtC_loop (N : Nat) (hN : 4000 ≤ N) {β : mB} (hO : BOk β) {c : Nat} (hc : c < 2 ^ 31) (hd : ∀ j, j < β.1 0 → dig (β.1 0) c j < β.1 0) : ∀ d i : Nat, i + d = β.1 0 → ∀ (m : Nat) (τ : zS), d < m → BM τ 0 β → τ.1 66 1 = nI (β.1 0) → τ.1 66 26 = nI i → ∃ τ' : zS, fX7_hurtBy_7 N m (nI c) (nI (mhurt β (fun i => dig (β.1 0) c i) i)) τ = some (nI (mhurt β (fun i => dig (β.1 0) c i) (mmet β (fun i => dig (β.1 0) c i) d i)), τ') ∧ τ'.2 = τ.2 ∧ ∀ k, k ≠ 26 → τ'.1 66 k = τ.1 66 k := by
  have b0 := hO.1
  have b3 := hO.2.2.2.1
  intro d
  induction d with
  | zero =>
    intro i hi m τ hm hM n1 n26
    obtain ⟨m, rfl⟩ : ∃ k, m = k + 1 := ⟨m - 1, by omega⟩
    refine ⟨τ, ?_, rfl, fun k _ => rfl⟩
    rw [fX7_hurtBy_7, n1, n26, if_pos ((nI_leI (by omega) (by omega)).mpr (by omega))]
    rfl
  | succ d ih =>
    intro i hi m τ hm hM n1 n26
    obtain ⟨m, rfl⟩ : ∃ k, m = k + 1 := ⟨m - 1, by omega⟩
    have hh := mhurt_le hO i (T := fun i => dig (β.1 0) c i) (fun j hj => hd j (by omega))
    rw [fX7_hurtBy_7, n1, n26, if_neg (fun h => by have := (nI_leI (by omega) (by omega)).mp h; omega), if_pos z30, zlet_eq, y_at30 hM, Int32.sub_add_cancel, mmet]
    by_cases hc' : β.1 3 < mhurt β (fun i => dig (β.1 0) c i) i
    · rw [if_pos ((nI_ltI (by omega) (by omega)).mpr hc'), if_pos hc']
      exact ⟨τ, rfl, rfl, fun k _ => rfl⟩
    · rw [if_neg (fun h => hc' ((nI_ltI (by omega) (by omega)).mp h)), if_neg hc', if_neg (m_neg_lt hc _ (by decide)), y_figure N hN hc (by omega) (by omega), Option.bind_some, fX7_hurtBy_62, y_hurts N hO hM (hd i (by omega)), Option.bind_some, zlet_eq, n26, nI_add, nI_add]
      obtain ⟨τ', h1, h2, h4⟩ := ih (i + 1) (by omega) m (zpf τ 66 26 (nI (i + 1))) (by omega) (BM_eq hO (fun _ _ _ => rfl) hM) n1 rfl
      exact ⟨τ', h1, h2, fun k hk => by rw [h4 k hk, zpf_1, if_pos rfl, zup, if_neg hk]⟩
theorem y_beds_loop (N : Nat) (hN : 4000 ≤ N) {β : mB} (hO : BOk β) (K : Int32 → Int32 → Int32 → zS → Option (Int32 × zS)) (x1 : Int32) : ∀ d c m : Nat, ∀ (τ : zS) (a : Int32 × Nat), c + d = 5 ^ β.1 0 → d < m → BM τ 0 β → τ.1 66 1 = nI (β.1 0) → ∃ τ' : zS, fX7_beds_32 N K m x1 a.1 (nI a.2) (nI c) τ = K x1 (bfold (mH β) (ordsF (β.1 0) d c) a).1 (nI (bfold (mH β) (ordsF (β.1 0) d c) a).2) τ' ∧ τ'.2 = τ.2 ∧ ∀ k, k ≠ 26 → τ'.1 66 k = τ.1 66 k := by
  have b0 := hO.1
  have hp : 5 ^ β.1 0 ≤ 3125 := p5_le b0
  intro d
  induction d with
  | zero =>
    intro c m τ a hc hm hM n1
    obtain ⟨m, rfl⟩ : ∃ k, m = k + 1 := ⟨m - 1, by omega⟩
    refine ⟨τ, ?_, rfl, fun _ _ => rfl⟩
    rw [fX7_beds_32, n1, y_powerOf N hN b0, Option.bind_some, if_pos ((nI_leI (by omega) (by omega)).mpr (by omega))]
    rfl
  | succ d ih =>
    intro c m τ a hc hm hM n1
    obtain ⟨m, rfl⟩ : ∃ k, m = k + 1 := ⟨m - 1, by omega⟩
    rw [fX7_beds_32, n1, y_powerOf N hN b0, Option.bind_some, if_neg (fun h => by have := (nI_leI (by omega) (by omega)).mp h; omega), y_isOrder N hN n1 b0 (by omega), Option.bind_some, ordsF]
    by_cases ho : isO (β.1 0) c = true
    · have hd := isO_dig (β.1 0) (by omega) c (by omega) ho
      obtain ⟨τ1, e1, e2, e4⟩ := y_hurtC_loop N hN hO (c := c) (by omega) hd (β.1 0) 0 (by omega) N (zpf τ 66 26 (nI 0)) (by omega) (BM_eq hO (fun _ _ _ => rfl) hM) n1 rfl
      have e1' : fX7_hurtBy N τ (nI c) = some (nI (mH β c), τ1) := by unfold fX7_hurtBy; rw [zlet_eq]; exact e1
      have e4' : ∀ k, k ≠ 26 → τ1.1 66 k = τ.1 66 k := fun k hk => by rw [e4 k hk, zpf_1, if_pos rfl, zup, if_neg hk]
      rw [if_pos ho, if_neg z10, if_pos ho, e1', Option.bind_some, bfold]
      dsimp only
      by_cases c1 : nI (mH β c) ≤ a.1
      · obtain ⟨τ', g1, g2, g3⟩ := ih (c + 1) m τ1 a (by omega) (by omega) (BM_eq hO (fun _ _ _ => by rw [e2]; rfl) hM) (by rw [e4' 1 (by decide)]; exact n1)
        rw [if_pos c1, if_pos c1, fX7_beds_73, if_pos c1, fX7_beds_86, fX7_beds_87, nI_add]
        exact ⟨τ', g1, by rw [g2, e2]; rfl, fun k hk => by rw [g3 k hk, e4' k hk]⟩
      · obtain ⟨τ', g1, g2, g3⟩ := ih (c + 1) m τ1 (nI (mH β c), c) (by omega) (by omega) (BM_eq hO (fun _ _ _ => by rw [e2]; rfl) hM) (by rw [e4' 1 (by decide)]; exact n1)
        rw [if_neg c1, if_neg c1, fX7_beds_73, if_neg c1, fX7_beds_86, fX7_beds_87, nI_add]
        exact ⟨τ', g1, by rw [g2, e2]; rfl, fun k hk => by rw [g3 k hk, e4' k hk]⟩
    · obtain ⟨τ', g1, g2, g3⟩ := ih (c + 1) m τ a (by omega) (by omega) hM n1
      rw [if_neg ho, if_pos rfl, if_neg ho, fX7_beds_87, nI_add]
      exact ⟨τ', g1, g2, g3⟩
theorem bfold_ne (H : Nat → Nat) : ∀ (l : List Nat) (a : Int32 × Nat), ¬ a.1 = -1 → (∀ c, c ∈ l → H c < 2 ^ 31) → ¬ (bfold H l a).1 = -1
  | [], a, h, _ => h
  | c :: t, a, h, hh => by
    rw [bfold]
    refine bfold_ne H t _ ?_ (fun c' h' => hh c' (List.mem_cons_of_mem _ h'))
    split
    · exact h
    · exact m_neg_lt (hh c (List.mem_cons_self ..)) _ (by decide)
theorem mH_le {β : mB} (hO : BOk β) {c : Nat} (hd : ∀ j, j < β.1 0 → dig (β.1 0) c j < β.1 0) : mH β c ≤ 35 := by
  have h1 := mmet_le β (fun i => dig (β.1 0) c i) (β.1 0) 0
  have h2 := mhurt_le hO (mmet β (fun i => dig (β.1 0) c i) (β.1 0) 0) (T := fun i => dig (β.1 0) c i) (fun j hj => hd j (by omega))
  have := hO.1
  unfold mH
  omega
theorem bfold_lt (H : Nat → Nat) : ∀ (l : List Nat) (a : Int32 × Nat), a.2 < 3125 → (∀ c, c ∈ l → c < 3125) → (bfold H l a).2 < 3125
  | [], a, h, _ => h
  | c :: t, a, h, hh => by
    rw [bfold]
    refine bfold_lt H t _ ?_ (fun c' h' => hh c' (List.mem_cons_of_mem _ h'))
    split
    · exact h
    · exact hh c (List.mem_cons_self ..)
theorem mfact_pos : ∀ n, 0 < mfact n
  | 0 => by decide
  | n + 1 => Nat.mul_pos (by omega) (mfact_pos n)
theorem mfact_le : ∀ n, n < 6 → mfact n ≤ 120 := by decide
theorem m_9n {n : Nat} : nI 10 + nI n - nI 1 = nI (9 + n) := by
  rw [nI_add, m_sub (by omega)]
  congr 1
  omega
/-- the seek's start -/
theorem RWH_start {σ : zS} {n : Nat} (hn : n ≤ 5) (h : ∀ e, e < 5 → σ.2 30 e = nI e) : RWH σ n (ordsF n (5 ^ n) 0) := by
  have hs := (ords_spec hn).2.2.1
  cases hl : ordsF n (5 ^ n) 0 with
  | nil => trivial
  | cons c t =>
    rw [hl] at hs
    intro k hk
    rw [h k (by omega)]
    exact congrArg nI (hs k hk).symm
theorem okp_beds (N : Nat) (hN : 4000 ≤ N) : ok_beds N Rel := by
  intro σ τ x1 hrel
  obtain ⟨β, ⟨hO, hX, hM, n1, n2⟩, hrest⟩ := id hrel
  have b0 := hO.1
  obtain ⟨s1, s2, s3, s4⟩ := ords_spec b0
  have hfl := mfact_le (β.1 0) (by omega)
  -- the class
  obtain ⟨σ1, e1, e2, e3, e4⟩ := x_fill N hN (q := 30) rfl σ
  have hfr1 : FR σ (zpf σ1 53 5 (-1)) := ⟨fun q hq => by rw [zpf_1, if_neg hq, e2], fun q hq => by rw [zpf_2]; exact e3 q (by omega)⟩
  obtain ⟨σ2, g1, g2, g3, g4⟩ := x_worst_loop N hN hO (tot := mfact (β.1 0)) (by omega) (ordsF (β.1 0) (5 ^ β.1 0) 0) 0 N (zpf σ1 53 5 (-1)) (-1, 0) (by omega) (by omega) s1 (fun c hc => (s4 c hc).1) (FR_X hfr1 hX) (RWH_start b0 e4) rfl (Or.inl rfl)
  have ex : fX1_seekWorst N σ 42 = some σ2 := by
    unfold fX1_seekWorst
    rw [e1, Option.bind_some, zlet_eq, show (zpf σ1 53 5 (-1)).1 42 6 = nI (β.1 0) from (FR_X hfr1 hX).1, x_fact N hN b0, Option.bind_some]
    exact g1
  have hrx : Rel σ2 τ := FR_rel (FR_tr hfr1 g2) hrel
  -- the model
  obtain ⟨τ', f1, f2, f3⟩ := y_beds_loop N hN hO (fX7_beds_93 N) x1 (5 ^ β.1 0) 0 N τ (-1, 0) (by omega) (by have := p5_le b0; omega) hM n1
  have em : fX7_beds_25 N x1 τ = fX7_beds_93 N x1 (bfold (mH β) (ordsF (β.1 0) (5 ^ β.1 0) 0) (-1, 0)).1 (nI (bfold (mH β) (ordsF (β.1 0) (5 ^ β.1 0) 0) (-1, 0)).2) τ' := f1
  have hR : Rel σ2 τ' := by
    obtain ⟨β2, ⟨hO2, hX2, hM2, m1, m2⟩, hrest2⟩ := hrx
    exact Rel_band (β' := β2) hrest2 ⟨hO2, hX2, BM_eq hO2 (fun _ _ _ => by rw [f2]) hM2, by rw [f3 1 (by decide)]; exact m1, by rw [f3 2 (by decide)]; exact m2⟩ rfl rfl (fun q _ _ _ => rfl) (fun q _ _ => rfl) (fun k hk => f3 k (by omega)) (fun q _ _ => by rw [f2]) (fun i _ _ => by rw [f2])
  unfold fX6_beds fX7_beds
  by_cases c0 : x1 = 0
  · rw [if_pos c0, if_pos c0, em]
    unfold fX6_beds_27 fX7_beds_93
    rw [ex, Option.bind_some, if_pos c0, if_pos c0]
    exact ⟨_, _, rfl, rfl, g3, hR⟩
  · rw [if_neg c0, if_neg c0, hX.1, n1, m_9n, nI_add, nI_l (n := 9 + β.1 0) (by omega)]
    by_cases hx : ∃ k, 10 ≤ k ∧ k ≤ 9 + β.1 0 ∧ x1 = nI k
    · obtain ⟨k, h1, h2, rfl⟩ := hx
      obtain ⟨i, rfl⟩ : ∃ i, k = 10 + i := ⟨k - 10, by omega⟩
      have wm : fX7_in N (nI (10 + i)).toInt64 10 (lN (9 + β.1 0)) = some 1 := y_in1 N (lo := 10) h1 h2 (by omega)
      have hH : ∀ c, c ∈ ordsF (β.1 0) (5 ^ β.1 0) 0 → mH β c < 2 ^ 31 := fun c hc => by have := mH_le hO (s4 c hc).1; omega
      have hne : ¬ (bfold (mH β) (ordsF (β.1 0) (5 ^ β.1 0) 0) (-1, 0)).1 = -1 := by
        cases hl : ordsF (β.1 0) (5 ^ β.1 0) 0 with
        | nil =>
          rw [hl] at s2
          have := mfact_pos (β.1 0)
          simp at s2
          omega
        | cons c t =>
          rw [hl] at hH
          have hc := hH c (List.mem_cons_self ..)
          rw [bfold, if_neg (show ¬ nI (mH β c) ≤ (-1, 0).1 from fun h => by
            have h' : (nI (mH β c)).toInt ≤ ((-1 : Int32)).toInt := Int32.le_iff_toInt_le.mp h
            rw [nI_toInt hc] at h'
            have : ((-1 : Int32)).toInt = -1 := by decide
            omega)]
          exact bfold_ne _ t _ (m_neg_lt hc _ (by decide)) (fun c' h' => hH c' (List.mem_cons_of_mem _ h'))
      have hlt := bfold_lt (mH β) (ordsF (β.1 0) (5 ^ β.1 0) 0) (-1, 0) (by decide) (fun c hc => (s4 c hc).2)
      rw [x_within1 N h1 h2 (by omega), Option.bind_some, if_neg z10, wm, Option.bind_some, if_neg z10, em]
      unfold fX6_beds_27 fX7_beds_93
      have hsub : nI (10 + i) - nI 10 = nI i := by rw [m_sub (by omega)]; congr 1; omega
      rw [ex, Option.bind_some, if_neg c0, if_neg c0, hsub, if_pos (m_zin (show i < zlen 31 from (show i < 5 by omega)) (by decide)), zlet_eq, f3 1 (by decide), n1, y_figure N hN (by omega) b0 (by omega), Option.bind_some, nI_clamp (by omega)]
      refine ⟨_, _, rfl, rfl, ?_, hR⟩
      rcases g4 with h | h
      · exact absurd h hne
      · exact h i (by omega)
    · have wm : fX7_in N x1.toInt64 10 (lN (9 + β.1 0)) = some 0 := y_in0 N (lo := 10) (by omega) (by decide) hx
      rw [x_within0 N (by omega) (by decide) hx, Option.bind_some, if_pos rfl, wm, Option.bind_some, if_pos rfl]
      exact ⟨_, _, rfl, rfl, rfl, hrel⟩

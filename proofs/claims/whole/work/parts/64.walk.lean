/-! what some reach, more of them reach too -/
def supL (V : Nat → Nat) : List Nat → Nat
  | [] => 0
  | a :: t => max (V a) (supL V t)
theorem supL_app (V : Nat → Nat) : ∀ l l' : List Nat, supL V (l ++ l') = max (supL V l) (supL V l')
  | [], l' => by rw [List.nil_append, supL, Nat.zero_max]
  | a :: t, l' => by rw [List.cons_append, supL, supL, supL_app V t l', Nat.max_assoc]
theorem supL_mem (V : Nat → Nat) : ∀ (l : List Nat) (u : Nat), u ∈ l → V u ≤ supL V l
  | a :: t, u, h => by
    rw [supL]
    rcases List.mem_cons.mp h with h | h
    · rw [h]; omega
    · have := supL_mem V t u h; omega
theorem supL_le (V : Nat → Nat) (b : Nat) : ∀ (l : List Nat), (∀ u, u ∈ l → V u ≤ b) → supL V l ≤ b
  | [], _ => Nat.zero_le _
  | a :: t, h => by
    rw [supL]
    have h1 := h a List.mem_cons_self
    have h2 := supL_le V b t (fun u hu => h u (List.mem_cons_of_mem _ hu))
    omega
theorem supL_at (V : Nat → Nat) : ∀ (l : List Nat), supL V l = 0 ∨ ∃ u, u ∈ l ∧ V u = supL V l
  | [] => Or.inl rfl
  | a :: t => by
    rw [supL]
    rcases supL_at V t with h | ⟨u, h1, h2⟩
    · exact Or.inr ⟨a, List.mem_cons_self, by omega⟩
    · by_cases hc : V a ≤ supL V t
      · exact Or.inr ⟨u, List.mem_cons_of_mem _ h1, by omega⟩
      · exact Or.inr ⟨a, List.mem_cons_self, by omega⟩
theorem sx_xor : ∀ k, k < 5 → ∀ j, j < 32 → nI j ^^^ (nI 1 <<< (nI k &&& 31)) = nI (j ^^^ 2 ^ k) := by decide +kernel
theorem sx_lt : ∀ k, k < 5 → ∀ j, j < 32 → j.testBit k = true → (j ^^^ 2 ^ k).testBit k = false ∧ j ^^^ 2 ^ k < j := by decide +kernel
theorem x_sp9 (N : Nat) {V : Nat → Nat} {k : Nat} (hk : k < 5) (hb : ∀ l s, supL V (rL l s) ≤ 5) (K : Int32 → zS → Option zS) : ∀ e j : Nat, j + e = 32 → ∀ (f : Nat) (σ : zS), e < f → (∀ u, u < 32 → σ.2 29 u = nI (if u < j then supL V (rL (k + 1) u) else supL V (rL k u))) → ∃ σ' : zS, fX5_spreadValues_9 N K f (nI k) (nI j) σ = K (nI k) σ' ∧ (∀ u, u < 32 → σ'.2 29 u = nI (supL V (rL (k + 1) u))) ∧ σ'.1 = σ.1 ∧ ∀ q, q ≠ 29 → σ'.2 q = σ.2 q := by
  intro e
  induction e with
  | zero =>
    intro j hj f σ hf h
    obtain ⟨f, rfl⟩ : ∃ k, f = k + 1 := ⟨f - 1, by omega⟩
    rw [fX5_spreadValues_9, if_pos (show Int32.ofNat (zlen 29) ≤ nI j from (nI_leI (a := zlen 29) (b := j) (by decide) (by omega)).mpr (by rw [zlen29]; omega))]
    exact ⟨σ, rfl, fun u hu => by rw [h u hu, if_pos (by omega)], rfl, fun _ _ => rfl⟩
  | succ e ih =>
    intro j hj f σ hf h
    obtain ⟨f, rfl⟩ : ∃ k, f = k + 1 := ⟨f - 1, by omega⟩
    have hz : zin (nI j) (zlen 29) := m_zin (by rw [zlen29]; omega) (by decide)
    rw [fX5_spreadValues_9, if_neg (show ¬ Int32.ofNat (zlen 29) ≤ nI j from fun h => by have := (nI_leI (a := zlen 29) (b := j) (by decide) (by omega)).mp h; rw [zlen29] at this; omega)]
    by_cases ht : j.testBit k = true
    · obtain ⟨t1, t2⟩ := sx_lt k hk j (by omega) ht
      have r1 : σ.2 29 (nI j).toNatClampNeg = nI (supL V (rL k j)) := by rw [nI_clamp (by omega), h j (by omega), if_neg (by omega)]
      have r2 : σ.2 29 (nI (j ^^^ 2 ^ k)).toNatClampNeg = nI (supL V (rL k (j ^^^ 2 ^ k))) := by
        rw [nI_clamp (by omega), h _ (by omega), if_pos t2, rL, if_neg (by rw [t1]; decide)]
      have b1 := hb k j
      have b2 := hb k (j ^^^ 2 ^ k)
      have em : (if nI (supL V (rL k j)) < nI (supL V (rL k (j ^^^ 2 ^ k))) then nI (supL V (rL k (j ^^^ 2 ^ k))) else nI (supL V (rL k j))) = nI (supL V (rL (k + 1) j)) := by
        rw [rL, if_pos ht, supL_app]
        by_cases hc : supL V (rL k j) < supL V (rL k (j ^^^ 2 ^ k))
        · rw [if_pos ((nI_ltI (by omega) (by omega)).mpr hc), Nat.max_eq_right (by omega)]
        · rw [if_neg (fun h' => hc ((nI_ltI (by omega) (by omega)).mp h')), Nat.max_eq_left (by omega)]
      rw [if_pos ((m_tst1 (by omega) (by omega)).mpr ht), if_pos hz, zlet_eq, r1, sx_xor k hk j (by omega), if_pos (m_zin (by rw [zlen29]; omega) (by decide)), zlet_eq, r2, zlet_eq, em, if_pos hz, zlet_eq, fX5_spreadValues_52, nI_add]
      obtain ⟨σ', k1, k2, k3, k4⟩ := ih (j + 1) (by omega) f (zpa σ 29 (upd (σ.2 29) (nI j).toNatClampNeg (nI (supL V (rL (k + 1) j))))) (by omega) (fun u hu => by
        rw [zpa_2, if_pos rfl, zupd, nI_clamp (by omega)]
        by_cases hu' : u = j
        · rw [if_pos hu', if_pos (by omega), hu']
        · rw [if_neg hu', h u hu]
          by_cases hl : u < j
          · rw [if_pos hl, if_pos (by omega)]
          · rw [if_neg hl, if_neg (by omega)])
      exact ⟨σ', k1, k2, k3, fun q hq => by rw [k4 q hq, zpa_2, if_neg hq]⟩
    · rw [if_neg (fun h => ht ((m_tst1 (by omega) (by omega)).mp h)), fX5_spreadValues_52, nI_add]
      exact ih (j + 1) (by omega) f σ (by omega) (fun u hu => by
        rw [h u hu]
        by_cases hl : u < j
        · rw [if_pos hl, if_pos (by omega)]
        · by_cases hu' : u = j
          · rw [if_neg hl, if_pos (by omega), hu', rL, if_neg ht]
          · rw [if_neg hl, if_neg (by omega)])
theorem x_sp2 (N : Nat) (hN : 4000 ≤ N) {V : Nat → Nat} (hb : ∀ l s, supL V (rL l s) ≤ 5) : ∀ e k : Nat, k + e = 5 → ∀ (f : Nat) (σ : zS), e < f → (∀ u, u < 32 → σ.2 29 u = nI (supL V (rL k u))) → ∃ σ' : zS, fX5_spreadValues_2 N f (nI k) σ = some σ' ∧ (∀ u, u < 32 → σ'.2 29 u = nI (supL V (rL 5 u))) ∧ σ'.1 = σ.1 ∧ ∀ q, q ≠ 29 → σ'.2 q = σ.2 q := by
  intro e
  induction e with
  | zero =>
    intro k hk f σ hf h
    obtain ⟨f, rfl⟩ : ∃ k, f = k + 1 := ⟨f - 1, by omega⟩
    have e : k = 5 := by omega
    subst e
    rw [fX5_spreadValues_2, if_pos (by decide)]
    exact ⟨σ, rfl, h, rfl, fun _ _ => rfl⟩
  | succ e ih =>
    intro k hk f σ hf h
    obtain ⟨f, rfl⟩ : ∃ k, f = k + 1 := ⟨f - 1, by omega⟩
    rw [fX5_spreadValues_2, if_neg (fun h => by have := (nI_leI (by omega) (by omega)).mp h; omega)]
    obtain ⟨σ1, k1, k2, k3, k4⟩ := x_sp9 N (V := V) (k := k) (by omega) hb (fX5_spreadValues_58 N (fX5_spreadValues_2 N f)) 32 0 (by omega) N σ (by omega) (fun u hu => by rw [h u hu, if_neg (by omega)])
    obtain ⟨σ2, l1, l2, l3, l4⟩ := ih (k + 1) (by omega) f σ1 (by omega) k2
    refine ⟨σ2, ?_, l2, by rw [l3, k3], fun q hq => by rw [l4 q hq, k4 q hq]⟩
    rw [k1, fX5_spreadValues_58, nI_add]
    exact l1
theorem rL_32 : ∀ (k s : Nat), k ≤ 5 → s < 32 → ∀ u, u ∈ rL k s → u < 32
  | 0, s, _, h, u, hu => by rw [rL] at hu; rw [List.mem_singleton.mp hu]; exact h
  | k + 1, s, hk, h, u, hu => by
    rw [rL] at hu
    split at hu
    · rcases List.mem_append.mp hu with hu | hu
      · exact rL_32 k s (by omega) h u hu
      · exact rL_32 k (s ^^^ 2 ^ k) (by omega) (Nat.xor_lt_two_pow (n := 5) h (Nat.pow_lt_pow_right (by decide) (by omega))) u hu
    · exact rL_32 k s (by omega) h u hu
/-- all towers of the class, and what comes of them -/
def LX (β : mB) : List qT := (dG (β.1 0) 5 0 0 0).filter (pQ β)
def AX (β : mB) (aim : Nat) : aT := (LX β).foldl (stX β aim) (0, (fun _ => 0), none)
theorem x_zero_loop (N : Nat) (K : Nat → Int32 → zS → Option zS) (x2 : Int32) : ∀ e j : Nat, j + e = 32 → ∀ (f : Nat) (σ : zS), e < f → (∀ u, u < j → σ.2 29 u = nI 0) → ∃ σ' : zS, fX5_walk_2 N K f 42 x2 (nI j) σ = K 42 x2 σ' ∧ (∀ u, u < 32 → σ'.2 29 u = nI 0) ∧ σ'.1 = σ.1 ∧ ∀ q, q ≠ 29 → σ'.2 q = σ.2 q := by
  intro e
  induction e with
  | zero =>
    intro j hj f σ hf h
    obtain ⟨f, rfl⟩ : ∃ k, f = k + 1 := ⟨f - 1, by omega⟩
    rw [fX5_walk_2, if_pos (show Int32.ofNat (zlen 29) ≤ nI j from (nI_leI (a := zlen 29) (b := j) (by decide) (by omega)).mpr (by rw [zlen29]; omega))]
    exact ⟨σ, rfl, fun u hu => h u (by omega), rfl, fun _ _ => rfl⟩
  | succ e ih =>
    intro j hj f σ hf h
    obtain ⟨f, rfl⟩ : ∃ k, f = k + 1 := ⟨f - 1, by omega⟩
    rw [fX5_walk_2, if_neg (show ¬ Int32.ofNat (zlen 29) ≤ nI j from fun h => by have := (nI_leI (a := zlen 29) (b := j) (by decide) (by omega)).mp h; rw [zlen29] at this; omega), if_pos (m_zin (by rw [zlen29]; omega) (by decide)), zlet_eq, nI_add]
    obtain ⟨σ', k1, k2, k3, k4⟩ := ih (j + 1) (by omega) f (zpa σ 29 (upd (σ.2 29) (nI j).toNatClampNeg (nI 0))) (by omega) (fun u hu => by
      rw [zpa_2, if_pos rfl, zupd, nI_clamp (by omega)]
      by_cases hu' : u = j
      · rw [if_pos hu']
      · rw [if_neg hu', h u (by omega)])
    exact ⟨σ', k1, k2, k3, fun q hq => by rw [k4 q hq, zpa_2, if_neg hq]⟩
theorem x_walk (N : Nat) (hN : 4000 ≤ N) {σ : zS} {β : mB} (hO : BOk β) (hX : BX σ 42 β) {aim : Nat} (ha : aim < 3) : ∃ σ' : zS, fX5_walk N σ 42 (nI aim) = some σ' ∧ σ'.1 52 6 = nI (AX β aim).1 ∧ (∀ s, s < 32 → σ'.2 29 s = nI (supL (AX β aim).2.1 (rL 5 s)) ∧ supL (AX β aim).2.1 (rL 5 s) ≤ 5) ∧ BR σ' β aim (AX β aim).2.2 ∧ FT σ σ' := by
  unfold fX5_walk
  obtain ⟨σ1, k1, k2, k3, k4⟩ := x_zero_loop N (fX5_walk_24 N) (nI aim) 32 0 (by omega) N σ (by omega) (fun u hu => absurd hu (by omega))
  rw [k1, fX5_walk_24, zlet_eq, zlet_eq, zlet_eq, zlet_eq]
  generalize hσ2 : zpf (zpf (zpf (zpf σ1 52 6 (nI 0)) 52 3 (nI 0)) 52 4 (-1)) 52 5 (nI 0) = σ2
  have f1 : FT σ σ1 := ⟨fun q _ => by rw [k3], fun q hq => k4 q (by omega)⟩
  have f2 : FT σ σ2 := by rw [← hσ2]; exact FT_tr f1 (FT_tr (FT_tr (FT_tr (FT_f _ _ _) (FT_f _ _ _)) (FT_f _ _ _)) (FT_f _ _ _))
  have hA : RA σ2 β aim (0, (fun _ => 0), none) := by
    rw [← hσ2]
    refine ⟨by simp [zpf_1, zup], fun u hu => ⟨k2 u hu, Nat.zero_le _⟩, ?_⟩
    show _ = _
    simp [zpf_1, zup]
  obtain ⟨σ3, l1, l2, l3, -⟩ := x_visit N hN hO ha 5 0 0 rfl (fun i hi => absurd hi (by omega)) rfl σ2 _ (FT_X f2 hX) (fun i hi => absurd hi (by omega)) hA
  have l1 : fX5_visit N σ2 42 (nI aim) (nI 0) (nI 0) = some σ3 := l1
  have l2 : RA σ3 β aim (AX β aim) := l2
  obtain ⟨m1, m2, m3⟩ := l2
  rw [l1, Option.bind_some]
  have hbb : ∀ l s, l ≤ 5 → s < 32 → supL (AX β aim).2.1 (rL l s) ≤ 5 := fun l s hl hs => supL_le _ 5 _ (fun u hu => (m2 u (rL_32 l s hl hs u hu)).2)
  have hV : ∃ V : Nat → Nat, (∀ u, u < 32 → V u = (AX β aim).2.1 u) ∧ ∀ u, V u ≤ 5 := ⟨fun u => if u < 32 then (AX β aim).2.1 u else 0, fun u hu => if_pos hu, fun u => by
    dsimp only
    split
    · exact (m2 u (by assumption)).2
    · omega⟩
  obtain ⟨V, v1, v2⟩ := hV
  have hsup : ∀ s, s < 32 → supL V (rL 5 s) = supL (AX β aim).2.1 (rL 5 s) := fun s hs => by
    have : ∀ l : List Nat, (∀ u, u ∈ l → u < 32) → supL V l = supL (AX β aim).2.1 l := by
      intro l
      induction l with
      | nil => intro _; rfl
      | cons a t ih => intro h; rw [supL, supL, v1 a (h a List.mem_cons_self), ih (fun u hu => h u (List.mem_cons_of_mem _ hu))]
    exact this _ (rL_32 5 s (by omega) hs)
  obtain ⟨σ4, n1, n2, n3, n4⟩ := x_sp2 N hN (V := V) (fun l s => supL_le _ 5 _ (fun u _ => v2 u)) 5 0 rfl N σ3 (by omega) (fun u hu => by
    rw [(m2 u hu).1, rL, supL, supL, Nat.max_zero, v1 u hu])
  have n1 : fX5_spreadValues N σ3 = some σ4 := n1
  rw [n1, Option.bind_some]
  refine ⟨σ4, rfl, by rw [n3]; exact m1, fun s hs => ⟨by rw [n2 s hs, hsup s hs], hbb 5 s (by omega) hs⟩, ?_, FT_tr f2 (FT_tr l3 ⟨fun q _ => by rw [n3], fun q hq => n4 q (by omega)⟩)⟩
  revert m3
  cases (AX β aim).2.2 with
  | none => intro h; show σ4.1 52 4 = -1; rw [n3]; exact h
  | some r => intro h; unfold BR; rw [n3, n4 28 (by decide)]; exact h

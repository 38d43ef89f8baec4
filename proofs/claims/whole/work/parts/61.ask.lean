/-! the model's fitting orders -/
section YF
variable {τ : zS} {β : mB} {m : Nat} {A B : Nat → Nat}
theorem y_hurtsC_loop (N : Nat) (hN : 4000 ≤ N) (hO : BOk β) (hM : BM τ 0 β) (n1 : τ.1 66 1 = nI (β.1 0)) {c k : Nat} (hc : c < 2 ^ 31) (hk : k ≤ β.1 0) (hd : ∀ j, j < β.1 0 → dig (β.1 0) c j < β.1 0) : ∀ d i f : Nat, i + d = k → d < f → fX7_hurtBehind_5 N τ f (nI c) (nI k) (nI (mhurt β (fun i => dig (β.1 0) c i) i)) (nI i) = some (nI (mhurt β (fun i => dig (β.1 0) c i) k)) := by
  have b0 := hO.1
  intro d
  induction d with
  | zero =>
    intro i f hi hf
    obtain ⟨f, rfl⟩ : ∃ k, f = k + 1 := ⟨f - 1, by omega⟩
    have e : i = k := by omega
    subst e
    rw [fX7_hurtBehind_5, if_pos ((nI_leI (by omega) (by omega)).mpr (Nat.le_refl _))]
  | succ d ih =>
    intro i f hi hf
    obtain ⟨f, rfl⟩ : ∃ k, f = k + 1 := ⟨f - 1, by omega⟩
    rw [fX7_hurtBehind_5, if_neg (fun h => by have := (nI_leI (by omega) (by omega)).mp h; omega), n1, y_figure N hN hc b0 (by omega), Option.bind_some, y_hurts N hO hM (hd i (by omega)), Option.bind_some, nI_add, nI_add]
    exact ih (i + 1) f (by omega) (by omega)
theorem y_hurtsC (N : Nat) (hN : 4000 ≤ N) (hO : BOk β) (hM : BM τ 0 β) (n1 : τ.1 66 1 = nI (β.1 0)) {c k : Nat} (hc : c < 2 ^ 31) (hk : k ≤ β.1 0) (hd : ∀ j, j < β.1 0 → dig (β.1 0) c j < β.1 0) : fX7_hurtBehind N τ (nI c) (nI k) = some (nI (mhurt β (fun i => dig (β.1 0) c i) k)) :=
  y_hurtsC_loop N hN hO hM n1 hc hk hd k 0 N (by omega) (by have := hO.1; omega)
theorem y_fit0 (N f : Nat) (x1 x3 : Int32) : fX7_doesFit_8 N τ (f + 1) x1 (nI 0) x3 = some 0 := by
  rw [fX7_doesFit_8]
  by_cases h : τ.1 66 28 ≤ x3
  · rw [if_pos h, if_pos (Or.inl m_zero)]; rfl
  · rw [if_neg h, if_pos m_zero, if_pos (Or.inl m_zero)]; rfl
theorem y_fit_loop (N : Nat) (hN : 4000 ≤ N) (hO : BOk β) (hM : BM τ 0 β) (n1 : τ.1 66 1 = nI (β.1 0)) (hS : SM τ m A B) {c : Nat} (hc : c < 2 ^ 31) (hd : ∀ j, j < β.1 0 → dig (β.1 0) c j < β.1 0) : ∀ d i f : Nat, i + d = m → d + 1 < f → fX7_doesFit_8 N τ f (nI c) (nI 1) (nI i) = some (if mfit β A B (fun i => dig (β.1 0) c i) d i = true then 1 else 0) := by
  have b0 := hO.1
  obtain ⟨s1, s2, s3⟩ := hS
  intro d
  induction d with
  | zero =>
    intro i f hi hf
    obtain ⟨f, rfl⟩ : ∃ k, f = k + 1 := ⟨f - 1, by omega⟩
    rw [fX7_doesFit_8, s1, if_pos ((nI_leI (by omega) (by omega)).mpr (by omega)), if_pos (show nI 1 = 0 ∨ nI 1 = 1 from Or.inr rfl), mfit, if_pos rfl]
    rfl
  | succ d ih =>
    intro i f hi hf
    obtain ⟨f, rfl⟩ : ∃ k, f = k + 2 := ⟨f - 2, by omega⟩
    obtain ⟨q1, q2, q3, q4', q5'⟩ := s3 i (by omega)
    have q4 : τ.2 60 (nI (2 * i)).toNatClampNeg = nI (A i) := by rw [nI_clamp (by omega)]; exact q4'
    have q5 : τ.2 60 (nI (2 * i + 1)).toNatClampNeg = nI (B i) := by rw [nI_clamp (by omega)]; exact q5'
    have z1 : zin (nI (2 * i)) (zlen 60) := m_zin (show 2 * i < 12 by omega) (by decide)
    have z2 : zin (nI (2 * i + 1)) (zlen 60) := m_zin (show 2 * i + 1 < 12 by omega) (by decide)
    rw [fX7_doesFit_8, s1, if_neg (fun h => by have := (nI_leI (by omega) (by omega)).mp h; omega), if_neg (show ¬ nI 1 = 0 by decide), m_mul, if_pos z1, zlet_eq, q4, n1, mfit]
    by_cases c1 : β.1 0 < A i
    · rw [if_pos ((nI_ltI (by omega) (by omega)).mpr c1), if_pos c1, fX7_doesFit_65, fX7_doesFit_66, y_fit0]
      rfl
    · have hml := mhurt_le hO (A i) (T := fun i => dig (β.1 0) c i) (fun j hj => hd j (by omega))
      rw [if_neg (fun h => c1 ((nI_ltI (by omega) (by omega)).mp h)), if_neg c1, if_pos z1, zlet_eq, y_hurtsC N hN hO hM n1 hc (by omega) hd, Option.bind_some, nI_add, if_pos z2, zlet_eq, q5]
      by_cases c2 : mhurt β (fun i => dig (β.1 0) c i) (A i) = B i
      · rw [if_pos (by rw [c2]), if_pos c2, fX7_doesFit_66, nI_add]
        exact ih (i + 1) (f + 1) (by omega) (by omega)
      · rw [if_neg (fun h => c2 ((nI_eq (by omega) (by omega)).mp h)), if_neg c2, fX7_doesFit_65, fX7_doesFit_66, y_fit0]
        rfl
theorem y_doesFit (N : Nat) (hN : 4000 ≤ N) (hO : BOk β) (hM : BM τ 0 β) (n1 : τ.1 66 1 = nI (β.1 0)) (hS : SM τ m A B) {c : Nat} (hc : c < 5 ^ β.1 0) : fX7_doesFit N τ (nI c) = some (if isO (β.1 0) c = true ∧ fitB β A B m c = true then 1 else 0) := by
  have b0 := hO.1
  have hp : 5 ^ β.1 0 ≤ 3125 := p5_le b0
  have hm := hS.2.1
  unfold fX7_doesFit
  rw [y_isOrder N hN n1 b0 (by omega), Option.bind_some]
  by_cases ho : isO (β.1 0) c = true
  · rw [if_pos ho]
    have := y_fit_loop N hN hO hM n1 hS (c := c) (by omega) (isO_dig (β.1 0) (by omega) c hc ho) m 0 N (by omega) (by omega)
    rw [show fX7_doesFit_8 N τ N (nI c) 1 (nI 0) = _ from this]
    by_cases hf : fitB β A B m c = true
    · rw [if_pos (show isO (β.1 0) c = true ∧ fitB β A B m c = true from ⟨ho, hf⟩), if_pos (show mfit β A B (fun i => dig (β.1 0) c i) m 0 = true from hf)]
    · rw [if_neg (show ¬ (isO (β.1 0) c = true ∧ fitB β A B m c = true) from fun h => hf h.2), if_neg (show ¬ mfit β A B (fun i => dig (β.1 0) c i) m 0 = true from hf)]
  · obtain ⟨M, rfl⟩ : ∃ M, N = M + 1 := ⟨N - 1, by omega⟩
    rw [if_neg ho, if_neg (show ¬ (isO (β.1 0) c = true ∧ fitB β A B m c = true) from fun h => ho h.1)]
    exact y_fit0 (M + 1) M _ _
def fst4 (a : Nat × Nat) : Int32 := if a.1 = 0 then -4 else nI a.2
def lW (n : Nat) (F : Nat → Bool) (w : Option Nat) (l : List Nat) (b : Nat) : Nat := match w with
  | some i => lF n F i l b
  | none => b
theorem y_fits_loop (N : Nat) (hN : 4000 ≤ N) (hO : BOk β) (hM : BM τ 0 β) (n1 : τ.1 66 1 = nI (β.1 0)) (hS : SM τ m A B) (K : Int32 → Int32 → Int32 → Int32 → Option Int32) {x1 : Int32} {w : Option Nat} (hw : (∃ i, w = some i ∧ i < β.1 0 ∧ x1 = nI (10 + i)) ∨ (w = none ∧ ¬ ∃ k, 10 ≤ k ∧ k ≤ 14 ∧ x1 = nI k)) : ∀ d c f : Nat, ∀ (a : Nat × Nat) (b : Nat), c + d = 5 ^ β.1 0 → d < f → a.1 + d ≤ 10000 → fX7_fits_55 N τ K f x1 (nI a.1) (fst4 a) (nI b) (nI c) = K x1 (nI (fF (fitB β A B m) (ordsF (β.1 0) d c) a).1) (fst4 (fF (fitB β A B m) (ordsF (β.1 0) d c) a)) (nI (lW (β.1 0) (fitB β A B m) w (ordsF (β.1 0) d c) b)) := by
  have b0 := hO.1
  have hp : 5 ^ β.1 0 ≤ 3125 := p5_le b0
  intro d
  induction d with
  | zero =>
    intro c f a b hc hf ha
    obtain ⟨f, rfl⟩ : ∃ k, f = k + 1 := ⟨f - 1, by omega⟩
    rw [fX7_fits_55, n1, y_powerOf N hN b0, Option.bind_some, if_pos ((nI_leI (by omega) (by omega)).mpr (by omega))]
    rcases hw with ⟨i, rfl, -, -⟩ | ⟨rfl, -⟩ <;> rfl
  | succ d ih =>
    intro c f a b hc hf ha
    obtain ⟨f, rfl⟩ : ∃ k, f = k + 1 := ⟨f - 1, by omega⟩
    rw [fX7_fits_55, n1, y_powerOf N hN b0, Option.bind_some, if_neg (fun h => by have := (nI_leI (by omega) (by omega)).mp h; omega), y_doesFit N hN hO hM n1 hS (show c < 5 ^ β.1 0 by omega), Option.bind_some, ordsF]
    by_cases ho : isO (β.1 0) c = true
    · rw [if_pos ho]
      by_cases hf' : fitB β A B m c = true
      · have e1 : ∀ l, fF (fitB β A B m) (c :: l) a = fF (fitB β A B m) l (a.1 + 1, if a.1 = 0 then c else a.2) := fun l => by rw [fF, if_pos hf']
        have e2 : fst4 (a.1 + 1, if a.1 = 0 then c else a.2) = nI (if a.1 = 0 then c else a.2) := by unfold fst4; rw [if_neg (by dsimp only; omega)]
        have common : ∀ s0, s0 = nI (if a.1 = 0 then c else a.2) → fX7_fits_86 N τ (fX7_fits_55 N τ K f) K x1 (nI a.1) (nI b) (nI c) s0 = K x1 (nI (fF (fitB β A B m) (c :: ordsF (β.1 0) d (c + 1)) a).1) (fst4 (fF (fitB β A B m) (c :: ordsF (β.1 0) d (c + 1)) a)) (nI (lW (β.1 0) (fitB β A B m) w (c :: ordsF (β.1 0) d (c + 1)) b)) := by
          intro s0 hs0
          rw [fX7_fits_86, e1]
          rcases hw with ⟨i, rfl, hi, rfl⟩ | ⟨rfl, hno⟩
          · have wm : fX7_in N (nI (10 + i)).toInt64 10 14 = some 1 := y_in1 N (lo := 10) (hi := 14) (by omega) (by omega) (by decide)
            have hsub : nI (10 + i) - nI 10 = nI i := by rw [m_sub (by omega)]; congr 1; omega
            rw [wm, Option.bind_some, if_neg z10, n1, hsub, y_figure N hN (by omega) b0 hi, Option.bind_some, fX7_fits_125, zlet_eq, m_bit (by have := dig_lt (β.1 0) c i; omega), m_or, fX7_fits_128, nI_add, nI_add, hs0, ← e2, show lW (β.1 0) (fitB β A B m) (some i) (c :: ordsF (β.1 0) d (c + 1)) b = lW (β.1 0) (fitB β A B m) (some i) (ordsF (β.1 0) d (c + 1)) (b ||| 2 ^ dig (β.1 0) c i) from by show lF _ _ _ _ _ = lF _ _ _ _ _; rw [lF, if_pos hf']]
            exact ih (c + 1) f (a.1 + 1, if a.1 = 0 then c else a.2) _ (by omega) (by omega) (show a.1 + 1 + d ≤ 10000 by omega)
          · have wm : fX7_in N x1.toInt64 10 14 = some 0 := y_in0 N (lo := 10) (hi := 14) (by decide) (by decide) hno
            rw [wm, Option.bind_some, if_pos rfl, fX7_fits_125, zlet_eq, m_or, Nat.or_zero, fX7_fits_128, nI_add, nI_add, hs0, ← e2]
            exact ih (c + 1) f (a.1 + 1, if a.1 = 0 then c else a.2) b (by omega) (by omega) (show a.1 + 1 + d ≤ 10000 by omega)
        rw [if_pos (show isO (β.1 0) c = true ∧ fitB β A B m c = true from ⟨ho, hf'⟩), if_neg z10]
        by_cases c0 : a.1 = 0
        · rw [if_pos (by rw [c0]; rfl)]
          exact common _ (by rw [if_pos c0])
        · rw [if_neg (show ¬ nI a.1 = 0 from fun h => c0 ((nI_eq (a := a.1) (b := 0) (by omega) (by decide)).mp h))]
          exact common _ (by unfold fst4; rw [if_neg c0, if_neg c0])
      · have e1 : fF (fitB β A B m) (c :: ordsF (β.1 0) d (c + 1)) a = fF (fitB β A B m) (ordsF (β.1 0) d (c + 1)) a := by rw [fF, if_neg hf']
        have e2 : lW (β.1 0) (fitB β A B m) w (c :: ordsF (β.1 0) d (c + 1)) b = lW (β.1 0) (fitB β A B m) w (ordsF (β.1 0) d (c + 1)) b := by
          cases w with
          | none => rfl
          | some i => show lF _ _ _ (c :: _) b = lF _ _ _ _ b; rw [lF, if_neg hf']
        rw [if_neg (show ¬ (isO (β.1 0) c = true ∧ fitB β A B m c = true) from fun h => hf' h.2), if_pos rfl, fX7_fits_128, nI_add, e1, e2]
        exact ih (c + 1) f a b (by omega) (by omega) (by omega)
    · rw [if_neg ho, if_neg (show ¬ (isO (β.1 0) c = true ∧ fitB β A B m c = true) from fun h => ho h.1), if_pos rfl, fX7_fits_128, nI_add]
      exact ih (c + 1) f a b (by omega) (by omega) (by omega)
end YF
theorem fF_le (F : Nat → Bool) : ∀ (l : List Nat) (a : Nat × Nat), (fF F l a).1 ≤ a.1 + l.length
  | [], a => Nat.le_refl _
  | c :: t, a => by
    have h := fF_le F t (if F c = true then (a.1 + 1, if a.1 = 0 then c else a.2) else a)
    rw [fF]
    refine Nat.le_trans h ?_
    split
    · show a.1 + 1 + t.length ≤ a.1 + (t.length + 1); omega
    · show a.1 + t.length ≤ a.1 + (t.length + 1); omega
theorem fF_lt (F : Nat → Bool) : ∀ (l : List Nat) (a : Nat × Nat), a.2 < 3125 → (∀ c, c ∈ l → c < 3125) → (fF F l a).2 < 3125
  | [], a, h, _ => h
  | c :: t, a, h, hh => by
    rw [fF]
    refine fF_lt F t _ ?_ (fun c' h' => hh c' (List.mem_cons_of_mem _ h'))
    split
    · show (if a.1 = 0 then c else a.2) < 3125
      split
      · exact hh c (List.mem_cons_self ..)
      · exact h
    · exact h
theorem tF_le (β : mB) (F : Nat → Bool) (k h : Nat) : ∀ (l : List Nat) (a : Nat), tF β F k h l a ≤ a + l.length
  | [], a => Nat.le_refl _
  | c :: t, a => by
    have h' := tF_le β F k h t (if F c = true ∧ mhurt β (fun i => dig (β.1 0) c i) k = h then a + 1 else a)
    rw [tF]
    refine Nat.le_trans h' ?_
    split
    · show a + 1 + t.length ≤ a + (t.length + 1); omega
    · show a + t.length ≤ a + (t.length + 1); omega
theorem m_10n : ∀ n, n < 6 → nI 10 + (nI n - nI 1) = nI (9 + n) := by decide
theorem m_20n : ∀ n, n < 6 → nI 20 + (nI n - nI 1) = nI (19 + n) := by decide
theorem okp_fits (N : Nat) (hN : 4000 ≤ N) : ok_fits N Rel := by
  intro σ τ x1 hrel
  obtain ⟨β, ⟨hO, hX, hM, n1, n2⟩, hrest⟩ := id hrel
  obtain ⟨m, A, B, hS, hS'⟩ := RS_get hrest.2.2.1
  have b0 := hO.1
  have hp : 5 ^ β.1 0 ≤ 3125 := p5_le b0
  obtain ⟨s1, s2, s3, s4⟩ := ords_spec b0
  have hfl := mfact_le (β.1 0) (by omega)
  obtain ⟨σ', e1, e2, e3, e4, e5, e6⟩ := x_seekFitting N hN hO hX hS
  have hR : Rel σ' τ := FR_rel e2 hrel
  have hcl := fF_le (fitB β A B m) (ordsF (β.1 0) (5 ^ β.1 0) 0) (0, 0)
  have hcl2 : (fF (fitB β A B m) (ordsF (β.1 0) (5 ^ β.1 0) 0) (0, 0)).1 ≤ 120 := by rw [s2] at hcl; dsimp only at hcl; omega
  have hfl2 := fF_lt (fitB β A B m) (ordsF (β.1 0) (5 ^ β.1 0) 0) (0, 0) (by decide) (fun c hc => (s4 c hc).2)
  have em : ∀ {x : Int32} {w : Option Nat}, ((∃ i, w = some i ∧ i < β.1 0 ∧ x = nI (10 + i)) ∨ (w = none ∧ ¬ ∃ k, 10 ≤ k ∧ k ≤ 14 ∧ x = nI k)) → fX7_fits_44 N τ x = fX7_fits_134 N τ x (nI (fF (fitB β A B m) (ordsF (β.1 0) (5 ^ β.1 0) 0) (0, 0)).1) (fst4 (fF (fitB β A B m) (ordsF (β.1 0) (5 ^ β.1 0) 0) (0, 0))) (nI (lW (β.1 0) (fitB β A B m) w (ordsF (β.1 0) (5 ^ β.1 0) 0) 0)) := fun hw => y_fits_loop N hN hO hM n1 hS' (fX7_fits_134 N τ) hw (5 ^ β.1 0) 0 N (0, 0) 0 (by omega) (by omega) (by dsimp only; omega)
  unfold fX6_fits fX7_fits
  rw [zlet_eq, hX.1, n1, m_10n _ (by omega), m_20n _ (by omega), nI_add, nI_add, nI_l (n := 9 + β.1 0) (by omega), nI_l (n := 19 + β.1 0) (by omega)]
  by_cases c0 : x1 = 0
  · subst c0
    rw [if_pos rfl, if_pos rfl, em (w := none) (Or.inr ⟨rfl, fun ⟨k, h1, h2, h3⟩ => by have := (nI_eq (a := 0) (b := k) (by decide) (by omega)).mp h3; omega⟩)]
    unfold fX6_fits_42 fX7_fits_134
    rw [e1, Option.bind_some, if_pos rfl, if_pos rfl]
    exact ⟨_, _, rfl, rfl, e3, hR⟩
  · rw [if_neg c0, if_neg c0]
    by_cases hx : ∃ k, 10 ≤ k ∧ k ≤ 9 + β.1 0 ∧ x1 = nI k
    · obtain ⟨k, h1, h2, rfl⟩ := hx
      obtain ⟨i, rfl⟩ : ∃ i, k = 10 + i := ⟨k - 10, by omega⟩
      have wm : fX7_in N (nI (10 + i)).toInt64 10 (lN (9 + β.1 0)) = some 1 := y_in1 N (lo := 10) h1 h2 (by omega)
      have h20 : ¬ nI 20 ≤ nI (10 + i) := fun h => by have := (nI_leI (by decide) (by omega)).mp h; omega
      have hsub : nI (10 + i) - nI 10 = nI i := by rw [m_sub (by omega)]; congr 1; omega
      rw [x_within1 N h1 h2 (by omega), Option.bind_some, if_neg z10, wm, Option.bind_some, if_neg z10, em (w := some i) (Or.inl ⟨i, rfl, by omega, rfl⟩)]
      unfold fX6_fits_42 fX7_fits_134
      rw [e1, Option.bind_some, if_neg c0, if_neg c0, if_neg h20, if_neg h20, hsub, if_pos (m_zin (show i < zlen 32 from (show i < 5 by omega)) (by decide)), zlet_eq, nI_clamp (by omega)]
      exact ⟨_, _, rfl, rfl, e5 i (by omega), hR⟩
    · have wm : fX7_in N x1.toInt64 10 (lN (9 + β.1 0)) = some 0 := y_in0 N (lo := 10) (by omega) (by decide) hx
      rw [x_within0 N (by omega) (by decide) hx, Option.bind_some, if_pos rfl, wm, Option.bind_some, if_pos rfl]
      by_cases hy : ∃ k, 20 ≤ k ∧ k ≤ 19 + β.1 0 ∧ x1 = nI k
      · obtain ⟨k, h1, h2, rfl⟩ := hy
        obtain ⟨i, rfl⟩ : ∃ i, k = 20 + i := ⟨k - 20, by omega⟩
        have wm : fX7_in N (nI (20 + i)).toInt64 20 (lN (19 + β.1 0)) = some 1 := y_in1 N (lo := 20) h1 h2 (by omega)
        have h20 : nI 20 ≤ nI (20 + i) := (nI_leI (by decide) (by omega)).mpr (by omega)
        have hsub : nI (20 + i) - nI 20 = nI i := by rw [m_sub (by omega)]; congr 1; omega
        rw [x_within1 N h1 h2 (by omega), Option.bind_some, if_neg z10, wm, Option.bind_some, if_neg z10, em (w := none) (Or.inr ⟨rfl, fun ⟨k, q1, q2, q3⟩ => by have := (nI_eq (by omega) (by omega)).mp q3; omega⟩)]
        unfold fX6_fits_42 fX7_fits_134
        rw [e1, Option.bind_some, if_neg c0, if_neg c0, if_pos h20, if_pos h20, e3]
        unfold fst4
        by_cases cz : (fF (fitB β A B m) (ordsF (β.1 0) (5 ^ β.1 0) 0) (0, 0)).1 = 0
        · rw [cz, if_pos (by decide), if_pos rfl, if_pos rfl]
          exact ⟨_, _, rfl, rfl, rfl, hR⟩
        · rw [if_neg (show ¬ nI _ ≤ (0 : Int32) from nI_nle (by omega) (by omega)), if_neg cz, if_neg (m_neg_lt (by omega) _ (by decide)), hsub, if_pos (m_zin (show i < zlen 31 from (show i < 5 by omega)) (by decide)), zlet_eq, n1, y_figure N hN (by omega) b0 (by omega), Option.bind_some, nI_clamp (by omega)]
          refine ⟨_, _, rfl, rfl, ?_, hR⟩
          rcases e4 with h | h
          · exact absurd h cz
          · exact h i (by omega)
      · have wm : fX7_in N x1.toInt64 20 (lN (19 + β.1 0)) = some 0 := y_in0 N (lo := 20) (by omega) (by decide) hy
        rw [x_within0 N (by omega) (by decide) hy, Option.bind_some, if_pos rfl, wm, Option.bind_some, if_pos rfl]
        exact ⟨_, _, rfl, rfl, rfl, hrel⟩
/-! what to ask next -/
def mx (u : Nat → Nat) : Nat → Nat
  | 0 => 0
  | h + 1 => if mx u h < u h then u h else mx u h
theorem mx_le (u : Nat → Nat) (x : Nat) : ∀ h, mx u h ≤ x ↔ ∀ j, j < h → u j ≤ x
  | 0 => by simp [mx]
  | h + 1 => by
    rw [mx]
    have ih := mx_le u x h
    constructor
    · intro hh j hj
      have h1 : mx u h ≤ x := by
        split at hh <;> omega
      have h2 : u h ≤ x := by
        split at hh <;> omega
      by_cases e : j = h
      · rw [e]; exact h2
      · exact ih.mp h1 j (by omega)
    · intro hh
      have h1 := ih.mpr (fun j hj => hh j (by omega))
      have h2 := hh h (by omega)
      split <;> omega
theorem mx_upd {u : Nat → Nat} {H h0 : Nat} (hh : h0 < H) : mx (fun h => if h0 = h then u h + 1 else u h) H = if u h0 + 1 ≤ mx u H then mx u H else u h0 + 1 := by
  have l1 : ∀ j, j < H → u j ≤ mx u H := (mx_le u _ H).mp (Nat.le_refl _)
  have l2 := (mx_le (fun h => if h0 = h then u h + 1 else u h) _ H).mp (Nat.le_refl _)
  have g0 := l2 h0 hh
  rw [if_pos rfl] at g0
  have g1 : mx u H ≤ mx (fun h => if h0 = h then u h + 1 else u h) H := (mx_le u _ H).mpr (fun j hj => by
    have := l2 j hj
    split at this <;> omega)
  have up : ∀ x, mx u H ≤ x → u h0 + 1 ≤ x → mx (fun h => if h0 = h then u h + 1 else u h) H ≤ x := fun x h1 h2 => (mx_le _ x H).mpr (fun j hj => by
    have := l1 j hj
    split
    · rename_i e; subst e; exact h2
    · omega)
  split
  · rename_i c
    have := up (mx u H) (Nat.le_refl _) c
    omega
  · rename_i c
    have := up (u h0 + 1) (by omega) (Nat.le_refl _)
    omega
theorem x_most (N : Nat) (hN : 4000 ≤ N) {σ : zS} {k : Nat} {u : Nat → Nat} (hk : k ≤ 5) (h : ∀ j, j < 40 → σ.2 33 (k * 40 + j) = nI (u j)) (hu : ∀ j, j < 40 → u j ≤ 1000000) : fX1_mostLeft N σ (nI k) = some (nI (mx u 40)) := by
  have key : ∀ d j f : Nat, j + d = 40 → d < f → fX1_mostLeft_4 N σ f (nI k) (nI (mx u j)) (nI j) = some (nI (mx u 40)) := by
    intro d
    induction d with
    | zero =>
      intro j f hj hf
      obtain ⟨f, rfl⟩ : ∃ k, f = k + 1 := ⟨f - 1, by omega⟩
      have e : j = 40 := by omega
      subst e
      rw [fX1_mostLeft_4, if_pos (by decide)]
    | succ d ih =>
      intro j f hj hf
      obtain ⟨f, rfl⟩ : ∃ k, f = k + 1 := ⟨f - 1, by omega⟩
      have hb : mx u j ≤ 1000000 := (mx_le u _ j).mpr (fun i hi => hu i (by omega))
      have hb2 := hu j (by omega)
      have g := ih (j + 1) f (by omega) (by omega)
      rw [fX1_mostLeft_4, if_neg (fun h => by have := (nI_leI (by decide) (by omega)).mp h; omega), m_mul, nI_add, if_pos (m_zin (show k * 40 + j < zlen 33 from (show k * 40 + j < 240 by omega)) (by decide)), zlet_eq, nI_clamp (by omega), h j (by omega), zlet_eq, nI_add]
      rw [mx] at g
      by_cases c : mx u j < u j
      · rw [if_pos c] at g
        rw [if_pos ((nI_ltI (by omega) (by omega)).mpr c)]
        exact g
      · rw [if_neg c] at g
        rw [if_neg (fun h => c ((nI_ltI (by omega) (by omega)).mp h))]
        exact g
  exact key 40 0 N (by omega) (by omega)
def aF (W : Nat → Nat) : Nat → Nat → Int32 × Int32 → Int32 × Int32
  | 0, _, a => a
  | d + 1, k, a => aF W d (k + 1) (if a.1 ≤ nI (W k) then a else (nI (W k), nI k))
theorem x_ask_loop (N : Nat) {σ : zS} {n : Nat} (hn : n ≤ 5) (h6 : σ.1 42 6 = nI n) {W : Nat → Nat} (hW : ∀ k, 1 ≤ k → k ≤ n → fX1_mostLeft N σ (nI k) = some (nI (W k))) (K : Int32 → Int32 → Int32 → zS → Option (Int32 × zS)) (x1 : Int32) : ∀ d k f : Nat, ∀ a : Int32 × Int32, k + d = n + 1 → 1 ≤ k → d < f → fX6_ask_40 N K f x1 a.1 a.2 (nI k) σ = K x1 (aF W d k a).1 (aF W d k a).2 σ := by
  intro d
  induction d with
  | zero =>
    intro k f a hk h1 hf
    obtain ⟨f, rfl⟩ : ∃ k, f = k + 1 := ⟨f - 1, by omega⟩
    rw [fX6_ask_40, h6, if_pos ((nI_ltI (by omega) (by omega)).mpr (by omega))]
    rfl
  | succ d ih =>
    intro k f a hk h1 hf
    obtain ⟨f, rfl⟩ : ∃ k, f = k + 1 := ⟨f - 1, by omega⟩
    rw [fX6_ask_40, h6, if_neg (fun h => by have := (nI_ltI (by omega) (by omega)).mp h; omega), hW k h1 (by omega), Option.bind_some, aF]
    by_cases c : a.1 ≤ nI (W k)
    · rw [if_pos c, if_pos c, fX6_ask_75, nI_add]
      exact ih (k + 1) f a (by omega) (by omega) (by omega)
    · rw [if_neg c, if_neg c, fX6_ask_75, nI_add]
      exact ih (k + 1) f (nI (W k), nI k) (by omega) (by omega) (by omega)
section YA
variable {β : mB} {m : Nat} {A B : Nat → Nat}
theorem y_hist_loop (N : Nat) (hN : 4000 ≤ N) (hO : BOk β) {k : Nat} (hk : k ≤ β.1 0) (K : Int32 → Int32 → Int32 → Int32 → Int32 → zS → Option (Int32 × zS)) (x1 x2 x3 : Int32) : ∀ d c f : Nat, ∀ (τ : zS) (u : Nat → Nat), c + d = 5 ^ β.1 0 → d < f → BM τ 0 β → τ.1 66 1 = nI (β.1 0) → SM τ m A B → (∀ h, h < 40 → τ.2 61 h = nI (u h)) → (∀ h, h < 40 → u h + d ≤ 100000) → ∃ τ' : zS, fX7_ask_63 N K f x1 x2 x3 (nI k) (nI (mx u 40)) (nI c) τ = K x1 x2 x3 (nI k) (nI (mx (fun h => tF β (fitB β A B m) k h (ordsF (β.1 0) d c) (u h)) 40)) τ' ∧ τ'.1 = τ.1 ∧ ∀ q, q ≠ 61 → τ'.2 q = τ.2 q := by
  have b0 := hO.1
  have hp : 5 ^ β.1 0 ≤ 3125 := p5_le b0
  intro d
  induction d with
  | zero =>
    intro c f τ u hc hf hM n1 hS hu hb
    obtain ⟨f, rfl⟩ : ∃ k, f = k + 1 := ⟨f - 1, by omega⟩
    refine ⟨τ, ?_, rfl, fun _ _ => rfl⟩
    rw [fX7_ask_63, n1, y_powerOf N hN b0, Option.bind_some, if_pos ((nI_leI (by omega) (by omega)).mpr (by omega))]
    rfl
  | succ d ih =>
    intro c f τ u hc hf hM n1 hS hu hb
    obtain ⟨f, rfl⟩ : ∃ k, f = k + 1 := ⟨f - 1, by omega⟩
    rw [fX7_ask_63, n1, y_powerOf N hN b0, Option.bind_some, if_neg (fun h => by have := (nI_leI (by omega) (by omega)).mp h; omega), y_doesFit N hN hO hM n1 hS (show c < 5 ^ β.1 0 by omega), Option.bind_some, ordsF]
    by_cases ho : isO (β.1 0) c = true
    · rw [if_pos ho]
      by_cases hf' : fitB β A B m c = true
      · have hd := isO_dig (β.1 0) (by omega) c (by omega) ho
        have hml := mhurt_le hO k (T := fun i => dig (β.1 0) c i) (fun j hj => hd j (by omega))
        have hmx : mx u 40 ≤ 100000 := (mx_le u _ 40).mpr (fun j hj => by have := hb j hj; omega)
        generalize hh0 : mhurt β (fun i => dig (β.1 0) c i) k = h0 at hml
        have h0b := hb h0 (by omega)
        have hz : zin (nI h0) (zlen 61) := m_zin (show h0 < 40 by omega) (by decide)
        have r1 : τ.2 61 (nI h0).toNatClampNeg = nI (u h0) := by rw [nI_clamp (by omega)]; exact hu h0 (by omega)
        have r2 : (zpa τ 61 (upd (τ.2 61) h0 (nI (u h0 + 1)))).2 61 (nI h0).toNatClampNeg = nI (u h0 + 1) := by
          rw [zpa_at, zupd, nI_clamp (by omega), if_pos rfl]
        obtain ⟨τ', g1, g2, g3⟩ := ih (c + 1) f (zpa τ 61 (upd (τ.2 61) h0 (nI (u h0 + 1)))) (fun h => if h0 = h then u h + 1 else u h) (by omega) (by omega) (BM_eq hO (fun _ _ _ => rfl) hM) n1 hS (fun h hh => by
          rw [zpa_at, zupd]
          by_cases e : h = h0
          · rw [if_pos e, if_pos e.symm, e]
          · rw [if_neg e, if_neg (fun h' => e h'.symm)]; exact hu h hh) (fun h hh => by
          have := hb h hh
          split <;> omega)
        refine ⟨τ', ?_, g2, fun q hq => by rw [g3 q hq, zpa_2, if_neg hq]⟩
        have e1 : (fun h => tF β (fitB β A B m) k h (c :: ordsF (β.1 0) d (c + 1)) (u h)) = fun h => tF β (fitB β A B m) k h (ordsF (β.1 0) d (c + 1)) (if h0 = h then u h + 1 else u h) := by
          funext h
          rw [tF, hh0]
          by_cases e : h0 = h
          · rw [if_pos ⟨hf', e⟩, if_pos e]
          · rw [if_neg (fun h' => e h'.2), if_neg e]
        rw [mx_upd (show h0 < 40 by omega)] at g1
        rw [e1, if_pos (show isO (β.1 0) c = true ∧ fitB β A B m c = true from ⟨ho, hf'⟩), if_neg z10, y_hurtsC N hN hO hM n1 (by omega) hk hd, hh0, Option.bind_some, if_pos hz, zlet_eq, if_pos hz, zlet_eq, if_pos hz, zlet_eq, r1, nI_add, m_upd (by omega), r2]
        by_cases c1 : u h0 + 1 ≤ mx u 40
        · rw [if_pos c1] at g1
          rw [if_pos ((nI_leI (by omega) (by omega)).mpr c1), fX7_ask_129, fX7_ask_131, nI_add]
          exact g1
        · rw [if_neg c1] at g1
          rw [if_neg (fun h => c1 ((nI_leI (by omega) (by omega)).mp h)), if_pos hz, zlet_eq, fX7_ask_129, fX7_ask_131, nI_add]
          exact g1
      · have e1 : (fun h => tF β (fitB β A B m) k h (c :: ordsF (β.1 0) d (c + 1)) (u h)) = fun h => tF β (fitB β A B m) k h (ordsF (β.1 0) d (c + 1)) (u h) := by
          funext h
          rw [tF, if_neg (fun h' => hf' h'.1)]
        rw [e1, if_neg (show ¬ (isO (β.1 0) c = true ∧ fitB β A B m c = true) from fun h => hf' h.2), if_pos rfl, fX7_ask_131, nI_add]
        exact ih (c + 1) f τ u (by omega) (by omega) hM n1 hS hu (fun h hh => by have := hb h hh; omega)
    · rw [if_neg ho, if_neg (show ¬ (isO (β.1 0) c = true ∧ fitB β A B m c = true) from fun h => ho h.1), if_pos rfl, fX7_ask_131, nI_add]
      exact ih (c + 1) f τ u (by omega) (by omega) hM n1 hS hu (fun h hh => by have := hb h hh; omega)
theorem y_zero39 (N : Nat) (K : Int32 → Int32 → Int32 → Int32 → Int32 → zS → Option (Int32 × zS)) (x1 x2 x3 x4 x5 : Int32) : ∀ d i : Nat, i + d = 40 → ∀ (f : Nat) (τ : zS), d < f → ∃ τ' : zS, fX7_ask_39 N K f x1 x2 x3 x4 x5 (nI i) τ = K x1 x2 x3 x4 x5 τ' ∧ τ'.1 = τ.1 ∧ (∀ q, q ≠ 61 → τ'.2 q = τ.2 q) ∧ ∀ e, e < 40 → τ'.2 61 e = if i ≤ e then nI 0 else τ.2 61 e := by
  intro d
  induction d with
  | zero =>
    intro i hi f τ hf
    obtain ⟨f, rfl⟩ : ∃ k, f = k + 1 := ⟨f - 1, by omega⟩
    refine ⟨τ, ?_, rfl, fun _ _ => rfl, fun e he => by rw [if_neg (by omega)]⟩
    rw [fX7_ask_39, if_pos ((nI_leI (by decide) (by omega)).mpr (by omega))]
  | succ d ih =>
    intro i hi f τ hf
    obtain ⟨f, rfl⟩ : ∃ k, f = k + 1 := ⟨f - 1, by omega⟩
    obtain ⟨τ', h1, h2, h3, h4⟩ := ih (i + 1) (by omega) f (zpa τ 61 (upd (τ.2 61) i (nI 0))) (by omega)
    refine ⟨τ', ?_, h2, fun r hr => by rw [h3 r hr, zpa_2, if_neg hr], fun e he => ?_⟩
    · rw [fX7_ask_39, if_neg (fun h => by have := (nI_leI (by decide) (by omega)).mp h; omega), if_pos (m_zin (show i < zlen 61 from (show i < 40 by omega)) (by decide)), zlet_eq, m_upd (by omega), nI_add]
      exact h1
    · rw [h4 e he, zpa_at, zupd]
      by_cases c : i + 1 ≤ e
      · rw [if_pos c, if_pos (by omega)]
      · rw [if_neg c]
        by_cases c2 : e = i
        · rw [if_pos c2, if_pos (by omega)]
        · rw [if_neg c2, if_neg (by omega)]
theorem y_ask_loop (N : Nat) (hN : 4000 ≤ N) (hO : BOk β) (K : Int32 → Int32 → Int32 → zS → Option (Int32 × zS)) (x1 : Int32) : ∀ d k f : Nat, ∀ (τ : zS) (a : Int32 × Int32), k + d = β.1 0 + 1 → 1 ≤ k → d < f → BM τ 0 β → τ.1 66 1 = nI (β.1 0) → SM τ m A B → ∃ τ' : zS, fX7_ask_24 N K f x1 a.1 a.2 (nI k) τ = K x1 (aF (fun k => mx (fun h => tF β (fitB β A B m) k h (ordsF (β.1 0) (5 ^ β.1 0) 0) 0) 40) d k a).1 (aF (fun k => mx (fun h => tF β (fitB β A B m) k h (ordsF (β.1 0) (5 ^ β.1 0) 0) 0) 40) d k a).2 τ' ∧ τ'.1 = τ.1 ∧ ∀ q, q ≠ 61 → τ'.2 q = τ.2 q := by
  have b0 := hO.1
  have hp : 5 ^ β.1 0 ≤ 3125 := p5_le b0
  intro d
  induction d with
  | zero =>
    intro k f τ a hk h1 hf hM n1 hS
    obtain ⟨f, rfl⟩ : ∃ k, f = k + 1 := ⟨f - 1, by omega⟩
    refine ⟨τ, ?_, rfl, fun _ _ => rfl⟩
    rw [fX7_ask_24, n1, if_pos ((nI_ltI (by omega) (by omega)).mpr (by omega))]
    rfl
  | succ d ih =>
    intro k f τ a hk h1 hf hM n1 hS
    obtain ⟨f, rfl⟩ : ∃ k, f = k + 1 := ⟨f - 1, by omega⟩
    obtain ⟨τ1, e1, e2, e3, e4⟩ := y_zero39 N (fX7_ask_60 N (fX7_ask_24 N K f) K) x1 a.1 a.2 (nI k) (nI 0) 40 0 (by omega) N τ (by omega)
    have hM1 : BM τ1 0 β := BM_eq hO (fun _ _ _ => by rw [e3 55 (by decide)]) hM
    have n11 : τ1.1 66 1 = nI (β.1 0) := by rw [e2]; exact n1
    have hS1 : SM τ1 m A B := by
      unfold SM at hS ⊢
      rw [e2, e3 60 (by decide)]
      exact hS
    obtain ⟨τ2, g1, g2, g3⟩ := y_hist_loop N hN hO (k := k) (m := m) (A := A) (B := B) (by omega) (fX7_ask_137 N (fX7_ask_24 N K f) K) x1 a.1 a.2 (5 ^ β.1 0) 0 N τ1 (fun _ => 0) (by omega) (by omega) hM1 n11 hS1 (fun h hh => by rw [e4 h hh, if_pos (Nat.zero_le _)]) (fun h _ => by omega)
    have hmx0 : mx (fun _ => 0) 40 = 0 := Nat.le_zero.mp ((mx_le _ 0 40).mpr (fun _ _ => Nat.le_refl _))
    rw [hmx0] at g1
    rw [fX7_ask_24, n1, if_neg (fun h => by have := (nI_ltI (by omega) (by omega)).mp h; omega), e1, fX7_ask_60, g1, fX7_ask_137, aF]
    have hM2 : BM τ2 0 β := BM_eq hO (fun _ _ _ => by rw [g3 55 (by decide)]) hM1
    have n12 : τ2.1 66 1 = nI (β.1 0) := by rw [g2]; exact n11
    have hS2 : SM τ2 m A B := by
      unfold SM at hS1 ⊢
      rw [g2, g3 60 (by decide)]
      exact hS1
    by_cases c : a.1 ≤ nI (mx (fun h => tF β (fitB β A B m) k h (ordsF (β.1 0) (5 ^ β.1 0) 0) 0) 40)
    · obtain ⟨τ', q1, q2, q3⟩ := ih (k + 1) f τ2 a (by omega) (by omega) (by omega) hM2 n12 hS2
      rw [if_pos c, if_pos c, fX7_ask_149, if_pos c, fX7_ask_162, nI_add]
      exact ⟨τ', q1, by rw [q2, g2, e2], fun q hq => by rw [q3 q hq, g3 q hq, e3 q hq]⟩
    · obtain ⟨τ', q1, q2, q3⟩ := ih (k + 1) f τ2 (nI (mx (fun h => tF β (fitB β A B m) k h (ordsF (β.1 0) (5 ^ β.1 0) 0) 0) 40), nI k) (by omega) (by omega) (by omega) hM2 n12 hS2
      rw [if_neg c, if_neg c, fX7_ask_149, if_neg c, fX7_ask_162, nI_add]
      exact ⟨τ', q1, by rw [q2, g2, e2], fun q hq => by rw [q3 q hq, g3 q hq, e3 q hq]⟩
end YA
theorem okp_ask (N : Nat) (hN : 4000 ≤ N) : ok_ask N Rel := by
  intro σ τ x1 hrel
  obtain ⟨β, ⟨hO, hX, hM, n1, n2⟩, hrest⟩ := id hrel
  obtain ⟨m, A, B, hS, hS'⟩ := RS_get hrest.2.2.1
  have b0 := hO.1
  have hp : 5 ^ β.1 0 ≤ 3125 := p5_le b0
  obtain ⟨s1, s2, s3, s4⟩ := ords_spec b0
  have hfl := mfact_le (β.1 0) (by omega)
  unfold fX6_ask fX7_ask
  by_cases hx : ∃ k, 0 ≤ k ∧ k ≤ 1 ∧ x1 = nI k
  · obtain ⟨k, -, hk, rfl⟩ := hx
    have wm : fX7_in N (nI k).toInt64 0 1 = some 1 := y_in1 N (lo := 0) (hi := 1) (by omega) hk (by decide)
    obtain ⟨σ', e1, e2, e3, e4, e5, e6⟩ := x_seekFitting N hN hO hX hS
    have hR : Rel σ' τ := FR_rel e2 hrel
    have hfits : fX7_fits N τ (nI 0) = some (nI (fF (fitB β A B m) (ordsF (β.1 0) (5 ^ β.1 0) 0) (0, 0)).1) := by
      unfold fX7_fits fX7_fits_44
      rw [if_pos m_zero]
      have := y_fits_loop N hN hO hM n1 hS' (fX7_fits_134 N τ) (x1 := nI 0) (w := none) (Or.inr ⟨rfl, fun ⟨k, h1, h2, h3⟩ => by have := (nI_eq (by decide) (by omega)).mp h3; omega⟩) (5 ^ β.1 0) 0 N (0, 0) 0 (by omega) (by omega) (by dsimp only; omega)
      rw [show fX7_fits_55 N τ (fX7_fits_134 N τ) N (nI 0) (nI 0) (-4) (nI 0) (nI 0) = _ from this]
      unfold fX7_fits_134
      rw [if_pos m_zero]
    have hW : ∀ k, 1 ≤ k → k ≤ β.1 0 → fX1_mostLeft N σ' (nI k) = some (nI (mx (fun h => tF β (fitB β A B m) k h (ordsF (β.1 0) (5 ^ β.1 0) 0) 0) 40)) := fun k h1 h2 => x_most N hN (by omega) (e6 k h1 h2) (fun j _ => by
      have := tF_le β (fitB β A B m) k j (ordsF (β.1 0) (5 ^ β.1 0) 0) 0
      omega)
    obtain ⟨τ', g1, g2, g3⟩ := y_ask_loop N hN hO (m := m) (A := A) (B := B) (fX7_ask_169 N) (nI k) (β.1 0) 1 N τ (nI (fF (fitB β A B m) (ordsF (β.1 0) (5 ^ β.1 0) 0) (0, 0)).1, -4) (by omega) (by omega) (by omega) hM n1 hS'
    have gx := x_ask_loop N b0 (FR_X e2 hX).1 hW (fX6_ask_81 N) (nI k) (β.1 0) 1 N (nI (fF (fitB β A B m) (ordsF (β.1 0) (5 ^ β.1 0) 0) (0, 0)).1, -4) (by omega) (by omega) (by omega)
    have hR' : Rel σ' τ' := by
      obtain ⟨β2, ⟨hO2, hX2, hM2, m1, m2⟩, hrest2⟩ := hR
      exact Rel_band (β' := β2) hrest2 ⟨hO2, hX2, BM_eq hO2 (fun _ _ _ => by rw [g3 55 (by decide)]) hM2, by rw [g2]; exact m1, by rw [g2]; exact m2⟩ rfl rfl (fun q _ _ _ => rfl) (fun q _ _ => rfl) (fun k hk => by rw [g2]) (fun q _ h61 => g3 q h61) (fun i _ _ => by rw [g3 55 (by decide)])
    rw [x_within1 N (by omega) hk (by decide), Option.bind_some, if_neg z10, e1, Option.bind_some, zlet_eq, e3, wm, Option.bind_some, if_neg z10, hfits, Option.bind_some]
    rw [show fX6_ask_40 N (fX6_ask_81 N) N (nI k) (nI (fF (fitB β A B m) (ordsF (β.1 0) (5 ^ β.1 0) 0) (0, 0)).1) (-4) (nI 1) σ' = _ from gx, show fX7_ask_24 N (fX7_ask_169 N) N (nI k) (nI (fF (fitB β A B m) (ordsF (β.1 0) (5 ^ β.1 0) 0) (0, 0)).1) (-4) (nI 1) τ = _ from g1]
    unfold fX6_ask_81 fX7_ask_169 fX6_ask_91 fX7_ask_179
    by_cases c0 : nI k = 0
    · rw [if_pos c0, if_pos c0, ite_self]
      exact ⟨_, _, rfl, rfl, rfl, hR'⟩
    · rw [if_neg c0, if_neg c0]
      by_cases c4 : (aF (fun k => mx (fun h => tF β (fitB β A B m) k h (ordsF (β.1 0) (5 ^ β.1 0) 0) 0) 40) (β.1 0) 1 (nI (fF (fitB β A B m) (ordsF (β.1 0) (5 ^ β.1 0) 0) (0, 0)).1, -4)).2 = -4
      · rw [if_pos c4, if_pos c4]; exact ⟨_, _, rfl, rfl, rfl, hR'⟩
      · rw [if_neg c4, if_neg c4]; exact ⟨_, _, rfl, rfl, rfl, hR'⟩
  · have wm : fX7_in N x1.toInt64 0 1 = some 0 := y_in0 N (lo := 0) (hi := 1) (by decide) (by decide) hx
    rw [x_within0 N (by decide) (by decide) hx, Option.bind_some, if_pos rfl, wm, Option.bind_some, if_pos rfl]
    exact ⟨_, _, rfl, rfl, rfl, hrel⟩

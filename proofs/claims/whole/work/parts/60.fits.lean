/-! orders that fit what was seen -/
def mfit (β : mB) (A B T : Nat → Nat) : Nat → Nat → Bool
  | 0, _ => true
  | d + 1, i => if β.1 0 < A i then false else if mhurt β T (A i) = B i then mfit β A B T d (i + 1) else false
def fF (F : Nat → Bool) : List Nat → Nat × Nat → Nat × Nat
  | [], a => a
  | c :: t, a => fF F t (if F c = true then (a.1 + 1, if a.1 = 0 then c else a.2) else a)
def lF (n : Nat) (F : Nat → Bool) (i : Nat) : List Nat → Nat → Nat
  | [], a => a
  | c :: t, a => lF n F i t (if F c = true then a ||| 2 ^ dig n c i else a)
def tF (β : mB) (F : Nat → Bool) (k h : Nat) : List Nat → Nat → Nat
  | [], a => a
  | c :: t, a => tF β F k h t (if F c = true ∧ mhurt β (fun i => dig (β.1 0) c i) k = h then a + 1 else a)
/-- what both sides hold of the hurts that were seen -/
def SX (σ : zS) (m : Nat) (A B : Nat → Nat) : Prop := σ.1 51 2 = nI m ∧ m ≤ 6 ∧ ∀ i, i < m → 1 ≤ A i ∧ A i ≤ 5 ∧ B i ≤ 99 ∧ σ.2 25 i = nI (A i) ∧ σ.2 26 i = nI (B i)
def SM (τ : zS) (m : Nat) (A B : Nat → Nat) : Prop := τ.1 66 28 = nI m ∧ m ≤ 6 ∧ ∀ i, i < m → 1 ≤ A i ∧ A i ≤ 5 ∧ B i ≤ 99 ∧ τ.2 60 (2 * i) = nI (A i) ∧ τ.2 60 (2 * i + 1) = nI (B i)
theorem RS_get {σ τ : zS} (h : RS σ τ) : ∃ (m : Nat) (A B : Nat → Nat), SX σ m A B ∧ SM τ m A B := by
  obtain ⟨m, h1, h2, h3, h4⟩ := h
  have key : ∀ i, i < m → 1 ≤ (σ.2 25 i).toNatClampNeg ∧ (σ.2 25 i).toNatClampNeg ≤ 5 ∧ (σ.2 26 i).toNatClampNeg ≤ 99 ∧ σ.2 25 i = nI (σ.2 25 i).toNatClampNeg ∧ σ.2 26 i = nI (σ.2 26 i).toNatClampNeg ∧ τ.2 60 (2 * i) = nI (σ.2 25 i).toNatClampNeg ∧ τ.2 60 (2 * i + 1) = nI (σ.2 26 i).toNatClampNeg := by
    intro i hi
    obtain ⟨a, b, g1, g2, g3, g4, g5, g6, g7⟩ := h4 i hi
    rw [g4, g6, nI_clamp (by omega), nI_clamp (by omega)]
    exact ⟨g1, g2, g3, rfl, rfl, g5, g7⟩
  refine ⟨m, fun i => (σ.2 25 i).toNatClampNeg, fun i => (σ.2 26 i).toNatClampNeg, ⟨h2, h1, fun i hi => ?_⟩, ⟨h3, h1, fun i hi => ?_⟩⟩
  · obtain ⟨k1, k2, k3, k4, k5, k6, k7⟩ := key i hi
    exact ⟨k1, k2, k3, k4, k5⟩
  · obtain ⟨k1, k2, k3, k4, k5, k6, k7⟩ := key i hi
    exact ⟨k1, k2, k3, k6, k7⟩
theorem FR_SX {σ σ' : zS} {m : Nat} {A B : Nat → Nat} (h : FR σ σ') (hs : SX σ m A B) : SX σ' m A B := by
  unfold SX at hs ⊢
  rw [h.1 51 (by decide), h.2 25 (by decide), h.2 26 (by decide)]
  exact hs
theorem x_seen_loop (N : Nat) (hN : 4000 ≤ N) {σ : zS} {β : mB} (hO : BOk β) (hX : BX σ 42 β) {m : Nat} {A B T : Nat → Nat} (hS : SX σ m A B) (hT : ∀ i, i < β.1 0 → σ.2 30 i = nI (T i) ∧ T i < β.1 0) : ∀ d i f : Nat, i + d = m → d < f → fX1_isAsSeen_2 N σ f 42 (nI i) = some (if mfit β A B T d i = true then 1 else 0) := by
  have b0 := hO.1
  obtain ⟨s1, s2, s3⟩ := hS
  intro d
  induction d with
  | zero =>
    intro i f hi hf
    obtain ⟨f, rfl⟩ : ∃ k, f = k + 1 := ⟨f - 1, by omega⟩
    rw [fX1_isAsSeen_2, s1, if_pos ((nI_leI (by omega) (by omega)).mpr (by omega)), mfit, if_pos rfl]
  | succ d ih =>
    intro i f hi hf
    obtain ⟨f, rfl⟩ : ∃ k, f = k + 1 := ⟨f - 1, by omega⟩
    obtain ⟨q1, q2, q3, q4', q5'⟩ := s3 i (by omega)
    have q4 : σ.2 25 (nI i).toNatClampNeg = nI (A i) := by rw [nI_clamp (by omega)]; exact q4'
    have q5 : σ.2 26 (nI i).toNatClampNeg = nI (B i) := by rw [nI_clamp (by omega)]; exact q5'
    rw [fX1_isAsSeen_2, s1, if_neg (fun h => by have := (nI_leI (by omega) (by omega)).mp h; omega), if_pos (m_zin (show i < zlen 25 from (show i < 6 by omega)) (by decide)), zlet_eq, q4, show σ.1 42 6 = nI (β.1 0) from hX.1, mfit]
    by_cases c1 : β.1 0 < A i
    · rw [if_pos ((nI_ltI (by omega) (by omega)).mpr c1), if_pos c1]
      rfl
    · have hml := mhurt_le hO (A i) (T := T) (fun j hj => (hT j (by omega)).2)
      rw [if_neg (fun h => c1 ((nI_ltI (by omega) (by omega)).mp h)), if_neg c1, x_hurtBehind N hN (by decide) (by decide) hO hX (row := 30) (T := T) (show A i ≤ 5 by omega) (by decide) (fun j hj => hT j (by omega)), Option.bind_some, if_pos (m_zin (show i < zlen 26 from (show i < 6 by omega)) (by decide)), zlet_eq, q5]
      by_cases c2 : mhurt β T (A i) = B i
      · rw [if_pos (by rw [c2]), if_pos c2, nI_add]
        exact ih (i + 1) f (by omega) (by omega)
      · rw [if_neg (fun h => c2 ((nI_eq (by omega) (by omega)).mp h)), if_neg c2]
        rfl
section EN
variable {β : mB} {T : Nat → Nat}
theorem x_enter_loop (N : Nat) (hO : BOk β) (hTn : ∀ i, i < β.1 0 → T i < β.1 0) : ∀ d i f : Nat, ∀ (σ : zS) (li : Nat → Nat) (t : Nat → Nat → Nat), i + d = β.1 0 → d < f → BX σ 42 β → RW σ T (β.1 0) → (∀ j, j < β.1 0 → σ.2 32 j = nI (li j)) → (∀ k, 1 ≤ k → k ≤ β.1 0 → ∀ h, h < 40 → σ.2 33 (k * 40 + h) = nI (t k h)) → ∃ σ' : zS, fX1_enter_35 N f 42 (nI (mhurt β T i)) (nI i) σ = some σ' ∧ σ'.1 = σ.1 ∧ (∀ q, q ≠ 32 → q ≠ 33 → σ'.2 q = σ.2 q) ∧ (∀ j, j < β.1 0 → σ'.2 32 j = nI (if i ≤ j then li j ||| 2 ^ T j else li j)) ∧ (∀ k, 1 ≤ k → k ≤ β.1 0 → ∀ h, h < 40 → σ'.2 33 (k * 40 + h) = nI (if i < k ∧ mhurt β T k = h then t k h + 1 else t k h)) := by
  have b0 := hO.1
  intro d
  induction d with
  | zero =>
    intro i f σ li t hi hf hX hrw hl ht
    obtain ⟨f, rfl⟩ : ∃ k, f = k + 1 := ⟨f - 1, by omega⟩
    refine ⟨σ, ?_, rfl, fun _ _ _ => rfl, fun j hj => by rw [if_neg (by omega)]; exact hl j hj, fun k h1 h2 h hh => by rw [if_neg (by omega)]; exact ht k h1 h2 h hh⟩
    rw [fX1_enter_35, show σ.1 42 6 = nI (β.1 0) from hX.1, if_pos ((nI_leI (by omega) (by omega)).mpr (by omega))]
  | succ d ih =>
    intro i f σ li t hi hf hX hrw hl ht
    obtain ⟨f, rfl⟩ : ∃ k, f = k + 1 := ⟨f - 1, by omega⟩
    have hti := hTn i (by omega)
    have hml := mhurt_le hO (i + 1) (T := T) (fun j hj => hTn j (by omega))
    have e1 : mhurt β T (i + 1) = mhurt β T i + mbear (β.2 0 (T i)) 1 := rfl
    let σ7 : zS := zpa σ 32 (upd (σ.2 32) i (nI (li i ||| 2 ^ T i)))
    have hX7 : BX σ7 42 β := BX_eq rfl (fun k hk => by show (zpa σ 32 _).2 _ = _; rw [zpa_2, if_neg (by unfold zba; omega)]) hX
    have h33 : σ7.2 33 = σ.2 33 := rfl
    have h30 : σ7.2 30 = σ.2 30 := rfl
    let σ14 : zS := zpa σ7 33 (upd (σ.2 33) ((i + 1) * 40 + mhurt β T (i + 1)) (nI (t (i + 1) (mhurt β T (i + 1)) + 1)))
    have hX14 : BX σ14 42 β := BX_eq rfl (fun k hk => by show (zpa σ7 33 _).2 _ = _; rw [zpa_2, if_neg (by unfold zba; omega)]) hX7
    obtain ⟨σ', g1, g2, g3, g4, g5⟩ := ih (i + 1) f σ14 (fun j => if j = i then li i ||| 2 ^ T i else li j) (fun k h => if k = i + 1 ∧ h = mhurt β T (i + 1) then t (i + 1) (mhurt β T (i + 1)) + 1 else t k h) (by omega) (by omega) hX14 hrw (fun j hj => by
        show (if j = i then nI (li i ||| 2 ^ T i) else σ.2 32 j) = _
        by_cases c : j = i
        · rw [if_pos c, if_pos c]
        · rw [if_neg c, if_neg c]; exact hl j hj) (fun k h1 h2 h hh => by
        show (if k * 40 + h = (i + 1) * 40 + mhurt β T (i + 1) then nI (t (i + 1) (mhurt β T (i + 1)) + 1) else σ.2 33 (k * 40 + h)) = _
        by_cases c : k = i + 1 ∧ h = mhurt β T (i + 1)
        · rw [if_pos (by omega), if_pos c]
        · rw [if_neg (by omega), if_neg c]; exact ht k h1 h2 h hh)
    refine ⟨σ', ?_, g2, fun q h1 h2 => by rw [g3 q h1 h2]; show (zpa σ7 33 _).2 q = _; rw [zpa_2, if_neg h2]; show (zpa σ 32 _).2 q = _; rw [zpa_2, if_neg h1], fun j hj => ?_, fun k h1 h2 h hh => ?_⟩
    · have hz32 : zin (nI i) (zlen 32) := m_zin (show i < 5 by omega) (by decide)
      have hz30 : zin (nI i) (zlen 30) := m_zin (show i < 5 by omega) (by decide)
      have hz33 : zin (nI ((i + 1) * 40 + mhurt β T (i + 1))) (zlen 33) := m_zin (show (i + 1) * 40 + mhurt β T (i + 1) < 240 by omega) (by decide)
      have r33 : σ7.2 33 (nI ((i + 1) * 40 + mhurt β T (i + 1))).toNatClampNeg = nI (t (i + 1) (mhurt β T (i + 1))) := by
        rw [nI_clamp (by omega), h33]
        exact ht (i + 1) (by omega) (by omega) _ (by omega)
      have r30 : σ7.2 30 (nI i).toNatClampNeg = nI (T i) := by
        rw [nI_clamp (by omega), h30]; exact hrw i (by omega)
      have r30' : σ.2 30 (nI i).toNatClampNeg = nI (T i) := by
        rw [nI_clamp (by omega)]; exact hrw i (by omega)
      have r32 : σ.2 32 (nI i).toNatClampNeg = nI (li i) := by
        rw [nI_clamp (by omega)]; exact hl i (by omega)
      rw [fX1_enter_35, show σ.1 42 6 = nI (β.1 0) from hX.1, if_neg (fun h => by have := (nI_leI (by omega) (by omega)).mp h; omega), if_pos hz32, zlet_eq, if_pos hz30, zlet_eq, if_pos hz32, zlet_eq, if_pos hz30, zlet_eq, r30', r32, m_bit (by omega), m_or, m_upd (show i < 2 ^ 31 by omega)]
      rw [show (zpa σ 32 (upd (σ.2 32) i (nI (li i ||| 2 ^ T i)))) = σ7 from rfl, r30, x_hurts N (by decide) (by decide) hO hX7 hti, Option.bind_some, nI_add, nI_add, ← e1, m_mul, nI_add, if_pos hz33, zlet_eq, if_pos hz33, zlet_eq, r33, nI_add, m_upd (by omega), h33]
      exact g1
    · rw [g4 j hj]
      by_cases c : i + 1 ≤ j
      · rw [if_pos c, if_pos (show i ≤ j by omega), if_neg (show ¬ j = i by omega)]
      · rw [if_neg c]
        by_cases c2 : j = i
        · rw [if_pos c2, if_pos (by omega), c2]
        · rw [if_neg c2, if_neg (by omega)]
    · rw [g5 k h1 h2 h hh]
      by_cases c : i + 1 < k ∧ mhurt β T k = h
      · rw [if_pos c, if_pos (show i < k ∧ mhurt β T k = h from ⟨by omega, c.2⟩), if_neg (by omega)]
      · rw [if_neg c]
        by_cases c2 : k = i + 1 ∧ h = mhurt β T (i + 1)
        · rw [if_pos c2, if_pos (show i < k ∧ mhurt β T k = h from ⟨by omega, by rw [c2.1]; exact c2.2.symm⟩), c2.1, c2.2]
        · rw [if_neg c2, if_neg (fun h' => by
            by_cases e : k = i + 1
            · exact c2 ⟨e, by rw [← e]; exact h'.2.symm⟩
            · exact c ⟨by omega, h'.2⟩)]
end EN
/-- what the class holds behind a search for fitting orders -/
def FS (σ : zS) (n : Nat) (a : Nat × Nat) (li : Nat → Nat) (t : Nat → Nat → Nat) : Prop := σ.1 53 4 = nI a.1 ∧ (a.1 = 0 ∨ ∀ j, j < n → σ.2 31 j = nI (dig n a.2 j)) ∧ (∀ j, j < n → σ.2 32 j = nI (li j)) ∧ ∀ k, 1 ≤ k → k ≤ n → ∀ h, h < 40 → σ.2 33 (k * 40 + h) = nI (t k h)
theorem x_fit_loop (N : Nat) (hN : 4000 ≤ N) {β : mB} (hO : BOk β) {m : Nat} {A B : Nat → Nat} {F : Nat → Bool} (hF : ∀ c, F c = mfit β A B (fun i => dig (β.1 0) c i) m 0) {tot : Nat} (htot : tot ≤ 1000) : ∀ (l : List Nat) (i f : Nat) (σ : zS) (a : Nat × Nat) (li : Nat → Nat) (t : Nat → Nat → Nat), i + l.length = tot → l.length < f → a.1 + l.length ≤ 1000 → chainB (β.1 0) l = true → (∀ c, c ∈ l → ∀ j, j < β.1 0 → dig (β.1 0) c j < β.1 0) → BX σ 42 β → SX σ m A B → RWH σ (β.1 0) l → FS σ (β.1 0) a li t → ∃ σ' : zS, fX1_seekFitting_67 N f 42 (nI tot) (nI i) σ = some σ' ∧ FR σ σ' ∧ FS σ' (β.1 0) (fF F l a) (fun j => lF (β.1 0) F j l (li j)) (fun k h => tF β F k h l (t k h)) := by
  have b0 := hO.1
  intro l
  induction l with
  | nil =>
    intro i f σ a li t hi hf ha _ _ hX hS _ hfs
    obtain ⟨f, rfl⟩ : ∃ k, f = k + 1 := ⟨f - 1, by omega⟩
    refine ⟨σ, ?_, FR_rfl σ, hfs⟩
    rw [fX1_seekFitting_67, if_pos ((nI_leI (by omega) (by simp at hi; omega)).mpr (by simp at hi; omega))]
  | cons c l ih =>
    intro i f σ a li t hi hf ha hch hd hX hS hrw hfs
    have hi' : i + (l.length + 1) = tot := hi
    have hf' : l.length + 1 < f := hf
    have ha' : a.1 + (l.length + 1) ≤ 1000 := ha
    obtain ⟨f, rfl⟩ : ∃ k, f = k + 1 := ⟨f - 1, by omega⟩
    have hdc := hd c (List.mem_cons_self ..)
    have hrw : RW σ (fun i => dig (β.1 0) c i) (β.1 0) := hrw
    have hT : ∀ i, i < β.1 0 → σ.2 30 i = nI (dig (β.1 0) c i) ∧ dig (β.1 0) c i < β.1 0 := fun i hi => ⟨hrw i hi, hdc i hi⟩
    have hm6 := hS.2.1
    have hseen : fX1_isAsSeen N σ 42 = some (if F c = true then 1 else 0) := by
      rw [hF c]
      exact x_seen_loop N hN hO hX hS hT m 0 N (by omega) (by omega)
    have key : ∀ (σ2 : zS) (a2 : Nat × Nat) (li2 : Nat → Nat) (t2 : Nat → Nat → Nat), a2.1 + l.length ≤ 1000 → FR σ σ2 → σ2.2 30 = σ.2 30 → FS σ2 (β.1 0) a2 li2 t2 → ∃ σ' : zS, fX1_seekFitting_87 N (fX1_seekFitting_67 N f) 42 (nI tot) (nI i) σ2 = some σ' ∧ FR σ σ' ∧ FS σ' (β.1 0) (fF F l a2) (fun j => lF (β.1 0) F j l (li2 j)) (fun k h => tF β F k h l (t2 k h)) := by
      intro σ2 a2 li2 t2 ha2 hfr h30 hfs2
      obtain ⟨σ3, e1, e2, e3, e4, e5⟩ := x_next N hN (by omega) hch (σ := σ2) (fun k hk => by rw [h30]; exact hrw k hk)
      have hfr3 := FR_tr hfr (FR_30 e4 e5)
      obtain ⟨p1, p2, p3, p4⟩ := hfs2
      obtain ⟨σ4, g1, g2, g3⟩ := ih (i + 1) f σ3 a2 li2 t2 (by omega) (by omega) ha2 e3 (fun c' hc' => hd c' (List.mem_cons_of_mem _ hc')) (FR_X hfr3 hX) (FR_SX hfr3 hS) e2 ⟨by rw [e4]; exact p1, p2.imp id (fun h j hj => by rw [e5 31 (by decide)]; exact h j hj), fun j hj => by rw [e5 32 (by decide)]; exact p3 j hj, fun k h1 h2 h hh => by rw [e5 33 (by decide)]; exact p4 k h1 h2 h hh⟩
      refine ⟨σ4, ?_, FR_tr hfr3 g2, g3⟩
      rw [fX1_seekFitting_87, show σ2.1 42 6 = nI (β.1 0) from (FR_X hfr hX).1, e1, Option.bind_some, nI_add]
      exact g1
    rw [fX1_seekFitting_67, if_neg (fun h => by have := (nI_leI (by omega) (by omega)).mp h; omega), hseen, Option.bind_some]
    obtain ⟨p1, p2, p3, p4⟩ := id hfs
    by_cases c1 : F c = true
    · rw [if_pos c1, if_neg z10]
      -- the state with the first one, then the count
      have enter : ∀ (σ3 : zS), FR σ σ3 → σ3.2 30 = σ.2 30 → σ3.2 32 = σ.2 32 → σ3.2 33 = σ.2 33 → σ3.1 53 4 = nI a.1 → (∀ j, j < β.1 0 → σ3.2 31 j = nI (dig (β.1 0) (if a.1 = 0 then c else a.2) j)) → ∃ σ4 : zS, fX1_enter_21 N 42 σ3 = some σ4 ∧ FR σ σ4 ∧ σ4.2 30 = σ.2 30 ∧ FS σ4 (β.1 0) (a.1 + 1, if a.1 = 0 then c else a.2) (fun j => li j ||| 2 ^ dig (β.1 0) c j) (fun k h => if mhurt β (fun i => dig (β.1 0) c i) k = h then t k h + 1 else t k h) := by
        intro σ3 hfr h30 h32 h33 h4 h31
        have hfr' : FR σ (zpf σ3 53 4 (nI (a.1 + 1))) := FR_tr hfr ⟨fun q hq => by rw [zpf_1, if_neg hq], fun q _ => rfl⟩
        obtain ⟨σ4, g1, g2, g3, g4, g5⟩ := x_enter_loop N hO (T := fun i => dig (β.1 0) c i) hdc (β.1 0) 0 N (zpf σ3 53 4 (nI (a.1 + 1))) li t (by omega) (by omega) (FR_X hfr' hX) (fun k hk => by rw [zpf_2, h30]; exact hrw k hk) (fun j hj => by rw [zpf_2, h32]; exact p3 j hj) (fun k h1 h2 h hh => by rw [zpf_2, h33]; exact p4 k h1 h2 h hh)
        refine ⟨σ4, ?_, FR_tr hfr' ⟨fun q _ => by rw [g2], fun q hq => g3 q (by omega) (by omega)⟩, by rw [g3 30 (by decide) (by decide)]; exact h30, ?_, Or.inr (fun j hj => by rw [g3 31 (by decide) (by decide)]; exact h31 j hj), fun j hj => by rw [g4 j hj, if_pos (Nat.zero_le _)], fun k h1 h2 h hh => ?_⟩
        · rw [fX1_enter_21, h4, nI_add, zlet_eq]
          exact g1
        · rw [g2]; rfl
        · rw [g5 k h1 h2 h hh]
          by_cases cc : mhurt β (fun i => dig (β.1 0) c i) k = h
          · rw [if_pos ⟨by omega, cc⟩]; dsimp only; rw [if_pos cc]
          · rw [if_neg (fun h' => cc h'.2)]; dsimp only; rw [if_neg cc]
      have fin : ∀ σ4 : zS, fX1_enter N σ 42 = some σ4 → FR σ σ4 → σ4.2 30 = σ.2 30 → FS σ4 (β.1 0) (a.1 + 1, if a.1 = 0 then c else a.2) (fun j => li j ||| 2 ^ dig (β.1 0) c j) (fun k h => if mhurt β (fun i => dig (β.1 0) c i) k = h then t k h + 1 else t k h) → ∃ σ' : zS, ((fX1_enter N σ 42).bind fun q4 => fX1_seekFitting_87 N (fX1_seekFitting_67 N f) 42 (nI tot) (nI i) q4) = some σ' ∧ FR σ σ' ∧ FS σ' (β.1 0) (fF F (c :: l) a) (fun j => lF (β.1 0) F j (c :: l) (li j)) (fun k h => tF β F k h (c :: l) (t k h)) := by
        intro σ4 q1 q2 q3 q4
        obtain ⟨σ', r1, r2, r3⟩ := key σ4 _ _ _ (show a.1 + 1 + l.length ≤ 1000 by omega) q2 q3 q4
        rw [q1, Option.bind_some]
        refine ⟨σ', r1, r2, ?_⟩
        have w1 : fF F (c :: l) a = fF F l (a.1 + 1, if a.1 = 0 then c else a.2) := by rw [fF, if_pos c1]
        have w2 : (fun j => lF (β.1 0) F j (c :: l) (li j)) = fun j => lF (β.1 0) F j l (li j ||| 2 ^ dig (β.1 0) c j) := by funext j; rw [lF, if_pos c1]
        have w3 : (fun k h => tF β F k h (c :: l) (t k h)) = fun k h => tF β F k h l (if mhurt β (fun i => dig (β.1 0) c i) k = h then t k h + 1 else t k h) := by
          funext k h
          rw [tF]
          by_cases cc : mhurt β (fun i => dig (β.1 0) c i) k = h
          · rw [if_pos ⟨c1, cc⟩, if_pos cc]
          · rw [if_neg (fun h' => cc h'.2), if_neg cc]
        rw [w1, w2, w3]
        exact r3
      by_cases c0 : a.1 = 0
      · have q31 : ∀ j, j < β.1 0 → (zpa σ 31 (va_cpy (σ.2 30) (σ.2 31) (nI 0).toNatClampNeg (nI 0).toNatClampNeg (nI 5).toNatClampNeg)).2 31 j = nI (dig (β.1 0) (if a.1 = 0 then c else a.2) j) := fun j hj => by
          rw [zpa_at, x_cpy (by decide), if_pos (by omega), if_pos c0]
          exact hrw j hj
        obtain ⟨σ4, q1, q2, q3, q4⟩ := enter (zpa σ 31 (va_cpy (σ.2 30) (σ.2 31) (nI 0).toNatClampNeg (nI 0).toNatClampNeg (nI 5).toNatClampNeg)) ⟨fun _ _ => rfl, fun q hq => by rw [zpa_2, if_neg (by omega)]⟩ rfl rfl rfl p1 q31
        refine fin σ4 ?_ q2 q3 q4
        unfold fX1_enter
        rw [p1, c0, if_pos m_zero, if_pos (z_cond (n := 5) (a := zlen 30) (b := zlen 31) (by decide) (by decide) (by decide)), zlet_eq]
        exact q1
      · obtain ⟨σ4, q1, q2, q3, q4⟩ := enter σ (FR_rfl σ) rfl rfl rfl p1 (fun j hj => by
          rw [if_neg c0]
          rcases p2 with h | h
          · exact absurd h c0
          · exact h j hj)
        refine fin σ4 ?_ q2 q3 q4
        unfold fX1_enter
        rw [p1, if_neg (show ¬ nI a.1 = 0 from fun h => c0 ((nI_eq (a := a.1) (b := 0) (by omega) (by decide)).mp h))]
        exact q1
    · rw [if_neg c1, if_pos rfl]
      have w1 : fF F (c :: l) a = fF F l a := by rw [fF, if_neg c1]
      have w2 : (fun j => lF (β.1 0) F j (c :: l) (li j)) = fun j => lF (β.1 0) F j l (li j) := by funext j; rw [lF, if_neg c1]
      have w3 : (fun k h => tF β F k h (c :: l) (t k h)) = fun k h => tF β F k h l (t k h) := by
        funext k h
        rw [tF, if_neg (fun h' => c1 h'.1)]
      rw [w1, w2, w3]
      exact key σ a li t (by omega) (FR_rfl σ) rfl hfs
/-- the whole search -/
theorem x_zero14 (N : Nat) (K : Nat → zS → Option zS) : ∀ d i : Nat, i + d = 5 → ∀ (m : Nat) (σ : zS), d < m → ∃ σ' : zS, fX1_seekFitting_14 N K m 42 (nI i) σ = K 42 σ' ∧ σ'.1 = σ.1 ∧ (∀ q, q ≠ 32 → σ'.2 q = σ.2 q) ∧ ∀ e, e < 5 → σ'.2 32 e = if i ≤ e then nI 0 else σ.2 32 e := by
  intro d
  induction d with
  | zero =>
    intro i hi m σ hm
    obtain ⟨m, rfl⟩ : ∃ k, m = k + 1 := ⟨m - 1, by omega⟩
    refine ⟨σ, ?_, rfl, fun _ _ => rfl, fun e he => by rw [if_neg (by omega)]⟩
    rw [fX1_seekFitting_14, if_pos ((nI_leI (by decide) (by omega)).mpr (by omega))]
  | succ d ih =>
    intro i hi m σ hm
    obtain ⟨m, rfl⟩ : ∃ k, m = k + 1 := ⟨m - 1, by omega⟩
    obtain ⟨σ', h1, h2, h3, h4⟩ := ih (i + 1) (by omega) m (zpa σ 32 (upd (σ.2 32) i (nI 0))) (by omega)
    refine ⟨σ', ?_, h2, fun r hr => by rw [h3 r hr, zpa_2, if_neg hr], fun e he => ?_⟩
    · rw [fX1_seekFitting_14, if_neg (fun h => by have := (nI_leI (by decide) (by omega)).mp h; omega), if_pos (m_zin (show i < zlen 32 from (show i < 5 by omega)) (by decide)), zlet_eq, m_upd (by omega), nI_add]
      exact h1
    · rw [h4 e he, zpa_at, zupd]
      by_cases c : i + 1 ≤ e
      · rw [if_pos c, if_pos (by omega)]
      · rw [if_neg c]
        by_cases c2 : e = i
        · rw [if_pos c2, if_pos (by omega)]
        · rw [if_neg c2, if_neg (by omega)]
theorem x_zero34 (N : Nat) (K : Nat → zS → Option zS) : ∀ d i : Nat, i + d = 240 → ∀ (m : Nat) (σ : zS), d < m → ∃ σ' : zS, fX1_seekFitting_34 N K m 42 (nI i) σ = K 42 σ' ∧ σ'.1 = σ.1 ∧ (∀ q, q ≠ 33 → σ'.2 q = σ.2 q) ∧ ∀ e, e < 240 → σ'.2 33 e = if i ≤ e then nI 0 else σ.2 33 e := by
  intro d
  induction d with
  | zero =>
    intro i hi m σ hm
    obtain ⟨m, rfl⟩ : ∃ k, m = k + 1 := ⟨m - 1, by omega⟩
    refine ⟨σ, ?_, rfl, fun _ _ => rfl, fun e he => by rw [if_neg (by omega)]⟩
    rw [fX1_seekFitting_34, if_pos (show Int32.ofNat (zlen 33) ≤ nI i from (nI_leI (a := 240) (by decide) (by omega)).mpr (by omega))]
  | succ d ih =>
    intro i hi m σ hm
    obtain ⟨m, rfl⟩ : ∃ k, m = k + 1 := ⟨m - 1, by omega⟩
    obtain ⟨σ', h1, h2, h3, h4⟩ := ih (i + 1) (by omega) m (zpa σ 33 (upd (σ.2 33) i (nI 0))) (by omega)
    refine ⟨σ', ?_, h2, fun r hr => by rw [h3 r hr, zpa_2, if_neg hr], fun e he => ?_⟩
    · rw [fX1_seekFitting_34, if_neg (show ¬ Int32.ofNat (zlen 33) ≤ nI i from fun h => by have := (nI_leI (a := 240) (by decide) (by omega)).mp h; omega), if_pos (m_zin (show i < zlen 33 from (show i < 240 by omega)) (by decide)), zlet_eq, m_upd (by omega), nI_add]
      exact h1
    · rw [h4 e he, zpa_at, zupd]
      by_cases c : i + 1 ≤ e
      · rw [if_pos c, if_pos (by omega)]
      · rw [if_neg c]
        by_cases c2 : e = i
        · rw [if_pos c2, if_pos (by omega)]
        · rw [if_neg c2, if_neg (by omega)]
def fitB (β : mB) (A B : Nat → Nat) (m c : Nat) : Bool := mfit β A B (fun i => dig (β.1 0) c i) m 0
theorem x_seekFitting (N : Nat) (hN : 4000 ≤ N) {σ : zS} {β : mB} (hO : BOk β) (hX : BX σ 42 β) {m : Nat} {A B : Nat → Nat} (hS : SX σ m A B) : ∃ σ' : zS, fX1_seekFitting N σ 42 = some σ' ∧ FR σ σ' ∧ FS σ' (β.1 0) (fF (fitB β A B m) (ordsF (β.1 0) (5 ^ β.1 0) 0) (0, 0)) (fun j => lF (β.1 0) (fitB β A B m) j (ordsF (β.1 0) (5 ^ β.1 0) 0) 0) (fun k h => tF β (fitB β A B m) k h (ordsF (β.1 0) (5 ^ β.1 0) 0) 0) := by
  have b0 := hO.1
  obtain ⟨s1, s2, s3, s4⟩ := ords_spec b0
  have hfl := mfact_le (β.1 0) (by omega)
  obtain ⟨σ1, e1, e2, e3, e4⟩ := x_fill N hN (q := 30) rfl σ
  obtain ⟨σ2, f1, f2, f3, f4⟩ := x_zero14 N (fX1_seekFitting_32 N) 5 0 (by omega) N (zpf σ1 53 4 (nI 0)) (by omega)
  obtain ⟨σ3, g1, g2, g3, g4⟩ := x_zero34 N (fX1_seekFitting_56 N) 240 0 (by omega) N σ2 (by omega)
  have hfr : FR σ σ3 := ⟨fun q hq => by rw [g2, f2, zpf_1, if_neg hq, e2], fun q hq => by rw [g3 q (by omega), f3 q (by omega), zpf_2, e3 q (by omega)]⟩
  have h30 : ∀ e, e < 5 → σ3.2 30 e = nI e := fun e he => by rw [g3 30 (by decide), f3 30 (by decide), zpf_2]; exact e4 e he
  have hfs : FS σ3 (β.1 0) (0, 0) (fun _ => 0) (fun _ _ => 0) := by
    refine ⟨by rw [g2, f2]; rfl, Or.inl rfl, fun j hj => by rw [g3 32 (by decide), f4 j (by omega), if_pos (Nat.zero_le _)], fun k h1 h2 h hh => by rw [g4 _ (by omega), if_pos (Nat.zero_le _)]⟩
  obtain ⟨σ4, q1, q2, q3⟩ := x_fit_loop N hN hO (F := fitB β A B m) (fun c => rfl) (tot := mfact (β.1 0)) (by omega) (ordsF (β.1 0) (5 ^ β.1 0) 0) 0 N σ3 (0, 0) (fun _ => 0) (fun _ _ => 0) (by omega) (by omega) (by show 0 + _ ≤ 1000; omega) s1 (fun c hc => (s4 c hc).1) (FR_X hfr hX) (FR_SX hfr hS) (RWH_start b0 h30) hfs
  refine ⟨σ4, ?_, FR_tr hfr q2, q3⟩
  unfold fX1_seekFitting
  rw [e1, Option.bind_some, zlet_eq, f1, fX1_seekFitting_32, g1, fX1_seekFitting_56, show σ3.1 42 6 = nI (β.1 0) from (FR_X hfr hX).1, x_fact N hN b0, Option.bind_some]
  exact q1

/-! the cells of both sides: 0..54 the class, 55..66 the model; 100.. the String constants, 200.. their bytes -/
abbrev zS : Type := (Nat → Nat → Int32) × (Nat → Nat → Int32)
abbrev zG : Type := va_G × (ClassId × ClassId × ClassId × ClassId) × (Nat → Nat)
abbrev zin (i : Int32) (n : Nat) : Prop := ¬ (i < 0 ∨ n ≤ i.toNatClampNeg)
def zlet {α β : Type} (v : α) (f : α → β) : β := f v
theorem z_lt {α β : Type} {v : α} {f : α → Option β} {r : β} (h : zlet v f = some r) : ∃ x, x = v ∧ f x = some r := ⟨v, rfl, h⟩
theorem z_bd {α β : Type} {o : Option α} {f : α → Option β} {r : β} (h : o.bind f = some r) : ∃ q, o = some q ∧ f q = some r := by
  cases o with
  | none => exact absurd h (by simp)
  | some q => exact ⟨q, rfl, h⟩
theorem z_if {c : Prop} [Decidable c] {β : Type} {a : Option β} {r : β} (h : (if c then a else none) = some r) : c ∧ a = some r := by
  by_cases hc : c
  · rw [if_pos hc] at h; exact ⟨hc, h⟩
  · rw [if_neg hc] at h; cases h
theorem z_ip {c : Prop} [Decidable c] {β : Type} {a b : Option β} {r : β} (h : (if c then a else b) = some r) (hc : c) : a = some r := by
  rw [if_pos hc] at h; exact h
theorem z_in {c : Prop} [Decidable c] {β : Type} {a b : Option β} {r : β} (h : (if c then a else b) = some r) (hc : ¬ c) : b = some r := by
  rw [if_neg hc] at h; exact h
def zlen (k : Nat) : Nat := if k = 3 then 4 else if k = 9 then 4 else if k = 15 then 4 else if k = 21 then 4 else if k = 24 then 160 else if k = 25 then 6 else if k = 26 then 6 else if k = 29 then 32 else if k = 33 then 240 else if k = 35 then 40 else if k = 36 then 40 else if k = 37 then 40 else if k = 38 then 40 else if k = 55 then 155 else if k = 56 then 31 else if k = 57 then 160 else if k = 58 then 9 else if k = 59 then 35 else if k = 60 then 12 else if k = 61 then 40 else if k = 62 then 4 else if k = 63 then 4 else if k = 64 then 160 else 5
def zba (b i : Nat) : Nat := 6 * (b - 42) + i
def zsa (b : Nat) : Nat := b - 11
theorem zba_lt {b i : Nat} (h1 : 42 ≤ b) (h2 : b < 46) (hi : i < 6) : zba b i < 39 := by unfold zba; omega
theorem zsa_lt {b : Nat} (h1 : 46 ≤ b) (h2 : b < 50) : zsa b < 39 := by unfold zsa; omega
def zD (q : Nat) : (Nat × Nat) ⊕ (Nat × List (Option Nat)) :=
  if q < 39 then .inl (0, zlen q)
  else if q = 39 then .inl (1, 2)
  else if q = 40 then .inl (2, 2)
  else if q = 41 then .inl (3, 4)
  else if q < 46 then .inr (0, [some (zba q 0), some (zba q 1), some (zba q 2), some (zba q 3), some (zba q 4), some (zba q 5), none, none, none, none])
  else if q < 50 then .inr (3, [some (zsa q), none, none])
  else if q = 50 then .inr (4, [some 24, some 43, none, none, none, none, none, none, none, none, none])
  else if q = 51 then .inr (2, [some 25, some 26, none])
  else if q = 52 then .inr (5, [some 27, some 28, some 29, none, none, none, none])
  else if q = 53 then .inr (1, [some 30, some 31, some 32, some 33, none, none])
  else if q = 54 then .inr (6, [some 42, some 50, some 51, some 52, some 53, some 40, some 39, some 41, some 34, none])
  else if q < 65 then .inl (0, zlen q)
  else if q = 65 then .inl (1, 2)
  else .inr (7, [some 55, none, none, some 56, none, none, none, none, none, none, some 57, none, none, none, none, none, none, none, none, some 58, some 59, none, none, none, none, none, none, some 60, none, some 61, none, some 65, some 62, some 63, some 64, none])
def zF (g : zG) (ρ : zS) (q : Nat) : List (Option Nat) → Nat → List Value
  | [], _ => []
  | some r :: t, k => .ref (g.2.2 r) :: zF g ρ q t (k + 1)
  | none :: t, k => .int (ρ.1 q k) :: zF g ρ q t (k + 1)
def zAr (g : zG) (ρ : zS) (q t n : Nat) : ClassId × vp_A :=
  if t = 0 then (g.2.1.1, n, .inl (ρ.2 q)) else if t = 1 then (g.2.1.2.1, n, .inl (ρ.2 q)) else if t = 2 then (g.2.1.2.2.1, n, .inr (.inr (.inr (.inr (fun i => some (g.2.2 (44 + i))))))) else (g.2.1.2.2.2, n, .inr (.inr (.inr (.inr (fun i => some (g.2.2 (46 + i)))))))
def zρ (σ τ : zS) (q : Nat) : zS := if q < 55 then σ else τ
def zCe (g : zG) (ρ : zS) (q : Nat) : va_E := match zD q with
  | .inl (t, n) => .inl (zAr g ρ q t n)
  | .inr (ci, tm) => .inr (ci, zF g ρ q tm 0)
def zC (g : zG) (σ τ : zS) (q : Nat) : va_E := zCe g (zρ σ τ q) q
def zJ (g : zG) (σ τ : zS) : va_W := (List.range 67).map (fun q => (g.2.2 q, zC g σ τ q))
def zpf (σ : zS) (q k : Nat) (v : Int32) : zS := (va_up σ.1 q (va_up (σ.1 q) k v), σ.2)
def zpa (σ : zS) (q : Nat) (f : Nat → Int32) : zS := (σ.1, va_up σ.2 q f)
theorem zJ_get {g : zG} {σ τ : zS} {q : Nat} (h : q < 67) : (zJ g σ τ)[q]? = some (g.2.2 q, zC g σ τ q) := by
  unfold zJ
  rw [List.getElem?_map, List.getElem?_range h]
  rfl
theorem zJ_at {g : zG} {σ τ : zS} {k : Nat} {q : Nat × va_E} (h : (zJ g σ τ)[k]? = some q) : k < 67 ∧ q = (g.2.2 k, zC g σ τ k) := by
  by_cases hk : k < 67
  · rw [zJ_get hk] at h
    exact ⟨hk, (Option.some.inj h).symm⟩
  · exfalso
    unfold zJ at h
    rw [List.getElem?_map, List.getElem?_eq_none (by simpa using hk)] at h
    cases h
theorem zJ_set {g : zG} {σ τ σ' τ' : zS} {q : Nat} {e : va_E} (h : ∀ r, zC g σ' τ' r = if r = q then e else zC g σ τ r) : (zJ g σ τ).set q (g.2.2 q, e) = zJ g σ' τ' := by
  apply List.ext_getElem?
  intro i
  rw [List.getElem?_set]
  by_cases hi : i < 67
  · have hl : i < (zJ g σ τ).length := by simpa [zJ] using hi
    rw [zJ_get hi, zJ_get hi, h i]
    by_cases hq : q = i
    · subst hq; simp [hl]
    · simp [hq, Ne.symm hq]
  · have hl : ¬ i < (zJ g σ τ).length := by simpa [zJ] using hi
    have h1 : (zJ g σ τ)[i]? = none := List.getElem?_eq_none (Nat.le_of_not_lt hl)
    have h2 : (zJ g σ' τ')[i]? = none := List.getElem?_eq_none (by simpa [zJ] using hi)
    rw [h1, h2]
    by_cases hq : q = i
    · subst hq; simp [hl]
    · simp [hq]
theorem zF_other {g : zG} {σ : zS} {q k r : Nat} {v : Int32} (h : r ≠ q) : ∀ (tm : List (Option Nat)) (j : Nat), zF g (zpf σ q k v) r tm j = zF g σ r tm j
  | [], _ => rfl
  | some _ :: t, j => by simp only [zF]; rw [zF_other h t (j + 1)]
  | none :: t, j => by simp only [zF]; rw [zF_other h t (j + 1)]; simp [zpf, va_up_ne _ _ h]
theorem zF_later {g : zG} {σ : zS} {q k : Nat} {v : Int32} : ∀ (tm : List (Option Nat)) (j : Nat), k < j → zF g (zpf σ q k v) q tm j = zF g σ q tm j
  | [], _, _ => rfl
  | some _ :: t, j, h => by simp only [zF]; rw [zF_later t (j + 1) (by omega)]
  | none :: t, j, h => by
    simp only [zF]; rw [zF_later t (j + 1) (by omega)]
    have : j ≠ k := by omega
    simp [zpf, va_up_self, va_up_ne _ _ this]
theorem zF_put {g : zG} {σ : zS} {q : Nat} {v : Int32} : ∀ (tm : List (Option Nat)) (k j : Nat), tm[k]? = some none → zF g (zpf σ q (j + k) v) q tm j = (zF g σ q tm j).set k (.int v)
  | [], k, j, h => by simp at h
  | some r :: t, 0, j, h => by simp at h
  | none :: t, 0, j, _ => by
    simp only [zF, Nat.add_zero, List.set_cons_zero]
    rw [zF_later t (j + 1) (by omega)]
    simp [zpf, va_up_self]
  | some r :: t, k + 1, j, h => by
    simp only [zF, List.set_cons_succ]
    have := zF_put (g := g) (σ := σ) (q := q) (v := v) t k (j + 1) (by simpa using h)
    rw [show j + (k + 1) = j + 1 + k by omega, this]
  | none :: t, k + 1, j, h => by
    simp only [zF, List.set_cons_succ]
    have := zF_put (g := g) (σ := σ) (q := q) (v := v) t k (j + 1) (by simpa using h)
    rw [show j + (k + 1) = j + 1 + k by omega, this]
    have hn : j ≠ j + 1 + k := by omega
    simp [zpf, va_up_self, va_up_ne _ _ hn]
theorem zCe_pf {g : zG} {σ : zS} {q k ci : Nat} {tm : List (Option Nat)} {v : Int32} (hD : zD q = .inr (ci, tm)) (hk : tm[k]? = some none) (r : Nat) : zCe g (zpf σ q k v) r = if r = q then .inr (ci, (zF g σ q tm 0).set k (.int v)) else zCe g σ r := by
  by_cases h : r = q
  · subst h
    rw [if_pos rfl]
    unfold zCe
    rw [hD]
    have := zF_put (g := g) (σ := σ) (q := r) (v := v) tm k 0 hk
    rw [Nat.zero_add] at this
    show Sum.inr (ci, zF g (zpf σ r k v) r tm 0) = _
    rw [this]
  · rw [if_neg h]
    unfold zCe
    cases zD r with
    | inl x => rfl
    | inr x => obtain ⟨a, t⟩ := x; show Sum.inr (a, zF g (zpf σ q k v) r t 0) = _; rw [zF_other h]
theorem zAr_other {g : zG} {σ : zS} {q r t n : Nat} {f : Nat → Int32} (h : r ≠ q) : zAr g (zpa σ q f) r t n = zAr g σ r t n := by
  unfold zAr zpa
  simp [va_up_ne _ _ h]
theorem zF_pa {g : zG} {σ : zS} {q r : Nat} {f : Nat → Int32} : ∀ (tm : List (Option Nat)) (j : Nat), zF g (zpa σ q f) r tm j = zF g σ r tm j
  | [], _ => rfl
  | some _ :: t, j => by simp only [zF]; rw [zF_pa t (j + 1)]
  | none :: t, j => by simp only [zF]; rw [zF_pa t (j + 1)]; rfl
theorem zCe_pa {g : zG} {σ : zS} {q t n : Nat} {f : Nat → Int32} (hD : zD q = .inl (t, n)) (r : Nat) : zCe g (zpa σ q f) r = if r = q then .inl (zAr g (zpa σ q f) q t n) else zCe g σ r := by
  by_cases h : r = q
  · subst h
    rw [if_pos rfl]
    unfold zCe
    rw [hD]
  · rw [if_neg h]
    unfold zCe
    cases zD r with
    | inl x => obtain ⟨a, b⟩ := x; show Sum.inl (zAr g (zpa σ q f) r a b) = _; rw [zAr_other h]
    | inr x => obtain ⟨a, b⟩ := x; show Sum.inr (a, zF g (zpa σ q f) r b 0) = _; rw [zF_pa]
theorem zC_X {g : zG} {σ τ : zS} {q : Nat} (h : q < 55) : zC g σ τ q = zCe g σ q := by unfold zC zρ; rw [if_pos h]
theorem zC_M {g : zG} {σ τ : zS} {q : Nat} (h : 55 ≤ q) : zC g σ τ q = zCe g τ q := by unfold zC zρ; rw [if_neg (by omega)]
theorem zC_setX {g : zG} {σ σ' τ : zS} {q : Nat} {e : va_E} (hq : q < 55) (h : ∀ r, zCe g σ' r = if r = q then e else zCe g σ r) (r : Nat) : zC g σ' τ r = if r = q then e else zC g σ τ r := by
  by_cases hr : r < 55
  · rw [zC_X hr, zC_X hr, h]
  · rw [zC_M (by omega), zC_M (by omega), if_neg (by omega)]
theorem zC_setM {g : zG} {σ τ τ' : zS} {q : Nat} {e : va_E} (hq : 55 ≤ q) (h : ∀ r, zCe g τ' r = if r = q then e else zCe g τ r) (r : Nat) : zC g σ τ' r = if r = q then e else zC g σ τ r := by
  by_cases hr : r < 55
  · rw [zC_X hr, zC_X hr, if_neg (by omega)]
  · rw [zC_M (by omega), zC_M (by omega), h]
theorem zD_arr {q : Nat} (h : q < 39) : zD q = .inl (0, zlen q) := by unfold zD; rw [if_pos h]
theorem zD_marr {q : Nat} (h1 : 55 ≤ q) (h2 : q < 65) : zD q = .inl (0, zlen q) := by
  unfold zD
  rw [if_neg (by omega), if_neg (by omega), if_neg (by omega), if_neg (by omega), if_neg (by omega), if_neg (by omega), if_neg (by omega), if_neg (by omega), if_neg (by omega), if_neg (by omega), if_neg (by omega), if_pos h2]
theorem zD_band {q : Nat} (h1 : 42 ≤ q) (h2 : q < 46) : zD q = .inr (0, [some (zba q 0), some (zba q 1), some (zba q 2), some (zba q 3), some (zba q 4), some (zba q 5), none, none, none, none]) := by
  unfold zD
  rw [if_neg (by omega), if_neg (by omega), if_neg (by omega), if_neg (by omega), if_pos h2]
theorem zD_sheet {q : Nat} (h1 : 46 ≤ q) (h2 : q < 50) : zD q = .inr (3, [some (zsa q), none, none]) := by
  unfold zD
  rw [if_neg (by omega), if_neg (by omega), if_neg (by omega), if_neg (by omega), if_neg (by omega), if_pos h2]
theorem zC_obj {g : zG} {σ τ : zS} {q ci : Nat} {tm : List (Option Nat)} (h : zD q = .inr (ci, tm)) : zC g σ τ q = .inr (ci, zF g (zρ σ τ q) q tm 0) := by unfold zC zCe; rw [h]
theorem zC_ar {g : zG} {σ τ : zS} {q t n : Nat} (h : zD q = .inl (t, n)) : zC g σ τ q = .inl (zAr g (zρ σ τ q) q t n) := by unfold zC zCe; rw [h]
theorem zC_arr {g : zG} {σ τ : zS} {q : Nat} (h : q < 39) : zC g σ τ q = .inl (g.2.1.1, zlen q, .inl (σ.2 q)) := by
  rw [zC_X (by omega)]; unfold zCe; rw [zD_arr h]; rfl
theorem zC_marr {g : zG} {σ τ : zS} {q : Nat} (h1 : 55 ≤ q) (h2 : q < 65) : zC g σ τ q = .inl (g.2.1.1, zlen q, .inl (τ.2 q)) := by
  rw [zC_M h1]; unfold zCe; rw [zD_marr h1 h2]; rfl
theorem zC_band {g : zG} {σ τ : zS} {q : Nat} (h1 : 42 ≤ q) (h2 : q < 46) : zC g σ τ q = .inr (0, [.ref (g.2.2 (zba q 0)), .ref (g.2.2 (zba q 1)), .ref (g.2.2 (zba q 2)), .ref (g.2.2 (zba q 3)), .ref (g.2.2 (zba q 4)), .ref (g.2.2 (zba q 5)), .int (σ.1 q 6), .int (σ.1 q 7), .int (σ.1 q 8), .int (σ.1 q 9)]) := by
  rw [zC_X (by omega)]; unfold zCe; rw [zD_band h1 h2]; rfl
theorem zC_sheet {g : zG} {σ τ : zS} {q : Nat} (h1 : 46 ≤ q) (h2 : q < 50) : zC g σ τ q = .inr (3, [.ref (g.2.2 (zsa q)), .int (σ.1 q 1), .int (σ.1 q 2)]) := by
  rw [zC_X (by omega)]; unfold zCe; rw [zD_sheet h1 h2]; rfl
def zT (g : zG) : List (ClassId × FieldType) := [(g.2.1.1, .int), (g.2.1.2.1, .boolean), (g.2.1.2.2.1, .object RX0), (g.2.1.2.2.2, .object RX3)]
def zAp (g : zG) (A : Nat → Prop) : Prop := (∀ i, i < 67 → ∀ j, j < 67 → g.2.2 i = g.2.2 j → i = j) ∧ ∀ q, q < 67 → A (g.2.2 q)
theorem zAp_D {g : zG} {A : Nat → Prop} {σ τ : zS} (h : zAp g A) : va_D A (zJ g σ τ) := by
  refine ⟨fun i j p q hp hq e => ?_, fun k q hq => ?_⟩
  · obtain ⟨h1, rfl⟩ := zJ_at hp
    obtain ⟨h2, rfl⟩ := zJ_at hq
    exact h.1 i h1 j h2 e
  · obtain ⟨h1, rfl⟩ := zJ_at hq
    exact h.2 k h1
def zNf : List (String × Nat × String × String × String × String) := [("TownBand$Tape", 97, "TownBand$Band", "kinds", "[I", "TownBand"), ("TownBand", 113, "TownBand$Band", "kinds", "[I", "TownBand"), ("TownBand$Towers", 50, "TownBand$Band", "weights", "[I", "TownBand"), ("TownBand$Tape", 100, "TownBand$Band", "weights", "[I", "TownBand"), ("TownBand", 116, "TownBand$Band", "weights", "[I", "TownBand"), ("TownBand$Towers", 57, "TownBand$Band", "voices", "[I", "TownBand"), ("TownBand$Tape", 106, "TownBand$Band", "voices", "[I", "TownBand"), ("TownBand", 119, "TownBand$Band", "voices", "[I", "TownBand"), ("TownBand$Tape", 115, "TownBand$Band", "courages", "[I", "TownBand"), ("TownBand", 142, "TownBand$Band", "courages", "[I", "TownBand"), ("TownBand", 129, "TownBand$Band", "tower", "[I", "TownBand"), ("TownBand$Tape", 124, "TownBand$Band", "tower", "[I", "TownBand"), ("TownBand$Tape", 32, "TownBand$Band", "bedRow", "[I", "TownBand"), ("TownBand", 136, "TownBand$Band", "bedRow", "[I", "TownBand"), ("TownBand$Orders", 32, "TownBand$Band", "beasts", "I", "TownBand"), ("TownBand$Towers", 45, "TownBand$Band", "beasts", "I", "TownBand"), ("TownBand$Tape", 91, "TownBand$Band", "beasts", "I", "TownBand"), ("TownBand", 94, "TownBand$Band", "beasts", "I", "TownBand"), ("TownBand$Towers", 79, "TownBand$Band", "robbers", "I", "TownBand"), ("TownBand$Tape", 112, "TownBand$Band", "robbers", "I", "TownBand"), ("TownBand", 97, "TownBand$Band", "robbers", "I", "TownBand"), ("TownBand", 100, "TownBand$Band", "height", "I", "TownBand"), ("TownBand$Tape", 131, "TownBand$Band", "height", "I", "TownBand"), ("TownBand", 103, "TownBand$Band", "nerve", "I", "TownBand"), ("TownBand$Tape", 121, "TownBand$Band", "nerve", "I", "TownBand"), ("TownBand", 74, "TownBand$Tape", "bytes", "[I", "TownBand"), ("TownBand", 84, "TownBand$Tape", "draft", "LTownBand$Band;", "TownBand"), ("TownBand", 71, "TownBand$Tape", "length", "I", "TownBand"), ("TownBand", 81, "TownBand$Tape", "flaw", "I", "TownBand"), ("TownBand$Orders", 75, "TownBand$Seen", "behind", "[I", "TownBand"), ("TownBand", 249, "TownBand$Seen", "behind", "[I", "TownBand"), ("TownBand$Orders", 78, "TownBand$Seen", "hurt", "[I", "TownBand"), ("TownBand", 252, "TownBand$Seen", "hurt", "[I", "TownBand"), ("TownBand$Orders", 70, "TownBand$Seen", "size", "I", "TownBand"), ("TownBand", 91, "TownBand$Seen", "size", "I", "TownBand"), ("TownBand", 219, "TownBand$Towers", "values", "[I", "TownBand"), ("TownBand", 193, "TownBand$Towers", "foundSize", "I", "TownBand"), ("TownBand", 187, "TownBand$Towers", "foundScore", "I", "TownBand"), ("TownBand", 190, "TownBand$Towers", "foundNoise", "I", "TownBand"), ("TownBand", 199, "TownBand$Towers", "total", "I", "TownBand"), ("TownBand", 216, "TownBand$Orders", "first", "[I", "TownBand"), ("TownBand", 262, "TownBand$Orders", "liers", "[I", "TownBand"), ("TownBand", 259, "TownBand$Orders", "fitting", "I", "TownBand"), ("TownBand", 213, "TownBand$Orders", "worstHurt", "I", "TownBand"), ("TownBand", 288, "TownBand$Sheet", "cells", "[I", "TownBand"), ("TownBand", 291, "TownBand$Sheet", "lane", "I", "TownBand"), ("TownBand", 294, "TownBand$Sheet", "size", "I", "TownBand")]
def zNm : List (String × Nat × MethodName × String) := [("TownBand", 9, yX0_init, "TownBand"), ("TownBand", 18, yX4_init, "TownBand"), ("TownBand$Tape", 17, yX0_init, "TownBand"), ("TownBand", 25, yX2_init, "TownBand"), ("TownBand", 32, yX5_init, "TownBand"), ("TownBand", 39, yX1_init, "TownBand"), ("TownBand", 66, yX3_init, "TownBand"), ("TownBand", 77, yX4_tellAll, "TownBand"), ("TownBand$Tape", 29, yX0_clear, "TownBand"), ("TownBand$Tape", 35, yX6_fillByOrder, "TownBand"), ("TownBand$Tape", 137, yX6_within, "TownBand"), ("TownBand$Tape", 186, yX0_hasBeast, "TownBand"), ("TownBand$Band", 49, yX6_within, "TownBand"), ("TownBand$Tape", 183, yX0_stands, "TownBand"), ("TownBand", 87, yX0_copyFrom, "TownBand"), ("TownBand", 106, yX0_towerBits, "TownBand"), ("TownBand", 109, yX0_hasBeast, "TownBand"), ("TownBand", 122, yX0_bears, "TownBand"), ("TownBand", 126, yX0_hurts, "TownBand"), ("TownBand", 139, yX0_hasRobber, "TownBand"), ("TownBand", 148, yX0_stands, "TownBand"), ("TownBand", 155, yX0_canClimb, "TownBand"), ("TownBand", 162, yX0_noiseBy, "TownBand"), ("TownBand", 166, yX0_fledBits, "TownBand"), ("TownBand", 183, yX5_walk, "TownBand"), ("TownBand$Towers", 60, yX0_noiseBy, "TownBand"), ("TownBand$Towers", 64, yX0_fledBits, "TownBand"), ("TownBand$Towers", 53, yX0_carries, "TownBand"), ("TownBand", 196, yX5_foundAt, "TownBand"), ("TownBand$Towers", 88, yX6_within, "TownBand"), ("TownBand", 202, yX0_metOn, "TownBand"), ("TownBand", 206, yX0_hurtBehind, "TownBand"), ("TownBand", 210, yX1_seekWorst, "TownBand"), ("TownBand$Orders", 24, yX6_fillByOrder, "TownBand"), ("TownBand$Orders", 37, yX6_factorial, "TownBand"), ("TownBand$Orders", 41, yX0_metOn, "TownBand"), ("TownBand$Orders", 45, yX0_hurtBehind, "TownBand"), ("TownBand$Orders", 90, yX6_exchange, "TownBand"), ("TownBand", 255, yX1_seekFitting, "TownBand"), ("TownBand$Orders", 81, yX0_hurts, "TownBand"), ("TownBand", 265, yX1_mostLeft, "TownBand"), ("TownBand", 275, yX3_renew, "TownBand"), ("TownBand", 279, yX3_faultAt, "TownBand"), ("TownBand$Sheet", 26, yX6_within, "TownBand"), ("TownBand", 282, yX3_put, "TownBand"), ("TownBand", 285, yX3_faultAs, "TownBand")]
def zsI : List Nat := [164, 166, 168, 170, 172, 174, 176, 177]
def zsT : List String := ["cock", "cat", "hound", "ass", "robber", "scout", "tower", "beds"]
def zsL : List Nat := [4, 3, 5, 3, 6, 5, 5, 4]
def zsB : List (List Int32) := [[99, 111, 99, 107], [99, 97, 116], [104, 111, 117, 110, 100], [97, 115, 115], [114, 111, 98, 98, 101, 114], [115, 99, 111, 117, 116], [116, 111, 119, 101, 114], [98, 101, 100, 115]]
def zN (U : State) : Prop := (∀ q ∈ zNf, va_Nw (.fieldLinkNest q.1 q.2.1 q.2.2.1 q.2.2.2.1 q.2.2.2.2.1 q.2.2.2.2.2) U) ∧ ∀ q ∈ zNm, va_Nw (.methodLinkNest q.1 q.2.1 q.2.2.1 q.2.2.2) U
def zStr (g : zG) (A : Nat → Prop) (U : State) : Prop := (∀ i, i < 8 → vk_R "TownBand$Tape" (zsI.getD i 0) (zsT.getD i "") (g.2.2 (100 + i)) U) ∧ vk_S 8 zsL zsB (fun i => g.2.2 (100 + i)) (fun i => g.2.2 (200 + i)) A U U.heap ∧ va_Z "java/lang/String" "COMPACT_STRINGS" "Z" (.int 1) A U U.heap ∧ va_Zq "jdk/internal/util/Preconditions" "SIOOBE_FORMATTER" "Ljava/util/function/BiFunction;" A U U.heap
def zE (g : zG) (A : Nat → Prop) (U : State) : Prop := va_K g.1 vwCl (zT g) U ∧ zN U ∧ zAp g A ∧ zStr g A U
def zW (g : zG) (A : Nat → Prop) (σ τ : zS) (s : State) (H : Heap) (locs : List Loc) : Prop := va_P g.1 vwCl (zJ g σ τ) H ∧ va_S A s.heap H locs
theorem zE_go {g : zG} {A : Nat → Prop} {s U : State} {H : Heap} {locs : List Loc} (E : zE g A s) (hS : va_S A s.heap H locs) (hU : U.heap = H) (hW : s.WarmedH U.vm) : zE g A U := by
  obtain ⟨h1, ⟨h2, h3⟩, h4, h5, h6, h7, h8⟩ := E
  refine ⟨va_K.moved hW.alike h1, ⟨fun q hq => va_Nw.warmF hW (h2 q hq), fun q hq => va_Nw.warmM hW (h3 q hq)⟩, h4, fun i hi => (h5 i hi).warm hW, ?_, ?_, ?_⟩
  · rw [hU]; exact vk_S.moved hW.alike (h6.kept hS.2.1)
  · rw [hU]; exact va_Z.moved hW.alike (h7.kept hS.2.1)
  · rw [hU]; exact va_Zq.moved hW.alike (h8.kept hS.2.1)
theorem zE_blind {g : zG} {A : Nat → Prop} {U V : State} (E : zE g A U) (hv : V.vm = U.vm) (hh : V.heap = U.heap) : zE g A V := by
  obtain ⟨h1, ⟨h2, h3⟩, h4, h5, h6, h7, h8⟩ := E
  have hal : U.vm.Alike V.vm := by rw [hv]; exact Vm.Alike.refl U.vm
  refine ⟨va_K.moved hal h1, ⟨fun q hq => va_Nw.same rfl hv.symm (h2 q hq), fun q hq => va_Nw.same rfl hv.symm (h3 q hq)⟩, h4, fun i hi => (h5 i hi).same hv, ?_, ?_, ?_⟩
  · rw [hh]; exact vk_S.moved hal h6
  · rw [hh]; exact va_Z.moved hal h7
  · rw [hh]; exact va_Zq.moved hal h8
theorem zE_f {g : zG} {A : Nat → Prop} {s : State} {args : Array Value} (E : zE g A s) (k : Nat) {a : String} {i : Nat} {b n d h : String} (hk : zNf[k]? = some (a, i, b, n, d, h)) : (Cond.fieldLinkNest a i b n d h).before args s = true := va_Nw.use rfl (E.2.1.1 _ (List.mem_of_getElem? hk))
theorem zE_m {g : zG} {A : Nat → Prop} {s : State} (E : zE g A s) (k : Nat) {a : String} {i : Nat} {y : MethodName} {h : String} (hk : zNm[k]? = some (a, i, y, h)) : va_Nw (.methodLinkNest a i y h) s := E.2.1.2 _ (List.mem_of_getElem? hk)
def zPc (g : zG) (A : Nat → Prop) (σ τ : zS) (av : List Value) : Array Value → State → Prop := va_Pc av (fun U => va_P g.1 vwCl (zJ g σ τ) U.heap ∧ zE g A U)
def zQi (g : zG) (A : Nat → Prop) (τ : zS) (res : Int32 × zS) : Array Value → State → Outcome → State → Prop := va_Qi (fun r (u : zS) => (r, u) = res) (fun u t => va_P g.1 vwCl (zJ g u τ) t.heap) A
def zQl (g : zG) (A : Nat → Prop) (τ : zS) (res : Int64 × zS) : Array Value → State → Outcome → State → Prop := va_Ql (fun r (u : zS) => (r, u) = res) (fun u t => va_P g.1 vwCl (zJ g u τ) t.heap) A
def zQv (g : zG) (A : Nat → Prop) (τ : zS) (res : zS) : Array Value → State → Outcome → State → Prop := va_Qv (fun (u : zS) => u = res) (fun u t => va_P g.1 vwCl (zJ g u τ) t.heap) A
def zPi (g : zG) (A : Nat → Prop) (σ : zS) (res : Int32 × zS) : Array Value → State → Outcome → State → Prop := va_Qi (fun r (u : zS) => (r, u) = res) (fun u t => va_P g.1 vwCl (zJ g σ u) t.heap) A
def zPl (g : zG) (A : Nat → Prop) (σ : zS) (res : Int64 × zS) : Array Value → State → Outcome → State → Prop := va_Ql (fun r (u : zS) => (r, u) = res) (fun u t => va_P g.1 vwCl (zJ g σ u) t.heap) A
def zPv (g : zG) (A : Nat → Prop) (σ : zS) (res : zS) : Array Value → State → Outcome → State → Prop := va_Qv (fun (u : zS) => u = res) (fun u t => va_P g.1 vwCl (zJ g σ u) t.heap) A
def zR (h : Nat) : Room := { frames := h, cells := 0, slots := 0, locals := 40 * h }
def zCx (p : Program) (s : State) (m : MethodId) (args : Array Value) (meth : Method) (c : Code) (cc : ByteArray) (ret : Option FieldType) (Ts : List Cond) (own : String) (nL : Nat) : Prop := p.tables.exec = Jvm.exec ∧ c.code = cc ∧ meth.sig.returnType = ret ∧ c.maxLocals = nL ∧ s.vm.findClass own = some m.cls ∧ (∀ w ∈ Ts, w.before args s = true) ∧ meth.locks = false
section ZW
variable {p : Program} {l : Launch} {e : Env} {R : Room} {s : State} {m : MethodId} {args : Array Value} {below : List Frame} {meth : Method} {c : Code} {H : Heap} {locs : List Loc} {cells slots : Nat} {Q : State → Prop}
variable {cc : ByteArray} {pc : Nat} {ls : Array Slot} {rest st0 : List Value} {g : zG} {A : Nat → Prop} {σ τ : zS}
theorem z_topi {x y : Int32} (h : y = x) (k : W p l e R s m args below meth c H locs cells slots Q (F0 m pc ls (.int y :: rest))) : W p l e R s m args below meth c H locs cells slots Q (F0 m pc ls (.int x :: rest)) := by subst h; exact k
theorem z_topl {x y : Int64} (h : y = x) (k : W p l e R s m args below meth c H locs cells slots Q (F0 m pc ls (.long y :: rest))) : W p l e R s m args below meth c H locs cells slots Q (F0 m pc ls (.long x :: rest)) := by subst h; exact k
theorem z_iald (hexec : p.tables.exec = Jvm.exec) (hb : c.code = cc) (E : zE g A s) (hh : zW g A σ τ s H locs) {q : Nat} (hq : q < 39) {i v : Int32} (hin : zin i (zlen q)) (hv : v = σ.2 q i.toNatClampNeg) (hdg : decode cc pc = .ok (.iaload, 1)) (kk : W p l e R s m args below meth c H locs cells slots Q (F0 m (pc + 1) ls (.int v :: rest))) : W p l e R s m args below meth c H locs cells slots Q (F0 m pc ls (.int i :: .ref (g.2.2 q) :: rest)) := by
  subst hv
  exact va_iald hexec hb E.1 hh.1 q 0 ((zJ_get (by omega)).trans (by rw [zC_arr hq])) rfl hin hdg kk
theorem z_ialdM (hexec : p.tables.exec = Jvm.exec) (hb : c.code = cc) (E : zE g A s) (hh : zW g A σ τ s H locs) {q : Nat} (hq : 55 ≤ q) (hq2 : q < 65) {i v : Int32} (hin : zin i (zlen q)) (hv : v = τ.2 q i.toNatClampNeg) (hdg : decode cc pc = .ok (.iaload, 1)) (kk : W p l e R s m args below meth c H locs cells slots Q (F0 m (pc + 1) ls (.int v :: rest))) : W p l e R s m args below meth c H locs cells slots Q (F0 m pc ls (.int i :: .ref (g.2.2 q) :: rest)) := by
  subst hv
  exact va_iald hexec hb E.1 hh.1 q 0 ((zJ_get (by omega)).trans (by rw [zC_marr hq hq2])) rfl hin hdg kk
theorem z_iast (hexec : p.tables.exec = Jvm.exec) (hb : c.code = cc) (E : zE g A s) (hh : zW g A σ τ s H locs) {q : Nat} (hq : q < 39) {i x : Int32} (hin : zin i (zlen q)) {σ' : zS} (hσ : σ' = zpa σ q (upd (σ.2 q) i.toNatClampNeg x)) (hdg : decode cc pc = .ok (.iastore, 1)) (kk : ∀ (H1 : Heap) (locs1 : List Loc), zW g A σ' τ s H1 locs1 → W p l e R s m args below meth c H1 locs1 cells slots Q (F0 m (pc + 1) ls rest)) : W p l e R s m args below meth c H locs cells slots Q (F0 m pc ls (.int x :: .int i :: .ref (g.2.2 q) :: rest)) := by
  subst hσ
  refine va_iast hexec hb E.1 hh.1 (zAp_D E.2.2.1) hh.2 q 0 ((zJ_get (by omega)).trans (by rw [zC_arr hq])) rfl hin hdg (fun H1 locs1 h1 _ h3 => kk H1 locs1 ⟨?_, h3⟩)
  rw [← zJ_set (zC_setX (by omega) (zCe_pa (zD_arr hq)))]
  have e1 : zAr g (zpa σ q (upd (σ.2 q) i.toNatClampNeg x)) q 0 (zlen q) = (g.2.1.1, zlen q, .inl (upd (σ.2 q) i.toNatClampNeg x)) := by simp [zAr, zpa, va_up_self]
  rw [e1]; exact h1
theorem z_iastM (hexec : p.tables.exec = Jvm.exec) (hb : c.code = cc) (E : zE g A s) (hh : zW g A σ τ s H locs) {q : Nat} (hq : 55 ≤ q) (hq2 : q < 65) {i x : Int32} (hin : zin i (zlen q)) {τ' : zS} (hσ : τ' = zpa τ q (upd (τ.2 q) i.toNatClampNeg x)) (hdg : decode cc pc = .ok (.iastore, 1)) (kk : ∀ (H1 : Heap) (locs1 : List Loc), zW g A σ τ' s H1 locs1 → W p l e R s m args below meth c H1 locs1 cells slots Q (F0 m (pc + 1) ls rest)) : W p l e R s m args below meth c H locs cells slots Q (F0 m pc ls (.int x :: .int i :: .ref (g.2.2 q) :: rest)) := by
  subst hσ
  refine va_iast hexec hb E.1 hh.1 (zAp_D E.2.2.1) hh.2 q 0 ((zJ_get (by omega)).trans (by rw [zC_marr hq hq2])) rfl hin hdg (fun H1 locs1 h1 _ h3 => kk H1 locs1 ⟨?_, h3⟩)
  rw [← zJ_set (zC_setM (by omega) (zCe_pa (zD_marr hq hq2)))]
  have e1 : zAr g (zpa τ q (upd (τ.2 q) i.toNatClampNeg x)) q 0 (zlen q) = (g.2.1.1, zlen q, .inl (upd (τ.2 q) i.toNatClampNeg x)) := by simp [zAr, zpa, va_up_self]
  rw [e1]; exact h1
theorem z_zald (hexec : p.tables.exec = Jvm.exec) (hb : c.code = cc) (E : zE g A s) (hh : zW g A σ τ s H locs) {i v : Int32} (hin : zin i 2) (hv : v = σ.2 39 i.toNatClampNeg) (hdg : decode cc pc = .ok (.baload, 1)) (kk : W p l e R s m args below meth c H locs cells slots Q (F0 m (pc + 1) ls (.int v :: rest))) : W p l e R s m args below meth c H locs cells slots Q (F0 m pc ls (.int i :: .ref (g.2.2 39) :: rest)) := by
  subst hv
  exact va_zald hexec hb E.1 hh.1 39 1 ((zJ_get (by omega)).trans rfl) rfl hin hdg kk
theorem z_zaldM (hexec : p.tables.exec = Jvm.exec) (hb : c.code = cc) (E : zE g A s) (hh : zW g A σ τ s H locs) {i v : Int32} (hin : zin i 2) (hv : v = τ.2 65 i.toNatClampNeg) (hdg : decode cc pc = .ok (.baload, 1)) (kk : W p l e R s m args below meth c H locs cells slots Q (F0 m (pc + 1) ls (.int v :: rest))) : W p l e R s m args below meth c H locs cells slots Q (F0 m pc ls (.int i :: .ref (g.2.2 65) :: rest)) := by
  subst hv
  exact va_zald hexec hb E.1 hh.1 65 1 ((zJ_get (by omega)).trans rfl) rfl hin hdg kk
theorem z_zast (hexec : p.tables.exec = Jvm.exec) (hb : c.code = cc) (E : zE g A s) (hh : zW g A σ τ s H locs) {i x : Int32} (hin : zin i 2) {σ' : zS} (hσ : σ' = zpa σ 39 (upd (σ.2 39) i.toNatClampNeg (vp_nar .boolean x))) (hdg : decode cc pc = .ok (.bastore, 1)) (kk : ∀ (H1 : Heap) (locs1 : List Loc), zW g A σ' τ s H1 locs1 → W p l e R s m args below meth c H1 locs1 cells slots Q (F0 m (pc + 1) ls rest)) : W p l e R s m args below meth c H locs cells slots Q (F0 m pc ls (.int x :: .int i :: .ref (g.2.2 39) :: rest)) := by
  subst hσ
  refine va_zast hexec hb E.1 hh.1 (zAp_D E.2.2.1) hh.2 39 1 ((zJ_get (by omega)).trans rfl) rfl hin hdg (fun H1 locs1 h1 _ h3 => kk H1 locs1 ⟨?_, h3⟩)
  rw [← zJ_set (zC_setX (by omega) (zCe_pa (q := 39) (t := 1) (n := 2) rfl))]
  have e1 : zAr g (zpa σ 39 (upd (σ.2 39) i.toNatClampNeg (vp_nar .boolean x))) 39 1 2 = (g.2.1.2.1, 2, .inl (upd (σ.2 39) i.toNatClampNeg (vp_nar .boolean x))) := by simp [zAr, zpa, va_up_self]
  rw [e1]; exact h1
theorem z_zastM (hexec : p.tables.exec = Jvm.exec) (hb : c.code = cc) (E : zE g A s) (hh : zW g A σ τ s H locs) {i x : Int32} (hin : zin i 2) {τ' : zS} (hσ : τ' = zpa τ 65 (upd (τ.2 65) i.toNatClampNeg (vp_nar .boolean x))) (hdg : decode cc pc = .ok (.bastore, 1)) (kk : ∀ (H1 : Heap) (locs1 : List Loc), zW g A σ τ' s H1 locs1 → W p l e R s m args below meth c H1 locs1 cells slots Q (F0 m (pc + 1) ls rest)) : W p l e R s m args below meth c H locs cells slots Q (F0 m pc ls (.int x :: .int i :: .ref (g.2.2 65) :: rest)) := by
  subst hσ
  refine va_zast hexec hb E.1 hh.1 (zAp_D E.2.2.1) hh.2 65 1 ((zJ_get (by omega)).trans rfl) rfl hin hdg (fun H1 locs1 h1 _ h3 => kk H1 locs1 ⟨?_, h3⟩)
  rw [← zJ_set (zC_setM (by omega) (zCe_pa (q := 65) (t := 1) (n := 2) rfl))]
  have e1 : zAr g (zpa τ 65 (upd (τ.2 65) i.toNatClampNeg (vp_nar .boolean x))) 65 1 2 = (g.2.1.2.1, 2, .inl (upd (τ.2 65) i.toNatClampNeg (vp_nar .boolean x))) := by simp [zAr, zpa, va_up_self]
  rw [e1]; exact h1
theorem z_alen (hexec : p.tables.exec = Jvm.exec) (hb : c.code = cc) (E : zE g A s) (hh : zW g A σ τ s H locs) {q : Nat} (hq : q < 39) (hdg : decode cc pc = .ok (.arraylength, 1)) (kk : W p l e R s m args below meth c H locs cells slots Q (F0 m (pc + 1) ls (.int (Int32.ofNat (zlen q)) :: rest))) : W p l e R s m args below meth c H locs cells slots Q (F0 m pc ls (.ref (g.2.2 q) :: rest)) :=
  va_alen hexec hb E.1 hh.1 q 0 ((zJ_get (by omega)).trans (by rw [zC_arr hq])) (ty := .int) rfl rfl hdg kk
theorem z_aldB (hexec : p.tables.exec = Jvm.exec) (hb : c.code = cc) (E : zE g A s) (hh : zW g A σ τ s H locs) {i : Int32} (hin : zin i 2) (hdg : decode cc pc = .ok (.aaload, 1)) (kk : W p l e R s m args below meth c H locs cells slots Q (F0 m (pc + 1) ls (.ref (g.2.2 (44 + i.toNatClampNeg)) :: rest))) : W p l e R s m args below meth c H locs cells slots Q (F0 m pc ls (.int i :: .ref (g.2.2 40) :: rest)) :=
  va_aldq hexec hb E.1 hh.1 40 2 ((zJ_get (by omega)).trans rfl) rfl hin hdg kk
theorem z_aldS (hexec : p.tables.exec = Jvm.exec) (hb : c.code = cc) (E : zE g A s) (hh : zW g A σ τ s H locs) {i : Int32} (hin : zin i 4) (hdg : decode cc pc = .ok (.aaload, 1)) (kk : W p l e R s m args below meth c H locs cells slots Q (F0 m (pc + 1) ls (.ref (g.2.2 (46 + i.toNatClampNeg)) :: rest))) : W p l e R s m args below meth c H locs cells slots Q (F0 m pc ls (.int i :: .ref (g.2.2 41) :: rest)) :=
  va_aldq hexec hb E.1 hh.1 41 3 ((zJ_get (by omega)).trans rfl) rfl hin hdg kk
theorem z_get (hexec : p.tables.exec = Jvm.exec) (hb : c.code = cc) {own C : String} {T : u_T} {N ci index : Nat} {Ts : List Cond} (hts : ∀ w ∈ Ts, w.before args s = true) (hin : ∀ w ∈ u_ws C T N, w ∈ Ts) (hown : s.vm.findClass own = some m.cls) (E : zE g A s) (hh : zW g A σ τ s H locs) {q : Nat} (hq : q < 67) {fs : List Value} (hc : zC g σ τ q = .inr (ci, fs)) (hcl : vwCl[ci]? = some (C, T, N)) (k : Nat) (hk : k < N) (hlink : (Cond.fieldLink own index (T k).1 (T k).2.1 (T k).2.2.1).before args s = true) {v : Value} (hv : fs[k]? = some v) (hdg : decode cc pc = .ok (.getfield index, 3)) (kk : W p l e R s m args below meth c H locs cells slots Q (F0 m (pc + 3) ls (v :: rest))) : W p l e R s m args below meth c H locs cells slots Q (F0 m pc ls (.ref (g.2.2 q) :: rest)) :=
  va_get hexec hb hts hin hown E.1 hh.1 q ((zJ_get hq).trans (by rw [hc])) hcl k hk hlink (fun _ h => h) hv hdg kk
theorem z_getN (hexec : p.tables.exec = Jvm.exec) (hb : c.code = cc) {own C host : String} {T : u_T} {N ci index : Nat} {Ts : List Cond} (hts : ∀ w ∈ Ts, w.before args s = true) (hin : ∀ w ∈ u_ws C T N, w ∈ Ts) (hown : s.vm.findClass own = some m.cls) (E : zE g A s) (hh : zW g A σ τ s H locs) {q : Nat} (hq : q < 67) {fs : List Value} (hc : zC g σ τ q = .inr (ci, fs)) (hcl : vwCl[ci]? = some (C, T, N)) (k : Nat) (hk : k < N) (hlink : (Cond.fieldLinkNest own index (T k).1 (T k).2.1 (T k).2.2.1 host).before args s = true) {v : Value} (hv : fs[k]? = some v) (hdg : decode cc pc = .ok (.getfield index, 3)) (kk : W p l e R s m args below meth c H locs cells slots Q (F0 m (pc + 3) ls (v :: rest))) : W p l e R s m args below meth c H locs cells slots Q (F0 m pc ls (.ref (g.2.2 q) :: rest)) :=
  va_getN hexec hb hts hin hown E.1 hh.1 q ((zJ_get hq).trans (by rw [hc])) hcl k hk hlink (fun _ h => h) hv hdg kk
theorem zF_len (g : zG) (ρ : zS) (q : Nat) : ∀ (tm : List (Option Nat)) (j : Nat), (zF g ρ q tm j).length = tm.length
  | [], _ => rfl
  | some _ :: t, j => by simp only [zF, List.length_cons]; rw [zF_len g ρ q t (j + 1)]
  | none :: t, j => by simp only [zF, List.length_cons]; rw [zF_len g ρ q t (j + 1)]
theorem z_put (hexec : p.tables.exec = Jvm.exec) (hb : c.code = cc) {own C : String} {T : u_T} {N ci index : Nat} {Ts : List Cond} (hts : ∀ w ∈ Ts, w.before args s = true) (hin : ∀ w ∈ u_ws C T N, w ∈ Ts) (ty0 : Nat → FieldType) (hty : ∀ k, k < N → parseFieldDescriptor (T k).2.2.1 = some (ty0 k)) (hnm : ∀ a, a < N → ∀ b, b < N → a ≠ b → (T a).2.1 ≠ (T b).2.1) (hown : s.vm.findClass own = some m.cls) (E : zE g A s) (hh : zW g A σ τ s H locs) {q : Nat} (hq : q < 55) {tm : List (Option Nat)} (hD : zD q = .inr (ci, tm)) (hcl : vwCl[ci]? = some (C, T, N)) (k : Nat) (hk : k < N) (htm : tm[k]? = some none) (hlink : (Cond.fieldLink own index (T k).1 (T k).2.1 (T k).2.2.1).before args s = true) (hfin : (T k).2.2.2 = false) (hi : ty0 k = .int) {x : Int32} {σ' : zS} (hσ : σ' = zpf σ q k x) (hdg : decode cc pc = .ok (.putfield index, 3)) (kk : ∀ (H1 : Heap) (locs1 : List Loc), zW g A σ' τ s H1 locs1 → W p l e R s m args below meth c H1 locs1 cells slots Q (F0 m (pc + 3) ls rest)) : W p l e R s m args below meth c H locs cells slots Q (F0 m pc ls (.int x :: .ref (g.2.2 q) :: rest)) := by
  subst hσ
  refine va_put (ty := .int) (v := .int x) hexec hb hts hin ty0 hty hnm hown E.1 hh.1 (zAp_D E.2.2.1) hh.2 q ((zJ_get (by omega)).trans (by rw [zC_X hq]; unfold zCe; rw [hD])) hcl k hk hlink (fun _ h => h) hfin ((hty k hk).trans (by rw [hi])) rfl rfl (by rw [zF_len]; exact (List.getElem?_eq_some_iff.mp htm).1) hdg (fun H1 locs1 h1 _ h3 => kk H1 locs1 ⟨?_, h3⟩)
  rw [← zJ_set (zC_setX hq (zCe_pf hD htm))]; exact h1
theorem z_putN (hexec : p.tables.exec = Jvm.exec) (hb : c.code = cc) {own C host : String} {T : u_T} {N ci index : Nat} {Ts : List Cond} (hts : ∀ w ∈ Ts, w.before args s = true) (hin : ∀ w ∈ u_ws C T N, w ∈ Ts) (ty0 : Nat → FieldType) (hty : ∀ k, k < N → parseFieldDescriptor (T k).2.2.1 = some (ty0 k)) (hnm : ∀ a, a < N → ∀ b, b < N → a ≠ b → (T a).2.1 ≠ (T b).2.1) (hown : s.vm.findClass own = some m.cls) (E : zE g A s) (hh : zW g A σ τ s H locs) {q : Nat} (hq : q < 55) {tm : List (Option Nat)} (hD : zD q = .inr (ci, tm)) (hcl : vwCl[ci]? = some (C, T, N)) (k : Nat) (hk : k < N) (htm : tm[k]? = some none) (hlink : (Cond.fieldLinkNest own index (T k).1 (T k).2.1 (T k).2.2.1 host).before args s = true) (hfin : (T k).2.2.2 = false) (hi : ty0 k = .int) {x : Int32} {σ' : zS} (hσ : σ' = zpf σ q k x) (hdg : decode cc pc = .ok (.putfield index, 3)) (kk : ∀ (H1 : Heap) (locs1 : List Loc), zW g A σ' τ s H1 locs1 → W p l e R s m args below meth c H1 locs1 cells slots Q (F0 m (pc + 3) ls rest)) : W p l e R s m args below meth c H locs cells slots Q (F0 m pc ls (.int x :: .ref (g.2.2 q) :: rest)) := by
  subst hσ
  refine va_putN (ty := .int) (v := .int x) hexec hb hts hin ty0 hty hnm hown E.1 hh.1 (zAp_D E.2.2.1) hh.2 q ((zJ_get (by omega)).trans (by rw [zC_X hq]; unfold zCe; rw [hD])) hcl k hk hlink (fun _ h => h) hfin ((hty k hk).trans (by rw [hi])) rfl rfl (by rw [zF_len]; exact (List.getElem?_eq_some_iff.mp htm).1) hdg (fun H1 locs1 h1 _ h3 => kk H1 locs1 ⟨?_, h3⟩)
  rw [← zJ_set (zC_setX hq (zCe_pf hD htm))]; exact h1
theorem z_putM (hexec : p.tables.exec = Jvm.exec) (hb : c.code = cc) {own C : String} {T : u_T} {N ci index : Nat} {Ts : List Cond} (hts : ∀ w ∈ Ts, w.before args s = true) (hin : ∀ w ∈ u_ws C T N, w ∈ Ts) (ty0 : Nat → FieldType) (hty : ∀ k, k < N → parseFieldDescriptor (T k).2.2.1 = some (ty0 k)) (hnm : ∀ a, a < N → ∀ b, b < N → a ≠ b → (T a).2.1 ≠ (T b).2.1) (hown : s.vm.findClass own = some m.cls) (E : zE g A s) (hh : zW g A σ τ s H locs) {q : Nat} (hq : 55 ≤ q) (hq2 : q < 67) {tm : List (Option Nat)} (hD : zD q = .inr (ci, tm)) (hcl : vwCl[ci]? = some (C, T, N)) (k : Nat) (hk : k < N) (htm : tm[k]? = some none) (hlink : (Cond.fieldLink own index (T k).1 (T k).2.1 (T k).2.2.1).before args s = true) (hfin : (T k).2.2.2 = false) (hi : ty0 k = .int) {x : Int32} {τ' : zS} (hσ : τ' = zpf τ q k x) (hdg : decode cc pc = .ok (.putfield index, 3)) (kk : ∀ (H1 : Heap) (locs1 : List Loc), zW g A σ τ' s H1 locs1 → W p l e R s m args below meth c H1 locs1 cells slots Q (F0 m (pc + 3) ls rest)) : W p l e R s m args below meth c H locs cells slots Q (F0 m pc ls (.int x :: .ref (g.2.2 q) :: rest)) := by
  subst hσ
  refine va_put (ty := .int) (v := .int x) hexec hb hts hin ty0 hty hnm hown E.1 hh.1 (zAp_D E.2.2.1) hh.2 q ((zJ_get hq2).trans (by rw [zC_M hq]; unfold zCe; rw [hD])) hcl k hk hlink (fun _ h => h) hfin ((hty k hk).trans (by rw [hi])) rfl rfl (by rw [zF_len]; exact (List.getElem?_eq_some_iff.mp htm).1) hdg (fun H1 locs1 h1 _ h3 => kk H1 locs1 ⟨?_, h3⟩)
  rw [← zJ_set (zC_setM hq (zCe_pf hD htm))]; exact h1
theorem zPc_blind (av : List Value) : FrameBlind (zPc g A σ τ av) := fun a U g' mk h => ⟨h.1, h.2.1, zE_blind h.2.2 rfl rfl⟩
theorem z_preV (E : zE g A s) (hh : zW g A σ τ s H locs) {q ci : Nat} (hq : q < 67) {fs : List Value} (hc : zC g σ τ q = .inr (ci, fs)) {C : String} {T : u_T} {N : Nat} (hcl : vwCl[ci]? = some (C, T, N)) {As : List Value} : PreV s H C (g.2.2 q) (zPc g A σ τ (.ref (g.2.2 q) :: As)) As :=
  ⟨zPc_blind _, va_recv E.1 hh.1 (ci := ci) (q0 := q) hcl ((zJ_get hq).trans (by rw [hc])), fun U hU hW => ⟨rfl, by rw [hU]; exact hh.1, zE_go E hh.2 hU hW⟩⟩
theorem z_preS (E : zE g A s) (hh : zW g A σ τ s H locs) {As : List Value} : PreS s H (zPc g A σ τ As) As :=
  ⟨zPc_blind _, fun U hU hW => ⟨rfl, by rw [hU]; exact hh.1, zE_go E hh.2 hU hW⟩⟩
variable {a : Array Value}
theorem z_xi {res : Int32 × zS} (hr : va_Run p l e R s m args below meth c H locs cells slots 0 0 (F0 m pc ls st0) rest (zQi g A τ res a) A) (hh : zW g A σ τ s H locs) (kk : ∀ (H1 : Heap) (locs1 : List Loc), zW g A res.2 τ s H1 locs1 → W p l e R s m args below meth c H1 locs1 cells slots Q (F0 m (pc + 3) ls (.int res.1 :: rest))) : W p l e R s m args below meth c H locs cells slots Q (F0 m pc ls st0) :=
  va_calli hr hh.2 (fun _ _ h => h) (fun _ h => h) (fun r u t H1 locs1 ht _ hw hB _ _ hS => by cases hw; exact kk H1 locs1 ⟨by rw [ht] at hB; exact hB, hS⟩)
theorem z_xl {res : Int64 × zS} (hr : va_Run p l e R s m args below meth c H locs cells slots 0 0 (F0 m pc ls st0) rest (zQl g A τ res a) A) (hh : zW g A σ τ s H locs) (kk : ∀ (H1 : Heap) (locs1 : List Loc), zW g A res.2 τ s H1 locs1 → W p l e R s m args below meth c H1 locs1 cells slots Q (F0 m (pc + 3) ls (.long res.1 :: rest))) : W p l e R s m args below meth c H locs cells slots Q (F0 m pc ls st0) :=
  va_calll hr hh.2 (fun _ _ h => h) (fun _ h => h) (fun r u t H1 locs1 ht _ hw hB _ _ hS => by cases hw; exact kk H1 locs1 ⟨by rw [ht] at hB; exact hB, hS⟩)
theorem z_xv {res : zS} (hr : va_Run p l e R s m args below meth c H locs cells slots 0 0 (F0 m pc ls st0) rest (zQv g A τ res a) A) (hh : zW g A σ τ s H locs) (kk : ∀ (H1 : Heap) (locs1 : List Loc), zW g A res τ s H1 locs1 → W p l e R s m args below meth c H1 locs1 cells slots Q (F0 m (pc + 3) ls rest)) : W p l e R s m args below meth c H locs cells slots Q (F0 m pc ls st0) :=
  va_callv hr hh.2 (fun _ _ h => h) (fun _ h => h) (fun u t H1 locs1 ht _ hw hB _ _ hS => by cases hw; exact kk H1 locs1 ⟨by rw [ht] at hB; exact hB, hS⟩)
theorem z_mi {res : Int32 × zS} (hr : va_Run p l e R s m args below meth c H locs cells slots 0 0 (F0 m pc ls st0) rest (zPi g A σ res a) A) (hh : zW g A σ τ s H locs) (kk : ∀ (H1 : Heap) (locs1 : List Loc), zW g A σ res.2 s H1 locs1 → W p l e R s m args below meth c H1 locs1 cells slots Q (F0 m (pc + 3) ls (.int res.1 :: rest))) : W p l e R s m args below meth c H locs cells slots Q (F0 m pc ls st0) :=
  va_calli hr hh.2 (fun _ _ h => h) (fun _ h => h) (fun r u t H1 locs1 ht _ hw hB _ _ hS => by cases hw; exact kk H1 locs1 ⟨by rw [ht] at hB; exact hB, hS⟩)
theorem z_ml {res : Int64 × zS} (hr : va_Run p l e R s m args below meth c H locs cells slots 0 0 (F0 m pc ls st0) rest (zPl g A σ res a) A) (hh : zW g A σ τ s H locs) (kk : ∀ (H1 : Heap) (locs1 : List Loc), zW g A σ res.2 s H1 locs1 → W p l e R s m args below meth c H1 locs1 cells slots Q (F0 m (pc + 3) ls (.long res.1 :: rest))) : W p l e R s m args below meth c H locs cells slots Q (F0 m pc ls st0) :=
  va_calll hr hh.2 (fun _ _ h => h) (fun _ h => h) (fun r u t H1 locs1 ht _ hw hB _ _ hS => by cases hw; exact kk H1 locs1 ⟨by rw [ht] at hB; exact hB, hS⟩)
theorem z_mv {res : zS} (hr : va_Run p l e R s m args below meth c H locs cells slots 0 0 (F0 m pc ls st0) rest (zPv g A σ res a) A) (hh : zW g A σ τ s H locs) (kk : ∀ (H1 : Heap) (locs1 : List Loc), zW g A σ res s H1 locs1 → W p l e R s m args below meth c H1 locs1 cells slots Q (F0 m (pc + 3) ls rest)) : W p l e R s m args below meth c H locs cells slots Q (F0 m pc ls st0) :=
  va_callv hr hh.2 (fun _ _ h => h) (fun _ h => h) (fun u t H1 locs1 ht _ hw hB _ _ hS => by cases hw; exact kk H1 locs1 ⟨by rw [ht] at hB; exact hB, hS⟩)
theorem z_nb {v : Int32} (h : v = 0 ∨ v = 1) : narrow .boolean (.int v) = .int v := by rcases h with rfl | rfl <;> rfl
theorem z_iretX {v : Int32} (hexec : p.tables.exec = Jvm.exec) (hb : c.code = cc) (hr : meth.sig.returnType = some .int) (hlocks : meth.locks = false) (hh : zW g A σ τ s H locs) (hdg : decode cc pc = .ok (.ireturn, 1)) : W p l e R s m args below meth c H locs cells slots (MQ below (zQi g A τ (v, σ)) args s cells slots A) (F0 m pc ls [.int v]) :=
  W.iret hexec hb hr (fun t ht hW => ⟨⟨v, σ, rfl, rfl, by dsimp only; rw [ht]; exact hh.1⟩, hh.2.F ht⟩) hh.2.2.2 hdg hlocks
theorem z_iretM {v : Int32} (hexec : p.tables.exec = Jvm.exec) (hb : c.code = cc) (hr : meth.sig.returnType = some .int) (hlocks : meth.locks = false) (hh : zW g A σ τ s H locs) (hdg : decode cc pc = .ok (.ireturn, 1)) : W p l e R s m args below meth c H locs cells slots (MQ below (zPi g A σ (v, τ)) args s cells slots A) (F0 m pc ls [.int v]) :=
  W.iret hexec hb hr (fun t ht hW => ⟨⟨v, τ, rfl, rfl, by dsimp only; rw [ht]; exact hh.1⟩, hh.2.F ht⟩) hh.2.2.2 hdg hlocks
theorem z_zretX {v : Int32} (hexec : p.tables.exec = Jvm.exec) (hb : c.code = cc) (hr : meth.sig.returnType = some .boolean) (hlocks : meth.locks = false) (hv : v = 0 ∨ v = 1) (hh : zW g A σ τ s H locs) (hdg : decode cc pc = .ok (.ireturn, 1)) : W p l e R s m args below meth c H locs cells slots (MQ below (zQi g A τ (v, σ)) args s cells slots A) (F0 m pc ls [.int v]) :=
  W.zret hexec hb hr (z_nb hv) (fun t ht hW => ⟨⟨v, σ, rfl, rfl, by dsimp only; rw [ht]; exact hh.1⟩, hh.2.F ht⟩) hh.2.2.2 hdg hlocks
theorem z_zretM {v : Int32} (hexec : p.tables.exec = Jvm.exec) (hb : c.code = cc) (hr : meth.sig.returnType = some .boolean) (hlocks : meth.locks = false) (hv : v = 0 ∨ v = 1) (hh : zW g A σ τ s H locs) (hdg : decode cc pc = .ok (.ireturn, 1)) : W p l e R s m args below meth c H locs cells slots (MQ below (zPi g A σ (v, τ)) args s cells slots A) (F0 m pc ls [.int v]) :=
  W.zret hexec hb hr (z_nb hv) (fun t ht hW => ⟨⟨v, τ, rfl, rfl, by dsimp only; rw [ht]; exact hh.1⟩, hh.2.F ht⟩) hh.2.2.2 hdg hlocks
theorem z_lretX {v : Int64} (hexec : p.tables.exec = Jvm.exec) (hb : c.code = cc) (hr : meth.sig.returnType = some .long) (hlocks : meth.locks = false) (hh : zW g A σ τ s H locs) (hdg : decode cc pc = .ok (.lreturn, 1)) : W p l e R s m args below meth c H locs cells slots (MQ below (zQl g A τ (v, σ)) args s cells slots A) (F0 m pc ls [.long v]) :=
  W.lret hexec hb hr (fun t ht hW => ⟨⟨v, σ, rfl, rfl, by dsimp only; rw [ht]; exact hh.1⟩, hh.2.F ht⟩) hh.2.2.2 hdg hlocks
theorem z_lretM {v : Int64} (hexec : p.tables.exec = Jvm.exec) (hb : c.code = cc) (hr : meth.sig.returnType = some .long) (hlocks : meth.locks = false) (hh : zW g A σ τ s H locs) (hdg : decode cc pc = .ok (.lreturn, 1)) : W p l e R s m args below meth c H locs cells slots (MQ below (zPl g A σ (v, τ)) args s cells slots A) (F0 m pc ls [.long v]) :=
  W.lret hexec hb hr (fun t ht hW => ⟨⟨v, τ, rfl, rfl, by dsimp only; rw [ht]; exact hh.1⟩, hh.2.F ht⟩) hh.2.2.2 hdg hlocks
theorem z_vretX (hexec : p.tables.exec = Jvm.exec) (hb : c.code = cc) (hr : meth.sig.returnType = none) (hlocks : meth.locks = false) (hh : zW g A σ τ s H locs) (hdg : decode cc pc = .ok (.return_, 1)) : W p l e R s m args below meth c H locs cells slots (MQ below (zQv g A τ σ) args s cells slots A) (F0 m pc ls []) :=
  W.vret hexec hb hr (fun t ht hW => ⟨⟨σ, rfl, rfl, by dsimp only; rw [ht]; exact hh.1⟩, hh.2.F ht⟩) hh.2.2.2 hdg hlocks
theorem z_vretM (hexec : p.tables.exec = Jvm.exec) (hb : c.code = cc) (hr : meth.sig.returnType = none) (hlocks : meth.locks = false) (hh : zW g A σ τ s H locs) (hdg : decode cc pc = .ok (.return_, 1)) : W p l e R s m args below meth c H locs cells slots (MQ below (zPv g A σ τ) args s cells slots A) (F0 m pc ls []) :=
  W.vret hexec hb hr (fun t ht hW => ⟨⟨τ, rfl, rfl, by dsimp only; rw [ht]; exact hh.1⟩, hh.2.F ht⟩) hh.2.2.2 hdg hlocks
theorem z_met {y : MethodName} {ws ws' : List Cond} {rm : Room} {Qc : Array Value → State → Outcome → State → Prop} {maxL : Nat} {ret : Option FieldType} {own : String} (hy : plainName y.cls = true) (hw : ws = Cond.code y cc maxL ret :: ws') (ho : y.cls = own) (av : List Value) (hn : (lg_sl av).length ≤ maxL) (body : ∀ (p : Program) (e : Env) (s : State) (m : MethodId) (below : List Frame) (meth : Method) (c : Code), zCx p s m av.toArray meth c cc ret ws own maxL → zE g A s → ∀ ls, lv_has ls maxL (lv_args 0 av) → zW g A σ τ s s.heap [] → W p l e rm s m av.toArray below meth c s.heap [] 0 0 (MQ below Qc av.toArray s 0 0 A) (F0 m 0 ls [])) : Met l y ws rm (zPc g A σ τ av) Qc 0 0 A := by
  refine Met.ofW (cc := cc) (maxL := maxL) (ret := ret) hy hw ?_
  intro p e s m args below meth c s₁ B hml hv
  obtain ⟨rfl, hP, hE⟩ := hv
  rw [lg_entry_eq]
  subst ho
  exact body p e s m below meth c ⟨B.exec, B.bytes, B.returns, hml, findClass_of_methodNamed B.named, atoms_spec (ws := ws) B.pre, B.notSynchronized⟩ hE _ (lv_entry av hn) ⟨hP, va_S.rf⟩
def zcp (sp dp n : Int32) (n0 n1 : Nat) : Prop := ¬ sp < 0 ∧ ¬ dp < 0 ∧ ¬ n < 0 ∧ sp.toNatClampNeg + n.toNatClampNeg ≤ n0 ∧ dp.toNatClampNeg + n.toNatClampNeg ≤ n1
theorem z_copy (hexec : p.tables.exec = Jvm.exec) (hb : c.code = cc) (hml : c.maxLocals = ls.size) {own : String} {index : Nat} (hown : s.vm.findClass own = some m.cls) (hlink : (Cond.methodLink own index arraycopyName).before args s = true) (hnat : (Cond.native arraycopyName).before args s = true) (hstat : (Cond.static arraycopyName).before args s = true) (hini : (Cond.initialized "java/lang/System").before args s = true) (E : zE g A s) (hh : zW g A σ τ s H locs) {q0 q1 : Nat} (hq0 : q0 < 39) (hq1 : q1 < 39) {sp dp n : Int32} (hc : ¬ sp < 0 ∧ ¬ dp < 0 ∧ ¬ n < 0 ∧ sp.toNatClampNeg + n.toNatClampNeg ≤ zlen q0 ∧ dp.toNatClampNeg + n.toNatClampNeg ≤ zlen q1) {σ' : zS} (hσ : σ' = zpa σ q1 (va_cpy (σ.2 q0) (σ.2 q1) sp.toNatClampNeg dp.toNatClampNeg n.toNatClampNeg)) (hframes : 1 ≤ R.frames) (hlocals : (rest.map fun v => v.category).sum + (nativeFrameWords "java/lang/System" "arraycopy" 5 + 11) ≤ R.locals) (hdg : decode cc pc = .ok (.invokestatic index, 3)) (kk : ∀ (H1 : Heap) (locs1 : List Loc), zW g A σ' τ s H1 locs1 → W p l e R s m args below meth c H1 locs1 cells slots Q (F0 m (pc + 3) ls rest)) : W p l e R s m args below meth c H locs cells slots Q (F0 m pc ls (.int n :: .int dp :: .ref (g.2.2 q1) :: .int sp :: .ref (g.2.2 q0) :: rest)) := by
  subst hσ
  refine va_copyi (ty := .int) hexec hb hml hown hlink hnat hstat hini E.1 hh.1 (zAp_D E.2.2.1) hh.2 q0 q1 0 0 ((zJ_get (by omega)).trans (by rw [zC_arr hq0])) ((zJ_get (by omega)).trans (by rw [zC_arr hq1])) rfl rfl rfl hc.1 hc.2.1 hc.2.2.1 hc.2.2.2.1 hc.2.2.2.2 (fun _ _ => rfl) hframes hlocals hdg (fun H1 locs1 h1 _ h3 => kk H1 locs1 ⟨?_, h3⟩)
  rw [← zJ_set (zC_setX (by omega) (zCe_pa (zD_arr hq1)))]
  have e1 : zAr g (zpa σ q1 (va_cpy (σ.2 q0) (σ.2 q1) sp.toNatClampNeg dp.toNatClampNeg n.toNatClampNeg)) q1 0 (zlen q1) = (g.2.1.1, zlen q1, .inl (va_cpy (σ.2 q0) (σ.2 q1) sp.toNatClampNeg dp.toNatClampNeg n.toNatClampNeg)) := by simp [zAr, zpa, va_up_self]
  rw [e1]; exact h1
def zushr (x y : Int32) : Int32 := (x.toUInt32 >>> (y.toUInt32 &&& Int32.toUInt32 31)).toInt32
def zrem (x y : Int32) : Int32 := x - x / y * y
def zlrem (x y : Int64) : Int64 := x - x / y * y
theorem z_inl {i : Int32} {n : Nat} (h : zin i n) : i.toNatClampNeg < n := Nat.lt_of_not_le (fun h' => h (Or.inr h'))
theorem z_tbl (hexec : p.tables.exec = Jvm.exec) (hb : c.code = cc) {dflt lo hi : Int} {offs : Array Int} {len : Nat} {x : Int32} {off : Int} {tgt : Nat} (hdg : decode cc pc = .ok (.tableswitch dflt lo hi offs, len)) (k : Int32) (h : x = k) (h1 : ¬ k.toInt < lo) (h2 : ¬ hi < k.toInt) (ho : offs[(k.toInt - lo).toNat]? = some off) (ht : (pc : Int) + off = (tgt : Int)) (kk : W p l e R s m args below meth c H locs cells slots Q (F0 m tgt ls rest)) : W p l e R s m args below meth c H locs cells slots Q (F0 m pc ls (.int x :: rest)) := by
  subst h
  exact lv_tableIn hexec hb hdg h1 h2 ho ht kk
end ZW

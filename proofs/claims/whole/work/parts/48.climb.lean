/-! climbing -/
theorem m_pig : ∀ (n k : Nat) (f : Nat → Nat), (∀ i, i < k → f i < n) → (∀ i, i < k → ∀ j, j < k → f i = f j → i = j) → k ≤ n := by
  intro n
  induction n with
  | zero =>
    intro k f h _
    rcases Nat.eq_zero_or_pos k with h0 | h0
    · omega
    · have := h 0 h0; omega
  | succ n ih =>
    intro k f h hi
    rcases Nat.eq_zero_or_pos k with h0 | h0
    · omega
    obtain ⟨k, rfl⟩ : ∃ q, k = q + 1 := ⟨k - 1, by omega⟩
    by_cases hn : ∃ i, i < k + 1 ∧ f i = n
    · obtain ⟨i0, h1, h2⟩ := hn
      have := ih k (fun j => if j = i0 then f k else f j) (fun j hj => ?_) (fun a ha b hb e => ?_)
      · omega
      · by_cases e : j = i0
        · rw [if_pos e]
          have a := h k (by omega)
          have b : f k ≠ n := fun e' => by have := hi k (by omega) i0 h1 (by omega); omega
          omega
        · rw [if_neg e]
          have a := h j (by omega)
          have b : f j ≠ n := fun e' => by have := hi j (by omega) i0 h1 (by omega); omega
          omega
      · by_cases ea : a = i0
        · by_cases eb : b = i0
          · omega
          · rw [if_pos ea, if_neg eb] at e
            have := hi k (by omega) b (by omega) e
            omega
        · by_cases eb : b = i0
          · rw [if_neg ea, if_pos eb] at e
            have := hi a (by omega) k (by omega) e
            omega
          · rw [if_neg ea, if_neg eb] at e
            exact hi a (by omega) b (by omega) e
    · have := ih (k + 1) f (fun i hi' => by
        have a := h i hi'
        have b : f i ≠ n := fun e => hn ⟨i, hi', e⟩
        omega) hi
      omega
/-- whether a beast may climb -/
def mcan (β : mB) (b : Nat) : Prop := (∀ i, i < β.1 2 → β.2 4 i ≠ b) ∧ cs β (β.2 4) (β.1 2) (β.2 1 b) = true
theorem mcan_lt {β : mB} {b : Nat} (hO : BOk β) (hb : b < β.1 0) (h : ∀ i, i < β.1 2 → β.2 4 i ≠ b) : β.1 2 < β.1 0 := by
  have := m_pig (β.1 0) (β.1 2 + 1) (fun i => if i = β.1 2 then b else β.2 4 i) (fun i hi => ?_) (fun i hi j hj e => ?_)
  · omega
  · by_cases e : i = β.1 2
    · rw [if_pos e]; exact hb
    · rw [if_neg e]; exact hO.2.2.2.2.2.2.1 i (by omega)
  · by_cases ei : i = β.1 2
    · by_cases ej : j = β.1 2
      · omega
      · rw [if_pos ei, if_neg ej] at e
        exact absurd e.symm (h j (by omega))
    · by_cases ej : j = β.1 2
      · rw [if_neg ei, if_pos ej] at e
        exact absurd e (h i (by omega))
      · rw [if_neg ei, if_neg ej] at e
        exact hO.2.2.2.2.2.2.2.1 i (by omega) j (by omega) e
theorem mbits_no {T : Nat → Nat} {h b : Nat} : (mbits T h).testBit b = false ↔ ∀ i, i < h → T i ≠ b := by
  constructor
  · intro hb i hi e
    have := (mbits_tst T b h).mpr ⟨i, hi, e⟩
    rw [hb] at this
    cases this
  · intro hb
    cases hc : (mbits T h).testBit b with
    | false => rfl
    | true =>
      obtain ⟨i, h1, h2⟩ := (mbits_tst T b h).mp hc
      exact absurd h2 (hb i h1)
section CL
variable {σ τ : zS} {β : mB}
theorem x_canClimb (N : Nat) (hN : 4000 ≤ N) (hO : BOk β) (hX : BX σ 42 β) {b : Nat} (hb : b < β.1 0) : (mcan β b → fX0_canClimb N σ 42 (nI b) = some 1) ∧ (¬ mcan β b → fX0_canClimb N σ 42 (nI b) = some 0) := by
  have b0 := hO.1
  have b2 := hO.2.2.1
  have hT5 : ∀ i, i < β.1 2 → β.2 4 i < 5 := fun i hi => by have := hO.2.2.2.2.2.2.1 i hi; omega
  have hm := mbits_lt (β.2 4) (β.1 2) hT5
  have hw := (hO.2.2.2.2.1 b hb).2.2.1
  have hc := x_carries N hN (b := 42) (by decide) (by decide) hO (BX_K hX) (row := 4) (T := β.2 4) (sz := β.1 2) (a := β.2 1 b) (show _ ≤ 5 by omega) (by decide) (fun i hi => ⟨hX.2.2.2.2.2.2 i hi, hO.2.2.2.2.2.2.1 i hi⟩) (by omega)
  unfold fX0_canClimb
  rw [hX.2.2.1]
  by_cases h5 : β.1 2 < 5
  · rw [if_neg (fun h => by have := (nI_leI (by decide) (by omega)).mp h; omega), x_towerBits N hN (by decide) (by decide) hO hX, Option.bind_some]
    by_cases hin : ∀ i, i < β.1 2 → β.2 4 i ≠ b
    · rw [if_pos ((m_tst0 (by omega) (by omega)).mpr (mbits_no.mpr hin)), if_pos (m_zin (show b < zlen (zba 42 1) from (show b < 5 by omega)) (by decide)), zlet_eq, nI_clamp (by omega), show σ.2 (zba 42 1) b = nI (β.2 1 b) from (hX.2.2.2.2.1 b hb).2.1, show fX0_carries N σ 42 (zba 42 4) (nI (β.1 2)) (nI (β.2 1 b)) = _ from hc, Option.bind_some]
      constructor
      · intro h
        rw [if_pos h.2, if_neg (by decide)]
      · intro h
        rw [if_neg (fun h' => h ⟨hin, h'⟩), if_pos rfl]
    · rw [if_neg (fun h => hin (mbits_no.mp ((m_tst0 (by omega) (by omega)).mp h)))]
      exact ⟨fun h => absurd h.1 hin, fun _ => rfl⟩
  · rw [if_pos ((nI_leI (by decide) (by omega)).mpr (by omega))]
    refine ⟨fun h => ?_, fun _ => rfl⟩
    have := mcan_lt hO hb h.1
    omega
/-- the band with one more on top -/
def mup (β : mB) (b : Nat) : mB := (fun j => if j = 2 then β.1 2 + 1 else β.1 j, fun a j => if a = 4 ∧ j = β.1 2 then b else β.2 a j)
theorem mup_cs {b : Nat} : cs (mup β b) ((mup β b).2 4) (β.1 2 + 1) 0 = cs β (β.2 4) (β.1 2) (β.2 1 b) := by
  rw [cs]
  have e1 : (mup β b).2 4 (β.1 2) = b := by show (if 4 = 4 ∧ β.1 2 = β.1 2 then b else _) = b; rw [if_pos ⟨rfl, rfl⟩]
  have e2 : ∀ a j, a ≠ 4 → (mup β b).2 a j = β.2 a j := fun a j h => by show (if a = 4 ∧ j = β.1 2 then b else β.2 a j) = _; rw [if_neg (fun h' => h h'.1)]
  rw [e1, e2 1 b (by decide), Nat.zero_add, decide_eq_true (Nat.zero_le _), Bool.true_and]
  refine cs_congr (β := β) (T := β.2 4) _ _ (fun i hi => ⟨?_, e2 0 _ (by decide), e2 1 _ (by decide)⟩)
  show (if 4 = 4 ∧ i = β.1 2 then b else β.2 4 i) = _
  rw [if_neg (by omega)]
theorem mup_ok {b : Nat} (hO : BOk β) (hb : b < β.1 0) (h : mcan β b) : BOk (mup β b) := by
  have hl := mcan_lt hO hb h.1
  obtain ⟨o0, o1, o2, o3, o4, o5, o6, o7, o8, o9⟩ := hO
  have e4 : ∀ i, (mup β b).2 4 i = if i = β.1 2 then b else β.2 4 i := fun i => by
    show (if 4 = 4 ∧ i = β.1 2 then b else β.2 4 i) = _
    by_cases e : i = β.1 2
    · rw [if_pos ⟨rfl, e⟩, if_pos e]
    · rw [if_neg (fun h => e h.2), if_neg e]
  refine ⟨o0, o1, by show β.1 2 + 1 ≤ β.1 0; omega, o3, o4, o5, fun i hi => ?_, fun i hi j hj e => ?_, o8, ?_⟩
  · have hi : i < β.1 2 + 1 := hi
    rw [e4]
    split
    · exact hb
    · exact o6 i (by omega)
  · have hi : i < β.1 2 + 1 := hi
    have hj : j < β.1 2 + 1 := hj
    rw [e4, e4] at e
    by_cases ei : i = β.1 2
    · by_cases ej : j = β.1 2
      · omega
      · rw [if_pos ei, if_neg ej] at e
        exact absurd e.symm (h.1 j (by omega))
    · by_cases ej : j = β.1 2
      · rw [if_neg ei, if_pos ej] at e
        exact absurd e (h.1 i (by omega))
      · rw [if_neg ei, if_neg ej] at e
        exact o7 i (by omega) j (by omega) e
  · show cs (mup β b) ((mup β b).2 4) (β.1 2 + 1) 0 = true
    rw [mup_cs]
    exact h.2
theorem mup_X {b : Nat} (hX : BX σ 42 β) : BX (zpf (zpa σ 4 (upd (σ.2 4) (β.1 2) (nI b))) 42 8 (nI (β.1 2 + 1))) 42 (mup β b) := by
  obtain ⟨x0, x1, x2, x3, x4, x5, x6⟩ := hX
  refine ⟨x0, x1, rfl, x3, x4, x5, fun i hi => ?_⟩
  have hi : i < β.1 2 + 1 := hi
  show (if i = β.1 2 then nI b else σ.2 4 i) = nI (if 4 = 4 ∧ i = β.1 2 then b else β.2 4 i)
  by_cases e : i = β.1 2
  · rw [if_pos e, if_pos ⟨rfl, e⟩]
  · rw [if_neg e, if_neg (fun h => e h.2)]
    exact x6 i (by omega)
theorem zpa_zpa (σ : zS) (q : Nat) (f g : Nat → Int32) : zpa (zpa σ q f) q g = zpa σ q g := by
  unfold zpa
  rw [bx_uu]
theorem zpa_at (σ : zS) (q : Nat) (f : Nat → Int32) : (zpa σ q f).2 q = f := by rw [zpa_2, if_pos rfl]
theorem m_upd {k : Nat} (h : k < 2 ^ 31) (f : Nat → Int32) (v : Int32) : upd f (nI k).toNatClampNeg v = upd f k v := by rw [nI_clamp h]
theorem mup_M {b : Nat} (hO : BOk β) (hM : BM τ 0 β) (h5 : β.1 2 < 5) : BM (zpa τ 55 (upd (upd (τ.2 55) (19 + β.1 2) (nI b)) 24 (nI (β.1 2 + 1)))) 0 (mup β b) := by
  have b0 := hO.1
  have b1 := hO.2.1
  have rd : ∀ e, (zpa τ 55 (upd (upd (τ.2 55) (19 + β.1 2) (nI b)) 24 (nI (β.1 2 + 1)))).2 55 e = if e = 24 then nI (β.1 2 + 1) else if e = 19 + β.1 2 then nI b else τ.2 55 e := fun e => rfl
  obtain ⟨y0, y1, y2, y3, y4⟩ := hM
  refine ⟨by rw [rd, if_pos (by decide)]; rfl, by rw [rd, if_neg (by decide), if_neg (by omega)]; exact y1, fun i hi => ?_, fun i hi => ?_, fun i hi => ?_⟩
  · have hi : i < β.1 0 := hi
    rw [rd, rd, rd, rd, if_neg (by omega), if_neg (by omega), if_neg (by omega), if_neg (by omega), if_neg (by omega), if_neg (by omega), if_neg (by omega), if_neg (by omega)]
    exact y2 i hi
  · have hi : i < β.1 1 := hi
    rw [rd, if_neg (by omega), if_neg (by omega)]
    exact y3 i hi
  · have hi : i < β.1 2 + 1 := hi
    rw [rd, if_neg (by omega)]
    show _ = nI (if 4 = 4 ∧ i = β.1 2 then b else β.2 4 i)
    by_cases e : i = β.1 2
    · rw [if_pos (by omega), if_pos ⟨rfl, e⟩]
    · rw [if_neg (by omega), if_neg (fun h => e h.2)]
      exact y4 i (by omega)
/-- the class climbs -/
theorem x_mount (N : Nat) (hN : 4000 ≤ N) (hO : BOk β) (hX : BX σ 42 β) {b : Nat} (hb : b < β.1 0) : (mcan β b → fX6_mount N σ (nI b) = some (nI (β.1 2 + 1), zpf (zpa σ 4 (upd (σ.2 4) (β.1 2) (nI b))) 42 8 (nI (β.1 2 + 1)))) ∧ (¬ mcan β b → fX6_mount N σ (nI b) = some (-2, σ)) := by
  have b0 := hO.1
  have b2 := hO.2.2.1
  obtain ⟨h1, h0⟩ := x_canClimb N hN hO hX hb
  unfold fX6_mount
  rw [x_has1 N hX.1 (by omega) hb, Option.bind_some, if_neg (by decide)]
  constructor
  · intro h
    have hl := mcan_lt hO hb h.1
    rw [h1 h, Option.bind_some, if_neg (by decide), hX.2.2.1, if_pos (m_zin (show β.1 2 < zlen 4 from (show β.1 2 < 5 by omega)) (by decide)), zlet_eq, zlet_eq, zpa_1, hX.2.2.1, nI_add, nI_clamp (by omega)]
    rfl
  · intro h
    rw [h0 h, Option.bind_some, if_pos rfl]
/-- the model climbs; what it leaves above the tower doesn't count -/
theorem y_climbs (N : Nat) (hN : 4000 ≤ N) (hO : BOk β) (hM : BM τ 0 β) (n1 : τ.1 66 1 = nI (β.1 0)) {b : Nat} (hb : b < β.1 0) : (mcan β b → fX7_climbs N τ (nI b) = some (nI (β.1 2 + 1), zpa τ 55 (upd (upd (τ.2 55) (19 + β.1 2) (nI b)) 24 (nI (β.1 2 + 1))))) ∧ (¬ mcan β b → ∃ τ' : zS, fX7_climbs N τ (nI b) = some (-2, τ') ∧ τ'.1 = τ.1 ∧ (∀ q, q ≠ 55 → τ'.2 q = τ.2 q) ∧ ∀ e, e ≠ 19 + β.1 2 ∨ β.1 2 = 5 → τ'.2 55 e = τ.2 55 e) := by
  have b0 := hO.1
  have b2 := hO.2.2.1
  have hpl := y_placeOf N hN hO hM (q := b) (by omega)
  have e24 := y_at24 hM
  unfold fX7_climbs
  rw [y_has1 N n1 (by omega) hb, Option.bind_some, if_neg (by decide), hpl, Option.bind_some]
  by_cases hin : ∀ i, i < β.1 2 → β.2 4 i ≠ b
  · have hl := mcan_lt hO hb hin
    have hf : mfind (β.2 4) b (β.1 2) 0 = none := (mfind_none (β.2 4) b (β.1 2) 0).mpr (fun j _ h2 => hin j (by omega))
    have hup := mup_M (b := b) hO hM (by omega)
    have hkw : KW (zpa τ 55 (upd (upd (τ.2 55) (19 + β.1 2) (nI b)) 24 (nI (β.1 2 + 1)))) 0 β := fun i hi => BM_K (β := mup β b) hup i hi
    have ht : ∀ i, i < β.1 2 + 1 → (mup β b).2 4 i < β.1 0 := fun i hi => by
      show (if 4 = 4 ∧ i = β.1 2 then b else β.2 4 i) < β.1 0
      split
      · exact hb
      · exact hO.2.2.2.2.2.2.1 i (by omega)
    have hst := y_standsG N hN (o := 0) (by decide) hO hkw (T := (mup β b).2 4) (h := β.1 2 + 1) (by omega) hup.1 (fun i hi => ⟨hup.2.2.2.2 i hi, ht i hi⟩)
    have hcs : cs β ((mup β b).2 4) (β.1 2 + 1) 0 = cs β (β.2 4) (β.1 2) (β.2 1 b) := by
      rw [← mup_cs]
      exact cs_congr (β := mup β b) (T := (mup β b).2 4) _ _ (fun i hi => ⟨rfl, rfl, rfl⟩)
    rw [hcs] at hst
    have q1 : (zpa τ 55 (upd (τ.2 55) (19 + β.1 2) (nI b))).2 55 (nI 24).toNatClampNeg = nI (β.1 2) := by
      rw [zpa_at, zupd, nI_clamp (by decide), if_neg (by omega)]
      rw [nI_clamp (by decide)] at e24
      exact e24
    have q2 : (zpa τ 55 (upd (upd (τ.2 55) (19 + β.1 2) (nI b)) 24 (nI (β.1 2 + 1)))).2 55 (nI 24).toNatClampNeg = nI (β.1 2 + 1) := by
      rw [zpa_at, zupd, nI_clamp (by decide), if_pos rfl]
    rw [hf, if_pos (show mopt none = -4 from rfl), if_pos z24, zlet_eq, e24, nI_add, if_pos (m_zin (show 19 + β.1 2 < zlen 55 from (show 19 + β.1 2 < 155 by omega)) (by decide)), zlet_eq, m_upd (show 19 + β.1 2 < 2 ^ 31 by omega), if_pos z24, zlet_eq, q1, if_pos z24, zlet_eq, m_upd (show 24 < 2 ^ 31 by decide), zpa_zpa, zpa_at, nI_add, hst, Option.bind_some]
    constructor
    · intro h
      rw [if_pos h.2, if_neg (by decide), if_pos z24, zlet_eq, q2]
    · intro h
      rw [if_neg (fun h' => h ⟨hin, h'⟩), if_pos rfl, if_pos z24, zlet_eq, q2, if_pos z24, zlet_eq, m_upd (show 24 < 2 ^ 31 by decide), zpa_zpa, zpa_at, m_s1]
      refine ⟨_, rfl, rfl, fun q hq => by rw [zpa_2, if_neg hq], fun e he => ?_⟩
      rw [nI_clamp (by decide)] at e24
      rw [zpa_at, zupd, zupd, zupd]
      by_cases h24 : e = 24
      · rw [if_pos h24, h24]; exact e24.symm
      · rw [if_neg h24, if_neg h24, if_neg (by omega)]
  · have hf : mfind (β.2 4) b (β.1 2) 0 ≠ none := fun h => hin (fun i hi => (mfind_none (β.2 4) b (β.1 2) 0).mp h i (by omega) (by omega))
    obtain ⟨j, hj⟩ : ∃ j, mfind (β.2 4) b (β.1 2) 0 = some j := by
      cases hc : mfind (β.2 4) b (β.1 2) 0 with
      | none => exact absurd hc hf
      | some j => exact ⟨j, rfl⟩
    have hjl := mfind_lt (β.2 4) b (β.1 2) 0 j hj
    rw [hj, if_neg (show ¬ mopt (some j) = (-4) from m_neg_lt (by omega) _ (by decide))]
    exact ⟨fun h => absurd h.1 hin, fun _ => ⟨τ, rfl, rfl, fun _ _ => rfl, fun _ _ => rfl⟩⟩
theorem BM_fail {τ' : zS} (hO : BOk β) (hM : BM τ 0 β) (h : ∀ e, e ≠ 19 + β.1 2 ∨ β.1 2 = 5 → τ'.2 55 e = τ.2 55 e) : BM τ' 0 β := by
  have b0 := hO.1
  have b1 := hO.2.1
  have b2 := hO.2.2.1
  obtain ⟨y0, y1, y2, y3, y4⟩ := hM
  refine ⟨by rw [h _ (by omega)]; exact y0, by rw [h _ (by omega)]; exact y1, fun i hi => ?_, fun i hi => ?_, fun i hi => ?_⟩
  · rw [h _ (by omega), h _ (by omega), h _ (by omega), h _ (by omega)]; exact y2 i hi
  · rw [h _ (by omega)]; exact y3 i hi
  · rw [h _ (by omega)]; exact y4 i hi
end CL
theorem okp_climb (N : Nat) (hN : 4000 ≤ N) : ok_climb N Rel := by
  intro σ τ x1 hrel
  obtain ⟨β, ⟨hO, hX, hM, n1, n2⟩, hrest⟩ := id hrel
  have b0 := hO.1
  have b2 := hO.2.2.1
  unfold fX6_climb fX7_climb
  by_cases hx : ∃ k, k < β.1 0 ∧ x1 = nI k
  · obtain ⟨b, hb, rfl⟩ := hx
    obtain ⟨p1, p0⟩ := x_mount N hN hO hX hb
    obtain ⟨q1, q0⟩ := y_climbs N hN hO hM n1 hb
    by_cases hc : mcan β b
    · have hl := mcan_lt hO hb hc.1
      rw [p1 hc, q1 hc]
      exact ⟨_, _, rfl, rfl, rfl, Rel_band (β' := mup β b) hrest ⟨mup_ok hO hb hc, mup_X hX, mup_M hO hM (by omega), n1, n2⟩ rfl rfl (fun q h1 _ _ => by rw [zpf_1, if_neg h1, zpa_1]) (fun q h1 _ => by rw [zpf_2, zpa_2, if_neg (by omega)]) (fun k _ => rfl) (fun q hq _ => by rw [zpa_2, if_neg hq]) (fun i h1 h2 => by rw [zpa_at, zupd, zupd, if_neg (by omega), if_neg (by omega)])⟩
    · obtain ⟨τ', e1, e2, e3, e4⟩ := q0 hc
      rw [p0 hc, e1]
      exact ⟨_, _, rfl, rfl, rfl, Rel_band (β' := β) hrest ⟨hO, hX, BM_fail hO hM e4, by rw [e2]; exact n1, by rw [e2]; exact n2⟩ rfl rfl (fun q _ _ _ => rfl) (fun q _ _ => rfl) (fun k _ => by rw [e2]) (fun q hq _ => e3 q hq) (fun i h1 h2 => e4 i (by omega))⟩
  · unfold fX6_mount fX7_climbs
    rw [x_has0 N hX.1 (by omega) hx, y_has0 N n1 (by omega) hx]
    exact ⟨_, _, rfl, rfl, rfl, hrel⟩

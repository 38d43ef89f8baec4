/-! a sheet read -/
theorem m_inL (N : Nat) {x : Int32} {i n : Nat} (hi : i < 100) (hn : n < 2 ^ 30) : ((∃ p, p < n ∧ x + nI i = nI p) → fX7_in N (x.toInt64 + (nI i).toInt64) 0 ((nI n - nI 1).toInt64) = some 1) ∧ ((¬ ∃ p, p < n ∧ x + nI i = nI p) → fX7_in N (x.toInt64 + (nI i).toInt64) 0 ((nI n - nI 1).toInt64) = some 0) := by
  have l1 := Int32.le_toInt x
  have l2 := Int32.toInt_lt x
  have e : (x.toInt64 + (nI i).toInt64).toInt = x.toInt + i := by
    rw [Int64.toInt_add, Int32.toInt_toInt64, Int32.toInt_toInt64, nI_toInt (by omega)]
    apply Int.bmod_eq_of_le <;> omega
  have e2 : ((nI n - nI 1).toInt64).toInt = (n : Int) - 1 := by
    rw [Int32.toInt_toInt64, pk_sub_toInt hn (by decide)]
    rfl
  have e3 : (x + nI i).toInt = (x.toInt + i).bmod (2 ^ 32) := by rw [Int32.toInt_add, nI_toInt (by omega)]
  have key : (∃ p, p < n ∧ x + nI i = nI p) ↔ (0 ≤ x.toInt + i ∧ x.toInt + i ≤ n - 1) := by
    constructor
    · rintro ⟨p, hp, h⟩
      have h' : (x.toInt + i).bmod (2 ^ 32) = (p : Int) := by rw [← e3, h, nI_toInt (by omega)]
      by_cases c : x.toInt + i < 2 ^ 31
      · rw [Int.bmod_eq_of_le (by omega) (by omega)] at h'
        omega
      · have : (x.toInt + i).bmod (2 ^ 32) = x.toInt + i - 2 ^ 32 := by
          unfold Int.bmod
          dsimp only
          split <;> omega
        omega
    · rintro ⟨h1, h2⟩
      refine ⟨(x.toInt + i).toNat, by omega, Int32.toInt_inj.mp ?_⟩
      rw [e3, nI_toInt (by omega), Int.bmod_eq_of_le (by omega) (by omega)]
      omega
  have c : ((0 : Int64) ≤ x.toInt64 + (nI i).toInt64 ∧ x.toInt64 + (nI i).toInt64 ≤ (nI n - nI 1).toInt64) ↔ (0 ≤ x.toInt + i ∧ x.toInt + i ≤ n - 1) := by
    rw [Int64.le_iff_toInt_le, Int64.le_iff_toInt_le, e, e2]
    exact Iff.rfl
  rw [m_inq]
  constructor
  · intro h
    rw [if_pos (c.mpr (key.mp h))]
  · intro h
    rw [if_neg (fun h' => h (key.mpr (c.mp h')))]
theorem Rel_torn {σ τ : zS} (v : Int32) (h : Rel σ τ) : Rel (zpf σ 54 9 v) (zpf τ 66 35 v) := by
  obtain ⟨β, hB, hI, hT, hS, hH, hC, hF, hTn⟩ := h
  exact ⟨β, RB_eq hB (by rw [zpf_1, if_neg (by decide)]) (fun q _ => rfl) (fun i _ => rfl) rfl rfl, RI_eq hI rfl (fun q _ _ => by rw [zpf_1, if_neg (by omega)]) (fun q _ _ => rfl) rfl (fun i _ _ => rfl), RT_eq hT rfl rfl rfl rfl, RS_eq hS rfl rfl rfl rfl rfl, RH_eq hH (fun q _ _ => by rw [zpf_1, if_neg (by omega)]) (fun q _ _ => rfl) rfl rfl rfl, RC_eq hC rfl rfl, hF, rfl⟩
/-- what is held aside while a sheet is read -/
def RK (σ τ : zS) (γ : mB) : Prop := BOk γ ∧ BX (zpf σ 42 8 (nI (γ.1 2))) 42 γ ∧ BM τ 93 γ ∧ τ.1 66 1 = nI (γ.1 0) ∧ τ.1 66 2 = nI (γ.1 1) ∧ ∃ h, σ.1 42 8 = nI h ∧ γ.1 2 ≤ h ∧ h ≤ 5
theorem RK_back (N : Nat) (hN : 4000 ≤ N) {σ τ τ' : zS} {β γ : mB} (hO : BOk β) (n1 : τ.1 66 1 = nI (β.1 0)) (n2 : τ.1 66 2 = nI (β.1 1)) (hrest : RI σ τ β ∧ RT σ τ ∧ RS σ τ ∧ RH σ τ ∧ RC τ ∧ σ.1 50 9 = τ.1 66 12 ∧ σ.1 54 9 = τ.1 66 35) (hk : RK σ τ γ) (e2 : τ'.1 = τ.1) (e3 : ∀ q, q ≠ 55 → τ'.2 q = τ.2 q) (e4 : ∀ e, 31 ≤ e → τ'.2 55 e = τ.2 55 e) : ∃ q : zS, fX7_copies N τ' (nI 93) (nI 0) = some q ∧ Rel (zpf σ 42 8 (nI (γ.1 2))) q := by
  obtain ⟨k0, k1, k2, k3, k4, -⟩ := hk
  obtain ⟨q, f1, f2, f3, f4, f5⟩ := y_copies N hN (a := 93) (b := 0) (by omega) (by omega) (by omega) τ'
  have b0 := hO.1
  have b1 := hO.2.1
  have g0 := k0.1
  have g1 := k0.2.1
  have h0 : γ.1 0 = β.1 0 := (nI_eq (by omega) (by omega)).mp (k3.symm.trans n1)
  have h1 : γ.1 1 = β.1 1 := (nI_eq (by omega) (by omega)).mp (k4.symm.trans n2)
  refine ⟨q, f1, Rel_band (β' := γ) hrest ⟨k0, k1, BM_mv k0 f4 (BM_eq k0 (fun i h1 h2 => e4 i (by omega)) k2), by rw [f2, e2]; exact k3, by rw [f2, e2]; exact k4⟩ h0 h1 (fun q hq _ _ => by rw [zpf_1, if_neg hq]) (fun q _ _ => rfl) (fun k _ => by rw [f2, e2]) (fun q hq _ => by rw [f3 q hq, e3 q hq]) (fun i h1 h2 => by rw [f5 i (by omega), e4 i (by omega)])⟩
theorem climb_rel {σ τ : zS} {β : mB} {b : Nat} (hO : BOk β) (hX : BX σ 42 β) (hM : BM τ 0 β) (n1 : τ.1 66 1 = nI (β.1 0)) (n2 : τ.1 66 2 = nI (β.1 1)) (hrest : RI σ τ β ∧ RT σ τ ∧ RS σ τ ∧ RH σ τ ∧ RC τ ∧ σ.1 50 9 = τ.1 66 12 ∧ σ.1 54 9 = τ.1 66 35) (hb : b < β.1 0) (hc : mcan β b) : Rel (zpf (zpa σ 4 (upd (σ.2 4) (β.1 2) (nI b))) 42 8 (nI (β.1 2 + 1))) (zpa τ 55 (upd (upd (τ.2 55) (19 + β.1 2) (nI b)) 24 (nI (β.1 2 + 1)))) := by
  have hl := mcan_lt hO hb hc.1
  have b0 := hO.1
  exact Rel_band (β' := mup β b) hrest ⟨mup_ok hO hb hc, mup_X hX, mup_M hO hM (by omega), n1, n2⟩ rfl rfl (fun q h1 _ _ => by rw [zpf_1, if_neg h1, zpa_1]) (fun q h1 _ => by rw [zpf_2, zpa_2, if_neg (by omega)]) (fun k _ => rfl) (fun q hq _ => by rw [zpa_2, if_neg hq]) (fun i h1 h2 => by rw [zpa_at, zupd, zupd, if_neg (by omega), if_neg (by omega)])
section RD
variable {a k n : Nat} {f : Int32} {γ : mB}
theorem x_read_out (N : Nat) (m : Nat) (k1 k2 : Int32 → Int32 → zS → Option (Int32 × zS)) (x2 x3 x4 x6 x8 x9 : Int32) (b5 : Nat) {v : Int32} (hv : ¬ v = 0) (σ : zS) : fX6_read_57 N k1 k2 (m + 1) x2 x3 x4 b5 x6 v x8 x9 σ = k2 v x8 σ := by
  rw [fX6_read_57]
  by_cases h : x4 ≤ x9
  · rw [if_pos h]
  · rw [if_neg h, if_neg hv]
theorem y_read_out (N : Nat) (m : Nat) (k1 : Int32 → zS → Option (Int32 × zS)) (k2 : Int32 → Int32 → zS → Option (Int32 × zS)) (x1 x2 x3 x4 x6 x7 : Int32) {v : Int32} (hv : ¬ v = 0) (τ : zS) : fX7_read_55 N k1 k2 (m + 1) x1 x2 x3 x4 v x6 x7 τ = k2 v x6 τ := by
  rw [fX7_read_55]
  by_cases h : x4 ≤ x7
  · rw [if_pos h]
  · rw [if_neg h, if_neg hv]
theorem read_loop (N : Nat) (hN : 4000 ≤ N) (hk : k < 4) (ha : a ≤ 2) (hn : n ≤ 20) : ∀ d i : Nat, i + d = n → ∀ (m : Nat) (σ τ : zS), d < m → Rel σ τ → RK σ τ γ → ∃ rx rm, fX6_read_57 N (fX6_read_103 N) (fX6_read_127 N) m (nI a) f (nI n) (46 + k) (nI (γ.1 2)) (nI 0) (nI i) (nI i) σ = some rx ∧ fX7_read_55 N (fX7_read_151 N) (fX7_read_173 N) m (nI k) (nI a) f (nI n) (nI 0) (nI i) (nI i) τ = some rm ∧ rx.1 = rm.1 ∧ Rel rx.2 rm.2 := by
  have hz4 : zin (nI k) 4 := m_zin (by omega) (by decide)
  have hc : (nI k).toNatClampNeg = k := nI_clamp (by omega)
  obtain ⟨zs1, zs2⟩ := zlen_sa (k := k) (by omega)
  intro d
  induction d with
  | zero =>
    intro i hi m σ τ hm hrel hK
    obtain ⟨m, rfl⟩ : ∃ k, m = k + 1 := ⟨m - 1, by omega⟩
    have hle : nI n ≤ nI i := (nI_leI (by omega) (by omega)).mpr (by omega)
    rw [fX6_read_57, fX7_read_55, if_pos hle, if_pos hle]
    exact ⟨_, _, rfl, rfl, rfl, Rel_torn _ hrel⟩
  | succ d ih =>
    intro i hi m σ τ hm hrel hK
    obtain ⟨m, rfl⟩ : ∃ k, m = k + 2 := ⟨m - 2, by omega⟩
    have hle : ¬ nI n ≤ nI i := fun h => by have := (nI_leI (by omega) (by omega)).mp h; omega
    obtain ⟨β, ⟨hO, hX, hM, n1, n2⟩, hrest⟩ := id hrel
    have b0 := hO.1
    have b2 := hO.2.2.1
    obtain ⟨hl, l, hm', s1, s2, s3⟩ := hrest.2.2.2.1 k hk
    have ex : fX6_read_57 N (fX6_read_103 N) (fX6_read_127 N) (m + 1 + 1) (nI a) f (nI n) (46 + k) (nI (γ.1 2)) (nI 0) (nI i) (nI i) σ = (fX3_faultAs N σ (46 + k) (nI a) (f + nI i)).bind fun q3 => if q3 = 0 then (if zin (f + nI i) (zlen (zsa (46 + k))) then zlet (σ.2 (zsa (46 + k)) (f + nI i).toNatClampNeg) fun v6 => (fX6_mount N σ v6).bind fun q7 => if 0 ≤ q7.1 then fX6_read_57 N (fX6_read_103 N) (fX6_read_127 N) (m + 1) (nI a) f (nI n) (46 + k) (nI (γ.1 2)) q3 (nI i + nI 1) (nI i + nI 1) q7.2 else fX6_read_103 N (nI (γ.1 2)) (nI i) q7.2 else none) else fX6_read_57 N (fX6_read_103 N) (fX6_read_127 N) (m + 1) (nI a) f (nI n) (46 + k) (nI (γ.1 2)) q3 (nI i) (nI i + nI 1) σ := by
      rw [fX6_read_57, if_neg hle, if_pos m_zero]
      rfl
    have fall : ∀ v : Int32, ¬ v = 0 → fX3_faultAs N σ (46 + k) (nI a) (f + nI i) = some v → fX7_read_55 N (fX7_read_151 N) (fX7_read_173 N) (m + 1 + 1) (nI k) (nI a) f (nI n) (nI 0) (nI i) (nI i) τ = fX7_read_123 N (fX7_read_55 N (fX7_read_151 N) (fX7_read_173 N) (m + 1)) (fX7_read_151 N) (fX7_read_173 N) (nI k) (nI a) f (nI n) (nI i) (nI i) v τ → ∃ rx rm, fX6_read_57 N (fX6_read_103 N) (fX6_read_127 N) (m + 1 + 1) (nI a) f (nI n) (46 + k) (nI (γ.1 2)) (nI 0) (nI i) (nI i) σ = some rx ∧ fX7_read_55 N (fX7_read_151 N) (fX7_read_173 N) (m + 1 + 1) (nI k) (nI a) f (nI n) (nI 0) (nI i) (nI i) τ = some rm ∧ rx.1 = rm.1 ∧ Rel rx.2 rm.2 := by
      intro v hv h1 h2
      rw [ex, h1, Option.bind_some, if_neg hv, x_read_out N m _ _ _ _ _ _ _ _ _ hv, h2, fX7_read_123, if_neg hv, fX7_read_167, y_read_out N m _ _ _ _ _ _ _ _ hv]
      exact ⟨_, _, rfl, rfl, rfl, Rel_torn _ hrel⟩
    have e62 : zin (nI k) (zlen 62) := hz4
    have e63 : zin (nI k) (zlen 63) := hz4
    rcases hl with ⟨l1, l2⟩ | ⟨b, hb, l1, l2⟩
    · refine fall (nI 1) (by decide) ?_ ?_
      · unfold fX3_faultAs fX3_faultAs_16 fX3_faultAt
        rw [l1, if_pos rfl, if_pos rfl]
        rfl
      · rw [fX7_read_55, if_neg hle, if_pos m_zero, if_pos e62, zlet_eq]
        simp only [hc]
        rw [l2, if_pos rfl]
    · have hna : ¬ nI b = (-4 : Int32) := m_neg_lt (by omega) _ (by decide)
      have hna1 : ¬ nI b = (-1 : Int32) := m_neg_lt (by omega) _ (by decide)
      obtain ⟨p1, p0⟩ := m_inL N (x := f) (i := i) (n := l) (by omega) (by omega)
      have em : fX7_read_55 N (fX7_read_151 N) (fX7_read_173 N) (m + 1 + 1) (nI k) (nI a) f (nI n) (nI 0) (nI i) (nI i) τ = if nI b = nI a then (fX7_in N (f.toInt64 + (nI i).toInt64) 0 ((nI l - nI 1).toInt64)).bind fun q11 => if q11 = 0 then fX7_read_123 N (fX7_read_55 N (fX7_read_151 N) (fX7_read_173 N) (m + 1)) (fX7_read_151 N) (fX7_read_173 N) (nI k) (nI a) f (nI n) (nI i) (nI i) (nI 2) τ else fX7_read_123 N (fX7_read_55 N (fX7_read_151 N) (fX7_read_173 N) (m + 1)) (fX7_read_151 N) (fX7_read_173 N) (nI k) (nI a) f (nI n) (nI i) (nI i) (nI 0) τ else fX7_read_123 N (fX7_read_55 N (fX7_read_151 N) (fX7_read_173 N) (m + 1)) (fX7_read_151 N) (fX7_read_173 N) (nI k) (nI a) f (nI n) (nI i) (nI i) (nI 3) τ := by
        rw [fX7_read_55, if_neg hle, if_pos m_zero, if_pos e62, zlet_eq]
        simp only [hc, l2, if_neg hna, if_pos e62, if_pos e63, zlet_eq, s2]
      by_cases hab : nI b = nI a
      · rw [if_pos hab] at em
        by_cases hp : ∃ p, p < l ∧ f + nI i = nI p
        · have hq := p1 hp
          obtain ⟨p, hp, hfp⟩ := hp
          rw [hq, Option.bind_some, if_neg z10] at em
          have e1 : fX3_faultAs N σ (46 + k) (nI a) (f + nI i) = some (nI 0) := by
            unfold fX3_faultAs fX3_faultAs_16 fX3_faultAt
            rw [l1, if_neg hna1, if_pos hab, if_neg hna1, s1, hfp, x_below1 N (by omega) hp, Option.bind_some, if_neg z10]
            rfl
          have hz64 : zin (nI (40 * k + p)) (zlen 64) := m_zin (show 40 * k + p < 160 by omega) (by decide)
          have hidx : nI 40 * nI k + f + nI i = nI (40 * k + p) := by
            rw [Int32.add_assoc, hfp, m_mul, nI_add]
          have hcell := s3 p hp
          have em2 : fX7_read_55 N (fX7_read_151 N) (fX7_read_173 N) (m + 1 + 1) (nI k) (nI a) f (nI n) (nI 0) (nI i) (nI i) τ = (fX7_climbs N τ (τ.2 64 (40 * k + p))).bind fun q4 => if 0 ≤ q4.1 then fX7_read_55 N (fX7_read_151 N) (fX7_read_173 N) (m + 1) (nI k) (nI a) f (nI n) (nI 0) (nI i + nI 1) (nI i + nI 1) q4.2 else fX7_read_151 N (nI i) q4.2 := by
            rw [em, fX7_read_123, if_pos m_zero, hidx, if_pos hz64, zlet_eq, nI_clamp (by omega)]
            rfl
          have ex2 : fX6_read_57 N (fX6_read_103 N) (fX6_read_127 N) (m + 1 + 1) (nI a) f (nI n) (46 + k) (nI (γ.1 2)) (nI 0) (nI i) (nI i) σ = (fX6_mount N σ (τ.2 64 (40 * k + p))).bind fun q7 => if 0 ≤ q7.1 then fX6_read_57 N (fX6_read_103 N) (fX6_read_127 N) (m + 1) (nI a) f (nI n) (46 + k) (nI (γ.1 2)) (nI 0) (nI i + nI 1) (nI i + nI 1) q7.2 else fX6_read_103 N (nI (γ.1 2)) (nI i) q7.2 := by
            rw [ex, e1, Option.bind_some, if_pos m_zero, hfp, zs1, if_pos (m_zin (show p < 40 by omega) (by decide)), zlet_eq, nI_clamp (by omega), zs2, hcell]
          generalize τ.2 64 (40 * k + p) = v at em2 ex2
          rw [ex2, em2]
          by_cases hv : ∃ c, c < β.1 0 ∧ v = nI c
          · obtain ⟨c, hcb, rfl⟩ := hv
            obtain ⟨u1, u0⟩ := x_mount N hN hO hX hcb
            obtain ⟨w1, w0⟩ := y_climbs N hN hO hM n1 hcb
            by_cases hcan : mcan β c
            · have hlt := mcan_lt hO hcb hcan.1
              have hge : (0 : Int32) ≤ nI (β.1 2 + 1) := (nI_leI (a := 0) (by decide) (by omega)).mpr (by omega)
              rw [u1 hcan, w1 hcan, Option.bind_some, Option.bind_some, if_pos hge, if_pos hge, nI_add]
              refine ih (i + 1) (by omega) (m + 1) _ _ (by omega) (climb_rel hO hX hM n1 n2 hrest hcb hcan) ?_
              obtain ⟨k0, k1, k2, k3, k4, h, h1, h2, h3⟩ := hK
              have hh : h = β.1 2 := (nI_eq (by omega) (by omega)).mp (h1.symm.trans hX.2.2.1)
              refine ⟨k0, ?_, BM_eq k0 (fun e q1 q2 => by rw [zpa_at, zupd, zupd, if_neg (by omega), if_neg (by omega)]) k2, k3, k4, β.1 2 + 1, rfl, by omega, by omega⟩
              obtain ⟨x0, x1, x2, x3, x4, x5, x6⟩ := k1
              refine ⟨x0, x1, rfl, x3, x4, x5, fun j hj => ?_⟩
              show (if j = β.1 2 then nI c else σ.2 4 j) = _
              rw [if_neg (by omega)]
              exact x6 j hj
            · obtain ⟨τ', g1, g2, g3, g4⟩ := w0 hcan
              obtain ⟨q, r1, r2⟩ := RK_back N hN (τ' := τ') hO n1 n2 hrest hK g2 g3 (fun e he => g4 e (by omega))
              rw [u0 hcan, g1, Option.bind_some, Option.bind_some, if_neg (show ¬ (0 : Int32) ≤ -2 by decide), if_neg (show ¬ (0 : Int32) ≤ -2 by decide), fX6_read_103, zlet_eq, fX7_read_151, r1, Option.bind_some]
              exact ⟨_, _, rfl, rfl, rfl, r2⟩
          · obtain ⟨q, r1, r2⟩ := RK_back N hN (τ' := τ) hO n1 n2 hrest hK rfl (fun _ _ => rfl) (fun _ _ => rfl)
            have u0 : fX6_mount N σ v = some (-1, σ) := by
              unfold fX6_mount
              rw [x_has0 N hX.1 (by omega) hv, Option.bind_some, if_pos rfl]
            have w0 : fX7_climbs N τ v = some (-1, τ) := by
              unfold fX7_climbs
              rw [y_has0 N n1 (by omega) hv, Option.bind_some, if_pos rfl]
            rw [u0, w0, Option.bind_some, Option.bind_some, if_neg (show ¬ (0 : Int32) ≤ -1 by decide), if_neg (show ¬ (0 : Int32) ≤ -1 by decide), fX6_read_103, zlet_eq, fX7_read_151, r1, Option.bind_some]
            exact ⟨_, _, rfl, rfl, rfl, r2⟩
        · have hq := p0 hp
          rw [hq, Option.bind_some, if_pos rfl] at em
          refine fall (nI 2) (by decide) ?_ em
          unfold fX3_faultAs fX3_faultAs_16 fX3_faultAt
          rw [l1, if_neg hna1, if_pos hab, if_neg hna1, s1, x_below0 N (by omega) hp, Option.bind_some, if_pos rfl]
          rfl
      · rw [if_neg hab] at em
        refine fall (nI 3) (by decide) ?_ em
        unfold fX3_faultAs
        rw [l1, if_neg hna1, if_neg hab]
end RD
theorem okp_read (N : Nat) (hN : 4000 ≤ N) : ok_read N Rel := by
  intro σ τ x1 x2 x3 x4 hrel
  obtain ⟨β, ⟨hO, hX, hM, n1, n2⟩, hrest⟩ := id hrel
  unfold fX6_read fX7_read
  by_cases hx : ∃ k, 0 ≤ k ∧ k ≤ 3 ∧ x1 = nI k
  · obtain ⟨k, -, hk, rfl⟩ := hx
    have wm : fX7_in N (nI k).toInt64 0 3 = some 1 := y_in1 N (lo := 0) (hi := 3) (by omega) hk (by decide)
    rw [x_within1 N (by omega) hk (by decide), Option.bind_some, if_neg z10, wm, Option.bind_some, if_neg z10]
    by_cases hy : ∃ k, 0 ≤ k ∧ k ≤ 2 ∧ x2 = nI k
    · obtain ⟨a, -, ha, rfl⟩ := hy
      have wm : fX7_in N (nI a).toInt64 0 2 = some 1 := y_in1 N (lo := 0) (hi := 2) (by omega) ha (by decide)
      rw [x_within1 N (by omega) ha (by decide), Option.bind_some, if_neg z10, wm, Option.bind_some, if_neg z10]
      by_cases hw : ∃ k, 0 ≤ k ∧ k ≤ 20 ∧ x4 = nI k
      · obtain ⟨n, -, hn, rfl⟩ := hw
        have wm : fX7_in N (nI n).toInt64 0 20 = some 1 := y_in1 N (lo := 0) (hi := 20) (by omega) hn (by decide)
        obtain ⟨τ', f1, f2, f3, f4, f5⟩ := y_copies N hN (a := 0) (b := 93) (by omega) (by omega) (by omega) τ
        have hM' : BM τ' 0 β := BM_eq hO (fun i _ h => f5 i (by omega)) hM
        have hr : Rel σ τ' := Rel_band (β' := β) hrest ⟨hO, hX, hM', by rw [f2]; exact n1, by rw [f2]; exact n2⟩ rfl rfl (fun _ _ _ _ => rfl) (fun _ _ _ => rfl) (fun k _ => by rw [f2]) (fun q hq _ => f3 q hq) (fun i h1 h2 => f5 i (by omega))
        have b0 := hO.1
        have b2 := hO.2.2.1
        have hK : RK σ τ' β := ⟨hO, ⟨hX.1, hX.2.1, rfl, hX.2.2.2⟩, BM_mv hO f4 hM, by rw [f2]; exact n1, by rw [f2]; exact n2, β.1 2, hX.2.2.1, by omega, by omega⟩
        rw [x_within1 N (by omega) hn (by decide), Option.bind_some, if_neg z10, if_pos (show zin (nI k) 4 from m_zin (by omega) (by decide)), wm, Option.bind_some, if_neg z10, f1, Option.bind_some, nI_clamp (by omega), hX.2.2.1]
        exact read_loop N hN (by omega) ha hn n 0 (by omega) N σ τ' (by omega) hr hK
      · have wm : fX7_in N x4.toInt64 0 20 = some 0 := y_in0 N (lo := 0) (hi := 20) (by decide) (by decide) hw
        rw [x_within0 N (by decide) (by decide) hw, Option.bind_some, if_pos rfl, wm, Option.bind_some, if_pos rfl]
        exact ⟨_, _, rfl, rfl, rfl, hrel⟩
    · have wm : fX7_in N x2.toInt64 0 2 = some 0 := y_in0 N (lo := 0) (hi := 2) (by decide) (by decide) hy
      rw [x_within0 N (by decide) (by decide) hy, Option.bind_some, if_pos rfl, wm, Option.bind_some, if_pos rfl]
      exact ⟨_, _, rfl, rfl, rfl, hrel⟩
  · have wm : fX7_in N x1.toInt64 0 3 = some 0 := y_in0 N (lo := 0) (hi := 3) (by decide) (by decide) hx
    rw [x_within0 N (by decide) (by decide) hx, Option.bind_some, if_pos rfl, wm, Option.bind_some, if_pos rfl]
    exact ⟨_, _, rfl, rfl, rfl, hrel⟩

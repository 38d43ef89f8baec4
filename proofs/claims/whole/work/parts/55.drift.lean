/-! voices by a seed -/
theorem z_rem {a d : Nat} (ha : a < 2 ^ 31) (h0 : 0 < d) (hd : d < 2 ^ 31) : zrem (nI a) (nI d) = nI (a % d) := pk_rem ha h0 hd
def mvoice (β : mB) (W : Nat → Nat) : mB := (β.1, fun a j => if a = 2 then W j else β.2 a j)
theorem mvoice_ok {β : mB} {W : Nat → Nat} (hO : BOk β) (hW : ∀ b, b < β.1 0 → W b ≤ 9) : BOk (mvoice β W) := by
  obtain ⟨o0, o1, o2, o3, o4, o5, o6, o7, o8, o9⟩ := hO
  refine ⟨o0, o1, o2, o3, fun i hi => ⟨(o4 i hi).1, (o4 i hi).2.1, (o4 i hi).2.2.1, hW i hi, (o4 i hi).2.2.2.2⟩, o5, o6, o7, o8, ?_⟩
  exact (cs_congr (β' := mvoice β W) (β := β) (T := β.2 4) (T' := β.2 4) (β.1 2) 0 (fun i hi => ⟨rfl, rfl, rfl⟩)).trans o9
theorem drift_loop (N : Nat) (hN : 4000 ≤ N) {σ0 τ0 : zS} {β : mB} (hO : BOk β) (hX : BX σ0 42 β) (hM : BM τ0 0 β) (n1 : τ0.1 66 1 = nI (β.1 0)) (n2 : τ0.1 66 2 = nI (β.1 1)) (hrest : RI σ0 τ0 β ∧ RT σ0 τ0 ∧ RS σ0 τ0 ∧ RH σ0 τ0 ∧ RC τ0 ∧ σ0.1 50 9 = τ0.1 66 12 ∧ σ0.1 54 9 = τ0.1 66 35) (hpos : 0 < β.1 0) {n : Nat} (hn : n ≤ 60) {x3 : Int32} : ∀ d t : Nat, t + d = n → ∀ (m : Nat) (σ τ : zS) (W : Nat → Nat) (seed sum lo : Int32), d < m → σ.1 = σ0.1 → (∀ q, q ≠ 34 → σ.2 q = σ0.2 q) → (∀ b, b < β.1 0 → σ.2 34 b = nI (W b)) → (∀ b, b < β.1 0 → W b ≤ 9) → (∀ k, k ≠ 30 → τ.1 66 k = τ0.1 66 k) → τ.1 66 30 = seed → (∀ q, q ≠ 55 → τ.2 q = τ0.2 q) → BM τ 0 (mvoice β W) → (∀ i, i < 31 → τ.2 55 (124 + i) = τ0.2 55 i) → (∀ e, 31 ≤ e → e < 93 → τ.2 55 e = τ0.2 55 e) → (d = 0 → lo = nI (mnoise (β.2 4) W (β.1 2))) → ∃ rx rm, fX6_drift_63 N (fX6_drift_163 N) m (nI n) x3 seed sum lo (nI t) σ = some rx ∧ fX7_drift_52 N (fX7_drift_107 N) m (nI n) x3 sum (nI t) τ = some rm ∧ rx.1 = rm.1 ∧ Rel rx.2 rm.2 := by
  have b0 := hO.1
  have b2 := hO.2.2.1
  have h7 := hO.2.2.2.2.2.2.1
  intro d
  induction d with
  | zero =>
    intro t ht m σ τ W seed sum lo hm i1 i2 i3 i4 j1 j0 j2 j3 j4 j5 hlo
    obtain ⟨m, rfl⟩ : ∃ k, m = k + 1 := ⟨m - 1, by omega⟩
    have hle : nI n ≤ nI t := (nI_leI (by omega) (by omega)).mpr (by omega)
    obtain ⟨τ', f1, f2, f3, f4, f5⟩ := y_copies N hN (a := 124) (b := 0) (by omega) (by omega) (by omega) τ
    have hr : Rel σ τ' := by
      refine Rel_band (β' := β) hrest ⟨hO, BX_eq (by rw [i1]) (fun k hk => i2 _ (by unfold zba; omega)) hX, BM_eq hO (fun i h1 h2 => ?_) hM, by rw [f2, j1 1 (by decide)]; exact n1, by rw [f2, j1 2 (by decide)]; exact n2⟩ rfl rfl (fun q _ _ _ => by rw [i1]) (fun q h1 h2 => i2 q (by omega)) (fun k hk => by rw [f2, j1 k (by omega)]) (fun q hq _ => by rw [f3 q hq, j2 q hq]) (fun i h1 h2 => by rw [f5 i (by omega), j5 i h1 h2])
      have := f4 i (by omega)
      rw [Nat.zero_add] at this
      rw [this, j4 i (by omega)]
    rw [fX6_drift_63, fX7_drift_52, if_pos hle, if_pos hle, fX6_drift_163, fX7_drift_107, y_noiseBy N hN (mvoice_ok hO i4) j3 (by decide), mnoiseH_0, Option.bind_some, f1, Option.bind_some, hlo rfl]
    by_cases c : x3 = 0
    · rw [if_pos c, if_pos c]; exact ⟨_, _, rfl, rfl, rfl, hr⟩
    · rw [if_neg c, if_neg c]; exact ⟨_, _, rfl, rfl, rfl, hr⟩
  | succ d ih =>
    intro t ht m σ τ W seed sum lo hm i1 i2 i3 i4 j1 j0 j2 j3 j4 j5 hlo
    obtain ⟨m, rfl⟩ : ∃ k, m = k + 1 := ⟨m - 1, by omega⟩
    have hle : ¬ nI n ≤ nI t := fun h => by have := (nI_leI (by omega) (by omega)).mp h; omega
    obtain ⟨k1, hk1, e1⟩ := z_seedN (seed * nI 1103515245 + nI 12345)
    obtain ⟨k2, hk2, e2⟩ := z_seedN ((seed * nI 1103515245 + nI 12345) * nI 1103515245 + nI 12345)
    have hb : k1 % β.1 0 < β.1 0 := Nat.mod_lt _ hpos
    have hn0 : ¬ nI (β.1 0) = 0 := fun h => by
      have := (nI_eq (a := β.1 0) (b := 0) (by omega) (by decide)).mp h
      omega
    have hX' : BX (zpa σ 34 (upd (σ.2 34) (k1 % β.1 0) (nI (k2 % 10)))) 42 β := BX_eq (by rw [zpa_1, i1]) (fun k hk => by rw [zpa_2, if_neg (by unfold zba; omega)]; exact i2 _ (by unfold zba; omega)) hX
    let W' : Nat → Nat := fun j => if j = k1 % β.1 0 then k2 % 10 else W j
    have hW' : ∀ b, b < β.1 0 → W' b ≤ 9 := fun b hb' => by
      show (if b = k1 % β.1 0 then k2 % 10 else W b) ≤ 9
      split
      · have := Nat.mod_lt k2 (show 10 > 0 by decide); omega
      · exact i4 b hb'
    have hW'' : ∀ b, b < β.1 0 → (zpa σ 34 (upd (σ.2 34) (k1 % β.1 0) (nI (k2 % 10)))).2 34 b = nI (W' b) := fun b hb' => by
      rw [zpa_at, zupd]
      show _ = nI (if b = k1 % β.1 0 then k2 % 10 else W b)
      by_cases c : b = k1 % β.1 0
      · rw [if_pos c, if_pos c]
      · rw [if_neg c, if_neg c]; exact i3 b hb'
    have hL : mnoise (β.2 4) W' (β.1 2) ≤ 100000 := mnoise_le (mvoice_ok hO hW')
    have hf32 := mflee_32 hO (mnoise (β.2 4) W' (β.1 2))
    have hno : fX0_noiseBy N (zpa σ 34 (upd (σ.2 34) (k1 % β.1 0) (nI (k2 % 10)))) 42 4 (nI (β.1 2)) 34 = some (nI (mnoise (β.2 4) W' (β.1 2))) :=
      x_noiseBy N hN (row := 4) (vo := 34) (T := β.2 4) (V := W') (show β.1 2 ≤ 5 by omega) (by decide) (by decide) (fun i hi => ⟨hX'.2.2.2.2.2.2 i hi, by have := h7 i hi; show _ < 5; omega, hW'' _ (h7 i hi)⟩)
    have h8 : (zpa σ 34 (upd (σ.2 34) (k1 % β.1 0) (nI (k2 % 10)))).1 42 8 = nI (β.1 2) := by rw [zpa_1, i1]; exact hX.2.2.1
    have ex : fX6_drift_63 N (fX6_drift_163 N) (m + 1) (nI n) x3 seed sum lo (nI t) σ = fX6_drift_63 N (fX6_drift_163 N) m (nI n) x3 ((seed * nI 1103515245 + nI 12345) * nI 1103515245 + nI 12345) (sum + nI (mpop (mflee (β.2 3) (mnoise (β.2 4) W' (β.1 2)) (β.1 1)).1)) (nI (mnoise (β.2 4) W' (β.1 2))) (nI (t + 1)) (zpa σ 34 (upd (σ.2 34) (k1 % β.1 0) (nI (k2 % 10)))) := by
      rw [fX6_drift_63, if_neg hle, fX6_nextSeed, Option.bind_some, fX6_seedBits, Option.bind_some, z_seed, e1, i1, show σ0.1 42 6 = nI (β.1 0) from hX.1, if_pos hn0, zlet_eq, fX6_nextSeed, Option.bind_some, fX6_seedBits, Option.bind_some, z_seed, e2, zlet_eq, z_rem (by omega) hpos (by omega), z_rem (by omega) (by decide) (by decide), if_pos (m_zin (show k1 % β.1 0 < zlen 34 from (show k1 % β.1 0 < 5 by omega)) (by decide)), zlet_eq, nI_clamp (by omega), h8, hno, Option.bind_some, x_fledBits N hN (by decide) (by decide) hO hX' hL, Option.bind_some, x_bitCount N hf32, Option.bind_some, nI_add]
    let τ1 : zS := zpf (zpf τ 66 30 (seed * nI 1103515245 + nI 12345)) 66 30 ((seed * nI 1103515245 + nI 12345) * nI 1103515245 + nI 12345)
    have hrd : ∀ e, (zpa τ1 55 (upd (τ.2 55) (10 + k1 % β.1 0) (nI (k2 % 10)))).2 55 e = if e = 10 + k1 % β.1 0 then nI (k2 % 10) else τ.2 55 e := fun e => rfl
    have hM' : BM (zpa τ1 55 (upd (τ.2 55) (10 + k1 % β.1 0) (nI (k2 % 10)))) 0 (mvoice β W') := by
      obtain ⟨y0, y1, y2, y3, y4⟩ := j3
      have b1 := hO.2.1
      refine ⟨by rw [hrd, if_neg (by omega)]; exact y0, by rw [hrd, if_neg (by omega)]; exact y1, fun i hi => ?_, fun i hi => ?_, fun i hi => ?_⟩
      · have hi : i < β.1 0 := hi
        rw [hrd, hrd, hrd, hrd, if_neg (by omega), if_neg (by omega), if_neg (show ¬ 0 + 25 + i = 10 + k1 % β.1 0 by omega)]
        refine ⟨(y2 i hi).1, (y2 i hi).2.1, ?_, (y2 i hi).2.2.2⟩
        show _ = nI (if i = k1 % β.1 0 then k2 % 10 else W i)
        by_cases c : i = k1 % β.1 0
        · rw [if_pos (by omega), if_pos c]
        · rw [if_neg (by omega), if_neg c]; exact (y2 i hi).2.2.1
      · have hi : i < β.1 1 := hi
        rw [hrd, if_neg (by omega)]; exact y3 i hi
      · have hi : i < β.1 2 := hi
        rw [hrd, if_neg (by omega)]; exact y4 i hi
    have hdr1 : fX7_draws N τ (nI (β.1 0)) = some (nI (k1 % β.1 0), zpf τ 66 30 (seed * nI 1103515245 + nI 12345)) := by
      unfold fX7_draws
      rw [j0, zlet_eq, if_pos hn0, show (zpf τ 66 30 (seed * nI 1103515245 + nI 12345)).1 66 30 = seed * nI 1103515245 + nI 12345 from rfl, e1, zlet_eq, z_rem (by omega) hpos (by omega)]
    have hdr2 : fX7_draws N (zpf τ 66 30 (seed * nI 1103515245 + nI 12345)) (nI 10) = some (nI (k2 % 10), τ1) := by
      unfold fX7_draws
      rw [show (zpf τ 66 30 (seed * nI 1103515245 + nI 12345)).1 66 30 = seed * nI 1103515245 + nI 12345 from rfl, zlet_eq, if_pos (by decide), show (zpf (zpf τ 66 30 (seed * nI 1103515245 + nI 12345)) 66 30 ((seed * nI 1103515245 + nI 12345) * nI 1103515245 + nI 12345)).1 66 30 = (seed * nI 1103515245 + nI 12345) * nI 1103515245 + nI 12345 from rfl, e2, zlet_eq, z_rem (by omega) (by decide) (by decide)]
    have hn1' : τ.1 66 1 = nI (β.1 0) := by rw [j1 1 (by decide)]; exact n1
    have hn2' : (zpa τ1 55 (upd (τ.2 55) (10 + k1 % β.1 0) (nI (k2 % 10)))).1 66 2 = nI (β.1 1) := by
      show τ.1 66 2 = _
      rw [j1 2 (by decide)]; exact n2
    have em : fX7_drift_52 N (fX7_drift_107 N) (m + 1) (nI n) x3 sum (nI t) τ = fX7_drift_52 N (fX7_drift_107 N) m (nI n) x3 (sum + nI (mpop (mflee (β.2 3) (mnoise (β.2 4) W' (β.1 2)) (β.1 1)).1)) (nI (t + 1)) (zpa τ1 55 (upd (τ.2 55) (10 + k1 % β.1 0) (nI (k2 % 10)))) := by
      rw [fX7_drift_52, if_neg hle, hn1', hdr1, Option.bind_some, hdr2, Option.bind_some, nI_add, if_pos (m_zin (show 10 + k1 % β.1 0 < zlen 55 from (show _ < 155 by omega)) (by decide)), zlet_eq, nI_clamp (by omega)]
      rw [show (zpa (nI (k2 % 10), τ1).2 55 (upd ((nI (k2 % 10), τ1).2.2 55) (10 + k1 % β.1 0) (nI (k2 % 10), τ1).1)) = zpa τ1 55 (upd (τ.2 55) (10 + k1 % β.1 0) (nI (k2 % 10))) from rfl]
      rw [y_noiseBy N hN (mvoice_ok hO hW') hM' (by decide), mnoiseH_0, Option.bind_some]
      rw [show mnoise ((mvoice β W').2 4) ((mvoice β W').2 2) ((mvoice β W').1 2) = mnoise (β.2 4) W' (β.1 2) from rfl]
      rw [y_fleeBy N hN (mvoice_ok hO hW') hM' hn2' hL, Option.bind_some]
      rw [show (mflee ((mvoice β W').2 3) (mnoise (β.2 4) W' (β.1 2)) ((mvoice β W').1 1)).1 = (mflee (β.2 3) (mnoise (β.2 4) W' (β.1 2)) (β.1 1)).1 from rfl]
      rw [y_bitsOf N hN hf32, Option.bind_some, nI_add]
    rw [ex, em]
    refine ih (t + 1) (by omega) m _ _ W' _ _ _ (by omega) (by rw [zpa_1]; exact i1) (fun q hq => by rw [zpa_2, if_neg hq]; exact i2 q hq) hW'' hW' (fun k hk => ?_) rfl (fun q hq => by rw [zpa_2, if_neg hq]; exact j2 q hq) hM' (fun i hi => by rw [hrd, if_neg (by omega)]; exact j4 i hi) (fun e h1 h2 => by rw [hrd, if_neg (by omega)]; exact j5 e h1 h2) (fun _ => rfl)
    show va_up (va_up (τ.1 66) 30 _) 30 _ k = _
    rw [zup, if_neg hk, zup, if_neg hk]
    exact j1 k hk
theorem okp_drift (N : Nat) (hN : 4000 ≤ N) : ok_drift N Rel := by
  intro σ τ x1 x2 x3 hrel
  obtain ⟨β, ⟨hO, hX, hM, n1, n2⟩, hrest⟩ := id hrel
  have b0 := hO.1
  unfold fX6_drift fX7_drift
  by_cases hx : ∃ k, 1 ≤ k ∧ k ≤ 60 ∧ x2 = nI k
  · obtain ⟨n, h1n, hn, rfl⟩ := hx
    have wm : fX7_in N (nI n).toInt64 1 60 = some 1 := y_in1 N (lo := 1) (hi := 60) h1n hn (by decide)
    rw [x_within1 N h1n hn (by decide), Option.bind_some, if_neg z10, wm, Option.bind_some, if_neg z10]
    by_cases hy : ∃ k, 0 ≤ k ∧ k ≤ 1 ∧ x3 = nI k
    · obtain ⟨a, -, ha, rfl⟩ := hy
      have wm : fX7_in N (nI a).toInt64 0 1 = some 1 := y_in1 N (lo := 0) (hi := 1) (by omega) ha (by decide)
      rw [x_within1 N (by omega) ha (by decide), Option.bind_some, if_neg z10, wm, Option.bind_some, if_neg z10, hX.1, n1]
      by_cases h0 : β.1 0 = 0
      · rw [h0, if_pos m_zero, if_pos m_zero]
        exact ⟨_, _, rfl, rfl, rfl, hrel⟩
      · have hn0 : ¬ nI (β.1 0) = 0 := fun h => h0 ((nI_eq (a := β.1 0) (b := 0) (by omega) (by decide)).mp h)
        obtain ⟨τ', f1, f2, f3, f4, f5⟩ := y_copies N hN (a := 0) (b := 124) (by omega) (by omega) (by omega) τ
        rw [if_neg hn0, if_neg hn0, if_pos (z_cond (n := 5) (a := zlen 2) (b := zlen 34) (by decide) (by decide) (by decide)), zlet_eq, f1, Option.bind_some, zlet_eq]
        have hfresh : mvoice β (β.2 2) = β := by
          unfold mvoice
          refine Prod.ext rfl ?_
          funext a j
          show (if a = 2 then β.2 2 j else β.2 a j) = β.2 a j
          by_cases c : a = 2
          · rw [if_pos c, c]
          · rw [if_neg c]
        refine drift_loop N hN hO hX hM n1 n2 hrest (by omega) hn n 0 (by omega) N _ _ (β.2 2) x1 (nI 0) (nI 0) (by omega) rfl (fun q hq => by rw [zpa_2, if_neg hq]) (fun b hb => ?_) (fun b hb => (hO.2.2.2.2.1 b hb).2.2.2.1) (fun k hk => ?_) rfl (fun q hq => f3 q hq) ?_ (fun i hi => ?_) (fun e h1 h2 => f5 e (by omega)) (fun h => by omega)
        · rw [zpa_at, x_cpy (by decide), if_pos (by omega)]
          exact (hX.2.2.2.2.1 b hb).2.2.1
        · rw [zpf_1, if_pos rfl, zup, if_neg hk, f2]
        · rw [hfresh]
          exact BM_eq hO (fun i h1 h2 => f5 i (by omega)) hM
        · have := f4 i hi
          rw [Nat.zero_add] at this
          exact this
    · have wm : fX7_in N x3.toInt64 0 1 = some 0 := y_in0 N (lo := 0) (hi := 1) (by decide) (by decide) hy
      rw [x_within0 N (by decide) (by decide) hy, Option.bind_some, if_pos rfl, wm, Option.bind_some, if_pos rfl]
      exact ⟨_, _, rfl, rfl, rfl, hrel⟩
  · have wm : fX7_in N x2.toInt64 1 60 = some 0 := y_in0 N (lo := 1) (hi := 60) (by decide) (by decide) hx
    rw [x_within0 N (by decide) (by decide) hx, Option.bind_some, if_pos rfl, wm, Option.bind_some, if_pos rfl]
    exact ⟨_, _, rfl, rfl, rfl, hrel⟩

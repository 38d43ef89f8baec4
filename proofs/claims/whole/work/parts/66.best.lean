/-! the towers of both sides are the same -/
theorem pw_all {R : qT → qT → Bool} : ∀ l : List qT, pwB R l = true → l.Pairwise (fun a b => R a b = true)
  | [], _ => List.Pairwise.nil
  | a :: t, h => by
    rw [pwB, Bool.and_eq_true, List.all_eq_true] at h
    exact List.Pairwise.cons h.1 (pw_all t h.2)
theorem LX_perm {β : mB} (hn : β.1 0 ≤ 5) : (LX β).Perm ((aL (β.1 0)).filter (pQ β)) := List.Perm.filter _ (List.isPerm_iff.mp (aperm _ (by omega)))
theorem and_31 : ∀ r, r < 32 → r &&& 31 = r := by decide
theorem sQ_31 (β : mB) : sQ 31 β = pQ β := by
  funext q
  unfold sQ
  rw [and_31 _ (bitsQ_lt q), beq_self_eq_true, Bool.true_and]
theorem LX_cons (β : mB) : ∃ t, LX β = (0, 0) :: t := by
  unfold LX
  rw [dG, List.filter_cons_of_pos (show pQ β (0, 0) = true from rfl)]
  exact ⟨_, rfl⟩
theorem LX_mem0 (β : mB) : ((0, 0) : qT) ∈ LX β := by
  obtain ⟨t, h⟩ := LX_cons β
  rw [h]
  exact List.mem_cons_self
theorem LX_pw {β : mB} (hn : β.1 0 ≤ 5) : (LX β).Pairwise (fun a b => a.1 = b.1 → a.2 < b.2) := by
  refine List.Pairwise.filter _ (List.Pairwise.imp ?_ (pw_all _ (d_pw (β.1 0) (by omega))))
  intro a b h e
  simpa [e] using h
theorem aL_pw {n : Nat} (hn : n ≤ 5) : (aL n).Pairwise (fun a b => a.1 < b.1 ∨ (a.1 = b.1 ∧ a.2 < b.2)) := by
  refine List.Pairwise.imp ?_ (pw_all _ (a_pw n (by omega)))
  intro a b h
  simpa using h
theorem stX_fold (β : mB) (aim : Nat) : ∀ (l : List qT) (A : aT), (l.foldl (stX β aim) A).1 = A.1 + l.length ∧ (l.foldl (stX β aim) A).2.2 = l.foldl (selX (scQ β aim)) A.2.2 ∧ ∀ u, A.2.1 u ≤ (l.foldl (stX β aim) A).2.1 u ∧ (∀ q, q ∈ l → bitsQ q = u → flQ β q ≤ (l.foldl (stX β aim) A).2.1 u) ∧ ((l.foldl (stX β aim) A).2.1 u = A.2.1 u ∨ ∃ q, q ∈ l ∧ bitsQ q = u ∧ flQ β q = (l.foldl (stX β aim) A).2.1 u)
  | [], A => ⟨rfl, rfl, fun u => ⟨Nat.le_refl _, fun q hq => absurd hq (List.not_mem_nil), Or.inl rfl⟩⟩
  | p :: t, A => by
    obtain ⟨h1, h2, h3⟩ := stX_fold β aim t (stX β aim A p)
    have e1 : (stX β aim A p).1 = A.1 + 1 := rfl
    have e2 : (stX β aim A p).2.2 = selX (scQ β aim) A.2.2 p := rfl
    have e3 : ∀ u, (stX β aim A p).2.1 u = if u = bitsQ p then max (A.2.1 u) (flQ β p) else A.2.1 u := fun u => rfl
    rw [List.foldl_cons]
    refine ⟨by rw [h1, e1, List.length_cons]; omega, by rw [h2, e2, List.foldl_cons], fun u => ?_⟩
    obtain ⟨k1, k2, k3⟩ := h3 u
    rw [e3] at k1 k3
    by_cases hu : u = bitsQ p
    · rw [if_pos hu] at k1 k3
      refine ⟨by omega, fun q hq he => ?_, ?_⟩
      · rcases List.mem_cons.mp hq with hq | hq
        · rw [hq]; omega
        · exact k2 q hq he
      · rcases k3 with k3 | ⟨q, k4, k5, k6⟩
        · by_cases hm : A.2.1 u < flQ β p
          · right
            exact ⟨p, List.mem_cons_self, hu.symm, by rw [k3]; omega⟩
          · left
            rw [k3]; omega
        · exact Or.inr ⟨q, List.mem_cons_of_mem _ k4, k5, k6⟩
    · rw [if_neg hu] at k1 k3
      refine ⟨k1, fun q hq he => ?_, ?_⟩
      · rcases List.mem_cons.mp hq with hq | hq
        · exact absurd (by rw [← he, hq]) hu
        · exact k2 q hq he
      · rcases k3 with k3 | ⟨q, k4, k5, k6⟩
        · exact Or.inl k3
        · exact Or.inr ⟨q, List.mem_cons_of_mem _ k4, k5, k6⟩
theorem stY_fold (β : mB) (aim : Nat) : ∀ (l : List qT) (A : Nat × Option qT), l.foldl (stY β aim) A = (A.1 + l.length, l.foldl (selY (scQ β aim)) A.2)
  | [], A => rfl
  | p :: t, A => by
    rw [List.foldl_cons, stY_fold β aim t, List.length_cons, List.foldl_cons, stY]
    dsimp only
    rw [Nat.add_assoc, Nat.add_comm 1]
theorem AX_best {β : mB} (hn : β.1 0 ≤ 5) (aim : Nat) : ∃ r, (AX β aim).2.2 = some r ∧ isBest (scQ β aim) (LX β) r := by
  have h := (stX_fold β aim (LX β) (0, (fun _ => 0), none)).2.1
  obtain ⟨t, ht⟩ := LX_cons β
  obtain ⟨r, h1, h2⟩ := selX_all (sc := scQ β aim) (l := LX β) (by rw [ht]; exact List.cons_ne_nil _ _) (LX_pw hn)
  exact ⟨r, h.trans h1, h2⟩
theorem AY_in0 {β : mB} (hn : β.1 0 ≤ 5) (s : Nat) : ((0, 0) : qT) ∈ (aL (β.1 0)).filter (sQ s β) := by
  have h := (LX_perm hn).mem_iff.mp (LX_mem0 β)
  rw [List.mem_filter] at h ⊢
  refine ⟨h.1, ?_⟩
  unfold sQ
  rw [Bool.and_eq_true]
  refine ⟨?_, h.2⟩
  show ((0 &&& s) == 0) = true
  rw [Nat.zero_and]
  rfl
theorem AY_best {β : mB} (hn : β.1 0 ≤ 5) (s aim : Nat) : ∃ r, (AY β s aim).2 = some r ∧ isBest (scQ β aim) ((aL (β.1 0)).filter (sQ s β)) r := by
  have hm := AY_in0 hn s
  unfold AY
  rw [stY_fold]
  exact selY_all (sc := scQ β aim) (List.ne_nil_of_mem hm) (List.Pairwise.filter _ (aL_pw hn))
theorem same_best {β : mB} (hn : β.1 0 ≤ 5) (aim : Nat) : ∃ r, (AX β aim).2.2 = some r ∧ (AY β 31 aim).2 = some r ∧ isBest (scQ β aim) (LX β) r := by
  obtain ⟨r, h1, h2⟩ := AX_best hn aim
  obtain ⟨r', h3, h4⟩ := AY_best hn 31 aim
  rw [sQ_31] at h4
  have e : r = r' := isBest_uniq (fun x => (LX_perm hn).mem_iff) h2 h4
  exact ⟨r, h1, by rw [e]; exact h3, h2⟩
theorem same_total {β : mB} (hn : β.1 0 ≤ 5) (aim aim' : Nat) : (AX β aim).1 = (AY β 31 aim').1 := by
  have h1 := (stX_fold β aim (LX β) (0, (fun _ => 0), none)).1
  have h2 := stY_fold β aim' ((aL (β.1 0)).filter (sQ 31 β)) (0, none)
  unfold AX AY
  rw [h1, h2, sQ_31, (LX_perm hn).length_eq]
/-! the calls -/
theorem FTZ_rel {σ σ' τ τ' : zS} (h : FT σ σ') (h' : FZ τ τ') (hr : Rel σ τ) : Rel σ' τ' := by
  obtain ⟨β, ⟨hO, hX, hM, n1, n2⟩, hrest⟩ := hr
  exact Rel_band (β' := β) hrest ⟨hO, FT_X h hX, FZ_M hO h' hM, by rw [h'.2.1 1 (by decide)]; exact n1, by rw [h'.2.1 2 (by decide)]; exact n2⟩ rfl rfl (fun q _ h2 _ => h.1 q h2) (fun q _ h2 => h.2 q (by omega)) (fun k hk => h'.2.1 k (by omega)) (fun q h1 _ => h'.2.2.1 q h1) (fun i _ h2 => h'.2.2.2 i (by omega))
theorem place_eq (N : Nat) (hN : 4000 ≤ N) {σ τ : zS} {β : mB} {a a' : Nat} {r : qT} (hx : BR σ β a (some r)) (hy : BY τ β a' (some r)) {i : Nat} (hi : i < 5) : ∃ v, fX5_foundAt N σ (nI (10 + i) - nI 10) = some v ∧ fX7_placeBy N τ (nI (10 + i)) = some v := by
  obtain ⟨b0, b1, b2, b3, b4⟩ := hx
  obtain ⟨⟨c0, c0'⟩, c1, c2, c3, c4⟩ := hy
  have h5 := b0.1
  have e : nI (10 + i) - nI 10 = nI i := by rw [m_sub (by omega)]; congr 1; omega
  unfold fX5_foundAt fX7_placeBy
  rw [e, b3, c3, c4]
  by_cases h : i < r.1
  · rw [x_below1 N (by omega) h, Option.bind_some, if_neg z10, if_pos (m_zin (by rw [zlen28]; exact hi) (by decide)), zlet_eq, nI_clamp (by omega), b4 i h, if_neg (fun h' => by have := (nI_leI (by omega) (by omega)).mp h'; omega), y_figure N hN (by omega) h5 h, Option.bind_some]
    exact ⟨_, rfl, rfl⟩
  · rw [x_below0 N (by omega) (fun ⟨k, h1, h2⟩ => h (by have := (nI_eq (by omega) (by omega)).mp h2; omega)), Option.bind_some, if_pos rfl, if_pos ((nI_leI (by omega) (by omega)).mpr (by omega))]
    exact ⟨_, rfl, rfl⟩
theorem pl_no {x : Int32} (h : ¬ ∃ i, i < 5 ∧ x = nI (10 + i)) : ¬ ∃ k, 10 ≤ k ∧ k ≤ 14 ∧ x = nI k := fun ⟨k, h1, h2, h3⟩ => h ⟨k - 10, by omega, by rw [h3]; congr 1; omega⟩
theorem y_pl1 (N : Nat) {i : Nat} (h : i < 5) : fX7_in N (nI (10 + i)).toInt64 10 14 = some 1 := y_in1 N (lo := 10) (hi := 14) (by omega) (by omega) (by decide)
theorem y_pl0 (N : Nat) {x : Int32} (h : ¬ ∃ i, i < 5 ∧ x = nI (10 + i)) : fX7_in N x.toInt64 10 14 = some 0 := y_in0 N (lo := 10) (hi := 14) (by decide) (by decide) (pl_no h)
theorem x_pl1 (N : Nat) {i : Nat} (h : i < 5) : fX6_isPlace N (nI (10 + i)) = some 1 := by
  unfold fX6_isPlace
  rw [x_within1 N (lo := 10) (hi := 14) (by omega) (by omega) (by decide), Option.bind_some, if_pos (Or.inr rfl)]
theorem x_pl0 (N : Nat) {x : Int32} (h : ¬ ∃ i, i < 5 ∧ x = nI (10 + i)) : fX6_isPlace N x = some 0 := by
  unfold fX6_isPlace
  rw [x_within0 N (lo := 10) (hi := 14) (by decide) (by decide) (pl_no h), Option.bind_some, if_pos (Or.inl rfl)]
/-- a call that asks for a small thing up to b, or for a place -/
theorem ask_frame {R : Type} (N b : Nat) (hb : b < 10) {x : Int32} {f g : Option R} {u v : Option R} {P : Option R → Option R → Prop} (hbad : P u v) (hgo : (∃ k, k ≤ b ∧ x = nI k) ∨ (∃ i, i < 5 ∧ x = nI (10 + i)) → P f g) : P ((fX6_within N x (nI 0) (nI b)).bind fun q1 => if q1 = 0 then (fX6_isPlace N x).bind fun q3 => if q3 = 0 then u else f else f) ((fX7_in N x.toInt64 0 (lN b)).bind fun q1 => if q1 = 0 then (fX7_in N x.toInt64 10 14).bind fun q3 => if q3 = 0 then v else g else g) := by
  by_cases h : ∃ k, 0 ≤ k ∧ k ≤ b ∧ x = nI k
  · have hg := hgo (Or.inl (by obtain ⟨k, _, h2, h3⟩ := h; exact ⟨k, h2, h3⟩))
    obtain ⟨k, h1, h2, rfl⟩ := h
    rw [x_within1 N h1 h2 (by omega), show fX7_in N (nI k).toInt64 0 (lN b) = some 1 from y_in1 N (lo := 0) h1 h2 (by omega), Option.bind_some, Option.bind_some, if_neg z10, if_neg z10]
    exact hg
  · rw [x_within0 N (by omega) (by decide) h, show fX7_in N x.toInt64 0 (lN b) = some 0 from y_in0 N (lo := 0) (by omega) (by decide) h, Option.bind_some, Option.bind_some, if_pos rfl, if_pos rfl]
    by_cases h' : ∃ i, i < 5 ∧ x = nI (10 + i)
    · have hg := hgo (Or.inr h')
      obtain ⟨i, hi, rfl⟩ := h'
      rw [x_pl1 N hi, y_pl1 N hi, Option.bind_some, Option.bind_some, if_neg z10, if_neg z10]
      exact hg
    · rw [x_pl0 N h', y_pl0 N h', Option.bind_some, Option.bind_some, if_pos rfl, if_pos rfl]
      exact hbad
theorem ne_small {x : Int32} {i k : Nat} (hx : x = nI (10 + i)) (hi : i < 5) (hk : k < 10) : ¬ x = nI k := by
  rw [hx]
  intro h
  have := (nI_eq (by omega) (by omega)).mp h
  omega
theorem okp_best (N : Nat) (hN : 4000 ≤ N) : ok_best N Rel := by
  intro σ τ x1 hrel
  obtain ⟨β, ⟨hO, hX, hM, n1, n2⟩, hrest⟩ := id hrel
  obtain ⟨σ', e1, e2, e3, e4, e5⟩ := x_walk N hN hO hX (aim := 0) (by decide)
  obtain ⟨τ', f1, ⟨f2, f3⟩, f4⟩ := y_all N hN hO hM n1 n2 (s := 31) (way := 0) (by decide) (by decide)
  obtain ⟨r, h1, h2, h3⟩ := same_best hO.1 0
  have f3 : BY τ' β 0 (AY β 31 0).2 := f3
  rw [h1] at e4
  rw [h2] at f3
  have hR := FTZ_rel e5 f4 hrel
  show ∃ rx rm, fX6_best N σ x1 = some rx ∧ fX7_best N τ x1 = some rm ∧ rx.1 = rm.1 ∧ Rel rx.2 rm.2
  refine ask_frame N 2 (by decide) (R := Int32 × zS) (P := fun a b => ∃ rx rm, a = some rx ∧ b = some rm ∧ rx.1 = rm.1 ∧ Rel rx.2 rm.2) ⟨_, _, rfl, rfl, rfl, hrel⟩ ?_
  intro hx
  unfold fX6_best_18 fX7_best_28
  rw [e1, f1, Option.bind_some, Option.bind_some]
  by_cases c0 : x1 = nI 0
  · rw [if_pos c0, if_pos (show x1 = 0 from c0)]
    exact ⟨_, _, rfl, rfl, by show σ'.1 52 4 = τ'.1 66 23; rw [e4.2.1, f3.2.1], hR⟩
  · rw [if_neg c0, if_neg (show ¬ x1 = 0 from c0)]
    by_cases c1 : x1 = nI 1
    · rw [if_pos c1, if_pos c1]
      exact ⟨_, _, rfl, rfl, by show σ'.1 52 5 = τ'.1 66 24; rw [e4.2.2.1, f3.2.2.1], hR⟩
    · rw [if_neg c1, if_neg c1]
      by_cases c2 : x1 = nI 2
      · rw [if_pos c2, if_pos c2]
        exact ⟨_, _, rfl, rfl, by show σ'.1 52 3 = τ'.1 66 22; rw [e4.2.2.2.1, f3.2.2.2.2], hR⟩
      · rw [if_neg c2, if_neg c2]
        have hi : ∃ i, i < 5 ∧ x1 = nI (10 + i) := by
          rcases hx with ⟨k, h1, h2⟩ | h
          · rcases (show k = 0 ∨ k = 1 ∨ k = 2 by omega) with rfl | rfl | rfl
            · exact absurd h2 c0
            · exact absurd h2 c1
            · exact absurd h2 c2
          · exact h
        obtain ⟨i, hi, rfl⟩ := hi
        obtain ⟨v, v1, v2⟩ := place_eq N hN e4 f3 hi
        rw [v1, v2, Option.bind_some, Option.bind_some]
        exact ⟨_, _, rfl, rfl, rfl, hR⟩
theorem okp_loud (N : Nat) (hN : 4000 ≤ N) : ok_loud N Rel := by
  intro σ τ x1 hrel
  obtain ⟨β, ⟨hO, hX, hM, n1, n2⟩, hrest⟩ := id hrel
  obtain ⟨σ', e1, e2, e3, e4, e5⟩ := x_walk N hN hO hX (aim := 2) (by decide)
  obtain ⟨τ', f1, ⟨f2, f3⟩, f4⟩ := y_all N hN hO hM n1 n2 (s := 31) (way := 1) (by decide) (by decide)
  obtain ⟨r, h1, h2, h3⟩ := same_best hO.1 2
  have f3 : BY τ' β 2 (AY β 31 2).2 := f3
  rw [h1] at e4
  rw [h2] at f3
  have hR := FTZ_rel e5 f4 hrel
  show ∃ rx rm, fX6_loud N σ x1 = some rx ∧ fX7_loud N τ x1 = some rm ∧ rx.1 = rm.1 ∧ Rel rx.2 rm.2
  refine ask_frame N 1 (by decide) (R := Int32 × zS) (P := fun a b => ∃ rx rm, a = some rx ∧ b = some rm ∧ rx.1 = rm.1 ∧ Rel rx.2 rm.2) ⟨_, _, rfl, rfl, rfl, hrel⟩ ?_
  intro hx
  unfold fX6_loud_18 fX7_loud_26
  rw [e1, f1, Option.bind_some, Option.bind_some]
  by_cases c0 : x1 = nI 0
  · rw [if_pos c0, if_pos (show x1 = 0 from c0)]
    exact ⟨_, _, rfl, rfl, by show σ'.1 52 5 = τ'.1 66 24; rw [e4.2.2.1, f3.2.2.1], hR⟩
  · rw [if_neg c0, if_neg (show ¬ x1 = 0 from c0)]
    by_cases c1 : x1 = nI 1
    · rw [if_pos c1, if_pos c1]
      exact ⟨_, _, rfl, rfl, by show σ'.1 52 3 = τ'.1 66 22; rw [e4.2.2.2.1, f3.2.2.2.2], hR⟩
    · rw [if_neg c1, if_neg c1]
      have hi : ∃ i, i < 5 ∧ x1 = nI (10 + i) := by
        rcases hx with ⟨k, h1, h2⟩ | h
        · rcases (show k = 0 ∨ k = 1 by omega) with rfl | rfl
          · exact absurd h2 c0
          · exact absurd h2 c1
        · exact h
      obtain ⟨i, hi, rfl⟩ := hi
      obtain ⟨v, v1, v2⟩ := place_eq N hN e4 f3 hi
      rw [v1, v2, Option.bind_some, Option.bind_some]
      exact ⟨_, _, rfl, rfl, rfl, hR⟩
theorem okp_towers (N : Nat) (hN : 4000 ≤ N) : ok_towers N Rel := by
  intro σ τ hrel
  obtain ⟨β, ⟨hO, hX, hM, n1, n2⟩, hrest⟩ := id hrel
  obtain ⟨σ', e1, e2, e3, e4, e5⟩ := x_walk N hN hO hX (aim := 2) (by decide)
  obtain ⟨τ', f1, ⟨f2, f3⟩, f4⟩ := y_all N hN hO hM n1 n2 (s := 31) (way := 1) (by decide) (by decide)
  have hR := FTZ_rel e5 f4 hrel
  unfold fX6_towers fX7_towers
  rw [e1, f1, Option.bind_some, Option.bind_some]
  exact ⟨_, _, rfl, rfl, by show σ'.1 52 6 = τ'.1 66 25; rw [e2, f2, same_total hO.1 2 (2 * 1)], hR⟩
theorem mpop_top : ∀ r, r < 5 → ∀ m, m < 2 ^ r → mpop m ≤ r := by decide +kernel
theorem flQ_rob {β : mB} (hO : BOk β) (q : qT) : flQ β q ≤ β.1 1 := mpop_top _ (by have := hO.2.1; omega) _ (mflee_le _ _ _).2
theorem scQ_0 (β : mB) (q : qT) : scQ β 0 q = flQ β q := rfl
theorem few_same {β : mB} (hO : BOk β) {r r' : qT} (h : isBest (scQ β 1) (LX β) r) (h' : isBest (scQ β 0) (LX β) r') : (scQ β 1 r = 0 ∧ flQ β r' < β.1 1) ∨ (scQ β 1 r = 1 ∧ flQ β r' = β.1 1 ∧ r = r') := by
  have hs : ∀ q, (scQ β 1 q = 1 ∧ flQ β q = β.1 1) ∨ (scQ β 1 q = 0 ∧ flQ β q < β.1 1) := fun q => by
    have hq := flQ_rob hO q
    unfold scQ
    rw [if_pos rfl]
    by_cases c : flQ β q = β.1 1
    · rw [if_pos c]; exact Or.inl ⟨rfl, c⟩
    · rw [if_neg c]; exact Or.inr ⟨rfl, by omega⟩
  have hr := hs r
  have hr' := hs r'
  rcases h.2 r' h'.1 with e | b1
  · rw [← e] at hr ⊢
    rcases hr with hr | hr
    · exact Or.inr ⟨hr.1, hr.2, rfl⟩
    · exact Or.inl hr
  · rcases h'.2 r h.1 with e | b2
    · rw [e] at hr ⊢
      rcases hr with hr | hr
      · exact Or.inr ⟨hr.1, hr.2, rfl⟩
      · exact Or.inl hr
    · unfold better at b1 b2
      rw [scQ_0, scQ_0] at b2
      have := flQ_rob hO r'
      left
      omega
theorem okp_few (N : Nat) (hN : 4000 ≤ N) : ok_few N Rel := by
  intro σ τ x1 hrel
  obtain ⟨β, ⟨hO, hX, hM, n1, n2⟩, hrest⟩ := id hrel
  obtain ⟨σ', e1, e2, e3, e4, e5⟩ := x_walk N hN hO hX (aim := 1) (by decide)
  obtain ⟨τ', f1, ⟨f2, f3⟩, f4⟩ := y_all N hN hO hM n1 n2 (s := 31) (way := 0) (by decide) (by decide)
  obtain ⟨r, h1, h3⟩ := AX_best hO.1 1
  obtain ⟨r', _, h2, h4⟩ := same_best hO.1 0
  have f3 : BY τ' β 0 (AY β 31 0).2 := f3
  rw [h1] at e4
  rw [h2] at f3
  have hR := FTZ_rel e5 f4 hrel
  have hrob := hO.2.1
  have hfl := flQ_le β r'
  have n2' : τ'.1 66 2 = nI (β.1 1) := by rw [f4.2.1 2 (by decide)]; exact n2
  show ∃ rx rm, fX6_few N σ x1 = some rx ∧ fX7_few N τ x1 = some rm ∧ rx.1 = rm.1 ∧ Rel rx.2 rm.2
  refine ask_frame N 1 (by decide) (R := Int32 × zS) (P := fun a b => ∃ rx rm, a = some rx ∧ b = some rm ∧ rx.1 = rm.1 ∧ Rel rx.2 rm.2) ⟨_, _, rfl, rfl, rfl, hrel⟩ ?_
  intro hx
  unfold fX6_few_18 fX7_few_26
  rw [e1, f1, Option.bind_some, Option.bind_some, e4.2.1, n2', f3.2.1, scQ_0]
  rcases few_same hO h3 h4 with ⟨g1, g2⟩ | ⟨g1, g2, g3⟩
  · rw [g1, if_pos m_zero, if_neg (fun h => by have := (nI_leI (by omega) (by omega)).mp h; omega)]
    exact ⟨_, _, rfl, rfl, rfl, hR⟩
  · rw [g1, if_neg (by decide), if_pos ((nI_leI (by omega) (by omega)).mpr (by omega))]
    rw [← g3] at f3
    by_cases c0 : x1 = nI 0
    · rw [if_pos c0, if_pos (show x1 = 0 from c0)]
      exact ⟨_, _, rfl, rfl, by show σ'.1 52 3 = τ'.1 66 22; rw [e4.2.2.2.1, f3.2.2.2.2], hR⟩
    · rw [if_neg c0, if_neg (show ¬ x1 = 0 from c0)]
      by_cases c1 : x1 = nI 1
      · rw [if_pos c1, if_pos c1]
        exact ⟨_, _, rfl, rfl, by show σ'.1 52 5 = τ'.1 66 24; rw [e4.2.2.1, f3.2.2.1], hR⟩
      · rw [if_neg c1, if_neg c1]
        have hi : ∃ i, i < 5 ∧ x1 = nI (10 + i) := by
          rcases hx with ⟨k, h1, h2⟩ | h
          · rcases (show k = 0 ∨ k = 1 by omega) with rfl | rfl
            · exact absurd h2 c0
            · exact absurd h2 c1
          · exact h
        obtain ⟨i, hi, rfl⟩ := hi
        obtain ⟨v, v1, v2⟩ := place_eq N hN e4 f3 hi
        rw [v1, v2, Option.bind_some, Option.bind_some]
        exact ⟨_, _, rfl, rfl, rfl, hR⟩

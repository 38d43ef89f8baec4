def zσ0 : zS := (fun q k => if 42 ≤ q ∧ q < 46 ∧ k = 9 then 5 else if 46 ≤ q ∧ q < 50 ∧ k = 1 then -1 else 0, fun _ _ => 0)
def zτ0 : zS := (fun _ _ => 0, fun q => if q = 58 then (upd (upd (upd (upd (upd (upd (upd (upd (upd (fun _ => 0) (0 : Int32).toNatClampNeg 0) (1 : Int32).toNatClampNeg 4) (2 : Int32).toNatClampNeg 7) (3 : Int32).toNatClampNeg 12) (4 : Int32).toNatClampNeg 15) (5 : Int32).toNatClampNeg 21) (6 : Int32).toNatClampNeg 26) (7 : Int32).toNatClampNeg 31) (8 : Int32).toNatClampNeg 35) else if q = 59 then (upd (upd (upd (upd (upd (upd (upd (upd (upd (upd (upd (upd (upd (upd (upd (upd (upd (upd (upd (upd (upd (upd (upd (upd (upd (upd (upd (upd (upd (upd (upd (upd (upd (upd (upd (fun _ => 0) (0 : Int32).toNatClampNeg 99) (1 : Int32).toNatClampNeg 111) (2 : Int32).toNatClampNeg 99) (3 : Int32).toNatClampNeg 107) (4 : Int32).toNatClampNeg 99) (5 : Int32).toNatClampNeg 97) (6 : Int32).toNatClampNeg 116) (7 : Int32).toNatClampNeg 104) (8 : Int32).toNatClampNeg 111) (9 : Int32).toNatClampNeg 117) (10 : Int32).toNatClampNeg 110) (11 : Int32).toNatClampNeg 100) (12 : Int32).toNatClampNeg 97) (13 : Int32).toNatClampNeg 115) (14 : Int32).toNatClampNeg 115) (15 : Int32).toNatClampNeg 114) (16 : Int32).toNatClampNeg 111) (17 : Int32).toNatClampNeg 98) (18 : Int32).toNatClampNeg 98) (19 : Int32).toNatClampNeg 101) (20 : Int32).toNatClampNeg 114) (21 : Int32).toNatClampNeg 115) (22 : Int32).toNatClampNeg 99) (23 : Int32).toNatClampNeg 111) (24 : Int32).toNatClampNeg 117) (25 : Int32).toNatClampNeg 116) (26 : Int32).toNatClampNeg 116) (27 : Int32).toNatClampNeg 111) (28 : Int32).toNatClampNeg 119) (29 : Int32).toNatClampNeg 101) (30 : Int32).toNatClampNeg 114) (31 : Int32).toNatClampNeg 98) (32 : Int32).toNatClampNeg 101) (33 : Int32).toNatClampNeg 100) (34 : Int32).toNatClampNeg 115) else if q = 62 then (upd (upd (upd (upd (fun _ => 0) (0 : Int32).toNatClampNeg (-4)) (1 : Int32).toNatClampNeg (-4)) (2 : Int32).toNatClampNeg (-4)) (3 : Int32).toNatClampNeg (-4)) else fun _ => 0)
def zπ : List Nat := [2, 3, 4, 5, 6, 7, 11, 12, 13, 14, 15, 16, 34, 35, 36, 37, 38, 39, 41, 42, 43, 44, 45, 46, 9, 18, 19, 21, 22, 23, 25, 26, 27, 28, 32, 48, 50, 52, 54, 30, 29, 31, 1, 10, 33, 40, 47, 49, 51, 53, 8, 17, 20, 24, 0, 56, 57, 58, 59, 60, 61, 62, 64, 65, 66, 63, 55]
def zad (q1 q2 : Nat) (u1 u2 ak av : Nat → Nat) (q : Nat) : Nat := if q < 100 then ([(u1 1), (u1 2), (u1 3), (u1 4), (u1 5), (u1 6), (u1 10), (u1 11), (u1 12), (u1 13), (u1 14), (u1 15), (u1 33), (u1 34), (u1 35), (u1 36), (u1 37), (u1 38), (u1 40), (u1 41), (u1 42), (u1 43), (u1 44), (u1 45), (u1 8), (u1 17), (u1 18), (u1 20), (u1 21), (u1 22), (u1 24), (u1 25), (u1 26), (u1 27), (u1 31), (u1 47), (u1 49), (u1 51), (u1 53), (u1 29), (u1 28), (u1 30), (u1 0), (u1 9), (u1 32), (u1 39), (u1 46), (u1 48), (u1 50), (u1 52), (u1 7), (u1 16), (u1 19), (u1 23), q1, (u2 0), (u2 1), (u2 2), (u2 3), (u2 4), (u2 5), (u2 6), (u2 8), (u2 9), (u2 10), (u2 7), q2] : List Nat).getD q 0 else if q < 200 then ak (q - 100) else av (q - 200)
theorem z_arrq {D : va_G} {cl : List vw_C} {H : Heap} {a : Nat} {cA : ClassId} {n : Nat} {f f2 : Nat → Option Nat} (h : va_at D cl (a, .inl (cA, n, .inr (.inr (.inr (.inr f))))) H) (hf : ∀ i, i < n → f i = f2 i) : va_at D cl (a, .inl (cA, n, .inr (.inr (.inr (.inr f2))))) H := by
  have e : vp_cell cA (n, .inr (.inr (.inr (.inr f)))) = vp_cell cA (n, .inr (.inr (.inr (.inr f2)))) := by
    rw [vp_cell_q, vp_cell_q]
    unfold arrV
    congr 2
    funext j
    show va_rf (f j.val) = va_rf (f2 j.val)
    rw [hf j.val j.isLt]
  have h : H[a]? = some (vp_cell cA (n, .inr (.inr (.inr (.inr f))))) := h
  show H[a]? = some (vp_cell cA (n, .inr (.inr (.inr (.inr f2)))))
  rw [← e]; exact h
abbrev zg (D : va_G) (cs : ClassId × ClassId × ClassId × ClassId) (q1 q2 : Nat) (u1 u2 ak av : Nat → Nat) : zG := (D, cs, zad q1 q2 u1 u2 ak av)
abbrev zw (D : va_G) (cs : ClassId × ClassId × ClassId × ClassId) (q1 q2 : Nat) (u1 u2 ak av : Nat → Nat) : va_W := wX6_init (zg D cs q1 q2 u1 u2 ak av) q1 u1 ++ wX7_init (zg D cs q1 q2 u1 u2 ak av) q2 u2
set_option maxRecDepth 100000 in
set_option maxHeartbeats 4000000 in
theorem zw_at {D : va_G} {cs : ClassId × ClassId × ClassId × ClassId} {q1 q2 : Nat} {u1 u2 ak av : Nat → Nat} : ∀ k, k < 67 → ∃ e : va_E, (zw D cs q1 q2 u1 u2 ak av)[zπ.getD k 0]? = some (zad q1 q2 u1 u2 ak av k, e)
  | 0, _ => ⟨_, rfl⟩
  | 1, _ => ⟨_, rfl⟩
  | 2, _ => ⟨_, rfl⟩
  | 3, _ => ⟨_, rfl⟩
  | 4, _ => ⟨_, rfl⟩
  | 5, _ => ⟨_, rfl⟩
  | 6, _ => ⟨_, rfl⟩
  | 7, _ => ⟨_, rfl⟩
  | 8, _ => ⟨_, rfl⟩
  | 9, _ => ⟨_, rfl⟩
  | 10, _ => ⟨_, rfl⟩
  | 11, _ => ⟨_, rfl⟩
  | 12, _ => ⟨_, rfl⟩
  | 13, _ => ⟨_, rfl⟩
  | 14, _ => ⟨_, rfl⟩
  | 15, _ => ⟨_, rfl⟩
  | 16, _ => ⟨_, rfl⟩
  | 17, _ => ⟨_, rfl⟩
  | 18, _ => ⟨_, rfl⟩
  | 19, _ => ⟨_, rfl⟩
  | 20, _ => ⟨_, rfl⟩
  | 21, _ => ⟨_, rfl⟩
  | 22, _ => ⟨_, rfl⟩
  | 23, _ => ⟨_, rfl⟩
  | 24, _ => ⟨_, rfl⟩
  | 25, _ => ⟨_, rfl⟩
  | 26, _ => ⟨_, rfl⟩
  | 27, _ => ⟨_, rfl⟩
  | 28, _ => ⟨_, rfl⟩
  | 29, _ => ⟨_, rfl⟩
  | 30, _ => ⟨_, rfl⟩
  | 31, _ => ⟨_, rfl⟩
  | 32, _ => ⟨_, rfl⟩
  | 33, _ => ⟨_, rfl⟩
  | 34, _ => ⟨_, rfl⟩
  | 35, _ => ⟨_, rfl⟩
  | 36, _ => ⟨_, rfl⟩
  | 37, _ => ⟨_, rfl⟩
  | 38, _ => ⟨_, rfl⟩
  | 39, _ => ⟨_, rfl⟩
  | 40, _ => ⟨_, rfl⟩
  | 41, _ => ⟨_, rfl⟩
  | 42, _ => ⟨_, rfl⟩
  | 43, _ => ⟨_, rfl⟩
  | 44, _ => ⟨_, rfl⟩
  | 45, _ => ⟨_, rfl⟩
  | 46, _ => ⟨_, rfl⟩
  | 47, _ => ⟨_, rfl⟩
  | 48, _ => ⟨_, rfl⟩
  | 49, _ => ⟨_, rfl⟩
  | 50, _ => ⟨_, rfl⟩
  | 51, _ => ⟨_, rfl⟩
  | 52, _ => ⟨_, rfl⟩
  | 53, _ => ⟨_, rfl⟩
  | 54, _ => ⟨_, rfl⟩
  | 55, _ => ⟨_, rfl⟩
  | 56, _ => ⟨_, rfl⟩
  | 57, _ => ⟨_, rfl⟩
  | 58, _ => ⟨_, rfl⟩
  | 59, _ => ⟨_, rfl⟩
  | 60, _ => ⟨_, rfl⟩
  | 61, _ => ⟨_, rfl⟩
  | 62, _ => ⟨_, rfl⟩
  | 63, _ => ⟨_, rfl⟩
  | 64, _ => ⟨_, rfl⟩
  | 65, _ => ⟨_, rfl⟩
  | 66, _ => ⟨_, rfl⟩
  | k + 67, h => absurd h (by omega)
set_option maxRecDepth 100000 in
theorem zπ_inj : ∀ i, i < 67 → ∀ j, j < 67 → zπ.getD i 0 = zπ.getD j 0 → i = j := by decide +kernel
set_option maxRecDepth 100000 in
set_option maxHeartbeats 8000000 in
theorem zw_P {D : va_G} {cs : ClassId × ClassId × ClassId × ClassId} {q1 q2 : Nat} {u1 u2 ak av : Nat → Nat} {H : Heap} (h : va_P D vwCl (zw D cs q1 q2 u1 u2 ak av) H) : ∀ k, k < 67 → va_at D vwCl ((zg D cs q1 q2 u1 u2 ak av).2.2 k, zC (zg D cs q1 q2 u1 u2 ak av) zσ0 zτ0 k) H
  | 0, _ => h 2 _ rfl
  | 1, _ => h 3 _ rfl
  | 2, _ => h 4 _ rfl
  | 3, _ => h 5 _ rfl
  | 4, _ => h 6 _ rfl
  | 5, _ => h 7 _ rfl
  | 6, _ => h 11 _ rfl
  | 7, _ => h 12 _ rfl
  | 8, _ => h 13 _ rfl
  | 9, _ => h 14 _ rfl
  | 10, _ => h 15 _ rfl
  | 11, _ => h 16 _ rfl
  | 12, _ => h 34 _ rfl
  | 13, _ => h 35 _ rfl
  | 14, _ => h 36 _ rfl
  | 15, _ => h 37 _ rfl
  | 16, _ => h 38 _ rfl
  | 17, _ => h 39 _ rfl
  | 18, _ => h 41 _ rfl
  | 19, _ => h 42 _ rfl
  | 20, _ => h 43 _ rfl
  | 21, _ => h 44 _ rfl
  | 22, _ => h 45 _ rfl
  | 23, _ => h 46 _ rfl
  | 24, _ => h 9 _ rfl
  | 25, _ => h 18 _ rfl
  | 26, _ => h 19 _ rfl
  | 27, _ => h 21 _ rfl
  | 28, _ => h 22 _ rfl
  | 29, _ => h 23 _ rfl
  | 30, _ => h 25 _ rfl
  | 31, _ => h 26 _ rfl
  | 32, _ => h 27 _ rfl
  | 33, _ => h 28 _ rfl
  | 34, _ => h 32 _ rfl
  | 35, _ => h 48 _ rfl
  | 36, _ => h 50 _ rfl
  | 37, _ => h 52 _ rfl
  | 38, _ => h 54 _ rfl
  | 39, _ => h 30 _ rfl
  | 40, _ => z_arrq (h 29 _ rfl) (fun i hi => match i, hi with | 0, _ => rfl | 1, _ => rfl | i + 2, hi => absurd hi (by omega))
  | 41, _ => z_arrq (h 31 _ rfl) (fun i hi => match i, hi with | 0, _ => rfl | 1, _ => rfl | 2, _ => rfl | 3, _ => rfl | i + 4, hi => absurd hi (by omega))
  | 42, _ => h 1 _ rfl
  | 43, _ => h 10 _ rfl
  | 44, _ => h 33 _ rfl
  | 45, _ => h 40 _ rfl
  | 46, _ => h 47 _ rfl
  | 47, _ => h 49 _ rfl
  | 48, _ => h 51 _ rfl
  | 49, _ => h 53 _ rfl
  | 50, _ => h 8 _ rfl
  | 51, _ => h 17 _ rfl
  | 52, _ => h 20 _ rfl
  | 53, _ => h 24 _ rfl
  | 54, _ => h 0 _ rfl
  | 55, _ => h 56 _ rfl
  | 56, _ => h 57 _ rfl
  | 57, _ => h 58 _ rfl
  | 58, _ => h 59 _ rfl
  | 59, _ => h 60 _ rfl
  | 60, _ => h 61 _ rfl
  | 61, _ => h 62 _ rfl
  | 62, _ => h 64 _ rfl
  | 63, _ => h 65 _ rfl
  | 64, _ => h 66 _ rfl
  | 65, _ => h 63 _ rfl
  | 66, _ => h 55 _ rfl
  | k + 67, hk => absurd hk (by omega)
theorem zw_J {D : va_G} {cs : ClassId × ClassId × ClassId × ClassId} {q1 q2 : Nat} {u1 u2 ak av : Nat → Nat} {H : Heap} (h : va_P D vwCl (zw D cs q1 q2 u1 u2 ak av) H) : va_P D vwCl (zJ (zg D cs q1 q2 u1 u2 ak av) zσ0 zτ0) H := by
  intro k q hk
  obtain ⟨hk2, rfl⟩ := zJ_at hk
  exact zw_P h k hk2
theorem zw_Ap {D : va_G} {cs : ClassId × ClassId × ClassId × ClassId} {q1 q2 : Nat} {u1 u2 ak av : Nat → Nat} {A : Nat → Prop} (h : va_D A (zw D cs q1 q2 u1 u2 ak av)) : zAp (zg D cs q1 q2 u1 u2 ak av) A := by
  refine ⟨fun i hi j hj e => ?_, fun q hq => ?_⟩
  · obtain ⟨e1, h1⟩ := zw_at (D := D) (cs := cs) (q1 := q1) (q2 := q2) (u1 := u1) (u2 := u2) (ak := ak) (av := av) i hi
    obtain ⟨e2, h2⟩ := zw_at (D := D) (cs := cs) (q1 := q1) (q2 := q2) (u1 := u1) (u2 := u2) (ak := ak) (av := av) j hj
    exact zπ_inj i hi j hj (h.1 _ _ _ _ h1 h2 e)
  · obtain ⟨e1, h1⟩ := zw_at (D := D) (cs := cs) (q1 := q1) (q2 := q2) (u1 := u1) (u2 := u2) (ak := ak) (av := av) q hq
    exact h.2 _ _ h1
theorem zst_f : ∀ q ∈ zNf, Cond.fieldLinkNest q.1 q.2.1 q.2.2.1 q.2.2.2.1 q.2.2.2.2.1 q.2.2.2.2.2 ∈ lw_tbl := by decide +kernel
theorem zst_m : ∀ q ∈ zNm, Cond.methodLinkNest q.1 q.2.1 q.2.2.1 q.2.2.2 ∈ lw_tbl := by decide +kernel
theorem zst_s : ∀ i, i < 8 → Cond.stringRef "TownBand$Tape" (zsI.getD i 0) (zsT.getD i "") ∈ lw_tbl := by decide +kernel
theorem zst_1 : ∀ i, i < 8 → Cond.exactly (.string "TownBand$Tape" (zsI.getD i 0)) "java/lang/String" ∈ flatC (Jvm.Cond.and given_1 narrow_1) := by decide +kernel
theorem zst_2 : ∀ i, i < 8 → Cond.eq (.field (.string "TownBand$Tape" (zsI.getD i 0)) "java/lang/String" "coder" "B") (.int 0) ∈ flatC (Jvm.Cond.and given_1 narrow_1) := by decide +kernel
theorem zst_3 : ∀ i, i < 8 → Cond.arrayOf (.field (.string "TownBand$Tape" (zsI.getD i 0)) "java/lang/String" "value" "[B") .byte ∈ flatC (Jvm.Cond.and given_1 narrow_1) := by decide +kernel
theorem zst_4 : ∀ i, i < 8 → Cond.eq (.length (.field (.string "TownBand$Tape" (zsI.getD i 0)) "java/lang/String" "value" "[B")) (.int (Int32.ofNat (zsL.getD i 0))) ∈ flatC (Jvm.Cond.and given_1 narrow_1) := by decide +kernel
theorem zst_5 : ∀ i, i < 8 → ∀ j, j < zsL.getD i 0 → Cond.eq (.elem (.field (.string "TownBand$Tape" (zsI.getD i 0)) "java/lang/String" "value" "[B") (.int (Int32.ofNat j))) (.int ((zsB.getD i []).getD j 0)) ∈ flatC (Jvm.Cond.and given_1 narrow_1) := by decide +kernel
theorem zst_6 : ∀ i, i < 8 → ∀ j, j < 8 → i ≠ j → Cond.not (Cond.eq (.string "TownBand$Tape" (zsI.getD i 0)) (.string "TownBand$Tape" (zsI.getD j 0))) ∈ flatC (Jvm.Cond.and given_1 narrow_1) ∨ Cond.not (Cond.eq (.string "TownBand$Tape" (zsI.getD j 0)) (.string "TownBand$Tape" (zsI.getD i 0))) ∈ flatC (Jvm.Cond.and given_1 narrow_1) := by decide +kernel
theorem zst_7 : ∀ i, i < 8 → zsL.getD i 0 < 2 ^ 31 := by decide +kernel
theorem zst_8 : Cond.eq (.static "java/lang/String" "COMPACT_STRINGS" "Z") (.int 1) ∈ flatC (Jvm.Cond.and given_1 narrow_1) ∧ Cond.isRef (.static "jdk/internal/util/Preconditions" "SIOOBE_FORMATTER" "Ljava/util/function/BiFunction;") ∈ flatC (Jvm.Cond.and given_1 narrow_1) := by decide +kernel
theorem zst_9 : (Cond.laysStatic "java/lang/String" "COMPACT_STRINGS" "Z" ∈ lw_tbl ∧ Cond.laysStatic "jdk/internal/util/Preconditions" "SIOOBE_FORMATTER" "Ljava/util/function/BiFunction;" ∈ lw_tbl) ∧ (Cond.initialized "java/lang/String" ∈ lw_tbl ∧ Cond.initialized "jdk/internal/util/Preconditions" ∈ lw_tbl) ∧ (Cond.arrayOver (.object RX0) ∈ lw_tbl ∧ Cond.arrayOver (.object RX3) ∈ lw_tbl) ∧ Cond.arrayClass .int ∈ lw_tbl ∧ Cond.arrayClass .boolean ∈ lw_tbl := by decide +kernel
set_option maxRecDepth 100000 in
set_option maxHeartbeats 8000000 in
theorem whole_open {p : Program} {e : Env} {s : State} {m : MethodId} {below : List Frame} {meth : Method} {c : Code} (l : Launch) {b L : Nat} {xs : Nat → Int32} (hL : L ≤ 320) (C0 : lw_At p s m meth c b L xs) {N : Nat} {Rel : zS → zS → Prop} (K : okAll N Rel) (hR0 : Rel zσ0 zτ0) : W p l e room_1 s m #[Value.ref b] below meth c s.heap [] 0 0 (lw_Z below #[Value.ref b] s) (entryFrame m ([Value.ref b] : List Value).toArray 4) := by
  obtain ⟨hx, hb, hr, hml, hown, hts, hX, hbl, hlocks, hgv⟩ := id C0
  have hb : c.code = cL_law := hb
  have hs := flat_of_before _ hgv
  have htl : ∀ w ∈ wsL_law, w.before #[Value.ref b] s = true := fun w h => hts w (wsL_law_in w h)
  have hbA : ¬ lwA s b := Nat.not_le.mpr hbl
  have hA0 : ∀ a : Nat, a < s.heap.size → ¬ lwA s a := fun a h h2 => absurd h (Nat.not_lt.mpr h2)
  obtain ⟨c0, i0, hK0⟩ := u_known (C := RX0) (T := TX0) (N := 10) (n := 10) hts inX0 (htl (.instantiable RX0 10) (List.mem_append_left _ (List.mem_append_left _ (List.mem_append_left _ (List.mem_append_left _ (List.mem_append_left _ (List.mem_append_left _ (List.mem_append_left _ (List.mem_append_left _ (List.mem_append_left _ (List.mem_append_left _ (List.mem_of_getElem? (i := 13) rfl))))))))))))
  obtain ⟨c1, i1, hK1⟩ := u_known (C := RX1) (T := TX1) (N := 6) (n := 6) hts inX1 (htl (.instantiable RX1 6) (List.mem_append_left _ (List.mem_append_left _ (List.mem_append_left _ (List.mem_append_left _ (List.mem_append_left _ (List.mem_append_left _ (List.mem_append_left _ (List.mem_append_left _ (List.mem_append_left _ (List.mem_append_right _ (List.mem_append_left _ (List.mem_of_getElem? (i := 5) rfl)))))))))))))
  obtain ⟨c2, i2, hK2⟩ := u_known (C := RX2) (T := TX2) (N := 3) (n := 3) hts inX2 (htl (.instantiable RX2 3) (List.mem_append_left _ (List.mem_append_left _ (List.mem_append_left _ (List.mem_append_left _ (List.mem_append_left _ (List.mem_append_left _ (List.mem_append_left _ (List.mem_append_left _ (List.mem_append_left _ (List.mem_append_left _ (List.mem_of_getElem? (i := 21) rfl))))))))))))
  obtain ⟨c3, i3, hK3⟩ := u_known (C := RX3) (T := TX3) (N := 3) (n := 3) hts inX3 (htl (.instantiable RX3 3) (List.mem_append_left _ (List.mem_append_left _ (List.mem_append_left _ (List.mem_append_left _ (List.mem_append_left _ (List.mem_append_left _ (List.mem_append_left _ (List.mem_append_left _ (List.mem_append_left _ (List.mem_append_right _ (List.mem_append_left _ (List.mem_of_getElem? (i := 16) rfl)))))))))))))
  obtain ⟨c4, i4, hK4⟩ := u_known (C := RX4) (T := TX4) (N := 11) (n := 11) hts inX4 (htl (.instantiable RX4 11) (List.mem_append_left _ (List.mem_append_left _ (List.mem_append_left _ (List.mem_append_left _ (List.mem_append_left _ (List.mem_append_left _ (List.mem_append_left _ (List.mem_append_left _ (List.mem_append_left _ (List.mem_append_left _ (List.mem_of_getElem? (i := 17) rfl))))))))))))
  obtain ⟨c5, i5, hK5⟩ := u_known (C := RX5) (T := TX5) (N := 7) (n := 7) hts inX5 (htl (.instantiable RX5 7) (List.mem_append_left _ (List.mem_append_left _ (List.mem_append_left _ (List.mem_append_left _ (List.mem_append_left _ (List.mem_append_left _ (List.mem_append_left _ (List.mem_append_left _ (List.mem_append_left _ (List.mem_append_right _ (List.mem_append_left _ (List.mem_of_getElem? (i := 1) rfl)))))))))))))
  obtain ⟨c6, i6, hK6⟩ := u_known (C := RX6) (T := TX6) (N := 10) (n := 10) hts inX6 (htl (.instantiable RX6 10) (List.mem_append_left _ (List.mem_append_left _ (List.mem_append_left _ (List.mem_append_left _ (List.mem_append_left _ (List.mem_append_left _ (List.mem_append_left _ (List.mem_append_left _ (List.mem_append_left _ (List.mem_append_left _ (List.mem_of_getElem? (i := 1) rfl))))))))))))
  obtain ⟨c7, i7, hK7⟩ := u_known (C := RX7) (T := TX7) (N := 36) (n := 36) hts inX7 (htl (.instantiable RX7 36) (List.mem_append_left _ (List.mem_append_left _ (List.mem_append_left _ (List.mem_append_left _ (List.mem_append_left _ (List.mem_append_left _ (List.mem_append_left _ (List.mem_append_left _ (List.mem_append_left _ (List.mem_append_left _ (List.mem_of_getElem? (i := 4) rfl))))))))))))
  obtain ⟨D, hKc⟩ : ∃ D : va_G, ∀ (k : Nat) (q : vw_C), vwCl[k]? = some q → u_Kn s q.1 q.2.1 q.2.2 (D.1 k) (D.2 k) := by
    refine ⟨(fun k => if k = 0 then c0 else if k = 1 then c1 else if k = 2 then c2 else if k = 3 then c3 else if k = 4 then c4 else if k = 5 then c5 else if k = 6 then c6 else c7, fun k => if k = 0 then i0 else if k = 1 then i1 else if k = 2 then i2 else if k = 3 then i3 else if k = 4 then i4 else if k = 5 then i5 else if k = 6 then i6 else i7), ?_⟩
    intro k q hq
    match k, hq with
    | 0, hq => cases hq; exact hK0
    | 1, hq => cases hq; exact hK1
    | 2, hq => cases hq; exact hK2
    | 3, hq => cases hq; exact hK3
    | 4, hq => cases hq; exact hK4
    | 5, hq => cases hq; exact hK5
    | 6, hq => cases hq; exact hK6
    | 7, hq => cases hq; exact hK7
    | k + 8, hq => simp [vwCl] at hq
  obtain ⟨cI, kI, mI, fI1, fI2, fI3⟩ := Cond.arrayClass_spec (hts _ zst_9.2.2.2.1)
  obtain ⟨cZ, kZ, mZ, fZ1, fZ2, fZ3⟩ := Cond.arrayClass_spec (hts _ zst_9.2.2.2.2)
  obtain ⟨mB, cB, kB, fB1, fB2, fB3, fB4, fB5⟩ := Cond.arrayOver_spec (hts _ zst_9.2.2.1.1)
  obtain ⟨mS, cS, kS, fS1, fS2, fS3, fS4, fS5⟩ := Cond.arrayOver_spec (hts _ zst_9.2.2.1.2)
  obtain ⟨ak, av, hvS, hvK⟩ := vk_Sof (args := #[Value.ref b]) (s := s) (N := 8) (tm := fun i => .string "TownBand$Tape" (zsI.getD i 0)) (len := zsL) (byt := zsB) (A := lwA s) zst_7 (fun i hi => hs _ (zst_1 i hi)) (fun i hi => hs _ (zst_2 i hi)) (fun i hi => hs _ (zst_3 i hi)) (fun i hi => hs _ (zst_4 i hi)) (fun i hi j hj => hs _ (zst_5 i hi j hj)) (fun i j hi hj hij => (zst_6 i hi j hj hij).imp (hs _) (hs _)) hA0
  have hZ1 : va_Z "java/lang/String" "COMPACT_STRINGS" "Z" (.int 1) (lwA s) s s.heap := va_Zof (hts _ zst_9.1.1) (hts _ zst_9.2.1.1) (va_eqi (hs _ zst_8.1)) hA0
  have hZ2 : va_Zq "jdk/internal/util/Preconditions" "SIOOBE_FORMATTER" "Ljava/util/function/BiFunction;" (lwA s) s s.heap := va_Zqof (hts _ zst_9.1.2) (hts _ zst_9.2.1.2) (hs _ zst_8.2) hA0
  have hNN : zN s := ⟨fun q hq => va_Nw.of rfl (hts _ (zst_f q hq)), fun q hq => va_Nw.of rfl (hts _ (zst_m q hq))⟩
  have hT : ∀ a : Nat → Nat, va_K D vwCl (zT (D, (cI, cZ, cB, cS), a)) s := fun a => ⟨hKc, fun k q hq => by
    match k, hq with
    | 0, hq => cases hq; exact ⟨fun n z => ⟨fun k h => (by cases h), kI, fI2, mI, fI3⟩, fI1⟩
    | 1, hq => cases hq; exact ⟨fun n z => ⟨fun k h => (by cases h), kZ, fZ2, mZ, fZ3⟩, fZ1⟩
    | 2, hq => cases hq; exact ⟨fun n z => ⟨fun k h => (by cases h), kB, fB3, mB, fB4⟩, kB, mB, fB3, fB4, fB1, fB5⟩
    | 3, hq => cases hq; exact ⟨fun n z => ⟨fun k h => (by cases h), kS, fS3, mS, fS4⟩, kS, mS, fS3, fS4, fS1, fS5⟩
    | k + 4, hq => simp [zT] at hq⟩
  have E : ∀ a : Nat → Nat, zVE (D, (cI, cZ, cB, cS), a) (lwA s) s := fun a => ⟨hT a, hNN, va_AO.of (A := #[Value.ref b]) (hts _ zst_9.2.2.1.1), va_AO.of (A := #[Value.ref b]) (hts _ zst_9.2.2.1.2), fun q h => h⟩
  have hl := lv_entry ([.ref b]) (n := 4) (Nat.le_of_ble_eq_true rfl)
  rw [lg_entry_eq]
  generalize (lg_sl ([.ref b]) ++ List.replicate (4 - (lg_sl ([.ref b])).length) Slot.unset).toArray = ls at hl ⊢
  have hl : lv_has ls 4 [(0, .ref b)] := hl
  have V : zV (D, (cI, cZ, cB, cS), fun _ => 0) (lwA s) ([] ++ []) s s.heap [] := ⟨fun k q h => by simp at h, ⟨fun i j p q h => by simp at h, fun k q h => by simp at h⟩, va_S.rf⟩
  refine y_new (ci := 6) (fs := [.null, .null, .null, .null, .null, .null, .null, .null, .null, .int 0]) hx hb V (E _) htl inlX6 tyX6 tyX6_ok hown (htl (.classLink RL 7 RX6) (List.mem_append_left _ (List.mem_append_left _ (List.mem_append_left _ (List.mem_append_left _ (List.mem_append_left _ (List.mem_append_left _ (List.mem_append_left _ (List.mem_append_left _ (List.mem_append_left _ (List.mem_append_left _ (List.mem_of_getElem? (i := 0) rfl)))))))))))) (htl (.instantiable RX6 10) (List.mem_append_left _ (List.mem_append_left _ (List.mem_append_left _ (List.mem_append_left _ (List.mem_append_left _ (List.mem_append_left _ (List.mem_append_left _ (List.mem_append_left _ (List.mem_append_left _ (List.mem_append_left _ (List.mem_of_getElem? (i := 1) rfl)))))))))))) (htl (.initialized RX6) (List.mem_append_left _ (List.mem_append_left _ (List.mem_append_left _ (List.mem_append_left _ (List.mem_append_left _ (List.mem_append_left _ (List.mem_append_left _ (List.mem_append_left _ (List.mem_append_left _ (List.mem_append_left _ (List.mem_of_getElem? (i := 2) rfl)))))))))))) rfl (fun j hj => match j, hj with | 0, _ => rfl | 1, _ => rfl | 2, _ => rfl | 3, _ => rfl | 4, _ => rfl | 5, _ => rfl | 6, _ => rfl | 7, _ => rfl | 8, _ => rfl | 9, _ => rfl | j + 10, hj => absurd hj (by omega)) (by decide) (by decide) dL_law_0 (fun q1 H V => ?_)
  have V : zV (D, (cI, cZ, cB, cS), fun _ => 0) (lwA s) ([] ++ [(q1, .inr (6, [.null, .null, .null, .null, .null, .null, .null, .null, .null, .int 0]))]) s H [] := V
  refine lv_dup hx hb dL_law_3 rfl ?_
  refine y_call (va_runI (As := []) (rest := [.ref q1]) ⟨hx, hb, hml, hown, htl⟩ (zcX6_init l (D, (cI, cZ, cB, cS), fun _ => 0) (lwA s) [] q1) (cwI 0 htl gL_law_X6_init rfl rfl rfl (htl (.initialized RX6) (List.mem_append_left _ (List.mem_append_left _ (List.mem_append_left _ (List.mem_append_left _ (List.mem_append_left _ (List.mem_append_left _ (List.mem_append_left _ (List.mem_append_left _ (List.mem_append_left _ (List.mem_append_left _ (List.mem_of_getElem? (i := 2) rfl)))))))))))) (htl (.methodLink RL 9 yX6_init) (List.mem_append_left _ (List.mem_append_left _ (List.mem_append_left _ (List.mem_append_left _ (List.mem_append_left _ (List.mem_append_left _ (List.mem_append_left _ (List.mem_append_left _ (List.mem_append_left _ (List.mem_append_left _ (List.mem_of_getElem? (i := 6) rfl)))))))))))) (htl (.instanceMethod yX6_init) (List.mem_append_left _ (List.mem_append_left _ (List.mem_append_left _ (List.mem_append_left _ (List.mem_append_left _ (List.mem_append_left _ (List.mem_append_left _ (List.mem_append_left _ (List.mem_append_left _ (List.mem_append_left _ (List.mem_of_getElem? (i := 7) rfl)))))))))))) rfl hdX6_init.2 ⟨by decide, by decide⟩) (y_pre V (E _) rfl) rfl rfl hl.1 rfl (lv_room (Nat.le_of_ble_eq_true rfl)) dL_law_4 ⟨by decide, by decide⟩) V (fun u1 H locs V => ?_)
  refine lv_astore_n (lv' := [(1, .ref q1), (0, .ref b)]) hx hb dL_law_7 rfl hl (by decide) rfl (fun ls hl => ?_)
  have V : zV (D, (cI, cZ, cB, cS), fun _ => 0) (lwA s) (wX6_init (D, (cI, cZ, cB, cS), fun _ => 0) q1 u1 ++ []) s H locs := by rw [List.append_nil]; exact V
  refine y_new (ci := 7) (fs := [.null, .int 0, .int 0, .null, .int 0, .int 0, .int 0, .int 0, .int 0, .int 0, .null, .int 0, .int 0, .int 0, .int 0, .int 0, .int 0, .int 0, .int 0, .null, .null, .int 0, .int 0, .int 0, .int 0, .int 0, .int 0, .null, .int 0, .null, .int 0, .null, .null, .null, .null, .int 0]) hx hb V (E _) htl inlX7 tyX7 tyX7_ok hown (htl (.classLink RL 10 RX7) (List.mem_append_left _ (List.mem_append_left _ (List.mem_append_left _ (List.mem_append_left _ (List.mem_append_left _ (List.mem_append_left _ (List.mem_append_left _ (List.mem_append_left _ (List.mem_append_left _ (List.mem_append_left _ (List.mem_of_getElem? (i := 3) rfl)))))))))))) (htl (.instantiable RX7 36) (List.mem_append_left _ (List.mem_append_left _ (List.mem_append_left _ (List.mem_append_left _ (List.mem_append_left _ (List.mem_append_left _ (List.mem_append_left _ (List.mem_append_left _ (List.mem_append_left _ (List.mem_append_left _ (List.mem_of_getElem? (i := 4) rfl)))))))))))) (htl (.initialized RX7) (List.mem_append_left _ (List.mem_append_left _ (List.mem_append_left _ (List.mem_append_left _ (List.mem_append_left _ (List.mem_append_left _ (List.mem_append_left _ (List.mem_append_left _ (List.mem_append_left _ (List.mem_append_left _ (List.mem_of_getElem? (i := 5) rfl)))))))))))) rfl (fun j hj => match j, hj with | 0, _ => rfl | 1, _ => rfl | 2, _ => rfl | 3, _ => rfl | 4, _ => rfl | 5, _ => rfl | 6, _ => rfl | 7, _ => rfl | 8, _ => rfl | 9, _ => rfl | 10, _ => rfl | 11, _ => rfl | 12, _ => rfl | 13, _ => rfl | 14, _ => rfl | 15, _ => rfl | 16, _ => rfl | 17, _ => rfl | 18, _ => rfl | 19, _ => rfl | 20, _ => rfl | 21, _ => rfl | 22, _ => rfl | 23, _ => rfl | 24, _ => rfl | 25, _ => rfl | 26, _ => rfl | 27, _ => rfl | 28, _ => rfl | 29, _ => rfl | 30, _ => rfl | 31, _ => rfl | 32, _ => rfl | 33, _ => rfl | 34, _ => rfl | 35, _ => rfl | j + 36, hj => absurd hj (by omega)) (by decide) (by decide) dL_law_8 (fun q2 H V => ?_)
  have V : zV (D, (cI, cZ, cB, cS), fun _ => 0) (lwA s) (wX6_init (D, (cI, cZ, cB, cS), fun _ => 0) q1 u1 ++ [(q2, .inr (7, [.null, .int 0, .int 0, .null, .int 0, .int 0, .int 0, .int 0, .int 0, .int 0, .null, .int 0, .int 0, .int 0, .int 0, .int 0, .int 0, .int 0, .int 0, .null, .null, .int 0, .int 0, .int 0, .int 0, .int 0, .int 0, .null, .int 0, .null, .int 0, .null, .null, .null, .null, .int 0]))]) s H locs := V
  refine lv_dup hx hb dL_law_11 rfl ?_
  refine y_call (va_runI (As := []) (rest := [.ref q2]) ⟨hx, hb, hml, hown, htl⟩ (zcX7_init l (D, (cI, cZ, cB, cS), fun _ => 0) (lwA s) (wX6_init (D, (cI, cZ, cB, cS), fun _ => 0) q1 u1) q2) (cwI 0 htl gL_law_X7_init rfl rfl rfl (htl (.initialized RX7) (List.mem_append_left _ (List.mem_append_left _ (List.mem_append_left _ (List.mem_append_left _ (List.mem_append_left _ (List.mem_append_left _ (List.mem_append_left _ (List.mem_append_left _ (List.mem_append_left _ (List.mem_append_left _ (List.mem_of_getElem? (i := 5) rfl)))))))))))) (htl (.methodLink RL 12 yX7_init) (List.mem_append_left _ (List.mem_append_left _ (List.mem_append_left _ (List.mem_append_left _ (List.mem_append_left _ (List.mem_append_left _ (List.mem_append_left _ (List.mem_append_left _ (List.mem_append_left _ (List.mem_append_right _ (List.mem_append_right _ (List.mem_append_right _ (List.mem_append_left _ (List.mem_of_getElem? (i := 16) rfl))))))))))))))) (htl (.instanceMethod yX7_init) (List.mem_append_left _ (List.mem_append_left _ (List.mem_append_left _ (List.mem_append_left _ (List.mem_append_left _ (List.mem_append_left _ (List.mem_append_left _ (List.mem_append_left _ (List.mem_append_left _ (List.mem_append_right _ (List.mem_append_right _ (List.mem_append_right _ (List.mem_append_left _ (List.mem_of_getElem? (i := 17) rfl))))))))))))))) rfl hdX7_init.2 ⟨by decide, by decide⟩) (y_pre V (E _) rfl) rfl rfl hl.1 rfl (lv_room (Nat.le_of_ble_eq_true rfl)) dL_law_12 ⟨by decide, by decide⟩) V (fun u2 H locs V => ?_)
  refine lv_astore_n (lv' := [(2, .ref q2), (1, .ref q1), (0, .ref b)]) hx hb dL_law_15 rfl hl (by decide) rfl (fun ls hl => ?_)
  refine lv_iconst (v := 0) hx hb dL_law_16 (by decide) ?_
  refine lv_istore_n (lv' := [(3, .int 0), (2, .ref q2), (1, .ref q1), (0, .ref b)]) hx hb dL_law_17 rfl hl (by decide) rfl (fun ls hl => ?_)
  have hP : va_P D vwCl (zw D (cI, cZ, cB, cS) q1 q2 u1 u2 ak av) H := V.1
  have hD : va_D (lwA s) (zw D (cI, cZ, cB, cS) q1 q2 u1 u2 ak av) := V.2.1
  have e1 : ∀ i, i < 8 → (zg D (cI, cZ, cB, cS) q1 q2 u1 u2 ak av).2.2 (100 + i) = ak i := fun i hi => by show zad q1 q2 u1 u2 ak av (100 + i) = ak i; unfold zad; rw [if_neg (by omega), if_pos (by omega), Nat.add_sub_cancel_left]
  have e2 : ∀ i, i < 8 → (zg D (cI, cZ, cB, cS) q1 q2 u1 u2 ak av).2.2 (200 + i) = av i := fun i hi => by show zad q1 q2 u1 u2 ak av (200 + i) = av i; unfold zad; rw [if_neg (by omega), if_neg (by omega), Nat.add_sub_cancel_left]
  have hv2 : vk_S 8 zsL zsB (fun i => (zg D (cI, cZ, cB, cS) q1 q2 u1 u2 ak av).2.2 (100 + i)) (fun i => (zg D (cI, cZ, cB, cS) q1 q2 u1 u2 ak av).2.2 (200 + i)) (lwA s) s s.heap := by
    refine ⟨fun i hi => ?_, fun i j hi hj e => hvS.2 i j hi hj (by rw [← e1 i hi, ← e1 j hj]; exact e)⟩
    dsimp only
    have e1 : zad q1 q2 u1 u2 ak av (100 + i) = ak i := e1 i hi
    have e2 : zad q1 q2 u1 u2 ak av (200 + i) = av i := e2 i hi
    rw [e1, e2]
    exact hvS.1 i hi
  have hEE : zE (zg D (cI, cZ, cB, cS) q1 q2 u1 u2 ak av) (lwA s) s := ⟨hT _, hNN, zw_Ap hD, fun i hi => vk_R.of (A := #[Value.ref b]) (hts _ (zst_s i hi)) (by rw [e1 i hi]; exact hvK i hi), hv2, hZ1, hZ2⟩
  refine W.widen (k := 67) (n := 1495) (by decide) (by decide) ?_
  exact law_loop (g := zg D (cI, cZ, cB, cS) q1 q2 u1 u2 ak av) hL C0 hEE K 65 0 (by decide) (by decide) zσ0 zτ0 hR0 _ _ _ ⟨zw_J hP, V.2.2⟩ (lv_sub hl [3, 2, 1, 0] rfl)

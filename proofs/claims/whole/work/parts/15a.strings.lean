/-! the String constants: length() and charAt() of the eight words, and what they call -/
def zQs (g : zG) (A : Nat → Prop) (τ : zS) (res : Nat × zS) : Array Value → State → Outcome → State → Prop := va_Qr (fun (u : zS) => u = res.2) (fun u a t => a = g.2.2 (100 + res.1) ∧ va_P g.1 vwCl (zJ g u τ) t.heap) A
section ZSTR
variable {p : Program} {l : Launch} {e : Env} {R : Room} {s : State} {m : MethodId} {args : Array Value} {below : List Frame} {meth : Method} {c : Code} {H : Heap} {locs : List Loc} {cells slots : Nat} {Q : State → Prop}
variable {cc : ByteArray} {pc : Nat} {ls : Array Slot} {rest st0 : List Value} {g : zG} {A : Nat → Prop} {σ τ : zS} {a : Array Value}
theorem z_nretX {v : Int32} {ty : FieldType} (hexec : p.tables.exec = Jvm.exec) (hb : c.code = cc) (hr : meth.sig.returnType = some ty) (hlocks : meth.locks = false) (hv : narrow ty (.int v) = .int v) (hh : zW g A σ τ s H locs) (hdg : decode cc pc = .ok (.ireturn, 1)) : W p l e R s m args below meth c H locs cells slots (MQ below (zQi g A τ (v, σ)) args s cells slots A) (F0 m pc ls [.int v]) :=
  W.zret hexec hb hr hv (fun t ht hW => ⟨⟨v, σ, rfl, rfl, by dsimp only; rw [ht]; exact hh.1⟩, hh.2.F ht⟩) hh.2.2.2 hdg hlocks
theorem z_sretX {k : Nat} (hexec : p.tables.exec = Jvm.exec) (hb : c.code = cc) (hr : meth.sig.returnType = some (.object "java/lang/String")) (hlocks : meth.locks = false) (hh : zW g A σ τ s H locs) (hdg : decode cc pc = .ok (.areturn, 1)) : W p l e R s m args below meth c H locs cells slots (MQ below (zQs g A τ (k, σ)) args s cells slots A) (F0 m pc ls [.ref (g.2.2 (100 + k))]) :=
  W.aret hexec hb hr (Or.inl ⟨_, rfl⟩) (Or.inr ⟨_, rfl⟩) (fun t ht hW => ⟨⟨σ, _, rfl, rfl, rfl, by rw [ht]; exact hh.1⟩, hh.2.F ht⟩) hh.2.2.2 hdg hlocks
theorem z_xs {res : Nat × zS} (hr : va_Run p l e R s m args below meth c H locs cells slots 0 0 (F0 m pc ls st0) rest (zQs g A τ res a) A) (hh : zW g A σ τ s H locs) (kk : ∀ (H1 : Heap) (locs1 : List Loc), zW g A res.2 τ s H1 locs1 → W p l e R s m args below meth c H1 locs1 cells slots Q (F0 m (pc + 3) ls (.ref (g.2.2 (100 + res.1)) :: rest))) : W p l e R s m args below meth c H locs cells slots Q (F0 m pc ls st0) :=
  va_callr hr hh.2 (fun _ _ h => h) (fun _ h => h) (fun u ra t H1 locs1 ht _ hw hB _ _ hS => by subst hw; obtain ⟨rfl, hB⟩ := hB; exact kk H1 locs1 ⟨by rw [ht] at hB; exact hB, hS⟩)
theorem z_preK (E : zE g A s) (hh : zW g A σ τ s H locs) {i : Nat} (hi : i < 8) {As : List Value} : PreV s H RJ0 (g.2.2 (100 + i)) (zPc g A σ τ (.ref (g.2.2 (100 + i)) :: As)) As :=
  ⟨zPc_blind _, vk_recv (adK := fun i => g.2.2 (100 + i)) (i := i) E.2.2.2.2.1 hi hh.2, fun U hU hW => ⟨rfl, by rw [hU]; exact hh.1, zE_go E hh.2 hU hW⟩⟩
end ZSTR
def fJ0_length_8abf5 (N : Nat) (b0 : Nat) : Option Int32 := some (Int32.ofNat (zsL.getD b0 0))
def fJ0_charAt_5068e (N : Nat) (b0 : Nat) (x1 : Int32) : Option Int32 := if zin x1 (zsL.getD b0 0) then some ((zsB.getD b0 []).getD x1.toNatClampNeg 0) else none
theorem zs_shr : ∀ i : Nat, i < 8 → Int32.ofNat (zsL.getD i 0) >>> ((0 : Int32) &&& 31) = Int32.ofNat (zsL.getD i 0) := by decide +kernel
theorem zs_char : ∀ i : Nat, i < 8 → ∀ j : Nat, j < 6 → ((((zsB.getD i []).getD j 0) &&& 255).toUInt32 % 65536).toInt32 = (zsB.getD i []).getD j 0 ∧ narrow .char (.int ((zsB.getD i []).getD j 0)) = .int ((zsB.getD i []).getD j 0) := by decide +kernel
theorem zs_len6 : ∀ i : Nat, i < 8 → zsL.getD i 0 ≤ 6 := by decide +kernel
theorem hdJ0_coder_7d493 : yJ0_coder_7d493.cls = RJ0 ∧ yJ0_coder_7d493.cls ≠ "java/lang/invoke/MethodHandle" ∧ yJ0_coder_7d493.cls ≠ "java/lang/invoke/VarHandle" ∧ (parseMethodDescriptor yJ0_coder_7d493.desc).map (fun d => d.parameters.length) = some 0 := by decide +kernel
theorem hdJ0_length_8abf5 : yJ0_length_8abf5.cls = RJ0 ∧ yJ0_length_8abf5.cls ≠ "java/lang/invoke/MethodHandle" ∧ yJ0_length_8abf5.cls ≠ "java/lang/invoke/VarHandle" ∧ (parseMethodDescriptor yJ0_length_8abf5.desc).map (fun d => d.parameters.length) = some 0 := by decide +kernel
theorem hdJ0_isLatin1_aae02 : yJ0_isLatin1_aae02.cls = RJ0 ∧ yJ0_isLatin1_aae02.cls ≠ "java/lang/invoke/MethodHandle" ∧ yJ0_isLatin1_aae02.cls ≠ "java/lang/invoke/VarHandle" ∧ (parseMethodDescriptor yJ0_isLatin1_aae02.desc).map (fun d => d.parameters.length) = some 0 := by decide +kernel
theorem hdJ3_checkIndex_8e157 : yJ3_checkIndex_8e157.cls = RJ3 ∧ yJ3_checkIndex_8e157.cls ≠ "java/lang/invoke/MethodHandle" ∧ yJ3_checkIndex_8e157.cls ≠ "java/lang/invoke/VarHandle" ∧ (parseMethodDescriptor yJ3_checkIndex_8e157.desc).map (fun d => d.parameters.length) = some 3 := by decide +kernel
theorem hdJ0_checkIndex_df160 : yJ0_checkIndex_df160.cls = RJ0 ∧ yJ0_checkIndex_df160.cls ≠ "java/lang/invoke/MethodHandle" ∧ yJ0_checkIndex_df160.cls ≠ "java/lang/invoke/VarHandle" ∧ (parseMethodDescriptor yJ0_checkIndex_df160.desc).map (fun d => d.parameters.length) = some 2 := by decide +kernel
theorem hdJ1_charAt_3b067 : yJ1_charAt_3b067.cls = RJ1 ∧ yJ1_charAt_3b067.cls ≠ "java/lang/invoke/MethodHandle" ∧ yJ1_charAt_3b067.cls ≠ "java/lang/invoke/VarHandle" ∧ (parseMethodDescriptor yJ1_charAt_3b067.desc).map (fun d => d.parameters.length) = some 2 := by decide +kernel
theorem hdJ0_charAt_5068e : yJ0_charAt_5068e.cls = RJ0 ∧ yJ0_charAt_5068e.cls ≠ "java/lang/invoke/MethodHandle" ∧ yJ0_charAt_5068e.cls ≠ "java/lang/invoke/VarHandle" ∧ (parseMethodDescriptor yJ0_charAt_5068e.desc).map (fun d => d.parameters.length) = some 1 := by decide +kernel
set_option maxRecDepth 100000 in
set_option maxHeartbeats 4000000 in
theorem zcJ0_coder (l : Launch) (g : zG) (A : Nat → Prop) (σ τ : zS) (i : Nat) (hi : i < 8) : Met l yJ0_coder_7d493 wsJ0_coder_7d493 (zR 0) (zPc g A σ τ [.ref (g.2.2 (100 + i))]) (zQi g A τ (0, σ)) 0 0 A := by
  refine z_met (cc := cJ0_coder_7d493) (ret := (some .byte)) (own := RJ0) (by decide) rfl rfl _ (Nat.le_of_ble_eq_true rfl) ?_
  intro p e s m below meth c C E ls hl hh
  have hl : lv_has ls 1 [(0, .ref (g.2.2 (100 + i)))] := hl
  obtain ⟨hx, hb, hr, hml, hown, hts, hlocks⟩ := id C
  refine va_gets hx hb E.2.2.2.2.2.1 hh.2 hown (hts (.fieldLink RJ0 38 "java/lang/String" "COMPACT_STRINGS" "Z") (List.mem_cons_of_mem _ (List.mem_of_getElem? (i := 0) rfl))) (fun _ h => h) dJ0_coder_7d493_0 ?_
  refine lv_if_eq (tgt := 13) hx hb dJ0_coder_7d493_3 (by decide) (fun c1 => absurd c1 (by decide)) (fun c1 => ?_)
  refine lv_aload_n hx hb dJ0_coder_7d493_6 rfl (lv_at hl 0 rfl) ?_
  refine vk_getf hx hb (E.2.2.2.2.1.1 i hi).2.1 hh.2 hown (hts (.fieldLink RJ0 15 "java/lang/String" "coder" "B") (List.mem_cons_of_mem _ (List.mem_of_getElem? (i := 1) rfl))) (fun _ h => h) dJ0_coder_7d493_7 ?_
  refine lv_goto (tgt := 14) hx hb dJ0_coder_7d493_10 (by decide) ?_
  exact z_nretX hx hb hr hlocks rfl hh dJ0_coder_7d493_14
set_option maxRecDepth 100000 in
set_option maxHeartbeats 4000000 in
theorem zcJ0_length_8abf5 (l : Launch) (g : zG) (A : Nat → Prop) (σ τ : zS) (N : Nat) (i : Nat) (hi : i < 8) {res : Int32} (hf : fJ0_length_8abf5 N i = some res) : Met l yJ0_length_8abf5 wsJ0_length_8abf5 (zR 1) (zPc g A σ τ [.ref (g.2.2 (100 + i))]) (zQi g A τ (res, σ)) 0 0 A := by
  refine z_met (cc := cJ0_length_8abf5) (ret := (some .int)) (own := RJ0) (by decide) rfl rfl _ (Nat.le_of_ble_eq_true rfl) ?_
  intro p e s m below meth c C E ls hl hh
  have hl : lv_has ls 1 [(0, .ref (g.2.2 (100 + i)))] := hl
  obtain ⟨hx, hb, hr, hml, hown, hts, hlocks⟩ := id C
  unfold fJ0_length_8abf5 at hf
  have hf := Option.some.inj hf
  subst hf
  refine lv_aload_n hx hb dJ0_length_8abf5_0 rfl (lv_at hl 0 rfl) ?_
  refine vk_getf hx hb (E.2.2.2.2.1.1 i hi).2.2.1 hh.2 hown (hts (.fieldLink RJ0 9 "java/lang/String" "value" "[B") (List.mem_cons_of_mem _ (List.mem_of_getElem? (i := 0) rfl))) (fun _ h => h) dJ0_length_8abf5_1 ?_
  refine va_tlen hx hb (E.2.2.2.2.1.1 i hi).2.2.2 hh.2 rfl dJ0_length_8abf5_4 ?_
  refine lv_aload_n hx hb dJ0_length_8abf5_5 rfl (lv_at hl 0 rfl) ?_
  refine z_xi (va_runV (As := []) (rest := [.int (Int32.ofNat (zsL.getD i 0))]) ⟨hx, hb, hml, hown, hts⟩ (zcJ0_coder l g A σ τ i hi) (cwV 0 hts gJ0_length_8abf5_J0_coder_7d493 rfl rfl rfl hdJ0_coder_7d493 ⟨by decide, by decide⟩) (z_preK E hh hi) rfl rfl hl.1 rfl (lv_room (Nat.le_of_ble_eq_true rfl)) dJ0_length_8abf5_6 ⟨Nat.le_refl _, Nat.le_refl _⟩) hh (fun H locs hh => ?_)
  refine lv_ishr hx hb dJ0_length_8abf5_9 ?_
  refine z_topi (zs_shr i hi).symm ?_
  exact z_iretX hx hb hr hlocks hh dJ0_length_8abf5_10
set_option maxRecDepth 100000 in
set_option maxHeartbeats 4000000 in
theorem zcJ0_isLatin1 (l : Launch) (g : zG) (A : Nat → Prop) (σ τ : zS) (i : Nat) (hi : i < 8) : Met l yJ0_isLatin1_aae02 wsJ0_isLatin1_aae02 (zR 0) (zPc g A σ τ [.ref (g.2.2 (100 + i))]) (zQi g A τ (1, σ)) 0 0 A := by
  refine z_met (cc := cJ0_isLatin1_aae02) (ret := (some .boolean)) (own := RJ0) (by decide) rfl rfl _ (Nat.le_of_ble_eq_true rfl) ?_
  intro p e s m below meth c C E ls hl hh
  have hl : lv_has ls 1 [(0, .ref (g.2.2 (100 + i)))] := hl
  obtain ⟨hx, hb, hr, hml, hown, hts, hlocks⟩ := id C
  refine va_gets hx hb E.2.2.2.2.2.1 hh.2 hown (hts (.fieldLink RJ0 38 "java/lang/String" "COMPACT_STRINGS" "Z") (List.mem_cons_of_mem _ (List.mem_of_getElem? (i := 0) rfl))) (fun _ h => h) dJ0_isLatin1_aae02_0 ?_
  refine lv_if_eq (tgt := 17) hx hb dJ0_isLatin1_aae02_3 (by decide) (fun c1 => absurd c1 (by decide)) (fun c1 => ?_)
  refine lv_aload_n hx hb dJ0_isLatin1_aae02_6 rfl (lv_at hl 0 rfl) ?_
  refine vk_getf hx hb (E.2.2.2.2.1.1 i hi).2.1 hh.2 hown (hts (.fieldLink RJ0 15 "java/lang/String" "coder" "B") (List.mem_cons_of_mem _ (List.mem_of_getElem? (i := 1) rfl))) (fun _ h => h) dJ0_isLatin1_aae02_7 ?_
  refine lv_if_ne (tgt := 17) hx hb dJ0_isLatin1_aae02_10 (by decide) (fun c1 => absurd rfl c1) (fun c1 => ?_)
  refine lv_iconst (v := 1) hx hb dJ0_isLatin1_aae02_13 (by decide) ?_
  refine lv_goto (tgt := 18) hx hb dJ0_isLatin1_aae02_14 (by decide) ?_
  exact z_zretX hx hb hr hlocks (Or.inr rfl) hh dJ0_isLatin1_aae02_18
set_option maxRecDepth 100000 in
set_option maxHeartbeats 4000000 in
theorem zcJ3_checkN (l : Launch) (g : zG) (A : Nat → Prop) (σ τ : zS) (x0 x1 : Int32) (h0 : ¬ x0 < 0) (h1 : x0 < x1) : Met l yJ3_checkIndex_8e157 wsJ3_checkIndex_8e157 (zR 0) (zPc g A σ τ [.int x0, .int x1, .null]) (zQi g A τ (x0, σ)) 0 0 A := by
  refine z_met (cc := cJ3_checkIndex_8e157) (ret := (some .int)) (own := RJ3) (by decide) rfl rfl _ (Nat.le_of_ble_eq_true rfl) ?_
  intro p e s m below meth c C E ls hl hh
  have hl : lv_has ls 3 [(0, .int x0), (1, .int x1), (2, .null)] := hl
  obtain ⟨hx, hb, hr, hml, hown, hts, hlocks⟩ := id C
  refine lv_iload_n hx hb dJ3_checkIndex_8e157_0 rfl (lv_at hl 0 rfl) ?_
  refine lv_if_lt (tgt := 9) hx hb dJ3_checkIndex_8e157_1 (by decide) (fun c1 => absurd c1 h0) (fun c1 => ?_)
  refine lv_iload_n hx hb dJ3_checkIndex_8e157_4 rfl (lv_at hl 0 rfl) ?_
  refine lv_iload_n hx hb dJ3_checkIndex_8e157_5 rfl (lv_at hl 1 rfl) ?_
  refine lv_icmp_lt (tgt := 16) hx hb dJ3_checkIndex_8e157_6 (by decide) (fun c2 => ?_) (fun c2 => absurd h1 c2)
  refine lv_iload_n hx hb dJ3_checkIndex_8e157_16 rfl (lv_at hl 0 rfl) ?_
  exact z_iretX hx hb hr hlocks hh dJ3_checkIndex_8e157_17
set_option maxRecDepth 100000 in
set_option maxHeartbeats 4000000 in
theorem zcJ3_checkR (l : Launch) (g : zG) (A : Nat → Prop) (σ τ : zS) (x0 x1 : Int32) (t0 : Nat) (h0 : ¬ x0 < 0) (h1 : x0 < x1) : Met l yJ3_checkIndex_8e157 wsJ3_checkIndex_8e157 (zR 0) (zPc g A σ τ [.int x0, .int x1, .ref t0]) (zQi g A τ (x0, σ)) 0 0 A := by
  refine z_met (cc := cJ3_checkIndex_8e157) (ret := (some .int)) (own := RJ3) (by decide) rfl rfl _ (Nat.le_of_ble_eq_true rfl) ?_
  intro p e s m below meth c C E ls hl hh
  have hl : lv_has ls 3 [(0, .int x0), (1, .int x1), (2, .ref t0)] := hl
  obtain ⟨hx, hb, hr, hml, hown, hts, hlocks⟩ := id C
  refine lv_iload_n hx hb dJ3_checkIndex_8e157_0 rfl (lv_at hl 0 rfl) ?_
  refine lv_if_lt (tgt := 9) hx hb dJ3_checkIndex_8e157_1 (by decide) (fun c1 => absurd c1 h0) (fun c1 => ?_)
  refine lv_iload_n hx hb dJ3_checkIndex_8e157_4 rfl (lv_at hl 0 rfl) ?_
  refine lv_iload_n hx hb dJ3_checkIndex_8e157_5 rfl (lv_at hl 1 rfl) ?_
  refine lv_icmp_lt (tgt := 16) hx hb dJ3_checkIndex_8e157_6 (by decide) (fun c2 => ?_) (fun c2 => absurd h1 c2)
  refine lv_iload_n hx hb dJ3_checkIndex_8e157_16 rfl (lv_at hl 0 rfl) ?_
  exact z_iretX hx hb hr hlocks hh dJ3_checkIndex_8e157_17
set_option maxRecDepth 100000 in
set_option maxHeartbeats 4000000 in
theorem zcJ0_check (l : Launch) (g : zG) (A : Nat → Prop) (σ τ : zS) (x0 x1 : Int32) (h0 : ¬ x0 < 0) (h1 : x0 < x1) : Met l yJ0_checkIndex_df160 wsJ0_checkIndex_df160 (zR 1) (zPc g A σ τ [.int x0, .int x1]) (zQv g A τ σ) 0 0 A := by
  refine z_met (cc := cJ0_checkIndex_df160) (ret := none) (own := RJ0) (by decide) rfl rfl _ (Nat.le_of_ble_eq_true rfl) ?_
  intro p e s m below meth c C E ls hl hh
  have hl : lv_has ls 2 [(0, .int x0), (1, .int x1)] := hl
  obtain ⟨hx, hb, hr, hml, hown, hts, hlocks⟩ := id C
  refine lv_iload_n hx hb dJ0_checkIndex_df160_0 rfl (lv_at hl 0 rfl) ?_
  refine lv_iload_n hx hb dJ0_checkIndex_df160_1 rfl (lv_at hl 1 rfl) ?_
  rcases E.2.2.2.2.2.2 with hZ | ⟨t0, hZ⟩
  · refine va_gets hx hb hZ hh.2 hown (hts (.fieldLink RJ0 1053 "jdk/internal/util/Preconditions" "SIOOBE_FORMATTER" "Ljava/util/function/BiFunction;") (List.mem_cons_of_mem _ (List.mem_of_getElem? (i := 0) rfl))) (fun _ h => h) dJ0_checkIndex_df160_2 ?_
    refine z_xi (va_runS (As := [.int x0, .int x1, .null]) (rest := []) ⟨hx, hb, hml, hown, hts⟩ (zcJ3_checkN l g A σ τ x0 x1 h0 h1) (va_cwS 3 hts gJ0_checkIndex_df160_J3_checkIndex_8e157 rfl rfl rfl hdJ3_checkIndex_8e157.2 ⟨by decide, by decide⟩) (z_preS E hh) rfl rfl hl.1 rfl (lv_room (Nat.le_of_ble_eq_true rfl)) dJ0_checkIndex_df160_5 ⟨Nat.le_refl _, Nat.le_refl _⟩) hh (fun H locs hh => ?_)
    refine lv_pop hx hb dJ0_checkIndex_df160_8 rfl ?_
    exact z_vretX hx hb hr hlocks hh dJ0_checkIndex_df160_9
  · refine va_gets hx hb hZ hh.2 hown (hts (.fieldLink RJ0 1053 "jdk/internal/util/Preconditions" "SIOOBE_FORMATTER" "Ljava/util/function/BiFunction;") (List.mem_cons_of_mem _ (List.mem_of_getElem? (i := 0) rfl))) (fun _ h => h) dJ0_checkIndex_df160_2 ?_
    refine z_xi (va_runS (As := [.int x0, .int x1, .ref t0]) (rest := []) ⟨hx, hb, hml, hown, hts⟩ (zcJ3_checkR l g A σ τ x0 x1 t0 h0 h1) (va_cwS 3 hts gJ0_checkIndex_df160_J3_checkIndex_8e157 rfl rfl rfl hdJ3_checkIndex_8e157.2 ⟨by decide, by decide⟩) (z_preS E hh) rfl rfl hl.1 rfl (lv_room (Nat.le_of_ble_eq_true rfl)) dJ0_checkIndex_df160_5 ⟨Nat.le_refl _, Nat.le_refl _⟩) hh (fun H locs hh => ?_)
    refine lv_pop hx hb dJ0_checkIndex_df160_8 rfl ?_
    exact z_vretX hx hb hr hlocks hh dJ0_checkIndex_df160_9
theorem zs_ix : ∀ i : Nat, i < 8 → ∀ {x1 : Int32}, zin x1 (zsL.getD i 0) → ¬ x1 < 0 ∧ x1 < Int32.ofNat (zsL.getD i 0) := by
  intro i hi x1 h
  have h0 : ¬ x1 < 0 := fun h' => h (Or.inl h')
  refine ⟨h0, ?_⟩
  have h2 := z_inl h
  have hn : (0 : Int) ≤ x1.toInt := by
    have := Int32.not_lt.mp h0
    simpa using Int32.le_iff_toInt_le.mp this
  have hl := zs_len6 i hi
  rw [Int32.lt_iff_toInt_lt]
  have e1 : (Int32.ofNat (zsL.getD i 0)).toInt = (zsL.getD i 0 : Int) := by
    rw [Int32.toInt_ofNat_of_lt (by omega)]
  rw [e1]
  have e2 : x1.toNatClampNeg = x1.toInt.toNat := rfl
  omega
set_option maxRecDepth 100000 in
set_option maxHeartbeats 4000000 in
theorem zcJ1_charAt (l : Launch) (g : zG) (A : Nat → Prop) (σ τ : zS) (i : Nat) (hi : i < 8) (x1 : Int32) (hz : zin x1 (zsL.getD i 0)) : Met l yJ1_charAt_3b067 wsJ1_charAt_3b067 (zR 2) (zPc g A σ τ [.ref (g.2.2 (200 + i)), .int x1]) (zQi g A τ ((zsB.getD i []).getD x1.toNatClampNeg 0, σ)) 0 0 A := by
  refine z_met (cc := cJ1_charAt_3b067) (ret := (some .char)) (own := RJ1) (by decide) rfl rfl _ (Nat.le_of_ble_eq_true rfl) ?_
  intro p e s m below meth c C E ls hl hh
  have hl : lv_has ls 2 [(0, .ref (g.2.2 (200 + i))), (1, .int x1)] := hl
  obtain ⟨hx, hb, hr, hml, hown, hts, hlocks⟩ := id C
  obtain ⟨h0, h1⟩ := zs_ix i hi hz
  have hc := zs_char i hi x1.toNatClampNeg (Nat.lt_of_lt_of_le (z_inl hz) (zs_len6 i hi))
  refine lv_iload_n hx hb dJ1_charAt_3b067_0 rfl (lv_at hl 1 rfl) ?_
  refine lv_aload_n hx hb dJ1_charAt_3b067_1 rfl (lv_at hl 0 rfl) ?_
  refine va_tlen hx hb (E.2.2.2.2.1.1 i hi).2.2.2 hh.2 rfl dJ1_charAt_3b067_2 ?_
  refine z_xv (va_runS (As := [.int x1, .int (Int32.ofNat (zsL.getD i 0))]) (rest := []) ⟨hx, hb, hml, hown, hts⟩ (zcJ0_check l g A σ τ x1 (Int32.ofNat (zsL.getD i 0)) h0 h1) (va_cwS 2 hts gJ1_charAt_3b067_J0_checkIndex_df160 rfl rfl rfl hdJ0_checkIndex_df160.2 ⟨by decide, by decide⟩) (z_preS E hh) rfl rfl hl.1 rfl (lv_room (Nat.le_of_ble_eq_true rfl)) dJ1_charAt_3b067_3 ⟨Nat.le_refl _, Nat.le_refl _⟩) hh (fun H locs hh => ?_)
  refine lv_aload_n hx hb dJ1_charAt_3b067_6 rfl (lv_at hl 0 rfl) ?_
  refine lv_iload_n hx hb dJ1_charAt_3b067_7 rfl (lv_at hl 1 rfl) ?_
  refine va_tb hx hb (E.2.2.2.2.1.1 i hi).2.2.2 hh.2 hz rfl dJ1_charAt_3b067_8 ?_
  refine lv_sipush (v := 255) hx hb dJ1_charAt_3b067_9 (by decide) ?_
  refine lv_iand hx hb dJ1_charAt_3b067_12 ?_
  refine lv_i2c hx hb dJ1_charAt_3b067_13 hc.1 ?_
  exact z_nretX hx hb hr hlocks hc.2 hh dJ1_charAt_3b067_14
set_option maxRecDepth 100000 in
set_option maxHeartbeats 4000000 in
theorem zcJ0_charAt_5068e (l : Launch) (g : zG) (A : Nat → Prop) (σ τ : zS) (N : Nat) (i : Nat) (x1 : Int32) (hi : i < 8) {res : Int32} (hf : fJ0_charAt_5068e N i x1 = some res) : Met l yJ0_charAt_5068e wsJ0_charAt_5068e (zR 3) (zPc g A σ τ [.ref (g.2.2 (100 + i)), .int x1]) (zQi g A τ (res, σ)) 0 0 A := by
  refine z_met (cc := cJ0_charAt_5068e) (ret := (some .char)) (own := RJ0) (by decide) rfl rfl _ (Nat.le_of_ble_eq_true rfl) ?_
  intro p e s m below meth c C E ls hl hh
  have hl : lv_has ls 2 [(0, .ref (g.2.2 (100 + i))), (1, .int x1)] := hl
  obtain ⟨hx, hb, hr, hml, hown, hts, hlocks⟩ := id C
  unfold fJ0_charAt_5068e at hf
  obtain ⟨hz, hf⟩ := z_if hf
  have hf := Option.some.inj hf
  subst hf
  have hc := zs_char i hi x1.toNatClampNeg (Nat.lt_of_lt_of_le (z_inl hz) (zs_len6 i hi))
  refine lv_aload_n hx hb dJ0_charAt_5068e_0 rfl (lv_at hl 0 rfl) ?_
  refine z_xi (va_runV (As := []) (rest := []) ⟨hx, hb, hml, hown, hts⟩ (zcJ0_isLatin1 l g A σ τ i hi) (cwV 0 hts gJ0_charAt_5068e_J0_isLatin1_aae02 rfl rfl rfl hdJ0_isLatin1_aae02 ⟨by decide, by decide⟩) (z_preK E hh hi) rfl rfl hl.1 rfl (lv_room (Nat.le_of_ble_eq_true rfl)) dJ0_charAt_5068e_1 ⟨Nat.le_refl _, Nat.le_refl _⟩) hh (fun H locs hh => ?_)
  refine lv_if_eq (tgt := 16) hx hb dJ0_charAt_5068e_4 (by decide) (fun c1 => absurd (show (1 : Int32) = 0 from c1) (by decide)) (fun c1 => ?_)
  refine lv_aload_n hx hb dJ0_charAt_5068e_7 rfl (lv_at hl 0 rfl) ?_
  refine vk_getf hx hb (E.2.2.2.2.1.1 i hi).2.2.1 hh.2 hown (hts (.fieldLink RJ0 9 "java/lang/String" "value" "[B") (List.mem_cons_of_mem _ (List.mem_append_left _ (List.mem_of_getElem? (i := 0) rfl)))) (fun _ h => h) dJ0_charAt_5068e_8 ?_
  refine lv_iload_n hx hb dJ0_charAt_5068e_11 rfl (lv_at hl 1 rfl) ?_
  refine z_xi (va_runS (As := [.ref (g.2.2 (200 + i)), .int x1]) (rest := []) ⟨hx, hb, hml, hown, hts⟩ (zcJ1_charAt l g A σ τ i hi x1 hz) (va_cwS 2 hts gJ0_charAt_5068e_J1_charAt_3b067 rfl rfl rfl hdJ1_charAt_3b067.2 ⟨by decide, by decide⟩) (z_preS E hh) rfl rfl hl.1 rfl (lv_room (Nat.le_of_ble_eq_true rfl)) dJ0_charAt_5068e_12 ⟨Nat.le_refl _, Nat.le_refl _⟩) hh (fun H locs hh => ?_)
  exact z_nretX hx hb hr hlocks hc.2 hh dJ0_charAt_5068e_15

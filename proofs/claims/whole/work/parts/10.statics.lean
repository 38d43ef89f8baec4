/-! ===== J6_bitCount_0f7a4 ===== -/
theorem hdJ6_bitCount_0f7a4 : yJ6_bitCount_0f7a4.cls = RJ6 ∧ yJ6_bitCount_0f7a4.cls ≠ "java/lang/invoke/MethodHandle" ∧ yJ6_bitCount_0f7a4.cls ≠ "java/lang/invoke/VarHandle" ∧ (parseMethodDescriptor yJ6_bitCount_0f7a4.desc).map (fun d => d.parameters.length) = some 1 := by decide +kernel
def fJ6_bitCount_0f7a4 (N : Nat) (x0 : Int32) : Option (Int32) :=
  zlet (x0 - ((zushr x0 (nI 1)) &&& (nI 1431655765))) fun v1 =>
  zlet ((v1 &&& (nI 858993459)) + ((zushr v1 (nI 2)) &&& (nI 858993459))) fun v2 =>
  zlet ((v2 + (zushr v2 (nI 4))) &&& (nI 252645135)) fun v3 =>
  zlet (v3 + (zushr v3 (nI 8))) fun v4 =>
  zlet (v4 + (zushr v4 (nI 16))) fun v5 =>
  some (v5 &&& (nI 63))
set_option maxRecDepth 100000 in
set_option maxHeartbeats 4000000 in
theorem zcJ6_bitCount_0f7a4 (l : Launch) (g : zG) (A : Nat → Prop) (σ τ : zS) (N : Nat) (x0 : Int32)  {res : Int32} (hf : fJ6_bitCount_0f7a4 N x0 = some res) : Met l yJ6_bitCount_0f7a4 wsJ6_bitCount_0f7a4 (zR 0) (zPc g A σ τ [.int x0]) (zQi g A τ (res, σ)) 0 0 A := by
  refine z_met (cc := cJ6_bitCount_0f7a4) (ret := (some .int)) (own := RJ6) (by decide) rfl rfl _ (Nat.le_of_ble_eq_true rfl) ?_
  intro p e s m below meth c C E ls hl hh
  have hl : lv_has ls 1 [(0, .int x0)] := hl
  obtain ⟨hx, hb, hr, hml, hown, hts, hlocks⟩ := id C
  unfold fJ6_bitCount_0f7a4 at hf
  refine lv_iload_n hx hb dJ6_bitCount_0f7a4_0 rfl (lv_at hl 0 rfl) ?_
  refine lv_iload_n hx hb dJ6_bitCount_0f7a4_1 rfl (lv_at hl 0 rfl) ?_
  refine lv_iconst (v := (nI 1)) hx hb dJ6_bitCount_0f7a4_2 (by decide) ?_
  refine lv_iushr (v := (zushr x0 (nI 1))) hx hb dJ6_bitCount_0f7a4_3 rfl ?_
  refine lv_ldcw (v := (nI 1431655765)) hx hb hown (hts (.constant RJ6 265 (1431655765)) (List.mem_cons_of_mem _ (List.mem_of_getElem? (i := 0) rfl))) dJ6_bitCount_0f7a4_4 ?_
  refine lv_iand hx hb dJ6_bitCount_0f7a4_7 ?_
  refine lv_isub hx hb dJ6_bitCount_0f7a4_8 ?_
  obtain ⟨v1, e_v1, hf⟩ := z_lt hf
  refine z_topi e_v1 ?_
  refine lv_istore_n (lv' := [(0, .int v1)]) hx hb dJ6_bitCount_0f7a4_9 rfl hl (by decide) rfl (fun ls hl => ?_)
  refine lv_iload_n hx hb dJ6_bitCount_0f7a4_10 rfl (lv_at hl 0 rfl) ?_
  refine lv_ldcw (v := (nI 858993459)) hx hb hown (hts (.constant RJ6 266 (858993459)) (List.mem_cons_of_mem _ (List.mem_of_getElem? (i := 1) rfl))) dJ6_bitCount_0f7a4_11 ?_
  refine lv_iand hx hb dJ6_bitCount_0f7a4_14 ?_
  refine lv_iload_n hx hb dJ6_bitCount_0f7a4_15 rfl (lv_at hl 0 rfl) ?_
  refine lv_iconst (v := (nI 2)) hx hb dJ6_bitCount_0f7a4_16 (by decide) ?_
  refine lv_iushr (v := (zushr v1 (nI 2))) hx hb dJ6_bitCount_0f7a4_17 rfl ?_
  refine lv_ldcw (v := (nI 858993459)) hx hb hown (hts (.constant RJ6 266 (858993459)) (List.mem_cons_of_mem _ (List.mem_of_getElem? (i := 1) rfl))) dJ6_bitCount_0f7a4_18 ?_
  refine lv_iand hx hb dJ6_bitCount_0f7a4_21 ?_
  refine lv_iadd hx hb dJ6_bitCount_0f7a4_22 ?_
  obtain ⟨v2, e_v2, hf⟩ := z_lt hf
  refine z_topi e_v2 ?_
  refine lv_istore_n (lv' := [(0, .int v2)]) hx hb dJ6_bitCount_0f7a4_23 rfl hl (by decide) rfl (fun ls hl => ?_)
  refine lv_iload_n hx hb dJ6_bitCount_0f7a4_24 rfl (lv_at hl 0 rfl) ?_
  refine lv_iload_n hx hb dJ6_bitCount_0f7a4_25 rfl (lv_at hl 0 rfl) ?_
  refine lv_iconst (v := (nI 4)) hx hb dJ6_bitCount_0f7a4_26 (by decide) ?_
  refine lv_iushr (v := (zushr v2 (nI 4))) hx hb dJ6_bitCount_0f7a4_27 rfl ?_
  refine lv_iadd hx hb dJ6_bitCount_0f7a4_28 ?_
  refine lv_ldcw (v := (nI 252645135)) hx hb hown (hts (.constant RJ6 267 (252645135)) (List.mem_cons_of_mem _ (List.mem_of_getElem? (i := 2) rfl))) dJ6_bitCount_0f7a4_29 ?_
  refine lv_iand hx hb dJ6_bitCount_0f7a4_32 ?_
  obtain ⟨v3, e_v3, hf⟩ := z_lt hf
  refine z_topi e_v3 ?_
  refine lv_istore_n (lv' := [(0, .int v3)]) hx hb dJ6_bitCount_0f7a4_33 rfl hl (by decide) rfl (fun ls hl => ?_)
  refine lv_iload_n hx hb dJ6_bitCount_0f7a4_34 rfl (lv_at hl 0 rfl) ?_
  refine lv_iload_n hx hb dJ6_bitCount_0f7a4_35 rfl (lv_at hl 0 rfl) ?_
  refine lv_bipush (v := (nI 8)) hx hb dJ6_bitCount_0f7a4_36 (by decide) ?_
  refine lv_iushr (v := (zushr v3 (nI 8))) hx hb dJ6_bitCount_0f7a4_38 rfl ?_
  refine lv_iadd hx hb dJ6_bitCount_0f7a4_39 ?_
  obtain ⟨v4, e_v4, hf⟩ := z_lt hf
  refine z_topi e_v4 ?_
  refine lv_istore_n (lv' := [(0, .int v4)]) hx hb dJ6_bitCount_0f7a4_40 rfl hl (by decide) rfl (fun ls hl => ?_)
  refine lv_iload_n hx hb dJ6_bitCount_0f7a4_41 rfl (lv_at hl 0 rfl) ?_
  refine lv_iload_n hx hb dJ6_bitCount_0f7a4_42 rfl (lv_at hl 0 rfl) ?_
  refine lv_bipush (v := (nI 16)) hx hb dJ6_bitCount_0f7a4_43 (by decide) ?_
  refine lv_iushr (v := (zushr v4 (nI 16))) hx hb dJ6_bitCount_0f7a4_45 rfl ?_
  refine lv_iadd hx hb dJ6_bitCount_0f7a4_46 ?_
  obtain ⟨v5, e_v5, hf⟩ := z_lt hf
  refine z_topi e_v5 ?_
  refine lv_istore_n (lv' := [(0, .int v5)]) hx hb dJ6_bitCount_0f7a4_47 rfl hl (by decide) rfl (fun ls hl => ?_)
  refine lv_iload_n hx hb dJ6_bitCount_0f7a4_48 rfl (lv_at hl 0 rfl) ?_
  refine lv_bipush (v := (nI 63)) hx hb dJ6_bitCount_0f7a4_49 (by decide) ?_
  refine lv_iand hx hb dJ6_bitCount_0f7a4_51 ?_
  have hf := Option.some.inj hf
  subst hf
  exact z_iretX hx hb hr hlocks hh dJ6_bitCount_0f7a4_52
/-! ===== X6_within ===== -/
theorem hdX6_within : yX6_within.cls = RX6 ∧ yX6_within.cls ≠ "java/lang/invoke/MethodHandle" ∧ yX6_within.cls ≠ "java/lang/invoke/VarHandle" ∧ (parseMethodDescriptor yX6_within.desc).map (fun d => d.parameters.length) = some 3 := by decide +kernel
def fX6_within (N : Nat) (x0 : Int32) (x1 : Int32) (x2 : Int32) : Option (Int32) :=
  if x0 < x1 then
    some 0
  else
    if x2 < x0 then
      some 0
    else
      some 1
set_option maxRecDepth 100000 in
set_option maxHeartbeats 4000000 in
theorem zcX6_within (l : Launch) (g : zG) (A : Nat → Prop) (σ τ : zS) (N : Nat) (x0 : Int32) (x1 : Int32) (x2 : Int32)  {res : Int32} (hf : fX6_within N x0 x1 x2 = some res) : Met l yX6_within wsX6_within (zR 0) (zPc g A σ τ [.int x0, .int x1, .int x2]) (zQi g A τ (res, σ)) 0 0 A := by
  refine z_met (cc := cX6_within) (ret := (some .boolean)) (own := RX6) (by decide) rfl rfl _ (Nat.le_of_ble_eq_true rfl) ?_
  intro p e s m below meth c C E ls hl hh
  have hl : lv_has ls 3 [(0, .int x0), (1, .int x1), (2, .int x2)] := hl
  obtain ⟨hx, hb, hr, hml, hown, hts, hlocks⟩ := id C
  unfold fX6_within at hf
  refine lv_iload_n hx hb dX6_within_0 rfl (lv_at hl 0 rfl) ?_
  refine lv_iload_n hx hb dX6_within_1 rfl (lv_at hl 1 rfl) ?_
  refine lv_icmp_lt (tgt := 14) hx hb dX6_within_2 (by decide) (fun c_v1 => ?_) (fun c_v1 => ?_)
  · have hf := z_ip hf c_v1
    refine lv_iconst (v := (nI 0)) hx hb dX6_within_14 (by decide) ?_
    have hf := Option.some.inj hf
    subst hf
    exact z_zretX hx hb hr hlocks (Or.inl rfl) hh dX6_within_15
  · have hf := z_in hf c_v1
    refine lv_iload_n hx hb dX6_within_5 rfl (lv_at hl 0 rfl) ?_
    refine lv_iload_n hx hb dX6_within_6 rfl (lv_at hl 2 rfl) ?_
    refine lv_icmp_gt (tgt := 14) hx hb dX6_within_7 (by decide) (fun c_v2 => ?_) (fun c_v2 => ?_)
    · have hf := z_ip hf c_v2
      refine lv_iconst (v := (nI 0)) hx hb dX6_within_14 (by decide) ?_
      have hf := Option.some.inj hf
      subst hf
      exact z_zretX hx hb hr hlocks (Or.inl rfl) hh dX6_within_15
    · have hf := z_in hf c_v2
      refine lv_iconst (v := (nI 1)) hx hb dX6_within_10 (by decide) ?_
      refine lv_goto (tgt := 15) hx hb dX6_within_11 (by decide) ?_
      have hf := Option.some.inj hf
      subst hf
      exact z_zretX hx hb hr hlocks (Or.inr rfl) hh dX6_within_15
/-! ===== X6_isPlace ===== -/
theorem hdX6_isPlace : yX6_isPlace.cls = RX6 ∧ yX6_isPlace.cls ≠ "java/lang/invoke/MethodHandle" ∧ yX6_isPlace.cls ≠ "java/lang/invoke/VarHandle" ∧ (parseMethodDescriptor yX6_isPlace.desc).map (fun d => d.parameters.length) = some 1 := by decide +kernel
def fX6_isPlace (N : Nat) (x0 : Int32) : Option (Int32) :=
  (fX6_within N x0 (nI 10) (nI 14)).bind fun q1 =>
  if q1 = 0 ∨ q1 = 1 then
  some q1
  else none
set_option maxRecDepth 100000 in
set_option maxHeartbeats 4000000 in
theorem zcX6_isPlace (l : Launch) (g : zG) (A : Nat → Prop) (σ τ : zS) (N : Nat) (x0 : Int32)  {res : Int32} (hf : fX6_isPlace N x0 = some res) : Met l yX6_isPlace wsX6_isPlace (zR 1) (zPc g A σ τ [.int x0]) (zQi g A τ (res, σ)) 0 0 A := by
  refine z_met (cc := cX6_isPlace) (ret := (some .boolean)) (own := RX6) (by decide) rfl rfl _ (Nat.le_of_ble_eq_true rfl) ?_
  intro p e s m below meth c C E ls hl hh
  have hl : lv_has ls 1 [(0, .int x0)] := hl
  obtain ⟨hx, hb, hr, hml, hown, hts, hlocks⟩ := id C
  unfold fX6_isPlace at hf
  refine lv_iload_n hx hb dX6_isPlace_0 rfl (lv_at hl 0 rfl) ?_
  refine lv_bipush (v := (nI 10)) hx hb dX6_isPlace_1 (by decide) ?_
  refine lv_bipush (v := (nI 14)) hx hb dX6_isPlace_3 (by decide) ?_
  obtain ⟨q1, h_q1, hf⟩ := z_bd hf
  refine z_xi (va_runS (As := [.int x0, .int (nI 10), .int (nI 14)]) (rest := []) ⟨hx, hb, hml, hown, hts⟩ (zcX6_within l g A σ τ N x0 (nI 10) (nI 14) h_q1) (va_cwS 3 hts gX6_isPlace_X6_within rfl rfl rfl hdX6_within.2 ⟨by decide, by decide⟩) (z_preS E hh) rfl rfl hl.1 rfl (lv_room (Nat.le_of_ble_eq_true rfl)) dX6_isPlace_5 ⟨Nat.le_refl _, Nat.le_refl _⟩) hh (fun H locs hh => ?_)
  obtain ⟨h_v2, hf⟩ := z_if hf
  have hf := Option.some.inj hf
  subst hf
  exact z_zretX hx hb hr hlocks h_v2 hh dX6_isPlace_8
/-! ===== X6_placeIn ===== -/
theorem hdX6_placeIn : yX6_placeIn.cls = RX6 ∧ yX6_placeIn.cls ≠ "java/lang/invoke/MethodHandle" ∧ yX6_placeIn.cls ≠ "java/lang/invoke/VarHandle" ∧ (parseMethodDescriptor yX6_placeIn.desc).map (fun d => d.parameters.length) = some 3 := by decide +kernel
def PX6_placeIn_2 (p : Program) (l : Launch) (e : Env) (s : State) (m : MethodId) (args : Array Value) (below : List Frame) (meth : Method) (c : Code) (g : zG) (A : Nat → Prop) (σ τ : zS) (res : Int32) (f : Nat → Int32 → Int32 → Int32 → Option (Int32)) : Prop := ∀ (b0 : Nat) (x1 : Int32) (x2 : Int32) (x3 : Int32) (h_b0 : b0 < 39) (H : Heap) (locs : List Loc) (ls : Array Slot), f b0 x1 x2 x3 = some res → zW g A σ τ s H locs → lv_has ls 4 [(0, .ref (g.2.2 b0)), (1, .int x1), (2, .int x2), (3, .int x3)] → W p l e (zR 0) s m args below meth c H locs 0 0 (MQ below (zQi g A τ (res, σ)) args s 0 0 A) (F0 m 2 ls [])
def fX6_placeIn_2 (N : Nat) (σ : zS) : Nat → Nat → Int32 → Int32 → Int32 → Option (Int32)
  | 0, _, _, _, _ => none
  | n + 1, b0, x1, x2, x3 =>
    if x1 ≤ x3 then
      some (-4)
    else
      if zin x3 (zlen b0) then
      zlet (σ.2 b0 x3.toNatClampNeg) fun v3 =>
      if v3 = x2 then
        some x3
      else
        (fX6_placeIn_2 N σ n) b0 x1 x2 (x3 + (nI 1))
      else none
set_option maxRecDepth 100000 in
set_option maxHeartbeats 4000000 in
theorem hX6_placeIn_2 {p : Program} {l : Launch} {e : Env} {s : State} {m : MethodId} {args : Array Value} {below : List Frame} {meth : Method} {c : Code} {g : zG} {A : Nat → Prop} {σ τ : zS} {res : Int32} (C : zCx p s m args meth c cX6_placeIn (some .int) wsX6_placeIn RX6 4) (E : zE g A s) (N : Nat) : ∀ n : Nat, PX6_placeIn_2 p l e s m args below meth c g A σ τ res (fX6_placeIn_2 N σ n) := by
  obtain ⟨hx, hb, hr, hml, hown, hts, hlocks⟩ := id C
  intro n
  induction n with
  | zero =>
    intro b0 x1 x2 x3 h_b0 H locs ls hf
    exact absurd hf (by simp [fX6_placeIn_2])
  | succ n ih =>
    intro b0 x1 x2 x3 h_b0 H locs ls hf hh hl
    rw [fX6_placeIn_2] at hf
    refine lv_iload_n hx hb dX6_placeIn_2 rfl (lv_at hl 3 rfl) ?_
    refine lv_iload_n hx hb dX6_placeIn_3 rfl (lv_at hl 1 rfl) ?_
    refine lv_icmp_ge (tgt := 22) hx hb dX6_placeIn_4 (by decide) (fun c_v1 => ?_) (fun c_v1 => ?_)
    · have hf := z_ip hf c_v1
      refine lv_bipush (v := (-4)) hx hb dX6_placeIn_22 (by decide) ?_
      have hf := Option.some.inj hf
      subst hf
      exact z_iretX hx hb hr hlocks hh dX6_placeIn_24
    · have hf := z_in hf c_v1
      refine lv_aload_n hx hb dX6_placeIn_7 rfl (lv_at hl 0 rfl) ?_
      refine lv_iload_n hx hb dX6_placeIn_8 rfl (lv_at hl 3 rfl) ?_
      obtain ⟨h_v2, hf⟩ := z_if hf
      obtain ⟨v3, e_v3, hf⟩ := z_lt hf
      refine z_iald hx hb E hh h_b0 h_v2 e_v3 dX6_placeIn_9 ?_
      refine lv_iload_n hx hb dX6_placeIn_10 rfl (lv_at hl 2 rfl) ?_
      refine lv_icmp_ne (tgt := 16) hx hb dX6_placeIn_11 (by decide) (fun c_v4 => ?_) (fun c_v4 => ?_)
      · have hf := z_in hf c_v4
        refine lv_iinc (v := (x3 + (nI 1))) (lv' := [(3, .int (x3 + (nI 1))), (0, .ref (g.2.2 b0)), (1, .int x1), (2, .int x2)]) hx hb dX6_placeIn_16 hl (k := 3) rfl rfl (by decide) rfl (fun ls hl => ?_)
        refine lv_goto (tgt := 2) hx hb dX6_placeIn_19 (by decide) ?_
        exact ih b0 x1 x2 (x3 + (nI 1)) h_b0 _ _ _ hf hh (lv_sub hl [1, 2, 3, 0] rfl)
      · have hf := z_ip hf c_v4
        refine lv_iload_n hx hb dX6_placeIn_14 rfl (lv_at hl 3 rfl) ?_
        have hf := Option.some.inj hf
        subst hf
        exact z_iretX hx hb hr hlocks hh dX6_placeIn_15
def fX6_placeIn (N : Nat) (σ : zS) (b0 : Nat) (x1 : Int32) (x2 : Int32) : Option (Int32) :=
  (fX6_placeIn_2 N σ N) b0 x1 x2 (nI 0)
set_option maxRecDepth 100000 in
set_option maxHeartbeats 4000000 in
theorem zcX6_placeIn (l : Launch) (g : zG) (A : Nat → Prop) (σ τ : zS) (N : Nat) (b0 : Nat) (x1 : Int32) (x2 : Int32) (h_b0 : b0 < 39) {res : Int32} (hf : fX6_placeIn N σ b0 x1 x2 = some res) : Met l yX6_placeIn wsX6_placeIn (zR 0) (zPc g A σ τ [.ref (g.2.2 b0), .int x1, .int x2]) (zQi g A τ (res, σ)) 0 0 A := by
  refine z_met (cc := cX6_placeIn) (ret := (some .int)) (own := RX6) (by decide) rfl rfl _ (Nat.le_of_ble_eq_true rfl) ?_
  intro p e s m below meth c C E ls hl hh
  have hl : lv_has ls 4 [(0, .ref (g.2.2 b0)), (1, .int x1), (2, .int x2)] := hl
  obtain ⟨hx, hb, hr, hml, hown, hts, hlocks⟩ := id C
  unfold fX6_placeIn at hf
  refine lv_iconst (v := (nI 0)) hx hb dX6_placeIn_0 (by decide) ?_
  refine lv_istore_n (lv' := [(3, .int (nI 0)), (0, .ref (g.2.2 b0)), (1, .int x1), (2, .int x2)]) hx hb dX6_placeIn_1 rfl hl (by decide) rfl (fun ls hl => ?_)
  exact (hX6_placeIn_2 C E N N) b0 x1 x2 (nI 0) h_b0 _ _ _ hf hh (lv_sub hl [1, 2, 3, 0] rfl)
/-! ===== X6_sumOf ===== -/
theorem hdX6_sumOf : yX6_sumOf.cls = RX6 ∧ yX6_sumOf.cls ≠ "java/lang/invoke/MethodHandle" ∧ yX6_sumOf.cls ≠ "java/lang/invoke/VarHandle" ∧ (parseMethodDescriptor yX6_sumOf.desc).map (fun d => d.parameters.length) = some 2 := by decide +kernel
def PX6_sumOf_4 (p : Program) (l : Launch) (e : Env) (s : State) (m : MethodId) (args : Array Value) (below : List Frame) (meth : Method) (c : Code) (g : zG) (A : Nat → Prop) (σ τ : zS) (res : Int32) (f : Nat → Int32 → Int32 → Int32 → Option (Int32)) : Prop := ∀ (b0 : Nat) (x1 : Int32) (x2 : Int32) (x3 : Int32) (h_b0 : b0 < 39) (H : Heap) (locs : List Loc) (ls : Array Slot), f b0 x1 x2 x3 = some res → zW g A σ τ s H locs → lv_has ls 4 [(0, .ref (g.2.2 b0)), (1, .int x1), (2, .int x2), (3, .int x3)] → W p l e (zR 0) s m args below meth c H locs 0 0 (MQ below (zQi g A τ (res, σ)) args s 0 0 A) (F0 m 4 ls [])
def fX6_sumOf_4 (N : Nat) (σ : zS) : Nat → Nat → Int32 → Int32 → Int32 → Option (Int32)
  | 0, _, _, _, _ => none
  | n + 1, b0, x1, x2, x3 =>
    if x1 ≤ x3 then
      some x2
    else
      if zin x3 (zlen b0) then
      zlet (σ.2 b0 x3.toNatClampNeg) fun v3 =>
      (fX6_sumOf_4 N σ n) b0 x1 (x2 + v3) (x3 + (nI 1))
      else none
set_option maxRecDepth 100000 in
set_option maxHeartbeats 4000000 in
theorem hX6_sumOf_4 {p : Program} {l : Launch} {e : Env} {s : State} {m : MethodId} {args : Array Value} {below : List Frame} {meth : Method} {c : Code} {g : zG} {A : Nat → Prop} {σ τ : zS} {res : Int32} (C : zCx p s m args meth c cX6_sumOf (some .int) wsX6_sumOf RX6 4) (E : zE g A s) (N : Nat) : ∀ n : Nat, PX6_sumOf_4 p l e s m args below meth c g A σ τ res (fX6_sumOf_4 N σ n) := by
  obtain ⟨hx, hb, hr, hml, hown, hts, hlocks⟩ := id C
  intro n
  induction n with
  | zero =>
    intro b0 x1 x2 x3 h_b0 H locs ls hf
    exact absurd hf (by simp [fX6_sumOf_4])
  | succ n ih =>
    intro b0 x1 x2 x3 h_b0 H locs ls hf hh hl
    rw [fX6_sumOf_4] at hf
    refine lv_iload_n hx hb dX6_sumOf_4 rfl (lv_at hl 3 rfl) ?_
    refine lv_iload_n hx hb dX6_sumOf_5 rfl (lv_at hl 1 rfl) ?_
    refine lv_icmp_ge (tgt := 21) hx hb dX6_sumOf_6 (by decide) (fun c_v1 => ?_) (fun c_v1 => ?_)
    · have hf := z_ip hf c_v1
      refine lv_iload_n hx hb dX6_sumOf_21 rfl (lv_at hl 2 rfl) ?_
      have hf := Option.some.inj hf
      subst hf
      exact z_iretX hx hb hr hlocks hh dX6_sumOf_22
    · have hf := z_in hf c_v1
      refine lv_iload_n hx hb dX6_sumOf_9 rfl (lv_at hl 2 rfl) ?_
      refine lv_aload_n hx hb dX6_sumOf_10 rfl (lv_at hl 0 rfl) ?_
      refine lv_iload_n hx hb dX6_sumOf_11 rfl (lv_at hl 3 rfl) ?_
      obtain ⟨h_v2, hf⟩ := z_if hf
      obtain ⟨v3, e_v3, hf⟩ := z_lt hf
      refine z_iald hx hb E hh h_b0 h_v2 e_v3 dX6_sumOf_12 ?_
      refine lv_iadd hx hb dX6_sumOf_13 ?_
      refine lv_istore_n (lv' := [(2, .int (x2 + v3)), (0, .ref (g.2.2 b0)), (1, .int x1), (3, .int x3)]) hx hb dX6_sumOf_14 rfl hl (by decide) rfl (fun ls hl => ?_)
      refine lv_iinc (v := (x3 + (nI 1))) (lv' := [(3, .int (x3 + (nI 1))), (2, .int (x2 + v3)), (0, .ref (g.2.2 b0)), (1, .int x1)]) hx hb dX6_sumOf_15 hl (k := 3) rfl rfl (by decide) rfl (fun ls hl => ?_)
      refine lv_goto (tgt := 4) hx hb dX6_sumOf_18 (by decide) ?_
      exact ih b0 x1 (x2 + v3) (x3 + (nI 1)) h_b0 _ _ _ hf hh (lv_sub hl [2, 3, 1, 0] rfl)
def fX6_sumOf (N : Nat) (σ : zS) (b0 : Nat) (x1 : Int32) : Option (Int32) :=
  (fX6_sumOf_4 N σ N) b0 x1 (nI 0) (nI 0)
set_option maxRecDepth 100000 in
set_option maxHeartbeats 4000000 in
theorem zcX6_sumOf (l : Launch) (g : zG) (A : Nat → Prop) (σ τ : zS) (N : Nat) (b0 : Nat) (x1 : Int32) (h_b0 : b0 < 39) {res : Int32} (hf : fX6_sumOf N σ b0 x1 = some res) : Met l yX6_sumOf wsX6_sumOf (zR 0) (zPc g A σ τ [.ref (g.2.2 b0), .int x1]) (zQi g A τ (res, σ)) 0 0 A := by
  refine z_met (cc := cX6_sumOf) (ret := (some .int)) (own := RX6) (by decide) rfl rfl _ (Nat.le_of_ble_eq_true rfl) ?_
  intro p e s m below meth c C E ls hl hh
  have hl : lv_has ls 4 [(0, .ref (g.2.2 b0)), (1, .int x1)] := hl
  obtain ⟨hx, hb, hr, hml, hown, hts, hlocks⟩ := id C
  unfold fX6_sumOf at hf
  refine lv_iconst (v := (nI 0)) hx hb dX6_sumOf_0 (by decide) ?_
  refine lv_istore_n (lv' := [(2, .int (nI 0)), (0, .ref (g.2.2 b0)), (1, .int x1)]) hx hb dX6_sumOf_1 rfl hl (by decide) rfl (fun ls hl => ?_)
  refine lv_iconst (v := (nI 0)) hx hb dX6_sumOf_2 (by decide) ?_
  refine lv_istore_n (lv' := [(3, .int (nI 0)), (2, .int (nI 0)), (0, .ref (g.2.2 b0)), (1, .int x1)]) hx hb dX6_sumOf_3 rfl hl (by decide) rfl (fun ls hl => ?_)
  exact (hX6_sumOf_4 C E N N) b0 x1 (nI 0) (nI 0) h_b0 _ _ _ hf hh (lv_sub hl [2, 3, 1, 0] rfl)
/-! ===== X6_exchange ===== -/
theorem hdX6_exchange : yX6_exchange.cls = RX6 ∧ yX6_exchange.cls ≠ "java/lang/invoke/MethodHandle" ∧ yX6_exchange.cls ≠ "java/lang/invoke/VarHandle" ∧ (parseMethodDescriptor yX6_exchange.desc).map (fun d => d.parameters.length) = some 3 := by decide +kernel
def fX6_exchange (N : Nat) (σ : zS) (b0 : Nat) (x1 : Int32) (x2 : Int32) : Option (zS) :=
  if zin x1 (zlen b0) then
  zlet (σ.2 b0 x1.toNatClampNeg) fun v2 =>
  if zin x2 (zlen b0) then
  zlet (σ.2 b0 x2.toNatClampNeg) fun v4 =>
  if zin x1 (zlen b0) then
  zlet (zpa σ b0 (upd (σ.2 b0) x1.toNatClampNeg v4)) fun σ6 =>
  if zin x2 (zlen b0) then
  zlet (zpa σ6 b0 (upd (σ6.2 b0) x2.toNatClampNeg v2)) fun σ8 =>
  some σ8
  else none
  else none
  else none
  else none
set_option maxRecDepth 100000 in
set_option maxHeartbeats 4000000 in
theorem zcX6_exchange (l : Launch) (g : zG) (A : Nat → Prop) (σ τ : zS) (N : Nat) (b0 : Nat) (x1 : Int32) (x2 : Int32) (h_b0 : b0 < 39) {res : zS} (hf : fX6_exchange N σ b0 x1 x2 = some res) : Met l yX6_exchange wsX6_exchange (zR 0) (zPc g A σ τ [.ref (g.2.2 b0), .int x1, .int x2]) (zQv g A τ res) 0 0 A := by
  refine z_met (cc := cX6_exchange) (ret := none) (own := RX6) (by decide) rfl rfl _ (Nat.le_of_ble_eq_true rfl) ?_
  intro p e s m below meth c C E ls hl hh
  have hl : lv_has ls 4 [(0, .ref (g.2.2 b0)), (1, .int x1), (2, .int x2)] := hl
  obtain ⟨hx, hb, hr, hml, hown, hts, hlocks⟩ := id C
  unfold fX6_exchange at hf
  refine lv_aload_n hx hb dX6_exchange_0 rfl (lv_at hl 0 rfl) ?_
  refine lv_iload_n hx hb dX6_exchange_1 rfl (lv_at hl 1 rfl) ?_
  obtain ⟨h_v1, hf⟩ := z_if hf
  obtain ⟨v2, e_v2, hf⟩ := z_lt hf
  refine z_iald hx hb E hh h_b0 h_v1 e_v2 dX6_exchange_2 ?_
  refine lv_istore_n (lv' := [(3, .int v2), (0, .ref (g.2.2 b0)), (1, .int x1), (2, .int x2)]) hx hb dX6_exchange_3 rfl hl (by decide) rfl (fun ls hl => ?_)
  refine lv_aload_n hx hb dX6_exchange_4 rfl (lv_at hl 1 rfl) ?_
  refine lv_iload_n hx hb dX6_exchange_5 rfl (lv_at hl 2 rfl) ?_
  refine lv_aload_n hx hb dX6_exchange_6 rfl (lv_at hl 1 rfl) ?_
  refine lv_iload_n hx hb dX6_exchange_7 rfl (lv_at hl 3 rfl) ?_
  obtain ⟨h_v3, hf⟩ := z_if hf
  obtain ⟨v4, e_v4, hf⟩ := z_lt hf
  refine z_iald hx hb E hh h_b0 h_v3 e_v4 dX6_exchange_8 ?_
  obtain ⟨h_v5, hf⟩ := z_if hf
  obtain ⟨σ6, e_σ6, hf⟩ := z_lt hf
  refine z_iast hx hb E hh h_b0 h_v5 e_σ6 dX6_exchange_9 (fun H locs hh => ?_)
  refine lv_aload_n hx hb dX6_exchange_10 rfl (lv_at hl 1 rfl) ?_
  refine lv_iload_n hx hb dX6_exchange_11 rfl (lv_at hl 3 rfl) ?_
  refine lv_iload_n hx hb dX6_exchange_12 rfl (lv_at hl 0 rfl) ?_
  obtain ⟨h_v7, hf⟩ := z_if hf
  obtain ⟨σ8, e_σ8, hf⟩ := z_lt hf
  refine z_iast hx hb E hh h_b0 h_v7 e_σ8 dX6_exchange_13 (fun H locs hh => ?_)
  have hf := Option.some.inj hf
  subst hf
  exact z_vretX hx hb hr hlocks hh dX6_exchange_14
/-! ===== X6_fillByOrder ===== -/
theorem hdX6_fillByOrder : yX6_fillByOrder.cls = RX6 ∧ yX6_fillByOrder.cls ≠ "java/lang/invoke/MethodHandle" ∧ yX6_fillByOrder.cls ≠ "java/lang/invoke/VarHandle" ∧ (parseMethodDescriptor yX6_fillByOrder.desc).map (fun d => d.parameters.length) = some 1 := by decide +kernel
def PX6_fillByOrder_2 (p : Program) (l : Launch) (e : Env) (s : State) (m : MethodId) (args : Array Value) (below : List Frame) (meth : Method) (c : Code) (g : zG) (A : Nat → Prop) (τ : zS) (res : zS) (f : Nat → Int32 → zS → Option (zS)) : Prop := ∀ (b0 : Nat) (x1 : Int32) (h_b0 : b0 < 39) (σ : zS) (H : Heap) (locs : List Loc) (ls : Array Slot), f b0 x1 σ = some res → zW g A σ τ s H locs → lv_has ls 2 [(0, .ref (g.2.2 b0)), (1, .int x1)] → W p l e (zR 0) s m args below meth c H locs 0 0 (MQ below (zQv g A τ res) args s 0 0 A) (F0 m 2 ls [])
def fX6_fillByOrder_2 (N : Nat) : Nat → Nat → Int32 → zS → Option (zS)
  | 0, _, _, _ => none
  | n + 1, b0, x1, σ =>
    if (Int32.ofNat (zlen b0)) ≤ x1 then
      some σ
    else
      if zin x1 (zlen b0) then
      zlet (zpa σ b0 (upd (σ.2 b0) x1.toNatClampNeg x1)) fun σ3 =>
      (fX6_fillByOrder_2 N n) b0 (x1 + (nI 1)) σ3
      else none
set_option maxRecDepth 100000 in
set_option maxHeartbeats 4000000 in
theorem hX6_fillByOrder_2 {p : Program} {l : Launch} {e : Env} {s : State} {m : MethodId} {args : Array Value} {below : List Frame} {meth : Method} {c : Code} {g : zG} {A : Nat → Prop} {τ : zS} {res : zS} (C : zCx p s m args meth c cX6_fillByOrder none wsX6_fillByOrder RX6 2) (E : zE g A s) (N : Nat) : ∀ n : Nat, PX6_fillByOrder_2 p l e s m args below meth c g A τ res (fX6_fillByOrder_2 N n) := by
  obtain ⟨hx, hb, hr, hml, hown, hts, hlocks⟩ := id C
  intro n
  induction n with
  | zero =>
    intro b0 x1 h_b0 σ H locs ls hf
    exact absurd hf (by simp [fX6_fillByOrder_2])
  | succ n ih =>
    intro b0 x1 h_b0 σ H locs ls hf hh hl
    rw [fX6_fillByOrder_2] at hf
    refine lv_iload_n hx hb dX6_fillByOrder_2 rfl (lv_at hl 1 rfl) ?_
    refine lv_aload_n hx hb dX6_fillByOrder_3 rfl (lv_at hl 0 rfl) ?_
    refine z_alen hx hb E hh h_b0 dX6_fillByOrder_4 ?_
    refine lv_icmp_ge (tgt := 18) hx hb dX6_fillByOrder_5 (by decide) (fun c_v1 => ?_) (fun c_v1 => ?_)
    · have hf := z_ip hf c_v1
      have hf := Option.some.inj hf
      subst hf
      exact z_vretX hx hb hr hlocks hh dX6_fillByOrder_18
    · have hf := z_in hf c_v1
      refine lv_aload_n hx hb dX6_fillByOrder_8 rfl (lv_at hl 0 rfl) ?_
      refine lv_iload_n hx hb dX6_fillByOrder_9 rfl (lv_at hl 1 rfl) ?_
      refine lv_iload_n hx hb dX6_fillByOrder_10 rfl (lv_at hl 1 rfl) ?_
      obtain ⟨h_v2, hf⟩ := z_if hf
      obtain ⟨σ3, e_σ3, hf⟩ := z_lt hf
      refine z_iast hx hb E hh h_b0 h_v2 e_σ3 dX6_fillByOrder_11 (fun H locs hh => ?_)
      refine lv_iinc (v := (x1 + (nI 1))) (lv' := [(1, .int (x1 + (nI 1))), (0, .ref (g.2.2 b0))]) hx hb dX6_fillByOrder_12 hl (k := 1) rfl rfl (by decide) rfl (fun ls hl => ?_)
      refine lv_goto (tgt := 2) hx hb dX6_fillByOrder_15 (by decide) ?_
      exact ih b0 (x1 + (nI 1)) h_b0 σ3 _ _ _ hf hh (lv_sub hl [1, 0] rfl)
def fX6_fillByOrder (N : Nat) (σ : zS) (b0 : Nat) : Option (zS) :=
  (fX6_fillByOrder_2 N N) b0 (nI 0) σ
set_option maxRecDepth 100000 in
set_option maxHeartbeats 4000000 in
theorem zcX6_fillByOrder (l : Launch) (g : zG) (A : Nat → Prop) (σ τ : zS) (N : Nat) (b0 : Nat) (h_b0 : b0 < 39) {res : zS} (hf : fX6_fillByOrder N σ b0 = some res) : Met l yX6_fillByOrder wsX6_fillByOrder (zR 0) (zPc g A σ τ [.ref (g.2.2 b0)]) (zQv g A τ res) 0 0 A := by
  refine z_met (cc := cX6_fillByOrder) (ret := none) (own := RX6) (by decide) rfl rfl _ (Nat.le_of_ble_eq_true rfl) ?_
  intro p e s m below meth c C E ls hl hh
  have hl : lv_has ls 2 [(0, .ref (g.2.2 b0))] := hl
  obtain ⟨hx, hb, hr, hml, hown, hts, hlocks⟩ := id C
  unfold fX6_fillByOrder at hf
  refine lv_iconst (v := (nI 0)) hx hb dX6_fillByOrder_0 (by decide) ?_
  refine lv_istore_n (lv' := [(1, .int (nI 0)), (0, .ref (g.2.2 b0))]) hx hb dX6_fillByOrder_1 rfl hl (by decide) rfl (fun ls hl => ?_)
  exact (hX6_fillByOrder_2 C E N N) b0 (nI 0) h_b0 σ _ _ _ hf hh (lv_sub hl [1, 0] rfl)
/-! ===== X6_factorial ===== -/
theorem hdX6_factorial : yX6_factorial.cls = RX6 ∧ yX6_factorial.cls ≠ "java/lang/invoke/MethodHandle" ∧ yX6_factorial.cls ≠ "java/lang/invoke/VarHandle" ∧ (parseMethodDescriptor yX6_factorial.desc).map (fun d => d.parameters.length) = some 1 := by decide +kernel
def PX6_factorial_4 (p : Program) (l : Launch) (e : Env) (s : State) (m : MethodId) (args : Array Value) (below : List Frame) (meth : Method) (c : Code) (g : zG) (A : Nat → Prop) (σ τ : zS) (res : Int32) (f : Int32 → Int32 → Int32 → Option (Int32)) : Prop := ∀ (x0 : Int32) (x1 : Int32) (x2 : Int32) (H : Heap) (locs : List Loc) (ls : Array Slot), f x0 x1 x2 = some res → zW g A σ τ s H locs → lv_has ls 3 [(0, .int x0), (1, .int x1), (2, .int x2)] → W p l e (zR 0) s m args below meth c H locs 0 0 (MQ below (zQi g A τ (res, σ)) args s 0 0 A) (F0 m 4 ls [])
def fX6_factorial_4 (N : Nat) : Nat → Int32 → Int32 → Int32 → Option (Int32)
  | 0, _, _, _ => none
  | n + 1, x0, x1, x2 =>
    if x0 < x2 then
      some x1
    else
      (fX6_factorial_4 N n) x0 (x1 * x2) (x2 + (nI 1))
set_option maxRecDepth 100000 in
set_option maxHeartbeats 4000000 in
theorem hX6_factorial_4 {p : Program} {l : Launch} {e : Env} {s : State} {m : MethodId} {args : Array Value} {below : List Frame} {meth : Method} {c : Code} {g : zG} {A : Nat → Prop} {σ τ : zS} {res : Int32} (C : zCx p s m args meth c cX6_factorial (some .int) wsX6_factorial RX6 3) (E : zE g A s) (N : Nat) : ∀ n : Nat, PX6_factorial_4 p l e s m args below meth c g A σ τ res (fX6_factorial_4 N n) := by
  obtain ⟨hx, hb, hr, hml, hown, hts, hlocks⟩ := id C
  intro n
  induction n with
  | zero =>
    intro x0 x1 x2 H locs ls hf
    exact absurd hf (by simp [fX6_factorial_4])
  | succ n ih =>
    intro x0 x1 x2 H locs ls hf hh hl
    rw [fX6_factorial_4] at hf
    refine lv_iload_n hx hb dX6_factorial_4 rfl (lv_at hl 2 rfl) ?_
    refine lv_iload_n hx hb dX6_factorial_5 rfl (lv_at hl 0 rfl) ?_
    refine lv_icmp_gt (tgt := 19) hx hb dX6_factorial_6 (by decide) (fun c_v1 => ?_) (fun c_v1 => ?_)
    · have hf := z_ip hf c_v1
      refine lv_iload_n hx hb dX6_factorial_19 rfl (lv_at hl 1 rfl) ?_
      have hf := Option.some.inj hf
      subst hf
      exact z_iretX hx hb hr hlocks hh dX6_factorial_20
    · have hf := z_in hf c_v1
      refine lv_iload_n hx hb dX6_factorial_9 rfl (lv_at hl 1 rfl) ?_
      refine lv_iload_n hx hb dX6_factorial_10 rfl (lv_at hl 2 rfl) ?_
      refine lv_imul hx hb dX6_factorial_11 ?_
      refine lv_istore_n (lv' := [(1, .int (x1 * x2)), (0, .int x0), (2, .int x2)]) hx hb dX6_factorial_12 rfl hl (by decide) rfl (fun ls hl => ?_)
      refine lv_iinc (v := (x2 + (nI 1))) (lv' := [(2, .int (x2 + (nI 1))), (1, .int (x1 * x2)), (0, .int x0)]) hx hb dX6_factorial_13 hl (k := 2) rfl rfl (by decide) rfl (fun ls hl => ?_)
      refine lv_goto (tgt := 4) hx hb dX6_factorial_16 (by decide) ?_
      exact ih x0 (x1 * x2) (x2 + (nI 1)) _ _ _ hf hh (lv_sub hl [2, 1, 0] rfl)
def fX6_factorial (N : Nat) (x0 : Int32) : Option (Int32) :=
  (fX6_factorial_4 N N) x0 (nI 1) (nI 2)
set_option maxRecDepth 100000 in
set_option maxHeartbeats 4000000 in
theorem zcX6_factorial (l : Launch) (g : zG) (A : Nat → Prop) (σ τ : zS) (N : Nat) (x0 : Int32)  {res : Int32} (hf : fX6_factorial N x0 = some res) : Met l yX6_factorial wsX6_factorial (zR 0) (zPc g A σ τ [.int x0]) (zQi g A τ (res, σ)) 0 0 A := by
  refine z_met (cc := cX6_factorial) (ret := (some .int)) (own := RX6) (by decide) rfl rfl _ (Nat.le_of_ble_eq_true rfl) ?_
  intro p e s m below meth c C E ls hl hh
  have hl : lv_has ls 3 [(0, .int x0)] := hl
  obtain ⟨hx, hb, hr, hml, hown, hts, hlocks⟩ := id C
  unfold fX6_factorial at hf
  refine lv_iconst (v := (nI 1)) hx hb dX6_factorial_0 (by decide) ?_
  refine lv_istore_n (lv' := [(1, .int (nI 1)), (0, .int x0)]) hx hb dX6_factorial_1 rfl hl (by decide) rfl (fun ls hl => ?_)
  refine lv_iconst (v := (nI 2)) hx hb dX6_factorial_2 (by decide) ?_
  refine lv_istore_n (lv' := [(2, .int (nI 2)), (1, .int (nI 1)), (0, .int x0)]) hx hb dX6_factorial_3 rfl hl (by decide) rfl (fun ls hl => ?_)
  exact (hX6_factorial_4 C E N N) x0 (nI 1) (nI 2) _ _ _ hf hh (lv_sub hl [2, 1, 0] rfl)
/-! ===== X6_power ===== -/
theorem hdX6_power : yX6_power.cls = RX6 ∧ yX6_power.cls ≠ "java/lang/invoke/MethodHandle" ∧ yX6_power.cls ≠ "java/lang/invoke/VarHandle" ∧ (parseMethodDescriptor yX6_power.desc).map (fun d => d.parameters.length) = some 2 := by decide +kernel
def PX6_power_5 (p : Program) (l : Launch) (e : Env) (s : State) (m : MethodId) (args : Array Value) (below : List Frame) (meth : Method) (c : Code) (g : zG) (A : Nat → Prop) (σ τ : zS) (res : Int64) (f : Int32 → Int32 → Int64 → Int32 → Option (Int64)) : Prop := ∀ (x0 : Int32) (x1 : Int32) (x2 : Int64) (x4 : Int32) (H : Heap) (locs : List Loc) (ls : Array Slot), f x0 x1 x2 x4 = some res → zW g A σ τ s H locs → lv_has ls 5 [(0, .int x0), (1, .int x1), (2, .long x2), (4, .int x4)] → W p l e (zR 0) s m args below meth c H locs 0 0 (MQ below (zQl g A τ (res, σ)) args s 0 0 A) (F0 m 5 ls [])
def fX6_power_5 (N : Nat) : Nat → Int32 → Int32 → Int64 → Int32 → Option (Int64)
  | 0, _, _, _, _ => none
  | n + 1, x0, x1, x2, x4 =>
    if x1 ≤ x4 then
      some x2
    else
      zlet (x2 * x0.toInt64) fun v2 =>
      (fX6_power_5 N n) x0 x1 v2 (x4 + (nI 1))
set_option maxRecDepth 100000 in
set_option maxHeartbeats 4000000 in
theorem hX6_power_5 {p : Program} {l : Launch} {e : Env} {s : State} {m : MethodId} {args : Array Value} {below : List Frame} {meth : Method} {c : Code} {g : zG} {A : Nat → Prop} {σ τ : zS} {res : Int64} (C : zCx p s m args meth c cX6_power (some .long) wsX6_power RX6 5) (E : zE g A s) (N : Nat) : ∀ n : Nat, PX6_power_5 p l e s m args below meth c g A σ τ res (fX6_power_5 N n) := by
  obtain ⟨hx, hb, hr, hml, hown, hts, hlocks⟩ := id C
  intro n
  induction n with
  | zero =>
    intro x0 x1 x2 x4 H locs ls hf
    exact absurd hf (by simp [fX6_power_5])
  | succ n ih =>
    intro x0 x1 x2 x4 H locs ls hf hh hl
    rw [fX6_power_5] at hf
    refine lv_iload hx hb dX6_power_5 (lv_at hl 3 rfl) ?_
    refine lv_iload_n hx hb dX6_power_7 rfl (lv_at hl 1 rfl) ?_
    refine lv_icmp_ge (tgt := 22) hx hb dX6_power_8 (by decide) (fun c_v1 => ?_) (fun c_v1 => ?_)
    · have hf := z_ip hf c_v1
      refine lv_lload_n hx hb dX6_power_22 rfl (lv_at hl 2 rfl) ?_
      have hf := Option.some.inj hf
      subst hf
      exact z_lretX hx hb hr hlocks hh dX6_power_23
    · have hf := z_in hf c_v1
      refine lv_lload_n hx hb dX6_power_11 rfl (lv_at hl 2 rfl) ?_
      refine lv_iload_n hx hb dX6_power_12 rfl (lv_at hl 0 rfl) ?_
      refine lv_i2l hx hb dX6_power_13 rfl ?_
      refine lv_lmul hx hb dX6_power_14 ?_
      obtain ⟨v2, e_v2, hf⟩ := z_lt hf
      refine z_topl e_v2 ?_
      refine lv_lstore_n (lv' := [(2, .long v2), (0, .int x0), (1, .int x1), (4, .int x4)]) hx hb dX6_power_15 rfl hl (by decide) rfl (fun ls hl => ?_)
      refine lv_iinc (v := (x4 + (nI 1))) (lv' := [(4, .int (x4 + (nI 1))), (2, .long v2), (0, .int x0), (1, .int x1)]) hx hb dX6_power_16 hl (k := 3) rfl rfl (by decide) rfl (fun ls hl => ?_)
      refine lv_goto (tgt := 5) hx hb dX6_power_19 (by decide) ?_
      exact ih x0 x1 v2 (x4 + (nI 1)) _ _ _ hf hh (lv_sub hl [2, 3, 1, 0] rfl)
def fX6_power (N : Nat) (x0 : Int32) (x1 : Int32) : Option (Int64) :=
  (fX6_power_5 N N) x0 x1 1 (nI 0)
set_option maxRecDepth 100000 in
set_option maxHeartbeats 4000000 in
theorem zcX6_power (l : Launch) (g : zG) (A : Nat → Prop) (σ τ : zS) (N : Nat) (x0 : Int32) (x1 : Int32)  {res : Int64} (hf : fX6_power N x0 x1 = some res) : Met l yX6_power wsX6_power (zR 0) (zPc g A σ τ [.int x0, .int x1]) (zQl g A τ (res, σ)) 0 0 A := by
  refine z_met (cc := cX6_power) (ret := (some .long)) (own := RX6) (by decide) rfl rfl _ (Nat.le_of_ble_eq_true rfl) ?_
  intro p e s m below meth c C E ls hl hh
  have hl : lv_has ls 5 [(0, .int x0), (1, .int x1)] := hl
  obtain ⟨hx, hb, hr, hml, hown, hts, hlocks⟩ := id C
  unfold fX6_power at hf
  refine lv_lconst (v := 1) hx hb dX6_power_0 (by decide) ?_
  refine lv_lstore_n (lv' := [(2, .long 1), (0, .int x0), (1, .int x1)]) hx hb dX6_power_1 rfl hl (by decide) rfl (fun ls hl => ?_)
  refine lv_iconst (v := (nI 0)) hx hb dX6_power_2 (by decide) ?_
  refine lv_istore (lv' := [(4, .int (nI 0)), (2, .long 1), (0, .int x0), (1, .int x1)]) hx hb dX6_power_3 hl (by decide) rfl (fun ls hl => ?_)
  exact (hX6_power_5 C E N N) x0 x1 1 (nI 0) _ _ _ hf hh (lv_sub hl [2, 3, 1, 0] rfl)
/-! ===== X6_partOf ===== -/
theorem hdX6_partOf : yX6_partOf.cls = RX6 ∧ yX6_partOf.cls ≠ "java/lang/invoke/MethodHandle" ∧ yX6_partOf.cls ≠ "java/lang/invoke/VarHandle" ∧ (parseMethodDescriptor yX6_partOf.desc).map (fun d => d.parameters.length) = some 3 := by decide +kernel
def PX6_partOf_44 (p : Program) (l : Launch) (e : Env) (s : State) (m : MethodId) (args : Array Value) (below : List Frame) (meth : Method) (c : Code) (g : zG) (A : Nat → Prop) (σ τ : zS) (res : Int64) (f : Int64 → Int64 → Int32 → Int64 → Option (Int64)) : Prop := ∀ (x0 : Int64) (x2 : Int64) (x4 : Int32) (x5 : Int64) (H : Heap) (locs : List Loc) (ls : Array Slot), f x0 x2 x4 x5 = some res → zW g A σ τ s H locs → lv_has ls 12 [(0, .long x0), (2, .long x2), (4, .int x4), (5, .long x5)] → W p l e (zR 0) s m args below meth c H locs 0 0 (MQ below (zQl g A τ (res, σ)) args s 0 0 A) (F0 m 44 ls [])
def PX6_partOf_9 (p : Program) (l : Launch) (e : Env) (s : State) (m : MethodId) (args : Array Value) (below : List Frame) (meth : Method) (c : Code) (g : zG) (A : Nat → Prop) (σ τ : zS) (res : Int64) (f : Int64 → Int64 → Int32 → Int64 → Int64 → Int32 → Option (Int64)) : Prop := ∀ (x0 : Int64) (x2 : Int64) (x4 : Int32) (x5 : Int64) (x7 : Int64) (x9 : Int32) (H : Heap) (locs : List Loc) (ls : Array Slot), f x0 x2 x4 x5 x7 x9 = some res → zW g A σ τ s H locs → lv_has ls 12 [(0, .long x0), (2, .long x2), (4, .int x4), (5, .long x5), (7, .long x7), (9, .int x9)] → W p l e (zR 0) s m args below meth c H locs 0 0 (MQ below (zQl g A τ (res, σ)) args s 0 0 A) (F0 m 9 ls [])
def fX6_partOf_44 (N : Nat) (x0 : Int64) (x2 : Int64) (x4 : Int32) (x5 : Int64) : Option (Int64) :=
  if (lg_cmp x5 0) = 0 then
    if x4 = 0 then
      some x0
    else
      some x2
  else
    if x4 = 0 then
      if ¬ (x5 = 0) then
      zlet (x0 / x5) fun v6 =>
      some v6
      else none
    else
      if ¬ (x5 = 0) then
      zlet (x2 / x5) fun v4 =>
      some v4
      else none
set_option maxRecDepth 100000 in
set_option maxHeartbeats 4000000 in
theorem hX6_partOf_44 {p : Program} {l : Launch} {e : Env} {s : State} {m : MethodId} {args : Array Value} {below : List Frame} {meth : Method} {c : Code} {g : zG} {A : Nat → Prop} {σ τ : zS} {res : Int64} (C : zCx p s m args meth c cX6_partOf (some .long) wsX6_partOf RX6 12) (E : zE g A s) (N : Nat) : PX6_partOf_44 p l e s m args below meth c g A σ τ res (fX6_partOf_44 N) := by
  obtain ⟨hx, hb, hr, hml, hown, hts, hlocks⟩ := id C
  intro x0 x2 x4 x5 H locs ls hf hh hl
  unfold fX6_partOf_44 at hf
  refine lv_lload hx hb dX6_partOf_44 (lv_at hl 3 rfl) ?_
  refine lv_lconst (v := 0) hx hb dX6_partOf_46 (by decide) ?_
  refine W.lcmp hx hb dX6_partOf_47 ?_
  refine lv_if_ne (tgt := 62) hx hb dX6_partOf_48 (by decide) (fun c_v1 => ?_) (fun c_v1 => ?_)
  · have hf := z_in hf c_v1
    refine lv_iload hx hb dX6_partOf_62 (lv_at hl 2 rfl) ?_
    refine lv_if_ne (tgt := 74) hx hb dX6_partOf_64 (by decide) (fun c_v2 => ?_) (fun c_v2 => ?_)
    · have hf := z_in hf c_v2
      refine lv_lload_n hx hb dX6_partOf_74 rfl (lv_at hl 1 rfl) ?_
      refine lv_lload hx hb dX6_partOf_75 (lv_at hl 3 rfl) ?_
      obtain ⟨h_v3, hf⟩ := z_if hf
      obtain ⟨v4, e_v4, hf⟩ := z_lt hf
      refine lv_ldiv hx hb dX6_partOf_77 h_v3 ?_
      refine z_topl e_v4 ?_
      have hf := Option.some.inj hf
      subst hf
      exact z_lretX hx hb hr hlocks hh dX6_partOf_78
    · have hf := z_ip hf c_v2
      refine lv_lload_n hx hb dX6_partOf_67 rfl (lv_at hl 0 rfl) ?_
      refine lv_lload hx hb dX6_partOf_68 (lv_at hl 3 rfl) ?_
      obtain ⟨h_v5, hf⟩ := z_if hf
      obtain ⟨v6, e_v6, hf⟩ := z_lt hf
      refine lv_ldiv hx hb dX6_partOf_70 h_v5 ?_
      refine z_topl e_v6 ?_
      refine lv_goto (tgt := 78) hx hb dX6_partOf_71 (by decide) ?_
      have hf := Option.some.inj hf
      subst hf
      exact z_lretX hx hb hr hlocks hh dX6_partOf_78
  · have hf := z_ip hf c_v1
    refine lv_iload hx hb dX6_partOf_51 (lv_at hl 2 rfl) ?_
    refine lv_if_ne (tgt := 60) hx hb dX6_partOf_53 (by decide) (fun c_v7 => ?_) (fun c_v7 => ?_)
    · have hf := z_in hf c_v7
      refine lv_lload_n hx hb dX6_partOf_60 rfl (lv_at hl 1 rfl) ?_
      have hf := Option.some.inj hf
      subst hf
      exact z_lretX hx hb hr hlocks hh dX6_partOf_61
    · have hf := z_ip hf c_v7
      refine lv_lload_n hx hb dX6_partOf_56 rfl (lv_at hl 0 rfl) ?_
      refine lv_goto (tgt := 61) hx hb dX6_partOf_57 (by decide) ?_
      have hf := Option.some.inj hf
      subst hf
      exact z_lretX hx hb hr hlocks hh dX6_partOf_61
def fX6_partOf_9 (N : Nat) (k_44 : Int64 → Int64 → Int32 → Int64 → Option (Int64)) : Nat → Int64 → Int64 → Int32 → Int64 → Int64 → Int32 → Option (Int64)
  | 0, _, _, _, _, _, _ => none
  | n + 1, x0, x2, x4, x5, x7, x9 =>
    if (nI 100) ≤ x9 then
      k_44 x0 x2 x4 x5
    else
      if (lg_cmp x7 0) = 0 then
        k_44 x0 x2 x4 x5
      else
        if ¬ (x7 = 0) then
        zlet (zlrem x5 x7) fun v4 =>
        (fX6_partOf_9 N k_44 n) x0 x2 x4 x7 v4 (x9 + (nI 1))
        else none
set_option maxRecDepth 100000 in
set_option maxHeartbeats 4000000 in
theorem hX6_partOf_9 {p : Program} {l : Launch} {e : Env} {s : State} {m : MethodId} {args : Array Value} {below : List Frame} {meth : Method} {c : Code} {g : zG} {A : Nat → Prop} {σ τ : zS} {res : Int64} (C : zCx p s m args meth c cX6_partOf (some .long) wsX6_partOf RX6 12) (E : zE g A s) (N : Nat) (k_44 : Int64 → Int64 → Int32 → Int64 → Option (Int64)) (hk_44 : PX6_partOf_44 p l e s m args below meth c g A σ τ res k_44) : ∀ n : Nat, PX6_partOf_9 p l e s m args below meth c g A σ τ res (fX6_partOf_9 N k_44 n) := by
  obtain ⟨hx, hb, hr, hml, hown, hts, hlocks⟩ := id C
  intro n
  induction n with
  | zero =>
    intro x0 x2 x4 x5 x7 x9 H locs ls hf
    exact absurd hf (by simp [fX6_partOf_9])
  | succ n ih =>
    intro x0 x2 x4 x5 x7 x9 H locs ls hf hh hl
    rw [fX6_partOf_9] at hf
    refine lv_iload hx hb dX6_partOf_9 (lv_at hl 5 rfl) ?_
    refine lv_bipush (v := (nI 100)) hx hb dX6_partOf_11 (by decide) ?_
    refine lv_icmp_ge (tgt := 44) hx hb dX6_partOf_13 (by decide) (fun c_v1 => ?_) (fun c_v1 => ?_)
    · have hf := z_ip hf c_v1
      exact hk_44 x0 x2 x4 x5 _ _ _ hf hh (lv_sub hl [0, 1, 2, 3] rfl)
    · have hf := z_in hf c_v1
      refine lv_lload hx hb dX6_partOf_16 (lv_at hl 4 rfl) ?_
      refine lv_lconst (v := 0) hx hb dX6_partOf_18 (by decide) ?_
      refine W.lcmp hx hb dX6_partOf_19 ?_
      refine lv_if_eq (tgt := 44) hx hb dX6_partOf_20 (by decide) (fun c_v2 => ?_) (fun c_v2 => ?_)
      · have hf := z_ip hf c_v2
        exact hk_44 x0 x2 x4 x5 _ _ _ hf hh (lv_sub hl [0, 1, 2, 3] rfl)
      · have hf := z_in hf c_v2
        refine lv_lload hx hb dX6_partOf_23 (lv_at hl 3 rfl) ?_
        refine lv_lload hx hb dX6_partOf_25 (lv_at hl 4 rfl) ?_
        obtain ⟨h_v3, hf⟩ := z_if hf
        obtain ⟨v4, e_v4, hf⟩ := z_lt hf
        refine lv_lrem hx hb dX6_partOf_27 h_v3 ?_
        refine z_topl e_v4 ?_
        refine lv_lstore (lv' := [(10, .long v4), (0, .long x0), (2, .long x2), (4, .int x4), (5, .long x5), (7, .long x7), (9, .int x9)]) hx hb dX6_partOf_28 hl (by decide) rfl (fun ls hl => ?_)
        refine lv_lload hx hb dX6_partOf_30 (lv_at hl 5 rfl) ?_
        refine lv_lstore (lv' := [(5, .long x7), (10, .long v4), (0, .long x0), (2, .long x2), (4, .int x4), (7, .long x7), (9, .int x9)]) hx hb dX6_partOf_32 hl (by decide) rfl (fun ls hl => ?_)
        refine lv_lload hx hb dX6_partOf_34 (lv_at hl 1 rfl) ?_
        refine lv_lstore (lv' := [(7, .long v4), (5, .long x7), (10, .long v4), (0, .long x0), (2, .long x2), (4, .int x4), (9, .int x9)]) hx hb dX6_partOf_36 hl (by decide) rfl (fun ls hl => ?_)
        refine lv_iinc (v := (x9 + (nI 1))) (lv' := [(9, .int (x9 + (nI 1))), (7, .long v4), (5, .long x7), (10, .long v4), (0, .long x0), (2, .long x2), (4, .int x4)]) hx hb dX6_partOf_38 hl (k := 6) rfl rfl (by decide) rfl (fun ls hl => ?_)
        refine lv_goto (tgt := 9) hx hb dX6_partOf_41 (by decide) ?_
        exact ih x0 x2 x4 x7 v4 (x9 + (nI 1)) _ _ _ hf hh (lv_sub hl [4, 5, 6, 2, 1, 0] rfl)
def fX6_partOf (N : Nat) (x0 : Int64) (x2 : Int64) (x4 : Int32) : Option (Int64) :=
  (fX6_partOf_9 N (fX6_partOf_44 N) N) x0 x2 x4 x0 x2 (nI 0)
set_option maxRecDepth 100000 in
set_option maxHeartbeats 4000000 in
theorem zcX6_partOf (l : Launch) (g : zG) (A : Nat → Prop) (σ τ : zS) (N : Nat) (x0 : Int64) (x2 : Int64) (x4 : Int32)  {res : Int64} (hf : fX6_partOf N x0 x2 x4 = some res) : Met l yX6_partOf wsX6_partOf (zR 0) (zPc g A σ τ [.long x0, .long x2, .int x4]) (zQl g A τ (res, σ)) 0 0 A := by
  refine z_met (cc := cX6_partOf) (ret := (some .long)) (own := RX6) (by decide) rfl rfl _ (Nat.le_of_ble_eq_true rfl) ?_
  intro p e s m below meth c C E ls hl hh
  have hl : lv_has ls 12 [(0, .long x0), (2, .long x2), (4, .int x4)] := hl
  obtain ⟨hx, hb, hr, hml, hown, hts, hlocks⟩ := id C
  unfold fX6_partOf at hf
  refine lv_lload_n hx hb dX6_partOf_0 rfl (lv_at hl 0 rfl) ?_
  refine lv_lstore (lv' := [(5, .long x0), (0, .long x0), (2, .long x2), (4, .int x4)]) hx hb dX6_partOf_1 hl (by decide) rfl (fun ls hl => ?_)
  refine lv_lload_n hx hb dX6_partOf_3 rfl (lv_at hl 2 rfl) ?_
  refine lv_lstore (lv' := [(7, .long x2), (5, .long x0), (0, .long x0), (2, .long x2), (4, .int x4)]) hx hb dX6_partOf_4 hl (by decide) rfl (fun ls hl => ?_)
  refine lv_iconst (v := (nI 0)) hx hb dX6_partOf_6 (by decide) ?_
  refine lv_istore (lv' := [(9, .int (nI 0)), (7, .long x2), (5, .long x0), (0, .long x0), (2, .long x2), (4, .int x4)]) hx hb dX6_partOf_7 hl (by decide) rfl (fun ls hl => ?_)
  exact (hX6_partOf_9 C E N (fX6_partOf_44 N) (hX6_partOf_44 C E N) N) x0 x2 x4 x0 x2 (nI 0) _ _ _ hf hh (lv_sub hl [3, 4, 5, 2, 1, 0] rfl)
/-! ===== X6_nextSeed ===== -/
theorem hdX6_nextSeed : yX6_nextSeed.cls = RX6 ∧ yX6_nextSeed.cls ≠ "java/lang/invoke/MethodHandle" ∧ yX6_nextSeed.cls ≠ "java/lang/invoke/VarHandle" ∧ (parseMethodDescriptor yX6_nextSeed.desc).map (fun d => d.parameters.length) = some 1 := by decide +kernel
def fX6_nextSeed (N : Nat) (x0 : Int32) : Option (Int32) :=
  some ((x0 * (nI 1103515245)) + (nI 12345))
set_option maxRecDepth 100000 in
set_option maxHeartbeats 4000000 in
theorem zcX6_nextSeed (l : Launch) (g : zG) (A : Nat → Prop) (σ τ : zS) (N : Nat) (x0 : Int32)  {res : Int32} (hf : fX6_nextSeed N x0 = some res) : Met l yX6_nextSeed wsX6_nextSeed (zR 0) (zPc g A σ τ [.int x0]) (zQi g A τ (res, σ)) 0 0 A := by
  refine z_met (cc := cX6_nextSeed) (ret := (some .int)) (own := RX6) (by decide) rfl rfl _ (Nat.le_of_ble_eq_true rfl) ?_
  intro p e s m below meth c C E ls hl hh
  have hl : lv_has ls 1 [(0, .int x0)] := hl
  obtain ⟨hx, hb, hr, hml, hown, hts, hlocks⟩ := id C
  unfold fX6_nextSeed at hf
  refine lv_iload_n hx hb dX6_nextSeed_0 rfl (lv_at hl 0 rfl) ?_
  refine lv_ldcw (v := (nI 1103515245)) hx hb hown (hts (.constant RX6 274 (1103515245)) (List.mem_cons_of_mem _ (List.mem_of_getElem? (i := 0) rfl))) dX6_nextSeed_1 ?_
  refine lv_imul hx hb dX6_nextSeed_4 ?_
  refine lv_sipush (v := (nI 12345)) hx hb dX6_nextSeed_5 (by decide) ?_
  refine lv_iadd hx hb dX6_nextSeed_8 ?_
  have hf := Option.some.inj hf
  subst hf
  exact z_iretX hx hb hr hlocks hh dX6_nextSeed_9
/-! ===== X6_seedBits ===== -/
theorem hdX6_seedBits : yX6_seedBits.cls = RX6 ∧ yX6_seedBits.cls ≠ "java/lang/invoke/MethodHandle" ∧ yX6_seedBits.cls ≠ "java/lang/invoke/VarHandle" ∧ (parseMethodDescriptor yX6_seedBits.desc).map (fun d => d.parameters.length) = some 1 := by decide +kernel
def fX6_seedBits (N : Nat) (x0 : Int32) : Option (Int32) :=
  some ((zushr x0 (nI 16)) &&& (nI 32767))
set_option maxRecDepth 100000 in
set_option maxHeartbeats 4000000 in
theorem zcX6_seedBits (l : Launch) (g : zG) (A : Nat → Prop) (σ τ : zS) (N : Nat) (x0 : Int32)  {res : Int32} (hf : fX6_seedBits N x0 = some res) : Met l yX6_seedBits wsX6_seedBits (zR 0) (zPc g A σ τ [.int x0]) (zQi g A τ (res, σ)) 0 0 A := by
  refine z_met (cc := cX6_seedBits) (ret := (some .int)) (own := RX6) (by decide) rfl rfl _ (Nat.le_of_ble_eq_true rfl) ?_
  intro p e s m below meth c C E ls hl hh
  have hl : lv_has ls 1 [(0, .int x0)] := hl
  obtain ⟨hx, hb, hr, hml, hown, hts, hlocks⟩ := id C
  unfold fX6_seedBits at hf
  refine lv_iload_n hx hb dX6_seedBits_0 rfl (lv_at hl 0 rfl) ?_
  refine lv_bipush (v := (nI 16)) hx hb dX6_seedBits_1 (by decide) ?_
  refine lv_iushr (v := (zushr x0 (nI 16))) hx hb dX6_seedBits_3 rfl ?_
  refine lv_sipush (v := (nI 32767)) hx hb dX6_seedBits_4 (by decide) ?_
  refine lv_iand hx hb dX6_seedBits_7 ?_
  have hf := Option.some.inj hf
  subst hf
  exact z_iretX hx hb hr hlocks hh dX6_seedBits_8

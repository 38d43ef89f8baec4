/-! ===== X7_in ===== -/
theorem hdX7_in : yX7_in.cls = RX7 ∧ yX7_in.cls ≠ "java/lang/invoke/MethodHandle" ∧ yX7_in.cls ≠ "java/lang/invoke/VarHandle" ∧ (parseMethodDescriptor yX7_in.desc).map (fun d => d.parameters.length) = some 3 := by decide +kernel
def fX7_in (N : Nat) (x0 : Int64) (x2 : Int64) (x4 : Int64) : Option (Int32) :=
  if (lg_cmp x0 x2) < 0 then
    some 0
  else
    if 0 < (lg_cmp x0 x4) then
      some 0
    else
      some 1
set_option maxRecDepth 100000 in
set_option maxHeartbeats 4000000 in
theorem zcX7_in (l : Launch) (g : zG) (A : Nat → Prop) (σ τ : zS) (N : Nat) (x0 : Int64) (x2 : Int64) (x4 : Int64)  {res : Int32} (hf : fX7_in N x0 x2 x4 = some res) : Met l yX7_in wsX7_in (zR 0) (zPc g A σ τ [.long x0, .long x2, .long x4]) (zPi g A σ (res, τ)) 0 0 A := by
  refine z_met (cc := cX7_in) (ret := (some .boolean)) (own := RX7) (by decide) rfl rfl _ (Nat.le_of_ble_eq_true rfl) ?_
  intro p e s m below meth c C E ls hl hh
  have hl : lv_has ls 6 [(0, .long x0), (2, .long x2), (4, .long x4)] := hl
  obtain ⟨hx, hb, hr, hml, hown, hts, hlocks⟩ := id C
  unfold fX7_in at hf
  refine lv_lload_n hx hb dX7_in_0 rfl (lv_at hl 0 rfl) ?_
  refine lv_lload_n hx hb dX7_in_1 rfl (lv_at hl 1 rfl) ?_
  refine W.lcmp hx hb dX7_in_2 ?_
  refine lv_if_lt (tgt := 17) hx hb dX7_in_3 (by decide) (fun c_v1 => ?_) (fun c_v1 => ?_)
  · have hf := z_ip hf c_v1
    refine lv_iconst (v := (nI 0)) hx hb dX7_in_17 (by decide) ?_
    have hf := Option.some.inj hf
    subst hf
    exact z_zretM hx hb hr hlocks (Or.inl rfl) hh dX7_in_18
  · have hf := z_in hf c_v1
    refine lv_lload_n hx hb dX7_in_6 rfl (lv_at hl 0 rfl) ?_
    refine lv_lload hx hb dX7_in_7 (lv_at hl 2 rfl) ?_
    refine W.lcmp hx hb dX7_in_9 ?_
    refine lv_if_gt (tgt := 17) hx hb dX7_in_10 (by decide) (fun c_v2 => ?_) (fun c_v2 => ?_)
    · have hf := z_ip hf c_v2
      refine lv_iconst (v := (nI 0)) hx hb dX7_in_17 (by decide) ?_
      have hf := Option.some.inj hf
      subst hf
      exact z_zretM hx hb hr hlocks (Or.inl rfl) hh dX7_in_18
    · have hf := z_in hf c_v2
      refine lv_iconst (v := (nI 1)) hx hb dX7_in_13 (by decide) ?_
      refine lv_goto (tgt := 18) hx hb dX7_in_14 (by decide) ?_
      have hf := Option.some.inj hf
      subst hf
      exact z_zretM hx hb hr hlocks (Or.inr rfl) hh dX7_in_18
/-! ===== X7_feed ===== -/
theorem hdX7_feed : yX7_feed.cls = RX7 ∧ yX7_feed.cls ≠ "java/lang/invoke/MethodHandle" ∧ yX7_feed.cls ≠ "java/lang/invoke/VarHandle" ∧ (parseMethodDescriptor yX7_feed.desc).map (fun d => d.parameters.length) = some 1 := by decide +kernel
def fX7_feed (N : Nat) (τ : zS) (x1 : Int32) : Option (Int32 × zS) :=
  (fX7_in N x1.toInt64 0 127).bind fun q1 =>
  if q1 = 0 then
    some ((-1), τ)
  else
    if (τ.1 66 11) = (nI 160) then
      some ((-3), τ)
    else
      if zin (τ.1 66 11) (zlen 57) then
      zlet (zpa τ 57 (upd (τ.2 57) (τ.1 66 11).toNatClampNeg x1)) fun τ5 =>
      zlet (zpf τ5 66 11 ((τ5.1 66 11) + (nI 1))) fun τ6 =>
      some ((τ6.1 66 11), τ6)
      else none
set_option maxRecDepth 100000 in
set_option maxHeartbeats 4000000 in
theorem zcX7_feed (l : Launch) (g : zG) (A : Nat → Prop) (σ τ : zS) (N : Nat) (x1 : Int32)  {res : Int32 × zS} (hf : fX7_feed N τ x1 = some res) : Met l yX7_feed wsX7_feed (zR 1) (zPc g A σ τ [.ref (g.2.2 66), .int x1]) (zPi g A σ res) 0 0 A := by
  refine z_met (cc := cX7_feed) (ret := (some .int)) (own := RX7) (by decide) rfl rfl _ (Nat.le_of_ble_eq_true rfl) ?_
  intro p e s m below meth c C E ls hl hh
  have hl : lv_has ls 2 [(0, .ref (g.2.2 66)), (1, .int x1)] := hl
  obtain ⟨hx, hb, hr, hml, hown, hts, hlocks⟩ := id C
  unfold fX7_feed at hf
  refine lv_iload_n hx hb dX7_feed_0 rfl (lv_at hl 1 rfl) ?_
  refine lv_i2l hx hb dX7_feed_1 rfl ?_
  refine lv_lconst (v := 0) hx hb dX7_feed_2 (by decide) ?_
  refine lv_ldc2 (v := 127) hx hb hown (hts (.constantLong RX7 44 (127)) (List.mem_cons_of_mem _ (List.mem_append_left _ (List.mem_of_getElem? (i := 0) rfl)))) dX7_feed_3 ?_
  obtain ⟨q1, h_q1, hf⟩ := z_bd hf
  refine z_mi (va_runS (As := [.long x1.toInt64, .long 0, .long 127]) (rest := []) ⟨hx, hb, hml, hown, hts⟩ (zcX7_in l g A σ τ N x1.toInt64 0 127 h_q1) (va_cwS 3 hts gX7_feed_X7_in rfl rfl rfl hdX7_in.2 ⟨by decide, by decide⟩) (z_preS E hh) rfl rfl hl.1 rfl (lv_room (Nat.le_of_ble_eq_true rfl)) dX7_feed_6 ⟨Nat.le_refl _, Nat.le_refl _⟩) hh (fun H locs hh => ?_)
  refine lv_if_ne (tgt := 14) hx hb dX7_feed_9 (by decide) (fun c_v2 => ?_) (fun c_v2 => ?_)
  · have hf := z_in hf c_v2
    refine lv_aload_n hx hb dX7_feed_14 rfl (lv_at hl 0 rfl) ?_
    refine z_get (v := .int (τ.1 66 11)) hx hb hts (fun w h => List.mem_cons_of_mem _ (List.mem_append_right _ (h))) hown E hh (by decide) (zC_obj (q := 66) rfl) rfl 11 (by decide) (hts (.fieldLink RX7 50 "TownBandModel" "taped" "I") (List.mem_cons_of_mem _ (List.mem_append_left _ (List.mem_of_getElem? (i := 1) rfl)))) rfl dX7_feed_15 ?_
    refine lv_sipush (v := (nI 160)) hx hb dX7_feed_18 (by decide) ?_
    refine lv_icmp_ne (tgt := 27) hx hb dX7_feed_21 (by decide) (fun c_v3 => ?_) (fun c_v3 => ?_)
    · have hf := z_in hf c_v3
      refine lv_aload_n hx hb dX7_feed_27 rfl (lv_at hl 0 rfl) ?_
      refine z_get (v := .ref (g.2.2 57)) hx hb hts (fun w h => List.mem_cons_of_mem _ (List.mem_append_right _ (h))) hown E hh (by decide) (zC_obj (q := 66) rfl) rfl 10 (by decide) (hts (.fieldLink RX7 16 "TownBandModel" "tape" "[I") (List.mem_cons_of_mem _ (List.mem_append_left _ (List.mem_of_getElem? (i := 2) rfl)))) rfl dX7_feed_28 ?_
      refine lv_aload_n hx hb dX7_feed_31 rfl (lv_at hl 0 rfl) ?_
      refine z_get (v := .int (τ.1 66 11)) hx hb hts (fun w h => List.mem_cons_of_mem _ (List.mem_append_right _ (h))) hown E hh (by decide) (zC_obj (q := 66) rfl) rfl 11 (by decide) (hts (.fieldLink RX7 50 "TownBandModel" "taped" "I") (List.mem_cons_of_mem _ (List.mem_append_left _ (List.mem_of_getElem? (i := 1) rfl)))) rfl dX7_feed_32 ?_
      refine lv_iload_n hx hb dX7_feed_35 rfl (lv_at hl 1 rfl) ?_
      obtain ⟨h_v4, hf⟩ := z_if hf
      obtain ⟨τ5, e_τ5, hf⟩ := z_lt hf
      refine z_iastM hx hb E hh (by decide) (by decide) h_v4 e_τ5 dX7_feed_36 (fun H locs hh => ?_)
      refine lv_aload_n hx hb dX7_feed_37 rfl (lv_at hl 0 rfl) ?_
      refine lv_dup hx hb dX7_feed_38 rfl ?_
      refine z_get (v := .int (τ5.1 66 11)) hx hb hts (fun w h => List.mem_cons_of_mem _ (List.mem_append_right _ (h))) hown E hh (by decide) (zC_obj (q := 66) rfl) rfl 11 (by decide) (hts (.fieldLink RX7 50 "TownBandModel" "taped" "I") (List.mem_cons_of_mem _ (List.mem_append_left _ (List.mem_of_getElem? (i := 1) rfl)))) rfl dX7_feed_39 ?_
      refine lv_iconst (v := (nI 1)) hx hb dX7_feed_42 (by decide) ?_
      refine lv_iadd hx hb dX7_feed_43 ?_
      obtain ⟨τ6, e_τ6, hf⟩ := z_lt hf
      refine z_putM hx hb hts (fun w h => List.mem_cons_of_mem _ (List.mem_append_right _ (h))) tyX7 tyX7_ok nmX7 hown E hh (by decide) (by decide) (show zD 66 = _ from rfl) rfl 11 (by decide) rfl (hts (.fieldLink RX7 50 "TownBandModel" "taped" "I") (List.mem_cons_of_mem _ (List.mem_append_left _ (List.mem_of_getElem? (i := 1) rfl)))) rfl rfl e_τ6 dX7_feed_44 (fun H locs hh => ?_)
      refine lv_aload_n hx hb dX7_feed_47 rfl (lv_at hl 0 rfl) ?_
      refine z_get (v := .int (τ6.1 66 11)) hx hb hts (fun w h => List.mem_cons_of_mem _ (List.mem_append_right _ (h))) hown E hh (by decide) (zC_obj (q := 66) rfl) rfl 11 (by decide) (hts (.fieldLink RX7 50 "TownBandModel" "taped" "I") (List.mem_cons_of_mem _ (List.mem_append_left _ (List.mem_of_getElem? (i := 1) rfl)))) rfl dX7_feed_48 ?_
      have hf := Option.some.inj hf
      subst hf
      exact z_iretM hx hb hr hlocks hh dX7_feed_51
    · have hf := z_ip hf c_v3
      refine lv_bipush (v := (-3)) hx hb dX7_feed_24 (by decide) ?_
      have hf := Option.some.inj hf
      subst hf
      exact z_iretM hx hb hr hlocks hh dX7_feed_26
  · have hf := z_ip hf c_v2
    refine lv_iconst (v := (-1)) hx hb dX7_feed_12 (by decide) ?_
    have hf := Option.some.inj hf
    subst hf
    exact z_iretM hx hb hr hlocks hh dX7_feed_13
/-! ===== X7_end ===== -/
theorem hdX7_end : yX7_end.cls = RX7 ∧ yX7_end.cls ≠ "java/lang/invoke/MethodHandle" ∧ yX7_end.cls ≠ "java/lang/invoke/VarHandle" ∧ (parseMethodDescriptor yX7_end.desc).map (fun d => d.parameters.length) = some 1 := by decide +kernel
def fX7_end (N : Nat) (τ : zS) (x1 : Int32) : Option (Int32 × zS) :=
  (fX7_in N x1.toInt64 0 (((τ.1 66 11)).toInt64)).bind fun q1 =>
  if q1 = 0 then
    some ((-1), τ)
  else
    zlet (τ.1 66 11) fun v3 =>
    zlet (zpf τ 66 11 x1) fun τ4 =>
    some (v3, τ4)
set_option maxRecDepth 100000 in
set_option maxHeartbeats 4000000 in
theorem zcX7_end (l : Launch) (g : zG) (A : Nat → Prop) (σ τ : zS) (N : Nat) (x1 : Int32)  {res : Int32 × zS} (hf : fX7_end N τ x1 = some res) : Met l yX7_end wsX7_end (zR 1) (zPc g A σ τ [.ref (g.2.2 66), .int x1]) (zPi g A σ res) 0 0 A := by
  refine z_met (cc := cX7_end) (ret := (some .int)) (own := RX7) (by decide) rfl rfl _ (Nat.le_of_ble_eq_true rfl) ?_
  intro p e s m below meth c C E ls hl hh
  have hl : lv_has ls 3 [(0, .ref (g.2.2 66)), (1, .int x1)] := hl
  obtain ⟨hx, hb, hr, hml, hown, hts, hlocks⟩ := id C
  unfold fX7_end at hf
  refine lv_iload_n hx hb dX7_end_0 rfl (lv_at hl 1 rfl) ?_
  refine lv_i2l hx hb dX7_end_1 rfl ?_
  refine lv_lconst (v := 0) hx hb dX7_end_2 (by decide) ?_
  refine lv_aload_n hx hb dX7_end_3 rfl (lv_at hl 0 rfl) ?_
  refine z_get (v := .int (τ.1 66 11)) hx hb hts (fun w h => List.mem_cons_of_mem _ (List.mem_append_right _ (h))) hown E hh (by decide) (zC_obj (q := 66) rfl) rfl 11 (by decide) (hts (.fieldLink RX7 50 "TownBandModel" "taped" "I") (List.mem_cons_of_mem _ (List.mem_append_left _ (List.mem_of_getElem? (i := 0) rfl)))) rfl dX7_end_4 ?_
  refine lv_i2l hx hb dX7_end_7 rfl ?_
  obtain ⟨q1, h_q1, hf⟩ := z_bd hf
  refine z_mi (va_runS (As := [.long x1.toInt64, .long 0, .long (((τ.1 66 11)).toInt64)]) (rest := []) ⟨hx, hb, hml, hown, hts⟩ (zcX7_in l g A σ τ N x1.toInt64 0 (((τ.1 66 11)).toInt64) h_q1) (va_cwS 3 hts gX7_end_X7_in rfl rfl rfl hdX7_in.2 ⟨by decide, by decide⟩) (z_preS E hh) rfl rfl hl.1 rfl (lv_room (Nat.le_of_ble_eq_true rfl)) dX7_end_8 ⟨Nat.le_refl _, Nat.le_refl _⟩) hh (fun H locs hh => ?_)
  refine lv_if_ne (tgt := 16) hx hb dX7_end_11 (by decide) (fun c_v2 => ?_) (fun c_v2 => ?_)
  · have hf := z_in hf c_v2
    refine lv_aload_n hx hb dX7_end_16 rfl (lv_at hl 0 rfl) ?_
    refine z_get (v := .int (τ.1 66 11)) hx hb hts (fun w h => List.mem_cons_of_mem _ (List.mem_append_right _ (h))) hown E hh (by decide) (zC_obj (q := 66) rfl) rfl 11 (by decide) (hts (.fieldLink RX7 50 "TownBandModel" "taped" "I") (List.mem_cons_of_mem _ (List.mem_append_left _ (List.mem_of_getElem? (i := 0) rfl)))) rfl dX7_end_17 ?_
    obtain ⟨v3, e_v3, hf⟩ := z_lt hf
    refine z_topi e_v3 ?_
    refine lv_istore_n (lv' := [(2, .int v3), (0, .ref (g.2.2 66)), (1, .int x1)]) hx hb dX7_end_20 rfl hl (by decide) rfl (fun ls hl => ?_)
    refine lv_aload_n hx hb dX7_end_21 rfl (lv_at hl 1 rfl) ?_
    refine lv_iload_n hx hb dX7_end_22 rfl (lv_at hl 2 rfl) ?_
    obtain ⟨τ4, e_τ4, hf⟩ := z_lt hf
    refine z_putM hx hb hts (fun w h => List.mem_cons_of_mem _ (List.mem_append_right _ (h))) tyX7 tyX7_ok nmX7 hown E hh (by decide) (by decide) (show zD 66 = _ from rfl) rfl 11 (by decide) rfl (hts (.fieldLink RX7 50 "TownBandModel" "taped" "I") (List.mem_cons_of_mem _ (List.mem_append_left _ (List.mem_of_getElem? (i := 0) rfl)))) rfl rfl e_τ4 dX7_end_23 (fun H locs hh => ?_)
    refine lv_iload_n hx hb dX7_end_26 rfl (lv_at hl 0 rfl) ?_
    have hf := Option.some.inj hf
    subst hf
    exact z_iretM hx hb hr hlocks hh dX7_end_27
  · have hf := z_ip hf c_v2
    refine lv_iconst (v := (-1)) hx hb dX7_end_14 (by decide) ?_
    have hf := Option.some.inj hf
    subst hf
    exact z_iretM hx hb hr hlocks hh dX7_end_15
/-! ===== X7_byteAt ===== -/
theorem hdX7_byteAt : yX7_byteAt.cls = RX7 ∧ yX7_byteAt.cls ≠ "java/lang/invoke/MethodHandle" ∧ yX7_byteAt.cls ≠ "java/lang/invoke/VarHandle" ∧ (parseMethodDescriptor yX7_byteAt.desc).map (fun d => d.parameters.length) = some 1 := by decide +kernel
def fX7_byteAt (N : Nat) (τ : zS) (x1 : Int32) : Option (Int32) :=
  if (τ.1 66 11) ≤ x1 then
    some (-4)
  else
    if zin x1 (zlen 57) then
    zlet (τ.2 57 x1.toNatClampNeg) fun v3 =>
    some v3
    else none
set_option maxRecDepth 100000 in
set_option maxHeartbeats 4000000 in
theorem zcX7_byteAt (l : Launch) (g : zG) (A : Nat → Prop) (σ τ : zS) (N : Nat) (x1 : Int32)  {res : Int32} (hf : fX7_byteAt N τ x1 = some res) : Met l yX7_byteAt wsX7_byteAt (zR 0) (zPc g A σ τ [.ref (g.2.2 66), .int x1]) (zPi g A σ (res, τ)) 0 0 A := by
  refine z_met (cc := cX7_byteAt) (ret := (some .int)) (own := RX7) (by decide) rfl rfl _ (Nat.le_of_ble_eq_true rfl) ?_
  intro p e s m below meth c C E ls hl hh
  have hl : lv_has ls 2 [(0, .ref (g.2.2 66)), (1, .int x1)] := hl
  obtain ⟨hx, hb, hr, hml, hown, hts, hlocks⟩ := id C
  unfold fX7_byteAt at hf
  refine lv_iload_n hx hb dX7_byteAt_0 rfl (lv_at hl 1 rfl) ?_
  refine lv_aload_n hx hb dX7_byteAt_1 rfl (lv_at hl 0 rfl) ?_
  refine z_get (v := .int (τ.1 66 11)) hx hb hts (fun w h => List.mem_cons_of_mem _ (List.mem_append_right _ (h))) hown E hh (by decide) (zC_obj (q := 66) rfl) rfl 11 (by decide) (hts (.fieldLink RX7 50 "TownBandModel" "taped" "I") (List.mem_cons_of_mem _ (List.mem_append_left _ (List.mem_of_getElem? (i := 0) rfl)))) rfl dX7_byteAt_2 ?_
  refine lv_icmp_ge (tgt := 17) hx hb dX7_byteAt_5 (by decide) (fun c_v1 => ?_) (fun c_v1 => ?_)
  · have hf := z_ip hf c_v1
    refine lv_bipush (v := (-4)) hx hb dX7_byteAt_17 (by decide) ?_
    have hf := Option.some.inj hf
    subst hf
    exact z_iretM hx hb hr hlocks hh dX7_byteAt_19
  · have hf := z_in hf c_v1
    refine lv_aload_n hx hb dX7_byteAt_8 rfl (lv_at hl 0 rfl) ?_
    refine z_get (v := .ref (g.2.2 57)) hx hb hts (fun w h => List.mem_cons_of_mem _ (List.mem_append_right _ (h))) hown E hh (by decide) (zC_obj (q := 66) rfl) rfl 10 (by decide) (hts (.fieldLink RX7 16 "TownBandModel" "tape" "[I") (List.mem_cons_of_mem _ (List.mem_append_left _ (List.mem_of_getElem? (i := 1) rfl)))) rfl dX7_byteAt_9 ?_
    refine lv_iload_n hx hb dX7_byteAt_12 rfl (lv_at hl 1 rfl) ?_
    obtain ⟨h_v2, hf⟩ := z_if hf
    obtain ⟨v3, e_v3, hf⟩ := z_lt hf
    refine z_ialdM hx hb E hh (by decide) (by decide) h_v2 e_v3 dX7_byteAt_13 ?_
    refine lv_goto (tgt := 19) hx hb dX7_byteAt_14 (by decide) ?_
    have hf := Option.some.inj hf
    subst hf
    exact z_iretM hx hb hr hlocks hh dX7_byteAt_19
/-! ===== X7_fails ===== -/
theorem hdX7_fails : yX7_fails.cls = RX7 ∧ yX7_fails.cls ≠ "java/lang/invoke/MethodHandle" ∧ yX7_fails.cls ≠ "java/lang/invoke/VarHandle" ∧ (parseMethodDescriptor yX7_fails.desc).map (fun d => d.parameters.length) = some 1 := by decide +kernel
def fX7_fails (N : Nat) (τ : zS) (x1 : Int32) : Option (zS) :=
  if (τ.1 66 13) = 0 then
    zlet (zpf τ 66 13 x1) fun τ2 =>
    zlet (zpf τ2 66 14 (τ2.1 66 16)) fun τ3 =>
    some τ3
  else
    some τ
set_option maxRecDepth 100000 in
set_option maxHeartbeats 4000000 in
theorem zcX7_fails (l : Launch) (g : zG) (A : Nat → Prop) (σ τ : zS) (N : Nat) (x1 : Int32)  {res : zS} (hf : fX7_fails N τ x1 = some res) : Met l yX7_fails wsX7_fails (zR 0) (zPc g A σ τ [.ref (g.2.2 66), .int x1]) (zPv g A σ res) 0 0 A := by
  refine z_met (cc := cX7_fails) (ret := none) (own := RX7) (by decide) rfl rfl _ (Nat.le_of_ble_eq_true rfl) ?_
  intro p e s m below meth c C E ls hl hh
  have hl : lv_has ls 2 [(0, .ref (g.2.2 66)), (1, .int x1)] := hl
  obtain ⟨hx, hb, hr, hml, hown, hts, hlocks⟩ := id C
  unfold fX7_fails at hf
  refine lv_aload_n hx hb dX7_fails_0 rfl (lv_at hl 0 rfl) ?_
  refine z_get (v := .int (τ.1 66 13)) hx hb hts (fun w h => List.mem_cons_of_mem _ (List.mem_append_right _ (h))) hown E hh (by decide) (zC_obj (q := 66) rfl) rfl 13 (by decide) (hts (.fieldLink RX7 54 "TownBandModel" "broken" "I") (List.mem_cons_of_mem _ (List.mem_append_left _ (List.mem_of_getElem? (i := 0) rfl)))) rfl dX7_fails_1 ?_
  refine lv_if_ne (tgt := 20) hx hb dX7_fails_4 (by decide) (fun c_v1 => ?_) (fun c_v1 => ?_)
  · have hf := z_in hf c_v1
    have hf := Option.some.inj hf
    subst hf
    exact z_vretM hx hb hr hlocks hh dX7_fails_20
  · have hf := z_ip hf c_v1
    refine lv_aload_n hx hb dX7_fails_7 rfl (lv_at hl 0 rfl) ?_
    refine lv_iload_n hx hb dX7_fails_8 rfl (lv_at hl 1 rfl) ?_
    obtain ⟨τ2, e_τ2, hf⟩ := z_lt hf
    refine z_putM hx hb hts (fun w h => List.mem_cons_of_mem _ (List.mem_append_right _ (h))) tyX7 tyX7_ok nmX7 hown E hh (by decide) (by decide) (show zD 66 = _ from rfl) rfl 13 (by decide) rfl (hts (.fieldLink RX7 54 "TownBandModel" "broken" "I") (List.mem_cons_of_mem _ (List.mem_append_left _ (List.mem_of_getElem? (i := 0) rfl)))) rfl rfl e_τ2 dX7_fails_9 (fun H locs hh => ?_)
    refine lv_aload_n hx hb dX7_fails_12 rfl (lv_at hl 0 rfl) ?_
    refine lv_aload_n hx hb dX7_fails_13 rfl (lv_at hl 0 rfl) ?_
    refine z_get (v := .int (τ2.1 66 16)) hx hb hts (fun w h => List.mem_cons_of_mem _ (List.mem_append_right _ (h))) hown E hh (by decide) (zC_obj (q := 66) rfl) rfl 16 (by decide) (hts (.fieldLink RX7 57 "TownBandModel" "here" "I") (List.mem_cons_of_mem _ (List.mem_append_left _ (List.mem_of_getElem? (i := 1) rfl)))) rfl dX7_fails_14 ?_
    obtain ⟨τ3, e_τ3, hf⟩ := z_lt hf
    refine z_putM hx hb hts (fun w h => List.mem_cons_of_mem _ (List.mem_append_right _ (h))) tyX7 tyX7_ok nmX7 hown E hh (by decide) (by decide) (show zD 66 = _ from rfl) rfl 14 (by decide) rfl (hts (.fieldLink RX7 60 "TownBandModel" "brokenAt" "I") (List.mem_cons_of_mem _ (List.mem_append_left _ (List.mem_of_getElem? (i := 2) rfl)))) rfl rfl e_τ3 dX7_fails_17 (fun H locs hh => ?_)
    have hf := Option.some.inj hf
    subst hf
    exact z_vretM hx hb hr hlocks hh dX7_fails_20
/-! ===== X7_nameHere ===== -/
theorem hdX7_nameHere : yX7_nameHere.cls = RX7 ∧ yX7_nameHere.cls ≠ "java/lang/invoke/MethodHandle" ∧ yX7_nameHere.cls ≠ "java/lang/invoke/VarHandle" ∧ (parseMethodDescriptor yX7_nameHere.desc).map (fun d => d.parameters.length) = some 0 := by decide +kernel
def PX7_nameHere_106 (p : Program) (l : Launch) (e : Env) (s : State) (m : MethodId) (args : Array Value) (below : List Frame) (meth : Method) (c : Code) (g : zG) (A : Nat → Prop) (σ τ : zS) (res : Int32) (f : Int32 → Int32 → Option (Int32)) : Prop := ∀ (x1 : Int32) (x2 : Int32) (H : Heap) (locs : List Loc) (ls : Array Slot), f x1 x2 = some res → zW g A σ τ s H locs → lv_has ls 4 [(0, .ref (g.2.2 66)), (1, .int x1), (2, .int x2)] → W p l e (zR 1) s m args below meth c H locs 0 0 (MQ below (zPi g A σ (res, τ)) args s 0 0 A) (F0 m 106 ls [])
def PX7_nameHere_99 (p : Program) (l : Launch) (e : Env) (s : State) (m : MethodId) (args : Array Value) (below : List Frame) (meth : Method) (c : Code) (g : zG) (A : Nat → Prop) (σ τ : zS) (res : Int32) (f : Int32 → Int32 → Int32 → Option (Int32)) : Prop := ∀ (x1 : Int32) (x3 : Int32) (s0 : Int32) (H : Heap) (locs : List Loc) (ls : Array Slot), f x1 x3 s0 = some res → zW g A σ τ s H locs → lv_has ls 4 [(0, .ref (g.2.2 66)), (1, .int x1), (3, .int x3)] → W p l e (zR 1) s m args below meth c H locs 0 0 (MQ below (zPi g A σ (res, τ)) args s 0 0 A) (F0 m 99 ls [.int s0])
def PX7_nameHere_51 (p : Program) (l : Launch) (e : Env) (s : State) (m : MethodId) (args : Array Value) (below : List Frame) (meth : Method) (c : Code) (g : zG) (A : Nat → Prop) (σ τ : zS) (res : Int32) (f : Int32 → Int32 → Int32 → Option (Int32)) : Prop := ∀ (x1 : Int32) (x2 : Int32) (x3 : Int32) (H : Heap) (locs : List Loc) (ls : Array Slot), f x1 x2 x3 = some res → zW g A σ τ s H locs → lv_has ls 4 [(0, .ref (g.2.2 66)), (1, .int x1), (2, .int x2), (3, .int x3)] → W p l e (zR 1) s m args below meth c H locs 0 0 (MQ below (zPi g A σ (res, τ)) args s 0 0 A) (F0 m 51 ls [])
def PX7_nameHere_48 (p : Program) (l : Launch) (e : Env) (s : State) (m : MethodId) (args : Array Value) (below : List Frame) (meth : Method) (c : Code) (g : zG) (A : Nat → Prop) (σ τ : zS) (res : Int32) (f : Int32 → Int32 → Option (Int32)) : Prop := ∀ (x1 : Int32) (s0 : Int32) (H : Heap) (locs : List Loc) (ls : Array Slot), f x1 s0 = some res → zW g A σ τ s H locs → lv_has ls 4 [(0, .ref (g.2.2 66)), (1, .int x1)] → W p l e (zR 1) s m args below meth c H locs 0 0 (MQ below (zPi g A σ (res, τ)) args s 0 0 A) (F0 m 48 ls [.int s0])
def PX7_nameHere_2 (p : Program) (l : Launch) (e : Env) (s : State) (m : MethodId) (args : Array Value) (below : List Frame) (meth : Method) (c : Code) (g : zG) (A : Nat → Prop) (σ τ : zS) (res : Int32) (f : Int32 → Option (Int32)) : Prop := ∀ (x1 : Int32) (H : Heap) (locs : List Loc) (ls : Array Slot), f x1 = some res → zW g A σ τ s H locs → lv_has ls 4 [(0, .ref (g.2.2 66)), (1, .int x1)] → W p l e (zR 1) s m args below meth c H locs 0 0 (MQ below (zPi g A σ (res, τ)) args s 0 0 A) (F0 m 2 ls [])
def fX7_nameHere_106 (N : Nat) (τ : zS) (rc : Int32 → Option (Int32)) (x1 : Int32) (x2 : Int32) : Option (Int32) :=
  if x2 = 0 then
    rc (x1 + (nI 1))
  else
    some x1
set_option maxRecDepth 100000 in
set_option maxHeartbeats 4000000 in
theorem hX7_nameHere_106 {p : Program} {l : Launch} {e : Env} {s : State} {m : MethodId} {args : Array Value} {below : List Frame} {meth : Method} {c : Code} {g : zG} {A : Nat → Prop} {σ τ : zS} {res : Int32} (C : zCx p s m args meth c cX7_nameHere (some .int) wsX7_nameHere RX7 4) (E : zE g A s) (N : Nat) (rc : Int32 → Option (Int32)) (hrc : PX7_nameHere_2 p l e s m args below meth c g A σ τ res rc) : PX7_nameHere_106 p l e s m args below meth c g A σ τ res (fX7_nameHere_106 N τ rc) := by
  obtain ⟨hx, hb, hr, hml, hown, hts, hlocks⟩ := id C
  intro x1 x2 H locs ls hf hh hl
  unfold fX7_nameHere_106 at hf
  refine lv_iload_n hx hb dX7_nameHere_106 rfl (lv_at hl 2 rfl) ?_
  refine lv_if_eq (tgt := 112) hx hb dX7_nameHere_107 (by decide) (fun c_v1 => ?_) (fun c_v1 => ?_)
  · have hf := z_ip hf c_v1
    refine lv_iinc (v := (x1 + (nI 1))) (lv' := [(1, .int (x1 + (nI 1))), (0, .ref (g.2.2 66)), (2, .int x2)]) hx hb dX7_nameHere_112 hl (k := 1) rfl rfl (by decide) rfl (fun ls hl => ?_)
    refine lv_goto (tgt := 2) hx hb dX7_nameHere_115 (by decide) ?_
    exact hrc (x1 + (nI 1)) _ _ _ hf hh (lv_sub hl [1, 0] rfl)
  · have hf := z_in hf c_v1
    refine lv_iload_n hx hb dX7_nameHere_110 rfl (lv_at hl 1 rfl) ?_
    have hf := Option.some.inj hf
    subst hf
    exact z_iretM hx hb hr hlocks hh dX7_nameHere_111
def fX7_nameHere_99 (N : Nat) (τ : zS) (rc : Int32 → Int32 → Int32 → Option (Int32)) (k_106 : Int32 → Int32 → Option (Int32)) (x1 : Int32) (x3 : Int32) (s0 : Int32) : Option (Int32) :=
  rc x1 s0 (x3 + (nI 1))
set_option maxRecDepth 100000 in
set_option maxHeartbeats 4000000 in
theorem hX7_nameHere_99 {p : Program} {l : Launch} {e : Env} {s : State} {m : MethodId} {args : Array Value} {below : List Frame} {meth : Method} {c : Code} {g : zG} {A : Nat → Prop} {σ τ : zS} {res : Int32} (C : zCx p s m args meth c cX7_nameHere (some .int) wsX7_nameHere RX7 4) (E : zE g A s) (N : Nat) (rc : Int32 → Int32 → Int32 → Option (Int32)) (hrc : PX7_nameHere_51 p l e s m args below meth c g A σ τ res rc) (k_106 : Int32 → Int32 → Option (Int32)) (hk_106 : PX7_nameHere_106 p l e s m args below meth c g A σ τ res k_106) : PX7_nameHere_99 p l e s m args below meth c g A σ τ res (fX7_nameHere_99 N τ rc k_106) := by
  obtain ⟨hx, hb, hr, hml, hown, hts, hlocks⟩ := id C
  intro x1 x3 s0 H locs ls hf hh hl
  unfold fX7_nameHere_99 at hf
  refine lv_istore_n (lv' := [(2, .int s0), (0, .ref (g.2.2 66)), (1, .int x1), (3, .int x3)]) hx hb dX7_nameHere_99 rfl hl (by decide) rfl (fun ls hl => ?_)
  refine lv_iinc (v := (x3 + (nI 1))) (lv' := [(3, .int (x3 + (nI 1))), (2, .int s0), (0, .ref (g.2.2 66)), (1, .int x1)]) hx hb dX7_nameHere_100 hl (k := 3) rfl rfl (by decide) rfl (fun ls hl => ?_)
  refine lv_goto (tgt := 51) hx hb dX7_nameHere_103 (by decide) ?_
  exact hrc x1 s0 (x3 + (nI 1)) _ _ _ hf hh (lv_sub hl [2, 3, 1, 0] rfl)
def fX7_nameHere_51 (N : Nat) (τ : zS) (k_106 : Int32 → Int32 → Option (Int32)) : Nat → Int32 → Int32 → Int32 → Option (Int32)
  | 0, _, _, _ => none
  | n + 1, x1, x2, x3 =>
    if x2 = 0 then
      k_106 x1 x2
    else
      if ((τ.1 66 15) - (τ.1 66 16)) ≤ x3 then
        k_106 x1 x2
      else
        (fX7_byteAt N τ ((τ.1 66 16) + x3)).bind fun q3 =>
        if zin x1 (zlen 58) then
        zlet (τ.2 58 x1.toNatClampNeg) fun v5 =>
        if zin (v5 + x3) (zlen 59) then
        zlet (τ.2 59 (v5 + x3).toNatClampNeg) fun v7 =>
        if q3 = v7 then
          (fX7_nameHere_99 N τ (fX7_nameHere_51 N τ k_106 n) k_106) x1 x3 (nI 1)
        else
          (fX7_nameHere_99 N τ (fX7_nameHere_51 N τ k_106 n) k_106) x1 x3 (nI 0)
        else none
        else none
set_option maxRecDepth 100000 in
set_option maxHeartbeats 4000000 in
theorem hX7_nameHere_51 {p : Program} {l : Launch} {e : Env} {s : State} {m : MethodId} {args : Array Value} {below : List Frame} {meth : Method} {c : Code} {g : zG} {A : Nat → Prop} {σ τ : zS} {res : Int32} (C : zCx p s m args meth c cX7_nameHere (some .int) wsX7_nameHere RX7 4) (E : zE g A s) (N : Nat) (k_106 : Int32 → Int32 → Option (Int32)) (hk_106 : PX7_nameHere_106 p l e s m args below meth c g A σ τ res k_106) : ∀ n : Nat, PX7_nameHere_51 p l e s m args below meth c g A σ τ res (fX7_nameHere_51 N τ k_106 n) := by
  obtain ⟨hx, hb, hr, hml, hown, hts, hlocks⟩ := id C
  intro n
  induction n with
  | zero =>
    intro x1 x2 x3 H locs ls hf
    exact absurd hf (by simp [fX7_nameHere_51])
  | succ n ih =>
    intro x1 x2 x3 H locs ls hf hh hl
    rw [fX7_nameHere_51] at hf
    refine lv_iload_n hx hb dX7_nameHere_51 rfl (lv_at hl 2 rfl) ?_
    refine lv_if_eq (tgt := 106) hx hb dX7_nameHere_52 (by decide) (fun c_v1 => ?_) (fun c_v1 => ?_)
    · have hf := z_ip hf c_v1
      exact hk_106 x1 x2 _ _ _ hf hh (lv_sub hl [0, 1, 2] rfl)
    · have hf := z_in hf c_v1
      refine lv_iload_n hx hb dX7_nameHere_55 rfl (lv_at hl 3 rfl) ?_
      refine lv_aload_n hx hb dX7_nameHere_56 rfl (lv_at hl 0 rfl) ?_
      refine z_get (v := .int (τ.1 66 15)) hx hb hts (fun w h => List.mem_cons_of_mem _ (List.mem_append_right _ (h))) hown E hh (by decide) (zC_obj (q := 66) rfl) rfl 15 (by decide) (hts (.fieldLink RX7 66 "TownBandModel" "spot" "I") (List.mem_cons_of_mem _ (List.mem_append_left _ (List.mem_of_getElem? (i := 1) rfl)))) rfl dX7_nameHere_57 ?_
      refine lv_aload_n hx hb dX7_nameHere_60 rfl (lv_at hl 0 rfl) ?_
      refine z_get (v := .int (τ.1 66 16)) hx hb hts (fun w h => List.mem_cons_of_mem _ (List.mem_append_right _ (h))) hown E hh (by decide) (zC_obj (q := 66) rfl) rfl 16 (by decide) (hts (.fieldLink RX7 57 "TownBandModel" "here" "I") (List.mem_cons_of_mem _ (List.mem_append_left _ (List.mem_of_getElem? (i := 2) rfl)))) rfl dX7_nameHere_61 ?_
      refine lv_isub hx hb dX7_nameHere_64 ?_
      refine lv_icmp_ge (tgt := 106) hx hb dX7_nameHere_65 (by decide) (fun c_v2 => ?_) (fun c_v2 => ?_)
      · have hf := z_ip hf c_v2
        exact hk_106 x1 x2 _ _ _ hf hh (lv_sub hl [0, 1, 2] rfl)
      · have hf := z_in hf c_v2
        refine lv_aload_n hx hb dX7_nameHere_68 rfl (lv_at hl 0 rfl) ?_
        refine lv_aload_n hx hb dX7_nameHere_69 rfl (lv_at hl 0 rfl) ?_
        refine z_get (v := .int (τ.1 66 16)) hx hb hts (fun w h => List.mem_cons_of_mem _ (List.mem_append_right _ (h))) hown E hh (by decide) (zC_obj (q := 66) rfl) rfl 16 (by decide) (hts (.fieldLink RX7 57 "TownBandModel" "here" "I") (List.mem_cons_of_mem _ (List.mem_append_left _ (List.mem_of_getElem? (i := 2) rfl)))) rfl dX7_nameHere_70 ?_
        refine lv_iload_n hx hb dX7_nameHere_73 rfl (lv_at hl 3 rfl) ?_
        refine lv_iadd hx hb dX7_nameHere_74 ?_
        obtain ⟨q3, h_q3, hf⟩ := z_bd hf
        refine z_mi (va_runV (As := [.int ((τ.1 66 16) + x3)]) (rest := []) ⟨hx, hb, hml, hown, hts⟩ (zcX7_byteAt l g A σ τ N ((τ.1 66 16) + x3) h_q3) (cwV 1 hts gX7_nameHere_X7_byteAt rfl rfl rfl hdX7_byteAt ⟨by decide, by decide⟩) (z_preV E hh (by decide) (zC_obj (q := 66) rfl) rfl) rfl rfl hl.1 rfl (lv_room (Nat.le_of_ble_eq_true rfl)) dX7_nameHere_75 ⟨Nat.le_refl _, Nat.le_refl _⟩) hh (fun H locs hh => ?_)
        refine lv_aload_n hx hb dX7_nameHere_78 rfl (lv_at hl 0 rfl) ?_
        refine z_get (v := .ref (g.2.2 59)) hx hb hts (fun w h => List.mem_cons_of_mem _ (List.mem_append_right _ (h))) hown E hh (by decide) (zC_obj (q := 66) rfl) rfl 20 (by decide) (hts (.fieldLink RX7 22 "TownBandModel" "letters" "[I") (List.mem_cons_of_mem _ (List.mem_append_left _ (List.mem_of_getElem? (i := 4) rfl)))) rfl dX7_nameHere_79 ?_
        refine lv_aload_n hx hb dX7_nameHere_82 rfl (lv_at hl 0 rfl) ?_
        refine z_get (v := .ref (g.2.2 58)) hx hb hts (fun w h => List.mem_cons_of_mem _ (List.mem_append_right _ (h))) hown E hh (by decide) (zC_obj (q := 66) rfl) rfl 19 (by decide) (hts (.fieldLink RX7 19 "TownBandModel" "cuts" "[I") (List.mem_cons_of_mem _ (List.mem_append_left _ (List.mem_of_getElem? (i := 3) rfl)))) rfl dX7_nameHere_83 ?_
        refine lv_iload_n hx hb dX7_nameHere_86 rfl (lv_at hl 1 rfl) ?_
        obtain ⟨h_v4, hf⟩ := z_if hf
        obtain ⟨v5, e_v5, hf⟩ := z_lt hf
        refine z_ialdM hx hb E hh (by decide) (by decide) h_v4 e_v5 dX7_nameHere_87 ?_
        refine lv_iload_n hx hb dX7_nameHere_88 rfl (lv_at hl 3 rfl) ?_
        refine lv_iadd hx hb dX7_nameHere_89 ?_
        obtain ⟨h_v6, hf⟩ := z_if hf
        obtain ⟨v7, e_v7, hf⟩ := z_lt hf
        refine z_ialdM hx hb E hh (by decide) (by decide) h_v6 e_v7 dX7_nameHere_90 ?_
        refine lv_icmp_ne (tgt := 98) hx hb dX7_nameHere_91 (by decide) (fun c_v8 => ?_) (fun c_v8 => ?_)
        · have hf := z_in hf c_v8
          refine lv_iconst (v := (nI 0)) hx hb dX7_nameHere_98 (by decide) ?_
          exact (hX7_nameHere_99 C E N (fX7_nameHere_51 N τ k_106 n) ih k_106 hk_106) x1 x3 (nI 0) _ _ _ hf hh (lv_sub hl [0, 1, 3] rfl)
        · have hf := z_ip hf c_v8
          refine lv_iconst (v := (nI 1)) hx hb dX7_nameHere_94 (by decide) ?_
          refine lv_goto (tgt := 99) hx hb dX7_nameHere_95 (by decide) ?_
          exact (hX7_nameHere_99 C E N (fX7_nameHere_51 N τ k_106 n) ih k_106 hk_106) x1 x3 (nI 1) _ _ _ hf hh (lv_sub hl [0, 1, 3] rfl)
def fX7_nameHere_48 (N : Nat) (τ : zS) (rc : Int32 → Option (Int32)) (x1 : Int32) (s0 : Int32) : Option (Int32) :=
  (fX7_nameHere_51 N τ (fX7_nameHere_106 N τ rc) N) x1 s0 (nI 0)
set_option maxRecDepth 100000 in
set_option maxHeartbeats 4000000 in
theorem hX7_nameHere_48 {p : Program} {l : Launch} {e : Env} {s : State} {m : MethodId} {args : Array Value} {below : List Frame} {meth : Method} {c : Code} {g : zG} {A : Nat → Prop} {σ τ : zS} {res : Int32} (C : zCx p s m args meth c cX7_nameHere (some .int) wsX7_nameHere RX7 4) (E : zE g A s) (N : Nat) (rc : Int32 → Option (Int32)) (hrc : PX7_nameHere_2 p l e s m args below meth c g A σ τ res rc) : PX7_nameHere_48 p l e s m args below meth c g A σ τ res (fX7_nameHere_48 N τ rc) := by
  obtain ⟨hx, hb, hr, hml, hown, hts, hlocks⟩ := id C
  intro x1 s0 H locs ls hf hh hl
  unfold fX7_nameHere_48 at hf
  refine lv_istore_n (lv' := [(2, .int s0), (0, .ref (g.2.2 66)), (1, .int x1)]) hx hb dX7_nameHere_48 rfl hl (by decide) rfl (fun ls hl => ?_)
  refine lv_iconst (v := (nI 0)) hx hb dX7_nameHere_49 (by decide) ?_
  refine lv_istore_n (lv' := [(3, .int (nI 0)), (2, .int s0), (0, .ref (g.2.2 66)), (1, .int x1)]) hx hb dX7_nameHere_50 rfl hl (by decide) rfl (fun ls hl => ?_)
  exact (hX7_nameHere_51 C E N (fX7_nameHere_106 N τ rc) (hX7_nameHere_106 C E N rc hrc) N) x1 s0 (nI 0) _ _ _ hf hh (lv_sub hl [2, 3, 1, 0] rfl)
def fX7_nameHere_2 (N : Nat) (τ : zS) : Nat → Int32 → Option (Int32)
  | 0, _ => none
  | n + 1, x1 =>
    if (nI 8) ≤ x1 then
      some (-4)
    else
      if (τ.1 66 17) = (nI 1) then
        if zin (x1 + (nI 1)) (zlen 58) then
        zlet (τ.2 58 (x1 + (nI 1)).toNatClampNeg) fun v4 =>
        if zin x1 (zlen 58) then
        zlet (τ.2 58 x1.toNatClampNeg) fun v6 =>
        if ((τ.1 66 15) - (τ.1 66 16)) = (v4 - v6) then
          (fX7_nameHere_48 N τ (fX7_nameHere_2 N τ n)) x1 (nI 1)
        else
          (fX7_nameHere_48 N τ (fX7_nameHere_2 N τ n)) x1 (nI 0)
        else none
        else none
      else
        some (-4)
set_option maxRecDepth 100000 in
set_option maxHeartbeats 4000000 in
theorem hX7_nameHere_2 {p : Program} {l : Launch} {e : Env} {s : State} {m : MethodId} {args : Array Value} {below : List Frame} {meth : Method} {c : Code} {g : zG} {A : Nat → Prop} {σ τ : zS} {res : Int32} (C : zCx p s m args meth c cX7_nameHere (some .int) wsX7_nameHere RX7 4) (E : zE g A s) (N : Nat) : ∀ n : Nat, PX7_nameHere_2 p l e s m args below meth c g A σ τ res (fX7_nameHere_2 N τ n) := by
  obtain ⟨hx, hb, hr, hml, hown, hts, hlocks⟩ := id C
  intro n
  induction n with
  | zero =>
    intro x1 H locs ls hf
    exact absurd hf (by simp [fX7_nameHere_2])
  | succ n ih =>
    intro x1 H locs ls hf hh hl
    rw [fX7_nameHere_2] at hf
    refine lv_iload_n hx hb dX7_nameHere_2 rfl (lv_at hl 1 rfl) ?_
    refine lv_bipush (v := (nI 8)) hx hb dX7_nameHere_3 (by decide) ?_
    refine lv_icmp_ge (tgt := 118) hx hb dX7_nameHere_5 (by decide) (fun c_v1 => ?_) (fun c_v1 => ?_)
    · have hf := z_ip hf c_v1
      refine lv_bipush (v := (-4)) hx hb dX7_nameHere_118 (by decide) ?_
      have hf := Option.some.inj hf
      subst hf
      exact z_iretM hx hb hr hlocks hh dX7_nameHere_120
    · have hf := z_in hf c_v1
      refine lv_aload_n hx hb dX7_nameHere_8 rfl (lv_at hl 0 rfl) ?_
      refine z_get (v := .int (τ.1 66 17)) hx hb hts (fun w h => List.mem_cons_of_mem _ (List.mem_append_right _ (h))) hown E hh (by decide) (zC_obj (q := 66) rfl) rfl 17 (by decide) (hts (.fieldLink RX7 63 "TownBandModel" "token" "I") (List.mem_cons_of_mem _ (List.mem_append_left _ (List.mem_of_getElem? (i := 0) rfl)))) rfl dX7_nameHere_9 ?_
      refine lv_iconst (v := (nI 1)) hx hb dX7_nameHere_12 (by decide) ?_
      refine lv_icmp_ne (tgt := 118) hx hb dX7_nameHere_13 (by decide) (fun c_v2 => ?_) (fun c_v2 => ?_)
      · have hf := z_in hf c_v2
        refine lv_bipush (v := (-4)) hx hb dX7_nameHere_118 (by decide) ?_
        have hf := Option.some.inj hf
        subst hf
        exact z_iretM hx hb hr hlocks hh dX7_nameHere_120
      · have hf := z_ip hf c_v2
        refine lv_aload_n hx hb dX7_nameHere_16 rfl (lv_at hl 0 rfl) ?_
        refine z_get (v := .int (τ.1 66 15)) hx hb hts (fun w h => List.mem_cons_of_mem _ (List.mem_append_right _ (h))) hown E hh (by decide) (zC_obj (q := 66) rfl) rfl 15 (by decide) (hts (.fieldLink RX7 66 "TownBandModel" "spot" "I") (List.mem_cons_of_mem _ (List.mem_append_left _ (List.mem_of_getElem? (i := 1) rfl)))) rfl dX7_nameHere_17 ?_
        refine lv_aload_n hx hb dX7_nameHere_20 rfl (lv_at hl 0 rfl) ?_
        refine z_get (v := .int (τ.1 66 16)) hx hb hts (fun w h => List.mem_cons_of_mem _ (List.mem_append_right _ (h))) hown E hh (by decide) (zC_obj (q := 66) rfl) rfl 16 (by decide) (hts (.fieldLink RX7 57 "TownBandModel" "here" "I") (List.mem_cons_of_mem _ (List.mem_append_left _ (List.mem_of_getElem? (i := 2) rfl)))) rfl dX7_nameHere_21 ?_
        refine lv_isub hx hb dX7_nameHere_24 ?_
        refine lv_aload_n hx hb dX7_nameHere_25 rfl (lv_at hl 0 rfl) ?_
        refine z_get (v := .ref (g.2.2 58)) hx hb hts (fun w h => List.mem_cons_of_mem _ (List.mem_append_right _ (h))) hown E hh (by decide) (zC_obj (q := 66) rfl) rfl 19 (by decide) (hts (.fieldLink RX7 19 "TownBandModel" "cuts" "[I") (List.mem_cons_of_mem _ (List.mem_append_left _ (List.mem_of_getElem? (i := 3) rfl)))) rfl dX7_nameHere_26 ?_
        refine lv_iload_n hx hb dX7_nameHere_29 rfl (lv_at hl 1 rfl) ?_
        refine lv_iconst (v := (nI 1)) hx hb dX7_nameHere_30 (by decide) ?_
        refine lv_iadd hx hb dX7_nameHere_31 ?_
        obtain ⟨h_v3, hf⟩ := z_if hf
        obtain ⟨v4, e_v4, hf⟩ := z_lt hf
        refine z_ialdM hx hb E hh (by decide) (by decide) h_v3 e_v4 dX7_nameHere_32 ?_
        refine lv_aload_n hx hb dX7_nameHere_33 rfl (lv_at hl 0 rfl) ?_
        refine z_get (v := .ref (g.2.2 58)) hx hb hts (fun w h => List.mem_cons_of_mem _ (List.mem_append_right _ (h))) hown E hh (by decide) (zC_obj (q := 66) rfl) rfl 19 (by decide) (hts (.fieldLink RX7 19 "TownBandModel" "cuts" "[I") (List.mem_cons_of_mem _ (List.mem_append_left _ (List.mem_of_getElem? (i := 3) rfl)))) rfl dX7_nameHere_34 ?_
        refine lv_iload_n hx hb dX7_nameHere_37 rfl (lv_at hl 1 rfl) ?_
        obtain ⟨h_v5, hf⟩ := z_if hf
        obtain ⟨v6, e_v6, hf⟩ := z_lt hf
        refine z_ialdM hx hb E hh (by decide) (by decide) h_v5 e_v6 dX7_nameHere_38 ?_
        refine lv_isub hx hb dX7_nameHere_39 ?_
        refine lv_icmp_ne (tgt := 47) hx hb dX7_nameHere_40 (by decide) (fun c_v7 => ?_) (fun c_v7 => ?_)
        · have hf := z_in hf c_v7
          refine lv_iconst (v := (nI 0)) hx hb dX7_nameHere_47 (by decide) ?_
          exact (hX7_nameHere_48 C E N (fX7_nameHere_2 N τ n) ih) x1 (nI 0) _ _ _ hf hh (lv_sub hl [0, 1] rfl)
        · have hf := z_ip hf c_v7
          refine lv_iconst (v := (nI 1)) hx hb dX7_nameHere_43 (by decide) ?_
          refine lv_goto (tgt := 48) hx hb dX7_nameHere_44 (by decide) ?_
          exact (hX7_nameHere_48 C E N (fX7_nameHere_2 N τ n) ih) x1 (nI 1) _ _ _ hf hh (lv_sub hl [0, 1] rfl)
def fX7_nameHere (N : Nat) (τ : zS)  : Option (Int32) :=
  (fX7_nameHere_2 N τ N) (nI 0)
set_option maxRecDepth 100000 in
set_option maxHeartbeats 4000000 in
theorem zcX7_nameHere (l : Launch) (g : zG) (A : Nat → Prop) (σ τ : zS) (N : Nat)   {res : Int32} (hf : fX7_nameHere N τ = some res) : Met l yX7_nameHere wsX7_nameHere (zR 1) (zPc g A σ τ [.ref (g.2.2 66)]) (zPi g A σ (res, τ)) 0 0 A := by
  refine z_met (cc := cX7_nameHere) (ret := (some .int)) (own := RX7) (by decide) rfl rfl _ (Nat.le_of_ble_eq_true rfl) ?_
  intro p e s m below meth c C E ls hl hh
  have hl : lv_has ls 4 [(0, .ref (g.2.2 66))] := hl
  obtain ⟨hx, hb, hr, hml, hown, hts, hlocks⟩ := id C
  unfold fX7_nameHere at hf
  refine lv_iconst (v := (nI 0)) hx hb dX7_nameHere_0 (by decide) ?_
  refine lv_istore_n (lv' := [(1, .int (nI 0)), (0, .ref (g.2.2 66))]) hx hb dX7_nameHere_1 rfl hl (by decide) rfl (fun ls hl => ?_)
  exact (hX7_nameHere_2 C E N N) (nI 0) _ _ _ hf hh (lv_sub hl [1, 0] rfl)
/-! ===== X7_step ===== -/
theorem hdX7_step : yX7_step.cls = RX7 ∧ yX7_step.cls ≠ "java/lang/invoke/MethodHandle" ∧ yX7_step.cls ≠ "java/lang/invoke/VarHandle" ∧ (parseMethodDescriptor yX7_step.desc).map (fun d => d.parameters.length) = some 0 := by decide +kernel
def PX7_step_217 (p : Program) (l : Launch) (e : Env) (s : State) (m : MethodId) (args : Array Value) (below : List Frame) (meth : Method) (c : Code) (g : zG) (A : Nat → Prop) (σ : zS) (res : zS) (f : zS → Option (zS)) : Prop := ∀  (τ : zS) (H : Heap) (locs : List Loc) (ls : Array Slot), f τ = some res → zW g A σ τ s H locs → lv_has ls 2 [(0, .ref (g.2.2 66))] → W p l e (zR 1) s m args below meth c H locs 0 0 (MQ below (zPv g A σ res) args s 0 0 A) (F0 m 217 ls [])
def PX7_step_201 (p : Program) (l : Launch) (e : Env) (s : State) (m : MethodId) (args : Array Value) (below : List Frame) (meth : Method) (c : Code) (g : zG) (A : Nat → Prop) (σ : zS) (res : zS) (f : Int32 → zS → Option (zS)) : Prop := ∀ (s0 : Int32) (τ : zS) (H : Heap) (locs : List Loc) (ls : Array Slot), f s0 τ = some res → zW g A σ τ s H locs → lv_has ls 2 [(0, .ref (g.2.2 66))] → W p l e (zR 1) s m args below meth c H locs 0 0 (MQ below (zPv g A σ res) args s 0 0 A) (F0 m 201 ls [.int s0, .ref (g.2.2 66)])
def PX7_step_140 (p : Program) (l : Launch) (e : Env) (s : State) (m : MethodId) (args : Array Value) (below : List Frame) (meth : Method) (c : Code) (g : zG) (A : Nat → Prop) (σ : zS) (res : zS) (f : zS → Option (zS)) : Prop := ∀  (τ : zS) (H : Heap) (locs : List Loc) (ls : Array Slot), f τ = some res → zW g A σ τ s H locs → lv_has ls 2 [(0, .ref (g.2.2 66))] → W p l e (zR 1) s m args below meth c H locs 0 0 (MQ below (zPv g A σ res) args s 0 0 A) (F0 m 140 ls [])
def PX7_step_118 (p : Program) (l : Launch) (e : Env) (s : State) (m : MethodId) (args : Array Value) (below : List Frame) (meth : Method) (c : Code) (g : zG) (A : Nat → Prop) (σ : zS) (res : zS) (f : zS → Option (zS)) : Prop := ∀  (τ : zS) (H : Heap) (locs : List Loc) (ls : Array Slot), f τ = some res → zW g A σ τ s H locs → lv_has ls 2 [(0, .ref (g.2.2 66))] → W p l e (zR 1) s m args below meth c H locs 0 0 (MQ below (zPv g A σ res) args s 0 0 A) (F0 m 118 ls [])
def PX7_step_84 (p : Program) (l : Launch) (e : Env) (s : State) (m : MethodId) (args : Array Value) (below : List Frame) (meth : Method) (c : Code) (g : zG) (A : Nat → Prop) (σ : zS) (res : zS) (f : zS → Option (zS)) : Prop := ∀  (τ : zS) (H : Heap) (locs : List Loc) (ls : Array Slot), f τ = some res → zW g A σ τ s H locs → lv_has ls 2 [(0, .ref (g.2.2 66))] → W p l e (zR 1) s m args below meth c H locs 0 0 (MQ below (zPv g A σ res) args s 0 0 A) (F0 m 84 ls [])
def PX7_step_34 (p : Program) (l : Launch) (e : Env) (s : State) (m : MethodId) (args : Array Value) (below : List Frame) (meth : Method) (c : Code) (g : zG) (A : Nat → Prop) (σ : zS) (res : zS) (f : zS → Option (zS)) : Prop := ∀  (τ : zS) (H : Heap) (locs : List Loc) (ls : Array Slot), f τ = some res → zW g A σ τ s H locs → lv_has ls 2 [(0, .ref (g.2.2 66))] → W p l e (zR 1) s m args below meth c H locs 0 0 (MQ below (zPv g A σ res) args s 0 0 A) (F0 m 34 ls [])
def PX7_step_8 (p : Program) (l : Launch) (e : Env) (s : State) (m : MethodId) (args : Array Value) (below : List Frame) (meth : Method) (c : Code) (g : zG) (A : Nat → Prop) (σ : zS) (res : zS) (f : zS → Option (zS)) : Prop := ∀  (τ : zS) (H : Heap) (locs : List Loc) (ls : Array Slot), f τ = some res → zW g A σ τ s H locs → lv_has ls 2 [(0, .ref (g.2.2 66))] → W p l e (zR 1) s m args below meth c H locs 0 0 (MQ below (zPv g A σ res) args s 0 0 A) (F0 m 8 ls [])
def fX7_step_217 (N : Nat)  (τ : zS) : Option (zS) :=
  zlet (zpf τ 66 17 (nI 2)) fun τ1 =>
  if ((τ1.1 66 15) - (τ1.1 66 16)) ≤ (nI 2) then
    some τ1
  else
    (fX7_fails N τ1 (nI 1)).bind fun q3 =>
    some q3
set_option maxRecDepth 100000 in
set_option maxHeartbeats 4000000 in
theorem hX7_step_217 {p : Program} {l : Launch} {e : Env} {s : State} {m : MethodId} {args : Array Value} {below : List Frame} {meth : Method} {c : Code} {g : zG} {A : Nat → Prop} {σ : zS} {res : zS} (C : zCx p s m args meth c cX7_step none wsX7_step RX7 2) (E : zE g A s) (N : Nat) : PX7_step_217 p l e s m args below meth c g A σ res (fX7_step_217 N) := by
  obtain ⟨hx, hb, hr, hml, hown, hts, hlocks⟩ := id C
  intro τ H locs ls hf hh hl
  unfold fX7_step_217 at hf
  refine lv_aload_n hx hb dX7_step_217 rfl (lv_at hl 0 rfl) ?_
  refine lv_iconst (v := (nI 2)) hx hb dX7_step_218 (by decide) ?_
  obtain ⟨τ1, e_τ1, hf⟩ := z_lt hf
  refine z_putM hx hb hts (fun w h => List.mem_cons_of_mem _ (List.mem_append_right _ (h))) tyX7 tyX7_ok nmX7 hown E hh (by decide) (by decide) (show zD 66 = _ from rfl) rfl 17 (by decide) rfl (hts (.fieldLink RX7 63 "TownBandModel" "token" "I") (List.mem_cons_of_mem _ (List.mem_append_left _ (List.mem_of_getElem? (i := 4) rfl)))) rfl rfl e_τ1 dX7_step_219 (fun H locs hh => ?_)
  refine lv_aload_n hx hb dX7_step_222 rfl (lv_at hl 0 rfl) ?_
  refine z_get (v := .int (τ1.1 66 15)) hx hb hts (fun w h => List.mem_cons_of_mem _ (List.mem_append_right _ (h))) hown E hh (by decide) (zC_obj (q := 66) rfl) rfl 15 (by decide) (hts (.fieldLink RX7 66 "TownBandModel" "spot" "I") (List.mem_cons_of_mem _ (List.mem_append_left _ (List.mem_of_getElem? (i := 1) rfl)))) rfl dX7_step_223 ?_
  refine lv_aload_n hx hb dX7_step_226 rfl (lv_at hl 0 rfl) ?_
  refine z_get (v := .int (τ1.1 66 16)) hx hb hts (fun w h => List.mem_cons_of_mem _ (List.mem_append_right _ (h))) hown E hh (by decide) (zC_obj (q := 66) rfl) rfl 16 (by decide) (hts (.fieldLink RX7 57 "TownBandModel" "here" "I") (List.mem_cons_of_mem _ (List.mem_append_left _ (List.mem_of_getElem? (i := 2) rfl)))) rfl dX7_step_227 ?_
  refine lv_isub hx hb dX7_step_230 ?_
  refine lv_iconst (v := (nI 2)) hx hb dX7_step_231 (by decide) ?_
  refine lv_icmp_le (tgt := 269) hx hb dX7_step_232 (by decide) (fun c_v2 => ?_) (fun c_v2 => ?_)
  · have hf := z_ip hf c_v2
    have hf := Option.some.inj hf
    subst hf
    exact z_vretM hx hb hr hlocks hh dX7_step_269
  · have hf := z_in hf c_v2
    refine lv_aload_n hx hb dX7_step_235 rfl (lv_at hl 0 rfl) ?_
    refine lv_iconst (v := (nI 1)) hx hb dX7_step_236 (by decide) ?_
    obtain ⟨q3, h_q3, hf⟩ := z_bd hf
    refine z_mv (va_runV (As := [.int (nI 1)]) (rest := []) ⟨hx, hb, hml, hown, hts⟩ (zcX7_fails l g A σ τ1 N (nI 1) h_q3) (cwV 1 hts gX7_step_X7_fails rfl rfl rfl hdX7_fails ⟨by decide, by decide⟩) (z_preV E hh (by decide) (zC_obj (q := 66) rfl) rfl) rfl rfl hl.1 rfl (lv_room (Nat.le_of_ble_eq_true rfl)) dX7_step_237 ⟨Nat.le_refl _, Nat.le_refl _⟩) hh (fun H locs hh => ?_)
    refine lv_goto (tgt := 269) hx hb dX7_step_240 (by decide) ?_
    have hf := Option.some.inj hf
    subst hf
    exact z_vretM hx hb hr hlocks hh dX7_step_269
def fX7_step_201 (N : Nat) (rc : zS → Option (zS)) (k_217 : zS → Option (zS)) (s0 : Int32) (τ : zS) : Option (zS) :=
  zlet (zpf τ 66 18 s0) fun τ1 =>
  zlet (zpf τ1 66 15 ((τ1.1 66 15) + (nI 1))) fun τ2 =>
  rc τ2
set_option maxRecDepth 100000 in
set_option maxHeartbeats 4000000 in
theorem hX7_step_201 {p : Program} {l : Launch} {e : Env} {s : State} {m : MethodId} {args : Array Value} {below : List Frame} {meth : Method} {c : Code} {g : zG} {A : Nat → Prop} {σ : zS} {res : zS} (C : zCx p s m args meth c cX7_step none wsX7_step RX7 2) (E : zE g A s) (N : Nat) (rc : zS → Option (zS)) (hrc : PX7_step_140 p l e s m args below meth c g A σ res rc) (k_217 : zS → Option (zS)) (hk_217 : PX7_step_217 p l e s m args below meth c g A σ res k_217) : PX7_step_201 p l e s m args below meth c g A σ res (fX7_step_201 N rc k_217) := by
  obtain ⟨hx, hb, hr, hml, hown, hts, hlocks⟩ := id C
  intro s0 τ H locs ls hf hh hl
  unfold fX7_step_201 at hf
  obtain ⟨τ1, e_τ1, hf⟩ := z_lt hf
  refine z_putM hx hb hts (fun w h => List.mem_cons_of_mem _ (List.mem_append_right _ (h))) tyX7 tyX7_ok nmX7 hown E hh (by decide) (by decide) (show zD 66 = _ from rfl) rfl 18 (by decide) rfl (hts (.fieldLink RX7 73 "TownBandModel" "value" "I") (List.mem_cons_of_mem _ (List.mem_append_left _ (List.mem_of_getElem? (i := 3) rfl)))) rfl rfl e_τ1 dX7_step_201 (fun H locs hh => ?_)
  refine lv_aload_n hx hb dX7_step_204 rfl (lv_at hl 0 rfl) ?_
  refine lv_dup hx hb dX7_step_205 rfl ?_
  refine z_get (v := .int (τ1.1 66 15)) hx hb hts (fun w h => List.mem_cons_of_mem _ (List.mem_append_right _ (h))) hown E hh (by decide) (zC_obj (q := 66) rfl) rfl 15 (by decide) (hts (.fieldLink RX7 66 "TownBandModel" "spot" "I") (List.mem_cons_of_mem _ (List.mem_append_left _ (List.mem_of_getElem? (i := 1) rfl)))) rfl dX7_step_206 ?_
  refine lv_iconst (v := (nI 1)) hx hb dX7_step_209 (by decide) ?_
  refine lv_iadd hx hb dX7_step_210 ?_
  obtain ⟨τ2, e_τ2, hf⟩ := z_lt hf
  refine z_putM hx hb hts (fun w h => List.mem_cons_of_mem _ (List.mem_append_right _ (h))) tyX7 tyX7_ok nmX7 hown E hh (by decide) (by decide) (show zD 66 = _ from rfl) rfl 15 (by decide) rfl (hts (.fieldLink RX7 66 "TownBandModel" "spot" "I") (List.mem_cons_of_mem _ (List.mem_append_left _ (List.mem_of_getElem? (i := 1) rfl)))) rfl rfl e_τ2 dX7_step_211 (fun H locs hh => ?_)
  refine lv_goto (tgt := 140) hx hb dX7_step_214 (by decide) ?_
  exact hrc τ2 _ _ _ hf hh (lv_sub hl [0] rfl)
def fX7_step_140 (N : Nat) (k_217 : zS → Option (zS)) : Nat → zS → Option (zS)
  | 0, _ => none
  | n + 1, τ =>
    (fX7_byteAt N τ (τ.1 66 15)).bind fun q1 =>
    (fX7_in N q1.toInt64 48 57).bind fun q2 =>
    if q2 = 0 then
      k_217 τ
    else
      if (nI 2) ≤ ((τ.1 66 15) - (τ.1 66 16)) then
        (fX7_step_201 N (fX7_step_140 N k_217 n) k_217) (τ.1 66 18) τ
      else
        (fX7_byteAt N τ (τ.1 66 15)).bind fun q5 =>
        (fX7_step_201 N (fX7_step_140 N k_217 n) k_217) ((((nI 10) * (τ.1 66 18)) + q5) - (nI 48)) τ
set_option maxRecDepth 100000 in
set_option maxHeartbeats 4000000 in
theorem hX7_step_140 {p : Program} {l : Launch} {e : Env} {s : State} {m : MethodId} {args : Array Value} {below : List Frame} {meth : Method} {c : Code} {g : zG} {A : Nat → Prop} {σ : zS} {res : zS} (C : zCx p s m args meth c cX7_step none wsX7_step RX7 2) (E : zE g A s) (N : Nat) (k_217 : zS → Option (zS)) (hk_217 : PX7_step_217 p l e s m args below meth c g A σ res k_217) : ∀ n : Nat, PX7_step_140 p l e s m args below meth c g A σ res (fX7_step_140 N k_217 n) := by
  obtain ⟨hx, hb, hr, hml, hown, hts, hlocks⟩ := id C
  intro n
  induction n with
  | zero =>
    intro τ H locs ls hf
    exact absurd hf (by simp [fX7_step_140])
  | succ n ih =>
    intro τ H locs ls hf hh hl
    rw [fX7_step_140] at hf
    refine lv_aload_n hx hb dX7_step_140 rfl (lv_at hl 0 rfl) ?_
    refine lv_aload_n hx hb dX7_step_141 rfl (lv_at hl 0 rfl) ?_
    refine z_get (v := .int (τ.1 66 15)) hx hb hts (fun w h => List.mem_cons_of_mem _ (List.mem_append_right _ (h))) hown E hh (by decide) (zC_obj (q := 66) rfl) rfl 15 (by decide) (hts (.fieldLink RX7 66 "TownBandModel" "spot" "I") (List.mem_cons_of_mem _ (List.mem_append_left _ (List.mem_of_getElem? (i := 1) rfl)))) rfl dX7_step_142 ?_
    obtain ⟨q1, h_q1, hf⟩ := z_bd hf
    refine z_mi (va_runV (As := [.int (τ.1 66 15)]) (rest := []) ⟨hx, hb, hml, hown, hts⟩ (zcX7_byteAt l g A σ τ N (τ.1 66 15) h_q1) (cwV 1 hts gX7_step_X7_byteAt rfl rfl rfl hdX7_byteAt ⟨by decide, by decide⟩) (z_preV E hh (by decide) (zC_obj (q := 66) rfl) rfl) rfl rfl hl.1 rfl (lv_room (Nat.le_of_ble_eq_true rfl)) dX7_step_145 ⟨Nat.le_refl _, Nat.le_refl _⟩) hh (fun H locs hh => ?_)
    refine lv_i2l hx hb dX7_step_148 rfl ?_
    refine lv_ldc2 (v := 48) hx hb hown (hts (.constantLong RX7 80 (48)) (List.mem_cons_of_mem _ (List.mem_append_left _ (List.mem_of_getElem? (i := 7) rfl)))) dX7_step_149 ?_
    refine lv_ldc2 (v := 57) hx hb hown (hts (.constantLong RX7 82 (57)) (List.mem_cons_of_mem _ (List.mem_append_left _ (List.mem_of_getElem? (i := 8) rfl)))) dX7_step_152 ?_
    obtain ⟨q2, h_q2, hf⟩ := z_bd hf
    refine z_mi (va_runS (As := [.long q1.toInt64, .long 48, .long 57]) (rest := []) ⟨hx, hb, hml, hown, hts⟩ (zcX7_in l g A σ τ N q1.toInt64 48 57 h_q2) (va_cwS 3 hts gX7_step_X7_in rfl rfl rfl hdX7_in.2 ⟨by decide, by decide⟩) (z_preS E hh) rfl rfl hl.1 rfl (lv_room (Nat.le_of_ble_eq_true rfl)) dX7_step_155 ⟨Nat.le_refl _, Nat.le_refl _⟩) hh (fun H locs hh => ?_)
    refine lv_if_eq (tgt := 217) hx hb dX7_step_158 (by decide) (fun c_v3 => ?_) (fun c_v3 => ?_)
    · have hf := z_ip hf c_v3
      exact hk_217 τ _ _ _ hf hh (lv_sub hl [0] rfl)
    · have hf := z_in hf c_v3
      refine lv_aload_n hx hb dX7_step_161 rfl (lv_at hl 0 rfl) ?_
      refine lv_aload_n hx hb dX7_step_162 rfl (lv_at hl 0 rfl) ?_
      refine z_get (v := .int (τ.1 66 15)) hx hb hts (fun w h => List.mem_cons_of_mem _ (List.mem_append_right _ (h))) hown E hh (by decide) (zC_obj (q := 66) rfl) rfl 15 (by decide) (hts (.fieldLink RX7 66 "TownBandModel" "spot" "I") (List.mem_cons_of_mem _ (List.mem_append_left _ (List.mem_of_getElem? (i := 1) rfl)))) rfl dX7_step_163 ?_
      refine lv_aload_n hx hb dX7_step_166 rfl (lv_at hl 0 rfl) ?_
      refine z_get (v := .int (τ.1 66 16)) hx hb hts (fun w h => List.mem_cons_of_mem _ (List.mem_append_right _ (h))) hown E hh (by decide) (zC_obj (q := 66) rfl) rfl 16 (by decide) (hts (.fieldLink RX7 57 "TownBandModel" "here" "I") (List.mem_cons_of_mem _ (List.mem_append_left _ (List.mem_of_getElem? (i := 2) rfl)))) rfl dX7_step_167 ?_
      refine lv_isub hx hb dX7_step_170 ?_
      refine lv_iconst (v := (nI 2)) hx hb dX7_step_171 (by decide) ?_
      refine lv_icmp_ge (tgt := 197) hx hb dX7_step_172 (by decide) (fun c_v4 => ?_) (fun c_v4 => ?_)
      · have hf := z_ip hf c_v4
        refine lv_aload_n hx hb dX7_step_197 rfl (lv_at hl 0 rfl) ?_
        refine z_get (v := .int (τ.1 66 18)) hx hb hts (fun w h => List.mem_cons_of_mem _ (List.mem_append_right _ (h))) hown E hh (by decide) (zC_obj (q := 66) rfl) rfl 18 (by decide) (hts (.fieldLink RX7 73 "TownBandModel" "value" "I") (List.mem_cons_of_mem _ (List.mem_append_left _ (List.mem_of_getElem? (i := 3) rfl)))) rfl dX7_step_198 ?_
        exact (hX7_step_201 C E N (fX7_step_140 N k_217 n) ih k_217 hk_217) (τ.1 66 18) τ _ _ _ hf hh (lv_sub hl [0] rfl)
      · have hf := z_in hf c_v4
        refine lv_bipush (v := (nI 10)) hx hb dX7_step_175 (by decide) ?_
        refine lv_aload_n hx hb dX7_step_177 rfl (lv_at hl 0 rfl) ?_
        refine z_get (v := .int (τ.1 66 18)) hx hb hts (fun w h => List.mem_cons_of_mem _ (List.mem_append_right _ (h))) hown E hh (by decide) (zC_obj (q := 66) rfl) rfl 18 (by decide) (hts (.fieldLink RX7 73 "TownBandModel" "value" "I") (List.mem_cons_of_mem _ (List.mem_append_left _ (List.mem_of_getElem? (i := 3) rfl)))) rfl dX7_step_178 ?_
        refine lv_imul hx hb dX7_step_181 ?_
        refine lv_aload_n hx hb dX7_step_182 rfl (lv_at hl 0 rfl) ?_
        refine lv_aload_n hx hb dX7_step_183 rfl (lv_at hl 0 rfl) ?_
        refine z_get (v := .int (τ.1 66 15)) hx hb hts (fun w h => List.mem_cons_of_mem _ (List.mem_append_right _ (h))) hown E hh (by decide) (zC_obj (q := 66) rfl) rfl 15 (by decide) (hts (.fieldLink RX7 66 "TownBandModel" "spot" "I") (List.mem_cons_of_mem _ (List.mem_append_left _ (List.mem_of_getElem? (i := 1) rfl)))) rfl dX7_step_184 ?_
        obtain ⟨q5, h_q5, hf⟩ := z_bd hf
        refine z_mi (va_runV (As := [.int (τ.1 66 15)]) (rest := [.int ((nI 10) * (τ.1 66 18)), .ref (g.2.2 66)]) ⟨hx, hb, hml, hown, hts⟩ (zcX7_byteAt l g A σ τ N (τ.1 66 15) h_q5) (cwV 1 hts gX7_step_X7_byteAt rfl rfl rfl hdX7_byteAt ⟨by decide, by decide⟩) (z_preV E hh (by decide) (zC_obj (q := 66) rfl) rfl) rfl rfl hl.1 rfl (lv_room (Nat.le_of_ble_eq_true rfl)) dX7_step_187 ⟨Nat.le_refl _, Nat.le_refl _⟩) hh (fun H locs hh => ?_)
        refine lv_iadd hx hb dX7_step_190 ?_
        refine lv_bipush (v := (nI 48)) hx hb dX7_step_191 (by decide) ?_
        refine lv_isub hx hb dX7_step_193 ?_
        refine lv_goto (tgt := 201) hx hb dX7_step_194 (by decide) ?_
        exact (hX7_step_201 C E N (fX7_step_140 N k_217 n) ih k_217 hk_217) ((((nI 10) * (τ.1 66 18)) + q5) - (nI 48)) τ _ _ _ hf hh (lv_sub hl [0] rfl)
def fX7_step_118 (N : Nat)  (τ : zS) : Option (zS) :=
  zlet (zpf τ 66 17 (nI 1)) fun τ1 =>
  some τ1
set_option maxRecDepth 100000 in
set_option maxHeartbeats 4000000 in
theorem hX7_step_118 {p : Program} {l : Launch} {e : Env} {s : State} {m : MethodId} {args : Array Value} {below : List Frame} {meth : Method} {c : Code} {g : zG} {A : Nat → Prop} {σ : zS} {res : zS} (C : zCx p s m args meth c cX7_step none wsX7_step RX7 2) (E : zE g A s) (N : Nat) : PX7_step_118 p l e s m args below meth c g A σ res (fX7_step_118 N) := by
  obtain ⟨hx, hb, hr, hml, hown, hts, hlocks⟩ := id C
  intro τ H locs ls hf hh hl
  unfold fX7_step_118 at hf
  refine lv_aload_n hx hb dX7_step_118 rfl (lv_at hl 0 rfl) ?_
  refine lv_iconst (v := (nI 1)) hx hb dX7_step_119 (by decide) ?_
  obtain ⟨τ1, e_τ1, hf⟩ := z_lt hf
  refine z_putM hx hb hts (fun w h => List.mem_cons_of_mem _ (List.mem_append_right _ (h))) tyX7 tyX7_ok nmX7 hown E hh (by decide) (by decide) (show zD 66 = _ from rfl) rfl 17 (by decide) rfl (hts (.fieldLink RX7 63 "TownBandModel" "token" "I") (List.mem_cons_of_mem _ (List.mem_append_left _ (List.mem_of_getElem? (i := 4) rfl)))) rfl rfl e_τ1 dX7_step_120 (fun H locs hh => ?_)
  refine lv_goto (tgt := 269) hx hb dX7_step_123 (by decide) ?_
  have hf := Option.some.inj hf
  subst hf
  exact z_vretM hx hb hr hlocks hh dX7_step_269
def fX7_step_84 (N : Nat) (k_118 : zS → Option (zS)) : Nat → zS → Option (zS)
  | 0, _ => none
  | n + 1, τ =>
    (fX7_byteAt N τ (τ.1 66 15)).bind fun q1 =>
    (fX7_in N q1.toInt64 97 122).bind fun q2 =>
    if q2 = 0 then
      k_118 τ
    else
      zlet (zpf τ 66 15 ((τ.1 66 15) + (nI 1))) fun τ4 =>
      (fX7_step_84 N k_118 n) τ4
set_option maxRecDepth 100000 in
set_option maxHeartbeats 4000000 in
theorem hX7_step_84 {p : Program} {l : Launch} {e : Env} {s : State} {m : MethodId} {args : Array Value} {below : List Frame} {meth : Method} {c : Code} {g : zG} {A : Nat → Prop} {σ : zS} {res : zS} (C : zCx p s m args meth c cX7_step none wsX7_step RX7 2) (E : zE g A s) (N : Nat) (k_118 : zS → Option (zS)) (hk_118 : PX7_step_118 p l e s m args below meth c g A σ res k_118) : ∀ n : Nat, PX7_step_84 p l e s m args below meth c g A σ res (fX7_step_84 N k_118 n) := by
  obtain ⟨hx, hb, hr, hml, hown, hts, hlocks⟩ := id C
  intro n
  induction n with
  | zero =>
    intro τ H locs ls hf
    exact absurd hf (by simp [fX7_step_84])
  | succ n ih =>
    intro τ H locs ls hf hh hl
    rw [fX7_step_84] at hf
    refine lv_aload_n hx hb dX7_step_84 rfl (lv_at hl 0 rfl) ?_
    refine lv_aload_n hx hb dX7_step_85 rfl (lv_at hl 0 rfl) ?_
    refine z_get (v := .int (τ.1 66 15)) hx hb hts (fun w h => List.mem_cons_of_mem _ (List.mem_append_right _ (h))) hown E hh (by decide) (zC_obj (q := 66) rfl) rfl 15 (by decide) (hts (.fieldLink RX7 66 "TownBandModel" "spot" "I") (List.mem_cons_of_mem _ (List.mem_append_left _ (List.mem_of_getElem? (i := 1) rfl)))) rfl dX7_step_86 ?_
    obtain ⟨q1, h_q1, hf⟩ := z_bd hf
    refine z_mi (va_runV (As := [.int (τ.1 66 15)]) (rest := []) ⟨hx, hb, hml, hown, hts⟩ (zcX7_byteAt l g A σ τ N (τ.1 66 15) h_q1) (cwV 1 hts gX7_step_X7_byteAt rfl rfl rfl hdX7_byteAt ⟨by decide, by decide⟩) (z_preV E hh (by decide) (zC_obj (q := 66) rfl) rfl) rfl rfl hl.1 rfl (lv_room (Nat.le_of_ble_eq_true rfl)) dX7_step_89 ⟨Nat.le_refl _, Nat.le_refl _⟩) hh (fun H locs hh => ?_)
    refine lv_i2l hx hb dX7_step_92 rfl ?_
    refine lv_ldc2 (v := 97) hx hb hown (hts (.constantLong RX7 76 (97)) (List.mem_cons_of_mem _ (List.mem_append_left _ (List.mem_of_getElem? (i := 5) rfl)))) dX7_step_93 ?_
    refine lv_ldc2 (v := 122) hx hb hown (hts (.constantLong RX7 78 (122)) (List.mem_cons_of_mem _ (List.mem_append_left _ (List.mem_of_getElem? (i := 6) rfl)))) dX7_step_96 ?_
    obtain ⟨q2, h_q2, hf⟩ := z_bd hf
    refine z_mi (va_runS (As := [.long q1.toInt64, .long 97, .long 122]) (rest := []) ⟨hx, hb, hml, hown, hts⟩ (zcX7_in l g A σ τ N q1.toInt64 97 122 h_q2) (va_cwS 3 hts gX7_step_X7_in rfl rfl rfl hdX7_in.2 ⟨by decide, by decide⟩) (z_preS E hh) rfl rfl hl.1 rfl (lv_room (Nat.le_of_ble_eq_true rfl)) dX7_step_99 ⟨Nat.le_refl _, Nat.le_refl _⟩) hh (fun H locs hh => ?_)
    refine lv_if_eq (tgt := 118) hx hb dX7_step_102 (by decide) (fun c_v3 => ?_) (fun c_v3 => ?_)
    · have hf := z_ip hf c_v3
      exact hk_118 τ _ _ _ hf hh (lv_sub hl [0] rfl)
    · have hf := z_in hf c_v3
      refine lv_aload_n hx hb dX7_step_105 rfl (lv_at hl 0 rfl) ?_
      refine lv_dup hx hb dX7_step_106 rfl ?_
      refine z_get (v := .int (τ.1 66 15)) hx hb hts (fun w h => List.mem_cons_of_mem _ (List.mem_append_right _ (h))) hown E hh (by decide) (zC_obj (q := 66) rfl) rfl 15 (by decide) (hts (.fieldLink RX7 66 "TownBandModel" "spot" "I") (List.mem_cons_of_mem _ (List.mem_append_left _ (List.mem_of_getElem? (i := 1) rfl)))) rfl dX7_step_107 ?_
      refine lv_iconst (v := (nI 1)) hx hb dX7_step_110 (by decide) ?_
      refine lv_iadd hx hb dX7_step_111 ?_
      obtain ⟨τ4, e_τ4, hf⟩ := z_lt hf
      refine z_putM hx hb hts (fun w h => List.mem_cons_of_mem _ (List.mem_append_right _ (h))) tyX7 tyX7_ok nmX7 hown E hh (by decide) (by decide) (show zD 66 = _ from rfl) rfl 15 (by decide) rfl (hts (.fieldLink RX7 66 "TownBandModel" "spot" "I") (List.mem_cons_of_mem _ (List.mem_append_left _ (List.mem_of_getElem? (i := 1) rfl)))) rfl rfl e_τ4 dX7_step_112 (fun H locs hh => ?_)
      refine lv_goto (tgt := 84) hx hb dX7_step_115 (by decide) ?_
      exact ih τ4 _ _ _ hf hh (lv_sub hl [0] rfl)
def fX7_step_34 (N : Nat)  (τ : zS) : Option (zS) :=
  zlet (zpf τ 66 16 (τ.1 66 15)) fun τ1 =>
  (fX7_byteAt N τ1 (τ1.1 66 15)).bind fun q2 =>
  zlet (zpf τ1 66 18 (nI 0)) fun τ3 =>
  if q2 = (-4) then
    zlet (zpf τ3 66 17 (nI 0)) fun τ13 =>
    some τ13
  else
    (fX7_in N q2.toInt64 97 122).bind fun q5 =>
    if q5 = 0 then
      (fX7_in N q2.toInt64 48 57).bind fun q7 =>
      if q7 = 0 then
        zlet (zpf τ3 66 17 (nI 3)) fun τ9 =>
        zlet (zpf τ9 66 15 ((τ9.1 66 15) + (nI 1))) fun τ10 =>
        if q2 = (nI 59) then
          some τ10
        else
          (fX7_fails N τ10 (nI 1)).bind fun q12 =>
          some q12
      else
        (fX7_step_140 N (fX7_step_217 N) N) τ3
    else
      (fX7_step_84 N (fX7_step_118 N) N) τ3
set_option maxRecDepth 100000 in
set_option maxHeartbeats 4000000 in
theorem hX7_step_34 {p : Program} {l : Launch} {e : Env} {s : State} {m : MethodId} {args : Array Value} {below : List Frame} {meth : Method} {c : Code} {g : zG} {A : Nat → Prop} {σ : zS} {res : zS} (C : zCx p s m args meth c cX7_step none wsX7_step RX7 2) (E : zE g A s) (N : Nat) : PX7_step_34 p l e s m args below meth c g A σ res (fX7_step_34 N) := by
  obtain ⟨hx, hb, hr, hml, hown, hts, hlocks⟩ := id C
  intro τ H locs ls hf hh hl
  unfold fX7_step_34 at hf
  refine lv_aload_n hx hb dX7_step_34 rfl (lv_at hl 0 rfl) ?_
  refine lv_aload_n hx hb dX7_step_35 rfl (lv_at hl 0 rfl) ?_
  refine z_get (v := .int (τ.1 66 15)) hx hb hts (fun w h => List.mem_cons_of_mem _ (List.mem_append_right _ (h))) hown E hh (by decide) (zC_obj (q := 66) rfl) rfl 15 (by decide) (hts (.fieldLink RX7 66 "TownBandModel" "spot" "I") (List.mem_cons_of_mem _ (List.mem_append_left _ (List.mem_of_getElem? (i := 1) rfl)))) rfl dX7_step_36 ?_
  obtain ⟨τ1, e_τ1, hf⟩ := z_lt hf
  refine z_putM hx hb hts (fun w h => List.mem_cons_of_mem _ (List.mem_append_right _ (h))) tyX7 tyX7_ok nmX7 hown E hh (by decide) (by decide) (show zD 66 = _ from rfl) rfl 16 (by decide) rfl (hts (.fieldLink RX7 57 "TownBandModel" "here" "I") (List.mem_cons_of_mem _ (List.mem_append_left _ (List.mem_of_getElem? (i := 2) rfl)))) rfl rfl e_τ1 dX7_step_39 (fun H locs hh => ?_)
  refine lv_aload_n hx hb dX7_step_42 rfl (lv_at hl 0 rfl) ?_
  refine lv_aload_n hx hb dX7_step_43 rfl (lv_at hl 0 rfl) ?_
  refine z_get (v := .int (τ1.1 66 15)) hx hb hts (fun w h => List.mem_cons_of_mem _ (List.mem_append_right _ (h))) hown E hh (by decide) (zC_obj (q := 66) rfl) rfl 15 (by decide) (hts (.fieldLink RX7 66 "TownBandModel" "spot" "I") (List.mem_cons_of_mem _ (List.mem_append_left _ (List.mem_of_getElem? (i := 1) rfl)))) rfl dX7_step_44 ?_
  obtain ⟨q2, h_q2, hf⟩ := z_bd hf
  refine z_mi (va_runV (As := [.int (τ1.1 66 15)]) (rest := []) ⟨hx, hb, hml, hown, hts⟩ (zcX7_byteAt l g A σ τ1 N (τ1.1 66 15) h_q2) (cwV 1 hts gX7_step_X7_byteAt rfl rfl rfl hdX7_byteAt ⟨by decide, by decide⟩) (z_preV E hh (by decide) (zC_obj (q := 66) rfl) rfl) rfl rfl hl.1 rfl (lv_room (Nat.le_of_ble_eq_true rfl)) dX7_step_47 ⟨Nat.le_refl _, Nat.le_refl _⟩) hh (fun H locs hh => ?_)
  refine lv_istore_n (lv' := [(1, .int q2), (0, .ref (g.2.2 66))]) hx hb dX7_step_50 rfl hl (by decide) rfl (fun ls hl => ?_)
  refine lv_aload_n hx hb dX7_step_51 rfl (lv_at hl 1 rfl) ?_
  refine lv_iconst (v := (nI 0)) hx hb dX7_step_52 (by decide) ?_
  obtain ⟨τ3, e_τ3, hf⟩ := z_lt hf
  refine z_putM hx hb hts (fun w h => List.mem_cons_of_mem _ (List.mem_append_right _ (h))) tyX7 tyX7_ok nmX7 hown E hh (by decide) (by decide) (show zD 66 = _ from rfl) rfl 18 (by decide) rfl (hts (.fieldLink RX7 73 "TownBandModel" "value" "I") (List.mem_cons_of_mem _ (List.mem_append_left _ (List.mem_of_getElem? (i := 3) rfl)))) rfl rfl e_τ3 dX7_step_53 (fun H locs hh => ?_)
  refine lv_iload_n hx hb dX7_step_56 rfl (lv_at hl 0 rfl) ?_
  refine lv_bipush (v := (-4)) hx hb dX7_step_57 (by decide) ?_
  refine lv_icmp_ne (tgt := 70) hx hb dX7_step_59 (by decide) (fun c_v4 => ?_) (fun c_v4 => ?_)
  · have hf := z_in hf c_v4
    refine lv_iload_n hx hb dX7_step_70 rfl (lv_at hl 0 rfl) ?_
    refine lv_i2l hx hb dX7_step_71 rfl ?_
    refine lv_ldc2 (v := 97) hx hb hown (hts (.constantLong RX7 76 (97)) (List.mem_cons_of_mem _ (List.mem_append_left _ (List.mem_of_getElem? (i := 5) rfl)))) dX7_step_72 ?_
    refine lv_ldc2 (v := 122) hx hb hown (hts (.constantLong RX7 78 (122)) (List.mem_cons_of_mem _ (List.mem_append_left _ (List.mem_of_getElem? (i := 6) rfl)))) dX7_step_75 ?_
    obtain ⟨q5, h_q5, hf⟩ := z_bd hf
    refine z_mi (va_runS (As := [.long q2.toInt64, .long 97, .long 122]) (rest := []) ⟨hx, hb, hml, hown, hts⟩ (zcX7_in l g A σ τ3 N q2.toInt64 97 122 h_q5) (va_cwS 3 hts gX7_step_X7_in rfl rfl rfl hdX7_in.2 ⟨by decide, by decide⟩) (z_preS E hh) rfl rfl hl.1 rfl (lv_room (Nat.le_of_ble_eq_true rfl)) dX7_step_78 ⟨Nat.le_refl _, Nat.le_refl _⟩) hh (fun H locs hh => ?_)
    refine lv_if_eq (tgt := 126) hx hb dX7_step_81 (by decide) (fun c_v6 => ?_) (fun c_v6 => ?_)
    · have hf := z_ip hf c_v6
      refine lv_iload_n hx hb dX7_step_126 rfl (lv_at hl 0 rfl) ?_
      refine lv_i2l hx hb dX7_step_127 rfl ?_
      refine lv_ldc2 (v := 48) hx hb hown (hts (.constantLong RX7 80 (48)) (List.mem_cons_of_mem _ (List.mem_append_left _ (List.mem_of_getElem? (i := 7) rfl)))) dX7_step_128 ?_
      refine lv_ldc2 (v := 57) hx hb hown (hts (.constantLong RX7 82 (57)) (List.mem_cons_of_mem _ (List.mem_append_left _ (List.mem_of_getElem? (i := 8) rfl)))) dX7_step_131 ?_
      obtain ⟨q7, h_q7, hf⟩ := z_bd hf
      refine z_mi (va_runS (As := [.long q2.toInt64, .long 48, .long 57]) (rest := []) ⟨hx, hb, hml, hown, hts⟩ (zcX7_in l g A σ τ3 N q2.toInt64 48 57 h_q7) (va_cwS 3 hts gX7_step_X7_in rfl rfl rfl hdX7_in.2 ⟨by decide, by decide⟩) (z_preS E hh) rfl rfl hl.1 rfl (lv_room (Nat.le_of_ble_eq_true rfl)) dX7_step_134 ⟨Nat.le_refl _, Nat.le_refl _⟩) hh (fun H locs hh => ?_)
      refine lv_if_eq (tgt := 243) hx hb dX7_step_137 (by decide) (fun c_v8 => ?_) (fun c_v8 => ?_)
      · have hf := z_ip hf c_v8
        refine lv_aload_n hx hb dX7_step_243 rfl (lv_at hl 1 rfl) ?_
        refine lv_iconst (v := (nI 3)) hx hb dX7_step_244 (by decide) ?_
        obtain ⟨τ9, e_τ9, hf⟩ := z_lt hf
        refine z_putM hx hb hts (fun w h => List.mem_cons_of_mem _ (List.mem_append_right _ (h))) tyX7 tyX7_ok nmX7 hown E hh (by decide) (by decide) (show zD 66 = _ from rfl) rfl 17 (by decide) rfl (hts (.fieldLink RX7 63 "TownBandModel" "token" "I") (List.mem_cons_of_mem _ (List.mem_append_left _ (List.mem_of_getElem? (i := 4) rfl)))) rfl rfl e_τ9 dX7_step_245 (fun H locs hh => ?_)
        refine lv_aload_n hx hb dX7_step_248 rfl (lv_at hl 1 rfl) ?_
        refine lv_dup hx hb dX7_step_249 rfl ?_
        refine z_get (v := .int (τ9.1 66 15)) hx hb hts (fun w h => List.mem_cons_of_mem _ (List.mem_append_right _ (h))) hown E hh (by decide) (zC_obj (q := 66) rfl) rfl 15 (by decide) (hts (.fieldLink RX7 66 "TownBandModel" "spot" "I") (List.mem_cons_of_mem _ (List.mem_append_left _ (List.mem_of_getElem? (i := 1) rfl)))) rfl dX7_step_250 ?_
        refine lv_iconst (v := (nI 1)) hx hb dX7_step_253 (by decide) ?_
        refine lv_iadd hx hb dX7_step_254 ?_
        obtain ⟨τ10, e_τ10, hf⟩ := z_lt hf
        refine z_putM hx hb hts (fun w h => List.mem_cons_of_mem _ (List.mem_append_right _ (h))) tyX7 tyX7_ok nmX7 hown E hh (by decide) (by decide) (show zD 66 = _ from rfl) rfl 15 (by decide) rfl (hts (.fieldLink RX7 66 "TownBandModel" "spot" "I") (List.mem_cons_of_mem _ (List.mem_append_left _ (List.mem_of_getElem? (i := 1) rfl)))) rfl rfl e_τ10 dX7_step_255 (fun H locs hh => ?_)
        refine lv_iload_n hx hb dX7_step_258 rfl (lv_at hl 0 rfl) ?_
        refine lv_bipush (v := (nI 59)) hx hb dX7_step_259 (by decide) ?_
        refine lv_icmp_eq (tgt := 269) hx hb dX7_step_261 (by decide) (fun c_v11 => ?_) (fun c_v11 => ?_)
        · have hf := z_ip hf c_v11
          have hf := Option.some.inj hf
          subst hf
          exact z_vretM hx hb hr hlocks hh dX7_step_269
        · have hf := z_in hf c_v11
          refine lv_aload_n hx hb dX7_step_264 rfl (lv_at hl 1 rfl) ?_
          refine lv_iconst (v := (nI 1)) hx hb dX7_step_265 (by decide) ?_
          obtain ⟨q12, h_q12, hf⟩ := z_bd hf
          refine z_mv (va_runV (As := [.int (nI 1)]) (rest := []) ⟨hx, hb, hml, hown, hts⟩ (zcX7_fails l g A σ τ10 N (nI 1) h_q12) (cwV 1 hts gX7_step_X7_fails rfl rfl rfl hdX7_fails ⟨by decide, by decide⟩) (z_preV E hh (by decide) (zC_obj (q := 66) rfl) rfl) rfl rfl hl.1 rfl (lv_room (Nat.le_of_ble_eq_true rfl)) dX7_step_266 ⟨Nat.le_refl _, Nat.le_refl _⟩) hh (fun H locs hh => ?_)
          have hf := Option.some.inj hf
          subst hf
          exact z_vretM hx hb hr hlocks hh dX7_step_269
      · have hf := z_in hf c_v8
        exact (hX7_step_140 C E N (fX7_step_217 N) (hX7_step_217 C E N) N) τ3 _ _ _ hf hh (lv_sub hl [1] rfl)
    · have hf := z_in hf c_v6
      exact (hX7_step_84 C E N (fX7_step_118 N) (hX7_step_118 C E N) N) τ3 _ _ _ hf hh (lv_sub hl [1] rfl)
  · have hf := z_ip hf c_v4
    refine lv_aload_n hx hb dX7_step_62 rfl (lv_at hl 1 rfl) ?_
    refine lv_iconst (v := (nI 0)) hx hb dX7_step_63 (by decide) ?_
    obtain ⟨τ13, e_τ13, hf⟩ := z_lt hf
    refine z_putM hx hb hts (fun w h => List.mem_cons_of_mem _ (List.mem_append_right _ (h))) tyX7 tyX7_ok nmX7 hown E hh (by decide) (by decide) (show zD 66 = _ from rfl) rfl 17 (by decide) rfl (hts (.fieldLink RX7 63 "TownBandModel" "token" "I") (List.mem_cons_of_mem _ (List.mem_append_left _ (List.mem_of_getElem? (i := 4) rfl)))) rfl rfl e_τ13 dX7_step_64 (fun H locs hh => ?_)
    refine lv_goto (tgt := 269) hx hb dX7_step_67 (by decide) ?_
    have hf := Option.some.inj hf
    subst hf
    exact z_vretM hx hb hr hlocks hh dX7_step_269
def fX7_step_8 (N : Nat) (k_34 : zS → Option (zS)) : Nat → zS → Option (zS)
  | 0, _ => none
  | n + 1, τ =>
    (fX7_byteAt N τ (τ.1 66 15)).bind fun q1 =>
    if q1 = (nI 32) then
      zlet (zpf τ 66 15 ((τ.1 66 15) + (nI 1))) fun τ3 =>
      (fX7_step_8 N k_34 n) τ3
    else
      k_34 τ
set_option maxRecDepth 100000 in
set_option maxHeartbeats 4000000 in
theorem hX7_step_8 {p : Program} {l : Launch} {e : Env} {s : State} {m : MethodId} {args : Array Value} {below : List Frame} {meth : Method} {c : Code} {g : zG} {A : Nat → Prop} {σ : zS} {res : zS} (C : zCx p s m args meth c cX7_step none wsX7_step RX7 2) (E : zE g A s) (N : Nat) (k_34 : zS → Option (zS)) (hk_34 : PX7_step_34 p l e s m args below meth c g A σ res k_34) : ∀ n : Nat, PX7_step_8 p l e s m args below meth c g A σ res (fX7_step_8 N k_34 n) := by
  obtain ⟨hx, hb, hr, hml, hown, hts, hlocks⟩ := id C
  intro n
  induction n with
  | zero =>
    intro τ H locs ls hf
    exact absurd hf (by simp [fX7_step_8])
  | succ n ih =>
    intro τ H locs ls hf hh hl
    rw [fX7_step_8] at hf
    refine lv_aload_n hx hb dX7_step_8 rfl (lv_at hl 0 rfl) ?_
    refine lv_aload_n hx hb dX7_step_9 rfl (lv_at hl 0 rfl) ?_
    refine z_get (v := .int (τ.1 66 15)) hx hb hts (fun w h => List.mem_cons_of_mem _ (List.mem_append_right _ (h))) hown E hh (by decide) (zC_obj (q := 66) rfl) rfl 15 (by decide) (hts (.fieldLink RX7 66 "TownBandModel" "spot" "I") (List.mem_cons_of_mem _ (List.mem_append_left _ (List.mem_of_getElem? (i := 1) rfl)))) rfl dX7_step_10 ?_
    obtain ⟨q1, h_q1, hf⟩ := z_bd hf
    refine z_mi (va_runV (As := [.int (τ.1 66 15)]) (rest := []) ⟨hx, hb, hml, hown, hts⟩ (zcX7_byteAt l g A σ τ N (τ.1 66 15) h_q1) (cwV 1 hts gX7_step_X7_byteAt rfl rfl rfl hdX7_byteAt ⟨by decide, by decide⟩) (z_preV E hh (by decide) (zC_obj (q := 66) rfl) rfl) rfl rfl hl.1 rfl (lv_room (Nat.le_of_ble_eq_true rfl)) dX7_step_13 ⟨Nat.le_refl _, Nat.le_refl _⟩) hh (fun H locs hh => ?_)
    refine lv_bipush (v := (nI 32)) hx hb dX7_step_16 (by decide) ?_
    refine lv_icmp_ne (tgt := 34) hx hb dX7_step_18 (by decide) (fun c_v2 => ?_) (fun c_v2 => ?_)
    · have hf := z_in hf c_v2
      exact hk_34 τ _ _ _ hf hh (lv_sub hl [0] rfl)
    · have hf := z_ip hf c_v2
      refine lv_aload_n hx hb dX7_step_21 rfl (lv_at hl 0 rfl) ?_
      refine lv_dup hx hb dX7_step_22 rfl ?_
      refine z_get (v := .int (τ.1 66 15)) hx hb hts (fun w h => List.mem_cons_of_mem _ (List.mem_append_right _ (h))) hown E hh (by decide) (zC_obj (q := 66) rfl) rfl 15 (by decide) (hts (.fieldLink RX7 66 "TownBandModel" "spot" "I") (List.mem_cons_of_mem _ (List.mem_append_left _ (List.mem_of_getElem? (i := 1) rfl)))) rfl dX7_step_23 ?_
      refine lv_iconst (v := (nI 1)) hx hb dX7_step_26 (by decide) ?_
      refine lv_iadd hx hb dX7_step_27 ?_
      obtain ⟨τ3, e_τ3, hf⟩ := z_lt hf
      refine z_putM hx hb hts (fun w h => List.mem_cons_of_mem _ (List.mem_append_right _ (h))) tyX7 tyX7_ok nmX7 hown E hh (by decide) (by decide) (show zD 66 = _ from rfl) rfl 15 (by decide) rfl (hts (.fieldLink RX7 66 "TownBandModel" "spot" "I") (List.mem_cons_of_mem _ (List.mem_append_left _ (List.mem_of_getElem? (i := 1) rfl)))) rfl rfl e_τ3 dX7_step_28 (fun H locs hh => ?_)
      refine lv_goto (tgt := 8) hx hb dX7_step_31 (by decide) ?_
      exact ih τ3 _ _ _ hf hh (lv_sub hl [0] rfl)
def fX7_step (N : Nat) (τ : zS)  : Option (zS) :=
  if (τ.1 66 13) ≤ 0 then
    (fX7_step_8 N (fX7_step_34 N) N) τ
  else
    some τ
set_option maxRecDepth 100000 in
set_option maxHeartbeats 4000000 in
theorem zcX7_step (l : Launch) (g : zG) (A : Nat → Prop) (σ τ : zS) (N : Nat)   {res : zS} (hf : fX7_step N τ = some res) : Met l yX7_step wsX7_step (zR 1) (zPc g A σ τ [.ref (g.2.2 66)]) (zPv g A σ res) 0 0 A := by
  refine z_met (cc := cX7_step) (ret := none) (own := RX7) (by decide) rfl rfl _ (Nat.le_of_ble_eq_true rfl) ?_
  intro p e s m below meth c C E ls hl hh
  have hl : lv_has ls 2 [(0, .ref (g.2.2 66))] := hl
  obtain ⟨hx, hb, hr, hml, hown, hts, hlocks⟩ := id C
  unfold fX7_step at hf
  refine lv_aload_n hx hb dX7_step_0 rfl (lv_at hl 0 rfl) ?_
  refine z_get (v := .int (τ.1 66 13)) hx hb hts (fun w h => List.mem_cons_of_mem _ (List.mem_append_right _ (h))) hown E hh (by decide) (zC_obj (q := 66) rfl) rfl 13 (by decide) (hts (.fieldLink RX7 54 "TownBandModel" "broken" "I") (List.mem_cons_of_mem _ (List.mem_append_left _ (List.mem_of_getElem? (i := 0) rfl)))) rfl dX7_step_1 ?_
  refine lv_if_le (tgt := 8) hx hb dX7_step_4 (by decide) (fun c_v1 => ?_) (fun c_v1 => ?_)
  · have hf := z_ip hf c_v1
    exact (hX7_step_8 C E N (fX7_step_34 N) (hX7_step_34 C E N) N) τ _ _ _ hf hh (lv_sub hl [0] rfl)
  · have hf := z_in hf c_v1
    have hf := Option.some.inj hf
    subst hf
    exact z_vretM hx hb hr hlocks hh dX7_step_7
/-! ===== X7_other ===== -/
theorem hdX7_other : yX7_other.cls = RX7 ∧ yX7_other.cls ≠ "java/lang/invoke/MethodHandle" ∧ yX7_other.cls ≠ "java/lang/invoke/VarHandle" ∧ (parseMethodDescriptor yX7_other.desc).map (fun d => d.parameters.length) = some 3 := by decide +kernel
def PX7_other_90 (p : Program) (l : Launch) (e : Env) (s : State) (m : MethodId) (args : Array Value) (below : List Frame) (meth : Method) (c : Code) (g : zG) (A : Nat → Prop) (σ : zS) (res : Int32 × zS) (f : Int32 → zS → Option (Int32 × zS)) : Prop := ∀ (s0 : Int32) (τ : zS) (H : Heap) (locs : List Loc) (ls : Array Slot), f s0 τ = some res → zW g A σ τ s H locs → lv_has ls 5 [(0, .ref (g.2.2 66))] → W p l e (zR 2) s m args below meth c H locs 0 0 (MQ below (zPi g A σ res) args s 0 0 A) (F0 m 90 ls [.int s0])
def PX7_other_75 (p : Program) (l : Launch) (e : Env) (s : State) (m : MethodId) (args : Array Value) (below : List Frame) (meth : Method) (c : Code) (g : zG) (A : Nat → Prop) (σ : zS) (res : Int32 × zS) (f : Int32 → zS → Option (Int32 × zS)) : Prop := ∀ (x1 : Int32) (τ : zS) (H : Heap) (locs : List Loc) (ls : Array Slot), f x1 τ = some res → zW g A σ τ s H locs → lv_has ls 5 [(0, .ref (g.2.2 66)), (1, .int x1)] → W p l e (zR 2) s m args below meth c H locs 0 0 (MQ below (zPi g A σ res) args s 0 0 A) (F0 m 75 ls [])
def PX7_other_47 (p : Program) (l : Launch) (e : Env) (s : State) (m : MethodId) (args : Array Value) (below : List Frame) (meth : Method) (c : Code) (g : zG) (A : Nat → Prop) (σ : zS) (res : Int32 × zS) (f : Int32 → Int32 → zS → Option (Int32 × zS)) : Prop := ∀ (x1 : Int32) (x3 : Int32) (τ : zS) (H : Heap) (locs : List Loc) (ls : Array Slot), f x1 x3 τ = some res → zW g A σ τ s H locs → lv_has ls 5 [(0, .ref (g.2.2 66)), (1, .int x1), (3, .int x3)] → W p l e (zR 2) s m args below meth c H locs 0 0 (MQ below (zPi g A σ res) args s 0 0 A) (F0 m 47 ls [])
def PX7_other_20 (p : Program) (l : Launch) (e : Env) (s : State) (m : MethodId) (args : Array Value) (below : List Frame) (meth : Method) (c : Code) (g : zG) (A : Nat → Prop) (σ : zS) (res : Int32 × zS) (f : Int32 → Int32 → Int32 → zS → Option (Int32 × zS)) : Prop := ∀ (x1 : Int32) (x2 : Int32) (x3 : Int32) (τ : zS) (H : Heap) (locs : List Loc) (ls : Array Slot), f x1 x2 x3 τ = some res → zW g A σ τ s H locs → lv_has ls 5 [(0, .ref (g.2.2 66)), (1, .int x1), (2, .int x2), (3, .int x3)] → W p l e (zR 2) s m args below meth c H locs 0 0 (MQ below (zPi g A σ res) args s 0 0 A) (F0 m 20 ls [])
def fX7_other_90 (N : Nat) (s0 : Int32) (τ : zS) : Option (Int32 × zS) :=
  (fX7_step N τ).bind fun q1 =>
  some (s0, q1)
set_option maxRecDepth 100000 in
set_option maxHeartbeats 4000000 in
theorem hX7_other_90 {p : Program} {l : Launch} {e : Env} {s : State} {m : MethodId} {args : Array Value} {below : List Frame} {meth : Method} {c : Code} {g : zG} {A : Nat → Prop} {σ : zS} {res : Int32 × zS} (C : zCx p s m args meth c cX7_other (some .int) wsX7_other RX7 5) (E : zE g A s) (N : Nat) : PX7_other_90 p l e s m args below meth c g A σ res (fX7_other_90 N) := by
  obtain ⟨hx, hb, hr, hml, hown, hts, hlocks⟩ := id C
  intro s0 τ H locs ls hf hh hl
  unfold fX7_other_90 at hf
  refine lv_istore (lv' := [(4, .int s0), (0, .ref (g.2.2 66))]) hx hb dX7_other_90 hl (by decide) rfl (fun ls hl => ?_)
  refine lv_aload_n hx hb dX7_other_92 rfl (lv_at hl 1 rfl) ?_
  obtain ⟨q1, h_q1, hf⟩ := z_bd hf
  refine z_mv (va_runV (As := []) (rest := []) ⟨hx, hb, hml, hown, hts⟩ (zcX7_step l g A σ τ N  h_q1) (cwV 0 hts gX7_other_X7_step rfl rfl rfl hdX7_step ⟨by decide, by decide⟩) (z_preV E hh (by decide) (zC_obj (q := 66) rfl) rfl) rfl rfl hl.1 rfl (lv_room (Nat.le_of_ble_eq_true rfl)) dX7_other_93 ⟨Nat.le_refl _, Nat.le_refl _⟩) hh (fun H locs hh => ?_)
  refine lv_iload hx hb dX7_other_96 (lv_at hl 0 rfl) ?_
  have hf := Option.some.inj hf
  subst hf
  exact z_iretM hx hb hr hlocks hh dX7_other_98
def fX7_other_75 (N : Nat) (x1 : Int32) (τ : zS) : Option (Int32 × zS) :=
  if (τ.1 66 13) = 0 then
    (fX7_other_90 N) (τ.1 66 18) τ
  else
    (fX7_other_90 N) x1 τ
set_option maxRecDepth 100000 in
set_option maxHeartbeats 4000000 in
theorem hX7_other_75 {p : Program} {l : Launch} {e : Env} {s : State} {m : MethodId} {args : Array Value} {below : List Frame} {meth : Method} {c : Code} {g : zG} {A : Nat → Prop} {σ : zS} {res : Int32 × zS} (C : zCx p s m args meth c cX7_other (some .int) wsX7_other RX7 5) (E : zE g A s) (N : Nat) : PX7_other_75 p l e s m args below meth c g A σ res (fX7_other_75 N) := by
  obtain ⟨hx, hb, hr, hml, hown, hts, hlocks⟩ := id C
  intro x1 τ H locs ls hf hh hl
  unfold fX7_other_75 at hf
  refine lv_aload_n hx hb dX7_other_75 rfl (lv_at hl 0 rfl) ?_
  refine z_get (v := .int (τ.1 66 13)) hx hb hts (fun w h => List.mem_cons_of_mem _ (List.mem_append_right _ (h))) hown E hh (by decide) (zC_obj (q := 66) rfl) rfl 13 (by decide) (hts (.fieldLink RX7 54 "TownBandModel" "broken" "I") (List.mem_cons_of_mem _ (List.mem_append_left _ (List.mem_append_left _ (List.mem_of_getElem? (i := 0) rfl))))) rfl dX7_other_76 ?_
  refine lv_if_ne (tgt := 89) hx hb dX7_other_79 (by decide) (fun c_v1 => ?_) (fun c_v1 => ?_)
  · have hf := z_in hf c_v1
    refine lv_iload_n hx hb dX7_other_89 rfl (lv_at hl 1 rfl) ?_
    exact (hX7_other_90 C E N) x1 τ _ _ _ hf hh (lv_sub hl [0] rfl)
  · have hf := z_ip hf c_v1
    refine lv_aload_n hx hb dX7_other_82 rfl (lv_at hl 0 rfl) ?_
    refine z_get (v := .int (τ.1 66 18)) hx hb hts (fun w h => List.mem_cons_of_mem _ (List.mem_append_right _ (h))) hown E hh (by decide) (zC_obj (q := 66) rfl) rfl 18 (by decide) (hts (.fieldLink RX7 73 "TownBandModel" "value" "I") (List.mem_cons_of_mem _ (List.mem_append_left _ (List.mem_append_left _ (List.mem_of_getElem? (i := 2) rfl))))) rfl dX7_other_83 ?_
    refine lv_goto (tgt := 90) hx hb dX7_other_86 (by decide) ?_
    exact (hX7_other_90 C E N) (τ.1 66 18) τ _ _ _ hf hh (lv_sub hl [0] rfl)
def fX7_other_47 (N : Nat) (x1 : Int32) (x3 : Int32) (τ : zS) : Option (Int32 × zS) :=
  if (τ.1 66 13) = 0 then
    if x3 = 0 then
      (fX7_other_75 N) x1 τ
    else
      if ((x3 >>> ((τ.1 66 18) &&& 31)) &&& (nI 1)) = (nI 1) then
        (fX7_fails N τ (nI 4)).bind fun q4 =>
        (fX7_other_75 N) x1 q4
      else
        (fX7_other_75 N) x1 τ
  else
    (fX7_other_75 N) x1 τ
set_option maxRecDepth 100000 in
set_option maxHeartbeats 4000000 in
theorem hX7_other_47 {p : Program} {l : Launch} {e : Env} {s : State} {m : MethodId} {args : Array Value} {below : List Frame} {meth : Method} {c : Code} {g : zG} {A : Nat → Prop} {σ : zS} {res : Int32 × zS} (C : zCx p s m args meth c cX7_other (some .int) wsX7_other RX7 5) (E : zE g A s) (N : Nat) : PX7_other_47 p l e s m args below meth c g A σ res (fX7_other_47 N) := by
  obtain ⟨hx, hb, hr, hml, hown, hts, hlocks⟩ := id C
  intro x1 x3 τ H locs ls hf hh hl
  unfold fX7_other_47 at hf
  refine lv_aload_n hx hb dX7_other_47 rfl (lv_at hl 0 rfl) ?_
  refine z_get (v := .int (τ.1 66 13)) hx hb hts (fun w h => List.mem_cons_of_mem _ (List.mem_append_right _ (h))) hown E hh (by decide) (zC_obj (q := 66) rfl) rfl 13 (by decide) (hts (.fieldLink RX7 54 "TownBandModel" "broken" "I") (List.mem_cons_of_mem _ (List.mem_append_left _ (List.mem_append_left _ (List.mem_of_getElem? (i := 0) rfl))))) rfl dX7_other_48 ?_
  refine lv_if_ne (tgt := 75) hx hb dX7_other_51 (by decide) (fun c_v1 => ?_) (fun c_v1 => ?_)
  · have hf := z_in hf c_v1
    exact (hX7_other_75 C E N) x1 τ _ _ _ hf hh (lv_sub hl [0, 1] rfl)
  · have hf := z_ip hf c_v1
    refine lv_iload_n hx hb dX7_other_54 rfl (lv_at hl 2 rfl) ?_
    refine lv_if_eq (tgt := 75) hx hb dX7_other_55 (by decide) (fun c_v2 => ?_) (fun c_v2 => ?_)
    · have hf := z_ip hf c_v2
      exact (hX7_other_75 C E N) x1 τ _ _ _ hf hh (lv_sub hl [0, 1] rfl)
    · have hf := z_in hf c_v2
      refine lv_iload_n hx hb dX7_other_58 rfl (lv_at hl 2 rfl) ?_
      refine lv_aload_n hx hb dX7_other_59 rfl (lv_at hl 0 rfl) ?_
      refine z_get (v := .int (τ.1 66 18)) hx hb hts (fun w h => List.mem_cons_of_mem _ (List.mem_append_right _ (h))) hown E hh (by decide) (zC_obj (q := 66) rfl) rfl 18 (by decide) (hts (.fieldLink RX7 73 "TownBandModel" "value" "I") (List.mem_cons_of_mem _ (List.mem_append_left _ (List.mem_append_left _ (List.mem_of_getElem? (i := 2) rfl))))) rfl dX7_other_60 ?_
      refine lv_ishr hx hb dX7_other_63 ?_
      refine lv_iconst (v := (nI 1)) hx hb dX7_other_64 (by decide) ?_
      refine lv_iand hx hb dX7_other_65 ?_
      refine lv_iconst (v := (nI 1)) hx hb dX7_other_66 (by decide) ?_
      refine lv_icmp_ne (tgt := 75) hx hb dX7_other_67 (by decide) (fun c_v3 => ?_) (fun c_v3 => ?_)
      · have hf := z_in hf c_v3
        exact (hX7_other_75 C E N) x1 τ _ _ _ hf hh (lv_sub hl [0, 1] rfl)
      · have hf := z_ip hf c_v3
        refine lv_aload_n hx hb dX7_other_70 rfl (lv_at hl 0 rfl) ?_
        refine lv_iconst (v := (nI 4)) hx hb dX7_other_71 (by decide) ?_
        obtain ⟨q4, h_q4, hf⟩ := z_bd hf
        refine z_mv (va_runV (As := [.int (nI 4)]) (rest := []) ⟨hx, hb, hml, hown, hts⟩ (zcX7_fails l g A σ τ N (nI 4) h_q4) (cwV 1 hts gX7_other_X7_fails rfl rfl rfl hdX7_fails ⟨by decide, by decide⟩) (z_preV E hh (by decide) (zC_obj (q := 66) rfl) rfl) rfl rfl hl.1 rfl (lv_room (Nat.le_of_ble_eq_true rfl)) dX7_other_72 ⟨Nat.le_refl _, Nat.le_refl _⟩) hh (fun H locs hh => ?_)
        exact (hX7_other_75 C E N) x1 q4 _ _ _ hf hh (lv_sub hl [0, 1] rfl)
def fX7_other_20 (N : Nat) (x1 : Int32) (x2 : Int32) (x3 : Int32) (τ : zS) : Option (Int32 × zS) :=
  if (τ.1 66 13) = 0 then
    (fX7_in N (((τ.1 66 18)).toInt64) x1.toInt64 x2.toInt64).bind fun q2 =>
    if q2 = 0 then
      (fX7_fails N τ (nI 3)).bind fun q4 =>
      (fX7_other_47 N) x1 x3 q4
    else
      (fX7_other_47 N) x1 x3 τ
  else
    (fX7_other_47 N) x1 x3 τ
set_option maxRecDepth 100000 in
set_option maxHeartbeats 4000000 in
theorem hX7_other_20 {p : Program} {l : Launch} {e : Env} {s : State} {m : MethodId} {args : Array Value} {below : List Frame} {meth : Method} {c : Code} {g : zG} {A : Nat → Prop} {σ : zS} {res : Int32 × zS} (C : zCx p s m args meth c cX7_other (some .int) wsX7_other RX7 5) (E : zE g A s) (N : Nat) : PX7_other_20 p l e s m args below meth c g A σ res (fX7_other_20 N) := by
  obtain ⟨hx, hb, hr, hml, hown, hts, hlocks⟩ := id C
  intro x1 x2 x3 τ H locs ls hf hh hl
  unfold fX7_other_20 at hf
  refine lv_aload_n hx hb dX7_other_20 rfl (lv_at hl 0 rfl) ?_
  refine z_get (v := .int (τ.1 66 13)) hx hb hts (fun w h => List.mem_cons_of_mem _ (List.mem_append_right _ (h))) hown E hh (by decide) (zC_obj (q := 66) rfl) rfl 13 (by decide) (hts (.fieldLink RX7 54 "TownBandModel" "broken" "I") (List.mem_cons_of_mem _ (List.mem_append_left _ (List.mem_append_left _ (List.mem_of_getElem? (i := 0) rfl))))) rfl dX7_other_21 ?_
  refine lv_if_ne (tgt := 47) hx hb dX7_other_24 (by decide) (fun c_v1 => ?_) (fun c_v1 => ?_)
  · have hf := z_in hf c_v1
    exact (hX7_other_47 C E N) x1 x3 τ _ _ _ hf hh (lv_sub hl [0, 1, 3] rfl)
  · have hf := z_ip hf c_v1
    refine lv_aload_n hx hb dX7_other_27 rfl (lv_at hl 0 rfl) ?_
    refine z_get (v := .int (τ.1 66 18)) hx hb hts (fun w h => List.mem_cons_of_mem _ (List.mem_append_right _ (h))) hown E hh (by decide) (zC_obj (q := 66) rfl) rfl 18 (by decide) (hts (.fieldLink RX7 73 "TownBandModel" "value" "I") (List.mem_cons_of_mem _ (List.mem_append_left _ (List.mem_append_left _ (List.mem_of_getElem? (i := 2) rfl))))) rfl dX7_other_28 ?_
    refine lv_i2l hx hb dX7_other_31 rfl ?_
    refine lv_iload_n hx hb dX7_other_32 rfl (lv_at hl 1 rfl) ?_
    refine lv_i2l hx hb dX7_other_33 rfl ?_
    refine lv_iload_n hx hb dX7_other_34 rfl (lv_at hl 2 rfl) ?_
    refine lv_i2l hx hb dX7_other_35 rfl ?_
    obtain ⟨q2, h_q2, hf⟩ := z_bd hf
    refine z_mi (va_runS (As := [.long (((τ.1 66 18)).toInt64), .long x1.toInt64, .long x2.toInt64]) (rest := []) ⟨hx, hb, hml, hown, hts⟩ (zcX7_in l g A σ τ N (((τ.1 66 18)).toInt64) x1.toInt64 x2.toInt64 h_q2) (va_cwS 3 hts gX7_other_X7_in rfl rfl rfl hdX7_in.2 ⟨by decide, by decide⟩) (z_preS E hh) rfl rfl hl.1 rfl (lv_room (Nat.le_of_ble_eq_true rfl)) dX7_other_36 ⟨Nat.le_refl _, Nat.le_refl _⟩) hh (fun H locs hh => ?_)
    refine lv_if_ne (tgt := 47) hx hb dX7_other_39 (by decide) (fun c_v3 => ?_) (fun c_v3 => ?_)
    · have hf := z_in hf c_v3
      exact (hX7_other_47 C E N) x1 x3 τ _ _ _ hf hh (lv_sub hl [0, 1, 3] rfl)
    · have hf := z_ip hf c_v3
      refine lv_aload_n hx hb dX7_other_42 rfl (lv_at hl 0 rfl) ?_
      refine lv_iconst (v := (nI 3)) hx hb dX7_other_43 (by decide) ?_
      obtain ⟨q4, h_q4, hf⟩ := z_bd hf
      refine z_mv (va_runV (As := [.int (nI 3)]) (rest := []) ⟨hx, hb, hml, hown, hts⟩ (zcX7_fails l g A σ τ N (nI 3) h_q4) (cwV 1 hts gX7_other_X7_fails rfl rfl rfl hdX7_fails ⟨by decide, by decide⟩) (z_preV E hh (by decide) (zC_obj (q := 66) rfl) rfl) rfl rfl hl.1 rfl (lv_room (Nat.le_of_ble_eq_true rfl)) dX7_other_44 ⟨Nat.le_refl _, Nat.le_refl _⟩) hh (fun H locs hh => ?_)
      exact (hX7_other_47 C E N) x1 x3 q4 _ _ _ hf hh (lv_sub hl [0, 1, 3] rfl)
def fX7_other (N : Nat) (τ : zS) (x1 : Int32) (x2 : Int32) (x3 : Int32) : Option (Int32 × zS) :=
  if (τ.1 66 13) = 0 then
    if (τ.1 66 17) = (nI 2) then
      (fX7_other_20 N) x1 x2 x3 τ
    else
      (fX7_fails N τ (nI 2)).bind fun q3 =>
      (fX7_other_20 N) x1 x2 x3 q3
  else
    (fX7_other_20 N) x1 x2 x3 τ
set_option maxRecDepth 100000 in
set_option maxHeartbeats 4000000 in
theorem zcX7_other (l : Launch) (g : zG) (A : Nat → Prop) (σ τ : zS) (N : Nat) (x1 : Int32) (x2 : Int32) (x3 : Int32)  {res : Int32 × zS} (hf : fX7_other N τ x1 x2 x3 = some res) : Met l yX7_other wsX7_other (zR 2) (zPc g A σ τ [.ref (g.2.2 66), .int x1, .int x2, .int x3]) (zPi g A σ res) 0 0 A := by
  refine z_met (cc := cX7_other) (ret := (some .int)) (own := RX7) (by decide) rfl rfl _ (Nat.le_of_ble_eq_true rfl) ?_
  intro p e s m below meth c C E ls hl hh
  have hl : lv_has ls 5 [(0, .ref (g.2.2 66)), (1, .int x1), (2, .int x2), (3, .int x3)] := hl
  obtain ⟨hx, hb, hr, hml, hown, hts, hlocks⟩ := id C
  unfold fX7_other at hf
  refine lv_aload_n hx hb dX7_other_0 rfl (lv_at hl 0 rfl) ?_
  refine z_get (v := .int (τ.1 66 13)) hx hb hts (fun w h => List.mem_cons_of_mem _ (List.mem_append_right _ (h))) hown E hh (by decide) (zC_obj (q := 66) rfl) rfl 13 (by decide) (hts (.fieldLink RX7 54 "TownBandModel" "broken" "I") (List.mem_cons_of_mem _ (List.mem_append_left _ (List.mem_append_left _ (List.mem_of_getElem? (i := 0) rfl))))) rfl dX7_other_1 ?_
  refine lv_if_ne (tgt := 20) hx hb dX7_other_4 (by decide) (fun c_v1 => ?_) (fun c_v1 => ?_)
  · have hf := z_in hf c_v1
    exact (hX7_other_20 C E N) x1 x2 x3 τ _ _ _ hf hh (lv_sub hl [0, 1, 2, 3] rfl)
  · have hf := z_ip hf c_v1
    refine lv_aload_n hx hb dX7_other_7 rfl (lv_at hl 0 rfl) ?_
    refine z_get (v := .int (τ.1 66 17)) hx hb hts (fun w h => List.mem_cons_of_mem _ (List.mem_append_right _ (h))) hown E hh (by decide) (zC_obj (q := 66) rfl) rfl 17 (by decide) (hts (.fieldLink RX7 63 "TownBandModel" "token" "I") (List.mem_cons_of_mem _ (List.mem_append_left _ (List.mem_append_left _ (List.mem_of_getElem? (i := 1) rfl))))) rfl dX7_other_8 ?_
    refine lv_iconst (v := (nI 2)) hx hb dX7_other_11 (by decide) ?_
    refine lv_icmp_eq (tgt := 20) hx hb dX7_other_12 (by decide) (fun c_v2 => ?_) (fun c_v2 => ?_)
    · have hf := z_ip hf c_v2
      exact (hX7_other_20 C E N) x1 x2 x3 τ _ _ _ hf hh (lv_sub hl [0, 1, 2, 3] rfl)
    · have hf := z_in hf c_v2
      refine lv_aload_n hx hb dX7_other_15 rfl (lv_at hl 0 rfl) ?_
      refine lv_iconst (v := (nI 2)) hx hb dX7_other_16 (by decide) ?_
      obtain ⟨q3, h_q3, hf⟩ := z_bd hf
      refine z_mv (va_runV (As := [.int (nI 2)]) (rest := []) ⟨hx, hb, hml, hown, hts⟩ (zcX7_fails l g A σ τ N (nI 2) h_q3) (cwV 1 hts gX7_other_X7_fails rfl rfl rfl hdX7_fails ⟨by decide, by decide⟩) (z_preV E hh (by decide) (zC_obj (q := 66) rfl) rfl) rfl rfl hl.1 rfl (lv_room (Nat.le_of_ble_eq_true rfl)) dX7_other_17 ⟨Nat.le_refl _, Nat.le_refl _⟩) hh (fun H locs hh => ?_)
      exact (hX7_other_20 C E N) x1 x2 x3 q3 _ _ _ hf hh (lv_sub hl [0, 1, 2, 3] rfl)
/-! ===== X7_readTower ===== -/
theorem hdX7_readTower : yX7_readTower.cls = RX7 ∧ yX7_readTower.cls ≠ "java/lang/invoke/MethodHandle" ∧ yX7_readTower.cls ≠ "java/lang/invoke/VarHandle" ∧ (parseMethodDescriptor yX7_readTower.desc).map (fun d => d.parameters.length) = some 0 := by decide +kernel
def PX7_readTower_72 (p : Program) (l : Launch) (e : Env) (s : State) (m : MethodId) (args : Array Value) (below : List Frame) (meth : Method) (c : Code) (g : zG) (A : Nat → Prop) (σ : zS) (res : zS) (f : zS → Option (zS)) : Prop := ∀  (τ : zS) (H : Heap) (locs : List Loc) (ls : Array Slot), f τ = some res → zW g A σ τ s H locs → lv_has ls 2 [(0, .ref (g.2.2 66))] → W p l e (zR 3) s m args below meth c H locs 0 0 (MQ below (zPv g A σ res) args s 0 0 A) (F0 m 72 ls [])
def PX7_readTower_0 (p : Program) (l : Launch) (e : Env) (s : State) (m : MethodId) (args : Array Value) (below : List Frame) (meth : Method) (c : Code) (g : zG) (A : Nat → Prop) (σ : zS) (res : zS) (f : zS → Option (zS)) : Prop := ∀  (τ : zS) (H : Heap) (locs : List Loc) (ls : Array Slot), f τ = some res → zW g A σ τ s H locs → lv_has ls 2 [(0, .ref (g.2.2 66))] → W p l e (zR 3) s m args below meth c H locs 0 0 (MQ below (zPv g A σ res) args s 0 0 A) (F0 m 0 ls [])
def fX7_readTower_72 (N : Nat) (rc : zS → Option (zS))  (τ : zS) : Option (zS) :=
  rc τ
set_option maxRecDepth 100000 in
set_option maxHeartbeats 4000000 in
theorem hX7_readTower_72 {p : Program} {l : Launch} {e : Env} {s : State} {m : MethodId} {args : Array Value} {below : List Frame} {meth : Method} {c : Code} {g : zG} {A : Nat → Prop} {σ : zS} {res : zS} (C : zCx p s m args meth c cX7_readTower none wsX7_readTower RX7 2) (E : zE g A s) (N : Nat) (rc : zS → Option (zS)) (hrc : PX7_readTower_0 p l e s m args below meth c g A σ res rc) : PX7_readTower_72 p l e s m args below meth c g A σ res (fX7_readTower_72 N rc) := by
  obtain ⟨hx, hb, hr, hml, hown, hts, hlocks⟩ := id C
  intro τ H locs ls hf hh hl
  unfold fX7_readTower_72 at hf
  refine lv_goto (tgt := 0) hx hb dX7_readTower_72 (by decide) ?_
  exact hrc τ _ _ _ hf hh (lv_sub hl [0] rfl)
def fX7_readTower_0 (N : Nat) : Nat → zS → Option (zS)
  | 0, _ => none
  | n + 1, τ =>
    if (τ.1 66 13) = 0 then
      if (τ.1 66 17) = (nI 2) then
        (fX7_other N τ (nI 0) (nI 4) (τ.1 66 7)).bind fun q3 =>
        if (q3.2.1 66 13) = 0 then
          zlet (zpf q3.2 66 7 ((q3.2.1 66 7) ||| ((nI 1) <<< (q3.1 &&& 31)))) fun τ5 =>
          if zin (nI 24) (zlen 56) then
          zlet (τ5.2 56 (nI 24).toNatClampNeg) fun v7 =>
          if zin ((nI 19) + v7) (zlen 56) then
          zlet (zpa τ5 56 (upd (τ5.2 56) ((nI 19) + v7).toNatClampNeg q3.1)) fun τ9 =>
          if zin (nI 24) (zlen 56) then
          zlet (τ9.2 56 (nI 24).toNatClampNeg) fun v11 =>
          if zin (nI 24) (zlen 56) then
          zlet (zpa τ9 56 (upd (τ9.2 56) (nI 24).toNatClampNeg (v11 + (nI 1)))) fun τ13 =>
          (fX7_readTower_72 N (fX7_readTower_0 N n)) τ13
          else none
          else none
          else none
          else none
        else
          (fX7_readTower_72 N (fX7_readTower_0 N n)) q3.2
      else
        some τ
    else
      some τ
set_option maxRecDepth 100000 in
set_option maxHeartbeats 4000000 in
theorem hX7_readTower_0 {p : Program} {l : Launch} {e : Env} {s : State} {m : MethodId} {args : Array Value} {below : List Frame} {meth : Method} {c : Code} {g : zG} {A : Nat → Prop} {σ : zS} {res : zS} (C : zCx p s m args meth c cX7_readTower none wsX7_readTower RX7 2) (E : zE g A s) (N : Nat) : ∀ n : Nat, PX7_readTower_0 p l e s m args below meth c g A σ res (fX7_readTower_0 N n) := by
  obtain ⟨hx, hb, hr, hml, hown, hts, hlocks⟩ := id C
  intro n
  induction n with
  | zero =>
    intro τ H locs ls hf
    exact absurd hf (by simp [fX7_readTower_0])
  | succ n ih =>
    intro τ H locs ls hf hh hl
    rw [fX7_readTower_0] at hf
    refine lv_aload_n hx hb dX7_readTower_0 rfl (lv_at hl 0 rfl) ?_
    refine z_get (v := .int (τ.1 66 13)) hx hb hts (fun w h => List.mem_cons_of_mem _ (List.mem_append_right _ (h))) hown E hh (by decide) (zC_obj (q := 66) rfl) rfl 13 (by decide) (hts (.fieldLink RX7 54 "TownBandModel" "broken" "I") (List.mem_cons_of_mem _ (List.mem_append_left _ (List.mem_append_left _ (List.mem_of_getElem? (i := 0) rfl))))) rfl dX7_readTower_1 ?_
    refine lv_if_ne (tgt := 75) hx hb dX7_readTower_4 (by decide) (fun c_v1 => ?_) (fun c_v1 => ?_)
    · have hf := z_in hf c_v1
      have hf := Option.some.inj hf
      subst hf
      exact z_vretM hx hb hr hlocks hh dX7_readTower_75
    · have hf := z_ip hf c_v1
      refine lv_aload_n hx hb dX7_readTower_7 rfl (lv_at hl 0 rfl) ?_
      refine z_get (v := .int (τ.1 66 17)) hx hb hts (fun w h => List.mem_cons_of_mem _ (List.mem_append_right _ (h))) hown E hh (by decide) (zC_obj (q := 66) rfl) rfl 17 (by decide) (hts (.fieldLink RX7 63 "TownBandModel" "token" "I") (List.mem_cons_of_mem _ (List.mem_append_left _ (List.mem_append_left _ (List.mem_of_getElem? (i := 1) rfl))))) rfl dX7_readTower_8 ?_
      refine lv_iconst (v := (nI 2)) hx hb dX7_readTower_11 (by decide) ?_
      refine lv_icmp_ne (tgt := 75) hx hb dX7_readTower_12 (by decide) (fun c_v2 => ?_) (fun c_v2 => ?_)
      · have hf := z_in hf c_v2
        have hf := Option.some.inj hf
        subst hf
        exact z_vretM hx hb hr hlocks hh dX7_readTower_75
      · have hf := z_ip hf c_v2
        refine lv_aload_n hx hb dX7_readTower_15 rfl (lv_at hl 0 rfl) ?_
        refine lv_iconst (v := (nI 0)) hx hb dX7_readTower_16 (by decide) ?_
        refine lv_iconst (v := (nI 4)) hx hb dX7_readTower_17 (by decide) ?_
        refine lv_aload_n hx hb dX7_readTower_18 rfl (lv_at hl 0 rfl) ?_
        refine z_get (v := .int (τ.1 66 7)) hx hb hts (fun w h => List.mem_cons_of_mem _ (List.mem_append_right _ (h))) hown E hh (by decide) (zC_obj (q := 66) rfl) rfl 7 (by decide) (hts (.fieldLink RX7 91 "TownBandModel" "towerTold" "I") (List.mem_cons_of_mem _ (List.mem_append_left _ (List.mem_append_left _ (List.mem_of_getElem? (i := 2) rfl))))) rfl dX7_readTower_19 ?_
        obtain ⟨q3, h_q3, hf⟩ := z_bd hf
        refine z_mi (va_runV (As := [.int (nI 0), .int (nI 4), .int (τ.1 66 7)]) (rest := []) ⟨hx, hb, hml, hown, hts⟩ (zcX7_other l g A σ τ N (nI 0) (nI 4) (τ.1 66 7) h_q3) (cwV 3 hts gX7_readTower_X7_other rfl rfl rfl hdX7_other ⟨by decide, by decide⟩) (z_preV E hh (by decide) (zC_obj (q := 66) rfl) rfl) rfl rfl hl.1 rfl (lv_room (Nat.le_of_ble_eq_true rfl)) dX7_readTower_22 ⟨Nat.le_refl _, Nat.le_refl _⟩) hh (fun H locs hh => ?_)
        refine lv_istore_n (lv' := [(1, .int q3.1), (0, .ref (g.2.2 66))]) hx hb dX7_readTower_25 rfl hl (by decide) rfl (fun ls hl => ?_)
        refine lv_aload_n hx hb dX7_readTower_26 rfl (lv_at hl 1 rfl) ?_
        refine z_get (v := .int (q3.2.1 66 13)) hx hb hts (fun w h => List.mem_cons_of_mem _ (List.mem_append_right _ (h))) hown E hh (by decide) (zC_obj (q := 66) rfl) rfl 13 (by decide) (hts (.fieldLink RX7 54 "TownBandModel" "broken" "I") (List.mem_cons_of_mem _ (List.mem_append_left _ (List.mem_append_left _ (List.mem_of_getElem? (i := 0) rfl))))) rfl dX7_readTower_27 ?_
        refine lv_if_ne (tgt := 72) hx hb dX7_readTower_30 (by decide) (fun c_v4 => ?_) (fun c_v4 => ?_)
        · have hf := z_in hf c_v4
          exact (hX7_readTower_72 C E N (fX7_readTower_0 N n) ih) q3.2 _ _ _ hf hh (lv_sub hl [1] rfl)
        · have hf := z_ip hf c_v4
          refine lv_aload_n hx hb dX7_readTower_33 rfl (lv_at hl 1 rfl) ?_
          refine lv_dup hx hb dX7_readTower_34 rfl ?_
          refine z_get (v := .int (q3.2.1 66 7)) hx hb hts (fun w h => List.mem_cons_of_mem _ (List.mem_append_right _ (h))) hown E hh (by decide) (zC_obj (q := 66) rfl) rfl 7 (by decide) (hts (.fieldLink RX7 91 "TownBandModel" "towerTold" "I") (List.mem_cons_of_mem _ (List.mem_append_left _ (List.mem_append_left _ (List.mem_of_getElem? (i := 2) rfl))))) rfl dX7_readTower_35 ?_
          refine lv_iconst (v := (nI 1)) hx hb dX7_readTower_38 (by decide) ?_
          refine lv_iload_n hx hb dX7_readTower_39 rfl (lv_at hl 0 rfl) ?_
          refine lv_ishl hx hb dX7_readTower_40 ?_
          refine lv_ior hx hb dX7_readTower_41 ?_
          obtain ⟨τ5, e_τ5, hf⟩ := z_lt hf
          refine z_putM hx hb hts (fun w h => List.mem_cons_of_mem _ (List.mem_append_right _ (h))) tyX7 tyX7_ok nmX7 hown E hh (by decide) (by decide) (show zD 66 = _ from rfl) rfl 7 (by decide) rfl (hts (.fieldLink RX7 91 "TownBandModel" "towerTold" "I") (List.mem_cons_of_mem _ (List.mem_append_left _ (List.mem_append_left _ (List.mem_of_getElem? (i := 2) rfl))))) rfl rfl e_τ5 dX7_readTower_42 (fun H locs hh => ?_)
          refine lv_aload_n hx hb dX7_readTower_45 rfl (lv_at hl 1 rfl) ?_
          refine z_get (v := .ref (g.2.2 56)) hx hb hts (fun w h => List.mem_cons_of_mem _ (List.mem_append_right _ (h))) hown E hh (by decide) (zC_obj (q := 66) rfl) rfl 3 (by decide) (hts (.fieldLink RX7 13 "TownBandModel" "readPage" "[I") (List.mem_cons_of_mem _ (List.mem_append_left _ (List.mem_append_left _ (List.mem_of_getElem? (i := 3) rfl))))) rfl dX7_readTower_46 ?_
          refine lv_bipush (v := (nI 19)) hx hb dX7_readTower_49 (by decide) ?_
          refine lv_aload_n hx hb dX7_readTower_51 rfl (lv_at hl 1 rfl) ?_
          refine z_get (v := .ref (g.2.2 56)) hx hb hts (fun w h => List.mem_cons_of_mem _ (List.mem_append_right _ (h))) hown E hh (by decide) (zC_obj (q := 66) rfl) rfl 3 (by decide) (hts (.fieldLink RX7 13 "TownBandModel" "readPage" "[I") (List.mem_cons_of_mem _ (List.mem_append_left _ (List.mem_append_left _ (List.mem_of_getElem? (i := 3) rfl))))) rfl dX7_readTower_52 ?_
          refine lv_bipush (v := (nI 24)) hx hb dX7_readTower_55 (by decide) ?_
          obtain ⟨h_v6, hf⟩ := z_if hf
          obtain ⟨v7, e_v7, hf⟩ := z_lt hf
          refine z_ialdM hx hb E hh (by decide) (by decide) h_v6 e_v7 dX7_readTower_57 ?_
          refine lv_iadd hx hb dX7_readTower_58 ?_
          refine lv_iload_n hx hb dX7_readTower_59 rfl (lv_at hl 0 rfl) ?_
          obtain ⟨h_v8, hf⟩ := z_if hf
          obtain ⟨τ9, e_τ9, hf⟩ := z_lt hf
          refine z_iastM hx hb E hh (by decide) (by decide) h_v8 e_τ9 dX7_readTower_60 (fun H locs hh => ?_)
          refine lv_aload_n hx hb dX7_readTower_61 rfl (lv_at hl 1 rfl) ?_
          refine z_get (v := .ref (g.2.2 56)) hx hb hts (fun w h => List.mem_cons_of_mem _ (List.mem_append_right _ (h))) hown E hh (by decide) (zC_obj (q := 66) rfl) rfl 3 (by decide) (hts (.fieldLink RX7 13 "TownBandModel" "readPage" "[I") (List.mem_cons_of_mem _ (List.mem_append_left _ (List.mem_append_left _ (List.mem_of_getElem? (i := 3) rfl))))) rfl dX7_readTower_62 ?_
          refine lv_bipush (v := (nI 24)) hx hb dX7_readTower_65 (by decide) ?_
          refine lv_dup2_11 hx hb dX7_readTower_67 rfl rfl ?_
          obtain ⟨h_v10, hf⟩ := z_if hf
          obtain ⟨v11, e_v11, hf⟩ := z_lt hf
          refine z_ialdM hx hb E hh (by decide) (by decide) h_v10 e_v11 dX7_readTower_68 ?_
          refine lv_iconst (v := (nI 1)) hx hb dX7_readTower_69 (by decide) ?_
          refine lv_iadd hx hb dX7_readTower_70 ?_
          obtain ⟨h_v12, hf⟩ := z_if hf
          obtain ⟨τ13, e_τ13, hf⟩ := z_lt hf
          refine z_iastM hx hb E hh (by decide) (by decide) h_v12 e_τ13 dX7_readTower_71 (fun H locs hh => ?_)
          exact (hX7_readTower_72 C E N (fX7_readTower_0 N n) ih) τ13 _ _ _ hf hh (lv_sub hl [1] rfl)
def fX7_readTower (N : Nat) (τ : zS)  : Option (zS) :=
  (fX7_readTower_0 N N) τ
set_option maxRecDepth 100000 in
set_option maxHeartbeats 4000000 in
theorem zcX7_readTower (l : Launch) (g : zG) (A : Nat → Prop) (σ τ : zS) (N : Nat)   {res : zS} (hf : fX7_readTower N τ = some res) : Met l yX7_readTower wsX7_readTower (zR 3) (zPc g A σ τ [.ref (g.2.2 66)]) (zPv g A σ res) 0 0 A := by
  refine z_met (cc := cX7_readTower) (ret := none) (own := RX7) (by decide) rfl rfl _ (Nat.le_of_ble_eq_true rfl) ?_
  intro p e s m below meth c C E ls hl hh
  have hl : lv_has ls 2 [(0, .ref (g.2.2 66))] := hl
  obtain ⟨hx, hb, hr, hml, hown, hts, hlocks⟩ := id C
  unfold fX7_readTower at hf
  exact (hX7_readTower_0 C E N N) τ _ _ _ hf hh (lv_sub hl [0] rfl)
/-! ===== X7_readBeds ===== -/
theorem hdX7_readBeds : yX7_readBeds.cls = RX7 ∧ yX7_readBeds.cls ≠ "java/lang/invoke/MethodHandle" ∧ yX7_readBeds.cls ≠ "java/lang/invoke/VarHandle" ∧ (parseMethodDescriptor yX7_readBeds.desc).map (fun d => d.parameters.length) = some 0 := by decide +kernel
def PX7_readBeds_73 (p : Program) (l : Launch) (e : Env) (s : State) (m : MethodId) (args : Array Value) (below : List Frame) (meth : Method) (c : Code) (g : zG) (A : Nat → Prop) (σ : zS) (res : zS) (f : zS → Option (zS)) : Prop := ∀  (τ : zS) (H : Heap) (locs : List Loc) (ls : Array Slot), f τ = some res → zW g A σ τ s H locs → lv_has ls 2 [(0, .ref (g.2.2 66))] → W p l e (zR 3) s m args below meth c H locs 0 0 (MQ below (zPv g A σ res) args s 0 0 A) (F0 m 73 ls [])
def PX7_readBeds_0 (p : Program) (l : Launch) (e : Env) (s : State) (m : MethodId) (args : Array Value) (below : List Frame) (meth : Method) (c : Code) (g : zG) (A : Nat → Prop) (σ : zS) (res : zS) (f : zS → Option (zS)) : Prop := ∀  (τ : zS) (H : Heap) (locs : List Loc) (ls : Array Slot), f τ = some res → zW g A σ τ s H locs → lv_has ls 2 [(0, .ref (g.2.2 66))] → W p l e (zR 3) s m args below meth c H locs 0 0 (MQ below (zPv g A σ res) args s 0 0 A) (F0 m 0 ls [])
def fX7_readBeds_73 (N : Nat) (rc : zS → Option (zS))  (τ : zS) : Option (zS) :=
  rc τ
set_option maxRecDepth 100000 in
set_option maxHeartbeats 4000000 in
theorem hX7_readBeds_73 {p : Program} {l : Launch} {e : Env} {s : State} {m : MethodId} {args : Array Value} {below : List Frame} {meth : Method} {c : Code} {g : zG} {A : Nat → Prop} {σ : zS} {res : zS} (C : zCx p s m args meth c cX7_readBeds none wsX7_readBeds RX7 2) (E : zE g A s) (N : Nat) (rc : zS → Option (zS)) (hrc : PX7_readBeds_0 p l e s m args below meth c g A σ res rc) : PX7_readBeds_73 p l e s m args below meth c g A σ res (fX7_readBeds_73 N rc) := by
  obtain ⟨hx, hb, hr, hml, hown, hts, hlocks⟩ := id C
  intro τ H locs ls hf hh hl
  unfold fX7_readBeds_73 at hf
  refine lv_goto (tgt := 0) hx hb dX7_readBeds_73 (by decide) ?_
  exact hrc τ _ _ _ hf hh (lv_sub hl [0] rfl)
def fX7_readBeds_0 (N : Nat) : Nat → zS → Option (zS)
  | 0, _ => none
  | n + 1, τ =>
    if (τ.1 66 13) = 0 then
      if (τ.1 66 17) = (nI 2) then
        (fX7_other N τ (nI 0) (nI 4) (τ.1 66 8)).bind fun q3 =>
        if (q3.2.1 66 13) = 0 then
          zlet (zpf q3.2 66 8 ((q3.2.1 66 8) ||| ((nI 1) <<< (q3.1 &&& 31)))) fun τ5 =>
          if zin ((nI 25) + (τ5.1 66 9)) (zlen 56) then
          zlet (zpa τ5 56 (upd (τ5.2 56) ((nI 25) + (τ5.1 66 9)).toNatClampNeg (q3.1 - (τ5.1 66 9)))) fun τ7 =>
          zlet (zpf τ7 66 9 ((τ7.1 66 9) + (nI 1))) fun τ8 =>
          (fX7_readBeds_73 N (fX7_readBeds_0 N n)) τ8
          else none
        else
          (fX7_readBeds_73 N (fX7_readBeds_0 N n)) q3.2
      else
        some τ
    else
      some τ
set_option maxRecDepth 100000 in
set_option maxHeartbeats 4000000 in
theorem hX7_readBeds_0 {p : Program} {l : Launch} {e : Env} {s : State} {m : MethodId} {args : Array Value} {below : List Frame} {meth : Method} {c : Code} {g : zG} {A : Nat → Prop} {σ : zS} {res : zS} (C : zCx p s m args meth c cX7_readBeds none wsX7_readBeds RX7 2) (E : zE g A s) (N : Nat) : ∀ n : Nat, PX7_readBeds_0 p l e s m args below meth c g A σ res (fX7_readBeds_0 N n) := by
  obtain ⟨hx, hb, hr, hml, hown, hts, hlocks⟩ := id C
  intro n
  induction n with
  | zero =>
    intro τ H locs ls hf
    exact absurd hf (by simp [fX7_readBeds_0])
  | succ n ih =>
    intro τ H locs ls hf hh hl
    rw [fX7_readBeds_0] at hf
    refine lv_aload_n hx hb dX7_readBeds_0 rfl (lv_at hl 0 rfl) ?_
    refine z_get (v := .int (τ.1 66 13)) hx hb hts (fun w h => List.mem_cons_of_mem _ (List.mem_append_right _ (h))) hown E hh (by decide) (zC_obj (q := 66) rfl) rfl 13 (by decide) (hts (.fieldLink RX7 54 "TownBandModel" "broken" "I") (List.mem_cons_of_mem _ (List.mem_append_left _ (List.mem_append_left _ (List.mem_of_getElem? (i := 0) rfl))))) rfl dX7_readBeds_1 ?_
    refine lv_if_ne (tgt := 76) hx hb dX7_readBeds_4 (by decide) (fun c_v1 => ?_) (fun c_v1 => ?_)
    · have hf := z_in hf c_v1
      have hf := Option.some.inj hf
      subst hf
      exact z_vretM hx hb hr hlocks hh dX7_readBeds_76
    · have hf := z_ip hf c_v1
      refine lv_aload_n hx hb dX7_readBeds_7 rfl (lv_at hl 0 rfl) ?_
      refine z_get (v := .int (τ.1 66 17)) hx hb hts (fun w h => List.mem_cons_of_mem _ (List.mem_append_right _ (h))) hown E hh (by decide) (zC_obj (q := 66) rfl) rfl 17 (by decide) (hts (.fieldLink RX7 63 "TownBandModel" "token" "I") (List.mem_cons_of_mem _ (List.mem_append_left _ (List.mem_append_left _ (List.mem_of_getElem? (i := 1) rfl))))) rfl dX7_readBeds_8 ?_
      refine lv_iconst (v := (nI 2)) hx hb dX7_readBeds_11 (by decide) ?_
      refine lv_icmp_ne (tgt := 76) hx hb dX7_readBeds_12 (by decide) (fun c_v2 => ?_) (fun c_v2 => ?_)
      · have hf := z_in hf c_v2
        have hf := Option.some.inj hf
        subst hf
        exact z_vretM hx hb hr hlocks hh dX7_readBeds_76
      · have hf := z_ip hf c_v2
        refine lv_aload_n hx hb dX7_readBeds_15 rfl (lv_at hl 0 rfl) ?_
        refine lv_iconst (v := (nI 0)) hx hb dX7_readBeds_16 (by decide) ?_
        refine lv_iconst (v := (nI 4)) hx hb dX7_readBeds_17 (by decide) ?_
        refine lv_aload_n hx hb dX7_readBeds_18 rfl (lv_at hl 0 rfl) ?_
        refine z_get (v := .int (τ.1 66 8)) hx hb hts (fun w h => List.mem_cons_of_mem _ (List.mem_append_right _ (h))) hown E hh (by decide) (zC_obj (q := 66) rfl) rfl 8 (by decide) (hts (.fieldLink RX7 98 "TownBandModel" "bedsTold" "I") (List.mem_cons_of_mem _ (List.mem_append_left _ (List.mem_append_left _ (List.mem_of_getElem? (i := 2) rfl))))) rfl dX7_readBeds_19 ?_
        obtain ⟨q3, h_q3, hf⟩ := z_bd hf
        refine z_mi (va_runV (As := [.int (nI 0), .int (nI 4), .int (τ.1 66 8)]) (rest := []) ⟨hx, hb, hml, hown, hts⟩ (zcX7_other l g A σ τ N (nI 0) (nI 4) (τ.1 66 8) h_q3) (cwV 3 hts gX7_readBeds_X7_other rfl rfl rfl hdX7_other ⟨by decide, by decide⟩) (z_preV E hh (by decide) (zC_obj (q := 66) rfl) rfl) rfl rfl hl.1 rfl (lv_room (Nat.le_of_ble_eq_true rfl)) dX7_readBeds_22 ⟨Nat.le_refl _, Nat.le_refl _⟩) hh (fun H locs hh => ?_)
        refine lv_istore_n (lv' := [(1, .int q3.1), (0, .ref (g.2.2 66))]) hx hb dX7_readBeds_25 rfl hl (by decide) rfl (fun ls hl => ?_)
        refine lv_aload_n hx hb dX7_readBeds_26 rfl (lv_at hl 1 rfl) ?_
        refine z_get (v := .int (q3.2.1 66 13)) hx hb hts (fun w h => List.mem_cons_of_mem _ (List.mem_append_right _ (h))) hown E hh (by decide) (zC_obj (q := 66) rfl) rfl 13 (by decide) (hts (.fieldLink RX7 54 "TownBandModel" "broken" "I") (List.mem_cons_of_mem _ (List.mem_append_left _ (List.mem_append_left _ (List.mem_of_getElem? (i := 0) rfl))))) rfl dX7_readBeds_27 ?_
        refine lv_if_ne (tgt := 73) hx hb dX7_readBeds_30 (by decide) (fun c_v4 => ?_) (fun c_v4 => ?_)
        · have hf := z_in hf c_v4
          exact (hX7_readBeds_73 C E N (fX7_readBeds_0 N n) ih) q3.2 _ _ _ hf hh (lv_sub hl [1] rfl)
        · have hf := z_ip hf c_v4
          refine lv_aload_n hx hb dX7_readBeds_33 rfl (lv_at hl 1 rfl) ?_
          refine lv_dup hx hb dX7_readBeds_34 rfl ?_
          refine z_get (v := .int (q3.2.1 66 8)) hx hb hts (fun w h => List.mem_cons_of_mem _ (List.mem_append_right _ (h))) hown E hh (by decide) (zC_obj (q := 66) rfl) rfl 8 (by decide) (hts (.fieldLink RX7 98 "TownBandModel" "bedsTold" "I") (List.mem_cons_of_mem _ (List.mem_append_left _ (List.mem_append_left _ (List.mem_of_getElem? (i := 2) rfl))))) rfl dX7_readBeds_35 ?_
          refine lv_iconst (v := (nI 1)) hx hb dX7_readBeds_38 (by decide) ?_
          refine lv_iload_n hx hb dX7_readBeds_39 rfl (lv_at hl 0 rfl) ?_
          refine lv_ishl hx hb dX7_readBeds_40 ?_
          refine lv_ior hx hb dX7_readBeds_41 ?_
          obtain ⟨τ5, e_τ5, hf⟩ := z_lt hf
          refine z_putM hx hb hts (fun w h => List.mem_cons_of_mem _ (List.mem_append_right _ (h))) tyX7 tyX7_ok nmX7 hown E hh (by decide) (by decide) (show zD 66 = _ from rfl) rfl 8 (by decide) rfl (hts (.fieldLink RX7 98 "TownBandModel" "bedsTold" "I") (List.mem_cons_of_mem _ (List.mem_append_left _ (List.mem_append_left _ (List.mem_of_getElem? (i := 2) rfl))))) rfl rfl e_τ5 dX7_readBeds_42 (fun H locs hh => ?_)
          refine lv_aload_n hx hb dX7_readBeds_45 rfl (lv_at hl 1 rfl) ?_
          refine z_get (v := .ref (g.2.2 56)) hx hb hts (fun w h => List.mem_cons_of_mem _ (List.mem_append_right _ (h))) hown E hh (by decide) (zC_obj (q := 66) rfl) rfl 3 (by decide) (hts (.fieldLink RX7 13 "TownBandModel" "readPage" "[I") (List.mem_cons_of_mem _ (List.mem_append_left _ (List.mem_append_left _ (List.mem_of_getElem? (i := 3) rfl))))) rfl dX7_readBeds_46 ?_
          refine lv_bipush (v := (nI 25)) hx hb dX7_readBeds_49 (by decide) ?_
          refine lv_aload_n hx hb dX7_readBeds_51 rfl (lv_at hl 1 rfl) ?_
          refine z_get (v := .int (τ5.1 66 9)) hx hb hts (fun w h => List.mem_cons_of_mem _ (List.mem_append_right _ (h))) hown E hh (by decide) (zC_obj (q := 66) rfl) rfl 9 (by decide) (hts (.fieldLink RX7 101 "TownBandModel" "bedMany" "I") (List.mem_cons_of_mem _ (List.mem_append_left _ (List.mem_append_left _ (List.mem_of_getElem? (i := 4) rfl))))) rfl dX7_readBeds_52 ?_
          refine lv_iadd hx hb dX7_readBeds_55 ?_
          refine lv_iload_n hx hb dX7_readBeds_56 rfl (lv_at hl 0 rfl) ?_
          refine lv_aload_n hx hb dX7_readBeds_57 rfl (lv_at hl 1 rfl) ?_
          refine z_get (v := .int (τ5.1 66 9)) hx hb hts (fun w h => List.mem_cons_of_mem _ (List.mem_append_right _ (h))) hown E hh (by decide) (zC_obj (q := 66) rfl) rfl 9 (by decide) (hts (.fieldLink RX7 101 "TownBandModel" "bedMany" "I") (List.mem_cons_of_mem _ (List.mem_append_left _ (List.mem_append_left _ (List.mem_of_getElem? (i := 4) rfl))))) rfl dX7_readBeds_58 ?_
          refine lv_isub hx hb dX7_readBeds_61 ?_
          obtain ⟨h_v6, hf⟩ := z_if hf
          obtain ⟨τ7, e_τ7, hf⟩ := z_lt hf
          refine z_iastM hx hb E hh (by decide) (by decide) h_v6 e_τ7 dX7_readBeds_62 (fun H locs hh => ?_)
          refine lv_aload_n hx hb dX7_readBeds_63 rfl (lv_at hl 1 rfl) ?_
          refine lv_dup hx hb dX7_readBeds_64 rfl ?_
          refine z_get (v := .int (τ7.1 66 9)) hx hb hts (fun w h => List.mem_cons_of_mem _ (List.mem_append_right _ (h))) hown E hh (by decide) (zC_obj (q := 66) rfl) rfl 9 (by decide) (hts (.fieldLink RX7 101 "TownBandModel" "bedMany" "I") (List.mem_cons_of_mem _ (List.mem_append_left _ (List.mem_append_left _ (List.mem_of_getElem? (i := 4) rfl))))) rfl dX7_readBeds_65 ?_
          refine lv_iconst (v := (nI 1)) hx hb dX7_readBeds_68 (by decide) ?_
          refine lv_iadd hx hb dX7_readBeds_69 ?_
          obtain ⟨τ8, e_τ8, hf⟩ := z_lt hf
          refine z_putM hx hb hts (fun w h => List.mem_cons_of_mem _ (List.mem_append_right _ (h))) tyX7 tyX7_ok nmX7 hown E hh (by decide) (by decide) (show zD 66 = _ from rfl) rfl 9 (by decide) rfl (hts (.fieldLink RX7 101 "TownBandModel" "bedMany" "I") (List.mem_cons_of_mem _ (List.mem_append_left _ (List.mem_append_left _ (List.mem_of_getElem? (i := 4) rfl))))) rfl rfl e_τ8 dX7_readBeds_70 (fun H locs hh => ?_)
          exact (hX7_readBeds_73 C E N (fX7_readBeds_0 N n) ih) τ8 _ _ _ hf hh (lv_sub hl [1] rfl)
def fX7_readBeds (N : Nat) (τ : zS)  : Option (zS) :=
  (fX7_readBeds_0 N N) τ
set_option maxRecDepth 100000 in
set_option maxHeartbeats 4000000 in
theorem zcX7_readBeds (l : Launch) (g : zG) (A : Nat → Prop) (σ τ : zS) (N : Nat)   {res : zS} (hf : fX7_readBeds N τ = some res) : Met l yX7_readBeds wsX7_readBeds (zR 3) (zPc g A σ τ [.ref (g.2.2 66)]) (zPv g A σ res) 0 0 A := by
  refine z_met (cc := cX7_readBeds) (ret := none) (own := RX7) (by decide) rfl rfl _ (Nat.le_of_ble_eq_true rfl) ?_
  intro p e s m below meth c C E ls hl hh
  have hl : lv_has ls 2 [(0, .ref (g.2.2 66))] := hl
  obtain ⟨hx, hb, hr, hml, hown, hts, hlocks⟩ := id C
  unfold fX7_readBeds at hf
  exact (hX7_readBeds_0 C E N N) τ _ _ _ hf hh (lv_sub hl [0] rfl)
/-! ===== X7_readMore ===== -/
theorem hdX7_readMore : yX7_readMore.cls = RX7 ∧ yX7_readMore.cls ≠ "java/lang/invoke/MethodHandle" ∧ yX7_readMore.cls ≠ "java/lang/invoke/VarHandle" ∧ (parseMethodDescriptor yX7_readMore.desc).map (fun d => d.parameters.length) = some 1 := by decide +kernel
def fX7_readMore (N : Nat) (τ : zS) (x1 : Int32) : Option (zS) :=
  if (nI 3) < x1 then
    if x1 = (nI 4) then
      (fX7_other N τ (nI 0) (nI 99) (nI 0)).bind fun q10 =>
      if zin ((nI 15) + (τ.1 66 5)) (zlen 56) then
      zlet (zpa q10.2 56 (upd (q10.2.2 56) ((nI 15) + (τ.1 66 5)).toNatClampNeg q10.1)) fun τ12 =>
      zlet (zpf τ12 66 5 ((τ12.1 66 5) + (nI 1))) fun τ13 =>
      some τ13
      else none
    else
      if x1 = (nI 5) then
        (fX7_other N τ (nI 0) (nI 40) (nI 0)).bind fun q7 =>
        if zin (nI 30) (zlen 56) then
        zlet (zpa q7.2 56 (upd (q7.2.2 56) (nI 30).toNatClampNeg (q7.1 - (nI 5)))) fun τ9 =>
        some τ9
        else none
      else
        if x1 = (nI 6) then
          (fX7_readTower N τ).bind fun q6 =>
          some q6
        else
          (fX7_readBeds N τ).bind fun q5 =>
          some q5
  else
    if zin (τ.1 66 4) (zlen 56) then
    zlet (zpa τ 56 (upd (τ.2 56) (τ.1 66 4).toNatClampNeg x1)) fun τ15 =>
    (fX7_other N τ15 (nI 1) (nI 9) (nI 0)).bind fun q16 =>
    if zin ((nI 5) + (τ15.1 66 4)) (zlen 56) then
    zlet (zpa q16.2 56 (upd (q16.2.2 56) ((nI 5) + (τ15.1 66 4)).toNatClampNeg q16.1)) fun τ18 =>
    (fX7_other N τ18 (nI 0) (nI 9) (nI 0)).bind fun q19 =>
    if zin ((nI 10) + (τ18.1 66 4)) (zlen 56) then
    zlet (zpa q19.2 56 (upd (q19.2.2 56) ((nI 10) + (τ18.1 66 4)).toNatClampNeg q19.1)) fun τ21 =>
    zlet (zpf τ21 66 4 ((τ21.1 66 4) + (nI 1))) fun τ22 =>
    some τ22
    else none
    else none
    else none
set_option maxRecDepth 100000 in
set_option maxHeartbeats 4000000 in
theorem zcX7_readMore (l : Launch) (g : zG) (A : Nat → Prop) (σ τ : zS) (N : Nat) (x1 : Int32)  {res : zS} (hf : fX7_readMore N τ x1 = some res) : Met l yX7_readMore wsX7_readMore (zR 4) (zPc g A σ τ [.ref (g.2.2 66), .int x1]) (zPv g A σ res) 0 0 A := by
  refine z_met (cc := cX7_readMore) (ret := none) (own := RX7) (by decide) rfl rfl _ (Nat.le_of_ble_eq_true rfl) ?_
  intro p e s m below meth c C E ls hl hh
  have hl : lv_has ls 2 [(0, .ref (g.2.2 66)), (1, .int x1)] := hl
  obtain ⟨hx, hb, hr, hml, hown, hts, hlocks⟩ := id C
  unfold fX7_readMore at hf
  refine lv_iload_n hx hb dX7_readMore_0 rfl (lv_at hl 1 rfl) ?_
  refine lv_iconst (v := (nI 3)) hx hb dX7_readMore_1 (by decide) ?_
  refine lv_icmp_gt (tgt := 67) hx hb dX7_readMore_2 (by decide) (fun c_v1 => ?_) (fun c_v1 => ?_)
  · have hf := z_ip hf c_v1
    refine lv_iload_n hx hb dX7_readMore_67 rfl (lv_at hl 1 rfl) ?_
    refine lv_iconst (v := (nI 4)) hx hb dX7_readMore_68 (by decide) ?_
    refine lv_icmp_ne (tgt := 105) hx hb dX7_readMore_69 (by decide) (fun c_v2 => ?_) (fun c_v2 => ?_)
    · have hf := z_in hf c_v2
      refine lv_iload_n hx hb dX7_readMore_105 rfl (lv_at hl 1 rfl) ?_
      refine lv_iconst (v := (nI 5)) hx hb dX7_readMore_106 (by decide) ?_
      refine lv_icmp_ne (tgt := 130) hx hb dX7_readMore_107 (by decide) (fun c_v3 => ?_) (fun c_v3 => ?_)
      · have hf := z_in hf c_v3
        refine lv_iload_n hx hb dX7_readMore_130 rfl (lv_at hl 1 rfl) ?_
        refine lv_bipush (v := (nI 6)) hx hb dX7_readMore_131 (by decide) ?_
        refine lv_icmp_ne (tgt := 143) hx hb dX7_readMore_133 (by decide) (fun c_v4 => ?_) (fun c_v4 => ?_)
        · have hf := z_in hf c_v4
          refine lv_aload_n hx hb dX7_readMore_143 rfl (lv_at hl 0 rfl) ?_
          obtain ⟨q5, h_q5, hf⟩ := z_bd hf
          refine z_mv (va_runV (As := []) (rest := []) ⟨hx, hb, hml, hown, hts⟩ (zcX7_readBeds l g A σ τ N  h_q5) (cwV 0 hts gX7_readMore_X7_readBeds rfl rfl rfl hdX7_readBeds ⟨by decide, by decide⟩) (z_preV E hh (by decide) (zC_obj (q := 66) rfl) rfl) rfl rfl hl.1 rfl (lv_room (Nat.le_of_ble_eq_true rfl)) dX7_readMore_144 ⟨Nat.le_refl _, Nat.le_refl _⟩) hh (fun H locs hh => ?_)
          have hf := Option.some.inj hf
          subst hf
          exact z_vretM hx hb hr hlocks hh dX7_readMore_147
        · have hf := z_ip hf c_v4
          refine lv_aload_n hx hb dX7_readMore_136 rfl (lv_at hl 0 rfl) ?_
          obtain ⟨q6, h_q6, hf⟩ := z_bd hf
          refine z_mv (va_runV (As := []) (rest := []) ⟨hx, hb, hml, hown, hts⟩ (zcX7_readTower l g A σ τ N  h_q6) (cwV 0 hts gX7_readMore_X7_readTower rfl rfl rfl hdX7_readTower ⟨by decide, by decide⟩) (z_preV E hh (by decide) (zC_obj (q := 66) rfl) rfl) rfl rfl hl.1 rfl (lv_room (Nat.le_of_ble_eq_true rfl)) dX7_readMore_137 ⟨Nat.le_refl _, Nat.le_refl _⟩) hh (fun H locs hh => ?_)
          refine lv_goto (tgt := 147) hx hb dX7_readMore_140 (by decide) ?_
          have hf := Option.some.inj hf
          subst hf
          exact z_vretM hx hb hr hlocks hh dX7_readMore_147
      · have hf := z_ip hf c_v3
        refine lv_aload_n hx hb dX7_readMore_110 rfl (lv_at hl 0 rfl) ?_
        refine z_get (v := .ref (g.2.2 56)) hx hb hts (fun w h => List.mem_cons_of_mem _ (List.mem_append_right _ (h))) hown E hh (by decide) (zC_obj (q := 66) rfl) rfl 3 (by decide) (hts (.fieldLink RX7 13 "TownBandModel" "readPage" "[I") (List.mem_cons_of_mem _ (List.mem_append_left _ (List.mem_append_left _ (List.mem_of_getElem? (i := 0) rfl))))) rfl dX7_readMore_111 ?_
        refine lv_bipush (v := (nI 30)) hx hb dX7_readMore_114 (by decide) ?_
        refine lv_aload_n hx hb dX7_readMore_116 rfl (lv_at hl 0 rfl) ?_
        refine lv_iconst (v := (nI 0)) hx hb dX7_readMore_117 (by decide) ?_
        refine lv_bipush (v := (nI 40)) hx hb dX7_readMore_118 (by decide) ?_
        refine lv_iconst (v := (nI 0)) hx hb dX7_readMore_120 (by decide) ?_
        obtain ⟨q7, h_q7, hf⟩ := z_bd hf
        refine z_mi (va_runV (As := [.int (nI 0), .int (nI 40), .int (nI 0)]) (rest := [.int (nI 30), .ref (g.2.2 56)]) ⟨hx, hb, hml, hown, hts⟩ (zcX7_other l g A σ τ N (nI 0) (nI 40) (nI 0) h_q7) (cwV 3 hts gX7_readMore_X7_other rfl rfl rfl hdX7_other ⟨by decide, by decide⟩) (z_preV E hh (by decide) (zC_obj (q := 66) rfl) rfl) rfl rfl hl.1 rfl (lv_room (Nat.le_of_ble_eq_true rfl)) dX7_readMore_121 ⟨Nat.le_refl _, Nat.le_refl _⟩) hh (fun H locs hh => ?_)
        refine lv_iconst (v := (nI 5)) hx hb dX7_readMore_124 (by decide) ?_
        refine lv_isub hx hb dX7_readMore_125 ?_
        obtain ⟨h_v8, hf⟩ := z_if hf
        obtain ⟨τ9, e_τ9, hf⟩ := z_lt hf
        refine z_iastM hx hb E hh (by decide) (by decide) h_v8 e_τ9 dX7_readMore_126 (fun H locs hh => ?_)
        refine lv_goto (tgt := 147) hx hb dX7_readMore_127 (by decide) ?_
        have hf := Option.some.inj hf
        subst hf
        exact z_vretM hx hb hr hlocks hh dX7_readMore_147
    · have hf := z_ip hf c_v2
      refine lv_aload_n hx hb dX7_readMore_72 rfl (lv_at hl 0 rfl) ?_
      refine z_get (v := .ref (g.2.2 56)) hx hb hts (fun w h => List.mem_cons_of_mem _ (List.mem_append_right _ (h))) hown E hh (by decide) (zC_obj (q := 66) rfl) rfl 3 (by decide) (hts (.fieldLink RX7 13 "TownBandModel" "readPage" "[I") (List.mem_cons_of_mem _ (List.mem_append_left _ (List.mem_append_left _ (List.mem_of_getElem? (i := 0) rfl))))) rfl dX7_readMore_73 ?_
      refine lv_bipush (v := (nI 15)) hx hb dX7_readMore_76 (by decide) ?_
      refine lv_aload_n hx hb dX7_readMore_78 rfl (lv_at hl 0 rfl) ?_
      refine z_get (v := .int (τ.1 66 5)) hx hb hts (fun w h => List.mem_cons_of_mem _ (List.mem_append_right _ (h))) hown E hh (by decide) (zC_obj (q := 66) rfl) rfl 5 (by decide) (hts (.fieldLink RX7 107 "TownBandModel" "readRobbers" "I") (List.mem_cons_of_mem _ (List.mem_append_left _ (List.mem_append_left _ (List.mem_of_getElem? (i := 2) rfl))))) rfl dX7_readMore_79 ?_
      refine lv_iadd hx hb dX7_readMore_82 ?_
      refine lv_aload_n hx hb dX7_readMore_83 rfl (lv_at hl 0 rfl) ?_
      refine lv_iconst (v := (nI 0)) hx hb dX7_readMore_84 (by decide) ?_
      refine lv_bipush (v := (nI 99)) hx hb dX7_readMore_85 (by decide) ?_
      refine lv_iconst (v := (nI 0)) hx hb dX7_readMore_87 (by decide) ?_
      obtain ⟨q10, h_q10, hf⟩ := z_bd hf
      refine z_mi (va_runV (As := [.int (nI 0), .int (nI 99), .int (nI 0)]) (rest := [.int ((nI 15) + (τ.1 66 5)), .ref (g.2.2 56)]) ⟨hx, hb, hml, hown, hts⟩ (zcX7_other l g A σ τ N (nI 0) (nI 99) (nI 0) h_q10) (cwV 3 hts gX7_readMore_X7_other rfl rfl rfl hdX7_other ⟨by decide, by decide⟩) (z_preV E hh (by decide) (zC_obj (q := 66) rfl) rfl) rfl rfl hl.1 rfl (lv_room (Nat.le_of_ble_eq_true rfl)) dX7_readMore_88 ⟨Nat.le_refl _, Nat.le_refl _⟩) hh (fun H locs hh => ?_)
      obtain ⟨h_v11, hf⟩ := z_if hf
      obtain ⟨τ12, e_τ12, hf⟩ := z_lt hf
      refine z_iastM hx hb E hh (by decide) (by decide) h_v11 e_τ12 dX7_readMore_91 (fun H locs hh => ?_)
      refine lv_aload_n hx hb dX7_readMore_92 rfl (lv_at hl 0 rfl) ?_
      refine lv_dup hx hb dX7_readMore_93 rfl ?_
      refine z_get (v := .int (τ12.1 66 5)) hx hb hts (fun w h => List.mem_cons_of_mem _ (List.mem_append_right _ (h))) hown E hh (by decide) (zC_obj (q := 66) rfl) rfl 5 (by decide) (hts (.fieldLink RX7 107 "TownBandModel" "readRobbers" "I") (List.mem_cons_of_mem _ (List.mem_append_left _ (List.mem_append_left _ (List.mem_of_getElem? (i := 2) rfl))))) rfl dX7_readMore_94 ?_
      refine lv_iconst (v := (nI 1)) hx hb dX7_readMore_97 (by decide) ?_
      refine lv_iadd hx hb dX7_readMore_98 ?_
      obtain ⟨τ13, e_τ13, hf⟩ := z_lt hf
      refine z_putM hx hb hts (fun w h => List.mem_cons_of_mem _ (List.mem_append_right _ (h))) tyX7 tyX7_ok nmX7 hown E hh (by decide) (by decide) (show zD 66 = _ from rfl) rfl 5 (by decide) rfl (hts (.fieldLink RX7 107 "TownBandModel" "readRobbers" "I") (List.mem_cons_of_mem _ (List.mem_append_left _ (List.mem_append_left _ (List.mem_of_getElem? (i := 2) rfl))))) rfl rfl e_τ13 dX7_readMore_99 (fun H locs hh => ?_)
      refine lv_goto (tgt := 147) hx hb dX7_readMore_102 (by decide) ?_
      have hf := Option.some.inj hf
      subst hf
      exact z_vretM hx hb hr hlocks hh dX7_readMore_147
  · have hf := z_in hf c_v1
    refine lv_aload_n hx hb dX7_readMore_5 rfl (lv_at hl 0 rfl) ?_
    refine z_get (v := .ref (g.2.2 56)) hx hb hts (fun w h => List.mem_cons_of_mem _ (List.mem_append_right _ (h))) hown E hh (by decide) (zC_obj (q := 66) rfl) rfl 3 (by decide) (hts (.fieldLink RX7 13 "TownBandModel" "readPage" "[I") (List.mem_cons_of_mem _ (List.mem_append_left _ (List.mem_append_left _ (List.mem_of_getElem? (i := 0) rfl))))) rfl dX7_readMore_6 ?_
    refine lv_aload_n hx hb dX7_readMore_9 rfl (lv_at hl 0 rfl) ?_
    refine z_get (v := .int (τ.1 66 4)) hx hb hts (fun w h => List.mem_cons_of_mem _ (List.mem_append_right _ (h))) hown E hh (by decide) (zC_obj (q := 66) rfl) rfl 4 (by decide) (hts (.fieldLink RX7 104 "TownBandModel" "readBeasts" "I") (List.mem_cons_of_mem _ (List.mem_append_left _ (List.mem_append_left _ (List.mem_of_getElem? (i := 1) rfl))))) rfl dX7_readMore_10 ?_
    refine lv_iload_n hx hb dX7_readMore_13 rfl (lv_at hl 1 rfl) ?_
    obtain ⟨h_v14, hf⟩ := z_if hf
    obtain ⟨τ15, e_τ15, hf⟩ := z_lt hf
    refine z_iastM hx hb E hh (by decide) (by decide) h_v14 e_τ15 dX7_readMore_14 (fun H locs hh => ?_)
    refine lv_aload_n hx hb dX7_readMore_15 rfl (lv_at hl 0 rfl) ?_
    refine z_get (v := .ref (g.2.2 56)) hx hb hts (fun w h => List.mem_cons_of_mem _ (List.mem_append_right _ (h))) hown E hh (by decide) (zC_obj (q := 66) rfl) rfl 3 (by decide) (hts (.fieldLink RX7 13 "TownBandModel" "readPage" "[I") (List.mem_cons_of_mem _ (List.mem_append_left _ (List.mem_append_left _ (List.mem_of_getElem? (i := 0) rfl))))) rfl dX7_readMore_16 ?_
    refine lv_iconst (v := (nI 5)) hx hb dX7_readMore_19 (by decide) ?_
    refine lv_aload_n hx hb dX7_readMore_20 rfl (lv_at hl 0 rfl) ?_
    refine z_get (v := .int (τ15.1 66 4)) hx hb hts (fun w h => List.mem_cons_of_mem _ (List.mem_append_right _ (h))) hown E hh (by decide) (zC_obj (q := 66) rfl) rfl 4 (by decide) (hts (.fieldLink RX7 104 "TownBandModel" "readBeasts" "I") (List.mem_cons_of_mem _ (List.mem_append_left _ (List.mem_append_left _ (List.mem_of_getElem? (i := 1) rfl))))) rfl dX7_readMore_21 ?_
    refine lv_iadd hx hb dX7_readMore_24 ?_
    refine lv_aload_n hx hb dX7_readMore_25 rfl (lv_at hl 0 rfl) ?_
    refine lv_iconst (v := (nI 1)) hx hb dX7_readMore_26 (by decide) ?_
    refine lv_bipush (v := (nI 9)) hx hb dX7_readMore_27 (by decide) ?_
    refine lv_iconst (v := (nI 0)) hx hb dX7_readMore_29 (by decide) ?_
    obtain ⟨q16, h_q16, hf⟩ := z_bd hf
    refine z_mi (va_runV (As := [.int (nI 1), .int (nI 9), .int (nI 0)]) (rest := [.int ((nI 5) + (τ15.1 66 4)), .ref (g.2.2 56)]) ⟨hx, hb, hml, hown, hts⟩ (zcX7_other l g A σ τ15 N (nI 1) (nI 9) (nI 0) h_q16) (cwV 3 hts gX7_readMore_X7_other rfl rfl rfl hdX7_other ⟨by decide, by decide⟩) (z_preV E hh (by decide) (zC_obj (q := 66) rfl) rfl) rfl rfl hl.1 rfl (lv_room (Nat.le_of_ble_eq_true rfl)) dX7_readMore_30 ⟨Nat.le_refl _, Nat.le_refl _⟩) hh (fun H locs hh => ?_)
    obtain ⟨h_v17, hf⟩ := z_if hf
    obtain ⟨τ18, e_τ18, hf⟩ := z_lt hf
    refine z_iastM hx hb E hh (by decide) (by decide) h_v17 e_τ18 dX7_readMore_33 (fun H locs hh => ?_)
    refine lv_aload_n hx hb dX7_readMore_34 rfl (lv_at hl 0 rfl) ?_
    refine z_get (v := .ref (g.2.2 56)) hx hb hts (fun w h => List.mem_cons_of_mem _ (List.mem_append_right _ (h))) hown E hh (by decide) (zC_obj (q := 66) rfl) rfl 3 (by decide) (hts (.fieldLink RX7 13 "TownBandModel" "readPage" "[I") (List.mem_cons_of_mem _ (List.mem_append_left _ (List.mem_append_left _ (List.mem_of_getElem? (i := 0) rfl))))) rfl dX7_readMore_35 ?_
    refine lv_bipush (v := (nI 10)) hx hb dX7_readMore_38 (by decide) ?_
    refine lv_aload_n hx hb dX7_readMore_40 rfl (lv_at hl 0 rfl) ?_
    refine z_get (v := .int (τ18.1 66 4)) hx hb hts (fun w h => List.mem_cons_of_mem _ (List.mem_append_right _ (h))) hown E hh (by decide) (zC_obj (q := 66) rfl) rfl 4 (by decide) (hts (.fieldLink RX7 104 "TownBandModel" "readBeasts" "I") (List.mem_cons_of_mem _ (List.mem_append_left _ (List.mem_append_left _ (List.mem_of_getElem? (i := 1) rfl))))) rfl dX7_readMore_41 ?_
    refine lv_iadd hx hb dX7_readMore_44 ?_
    refine lv_aload_n hx hb dX7_readMore_45 rfl (lv_at hl 0 rfl) ?_
    refine lv_iconst (v := (nI 0)) hx hb dX7_readMore_46 (by decide) ?_
    refine lv_bipush (v := (nI 9)) hx hb dX7_readMore_47 (by decide) ?_
    refine lv_iconst (v := (nI 0)) hx hb dX7_readMore_49 (by decide) ?_
    obtain ⟨q19, h_q19, hf⟩ := z_bd hf
    refine z_mi (va_runV (As := [.int (nI 0), .int (nI 9), .int (nI 0)]) (rest := [.int ((nI 10) + (τ18.1 66 4)), .ref (g.2.2 56)]) ⟨hx, hb, hml, hown, hts⟩ (zcX7_other l g A σ τ18 N (nI 0) (nI 9) (nI 0) h_q19) (cwV 3 hts gX7_readMore_X7_other rfl rfl rfl hdX7_other ⟨by decide, by decide⟩) (z_preV E hh (by decide) (zC_obj (q := 66) rfl) rfl) rfl rfl hl.1 rfl (lv_room (Nat.le_of_ble_eq_true rfl)) dX7_readMore_50 ⟨Nat.le_refl _, Nat.le_refl _⟩) hh (fun H locs hh => ?_)
    obtain ⟨h_v20, hf⟩ := z_if hf
    obtain ⟨τ21, e_τ21, hf⟩ := z_lt hf
    refine z_iastM hx hb E hh (by decide) (by decide) h_v20 e_τ21 dX7_readMore_53 (fun H locs hh => ?_)
    refine lv_aload_n hx hb dX7_readMore_54 rfl (lv_at hl 0 rfl) ?_
    refine lv_dup hx hb dX7_readMore_55 rfl ?_
    refine z_get (v := .int (τ21.1 66 4)) hx hb hts (fun w h => List.mem_cons_of_mem _ (List.mem_append_right _ (h))) hown E hh (by decide) (zC_obj (q := 66) rfl) rfl 4 (by decide) (hts (.fieldLink RX7 104 "TownBandModel" "readBeasts" "I") (List.mem_cons_of_mem _ (List.mem_append_left _ (List.mem_append_left _ (List.mem_of_getElem? (i := 1) rfl))))) rfl dX7_readMore_56 ?_
    refine lv_iconst (v := (nI 1)) hx hb dX7_readMore_59 (by decide) ?_
    refine lv_iadd hx hb dX7_readMore_60 ?_
    obtain ⟨τ22, e_τ22, hf⟩ := z_lt hf
    refine z_putM hx hb hts (fun w h => List.mem_cons_of_mem _ (List.mem_append_right _ (h))) tyX7 tyX7_ok nmX7 hown E hh (by decide) (by decide) (show zD 66 = _ from rfl) rfl 4 (by decide) rfl (hts (.fieldLink RX7 104 "TownBandModel" "readBeasts" "I") (List.mem_cons_of_mem _ (List.mem_append_left _ (List.mem_append_left _ (List.mem_of_getElem? (i := 1) rfl))))) rfl rfl e_τ22 dX7_readMore_61 (fun H locs hh => ?_)
    refine lv_goto (tgt := 147) hx hb dX7_readMore_64 (by decide) ?_
    have hf := Option.some.inj hf
    subst hf
    exact z_vretM hx hb hr hlocks hh dX7_readMore_147
/-! ===== X7_readLine ===== -/
theorem hdX7_readLine : yX7_readLine.cls = RX7 ∧ yX7_readLine.cls ≠ "java/lang/invoke/MethodHandle" ∧ yX7_readLine.cls ≠ "java/lang/invoke/VarHandle" ∧ (parseMethodDescriptor yX7_readLine.desc).map (fun d => d.parameters.length) = some 0 := by decide +kernel
def PX7_readLine_125 (p : Program) (l : Launch) (e : Env) (s : State) (m : MethodId) (args : Array Value) (below : List Frame) (meth : Method) (c : Code) (g : zG) (A : Nat → Prop) (σ : zS) (res : zS) (f : zS → Option (zS)) : Prop := ∀  (τ : zS) (H : Heap) (locs : List Loc) (ls : Array Slot), f τ = some res → zW g A σ τ s H locs → lv_has ls 2 [(0, .ref (g.2.2 66))] → W p l e (zR 5) s m args below meth c H locs 0 0 (MQ below (zPv g A σ res) args s 0 0 A) (F0 m 125 ls [])
def PX7_readLine_76 (p : Program) (l : Launch) (e : Env) (s : State) (m : MethodId) (args : Array Value) (below : List Frame) (meth : Method) (c : Code) (g : zG) (A : Nat → Prop) (σ : zS) (res : zS) (f : Int32 → zS → Option (zS)) : Prop := ∀ (x1 : Int32) (τ : zS) (H : Heap) (locs : List Loc) (ls : Array Slot), f x1 τ = some res → zW g A σ τ s H locs → lv_has ls 2 [(0, .ref (g.2.2 66)), (1, .int x1)] → W p l e (zR 5) s m args below meth c H locs 0 0 (MQ below (zPv g A σ res) args s 0 0 A) (F0 m 76 ls [])
def PX7_readLine_54 (p : Program) (l : Launch) (e : Env) (s : State) (m : MethodId) (args : Array Value) (below : List Frame) (meth : Method) (c : Code) (g : zG) (A : Nat → Prop) (σ : zS) (res : zS) (f : Int32 → zS → Option (zS)) : Prop := ∀ (x1 : Int32) (τ : zS) (H : Heap) (locs : List Loc) (ls : Array Slot), f x1 τ = some res → zW g A σ τ s H locs → lv_has ls 2 [(0, .ref (g.2.2 66)), (1, .int x1)] → W p l e (zR 5) s m args below meth c H locs 0 0 (MQ below (zPv g A σ res) args s 0 0 A) (F0 m 54 ls [])
def PX7_readLine_49 (p : Program) (l : Launch) (e : Env) (s : State) (m : MethodId) (args : Array Value) (below : List Frame) (meth : Method) (c : Code) (g : zG) (A : Nat → Prop) (σ : zS) (res : zS) (f : Int32 → zS → Option (zS)) : Prop := ∀ (x1 : Int32) (τ : zS) (H : Heap) (locs : List Loc) (ls : Array Slot), f x1 τ = some res → zW g A σ τ s H locs → lv_has ls 2 [(0, .ref (g.2.2 66)), (1, .int x1)] → W p l e (zR 5) s m args below meth c H locs 0 0 (MQ below (zPv g A σ res) args s 0 0 A) (F0 m 49 ls [])
def PX7_readLine_36 (p : Program) (l : Launch) (e : Env) (s : State) (m : MethodId) (args : Array Value) (below : List Frame) (meth : Method) (c : Code) (g : zG) (A : Nat → Prop) (σ : zS) (res : zS) (f : Int32 → zS → Option (zS)) : Prop := ∀ (x1 : Int32) (τ : zS) (H : Heap) (locs : List Loc) (ls : Array Slot), f x1 τ = some res → zW g A σ τ s H locs → lv_has ls 2 [(0, .ref (g.2.2 66)), (1, .int x1)] → W p l e (zR 5) s m args below meth c H locs 0 0 (MQ below (zPv g A σ res) args s 0 0 A) (F0 m 36 ls [])
def fX7_readLine_125 (N : Nat)  (τ : zS) : Option (zS) :=
  (fX7_step N τ).bind fun q1 =>
  some q1
set_option maxRecDepth 100000 in
set_option maxHeartbeats 4000000 in
theorem hX7_readLine_125 {p : Program} {l : Launch} {e : Env} {s : State} {m : MethodId} {args : Array Value} {below : List Frame} {meth : Method} {c : Code} {g : zG} {A : Nat → Prop} {σ : zS} {res : zS} (C : zCx p s m args meth c cX7_readLine none wsX7_readLine RX7 2) (E : zE g A s) (N : Nat) : PX7_readLine_125 p l e s m args below meth c g A σ res (fX7_readLine_125 N) := by
  obtain ⟨hx, hb, hr, hml, hown, hts, hlocks⟩ := id C
  intro τ H locs ls hf hh hl
  unfold fX7_readLine_125 at hf
  refine lv_aload_n hx hb dX7_readLine_125 rfl (lv_at hl 0 rfl) ?_
  obtain ⟨q1, h_q1, hf⟩ := z_bd hf
  refine z_mv (va_runV (As := []) (rest := []) ⟨hx, hb, hml, hown, hts⟩ (zcX7_step l g A σ τ N  h_q1) (cwV 0 hts gX7_readLine_X7_step rfl rfl rfl hdX7_step ⟨by decide, by decide⟩) (z_preV E hh (by decide) (zC_obj (q := 66) rfl) rfl) rfl rfl hl.1 rfl (lv_room (Nat.le_of_ble_eq_true rfl)) dX7_readLine_126 ⟨Nat.le_refl _, Nat.le_refl _⟩) hh (fun H locs hh => ?_)
  have hf := Option.some.inj hf
  subst hf
  exact z_vretM hx hb hr hlocks hh dX7_readLine_129
def fX7_readLine_76 (N : Nat) (x1 : Int32) (τ : zS) : Option (zS) :=
  zlet (zpf τ 66 6 ((τ.1 66 6) ||| ((nI 1) <<< (x1 &&& 31)))) fun τ1 =>
  (fX7_step N τ1).bind fun q2 =>
  if (q2.1 66 13) ≤ 0 then
    (fX7_readMore N q2 x1).bind fun q4 =>
    if (q4.1 66 13) = 0 then
      if (q4.1 66 17) = (nI 3) then
        (fX7_readLine_125 N) q4
      else
        (fX7_fails N q4 (nI 2)).bind fun q7 =>
        (fX7_readLine_125 N) q7
    else
      (fX7_readLine_125 N) q4
  else
    some q2
set_option maxRecDepth 100000 in
set_option maxHeartbeats 4000000 in
theorem hX7_readLine_76 {p : Program} {l : Launch} {e : Env} {s : State} {m : MethodId} {args : Array Value} {below : List Frame} {meth : Method} {c : Code} {g : zG} {A : Nat → Prop} {σ : zS} {res : zS} (C : zCx p s m args meth c cX7_readLine none wsX7_readLine RX7 2) (E : zE g A s) (N : Nat) : PX7_readLine_76 p l e s m args below meth c g A σ res (fX7_readLine_76 N) := by
  obtain ⟨hx, hb, hr, hml, hown, hts, hlocks⟩ := id C
  intro x1 τ H locs ls hf hh hl
  unfold fX7_readLine_76 at hf
  refine lv_aload_n hx hb dX7_readLine_76 rfl (lv_at hl 0 rfl) ?_
  refine lv_dup hx hb dX7_readLine_77 rfl ?_
  refine z_get (v := .int (τ.1 66 6)) hx hb hts (fun w h => List.mem_cons_of_mem _ (List.mem_append_right _ (h))) hown E hh (by decide) (zC_obj (q := 66) rfl) rfl 6 (by decide) (hts (.fieldLink RX7 122 "TownBandModel" "toldOnce" "I") (List.mem_cons_of_mem _ (List.mem_append_left _ (List.mem_append_left _ (List.mem_of_getElem? (i := 3) rfl))))) rfl dX7_readLine_78 ?_
  refine lv_iconst (v := (nI 1)) hx hb dX7_readLine_81 (by decide) ?_
  refine lv_iload_n hx hb dX7_readLine_82 rfl (lv_at hl 1 rfl) ?_
  refine lv_ishl hx hb dX7_readLine_83 ?_
  refine lv_ior hx hb dX7_readLine_84 ?_
  obtain ⟨τ1, e_τ1, hf⟩ := z_lt hf
  refine z_putM hx hb hts (fun w h => List.mem_cons_of_mem _ (List.mem_append_right _ (h))) tyX7 tyX7_ok nmX7 hown E hh (by decide) (by decide) (show zD 66 = _ from rfl) rfl 6 (by decide) rfl (hts (.fieldLink RX7 122 "TownBandModel" "toldOnce" "I") (List.mem_cons_of_mem _ (List.mem_append_left _ (List.mem_append_left _ (List.mem_of_getElem? (i := 3) rfl))))) rfl rfl e_τ1 dX7_readLine_85 (fun H locs hh => ?_)
  refine lv_aload_n hx hb dX7_readLine_88 rfl (lv_at hl 0 rfl) ?_
  obtain ⟨q2, h_q2, hf⟩ := z_bd hf
  refine z_mv (va_runV (As := []) (rest := []) ⟨hx, hb, hml, hown, hts⟩ (zcX7_step l g A σ τ1 N  h_q2) (cwV 0 hts gX7_readLine_X7_step rfl rfl rfl hdX7_step ⟨by decide, by decide⟩) (z_preV E hh (by decide) (zC_obj (q := 66) rfl) rfl) rfl rfl hl.1 rfl (lv_room (Nat.le_of_ble_eq_true rfl)) dX7_readLine_89 ⟨Nat.le_refl _, Nat.le_refl _⟩) hh (fun H locs hh => ?_)
  refine lv_aload_n hx hb dX7_readLine_92 rfl (lv_at hl 0 rfl) ?_
  refine z_get (v := .int (q2.1 66 13)) hx hb hts (fun w h => List.mem_cons_of_mem _ (List.mem_append_right _ (h))) hown E hh (by decide) (zC_obj (q := 66) rfl) rfl 13 (by decide) (hts (.fieldLink RX7 54 "TownBandModel" "broken" "I") (List.mem_cons_of_mem _ (List.mem_append_left _ (List.mem_append_left _ (List.mem_of_getElem? (i := 4) rfl))))) rfl dX7_readLine_93 ?_
  refine lv_if_le (tgt := 100) hx hb dX7_readLine_96 (by decide) (fun c_v3 => ?_) (fun c_v3 => ?_)
  · have hf := z_ip hf c_v3
    refine lv_aload_n hx hb dX7_readLine_100 rfl (lv_at hl 0 rfl) ?_
    refine lv_iload_n hx hb dX7_readLine_101 rfl (lv_at hl 1 rfl) ?_
    obtain ⟨q4, h_q4, hf⟩ := z_bd hf
    refine z_mv (va_runV (As := [.int x1]) (rest := []) ⟨hx, hb, hml, hown, hts⟩ (zcX7_readMore l g A σ q2 N x1 h_q4) (cwV 1 hts gX7_readLine_X7_readMore rfl rfl rfl hdX7_readMore ⟨by decide, by decide⟩) (z_preV E hh (by decide) (zC_obj (q := 66) rfl) rfl) rfl rfl hl.1 rfl (lv_room (Nat.le_of_ble_eq_true rfl)) dX7_readLine_102 ⟨Nat.le_refl _, Nat.le_refl _⟩) hh (fun H locs hh => ?_)
    refine lv_aload_n hx hb dX7_readLine_105 rfl (lv_at hl 0 rfl) ?_
    refine z_get (v := .int (q4.1 66 13)) hx hb hts (fun w h => List.mem_cons_of_mem _ (List.mem_append_right _ (h))) hown E hh (by decide) (zC_obj (q := 66) rfl) rfl 13 (by decide) (hts (.fieldLink RX7 54 "TownBandModel" "broken" "I") (List.mem_cons_of_mem _ (List.mem_append_left _ (List.mem_append_left _ (List.mem_of_getElem? (i := 4) rfl))))) rfl dX7_readLine_106 ?_
    refine lv_if_ne (tgt := 125) hx hb dX7_readLine_109 (by decide) (fun c_v5 => ?_) (fun c_v5 => ?_)
    · have hf := z_in hf c_v5
      exact (hX7_readLine_125 C E N) q4 _ _ _ hf hh (lv_sub hl [0] rfl)
    · have hf := z_ip hf c_v5
      refine lv_aload_n hx hb dX7_readLine_112 rfl (lv_at hl 0 rfl) ?_
      refine z_get (v := .int (q4.1 66 17)) hx hb hts (fun w h => List.mem_cons_of_mem _ (List.mem_append_right _ (h))) hown E hh (by decide) (zC_obj (q := 66) rfl) rfl 17 (by decide) (hts (.fieldLink RX7 63 "TownBandModel" "token" "I") (List.mem_cons_of_mem _ (List.mem_append_left _ (List.mem_append_left _ (List.mem_of_getElem? (i := 5) rfl))))) rfl dX7_readLine_113 ?_
      refine lv_iconst (v := (nI 3)) hx hb dX7_readLine_116 (by decide) ?_
      refine lv_icmp_eq (tgt := 125) hx hb dX7_readLine_117 (by decide) (fun c_v6 => ?_) (fun c_v6 => ?_)
      · have hf := z_ip hf c_v6
        exact (hX7_readLine_125 C E N) q4 _ _ _ hf hh (lv_sub hl [0] rfl)
      · have hf := z_in hf c_v6
        refine lv_aload_n hx hb dX7_readLine_120 rfl (lv_at hl 0 rfl) ?_
        refine lv_iconst (v := (nI 2)) hx hb dX7_readLine_121 (by decide) ?_
        obtain ⟨q7, h_q7, hf⟩ := z_bd hf
        refine z_mv (va_runV (As := [.int (nI 2)]) (rest := []) ⟨hx, hb, hml, hown, hts⟩ (zcX7_fails l g A σ q4 N (nI 2) h_q7) (cwV 1 hts gX7_readLine_X7_fails rfl rfl rfl hdX7_fails ⟨by decide, by decide⟩) (z_preV E hh (by decide) (zC_obj (q := 66) rfl) rfl) rfl rfl hl.1 rfl (lv_room (Nat.le_of_ble_eq_true rfl)) dX7_readLine_122 ⟨Nat.le_refl _, Nat.le_refl _⟩) hh (fun H locs hh => ?_)
        exact (hX7_readLine_125 C E N) q7 _ _ _ hf hh (lv_sub hl [0] rfl)
  · have hf := z_in hf c_v3
    have hf := Option.some.inj hf
    subst hf
    exact z_vretM hx hb hr hlocks hh dX7_readLine_99
def fX7_readLine_54 (N : Nat) (x1 : Int32) (τ : zS) : Option (zS) :=
  if x1 < (nI 5) then
    (fX7_readLine_76 N) x1 τ
  else
    if (((τ.1 66 6) >>> (x1 &&& 31)) &&& (nI 1)) = (nI 1) then
      (fX7_fails N τ (nI 4)).bind fun q3 =>
      (fX7_readLine_76 N) x1 q3
    else
      (fX7_readLine_76 N) x1 τ
set_option maxRecDepth 100000 in
set_option maxHeartbeats 4000000 in
theorem hX7_readLine_54 {p : Program} {l : Launch} {e : Env} {s : State} {m : MethodId} {args : Array Value} {below : List Frame} {meth : Method} {c : Code} {g : zG} {A : Nat → Prop} {σ : zS} {res : zS} (C : zCx p s m args meth c cX7_readLine none wsX7_readLine RX7 2) (E : zE g A s) (N : Nat) : PX7_readLine_54 p l e s m args below meth c g A σ res (fX7_readLine_54 N) := by
  obtain ⟨hx, hb, hr, hml, hown, hts, hlocks⟩ := id C
  intro x1 τ H locs ls hf hh hl
  unfold fX7_readLine_54 at hf
  refine lv_iload_n hx hb dX7_readLine_54 rfl (lv_at hl 1 rfl) ?_
  refine lv_iconst (v := (nI 5)) hx hb dX7_readLine_55 (by decide) ?_
  refine lv_icmp_lt (tgt := 76) hx hb dX7_readLine_56 (by decide) (fun c_v1 => ?_) (fun c_v1 => ?_)
  · have hf := z_ip hf c_v1
    exact (hX7_readLine_76 C E N) x1 τ _ _ _ hf hh (lv_sub hl [0, 1] rfl)
  · have hf := z_in hf c_v1
    refine lv_aload_n hx hb dX7_readLine_59 rfl (lv_at hl 0 rfl) ?_
    refine z_get (v := .int (τ.1 66 6)) hx hb hts (fun w h => List.mem_cons_of_mem _ (List.mem_append_right _ (h))) hown E hh (by decide) (zC_obj (q := 66) rfl) rfl 6 (by decide) (hts (.fieldLink RX7 122 "TownBandModel" "toldOnce" "I") (List.mem_cons_of_mem _ (List.mem_append_left _ (List.mem_append_left _ (List.mem_of_getElem? (i := 3) rfl))))) rfl dX7_readLine_60 ?_
    refine lv_iload_n hx hb dX7_readLine_63 rfl (lv_at hl 1 rfl) ?_
    refine lv_ishr hx hb dX7_readLine_64 ?_
    refine lv_iconst (v := (nI 1)) hx hb dX7_readLine_65 (by decide) ?_
    refine lv_iand hx hb dX7_readLine_66 ?_
    refine lv_iconst (v := (nI 1)) hx hb dX7_readLine_67 (by decide) ?_
    refine lv_icmp_ne (tgt := 76) hx hb dX7_readLine_68 (by decide) (fun c_v2 => ?_) (fun c_v2 => ?_)
    · have hf := z_in hf c_v2
      exact (hX7_readLine_76 C E N) x1 τ _ _ _ hf hh (lv_sub hl [0, 1] rfl)
    · have hf := z_ip hf c_v2
      refine lv_aload_n hx hb dX7_readLine_71 rfl (lv_at hl 0 rfl) ?_
      refine lv_iconst (v := (nI 4)) hx hb dX7_readLine_72 (by decide) ?_
      obtain ⟨q3, h_q3, hf⟩ := z_bd hf
      refine z_mv (va_runV (As := [.int (nI 4)]) (rest := []) ⟨hx, hb, hml, hown, hts⟩ (zcX7_fails l g A σ τ N (nI 4) h_q3) (cwV 1 hts gX7_readLine_X7_fails rfl rfl rfl hdX7_fails ⟨by decide, by decide⟩) (z_preV E hh (by decide) (zC_obj (q := 66) rfl) rfl) rfl rfl hl.1 rfl (lv_room (Nat.le_of_ble_eq_true rfl)) dX7_readLine_73 ⟨Nat.le_refl _, Nat.le_refl _⟩) hh (fun H locs hh => ?_)
      exact (hX7_readLine_76 C E N) x1 q3 _ _ _ hf hh (lv_sub hl [0, 1] rfl)
def fX7_readLine_49 (N : Nat) (x1 : Int32) (τ : zS) : Option (zS) :=
  (fX7_fails N τ (nI 5)).bind fun q1 =>
  (fX7_readLine_54 N) x1 q1
set_option maxRecDepth 100000 in
set_option maxHeartbeats 4000000 in
theorem hX7_readLine_49 {p : Program} {l : Launch} {e : Env} {s : State} {m : MethodId} {args : Array Value} {below : List Frame} {meth : Method} {c : Code} {g : zG} {A : Nat → Prop} {σ : zS} {res : zS} (C : zCx p s m args meth c cX7_readLine none wsX7_readLine RX7 2) (E : zE g A s) (N : Nat) : PX7_readLine_49 p l e s m args below meth c g A σ res (fX7_readLine_49 N) := by
  obtain ⟨hx, hb, hr, hml, hown, hts, hlocks⟩ := id C
  intro x1 τ H locs ls hf hh hl
  unfold fX7_readLine_49 at hf
  refine lv_aload_n hx hb dX7_readLine_49 rfl (lv_at hl 0 rfl) ?_
  refine lv_iconst (v := (nI 5)) hx hb dX7_readLine_50 (by decide) ?_
  obtain ⟨q1, h_q1, hf⟩ := z_bd hf
  refine z_mv (va_runV (As := [.int (nI 5)]) (rest := []) ⟨hx, hb, hml, hown, hts⟩ (zcX7_fails l g A σ τ N (nI 5) h_q1) (cwV 1 hts gX7_readLine_X7_fails rfl rfl rfl hdX7_fails ⟨by decide, by decide⟩) (z_preV E hh (by decide) (zC_obj (q := 66) rfl) rfl) rfl rfl hl.1 rfl (lv_room (Nat.le_of_ble_eq_true rfl)) dX7_readLine_51 ⟨Nat.le_refl _, Nat.le_refl _⟩) hh (fun H locs hh => ?_)
  exact (hX7_readLine_54 C E N) x1 q1 _ _ _ hf hh (lv_sub hl [0, 1] rfl)
def fX7_readLine_36 (N : Nat) (x1 : Int32) (τ : zS) : Option (zS) :=
  if x1 = (nI 4) then
    if (τ.1 66 5) = (nI 4) then
      (fX7_readLine_49 N) x1 τ
    else
      (fX7_readLine_54 N) x1 τ
  else
    (fX7_readLine_54 N) x1 τ
set_option maxRecDepth 100000 in
set_option maxHeartbeats 4000000 in
theorem hX7_readLine_36 {p : Program} {l : Launch} {e : Env} {s : State} {m : MethodId} {args : Array Value} {below : List Frame} {meth : Method} {c : Code} {g : zG} {A : Nat → Prop} {σ : zS} {res : zS} (C : zCx p s m args meth c cX7_readLine none wsX7_readLine RX7 2) (E : zE g A s) (N : Nat) : PX7_readLine_36 p l e s m args below meth c g A σ res (fX7_readLine_36 N) := by
  obtain ⟨hx, hb, hr, hml, hown, hts, hlocks⟩ := id C
  intro x1 τ H locs ls hf hh hl
  unfold fX7_readLine_36 at hf
  refine lv_iload_n hx hb dX7_readLine_36 rfl (lv_at hl 1 rfl) ?_
  refine lv_iconst (v := (nI 4)) hx hb dX7_readLine_37 (by decide) ?_
  refine lv_icmp_ne (tgt := 54) hx hb dX7_readLine_38 (by decide) (fun c_v1 => ?_) (fun c_v1 => ?_)
  · have hf := z_in hf c_v1
    exact (hX7_readLine_54 C E N) x1 τ _ _ _ hf hh (lv_sub hl [0, 1] rfl)
  · have hf := z_ip hf c_v1
    refine lv_aload_n hx hb dX7_readLine_41 rfl (lv_at hl 0 rfl) ?_
    refine z_get (v := .int (τ.1 66 5)) hx hb hts (fun w h => List.mem_cons_of_mem _ (List.mem_append_right _ (h))) hown E hh (by decide) (zC_obj (q := 66) rfl) rfl 5 (by decide) (hts (.fieldLink RX7 107 "TownBandModel" "readRobbers" "I") (List.mem_cons_of_mem _ (List.mem_append_left _ (List.mem_append_left _ (List.mem_of_getElem? (i := 2) rfl))))) rfl dX7_readLine_42 ?_
    refine lv_iconst (v := (nI 4)) hx hb dX7_readLine_45 (by decide) ?_
    refine lv_icmp_ne (tgt := 54) hx hb dX7_readLine_46 (by decide) (fun c_v2 => ?_) (fun c_v2 => ?_)
    · have hf := z_in hf c_v2
      exact (hX7_readLine_54 C E N) x1 τ _ _ _ hf hh (lv_sub hl [0, 1] rfl)
    · have hf := z_ip hf c_v2
      exact (hX7_readLine_49 C E N) x1 τ _ _ _ hf hh (lv_sub hl [0, 1] rfl)
def fX7_readLine (N : Nat) (τ : zS)  : Option (zS) :=
  (fX7_nameHere N τ).bind fun q1 =>
  (fX7_in N q1.toInt64 0 7).bind fun q2 =>
  if q2 = 0 then
    (fX7_fails N τ (nI 2)).bind fun q6 =>
    some q6
  else
    if (nI 3) < q1 then
      (fX7_readLine_36 N) q1 τ
    else
      if (τ.1 66 4) = (nI 5) then
        (fX7_readLine_49 N) q1 τ
      else
        (fX7_readLine_36 N) q1 τ
set_option maxRecDepth 100000 in
set_option maxHeartbeats 4000000 in
theorem zcX7_readLine (l : Launch) (g : zG) (A : Nat → Prop) (σ τ : zS) (N : Nat)   {res : zS} (hf : fX7_readLine N τ = some res) : Met l yX7_readLine wsX7_readLine (zR 5) (zPc g A σ τ [.ref (g.2.2 66)]) (zPv g A σ res) 0 0 A := by
  refine z_met (cc := cX7_readLine) (ret := none) (own := RX7) (by decide) rfl rfl _ (Nat.le_of_ble_eq_true rfl) ?_
  intro p e s m below meth c C E ls hl hh
  have hl : lv_has ls 2 [(0, .ref (g.2.2 66))] := hl
  obtain ⟨hx, hb, hr, hml, hown, hts, hlocks⟩ := id C
  unfold fX7_readLine at hf
  refine lv_aload_n hx hb dX7_readLine_0 rfl (lv_at hl 0 rfl) ?_
  obtain ⟨q1, h_q1, hf⟩ := z_bd hf
  refine z_mi (va_runV (As := []) (rest := []) ⟨hx, hb, hml, hown, hts⟩ (zcX7_nameHere l g A σ τ N  h_q1) (cwV 0 hts gX7_readLine_X7_nameHere rfl rfl rfl hdX7_nameHere ⟨by decide, by decide⟩) (z_preV E hh (by decide) (zC_obj (q := 66) rfl) rfl) rfl rfl hl.1 rfl (lv_room (Nat.le_of_ble_eq_true rfl)) dX7_readLine_1 ⟨Nat.le_refl _, Nat.le_refl _⟩) hh (fun H locs hh => ?_)
  refine lv_istore_n (lv' := [(1, .int q1), (0, .ref (g.2.2 66))]) hx hb dX7_readLine_4 rfl hl (by decide) rfl (fun ls hl => ?_)
  refine lv_iload_n hx hb dX7_readLine_5 rfl (lv_at hl 0 rfl) ?_
  refine lv_i2l hx hb dX7_readLine_6 rfl ?_
  refine lv_lconst (v := 0) hx hb dX7_readLine_7 (by decide) ?_
  refine lv_ldc2 (v := 7) hx hb hown (hts (.constantLong RX7 120 (7)) (List.mem_cons_of_mem _ (List.mem_append_left _ (List.mem_append_left _ (List.mem_of_getElem? (i := 0) rfl))))) dX7_readLine_8 ?_
  obtain ⟨q2, h_q2, hf⟩ := z_bd hf
  refine z_mi (va_runS (As := [.long q1.toInt64, .long 0, .long 7]) (rest := []) ⟨hx, hb, hml, hown, hts⟩ (zcX7_in l g A σ τ N q1.toInt64 0 7 h_q2) (va_cwS 3 hts gX7_readLine_X7_in rfl rfl rfl hdX7_in.2 ⟨by decide, by decide⟩) (z_preS E hh) rfl rfl hl.1 rfl (lv_room (Nat.le_of_ble_eq_true rfl)) dX7_readLine_11 ⟨Nat.le_refl _, Nat.le_refl _⟩) hh (fun H locs hh => ?_)
  refine lv_if_ne (tgt := 23) hx hb dX7_readLine_14 (by decide) (fun c_v3 => ?_) (fun c_v3 => ?_)
  · have hf := z_in hf c_v3
    refine lv_iload_n hx hb dX7_readLine_23 rfl (lv_at hl 0 rfl) ?_
    refine lv_iconst (v := (nI 3)) hx hb dX7_readLine_24 (by decide) ?_
    refine lv_icmp_gt (tgt := 36) hx hb dX7_readLine_25 (by decide) (fun c_v4 => ?_) (fun c_v4 => ?_)
    · have hf := z_ip hf c_v4
      exact (hX7_readLine_36 C E N) q1 τ _ _ _ hf hh (lv_sub hl [1, 0] rfl)
    · have hf := z_in hf c_v4
      refine lv_aload_n hx hb dX7_readLine_28 rfl (lv_at hl 1 rfl) ?_
      refine z_get (v := .int (τ.1 66 4)) hx hb hts (fun w h => List.mem_cons_of_mem _ (List.mem_append_right _ (h))) hown E hh (by decide) (zC_obj (q := 66) rfl) rfl 4 (by decide) (hts (.fieldLink RX7 104 "TownBandModel" "readBeasts" "I") (List.mem_cons_of_mem _ (List.mem_append_left _ (List.mem_append_left _ (List.mem_of_getElem? (i := 1) rfl))))) rfl dX7_readLine_29 ?_
      refine lv_iconst (v := (nI 5)) hx hb dX7_readLine_32 (by decide) ?_
      refine lv_icmp_eq (tgt := 49) hx hb dX7_readLine_33 (by decide) (fun c_v5 => ?_) (fun c_v5 => ?_)
      · have hf := z_ip hf c_v5
        exact (hX7_readLine_49 C E N) q1 τ _ _ _ hf hh (lv_sub hl [1, 0] rfl)
      · have hf := z_in hf c_v5
        exact (hX7_readLine_36 C E N) q1 τ _ _ _ hf hh (lv_sub hl [1, 0] rfl)
  · have hf := z_ip hf c_v3
    refine lv_aload_n hx hb dX7_readLine_17 rfl (lv_at hl 1 rfl) ?_
    refine lv_iconst (v := (nI 2)) hx hb dX7_readLine_18 (by decide) ?_
    obtain ⟨q6, h_q6, hf⟩ := z_bd hf
    refine z_mv (va_runV (As := [.int (nI 2)]) (rest := []) ⟨hx, hb, hml, hown, hts⟩ (zcX7_fails l g A σ τ N (nI 2) h_q6) (cwV 1 hts gX7_readLine_X7_fails rfl rfl rfl hdX7_fails ⟨by decide, by decide⟩) (z_preV E hh (by decide) (zC_obj (q := 66) rfl) rfl) rfl rfl hl.1 rfl (lv_room (Nat.le_of_ble_eq_true rfl)) dX7_readLine_19 ⟨Nat.le_refl _, Nat.le_refl _⟩) hh (fun H locs hh => ?_)
    have hf := Option.some.inj hf
    subst hf
    exact z_vretM hx hb hr hlocks hh dX7_readLine_22
/-! ===== X7_byKind ===== -/
theorem hdX7_byKind : yX7_byKind.cls = RX7 ∧ yX7_byKind.cls ≠ "java/lang/invoke/MethodHandle" ∧ yX7_byKind.cls ≠ "java/lang/invoke/VarHandle" ∧ (parseMethodDescriptor yX7_byKind.desc).map (fun d => d.parameters.length) = some 2 := by decide +kernel
def fX7_byKind (N : Nat) (x0 : Int32) (x1 : Int32) : Option (Int32) :=
  if x0 = 0 then
    some x1
  else
    if x0 = (nI 1) then
      some (x1 + (nI 1))
    else
      if x0 = (nI 2) then
        some ((nI 2) * (x1 + (nI 1)))
      else
        some (((nI 2) * (x1 + (nI 1))) + (nI 3))
set_option maxRecDepth 100000 in
set_option maxHeartbeats 4000000 in
theorem zcX7_byKind (l : Launch) (g : zG) (A : Nat → Prop) (σ τ : zS) (N : Nat) (x0 : Int32) (x1 : Int32)  {res : Int32} (hf : fX7_byKind N x0 x1 = some res) : Met l yX7_byKind wsX7_byKind (zR 0) (zPc g A σ τ [.int x0, .int x1]) (zPi g A σ (res, τ)) 0 0 A := by
  refine z_met (cc := cX7_byKind) (ret := (some .int)) (own := RX7) (by decide) rfl rfl _ (Nat.le_of_ble_eq_true rfl) ?_
  intro p e s m below meth c C E ls hl hh
  have hl : lv_has ls 2 [(0, .int x0), (1, .int x1)] := hl
  obtain ⟨hx, hb, hr, hml, hown, hts, hlocks⟩ := id C
  unfold fX7_byKind at hf
  refine lv_iload_n hx hb dX7_byKind_0 rfl (lv_at hl 0 rfl) ?_
  refine lv_if_ne (tgt := 8) hx hb dX7_byKind_1 (by decide) (fun c_v1 => ?_) (fun c_v1 => ?_)
  · have hf := z_in hf c_v1
    refine lv_iload_n hx hb dX7_byKind_8 rfl (lv_at hl 0 rfl) ?_
    refine lv_iconst (v := (nI 1)) hx hb dX7_byKind_9 (by decide) ?_
    refine lv_icmp_ne (tgt := 19) hx hb dX7_byKind_10 (by decide) (fun c_v2 => ?_) (fun c_v2 => ?_)
    · have hf := z_in hf c_v2
      refine lv_iload_n hx hb dX7_byKind_19 rfl (lv_at hl 0 rfl) ?_
      refine lv_iconst (v := (nI 2)) hx hb dX7_byKind_20 (by decide) ?_
      refine lv_icmp_ne (tgt := 32) hx hb dX7_byKind_21 (by decide) (fun c_v3 => ?_) (fun c_v3 => ?_)
      · have hf := z_in hf c_v3
        refine lv_iconst (v := (nI 2)) hx hb dX7_byKind_32 (by decide) ?_
        refine lv_iload_n hx hb dX7_byKind_33 rfl (lv_at hl 1 rfl) ?_
        refine lv_iconst (v := (nI 1)) hx hb dX7_byKind_34 (by decide) ?_
        refine lv_iadd hx hb dX7_byKind_35 ?_
        refine lv_imul hx hb dX7_byKind_36 ?_
        refine lv_iconst (v := (nI 3)) hx hb dX7_byKind_37 (by decide) ?_
        refine lv_iadd hx hb dX7_byKind_38 ?_
        have hf := Option.some.inj hf
        subst hf
        exact z_iretM hx hb hr hlocks hh dX7_byKind_39
      · have hf := z_ip hf c_v3
        refine lv_iconst (v := (nI 2)) hx hb dX7_byKind_24 (by decide) ?_
        refine lv_iload_n hx hb dX7_byKind_25 rfl (lv_at hl 1 rfl) ?_
        refine lv_iconst (v := (nI 1)) hx hb dX7_byKind_26 (by decide) ?_
        refine lv_iadd hx hb dX7_byKind_27 ?_
        refine lv_imul hx hb dX7_byKind_28 ?_
        refine lv_goto (tgt := 39) hx hb dX7_byKind_29 (by decide) ?_
        have hf := Option.some.inj hf
        subst hf
        exact z_iretM hx hb hr hlocks hh dX7_byKind_39
    · have hf := z_ip hf c_v2
      refine lv_iload_n hx hb dX7_byKind_13 rfl (lv_at hl 1 rfl) ?_
      refine lv_iconst (v := (nI 1)) hx hb dX7_byKind_14 (by decide) ?_
      refine lv_iadd hx hb dX7_byKind_15 ?_
      refine lv_goto (tgt := 39) hx hb dX7_byKind_16 (by decide) ?_
      have hf := Option.some.inj hf
      subst hf
      exact z_iretM hx hb hr hlocks hh dX7_byKind_39
  · have hf := z_ip hf c_v1
    refine lv_iload_n hx hb dX7_byKind_4 rfl (lv_at hl 1 rfl) ?_
    refine lv_goto (tgt := 39) hx hb dX7_byKind_5 (by decide) ?_
    have hf := Option.some.inj hf
    subst hf
    exact z_iretM hx hb hr hlocks hh dX7_byKind_39
/-! ===== X7_bearsOn ===== -/
theorem hdX7_bearsOn : yX7_bearsOn.cls = RX7 ∧ yX7_bearsOn.cls ≠ "java/lang/invoke/MethodHandle" ∧ yX7_bearsOn.cls ≠ "java/lang/invoke/VarHandle" ∧ (parseMethodDescriptor yX7_bearsOn.desc).map (fun d => d.parameters.length) = some 2 := by decide +kernel
def fX7_bearsOn (N : Nat) (τ : zS) (x1 : Int32) (x2 : Int32) : Option (Int32) :=
  if zin (x1 + x2) (zlen 55) then
  zlet (τ.2 55 (x1 + x2).toNatClampNeg) fun v2 =>
  if zin ((x1 + (nI 5)) + x2) (zlen 55) then
  zlet (τ.2 55 ((x1 + (nI 5)) + x2).toNatClampNeg) fun v4 =>
  (fX7_byKind N v2 v4).bind fun q5 =>
  some q5
  else none
  else none
set_option maxRecDepth 100000 in
set_option maxHeartbeats 4000000 in
theorem zcX7_bearsOn (l : Launch) (g : zG) (A : Nat → Prop) (σ τ : zS) (N : Nat) (x1 : Int32) (x2 : Int32)  {res : Int32} (hf : fX7_bearsOn N τ x1 x2 = some res) : Met l yX7_bearsOn wsX7_bearsOn (zR 1) (zPc g A σ τ [.ref (g.2.2 66), .int x1, .int x2]) (zPi g A σ (res, τ)) 0 0 A := by
  refine z_met (cc := cX7_bearsOn) (ret := (some .int)) (own := RX7) (by decide) rfl rfl _ (Nat.le_of_ble_eq_true rfl) ?_
  intro p e s m below meth c C E ls hl hh
  have hl : lv_has ls 3 [(0, .ref (g.2.2 66)), (1, .int x1), (2, .int x2)] := hl
  obtain ⟨hx, hb, hr, hml, hown, hts, hlocks⟩ := id C
  unfold fX7_bearsOn at hf
  refine lv_aload_n hx hb dX7_bearsOn_0 rfl (lv_at hl 0 rfl) ?_
  refine z_get (v := .ref (g.2.2 55)) hx hb hts (fun w h => List.mem_cons_of_mem _ (List.mem_append_right _ (h))) hown E hh (by decide) (zC_obj (q := 66) rfl) rfl 0 (by decide) (hts (.fieldLink RX7 7 "TownBandModel" "state" "[I") (List.mem_cons_of_mem _ (List.mem_append_left _ (List.mem_of_getElem? (i := 0) rfl)))) rfl dX7_bearsOn_1 ?_
  refine lv_iload_n hx hb dX7_bearsOn_4 rfl (lv_at hl 1 rfl) ?_
  refine lv_iload_n hx hb dX7_bearsOn_5 rfl (lv_at hl 2 rfl) ?_
  refine lv_iadd hx hb dX7_bearsOn_6 ?_
  obtain ⟨h_v1, hf⟩ := z_if hf
  obtain ⟨v2, e_v2, hf⟩ := z_lt hf
  refine z_ialdM hx hb E hh (by decide) (by decide) h_v1 e_v2 dX7_bearsOn_7 ?_
  refine lv_aload_n hx hb dX7_bearsOn_8 rfl (lv_at hl 0 rfl) ?_
  refine z_get (v := .ref (g.2.2 55)) hx hb hts (fun w h => List.mem_cons_of_mem _ (List.mem_append_right _ (h))) hown E hh (by decide) (zC_obj (q := 66) rfl) rfl 0 (by decide) (hts (.fieldLink RX7 7 "TownBandModel" "state" "[I") (List.mem_cons_of_mem _ (List.mem_append_left _ (List.mem_of_getElem? (i := 0) rfl)))) rfl dX7_bearsOn_9 ?_
  refine lv_iload_n hx hb dX7_bearsOn_12 rfl (lv_at hl 1 rfl) ?_
  refine lv_iconst (v := (nI 5)) hx hb dX7_bearsOn_13 (by decide) ?_
  refine lv_iadd hx hb dX7_bearsOn_14 ?_
  refine lv_iload_n hx hb dX7_bearsOn_15 rfl (lv_at hl 2 rfl) ?_
  refine lv_iadd hx hb dX7_bearsOn_16 ?_
  obtain ⟨h_v3, hf⟩ := z_if hf
  obtain ⟨v4, e_v4, hf⟩ := z_lt hf
  refine z_ialdM hx hb E hh (by decide) (by decide) h_v3 e_v4 dX7_bearsOn_17 ?_
  obtain ⟨q5, h_q5, hf⟩ := z_bd hf
  refine z_mi (va_runS (As := [.int v2, .int v4]) (rest := []) ⟨hx, hb, hml, hown, hts⟩ (zcX7_byKind l g A σ τ N v2 v4 h_q5) (va_cwS 2 hts gX7_bearsOn_X7_byKind rfl rfl rfl hdX7_byKind.2 ⟨by decide, by decide⟩) (z_preS E hh) rfl rfl hl.1 rfl (lv_room (Nat.le_of_ble_eq_true rfl)) dX7_bearsOn_18 ⟨Nat.le_refl _, Nat.le_refl _⟩) hh (fun H locs hh => ?_)
  have hf := Option.some.inj hf
  subst hf
  exact z_iretM hx hb hr hlocks hh dX7_bearsOn_21
/-! ===== X7_standsOn ===== -/
theorem hdX7_standsOn : yX7_standsOn.cls = RX7 ∧ yX7_standsOn.cls ≠ "java/lang/invoke/MethodHandle" ∧ yX7_standsOn.cls ≠ "java/lang/invoke/VarHandle" ∧ (parseMethodDescriptor yX7_standsOn.desc).map (fun d => d.parameters.length) = some 1 := by decide +kernel
def PX7_standsOn_56 (p : Program) (l : Launch) (e : Env) (s : State) (m : MethodId) (args : Array Value) (below : List Frame) (meth : Method) (c : Code) (g : zG) (A : Nat → Prop) (σ τ : zS) (res : Int32) (f : Int32 → Int32 → Int32 → Int32 → Int32 → Option (Int32)) : Prop := ∀ (x1 : Int32) (x2 : Int32) (x4 : Int32) (x5 : Int32) (s0 : Int32) (H : Heap) (locs : List Loc) (ls : Array Slot), f x1 x2 x4 x5 s0 = some res → zW g A σ τ s H locs → lv_has ls 6 [(0, .ref (g.2.2 66)), (1, .int x1), (2, .int x2), (4, .int x4), (5, .int x5)] → W p l e (zR 2) s m args below meth c H locs 0 0 (MQ below (zPi g A σ (res, τ)) args s 0 0 A) (F0 m 56 ls [.int s0])
def PX7_standsOn_55 (p : Program) (l : Launch) (e : Env) (s : State) (m : MethodId) (args : Array Value) (below : List Frame) (meth : Method) (c : Code) (g : zG) (A : Nat → Prop) (σ τ : zS) (res : Int32) (f : Int32 → Int32 → Int32 → Int32 → Option (Int32)) : Prop := ∀ (x1 : Int32) (x2 : Int32) (x4 : Int32) (x5 : Int32) (H : Heap) (locs : List Loc) (ls : Array Slot), f x1 x2 x4 x5 = some res → zW g A σ τ s H locs → lv_has ls 6 [(0, .ref (g.2.2 66)), (1, .int x1), (2, .int x2), (4, .int x4), (5, .int x5)] → W p l e (zR 2) s m args below meth c H locs 0 0 (MQ below (zPi g A σ (res, τ)) args s 0 0 A) (F0 m 55 ls [])
def PX7_standsOn_17 (p : Program) (l : Launch) (e : Env) (s : State) (m : MethodId) (args : Array Value) (below : List Frame) (meth : Method) (c : Code) (g : zG) (A : Nat → Prop) (σ τ : zS) (res : Int32) (f : Int32 → Int32 → Int32 → Int32 → Option (Int32)) : Prop := ∀ (x1 : Int32) (x2 : Int32) (x3 : Int32) (x4 : Int32) (H : Heap) (locs : List Loc) (ls : Array Slot), f x1 x2 x3 x4 = some res → zW g A σ τ s H locs → lv_has ls 6 [(0, .ref (g.2.2 66)), (1, .int x1), (2, .int x2), (3, .int x3), (4, .int x4)] → W p l e (zR 2) s m args below meth c H locs 0 0 (MQ below (zPi g A σ (res, τ)) args s 0 0 A) (F0 m 17 ls [])
def fX7_standsOn_56 (N : Nat) (τ : zS) (rc : Int32 → Int32 → Int32 → Int32 → Option (Int32)) (x1 : Int32) (x2 : Int32) (x4 : Int32) (x5 : Int32) (s0 : Int32) : Option (Int32) :=
  if zin ((x1 + (nI 5)) + x5) (zlen 55) then
  zlet (τ.2 55 ((x1 + (nI 5)) + x5).toNatClampNeg) fun v2 =>
  rc x1 (x2 + v2) s0 (x4 + (-1))
  else none
set_option maxRecDepth 100000 in
set_option maxHeartbeats 4000000 in
theorem hX7_standsOn_56 {p : Program} {l : Launch} {e : Env} {s : State} {m : MethodId} {args : Array Value} {below : List Frame} {meth : Method} {c : Code} {g : zG} {A : Nat → Prop} {σ τ : zS} {res : Int32} (C : zCx p s m args meth c cX7_standsOn (some .boolean) wsX7_standsOn RX7 6) (E : zE g A s) (N : Nat) (rc : Int32 → Int32 → Int32 → Int32 → Option (Int32)) (hrc : PX7_standsOn_17 p l e s m args below meth c g A σ τ res rc) : PX7_standsOn_56 p l e s m args below meth c g A σ τ res (fX7_standsOn_56 N τ rc) := by
  obtain ⟨hx, hb, hr, hml, hown, hts, hlocks⟩ := id C
  intro x1 x2 x4 x5 s0 H locs ls hf hh hl
  unfold fX7_standsOn_56 at hf
  refine lv_istore_n (lv' := [(3, .int s0), (0, .ref (g.2.2 66)), (1, .int x1), (2, .int x2), (4, .int x4), (5, .int x5)]) hx hb dX7_standsOn_56 rfl hl (by decide) rfl (fun ls hl => ?_)
  refine lv_iload_n hx hb dX7_standsOn_57 rfl (lv_at hl 3 rfl) ?_
  refine lv_aload_n hx hb dX7_standsOn_58 rfl (lv_at hl 1 rfl) ?_
  refine z_get (v := .ref (g.2.2 55)) hx hb hts (fun w h => List.mem_cons_of_mem _ (List.mem_append_right _ (h))) hown E hh (by decide) (zC_obj (q := 66) rfl) rfl 0 (by decide) (hts (.fieldLink RX7 7 "TownBandModel" "state" "[I") (List.mem_cons_of_mem _ (List.mem_append_left _ (List.mem_of_getElem? (i := 0) rfl)))) rfl dX7_standsOn_59 ?_
  refine lv_iload_n hx hb dX7_standsOn_62 rfl (lv_at hl 2 rfl) ?_
  refine lv_iconst (v := (nI 5)) hx hb dX7_standsOn_63 (by decide) ?_
  refine lv_iadd hx hb dX7_standsOn_64 ?_
  refine lv_iload hx hb dX7_standsOn_65 (lv_at hl 5 rfl) ?_
  refine lv_iadd hx hb dX7_standsOn_67 ?_
  obtain ⟨h_v1, hf⟩ := z_if hf
  obtain ⟨v2, e_v2, hf⟩ := z_lt hf
  refine z_ialdM hx hb E hh (by decide) (by decide) h_v1 e_v2 dX7_standsOn_68 ?_
  refine lv_iadd hx hb dX7_standsOn_69 ?_
  refine lv_istore_n (lv' := [(2, .int (x2 + v2)), (3, .int s0), (0, .ref (g.2.2 66)), (1, .int x1), (4, .int x4), (5, .int x5)]) hx hb dX7_standsOn_70 rfl hl (by decide) rfl (fun ls hl => ?_)
  refine lv_iinc (v := (x4 + (-1))) (lv' := [(4, .int (x4 + (-1))), (2, .int (x2 + v2)), (3, .int s0), (0, .ref (g.2.2 66)), (1, .int x1), (5, .int x5)]) hx hb dX7_standsOn_71 hl (k := 4) rfl rfl (by decide) rfl (fun ls hl => ?_)
  refine lv_goto (tgt := 17) hx hb dX7_standsOn_74 (by decide) ?_
  exact hrc x1 (x2 + v2) s0 (x4 + (-1)) _ _ _ hf hh (lv_sub hl [3, 4, 1, 2, 0] rfl)
def fX7_standsOn_55 (N : Nat) (τ : zS) (rc : Int32 → Int32 → Int32 → Int32 → Option (Int32)) (x1 : Int32) (x2 : Int32) (x4 : Int32) (x5 : Int32) : Option (Int32) :=
  (fX7_standsOn_56 N τ rc) x1 x2 x4 x5 (nI 0)
set_option maxRecDepth 100000 in
set_option maxHeartbeats 4000000 in
theorem hX7_standsOn_55 {p : Program} {l : Launch} {e : Env} {s : State} {m : MethodId} {args : Array Value} {below : List Frame} {meth : Method} {c : Code} {g : zG} {A : Nat → Prop} {σ τ : zS} {res : Int32} (C : zCx p s m args meth c cX7_standsOn (some .boolean) wsX7_standsOn RX7 6) (E : zE g A s) (N : Nat) (rc : Int32 → Int32 → Int32 → Int32 → Option (Int32)) (hrc : PX7_standsOn_17 p l e s m args below meth c g A σ τ res rc) : PX7_standsOn_55 p l e s m args below meth c g A σ τ res (fX7_standsOn_55 N τ rc) := by
  obtain ⟨hx, hb, hr, hml, hown, hts, hlocks⟩ := id C
  intro x1 x2 x4 x5 H locs ls hf hh hl
  unfold fX7_standsOn_55 at hf
  refine lv_iconst (v := (nI 0)) hx hb dX7_standsOn_55 (by decide) ?_
  exact (hX7_standsOn_56 C E N rc hrc) x1 x2 x4 x5 (nI 0) _ _ _ hf hh (lv_sub hl [0, 1, 2, 3, 4] rfl)
def fX7_standsOn_17 (N : Nat) (τ : zS) : Nat → Int32 → Int32 → Int32 → Int32 → Option (Int32)
  | 0, _, _, _, _ => none
  | n + 1, x1, x2, x3, x4 =>
    if x4 < 0 then
      if x3 = 0 ∨ x3 = 1 then
      some x3
      else none
    else
      if zin ((x1 + (nI 19)) + x4) (zlen 55) then
      zlet (τ.2 55 ((x1 + (nI 19)) + x4).toNatClampNeg) fun v4 =>
      if x3 = 0 then
        (fX7_standsOn_55 N τ (fX7_standsOn_17 N τ n)) x1 x2 x4 v4
      else
        (fX7_bearsOn N τ x1 v4).bind fun q6 =>
        if q6 < x2 then
          (fX7_standsOn_55 N τ (fX7_standsOn_17 N τ n)) x1 x2 x4 v4
        else
          (fX7_standsOn_56 N τ (fX7_standsOn_17 N τ n)) x1 x2 x4 v4 (nI 1)
      else none
set_option maxRecDepth 100000 in
set_option maxHeartbeats 4000000 in
theorem hX7_standsOn_17 {p : Program} {l : Launch} {e : Env} {s : State} {m : MethodId} {args : Array Value} {below : List Frame} {meth : Method} {c : Code} {g : zG} {A : Nat → Prop} {σ τ : zS} {res : Int32} (C : zCx p s m args meth c cX7_standsOn (some .boolean) wsX7_standsOn RX7 6) (E : zE g A s) (N : Nat) : ∀ n : Nat, PX7_standsOn_17 p l e s m args below meth c g A σ τ res (fX7_standsOn_17 N τ n) := by
  obtain ⟨hx, hb, hr, hml, hown, hts, hlocks⟩ := id C
  intro n
  induction n with
  | zero =>
    intro x1 x2 x3 x4 H locs ls hf
    exact absurd hf (by simp [fX7_standsOn_17])
  | succ n ih =>
    intro x1 x2 x3 x4 H locs ls hf hh hl
    rw [fX7_standsOn_17] at hf
    refine lv_iload hx hb dX7_standsOn_17 (lv_at hl 4 rfl) ?_
    refine lv_if_lt (tgt := 77) hx hb dX7_standsOn_19 (by decide) (fun c_v1 => ?_) (fun c_v1 => ?_)
    · have hf := z_ip hf c_v1
      refine lv_iload_n hx hb dX7_standsOn_77 rfl (lv_at hl 3 rfl) ?_
      obtain ⟨h_v2, hf⟩ := z_if hf
      have hf := Option.some.inj hf
      subst hf
      exact z_zretM hx hb hr hlocks h_v2 hh dX7_standsOn_78
    · have hf := z_in hf c_v1
      refine lv_aload_n hx hb dX7_standsOn_22 rfl (lv_at hl 0 rfl) ?_
      refine z_get (v := .ref (g.2.2 55)) hx hb hts (fun w h => List.mem_cons_of_mem _ (List.mem_append_right _ (h))) hown E hh (by decide) (zC_obj (q := 66) rfl) rfl 0 (by decide) (hts (.fieldLink RX7 7 "TownBandModel" "state" "[I") (List.mem_cons_of_mem _ (List.mem_append_left _ (List.mem_of_getElem? (i := 0) rfl)))) rfl dX7_standsOn_23 ?_
      refine lv_iload_n hx hb dX7_standsOn_26 rfl (lv_at hl 1 rfl) ?_
      refine lv_bipush (v := (nI 19)) hx hb dX7_standsOn_27 (by decide) ?_
      refine lv_iadd hx hb dX7_standsOn_29 ?_
      refine lv_iload hx hb dX7_standsOn_30 (lv_at hl 4 rfl) ?_
      refine lv_iadd hx hb dX7_standsOn_32 ?_
      obtain ⟨h_v3, hf⟩ := z_if hf
      obtain ⟨v4, e_v4, hf⟩ := z_lt hf
      refine z_ialdM hx hb E hh (by decide) (by decide) h_v3 e_v4 dX7_standsOn_33 ?_
      refine lv_istore (lv' := [(5, .int v4), (0, .ref (g.2.2 66)), (1, .int x1), (2, .int x2), (3, .int x3), (4, .int x4)]) hx hb dX7_standsOn_34 hl (by decide) rfl (fun ls hl => ?_)
      refine lv_iload_n hx hb dX7_standsOn_36 rfl (lv_at hl 4 rfl) ?_
      refine lv_if_eq (tgt := 55) hx hb dX7_standsOn_37 (by decide) (fun c_v5 => ?_) (fun c_v5 => ?_)
      · have hf := z_ip hf c_v5
        exact (hX7_standsOn_55 C E N (fX7_standsOn_17 N τ n) ih) x1 x2 x4 v4 _ _ _ hf hh (lv_sub hl [1, 2, 3, 5, 0] rfl)
      · have hf := z_in hf c_v5
        refine lv_aload_n hx hb dX7_standsOn_40 rfl (lv_at hl 1 rfl) ?_
        refine lv_iload_n hx hb dX7_standsOn_41 rfl (lv_at hl 2 rfl) ?_
        refine lv_iload hx hb dX7_standsOn_42 (lv_at hl 0 rfl) ?_
        obtain ⟨q6, h_q6, hf⟩ := z_bd hf
        refine z_mi (va_runV (As := [.int x1, .int v4]) (rest := []) ⟨hx, hb, hml, hown, hts⟩ (zcX7_bearsOn l g A σ τ N x1 v4 h_q6) (cwV 2 hts gX7_standsOn_X7_bearsOn rfl rfl rfl hdX7_bearsOn ⟨by decide, by decide⟩) (z_preV E hh (by decide) (zC_obj (q := 66) rfl) rfl) rfl rfl hl.1 rfl (lv_room (Nat.le_of_ble_eq_true rfl)) dX7_standsOn_44 ⟨Nat.le_refl _, Nat.le_refl _⟩) hh (fun H locs hh => ?_)
        refine lv_iload_n hx hb dX7_standsOn_47 rfl (lv_at hl 3 rfl) ?_
        refine lv_icmp_lt (tgt := 55) hx hb dX7_standsOn_48 (by decide) (fun c_v7 => ?_) (fun c_v7 => ?_)
        · have hf := z_ip hf c_v7
          exact (hX7_standsOn_55 C E N (fX7_standsOn_17 N τ n) ih) x1 x2 x4 v4 _ _ _ hf hh (lv_sub hl [1, 2, 3, 5, 0] rfl)
        · have hf := z_in hf c_v7
          refine lv_iconst (v := (nI 1)) hx hb dX7_standsOn_51 (by decide) ?_
          refine lv_goto (tgt := 56) hx hb dX7_standsOn_52 (by decide) ?_
          exact (hX7_standsOn_56 C E N (fX7_standsOn_17 N τ n) ih) x1 x2 x4 v4 (nI 1) _ _ _ hf hh (lv_sub hl [1, 2, 3, 5, 0] rfl)
def fX7_standsOn (N : Nat) (τ : zS) (x1 : Int32) : Option (Int32) :=
  if zin (x1 + (nI 24)) (zlen 55) then
  zlet (τ.2 55 (x1 + (nI 24)).toNatClampNeg) fun v2 =>
  zlet (v2 - (nI 1)) fun v3 =>
  (fX7_standsOn_17 N τ N) x1 (nI 0) (nI 1) v3
  else none
set_option maxRecDepth 100000 in
set_option maxHeartbeats 4000000 in
theorem zcX7_standsOn (l : Launch) (g : zG) (A : Nat → Prop) (σ τ : zS) (N : Nat) (x1 : Int32)  {res : Int32} (hf : fX7_standsOn N τ x1 = some res) : Met l yX7_standsOn wsX7_standsOn (zR 2) (zPc g A σ τ [.ref (g.2.2 66), .int x1]) (zPi g A σ (res, τ)) 0 0 A := by
  refine z_met (cc := cX7_standsOn) (ret := (some .boolean)) (own := RX7) (by decide) rfl rfl _ (Nat.le_of_ble_eq_true rfl) ?_
  intro p e s m below meth c C E ls hl hh
  have hl : lv_has ls 6 [(0, .ref (g.2.2 66)), (1, .int x1)] := hl
  obtain ⟨hx, hb, hr, hml, hown, hts, hlocks⟩ := id C
  unfold fX7_standsOn at hf
  refine lv_iconst (v := (nI 0)) hx hb dX7_standsOn_0 (by decide) ?_
  refine lv_istore_n (lv' := [(2, .int (nI 0)), (0, .ref (g.2.2 66)), (1, .int x1)]) hx hb dX7_standsOn_1 rfl hl (by decide) rfl (fun ls hl => ?_)
  refine lv_iconst (v := (nI 1)) hx hb dX7_standsOn_2 (by decide) ?_
  refine lv_istore_n (lv' := [(3, .int (nI 1)), (2, .int (nI 0)), (0, .ref (g.2.2 66)), (1, .int x1)]) hx hb dX7_standsOn_3 rfl hl (by decide) rfl (fun ls hl => ?_)
  refine lv_aload_n hx hb dX7_standsOn_4 rfl (lv_at hl 2 rfl) ?_
  refine z_get (v := .ref (g.2.2 55)) hx hb hts (fun w h => List.mem_cons_of_mem _ (List.mem_append_right _ (h))) hown E hh (by decide) (zC_obj (q := 66) rfl) rfl 0 (by decide) (hts (.fieldLink RX7 7 "TownBandModel" "state" "[I") (List.mem_cons_of_mem _ (List.mem_append_left _ (List.mem_of_getElem? (i := 0) rfl)))) rfl dX7_standsOn_5 ?_
  refine lv_iload_n hx hb dX7_standsOn_8 rfl (lv_at hl 3 rfl) ?_
  refine lv_bipush (v := (nI 24)) hx hb dX7_standsOn_9 (by decide) ?_
  refine lv_iadd hx hb dX7_standsOn_11 ?_
  obtain ⟨h_v1, hf⟩ := z_if hf
  obtain ⟨v2, e_v2, hf⟩ := z_lt hf
  refine z_ialdM hx hb E hh (by decide) (by decide) h_v1 e_v2 dX7_standsOn_12 ?_
  refine lv_iconst (v := (nI 1)) hx hb dX7_standsOn_13 (by decide) ?_
  refine lv_isub hx hb dX7_standsOn_14 ?_
  obtain ⟨v3, e_v3, hf⟩ := z_lt hf
  refine z_topi e_v3 ?_
  refine lv_istore (lv' := [(4, .int v3), (3, .int (nI 1)), (2, .int (nI 0)), (0, .ref (g.2.2 66)), (1, .int x1)]) hx hb dX7_standsOn_15 hl (by decide) rfl (fun ls hl => ?_)
  exact (hX7_standsOn_17 C E N N) x1 (nI 0) (nI 1) v3 _ _ _ hf hh (lv_sub hl [3, 4, 2, 1, 0] rfl)
/-! ===== X7_readWhole ===== -/
theorem hdX7_readWhole : yX7_readWhole.cls = RX7 ∧ yX7_readWhole.cls ≠ "java/lang/invoke/MethodHandle" ∧ yX7_readWhole.cls ≠ "java/lang/invoke/VarHandle" ∧ (parseMethodDescriptor yX7_readWhole.desc).map (fun d => d.parameters.length) = some 0 := by decide +kernel
def PX7_readWhole_87 (p : Program) (l : Launch) (e : Env) (s : State) (m : MethodId) (args : Array Value) (below : List Frame) (meth : Method) (c : Code) (g : zG) (A : Nat → Prop) (σ : zS) (res : zS) (f : zS → Option (zS)) : Prop := ∀  (τ : zS) (H : Heap) (locs : List Loc) (ls : Array Slot), f τ = some res → zW g A σ τ s H locs → lv_has ls 3 [(0, .ref (g.2.2 66))] → W p l e (zR 3) s m args below meth c H locs 0 0 (MQ below (zPv g A σ res) args s 0 0 A) (F0 m 87 ls [])
def PX7_readWhole_60 (p : Program) (l : Launch) (e : Env) (s : State) (m : MethodId) (args : Array Value) (below : List Frame) (meth : Method) (c : Code) (g : zG) (A : Nat → Prop) (σ : zS) (res : zS) (f : Int32 → zS → Option (zS)) : Prop := ∀ (x2 : Int32) (τ : zS) (H : Heap) (locs : List Loc) (ls : Array Slot), f x2 τ = some res → zW g A σ τ s H locs → lv_has ls 3 [(0, .ref (g.2.2 66)), (2, .int x2)] → W p l e (zR 3) s m args below meth c H locs 0 0 (MQ below (zPv g A σ res) args s 0 0 A) (F0 m 60 ls [])
def PX7_readWhole_58 (p : Program) (l : Launch) (e : Env) (s : State) (m : MethodId) (args : Array Value) (below : List Frame) (meth : Method) (c : Code) (g : zG) (A : Nat → Prop) (σ : zS) (res : zS) (f : zS → Option (zS)) : Prop := ∀  (τ : zS) (H : Heap) (locs : List Loc) (ls : Array Slot), f τ = some res → zW g A σ τ s H locs → lv_has ls 3 [(0, .ref (g.2.2 66))] → W p l e (zR 3) s m args below meth c H locs 0 0 (MQ below (zPv g A σ res) args s 0 0 A) (F0 m 58 ls [])
def PX7_readWhole_31 (p : Program) (l : Launch) (e : Env) (s : State) (m : MethodId) (args : Array Value) (below : List Frame) (meth : Method) (c : Code) (g : zG) (A : Nat → Prop) (σ : zS) (res : zS) (f : Int32 → zS → Option (zS)) : Prop := ∀ (x1 : Int32) (τ : zS) (H : Heap) (locs : List Loc) (ls : Array Slot), f x1 τ = some res → zW g A σ τ s H locs → lv_has ls 3 [(0, .ref (g.2.2 66)), (1, .int x1)] → W p l e (zR 3) s m args below meth c H locs 0 0 (MQ below (zPv g A σ res) args s 0 0 A) (F0 m 31 ls [])
def fX7_readWhole_87 (N : Nat)  (τ : zS) : Option (zS) :=
  if (τ.1 66 13) = 0 then
    (fX7_standsOn N τ (nI 124)).bind fun q2 =>
    if q2 = 0 then
      (fX7_fails N τ (nI 8)).bind fun q4 =>
      some q4
    else
      some τ
  else
    some τ
set_option maxRecDepth 100000 in
set_option maxHeartbeats 4000000 in
theorem hX7_readWhole_87 {p : Program} {l : Launch} {e : Env} {s : State} {m : MethodId} {args : Array Value} {below : List Frame} {meth : Method} {c : Code} {g : zG} {A : Nat → Prop} {σ : zS} {res : zS} (C : zCx p s m args meth c cX7_readWhole none wsX7_readWhole RX7 3) (E : zE g A s) (N : Nat) : PX7_readWhole_87 p l e s m args below meth c g A σ res (fX7_readWhole_87 N) := by
  obtain ⟨hx, hb, hr, hml, hown, hts, hlocks⟩ := id C
  intro τ H locs ls hf hh hl
  unfold fX7_readWhole_87 at hf
  refine lv_aload_n hx hb dX7_readWhole_87 rfl (lv_at hl 0 rfl) ?_
  refine z_get (v := .int (τ.1 66 13)) hx hb hts (fun w h => List.mem_cons_of_mem _ (List.mem_append_right _ (h))) hown E hh (by decide) (zC_obj (q := 66) rfl) rfl 13 (by decide) (hts (.fieldLink RX7 54 "TownBandModel" "broken" "I") (List.mem_cons_of_mem _ (List.mem_append_left _ (List.mem_append_left _ (List.mem_of_getElem? (i := 6) rfl))))) rfl dX7_readWhole_88 ?_
  refine lv_if_ne (tgt := 109) hx hb dX7_readWhole_91 (by decide) (fun c_v1 => ?_) (fun c_v1 => ?_)
  · have hf := z_in hf c_v1
    have hf := Option.some.inj hf
    subst hf
    exact z_vretM hx hb hr hlocks hh dX7_readWhole_109
  · have hf := z_ip hf c_v1
    refine lv_aload_n hx hb dX7_readWhole_94 rfl (lv_at hl 0 rfl) ?_
    refine lv_bipush (v := (nI 124)) hx hb dX7_readWhole_95 (by decide) ?_
    obtain ⟨q2, h_q2, hf⟩ := z_bd hf
    refine z_mi (va_runV (As := [.int (nI 124)]) (rest := []) ⟨hx, hb, hml, hown, hts⟩ (zcX7_standsOn l g A σ τ N (nI 124) h_q2) (cwV 1 hts gX7_readWhole_X7_standsOn rfl rfl rfl hdX7_standsOn ⟨by decide, by decide⟩) (z_preV E hh (by decide) (zC_obj (q := 66) rfl) rfl) rfl rfl hl.1 rfl (lv_room (Nat.le_of_ble_eq_true rfl)) dX7_readWhole_97 ⟨Nat.le_refl _, Nat.le_refl _⟩) hh (fun H locs hh => ?_)
    refine lv_if_ne (tgt := 109) hx hb dX7_readWhole_100 (by decide) (fun c_v3 => ?_) (fun c_v3 => ?_)
    · have hf := z_in hf c_v3
      have hf := Option.some.inj hf
      subst hf
      exact z_vretM hx hb hr hlocks hh dX7_readWhole_109
    · have hf := z_ip hf c_v3
      refine lv_aload_n hx hb dX7_readWhole_103 rfl (lv_at hl 0 rfl) ?_
      refine lv_bipush (v := (nI 8)) hx hb dX7_readWhole_104 (by decide) ?_
      obtain ⟨q4, h_q4, hf⟩ := z_bd hf
      refine z_mv (va_runV (As := [.int (nI 8)]) (rest := []) ⟨hx, hb, hml, hown, hts⟩ (zcX7_fails l g A σ τ N (nI 8) h_q4) (cwV 1 hts gX7_readWhole_X7_fails rfl rfl rfl hdX7_fails ⟨by decide, by decide⟩) (z_preV E hh (by decide) (zC_obj (q := 66) rfl) rfl) rfl rfl hl.1 rfl (lv_room (Nat.le_of_ble_eq_true rfl)) dX7_readWhole_106 ⟨Nat.le_refl _, Nat.le_refl _⟩) hh (fun H locs hh => ?_)
      have hf := Option.some.inj hf
      subst hf
      exact z_vretM hx hb hr hlocks hh dX7_readWhole_109
def fX7_readWhole_60 (N : Nat) (k_87 : zS → Option (zS)) : Nat → Int32 → zS → Option (zS)
  | 0, _, _ => none
  | n + 1, x2, τ =>
    if (nI 31) ≤ x2 then
      k_87 τ
    else
      if zin x2 (zlen 56) then
      zlet (τ.2 56 x2.toNatClampNeg) fun v3 =>
      if zin ((nI 124) + x2) (zlen 55) then
      zlet (zpa τ 55 (upd (τ.2 55) ((nI 124) + x2).toNatClampNeg v3)) fun τ5 =>
      (fX7_readWhole_60 N k_87 n) (x2 + (nI 1)) τ5
      else none
      else none
set_option maxRecDepth 100000 in
set_option maxHeartbeats 4000000 in
theorem hX7_readWhole_60 {p : Program} {l : Launch} {e : Env} {s : State} {m : MethodId} {args : Array Value} {below : List Frame} {meth : Method} {c : Code} {g : zG} {A : Nat → Prop} {σ : zS} {res : zS} (C : zCx p s m args meth c cX7_readWhole none wsX7_readWhole RX7 3) (E : zE g A s) (N : Nat) (k_87 : zS → Option (zS)) (hk_87 : PX7_readWhole_87 p l e s m args below meth c g A σ res k_87) : ∀ n : Nat, PX7_readWhole_60 p l e s m args below meth c g A σ res (fX7_readWhole_60 N k_87 n) := by
  obtain ⟨hx, hb, hr, hml, hown, hts, hlocks⟩ := id C
  intro n
  induction n with
  | zero =>
    intro x2 τ H locs ls hf
    exact absurd hf (by simp [fX7_readWhole_60])
  | succ n ih =>
    intro x2 τ H locs ls hf hh hl
    rw [fX7_readWhole_60] at hf
    refine lv_iload_n hx hb dX7_readWhole_60 rfl (lv_at hl 1 rfl) ?_
    refine lv_bipush (v := (nI 31)) hx hb dX7_readWhole_61 (by decide) ?_
    refine lv_icmp_ge (tgt := 87) hx hb dX7_readWhole_63 (by decide) (fun c_v1 => ?_) (fun c_v1 => ?_)
    · have hf := z_ip hf c_v1
      exact hk_87 τ _ _ _ hf hh (lv_sub hl [0] rfl)
    · have hf := z_in hf c_v1
      refine lv_aload_n hx hb dX7_readWhole_66 rfl (lv_at hl 0 rfl) ?_
      refine z_get (v := .ref (g.2.2 55)) hx hb hts (fun w h => List.mem_cons_of_mem _ (List.mem_append_right _ (h))) hown E hh (by decide) (zC_obj (q := 66) rfl) rfl 0 (by decide) (hts (.fieldLink RX7 7 "TownBandModel" "state" "[I") (List.mem_cons_of_mem _ (List.mem_append_left _ (List.mem_append_left _ (List.mem_of_getElem? (i := 4) rfl))))) rfl dX7_readWhole_67 ?_
      refine lv_bipush (v := (nI 124)) hx hb dX7_readWhole_70 (by decide) ?_
      refine lv_iload_n hx hb dX7_readWhole_72 rfl (lv_at hl 1 rfl) ?_
      refine lv_iadd hx hb dX7_readWhole_73 ?_
      refine lv_aload_n hx hb dX7_readWhole_74 rfl (lv_at hl 0 rfl) ?_
      refine z_get (v := .ref (g.2.2 56)) hx hb hts (fun w h => List.mem_cons_of_mem _ (List.mem_append_right _ (h))) hown E hh (by decide) (zC_obj (q := 66) rfl) rfl 3 (by decide) (hts (.fieldLink RX7 13 "TownBandModel" "readPage" "[I") (List.mem_cons_of_mem _ (List.mem_append_left _ (List.mem_append_left _ (List.mem_of_getElem? (i := 5) rfl))))) rfl dX7_readWhole_75 ?_
      refine lv_iload_n hx hb dX7_readWhole_78 rfl (lv_at hl 1 rfl) ?_
      obtain ⟨h_v2, hf⟩ := z_if hf
      obtain ⟨v3, e_v3, hf⟩ := z_lt hf
      refine z_ialdM hx hb E hh (by decide) (by decide) h_v2 e_v3 dX7_readWhole_79 ?_
      obtain ⟨h_v4, hf⟩ := z_if hf
      obtain ⟨τ5, e_τ5, hf⟩ := z_lt hf
      refine z_iastM hx hb E hh (by decide) (by decide) h_v4 e_τ5 dX7_readWhole_80 (fun H locs hh => ?_)
      refine lv_iinc (v := (x2 + (nI 1))) (lv' := [(2, .int (x2 + (nI 1))), (0, .ref (g.2.2 66))]) hx hb dX7_readWhole_81 hl (k := 1) rfl rfl (by decide) rfl (fun ls hl => ?_)
      refine lv_goto (tgt := 60) hx hb dX7_readWhole_84 (by decide) ?_
      exact ih (x2 + (nI 1)) τ5 _ _ _ hf hh (lv_sub hl [1, 0] rfl)
def fX7_readWhole_58 (N : Nat)  (τ : zS) : Option (zS) :=
  (fX7_readWhole_60 N (fX7_readWhole_87 N) N) (nI 0) τ
set_option maxRecDepth 100000 in
set_option maxHeartbeats 4000000 in
theorem hX7_readWhole_58 {p : Program} {l : Launch} {e : Env} {s : State} {m : MethodId} {args : Array Value} {below : List Frame} {meth : Method} {c : Code} {g : zG} {A : Nat → Prop} {σ : zS} {res : zS} (C : zCx p s m args meth c cX7_readWhole none wsX7_readWhole RX7 3) (E : zE g A s) (N : Nat) : PX7_readWhole_58 p l e s m args below meth c g A σ res (fX7_readWhole_58 N) := by
  obtain ⟨hx, hb, hr, hml, hown, hts, hlocks⟩ := id C
  intro τ H locs ls hf hh hl
  unfold fX7_readWhole_58 at hf
  refine lv_iconst (v := (nI 0)) hx hb dX7_readWhole_58 (by decide) ?_
  refine lv_istore_n (lv' := [(2, .int (nI 0)), (0, .ref (g.2.2 66))]) hx hb dX7_readWhole_59 rfl hl (by decide) rfl (fun ls hl => ?_)
  exact (hX7_readWhole_60 C E N (fX7_readWhole_87 N) (hX7_readWhole_87 C E N) N) (nI 0) τ _ _ _ hf hh (lv_sub hl [1, 0] rfl)
def fX7_readWhole_31 (N : Nat) (x1 : Int32) (τ : zS) : Option (zS) :=
  if (((τ.1 66 6) >>> ((nI 7) &&& 31)) &&& (nI 1)) = (nI 1) then
    if (τ.1 66 8) = x1 then
      (fX7_readWhole_58 N) τ
    else
      (fX7_fails N τ (nI 7)).bind fun q3 =>
      (fX7_readWhole_58 N) q3
  else
    (fX7_readWhole_58 N) τ
set_option maxRecDepth 100000 in
set_option maxHeartbeats 4000000 in
theorem hX7_readWhole_31 {p : Program} {l : Launch} {e : Env} {s : State} {m : MethodId} {args : Array Value} {below : List Frame} {meth : Method} {c : Code} {g : zG} {A : Nat → Prop} {σ : zS} {res : zS} (C : zCx p s m args meth c cX7_readWhole none wsX7_readWhole RX7 3) (E : zE g A s) (N : Nat) : PX7_readWhole_31 p l e s m args below meth c g A σ res (fX7_readWhole_31 N) := by
  obtain ⟨hx, hb, hr, hml, hown, hts, hlocks⟩ := id C
  intro x1 τ H locs ls hf hh hl
  unfold fX7_readWhole_31 at hf
  refine lv_aload_n hx hb dX7_readWhole_31 rfl (lv_at hl 0 rfl) ?_
  refine z_get (v := .int (τ.1 66 6)) hx hb hts (fun w h => List.mem_cons_of_mem _ (List.mem_append_right _ (h))) hown E hh (by decide) (zC_obj (q := 66) rfl) rfl 6 (by decide) (hts (.fieldLink RX7 122 "TownBandModel" "toldOnce" "I") (List.mem_cons_of_mem _ (List.mem_append_left _ (List.mem_append_left _ (List.mem_of_getElem? (i := 3) rfl))))) rfl dX7_readWhole_32 ?_
  refine lv_bipush (v := (nI 7)) hx hb dX7_readWhole_35 (by decide) ?_
  refine lv_ishr hx hb dX7_readWhole_37 ?_
  refine lv_iconst (v := (nI 1)) hx hb dX7_readWhole_38 (by decide) ?_
  refine lv_iand hx hb dX7_readWhole_39 ?_
  refine lv_iconst (v := (nI 1)) hx hb dX7_readWhole_40 (by decide) ?_
  refine lv_icmp_ne (tgt := 58) hx hb dX7_readWhole_41 (by decide) (fun c_v1 => ?_) (fun c_v1 => ?_)
  · have hf := z_in hf c_v1
    exact (hX7_readWhole_58 C E N) τ _ _ _ hf hh (lv_sub hl [0] rfl)
  · have hf := z_ip hf c_v1
    refine lv_aload_n hx hb dX7_readWhole_44 rfl (lv_at hl 0 rfl) ?_
    refine z_get (v := .int (τ.1 66 8)) hx hb hts (fun w h => List.mem_cons_of_mem _ (List.mem_append_right _ (h))) hown E hh (by decide) (zC_obj (q := 66) rfl) rfl 8 (by decide) (hts (.fieldLink RX7 98 "TownBandModel" "bedsTold" "I") (List.mem_cons_of_mem _ (List.mem_append_left _ (List.mem_append_left _ (List.mem_of_getElem? (i := 2) rfl))))) rfl dX7_readWhole_45 ?_
    refine lv_iload_n hx hb dX7_readWhole_48 rfl (lv_at hl 1 rfl) ?_
    refine lv_icmp_eq (tgt := 58) hx hb dX7_readWhole_49 (by decide) (fun c_v2 => ?_) (fun c_v2 => ?_)
    · have hf := z_ip hf c_v2
      exact (hX7_readWhole_58 C E N) τ _ _ _ hf hh (lv_sub hl [0] rfl)
    · have hf := z_in hf c_v2
      refine lv_aload_n hx hb dX7_readWhole_52 rfl (lv_at hl 0 rfl) ?_
      refine lv_bipush (v := (nI 7)) hx hb dX7_readWhole_53 (by decide) ?_
      obtain ⟨q3, h_q3, hf⟩ := z_bd hf
      refine z_mv (va_runV (As := [.int (nI 7)]) (rest := []) ⟨hx, hb, hml, hown, hts⟩ (zcX7_fails l g A σ τ N (nI 7) h_q3) (cwV 1 hts gX7_readWhole_X7_fails rfl rfl rfl hdX7_fails ⟨by decide, by decide⟩) (z_preV E hh (by decide) (zC_obj (q := 66) rfl) rfl) rfl rfl hl.1 rfl (lv_room (Nat.le_of_ble_eq_true rfl)) dX7_readWhole_55 ⟨Nat.le_refl _, Nat.le_refl _⟩) hh (fun H locs hh => ?_)
      exact (hX7_readWhole_58 C E N) q3 _ _ _ hf hh (lv_sub hl [0] rfl)
def fX7_readWhole (N : Nat) (τ : zS)  : Option (zS) :=
  zlet (((nI 1) <<< ((τ.1 66 4) &&& 31)) - (nI 1)) fun v1 =>
  if (((τ.1 66 7) ||| (τ.1 66 8)) &&& (v1 ^^^ (-1))) = 0 then
    (fX7_readWhole_31 N) v1 τ
  else
    (fX7_fails N τ (nI 6)).bind fun q3 =>
    (fX7_readWhole_31 N) v1 q3
set_option maxRecDepth 100000 in
set_option maxHeartbeats 4000000 in
theorem zcX7_readWhole (l : Launch) (g : zG) (A : Nat → Prop) (σ τ : zS) (N : Nat)   {res : zS} (hf : fX7_readWhole N τ = some res) : Met l yX7_readWhole wsX7_readWhole (zR 3) (zPc g A σ τ [.ref (g.2.2 66)]) (zPv g A σ res) 0 0 A := by
  refine z_met (cc := cX7_readWhole) (ret := none) (own := RX7) (by decide) rfl rfl _ (Nat.le_of_ble_eq_true rfl) ?_
  intro p e s m below meth c C E ls hl hh
  have hl : lv_has ls 3 [(0, .ref (g.2.2 66))] := hl
  obtain ⟨hx, hb, hr, hml, hown, hts, hlocks⟩ := id C
  unfold fX7_readWhole at hf
  refine lv_iconst (v := (nI 1)) hx hb dX7_readWhole_0 (by decide) ?_
  refine lv_aload_n hx hb dX7_readWhole_1 rfl (lv_at hl 0 rfl) ?_
  refine z_get (v := .int (τ.1 66 4)) hx hb hts (fun w h => List.mem_cons_of_mem _ (List.mem_append_right _ (h))) hown E hh (by decide) (zC_obj (q := 66) rfl) rfl 4 (by decide) (hts (.fieldLink RX7 104 "TownBandModel" "readBeasts" "I") (List.mem_cons_of_mem _ (List.mem_append_left _ (List.mem_append_left _ (List.mem_of_getElem? (i := 0) rfl))))) rfl dX7_readWhole_2 ?_
  refine lv_ishl hx hb dX7_readWhole_5 ?_
  refine lv_iconst (v := (nI 1)) hx hb dX7_readWhole_6 (by decide) ?_
  refine lv_isub hx hb dX7_readWhole_7 ?_
  obtain ⟨v1, e_v1, hf⟩ := z_lt hf
  refine z_topi e_v1 ?_
  refine lv_istore_n (lv' := [(1, .int v1), (0, .ref (g.2.2 66))]) hx hb dX7_readWhole_8 rfl hl (by decide) rfl (fun ls hl => ?_)
  refine lv_aload_n hx hb dX7_readWhole_9 rfl (lv_at hl 1 rfl) ?_
  refine z_get (v := .int (τ.1 66 7)) hx hb hts (fun w h => List.mem_cons_of_mem _ (List.mem_append_right _ (h))) hown E hh (by decide) (zC_obj (q := 66) rfl) rfl 7 (by decide) (hts (.fieldLink RX7 91 "TownBandModel" "towerTold" "I") (List.mem_cons_of_mem _ (List.mem_append_left _ (List.mem_append_left _ (List.mem_of_getElem? (i := 1) rfl))))) rfl dX7_readWhole_10 ?_
  refine lv_aload_n hx hb dX7_readWhole_13 rfl (lv_at hl 1 rfl) ?_
  refine z_get (v := .int (τ.1 66 8)) hx hb hts (fun w h => List.mem_cons_of_mem _ (List.mem_append_right _ (h))) hown E hh (by decide) (zC_obj (q := 66) rfl) rfl 8 (by decide) (hts (.fieldLink RX7 98 "TownBandModel" "bedsTold" "I") (List.mem_cons_of_mem _ (List.mem_append_left _ (List.mem_append_left _ (List.mem_of_getElem? (i := 2) rfl))))) rfl dX7_readWhole_14 ?_
  refine lv_ior hx hb dX7_readWhole_17 ?_
  refine lv_iload_n hx hb dX7_readWhole_18 rfl (lv_at hl 0 rfl) ?_
  refine lv_iconst (v := (-1)) hx hb dX7_readWhole_19 (by decide) ?_
  refine lv_ixor hx hb dX7_readWhole_20 ?_
  refine lv_iand hx hb dX7_readWhole_21 ?_
  refine lv_if_eq (tgt := 31) hx hb dX7_readWhole_22 (by decide) (fun c_v2 => ?_) (fun c_v2 => ?_)
  · have hf := z_ip hf c_v2
    exact (hX7_readWhole_31 C E N) v1 τ _ _ _ hf hh (lv_sub hl [1, 0] rfl)
  · have hf := z_in hf c_v2
    refine lv_aload_n hx hb dX7_readWhole_25 rfl (lv_at hl 1 rfl) ?_
    refine lv_bipush (v := (nI 6)) hx hb dX7_readWhole_26 (by decide) ?_
    obtain ⟨q3, h_q3, hf⟩ := z_bd hf
    refine z_mv (va_runV (As := [.int (nI 6)]) (rest := []) ⟨hx, hb, hml, hown, hts⟩ (zcX7_fails l g A σ τ N (nI 6) h_q3) (cwV 1 hts gX7_readWhole_X7_fails rfl rfl rfl hdX7_fails ⟨by decide, by decide⟩) (z_preV E hh (by decide) (zC_obj (q := 66) rfl) rfl) rfl rfl hl.1 rfl (lv_room (Nat.le_of_ble_eq_true rfl)) dX7_readWhole_28 ⟨Nat.le_refl _, Nat.le_refl _⟩) hh (fun H locs hh => ?_)
    exact (hX7_readWhole_31 C E N) v1 q3 _ _ _ hf hh (lv_sub hl [1, 0] rfl)
/-! ===== X7_text ===== -/
theorem hdX7_text : yX7_text.cls = RX7 ∧ yX7_text.cls ≠ "java/lang/invoke/MethodHandle" ∧ yX7_text.cls ≠ "java/lang/invoke/VarHandle" ∧ (parseMethodDescriptor yX7_text.desc).map (fun d => d.parameters.length) = some 0 := by decide +kernel
def PX7_text_156 (p : Program) (l : Launch) (e : Env) (s : State) (m : MethodId) (args : Array Value) (below : List Frame) (meth : Method) (c : Code) (g : zG) (A : Nat → Prop) (σ : zS) (res : Int32 × zS) (f : Int32 → zS → Option (Int32 × zS)) : Prop := ∀ (x1 : Int32) (τ : zS) (H : Heap) (locs : List Loc) (ls : Array Slot), f x1 τ = some res → zW g A σ τ s H locs → lv_has ls 3 [(0, .ref (g.2.2 66)), (1, .int x1)] → W p l e (zR 6) s m args below meth c H locs 0 0 (MQ below (zPi g A σ res) args s 0 0 A) (F0 m 156 ls [])
def PX7_text_132 (p : Program) (l : Launch) (e : Env) (s : State) (m : MethodId) (args : Array Value) (below : List Frame) (meth : Method) (c : Code) (g : zG) (A : Nat → Prop) (σ : zS) (res : Int32 × zS) (f : Int32 → Int32 → zS → Option (Int32 × zS)) : Prop := ∀ (x1 : Int32) (x2 : Int32) (τ : zS) (H : Heap) (locs : List Loc) (ls : Array Slot), f x1 x2 τ = some res → zW g A σ τ s H locs → lv_has ls 3 [(0, .ref (g.2.2 66)), (1, .int x1), (2, .int x2)] → W p l e (zR 6) s m args below meth c H locs 0 0 (MQ below (zPi g A σ res) args s 0 0 A) (F0 m 132 ls [])
def PX7_text_102 (p : Program) (l : Launch) (e : Env) (s : State) (m : MethodId) (args : Array Value) (below : List Frame) (meth : Method) (c : Code) (g : zG) (A : Nat → Prop) (σ : zS) (res : Int32 × zS) (f : Int32 → zS → Option (Int32 × zS)) : Prop := ∀ (x1 : Int32) (τ : zS) (H : Heap) (locs : List Loc) (ls : Array Slot), f x1 τ = some res → zW g A σ τ s H locs → lv_has ls 3 [(0, .ref (g.2.2 66)), (1, .int x1)] → W p l e (zR 6) s m args below meth c H locs 0 0 (MQ below (zPi g A σ res) args s 0 0 A) (F0 m 102 ls [])
def PX7_text_91 (p : Program) (l : Launch) (e : Env) (s : State) (m : MethodId) (args : Array Value) (below : List Frame) (meth : Method) (c : Code) (g : zG) (A : Nat → Prop) (σ : zS) (res : Int32 × zS) (f : Int32 → zS → Option (Int32 × zS)) : Prop := ∀ (x1 : Int32) (τ : zS) (H : Heap) (locs : List Loc) (ls : Array Slot), f x1 τ = some res → zW g A σ τ s H locs → lv_has ls 3 [(0, .ref (g.2.2 66)), (1, .int x1)] → W p l e (zR 6) s m args below meth c H locs 0 0 (MQ below (zPi g A σ res) args s 0 0 A) (F0 m 91 ls [])
def PX7_text_67 (p : Program) (l : Launch) (e : Env) (s : State) (m : MethodId) (args : Array Value) (below : List Frame) (meth : Method) (c : Code) (g : zG) (A : Nat → Prop) (σ : zS) (res : Int32 × zS) (f : Int32 → zS → Option (Int32 × zS)) : Prop := ∀ (x1 : Int32) (τ : zS) (H : Heap) (locs : List Loc) (ls : Array Slot), f x1 τ = some res → zW g A σ τ s H locs → lv_has ls 3 [(0, .ref (g.2.2 66)), (1, .int x1)] → W p l e (zR 6) s m args below meth c H locs 0 0 (MQ below (zPi g A σ res) args s 0 0 A) (F0 m 67 ls [])
def PX7_text_63 (p : Program) (l : Launch) (e : Env) (s : State) (m : MethodId) (args : Array Value) (below : List Frame) (meth : Method) (c : Code) (g : zG) (A : Nat → Prop) (σ : zS) (res : Int32 × zS) (f : Int32 → zS → Option (Int32 × zS)) : Prop := ∀ (x1 : Int32) (τ : zS) (H : Heap) (locs : List Loc) (ls : Array Slot), f x1 τ = some res → zW g A σ τ s H locs → lv_has ls 3 [(0, .ref (g.2.2 66)), (1, .int x1)] → W p l e (zR 6) s m args below meth c H locs 0 0 (MQ below (zPi g A σ res) args s 0 0 A) (F0 m 63 ls [])
def PX7_text_44 (p : Program) (l : Launch) (e : Env) (s : State) (m : MethodId) (args : Array Value) (below : List Frame) (meth : Method) (c : Code) (g : zG) (A : Nat → Prop) (σ : zS) (res : Int32 × zS) (f : Int32 → Int32 → zS → Option (Int32 × zS)) : Prop := ∀ (x1 : Int32) (x2 : Int32) (τ : zS) (H : Heap) (locs : List Loc) (ls : Array Slot), f x1 x2 τ = some res → zW g A σ τ s H locs → lv_has ls 3 [(0, .ref (g.2.2 66)), (1, .int x1), (2, .int x2)] → W p l e (zR 6) s m args below meth c H locs 0 0 (MQ below (zPi g A σ res) args s 0 0 A) (F0 m 44 ls [])
def fX7_text_156 (N : Nat) (x1 : Int32) (τ : zS) : Option (Int32 × zS) :=
  zlet (zpf τ 66 1 (τ.1 66 4)) fun τ1 =>
  zlet (zpf τ1 66 2 (τ1.1 66 5)) fun τ2 =>
  zlet (zpf τ2 66 28 (nI 0)) fun τ3 =>
  if zin (nI 0) 2 then
  zlet (zpa τ3 65 (upd (τ3.2 65) (nI 0).toNatClampNeg (vp_nar .boolean (nI 0)))) fun τ5 =>
  if zin (nI 1) 2 then
  zlet (zpa τ5 65 (upd (τ5.2 65) (nI 1).toNatClampNeg (vp_nar .boolean (nI 0)))) fun τ7 =>
  some (x1, τ7)
  else none
  else none
set_option maxRecDepth 100000 in
set_option maxHeartbeats 4000000 in
theorem hX7_text_156 {p : Program} {l : Launch} {e : Env} {s : State} {m : MethodId} {args : Array Value} {below : List Frame} {meth : Method} {c : Code} {g : zG} {A : Nat → Prop} {σ : zS} {res : Int32 × zS} (C : zCx p s m args meth c cX7_text (some .int) wsX7_text RX7 3) (E : zE g A s) (N : Nat) : PX7_text_156 p l e s m args below meth c g A σ res (fX7_text_156 N) := by
  obtain ⟨hx, hb, hr, hml, hown, hts, hlocks⟩ := id C
  intro x1 τ H locs ls hf hh hl
  unfold fX7_text_156 at hf
  refine lv_aload_n hx hb dX7_text_156 rfl (lv_at hl 0 rfl) ?_
  refine lv_aload_n hx hb dX7_text_157 rfl (lv_at hl 0 rfl) ?_
  refine z_get (v := .int (τ.1 66 4)) hx hb hts (fun w h => List.mem_cons_of_mem _ (List.mem_append_right _ (h))) hown E hh (by decide) (zC_obj (q := 66) rfl) rfl 4 (by decide) (hts (.fieldLink RX7 104 "TownBandModel" "readBeasts" "I") (List.mem_cons_of_mem _ (List.mem_append_left _ (List.mem_append_left _ (List.mem_of_getElem? (i := 2) rfl))))) rfl dX7_text_158 ?_
  obtain ⟨τ1, e_τ1, hf⟩ := z_lt hf
  refine z_putM hx hb hts (fun w h => List.mem_cons_of_mem _ (List.mem_append_right _ (h))) tyX7 tyX7_ok nmX7 hown E hh (by decide) (by decide) (show zD 66 = _ from rfl) rfl 1 (by decide) rfl (hts (.fieldLink RX7 141 "TownBandModel" "beastMany" "I") (List.mem_cons_of_mem _ (List.mem_append_left _ (List.mem_append_left _ (List.mem_of_getElem? (i := 14) rfl))))) rfl rfl e_τ1 dX7_text_161 (fun H locs hh => ?_)
  refine lv_aload_n hx hb dX7_text_164 rfl (lv_at hl 0 rfl) ?_
  refine lv_aload_n hx hb dX7_text_165 rfl (lv_at hl 0 rfl) ?_
  refine z_get (v := .int (τ1.1 66 5)) hx hb hts (fun w h => List.mem_cons_of_mem _ (List.mem_append_right _ (h))) hown E hh (by decide) (zC_obj (q := 66) rfl) rfl 5 (by decide) (hts (.fieldLink RX7 107 "TownBandModel" "readRobbers" "I") (List.mem_cons_of_mem _ (List.mem_append_left _ (List.mem_append_left _ (List.mem_of_getElem? (i := 3) rfl))))) rfl dX7_text_166 ?_
  obtain ⟨τ2, e_τ2, hf⟩ := z_lt hf
  refine z_putM hx hb hts (fun w h => List.mem_cons_of_mem _ (List.mem_append_right _ (h))) tyX7 tyX7_ok nmX7 hown E hh (by decide) (by decide) (show zD 66 = _ from rfl) rfl 2 (by decide) rfl (hts (.fieldLink RX7 144 "TownBandModel" "robberMany" "I") (List.mem_cons_of_mem _ (List.mem_append_left _ (List.mem_append_left _ (List.mem_of_getElem? (i := 15) rfl))))) rfl rfl e_τ2 dX7_text_169 (fun H locs hh => ?_)
  refine lv_aload_n hx hb dX7_text_172 rfl (lv_at hl 0 rfl) ?_
  refine lv_iconst (v := (nI 0)) hx hb dX7_text_173 (by decide) ?_
  obtain ⟨τ3, e_τ3, hf⟩ := z_lt hf
  refine z_putM hx hb hts (fun w h => List.mem_cons_of_mem _ (List.mem_append_right _ (h))) tyX7 tyX7_ok nmX7 hown E hh (by decide) (by decide) (show zD 66 = _ from rfl) rfl 28 (by decide) rfl (hts (.fieldLink RX7 147 "TownBandModel" "seenMany" "I") (List.mem_cons_of_mem _ (List.mem_append_left _ (List.mem_append_left _ (List.mem_of_getElem? (i := 16) rfl))))) rfl rfl e_τ3 dX7_text_174 (fun H locs hh => ?_)
  refine lv_aload_n hx hb dX7_text_177 rfl (lv_at hl 0 rfl) ?_
  refine z_get (v := .ref (g.2.2 65)) hx hb hts (fun w h => List.mem_cons_of_mem _ (List.mem_append_right _ (h))) hown E hh (by decide) (zC_obj (q := 66) rfl) rfl 31 (by decide) (hts (.fieldLink RX7 31 "TownBandModel" "isKept" "[Z") (List.mem_cons_of_mem _ (List.mem_append_left _ (List.mem_append_left _ (List.mem_of_getElem? (i := 17) rfl))))) rfl dX7_text_178 ?_
  refine lv_iconst (v := (nI 0)) hx hb dX7_text_181 (by decide) ?_
  refine lv_iconst (v := (nI 0)) hx hb dX7_text_182 (by decide) ?_
  obtain ⟨h_v4, hf⟩ := z_if hf
  obtain ⟨τ5, e_τ5, hf⟩ := z_lt hf
  refine z_zastM hx hb E hh h_v4 e_τ5 dX7_text_183 (fun H locs hh => ?_)
  refine lv_aload_n hx hb dX7_text_184 rfl (lv_at hl 0 rfl) ?_
  refine z_get (v := .ref (g.2.2 65)) hx hb hts (fun w h => List.mem_cons_of_mem _ (List.mem_append_right _ (h))) hown E hh (by decide) (zC_obj (q := 66) rfl) rfl 31 (by decide) (hts (.fieldLink RX7 31 "TownBandModel" "isKept" "[Z") (List.mem_cons_of_mem _ (List.mem_append_left _ (List.mem_append_left _ (List.mem_of_getElem? (i := 17) rfl))))) rfl dX7_text_185 ?_
  refine lv_iconst (v := (nI 1)) hx hb dX7_text_188 (by decide) ?_
  refine lv_iconst (v := (nI 0)) hx hb dX7_text_189 (by decide) ?_
  obtain ⟨h_v6, hf⟩ := z_if hf
  obtain ⟨τ7, e_τ7, hf⟩ := z_lt hf
  refine z_zastM hx hb E hh h_v6 e_τ7 dX7_text_190 (fun H locs hh => ?_)
  refine lv_iload_n hx hb dX7_text_191 rfl (lv_at hl 1 rfl) ?_
  have hf := Option.some.inj hf
  subst hf
  exact z_iretM hx hb hr hlocks hh dX7_text_192
def fX7_text_132 (N : Nat) (k_156 : Int32 → zS → Option (Int32 × zS)) : Nat → Int32 → Int32 → zS → Option (Int32 × zS)
  | 0, _, _, _ => none
  | n + 1, x1, x2, τ =>
    if (nI 31) ≤ x2 then
      k_156 x1 τ
    else
      if zin x2 (zlen 56) then
      zlet (τ.2 56 x2.toNatClampNeg) fun v3 =>
      if zin x2 (zlen 55) then
      zlet (zpa τ 55 (upd (τ.2 55) x2.toNatClampNeg v3)) fun τ5 =>
      (fX7_text_132 N k_156 n) x1 (x2 + (nI 1)) τ5
      else none
      else none
set_option maxRecDepth 100000 in
set_option maxHeartbeats 4000000 in
theorem hX7_text_132 {p : Program} {l : Launch} {e : Env} {s : State} {m : MethodId} {args : Array Value} {below : List Frame} {meth : Method} {c : Code} {g : zG} {A : Nat → Prop} {σ : zS} {res : Int32 × zS} (C : zCx p s m args meth c cX7_text (some .int) wsX7_text RX7 3) (E : zE g A s) (N : Nat) (k_156 : Int32 → zS → Option (Int32 × zS)) (hk_156 : PX7_text_156 p l e s m args below meth c g A σ res k_156) : ∀ n : Nat, PX7_text_132 p l e s m args below meth c g A σ res (fX7_text_132 N k_156 n) := by
  obtain ⟨hx, hb, hr, hml, hown, hts, hlocks⟩ := id C
  intro n
  induction n with
  | zero =>
    intro x1 x2 τ H locs ls hf
    exact absurd hf (by simp [fX7_text_132])
  | succ n ih =>
    intro x1 x2 τ H locs ls hf hh hl
    rw [fX7_text_132] at hf
    refine lv_iload_n hx hb dX7_text_132 rfl (lv_at hl 2 rfl) ?_
    refine lv_bipush (v := (nI 31)) hx hb dX7_text_133 (by decide) ?_
    refine lv_icmp_ge (tgt := 156) hx hb dX7_text_135 (by decide) (fun c_v1 => ?_) (fun c_v1 => ?_)
    · have hf := z_ip hf c_v1
      exact hk_156 x1 τ _ _ _ hf hh (lv_sub hl [0, 1] rfl)
    · have hf := z_in hf c_v1
      refine lv_aload_n hx hb dX7_text_138 rfl (lv_at hl 0 rfl) ?_
      refine z_get (v := .ref (g.2.2 55)) hx hb hts (fun w h => List.mem_cons_of_mem _ (List.mem_append_right _ (h))) hown E hh (by decide) (zC_obj (q := 66) rfl) rfl 0 (by decide) (hts (.fieldLink RX7 7 "TownBandModel" "state" "[I") (List.mem_cons_of_mem _ (List.mem_append_left _ (List.mem_append_left _ (List.mem_of_getElem? (i := 13) rfl))))) rfl dX7_text_139 ?_
      refine lv_iload_n hx hb dX7_text_142 rfl (lv_at hl 2 rfl) ?_
      refine lv_aload_n hx hb dX7_text_143 rfl (lv_at hl 0 rfl) ?_
      refine z_get (v := .ref (g.2.2 56)) hx hb hts (fun w h => List.mem_cons_of_mem _ (List.mem_append_right _ (h))) hown E hh (by decide) (zC_obj (q := 66) rfl) rfl 3 (by decide) (hts (.fieldLink RX7 13 "TownBandModel" "readPage" "[I") (List.mem_cons_of_mem _ (List.mem_append_left _ (List.mem_append_left _ (List.mem_of_getElem? (i := 8) rfl))))) rfl dX7_text_144 ?_
      refine lv_iload_n hx hb dX7_text_147 rfl (lv_at hl 2 rfl) ?_
      obtain ⟨h_v2, hf⟩ := z_if hf
      obtain ⟨v3, e_v3, hf⟩ := z_lt hf
      refine z_ialdM hx hb E hh (by decide) (by decide) h_v2 e_v3 dX7_text_148 ?_
      obtain ⟨h_v4, hf⟩ := z_if hf
      obtain ⟨τ5, e_τ5, hf⟩ := z_lt hf
      refine z_iastM hx hb E hh (by decide) (by decide) h_v4 e_τ5 dX7_text_149 (fun H locs hh => ?_)
      refine lv_iinc (v := (x2 + (nI 1))) (lv' := [(2, .int (x2 + (nI 1))), (0, .ref (g.2.2 66)), (1, .int x1)]) hx hb dX7_text_150 hl (k := 2) rfl rfl (by decide) rfl (fun ls hl => ?_)
      refine lv_goto (tgt := 132) hx hb dX7_text_153 (by decide) ?_
      exact ih x1 (x2 + (nI 1)) τ5 _ _ _ hf hh (lv_sub hl [1, 2, 0] rfl)
def fX7_text_102 (N : Nat) (x1 : Int32) (τ : zS) : Option (Int32 × zS) :=
  zlet (zpf τ 66 11 (nI 0)) fun τ1 =>
  zlet (zpf τ1 66 12 (τ1.1 66 13)) fun τ2 =>
  if (τ2.1 66 13) ≤ 0 then
    (fX7_text_132 N (fX7_text_156 N) N) x1 (nI 0) τ2
  else
    some (((-10) - (τ2.1 66 14)), τ2)
set_option maxRecDepth 100000 in
set_option maxHeartbeats 4000000 in
theorem hX7_text_102 {p : Program} {l : Launch} {e : Env} {s : State} {m : MethodId} {args : Array Value} {below : List Frame} {meth : Method} {c : Code} {g : zG} {A : Nat → Prop} {σ : zS} {res : Int32 × zS} (C : zCx p s m args meth c cX7_text (some .int) wsX7_text RX7 3) (E : zE g A s) (N : Nat) : PX7_text_102 p l e s m args below meth c g A σ res (fX7_text_102 N) := by
  obtain ⟨hx, hb, hr, hml, hown, hts, hlocks⟩ := id C
  intro x1 τ H locs ls hf hh hl
  unfold fX7_text_102 at hf
  refine lv_aload_n hx hb dX7_text_102 rfl (lv_at hl 0 rfl) ?_
  refine lv_iconst (v := (nI 0)) hx hb dX7_text_103 (by decide) ?_
  obtain ⟨τ1, e_τ1, hf⟩ := z_lt hf
  refine z_putM hx hb hts (fun w h => List.mem_cons_of_mem _ (List.mem_append_right _ (h))) tyX7 tyX7_ok nmX7 hown E hh (by decide) (by decide) (show zD 66 = _ from rfl) rfl 11 (by decide) rfl (hts (.fieldLink RX7 50 "TownBandModel" "taped" "I") (List.mem_cons_of_mem _ (List.mem_append_left _ (List.mem_append_left _ (List.mem_of_getElem? (i := 10) rfl))))) rfl rfl e_τ1 dX7_text_104 (fun H locs hh => ?_)
  refine lv_aload_n hx hb dX7_text_107 rfl (lv_at hl 0 rfl) ?_
  refine lv_aload_n hx hb dX7_text_108 rfl (lv_at hl 0 rfl) ?_
  refine z_get (v := .int (τ1.1 66 13)) hx hb hts (fun w h => List.mem_cons_of_mem _ (List.mem_append_right _ (h))) hown E hh (by decide) (zC_obj (q := 66) rfl) rfl 13 (by decide) (hts (.fieldLink RX7 54 "TownBandModel" "broken" "I") (List.mem_cons_of_mem _ (List.mem_append_left _ (List.mem_append_left _ (List.mem_of_getElem? (i := 0) rfl))))) rfl dX7_text_109 ?_
  obtain ⟨τ2, e_τ2, hf⟩ := z_lt hf
  refine z_putM hx hb hts (fun w h => List.mem_cons_of_mem _ (List.mem_append_right _ (h))) tyX7 tyX7_ok nmX7 hown E hh (by decide) (by decide) (show zD 66 = _ from rfl) rfl 12 (by decide) rfl (hts (.fieldLink RX7 138 "TownBandModel" "fault" "I") (List.mem_cons_of_mem _ (List.mem_append_left _ (List.mem_append_left _ (List.mem_of_getElem? (i := 11) rfl))))) rfl rfl e_τ2 dX7_text_112 (fun H locs hh => ?_)
  refine lv_aload_n hx hb dX7_text_115 rfl (lv_at hl 0 rfl) ?_
  refine z_get (v := .int (τ2.1 66 13)) hx hb hts (fun w h => List.mem_cons_of_mem _ (List.mem_append_right _ (h))) hown E hh (by decide) (zC_obj (q := 66) rfl) rfl 13 (by decide) (hts (.fieldLink RX7 54 "TownBandModel" "broken" "I") (List.mem_cons_of_mem _ (List.mem_append_left _ (List.mem_append_left _ (List.mem_of_getElem? (i := 0) rfl))))) rfl dX7_text_116 ?_
  refine lv_if_le (tgt := 130) hx hb dX7_text_119 (by decide) (fun c_v3 => ?_) (fun c_v3 => ?_)
  · have hf := z_ip hf c_v3
    refine lv_iconst (v := (nI 0)) hx hb dX7_text_130 (by decide) ?_
    refine lv_istore_n (lv' := [(2, .int (nI 0)), (0, .ref (g.2.2 66)), (1, .int x1)]) hx hb dX7_text_131 rfl hl (by decide) rfl (fun ls hl => ?_)
    exact (hX7_text_132 C E N (fX7_text_156 N) (hX7_text_156 C E N) N) x1 (nI 0) τ2 _ _ _ hf hh (lv_sub hl [1, 2, 0] rfl)
  · have hf := z_in hf c_v3
    refine lv_bipush (v := (-10)) hx hb dX7_text_122 (by decide) ?_
    refine lv_aload_n hx hb dX7_text_124 rfl (lv_at hl 0 rfl) ?_
    refine z_get (v := .int (τ2.1 66 14)) hx hb hts (fun w h => List.mem_cons_of_mem _ (List.mem_append_right _ (h))) hown E hh (by decide) (zC_obj (q := 66) rfl) rfl 14 (by decide) (hts (.fieldLink RX7 60 "TownBandModel" "brokenAt" "I") (List.mem_cons_of_mem _ (List.mem_append_left _ (List.mem_append_left _ (List.mem_of_getElem? (i := 12) rfl))))) rfl dX7_text_125 ?_
    refine lv_isub hx hb dX7_text_128 ?_
    have hf := Option.some.inj hf
    subst hf
    exact z_iretM hx hb hr hlocks hh dX7_text_129
def fX7_text_91 (N : Nat) (x1 : Int32) (τ : zS) : Option (Int32 × zS) :=
  if (τ.1 66 13) = 0 then
    (fX7_readWhole N τ).bind fun q2 =>
    (fX7_text_102 N) x1 q2
  else
    (fX7_text_102 N) x1 τ
set_option maxRecDepth 100000 in
set_option maxHeartbeats 4000000 in
theorem hX7_text_91 {p : Program} {l : Launch} {e : Env} {s : State} {m : MethodId} {args : Array Value} {below : List Frame} {meth : Method} {c : Code} {g : zG} {A : Nat → Prop} {σ : zS} {res : Int32 × zS} (C : zCx p s m args meth c cX7_text (some .int) wsX7_text RX7 3) (E : zE g A s) (N : Nat) : PX7_text_91 p l e s m args below meth c g A σ res (fX7_text_91 N) := by
  obtain ⟨hx, hb, hr, hml, hown, hts, hlocks⟩ := id C
  intro x1 τ H locs ls hf hh hl
  unfold fX7_text_91 at hf
  refine lv_aload_n hx hb dX7_text_91 rfl (lv_at hl 0 rfl) ?_
  refine z_get (v := .int (τ.1 66 13)) hx hb hts (fun w h => List.mem_cons_of_mem _ (List.mem_append_right _ (h))) hown E hh (by decide) (zC_obj (q := 66) rfl) rfl 13 (by decide) (hts (.fieldLink RX7 54 "TownBandModel" "broken" "I") (List.mem_cons_of_mem _ (List.mem_append_left _ (List.mem_append_left _ (List.mem_of_getElem? (i := 0) rfl))))) rfl dX7_text_92 ?_
  refine lv_if_ne (tgt := 102) hx hb dX7_text_95 (by decide) (fun c_v1 => ?_) (fun c_v1 => ?_)
  · have hf := z_in hf c_v1
    exact (hX7_text_102 C E N) x1 τ _ _ _ hf hh (lv_sub hl [0, 1] rfl)
  · have hf := z_ip hf c_v1
    refine lv_aload_n hx hb dX7_text_98 rfl (lv_at hl 0 rfl) ?_
    obtain ⟨q2, h_q2, hf⟩ := z_bd hf
    refine z_mv (va_runV (As := []) (rest := []) ⟨hx, hb, hml, hown, hts⟩ (zcX7_readWhole l g A σ τ N  h_q2) (cwV 0 hts gX7_text_X7_readWhole rfl rfl rfl hdX7_readWhole ⟨by decide, by decide⟩) (z_preV E hh (by decide) (zC_obj (q := 66) rfl) rfl) rfl rfl hl.1 rfl (lv_room (Nat.le_of_ble_eq_true rfl)) dX7_text_99 ⟨Nat.le_refl _, Nat.le_refl _⟩) hh (fun H locs hh => ?_)
    exact (hX7_text_102 C E N) x1 q2 _ _ _ hf hh (lv_sub hl [0, 1] rfl)
def fX7_text_67 (N : Nat) (k_91 : Int32 → zS → Option (Int32 × zS)) : Nat → Int32 → zS → Option (Int32 × zS)
  | 0, _, _ => none
  | n + 1, x1, τ =>
    if (τ.1 66 13) = 0 then
      if (τ.1 66 17) = 0 then
        k_91 x1 τ
      else
        (fX7_readLine N τ).bind fun q3 =>
        (fX7_text_67 N k_91 n) (x1 + (nI 1)) q3
    else
      k_91 x1 τ
set_option maxRecDepth 100000 in
set_option maxHeartbeats 4000000 in
theorem hX7_text_67 {p : Program} {l : Launch} {e : Env} {s : State} {m : MethodId} {args : Array Value} {below : List Frame} {meth : Method} {c : Code} {g : zG} {A : Nat → Prop} {σ : zS} {res : Int32 × zS} (C : zCx p s m args meth c cX7_text (some .int) wsX7_text RX7 3) (E : zE g A s) (N : Nat) (k_91 : Int32 → zS → Option (Int32 × zS)) (hk_91 : PX7_text_91 p l e s m args below meth c g A σ res k_91) : ∀ n : Nat, PX7_text_67 p l e s m args below meth c g A σ res (fX7_text_67 N k_91 n) := by
  obtain ⟨hx, hb, hr, hml, hown, hts, hlocks⟩ := id C
  intro n
  induction n with
  | zero =>
    intro x1 τ H locs ls hf
    exact absurd hf (by simp [fX7_text_67])
  | succ n ih =>
    intro x1 τ H locs ls hf hh hl
    rw [fX7_text_67] at hf
    refine lv_aload_n hx hb dX7_text_67 rfl (lv_at hl 0 rfl) ?_
    refine z_get (v := .int (τ.1 66 13)) hx hb hts (fun w h => List.mem_cons_of_mem _ (List.mem_append_right _ (h))) hown E hh (by decide) (zC_obj (q := 66) rfl) rfl 13 (by decide) (hts (.fieldLink RX7 54 "TownBandModel" "broken" "I") (List.mem_cons_of_mem _ (List.mem_append_left _ (List.mem_append_left _ (List.mem_of_getElem? (i := 0) rfl))))) rfl dX7_text_68 ?_
    refine lv_if_ne (tgt := 91) hx hb dX7_text_71 (by decide) (fun c_v1 => ?_) (fun c_v1 => ?_)
    · have hf := z_in hf c_v1
      exact hk_91 x1 τ _ _ _ hf hh (lv_sub hl [0, 1] rfl)
    · have hf := z_ip hf c_v1
      refine lv_aload_n hx hb dX7_text_74 rfl (lv_at hl 0 rfl) ?_
      refine z_get (v := .int (τ.1 66 17)) hx hb hts (fun w h => List.mem_cons_of_mem _ (List.mem_append_right _ (h))) hown E hh (by decide) (zC_obj (q := 66) rfl) rfl 17 (by decide) (hts (.fieldLink RX7 63 "TownBandModel" "token" "I") (List.mem_cons_of_mem _ (List.mem_append_left _ (List.mem_append_left _ (List.mem_of_getElem? (i := 9) rfl))))) rfl dX7_text_75 ?_
      refine lv_if_eq (tgt := 91) hx hb dX7_text_78 (by decide) (fun c_v2 => ?_) (fun c_v2 => ?_)
      · have hf := z_ip hf c_v2
        exact hk_91 x1 τ _ _ _ hf hh (lv_sub hl [0, 1] rfl)
      · have hf := z_in hf c_v2
        refine lv_aload_n hx hb dX7_text_81 rfl (lv_at hl 0 rfl) ?_
        obtain ⟨q3, h_q3, hf⟩ := z_bd hf
        refine z_mv (va_runV (As := []) (rest := []) ⟨hx, hb, hml, hown, hts⟩ (zcX7_readLine l g A σ τ N  h_q3) (cwV 0 hts gX7_text_X7_readLine rfl rfl rfl hdX7_readLine ⟨by decide, by decide⟩) (z_preV E hh (by decide) (zC_obj (q := 66) rfl) rfl) rfl rfl hl.1 rfl (lv_room (Nat.le_of_ble_eq_true rfl)) dX7_text_82 ⟨Nat.le_refl _, Nat.le_refl _⟩) hh (fun H locs hh => ?_)
        refine lv_iinc (v := (x1 + (nI 1))) (lv' := [(1, .int (x1 + (nI 1))), (0, .ref (g.2.2 66))]) hx hb dX7_text_85 hl (k := 1) rfl rfl (by decide) rfl (fun ls hl => ?_)
        refine lv_goto (tgt := 67) hx hb dX7_text_88 (by decide) ?_
        exact ih (x1 + (nI 1)) q3 _ _ _ hf hh (lv_sub hl [1, 0] rfl)
def fX7_text_63 (N : Nat) (x1 : Int32) (τ : zS) : Option (Int32 × zS) :=
  (fX7_step N τ).bind fun q1 =>
  (fX7_text_67 N (fX7_text_91 N) N) x1 q1
set_option maxRecDepth 100000 in
set_option maxHeartbeats 4000000 in
theorem hX7_text_63 {p : Program} {l : Launch} {e : Env} {s : State} {m : MethodId} {args : Array Value} {below : List Frame} {meth : Method} {c : Code} {g : zG} {A : Nat → Prop} {σ : zS} {res : Int32 × zS} (C : zCx p s m args meth c cX7_text (some .int) wsX7_text RX7 3) (E : zE g A s) (N : Nat) : PX7_text_63 p l e s m args below meth c g A σ res (fX7_text_63 N) := by
  obtain ⟨hx, hb, hr, hml, hown, hts, hlocks⟩ := id C
  intro x1 τ H locs ls hf hh hl
  unfold fX7_text_63 at hf
  refine lv_aload_n hx hb dX7_text_63 rfl (lv_at hl 0 rfl) ?_
  obtain ⟨q1, h_q1, hf⟩ := z_bd hf
  refine z_mv (va_runV (As := []) (rest := []) ⟨hx, hb, hml, hown, hts⟩ (zcX7_step l g A σ τ N  h_q1) (cwV 0 hts gX7_text_X7_step rfl rfl rfl hdX7_step ⟨by decide, by decide⟩) (z_preV E hh (by decide) (zC_obj (q := 66) rfl) rfl) rfl rfl hl.1 rfl (lv_room (Nat.le_of_ble_eq_true rfl)) dX7_text_64 ⟨Nat.le_refl _, Nat.le_refl _⟩) hh (fun H locs hh => ?_)
  exact (hX7_text_67 C E N (fX7_text_91 N) (hX7_text_91 C E N) N) x1 q1 _ _ _ hf hh (lv_sub hl [0, 1] rfl)
def fX7_text_44 (N : Nat) (k_63 : Int32 → zS → Option (Int32 × zS)) : Nat → Int32 → Int32 → zS → Option (Int32 × zS)
  | 0, _, _, _ => none
  | n + 1, x1, x2, τ =>
    if (nI 31) ≤ x2 then
      k_63 x1 τ
    else
      if zin x2 (zlen 56) then
      zlet (zpa τ 56 (upd (τ.2 56) x2.toNatClampNeg (nI 0))) fun τ3 =>
      (fX7_text_44 N k_63 n) x1 (x2 + (nI 1)) τ3
      else none
set_option maxRecDepth 100000 in
set_option maxHeartbeats 4000000 in
theorem hX7_text_44 {p : Program} {l : Launch} {e : Env} {s : State} {m : MethodId} {args : Array Value} {below : List Frame} {meth : Method} {c : Code} {g : zG} {A : Nat → Prop} {σ : zS} {res : Int32 × zS} (C : zCx p s m args meth c cX7_text (some .int) wsX7_text RX7 3) (E : zE g A s) (N : Nat) (k_63 : Int32 → zS → Option (Int32 × zS)) (hk_63 : PX7_text_63 p l e s m args below meth c g A σ res k_63) : ∀ n : Nat, PX7_text_44 p l e s m args below meth c g A σ res (fX7_text_44 N k_63 n) := by
  obtain ⟨hx, hb, hr, hml, hown, hts, hlocks⟩ := id C
  intro n
  induction n with
  | zero =>
    intro x1 x2 τ H locs ls hf
    exact absurd hf (by simp [fX7_text_44])
  | succ n ih =>
    intro x1 x2 τ H locs ls hf hh hl
    rw [fX7_text_44] at hf
    refine lv_iload_n hx hb dX7_text_44 rfl (lv_at hl 2 rfl) ?_
    refine lv_bipush (v := (nI 31)) hx hb dX7_text_45 (by decide) ?_
    refine lv_icmp_ge (tgt := 63) hx hb dX7_text_47 (by decide) (fun c_v1 => ?_) (fun c_v1 => ?_)
    · have hf := z_ip hf c_v1
      exact hk_63 x1 τ _ _ _ hf hh (lv_sub hl [0, 1] rfl)
    · have hf := z_in hf c_v1
      refine lv_aload_n hx hb dX7_text_50 rfl (lv_at hl 0 rfl) ?_
      refine z_get (v := .ref (g.2.2 56)) hx hb hts (fun w h => List.mem_cons_of_mem _ (List.mem_append_right _ (h))) hown E hh (by decide) (zC_obj (q := 66) rfl) rfl 3 (by decide) (hts (.fieldLink RX7 13 "TownBandModel" "readPage" "[I") (List.mem_cons_of_mem _ (List.mem_append_left _ (List.mem_append_left _ (List.mem_of_getElem? (i := 8) rfl))))) rfl dX7_text_51 ?_
      refine lv_iload_n hx hb dX7_text_54 rfl (lv_at hl 2 rfl) ?_
      refine lv_iconst (v := (nI 0)) hx hb dX7_text_55 (by decide) ?_
      obtain ⟨h_v2, hf⟩ := z_if hf
      obtain ⟨τ3, e_τ3, hf⟩ := z_lt hf
      refine z_iastM hx hb E hh (by decide) (by decide) h_v2 e_τ3 dX7_text_56 (fun H locs hh => ?_)
      refine lv_iinc (v := (x2 + (nI 1))) (lv' := [(2, .int (x2 + (nI 1))), (0, .ref (g.2.2 66)), (1, .int x1)]) hx hb dX7_text_57 hl (k := 2) rfl rfl (by decide) rfl (fun ls hl => ?_)
      refine lv_goto (tgt := 44) hx hb dX7_text_60 (by decide) ?_
      exact ih x1 (x2 + (nI 1)) τ3 _ _ _ hf hh (lv_sub hl [1, 2, 0] rfl)
def fX7_text (N : Nat) (τ : zS)  : Option (Int32 × zS) :=
  zlet (zpf τ 66 13 (nI 0)) fun τ1 =>
  zlet (zpf τ1 66 15 (nI 0)) fun τ2 =>
  zlet (zpf τ2 66 4 (nI 0)) fun τ3 =>
  zlet (zpf τ3 66 5 (nI 0)) fun τ4 =>
  zlet (zpf τ4 66 6 (nI 0)) fun τ5 =>
  zlet (zpf τ5 66 7 (nI 0)) fun τ6 =>
  zlet (zpf τ6 66 8 (nI 0)) fun τ7 =>
  zlet (zpf τ7 66 9 (nI 0)) fun τ8 =>
  (fX7_text_44 N (fX7_text_63 N) N) (nI 0) (nI 0) τ8
set_option maxRecDepth 100000 in
set_option maxHeartbeats 4000000 in
theorem zcX7_text (l : Launch) (g : zG) (A : Nat → Prop) (σ τ : zS) (N : Nat)   {res : Int32 × zS} (hf : fX7_text N τ = some res) : Met l yX7_text wsX7_text (zR 6) (zPc g A σ τ [.ref (g.2.2 66)]) (zPi g A σ res) 0 0 A := by
  refine z_met (cc := cX7_text) (ret := (some .int)) (own := RX7) (by decide) rfl rfl _ (Nat.le_of_ble_eq_true rfl) ?_
  intro p e s m below meth c C E ls hl hh
  have hl : lv_has ls 3 [(0, .ref (g.2.2 66))] := hl
  obtain ⟨hx, hb, hr, hml, hown, hts, hlocks⟩ := id C
  unfold fX7_text at hf
  refine lv_aload_n hx hb dX7_text_0 rfl (lv_at hl 0 rfl) ?_
  refine lv_iconst (v := (nI 0)) hx hb dX7_text_1 (by decide) ?_
  obtain ⟨τ1, e_τ1, hf⟩ := z_lt hf
  refine z_putM hx hb hts (fun w h => List.mem_cons_of_mem _ (List.mem_append_right _ (h))) tyX7 tyX7_ok nmX7 hown E hh (by decide) (by decide) (show zD 66 = _ from rfl) rfl 13 (by decide) rfl (hts (.fieldLink RX7 54 "TownBandModel" "broken" "I") (List.mem_cons_of_mem _ (List.mem_append_left _ (List.mem_append_left _ (List.mem_of_getElem? (i := 0) rfl))))) rfl rfl e_τ1 dX7_text_2 (fun H locs hh => ?_)
  refine lv_aload_n hx hb dX7_text_5 rfl (lv_at hl 0 rfl) ?_
  refine lv_iconst (v := (nI 0)) hx hb dX7_text_6 (by decide) ?_
  obtain ⟨τ2, e_τ2, hf⟩ := z_lt hf
  refine z_putM hx hb hts (fun w h => List.mem_cons_of_mem _ (List.mem_append_right _ (h))) tyX7 tyX7_ok nmX7 hown E hh (by decide) (by decide) (show zD 66 = _ from rfl) rfl 15 (by decide) rfl (hts (.fieldLink RX7 66 "TownBandModel" "spot" "I") (List.mem_cons_of_mem _ (List.mem_append_left _ (List.mem_append_left _ (List.mem_of_getElem? (i := 1) rfl))))) rfl rfl e_τ2 dX7_text_7 (fun H locs hh => ?_)
  refine lv_aload_n hx hb dX7_text_10 rfl (lv_at hl 0 rfl) ?_
  refine lv_iconst (v := (nI 0)) hx hb dX7_text_11 (by decide) ?_
  obtain ⟨τ3, e_τ3, hf⟩ := z_lt hf
  refine z_putM hx hb hts (fun w h => List.mem_cons_of_mem _ (List.mem_append_right _ (h))) tyX7 tyX7_ok nmX7 hown E hh (by decide) (by decide) (show zD 66 = _ from rfl) rfl 4 (by decide) rfl (hts (.fieldLink RX7 104 "TownBandModel" "readBeasts" "I") (List.mem_cons_of_mem _ (List.mem_append_left _ (List.mem_append_left _ (List.mem_of_getElem? (i := 2) rfl))))) rfl rfl e_τ3 dX7_text_12 (fun H locs hh => ?_)
  refine lv_aload_n hx hb dX7_text_15 rfl (lv_at hl 0 rfl) ?_
  refine lv_iconst (v := (nI 0)) hx hb dX7_text_16 (by decide) ?_
  obtain ⟨τ4, e_τ4, hf⟩ := z_lt hf
  refine z_putM hx hb hts (fun w h => List.mem_cons_of_mem _ (List.mem_append_right _ (h))) tyX7 tyX7_ok nmX7 hown E hh (by decide) (by decide) (show zD 66 = _ from rfl) rfl 5 (by decide) rfl (hts (.fieldLink RX7 107 "TownBandModel" "readRobbers" "I") (List.mem_cons_of_mem _ (List.mem_append_left _ (List.mem_append_left _ (List.mem_of_getElem? (i := 3) rfl))))) rfl rfl e_τ4 dX7_text_17 (fun H locs hh => ?_)
  refine lv_aload_n hx hb dX7_text_20 rfl (lv_at hl 0 rfl) ?_
  refine lv_iconst (v := (nI 0)) hx hb dX7_text_21 (by decide) ?_
  obtain ⟨τ5, e_τ5, hf⟩ := z_lt hf
  refine z_putM hx hb hts (fun w h => List.mem_cons_of_mem _ (List.mem_append_right _ (h))) tyX7 tyX7_ok nmX7 hown E hh (by decide) (by decide) (show zD 66 = _ from rfl) rfl 6 (by decide) rfl (hts (.fieldLink RX7 122 "TownBandModel" "toldOnce" "I") (List.mem_cons_of_mem _ (List.mem_append_left _ (List.mem_append_left _ (List.mem_of_getElem? (i := 4) rfl))))) rfl rfl e_τ5 dX7_text_22 (fun H locs hh => ?_)
  refine lv_aload_n hx hb dX7_text_25 rfl (lv_at hl 0 rfl) ?_
  refine lv_iconst (v := (nI 0)) hx hb dX7_text_26 (by decide) ?_
  obtain ⟨τ6, e_τ6, hf⟩ := z_lt hf
  refine z_putM hx hb hts (fun w h => List.mem_cons_of_mem _ (List.mem_append_right _ (h))) tyX7 tyX7_ok nmX7 hown E hh (by decide) (by decide) (show zD 66 = _ from rfl) rfl 7 (by decide) rfl (hts (.fieldLink RX7 91 "TownBandModel" "towerTold" "I") (List.mem_cons_of_mem _ (List.mem_append_left _ (List.mem_append_left _ (List.mem_of_getElem? (i := 5) rfl))))) rfl rfl e_τ6 dX7_text_27 (fun H locs hh => ?_)
  refine lv_aload_n hx hb dX7_text_30 rfl (lv_at hl 0 rfl) ?_
  refine lv_iconst (v := (nI 0)) hx hb dX7_text_31 (by decide) ?_
  obtain ⟨τ7, e_τ7, hf⟩ := z_lt hf
  refine z_putM hx hb hts (fun w h => List.mem_cons_of_mem _ (List.mem_append_right _ (h))) tyX7 tyX7_ok nmX7 hown E hh (by decide) (by decide) (show zD 66 = _ from rfl) rfl 8 (by decide) rfl (hts (.fieldLink RX7 98 "TownBandModel" "bedsTold" "I") (List.mem_cons_of_mem _ (List.mem_append_left _ (List.mem_append_left _ (List.mem_of_getElem? (i := 6) rfl))))) rfl rfl e_τ7 dX7_text_32 (fun H locs hh => ?_)
  refine lv_aload_n hx hb dX7_text_35 rfl (lv_at hl 0 rfl) ?_
  refine lv_iconst (v := (nI 0)) hx hb dX7_text_36 (by decide) ?_
  obtain ⟨τ8, e_τ8, hf⟩ := z_lt hf
  refine z_putM hx hb hts (fun w h => List.mem_cons_of_mem _ (List.mem_append_right _ (h))) tyX7 tyX7_ok nmX7 hown E hh (by decide) (by decide) (show zD 66 = _ from rfl) rfl 9 (by decide) rfl (hts (.fieldLink RX7 101 "TownBandModel" "bedMany" "I") (List.mem_cons_of_mem _ (List.mem_append_left _ (List.mem_append_left _ (List.mem_of_getElem? (i := 7) rfl))))) rfl rfl e_τ8 dX7_text_37 (fun H locs hh => ?_)
  refine lv_iconst (v := (nI 0)) hx hb dX7_text_40 (by decide) ?_
  refine lv_istore_n (lv' := [(1, .int (nI 0)), (0, .ref (g.2.2 66))]) hx hb dX7_text_41 rfl hl (by decide) rfl (fun ls hl => ?_)
  refine lv_iconst (v := (nI 0)) hx hb dX7_text_42 (by decide) ?_
  refine lv_istore_n (lv' := [(2, .int (nI 0)), (1, .int (nI 0)), (0, .ref (g.2.2 66))]) hx hb dX7_text_43 rfl hl (by decide) rfl (fun ls hl => ?_)
  exact (hX7_text_44 C E N (fX7_text_63 N) (hX7_text_63 C E N) N) (nI 0) (nI 0) τ8 _ _ _ hf hh (lv_sub hl [2, 1, 0] rfl)
/-! ===== X7_fault ===== -/
theorem hdX7_fault : yX7_fault.cls = RX7 ∧ yX7_fault.cls ≠ "java/lang/invoke/MethodHandle" ∧ yX7_fault.cls ≠ "java/lang/invoke/VarHandle" ∧ (parseMethodDescriptor yX7_fault.desc).map (fun d => d.parameters.length) = some 0 := by decide +kernel
def fX7_fault (N : Nat) (τ : zS)  : Option (Int32) :=
  some (τ.1 66 12)
set_option maxRecDepth 100000 in
set_option maxHeartbeats 4000000 in
theorem zcX7_fault (l : Launch) (g : zG) (A : Nat → Prop) (σ τ : zS) (N : Nat)   {res : Int32} (hf : fX7_fault N τ = some res) : Met l yX7_fault wsX7_fault (zR 0) (zPc g A σ τ [.ref (g.2.2 66)]) (zPi g A σ (res, τ)) 0 0 A := by
  refine z_met (cc := cX7_fault) (ret := (some .int)) (own := RX7) (by decide) rfl rfl _ (Nat.le_of_ble_eq_true rfl) ?_
  intro p e s m below meth c C E ls hl hh
  have hl : lv_has ls 1 [(0, .ref (g.2.2 66))] := hl
  obtain ⟨hx, hb, hr, hml, hown, hts, hlocks⟩ := id C
  unfold fX7_fault at hf
  refine lv_aload_n hx hb dX7_fault_0 rfl (lv_at hl 0 rfl) ?_
  refine z_get (v := .int (τ.1 66 12)) hx hb hts (fun w h => List.mem_cons_of_mem _ (List.mem_append_right _ (h))) hown E hh (by decide) (zC_obj (q := 66) rfl) rfl 12 (by decide) (hts (.fieldLink RX7 138 "TownBandModel" "fault" "I") (List.mem_cons_of_mem _ (List.mem_append_left _ (List.mem_of_getElem? (i := 0) rfl)))) rfl dX7_fault_1 ?_
  have hf := Option.some.inj hf
  subst hf
  exact z_iretM hx hb hr hlocks hh dX7_fault_4
/-! ===== X7_isBeast ===== -/
theorem hdX7_isBeast : yX7_isBeast.cls = RX7 ∧ yX7_isBeast.cls ≠ "java/lang/invoke/MethodHandle" ∧ yX7_isBeast.cls ≠ "java/lang/invoke/VarHandle" ∧ (parseMethodDescriptor yX7_isBeast.desc).map (fun d => d.parameters.length) = some 1 := by decide +kernel
def fX7_isBeast (N : Nat) (τ : zS) (x1 : Int32) : Option (Int32) :=
  (fX7_in N x1.toInt64 0 ((((τ.1 66 1) - (nI 1))).toInt64)).bind fun q1 =>
  if q1 = 0 ∨ q1 = 1 then
  some q1
  else none
set_option maxRecDepth 100000 in
set_option maxHeartbeats 4000000 in
theorem zcX7_isBeast (l : Launch) (g : zG) (A : Nat → Prop) (σ τ : zS) (N : Nat) (x1 : Int32)  {res : Int32} (hf : fX7_isBeast N τ x1 = some res) : Met l yX7_isBeast wsX7_isBeast (zR 1) (zPc g A σ τ [.ref (g.2.2 66), .int x1]) (zPi g A σ (res, τ)) 0 0 A := by
  refine z_met (cc := cX7_isBeast) (ret := (some .boolean)) (own := RX7) (by decide) rfl rfl _ (Nat.le_of_ble_eq_true rfl) ?_
  intro p e s m below meth c C E ls hl hh
  have hl : lv_has ls 2 [(0, .ref (g.2.2 66)), (1, .int x1)] := hl
  obtain ⟨hx, hb, hr, hml, hown, hts, hlocks⟩ := id C
  unfold fX7_isBeast at hf
  refine lv_iload_n hx hb dX7_isBeast_0 rfl (lv_at hl 1 rfl) ?_
  refine lv_i2l hx hb dX7_isBeast_1 rfl ?_
  refine lv_lconst (v := 0) hx hb dX7_isBeast_2 (by decide) ?_
  refine lv_aload_n hx hb dX7_isBeast_3 rfl (lv_at hl 0 rfl) ?_
  refine z_get (v := .int (τ.1 66 1)) hx hb hts (fun w h => List.mem_cons_of_mem _ (List.mem_append_right _ (h))) hown E hh (by decide) (zC_obj (q := 66) rfl) rfl 1 (by decide) (hts (.fieldLink RX7 141 "TownBandModel" "beastMany" "I") (List.mem_cons_of_mem _ (List.mem_append_left _ (List.mem_of_getElem? (i := 0) rfl)))) rfl dX7_isBeast_4 ?_
  refine lv_iconst (v := (nI 1)) hx hb dX7_isBeast_7 (by decide) ?_
  refine lv_isub hx hb dX7_isBeast_8 ?_
  refine lv_i2l hx hb dX7_isBeast_9 rfl ?_
  obtain ⟨q1, h_q1, hf⟩ := z_bd hf
  refine z_mi (va_runS (As := [.long x1.toInt64, .long 0, .long ((((τ.1 66 1) - (nI 1))).toInt64)]) (rest := []) ⟨hx, hb, hml, hown, hts⟩ (zcX7_in l g A σ τ N x1.toInt64 0 ((((τ.1 66 1) - (nI 1))).toInt64) h_q1) (va_cwS 3 hts gX7_isBeast_X7_in rfl rfl rfl hdX7_in.2 ⟨by decide, by decide⟩) (z_preS E hh) rfl rfl hl.1 rfl (lv_room (Nat.le_of_ble_eq_true rfl)) dX7_isBeast_10 ⟨Nat.le_refl _, Nat.le_refl _⟩) hh (fun H locs hh => ?_)
  obtain ⟨h_v2, hf⟩ := z_if hf
  have hf := Option.some.inj hf
  subst hf
  exact z_zretM hx hb hr hlocks h_v2 hh dX7_isBeast_13
/-! ===== X7_isRobber ===== -/
theorem hdX7_isRobber : yX7_isRobber.cls = RX7 ∧ yX7_isRobber.cls ≠ "java/lang/invoke/MethodHandle" ∧ yX7_isRobber.cls ≠ "java/lang/invoke/VarHandle" ∧ (parseMethodDescriptor yX7_isRobber.desc).map (fun d => d.parameters.length) = some 1 := by decide +kernel
def fX7_isRobber (N : Nat) (τ : zS) (x1 : Int32) : Option (Int32) :=
  (fX7_in N x1.toInt64 0 ((((τ.1 66 2) - (nI 1))).toInt64)).bind fun q1 =>
  if q1 = 0 ∨ q1 = 1 then
  some q1
  else none
set_option maxRecDepth 100000 in
set_option maxHeartbeats 4000000 in
theorem zcX7_isRobber (l : Launch) (g : zG) (A : Nat → Prop) (σ τ : zS) (N : Nat) (x1 : Int32)  {res : Int32} (hf : fX7_isRobber N τ x1 = some res) : Met l yX7_isRobber wsX7_isRobber (zR 1) (zPc g A σ τ [.ref (g.2.2 66), .int x1]) (zPi g A σ (res, τ)) 0 0 A := by
  refine z_met (cc := cX7_isRobber) (ret := (some .boolean)) (own := RX7) (by decide) rfl rfl _ (Nat.le_of_ble_eq_true rfl) ?_
  intro p e s m below meth c C E ls hl hh
  have hl : lv_has ls 2 [(0, .ref (g.2.2 66)), (1, .int x1)] := hl
  obtain ⟨hx, hb, hr, hml, hown, hts, hlocks⟩ := id C
  unfold fX7_isRobber at hf
  refine lv_iload_n hx hb dX7_isRobber_0 rfl (lv_at hl 1 rfl) ?_
  refine lv_i2l hx hb dX7_isRobber_1 rfl ?_
  refine lv_lconst (v := 0) hx hb dX7_isRobber_2 (by decide) ?_
  refine lv_aload_n hx hb dX7_isRobber_3 rfl (lv_at hl 0 rfl) ?_
  refine z_get (v := .int (τ.1 66 2)) hx hb hts (fun w h => List.mem_cons_of_mem _ (List.mem_append_right _ (h))) hown E hh (by decide) (zC_obj (q := 66) rfl) rfl 2 (by decide) (hts (.fieldLink RX7 144 "TownBandModel" "robberMany" "I") (List.mem_cons_of_mem _ (List.mem_append_left _ (List.mem_of_getElem? (i := 0) rfl)))) rfl dX7_isRobber_4 ?_
  refine lv_iconst (v := (nI 1)) hx hb dX7_isRobber_7 (by decide) ?_
  refine lv_isub hx hb dX7_isRobber_8 ?_
  refine lv_i2l hx hb dX7_isRobber_9 rfl ?_
  obtain ⟨q1, h_q1, hf⟩ := z_bd hf
  refine z_mi (va_runS (As := [.long x1.toInt64, .long 0, .long ((((τ.1 66 2) - (nI 1))).toInt64)]) (rest := []) ⟨hx, hb, hml, hown, hts⟩ (zcX7_in l g A σ τ N x1.toInt64 0 ((((τ.1 66 2) - (nI 1))).toInt64) h_q1) (va_cwS 3 hts gX7_isRobber_X7_in rfl rfl rfl hdX7_in.2 ⟨by decide, by decide⟩) (z_preS E hh) rfl rfl hl.1 rfl (lv_room (Nat.le_of_ble_eq_true rfl)) dX7_isRobber_10 ⟨Nat.le_refl _, Nat.le_refl _⟩) hh (fun H locs hh => ?_)
  obtain ⟨h_v2, hf⟩ := z_if hf
  have hf := Option.some.inj hf
  subst hf
  exact z_zretM hx hb hr hlocks h_v2 hh dX7_isRobber_13
/-! ===== X7_hurts ===== -/
theorem hdX7_hurts : yX7_hurts.cls = RX7 ∧ yX7_hurts.cls ≠ "java/lang/invoke/MethodHandle" ∧ yX7_hurts.cls ≠ "java/lang/invoke/VarHandle" ∧ (parseMethodDescriptor yX7_hurts.desc).map (fun d => d.parameters.length) = some 1 := by decide +kernel
def fX7_hurts (N : Nat) (τ : zS) (x1 : Int32) : Option (Int32) :=
  if zin x1 (zlen 55) then
  zlet (τ.2 55 x1.toNatClampNeg) fun v2 =>
  (fX7_byKind N v2 (nI 1)).bind fun q3 =>
  some q3
  else none
set_option maxRecDepth 100000 in
set_option maxHeartbeats 4000000 in
theorem zcX7_hurts (l : Launch) (g : zG) (A : Nat → Prop) (σ τ : zS) (N : Nat) (x1 : Int32)  {res : Int32} (hf : fX7_hurts N τ x1 = some res) : Met l yX7_hurts wsX7_hurts (zR 1) (zPc g A σ τ [.ref (g.2.2 66), .int x1]) (zPi g A σ (res, τ)) 0 0 A := by
  refine z_met (cc := cX7_hurts) (ret := (some .int)) (own := RX7) (by decide) rfl rfl _ (Nat.le_of_ble_eq_true rfl) ?_
  intro p e s m below meth c C E ls hl hh
  have hl : lv_has ls 2 [(0, .ref (g.2.2 66)), (1, .int x1)] := hl
  obtain ⟨hx, hb, hr, hml, hown, hts, hlocks⟩ := id C
  unfold fX7_hurts at hf
  refine lv_aload_n hx hb dX7_hurts_0 rfl (lv_at hl 0 rfl) ?_
  refine z_get (v := .ref (g.2.2 55)) hx hb hts (fun w h => List.mem_cons_of_mem _ (List.mem_append_right _ (h))) hown E hh (by decide) (zC_obj (q := 66) rfl) rfl 0 (by decide) (hts (.fieldLink RX7 7 "TownBandModel" "state" "[I") (List.mem_cons_of_mem _ (List.mem_append_left _ (List.mem_of_getElem? (i := 0) rfl)))) rfl dX7_hurts_1 ?_
  refine lv_iload_n hx hb dX7_hurts_4 rfl (lv_at hl 1 rfl) ?_
  obtain ⟨h_v1, hf⟩ := z_if hf
  obtain ⟨v2, e_v2, hf⟩ := z_lt hf
  refine z_ialdM hx hb E hh (by decide) (by decide) h_v1 e_v2 dX7_hurts_5 ?_
  refine lv_iconst (v := (nI 1)) hx hb dX7_hurts_6 (by decide) ?_
  obtain ⟨q3, h_q3, hf⟩ := z_bd hf
  refine z_mi (va_runS (As := [.int v2, .int (nI 1)]) (rest := []) ⟨hx, hb, hml, hown, hts⟩ (zcX7_byKind l g A σ τ N v2 (nI 1) h_q3) (va_cwS 2 hts gX7_hurts_X7_byKind rfl rfl rfl hdX7_byKind.2 ⟨by decide, by decide⟩) (z_preS E hh) rfl rfl hl.1 rfl (lv_room (Nat.le_of_ble_eq_true rfl)) dX7_hurts_7 ⟨Nat.le_refl _, Nat.le_refl _⟩) hh (fun H locs hh => ?_)
  have hf := Option.some.inj hf
  subst hf
  exact z_iretM hx hb hr hlocks hh dX7_hurts_10
/-! ===== X7_placeOf ===== -/
theorem hdX7_placeOf : yX7_placeOf.cls = RX7 ∧ yX7_placeOf.cls ≠ "java/lang/invoke/MethodHandle" ∧ yX7_placeOf.cls ≠ "java/lang/invoke/VarHandle" ∧ (parseMethodDescriptor yX7_placeOf.desc).map (fun d => d.parameters.length) = some 1 := by decide +kernel
def PX7_placeOf_2 (p : Program) (l : Launch) (e : Env) (s : State) (m : MethodId) (args : Array Value) (below : List Frame) (meth : Method) (c : Code) (g : zG) (A : Nat → Prop) (σ τ : zS) (res : Int32) (f : Int32 → Int32 → Option (Int32)) : Prop := ∀ (x1 : Int32) (x2 : Int32) (H : Heap) (locs : List Loc) (ls : Array Slot), f x1 x2 = some res → zW g A σ τ s H locs → lv_has ls 3 [(0, .ref (g.2.2 66)), (1, .int x1), (2, .int x2)] → W p l e (zR 0) s m args below meth c H locs 0 0 (MQ below (zPi g A σ (res, τ)) args s 0 0 A) (F0 m 2 ls [])
def fX7_placeOf_2 (N : Nat) (τ : zS) : Nat → Int32 → Int32 → Option (Int32)
  | 0, _, _ => none
  | n + 1, x1, x2 =>
    if zin (nI 24) (zlen 55) then
    zlet (τ.2 55 (nI 24).toNatClampNeg) fun v2 =>
    if v2 ≤ x2 then
      some (-4)
    else
      if zin ((nI 19) + x2) (zlen 55) then
      zlet (τ.2 55 ((nI 19) + x2).toNatClampNeg) fun v5 =>
      if v5 = x1 then
        some x2
      else
        (fX7_placeOf_2 N τ n) x1 (x2 + (nI 1))
      else none
    else none
set_option maxRecDepth 100000 in
set_option maxHeartbeats 4000000 in
theorem hX7_placeOf_2 {p : Program} {l : Launch} {e : Env} {s : State} {m : MethodId} {args : Array Value} {below : List Frame} {meth : Method} {c : Code} {g : zG} {A : Nat → Prop} {σ τ : zS} {res : Int32} (C : zCx p s m args meth c cX7_placeOf (some .int) wsX7_placeOf RX7 3) (E : zE g A s) (N : Nat) : ∀ n : Nat, PX7_placeOf_2 p l e s m args below meth c g A σ τ res (fX7_placeOf_2 N τ n) := by
  obtain ⟨hx, hb, hr, hml, hown, hts, hlocks⟩ := id C
  intro n
  induction n with
  | zero =>
    intro x1 x2 H locs ls hf
    exact absurd hf (by simp [fX7_placeOf_2])
  | succ n ih =>
    intro x1 x2 H locs ls hf hh hl
    rw [fX7_placeOf_2] at hf
    refine lv_iload_n hx hb dX7_placeOf_2 rfl (lv_at hl 2 rfl) ?_
    refine lv_aload_n hx hb dX7_placeOf_3 rfl (lv_at hl 0 rfl) ?_
    refine z_get (v := .ref (g.2.2 55)) hx hb hts (fun w h => List.mem_cons_of_mem _ (List.mem_append_right _ (h))) hown E hh (by decide) (zC_obj (q := 66) rfl) rfl 0 (by decide) (hts (.fieldLink RX7 7 "TownBandModel" "state" "[I") (List.mem_cons_of_mem _ (List.mem_append_left _ (List.mem_of_getElem? (i := 0) rfl)))) rfl dX7_placeOf_4 ?_
    refine lv_bipush (v := (nI 24)) hx hb dX7_placeOf_7 (by decide) ?_
    obtain ⟨h_v1, hf⟩ := z_if hf
    obtain ⟨v2, e_v2, hf⟩ := z_lt hf
    refine z_ialdM hx hb E hh (by decide) (by decide) h_v1 e_v2 dX7_placeOf_9 ?_
    refine lv_icmp_ge (tgt := 34) hx hb dX7_placeOf_10 (by decide) (fun c_v3 => ?_) (fun c_v3 => ?_)
    · have hf := z_ip hf c_v3
      refine lv_bipush (v := (-4)) hx hb dX7_placeOf_34 (by decide) ?_
      have hf := Option.some.inj hf
      subst hf
      exact z_iretM hx hb hr hlocks hh dX7_placeOf_36
    · have hf := z_in hf c_v3
      refine lv_aload_n hx hb dX7_placeOf_13 rfl (lv_at hl 0 rfl) ?_
      refine z_get (v := .ref (g.2.2 55)) hx hb hts (fun w h => List.mem_cons_of_mem _ (List.mem_append_right _ (h))) hown E hh (by decide) (zC_obj (q := 66) rfl) rfl 0 (by decide) (hts (.fieldLink RX7 7 "TownBandModel" "state" "[I") (List.mem_cons_of_mem _ (List.mem_append_left _ (List.mem_of_getElem? (i := 0) rfl)))) rfl dX7_placeOf_14 ?_
      refine lv_bipush (v := (nI 19)) hx hb dX7_placeOf_17 (by decide) ?_
      refine lv_iload_n hx hb dX7_placeOf_19 rfl (lv_at hl 2 rfl) ?_
      refine lv_iadd hx hb dX7_placeOf_20 ?_
      obtain ⟨h_v4, hf⟩ := z_if hf
      obtain ⟨v5, e_v5, hf⟩ := z_lt hf
      refine z_ialdM hx hb E hh (by decide) (by decide) h_v4 e_v5 dX7_placeOf_21 ?_
      refine lv_iload_n hx hb dX7_placeOf_22 rfl (lv_at hl 1 rfl) ?_
      refine lv_icmp_ne (tgt := 28) hx hb dX7_placeOf_23 (by decide) (fun c_v6 => ?_) (fun c_v6 => ?_)
      · have hf := z_in hf c_v6
        refine lv_iinc (v := (x2 + (nI 1))) (lv' := [(2, .int (x2 + (nI 1))), (0, .ref (g.2.2 66)), (1, .int x1)]) hx hb dX7_placeOf_28 hl (k := 2) rfl rfl (by decide) rfl (fun ls hl => ?_)
        refine lv_goto (tgt := 2) hx hb dX7_placeOf_31 (by decide) ?_
        exact ih x1 (x2 + (nI 1)) _ _ _ hf hh (lv_sub hl [1, 2, 0] rfl)
      · have hf := z_ip hf c_v6
        refine lv_iload_n hx hb dX7_placeOf_26 rfl (lv_at hl 2 rfl) ?_
        have hf := Option.some.inj hf
        subst hf
        exact z_iretM hx hb hr hlocks hh dX7_placeOf_27
def fX7_placeOf (N : Nat) (τ : zS) (x1 : Int32) : Option (Int32) :=
  (fX7_placeOf_2 N τ N) x1 (nI 0)
set_option maxRecDepth 100000 in
set_option maxHeartbeats 4000000 in
theorem zcX7_placeOf (l : Launch) (g : zG) (A : Nat → Prop) (σ τ : zS) (N : Nat) (x1 : Int32)  {res : Int32} (hf : fX7_placeOf N τ x1 = some res) : Met l yX7_placeOf wsX7_placeOf (zR 0) (zPc g A σ τ [.ref (g.2.2 66), .int x1]) (zPi g A σ (res, τ)) 0 0 A := by
  refine z_met (cc := cX7_placeOf) (ret := (some .int)) (own := RX7) (by decide) rfl rfl _ (Nat.le_of_ble_eq_true rfl) ?_
  intro p e s m below meth c C E ls hl hh
  have hl : lv_has ls 3 [(0, .ref (g.2.2 66)), (1, .int x1)] := hl
  obtain ⟨hx, hb, hr, hml, hown, hts, hlocks⟩ := id C
  unfold fX7_placeOf at hf
  refine lv_iconst (v := (nI 0)) hx hb dX7_placeOf_0 (by decide) ?_
  refine lv_istore_n (lv' := [(2, .int (nI 0)), (0, .ref (g.2.2 66)), (1, .int x1)]) hx hb dX7_placeOf_1 rfl hl (by decide) rfl (fun ls hl => ?_)
  exact (hX7_placeOf_2 C E N N) x1 (nI 0) _ _ _ hf hh (lv_sub hl [1, 2, 0] rfl)
/-! ===== X7_inTower ===== -/
theorem hdX7_inTower : yX7_inTower.cls = RX7 ∧ yX7_inTower.cls ≠ "java/lang/invoke/MethodHandle" ∧ yX7_inTower.cls ≠ "java/lang/invoke/VarHandle" ∧ (parseMethodDescriptor yX7_inTower.desc).map (fun d => d.parameters.length) = some 0 := by decide +kernel
def PX7_inTower_4 (p : Program) (l : Launch) (e : Env) (s : State) (m : MethodId) (args : Array Value) (below : List Frame) (meth : Method) (c : Code) (g : zG) (A : Nat → Prop) (σ τ : zS) (res : Int32) (f : Int32 → Int32 → Option (Int32)) : Prop := ∀ (x1 : Int32) (x2 : Int32) (H : Heap) (locs : List Loc) (ls : Array Slot), f x1 x2 = some res → zW g A σ τ s H locs → lv_has ls 3 [(0, .ref (g.2.2 66)), (1, .int x1), (2, .int x2)] → W p l e (zR 0) s m args below meth c H locs 0 0 (MQ below (zPi g A σ (res, τ)) args s 0 0 A) (F0 m 4 ls [])
def fX7_inTower_4 (N : Nat) (τ : zS) : Nat → Int32 → Int32 → Option (Int32)
  | 0, _, _ => none
  | n + 1, x1, x2 =>
    if zin (nI 24) (zlen 55) then
    zlet (τ.2 55 (nI 24).toNatClampNeg) fun v2 =>
    if v2 ≤ x2 then
      some x1
    else
      if zin ((nI 19) + x2) (zlen 55) then
      zlet (τ.2 55 ((nI 19) + x2).toNatClampNeg) fun v5 =>
      zlet (x1 ||| ((nI 1) <<< (v5 &&& 31))) fun v6 =>
      (fX7_inTower_4 N τ n) v6 (x2 + (nI 1))
      else none
    else none
set_option maxRecDepth 100000 in
set_option maxHeartbeats 4000000 in
theorem hX7_inTower_4 {p : Program} {l : Launch} {e : Env} {s : State} {m : MethodId} {args : Array Value} {below : List Frame} {meth : Method} {c : Code} {g : zG} {A : Nat → Prop} {σ τ : zS} {res : Int32} (C : zCx p s m args meth c cX7_inTower (some .int) wsX7_inTower RX7 3) (E : zE g A s) (N : Nat) : ∀ n : Nat, PX7_inTower_4 p l e s m args below meth c g A σ τ res (fX7_inTower_4 N τ n) := by
  obtain ⟨hx, hb, hr, hml, hown, hts, hlocks⟩ := id C
  intro n
  induction n with
  | zero =>
    intro x1 x2 H locs ls hf
    exact absurd hf (by simp [fX7_inTower_4])
  | succ n ih =>
    intro x1 x2 H locs ls hf hh hl
    rw [fX7_inTower_4] at hf
    refine lv_iload_n hx hb dX7_inTower_4 rfl (lv_at hl 2 rfl) ?_
    refine lv_aload_n hx hb dX7_inTower_5 rfl (lv_at hl 0 rfl) ?_
    refine z_get (v := .ref (g.2.2 55)) hx hb hts (fun w h => List.mem_cons_of_mem _ (List.mem_append_right _ (h))) hown E hh (by decide) (zC_obj (q := 66) rfl) rfl 0 (by decide) (hts (.fieldLink RX7 7 "TownBandModel" "state" "[I") (List.mem_cons_of_mem _ (List.mem_append_left _ (List.mem_of_getElem? (i := 0) rfl)))) rfl dX7_inTower_6 ?_
    refine lv_bipush (v := (nI 24)) hx hb dX7_inTower_9 (by decide) ?_
    obtain ⟨h_v1, hf⟩ := z_if hf
    obtain ⟨v2, e_v2, hf⟩ := z_lt hf
    refine z_ialdM hx hb E hh (by decide) (by decide) h_v1 e_v2 dX7_inTower_11 ?_
    refine lv_icmp_ge (tgt := 35) hx hb dX7_inTower_12 (by decide) (fun c_v3 => ?_) (fun c_v3 => ?_)
    · have hf := z_ip hf c_v3
      refine lv_iload_n hx hb dX7_inTower_35 rfl (lv_at hl 1 rfl) ?_
      have hf := Option.some.inj hf
      subst hf
      exact z_iretM hx hb hr hlocks hh dX7_inTower_36
    · have hf := z_in hf c_v3
      refine lv_iload_n hx hb dX7_inTower_15 rfl (lv_at hl 1 rfl) ?_
      refine lv_iconst (v := (nI 1)) hx hb dX7_inTower_16 (by decide) ?_
      refine lv_aload_n hx hb dX7_inTower_17 rfl (lv_at hl 0 rfl) ?_
      refine z_get (v := .ref (g.2.2 55)) hx hb hts (fun w h => List.mem_cons_of_mem _ (List.mem_append_right _ (h))) hown E hh (by decide) (zC_obj (q := 66) rfl) rfl 0 (by decide) (hts (.fieldLink RX7 7 "TownBandModel" "state" "[I") (List.mem_cons_of_mem _ (List.mem_append_left _ (List.mem_of_getElem? (i := 0) rfl)))) rfl dX7_inTower_18 ?_
      refine lv_bipush (v := (nI 19)) hx hb dX7_inTower_21 (by decide) ?_
      refine lv_iload_n hx hb dX7_inTower_23 rfl (lv_at hl 2 rfl) ?_
      refine lv_iadd hx hb dX7_inTower_24 ?_
      obtain ⟨h_v4, hf⟩ := z_if hf
      obtain ⟨v5, e_v5, hf⟩ := z_lt hf
      refine z_ialdM hx hb E hh (by decide) (by decide) h_v4 e_v5 dX7_inTower_25 ?_
      refine lv_ishl hx hb dX7_inTower_26 ?_
      refine lv_ior hx hb dX7_inTower_27 ?_
      obtain ⟨v6, e_v6, hf⟩ := z_lt hf
      refine z_topi e_v6 ?_
      refine lv_istore_n (lv' := [(1, .int v6), (0, .ref (g.2.2 66)), (2, .int x2)]) hx hb dX7_inTower_28 rfl hl (by decide) rfl (fun ls hl => ?_)
      refine lv_iinc (v := (x2 + (nI 1))) (lv' := [(2, .int (x2 + (nI 1))), (1, .int v6), (0, .ref (g.2.2 66))]) hx hb dX7_inTower_29 hl (k := 2) rfl rfl (by decide) rfl (fun ls hl => ?_)
      refine lv_goto (tgt := 4) hx hb dX7_inTower_32 (by decide) ?_
      exact ih v6 (x2 + (nI 1)) _ _ _ hf hh (lv_sub hl [2, 1, 0] rfl)
def fX7_inTower (N : Nat) (τ : zS)  : Option (Int32) :=
  (fX7_inTower_4 N τ N) (nI 0) (nI 0)
set_option maxRecDepth 100000 in
set_option maxHeartbeats 4000000 in
theorem zcX7_inTower (l : Launch) (g : zG) (A : Nat → Prop) (σ τ : zS) (N : Nat)   {res : Int32} (hf : fX7_inTower N τ = some res) : Met l yX7_inTower wsX7_inTower (zR 0) (zPc g A σ τ [.ref (g.2.2 66)]) (zPi g A σ (res, τ)) 0 0 A := by
  refine z_met (cc := cX7_inTower) (ret := (some .int)) (own := RX7) (by decide) rfl rfl _ (Nat.le_of_ble_eq_true rfl) ?_
  intro p e s m below meth c C E ls hl hh
  have hl : lv_has ls 3 [(0, .ref (g.2.2 66))] := hl
  obtain ⟨hx, hb, hr, hml, hown, hts, hlocks⟩ := id C
  unfold fX7_inTower at hf
  refine lv_iconst (v := (nI 0)) hx hb dX7_inTower_0 (by decide) ?_
  refine lv_istore_n (lv' := [(1, .int (nI 0)), (0, .ref (g.2.2 66))]) hx hb dX7_inTower_1 rfl hl (by decide) rfl (fun ls hl => ?_)
  refine lv_iconst (v := (nI 0)) hx hb dX7_inTower_2 (by decide) ?_
  refine lv_istore_n (lv' := [(2, .int (nI 0)), (1, .int (nI 0)), (0, .ref (g.2.2 66))]) hx hb dX7_inTower_3 rfl hl (by decide) rfl (fun ls hl => ?_)
  exact (hX7_inTower_4 C E N N) (nI 0) (nI 0) _ _ _ hf hh (lv_sub hl [2, 1, 0] rfl)
/-! ===== X7_bedBeast ===== -/
theorem hdX7_bedBeast : yX7_bedBeast.cls = RX7 ∧ yX7_bedBeast.cls ≠ "java/lang/invoke/MethodHandle" ∧ yX7_bedBeast.cls ≠ "java/lang/invoke/VarHandle" ∧ (parseMethodDescriptor yX7_bedBeast.desc).map (fun d => d.parameters.length) = some 1 := by decide +kernel
def fX7_bedBeast (N : Nat) (τ : zS) (x1 : Int32) : Option (Int32) :=
  if zin ((nI 25) + x1) (zlen 55) then
  zlet (τ.2 55 ((nI 25) + x1).toNatClampNeg) fun v2 =>
  some (v2 + x1)
  else none
set_option maxRecDepth 100000 in
set_option maxHeartbeats 4000000 in
theorem zcX7_bedBeast (l : Launch) (g : zG) (A : Nat → Prop) (σ τ : zS) (N : Nat) (x1 : Int32)  {res : Int32} (hf : fX7_bedBeast N τ x1 = some res) : Met l yX7_bedBeast wsX7_bedBeast (zR 0) (zPc g A σ τ [.ref (g.2.2 66), .int x1]) (zPi g A σ (res, τ)) 0 0 A := by
  refine z_met (cc := cX7_bedBeast) (ret := (some .int)) (own := RX7) (by decide) rfl rfl _ (Nat.le_of_ble_eq_true rfl) ?_
  intro p e s m below meth c C E ls hl hh
  have hl : lv_has ls 2 [(0, .ref (g.2.2 66)), (1, .int x1)] := hl
  obtain ⟨hx, hb, hr, hml, hown, hts, hlocks⟩ := id C
  unfold fX7_bedBeast at hf
  refine lv_aload_n hx hb dX7_bedBeast_0 rfl (lv_at hl 0 rfl) ?_
  refine z_get (v := .ref (g.2.2 55)) hx hb hts (fun w h => List.mem_cons_of_mem _ (List.mem_append_right _ (h))) hown E hh (by decide) (zC_obj (q := 66) rfl) rfl 0 (by decide) (hts (.fieldLink RX7 7 "TownBandModel" "state" "[I") (List.mem_cons_of_mem _ (List.mem_append_left _ (List.mem_of_getElem? (i := 0) rfl)))) rfl dX7_bedBeast_1 ?_
  refine lv_bipush (v := (nI 25)) hx hb dX7_bedBeast_4 (by decide) ?_
  refine lv_iload_n hx hb dX7_bedBeast_6 rfl (lv_at hl 1 rfl) ?_
  refine lv_iadd hx hb dX7_bedBeast_7 ?_
  obtain ⟨h_v1, hf⟩ := z_if hf
  obtain ⟨v2, e_v2, hf⟩ := z_lt hf
  refine z_ialdM hx hb E hh (by decide) (by decide) h_v1 e_v2 dX7_bedBeast_8 ?_
  refine lv_iload_n hx hb dX7_bedBeast_9 rfl (lv_at hl 1 rfl) ?_
  refine lv_iadd hx hb dX7_bedBeast_10 ?_
  have hf := Option.some.inj hf
  subst hf
  exact z_iretM hx hb hr hlocks hh dX7_bedBeast_11
/-! ===== X7_bedOf ===== -/
theorem hdX7_bedOf : yX7_bedOf.cls = RX7 ∧ yX7_bedOf.cls ≠ "java/lang/invoke/MethodHandle" ∧ yX7_bedOf.cls ≠ "java/lang/invoke/VarHandle" ∧ (parseMethodDescriptor yX7_bedOf.desc).map (fun d => d.parameters.length) = some 1 := by decide +kernel
def PX7_bedOf_27 (p : Program) (l : Launch) (e : Env) (s : State) (m : MethodId) (args : Array Value) (below : List Frame) (meth : Method) (c : Code) (g : zG) (A : Nat → Prop) (σ τ : zS) (res : Int32) (f : Int32 → Int32 → Int32 → Option (Int32)) : Prop := ∀ (x1 : Int32) (x3 : Int32) (s0 : Int32) (H : Heap) (locs : List Loc) (ls : Array Slot), f x1 x3 s0 = some res → zW g A σ τ s H locs → lv_has ls 4 [(0, .ref (g.2.2 66)), (1, .int x1), (3, .int x3)] → W p l e (zR 1) s m args below meth c H locs 0 0 (MQ below (zPi g A σ (res, τ)) args s 0 0 A) (F0 m 27 ls [.int s0])
def PX7_bedOf_5 (p : Program) (l : Launch) (e : Env) (s : State) (m : MethodId) (args : Array Value) (below : List Frame) (meth : Method) (c : Code) (g : zG) (A : Nat → Prop) (σ τ : zS) (res : Int32) (f : Int32 → Int32 → Int32 → Option (Int32)) : Prop := ∀ (x1 : Int32) (x2 : Int32) (x3 : Int32) (H : Heap) (locs : List Loc) (ls : Array Slot), f x1 x2 x3 = some res → zW g A σ τ s H locs → lv_has ls 4 [(0, .ref (g.2.2 66)), (1, .int x1), (2, .int x2), (3, .int x3)] → W p l e (zR 1) s m args below meth c H locs 0 0 (MQ below (zPi g A σ (res, τ)) args s 0 0 A) (F0 m 5 ls [])
def fX7_bedOf_27 (N : Nat) (τ : zS) (rc : Int32 → Int32 → Int32 → Option (Int32)) (x1 : Int32) (x3 : Int32) (s0 : Int32) : Option (Int32) :=
  rc x1 s0 (x3 + (nI 1))
set_option maxRecDepth 100000 in
set_option maxHeartbeats 4000000 in
theorem hX7_bedOf_27 {p : Program} {l : Launch} {e : Env} {s : State} {m : MethodId} {args : Array Value} {below : List Frame} {meth : Method} {c : Code} {g : zG} {A : Nat → Prop} {σ τ : zS} {res : Int32} (C : zCx p s m args meth c cX7_bedOf (some .int) wsX7_bedOf RX7 4) (E : zE g A s) (N : Nat) (rc : Int32 → Int32 → Int32 → Option (Int32)) (hrc : PX7_bedOf_5 p l e s m args below meth c g A σ τ res rc) : PX7_bedOf_27 p l e s m args below meth c g A σ τ res (fX7_bedOf_27 N τ rc) := by
  obtain ⟨hx, hb, hr, hml, hown, hts, hlocks⟩ := id C
  intro x1 x3 s0 H locs ls hf hh hl
  unfold fX7_bedOf_27 at hf
  refine lv_istore_n (lv' := [(2, .int s0), (0, .ref (g.2.2 66)), (1, .int x1), (3, .int x3)]) hx hb dX7_bedOf_27 rfl hl (by decide) rfl (fun ls hl => ?_)
  refine lv_iinc (v := (x3 + (nI 1))) (lv' := [(3, .int (x3 + (nI 1))), (2, .int s0), (0, .ref (g.2.2 66)), (1, .int x1)]) hx hb dX7_bedOf_28 hl (k := 3) rfl rfl (by decide) rfl (fun ls hl => ?_)
  refine lv_goto (tgt := 5) hx hb dX7_bedOf_31 (by decide) ?_
  exact hrc x1 s0 (x3 + (nI 1)) _ _ _ hf hh (lv_sub hl [2, 3, 1, 0] rfl)
def fX7_bedOf_5 (N : Nat) (τ : zS) : Nat → Int32 → Int32 → Int32 → Option (Int32)
  | 0, _, _, _ => none
  | n + 1, x1, x2, x3 =>
    if (τ.1 66 1) ≤ x3 then
      some x2
    else
      (fX7_bedBeast N τ x3).bind fun q2 =>
      if q2 = x1 then
        (fX7_bedOf_27 N τ (fX7_bedOf_5 N τ n)) x1 x3 x3
      else
        (fX7_bedOf_27 N τ (fX7_bedOf_5 N τ n)) x1 x3 x2
set_option maxRecDepth 100000 in
set_option maxHeartbeats 4000000 in
theorem hX7_bedOf_5 {p : Program} {l : Launch} {e : Env} {s : State} {m : MethodId} {args : Array Value} {below : List Frame} {meth : Method} {c : Code} {g : zG} {A : Nat → Prop} {σ τ : zS} {res : Int32} (C : zCx p s m args meth c cX7_bedOf (some .int) wsX7_bedOf RX7 4) (E : zE g A s) (N : Nat) : ∀ n : Nat, PX7_bedOf_5 p l e s m args below meth c g A σ τ res (fX7_bedOf_5 N τ n) := by
  obtain ⟨hx, hb, hr, hml, hown, hts, hlocks⟩ := id C
  intro n
  induction n with
  | zero =>
    intro x1 x2 x3 H locs ls hf
    exact absurd hf (by simp [fX7_bedOf_5])
  | succ n ih =>
    intro x1 x2 x3 H locs ls hf hh hl
    rw [fX7_bedOf_5] at hf
    refine lv_iload_n hx hb dX7_bedOf_5 rfl (lv_at hl 3 rfl) ?_
    refine lv_aload_n hx hb dX7_bedOf_6 rfl (lv_at hl 0 rfl) ?_
    refine z_get (v := .int (τ.1 66 1)) hx hb hts (fun w h => List.mem_cons_of_mem _ (List.mem_append_right _ (h))) hown E hh (by decide) (zC_obj (q := 66) rfl) rfl 1 (by decide) (hts (.fieldLink RX7 141 "TownBandModel" "beastMany" "I") (List.mem_cons_of_mem _ (List.mem_append_left _ (List.mem_of_getElem? (i := 0) rfl)))) rfl dX7_bedOf_7 ?_
    refine lv_icmp_ge (tgt := 34) hx hb dX7_bedOf_10 (by decide) (fun c_v1 => ?_) (fun c_v1 => ?_)
    · have hf := z_ip hf c_v1
      refine lv_iload_n hx hb dX7_bedOf_34 rfl (lv_at hl 2 rfl) ?_
      have hf := Option.some.inj hf
      subst hf
      exact z_iretM hx hb hr hlocks hh dX7_bedOf_35
    · have hf := z_in hf c_v1
      refine lv_aload_n hx hb dX7_bedOf_13 rfl (lv_at hl 0 rfl) ?_
      refine lv_iload_n hx hb dX7_bedOf_14 rfl (lv_at hl 3 rfl) ?_
      obtain ⟨q2, h_q2, hf⟩ := z_bd hf
      refine z_mi (va_runV (As := [.int x3]) (rest := []) ⟨hx, hb, hml, hown, hts⟩ (zcX7_bedBeast l g A σ τ N x3 h_q2) (cwV 1 hts gX7_bedOf_X7_bedBeast rfl rfl rfl hdX7_bedBeast ⟨by decide, by decide⟩) (z_preV E hh (by decide) (zC_obj (q := 66) rfl) rfl) rfl rfl hl.1 rfl (lv_room (Nat.le_of_ble_eq_true rfl)) dX7_bedOf_15 ⟨Nat.le_refl _, Nat.le_refl _⟩) hh (fun H locs hh => ?_)
      refine lv_iload_n hx hb dX7_bedOf_18 rfl (lv_at hl 1 rfl) ?_
      refine lv_icmp_ne (tgt := 26) hx hb dX7_bedOf_19 (by decide) (fun c_v3 => ?_) (fun c_v3 => ?_)
      · have hf := z_in hf c_v3
        refine lv_iload_n hx hb dX7_bedOf_26 rfl (lv_at hl 2 rfl) ?_
        exact (hX7_bedOf_27 C E N (fX7_bedOf_5 N τ n) ih) x1 x3 x2 _ _ _ hf hh (lv_sub hl [0, 1, 3] rfl)
      · have hf := z_ip hf c_v3
        refine lv_iload_n hx hb dX7_bedOf_22 rfl (lv_at hl 3 rfl) ?_
        refine lv_goto (tgt := 27) hx hb dX7_bedOf_23 (by decide) ?_
        exact (hX7_bedOf_27 C E N (fX7_bedOf_5 N τ n) ih) x1 x3 x3 _ _ _ hf hh (lv_sub hl [0, 1, 3] rfl)
def fX7_bedOf (N : Nat) (τ : zS) (x1 : Int32) : Option (Int32) :=
  (fX7_bedOf_5 N τ N) x1 (-4) (nI 0)
set_option maxRecDepth 100000 in
set_option maxHeartbeats 4000000 in
theorem zcX7_bedOf (l : Launch) (g : zG) (A : Nat → Prop) (σ τ : zS) (N : Nat) (x1 : Int32)  {res : Int32} (hf : fX7_bedOf N τ x1 = some res) : Met l yX7_bedOf wsX7_bedOf (zR 1) (zPc g A σ τ [.ref (g.2.2 66), .int x1]) (zPi g A σ (res, τ)) 0 0 A := by
  refine z_met (cc := cX7_bedOf) (ret := (some .int)) (own := RX7) (by decide) rfl rfl _ (Nat.le_of_ble_eq_true rfl) ?_
  intro p e s m below meth c C E ls hl hh
  have hl : lv_has ls 4 [(0, .ref (g.2.2 66)), (1, .int x1)] := hl
  obtain ⟨hx, hb, hr, hml, hown, hts, hlocks⟩ := id C
  unfold fX7_bedOf at hf
  refine lv_bipush (v := (-4)) hx hb dX7_bedOf_0 (by decide) ?_
  refine lv_istore_n (lv' := [(2, .int (-4)), (0, .ref (g.2.2 66)), (1, .int x1)]) hx hb dX7_bedOf_2 rfl hl (by decide) rfl (fun ls hl => ?_)
  refine lv_iconst (v := (nI 0)) hx hb dX7_bedOf_3 (by decide) ?_
  refine lv_istore_n (lv' := [(3, .int (nI 0)), (2, .int (-4)), (0, .ref (g.2.2 66)), (1, .int x1)]) hx hb dX7_bedOf_4 rfl hl (by decide) rfl (fun ls hl => ?_)
  exact (hX7_bedOf_5 C E N N) x1 (-4) (nI 0) _ _ _ hf hh (lv_sub hl [2, 3, 1, 0] rfl)
/-! ===== X7_rule ===== -/
theorem hdX7_rule : yX7_rule.cls = RX7 ∧ yX7_rule.cls ≠ "java/lang/invoke/MethodHandle" ∧ yX7_rule.cls ≠ "java/lang/invoke/VarHandle" ∧ (parseMethodDescriptor yX7_rule.desc).map (fun d => d.parameters.length) = some 1 := by decide +kernel
def fX7_rule (N : Nat) (τ : zS) (x1 : Int32) : Option (Int32) :=
  if x1 = (nI 0) then
    some (τ.1 66 1)
  else
    if x1 = (nI 1) then
      some (τ.1 66 2)
    else
      if x1 = (nI 2) then
        if zin (nI 24) (zlen 55) then
        zlet (τ.2 55 (nI 24).toNatClampNeg) fun v5 =>
        some v5
        else none
      else
        if x1 = (nI 3) then
          if zin (nI 30) (zlen 55) then
          zlet (τ.2 55 (nI 30).toNatClampNeg) fun v8 =>
          some (v8 + (nI 5))
          else none
        else
          if x1 = (nI 4) then
            (fX7_inTower N τ).bind fun q10 =>
            some q10
          else
            some (-1)
set_option maxRecDepth 100000 in
set_option maxHeartbeats 4000000 in
theorem zcX7_rule (l : Launch) (g : zG) (A : Nat → Prop) (σ τ : zS) (N : Nat) (x1 : Int32)  {res : Int32} (hf : fX7_rule N τ x1 = some res) : Met l yX7_rule wsX7_rule (zR 1) (zPc g A σ τ [.ref (g.2.2 66), .int x1]) (zPi g A σ (res, τ)) 0 0 A := by
  refine z_met (cc := cX7_rule) (ret := (some .int)) (own := RX7) (by decide) rfl rfl _ (Nat.le_of_ble_eq_true rfl) ?_
  intro p e s m below meth c C E ls hl hh
  have hl : lv_has ls 2 [(0, .ref (g.2.2 66)), (1, .int x1)] := hl
  obtain ⟨hx, hb, hr, hml, hown, hts, hlocks⟩ := id C
  unfold fX7_rule at hf
  refine lv_iload_n hx hb dX7_rule_0 rfl (lv_at hl 1 rfl) ?_
  by_cases c_v1 : x1 = (nI 0)
  · have hf := z_ip hf c_v1
    refine z_tbl (tgt := 36) (off := 35) hx hb dX7_rule_1 (nI 0) c_v1 (by decide) (by decide) (by decide) (by decide) ?_
    refine lv_aload_n hx hb dX7_rule_36 rfl (lv_at hl 0 rfl) ?_
    refine z_get (v := .int (τ.1 66 1)) hx hb hts (fun w h => List.mem_cons_of_mem _ (List.mem_append_right _ (h))) hown E hh (by decide) (zC_obj (q := 66) rfl) rfl 1 (by decide) (hts (.fieldLink RX7 141 "TownBandModel" "beastMany" "I") (List.mem_cons_of_mem _ (List.mem_append_left _ (List.mem_of_getElem? (i := 0) rfl)))) rfl dX7_rule_37 ?_
    have hf := Option.some.inj hf
    subst hf
    exact z_iretM hx hb hr hlocks hh dX7_rule_40
  · have hf := z_in hf c_v1
    by_cases c_v2 : x1 = (nI 1)
    · have hf := z_ip hf c_v2
      refine z_tbl (tgt := 41) (off := 40) hx hb dX7_rule_1 (nI 1) c_v2 (by decide) (by decide) (by decide) (by decide) ?_
      refine lv_aload_n hx hb dX7_rule_41 rfl (lv_at hl 0 rfl) ?_
      refine z_get (v := .int (τ.1 66 2)) hx hb hts (fun w h => List.mem_cons_of_mem _ (List.mem_append_right _ (h))) hown E hh (by decide) (zC_obj (q := 66) rfl) rfl 2 (by decide) (hts (.fieldLink RX7 144 "TownBandModel" "robberMany" "I") (List.mem_cons_of_mem _ (List.mem_append_left _ (List.mem_of_getElem? (i := 1) rfl)))) rfl dX7_rule_42 ?_
      have hf := Option.some.inj hf
      subst hf
      exact z_iretM hx hb hr hlocks hh dX7_rule_45
    · have hf := z_in hf c_v2
      by_cases c_v3 : x1 = (nI 2)
      · have hf := z_ip hf c_v3
        refine z_tbl (tgt := 46) (off := 45) hx hb dX7_rule_1 (nI 2) c_v3 (by decide) (by decide) (by decide) (by decide) ?_
        refine lv_aload_n hx hb dX7_rule_46 rfl (lv_at hl 0 rfl) ?_
        refine z_get (v := .ref (g.2.2 55)) hx hb hts (fun w h => List.mem_cons_of_mem _ (List.mem_append_right _ (h))) hown E hh (by decide) (zC_obj (q := 66) rfl) rfl 0 (by decide) (hts (.fieldLink RX7 7 "TownBandModel" "state" "[I") (List.mem_cons_of_mem _ (List.mem_append_left _ (List.mem_of_getElem? (i := 2) rfl)))) rfl dX7_rule_47 ?_
        refine lv_bipush (v := (nI 24)) hx hb dX7_rule_50 (by decide) ?_
        obtain ⟨h_v4, hf⟩ := z_if hf
        obtain ⟨v5, e_v5, hf⟩ := z_lt hf
        refine z_ialdM hx hb E hh (by decide) (by decide) h_v4 e_v5 dX7_rule_52 ?_
        have hf := Option.some.inj hf
        subst hf
        exact z_iretM hx hb hr hlocks hh dX7_rule_53
      · have hf := z_in hf c_v3
        by_cases c_v6 : x1 = (nI 3)
        · have hf := z_ip hf c_v6
          refine z_tbl (tgt := 54) (off := 53) hx hb dX7_rule_1 (nI 3) c_v6 (by decide) (by decide) (by decide) (by decide) ?_
          refine lv_aload_n hx hb dX7_rule_54 rfl (lv_at hl 0 rfl) ?_
          refine z_get (v := .ref (g.2.2 55)) hx hb hts (fun w h => List.mem_cons_of_mem _ (List.mem_append_right _ (h))) hown E hh (by decide) (zC_obj (q := 66) rfl) rfl 0 (by decide) (hts (.fieldLink RX7 7 "TownBandModel" "state" "[I") (List.mem_cons_of_mem _ (List.mem_append_left _ (List.mem_of_getElem? (i := 2) rfl)))) rfl dX7_rule_55 ?_
          refine lv_bipush (v := (nI 30)) hx hb dX7_rule_58 (by decide) ?_
          obtain ⟨h_v7, hf⟩ := z_if hf
          obtain ⟨v8, e_v8, hf⟩ := z_lt hf
          refine z_ialdM hx hb E hh (by decide) (by decide) h_v7 e_v8 dX7_rule_60 ?_
          refine lv_iconst (v := (nI 5)) hx hb dX7_rule_61 (by decide) ?_
          refine lv_iadd hx hb dX7_rule_62 ?_
          have hf := Option.some.inj hf
          subst hf
          exact z_iretM hx hb hr hlocks hh dX7_rule_63
        · have hf := z_in hf c_v6
          by_cases c_v9 : x1 = (nI 4)
          · have hf := z_ip hf c_v9
            refine z_tbl (tgt := 64) (off := 63) hx hb dX7_rule_1 (nI 4) c_v9 (by decide) (by decide) (by decide) (by decide) ?_
            refine lv_aload_n hx hb dX7_rule_64 rfl (lv_at hl 0 rfl) ?_
            obtain ⟨q10, h_q10, hf⟩ := z_bd hf
            refine z_mi (va_runV (As := []) (rest := []) ⟨hx, hb, hml, hown, hts⟩ (zcX7_inTower l g A σ τ N  h_q10) (cwV 0 hts gX7_rule_X7_inTower rfl rfl rfl hdX7_inTower ⟨by decide, by decide⟩) (z_preV E hh (by decide) (zC_obj (q := 66) rfl) rfl) rfl rfl hl.1 rfl (lv_room (Nat.le_of_ble_eq_true rfl)) dX7_rule_65 ⟨Nat.le_refl _, Nat.le_refl _⟩) hh (fun H locs hh => ?_)
            have hf := Option.some.inj hf
            subst hf
            exact z_iretM hx hb hr hlocks hh dX7_rule_68
          · have hf := z_in hf c_v9
            refine lv_tableOut (tgt := 69) hx hb dX7_rule_1 (by have n_c_v1 := lv_neT (a := 0) c_v1 (by decide); have n_c_v2 := lv_neT (a := 1) c_v2 (by decide); have n_c_v3 := lv_neT (a := 2) c_v3 (by decide); have n_c_v6 := lv_neT (a := 3) c_v6 (by decide); have n_c_v9 := lv_neT (a := 4) c_v9 (by decide); omega) (by decide) ?_
            refine lv_iconst (v := (-1)) hx hb dX7_rule_69 (by decide) ?_
            have hf := Option.some.inj hf
            subst hf
            exact z_iretM hx hb hr hlocks hh dX7_rule_70
/-! ===== X7_beast ===== -/
theorem hdX7_beast : yX7_beast.cls = RX7 ∧ yX7_beast.cls ≠ "java/lang/invoke/MethodHandle" ∧ yX7_beast.cls ≠ "java/lang/invoke/VarHandle" ∧ (parseMethodDescriptor yX7_beast.desc).map (fun d => d.parameters.length) = some 2 := by decide +kernel
def fX7_beast (N : Nat) (τ : zS) (x1 : Int32) (x2 : Int32) : Option (Int32) :=
  (fX7_isBeast N τ x1).bind fun q1 =>
  if q1 = 0 then
    some (-1)
  else
    if x2 = (nI 0) then
      if zin (((nI 5) * x2) + x1) (zlen 55) then
      zlet (τ.2 55 (((nI 5) * x2) + x1).toNatClampNeg) fun v5 =>
      some v5
      else none
    else
      if x2 = (nI 1) then
        if zin (((nI 5) * x2) + x1) (zlen 55) then
        zlet (τ.2 55 (((nI 5) * x2) + x1).toNatClampNeg) fun v8 =>
        some v8
        else none
      else
        if x2 = (nI 2) then
          if zin (((nI 5) * x2) + x1) (zlen 55) then
          zlet (τ.2 55 (((nI 5) * x2) + x1).toNatClampNeg) fun v11 =>
          some v11
          else none
        else
          if x2 = (nI 3) then
            (fX7_bearsOn N τ (nI 0) x1).bind fun q13 =>
            some q13
          else
            if x2 = (nI 4) then
              (fX7_hurts N τ x1).bind fun q15 =>
              some q15
            else
              if x2 = (nI 5) then
                (fX7_placeOf N τ x1).bind fun q17 =>
                some q17
              else
                if x2 = (nI 6) then
                  (fX7_bedOf N τ x1).bind fun q19 =>
                  some q19
                else
                  some (-1)
set_option maxRecDepth 100000 in
set_option maxHeartbeats 4000000 in
theorem zcX7_beast (l : Launch) (g : zG) (A : Nat → Prop) (σ τ : zS) (N : Nat) (x1 : Int32) (x2 : Int32)  {res : Int32} (hf : fX7_beast N τ x1 x2 = some res) : Met l yX7_beast wsX7_beast (zR 2) (zPc g A σ τ [.ref (g.2.2 66), .int x1, .int x2]) (zPi g A σ (res, τ)) 0 0 A := by
  refine z_met (cc := cX7_beast) (ret := (some .int)) (own := RX7) (by decide) rfl rfl _ (Nat.le_of_ble_eq_true rfl) ?_
  intro p e s m below meth c C E ls hl hh
  have hl : lv_has ls 3 [(0, .ref (g.2.2 66)), (1, .int x1), (2, .int x2)] := hl
  obtain ⟨hx, hb, hr, hml, hown, hts, hlocks⟩ := id C
  unfold fX7_beast at hf
  refine lv_aload_n hx hb dX7_beast_0 rfl (lv_at hl 0 rfl) ?_
  refine lv_iload_n hx hb dX7_beast_1 rfl (lv_at hl 1 rfl) ?_
  obtain ⟨q1, h_q1, hf⟩ := z_bd hf
  refine z_mi (va_runV (As := [.int x1]) (rest := []) ⟨hx, hb, hml, hown, hts⟩ (zcX7_isBeast l g A σ τ N x1 h_q1) (cwV 1 hts gX7_beast_X7_isBeast rfl rfl rfl hdX7_isBeast ⟨by decide, by decide⟩) (z_preV E hh (by decide) (zC_obj (q := 66) rfl) rfl) rfl rfl hl.1 rfl (lv_room (Nat.le_of_ble_eq_true rfl)) dX7_beast_2 ⟨Nat.le_refl _, Nat.le_refl _⟩) hh (fun H locs hh => ?_)
  refine lv_if_ne (tgt := 10) hx hb dX7_beast_5 (by decide) (fun c_v2 => ?_) (fun c_v2 => ?_)
  · have hf := z_in hf c_v2
    refine lv_iload_n hx hb dX7_beast_10 rfl (lv_at hl 2 rfl) ?_
    by_cases c_v3 : x2 = (nI 0)
    · have hf := z_ip hf c_v3
      refine z_tbl (tgt := 52) (off := 41) hx hb dX7_beast_11 (nI 0) c_v3 (by decide) (by decide) (by decide) (by decide) ?_
      refine lv_aload_n hx hb dX7_beast_52 rfl (lv_at hl 0 rfl) ?_
      refine z_get (v := .ref (g.2.2 55)) hx hb hts (fun w h => List.mem_cons_of_mem _ (List.mem_append_right _ (h))) hown E hh (by decide) (zC_obj (q := 66) rfl) rfl 0 (by decide) (hts (.fieldLink RX7 7 "TownBandModel" "state" "[I") (List.mem_cons_of_mem _ (List.mem_append_left _ (List.mem_append_left _ (List.mem_of_getElem? (i := 0) rfl))))) rfl dX7_beast_53 ?_
      refine lv_iconst (v := (nI 5)) hx hb dX7_beast_56 (by decide) ?_
      refine lv_iload_n hx hb dX7_beast_57 rfl (lv_at hl 2 rfl) ?_
      refine lv_imul hx hb dX7_beast_58 ?_
      refine lv_iload_n hx hb dX7_beast_59 rfl (lv_at hl 1 rfl) ?_
      refine lv_iadd hx hb dX7_beast_60 ?_
      obtain ⟨h_v4, hf⟩ := z_if hf
      obtain ⟨v5, e_v5, hf⟩ := z_lt hf
      refine z_ialdM hx hb E hh (by decide) (by decide) h_v4 e_v5 dX7_beast_61 ?_
      have hf := Option.some.inj hf
      subst hf
      exact z_iretM hx hb hr hlocks hh dX7_beast_62
    · have hf := z_in hf c_v3
      by_cases c_v6 : x2 = (nI 1)
      · have hf := z_ip hf c_v6
        refine z_tbl (tgt := 52) (off := 41) hx hb dX7_beast_11 (nI 1) c_v6 (by decide) (by decide) (by decide) (by decide) ?_
        refine lv_aload_n hx hb dX7_beast_52 rfl (lv_at hl 0 rfl) ?_
        refine z_get (v := .ref (g.2.2 55)) hx hb hts (fun w h => List.mem_cons_of_mem _ (List.mem_append_right _ (h))) hown E hh (by decide) (zC_obj (q := 66) rfl) rfl 0 (by decide) (hts (.fieldLink RX7 7 "TownBandModel" "state" "[I") (List.mem_cons_of_mem _ (List.mem_append_left _ (List.mem_append_left _ (List.mem_of_getElem? (i := 0) rfl))))) rfl dX7_beast_53 ?_
        refine lv_iconst (v := (nI 5)) hx hb dX7_beast_56 (by decide) ?_
        refine lv_iload_n hx hb dX7_beast_57 rfl (lv_at hl 2 rfl) ?_
        refine lv_imul hx hb dX7_beast_58 ?_
        refine lv_iload_n hx hb dX7_beast_59 rfl (lv_at hl 1 rfl) ?_
        refine lv_iadd hx hb dX7_beast_60 ?_
        obtain ⟨h_v7, hf⟩ := z_if hf
        obtain ⟨v8, e_v8, hf⟩ := z_lt hf
        refine z_ialdM hx hb E hh (by decide) (by decide) h_v7 e_v8 dX7_beast_61 ?_
        have hf := Option.some.inj hf
        subst hf
        exact z_iretM hx hb hr hlocks hh dX7_beast_62
      · have hf := z_in hf c_v6
        by_cases c_v9 : x2 = (nI 2)
        · have hf := z_ip hf c_v9
          refine z_tbl (tgt := 52) (off := 41) hx hb dX7_beast_11 (nI 2) c_v9 (by decide) (by decide) (by decide) (by decide) ?_
          refine lv_aload_n hx hb dX7_beast_52 rfl (lv_at hl 0 rfl) ?_
          refine z_get (v := .ref (g.2.2 55)) hx hb hts (fun w h => List.mem_cons_of_mem _ (List.mem_append_right _ (h))) hown E hh (by decide) (zC_obj (q := 66) rfl) rfl 0 (by decide) (hts (.fieldLink RX7 7 "TownBandModel" "state" "[I") (List.mem_cons_of_mem _ (List.mem_append_left _ (List.mem_append_left _ (List.mem_of_getElem? (i := 0) rfl))))) rfl dX7_beast_53 ?_
          refine lv_iconst (v := (nI 5)) hx hb dX7_beast_56 (by decide) ?_
          refine lv_iload_n hx hb dX7_beast_57 rfl (lv_at hl 2 rfl) ?_
          refine lv_imul hx hb dX7_beast_58 ?_
          refine lv_iload_n hx hb dX7_beast_59 rfl (lv_at hl 1 rfl) ?_
          refine lv_iadd hx hb dX7_beast_60 ?_
          obtain ⟨h_v10, hf⟩ := z_if hf
          obtain ⟨v11, e_v11, hf⟩ := z_lt hf
          refine z_ialdM hx hb E hh (by decide) (by decide) h_v10 e_v11 dX7_beast_61 ?_
          have hf := Option.some.inj hf
          subst hf
          exact z_iretM hx hb hr hlocks hh dX7_beast_62
        · have hf := z_in hf c_v9
          by_cases c_v12 : x2 = (nI 3)
          · have hf := z_ip hf c_v12
            refine z_tbl (tgt := 63) (off := 52) hx hb dX7_beast_11 (nI 3) c_v12 (by decide) (by decide) (by decide) (by decide) ?_
            refine lv_aload_n hx hb dX7_beast_63 rfl (lv_at hl 0 rfl) ?_
            refine lv_iconst (v := (nI 0)) hx hb dX7_beast_64 (by decide) ?_
            refine lv_iload_n hx hb dX7_beast_65 rfl (lv_at hl 1 rfl) ?_
            obtain ⟨q13, h_q13, hf⟩ := z_bd hf
            refine z_mi (va_runV (As := [.int (nI 0), .int x1]) (rest := []) ⟨hx, hb, hml, hown, hts⟩ (zcX7_bearsOn l g A σ τ N (nI 0) x1 h_q13) (cwV 2 hts gX7_beast_X7_bearsOn rfl rfl rfl hdX7_bearsOn ⟨by decide, by decide⟩) (z_preV E hh (by decide) (zC_obj (q := 66) rfl) rfl) rfl rfl hl.1 rfl (lv_room (Nat.le_of_ble_eq_true rfl)) dX7_beast_66 ⟨Nat.le_refl _, Nat.le_refl _⟩) hh (fun H locs hh => ?_)
            have hf := Option.some.inj hf
            subst hf
            exact z_iretM hx hb hr hlocks hh dX7_beast_69
          · have hf := z_in hf c_v12
            by_cases c_v14 : x2 = (nI 4)
            · have hf := z_ip hf c_v14
              refine z_tbl (tgt := 70) (off := 59) hx hb dX7_beast_11 (nI 4) c_v14 (by decide) (by decide) (by decide) (by decide) ?_
              refine lv_aload_n hx hb dX7_beast_70 rfl (lv_at hl 0 rfl) ?_
              refine lv_iload_n hx hb dX7_beast_71 rfl (lv_at hl 1 rfl) ?_
              obtain ⟨q15, h_q15, hf⟩ := z_bd hf
              refine z_mi (va_runV (As := [.int x1]) (rest := []) ⟨hx, hb, hml, hown, hts⟩ (zcX7_hurts l g A σ τ N x1 h_q15) (cwV 1 hts gX7_beast_X7_hurts rfl rfl rfl hdX7_hurts ⟨by decide, by decide⟩) (z_preV E hh (by decide) (zC_obj (q := 66) rfl) rfl) rfl rfl hl.1 rfl (lv_room (Nat.le_of_ble_eq_true rfl)) dX7_beast_72 ⟨Nat.le_refl _, Nat.le_refl _⟩) hh (fun H locs hh => ?_)
              have hf := Option.some.inj hf
              subst hf
              exact z_iretM hx hb hr hlocks hh dX7_beast_75
            · have hf := z_in hf c_v14
              by_cases c_v16 : x2 = (nI 5)
              · have hf := z_ip hf c_v16
                refine z_tbl (tgt := 76) (off := 65) hx hb dX7_beast_11 (nI 5) c_v16 (by decide) (by decide) (by decide) (by decide) ?_
                refine lv_aload_n hx hb dX7_beast_76 rfl (lv_at hl 0 rfl) ?_
                refine lv_iload_n hx hb dX7_beast_77 rfl (lv_at hl 1 rfl) ?_
                obtain ⟨q17, h_q17, hf⟩ := z_bd hf
                refine z_mi (va_runV (As := [.int x1]) (rest := []) ⟨hx, hb, hml, hown, hts⟩ (zcX7_placeOf l g A σ τ N x1 h_q17) (cwV 1 hts gX7_beast_X7_placeOf rfl rfl rfl hdX7_placeOf ⟨by decide, by decide⟩) (z_preV E hh (by decide) (zC_obj (q := 66) rfl) rfl) rfl rfl hl.1 rfl (lv_room (Nat.le_of_ble_eq_true rfl)) dX7_beast_78 ⟨Nat.le_refl _, Nat.le_refl _⟩) hh (fun H locs hh => ?_)
                have hf := Option.some.inj hf
                subst hf
                exact z_iretM hx hb hr hlocks hh dX7_beast_81
              · have hf := z_in hf c_v16
                by_cases c_v18 : x2 = (nI 6)
                · have hf := z_ip hf c_v18
                  refine z_tbl (tgt := 82) (off := 71) hx hb dX7_beast_11 (nI 6) c_v18 (by decide) (by decide) (by decide) (by decide) ?_
                  refine lv_aload_n hx hb dX7_beast_82 rfl (lv_at hl 0 rfl) ?_
                  refine lv_iload_n hx hb dX7_beast_83 rfl (lv_at hl 1 rfl) ?_
                  obtain ⟨q19, h_q19, hf⟩ := z_bd hf
                  refine z_mi (va_runV (As := [.int x1]) (rest := []) ⟨hx, hb, hml, hown, hts⟩ (zcX7_bedOf l g A σ τ N x1 h_q19) (cwV 1 hts gX7_beast_X7_bedOf rfl rfl rfl hdX7_bedOf ⟨by decide, by decide⟩) (z_preV E hh (by decide) (zC_obj (q := 66) rfl) rfl) rfl rfl hl.1 rfl (lv_room (Nat.le_of_ble_eq_true rfl)) dX7_beast_84 ⟨Nat.le_refl _, Nat.le_refl _⟩) hh (fun H locs hh => ?_)
                  have hf := Option.some.inj hf
                  subst hf
                  exact z_iretM hx hb hr hlocks hh dX7_beast_87
                · have hf := z_in hf c_v18
                  refine lv_tableOut (tgt := 88) hx hb dX7_beast_11 (by have n_c_v3 := lv_neT (a := 0) c_v3 (by decide); have n_c_v6 := lv_neT (a := 1) c_v6 (by decide); have n_c_v9 := lv_neT (a := 2) c_v9 (by decide); have n_c_v12 := lv_neT (a := 3) c_v12 (by decide); have n_c_v14 := lv_neT (a := 4) c_v14 (by decide); have n_c_v16 := lv_neT (a := 5) c_v16 (by decide); have n_c_v18 := lv_neT (a := 6) c_v18 (by decide); omega) (by decide) ?_
                  refine lv_iconst (v := (-1)) hx hb dX7_beast_88 (by decide) ?_
                  have hf := Option.some.inj hf
                  subst hf
                  exact z_iretM hx hb hr hlocks hh dX7_beast_89
  · have hf := z_ip hf c_v2
    refine lv_iconst (v := (-1)) hx hb dX7_beast_8 (by decide) ?_
    have hf := Option.some.inj hf
    subst hf
    exact z_iretM hx hb hr hlocks hh dX7_beast_9
/-! ===== X7_robber ===== -/
theorem hdX7_robber : yX7_robber.cls = RX7 ∧ yX7_robber.cls ≠ "java/lang/invoke/MethodHandle" ∧ yX7_robber.cls ≠ "java/lang/invoke/VarHandle" ∧ (parseMethodDescriptor yX7_robber.desc).map (fun d => d.parameters.length) = some 1 := by decide +kernel
def fX7_robber (N : Nat) (τ : zS) (x1 : Int32) : Option (Int32) :=
  (fX7_isRobber N τ x1).bind fun q1 =>
  if q1 = 0 then
    some (-1)
  else
    if zin ((nI 15) + x1) (zlen 55) then
    zlet (τ.2 55 ((nI 15) + x1).toNatClampNeg) fun v4 =>
    some v4
    else none
set_option maxRecDepth 100000 in
set_option maxHeartbeats 4000000 in
theorem zcX7_robber (l : Launch) (g : zG) (A : Nat → Prop) (σ τ : zS) (N : Nat) (x1 : Int32)  {res : Int32} (hf : fX7_robber N τ x1 = some res) : Met l yX7_robber wsX7_robber (zR 2) (zPc g A σ τ [.ref (g.2.2 66), .int x1]) (zPi g A σ (res, τ)) 0 0 A := by
  refine z_met (cc := cX7_robber) (ret := (some .int)) (own := RX7) (by decide) rfl rfl _ (Nat.le_of_ble_eq_true rfl) ?_
  intro p e s m below meth c C E ls hl hh
  have hl : lv_has ls 2 [(0, .ref (g.2.2 66)), (1, .int x1)] := hl
  obtain ⟨hx, hb, hr, hml, hown, hts, hlocks⟩ := id C
  unfold fX7_robber at hf
  refine lv_aload_n hx hb dX7_robber_0 rfl (lv_at hl 0 rfl) ?_
  refine lv_iload_n hx hb dX7_robber_1 rfl (lv_at hl 1 rfl) ?_
  obtain ⟨q1, h_q1, hf⟩ := z_bd hf
  refine z_mi (va_runV (As := [.int x1]) (rest := []) ⟨hx, hb, hml, hown, hts⟩ (zcX7_isRobber l g A σ τ N x1 h_q1) (cwV 1 hts gX7_robber_X7_isRobber rfl rfl rfl hdX7_isRobber ⟨by decide, by decide⟩) (z_preV E hh (by decide) (zC_obj (q := 66) rfl) rfl) rfl rfl hl.1 rfl (lv_room (Nat.le_of_ble_eq_true rfl)) dX7_robber_2 ⟨Nat.le_refl _, Nat.le_refl _⟩) hh (fun H locs hh => ?_)
  refine lv_if_eq (tgt := 20) hx hb dX7_robber_5 (by decide) (fun c_v2 => ?_) (fun c_v2 => ?_)
  · have hf := z_ip hf c_v2
    refine lv_iconst (v := (-1)) hx hb dX7_robber_20 (by decide) ?_
    have hf := Option.some.inj hf
    subst hf
    exact z_iretM hx hb hr hlocks hh dX7_robber_21
  · have hf := z_in hf c_v2
    refine lv_aload_n hx hb dX7_robber_8 rfl (lv_at hl 0 rfl) ?_
    refine z_get (v := .ref (g.2.2 55)) hx hb hts (fun w h => List.mem_cons_of_mem _ (List.mem_append_right _ (h))) hown E hh (by decide) (zC_obj (q := 66) rfl) rfl 0 (by decide) (hts (.fieldLink RX7 7 "TownBandModel" "state" "[I") (List.mem_cons_of_mem _ (List.mem_append_left _ (List.mem_of_getElem? (i := 0) rfl)))) rfl dX7_robber_9 ?_
    refine lv_bipush (v := (nI 15)) hx hb dX7_robber_12 (by decide) ?_
    refine lv_iload_n hx hb dX7_robber_14 rfl (lv_at hl 1 rfl) ?_
    refine lv_iadd hx hb dX7_robber_15 ?_
    obtain ⟨h_v3, hf⟩ := z_if hf
    obtain ⟨v4, e_v4, hf⟩ := z_lt hf
    refine z_ialdM hx hb E hh (by decide) (by decide) h_v3 e_v4 dX7_robber_16 ?_
    refine lv_goto (tgt := 21) hx hb dX7_robber_17 (by decide) ?_
    have hf := Option.some.inj hf
    subst hf
    exact z_iretM hx hb hr hlocks hh dX7_robber_21
/-! ===== X7_at ===== -/
theorem hdX7_at : yX7_at.cls = RX7 ∧ yX7_at.cls ≠ "java/lang/invoke/MethodHandle" ∧ yX7_at.cls ≠ "java/lang/invoke/VarHandle" ∧ (parseMethodDescriptor yX7_at.desc).map (fun d => d.parameters.length) = some 2 := by decide +kernel
def fX7_at (N : Nat) (τ : zS) (x1 : Int32) (x2 : Int32) : Option (Int32) :=
  if x1 = 0 then
    if zin (nI 24) (zlen 55) then
    zlet (τ.2 55 (nI 24).toNatClampNeg) fun v7 =>
    (fX7_in N x2.toInt64 0 (((v7 - (nI 1))).toInt64)).bind fun q8 =>
    if q8 = 0 then
      some (-1)
    else
      if zin ((nI 19) + x2) (zlen 55) then
      zlet (τ.2 55 ((nI 19) + x2).toNatClampNeg) fun v11 =>
      some v11
      else none
    else none
  else
    if x1 = (nI 1) then
      (fX7_isBeast N τ x2).bind fun q3 =>
      if q3 = 0 then
        some (-1)
      else
        (fX7_bedBeast N τ x2).bind fun q5 =>
        some q5
    else
      some (-1)
set_option maxRecDepth 100000 in
set_option maxHeartbeats 4000000 in
theorem zcX7_at (l : Launch) (g : zG) (A : Nat → Prop) (σ τ : zS) (N : Nat) (x1 : Int32) (x2 : Int32)  {res : Int32} (hf : fX7_at N τ x1 x2 = some res) : Met l yX7_at wsX7_at (zR 2) (zPc g A σ τ [.ref (g.2.2 66), .int x1, .int x2]) (zPi g A σ (res, τ)) 0 0 A := by
  refine z_met (cc := cX7_at) (ret := (some .int)) (own := RX7) (by decide) rfl rfl _ (Nat.le_of_ble_eq_true rfl) ?_
  intro p e s m below meth c C E ls hl hh
  have hl : lv_has ls 3 [(0, .ref (g.2.2 66)), (1, .int x1), (2, .int x2)] := hl
  obtain ⟨hx, hb, hr, hml, hown, hts, hlocks⟩ := id C
  unfold fX7_at at hf
  refine lv_iload_n hx hb dX7_at_0 rfl (lv_at hl 1 rfl) ?_
  refine lv_if_ne (tgt := 37) hx hb dX7_at_1 (by decide) (fun c_v1 => ?_) (fun c_v1 => ?_)
  · have hf := z_in hf c_v1
    refine lv_iload_n hx hb dX7_at_37 rfl (lv_at hl 1 rfl) ?_
    refine lv_iconst (v := (nI 1)) hx hb dX7_at_38 (by decide) ?_
    refine lv_icmp_ne (tgt := 58) hx hb dX7_at_39 (by decide) (fun c_v2 => ?_) (fun c_v2 => ?_)
    · have hf := z_in hf c_v2
      refine lv_iconst (v := (-1)) hx hb dX7_at_58 (by decide) ?_
      have hf := Option.some.inj hf
      subst hf
      exact z_iretM hx hb hr hlocks hh dX7_at_59
    · have hf := z_ip hf c_v2
      refine lv_aload_n hx hb dX7_at_42 rfl (lv_at hl 0 rfl) ?_
      refine lv_iload_n hx hb dX7_at_43 rfl (lv_at hl 2 rfl) ?_
      obtain ⟨q3, h_q3, hf⟩ := z_bd hf
      refine z_mi (va_runV (As := [.int x2]) (rest := []) ⟨hx, hb, hml, hown, hts⟩ (zcX7_isBeast l g A σ τ N x2 h_q3) (cwV 1 hts gX7_at_X7_isBeast rfl rfl rfl hdX7_isBeast ⟨by decide, by decide⟩) (z_preV E hh (by decide) (zC_obj (q := 66) rfl) rfl) rfl rfl hl.1 rfl (lv_room (Nat.le_of_ble_eq_true rfl)) dX7_at_44 ⟨Nat.le_refl _, Nat.le_refl _⟩) hh (fun H locs hh => ?_)
      refine lv_if_eq (tgt := 58) hx hb dX7_at_47 (by decide) (fun c_v4 => ?_) (fun c_v4 => ?_)
      · have hf := z_ip hf c_v4
        refine lv_iconst (v := (-1)) hx hb dX7_at_58 (by decide) ?_
        have hf := Option.some.inj hf
        subst hf
        exact z_iretM hx hb hr hlocks hh dX7_at_59
      · have hf := z_in hf c_v4
        refine lv_aload_n hx hb dX7_at_50 rfl (lv_at hl 0 rfl) ?_
        refine lv_iload_n hx hb dX7_at_51 rfl (lv_at hl 2 rfl) ?_
        obtain ⟨q5, h_q5, hf⟩ := z_bd hf
        refine z_mi (va_runV (As := [.int x2]) (rest := []) ⟨hx, hb, hml, hown, hts⟩ (zcX7_bedBeast l g A σ τ N x2 h_q5) (cwV 1 hts gX7_at_X7_bedBeast rfl rfl rfl hdX7_bedBeast ⟨by decide, by decide⟩) (z_preV E hh (by decide) (zC_obj (q := 66) rfl) rfl) rfl rfl hl.1 rfl (lv_room (Nat.le_of_ble_eq_true rfl)) dX7_at_52 ⟨Nat.le_refl _, Nat.le_refl _⟩) hh (fun H locs hh => ?_)
        refine lv_goto (tgt := 59) hx hb dX7_at_55 (by decide) ?_
        have hf := Option.some.inj hf
        subst hf
        exact z_iretM hx hb hr hlocks hh dX7_at_59
  · have hf := z_ip hf c_v1
    refine lv_iload_n hx hb dX7_at_4 rfl (lv_at hl 2 rfl) ?_
    refine lv_i2l hx hb dX7_at_5 rfl ?_
    refine lv_lconst (v := 0) hx hb dX7_at_6 (by decide) ?_
    refine lv_aload_n hx hb dX7_at_7 rfl (lv_at hl 0 rfl) ?_
    refine z_get (v := .ref (g.2.2 55)) hx hb hts (fun w h => List.mem_cons_of_mem _ (List.mem_append_right _ (h))) hown E hh (by decide) (zC_obj (q := 66) rfl) rfl 0 (by decide) (hts (.fieldLink RX7 7 "TownBandModel" "state" "[I") (List.mem_cons_of_mem _ (List.mem_append_left _ (List.mem_of_getElem? (i := 0) rfl)))) rfl dX7_at_8 ?_
    refine lv_bipush (v := (nI 24)) hx hb dX7_at_11 (by decide) ?_
    obtain ⟨h_v6, hf⟩ := z_if hf
    obtain ⟨v7, e_v7, hf⟩ := z_lt hf
    refine z_ialdM hx hb E hh (by decide) (by decide) h_v6 e_v7 dX7_at_13 ?_
    refine lv_iconst (v := (nI 1)) hx hb dX7_at_14 (by decide) ?_
    refine lv_isub hx hb dX7_at_15 ?_
    refine lv_i2l hx hb dX7_at_16 rfl ?_
    obtain ⟨q8, h_q8, hf⟩ := z_bd hf
    refine z_mi (va_runS (As := [.long x2.toInt64, .long 0, .long (((v7 - (nI 1))).toInt64)]) (rest := []) ⟨hx, hb, hml, hown, hts⟩ (zcX7_in l g A σ τ N x2.toInt64 0 (((v7 - (nI 1))).toInt64) h_q8) (va_cwS 3 hts gX7_at_X7_in rfl rfl rfl hdX7_in.2 ⟨by decide, by decide⟩) (z_preS E hh) rfl rfl hl.1 rfl (lv_room (Nat.le_of_ble_eq_true rfl)) dX7_at_17 ⟨Nat.le_refl _, Nat.le_refl _⟩) hh (fun H locs hh => ?_)
    refine lv_if_eq (tgt := 35) hx hb dX7_at_20 (by decide) (fun c_v9 => ?_) (fun c_v9 => ?_)
    · have hf := z_ip hf c_v9
      refine lv_iconst (v := (-1)) hx hb dX7_at_35 (by decide) ?_
      have hf := Option.some.inj hf
      subst hf
      exact z_iretM hx hb hr hlocks hh dX7_at_36
    · have hf := z_in hf c_v9
      refine lv_aload_n hx hb dX7_at_23 rfl (lv_at hl 0 rfl) ?_
      refine z_get (v := .ref (g.2.2 55)) hx hb hts (fun w h => List.mem_cons_of_mem _ (List.mem_append_right _ (h))) hown E hh (by decide) (zC_obj (q := 66) rfl) rfl 0 (by decide) (hts (.fieldLink RX7 7 "TownBandModel" "state" "[I") (List.mem_cons_of_mem _ (List.mem_append_left _ (List.mem_of_getElem? (i := 0) rfl)))) rfl dX7_at_24 ?_
      refine lv_bipush (v := (nI 19)) hx hb dX7_at_27 (by decide) ?_
      refine lv_iload_n hx hb dX7_at_29 rfl (lv_at hl 2 rfl) ?_
      refine lv_iadd hx hb dX7_at_30 ?_
      obtain ⟨h_v10, hf⟩ := z_if hf
      obtain ⟨v11, e_v11, hf⟩ := z_lt hf
      refine z_ialdM hx hb E hh (by decide) (by decide) h_v10 e_v11 dX7_at_31 ?_
      refine lv_goto (tgt := 36) hx hb dX7_at_32 (by decide) ?_
      have hf := Option.some.inj hf
      subst hf
      exact z_iretM hx hb hr hlocks hh dX7_at_36
/-! ===== X7_puts ===== -/
theorem hdX7_puts : yX7_puts.cls = RX7 ∧ yX7_puts.cls ≠ "java/lang/invoke/MethodHandle" ∧ yX7_puts.cls ≠ "java/lang/invoke/VarHandle" ∧ (parseMethodDescriptor yX7_puts.desc).map (fun d => d.parameters.length) = some 4 := by decide +kernel
def fX7_puts (N : Nat) (τ : zS) (x1 : Int32) (x2 : Int32) (x3 : Int32) (x4 : Int32) : Option (Int32 × zS) :=
  if x1 = 0 then
    some ((-1), τ)
  else
    if zin x2 (zlen 55) then
    zlet (τ.2 55 x2.toNatClampNeg) fun v3 =>
    if zin x2 (zlen 55) then
    zlet (zpa τ 55 (upd (τ.2 55) x2.toNatClampNeg (x3 - x4))) fun τ5 =>
    some ((v3 + x4), τ5)
    else none
    else none
set_option maxRecDepth 100000 in
set_option maxHeartbeats 4000000 in
theorem zcX7_puts (l : Launch) (g : zG) (A : Nat → Prop) (σ τ : zS) (N : Nat) (x1 : Int32) (x2 : Int32) (x3 : Int32) (x4 : Int32)  {res : Int32 × zS} (hf : fX7_puts N τ x1 x2 x3 x4 = some res) : Met l yX7_puts wsX7_puts (zR 0) (zPc g A σ τ [.ref (g.2.2 66), .int x1, .int x2, .int x3, .int x4]) (zPi g A σ res) 0 0 A := by
  refine z_met (cc := cX7_puts) (ret := (some .int)) (own := RX7) (by decide) rfl rfl _ (Nat.le_of_ble_eq_true rfl) ?_
  intro p e s m below meth c C E ls hl hh
  have hl : lv_has ls 6 [(0, .ref (g.2.2 66)), (1, .int x1), (2, .int x2), (3, .int x3), (4, .int x4)] := hl
  obtain ⟨hx, hb, hr, hml, hown, hts, hlocks⟩ := id C
  unfold fX7_puts at hf
  refine lv_iload_n hx hb dX7_puts_0 rfl (lv_at hl 1 rfl) ?_
  refine lv_if_ne (tgt := 6) hx hb dX7_puts_1 (by decide) (fun c_v1 => ?_) (fun c_v1 => ?_)
  · have hf := z_in hf c_v1
    refine lv_aload_n hx hb dX7_puts_6 rfl (lv_at hl 0 rfl) ?_
    refine z_get (v := .ref (g.2.2 55)) hx hb hts (fun w h => List.mem_cons_of_mem _ (List.mem_append_right _ (h))) hown E hh (by decide) (zC_obj (q := 66) rfl) rfl 0 (by decide) (hts (.fieldLink RX7 7 "TownBandModel" "state" "[I") (List.mem_cons_of_mem _ (List.mem_append_left _ (List.mem_of_getElem? (i := 0) rfl)))) rfl dX7_puts_7 ?_
    refine lv_iload_n hx hb dX7_puts_10 rfl (lv_at hl 2 rfl) ?_
    obtain ⟨h_v2, hf⟩ := z_if hf
    obtain ⟨v3, e_v3, hf⟩ := z_lt hf
    refine z_ialdM hx hb E hh (by decide) (by decide) h_v2 e_v3 dX7_puts_11 ?_
    refine lv_iload hx hb dX7_puts_12 (lv_at hl 4 rfl) ?_
    refine lv_iadd hx hb dX7_puts_14 ?_
    refine lv_istore (lv' := [(5, .int (v3 + x4)), (0, .ref (g.2.2 66)), (1, .int x1), (2, .int x2), (3, .int x3), (4, .int x4)]) hx hb dX7_puts_15 hl (by decide) rfl (fun ls hl => ?_)
    refine lv_aload_n hx hb dX7_puts_17 rfl (lv_at hl 1 rfl) ?_
    refine z_get (v := .ref (g.2.2 55)) hx hb hts (fun w h => List.mem_cons_of_mem _ (List.mem_append_right _ (h))) hown E hh (by decide) (zC_obj (q := 66) rfl) rfl 0 (by decide) (hts (.fieldLink RX7 7 "TownBandModel" "state" "[I") (List.mem_cons_of_mem _ (List.mem_append_left _ (List.mem_of_getElem? (i := 0) rfl)))) rfl dX7_puts_18 ?_
    refine lv_iload_n hx hb dX7_puts_21 rfl (lv_at hl 3 rfl) ?_
    refine lv_iload_n hx hb dX7_puts_22 rfl (lv_at hl 4 rfl) ?_
    refine lv_iload hx hb dX7_puts_23 (lv_at hl 5 rfl) ?_
    refine lv_isub hx hb dX7_puts_25 ?_
    obtain ⟨h_v4, hf⟩ := z_if hf
    obtain ⟨τ5, e_τ5, hf⟩ := z_lt hf
    refine z_iastM hx hb E hh (by decide) (by decide) h_v4 e_τ5 dX7_puts_26 (fun H locs hh => ?_)
    refine lv_iload hx hb dX7_puts_27 (lv_at hl 0 rfl) ?_
    have hf := Option.some.inj hf
    subst hf
    exact z_iretM hx hb hr hlocks hh dX7_puts_29
  · have hf := z_ip hf c_v1
    refine lv_iconst (v := (-1)) hx hb dX7_puts_4 (by decide) ?_
    have hf := Option.some.inj hf
    subst hf
    exact z_iretM hx hb hr hlocks hh dX7_puts_5
/-! ===== X7_alter ===== -/
theorem hdX7_alter : yX7_alter.cls = RX7 ∧ yX7_alter.cls ≠ "java/lang/invoke/MethodHandle" ∧ yX7_alter.cls ≠ "java/lang/invoke/VarHandle" ∧ (parseMethodDescriptor yX7_alter.desc).map (fun d => d.parameters.length) = some 3 := by decide +kernel
def PX7_alter_76 (p : Program) (l : Launch) (e : Env) (s : State) (m : MethodId) (args : Array Value) (below : List Frame) (meth : Method) (c : Code) (g : zG) (A : Nat → Prop) (σ : zS) (res : Int32 × zS) (f : Int32 → Int32 → Int32 → Int32 → zS → Option (Int32 × zS)) : Prop := ∀ (x1 : Int32) (x2 : Int32) (x3 : Int32) (s0 : Int32) (τ : zS) (H : Heap) (locs : List Loc) (ls : Array Slot), f x1 x2 x3 s0 τ = some res → zW g A σ τ s H locs → lv_has ls 6 [(0, .ref (g.2.2 66)), (1, .int x1), (2, .int x2), (3, .int x3)] → W p l e (zR 3) s m args below meth c H locs 0 0 (MQ below (zPi g A σ res) args s 0 0 A) (F0 m 76 ls [.int s0, .ref (g.2.2 66)])
def PX7_alter_75 (p : Program) (l : Launch) (e : Env) (s : State) (m : MethodId) (args : Array Value) (below : List Frame) (meth : Method) (c : Code) (g : zG) (A : Nat → Prop) (σ : zS) (res : Int32 × zS) (f : Int32 → Int32 → Int32 → zS → Option (Int32 × zS)) : Prop := ∀ (x1 : Int32) (x2 : Int32) (x3 : Int32) (τ : zS) (H : Heap) (locs : List Loc) (ls : Array Slot), f x1 x2 x3 τ = some res → zW g A σ τ s H locs → lv_has ls 6 [(0, .ref (g.2.2 66)), (1, .int x1), (2, .int x2), (3, .int x3)] → W p l e (zR 3) s m args below meth c H locs 0 0 (MQ below (zPi g A σ res) args s 0 0 A) (F0 m 75 ls [.ref (g.2.2 66)])
def PX7_alter_55 (p : Program) (l : Launch) (e : Env) (s : State) (m : MethodId) (args : Array Value) (below : List Frame) (meth : Method) (c : Code) (g : zG) (A : Nat → Prop) (σ : zS) (res : Int32 × zS) (f : Int32 → Int32 → Int32 → Int32 → zS → Option (Int32 × zS)) : Prop := ∀ (x1 : Int32) (x2 : Int32) (x3 : Int32) (s0 : Int32) (τ : zS) (H : Heap) (locs : List Loc) (ls : Array Slot), f x1 x2 x3 s0 τ = some res → zW g A σ τ s H locs → lv_has ls 6 [(0, .ref (g.2.2 66)), (1, .int x1), (2, .int x2), (3, .int x3)] → W p l e (zR 3) s m args below meth c H locs 0 0 (MQ below (zPi g A σ res) args s 0 0 A) (F0 m 55 ls [.int s0])
def PX7_alter_54 (p : Program) (l : Launch) (e : Env) (s : State) (m : MethodId) (args : Array Value) (below : List Frame) (meth : Method) (c : Code) (g : zG) (A : Nat → Prop) (σ : zS) (res : Int32 × zS) (f : Int32 → Int32 → Int32 → zS → Option (Int32 × zS)) : Prop := ∀ (x1 : Int32) (x2 : Int32) (x3 : Int32) (τ : zS) (H : Heap) (locs : List Loc) (ls : Array Slot), f x1 x2 x3 τ = some res → zW g A σ τ s H locs → lv_has ls 6 [(0, .ref (g.2.2 66)), (1, .int x1), (2, .int x2), (3, .int x3)] → W p l e (zR 3) s m args below meth c H locs 0 0 (MQ below (zPi g A σ res) args s 0 0 A) (F0 m 54 ls [])
def fX7_alter_76 (N : Nat) (x1 : Int32) (x2 : Int32) (x3 : Int32) (s0 : Int32) (τ : zS) : Option (Int32 × zS) :=
  (fX7_puts N τ s0 (((nI 5) * x2) + x1) x3 (nI 0)).bind fun q1 =>
  if q1.1 = (-1) then
    some (q1.1, q1.2)
  else
    (fX7_standsOn N q1.2 (nI 0)).bind fun q3 =>
    if q3 = 0 then
      if zin (((nI 5) * x2) + x1) (zlen 55) then
      zlet (zpa q1.2 55 (upd (q1.2.2 55) (((nI 5) * x2) + x1).toNatClampNeg q1.1)) fun τ6 =>
      some ((-2), τ6)
      else none
    else
      some (q1.1, q1.2)
set_option maxRecDepth 100000 in
set_option maxHeartbeats 4000000 in
theorem hX7_alter_76 {p : Program} {l : Launch} {e : Env} {s : State} {m : MethodId} {args : Array Value} {below : List Frame} {meth : Method} {c : Code} {g : zG} {A : Nat → Prop} {σ : zS} {res : Int32 × zS} (C : zCx p s m args meth c cX7_alter (some .int) wsX7_alter RX7 6) (E : zE g A s) (N : Nat) : PX7_alter_76 p l e s m args below meth c g A σ res (fX7_alter_76 N) := by
  obtain ⟨hx, hb, hr, hml, hown, hts, hlocks⟩ := id C
  intro x1 x2 x3 s0 τ H locs ls hf hh hl
  unfold fX7_alter_76 at hf
  refine lv_iconst (v := (nI 5)) hx hb dX7_alter_76 (by decide) ?_
  refine lv_iload_n hx hb dX7_alter_77 rfl (lv_at hl 2 rfl) ?_
  refine lv_imul hx hb dX7_alter_78 ?_
  refine lv_iload_n hx hb dX7_alter_79 rfl (lv_at hl 1 rfl) ?_
  refine lv_iadd hx hb dX7_alter_80 ?_
  refine lv_iload_n hx hb dX7_alter_81 rfl (lv_at hl 3 rfl) ?_
  refine lv_iconst (v := (nI 0)) hx hb dX7_alter_82 (by decide) ?_
  obtain ⟨q1, h_q1, hf⟩ := z_bd hf
  refine z_mi (va_runV (As := [.int s0, .int (((nI 5) * x2) + x1), .int x3, .int (nI 0)]) (rest := []) ⟨hx, hb, hml, hown, hts⟩ (zcX7_puts l g A σ τ N s0 (((nI 5) * x2) + x1) x3 (nI 0) h_q1) (cwV 4 hts gX7_alter_X7_puts rfl rfl rfl hdX7_puts ⟨by decide, by decide⟩) (z_preV E hh (by decide) (zC_obj (q := 66) rfl) rfl) rfl rfl hl.1 rfl (lv_room (Nat.le_of_ble_eq_true rfl)) dX7_alter_83 ⟨Nat.le_refl _, Nat.le_refl _⟩) hh (fun H locs hh => ?_)
  refine lv_istore (lv' := [(5, .int q1.1), (0, .ref (g.2.2 66)), (1, .int x1), (2, .int x2), (3, .int x3)]) hx hb dX7_alter_86 hl (by decide) rfl (fun ls hl => ?_)
  refine lv_iload hx hb dX7_alter_88 (lv_at hl 0 rfl) ?_
  refine lv_iconst (v := (-1)) hx hb dX7_alter_90 (by decide) ?_
  refine lv_icmp_eq (tgt := 117) hx hb dX7_alter_91 (by decide) (fun c_v2 => ?_) (fun c_v2 => ?_)
  · have hf := z_ip hf c_v2
    refine lv_iload hx hb dX7_alter_117 (lv_at hl 0 rfl) ?_
    have hf := Option.some.inj hf
    subst hf
    exact z_iretM hx hb hr hlocks hh dX7_alter_119
  · have hf := z_in hf c_v2
    refine lv_aload_n hx hb dX7_alter_94 rfl (lv_at hl 1 rfl) ?_
    refine lv_iconst (v := (nI 0)) hx hb dX7_alter_95 (by decide) ?_
    obtain ⟨q3, h_q3, hf⟩ := z_bd hf
    refine z_mi (va_runV (As := [.int (nI 0)]) (rest := []) ⟨hx, hb, hml, hown, hts⟩ (zcX7_standsOn l g A σ q1.2 N (nI 0) h_q3) (cwV 1 hts gX7_alter_X7_standsOn rfl rfl rfl hdX7_standsOn ⟨by decide, by decide⟩) (z_preV E hh (by decide) (zC_obj (q := 66) rfl) rfl) rfl rfl hl.1 rfl (lv_room (Nat.le_of_ble_eq_true rfl)) dX7_alter_96 ⟨Nat.le_refl _, Nat.le_refl _⟩) hh (fun H locs hh => ?_)
    refine lv_if_ne (tgt := 117) hx hb dX7_alter_99 (by decide) (fun c_v4 => ?_) (fun c_v4 => ?_)
    · have hf := z_in hf c_v4
      refine lv_iload hx hb dX7_alter_117 (lv_at hl 0 rfl) ?_
      have hf := Option.some.inj hf
      subst hf
      exact z_iretM hx hb hr hlocks hh dX7_alter_119
    · have hf := z_ip hf c_v4
      refine lv_aload_n hx hb dX7_alter_102 rfl (lv_at hl 1 rfl) ?_
      refine z_get (v := .ref (g.2.2 55)) hx hb hts (fun w h => List.mem_cons_of_mem _ (List.mem_append_right _ (h))) hown E hh (by decide) (zC_obj (q := 66) rfl) rfl 0 (by decide) (hts (.fieldLink RX7 7 "TownBandModel" "state" "[I") (List.mem_cons_of_mem _ (List.mem_append_left _ (List.mem_append_left _ (List.mem_of_getElem? (i := 2) rfl))))) rfl dX7_alter_103 ?_
      refine lv_iconst (v := (nI 5)) hx hb dX7_alter_106 (by decide) ?_
      refine lv_iload_n hx hb dX7_alter_107 rfl (lv_at hl 3 rfl) ?_
      refine lv_imul hx hb dX7_alter_108 ?_
      refine lv_iload_n hx hb dX7_alter_109 rfl (lv_at hl 2 rfl) ?_
      refine lv_iadd hx hb dX7_alter_110 ?_
      refine lv_iload hx hb dX7_alter_111 (lv_at hl 0 rfl) ?_
      obtain ⟨h_v5, hf⟩ := z_if hf
      obtain ⟨τ6, e_τ6, hf⟩ := z_lt hf
      refine z_iastM hx hb E hh (by decide) (by decide) h_v5 e_τ6 dX7_alter_113 (fun H locs hh => ?_)
      refine lv_bipush (v := (-2)) hx hb dX7_alter_114 (by decide) ?_
      have hf := Option.some.inj hf
      subst hf
      exact z_iretM hx hb hr hlocks hh dX7_alter_116
def fX7_alter_75 (N : Nat) (x1 : Int32) (x2 : Int32) (x3 : Int32) (τ : zS) : Option (Int32 × zS) :=
  (fX7_alter_76 N) x1 x2 x3 (nI 0) τ
set_option maxRecDepth 100000 in
set_option maxHeartbeats 4000000 in
theorem hX7_alter_75 {p : Program} {l : Launch} {e : Env} {s : State} {m : MethodId} {args : Array Value} {below : List Frame} {meth : Method} {c : Code} {g : zG} {A : Nat → Prop} {σ : zS} {res : Int32 × zS} (C : zCx p s m args meth c cX7_alter (some .int) wsX7_alter RX7 6) (E : zE g A s) (N : Nat) : PX7_alter_75 p l e s m args below meth c g A σ res (fX7_alter_75 N) := by
  obtain ⟨hx, hb, hr, hml, hown, hts, hlocks⟩ := id C
  intro x1 x2 x3 τ H locs ls hf hh hl
  unfold fX7_alter_75 at hf
  refine lv_iconst (v := (nI 0)) hx hb dX7_alter_75 (by decide) ?_
  exact (hX7_alter_76 C E N) x1 x2 x3 (nI 0) τ _ _ _ hf hh (lv_sub hl [0, 1, 2, 3] rfl)
def fX7_alter_55 (N : Nat) (x1 : Int32) (x2 : Int32) (x3 : Int32) (s0 : Int32) (τ : zS) : Option (Int32 × zS) :=
  (fX7_isBeast N τ x1).bind fun q1 =>
  if q1 = 0 then
    (fX7_alter_75 N) x1 x2 x3 τ
  else
    if s0 = 0 then
      (fX7_alter_75 N) x1 x2 x3 τ
    else
      (fX7_alter_76 N) x1 x2 x3 (nI 1) τ
set_option maxRecDepth 100000 in
set_option maxHeartbeats 4000000 in
theorem hX7_alter_55 {p : Program} {l : Launch} {e : Env} {s : State} {m : MethodId} {args : Array Value} {below : List Frame} {meth : Method} {c : Code} {g : zG} {A : Nat → Prop} {σ : zS} {res : Int32 × zS} (C : zCx p s m args meth c cX7_alter (some .int) wsX7_alter RX7 6) (E : zE g A s) (N : Nat) : PX7_alter_55 p l e s m args below meth c g A σ res (fX7_alter_55 N) := by
  obtain ⟨hx, hb, hr, hml, hown, hts, hlocks⟩ := id C
  intro x1 x2 x3 s0 τ H locs ls hf hh hl
  unfold fX7_alter_55 at hf
  refine lv_istore (lv' := [(4, .int s0), (0, .ref (g.2.2 66)), (1, .int x1), (2, .int x2), (3, .int x3)]) hx hb dX7_alter_55 hl (by decide) rfl (fun ls hl => ?_)
  refine lv_aload_n hx hb dX7_alter_57 rfl (lv_at hl 1 rfl) ?_
  refine lv_aload_n hx hb dX7_alter_58 rfl (lv_at hl 1 rfl) ?_
  refine lv_iload_n hx hb dX7_alter_59 rfl (lv_at hl 2 rfl) ?_
  obtain ⟨q1, h_q1, hf⟩ := z_bd hf
  refine z_mi (va_runV (As := [.int x1]) (rest := [.ref (g.2.2 66)]) ⟨hx, hb, hml, hown, hts⟩ (zcX7_isBeast l g A σ τ N x1 h_q1) (cwV 1 hts gX7_alter_X7_isBeast rfl rfl rfl hdX7_isBeast ⟨by decide, by decide⟩) (z_preV E hh (by decide) (zC_obj (q := 66) rfl) rfl) rfl rfl hl.1 rfl (lv_room (Nat.le_of_ble_eq_true rfl)) dX7_alter_60 ⟨Nat.le_refl _, Nat.le_refl _⟩) hh (fun H locs hh => ?_)
  refine lv_if_eq (tgt := 75) hx hb dX7_alter_63 (by decide) (fun c_v2 => ?_) (fun c_v2 => ?_)
  · have hf := z_ip hf c_v2
    exact (hX7_alter_75 C E N) x1 x2 x3 τ _ _ _ hf hh (lv_sub hl [1, 2, 3, 4] rfl)
  · have hf := z_in hf c_v2
    refine lv_iload hx hb dX7_alter_66 (lv_at hl 0 rfl) ?_
    refine lv_if_eq (tgt := 75) hx hb dX7_alter_68 (by decide) (fun c_v3 => ?_) (fun c_v3 => ?_)
    · have hf := z_ip hf c_v3
      exact (hX7_alter_75 C E N) x1 x2 x3 τ _ _ _ hf hh (lv_sub hl [1, 2, 3, 4] rfl)
    · have hf := z_in hf c_v3
      refine lv_iconst (v := (nI 1)) hx hb dX7_alter_71 (by decide) ?_
      refine lv_goto (tgt := 76) hx hb dX7_alter_72 (by decide) ?_
      exact (hX7_alter_76 C E N) x1 x2 x3 (nI 1) τ _ _ _ hf hh (lv_sub hl [1, 2, 3, 4] rfl)
def fX7_alter_54 (N : Nat) (x1 : Int32) (x2 : Int32) (x3 : Int32) (τ : zS) : Option (Int32 × zS) :=
  (fX7_alter_55 N) x1 x2 x3 (nI 0) τ
set_option maxRecDepth 100000 in
set_option maxHeartbeats 4000000 in
theorem hX7_alter_54 {p : Program} {l : Launch} {e : Env} {s : State} {m : MethodId} {args : Array Value} {below : List Frame} {meth : Method} {c : Code} {g : zG} {A : Nat → Prop} {σ : zS} {res : Int32 × zS} (C : zCx p s m args meth c cX7_alter (some .int) wsX7_alter RX7 6) (E : zE g A s) (N : Nat) : PX7_alter_54 p l e s m args below meth c g A σ res (fX7_alter_54 N) := by
  obtain ⟨hx, hb, hr, hml, hown, hts, hlocks⟩ := id C
  intro x1 x2 x3 τ H locs ls hf hh hl
  unfold fX7_alter_54 at hf
  refine lv_iconst (v := (nI 0)) hx hb dX7_alter_54 (by decide) ?_
  exact (hX7_alter_55 C E N) x1 x2 x3 (nI 0) τ _ _ _ hf hh (lv_sub hl [0, 1, 2, 3] rfl)
def fX7_alter (N : Nat) (τ : zS) (x1 : Int32) (x2 : Int32) (x3 : Int32) : Option (Int32 × zS) :=
  if x2 = 0 then
    (fX7_in N x3.toInt64 0 3).bind fun q7 =>
    (fX7_alter_55 N) x1 x2 x3 q7 τ
  else
    if x2 = (nI 1) then
      (fX7_in N x3.toInt64 1 9).bind fun q6 =>
      (fX7_alter_55 N) x1 x2 x3 q6 τ
    else
      if x2 = (nI 2) then
        (fX7_in N x3.toInt64 0 9).bind fun q4 =>
        if q4 = 0 then
          (fX7_alter_54 N) x1 x2 x3 τ
        else
          (fX7_alter_55 N) x1 x2 x3 (nI 1) τ
      else
        (fX7_alter_54 N) x1 x2 x3 τ
set_option maxRecDepth 100000 in
set_option maxHeartbeats 4000000 in
theorem zcX7_alter (l : Launch) (g : zG) (A : Nat → Prop) (σ τ : zS) (N : Nat) (x1 : Int32) (x2 : Int32) (x3 : Int32)  {res : Int32 × zS} (hf : fX7_alter N τ x1 x2 x3 = some res) : Met l yX7_alter wsX7_alter (zR 3) (zPc g A σ τ [.ref (g.2.2 66), .int x1, .int x2, .int x3]) (zPi g A σ res) 0 0 A := by
  refine z_met (cc := cX7_alter) (ret := (some .int)) (own := RX7) (by decide) rfl rfl _ (Nat.le_of_ble_eq_true rfl) ?_
  intro p e s m below meth c C E ls hl hh
  have hl : lv_has ls 6 [(0, .ref (g.2.2 66)), (1, .int x1), (2, .int x2), (3, .int x3)] := hl
  obtain ⟨hx, hb, hr, hml, hown, hts, hlocks⟩ := id C
  unfold fX7_alter at hf
  refine lv_iload_n hx hb dX7_alter_0 rfl (lv_at hl 2 rfl) ?_
  refine lv_if_ne (tgt := 16) hx hb dX7_alter_1 (by decide) (fun c_v1 => ?_) (fun c_v1 => ?_)
  · have hf := z_in hf c_v1
    refine lv_iload_n hx hb dX7_alter_16 rfl (lv_at hl 2 rfl) ?_
    refine lv_iconst (v := (nI 1)) hx hb dX7_alter_17 (by decide) ?_
    refine lv_icmp_ne (tgt := 33) hx hb dX7_alter_18 (by decide) (fun c_v2 => ?_) (fun c_v2 => ?_)
    · have hf := z_in hf c_v2
      refine lv_iload_n hx hb dX7_alter_33 rfl (lv_at hl 2 rfl) ?_
      refine lv_iconst (v := (nI 2)) hx hb dX7_alter_34 (by decide) ?_
      refine lv_icmp_ne (tgt := 54) hx hb dX7_alter_35 (by decide) (fun c_v3 => ?_) (fun c_v3 => ?_)
      · have hf := z_in hf c_v3
        exact (hX7_alter_54 C E N) x1 x2 x3 τ _ _ _ hf hh (lv_sub hl [0, 1, 2, 3] rfl)
      · have hf := z_ip hf c_v3
        refine lv_iload_n hx hb dX7_alter_38 rfl (lv_at hl 3 rfl) ?_
        refine lv_i2l hx hb dX7_alter_39 rfl ?_
        refine lv_lconst (v := 0) hx hb dX7_alter_40 (by decide) ?_
        refine lv_ldc2 (v := 9) hx hb hown (hts (.constantLong RX7 180 (9)) (List.mem_cons_of_mem _ (List.mem_append_left _ (List.mem_append_left _ (List.mem_of_getElem? (i := 1) rfl))))) dX7_alter_41 ?_
        obtain ⟨q4, h_q4, hf⟩ := z_bd hf
        refine z_mi (va_runS (As := [.long x3.toInt64, .long 0, .long 9]) (rest := []) ⟨hx, hb, hml, hown, hts⟩ (zcX7_in l g A σ τ N x3.toInt64 0 9 h_q4) (va_cwS 3 hts gX7_alter_X7_in rfl rfl rfl hdX7_in.2 ⟨by decide, by decide⟩) (z_preS E hh) rfl rfl hl.1 rfl (lv_room (Nat.le_of_ble_eq_true rfl)) dX7_alter_44 ⟨Nat.le_refl _, Nat.le_refl _⟩) hh (fun H locs hh => ?_)
        refine lv_if_eq (tgt := 54) hx hb dX7_alter_47 (by decide) (fun c_v5 => ?_) (fun c_v5 => ?_)
        · have hf := z_ip hf c_v5
          exact (hX7_alter_54 C E N) x1 x2 x3 τ _ _ _ hf hh (lv_sub hl [0, 1, 2, 3] rfl)
        · have hf := z_in hf c_v5
          refine lv_iconst (v := (nI 1)) hx hb dX7_alter_50 (by decide) ?_
          refine lv_goto (tgt := 55) hx hb dX7_alter_51 (by decide) ?_
          exact (hX7_alter_55 C E N) x1 x2 x3 (nI 1) τ _ _ _ hf hh (lv_sub hl [0, 1, 2, 3] rfl)
    · have hf := z_ip hf c_v2
      refine lv_iload_n hx hb dX7_alter_21 rfl (lv_at hl 3 rfl) ?_
      refine lv_i2l hx hb dX7_alter_22 rfl ?_
      refine lv_lconst (v := 1) hx hb dX7_alter_23 (by decide) ?_
      refine lv_ldc2 (v := 9) hx hb hown (hts (.constantLong RX7 180 (9)) (List.mem_cons_of_mem _ (List.mem_append_left _ (List.mem_append_left _ (List.mem_of_getElem? (i := 1) rfl))))) dX7_alter_24 ?_
      obtain ⟨q6, h_q6, hf⟩ := z_bd hf
      refine z_mi (va_runS (As := [.long x3.toInt64, .long 1, .long 9]) (rest := []) ⟨hx, hb, hml, hown, hts⟩ (zcX7_in l g A σ τ N x3.toInt64 1 9 h_q6) (va_cwS 3 hts gX7_alter_X7_in rfl rfl rfl hdX7_in.2 ⟨by decide, by decide⟩) (z_preS E hh) rfl rfl hl.1 rfl (lv_room (Nat.le_of_ble_eq_true rfl)) dX7_alter_27 ⟨Nat.le_refl _, Nat.le_refl _⟩) hh (fun H locs hh => ?_)
      refine lv_goto (tgt := 55) hx hb dX7_alter_30 (by decide) ?_
      exact (hX7_alter_55 C E N) x1 x2 x3 q6 τ _ _ _ hf hh (lv_sub hl [0, 1, 2, 3] rfl)
  · have hf := z_ip hf c_v1
    refine lv_iload_n hx hb dX7_alter_4 rfl (lv_at hl 3 rfl) ?_
    refine lv_i2l hx hb dX7_alter_5 rfl ?_
    refine lv_lconst (v := 0) hx hb dX7_alter_6 (by decide) ?_
    refine lv_ldc2 (v := 3) hx hb hown (hts (.constantLong RX7 178 (3)) (List.mem_cons_of_mem _ (List.mem_append_left _ (List.mem_append_left _ (List.mem_of_getElem? (i := 0) rfl))))) dX7_alter_7 ?_
    obtain ⟨q7, h_q7, hf⟩ := z_bd hf
    refine z_mi (va_runS (As := [.long x3.toInt64, .long 0, .long 3]) (rest := []) ⟨hx, hb, hml, hown, hts⟩ (zcX7_in l g A σ τ N x3.toInt64 0 3 h_q7) (va_cwS 3 hts gX7_alter_X7_in rfl rfl rfl hdX7_in.2 ⟨by decide, by decide⟩) (z_preS E hh) rfl rfl hl.1 rfl (lv_room (Nat.le_of_ble_eq_true rfl)) dX7_alter_10 ⟨Nat.le_refl _, Nat.le_refl _⟩) hh (fun H locs hh => ?_)
    refine lv_goto (tgt := 55) hx hb dX7_alter_13 (by decide) ?_
    exact (hX7_alter_55 C E N) x1 x2 x3 q7 τ _ _ _ hf hh (lv_sub hl [0, 1, 2, 3] rfl)
/-! ===== X7_steel ===== -/
theorem hdX7_steel : yX7_steel.cls = RX7 ∧ yX7_steel.cls ≠ "java/lang/invoke/MethodHandle" ∧ yX7_steel.cls ≠ "java/lang/invoke/VarHandle" ∧ (parseMethodDescriptor yX7_steel.desc).map (fun d => d.parameters.length) = some 2 := by decide +kernel
def PX7_steel_26 (p : Program) (l : Launch) (e : Env) (s : State) (m : MethodId) (args : Array Value) (below : List Frame) (meth : Method) (c : Code) (g : zG) (A : Nat → Prop) (σ : zS) (res : Int32 × zS) (f : Int32 → Int32 → Int32 → zS → Option (Int32 × zS)) : Prop := ∀ (x1 : Int32) (x2 : Int32) (s0 : Int32) (τ : zS) (H : Heap) (locs : List Loc) (ls : Array Slot), f x1 x2 s0 τ = some res → zW g A σ τ s H locs → lv_has ls 3 [(1, .int x1), (2, .int x2)] → W p l e (zR 2) s m args below meth c H locs 0 0 (MQ below (zPi g A σ res) args s 0 0 A) (F0 m 26 ls [.int s0, .ref (g.2.2 66)])
def PX7_steel_25 (p : Program) (l : Launch) (e : Env) (s : State) (m : MethodId) (args : Array Value) (below : List Frame) (meth : Method) (c : Code) (g : zG) (A : Nat → Prop) (σ : zS) (res : Int32 × zS) (f : Int32 → Int32 → zS → Option (Int32 × zS)) : Prop := ∀ (x1 : Int32) (x2 : Int32) (τ : zS) (H : Heap) (locs : List Loc) (ls : Array Slot), f x1 x2 τ = some res → zW g A σ τ s H locs → lv_has ls 3 [(1, .int x1), (2, .int x2)] → W p l e (zR 2) s m args below meth c H locs 0 0 (MQ below (zPi g A σ res) args s 0 0 A) (F0 m 25 ls [.ref (g.2.2 66)])
def fX7_steel_26 (N : Nat) (x1 : Int32) (x2 : Int32) (s0 : Int32) (τ : zS) : Option (Int32 × zS) :=
  (fX7_puts N τ s0 ((nI 15) + x1) x2 (nI 0)).bind fun q1 =>
  some (q1.1, q1.2)
set_option maxRecDepth 100000 in
set_option maxHeartbeats 4000000 in
theorem hX7_steel_26 {p : Program} {l : Launch} {e : Env} {s : State} {m : MethodId} {args : Array Value} {below : List Frame} {meth : Method} {c : Code} {g : zG} {A : Nat → Prop} {σ : zS} {res : Int32 × zS} (C : zCx p s m args meth c cX7_steel (some .int) wsX7_steel RX7 3) (E : zE g A s) (N : Nat) : PX7_steel_26 p l e s m args below meth c g A σ res (fX7_steel_26 N) := by
  obtain ⟨hx, hb, hr, hml, hown, hts, hlocks⟩ := id C
  intro x1 x2 s0 τ H locs ls hf hh hl
  unfold fX7_steel_26 at hf
  refine lv_bipush (v := (nI 15)) hx hb dX7_steel_26 (by decide) ?_
  refine lv_iload_n hx hb dX7_steel_28 rfl (lv_at hl 0 rfl) ?_
  refine lv_iadd hx hb dX7_steel_29 ?_
  refine lv_iload_n hx hb dX7_steel_30 rfl (lv_at hl 1 rfl) ?_
  refine lv_iconst (v := (nI 0)) hx hb dX7_steel_31 (by decide) ?_
  obtain ⟨q1, h_q1, hf⟩ := z_bd hf
  refine z_mi (va_runV (As := [.int s0, .int ((nI 15) + x1), .int x2, .int (nI 0)]) (rest := []) ⟨hx, hb, hml, hown, hts⟩ (zcX7_puts l g A σ τ N s0 ((nI 15) + x1) x2 (nI 0) h_q1) (cwV 4 hts gX7_steel_X7_puts rfl rfl rfl hdX7_puts ⟨by decide, by decide⟩) (z_preV E hh (by decide) (zC_obj (q := 66) rfl) rfl) rfl rfl hl.1 rfl (lv_room (Nat.le_of_ble_eq_true rfl)) dX7_steel_32 ⟨Nat.le_refl _, Nat.le_refl _⟩) hh (fun H locs hh => ?_)
  have hf := Option.some.inj hf
  subst hf
  exact z_iretM hx hb hr hlocks hh dX7_steel_35
def fX7_steel_25 (N : Nat) (x1 : Int32) (x2 : Int32) (τ : zS) : Option (Int32 × zS) :=
  (fX7_steel_26 N) x1 x2 (nI 0) τ
set_option maxRecDepth 100000 in
set_option maxHeartbeats 4000000 in
theorem hX7_steel_25 {p : Program} {l : Launch} {e : Env} {s : State} {m : MethodId} {args : Array Value} {below : List Frame} {meth : Method} {c : Code} {g : zG} {A : Nat → Prop} {σ : zS} {res : Int32 × zS} (C : zCx p s m args meth c cX7_steel (some .int) wsX7_steel RX7 3) (E : zE g A s) (N : Nat) : PX7_steel_25 p l e s m args below meth c g A σ res (fX7_steel_25 N) := by
  obtain ⟨hx, hb, hr, hml, hown, hts, hlocks⟩ := id C
  intro x1 x2 τ H locs ls hf hh hl
  unfold fX7_steel_25 at hf
  refine lv_iconst (v := (nI 0)) hx hb dX7_steel_25 (by decide) ?_
  exact (hX7_steel_26 C E N) x1 x2 (nI 0) τ _ _ _ hf hh (lv_sub hl [0, 1] rfl)
def fX7_steel (N : Nat) (τ : zS) (x1 : Int32) (x2 : Int32) : Option (Int32 × zS) :=
  (fX7_isRobber N τ x1).bind fun q1 =>
  if q1 = 0 then
    (fX7_steel_25 N) x1 x2 τ
  else
    (fX7_in N x2.toInt64 0 99).bind fun q3 =>
    if q3 = 0 then
      (fX7_steel_25 N) x1 x2 τ
    else
      (fX7_steel_26 N) x1 x2 (nI 1) τ
set_option maxRecDepth 100000 in
set_option maxHeartbeats 4000000 in
theorem zcX7_steel (l : Launch) (g : zG) (A : Nat → Prop) (σ τ : zS) (N : Nat) (x1 : Int32) (x2 : Int32)  {res : Int32 × zS} (hf : fX7_steel N τ x1 x2 = some res) : Met l yX7_steel wsX7_steel (zR 2) (zPc g A σ τ [.ref (g.2.2 66), .int x1, .int x2]) (zPi g A σ res) 0 0 A := by
  refine z_met (cc := cX7_steel) (ret := (some .int)) (own := RX7) (by decide) rfl rfl _ (Nat.le_of_ble_eq_true rfl) ?_
  intro p e s m below meth c C E ls hl hh
  have hl : lv_has ls 3 [(0, .ref (g.2.2 66)), (1, .int x1), (2, .int x2)] := hl
  obtain ⟨hx, hb, hr, hml, hown, hts, hlocks⟩ := id C
  unfold fX7_steel at hf
  refine lv_aload_n hx hb dX7_steel_0 rfl (lv_at hl 0 rfl) ?_
  refine lv_aload_n hx hb dX7_steel_1 rfl (lv_at hl 0 rfl) ?_
  refine lv_iload_n hx hb dX7_steel_2 rfl (lv_at hl 1 rfl) ?_
  obtain ⟨q1, h_q1, hf⟩ := z_bd hf
  refine z_mi (va_runV (As := [.int x1]) (rest := [.ref (g.2.2 66)]) ⟨hx, hb, hml, hown, hts⟩ (zcX7_isRobber l g A σ τ N x1 h_q1) (cwV 1 hts gX7_steel_X7_isRobber rfl rfl rfl hdX7_isRobber ⟨by decide, by decide⟩) (z_preV E hh (by decide) (zC_obj (q := 66) rfl) rfl) rfl rfl hl.1 rfl (lv_room (Nat.le_of_ble_eq_true rfl)) dX7_steel_3 ⟨Nat.le_refl _, Nat.le_refl _⟩) hh (fun H locs hh => ?_)
  refine lv_if_eq (tgt := 25) hx hb dX7_steel_6 (by decide) (fun c_v2 => ?_) (fun c_v2 => ?_)
  · have hf := z_ip hf c_v2
    exact (hX7_steel_25 C E N) x1 x2 τ _ _ _ hf hh (lv_sub hl [1, 2] rfl)
  · have hf := z_in hf c_v2
    refine lv_iload_n hx hb dX7_steel_9 rfl (lv_at hl 2 rfl) ?_
    refine lv_i2l hx hb dX7_steel_10 rfl ?_
    refine lv_lconst (v := 0) hx hb dX7_steel_11 (by decide) ?_
    refine lv_ldc2 (v := 99) hx hb hown (hts (.constantLong RX7 186 (99)) (List.mem_cons_of_mem _ (List.mem_append_left _ (List.mem_of_getElem? (i := 0) rfl)))) dX7_steel_12 ?_
    obtain ⟨q3, h_q3, hf⟩ := z_bd hf
    refine z_mi (va_runS (As := [.long x2.toInt64, .long 0, .long 99]) (rest := [.ref (g.2.2 66)]) ⟨hx, hb, hml, hown, hts⟩ (zcX7_in l g A σ τ N x2.toInt64 0 99 h_q3) (va_cwS 3 hts gX7_steel_X7_in rfl rfl rfl hdX7_in.2 ⟨by decide, by decide⟩) (z_preS E hh) rfl rfl hl.1 rfl (lv_room (Nat.le_of_ble_eq_true rfl)) dX7_steel_15 ⟨Nat.le_refl _, Nat.le_refl _⟩) hh (fun H locs hh => ?_)
    refine lv_if_eq (tgt := 25) hx hb dX7_steel_18 (by decide) (fun c_v4 => ?_) (fun c_v4 => ?_)
    · have hf := z_ip hf c_v4
      exact (hX7_steel_25 C E N) x1 x2 τ _ _ _ hf hh (lv_sub hl [1, 2] rfl)
    · have hf := z_in hf c_v4
      refine lv_iconst (v := (nI 1)) hx hb dX7_steel_21 (by decide) ?_
      refine lv_goto (tgt := 26) hx hb dX7_steel_22 (by decide) ?_
      exact (hX7_steel_26 C E N) x1 x2 (nI 1) τ _ _ _ hf hh (lv_sub hl [1, 2] rfl)
/-! ===== X7_scout ===== -/
theorem hdX7_scout : yX7_scout.cls = RX7 ∧ yX7_scout.cls ≠ "java/lang/invoke/MethodHandle" ∧ yX7_scout.cls ≠ "java/lang/invoke/VarHandle" ∧ (parseMethodDescriptor yX7_scout.desc).map (fun d => d.parameters.length) = some 1 := by decide +kernel
def fX7_scout (N : Nat) (τ : zS) (x1 : Int32) : Option (Int32 × zS) :=
  (fX7_in N x1.toInt64 0 40).bind fun q1 =>
  (fX7_puts N τ q1 (nI 30) x1 (nI 5)).bind fun q2 =>
  some (q2.1, q2.2)
set_option maxRecDepth 100000 in
set_option maxHeartbeats 4000000 in
theorem zcX7_scout (l : Launch) (g : zG) (A : Nat → Prop) (σ τ : zS) (N : Nat) (x1 : Int32)  {res : Int32 × zS} (hf : fX7_scout N τ x1 = some res) : Met l yX7_scout wsX7_scout (zR 1) (zPc g A σ τ [.ref (g.2.2 66), .int x1]) (zPi g A σ res) 0 0 A := by
  refine z_met (cc := cX7_scout) (ret := (some .int)) (own := RX7) (by decide) rfl rfl _ (Nat.le_of_ble_eq_true rfl) ?_
  intro p e s m below meth c C E ls hl hh
  have hl : lv_has ls 2 [(0, .ref (g.2.2 66)), (1, .int x1)] := hl
  obtain ⟨hx, hb, hr, hml, hown, hts, hlocks⟩ := id C
  unfold fX7_scout at hf
  refine lv_aload_n hx hb dX7_scout_0 rfl (lv_at hl 0 rfl) ?_
  refine lv_iload_n hx hb dX7_scout_1 rfl (lv_at hl 1 rfl) ?_
  refine lv_i2l hx hb dX7_scout_2 rfl ?_
  refine lv_lconst (v := 0) hx hb dX7_scout_3 (by decide) ?_
  refine lv_ldc2 (v := 40) hx hb hown (hts (.constantLong RX7 188 (40)) (List.mem_cons_of_mem _ (List.mem_append_left _ (List.mem_of_getElem? (i := 0) rfl)))) dX7_scout_4 ?_
  obtain ⟨q1, h_q1, hf⟩ := z_bd hf
  refine z_mi (va_runS (As := [.long x1.toInt64, .long 0, .long 40]) (rest := [.ref (g.2.2 66)]) ⟨hx, hb, hml, hown, hts⟩ (zcX7_in l g A σ τ N x1.toInt64 0 40 h_q1) (va_cwS 3 hts gX7_scout_X7_in rfl rfl rfl hdX7_in.2 ⟨by decide, by decide⟩) (z_preS E hh) rfl rfl hl.1 rfl (lv_room (Nat.le_of_ble_eq_true rfl)) dX7_scout_7 ⟨Nat.le_refl _, Nat.le_refl _⟩) hh (fun H locs hh => ?_)
  refine lv_bipush (v := (nI 30)) hx hb dX7_scout_10 (by decide) ?_
  refine lv_iload_n hx hb dX7_scout_12 rfl (lv_at hl 1 rfl) ?_
  refine lv_iconst (v := (nI 5)) hx hb dX7_scout_13 (by decide) ?_
  obtain ⟨q2, h_q2, hf⟩ := z_bd hf
  refine z_mi (va_runV (As := [.int q1, .int (nI 30), .int x1, .int (nI 5)]) (rest := []) ⟨hx, hb, hml, hown, hts⟩ (zcX7_puts l g A σ τ N q1 (nI 30) x1 (nI 5) h_q2) (cwV 4 hts gX7_scout_X7_puts rfl rfl rfl hdX7_puts ⟨by decide, by decide⟩) (z_preV E hh (by decide) (zC_obj (q := 66) rfl) rfl) rfl rfl hl.1 rfl (lv_room (Nat.le_of_ble_eq_true rfl)) dX7_scout_14 ⟨Nat.le_refl _, Nat.le_refl _⟩) hh (fun H locs hh => ?_)
  have hf := Option.some.inj hf
  subst hf
  exact z_iretM hx hb hr hlocks hh dX7_scout_17
/-! ===== X7_climbs ===== -/
theorem hdX7_climbs : yX7_climbs.cls = RX7 ∧ yX7_climbs.cls ≠ "java/lang/invoke/MethodHandle" ∧ yX7_climbs.cls ≠ "java/lang/invoke/VarHandle" ∧ (parseMethodDescriptor yX7_climbs.desc).map (fun d => d.parameters.length) = some 1 := by decide +kernel
def fX7_climbs (N : Nat) (τ : zS) (x1 : Int32) : Option (Int32 × zS) :=
  (fX7_isBeast N τ x1).bind fun q1 =>
  if q1 = 0 then
    some ((-1), τ)
  else
    (fX7_placeOf N τ x1).bind fun q3 =>
    if q3 = (-4) then
      if zin (nI 24) (zlen 55) then
      zlet (τ.2 55 (nI 24).toNatClampNeg) fun v6 =>
      if zin ((nI 19) + v6) (zlen 55) then
      zlet (zpa τ 55 (upd (τ.2 55) ((nI 19) + v6).toNatClampNeg x1)) fun τ8 =>
      if zin (nI 24) (zlen 55) then
      zlet (τ8.2 55 (nI 24).toNatClampNeg) fun v10 =>
      if zin (nI 24) (zlen 55) then
      zlet (zpa τ8 55 (upd (τ8.2 55) (nI 24).toNatClampNeg (v10 + (nI 1)))) fun τ12 =>
      (fX7_standsOn N τ12 (nI 0)).bind fun q13 =>
      if q13 = 0 then
        if zin (nI 24) (zlen 55) then
        zlet (τ12.2 55 (nI 24).toNatClampNeg) fun v18 =>
        if zin (nI 24) (zlen 55) then
        zlet (zpa τ12 55 (upd (τ12.2 55) (nI 24).toNatClampNeg (v18 - (nI 1)))) fun τ20 =>
        some ((-2), τ20)
        else none
        else none
      else
        if zin (nI 24) (zlen 55) then
        zlet (τ12.2 55 (nI 24).toNatClampNeg) fun v16 =>
        some (v16, τ12)
        else none
      else none
      else none
      else none
      else none
    else
      some ((-2), τ)
set_option maxRecDepth 100000 in
set_option maxHeartbeats 4000000 in
theorem zcX7_climbs (l : Launch) (g : zG) (A : Nat → Prop) (σ τ : zS) (N : Nat) (x1 : Int32)  {res : Int32 × zS} (hf : fX7_climbs N τ x1 = some res) : Met l yX7_climbs wsX7_climbs (zR 3) (zPc g A σ τ [.ref (g.2.2 66), .int x1]) (zPi g A σ res) 0 0 A := by
  refine z_met (cc := cX7_climbs) (ret := (some .int)) (own := RX7) (by decide) rfl rfl _ (Nat.le_of_ble_eq_true rfl) ?_
  intro p e s m below meth c C E ls hl hh
  have hl : lv_has ls 2 [(0, .ref (g.2.2 66)), (1, .int x1)] := hl
  obtain ⟨hx, hb, hr, hml, hown, hts, hlocks⟩ := id C
  unfold fX7_climbs at hf
  refine lv_aload_n hx hb dX7_climbs_0 rfl (lv_at hl 0 rfl) ?_
  refine lv_iload_n hx hb dX7_climbs_1 rfl (lv_at hl 1 rfl) ?_
  obtain ⟨q1, h_q1, hf⟩ := z_bd hf
  refine z_mi (va_runV (As := [.int x1]) (rest := []) ⟨hx, hb, hml, hown, hts⟩ (zcX7_isBeast l g A σ τ N x1 h_q1) (cwV 1 hts gX7_climbs_X7_isBeast rfl rfl rfl hdX7_isBeast ⟨by decide, by decide⟩) (z_preV E hh (by decide) (zC_obj (q := 66) rfl) rfl) rfl rfl hl.1 rfl (lv_room (Nat.le_of_ble_eq_true rfl)) dX7_climbs_2 ⟨Nat.le_refl _, Nat.le_refl _⟩) hh (fun H locs hh => ?_)
  refine lv_if_ne (tgt := 10) hx hb dX7_climbs_5 (by decide) (fun c_v2 => ?_) (fun c_v2 => ?_)
  · have hf := z_in hf c_v2
    refine lv_aload_n hx hb dX7_climbs_10 rfl (lv_at hl 0 rfl) ?_
    refine lv_iload_n hx hb dX7_climbs_11 rfl (lv_at hl 1 rfl) ?_
    obtain ⟨q3, h_q3, hf⟩ := z_bd hf
    refine z_mi (va_runV (As := [.int x1]) (rest := []) ⟨hx, hb, hml, hown, hts⟩ (zcX7_placeOf l g A σ τ N x1 h_q3) (cwV 1 hts gX7_climbs_X7_placeOf rfl rfl rfl hdX7_placeOf ⟨by decide, by decide⟩) (z_preV E hh (by decide) (zC_obj (q := 66) rfl) rfl) rfl rfl hl.1 rfl (lv_room (Nat.le_of_ble_eq_true rfl)) dX7_climbs_12 ⟨Nat.le_refl _, Nat.le_refl _⟩) hh (fun H locs hh => ?_)
    refine lv_bipush (v := (-4)) hx hb dX7_climbs_15 (by decide) ?_
    refine lv_icmp_eq (tgt := 23) hx hb dX7_climbs_17 (by decide) (fun c_v4 => ?_) (fun c_v4 => ?_)
    · have hf := z_ip hf c_v4
      refine lv_aload_n hx hb dX7_climbs_23 rfl (lv_at hl 0 rfl) ?_
      refine z_get (v := .ref (g.2.2 55)) hx hb hts (fun w h => List.mem_cons_of_mem _ (List.mem_append_right _ (h))) hown E hh (by decide) (zC_obj (q := 66) rfl) rfl 0 (by decide) (hts (.fieldLink RX7 7 "TownBandModel" "state" "[I") (List.mem_cons_of_mem _ (List.mem_append_left _ (List.mem_append_left _ (List.mem_of_getElem? (i := 0) rfl))))) rfl dX7_climbs_24 ?_
      refine lv_bipush (v := (nI 19)) hx hb dX7_climbs_27 (by decide) ?_
      refine lv_aload_n hx hb dX7_climbs_29 rfl (lv_at hl 0 rfl) ?_
      refine z_get (v := .ref (g.2.2 55)) hx hb hts (fun w h => List.mem_cons_of_mem _ (List.mem_append_right _ (h))) hown E hh (by decide) (zC_obj (q := 66) rfl) rfl 0 (by decide) (hts (.fieldLink RX7 7 "TownBandModel" "state" "[I") (List.mem_cons_of_mem _ (List.mem_append_left _ (List.mem_append_left _ (List.mem_of_getElem? (i := 0) rfl))))) rfl dX7_climbs_30 ?_
      refine lv_bipush (v := (nI 24)) hx hb dX7_climbs_33 (by decide) ?_
      obtain ⟨h_v5, hf⟩ := z_if hf
      obtain ⟨v6, e_v6, hf⟩ := z_lt hf
      refine z_ialdM hx hb E hh (by decide) (by decide) h_v5 e_v6 dX7_climbs_35 ?_
      refine lv_iadd hx hb dX7_climbs_36 ?_
      refine lv_iload_n hx hb dX7_climbs_37 rfl (lv_at hl 1 rfl) ?_
      obtain ⟨h_v7, hf⟩ := z_if hf
      obtain ⟨τ8, e_τ8, hf⟩ := z_lt hf
      refine z_iastM hx hb E hh (by decide) (by decide) h_v7 e_τ8 dX7_climbs_38 (fun H locs hh => ?_)
      refine lv_aload_n hx hb dX7_climbs_39 rfl (lv_at hl 0 rfl) ?_
      refine z_get (v := .ref (g.2.2 55)) hx hb hts (fun w h => List.mem_cons_of_mem _ (List.mem_append_right _ (h))) hown E hh (by decide) (zC_obj (q := 66) rfl) rfl 0 (by decide) (hts (.fieldLink RX7 7 "TownBandModel" "state" "[I") (List.mem_cons_of_mem _ (List.mem_append_left _ (List.mem_append_left _ (List.mem_of_getElem? (i := 0) rfl))))) rfl dX7_climbs_40 ?_
      refine lv_bipush (v := (nI 24)) hx hb dX7_climbs_43 (by decide) ?_
      refine lv_dup2_11 hx hb dX7_climbs_45 rfl rfl ?_
      obtain ⟨h_v9, hf⟩ := z_if hf
      obtain ⟨v10, e_v10, hf⟩ := z_lt hf
      refine z_ialdM hx hb E hh (by decide) (by decide) h_v9 e_v10 dX7_climbs_46 ?_
      refine lv_iconst (v := (nI 1)) hx hb dX7_climbs_47 (by decide) ?_
      refine lv_iadd hx hb dX7_climbs_48 ?_
      obtain ⟨h_v11, hf⟩ := z_if hf
      obtain ⟨τ12, e_τ12, hf⟩ := z_lt hf
      refine z_iastM hx hb E hh (by decide) (by decide) h_v11 e_τ12 dX7_climbs_49 (fun H locs hh => ?_)
      refine lv_aload_n hx hb dX7_climbs_50 rfl (lv_at hl 0 rfl) ?_
      refine lv_iconst (v := (nI 0)) hx hb dX7_climbs_51 (by decide) ?_
      obtain ⟨q13, h_q13, hf⟩ := z_bd hf
      refine z_mi (va_runV (As := [.int (nI 0)]) (rest := []) ⟨hx, hb, hml, hown, hts⟩ (zcX7_standsOn l g A σ τ12 N (nI 0) h_q13) (cwV 1 hts gX7_climbs_X7_standsOn rfl rfl rfl hdX7_standsOn ⟨by decide, by decide⟩) (z_preV E hh (by decide) (zC_obj (q := 66) rfl) rfl) rfl rfl hl.1 rfl (lv_room (Nat.le_of_ble_eq_true rfl)) dX7_climbs_52 ⟨Nat.le_refl _, Nat.le_refl _⟩) hh (fun H locs hh => ?_)
      refine lv_if_ne (tgt := 72) hx hb dX7_climbs_55 (by decide) (fun c_v14 => ?_) (fun c_v14 => ?_)
      · have hf := z_in hf c_v14
        refine lv_aload_n hx hb dX7_climbs_72 rfl (lv_at hl 0 rfl) ?_
        refine z_get (v := .ref (g.2.2 55)) hx hb hts (fun w h => List.mem_cons_of_mem _ (List.mem_append_right _ (h))) hown E hh (by decide) (zC_obj (q := 66) rfl) rfl 0 (by decide) (hts (.fieldLink RX7 7 "TownBandModel" "state" "[I") (List.mem_cons_of_mem _ (List.mem_append_left _ (List.mem_append_left _ (List.mem_of_getElem? (i := 0) rfl))))) rfl dX7_climbs_73 ?_
        refine lv_bipush (v := (nI 24)) hx hb dX7_climbs_76 (by decide) ?_
        obtain ⟨h_v15, hf⟩ := z_if hf
        obtain ⟨v16, e_v16, hf⟩ := z_lt hf
        refine z_ialdM hx hb E hh (by decide) (by decide) h_v15 e_v16 dX7_climbs_78 ?_
        have hf := Option.some.inj hf
        subst hf
        exact z_iretM hx hb hr hlocks hh dX7_climbs_79
      · have hf := z_ip hf c_v14
        refine lv_aload_n hx hb dX7_climbs_58 rfl (lv_at hl 0 rfl) ?_
        refine z_get (v := .ref (g.2.2 55)) hx hb hts (fun w h => List.mem_cons_of_mem _ (List.mem_append_right _ (h))) hown E hh (by decide) (zC_obj (q := 66) rfl) rfl 0 (by decide) (hts (.fieldLink RX7 7 "TownBandModel" "state" "[I") (List.mem_cons_of_mem _ (List.mem_append_left _ (List.mem_append_left _ (List.mem_of_getElem? (i := 0) rfl))))) rfl dX7_climbs_59 ?_
        refine lv_bipush (v := (nI 24)) hx hb dX7_climbs_62 (by decide) ?_
        refine lv_dup2_11 hx hb dX7_climbs_64 rfl rfl ?_
        obtain ⟨h_v17, hf⟩ := z_if hf
        obtain ⟨v18, e_v18, hf⟩ := z_lt hf
        refine z_ialdM hx hb E hh (by decide) (by decide) h_v17 e_v18 dX7_climbs_65 ?_
        refine lv_iconst (v := (nI 1)) hx hb dX7_climbs_66 (by decide) ?_
        refine lv_isub hx hb dX7_climbs_67 ?_
        obtain ⟨h_v19, hf⟩ := z_if hf
        obtain ⟨τ20, e_τ20, hf⟩ := z_lt hf
        refine z_iastM hx hb E hh (by decide) (by decide) h_v19 e_τ20 dX7_climbs_68 (fun H locs hh => ?_)
        refine lv_bipush (v := (-2)) hx hb dX7_climbs_69 (by decide) ?_
        have hf := Option.some.inj hf
        subst hf
        exact z_iretM hx hb hr hlocks hh dX7_climbs_71
    · have hf := z_in hf c_v4
      refine lv_bipush (v := (-2)) hx hb dX7_climbs_20 (by decide) ?_
      have hf := Option.some.inj hf
      subst hf
      exact z_iretM hx hb hr hlocks hh dX7_climbs_22
  · have hf := z_ip hf c_v2
    refine lv_iconst (v := (-1)) hx hb dX7_climbs_8 (by decide) ?_
    have hf := Option.some.inj hf
    subst hf
    exact z_iretM hx hb hr hlocks hh dX7_climbs_9
/-! ===== X7_climb ===== -/
theorem hdX7_climb : yX7_climb.cls = RX7 ∧ yX7_climb.cls ≠ "java/lang/invoke/MethodHandle" ∧ yX7_climb.cls ≠ "java/lang/invoke/VarHandle" ∧ (parseMethodDescriptor yX7_climb.desc).map (fun d => d.parameters.length) = some 1 := by decide +kernel
def fX7_climb (N : Nat) (τ : zS) (x1 : Int32) : Option (Int32 × zS) :=
  (fX7_climbs N τ x1).bind fun q1 =>
  some (q1.1, q1.2)
set_option maxRecDepth 100000 in
set_option maxHeartbeats 4000000 in
theorem zcX7_climb (l : Launch) (g : zG) (A : Nat → Prop) (σ τ : zS) (N : Nat) (x1 : Int32)  {res : Int32 × zS} (hf : fX7_climb N τ x1 = some res) : Met l yX7_climb wsX7_climb (zR 4) (zPc g A σ τ [.ref (g.2.2 66), .int x1]) (zPi g A σ res) 0 0 A := by
  refine z_met (cc := cX7_climb) (ret := (some .int)) (own := RX7) (by decide) rfl rfl _ (Nat.le_of_ble_eq_true rfl) ?_
  intro p e s m below meth c C E ls hl hh
  have hl : lv_has ls 2 [(0, .ref (g.2.2 66)), (1, .int x1)] := hl
  obtain ⟨hx, hb, hr, hml, hown, hts, hlocks⟩ := id C
  unfold fX7_climb at hf
  refine lv_aload_n hx hb dX7_climb_0 rfl (lv_at hl 0 rfl) ?_
  refine lv_iload_n hx hb dX7_climb_1 rfl (lv_at hl 1 rfl) ?_
  obtain ⟨q1, h_q1, hf⟩ := z_bd hf
  refine z_mi (va_runV (As := [.int x1]) (rest := []) ⟨hx, hb, hml, hown, hts⟩ (zcX7_climbs l g A σ τ N x1 h_q1) (cwV 1 hts gX7_climb_X7_climbs rfl rfl rfl hdX7_climbs ⟨by decide, by decide⟩) (z_preV E hh (by decide) (zC_obj (q := 66) rfl) rfl) rfl rfl hl.1 rfl (lv_room (Nat.le_of_ble_eq_true rfl)) dX7_climb_2 ⟨Nat.le_refl _, Nat.le_refl _⟩) hh (fun H locs hh => ?_)
  have hf := Option.some.inj hf
  subst hf
  exact z_iretM hx hb hr hlocks hh dX7_climb_5
/-! ===== X7_down ===== -/
theorem hdX7_down : yX7_down.cls = RX7 ∧ yX7_down.cls ≠ "java/lang/invoke/MethodHandle" ∧ yX7_down.cls ≠ "java/lang/invoke/VarHandle" ∧ (parseMethodDescriptor yX7_down.desc).map (fun d => d.parameters.length) = some 1 := by decide +kernel
def fX7_down (N : Nat) (τ : zS) (x1 : Int32) : Option (Int32 × zS) :=
  if zin (nI 24) (zlen 55) then
  zlet (τ.2 55 (nI 24).toNatClampNeg) fun v2 =>
  (fX7_in N x1.toInt64 0 v2.toInt64).bind fun q3 =>
  (fX7_puts N τ q3 (nI 24) x1 (nI 0)).bind fun q4 =>
  some (q4.1, q4.2)
  else none
set_option maxRecDepth 100000 in
set_option maxHeartbeats 4000000 in
theorem zcX7_down (l : Launch) (g : zG) (A : Nat → Prop) (σ τ : zS) (N : Nat) (x1 : Int32)  {res : Int32 × zS} (hf : fX7_down N τ x1 = some res) : Met l yX7_down wsX7_down (zR 1) (zPc g A σ τ [.ref (g.2.2 66), .int x1]) (zPi g A σ res) 0 0 A := by
  refine z_met (cc := cX7_down) (ret := (some .int)) (own := RX7) (by decide) rfl rfl _ (Nat.le_of_ble_eq_true rfl) ?_
  intro p e s m below meth c C E ls hl hh
  have hl : lv_has ls 2 [(0, .ref (g.2.2 66)), (1, .int x1)] := hl
  obtain ⟨hx, hb, hr, hml, hown, hts, hlocks⟩ := id C
  unfold fX7_down at hf
  refine lv_aload_n hx hb dX7_down_0 rfl (lv_at hl 0 rfl) ?_
  refine lv_iload_n hx hb dX7_down_1 rfl (lv_at hl 1 rfl) ?_
  refine lv_i2l hx hb dX7_down_2 rfl ?_
  refine lv_lconst (v := 0) hx hb dX7_down_3 (by decide) ?_
  refine lv_aload_n hx hb dX7_down_4 rfl (lv_at hl 0 rfl) ?_
  refine z_get (v := .ref (g.2.2 55)) hx hb hts (fun w h => List.mem_cons_of_mem _ (List.mem_append_right _ (h))) hown E hh (by decide) (zC_obj (q := 66) rfl) rfl 0 (by decide) (hts (.fieldLink RX7 7 "TownBandModel" "state" "[I") (List.mem_cons_of_mem _ (List.mem_append_left _ (List.mem_of_getElem? (i := 0) rfl)))) rfl dX7_down_5 ?_
  refine lv_bipush (v := (nI 24)) hx hb dX7_down_8 (by decide) ?_
  obtain ⟨h_v1, hf⟩ := z_if hf
  obtain ⟨v2, e_v2, hf⟩ := z_lt hf
  refine z_ialdM hx hb E hh (by decide) (by decide) h_v1 e_v2 dX7_down_10 ?_
  refine lv_i2l hx hb dX7_down_11 rfl ?_
  obtain ⟨q3, h_q3, hf⟩ := z_bd hf
  refine z_mi (va_runS (As := [.long x1.toInt64, .long 0, .long v2.toInt64]) (rest := [.ref (g.2.2 66)]) ⟨hx, hb, hml, hown, hts⟩ (zcX7_in l g A σ τ N x1.toInt64 0 v2.toInt64 h_q3) (va_cwS 3 hts gX7_down_X7_in rfl rfl rfl hdX7_in.2 ⟨by decide, by decide⟩) (z_preS E hh) rfl rfl hl.1 rfl (lv_room (Nat.le_of_ble_eq_true rfl)) dX7_down_12 ⟨Nat.le_refl _, Nat.le_refl _⟩) hh (fun H locs hh => ?_)
  refine lv_bipush (v := (nI 24)) hx hb dX7_down_15 (by decide) ?_
  refine lv_iload_n hx hb dX7_down_17 rfl (lv_at hl 1 rfl) ?_
  refine lv_iconst (v := (nI 0)) hx hb dX7_down_18 (by decide) ?_
  obtain ⟨q4, h_q4, hf⟩ := z_bd hf
  refine z_mi (va_runV (As := [.int q3, .int (nI 24), .int x1, .int (nI 0)]) (rest := []) ⟨hx, hb, hml, hown, hts⟩ (zcX7_puts l g A σ τ N q3 (nI 24) x1 (nI 0) h_q4) (cwV 4 hts gX7_down_X7_puts rfl rfl rfl hdX7_puts ⟨by decide, by decide⟩) (z_preV E hh (by decide) (zC_obj (q := 66) rfl) rfl) rfl rfl hl.1 rfl (lv_room (Nat.le_of_ble_eq_true rfl)) dX7_down_19 ⟨Nat.le_refl _, Nat.le_refl _⟩) hh (fun H locs hh => ?_)
  have hf := Option.some.inj hf
  subst hf
  exact z_iretM hx hb hr hlocks hh dX7_down_22
/-! ===== X7_swap ===== -/
theorem hdX7_swap : yX7_swap.cls = RX7 ∧ yX7_swap.cls ≠ "java/lang/invoke/MethodHandle" ∧ yX7_swap.cls ≠ "java/lang/invoke/VarHandle" ∧ (parseMethodDescriptor yX7_swap.desc).map (fun d => d.parameters.length) = some 2 := by decide +kernel
def fX7_swap (N : Nat) (τ : zS) (x1 : Int32) (x2 : Int32) : Option (Int32 × zS) :=
  (fX7_isBeast N τ x1).bind fun q1 =>
  if q1 = 0 then
    some ((-1), τ)
  else
    (fX7_isBeast N τ x2).bind fun q3 =>
    if q3 = 0 then
      some ((-1), τ)
    else
      if x1 = x2 then
        some ((-1), τ)
      else
        (fX7_bedBeast N τ x1).bind fun q6 =>
        (fX7_bedBeast N τ x2).bind fun q7 =>
        if zin ((nI 25) + x1) (zlen 55) then
        zlet (zpa τ 55 (upd (τ.2 55) ((nI 25) + x1).toNatClampNeg (q7 - x1))) fun τ9 =>
        if zin ((nI 25) + x2) (zlen 55) then
        zlet (zpa τ9 55 (upd (τ9.2 55) ((nI 25) + x2).toNatClampNeg (q6 - x2))) fun τ11 =>
        some (q7, τ11)
        else none
        else none
set_option maxRecDepth 100000 in
set_option maxHeartbeats 4000000 in
theorem zcX7_swap (l : Launch) (g : zG) (A : Nat → Prop) (σ τ : zS) (N : Nat) (x1 : Int32) (x2 : Int32)  {res : Int32 × zS} (hf : fX7_swap N τ x1 x2 = some res) : Met l yX7_swap wsX7_swap (zR 2) (zPc g A σ τ [.ref (g.2.2 66), .int x1, .int x2]) (zPi g A σ res) 0 0 A := by
  refine z_met (cc := cX7_swap) (ret := (some .int)) (own := RX7) (by decide) rfl rfl _ (Nat.le_of_ble_eq_true rfl) ?_
  intro p e s m below meth c C E ls hl hh
  have hl : lv_has ls 5 [(0, .ref (g.2.2 66)), (1, .int x1), (2, .int x2)] := hl
  obtain ⟨hx, hb, hr, hml, hown, hts, hlocks⟩ := id C
  unfold fX7_swap at hf
  refine lv_aload_n hx hb dX7_swap_0 rfl (lv_at hl 0 rfl) ?_
  refine lv_iload_n hx hb dX7_swap_1 rfl (lv_at hl 1 rfl) ?_
  obtain ⟨q1, h_q1, hf⟩ := z_bd hf
  refine z_mi (va_runV (As := [.int x1]) (rest := []) ⟨hx, hb, hml, hown, hts⟩ (zcX7_isBeast l g A σ τ N x1 h_q1) (cwV 1 hts gX7_swap_X7_isBeast rfl rfl rfl hdX7_isBeast ⟨by decide, by decide⟩) (z_preV E hh (by decide) (zC_obj (q := 66) rfl) rfl) rfl rfl hl.1 rfl (lv_room (Nat.le_of_ble_eq_true rfl)) dX7_swap_2 ⟨Nat.le_refl _, Nat.le_refl _⟩) hh (fun H locs hh => ?_)
  refine lv_if_eq (tgt := 21) hx hb dX7_swap_5 (by decide) (fun c_v2 => ?_) (fun c_v2 => ?_)
  · have hf := z_ip hf c_v2
    refine lv_iconst (v := (-1)) hx hb dX7_swap_21 (by decide) ?_
    have hf := Option.some.inj hf
    subst hf
    exact z_iretM hx hb hr hlocks hh dX7_swap_22
  · have hf := z_in hf c_v2
    refine lv_aload_n hx hb dX7_swap_8 rfl (lv_at hl 0 rfl) ?_
    refine lv_iload_n hx hb dX7_swap_9 rfl (lv_at hl 2 rfl) ?_
    obtain ⟨q3, h_q3, hf⟩ := z_bd hf
    refine z_mi (va_runV (As := [.int x2]) (rest := []) ⟨hx, hb, hml, hown, hts⟩ (zcX7_isBeast l g A σ τ N x2 h_q3) (cwV 1 hts gX7_swap_X7_isBeast rfl rfl rfl hdX7_isBeast ⟨by decide, by decide⟩) (z_preV E hh (by decide) (zC_obj (q := 66) rfl) rfl) rfl rfl hl.1 rfl (lv_room (Nat.le_of_ble_eq_true rfl)) dX7_swap_10 ⟨Nat.le_refl _, Nat.le_refl _⟩) hh (fun H locs hh => ?_)
    refine lv_if_eq (tgt := 21) hx hb dX7_swap_13 (by decide) (fun c_v4 => ?_) (fun c_v4 => ?_)
    · have hf := z_ip hf c_v4
      refine lv_iconst (v := (-1)) hx hb dX7_swap_21 (by decide) ?_
      have hf := Option.some.inj hf
      subst hf
      exact z_iretM hx hb hr hlocks hh dX7_swap_22
    · have hf := z_in hf c_v4
      refine lv_iload_n hx hb dX7_swap_16 rfl (lv_at hl 1 rfl) ?_
      refine lv_iload_n hx hb dX7_swap_17 rfl (lv_at hl 2 rfl) ?_
      refine lv_icmp_ne (tgt := 23) hx hb dX7_swap_18 (by decide) (fun c_v5 => ?_) (fun c_v5 => ?_)
      · have hf := z_in hf c_v5
        refine lv_aload_n hx hb dX7_swap_23 rfl (lv_at hl 0 rfl) ?_
        refine lv_iload_n hx hb dX7_swap_24 rfl (lv_at hl 1 rfl) ?_
        obtain ⟨q6, h_q6, hf⟩ := z_bd hf
        refine z_mi (va_runV (As := [.int x1]) (rest := []) ⟨hx, hb, hml, hown, hts⟩ (zcX7_bedBeast l g A σ τ N x1 h_q6) (cwV 1 hts gX7_swap_X7_bedBeast rfl rfl rfl hdX7_bedBeast ⟨by decide, by decide⟩) (z_preV E hh (by decide) (zC_obj (q := 66) rfl) rfl) rfl rfl hl.1 rfl (lv_room (Nat.le_of_ble_eq_true rfl)) dX7_swap_25 ⟨Nat.le_refl _, Nat.le_refl _⟩) hh (fun H locs hh => ?_)
        refine lv_istore_n (lv' := [(3, .int q6), (0, .ref (g.2.2 66)), (1, .int x1), (2, .int x2)]) hx hb dX7_swap_28 rfl hl (by decide) rfl (fun ls hl => ?_)
        refine lv_aload_n hx hb dX7_swap_29 rfl (lv_at hl 1 rfl) ?_
        refine lv_iload_n hx hb dX7_swap_30 rfl (lv_at hl 3 rfl) ?_
        obtain ⟨q7, h_q7, hf⟩ := z_bd hf
        refine z_mi (va_runV (As := [.int x2]) (rest := []) ⟨hx, hb, hml, hown, hts⟩ (zcX7_bedBeast l g A σ τ N x2 h_q7) (cwV 1 hts gX7_swap_X7_bedBeast rfl rfl rfl hdX7_bedBeast ⟨by decide, by decide⟩) (z_preV E hh (by decide) (zC_obj (q := 66) rfl) rfl) rfl rfl hl.1 rfl (lv_room (Nat.le_of_ble_eq_true rfl)) dX7_swap_31 ⟨Nat.le_refl _, Nat.le_refl _⟩) hh (fun H locs hh => ?_)
        refine lv_istore (lv' := [(4, .int q7), (3, .int q6), (0, .ref (g.2.2 66)), (1, .int x1), (2, .int x2)]) hx hb dX7_swap_34 hl (by decide) rfl (fun ls hl => ?_)
        refine lv_aload_n hx hb dX7_swap_36 rfl (lv_at hl 2 rfl) ?_
        refine z_get (v := .ref (g.2.2 55)) hx hb hts (fun w h => List.mem_cons_of_mem _ (List.mem_append_right _ (h))) hown E hh (by decide) (zC_obj (q := 66) rfl) rfl 0 (by decide) (hts (.fieldLink RX7 7 "TownBandModel" "state" "[I") (List.mem_cons_of_mem _ (List.mem_append_left _ (List.mem_of_getElem? (i := 0) rfl)))) rfl dX7_swap_37 ?_
        refine lv_bipush (v := (nI 25)) hx hb dX7_swap_40 (by decide) ?_
        refine lv_iload_n hx hb dX7_swap_42 rfl (lv_at hl 3 rfl) ?_
        refine lv_iadd hx hb dX7_swap_43 ?_
        refine lv_iload hx hb dX7_swap_44 (lv_at hl 0 rfl) ?_
        refine lv_iload_n hx hb dX7_swap_46 rfl (lv_at hl 3 rfl) ?_
        refine lv_isub hx hb dX7_swap_47 ?_
        obtain ⟨h_v8, hf⟩ := z_if hf
        obtain ⟨τ9, e_τ9, hf⟩ := z_lt hf
        refine z_iastM hx hb E hh (by decide) (by decide) h_v8 e_τ9 dX7_swap_48 (fun H locs hh => ?_)
        refine lv_aload_n hx hb dX7_swap_49 rfl (lv_at hl 2 rfl) ?_
        refine z_get (v := .ref (g.2.2 55)) hx hb hts (fun w h => List.mem_cons_of_mem _ (List.mem_append_right _ (h))) hown E hh (by decide) (zC_obj (q := 66) rfl) rfl 0 (by decide) (hts (.fieldLink RX7 7 "TownBandModel" "state" "[I") (List.mem_cons_of_mem _ (List.mem_append_left _ (List.mem_of_getElem? (i := 0) rfl)))) rfl dX7_swap_50 ?_
        refine lv_bipush (v := (nI 25)) hx hb dX7_swap_53 (by decide) ?_
        refine lv_iload_n hx hb dX7_swap_55 rfl (lv_at hl 4 rfl) ?_
        refine lv_iadd hx hb dX7_swap_56 ?_
        refine lv_iload_n hx hb dX7_swap_57 rfl (lv_at hl 1 rfl) ?_
        refine lv_iload_n hx hb dX7_swap_58 rfl (lv_at hl 4 rfl) ?_
        refine lv_isub hx hb dX7_swap_59 ?_
        obtain ⟨h_v10, hf⟩ := z_if hf
        obtain ⟨τ11, e_τ11, hf⟩ := z_lt hf
        refine z_iastM hx hb E hh (by decide) (by decide) h_v10 e_τ11 dX7_swap_60 (fun H locs hh => ?_)
        refine lv_iload hx hb dX7_swap_61 (lv_at hl 0 rfl) ?_
        have hf := Option.some.inj hf
        subst hf
        exact z_iretM hx hb hr hlocks hh dX7_swap_63
      · have hf := z_ip hf c_v5
        refine lv_iconst (v := (-1)) hx hb dX7_swap_21 (by decide) ?_
        have hf := Option.some.inj hf
        subst hf
        exact z_iretM hx hb hr hlocks hh dX7_swap_22
/-! ===== X7_noiseBy ===== -/
theorem hdX7_noiseBy : yX7_noiseBy.cls = RX7 ∧ yX7_noiseBy.cls ≠ "java/lang/invoke/MethodHandle" ∧ yX7_noiseBy.cls ≠ "java/lang/invoke/VarHandle" ∧ (parseMethodDescriptor yX7_noiseBy.desc).map (fun d => d.parameters.length) = some 1 := by decide +kernel
def PX7_noiseBy_50 (p : Program) (l : Launch) (e : Env) (s : State) (m : MethodId) (args : Array Value) (below : List Frame) (meth : Method) (c : Code) (g : zG) (A : Nat → Prop) (σ τ : zS) (res : Int32) (f : Int32 → Int32 → Int32 → Int32 → Option (Int32)) : Prop := ∀ (x1 : Int32) (x3 : Int32) (s0 : Int32) (s1 : Int32) (H : Heap) (locs : List Loc) (ls : Array Slot), f x1 x3 s0 s1 = some res → zW g A σ τ s H locs → lv_has ls 4 [(0, .ref (g.2.2 66)), (1, .int x1), (3, .int x3)] → W p l e (zR 0) s m args below meth c H locs 0 0 (MQ below (zPi g A σ (res, τ)) args s 0 0 A) (F0 m 50 ls [.int s0, .int s1])
def PX7_noiseBy_4 (p : Program) (l : Launch) (e : Env) (s : State) (m : MethodId) (args : Array Value) (below : List Frame) (meth : Method) (c : Code) (g : zG) (A : Nat → Prop) (σ τ : zS) (res : Int32) (f : Int32 → Int32 → Int32 → Option (Int32)) : Prop := ∀ (x1 : Int32) (x2 : Int32) (x3 : Int32) (H : Heap) (locs : List Loc) (ls : Array Slot), f x1 x2 x3 = some res → zW g A σ τ s H locs → lv_has ls 4 [(0, .ref (g.2.2 66)), (1, .int x1), (2, .int x2), (3, .int x3)] → W p l e (zR 0) s m args below meth c H locs 0 0 (MQ below (zPi g A σ (res, τ)) args s 0 0 A) (F0 m 4 ls [])
def fX7_noiseBy_50 (N : Nat) (τ : zS) (rc : Int32 → Int32 → Int32 → Option (Int32)) (x1 : Int32) (x3 : Int32) (s0 : Int32) (s1 : Int32) : Option (Int32) :=
  rc x1 (s1 + s0) (x3 + (nI 1))
set_option maxRecDepth 100000 in
set_option maxHeartbeats 4000000 in
theorem hX7_noiseBy_50 {p : Program} {l : Launch} {e : Env} {s : State} {m : MethodId} {args : Array Value} {below : List Frame} {meth : Method} {c : Code} {g : zG} {A : Nat → Prop} {σ τ : zS} {res : Int32} (C : zCx p s m args meth c cX7_noiseBy (some .int) wsX7_noiseBy RX7 4) (E : zE g A s) (N : Nat) (rc : Int32 → Int32 → Int32 → Option (Int32)) (hrc : PX7_noiseBy_4 p l e s m args below meth c g A σ τ res rc) : PX7_noiseBy_50 p l e s m args below meth c g A σ τ res (fX7_noiseBy_50 N τ rc) := by
  obtain ⟨hx, hb, hr, hml, hown, hts, hlocks⟩ := id C
  intro x1 x3 s0 s1 H locs ls hf hh hl
  unfold fX7_noiseBy_50 at hf
  refine lv_iadd hx hb dX7_noiseBy_50 ?_
  refine lv_istore_n (lv' := [(2, .int (s1 + s0)), (0, .ref (g.2.2 66)), (1, .int x1), (3, .int x3)]) hx hb dX7_noiseBy_51 rfl hl (by decide) rfl (fun ls hl => ?_)
  refine lv_iinc (v := (x3 + (nI 1))) (lv' := [(3, .int (x3 + (nI 1))), (2, .int (s1 + s0)), (0, .ref (g.2.2 66)), (1, .int x1)]) hx hb dX7_noiseBy_52 hl (k := 3) rfl rfl (by decide) rfl (fun ls hl => ?_)
  refine lv_goto (tgt := 4) hx hb dX7_noiseBy_55 (by decide) ?_
  exact hrc x1 (s1 + s0) (x3 + (nI 1)) _ _ _ hf hh (lv_sub hl [2, 3, 1, 0] rfl)
def fX7_noiseBy_4 (N : Nat) (τ : zS) : Nat → Int32 → Int32 → Int32 → Option (Int32)
  | 0, _, _, _ => none
  | n + 1, x1, x2, x3 =>
    if zin (nI 24) (zlen 55) then
    zlet (τ.2 55 (nI 24).toNatClampNeg) fun v2 =>
    if v2 ≤ x3 then
      some x2
    else
      if ((x1 >>> (x3 &&& 31)) &&& (nI 1)) = (nI 1) then
        (fX7_noiseBy_50 N τ (fX7_noiseBy_4 N τ n)) x1 x3 (nI 0) x2
      else
        if zin ((nI 19) + x3) (zlen 55) then
        zlet (τ.2 55 ((nI 19) + x3).toNatClampNeg) fun v6 =>
        if zin ((nI 10) + v6) (zlen 55) then
        zlet (τ.2 55 ((nI 10) + v6).toNatClampNeg) fun v8 =>
        (fX7_noiseBy_50 N τ (fX7_noiseBy_4 N τ n)) x1 x3 (v8 * (x3 + (nI 1))) x2
        else none
        else none
    else none
set_option maxRecDepth 100000 in
set_option maxHeartbeats 4000000 in
theorem hX7_noiseBy_4 {p : Program} {l : Launch} {e : Env} {s : State} {m : MethodId} {args : Array Value} {below : List Frame} {meth : Method} {c : Code} {g : zG} {A : Nat → Prop} {σ τ : zS} {res : Int32} (C : zCx p s m args meth c cX7_noiseBy (some .int) wsX7_noiseBy RX7 4) (E : zE g A s) (N : Nat) : ∀ n : Nat, PX7_noiseBy_4 p l e s m args below meth c g A σ τ res (fX7_noiseBy_4 N τ n) := by
  obtain ⟨hx, hb, hr, hml, hown, hts, hlocks⟩ := id C
  intro n
  induction n with
  | zero =>
    intro x1 x2 x3 H locs ls hf
    exact absurd hf (by simp [fX7_noiseBy_4])
  | succ n ih =>
    intro x1 x2 x3 H locs ls hf hh hl
    rw [fX7_noiseBy_4] at hf
    refine lv_iload_n hx hb dX7_noiseBy_4 rfl (lv_at hl 3 rfl) ?_
    refine lv_aload_n hx hb dX7_noiseBy_5 rfl (lv_at hl 0 rfl) ?_
    refine z_get (v := .ref (g.2.2 55)) hx hb hts (fun w h => List.mem_cons_of_mem _ (List.mem_append_right _ (h))) hown E hh (by decide) (zC_obj (q := 66) rfl) rfl 0 (by decide) (hts (.fieldLink RX7 7 "TownBandModel" "state" "[I") (List.mem_cons_of_mem _ (List.mem_append_left _ (List.mem_of_getElem? (i := 0) rfl)))) rfl dX7_noiseBy_6 ?_
    refine lv_bipush (v := (nI 24)) hx hb dX7_noiseBy_9 (by decide) ?_
    obtain ⟨h_v1, hf⟩ := z_if hf
    obtain ⟨v2, e_v2, hf⟩ := z_lt hf
    refine z_ialdM hx hb E hh (by decide) (by decide) h_v1 e_v2 dX7_noiseBy_11 ?_
    refine lv_icmp_ge (tgt := 58) hx hb dX7_noiseBy_12 (by decide) (fun c_v3 => ?_) (fun c_v3 => ?_)
    · have hf := z_ip hf c_v3
      refine lv_iload_n hx hb dX7_noiseBy_58 rfl (lv_at hl 2 rfl) ?_
      have hf := Option.some.inj hf
      subst hf
      exact z_iretM hx hb hr hlocks hh dX7_noiseBy_59
    · have hf := z_in hf c_v3
      refine lv_iload_n hx hb dX7_noiseBy_15 rfl (lv_at hl 2 rfl) ?_
      refine lv_iload_n hx hb dX7_noiseBy_16 rfl (lv_at hl 1 rfl) ?_
      refine lv_iload_n hx hb dX7_noiseBy_17 rfl (lv_at hl 3 rfl) ?_
      refine lv_ishr hx hb dX7_noiseBy_18 ?_
      refine lv_iconst (v := (nI 1)) hx hb dX7_noiseBy_19 (by decide) ?_
      refine lv_iand hx hb dX7_noiseBy_20 ?_
      refine lv_iconst (v := (nI 1)) hx hb dX7_noiseBy_21 (by decide) ?_
      refine lv_icmp_ne (tgt := 29) hx hb dX7_noiseBy_22 (by decide) (fun c_v4 => ?_) (fun c_v4 => ?_)
      · have hf := z_in hf c_v4
        refine lv_aload_n hx hb dX7_noiseBy_29 rfl (lv_at hl 0 rfl) ?_
        refine z_get (v := .ref (g.2.2 55)) hx hb hts (fun w h => List.mem_cons_of_mem _ (List.mem_append_right _ (h))) hown E hh (by decide) (zC_obj (q := 66) rfl) rfl 0 (by decide) (hts (.fieldLink RX7 7 "TownBandModel" "state" "[I") (List.mem_cons_of_mem _ (List.mem_append_left _ (List.mem_of_getElem? (i := 0) rfl)))) rfl dX7_noiseBy_30 ?_
        refine lv_bipush (v := (nI 10)) hx hb dX7_noiseBy_33 (by decide) ?_
        refine lv_aload_n hx hb dX7_noiseBy_35 rfl (lv_at hl 0 rfl) ?_
        refine z_get (v := .ref (g.2.2 55)) hx hb hts (fun w h => List.mem_cons_of_mem _ (List.mem_append_right _ (h))) hown E hh (by decide) (zC_obj (q := 66) rfl) rfl 0 (by decide) (hts (.fieldLink RX7 7 "TownBandModel" "state" "[I") (List.mem_cons_of_mem _ (List.mem_append_left _ (List.mem_of_getElem? (i := 0) rfl)))) rfl dX7_noiseBy_36 ?_
        refine lv_bipush (v := (nI 19)) hx hb dX7_noiseBy_39 (by decide) ?_
        refine lv_iload_n hx hb dX7_noiseBy_41 rfl (lv_at hl 3 rfl) ?_
        refine lv_iadd hx hb dX7_noiseBy_42 ?_
        obtain ⟨h_v5, hf⟩ := z_if hf
        obtain ⟨v6, e_v6, hf⟩ := z_lt hf
        refine z_ialdM hx hb E hh (by decide) (by decide) h_v5 e_v6 dX7_noiseBy_43 ?_
        refine lv_iadd hx hb dX7_noiseBy_44 ?_
        obtain ⟨h_v7, hf⟩ := z_if hf
        obtain ⟨v8, e_v8, hf⟩ := z_lt hf
        refine z_ialdM hx hb E hh (by decide) (by decide) h_v7 e_v8 dX7_noiseBy_45 ?_
        refine lv_iload_n hx hb dX7_noiseBy_46 rfl (lv_at hl 3 rfl) ?_
        refine lv_iconst (v := (nI 1)) hx hb dX7_noiseBy_47 (by decide) ?_
        refine lv_iadd hx hb dX7_noiseBy_48 ?_
        refine lv_imul hx hb dX7_noiseBy_49 ?_
        exact (hX7_noiseBy_50 C E N (fX7_noiseBy_4 N τ n) ih) x1 x3 (v8 * (x3 + (nI 1))) x2 _ _ _ hf hh (lv_sub hl [0, 1, 3] rfl)
      · have hf := z_ip hf c_v4
        refine lv_iconst (v := (nI 0)) hx hb dX7_noiseBy_25 (by decide) ?_
        refine lv_goto (tgt := 50) hx hb dX7_noiseBy_26 (by decide) ?_
        exact (hX7_noiseBy_50 C E N (fX7_noiseBy_4 N τ n) ih) x1 x3 (nI 0) x2 _ _ _ hf hh (lv_sub hl [0, 1, 3] rfl)
def fX7_noiseBy (N : Nat) (τ : zS) (x1 : Int32) : Option (Int32) :=
  (fX7_noiseBy_4 N τ N) x1 (nI 0) (nI 0)
set_option maxRecDepth 100000 in
set_option maxHeartbeats 4000000 in
theorem zcX7_noiseBy (l : Launch) (g : zG) (A : Nat → Prop) (σ τ : zS) (N : Nat) (x1 : Int32)  {res : Int32} (hf : fX7_noiseBy N τ x1 = some res) : Met l yX7_noiseBy wsX7_noiseBy (zR 0) (zPc g A σ τ [.ref (g.2.2 66), .int x1]) (zPi g A σ (res, τ)) 0 0 A := by
  refine z_met (cc := cX7_noiseBy) (ret := (some .int)) (own := RX7) (by decide) rfl rfl _ (Nat.le_of_ble_eq_true rfl) ?_
  intro p e s m below meth c C E ls hl hh
  have hl : lv_has ls 4 [(0, .ref (g.2.2 66)), (1, .int x1)] := hl
  obtain ⟨hx, hb, hr, hml, hown, hts, hlocks⟩ := id C
  unfold fX7_noiseBy at hf
  refine lv_iconst (v := (nI 0)) hx hb dX7_noiseBy_0 (by decide) ?_
  refine lv_istore_n (lv' := [(2, .int (nI 0)), (0, .ref (g.2.2 66)), (1, .int x1)]) hx hb dX7_noiseBy_1 rfl hl (by decide) rfl (fun ls hl => ?_)
  refine lv_iconst (v := (nI 0)) hx hb dX7_noiseBy_2 (by decide) ?_
  refine lv_istore_n (lv' := [(3, .int (nI 0)), (2, .int (nI 0)), (0, .ref (g.2.2 66)), (1, .int x1)]) hx hb dX7_noiseBy_3 rfl hl (by decide) rfl (fun ls hl => ?_)
  exact (hX7_noiseBy_4 C E N N) x1 (nI 0) (nI 0) _ _ _ hf hh (lv_sub hl [2, 3, 1, 0] rfl)
/-! ===== X7_noise ===== -/
theorem hdX7_noise : yX7_noise.cls = RX7 ∧ yX7_noise.cls ≠ "java/lang/invoke/MethodHandle" ∧ yX7_noise.cls ≠ "java/lang/invoke/VarHandle" ∧ (parseMethodDescriptor yX7_noise.desc).map (fun d => d.parameters.length) = some 0 := by decide +kernel
def fX7_noise (N : Nat) (τ : zS)  : Option (Int32) :=
  (fX7_noiseBy N τ (nI 0)).bind fun q1 =>
  some q1
set_option maxRecDepth 100000 in
set_option maxHeartbeats 4000000 in
theorem zcX7_noise (l : Launch) (g : zG) (A : Nat → Prop) (σ τ : zS) (N : Nat)   {res : Int32} (hf : fX7_noise N τ = some res) : Met l yX7_noise wsX7_noise (zR 1) (zPc g A σ τ [.ref (g.2.2 66)]) (zPi g A σ (res, τ)) 0 0 A := by
  refine z_met (cc := cX7_noise) (ret := (some .int)) (own := RX7) (by decide) rfl rfl _ (Nat.le_of_ble_eq_true rfl) ?_
  intro p e s m below meth c C E ls hl hh
  have hl : lv_has ls 1 [(0, .ref (g.2.2 66))] := hl
  obtain ⟨hx, hb, hr, hml, hown, hts, hlocks⟩ := id C
  unfold fX7_noise at hf
  refine lv_aload_n hx hb dX7_noise_0 rfl (lv_at hl 0 rfl) ?_
  refine lv_iconst (v := (nI 0)) hx hb dX7_noise_1 (by decide) ?_
  obtain ⟨q1, h_q1, hf⟩ := z_bd hf
  refine z_mi (va_runV (As := [.int (nI 0)]) (rest := []) ⟨hx, hb, hml, hown, hts⟩ (zcX7_noiseBy l g A σ τ N (nI 0) h_q1) (cwV 1 hts gX7_noise_X7_noiseBy rfl rfl rfl hdX7_noiseBy ⟨by decide, by decide⟩) (z_preV E hh (by decide) (zC_obj (q := 66) rfl) rfl) rfl rfl hl.1 rfl (lv_room (Nat.le_of_ble_eq_true rfl)) dX7_noise_2 ⟨Nat.le_refl _, Nat.le_refl _⟩) hh (fun H locs hh => ?_)
  have hf := Option.some.inj hf
  subst hf
  exact z_iretM hx hb hr hlocks hh dX7_noise_5
/-! ===== X7_fleeBy ===== -/
theorem hdX7_fleeBy : yX7_fleeBy.cls = RX7 ∧ yX7_fleeBy.cls ≠ "java/lang/invoke/MethodHandle" ∧ yX7_fleeBy.cls ≠ "java/lang/invoke/VarHandle" ∧ (parseMethodDescriptor yX7_fleeBy.desc).map (fun d => d.parameters.length) = some 1 := by decide +kernel
def PX7_fleeBy_44 (p : Program) (l : Launch) (e : Env) (s : State) (m : MethodId) (args : Array Value) (below : List Frame) (meth : Method) (c : Code) (g : zG) (A : Nat → Prop) (σ τ : zS) (res : Int32) (f : Int32 → Int32 → Int32 → Int32 → Option (Int32)) : Prop := ∀ (x1 : Int32) (x2 : Int32) (x3 : Int32) (x4 : Int32) (H : Heap) (locs : List Loc) (ls : Array Slot), f x1 x2 x3 x4 = some res → zW g A σ τ s H locs → lv_has ls 5 [(0, .ref (g.2.2 66)), (1, .int x1), (2, .int x2), (3, .int x3), (4, .int x4)] → W p l e (zR 0) s m args below meth c H locs 0 0 (MQ below (zPi g A σ (res, τ)) args s 0 0 A) (F0 m 44 ls [])
def PX7_fleeBy_7 (p : Program) (l : Launch) (e : Env) (s : State) (m : MethodId) (args : Array Value) (below : List Frame) (meth : Method) (c : Code) (g : zG) (A : Nat → Prop) (σ τ : zS) (res : Int32) (f : Int32 → Int32 → Int32 → Int32 → Option (Int32)) : Prop := ∀ (x1 : Int32) (x2 : Int32) (x3 : Int32) (x4 : Int32) (H : Heap) (locs : List Loc) (ls : Array Slot), f x1 x2 x3 x4 = some res → zW g A σ τ s H locs → lv_has ls 5 [(0, .ref (g.2.2 66)), (1, .int x1), (2, .int x2), (3, .int x3), (4, .int x4)] → W p l e (zR 0) s m args below meth c H locs 0 0 (MQ below (zPi g A σ (res, τ)) args s 0 0 A) (F0 m 7 ls [])
def fX7_fleeBy_44 (N : Nat) (τ : zS) (rc : Int32 → Int32 → Int32 → Int32 → Option (Int32)) (x1 : Int32) (x2 : Int32) (x3 : Int32) (x4 : Int32) : Option (Int32) :=
  rc x1 x2 x3 (x4 + (nI 1))
set_option maxRecDepth 100000 in
set_option maxHeartbeats 4000000 in
theorem hX7_fleeBy_44 {p : Program} {l : Launch} {e : Env} {s : State} {m : MethodId} {args : Array Value} {below : List Frame} {meth : Method} {c : Code} {g : zG} {A : Nat → Prop} {σ τ : zS} {res : Int32} (C : zCx p s m args meth c cX7_fleeBy (some .int) wsX7_fleeBy RX7 5) (E : zE g A s) (N : Nat) (rc : Int32 → Int32 → Int32 → Int32 → Option (Int32)) (hrc : PX7_fleeBy_7 p l e s m args below meth c g A σ τ res rc) : PX7_fleeBy_44 p l e s m args below meth c g A σ τ res (fX7_fleeBy_44 N τ rc) := by
  obtain ⟨hx, hb, hr, hml, hown, hts, hlocks⟩ := id C
  intro x1 x2 x3 x4 H locs ls hf hh hl
  unfold fX7_fleeBy_44 at hf
  refine lv_iinc (v := (x4 + (nI 1))) (lv' := [(4, .int (x4 + (nI 1))), (0, .ref (g.2.2 66)), (1, .int x1), (2, .int x2), (3, .int x3)]) hx hb dX7_fleeBy_44 hl (k := 4) rfl rfl (by decide) rfl (fun ls hl => ?_)
  refine lv_goto (tgt := 7) hx hb dX7_fleeBy_47 (by decide) ?_
  exact hrc x1 x2 x3 (x4 + (nI 1)) _ _ _ hf hh (lv_sub hl [1, 2, 3, 4, 0] rfl)
def fX7_fleeBy_7 (N : Nat) (τ : zS) : Nat → Int32 → Int32 → Int32 → Int32 → Option (Int32)
  | 0, _, _, _, _ => none
  | n + 1, x1, x2, x3, x4 =>
    if (τ.1 66 2) ≤ x4 then
      some x2
    else
      if zin ((nI 15) + x4) (zlen 55) then
      zlet (τ.2 55 ((nI 15) + x4).toNatClampNeg) fun v3 =>
      if (x1 + ((nI 2) * x3)) ≤ v3 then
        (fX7_fleeBy_44 N τ (fX7_fleeBy_7 N τ n)) x1 x2 x3 x4
      else
        zlet (x2 ||| ((nI 1) <<< (x4 &&& 31))) fun v5 =>
        (fX7_fleeBy_44 N τ (fX7_fleeBy_7 N τ n)) x1 v5 (x3 + (nI 1)) x4
      else none
set_option maxRecDepth 100000 in
set_option maxHeartbeats 4000000 in
theorem hX7_fleeBy_7 {p : Program} {l : Launch} {e : Env} {s : State} {m : MethodId} {args : Array Value} {below : List Frame} {meth : Method} {c : Code} {g : zG} {A : Nat → Prop} {σ τ : zS} {res : Int32} (C : zCx p s m args meth c cX7_fleeBy (some .int) wsX7_fleeBy RX7 5) (E : zE g A s) (N : Nat) : ∀ n : Nat, PX7_fleeBy_7 p l e s m args below meth c g A σ τ res (fX7_fleeBy_7 N τ n) := by
  obtain ⟨hx, hb, hr, hml, hown, hts, hlocks⟩ := id C
  intro n
  induction n with
  | zero =>
    intro x1 x2 x3 x4 H locs ls hf
    exact absurd hf (by simp [fX7_fleeBy_7])
  | succ n ih =>
    intro x1 x2 x3 x4 H locs ls hf hh hl
    rw [fX7_fleeBy_7] at hf
    refine lv_iload hx hb dX7_fleeBy_7 (lv_at hl 4 rfl) ?_
    refine lv_aload_n hx hb dX7_fleeBy_9 rfl (lv_at hl 0 rfl) ?_
    refine z_get (v := .int (τ.1 66 2)) hx hb hts (fun w h => List.mem_cons_of_mem _ (List.mem_append_right _ (h))) hown E hh (by decide) (zC_obj (q := 66) rfl) rfl 2 (by decide) (hts (.fieldLink RX7 144 "TownBandModel" "robberMany" "I") (List.mem_cons_of_mem _ (List.mem_append_left _ (List.mem_of_getElem? (i := 0) rfl)))) rfl dX7_fleeBy_10 ?_
    refine lv_icmp_ge (tgt := 50) hx hb dX7_fleeBy_13 (by decide) (fun c_v1 => ?_) (fun c_v1 => ?_)
    · have hf := z_ip hf c_v1
      refine lv_iload_n hx hb dX7_fleeBy_50 rfl (lv_at hl 2 rfl) ?_
      have hf := Option.some.inj hf
      subst hf
      exact z_iretM hx hb hr hlocks hh dX7_fleeBy_51
    · have hf := z_in hf c_v1
      refine lv_iload_n hx hb dX7_fleeBy_16 rfl (lv_at hl 1 rfl) ?_
      refine lv_iconst (v := (nI 2)) hx hb dX7_fleeBy_17 (by decide) ?_
      refine lv_iload_n hx hb dX7_fleeBy_18 rfl (lv_at hl 3 rfl) ?_
      refine lv_imul hx hb dX7_fleeBy_19 ?_
      refine lv_iadd hx hb dX7_fleeBy_20 ?_
      refine lv_aload_n hx hb dX7_fleeBy_21 rfl (lv_at hl 0 rfl) ?_
      refine z_get (v := .ref (g.2.2 55)) hx hb hts (fun w h => List.mem_cons_of_mem _ (List.mem_append_right _ (h))) hown E hh (by decide) (zC_obj (q := 66) rfl) rfl 0 (by decide) (hts (.fieldLink RX7 7 "TownBandModel" "state" "[I") (List.mem_cons_of_mem _ (List.mem_append_left _ (List.mem_of_getElem? (i := 1) rfl)))) rfl dX7_fleeBy_22 ?_
      refine lv_bipush (v := (nI 15)) hx hb dX7_fleeBy_25 (by decide) ?_
      refine lv_iload hx hb dX7_fleeBy_27 (lv_at hl 4 rfl) ?_
      refine lv_iadd hx hb dX7_fleeBy_29 ?_
      obtain ⟨h_v2, hf⟩ := z_if hf
      obtain ⟨v3, e_v3, hf⟩ := z_lt hf
      refine z_ialdM hx hb E hh (by decide) (by decide) h_v2 e_v3 dX7_fleeBy_30 ?_
      refine lv_icmp_le (tgt := 44) hx hb dX7_fleeBy_31 (by decide) (fun c_v4 => ?_) (fun c_v4 => ?_)
      · have hf := z_ip hf c_v4
        exact (hX7_fleeBy_44 C E N (fX7_fleeBy_7 N τ n) ih) x1 x2 x3 x4 _ _ _ hf hh (lv_sub hl [0, 1, 2, 3, 4] rfl)
      · have hf := z_in hf c_v4
        refine lv_iload_n hx hb dX7_fleeBy_34 rfl (lv_at hl 2 rfl) ?_
        refine lv_iconst (v := (nI 1)) hx hb dX7_fleeBy_35 (by decide) ?_
        refine lv_iload hx hb dX7_fleeBy_36 (lv_at hl 4 rfl) ?_
        refine lv_ishl hx hb dX7_fleeBy_38 ?_
        refine lv_ior hx hb dX7_fleeBy_39 ?_
        obtain ⟨v5, e_v5, hf⟩ := z_lt hf
        refine z_topi e_v5 ?_
        refine lv_istore_n (lv' := [(2, .int v5), (0, .ref (g.2.2 66)), (1, .int x1), (3, .int x3), (4, .int x4)]) hx hb dX7_fleeBy_40 rfl hl (by decide) rfl (fun ls hl => ?_)
        refine lv_iinc (v := (x3 + (nI 1))) (lv' := [(3, .int (x3 + (nI 1))), (2, .int v5), (0, .ref (g.2.2 66)), (1, .int x1), (4, .int x4)]) hx hb dX7_fleeBy_41 hl (k := 3) rfl rfl (by decide) rfl (fun ls hl => ?_)
        exact (hX7_fleeBy_44 C E N (fX7_fleeBy_7 N τ n) ih) x1 v5 (x3 + (nI 1)) x4 _ _ _ hf hh (lv_sub hl [2, 3, 1, 0, 4] rfl)
def fX7_fleeBy (N : Nat) (τ : zS) (x1 : Int32) : Option (Int32) :=
  (fX7_fleeBy_7 N τ N) x1 (nI 0) (nI 0) (nI 0)
set_option maxRecDepth 100000 in
set_option maxHeartbeats 4000000 in
theorem zcX7_fleeBy (l : Launch) (g : zG) (A : Nat → Prop) (σ τ : zS) (N : Nat) (x1 : Int32)  {res : Int32} (hf : fX7_fleeBy N τ x1 = some res) : Met l yX7_fleeBy wsX7_fleeBy (zR 0) (zPc g A σ τ [.ref (g.2.2 66), .int x1]) (zPi g A σ (res, τ)) 0 0 A := by
  refine z_met (cc := cX7_fleeBy) (ret := (some .int)) (own := RX7) (by decide) rfl rfl _ (Nat.le_of_ble_eq_true rfl) ?_
  intro p e s m below meth c C E ls hl hh
  have hl : lv_has ls 5 [(0, .ref (g.2.2 66)), (1, .int x1)] := hl
  obtain ⟨hx, hb, hr, hml, hown, hts, hlocks⟩ := id C
  unfold fX7_fleeBy at hf
  refine lv_iconst (v := (nI 0)) hx hb dX7_fleeBy_0 (by decide) ?_
  refine lv_istore_n (lv' := [(2, .int (nI 0)), (0, .ref (g.2.2 66)), (1, .int x1)]) hx hb dX7_fleeBy_1 rfl hl (by decide) rfl (fun ls hl => ?_)
  refine lv_iconst (v := (nI 0)) hx hb dX7_fleeBy_2 (by decide) ?_
  refine lv_istore_n (lv' := [(3, .int (nI 0)), (2, .int (nI 0)), (0, .ref (g.2.2 66)), (1, .int x1)]) hx hb dX7_fleeBy_3 rfl hl (by decide) rfl (fun ls hl => ?_)
  refine lv_iconst (v := (nI 0)) hx hb dX7_fleeBy_4 (by decide) ?_
  refine lv_istore (lv' := [(4, .int (nI 0)), (3, .int (nI 0)), (2, .int (nI 0)), (0, .ref (g.2.2 66)), (1, .int x1)]) hx hb dX7_fleeBy_5 hl (by decide) rfl (fun ls hl => ?_)
  exact (hX7_fleeBy_7 C E N N) x1 (nI 0) (nI 0) (nI 0) _ _ _ hf hh (lv_sub hl [3, 4, 2, 1, 0] rfl)
/-! ===== X7_bitsOf ===== -/
theorem hdX7_bitsOf : yX7_bitsOf.cls = RX7 ∧ yX7_bitsOf.cls ≠ "java/lang/invoke/MethodHandle" ∧ yX7_bitsOf.cls ≠ "java/lang/invoke/VarHandle" ∧ (parseMethodDescriptor yX7_bitsOf.desc).map (fun d => d.parameters.length) = some 1 := by decide +kernel
def PX7_bitsOf_4 (p : Program) (l : Launch) (e : Env) (s : State) (m : MethodId) (args : Array Value) (below : List Frame) (meth : Method) (c : Code) (g : zG) (A : Nat → Prop) (σ τ : zS) (res : Int32) (f : Int32 → Int32 → Int32 → Option (Int32)) : Prop := ∀ (x0 : Int32) (x1 : Int32) (x2 : Int32) (H : Heap) (locs : List Loc) (ls : Array Slot), f x0 x1 x2 = some res → zW g A σ τ s H locs → lv_has ls 3 [(0, .int x0), (1, .int x1), (2, .int x2)] → W p l e (zR 0) s m args below meth c H locs 0 0 (MQ below (zPi g A σ (res, τ)) args s 0 0 A) (F0 m 4 ls [])
def fX7_bitsOf_4 (N : Nat) : Nat → Int32 → Int32 → Int32 → Option (Int32)
  | 0, _, _, _ => none
  | n + 1, x0, x1, x2 =>
    if (nI 5) ≤ x2 then
      some x1
    else
      zlet (x1 + ((x0 >>> (x2 &&& 31)) &&& (nI 1))) fun v2 =>
      (fX7_bitsOf_4 N n) x0 v2 (x2 + (nI 1))
set_option maxRecDepth 100000 in
set_option maxHeartbeats 4000000 in
theorem hX7_bitsOf_4 {p : Program} {l : Launch} {e : Env} {s : State} {m : MethodId} {args : Array Value} {below : List Frame} {meth : Method} {c : Code} {g : zG} {A : Nat → Prop} {σ τ : zS} {res : Int32} (C : zCx p s m args meth c cX7_bitsOf (some .int) wsX7_bitsOf RX7 3) (E : zE g A s) (N : Nat) : ∀ n : Nat, PX7_bitsOf_4 p l e s m args below meth c g A σ τ res (fX7_bitsOf_4 N n) := by
  obtain ⟨hx, hb, hr, hml, hown, hts, hlocks⟩ := id C
  intro n
  induction n with
  | zero =>
    intro x0 x1 x2 H locs ls hf
    exact absurd hf (by simp [fX7_bitsOf_4])
  | succ n ih =>
    intro x0 x1 x2 H locs ls hf hh hl
    rw [fX7_bitsOf_4] at hf
    refine lv_iload_n hx hb dX7_bitsOf_4 rfl (lv_at hl 2 rfl) ?_
    refine lv_iconst (v := (nI 5)) hx hb dX7_bitsOf_5 (by decide) ?_
    refine lv_icmp_ge (tgt := 23) hx hb dX7_bitsOf_6 (by decide) (fun c_v1 => ?_) (fun c_v1 => ?_)
    · have hf := z_ip hf c_v1
      refine lv_iload_n hx hb dX7_bitsOf_23 rfl (lv_at hl 1 rfl) ?_
      have hf := Option.some.inj hf
      subst hf
      exact z_iretM hx hb hr hlocks hh dX7_bitsOf_24
    · have hf := z_in hf c_v1
      refine lv_iload_n hx hb dX7_bitsOf_9 rfl (lv_at hl 1 rfl) ?_
      refine lv_iload_n hx hb dX7_bitsOf_10 rfl (lv_at hl 0 rfl) ?_
      refine lv_iload_n hx hb dX7_bitsOf_11 rfl (lv_at hl 2 rfl) ?_
      refine lv_ishr hx hb dX7_bitsOf_12 ?_
      refine lv_iconst (v := (nI 1)) hx hb dX7_bitsOf_13 (by decide) ?_
      refine lv_iand hx hb dX7_bitsOf_14 ?_
      refine lv_iadd hx hb dX7_bitsOf_15 ?_
      obtain ⟨v2, e_v2, hf⟩ := z_lt hf
      refine z_topi e_v2 ?_
      refine lv_istore_n (lv' := [(1, .int v2), (0, .int x0), (2, .int x2)]) hx hb dX7_bitsOf_16 rfl hl (by decide) rfl (fun ls hl => ?_)
      refine lv_iinc (v := (x2 + (nI 1))) (lv' := [(2, .int (x2 + (nI 1))), (1, .int v2), (0, .int x0)]) hx hb dX7_bitsOf_17 hl (k := 2) rfl rfl (by decide) rfl (fun ls hl => ?_)
      refine lv_goto (tgt := 4) hx hb dX7_bitsOf_20 (by decide) ?_
      exact ih x0 v2 (x2 + (nI 1)) _ _ _ hf hh (lv_sub hl [2, 1, 0] rfl)
def fX7_bitsOf (N : Nat) (x0 : Int32) : Option (Int32) :=
  (fX7_bitsOf_4 N N) x0 (nI 0) (nI 0)
set_option maxRecDepth 100000 in
set_option maxHeartbeats 4000000 in
theorem zcX7_bitsOf (l : Launch) (g : zG) (A : Nat → Prop) (σ τ : zS) (N : Nat) (x0 : Int32)  {res : Int32} (hf : fX7_bitsOf N x0 = some res) : Met l yX7_bitsOf wsX7_bitsOf (zR 0) (zPc g A σ τ [.int x0]) (zPi g A σ (res, τ)) 0 0 A := by
  refine z_met (cc := cX7_bitsOf) (ret := (some .int)) (own := RX7) (by decide) rfl rfl _ (Nat.le_of_ble_eq_true rfl) ?_
  intro p e s m below meth c C E ls hl hh
  have hl : lv_has ls 3 [(0, .int x0)] := hl
  obtain ⟨hx, hb, hr, hml, hown, hts, hlocks⟩ := id C
  unfold fX7_bitsOf at hf
  refine lv_iconst (v := (nI 0)) hx hb dX7_bitsOf_0 (by decide) ?_
  refine lv_istore_n (lv' := [(1, .int (nI 0)), (0, .int x0)]) hx hb dX7_bitsOf_1 rfl hl (by decide) rfl (fun ls hl => ?_)
  refine lv_iconst (v := (nI 0)) hx hb dX7_bitsOf_2 (by decide) ?_
  refine lv_istore_n (lv' := [(2, .int (nI 0)), (1, .int (nI 0)), (0, .int x0)]) hx hb dX7_bitsOf_3 rfl hl (by decide) rfl (fun ls hl => ?_)
  exact (hX7_bitsOf_4 C E N N) x0 (nI 0) (nI 0) _ _ _ hf hh (lv_sub hl [2, 1, 0] rfl)
/-! ===== X7_flight ===== -/
theorem hdX7_flight : yX7_flight.cls = RX7 ∧ yX7_flight.cls ≠ "java/lang/invoke/MethodHandle" ∧ yX7_flight.cls ≠ "java/lang/invoke/VarHandle" ∧ (parseMethodDescriptor yX7_flight.desc).map (fun d => d.parameters.length) = some 1 := by decide +kernel
def fX7_flight (N : Nat) (τ : zS) (x1 : Int32) : Option (Int32) :=
  (fX7_noiseBy N τ (nI 0)).bind fun q1 =>
  (fX7_fleeBy N τ q1).bind fun q2 =>
  if x1 = 0 then
    some q2
  else
    if x1 = (nI 1) then
      (fX7_bitsOf N q2).bind fun q5 =>
      some q5
    else
      some (-1)
set_option maxRecDepth 100000 in
set_option maxHeartbeats 4000000 in
theorem zcX7_flight (l : Launch) (g : zG) (A : Nat → Prop) (σ τ : zS) (N : Nat) (x1 : Int32)  {res : Int32} (hf : fX7_flight N τ x1 = some res) : Met l yX7_flight wsX7_flight (zR 1) (zPc g A σ τ [.ref (g.2.2 66), .int x1]) (zPi g A σ (res, τ)) 0 0 A := by
  refine z_met (cc := cX7_flight) (ret := (some .int)) (own := RX7) (by decide) rfl rfl _ (Nat.le_of_ble_eq_true rfl) ?_
  intro p e s m below meth c C E ls hl hh
  have hl : lv_has ls 3 [(0, .ref (g.2.2 66)), (1, .int x1)] := hl
  obtain ⟨hx, hb, hr, hml, hown, hts, hlocks⟩ := id C
  unfold fX7_flight at hf
  refine lv_aload_n hx hb dX7_flight_0 rfl (lv_at hl 0 rfl) ?_
  refine lv_aload_n hx hb dX7_flight_1 rfl (lv_at hl 0 rfl) ?_
  refine lv_iconst (v := (nI 0)) hx hb dX7_flight_2 (by decide) ?_
  obtain ⟨q1, h_q1, hf⟩ := z_bd hf
  refine z_mi (va_runV (As := [.int (nI 0)]) (rest := [.ref (g.2.2 66)]) ⟨hx, hb, hml, hown, hts⟩ (zcX7_noiseBy l g A σ τ N (nI 0) h_q1) (cwV 1 hts gX7_flight_X7_noiseBy rfl rfl rfl hdX7_noiseBy ⟨by decide, by decide⟩) (z_preV E hh (by decide) (zC_obj (q := 66) rfl) rfl) rfl rfl hl.1 rfl (lv_room (Nat.le_of_ble_eq_true rfl)) dX7_flight_3 ⟨Nat.le_refl _, Nat.le_refl _⟩) hh (fun H locs hh => ?_)
  obtain ⟨q2, h_q2, hf⟩ := z_bd hf
  refine z_mi (va_runV (As := [.int q1]) (rest := []) ⟨hx, hb, hml, hown, hts⟩ (zcX7_fleeBy l g A σ τ N q1 h_q2) (cwV 1 hts gX7_flight_X7_fleeBy rfl rfl rfl hdX7_fleeBy ⟨by decide, by decide⟩) (z_preV E hh (by decide) (zC_obj (q := 66) rfl) rfl) rfl rfl hl.1 rfl (lv_room (Nat.le_of_ble_eq_true rfl)) dX7_flight_6 ⟨Nat.le_refl _, Nat.le_refl _⟩) hh (fun H locs hh => ?_)
  refine lv_istore_n (lv' := [(2, .int q2), (0, .ref (g.2.2 66)), (1, .int x1)]) hx hb dX7_flight_9 rfl hl (by decide) rfl (fun ls hl => ?_)
  refine lv_iload_n hx hb dX7_flight_10 rfl (lv_at hl 2 rfl) ?_
  refine lv_if_ne (tgt := 18) hx hb dX7_flight_11 (by decide) (fun c_v3 => ?_) (fun c_v3 => ?_)
  · have hf := z_in hf c_v3
    refine lv_iload_n hx hb dX7_flight_18 rfl (lv_at hl 2 rfl) ?_
    refine lv_iconst (v := (nI 1)) hx hb dX7_flight_19 (by decide) ?_
    refine lv_icmp_ne (tgt := 30) hx hb dX7_flight_20 (by decide) (fun c_v4 => ?_) (fun c_v4 => ?_)
    · have hf := z_in hf c_v4
      refine lv_iconst (v := (-1)) hx hb dX7_flight_30 (by decide) ?_
      have hf := Option.some.inj hf
      subst hf
      exact z_iretM hx hb hr hlocks hh dX7_flight_31
    · have hf := z_ip hf c_v4
      refine lv_iload_n hx hb dX7_flight_23 rfl (lv_at hl 0 rfl) ?_
      obtain ⟨q5, h_q5, hf⟩ := z_bd hf
      refine z_mi (va_runS (As := [.int q2]) (rest := []) ⟨hx, hb, hml, hown, hts⟩ (zcX7_bitsOf l g A σ τ N q2 h_q5) (va_cwS 1 hts gX7_flight_X7_bitsOf rfl rfl rfl hdX7_bitsOf.2 ⟨by decide, by decide⟩) (z_preS E hh) rfl rfl hl.1 rfl (lv_room (Nat.le_of_ble_eq_true rfl)) dX7_flight_24 ⟨Nat.le_refl _, Nat.le_refl _⟩) hh (fun H locs hh => ?_)
      refine lv_goto (tgt := 31) hx hb dX7_flight_27 (by decide) ?_
      have hf := Option.some.inj hf
      subst hf
      exact z_iretM hx hb hr hlocks hh dX7_flight_31
  · have hf := z_ip hf c_v3
    refine lv_iload_n hx hb dX7_flight_14 rfl (lv_at hl 0 rfl) ?_
    refine lv_goto (tgt := 31) hx hb dX7_flight_15 (by decide) ?_
    have hf := Option.some.inj hf
    subst hf
    exact z_iretM hx hb hr hlocks hh dX7_flight_31
/-! ===== X7_free ===== -/
theorem hdX7_free : yX7_free.cls = RX7 ∧ yX7_free.cls ≠ "java/lang/invoke/MethodHandle" ∧ yX7_free.cls ≠ "java/lang/invoke/VarHandle" ∧ (parseMethodDescriptor yX7_free.desc).map (fun d => d.parameters.length) = some 0 := by decide +kernel
def PX7_free_37 (p : Program) (l : Launch) (e : Env) (s : State) (m : MethodId) (args : Array Value) (below : List Frame) (meth : Method) (c : Code) (g : zG) (A : Nat → Prop) (σ : zS) (res : Int32 × zS) (f : Int32 → Int32 → zS → Option (Int32 × zS)) : Prop := ∀ (x1 : Int32) (x2 : Int32) (τ : zS) (H : Heap) (locs : List Loc) (ls : Array Slot), f x1 x2 τ = some res → zW g A σ τ s H locs → lv_has ls 3 [(0, .ref (g.2.2 66)), (1, .int x1), (2, .int x2)] → W p l e (zR 4) s m args below meth c H locs 0 0 (MQ below (zPi g A σ res) args s 0 0 A) (F0 m 37 ls [])
def PX7_free_4 (p : Program) (l : Launch) (e : Env) (s : State) (m : MethodId) (args : Array Value) (below : List Frame) (meth : Method) (c : Code) (g : zG) (A : Nat → Prop) (σ : zS) (res : Int32 × zS) (f : Int32 → Int32 → zS → Option (Int32 × zS)) : Prop := ∀ (x1 : Int32) (x2 : Int32) (τ : zS) (H : Heap) (locs : List Loc) (ls : Array Slot), f x1 x2 τ = some res → zW g A σ τ s H locs → lv_has ls 3 [(0, .ref (g.2.2 66)), (1, .int x1), (2, .int x2)] → W p l e (zR 4) s m args below meth c H locs 0 0 (MQ below (zPi g A σ res) args s 0 0 A) (F0 m 4 ls [])
def fX7_free_37 (N : Nat) (rc : Int32 → Int32 → zS → Option (Int32 × zS)) (x1 : Int32) (x2 : Int32) (τ : zS) : Option (Int32 × zS) :=
  rc x1 (x2 + (nI 1)) τ
set_option maxRecDepth 100000 in
set_option maxHeartbeats 4000000 in
theorem hX7_free_37 {p : Program} {l : Launch} {e : Env} {s : State} {m : MethodId} {args : Array Value} {below : List Frame} {meth : Method} {c : Code} {g : zG} {A : Nat → Prop} {σ : zS} {res : Int32 × zS} (C : zCx p s m args meth c cX7_free (some .int) wsX7_free RX7 3) (E : zE g A s) (N : Nat) (rc : Int32 → Int32 → zS → Option (Int32 × zS)) (hrc : PX7_free_4 p l e s m args below meth c g A σ res rc) : PX7_free_37 p l e s m args below meth c g A σ res (fX7_free_37 N rc) := by
  obtain ⟨hx, hb, hr, hml, hown, hts, hlocks⟩ := id C
  intro x1 x2 τ H locs ls hf hh hl
  unfold fX7_free_37 at hf
  refine lv_iinc (v := (x2 + (nI 1))) (lv' := [(2, .int (x2 + (nI 1))), (0, .ref (g.2.2 66)), (1, .int x1)]) hx hb dX7_free_37 hl (k := 2) rfl rfl (by decide) rfl (fun ls hl => ?_)
  refine lv_goto (tgt := 4) hx hb dX7_free_40 (by decide) ?_
  exact hrc x1 (x2 + (nI 1)) τ _ _ _ hf hh (lv_sub hl [1, 2, 0] rfl)
def fX7_free_4 (N : Nat) : Nat → Int32 → Int32 → zS → Option (Int32 × zS)
  | 0, _, _, _ => none
  | n + 1, x1, x2, τ =>
    if (τ.1 66 1) ≤ x2 then
      some (x1, τ)
    else
      (fX7_climbs N τ x2).bind fun q2 =>
      if q2.1 ≤ 0 then
        (fX7_free_37 N (fX7_free_4 N n)) x1 x2 q2.2
      else
        if zin (nI 24) (zlen 55) then
        zlet (q2.2.2 55 (nI 24).toNatClampNeg) fun v5 =>
        if zin (nI 24) (zlen 55) then
        zlet (zpa q2.2 55 (upd (q2.2.2 55) (nI 24).toNatClampNeg (v5 - (nI 1)))) fun τ7 =>
        zlet (x1 ||| ((nI 1) <<< (x2 &&& 31))) fun v8 =>
        (fX7_free_37 N (fX7_free_4 N n)) v8 x2 τ7
        else none
        else none
set_option maxRecDepth 100000 in
set_option maxHeartbeats 4000000 in
theorem hX7_free_4 {p : Program} {l : Launch} {e : Env} {s : State} {m : MethodId} {args : Array Value} {below : List Frame} {meth : Method} {c : Code} {g : zG} {A : Nat → Prop} {σ : zS} {res : Int32 × zS} (C : zCx p s m args meth c cX7_free (some .int) wsX7_free RX7 3) (E : zE g A s) (N : Nat) : ∀ n : Nat, PX7_free_4 p l e s m args below meth c g A σ res (fX7_free_4 N n) := by
  obtain ⟨hx, hb, hr, hml, hown, hts, hlocks⟩ := id C
  intro n
  induction n with
  | zero =>
    intro x1 x2 τ H locs ls hf
    exact absurd hf (by simp [fX7_free_4])
  | succ n ih =>
    intro x1 x2 τ H locs ls hf hh hl
    rw [fX7_free_4] at hf
    refine lv_iload_n hx hb dX7_free_4 rfl (lv_at hl 2 rfl) ?_
    refine lv_aload_n hx hb dX7_free_5 rfl (lv_at hl 0 rfl) ?_
    refine z_get (v := .int (τ.1 66 1)) hx hb hts (fun w h => List.mem_cons_of_mem _ (List.mem_append_right _ (h))) hown E hh (by decide) (zC_obj (q := 66) rfl) rfl 1 (by decide) (hts (.fieldLink RX7 141 "TownBandModel" "beastMany" "I") (List.mem_cons_of_mem _ (List.mem_append_left _ (List.mem_append_left _ (List.mem_of_getElem? (i := 0) rfl))))) rfl dX7_free_6 ?_
    refine lv_icmp_ge (tgt := 43) hx hb dX7_free_9 (by decide) (fun c_v1 => ?_) (fun c_v1 => ?_)
    · have hf := z_ip hf c_v1
      refine lv_iload_n hx hb dX7_free_43 rfl (lv_at hl 1 rfl) ?_
      have hf := Option.some.inj hf
      subst hf
      exact z_iretM hx hb hr hlocks hh dX7_free_44
    · have hf := z_in hf c_v1
      refine lv_aload_n hx hb dX7_free_12 rfl (lv_at hl 0 rfl) ?_
      refine lv_iload_n hx hb dX7_free_13 rfl (lv_at hl 2 rfl) ?_
      obtain ⟨q2, h_q2, hf⟩ := z_bd hf
      refine z_mi (va_runV (As := [.int x2]) (rest := []) ⟨hx, hb, hml, hown, hts⟩ (zcX7_climbs l g A σ τ N x2 h_q2) (cwV 1 hts gX7_free_X7_climbs rfl rfl rfl hdX7_climbs ⟨by decide, by decide⟩) (z_preV E hh (by decide) (zC_obj (q := 66) rfl) rfl) rfl rfl hl.1 rfl (lv_room (Nat.le_of_ble_eq_true rfl)) dX7_free_14 ⟨Nat.le_refl _, Nat.le_refl _⟩) hh (fun H locs hh => ?_)
      refine lv_if_le (tgt := 37) hx hb dX7_free_17 (by decide) (fun c_v3 => ?_) (fun c_v3 => ?_)
      · have hf := z_ip hf c_v3
        exact (hX7_free_37 C E N (fX7_free_4 N n) ih) x1 x2 q2.2 _ _ _ hf hh (lv_sub hl [0, 1, 2] rfl)
      · have hf := z_in hf c_v3
        refine lv_aload_n hx hb dX7_free_20 rfl (lv_at hl 0 rfl) ?_
        refine z_get (v := .ref (g.2.2 55)) hx hb hts (fun w h => List.mem_cons_of_mem _ (List.mem_append_right _ (h))) hown E hh (by decide) (zC_obj (q := 66) rfl) rfl 0 (by decide) (hts (.fieldLink RX7 7 "TownBandModel" "state" "[I") (List.mem_cons_of_mem _ (List.mem_append_left _ (List.mem_append_left _ (List.mem_of_getElem? (i := 1) rfl))))) rfl dX7_free_21 ?_
        refine lv_bipush (v := (nI 24)) hx hb dX7_free_24 (by decide) ?_
        refine lv_dup2_11 hx hb dX7_free_26 rfl rfl ?_
        obtain ⟨h_v4, hf⟩ := z_if hf
        obtain ⟨v5, e_v5, hf⟩ := z_lt hf
        refine z_ialdM hx hb E hh (by decide) (by decide) h_v4 e_v5 dX7_free_27 ?_
        refine lv_iconst (v := (nI 1)) hx hb dX7_free_28 (by decide) ?_
        refine lv_isub hx hb dX7_free_29 ?_
        obtain ⟨h_v6, hf⟩ := z_if hf
        obtain ⟨τ7, e_τ7, hf⟩ := z_lt hf
        refine z_iastM hx hb E hh (by decide) (by decide) h_v6 e_τ7 dX7_free_30 (fun H locs hh => ?_)
        refine lv_iload_n hx hb dX7_free_31 rfl (lv_at hl 1 rfl) ?_
        refine lv_iconst (v := (nI 1)) hx hb dX7_free_32 (by decide) ?_
        refine lv_iload_n hx hb dX7_free_33 rfl (lv_at hl 2 rfl) ?_
        refine lv_ishl hx hb dX7_free_34 ?_
        refine lv_ior hx hb dX7_free_35 ?_
        obtain ⟨v8, e_v8, hf⟩ := z_lt hf
        refine z_topi e_v8 ?_
        refine lv_istore_n (lv' := [(1, .int v8), (0, .ref (g.2.2 66)), (2, .int x2)]) hx hb dX7_free_36 rfl hl (by decide) rfl (fun ls hl => ?_)
        exact (hX7_free_37 C E N (fX7_free_4 N n) ih) v8 x2 τ7 _ _ _ hf hh (lv_sub hl [1, 0, 2] rfl)
def fX7_free (N : Nat) (τ : zS)  : Option (Int32 × zS) :=
  (fX7_free_4 N N) (nI 0) (nI 0) τ
set_option maxRecDepth 100000 in
set_option maxHeartbeats 4000000 in
theorem zcX7_free (l : Launch) (g : zG) (A : Nat → Prop) (σ τ : zS) (N : Nat)   {res : Int32 × zS} (hf : fX7_free N τ = some res) : Met l yX7_free wsX7_free (zR 4) (zPc g A σ τ [.ref (g.2.2 66)]) (zPi g A σ res) 0 0 A := by
  refine z_met (cc := cX7_free) (ret := (some .int)) (own := RX7) (by decide) rfl rfl _ (Nat.le_of_ble_eq_true rfl) ?_
  intro p e s m below meth c C E ls hl hh
  have hl : lv_has ls 3 [(0, .ref (g.2.2 66))] := hl
  obtain ⟨hx, hb, hr, hml, hown, hts, hlocks⟩ := id C
  unfold fX7_free at hf
  refine lv_iconst (v := (nI 0)) hx hb dX7_free_0 (by decide) ?_
  refine lv_istore_n (lv' := [(1, .int (nI 0)), (0, .ref (g.2.2 66))]) hx hb dX7_free_1 rfl hl (by decide) rfl (fun ls hl => ?_)
  refine lv_iconst (v := (nI 0)) hx hb dX7_free_2 (by decide) ?_
  refine lv_istore_n (lv' := [(2, .int (nI 0)), (1, .int (nI 0)), (0, .ref (g.2.2 66))]) hx hb dX7_free_3 rfl hl (by decide) rfl (fun ls hl => ?_)
  exact (hX7_free_4 C E N N) (nI 0) (nI 0) τ _ _ _ hf hh (lv_sub hl [2, 1, 0] rfl)
/-! ===== X7_need ===== -/
theorem hdX7_need : yX7_need.cls = RX7 ∧ yX7_need.cls ≠ "java/lang/invoke/MethodHandle" ∧ yX7_need.cls ≠ "java/lang/invoke/VarHandle" ∧ (parseMethodDescriptor yX7_need.desc).map (fun d => d.parameters.length) = some 0 := by decide +kernel
def PX7_need_38 (p : Program) (l : Launch) (e : Env) (s : State) (m : MethodId) (args : Array Value) (below : List Frame) (meth : Method) (c : Code) (g : zG) (A : Nat → Prop) (σ τ : zS) (res : Int32) (f : Int32 → Int32 → Option (Int32)) : Prop := ∀ (x2 : Int32) (s0 : Int32) (H : Heap) (locs : List Loc) (ls : Array Slot), f x2 s0 = some res → zW g A σ τ s H locs → lv_has ls 4 [(0, .ref (g.2.2 66)), (2, .int x2)] → W p l e (zR 0) s m args below meth c H locs 0 0 (MQ below (zPi g A σ (res, τ)) args s 0 0 A) (F0 m 38 ls [.int s0])
def PX7_need_4 (p : Program) (l : Launch) (e : Env) (s : State) (m : MethodId) (args : Array Value) (below : List Frame) (meth : Method) (c : Code) (g : zG) (A : Nat → Prop) (σ τ : zS) (res : Int32) (f : Int32 → Int32 → Option (Int32)) : Prop := ∀ (x1 : Int32) (x2 : Int32) (H : Heap) (locs : List Loc) (ls : Array Slot), f x1 x2 = some res → zW g A σ τ s H locs → lv_has ls 4 [(0, .ref (g.2.2 66)), (1, .int x1), (2, .int x2)] → W p l e (zR 0) s m args below meth c H locs 0 0 (MQ below (zPi g A σ (res, τ)) args s 0 0 A) (F0 m 4 ls [])
def fX7_need_38 (N : Nat) (τ : zS) (rc : Int32 → Int32 → Option (Int32)) (x2 : Int32) (s0 : Int32) : Option (Int32) :=
  rc s0 (x2 + (nI 1))
set_option maxRecDepth 100000 in
set_option maxHeartbeats 4000000 in
theorem hX7_need_38 {p : Program} {l : Launch} {e : Env} {s : State} {m : MethodId} {args : Array Value} {below : List Frame} {meth : Method} {c : Code} {g : zG} {A : Nat → Prop} {σ τ : zS} {res : Int32} (C : zCx p s m args meth c cX7_need (some .int) wsX7_need RX7 4) (E : zE g A s) (N : Nat) (rc : Int32 → Int32 → Option (Int32)) (hrc : PX7_need_4 p l e s m args below meth c g A σ τ res rc) : PX7_need_38 p l e s m args below meth c g A σ τ res (fX7_need_38 N τ rc) := by
  obtain ⟨hx, hb, hr, hml, hown, hts, hlocks⟩ := id C
  intro x2 s0 H locs ls hf hh hl
  unfold fX7_need_38 at hf
  refine lv_istore_n (lv' := [(1, .int s0), (0, .ref (g.2.2 66)), (2, .int x2)]) hx hb dX7_need_38 rfl hl (by decide) rfl (fun ls hl => ?_)
  refine lv_iinc (v := (x2 + (nI 1))) (lv' := [(2, .int (x2 + (nI 1))), (1, .int s0), (0, .ref (g.2.2 66))]) hx hb dX7_need_39 hl (k := 2) rfl rfl (by decide) rfl (fun ls hl => ?_)
  refine lv_goto (tgt := 4) hx hb dX7_need_42 (by decide) ?_
  exact hrc s0 (x2 + (nI 1)) _ _ _ hf hh (lv_sub hl [2, 1, 0] rfl)
def fX7_need_4 (N : Nat) (τ : zS) : Nat → Int32 → Int32 → Option (Int32)
  | 0, _, _ => none
  | n + 1, x1, x2 =>
    if (τ.1 66 2) ≤ x2 then
      some x1
    else
      if zin ((nI 15) + x2) (zlen 55) then
      zlet (τ.2 55 ((nI 15) + x2).toNatClampNeg) fun v3 =>
      zlet ((v3 - ((nI 2) * x2)) + (nI 1)) fun v4 =>
      if v4 ≤ x1 then
        (fX7_need_38 N τ (fX7_need_4 N τ n)) x2 x1
      else
        (fX7_need_38 N τ (fX7_need_4 N τ n)) x2 v4
      else none
set_option maxRecDepth 100000 in
set_option maxHeartbeats 4000000 in
theorem hX7_need_4 {p : Program} {l : Launch} {e : Env} {s : State} {m : MethodId} {args : Array Value} {below : List Frame} {meth : Method} {c : Code} {g : zG} {A : Nat → Prop} {σ τ : zS} {res : Int32} (C : zCx p s m args meth c cX7_need (some .int) wsX7_need RX7 4) (E : zE g A s) (N : Nat) : ∀ n : Nat, PX7_need_4 p l e s m args below meth c g A σ τ res (fX7_need_4 N τ n) := by
  obtain ⟨hx, hb, hr, hml, hown, hts, hlocks⟩ := id C
  intro n
  induction n with
  | zero =>
    intro x1 x2 H locs ls hf
    exact absurd hf (by simp [fX7_need_4])
  | succ n ih =>
    intro x1 x2 H locs ls hf hh hl
    rw [fX7_need_4] at hf
    refine lv_iload_n hx hb dX7_need_4 rfl (lv_at hl 2 rfl) ?_
    refine lv_aload_n hx hb dX7_need_5 rfl (lv_at hl 0 rfl) ?_
    refine z_get (v := .int (τ.1 66 2)) hx hb hts (fun w h => List.mem_cons_of_mem _ (List.mem_append_right _ (h))) hown E hh (by decide) (zC_obj (q := 66) rfl) rfl 2 (by decide) (hts (.fieldLink RX7 144 "TownBandModel" "robberMany" "I") (List.mem_cons_of_mem _ (List.mem_append_left _ (List.mem_of_getElem? (i := 0) rfl)))) rfl dX7_need_6 ?_
    refine lv_icmp_ge (tgt := 45) hx hb dX7_need_9 (by decide) (fun c_v1 => ?_) (fun c_v1 => ?_)
    · have hf := z_ip hf c_v1
      refine lv_iload_n hx hb dX7_need_45 rfl (lv_at hl 1 rfl) ?_
      have hf := Option.some.inj hf
      subst hf
      exact z_iretM hx hb hr hlocks hh dX7_need_46
    · have hf := z_in hf c_v1
      refine lv_aload_n hx hb dX7_need_12 rfl (lv_at hl 0 rfl) ?_
      refine z_get (v := .ref (g.2.2 55)) hx hb hts (fun w h => List.mem_cons_of_mem _ (List.mem_append_right _ (h))) hown E hh (by decide) (zC_obj (q := 66) rfl) rfl 0 (by decide) (hts (.fieldLink RX7 7 "TownBandModel" "state" "[I") (List.mem_cons_of_mem _ (List.mem_append_left _ (List.mem_of_getElem? (i := 1) rfl)))) rfl dX7_need_13 ?_
      refine lv_bipush (v := (nI 15)) hx hb dX7_need_16 (by decide) ?_
      refine lv_iload_n hx hb dX7_need_18 rfl (lv_at hl 2 rfl) ?_
      refine lv_iadd hx hb dX7_need_19 ?_
      obtain ⟨h_v2, hf⟩ := z_if hf
      obtain ⟨v3, e_v3, hf⟩ := z_lt hf
      refine z_ialdM hx hb E hh (by decide) (by decide) h_v2 e_v3 dX7_need_20 ?_
      refine lv_iconst (v := (nI 2)) hx hb dX7_need_21 (by decide) ?_
      refine lv_iload_n hx hb dX7_need_22 rfl (lv_at hl 2 rfl) ?_
      refine lv_imul hx hb dX7_need_23 ?_
      refine lv_isub hx hb dX7_need_24 ?_
      refine lv_iconst (v := (nI 1)) hx hb dX7_need_25 (by decide) ?_
      refine lv_iadd hx hb dX7_need_26 ?_
      obtain ⟨v4, e_v4, hf⟩ := z_lt hf
      refine z_topi e_v4 ?_
      refine lv_istore_n (lv' := [(3, .int v4), (0, .ref (g.2.2 66)), (1, .int x1), (2, .int x2)]) hx hb dX7_need_27 rfl hl (by decide) rfl (fun ls hl => ?_)
      refine lv_iload_n hx hb dX7_need_28 rfl (lv_at hl 0 rfl) ?_
      refine lv_iload_n hx hb dX7_need_29 rfl (lv_at hl 2 rfl) ?_
      refine lv_icmp_le (tgt := 37) hx hb dX7_need_30 (by decide) (fun c_v5 => ?_) (fun c_v5 => ?_)
      · have hf := z_ip hf c_v5
        refine lv_iload_n hx hb dX7_need_37 rfl (lv_at hl 2 rfl) ?_
        exact (hX7_need_38 C E N (fX7_need_4 N τ n) ih) x2 x1 _ _ _ hf hh (lv_sub hl [1, 3] rfl)
      · have hf := z_in hf c_v5
        refine lv_iload_n hx hb dX7_need_33 rfl (lv_at hl 0 rfl) ?_
        refine lv_goto (tgt := 38) hx hb dX7_need_34 (by decide) ?_
        exact (hX7_need_38 C E N (fX7_need_4 N τ n) ih) x2 v4 _ _ _ hf hh (lv_sub hl [1, 3] rfl)
def fX7_need (N : Nat) (τ : zS)  : Option (Int32) :=
  (fX7_need_4 N τ N) (nI 0) (nI 0)
set_option maxRecDepth 100000 in
set_option maxHeartbeats 4000000 in
theorem zcX7_need (l : Launch) (g : zG) (A : Nat → Prop) (σ τ : zS) (N : Nat)   {res : Int32} (hf : fX7_need N τ = some res) : Met l yX7_need wsX7_need (zR 0) (zPc g A σ τ [.ref (g.2.2 66)]) (zPi g A σ (res, τ)) 0 0 A := by
  refine z_met (cc := cX7_need) (ret := (some .int)) (own := RX7) (by decide) rfl rfl _ (Nat.le_of_ble_eq_true rfl) ?_
  intro p e s m below meth c C E ls hl hh
  have hl : lv_has ls 4 [(0, .ref (g.2.2 66))] := hl
  obtain ⟨hx, hb, hr, hml, hown, hts, hlocks⟩ := id C
  unfold fX7_need at hf
  refine lv_iconst (v := (nI 0)) hx hb dX7_need_0 (by decide) ?_
  refine lv_istore_n (lv' := [(1, .int (nI 0)), (0, .ref (g.2.2 66))]) hx hb dX7_need_1 rfl hl (by decide) rfl (fun ls hl => ?_)
  refine lv_iconst (v := (nI 0)) hx hb dX7_need_2 (by decide) ?_
  refine lv_istore_n (lv' := [(2, .int (nI 0)), (1, .int (nI 0)), (0, .ref (g.2.2 66))]) hx hb dX7_need_3 rfl hl (by decide) rfl (fun ls hl => ?_)
  exact (hX7_need_4 C E N N) (nI 0) (nI 0) _ _ _ hf hh (lv_sub hl [2, 1, 0] rfl)
/-! ===== X7_copies ===== -/
theorem hdX7_copies : yX7_copies.cls = RX7 ∧ yX7_copies.cls ≠ "java/lang/invoke/MethodHandle" ∧ yX7_copies.cls ≠ "java/lang/invoke/VarHandle" ∧ (parseMethodDescriptor yX7_copies.desc).map (fun d => d.parameters.length) = some 2 := by decide +kernel
def PX7_copies_2 (p : Program) (l : Launch) (e : Env) (s : State) (m : MethodId) (args : Array Value) (below : List Frame) (meth : Method) (c : Code) (g : zG) (A : Nat → Prop) (σ : zS) (res : zS) (f : Int32 → Int32 → Int32 → zS → Option (zS)) : Prop := ∀ (x1 : Int32) (x2 : Int32) (x3 : Int32) (τ : zS) (H : Heap) (locs : List Loc) (ls : Array Slot), f x1 x2 x3 τ = some res → zW g A σ τ s H locs → lv_has ls 4 [(0, .ref (g.2.2 66)), (1, .int x1), (2, .int x2), (3, .int x3)] → W p l e (zR 0) s m args below meth c H locs 0 0 (MQ below (zPv g A σ res) args s 0 0 A) (F0 m 2 ls [])
def fX7_copies_2 (N : Nat) : Nat → Int32 → Int32 → Int32 → zS → Option (zS)
  | 0, _, _, _, _ => none
  | n + 1, x1, x2, x3, τ =>
    if (nI 31) ≤ x3 then
      some τ
    else
      if zin (x1 + x3) (zlen 55) then
      zlet (τ.2 55 (x1 + x3).toNatClampNeg) fun v3 =>
      if zin (x2 + x3) (zlen 55) then
      zlet (zpa τ 55 (upd (τ.2 55) (x2 + x3).toNatClampNeg v3)) fun τ5 =>
      (fX7_copies_2 N n) x1 x2 (x3 + (nI 1)) τ5
      else none
      else none
set_option maxRecDepth 100000 in
set_option maxHeartbeats 4000000 in
theorem hX7_copies_2 {p : Program} {l : Launch} {e : Env} {s : State} {m : MethodId} {args : Array Value} {below : List Frame} {meth : Method} {c : Code} {g : zG} {A : Nat → Prop} {σ : zS} {res : zS} (C : zCx p s m args meth c cX7_copies none wsX7_copies RX7 4) (E : zE g A s) (N : Nat) : ∀ n : Nat, PX7_copies_2 p l e s m args below meth c g A σ res (fX7_copies_2 N n) := by
  obtain ⟨hx, hb, hr, hml, hown, hts, hlocks⟩ := id C
  intro n
  induction n with
  | zero =>
    intro x1 x2 x3 τ H locs ls hf
    exact absurd hf (by simp [fX7_copies_2])
  | succ n ih =>
    intro x1 x2 x3 τ H locs ls hf hh hl
    rw [fX7_copies_2] at hf
    refine lv_iload_n hx hb dX7_copies_2 rfl (lv_at hl 3 rfl) ?_
    refine lv_bipush (v := (nI 31)) hx hb dX7_copies_3 (by decide) ?_
    refine lv_icmp_ge (tgt := 30) hx hb dX7_copies_5 (by decide) (fun c_v1 => ?_) (fun c_v1 => ?_)
    · have hf := z_ip hf c_v1
      have hf := Option.some.inj hf
      subst hf
      exact z_vretM hx hb hr hlocks hh dX7_copies_30
    · have hf := z_in hf c_v1
      refine lv_aload_n hx hb dX7_copies_8 rfl (lv_at hl 0 rfl) ?_
      refine z_get (v := .ref (g.2.2 55)) hx hb hts (fun w h => List.mem_cons_of_mem _ (List.mem_append_right _ (h))) hown E hh (by decide) (zC_obj (q := 66) rfl) rfl 0 (by decide) (hts (.fieldLink RX7 7 "TownBandModel" "state" "[I") (List.mem_cons_of_mem _ (List.mem_append_left _ (List.mem_of_getElem? (i := 0) rfl)))) rfl dX7_copies_9 ?_
      refine lv_iload_n hx hb dX7_copies_12 rfl (lv_at hl 2 rfl) ?_
      refine lv_iload_n hx hb dX7_copies_13 rfl (lv_at hl 3 rfl) ?_
      refine lv_iadd hx hb dX7_copies_14 ?_
      refine lv_aload_n hx hb dX7_copies_15 rfl (lv_at hl 0 rfl) ?_
      refine z_get (v := .ref (g.2.2 55)) hx hb hts (fun w h => List.mem_cons_of_mem _ (List.mem_append_right _ (h))) hown E hh (by decide) (zC_obj (q := 66) rfl) rfl 0 (by decide) (hts (.fieldLink RX7 7 "TownBandModel" "state" "[I") (List.mem_cons_of_mem _ (List.mem_append_left _ (List.mem_of_getElem? (i := 0) rfl)))) rfl dX7_copies_16 ?_
      refine lv_iload_n hx hb dX7_copies_19 rfl (lv_at hl 1 rfl) ?_
      refine lv_iload_n hx hb dX7_copies_20 rfl (lv_at hl 3 rfl) ?_
      refine lv_iadd hx hb dX7_copies_21 ?_
      obtain ⟨h_v2, hf⟩ := z_if hf
      obtain ⟨v3, e_v3, hf⟩ := z_lt hf
      refine z_ialdM hx hb E hh (by decide) (by decide) h_v2 e_v3 dX7_copies_22 ?_
      obtain ⟨h_v4, hf⟩ := z_if hf
      obtain ⟨τ5, e_τ5, hf⟩ := z_lt hf
      refine z_iastM hx hb E hh (by decide) (by decide) h_v4 e_τ5 dX7_copies_23 (fun H locs hh => ?_)
      refine lv_iinc (v := (x3 + (nI 1))) (lv' := [(3, .int (x3 + (nI 1))), (0, .ref (g.2.2 66)), (1, .int x1), (2, .int x2)]) hx hb dX7_copies_24 hl (k := 3) rfl rfl (by decide) rfl (fun ls hl => ?_)
      refine lv_goto (tgt := 2) hx hb dX7_copies_27 (by decide) ?_
      exact ih x1 x2 (x3 + (nI 1)) τ5 _ _ _ hf hh (lv_sub hl [1, 2, 3, 0] rfl)
def fX7_copies (N : Nat) (τ : zS) (x1 : Int32) (x2 : Int32) : Option (zS) :=
  (fX7_copies_2 N N) x1 x2 (nI 0) τ
set_option maxRecDepth 100000 in
set_option maxHeartbeats 4000000 in
theorem zcX7_copies (l : Launch) (g : zG) (A : Nat → Prop) (σ τ : zS) (N : Nat) (x1 : Int32) (x2 : Int32)  {res : zS} (hf : fX7_copies N τ x1 x2 = some res) : Met l yX7_copies wsX7_copies (zR 0) (zPc g A σ τ [.ref (g.2.2 66), .int x1, .int x2]) (zPv g A σ res) 0 0 A := by
  refine z_met (cc := cX7_copies) (ret := none) (own := RX7) (by decide) rfl rfl _ (Nat.le_of_ble_eq_true rfl) ?_
  intro p e s m below meth c C E ls hl hh
  have hl : lv_has ls 4 [(0, .ref (g.2.2 66)), (1, .int x1), (2, .int x2)] := hl
  obtain ⟨hx, hb, hr, hml, hown, hts, hlocks⟩ := id C
  unfold fX7_copies at hf
  refine lv_iconst (v := (nI 0)) hx hb dX7_copies_0 (by decide) ?_
  refine lv_istore_n (lv' := [(3, .int (nI 0)), (0, .ref (g.2.2 66)), (1, .int x1), (2, .int x2)]) hx hb dX7_copies_1 rfl hl (by decide) rfl (fun ls hl => ?_)
  exact (hX7_copies_2 C E N N) x1 x2 (nI 0) τ _ _ _ hf hh (lv_sub hl [1, 2, 3, 0] rfl)
/-! ===== X7_powerOf ===== -/
theorem hdX7_powerOf : yX7_powerOf.cls = RX7 ∧ yX7_powerOf.cls ≠ "java/lang/invoke/MethodHandle" ∧ yX7_powerOf.cls ≠ "java/lang/invoke/VarHandle" ∧ (parseMethodDescriptor yX7_powerOf.desc).map (fun d => d.parameters.length) = some 1 := by decide +kernel
def PX7_powerOf_4 (p : Program) (l : Launch) (e : Env) (s : State) (m : MethodId) (args : Array Value) (below : List Frame) (meth : Method) (c : Code) (g : zG) (A : Nat → Prop) (σ τ : zS) (res : Int32) (f : Int32 → Int32 → Int32 → Option (Int32)) : Prop := ∀ (x0 : Int32) (x1 : Int32) (x2 : Int32) (H : Heap) (locs : List Loc) (ls : Array Slot), f x0 x1 x2 = some res → zW g A σ τ s H locs → lv_has ls 3 [(0, .int x0), (1, .int x1), (2, .int x2)] → W p l e (zR 0) s m args below meth c H locs 0 0 (MQ below (zPi g A σ (res, τ)) args s 0 0 A) (F0 m 4 ls [])
def fX7_powerOf_4 (N : Nat) : Nat → Int32 → Int32 → Int32 → Option (Int32)
  | 0, _, _, _ => none
  | n + 1, x0, x1, x2 =>
    if x0 ≤ x2 then
      some x1
    else
      zlet (x1 * (nI 5)) fun v2 =>
      (fX7_powerOf_4 N n) x0 v2 (x2 + (nI 1))
set_option maxRecDepth 100000 in
set_option maxHeartbeats 4000000 in
theorem hX7_powerOf_4 {p : Program} {l : Launch} {e : Env} {s : State} {m : MethodId} {args : Array Value} {below : List Frame} {meth : Method} {c : Code} {g : zG} {A : Nat → Prop} {σ τ : zS} {res : Int32} (C : zCx p s m args meth c cX7_powerOf (some .int) wsX7_powerOf RX7 3) (E : zE g A s) (N : Nat) : ∀ n : Nat, PX7_powerOf_4 p l e s m args below meth c g A σ τ res (fX7_powerOf_4 N n) := by
  obtain ⟨hx, hb, hr, hml, hown, hts, hlocks⟩ := id C
  intro n
  induction n with
  | zero =>
    intro x0 x1 x2 H locs ls hf
    exact absurd hf (by simp [fX7_powerOf_4])
  | succ n ih =>
    intro x0 x1 x2 H locs ls hf hh hl
    rw [fX7_powerOf_4] at hf
    refine lv_iload_n hx hb dX7_powerOf_4 rfl (lv_at hl 2 rfl) ?_
    refine lv_iload_n hx hb dX7_powerOf_5 rfl (lv_at hl 0 rfl) ?_
    refine lv_icmp_ge (tgt := 19) hx hb dX7_powerOf_6 (by decide) (fun c_v1 => ?_) (fun c_v1 => ?_)
    · have hf := z_ip hf c_v1
      refine lv_iload_n hx hb dX7_powerOf_19 rfl (lv_at hl 1 rfl) ?_
      have hf := Option.some.inj hf
      subst hf
      exact z_iretM hx hb hr hlocks hh dX7_powerOf_20
    · have hf := z_in hf c_v1
      refine lv_iload_n hx hb dX7_powerOf_9 rfl (lv_at hl 1 rfl) ?_
      refine lv_iconst (v := (nI 5)) hx hb dX7_powerOf_10 (by decide) ?_
      refine lv_imul hx hb dX7_powerOf_11 ?_
      obtain ⟨v2, e_v2, hf⟩ := z_lt hf
      refine z_topi e_v2 ?_
      refine lv_istore_n (lv' := [(1, .int v2), (0, .int x0), (2, .int x2)]) hx hb dX7_powerOf_12 rfl hl (by decide) rfl (fun ls hl => ?_)
      refine lv_iinc (v := (x2 + (nI 1))) (lv' := [(2, .int (x2 + (nI 1))), (1, .int v2), (0, .int x0)]) hx hb dX7_powerOf_13 hl (k := 2) rfl rfl (by decide) rfl (fun ls hl => ?_)
      refine lv_goto (tgt := 4) hx hb dX7_powerOf_16 (by decide) ?_
      exact ih x0 v2 (x2 + (nI 1)) _ _ _ hf hh (lv_sub hl [2, 1, 0] rfl)
def fX7_powerOf (N : Nat) (x0 : Int32) : Option (Int32) :=
  (fX7_powerOf_4 N N) x0 (nI 1) (nI 0)
set_option maxRecDepth 100000 in
set_option maxHeartbeats 4000000 in
theorem zcX7_powerOf (l : Launch) (g : zG) (A : Nat → Prop) (σ τ : zS) (N : Nat) (x0 : Int32)  {res : Int32} (hf : fX7_powerOf N x0 = some res) : Met l yX7_powerOf wsX7_powerOf (zR 0) (zPc g A σ τ [.int x0]) (zPi g A σ (res, τ)) 0 0 A := by
  refine z_met (cc := cX7_powerOf) (ret := (some .int)) (own := RX7) (by decide) rfl rfl _ (Nat.le_of_ble_eq_true rfl) ?_
  intro p e s m below meth c C E ls hl hh
  have hl : lv_has ls 3 [(0, .int x0)] := hl
  obtain ⟨hx, hb, hr, hml, hown, hts, hlocks⟩ := id C
  unfold fX7_powerOf at hf
  refine lv_iconst (v := (nI 1)) hx hb dX7_powerOf_0 (by decide) ?_
  refine lv_istore_n (lv' := [(1, .int (nI 1)), (0, .int x0)]) hx hb dX7_powerOf_1 rfl hl (by decide) rfl (fun ls hl => ?_)
  refine lv_iconst (v := (nI 0)) hx hb dX7_powerOf_2 (by decide) ?_
  refine lv_istore_n (lv' := [(2, .int (nI 0)), (1, .int (nI 1)), (0, .int x0)]) hx hb dX7_powerOf_3 rfl hl (by decide) rfl (fun ls hl => ?_)
  exact (hX7_powerOf_4 C E N N) x0 (nI 1) (nI 0) _ _ _ hf hh (lv_sub hl [2, 1, 0] rfl)
/-! ===== X7_figureOf ===== -/
theorem hdX7_figureOf : yX7_figureOf.cls = RX7 ∧ yX7_figureOf.cls ≠ "java/lang/invoke/MethodHandle" ∧ yX7_figureOf.cls ≠ "java/lang/invoke/VarHandle" ∧ (parseMethodDescriptor yX7_figureOf.desc).map (fun d => d.parameters.length) = some 3 := by decide +kernel
def fX7_figureOf (N : Nat) (x0 : Int32) (x1 : Int32) (x2 : Int32) : Option (Int32) :=
  (fX7_powerOf N ((x1 - (nI 1)) - x2)).bind fun q1 =>
  if ¬ (q1 = 0) then
  zlet (x0 / q1) fun v3 =>
  zlet (zrem v3 (nI 5)) fun v4 =>
  some v4
  else none
set_option maxRecDepth 100000 in
set_option maxHeartbeats 4000000 in
theorem zcX7_figureOf (l : Launch) (g : zG) (A : Nat → Prop) (σ τ : zS) (N : Nat) (x0 : Int32) (x1 : Int32) (x2 : Int32)  {res : Int32} (hf : fX7_figureOf N x0 x1 x2 = some res) : Met l yX7_figureOf wsX7_figureOf (zR 1) (zPc g A σ τ [.int x0, .int x1, .int x2]) (zPi g A σ (res, τ)) 0 0 A := by
  refine z_met (cc := cX7_figureOf) (ret := (some .int)) (own := RX7) (by decide) rfl rfl _ (Nat.le_of_ble_eq_true rfl) ?_
  intro p e s m below meth c C E ls hl hh
  have hl : lv_has ls 3 [(0, .int x0), (1, .int x1), (2, .int x2)] := hl
  obtain ⟨hx, hb, hr, hml, hown, hts, hlocks⟩ := id C
  unfold fX7_figureOf at hf
  refine lv_iload_n hx hb dX7_figureOf_0 rfl (lv_at hl 0 rfl) ?_
  refine lv_iload_n hx hb dX7_figureOf_1 rfl (lv_at hl 1 rfl) ?_
  refine lv_iconst (v := (nI 1)) hx hb dX7_figureOf_2 (by decide) ?_
  refine lv_isub hx hb dX7_figureOf_3 ?_
  refine lv_iload_n hx hb dX7_figureOf_4 rfl (lv_at hl 2 rfl) ?_
  refine lv_isub hx hb dX7_figureOf_5 ?_
  obtain ⟨q1, h_q1, hf⟩ := z_bd hf
  refine z_mi (va_runS (As := [.int ((x1 - (nI 1)) - x2)]) (rest := [.int x0]) ⟨hx, hb, hml, hown, hts⟩ (zcX7_powerOf l g A σ τ N ((x1 - (nI 1)) - x2) h_q1) (va_cwS 1 hts gX7_figureOf_X7_powerOf rfl rfl rfl hdX7_powerOf.2 ⟨by decide, by decide⟩) (z_preS E hh) rfl rfl hl.1 rfl (lv_room (Nat.le_of_ble_eq_true rfl)) dX7_figureOf_6 ⟨Nat.le_refl _, Nat.le_refl _⟩) hh (fun H locs hh => ?_)
  obtain ⟨h_v2, hf⟩ := z_if hf
  obtain ⟨v3, e_v3, hf⟩ := z_lt hf
  refine lv_idiv hx hb dX7_figureOf_9 h_v2 ?_
  refine z_topi e_v3 ?_
  refine lv_iconst (v := (nI 5)) hx hb dX7_figureOf_10 (by decide) ?_
  obtain ⟨v4, e_v4, hf⟩ := z_lt hf
  refine lv_irem hx hb dX7_figureOf_11 (by decide) ?_
  refine z_topi e_v4 ?_
  have hf := Option.some.inj hf
  subst hf
  exact z_iretM hx hb hr hlocks hh dX7_figureOf_12
/-! ===== X7_rowOf ===== -/
theorem hdX7_rowOf : yX7_rowOf.cls = RX7 ∧ yX7_rowOf.cls ≠ "java/lang/invoke/MethodHandle" ∧ yX7_rowOf.cls ≠ "java/lang/invoke/VarHandle" ∧ (parseMethodDescriptor yX7_rowOf.desc).map (fun d => d.parameters.length) = some 2 := by decide +kernel
def PX7_rowOf_5 (p : Program) (l : Launch) (e : Env) (s : State) (m : MethodId) (args : Array Value) (below : List Frame) (meth : Method) (c : Code) (g : zG) (A : Nat → Prop) (σ τ : zS) (res : Int32) (f : Int32 → Int32 → Int32 → Int32 → Option (Int32)) : Prop := ∀ (x1 : Int32) (x2 : Int32) (x3 : Int32) (x4 : Int32) (H : Heap) (locs : List Loc) (ls : Array Slot), f x1 x2 x3 x4 = some res → zW g A σ τ s H locs → lv_has ls 6 [(0, .ref (g.2.2 66)), (1, .int x1), (2, .int x2), (3, .int x3), (4, .int x4)] → W p l e (zR 2) s m args below meth c H locs 0 0 (MQ below (zPi g A σ (res, τ)) args s 0 0 A) (F0 m 5 ls [])
def fX7_rowOf_5 (N : Nat) (τ : zS) : Nat → Int32 → Int32 → Int32 → Int32 → Option (Int32)
  | 0, _, _, _, _ => none
  | n + 1, x1, x2, x3, x4 =>
    if x2 ≤ x4 then
      some x3
    else
      (fX7_figureOf N x1 x2 x4).bind fun q2 =>
      (fX7_isBeast N τ q2).bind fun q3 =>
      if q3 = 0 then
        some (nI 0)
      else
        if ((x3 >>> (q2 &&& 31)) &&& (nI 1)) = (nI 1) then
          some (nI 0)
        else
          zlet (x3 ||| ((nI 1) <<< (q2 &&& 31))) fun v6 =>
          (fX7_rowOf_5 N τ n) x1 x2 v6 (x4 + (nI 1))
set_option maxRecDepth 100000 in
set_option maxHeartbeats 4000000 in
theorem hX7_rowOf_5 {p : Program} {l : Launch} {e : Env} {s : State} {m : MethodId} {args : Array Value} {below : List Frame} {meth : Method} {c : Code} {g : zG} {A : Nat → Prop} {σ τ : zS} {res : Int32} (C : zCx p s m args meth c cX7_rowOf (some .int) wsX7_rowOf RX7 6) (E : zE g A s) (N : Nat) : ∀ n : Nat, PX7_rowOf_5 p l e s m args below meth c g A σ τ res (fX7_rowOf_5 N τ n) := by
  obtain ⟨hx, hb, hr, hml, hown, hts, hlocks⟩ := id C
  intro n
  induction n with
  | zero =>
    intro x1 x2 x3 x4 H locs ls hf
    exact absurd hf (by simp [fX7_rowOf_5])
  | succ n ih =>
    intro x1 x2 x3 x4 H locs ls hf hh hl
    rw [fX7_rowOf_5] at hf
    refine lv_iload hx hb dX7_rowOf_5 (lv_at hl 4 rfl) ?_
    refine lv_iload_n hx hb dX7_rowOf_7 rfl (lv_at hl 2 rfl) ?_
    refine lv_icmp_ge (tgt := 54) hx hb dX7_rowOf_8 (by decide) (fun c_v1 => ?_) (fun c_v1 => ?_)
    · have hf := z_ip hf c_v1
      refine lv_iload_n hx hb dX7_rowOf_54 rfl (lv_at hl 3 rfl) ?_
      have hf := Option.some.inj hf
      subst hf
      exact z_iretM hx hb hr hlocks hh dX7_rowOf_55
    · have hf := z_in hf c_v1
      refine lv_iload_n hx hb dX7_rowOf_11 rfl (lv_at hl 1 rfl) ?_
      refine lv_iload_n hx hb dX7_rowOf_12 rfl (lv_at hl 2 rfl) ?_
      refine lv_iload hx hb dX7_rowOf_13 (lv_at hl 4 rfl) ?_
      obtain ⟨q2, h_q2, hf⟩ := z_bd hf
      refine z_mi (va_runS (As := [.int x1, .int x2, .int x4]) (rest := []) ⟨hx, hb, hml, hown, hts⟩ (zcX7_figureOf l g A σ τ N x1 x2 x4 h_q2) (va_cwS 3 hts gX7_rowOf_X7_figureOf rfl rfl rfl hdX7_figureOf.2 ⟨by decide, by decide⟩) (z_preS E hh) rfl rfl hl.1 rfl (lv_room (Nat.le_of_ble_eq_true rfl)) dX7_rowOf_15 ⟨Nat.le_refl _, Nat.le_refl _⟩) hh (fun H locs hh => ?_)
      refine lv_istore (lv' := [(5, .int q2), (0, .ref (g.2.2 66)), (1, .int x1), (2, .int x2), (3, .int x3), (4, .int x4)]) hx hb dX7_rowOf_18 hl (by decide) rfl (fun ls hl => ?_)
      refine lv_aload_n hx hb dX7_rowOf_20 rfl (lv_at hl 1 rfl) ?_
      refine lv_iload hx hb dX7_rowOf_21 (lv_at hl 0 rfl) ?_
      obtain ⟨q3, h_q3, hf⟩ := z_bd hf
      refine z_mi (va_runV (As := [.int q2]) (rest := []) ⟨hx, hb, hml, hown, hts⟩ (zcX7_isBeast l g A σ τ N q2 h_q3) (cwV 1 hts gX7_rowOf_X7_isBeast rfl rfl rfl hdX7_isBeast ⟨by decide, by decide⟩) (z_preV E hh (by decide) (zC_obj (q := 66) rfl) rfl) rfl rfl hl.1 rfl (lv_room (Nat.le_of_ble_eq_true rfl)) dX7_rowOf_23 ⟨Nat.le_refl _, Nat.le_refl _⟩) hh (fun H locs hh => ?_)
      refine lv_if_eq (tgt := 39) hx hb dX7_rowOf_26 (by decide) (fun c_v4 => ?_) (fun c_v4 => ?_)
      · have hf := z_ip hf c_v4
        refine lv_iconst (v := (nI 0)) hx hb dX7_rowOf_39 (by decide) ?_
        have hf := Option.some.inj hf
        subst hf
        exact z_iretM hx hb hr hlocks hh dX7_rowOf_40
      · have hf := z_in hf c_v4
        refine lv_iload_n hx hb dX7_rowOf_29 rfl (lv_at hl 4 rfl) ?_
        refine lv_iload hx hb dX7_rowOf_30 (lv_at hl 0 rfl) ?_
        refine lv_ishr hx hb dX7_rowOf_32 ?_
        refine lv_iconst (v := (nI 1)) hx hb dX7_rowOf_33 (by decide) ?_
        refine lv_iand hx hb dX7_rowOf_34 ?_
        refine lv_iconst (v := (nI 1)) hx hb dX7_rowOf_35 (by decide) ?_
        refine lv_icmp_ne (tgt := 41) hx hb dX7_rowOf_36 (by decide) (fun c_v5 => ?_) (fun c_v5 => ?_)
        · have hf := z_in hf c_v5
          refine lv_iload_n hx hb dX7_rowOf_41 rfl (lv_at hl 4 rfl) ?_
          refine lv_iconst (v := (nI 1)) hx hb dX7_rowOf_42 (by decide) ?_
          refine lv_iload hx hb dX7_rowOf_43 (lv_at hl 0 rfl) ?_
          refine lv_ishl hx hb dX7_rowOf_45 ?_
          refine lv_ior hx hb dX7_rowOf_46 ?_
          obtain ⟨v6, e_v6, hf⟩ := z_lt hf
          refine z_topi e_v6 ?_
          refine lv_istore_n (lv' := [(3, .int v6), (5, .int q2), (0, .ref (g.2.2 66)), (1, .int x1), (2, .int x2), (4, .int x4)]) hx hb dX7_rowOf_47 rfl hl (by decide) rfl (fun ls hl => ?_)
          refine lv_iinc (v := (x4 + (nI 1))) (lv' := [(4, .int (x4 + (nI 1))), (3, .int v6), (5, .int q2), (0, .ref (g.2.2 66)), (1, .int x1), (2, .int x2)]) hx hb dX7_rowOf_48 hl (k := 5) rfl rfl (by decide) rfl (fun ls hl => ?_)
          refine lv_goto (tgt := 5) hx hb dX7_rowOf_51 (by decide) ?_
          exact ih x1 x2 v6 (x4 + (nI 1)) _ _ _ hf hh (lv_sub hl [3, 4, 5, 1, 0] rfl)
        · have hf := z_ip hf c_v5
          refine lv_iconst (v := (nI 0)) hx hb dX7_rowOf_39 (by decide) ?_
          have hf := Option.some.inj hf
          subst hf
          exact z_iretM hx hb hr hlocks hh dX7_rowOf_40
def fX7_rowOf (N : Nat) (τ : zS) (x1 : Int32) (x2 : Int32) : Option (Int32) :=
  (fX7_rowOf_5 N τ N) x1 x2 (nI 0) (nI 0)
set_option maxRecDepth 100000 in
set_option maxHeartbeats 4000000 in
theorem zcX7_rowOf (l : Launch) (g : zG) (A : Nat → Prop) (σ τ : zS) (N : Nat) (x1 : Int32) (x2 : Int32)  {res : Int32} (hf : fX7_rowOf N τ x1 x2 = some res) : Met l yX7_rowOf wsX7_rowOf (zR 2) (zPc g A σ τ [.ref (g.2.2 66), .int x1, .int x2]) (zPi g A σ (res, τ)) 0 0 A := by
  refine z_met (cc := cX7_rowOf) (ret := (some .int)) (own := RX7) (by decide) rfl rfl _ (Nat.le_of_ble_eq_true rfl) ?_
  intro p e s m below meth c C E ls hl hh
  have hl : lv_has ls 6 [(0, .ref (g.2.2 66)), (1, .int x1), (2, .int x2)] := hl
  obtain ⟨hx, hb, hr, hml, hown, hts, hlocks⟩ := id C
  unfold fX7_rowOf at hf
  refine lv_iconst (v := (nI 0)) hx hb dX7_rowOf_0 (by decide) ?_
  refine lv_istore_n (lv' := [(3, .int (nI 0)), (0, .ref (g.2.2 66)), (1, .int x1), (2, .int x2)]) hx hb dX7_rowOf_1 rfl hl (by decide) rfl (fun ls hl => ?_)
  refine lv_iconst (v := (nI 0)) hx hb dX7_rowOf_2 (by decide) ?_
  refine lv_istore (lv' := [(4, .int (nI 0)), (3, .int (nI 0)), (0, .ref (g.2.2 66)), (1, .int x1), (2, .int x2)]) hx hb dX7_rowOf_3 hl (by decide) rfl (fun ls hl => ?_)
  exact (hX7_rowOf_5 C E N N) x1 x2 (nI 0) (nI 0) _ _ _ hf hh (lv_sub hl [2, 3, 4, 1, 0] rfl)
/-! ===== X7_laysTower ===== -/
theorem hdX7_laysTower : yX7_laysTower.cls = RX7 ∧ yX7_laysTower.cls ≠ "java/lang/invoke/MethodHandle" ∧ yX7_laysTower.cls ≠ "java/lang/invoke/VarHandle" ∧ (parseMethodDescriptor yX7_laysTower.desc).map (fun d => d.parameters.length) = some 3 := by decide +kernel
def PX7_laysTower_60 (p : Program) (l : Launch) (e : Env) (s : State) (m : MethodId) (args : Array Value) (below : List Frame) (meth : Method) (c : Code) (g : zG) (A : Nat → Prop) (σ : zS) (res : Int32 × zS) (f : Int32 → zS → Option (Int32 × zS)) : Prop := ∀ (x2 : Int32) (τ : zS) (H : Heap) (locs : List Loc) (ls : Array Slot), f x2 τ = some res → zW g A σ τ s H locs → lv_has ls 6 [(0, .ref (g.2.2 66)), (2, .int x2)] → W p l e (zR 3) s m args below meth c H locs 0 0 (MQ below (zPi g A σ res) args s 0 0 A) (F0 m 60 ls [])
def PX7_laysTower_31 (p : Program) (l : Launch) (e : Env) (s : State) (m : MethodId) (args : Array Value) (below : List Frame) (meth : Method) (c : Code) (g : zG) (A : Nat → Prop) (σ : zS) (res : Int32 × zS) (f : Int32 → Int32 → Int32 → zS → Option (Int32 × zS)) : Prop := ∀ (x1 : Int32) (x2 : Int32) (x5 : Int32) (τ : zS) (H : Heap) (locs : List Loc) (ls : Array Slot), f x1 x2 x5 τ = some res → zW g A σ τ s H locs → lv_has ls 6 [(0, .ref (g.2.2 66)), (1, .int x1), (2, .int x2), (5, .int x5)] → W p l e (zR 3) s m args below meth c H locs 0 0 (MQ below (zPi g A σ res) args s 0 0 A) (F0 m 31 ls [])
def PX7_laysTower_17 (p : Program) (l : Launch) (e : Env) (s : State) (m : MethodId) (args : Array Value) (below : List Frame) (meth : Method) (c : Code) (g : zG) (A : Nat → Prop) (σ : zS) (res : Int32 × zS) (f : Int32 → Int32 → Int32 → Int32 → zS → Option (Int32 × zS)) : Prop := ∀ (x1 : Int32) (x2 : Int32) (x3 : Int32) (x4 : Int32) (τ : zS) (H : Heap) (locs : List Loc) (ls : Array Slot), f x1 x2 x3 x4 τ = some res → zW g A σ τ s H locs → lv_has ls 6 [(0, .ref (g.2.2 66)), (1, .int x1), (2, .int x2), (3, .int x3), (4, .int x4)] → W p l e (zR 3) s m args below meth c H locs 0 0 (MQ below (zPi g A σ res) args s 0 0 A) (F0 m 17 ls [])
def fX7_laysTower_60 (N : Nat) (x2 : Int32) (τ : zS) : Option (Int32 × zS) :=
  if zin (nI 24) (zlen 55) then
  zlet (zpa τ 55 (upd (τ.2 55) (nI 24).toNatClampNeg x2)) fun τ2 =>
  (fX7_standsOn N τ2 (nI 0)).bind fun q3 =>
  if q3 = 0 ∨ q3 = 1 then
  some (q3, τ2)
  else none
  else none
set_option maxRecDepth 100000 in
set_option maxHeartbeats 4000000 in
theorem hX7_laysTower_60 {p : Program} {l : Launch} {e : Env} {s : State} {m : MethodId} {args : Array Value} {below : List Frame} {meth : Method} {c : Code} {g : zG} {A : Nat → Prop} {σ : zS} {res : Int32 × zS} (C : zCx p s m args meth c cX7_laysTower (some .boolean) wsX7_laysTower RX7 6) (E : zE g A s) (N : Nat) : PX7_laysTower_60 p l e s m args below meth c g A σ res (fX7_laysTower_60 N) := by
  obtain ⟨hx, hb, hr, hml, hown, hts, hlocks⟩ := id C
  intro x2 τ H locs ls hf hh hl
  unfold fX7_laysTower_60 at hf
  refine lv_aload_n hx hb dX7_laysTower_60 rfl (lv_at hl 0 rfl) ?_
  refine z_get (v := .ref (g.2.2 55)) hx hb hts (fun w h => List.mem_cons_of_mem _ (List.mem_append_right _ (h))) hown E hh (by decide) (zC_obj (q := 66) rfl) rfl 0 (by decide) (hts (.fieldLink RX7 7 "TownBandModel" "state" "[I") (List.mem_cons_of_mem _ (List.mem_append_left _ (List.mem_append_left _ (List.mem_of_getElem? (i := 0) rfl))))) rfl dX7_laysTower_61 ?_
  refine lv_bipush (v := (nI 24)) hx hb dX7_laysTower_64 (by decide) ?_
  refine lv_iload_n hx hb dX7_laysTower_66 rfl (lv_at hl 1 rfl) ?_
  obtain ⟨h_v1, hf⟩ := z_if hf
  obtain ⟨τ2, e_τ2, hf⟩ := z_lt hf
  refine z_iastM hx hb E hh (by decide) (by decide) h_v1 e_τ2 dX7_laysTower_67 (fun H locs hh => ?_)
  refine lv_aload_n hx hb dX7_laysTower_68 rfl (lv_at hl 0 rfl) ?_
  refine lv_iconst (v := (nI 0)) hx hb dX7_laysTower_69 (by decide) ?_
  obtain ⟨q3, h_q3, hf⟩ := z_bd hf
  refine z_mi (va_runV (As := [.int (nI 0)]) (rest := []) ⟨hx, hb, hml, hown, hts⟩ (zcX7_standsOn l g A σ τ2 N (nI 0) h_q3) (cwV 1 hts gX7_laysTower_X7_standsOn rfl rfl rfl hdX7_standsOn ⟨by decide, by decide⟩) (z_preV E hh (by decide) (zC_obj (q := 66) rfl) rfl) rfl rfl hl.1 rfl (lv_room (Nat.le_of_ble_eq_true rfl)) dX7_laysTower_70 ⟨Nat.le_refl _, Nat.le_refl _⟩) hh (fun H locs hh => ?_)
  obtain ⟨h_v4, hf⟩ := z_if hf
  have hf := Option.some.inj hf
  subst hf
  exact z_zretM hx hb hr hlocks h_v4 hh dX7_laysTower_73
def fX7_laysTower_31 (N : Nat) (k_60 : Int32 → zS → Option (Int32 × zS)) : Nat → Int32 → Int32 → Int32 → zS → Option (Int32 × zS)
  | 0, _, _, _, _ => none
  | n + 1, x1, x2, x5, τ =>
    if x2 ≤ x5 then
      k_60 x2 τ
    else
      (fX7_figureOf N x1 x2 x5).bind fun q2 =>
      if zin ((nI 19) + x5) (zlen 55) then
      zlet (zpa τ 55 (upd (τ.2 55) ((nI 19) + x5).toNatClampNeg q2)) fun τ4 =>
      (fX7_laysTower_31 N k_60 n) x1 x2 (x5 + (nI 1)) τ4
      else none
set_option maxRecDepth 100000 in
set_option maxHeartbeats 4000000 in
theorem hX7_laysTower_31 {p : Program} {l : Launch} {e : Env} {s : State} {m : MethodId} {args : Array Value} {below : List Frame} {meth : Method} {c : Code} {g : zG} {A : Nat → Prop} {σ : zS} {res : Int32 × zS} (C : zCx p s m args meth c cX7_laysTower (some .boolean) wsX7_laysTower RX7 6) (E : zE g A s) (N : Nat) (k_60 : Int32 → zS → Option (Int32 × zS)) (hk_60 : PX7_laysTower_60 p l e s m args below meth c g A σ res k_60) : ∀ n : Nat, PX7_laysTower_31 p l e s m args below meth c g A σ res (fX7_laysTower_31 N k_60 n) := by
  obtain ⟨hx, hb, hr, hml, hown, hts, hlocks⟩ := id C
  intro n
  induction n with
  | zero =>
    intro x1 x2 x5 τ H locs ls hf
    exact absurd hf (by simp [fX7_laysTower_31])
  | succ n ih =>
    intro x1 x2 x5 τ H locs ls hf hh hl
    rw [fX7_laysTower_31] at hf
    refine lv_iload hx hb dX7_laysTower_31 (lv_at hl 3 rfl) ?_
    refine lv_iload_n hx hb dX7_laysTower_33 rfl (lv_at hl 2 rfl) ?_
    refine lv_icmp_ge (tgt := 60) hx hb dX7_laysTower_34 (by decide) (fun c_v1 => ?_) (fun c_v1 => ?_)
    · have hf := z_ip hf c_v1
      exact hk_60 x2 τ _ _ _ hf hh (lv_sub hl [0, 2] rfl)
    · have hf := z_in hf c_v1
      refine lv_aload_n hx hb dX7_laysTower_37 rfl (lv_at hl 0 rfl) ?_
      refine z_get (v := .ref (g.2.2 55)) hx hb hts (fun w h => List.mem_cons_of_mem _ (List.mem_append_right _ (h))) hown E hh (by decide) (zC_obj (q := 66) rfl) rfl 0 (by decide) (hts (.fieldLink RX7 7 "TownBandModel" "state" "[I") (List.mem_cons_of_mem _ (List.mem_append_left _ (List.mem_append_left _ (List.mem_of_getElem? (i := 0) rfl))))) rfl dX7_laysTower_38 ?_
      refine lv_bipush (v := (nI 19)) hx hb dX7_laysTower_41 (by decide) ?_
      refine lv_iload hx hb dX7_laysTower_43 (lv_at hl 3 rfl) ?_
      refine lv_iadd hx hb dX7_laysTower_45 ?_
      refine lv_iload_n hx hb dX7_laysTower_46 rfl (lv_at hl 1 rfl) ?_
      refine lv_iload_n hx hb dX7_laysTower_47 rfl (lv_at hl 2 rfl) ?_
      refine lv_iload hx hb dX7_laysTower_48 (lv_at hl 3 rfl) ?_
      obtain ⟨q2, h_q2, hf⟩ := z_bd hf
      refine z_mi (va_runS (As := [.int x1, .int x2, .int x5]) (rest := [.int ((nI 19) + x5), .ref (g.2.2 55)]) ⟨hx, hb, hml, hown, hts⟩ (zcX7_figureOf l g A σ τ N x1 x2 x5 h_q2) (va_cwS 3 hts gX7_laysTower_X7_figureOf rfl rfl rfl hdX7_figureOf.2 ⟨by decide, by decide⟩) (z_preS E hh) rfl rfl hl.1 rfl (lv_room (Nat.le_of_ble_eq_true rfl)) dX7_laysTower_50 ⟨Nat.le_refl _, Nat.le_refl _⟩) hh (fun H locs hh => ?_)
      obtain ⟨h_v3, hf⟩ := z_if hf
      obtain ⟨τ4, e_τ4, hf⟩ := z_lt hf
      refine z_iastM hx hb E hh (by decide) (by decide) h_v3 e_τ4 dX7_laysTower_53 (fun H locs hh => ?_)
      refine lv_iinc (v := (x5 + (nI 1))) (lv' := [(5, .int (x5 + (nI 1))), (0, .ref (g.2.2 66)), (1, .int x1), (2, .int x2)]) hx hb dX7_laysTower_54 hl (k := 3) rfl rfl (by decide) rfl (fun ls hl => ?_)
      refine lv_goto (tgt := 31) hx hb dX7_laysTower_57 (by decide) ?_
      exact ih x1 x2 (x5 + (nI 1)) τ4 _ _ _ hf hh (lv_sub hl [1, 2, 3, 0] rfl)
def fX7_laysTower_17 (N : Nat) (x1 : Int32) (x2 : Int32) (x3 : Int32) (x4 : Int32) (τ : zS) : Option (Int32 × zS) :=
  if (x4 &&& (x3 ^^^ (-1))) = 0 then
    (fX7_laysTower_31 N (fX7_laysTower_60 N) N) x1 x2 (nI 0) τ
  else
    some (0, τ)
set_option maxRecDepth 100000 in
set_option maxHeartbeats 4000000 in
theorem hX7_laysTower_17 {p : Program} {l : Launch} {e : Env} {s : State} {m : MethodId} {args : Array Value} {below : List Frame} {meth : Method} {c : Code} {g : zG} {A : Nat → Prop} {σ : zS} {res : Int32 × zS} (C : zCx p s m args meth c cX7_laysTower (some .boolean) wsX7_laysTower RX7 6) (E : zE g A s) (N : Nat) : PX7_laysTower_17 p l e s m args below meth c g A σ res (fX7_laysTower_17 N) := by
  obtain ⟨hx, hb, hr, hml, hown, hts, hlocks⟩ := id C
  intro x1 x2 x3 x4 τ H locs ls hf hh hl
  unfold fX7_laysTower_17 at hf
  refine lv_iload hx hb dX7_laysTower_17 (lv_at hl 4 rfl) ?_
  refine lv_iload_n hx hb dX7_laysTower_19 rfl (lv_at hl 3 rfl) ?_
  refine lv_iconst (v := (-1)) hx hb dX7_laysTower_20 (by decide) ?_
  refine lv_ixor hx hb dX7_laysTower_21 ?_
  refine lv_iand hx hb dX7_laysTower_22 ?_
  refine lv_if_eq (tgt := 28) hx hb dX7_laysTower_23 (by decide) (fun c_v1 => ?_) (fun c_v1 => ?_)
  · have hf := z_ip hf c_v1
    refine lv_iconst (v := (nI 0)) hx hb dX7_laysTower_28 (by decide) ?_
    refine lv_istore (lv' := [(5, .int (nI 0)), (0, .ref (g.2.2 66)), (1, .int x1), (2, .int x2), (3, .int x3), (4, .int x4)]) hx hb dX7_laysTower_29 hl (by decide) rfl (fun ls hl => ?_)
    exact (hX7_laysTower_31 C E N (fX7_laysTower_60 N) (hX7_laysTower_60 C E N) N) x1 x2 (nI 0) τ _ _ _ hf hh (lv_sub hl [1, 2, 3, 0] rfl)
  · have hf := z_in hf c_v1
    refine lv_iconst (v := (nI 0)) hx hb dX7_laysTower_26 (by decide) ?_
    have hf := Option.some.inj hf
    subst hf
    exact z_zretM hx hb hr hlocks (Or.inl rfl) hh dX7_laysTower_27
def fX7_laysTower (N : Nat) (τ : zS) (x1 : Int32) (x2 : Int32) (x3 : Int32) : Option (Int32 × zS) :=
  (fX7_rowOf N τ x1 x2).bind fun q1 =>
  if x2 ≤ 0 then
    (fX7_laysTower_17 N) x1 x2 x3 q1 τ
  else
    if q1 = 0 then
      some (0, τ)
    else
      (fX7_laysTower_17 N) x1 x2 x3 q1 τ
set_option maxRecDepth 100000 in
set_option maxHeartbeats 4000000 in
theorem zcX7_laysTower (l : Launch) (g : zG) (A : Nat → Prop) (σ τ : zS) (N : Nat) (x1 : Int32) (x2 : Int32) (x3 : Int32)  {res : Int32 × zS} (hf : fX7_laysTower N τ x1 x2 x3 = some res) : Met l yX7_laysTower wsX7_laysTower (zR 3) (zPc g A σ τ [.ref (g.2.2 66), .int x1, .int x2, .int x3]) (zPi g A σ res) 0 0 A := by
  refine z_met (cc := cX7_laysTower) (ret := (some .boolean)) (own := RX7) (by decide) rfl rfl _ (Nat.le_of_ble_eq_true rfl) ?_
  intro p e s m below meth c C E ls hl hh
  have hl : lv_has ls 6 [(0, .ref (g.2.2 66)), (1, .int x1), (2, .int x2), (3, .int x3)] := hl
  obtain ⟨hx, hb, hr, hml, hown, hts, hlocks⟩ := id C
  unfold fX7_laysTower at hf
  refine lv_aload_n hx hb dX7_laysTower_0 rfl (lv_at hl 0 rfl) ?_
  refine lv_iload_n hx hb dX7_laysTower_1 rfl (lv_at hl 1 rfl) ?_
  refine lv_iload_n hx hb dX7_laysTower_2 rfl (lv_at hl 2 rfl) ?_
  obtain ⟨q1, h_q1, hf⟩ := z_bd hf
  refine z_mi (va_runV (As := [.int x1, .int x2]) (rest := []) ⟨hx, hb, hml, hown, hts⟩ (zcX7_rowOf l g A σ τ N x1 x2 h_q1) (cwV 2 hts gX7_laysTower_X7_rowOf rfl rfl rfl hdX7_rowOf ⟨by decide, by decide⟩) (z_preV E hh (by decide) (zC_obj (q := 66) rfl) rfl) rfl rfl hl.1 rfl (lv_room (Nat.le_of_ble_eq_true rfl)) dX7_laysTower_3 ⟨Nat.le_refl _, Nat.le_refl _⟩) hh (fun H locs hh => ?_)
  refine lv_istore (lv' := [(4, .int q1), (0, .ref (g.2.2 66)), (1, .int x1), (2, .int x2), (3, .int x3)]) hx hb dX7_laysTower_6 hl (by decide) rfl (fun ls hl => ?_)
  refine lv_iload_n hx hb dX7_laysTower_8 rfl (lv_at hl 3 rfl) ?_
  refine lv_if_le (tgt := 17) hx hb dX7_laysTower_9 (by decide) (fun c_v2 => ?_) (fun c_v2 => ?_)
  · have hf := z_ip hf c_v2
    exact (hX7_laysTower_17 C E N) x1 x2 x3 q1 τ _ _ _ hf hh (lv_sub hl [1, 2, 3, 4, 0] rfl)
  · have hf := z_in hf c_v2
    refine lv_iload hx hb dX7_laysTower_12 (lv_at hl 0 rfl) ?_
    refine lv_if_eq (tgt := 26) hx hb dX7_laysTower_14 (by decide) (fun c_v3 => ?_) (fun c_v3 => ?_)
    · have hf := z_ip hf c_v3
      refine lv_iconst (v := (nI 0)) hx hb dX7_laysTower_26 (by decide) ?_
      have hf := Option.some.inj hf
      subst hf
      exact z_zretM hx hb hr hlocks (Or.inl rfl) hh dX7_laysTower_27
    · have hf := z_in hf c_v3
      exact (hX7_laysTower_17 C E N) x1 x2 x3 q1 τ _ _ _ hf hh (lv_sub hl [1, 2, 3, 4, 0] rfl)
/-! ===== X7_allTowers ===== -/
theorem hdX7_allTowers : yX7_allTowers.cls = RX7 ∧ yX7_allTowers.cls ≠ "java/lang/invoke/MethodHandle" ∧ yX7_allTowers.cls ≠ "java/lang/invoke/VarHandle" ∧ (parseMethodDescriptor yX7_allTowers.desc).map (fun d => d.parameters.length) = some 2 := by decide +kernel
def PX7_allTowers_131 (p : Program) (l : Launch) (e : Env) (s : State) (m : MethodId) (args : Array Value) (below : List Frame) (meth : Method) (c : Code) (g : zG) (A : Nat → Prop) (σ : zS) (res : zS) (f : zS → Option (zS)) : Prop := ∀  (τ : zS) (H : Heap) (locs : List Loc) (ls : Array Slot), f τ = some res → zW g A σ τ s H locs → lv_has ls 7 [(0, .ref (g.2.2 66))] → W p l e (zR 4) s m args below meth c H locs 0 0 (MQ below (zPv g A σ res) args s 0 0 A) (F0 m 131 ls [])
def PX7_allTowers_125 (p : Program) (l : Launch) (e : Env) (s : State) (m : MethodId) (args : Array Value) (below : List Frame) (meth : Method) (c : Code) (g : zG) (A : Nat → Prop) (σ : zS) (res : zS) (f : Int32 → Int32 → Int32 → zS → Option (zS)) : Prop := ∀ (x1 : Int32) (x2 : Int32) (x3 : Int32) (τ : zS) (H : Heap) (locs : List Loc) (ls : Array Slot), f x1 x2 x3 τ = some res → zW g A σ τ s H locs → lv_has ls 7 [(0, .ref (g.2.2 66)), (1, .int x1), (2, .int x2), (3, .int x3)] → W p l e (zR 4) s m args below meth c H locs 0 0 (MQ below (zPv g A σ res) args s 0 0 A) (F0 m 125 ls [])
def PX7_allTowers_119 (p : Program) (l : Launch) (e : Env) (s : State) (m : MethodId) (args : Array Value) (below : List Frame) (meth : Method) (c : Code) (g : zG) (A : Nat → Prop) (σ : zS) (res : zS) (f : Int32 → Int32 → Int32 → Int32 → zS → Option (zS)) : Prop := ∀ (x1 : Int32) (x2 : Int32) (x3 : Int32) (x4 : Int32) (τ : zS) (H : Heap) (locs : List Loc) (ls : Array Slot), f x1 x2 x3 x4 τ = some res → zW g A σ τ s H locs → lv_has ls 7 [(0, .ref (g.2.2 66)), (1, .int x1), (2, .int x2), (3, .int x3), (4, .int x4)] → W p l e (zR 4) s m args below meth c H locs 0 0 (MQ below (zPv g A σ res) args s 0 0 A) (F0 m 119 ls [])
def PX7_allTowers_75 (p : Program) (l : Launch) (e : Env) (s : State) (m : MethodId) (args : Array Value) (below : List Frame) (meth : Method) (c : Code) (g : zG) (A : Nat → Prop) (σ : zS) (res : zS) (f : Int32 → Int32 → Int32 → Int32 → Int32 → Int32 → zS → Option (zS)) : Prop := ∀ (x1 : Int32) (x2 : Int32) (x3 : Int32) (x4 : Int32) (x5 : Int32) (s0 : Int32) (τ : zS) (H : Heap) (locs : List Loc) (ls : Array Slot), f x1 x2 x3 x4 x5 s0 τ = some res → zW g A σ τ s H locs → lv_has ls 7 [(0, .ref (g.2.2 66)), (1, .int x1), (2, .int x2), (3, .int x3), (4, .int x4), (5, .int x5)] → W p l e (zR 4) s m args below meth c H locs 0 0 (MQ below (zPv g A σ res) args s 0 0 A) (F0 m 75 ls [.int s0])
def PX7_allTowers_30 (p : Program) (l : Launch) (e : Env) (s : State) (m : MethodId) (args : Array Value) (below : List Frame) (meth : Method) (c : Code) (g : zG) (A : Nat → Prop) (σ : zS) (res : zS) (f : Int32 → Int32 → Int32 → Int32 → zS → Option (zS)) : Prop := ∀ (x1 : Int32) (x2 : Int32) (x3 : Int32) (x4 : Int32) (τ : zS) (H : Heap) (locs : List Loc) (ls : Array Slot), f x1 x2 x3 x4 τ = some res → zW g A σ τ s H locs → lv_has ls 7 [(0, .ref (g.2.2 66)), (1, .int x1), (2, .int x2), (3, .int x3), (4, .int x4)] → W p l e (zR 4) s m args below meth c H locs 0 0 (MQ below (zPv g A σ res) args s 0 0 A) (F0 m 30 ls [])
def PX7_allTowers_19 (p : Program) (l : Launch) (e : Env) (s : State) (m : MethodId) (args : Array Value) (below : List Frame) (meth : Method) (c : Code) (g : zG) (A : Nat → Prop) (σ : zS) (res : zS) (f : Int32 → Int32 → Int32 → zS → Option (zS)) : Prop := ∀ (x1 : Int32) (x2 : Int32) (x3 : Int32) (τ : zS) (H : Heap) (locs : List Loc) (ls : Array Slot), f x1 x2 x3 τ = some res → zW g A σ τ s H locs → lv_has ls 7 [(0, .ref (g.2.2 66)), (1, .int x1), (2, .int x2), (3, .int x3)] → W p l e (zR 4) s m args below meth c H locs 0 0 (MQ below (zPv g A σ res) args s 0 0 A) (F0 m 19 ls [])
def fX7_allTowers_131 (N : Nat)  (τ : zS) : Option (zS) :=
  (fX7_copies N τ (nI 124) (nI 0)).bind fun q1 =>
  some q1
set_option maxRecDepth 100000 in
set_option maxHeartbeats 4000000 in
theorem hX7_allTowers_131 {p : Program} {l : Launch} {e : Env} {s : State} {m : MethodId} {args : Array Value} {below : List Frame} {meth : Method} {c : Code} {g : zG} {A : Nat → Prop} {σ : zS} {res : zS} (C : zCx p s m args meth c cX7_allTowers none wsX7_allTowers RX7 7) (E : zE g A s) (N : Nat) : PX7_allTowers_131 p l e s m args below meth c g A σ res (fX7_allTowers_131 N) := by
  obtain ⟨hx, hb, hr, hml, hown, hts, hlocks⟩ := id C
  intro τ H locs ls hf hh hl
  unfold fX7_allTowers_131 at hf
  refine lv_aload_n hx hb dX7_allTowers_131 rfl (lv_at hl 0 rfl) ?_
  refine lv_bipush (v := (nI 124)) hx hb dX7_allTowers_132 (by decide) ?_
  refine lv_iconst (v := (nI 0)) hx hb dX7_allTowers_134 (by decide) ?_
  obtain ⟨q1, h_q1, hf⟩ := z_bd hf
  refine z_mv (va_runV (As := [.int (nI 124), .int (nI 0)]) (rest := []) ⟨hx, hb, hml, hown, hts⟩ (zcX7_copies l g A σ τ N (nI 124) (nI 0) h_q1) (cwV 2 hts gX7_allTowers_X7_copies rfl rfl rfl hdX7_copies ⟨by decide, by decide⟩) (z_preV E hh (by decide) (zC_obj (q := 66) rfl) rfl) rfl rfl hl.1 rfl (lv_room (Nat.le_of_ble_eq_true rfl)) dX7_allTowers_135 ⟨Nat.le_refl _, Nat.le_refl _⟩) hh (fun H locs hh => ?_)
  have hf := Option.some.inj hf
  subst hf
  exact z_vretM hx hb hr hlocks hh dX7_allTowers_138
def fX7_allTowers_125 (N : Nat) (rc : Int32 → Int32 → Int32 → zS → Option (zS)) (k_131 : zS → Option (zS)) (x1 : Int32) (x2 : Int32) (x3 : Int32) (τ : zS) : Option (zS) :=
  rc x1 x2 (x3 + (nI 1)) τ
set_option maxRecDepth 100000 in
set_option maxHeartbeats 4000000 in
theorem hX7_allTowers_125 {p : Program} {l : Launch} {e : Env} {s : State} {m : MethodId} {args : Array Value} {below : List Frame} {meth : Method} {c : Code} {g : zG} {A : Nat → Prop} {σ : zS} {res : zS} (C : zCx p s m args meth c cX7_allTowers none wsX7_allTowers RX7 7) (E : zE g A s) (N : Nat) (rc : Int32 → Int32 → Int32 → zS → Option (zS)) (hrc : PX7_allTowers_19 p l e s m args below meth c g A σ res rc) (k_131 : zS → Option (zS)) (hk_131 : PX7_allTowers_131 p l e s m args below meth c g A σ res k_131) : PX7_allTowers_125 p l e s m args below meth c g A σ res (fX7_allTowers_125 N rc k_131) := by
  obtain ⟨hx, hb, hr, hml, hown, hts, hlocks⟩ := id C
  intro x1 x2 x3 τ H locs ls hf hh hl
  unfold fX7_allTowers_125 at hf
  refine lv_iinc (v := (x3 + (nI 1))) (lv' := [(3, .int (x3 + (nI 1))), (0, .ref (g.2.2 66)), (1, .int x1), (2, .int x2)]) hx hb dX7_allTowers_125 hl (k := 3) rfl rfl (by decide) rfl (fun ls hl => ?_)
  refine lv_goto (tgt := 19) hx hb dX7_allTowers_128 (by decide) ?_
  exact hrc x1 x2 (x3 + (nI 1)) τ _ _ _ hf hh (lv_sub hl [1, 2, 3, 0] rfl)
def fX7_allTowers_119 (N : Nat) (rc : Int32 → Int32 → Int32 → Int32 → zS → Option (zS)) (k_125 : Int32 → Int32 → Int32 → zS → Option (zS)) (x1 : Int32) (x2 : Int32) (x3 : Int32) (x4 : Int32) (τ : zS) : Option (zS) :=
  rc x1 x2 x3 (x4 + (nI 1)) τ
set_option maxRecDepth 100000 in
set_option maxHeartbeats 4000000 in
theorem hX7_allTowers_119 {p : Program} {l : Launch} {e : Env} {s : State} {m : MethodId} {args : Array Value} {below : List Frame} {meth : Method} {c : Code} {g : zG} {A : Nat → Prop} {σ : zS} {res : zS} (C : zCx p s m args meth c cX7_allTowers none wsX7_allTowers RX7 7) (E : zE g A s) (N : Nat) (rc : Int32 → Int32 → Int32 → Int32 → zS → Option (zS)) (hrc : PX7_allTowers_30 p l e s m args below meth c g A σ res rc) (k_125 : Int32 → Int32 → Int32 → zS → Option (zS)) (hk_125 : PX7_allTowers_125 p l e s m args below meth c g A σ res k_125) : PX7_allTowers_119 p l e s m args below meth c g A σ res (fX7_allTowers_119 N rc k_125) := by
  obtain ⟨hx, hb, hr, hml, hown, hts, hlocks⟩ := id C
  intro x1 x2 x3 x4 τ H locs ls hf hh hl
  unfold fX7_allTowers_119 at hf
  refine lv_iinc (v := (x4 + (nI 1))) (lv' := [(4, .int (x4 + (nI 1))), (0, .ref (g.2.2 66)), (1, .int x1), (2, .int x2), (3, .int x3)]) hx hb dX7_allTowers_119 hl (k := 4) rfl rfl (by decide) rfl (fun ls hl => ?_)
  refine lv_goto (tgt := 30) hx hb dX7_allTowers_122 (by decide) ?_
  exact hrc x1 x2 x3 (x4 + (nI 1)) τ _ _ _ hf hh (lv_sub hl [1, 2, 3, 4, 0] rfl)
def fX7_allTowers_75 (N : Nat) (rc : Int32 → Int32 → Int32 → Int32 → zS → Option (zS)) (k_125 : Int32 → Int32 → Int32 → zS → Option (zS)) (x1 : Int32) (x2 : Int32) (x3 : Int32) (x4 : Int32) (x5 : Int32) (s0 : Int32) (τ : zS) : Option (zS) :=
  zlet (zpf τ 66 25 ((τ.1 66 25) + (nI 1))) fun τ1 =>
  if s0 ≤ (τ1.1 66 23) then
    (fX7_allTowers_119 N rc k_125) x1 x2 x3 x4 τ1
  else
    zlet (zpf τ1 66 23 s0) fun τ3 =>
    zlet (zpf τ3 66 24 x5) fun τ4 =>
    zlet (zpf τ4 66 21 x4) fun τ5 =>
    zlet (zpf τ5 66 22 x3) fun τ6 =>
    (fX7_allTowers_119 N rc k_125) x1 x2 x3 x4 τ6
set_option maxRecDepth 100000 in
set_option maxHeartbeats 4000000 in
theorem hX7_allTowers_75 {p : Program} {l : Launch} {e : Env} {s : State} {m : MethodId} {args : Array Value} {below : List Frame} {meth : Method} {c : Code} {g : zG} {A : Nat → Prop} {σ : zS} {res : zS} (C : zCx p s m args meth c cX7_allTowers none wsX7_allTowers RX7 7) (E : zE g A s) (N : Nat) (rc : Int32 → Int32 → Int32 → Int32 → zS → Option (zS)) (hrc : PX7_allTowers_30 p l e s m args below meth c g A σ res rc) (k_125 : Int32 → Int32 → Int32 → zS → Option (zS)) (hk_125 : PX7_allTowers_125 p l e s m args below meth c g A σ res k_125) : PX7_allTowers_75 p l e s m args below meth c g A σ res (fX7_allTowers_75 N rc k_125) := by
  obtain ⟨hx, hb, hr, hml, hown, hts, hlocks⟩ := id C
  intro x1 x2 x3 x4 x5 s0 τ H locs ls hf hh hl
  unfold fX7_allTowers_75 at hf
  refine lv_istore (lv' := [(6, .int s0), (0, .ref (g.2.2 66)), (1, .int x1), (2, .int x2), (3, .int x3), (4, .int x4), (5, .int x5)]) hx hb dX7_allTowers_75 hl (by decide) rfl (fun ls hl => ?_)
  refine lv_aload_n hx hb dX7_allTowers_77 rfl (lv_at hl 1 rfl) ?_
  refine lv_dup hx hb dX7_allTowers_78 rfl ?_
  refine z_get (v := .int (τ.1 66 25)) hx hb hts (fun w h => List.mem_cons_of_mem _ (List.mem_append_right _ (h))) hown E hh (by decide) (zC_obj (q := 66) rfl) rfl 25 (by decide) (hts (.fieldLink RX7 218 "TownBandModel" "towerMany" "I") (List.mem_cons_of_mem _ (List.mem_append_left _ (List.mem_append_left _ (List.mem_of_getElem? (i := 1) rfl))))) rfl dX7_allTowers_79 ?_
  refine lv_iconst (v := (nI 1)) hx hb dX7_allTowers_82 (by decide) ?_
  refine lv_iadd hx hb dX7_allTowers_83 ?_
  obtain ⟨τ1, e_τ1, hf⟩ := z_lt hf
  refine z_putM hx hb hts (fun w h => List.mem_cons_of_mem _ (List.mem_append_right _ (h))) tyX7 tyX7_ok nmX7 hown E hh (by decide) (by decide) (show zD 66 = _ from rfl) rfl 25 (by decide) rfl (hts (.fieldLink RX7 218 "TownBandModel" "towerMany" "I") (List.mem_cons_of_mem _ (List.mem_append_left _ (List.mem_append_left _ (List.mem_of_getElem? (i := 1) rfl))))) rfl rfl e_τ1 dX7_allTowers_84 (fun H locs hh => ?_)
  refine lv_iload hx hb dX7_allTowers_87 (lv_at hl 0 rfl) ?_
  refine lv_aload_n hx hb dX7_allTowers_89 rfl (lv_at hl 1 rfl) ?_
  refine z_get (v := .int (τ1.1 66 23)) hx hb hts (fun w h => List.mem_cons_of_mem _ (List.mem_append_right _ (h))) hown E hh (by decide) (zC_obj (q := 66) rfl) rfl 23 (by decide) (hts (.fieldLink RX7 215 "TownBandModel" "bestMany" "I") (List.mem_cons_of_mem _ (List.mem_append_left _ (List.mem_append_left _ (List.mem_of_getElem? (i := 0) rfl))))) rfl dX7_allTowers_90 ?_
  refine lv_icmp_le (tgt := 119) hx hb dX7_allTowers_93 (by decide) (fun c_v2 => ?_) (fun c_v2 => ?_)
  · have hf := z_ip hf c_v2
    exact (hX7_allTowers_119 C E N rc hrc k_125 hk_125) x1 x2 x3 x4 τ1 _ _ _ hf hh (lv_sub hl [1, 2, 3, 4, 5] rfl)
  · have hf := z_in hf c_v2
    refine lv_aload_n hx hb dX7_allTowers_96 rfl (lv_at hl 1 rfl) ?_
    refine lv_iload hx hb dX7_allTowers_97 (lv_at hl 0 rfl) ?_
    obtain ⟨τ3, e_τ3, hf⟩ := z_lt hf
    refine z_putM hx hb hts (fun w h => List.mem_cons_of_mem _ (List.mem_append_right _ (h))) tyX7 tyX7_ok nmX7 hown E hh (by decide) (by decide) (show zD 66 = _ from rfl) rfl 23 (by decide) rfl (hts (.fieldLink RX7 215 "TownBandModel" "bestMany" "I") (List.mem_cons_of_mem _ (List.mem_append_left _ (List.mem_append_left _ (List.mem_of_getElem? (i := 0) rfl))))) rfl rfl e_τ3 dX7_allTowers_99 (fun H locs hh => ?_)
    refine lv_aload_n hx hb dX7_allTowers_102 rfl (lv_at hl 1 rfl) ?_
    refine lv_iload hx hb dX7_allTowers_103 (lv_at hl 6 rfl) ?_
    obtain ⟨τ4, e_τ4, hf⟩ := z_lt hf
    refine z_putM hx hb hts (fun w h => List.mem_cons_of_mem _ (List.mem_append_right _ (h))) tyX7 tyX7_ok nmX7 hown E hh (by decide) (by decide) (show zD 66 = _ from rfl) rfl 24 (by decide) rfl (hts (.fieldLink RX7 225 "TownBandModel" "bestNoise" "I") (List.mem_cons_of_mem _ (List.mem_append_left _ (List.mem_append_left _ (List.mem_of_getElem? (i := 3) rfl))))) rfl rfl e_τ4 dX7_allTowers_105 (fun H locs hh => ?_)
    refine lv_aload_n hx hb dX7_allTowers_108 rfl (lv_at hl 1 rfl) ?_
    refine lv_iload hx hb dX7_allTowers_109 (lv_at hl 5 rfl) ?_
    obtain ⟨τ5, e_τ5, hf⟩ := z_lt hf
    refine z_putM hx hb hts (fun w h => List.mem_cons_of_mem _ (List.mem_append_right _ (h))) tyX7 tyX7_ok nmX7 hown E hh (by decide) (by decide) (show zD 66 = _ from rfl) rfl 21 (by decide) rfl (hts (.fieldLink RX7 228 "TownBandModel" "bestCode" "I") (List.mem_cons_of_mem _ (List.mem_append_left _ (List.mem_append_left _ (List.mem_of_getElem? (i := 4) rfl))))) rfl rfl e_τ5 dX7_allTowers_111 (fun H locs hh => ?_)
    refine lv_aload_n hx hb dX7_allTowers_114 rfl (lv_at hl 1 rfl) ?_
    refine lv_iload_n hx hb dX7_allTowers_115 rfl (lv_at hl 4 rfl) ?_
    obtain ⟨τ6, e_τ6, hf⟩ := z_lt hf
    refine z_putM hx hb hts (fun w h => List.mem_cons_of_mem _ (List.mem_append_right _ (h))) tyX7 tyX7_ok nmX7 hown E hh (by decide) (by decide) (show zD 66 = _ from rfl) rfl 22 (by decide) rfl (hts (.fieldLink RX7 231 "TownBandModel" "bestSize" "I") (List.mem_cons_of_mem _ (List.mem_append_left _ (List.mem_append_left _ (List.mem_of_getElem? (i := 5) rfl))))) rfl rfl e_τ6 dX7_allTowers_116 (fun H locs hh => ?_)
    exact (hX7_allTowers_119 C E N rc hrc k_125 hk_125) x1 x2 x3 x4 τ6 _ _ _ hf hh (lv_sub hl [1, 2, 3, 4, 5] rfl)
def fX7_allTowers_30 (N : Nat) (k_125 : Int32 → Int32 → Int32 → zS → Option (zS)) : Nat → Int32 → Int32 → Int32 → Int32 → zS → Option (zS)
  | 0, _, _, _, _, _ => none
  | n + 1, x1, x2, x3, x4, τ =>
    (fX7_powerOf N x3).bind fun q1 =>
    if q1 ≤ x4 then
      k_125 x1 x2 x3 τ
    else
      (fX7_laysTower N τ x4 x3 x1).bind fun q3 =>
      if q3.1 = 0 then
        (fX7_allTowers_119 N (fX7_allTowers_30 N k_125 n) k_125) x1 x2 x3 x4 q3.2
      else
        (fX7_noiseBy N q3.2 (nI 0)).bind fun q5 =>
        if x2 = 0 then
          (fX7_fleeBy N q3.2 q5).bind fun q7 =>
          (fX7_bitsOf N q7).bind fun q8 =>
          (fX7_allTowers_75 N (fX7_allTowers_30 N k_125 n) k_125) x1 x2 x3 x4 q5 q8 q3.2
        else
          (fX7_allTowers_75 N (fX7_allTowers_30 N k_125 n) k_125) x1 x2 x3 x4 q5 q5 q3.2
set_option maxRecDepth 100000 in
set_option maxHeartbeats 4000000 in
theorem hX7_allTowers_30 {p : Program} {l : Launch} {e : Env} {s : State} {m : MethodId} {args : Array Value} {below : List Frame} {meth : Method} {c : Code} {g : zG} {A : Nat → Prop} {σ : zS} {res : zS} (C : zCx p s m args meth c cX7_allTowers none wsX7_allTowers RX7 7) (E : zE g A s) (N : Nat) (k_125 : Int32 → Int32 → Int32 → zS → Option (zS)) (hk_125 : PX7_allTowers_125 p l e s m args below meth c g A σ res k_125) : ∀ n : Nat, PX7_allTowers_30 p l e s m args below meth c g A σ res (fX7_allTowers_30 N k_125 n) := by
  obtain ⟨hx, hb, hr, hml, hown, hts, hlocks⟩ := id C
  intro n
  induction n with
  | zero =>
    intro x1 x2 x3 x4 τ H locs ls hf
    exact absurd hf (by simp [fX7_allTowers_30])
  | succ n ih =>
    intro x1 x2 x3 x4 τ H locs ls hf hh hl
    rw [fX7_allTowers_30] at hf
    refine lv_iload hx hb dX7_allTowers_30 (lv_at hl 4 rfl) ?_
    refine lv_iload_n hx hb dX7_allTowers_32 rfl (lv_at hl 3 rfl) ?_
    obtain ⟨q1, h_q1, hf⟩ := z_bd hf
    refine z_mi (va_runS (As := [.int x3]) (rest := [.int x4]) ⟨hx, hb, hml, hown, hts⟩ (zcX7_powerOf l g A σ τ N x3 h_q1) (va_cwS 1 hts gX7_allTowers_X7_powerOf rfl rfl rfl hdX7_powerOf.2 ⟨by decide, by decide⟩) (z_preS E hh) rfl rfl hl.1 rfl (lv_room (Nat.le_of_ble_eq_true rfl)) dX7_allTowers_33 ⟨Nat.le_refl _, Nat.le_refl _⟩) hh (fun H locs hh => ?_)
    refine lv_icmp_ge (tgt := 125) hx hb dX7_allTowers_36 (by decide) (fun c_v2 => ?_) (fun c_v2 => ?_)
    · have hf := z_ip hf c_v2
      exact hk_125 x1 x2 x3 τ _ _ _ hf hh (lv_sub hl [0, 1, 2, 3] rfl)
    · have hf := z_in hf c_v2
      refine lv_aload_n hx hb dX7_allTowers_39 rfl (lv_at hl 0 rfl) ?_
      refine lv_iload hx hb dX7_allTowers_40 (lv_at hl 4 rfl) ?_
      refine lv_iload_n hx hb dX7_allTowers_42 rfl (lv_at hl 3 rfl) ?_
      refine lv_iload_n hx hb dX7_allTowers_43 rfl (lv_at hl 1 rfl) ?_
      obtain ⟨q3, h_q3, hf⟩ := z_bd hf
      refine z_mi (va_runV (As := [.int x4, .int x3, .int x1]) (rest := []) ⟨hx, hb, hml, hown, hts⟩ (zcX7_laysTower l g A σ τ N x4 x3 x1 h_q3) (cwV 3 hts gX7_allTowers_X7_laysTower rfl rfl rfl hdX7_laysTower ⟨by decide, by decide⟩) (z_preV E hh (by decide) (zC_obj (q := 66) rfl) rfl) rfl rfl hl.1 rfl (lv_room (Nat.le_of_ble_eq_true rfl)) dX7_allTowers_44 ⟨Nat.le_refl _, Nat.le_refl _⟩) hh (fun H locs hh => ?_)
      refine lv_if_eq (tgt := 119) hx hb dX7_allTowers_47 (by decide) (fun c_v4 => ?_) (fun c_v4 => ?_)
      · have hf := z_ip hf c_v4
        exact (hX7_allTowers_119 C E N (fX7_allTowers_30 N k_125 n) ih k_125 hk_125) x1 x2 x3 x4 q3.2 _ _ _ hf hh (lv_sub hl [0, 1, 2, 3, 4] rfl)
      · have hf := z_in hf c_v4
        refine lv_aload_n hx hb dX7_allTowers_50 rfl (lv_at hl 0 rfl) ?_
        refine lv_iconst (v := (nI 0)) hx hb dX7_allTowers_51 (by decide) ?_
        obtain ⟨q5, h_q5, hf⟩ := z_bd hf
        refine z_mi (va_runV (As := [.int (nI 0)]) (rest := []) ⟨hx, hb, hml, hown, hts⟩ (zcX7_noiseBy l g A σ q3.2 N (nI 0) h_q5) (cwV 1 hts gX7_allTowers_X7_noiseBy rfl rfl rfl hdX7_noiseBy ⟨by decide, by decide⟩) (z_preV E hh (by decide) (zC_obj (q := 66) rfl) rfl) rfl rfl hl.1 rfl (lv_room (Nat.le_of_ble_eq_true rfl)) dX7_allTowers_52 ⟨Nat.le_refl _, Nat.le_refl _⟩) hh (fun H locs hh => ?_)
        refine lv_istore (lv' := [(5, .int q5), (0, .ref (g.2.2 66)), (1, .int x1), (2, .int x2), (3, .int x3), (4, .int x4)]) hx hb dX7_allTowers_55 hl (by decide) rfl (fun ls hl => ?_)
        refine lv_iload_n hx hb dX7_allTowers_57 rfl (lv_at hl 3 rfl) ?_
        refine lv_if_ne (tgt := 73) hx hb dX7_allTowers_58 (by decide) (fun c_v6 => ?_) (fun c_v6 => ?_)
        · have hf := z_in hf c_v6
          refine lv_iload hx hb dX7_allTowers_73 (lv_at hl 0 rfl) ?_
          exact (hX7_allTowers_75 C E N (fX7_allTowers_30 N k_125 n) ih k_125 hk_125) x1 x2 x3 x4 q5 q5 q3.2 _ _ _ hf hh (lv_sub hl [1, 2, 3, 4, 5, 0] rfl)
        · have hf := z_ip hf c_v6
          refine lv_aload_n hx hb dX7_allTowers_61 rfl (lv_at hl 1 rfl) ?_
          refine lv_iload hx hb dX7_allTowers_62 (lv_at hl 0 rfl) ?_
          obtain ⟨q7, h_q7, hf⟩ := z_bd hf
          refine z_mi (va_runV (As := [.int q5]) (rest := []) ⟨hx, hb, hml, hown, hts⟩ (zcX7_fleeBy l g A σ q3.2 N q5 h_q7) (cwV 1 hts gX7_allTowers_X7_fleeBy rfl rfl rfl hdX7_fleeBy ⟨by decide, by decide⟩) (z_preV E hh (by decide) (zC_obj (q := 66) rfl) rfl) rfl rfl hl.1 rfl (lv_room (Nat.le_of_ble_eq_true rfl)) dX7_allTowers_64 ⟨Nat.le_refl _, Nat.le_refl _⟩) hh (fun H locs hh => ?_)
          obtain ⟨q8, h_q8, hf⟩ := z_bd hf
          refine z_mi (va_runS (As := [.int q7]) (rest := []) ⟨hx, hb, hml, hown, hts⟩ (zcX7_bitsOf l g A σ q3.2 N q7 h_q8) (va_cwS 1 hts gX7_allTowers_X7_bitsOf rfl rfl rfl hdX7_bitsOf.2 ⟨by decide, by decide⟩) (z_preS E hh) rfl rfl hl.1 rfl (lv_room (Nat.le_of_ble_eq_true rfl)) dX7_allTowers_67 ⟨Nat.le_refl _, Nat.le_refl _⟩) hh (fun H locs hh => ?_)
          refine lv_goto (tgt := 75) hx hb dX7_allTowers_70 (by decide) ?_
          exact (hX7_allTowers_75 C E N (fX7_allTowers_30 N k_125 n) ih k_125 hk_125) x1 x2 x3 x4 q5 q8 q3.2 _ _ _ hf hh (lv_sub hl [1, 2, 3, 4, 5, 0] rfl)
def fX7_allTowers_19 (N : Nat) (k_131 : zS → Option (zS)) : Nat → Int32 → Int32 → Int32 → zS → Option (zS)
  | 0, _, _, _, _ => none
  | n + 1, x1, x2, x3, τ =>
    if (τ.1 66 1) < x3 then
      k_131 τ
    else
      (fX7_allTowers_30 N (fX7_allTowers_125 N (fX7_allTowers_19 N k_131 n) k_131) N) x1 x2 x3 (nI 0) τ
set_option maxRecDepth 100000 in
set_option maxHeartbeats 4000000 in
theorem hX7_allTowers_19 {p : Program} {l : Launch} {e : Env} {s : State} {m : MethodId} {args : Array Value} {below : List Frame} {meth : Method} {c : Code} {g : zG} {A : Nat → Prop} {σ : zS} {res : zS} (C : zCx p s m args meth c cX7_allTowers none wsX7_allTowers RX7 7) (E : zE g A s) (N : Nat) (k_131 : zS → Option (zS)) (hk_131 : PX7_allTowers_131 p l e s m args below meth c g A σ res k_131) : ∀ n : Nat, PX7_allTowers_19 p l e s m args below meth c g A σ res (fX7_allTowers_19 N k_131 n) := by
  obtain ⟨hx, hb, hr, hml, hown, hts, hlocks⟩ := id C
  intro n
  induction n with
  | zero =>
    intro x1 x2 x3 τ H locs ls hf
    exact absurd hf (by simp [fX7_allTowers_19])
  | succ n ih =>
    intro x1 x2 x3 τ H locs ls hf hh hl
    rw [fX7_allTowers_19] at hf
    refine lv_iload_n hx hb dX7_allTowers_19 rfl (lv_at hl 3 rfl) ?_
    refine lv_aload_n hx hb dX7_allTowers_20 rfl (lv_at hl 0 rfl) ?_
    refine z_get (v := .int (τ.1 66 1)) hx hb hts (fun w h => List.mem_cons_of_mem _ (List.mem_append_right _ (h))) hown E hh (by decide) (zC_obj (q := 66) rfl) rfl 1 (by decide) (hts (.fieldLink RX7 141 "TownBandModel" "beastMany" "I") (List.mem_cons_of_mem _ (List.mem_append_left _ (List.mem_append_left _ (List.mem_of_getElem? (i := 2) rfl))))) rfl dX7_allTowers_21 ?_
    refine lv_icmp_gt (tgt := 131) hx hb dX7_allTowers_24 (by decide) (fun c_v1 => ?_) (fun c_v1 => ?_)
    · have hf := z_ip hf c_v1
      exact hk_131 τ _ _ _ hf hh (lv_sub hl [0] rfl)
    · have hf := z_in hf c_v1
      refine lv_iconst (v := (nI 0)) hx hb dX7_allTowers_27 (by decide) ?_
      refine lv_istore (lv' := [(4, .int (nI 0)), (0, .ref (g.2.2 66)), (1, .int x1), (2, .int x2), (3, .int x3)]) hx hb dX7_allTowers_28 hl (by decide) rfl (fun ls hl => ?_)
      exact (hX7_allTowers_30 C E N (fX7_allTowers_125 N (fX7_allTowers_19 N k_131 n) k_131) (hX7_allTowers_125 C E N (fX7_allTowers_19 N k_131 n) ih k_131 hk_131) N) x1 x2 x3 (nI 0) τ _ _ _ hf hh (lv_sub hl [1, 2, 3, 4, 0] rfl)
def fX7_allTowers (N : Nat) (τ : zS) (x1 : Int32) (x2 : Int32) : Option (zS) :=
  (fX7_copies N τ (nI 0) (nI 124)).bind fun q1 =>
  zlet (zpf q1 66 23 (-1)) fun τ2 =>
  zlet (zpf τ2 66 25 (nI 0)) fun τ3 =>
  (fX7_allTowers_19 N (fX7_allTowers_131 N) N) x1 x2 (nI 0) τ3
set_option maxRecDepth 100000 in
set_option maxHeartbeats 4000000 in
theorem zcX7_allTowers (l : Launch) (g : zG) (A : Nat → Prop) (σ τ : zS) (N : Nat) (x1 : Int32) (x2 : Int32)  {res : zS} (hf : fX7_allTowers N τ x1 x2 = some res) : Met l yX7_allTowers wsX7_allTowers (zR 4) (zPc g A σ τ [.ref (g.2.2 66), .int x1, .int x2]) (zPv g A σ res) 0 0 A := by
  refine z_met (cc := cX7_allTowers) (ret := none) (own := RX7) (by decide) rfl rfl _ (Nat.le_of_ble_eq_true rfl) ?_
  intro p e s m below meth c C E ls hl hh
  have hl : lv_has ls 7 [(0, .ref (g.2.2 66)), (1, .int x1), (2, .int x2)] := hl
  obtain ⟨hx, hb, hr, hml, hown, hts, hlocks⟩ := id C
  unfold fX7_allTowers at hf
  refine lv_aload_n hx hb dX7_allTowers_0 rfl (lv_at hl 0 rfl) ?_
  refine lv_iconst (v := (nI 0)) hx hb dX7_allTowers_1 (by decide) ?_
  refine lv_bipush (v := (nI 124)) hx hb dX7_allTowers_2 (by decide) ?_
  obtain ⟨q1, h_q1, hf⟩ := z_bd hf
  refine z_mv (va_runV (As := [.int (nI 0), .int (nI 124)]) (rest := []) ⟨hx, hb, hml, hown, hts⟩ (zcX7_copies l g A σ τ N (nI 0) (nI 124) h_q1) (cwV 2 hts gX7_allTowers_X7_copies rfl rfl rfl hdX7_copies ⟨by decide, by decide⟩) (z_preV E hh (by decide) (zC_obj (q := 66) rfl) rfl) rfl rfl hl.1 rfl (lv_room (Nat.le_of_ble_eq_true rfl)) dX7_allTowers_4 ⟨Nat.le_refl _, Nat.le_refl _⟩) hh (fun H locs hh => ?_)
  refine lv_aload_n hx hb dX7_allTowers_7 rfl (lv_at hl 0 rfl) ?_
  refine lv_iconst (v := (-1)) hx hb dX7_allTowers_8 (by decide) ?_
  obtain ⟨τ2, e_τ2, hf⟩ := z_lt hf
  refine z_putM hx hb hts (fun w h => List.mem_cons_of_mem _ (List.mem_append_right _ (h))) tyX7 tyX7_ok nmX7 hown E hh (by decide) (by decide) (show zD 66 = _ from rfl) rfl 23 (by decide) rfl (hts (.fieldLink RX7 215 "TownBandModel" "bestMany" "I") (List.mem_cons_of_mem _ (List.mem_append_left _ (List.mem_append_left _ (List.mem_of_getElem? (i := 0) rfl))))) rfl rfl e_τ2 dX7_allTowers_9 (fun H locs hh => ?_)
  refine lv_aload_n hx hb dX7_allTowers_12 rfl (lv_at hl 0 rfl) ?_
  refine lv_iconst (v := (nI 0)) hx hb dX7_allTowers_13 (by decide) ?_
  obtain ⟨τ3, e_τ3, hf⟩ := z_lt hf
  refine z_putM hx hb hts (fun w h => List.mem_cons_of_mem _ (List.mem_append_right _ (h))) tyX7 tyX7_ok nmX7 hown E hh (by decide) (by decide) (show zD 66 = _ from rfl) rfl 25 (by decide) rfl (hts (.fieldLink RX7 218 "TownBandModel" "towerMany" "I") (List.mem_cons_of_mem _ (List.mem_append_left _ (List.mem_append_left _ (List.mem_of_getElem? (i := 1) rfl))))) rfl rfl e_τ3 dX7_allTowers_14 (fun H locs hh => ?_)
  refine lv_iconst (v := (nI 0)) hx hb dX7_allTowers_17 (by decide) ?_
  refine lv_istore_n (lv' := [(3, .int (nI 0)), (0, .ref (g.2.2 66)), (1, .int x1), (2, .int x2)]) hx hb dX7_allTowers_18 rfl hl (by decide) rfl (fun ls hl => ?_)
  exact (hX7_allTowers_19 C E N (fX7_allTowers_131 N) (hX7_allTowers_131 C E N) N) x1 x2 (nI 0) τ3 _ _ _ hf hh (lv_sub hl [1, 2, 3, 0] rfl)
/-! ===== X7_placeBy ===== -/
theorem hdX7_placeBy : yX7_placeBy.cls = RX7 ∧ yX7_placeBy.cls ≠ "java/lang/invoke/MethodHandle" ∧ yX7_placeBy.cls ≠ "java/lang/invoke/VarHandle" ∧ (parseMethodDescriptor yX7_placeBy.desc).map (fun d => d.parameters.length) = some 1 := by decide +kernel
def fX7_placeBy (N : Nat) (τ : zS) (x1 : Int32) : Option (Int32) :=
  if (τ.1 66 22) ≤ (x1 - (nI 10)) then
    some (-4)
  else
    (fX7_figureOf N (τ.1 66 21) (τ.1 66 22) (x1 - (nI 10))).bind fun q2 =>
    some q2
set_option maxRecDepth 100000 in
set_option maxHeartbeats 4000000 in
theorem zcX7_placeBy (l : Launch) (g : zG) (A : Nat → Prop) (σ τ : zS) (N : Nat) (x1 : Int32)  {res : Int32} (hf : fX7_placeBy N τ x1 = some res) : Met l yX7_placeBy wsX7_placeBy (zR 2) (zPc g A σ τ [.ref (g.2.2 66), .int x1]) (zPi g A σ (res, τ)) 0 0 A := by
  refine z_met (cc := cX7_placeBy) (ret := (some .int)) (own := RX7) (by decide) rfl rfl _ (Nat.le_of_ble_eq_true rfl) ?_
  intro p e s m below meth c C E ls hl hh
  have hl : lv_has ls 2 [(0, .ref (g.2.2 66)), (1, .int x1)] := hl
  obtain ⟨hx, hb, hr, hml, hown, hts, hlocks⟩ := id C
  unfold fX7_placeBy at hf
  refine lv_iload_n hx hb dX7_placeBy_0 rfl (lv_at hl 1 rfl) ?_
  refine lv_bipush (v := (nI 10)) hx hb dX7_placeBy_1 (by decide) ?_
  refine lv_isub hx hb dX7_placeBy_3 ?_
  refine lv_aload_n hx hb dX7_placeBy_4 rfl (lv_at hl 0 rfl) ?_
  refine z_get (v := .int (τ.1 66 22)) hx hb hts (fun w h => List.mem_cons_of_mem _ (List.mem_append_right _ (h))) hown E hh (by decide) (zC_obj (q := 66) rfl) rfl 22 (by decide) (hts (.fieldLink RX7 231 "TownBandModel" "bestSize" "I") (List.mem_cons_of_mem _ (List.mem_append_left _ (List.mem_of_getElem? (i := 0) rfl)))) rfl dX7_placeBy_5 ?_
  refine lv_icmp_ge (tgt := 29) hx hb dX7_placeBy_8 (by decide) (fun c_v1 => ?_) (fun c_v1 => ?_)
  · have hf := z_ip hf c_v1
    refine lv_bipush (v := (-4)) hx hb dX7_placeBy_29 (by decide) ?_
    have hf := Option.some.inj hf
    subst hf
    exact z_iretM hx hb hr hlocks hh dX7_placeBy_31
  · have hf := z_in hf c_v1
    refine lv_aload_n hx hb dX7_placeBy_11 rfl (lv_at hl 0 rfl) ?_
    refine z_get (v := .int (τ.1 66 21)) hx hb hts (fun w h => List.mem_cons_of_mem _ (List.mem_append_right _ (h))) hown E hh (by decide) (zC_obj (q := 66) rfl) rfl 21 (by decide) (hts (.fieldLink RX7 228 "TownBandModel" "bestCode" "I") (List.mem_cons_of_mem _ (List.mem_append_left _ (List.mem_of_getElem? (i := 1) rfl)))) rfl dX7_placeBy_12 ?_
    refine lv_aload_n hx hb dX7_placeBy_15 rfl (lv_at hl 0 rfl) ?_
    refine z_get (v := .int (τ.1 66 22)) hx hb hts (fun w h => List.mem_cons_of_mem _ (List.mem_append_right _ (h))) hown E hh (by decide) (zC_obj (q := 66) rfl) rfl 22 (by decide) (hts (.fieldLink RX7 231 "TownBandModel" "bestSize" "I") (List.mem_cons_of_mem _ (List.mem_append_left _ (List.mem_of_getElem? (i := 0) rfl)))) rfl dX7_placeBy_16 ?_
    refine lv_iload_n hx hb dX7_placeBy_19 rfl (lv_at hl 1 rfl) ?_
    refine lv_bipush (v := (nI 10)) hx hb dX7_placeBy_20 (by decide) ?_
    refine lv_isub hx hb dX7_placeBy_22 ?_
    obtain ⟨q2, h_q2, hf⟩ := z_bd hf
    refine z_mi (va_runS (As := [.int (τ.1 66 21), .int (τ.1 66 22), .int (x1 - (nI 10))]) (rest := []) ⟨hx, hb, hml, hown, hts⟩ (zcX7_figureOf l g A σ τ N (τ.1 66 21) (τ.1 66 22) (x1 - (nI 10)) h_q2) (va_cwS 3 hts gX7_placeBy_X7_figureOf rfl rfl rfl hdX7_figureOf.2 ⟨by decide, by decide⟩) (z_preS E hh) rfl rfl hl.1 rfl (lv_room (Nat.le_of_ble_eq_true rfl)) dX7_placeBy_23 ⟨Nat.le_refl _, Nat.le_refl _⟩) hh (fun H locs hh => ?_)
    refine lv_goto (tgt := 31) hx hb dX7_placeBy_26 (by decide) ?_
    have hf := Option.some.inj hf
    subst hf
    exact z_iretM hx hb hr hlocks hh dX7_placeBy_31
/-! ===== X7_best ===== -/
theorem hdX7_best : yX7_best.cls = RX7 ∧ yX7_best.cls ≠ "java/lang/invoke/MethodHandle" ∧ yX7_best.cls ≠ "java/lang/invoke/VarHandle" ∧ (parseMethodDescriptor yX7_best.desc).map (fun d => d.parameters.length) = some 1 := by decide +kernel
def PX7_best_28 (p : Program) (l : Launch) (e : Env) (s : State) (m : MethodId) (args : Array Value) (below : List Frame) (meth : Method) (c : Code) (g : zG) (A : Nat → Prop) (σ : zS) (res : Int32 × zS) (f : Int32 → zS → Option (Int32 × zS)) : Prop := ∀ (x1 : Int32) (τ : zS) (H : Heap) (locs : List Loc) (ls : Array Slot), f x1 τ = some res → zW g A σ τ s H locs → lv_has ls 2 [(0, .ref (g.2.2 66)), (1, .int x1)] → W p l e (zR 5) s m args below meth c H locs 0 0 (MQ below (zPi g A σ res) args s 0 0 A) (F0 m 28 ls [])
def fX7_best_28 (N : Nat) (x1 : Int32) (τ : zS) : Option (Int32 × zS) :=
  (fX7_allTowers N τ (nI 31) (nI 0)).bind fun q1 =>
  if x1 = 0 then
    some ((q1.1 66 23), q1)
  else
    if x1 = (nI 1) then
      some ((q1.1 66 24), q1)
    else
      if x1 = (nI 2) then
        some ((q1.1 66 22), q1)
      else
        (fX7_placeBy N q1 x1).bind fun q5 =>
        some (q5, q1)
set_option maxRecDepth 100000 in
set_option maxHeartbeats 4000000 in
theorem hX7_best_28 {p : Program} {l : Launch} {e : Env} {s : State} {m : MethodId} {args : Array Value} {below : List Frame} {meth : Method} {c : Code} {g : zG} {A : Nat → Prop} {σ : zS} {res : Int32 × zS} (C : zCx p s m args meth c cX7_best (some .int) wsX7_best RX7 2) (E : zE g A s) (N : Nat) : PX7_best_28 p l e s m args below meth c g A σ res (fX7_best_28 N) := by
  obtain ⟨hx, hb, hr, hml, hown, hts, hlocks⟩ := id C
  intro x1 τ H locs ls hf hh hl
  unfold fX7_best_28 at hf
  refine lv_aload_n hx hb dX7_best_28 rfl (lv_at hl 0 rfl) ?_
  refine lv_bipush (v := (nI 31)) hx hb dX7_best_29 (by decide) ?_
  refine lv_iconst (v := (nI 0)) hx hb dX7_best_31 (by decide) ?_
  obtain ⟨q1, h_q1, hf⟩ := z_bd hf
  refine z_mv (va_runV (As := [.int (nI 31), .int (nI 0)]) (rest := []) ⟨hx, hb, hml, hown, hts⟩ (zcX7_allTowers l g A σ τ N (nI 31) (nI 0) h_q1) (cwV 2 hts gX7_best_X7_allTowers rfl rfl rfl hdX7_allTowers ⟨by decide, by decide⟩) (z_preV E hh (by decide) (zC_obj (q := 66) rfl) rfl) rfl rfl hl.1 rfl (lv_room (Nat.le_of_ble_eq_true rfl)) dX7_best_32 ⟨Nat.le_refl _, Nat.le_refl _⟩) hh (fun H locs hh => ?_)
  refine lv_iload_n hx hb dX7_best_35 rfl (lv_at hl 1 rfl) ?_
  refine lv_if_ne (tgt := 46) hx hb dX7_best_36 (by decide) (fun c_v2 => ?_) (fun c_v2 => ?_)
  · have hf := z_in hf c_v2
    refine lv_iload_n hx hb dX7_best_46 rfl (lv_at hl 1 rfl) ?_
    refine lv_iconst (v := (nI 1)) hx hb dX7_best_47 (by decide) ?_
    refine lv_icmp_ne (tgt := 58) hx hb dX7_best_48 (by decide) (fun c_v3 => ?_) (fun c_v3 => ?_)
    · have hf := z_in hf c_v3
      refine lv_iload_n hx hb dX7_best_58 rfl (lv_at hl 1 rfl) ?_
      refine lv_iconst (v := (nI 2)) hx hb dX7_best_59 (by decide) ?_
      refine lv_icmp_ne (tgt := 70) hx hb dX7_best_60 (by decide) (fun c_v4 => ?_) (fun c_v4 => ?_)
      · have hf := z_in hf c_v4
        refine lv_aload_n hx hb dX7_best_70 rfl (lv_at hl 0 rfl) ?_
        refine lv_iload_n hx hb dX7_best_71 rfl (lv_at hl 1 rfl) ?_
        obtain ⟨q5, h_q5, hf⟩ := z_bd hf
        refine z_mi (va_runV (As := [.int x1]) (rest := []) ⟨hx, hb, hml, hown, hts⟩ (zcX7_placeBy l g A σ q1 N x1 h_q5) (cwV 1 hts gX7_best_X7_placeBy rfl rfl rfl hdX7_placeBy ⟨by decide, by decide⟩) (z_preV E hh (by decide) (zC_obj (q := 66) rfl) rfl) rfl rfl hl.1 rfl (lv_room (Nat.le_of_ble_eq_true rfl)) dX7_best_72 ⟨Nat.le_refl _, Nat.le_refl _⟩) hh (fun H locs hh => ?_)
        have hf := Option.some.inj hf
        subst hf
        exact z_iretM hx hb hr hlocks hh dX7_best_75
      · have hf := z_ip hf c_v4
        refine lv_aload_n hx hb dX7_best_63 rfl (lv_at hl 0 rfl) ?_
        refine z_get (v := .int (q1.1 66 22)) hx hb hts (fun w h => List.mem_cons_of_mem _ (List.mem_append_right _ (h))) hown E hh (by decide) (zC_obj (q := 66) rfl) rfl 22 (by decide) (hts (.fieldLink RX7 231 "TownBandModel" "bestSize" "I") (List.mem_cons_of_mem _ (List.mem_append_left _ (List.mem_append_left _ (List.mem_of_getElem? (i := 5) rfl))))) rfl dX7_best_64 ?_
        refine lv_goto (tgt := 75) hx hb dX7_best_67 (by decide) ?_
        have hf := Option.some.inj hf
        subst hf
        exact z_iretM hx hb hr hlocks hh dX7_best_75
    · have hf := z_ip hf c_v3
      refine lv_aload_n hx hb dX7_best_51 rfl (lv_at hl 0 rfl) ?_
      refine z_get (v := .int (q1.1 66 24)) hx hb hts (fun w h => List.mem_cons_of_mem _ (List.mem_append_right _ (h))) hown E hh (by decide) (zC_obj (q := 66) rfl) rfl 24 (by decide) (hts (.fieldLink RX7 225 "TownBandModel" "bestNoise" "I") (List.mem_cons_of_mem _ (List.mem_append_left _ (List.mem_append_left _ (List.mem_of_getElem? (i := 4) rfl))))) rfl dX7_best_52 ?_
      refine lv_goto (tgt := 75) hx hb dX7_best_55 (by decide) ?_
      have hf := Option.some.inj hf
      subst hf
      exact z_iretM hx hb hr hlocks hh dX7_best_75
  · have hf := z_ip hf c_v2
    refine lv_aload_n hx hb dX7_best_39 rfl (lv_at hl 0 rfl) ?_
    refine z_get (v := .int (q1.1 66 23)) hx hb hts (fun w h => List.mem_cons_of_mem _ (List.mem_append_right _ (h))) hown E hh (by decide) (zC_obj (q := 66) rfl) rfl 23 (by decide) (hts (.fieldLink RX7 215 "TownBandModel" "bestMany" "I") (List.mem_cons_of_mem _ (List.mem_append_left _ (List.mem_append_left _ (List.mem_of_getElem? (i := 3) rfl))))) rfl dX7_best_40 ?_
    refine lv_goto (tgt := 75) hx hb dX7_best_43 (by decide) ?_
    have hf := Option.some.inj hf
    subst hf
    exact z_iretM hx hb hr hlocks hh dX7_best_75
def fX7_best (N : Nat) (τ : zS) (x1 : Int32) : Option (Int32 × zS) :=
  (fX7_in N x1.toInt64 0 2).bind fun q1 =>
  if q1 = 0 then
    (fX7_in N x1.toInt64 10 14).bind fun q3 =>
    if q3 = 0 then
      some ((-1), τ)
    else
      (fX7_best_28 N) x1 τ
  else
    (fX7_best_28 N) x1 τ
set_option maxRecDepth 100000 in
set_option maxHeartbeats 4000000 in
theorem zcX7_best (l : Launch) (g : zG) (A : Nat → Prop) (σ τ : zS) (N : Nat) (x1 : Int32)  {res : Int32 × zS} (hf : fX7_best N τ x1 = some res) : Met l yX7_best wsX7_best (zR 5) (zPc g A σ τ [.ref (g.2.2 66), .int x1]) (zPi g A σ res) 0 0 A := by
  refine z_met (cc := cX7_best) (ret := (some .int)) (own := RX7) (by decide) rfl rfl _ (Nat.le_of_ble_eq_true rfl) ?_
  intro p e s m below meth c C E ls hl hh
  have hl : lv_has ls 2 [(0, .ref (g.2.2 66)), (1, .int x1)] := hl
  obtain ⟨hx, hb, hr, hml, hown, hts, hlocks⟩ := id C
  unfold fX7_best at hf
  refine lv_iload_n hx hb dX7_best_0 rfl (lv_at hl 1 rfl) ?_
  refine lv_i2l hx hb dX7_best_1 rfl ?_
  refine lv_lconst (v := 0) hx hb dX7_best_2 (by decide) ?_
  refine lv_ldc2 (v := 2) hx hb hown (hts (.constantLong RX7 234 (2)) (List.mem_cons_of_mem _ (List.mem_append_left _ (List.mem_append_left _ (List.mem_of_getElem? (i := 0) rfl))))) dX7_best_3 ?_
  obtain ⟨q1, h_q1, hf⟩ := z_bd hf
  refine z_mi (va_runS (As := [.long x1.toInt64, .long 0, .long 2]) (rest := []) ⟨hx, hb, hml, hown, hts⟩ (zcX7_in l g A σ τ N x1.toInt64 0 2 h_q1) (va_cwS 3 hts gX7_best_X7_in rfl rfl rfl hdX7_in.2 ⟨by decide, by decide⟩) (z_preS E hh) rfl rfl hl.1 rfl (lv_room (Nat.le_of_ble_eq_true rfl)) dX7_best_6 ⟨Nat.le_refl _, Nat.le_refl _⟩) hh (fun H locs hh => ?_)
  refine lv_if_ne (tgt := 28) hx hb dX7_best_9 (by decide) (fun c_v2 => ?_) (fun c_v2 => ?_)
  · have hf := z_in hf c_v2
    exact (hX7_best_28 C E N) x1 τ _ _ _ hf hh (lv_sub hl [0, 1] rfl)
  · have hf := z_ip hf c_v2
    refine lv_iload_n hx hb dX7_best_12 rfl (lv_at hl 1 rfl) ?_
    refine lv_i2l hx hb dX7_best_13 rfl ?_
    refine lv_ldc2 (v := 10) hx hb hown (hts (.constantLong RX7 236 (10)) (List.mem_cons_of_mem _ (List.mem_append_left _ (List.mem_append_left _ (List.mem_of_getElem? (i := 1) rfl))))) dX7_best_14 ?_
    refine lv_ldc2 (v := 14) hx hb hown (hts (.constantLong RX7 238 (14)) (List.mem_cons_of_mem _ (List.mem_append_left _ (List.mem_append_left _ (List.mem_of_getElem? (i := 2) rfl))))) dX7_best_17 ?_
    obtain ⟨q3, h_q3, hf⟩ := z_bd hf
    refine z_mi (va_runS (As := [.long x1.toInt64, .long 10, .long 14]) (rest := []) ⟨hx, hb, hml, hown, hts⟩ (zcX7_in l g A σ τ N x1.toInt64 10 14 h_q3) (va_cwS 3 hts gX7_best_X7_in rfl rfl rfl hdX7_in.2 ⟨by decide, by decide⟩) (z_preS E hh) rfl rfl hl.1 rfl (lv_room (Nat.le_of_ble_eq_true rfl)) dX7_best_20 ⟨Nat.le_refl _, Nat.le_refl _⟩) hh (fun H locs hh => ?_)
    refine lv_if_ne (tgt := 28) hx hb dX7_best_23 (by decide) (fun c_v4 => ?_) (fun c_v4 => ?_)
    · have hf := z_in hf c_v4
      exact (hX7_best_28 C E N) x1 τ _ _ _ hf hh (lv_sub hl [0, 1] rfl)
    · have hf := z_ip hf c_v4
      refine lv_iconst (v := (-1)) hx hb dX7_best_26 (by decide) ?_
      have hf := Option.some.inj hf
      subst hf
      exact z_iretM hx hb hr hlocks hh dX7_best_27
/-! ===== X7_few ===== -/
theorem hdX7_few : yX7_few.cls = RX7 ∧ yX7_few.cls ≠ "java/lang/invoke/MethodHandle" ∧ yX7_few.cls ≠ "java/lang/invoke/VarHandle" ∧ (parseMethodDescriptor yX7_few.desc).map (fun d => d.parameters.length) = some 1 := by decide +kernel
def PX7_few_26 (p : Program) (l : Launch) (e : Env) (s : State) (m : MethodId) (args : Array Value) (below : List Frame) (meth : Method) (c : Code) (g : zG) (A : Nat → Prop) (σ : zS) (res : Int32 × zS) (f : Int32 → zS → Option (Int32 × zS)) : Prop := ∀ (x1 : Int32) (τ : zS) (H : Heap) (locs : List Loc) (ls : Array Slot), f x1 τ = some res → zW g A σ τ s H locs → lv_has ls 2 [(0, .ref (g.2.2 66)), (1, .int x1)] → W p l e (zR 5) s m args below meth c H locs 0 0 (MQ below (zPi g A σ res) args s 0 0 A) (F0 m 26 ls [])
def fX7_few_26 (N : Nat) (x1 : Int32) (τ : zS) : Option (Int32 × zS) :=
  (fX7_allTowers N τ (nI 31) (nI 0)).bind fun q1 =>
  if (q1.1 66 2) ≤ (q1.1 66 23) then
    if x1 = 0 then
      some ((q1.1 66 22), q1)
    else
      if x1 = (nI 1) then
        some ((q1.1 66 24), q1)
      else
        (fX7_placeBy N q1 x1).bind fun q5 =>
        some (q5, q1)
  else
    some ((-4), q1)
set_option maxRecDepth 100000 in
set_option maxHeartbeats 4000000 in
theorem hX7_few_26 {p : Program} {l : Launch} {e : Env} {s : State} {m : MethodId} {args : Array Value} {below : List Frame} {meth : Method} {c : Code} {g : zG} {A : Nat → Prop} {σ : zS} {res : Int32 × zS} (C : zCx p s m args meth c cX7_few (some .int) wsX7_few RX7 2) (E : zE g A s) (N : Nat) : PX7_few_26 p l e s m args below meth c g A σ res (fX7_few_26 N) := by
  obtain ⟨hx, hb, hr, hml, hown, hts, hlocks⟩ := id C
  intro x1 τ H locs ls hf hh hl
  unfold fX7_few_26 at hf
  refine lv_aload_n hx hb dX7_few_26 rfl (lv_at hl 0 rfl) ?_
  refine lv_bipush (v := (nI 31)) hx hb dX7_few_27 (by decide) ?_
  refine lv_iconst (v := (nI 0)) hx hb dX7_few_29 (by decide) ?_
  obtain ⟨q1, h_q1, hf⟩ := z_bd hf
  refine z_mv (va_runV (As := [.int (nI 31), .int (nI 0)]) (rest := []) ⟨hx, hb, hml, hown, hts⟩ (zcX7_allTowers l g A σ τ N (nI 31) (nI 0) h_q1) (cwV 2 hts gX7_few_X7_allTowers rfl rfl rfl hdX7_allTowers ⟨by decide, by decide⟩) (z_preV E hh (by decide) (zC_obj (q := 66) rfl) rfl) rfl rfl hl.1 rfl (lv_room (Nat.le_of_ble_eq_true rfl)) dX7_few_30 ⟨Nat.le_refl _, Nat.le_refl _⟩) hh (fun H locs hh => ?_)
  refine lv_aload_n hx hb dX7_few_33 rfl (lv_at hl 0 rfl) ?_
  refine z_get (v := .int (q1.1 66 23)) hx hb hts (fun w h => List.mem_cons_of_mem _ (List.mem_append_right _ (h))) hown E hh (by decide) (zC_obj (q := 66) rfl) rfl 23 (by decide) (hts (.fieldLink RX7 215 "TownBandModel" "bestMany" "I") (List.mem_cons_of_mem _ (List.mem_append_left _ (List.mem_append_left _ (List.mem_of_getElem? (i := 2) rfl))))) rfl dX7_few_34 ?_
  refine lv_aload_n hx hb dX7_few_37 rfl (lv_at hl 0 rfl) ?_
  refine z_get (v := .int (q1.1 66 2)) hx hb hts (fun w h => List.mem_cons_of_mem _ (List.mem_append_right _ (h))) hown E hh (by decide) (zC_obj (q := 66) rfl) rfl 2 (by decide) (hts (.fieldLink RX7 144 "TownBandModel" "robberMany" "I") (List.mem_cons_of_mem _ (List.mem_append_left _ (List.mem_append_left _ (List.mem_of_getElem? (i := 3) rfl))))) rfl dX7_few_38 ?_
  refine lv_icmp_ge (tgt := 47) hx hb dX7_few_41 (by decide) (fun c_v2 => ?_) (fun c_v2 => ?_)
  · have hf := z_ip hf c_v2
    refine lv_iload_n hx hb dX7_few_47 rfl (lv_at hl 1 rfl) ?_
    refine lv_if_ne (tgt := 58) hx hb dX7_few_48 (by decide) (fun c_v3 => ?_) (fun c_v3 => ?_)
    · have hf := z_in hf c_v3
      refine lv_iload_n hx hb dX7_few_58 rfl (lv_at hl 1 rfl) ?_
      refine lv_iconst (v := (nI 1)) hx hb dX7_few_59 (by decide) ?_
      refine lv_icmp_ne (tgt := 70) hx hb dX7_few_60 (by decide) (fun c_v4 => ?_) (fun c_v4 => ?_)
      · have hf := z_in hf c_v4
        refine lv_aload_n hx hb dX7_few_70 rfl (lv_at hl 0 rfl) ?_
        refine lv_iload_n hx hb dX7_few_71 rfl (lv_at hl 1 rfl) ?_
        obtain ⟨q5, h_q5, hf⟩ := z_bd hf
        refine z_mi (va_runV (As := [.int x1]) (rest := []) ⟨hx, hb, hml, hown, hts⟩ (zcX7_placeBy l g A σ q1 N x1 h_q5) (cwV 1 hts gX7_few_X7_placeBy rfl rfl rfl hdX7_placeBy ⟨by decide, by decide⟩) (z_preV E hh (by decide) (zC_obj (q := 66) rfl) rfl) rfl rfl hl.1 rfl (lv_room (Nat.le_of_ble_eq_true rfl)) dX7_few_72 ⟨Nat.le_refl _, Nat.le_refl _⟩) hh (fun H locs hh => ?_)
        have hf := Option.some.inj hf
        subst hf
        exact z_iretM hx hb hr hlocks hh dX7_few_75
      · have hf := z_ip hf c_v4
        refine lv_aload_n hx hb dX7_few_63 rfl (lv_at hl 0 rfl) ?_
        refine z_get (v := .int (q1.1 66 24)) hx hb hts (fun w h => List.mem_cons_of_mem _ (List.mem_append_right _ (h))) hown E hh (by decide) (zC_obj (q := 66) rfl) rfl 24 (by decide) (hts (.fieldLink RX7 225 "TownBandModel" "bestNoise" "I") (List.mem_cons_of_mem _ (List.mem_append_left _ (List.mem_append_left _ (List.mem_of_getElem? (i := 5) rfl))))) rfl dX7_few_64 ?_
        refine lv_goto (tgt := 75) hx hb dX7_few_67 (by decide) ?_
        have hf := Option.some.inj hf
        subst hf
        exact z_iretM hx hb hr hlocks hh dX7_few_75
    · have hf := z_ip hf c_v3
      refine lv_aload_n hx hb dX7_few_51 rfl (lv_at hl 0 rfl) ?_
      refine z_get (v := .int (q1.1 66 22)) hx hb hts (fun w h => List.mem_cons_of_mem _ (List.mem_append_right _ (h))) hown E hh (by decide) (zC_obj (q := 66) rfl) rfl 22 (by decide) (hts (.fieldLink RX7 231 "TownBandModel" "bestSize" "I") (List.mem_cons_of_mem _ (List.mem_append_left _ (List.mem_append_left _ (List.mem_of_getElem? (i := 4) rfl))))) rfl dX7_few_52 ?_
      refine lv_goto (tgt := 75) hx hb dX7_few_55 (by decide) ?_
      have hf := Option.some.inj hf
      subst hf
      exact z_iretM hx hb hr hlocks hh dX7_few_75
  · have hf := z_in hf c_v2
    refine lv_bipush (v := (-4)) hx hb dX7_few_44 (by decide) ?_
    have hf := Option.some.inj hf
    subst hf
    exact z_iretM hx hb hr hlocks hh dX7_few_46
def fX7_few (N : Nat) (τ : zS) (x1 : Int32) : Option (Int32 × zS) :=
  (fX7_in N x1.toInt64 0 1).bind fun q1 =>
  if q1 = 0 then
    (fX7_in N x1.toInt64 10 14).bind fun q3 =>
    if q3 = 0 then
      some ((-1), τ)
    else
      (fX7_few_26 N) x1 τ
  else
    (fX7_few_26 N) x1 τ
set_option maxRecDepth 100000 in
set_option maxHeartbeats 4000000 in
theorem zcX7_few (l : Launch) (g : zG) (A : Nat → Prop) (σ τ : zS) (N : Nat) (x1 : Int32)  {res : Int32 × zS} (hf : fX7_few N τ x1 = some res) : Met l yX7_few wsX7_few (zR 5) (zPc g A σ τ [.ref (g.2.2 66), .int x1]) (zPi g A σ res) 0 0 A := by
  refine z_met (cc := cX7_few) (ret := (some .int)) (own := RX7) (by decide) rfl rfl _ (Nat.le_of_ble_eq_true rfl) ?_
  intro p e s m below meth c C E ls hl hh
  have hl : lv_has ls 2 [(0, .ref (g.2.2 66)), (1, .int x1)] := hl
  obtain ⟨hx, hb, hr, hml, hown, hts, hlocks⟩ := id C
  unfold fX7_few at hf
  refine lv_iload_n hx hb dX7_few_0 rfl (lv_at hl 1 rfl) ?_
  refine lv_i2l hx hb dX7_few_1 rfl ?_
  refine lv_lconst (v := 0) hx hb dX7_few_2 (by decide) ?_
  refine lv_lconst (v := 1) hx hb dX7_few_3 (by decide) ?_
  obtain ⟨q1, h_q1, hf⟩ := z_bd hf
  refine z_mi (va_runS (As := [.long x1.toInt64, .long 0, .long 1]) (rest := []) ⟨hx, hb, hml, hown, hts⟩ (zcX7_in l g A σ τ N x1.toInt64 0 1 h_q1) (va_cwS 3 hts gX7_few_X7_in rfl rfl rfl hdX7_in.2 ⟨by decide, by decide⟩) (z_preS E hh) rfl rfl hl.1 rfl (lv_room (Nat.le_of_ble_eq_true rfl)) dX7_few_4 ⟨Nat.le_refl _, Nat.le_refl _⟩) hh (fun H locs hh => ?_)
  refine lv_if_ne (tgt := 26) hx hb dX7_few_7 (by decide) (fun c_v2 => ?_) (fun c_v2 => ?_)
  · have hf := z_in hf c_v2
    exact (hX7_few_26 C E N) x1 τ _ _ _ hf hh (lv_sub hl [0, 1] rfl)
  · have hf := z_ip hf c_v2
    refine lv_iload_n hx hb dX7_few_10 rfl (lv_at hl 1 rfl) ?_
    refine lv_i2l hx hb dX7_few_11 rfl ?_
    refine lv_ldc2 (v := 10) hx hb hown (hts (.constantLong RX7 236 (10)) (List.mem_cons_of_mem _ (List.mem_append_left _ (List.mem_append_left _ (List.mem_of_getElem? (i := 0) rfl))))) dX7_few_12 ?_
    refine lv_ldc2 (v := 14) hx hb hown (hts (.constantLong RX7 238 (14)) (List.mem_cons_of_mem _ (List.mem_append_left _ (List.mem_append_left _ (List.mem_of_getElem? (i := 1) rfl))))) dX7_few_15 ?_
    obtain ⟨q3, h_q3, hf⟩ := z_bd hf
    refine z_mi (va_runS (As := [.long x1.toInt64, .long 10, .long 14]) (rest := []) ⟨hx, hb, hml, hown, hts⟩ (zcX7_in l g A σ τ N x1.toInt64 10 14 h_q3) (va_cwS 3 hts gX7_few_X7_in rfl rfl rfl hdX7_in.2 ⟨by decide, by decide⟩) (z_preS E hh) rfl rfl hl.1 rfl (lv_room (Nat.le_of_ble_eq_true rfl)) dX7_few_18 ⟨Nat.le_refl _, Nat.le_refl _⟩) hh (fun H locs hh => ?_)
    refine lv_if_ne (tgt := 26) hx hb dX7_few_21 (by decide) (fun c_v4 => ?_) (fun c_v4 => ?_)
    · have hf := z_in hf c_v4
      exact (hX7_few_26 C E N) x1 τ _ _ _ hf hh (lv_sub hl [0, 1] rfl)
    · have hf := z_ip hf c_v4
      refine lv_iconst (v := (-1)) hx hb dX7_few_24 (by decide) ?_
      have hf := Option.some.inj hf
      subst hf
      exact z_iretM hx hb hr hlocks hh dX7_few_25
/-! ===== X7_loud ===== -/
theorem hdX7_loud : yX7_loud.cls = RX7 ∧ yX7_loud.cls ≠ "java/lang/invoke/MethodHandle" ∧ yX7_loud.cls ≠ "java/lang/invoke/VarHandle" ∧ (parseMethodDescriptor yX7_loud.desc).map (fun d => d.parameters.length) = some 1 := by decide +kernel
def PX7_loud_26 (p : Program) (l : Launch) (e : Env) (s : State) (m : MethodId) (args : Array Value) (below : List Frame) (meth : Method) (c : Code) (g : zG) (A : Nat → Prop) (σ : zS) (res : Int32 × zS) (f : Int32 → zS → Option (Int32 × zS)) : Prop := ∀ (x1 : Int32) (τ : zS) (H : Heap) (locs : List Loc) (ls : Array Slot), f x1 τ = some res → zW g A σ τ s H locs → lv_has ls 2 [(0, .ref (g.2.2 66)), (1, .int x1)] → W p l e (zR 5) s m args below meth c H locs 0 0 (MQ below (zPi g A σ res) args s 0 0 A) (F0 m 26 ls [])
def fX7_loud_26 (N : Nat) (x1 : Int32) (τ : zS) : Option (Int32 × zS) :=
  (fX7_allTowers N τ (nI 31) (nI 1)).bind fun q1 =>
  if x1 = 0 then
    some ((q1.1 66 24), q1)
  else
    if x1 = (nI 1) then
      some ((q1.1 66 22), q1)
    else
      (fX7_placeBy N q1 x1).bind fun q4 =>
      some (q4, q1)
set_option maxRecDepth 100000 in
set_option maxHeartbeats 4000000 in
theorem hX7_loud_26 {p : Program} {l : Launch} {e : Env} {s : State} {m : MethodId} {args : Array Value} {below : List Frame} {meth : Method} {c : Code} {g : zG} {A : Nat → Prop} {σ : zS} {res : Int32 × zS} (C : zCx p s m args meth c cX7_loud (some .int) wsX7_loud RX7 2) (E : zE g A s) (N : Nat) : PX7_loud_26 p l e s m args below meth c g A σ res (fX7_loud_26 N) := by
  obtain ⟨hx, hb, hr, hml, hown, hts, hlocks⟩ := id C
  intro x1 τ H locs ls hf hh hl
  unfold fX7_loud_26 at hf
  refine lv_aload_n hx hb dX7_loud_26 rfl (lv_at hl 0 rfl) ?_
  refine lv_bipush (v := (nI 31)) hx hb dX7_loud_27 (by decide) ?_
  refine lv_iconst (v := (nI 1)) hx hb dX7_loud_29 (by decide) ?_
  obtain ⟨q1, h_q1, hf⟩ := z_bd hf
  refine z_mv (va_runV (As := [.int (nI 31), .int (nI 1)]) (rest := []) ⟨hx, hb, hml, hown, hts⟩ (zcX7_allTowers l g A σ τ N (nI 31) (nI 1) h_q1) (cwV 2 hts gX7_loud_X7_allTowers rfl rfl rfl hdX7_allTowers ⟨by decide, by decide⟩) (z_preV E hh (by decide) (zC_obj (q := 66) rfl) rfl) rfl rfl hl.1 rfl (lv_room (Nat.le_of_ble_eq_true rfl)) dX7_loud_30 ⟨Nat.le_refl _, Nat.le_refl _⟩) hh (fun H locs hh => ?_)
  refine lv_iload_n hx hb dX7_loud_33 rfl (lv_at hl 1 rfl) ?_
  refine lv_if_ne (tgt := 44) hx hb dX7_loud_34 (by decide) (fun c_v2 => ?_) (fun c_v2 => ?_)
  · have hf := z_in hf c_v2
    refine lv_iload_n hx hb dX7_loud_44 rfl (lv_at hl 1 rfl) ?_
    refine lv_iconst (v := (nI 1)) hx hb dX7_loud_45 (by decide) ?_
    refine lv_icmp_ne (tgt := 56) hx hb dX7_loud_46 (by decide) (fun c_v3 => ?_) (fun c_v3 => ?_)
    · have hf := z_in hf c_v3
      refine lv_aload_n hx hb dX7_loud_56 rfl (lv_at hl 0 rfl) ?_
      refine lv_iload_n hx hb dX7_loud_57 rfl (lv_at hl 1 rfl) ?_
      obtain ⟨q4, h_q4, hf⟩ := z_bd hf
      refine z_mi (va_runV (As := [.int x1]) (rest := []) ⟨hx, hb, hml, hown, hts⟩ (zcX7_placeBy l g A σ q1 N x1 h_q4) (cwV 1 hts gX7_loud_X7_placeBy rfl rfl rfl hdX7_placeBy ⟨by decide, by decide⟩) (z_preV E hh (by decide) (zC_obj (q := 66) rfl) rfl) rfl rfl hl.1 rfl (lv_room (Nat.le_of_ble_eq_true rfl)) dX7_loud_58 ⟨Nat.le_refl _, Nat.le_refl _⟩) hh (fun H locs hh => ?_)
      have hf := Option.some.inj hf
      subst hf
      exact z_iretM hx hb hr hlocks hh dX7_loud_61
    · have hf := z_ip hf c_v3
      refine lv_aload_n hx hb dX7_loud_49 rfl (lv_at hl 0 rfl) ?_
      refine z_get (v := .int (q1.1 66 22)) hx hb hts (fun w h => List.mem_cons_of_mem _ (List.mem_append_right _ (h))) hown E hh (by decide) (zC_obj (q := 66) rfl) rfl 22 (by decide) (hts (.fieldLink RX7 231 "TownBandModel" "bestSize" "I") (List.mem_cons_of_mem _ (List.mem_append_left _ (List.mem_append_left _ (List.mem_of_getElem? (i := 3) rfl))))) rfl dX7_loud_50 ?_
      refine lv_goto (tgt := 61) hx hb dX7_loud_53 (by decide) ?_
      have hf := Option.some.inj hf
      subst hf
      exact z_iretM hx hb hr hlocks hh dX7_loud_61
  · have hf := z_ip hf c_v2
    refine lv_aload_n hx hb dX7_loud_37 rfl (lv_at hl 0 rfl) ?_
    refine z_get (v := .int (q1.1 66 24)) hx hb hts (fun w h => List.mem_cons_of_mem _ (List.mem_append_right _ (h))) hown E hh (by decide) (zC_obj (q := 66) rfl) rfl 24 (by decide) (hts (.fieldLink RX7 225 "TownBandModel" "bestNoise" "I") (List.mem_cons_of_mem _ (List.mem_append_left _ (List.mem_append_left _ (List.mem_of_getElem? (i := 2) rfl))))) rfl dX7_loud_38 ?_
    refine lv_goto (tgt := 61) hx hb dX7_loud_41 (by decide) ?_
    have hf := Option.some.inj hf
    subst hf
    exact z_iretM hx hb hr hlocks hh dX7_loud_61
def fX7_loud (N : Nat) (τ : zS) (x1 : Int32) : Option (Int32 × zS) :=
  (fX7_in N x1.toInt64 0 1).bind fun q1 =>
  if q1 = 0 then
    (fX7_in N x1.toInt64 10 14).bind fun q3 =>
    if q3 = 0 then
      some ((-1), τ)
    else
      (fX7_loud_26 N) x1 τ
  else
    (fX7_loud_26 N) x1 τ
set_option maxRecDepth 100000 in
set_option maxHeartbeats 4000000 in
theorem zcX7_loud (l : Launch) (g : zG) (A : Nat → Prop) (σ τ : zS) (N : Nat) (x1 : Int32)  {res : Int32 × zS} (hf : fX7_loud N τ x1 = some res) : Met l yX7_loud wsX7_loud (zR 5) (zPc g A σ τ [.ref (g.2.2 66), .int x1]) (zPi g A σ res) 0 0 A := by
  refine z_met (cc := cX7_loud) (ret := (some .int)) (own := RX7) (by decide) rfl rfl _ (Nat.le_of_ble_eq_true rfl) ?_
  intro p e s m below meth c C E ls hl hh
  have hl : lv_has ls 2 [(0, .ref (g.2.2 66)), (1, .int x1)] := hl
  obtain ⟨hx, hb, hr, hml, hown, hts, hlocks⟩ := id C
  unfold fX7_loud at hf
  refine lv_iload_n hx hb dX7_loud_0 rfl (lv_at hl 1 rfl) ?_
  refine lv_i2l hx hb dX7_loud_1 rfl ?_
  refine lv_lconst (v := 0) hx hb dX7_loud_2 (by decide) ?_
  refine lv_lconst (v := 1) hx hb dX7_loud_3 (by decide) ?_
  obtain ⟨q1, h_q1, hf⟩ := z_bd hf
  refine z_mi (va_runS (As := [.long x1.toInt64, .long 0, .long 1]) (rest := []) ⟨hx, hb, hml, hown, hts⟩ (zcX7_in l g A σ τ N x1.toInt64 0 1 h_q1) (va_cwS 3 hts gX7_loud_X7_in rfl rfl rfl hdX7_in.2 ⟨by decide, by decide⟩) (z_preS E hh) rfl rfl hl.1 rfl (lv_room (Nat.le_of_ble_eq_true rfl)) dX7_loud_4 ⟨Nat.le_refl _, Nat.le_refl _⟩) hh (fun H locs hh => ?_)
  refine lv_if_ne (tgt := 26) hx hb dX7_loud_7 (by decide) (fun c_v2 => ?_) (fun c_v2 => ?_)
  · have hf := z_in hf c_v2
    exact (hX7_loud_26 C E N) x1 τ _ _ _ hf hh (lv_sub hl [0, 1] rfl)
  · have hf := z_ip hf c_v2
    refine lv_iload_n hx hb dX7_loud_10 rfl (lv_at hl 1 rfl) ?_
    refine lv_i2l hx hb dX7_loud_11 rfl ?_
    refine lv_ldc2 (v := 10) hx hb hown (hts (.constantLong RX7 236 (10)) (List.mem_cons_of_mem _ (List.mem_append_left _ (List.mem_append_left _ (List.mem_of_getElem? (i := 0) rfl))))) dX7_loud_12 ?_
    refine lv_ldc2 (v := 14) hx hb hown (hts (.constantLong RX7 238 (14)) (List.mem_cons_of_mem _ (List.mem_append_left _ (List.mem_append_left _ (List.mem_of_getElem? (i := 1) rfl))))) dX7_loud_15 ?_
    obtain ⟨q3, h_q3, hf⟩ := z_bd hf
    refine z_mi (va_runS (As := [.long x1.toInt64, .long 10, .long 14]) (rest := []) ⟨hx, hb, hml, hown, hts⟩ (zcX7_in l g A σ τ N x1.toInt64 10 14 h_q3) (va_cwS 3 hts gX7_loud_X7_in rfl rfl rfl hdX7_in.2 ⟨by decide, by decide⟩) (z_preS E hh) rfl rfl hl.1 rfl (lv_room (Nat.le_of_ble_eq_true rfl)) dX7_loud_18 ⟨Nat.le_refl _, Nat.le_refl _⟩) hh (fun H locs hh => ?_)
    refine lv_if_ne (tgt := 26) hx hb dX7_loud_21 (by decide) (fun c_v4 => ?_) (fun c_v4 => ?_)
    · have hf := z_in hf c_v4
      exact (hX7_loud_26 C E N) x1 τ _ _ _ hf hh (lv_sub hl [0, 1] rfl)
    · have hf := z_ip hf c_v4
      refine lv_iconst (v := (-1)) hx hb dX7_loud_24 (by decide) ?_
      have hf := Option.some.inj hf
      subst hf
      exact z_iretM hx hb hr hlocks hh dX7_loud_25
/-! ===== X7_towers ===== -/
theorem hdX7_towers : yX7_towers.cls = RX7 ∧ yX7_towers.cls ≠ "java/lang/invoke/MethodHandle" ∧ yX7_towers.cls ≠ "java/lang/invoke/VarHandle" ∧ (parseMethodDescriptor yX7_towers.desc).map (fun d => d.parameters.length) = some 0 := by decide +kernel
def fX7_towers (N : Nat) (τ : zS)  : Option (Int32 × zS) :=
  (fX7_allTowers N τ (nI 31) (nI 1)).bind fun q1 =>
  some ((q1.1 66 25), q1)
set_option maxRecDepth 100000 in
set_option maxHeartbeats 4000000 in
theorem zcX7_towers (l : Launch) (g : zG) (A : Nat → Prop) (σ τ : zS) (N : Nat)   {res : Int32 × zS} (hf : fX7_towers N τ = some res) : Met l yX7_towers wsX7_towers (zR 5) (zPc g A σ τ [.ref (g.2.2 66)]) (zPi g A σ res) 0 0 A := by
  refine z_met (cc := cX7_towers) (ret := (some .int)) (own := RX7) (by decide) rfl rfl _ (Nat.le_of_ble_eq_true rfl) ?_
  intro p e s m below meth c C E ls hl hh
  have hl : lv_has ls 1 [(0, .ref (g.2.2 66))] := hl
  obtain ⟨hx, hb, hr, hml, hown, hts, hlocks⟩ := id C
  unfold fX7_towers at hf
  refine lv_aload_n hx hb dX7_towers_0 rfl (lv_at hl 0 rfl) ?_
  refine lv_bipush (v := (nI 31)) hx hb dX7_towers_1 (by decide) ?_
  refine lv_iconst (v := (nI 1)) hx hb dX7_towers_3 (by decide) ?_
  obtain ⟨q1, h_q1, hf⟩ := z_bd hf
  refine z_mv (va_runV (As := [.int (nI 31), .int (nI 1)]) (rest := []) ⟨hx, hb, hml, hown, hts⟩ (zcX7_allTowers l g A σ τ N (nI 31) (nI 1) h_q1) (cwV 2 hts gX7_towers_X7_allTowers rfl rfl rfl hdX7_allTowers ⟨by decide, by decide⟩) (z_preV E hh (by decide) (zC_obj (q := 66) rfl) rfl) rfl rfl hl.1 rfl (lv_room (Nat.le_of_ble_eq_true rfl)) dX7_towers_4 ⟨Nat.le_refl _, Nat.le_refl _⟩) hh (fun H locs hh => ?_)
  refine lv_aload_n hx hb dX7_towers_7 rfl (lv_at hl 0 rfl) ?_
  refine z_get (v := .int (q1.1 66 25)) hx hb hts (fun w h => List.mem_cons_of_mem _ (List.mem_append_right _ (h))) hown E hh (by decide) (zC_obj (q := 66) rfl) rfl 25 (by decide) (hts (.fieldLink RX7 218 "TownBandModel" "towerMany" "I") (List.mem_cons_of_mem _ (List.mem_append_left _ (List.mem_append_left _ (List.mem_of_getElem? (i := 0) rfl))))) rfl dX7_towers_8 ?_
  have hf := Option.some.inj hf
  subst hf
  exact z_iretM hx hb hr hlocks hh dX7_towers_11
/-! ===== X7_hurtBy ===== -/
theorem hdX7_hurtBy : yX7_hurtBy.cls = RX7 ∧ yX7_hurtBy.cls ≠ "java/lang/invoke/MethodHandle" ∧ yX7_hurtBy.cls ≠ "java/lang/invoke/VarHandle" ∧ (parseMethodDescriptor yX7_hurtBy.desc).map (fun d => d.parameters.length) = some 1 := by decide +kernel
def PX7_hurtBy_62 (p : Program) (l : Launch) (e : Env) (s : State) (m : MethodId) (args : Array Value) (below : List Frame) (meth : Method) (c : Code) (g : zG) (A : Nat → Prop) (σ : zS) (res : Int32 × zS) (f : Int32 → Int32 → Int32 → zS → Option (Int32 × zS)) : Prop := ∀ (x1 : Int32) (s0 : Int32) (s2 : Int32) (τ : zS) (H : Heap) (locs : List Loc) (ls : Array Slot), f x1 s0 s2 τ = some res → zW g A σ τ s H locs → lv_has ls 3 [(0, .ref (g.2.2 66)), (1, .int x1)] → W p l e (zR 2) s m args below meth c H locs 0 0 (MQ below (zPi g A σ res) args s 0 0 A) (F0 m 62 ls [.int s0, .ref (g.2.2 66), .int s2])
def PX7_hurtBy_7 (p : Program) (l : Launch) (e : Env) (s : State) (m : MethodId) (args : Array Value) (below : List Frame) (meth : Method) (c : Code) (g : zG) (A : Nat → Prop) (σ : zS) (res : Int32 × zS) (f : Int32 → Int32 → zS → Option (Int32 × zS)) : Prop := ∀ (x1 : Int32) (x2 : Int32) (τ : zS) (H : Heap) (locs : List Loc) (ls : Array Slot), f x1 x2 τ = some res → zW g A σ τ s H locs → lv_has ls 3 [(0, .ref (g.2.2 66)), (1, .int x1), (2, .int x2)] → W p l e (zR 2) s m args below meth c H locs 0 0 (MQ below (zPi g A σ res) args s 0 0 A) (F0 m 7 ls [])
def fX7_hurtBy_62 (N : Nat) (rc : Int32 → Int32 → zS → Option (Int32 × zS)) (x1 : Int32) (s0 : Int32) (s2 : Int32) (τ : zS) : Option (Int32 × zS) :=
  (fX7_hurts N τ s0).bind fun q1 =>
  zlet (zpf τ 66 26 ((τ.1 66 26) + (nI 1))) fun τ2 =>
  rc x1 (s2 + q1) τ2
set_option maxRecDepth 100000 in
set_option maxHeartbeats 4000000 in
theorem hX7_hurtBy_62 {p : Program} {l : Launch} {e : Env} {s : State} {m : MethodId} {args : Array Value} {below : List Frame} {meth : Method} {c : Code} {g : zG} {A : Nat → Prop} {σ : zS} {res : Int32 × zS} (C : zCx p s m args meth c cX7_hurtBy (some .int) wsX7_hurtBy RX7 3) (E : zE g A s) (N : Nat) (rc : Int32 → Int32 → zS → Option (Int32 × zS)) (hrc : PX7_hurtBy_7 p l e s m args below meth c g A σ res rc) : PX7_hurtBy_62 p l e s m args below meth c g A σ res (fX7_hurtBy_62 N rc) := by
  obtain ⟨hx, hb, hr, hml, hown, hts, hlocks⟩ := id C
  intro x1 s0 s2 τ H locs ls hf hh hl
  unfold fX7_hurtBy_62 at hf
  obtain ⟨q1, h_q1, hf⟩ := z_bd hf
  refine z_mi (va_runV (As := [.int s0]) (rest := [.int s2]) ⟨hx, hb, hml, hown, hts⟩ (zcX7_hurts l g A σ τ N s0 h_q1) (cwV 1 hts gX7_hurtBy_X7_hurts rfl rfl rfl hdX7_hurts ⟨by decide, by decide⟩) (z_preV E hh (by decide) (zC_obj (q := 66) rfl) rfl) rfl rfl hl.1 rfl (lv_room (Nat.le_of_ble_eq_true rfl)) dX7_hurtBy_62 ⟨Nat.le_refl _, Nat.le_refl _⟩) hh (fun H locs hh => ?_)
  refine lv_iadd hx hb dX7_hurtBy_65 ?_
  refine lv_istore_n (lv' := [(2, .int (s2 + q1)), (0, .ref (g.2.2 66)), (1, .int x1)]) hx hb dX7_hurtBy_66 rfl hl (by decide) rfl (fun ls hl => ?_)
  refine lv_aload_n hx hb dX7_hurtBy_67 rfl (lv_at hl 1 rfl) ?_
  refine lv_dup hx hb dX7_hurtBy_68 rfl ?_
  refine z_get (v := .int (τ.1 66 26)) hx hb hts (fun w h => List.mem_cons_of_mem _ (List.mem_append_right _ (h))) hown E hh (by decide) (zC_obj (q := 66) rfl) rfl 26 (by decide) (hts (.fieldLink RX7 246 "TownBandModel" "metMany" "I") (List.mem_cons_of_mem _ (List.mem_append_left _ (List.mem_of_getElem? (i := 0) rfl)))) rfl dX7_hurtBy_69 ?_
  refine lv_iconst (v := (nI 1)) hx hb dX7_hurtBy_72 (by decide) ?_
  refine lv_iadd hx hb dX7_hurtBy_73 ?_
  obtain ⟨τ2, e_τ2, hf⟩ := z_lt hf
  refine z_putM hx hb hts (fun w h => List.mem_cons_of_mem _ (List.mem_append_right _ (h))) tyX7 tyX7_ok nmX7 hown E hh (by decide) (by decide) (show zD 66 = _ from rfl) rfl 26 (by decide) rfl (hts (.fieldLink RX7 246 "TownBandModel" "metMany" "I") (List.mem_cons_of_mem _ (List.mem_append_left _ (List.mem_of_getElem? (i := 0) rfl)))) rfl rfl e_τ2 dX7_hurtBy_74 (fun H locs hh => ?_)
  refine lv_goto (tgt := 7) hx hb dX7_hurtBy_77 (by decide) ?_
  exact hrc x1 (s2 + q1) τ2 _ _ _ hf hh (lv_sub hl [1, 2, 0] rfl)
def fX7_hurtBy_7 (N : Nat) : Nat → Int32 → Int32 → zS → Option (Int32 × zS)
  | 0, _, _, _ => none
  | n + 1, x1, x2, τ =>
    if (τ.1 66 1) ≤ (τ.1 66 26) then
      some (x2, τ)
    else
      if zin (nI 30) (zlen 55) then
      zlet (τ.2 55 (nI 30).toNatClampNeg) fun v3 =>
      if (v3 + (nI 5)) < x2 then
        some (x2, τ)
      else
        if x1 = (-4) then
          (fX7_bedBeast N τ (τ.1 66 26)).bind fun q7 =>
          (fX7_hurtBy_62 N (fX7_hurtBy_7 N n)) x1 q7 x2 τ
        else
          (fX7_figureOf N x1 (τ.1 66 1) (τ.1 66 26)).bind fun q6 =>
          (fX7_hurtBy_62 N (fX7_hurtBy_7 N n)) x1 q6 x2 τ
      else none
set_option maxRecDepth 100000 in
set_option maxHeartbeats 4000000 in
theorem hX7_hurtBy_7 {p : Program} {l : Launch} {e : Env} {s : State} {m : MethodId} {args : Array Value} {below : List Frame} {meth : Method} {c : Code} {g : zG} {A : Nat → Prop} {σ : zS} {res : Int32 × zS} (C : zCx p s m args meth c cX7_hurtBy (some .int) wsX7_hurtBy RX7 3) (E : zE g A s) (N : Nat) : ∀ n : Nat, PX7_hurtBy_7 p l e s m args below meth c g A σ res (fX7_hurtBy_7 N n) := by
  obtain ⟨hx, hb, hr, hml, hown, hts, hlocks⟩ := id C
  intro n
  induction n with
  | zero =>
    intro x1 x2 τ H locs ls hf
    exact absurd hf (by simp [fX7_hurtBy_7])
  | succ n ih =>
    intro x1 x2 τ H locs ls hf hh hl
    rw [fX7_hurtBy_7] at hf
    refine lv_aload_n hx hb dX7_hurtBy_7 rfl (lv_at hl 0 rfl) ?_
    refine z_get (v := .int (τ.1 66 26)) hx hb hts (fun w h => List.mem_cons_of_mem _ (List.mem_append_right _ (h))) hown E hh (by decide) (zC_obj (q := 66) rfl) rfl 26 (by decide) (hts (.fieldLink RX7 246 "TownBandModel" "metMany" "I") (List.mem_cons_of_mem _ (List.mem_append_left _ (List.mem_of_getElem? (i := 0) rfl)))) rfl dX7_hurtBy_8 ?_
    refine lv_aload_n hx hb dX7_hurtBy_11 rfl (lv_at hl 0 rfl) ?_
    refine z_get (v := .int (τ.1 66 1)) hx hb hts (fun w h => List.mem_cons_of_mem _ (List.mem_append_right _ (h))) hown E hh (by decide) (zC_obj (q := 66) rfl) rfl 1 (by decide) (hts (.fieldLink RX7 141 "TownBandModel" "beastMany" "I") (List.mem_cons_of_mem _ (List.mem_append_left _ (List.mem_of_getElem? (i := 1) rfl)))) rfl dX7_hurtBy_12 ?_
    refine lv_icmp_ge (tgt := 80) hx hb dX7_hurtBy_15 (by decide) (fun c_v1 => ?_) (fun c_v1 => ?_)
    · have hf := z_ip hf c_v1
      refine lv_iload_n hx hb dX7_hurtBy_80 rfl (lv_at hl 2 rfl) ?_
      have hf := Option.some.inj hf
      subst hf
      exact z_iretM hx hb hr hlocks hh dX7_hurtBy_81
    · have hf := z_in hf c_v1
      refine lv_iload_n hx hb dX7_hurtBy_18 rfl (lv_at hl 2 rfl) ?_
      refine lv_aload_n hx hb dX7_hurtBy_19 rfl (lv_at hl 0 rfl) ?_
      refine z_get (v := .ref (g.2.2 55)) hx hb hts (fun w h => List.mem_cons_of_mem _ (List.mem_append_right _ (h))) hown E hh (by decide) (zC_obj (q := 66) rfl) rfl 0 (by decide) (hts (.fieldLink RX7 7 "TownBandModel" "state" "[I") (List.mem_cons_of_mem _ (List.mem_append_left _ (List.mem_of_getElem? (i := 2) rfl)))) rfl dX7_hurtBy_20 ?_
      refine lv_bipush (v := (nI 30)) hx hb dX7_hurtBy_23 (by decide) ?_
      obtain ⟨h_v2, hf⟩ := z_if hf
      obtain ⟨v3, e_v3, hf⟩ := z_lt hf
      refine z_ialdM hx hb E hh (by decide) (by decide) h_v2 e_v3 dX7_hurtBy_25 ?_
      refine lv_iconst (v := (nI 5)) hx hb dX7_hurtBy_26 (by decide) ?_
      refine lv_iadd hx hb dX7_hurtBy_27 ?_
      refine lv_icmp_gt (tgt := 80) hx hb dX7_hurtBy_28 (by decide) (fun c_v4 => ?_) (fun c_v4 => ?_)
      · have hf := z_ip hf c_v4
        refine lv_iload_n hx hb dX7_hurtBy_80 rfl (lv_at hl 2 rfl) ?_
        have hf := Option.some.inj hf
        subst hf
        exact z_iretM hx hb hr hlocks hh dX7_hurtBy_81
      · have hf := z_in hf c_v4
        refine lv_iload_n hx hb dX7_hurtBy_31 rfl (lv_at hl 2 rfl) ?_
        refine lv_aload_n hx hb dX7_hurtBy_32 rfl (lv_at hl 0 rfl) ?_
        refine lv_iload_n hx hb dX7_hurtBy_33 rfl (lv_at hl 1 rfl) ?_
        refine lv_bipush (v := (-4)) hx hb dX7_hurtBy_34 (by decide) ?_
        refine lv_icmp_ne (tgt := 50) hx hb dX7_hurtBy_36 (by decide) (fun c_v5 => ?_) (fun c_v5 => ?_)
        · have hf := z_in hf c_v5
          refine lv_iload_n hx hb dX7_hurtBy_50 rfl (lv_at hl 1 rfl) ?_
          refine lv_aload_n hx hb dX7_hurtBy_51 rfl (lv_at hl 0 rfl) ?_
          refine z_get (v := .int (τ.1 66 1)) hx hb hts (fun w h => List.mem_cons_of_mem _ (List.mem_append_right _ (h))) hown E hh (by decide) (zC_obj (q := 66) rfl) rfl 1 (by decide) (hts (.fieldLink RX7 141 "TownBandModel" "beastMany" "I") (List.mem_cons_of_mem _ (List.mem_append_left _ (List.mem_of_getElem? (i := 1) rfl)))) rfl dX7_hurtBy_52 ?_
          refine lv_aload_n hx hb dX7_hurtBy_55 rfl (lv_at hl 0 rfl) ?_
          refine z_get (v := .int (τ.1 66 26)) hx hb hts (fun w h => List.mem_cons_of_mem _ (List.mem_append_right _ (h))) hown E hh (by decide) (zC_obj (q := 66) rfl) rfl 26 (by decide) (hts (.fieldLink RX7 246 "TownBandModel" "metMany" "I") (List.mem_cons_of_mem _ (List.mem_append_left _ (List.mem_of_getElem? (i := 0) rfl)))) rfl dX7_hurtBy_56 ?_
          obtain ⟨q6, h_q6, hf⟩ := z_bd hf
          refine z_mi (va_runS (As := [.int x1, .int (τ.1 66 1), .int (τ.1 66 26)]) (rest := [.ref (g.2.2 66), .int x2]) ⟨hx, hb, hml, hown, hts⟩ (zcX7_figureOf l g A σ τ N x1 (τ.1 66 1) (τ.1 66 26) h_q6) (va_cwS 3 hts gX7_hurtBy_X7_figureOf rfl rfl rfl hdX7_figureOf.2 ⟨by decide, by decide⟩) (z_preS E hh) rfl rfl hl.1 rfl (lv_room (Nat.le_of_ble_eq_true rfl)) dX7_hurtBy_59 ⟨Nat.le_refl _, Nat.le_refl _⟩) hh (fun H locs hh => ?_)
          exact (hX7_hurtBy_62 C E N (fX7_hurtBy_7 N n) ih) x1 q6 x2 τ _ _ _ hf hh (lv_sub hl [0, 1] rfl)
        · have hf := z_ip hf c_v5
          refine lv_aload_n hx hb dX7_hurtBy_39 rfl (lv_at hl 0 rfl) ?_
          refine lv_aload_n hx hb dX7_hurtBy_40 rfl (lv_at hl 0 rfl) ?_
          refine z_get (v := .int (τ.1 66 26)) hx hb hts (fun w h => List.mem_cons_of_mem _ (List.mem_append_right _ (h))) hown E hh (by decide) (zC_obj (q := 66) rfl) rfl 26 (by decide) (hts (.fieldLink RX7 246 "TownBandModel" "metMany" "I") (List.mem_cons_of_mem _ (List.mem_append_left _ (List.mem_of_getElem? (i := 0) rfl)))) rfl dX7_hurtBy_41 ?_
          obtain ⟨q7, h_q7, hf⟩ := z_bd hf
          refine z_mi (va_runV (As := [.int (τ.1 66 26)]) (rest := [.ref (g.2.2 66), .int x2]) ⟨hx, hb, hml, hown, hts⟩ (zcX7_bedBeast l g A σ τ N (τ.1 66 26) h_q7) (cwV 1 hts gX7_hurtBy_X7_bedBeast rfl rfl rfl hdX7_bedBeast ⟨by decide, by decide⟩) (z_preV E hh (by decide) (zC_obj (q := 66) rfl) rfl) rfl rfl hl.1 rfl (lv_room (Nat.le_of_ble_eq_true rfl)) dX7_hurtBy_44 ⟨Nat.le_refl _, Nat.le_refl _⟩) hh (fun H locs hh => ?_)
          refine lv_goto (tgt := 62) hx hb dX7_hurtBy_47 (by decide) ?_
          exact (hX7_hurtBy_62 C E N (fX7_hurtBy_7 N n) ih) x1 q7 x2 τ _ _ _ hf hh (lv_sub hl [0, 1] rfl)
def fX7_hurtBy (N : Nat) (τ : zS) (x1 : Int32) : Option (Int32 × zS) :=
  zlet (zpf τ 66 26 (nI 0)) fun τ1 =>
  (fX7_hurtBy_7 N N) x1 (nI 0) τ1
set_option maxRecDepth 100000 in
set_option maxHeartbeats 4000000 in
theorem zcX7_hurtBy (l : Launch) (g : zG) (A : Nat → Prop) (σ τ : zS) (N : Nat) (x1 : Int32)  {res : Int32 × zS} (hf : fX7_hurtBy N τ x1 = some res) : Met l yX7_hurtBy wsX7_hurtBy (zR 2) (zPc g A σ τ [.ref (g.2.2 66), .int x1]) (zPi g A σ res) 0 0 A := by
  refine z_met (cc := cX7_hurtBy) (ret := (some .int)) (own := RX7) (by decide) rfl rfl _ (Nat.le_of_ble_eq_true rfl) ?_
  intro p e s m below meth c C E ls hl hh
  have hl : lv_has ls 3 [(0, .ref (g.2.2 66)), (1, .int x1)] := hl
  obtain ⟨hx, hb, hr, hml, hown, hts, hlocks⟩ := id C
  unfold fX7_hurtBy at hf
  refine lv_iconst (v := (nI 0)) hx hb dX7_hurtBy_0 (by decide) ?_
  refine lv_istore_n (lv' := [(2, .int (nI 0)), (0, .ref (g.2.2 66)), (1, .int x1)]) hx hb dX7_hurtBy_1 rfl hl (by decide) rfl (fun ls hl => ?_)
  refine lv_aload_n hx hb dX7_hurtBy_2 rfl (lv_at hl 1 rfl) ?_
  refine lv_iconst (v := (nI 0)) hx hb dX7_hurtBy_3 (by decide) ?_
  obtain ⟨τ1, e_τ1, hf⟩ := z_lt hf
  refine z_putM hx hb hts (fun w h => List.mem_cons_of_mem _ (List.mem_append_right _ (h))) tyX7 tyX7_ok nmX7 hown E hh (by decide) (by decide) (show zD 66 = _ from rfl) rfl 26 (by decide) rfl (hts (.fieldLink RX7 246 "TownBandModel" "metMany" "I") (List.mem_cons_of_mem _ (List.mem_append_left _ (List.mem_of_getElem? (i := 0) rfl)))) rfl rfl e_τ1 dX7_hurtBy_4 (fun H locs hh => ?_)
  exact (hX7_hurtBy_7 C E N N) x1 (nI 0) τ1 _ _ _ hf hh (lv_sub hl [1, 2, 0] rfl)
/-! ===== X7_tale ===== -/
theorem hdX7_tale : yX7_tale.cls = RX7 ∧ yX7_tale.cls ≠ "java/lang/invoke/MethodHandle" ∧ yX7_tale.cls ≠ "java/lang/invoke/VarHandle" ∧ (parseMethodDescriptor yX7_tale.desc).map (fun d => d.parameters.length) = some 1 := by decide +kernel
def fX7_tale (N : Nat) (τ : zS) (x1 : Int32) : Option (Int32 × zS) :=
  (fX7_hurtBy N τ (-4)).bind fun q1 =>
  if x1 = 0 then
    some (q1.1, q1.2)
  else
    if x1 = (nI 1) then
      some ((q1.2.1 66 26), q1.2)
    else
      if x1 = (nI 2) then
        some (((nI 9) * q1.1), q1.2)
      else
        some ((-1), q1.2)
set_option maxRecDepth 100000 in
set_option maxHeartbeats 4000000 in
theorem zcX7_tale (l : Launch) (g : zG) (A : Nat → Prop) (σ τ : zS) (N : Nat) (x1 : Int32)  {res : Int32 × zS} (hf : fX7_tale N τ x1 = some res) : Met l yX7_tale wsX7_tale (zR 3) (zPc g A σ τ [.ref (g.2.2 66), .int x1]) (zPi g A σ res) 0 0 A := by
  refine z_met (cc := cX7_tale) (ret := (some .int)) (own := RX7) (by decide) rfl rfl _ (Nat.le_of_ble_eq_true rfl) ?_
  intro p e s m below meth c C E ls hl hh
  have hl : lv_has ls 3 [(0, .ref (g.2.2 66)), (1, .int x1)] := hl
  obtain ⟨hx, hb, hr, hml, hown, hts, hlocks⟩ := id C
  unfold fX7_tale at hf
  refine lv_aload_n hx hb dX7_tale_0 rfl (lv_at hl 0 rfl) ?_
  refine lv_bipush (v := (-4)) hx hb dX7_tale_1 (by decide) ?_
  obtain ⟨q1, h_q1, hf⟩ := z_bd hf
  refine z_mi (va_runV (As := [.int (-4)]) (rest := []) ⟨hx, hb, hml, hown, hts⟩ (zcX7_hurtBy l g A σ τ N (-4) h_q1) (cwV 1 hts gX7_tale_X7_hurtBy rfl rfl rfl hdX7_hurtBy ⟨by decide, by decide⟩) (z_preV E hh (by decide) (zC_obj (q := 66) rfl) rfl) rfl rfl hl.1 rfl (lv_room (Nat.le_of_ble_eq_true rfl)) dX7_tale_3 ⟨Nat.le_refl _, Nat.le_refl _⟩) hh (fun H locs hh => ?_)
  refine lv_istore_n (lv' := [(2, .int q1.1), (0, .ref (g.2.2 66)), (1, .int x1)]) hx hb dX7_tale_6 rfl hl (by decide) rfl (fun ls hl => ?_)
  refine lv_iload_n hx hb dX7_tale_7 rfl (lv_at hl 2 rfl) ?_
  refine lv_if_ne (tgt := 15) hx hb dX7_tale_8 (by decide) (fun c_v2 => ?_) (fun c_v2 => ?_)
  · have hf := z_in hf c_v2
    refine lv_iload_n hx hb dX7_tale_15 rfl (lv_at hl 2 rfl) ?_
    refine lv_iconst (v := (nI 1)) hx hb dX7_tale_16 (by decide) ?_
    refine lv_icmp_ne (tgt := 27) hx hb dX7_tale_17 (by decide) (fun c_v3 => ?_) (fun c_v3 => ?_)
    · have hf := z_in hf c_v3
      refine lv_iload_n hx hb dX7_tale_27 rfl (lv_at hl 2 rfl) ?_
      refine lv_iconst (v := (nI 2)) hx hb dX7_tale_28 (by decide) ?_
      refine lv_icmp_ne (tgt := 39) hx hb dX7_tale_29 (by decide) (fun c_v4 => ?_) (fun c_v4 => ?_)
      · have hf := z_in hf c_v4
        refine lv_iconst (v := (-1)) hx hb dX7_tale_39 (by decide) ?_
        have hf := Option.some.inj hf
        subst hf
        exact z_iretM hx hb hr hlocks hh dX7_tale_40
      · have hf := z_ip hf c_v4
        refine lv_bipush (v := (nI 9)) hx hb dX7_tale_32 (by decide) ?_
        refine lv_iload_n hx hb dX7_tale_34 rfl (lv_at hl 0 rfl) ?_
        refine lv_imul hx hb dX7_tale_35 ?_
        refine lv_goto (tgt := 40) hx hb dX7_tale_36 (by decide) ?_
        have hf := Option.some.inj hf
        subst hf
        exact z_iretM hx hb hr hlocks hh dX7_tale_40
    · have hf := z_ip hf c_v3
      refine lv_aload_n hx hb dX7_tale_20 rfl (lv_at hl 1 rfl) ?_
      refine z_get (v := .int (q1.2.1 66 26)) hx hb hts (fun w h => List.mem_cons_of_mem _ (List.mem_append_right _ (h))) hown E hh (by decide) (zC_obj (q := 66) rfl) rfl 26 (by decide) (hts (.fieldLink RX7 246 "TownBandModel" "metMany" "I") (List.mem_cons_of_mem _ (List.mem_append_left _ (List.mem_append_left _ (List.mem_of_getElem? (i := 0) rfl))))) rfl dX7_tale_21 ?_
      refine lv_goto (tgt := 40) hx hb dX7_tale_24 (by decide) ?_
      have hf := Option.some.inj hf
      subst hf
      exact z_iretM hx hb hr hlocks hh dX7_tale_40
  · have hf := z_ip hf c_v2
    refine lv_iload_n hx hb dX7_tale_11 rfl (lv_at hl 0 rfl) ?_
    refine lv_goto (tgt := 40) hx hb dX7_tale_12 (by decide) ?_
    have hf := Option.some.inj hf
    subst hf
    exact z_iretM hx hb hr hlocks hh dX7_tale_40
/-! ===== X7_isOrder ===== -/
theorem hdX7_isOrder : yX7_isOrder.cls = RX7 ∧ yX7_isOrder.cls ≠ "java/lang/invoke/MethodHandle" ∧ yX7_isOrder.cls ≠ "java/lang/invoke/VarHandle" ∧ (parseMethodDescriptor yX7_isOrder.desc).map (fun d => d.parameters.length) = some 1 := by decide +kernel
def PX7_isOrder_27 (p : Program) (l : Launch) (e : Env) (s : State) (m : MethodId) (args : Array Value) (below : List Frame) (meth : Method) (c : Code) (g : zG) (A : Nat → Prop) (σ τ : zS) (res : Int32) (f : Option (Int32)) : Prop := ∀  (H : Heap) (locs : List Loc) (ls : Array Slot), f = some res → zW g A σ τ s H locs → lv_has ls 2 [] → W p l e (zR 3) s m args below meth c H locs 0 0 (MQ below (zPi g A σ (res, τ)) args s 0 0 A) (F0 m 27 ls [])
def fX7_isOrder_27 (N : Nat) (τ : zS)  : Option (Int32) :=
  some 1
set_option maxRecDepth 100000 in
set_option maxHeartbeats 4000000 in
theorem hX7_isOrder_27 {p : Program} {l : Launch} {e : Env} {s : State} {m : MethodId} {args : Array Value} {below : List Frame} {meth : Method} {c : Code} {g : zG} {A : Nat → Prop} {σ τ : zS} {res : Int32} (C : zCx p s m args meth c cX7_isOrder (some .boolean) wsX7_isOrder RX7 2) (E : zE g A s) (N : Nat) : PX7_isOrder_27 p l e s m args below meth c g A σ τ res (fX7_isOrder_27 N τ) := by
  obtain ⟨hx, hb, hr, hml, hown, hts, hlocks⟩ := id C
  intro H locs ls hf hh hl
  unfold fX7_isOrder_27 at hf
  refine lv_iconst (v := (nI 1)) hx hb dX7_isOrder_27 (by decide) ?_
  refine lv_goto (tgt := 32) hx hb dX7_isOrder_28 (by decide) ?_
  have hf := Option.some.inj hf
  subst hf
  exact z_zretM hx hb hr hlocks (Or.inr rfl) hh dX7_isOrder_32
def fX7_isOrder (N : Nat) (τ : zS) (x1 : Int32) : Option (Int32) :=
  if (τ.1 66 1) = 0 then
    (fX7_isOrder_27 N τ)
  else
    (fX7_rowOf N τ x1 (τ.1 66 1)).bind fun q2 =>
    if q2 = (((nI 1) <<< ((τ.1 66 1) &&& 31)) - (nI 1)) then
      (fX7_isOrder_27 N τ)
    else
      some 0
set_option maxRecDepth 100000 in
set_option maxHeartbeats 4000000 in
theorem zcX7_isOrder (l : Launch) (g : zG) (A : Nat → Prop) (σ τ : zS) (N : Nat) (x1 : Int32)  {res : Int32} (hf : fX7_isOrder N τ x1 = some res) : Met l yX7_isOrder wsX7_isOrder (zR 3) (zPc g A σ τ [.ref (g.2.2 66), .int x1]) (zPi g A σ (res, τ)) 0 0 A := by
  refine z_met (cc := cX7_isOrder) (ret := (some .boolean)) (own := RX7) (by decide) rfl rfl _ (Nat.le_of_ble_eq_true rfl) ?_
  intro p e s m below meth c C E ls hl hh
  have hl : lv_has ls 2 [(0, .ref (g.2.2 66)), (1, .int x1)] := hl
  obtain ⟨hx, hb, hr, hml, hown, hts, hlocks⟩ := id C
  unfold fX7_isOrder at hf
  refine lv_aload_n hx hb dX7_isOrder_0 rfl (lv_at hl 0 rfl) ?_
  refine z_get (v := .int (τ.1 66 1)) hx hb hts (fun w h => List.mem_cons_of_mem _ (List.mem_append_right _ (h))) hown E hh (by decide) (zC_obj (q := 66) rfl) rfl 1 (by decide) (hts (.fieldLink RX7 141 "TownBandModel" "beastMany" "I") (List.mem_cons_of_mem _ (List.mem_append_left _ (List.mem_of_getElem? (i := 0) rfl)))) rfl dX7_isOrder_1 ?_
  refine lv_if_eq (tgt := 27) hx hb dX7_isOrder_4 (by decide) (fun c_v1 => ?_) (fun c_v1 => ?_)
  · have hf := z_ip hf c_v1
    exact (hX7_isOrder_27 C E N)  _ _ _ hf hh (lv_sub hl [] rfl)
  · have hf := z_in hf c_v1
    refine lv_aload_n hx hb dX7_isOrder_7 rfl (lv_at hl 0 rfl) ?_
    refine lv_iload_n hx hb dX7_isOrder_8 rfl (lv_at hl 1 rfl) ?_
    refine lv_aload_n hx hb dX7_isOrder_9 rfl (lv_at hl 0 rfl) ?_
    refine z_get (v := .int (τ.1 66 1)) hx hb hts (fun w h => List.mem_cons_of_mem _ (List.mem_append_right _ (h))) hown E hh (by decide) (zC_obj (q := 66) rfl) rfl 1 (by decide) (hts (.fieldLink RX7 141 "TownBandModel" "beastMany" "I") (List.mem_cons_of_mem _ (List.mem_append_left _ (List.mem_of_getElem? (i := 0) rfl)))) rfl dX7_isOrder_10 ?_
    obtain ⟨q2, h_q2, hf⟩ := z_bd hf
    refine z_mi (va_runV (As := [.int x1, .int (τ.1 66 1)]) (rest := []) ⟨hx, hb, hml, hown, hts⟩ (zcX7_rowOf l g A σ τ N x1 (τ.1 66 1) h_q2) (cwV 2 hts gX7_isOrder_X7_rowOf rfl rfl rfl hdX7_rowOf ⟨by decide, by decide⟩) (z_preV E hh (by decide) (zC_obj (q := 66) rfl) rfl) rfl rfl hl.1 rfl (lv_room (Nat.le_of_ble_eq_true rfl)) dX7_isOrder_13 ⟨Nat.le_refl _, Nat.le_refl _⟩) hh (fun H locs hh => ?_)
    refine lv_iconst (v := (nI 1)) hx hb dX7_isOrder_16 (by decide) ?_
    refine lv_aload_n hx hb dX7_isOrder_17 rfl (lv_at hl 0 rfl) ?_
    refine z_get (v := .int (τ.1 66 1)) hx hb hts (fun w h => List.mem_cons_of_mem _ (List.mem_append_right _ (h))) hown E hh (by decide) (zC_obj (q := 66) rfl) rfl 1 (by decide) (hts (.fieldLink RX7 141 "TownBandModel" "beastMany" "I") (List.mem_cons_of_mem _ (List.mem_append_left _ (List.mem_of_getElem? (i := 0) rfl)))) rfl dX7_isOrder_18 ?_
    refine lv_ishl hx hb dX7_isOrder_21 ?_
    refine lv_iconst (v := (nI 1)) hx hb dX7_isOrder_22 (by decide) ?_
    refine lv_isub hx hb dX7_isOrder_23 ?_
    refine lv_icmp_ne (tgt := 31) hx hb dX7_isOrder_24 (by decide) (fun c_v3 => ?_) (fun c_v3 => ?_)
    · have hf := z_in hf c_v3
      refine lv_iconst (v := (nI 0)) hx hb dX7_isOrder_31 (by decide) ?_
      have hf := Option.some.inj hf
      subst hf
      exact z_zretM hx hb hr hlocks (Or.inl rfl) hh dX7_isOrder_32
    · have hf := z_ip hf c_v3
      exact (hX7_isOrder_27 C E N)  _ _ _ hf hh (lv_sub hl [] rfl)
/-! ===== X7_beds ===== -/
theorem hdX7_beds : yX7_beds.cls = RX7 ∧ yX7_beds.cls ≠ "java/lang/invoke/MethodHandle" ∧ yX7_beds.cls ≠ "java/lang/invoke/VarHandle" ∧ (parseMethodDescriptor yX7_beds.desc).map (fun d => d.parameters.length) = some 1 := by decide +kernel
def PX7_beds_93 (p : Program) (l : Launch) (e : Env) (s : State) (m : MethodId) (args : Array Value) (below : List Frame) (meth : Method) (c : Code) (g : zG) (A : Nat → Prop) (σ : zS) (res : Int32 × zS) (f : Int32 → Int32 → Int32 → zS → Option (Int32 × zS)) : Prop := ∀ (x1 : Int32) (x2 : Int32) (x3 : Int32) (τ : zS) (H : Heap) (locs : List Loc) (ls : Array Slot), f x1 x2 x3 τ = some res → zW g A σ τ s H locs → lv_has ls 6 [(0, .ref (g.2.2 66)), (1, .int x1), (2, .int x2), (3, .int x3)] → W p l e (zR 4) s m args below meth c H locs 0 0 (MQ below (zPi g A σ res) args s 0 0 A) (F0 m 93 ls [])
def PX7_beds_87 (p : Program) (l : Launch) (e : Env) (s : State) (m : MethodId) (args : Array Value) (below : List Frame) (meth : Method) (c : Code) (g : zG) (A : Nat → Prop) (σ : zS) (res : Int32 × zS) (f : Int32 → Int32 → Int32 → Int32 → zS → Option (Int32 × zS)) : Prop := ∀ (x1 : Int32) (x2 : Int32) (x3 : Int32) (x4 : Int32) (τ : zS) (H : Heap) (locs : List Loc) (ls : Array Slot), f x1 x2 x3 x4 τ = some res → zW g A σ τ s H locs → lv_has ls 6 [(0, .ref (g.2.2 66)), (1, .int x1), (2, .int x2), (3, .int x3), (4, .int x4)] → W p l e (zR 4) s m args below meth c H locs 0 0 (MQ below (zPi g A σ res) args s 0 0 A) (F0 m 87 ls [])
def PX7_beds_86 (p : Program) (l : Launch) (e : Env) (s : State) (m : MethodId) (args : Array Value) (below : List Frame) (meth : Method) (c : Code) (g : zG) (A : Nat → Prop) (σ : zS) (res : Int32 × zS) (f : Int32 → Int32 → Int32 → Int32 → zS → Option (Int32 × zS)) : Prop := ∀ (x1 : Int32) (x3 : Int32) (x4 : Int32) (s0 : Int32) (τ : zS) (H : Heap) (locs : List Loc) (ls : Array Slot), f x1 x3 x4 s0 τ = some res → zW g A σ τ s H locs → lv_has ls 6 [(0, .ref (g.2.2 66)), (1, .int x1), (3, .int x3), (4, .int x4)] → W p l e (zR 4) s m args below meth c H locs 0 0 (MQ below (zPi g A σ res) args s 0 0 A) (F0 m 86 ls [.int s0])
def PX7_beds_73 (p : Program) (l : Launch) (e : Env) (s : State) (m : MethodId) (args : Array Value) (below : List Frame) (meth : Method) (c : Code) (g : zG) (A : Nat → Prop) (σ : zS) (res : Int32 × zS) (f : Int32 → Int32 → Int32 → Int32 → Int32 → zS → Option (Int32 × zS)) : Prop := ∀ (x1 : Int32) (x2 : Int32) (x4 : Int32) (x5 : Int32) (s0 : Int32) (τ : zS) (H : Heap) (locs : List Loc) (ls : Array Slot), f x1 x2 x4 x5 s0 τ = some res → zW g A σ τ s H locs → lv_has ls 6 [(0, .ref (g.2.2 66)), (1, .int x1), (2, .int x2), (4, .int x4), (5, .int x5)] → W p l e (zR 4) s m args below meth c H locs 0 0 (MQ below (zPi g A σ res) args s 0 0 A) (F0 m 73 ls [.int s0])
def PX7_beds_32 (p : Program) (l : Launch) (e : Env) (s : State) (m : MethodId) (args : Array Value) (below : List Frame) (meth : Method) (c : Code) (g : zG) (A : Nat → Prop) (σ : zS) (res : Int32 × zS) (f : Int32 → Int32 → Int32 → Int32 → zS → Option (Int32 × zS)) : Prop := ∀ (x1 : Int32) (x2 : Int32) (x3 : Int32) (x4 : Int32) (τ : zS) (H : Heap) (locs : List Loc) (ls : Array Slot), f x1 x2 x3 x4 τ = some res → zW g A σ τ s H locs → lv_has ls 6 [(0, .ref (g.2.2 66)), (1, .int x1), (2, .int x2), (3, .int x3), (4, .int x4)] → W p l e (zR 4) s m args below meth c H locs 0 0 (MQ below (zPi g A σ res) args s 0 0 A) (F0 m 32 ls [])
def PX7_beds_25 (p : Program) (l : Launch) (e : Env) (s : State) (m : MethodId) (args : Array Value) (below : List Frame) (meth : Method) (c : Code) (g : zG) (A : Nat → Prop) (σ : zS) (res : Int32 × zS) (f : Int32 → zS → Option (Int32 × zS)) : Prop := ∀ (x1 : Int32) (τ : zS) (H : Heap) (locs : List Loc) (ls : Array Slot), f x1 τ = some res → zW g A σ τ s H locs → lv_has ls 6 [(0, .ref (g.2.2 66)), (1, .int x1)] → W p l e (zR 4) s m args below meth c H locs 0 0 (MQ below (zPi g A σ res) args s 0 0 A) (F0 m 25 ls [])
def fX7_beds_93 (N : Nat) (x1 : Int32) (x2 : Int32) (x3 : Int32) (τ : zS) : Option (Int32 × zS) :=
  if x1 = 0 then
    some (x2, τ)
  else
    (fX7_figureOf N x3 (τ.1 66 1) (x1 - (nI 10))).bind fun q2 =>
    some (q2, τ)
set_option maxRecDepth 100000 in
set_option maxHeartbeats 4000000 in
theorem hX7_beds_93 {p : Program} {l : Launch} {e : Env} {s : State} {m : MethodId} {args : Array Value} {below : List Frame} {meth : Method} {c : Code} {g : zG} {A : Nat → Prop} {σ : zS} {res : Int32 × zS} (C : zCx p s m args meth c cX7_beds (some .int) wsX7_beds RX7 6) (E : zE g A s) (N : Nat) : PX7_beds_93 p l e s m args below meth c g A σ res (fX7_beds_93 N) := by
  obtain ⟨hx, hb, hr, hml, hown, hts, hlocks⟩ := id C
  intro x1 x2 x3 τ H locs ls hf hh hl
  unfold fX7_beds_93 at hf
  refine lv_iload_n hx hb dX7_beds_93 rfl (lv_at hl 1 rfl) ?_
  refine lv_if_ne (tgt := 101) hx hb dX7_beds_94 (by decide) (fun c_v1 => ?_) (fun c_v1 => ?_)
  · have hf := z_in hf c_v1
    refine lv_iload_n hx hb dX7_beds_101 rfl (lv_at hl 3 rfl) ?_
    refine lv_aload_n hx hb dX7_beds_102 rfl (lv_at hl 0 rfl) ?_
    refine z_get (v := .int (τ.1 66 1)) hx hb hts (fun w h => List.mem_cons_of_mem _ (List.mem_append_right _ (h))) hown E hh (by decide) (zC_obj (q := 66) rfl) rfl 1 (by decide) (hts (.fieldLink RX7 141 "TownBandModel" "beastMany" "I") (List.mem_cons_of_mem _ (List.mem_append_left _ (List.mem_append_left _ (List.mem_of_getElem? (i := 1) rfl))))) rfl dX7_beds_103 ?_
    refine lv_iload_n hx hb dX7_beds_106 rfl (lv_at hl 1 rfl) ?_
    refine lv_bipush (v := (nI 10)) hx hb dX7_beds_107 (by decide) ?_
    refine lv_isub hx hb dX7_beds_109 ?_
    obtain ⟨q2, h_q2, hf⟩ := z_bd hf
    refine z_mi (va_runS (As := [.int x3, .int (τ.1 66 1), .int (x1 - (nI 10))]) (rest := []) ⟨hx, hb, hml, hown, hts⟩ (zcX7_figureOf l g A σ τ N x3 (τ.1 66 1) (x1 - (nI 10)) h_q2) (va_cwS 3 hts gX7_beds_X7_figureOf rfl rfl rfl hdX7_figureOf.2 ⟨by decide, by decide⟩) (z_preS E hh) rfl rfl hl.1 rfl (lv_room (Nat.le_of_ble_eq_true rfl)) dX7_beds_110 ⟨Nat.le_refl _, Nat.le_refl _⟩) hh (fun H locs hh => ?_)
    have hf := Option.some.inj hf
    subst hf
    exact z_iretM hx hb hr hlocks hh dX7_beds_113
  · have hf := z_ip hf c_v1
    refine lv_iload_n hx hb dX7_beds_97 rfl (lv_at hl 2 rfl) ?_
    refine lv_goto (tgt := 113) hx hb dX7_beds_98 (by decide) ?_
    have hf := Option.some.inj hf
    subst hf
    exact z_iretM hx hb hr hlocks hh dX7_beds_113
def fX7_beds_87 (N : Nat) (rc : Int32 → Int32 → Int32 → Int32 → zS → Option (Int32 × zS)) (k_93 : Int32 → Int32 → Int32 → zS → Option (Int32 × zS)) (x1 : Int32) (x2 : Int32) (x3 : Int32) (x4 : Int32) (τ : zS) : Option (Int32 × zS) :=
  rc x1 x2 x3 (x4 + (nI 1)) τ
set_option maxRecDepth 100000 in
set_option maxHeartbeats 4000000 in
theorem hX7_beds_87 {p : Program} {l : Launch} {e : Env} {s : State} {m : MethodId} {args : Array Value} {below : List Frame} {meth : Method} {c : Code} {g : zG} {A : Nat → Prop} {σ : zS} {res : Int32 × zS} (C : zCx p s m args meth c cX7_beds (some .int) wsX7_beds RX7 6) (E : zE g A s) (N : Nat) (rc : Int32 → Int32 → Int32 → Int32 → zS → Option (Int32 × zS)) (hrc : PX7_beds_32 p l e s m args below meth c g A σ res rc) (k_93 : Int32 → Int32 → Int32 → zS → Option (Int32 × zS)) (hk_93 : PX7_beds_93 p l e s m args below meth c g A σ res k_93) : PX7_beds_87 p l e s m args below meth c g A σ res (fX7_beds_87 N rc k_93) := by
  obtain ⟨hx, hb, hr, hml, hown, hts, hlocks⟩ := id C
  intro x1 x2 x3 x4 τ H locs ls hf hh hl
  unfold fX7_beds_87 at hf
  refine lv_iinc (v := (x4 + (nI 1))) (lv' := [(4, .int (x4 + (nI 1))), (0, .ref (g.2.2 66)), (1, .int x1), (2, .int x2), (3, .int x3)]) hx hb dX7_beds_87 hl (k := 4) rfl rfl (by decide) rfl (fun ls hl => ?_)
  refine lv_goto (tgt := 32) hx hb dX7_beds_90 (by decide) ?_
  exact hrc x1 x2 x3 (x4 + (nI 1)) τ _ _ _ hf hh (lv_sub hl [1, 2, 3, 4, 0] rfl)
def fX7_beds_86 (N : Nat) (rc : Int32 → Int32 → Int32 → Int32 → zS → Option (Int32 × zS)) (k_93 : Int32 → Int32 → Int32 → zS → Option (Int32 × zS)) (x1 : Int32) (x3 : Int32) (x4 : Int32) (s0 : Int32) (τ : zS) : Option (Int32 × zS) :=
  (fX7_beds_87 N rc k_93) x1 s0 x3 x4 τ
set_option maxRecDepth 100000 in
set_option maxHeartbeats 4000000 in
theorem hX7_beds_86 {p : Program} {l : Launch} {e : Env} {s : State} {m : MethodId} {args : Array Value} {below : List Frame} {meth : Method} {c : Code} {g : zG} {A : Nat → Prop} {σ : zS} {res : Int32 × zS} (C : zCx p s m args meth c cX7_beds (some .int) wsX7_beds RX7 6) (E : zE g A s) (N : Nat) (rc : Int32 → Int32 → Int32 → Int32 → zS → Option (Int32 × zS)) (hrc : PX7_beds_32 p l e s m args below meth c g A σ res rc) (k_93 : Int32 → Int32 → Int32 → zS → Option (Int32 × zS)) (hk_93 : PX7_beds_93 p l e s m args below meth c g A σ res k_93) : PX7_beds_86 p l e s m args below meth c g A σ res (fX7_beds_86 N rc k_93) := by
  obtain ⟨hx, hb, hr, hml, hown, hts, hlocks⟩ := id C
  intro x1 x3 x4 s0 τ H locs ls hf hh hl
  unfold fX7_beds_86 at hf
  refine lv_istore_n (lv' := [(2, .int s0), (0, .ref (g.2.2 66)), (1, .int x1), (3, .int x3), (4, .int x4)]) hx hb dX7_beds_86 rfl hl (by decide) rfl (fun ls hl => ?_)
  exact (hX7_beds_87 C E N rc hrc k_93 hk_93) x1 s0 x3 x4 τ _ _ _ hf hh (lv_sub hl [1, 2, 0, 3, 4] rfl)
def fX7_beds_73 (N : Nat) (rc : Int32 → Int32 → Int32 → Int32 → zS → Option (Int32 × zS)) (k_93 : Int32 → Int32 → Int32 → zS → Option (Int32 × zS)) (x1 : Int32) (x2 : Int32) (x4 : Int32) (x5 : Int32) (s0 : Int32) (τ : zS) : Option (Int32 × zS) :=
  if x5 ≤ x2 then
    (fX7_beds_86 N rc k_93) x1 s0 x4 x2 τ
  else
    (fX7_beds_86 N rc k_93) x1 s0 x4 x5 τ
set_option maxRecDepth 100000 in
set_option maxHeartbeats 4000000 in
theorem hX7_beds_73 {p : Program} {l : Launch} {e : Env} {s : State} {m : MethodId} {args : Array Value} {below : List Frame} {meth : Method} {c : Code} {g : zG} {A : Nat → Prop} {σ : zS} {res : Int32 × zS} (C : zCx p s m args meth c cX7_beds (some .int) wsX7_beds RX7 6) (E : zE g A s) (N : Nat) (rc : Int32 → Int32 → Int32 → Int32 → zS → Option (Int32 × zS)) (hrc : PX7_beds_32 p l e s m args below meth c g A σ res rc) (k_93 : Int32 → Int32 → Int32 → zS → Option (Int32 × zS)) (hk_93 : PX7_beds_93 p l e s m args below meth c g A σ res k_93) : PX7_beds_73 p l e s m args below meth c g A σ res (fX7_beds_73 N rc k_93) := by
  obtain ⟨hx, hb, hr, hml, hown, hts, hlocks⟩ := id C
  intro x1 x2 x4 x5 s0 τ H locs ls hf hh hl
  unfold fX7_beds_73 at hf
  refine lv_istore_n (lv' := [(3, .int s0), (0, .ref (g.2.2 66)), (1, .int x1), (2, .int x2), (4, .int x4), (5, .int x5)]) hx hb dX7_beds_73 rfl hl (by decide) rfl (fun ls hl => ?_)
  refine lv_iload hx hb dX7_beds_74 (lv_at hl 5 rfl) ?_
  refine lv_iload_n hx hb dX7_beds_76 rfl (lv_at hl 3 rfl) ?_
  refine lv_icmp_le (tgt := 85) hx hb dX7_beds_77 (by decide) (fun c_v1 => ?_) (fun c_v1 => ?_)
  · have hf := z_ip hf c_v1
    refine lv_iload_n hx hb dX7_beds_85 rfl (lv_at hl 3 rfl) ?_
    exact (hX7_beds_86 C E N rc hrc k_93 hk_93) x1 s0 x4 x2 τ _ _ _ hf hh (lv_sub hl [1, 2, 0, 4] rfl)
  · have hf := z_in hf c_v1
    refine lv_iload hx hb dX7_beds_80 (lv_at hl 5 rfl) ?_
    refine lv_goto (tgt := 86) hx hb dX7_beds_82 (by decide) ?_
    exact (hX7_beds_86 C E N rc hrc k_93 hk_93) x1 s0 x4 x5 τ _ _ _ hf hh (lv_sub hl [1, 2, 0, 4] rfl)
def fX7_beds_32 (N : Nat) (k_93 : Int32 → Int32 → Int32 → zS → Option (Int32 × zS)) : Nat → Int32 → Int32 → Int32 → Int32 → zS → Option (Int32 × zS)
  | 0, _, _, _, _, _ => none
  | n + 1, x1, x2, x3, x4, τ =>
    (fX7_powerOf N (τ.1 66 1)).bind fun q1 =>
    if q1 ≤ x4 then
      k_93 x1 x2 x3 τ
    else
      (fX7_isOrder N τ x4).bind fun q3 =>
      if q3 = 0 then
        (fX7_beds_87 N (fX7_beds_32 N k_93 n) k_93) x1 x2 x3 x4 τ
      else
        (fX7_hurtBy N τ x4).bind fun q5 =>
        if q5.1 ≤ x2 then
          (fX7_beds_73 N (fX7_beds_32 N k_93 n) k_93) x1 x2 x4 q5.1 x3 q5.2
        else
          (fX7_beds_73 N (fX7_beds_32 N k_93 n) k_93) x1 x2 x4 q5.1 x4 q5.2
set_option maxRecDepth 100000 in
set_option maxHeartbeats 4000000 in
theorem hX7_beds_32 {p : Program} {l : Launch} {e : Env} {s : State} {m : MethodId} {args : Array Value} {below : List Frame} {meth : Method} {c : Code} {g : zG} {A : Nat → Prop} {σ : zS} {res : Int32 × zS} (C : zCx p s m args meth c cX7_beds (some .int) wsX7_beds RX7 6) (E : zE g A s) (N : Nat) (k_93 : Int32 → Int32 → Int32 → zS → Option (Int32 × zS)) (hk_93 : PX7_beds_93 p l e s m args below meth c g A σ res k_93) : ∀ n : Nat, PX7_beds_32 p l e s m args below meth c g A σ res (fX7_beds_32 N k_93 n) := by
  obtain ⟨hx, hb, hr, hml, hown, hts, hlocks⟩ := id C
  intro n
  induction n with
  | zero =>
    intro x1 x2 x3 x4 τ H locs ls hf
    exact absurd hf (by simp [fX7_beds_32])
  | succ n ih =>
    intro x1 x2 x3 x4 τ H locs ls hf hh hl
    rw [fX7_beds_32] at hf
    refine lv_iload hx hb dX7_beds_32 (lv_at hl 4 rfl) ?_
    refine lv_aload_n hx hb dX7_beds_34 rfl (lv_at hl 0 rfl) ?_
    refine z_get (v := .int (τ.1 66 1)) hx hb hts (fun w h => List.mem_cons_of_mem _ (List.mem_append_right _ (h))) hown E hh (by decide) (zC_obj (q := 66) rfl) rfl 1 (by decide) (hts (.fieldLink RX7 141 "TownBandModel" "beastMany" "I") (List.mem_cons_of_mem _ (List.mem_append_left _ (List.mem_append_left _ (List.mem_of_getElem? (i := 1) rfl))))) rfl dX7_beds_35 ?_
    obtain ⟨q1, h_q1, hf⟩ := z_bd hf
    refine z_mi (va_runS (As := [.int (τ.1 66 1)]) (rest := [.int x4]) ⟨hx, hb, hml, hown, hts⟩ (zcX7_powerOf l g A σ τ N (τ.1 66 1) h_q1) (va_cwS 1 hts gX7_beds_X7_powerOf rfl rfl rfl hdX7_powerOf.2 ⟨by decide, by decide⟩) (z_preS E hh) rfl rfl hl.1 rfl (lv_room (Nat.le_of_ble_eq_true rfl)) dX7_beds_38 ⟨Nat.le_refl _, Nat.le_refl _⟩) hh (fun H locs hh => ?_)
    refine lv_icmp_ge (tgt := 93) hx hb dX7_beds_41 (by decide) (fun c_v2 => ?_) (fun c_v2 => ?_)
    · have hf := z_ip hf c_v2
      exact hk_93 x1 x2 x3 τ _ _ _ hf hh (lv_sub hl [0, 1, 2, 3] rfl)
    · have hf := z_in hf c_v2
      refine lv_aload_n hx hb dX7_beds_44 rfl (lv_at hl 0 rfl) ?_
      refine lv_iload hx hb dX7_beds_45 (lv_at hl 4 rfl) ?_
      obtain ⟨q3, h_q3, hf⟩ := z_bd hf
      refine z_mi (va_runV (As := [.int x4]) (rest := []) ⟨hx, hb, hml, hown, hts⟩ (zcX7_isOrder l g A σ τ N x4 h_q3) (cwV 1 hts gX7_beds_X7_isOrder rfl rfl rfl hdX7_isOrder ⟨by decide, by decide⟩) (z_preV E hh (by decide) (zC_obj (q := 66) rfl) rfl) rfl rfl hl.1 rfl (lv_room (Nat.le_of_ble_eq_true rfl)) dX7_beds_47 ⟨Nat.le_refl _, Nat.le_refl _⟩) hh (fun H locs hh => ?_)
      refine lv_if_eq (tgt := 87) hx hb dX7_beds_50 (by decide) (fun c_v4 => ?_) (fun c_v4 => ?_)
      · have hf := z_ip hf c_v4
        exact (hX7_beds_87 C E N (fX7_beds_32 N k_93 n) ih k_93 hk_93) x1 x2 x3 x4 τ _ _ _ hf hh (lv_sub hl [0, 1, 2, 3, 4] rfl)
      · have hf := z_in hf c_v4
        refine lv_aload_n hx hb dX7_beds_53 rfl (lv_at hl 0 rfl) ?_
        refine lv_iload hx hb dX7_beds_54 (lv_at hl 4 rfl) ?_
        obtain ⟨q5, h_q5, hf⟩ := z_bd hf
        refine z_mi (va_runV (As := [.int x4]) (rest := []) ⟨hx, hb, hml, hown, hts⟩ (zcX7_hurtBy l g A σ τ N x4 h_q5) (cwV 1 hts gX7_beds_X7_hurtBy rfl rfl rfl hdX7_hurtBy ⟨by decide, by decide⟩) (z_preV E hh (by decide) (zC_obj (q := 66) rfl) rfl) rfl rfl hl.1 rfl (lv_room (Nat.le_of_ble_eq_true rfl)) dX7_beds_56 ⟨Nat.le_refl _, Nat.le_refl _⟩) hh (fun H locs hh => ?_)
        refine lv_istore (lv' := [(5, .int q5.1), (0, .ref (g.2.2 66)), (1, .int x1), (2, .int x2), (3, .int x3), (4, .int x4)]) hx hb dX7_beds_59 hl (by decide) rfl (fun ls hl => ?_)
        refine lv_iload hx hb dX7_beds_61 (lv_at hl 0 rfl) ?_
        refine lv_iload_n hx hb dX7_beds_63 rfl (lv_at hl 3 rfl) ?_
        refine lv_icmp_le (tgt := 72) hx hb dX7_beds_64 (by decide) (fun c_v6 => ?_) (fun c_v6 => ?_)
        · have hf := z_ip hf c_v6
          refine lv_iload_n hx hb dX7_beds_72 rfl (lv_at hl 4 rfl) ?_
          exact (hX7_beds_73 C E N (fX7_beds_32 N k_93 n) ih k_93 hk_93) x1 x2 x4 q5.1 x3 q5.2 _ _ _ hf hh (lv_sub hl [1, 2, 3, 5, 0] rfl)
        · have hf := z_in hf c_v6
          refine lv_iload hx hb dX7_beds_67 (lv_at hl 5 rfl) ?_
          refine lv_goto (tgt := 73) hx hb dX7_beds_69 (by decide) ?_
          exact (hX7_beds_73 C E N (fX7_beds_32 N k_93 n) ih k_93 hk_93) x1 x2 x4 q5.1 x4 q5.2 _ _ _ hf hh (lv_sub hl [1, 2, 3, 5, 0] rfl)
def fX7_beds_25 (N : Nat) (x1 : Int32) (τ : zS) : Option (Int32 × zS) :=
  (fX7_beds_32 N (fX7_beds_93 N) N) x1 (-1) (nI 0) (nI 0) τ
set_option maxRecDepth 100000 in
set_option maxHeartbeats 4000000 in
theorem hX7_beds_25 {p : Program} {l : Launch} {e : Env} {s : State} {m : MethodId} {args : Array Value} {below : List Frame} {meth : Method} {c : Code} {g : zG} {A : Nat → Prop} {σ : zS} {res : Int32 × zS} (C : zCx p s m args meth c cX7_beds (some .int) wsX7_beds RX7 6) (E : zE g A s) (N : Nat) : PX7_beds_25 p l e s m args below meth c g A σ res (fX7_beds_25 N) := by
  obtain ⟨hx, hb, hr, hml, hown, hts, hlocks⟩ := id C
  intro x1 τ H locs ls hf hh hl
  unfold fX7_beds_25 at hf
  refine lv_iconst (v := (-1)) hx hb dX7_beds_25 (by decide) ?_
  refine lv_istore_n (lv' := [(2, .int (-1)), (0, .ref (g.2.2 66)), (1, .int x1)]) hx hb dX7_beds_26 rfl hl (by decide) rfl (fun ls hl => ?_)
  refine lv_iconst (v := (nI 0)) hx hb dX7_beds_27 (by decide) ?_
  refine lv_istore_n (lv' := [(3, .int (nI 0)), (2, .int (-1)), (0, .ref (g.2.2 66)), (1, .int x1)]) hx hb dX7_beds_28 rfl hl (by decide) rfl (fun ls hl => ?_)
  refine lv_iconst (v := (nI 0)) hx hb dX7_beds_29 (by decide) ?_
  refine lv_istore (lv' := [(4, .int (nI 0)), (3, .int (nI 0)), (2, .int (-1)), (0, .ref (g.2.2 66)), (1, .int x1)]) hx hb dX7_beds_30 hl (by decide) rfl (fun ls hl => ?_)
  exact (hX7_beds_32 C E N (fX7_beds_93 N) (hX7_beds_93 C E N) N) x1 (-1) (nI 0) (nI 0) τ _ _ _ hf hh (lv_sub hl [3, 4, 2, 1, 0] rfl)
def fX7_beds (N : Nat) (τ : zS) (x1 : Int32) : Option (Int32 × zS) :=
  if x1 = 0 then
    (fX7_beds_25 N) x1 τ
  else
    (fX7_in N x1.toInt64 10 ((((nI 9) + (τ.1 66 1))).toInt64)).bind fun q2 =>
    if q2 = 0 then
      some ((-1), τ)
    else
      (fX7_beds_25 N) x1 τ
set_option maxRecDepth 100000 in
set_option maxHeartbeats 4000000 in
theorem zcX7_beds (l : Launch) (g : zG) (A : Nat → Prop) (σ τ : zS) (N : Nat) (x1 : Int32)  {res : Int32 × zS} (hf : fX7_beds N τ x1 = some res) : Met l yX7_beds wsX7_beds (zR 4) (zPc g A σ τ [.ref (g.2.2 66), .int x1]) (zPi g A σ res) 0 0 A := by
  refine z_met (cc := cX7_beds) (ret := (some .int)) (own := RX7) (by decide) rfl rfl _ (Nat.le_of_ble_eq_true rfl) ?_
  intro p e s m below meth c C E ls hl hh
  have hl : lv_has ls 6 [(0, .ref (g.2.2 66)), (1, .int x1)] := hl
  obtain ⟨hx, hb, hr, hml, hown, hts, hlocks⟩ := id C
  unfold fX7_beds at hf
  refine lv_iload_n hx hb dX7_beds_0 rfl (lv_at hl 1 rfl) ?_
  refine lv_if_eq (tgt := 25) hx hb dX7_beds_1 (by decide) (fun c_v1 => ?_) (fun c_v1 => ?_)
  · have hf := z_ip hf c_v1
    exact (hX7_beds_25 C E N) x1 τ _ _ _ hf hh (lv_sub hl [0, 1] rfl)
  · have hf := z_in hf c_v1
    refine lv_iload_n hx hb dX7_beds_4 rfl (lv_at hl 1 rfl) ?_
    refine lv_i2l hx hb dX7_beds_5 rfl ?_
    refine lv_ldc2 (v := 10) hx hb hown (hts (.constantLong RX7 236 (10)) (List.mem_cons_of_mem _ (List.mem_append_left _ (List.mem_append_left _ (List.mem_of_getElem? (i := 0) rfl))))) dX7_beds_6 ?_
    refine lv_bipush (v := (nI 9)) hx hb dX7_beds_9 (by decide) ?_
    refine lv_aload_n hx hb dX7_beds_11 rfl (lv_at hl 0 rfl) ?_
    refine z_get (v := .int (τ.1 66 1)) hx hb hts (fun w h => List.mem_cons_of_mem _ (List.mem_append_right _ (h))) hown E hh (by decide) (zC_obj (q := 66) rfl) rfl 1 (by decide) (hts (.fieldLink RX7 141 "TownBandModel" "beastMany" "I") (List.mem_cons_of_mem _ (List.mem_append_left _ (List.mem_append_left _ (List.mem_of_getElem? (i := 1) rfl))))) rfl dX7_beds_12 ?_
    refine lv_iadd hx hb dX7_beds_15 ?_
    refine lv_i2l hx hb dX7_beds_16 rfl ?_
    obtain ⟨q2, h_q2, hf⟩ := z_bd hf
    refine z_mi (va_runS (As := [.long x1.toInt64, .long 10, .long ((((nI 9) + (τ.1 66 1))).toInt64)]) (rest := []) ⟨hx, hb, hml, hown, hts⟩ (zcX7_in l g A σ τ N x1.toInt64 10 ((((nI 9) + (τ.1 66 1))).toInt64) h_q2) (va_cwS 3 hts gX7_beds_X7_in rfl rfl rfl hdX7_in.2 ⟨by decide, by decide⟩) (z_preS E hh) rfl rfl hl.1 rfl (lv_room (Nat.le_of_ble_eq_true rfl)) dX7_beds_17 ⟨Nat.le_refl _, Nat.le_refl _⟩) hh (fun H locs hh => ?_)
    refine lv_if_ne (tgt := 25) hx hb dX7_beds_20 (by decide) (fun c_v3 => ?_) (fun c_v3 => ?_)
    · have hf := z_in hf c_v3
      exact (hX7_beds_25 C E N) x1 τ _ _ _ hf hh (lv_sub hl [0, 1] rfl)
    · have hf := z_ip hf c_v3
      refine lv_iconst (v := (-1)) hx hb dX7_beds_23 (by decide) ?_
      have hf := Option.some.inj hf
      subst hf
      exact z_iretM hx hb hr hlocks hh dX7_beds_24
/-! ===== X7_brave ===== -/
theorem hdX7_brave : yX7_brave.cls = RX7 ∧ yX7_brave.cls ≠ "java/lang/invoke/MethodHandle" ∧ yX7_brave.cls ≠ "java/lang/invoke/VarHandle" ∧ (parseMethodDescriptor yX7_brave.desc).map (fun d => d.parameters.length) = some 0 := by decide +kernel
def PX7_brave_32 (p : Program) (l : Launch) (e : Env) (s : State) (m : MethodId) (args : Array Value) (below : List Frame) (meth : Method) (c : Code) (g : zG) (A : Nat → Prop) (σ τ : zS) (res : Int32) (f : Int32 → Option (Int32)) : Prop := ∀ (x1 : Int32) (H : Heap) (locs : List Loc) (ls : Array Slot), f x1 = some res → zW g A σ τ s H locs → lv_has ls 3 [(1, .int x1)] → W p l e (zR 2) s m args below meth c H locs 0 0 (MQ below (zPi g A σ (res, τ)) args s 0 0 A) (F0 m 32 ls [])
def PX7_brave_4 (p : Program) (l : Launch) (e : Env) (s : State) (m : MethodId) (args : Array Value) (below : List Frame) (meth : Method) (c : Code) (g : zG) (A : Nat → Prop) (σ τ : zS) (res : Int32) (f : Int32 → Int32 → Option (Int32)) : Prop := ∀ (x1 : Int32) (x2 : Int32) (H : Heap) (locs : List Loc) (ls : Array Slot), f x1 x2 = some res → zW g A σ τ s H locs → lv_has ls 3 [(0, .ref (g.2.2 66)), (1, .int x1), (2, .int x2)] → W p l e (zR 2) s m args below meth c H locs 0 0 (MQ below (zPi g A σ (res, τ)) args s 0 0 A) (F0 m 4 ls [])
def fX7_brave_32 (N : Nat) (τ : zS) (x1 : Int32) : Option (Int32) :=
  if x1 ≤ (nI 40) then
    some x1
  else
    some (-4)
set_option maxRecDepth 100000 in
set_option maxHeartbeats 4000000 in
theorem hX7_brave_32 {p : Program} {l : Launch} {e : Env} {s : State} {m : MethodId} {args : Array Value} {below : List Frame} {meth : Method} {c : Code} {g : zG} {A : Nat → Prop} {σ τ : zS} {res : Int32} (C : zCx p s m args meth c cX7_brave (some .int) wsX7_brave RX7 3) (E : zE g A s) (N : Nat) : PX7_brave_32 p l e s m args below meth c g A σ τ res (fX7_brave_32 N τ) := by
  obtain ⟨hx, hb, hr, hml, hown, hts, hlocks⟩ := id C
  intro x1 H locs ls hf hh hl
  unfold fX7_brave_32 at hf
  refine lv_iload_n hx hb dX7_brave_32 rfl (lv_at hl 0 rfl) ?_
  refine lv_bipush (v := (nI 40)) hx hb dX7_brave_33 (by decide) ?_
  refine lv_icmp_le (tgt := 43) hx hb dX7_brave_35 (by decide) (fun c_v1 => ?_) (fun c_v1 => ?_)
  · have hf := z_ip hf c_v1
    refine lv_iload_n hx hb dX7_brave_43 rfl (lv_at hl 0 rfl) ?_
    have hf := Option.some.inj hf
    subst hf
    exact z_iretM hx hb hr hlocks hh dX7_brave_44
  · have hf := z_in hf c_v1
    refine lv_bipush (v := (-4)) hx hb dX7_brave_38 (by decide) ?_
    refine lv_goto (tgt := 44) hx hb dX7_brave_40 (by decide) ?_
    have hf := Option.some.inj hf
    subst hf
    exact z_iretM hx hb hr hlocks hh dX7_brave_44
def fX7_brave_4 (N : Nat) (τ : zS) (k_32 : Int32 → Option (Int32)) : Nat → Int32 → Int32 → Option (Int32)
  | 0, _, _ => none
  | n + 1, x1, x2 =>
    if ((τ.1 66 1) - (nI 1)) ≤ x2 then
      k_32 x1
    else
      (fX7_bedBeast N τ x2).bind fun q2 =>
      (fX7_hurts N τ q2).bind fun q3 =>
      (fX7_brave_4 N τ k_32 n) (x1 + q3) (x2 + (nI 1))
set_option maxRecDepth 100000 in
set_option maxHeartbeats 4000000 in
theorem hX7_brave_4 {p : Program} {l : Launch} {e : Env} {s : State} {m : MethodId} {args : Array Value} {below : List Frame} {meth : Method} {c : Code} {g : zG} {A : Nat → Prop} {σ τ : zS} {res : Int32} (C : zCx p s m args meth c cX7_brave (some .int) wsX7_brave RX7 3) (E : zE g A s) (N : Nat) (k_32 : Int32 → Option (Int32)) (hk_32 : PX7_brave_32 p l e s m args below meth c g A σ τ res k_32) : ∀ n : Nat, PX7_brave_4 p l e s m args below meth c g A σ τ res (fX7_brave_4 N τ k_32 n) := by
  obtain ⟨hx, hb, hr, hml, hown, hts, hlocks⟩ := id C
  intro n
  induction n with
  | zero =>
    intro x1 x2 H locs ls hf
    exact absurd hf (by simp [fX7_brave_4])
  | succ n ih =>
    intro x1 x2 H locs ls hf hh hl
    rw [fX7_brave_4] at hf
    refine lv_iload_n hx hb dX7_brave_4 rfl (lv_at hl 2 rfl) ?_
    refine lv_aload_n hx hb dX7_brave_5 rfl (lv_at hl 0 rfl) ?_
    refine z_get (v := .int (τ.1 66 1)) hx hb hts (fun w h => List.mem_cons_of_mem _ (List.mem_append_right _ (h))) hown E hh (by decide) (zC_obj (q := 66) rfl) rfl 1 (by decide) (hts (.fieldLink RX7 141 "TownBandModel" "beastMany" "I") (List.mem_cons_of_mem _ (List.mem_append_left _ (List.mem_of_getElem? (i := 0) rfl)))) rfl dX7_brave_6 ?_
    refine lv_iconst (v := (nI 1)) hx hb dX7_brave_9 (by decide) ?_
    refine lv_isub hx hb dX7_brave_10 ?_
    refine lv_icmp_ge (tgt := 32) hx hb dX7_brave_11 (by decide) (fun c_v1 => ?_) (fun c_v1 => ?_)
    · have hf := z_ip hf c_v1
      exact hk_32 x1 _ _ _ hf hh (lv_sub hl [1] rfl)
    · have hf := z_in hf c_v1
      refine lv_iload_n hx hb dX7_brave_14 rfl (lv_at hl 1 rfl) ?_
      refine lv_aload_n hx hb dX7_brave_15 rfl (lv_at hl 0 rfl) ?_
      refine lv_aload_n hx hb dX7_brave_16 rfl (lv_at hl 0 rfl) ?_
      refine lv_iload_n hx hb dX7_brave_17 rfl (lv_at hl 2 rfl) ?_
      obtain ⟨q2, h_q2, hf⟩ := z_bd hf
      refine z_mi (va_runV (As := [.int x2]) (rest := [.ref (g.2.2 66), .int x1]) ⟨hx, hb, hml, hown, hts⟩ (zcX7_bedBeast l g A σ τ N x2 h_q2) (cwV 1 hts gX7_brave_X7_bedBeast rfl rfl rfl hdX7_bedBeast ⟨by decide, by decide⟩) (z_preV E hh (by decide) (zC_obj (q := 66) rfl) rfl) rfl rfl hl.1 rfl (lv_room (Nat.le_of_ble_eq_true rfl)) dX7_brave_18 ⟨Nat.le_refl _, Nat.le_refl _⟩) hh (fun H locs hh => ?_)
      obtain ⟨q3, h_q3, hf⟩ := z_bd hf
      refine z_mi (va_runV (As := [.int q2]) (rest := [.int x1]) ⟨hx, hb, hml, hown, hts⟩ (zcX7_hurts l g A σ τ N q2 h_q3) (cwV 1 hts gX7_brave_X7_hurts rfl rfl rfl hdX7_hurts ⟨by decide, by decide⟩) (z_preV E hh (by decide) (zC_obj (q := 66) rfl) rfl) rfl rfl hl.1 rfl (lv_room (Nat.le_of_ble_eq_true rfl)) dX7_brave_21 ⟨Nat.le_refl _, Nat.le_refl _⟩) hh (fun H locs hh => ?_)
      refine lv_iadd hx hb dX7_brave_24 ?_
      refine lv_istore_n (lv' := [(1, .int (x1 + q3)), (0, .ref (g.2.2 66)), (2, .int x2)]) hx hb dX7_brave_25 rfl hl (by decide) rfl (fun ls hl => ?_)
      refine lv_iinc (v := (x2 + (nI 1))) (lv' := [(2, .int (x2 + (nI 1))), (1, .int (x1 + q3)), (0, .ref (g.2.2 66))]) hx hb dX7_brave_26 hl (k := 2) rfl rfl (by decide) rfl (fun ls hl => ?_)
      refine lv_goto (tgt := 4) hx hb dX7_brave_29 (by decide) ?_
      exact ih (x1 + q3) (x2 + (nI 1)) _ _ _ hf hh (lv_sub hl [2, 1, 0] rfl)
def fX7_brave (N : Nat) (τ : zS)  : Option (Int32) :=
  (fX7_brave_4 N τ (fX7_brave_32 N τ) N) (nI 0) (nI 0)
set_option maxRecDepth 100000 in
set_option maxHeartbeats 4000000 in
theorem zcX7_brave (l : Launch) (g : zG) (A : Nat → Prop) (σ τ : zS) (N : Nat)   {res : Int32} (hf : fX7_brave N τ = some res) : Met l yX7_brave wsX7_brave (zR 2) (zPc g A σ τ [.ref (g.2.2 66)]) (zPi g A σ (res, τ)) 0 0 A := by
  refine z_met (cc := cX7_brave) (ret := (some .int)) (own := RX7) (by decide) rfl rfl _ (Nat.le_of_ble_eq_true rfl) ?_
  intro p e s m below meth c C E ls hl hh
  have hl : lv_has ls 3 [(0, .ref (g.2.2 66))] := hl
  obtain ⟨hx, hb, hr, hml, hown, hts, hlocks⟩ := id C
  unfold fX7_brave at hf
  refine lv_iconst (v := (nI 0)) hx hb dX7_brave_0 (by decide) ?_
  refine lv_istore_n (lv' := [(1, .int (nI 0)), (0, .ref (g.2.2 66))]) hx hb dX7_brave_1 rfl hl (by decide) rfl (fun ls hl => ?_)
  refine lv_iconst (v := (nI 0)) hx hb dX7_brave_2 (by decide) ?_
  refine lv_istore_n (lv' := [(2, .int (nI 0)), (1, .int (nI 0)), (0, .ref (g.2.2 66))]) hx hb dX7_brave_3 rfl hl (by decide) rfl (fun ls hl => ?_)
  exact (hX7_brave_4 C E N (fX7_brave_32 N τ) (hX7_brave_32 C E N) N) (nI 0) (nI 0) _ _ _ hf hh (lv_sub hl [2, 1, 0] rfl)
/-! ===== X7_valueOf ===== -/
theorem hdX7_valueOf : yX7_valueOf.cls = RX7 ∧ yX7_valueOf.cls ≠ "java/lang/invoke/MethodHandle" ∧ yX7_valueOf.cls ≠ "java/lang/invoke/VarHandle" ∧ (parseMethodDescriptor yX7_valueOf.desc).map (fun d => d.parameters.length) = some 1 := by decide +kernel
def fX7_valueOf (N : Nat) (τ : zS) (x1 : Int32) : Option (Int32 × zS) :=
  (fX7_allTowers N τ x1 (nI 0)).bind fun q1 =>
  some ((q1.1 66 23), q1)
set_option maxRecDepth 100000 in
set_option maxHeartbeats 4000000 in
theorem zcX7_valueOf (l : Launch) (g : zG) (A : Nat → Prop) (σ τ : zS) (N : Nat) (x1 : Int32)  {res : Int32 × zS} (hf : fX7_valueOf N τ x1 = some res) : Met l yX7_valueOf wsX7_valueOf (zR 5) (zPc g A σ τ [.ref (g.2.2 66), .int x1]) (zPi g A σ res) 0 0 A := by
  refine z_met (cc := cX7_valueOf) (ret := (some .int)) (own := RX7) (by decide) rfl rfl _ (Nat.le_of_ble_eq_true rfl) ?_
  intro p e s m below meth c C E ls hl hh
  have hl : lv_has ls 2 [(0, .ref (g.2.2 66)), (1, .int x1)] := hl
  obtain ⟨hx, hb, hr, hml, hown, hts, hlocks⟩ := id C
  unfold fX7_valueOf at hf
  refine lv_aload_n hx hb dX7_valueOf_0 rfl (lv_at hl 0 rfl) ?_
  refine lv_iload_n hx hb dX7_valueOf_1 rfl (lv_at hl 1 rfl) ?_
  refine lv_iconst (v := (nI 0)) hx hb dX7_valueOf_2 (by decide) ?_
  obtain ⟨q1, h_q1, hf⟩ := z_bd hf
  refine z_mv (va_runV (As := [.int x1, .int (nI 0)]) (rest := []) ⟨hx, hb, hml, hown, hts⟩ (zcX7_allTowers l g A σ τ N x1 (nI 0) h_q1) (cwV 2 hts gX7_valueOf_X7_allTowers rfl rfl rfl hdX7_allTowers ⟨by decide, by decide⟩) (z_preV E hh (by decide) (zC_obj (q := 66) rfl) rfl) rfl rfl hl.1 rfl (lv_room (Nat.le_of_ble_eq_true rfl)) dX7_valueOf_3 ⟨Nat.le_refl _, Nat.le_refl _⟩) hh (fun H locs hh => ?_)
  refine lv_aload_n hx hb dX7_valueOf_6 rfl (lv_at hl 0 rfl) ?_
  refine z_get (v := .int (q1.1 66 23)) hx hb hts (fun w h => List.mem_cons_of_mem _ (List.mem_append_right _ (h))) hown E hh (by decide) (zC_obj (q := 66) rfl) rfl 23 (by decide) (hts (.fieldLink RX7 215 "TownBandModel" "bestMany" "I") (List.mem_cons_of_mem _ (List.mem_append_left _ (List.mem_append_left _ (List.mem_of_getElem? (i := 0) rfl))))) rfl dX7_valueOf_7 ?_
  have hf := Option.some.inj hf
  subst hf
  exact z_iretM hx hb hr hlocks hh dX7_valueOf_10
/-! ===== X7_value ===== -/
theorem hdX7_value : yX7_value.cls = RX7 ∧ yX7_value.cls ≠ "java/lang/invoke/MethodHandle" ∧ yX7_value.cls ≠ "java/lang/invoke/VarHandle" ∧ (parseMethodDescriptor yX7_value.desc).map (fun d => d.parameters.length) = some 1 := by decide +kernel
def fX7_value (N : Nat) (τ : zS) (x1 : Int32) : Option (Int32 × zS) :=
  (fX7_in N x1.toInt64 0 (((((nI 1) <<< ((τ.1 66 1) &&& 31)) - (nI 1))).toInt64)).bind fun q1 =>
  if q1 = 0 then
    some ((-1), τ)
  else
    (fX7_valueOf N τ x1).bind fun q3 =>
    some (q3.1, q3.2)
set_option maxRecDepth 100000 in
set_option maxHeartbeats 4000000 in
theorem zcX7_value (l : Launch) (g : zG) (A : Nat → Prop) (σ τ : zS) (N : Nat) (x1 : Int32)  {res : Int32 × zS} (hf : fX7_value N τ x1 = some res) : Met l yX7_value wsX7_value (zR 6) (zPc g A σ τ [.ref (g.2.2 66), .int x1]) (zPi g A σ res) 0 0 A := by
  refine z_met (cc := cX7_value) (ret := (some .int)) (own := RX7) (by decide) rfl rfl _ (Nat.le_of_ble_eq_true rfl) ?_
  intro p e s m below meth c C E ls hl hh
  have hl : lv_has ls 2 [(0, .ref (g.2.2 66)), (1, .int x1)] := hl
  obtain ⟨hx, hb, hr, hml, hown, hts, hlocks⟩ := id C
  unfold fX7_value at hf
  refine lv_iload_n hx hb dX7_value_0 rfl (lv_at hl 1 rfl) ?_
  refine lv_i2l hx hb dX7_value_1 rfl ?_
  refine lv_lconst (v := 0) hx hb dX7_value_2 (by decide) ?_
  refine lv_iconst (v := (nI 1)) hx hb dX7_value_3 (by decide) ?_
  refine lv_aload_n hx hb dX7_value_4 rfl (lv_at hl 0 rfl) ?_
  refine z_get (v := .int (τ.1 66 1)) hx hb hts (fun w h => List.mem_cons_of_mem _ (List.mem_append_right _ (h))) hown E hh (by decide) (zC_obj (q := 66) rfl) rfl 1 (by decide) (hts (.fieldLink RX7 141 "TownBandModel" "beastMany" "I") (List.mem_cons_of_mem _ (List.mem_append_left _ (List.mem_append_left _ (List.mem_of_getElem? (i := 0) rfl))))) rfl dX7_value_5 ?_
  refine lv_ishl hx hb dX7_value_8 ?_
  refine lv_iconst (v := (nI 1)) hx hb dX7_value_9 (by decide) ?_
  refine lv_isub hx hb dX7_value_10 ?_
  refine lv_i2l hx hb dX7_value_11 rfl ?_
  obtain ⟨q1, h_q1, hf⟩ := z_bd hf
  refine z_mi (va_runS (As := [.long x1.toInt64, .long 0, .long (((((nI 1) <<< ((τ.1 66 1) &&& 31)) - (nI 1))).toInt64)]) (rest := []) ⟨hx, hb, hml, hown, hts⟩ (zcX7_in l g A σ τ N x1.toInt64 0 (((((nI 1) <<< ((τ.1 66 1) &&& 31)) - (nI 1))).toInt64) h_q1) (va_cwS 3 hts gX7_value_X7_in rfl rfl rfl hdX7_in.2 ⟨by decide, by decide⟩) (z_preS E hh) rfl rfl hl.1 rfl (lv_room (Nat.le_of_ble_eq_true rfl)) dX7_value_12 ⟨Nat.le_refl _, Nat.le_refl _⟩) hh (fun H locs hh => ?_)
  refine lv_if_eq (tgt := 26) hx hb dX7_value_15 (by decide) (fun c_v2 => ?_) (fun c_v2 => ?_)
  · have hf := z_ip hf c_v2
    refine lv_iconst (v := (-1)) hx hb dX7_value_26 (by decide) ?_
    have hf := Option.some.inj hf
    subst hf
    exact z_iretM hx hb hr hlocks hh dX7_value_27
  · have hf := z_in hf c_v2
    refine lv_aload_n hx hb dX7_value_18 rfl (lv_at hl 0 rfl) ?_
    refine lv_iload_n hx hb dX7_value_19 rfl (lv_at hl 1 rfl) ?_
    obtain ⟨q3, h_q3, hf⟩ := z_bd hf
    refine z_mi (va_runV (As := [.int x1]) (rest := []) ⟨hx, hb, hml, hown, hts⟩ (zcX7_valueOf l g A σ τ N x1 h_q3) (cwV 1 hts gX7_value_X7_valueOf rfl rfl rfl hdX7_valueOf ⟨by decide, by decide⟩) (z_preV E hh (by decide) (zC_obj (q := 66) rfl) rfl) rfl rfl hl.1 rfl (lv_room (Nat.le_of_ble_eq_true rfl)) dX7_value_20 ⟨Nat.le_refl _, Nat.le_refl _⟩) hh (fun H locs hh => ?_)
    refine lv_goto (tgt := 27) hx hb dX7_value_23 (by decide) ?_
    have hf := Option.some.inj hf
    subst hf
    exact z_iretM hx hb hr hlocks hh dX7_value_27
/-! ===== X7_lowest ===== -/
theorem hdX7_lowest : yX7_lowest.cls = RX7 ∧ yX7_lowest.cls ≠ "java/lang/invoke/MethodHandle" ∧ yX7_lowest.cls ≠ "java/lang/invoke/VarHandle" ∧ (parseMethodDescriptor yX7_lowest.desc).map (fun d => d.parameters.length) = some 3 := by decide +kernel
def PX7_lowest_41 (p : Program) (l : Launch) (e : Env) (s : State) (m : MethodId) (args : Array Value) (below : List Frame) (meth : Method) (c : Code) (g : zG) (A : Nat → Prop) (σ τ : zS) (res : Int64) (f : Int64 → Int64 → Option (Int64)) : Prop := ∀ (x5 : Int64) (s0 : Int64) (H : Heap) (locs : List Loc) (ls : Array Slot), f x5 s0 = some res → zW g A σ τ s H locs → lv_has ls 11 [(5, .long x5)] → W p l e (zR 0) s m args below meth c H locs 0 0 (MQ below (zPl g A σ (res, τ)) args s 0 0 A) (F0 m 41 ls [.long s0])
def PX7_lowest_31 (p : Program) (l : Launch) (e : Env) (s : State) (m : MethodId) (args : Array Value) (below : List Frame) (meth : Method) (c : Code) (g : zG) (A : Nat → Prop) (σ τ : zS) (res : Int64) (f : Int64 → Int64 → Int32 → Int64 → Option (Int64)) : Prop := ∀ (x0 : Int64) (x2 : Int64) (x4 : Int32) (x5 : Int64) (H : Heap) (locs : List Loc) (ls : Array Slot), f x0 x2 x4 x5 = some res → zW g A σ τ s H locs → lv_has ls 11 [(0, .long x0), (2, .long x2), (4, .int x4), (5, .long x5)] → W p l e (zR 0) s m args below meth c H locs 0 0 (MQ below (zPl g A σ (res, τ)) args s 0 0 A) (F0 m 31 ls [])
def PX7_lowest_6 (p : Program) (l : Launch) (e : Env) (s : State) (m : MethodId) (args : Array Value) (below : List Frame) (meth : Method) (c : Code) (g : zG) (A : Nat → Prop) (σ τ : zS) (res : Int64) (f : Int64 → Int64 → Int32 → Int64 → Int64 → Option (Int64)) : Prop := ∀ (x0 : Int64) (x2 : Int64) (x4 : Int32) (x5 : Int64) (x7 : Int64) (H : Heap) (locs : List Loc) (ls : Array Slot), f x0 x2 x4 x5 x7 = some res → zW g A σ τ s H locs → lv_has ls 11 [(0, .long x0), (2, .long x2), (4, .int x4), (5, .long x5), (7, .long x7)] → W p l e (zR 0) s m args below meth c H locs 0 0 (MQ below (zPl g A σ (res, τ)) args s 0 0 A) (F0 m 6 ls [])
def fX7_lowest_41 (N : Nat) (x5 : Int64) (s0 : Int64) : Option (Int64) :=
  if ¬ (x5 = 0) then
  zlet (s0 / x5) fun v2 =>
  some v2
  else none
set_option maxRecDepth 100000 in
set_option maxHeartbeats 4000000 in
theorem hX7_lowest_41 {p : Program} {l : Launch} {e : Env} {s : State} {m : MethodId} {args : Array Value} {below : List Frame} {meth : Method} {c : Code} {g : zG} {A : Nat → Prop} {σ τ : zS} {res : Int64} (C : zCx p s m args meth c cX7_lowest (some .long) wsX7_lowest RX7 11) (E : zE g A s) (N : Nat) : PX7_lowest_41 p l e s m args below meth c g A σ τ res (fX7_lowest_41 N) := by
  obtain ⟨hx, hb, hr, hml, hown, hts, hlocks⟩ := id C
  intro x5 s0 H locs ls hf hh hl
  unfold fX7_lowest_41 at hf
  refine lv_lload hx hb dX7_lowest_41 (lv_at hl 0 rfl) ?_
  obtain ⟨h_v1, hf⟩ := z_if hf
  obtain ⟨v2, e_v2, hf⟩ := z_lt hf
  refine lv_ldiv hx hb dX7_lowest_43 h_v1 ?_
  refine z_topl e_v2 ?_
  have hf := Option.some.inj hf
  subst hf
  exact z_lretM hx hb hr hlocks hh dX7_lowest_44
def fX7_lowest_31 (N : Nat) (x0 : Int64) (x2 : Int64) (x4 : Int32) (x5 : Int64) : Option (Int64) :=
  if x4 = 0 then
    (fX7_lowest_41 N) x5 x0
  else
    (fX7_lowest_41 N) x5 x2
set_option maxRecDepth 100000 in
set_option maxHeartbeats 4000000 in
theorem hX7_lowest_31 {p : Program} {l : Launch} {e : Env} {s : State} {m : MethodId} {args : Array Value} {below : List Frame} {meth : Method} {c : Code} {g : zG} {A : Nat → Prop} {σ τ : zS} {res : Int64} (C : zCx p s m args meth c cX7_lowest (some .long) wsX7_lowest RX7 11) (E : zE g A s) (N : Nat) : PX7_lowest_31 p l e s m args below meth c g A σ τ res (fX7_lowest_31 N) := by
  obtain ⟨hx, hb, hr, hml, hown, hts, hlocks⟩ := id C
  intro x0 x2 x4 x5 H locs ls hf hh hl
  unfold fX7_lowest_31 at hf
  refine lv_iload hx hb dX7_lowest_31 (lv_at hl 2 rfl) ?_
  refine lv_if_ne (tgt := 40) hx hb dX7_lowest_33 (by decide) (fun c_v1 => ?_) (fun c_v1 => ?_)
  · have hf := z_in hf c_v1
    refine lv_lload_n hx hb dX7_lowest_40 rfl (lv_at hl 1 rfl) ?_
    exact (hX7_lowest_41 C E N) x5 x2 _ _ _ hf hh (lv_sub hl [3] rfl)
  · have hf := z_ip hf c_v1
    refine lv_lload_n hx hb dX7_lowest_36 rfl (lv_at hl 0 rfl) ?_
    refine lv_goto (tgt := 41) hx hb dX7_lowest_37 (by decide) ?_
    exact (hX7_lowest_41 C E N) x5 x0 _ _ _ hf hh (lv_sub hl [3] rfl)
def fX7_lowest_6 (N : Nat) (k_31 : Int64 → Int64 → Int32 → Int64 → Option (Int64)) : Nat → Int64 → Int64 → Int32 → Int64 → Int64 → Option (Int64)
  | 0, _, _, _, _, _ => none
  | n + 1, x0, x2, x4, x5, x7 =>
    if (lg_cmp x7 0) = 0 then
      k_31 x0 x2 x4 x5
    else
      if ¬ (x7 = 0) then
      zlet (zlrem x5 x7) fun v3 =>
      (fX7_lowest_6 N k_31 n) x0 x2 x4 x7 v3
      else none
set_option maxRecDepth 100000 in
set_option maxHeartbeats 4000000 in
theorem hX7_lowest_6 {p : Program} {l : Launch} {e : Env} {s : State} {m : MethodId} {args : Array Value} {below : List Frame} {meth : Method} {c : Code} {g : zG} {A : Nat → Prop} {σ τ : zS} {res : Int64} (C : zCx p s m args meth c cX7_lowest (some .long) wsX7_lowest RX7 11) (E : zE g A s) (N : Nat) (k_31 : Int64 → Int64 → Int32 → Int64 → Option (Int64)) (hk_31 : PX7_lowest_31 p l e s m args below meth c g A σ τ res k_31) : ∀ n : Nat, PX7_lowest_6 p l e s m args below meth c g A σ τ res (fX7_lowest_6 N k_31 n) := by
  obtain ⟨hx, hb, hr, hml, hown, hts, hlocks⟩ := id C
  intro n
  induction n with
  | zero =>
    intro x0 x2 x4 x5 x7 H locs ls hf
    exact absurd hf (by simp [fX7_lowest_6])
  | succ n ih =>
    intro x0 x2 x4 x5 x7 H locs ls hf hh hl
    rw [fX7_lowest_6] at hf
    refine lv_lload hx hb dX7_lowest_6 (lv_at hl 4 rfl) ?_
    refine lv_lconst (v := 0) hx hb dX7_lowest_8 (by decide) ?_
    refine W.lcmp hx hb dX7_lowest_9 ?_
    refine lv_if_eq (tgt := 31) hx hb dX7_lowest_10 (by decide) (fun c_v1 => ?_) (fun c_v1 => ?_)
    · have hf := z_ip hf c_v1
      exact hk_31 x0 x2 x4 x5 _ _ _ hf hh (lv_sub hl [0, 1, 2, 3] rfl)
    · have hf := z_in hf c_v1
      refine lv_lload hx hb dX7_lowest_13 (lv_at hl 3 rfl) ?_
      refine lv_lload hx hb dX7_lowest_15 (lv_at hl 4 rfl) ?_
      obtain ⟨h_v2, hf⟩ := z_if hf
      obtain ⟨v3, e_v3, hf⟩ := z_lt hf
      refine lv_lrem hx hb dX7_lowest_17 h_v2 ?_
      refine z_topl e_v3 ?_
      refine lv_lstore (lv' := [(9, .long v3), (0, .long x0), (2, .long x2), (4, .int x4), (5, .long x5), (7, .long x7)]) hx hb dX7_lowest_18 hl (by decide) rfl (fun ls hl => ?_)
      refine lv_lload hx hb dX7_lowest_20 (lv_at hl 5 rfl) ?_
      refine lv_lstore (lv' := [(5, .long x7), (9, .long v3), (0, .long x0), (2, .long x2), (4, .int x4), (7, .long x7)]) hx hb dX7_lowest_22 hl (by decide) rfl (fun ls hl => ?_)
      refine lv_lload hx hb dX7_lowest_24 (lv_at hl 1 rfl) ?_
      refine lv_lstore (lv' := [(7, .long v3), (5, .long x7), (9, .long v3), (0, .long x0), (2, .long x2), (4, .int x4)]) hx hb dX7_lowest_26 hl (by decide) rfl (fun ls hl => ?_)
      refine lv_goto (tgt := 6) hx hb dX7_lowest_28 (by decide) ?_
      exact ih x0 x2 x4 x7 v3 _ _ _ hf hh (lv_sub hl [3, 4, 5, 1, 0] rfl)
def fX7_lowest (N : Nat) (x0 : Int64) (x2 : Int64) (x4 : Int32) : Option (Int64) :=
  (fX7_lowest_6 N (fX7_lowest_31 N) N) x0 x2 x4 x0 x2
set_option maxRecDepth 100000 in
set_option maxHeartbeats 4000000 in
theorem zcX7_lowest (l : Launch) (g : zG) (A : Nat → Prop) (σ τ : zS) (N : Nat) (x0 : Int64) (x2 : Int64) (x4 : Int32)  {res : Int64} (hf : fX7_lowest N x0 x2 x4 = some res) : Met l yX7_lowest wsX7_lowest (zR 0) (zPc g A σ τ [.long x0, .long x2, .int x4]) (zPl g A σ (res, τ)) 0 0 A := by
  refine z_met (cc := cX7_lowest) (ret := (some .long)) (own := RX7) (by decide) rfl rfl _ (Nat.le_of_ble_eq_true rfl) ?_
  intro p e s m below meth c C E ls hl hh
  have hl : lv_has ls 11 [(0, .long x0), (2, .long x2), (4, .int x4)] := hl
  obtain ⟨hx, hb, hr, hml, hown, hts, hlocks⟩ := id C
  unfold fX7_lowest at hf
  refine lv_lload_n hx hb dX7_lowest_0 rfl (lv_at hl 0 rfl) ?_
  refine lv_lstore (lv' := [(5, .long x0), (0, .long x0), (2, .long x2), (4, .int x4)]) hx hb dX7_lowest_1 hl (by decide) rfl (fun ls hl => ?_)
  refine lv_lload_n hx hb dX7_lowest_3 rfl (lv_at hl 2 rfl) ?_
  refine lv_lstore (lv' := [(7, .long x2), (5, .long x0), (0, .long x0), (2, .long x2), (4, .int x4)]) hx hb dX7_lowest_4 hl (by decide) rfl (fun ls hl => ?_)
  exact (hX7_lowest_6 C E N (fX7_lowest_31 N) (hX7_lowest_31 C E N) N) x0 x2 x4 x0 x2 _ _ _ hf hh (lv_sub hl [2, 3, 4, 1, 0] rfl)
/-! ===== X7_ordersOf ===== -/
theorem hdX7_ordersOf : yX7_ordersOf.cls = RX7 ∧ yX7_ordersOf.cls ≠ "java/lang/invoke/MethodHandle" ∧ yX7_ordersOf.cls ≠ "java/lang/invoke/VarHandle" ∧ (parseMethodDescriptor yX7_ordersOf.desc).map (fun d => d.parameters.length) = some 1 := by decide +kernel
def PX7_ordersOf_4 (p : Program) (l : Launch) (e : Env) (s : State) (m : MethodId) (args : Array Value) (below : List Frame) (meth : Method) (c : Code) (g : zG) (A : Nat → Prop) (σ τ : zS) (res : Int32) (f : Int32 → Int32 → Int32 → Option (Int32)) : Prop := ∀ (x0 : Int32) (x1 : Int32) (x2 : Int32) (H : Heap) (locs : List Loc) (ls : Array Slot), f x0 x1 x2 = some res → zW g A σ τ s H locs → lv_has ls 3 [(0, .int x0), (1, .int x1), (2, .int x2)] → W p l e (zR 0) s m args below meth c H locs 0 0 (MQ below (zPi g A σ (res, τ)) args s 0 0 A) (F0 m 4 ls [])
def fX7_ordersOf_4 (N : Nat) : Nat → Int32 → Int32 → Int32 → Option (Int32)
  | 0, _, _, _ => none
  | n + 1, x0, x1, x2 =>
    if x0 < x2 then
      some x1
    else
      (fX7_ordersOf_4 N n) x0 (x1 * x2) (x2 + (nI 1))
set_option maxRecDepth 100000 in
set_option maxHeartbeats 4000000 in
theorem hX7_ordersOf_4 {p : Program} {l : Launch} {e : Env} {s : State} {m : MethodId} {args : Array Value} {below : List Frame} {meth : Method} {c : Code} {g : zG} {A : Nat → Prop} {σ τ : zS} {res : Int32} (C : zCx p s m args meth c cX7_ordersOf (some .int) wsX7_ordersOf RX7 3) (E : zE g A s) (N : Nat) : ∀ n : Nat, PX7_ordersOf_4 p l e s m args below meth c g A σ τ res (fX7_ordersOf_4 N n) := by
  obtain ⟨hx, hb, hr, hml, hown, hts, hlocks⟩ := id C
  intro n
  induction n with
  | zero =>
    intro x0 x1 x2 H locs ls hf
    exact absurd hf (by simp [fX7_ordersOf_4])
  | succ n ih =>
    intro x0 x1 x2 H locs ls hf hh hl
    rw [fX7_ordersOf_4] at hf
    refine lv_iload_n hx hb dX7_ordersOf_4 rfl (lv_at hl 2 rfl) ?_
    refine lv_iload_n hx hb dX7_ordersOf_5 rfl (lv_at hl 0 rfl) ?_
    refine lv_icmp_gt (tgt := 19) hx hb dX7_ordersOf_6 (by decide) (fun c_v1 => ?_) (fun c_v1 => ?_)
    · have hf := z_ip hf c_v1
      refine lv_iload_n hx hb dX7_ordersOf_19 rfl (lv_at hl 1 rfl) ?_
      have hf := Option.some.inj hf
      subst hf
      exact z_iretM hx hb hr hlocks hh dX7_ordersOf_20
    · have hf := z_in hf c_v1
      refine lv_iload_n hx hb dX7_ordersOf_9 rfl (lv_at hl 1 rfl) ?_
      refine lv_iload_n hx hb dX7_ordersOf_10 rfl (lv_at hl 2 rfl) ?_
      refine lv_imul hx hb dX7_ordersOf_11 ?_
      refine lv_istore_n (lv' := [(1, .int (x1 * x2)), (0, .int x0), (2, .int x2)]) hx hb dX7_ordersOf_12 rfl hl (by decide) rfl (fun ls hl => ?_)
      refine lv_iinc (v := (x2 + (nI 1))) (lv' := [(2, .int (x2 + (nI 1))), (1, .int (x1 * x2)), (0, .int x0)]) hx hb dX7_ordersOf_13 hl (k := 2) rfl rfl (by decide) rfl (fun ls hl => ?_)
      refine lv_goto (tgt := 4) hx hb dX7_ordersOf_16 (by decide) ?_
      exact ih x0 (x1 * x2) (x2 + (nI 1)) _ _ _ hf hh (lv_sub hl [2, 1, 0] rfl)
def fX7_ordersOf (N : Nat) (x0 : Int32) : Option (Int32) :=
  (fX7_ordersOf_4 N N) x0 (nI 1) (nI 2)
set_option maxRecDepth 100000 in
set_option maxHeartbeats 4000000 in
theorem zcX7_ordersOf (l : Launch) (g : zG) (A : Nat → Prop) (σ τ : zS) (N : Nat) (x0 : Int32)  {res : Int32} (hf : fX7_ordersOf N x0 = some res) : Met l yX7_ordersOf wsX7_ordersOf (zR 0) (zPc g A σ τ [.int x0]) (zPi g A σ (res, τ)) 0 0 A := by
  refine z_met (cc := cX7_ordersOf) (ret := (some .int)) (own := RX7) (by decide) rfl rfl _ (Nat.le_of_ble_eq_true rfl) ?_
  intro p e s m below meth c C E ls hl hh
  have hl : lv_has ls 3 [(0, .int x0)] := hl
  obtain ⟨hx, hb, hr, hml, hown, hts, hlocks⟩ := id C
  unfold fX7_ordersOf at hf
  refine lv_iconst (v := (nI 1)) hx hb dX7_ordersOf_0 (by decide) ?_
  refine lv_istore_n (lv' := [(1, .int (nI 1)), (0, .int x0)]) hx hb dX7_ordersOf_1 rfl hl (by decide) rfl (fun ls hl => ?_)
  refine lv_iconst (v := (nI 2)) hx hb dX7_ordersOf_2 (by decide) ?_
  refine lv_istore_n (lv' := [(2, .int (nI 2)), (1, .int (nI 1)), (0, .int x0)]) hx hb dX7_ordersOf_3 rfl hl (by decide) rfl (fun ls hl => ?_)
  exact (hX7_ordersOf_4 C E N N) x0 (nI 1) (nI 2) _ _ _ hf hh (lv_sub hl [2, 1, 0] rfl)
/-! ===== X7_share ===== -/
theorem hdX7_share : yX7_share.cls = RX7 ∧ yX7_share.cls ≠ "java/lang/invoke/MethodHandle" ∧ yX7_share.cls ≠ "java/lang/invoke/VarHandle" ∧ (parseMethodDescriptor yX7_share.desc).map (fun d => d.parameters.length) = some 2 := by decide +kernel
def PX7_share_105 (p : Program) (l : Launch) (e : Env) (s : State) (m : MethodId) (args : Array Value) (below : List Frame) (meth : Method) (c : Code) (g : zG) (A : Nat → Prop) (σ : zS) (res : Int64 × zS) (f : Int32 → Int64 → zS → Option (Int64 × zS)) : Prop := ∀ (x2 : Int32) (x3 : Int64) (τ : zS) (H : Heap) (locs : List Loc) (ls : Array Slot), f x2 x3 τ = some res → zW g A σ τ s H locs → lv_has ls 8 [(0, .ref (g.2.2 66)), (2, .int x2), (3, .long x3)] → W p l e (zR 6) s m args below meth c H locs 0 0 (MQ below (zPl g A σ res) args s 0 0 A) (F0 m 105 ls [])
def PX7_share_99 (p : Program) (l : Launch) (e : Env) (s : State) (m : MethodId) (args : Array Value) (below : List Frame) (meth : Method) (c : Code) (g : zG) (A : Nat → Prop) (σ : zS) (res : Int64 × zS) (f : Int32 → Int32 → Int64 → Int32 → zS → Option (Int64 × zS)) : Prop := ∀ (x1 : Int32) (x2 : Int32) (x3 : Int64) (x5 : Int32) (τ : zS) (H : Heap) (locs : List Loc) (ls : Array Slot), f x1 x2 x3 x5 τ = some res → zW g A σ τ s H locs → lv_has ls 8 [(0, .ref (g.2.2 66)), (1, .int x1), (2, .int x2), (3, .long x3), (5, .int x5)] → W p l e (zR 6) s m args below meth c H locs 0 0 (MQ below (zPl g A σ res) args s 0 0 A) (F0 m 99 ls [])
def PX7_share_27 (p : Program) (l : Launch) (e : Env) (s : State) (m : MethodId) (args : Array Value) (below : List Frame) (meth : Method) (c : Code) (g : zG) (A : Nat → Prop) (σ : zS) (res : Int64 × zS) (f : Int32 → Int32 → Int64 → Int32 → zS → Option (Int64 × zS)) : Prop := ∀ (x1 : Int32) (x2 : Int32) (x3 : Int64) (x5 : Int32) (τ : zS) (H : Heap) (locs : List Loc) (ls : Array Slot), f x1 x2 x3 x5 τ = some res → zW g A σ τ s H locs → lv_has ls 8 [(0, .ref (g.2.2 66)), (1, .int x1), (2, .int x2), (3, .long x3), (5, .int x5)] → W p l e (zR 6) s m args below meth c H locs 0 0 (MQ below (zPl g A σ res) args s 0 0 A) (F0 m 27 ls [])
def PX7_share_18 (p : Program) (l : Launch) (e : Env) (s : State) (m : MethodId) (args : Array Value) (below : List Frame) (meth : Method) (c : Code) (g : zG) (A : Nat → Prop) (σ : zS) (res : Int64 × zS) (f : zS → Option (Int64 × zS)) : Prop := ∀  (τ : zS) (H : Heap) (locs : List Loc) (ls : Array Slot), f τ = some res → zW g A σ τ s H locs → lv_has ls 8 [] → W p l e (zR 6) s m args below meth c H locs 0 0 (MQ below (zPl g A σ res) args s 0 0 A) (F0 m 18 ls [])
def fX7_share_105 (N : Nat) (x2 : Int32) (x3 : Int64) (τ : zS) : Option (Int64 × zS) :=
  (fX7_ordersOf N (τ.1 66 1)).bind fun q1 =>
  (fX7_lowest N x3 q1.toInt64 x2).bind fun q2 =>
  some (q2, τ)
set_option maxRecDepth 100000 in
set_option maxHeartbeats 4000000 in
theorem hX7_share_105 {p : Program} {l : Launch} {e : Env} {s : State} {m : MethodId} {args : Array Value} {below : List Frame} {meth : Method} {c : Code} {g : zG} {A : Nat → Prop} {σ : zS} {res : Int64 × zS} (C : zCx p s m args meth c cX7_share (some .long) wsX7_share RX7 8) (E : zE g A s) (N : Nat) : PX7_share_105 p l e s m args below meth c g A σ res (fX7_share_105 N) := by
  obtain ⟨hx, hb, hr, hml, hown, hts, hlocks⟩ := id C
  intro x2 x3 τ H locs ls hf hh hl
  unfold fX7_share_105 at hf
  refine lv_lload_n hx hb dX7_share_105 rfl (lv_at hl 2 rfl) ?_
  refine lv_aload_n hx hb dX7_share_106 rfl (lv_at hl 0 rfl) ?_
  refine z_get (v := .int (τ.1 66 1)) hx hb hts (fun w h => List.mem_cons_of_mem _ (List.mem_append_right _ (h))) hown E hh (by decide) (zC_obj (q := 66) rfl) rfl 1 (by decide) (hts (.fieldLink RX7 141 "TownBandModel" "beastMany" "I") (List.mem_cons_of_mem _ (List.mem_append_left _ (List.mem_append_left _ (List.mem_of_getElem? (i := 1) rfl))))) rfl dX7_share_107 ?_
  obtain ⟨q1, h_q1, hf⟩ := z_bd hf
  refine z_mi (va_runS (As := [.int (τ.1 66 1)]) (rest := [.long x3]) ⟨hx, hb, hml, hown, hts⟩ (zcX7_ordersOf l g A σ τ N (τ.1 66 1) h_q1) (va_cwS 1 hts gX7_share_X7_ordersOf rfl rfl rfl hdX7_ordersOf.2 ⟨by decide, by decide⟩) (z_preS E hh) rfl rfl hl.1 rfl (lv_room (Nat.le_of_ble_eq_true rfl)) dX7_share_110 ⟨Nat.le_refl _, Nat.le_refl _⟩) hh (fun H locs hh => ?_)
  refine lv_i2l hx hb dX7_share_113 rfl ?_
  refine lv_iload_n hx hb dX7_share_114 rfl (lv_at hl 1 rfl) ?_
  obtain ⟨q2, h_q2, hf⟩ := z_bd hf
  refine z_ml (va_runS (As := [.long x3, .long q1.toInt64, .int x2]) (rest := []) ⟨hx, hb, hml, hown, hts⟩ (zcX7_lowest l g A σ τ N x3 q1.toInt64 x2 h_q2) (va_cwS 3 hts gX7_share_X7_lowest rfl rfl rfl hdX7_lowest.2 ⟨by decide, by decide⟩) (z_preS E hh) rfl rfl hl.1 rfl (lv_room (Nat.le_of_ble_eq_true rfl)) dX7_share_115 ⟨Nat.le_refl _, Nat.le_refl _⟩) hh (fun H locs hh => ?_)
  have hf := Option.some.inj hf
  subst hf
  exact z_lretM hx hb hr hlocks hh dX7_share_118
def fX7_share_99 (N : Nat) (rc : Int32 → Int32 → Int64 → Int32 → zS → Option (Int64 × zS)) (k_105 : Int32 → Int64 → zS → Option (Int64 × zS)) (x1 : Int32) (x2 : Int32) (x3 : Int64) (x5 : Int32) (τ : zS) : Option (Int64 × zS) :=
  rc x1 x2 x3 (x5 + (nI 1)) τ
set_option maxRecDepth 100000 in
set_option maxHeartbeats 4000000 in
theorem hX7_share_99 {p : Program} {l : Launch} {e : Env} {s : State} {m : MethodId} {args : Array Value} {below : List Frame} {meth : Method} {c : Code} {g : zG} {A : Nat → Prop} {σ : zS} {res : Int64 × zS} (C : zCx p s m args meth c cX7_share (some .long) wsX7_share RX7 8) (E : zE g A s) (N : Nat) (rc : Int32 → Int32 → Int64 → Int32 → zS → Option (Int64 × zS)) (hrc : PX7_share_27 p l e s m args below meth c g A σ res rc) (k_105 : Int32 → Int64 → zS → Option (Int64 × zS)) (hk_105 : PX7_share_105 p l e s m args below meth c g A σ res k_105) : PX7_share_99 p l e s m args below meth c g A σ res (fX7_share_99 N rc k_105) := by
  obtain ⟨hx, hb, hr, hml, hown, hts, hlocks⟩ := id C
  intro x1 x2 x3 x5 τ H locs ls hf hh hl
  unfold fX7_share_99 at hf
  refine lv_iinc (v := (x5 + (nI 1))) (lv' := [(5, .int (x5 + (nI 1))), (0, .ref (g.2.2 66)), (1, .int x1), (2, .int x2), (3, .long x3)]) hx hb dX7_share_99 hl (k := 4) rfl rfl (by decide) rfl (fun ls hl => ?_)
  refine lv_goto (tgt := 27) hx hb dX7_share_102 (by decide) ?_
  exact hrc x1 x2 x3 (x5 + (nI 1)) τ _ _ _ hf hh (lv_sub hl [1, 2, 3, 4, 0] rfl)
def fX7_share_27 (N : Nat) (k_105 : Int32 → Int64 → zS → Option (Int64 × zS)) : Nat → Int32 → Int32 → Int64 → Int32 → zS → Option (Int64 × zS)
  | 0, _, _, _, _, _ => none
  | n + 1, x1, x2, x3, x5, τ =>
    if ((nI 1) <<< ((τ.1 66 1) &&& 31)) ≤ x5 then
      k_105 x2 x3 τ
    else
      if ((x5 >>> (x1 &&& 31)) &&& (nI 1)) = 0 then
        (fX7_bitsOf N x5).bind fun q3 =>
        (fX7_ordersOf N q3).bind fun q4 =>
        (fX7_ordersOf N (((τ.1 66 1) - (nI 1)) - q3)).bind fun q5 =>
        (fX7_valueOf N τ (x5 ||| ((nI 1) <<< (x1 &&& 31)))).bind fun q6 =>
        (fX7_valueOf N q6.2 x5).bind fun q7 =>
        zlet (x3 + ((((q4 * q5)).toInt64) * (((q6.1 - q7.1)).toInt64))) fun v8 =>
        (fX7_share_99 N (fX7_share_27 N k_105 n) k_105) x1 x2 v8 x5 q7.2
      else
        (fX7_share_99 N (fX7_share_27 N k_105 n) k_105) x1 x2 x3 x5 τ
set_option maxRecDepth 100000 in
set_option maxHeartbeats 4000000 in
theorem hX7_share_27 {p : Program} {l : Launch} {e : Env} {s : State} {m : MethodId} {args : Array Value} {below : List Frame} {meth : Method} {c : Code} {g : zG} {A : Nat → Prop} {σ : zS} {res : Int64 × zS} (C : zCx p s m args meth c cX7_share (some .long) wsX7_share RX7 8) (E : zE g A s) (N : Nat) (k_105 : Int32 → Int64 → zS → Option (Int64 × zS)) (hk_105 : PX7_share_105 p l e s m args below meth c g A σ res k_105) : ∀ n : Nat, PX7_share_27 p l e s m args below meth c g A σ res (fX7_share_27 N k_105 n) := by
  obtain ⟨hx, hb, hr, hml, hown, hts, hlocks⟩ := id C
  intro n
  induction n with
  | zero =>
    intro x1 x2 x3 x5 τ H locs ls hf
    exact absurd hf (by simp [fX7_share_27])
  | succ n ih =>
    intro x1 x2 x3 x5 τ H locs ls hf hh hl
    rw [fX7_share_27] at hf
    refine lv_iload hx hb dX7_share_27 (lv_at hl 4 rfl) ?_
    refine lv_iconst (v := (nI 1)) hx hb dX7_share_29 (by decide) ?_
    refine lv_aload_n hx hb dX7_share_30 rfl (lv_at hl 0 rfl) ?_
    refine z_get (v := .int (τ.1 66 1)) hx hb hts (fun w h => List.mem_cons_of_mem _ (List.mem_append_right _ (h))) hown E hh (by decide) (zC_obj (q := 66) rfl) rfl 1 (by decide) (hts (.fieldLink RX7 141 "TownBandModel" "beastMany" "I") (List.mem_cons_of_mem _ (List.mem_append_left _ (List.mem_append_left _ (List.mem_of_getElem? (i := 1) rfl))))) rfl dX7_share_31 ?_
    refine lv_ishl hx hb dX7_share_34 ?_
    refine lv_icmp_ge (tgt := 105) hx hb dX7_share_35 (by decide) (fun c_v1 => ?_) (fun c_v1 => ?_)
    · have hf := z_ip hf c_v1
      exact hk_105 x2 x3 τ _ _ _ hf hh (lv_sub hl [0, 2, 3] rfl)
    · have hf := z_in hf c_v1
      refine lv_iload hx hb dX7_share_38 (lv_at hl 4 rfl) ?_
      refine lv_iload_n hx hb dX7_share_40 rfl (lv_at hl 1 rfl) ?_
      refine lv_ishr hx hb dX7_share_41 ?_
      refine lv_iconst (v := (nI 1)) hx hb dX7_share_42 (by decide) ?_
      refine lv_iand hx hb dX7_share_43 ?_
      refine lv_if_ne (tgt := 99) hx hb dX7_share_44 (by decide) (fun c_v2 => ?_) (fun c_v2 => ?_)
      · have hf := z_in hf c_v2
        exact (hX7_share_99 C E N (fX7_share_27 N k_105 n) ih k_105 hk_105) x1 x2 x3 x5 τ _ _ _ hf hh (lv_sub hl [0, 1, 2, 3, 4] rfl)
      · have hf := z_ip hf c_v2
        refine lv_iload hx hb dX7_share_47 (lv_at hl 4 rfl) ?_
        obtain ⟨q3, h_q3, hf⟩ := z_bd hf
        refine z_mi (va_runS (As := [.int x5]) (rest := []) ⟨hx, hb, hml, hown, hts⟩ (zcX7_bitsOf l g A σ τ N x5 h_q3) (va_cwS 1 hts gX7_share_X7_bitsOf rfl rfl rfl hdX7_bitsOf.2 ⟨by decide, by decide⟩) (z_preS E hh) rfl rfl hl.1 rfl (lv_room (Nat.le_of_ble_eq_true rfl)) dX7_share_49 ⟨Nat.le_refl _, Nat.le_refl _⟩) hh (fun H locs hh => ?_)
        refine lv_istore (lv' := [(6, .int q3), (0, .ref (g.2.2 66)), (1, .int x1), (2, .int x2), (3, .long x3), (5, .int x5)]) hx hb dX7_share_52 hl (by decide) rfl (fun ls hl => ?_)
        refine lv_iload hx hb dX7_share_54 (lv_at hl 0 rfl) ?_
        obtain ⟨q4, h_q4, hf⟩ := z_bd hf
        refine z_mi (va_runS (As := [.int q3]) (rest := []) ⟨hx, hb, hml, hown, hts⟩ (zcX7_ordersOf l g A σ τ N q3 h_q4) (va_cwS 1 hts gX7_share_X7_ordersOf rfl rfl rfl hdX7_ordersOf.2 ⟨by decide, by decide⟩) (z_preS E hh) rfl rfl hl.1 rfl (lv_room (Nat.le_of_ble_eq_true rfl)) dX7_share_56 ⟨Nat.le_refl _, Nat.le_refl _⟩) hh (fun H locs hh => ?_)
        refine lv_aload_n hx hb dX7_share_59 rfl (lv_at hl 1 rfl) ?_
        refine z_get (v := .int (τ.1 66 1)) hx hb hts (fun w h => List.mem_cons_of_mem _ (List.mem_append_right _ (h))) hown E hh (by decide) (zC_obj (q := 66) rfl) rfl 1 (by decide) (hts (.fieldLink RX7 141 "TownBandModel" "beastMany" "I") (List.mem_cons_of_mem _ (List.mem_append_left _ (List.mem_append_left _ (List.mem_of_getElem? (i := 1) rfl))))) rfl dX7_share_60 ?_
        refine lv_iconst (v := (nI 1)) hx hb dX7_share_63 (by decide) ?_
        refine lv_isub hx hb dX7_share_64 ?_
        refine lv_iload hx hb dX7_share_65 (lv_at hl 0 rfl) ?_
        refine lv_isub hx hb dX7_share_67 ?_
        obtain ⟨q5, h_q5, hf⟩ := z_bd hf
        refine z_mi (va_runS (As := [.int (((τ.1 66 1) - (nI 1)) - q3)]) (rest := [.int q4]) ⟨hx, hb, hml, hown, hts⟩ (zcX7_ordersOf l g A σ τ N (((τ.1 66 1) - (nI 1)) - q3) h_q5) (va_cwS 1 hts gX7_share_X7_ordersOf rfl rfl rfl hdX7_ordersOf.2 ⟨by decide, by decide⟩) (z_preS E hh) rfl rfl hl.1 rfl (lv_room (Nat.le_of_ble_eq_true rfl)) dX7_share_68 ⟨Nat.le_refl _, Nat.le_refl _⟩) hh (fun H locs hh => ?_)
        refine lv_imul hx hb dX7_share_71 ?_
        refine lv_istore (lv' := [(7, .int (q4 * q5)), (6, .int q3), (0, .ref (g.2.2 66)), (1, .int x1), (2, .int x2), (3, .long x3), (5, .int x5)]) hx hb dX7_share_72 hl (by decide) rfl (fun ls hl => ?_)
        refine lv_lload_n hx hb dX7_share_74 rfl (lv_at hl 5 rfl) ?_
        refine lv_iload hx hb dX7_share_75 (lv_at hl 0 rfl) ?_
        refine lv_i2l hx hb dX7_share_77 rfl ?_
        refine lv_aload_n hx hb dX7_share_78 rfl (lv_at hl 2 rfl) ?_
        refine lv_iload hx hb dX7_share_79 (lv_at hl 6 rfl) ?_
        refine lv_iconst (v := (nI 1)) hx hb dX7_share_81 (by decide) ?_
        refine lv_iload_n hx hb dX7_share_82 rfl (lv_at hl 3 rfl) ?_
        refine lv_ishl hx hb dX7_share_83 ?_
        refine lv_ior hx hb dX7_share_84 ?_
        obtain ⟨q6, h_q6, hf⟩ := z_bd hf
        refine z_mi (va_runV (As := [.int (x5 ||| ((nI 1) <<< (x1 &&& 31)))]) (rest := [.long (((q4 * q5)).toInt64), .long x3]) ⟨hx, hb, hml, hown, hts⟩ (zcX7_valueOf l g A σ τ N (x5 ||| ((nI 1) <<< (x1 &&& 31))) h_q6) (cwV 1 hts gX7_share_X7_valueOf rfl rfl rfl hdX7_valueOf ⟨by decide, by decide⟩) (z_preV E hh (by decide) (zC_obj (q := 66) rfl) rfl) rfl rfl hl.1 rfl (lv_room (Nat.le_of_ble_eq_true rfl)) dX7_share_85 ⟨Nat.le_refl _, Nat.le_refl _⟩) hh (fun H locs hh => ?_)
        refine lv_aload_n hx hb dX7_share_88 rfl (lv_at hl 2 rfl) ?_
        refine lv_iload hx hb dX7_share_89 (lv_at hl 6 rfl) ?_
        obtain ⟨q7, h_q7, hf⟩ := z_bd hf
        refine z_mi (va_runV (As := [.int x5]) (rest := [.int q6.1, .long (((q4 * q5)).toInt64), .long x3]) ⟨hx, hb, hml, hown, hts⟩ (zcX7_valueOf l g A σ q6.2 N x5 h_q7) (cwV 1 hts gX7_share_X7_valueOf rfl rfl rfl hdX7_valueOf ⟨by decide, by decide⟩) (z_preV E hh (by decide) (zC_obj (q := 66) rfl) rfl) rfl rfl hl.1 rfl (lv_room (Nat.le_of_ble_eq_true rfl)) dX7_share_91 ⟨Nat.le_refl _, Nat.le_refl _⟩) hh (fun H locs hh => ?_)
        refine lv_isub hx hb dX7_share_94 ?_
        refine lv_i2l hx hb dX7_share_95 rfl ?_
        refine lv_lmul hx hb dX7_share_96 ?_
        refine lv_ladd hx hb dX7_share_97 ?_
        obtain ⟨v8, e_v8, hf⟩ := z_lt hf
        refine z_topl e_v8 ?_
        refine lv_lstore_n (lv' := [(3, .long v8), (7, .int (q4 * q5)), (6, .int q3), (0, .ref (g.2.2 66)), (1, .int x1), (2, .int x2), (5, .int x5)]) hx hb dX7_share_98 rfl hl (by decide) rfl (fun ls hl => ?_)
        exact (hX7_share_99 C E N (fX7_share_27 N k_105 n) ih k_105 hk_105) x1 x2 v8 x5 q7.2 _ _ _ hf hh (lv_sub hl [3, 4, 5, 0, 6] rfl)
def fX7_share_18 (N : Nat)  (τ : zS) : Option (Int64 × zS) :=
  some ((-1), τ)
set_option maxRecDepth 100000 in
set_option maxHeartbeats 4000000 in
theorem hX7_share_18 {p : Program} {l : Launch} {e : Env} {s : State} {m : MethodId} {args : Array Value} {below : List Frame} {meth : Method} {c : Code} {g : zG} {A : Nat → Prop} {σ : zS} {res : Int64 × zS} (C : zCx p s m args meth c cX7_share (some .long) wsX7_share RX7 8) (E : zE g A s) (N : Nat) : PX7_share_18 p l e s m args below meth c g A σ res (fX7_share_18 N) := by
  obtain ⟨hx, hb, hr, hml, hown, hts, hlocks⟩ := id C
  intro τ H locs ls hf hh hl
  unfold fX7_share_18 at hf
  refine lv_ldc2 (v := (-1)) hx hb hown (hts (.constantLong RX7 258 (-1)) (List.mem_cons_of_mem _ (List.mem_append_left _ (List.mem_append_left _ (List.mem_of_getElem? (i := 0) rfl))))) dX7_share_18 ?_
  have hf := Option.some.inj hf
  subst hf
  exact z_lretM hx hb hr hlocks hh dX7_share_21
def fX7_share (N : Nat) (τ : zS) (x1 : Int32) (x2 : Int32) : Option (Int64 × zS) :=
  (fX7_isBeast N τ x1).bind fun q1 =>
  if q1 = 0 then
    (fX7_share_18 N) τ
  else
    (fX7_in N x2.toInt64 0 1).bind fun q3 =>
    if q3 = 0 then
      (fX7_share_18 N) τ
    else
      (fX7_share_27 N (fX7_share_105 N) N) x1 x2 0 (nI 0) τ
set_option maxRecDepth 100000 in
set_option maxHeartbeats 4000000 in
theorem zcX7_share (l : Launch) (g : zG) (A : Nat → Prop) (σ τ : zS) (N : Nat) (x1 : Int32) (x2 : Int32)  {res : Int64 × zS} (hf : fX7_share N τ x1 x2 = some res) : Met l yX7_share wsX7_share (zR 6) (zPc g A σ τ [.ref (g.2.2 66), .int x1, .int x2]) (zPl g A σ res) 0 0 A := by
  refine z_met (cc := cX7_share) (ret := (some .long)) (own := RX7) (by decide) rfl rfl _ (Nat.le_of_ble_eq_true rfl) ?_
  intro p e s m below meth c C E ls hl hh
  have hl : lv_has ls 8 [(0, .ref (g.2.2 66)), (1, .int x1), (2, .int x2)] := hl
  obtain ⟨hx, hb, hr, hml, hown, hts, hlocks⟩ := id C
  unfold fX7_share at hf
  refine lv_aload_n hx hb dX7_share_0 rfl (lv_at hl 0 rfl) ?_
  refine lv_iload_n hx hb dX7_share_1 rfl (lv_at hl 1 rfl) ?_
  obtain ⟨q1, h_q1, hf⟩ := z_bd hf
  refine z_mi (va_runV (As := [.int x1]) (rest := []) ⟨hx, hb, hml, hown, hts⟩ (zcX7_isBeast l g A σ τ N x1 h_q1) (cwV 1 hts gX7_share_X7_isBeast rfl rfl rfl hdX7_isBeast ⟨by decide, by decide⟩) (z_preV E hh (by decide) (zC_obj (q := 66) rfl) rfl) rfl rfl hl.1 rfl (lv_room (Nat.le_of_ble_eq_true rfl)) dX7_share_2 ⟨Nat.le_refl _, Nat.le_refl _⟩) hh (fun H locs hh => ?_)
  refine lv_if_eq (tgt := 18) hx hb dX7_share_5 (by decide) (fun c_v2 => ?_) (fun c_v2 => ?_)
  · have hf := z_ip hf c_v2
    exact (hX7_share_18 C E N) τ _ _ _ hf hh (lv_sub hl [] rfl)
  · have hf := z_in hf c_v2
    refine lv_iload_n hx hb dX7_share_8 rfl (lv_at hl 2 rfl) ?_
    refine lv_i2l hx hb dX7_share_9 rfl ?_
    refine lv_lconst (v := 0) hx hb dX7_share_10 (by decide) ?_
    refine lv_lconst (v := 1) hx hb dX7_share_11 (by decide) ?_
    obtain ⟨q3, h_q3, hf⟩ := z_bd hf
    refine z_mi (va_runS (As := [.long x2.toInt64, .long 0, .long 1]) (rest := []) ⟨hx, hb, hml, hown, hts⟩ (zcX7_in l g A σ τ N x2.toInt64 0 1 h_q3) (va_cwS 3 hts gX7_share_X7_in rfl rfl rfl hdX7_in.2 ⟨by decide, by decide⟩) (z_preS E hh) rfl rfl hl.1 rfl (lv_room (Nat.le_of_ble_eq_true rfl)) dX7_share_12 ⟨Nat.le_refl _, Nat.le_refl _⟩) hh (fun H locs hh => ?_)
    refine lv_if_ne (tgt := 22) hx hb dX7_share_15 (by decide) (fun c_v4 => ?_) (fun c_v4 => ?_)
    · have hf := z_in hf c_v4
      refine lv_lconst (v := 0) hx hb dX7_share_22 (by decide) ?_
      refine lv_lstore_n (lv' := [(3, .long 0), (0, .ref (g.2.2 66)), (1, .int x1), (2, .int x2)]) hx hb dX7_share_23 rfl hl (by decide) rfl (fun ls hl => ?_)
      refine lv_iconst (v := (nI 0)) hx hb dX7_share_24 (by decide) ?_
      refine lv_istore (lv' := [(5, .int (nI 0)), (3, .long 0), (0, .ref (g.2.2 66)), (1, .int x1), (2, .int x2)]) hx hb dX7_share_25 hl (by decide) rfl (fun ls hl => ?_)
      exact (hX7_share_27 C E N (fX7_share_105 N) (hX7_share_105 C E N) N) x1 x2 0 (nI 0) τ _ _ _ hf hh (lv_sub hl [2, 3, 4, 1, 0] rfl)
    · have hf := z_ip hf c_v4
      exact (hX7_share_18 C E N) τ _ _ _ hf hh (lv_sub hl [] rfl)
/-! ===== X7_byHoarse ===== -/
theorem hdX7_byHoarse : yX7_byHoarse.cls = RX7 ∧ yX7_byHoarse.cls ≠ "java/lang/invoke/MethodHandle" ∧ yX7_byHoarse.cls ≠ "java/lang/invoke/VarHandle" ∧ (parseMethodDescriptor yX7_byHoarse.desc).map (fun d => d.parameters.length) = some 3 := by decide +kernel
def PX7_byHoarse_149 (p : Program) (l : Launch) (e : Env) (s : State) (m : MethodId) (args : Array Value) (below : List Frame) (meth : Method) (c : Code) (g : zG) (A : Nat → Prop) (σ τ : zS) (res : Int64) (f : Int32 → Int64 → Int64 → Option (Int64)) : Prop := ∀ (x3 : Int32) (x5 : Int64) (x7 : Int64) (H : Heap) (locs : List Loc) (ls : Array Slot), f x3 x5 x7 = some res → zW g A σ τ s H locs → lv_has ls 13 [(3, .int x3), (5, .long x5), (7, .long x7)] → W p l e (zR 1) s m args below meth c H locs 0 0 (MQ below (zPl g A σ (res, τ)) args s 0 0 A) (F0 m 149 ls [])
def PX7_byHoarse_138 (p : Program) (l : Launch) (e : Env) (s : State) (m : MethodId) (args : Array Value) (below : List Frame) (meth : Method) (c : Code) (g : zG) (A : Nat → Prop) (σ τ : zS) (res : Int64) (f : Int32 → Int32 → Int32 → Int32 → Int64 → Int32 → Int32 → Int64 → Int64 → Option (Int64)) : Prop := ∀ (x1 : Int32) (x2 : Int32) (x3 : Int32) (x4 : Int32) (x7 : Int64) (x9 : Int32) (s0 : Int32) (s1 : Int64) (s2 : Int64) (H : Heap) (locs : List Loc) (ls : Array Slot), f x1 x2 x3 x4 x7 x9 s0 s1 s2 = some res → zW g A σ τ s H locs → lv_has ls 13 [(0, .ref (g.2.2 66)), (1, .int x1), (2, .int x2), (3, .int x3), (4, .int x4), (7, .long x7), (9, .int x9)] → W p l e (zR 1) s m args below meth c H locs 0 0 (MQ below (zPl g A σ (res, τ)) args s 0 0 A) (F0 m 138 ls [.int s0, .long s1, .long s2])
def PX7_byHoarse_96 (p : Program) (l : Launch) (e : Env) (s : State) (m : MethodId) (args : Array Value) (below : List Frame) (meth : Method) (c : Code) (g : zG) (A : Nat → Prop) (σ τ : zS) (res : Int64) (f : Int32 → Int32 → Int32 → Int32 → Int64 → Int64 → Int32 → Int64 → Option (Int64)) : Prop := ∀ (x1 : Int32) (x2 : Int32) (x3 : Int32) (x4 : Int32) (x5 : Int64) (x7 : Int64) (x9 : Int32) (x10 : Int64) (H : Heap) (locs : List Loc) (ls : Array Slot), f x1 x2 x3 x4 x5 x7 x9 x10 = some res → zW g A σ τ s H locs → lv_has ls 13 [(0, .ref (g.2.2 66)), (1, .int x1), (2, .int x2), (3, .int x3), (4, .int x4), (5, .long x5), (7, .long x7), (9, .int x9), (10, .long x10)] → W p l e (zR 1) s m args below meth c H locs 0 0 (MQ below (zPl g A σ (res, τ)) args s 0 0 A) (F0 m 96 ls [])
def PX7_byHoarse_87 (p : Program) (l : Launch) (e : Env) (s : State) (m : MethodId) (args : Array Value) (below : List Frame) (meth : Method) (c : Code) (g : zG) (A : Nat → Prop) (σ τ : zS) (res : Int64) (f : Int32 → Int32 → Int32 → Int32 → Int64 → Int64 → Int32 → Int32 → Int64 → Int64 → Option (Int64)) : Prop := ∀ (x1 : Int32) (x2 : Int32) (x3 : Int32) (x4 : Int32) (x5 : Int64) (x7 : Int64) (x9 : Int32) (x12 : Int32) (s0 : Int64) (s1 : Int64) (H : Heap) (locs : List Loc) (ls : Array Slot), f x1 x2 x3 x4 x5 x7 x9 x12 s0 s1 = some res → zW g A σ τ s H locs → lv_has ls 13 [(0, .ref (g.2.2 66)), (1, .int x1), (2, .int x2), (3, .int x3), (4, .int x4), (5, .long x5), (7, .long x7), (9, .int x9), (12, .int x12)] → W p l e (zR 1) s m args below meth c H locs 0 0 (MQ below (zPl g A σ (res, τ)) args s 0 0 A) (F0 m 87 ls [.long s0, .long s1])
def PX7_byHoarse_57 (p : Program) (l : Launch) (e : Env) (s : State) (m : MethodId) (args : Array Value) (below : List Frame) (meth : Method) (c : Code) (g : zG) (A : Nat → Prop) (σ τ : zS) (res : Int64) (f : Int32 → Int32 → Int32 → Int32 → Int64 → Int64 → Int32 → Int64 → Int32 → Option (Int64)) : Prop := ∀ (x1 : Int32) (x2 : Int32) (x3 : Int32) (x4 : Int32) (x5 : Int64) (x7 : Int64) (x9 : Int32) (x10 : Int64) (x12 : Int32) (H : Heap) (locs : List Loc) (ls : Array Slot), f x1 x2 x3 x4 x5 x7 x9 x10 x12 = some res → zW g A σ τ s H locs → lv_has ls 13 [(0, .ref (g.2.2 66)), (1, .int x1), (2, .int x2), (3, .int x3), (4, .int x4), (5, .long x5), (7, .long x7), (9, .int x9), (10, .long x10), (12, .int x12)] → W p l e (zR 1) s m args below meth c H locs 0 0 (MQ below (zPl g A σ (res, τ)) args s 0 0 A) (F0 m 57 ls [])
def PX7_byHoarse_42 (p : Program) (l : Launch) (e : Env) (s : State) (m : MethodId) (args : Array Value) (below : List Frame) (meth : Method) (c : Code) (g : zG) (A : Nat → Prop) (σ τ : zS) (res : Int64) (f : Int32 → Int32 → Int32 → Int32 → Int64 → Int64 → Int32 → Option (Int64)) : Prop := ∀ (x1 : Int32) (x2 : Int32) (x3 : Int32) (x4 : Int32) (x5 : Int64) (x7 : Int64) (x9 : Int32) (H : Heap) (locs : List Loc) (ls : Array Slot), f x1 x2 x3 x4 x5 x7 x9 = some res → zW g A σ τ s H locs → lv_has ls 13 [(0, .ref (g.2.2 66)), (1, .int x1), (2, .int x2), (3, .int x3), (4, .int x4), (5, .long x5), (7, .long x7), (9, .int x9)] → W p l e (zR 1) s m args below meth c H locs 0 0 (MQ below (zPl g A σ (res, τ)) args s 0 0 A) (F0 m 42 ls [])
def PX7_byHoarse_39 (p : Program) (l : Launch) (e : Env) (s : State) (m : MethodId) (args : Array Value) (below : List Frame) (meth : Method) (c : Code) (g : zG) (A : Nat → Prop) (σ τ : zS) (res : Int64) (f : Int32 → Int32 → Int32 → Int32 → Int64 → Int64 → Option (Int64)) : Prop := ∀ (x1 : Int32) (x2 : Int32) (x3 : Int32) (x4 : Int32) (x5 : Int64) (x7 : Int64) (H : Heap) (locs : List Loc) (ls : Array Slot), f x1 x2 x3 x4 x5 x7 = some res → zW g A σ τ s H locs → lv_has ls 13 [(0, .ref (g.2.2 66)), (1, .int x1), (2, .int x2), (3, .int x3), (4, .int x4), (5, .long x5), (7, .long x7)] → W p l e (zR 1) s m args below meth c H locs 0 0 (MQ below (zPl g A σ (res, τ)) args s 0 0 A) (F0 m 39 ls [])
def PX7_byHoarse_18 (p : Program) (l : Launch) (e : Env) (s : State) (m : MethodId) (args : Array Value) (below : List Frame) (meth : Method) (c : Code) (g : zG) (A : Nat → Prop) (σ τ : zS) (res : Int64) (f : Int32 → Int32 → Int32 → Int32 → Int64 → Int64 → Int32 → Option (Int64)) : Prop := ∀ (x1 : Int32) (x2 : Int32) (x3 : Int32) (x4 : Int32) (x5 : Int64) (x7 : Int64) (x9 : Int32) (H : Heap) (locs : List Loc) (ls : Array Slot), f x1 x2 x3 x4 x5 x7 x9 = some res → zW g A σ τ s H locs → lv_has ls 13 [(0, .ref (g.2.2 66)), (1, .int x1), (2, .int x2), (3, .int x3), (4, .int x4), (5, .long x5), (7, .long x7), (9, .int x9)] → W p l e (zR 1) s m args below meth c H locs 0 0 (MQ below (zPl g A σ (res, τ)) args s 0 0 A) (F0 m 18 ls [])
def fX7_byHoarse_149 (N : Nat) (τ : zS) (x3 : Int32) (x5 : Int64) (x7 : Int64) : Option (Int64) :=
  (fX7_lowest N x5 x7 x3).bind fun q1 =>
  some q1
set_option maxRecDepth 100000 in
set_option maxHeartbeats 4000000 in
theorem hX7_byHoarse_149 {p : Program} {l : Launch} {e : Env} {s : State} {m : MethodId} {args : Array Value} {below : List Frame} {meth : Method} {c : Code} {g : zG} {A : Nat → Prop} {σ τ : zS} {res : Int64} (C : zCx p s m args meth c cX7_byHoarse (some .long) wsX7_byHoarse RX7 13) (E : zE g A s) (N : Nat) : PX7_byHoarse_149 p l e s m args below meth c g A σ τ res (fX7_byHoarse_149 N τ) := by
  obtain ⟨hx, hb, hr, hml, hown, hts, hlocks⟩ := id C
  intro x3 x5 x7 H locs ls hf hh hl
  unfold fX7_byHoarse_149 at hf
  refine lv_lload hx hb dX7_byHoarse_149 (lv_at hl 1 rfl) ?_
  refine lv_lload hx hb dX7_byHoarse_151 (lv_at hl 2 rfl) ?_
  refine lv_iload_n hx hb dX7_byHoarse_153 rfl (lv_at hl 0 rfl) ?_
  obtain ⟨q1, h_q1, hf⟩ := z_bd hf
  refine z_ml (va_runS (As := [.long x5, .long x7, .int x3]) (rest := []) ⟨hx, hb, hml, hown, hts⟩ (zcX7_lowest l g A σ τ N x5 x7 x3 h_q1) (va_cwS 3 hts gX7_byHoarse_X7_lowest rfl rfl rfl hdX7_lowest.2 ⟨by decide, by decide⟩) (z_preS E hh) rfl rfl hl.1 rfl (lv_room (Nat.le_of_ble_eq_true rfl)) dX7_byHoarse_154 ⟨Nat.le_refl _, Nat.le_refl _⟩) hh (fun H locs hh => ?_)
  have hf := Option.some.inj hf
  subst hf
  exact z_lretM hx hb hr hlocks hh dX7_byHoarse_157
def fX7_byHoarse_138 (N : Nat) (τ : zS) (rc : Int32 → Int32 → Int32 → Int32 → Int64 → Int64 → Int32 → Option (Int64)) (k_149 : Int32 → Int64 → Int64 → Option (Int64)) (x1 : Int32) (x2 : Int32) (x3 : Int32) (x4 : Int32) (x7 : Int64) (x9 : Int32) (s0 : Int32) (s1 : Int64) (s2 : Int64) : Option (Int64) :=
  zlet (s2 + (s1 * s0.toInt64)) fun v1 =>
  rc x1 x2 x3 x4 v1 x7 (x9 + (nI 1))
set_option maxRecDepth 100000 in
set_option maxHeartbeats 4000000 in
theorem hX7_byHoarse_138 {p : Program} {l : Launch} {e : Env} {s : State} {m : MethodId} {args : Array Value} {below : List Frame} {meth : Method} {c : Code} {g : zG} {A : Nat → Prop} {σ τ : zS} {res : Int64} (C : zCx p s m args meth c cX7_byHoarse (some .long) wsX7_byHoarse RX7 13) (E : zE g A s) (N : Nat) (rc : Int32 → Int32 → Int32 → Int32 → Int64 → Int64 → Int32 → Option (Int64)) (hrc : PX7_byHoarse_42 p l e s m args below meth c g A σ τ res rc) (k_149 : Int32 → Int64 → Int64 → Option (Int64)) (hk_149 : PX7_byHoarse_149 p l e s m args below meth c g A σ τ res k_149) : PX7_byHoarse_138 p l e s m args below meth c g A σ τ res (fX7_byHoarse_138 N τ rc k_149) := by
  obtain ⟨hx, hb, hr, hml, hown, hts, hlocks⟩ := id C
  intro x1 x2 x3 x4 x7 x9 s0 s1 s2 H locs ls hf hh hl
  unfold fX7_byHoarse_138 at hf
  refine lv_i2l hx hb dX7_byHoarse_138 rfl ?_
  refine lv_lmul hx hb dX7_byHoarse_139 ?_
  refine lv_ladd hx hb dX7_byHoarse_140 ?_
  obtain ⟨v1, e_v1, hf⟩ := z_lt hf
  refine z_topl e_v1 ?_
  refine lv_lstore (lv' := [(5, .long v1), (0, .ref (g.2.2 66)), (1, .int x1), (2, .int x2), (3, .int x3), (4, .int x4), (7, .long x7), (9, .int x9)]) hx hb dX7_byHoarse_141 hl (by decide) rfl (fun ls hl => ?_)
  refine lv_iinc (v := (x9 + (nI 1))) (lv' := [(9, .int (x9 + (nI 1))), (5, .long v1), (0, .ref (g.2.2 66)), (1, .int x1), (2, .int x2), (3, .int x3), (4, .int x4), (7, .long x7)]) hx hb dX7_byHoarse_143 hl (k := 7) rfl rfl (by decide) rfl (fun ls hl => ?_)
  refine lv_goto (tgt := 42) hx hb dX7_byHoarse_146 (by decide) ?_
  exact hrc x1 x2 x3 x4 v1 x7 (x9 + (nI 1)) _ _ _ hf hh (lv_sub hl [2, 3, 4, 5, 6, 1, 7, 0] rfl)
def fX7_byHoarse_96 (N : Nat) (τ : zS) (rc : Int32 → Int32 → Int32 → Int32 → Int64 → Int64 → Int32 → Option (Int64)) (k_149 : Int32 → Int64 → Int64 → Option (Int64)) (x1 : Int32) (x2 : Int32) (x3 : Int32) (x4 : Int32) (x5 : Int64) (x7 : Int64) (x9 : Int32) (x10 : Int64) : Option (Int64) :=
  (fX7_noiseBy N τ x9).bind fun q1 =>
  (fX7_fleeBy N τ q1).bind fun q2 =>
  (fX7_bitsOf N q2).bind fun q3 =>
  if x2 = 0 then
    if q3 = (τ.1 66 2) then
      (fX7_byHoarse_138 N τ rc k_149) x1 x2 x3 x4 x7 x9 (nI 1) x10 x5
    else
      (fX7_byHoarse_138 N τ rc k_149) x1 x2 x3 x4 x7 x9 (nI 0) x10 x5
  else
    (fX7_byHoarse_138 N τ rc k_149) x1 x2 x3 x4 x7 x9 q3 x10 x5
set_option maxRecDepth 100000 in
set_option maxHeartbeats 4000000 in
theorem hX7_byHoarse_96 {p : Program} {l : Launch} {e : Env} {s : State} {m : MethodId} {args : Array Value} {below : List Frame} {meth : Method} {c : Code} {g : zG} {A : Nat → Prop} {σ τ : zS} {res : Int64} (C : zCx p s m args meth c cX7_byHoarse (some .long) wsX7_byHoarse RX7 13) (E : zE g A s) (N : Nat) (rc : Int32 → Int32 → Int32 → Int32 → Int64 → Int64 → Int32 → Option (Int64)) (hrc : PX7_byHoarse_42 p l e s m args below meth c g A σ τ res rc) (k_149 : Int32 → Int64 → Int64 → Option (Int64)) (hk_149 : PX7_byHoarse_149 p l e s m args below meth c g A σ τ res k_149) : PX7_byHoarse_96 p l e s m args below meth c g A σ τ res (fX7_byHoarse_96 N τ rc k_149) := by
  obtain ⟨hx, hb, hr, hml, hown, hts, hlocks⟩ := id C
  intro x1 x2 x3 x4 x5 x7 x9 x10 H locs ls hf hh hl
  unfold fX7_byHoarse_96 at hf
  refine lv_aload_n hx hb dX7_byHoarse_96 rfl (lv_at hl 0 rfl) ?_
  refine lv_aload_n hx hb dX7_byHoarse_97 rfl (lv_at hl 0 rfl) ?_
  refine lv_iload hx hb dX7_byHoarse_98 (lv_at hl 7 rfl) ?_
  obtain ⟨q1, h_q1, hf⟩ := z_bd hf
  refine z_mi (va_runV (As := [.int x9]) (rest := [.ref (g.2.2 66)]) ⟨hx, hb, hml, hown, hts⟩ (zcX7_noiseBy l g A σ τ N x9 h_q1) (cwV 1 hts gX7_byHoarse_X7_noiseBy rfl rfl rfl hdX7_noiseBy ⟨by decide, by decide⟩) (z_preV E hh (by decide) (zC_obj (q := 66) rfl) rfl) rfl rfl hl.1 rfl (lv_room (Nat.le_of_ble_eq_true rfl)) dX7_byHoarse_100 ⟨Nat.le_refl _, Nat.le_refl _⟩) hh (fun H locs hh => ?_)
  obtain ⟨q2, h_q2, hf⟩ := z_bd hf
  refine z_mi (va_runV (As := [.int q1]) (rest := []) ⟨hx, hb, hml, hown, hts⟩ (zcX7_fleeBy l g A σ τ N q1 h_q2) (cwV 1 hts gX7_byHoarse_X7_fleeBy rfl rfl rfl hdX7_fleeBy ⟨by decide, by decide⟩) (z_preV E hh (by decide) (zC_obj (q := 66) rfl) rfl) rfl rfl hl.1 rfl (lv_room (Nat.le_of_ble_eq_true rfl)) dX7_byHoarse_103 ⟨Nat.le_refl _, Nat.le_refl _⟩) hh (fun H locs hh => ?_)
  obtain ⟨q3, h_q3, hf⟩ := z_bd hf
  refine z_mi (va_runS (As := [.int q2]) (rest := []) ⟨hx, hb, hml, hown, hts⟩ (zcX7_bitsOf l g A σ τ N q2 h_q3) (va_cwS 1 hts gX7_byHoarse_X7_bitsOf rfl rfl rfl hdX7_bitsOf.2 ⟨by decide, by decide⟩) (z_preS E hh) rfl rfl hl.1 rfl (lv_room (Nat.le_of_ble_eq_true rfl)) dX7_byHoarse_106 ⟨Nat.le_refl _, Nat.le_refl _⟩) hh (fun H locs hh => ?_)
  refine lv_istore (lv' := [(12, .int q3), (0, .ref (g.2.2 66)), (1, .int x1), (2, .int x2), (3, .int x3), (4, .int x4), (5, .long x5), (7, .long x7), (9, .int x9), (10, .long x10)]) hx hb dX7_byHoarse_109 hl (by decide) rfl (fun ls hl => ?_)
  refine lv_lload hx hb dX7_byHoarse_111 (lv_at hl 6 rfl) ?_
  refine lv_lload hx hb dX7_byHoarse_113 (lv_at hl 9 rfl) ?_
  refine lv_iload_n hx hb dX7_byHoarse_115 rfl (lv_at hl 3 rfl) ?_
  refine lv_if_eq (tgt := 124) hx hb dX7_byHoarse_116 (by decide) (fun c_v4 => ?_) (fun c_v4 => ?_)
  · have hf := z_ip hf c_v4
    refine lv_iload hx hb dX7_byHoarse_124 (lv_at hl 0 rfl) ?_
    refine lv_aload_n hx hb dX7_byHoarse_126 rfl (lv_at hl 1 rfl) ?_
    refine z_get (v := .int (τ.1 66 2)) hx hb hts (fun w h => List.mem_cons_of_mem _ (List.mem_append_right _ (h))) hown E hh (by decide) (zC_obj (q := 66) rfl) rfl 2 (by decide) (hts (.fieldLink RX7 144 "TownBandModel" "robberMany" "I") (List.mem_cons_of_mem _ (List.mem_append_left _ (List.mem_of_getElem? (i := 2) rfl)))) rfl dX7_byHoarse_127 ?_
    refine lv_icmp_ne (tgt := 137) hx hb dX7_byHoarse_130 (by decide) (fun c_v5 => ?_) (fun c_v5 => ?_)
    · have hf := z_in hf c_v5
      refine lv_iconst (v := (nI 0)) hx hb dX7_byHoarse_137 (by decide) ?_
      exact (hX7_byHoarse_138 C E N rc hrc k_149 hk_149) x1 x2 x3 x4 x7 x9 (nI 0) x10 x5 _ _ _ hf hh (lv_sub hl [1, 2, 3, 4, 5, 7, 8] rfl)
    · have hf := z_ip hf c_v5
      refine lv_iconst (v := (nI 1)) hx hb dX7_byHoarse_133 (by decide) ?_
      refine lv_goto (tgt := 138) hx hb dX7_byHoarse_134 (by decide) ?_
      exact (hX7_byHoarse_138 C E N rc hrc k_149 hk_149) x1 x2 x3 x4 x7 x9 (nI 1) x10 x5 _ _ _ hf hh (lv_sub hl [1, 2, 3, 4, 5, 7, 8] rfl)
  · have hf := z_in hf c_v4
    refine lv_iload hx hb dX7_byHoarse_119 (lv_at hl 0 rfl) ?_
    refine lv_goto (tgt := 138) hx hb dX7_byHoarse_121 (by decide) ?_
    exact (hX7_byHoarse_138 C E N rc hrc k_149 hk_149) x1 x2 x3 x4 x7 x9 q3 x10 x5 _ _ _ hf hh (lv_sub hl [1, 2, 3, 4, 5, 7, 8] rfl)
def fX7_byHoarse_87 (N : Nat) (τ : zS) (rc : Int32 → Int32 → Int32 → Int32 → Int64 → Int64 → Int32 → Int64 → Int32 → Option (Int64)) (k_96 : Int32 → Int32 → Int32 → Int32 → Int64 → Int64 → Int32 → Int64 → Option (Int64)) (x1 : Int32) (x2 : Int32) (x3 : Int32) (x4 : Int32) (x5 : Int64) (x7 : Int64) (x9 : Int32) (x12 : Int32) (s0 : Int64) (s1 : Int64) : Option (Int64) :=
  rc x1 x2 x3 x4 x5 x7 x9 (s1 * s0) (x12 + (nI 1))
set_option maxRecDepth 100000 in
set_option maxHeartbeats 4000000 in
theorem hX7_byHoarse_87 {p : Program} {l : Launch} {e : Env} {s : State} {m : MethodId} {args : Array Value} {below : List Frame} {meth : Method} {c : Code} {g : zG} {A : Nat → Prop} {σ τ : zS} {res : Int64} (C : zCx p s m args meth c cX7_byHoarse (some .long) wsX7_byHoarse RX7 13) (E : zE g A s) (N : Nat) (rc : Int32 → Int32 → Int32 → Int32 → Int64 → Int64 → Int32 → Int64 → Int32 → Option (Int64)) (hrc : PX7_byHoarse_57 p l e s m args below meth c g A σ τ res rc) (k_96 : Int32 → Int32 → Int32 → Int32 → Int64 → Int64 → Int32 → Int64 → Option (Int64)) (hk_96 : PX7_byHoarse_96 p l e s m args below meth c g A σ τ res k_96) : PX7_byHoarse_87 p l e s m args below meth c g A σ τ res (fX7_byHoarse_87 N τ rc k_96) := by
  obtain ⟨hx, hb, hr, hml, hown, hts, hlocks⟩ := id C
  intro x1 x2 x3 x4 x5 x7 x9 x12 s0 s1 H locs ls hf hh hl
  unfold fX7_byHoarse_87 at hf
  refine lv_lmul hx hb dX7_byHoarse_87 ?_
  refine lv_lstore (lv' := [(10, .long (s1 * s0)), (0, .ref (g.2.2 66)), (1, .int x1), (2, .int x2), (3, .int x3), (4, .int x4), (5, .long x5), (7, .long x7), (9, .int x9), (12, .int x12)]) hx hb dX7_byHoarse_88 hl (by decide) rfl (fun ls hl => ?_)
  refine lv_iinc (v := (x12 + (nI 1))) (lv' := [(12, .int (x12 + (nI 1))), (10, .long (s1 * s0)), (0, .ref (g.2.2 66)), (1, .int x1), (2, .int x2), (3, .int x3), (4, .int x4), (5, .long x5), (7, .long x7), (9, .int x9)]) hx hb dX7_byHoarse_90 hl (k := 9) rfl rfl (by decide) rfl (fun ls hl => ?_)
  refine lv_goto (tgt := 57) hx hb dX7_byHoarse_93 (by decide) ?_
  exact hrc x1 x2 x3 x4 x5 x7 x9 (s1 * s0) (x12 + (nI 1)) _ _ _ hf hh (lv_sub hl [2, 3, 4, 5, 6, 7, 8, 9, 1, 0] rfl)
def fX7_byHoarse_57 (N : Nat) (τ : zS) (k_96 : Int32 → Int32 → Int32 → Int32 → Int64 → Int64 → Int32 → Int64 → Option (Int64)) : Nat → Int32 → Int32 → Int32 → Int32 → Int64 → Int64 → Int32 → Int64 → Int32 → Option (Int64)
  | 0, _, _, _, _, _, _, _, _, _ => none
  | n + 1, x1, x2, x3, x4, x5, x7, x9, x10, x12 =>
    if x4 ≤ x12 then
      k_96 x1 x2 x3 x4 x5 x7 x9 x10
    else
      if ((x9 >>> (x12 &&& 31)) &&& (nI 1)) = (nI 1) then
        (fX7_byHoarse_87 N τ (fX7_byHoarse_57 N τ k_96 n) k_96) x1 x2 x3 x4 x5 x7 x9 x12 x1.toInt64 x10
      else
        (fX7_byHoarse_87 N τ (fX7_byHoarse_57 N τ k_96 n) k_96) x1 x2 x3 x4 x5 x7 x9 x12 ((((nI 10) - x1)).toInt64) x10
set_option maxRecDepth 100000 in
set_option maxHeartbeats 4000000 in
theorem hX7_byHoarse_57 {p : Program} {l : Launch} {e : Env} {s : State} {m : MethodId} {args : Array Value} {below : List Frame} {meth : Method} {c : Code} {g : zG} {A : Nat → Prop} {σ τ : zS} {res : Int64} (C : zCx p s m args meth c cX7_byHoarse (some .long) wsX7_byHoarse RX7 13) (E : zE g A s) (N : Nat) (k_96 : Int32 → Int32 → Int32 → Int32 → Int64 → Int64 → Int32 → Int64 → Option (Int64)) (hk_96 : PX7_byHoarse_96 p l e s m args below meth c g A σ τ res k_96) : ∀ n : Nat, PX7_byHoarse_57 p l e s m args below meth c g A σ τ res (fX7_byHoarse_57 N τ k_96 n) := by
  obtain ⟨hx, hb, hr, hml, hown, hts, hlocks⟩ := id C
  intro n
  induction n with
  | zero =>
    intro x1 x2 x3 x4 x5 x7 x9 x10 x12 H locs ls hf
    exact absurd hf (by simp [fX7_byHoarse_57])
  | succ n ih =>
    intro x1 x2 x3 x4 x5 x7 x9 x10 x12 H locs ls hf hh hl
    rw [fX7_byHoarse_57] at hf
    refine lv_iload hx hb dX7_byHoarse_57 (lv_at hl 9 rfl) ?_
    refine lv_iload hx hb dX7_byHoarse_59 (lv_at hl 4 rfl) ?_
    refine lv_icmp_ge (tgt := 96) hx hb dX7_byHoarse_61 (by decide) (fun c_v1 => ?_) (fun c_v1 => ?_)
    · have hf := z_ip hf c_v1
      exact hk_96 x1 x2 x3 x4 x5 x7 x9 x10 _ _ _ hf hh (lv_sub hl [0, 1, 2, 3, 4, 5, 6, 7, 8] rfl)
    · have hf := z_in hf c_v1
      refine lv_lload hx hb dX7_byHoarse_64 (lv_at hl 8 rfl) ?_
      refine lv_iload hx hb dX7_byHoarse_66 (lv_at hl 7 rfl) ?_
      refine lv_iload hx hb dX7_byHoarse_68 (lv_at hl 9 rfl) ?_
      refine lv_ishr hx hb dX7_byHoarse_70 ?_
      refine lv_iconst (v := (nI 1)) hx hb dX7_byHoarse_71 (by decide) ?_
      refine lv_iand hx hb dX7_byHoarse_72 ?_
      refine lv_iconst (v := (nI 1)) hx hb dX7_byHoarse_73 (by decide) ?_
      refine lv_icmp_ne (tgt := 82) hx hb dX7_byHoarse_74 (by decide) (fun c_v2 => ?_) (fun c_v2 => ?_)
      · have hf := z_in hf c_v2
        refine lv_bipush (v := (nI 10)) hx hb dX7_byHoarse_82 (by decide) ?_
        refine lv_iload_n hx hb dX7_byHoarse_84 rfl (lv_at hl 1 rfl) ?_
        refine lv_isub hx hb dX7_byHoarse_85 ?_
        refine lv_i2l hx hb dX7_byHoarse_86 rfl ?_
        exact (hX7_byHoarse_87 C E N (fX7_byHoarse_57 N τ k_96 n) ih k_96 hk_96) x1 x2 x3 x4 x5 x7 x9 x12 ((((nI 10) - x1)).toInt64) x10 _ _ _ hf hh (lv_sub hl [0, 1, 2, 3, 4, 5, 6, 7, 9] rfl)
      · have hf := z_ip hf c_v2
        refine lv_iload_n hx hb dX7_byHoarse_77 rfl (lv_at hl 1 rfl) ?_
        refine lv_i2l hx hb dX7_byHoarse_78 rfl ?_
        refine lv_goto (tgt := 87) hx hb dX7_byHoarse_79 (by decide) ?_
        exact (hX7_byHoarse_87 C E N (fX7_byHoarse_57 N τ k_96 n) ih k_96 hk_96) x1 x2 x3 x4 x5 x7 x9 x12 x1.toInt64 x10 _ _ _ hf hh (lv_sub hl [0, 1, 2, 3, 4, 5, 6, 7, 9] rfl)
def fX7_byHoarse_42 (N : Nat) (τ : zS) (k_149 : Int32 → Int64 → Int64 → Option (Int64)) : Nat → Int32 → Int32 → Int32 → Int32 → Int64 → Int64 → Int32 → Option (Int64)
  | 0, _, _, _, _, _, _, _ => none
  | n + 1, x1, x2, x3, x4, x5, x7, x9 =>
    if ((nI 1) <<< (x4 &&& 31)) ≤ x9 then
      k_149 x3 x5 x7
    else
      (fX7_byHoarse_57 N τ (fX7_byHoarse_96 N τ (fX7_byHoarse_42 N τ k_149 n) k_149) N) x1 x2 x3 x4 x5 x7 x9 1 (nI 0)
set_option maxRecDepth 100000 in
set_option maxHeartbeats 4000000 in
theorem hX7_byHoarse_42 {p : Program} {l : Launch} {e : Env} {s : State} {m : MethodId} {args : Array Value} {below : List Frame} {meth : Method} {c : Code} {g : zG} {A : Nat → Prop} {σ τ : zS} {res : Int64} (C : zCx p s m args meth c cX7_byHoarse (some .long) wsX7_byHoarse RX7 13) (E : zE g A s) (N : Nat) (k_149 : Int32 → Int64 → Int64 → Option (Int64)) (hk_149 : PX7_byHoarse_149 p l e s m args below meth c g A σ τ res k_149) : ∀ n : Nat, PX7_byHoarse_42 p l e s m args below meth c g A σ τ res (fX7_byHoarse_42 N τ k_149 n) := by
  obtain ⟨hx, hb, hr, hml, hown, hts, hlocks⟩ := id C
  intro n
  induction n with
  | zero =>
    intro x1 x2 x3 x4 x5 x7 x9 H locs ls hf
    exact absurd hf (by simp [fX7_byHoarse_42])
  | succ n ih =>
    intro x1 x2 x3 x4 x5 x7 x9 H locs ls hf hh hl
    rw [fX7_byHoarse_42] at hf
    refine lv_iload hx hb dX7_byHoarse_42 (lv_at hl 7 rfl) ?_
    refine lv_iconst (v := (nI 1)) hx hb dX7_byHoarse_44 (by decide) ?_
    refine lv_iload hx hb dX7_byHoarse_45 (lv_at hl 4 rfl) ?_
    refine lv_ishl hx hb dX7_byHoarse_47 ?_
    refine lv_icmp_ge (tgt := 149) hx hb dX7_byHoarse_48 (by decide) (fun c_v1 => ?_) (fun c_v1 => ?_)
    · have hf := z_ip hf c_v1
      exact hk_149 x3 x5 x7 _ _ _ hf hh (lv_sub hl [3, 5, 6] rfl)
    · have hf := z_in hf c_v1
      refine lv_lconst (v := 1) hx hb dX7_byHoarse_51 (by decide) ?_
      refine lv_lstore (lv' := [(10, .long 1), (0, .ref (g.2.2 66)), (1, .int x1), (2, .int x2), (3, .int x3), (4, .int x4), (5, .long x5), (7, .long x7), (9, .int x9)]) hx hb dX7_byHoarse_52 hl (by decide) rfl (fun ls hl => ?_)
      refine lv_iconst (v := (nI 0)) hx hb dX7_byHoarse_54 (by decide) ?_
      refine lv_istore (lv' := [(12, .int (nI 0)), (10, .long 1), (0, .ref (g.2.2 66)), (1, .int x1), (2, .int x2), (3, .int x3), (4, .int x4), (5, .long x5), (7, .long x7), (9, .int x9)]) hx hb dX7_byHoarse_55 hl (by decide) rfl (fun ls hl => ?_)
      exact (hX7_byHoarse_57 C E N (fX7_byHoarse_96 N τ (fX7_byHoarse_42 N τ k_149 n) k_149) (hX7_byHoarse_96 C E N (fX7_byHoarse_42 N τ k_149 n) ih k_149 hk_149) N) x1 x2 x3 x4 x5 x7 x9 1 (nI 0) _ _ _ hf hh (lv_sub hl [2, 3, 4, 5, 6, 7, 8, 9, 1, 0] rfl)
def fX7_byHoarse_39 (N : Nat) (τ : zS) (x1 : Int32) (x2 : Int32) (x3 : Int32) (x4 : Int32) (x5 : Int64) (x7 : Int64) : Option (Int64) :=
  (fX7_byHoarse_42 N τ (fX7_byHoarse_149 N τ) N) x1 x2 x3 x4 x5 x7 (nI 0)
set_option maxRecDepth 100000 in
set_option maxHeartbeats 4000000 in
theorem hX7_byHoarse_39 {p : Program} {l : Launch} {e : Env} {s : State} {m : MethodId} {args : Array Value} {below : List Frame} {meth : Method} {c : Code} {g : zG} {A : Nat → Prop} {σ τ : zS} {res : Int64} (C : zCx p s m args meth c cX7_byHoarse (some .long) wsX7_byHoarse RX7 13) (E : zE g A s) (N : Nat) : PX7_byHoarse_39 p l e s m args below meth c g A σ τ res (fX7_byHoarse_39 N τ) := by
  obtain ⟨hx, hb, hr, hml, hown, hts, hlocks⟩ := id C
  intro x1 x2 x3 x4 x5 x7 H locs ls hf hh hl
  unfold fX7_byHoarse_39 at hf
  refine lv_iconst (v := (nI 0)) hx hb dX7_byHoarse_39 (by decide) ?_
  refine lv_istore (lv' := [(9, .int (nI 0)), (0, .ref (g.2.2 66)), (1, .int x1), (2, .int x2), (3, .int x3), (4, .int x4), (5, .long x5), (7, .long x7)]) hx hb dX7_byHoarse_40 hl (by decide) rfl (fun ls hl => ?_)
  exact (hX7_byHoarse_42 C E N (fX7_byHoarse_149 N τ) (hX7_byHoarse_149 C E N) N) x1 x2 x3 x4 x5 x7 (nI 0) _ _ _ hf hh (lv_sub hl [1, 2, 3, 4, 5, 6, 7, 0] rfl)
def fX7_byHoarse_18 (N : Nat) (τ : zS) (k_39 : Int32 → Int32 → Int32 → Int32 → Int64 → Int64 → Option (Int64)) : Nat → Int32 → Int32 → Int32 → Int32 → Int64 → Int64 → Int32 → Option (Int64)
  | 0, _, _, _, _, _, _, _ => none
  | n + 1, x1, x2, x3, x4, x5, x7, x9 =>
    if x4 ≤ x9 then
      k_39 x1 x2 x3 x4 x5 x7
    else
      (fX7_byHoarse_18 N τ k_39 n) x1 x2 x3 x4 x5 (x7 * 10) (x9 + (nI 1))
set_option maxRecDepth 100000 in
set_option maxHeartbeats 4000000 in
theorem hX7_byHoarse_18 {p : Program} {l : Launch} {e : Env} {s : State} {m : MethodId} {args : Array Value} {below : List Frame} {meth : Method} {c : Code} {g : zG} {A : Nat → Prop} {σ τ : zS} {res : Int64} (C : zCx p s m args meth c cX7_byHoarse (some .long) wsX7_byHoarse RX7 13) (E : zE g A s) (N : Nat) (k_39 : Int32 → Int32 → Int32 → Int32 → Int64 → Int64 → Option (Int64)) (hk_39 : PX7_byHoarse_39 p l e s m args below meth c g A σ τ res k_39) : ∀ n : Nat, PX7_byHoarse_18 p l e s m args below meth c g A σ τ res (fX7_byHoarse_18 N τ k_39 n) := by
  obtain ⟨hx, hb, hr, hml, hown, hts, hlocks⟩ := id C
  intro n
  induction n with
  | zero =>
    intro x1 x2 x3 x4 x5 x7 x9 H locs ls hf
    exact absurd hf (by simp [fX7_byHoarse_18])
  | succ n ih =>
    intro x1 x2 x3 x4 x5 x7 x9 H locs ls hf hh hl
    rw [fX7_byHoarse_18] at hf
    refine lv_iload hx hb dX7_byHoarse_18 (lv_at hl 7 rfl) ?_
    refine lv_iload hx hb dX7_byHoarse_20 (lv_at hl 4 rfl) ?_
    refine lv_icmp_ge (tgt := 39) hx hb dX7_byHoarse_22 (by decide) (fun c_v1 => ?_) (fun c_v1 => ?_)
    · have hf := z_ip hf c_v1
      exact hk_39 x1 x2 x3 x4 x5 x7 _ _ _ hf hh (lv_sub hl [0, 1, 2, 3, 4, 5, 6] rfl)
    · have hf := z_in hf c_v1
      refine lv_lload hx hb dX7_byHoarse_25 (lv_at hl 6 rfl) ?_
      refine lv_ldc2 (v := 10) hx hb hown (hts (.constantLong RX7 236 (10)) (List.mem_cons_of_mem _ (List.mem_append_left _ (List.mem_of_getElem? (i := 1) rfl)))) dX7_byHoarse_27 ?_
      refine lv_lmul hx hb dX7_byHoarse_30 ?_
      refine lv_lstore (lv' := [(7, .long (x7 * 10)), (0, .ref (g.2.2 66)), (1, .int x1), (2, .int x2), (3, .int x3), (4, .int x4), (5, .long x5), (9, .int x9)]) hx hb dX7_byHoarse_31 hl (by decide) rfl (fun ls hl => ?_)
      refine lv_iinc (v := (x9 + (nI 1))) (lv' := [(9, .int (x9 + (nI 1))), (7, .long (x7 * 10)), (0, .ref (g.2.2 66)), (1, .int x1), (2, .int x2), (3, .int x3), (4, .int x4), (5, .long x5)]) hx hb dX7_byHoarse_33 hl (k := 7) rfl rfl (by decide) rfl (fun ls hl => ?_)
      refine lv_goto (tgt := 18) hx hb dX7_byHoarse_36 (by decide) ?_
      exact ih x1 x2 x3 x4 x5 (x7 * 10) (x9 + (nI 1)) _ _ _ hf hh (lv_sub hl [2, 3, 4, 5, 6, 7, 1, 0] rfl)
def fX7_byHoarse (N : Nat) (τ : zS) (x1 : Int32) (x2 : Int32) (x3 : Int32) : Option (Int64) :=
  if zin (nI 24) (zlen 55) then
  zlet (τ.2 55 (nI 24).toNatClampNeg) fun v2 =>
  (fX7_byHoarse_18 N τ (fX7_byHoarse_39 N τ) N) x1 x2 x3 v2 0 1 (nI 0)
  else none
set_option maxRecDepth 100000 in
set_option maxHeartbeats 4000000 in
theorem zcX7_byHoarse (l : Launch) (g : zG) (A : Nat → Prop) (σ τ : zS) (N : Nat) (x1 : Int32) (x2 : Int32) (x3 : Int32)  {res : Int64} (hf : fX7_byHoarse N τ x1 x2 x3 = some res) : Met l yX7_byHoarse wsX7_byHoarse (zR 1) (zPc g A σ τ [.ref (g.2.2 66), .int x1, .int x2, .int x3]) (zPl g A σ (res, τ)) 0 0 A := by
  refine z_met (cc := cX7_byHoarse) (ret := (some .long)) (own := RX7) (by decide) rfl rfl _ (Nat.le_of_ble_eq_true rfl) ?_
  intro p e s m below meth c C E ls hl hh
  have hl : lv_has ls 13 [(0, .ref (g.2.2 66)), (1, .int x1), (2, .int x2), (3, .int x3)] := hl
  obtain ⟨hx, hb, hr, hml, hown, hts, hlocks⟩ := id C
  unfold fX7_byHoarse at hf
  refine lv_aload_n hx hb dX7_byHoarse_0 rfl (lv_at hl 0 rfl) ?_
  refine z_get (v := .ref (g.2.2 55)) hx hb hts (fun w h => List.mem_cons_of_mem _ (List.mem_append_right _ (h))) hown E hh (by decide) (zC_obj (q := 66) rfl) rfl 0 (by decide) (hts (.fieldLink RX7 7 "TownBandModel" "state" "[I") (List.mem_cons_of_mem _ (List.mem_append_left _ (List.mem_of_getElem? (i := 0) rfl)))) rfl dX7_byHoarse_1 ?_
  refine lv_bipush (v := (nI 24)) hx hb dX7_byHoarse_4 (by decide) ?_
  obtain ⟨h_v1, hf⟩ := z_if hf
  obtain ⟨v2, e_v2, hf⟩ := z_lt hf
  refine z_ialdM hx hb E hh (by decide) (by decide) h_v1 e_v2 dX7_byHoarse_6 ?_
  refine lv_istore (lv' := [(4, .int v2), (0, .ref (g.2.2 66)), (1, .int x1), (2, .int x2), (3, .int x3)]) hx hb dX7_byHoarse_7 hl (by decide) rfl (fun ls hl => ?_)
  refine lv_lconst (v := 0) hx hb dX7_byHoarse_9 (by decide) ?_
  refine lv_lstore (lv' := [(5, .long 0), (4, .int v2), (0, .ref (g.2.2 66)), (1, .int x1), (2, .int x2), (3, .int x3)]) hx hb dX7_byHoarse_10 hl (by decide) rfl (fun ls hl => ?_)
  refine lv_lconst (v := 1) hx hb dX7_byHoarse_12 (by decide) ?_
  refine lv_lstore (lv' := [(7, .long 1), (5, .long 0), (4, .int v2), (0, .ref (g.2.2 66)), (1, .int x1), (2, .int x2), (3, .int x3)]) hx hb dX7_byHoarse_13 hl (by decide) rfl (fun ls hl => ?_)
  refine lv_iconst (v := (nI 0)) hx hb dX7_byHoarse_15 (by decide) ?_
  refine lv_istore (lv' := [(9, .int (nI 0)), (7, .long 1), (5, .long 0), (4, .int v2), (0, .ref (g.2.2 66)), (1, .int x1), (2, .int x2), (3, .int x3)]) hx hb dX7_byHoarse_16 hl (by decide) rfl (fun ls hl => ?_)
  exact (hX7_byHoarse_18 C E N (fX7_byHoarse_39 N τ) (hX7_byHoarse_39 C E N) N) x1 x2 x3 v2 0 1 (nI 0) _ _ _ hf hh (lv_sub hl [4, 5, 6, 7, 3, 2, 1, 0] rfl)
/-! ===== X7_mean ===== -/
theorem hdX7_mean : yX7_mean.cls = RX7 ∧ yX7_mean.cls ≠ "java/lang/invoke/MethodHandle" ∧ yX7_mean.cls ≠ "java/lang/invoke/VarHandle" ∧ (parseMethodDescriptor yX7_mean.desc).map (fun d => d.parameters.length) = some 2 := by decide +kernel
def PX7_mean_32 (p : Program) (l : Launch) (e : Env) (s : State) (m : MethodId) (args : Array Value) (below : List Frame) (meth : Method) (c : Code) (g : zG) (A : Nat → Prop) (σ τ : zS) (res : Int64) (f : Option (Int64)) : Prop := ∀  (H : Heap) (locs : List Loc) (ls : Array Slot), f = some res → zW g A σ τ s H locs → lv_has ls 3 [] → W p l e (zR 2) s m args below meth c H locs 0 0 (MQ below (zPl g A σ (res, τ)) args s 0 0 A) (F0 m 32 ls [])
def fX7_mean_32 (N : Nat) (τ : zS)  : Option (Int64) :=
  some (-1)
set_option maxRecDepth 100000 in
set_option maxHeartbeats 4000000 in
theorem hX7_mean_32 {p : Program} {l : Launch} {e : Env} {s : State} {m : MethodId} {args : Array Value} {below : List Frame} {meth : Method} {c : Code} {g : zG} {A : Nat → Prop} {σ τ : zS} {res : Int64} (C : zCx p s m args meth c cX7_mean (some .long) wsX7_mean RX7 3) (E : zE g A s) (N : Nat) : PX7_mean_32 p l e s m args below meth c g A σ τ res (fX7_mean_32 N τ) := by
  obtain ⟨hx, hb, hr, hml, hown, hts, hlocks⟩ := id C
  intro H locs ls hf hh hl
  unfold fX7_mean_32 at hf
  refine lv_ldc2 (v := (-1)) hx hb hown (hts (.constantLong RX7 258 (-1)) (List.mem_cons_of_mem _ (List.mem_append_left _ (List.mem_append_left _ (List.mem_of_getElem? (i := 1) rfl))))) dX7_mean_32 ?_
  have hf := Option.some.inj hf
  subst hf
  exact z_lretM hx hb hr hlocks hh dX7_mean_35
def fX7_mean (N : Nat) (τ : zS) (x1 : Int32) (x2 : Int32) : Option (Int64) :=
  (fX7_in N x1.toInt64 0 10).bind fun q1 =>
  if q1 = 0 then
    (fX7_mean_32 N τ)
  else
    (fX7_in N x2.toInt64 0 1).bind fun q3 =>
    if q3 = 0 then
      (fX7_mean_32 N τ)
    else
      (fX7_byHoarse N τ x1 (nI 1) x2).bind fun q5 =>
      some q5
set_option maxRecDepth 100000 in
set_option maxHeartbeats 4000000 in
theorem zcX7_mean (l : Launch) (g : zG) (A : Nat → Prop) (σ τ : zS) (N : Nat) (x1 : Int32) (x2 : Int32)  {res : Int64} (hf : fX7_mean N τ x1 x2 = some res) : Met l yX7_mean wsX7_mean (zR 2) (zPc g A σ τ [.ref (g.2.2 66), .int x1, .int x2]) (zPl g A σ (res, τ)) 0 0 A := by
  refine z_met (cc := cX7_mean) (ret := (some .long)) (own := RX7) (by decide) rfl rfl _ (Nat.le_of_ble_eq_true rfl) ?_
  intro p e s m below meth c C E ls hl hh
  have hl : lv_has ls 3 [(0, .ref (g.2.2 66)), (1, .int x1), (2, .int x2)] := hl
  obtain ⟨hx, hb, hr, hml, hown, hts, hlocks⟩ := id C
  unfold fX7_mean at hf
  refine lv_iload_n hx hb dX7_mean_0 rfl (lv_at hl 1 rfl) ?_
  refine lv_i2l hx hb dX7_mean_1 rfl ?_
  refine lv_lconst (v := 0) hx hb dX7_mean_2 (by decide) ?_
  refine lv_ldc2 (v := 10) hx hb hown (hts (.constantLong RX7 236 (10)) (List.mem_cons_of_mem _ (List.mem_append_left _ (List.mem_append_left _ (List.mem_of_getElem? (i := 0) rfl))))) dX7_mean_3 ?_
  obtain ⟨q1, h_q1, hf⟩ := z_bd hf
  refine z_mi (va_runS (As := [.long x1.toInt64, .long 0, .long 10]) (rest := []) ⟨hx, hb, hml, hown, hts⟩ (zcX7_in l g A σ τ N x1.toInt64 0 10 h_q1) (va_cwS 3 hts gX7_mean_X7_in rfl rfl rfl hdX7_in.2 ⟨by decide, by decide⟩) (z_preS E hh) rfl rfl hl.1 rfl (lv_room (Nat.le_of_ble_eq_true rfl)) dX7_mean_6 ⟨Nat.le_refl _, Nat.le_refl _⟩) hh (fun H locs hh => ?_)
  refine lv_if_eq (tgt := 32) hx hb dX7_mean_9 (by decide) (fun c_v2 => ?_) (fun c_v2 => ?_)
  · have hf := z_ip hf c_v2
    exact (hX7_mean_32 C E N)  _ _ _ hf hh (lv_sub hl [] rfl)
  · have hf := z_in hf c_v2
    refine lv_iload_n hx hb dX7_mean_12 rfl (lv_at hl 2 rfl) ?_
    refine lv_i2l hx hb dX7_mean_13 rfl ?_
    refine lv_lconst (v := 0) hx hb dX7_mean_14 (by decide) ?_
    refine lv_lconst (v := 1) hx hb dX7_mean_15 (by decide) ?_
    obtain ⟨q3, h_q3, hf⟩ := z_bd hf
    refine z_mi (va_runS (As := [.long x2.toInt64, .long 0, .long 1]) (rest := []) ⟨hx, hb, hml, hown, hts⟩ (zcX7_in l g A σ τ N x2.toInt64 0 1 h_q3) (va_cwS 3 hts gX7_mean_X7_in rfl rfl rfl hdX7_in.2 ⟨by decide, by decide⟩) (z_preS E hh) rfl rfl hl.1 rfl (lv_room (Nat.le_of_ble_eq_true rfl)) dX7_mean_16 ⟨Nat.le_refl _, Nat.le_refl _⟩) hh (fun H locs hh => ?_)
    refine lv_if_eq (tgt := 32) hx hb dX7_mean_19 (by decide) (fun c_v4 => ?_) (fun c_v4 => ?_)
    · have hf := z_ip hf c_v4
      exact (hX7_mean_32 C E N)  _ _ _ hf hh (lv_sub hl [] rfl)
    · have hf := z_in hf c_v4
      refine lv_aload_n hx hb dX7_mean_22 rfl (lv_at hl 0 rfl) ?_
      refine lv_iload_n hx hb dX7_mean_23 rfl (lv_at hl 1 rfl) ?_
      refine lv_iconst (v := (nI 1)) hx hb dX7_mean_24 (by decide) ?_
      refine lv_iload_n hx hb dX7_mean_25 rfl (lv_at hl 2 rfl) ?_
      obtain ⟨q5, h_q5, hf⟩ := z_bd hf
      refine z_ml (va_runV (As := [.int x1, .int (nI 1), .int x2]) (rest := []) ⟨hx, hb, hml, hown, hts⟩ (zcX7_byHoarse l g A σ τ N x1 (nI 1) x2 h_q5) (cwV 3 hts gX7_mean_X7_byHoarse rfl rfl rfl hdX7_byHoarse ⟨by decide, by decide⟩) (z_preV E hh (by decide) (zC_obj (q := 66) rfl) rfl) rfl rfl hl.1 rfl (lv_room (Nat.le_of_ble_eq_true rfl)) dX7_mean_26 ⟨Nat.le_refl _, Nat.le_refl _⟩) hh (fun H locs hh => ?_)
      refine lv_goto (tgt := 35) hx hb dX7_mean_29 (by decide) ?_
      have hf := Option.some.inj hf
      subst hf
      exact z_lretM hx hb hr hlocks hh dX7_mean_35
/-! ===== X7_luck ===== -/
theorem hdX7_luck : yX7_luck.cls = RX7 ∧ yX7_luck.cls ≠ "java/lang/invoke/MethodHandle" ∧ yX7_luck.cls ≠ "java/lang/invoke/VarHandle" ∧ (parseMethodDescriptor yX7_luck.desc).map (fun d => d.parameters.length) = some 2 := by decide +kernel
def PX7_luck_32 (p : Program) (l : Launch) (e : Env) (s : State) (m : MethodId) (args : Array Value) (below : List Frame) (meth : Method) (c : Code) (g : zG) (A : Nat → Prop) (σ τ : zS) (res : Int64) (f : Option (Int64)) : Prop := ∀  (H : Heap) (locs : List Loc) (ls : Array Slot), f = some res → zW g A σ τ s H locs → lv_has ls 3 [] → W p l e (zR 2) s m args below meth c H locs 0 0 (MQ below (zPl g A σ (res, τ)) args s 0 0 A) (F0 m 32 ls [])
def fX7_luck_32 (N : Nat) (τ : zS)  : Option (Int64) :=
  some (-1)
set_option maxRecDepth 100000 in
set_option maxHeartbeats 4000000 in
theorem hX7_luck_32 {p : Program} {l : Launch} {e : Env} {s : State} {m : MethodId} {args : Array Value} {below : List Frame} {meth : Method} {c : Code} {g : zG} {A : Nat → Prop} {σ τ : zS} {res : Int64} (C : zCx p s m args meth c cX7_luck (some .long) wsX7_luck RX7 3) (E : zE g A s) (N : Nat) : PX7_luck_32 p l e s m args below meth c g A σ τ res (fX7_luck_32 N τ) := by
  obtain ⟨hx, hb, hr, hml, hown, hts, hlocks⟩ := id C
  intro H locs ls hf hh hl
  unfold fX7_luck_32 at hf
  refine lv_ldc2 (v := (-1)) hx hb hown (hts (.constantLong RX7 258 (-1)) (List.mem_cons_of_mem _ (List.mem_append_left _ (List.mem_append_left _ (List.mem_of_getElem? (i := 1) rfl))))) dX7_luck_32 ?_
  have hf := Option.some.inj hf
  subst hf
  exact z_lretM hx hb hr hlocks hh dX7_luck_35
def fX7_luck (N : Nat) (τ : zS) (x1 : Int32) (x2 : Int32) : Option (Int64) :=
  (fX7_in N x1.toInt64 0 10).bind fun q1 =>
  if q1 = 0 then
    (fX7_luck_32 N τ)
  else
    (fX7_in N x2.toInt64 0 1).bind fun q3 =>
    if q3 = 0 then
      (fX7_luck_32 N τ)
    else
      (fX7_byHoarse N τ x1 (nI 0) x2).bind fun q5 =>
      some q5
set_option maxRecDepth 100000 in
set_option maxHeartbeats 4000000 in
theorem zcX7_luck (l : Launch) (g : zG) (A : Nat → Prop) (σ τ : zS) (N : Nat) (x1 : Int32) (x2 : Int32)  {res : Int64} (hf : fX7_luck N τ x1 x2 = some res) : Met l yX7_luck wsX7_luck (zR 2) (zPc g A σ τ [.ref (g.2.2 66), .int x1, .int x2]) (zPl g A σ (res, τ)) 0 0 A := by
  refine z_met (cc := cX7_luck) (ret := (some .long)) (own := RX7) (by decide) rfl rfl _ (Nat.le_of_ble_eq_true rfl) ?_
  intro p e s m below meth c C E ls hl hh
  have hl : lv_has ls 3 [(0, .ref (g.2.2 66)), (1, .int x1), (2, .int x2)] := hl
  obtain ⟨hx, hb, hr, hml, hown, hts, hlocks⟩ := id C
  unfold fX7_luck at hf
  refine lv_iload_n hx hb dX7_luck_0 rfl (lv_at hl 1 rfl) ?_
  refine lv_i2l hx hb dX7_luck_1 rfl ?_
  refine lv_lconst (v := 0) hx hb dX7_luck_2 (by decide) ?_
  refine lv_ldc2 (v := 10) hx hb hown (hts (.constantLong RX7 236 (10)) (List.mem_cons_of_mem _ (List.mem_append_left _ (List.mem_append_left _ (List.mem_of_getElem? (i := 0) rfl))))) dX7_luck_3 ?_
  obtain ⟨q1, h_q1, hf⟩ := z_bd hf
  refine z_mi (va_runS (As := [.long x1.toInt64, .long 0, .long 10]) (rest := []) ⟨hx, hb, hml, hown, hts⟩ (zcX7_in l g A σ τ N x1.toInt64 0 10 h_q1) (va_cwS 3 hts gX7_luck_X7_in rfl rfl rfl hdX7_in.2 ⟨by decide, by decide⟩) (z_preS E hh) rfl rfl hl.1 rfl (lv_room (Nat.le_of_ble_eq_true rfl)) dX7_luck_6 ⟨Nat.le_refl _, Nat.le_refl _⟩) hh (fun H locs hh => ?_)
  refine lv_if_eq (tgt := 32) hx hb dX7_luck_9 (by decide) (fun c_v2 => ?_) (fun c_v2 => ?_)
  · have hf := z_ip hf c_v2
    exact (hX7_luck_32 C E N)  _ _ _ hf hh (lv_sub hl [] rfl)
  · have hf := z_in hf c_v2
    refine lv_iload_n hx hb dX7_luck_12 rfl (lv_at hl 2 rfl) ?_
    refine lv_i2l hx hb dX7_luck_13 rfl ?_
    refine lv_lconst (v := 0) hx hb dX7_luck_14 (by decide) ?_
    refine lv_lconst (v := 1) hx hb dX7_luck_15 (by decide) ?_
    obtain ⟨q3, h_q3, hf⟩ := z_bd hf
    refine z_mi (va_runS (As := [.long x2.toInt64, .long 0, .long 1]) (rest := []) ⟨hx, hb, hml, hown, hts⟩ (zcX7_in l g A σ τ N x2.toInt64 0 1 h_q3) (va_cwS 3 hts gX7_luck_X7_in rfl rfl rfl hdX7_in.2 ⟨by decide, by decide⟩) (z_preS E hh) rfl rfl hl.1 rfl (lv_room (Nat.le_of_ble_eq_true rfl)) dX7_luck_16 ⟨Nat.le_refl _, Nat.le_refl _⟩) hh (fun H locs hh => ?_)
    refine lv_if_eq (tgt := 32) hx hb dX7_luck_19 (by decide) (fun c_v4 => ?_) (fun c_v4 => ?_)
    · have hf := z_ip hf c_v4
      exact (hX7_luck_32 C E N)  _ _ _ hf hh (lv_sub hl [] rfl)
    · have hf := z_in hf c_v4
      refine lv_aload_n hx hb dX7_luck_22 rfl (lv_at hl 0 rfl) ?_
      refine lv_iload_n hx hb dX7_luck_23 rfl (lv_at hl 1 rfl) ?_
      refine lv_iconst (v := (nI 0)) hx hb dX7_luck_24 (by decide) ?_
      refine lv_iload_n hx hb dX7_luck_25 rfl (lv_at hl 2 rfl) ?_
      obtain ⟨q5, h_q5, hf⟩ := z_bd hf
      refine z_ml (va_runV (As := [.int x1, .int (nI 0), .int x2]) (rest := []) ⟨hx, hb, hml, hown, hts⟩ (zcX7_byHoarse l g A σ τ N x1 (nI 0) x2 h_q5) (cwV 3 hts gX7_luck_X7_byHoarse rfl rfl rfl hdX7_byHoarse ⟨by decide, by decide⟩) (z_preV E hh (by decide) (zC_obj (q := 66) rfl) rfl) rfl rfl hl.1 rfl (lv_room (Nat.le_of_ble_eq_true rfl)) dX7_luck_26 ⟨Nat.le_refl _, Nat.le_refl _⟩) hh (fun H locs hh => ?_)
      refine lv_goto (tgt := 35) hx hb dX7_luck_29 (by decide) ?_
      have hf := Option.some.inj hf
      subst hf
      exact z_lretM hx hb hr hlocks hh dX7_luck_35
/-! ===== X7_see ===== -/
theorem hdX7_see : yX7_see.cls = RX7 ∧ yX7_see.cls ≠ "java/lang/invoke/MethodHandle" ∧ yX7_see.cls ≠ "java/lang/invoke/VarHandle" ∧ (parseMethodDescriptor yX7_see.desc).map (fun d => d.parameters.length) = some 2 := by decide +kernel
def fX7_see (N : Nat) (τ : zS) (x1 : Int32) (x2 : Int32) : Option (Int32 × zS) :=
  (fX7_in N x1.toInt64 1 5).bind fun q1 =>
  if q1 = 0 then
    some ((-1), τ)
  else
    (fX7_in N x2.toInt64 0 99).bind fun q3 =>
    if q3 = 0 then
      some ((-1), τ)
    else
      if (τ.1 66 28) = (nI 6) then
        some ((-3), τ)
      else
        if zin ((nI 2) * (τ.1 66 28)) (zlen 60) then
        zlet (zpa τ 60 (upd (τ.2 60) ((nI 2) * (τ.1 66 28)).toNatClampNeg x1)) fun τ7 =>
        if zin (((nI 2) * (τ7.1 66 28)) + (nI 1)) (zlen 60) then
        zlet (zpa τ7 60 (upd (τ7.2 60) (((nI 2) * (τ7.1 66 28)) + (nI 1)).toNatClampNeg x2)) fun τ9 =>
        zlet (zpf τ9 66 28 ((τ9.1 66 28) + (nI 1))) fun τ10 =>
        some ((τ10.1 66 28), τ10)
        else none
        else none
set_option maxRecDepth 100000 in
set_option maxHeartbeats 4000000 in
theorem zcX7_see (l : Launch) (g : zG) (A : Nat → Prop) (σ τ : zS) (N : Nat) (x1 : Int32) (x2 : Int32)  {res : Int32 × zS} (hf : fX7_see N τ x1 x2 = some res) : Met l yX7_see wsX7_see (zR 1) (zPc g A σ τ [.ref (g.2.2 66), .int x1, .int x2]) (zPi g A σ res) 0 0 A := by
  refine z_met (cc := cX7_see) (ret := (some .int)) (own := RX7) (by decide) rfl rfl _ (Nat.le_of_ble_eq_true rfl) ?_
  intro p e s m below meth c C E ls hl hh
  have hl : lv_has ls 3 [(0, .ref (g.2.2 66)), (1, .int x1), (2, .int x2)] := hl
  obtain ⟨hx, hb, hr, hml, hown, hts, hlocks⟩ := id C
  unfold fX7_see at hf
  refine lv_iload_n hx hb dX7_see_0 rfl (lv_at hl 1 rfl) ?_
  refine lv_i2l hx hb dX7_see_1 rfl ?_
  refine lv_lconst (v := 1) hx hb dX7_see_2 (by decide) ?_
  refine lv_ldc2 (v := 5) hx hb hown (hts (.constantLong RX7 271 (5)) (List.mem_cons_of_mem _ (List.mem_append_left _ (List.mem_of_getElem? (i := 0) rfl)))) dX7_see_3 ?_
  obtain ⟨q1, h_q1, hf⟩ := z_bd hf
  refine z_mi (va_runS (As := [.long x1.toInt64, .long 1, .long 5]) (rest := []) ⟨hx, hb, hml, hown, hts⟩ (zcX7_in l g A σ τ N x1.toInt64 1 5 h_q1) (va_cwS 3 hts gX7_see_X7_in rfl rfl rfl hdX7_in.2 ⟨by decide, by decide⟩) (z_preS E hh) rfl rfl hl.1 rfl (lv_room (Nat.le_of_ble_eq_true rfl)) dX7_see_6 ⟨Nat.le_refl _, Nat.le_refl _⟩) hh (fun H locs hh => ?_)
  refine lv_if_eq (tgt := 24) hx hb dX7_see_9 (by decide) (fun c_v2 => ?_) (fun c_v2 => ?_)
  · have hf := z_ip hf c_v2
    refine lv_iconst (v := (-1)) hx hb dX7_see_24 (by decide) ?_
    have hf := Option.some.inj hf
    subst hf
    exact z_iretM hx hb hr hlocks hh dX7_see_25
  · have hf := z_in hf c_v2
    refine lv_iload_n hx hb dX7_see_12 rfl (lv_at hl 2 rfl) ?_
    refine lv_i2l hx hb dX7_see_13 rfl ?_
    refine lv_lconst (v := 0) hx hb dX7_see_14 (by decide) ?_
    refine lv_ldc2 (v := 99) hx hb hown (hts (.constantLong RX7 186 (99)) (List.mem_cons_of_mem _ (List.mem_append_left _ (List.mem_of_getElem? (i := 1) rfl)))) dX7_see_15 ?_
    obtain ⟨q3, h_q3, hf⟩ := z_bd hf
    refine z_mi (va_runS (As := [.long x2.toInt64, .long 0, .long 99]) (rest := []) ⟨hx, hb, hml, hown, hts⟩ (zcX7_in l g A σ τ N x2.toInt64 0 99 h_q3) (va_cwS 3 hts gX7_see_X7_in rfl rfl rfl hdX7_in.2 ⟨by decide, by decide⟩) (z_preS E hh) rfl rfl hl.1 rfl (lv_room (Nat.le_of_ble_eq_true rfl)) dX7_see_18 ⟨Nat.le_refl _, Nat.le_refl _⟩) hh (fun H locs hh => ?_)
    refine lv_if_ne (tgt := 26) hx hb dX7_see_21 (by decide) (fun c_v4 => ?_) (fun c_v4 => ?_)
    · have hf := z_in hf c_v4
      refine lv_aload_n hx hb dX7_see_26 rfl (lv_at hl 0 rfl) ?_
      refine z_get (v := .int (τ.1 66 28)) hx hb hts (fun w h => List.mem_cons_of_mem _ (List.mem_append_right _ (h))) hown E hh (by decide) (zC_obj (q := 66) rfl) rfl 28 (by decide) (hts (.fieldLink RX7 147 "TownBandModel" "seenMany" "I") (List.mem_cons_of_mem _ (List.mem_append_left _ (List.mem_of_getElem? (i := 2) rfl)))) rfl dX7_see_27 ?_
      refine lv_bipush (v := (nI 6)) hx hb dX7_see_30 (by decide) ?_
      refine lv_icmp_ne (tgt := 38) hx hb dX7_see_32 (by decide) (fun c_v5 => ?_) (fun c_v5 => ?_)
      · have hf := z_in hf c_v5
        refine lv_aload_n hx hb dX7_see_38 rfl (lv_at hl 0 rfl) ?_
        refine z_get (v := .ref (g.2.2 60)) hx hb hts (fun w h => List.mem_cons_of_mem _ (List.mem_append_right _ (h))) hown E hh (by decide) (zC_obj (q := 66) rfl) rfl 27 (by decide) (hts (.fieldLink RX7 25 "TownBandModel" "seen" "[I") (List.mem_cons_of_mem _ (List.mem_append_left _ (List.mem_of_getElem? (i := 3) rfl)))) rfl dX7_see_39 ?_
        refine lv_iconst (v := (nI 2)) hx hb dX7_see_42 (by decide) ?_
        refine lv_aload_n hx hb dX7_see_43 rfl (lv_at hl 0 rfl) ?_
        refine z_get (v := .int (τ.1 66 28)) hx hb hts (fun w h => List.mem_cons_of_mem _ (List.mem_append_right _ (h))) hown E hh (by decide) (zC_obj (q := 66) rfl) rfl 28 (by decide) (hts (.fieldLink RX7 147 "TownBandModel" "seenMany" "I") (List.mem_cons_of_mem _ (List.mem_append_left _ (List.mem_of_getElem? (i := 2) rfl)))) rfl dX7_see_44 ?_
        refine lv_imul hx hb dX7_see_47 ?_
        refine lv_iload_n hx hb dX7_see_48 rfl (lv_at hl 1 rfl) ?_
        obtain ⟨h_v6, hf⟩ := z_if hf
        obtain ⟨τ7, e_τ7, hf⟩ := z_lt hf
        refine z_iastM hx hb E hh (by decide) (by decide) h_v6 e_τ7 dX7_see_49 (fun H locs hh => ?_)
        refine lv_aload_n hx hb dX7_see_50 rfl (lv_at hl 0 rfl) ?_
        refine z_get (v := .ref (g.2.2 60)) hx hb hts (fun w h => List.mem_cons_of_mem _ (List.mem_append_right _ (h))) hown E hh (by decide) (zC_obj (q := 66) rfl) rfl 27 (by decide) (hts (.fieldLink RX7 25 "TownBandModel" "seen" "[I") (List.mem_cons_of_mem _ (List.mem_append_left _ (List.mem_of_getElem? (i := 3) rfl)))) rfl dX7_see_51 ?_
        refine lv_iconst (v := (nI 2)) hx hb dX7_see_54 (by decide) ?_
        refine lv_aload_n hx hb dX7_see_55 rfl (lv_at hl 0 rfl) ?_
        refine z_get (v := .int (τ7.1 66 28)) hx hb hts (fun w h => List.mem_cons_of_mem _ (List.mem_append_right _ (h))) hown E hh (by decide) (zC_obj (q := 66) rfl) rfl 28 (by decide) (hts (.fieldLink RX7 147 "TownBandModel" "seenMany" "I") (List.mem_cons_of_mem _ (List.mem_append_left _ (List.mem_of_getElem? (i := 2) rfl)))) rfl dX7_see_56 ?_
        refine lv_imul hx hb dX7_see_59 ?_
        refine lv_iconst (v := (nI 1)) hx hb dX7_see_60 (by decide) ?_
        refine lv_iadd hx hb dX7_see_61 ?_
        refine lv_iload_n hx hb dX7_see_62 rfl (lv_at hl 2 rfl) ?_
        obtain ⟨h_v8, hf⟩ := z_if hf
        obtain ⟨τ9, e_τ9, hf⟩ := z_lt hf
        refine z_iastM hx hb E hh (by decide) (by decide) h_v8 e_τ9 dX7_see_63 (fun H locs hh => ?_)
        refine lv_aload_n hx hb dX7_see_64 rfl (lv_at hl 0 rfl) ?_
        refine lv_dup hx hb dX7_see_65 rfl ?_
        refine z_get (v := .int (τ9.1 66 28)) hx hb hts (fun w h => List.mem_cons_of_mem _ (List.mem_append_right _ (h))) hown E hh (by decide) (zC_obj (q := 66) rfl) rfl 28 (by decide) (hts (.fieldLink RX7 147 "TownBandModel" "seenMany" "I") (List.mem_cons_of_mem _ (List.mem_append_left _ (List.mem_of_getElem? (i := 2) rfl)))) rfl dX7_see_66 ?_
        refine lv_iconst (v := (nI 1)) hx hb dX7_see_69 (by decide) ?_
        refine lv_iadd hx hb dX7_see_70 ?_
        obtain ⟨τ10, e_τ10, hf⟩ := z_lt hf
        refine z_putM hx hb hts (fun w h => List.mem_cons_of_mem _ (List.mem_append_right _ (h))) tyX7 tyX7_ok nmX7 hown E hh (by decide) (by decide) (show zD 66 = _ from rfl) rfl 28 (by decide) rfl (hts (.fieldLink RX7 147 "TownBandModel" "seenMany" "I") (List.mem_cons_of_mem _ (List.mem_append_left _ (List.mem_of_getElem? (i := 2) rfl)))) rfl rfl e_τ10 dX7_see_71 (fun H locs hh => ?_)
        refine lv_aload_n hx hb dX7_see_74 rfl (lv_at hl 0 rfl) ?_
        refine z_get (v := .int (τ10.1 66 28)) hx hb hts (fun w h => List.mem_cons_of_mem _ (List.mem_append_right _ (h))) hown E hh (by decide) (zC_obj (q := 66) rfl) rfl 28 (by decide) (hts (.fieldLink RX7 147 "TownBandModel" "seenMany" "I") (List.mem_cons_of_mem _ (List.mem_append_left _ (List.mem_of_getElem? (i := 2) rfl)))) rfl dX7_see_75 ?_
        have hf := Option.some.inj hf
        subst hf
        exact z_iretM hx hb hr hlocks hh dX7_see_78
      · have hf := z_ip hf c_v5
        refine lv_bipush (v := (-3)) hx hb dX7_see_35 (by decide) ?_
        have hf := Option.some.inj hf
        subst hf
        exact z_iretM hx hb hr hlocks hh dX7_see_37
    · have hf := z_ip hf c_v4
      refine lv_iconst (v := (-1)) hx hb dX7_see_24 (by decide) ?_
      have hf := Option.some.inj hf
      subst hf
      exact z_iretM hx hb hr hlocks hh dX7_see_25
/-! ===== X7_forget ===== -/
theorem hdX7_forget : yX7_forget.cls = RX7 ∧ yX7_forget.cls ≠ "java/lang/invoke/MethodHandle" ∧ yX7_forget.cls ≠ "java/lang/invoke/VarHandle" ∧ (parseMethodDescriptor yX7_forget.desc).map (fun d => d.parameters.length) = some 1 := by decide +kernel
def fX7_forget (N : Nat) (τ : zS) (x1 : Int32) : Option (Int32 × zS) :=
  (fX7_in N x1.toInt64 0 (((τ.1 66 28)).toInt64)).bind fun q1 =>
  if q1 = 0 then
    some ((-1), τ)
  else
    zlet (τ.1 66 28) fun v3 =>
    zlet (zpf τ 66 28 x1) fun τ4 =>
    some (v3, τ4)
set_option maxRecDepth 100000 in
set_option maxHeartbeats 4000000 in
theorem zcX7_forget (l : Launch) (g : zG) (A : Nat → Prop) (σ τ : zS) (N : Nat) (x1 : Int32)  {res : Int32 × zS} (hf : fX7_forget N τ x1 = some res) : Met l yX7_forget wsX7_forget (zR 1) (zPc g A σ τ [.ref (g.2.2 66), .int x1]) (zPi g A σ res) 0 0 A := by
  refine z_met (cc := cX7_forget) (ret := (some .int)) (own := RX7) (by decide) rfl rfl _ (Nat.le_of_ble_eq_true rfl) ?_
  intro p e s m below meth c C E ls hl hh
  have hl : lv_has ls 3 [(0, .ref (g.2.2 66)), (1, .int x1)] := hl
  obtain ⟨hx, hb, hr, hml, hown, hts, hlocks⟩ := id C
  unfold fX7_forget at hf
  refine lv_iload_n hx hb dX7_forget_0 rfl (lv_at hl 1 rfl) ?_
  refine lv_i2l hx hb dX7_forget_1 rfl ?_
  refine lv_lconst (v := 0) hx hb dX7_forget_2 (by decide) ?_
  refine lv_aload_n hx hb dX7_forget_3 rfl (lv_at hl 0 rfl) ?_
  refine z_get (v := .int (τ.1 66 28)) hx hb hts (fun w h => List.mem_cons_of_mem _ (List.mem_append_right _ (h))) hown E hh (by decide) (zC_obj (q := 66) rfl) rfl 28 (by decide) (hts (.fieldLink RX7 147 "TownBandModel" "seenMany" "I") (List.mem_cons_of_mem _ (List.mem_append_left _ (List.mem_of_getElem? (i := 0) rfl)))) rfl dX7_forget_4 ?_
  refine lv_i2l hx hb dX7_forget_7 rfl ?_
  obtain ⟨q1, h_q1, hf⟩ := z_bd hf
  refine z_mi (va_runS (As := [.long x1.toInt64, .long 0, .long (((τ.1 66 28)).toInt64)]) (rest := []) ⟨hx, hb, hml, hown, hts⟩ (zcX7_in l g A σ τ N x1.toInt64 0 (((τ.1 66 28)).toInt64) h_q1) (va_cwS 3 hts gX7_forget_X7_in rfl rfl rfl hdX7_in.2 ⟨by decide, by decide⟩) (z_preS E hh) rfl rfl hl.1 rfl (lv_room (Nat.le_of_ble_eq_true rfl)) dX7_forget_8 ⟨Nat.le_refl _, Nat.le_refl _⟩) hh (fun H locs hh => ?_)
  refine lv_if_ne (tgt := 16) hx hb dX7_forget_11 (by decide) (fun c_v2 => ?_) (fun c_v2 => ?_)
  · have hf := z_in hf c_v2
    refine lv_aload_n hx hb dX7_forget_16 rfl (lv_at hl 0 rfl) ?_
    refine z_get (v := .int (τ.1 66 28)) hx hb hts (fun w h => List.mem_cons_of_mem _ (List.mem_append_right _ (h))) hown E hh (by decide) (zC_obj (q := 66) rfl) rfl 28 (by decide) (hts (.fieldLink RX7 147 "TownBandModel" "seenMany" "I") (List.mem_cons_of_mem _ (List.mem_append_left _ (List.mem_of_getElem? (i := 0) rfl)))) rfl dX7_forget_17 ?_
    obtain ⟨v3, e_v3, hf⟩ := z_lt hf
    refine z_topi e_v3 ?_
    refine lv_istore_n (lv' := [(2, .int v3), (0, .ref (g.2.2 66)), (1, .int x1)]) hx hb dX7_forget_20 rfl hl (by decide) rfl (fun ls hl => ?_)
    refine lv_aload_n hx hb dX7_forget_21 rfl (lv_at hl 1 rfl) ?_
    refine lv_iload_n hx hb dX7_forget_22 rfl (lv_at hl 2 rfl) ?_
    obtain ⟨τ4, e_τ4, hf⟩ := z_lt hf
    refine z_putM hx hb hts (fun w h => List.mem_cons_of_mem _ (List.mem_append_right _ (h))) tyX7 tyX7_ok nmX7 hown E hh (by decide) (by decide) (show zD 66 = _ from rfl) rfl 28 (by decide) rfl (hts (.fieldLink RX7 147 "TownBandModel" "seenMany" "I") (List.mem_cons_of_mem _ (List.mem_append_left _ (List.mem_of_getElem? (i := 0) rfl)))) rfl rfl e_τ4 dX7_forget_23 (fun H locs hh => ?_)
    refine lv_iload_n hx hb dX7_forget_26 rfl (lv_at hl 0 rfl) ?_
    have hf := Option.some.inj hf
    subst hf
    exact z_iretM hx hb hr hlocks hh dX7_forget_27
  · have hf := z_ip hf c_v2
    refine lv_iconst (v := (-1)) hx hb dX7_forget_14 (by decide) ?_
    have hf := Option.some.inj hf
    subst hf
    exact z_iretM hx hb hr hlocks hh dX7_forget_15
/-! ===== X7_hurtBehind ===== -/
theorem hdX7_hurtBehind : yX7_hurtBehind.cls = RX7 ∧ yX7_hurtBehind.cls ≠ "java/lang/invoke/MethodHandle" ∧ yX7_hurtBehind.cls ≠ "java/lang/invoke/VarHandle" ∧ (parseMethodDescriptor yX7_hurtBehind.desc).map (fun d => d.parameters.length) = some 2 := by decide +kernel
def PX7_hurtBehind_5 (p : Program) (l : Launch) (e : Env) (s : State) (m : MethodId) (args : Array Value) (below : List Frame) (meth : Method) (c : Code) (g : zG) (A : Nat → Prop) (σ τ : zS) (res : Int32) (f : Int32 → Int32 → Int32 → Int32 → Option (Int32)) : Prop := ∀ (x1 : Int32) (x2 : Int32) (x3 : Int32) (x4 : Int32) (H : Heap) (locs : List Loc) (ls : Array Slot), f x1 x2 x3 x4 = some res → zW g A σ τ s H locs → lv_has ls 5 [(0, .ref (g.2.2 66)), (1, .int x1), (2, .int x2), (3, .int x3), (4, .int x4)] → W p l e (zR 2) s m args below meth c H locs 0 0 (MQ below (zPi g A σ (res, τ)) args s 0 0 A) (F0 m 5 ls [])
def fX7_hurtBehind_5 (N : Nat) (τ : zS) : Nat → Int32 → Int32 → Int32 → Int32 → Option (Int32)
  | 0, _, _, _, _ => none
  | n + 1, x1, x2, x3, x4 =>
    if x2 ≤ x4 then
      some x3
    else
      (fX7_figureOf N x1 (τ.1 66 1) x4).bind fun q2 =>
      (fX7_hurts N τ q2).bind fun q3 =>
      (fX7_hurtBehind_5 N τ n) x1 x2 (x3 + q3) (x4 + (nI 1))
set_option maxRecDepth 100000 in
set_option maxHeartbeats 4000000 in
theorem hX7_hurtBehind_5 {p : Program} {l : Launch} {e : Env} {s : State} {m : MethodId} {args : Array Value} {below : List Frame} {meth : Method} {c : Code} {g : zG} {A : Nat → Prop} {σ τ : zS} {res : Int32} (C : zCx p s m args meth c cX7_hurtBehind (some .int) wsX7_hurtBehind RX7 5) (E : zE g A s) (N : Nat) : ∀ n : Nat, PX7_hurtBehind_5 p l e s m args below meth c g A σ τ res (fX7_hurtBehind_5 N τ n) := by
  obtain ⟨hx, hb, hr, hml, hown, hts, hlocks⟩ := id C
  intro n
  induction n with
  | zero =>
    intro x1 x2 x3 x4 H locs ls hf
    exact absurd hf (by simp [fX7_hurtBehind_5])
  | succ n ih =>
    intro x1 x2 x3 x4 H locs ls hf hh hl
    rw [fX7_hurtBehind_5] at hf
    refine lv_iload hx hb dX7_hurtBehind_5 (lv_at hl 4 rfl) ?_
    refine lv_iload_n hx hb dX7_hurtBehind_7 rfl (lv_at hl 2 rfl) ?_
    refine lv_icmp_ge (tgt := 34) hx hb dX7_hurtBehind_8 (by decide) (fun c_v1 => ?_) (fun c_v1 => ?_)
    · have hf := z_ip hf c_v1
      refine lv_iload_n hx hb dX7_hurtBehind_34 rfl (lv_at hl 3 rfl) ?_
      have hf := Option.some.inj hf
      subst hf
      exact z_iretM hx hb hr hlocks hh dX7_hurtBehind_35
    · have hf := z_in hf c_v1
      refine lv_iload_n hx hb dX7_hurtBehind_11 rfl (lv_at hl 3 rfl) ?_
      refine lv_aload_n hx hb dX7_hurtBehind_12 rfl (lv_at hl 0 rfl) ?_
      refine lv_iload_n hx hb dX7_hurtBehind_13 rfl (lv_at hl 1 rfl) ?_
      refine lv_aload_n hx hb dX7_hurtBehind_14 rfl (lv_at hl 0 rfl) ?_
      refine z_get (v := .int (τ.1 66 1)) hx hb hts (fun w h => List.mem_cons_of_mem _ (List.mem_append_right _ (h))) hown E hh (by decide) (zC_obj (q := 66) rfl) rfl 1 (by decide) (hts (.fieldLink RX7 141 "TownBandModel" "beastMany" "I") (List.mem_cons_of_mem _ (List.mem_append_left _ (List.mem_of_getElem? (i := 0) rfl)))) rfl dX7_hurtBehind_15 ?_
      refine lv_iload hx hb dX7_hurtBehind_18 (lv_at hl 4 rfl) ?_
      obtain ⟨q2, h_q2, hf⟩ := z_bd hf
      refine z_mi (va_runS (As := [.int x1, .int (τ.1 66 1), .int x4]) (rest := [.ref (g.2.2 66), .int x3]) ⟨hx, hb, hml, hown, hts⟩ (zcX7_figureOf l g A σ τ N x1 (τ.1 66 1) x4 h_q2) (va_cwS 3 hts gX7_hurtBehind_X7_figureOf rfl rfl rfl hdX7_figureOf.2 ⟨by decide, by decide⟩) (z_preS E hh) rfl rfl hl.1 rfl (lv_room (Nat.le_of_ble_eq_true rfl)) dX7_hurtBehind_20 ⟨Nat.le_refl _, Nat.le_refl _⟩) hh (fun H locs hh => ?_)
      obtain ⟨q3, h_q3, hf⟩ := z_bd hf
      refine z_mi (va_runV (As := [.int q2]) (rest := [.int x3]) ⟨hx, hb, hml, hown, hts⟩ (zcX7_hurts l g A σ τ N q2 h_q3) (cwV 1 hts gX7_hurtBehind_X7_hurts rfl rfl rfl hdX7_hurts ⟨by decide, by decide⟩) (z_preV E hh (by decide) (zC_obj (q := 66) rfl) rfl) rfl rfl hl.1 rfl (lv_room (Nat.le_of_ble_eq_true rfl)) dX7_hurtBehind_23 ⟨Nat.le_refl _, Nat.le_refl _⟩) hh (fun H locs hh => ?_)
      refine lv_iadd hx hb dX7_hurtBehind_26 ?_
      refine lv_istore_n (lv' := [(3, .int (x3 + q3)), (0, .ref (g.2.2 66)), (1, .int x1), (2, .int x2), (4, .int x4)]) hx hb dX7_hurtBehind_27 rfl hl (by decide) rfl (fun ls hl => ?_)
      refine lv_iinc (v := (x4 + (nI 1))) (lv' := [(4, .int (x4 + (nI 1))), (3, .int (x3 + q3)), (0, .ref (g.2.2 66)), (1, .int x1), (2, .int x2)]) hx hb dX7_hurtBehind_28 hl (k := 4) rfl rfl (by decide) rfl (fun ls hl => ?_)
      refine lv_goto (tgt := 5) hx hb dX7_hurtBehind_31 (by decide) ?_
      exact ih x1 x2 (x3 + q3) (x4 + (nI 1)) _ _ _ hf hh (lv_sub hl [2, 3, 4, 1, 0] rfl)
def fX7_hurtBehind (N : Nat) (τ : zS) (x1 : Int32) (x2 : Int32) : Option (Int32) :=
  (fX7_hurtBehind_5 N τ N) x1 x2 (nI 0) (nI 0)
set_option maxRecDepth 100000 in
set_option maxHeartbeats 4000000 in
theorem zcX7_hurtBehind (l : Launch) (g : zG) (A : Nat → Prop) (σ τ : zS) (N : Nat) (x1 : Int32) (x2 : Int32)  {res : Int32} (hf : fX7_hurtBehind N τ x1 x2 = some res) : Met l yX7_hurtBehind wsX7_hurtBehind (zR 2) (zPc g A σ τ [.ref (g.2.2 66), .int x1, .int x2]) (zPi g A σ (res, τ)) 0 0 A := by
  refine z_met (cc := cX7_hurtBehind) (ret := (some .int)) (own := RX7) (by decide) rfl rfl _ (Nat.le_of_ble_eq_true rfl) ?_
  intro p e s m below meth c C E ls hl hh
  have hl : lv_has ls 5 [(0, .ref (g.2.2 66)), (1, .int x1), (2, .int x2)] := hl
  obtain ⟨hx, hb, hr, hml, hown, hts, hlocks⟩ := id C
  unfold fX7_hurtBehind at hf
  refine lv_iconst (v := (nI 0)) hx hb dX7_hurtBehind_0 (by decide) ?_
  refine lv_istore_n (lv' := [(3, .int (nI 0)), (0, .ref (g.2.2 66)), (1, .int x1), (2, .int x2)]) hx hb dX7_hurtBehind_1 rfl hl (by decide) rfl (fun ls hl => ?_)
  refine lv_iconst (v := (nI 0)) hx hb dX7_hurtBehind_2 (by decide) ?_
  refine lv_istore (lv' := [(4, .int (nI 0)), (3, .int (nI 0)), (0, .ref (g.2.2 66)), (1, .int x1), (2, .int x2)]) hx hb dX7_hurtBehind_3 hl (by decide) rfl (fun ls hl => ?_)
  exact (hX7_hurtBehind_5 C E N N) x1 x2 (nI 0) (nI 0) _ _ _ hf hh (lv_sub hl [2, 3, 4, 1, 0] rfl)
/-! ===== X7_doesFit ===== -/
theorem hdX7_doesFit : yX7_doesFit.cls = RX7 ∧ yX7_doesFit.cls ≠ "java/lang/invoke/MethodHandle" ∧ yX7_doesFit.cls ≠ "java/lang/invoke/VarHandle" ∧ (parseMethodDescriptor yX7_doesFit.desc).map (fun d => d.parameters.length) = some 1 := by decide +kernel
def PX7_doesFit_66 (p : Program) (l : Launch) (e : Env) (s : State) (m : MethodId) (args : Array Value) (below : List Frame) (meth : Method) (c : Code) (g : zG) (A : Nat → Prop) (σ τ : zS) (res : Int32) (f : Int32 → Int32 → Int32 → Option (Int32)) : Prop := ∀ (x1 : Int32) (x3 : Int32) (s0 : Int32) (H : Heap) (locs : List Loc) (ls : Array Slot), f x1 x3 s0 = some res → zW g A σ τ s H locs → lv_has ls 4 [(0, .ref (g.2.2 66)), (1, .int x1), (3, .int x3)] → W p l e (zR 4) s m args below meth c H locs 0 0 (MQ below (zPi g A σ (res, τ)) args s 0 0 A) (F0 m 66 ls [.int s0])
def PX7_doesFit_65 (p : Program) (l : Launch) (e : Env) (s : State) (m : MethodId) (args : Array Value) (below : List Frame) (meth : Method) (c : Code) (g : zG) (A : Nat → Prop) (σ τ : zS) (res : Int32) (f : Int32 → Int32 → Option (Int32)) : Prop := ∀ (x1 : Int32) (x3 : Int32) (H : Heap) (locs : List Loc) (ls : Array Slot), f x1 x3 = some res → zW g A σ τ s H locs → lv_has ls 4 [(0, .ref (g.2.2 66)), (1, .int x1), (3, .int x3)] → W p l e (zR 4) s m args below meth c H locs 0 0 (MQ below (zPi g A σ (res, τ)) args s 0 0 A) (F0 m 65 ls [])
def PX7_doesFit_8 (p : Program) (l : Launch) (e : Env) (s : State) (m : MethodId) (args : Array Value) (below : List Frame) (meth : Method) (c : Code) (g : zG) (A : Nat → Prop) (σ τ : zS) (res : Int32) (f : Int32 → Int32 → Int32 → Option (Int32)) : Prop := ∀ (x1 : Int32) (x2 : Int32) (x3 : Int32) (H : Heap) (locs : List Loc) (ls : Array Slot), f x1 x2 x3 = some res → zW g A σ τ s H locs → lv_has ls 4 [(0, .ref (g.2.2 66)), (1, .int x1), (2, .int x2), (3, .int x3)] → W p l e (zR 4) s m args below meth c H locs 0 0 (MQ below (zPi g A σ (res, τ)) args s 0 0 A) (F0 m 8 ls [])
def fX7_doesFit_66 (N : Nat) (τ : zS) (rc : Int32 → Int32 → Int32 → Option (Int32)) (x1 : Int32) (x3 : Int32) (s0 : Int32) : Option (Int32) :=
  rc x1 s0 (x3 + (nI 1))
set_option maxRecDepth 100000 in
set_option maxHeartbeats 4000000 in
theorem hX7_doesFit_66 {p : Program} {l : Launch} {e : Env} {s : State} {m : MethodId} {args : Array Value} {below : List Frame} {meth : Method} {c : Code} {g : zG} {A : Nat → Prop} {σ τ : zS} {res : Int32} (C : zCx p s m args meth c cX7_doesFit (some .boolean) wsX7_doesFit RX7 4) (E : zE g A s) (N : Nat) (rc : Int32 → Int32 → Int32 → Option (Int32)) (hrc : PX7_doesFit_8 p l e s m args below meth c g A σ τ res rc) : PX7_doesFit_66 p l e s m args below meth c g A σ τ res (fX7_doesFit_66 N τ rc) := by
  obtain ⟨hx, hb, hr, hml, hown, hts, hlocks⟩ := id C
  intro x1 x3 s0 H locs ls hf hh hl
  unfold fX7_doesFit_66 at hf
  refine lv_istore_n (lv' := [(2, .int s0), (0, .ref (g.2.2 66)), (1, .int x1), (3, .int x3)]) hx hb dX7_doesFit_66 rfl hl (by decide) rfl (fun ls hl => ?_)
  refine lv_iinc (v := (x3 + (nI 1))) (lv' := [(3, .int (x3 + (nI 1))), (2, .int s0), (0, .ref (g.2.2 66)), (1, .int x1)]) hx hb dX7_doesFit_67 hl (k := 3) rfl rfl (by decide) rfl (fun ls hl => ?_)
  refine lv_goto (tgt := 8) hx hb dX7_doesFit_70 (by decide) ?_
  exact hrc x1 s0 (x3 + (nI 1)) _ _ _ hf hh (lv_sub hl [2, 3, 1, 0] rfl)
def fX7_doesFit_65 (N : Nat) (τ : zS) (rc : Int32 → Int32 → Int32 → Option (Int32)) (x1 : Int32) (x3 : Int32) : Option (Int32) :=
  (fX7_doesFit_66 N τ rc) x1 x3 (nI 0)
set_option maxRecDepth 100000 in
set_option maxHeartbeats 4000000 in
theorem hX7_doesFit_65 {p : Program} {l : Launch} {e : Env} {s : State} {m : MethodId} {args : Array Value} {below : List Frame} {meth : Method} {c : Code} {g : zG} {A : Nat → Prop} {σ τ : zS} {res : Int32} (C : zCx p s m args meth c cX7_doesFit (some .boolean) wsX7_doesFit RX7 4) (E : zE g A s) (N : Nat) (rc : Int32 → Int32 → Int32 → Option (Int32)) (hrc : PX7_doesFit_8 p l e s m args below meth c g A σ τ res rc) : PX7_doesFit_65 p l e s m args below meth c g A σ τ res (fX7_doesFit_65 N τ rc) := by
  obtain ⟨hx, hb, hr, hml, hown, hts, hlocks⟩ := id C
  intro x1 x3 H locs ls hf hh hl
  unfold fX7_doesFit_65 at hf
  refine lv_iconst (v := (nI 0)) hx hb dX7_doesFit_65 (by decide) ?_
  exact (hX7_doesFit_66 C E N rc hrc) x1 x3 (nI 0) _ _ _ hf hh (lv_sub hl [0, 1, 2] rfl)
def fX7_doesFit_8 (N : Nat) (τ : zS) : Nat → Int32 → Int32 → Int32 → Option (Int32)
  | 0, _, _, _ => none
  | n + 1, x1, x2, x3 =>
    if (τ.1 66 28) ≤ x3 then
      if x2 = 0 ∨ x2 = 1 then
      some x2
      else none
    else
      if x2 = 0 then
        if x2 = 0 ∨ x2 = 1 then
        some x2
        else none
      else
        if zin ((nI 2) * x3) (zlen 60) then
        zlet (τ.2 60 ((nI 2) * x3).toNatClampNeg) fun v6 =>
        if (τ.1 66 1) < v6 then
          (fX7_doesFit_65 N τ (fX7_doesFit_8 N τ n)) x1 x3
        else
          if zin ((nI 2) * x3) (zlen 60) then
          zlet (τ.2 60 ((nI 2) * x3).toNatClampNeg) fun v9 =>
          (fX7_hurtBehind N τ x1 v9).bind fun q10 =>
          if zin (((nI 2) * x3) + (nI 1)) (zlen 60) then
          zlet (τ.2 60 (((nI 2) * x3) + (nI 1)).toNatClampNeg) fun v12 =>
          if q10 = v12 then
            (fX7_doesFit_66 N τ (fX7_doesFit_8 N τ n)) x1 x3 (nI 1)
          else
            (fX7_doesFit_65 N τ (fX7_doesFit_8 N τ n)) x1 x3
          else none
          else none
        else none
set_option maxRecDepth 100000 in
set_option maxHeartbeats 4000000 in
theorem hX7_doesFit_8 {p : Program} {l : Launch} {e : Env} {s : State} {m : MethodId} {args : Array Value} {below : List Frame} {meth : Method} {c : Code} {g : zG} {A : Nat → Prop} {σ τ : zS} {res : Int32} (C : zCx p s m args meth c cX7_doesFit (some .boolean) wsX7_doesFit RX7 4) (E : zE g A s) (N : Nat) : ∀ n : Nat, PX7_doesFit_8 p l e s m args below meth c g A σ τ res (fX7_doesFit_8 N τ n) := by
  obtain ⟨hx, hb, hr, hml, hown, hts, hlocks⟩ := id C
  intro n
  induction n with
  | zero =>
    intro x1 x2 x3 H locs ls hf
    exact absurd hf (by simp [fX7_doesFit_8])
  | succ n ih =>
    intro x1 x2 x3 H locs ls hf hh hl
    rw [fX7_doesFit_8] at hf
    refine lv_iload_n hx hb dX7_doesFit_8 rfl (lv_at hl 3 rfl) ?_
    refine lv_aload_n hx hb dX7_doesFit_9 rfl (lv_at hl 0 rfl) ?_
    refine z_get (v := .int (τ.1 66 28)) hx hb hts (fun w h => List.mem_cons_of_mem _ (List.mem_append_right _ (h))) hown E hh (by decide) (zC_obj (q := 66) rfl) rfl 28 (by decide) (hts (.fieldLink RX7 147 "TownBandModel" "seenMany" "I") (List.mem_cons_of_mem _ (List.mem_append_left _ (List.mem_append_left _ (List.mem_of_getElem? (i := 0) rfl))))) rfl dX7_doesFit_10 ?_
    refine lv_icmp_ge (tgt := 73) hx hb dX7_doesFit_13 (by decide) (fun c_v1 => ?_) (fun c_v1 => ?_)
    · have hf := z_ip hf c_v1
      refine lv_iload_n hx hb dX7_doesFit_73 rfl (lv_at hl 2 rfl) ?_
      obtain ⟨h_v2, hf⟩ := z_if hf
      have hf := Option.some.inj hf
      subst hf
      exact z_zretM hx hb hr hlocks h_v2 hh dX7_doesFit_74
    · have hf := z_in hf c_v1
      refine lv_iload_n hx hb dX7_doesFit_16 rfl (lv_at hl 2 rfl) ?_
      refine lv_if_eq (tgt := 73) hx hb dX7_doesFit_17 (by decide) (fun c_v3 => ?_) (fun c_v3 => ?_)
      · have hf := z_ip hf c_v3
        refine lv_iload_n hx hb dX7_doesFit_73 rfl (lv_at hl 2 rfl) ?_
        obtain ⟨h_v4, hf⟩ := z_if hf
        have hf := Option.some.inj hf
        subst hf
        exact z_zretM hx hb hr hlocks h_v4 hh dX7_doesFit_74
      · have hf := z_in hf c_v3
        refine lv_aload_n hx hb dX7_doesFit_20 rfl (lv_at hl 0 rfl) ?_
        refine z_get (v := .ref (g.2.2 60)) hx hb hts (fun w h => List.mem_cons_of_mem _ (List.mem_append_right _ (h))) hown E hh (by decide) (zC_obj (q := 66) rfl) rfl 27 (by decide) (hts (.fieldLink RX7 25 "TownBandModel" "seen" "[I") (List.mem_cons_of_mem _ (List.mem_append_left _ (List.mem_append_left _ (List.mem_of_getElem? (i := 1) rfl))))) rfl dX7_doesFit_21 ?_
        refine lv_iconst (v := (nI 2)) hx hb dX7_doesFit_24 (by decide) ?_
        refine lv_iload_n hx hb dX7_doesFit_25 rfl (lv_at hl 3 rfl) ?_
        refine lv_imul hx hb dX7_doesFit_26 ?_
        obtain ⟨h_v5, hf⟩ := z_if hf
        obtain ⟨v6, e_v6, hf⟩ := z_lt hf
        refine z_ialdM hx hb E hh (by decide) (by decide) h_v5 e_v6 dX7_doesFit_27 ?_
        refine lv_aload_n hx hb dX7_doesFit_28 rfl (lv_at hl 0 rfl) ?_
        refine z_get (v := .int (τ.1 66 1)) hx hb hts (fun w h => List.mem_cons_of_mem _ (List.mem_append_right _ (h))) hown E hh (by decide) (zC_obj (q := 66) rfl) rfl 1 (by decide) (hts (.fieldLink RX7 141 "TownBandModel" "beastMany" "I") (List.mem_cons_of_mem _ (List.mem_append_left _ (List.mem_append_left _ (List.mem_of_getElem? (i := 2) rfl))))) rfl dX7_doesFit_29 ?_
        refine lv_icmp_gt (tgt := 65) hx hb dX7_doesFit_32 (by decide) (fun c_v7 => ?_) (fun c_v7 => ?_)
        · have hf := z_ip hf c_v7
          exact (hX7_doesFit_65 C E N (fX7_doesFit_8 N τ n) ih) x1 x3 _ _ _ hf hh (lv_sub hl [0, 1, 3] rfl)
        · have hf := z_in hf c_v7
          refine lv_aload_n hx hb dX7_doesFit_35 rfl (lv_at hl 0 rfl) ?_
          refine lv_iload_n hx hb dX7_doesFit_36 rfl (lv_at hl 1 rfl) ?_
          refine lv_aload_n hx hb dX7_doesFit_37 rfl (lv_at hl 0 rfl) ?_
          refine z_get (v := .ref (g.2.2 60)) hx hb hts (fun w h => List.mem_cons_of_mem _ (List.mem_append_right _ (h))) hown E hh (by decide) (zC_obj (q := 66) rfl) rfl 27 (by decide) (hts (.fieldLink RX7 25 "TownBandModel" "seen" "[I") (List.mem_cons_of_mem _ (List.mem_append_left _ (List.mem_append_left _ (List.mem_of_getElem? (i := 1) rfl))))) rfl dX7_doesFit_38 ?_
          refine lv_iconst (v := (nI 2)) hx hb dX7_doesFit_41 (by decide) ?_
          refine lv_iload_n hx hb dX7_doesFit_42 rfl (lv_at hl 3 rfl) ?_
          refine lv_imul hx hb dX7_doesFit_43 ?_
          obtain ⟨h_v8, hf⟩ := z_if hf
          obtain ⟨v9, e_v9, hf⟩ := z_lt hf
          refine z_ialdM hx hb E hh (by decide) (by decide) h_v8 e_v9 dX7_doesFit_44 ?_
          obtain ⟨q10, h_q10, hf⟩ := z_bd hf
          refine z_mi (va_runV (As := [.int x1, .int v9]) (rest := []) ⟨hx, hb, hml, hown, hts⟩ (zcX7_hurtBehind l g A σ τ N x1 v9 h_q10) (cwV 2 hts gX7_doesFit_X7_hurtBehind rfl rfl rfl hdX7_hurtBehind ⟨by decide, by decide⟩) (z_preV E hh (by decide) (zC_obj (q := 66) rfl) rfl) rfl rfl hl.1 rfl (lv_room (Nat.le_of_ble_eq_true rfl)) dX7_doesFit_45 ⟨Nat.le_refl _, Nat.le_refl _⟩) hh (fun H locs hh => ?_)
          refine lv_aload_n hx hb dX7_doesFit_48 rfl (lv_at hl 0 rfl) ?_
          refine z_get (v := .ref (g.2.2 60)) hx hb hts (fun w h => List.mem_cons_of_mem _ (List.mem_append_right _ (h))) hown E hh (by decide) (zC_obj (q := 66) rfl) rfl 27 (by decide) (hts (.fieldLink RX7 25 "TownBandModel" "seen" "[I") (List.mem_cons_of_mem _ (List.mem_append_left _ (List.mem_append_left _ (List.mem_of_getElem? (i := 1) rfl))))) rfl dX7_doesFit_49 ?_
          refine lv_iconst (v := (nI 2)) hx hb dX7_doesFit_52 (by decide) ?_
          refine lv_iload_n hx hb dX7_doesFit_53 rfl (lv_at hl 3 rfl) ?_
          refine lv_imul hx hb dX7_doesFit_54 ?_
          refine lv_iconst (v := (nI 1)) hx hb dX7_doesFit_55 (by decide) ?_
          refine lv_iadd hx hb dX7_doesFit_56 ?_
          obtain ⟨h_v11, hf⟩ := z_if hf
          obtain ⟨v12, e_v12, hf⟩ := z_lt hf
          refine z_ialdM hx hb E hh (by decide) (by decide) h_v11 e_v12 dX7_doesFit_57 ?_
          refine lv_icmp_ne (tgt := 65) hx hb dX7_doesFit_58 (by decide) (fun c_v13 => ?_) (fun c_v13 => ?_)
          · have hf := z_in hf c_v13
            exact (hX7_doesFit_65 C E N (fX7_doesFit_8 N τ n) ih) x1 x3 _ _ _ hf hh (lv_sub hl [0, 1, 3] rfl)
          · have hf := z_ip hf c_v13
            refine lv_iconst (v := (nI 1)) hx hb dX7_doesFit_61 (by decide) ?_
            refine lv_goto (tgt := 66) hx hb dX7_doesFit_62 (by decide) ?_
            exact (hX7_doesFit_66 C E N (fX7_doesFit_8 N τ n) ih) x1 x3 (nI 1) _ _ _ hf hh (lv_sub hl [0, 1, 3] rfl)
def fX7_doesFit (N : Nat) (τ : zS) (x1 : Int32) : Option (Int32) :=
  (fX7_isOrder N τ x1).bind fun q1 =>
  (fX7_doesFit_8 N τ N) x1 q1 (nI 0)
set_option maxRecDepth 100000 in
set_option maxHeartbeats 4000000 in
theorem zcX7_doesFit (l : Launch) (g : zG) (A : Nat → Prop) (σ τ : zS) (N : Nat) (x1 : Int32)  {res : Int32} (hf : fX7_doesFit N τ x1 = some res) : Met l yX7_doesFit wsX7_doesFit (zR 4) (zPc g A σ τ [.ref (g.2.2 66), .int x1]) (zPi g A σ (res, τ)) 0 0 A := by
  refine z_met (cc := cX7_doesFit) (ret := (some .boolean)) (own := RX7) (by decide) rfl rfl _ (Nat.le_of_ble_eq_true rfl) ?_
  intro p e s m below meth c C E ls hl hh
  have hl : lv_has ls 4 [(0, .ref (g.2.2 66)), (1, .int x1)] := hl
  obtain ⟨hx, hb, hr, hml, hown, hts, hlocks⟩ := id C
  unfold fX7_doesFit at hf
  refine lv_aload_n hx hb dX7_doesFit_0 rfl (lv_at hl 0 rfl) ?_
  refine lv_iload_n hx hb dX7_doesFit_1 rfl (lv_at hl 1 rfl) ?_
  obtain ⟨q1, h_q1, hf⟩ := z_bd hf
  refine z_mi (va_runV (As := [.int x1]) (rest := []) ⟨hx, hb, hml, hown, hts⟩ (zcX7_isOrder l g A σ τ N x1 h_q1) (cwV 1 hts gX7_doesFit_X7_isOrder rfl rfl rfl hdX7_isOrder ⟨by decide, by decide⟩) (z_preV E hh (by decide) (zC_obj (q := 66) rfl) rfl) rfl rfl hl.1 rfl (lv_room (Nat.le_of_ble_eq_true rfl)) dX7_doesFit_2 ⟨Nat.le_refl _, Nat.le_refl _⟩) hh (fun H locs hh => ?_)
  refine lv_istore_n (lv' := [(2, .int q1), (0, .ref (g.2.2 66)), (1, .int x1)]) hx hb dX7_doesFit_5 rfl hl (by decide) rfl (fun ls hl => ?_)
  refine lv_iconst (v := (nI 0)) hx hb dX7_doesFit_6 (by decide) ?_
  refine lv_istore_n (lv' := [(3, .int (nI 0)), (2, .int q1), (0, .ref (g.2.2 66)), (1, .int x1)]) hx hb dX7_doesFit_7 rfl hl (by decide) rfl (fun ls hl => ?_)
  exact (hX7_doesFit_8 C E N N) x1 q1 (nI 0) _ _ _ hf hh (lv_sub hl [2, 3, 1, 0] rfl)
/-! ===== X7_fits ===== -/
theorem hdX7_fits : yX7_fits.cls = RX7 ∧ yX7_fits.cls ≠ "java/lang/invoke/MethodHandle" ∧ yX7_fits.cls ≠ "java/lang/invoke/VarHandle" ∧ (parseMethodDescriptor yX7_fits.desc).map (fun d => d.parameters.length) = some 1 := by decide +kernel
def PX7_fits_134 (p : Program) (l : Launch) (e : Env) (s : State) (m : MethodId) (args : Array Value) (below : List Frame) (meth : Method) (c : Code) (g : zG) (A : Nat → Prop) (σ τ : zS) (res : Int32) (f : Int32 → Int32 → Int32 → Int32 → Option (Int32)) : Prop := ∀ (x1 : Int32) (x2 : Int32) (x3 : Int32) (x4 : Int32) (H : Heap) (locs : List Loc) (ls : Array Slot), f x1 x2 x3 x4 = some res → zW g A σ τ s H locs → lv_has ls 6 [(0, .ref (g.2.2 66)), (1, .int x1), (2, .int x2), (3, .int x3), (4, .int x4)] → W p l e (zR 5) s m args below meth c H locs 0 0 (MQ below (zPi g A σ (res, τ)) args s 0 0 A) (F0 m 134 ls [])
def PX7_fits_128 (p : Program) (l : Launch) (e : Env) (s : State) (m : MethodId) (args : Array Value) (below : List Frame) (meth : Method) (c : Code) (g : zG) (A : Nat → Prop) (σ τ : zS) (res : Int32) (f : Int32 → Int32 → Int32 → Int32 → Int32 → Option (Int32)) : Prop := ∀ (x1 : Int32) (x2 : Int32) (x3 : Int32) (x4 : Int32) (x5 : Int32) (H : Heap) (locs : List Loc) (ls : Array Slot), f x1 x2 x3 x4 x5 = some res → zW g A σ τ s H locs → lv_has ls 6 [(0, .ref (g.2.2 66)), (1, .int x1), (2, .int x2), (3, .int x3), (4, .int x4), (5, .int x5)] → W p l e (zR 5) s m args below meth c H locs 0 0 (MQ below (zPi g A σ (res, τ)) args s 0 0 A) (F0 m 128 ls [])
def PX7_fits_125 (p : Program) (l : Launch) (e : Env) (s : State) (m : MethodId) (args : Array Value) (below : List Frame) (meth : Method) (c : Code) (g : zG) (A : Nat → Prop) (σ τ : zS) (res : Int32) (f : Int32 → Int32 → Int32 → Int32 → Int32 → Int32 → Option (Int32)) : Prop := ∀ (x1 : Int32) (x2 : Int32) (x3 : Int32) (x5 : Int32) (s0 : Int32) (s1 : Int32) (H : Heap) (locs : List Loc) (ls : Array Slot), f x1 x2 x3 x5 s0 s1 = some res → zW g A σ τ s H locs → lv_has ls 6 [(0, .ref (g.2.2 66)), (1, .int x1), (2, .int x2), (3, .int x3), (5, .int x5)] → W p l e (zR 5) s m args below meth c H locs 0 0 (MQ below (zPi g A σ (res, τ)) args s 0 0 A) (F0 m 125 ls [.int s0, .int s1])
def PX7_fits_86 (p : Program) (l : Launch) (e : Env) (s : State) (m : MethodId) (args : Array Value) (below : List Frame) (meth : Method) (c : Code) (g : zG) (A : Nat → Prop) (σ τ : zS) (res : Int32) (f : Int32 → Int32 → Int32 → Int32 → Int32 → Option (Int32)) : Prop := ∀ (x1 : Int32) (x2 : Int32) (x4 : Int32) (x5 : Int32) (s0 : Int32) (H : Heap) (locs : List Loc) (ls : Array Slot), f x1 x2 x4 x5 s0 = some res → zW g A σ τ s H locs → lv_has ls 6 [(0, .ref (g.2.2 66)), (1, .int x1), (2, .int x2), (4, .int x4), (5, .int x5)] → W p l e (zR 5) s m args below meth c H locs 0 0 (MQ below (zPi g A σ (res, τ)) args s 0 0 A) (F0 m 86 ls [.int s0])
def PX7_fits_55 (p : Program) (l : Launch) (e : Env) (s : State) (m : MethodId) (args : Array Value) (below : List Frame) (meth : Method) (c : Code) (g : zG) (A : Nat → Prop) (σ τ : zS) (res : Int32) (f : Int32 → Int32 → Int32 → Int32 → Int32 → Option (Int32)) : Prop := ∀ (x1 : Int32) (x2 : Int32) (x3 : Int32) (x4 : Int32) (x5 : Int32) (H : Heap) (locs : List Loc) (ls : Array Slot), f x1 x2 x3 x4 x5 = some res → zW g A σ τ s H locs → lv_has ls 6 [(0, .ref (g.2.2 66)), (1, .int x1), (2, .int x2), (3, .int x3), (4, .int x4), (5, .int x5)] → W p l e (zR 5) s m args below meth c H locs 0 0 (MQ below (zPi g A σ (res, τ)) args s 0 0 A) (F0 m 55 ls [])
def PX7_fits_44 (p : Program) (l : Launch) (e : Env) (s : State) (m : MethodId) (args : Array Value) (below : List Frame) (meth : Method) (c : Code) (g : zG) (A : Nat → Prop) (σ τ : zS) (res : Int32) (f : Int32 → Option (Int32)) : Prop := ∀ (x1 : Int32) (H : Heap) (locs : List Loc) (ls : Array Slot), f x1 = some res → zW g A σ τ s H locs → lv_has ls 6 [(0, .ref (g.2.2 66)), (1, .int x1)] → W p l e (zR 5) s m args below meth c H locs 0 0 (MQ below (zPi g A σ (res, τ)) args s 0 0 A) (F0 m 44 ls [])
def fX7_fits_134 (N : Nat) (τ : zS) (x1 : Int32) (x2 : Int32) (x3 : Int32) (x4 : Int32) : Option (Int32) :=
  if x1 = 0 then
    some x2
  else
    if (nI 20) ≤ x1 then
      if x3 = (-4) then
        some (-4)
      else
        (fX7_figureOf N x3 (τ.1 66 1) (x1 - (nI 20))).bind fun q4 =>
        some q4
    else
      some x4
set_option maxRecDepth 100000 in
set_option maxHeartbeats 4000000 in
theorem hX7_fits_134 {p : Program} {l : Launch} {e : Env} {s : State} {m : MethodId} {args : Array Value} {below : List Frame} {meth : Method} {c : Code} {g : zG} {A : Nat → Prop} {σ τ : zS} {res : Int32} (C : zCx p s m args meth c cX7_fits (some .int) wsX7_fits RX7 6) (E : zE g A s) (N : Nat) : PX7_fits_134 p l e s m args below meth c g A σ τ res (fX7_fits_134 N τ) := by
  obtain ⟨hx, hb, hr, hml, hown, hts, hlocks⟩ := id C
  intro x1 x2 x3 x4 H locs ls hf hh hl
  unfold fX7_fits_134 at hf
  refine lv_iload_n hx hb dX7_fits_134 rfl (lv_at hl 1 rfl) ?_
  refine lv_if_ne (tgt := 142) hx hb dX7_fits_135 (by decide) (fun c_v1 => ?_) (fun c_v1 => ?_)
  · have hf := z_in hf c_v1
    refine lv_iload_n hx hb dX7_fits_142 rfl (lv_at hl 1 rfl) ?_
    refine lv_bipush (v := (nI 20)) hx hb dX7_fits_143 (by decide) ?_
    refine lv_icmp_ge (tgt := 153) hx hb dX7_fits_145 (by decide) (fun c_v2 => ?_) (fun c_v2 => ?_)
    · have hf := z_ip hf c_v2
      refine lv_iload_n hx hb dX7_fits_153 rfl (lv_at hl 3 rfl) ?_
      refine lv_bipush (v := (-4)) hx hb dX7_fits_154 (by decide) ?_
      refine lv_icmp_ne (tgt := 164) hx hb dX7_fits_156 (by decide) (fun c_v3 => ?_) (fun c_v3 => ?_)
      · have hf := z_in hf c_v3
        refine lv_iload_n hx hb dX7_fits_164 rfl (lv_at hl 3 rfl) ?_
        refine lv_aload_n hx hb dX7_fits_165 rfl (lv_at hl 0 rfl) ?_
        refine z_get (v := .int (τ.1 66 1)) hx hb hts (fun w h => List.mem_cons_of_mem _ (List.mem_append_right _ (h))) hown E hh (by decide) (zC_obj (q := 66) rfl) rfl 1 (by decide) (hts (.fieldLink RX7 141 "TownBandModel" "beastMany" "I") (List.mem_cons_of_mem _ (List.mem_append_left _ (List.mem_append_left _ (List.mem_of_getElem? (i := 1) rfl))))) rfl dX7_fits_166 ?_
        refine lv_iload_n hx hb dX7_fits_169 rfl (lv_at hl 1 rfl) ?_
        refine lv_bipush (v := (nI 20)) hx hb dX7_fits_170 (by decide) ?_
        refine lv_isub hx hb dX7_fits_172 ?_
        obtain ⟨q4, h_q4, hf⟩ := z_bd hf
        refine z_mi (va_runS (As := [.int x3, .int (τ.1 66 1), .int (x1 - (nI 20))]) (rest := []) ⟨hx, hb, hml, hown, hts⟩ (zcX7_figureOf l g A σ τ N x3 (τ.1 66 1) (x1 - (nI 20)) h_q4) (va_cwS 3 hts gX7_fits_X7_figureOf rfl rfl rfl hdX7_figureOf.2 ⟨by decide, by decide⟩) (z_preS E hh) rfl rfl hl.1 rfl (lv_room (Nat.le_of_ble_eq_true rfl)) dX7_fits_173 ⟨Nat.le_refl _, Nat.le_refl _⟩) hh (fun H locs hh => ?_)
        have hf := Option.some.inj hf
        subst hf
        exact z_iretM hx hb hr hlocks hh dX7_fits_176
      · have hf := z_ip hf c_v3
        refine lv_bipush (v := (-4)) hx hb dX7_fits_159 (by decide) ?_
        refine lv_goto (tgt := 176) hx hb dX7_fits_161 (by decide) ?_
        have hf := Option.some.inj hf
        subst hf
        exact z_iretM hx hb hr hlocks hh dX7_fits_176
    · have hf := z_in hf c_v2
      refine lv_iload hx hb dX7_fits_148 (lv_at hl 4 rfl) ?_
      refine lv_goto (tgt := 176) hx hb dX7_fits_150 (by decide) ?_
      have hf := Option.some.inj hf
      subst hf
      exact z_iretM hx hb hr hlocks hh dX7_fits_176
  · have hf := z_ip hf c_v1
    refine lv_iload_n hx hb dX7_fits_138 rfl (lv_at hl 2 rfl) ?_
    refine lv_goto (tgt := 176) hx hb dX7_fits_139 (by decide) ?_
    have hf := Option.some.inj hf
    subst hf
    exact z_iretM hx hb hr hlocks hh dX7_fits_176
def fX7_fits_128 (N : Nat) (τ : zS) (rc : Int32 → Int32 → Int32 → Int32 → Int32 → Option (Int32)) (k_134 : Int32 → Int32 → Int32 → Int32 → Option (Int32)) (x1 : Int32) (x2 : Int32) (x3 : Int32) (x4 : Int32) (x5 : Int32) : Option (Int32) :=
  rc x1 x2 x3 x4 (x5 + (nI 1))
set_option maxRecDepth 100000 in
set_option maxHeartbeats 4000000 in
theorem hX7_fits_128 {p : Program} {l : Launch} {e : Env} {s : State} {m : MethodId} {args : Array Value} {below : List Frame} {meth : Method} {c : Code} {g : zG} {A : Nat → Prop} {σ τ : zS} {res : Int32} (C : zCx p s m args meth c cX7_fits (some .int) wsX7_fits RX7 6) (E : zE g A s) (N : Nat) (rc : Int32 → Int32 → Int32 → Int32 → Int32 → Option (Int32)) (hrc : PX7_fits_55 p l e s m args below meth c g A σ τ res rc) (k_134 : Int32 → Int32 → Int32 → Int32 → Option (Int32)) (hk_134 : PX7_fits_134 p l e s m args below meth c g A σ τ res k_134) : PX7_fits_128 p l e s m args below meth c g A σ τ res (fX7_fits_128 N τ rc k_134) := by
  obtain ⟨hx, hb, hr, hml, hown, hts, hlocks⟩ := id C
  intro x1 x2 x3 x4 x5 H locs ls hf hh hl
  unfold fX7_fits_128 at hf
  refine lv_iinc (v := (x5 + (nI 1))) (lv' := [(5, .int (x5 + (nI 1))), (0, .ref (g.2.2 66)), (1, .int x1), (2, .int x2), (3, .int x3), (4, .int x4)]) hx hb dX7_fits_128 hl (k := 5) rfl rfl (by decide) rfl (fun ls hl => ?_)
  refine lv_goto (tgt := 55) hx hb dX7_fits_131 (by decide) ?_
  exact hrc x1 x2 x3 x4 (x5 + (nI 1)) _ _ _ hf hh (lv_sub hl [1, 2, 3, 4, 5, 0] rfl)
def fX7_fits_125 (N : Nat) (τ : zS) (rc : Int32 → Int32 → Int32 → Int32 → Int32 → Option (Int32)) (k_134 : Int32 → Int32 → Int32 → Int32 → Option (Int32)) (x1 : Int32) (x2 : Int32) (x3 : Int32) (x5 : Int32) (s0 : Int32) (s1 : Int32) : Option (Int32) :=
  zlet (s1 ||| s0) fun v1 =>
  (fX7_fits_128 N τ rc k_134) x1 x2 x3 v1 x5
set_option maxRecDepth 100000 in
set_option maxHeartbeats 4000000 in
theorem hX7_fits_125 {p : Program} {l : Launch} {e : Env} {s : State} {m : MethodId} {args : Array Value} {below : List Frame} {meth : Method} {c : Code} {g : zG} {A : Nat → Prop} {σ τ : zS} {res : Int32} (C : zCx p s m args meth c cX7_fits (some .int) wsX7_fits RX7 6) (E : zE g A s) (N : Nat) (rc : Int32 → Int32 → Int32 → Int32 → Int32 → Option (Int32)) (hrc : PX7_fits_55 p l e s m args below meth c g A σ τ res rc) (k_134 : Int32 → Int32 → Int32 → Int32 → Option (Int32)) (hk_134 : PX7_fits_134 p l e s m args below meth c g A σ τ res k_134) : PX7_fits_125 p l e s m args below meth c g A σ τ res (fX7_fits_125 N τ rc k_134) := by
  obtain ⟨hx, hb, hr, hml, hown, hts, hlocks⟩ := id C
  intro x1 x2 x3 x5 s0 s1 H locs ls hf hh hl
  unfold fX7_fits_125 at hf
  refine lv_ior hx hb dX7_fits_125 ?_
  obtain ⟨v1, e_v1, hf⟩ := z_lt hf
  refine z_topi e_v1 ?_
  refine lv_istore (lv' := [(4, .int v1), (0, .ref (g.2.2 66)), (1, .int x1), (2, .int x2), (3, .int x3), (5, .int x5)]) hx hb dX7_fits_126 hl (by decide) rfl (fun ls hl => ?_)
  exact (hX7_fits_128 C E N rc hrc k_134 hk_134) x1 x2 x3 v1 x5 _ _ _ hf hh (lv_sub hl [1, 2, 3, 4, 0, 5] rfl)
def fX7_fits_86 (N : Nat) (τ : zS) (rc : Int32 → Int32 → Int32 → Int32 → Int32 → Option (Int32)) (k_134 : Int32 → Int32 → Int32 → Int32 → Option (Int32)) (x1 : Int32) (x2 : Int32) (x4 : Int32) (x5 : Int32) (s0 : Int32) : Option (Int32) :=
  (fX7_in N x1.toInt64 10 14).bind fun q1 =>
  if q1 = 0 then
    (fX7_fits_125 N τ rc k_134) x1 (x2 + (nI 1)) s0 x5 (nI 0) x4
  else
    (fX7_figureOf N x5 (τ.1 66 1) (x1 - (nI 10))).bind fun q3 =>
    (fX7_fits_125 N τ rc k_134) x1 (x2 + (nI 1)) s0 x5 ((nI 1) <<< (q3 &&& 31)) x4
set_option maxRecDepth 100000 in
set_option maxHeartbeats 4000000 in
theorem hX7_fits_86 {p : Program} {l : Launch} {e : Env} {s : State} {m : MethodId} {args : Array Value} {below : List Frame} {meth : Method} {c : Code} {g : zG} {A : Nat → Prop} {σ τ : zS} {res : Int32} (C : zCx p s m args meth c cX7_fits (some .int) wsX7_fits RX7 6) (E : zE g A s) (N : Nat) (rc : Int32 → Int32 → Int32 → Int32 → Int32 → Option (Int32)) (hrc : PX7_fits_55 p l e s m args below meth c g A σ τ res rc) (k_134 : Int32 → Int32 → Int32 → Int32 → Option (Int32)) (hk_134 : PX7_fits_134 p l e s m args below meth c g A σ τ res k_134) : PX7_fits_86 p l e s m args below meth c g A σ τ res (fX7_fits_86 N τ rc k_134) := by
  obtain ⟨hx, hb, hr, hml, hown, hts, hlocks⟩ := id C
  intro x1 x2 x4 x5 s0 H locs ls hf hh hl
  unfold fX7_fits_86 at hf
  refine lv_istore_n (lv' := [(3, .int s0), (0, .ref (g.2.2 66)), (1, .int x1), (2, .int x2), (4, .int x4), (5, .int x5)]) hx hb dX7_fits_86 rfl hl (by decide) rfl (fun ls hl => ?_)
  refine lv_iinc (v := (x2 + (nI 1))) (lv' := [(2, .int (x2 + (nI 1))), (3, .int s0), (0, .ref (g.2.2 66)), (1, .int x1), (4, .int x4), (5, .int x5)]) hx hb dX7_fits_87 hl (k := 3) rfl rfl (by decide) rfl (fun ls hl => ?_)
  refine lv_iload hx hb dX7_fits_90 (lv_at hl 4 rfl) ?_
  refine lv_iload_n hx hb dX7_fits_92 rfl (lv_at hl 3 rfl) ?_
  refine lv_i2l hx hb dX7_fits_93 rfl ?_
  refine lv_ldc2 (v := 10) hx hb hown (hts (.constantLong RX7 236 (10)) (List.mem_cons_of_mem _ (List.mem_append_left _ (List.mem_append_left _ (List.mem_of_getElem? (i := 0) rfl))))) dX7_fits_94 ?_
  refine lv_ldc2 (v := 14) hx hb hown (hts (.constantLong RX7 238 (14)) (List.mem_cons_of_mem _ (List.mem_append_left _ (List.mem_append_left _ (List.mem_of_getElem? (i := 3) rfl))))) dX7_fits_97 ?_
  obtain ⟨q1, h_q1, hf⟩ := z_bd hf
  refine z_mi (va_runS (As := [.long x1.toInt64, .long 10, .long 14]) (rest := [.int x4]) ⟨hx, hb, hml, hown, hts⟩ (zcX7_in l g A σ τ N x1.toInt64 10 14 h_q1) (va_cwS 3 hts gX7_fits_X7_in rfl rfl rfl hdX7_in.2 ⟨by decide, by decide⟩) (z_preS E hh) rfl rfl hl.1 rfl (lv_room (Nat.le_of_ble_eq_true rfl)) dX7_fits_100 ⟨Nat.le_refl _, Nat.le_refl _⟩) hh (fun H locs hh => ?_)
  refine lv_if_eq (tgt := 124) hx hb dX7_fits_103 (by decide) (fun c_v2 => ?_) (fun c_v2 => ?_)
  · have hf := z_ip hf c_v2
    refine lv_iconst (v := (nI 0)) hx hb dX7_fits_124 (by decide) ?_
    exact (hX7_fits_125 C E N rc hrc k_134 hk_134) x1 (x2 + (nI 1)) s0 x5 (nI 0) x4 _ _ _ hf hh (lv_sub hl [2, 3, 0, 1, 5] rfl)
  · have hf := z_in hf c_v2
    refine lv_iconst (v := (nI 1)) hx hb dX7_fits_106 (by decide) ?_
    refine lv_iload hx hb dX7_fits_107 (lv_at hl 5 rfl) ?_
    refine lv_aload_n hx hb dX7_fits_109 rfl (lv_at hl 2 rfl) ?_
    refine z_get (v := .int (τ.1 66 1)) hx hb hts (fun w h => List.mem_cons_of_mem _ (List.mem_append_right _ (h))) hown E hh (by decide) (zC_obj (q := 66) rfl) rfl 1 (by decide) (hts (.fieldLink RX7 141 "TownBandModel" "beastMany" "I") (List.mem_cons_of_mem _ (List.mem_append_left _ (List.mem_append_left _ (List.mem_of_getElem? (i := 1) rfl))))) rfl dX7_fits_110 ?_
    refine lv_iload_n hx hb dX7_fits_113 rfl (lv_at hl 3 rfl) ?_
    refine lv_bipush (v := (nI 10)) hx hb dX7_fits_114 (by decide) ?_
    refine lv_isub hx hb dX7_fits_116 ?_
    obtain ⟨q3, h_q3, hf⟩ := z_bd hf
    refine z_mi (va_runS (As := [.int x5, .int (τ.1 66 1), .int (x1 - (nI 10))]) (rest := [.int (nI 1), .int x4]) ⟨hx, hb, hml, hown, hts⟩ (zcX7_figureOf l g A σ τ N x5 (τ.1 66 1) (x1 - (nI 10)) h_q3) (va_cwS 3 hts gX7_fits_X7_figureOf rfl rfl rfl hdX7_figureOf.2 ⟨by decide, by decide⟩) (z_preS E hh) rfl rfl hl.1 rfl (lv_room (Nat.le_of_ble_eq_true rfl)) dX7_fits_117 ⟨Nat.le_refl _, Nat.le_refl _⟩) hh (fun H locs hh => ?_)
    refine lv_ishl hx hb dX7_fits_120 ?_
    refine lv_goto (tgt := 125) hx hb dX7_fits_121 (by decide) ?_
    exact (hX7_fits_125 C E N rc hrc k_134 hk_134) x1 (x2 + (nI 1)) s0 x5 ((nI 1) <<< (q3 &&& 31)) x4 _ _ _ hf hh (lv_sub hl [2, 3, 0, 1, 5] rfl)
def fX7_fits_55 (N : Nat) (τ : zS) (k_134 : Int32 → Int32 → Int32 → Int32 → Option (Int32)) : Nat → Int32 → Int32 → Int32 → Int32 → Int32 → Option (Int32)
  | 0, _, _, _, _, _ => none
  | n + 1, x1, x2, x3, x4, x5 =>
    (fX7_powerOf N (τ.1 66 1)).bind fun q1 =>
    if q1 ≤ x5 then
      k_134 x1 x2 x3 x4
    else
      (fX7_doesFit N τ x5).bind fun q3 =>
      if q3 = 0 then
        (fX7_fits_128 N τ (fX7_fits_55 N τ k_134 n) k_134) x1 x2 x3 x4 x5
      else
        if x2 = 0 then
          (fX7_fits_86 N τ (fX7_fits_55 N τ k_134 n) k_134) x1 x2 x4 x5 x5
        else
          (fX7_fits_86 N τ (fX7_fits_55 N τ k_134 n) k_134) x1 x2 x4 x5 x3
set_option maxRecDepth 100000 in
set_option maxHeartbeats 4000000 in
theorem hX7_fits_55 {p : Program} {l : Launch} {e : Env} {s : State} {m : MethodId} {args : Array Value} {below : List Frame} {meth : Method} {c : Code} {g : zG} {A : Nat → Prop} {σ τ : zS} {res : Int32} (C : zCx p s m args meth c cX7_fits (some .int) wsX7_fits RX7 6) (E : zE g A s) (N : Nat) (k_134 : Int32 → Int32 → Int32 → Int32 → Option (Int32)) (hk_134 : PX7_fits_134 p l e s m args below meth c g A σ τ res k_134) : ∀ n : Nat, PX7_fits_55 p l e s m args below meth c g A σ τ res (fX7_fits_55 N τ k_134 n) := by
  obtain ⟨hx, hb, hr, hml, hown, hts, hlocks⟩ := id C
  intro n
  induction n with
  | zero =>
    intro x1 x2 x3 x4 x5 H locs ls hf
    exact absurd hf (by simp [fX7_fits_55])
  | succ n ih =>
    intro x1 x2 x3 x4 x5 H locs ls hf hh hl
    rw [fX7_fits_55] at hf
    refine lv_iload hx hb dX7_fits_55 (lv_at hl 5 rfl) ?_
    refine lv_aload_n hx hb dX7_fits_57 rfl (lv_at hl 0 rfl) ?_
    refine z_get (v := .int (τ.1 66 1)) hx hb hts (fun w h => List.mem_cons_of_mem _ (List.mem_append_right _ (h))) hown E hh (by decide) (zC_obj (q := 66) rfl) rfl 1 (by decide) (hts (.fieldLink RX7 141 "TownBandModel" "beastMany" "I") (List.mem_cons_of_mem _ (List.mem_append_left _ (List.mem_append_left _ (List.mem_of_getElem? (i := 1) rfl))))) rfl dX7_fits_58 ?_
    obtain ⟨q1, h_q1, hf⟩ := z_bd hf
    refine z_mi (va_runS (As := [.int (τ.1 66 1)]) (rest := [.int x5]) ⟨hx, hb, hml, hown, hts⟩ (zcX7_powerOf l g A σ τ N (τ.1 66 1) h_q1) (va_cwS 1 hts gX7_fits_X7_powerOf rfl rfl rfl hdX7_powerOf.2 ⟨by decide, by decide⟩) (z_preS E hh) rfl rfl hl.1 rfl (lv_room (Nat.le_of_ble_eq_true rfl)) dX7_fits_61 ⟨Nat.le_refl _, Nat.le_refl _⟩) hh (fun H locs hh => ?_)
    refine lv_icmp_ge (tgt := 134) hx hb dX7_fits_64 (by decide) (fun c_v2 => ?_) (fun c_v2 => ?_)
    · have hf := z_ip hf c_v2
      exact hk_134 x1 x2 x3 x4 _ _ _ hf hh (lv_sub hl [0, 1, 2, 3, 4] rfl)
    · have hf := z_in hf c_v2
      refine lv_aload_n hx hb dX7_fits_67 rfl (lv_at hl 0 rfl) ?_
      refine lv_iload hx hb dX7_fits_68 (lv_at hl 5 rfl) ?_
      obtain ⟨q3, h_q3, hf⟩ := z_bd hf
      refine z_mi (va_runV (As := [.int x5]) (rest := []) ⟨hx, hb, hml, hown, hts⟩ (zcX7_doesFit l g A σ τ N x5 h_q3) (cwV 1 hts gX7_fits_X7_doesFit rfl rfl rfl hdX7_doesFit ⟨by decide, by decide⟩) (z_preV E hh (by decide) (zC_obj (q := 66) rfl) rfl) rfl rfl hl.1 rfl (lv_room (Nat.le_of_ble_eq_true rfl)) dX7_fits_70 ⟨Nat.le_refl _, Nat.le_refl _⟩) hh (fun H locs hh => ?_)
      refine lv_if_eq (tgt := 128) hx hb dX7_fits_73 (by decide) (fun c_v4 => ?_) (fun c_v4 => ?_)
      · have hf := z_ip hf c_v4
        exact (hX7_fits_128 C E N (fX7_fits_55 N τ k_134 n) ih k_134 hk_134) x1 x2 x3 x4 x5 _ _ _ hf hh (lv_sub hl [0, 1, 2, 3, 4, 5] rfl)
      · have hf := z_in hf c_v4
        refine lv_iload_n hx hb dX7_fits_76 rfl (lv_at hl 2 rfl) ?_
        refine lv_if_ne (tgt := 85) hx hb dX7_fits_77 (by decide) (fun c_v5 => ?_) (fun c_v5 => ?_)
        · have hf := z_in hf c_v5
          refine lv_iload_n hx hb dX7_fits_85 rfl (lv_at hl 3 rfl) ?_
          exact (hX7_fits_86 C E N (fX7_fits_55 N τ k_134 n) ih k_134 hk_134) x1 x2 x4 x5 x3 _ _ _ hf hh (lv_sub hl [0, 1, 2, 4, 5] rfl)
        · have hf := z_ip hf c_v5
          refine lv_iload hx hb dX7_fits_80 (lv_at hl 5 rfl) ?_
          refine lv_goto (tgt := 86) hx hb dX7_fits_82 (by decide) ?_
          exact (hX7_fits_86 C E N (fX7_fits_55 N τ k_134 n) ih k_134 hk_134) x1 x2 x4 x5 x5 _ _ _ hf hh (lv_sub hl [0, 1, 2, 4, 5] rfl)
def fX7_fits_44 (N : Nat) (τ : zS) (x1 : Int32) : Option (Int32) :=
  (fX7_fits_55 N τ (fX7_fits_134 N τ) N) x1 (nI 0) (-4) (nI 0) (nI 0)
set_option maxRecDepth 100000 in
set_option maxHeartbeats 4000000 in
theorem hX7_fits_44 {p : Program} {l : Launch} {e : Env} {s : State} {m : MethodId} {args : Array Value} {below : List Frame} {meth : Method} {c : Code} {g : zG} {A : Nat → Prop} {σ τ : zS} {res : Int32} (C : zCx p s m args meth c cX7_fits (some .int) wsX7_fits RX7 6) (E : zE g A s) (N : Nat) : PX7_fits_44 p l e s m args below meth c g A σ τ res (fX7_fits_44 N τ) := by
  obtain ⟨hx, hb, hr, hml, hown, hts, hlocks⟩ := id C
  intro x1 H locs ls hf hh hl
  unfold fX7_fits_44 at hf
  refine lv_iconst (v := (nI 0)) hx hb dX7_fits_44 (by decide) ?_
  refine lv_istore_n (lv' := [(2, .int (nI 0)), (0, .ref (g.2.2 66)), (1, .int x1)]) hx hb dX7_fits_45 rfl hl (by decide) rfl (fun ls hl => ?_)
  refine lv_bipush (v := (-4)) hx hb dX7_fits_46 (by decide) ?_
  refine lv_istore_n (lv' := [(3, .int (-4)), (2, .int (nI 0)), (0, .ref (g.2.2 66)), (1, .int x1)]) hx hb dX7_fits_48 rfl hl (by decide) rfl (fun ls hl => ?_)
  refine lv_iconst (v := (nI 0)) hx hb dX7_fits_49 (by decide) ?_
  refine lv_istore (lv' := [(4, .int (nI 0)), (3, .int (-4)), (2, .int (nI 0)), (0, .ref (g.2.2 66)), (1, .int x1)]) hx hb dX7_fits_50 hl (by decide) rfl (fun ls hl => ?_)
  refine lv_iconst (v := (nI 0)) hx hb dX7_fits_52 (by decide) ?_
  refine lv_istore (lv' := [(5, .int (nI 0)), (4, .int (nI 0)), (3, .int (-4)), (2, .int (nI 0)), (0, .ref (g.2.2 66)), (1, .int x1)]) hx hb dX7_fits_53 hl (by decide) rfl (fun ls hl => ?_)
  exact (hX7_fits_55 C E N (fX7_fits_134 N τ) (hX7_fits_134 C E N) N) x1 (nI 0) (-4) (nI 0) (nI 0) _ _ _ hf hh (lv_sub hl [4, 5, 3, 2, 1, 0] rfl)
def fX7_fits (N : Nat) (τ : zS) (x1 : Int32) : Option (Int32) :=
  if x1 = 0 then
    (fX7_fits_44 N τ) x1
  else
    (fX7_in N x1.toInt64 10 ((((nI 9) + (τ.1 66 1))).toInt64)).bind fun q2 =>
    if q2 = 0 then
      (fX7_in N x1.toInt64 20 ((((nI 19) + (τ.1 66 1))).toInt64)).bind fun q4 =>
      if q4 = 0 then
        some (-1)
      else
        (fX7_fits_44 N τ) x1
    else
      (fX7_fits_44 N τ) x1
set_option maxRecDepth 100000 in
set_option maxHeartbeats 4000000 in
theorem zcX7_fits (l : Launch) (g : zG) (A : Nat → Prop) (σ τ : zS) (N : Nat) (x1 : Int32)  {res : Int32} (hf : fX7_fits N τ x1 = some res) : Met l yX7_fits wsX7_fits (zR 5) (zPc g A σ τ [.ref (g.2.2 66), .int x1]) (zPi g A σ (res, τ)) 0 0 A := by
  refine z_met (cc := cX7_fits) (ret := (some .int)) (own := RX7) (by decide) rfl rfl _ (Nat.le_of_ble_eq_true rfl) ?_
  intro p e s m below meth c C E ls hl hh
  have hl : lv_has ls 6 [(0, .ref (g.2.2 66)), (1, .int x1)] := hl
  obtain ⟨hx, hb, hr, hml, hown, hts, hlocks⟩ := id C
  unfold fX7_fits at hf
  refine lv_iload_n hx hb dX7_fits_0 rfl (lv_at hl 1 rfl) ?_
  refine lv_if_eq (tgt := 44) hx hb dX7_fits_1 (by decide) (fun c_v1 => ?_) (fun c_v1 => ?_)
  · have hf := z_ip hf c_v1
    exact (hX7_fits_44 C E N) x1 _ _ _ hf hh (lv_sub hl [0, 1] rfl)
  · have hf := z_in hf c_v1
    refine lv_iload_n hx hb dX7_fits_4 rfl (lv_at hl 1 rfl) ?_
    refine lv_i2l hx hb dX7_fits_5 rfl ?_
    refine lv_ldc2 (v := 10) hx hb hown (hts (.constantLong RX7 236 (10)) (List.mem_cons_of_mem _ (List.mem_append_left _ (List.mem_append_left _ (List.mem_of_getElem? (i := 0) rfl))))) dX7_fits_6 ?_
    refine lv_bipush (v := (nI 9)) hx hb dX7_fits_9 (by decide) ?_
    refine lv_aload_n hx hb dX7_fits_11 rfl (lv_at hl 0 rfl) ?_
    refine z_get (v := .int (τ.1 66 1)) hx hb hts (fun w h => List.mem_cons_of_mem _ (List.mem_append_right _ (h))) hown E hh (by decide) (zC_obj (q := 66) rfl) rfl 1 (by decide) (hts (.fieldLink RX7 141 "TownBandModel" "beastMany" "I") (List.mem_cons_of_mem _ (List.mem_append_left _ (List.mem_append_left _ (List.mem_of_getElem? (i := 1) rfl))))) rfl dX7_fits_12 ?_
    refine lv_iadd hx hb dX7_fits_15 ?_
    refine lv_i2l hx hb dX7_fits_16 rfl ?_
    obtain ⟨q2, h_q2, hf⟩ := z_bd hf
    refine z_mi (va_runS (As := [.long x1.toInt64, .long 10, .long ((((nI 9) + (τ.1 66 1))).toInt64)]) (rest := []) ⟨hx, hb, hml, hown, hts⟩ (zcX7_in l g A σ τ N x1.toInt64 10 ((((nI 9) + (τ.1 66 1))).toInt64) h_q2) (va_cwS 3 hts gX7_fits_X7_in rfl rfl rfl hdX7_in.2 ⟨by decide, by decide⟩) (z_preS E hh) rfl rfl hl.1 rfl (lv_room (Nat.le_of_ble_eq_true rfl)) dX7_fits_17 ⟨Nat.le_refl _, Nat.le_refl _⟩) hh (fun H locs hh => ?_)
    refine lv_if_ne (tgt := 44) hx hb dX7_fits_20 (by decide) (fun c_v3 => ?_) (fun c_v3 => ?_)
    · have hf := z_in hf c_v3
      exact (hX7_fits_44 C E N) x1 _ _ _ hf hh (lv_sub hl [0, 1] rfl)
    · have hf := z_ip hf c_v3
      refine lv_iload_n hx hb dX7_fits_23 rfl (lv_at hl 1 rfl) ?_
      refine lv_i2l hx hb dX7_fits_24 rfl ?_
      refine lv_ldc2 (v := 20) hx hb hown (hts (.constantLong RX7 276 (20)) (List.mem_cons_of_mem _ (List.mem_append_left _ (List.mem_append_left _ (List.mem_of_getElem? (i := 2) rfl))))) dX7_fits_25 ?_
      refine lv_bipush (v := (nI 19)) hx hb dX7_fits_28 (by decide) ?_
      refine lv_aload_n hx hb dX7_fits_30 rfl (lv_at hl 0 rfl) ?_
      refine z_get (v := .int (τ.1 66 1)) hx hb hts (fun w h => List.mem_cons_of_mem _ (List.mem_append_right _ (h))) hown E hh (by decide) (zC_obj (q := 66) rfl) rfl 1 (by decide) (hts (.fieldLink RX7 141 "TownBandModel" "beastMany" "I") (List.mem_cons_of_mem _ (List.mem_append_left _ (List.mem_append_left _ (List.mem_of_getElem? (i := 1) rfl))))) rfl dX7_fits_31 ?_
      refine lv_iadd hx hb dX7_fits_34 ?_
      refine lv_i2l hx hb dX7_fits_35 rfl ?_
      obtain ⟨q4, h_q4, hf⟩ := z_bd hf
      refine z_mi (va_runS (As := [.long x1.toInt64, .long 20, .long ((((nI 19) + (τ.1 66 1))).toInt64)]) (rest := []) ⟨hx, hb, hml, hown, hts⟩ (zcX7_in l g A σ τ N x1.toInt64 20 ((((nI 19) + (τ.1 66 1))).toInt64) h_q4) (va_cwS 3 hts gX7_fits_X7_in rfl rfl rfl hdX7_in.2 ⟨by decide, by decide⟩) (z_preS E hh) rfl rfl hl.1 rfl (lv_room (Nat.le_of_ble_eq_true rfl)) dX7_fits_36 ⟨Nat.le_refl _, Nat.le_refl _⟩) hh (fun H locs hh => ?_)
      refine lv_if_ne (tgt := 44) hx hb dX7_fits_39 (by decide) (fun c_v5 => ?_) (fun c_v5 => ?_)
      · have hf := z_in hf c_v5
        exact (hX7_fits_44 C E N) x1 _ _ _ hf hh (lv_sub hl [0, 1] rfl)
      · have hf := z_ip hf c_v5
        refine lv_iconst (v := (-1)) hx hb dX7_fits_42 (by decide) ?_
        have hf := Option.some.inj hf
        subst hf
        exact z_iretM hx hb hr hlocks hh dX7_fits_43
/-! ===== X7_ask ===== -/
theorem hdX7_ask : yX7_ask.cls = RX7 ∧ yX7_ask.cls ≠ "java/lang/invoke/MethodHandle" ∧ yX7_ask.cls ≠ "java/lang/invoke/VarHandle" ∧ (parseMethodDescriptor yX7_ask.desc).map (fun d => d.parameters.length) = some 1 := by decide +kernel
def PX7_ask_179 (p : Program) (l : Launch) (e : Env) (s : State) (m : MethodId) (args : Array Value) (below : List Frame) (meth : Method) (c : Code) (g : zG) (A : Nat → Prop) (σ : zS) (res : Int32 × zS) (f : Int32 → zS → Option (Int32 × zS)) : Prop := ∀ (x3 : Int32) (τ : zS) (H : Heap) (locs : List Loc) (ls : Array Slot), f x3 τ = some res → zW g A σ τ s H locs → lv_has ls 8 [(3, .int x3)] → W p l e (zR 6) s m args below meth c H locs 0 0 (MQ below (zPi g A σ res) args s 0 0 A) (F0 m 179 ls [])
def PX7_ask_169 (p : Program) (l : Launch) (e : Env) (s : State) (m : MethodId) (args : Array Value) (below : List Frame) (meth : Method) (c : Code) (g : zG) (A : Nat → Prop) (σ : zS) (res : Int32 × zS) (f : Int32 → Int32 → Int32 → zS → Option (Int32 × zS)) : Prop := ∀ (x1 : Int32) (x2 : Int32) (x3 : Int32) (τ : zS) (H : Heap) (locs : List Loc) (ls : Array Slot), f x1 x2 x3 τ = some res → zW g A σ τ s H locs → lv_has ls 8 [(1, .int x1), (2, .int x2), (3, .int x3)] → W p l e (zR 6) s m args below meth c H locs 0 0 (MQ below (zPi g A σ res) args s 0 0 A) (F0 m 169 ls [])
def PX7_ask_162 (p : Program) (l : Launch) (e : Env) (s : State) (m : MethodId) (args : Array Value) (below : List Frame) (meth : Method) (c : Code) (g : zG) (A : Nat → Prop) (σ : zS) (res : Int32 × zS) (f : Int32 → Int32 → Int32 → Int32 → zS → Option (Int32 × zS)) : Prop := ∀ (x1 : Int32) (x3 : Int32) (x4 : Int32) (s0 : Int32) (τ : zS) (H : Heap) (locs : List Loc) (ls : Array Slot), f x1 x3 x4 s0 τ = some res → zW g A σ τ s H locs → lv_has ls 8 [(0, .ref (g.2.2 66)), (1, .int x1), (3, .int x3), (4, .int x4)] → W p l e (zR 6) s m args below meth c H locs 0 0 (MQ below (zPi g A σ res) args s 0 0 A) (F0 m 162 ls [.int s0])
def PX7_ask_149 (p : Program) (l : Launch) (e : Env) (s : State) (m : MethodId) (args : Array Value) (below : List Frame) (meth : Method) (c : Code) (g : zG) (A : Nat → Prop) (σ : zS) (res : Int32 × zS) (f : Int32 → Int32 → Int32 → Int32 → Int32 → zS → Option (Int32 × zS)) : Prop := ∀ (x1 : Int32) (x2 : Int32) (x4 : Int32) (x5 : Int32) (s0 : Int32) (τ : zS) (H : Heap) (locs : List Loc) (ls : Array Slot), f x1 x2 x4 x5 s0 τ = some res → zW g A σ τ s H locs → lv_has ls 8 [(0, .ref (g.2.2 66)), (1, .int x1), (2, .int x2), (4, .int x4), (5, .int x5)] → W p l e (zR 6) s m args below meth c H locs 0 0 (MQ below (zPi g A σ res) args s 0 0 A) (F0 m 149 ls [.int s0])
def PX7_ask_137 (p : Program) (l : Launch) (e : Env) (s : State) (m : MethodId) (args : Array Value) (below : List Frame) (meth : Method) (c : Code) (g : zG) (A : Nat → Prop) (σ : zS) (res : Int32 × zS) (f : Int32 → Int32 → Int32 → Int32 → Int32 → zS → Option (Int32 × zS)) : Prop := ∀ (x1 : Int32) (x2 : Int32) (x3 : Int32) (x4 : Int32) (x5 : Int32) (τ : zS) (H : Heap) (locs : List Loc) (ls : Array Slot), f x1 x2 x3 x4 x5 τ = some res → zW g A σ τ s H locs → lv_has ls 8 [(0, .ref (g.2.2 66)), (1, .int x1), (2, .int x2), (3, .int x3), (4, .int x4), (5, .int x5)] → W p l e (zR 6) s m args below meth c H locs 0 0 (MQ below (zPi g A σ res) args s 0 0 A) (F0 m 137 ls [])
def PX7_ask_131 (p : Program) (l : Launch) (e : Env) (s : State) (m : MethodId) (args : Array Value) (below : List Frame) (meth : Method) (c : Code) (g : zG) (A : Nat → Prop) (σ : zS) (res : Int32 × zS) (f : Int32 → Int32 → Int32 → Int32 → Int32 → Int32 → zS → Option (Int32 × zS)) : Prop := ∀ (x1 : Int32) (x2 : Int32) (x3 : Int32) (x4 : Int32) (x5 : Int32) (x6 : Int32) (τ : zS) (H : Heap) (locs : List Loc) (ls : Array Slot), f x1 x2 x3 x4 x5 x6 τ = some res → zW g A σ τ s H locs → lv_has ls 8 [(0, .ref (g.2.2 66)), (1, .int x1), (2, .int x2), (3, .int x3), (4, .int x4), (5, .int x5), (6, .int x6)] → W p l e (zR 6) s m args below meth c H locs 0 0 (MQ below (zPi g A σ res) args s 0 0 A) (F0 m 131 ls [])
def PX7_ask_129 (p : Program) (l : Launch) (e : Env) (s : State) (m : MethodId) (args : Array Value) (below : List Frame) (meth : Method) (c : Code) (g : zG) (A : Nat → Prop) (σ : zS) (res : Int32 × zS) (f : Int32 → Int32 → Int32 → Int32 → Int32 → Int32 → zS → Option (Int32 × zS)) : Prop := ∀ (x1 : Int32) (x2 : Int32) (x3 : Int32) (x4 : Int32) (x6 : Int32) (s0 : Int32) (τ : zS) (H : Heap) (locs : List Loc) (ls : Array Slot), f x1 x2 x3 x4 x6 s0 τ = some res → zW g A σ τ s H locs → lv_has ls 8 [(0, .ref (g.2.2 66)), (1, .int x1), (2, .int x2), (3, .int x3), (4, .int x4), (6, .int x6)] → W p l e (zR 6) s m args below meth c H locs 0 0 (MQ below (zPi g A σ res) args s 0 0 A) (F0 m 129 ls [.int s0])
def PX7_ask_63 (p : Program) (l : Launch) (e : Env) (s : State) (m : MethodId) (args : Array Value) (below : List Frame) (meth : Method) (c : Code) (g : zG) (A : Nat → Prop) (σ : zS) (res : Int32 × zS) (f : Int32 → Int32 → Int32 → Int32 → Int32 → Int32 → zS → Option (Int32 × zS)) : Prop := ∀ (x1 : Int32) (x2 : Int32) (x3 : Int32) (x4 : Int32) (x5 : Int32) (x6 : Int32) (τ : zS) (H : Heap) (locs : List Loc) (ls : Array Slot), f x1 x2 x3 x4 x5 x6 τ = some res → zW g A σ τ s H locs → lv_has ls 8 [(0, .ref (g.2.2 66)), (1, .int x1), (2, .int x2), (3, .int x3), (4, .int x4), (5, .int x5), (6, .int x6)] → W p l e (zR 6) s m args below meth c H locs 0 0 (MQ below (zPi g A σ res) args s 0 0 A) (F0 m 63 ls [])
def PX7_ask_60 (p : Program) (l : Launch) (e : Env) (s : State) (m : MethodId) (args : Array Value) (below : List Frame) (meth : Method) (c : Code) (g : zG) (A : Nat → Prop) (σ : zS) (res : Int32 × zS) (f : Int32 → Int32 → Int32 → Int32 → Int32 → zS → Option (Int32 × zS)) : Prop := ∀ (x1 : Int32) (x2 : Int32) (x3 : Int32) (x4 : Int32) (x5 : Int32) (τ : zS) (H : Heap) (locs : List Loc) (ls : Array Slot), f x1 x2 x3 x4 x5 τ = some res → zW g A σ τ s H locs → lv_has ls 8 [(0, .ref (g.2.2 66)), (1, .int x1), (2, .int x2), (3, .int x3), (4, .int x4), (5, .int x5)] → W p l e (zR 6) s m args below meth c H locs 0 0 (MQ below (zPi g A σ res) args s 0 0 A) (F0 m 60 ls [])
def PX7_ask_39 (p : Program) (l : Launch) (e : Env) (s : State) (m : MethodId) (args : Array Value) (below : List Frame) (meth : Method) (c : Code) (g : zG) (A : Nat → Prop) (σ : zS) (res : Int32 × zS) (f : Int32 → Int32 → Int32 → Int32 → Int32 → Int32 → zS → Option (Int32 × zS)) : Prop := ∀ (x1 : Int32) (x2 : Int32) (x3 : Int32) (x4 : Int32) (x5 : Int32) (x6 : Int32) (τ : zS) (H : Heap) (locs : List Loc) (ls : Array Slot), f x1 x2 x3 x4 x5 x6 τ = some res → zW g A σ τ s H locs → lv_has ls 8 [(0, .ref (g.2.2 66)), (1, .int x1), (2, .int x2), (3, .int x3), (4, .int x4), (5, .int x5), (6, .int x6)] → W p l e (zR 6) s m args below meth c H locs 0 0 (MQ below (zPi g A σ res) args s 0 0 A) (F0 m 39 ls [])
def PX7_ask_24 (p : Program) (l : Launch) (e : Env) (s : State) (m : MethodId) (args : Array Value) (below : List Frame) (meth : Method) (c : Code) (g : zG) (A : Nat → Prop) (σ : zS) (res : Int32 × zS) (f : Int32 → Int32 → Int32 → Int32 → zS → Option (Int32 × zS)) : Prop := ∀ (x1 : Int32) (x2 : Int32) (x3 : Int32) (x4 : Int32) (τ : zS) (H : Heap) (locs : List Loc) (ls : Array Slot), f x1 x2 x3 x4 τ = some res → zW g A σ τ s H locs → lv_has ls 8 [(0, .ref (g.2.2 66)), (1, .int x1), (2, .int x2), (3, .int x3), (4, .int x4)] → W p l e (zR 6) s m args below meth c H locs 0 0 (MQ below (zPi g A σ res) args s 0 0 A) (F0 m 24 ls [])
def fX7_ask_179 (N : Nat) (x3 : Int32) (τ : zS) : Option (Int32 × zS) :=
  some (x3, τ)
set_option maxRecDepth 100000 in
set_option maxHeartbeats 4000000 in
theorem hX7_ask_179 {p : Program} {l : Launch} {e : Env} {s : State} {m : MethodId} {args : Array Value} {below : List Frame} {meth : Method} {c : Code} {g : zG} {A : Nat → Prop} {σ : zS} {res : Int32 × zS} (C : zCx p s m args meth c cX7_ask (some .int) wsX7_ask RX7 8) (E : zE g A s) (N : Nat) : PX7_ask_179 p l e s m args below meth c g A σ res (fX7_ask_179 N) := by
  obtain ⟨hx, hb, hr, hml, hown, hts, hlocks⟩ := id C
  intro x3 τ H locs ls hf hh hl
  unfold fX7_ask_179 at hf
  refine lv_iload_n hx hb dX7_ask_179 rfl (lv_at hl 0 rfl) ?_
  refine lv_goto (tgt := 184) hx hb dX7_ask_180 (by decide) ?_
  have hf := Option.some.inj hf
  subst hf
  exact z_iretM hx hb hr hlocks hh dX7_ask_184
def fX7_ask_169 (N : Nat) (x1 : Int32) (x2 : Int32) (x3 : Int32) (τ : zS) : Option (Int32 × zS) :=
  if x3 = (-4) then
    (fX7_ask_179 N) x3 τ
  else
    if x1 = 0 then
      (fX7_ask_179 N) x3 τ
    else
      some (x2, τ)
set_option maxRecDepth 100000 in
set_option maxHeartbeats 4000000 in
theorem hX7_ask_169 {p : Program} {l : Launch} {e : Env} {s : State} {m : MethodId} {args : Array Value} {below : List Frame} {meth : Method} {c : Code} {g : zG} {A : Nat → Prop} {σ : zS} {res : Int32 × zS} (C : zCx p s m args meth c cX7_ask (some .int) wsX7_ask RX7 8) (E : zE g A s) (N : Nat) : PX7_ask_169 p l e s m args below meth c g A σ res (fX7_ask_169 N) := by
  obtain ⟨hx, hb, hr, hml, hown, hts, hlocks⟩ := id C
  intro x1 x2 x3 τ H locs ls hf hh hl
  unfold fX7_ask_169 at hf
  refine lv_iload_n hx hb dX7_ask_169 rfl (lv_at hl 2 rfl) ?_
  refine lv_bipush (v := (-4)) hx hb dX7_ask_170 (by decide) ?_
  refine lv_icmp_eq (tgt := 179) hx hb dX7_ask_172 (by decide) (fun c_v1 => ?_) (fun c_v1 => ?_)
  · have hf := z_ip hf c_v1
    exact (hX7_ask_179 C E N) x3 τ _ _ _ hf hh (lv_sub hl [2] rfl)
  · have hf := z_in hf c_v1
    refine lv_iload_n hx hb dX7_ask_175 rfl (lv_at hl 0 rfl) ?_
    refine lv_if_ne (tgt := 183) hx hb dX7_ask_176 (by decide) (fun c_v2 => ?_) (fun c_v2 => ?_)
    · have hf := z_in hf c_v2
      refine lv_iload_n hx hb dX7_ask_183 rfl (lv_at hl 1 rfl) ?_
      have hf := Option.some.inj hf
      subst hf
      exact z_iretM hx hb hr hlocks hh dX7_ask_184
    · have hf := z_ip hf c_v2
      exact (hX7_ask_179 C E N) x3 τ _ _ _ hf hh (lv_sub hl [2] rfl)
def fX7_ask_162 (N : Nat) (rc : Int32 → Int32 → Int32 → Int32 → zS → Option (Int32 × zS)) (k_169 : Int32 → Int32 → Int32 → zS → Option (Int32 × zS)) (x1 : Int32) (x3 : Int32) (x4 : Int32) (s0 : Int32) (τ : zS) : Option (Int32 × zS) :=
  rc x1 s0 x3 (x4 + (nI 1)) τ
set_option maxRecDepth 100000 in
set_option maxHeartbeats 4000000 in
theorem hX7_ask_162 {p : Program} {l : Launch} {e : Env} {s : State} {m : MethodId} {args : Array Value} {below : List Frame} {meth : Method} {c : Code} {g : zG} {A : Nat → Prop} {σ : zS} {res : Int32 × zS} (C : zCx p s m args meth c cX7_ask (some .int) wsX7_ask RX7 8) (E : zE g A s) (N : Nat) (rc : Int32 → Int32 → Int32 → Int32 → zS → Option (Int32 × zS)) (hrc : PX7_ask_24 p l e s m args below meth c g A σ res rc) (k_169 : Int32 → Int32 → Int32 → zS → Option (Int32 × zS)) (hk_169 : PX7_ask_169 p l e s m args below meth c g A σ res k_169) : PX7_ask_162 p l e s m args below meth c g A σ res (fX7_ask_162 N rc k_169) := by
  obtain ⟨hx, hb, hr, hml, hown, hts, hlocks⟩ := id C
  intro x1 x3 x4 s0 τ H locs ls hf hh hl
  unfold fX7_ask_162 at hf
  refine lv_istore_n (lv' := [(2, .int s0), (0, .ref (g.2.2 66)), (1, .int x1), (3, .int x3), (4, .int x4)]) hx hb dX7_ask_162 rfl hl (by decide) rfl (fun ls hl => ?_)
  refine lv_iinc (v := (x4 + (nI 1))) (lv' := [(4, .int (x4 + (nI 1))), (2, .int s0), (0, .ref (g.2.2 66)), (1, .int x1), (3, .int x3)]) hx hb dX7_ask_163 hl (k := 4) rfl rfl (by decide) rfl (fun ls hl => ?_)
  refine lv_goto (tgt := 24) hx hb dX7_ask_166 (by decide) ?_
  exact hrc x1 s0 x3 (x4 + (nI 1)) τ _ _ _ hf hh (lv_sub hl [2, 3, 1, 4, 0] rfl)
def fX7_ask_149 (N : Nat) (rc : Int32 → Int32 → Int32 → Int32 → zS → Option (Int32 × zS)) (k_169 : Int32 → Int32 → Int32 → zS → Option (Int32 × zS)) (x1 : Int32) (x2 : Int32) (x4 : Int32) (x5 : Int32) (s0 : Int32) (τ : zS) : Option (Int32 × zS) :=
  if x2 ≤ x5 then
    (fX7_ask_162 N rc k_169) x1 s0 x4 x2 τ
  else
    (fX7_ask_162 N rc k_169) x1 s0 x4 x5 τ
set_option maxRecDepth 100000 in
set_option maxHeartbeats 4000000 in
theorem hX7_ask_149 {p : Program} {l : Launch} {e : Env} {s : State} {m : MethodId} {args : Array Value} {below : List Frame} {meth : Method} {c : Code} {g : zG} {A : Nat → Prop} {σ : zS} {res : Int32 × zS} (C : zCx p s m args meth c cX7_ask (some .int) wsX7_ask RX7 8) (E : zE g A s) (N : Nat) (rc : Int32 → Int32 → Int32 → Int32 → zS → Option (Int32 × zS)) (hrc : PX7_ask_24 p l e s m args below meth c g A σ res rc) (k_169 : Int32 → Int32 → Int32 → zS → Option (Int32 × zS)) (hk_169 : PX7_ask_169 p l e s m args below meth c g A σ res k_169) : PX7_ask_149 p l e s m args below meth c g A σ res (fX7_ask_149 N rc k_169) := by
  obtain ⟨hx, hb, hr, hml, hown, hts, hlocks⟩ := id C
  intro x1 x2 x4 x5 s0 τ H locs ls hf hh hl
  unfold fX7_ask_149 at hf
  refine lv_istore_n (lv' := [(3, .int s0), (0, .ref (g.2.2 66)), (1, .int x1), (2, .int x2), (4, .int x4), (5, .int x5)]) hx hb dX7_ask_149 rfl hl (by decide) rfl (fun ls hl => ?_)
  refine lv_iload hx hb dX7_ask_150 (lv_at hl 5 rfl) ?_
  refine lv_iload_n hx hb dX7_ask_152 rfl (lv_at hl 3 rfl) ?_
  refine lv_icmp_ge (tgt := 161) hx hb dX7_ask_153 (by decide) (fun c_v1 => ?_) (fun c_v1 => ?_)
  · have hf := z_ip hf c_v1
    refine lv_iload_n hx hb dX7_ask_161 rfl (lv_at hl 3 rfl) ?_
    exact (hX7_ask_162 C E N rc hrc k_169 hk_169) x1 s0 x4 x2 τ _ _ _ hf hh (lv_sub hl [1, 2, 0, 4] rfl)
  · have hf := z_in hf c_v1
    refine lv_iload hx hb dX7_ask_156 (lv_at hl 5 rfl) ?_
    refine lv_goto (tgt := 162) hx hb dX7_ask_158 (by decide) ?_
    exact (hX7_ask_162 C E N rc hrc k_169 hk_169) x1 s0 x4 x5 τ _ _ _ hf hh (lv_sub hl [1, 2, 0, 4] rfl)
def fX7_ask_137 (N : Nat) (rc : Int32 → Int32 → Int32 → Int32 → zS → Option (Int32 × zS)) (k_169 : Int32 → Int32 → Int32 → zS → Option (Int32 × zS)) (x1 : Int32) (x2 : Int32) (x3 : Int32) (x4 : Int32) (x5 : Int32) (τ : zS) : Option (Int32 × zS) :=
  if x2 ≤ x5 then
    (fX7_ask_149 N rc k_169) x1 x2 x4 x5 x3 τ
  else
    (fX7_ask_149 N rc k_169) x1 x2 x4 x5 x4 τ
set_option maxRecDepth 100000 in
set_option maxHeartbeats 4000000 in
theorem hX7_ask_137 {p : Program} {l : Launch} {e : Env} {s : State} {m : MethodId} {args : Array Value} {below : List Frame} {meth : Method} {c : Code} {g : zG} {A : Nat → Prop} {σ : zS} {res : Int32 × zS} (C : zCx p s m args meth c cX7_ask (some .int) wsX7_ask RX7 8) (E : zE g A s) (N : Nat) (rc : Int32 → Int32 → Int32 → Int32 → zS → Option (Int32 × zS)) (hrc : PX7_ask_24 p l e s m args below meth c g A σ res rc) (k_169 : Int32 → Int32 → Int32 → zS → Option (Int32 × zS)) (hk_169 : PX7_ask_169 p l e s m args below meth c g A σ res k_169) : PX7_ask_137 p l e s m args below meth c g A σ res (fX7_ask_137 N rc k_169) := by
  obtain ⟨hx, hb, hr, hml, hown, hts, hlocks⟩ := id C
  intro x1 x2 x3 x4 x5 τ H locs ls hf hh hl
  unfold fX7_ask_137 at hf
  refine lv_iload hx hb dX7_ask_137 (lv_at hl 5 rfl) ?_
  refine lv_iload_n hx hb dX7_ask_139 rfl (lv_at hl 2 rfl) ?_
  refine lv_icmp_ge (tgt := 148) hx hb dX7_ask_140 (by decide) (fun c_v1 => ?_) (fun c_v1 => ?_)
  · have hf := z_ip hf c_v1
    refine lv_iload_n hx hb dX7_ask_148 rfl (lv_at hl 3 rfl) ?_
    exact (hX7_ask_149 C E N rc hrc k_169 hk_169) x1 x2 x4 x5 x3 τ _ _ _ hf hh (lv_sub hl [0, 1, 2, 4, 5] rfl)
  · have hf := z_in hf c_v1
    refine lv_iload hx hb dX7_ask_143 (lv_at hl 4 rfl) ?_
    refine lv_goto (tgt := 149) hx hb dX7_ask_145 (by decide) ?_
    exact (hX7_ask_149 C E N rc hrc k_169 hk_169) x1 x2 x4 x5 x4 τ _ _ _ hf hh (lv_sub hl [0, 1, 2, 4, 5] rfl)
def fX7_ask_131 (N : Nat) (rc : Int32 → Int32 → Int32 → Int32 → Int32 → Int32 → zS → Option (Int32 × zS)) (k_137 : Int32 → Int32 → Int32 → Int32 → Int32 → zS → Option (Int32 × zS)) (x1 : Int32) (x2 : Int32) (x3 : Int32) (x4 : Int32) (x5 : Int32) (x6 : Int32) (τ : zS) : Option (Int32 × zS) :=
  rc x1 x2 x3 x4 x5 (x6 + (nI 1)) τ
set_option maxRecDepth 100000 in
set_option maxHeartbeats 4000000 in
theorem hX7_ask_131 {p : Program} {l : Launch} {e : Env} {s : State} {m : MethodId} {args : Array Value} {below : List Frame} {meth : Method} {c : Code} {g : zG} {A : Nat → Prop} {σ : zS} {res : Int32 × zS} (C : zCx p s m args meth c cX7_ask (some .int) wsX7_ask RX7 8) (E : zE g A s) (N : Nat) (rc : Int32 → Int32 → Int32 → Int32 → Int32 → Int32 → zS → Option (Int32 × zS)) (hrc : PX7_ask_63 p l e s m args below meth c g A σ res rc) (k_137 : Int32 → Int32 → Int32 → Int32 → Int32 → zS → Option (Int32 × zS)) (hk_137 : PX7_ask_137 p l e s m args below meth c g A σ res k_137) : PX7_ask_131 p l e s m args below meth c g A σ res (fX7_ask_131 N rc k_137) := by
  obtain ⟨hx, hb, hr, hml, hown, hts, hlocks⟩ := id C
  intro x1 x2 x3 x4 x5 x6 τ H locs ls hf hh hl
  unfold fX7_ask_131 at hf
  refine lv_iinc (v := (x6 + (nI 1))) (lv' := [(6, .int (x6 + (nI 1))), (0, .ref (g.2.2 66)), (1, .int x1), (2, .int x2), (3, .int x3), (4, .int x4), (5, .int x5)]) hx hb dX7_ask_131 hl (k := 6) rfl rfl (by decide) rfl (fun ls hl => ?_)
  refine lv_goto (tgt := 63) hx hb dX7_ask_134 (by decide) ?_
  exact hrc x1 x2 x3 x4 x5 (x6 + (nI 1)) τ _ _ _ hf hh (lv_sub hl [1, 2, 3, 4, 5, 6, 0] rfl)
def fX7_ask_129 (N : Nat) (rc : Int32 → Int32 → Int32 → Int32 → Int32 → Int32 → zS → Option (Int32 × zS)) (k_137 : Int32 → Int32 → Int32 → Int32 → Int32 → zS → Option (Int32 × zS)) (x1 : Int32) (x2 : Int32) (x3 : Int32) (x4 : Int32) (x6 : Int32) (s0 : Int32) (τ : zS) : Option (Int32 × zS) :=
  (fX7_ask_131 N rc k_137) x1 x2 x3 x4 s0 x6 τ
set_option maxRecDepth 100000 in
set_option maxHeartbeats 4000000 in
theorem hX7_ask_129 {p : Program} {l : Launch} {e : Env} {s : State} {m : MethodId} {args : Array Value} {below : List Frame} {meth : Method} {c : Code} {g : zG} {A : Nat → Prop} {σ : zS} {res : Int32 × zS} (C : zCx p s m args meth c cX7_ask (some .int) wsX7_ask RX7 8) (E : zE g A s) (N : Nat) (rc : Int32 → Int32 → Int32 → Int32 → Int32 → Int32 → zS → Option (Int32 × zS)) (hrc : PX7_ask_63 p l e s m args below meth c g A σ res rc) (k_137 : Int32 → Int32 → Int32 → Int32 → Int32 → zS → Option (Int32 × zS)) (hk_137 : PX7_ask_137 p l e s m args below meth c g A σ res k_137) : PX7_ask_129 p l e s m args below meth c g A σ res (fX7_ask_129 N rc k_137) := by
  obtain ⟨hx, hb, hr, hml, hown, hts, hlocks⟩ := id C
  intro x1 x2 x3 x4 x6 s0 τ H locs ls hf hh hl
  unfold fX7_ask_129 at hf
  refine lv_istore (lv' := [(5, .int s0), (0, .ref (g.2.2 66)), (1, .int x1), (2, .int x2), (3, .int x3), (4, .int x4), (6, .int x6)]) hx hb dX7_ask_129 hl (by decide) rfl (fun ls hl => ?_)
  exact (hX7_ask_131 C E N rc hrc k_137 hk_137) x1 x2 x3 x4 s0 x6 τ _ _ _ hf hh (lv_sub hl [1, 2, 3, 4, 5, 0, 6] rfl)
def fX7_ask_63 (N : Nat) (k_137 : Int32 → Int32 → Int32 → Int32 → Int32 → zS → Option (Int32 × zS)) : Nat → Int32 → Int32 → Int32 → Int32 → Int32 → Int32 → zS → Option (Int32 × zS)
  | 0, _, _, _, _, _, _, _ => none
  | n + 1, x1, x2, x3, x4, x5, x6, τ =>
    (fX7_powerOf N (τ.1 66 1)).bind fun q1 =>
    if q1 ≤ x6 then
      k_137 x1 x2 x3 x4 x5 τ
    else
      (fX7_doesFit N τ x6).bind fun q3 =>
      if q3 = 0 then
        (fX7_ask_131 N (fX7_ask_63 N k_137 n) k_137) x1 x2 x3 x4 x5 x6 τ
      else
        (fX7_hurtBehind N τ x6 x4).bind fun q5 =>
        if zin q5 (zlen 61) then
        zlet (τ.2 61 q5.toNatClampNeg) fun v7 =>
        if zin q5 (zlen 61) then
        zlet (zpa τ 61 (upd (τ.2 61) q5.toNatClampNeg (v7 + (nI 1)))) fun τ9 =>
        if zin q5 (zlen 61) then
        zlet (τ9.2 61 q5.toNatClampNeg) fun v11 =>
        if v11 ≤ x5 then
          (fX7_ask_129 N (fX7_ask_63 N k_137 n) k_137) x1 x2 x3 x4 x6 x5 τ9
        else
          if zin q5 (zlen 61) then
          zlet (τ9.2 61 q5.toNatClampNeg) fun v14 =>
          (fX7_ask_129 N (fX7_ask_63 N k_137 n) k_137) x1 x2 x3 x4 x6 v14 τ9
          else none
        else none
        else none
        else none
set_option maxRecDepth 100000 in
set_option maxHeartbeats 4000000 in
theorem hX7_ask_63 {p : Program} {l : Launch} {e : Env} {s : State} {m : MethodId} {args : Array Value} {below : List Frame} {meth : Method} {c : Code} {g : zG} {A : Nat → Prop} {σ : zS} {res : Int32 × zS} (C : zCx p s m args meth c cX7_ask (some .int) wsX7_ask RX7 8) (E : zE g A s) (N : Nat) (k_137 : Int32 → Int32 → Int32 → Int32 → Int32 → zS → Option (Int32 × zS)) (hk_137 : PX7_ask_137 p l e s m args below meth c g A σ res k_137) : ∀ n : Nat, PX7_ask_63 p l e s m args below meth c g A σ res (fX7_ask_63 N k_137 n) := by
  obtain ⟨hx, hb, hr, hml, hown, hts, hlocks⟩ := id C
  intro n
  induction n with
  | zero =>
    intro x1 x2 x3 x4 x5 x6 τ H locs ls hf
    exact absurd hf (by simp [fX7_ask_63])
  | succ n ih =>
    intro x1 x2 x3 x4 x5 x6 τ H locs ls hf hh hl
    rw [fX7_ask_63] at hf
    refine lv_iload hx hb dX7_ask_63 (lv_at hl 6 rfl) ?_
    refine lv_aload_n hx hb dX7_ask_65 rfl (lv_at hl 0 rfl) ?_
    refine z_get (v := .int (τ.1 66 1)) hx hb hts (fun w h => List.mem_cons_of_mem _ (List.mem_append_right _ (h))) hown E hh (by decide) (zC_obj (q := 66) rfl) rfl 1 (by decide) (hts (.fieldLink RX7 141 "TownBandModel" "beastMany" "I") (List.mem_cons_of_mem _ (List.mem_append_left _ (List.mem_append_left _ (List.mem_of_getElem? (i := 0) rfl))))) rfl dX7_ask_66 ?_
    obtain ⟨q1, h_q1, hf⟩ := z_bd hf
    refine z_mi (va_runS (As := [.int (τ.1 66 1)]) (rest := [.int x6]) ⟨hx, hb, hml, hown, hts⟩ (zcX7_powerOf l g A σ τ N (τ.1 66 1) h_q1) (va_cwS 1 hts gX7_ask_X7_powerOf rfl rfl rfl hdX7_powerOf.2 ⟨by decide, by decide⟩) (z_preS E hh) rfl rfl hl.1 rfl (lv_room (Nat.le_of_ble_eq_true rfl)) dX7_ask_69 ⟨Nat.le_refl _, Nat.le_refl _⟩) hh (fun H locs hh => ?_)
    refine lv_icmp_ge (tgt := 137) hx hb dX7_ask_72 (by decide) (fun c_v2 => ?_) (fun c_v2 => ?_)
    · have hf := z_ip hf c_v2
      exact hk_137 x1 x2 x3 x4 x5 τ _ _ _ hf hh (lv_sub hl [0, 1, 2, 3, 4, 5] rfl)
    · have hf := z_in hf c_v2
      refine lv_aload_n hx hb dX7_ask_75 rfl (lv_at hl 0 rfl) ?_
      refine lv_iload hx hb dX7_ask_76 (lv_at hl 6 rfl) ?_
      obtain ⟨q3, h_q3, hf⟩ := z_bd hf
      refine z_mi (va_runV (As := [.int x6]) (rest := []) ⟨hx, hb, hml, hown, hts⟩ (zcX7_doesFit l g A σ τ N x6 h_q3) (cwV 1 hts gX7_ask_X7_doesFit rfl rfl rfl hdX7_doesFit ⟨by decide, by decide⟩) (z_preV E hh (by decide) (zC_obj (q := 66) rfl) rfl) rfl rfl hl.1 rfl (lv_room (Nat.le_of_ble_eq_true rfl)) dX7_ask_78 ⟨Nat.le_refl _, Nat.le_refl _⟩) hh (fun H locs hh => ?_)
      refine lv_if_eq (tgt := 131) hx hb dX7_ask_81 (by decide) (fun c_v4 => ?_) (fun c_v4 => ?_)
      · have hf := z_ip hf c_v4
        exact (hX7_ask_131 C E N (fX7_ask_63 N k_137 n) ih k_137 hk_137) x1 x2 x3 x4 x5 x6 τ _ _ _ hf hh (lv_sub hl [0, 1, 2, 3, 4, 5, 6] rfl)
      · have hf := z_in hf c_v4
        refine lv_aload_n hx hb dX7_ask_84 rfl (lv_at hl 0 rfl) ?_
        refine lv_iload hx hb dX7_ask_85 (lv_at hl 6 rfl) ?_
        refine lv_iload hx hb dX7_ask_87 (lv_at hl 4 rfl) ?_
        obtain ⟨q5, h_q5, hf⟩ := z_bd hf
        refine z_mi (va_runV (As := [.int x6, .int x4]) (rest := []) ⟨hx, hb, hml, hown, hts⟩ (zcX7_hurtBehind l g A σ τ N x6 x4 h_q5) (cwV 2 hts gX7_ask_X7_hurtBehind rfl rfl rfl hdX7_hurtBehind ⟨by decide, by decide⟩) (z_preV E hh (by decide) (zC_obj (q := 66) rfl) rfl) rfl rfl hl.1 rfl (lv_room (Nat.le_of_ble_eq_true rfl)) dX7_ask_89 ⟨Nat.le_refl _, Nat.le_refl _⟩) hh (fun H locs hh => ?_)
        refine lv_istore (lv' := [(7, .int q5), (0, .ref (g.2.2 66)), (1, .int x1), (2, .int x2), (3, .int x3), (4, .int x4), (5, .int x5), (6, .int x6)]) hx hb dX7_ask_92 hl (by decide) rfl (fun ls hl => ?_)
        refine lv_aload_n hx hb dX7_ask_94 rfl (lv_at hl 1 rfl) ?_
        refine z_get (v := .ref (g.2.2 61)) hx hb hts (fun w h => List.mem_cons_of_mem _ (List.mem_append_right _ (h))) hown E hh (by decide) (zC_obj (q := 66) rfl) rfl 29 (by decide) (hts (.fieldLink RX7 28 "TownBandModel" "hurtMany" "[I") (List.mem_cons_of_mem _ (List.mem_append_left _ (List.mem_append_left _ (List.mem_of_getElem? (i := 1) rfl))))) rfl dX7_ask_95 ?_
        refine lv_iload hx hb dX7_ask_98 (lv_at hl 0 rfl) ?_
        refine lv_dup2_11 hx hb dX7_ask_100 rfl rfl ?_
        obtain ⟨h_v6, hf⟩ := z_if hf
        obtain ⟨v7, e_v7, hf⟩ := z_lt hf
        refine z_ialdM hx hb E hh (by decide) (by decide) h_v6 e_v7 dX7_ask_101 ?_
        refine lv_iconst (v := (nI 1)) hx hb dX7_ask_102 (by decide) ?_
        refine lv_iadd hx hb dX7_ask_103 ?_
        obtain ⟨h_v8, hf⟩ := z_if hf
        obtain ⟨τ9, e_τ9, hf⟩ := z_lt hf
        refine z_iastM hx hb E hh (by decide) (by decide) h_v8 e_τ9 dX7_ask_104 (fun H locs hh => ?_)
        refine lv_aload_n hx hb dX7_ask_105 rfl (lv_at hl 1 rfl) ?_
        refine z_get (v := .ref (g.2.2 61)) hx hb hts (fun w h => List.mem_cons_of_mem _ (List.mem_append_right _ (h))) hown E hh (by decide) (zC_obj (q := 66) rfl) rfl 29 (by decide) (hts (.fieldLink RX7 28 "TownBandModel" "hurtMany" "[I") (List.mem_cons_of_mem _ (List.mem_append_left _ (List.mem_append_left _ (List.mem_of_getElem? (i := 1) rfl))))) rfl dX7_ask_106 ?_
        refine lv_iload hx hb dX7_ask_109 (lv_at hl 0 rfl) ?_
        obtain ⟨h_v10, hf⟩ := z_if hf
        obtain ⟨v11, e_v11, hf⟩ := z_lt hf
        refine z_ialdM hx hb E hh (by decide) (by decide) h_v10 e_v11 dX7_ask_111 ?_
        refine lv_iload hx hb dX7_ask_112 (lv_at hl 6 rfl) ?_
        refine lv_icmp_le (tgt := 127) hx hb dX7_ask_114 (by decide) (fun c_v12 => ?_) (fun c_v12 => ?_)
        · have hf := z_ip hf c_v12
          refine lv_iload hx hb dX7_ask_127 (lv_at hl 6 rfl) ?_
          exact (hX7_ask_129 C E N (fX7_ask_63 N k_137 n) ih k_137 hk_137) x1 x2 x3 x4 x6 x5 τ9 _ _ _ hf hh (lv_sub hl [1, 2, 3, 4, 5, 7] rfl)
        · have hf := z_in hf c_v12
          refine lv_aload_n hx hb dX7_ask_117 rfl (lv_at hl 1 rfl) ?_
          refine z_get (v := .ref (g.2.2 61)) hx hb hts (fun w h => List.mem_cons_of_mem _ (List.mem_append_right _ (h))) hown E hh (by decide) (zC_obj (q := 66) rfl) rfl 29 (by decide) (hts (.fieldLink RX7 28 "TownBandModel" "hurtMany" "[I") (List.mem_cons_of_mem _ (List.mem_append_left _ (List.mem_append_left _ (List.mem_of_getElem? (i := 1) rfl))))) rfl dX7_ask_118 ?_
          refine lv_iload hx hb dX7_ask_121 (lv_at hl 0 rfl) ?_
          obtain ⟨h_v13, hf⟩ := z_if hf
          obtain ⟨v14, e_v14, hf⟩ := z_lt hf
          refine z_ialdM hx hb E hh (by decide) (by decide) h_v13 e_v14 dX7_ask_123 ?_
          refine lv_goto (tgt := 129) hx hb dX7_ask_124 (by decide) ?_
          exact (hX7_ask_129 C E N (fX7_ask_63 N k_137 n) ih k_137 hk_137) x1 x2 x3 x4 x6 v14 τ9 _ _ _ hf hh (lv_sub hl [1, 2, 3, 4, 5, 7] rfl)
def fX7_ask_60 (N : Nat) (rc : Int32 → Int32 → Int32 → Int32 → zS → Option (Int32 × zS)) (k_169 : Int32 → Int32 → Int32 → zS → Option (Int32 × zS)) (x1 : Int32) (x2 : Int32) (x3 : Int32) (x4 : Int32) (x5 : Int32) (τ : zS) : Option (Int32 × zS) :=
  (fX7_ask_63 N (fX7_ask_137 N rc k_169) N) x1 x2 x3 x4 x5 (nI 0) τ
set_option maxRecDepth 100000 in
set_option maxHeartbeats 4000000 in
theorem hX7_ask_60 {p : Program} {l : Launch} {e : Env} {s : State} {m : MethodId} {args : Array Value} {below : List Frame} {meth : Method} {c : Code} {g : zG} {A : Nat → Prop} {σ : zS} {res : Int32 × zS} (C : zCx p s m args meth c cX7_ask (some .int) wsX7_ask RX7 8) (E : zE g A s) (N : Nat) (rc : Int32 → Int32 → Int32 → Int32 → zS → Option (Int32 × zS)) (hrc : PX7_ask_24 p l e s m args below meth c g A σ res rc) (k_169 : Int32 → Int32 → Int32 → zS → Option (Int32 × zS)) (hk_169 : PX7_ask_169 p l e s m args below meth c g A σ res k_169) : PX7_ask_60 p l e s m args below meth c g A σ res (fX7_ask_60 N rc k_169) := by
  obtain ⟨hx, hb, hr, hml, hown, hts, hlocks⟩ := id C
  intro x1 x2 x3 x4 x5 τ H locs ls hf hh hl
  unfold fX7_ask_60 at hf
  refine lv_iconst (v := (nI 0)) hx hb dX7_ask_60 (by decide) ?_
  refine lv_istore (lv' := [(6, .int (nI 0)), (0, .ref (g.2.2 66)), (1, .int x1), (2, .int x2), (3, .int x3), (4, .int x4), (5, .int x5)]) hx hb dX7_ask_61 hl (by decide) rfl (fun ls hl => ?_)
  exact (hX7_ask_63 C E N (fX7_ask_137 N rc k_169) (hX7_ask_137 C E N rc hrc k_169 hk_169) N) x1 x2 x3 x4 x5 (nI 0) τ _ _ _ hf hh (lv_sub hl [1, 2, 3, 4, 5, 6, 0] rfl)
def fX7_ask_39 (N : Nat) (k_60 : Int32 → Int32 → Int32 → Int32 → Int32 → zS → Option (Int32 × zS)) : Nat → Int32 → Int32 → Int32 → Int32 → Int32 → Int32 → zS → Option (Int32 × zS)
  | 0, _, _, _, _, _, _, _ => none
  | n + 1, x1, x2, x3, x4, x5, x6, τ =>
    if (nI 40) ≤ x6 then
      k_60 x1 x2 x3 x4 x5 τ
    else
      if zin x6 (zlen 61) then
      zlet (zpa τ 61 (upd (τ.2 61) x6.toNatClampNeg (nI 0))) fun τ3 =>
      (fX7_ask_39 N k_60 n) x1 x2 x3 x4 x5 (x6 + (nI 1)) τ3
      else none
set_option maxRecDepth 100000 in
set_option maxHeartbeats 4000000 in
theorem hX7_ask_39 {p : Program} {l : Launch} {e : Env} {s : State} {m : MethodId} {args : Array Value} {below : List Frame} {meth : Method} {c : Code} {g : zG} {A : Nat → Prop} {σ : zS} {res : Int32 × zS} (C : zCx p s m args meth c cX7_ask (some .int) wsX7_ask RX7 8) (E : zE g A s) (N : Nat) (k_60 : Int32 → Int32 → Int32 → Int32 → Int32 → zS → Option (Int32 × zS)) (hk_60 : PX7_ask_60 p l e s m args below meth c g A σ res k_60) : ∀ n : Nat, PX7_ask_39 p l e s m args below meth c g A σ res (fX7_ask_39 N k_60 n) := by
  obtain ⟨hx, hb, hr, hml, hown, hts, hlocks⟩ := id C
  intro n
  induction n with
  | zero =>
    intro x1 x2 x3 x4 x5 x6 τ H locs ls hf
    exact absurd hf (by simp [fX7_ask_39])
  | succ n ih =>
    intro x1 x2 x3 x4 x5 x6 τ H locs ls hf hh hl
    rw [fX7_ask_39] at hf
    refine lv_iload hx hb dX7_ask_39 (lv_at hl 6 rfl) ?_
    refine lv_bipush (v := (nI 40)) hx hb dX7_ask_41 (by decide) ?_
    refine lv_icmp_ge (tgt := 60) hx hb dX7_ask_43 (by decide) (fun c_v1 => ?_) (fun c_v1 => ?_)
    · have hf := z_ip hf c_v1
      exact hk_60 x1 x2 x3 x4 x5 τ _ _ _ hf hh (lv_sub hl [0, 1, 2, 3, 4, 5] rfl)
    · have hf := z_in hf c_v1
      refine lv_aload_n hx hb dX7_ask_46 rfl (lv_at hl 0 rfl) ?_
      refine z_get (v := .ref (g.2.2 61)) hx hb hts (fun w h => List.mem_cons_of_mem _ (List.mem_append_right _ (h))) hown E hh (by decide) (zC_obj (q := 66) rfl) rfl 29 (by decide) (hts (.fieldLink RX7 28 "TownBandModel" "hurtMany" "[I") (List.mem_cons_of_mem _ (List.mem_append_left _ (List.mem_append_left _ (List.mem_of_getElem? (i := 1) rfl))))) rfl dX7_ask_47 ?_
      refine lv_iload hx hb dX7_ask_50 (lv_at hl 6 rfl) ?_
      refine lv_iconst (v := (nI 0)) hx hb dX7_ask_52 (by decide) ?_
      obtain ⟨h_v2, hf⟩ := z_if hf
      obtain ⟨τ3, e_τ3, hf⟩ := z_lt hf
      refine z_iastM hx hb E hh (by decide) (by decide) h_v2 e_τ3 dX7_ask_53 (fun H locs hh => ?_)
      refine lv_iinc (v := (x6 + (nI 1))) (lv' := [(6, .int (x6 + (nI 1))), (0, .ref (g.2.2 66)), (1, .int x1), (2, .int x2), (3, .int x3), (4, .int x4), (5, .int x5)]) hx hb dX7_ask_54 hl (k := 6) rfl rfl (by decide) rfl (fun ls hl => ?_)
      refine lv_goto (tgt := 39) hx hb dX7_ask_57 (by decide) ?_
      exact ih x1 x2 x3 x4 x5 (x6 + (nI 1)) τ3 _ _ _ hf hh (lv_sub hl [1, 2, 3, 4, 5, 6, 0] rfl)
def fX7_ask_24 (N : Nat) (k_169 : Int32 → Int32 → Int32 → zS → Option (Int32 × zS)) : Nat → Int32 → Int32 → Int32 → Int32 → zS → Option (Int32 × zS)
  | 0, _, _, _, _, _ => none
  | n + 1, x1, x2, x3, x4, τ =>
    if (τ.1 66 1) < x4 then
      k_169 x1 x2 x3 τ
    else
      (fX7_ask_39 N (fX7_ask_60 N (fX7_ask_24 N k_169 n) k_169) N) x1 x2 x3 x4 (nI 0) (nI 0) τ
set_option maxRecDepth 100000 in
set_option maxHeartbeats 4000000 in
theorem hX7_ask_24 {p : Program} {l : Launch} {e : Env} {s : State} {m : MethodId} {args : Array Value} {below : List Frame} {meth : Method} {c : Code} {g : zG} {A : Nat → Prop} {σ : zS} {res : Int32 × zS} (C : zCx p s m args meth c cX7_ask (some .int) wsX7_ask RX7 8) (E : zE g A s) (N : Nat) (k_169 : Int32 → Int32 → Int32 → zS → Option (Int32 × zS)) (hk_169 : PX7_ask_169 p l e s m args below meth c g A σ res k_169) : ∀ n : Nat, PX7_ask_24 p l e s m args below meth c g A σ res (fX7_ask_24 N k_169 n) := by
  obtain ⟨hx, hb, hr, hml, hown, hts, hlocks⟩ := id C
  intro n
  induction n with
  | zero =>
    intro x1 x2 x3 x4 τ H locs ls hf
    exact absurd hf (by simp [fX7_ask_24])
  | succ n ih =>
    intro x1 x2 x3 x4 τ H locs ls hf hh hl
    rw [fX7_ask_24] at hf
    refine lv_iload hx hb dX7_ask_24 (lv_at hl 4 rfl) ?_
    refine lv_aload_n hx hb dX7_ask_26 rfl (lv_at hl 0 rfl) ?_
    refine z_get (v := .int (τ.1 66 1)) hx hb hts (fun w h => List.mem_cons_of_mem _ (List.mem_append_right _ (h))) hown E hh (by decide) (zC_obj (q := 66) rfl) rfl 1 (by decide) (hts (.fieldLink RX7 141 "TownBandModel" "beastMany" "I") (List.mem_cons_of_mem _ (List.mem_append_left _ (List.mem_append_left _ (List.mem_of_getElem? (i := 0) rfl))))) rfl dX7_ask_27 ?_
    refine lv_icmp_gt (tgt := 169) hx hb dX7_ask_30 (by decide) (fun c_v1 => ?_) (fun c_v1 => ?_)
    · have hf := z_ip hf c_v1
      exact hk_169 x1 x2 x3 τ _ _ _ hf hh (lv_sub hl [1, 2, 3] rfl)
    · have hf := z_in hf c_v1
      refine lv_iconst (v := (nI 0)) hx hb dX7_ask_33 (by decide) ?_
      refine lv_istore (lv' := [(5, .int (nI 0)), (0, .ref (g.2.2 66)), (1, .int x1), (2, .int x2), (3, .int x3), (4, .int x4)]) hx hb dX7_ask_34 hl (by decide) rfl (fun ls hl => ?_)
      refine lv_iconst (v := (nI 0)) hx hb dX7_ask_36 (by decide) ?_
      refine lv_istore (lv' := [(6, .int (nI 0)), (5, .int (nI 0)), (0, .ref (g.2.2 66)), (1, .int x1), (2, .int x2), (3, .int x3), (4, .int x4)]) hx hb dX7_ask_37 hl (by decide) rfl (fun ls hl => ?_)
      exact (hX7_ask_39 C E N (fX7_ask_60 N (fX7_ask_24 N k_169 n) k_169) (hX7_ask_60 C E N (fX7_ask_24 N k_169 n) ih k_169 hk_169) N) x1 x2 x3 x4 (nI 0) (nI 0) τ _ _ _ hf hh (lv_sub hl [2, 3, 4, 5, 6, 1, 0] rfl)
def fX7_ask (N : Nat) (τ : zS) (x1 : Int32) : Option (Int32 × zS) :=
  (fX7_in N x1.toInt64 0 1).bind fun q1 =>
  if q1 = 0 then
    some ((-1), τ)
  else
    (fX7_fits N τ (nI 0)).bind fun q3 =>
    (fX7_ask_24 N (fX7_ask_169 N) N) x1 q3 (-4) (nI 1) τ
set_option maxRecDepth 100000 in
set_option maxHeartbeats 4000000 in
theorem zcX7_ask (l : Launch) (g : zG) (A : Nat → Prop) (σ τ : zS) (N : Nat) (x1 : Int32)  {res : Int32 × zS} (hf : fX7_ask N τ x1 = some res) : Met l yX7_ask wsX7_ask (zR 6) (zPc g A σ τ [.ref (g.2.2 66), .int x1]) (zPi g A σ res) 0 0 A := by
  refine z_met (cc := cX7_ask) (ret := (some .int)) (own := RX7) (by decide) rfl rfl _ (Nat.le_of_ble_eq_true rfl) ?_
  intro p e s m below meth c C E ls hl hh
  have hl : lv_has ls 8 [(0, .ref (g.2.2 66)), (1, .int x1)] := hl
  obtain ⟨hx, hb, hr, hml, hown, hts, hlocks⟩ := id C
  unfold fX7_ask at hf
  refine lv_iload_n hx hb dX7_ask_0 rfl (lv_at hl 1 rfl) ?_
  refine lv_i2l hx hb dX7_ask_1 rfl ?_
  refine lv_lconst (v := 0) hx hb dX7_ask_2 (by decide) ?_
  refine lv_lconst (v := 1) hx hb dX7_ask_3 (by decide) ?_
  obtain ⟨q1, h_q1, hf⟩ := z_bd hf
  refine z_mi (va_runS (As := [.long x1.toInt64, .long 0, .long 1]) (rest := []) ⟨hx, hb, hml, hown, hts⟩ (zcX7_in l g A σ τ N x1.toInt64 0 1 h_q1) (va_cwS 3 hts gX7_ask_X7_in rfl rfl rfl hdX7_in.2 ⟨by decide, by decide⟩) (z_preS E hh) rfl rfl hl.1 rfl (lv_room (Nat.le_of_ble_eq_true rfl)) dX7_ask_4 ⟨Nat.le_refl _, Nat.le_refl _⟩) hh (fun H locs hh => ?_)
  refine lv_if_ne (tgt := 12) hx hb dX7_ask_7 (by decide) (fun c_v2 => ?_) (fun c_v2 => ?_)
  · have hf := z_in hf c_v2
    refine lv_aload_n hx hb dX7_ask_12 rfl (lv_at hl 0 rfl) ?_
    refine lv_iconst (v := (nI 0)) hx hb dX7_ask_13 (by decide) ?_
    obtain ⟨q3, h_q3, hf⟩ := z_bd hf
    refine z_mi (va_runV (As := [.int (nI 0)]) (rest := []) ⟨hx, hb, hml, hown, hts⟩ (zcX7_fits l g A σ τ N (nI 0) h_q3) (cwV 1 hts gX7_ask_X7_fits rfl rfl rfl hdX7_fits ⟨by decide, by decide⟩) (z_preV E hh (by decide) (zC_obj (q := 66) rfl) rfl) rfl rfl hl.1 rfl (lv_room (Nat.le_of_ble_eq_true rfl)) dX7_ask_14 ⟨Nat.le_refl _, Nat.le_refl _⟩) hh (fun H locs hh => ?_)
    refine lv_istore_n (lv' := [(2, .int q3), (0, .ref (g.2.2 66)), (1, .int x1)]) hx hb dX7_ask_17 rfl hl (by decide) rfl (fun ls hl => ?_)
    refine lv_bipush (v := (-4)) hx hb dX7_ask_18 (by decide) ?_
    refine lv_istore_n (lv' := [(3, .int (-4)), (2, .int q3), (0, .ref (g.2.2 66)), (1, .int x1)]) hx hb dX7_ask_20 rfl hl (by decide) rfl (fun ls hl => ?_)
    refine lv_iconst (v := (nI 1)) hx hb dX7_ask_21 (by decide) ?_
    refine lv_istore (lv' := [(4, .int (nI 1)), (3, .int (-4)), (2, .int q3), (0, .ref (g.2.2 66)), (1, .int x1)]) hx hb dX7_ask_22 hl (by decide) rfl (fun ls hl => ?_)
    exact (hX7_ask_24 C E N (fX7_ask_169 N) (hX7_ask_169 C E N) N) x1 q3 (-4) (nI 1) τ _ _ _ hf hh (lv_sub hl [3, 4, 2, 1, 0] rfl)
  · have hf := z_ip hf c_v2
    refine lv_iconst (v := (-1)) hx hb dX7_ask_10 (by decide) ?_
    have hf := Option.some.inj hf
    subst hf
    exact z_iretM hx hb hr hlocks hh dX7_ask_11
/-! ===== X7_draws ===== -/
theorem hdX7_draws : yX7_draws.cls = RX7 ∧ yX7_draws.cls ≠ "java/lang/invoke/MethodHandle" ∧ yX7_draws.cls ≠ "java/lang/invoke/VarHandle" ∧ (parseMethodDescriptor yX7_draws.desc).map (fun d => d.parameters.length) = some 1 := by decide +kernel
def fX7_draws (N : Nat) (τ : zS) (x1 : Int32) : Option (Int32 × zS) :=
  zlet (zpf τ 66 30 (((τ.1 66 30) * (nI 1103515245)) + (nI 12345))) fun τ1 =>
  if ¬ (x1 = 0) then
  zlet (zrem (((τ1.1 66 30) >>> ((nI 16) &&& 31)) &&& (nI 32767)) x1) fun v3 =>
  some (v3, τ1)
  else none
set_option maxRecDepth 100000 in
set_option maxHeartbeats 4000000 in
theorem zcX7_draws (l : Launch) (g : zG) (A : Nat → Prop) (σ τ : zS) (N : Nat) (x1 : Int32)  {res : Int32 × zS} (hf : fX7_draws N τ x1 = some res) : Met l yX7_draws wsX7_draws (zR 0) (zPc g A σ τ [.ref (g.2.2 66), .int x1]) (zPi g A σ res) 0 0 A := by
  refine z_met (cc := cX7_draws) (ret := (some .int)) (own := RX7) (by decide) rfl rfl _ (Nat.le_of_ble_eq_true rfl) ?_
  intro p e s m below meth c C E ls hl hh
  have hl : lv_has ls 2 [(0, .ref (g.2.2 66)), (1, .int x1)] := hl
  obtain ⟨hx, hb, hr, hml, hown, hts, hlocks⟩ := id C
  unfold fX7_draws at hf
  refine lv_aload_n hx hb dX7_draws_0 rfl (lv_at hl 0 rfl) ?_
  refine lv_aload_n hx hb dX7_draws_1 rfl (lv_at hl 0 rfl) ?_
  refine z_get (v := .int (τ.1 66 30)) hx hb hts (fun w h => List.mem_cons_of_mem _ (List.mem_append_right _ (h))) hown E hh (by decide) (zC_obj (q := 66) rfl) rfl 30 (by decide) (hts (.fieldLink RX7 284 "TownBandModel" "drawn" "I") (List.mem_cons_of_mem _ (List.mem_append_left _ (List.mem_of_getElem? (i := 0) rfl)))) rfl dX7_draws_2 ?_
  refine lv_ldcw (v := (nI 1103515245)) hx hb hown (hts (.constant RX7 287 (1103515245)) (List.mem_cons_of_mem _ (List.mem_append_left _ (List.mem_of_getElem? (i := 1) rfl)))) dX7_draws_5 ?_
  refine lv_imul hx hb dX7_draws_8 ?_
  refine lv_sipush (v := (nI 12345)) hx hb dX7_draws_9 (by decide) ?_
  refine lv_iadd hx hb dX7_draws_12 ?_
  obtain ⟨τ1, e_τ1, hf⟩ := z_lt hf
  refine z_putM hx hb hts (fun w h => List.mem_cons_of_mem _ (List.mem_append_right _ (h))) tyX7 tyX7_ok nmX7 hown E hh (by decide) (by decide) (show zD 66 = _ from rfl) rfl 30 (by decide) rfl (hts (.fieldLink RX7 284 "TownBandModel" "drawn" "I") (List.mem_cons_of_mem _ (List.mem_append_left _ (List.mem_of_getElem? (i := 0) rfl)))) rfl rfl e_τ1 dX7_draws_13 (fun H locs hh => ?_)
  refine lv_aload_n hx hb dX7_draws_16 rfl (lv_at hl 0 rfl) ?_
  refine z_get (v := .int (τ1.1 66 30)) hx hb hts (fun w h => List.mem_cons_of_mem _ (List.mem_append_right _ (h))) hown E hh (by decide) (zC_obj (q := 66) rfl) rfl 30 (by decide) (hts (.fieldLink RX7 284 "TownBandModel" "drawn" "I") (List.mem_cons_of_mem _ (List.mem_append_left _ (List.mem_of_getElem? (i := 0) rfl)))) rfl dX7_draws_17 ?_
  refine lv_bipush (v := (nI 16)) hx hb dX7_draws_20 (by decide) ?_
  refine lv_ishr hx hb dX7_draws_22 ?_
  refine lv_sipush (v := (nI 32767)) hx hb dX7_draws_23 (by decide) ?_
  refine lv_iand hx hb dX7_draws_26 ?_
  refine lv_iload_n hx hb dX7_draws_27 rfl (lv_at hl 1 rfl) ?_
  obtain ⟨h_v2, hf⟩ := z_if hf
  obtain ⟨v3, e_v3, hf⟩ := z_lt hf
  refine lv_irem hx hb dX7_draws_28 h_v2 ?_
  refine z_topi e_v3 ?_
  have hf := Option.some.inj hf
  subst hf
  exact z_iretM hx hb hr hlocks hh dX7_draws_29
/-! ===== X7_drift ===== -/
theorem hdX7_drift : yX7_drift.cls = RX7 ∧ yX7_drift.cls ≠ "java/lang/invoke/MethodHandle" ∧ yX7_drift.cls ≠ "java/lang/invoke/VarHandle" ∧ (parseMethodDescriptor yX7_drift.desc).map (fun d => d.parameters.length) = some 3 := by decide +kernel
def PX7_drift_107 (p : Program) (l : Launch) (e : Env) (s : State) (m : MethodId) (args : Array Value) (below : List Frame) (meth : Method) (c : Code) (g : zG) (A : Nat → Prop) (σ : zS) (res : Int32 × zS) (f : Int32 → Int32 → zS → Option (Int32 × zS)) : Prop := ∀ (x3 : Int32) (x4 : Int32) (τ : zS) (H : Heap) (locs : List Loc) (ls : Array Slot), f x3 x4 τ = some res → zW g A σ τ s H locs → lv_has ls 7 [(0, .ref (g.2.2 66)), (3, .int x3), (4, .int x4)] → W p l e (zR 1) s m args below meth c H locs 0 0 (MQ below (zPi g A σ res) args s 0 0 A) (F0 m 107 ls [])
def PX7_drift_52 (p : Program) (l : Launch) (e : Env) (s : State) (m : MethodId) (args : Array Value) (below : List Frame) (meth : Method) (c : Code) (g : zG) (A : Nat → Prop) (σ : zS) (res : Int32 × zS) (f : Int32 → Int32 → Int32 → Int32 → zS → Option (Int32 × zS)) : Prop := ∀ (x2 : Int32) (x3 : Int32) (x4 : Int32) (x5 : Int32) (τ : zS) (H : Heap) (locs : List Loc) (ls : Array Slot), f x2 x3 x4 x5 τ = some res → zW g A σ τ s H locs → lv_has ls 7 [(0, .ref (g.2.2 66)), (2, .int x2), (3, .int x3), (4, .int x4), (5, .int x5)] → W p l e (zR 1) s m args below meth c H locs 0 0 (MQ below (zPi g A σ res) args s 0 0 A) (F0 m 52 ls [])
def fX7_drift_107 (N : Nat) (x3 : Int32) (x4 : Int32) (τ : zS) : Option (Int32 × zS) :=
  (fX7_noiseBy N τ (nI 0)).bind fun q1 =>
  (fX7_copies N τ (nI 124) (nI 0)).bind fun q2 =>
  if x3 = 0 then
    some (x4, q2)
  else
    some (q1, q2)
set_option maxRecDepth 100000 in
set_option maxHeartbeats 4000000 in
theorem hX7_drift_107 {p : Program} {l : Launch} {e : Env} {s : State} {m : MethodId} {args : Array Value} {below : List Frame} {meth : Method} {c : Code} {g : zG} {A : Nat → Prop} {σ : zS} {res : Int32 × zS} (C : zCx p s m args meth c cX7_drift (some .int) wsX7_drift RX7 7) (E : zE g A s) (N : Nat) : PX7_drift_107 p l e s m args below meth c g A σ res (fX7_drift_107 N) := by
  obtain ⟨hx, hb, hr, hml, hown, hts, hlocks⟩ := id C
  intro x3 x4 τ H locs ls hf hh hl
  unfold fX7_drift_107 at hf
  refine lv_aload_n hx hb dX7_drift_107 rfl (lv_at hl 0 rfl) ?_
  refine lv_iconst (v := (nI 0)) hx hb dX7_drift_108 (by decide) ?_
  obtain ⟨q1, h_q1, hf⟩ := z_bd hf
  refine z_mi (va_runV (As := [.int (nI 0)]) (rest := []) ⟨hx, hb, hml, hown, hts⟩ (zcX7_noiseBy l g A σ τ N (nI 0) h_q1) (cwV 1 hts gX7_drift_X7_noiseBy rfl rfl rfl hdX7_noiseBy ⟨by decide, by decide⟩) (z_preV E hh (by decide) (zC_obj (q := 66) rfl) rfl) rfl rfl hl.1 rfl (lv_room (Nat.le_of_ble_eq_true rfl)) dX7_drift_109 ⟨Nat.le_refl _, Nat.le_refl _⟩) hh (fun H locs hh => ?_)
  refine lv_istore (lv' := [(5, .int q1), (0, .ref (g.2.2 66)), (3, .int x3), (4, .int x4)]) hx hb dX7_drift_112 hl (by decide) rfl (fun ls hl => ?_)
  refine lv_aload_n hx hb dX7_drift_114 rfl (lv_at hl 1 rfl) ?_
  refine lv_bipush (v := (nI 124)) hx hb dX7_drift_115 (by decide) ?_
  refine lv_iconst (v := (nI 0)) hx hb dX7_drift_117 (by decide) ?_
  obtain ⟨q2, h_q2, hf⟩ := z_bd hf
  refine z_mv (va_runV (As := [.int (nI 124), .int (nI 0)]) (rest := []) ⟨hx, hb, hml, hown, hts⟩ (zcX7_copies l g A σ τ N (nI 124) (nI 0) h_q2) (cwV 2 hts gX7_drift_X7_copies rfl rfl rfl hdX7_copies ⟨by decide, by decide⟩) (z_preV E hh (by decide) (zC_obj (q := 66) rfl) rfl) rfl rfl hl.1 rfl (lv_room (Nat.le_of_ble_eq_true rfl)) dX7_drift_118 ⟨Nat.le_refl _, Nat.le_refl _⟩) hh (fun H locs hh => ?_)
  refine lv_iload_n hx hb dX7_drift_121 rfl (lv_at hl 2 rfl) ?_
  refine lv_if_ne (tgt := 130) hx hb dX7_drift_122 (by decide) (fun c_v3 => ?_) (fun c_v3 => ?_)
  · have hf := z_in hf c_v3
    refine lv_iload hx hb dX7_drift_130 (lv_at hl 0 rfl) ?_
    have hf := Option.some.inj hf
    subst hf
    exact z_iretM hx hb hr hlocks hh dX7_drift_132
  · have hf := z_ip hf c_v3
    refine lv_iload hx hb dX7_drift_125 (lv_at hl 3 rfl) ?_
    refine lv_goto (tgt := 132) hx hb dX7_drift_127 (by decide) ?_
    have hf := Option.some.inj hf
    subst hf
    exact z_iretM hx hb hr hlocks hh dX7_drift_132
def fX7_drift_52 (N : Nat) (k_107 : Int32 → Int32 → zS → Option (Int32 × zS)) : Nat → Int32 → Int32 → Int32 → Int32 → zS → Option (Int32 × zS)
  | 0, _, _, _, _, _ => none
  | n + 1, x2, x3, x4, x5, τ =>
    if x2 ≤ x5 then
      k_107 x3 x4 τ
    else
      (fX7_draws N τ (τ.1 66 1)).bind fun q2 =>
      (fX7_draws N q2.2 (nI 10)).bind fun q3 =>
      if zin ((nI 10) + q2.1) (zlen 55) then
      zlet (zpa q3.2 55 (upd (q3.2.2 55) ((nI 10) + q2.1).toNatClampNeg q3.1)) fun τ5 =>
      (fX7_noiseBy N τ5 (nI 0)).bind fun q6 =>
      (fX7_fleeBy N τ5 q6).bind fun q7 =>
      (fX7_bitsOf N q7).bind fun q8 =>
      (fX7_drift_52 N k_107 n) x2 x3 (x4 + q8) (x5 + (nI 1)) τ5
      else none
set_option maxRecDepth 100000 in
set_option maxHeartbeats 4000000 in
theorem hX7_drift_52 {p : Program} {l : Launch} {e : Env} {s : State} {m : MethodId} {args : Array Value} {below : List Frame} {meth : Method} {c : Code} {g : zG} {A : Nat → Prop} {σ : zS} {res : Int32 × zS} (C : zCx p s m args meth c cX7_drift (some .int) wsX7_drift RX7 7) (E : zE g A s) (N : Nat) (k_107 : Int32 → Int32 → zS → Option (Int32 × zS)) (hk_107 : PX7_drift_107 p l e s m args below meth c g A σ res k_107) : ∀ n : Nat, PX7_drift_52 p l e s m args below meth c g A σ res (fX7_drift_52 N k_107 n) := by
  obtain ⟨hx, hb, hr, hml, hown, hts, hlocks⟩ := id C
  intro n
  induction n with
  | zero =>
    intro x2 x3 x4 x5 τ H locs ls hf
    exact absurd hf (by simp [fX7_drift_52])
  | succ n ih =>
    intro x2 x3 x4 x5 τ H locs ls hf hh hl
    rw [fX7_drift_52] at hf
    refine lv_iload hx hb dX7_drift_52 (lv_at hl 4 rfl) ?_
    refine lv_iload_n hx hb dX7_drift_54 rfl (lv_at hl 1 rfl) ?_
    refine lv_icmp_ge (tgt := 107) hx hb dX7_drift_55 (by decide) (fun c_v1 => ?_) (fun c_v1 => ?_)
    · have hf := z_ip hf c_v1
      exact hk_107 x3 x4 τ _ _ _ hf hh (lv_sub hl [0, 2, 3] rfl)
    · have hf := z_in hf c_v1
      refine lv_aload_n hx hb dX7_drift_58 rfl (lv_at hl 0 rfl) ?_
      refine lv_aload_n hx hb dX7_drift_59 rfl (lv_at hl 0 rfl) ?_
      refine z_get (v := .int (τ.1 66 1)) hx hb hts (fun w h => List.mem_cons_of_mem _ (List.mem_append_right _ (h))) hown E hh (by decide) (zC_obj (q := 66) rfl) rfl 1 (by decide) (hts (.fieldLink RX7 141 "TownBandModel" "beastMany" "I") (List.mem_cons_of_mem _ (List.mem_append_left _ (List.mem_append_left _ (List.mem_of_getElem? (i := 1) rfl))))) rfl dX7_drift_60 ?_
      obtain ⟨q2, h_q2, hf⟩ := z_bd hf
      refine z_mi (va_runV (As := [.int (τ.1 66 1)]) (rest := []) ⟨hx, hb, hml, hown, hts⟩ (zcX7_draws l g A σ τ N (τ.1 66 1) h_q2) (cwV 1 hts gX7_drift_X7_draws rfl rfl rfl hdX7_draws ⟨by decide, by decide⟩) (z_preV E hh (by decide) (zC_obj (q := 66) rfl) rfl) rfl rfl hl.1 rfl (lv_room (Nat.le_of_ble_eq_true rfl)) dX7_drift_63 ⟨Nat.le_refl _, Nat.le_refl _⟩) hh (fun H locs hh => ?_)
      refine lv_istore (lv' := [(6, .int q2.1), (0, .ref (g.2.2 66)), (2, .int x2), (3, .int x3), (4, .int x4), (5, .int x5)]) hx hb dX7_drift_66 hl (by decide) rfl (fun ls hl => ?_)
      refine lv_aload_n hx hb dX7_drift_68 rfl (lv_at hl 1 rfl) ?_
      refine z_get (v := .ref (g.2.2 55)) hx hb hts (fun w h => List.mem_cons_of_mem _ (List.mem_append_right _ (h))) hown E hh (by decide) (zC_obj (q := 66) rfl) rfl 0 (by decide) (hts (.fieldLink RX7 7 "TownBandModel" "state" "[I") (List.mem_cons_of_mem _ (List.mem_append_left _ (List.mem_append_left _ (List.mem_of_getElem? (i := 3) rfl))))) rfl dX7_drift_69 ?_
      refine lv_bipush (v := (nI 10)) hx hb dX7_drift_72 (by decide) ?_
      refine lv_iload hx hb dX7_drift_74 (lv_at hl 0 rfl) ?_
      refine lv_iadd hx hb dX7_drift_76 ?_
      refine lv_aload_n hx hb dX7_drift_77 rfl (lv_at hl 1 rfl) ?_
      refine lv_bipush (v := (nI 10)) hx hb dX7_drift_78 (by decide) ?_
      obtain ⟨q3, h_q3, hf⟩ := z_bd hf
      refine z_mi (va_runV (As := [.int (nI 10)]) (rest := [.int ((nI 10) + q2.1), .ref (g.2.2 55)]) ⟨hx, hb, hml, hown, hts⟩ (zcX7_draws l g A σ q2.2 N (nI 10) h_q3) (cwV 1 hts gX7_drift_X7_draws rfl rfl rfl hdX7_draws ⟨by decide, by decide⟩) (z_preV E hh (by decide) (zC_obj (q := 66) rfl) rfl) rfl rfl hl.1 rfl (lv_room (Nat.le_of_ble_eq_true rfl)) dX7_drift_80 ⟨Nat.le_refl _, Nat.le_refl _⟩) hh (fun H locs hh => ?_)
      obtain ⟨h_v4, hf⟩ := z_if hf
      obtain ⟨τ5, e_τ5, hf⟩ := z_lt hf
      refine z_iastM hx hb E hh (by decide) (by decide) h_v4 e_τ5 dX7_drift_83 (fun H locs hh => ?_)
      refine lv_iload hx hb dX7_drift_84 (lv_at hl 4 rfl) ?_
      refine lv_aload_n hx hb dX7_drift_86 rfl (lv_at hl 1 rfl) ?_
      refine lv_aload_n hx hb dX7_drift_87 rfl (lv_at hl 1 rfl) ?_
      refine lv_iconst (v := (nI 0)) hx hb dX7_drift_88 (by decide) ?_
      obtain ⟨q6, h_q6, hf⟩ := z_bd hf
      refine z_mi (va_runV (As := [.int (nI 0)]) (rest := [.ref (g.2.2 66), .int x4]) ⟨hx, hb, hml, hown, hts⟩ (zcX7_noiseBy l g A σ τ5 N (nI 0) h_q6) (cwV 1 hts gX7_drift_X7_noiseBy rfl rfl rfl hdX7_noiseBy ⟨by decide, by decide⟩) (z_preV E hh (by decide) (zC_obj (q := 66) rfl) rfl) rfl rfl hl.1 rfl (lv_room (Nat.le_of_ble_eq_true rfl)) dX7_drift_89 ⟨Nat.le_refl _, Nat.le_refl _⟩) hh (fun H locs hh => ?_)
      obtain ⟨q7, h_q7, hf⟩ := z_bd hf
      refine z_mi (va_runV (As := [.int q6]) (rest := [.int x4]) ⟨hx, hb, hml, hown, hts⟩ (zcX7_fleeBy l g A σ τ5 N q6 h_q7) (cwV 1 hts gX7_drift_X7_fleeBy rfl rfl rfl hdX7_fleeBy ⟨by decide, by decide⟩) (z_preV E hh (by decide) (zC_obj (q := 66) rfl) rfl) rfl rfl hl.1 rfl (lv_room (Nat.le_of_ble_eq_true rfl)) dX7_drift_92 ⟨Nat.le_refl _, Nat.le_refl _⟩) hh (fun H locs hh => ?_)
      obtain ⟨q8, h_q8, hf⟩ := z_bd hf
      refine z_mi (va_runS (As := [.int q7]) (rest := [.int x4]) ⟨hx, hb, hml, hown, hts⟩ (zcX7_bitsOf l g A σ τ5 N q7 h_q8) (va_cwS 1 hts gX7_drift_X7_bitsOf rfl rfl rfl hdX7_bitsOf.2 ⟨by decide, by decide⟩) (z_preS E hh) rfl rfl hl.1 rfl (lv_room (Nat.le_of_ble_eq_true rfl)) dX7_drift_95 ⟨Nat.le_refl _, Nat.le_refl _⟩) hh (fun H locs hh => ?_)
      refine lv_iadd hx hb dX7_drift_98 ?_
      refine lv_istore (lv' := [(4, .int (x4 + q8)), (6, .int q2.1), (0, .ref (g.2.2 66)), (2, .int x2), (3, .int x3), (5, .int x5)]) hx hb dX7_drift_99 hl (by decide) rfl (fun ls hl => ?_)
      refine lv_iinc (v := (x5 + (nI 1))) (lv' := [(5, .int (x5 + (nI 1))), (4, .int (x4 + q8)), (6, .int q2.1), (0, .ref (g.2.2 66)), (2, .int x2), (3, .int x3)]) hx hb dX7_drift_101 hl (k := 5) rfl rfl (by decide) rfl (fun ls hl => ?_)
      refine lv_goto (tgt := 52) hx hb dX7_drift_104 (by decide) ?_
      exact ih x2 x3 (x4 + q8) (x5 + (nI 1)) τ5 _ _ _ hf hh (lv_sub hl [3, 4, 5, 1, 0] rfl)
def fX7_drift (N : Nat) (τ : zS) (x1 : Int32) (x2 : Int32) (x3 : Int32) : Option (Int32 × zS) :=
  (fX7_in N x2.toInt64 1 60).bind fun q1 =>
  if q1 = 0 then
    some ((-1), τ)
  else
    (fX7_in N x3.toInt64 0 1).bind fun q3 =>
    if q3 = 0 then
      some ((-1), τ)
    else
      if (τ.1 66 1) = 0 then
        some ((-2), τ)
      else
        (fX7_copies N τ (nI 0) (nI 124)).bind fun q6 =>
        zlet (zpf q6 66 30 x1) fun τ7 =>
        (fX7_drift_52 N (fX7_drift_107 N) N) x2 x3 (nI 0) (nI 0) τ7
set_option maxRecDepth 100000 in
set_option maxHeartbeats 4000000 in
theorem zcX7_drift (l : Launch) (g : zG) (A : Nat → Prop) (σ τ : zS) (N : Nat) (x1 : Int32) (x2 : Int32) (x3 : Int32)  {res : Int32 × zS} (hf : fX7_drift N τ x1 x2 x3 = some res) : Met l yX7_drift wsX7_drift (zR 1) (zPc g A σ τ [.ref (g.2.2 66), .int x1, .int x2, .int x3]) (zPi g A σ res) 0 0 A := by
  refine z_met (cc := cX7_drift) (ret := (some .int)) (own := RX7) (by decide) rfl rfl _ (Nat.le_of_ble_eq_true rfl) ?_
  intro p e s m below meth c C E ls hl hh
  have hl : lv_has ls 7 [(0, .ref (g.2.2 66)), (1, .int x1), (2, .int x2), (3, .int x3)] := hl
  obtain ⟨hx, hb, hr, hml, hown, hts, hlocks⟩ := id C
  unfold fX7_drift at hf
  refine lv_iload_n hx hb dX7_drift_0 rfl (lv_at hl 2 rfl) ?_
  refine lv_i2l hx hb dX7_drift_1 rfl ?_
  refine lv_lconst (v := 1) hx hb dX7_drift_2 (by decide) ?_
  refine lv_ldc2 (v := 60) hx hb hown (hts (.constantLong RX7 288 (60)) (List.mem_cons_of_mem _ (List.mem_append_left _ (List.mem_append_left _ (List.mem_of_getElem? (i := 0) rfl))))) dX7_drift_3 ?_
  obtain ⟨q1, h_q1, hf⟩ := z_bd hf
  refine z_mi (va_runS (As := [.long x2.toInt64, .long 1, .long 60]) (rest := []) ⟨hx, hb, hml, hown, hts⟩ (zcX7_in l g A σ τ N x2.toInt64 1 60 h_q1) (va_cwS 3 hts gX7_drift_X7_in rfl rfl rfl hdX7_in.2 ⟨by decide, by decide⟩) (z_preS E hh) rfl rfl hl.1 rfl (lv_room (Nat.le_of_ble_eq_true rfl)) dX7_drift_6 ⟨Nat.le_refl _, Nat.le_refl _⟩) hh (fun H locs hh => ?_)
  refine lv_if_eq (tgt := 22) hx hb dX7_drift_9 (by decide) (fun c_v2 => ?_) (fun c_v2 => ?_)
  · have hf := z_ip hf c_v2
    refine lv_iconst (v := (-1)) hx hb dX7_drift_22 (by decide) ?_
    have hf := Option.some.inj hf
    subst hf
    exact z_iretM hx hb hr hlocks hh dX7_drift_23
  · have hf := z_in hf c_v2
    refine lv_iload_n hx hb dX7_drift_12 rfl (lv_at hl 3 rfl) ?_
    refine lv_i2l hx hb dX7_drift_13 rfl ?_
    refine lv_lconst (v := 0) hx hb dX7_drift_14 (by decide) ?_
    refine lv_lconst (v := 1) hx hb dX7_drift_15 (by decide) ?_
    obtain ⟨q3, h_q3, hf⟩ := z_bd hf
    refine z_mi (va_runS (As := [.long x3.toInt64, .long 0, .long 1]) (rest := []) ⟨hx, hb, hml, hown, hts⟩ (zcX7_in l g A σ τ N x3.toInt64 0 1 h_q3) (va_cwS 3 hts gX7_drift_X7_in rfl rfl rfl hdX7_in.2 ⟨by decide, by decide⟩) (z_preS E hh) rfl rfl hl.1 rfl (lv_room (Nat.le_of_ble_eq_true rfl)) dX7_drift_16 ⟨Nat.le_refl _, Nat.le_refl _⟩) hh (fun H locs hh => ?_)
    refine lv_if_ne (tgt := 24) hx hb dX7_drift_19 (by decide) (fun c_v4 => ?_) (fun c_v4 => ?_)
    · have hf := z_in hf c_v4
      refine lv_aload_n hx hb dX7_drift_24 rfl (lv_at hl 0 rfl) ?_
      refine z_get (v := .int (τ.1 66 1)) hx hb hts (fun w h => List.mem_cons_of_mem _ (List.mem_append_right _ (h))) hown E hh (by decide) (zC_obj (q := 66) rfl) rfl 1 (by decide) (hts (.fieldLink RX7 141 "TownBandModel" "beastMany" "I") (List.mem_cons_of_mem _ (List.mem_append_left _ (List.mem_append_left _ (List.mem_of_getElem? (i := 1) rfl))))) rfl dX7_drift_25 ?_
      refine lv_if_ne (tgt := 34) hx hb dX7_drift_28 (by decide) (fun c_v5 => ?_) (fun c_v5 => ?_)
      · have hf := z_in hf c_v5
        refine lv_aload_n hx hb dX7_drift_34 rfl (lv_at hl 0 rfl) ?_
        refine lv_iconst (v := (nI 0)) hx hb dX7_drift_35 (by decide) ?_
        refine lv_bipush (v := (nI 124)) hx hb dX7_drift_36 (by decide) ?_
        obtain ⟨q6, h_q6, hf⟩ := z_bd hf
        refine z_mv (va_runV (As := [.int (nI 0), .int (nI 124)]) (rest := []) ⟨hx, hb, hml, hown, hts⟩ (zcX7_copies l g A σ τ N (nI 0) (nI 124) h_q6) (cwV 2 hts gX7_drift_X7_copies rfl rfl rfl hdX7_copies ⟨by decide, by decide⟩) (z_preV E hh (by decide) (zC_obj (q := 66) rfl) rfl) rfl rfl hl.1 rfl (lv_room (Nat.le_of_ble_eq_true rfl)) dX7_drift_38 ⟨Nat.le_refl _, Nat.le_refl _⟩) hh (fun H locs hh => ?_)
        refine lv_aload_n hx hb dX7_drift_41 rfl (lv_at hl 0 rfl) ?_
        refine lv_iload_n hx hb dX7_drift_42 rfl (lv_at hl 1 rfl) ?_
        obtain ⟨τ7, e_τ7, hf⟩ := z_lt hf
        refine z_putM hx hb hts (fun w h => List.mem_cons_of_mem _ (List.mem_append_right _ (h))) tyX7 tyX7_ok nmX7 hown E hh (by decide) (by decide) (show zD 66 = _ from rfl) rfl 30 (by decide) rfl (hts (.fieldLink RX7 284 "TownBandModel" "drawn" "I") (List.mem_cons_of_mem _ (List.mem_append_left _ (List.mem_append_left _ (List.mem_of_getElem? (i := 2) rfl))))) rfl rfl e_τ7 dX7_drift_43 (fun H locs hh => ?_)
        refine lv_iconst (v := (nI 0)) hx hb dX7_drift_46 (by decide) ?_
        refine lv_istore (lv' := [(4, .int (nI 0)), (0, .ref (g.2.2 66)), (1, .int x1), (2, .int x2), (3, .int x3)]) hx hb dX7_drift_47 hl (by decide) rfl (fun ls hl => ?_)
        refine lv_iconst (v := (nI 0)) hx hb dX7_drift_49 (by decide) ?_
        refine lv_istore (lv' := [(5, .int (nI 0)), (4, .int (nI 0)), (0, .ref (g.2.2 66)), (1, .int x1), (2, .int x2), (3, .int x3)]) hx hb dX7_drift_50 hl (by decide) rfl (fun ls hl => ?_)
        exact (hX7_drift_52 C E N (fX7_drift_107 N) (hX7_drift_107 C E N) N) x2 x3 (nI 0) (nI 0) τ7 _ _ _ hf hh (lv_sub hl [2, 4, 5, 1, 0] rfl)
      · have hf := z_ip hf c_v5
        refine lv_bipush (v := (-2)) hx hb dX7_drift_31 (by decide) ?_
        have hf := Option.some.inj hf
        subst hf
        exact z_iretM hx hb hr hlocks hh dX7_drift_33
    · have hf := z_ip hf c_v4
      refine lv_iconst (v := (-1)) hx hb dX7_drift_22 (by decide) ?_
      have hf := Option.some.inj hf
      subst hf
      exact z_iretM hx hb hr hlocks hh dX7_drift_23
/-! ===== X7_keep ===== -/
theorem hdX7_keep : yX7_keep.cls = RX7 ∧ yX7_keep.cls ≠ "java/lang/invoke/MethodHandle" ∧ yX7_keep.cls ≠ "java/lang/invoke/VarHandle" ∧ (parseMethodDescriptor yX7_keep.desc).map (fun d => d.parameters.length) = some 1 := by decide +kernel
def PX7_keep_37 (p : Program) (l : Launch) (e : Env) (s : State) (m : MethodId) (args : Array Value) (below : List Frame) (meth : Method) (c : Code) (g : zG) (A : Nat → Prop) (σ : zS) (res : Int32 × zS) (f : Int32 → Int32 → zS → Option (Int32 × zS)) : Prop := ∀ (x1 : Int32) (s0 : Int32) (τ : zS) (H : Heap) (locs : List Loc) (ls : Array Slot), f x1 s0 τ = some res → zW g A σ τ s H locs → lv_has ls 3 [(0, .ref (g.2.2 66)), (1, .int x1)] → W p l e (zR 1) s m args below meth c H locs 0 0 (MQ below (zPi g A σ res) args s 0 0 A) (F0 m 37 ls [.int s0])
def fX7_keep_37 (N : Nat) (x1 : Int32) (s0 : Int32) (τ : zS) : Option (Int32 × zS) :=
  if zin x1 2 then
  zlet (zpa τ 65 (upd (τ.2 65) x1.toNatClampNeg (vp_nar .boolean (nI 1)))) fun τ2 =>
  some (s0, τ2)
  else none
set_option maxRecDepth 100000 in
set_option maxHeartbeats 4000000 in
theorem hX7_keep_37 {p : Program} {l : Launch} {e : Env} {s : State} {m : MethodId} {args : Array Value} {below : List Frame} {meth : Method} {c : Code} {g : zG} {A : Nat → Prop} {σ : zS} {res : Int32 × zS} (C : zCx p s m args meth c cX7_keep (some .int) wsX7_keep RX7 3) (E : zE g A s) (N : Nat) : PX7_keep_37 p l e s m args below meth c g A σ res (fX7_keep_37 N) := by
  obtain ⟨hx, hb, hr, hml, hown, hts, hlocks⟩ := id C
  intro x1 s0 τ H locs ls hf hh hl
  unfold fX7_keep_37 at hf
  refine lv_istore_n (lv' := [(2, .int s0), (0, .ref (g.2.2 66)), (1, .int x1)]) hx hb dX7_keep_37 rfl hl (by decide) rfl (fun ls hl => ?_)
  refine lv_aload_n hx hb dX7_keep_38 rfl (lv_at hl 1 rfl) ?_
  refine z_get (v := .ref (g.2.2 65)) hx hb hts (fun w h => List.mem_cons_of_mem _ (List.mem_append_right _ (h))) hown E hh (by decide) (zC_obj (q := 66) rfl) rfl 31 (by decide) (hts (.fieldLink RX7 31 "TownBandModel" "isKept" "[Z") (List.mem_cons_of_mem _ (List.mem_append_left _ (List.mem_of_getElem? (i := 0) rfl)))) rfl dX7_keep_39 ?_
  refine lv_iload_n hx hb dX7_keep_42 rfl (lv_at hl 2 rfl) ?_
  refine lv_iconst (v := (nI 1)) hx hb dX7_keep_43 (by decide) ?_
  obtain ⟨h_v1, hf⟩ := z_if hf
  obtain ⟨τ2, e_τ2, hf⟩ := z_lt hf
  refine z_zastM hx hb E hh h_v1 e_τ2 dX7_keep_44 (fun H locs hh => ?_)
  refine lv_iload_n hx hb dX7_keep_45 rfl (lv_at hl 0 rfl) ?_
  have hf := Option.some.inj hf
  subst hf
  exact z_iretM hx hb hr hlocks hh dX7_keep_46
def fX7_keep (N : Nat) (τ : zS) (x1 : Int32) : Option (Int32 × zS) :=
  (fX7_in N x1.toInt64 0 1).bind fun q1 =>
  if q1 = 0 then
    some ((-1), τ)
  else
    (fX7_copies N τ (nI 0) ((nI 31) * (x1 + (nI 1)))).bind fun q3 =>
    if zin x1 2 then
    zlet (q3.2 65 x1.toNatClampNeg) fun v5 =>
    if v5 = 0 then
      (fX7_keep_37 N) x1 (nI 0) q3
    else
      (fX7_keep_37 N) x1 (nI 1) q3
    else none
set_option maxRecDepth 100000 in
set_option maxHeartbeats 4000000 in
theorem zcX7_keep (l : Launch) (g : zG) (A : Nat → Prop) (σ τ : zS) (N : Nat) (x1 : Int32)  {res : Int32 × zS} (hf : fX7_keep N τ x1 = some res) : Met l yX7_keep wsX7_keep (zR 1) (zPc g A σ τ [.ref (g.2.2 66), .int x1]) (zPi g A σ res) 0 0 A := by
  refine z_met (cc := cX7_keep) (ret := (some .int)) (own := RX7) (by decide) rfl rfl _ (Nat.le_of_ble_eq_true rfl) ?_
  intro p e s m below meth c C E ls hl hh
  have hl : lv_has ls 3 [(0, .ref (g.2.2 66)), (1, .int x1)] := hl
  obtain ⟨hx, hb, hr, hml, hown, hts, hlocks⟩ := id C
  unfold fX7_keep at hf
  refine lv_iload_n hx hb dX7_keep_0 rfl (lv_at hl 1 rfl) ?_
  refine lv_i2l hx hb dX7_keep_1 rfl ?_
  refine lv_lconst (v := 0) hx hb dX7_keep_2 (by decide) ?_
  refine lv_lconst (v := 1) hx hb dX7_keep_3 (by decide) ?_
  obtain ⟨q1, h_q1, hf⟩ := z_bd hf
  refine z_mi (va_runS (As := [.long x1.toInt64, .long 0, .long 1]) (rest := []) ⟨hx, hb, hml, hown, hts⟩ (zcX7_in l g A σ τ N x1.toInt64 0 1 h_q1) (va_cwS 3 hts gX7_keep_X7_in rfl rfl rfl hdX7_in.2 ⟨by decide, by decide⟩) (z_preS E hh) rfl rfl hl.1 rfl (lv_room (Nat.le_of_ble_eq_true rfl)) dX7_keep_4 ⟨Nat.le_refl _, Nat.le_refl _⟩) hh (fun H locs hh => ?_)
  refine lv_if_ne (tgt := 12) hx hb dX7_keep_7 (by decide) (fun c_v2 => ?_) (fun c_v2 => ?_)
  · have hf := z_in hf c_v2
    refine lv_aload_n hx hb dX7_keep_12 rfl (lv_at hl 0 rfl) ?_
    refine lv_iconst (v := (nI 0)) hx hb dX7_keep_13 (by decide) ?_
    refine lv_bipush (v := (nI 31)) hx hb dX7_keep_14 (by decide) ?_
    refine lv_iload_n hx hb dX7_keep_16 rfl (lv_at hl 1 rfl) ?_
    refine lv_iconst (v := (nI 1)) hx hb dX7_keep_17 (by decide) ?_
    refine lv_iadd hx hb dX7_keep_18 ?_
    refine lv_imul hx hb dX7_keep_19 ?_
    obtain ⟨q3, h_q3, hf⟩ := z_bd hf
    refine z_mv (va_runV (As := [.int (nI 0), .int ((nI 31) * (x1 + (nI 1)))]) (rest := []) ⟨hx, hb, hml, hown, hts⟩ (zcX7_copies l g A σ τ N (nI 0) ((nI 31) * (x1 + (nI 1))) h_q3) (cwV 2 hts gX7_keep_X7_copies rfl rfl rfl hdX7_copies ⟨by decide, by decide⟩) (z_preV E hh (by decide) (zC_obj (q := 66) rfl) rfl) rfl rfl hl.1 rfl (lv_room (Nat.le_of_ble_eq_true rfl)) dX7_keep_20 ⟨Nat.le_refl _, Nat.le_refl _⟩) hh (fun H locs hh => ?_)
    refine lv_aload_n hx hb dX7_keep_23 rfl (lv_at hl 0 rfl) ?_
    refine z_get (v := .ref (g.2.2 65)) hx hb hts (fun w h => List.mem_cons_of_mem _ (List.mem_append_right _ (h))) hown E hh (by decide) (zC_obj (q := 66) rfl) rfl 31 (by decide) (hts (.fieldLink RX7 31 "TownBandModel" "isKept" "[Z") (List.mem_cons_of_mem _ (List.mem_append_left _ (List.mem_of_getElem? (i := 0) rfl)))) rfl dX7_keep_24 ?_
    refine lv_iload_n hx hb dX7_keep_27 rfl (lv_at hl 1 rfl) ?_
    obtain ⟨h_v4, hf⟩ := z_if hf
    obtain ⟨v5, e_v5, hf⟩ := z_lt hf
    refine z_zaldM hx hb E hh h_v4 e_v5 dX7_keep_28 ?_
    refine lv_if_eq (tgt := 36) hx hb dX7_keep_29 (by decide) (fun c_v6 => ?_) (fun c_v6 => ?_)
    · have hf := z_ip hf c_v6
      refine lv_iconst (v := (nI 0)) hx hb dX7_keep_36 (by decide) ?_
      exact (hX7_keep_37 C E N) x1 (nI 0) q3 _ _ _ hf hh (lv_sub hl [0, 1] rfl)
    · have hf := z_in hf c_v6
      refine lv_iconst (v := (nI 1)) hx hb dX7_keep_32 (by decide) ?_
      refine lv_goto (tgt := 37) hx hb dX7_keep_33 (by decide) ?_
      exact (hX7_keep_37 C E N) x1 (nI 1) q3 _ _ _ hf hh (lv_sub hl [0, 1] rfl)
  · have hf := z_ip hf c_v2
    refine lv_iconst (v := (-1)) hx hb dX7_keep_10 (by decide) ?_
    have hf := Option.some.inj hf
    subst hf
    exact z_iretM hx hb hr hlocks hh dX7_keep_11
/-! ===== X7_back ===== -/
theorem hdX7_back : yX7_back.cls = RX7 ∧ yX7_back.cls ≠ "java/lang/invoke/MethodHandle" ∧ yX7_back.cls ≠ "java/lang/invoke/VarHandle" ∧ (parseMethodDescriptor yX7_back.desc).map (fun d => d.parameters.length) = some 1 := by decide +kernel
def fX7_back (N : Nat) (τ : zS) (x1 : Int32) : Option (Int32 × zS) :=
  (fX7_in N x1.toInt64 0 1).bind fun q1 =>
  if q1 = 0 then
    some ((-1), τ)
  else
    if zin x1 2 then
    zlet (τ.2 65 x1.toNatClampNeg) fun v4 =>
    if v4 = 0 then
      some ((-2), τ)
    else
      (fX7_copies N τ ((nI 31) * (x1 + (nI 1))) (nI 0)).bind fun q6 =>
      if zin (nI 24) (zlen 55) then
      zlet (q6.2 55 (nI 24).toNatClampNeg) fun v8 =>
      some (v8, q6)
      else none
    else none
set_option maxRecDepth 100000 in
set_option maxHeartbeats 4000000 in
theorem zcX7_back (l : Launch) (g : zG) (A : Nat → Prop) (σ τ : zS) (N : Nat) (x1 : Int32)  {res : Int32 × zS} (hf : fX7_back N τ x1 = some res) : Met l yX7_back wsX7_back (zR 1) (zPc g A σ τ [.ref (g.2.2 66), .int x1]) (zPi g A σ res) 0 0 A := by
  refine z_met (cc := cX7_back) (ret := (some .int)) (own := RX7) (by decide) rfl rfl _ (Nat.le_of_ble_eq_true rfl) ?_
  intro p e s m below meth c C E ls hl hh
  have hl : lv_has ls 2 [(0, .ref (g.2.2 66)), (1, .int x1)] := hl
  obtain ⟨hx, hb, hr, hml, hown, hts, hlocks⟩ := id C
  unfold fX7_back at hf
  refine lv_iload_n hx hb dX7_back_0 rfl (lv_at hl 1 rfl) ?_
  refine lv_i2l hx hb dX7_back_1 rfl ?_
  refine lv_lconst (v := 0) hx hb dX7_back_2 (by decide) ?_
  refine lv_lconst (v := 1) hx hb dX7_back_3 (by decide) ?_
  obtain ⟨q1, h_q1, hf⟩ := z_bd hf
  refine z_mi (va_runS (As := [.long x1.toInt64, .long 0, .long 1]) (rest := []) ⟨hx, hb, hml, hown, hts⟩ (zcX7_in l g A σ τ N x1.toInt64 0 1 h_q1) (va_cwS 3 hts gX7_back_X7_in rfl rfl rfl hdX7_in.2 ⟨by decide, by decide⟩) (z_preS E hh) rfl rfl hl.1 rfl (lv_room (Nat.le_of_ble_eq_true rfl)) dX7_back_4 ⟨Nat.le_refl _, Nat.le_refl _⟩) hh (fun H locs hh => ?_)
  refine lv_if_ne (tgt := 12) hx hb dX7_back_7 (by decide) (fun c_v2 => ?_) (fun c_v2 => ?_)
  · have hf := z_in hf c_v2
    refine lv_aload_n hx hb dX7_back_12 rfl (lv_at hl 0 rfl) ?_
    refine z_get (v := .ref (g.2.2 65)) hx hb hts (fun w h => List.mem_cons_of_mem _ (List.mem_append_right _ (h))) hown E hh (by decide) (zC_obj (q := 66) rfl) rfl 31 (by decide) (hts (.fieldLink RX7 31 "TownBandModel" "isKept" "[Z") (List.mem_cons_of_mem _ (List.mem_append_left _ (List.mem_of_getElem? (i := 0) rfl)))) rfl dX7_back_13 ?_
    refine lv_iload_n hx hb dX7_back_16 rfl (lv_at hl 1 rfl) ?_
    obtain ⟨h_v3, hf⟩ := z_if hf
    obtain ⟨v4, e_v4, hf⟩ := z_lt hf
    refine z_zaldM hx hb E hh h_v3 e_v4 dX7_back_17 ?_
    refine lv_if_ne (tgt := 24) hx hb dX7_back_18 (by decide) (fun c_v5 => ?_) (fun c_v5 => ?_)
    · have hf := z_in hf c_v5
      refine lv_aload_n hx hb dX7_back_24 rfl (lv_at hl 0 rfl) ?_
      refine lv_bipush (v := (nI 31)) hx hb dX7_back_25 (by decide) ?_
      refine lv_iload_n hx hb dX7_back_27 rfl (lv_at hl 1 rfl) ?_
      refine lv_iconst (v := (nI 1)) hx hb dX7_back_28 (by decide) ?_
      refine lv_iadd hx hb dX7_back_29 ?_
      refine lv_imul hx hb dX7_back_30 ?_
      refine lv_iconst (v := (nI 0)) hx hb dX7_back_31 (by decide) ?_
      obtain ⟨q6, h_q6, hf⟩ := z_bd hf
      refine z_mv (va_runV (As := [.int ((nI 31) * (x1 + (nI 1))), .int (nI 0)]) (rest := []) ⟨hx, hb, hml, hown, hts⟩ (zcX7_copies l g A σ τ N ((nI 31) * (x1 + (nI 1))) (nI 0) h_q6) (cwV 2 hts gX7_back_X7_copies rfl rfl rfl hdX7_copies ⟨by decide, by decide⟩) (z_preV E hh (by decide) (zC_obj (q := 66) rfl) rfl) rfl rfl hl.1 rfl (lv_room (Nat.le_of_ble_eq_true rfl)) dX7_back_32 ⟨Nat.le_refl _, Nat.le_refl _⟩) hh (fun H locs hh => ?_)
      refine lv_aload_n hx hb dX7_back_35 rfl (lv_at hl 0 rfl) ?_
      refine z_get (v := .ref (g.2.2 55)) hx hb hts (fun w h => List.mem_cons_of_mem _ (List.mem_append_right _ (h))) hown E hh (by decide) (zC_obj (q := 66) rfl) rfl 0 (by decide) (hts (.fieldLink RX7 7 "TownBandModel" "state" "[I") (List.mem_cons_of_mem _ (List.mem_append_left _ (List.mem_of_getElem? (i := 1) rfl)))) rfl dX7_back_36 ?_
      refine lv_bipush (v := (nI 24)) hx hb dX7_back_39 (by decide) ?_
      obtain ⟨h_v7, hf⟩ := z_if hf
      obtain ⟨v8, e_v8, hf⟩ := z_lt hf
      refine z_ialdM hx hb E hh (by decide) (by decide) h_v7 e_v8 dX7_back_41 ?_
      have hf := Option.some.inj hf
      subst hf
      exact z_iretM hx hb hr hlocks hh dX7_back_42
    · have hf := z_ip hf c_v5
      refine lv_bipush (v := (-2)) hx hb dX7_back_21 (by decide) ?_
      have hf := Option.some.inj hf
      subst hf
      exact z_iretM hx hb hr hlocks hh dX7_back_23
  · have hf := z_ip hf c_v2
    refine lv_iconst (v := (-1)) hx hb dX7_back_10 (by decide) ?_
    have hf := Option.some.inj hf
    subst hf
    exact z_iretM hx hb hr hlocks hh dX7_back_11
/-! ===== X7_sheet ===== -/
theorem hdX7_sheet : yX7_sheet.cls = RX7 ∧ yX7_sheet.cls ≠ "java/lang/invoke/MethodHandle" ∧ yX7_sheet.cls ≠ "java/lang/invoke/VarHandle" ∧ (parseMethodDescriptor yX7_sheet.desc).map (fun d => d.parameters.length) = some 3 := by decide +kernel
def PX7_sheet_56 (p : Program) (l : Launch) (e : Env) (s : State) (m : MethodId) (args : Array Value) (below : List Frame) (meth : Method) (c : Code) (g : zG) (A : Nat → Prop) (σ : zS) (res : Int32 × zS) (f : Int32 → Int32 → zS → Option (Int32 × zS)) : Prop := ∀ (x1 : Int32) (x4 : Int32) (τ : zS) (H : Heap) (locs : List Loc) (ls : Array Slot), f x1 x4 τ = some res → zW g A σ τ s H locs → lv_has ls 5 [(0, .ref (g.2.2 66)), (1, .int x1), (4, .int x4)] → W p l e (zR 1) s m args below meth c H locs 0 0 (MQ below (zPi g A σ res) args s 0 0 A) (F0 m 56 ls [])
def fX7_sheet_56 (N : Nat) : Nat → Int32 → Int32 → zS → Option (Int32 × zS)
  | 0, _, _, _ => none
  | n + 1, x1, x4, τ =>
    if (nI 40) ≤ x4 then
      some ((nI 1), τ)
    else
      if zin (((nI 40) * x1) + x4) (zlen 64) then
      zlet (zpa τ 64 (upd (τ.2 64) (((nI 40) * x1) + x4).toNatClampNeg (nI 0))) fun τ3 =>
      (fX7_sheet_56 N n) x1 (x4 + (nI 1)) τ3
      else none
set_option maxRecDepth 100000 in
set_option maxHeartbeats 4000000 in
theorem hX7_sheet_56 {p : Program} {l : Launch} {e : Env} {s : State} {m : MethodId} {args : Array Value} {below : List Frame} {meth : Method} {c : Code} {g : zG} {A : Nat → Prop} {σ : zS} {res : Int32 × zS} (C : zCx p s m args meth c cX7_sheet (some .int) wsX7_sheet RX7 5) (E : zE g A s) (N : Nat) : ∀ n : Nat, PX7_sheet_56 p l e s m args below meth c g A σ res (fX7_sheet_56 N n) := by
  obtain ⟨hx, hb, hr, hml, hown, hts, hlocks⟩ := id C
  intro n
  induction n with
  | zero =>
    intro x1 x4 τ H locs ls hf
    exact absurd hf (by simp [fX7_sheet_56])
  | succ n ih =>
    intro x1 x4 τ H locs ls hf hh hl
    rw [fX7_sheet_56] at hf
    refine lv_iload hx hb dX7_sheet_56 (lv_at hl 2 rfl) ?_
    refine lv_bipush (v := (nI 40)) hx hb dX7_sheet_58 (by decide) ?_
    refine lv_icmp_ge (tgt := 82) hx hb dX7_sheet_60 (by decide) (fun c_v1 => ?_) (fun c_v1 => ?_)
    · have hf := z_ip hf c_v1
      refine lv_iconst (v := (nI 1)) hx hb dX7_sheet_82 (by decide) ?_
      have hf := Option.some.inj hf
      subst hf
      exact z_iretM hx hb hr hlocks hh dX7_sheet_83
    · have hf := z_in hf c_v1
      refine lv_aload_n hx hb dX7_sheet_63 rfl (lv_at hl 0 rfl) ?_
      refine z_get (v := .ref (g.2.2 64)) hx hb hts (fun w h => List.mem_cons_of_mem _ (List.mem_append_right _ (h))) hown E hh (by decide) (zC_obj (q := 66) rfl) rfl 34 (by decide) (hts (.fieldLink RX7 41 "TownBandModel" "cells" "[I") (List.mem_cons_of_mem _ (List.mem_append_left _ (List.mem_of_getElem? (i := 4) rfl)))) rfl dX7_sheet_64 ?_
      refine lv_bipush (v := (nI 40)) hx hb dX7_sheet_67 (by decide) ?_
      refine lv_iload_n hx hb dX7_sheet_69 rfl (lv_at hl 1 rfl) ?_
      refine lv_imul hx hb dX7_sheet_70 ?_
      refine lv_iload hx hb dX7_sheet_71 (lv_at hl 2 rfl) ?_
      refine lv_iadd hx hb dX7_sheet_73 ?_
      refine lv_iconst (v := (nI 0)) hx hb dX7_sheet_74 (by decide) ?_
      obtain ⟨h_v2, hf⟩ := z_if hf
      obtain ⟨τ3, e_τ3, hf⟩ := z_lt hf
      refine z_iastM hx hb E hh (by decide) (by decide) h_v2 e_τ3 dX7_sheet_75 (fun H locs hh => ?_)
      refine lv_iinc (v := (x4 + (nI 1))) (lv' := [(4, .int (x4 + (nI 1))), (0, .ref (g.2.2 66)), (1, .int x1)]) hx hb dX7_sheet_76 hl (k := 2) rfl rfl (by decide) rfl (fun ls hl => ?_)
      refine lv_goto (tgt := 56) hx hb dX7_sheet_79 (by decide) ?_
      exact ih x1 (x4 + (nI 1)) τ3 _ _ _ hf hh (lv_sub hl [1, 2, 0] rfl)
def fX7_sheet (N : Nat) (τ : zS) (x1 : Int32) (x2 : Int32) (x3 : Int32) : Option (Int32 × zS) :=
  (fX7_in N x1.toInt64 0 3).bind fun q1 =>
  if q1 = 0 then
    some ((-1), τ)
  else
    (fX7_in N x2.toInt64 0 2).bind fun q3 =>
    if q3 = 0 then
      some ((-1), τ)
    else
      if x3 ≤ (nI 40) then
        if 0 ≤ x3 then
          if zin x1 (zlen 62) then
          zlet (zpa τ 62 (upd (τ.2 62) x1.toNatClampNeg x2)) fun τ8 =>
          if zin x1 (zlen 63) then
          zlet (zpa τ8 63 (upd (τ8.2 63) x1.toNatClampNeg x3)) fun τ10 =>
          (fX7_sheet_56 N N) x1 (nI 0) τ10
          else none
          else none
        else
          some ((-14), τ)
      else
        some ((-1), τ)
set_option maxRecDepth 100000 in
set_option maxHeartbeats 4000000 in
theorem zcX7_sheet (l : Launch) (g : zG) (A : Nat → Prop) (σ τ : zS) (N : Nat) (x1 : Int32) (x2 : Int32) (x3 : Int32)  {res : Int32 × zS} (hf : fX7_sheet N τ x1 x2 x3 = some res) : Met l yX7_sheet wsX7_sheet (zR 1) (zPc g A σ τ [.ref (g.2.2 66), .int x1, .int x2, .int x3]) (zPi g A σ res) 0 0 A := by
  refine z_met (cc := cX7_sheet) (ret := (some .int)) (own := RX7) (by decide) rfl rfl _ (Nat.le_of_ble_eq_true rfl) ?_
  intro p e s m below meth c C E ls hl hh
  have hl : lv_has ls 5 [(0, .ref (g.2.2 66)), (1, .int x1), (2, .int x2), (3, .int x3)] := hl
  obtain ⟨hx, hb, hr, hml, hown, hts, hlocks⟩ := id C
  unfold fX7_sheet at hf
  refine lv_iload_n hx hb dX7_sheet_0 rfl (lv_at hl 1 rfl) ?_
  refine lv_i2l hx hb dX7_sheet_1 rfl ?_
  refine lv_lconst (v := 0) hx hb dX7_sheet_2 (by decide) ?_
  refine lv_ldc2 (v := 3) hx hb hown (hts (.constantLong RX7 178 (3)) (List.mem_cons_of_mem _ (List.mem_append_left _ (List.mem_of_getElem? (i := 0) rfl)))) dX7_sheet_3 ?_
  obtain ⟨q1, h_q1, hf⟩ := z_bd hf
  refine z_mi (va_runS (As := [.long x1.toInt64, .long 0, .long 3]) (rest := []) ⟨hx, hb, hml, hown, hts⟩ (zcX7_in l g A σ τ N x1.toInt64 0 3 h_q1) (va_cwS 3 hts gX7_sheet_X7_in rfl rfl rfl hdX7_in.2 ⟨by decide, by decide⟩) (z_preS E hh) rfl rfl hl.1 rfl (lv_room (Nat.le_of_ble_eq_true rfl)) dX7_sheet_6 ⟨Nat.le_refl _, Nat.le_refl _⟩) hh (fun H locs hh => ?_)
  refine lv_if_eq (tgt := 30) hx hb dX7_sheet_9 (by decide) (fun c_v2 => ?_) (fun c_v2 => ?_)
  · have hf := z_ip hf c_v2
    refine lv_iconst (v := (-1)) hx hb dX7_sheet_30 (by decide) ?_
    have hf := Option.some.inj hf
    subst hf
    exact z_iretM hx hb hr hlocks hh dX7_sheet_31
  · have hf := z_in hf c_v2
    refine lv_iload_n hx hb dX7_sheet_12 rfl (lv_at hl 2 rfl) ?_
    refine lv_i2l hx hb dX7_sheet_13 rfl ?_
    refine lv_lconst (v := 0) hx hb dX7_sheet_14 (by decide) ?_
    refine lv_ldc2 (v := 2) hx hb hown (hts (.constantLong RX7 234 (2)) (List.mem_cons_of_mem _ (List.mem_append_left _ (List.mem_of_getElem? (i := 1) rfl)))) dX7_sheet_15 ?_
    obtain ⟨q3, h_q3, hf⟩ := z_bd hf
    refine z_mi (va_runS (As := [.long x2.toInt64, .long 0, .long 2]) (rest := []) ⟨hx, hb, hml, hown, hts⟩ (zcX7_in l g A σ τ N x2.toInt64 0 2 h_q3) (va_cwS 3 hts gX7_sheet_X7_in rfl rfl rfl hdX7_in.2 ⟨by decide, by decide⟩) (z_preS E hh) rfl rfl hl.1 rfl (lv_room (Nat.le_of_ble_eq_true rfl)) dX7_sheet_18 ⟨Nat.le_refl _, Nat.le_refl _⟩) hh (fun H locs hh => ?_)
    refine lv_if_eq (tgt := 30) hx hb dX7_sheet_21 (by decide) (fun c_v4 => ?_) (fun c_v4 => ?_)
    · have hf := z_ip hf c_v4
      refine lv_iconst (v := (-1)) hx hb dX7_sheet_30 (by decide) ?_
      have hf := Option.some.inj hf
      subst hf
      exact z_iretM hx hb hr hlocks hh dX7_sheet_31
    · have hf := z_in hf c_v4
      refine lv_iload_n hx hb dX7_sheet_24 rfl (lv_at hl 3 rfl) ?_
      refine lv_bipush (v := (nI 40)) hx hb dX7_sheet_25 (by decide) ?_
      refine lv_icmp_le (tgt := 32) hx hb dX7_sheet_27 (by decide) (fun c_v5 => ?_) (fun c_v5 => ?_)
      · have hf := z_ip hf c_v5
        refine lv_iload_n hx hb dX7_sheet_32 rfl (lv_at hl 3 rfl) ?_
        refine lv_if_ge (tgt := 39) hx hb dX7_sheet_33 (by decide) (fun c_v6 => ?_) (fun c_v6 => ?_)
        · have hf := z_ip hf c_v6
          refine lv_aload_n hx hb dX7_sheet_39 rfl (lv_at hl 0 rfl) ?_
          refine z_get (v := .ref (g.2.2 62)) hx hb hts (fun w h => List.mem_cons_of_mem _ (List.mem_append_right _ (h))) hown E hh (by decide) (zC_obj (q := 66) rfl) rfl 32 (by decide) (hts (.fieldLink RX7 35 "TownBandModel" "lanes" "[I") (List.mem_cons_of_mem _ (List.mem_append_left _ (List.mem_of_getElem? (i := 2) rfl)))) rfl dX7_sheet_40 ?_
          refine lv_iload_n hx hb dX7_sheet_43 rfl (lv_at hl 1 rfl) ?_
          refine lv_iload_n hx hb dX7_sheet_44 rfl (lv_at hl 2 rfl) ?_
          obtain ⟨h_v7, hf⟩ := z_if hf
          obtain ⟨τ8, e_τ8, hf⟩ := z_lt hf
          refine z_iastM hx hb E hh (by decide) (by decide) h_v7 e_τ8 dX7_sheet_45 (fun H locs hh => ?_)
          refine lv_aload_n hx hb dX7_sheet_46 rfl (lv_at hl 0 rfl) ?_
          refine z_get (v := .ref (g.2.2 63)) hx hb hts (fun w h => List.mem_cons_of_mem _ (List.mem_append_right _ (h))) hown E hh (by decide) (zC_obj (q := 66) rfl) rfl 33 (by decide) (hts (.fieldLink RX7 38 "TownBandModel" "lengths" "[I") (List.mem_cons_of_mem _ (List.mem_append_left _ (List.mem_of_getElem? (i := 3) rfl)))) rfl dX7_sheet_47 ?_
          refine lv_iload_n hx hb dX7_sheet_50 rfl (lv_at hl 1 rfl) ?_
          refine lv_iload_n hx hb dX7_sheet_51 rfl (lv_at hl 3 rfl) ?_
          obtain ⟨h_v9, hf⟩ := z_if hf
          obtain ⟨τ10, e_τ10, hf⟩ := z_lt hf
          refine z_iastM hx hb E hh (by decide) (by decide) h_v9 e_τ10 dX7_sheet_52 (fun H locs hh => ?_)
          refine lv_iconst (v := (nI 0)) hx hb dX7_sheet_53 (by decide) ?_
          refine lv_istore (lv' := [(4, .int (nI 0)), (0, .ref (g.2.2 66)), (1, .int x1), (2, .int x2), (3, .int x3)]) hx hb dX7_sheet_54 hl (by decide) rfl (fun ls hl => ?_)
          exact (hX7_sheet_56 C E N N) x1 (nI 0) τ10 _ _ _ hf hh (lv_sub hl [1, 2, 0] rfl)
        · have hf := z_in hf c_v6
          refine lv_bipush (v := (-14)) hx hb dX7_sheet_36 (by decide) ?_
          have hf := Option.some.inj hf
          subst hf
          exact z_iretM hx hb hr hlocks hh dX7_sheet_38
      · have hf := z_in hf c_v5
        refine lv_iconst (v := (-1)) hx hb dX7_sheet_30 (by decide) ?_
        have hf := Option.some.inj hf
        subst hf
        exact z_iretM hx hb hr hlocks hh dX7_sheet_31
/-! ===== X7_lay ===== -/
theorem hdX7_lay : yX7_lay.cls = RX7 ∧ yX7_lay.cls ≠ "java/lang/invoke/MethodHandle" ∧ yX7_lay.cls ≠ "java/lang/invoke/VarHandle" ∧ (parseMethodDescriptor yX7_lay.desc).map (fun d => d.parameters.length) = some 3 := by decide +kernel
def PX7_lay_99 (p : Program) (l : Launch) (e : Env) (s : State) (m : MethodId) (args : Array Value) (below : List Frame) (meth : Method) (c : Code) (g : zG) (A : Nat → Prop) (σ : zS) (res : Int32 × zS) (f : Int32 → Int32 → zS → Option (Int32 × zS)) : Prop := ∀ (s0 : Int32) (s1 : Int32) (τ : zS) (H : Heap) (locs : List Loc) (ls : Array Slot), f s0 s1 τ = some res → zW g A σ τ s H locs → lv_has ls 4 [] → W p l e (zR 1) s m args below meth c H locs 0 0 (MQ below (zPi g A σ res) args s 0 0 A) (F0 m 99 ls [.int s0, .int s1, .ref (g.2.2 64)])
def fX7_lay_99 (N : Nat) (s0 : Int32) (s1 : Int32) (τ : zS) : Option (Int32 × zS) :=
  if zin s1 (zlen 64) then
  zlet (zpa τ 64 (upd (τ.2 64) s1.toNatClampNeg s0)) fun τ2 =>
  some ((nI 1), τ2)
  else none
set_option maxRecDepth 100000 in
set_option maxHeartbeats 4000000 in
theorem hX7_lay_99 {p : Program} {l : Launch} {e : Env} {s : State} {m : MethodId} {args : Array Value} {below : List Frame} {meth : Method} {c : Code} {g : zG} {A : Nat → Prop} {σ : zS} {res : Int32 × zS} (C : zCx p s m args meth c cX7_lay (some .int) wsX7_lay RX7 4) (E : zE g A s) (N : Nat) : PX7_lay_99 p l e s m args below meth c g A σ res (fX7_lay_99 N) := by
  obtain ⟨hx, hb, hr, hml, hown, hts, hlocks⟩ := id C
  intro s0 s1 τ H locs ls hf hh hl
  unfold fX7_lay_99 at hf
  obtain ⟨h_v1, hf⟩ := z_if hf
  obtain ⟨τ2, e_τ2, hf⟩ := z_lt hf
  refine z_iastM hx hb E hh (by decide) (by decide) h_v1 e_τ2 dX7_lay_99 (fun H locs hh => ?_)
  refine lv_iconst (v := (nI 1)) hx hb dX7_lay_100 (by decide) ?_
  have hf := Option.some.inj hf
  subst hf
  exact z_iretM hx hb hr hlocks hh dX7_lay_101
def fX7_lay (N : Nat) (τ : zS) (x1 : Int32) (x2 : Int32) (x3 : Int32) : Option (Int32 × zS) :=
  (fX7_in N x1.toInt64 0 3).bind fun q1 =>
  if q1 = 0 then
    some ((-1), τ)
  else
    if zin x1 (zlen 62) then
    zlet (τ.2 62 x1.toNatClampNeg) fun v4 =>
    if v4 = (-4) then
      some ((-11), τ)
    else
      if zin x1 (zlen 63) then
      zlet (τ.2 63 x1.toNatClampNeg) fun v7 =>
      (fX7_in N x2.toInt64 0 (((v7 - (nI 1))).toInt64)).bind fun q8 =>
      if q8 = 0 then
        some ((-12), τ)
      else
        if zin x1 (zlen 62) then
        zlet (τ.2 62 x1.toNatClampNeg) fun v11 =>
        if v11 = 0 then
          (fX7_lay_99 N) ((x3 <<< ((nI 24) &&& 31)) >>> ((nI 24) &&& 31)) (((nI 40) * x1) + x2) τ
        else
          if zin x1 (zlen 62) then
          zlet (τ.2 62 x1.toNatClampNeg) fun v14 =>
          if v14 = (nI 1) then
            (fX7_lay_99 N) ((x3 <<< ((nI 16) &&& 31)) >>> ((nI 16) &&& 31)) (((nI 40) * x1) + x2) τ
          else
            (fX7_lay_99 N) x3 (((nI 40) * x1) + x2) τ
          else none
        else none
      else none
    else none
set_option maxRecDepth 100000 in
set_option maxHeartbeats 4000000 in
theorem zcX7_lay (l : Launch) (g : zG) (A : Nat → Prop) (σ τ : zS) (N : Nat) (x1 : Int32) (x2 : Int32) (x3 : Int32)  {res : Int32 × zS} (hf : fX7_lay N τ x1 x2 x3 = some res) : Met l yX7_lay wsX7_lay (zR 1) (zPc g A σ τ [.ref (g.2.2 66), .int x1, .int x2, .int x3]) (zPi g A σ res) 0 0 A := by
  refine z_met (cc := cX7_lay) (ret := (some .int)) (own := RX7) (by decide) rfl rfl _ (Nat.le_of_ble_eq_true rfl) ?_
  intro p e s m below meth c C E ls hl hh
  have hl : lv_has ls 4 [(0, .ref (g.2.2 66)), (1, .int x1), (2, .int x2), (3, .int x3)] := hl
  obtain ⟨hx, hb, hr, hml, hown, hts, hlocks⟩ := id C
  unfold fX7_lay at hf
  refine lv_iload_n hx hb dX7_lay_0 rfl (lv_at hl 1 rfl) ?_
  refine lv_i2l hx hb dX7_lay_1 rfl ?_
  refine lv_lconst (v := 0) hx hb dX7_lay_2 (by decide) ?_
  refine lv_ldc2 (v := 3) hx hb hown (hts (.constantLong RX7 178 (3)) (List.mem_cons_of_mem _ (List.mem_append_left _ (List.mem_of_getElem? (i := 0) rfl)))) dX7_lay_3 ?_
  obtain ⟨q1, h_q1, hf⟩ := z_bd hf
  refine z_mi (va_runS (As := [.long x1.toInt64, .long 0, .long 3]) (rest := []) ⟨hx, hb, hml, hown, hts⟩ (zcX7_in l g A σ τ N x1.toInt64 0 3 h_q1) (va_cwS 3 hts gX7_lay_X7_in rfl rfl rfl hdX7_in.2 ⟨by decide, by decide⟩) (z_preS E hh) rfl rfl hl.1 rfl (lv_room (Nat.le_of_ble_eq_true rfl)) dX7_lay_6 ⟨Nat.le_refl _, Nat.le_refl _⟩) hh (fun H locs hh => ?_)
  refine lv_if_ne (tgt := 14) hx hb dX7_lay_9 (by decide) (fun c_v2 => ?_) (fun c_v2 => ?_)
  · have hf := z_in hf c_v2
    refine lv_aload_n hx hb dX7_lay_14 rfl (lv_at hl 0 rfl) ?_
    refine z_get (v := .ref (g.2.2 62)) hx hb hts (fun w h => List.mem_cons_of_mem _ (List.mem_append_right _ (h))) hown E hh (by decide) (zC_obj (q := 66) rfl) rfl 32 (by decide) (hts (.fieldLink RX7 35 "TownBandModel" "lanes" "[I") (List.mem_cons_of_mem _ (List.mem_append_left _ (List.mem_of_getElem? (i := 1) rfl)))) rfl dX7_lay_15 ?_
    refine lv_iload_n hx hb dX7_lay_18 rfl (lv_at hl 1 rfl) ?_
    obtain ⟨h_v3, hf⟩ := z_if hf
    obtain ⟨v4, e_v4, hf⟩ := z_lt hf
    refine z_ialdM hx hb E hh (by decide) (by decide) h_v3 e_v4 dX7_lay_19 ?_
    refine lv_bipush (v := (-4)) hx hb dX7_lay_20 (by decide) ?_
    refine lv_icmp_ne (tgt := 28) hx hb dX7_lay_22 (by decide) (fun c_v5 => ?_) (fun c_v5 => ?_)
    · have hf := z_in hf c_v5
      refine lv_iload_n hx hb dX7_lay_28 rfl (lv_at hl 2 rfl) ?_
      refine lv_i2l hx hb dX7_lay_29 rfl ?_
      refine lv_lconst (v := 0) hx hb dX7_lay_30 (by decide) ?_
      refine lv_aload_n hx hb dX7_lay_31 rfl (lv_at hl 0 rfl) ?_
      refine z_get (v := .ref (g.2.2 63)) hx hb hts (fun w h => List.mem_cons_of_mem _ (List.mem_append_right _ (h))) hown E hh (by decide) (zC_obj (q := 66) rfl) rfl 33 (by decide) (hts (.fieldLink RX7 38 "TownBandModel" "lengths" "[I") (List.mem_cons_of_mem _ (List.mem_append_left _ (List.mem_of_getElem? (i := 2) rfl)))) rfl dX7_lay_32 ?_
      refine lv_iload_n hx hb dX7_lay_35 rfl (lv_at hl 1 rfl) ?_
      obtain ⟨h_v6, hf⟩ := z_if hf
      obtain ⟨v7, e_v7, hf⟩ := z_lt hf
      refine z_ialdM hx hb E hh (by decide) (by decide) h_v6 e_v7 dX7_lay_36 ?_
      refine lv_iconst (v := (nI 1)) hx hb dX7_lay_37 (by decide) ?_
      refine lv_isub hx hb dX7_lay_38 ?_
      refine lv_i2l hx hb dX7_lay_39 rfl ?_
      obtain ⟨q8, h_q8, hf⟩ := z_bd hf
      refine z_mi (va_runS (As := [.long x2.toInt64, .long 0, .long (((v7 - (nI 1))).toInt64)]) (rest := []) ⟨hx, hb, hml, hown, hts⟩ (zcX7_in l g A σ τ N x2.toInt64 0 (((v7 - (nI 1))).toInt64) h_q8) (va_cwS 3 hts gX7_lay_X7_in rfl rfl rfl hdX7_in.2 ⟨by decide, by decide⟩) (z_preS E hh) rfl rfl hl.1 rfl (lv_room (Nat.le_of_ble_eq_true rfl)) dX7_lay_40 ⟨Nat.le_refl _, Nat.le_refl _⟩) hh (fun H locs hh => ?_)
      refine lv_if_ne (tgt := 49) hx hb dX7_lay_43 (by decide) (fun c_v9 => ?_) (fun c_v9 => ?_)
      · have hf := z_in hf c_v9
        refine lv_aload_n hx hb dX7_lay_49 rfl (lv_at hl 0 rfl) ?_
        refine z_get (v := .ref (g.2.2 64)) hx hb hts (fun w h => List.mem_cons_of_mem _ (List.mem_append_right _ (h))) hown E hh (by decide) (zC_obj (q := 66) rfl) rfl 34 (by decide) (hts (.fieldLink RX7 41 "TownBandModel" "cells" "[I") (List.mem_cons_of_mem _ (List.mem_append_left _ (List.mem_of_getElem? (i := 3) rfl)))) rfl dX7_lay_50 ?_
        refine lv_bipush (v := (nI 40)) hx hb dX7_lay_53 (by decide) ?_
        refine lv_iload_n hx hb dX7_lay_55 rfl (lv_at hl 1 rfl) ?_
        refine lv_imul hx hb dX7_lay_56 ?_
        refine lv_iload_n hx hb dX7_lay_57 rfl (lv_at hl 2 rfl) ?_
        refine lv_iadd hx hb dX7_lay_58 ?_
        refine lv_aload_n hx hb dX7_lay_59 rfl (lv_at hl 0 rfl) ?_
        refine z_get (v := .ref (g.2.2 62)) hx hb hts (fun w h => List.mem_cons_of_mem _ (List.mem_append_right _ (h))) hown E hh (by decide) (zC_obj (q := 66) rfl) rfl 32 (by decide) (hts (.fieldLink RX7 35 "TownBandModel" "lanes" "[I") (List.mem_cons_of_mem _ (List.mem_append_left _ (List.mem_of_getElem? (i := 1) rfl)))) rfl dX7_lay_60 ?_
        refine lv_iload_n hx hb dX7_lay_63 rfl (lv_at hl 1 rfl) ?_
        obtain ⟨h_v10, hf⟩ := z_if hf
        obtain ⟨v11, e_v11, hf⟩ := z_lt hf
        refine z_ialdM hx hb E hh (by decide) (by decide) h_v10 e_v11 dX7_lay_64 ?_
        refine lv_if_ne (tgt := 78) hx hb dX7_lay_65 (by decide) (fun c_v12 => ?_) (fun c_v12 => ?_)
        · have hf := z_in hf c_v12
          refine lv_aload_n hx hb dX7_lay_78 rfl (lv_at hl 0 rfl) ?_
          refine z_get (v := .ref (g.2.2 62)) hx hb hts (fun w h => List.mem_cons_of_mem _ (List.mem_append_right _ (h))) hown E hh (by decide) (zC_obj (q := 66) rfl) rfl 32 (by decide) (hts (.fieldLink RX7 35 "TownBandModel" "lanes" "[I") (List.mem_cons_of_mem _ (List.mem_append_left _ (List.mem_of_getElem? (i := 1) rfl)))) rfl dX7_lay_79 ?_
          refine lv_iload_n hx hb dX7_lay_82 rfl (lv_at hl 1 rfl) ?_
          obtain ⟨h_v13, hf⟩ := z_if hf
          obtain ⟨v14, e_v14, hf⟩ := z_lt hf
          refine z_ialdM hx hb E hh (by decide) (by decide) h_v13 e_v14 dX7_lay_83 ?_
          refine lv_iconst (v := (nI 1)) hx hb dX7_lay_84 (by decide) ?_
          refine lv_icmp_ne (tgt := 98) hx hb dX7_lay_85 (by decide) (fun c_v15 => ?_) (fun c_v15 => ?_)
          · have hf := z_in hf c_v15
            refine lv_iload_n hx hb dX7_lay_98 rfl (lv_at hl 3 rfl) ?_
            exact (hX7_lay_99 C E N) x3 (((nI 40) * x1) + x2) τ _ _ _ hf hh (lv_sub hl [] rfl)
          · have hf := z_ip hf c_v15
            refine lv_iload_n hx hb dX7_lay_88 rfl (lv_at hl 3 rfl) ?_
            refine lv_bipush (v := (nI 16)) hx hb dX7_lay_89 (by decide) ?_
            refine lv_ishl hx hb dX7_lay_91 ?_
            refine lv_bipush (v := (nI 16)) hx hb dX7_lay_92 (by decide) ?_
            refine lv_ishr hx hb dX7_lay_94 ?_
            refine lv_goto (tgt := 99) hx hb dX7_lay_95 (by decide) ?_
            exact (hX7_lay_99 C E N) ((x3 <<< ((nI 16) &&& 31)) >>> ((nI 16) &&& 31)) (((nI 40) * x1) + x2) τ _ _ _ hf hh (lv_sub hl [] rfl)
        · have hf := z_ip hf c_v12
          refine lv_iload_n hx hb dX7_lay_68 rfl (lv_at hl 3 rfl) ?_
          refine lv_bipush (v := (nI 24)) hx hb dX7_lay_69 (by decide) ?_
          refine lv_ishl hx hb dX7_lay_71 ?_
          refine lv_bipush (v := (nI 24)) hx hb dX7_lay_72 (by decide) ?_
          refine lv_ishr hx hb dX7_lay_74 ?_
          refine lv_goto (tgt := 99) hx hb dX7_lay_75 (by decide) ?_
          exact (hX7_lay_99 C E N) ((x3 <<< ((nI 24) &&& 31)) >>> ((nI 24) &&& 31)) (((nI 40) * x1) + x2) τ _ _ _ hf hh (lv_sub hl [] rfl)
      · have hf := z_ip hf c_v9
        refine lv_bipush (v := (-12)) hx hb dX7_lay_46 (by decide) ?_
        have hf := Option.some.inj hf
        subst hf
        exact z_iretM hx hb hr hlocks hh dX7_lay_48
    · have hf := z_ip hf c_v5
      refine lv_bipush (v := (-11)) hx hb dX7_lay_25 (by decide) ?_
      have hf := Option.some.inj hf
      subst hf
      exact z_iretM hx hb hr hlocks hh dX7_lay_27
  · have hf := z_ip hf c_v2
    refine lv_iconst (v := (-1)) hx hb dX7_lay_12 (by decide) ?_
    have hf := Option.some.inj hf
    subst hf
    exact z_iretM hx hb hr hlocks hh dX7_lay_13
/-! ===== X7_read ===== -/
theorem hdX7_read : yX7_read.cls = RX7 ∧ yX7_read.cls ≠ "java/lang/invoke/MethodHandle" ∧ yX7_read.cls ≠ "java/lang/invoke/VarHandle" ∧ (parseMethodDescriptor yX7_read.desc).map (fun d => d.parameters.length) = some 4 := by decide +kernel
def PX7_read_173 (p : Program) (l : Launch) (e : Env) (s : State) (m : MethodId) (args : Array Value) (below : List Frame) (meth : Method) (c : Code) (g : zG) (A : Nat → Prop) (σ : zS) (res : Int32 × zS) (f : Int32 → Int32 → zS → Option (Int32 × zS)) : Prop := ∀ (x5 : Int32) (x6 : Int32) (τ : zS) (H : Heap) (locs : List Loc) (ls : Array Slot), f x5 x6 τ = some res → zW g A σ τ s H locs → lv_has ls 8 [(0, .ref (g.2.2 66)), (5, .int x5), (6, .int x6)] → W p l e (zR 4) s m args below meth c H locs 0 0 (MQ below (zPi g A σ res) args s 0 0 A) (F0 m 173 ls [])
def PX7_read_167 (p : Program) (l : Launch) (e : Env) (s : State) (m : MethodId) (args : Array Value) (below : List Frame) (meth : Method) (c : Code) (g : zG) (A : Nat → Prop) (σ : zS) (res : Int32 × zS) (f : Int32 → Int32 → Int32 → Int32 → Int32 → Int32 → Int32 → zS → Option (Int32 × zS)) : Prop := ∀ (x1 : Int32) (x2 : Int32) (x3 : Int32) (x4 : Int32) (x5 : Int32) (x6 : Int32) (x7 : Int32) (τ : zS) (H : Heap) (locs : List Loc) (ls : Array Slot), f x1 x2 x3 x4 x5 x6 x7 τ = some res → zW g A σ τ s H locs → lv_has ls 8 [(0, .ref (g.2.2 66)), (1, .int x1), (2, .int x2), (3, .int x3), (4, .int x4), (5, .int x5), (6, .int x6), (7, .int x7)] → W p l e (zR 4) s m args below meth c H locs 0 0 (MQ below (zPi g A σ res) args s 0 0 A) (F0 m 167 ls [])
def PX7_read_151 (p : Program) (l : Launch) (e : Env) (s : State) (m : MethodId) (args : Array Value) (below : List Frame) (meth : Method) (c : Code) (g : zG) (A : Nat → Prop) (σ : zS) (res : Int32 × zS) (f : Int32 → zS → Option (Int32 × zS)) : Prop := ∀ (x6 : Int32) (τ : zS) (H : Heap) (locs : List Loc) (ls : Array Slot), f x6 τ = some res → zW g A σ τ s H locs → lv_has ls 8 [(0, .ref (g.2.2 66)), (6, .int x6)] → W p l e (zR 4) s m args below meth c H locs 0 0 (MQ below (zPi g A σ res) args s 0 0 A) (F0 m 151 ls [])
def PX7_read_123 (p : Program) (l : Launch) (e : Env) (s : State) (m : MethodId) (args : Array Value) (below : List Frame) (meth : Method) (c : Code) (g : zG) (A : Nat → Prop) (σ : zS) (res : Int32 × zS) (f : Int32 → Int32 → Int32 → Int32 → Int32 → Int32 → Int32 → zS → Option (Int32 × zS)) : Prop := ∀ (x1 : Int32) (x2 : Int32) (x3 : Int32) (x4 : Int32) (x6 : Int32) (x7 : Int32) (s0 : Int32) (τ : zS) (H : Heap) (locs : List Loc) (ls : Array Slot), f x1 x2 x3 x4 x6 x7 s0 τ = some res → zW g A σ τ s H locs → lv_has ls 8 [(0, .ref (g.2.2 66)), (1, .int x1), (2, .int x2), (3, .int x3), (4, .int x4), (6, .int x6), (7, .int x7)] → W p l e (zR 4) s m args below meth c H locs 0 0 (MQ below (zPi g A σ res) args s 0 0 A) (F0 m 123 ls [.int s0])
def PX7_read_55 (p : Program) (l : Launch) (e : Env) (s : State) (m : MethodId) (args : Array Value) (below : List Frame) (meth : Method) (c : Code) (g : zG) (A : Nat → Prop) (σ : zS) (res : Int32 × zS) (f : Int32 → Int32 → Int32 → Int32 → Int32 → Int32 → Int32 → zS → Option (Int32 × zS)) : Prop := ∀ (x1 : Int32) (x2 : Int32) (x3 : Int32) (x4 : Int32) (x5 : Int32) (x6 : Int32) (x7 : Int32) (τ : zS) (H : Heap) (locs : List Loc) (ls : Array Slot), f x1 x2 x3 x4 x5 x6 x7 τ = some res → zW g A σ τ s H locs → lv_has ls 8 [(0, .ref (g.2.2 66)), (1, .int x1), (2, .int x2), (3, .int x3), (4, .int x4), (5, .int x5), (6, .int x6), (7, .int x7)] → W p l e (zR 4) s m args below meth c H locs 0 0 (MQ below (zPi g A σ res) args s 0 0 A) (F0 m 55 ls [])
def fX7_read_173 (N : Nat) (x5 : Int32) (x6 : Int32) (τ : zS) : Option (Int32 × zS) :=
  zlet (zpf τ 66 35 x5) fun τ1 =>
  some (x6, τ1)
set_option maxRecDepth 100000 in
set_option maxHeartbeats 4000000 in
theorem hX7_read_173 {p : Program} {l : Launch} {e : Env} {s : State} {m : MethodId} {args : Array Value} {below : List Frame} {meth : Method} {c : Code} {g : zG} {A : Nat → Prop} {σ : zS} {res : Int32 × zS} (C : zCx p s m args meth c cX7_read (some .int) wsX7_read RX7 8) (E : zE g A s) (N : Nat) : PX7_read_173 p l e s m args below meth c g A σ res (fX7_read_173 N) := by
  obtain ⟨hx, hb, hr, hml, hown, hts, hlocks⟩ := id C
  intro x5 x6 τ H locs ls hf hh hl
  unfold fX7_read_173 at hf
  refine lv_aload_n hx hb dX7_read_173 rfl (lv_at hl 0 rfl) ?_
  refine lv_iload hx hb dX7_read_174 (lv_at hl 1 rfl) ?_
  obtain ⟨τ1, e_τ1, hf⟩ := z_lt hf
  refine z_putM hx hb hts (fun w h => List.mem_cons_of_mem _ (List.mem_append_right _ (h))) tyX7 tyX7_ok nmX7 hown E hh (by decide) (by decide) (show zD 66 = _ from rfl) rfl 35 (by decide) rfl (hts (.fieldLink RX7 293 "TownBandModel" "torn" "I") (List.mem_cons_of_mem _ (List.mem_append_left _ (List.mem_append_left _ (List.mem_of_getElem? (i := 6) rfl))))) rfl rfl e_τ1 dX7_read_176 (fun H locs hh => ?_)
  refine lv_iload hx hb dX7_read_179 (lv_at hl 2 rfl) ?_
  have hf := Option.some.inj hf
  subst hf
  exact z_iretM hx hb hr hlocks hh dX7_read_181
def fX7_read_167 (N : Nat) (rc : Int32 → Int32 → Int32 → Int32 → Int32 → Int32 → Int32 → zS → Option (Int32 × zS)) (k_151 : Int32 → zS → Option (Int32 × zS)) (k_173 : Int32 → Int32 → zS → Option (Int32 × zS)) (x1 : Int32) (x2 : Int32) (x3 : Int32) (x4 : Int32) (x5 : Int32) (x6 : Int32) (x7 : Int32) (τ : zS) : Option (Int32 × zS) :=
  rc x1 x2 x3 x4 x5 x6 (x7 + (nI 1)) τ
set_option maxRecDepth 100000 in
set_option maxHeartbeats 4000000 in
theorem hX7_read_167 {p : Program} {l : Launch} {e : Env} {s : State} {m : MethodId} {args : Array Value} {below : List Frame} {meth : Method} {c : Code} {g : zG} {A : Nat → Prop} {σ : zS} {res : Int32 × zS} (C : zCx p s m args meth c cX7_read (some .int) wsX7_read RX7 8) (E : zE g A s) (N : Nat) (rc : Int32 → Int32 → Int32 → Int32 → Int32 → Int32 → Int32 → zS → Option (Int32 × zS)) (hrc : PX7_read_55 p l e s m args below meth c g A σ res rc) (k_151 : Int32 → zS → Option (Int32 × zS)) (hk_151 : PX7_read_151 p l e s m args below meth c g A σ res k_151) (k_173 : Int32 → Int32 → zS → Option (Int32 × zS)) (hk_173 : PX7_read_173 p l e s m args below meth c g A σ res k_173) : PX7_read_167 p l e s m args below meth c g A σ res (fX7_read_167 N rc k_151 k_173) := by
  obtain ⟨hx, hb, hr, hml, hown, hts, hlocks⟩ := id C
  intro x1 x2 x3 x4 x5 x6 x7 τ H locs ls hf hh hl
  unfold fX7_read_167 at hf
  refine lv_iinc (v := (x7 + (nI 1))) (lv' := [(7, .int (x7 + (nI 1))), (0, .ref (g.2.2 66)), (1, .int x1), (2, .int x2), (3, .int x3), (4, .int x4), (5, .int x5), (6, .int x6)]) hx hb dX7_read_167 hl (k := 7) rfl rfl (by decide) rfl (fun ls hl => ?_)
  refine lv_goto (tgt := 55) hx hb dX7_read_170 (by decide) ?_
  exact hrc x1 x2 x3 x4 x5 x6 (x7 + (nI 1)) τ _ _ _ hf hh (lv_sub hl [1, 2, 3, 4, 5, 6, 7, 0] rfl)
def fX7_read_151 (N : Nat) (x6 : Int32) (τ : zS) : Option (Int32 × zS) :=
  (fX7_copies N τ (nI 93) (nI 0)).bind fun q1 =>
  some (((-20) - x6), q1)
set_option maxRecDepth 100000 in
set_option maxHeartbeats 4000000 in
theorem hX7_read_151 {p : Program} {l : Launch} {e : Env} {s : State} {m : MethodId} {args : Array Value} {below : List Frame} {meth : Method} {c : Code} {g : zG} {A : Nat → Prop} {σ : zS} {res : Int32 × zS} (C : zCx p s m args meth c cX7_read (some .int) wsX7_read RX7 8) (E : zE g A s) (N : Nat) : PX7_read_151 p l e s m args below meth c g A σ res (fX7_read_151 N) := by
  obtain ⟨hx, hb, hr, hml, hown, hts, hlocks⟩ := id C
  intro x6 τ H locs ls hf hh hl
  unfold fX7_read_151 at hf
  refine lv_aload_n hx hb dX7_read_151 rfl (lv_at hl 0 rfl) ?_
  refine lv_bipush (v := (nI 93)) hx hb dX7_read_152 (by decide) ?_
  refine lv_iconst (v := (nI 0)) hx hb dX7_read_154 (by decide) ?_
  obtain ⟨q1, h_q1, hf⟩ := z_bd hf
  refine z_mv (va_runV (As := [.int (nI 93), .int (nI 0)]) (rest := []) ⟨hx, hb, hml, hown, hts⟩ (zcX7_copies l g A σ τ N (nI 93) (nI 0) h_q1) (cwV 2 hts gX7_read_X7_copies rfl rfl rfl hdX7_copies ⟨by decide, by decide⟩) (z_preV E hh (by decide) (zC_obj (q := 66) rfl) rfl) rfl rfl hl.1 rfl (lv_room (Nat.le_of_ble_eq_true rfl)) dX7_read_155 ⟨Nat.le_refl _, Nat.le_refl _⟩) hh (fun H locs hh => ?_)
  refine lv_bipush (v := (-20)) hx hb dX7_read_158 (by decide) ?_
  refine lv_iload hx hb dX7_read_160 (lv_at hl 1 rfl) ?_
  refine lv_isub hx hb dX7_read_162 ?_
  have hf := Option.some.inj hf
  subst hf
  exact z_iretM hx hb hr hlocks hh dX7_read_163
def fX7_read_123 (N : Nat) (rc : Int32 → Int32 → Int32 → Int32 → Int32 → Int32 → Int32 → zS → Option (Int32 × zS)) (k_151 : Int32 → zS → Option (Int32 × zS)) (k_173 : Int32 → Int32 → zS → Option (Int32 × zS)) (x1 : Int32) (x2 : Int32) (x3 : Int32) (x4 : Int32) (x6 : Int32) (x7 : Int32) (s0 : Int32) (τ : zS) : Option (Int32 × zS) :=
  if s0 = 0 then
    if zin ((((nI 40) * x1) + x3) + x7) (zlen 64) then
    zlet (τ.2 64 ((((nI 40) * x1) + x3) + x7).toNatClampNeg) fun v3 =>
    (fX7_climbs N τ v3).bind fun q4 =>
    if 0 ≤ q4.1 then
      (fX7_read_167 N rc k_151 k_173) x1 x2 x3 x4 s0 (x6 + (nI 1)) x7 q4.2
    else
      k_151 x6 q4.2
    else none
  else
    (fX7_read_167 N rc k_151 k_173) x1 x2 x3 x4 s0 x6 x7 τ
set_option maxRecDepth 100000 in
set_option maxHeartbeats 4000000 in
theorem hX7_read_123 {p : Program} {l : Launch} {e : Env} {s : State} {m : MethodId} {args : Array Value} {below : List Frame} {meth : Method} {c : Code} {g : zG} {A : Nat → Prop} {σ : zS} {res : Int32 × zS} (C : zCx p s m args meth c cX7_read (some .int) wsX7_read RX7 8) (E : zE g A s) (N : Nat) (rc : Int32 → Int32 → Int32 → Int32 → Int32 → Int32 → Int32 → zS → Option (Int32 × zS)) (hrc : PX7_read_55 p l e s m args below meth c g A σ res rc) (k_151 : Int32 → zS → Option (Int32 × zS)) (hk_151 : PX7_read_151 p l e s m args below meth c g A σ res k_151) (k_173 : Int32 → Int32 → zS → Option (Int32 × zS)) (hk_173 : PX7_read_173 p l e s m args below meth c g A σ res k_173) : PX7_read_123 p l e s m args below meth c g A σ res (fX7_read_123 N rc k_151 k_173) := by
  obtain ⟨hx, hb, hr, hml, hown, hts, hlocks⟩ := id C
  intro x1 x2 x3 x4 x6 x7 s0 τ H locs ls hf hh hl
  unfold fX7_read_123 at hf
  refine lv_istore (lv' := [(5, .int s0), (0, .ref (g.2.2 66)), (1, .int x1), (2, .int x2), (3, .int x3), (4, .int x4), (6, .int x6), (7, .int x7)]) hx hb dX7_read_123 hl (by decide) rfl (fun ls hl => ?_)
  refine lv_iload hx hb dX7_read_125 (lv_at hl 0 rfl) ?_
  refine lv_if_ne (tgt := 167) hx hb dX7_read_127 (by decide) (fun c_v1 => ?_) (fun c_v1 => ?_)
  · have hf := z_in hf c_v1
    exact (hX7_read_167 C E N rc hrc k_151 hk_151 k_173 hk_173) x1 x2 x3 x4 s0 x6 x7 τ _ _ _ hf hh (lv_sub hl [1, 2, 3, 4, 5, 0, 6, 7] rfl)
  · have hf := z_ip hf c_v1
    refine lv_aload_n hx hb dX7_read_130 rfl (lv_at hl 1 rfl) ?_
    refine lv_aload_n hx hb dX7_read_131 rfl (lv_at hl 1 rfl) ?_
    refine z_get (v := .ref (g.2.2 64)) hx hb hts (fun w h => List.mem_cons_of_mem _ (List.mem_append_right _ (h))) hown E hh (by decide) (zC_obj (q := 66) rfl) rfl 34 (by decide) (hts (.fieldLink RX7 41 "TownBandModel" "cells" "[I") (List.mem_cons_of_mem _ (List.mem_append_left _ (List.mem_append_left _ (List.mem_of_getElem? (i := 5) rfl))))) rfl dX7_read_132 ?_
    refine lv_bipush (v := (nI 40)) hx hb dX7_read_135 (by decide) ?_
    refine lv_iload_n hx hb dX7_read_137 rfl (lv_at hl 2 rfl) ?_
    refine lv_imul hx hb dX7_read_138 ?_
    refine lv_iload_n hx hb dX7_read_139 rfl (lv_at hl 4 rfl) ?_
    refine lv_iadd hx hb dX7_read_140 ?_
    refine lv_iload hx hb dX7_read_141 (lv_at hl 7 rfl) ?_
    refine lv_iadd hx hb dX7_read_143 ?_
    obtain ⟨h_v2, hf⟩ := z_if hf
    obtain ⟨v3, e_v3, hf⟩ := z_lt hf
    refine z_ialdM hx hb E hh (by decide) (by decide) h_v2 e_v3 dX7_read_144 ?_
    obtain ⟨q4, h_q4, hf⟩ := z_bd hf
    refine z_mi (va_runV (As := [.int v3]) (rest := []) ⟨hx, hb, hml, hown, hts⟩ (zcX7_climbs l g A σ τ N v3 h_q4) (cwV 1 hts gX7_read_X7_climbs rfl rfl rfl hdX7_climbs ⟨by decide, by decide⟩) (z_preV E hh (by decide) (zC_obj (q := 66) rfl) rfl) rfl rfl hl.1 rfl (lv_room (Nat.le_of_ble_eq_true rfl)) dX7_read_145 ⟨Nat.le_refl _, Nat.le_refl _⟩) hh (fun H locs hh => ?_)
    refine lv_if_ge (tgt := 164) hx hb dX7_read_148 (by decide) (fun c_v5 => ?_) (fun c_v5 => ?_)
    · have hf := z_ip hf c_v5
      refine lv_iinc (v := (x6 + (nI 1))) (lv' := [(6, .int (x6 + (nI 1))), (5, .int s0), (0, .ref (g.2.2 66)), (1, .int x1), (2, .int x2), (3, .int x3), (4, .int x4), (7, .int x7)]) hx hb dX7_read_164 hl (k := 6) rfl rfl (by decide) rfl (fun ls hl => ?_)
      exact (hX7_read_167 C E N rc hrc k_151 hk_151 k_173 hk_173) x1 x2 x3 x4 s0 (x6 + (nI 1)) x7 q4.2 _ _ _ hf hh (lv_sub hl [2, 3, 4, 5, 6, 1, 0, 7] rfl)
    · have hf := z_in hf c_v5
      exact hk_151 x6 q4.2 _ _ _ hf hh (lv_sub hl [1, 6] rfl)
def fX7_read_55 (N : Nat) (k_151 : Int32 → zS → Option (Int32 × zS)) (k_173 : Int32 → Int32 → zS → Option (Int32 × zS)) : Nat → Int32 → Int32 → Int32 → Int32 → Int32 → Int32 → Int32 → zS → Option (Int32 × zS)
  | 0, _, _, _, _, _, _, _, _ => none
  | n + 1, x1, x2, x3, x4, x5, x6, x7, τ =>
    if x4 ≤ x7 then
      k_173 x5 x6 τ
    else
      if x5 = 0 then
        if zin x1 (zlen 62) then
        zlet (τ.2 62 x1.toNatClampNeg) fun v4 =>
        if v4 = (-4) then
          (fX7_read_123 N (fX7_read_55 N k_151 k_173 n) k_151 k_173) x1 x2 x3 x4 x6 x7 (nI 1) τ
        else
          if zin x1 (zlen 62) then
          zlet (τ.2 62 x1.toNatClampNeg) fun v7 =>
          if v7 = x2 then
            if zin x1 (zlen 63) then
            zlet (τ.2 63 x1.toNatClampNeg) fun v10 =>
            (fX7_in N (x3.toInt64 + x7.toInt64) 0 (((v10 - (nI 1))).toInt64)).bind fun q11 =>
            if q11 = 0 then
              (fX7_read_123 N (fX7_read_55 N k_151 k_173 n) k_151 k_173) x1 x2 x3 x4 x6 x7 (nI 2) τ
            else
              (fX7_read_123 N (fX7_read_55 N k_151 k_173 n) k_151 k_173) x1 x2 x3 x4 x6 x7 (nI 0) τ
            else none
          else
            (fX7_read_123 N (fX7_read_55 N k_151 k_173 n) k_151 k_173) x1 x2 x3 x4 x6 x7 (nI 3) τ
          else none
        else none
      else
        k_173 x5 x6 τ
set_option maxRecDepth 100000 in
set_option maxHeartbeats 4000000 in
theorem hX7_read_55 {p : Program} {l : Launch} {e : Env} {s : State} {m : MethodId} {args : Array Value} {below : List Frame} {meth : Method} {c : Code} {g : zG} {A : Nat → Prop} {σ : zS} {res : Int32 × zS} (C : zCx p s m args meth c cX7_read (some .int) wsX7_read RX7 8) (E : zE g A s) (N : Nat) (k_151 : Int32 → zS → Option (Int32 × zS)) (hk_151 : PX7_read_151 p l e s m args below meth c g A σ res k_151) (k_173 : Int32 → Int32 → zS → Option (Int32 × zS)) (hk_173 : PX7_read_173 p l e s m args below meth c g A σ res k_173) : ∀ n : Nat, PX7_read_55 p l e s m args below meth c g A σ res (fX7_read_55 N k_151 k_173 n) := by
  obtain ⟨hx, hb, hr, hml, hown, hts, hlocks⟩ := id C
  intro n
  induction n with
  | zero =>
    intro x1 x2 x3 x4 x5 x6 x7 τ H locs ls hf
    exact absurd hf (by simp [fX7_read_55])
  | succ n ih =>
    intro x1 x2 x3 x4 x5 x6 x7 τ H locs ls hf hh hl
    rw [fX7_read_55] at hf
    refine lv_iload hx hb dX7_read_55 (lv_at hl 7 rfl) ?_
    refine lv_iload hx hb dX7_read_57 (lv_at hl 4 rfl) ?_
    refine lv_icmp_ge (tgt := 173) hx hb dX7_read_59 (by decide) (fun c_v1 => ?_) (fun c_v1 => ?_)
    · have hf := z_ip hf c_v1
      exact hk_173 x5 x6 τ _ _ _ hf hh (lv_sub hl [0, 5, 6] rfl)
    · have hf := z_in hf c_v1
      refine lv_iload hx hb dX7_read_62 (lv_at hl 5 rfl) ?_
      refine lv_if_ne (tgt := 173) hx hb dX7_read_64 (by decide) (fun c_v2 => ?_) (fun c_v2 => ?_)
      · have hf := z_in hf c_v2
        exact hk_173 x5 x6 τ _ _ _ hf hh (lv_sub hl [0, 5, 6] rfl)
      · have hf := z_ip hf c_v2
        refine lv_aload_n hx hb dX7_read_67 rfl (lv_at hl 0 rfl) ?_
        refine z_get (v := .ref (g.2.2 62)) hx hb hts (fun w h => List.mem_cons_of_mem _ (List.mem_append_right _ (h))) hown E hh (by decide) (zC_obj (q := 66) rfl) rfl 32 (by decide) (hts (.fieldLink RX7 35 "TownBandModel" "lanes" "[I") (List.mem_cons_of_mem _ (List.mem_append_left _ (List.mem_append_left _ (List.mem_of_getElem? (i := 3) rfl))))) rfl dX7_read_68 ?_
        refine lv_iload_n hx hb dX7_read_71 rfl (lv_at hl 1 rfl) ?_
        obtain ⟨h_v3, hf⟩ := z_if hf
        obtain ⟨v4, e_v4, hf⟩ := z_lt hf
        refine z_ialdM hx hb E hh (by decide) (by decide) h_v3 e_v4 dX7_read_72 ?_
        refine lv_bipush (v := (-4)) hx hb dX7_read_73 (by decide) ?_
        refine lv_icmp_ne (tgt := 82) hx hb dX7_read_75 (by decide) (fun c_v5 => ?_) (fun c_v5 => ?_)
        · have hf := z_in hf c_v5
          refine lv_aload_n hx hb dX7_read_82 rfl (lv_at hl 0 rfl) ?_
          refine z_get (v := .ref (g.2.2 62)) hx hb hts (fun w h => List.mem_cons_of_mem _ (List.mem_append_right _ (h))) hown E hh (by decide) (zC_obj (q := 66) rfl) rfl 32 (by decide) (hts (.fieldLink RX7 35 "TownBandModel" "lanes" "[I") (List.mem_cons_of_mem _ (List.mem_append_left _ (List.mem_append_left _ (List.mem_of_getElem? (i := 3) rfl))))) rfl dX7_read_83 ?_
          refine lv_iload_n hx hb dX7_read_86 rfl (lv_at hl 1 rfl) ?_
          obtain ⟨h_v6, hf⟩ := z_if hf
          obtain ⟨v7, e_v7, hf⟩ := z_lt hf
          refine z_ialdM hx hb E hh (by decide) (by decide) h_v6 e_v7 dX7_read_87 ?_
          refine lv_iload_n hx hb dX7_read_88 rfl (lv_at hl 2 rfl) ?_
          refine lv_icmp_eq (tgt := 96) hx hb dX7_read_89 (by decide) (fun c_v8 => ?_) (fun c_v8 => ?_)
          · have hf := z_ip hf c_v8
            refine lv_iload_n hx hb dX7_read_96 rfl (lv_at hl 3 rfl) ?_
            refine lv_i2l hx hb dX7_read_97 rfl ?_
            refine lv_iload hx hb dX7_read_98 (lv_at hl 7 rfl) ?_
            refine lv_i2l hx hb dX7_read_100 rfl ?_
            refine lv_ladd hx hb dX7_read_101 ?_
            refine lv_lconst (v := 0) hx hb dX7_read_102 (by decide) ?_
            refine lv_aload_n hx hb dX7_read_103 rfl (lv_at hl 0 rfl) ?_
            refine z_get (v := .ref (g.2.2 63)) hx hb hts (fun w h => List.mem_cons_of_mem _ (List.mem_append_right _ (h))) hown E hh (by decide) (zC_obj (q := 66) rfl) rfl 33 (by decide) (hts (.fieldLink RX7 38 "TownBandModel" "lengths" "[I") (List.mem_cons_of_mem _ (List.mem_append_left _ (List.mem_append_left _ (List.mem_of_getElem? (i := 4) rfl))))) rfl dX7_read_104 ?_
            refine lv_iload_n hx hb dX7_read_107 rfl (lv_at hl 1 rfl) ?_
            obtain ⟨h_v9, hf⟩ := z_if hf
            obtain ⟨v10, e_v10, hf⟩ := z_lt hf
            refine z_ialdM hx hb E hh (by decide) (by decide) h_v9 e_v10 dX7_read_108 ?_
            refine lv_iconst (v := (nI 1)) hx hb dX7_read_109 (by decide) ?_
            refine lv_isub hx hb dX7_read_110 ?_
            refine lv_i2l hx hb dX7_read_111 rfl ?_
            obtain ⟨q11, h_q11, hf⟩ := z_bd hf
            refine z_mi (va_runS (As := [.long (x3.toInt64 + x7.toInt64), .long 0, .long (((v10 - (nI 1))).toInt64)]) (rest := []) ⟨hx, hb, hml, hown, hts⟩ (zcX7_in l g A σ τ N (x3.toInt64 + x7.toInt64) 0 (((v10 - (nI 1))).toInt64) h_q11) (va_cwS 3 hts gX7_read_X7_in rfl rfl rfl hdX7_in.2 ⟨by decide, by decide⟩) (z_preS E hh) rfl rfl hl.1 rfl (lv_room (Nat.le_of_ble_eq_true rfl)) dX7_read_112 ⟨Nat.le_refl _, Nat.le_refl _⟩) hh (fun H locs hh => ?_)
            refine lv_if_ne (tgt := 122) hx hb dX7_read_115 (by decide) (fun c_v12 => ?_) (fun c_v12 => ?_)
            · have hf := z_in hf c_v12
              refine lv_iconst (v := (nI 0)) hx hb dX7_read_122 (by decide) ?_
              exact (hX7_read_123 C E N (fX7_read_55 N k_151 k_173 n) ih k_151 hk_151 k_173 hk_173) x1 x2 x3 x4 x6 x7 (nI 0) τ _ _ _ hf hh (lv_sub hl [0, 1, 2, 3, 4, 6, 7] rfl)
            · have hf := z_ip hf c_v12
              refine lv_iconst (v := (nI 2)) hx hb dX7_read_118 (by decide) ?_
              refine lv_goto (tgt := 123) hx hb dX7_read_119 (by decide) ?_
              exact (hX7_read_123 C E N (fX7_read_55 N k_151 k_173 n) ih k_151 hk_151 k_173 hk_173) x1 x2 x3 x4 x6 x7 (nI 2) τ _ _ _ hf hh (lv_sub hl [0, 1, 2, 3, 4, 6, 7] rfl)
          · have hf := z_in hf c_v8
            refine lv_iconst (v := (nI 3)) hx hb dX7_read_92 (by decide) ?_
            refine lv_goto (tgt := 123) hx hb dX7_read_93 (by decide) ?_
            exact (hX7_read_123 C E N (fX7_read_55 N k_151 k_173 n) ih k_151 hk_151 k_173 hk_173) x1 x2 x3 x4 x6 x7 (nI 3) τ _ _ _ hf hh (lv_sub hl [0, 1, 2, 3, 4, 6, 7] rfl)
        · have hf := z_ip hf c_v5
          refine lv_iconst (v := (nI 1)) hx hb dX7_read_78 (by decide) ?_
          refine lv_goto (tgt := 123) hx hb dX7_read_79 (by decide) ?_
          exact (hX7_read_123 C E N (fX7_read_55 N k_151 k_173 n) ih k_151 hk_151 k_173 hk_173) x1 x2 x3 x4 x6 x7 (nI 1) τ _ _ _ hf hh (lv_sub hl [0, 1, 2, 3, 4, 6, 7] rfl)
def fX7_read (N : Nat) (τ : zS) (x1 : Int32) (x2 : Int32) (x3 : Int32) (x4 : Int32) : Option (Int32 × zS) :=
  (fX7_in N x1.toInt64 0 3).bind fun q1 =>
  if q1 = 0 then
    some ((-1), τ)
  else
    (fX7_in N x2.toInt64 0 2).bind fun q3 =>
    if q3 = 0 then
      some ((-1), τ)
    else
      (fX7_in N x4.toInt64 0 20).bind fun q5 =>
      if q5 = 0 then
        some ((-1), τ)
      else
        (fX7_copies N τ (nI 0) (nI 93)).bind fun q7 =>
        (fX7_read_55 N (fX7_read_151 N) (fX7_read_173 N) N) x1 x2 x3 x4 (nI 0) (nI 0) (nI 0) q7
set_option maxRecDepth 100000 in
set_option maxHeartbeats 4000000 in
theorem zcX7_read (l : Launch) (g : zG) (A : Nat → Prop) (σ τ : zS) (N : Nat) (x1 : Int32) (x2 : Int32) (x3 : Int32) (x4 : Int32)  {res : Int32 × zS} (hf : fX7_read N τ x1 x2 x3 x4 = some res) : Met l yX7_read wsX7_read (zR 4) (zPc g A σ τ [.ref (g.2.2 66), .int x1, .int x2, .int x3, .int x4]) (zPi g A σ res) 0 0 A := by
  refine z_met (cc := cX7_read) (ret := (some .int)) (own := RX7) (by decide) rfl rfl _ (Nat.le_of_ble_eq_true rfl) ?_
  intro p e s m below meth c C E ls hl hh
  have hl : lv_has ls 8 [(0, .ref (g.2.2 66)), (1, .int x1), (2, .int x2), (3, .int x3), (4, .int x4)] := hl
  obtain ⟨hx, hb, hr, hml, hown, hts, hlocks⟩ := id C
  unfold fX7_read at hf
  refine lv_iload_n hx hb dX7_read_0 rfl (lv_at hl 1 rfl) ?_
  refine lv_i2l hx hb dX7_read_1 rfl ?_
  refine lv_lconst (v := 0) hx hb dX7_read_2 (by decide) ?_
  refine lv_ldc2 (v := 3) hx hb hown (hts (.constantLong RX7 178 (3)) (List.mem_cons_of_mem _ (List.mem_append_left _ (List.mem_append_left _ (List.mem_of_getElem? (i := 0) rfl))))) dX7_read_3 ?_
  obtain ⟨q1, h_q1, hf⟩ := z_bd hf
  refine z_mi (va_runS (As := [.long x1.toInt64, .long 0, .long 3]) (rest := []) ⟨hx, hb, hml, hown, hts⟩ (zcX7_in l g A σ τ N x1.toInt64 0 3 h_q1) (va_cwS 3 hts gX7_read_X7_in rfl rfl rfl hdX7_in.2 ⟨by decide, by decide⟩) (z_preS E hh) rfl rfl hl.1 rfl (lv_room (Nat.le_of_ble_eq_true rfl)) dX7_read_6 ⟨Nat.le_refl _, Nat.le_refl _⟩) hh (fun H locs hh => ?_)
  refine lv_if_eq (tgt := 37) hx hb dX7_read_9 (by decide) (fun c_v2 => ?_) (fun c_v2 => ?_)
  · have hf := z_ip hf c_v2
    refine lv_iconst (v := (-1)) hx hb dX7_read_37 (by decide) ?_
    have hf := Option.some.inj hf
    subst hf
    exact z_iretM hx hb hr hlocks hh dX7_read_38
  · have hf := z_in hf c_v2
    refine lv_iload_n hx hb dX7_read_12 rfl (lv_at hl 2 rfl) ?_
    refine lv_i2l hx hb dX7_read_13 rfl ?_
    refine lv_lconst (v := 0) hx hb dX7_read_14 (by decide) ?_
    refine lv_ldc2 (v := 2) hx hb hown (hts (.constantLong RX7 234 (2)) (List.mem_cons_of_mem _ (List.mem_append_left _ (List.mem_append_left _ (List.mem_of_getElem? (i := 1) rfl))))) dX7_read_15 ?_
    obtain ⟨q3, h_q3, hf⟩ := z_bd hf
    refine z_mi (va_runS (As := [.long x2.toInt64, .long 0, .long 2]) (rest := []) ⟨hx, hb, hml, hown, hts⟩ (zcX7_in l g A σ τ N x2.toInt64 0 2 h_q3) (va_cwS 3 hts gX7_read_X7_in rfl rfl rfl hdX7_in.2 ⟨by decide, by decide⟩) (z_preS E hh) rfl rfl hl.1 rfl (lv_room (Nat.le_of_ble_eq_true rfl)) dX7_read_18 ⟨Nat.le_refl _, Nat.le_refl _⟩) hh (fun H locs hh => ?_)
    refine lv_if_eq (tgt := 37) hx hb dX7_read_21 (by decide) (fun c_v4 => ?_) (fun c_v4 => ?_)
    · have hf := z_ip hf c_v4
      refine lv_iconst (v := (-1)) hx hb dX7_read_37 (by decide) ?_
      have hf := Option.some.inj hf
      subst hf
      exact z_iretM hx hb hr hlocks hh dX7_read_38
    · have hf := z_in hf c_v4
      refine lv_iload hx hb dX7_read_24 (lv_at hl 4 rfl) ?_
      refine lv_i2l hx hb dX7_read_26 rfl ?_
      refine lv_lconst (v := 0) hx hb dX7_read_27 (by decide) ?_
      refine lv_ldc2 (v := 20) hx hb hown (hts (.constantLong RX7 276 (20)) (List.mem_cons_of_mem _ (List.mem_append_left _ (List.mem_append_left _ (List.mem_of_getElem? (i := 2) rfl))))) dX7_read_28 ?_
      obtain ⟨q5, h_q5, hf⟩ := z_bd hf
      refine z_mi (va_runS (As := [.long x4.toInt64, .long 0, .long 20]) (rest := []) ⟨hx, hb, hml, hown, hts⟩ (zcX7_in l g A σ τ N x4.toInt64 0 20 h_q5) (va_cwS 3 hts gX7_read_X7_in rfl rfl rfl hdX7_in.2 ⟨by decide, by decide⟩) (z_preS E hh) rfl rfl hl.1 rfl (lv_room (Nat.le_of_ble_eq_true rfl)) dX7_read_31 ⟨Nat.le_refl _, Nat.le_refl _⟩) hh (fun H locs hh => ?_)
      refine lv_if_ne (tgt := 39) hx hb dX7_read_34 (by decide) (fun c_v6 => ?_) (fun c_v6 => ?_)
      · have hf := z_in hf c_v6
        refine lv_aload_n hx hb dX7_read_39 rfl (lv_at hl 0 rfl) ?_
        refine lv_iconst (v := (nI 0)) hx hb dX7_read_40 (by decide) ?_
        refine lv_bipush (v := (nI 93)) hx hb dX7_read_41 (by decide) ?_
        obtain ⟨q7, h_q7, hf⟩ := z_bd hf
        refine z_mv (va_runV (As := [.int (nI 0), .int (nI 93)]) (rest := []) ⟨hx, hb, hml, hown, hts⟩ (zcX7_copies l g A σ τ N (nI 0) (nI 93) h_q7) (cwV 2 hts gX7_read_X7_copies rfl rfl rfl hdX7_copies ⟨by decide, by decide⟩) (z_preV E hh (by decide) (zC_obj (q := 66) rfl) rfl) rfl rfl hl.1 rfl (lv_room (Nat.le_of_ble_eq_true rfl)) dX7_read_43 ⟨Nat.le_refl _, Nat.le_refl _⟩) hh (fun H locs hh => ?_)
        refine lv_iconst (v := (nI 0)) hx hb dX7_read_46 (by decide) ?_
        refine lv_istore (lv' := [(5, .int (nI 0)), (0, .ref (g.2.2 66)), (1, .int x1), (2, .int x2), (3, .int x3), (4, .int x4)]) hx hb dX7_read_47 hl (by decide) rfl (fun ls hl => ?_)
        refine lv_iconst (v := (nI 0)) hx hb dX7_read_49 (by decide) ?_
        refine lv_istore (lv' := [(6, .int (nI 0)), (5, .int (nI 0)), (0, .ref (g.2.2 66)), (1, .int x1), (2, .int x2), (3, .int x3), (4, .int x4)]) hx hb dX7_read_50 hl (by decide) rfl (fun ls hl => ?_)
        refine lv_iconst (v := (nI 0)) hx hb dX7_read_52 (by decide) ?_
        refine lv_istore (lv' := [(7, .int (nI 0)), (6, .int (nI 0)), (5, .int (nI 0)), (0, .ref (g.2.2 66)), (1, .int x1), (2, .int x2), (3, .int x3), (4, .int x4)]) hx hb dX7_read_53 hl (by decide) rfl (fun ls hl => ?_)
        exact (hX7_read_55 C E N (fX7_read_151 N) (hX7_read_151 C E N) (fX7_read_173 N) (hX7_read_173 C E N) N) x1 x2 x3 x4 (nI 0) (nI 0) (nI 0) q7 _ _ _ hf hh (lv_sub hl [3, 4, 5, 6, 7, 2, 1, 0] rfl)
      · have hf := z_ip hf c_v6
        refine lv_iconst (v := (-1)) hx hb dX7_read_37 (by decide) ?_
        have hf := Option.some.inj hf
        subst hf
        exact z_iretM hx hb hr hlocks hh dX7_read_38
/-! ===== X7_torn ===== -/
theorem hdX7_torn : yX7_torn.cls = RX7 ∧ yX7_torn.cls ≠ "java/lang/invoke/MethodHandle" ∧ yX7_torn.cls ≠ "java/lang/invoke/VarHandle" ∧ (parseMethodDescriptor yX7_torn.desc).map (fun d => d.parameters.length) = some 0 := by decide +kernel
def fX7_torn (N : Nat) (τ : zS)  : Option (Int32) :=
  some (τ.1 66 35)
set_option maxRecDepth 100000 in
set_option maxHeartbeats 4000000 in
theorem zcX7_torn (l : Launch) (g : zG) (A : Nat → Prop) (σ τ : zS) (N : Nat)   {res : Int32} (hf : fX7_torn N τ = some res) : Met l yX7_torn wsX7_torn (zR 0) (zPc g A σ τ [.ref (g.2.2 66)]) (zPi g A σ (res, τ)) 0 0 A := by
  refine z_met (cc := cX7_torn) (ret := (some .int)) (own := RX7) (by decide) rfl rfl _ (Nat.le_of_ble_eq_true rfl) ?_
  intro p e s m below meth c C E ls hl hh
  have hl : lv_has ls 1 [(0, .ref (g.2.2 66))] := hl
  obtain ⟨hx, hb, hr, hml, hown, hts, hlocks⟩ := id C
  unfold fX7_torn at hf
  refine lv_aload_n hx hb dX7_torn_0 rfl (lv_at hl 0 rfl) ?_
  refine z_get (v := .int (τ.1 66 35)) hx hb hts (fun w h => List.mem_cons_of_mem _ (List.mem_append_right _ (h))) hown E hh (by decide) (zC_obj (q := 66) rfl) rfl 35 (by decide) (hts (.fieldLink RX7 293 "TownBandModel" "torn" "I") (List.mem_cons_of_mem _ (List.mem_append_left _ (List.mem_of_getElem? (i := 0) rfl)))) rfl dX7_torn_1 ?_
  have hf := Option.some.inj hf
  subst hf
  exact z_iretM hx hb hr hlocks hh dX7_torn_4
/-! ===== X7_count ===== -/
theorem hdX7_count : yX7_count.cls = RX7 ∧ yX7_count.cls ≠ "java/lang/invoke/MethodHandle" ∧ yX7_count.cls ≠ "java/lang/invoke/VarHandle" ∧ (parseMethodDescriptor yX7_count.desc).map (fun d => d.parameters.length) = some 1 := by decide +kernel
def PX7_count_123 (p : Program) (l : Launch) (e : Env) (s : State) (m : MethodId) (args : Array Value) (below : List Frame) (meth : Method) (c : Code) (g : zG) (A : Nat → Prop) (σ τ : zS) (res : Int32) (f : Int32 → Option (Int32)) : Prop := ∀ (s0 : Int32) (H : Heap) (locs : List Loc) (ls : Array Slot), f s0 = some res → zW g A σ τ s H locs → lv_has ls 5 [(0, .ref (g.2.2 66))] → W p l e (zR 0) s m args below meth c H locs 0 0 (MQ below (zPi g A σ (res, τ)) args s 0 0 A) (F0 m 123 ls [.int s0])
def PX7_count_65 (p : Program) (l : Launch) (e : Env) (s : State) (m : MethodId) (args : Array Value) (below : List Frame) (meth : Method) (c : Code) (g : zG) (A : Nat → Prop) (σ τ : zS) (res : Int32) (f : Int32 → Int32 → Int32 → Option (Int32)) : Prop := ∀ (x1 : Int32) (x2 : Int32) (x3 : Int32) (H : Heap) (locs : List Loc) (ls : Array Slot), f x1 x2 x3 = some res → zW g A σ τ s H locs → lv_has ls 5 [(0, .ref (g.2.2 66)), (1, .int x1), (2, .int x2), (3, .int x3)] → W p l e (zR 0) s m args below meth c H locs 0 0 (MQ below (zPi g A σ (res, τ)) args s 0 0 A) (F0 m 65 ls [])
def PX7_count_37 (p : Program) (l : Launch) (e : Env) (s : State) (m : MethodId) (args : Array Value) (below : List Frame) (meth : Method) (c : Code) (g : zG) (A : Nat → Prop) (σ τ : zS) (res : Int32) (f : Int32 → Int32 → Int32 → Int32 → Option (Int32)) : Prop := ∀ (x1 : Int32) (x2 : Int32) (x3 : Int32) (x4 : Int32) (H : Heap) (locs : List Loc) (ls : Array Slot), f x1 x2 x3 x4 = some res → zW g A σ τ s H locs → lv_has ls 5 [(0, .ref (g.2.2 66)), (1, .int x1), (2, .int x2), (3, .int x3), (4, .int x4)] → W p l e (zR 0) s m args below meth c H locs 0 0 (MQ below (zPi g A σ (res, τ)) args s 0 0 A) (F0 m 37 ls [])
def PX7_count_34 (p : Program) (l : Launch) (e : Env) (s : State) (m : MethodId) (args : Array Value) (below : List Frame) (meth : Method) (c : Code) (g : zG) (A : Nat → Prop) (σ τ : zS) (res : Int32) (f : Int32 → Int32 → Int32 → Option (Int32)) : Prop := ∀ (x1 : Int32) (x2 : Int32) (x3 : Int32) (H : Heap) (locs : List Loc) (ls : Array Slot), f x1 x2 x3 = some res → zW g A σ τ s H locs → lv_has ls 5 [(0, .ref (g.2.2 66)), (1, .int x1), (2, .int x2), (3, .int x3)] → W p l e (zR 0) s m args below meth c H locs 0 0 (MQ below (zPi g A σ (res, τ)) args s 0 0 A) (F0 m 34 ls [])
def PX7_count_7 (p : Program) (l : Launch) (e : Env) (s : State) (m : MethodId) (args : Array Value) (below : List Frame) (meth : Method) (c : Code) (g : zG) (A : Nat → Prop) (σ τ : zS) (res : Int32) (f : Int32 → Int32 → Int32 → Int32 → Option (Int32)) : Prop := ∀ (x1 : Int32) (x2 : Int32) (x3 : Int32) (x4 : Int32) (H : Heap) (locs : List Loc) (ls : Array Slot), f x1 x2 x3 x4 = some res → zW g A σ τ s H locs → lv_has ls 5 [(0, .ref (g.2.2 66)), (1, .int x1), (2, .int x2), (3, .int x3), (4, .int x4)] → W p l e (zR 0) s m args below meth c H locs 0 0 (MQ below (zPi g A σ (res, τ)) args s 0 0 A) (F0 m 7 ls [])
def fX7_count_123 (N : Nat) (τ : zS) (s0 : Int32) : Option (Int32) :=
  if zin (nI 1) 2 then
  zlet (τ.2 65 (nI 1).toNatClampNeg) fun v2 =>
  if v2 = 0 then
    some (s0 + (nI 0))
  else
    some (s0 + (nI 1))
  else none
set_option maxRecDepth 100000 in
set_option maxHeartbeats 4000000 in
theorem hX7_count_123 {p : Program} {l : Launch} {e : Env} {s : State} {m : MethodId} {args : Array Value} {below : List Frame} {meth : Method} {c : Code} {g : zG} {A : Nat → Prop} {σ τ : zS} {res : Int32} (C : zCx p s m args meth c cX7_count (some .int) wsX7_count RX7 5) (E : zE g A s) (N : Nat) : PX7_count_123 p l e s m args below meth c g A σ τ res (fX7_count_123 N τ) := by
  obtain ⟨hx, hb, hr, hml, hown, hts, hlocks⟩ := id C
  intro s0 H locs ls hf hh hl
  unfold fX7_count_123 at hf
  refine lv_aload_n hx hb dX7_count_123 rfl (lv_at hl 0 rfl) ?_
  refine z_get (v := .ref (g.2.2 65)) hx hb hts (fun w h => List.mem_cons_of_mem _ (List.mem_append_right _ (h))) hown E hh (by decide) (zC_obj (q := 66) rfl) rfl 31 (by decide) (hts (.fieldLink RX7 31 "TownBandModel" "isKept" "[Z") (List.mem_cons_of_mem _ (List.mem_append_left _ (List.mem_of_getElem? (i := 4) rfl)))) rfl dX7_count_124 ?_
  refine lv_iconst (v := (nI 1)) hx hb dX7_count_127 (by decide) ?_
  obtain ⟨h_v1, hf⟩ := z_if hf
  obtain ⟨v2, e_v2, hf⟩ := z_lt hf
  refine z_zaldM hx hb E hh h_v1 e_v2 dX7_count_128 ?_
  refine lv_if_eq (tgt := 136) hx hb dX7_count_129 (by decide) (fun c_v3 => ?_) (fun c_v3 => ?_)
  · have hf := z_ip hf c_v3
    refine lv_iconst (v := (nI 0)) hx hb dX7_count_136 (by decide) ?_
    refine lv_iadd hx hb dX7_count_137 ?_
    have hf := Option.some.inj hf
    subst hf
    exact z_iretM hx hb hr hlocks hh dX7_count_138
  · have hf := z_in hf c_v3
    refine lv_iconst (v := (nI 1)) hx hb dX7_count_132 (by decide) ?_
    refine lv_goto (tgt := 137) hx hb dX7_count_133 (by decide) ?_
    refine lv_iadd hx hb dX7_count_137 ?_
    have hf := Option.some.inj hf
    subst hf
    exact z_iretM hx hb hr hlocks hh dX7_count_138
def fX7_count_65 (N : Nat) (τ : zS) (x1 : Int32) (x2 : Int32) (x3 : Int32) : Option (Int32) :=
  if x1 = (nI 0) then
    some (τ.1 66 28)
  else
    if x1 = (nI 1) then
      if zin (nI 0) 2 then
      zlet (τ.2 65 (nI 0).toNatClampNeg) fun v4 =>
      if v4 = 0 then
        (fX7_count_123 N τ) (nI 0)
      else
        (fX7_count_123 N τ) (nI 1)
      else none
    else
      if x1 = (nI 2) then
        some (τ.1 66 11)
      else
        if x1 = (nI 3) then
          if zin (nI 0) (zlen 62) then
          zlet (τ.2 62 (nI 0).toNatClampNeg) fun v9 =>
          if v9 = (-4) then
            some (-4)
          else
            if zin (nI 0) (zlen 63) then
            zlet (τ.2 63 (nI 0).toNatClampNeg) fun v12 =>
            some v12
            else none
          else none
        else
          if x1 = (nI 4) then
            some x2
          else
            if x1 = (nI 5) then
              some x3
            else
              some (-1)
set_option maxRecDepth 100000 in
set_option maxHeartbeats 4000000 in
theorem hX7_count_65 {p : Program} {l : Launch} {e : Env} {s : State} {m : MethodId} {args : Array Value} {below : List Frame} {meth : Method} {c : Code} {g : zG} {A : Nat → Prop} {σ τ : zS} {res : Int32} (C : zCx p s m args meth c cX7_count (some .int) wsX7_count RX7 5) (E : zE g A s) (N : Nat) : PX7_count_65 p l e s m args below meth c g A σ τ res (fX7_count_65 N τ) := by
  obtain ⟨hx, hb, hr, hml, hown, hts, hlocks⟩ := id C
  intro x1 x2 x3 H locs ls hf hh hl
  unfold fX7_count_65 at hf
  refine lv_iload_n hx hb dX7_count_65 rfl (lv_at hl 1 rfl) ?_
  by_cases c_v1 : x1 = (nI 0)
  · have hf := z_ip hf c_v1
    refine z_tbl (tgt := 104) (off := 38) hx hb dX7_count_66 (nI 0) c_v1 (by decide) (by decide) (by decide) (by decide) ?_
    refine lv_aload_n hx hb dX7_count_104 rfl (lv_at hl 0 rfl) ?_
    refine z_get (v := .int (τ.1 66 28)) hx hb hts (fun w h => List.mem_cons_of_mem _ (List.mem_append_right _ (h))) hown E hh (by decide) (zC_obj (q := 66) rfl) rfl 28 (by decide) (hts (.fieldLink RX7 147 "TownBandModel" "seenMany" "I") (List.mem_cons_of_mem _ (List.mem_append_left _ (List.mem_of_getElem? (i := 3) rfl)))) rfl dX7_count_105 ?_
    have hf := Option.some.inj hf
    subst hf
    exact z_iretM hx hb hr hlocks hh dX7_count_108
  · have hf := z_in hf c_v1
    by_cases c_v2 : x1 = (nI 1)
    · have hf := z_ip hf c_v2
      refine z_tbl (tgt := 109) (off := 43) hx hb dX7_count_66 (nI 1) c_v2 (by decide) (by decide) (by decide) (by decide) ?_
      refine lv_aload_n hx hb dX7_count_109 rfl (lv_at hl 0 rfl) ?_
      refine z_get (v := .ref (g.2.2 65)) hx hb hts (fun w h => List.mem_cons_of_mem _ (List.mem_append_right _ (h))) hown E hh (by decide) (zC_obj (q := 66) rfl) rfl 31 (by decide) (hts (.fieldLink RX7 31 "TownBandModel" "isKept" "[Z") (List.mem_cons_of_mem _ (List.mem_append_left _ (List.mem_of_getElem? (i := 4) rfl)))) rfl dX7_count_110 ?_
      refine lv_iconst (v := (nI 0)) hx hb dX7_count_113 (by decide) ?_
      obtain ⟨h_v3, hf⟩ := z_if hf
      obtain ⟨v4, e_v4, hf⟩ := z_lt hf
      refine z_zaldM hx hb E hh h_v3 e_v4 dX7_count_114 ?_
      refine lv_if_eq (tgt := 122) hx hb dX7_count_115 (by decide) (fun c_v5 => ?_) (fun c_v5 => ?_)
      · have hf := z_ip hf c_v5
        refine lv_iconst (v := (nI 0)) hx hb dX7_count_122 (by decide) ?_
        exact (hX7_count_123 C E N) (nI 0) _ _ _ hf hh (lv_sub hl [0] rfl)
      · have hf := z_in hf c_v5
        refine lv_iconst (v := (nI 1)) hx hb dX7_count_118 (by decide) ?_
        refine lv_goto (tgt := 123) hx hb dX7_count_119 (by decide) ?_
        exact (hX7_count_123 C E N) (nI 1) _ _ _ hf hh (lv_sub hl [0] rfl)
    · have hf := z_in hf c_v2
      by_cases c_v6 : x1 = (nI 2)
      · have hf := z_ip hf c_v6
        refine z_tbl (tgt := 139) (off := 73) hx hb dX7_count_66 (nI 2) c_v6 (by decide) (by decide) (by decide) (by decide) ?_
        refine lv_aload_n hx hb dX7_count_139 rfl (lv_at hl 0 rfl) ?_
        refine z_get (v := .int (τ.1 66 11)) hx hb hts (fun w h => List.mem_cons_of_mem _ (List.mem_append_right _ (h))) hown E hh (by decide) (zC_obj (q := 66) rfl) rfl 11 (by decide) (hts (.fieldLink RX7 50 "TownBandModel" "taped" "I") (List.mem_cons_of_mem _ (List.mem_append_left _ (List.mem_of_getElem? (i := 5) rfl)))) rfl dX7_count_140 ?_
        have hf := Option.some.inj hf
        subst hf
        exact z_iretM hx hb hr hlocks hh dX7_count_143
      · have hf := z_in hf c_v6
        by_cases c_v7 : x1 = (nI 3)
        · have hf := z_ip hf c_v7
          refine z_tbl (tgt := 144) (off := 78) hx hb dX7_count_66 (nI 3) c_v7 (by decide) (by decide) (by decide) (by decide) ?_
          refine lv_aload_n hx hb dX7_count_144 rfl (lv_at hl 0 rfl) ?_
          refine z_get (v := .ref (g.2.2 62)) hx hb hts (fun w h => List.mem_cons_of_mem _ (List.mem_append_right _ (h))) hown E hh (by decide) (zC_obj (q := 66) rfl) rfl 32 (by decide) (hts (.fieldLink RX7 35 "TownBandModel" "lanes" "[I") (List.mem_cons_of_mem _ (List.mem_append_left _ (List.mem_of_getElem? (i := 6) rfl)))) rfl dX7_count_145 ?_
          refine lv_iconst (v := (nI 0)) hx hb dX7_count_148 (by decide) ?_
          obtain ⟨h_v8, hf⟩ := z_if hf
          obtain ⟨v9, e_v9, hf⟩ := z_lt hf
          refine z_ialdM hx hb E hh (by decide) (by decide) h_v8 e_v9 dX7_count_149 ?_
          refine lv_bipush (v := (-4)) hx hb dX7_count_150 (by decide) ?_
          refine lv_icmp_ne (tgt := 160) hx hb dX7_count_152 (by decide) (fun c_v10 => ?_) (fun c_v10 => ?_)
          · have hf := z_in hf c_v10
            refine lv_aload_n hx hb dX7_count_160 rfl (lv_at hl 0 rfl) ?_
            refine z_get (v := .ref (g.2.2 63)) hx hb hts (fun w h => List.mem_cons_of_mem _ (List.mem_append_right _ (h))) hown E hh (by decide) (zC_obj (q := 66) rfl) rfl 33 (by decide) (hts (.fieldLink RX7 38 "TownBandModel" "lengths" "[I") (List.mem_cons_of_mem _ (List.mem_append_left _ (List.mem_of_getElem? (i := 7) rfl)))) rfl dX7_count_161 ?_
            refine lv_iconst (v := (nI 0)) hx hb dX7_count_164 (by decide) ?_
            obtain ⟨h_v11, hf⟩ := z_if hf
            obtain ⟨v12, e_v12, hf⟩ := z_lt hf
            refine z_ialdM hx hb E hh (by decide) (by decide) h_v11 e_v12 dX7_count_165 ?_
            have hf := Option.some.inj hf
            subst hf
            exact z_iretM hx hb hr hlocks hh dX7_count_166
          · have hf := z_ip hf c_v10
            refine lv_bipush (v := (-4)) hx hb dX7_count_155 (by decide) ?_
            refine lv_goto (tgt := 166) hx hb dX7_count_157 (by decide) ?_
            have hf := Option.some.inj hf
            subst hf
            exact z_iretM hx hb hr hlocks hh dX7_count_166
        · have hf := z_in hf c_v7
          by_cases c_v13 : x1 = (nI 4)
          · have hf := z_ip hf c_v13
            refine z_tbl (tgt := 167) (off := 101) hx hb dX7_count_66 (nI 4) c_v13 (by decide) (by decide) (by decide) (by decide) ?_
            refine lv_iload_n hx hb dX7_count_167 rfl (lv_at hl 2 rfl) ?_
            have hf := Option.some.inj hf
            subst hf
            exact z_iretM hx hb hr hlocks hh dX7_count_168
          · have hf := z_in hf c_v13
            by_cases c_v14 : x1 = (nI 5)
            · have hf := z_ip hf c_v14
              refine z_tbl (tgt := 169) (off := 103) hx hb dX7_count_66 (nI 5) c_v14 (by decide) (by decide) (by decide) (by decide) ?_
              refine lv_iload_n hx hb dX7_count_169 rfl (lv_at hl 3 rfl) ?_
              have hf := Option.some.inj hf
              subst hf
              exact z_iretM hx hb hr hlocks hh dX7_count_170
            · have hf := z_in hf c_v14
              refine lv_tableOut (tgt := 171) hx hb dX7_count_66 (by have n_c_v1 := lv_neT (a := 0) c_v1 (by decide); have n_c_v2 := lv_neT (a := 1) c_v2 (by decide); have n_c_v6 := lv_neT (a := 2) c_v6 (by decide); have n_c_v7 := lv_neT (a := 3) c_v7 (by decide); have n_c_v13 := lv_neT (a := 4) c_v13 (by decide); have n_c_v14 := lv_neT (a := 5) c_v14 (by decide); omega) (by decide) ?_
              refine lv_iconst (v := (-1)) hx hb dX7_count_171 (by decide) ?_
              have hf := Option.some.inj hf
              subst hf
              exact z_iretM hx hb hr hlocks hh dX7_count_172
def fX7_count_37 (N : Nat) (τ : zS) (k_65 : Int32 → Int32 → Int32 → Option (Int32)) : Nat → Int32 → Int32 → Int32 → Int32 → Option (Int32)
  | 0, _, _, _, _ => none
  | n + 1, x1, x2, x3, x4 =>
    if (τ.1 66 2) ≤ x4 then
      k_65 x1 x2 x3
    else
      if zin ((nI 15) + x4) (zlen 55) then
      zlet (τ.2 55 ((nI 15) + x4).toNatClampNeg) fun v3 =>
      (fX7_count_37 N τ k_65 n) x1 x2 (x3 + v3) (x4 + (nI 1))
      else none
set_option maxRecDepth 100000 in
set_option maxHeartbeats 4000000 in
theorem hX7_count_37 {p : Program} {l : Launch} {e : Env} {s : State} {m : MethodId} {args : Array Value} {below : List Frame} {meth : Method} {c : Code} {g : zG} {A : Nat → Prop} {σ τ : zS} {res : Int32} (C : zCx p s m args meth c cX7_count (some .int) wsX7_count RX7 5) (E : zE g A s) (N : Nat) (k_65 : Int32 → Int32 → Int32 → Option (Int32)) (hk_65 : PX7_count_65 p l e s m args below meth c g A σ τ res k_65) : ∀ n : Nat, PX7_count_37 p l e s m args below meth c g A σ τ res (fX7_count_37 N τ k_65 n) := by
  obtain ⟨hx, hb, hr, hml, hown, hts, hlocks⟩ := id C
  intro n
  induction n with
  | zero =>
    intro x1 x2 x3 x4 H locs ls hf
    exact absurd hf (by simp [fX7_count_37])
  | succ n ih =>
    intro x1 x2 x3 x4 H locs ls hf hh hl
    rw [fX7_count_37] at hf
    refine lv_iload hx hb dX7_count_37 (lv_at hl 4 rfl) ?_
    refine lv_aload_n hx hb dX7_count_39 rfl (lv_at hl 0 rfl) ?_
    refine z_get (v := .int (τ.1 66 2)) hx hb hts (fun w h => List.mem_cons_of_mem _ (List.mem_append_right _ (h))) hown E hh (by decide) (zC_obj (q := 66) rfl) rfl 2 (by decide) (hts (.fieldLink RX7 144 "TownBandModel" "robberMany" "I") (List.mem_cons_of_mem _ (List.mem_append_left _ (List.mem_of_getElem? (i := 2) rfl)))) rfl dX7_count_40 ?_
    refine lv_icmp_ge (tgt := 65) hx hb dX7_count_43 (by decide) (fun c_v1 => ?_) (fun c_v1 => ?_)
    · have hf := z_ip hf c_v1
      exact hk_65 x1 x2 x3 _ _ _ hf hh (lv_sub hl [0, 1, 2, 3] rfl)
    · have hf := z_in hf c_v1
      refine lv_iload_n hx hb dX7_count_46 rfl (lv_at hl 3 rfl) ?_
      refine lv_aload_n hx hb dX7_count_47 rfl (lv_at hl 0 rfl) ?_
      refine z_get (v := .ref (g.2.2 55)) hx hb hts (fun w h => List.mem_cons_of_mem _ (List.mem_append_right _ (h))) hown E hh (by decide) (zC_obj (q := 66) rfl) rfl 0 (by decide) (hts (.fieldLink RX7 7 "TownBandModel" "state" "[I") (List.mem_cons_of_mem _ (List.mem_append_left _ (List.mem_of_getElem? (i := 1) rfl)))) rfl dX7_count_48 ?_
      refine lv_bipush (v := (nI 15)) hx hb dX7_count_51 (by decide) ?_
      refine lv_iload hx hb dX7_count_53 (lv_at hl 4 rfl) ?_
      refine lv_iadd hx hb dX7_count_55 ?_
      obtain ⟨h_v2, hf⟩ := z_if hf
      obtain ⟨v3, e_v3, hf⟩ := z_lt hf
      refine z_ialdM hx hb E hh (by decide) (by decide) h_v2 e_v3 dX7_count_56 ?_
      refine lv_iadd hx hb dX7_count_57 ?_
      refine lv_istore_n (lv' := [(3, .int (x3 + v3)), (0, .ref (g.2.2 66)), (1, .int x1), (2, .int x2), (4, .int x4)]) hx hb dX7_count_58 rfl hl (by decide) rfl (fun ls hl => ?_)
      refine lv_iinc (v := (x4 + (nI 1))) (lv' := [(4, .int (x4 + (nI 1))), (3, .int (x3 + v3)), (0, .ref (g.2.2 66)), (1, .int x1), (2, .int x2)]) hx hb dX7_count_59 hl (k := 4) rfl rfl (by decide) rfl (fun ls hl => ?_)
      refine lv_goto (tgt := 37) hx hb dX7_count_62 (by decide) ?_
      exact ih x1 x2 (x3 + v3) (x4 + (nI 1)) _ _ _ hf hh (lv_sub hl [2, 3, 4, 1, 0] rfl)
def fX7_count_34 (N : Nat) (τ : zS) (x1 : Int32) (x2 : Int32) (x3 : Int32) : Option (Int32) :=
  (fX7_count_37 N τ (fX7_count_65 N τ) N) x1 x2 x3 (nI 0)
set_option maxRecDepth 100000 in
set_option maxHeartbeats 4000000 in
theorem hX7_count_34 {p : Program} {l : Launch} {e : Env} {s : State} {m : MethodId} {args : Array Value} {below : List Frame} {meth : Method} {c : Code} {g : zG} {A : Nat → Prop} {σ τ : zS} {res : Int32} (C : zCx p s m args meth c cX7_count (some .int) wsX7_count RX7 5) (E : zE g A s) (N : Nat) : PX7_count_34 p l e s m args below meth c g A σ τ res (fX7_count_34 N τ) := by
  obtain ⟨hx, hb, hr, hml, hown, hts, hlocks⟩ := id C
  intro x1 x2 x3 H locs ls hf hh hl
  unfold fX7_count_34 at hf
  refine lv_iconst (v := (nI 0)) hx hb dX7_count_34 (by decide) ?_
  refine lv_istore (lv' := [(4, .int (nI 0)), (0, .ref (g.2.2 66)), (1, .int x1), (2, .int x2), (3, .int x3)]) hx hb dX7_count_35 hl (by decide) rfl (fun ls hl => ?_)
  exact (hX7_count_37 C E N (fX7_count_65 N τ) (hX7_count_65 C E N) N) x1 x2 x3 (nI 0) _ _ _ hf hh (lv_sub hl [1, 2, 3, 4, 0] rfl)
def fX7_count_7 (N : Nat) (τ : zS) (k_34 : Int32 → Int32 → Int32 → Option (Int32)) : Nat → Int32 → Int32 → Int32 → Int32 → Option (Int32)
  | 0, _, _, _, _ => none
  | n + 1, x1, x2, x3, x4 =>
    if (τ.1 66 1) ≤ x4 then
      k_34 x1 x2 x3
    else
      if zin ((nI 5) + x4) (zlen 55) then
      zlet (τ.2 55 ((nI 5) + x4).toNatClampNeg) fun v3 =>
      (fX7_count_7 N τ k_34 n) x1 (x2 + v3) x3 (x4 + (nI 1))
      else none
set_option maxRecDepth 100000 in
set_option maxHeartbeats 4000000 in
theorem hX7_count_7 {p : Program} {l : Launch} {e : Env} {s : State} {m : MethodId} {args : Array Value} {below : List Frame} {meth : Method} {c : Code} {g : zG} {A : Nat → Prop} {σ τ : zS} {res : Int32} (C : zCx p s m args meth c cX7_count (some .int) wsX7_count RX7 5) (E : zE g A s) (N : Nat) (k_34 : Int32 → Int32 → Int32 → Option (Int32)) (hk_34 : PX7_count_34 p l e s m args below meth c g A σ τ res k_34) : ∀ n : Nat, PX7_count_7 p l e s m args below meth c g A σ τ res (fX7_count_7 N τ k_34 n) := by
  obtain ⟨hx, hb, hr, hml, hown, hts, hlocks⟩ := id C
  intro n
  induction n with
  | zero =>
    intro x1 x2 x3 x4 H locs ls hf
    exact absurd hf (by simp [fX7_count_7])
  | succ n ih =>
    intro x1 x2 x3 x4 H locs ls hf hh hl
    rw [fX7_count_7] at hf
    refine lv_iload hx hb dX7_count_7 (lv_at hl 4 rfl) ?_
    refine lv_aload_n hx hb dX7_count_9 rfl (lv_at hl 0 rfl) ?_
    refine z_get (v := .int (τ.1 66 1)) hx hb hts (fun w h => List.mem_cons_of_mem _ (List.mem_append_right _ (h))) hown E hh (by decide) (zC_obj (q := 66) rfl) rfl 1 (by decide) (hts (.fieldLink RX7 141 "TownBandModel" "beastMany" "I") (List.mem_cons_of_mem _ (List.mem_append_left _ (List.mem_of_getElem? (i := 0) rfl)))) rfl dX7_count_10 ?_
    refine lv_icmp_ge (tgt := 34) hx hb dX7_count_13 (by decide) (fun c_v1 => ?_) (fun c_v1 => ?_)
    · have hf := z_ip hf c_v1
      exact hk_34 x1 x2 x3 _ _ _ hf hh (lv_sub hl [0, 1, 2, 3] rfl)
    · have hf := z_in hf c_v1
      refine lv_iload_n hx hb dX7_count_16 rfl (lv_at hl 2 rfl) ?_
      refine lv_aload_n hx hb dX7_count_17 rfl (lv_at hl 0 rfl) ?_
      refine z_get (v := .ref (g.2.2 55)) hx hb hts (fun w h => List.mem_cons_of_mem _ (List.mem_append_right _ (h))) hown E hh (by decide) (zC_obj (q := 66) rfl) rfl 0 (by decide) (hts (.fieldLink RX7 7 "TownBandModel" "state" "[I") (List.mem_cons_of_mem _ (List.mem_append_left _ (List.mem_of_getElem? (i := 1) rfl)))) rfl dX7_count_18 ?_
      refine lv_iconst (v := (nI 5)) hx hb dX7_count_21 (by decide) ?_
      refine lv_iload hx hb dX7_count_22 (lv_at hl 4 rfl) ?_
      refine lv_iadd hx hb dX7_count_24 ?_
      obtain ⟨h_v2, hf⟩ := z_if hf
      obtain ⟨v3, e_v3, hf⟩ := z_lt hf
      refine z_ialdM hx hb E hh (by decide) (by decide) h_v2 e_v3 dX7_count_25 ?_
      refine lv_iadd hx hb dX7_count_26 ?_
      refine lv_istore_n (lv' := [(2, .int (x2 + v3)), (0, .ref (g.2.2 66)), (1, .int x1), (3, .int x3), (4, .int x4)]) hx hb dX7_count_27 rfl hl (by decide) rfl (fun ls hl => ?_)
      refine lv_iinc (v := (x4 + (nI 1))) (lv' := [(4, .int (x4 + (nI 1))), (2, .int (x2 + v3)), (0, .ref (g.2.2 66)), (1, .int x1), (3, .int x3)]) hx hb dX7_count_28 hl (k := 4) rfl rfl (by decide) rfl (fun ls hl => ?_)
      refine lv_goto (tgt := 7) hx hb dX7_count_31 (by decide) ?_
      exact ih x1 (x2 + v3) x3 (x4 + (nI 1)) _ _ _ hf hh (lv_sub hl [2, 3, 1, 4, 0] rfl)
def fX7_count (N : Nat) (τ : zS) (x1 : Int32) : Option (Int32) :=
  (fX7_count_7 N τ (fX7_count_34 N τ) N) x1 (nI 0) (nI 0) (nI 0)
set_option maxRecDepth 100000 in
set_option maxHeartbeats 4000000 in
theorem zcX7_count (l : Launch) (g : zG) (A : Nat → Prop) (σ τ : zS) (N : Nat) (x1 : Int32)  {res : Int32} (hf : fX7_count N τ x1 = some res) : Met l yX7_count wsX7_count (zR 0) (zPc g A σ τ [.ref (g.2.2 66), .int x1]) (zPi g A σ (res, τ)) 0 0 A := by
  refine z_met (cc := cX7_count) (ret := (some .int)) (own := RX7) (by decide) rfl rfl _ (Nat.le_of_ble_eq_true rfl) ?_
  intro p e s m below meth c C E ls hl hh
  have hl : lv_has ls 5 [(0, .ref (g.2.2 66)), (1, .int x1)] := hl
  obtain ⟨hx, hb, hr, hml, hown, hts, hlocks⟩ := id C
  unfold fX7_count at hf
  refine lv_iconst (v := (nI 0)) hx hb dX7_count_0 (by decide) ?_
  refine lv_istore_n (lv' := [(2, .int (nI 0)), (0, .ref (g.2.2 66)), (1, .int x1)]) hx hb dX7_count_1 rfl hl (by decide) rfl (fun ls hl => ?_)
  refine lv_iconst (v := (nI 0)) hx hb dX7_count_2 (by decide) ?_
  refine lv_istore_n (lv' := [(3, .int (nI 0)), (2, .int (nI 0)), (0, .ref (g.2.2 66)), (1, .int x1)]) hx hb dX7_count_3 rfl hl (by decide) rfl (fun ls hl => ?_)
  refine lv_iconst (v := (nI 0)) hx hb dX7_count_4 (by decide) ?_
  refine lv_istore (lv' := [(4, .int (nI 0)), (3, .int (nI 0)), (2, .int (nI 0)), (0, .ref (g.2.2 66)), (1, .int x1)]) hx hb dX7_count_5 hl (by decide) rfl (fun ls hl => ?_)
  exact (hX7_count_7 C E N (fX7_count_34 N τ) (hX7_count_34 C E N) N) x1 (nI 0) (nI 0) (nI 0) _ _ _ hf hh (lv_sub hl [3, 4, 2, 1, 0] rfl)

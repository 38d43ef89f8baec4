/-! ===== X6_feed ===== -/
theorem hdX6_feed : yX6_feed.cls = RX6 ∧ yX6_feed.cls ≠ "java/lang/invoke/MethodHandle" ∧ yX6_feed.cls ≠ "java/lang/invoke/VarHandle" ∧ (parseMethodDescriptor yX6_feed.desc).map (fun d => d.parameters.length) = some 1 := by decide +kernel
def fX6_feed (N : Nat) (σ : zS) (x1 : Int32) : Option (Int32 × zS) :=
  (fX6_within N x1 (nI 0) (nI 127)).bind fun q1 =>
  if q1 = 0 then
    some ((-1), σ)
  else
    if (σ.1 50 2) < (nI 160) then
      if zin (σ.1 50 2) (zlen 24) then
      zlet (zpa σ 24 (upd (σ.2 24) (σ.1 50 2).toNatClampNeg x1)) fun σ5 =>
      zlet (zpf σ5 50 2 ((σ5.1 50 2) + (nI 1))) fun σ6 =>
      some ((σ6.1 50 2), σ6)
      else none
    else
      some ((-3), σ)
set_option maxRecDepth 100000 in
set_option maxHeartbeats 4000000 in
theorem zcX6_feed (l : Launch) (g : zG) (A : Nat → Prop) (σ τ : zS) (N : Nat) (x1 : Int32)  {res : Int32 × zS} (hf : fX6_feed N σ x1 = some res) : Met l yX6_feed wsX6_feed (zR 1) (zPc g A σ τ [.ref (g.2.2 54), .int x1]) (zQi g A τ res) 0 0 A := by
  refine z_met (cc := cX6_feed) (ret := (some .int)) (own := RX6) (by decide) rfl rfl _ (Nat.le_of_ble_eq_true rfl) ?_
  intro p e s m below meth c C E ls hl hh
  have hl : lv_has ls 2 [(0, .ref (g.2.2 54)), (1, .int x1)] := hl
  obtain ⟨hx, hb, hr, hml, hown, hts, hlocks⟩ := id C
  unfold fX6_feed at hf
  refine lv_iload_n hx hb dX6_feed_0 rfl (lv_at hl 1 rfl) ?_
  refine lv_iconst (v := (nI 0)) hx hb dX6_feed_1 (by decide) ?_
  refine lv_bipush (v := (nI 127)) hx hb dX6_feed_2 (by decide) ?_
  obtain ⟨q1, h_q1, hf⟩ := z_bd hf
  refine z_xi (va_runS (As := [.int x1, .int (nI 0), .int (nI 127)]) (rest := []) ⟨hx, hb, hml, hown, hts⟩ (zcX6_within l g A σ τ N x1 (nI 0) (nI 127) h_q1) (va_cwS 3 hts gX6_feed_X6_within rfl rfl rfl hdX6_within.2 ⟨by decide, by decide⟩) (z_preS E hh) rfl rfl hl.1 rfl (lv_room (Nat.le_of_ble_eq_true rfl)) dX6_feed_4 ⟨Nat.le_refl _, Nat.le_refl _⟩) hh (fun H locs hh => ?_)
  refine lv_if_ne (tgt := 12) hx hb dX6_feed_7 (by decide) (fun c_v2 => ?_) (fun c_v2 => ?_)
  · have hf := z_in hf c_v2
    refine lv_aload_n hx hb dX6_feed_12 rfl (lv_at hl 0 rfl) ?_
    refine z_get (v := .ref (g.2.2 50)) hx hb hts (fun w h => List.mem_cons_of_mem _ (List.mem_append_left _ (List.mem_append_right _ (h)))) hown E hh (by decide) (zC_obj (q := 54) rfl) rfl 1 (by decide) (hts (.fieldLink RX6 19 "TownBand" "tape" "LTownBand$Tape;") (List.mem_cons_of_mem _ (List.mem_append_left _ (List.mem_append_left _ (List.mem_of_getElem? (i := 0) rfl))))) rfl dX6_feed_13 ?_
    refine z_getN (v := .int (σ.1 50 2)) hx hb hts (fun w h => List.mem_cons_of_mem _ (List.mem_append_right _ (h))) hown E hh (by decide) (zC_obj (q := 50) rfl) rfl 2 (by decide) (zE_f E 27 rfl) rfl dX6_feed_16 ?_
    refine lv_sipush (v := (nI 160)) hx hb dX6_feed_19 (by decide) ?_
    refine lv_icmp_lt (tgt := 28) hx hb dX6_feed_22 (by decide) (fun c_v3 => ?_) (fun c_v3 => ?_)
    · have hf := z_ip hf c_v3
      refine lv_aload_n hx hb dX6_feed_28 rfl (lv_at hl 0 rfl) ?_
      refine z_get (v := .ref (g.2.2 50)) hx hb hts (fun w h => List.mem_cons_of_mem _ (List.mem_append_left _ (List.mem_append_right _ (h)))) hown E hh (by decide) (zC_obj (q := 54) rfl) rfl 1 (by decide) (hts (.fieldLink RX6 19 "TownBand" "tape" "LTownBand$Tape;") (List.mem_cons_of_mem _ (List.mem_append_left _ (List.mem_append_left _ (List.mem_of_getElem? (i := 0) rfl))))) rfl dX6_feed_29 ?_
      refine z_getN (v := .ref (g.2.2 24)) hx hb hts (fun w h => List.mem_cons_of_mem _ (List.mem_append_right _ (h))) hown E hh (by decide) (zC_obj (q := 50) rfl) rfl 0 (by decide) (zE_f E 25 rfl) rfl dX6_feed_32 ?_
      refine lv_aload_n hx hb dX6_feed_35 rfl (lv_at hl 0 rfl) ?_
      refine z_get (v := .ref (g.2.2 50)) hx hb hts (fun w h => List.mem_cons_of_mem _ (List.mem_append_left _ (List.mem_append_right _ (h)))) hown E hh (by decide) (zC_obj (q := 54) rfl) rfl 1 (by decide) (hts (.fieldLink RX6 19 "TownBand" "tape" "LTownBand$Tape;") (List.mem_cons_of_mem _ (List.mem_append_left _ (List.mem_append_left _ (List.mem_of_getElem? (i := 0) rfl))))) rfl dX6_feed_36 ?_
      refine z_getN (v := .int (σ.1 50 2)) hx hb hts (fun w h => List.mem_cons_of_mem _ (List.mem_append_right _ (h))) hown E hh (by decide) (zC_obj (q := 50) rfl) rfl 2 (by decide) (zE_f E 27 rfl) rfl dX6_feed_39 ?_
      refine lv_iload_n hx hb dX6_feed_42 rfl (lv_at hl 1 rfl) ?_
      obtain ⟨h_v4, hf⟩ := z_if hf
      obtain ⟨σ5, e_σ5, hf⟩ := z_lt hf
      refine z_iast hx hb E hh (by decide) h_v4 e_σ5 dX6_feed_43 (fun H locs hh => ?_)
      refine lv_aload_n hx hb dX6_feed_44 rfl (lv_at hl 0 rfl) ?_
      refine z_get (v := .ref (g.2.2 50)) hx hb hts (fun w h => List.mem_cons_of_mem _ (List.mem_append_left _ (List.mem_append_right _ (h)))) hown E hh (by decide) (zC_obj (q := 54) rfl) rfl 1 (by decide) (hts (.fieldLink RX6 19 "TownBand" "tape" "LTownBand$Tape;") (List.mem_cons_of_mem _ (List.mem_append_left _ (List.mem_append_left _ (List.mem_of_getElem? (i := 0) rfl))))) rfl dX6_feed_45 ?_
      refine lv_dup hx hb dX6_feed_48 rfl ?_
      refine z_getN (v := .int (σ5.1 50 2)) hx hb hts (fun w h => List.mem_cons_of_mem _ (List.mem_append_right _ (h))) hown E hh (by decide) (zC_obj (q := 50) rfl) rfl 2 (by decide) (zE_f E 27 rfl) rfl dX6_feed_49 ?_
      refine lv_iconst (v := (nI 1)) hx hb dX6_feed_52 (by decide) ?_
      refine lv_iadd hx hb dX6_feed_53 ?_
      obtain ⟨σ6, e_σ6, hf⟩ := z_lt hf
      refine z_putN hx hb hts (fun w h => List.mem_cons_of_mem _ (List.mem_append_right _ (h))) tyX4 tyX4_ok nmX4 hown E hh (by decide) (show zD 50 = _ from rfl) rfl 2 (by decide) rfl (zE_f E 27 rfl) rfl rfl e_σ6 dX6_feed_54 (fun H locs hh => ?_)
      refine lv_aload_n hx hb dX6_feed_57 rfl (lv_at hl 0 rfl) ?_
      refine z_get (v := .ref (g.2.2 50)) hx hb hts (fun w h => List.mem_cons_of_mem _ (List.mem_append_left _ (List.mem_append_right _ (h)))) hown E hh (by decide) (zC_obj (q := 54) rfl) rfl 1 (by decide) (hts (.fieldLink RX6 19 "TownBand" "tape" "LTownBand$Tape;") (List.mem_cons_of_mem _ (List.mem_append_left _ (List.mem_append_left _ (List.mem_of_getElem? (i := 0) rfl))))) rfl dX6_feed_58 ?_
      refine z_getN (v := .int (σ6.1 50 2)) hx hb hts (fun w h => List.mem_cons_of_mem _ (List.mem_append_right _ (h))) hown E hh (by decide) (zC_obj (q := 50) rfl) rfl 2 (by decide) (zE_f E 27 rfl) rfl dX6_feed_61 ?_
      have hf := Option.some.inj hf
      subst hf
      exact z_iretX hx hb hr hlocks hh dX6_feed_64
    · have hf := z_in hf c_v3
      refine lv_bipush (v := (-3)) hx hb dX6_feed_25 (by decide) ?_
      have hf := Option.some.inj hf
      subst hf
      exact z_iretX hx hb hr hlocks hh dX6_feed_27
  · have hf := z_ip hf c_v2
    refine lv_iconst (v := (-1)) hx hb dX6_feed_10 (by decide) ?_
    have hf := Option.some.inj hf
    subst hf
    exact z_iretX hx hb hr hlocks hh dX6_feed_11
/-! ===== X6_end ===== -/
theorem hdX6_end : yX6_end.cls = RX6 ∧ yX6_end.cls ≠ "java/lang/invoke/MethodHandle" ∧ yX6_end.cls ≠ "java/lang/invoke/VarHandle" ∧ (parseMethodDescriptor yX6_end.desc).map (fun d => d.parameters.length) = some 1 := by decide +kernel
def fX6_end (N : Nat) (σ : zS) (x1 : Int32) : Option (Int32 × zS) :=
  (fX6_within N x1 (nI 0) (σ.1 50 2)).bind fun q1 =>
  if q1 = 0 then
    some ((-1), σ)
  else
    zlet (zpf σ 50 2 x1) fun σ3 =>
    some ((σ.1 50 2), σ3)
set_option maxRecDepth 100000 in
set_option maxHeartbeats 4000000 in
theorem zcX6_end (l : Launch) (g : zG) (A : Nat → Prop) (σ τ : zS) (N : Nat) (x1 : Int32)  {res : Int32 × zS} (hf : fX6_end N σ x1 = some res) : Met l yX6_end wsX6_end (zR 1) (zPc g A σ τ [.ref (g.2.2 54), .int x1]) (zQi g A τ res) 0 0 A := by
  refine z_met (cc := cX6_end) (ret := (some .int)) (own := RX6) (by decide) rfl rfl _ (Nat.le_of_ble_eq_true rfl) ?_
  intro p e s m below meth c C E ls hl hh
  have hl : lv_has ls 3 [(0, .ref (g.2.2 54)), (1, .int x1)] := hl
  obtain ⟨hx, hb, hr, hml, hown, hts, hlocks⟩ := id C
  unfold fX6_end at hf
  refine lv_iload_n hx hb dX6_end_0 rfl (lv_at hl 1 rfl) ?_
  refine lv_iconst (v := (nI 0)) hx hb dX6_end_1 (by decide) ?_
  refine lv_aload_n hx hb dX6_end_2 rfl (lv_at hl 0 rfl) ?_
  refine z_get (v := .ref (g.2.2 50)) hx hb hts (fun w h => List.mem_cons_of_mem _ (List.mem_append_left _ (List.mem_append_right _ (h)))) hown E hh (by decide) (zC_obj (q := 54) rfl) rfl 1 (by decide) (hts (.fieldLink RX6 19 "TownBand" "tape" "LTownBand$Tape;") (List.mem_cons_of_mem _ (List.mem_append_left _ (List.mem_append_left _ (List.mem_of_getElem? (i := 0) rfl))))) rfl dX6_end_3 ?_
  refine z_getN (v := .int (σ.1 50 2)) hx hb hts (fun w h => List.mem_cons_of_mem _ (List.mem_append_right _ (h))) hown E hh (by decide) (zC_obj (q := 50) rfl) rfl 2 (by decide) (zE_f E 27 rfl) rfl dX6_end_6 ?_
  obtain ⟨q1, h_q1, hf⟩ := z_bd hf
  refine z_xi (va_runS (As := [.int x1, .int (nI 0), .int (σ.1 50 2)]) (rest := []) ⟨hx, hb, hml, hown, hts⟩ (zcX6_within l g A σ τ N x1 (nI 0) (σ.1 50 2) h_q1) (va_cwS 3 hts gX6_end_X6_within rfl rfl rfl hdX6_within.2 ⟨by decide, by decide⟩) (z_preS E hh) rfl rfl hl.1 rfl (lv_room (Nat.le_of_ble_eq_true rfl)) dX6_end_9 ⟨Nat.le_refl _, Nat.le_refl _⟩) hh (fun H locs hh => ?_)
  refine lv_if_ne (tgt := 17) hx hb dX6_end_12 (by decide) (fun c_v2 => ?_) (fun c_v2 => ?_)
  · have hf := z_in hf c_v2
    refine lv_aload_n hx hb dX6_end_17 rfl (lv_at hl 0 rfl) ?_
    refine z_get (v := .ref (g.2.2 50)) hx hb hts (fun w h => List.mem_cons_of_mem _ (List.mem_append_left _ (List.mem_append_right _ (h)))) hown E hh (by decide) (zC_obj (q := 54) rfl) rfl 1 (by decide) (hts (.fieldLink RX6 19 "TownBand" "tape" "LTownBand$Tape;") (List.mem_cons_of_mem _ (List.mem_append_left _ (List.mem_append_left _ (List.mem_of_getElem? (i := 0) rfl))))) rfl dX6_end_18 ?_
    refine z_getN (v := .int (σ.1 50 2)) hx hb hts (fun w h => List.mem_cons_of_mem _ (List.mem_append_right _ (h))) hown E hh (by decide) (zC_obj (q := 50) rfl) rfl 2 (by decide) (zE_f E 27 rfl) rfl dX6_end_21 ?_
    refine lv_istore_n (lv' := [(2, .int (σ.1 50 2)), (0, .ref (g.2.2 54)), (1, .int x1)]) hx hb dX6_end_24 rfl hl (by decide) rfl (fun ls hl => ?_)
    refine lv_aload_n hx hb dX6_end_25 rfl (lv_at hl 1 rfl) ?_
    refine z_get (v := .ref (g.2.2 50)) hx hb hts (fun w h => List.mem_cons_of_mem _ (List.mem_append_left _ (List.mem_append_right _ (h)))) hown E hh (by decide) (zC_obj (q := 54) rfl) rfl 1 (by decide) (hts (.fieldLink RX6 19 "TownBand" "tape" "LTownBand$Tape;") (List.mem_cons_of_mem _ (List.mem_append_left _ (List.mem_append_left _ (List.mem_of_getElem? (i := 0) rfl))))) rfl dX6_end_26 ?_
    refine lv_iload_n hx hb dX6_end_29 rfl (lv_at hl 2 rfl) ?_
    obtain ⟨σ3, e_σ3, hf⟩ := z_lt hf
    refine z_putN hx hb hts (fun w h => List.mem_cons_of_mem _ (List.mem_append_right _ (h))) tyX4 tyX4_ok nmX4 hown E hh (by decide) (show zD 50 = _ from rfl) rfl 2 (by decide) rfl (zE_f E 27 rfl) rfl rfl e_σ3 dX6_end_30 (fun H locs hh => ?_)
    refine lv_iload_n hx hb dX6_end_33 rfl (lv_at hl 0 rfl) ?_
    have hf := Option.some.inj hf
    subst hf
    exact z_iretX hx hb hr hlocks hh dX6_end_34
  · have hf := z_ip hf c_v2
    refine lv_iconst (v := (-1)) hx hb dX6_end_15 (by decide) ?_
    have hf := Option.some.inj hf
    subst hf
    exact z_iretX hx hb hr hlocks hh dX6_end_16
/-! ===== X6_fault ===== -/
theorem hdX6_fault : yX6_fault.cls = RX6 ∧ yX6_fault.cls ≠ "java/lang/invoke/MethodHandle" ∧ yX6_fault.cls ≠ "java/lang/invoke/VarHandle" ∧ (parseMethodDescriptor yX6_fault.desc).map (fun d => d.parameters.length) = some 0 := by decide +kernel
def fX6_fault (N : Nat) (σ : zS)  : Option (Int32) :=
  some (σ.1 50 9)
set_option maxRecDepth 100000 in
set_option maxHeartbeats 4000000 in
theorem zcX6_fault (l : Launch) (g : zG) (A : Nat → Prop) (σ τ : zS) (N : Nat)   {res : Int32} (hf : fX6_fault N σ = some res) : Met l yX6_fault wsX6_fault (zR 0) (zPc g A σ τ [.ref (g.2.2 54)]) (zQi g A τ (res, σ)) 0 0 A := by
  refine z_met (cc := cX6_fault) (ret := (some .int)) (own := RX6) (by decide) rfl rfl _ (Nat.le_of_ble_eq_true rfl) ?_
  intro p e s m below meth c C E ls hl hh
  have hl : lv_has ls 1 [(0, .ref (g.2.2 54))] := hl
  obtain ⟨hx, hb, hr, hml, hown, hts, hlocks⟩ := id C
  unfold fX6_fault at hf
  refine lv_aload_n hx hb dX6_fault_0 rfl (lv_at hl 0 rfl) ?_
  refine z_get (v := .ref (g.2.2 50)) hx hb hts (fun w h => List.mem_cons_of_mem _ (List.mem_append_left _ (List.mem_append_right _ (h)))) hown E hh (by decide) (zC_obj (q := 54) rfl) rfl 1 (by decide) (hts (.fieldLink RX6 19 "TownBand" "tape" "LTownBand$Tape;") (List.mem_cons_of_mem _ (List.mem_append_left _ (List.mem_append_left _ (List.mem_of_getElem? (i := 0) rfl))))) rfl dX6_fault_1 ?_
  refine z_getN (v := .int (σ.1 50 9)) hx hb hts (fun w h => List.mem_cons_of_mem _ (List.mem_append_right _ (h))) hown E hh (by decide) (zC_obj (q := 50) rfl) rfl 9 (by decide) (zE_f E 28 rfl) rfl dX6_fault_4 ?_
  have hf := Option.some.inj hf
  subst hf
  exact z_iretX hx hb hr hlocks hh dX6_fault_7
/-! ===== X6_rule ===== -/
theorem hdX6_rule : yX6_rule.cls = RX6 ∧ yX6_rule.cls ≠ "java/lang/invoke/MethodHandle" ∧ yX6_rule.cls ≠ "java/lang/invoke/VarHandle" ∧ (parseMethodDescriptor yX6_rule.desc).map (fun d => d.parameters.length) = some 1 := by decide +kernel
def fX6_rule (N : Nat) (σ : zS) (x1 : Int32) : Option (Int32) :=
  if x1 = (nI 0) then
    some (σ.1 42 6)
  else
    if x1 = (nI 1) then
      some (σ.1 42 7)
    else
      if x1 = (nI 2) then
        some (σ.1 42 8)
      else
        if x1 = (nI 3) then
          some (σ.1 42 9)
        else
          if x1 = (nI 4) then
            (fX0_towerBits N σ 42).bind fun q6 =>
            some q6
          else
            some (-1)
set_option maxRecDepth 100000 in
set_option maxHeartbeats 4000000 in
theorem zcX6_rule (l : Launch) (g : zG) (A : Nat → Prop) (σ τ : zS) (N : Nat) (x1 : Int32)  {res : Int32} (hf : fX6_rule N σ x1 = some res) : Met l yX6_rule wsX6_rule (zR 1) (zPc g A σ τ [.ref (g.2.2 54), .int x1]) (zQi g A τ (res, σ)) 0 0 A := by
  refine z_met (cc := cX6_rule) (ret := (some .int)) (own := RX6) (by decide) rfl rfl _ (Nat.le_of_ble_eq_true rfl) ?_
  intro p e s m below meth c C E ls hl hh
  have hl : lv_has ls 2 [(0, .ref (g.2.2 54)), (1, .int x1)] := hl
  obtain ⟨hx, hb, hr, hml, hown, hts, hlocks⟩ := id C
  unfold fX6_rule at hf
  refine lv_iload_n hx hb dX6_rule_0 rfl (lv_at hl 1 rfl) ?_
  by_cases c_v1 : x1 = (nI 0)
  · have hf := z_ip hf c_v1
    refine z_tbl (tgt := 36) (off := 35) hx hb dX6_rule_1 (nI 0) c_v1 (by decide) (by decide) (by decide) (by decide) ?_
    refine lv_aload_n hx hb dX6_rule_36 rfl (lv_at hl 0 rfl) ?_
    refine z_get (v := .ref (g.2.2 42)) hx hb hts (fun w h => List.mem_cons_of_mem _ (List.mem_append_left _ (List.mem_append_right _ (h)))) hown E hh (by decide) (zC_obj (q := 54) rfl) rfl 0 (by decide) (hts (.fieldLink RX6 10 "TownBand" "band" "LTownBand$Band;") (List.mem_cons_of_mem _ (List.mem_append_left _ (List.mem_append_left _ (List.mem_of_getElem? (i := 0) rfl))))) rfl dX6_rule_37 ?_
    refine z_getN (v := .int (σ.1 42 6)) hx hb hts (fun w h => List.mem_cons_of_mem _ (List.mem_append_right _ (h))) hown E hh (by decide) (zC_band (by decide) (by decide)) rfl 6 (by decide) (zE_f E 17 rfl) rfl dX6_rule_40 ?_
    have hf := Option.some.inj hf
    subst hf
    exact z_iretX hx hb hr hlocks hh dX6_rule_43
  · have hf := z_in hf c_v1
    by_cases c_v2 : x1 = (nI 1)
    · have hf := z_ip hf c_v2
      refine z_tbl (tgt := 44) (off := 43) hx hb dX6_rule_1 (nI 1) c_v2 (by decide) (by decide) (by decide) (by decide) ?_
      refine lv_aload_n hx hb dX6_rule_44 rfl (lv_at hl 0 rfl) ?_
      refine z_get (v := .ref (g.2.2 42)) hx hb hts (fun w h => List.mem_cons_of_mem _ (List.mem_append_left _ (List.mem_append_right _ (h)))) hown E hh (by decide) (zC_obj (q := 54) rfl) rfl 0 (by decide) (hts (.fieldLink RX6 10 "TownBand" "band" "LTownBand$Band;") (List.mem_cons_of_mem _ (List.mem_append_left _ (List.mem_append_left _ (List.mem_of_getElem? (i := 0) rfl))))) rfl dX6_rule_45 ?_
      refine z_getN (v := .int (σ.1 42 7)) hx hb hts (fun w h => List.mem_cons_of_mem _ (List.mem_append_right _ (h))) hown E hh (by decide) (zC_band (by decide) (by decide)) rfl 7 (by decide) (zE_f E 20 rfl) rfl dX6_rule_48 ?_
      have hf := Option.some.inj hf
      subst hf
      exact z_iretX hx hb hr hlocks hh dX6_rule_51
    · have hf := z_in hf c_v2
      by_cases c_v3 : x1 = (nI 2)
      · have hf := z_ip hf c_v3
        refine z_tbl (tgt := 52) (off := 51) hx hb dX6_rule_1 (nI 2) c_v3 (by decide) (by decide) (by decide) (by decide) ?_
        refine lv_aload_n hx hb dX6_rule_52 rfl (lv_at hl 0 rfl) ?_
        refine z_get (v := .ref (g.2.2 42)) hx hb hts (fun w h => List.mem_cons_of_mem _ (List.mem_append_left _ (List.mem_append_right _ (h)))) hown E hh (by decide) (zC_obj (q := 54) rfl) rfl 0 (by decide) (hts (.fieldLink RX6 10 "TownBand" "band" "LTownBand$Band;") (List.mem_cons_of_mem _ (List.mem_append_left _ (List.mem_append_left _ (List.mem_of_getElem? (i := 0) rfl))))) rfl dX6_rule_53 ?_
        refine z_getN (v := .int (σ.1 42 8)) hx hb hts (fun w h => List.mem_cons_of_mem _ (List.mem_append_right _ (h))) hown E hh (by decide) (zC_band (by decide) (by decide)) rfl 8 (by decide) (zE_f E 21 rfl) rfl dX6_rule_56 ?_
        have hf := Option.some.inj hf
        subst hf
        exact z_iretX hx hb hr hlocks hh dX6_rule_59
      · have hf := z_in hf c_v3
        by_cases c_v4 : x1 = (nI 3)
        · have hf := z_ip hf c_v4
          refine z_tbl (tgt := 60) (off := 59) hx hb dX6_rule_1 (nI 3) c_v4 (by decide) (by decide) (by decide) (by decide) ?_
          refine lv_aload_n hx hb dX6_rule_60 rfl (lv_at hl 0 rfl) ?_
          refine z_get (v := .ref (g.2.2 42)) hx hb hts (fun w h => List.mem_cons_of_mem _ (List.mem_append_left _ (List.mem_append_right _ (h)))) hown E hh (by decide) (zC_obj (q := 54) rfl) rfl 0 (by decide) (hts (.fieldLink RX6 10 "TownBand" "band" "LTownBand$Band;") (List.mem_cons_of_mem _ (List.mem_append_left _ (List.mem_append_left _ (List.mem_of_getElem? (i := 0) rfl))))) rfl dX6_rule_61 ?_
          refine z_getN (v := .int (σ.1 42 9)) hx hb hts (fun w h => List.mem_cons_of_mem _ (List.mem_append_right _ (h))) hown E hh (by decide) (zC_band (by decide) (by decide)) rfl 9 (by decide) (zE_f E 23 rfl) rfl dX6_rule_64 ?_
          have hf := Option.some.inj hf
          subst hf
          exact z_iretX hx hb hr hlocks hh dX6_rule_67
        · have hf := z_in hf c_v4
          by_cases c_v5 : x1 = (nI 4)
          · have hf := z_ip hf c_v5
            refine z_tbl (tgt := 68) (off := 67) hx hb dX6_rule_1 (nI 4) c_v5 (by decide) (by decide) (by decide) (by decide) ?_
            refine lv_aload_n hx hb dX6_rule_68 rfl (lv_at hl 0 rfl) ?_
            refine z_get (v := .ref (g.2.2 42)) hx hb hts (fun w h => List.mem_cons_of_mem _ (List.mem_append_left _ (List.mem_append_right _ (h)))) hown E hh (by decide) (zC_obj (q := 54) rfl) rfl 0 (by decide) (hts (.fieldLink RX6 10 "TownBand" "band" "LTownBand$Band;") (List.mem_cons_of_mem _ (List.mem_append_left _ (List.mem_append_left _ (List.mem_of_getElem? (i := 0) rfl))))) rfl dX6_rule_69 ?_
            obtain ⟨q6, h_q6, hf⟩ := z_bd hf
            refine z_xi (va_runVN (As := []) (rest := []) ⟨hx, hb, hml, hown, hts⟩ (zcX0_towerBits l g A σ τ N 42 (by decide) (by decide) h_q6) ⟨va_cnB 0 hts gX6_rule_X0_towerBits_n106 rfl rfl rfl (zE_m E 15 rfl) (hts (.initialized RX0) (List.mem_cons_of_mem _ (List.mem_append_left _ (List.mem_append_left _ (List.mem_of_getElem? (i := 2) rfl))))) hdX0_towerBits.2 ⟨by decide, by decide⟩, (hts (.instanceMethod yX0_towerBits) (List.mem_cons_of_mem _ (List.mem_append_left _ (List.mem_append_left _ (List.mem_of_getElem? (i := 1) rfl))))), (hts (.selects RX0 yX0_towerBits yX0_towerBits) (List.mem_cons_of_mem _ (List.mem_append_left _ (List.mem_append_left _ (List.mem_of_getElem? (i := 3) rfl)))))⟩ (z_preV E hh (by decide) (zC_band (by decide) (by decide)) rfl) rfl rfl hl.1 rfl (lv_room (Nat.le_of_ble_eq_true rfl)) dX6_rule_72 ⟨Nat.le_refl _, Nat.le_refl _⟩) hh (fun H locs hh => ?_)
            have hf := Option.some.inj hf
            subst hf
            exact z_iretX hx hb hr hlocks hh dX6_rule_75
          · have hf := z_in hf c_v5
            refine lv_tableOut (tgt := 76) hx hb dX6_rule_1 (by have n_c_v1 := lv_neT (a := 0) c_v1 (by decide); have n_c_v2 := lv_neT (a := 1) c_v2 (by decide); have n_c_v3 := lv_neT (a := 2) c_v3 (by decide); have n_c_v4 := lv_neT (a := 3) c_v4 (by decide); have n_c_v5 := lv_neT (a := 4) c_v5 (by decide); omega) (by decide) ?_
            refine lv_iconst (v := (-1)) hx hb dX6_rule_76 (by decide) ?_
            have hf := Option.some.inj hf
            subst hf
            exact z_iretX hx hb hr hlocks hh dX6_rule_77
/-! ===== X6_beast ===== -/
theorem hdX6_beast : yX6_beast.cls = RX6 ∧ yX6_beast.cls ≠ "java/lang/invoke/MethodHandle" ∧ yX6_beast.cls ≠ "java/lang/invoke/VarHandle" ∧ (parseMethodDescriptor yX6_beast.desc).map (fun d => d.parameters.length) = some 2 := by decide +kernel
def fX6_beast (N : Nat) (σ : zS) (x1 : Int32) (x2 : Int32) : Option (Int32) :=
  (fX0_hasBeast N σ 42 x1).bind fun q1 =>
  if q1 = 0 then
    some (-1)
  else
    if x2 = (nI 0) then
      if zin x1 (zlen 0) then
      zlet (σ.2 0 x1.toNatClampNeg) fun v5 =>
      some v5
      else none
    else
      if x2 = (nI 1) then
        if zin x1 (zlen 1) then
        zlet (σ.2 1 x1.toNatClampNeg) fun v8 =>
        some v8
        else none
      else
        if x2 = (nI 2) then
          if zin x1 (zlen 2) then
          zlet (σ.2 2 x1.toNatClampNeg) fun v11 =>
          some v11
          else none
        else
          if x2 = (nI 3) then
            (fX0_bears N σ 42 x1).bind fun q13 =>
            some q13
          else
            if x2 = (nI 4) then
              (fX0_hurts N σ 42 x1).bind fun q15 =>
              some q15
            else
              if x2 = (nI 5) then
                (fX6_placeIn N σ 4 (σ.1 42 8) x1).bind fun q17 =>
                some q17
              else
                if x2 = (nI 6) then
                  (fX6_placeIn N σ 5 (σ.1 42 6) x1).bind fun q19 =>
                  some q19
                else
                  some (-1)
set_option maxRecDepth 100000 in
set_option maxHeartbeats 4000000 in
theorem zcX6_beast (l : Launch) (g : zG) (A : Nat → Prop) (σ τ : zS) (N : Nat) (x1 : Int32) (x2 : Int32)  {res : Int32} (hf : fX6_beast N σ x1 x2 = some res) : Met l yX6_beast wsX6_beast (zR 2) (zPc g A σ τ [.ref (g.2.2 54), .int x1, .int x2]) (zQi g A τ (res, σ)) 0 0 A := by
  refine z_met (cc := cX6_beast) (ret := (some .int)) (own := RX6) (by decide) rfl rfl _ (Nat.le_of_ble_eq_true rfl) ?_
  intro p e s m below meth c C E ls hl hh
  have hl : lv_has ls 3 [(0, .ref (g.2.2 54)), (1, .int x1), (2, .int x2)] := hl
  obtain ⟨hx, hb, hr, hml, hown, hts, hlocks⟩ := id C
  unfold fX6_beast at hf
  refine lv_aload_n hx hb dX6_beast_0 rfl (lv_at hl 0 rfl) ?_
  refine z_get (v := .ref (g.2.2 42)) hx hb hts (fun w h => List.mem_cons_of_mem _ (List.mem_append_left _ (List.mem_append_right _ (h)))) hown E hh (by decide) (zC_obj (q := 54) rfl) rfl 0 (by decide) (hts (.fieldLink RX6 10 "TownBand" "band" "LTownBand$Band;") (List.mem_cons_of_mem _ (List.mem_append_left _ (List.mem_append_left _ (List.mem_of_getElem? (i := 0) rfl))))) rfl dX6_beast_1 ?_
  refine lv_iload_n hx hb dX6_beast_4 rfl (lv_at hl 1 rfl) ?_
  obtain ⟨q1, h_q1, hf⟩ := z_bd hf
  refine z_xi (va_runVN (As := [.int x1]) (rest := []) ⟨hx, hb, hml, hown, hts⟩ (zcX0_hasBeast l g A σ τ N 42 x1 (by decide) (by decide) h_q1) ⟨va_cnB 1 hts gX6_beast_X0_hasBeast_n109 rfl rfl rfl (zE_m E 16 rfl) (hts (.initialized RX0) (List.mem_cons_of_mem _ (List.mem_append_left _ (List.mem_append_left _ (List.mem_of_getElem? (i := 2) rfl))))) hdX0_hasBeast.2 ⟨by decide, by decide⟩, (hts (.instanceMethod yX0_hasBeast) (List.mem_cons_of_mem _ (List.mem_append_left _ (List.mem_append_left _ (List.mem_of_getElem? (i := 1) rfl))))), (hts (.selects RX0 yX0_hasBeast yX0_hasBeast) (List.mem_cons_of_mem _ (List.mem_append_left _ (List.mem_append_left _ (List.mem_of_getElem? (i := 3) rfl)))))⟩ (z_preV E hh (by decide) (zC_band (by decide) (by decide)) rfl) rfl rfl hl.1 rfl (lv_room (Nat.le_of_ble_eq_true rfl)) dX6_beast_5 ⟨Nat.le_refl _, Nat.le_refl _⟩) hh (fun H locs hh => ?_)
  refine lv_if_ne (tgt := 13) hx hb dX6_beast_8 (by decide) (fun c_v2 => ?_) (fun c_v2 => ?_)
  · have hf := z_in hf c_v2
    refine lv_iload_n hx hb dX6_beast_13 rfl (lv_at hl 2 rfl) ?_
    by_cases c_v3 : x2 = (nI 0)
    · have hf := z_ip hf c_v3
      refine z_tbl (tgt := 56) (off := 42) hx hb dX6_beast_14 (nI 0) c_v3 (by decide) (by decide) (by decide) (by decide) ?_
      refine lv_aload_n hx hb dX6_beast_56 rfl (lv_at hl 0 rfl) ?_
      refine z_get (v := .ref (g.2.2 42)) hx hb hts (fun w h => List.mem_cons_of_mem _ (List.mem_append_left _ (List.mem_append_right _ (h)))) hown E hh (by decide) (zC_obj (q := 54) rfl) rfl 0 (by decide) (hts (.fieldLink RX6 10 "TownBand" "band" "LTownBand$Band;") (List.mem_cons_of_mem _ (List.mem_append_left _ (List.mem_append_left _ (List.mem_of_getElem? (i := 0) rfl))))) rfl dX6_beast_57 ?_
      refine z_getN (v := .ref (g.2.2 0)) hx hb hts (fun w h => List.mem_cons_of_mem _ (List.mem_append_right _ (h))) hown E hh (by decide) (zC_band (by decide) (by decide)) rfl 0 (by decide) (zE_f E 1 rfl) rfl dX6_beast_60 ?_
      refine lv_iload_n hx hb dX6_beast_63 rfl (lv_at hl 1 rfl) ?_
      obtain ⟨h_v4, hf⟩ := z_if hf
      obtain ⟨v5, e_v5, hf⟩ := z_lt hf
      refine z_iald hx hb E hh (by decide) h_v4 e_v5 dX6_beast_64 ?_
      have hf := Option.some.inj hf
      subst hf
      exact z_iretX hx hb hr hlocks hh dX6_beast_65
    · have hf := z_in hf c_v3
      by_cases c_v6 : x2 = (nI 1)
      · have hf := z_ip hf c_v6
        refine z_tbl (tgt := 66) (off := 52) hx hb dX6_beast_14 (nI 1) c_v6 (by decide) (by decide) (by decide) (by decide) ?_
        refine lv_aload_n hx hb dX6_beast_66 rfl (lv_at hl 0 rfl) ?_
        refine z_get (v := .ref (g.2.2 42)) hx hb hts (fun w h => List.mem_cons_of_mem _ (List.mem_append_left _ (List.mem_append_right _ (h)))) hown E hh (by decide) (zC_obj (q := 54) rfl) rfl 0 (by decide) (hts (.fieldLink RX6 10 "TownBand" "band" "LTownBand$Band;") (List.mem_cons_of_mem _ (List.mem_append_left _ (List.mem_append_left _ (List.mem_of_getElem? (i := 0) rfl))))) rfl dX6_beast_67 ?_
        refine z_getN (v := .ref (g.2.2 1)) hx hb hts (fun w h => List.mem_cons_of_mem _ (List.mem_append_right _ (h))) hown E hh (by decide) (zC_band (by decide) (by decide)) rfl 1 (by decide) (zE_f E 4 rfl) rfl dX6_beast_70 ?_
        refine lv_iload_n hx hb dX6_beast_73 rfl (lv_at hl 1 rfl) ?_
        obtain ⟨h_v7, hf⟩ := z_if hf
        obtain ⟨v8, e_v8, hf⟩ := z_lt hf
        refine z_iald hx hb E hh (by decide) h_v7 e_v8 dX6_beast_74 ?_
        have hf := Option.some.inj hf
        subst hf
        exact z_iretX hx hb hr hlocks hh dX6_beast_75
      · have hf := z_in hf c_v6
        by_cases c_v9 : x2 = (nI 2)
        · have hf := z_ip hf c_v9
          refine z_tbl (tgt := 76) (off := 62) hx hb dX6_beast_14 (nI 2) c_v9 (by decide) (by decide) (by decide) (by decide) ?_
          refine lv_aload_n hx hb dX6_beast_76 rfl (lv_at hl 0 rfl) ?_
          refine z_get (v := .ref (g.2.2 42)) hx hb hts (fun w h => List.mem_cons_of_mem _ (List.mem_append_left _ (List.mem_append_right _ (h)))) hown E hh (by decide) (zC_obj (q := 54) rfl) rfl 0 (by decide) (hts (.fieldLink RX6 10 "TownBand" "band" "LTownBand$Band;") (List.mem_cons_of_mem _ (List.mem_append_left _ (List.mem_append_left _ (List.mem_of_getElem? (i := 0) rfl))))) rfl dX6_beast_77 ?_
          refine z_getN (v := .ref (g.2.2 2)) hx hb hts (fun w h => List.mem_cons_of_mem _ (List.mem_append_right _ (h))) hown E hh (by decide) (zC_band (by decide) (by decide)) rfl 2 (by decide) (zE_f E 7 rfl) rfl dX6_beast_80 ?_
          refine lv_iload_n hx hb dX6_beast_83 rfl (lv_at hl 1 rfl) ?_
          obtain ⟨h_v10, hf⟩ := z_if hf
          obtain ⟨v11, e_v11, hf⟩ := z_lt hf
          refine z_iald hx hb E hh (by decide) h_v10 e_v11 dX6_beast_84 ?_
          have hf := Option.some.inj hf
          subst hf
          exact z_iretX hx hb hr hlocks hh dX6_beast_85
        · have hf := z_in hf c_v9
          by_cases c_v12 : x2 = (nI 3)
          · have hf := z_ip hf c_v12
            refine z_tbl (tgt := 86) (off := 72) hx hb dX6_beast_14 (nI 3) c_v12 (by decide) (by decide) (by decide) (by decide) ?_
            refine lv_aload_n hx hb dX6_beast_86 rfl (lv_at hl 0 rfl) ?_
            refine z_get (v := .ref (g.2.2 42)) hx hb hts (fun w h => List.mem_cons_of_mem _ (List.mem_append_left _ (List.mem_append_right _ (h)))) hown E hh (by decide) (zC_obj (q := 54) rfl) rfl 0 (by decide) (hts (.fieldLink RX6 10 "TownBand" "band" "LTownBand$Band;") (List.mem_cons_of_mem _ (List.mem_append_left _ (List.mem_append_left _ (List.mem_of_getElem? (i := 0) rfl))))) rfl dX6_beast_87 ?_
            refine lv_iload_n hx hb dX6_beast_90 rfl (lv_at hl 1 rfl) ?_
            obtain ⟨q13, h_q13, hf⟩ := z_bd hf
            refine z_xi (va_runVN (As := [.int x1]) (rest := []) ⟨hx, hb, hml, hown, hts⟩ (zcX0_bears l g A σ τ N 42 x1 (by decide) (by decide) h_q13) ⟨va_cnB 1 hts gX6_beast_X0_bears_n122 rfl rfl rfl (zE_m E 17 rfl) (hts (.initialized RX0) (List.mem_cons_of_mem _ (List.mem_append_left _ (List.mem_append_left _ (List.mem_of_getElem? (i := 2) rfl))))) hdX0_bears.2 ⟨by decide, by decide⟩, (hts (.instanceMethod yX0_bears) (List.mem_cons_of_mem _ (List.mem_append_left _ (List.mem_append_left _ (List.mem_of_getElem? (i := 9) rfl))))), (hts (.selects RX0 yX0_bears yX0_bears) (List.mem_cons_of_mem _ (List.mem_append_left _ (List.mem_append_left _ (List.mem_of_getElem? (i := 10) rfl)))))⟩ (z_preV E hh (by decide) (zC_band (by decide) (by decide)) rfl) rfl rfl hl.1 rfl (lv_room (Nat.le_of_ble_eq_true rfl)) dX6_beast_91 ⟨Nat.le_refl _, Nat.le_refl _⟩) hh (fun H locs hh => ?_)
            have hf := Option.some.inj hf
            subst hf
            exact z_iretX hx hb hr hlocks hh dX6_beast_94
          · have hf := z_in hf c_v12
            by_cases c_v14 : x2 = (nI 4)
            · have hf := z_ip hf c_v14
              refine z_tbl (tgt := 95) (off := 81) hx hb dX6_beast_14 (nI 4) c_v14 (by decide) (by decide) (by decide) (by decide) ?_
              refine lv_aload_n hx hb dX6_beast_95 rfl (lv_at hl 0 rfl) ?_
              refine z_get (v := .ref (g.2.2 42)) hx hb hts (fun w h => List.mem_cons_of_mem _ (List.mem_append_left _ (List.mem_append_right _ (h)))) hown E hh (by decide) (zC_obj (q := 54) rfl) rfl 0 (by decide) (hts (.fieldLink RX6 10 "TownBand" "band" "LTownBand$Band;") (List.mem_cons_of_mem _ (List.mem_append_left _ (List.mem_append_left _ (List.mem_of_getElem? (i := 0) rfl))))) rfl dX6_beast_96 ?_
              refine lv_iload_n hx hb dX6_beast_99 rfl (lv_at hl 1 rfl) ?_
              obtain ⟨q15, h_q15, hf⟩ := z_bd hf
              refine z_xi (va_runVN (As := [.int x1]) (rest := []) ⟨hx, hb, hml, hown, hts⟩ (zcX0_hurts l g A σ τ N 42 x1 (by decide) (by decide) h_q15) ⟨va_cnB 1 hts gX6_beast_X0_hurts_n126 rfl rfl rfl (zE_m E 18 rfl) (hts (.initialized RX0) (List.mem_cons_of_mem _ (List.mem_append_left _ (List.mem_append_left _ (List.mem_of_getElem? (i := 2) rfl))))) hdX0_hurts.2 ⟨by decide, by decide⟩, (hts (.instanceMethod yX0_hurts) (List.mem_cons_of_mem _ (List.mem_append_left _ (List.mem_append_left _ (List.mem_of_getElem? (i := 17) rfl))))), (hts (.selects RX0 yX0_hurts yX0_hurts) (List.mem_cons_of_mem _ (List.mem_append_left _ (List.mem_append_left _ (List.mem_of_getElem? (i := 18) rfl)))))⟩ (z_preV E hh (by decide) (zC_band (by decide) (by decide)) rfl) rfl rfl hl.1 rfl (lv_room (Nat.le_of_ble_eq_true rfl)) dX6_beast_100 ⟨Nat.le_refl _, Nat.le_refl _⟩) hh (fun H locs hh => ?_)
              have hf := Option.some.inj hf
              subst hf
              exact z_iretX hx hb hr hlocks hh dX6_beast_103
            · have hf := z_in hf c_v14
              by_cases c_v16 : x2 = (nI 5)
              · have hf := z_ip hf c_v16
                refine z_tbl (tgt := 104) (off := 90) hx hb dX6_beast_14 (nI 5) c_v16 (by decide) (by decide) (by decide) (by decide) ?_
                refine lv_aload_n hx hb dX6_beast_104 rfl (lv_at hl 0 rfl) ?_
                refine z_get (v := .ref (g.2.2 42)) hx hb hts (fun w h => List.mem_cons_of_mem _ (List.mem_append_left _ (List.mem_append_right _ (h)))) hown E hh (by decide) (zC_obj (q := 54) rfl) rfl 0 (by decide) (hts (.fieldLink RX6 10 "TownBand" "band" "LTownBand$Band;") (List.mem_cons_of_mem _ (List.mem_append_left _ (List.mem_append_left _ (List.mem_of_getElem? (i := 0) rfl))))) rfl dX6_beast_105 ?_
                refine z_getN (v := .ref (g.2.2 4)) hx hb hts (fun w h => List.mem_cons_of_mem _ (List.mem_append_right _ (h))) hown E hh (by decide) (zC_band (by decide) (by decide)) rfl 4 (by decide) (zE_f E 10 rfl) rfl dX6_beast_108 ?_
                refine lv_aload_n hx hb dX6_beast_111 rfl (lv_at hl 0 rfl) ?_
                refine z_get (v := .ref (g.2.2 42)) hx hb hts (fun w h => List.mem_cons_of_mem _ (List.mem_append_left _ (List.mem_append_right _ (h)))) hown E hh (by decide) (zC_obj (q := 54) rfl) rfl 0 (by decide) (hts (.fieldLink RX6 10 "TownBand" "band" "LTownBand$Band;") (List.mem_cons_of_mem _ (List.mem_append_left _ (List.mem_append_left _ (List.mem_of_getElem? (i := 0) rfl))))) rfl dX6_beast_112 ?_
                refine z_getN (v := .int (σ.1 42 8)) hx hb hts (fun w h => List.mem_cons_of_mem _ (List.mem_append_right _ (h))) hown E hh (by decide) (zC_band (by decide) (by decide)) rfl 8 (by decide) (zE_f E 21 rfl) rfl dX6_beast_115 ?_
                refine lv_iload_n hx hb dX6_beast_118 rfl (lv_at hl 1 rfl) ?_
                obtain ⟨q17, h_q17, hf⟩ := z_bd hf
                refine z_xi (va_runS (As := [.ref (g.2.2 4), .int (σ.1 42 8), .int x1]) (rest := []) ⟨hx, hb, hml, hown, hts⟩ (zcX6_placeIn l g A σ τ N 4 (σ.1 42 8) x1 (by decide) h_q17) (va_cwS 3 hts gX6_beast_X6_placeIn rfl rfl rfl hdX6_placeIn.2 ⟨by decide, by decide⟩) (z_preS E hh) rfl rfl hl.1 rfl (lv_room (Nat.le_of_ble_eq_true rfl)) dX6_beast_119 ⟨Nat.le_refl _, Nat.le_refl _⟩) hh (fun H locs hh => ?_)
                have hf := Option.some.inj hf
                subst hf
                exact z_iretX hx hb hr hlocks hh dX6_beast_122
              · have hf := z_in hf c_v16
                by_cases c_v18 : x2 = (nI 6)
                · have hf := z_ip hf c_v18
                  refine z_tbl (tgt := 123) (off := 109) hx hb dX6_beast_14 (nI 6) c_v18 (by decide) (by decide) (by decide) (by decide) ?_
                  refine lv_aload_n hx hb dX6_beast_123 rfl (lv_at hl 0 rfl) ?_
                  refine z_get (v := .ref (g.2.2 42)) hx hb hts (fun w h => List.mem_cons_of_mem _ (List.mem_append_left _ (List.mem_append_right _ (h)))) hown E hh (by decide) (zC_obj (q := 54) rfl) rfl 0 (by decide) (hts (.fieldLink RX6 10 "TownBand" "band" "LTownBand$Band;") (List.mem_cons_of_mem _ (List.mem_append_left _ (List.mem_append_left _ (List.mem_of_getElem? (i := 0) rfl))))) rfl dX6_beast_124 ?_
                  refine z_getN (v := .ref (g.2.2 5)) hx hb hts (fun w h => List.mem_cons_of_mem _ (List.mem_append_right _ (h))) hown E hh (by decide) (zC_band (by decide) (by decide)) rfl 5 (by decide) (zE_f E 13 rfl) rfl dX6_beast_127 ?_
                  refine lv_aload_n hx hb dX6_beast_130 rfl (lv_at hl 0 rfl) ?_
                  refine z_get (v := .ref (g.2.2 42)) hx hb hts (fun w h => List.mem_cons_of_mem _ (List.mem_append_left _ (List.mem_append_right _ (h)))) hown E hh (by decide) (zC_obj (q := 54) rfl) rfl 0 (by decide) (hts (.fieldLink RX6 10 "TownBand" "band" "LTownBand$Band;") (List.mem_cons_of_mem _ (List.mem_append_left _ (List.mem_append_left _ (List.mem_of_getElem? (i := 0) rfl))))) rfl dX6_beast_131 ?_
                  refine z_getN (v := .int (σ.1 42 6)) hx hb hts (fun w h => List.mem_cons_of_mem _ (List.mem_append_right _ (h))) hown E hh (by decide) (zC_band (by decide) (by decide)) rfl 6 (by decide) (zE_f E 17 rfl) rfl dX6_beast_134 ?_
                  refine lv_iload_n hx hb dX6_beast_137 rfl (lv_at hl 1 rfl) ?_
                  obtain ⟨q19, h_q19, hf⟩ := z_bd hf
                  refine z_xi (va_runS (As := [.ref (g.2.2 5), .int (σ.1 42 6), .int x1]) (rest := []) ⟨hx, hb, hml, hown, hts⟩ (zcX6_placeIn l g A σ τ N 5 (σ.1 42 6) x1 (by decide) h_q19) (va_cwS 3 hts gX6_beast_X6_placeIn rfl rfl rfl hdX6_placeIn.2 ⟨by decide, by decide⟩) (z_preS E hh) rfl rfl hl.1 rfl (lv_room (Nat.le_of_ble_eq_true rfl)) dX6_beast_138 ⟨Nat.le_refl _, Nat.le_refl _⟩) hh (fun H locs hh => ?_)
                  have hf := Option.some.inj hf
                  subst hf
                  exact z_iretX hx hb hr hlocks hh dX6_beast_141
                · have hf := z_in hf c_v18
                  refine lv_tableOut (tgt := 142) hx hb dX6_beast_14 (by have n_c_v3 := lv_neT (a := 0) c_v3 (by decide); have n_c_v6 := lv_neT (a := 1) c_v6 (by decide); have n_c_v9 := lv_neT (a := 2) c_v9 (by decide); have n_c_v12 := lv_neT (a := 3) c_v12 (by decide); have n_c_v14 := lv_neT (a := 4) c_v14 (by decide); have n_c_v16 := lv_neT (a := 5) c_v16 (by decide); have n_c_v18 := lv_neT (a := 6) c_v18 (by decide); omega) (by decide) ?_
                  refine lv_iconst (v := (-1)) hx hb dX6_beast_142 (by decide) ?_
                  have hf := Option.some.inj hf
                  subst hf
                  exact z_iretX hx hb hr hlocks hh dX6_beast_143
  · have hf := z_ip hf c_v2
    refine lv_iconst (v := (-1)) hx hb dX6_beast_11 (by decide) ?_
    have hf := Option.some.inj hf
    subst hf
    exact z_iretX hx hb hr hlocks hh dX6_beast_12
/-! ===== X6_robber ===== -/
theorem hdX6_robber : yX6_robber.cls = RX6 ∧ yX6_robber.cls ≠ "java/lang/invoke/MethodHandle" ∧ yX6_robber.cls ≠ "java/lang/invoke/VarHandle" ∧ (parseMethodDescriptor yX6_robber.desc).map (fun d => d.parameters.length) = some 1 := by decide +kernel
def fX6_robber (N : Nat) (σ : zS) (x1 : Int32) : Option (Int32) :=
  (fX0_hasRobber N σ 42 x1).bind fun q1 =>
  if q1 = 0 then
    some (-1)
  else
    if zin x1 (zlen 3) then
    zlet (σ.2 3 x1.toNatClampNeg) fun v4 =>
    some v4
    else none
set_option maxRecDepth 100000 in
set_option maxHeartbeats 4000000 in
theorem zcX6_robber (l : Launch) (g : zG) (A : Nat → Prop) (σ τ : zS) (N : Nat) (x1 : Int32)  {res : Int32} (hf : fX6_robber N σ x1 = some res) : Met l yX6_robber wsX6_robber (zR 2) (zPc g A σ τ [.ref (g.2.2 54), .int x1]) (zQi g A τ (res, σ)) 0 0 A := by
  refine z_met (cc := cX6_robber) (ret := (some .int)) (own := RX6) (by decide) rfl rfl _ (Nat.le_of_ble_eq_true rfl) ?_
  intro p e s m below meth c C E ls hl hh
  have hl : lv_has ls 2 [(0, .ref (g.2.2 54)), (1, .int x1)] := hl
  obtain ⟨hx, hb, hr, hml, hown, hts, hlocks⟩ := id C
  unfold fX6_robber at hf
  refine lv_aload_n hx hb dX6_robber_0 rfl (lv_at hl 0 rfl) ?_
  refine z_get (v := .ref (g.2.2 42)) hx hb hts (fun w h => List.mem_cons_of_mem _ (List.mem_append_left _ (List.mem_append_right _ (h)))) hown E hh (by decide) (zC_obj (q := 54) rfl) rfl 0 (by decide) (hts (.fieldLink RX6 10 "TownBand" "band" "LTownBand$Band;") (List.mem_cons_of_mem _ (List.mem_append_left _ (List.mem_append_left _ (List.mem_of_getElem? (i := 0) rfl))))) rfl dX6_robber_1 ?_
  refine lv_iload_n hx hb dX6_robber_4 rfl (lv_at hl 1 rfl) ?_
  obtain ⟨q1, h_q1, hf⟩ := z_bd hf
  refine z_xi (va_runVN (As := [.int x1]) (rest := []) ⟨hx, hb, hml, hown, hts⟩ (zcX0_hasRobber l g A σ τ N 42 x1 (by decide) (by decide) h_q1) ⟨va_cnB 1 hts gX6_robber_X0_hasRobber_n139 rfl rfl rfl (zE_m E 19 rfl) (hts (.initialized RX0) (List.mem_cons_of_mem _ (List.mem_append_left _ (List.mem_append_left _ (List.mem_of_getElem? (i := 2) rfl))))) hdX0_hasRobber.2 ⟨by decide, by decide⟩, (hts (.instanceMethod yX0_hasRobber) (List.mem_cons_of_mem _ (List.mem_append_left _ (List.mem_append_left _ (List.mem_of_getElem? (i := 1) rfl))))), (hts (.selects RX0 yX0_hasRobber yX0_hasRobber) (List.mem_cons_of_mem _ (List.mem_append_left _ (List.mem_append_left _ (List.mem_of_getElem? (i := 3) rfl)))))⟩ (z_preV E hh (by decide) (zC_band (by decide) (by decide)) rfl) rfl rfl hl.1 rfl (lv_room (Nat.le_of_ble_eq_true rfl)) dX6_robber_5 ⟨Nat.le_refl _, Nat.le_refl _⟩) hh (fun H locs hh => ?_)
  refine lv_if_eq (tgt := 23) hx hb dX6_robber_8 (by decide) (fun c_v2 => ?_) (fun c_v2 => ?_)
  · have hf := z_ip hf c_v2
    refine lv_iconst (v := (-1)) hx hb dX6_robber_23 (by decide) ?_
    have hf := Option.some.inj hf
    subst hf
    exact z_iretX hx hb hr hlocks hh dX6_robber_24
  · have hf := z_in hf c_v2
    refine lv_aload_n hx hb dX6_robber_11 rfl (lv_at hl 0 rfl) ?_
    refine z_get (v := .ref (g.2.2 42)) hx hb hts (fun w h => List.mem_cons_of_mem _ (List.mem_append_left _ (List.mem_append_right _ (h)))) hown E hh (by decide) (zC_obj (q := 54) rfl) rfl 0 (by decide) (hts (.fieldLink RX6 10 "TownBand" "band" "LTownBand$Band;") (List.mem_cons_of_mem _ (List.mem_append_left _ (List.mem_append_left _ (List.mem_of_getElem? (i := 0) rfl))))) rfl dX6_robber_12 ?_
    refine z_getN (v := .ref (g.2.2 3)) hx hb hts (fun w h => List.mem_cons_of_mem _ (List.mem_append_right _ (h))) hown E hh (by decide) (zC_band (by decide) (by decide)) rfl 3 (by decide) (zE_f E 9 rfl) rfl dX6_robber_15 ?_
    refine lv_iload_n hx hb dX6_robber_18 rfl (lv_at hl 1 rfl) ?_
    obtain ⟨h_v3, hf⟩ := z_if hf
    obtain ⟨v4, e_v4, hf⟩ := z_lt hf
    refine z_iald hx hb E hh (by decide) h_v3 e_v4 dX6_robber_19 ?_
    refine lv_goto (tgt := 24) hx hb dX6_robber_20 (by decide) ?_
    have hf := Option.some.inj hf
    subst hf
    exact z_iretX hx hb hr hlocks hh dX6_robber_24
/-! ===== X6_at ===== -/
theorem hdX6_at : yX6_at.cls = RX6 ∧ yX6_at.cls ≠ "java/lang/invoke/MethodHandle" ∧ yX6_at.cls ≠ "java/lang/invoke/VarHandle" ∧ (parseMethodDescriptor yX6_at.desc).map (fun d => d.parameters.length) = some 2 := by decide +kernel
def fX6_at (N : Nat) (σ : zS) (x1 : Int32) (x2 : Int32) : Option (Int32) :=
  if x1 = 0 then
    (fX6_within N x2 (nI 0) ((σ.1 42 8) - (nI 1))).bind fun q7 =>
    if q7 = 0 then
      some (-1)
    else
      if zin x2 (zlen 4) then
      zlet (σ.2 4 x2.toNatClampNeg) fun v10 =>
      some v10
      else none
  else
    if x1 = (nI 1) then
      (fX6_within N x2 (nI 0) ((σ.1 42 6) - (nI 1))).bind fun q3 =>
      if q3 = 0 then
        some (-1)
      else
        if zin x2 (zlen 5) then
        zlet (σ.2 5 x2.toNatClampNeg) fun v6 =>
        some v6
        else none
    else
      some (-1)
set_option maxRecDepth 100000 in
set_option maxHeartbeats 4000000 in
theorem zcX6_at (l : Launch) (g : zG) (A : Nat → Prop) (σ τ : zS) (N : Nat) (x1 : Int32) (x2 : Int32)  {res : Int32} (hf : fX6_at N σ x1 x2 = some res) : Met l yX6_at wsX6_at (zR 1) (zPc g A σ τ [.ref (g.2.2 54), .int x1, .int x2]) (zQi g A τ (res, σ)) 0 0 A := by
  refine z_met (cc := cX6_at) (ret := (some .int)) (own := RX6) (by decide) rfl rfl _ (Nat.le_of_ble_eq_true rfl) ?_
  intro p e s m below meth c C E ls hl hh
  have hl : lv_has ls 3 [(0, .ref (g.2.2 54)), (1, .int x1), (2, .int x2)] := hl
  obtain ⟨hx, hb, hr, hml, hown, hts, hlocks⟩ := id C
  unfold fX6_at at hf
  refine lv_iload_n hx hb dX6_at_0 rfl (lv_at hl 1 rfl) ?_
  refine lv_if_ne (tgt := 35) hx hb dX6_at_1 (by decide) (fun c_v1 => ?_) (fun c_v1 => ?_)
  · have hf := z_in hf c_v1
    refine lv_iload_n hx hb dX6_at_35 rfl (lv_at hl 1 rfl) ?_
    refine lv_iconst (v := (nI 1)) hx hb dX6_at_36 (by decide) ?_
    refine lv_icmp_ne (tgt := 71) hx hb dX6_at_37 (by decide) (fun c_v2 => ?_) (fun c_v2 => ?_)
    · have hf := z_in hf c_v2
      refine lv_iconst (v := (-1)) hx hb dX6_at_71 (by decide) ?_
      have hf := Option.some.inj hf
      subst hf
      exact z_iretX hx hb hr hlocks hh dX6_at_72
    · have hf := z_ip hf c_v2
      refine lv_iload_n hx hb dX6_at_40 rfl (lv_at hl 2 rfl) ?_
      refine lv_iconst (v := (nI 0)) hx hb dX6_at_41 (by decide) ?_
      refine lv_aload_n hx hb dX6_at_42 rfl (lv_at hl 0 rfl) ?_
      refine z_get (v := .ref (g.2.2 42)) hx hb hts (fun w h => List.mem_cons_of_mem _ (List.mem_append_left _ (List.mem_append_right _ (h)))) hown E hh (by decide) (zC_obj (q := 54) rfl) rfl 0 (by decide) (hts (.fieldLink RX6 10 "TownBand" "band" "LTownBand$Band;") (List.mem_cons_of_mem _ (List.mem_append_left _ (List.mem_append_left _ (List.mem_of_getElem? (i := 0) rfl))))) rfl dX6_at_43 ?_
      refine z_getN (v := .int (σ.1 42 6)) hx hb hts (fun w h => List.mem_cons_of_mem _ (List.mem_append_right _ (h))) hown E hh (by decide) (zC_band (by decide) (by decide)) rfl 6 (by decide) (zE_f E 17 rfl) rfl dX6_at_46 ?_
      refine lv_iconst (v := (nI 1)) hx hb dX6_at_49 (by decide) ?_
      refine lv_isub hx hb dX6_at_50 ?_
      obtain ⟨q3, h_q3, hf⟩ := z_bd hf
      refine z_xi (va_runS (As := [.int x2, .int (nI 0), .int ((σ.1 42 6) - (nI 1))]) (rest := []) ⟨hx, hb, hml, hown, hts⟩ (zcX6_within l g A σ τ N x2 (nI 0) ((σ.1 42 6) - (nI 1)) h_q3) (va_cwS 3 hts gX6_at_X6_within rfl rfl rfl hdX6_within.2 ⟨by decide, by decide⟩) (z_preS E hh) rfl rfl hl.1 rfl (lv_room (Nat.le_of_ble_eq_true rfl)) dX6_at_51 ⟨Nat.le_refl _, Nat.le_refl _⟩) hh (fun H locs hh => ?_)
      refine lv_if_eq (tgt := 69) hx hb dX6_at_54 (by decide) (fun c_v4 => ?_) (fun c_v4 => ?_)
      · have hf := z_ip hf c_v4
        refine lv_iconst (v := (-1)) hx hb dX6_at_69 (by decide) ?_
        have hf := Option.some.inj hf
        subst hf
        exact z_iretX hx hb hr hlocks hh dX6_at_70
      · have hf := z_in hf c_v4
        refine lv_aload_n hx hb dX6_at_57 rfl (lv_at hl 0 rfl) ?_
        refine z_get (v := .ref (g.2.2 42)) hx hb hts (fun w h => List.mem_cons_of_mem _ (List.mem_append_left _ (List.mem_append_right _ (h)))) hown E hh (by decide) (zC_obj (q := 54) rfl) rfl 0 (by decide) (hts (.fieldLink RX6 10 "TownBand" "band" "LTownBand$Band;") (List.mem_cons_of_mem _ (List.mem_append_left _ (List.mem_append_left _ (List.mem_of_getElem? (i := 0) rfl))))) rfl dX6_at_58 ?_
        refine z_getN (v := .ref (g.2.2 5)) hx hb hts (fun w h => List.mem_cons_of_mem _ (List.mem_append_right _ (h))) hown E hh (by decide) (zC_band (by decide) (by decide)) rfl 5 (by decide) (zE_f E 13 rfl) rfl dX6_at_61 ?_
        refine lv_iload_n hx hb dX6_at_64 rfl (lv_at hl 2 rfl) ?_
        obtain ⟨h_v5, hf⟩ := z_if hf
        obtain ⟨v6, e_v6, hf⟩ := z_lt hf
        refine z_iald hx hb E hh (by decide) h_v5 e_v6 dX6_at_65 ?_
        refine lv_goto (tgt := 70) hx hb dX6_at_66 (by decide) ?_
        have hf := Option.some.inj hf
        subst hf
        exact z_iretX hx hb hr hlocks hh dX6_at_70
  · have hf := z_ip hf c_v1
    refine lv_iload_n hx hb dX6_at_4 rfl (lv_at hl 2 rfl) ?_
    refine lv_iconst (v := (nI 0)) hx hb dX6_at_5 (by decide) ?_
    refine lv_aload_n hx hb dX6_at_6 rfl (lv_at hl 0 rfl) ?_
    refine z_get (v := .ref (g.2.2 42)) hx hb hts (fun w h => List.mem_cons_of_mem _ (List.mem_append_left _ (List.mem_append_right _ (h)))) hown E hh (by decide) (zC_obj (q := 54) rfl) rfl 0 (by decide) (hts (.fieldLink RX6 10 "TownBand" "band" "LTownBand$Band;") (List.mem_cons_of_mem _ (List.mem_append_left _ (List.mem_append_left _ (List.mem_of_getElem? (i := 0) rfl))))) rfl dX6_at_7 ?_
    refine z_getN (v := .int (σ.1 42 8)) hx hb hts (fun w h => List.mem_cons_of_mem _ (List.mem_append_right _ (h))) hown E hh (by decide) (zC_band (by decide) (by decide)) rfl 8 (by decide) (zE_f E 21 rfl) rfl dX6_at_10 ?_
    refine lv_iconst (v := (nI 1)) hx hb dX6_at_13 (by decide) ?_
    refine lv_isub hx hb dX6_at_14 ?_
    obtain ⟨q7, h_q7, hf⟩ := z_bd hf
    refine z_xi (va_runS (As := [.int x2, .int (nI 0), .int ((σ.1 42 8) - (nI 1))]) (rest := []) ⟨hx, hb, hml, hown, hts⟩ (zcX6_within l g A σ τ N x2 (nI 0) ((σ.1 42 8) - (nI 1)) h_q7) (va_cwS 3 hts gX6_at_X6_within rfl rfl rfl hdX6_within.2 ⟨by decide, by decide⟩) (z_preS E hh) rfl rfl hl.1 rfl (lv_room (Nat.le_of_ble_eq_true rfl)) dX6_at_15 ⟨Nat.le_refl _, Nat.le_refl _⟩) hh (fun H locs hh => ?_)
    refine lv_if_eq (tgt := 33) hx hb dX6_at_18 (by decide) (fun c_v8 => ?_) (fun c_v8 => ?_)
    · have hf := z_ip hf c_v8
      refine lv_iconst (v := (-1)) hx hb dX6_at_33 (by decide) ?_
      have hf := Option.some.inj hf
      subst hf
      exact z_iretX hx hb hr hlocks hh dX6_at_34
    · have hf := z_in hf c_v8
      refine lv_aload_n hx hb dX6_at_21 rfl (lv_at hl 0 rfl) ?_
      refine z_get (v := .ref (g.2.2 42)) hx hb hts (fun w h => List.mem_cons_of_mem _ (List.mem_append_left _ (List.mem_append_right _ (h)))) hown E hh (by decide) (zC_obj (q := 54) rfl) rfl 0 (by decide) (hts (.fieldLink RX6 10 "TownBand" "band" "LTownBand$Band;") (List.mem_cons_of_mem _ (List.mem_append_left _ (List.mem_append_left _ (List.mem_of_getElem? (i := 0) rfl))))) rfl dX6_at_22 ?_
      refine z_getN (v := .ref (g.2.2 4)) hx hb hts (fun w h => List.mem_cons_of_mem _ (List.mem_append_right _ (h))) hown E hh (by decide) (zC_band (by decide) (by decide)) rfl 4 (by decide) (zE_f E 10 rfl) rfl dX6_at_25 ?_
      refine lv_iload_n hx hb dX6_at_28 rfl (lv_at hl 2 rfl) ?_
      obtain ⟨h_v9, hf⟩ := z_if hf
      obtain ⟨v10, e_v10, hf⟩ := z_lt hf
      refine z_iald hx hb E hh (by decide) h_v9 e_v10 dX6_at_29 ?_
      refine lv_goto (tgt := 34) hx hb dX6_at_30 (by decide) ?_
      have hf := Option.some.inj hf
      subst hf
      exact z_iretX hx hb hr hlocks hh dX6_at_34
/-! ===== X6_change ===== -/
theorem hdX6_change : yX6_change.cls = RX6 ∧ yX6_change.cls ≠ "java/lang/invoke/MethodHandle" ∧ yX6_change.cls ≠ "java/lang/invoke/VarHandle" ∧ (parseMethodDescriptor yX6_change.desc).map (fun d => d.parameters.length) = some 3 := by decide +kernel
def fX6_change (N : Nat) (σ : zS) (b1 : Nat) (x2 : Int32) (x3 : Int32) : Option (Int32 × zS) :=
  if zin x2 (zlen b1) then
  zlet (σ.2 b1 x2.toNatClampNeg) fun v2 =>
  if zin x2 (zlen b1) then
  zlet (zpa σ b1 (upd (σ.2 b1) x2.toNatClampNeg x3)) fun σ4 =>
  (fX0_stands N σ4 42).bind fun q5 =>
  if q5 = 0 then
    if zin x2 (zlen b1) then
    zlet (zpa σ4 b1 (upd (σ4.2 b1) x2.toNatClampNeg v2)) fun σ8 =>
    some ((-2), σ8)
    else none
  else
    some (v2, σ4)
  else none
  else none
set_option maxRecDepth 100000 in
set_option maxHeartbeats 4000000 in
theorem zcX6_change (l : Launch) (g : zG) (A : Nat → Prop) (σ τ : zS) (N : Nat) (b1 : Nat) (x2 : Int32) (x3 : Int32) (h_b1 : b1 < 39) {res : Int32 × zS} (hf : fX6_change N σ b1 x2 x3 = some res) : Met l yX6_change wsX6_change (zR 4) (zPc g A σ τ [.ref (g.2.2 54), .ref (g.2.2 b1), .int x2, .int x3]) (zQi g A τ res) 0 0 A := by
  refine z_met (cc := cX6_change) (ret := (some .int)) (own := RX6) (by decide) rfl rfl _ (Nat.le_of_ble_eq_true rfl) ?_
  intro p e s m below meth c C E ls hl hh
  have hl : lv_has ls 5 [(0, .ref (g.2.2 54)), (1, .ref (g.2.2 b1)), (2, .int x2), (3, .int x3)] := hl
  obtain ⟨hx, hb, hr, hml, hown, hts, hlocks⟩ := id C
  unfold fX6_change at hf
  refine lv_aload_n hx hb dX6_change_0 rfl (lv_at hl 1 rfl) ?_
  refine lv_iload_n hx hb dX6_change_1 rfl (lv_at hl 2 rfl) ?_
  obtain ⟨h_v1, hf⟩ := z_if hf
  obtain ⟨v2, e_v2, hf⟩ := z_lt hf
  refine z_iald hx hb E hh h_b1 h_v1 e_v2 dX6_change_2 ?_
  refine lv_istore (lv' := [(4, .int v2), (0, .ref (g.2.2 54)), (1, .ref (g.2.2 b1)), (2, .int x2), (3, .int x3)]) hx hb dX6_change_3 hl (by decide) rfl (fun ls hl => ?_)
  refine lv_aload_n hx hb dX6_change_5 rfl (lv_at hl 2 rfl) ?_
  refine lv_iload_n hx hb dX6_change_6 rfl (lv_at hl 3 rfl) ?_
  refine lv_iload_n hx hb dX6_change_7 rfl (lv_at hl 4 rfl) ?_
  obtain ⟨h_v3, hf⟩ := z_if hf
  obtain ⟨σ4, e_σ4, hf⟩ := z_lt hf
  refine z_iast hx hb E hh h_b1 h_v3 e_σ4 dX6_change_8 (fun H locs hh => ?_)
  refine lv_aload_n hx hb dX6_change_9 rfl (lv_at hl 1 rfl) ?_
  refine z_get (v := .ref (g.2.2 42)) hx hb hts (fun w h => List.mem_cons_of_mem _ (List.mem_append_left _ (List.mem_append_right _ (h)))) hown E hh (by decide) (zC_obj (q := 54) rfl) rfl 0 (by decide) (hts (.fieldLink RX6 10 "TownBand" "band" "LTownBand$Band;") (List.mem_cons_of_mem _ (List.mem_append_left _ (List.mem_append_left _ (List.mem_of_getElem? (i := 0) rfl))))) rfl dX6_change_10 ?_
  obtain ⟨q5, h_q5, hf⟩ := z_bd hf
  refine z_xi (va_runVN (As := []) (rest := []) ⟨hx, hb, hml, hown, hts⟩ (zcX0_stands l g A σ4 τ N 42 (by decide) (by decide) h_q5) ⟨va_cnB 0 hts gX6_change_X0_stands_n148 rfl rfl rfl (zE_m E 20 rfl) (hts (.initialized RX0) (List.mem_cons_of_mem _ (List.mem_append_left _ (List.mem_append_left _ (List.mem_of_getElem? (i := 2) rfl))))) hdX0_stands.2 ⟨by decide, by decide⟩, (hts (.instanceMethod yX0_stands) (List.mem_cons_of_mem _ (List.mem_append_left _ (List.mem_append_left _ (List.mem_of_getElem? (i := 1) rfl))))), (hts (.selects RX0 yX0_stands yX0_stands) (List.mem_cons_of_mem _ (List.mem_append_left _ (List.mem_append_left _ (List.mem_of_getElem? (i := 3) rfl)))))⟩ (z_preV E hh (by decide) (zC_band (by decide) (by decide)) rfl) rfl rfl hl.1 rfl (lv_room (Nat.le_of_ble_eq_true rfl)) dX6_change_13 ⟨Nat.le_refl _, Nat.le_refl _⟩) hh (fun H locs hh => ?_)
  refine lv_if_ne (tgt := 27) hx hb dX6_change_16 (by decide) (fun c_v6 => ?_) (fun c_v6 => ?_)
  · have hf := z_in hf c_v6
    refine lv_iload hx hb dX6_change_27 (lv_at hl 0 rfl) ?_
    have hf := Option.some.inj hf
    subst hf
    exact z_iretX hx hb hr hlocks hh dX6_change_29
  · have hf := z_ip hf c_v6
    refine lv_aload_n hx hb dX6_change_19 rfl (lv_at hl 2 rfl) ?_
    refine lv_iload_n hx hb dX6_change_20 rfl (lv_at hl 3 rfl) ?_
    refine lv_iload hx hb dX6_change_21 (lv_at hl 0 rfl) ?_
    obtain ⟨h_v7, hf⟩ := z_if hf
    obtain ⟨σ8, e_σ8, hf⟩ := z_lt hf
    refine z_iast hx hb E hh h_b1 h_v7 e_σ8 dX6_change_23 (fun H locs hh => ?_)
    refine lv_bipush (v := (-2)) hx hb dX6_change_24 (by decide) ?_
    have hf := Option.some.inj hf
    subst hf
    exact z_iretX hx hb hr hlocks hh dX6_change_26
/-! ===== X6_alter ===== -/
theorem hdX6_alter : yX6_alter.cls = RX6 ∧ yX6_alter.cls ≠ "java/lang/invoke/MethodHandle" ∧ yX6_alter.cls ≠ "java/lang/invoke/VarHandle" ∧ (parseMethodDescriptor yX6_alter.desc).map (fun d => d.parameters.length) = some 3 := by decide +kernel
def fX6_alter (N : Nat) (σ : zS) (x1 : Int32) (x2 : Int32) (x3 : Int32) : Option (Int32 × zS) :=
  (fX0_hasBeast N σ 42 x1).bind fun q1 =>
  if q1 = 0 then
    some ((-1), σ)
  else
    if x2 = (nI 0) then
      (fX6_within N x3 (nI 0) (nI 3)).bind fun q4 =>
      if q4 = 0 then
        some ((-1), σ)
      else
        (fX6_change N σ 0 x1 x3).bind fun q6 =>
        some (q6.1, q6.2)
    else
      if x2 = (nI 1) then
        (fX6_within N x3 (nI 1) (nI 9)).bind fun q8 =>
        if q8 = 0 then
          some ((-1), σ)
        else
          (fX6_change N σ 1 x1 x3).bind fun q10 =>
          some (q10.1, q10.2)
      else
        if x2 = (nI 2) then
          (fX6_within N x3 (nI 0) (nI 9)).bind fun q12 =>
          if q12 = 0 then
            some ((-1), σ)
          else
            (fX6_change N σ 2 x1 x3).bind fun q14 =>
            some (q14.1, q14.2)
        else
          some ((-1), σ)
set_option maxRecDepth 100000 in
set_option maxHeartbeats 4000000 in
theorem zcX6_alter (l : Launch) (g : zG) (A : Nat → Prop) (σ τ : zS) (N : Nat) (x1 : Int32) (x2 : Int32) (x3 : Int32)  {res : Int32 × zS} (hf : fX6_alter N σ x1 x2 x3 = some res) : Met l yX6_alter wsX6_alter (zR 5) (zPc g A σ τ [.ref (g.2.2 54), .int x1, .int x2, .int x3]) (zQi g A τ res) 0 0 A := by
  refine z_met (cc := cX6_alter) (ret := (some .int)) (own := RX6) (by decide) rfl rfl _ (Nat.le_of_ble_eq_true rfl) ?_
  intro p e s m below meth c C E ls hl hh
  have hl : lv_has ls 4 [(0, .ref (g.2.2 54)), (1, .int x1), (2, .int x2), (3, .int x3)] := hl
  obtain ⟨hx, hb, hr, hml, hown, hts, hlocks⟩ := id C
  unfold fX6_alter at hf
  refine lv_aload_n hx hb dX6_alter_0 rfl (lv_at hl 0 rfl) ?_
  refine z_get (v := .ref (g.2.2 42)) hx hb hts (fun w h => List.mem_cons_of_mem _ (List.mem_append_left _ (List.mem_append_right _ (h)))) hown E hh (by decide) (zC_obj (q := 54) rfl) rfl 0 (by decide) (hts (.fieldLink RX6 10 "TownBand" "band" "LTownBand$Band;") (List.mem_cons_of_mem _ (List.mem_append_left _ (List.mem_append_left _ (List.mem_append_left _ (List.mem_of_getElem? (i := 0) rfl)))))) rfl dX6_alter_1 ?_
  refine lv_iload_n hx hb dX6_alter_4 rfl (lv_at hl 1 rfl) ?_
  obtain ⟨q1, h_q1, hf⟩ := z_bd hf
  refine z_xi (va_runVN (As := [.int x1]) (rest := []) ⟨hx, hb, hml, hown, hts⟩ (zcX0_hasBeast l g A σ τ N 42 x1 (by decide) (by decide) h_q1) ⟨va_cnB 1 hts gX6_alter_X0_hasBeast_n109 rfl rfl rfl (zE_m E 16 rfl) (hts (.initialized RX0) (List.mem_cons_of_mem _ (List.mem_append_left _ (List.mem_append_left _ (List.mem_append_left _ (List.mem_of_getElem? (i := 2) rfl)))))) hdX0_hasBeast.2 ⟨by decide, by decide⟩, (hts (.instanceMethod yX0_hasBeast) (List.mem_cons_of_mem _ (List.mem_append_left _ (List.mem_append_left _ (List.mem_append_left _ (List.mem_of_getElem? (i := 1) rfl)))))), (hts (.selects RX0 yX0_hasBeast yX0_hasBeast) (List.mem_cons_of_mem _ (List.mem_append_left _ (List.mem_append_left _ (List.mem_append_left _ (List.mem_of_getElem? (i := 3) rfl))))))⟩ (z_preV E hh (by decide) (zC_band (by decide) (by decide)) rfl) rfl rfl hl.1 rfl (lv_room (Nat.le_of_ble_eq_true rfl)) dX6_alter_5 ⟨Nat.le_refl _, Nat.le_refl _⟩) hh (fun H locs hh => ?_)
  refine lv_if_ne (tgt := 13) hx hb dX6_alter_8 (by decide) (fun c_v2 => ?_) (fun c_v2 => ?_)
  · have hf := z_in hf c_v2
    refine lv_iload_n hx hb dX6_alter_13 rfl (lv_at hl 2 rfl) ?_
    by_cases c_v3 : x2 = (nI 0)
    · have hf := z_ip hf c_v3
      refine z_tbl (tgt := 40) (off := 26) hx hb dX6_alter_14 (nI 0) c_v3 (by decide) (by decide) (by decide) (by decide) ?_
      refine lv_iload_n hx hb dX6_alter_40 rfl (lv_at hl 3 rfl) ?_
      refine lv_iconst (v := (nI 0)) hx hb dX6_alter_41 (by decide) ?_
      refine lv_iconst (v := (nI 3)) hx hb dX6_alter_42 (by decide) ?_
      obtain ⟨q4, h_q4, hf⟩ := z_bd hf
      refine z_xi (va_runS (As := [.int x3, .int (nI 0), .int (nI 3)]) (rest := []) ⟨hx, hb, hml, hown, hts⟩ (zcX6_within l g A σ τ N x3 (nI 0) (nI 3) h_q4) (va_cwS 3 hts gX6_alter_X6_within rfl rfl rfl hdX6_within.2 ⟨by decide, by decide⟩) (z_preS E hh) rfl rfl hl.1 rfl (lv_room (Nat.le_of_ble_eq_true rfl)) dX6_alter_43 ⟨Nat.le_refl _, Nat.le_refl _⟩) hh (fun H locs hh => ?_)
      refine lv_if_eq (tgt := 65) hx hb dX6_alter_46 (by decide) (fun c_v5 => ?_) (fun c_v5 => ?_)
      · have hf := z_ip hf c_v5
        refine lv_iconst (v := (-1)) hx hb dX6_alter_65 (by decide) ?_
        have hf := Option.some.inj hf
        subst hf
        exact z_iretX hx hb hr hlocks hh dX6_alter_66
      · have hf := z_in hf c_v5
        refine lv_aload_n hx hb dX6_alter_49 rfl (lv_at hl 0 rfl) ?_
        refine lv_aload_n hx hb dX6_alter_50 rfl (lv_at hl 0 rfl) ?_
        refine z_get (v := .ref (g.2.2 42)) hx hb hts (fun w h => List.mem_cons_of_mem _ (List.mem_append_left _ (List.mem_append_right _ (h)))) hown E hh (by decide) (zC_obj (q := 54) rfl) rfl 0 (by decide) (hts (.fieldLink RX6 10 "TownBand" "band" "LTownBand$Band;") (List.mem_cons_of_mem _ (List.mem_append_left _ (List.mem_append_left _ (List.mem_append_left _ (List.mem_of_getElem? (i := 0) rfl)))))) rfl dX6_alter_51 ?_
        refine z_getN (v := .ref (g.2.2 0)) hx hb hts (fun w h => List.mem_cons_of_mem _ (List.mem_append_right _ (h))) hown E hh (by decide) (zC_band (by decide) (by decide)) rfl 0 (by decide) (zE_f E 1 rfl) rfl dX6_alter_54 ?_
        refine lv_iload_n hx hb dX6_alter_57 rfl (lv_at hl 1 rfl) ?_
        refine lv_iload_n hx hb dX6_alter_58 rfl (lv_at hl 3 rfl) ?_
        obtain ⟨q6, h_q6, hf⟩ := z_bd hf
        refine z_xi (va_runV (As := [.ref (g.2.2 0), .int x1, .int x3]) (rest := []) ⟨hx, hb, hml, hown, hts⟩ (zcX6_change l g A σ τ N 0 x1 x3 (by decide) h_q6) (cwV 3 hts gX6_alter_X6_change rfl rfl rfl hdX6_change ⟨by decide, by decide⟩) (z_preV E hh (by decide) (zC_obj (q := 54) rfl) rfl) rfl rfl hl.1 rfl (lv_room (Nat.le_of_ble_eq_true rfl)) dX6_alter_59 ⟨Nat.le_refl _, Nat.le_refl _⟩) hh (fun H locs hh => ?_)
        refine lv_goto (tgt := 66) hx hb dX6_alter_62 (by decide) ?_
        have hf := Option.some.inj hf
        subst hf
        exact z_iretX hx hb hr hlocks hh dX6_alter_66
    · have hf := z_in hf c_v3
      by_cases c_v7 : x2 = (nI 1)
      · have hf := z_ip hf c_v7
        refine z_tbl (tgt := 67) (off := 53) hx hb dX6_alter_14 (nI 1) c_v7 (by decide) (by decide) (by decide) (by decide) ?_
        refine lv_iload_n hx hb dX6_alter_67 rfl (lv_at hl 3 rfl) ?_
        refine lv_iconst (v := (nI 1)) hx hb dX6_alter_68 (by decide) ?_
        refine lv_bipush (v := (nI 9)) hx hb dX6_alter_69 (by decide) ?_
        obtain ⟨q8, h_q8, hf⟩ := z_bd hf
        refine z_xi (va_runS (As := [.int x3, .int (nI 1), .int (nI 9)]) (rest := []) ⟨hx, hb, hml, hown, hts⟩ (zcX6_within l g A σ τ N x3 (nI 1) (nI 9) h_q8) (va_cwS 3 hts gX6_alter_X6_within rfl rfl rfl hdX6_within.2 ⟨by decide, by decide⟩) (z_preS E hh) rfl rfl hl.1 rfl (lv_room (Nat.le_of_ble_eq_true rfl)) dX6_alter_71 ⟨Nat.le_refl _, Nat.le_refl _⟩) hh (fun H locs hh => ?_)
        refine lv_if_eq (tgt := 93) hx hb dX6_alter_74 (by decide) (fun c_v9 => ?_) (fun c_v9 => ?_)
        · have hf := z_ip hf c_v9
          refine lv_iconst (v := (-1)) hx hb dX6_alter_93 (by decide) ?_
          have hf := Option.some.inj hf
          subst hf
          exact z_iretX hx hb hr hlocks hh dX6_alter_94
        · have hf := z_in hf c_v9
          refine lv_aload_n hx hb dX6_alter_77 rfl (lv_at hl 0 rfl) ?_
          refine lv_aload_n hx hb dX6_alter_78 rfl (lv_at hl 0 rfl) ?_
          refine z_get (v := .ref (g.2.2 42)) hx hb hts (fun w h => List.mem_cons_of_mem _ (List.mem_append_left _ (List.mem_append_right _ (h)))) hown E hh (by decide) (zC_obj (q := 54) rfl) rfl 0 (by decide) (hts (.fieldLink RX6 10 "TownBand" "band" "LTownBand$Band;") (List.mem_cons_of_mem _ (List.mem_append_left _ (List.mem_append_left _ (List.mem_append_left _ (List.mem_of_getElem? (i := 0) rfl)))))) rfl dX6_alter_79 ?_
          refine z_getN (v := .ref (g.2.2 1)) hx hb hts (fun w h => List.mem_cons_of_mem _ (List.mem_append_right _ (h))) hown E hh (by decide) (zC_band (by decide) (by decide)) rfl 1 (by decide) (zE_f E 4 rfl) rfl dX6_alter_82 ?_
          refine lv_iload_n hx hb dX6_alter_85 rfl (lv_at hl 1 rfl) ?_
          refine lv_iload_n hx hb dX6_alter_86 rfl (lv_at hl 3 rfl) ?_
          obtain ⟨q10, h_q10, hf⟩ := z_bd hf
          refine z_xi (va_runV (As := [.ref (g.2.2 1), .int x1, .int x3]) (rest := []) ⟨hx, hb, hml, hown, hts⟩ (zcX6_change l g A σ τ N 1 x1 x3 (by decide) h_q10) (cwV 3 hts gX6_alter_X6_change rfl rfl rfl hdX6_change ⟨by decide, by decide⟩) (z_preV E hh (by decide) (zC_obj (q := 54) rfl) rfl) rfl rfl hl.1 rfl (lv_room (Nat.le_of_ble_eq_true rfl)) dX6_alter_87 ⟨Nat.le_refl _, Nat.le_refl _⟩) hh (fun H locs hh => ?_)
          refine lv_goto (tgt := 94) hx hb dX6_alter_90 (by decide) ?_
          have hf := Option.some.inj hf
          subst hf
          exact z_iretX hx hb hr hlocks hh dX6_alter_94
      · have hf := z_in hf c_v7
        by_cases c_v11 : x2 = (nI 2)
        · have hf := z_ip hf c_v11
          refine z_tbl (tgt := 95) (off := 81) hx hb dX6_alter_14 (nI 2) c_v11 (by decide) (by decide) (by decide) (by decide) ?_
          refine lv_iload_n hx hb dX6_alter_95 rfl (lv_at hl 3 rfl) ?_
          refine lv_iconst (v := (nI 0)) hx hb dX6_alter_96 (by decide) ?_
          refine lv_bipush (v := (nI 9)) hx hb dX6_alter_97 (by decide) ?_
          obtain ⟨q12, h_q12, hf⟩ := z_bd hf
          refine z_xi (va_runS (As := [.int x3, .int (nI 0), .int (nI 9)]) (rest := []) ⟨hx, hb, hml, hown, hts⟩ (zcX6_within l g A σ τ N x3 (nI 0) (nI 9) h_q12) (va_cwS 3 hts gX6_alter_X6_within rfl rfl rfl hdX6_within.2 ⟨by decide, by decide⟩) (z_preS E hh) rfl rfl hl.1 rfl (lv_room (Nat.le_of_ble_eq_true rfl)) dX6_alter_99 ⟨Nat.le_refl _, Nat.le_refl _⟩) hh (fun H locs hh => ?_)
          refine lv_if_eq (tgt := 121) hx hb dX6_alter_102 (by decide) (fun c_v13 => ?_) (fun c_v13 => ?_)
          · have hf := z_ip hf c_v13
            refine lv_iconst (v := (-1)) hx hb dX6_alter_121 (by decide) ?_
            have hf := Option.some.inj hf
            subst hf
            exact z_iretX hx hb hr hlocks hh dX6_alter_122
          · have hf := z_in hf c_v13
            refine lv_aload_n hx hb dX6_alter_105 rfl (lv_at hl 0 rfl) ?_
            refine lv_aload_n hx hb dX6_alter_106 rfl (lv_at hl 0 rfl) ?_
            refine z_get (v := .ref (g.2.2 42)) hx hb hts (fun w h => List.mem_cons_of_mem _ (List.mem_append_left _ (List.mem_append_right _ (h)))) hown E hh (by decide) (zC_obj (q := 54) rfl) rfl 0 (by decide) (hts (.fieldLink RX6 10 "TownBand" "band" "LTownBand$Band;") (List.mem_cons_of_mem _ (List.mem_append_left _ (List.mem_append_left _ (List.mem_append_left _ (List.mem_of_getElem? (i := 0) rfl)))))) rfl dX6_alter_107 ?_
            refine z_getN (v := .ref (g.2.2 2)) hx hb hts (fun w h => List.mem_cons_of_mem _ (List.mem_append_right _ (h))) hown E hh (by decide) (zC_band (by decide) (by decide)) rfl 2 (by decide) (zE_f E 7 rfl) rfl dX6_alter_110 ?_
            refine lv_iload_n hx hb dX6_alter_113 rfl (lv_at hl 1 rfl) ?_
            refine lv_iload_n hx hb dX6_alter_114 rfl (lv_at hl 3 rfl) ?_
            obtain ⟨q14, h_q14, hf⟩ := z_bd hf
            refine z_xi (va_runV (As := [.ref (g.2.2 2), .int x1, .int x3]) (rest := []) ⟨hx, hb, hml, hown, hts⟩ (zcX6_change l g A σ τ N 2 x1 x3 (by decide) h_q14) (cwV 3 hts gX6_alter_X6_change rfl rfl rfl hdX6_change ⟨by decide, by decide⟩) (z_preV E hh (by decide) (zC_obj (q := 54) rfl) rfl) rfl rfl hl.1 rfl (lv_room (Nat.le_of_ble_eq_true rfl)) dX6_alter_115 ⟨Nat.le_refl _, Nat.le_refl _⟩) hh (fun H locs hh => ?_)
            refine lv_goto (tgt := 122) hx hb dX6_alter_118 (by decide) ?_
            have hf := Option.some.inj hf
            subst hf
            exact z_iretX hx hb hr hlocks hh dX6_alter_122
        · have hf := z_in hf c_v11
          refine lv_tableOut (tgt := 123) hx hb dX6_alter_14 (by have n_c_v3 := lv_neT (a := 0) c_v3 (by decide); have n_c_v7 := lv_neT (a := 1) c_v7 (by decide); have n_c_v11 := lv_neT (a := 2) c_v11 (by decide); omega) (by decide) ?_
          refine lv_iconst (v := (-1)) hx hb dX6_alter_123 (by decide) ?_
          have hf := Option.some.inj hf
          subst hf
          exact z_iretX hx hb hr hlocks hh dX6_alter_124
  · have hf := z_ip hf c_v2
    refine lv_iconst (v := (-1)) hx hb dX6_alter_11 (by decide) ?_
    have hf := Option.some.inj hf
    subst hf
    exact z_iretX hx hb hr hlocks hh dX6_alter_12
/-! ===== X6_steel ===== -/
theorem hdX6_steel : yX6_steel.cls = RX6 ∧ yX6_steel.cls ≠ "java/lang/invoke/MethodHandle" ∧ yX6_steel.cls ≠ "java/lang/invoke/VarHandle" ∧ (parseMethodDescriptor yX6_steel.desc).map (fun d => d.parameters.length) = some 2 := by decide +kernel
def fX6_steel (N : Nat) (σ : zS) (x1 : Int32) (x2 : Int32) : Option (Int32 × zS) :=
  (fX0_hasRobber N σ 42 x1).bind fun q1 =>
  if q1 = 0 then
    some ((-1), σ)
  else
    (fX6_within N x2 (nI 0) (nI 99)).bind fun q3 =>
    if q3 = 0 then
      some ((-1), σ)
    else
      if zin x1 (zlen 3) then
      zlet (σ.2 3 x1.toNatClampNeg) fun v6 =>
      if zin x1 (zlen 3) then
      zlet (zpa σ 3 (upd (σ.2 3) x1.toNatClampNeg x2)) fun σ8 =>
      some (v6, σ8)
      else none
      else none
set_option maxRecDepth 100000 in
set_option maxHeartbeats 4000000 in
theorem zcX6_steel (l : Launch) (g : zG) (A : Nat → Prop) (σ τ : zS) (N : Nat) (x1 : Int32) (x2 : Int32)  {res : Int32 × zS} (hf : fX6_steel N σ x1 x2 = some res) : Met l yX6_steel wsX6_steel (zR 2) (zPc g A σ τ [.ref (g.2.2 54), .int x1, .int x2]) (zQi g A τ res) 0 0 A := by
  refine z_met (cc := cX6_steel) (ret := (some .int)) (own := RX6) (by decide) rfl rfl _ (Nat.le_of_ble_eq_true rfl) ?_
  intro p e s m below meth c C E ls hl hh
  have hl : lv_has ls 4 [(0, .ref (g.2.2 54)), (1, .int x1), (2, .int x2)] := hl
  obtain ⟨hx, hb, hr, hml, hown, hts, hlocks⟩ := id C
  unfold fX6_steel at hf
  refine lv_aload_n hx hb dX6_steel_0 rfl (lv_at hl 0 rfl) ?_
  refine z_get (v := .ref (g.2.2 42)) hx hb hts (fun w h => List.mem_cons_of_mem _ (List.mem_append_left _ (List.mem_append_right _ (h)))) hown E hh (by decide) (zC_obj (q := 54) rfl) rfl 0 (by decide) (hts (.fieldLink RX6 10 "TownBand" "band" "LTownBand$Band;") (List.mem_cons_of_mem _ (List.mem_append_left _ (List.mem_append_left _ (List.mem_of_getElem? (i := 0) rfl))))) rfl dX6_steel_1 ?_
  refine lv_iload_n hx hb dX6_steel_4 rfl (lv_at hl 1 rfl) ?_
  obtain ⟨q1, h_q1, hf⟩ := z_bd hf
  refine z_xi (va_runVN (As := [.int x1]) (rest := []) ⟨hx, hb, hml, hown, hts⟩ (zcX0_hasRobber l g A σ τ N 42 x1 (by decide) (by decide) h_q1) ⟨va_cnB 1 hts gX6_steel_X0_hasRobber_n139 rfl rfl rfl (zE_m E 19 rfl) (hts (.initialized RX0) (List.mem_cons_of_mem _ (List.mem_append_left _ (List.mem_append_left _ (List.mem_of_getElem? (i := 2) rfl))))) hdX0_hasRobber.2 ⟨by decide, by decide⟩, (hts (.instanceMethod yX0_hasRobber) (List.mem_cons_of_mem _ (List.mem_append_left _ (List.mem_append_left _ (List.mem_of_getElem? (i := 1) rfl))))), (hts (.selects RX0 yX0_hasRobber yX0_hasRobber) (List.mem_cons_of_mem _ (List.mem_append_left _ (List.mem_append_left _ (List.mem_of_getElem? (i := 3) rfl)))))⟩ (z_preV E hh (by decide) (zC_band (by decide) (by decide)) rfl) rfl rfl hl.1 rfl (lv_room (Nat.le_of_ble_eq_true rfl)) dX6_steel_5 ⟨Nat.le_refl _, Nat.le_refl _⟩) hh (fun H locs hh => ?_)
  refine lv_if_eq (tgt := 21) hx hb dX6_steel_8 (by decide) (fun c_v2 => ?_) (fun c_v2 => ?_)
  · have hf := z_ip hf c_v2
    refine lv_iconst (v := (-1)) hx hb dX6_steel_21 (by decide) ?_
    have hf := Option.some.inj hf
    subst hf
    exact z_iretX hx hb hr hlocks hh dX6_steel_22
  · have hf := z_in hf c_v2
    refine lv_iload_n hx hb dX6_steel_11 rfl (lv_at hl 2 rfl) ?_
    refine lv_iconst (v := (nI 0)) hx hb dX6_steel_12 (by decide) ?_
    refine lv_bipush (v := (nI 99)) hx hb dX6_steel_13 (by decide) ?_
    obtain ⟨q3, h_q3, hf⟩ := z_bd hf
    refine z_xi (va_runS (As := [.int x2, .int (nI 0), .int (nI 99)]) (rest := []) ⟨hx, hb, hml, hown, hts⟩ (zcX6_within l g A σ τ N x2 (nI 0) (nI 99) h_q3) (va_cwS 3 hts gX6_steel_X6_within rfl rfl rfl hdX6_within.2 ⟨by decide, by decide⟩) (z_preS E hh) rfl rfl hl.1 rfl (lv_room (Nat.le_of_ble_eq_true rfl)) dX6_steel_15 ⟨Nat.le_refl _, Nat.le_refl _⟩) hh (fun H locs hh => ?_)
    refine lv_if_ne (tgt := 23) hx hb dX6_steel_18 (by decide) (fun c_v4 => ?_) (fun c_v4 => ?_)
    · have hf := z_in hf c_v4
      refine lv_aload_n hx hb dX6_steel_23 rfl (lv_at hl 0 rfl) ?_
      refine z_get (v := .ref (g.2.2 42)) hx hb hts (fun w h => List.mem_cons_of_mem _ (List.mem_append_left _ (List.mem_append_right _ (h)))) hown E hh (by decide) (zC_obj (q := 54) rfl) rfl 0 (by decide) (hts (.fieldLink RX6 10 "TownBand" "band" "LTownBand$Band;") (List.mem_cons_of_mem _ (List.mem_append_left _ (List.mem_append_left _ (List.mem_of_getElem? (i := 0) rfl))))) rfl dX6_steel_24 ?_
      refine z_getN (v := .ref (g.2.2 3)) hx hb hts (fun w h => List.mem_cons_of_mem _ (List.mem_append_right _ (h))) hown E hh (by decide) (zC_band (by decide) (by decide)) rfl 3 (by decide) (zE_f E 9 rfl) rfl dX6_steel_27 ?_
      refine lv_iload_n hx hb dX6_steel_30 rfl (lv_at hl 1 rfl) ?_
      obtain ⟨h_v5, hf⟩ := z_if hf
      obtain ⟨v6, e_v6, hf⟩ := z_lt hf
      refine z_iald hx hb E hh (by decide) h_v5 e_v6 dX6_steel_31 ?_
      refine lv_istore_n (lv' := [(3, .int v6), (0, .ref (g.2.2 54)), (1, .int x1), (2, .int x2)]) hx hb dX6_steel_32 rfl hl (by decide) rfl (fun ls hl => ?_)
      refine lv_aload_n hx hb dX6_steel_33 rfl (lv_at hl 1 rfl) ?_
      refine z_get (v := .ref (g.2.2 42)) hx hb hts (fun w h => List.mem_cons_of_mem _ (List.mem_append_left _ (List.mem_append_right _ (h)))) hown E hh (by decide) (zC_obj (q := 54) rfl) rfl 0 (by decide) (hts (.fieldLink RX6 10 "TownBand" "band" "LTownBand$Band;") (List.mem_cons_of_mem _ (List.mem_append_left _ (List.mem_append_left _ (List.mem_of_getElem? (i := 0) rfl))))) rfl dX6_steel_34 ?_
      refine z_getN (v := .ref (g.2.2 3)) hx hb hts (fun w h => List.mem_cons_of_mem _ (List.mem_append_right _ (h))) hown E hh (by decide) (zC_band (by decide) (by decide)) rfl 3 (by decide) (zE_f E 9 rfl) rfl dX6_steel_37 ?_
      refine lv_iload_n hx hb dX6_steel_40 rfl (lv_at hl 2 rfl) ?_
      refine lv_iload_n hx hb dX6_steel_41 rfl (lv_at hl 3 rfl) ?_
      obtain ⟨h_v7, hf⟩ := z_if hf
      obtain ⟨σ8, e_σ8, hf⟩ := z_lt hf
      refine z_iast hx hb E hh (by decide) h_v7 e_σ8 dX6_steel_42 (fun H locs hh => ?_)
      refine lv_iload_n hx hb dX6_steel_43 rfl (lv_at hl 0 rfl) ?_
      have hf := Option.some.inj hf
      subst hf
      exact z_iretX hx hb hr hlocks hh dX6_steel_44
    · have hf := z_ip hf c_v4
      refine lv_iconst (v := (-1)) hx hb dX6_steel_21 (by decide) ?_
      have hf := Option.some.inj hf
      subst hf
      exact z_iretX hx hb hr hlocks hh dX6_steel_22
/-! ===== X6_scout ===== -/
theorem hdX6_scout : yX6_scout.cls = RX6 ∧ yX6_scout.cls ≠ "java/lang/invoke/MethodHandle" ∧ yX6_scout.cls ≠ "java/lang/invoke/VarHandle" ∧ (parseMethodDescriptor yX6_scout.desc).map (fun d => d.parameters.length) = some 1 := by decide +kernel
def fX6_scout (N : Nat) (σ : zS) (x1 : Int32) : Option (Int32 × zS) :=
  (fX6_within N x1 (nI 0) (nI 40)).bind fun q1 =>
  if q1 = 0 then
    some ((-1), σ)
  else
    zlet (zpf σ 42 9 x1) fun σ3 =>
    some ((σ.1 42 9), σ3)
set_option maxRecDepth 100000 in
set_option maxHeartbeats 4000000 in
theorem zcX6_scout (l : Launch) (g : zG) (A : Nat → Prop) (σ τ : zS) (N : Nat) (x1 : Int32)  {res : Int32 × zS} (hf : fX6_scout N σ x1 = some res) : Met l yX6_scout wsX6_scout (zR 1) (zPc g A σ τ [.ref (g.2.2 54), .int x1]) (zQi g A τ res) 0 0 A := by
  refine z_met (cc := cX6_scout) (ret := (some .int)) (own := RX6) (by decide) rfl rfl _ (Nat.le_of_ble_eq_true rfl) ?_
  intro p e s m below meth c C E ls hl hh
  have hl : lv_has ls 3 [(0, .ref (g.2.2 54)), (1, .int x1)] := hl
  obtain ⟨hx, hb, hr, hml, hown, hts, hlocks⟩ := id C
  unfold fX6_scout at hf
  refine lv_iload_n hx hb dX6_scout_0 rfl (lv_at hl 1 rfl) ?_
  refine lv_iconst (v := (nI 0)) hx hb dX6_scout_1 (by decide) ?_
  refine lv_bipush (v := (nI 40)) hx hb dX6_scout_2 (by decide) ?_
  obtain ⟨q1, h_q1, hf⟩ := z_bd hf
  refine z_xi (va_runS (As := [.int x1, .int (nI 0), .int (nI 40)]) (rest := []) ⟨hx, hb, hml, hown, hts⟩ (zcX6_within l g A σ τ N x1 (nI 0) (nI 40) h_q1) (va_cwS 3 hts gX6_scout_X6_within rfl rfl rfl hdX6_within.2 ⟨by decide, by decide⟩) (z_preS E hh) rfl rfl hl.1 rfl (lv_room (Nat.le_of_ble_eq_true rfl)) dX6_scout_4 ⟨Nat.le_refl _, Nat.le_refl _⟩) hh (fun H locs hh => ?_)
  refine lv_if_ne (tgt := 12) hx hb dX6_scout_7 (by decide) (fun c_v2 => ?_) (fun c_v2 => ?_)
  · have hf := z_in hf c_v2
    refine lv_aload_n hx hb dX6_scout_12 rfl (lv_at hl 0 rfl) ?_
    refine z_get (v := .ref (g.2.2 42)) hx hb hts (fun w h => List.mem_cons_of_mem _ (List.mem_append_left _ (List.mem_append_right _ (h)))) hown E hh (by decide) (zC_obj (q := 54) rfl) rfl 0 (by decide) (hts (.fieldLink RX6 10 "TownBand" "band" "LTownBand$Band;") (List.mem_cons_of_mem _ (List.mem_append_left _ (List.mem_append_left _ (List.mem_of_getElem? (i := 0) rfl))))) rfl dX6_scout_13 ?_
    refine z_getN (v := .int (σ.1 42 9)) hx hb hts (fun w h => List.mem_cons_of_mem _ (List.mem_append_right _ (h))) hown E hh (by decide) (zC_band (by decide) (by decide)) rfl 9 (by decide) (zE_f E 23 rfl) rfl dX6_scout_16 ?_
    refine lv_istore_n (lv' := [(2, .int (σ.1 42 9)), (0, .ref (g.2.2 54)), (1, .int x1)]) hx hb dX6_scout_19 rfl hl (by decide) rfl (fun ls hl => ?_)
    refine lv_aload_n hx hb dX6_scout_20 rfl (lv_at hl 1 rfl) ?_
    refine z_get (v := .ref (g.2.2 42)) hx hb hts (fun w h => List.mem_cons_of_mem _ (List.mem_append_left _ (List.mem_append_right _ (h)))) hown E hh (by decide) (zC_obj (q := 54) rfl) rfl 0 (by decide) (hts (.fieldLink RX6 10 "TownBand" "band" "LTownBand$Band;") (List.mem_cons_of_mem _ (List.mem_append_left _ (List.mem_append_left _ (List.mem_of_getElem? (i := 0) rfl))))) rfl dX6_scout_21 ?_
    refine lv_iload_n hx hb dX6_scout_24 rfl (lv_at hl 2 rfl) ?_
    obtain ⟨σ3, e_σ3, hf⟩ := z_lt hf
    refine z_putN hx hb hts (fun w h => List.mem_cons_of_mem _ (List.mem_append_right _ (h))) tyX0 tyX0_ok nmX0 hown E hh (by decide) (zD_band (by decide) (by decide)) rfl 9 (by decide) rfl (zE_f E 23 rfl) rfl rfl e_σ3 dX6_scout_25 (fun H locs hh => ?_)
    refine lv_iload_n hx hb dX6_scout_28 rfl (lv_at hl 0 rfl) ?_
    have hf := Option.some.inj hf
    subst hf
    exact z_iretX hx hb hr hlocks hh dX6_scout_29
  · have hf := z_ip hf c_v2
    refine lv_iconst (v := (-1)) hx hb dX6_scout_10 (by decide) ?_
    have hf := Option.some.inj hf
    subst hf
    exact z_iretX hx hb hr hlocks hh dX6_scout_11
/-! ===== X6_mount ===== -/
theorem hdX6_mount : yX6_mount.cls = RX6 ∧ yX6_mount.cls ≠ "java/lang/invoke/MethodHandle" ∧ yX6_mount.cls ≠ "java/lang/invoke/VarHandle" ∧ (parseMethodDescriptor yX6_mount.desc).map (fun d => d.parameters.length) = some 1 := by decide +kernel
def fX6_mount (N : Nat) (σ : zS) (x1 : Int32) : Option (Int32 × zS) :=
  (fX0_hasBeast N σ 42 x1).bind fun q1 =>
  if q1 = 0 then
    some ((-1), σ)
  else
    (fX0_canClimb N σ 42 x1).bind fun q3 =>
    if q3 = 0 then
      some ((-2), σ)
    else
      if zin (σ.1 42 8) (zlen 4) then
      zlet (zpa σ 4 (upd (σ.2 4) (σ.1 42 8).toNatClampNeg x1)) fun σ6 =>
      zlet (zpf σ6 42 8 ((σ6.1 42 8) + (nI 1))) fun σ7 =>
      some ((σ7.1 42 8), σ7)
      else none
set_option maxRecDepth 100000 in
set_option maxHeartbeats 4000000 in
theorem zcX6_mount (l : Launch) (g : zG) (A : Nat → Prop) (σ τ : zS) (N : Nat) (x1 : Int32)  {res : Int32 × zS} (hf : fX6_mount N σ x1 = some res) : Met l yX6_mount wsX6_mount (zR 4) (zPc g A σ τ [.ref (g.2.2 54), .int x1]) (zQi g A τ res) 0 0 A := by
  refine z_met (cc := cX6_mount) (ret := (some .int)) (own := RX6) (by decide) rfl rfl _ (Nat.le_of_ble_eq_true rfl) ?_
  intro p e s m below meth c C E ls hl hh
  have hl : lv_has ls 2 [(0, .ref (g.2.2 54)), (1, .int x1)] := hl
  obtain ⟨hx, hb, hr, hml, hown, hts, hlocks⟩ := id C
  unfold fX6_mount at hf
  refine lv_aload_n hx hb dX6_mount_0 rfl (lv_at hl 0 rfl) ?_
  refine z_get (v := .ref (g.2.2 42)) hx hb hts (fun w h => List.mem_cons_of_mem _ (List.mem_append_left _ (List.mem_append_right _ (h)))) hown E hh (by decide) (zC_obj (q := 54) rfl) rfl 0 (by decide) (hts (.fieldLink RX6 10 "TownBand" "band" "LTownBand$Band;") (List.mem_cons_of_mem _ (List.mem_append_left _ (List.mem_append_left _ (List.mem_append_left _ (List.mem_of_getElem? (i := 0) rfl)))))) rfl dX6_mount_1 ?_
  refine lv_iload_n hx hb dX6_mount_4 rfl (lv_at hl 1 rfl) ?_
  obtain ⟨q1, h_q1, hf⟩ := z_bd hf
  refine z_xi (va_runVN (As := [.int x1]) (rest := []) ⟨hx, hb, hml, hown, hts⟩ (zcX0_hasBeast l g A σ τ N 42 x1 (by decide) (by decide) h_q1) ⟨va_cnB 1 hts gX6_mount_X0_hasBeast_n109 rfl rfl rfl (zE_m E 16 rfl) (hts (.initialized RX0) (List.mem_cons_of_mem _ (List.mem_append_left _ (List.mem_append_left _ (List.mem_append_left _ (List.mem_of_getElem? (i := 2) rfl)))))) hdX0_hasBeast.2 ⟨by decide, by decide⟩, (hts (.instanceMethod yX0_hasBeast) (List.mem_cons_of_mem _ (List.mem_append_left _ (List.mem_append_left _ (List.mem_append_left _ (List.mem_of_getElem? (i := 1) rfl)))))), (hts (.selects RX0 yX0_hasBeast yX0_hasBeast) (List.mem_cons_of_mem _ (List.mem_append_left _ (List.mem_append_left _ (List.mem_append_left _ (List.mem_of_getElem? (i := 3) rfl))))))⟩ (z_preV E hh (by decide) (zC_band (by decide) (by decide)) rfl) rfl rfl hl.1 rfl (lv_room (Nat.le_of_ble_eq_true rfl)) dX6_mount_5 ⟨Nat.le_refl _, Nat.le_refl _⟩) hh (fun H locs hh => ?_)
  refine lv_if_ne (tgt := 13) hx hb dX6_mount_8 (by decide) (fun c_v2 => ?_) (fun c_v2 => ?_)
  · have hf := z_in hf c_v2
    refine lv_aload_n hx hb dX6_mount_13 rfl (lv_at hl 0 rfl) ?_
    refine z_get (v := .ref (g.2.2 42)) hx hb hts (fun w h => List.mem_cons_of_mem _ (List.mem_append_left _ (List.mem_append_right _ (h)))) hown E hh (by decide) (zC_obj (q := 54) rfl) rfl 0 (by decide) (hts (.fieldLink RX6 10 "TownBand" "band" "LTownBand$Band;") (List.mem_cons_of_mem _ (List.mem_append_left _ (List.mem_append_left _ (List.mem_append_left _ (List.mem_of_getElem? (i := 0) rfl)))))) rfl dX6_mount_14 ?_
    refine lv_iload_n hx hb dX6_mount_17 rfl (lv_at hl 1 rfl) ?_
    obtain ⟨q3, h_q3, hf⟩ := z_bd hf
    refine z_xi (va_runVN (As := [.int x1]) (rest := []) ⟨hx, hb, hml, hown, hts⟩ (zcX0_canClimb l g A σ τ N 42 x1 (by decide) (by decide) h_q3) ⟨va_cnB 1 hts gX6_mount_X0_canClimb_n155 rfl rfl rfl (zE_m E 21 rfl) (hts (.initialized RX0) (List.mem_cons_of_mem _ (List.mem_append_left _ (List.mem_append_left _ (List.mem_append_left _ (List.mem_of_getElem? (i := 2) rfl)))))) hdX0_canClimb.2 ⟨by decide, by decide⟩, (hts (.instanceMethod yX0_canClimb) (List.mem_cons_of_mem _ (List.mem_append_left _ (List.mem_append_left _ (List.mem_append_left _ (List.mem_of_getElem? (i := 9) rfl)))))), (hts (.selects RX0 yX0_canClimb yX0_canClimb) (List.mem_cons_of_mem _ (List.mem_append_left _ (List.mem_append_left _ (List.mem_append_left _ (List.mem_of_getElem? (i := 10) rfl))))))⟩ (z_preV E hh (by decide) (zC_band (by decide) (by decide)) rfl) rfl rfl hl.1 rfl (lv_room (Nat.le_of_ble_eq_true rfl)) dX6_mount_18 ⟨Nat.le_refl _, Nat.le_refl _⟩) hh (fun H locs hh => ?_)
    refine lv_if_ne (tgt := 27) hx hb dX6_mount_21 (by decide) (fun c_v4 => ?_) (fun c_v4 => ?_)
    · have hf := z_in hf c_v4
      refine lv_aload_n hx hb dX6_mount_27 rfl (lv_at hl 0 rfl) ?_
      refine z_get (v := .ref (g.2.2 42)) hx hb hts (fun w h => List.mem_cons_of_mem _ (List.mem_append_left _ (List.mem_append_right _ (h)))) hown E hh (by decide) (zC_obj (q := 54) rfl) rfl 0 (by decide) (hts (.fieldLink RX6 10 "TownBand" "band" "LTownBand$Band;") (List.mem_cons_of_mem _ (List.mem_append_left _ (List.mem_append_left _ (List.mem_append_left _ (List.mem_of_getElem? (i := 0) rfl)))))) rfl dX6_mount_28 ?_
      refine z_getN (v := .ref (g.2.2 4)) hx hb hts (fun w h => List.mem_cons_of_mem _ (List.mem_append_right _ (h))) hown E hh (by decide) (zC_band (by decide) (by decide)) rfl 4 (by decide) (zE_f E 10 rfl) rfl dX6_mount_31 ?_
      refine lv_aload_n hx hb dX6_mount_34 rfl (lv_at hl 0 rfl) ?_
      refine z_get (v := .ref (g.2.2 42)) hx hb hts (fun w h => List.mem_cons_of_mem _ (List.mem_append_left _ (List.mem_append_right _ (h)))) hown E hh (by decide) (zC_obj (q := 54) rfl) rfl 0 (by decide) (hts (.fieldLink RX6 10 "TownBand" "band" "LTownBand$Band;") (List.mem_cons_of_mem _ (List.mem_append_left _ (List.mem_append_left _ (List.mem_append_left _ (List.mem_of_getElem? (i := 0) rfl)))))) rfl dX6_mount_35 ?_
      refine z_getN (v := .int (σ.1 42 8)) hx hb hts (fun w h => List.mem_cons_of_mem _ (List.mem_append_right _ (h))) hown E hh (by decide) (zC_band (by decide) (by decide)) rfl 8 (by decide) (zE_f E 21 rfl) rfl dX6_mount_38 ?_
      refine lv_iload_n hx hb dX6_mount_41 rfl (lv_at hl 1 rfl) ?_
      obtain ⟨h_v5, hf⟩ := z_if hf
      obtain ⟨σ6, e_σ6, hf⟩ := z_lt hf
      refine z_iast hx hb E hh (by decide) h_v5 e_σ6 dX6_mount_42 (fun H locs hh => ?_)
      refine lv_aload_n hx hb dX6_mount_43 rfl (lv_at hl 0 rfl) ?_
      refine z_get (v := .ref (g.2.2 42)) hx hb hts (fun w h => List.mem_cons_of_mem _ (List.mem_append_left _ (List.mem_append_right _ (h)))) hown E hh (by decide) (zC_obj (q := 54) rfl) rfl 0 (by decide) (hts (.fieldLink RX6 10 "TownBand" "band" "LTownBand$Band;") (List.mem_cons_of_mem _ (List.mem_append_left _ (List.mem_append_left _ (List.mem_append_left _ (List.mem_of_getElem? (i := 0) rfl)))))) rfl dX6_mount_44 ?_
      refine lv_dup hx hb dX6_mount_47 rfl ?_
      refine z_getN (v := .int (σ6.1 42 8)) hx hb hts (fun w h => List.mem_cons_of_mem _ (List.mem_append_right _ (h))) hown E hh (by decide) (zC_band (by decide) (by decide)) rfl 8 (by decide) (zE_f E 21 rfl) rfl dX6_mount_48 ?_
      refine lv_iconst (v := (nI 1)) hx hb dX6_mount_51 (by decide) ?_
      refine lv_iadd hx hb dX6_mount_52 ?_
      obtain ⟨σ7, e_σ7, hf⟩ := z_lt hf
      refine z_putN hx hb hts (fun w h => List.mem_cons_of_mem _ (List.mem_append_right _ (h))) tyX0 tyX0_ok nmX0 hown E hh (by decide) (zD_band (by decide) (by decide)) rfl 8 (by decide) rfl (zE_f E 21 rfl) rfl rfl e_σ7 dX6_mount_53 (fun H locs hh => ?_)
      refine lv_aload_n hx hb dX6_mount_56 rfl (lv_at hl 0 rfl) ?_
      refine z_get (v := .ref (g.2.2 42)) hx hb hts (fun w h => List.mem_cons_of_mem _ (List.mem_append_left _ (List.mem_append_right _ (h)))) hown E hh (by decide) (zC_obj (q := 54) rfl) rfl 0 (by decide) (hts (.fieldLink RX6 10 "TownBand" "band" "LTownBand$Band;") (List.mem_cons_of_mem _ (List.mem_append_left _ (List.mem_append_left _ (List.mem_append_left _ (List.mem_of_getElem? (i := 0) rfl)))))) rfl dX6_mount_57 ?_
      refine z_getN (v := .int (σ7.1 42 8)) hx hb hts (fun w h => List.mem_cons_of_mem _ (List.mem_append_right _ (h))) hown E hh (by decide) (zC_band (by decide) (by decide)) rfl 8 (by decide) (zE_f E 21 rfl) rfl dX6_mount_60 ?_
      have hf := Option.some.inj hf
      subst hf
      exact z_iretX hx hb hr hlocks hh dX6_mount_63
    · have hf := z_ip hf c_v4
      refine lv_bipush (v := (-2)) hx hb dX6_mount_24 (by decide) ?_
      have hf := Option.some.inj hf
      subst hf
      exact z_iretX hx hb hr hlocks hh dX6_mount_26
  · have hf := z_ip hf c_v2
    refine lv_iconst (v := (-1)) hx hb dX6_mount_11 (by decide) ?_
    have hf := Option.some.inj hf
    subst hf
    exact z_iretX hx hb hr hlocks hh dX6_mount_12
/-! ===== X6_climb ===== -/
theorem hdX6_climb : yX6_climb.cls = RX6 ∧ yX6_climb.cls ≠ "java/lang/invoke/MethodHandle" ∧ yX6_climb.cls ≠ "java/lang/invoke/VarHandle" ∧ (parseMethodDescriptor yX6_climb.desc).map (fun d => d.parameters.length) = some 1 := by decide +kernel
def fX6_climb (N : Nat) (σ : zS) (x1 : Int32) : Option (Int32 × zS) :=
  (fX6_mount N σ x1).bind fun q1 =>
  some (q1.1, q1.2)
set_option maxRecDepth 100000 in
set_option maxHeartbeats 4000000 in
theorem zcX6_climb (l : Launch) (g : zG) (A : Nat → Prop) (σ τ : zS) (N : Nat) (x1 : Int32)  {res : Int32 × zS} (hf : fX6_climb N σ x1 = some res) : Met l yX6_climb wsX6_climb (zR 5) (zPc g A σ τ [.ref (g.2.2 54), .int x1]) (zQi g A τ res) 0 0 A := by
  refine z_met (cc := cX6_climb) (ret := (some .int)) (own := RX6) (by decide) rfl rfl _ (Nat.le_of_ble_eq_true rfl) ?_
  intro p e s m below meth c C E ls hl hh
  have hl : lv_has ls 2 [(0, .ref (g.2.2 54)), (1, .int x1)] := hl
  obtain ⟨hx, hb, hr, hml, hown, hts, hlocks⟩ := id C
  unfold fX6_climb at hf
  refine lv_aload_n hx hb dX6_climb_0 rfl (lv_at hl 0 rfl) ?_
  refine lv_iload_n hx hb dX6_climb_1 rfl (lv_at hl 1 rfl) ?_
  obtain ⟨q1, h_q1, hf⟩ := z_bd hf
  refine z_xi (va_runV (As := [.int x1]) (rest := []) ⟨hx, hb, hml, hown, hts⟩ (zcX6_mount l g A σ τ N x1 h_q1) (cwV 1 hts gX6_climb_X6_mount rfl rfl rfl hdX6_mount ⟨by decide, by decide⟩) (z_preV E hh (by decide) (zC_obj (q := 54) rfl) rfl) rfl rfl hl.1 rfl (lv_room (Nat.le_of_ble_eq_true rfl)) dX6_climb_2 ⟨Nat.le_refl _, Nat.le_refl _⟩) hh (fun H locs hh => ?_)
  have hf := Option.some.inj hf
  subst hf
  exact z_iretX hx hb hr hlocks hh dX6_climb_5
/-! ===== X6_down ===== -/
theorem hdX6_down : yX6_down.cls = RX6 ∧ yX6_down.cls ≠ "java/lang/invoke/MethodHandle" ∧ yX6_down.cls ≠ "java/lang/invoke/VarHandle" ∧ (parseMethodDescriptor yX6_down.desc).map (fun d => d.parameters.length) = some 1 := by decide +kernel
def fX6_down (N : Nat) (σ : zS) (x1 : Int32) : Option (Int32 × zS) :=
  (fX6_within N x1 (nI 0) (σ.1 42 8)).bind fun q1 =>
  if q1 = 0 then
    some ((-1), σ)
  else
    zlet (zpf σ 42 8 x1) fun σ3 =>
    some ((σ.1 42 8), σ3)
set_option maxRecDepth 100000 in
set_option maxHeartbeats 4000000 in
theorem zcX6_down (l : Launch) (g : zG) (A : Nat → Prop) (σ τ : zS) (N : Nat) (x1 : Int32)  {res : Int32 × zS} (hf : fX6_down N σ x1 = some res) : Met l yX6_down wsX6_down (zR 1) (zPc g A σ τ [.ref (g.2.2 54), .int x1]) (zQi g A τ res) 0 0 A := by
  refine z_met (cc := cX6_down) (ret := (some .int)) (own := RX6) (by decide) rfl rfl _ (Nat.le_of_ble_eq_true rfl) ?_
  intro p e s m below meth c C E ls hl hh
  have hl : lv_has ls 3 [(0, .ref (g.2.2 54)), (1, .int x1)] := hl
  obtain ⟨hx, hb, hr, hml, hown, hts, hlocks⟩ := id C
  unfold fX6_down at hf
  refine lv_iload_n hx hb dX6_down_0 rfl (lv_at hl 1 rfl) ?_
  refine lv_iconst (v := (nI 0)) hx hb dX6_down_1 (by decide) ?_
  refine lv_aload_n hx hb dX6_down_2 rfl (lv_at hl 0 rfl) ?_
  refine z_get (v := .ref (g.2.2 42)) hx hb hts (fun w h => List.mem_cons_of_mem _ (List.mem_append_left _ (List.mem_append_right _ (h)))) hown E hh (by decide) (zC_obj (q := 54) rfl) rfl 0 (by decide) (hts (.fieldLink RX6 10 "TownBand" "band" "LTownBand$Band;") (List.mem_cons_of_mem _ (List.mem_append_left _ (List.mem_append_left _ (List.mem_of_getElem? (i := 0) rfl))))) rfl dX6_down_3 ?_
  refine z_getN (v := .int (σ.1 42 8)) hx hb hts (fun w h => List.mem_cons_of_mem _ (List.mem_append_right _ (h))) hown E hh (by decide) (zC_band (by decide) (by decide)) rfl 8 (by decide) (zE_f E 21 rfl) rfl dX6_down_6 ?_
  obtain ⟨q1, h_q1, hf⟩ := z_bd hf
  refine z_xi (va_runS (As := [.int x1, .int (nI 0), .int (σ.1 42 8)]) (rest := []) ⟨hx, hb, hml, hown, hts⟩ (zcX6_within l g A σ τ N x1 (nI 0) (σ.1 42 8) h_q1) (va_cwS 3 hts gX6_down_X6_within rfl rfl rfl hdX6_within.2 ⟨by decide, by decide⟩) (z_preS E hh) rfl rfl hl.1 rfl (lv_room (Nat.le_of_ble_eq_true rfl)) dX6_down_9 ⟨Nat.le_refl _, Nat.le_refl _⟩) hh (fun H locs hh => ?_)
  refine lv_if_ne (tgt := 17) hx hb dX6_down_12 (by decide) (fun c_v2 => ?_) (fun c_v2 => ?_)
  · have hf := z_in hf c_v2
    refine lv_aload_n hx hb dX6_down_17 rfl (lv_at hl 0 rfl) ?_
    refine z_get (v := .ref (g.2.2 42)) hx hb hts (fun w h => List.mem_cons_of_mem _ (List.mem_append_left _ (List.mem_append_right _ (h)))) hown E hh (by decide) (zC_obj (q := 54) rfl) rfl 0 (by decide) (hts (.fieldLink RX6 10 "TownBand" "band" "LTownBand$Band;") (List.mem_cons_of_mem _ (List.mem_append_left _ (List.mem_append_left _ (List.mem_of_getElem? (i := 0) rfl))))) rfl dX6_down_18 ?_
    refine z_getN (v := .int (σ.1 42 8)) hx hb hts (fun w h => List.mem_cons_of_mem _ (List.mem_append_right _ (h))) hown E hh (by decide) (zC_band (by decide) (by decide)) rfl 8 (by decide) (zE_f E 21 rfl) rfl dX6_down_21 ?_
    refine lv_istore_n (lv' := [(2, .int (σ.1 42 8)), (0, .ref (g.2.2 54)), (1, .int x1)]) hx hb dX6_down_24 rfl hl (by decide) rfl (fun ls hl => ?_)
    refine lv_aload_n hx hb dX6_down_25 rfl (lv_at hl 1 rfl) ?_
    refine z_get (v := .ref (g.2.2 42)) hx hb hts (fun w h => List.mem_cons_of_mem _ (List.mem_append_left _ (List.mem_append_right _ (h)))) hown E hh (by decide) (zC_obj (q := 54) rfl) rfl 0 (by decide) (hts (.fieldLink RX6 10 "TownBand" "band" "LTownBand$Band;") (List.mem_cons_of_mem _ (List.mem_append_left _ (List.mem_append_left _ (List.mem_of_getElem? (i := 0) rfl))))) rfl dX6_down_26 ?_
    refine lv_iload_n hx hb dX6_down_29 rfl (lv_at hl 2 rfl) ?_
    obtain ⟨σ3, e_σ3, hf⟩ := z_lt hf
    refine z_putN hx hb hts (fun w h => List.mem_cons_of_mem _ (List.mem_append_right _ (h))) tyX0 tyX0_ok nmX0 hown E hh (by decide) (zD_band (by decide) (by decide)) rfl 8 (by decide) rfl (zE_f E 21 rfl) rfl rfl e_σ3 dX6_down_30 (fun H locs hh => ?_)
    refine lv_iload_n hx hb dX6_down_33 rfl (lv_at hl 0 rfl) ?_
    have hf := Option.some.inj hf
    subst hf
    exact z_iretX hx hb hr hlocks hh dX6_down_34
  · have hf := z_ip hf c_v2
    refine lv_iconst (v := (-1)) hx hb dX6_down_15 (by decide) ?_
    have hf := Option.some.inj hf
    subst hf
    exact z_iretX hx hb hr hlocks hh dX6_down_16
/-! ===== X6_swap ===== -/
theorem hdX6_swap : yX6_swap.cls = RX6 ∧ yX6_swap.cls ≠ "java/lang/invoke/MethodHandle" ∧ yX6_swap.cls ≠ "java/lang/invoke/VarHandle" ∧ (parseMethodDescriptor yX6_swap.desc).map (fun d => d.parameters.length) = some 2 := by decide +kernel
def fX6_swap (N : Nat) (σ : zS) (x1 : Int32) (x2 : Int32) : Option (Int32 × zS) :=
  zlet ((σ.1 42 6) - (nI 1)) fun v1 =>
  (fX6_within N x1 (nI 0) v1).bind fun q2 =>
  if q2 = 0 then
    some ((-1), σ)
  else
    (fX6_within N x2 (nI 0) v1).bind fun q4 =>
    if q4 = 0 then
      some ((-1), σ)
    else
      if x1 = x2 then
        some ((-1), σ)
      else
        (fX6_exchange N σ 5 x1 x2).bind fun q7 =>
        if zin x1 (zlen 5) then
        zlet (q7.2 5 x1.toNatClampNeg) fun v9 =>
        some (v9, q7)
        else none
set_option maxRecDepth 100000 in
set_option maxHeartbeats 4000000 in
theorem zcX6_swap (l : Launch) (g : zG) (A : Nat → Prop) (σ τ : zS) (N : Nat) (x1 : Int32) (x2 : Int32)  {res : Int32 × zS} (hf : fX6_swap N σ x1 x2 = some res) : Met l yX6_swap wsX6_swap (zR 1) (zPc g A σ τ [.ref (g.2.2 54), .int x1, .int x2]) (zQi g A τ res) 0 0 A := by
  refine z_met (cc := cX6_swap) (ret := (some .int)) (own := RX6) (by decide) rfl rfl _ (Nat.le_of_ble_eq_true rfl) ?_
  intro p e s m below meth c C E ls hl hh
  have hl : lv_has ls 4 [(0, .ref (g.2.2 54)), (1, .int x1), (2, .int x2)] := hl
  obtain ⟨hx, hb, hr, hml, hown, hts, hlocks⟩ := id C
  unfold fX6_swap at hf
  refine lv_aload_n hx hb dX6_swap_0 rfl (lv_at hl 0 rfl) ?_
  refine z_get (v := .ref (g.2.2 42)) hx hb hts (fun w h => List.mem_cons_of_mem _ (List.mem_append_left _ (List.mem_append_right _ (h)))) hown E hh (by decide) (zC_obj (q := 54) rfl) rfl 0 (by decide) (hts (.fieldLink RX6 10 "TownBand" "band" "LTownBand$Band;") (List.mem_cons_of_mem _ (List.mem_append_left _ (List.mem_append_left _ (List.mem_of_getElem? (i := 0) rfl))))) rfl dX6_swap_1 ?_
  refine z_getN (v := .int (σ.1 42 6)) hx hb hts (fun w h => List.mem_cons_of_mem _ (List.mem_append_right _ (h))) hown E hh (by decide) (zC_band (by decide) (by decide)) rfl 6 (by decide) (zE_f E 17 rfl) rfl dX6_swap_4 ?_
  refine lv_iconst (v := (nI 1)) hx hb dX6_swap_7 (by decide) ?_
  refine lv_isub hx hb dX6_swap_8 ?_
  obtain ⟨v1, e_v1, hf⟩ := z_lt hf
  refine z_topi e_v1 ?_
  refine lv_istore_n (lv' := [(3, .int v1), (0, .ref (g.2.2 54)), (1, .int x1), (2, .int x2)]) hx hb dX6_swap_9 rfl hl (by decide) rfl (fun ls hl => ?_)
  refine lv_iload_n hx hb dX6_swap_10 rfl (lv_at hl 2 rfl) ?_
  refine lv_iconst (v := (nI 0)) hx hb dX6_swap_11 (by decide) ?_
  refine lv_iload_n hx hb dX6_swap_12 rfl (lv_at hl 0 rfl) ?_
  obtain ⟨q2, h_q2, hf⟩ := z_bd hf
  refine z_xi (va_runS (As := [.int x1, .int (nI 0), .int v1]) (rest := []) ⟨hx, hb, hml, hown, hts⟩ (zcX6_within l g A σ τ N x1 (nI 0) v1 h_q2) (va_cwS 3 hts gX6_swap_X6_within rfl rfl rfl hdX6_within.2 ⟨by decide, by decide⟩) (z_preS E hh) rfl rfl hl.1 rfl (lv_room (Nat.le_of_ble_eq_true rfl)) dX6_swap_13 ⟨Nat.le_refl _, Nat.le_refl _⟩) hh (fun H locs hh => ?_)
  refine lv_if_eq (tgt := 33) hx hb dX6_swap_16 (by decide) (fun c_v3 => ?_) (fun c_v3 => ?_)
  · have hf := z_ip hf c_v3
    refine lv_iconst (v := (-1)) hx hb dX6_swap_33 (by decide) ?_
    have hf := Option.some.inj hf
    subst hf
    exact z_iretX hx hb hr hlocks hh dX6_swap_34
  · have hf := z_in hf c_v3
    refine lv_iload_n hx hb dX6_swap_19 rfl (lv_at hl 3 rfl) ?_
    refine lv_iconst (v := (nI 0)) hx hb dX6_swap_20 (by decide) ?_
    refine lv_iload_n hx hb dX6_swap_21 rfl (lv_at hl 0 rfl) ?_
    obtain ⟨q4, h_q4, hf⟩ := z_bd hf
    refine z_xi (va_runS (As := [.int x2, .int (nI 0), .int v1]) (rest := []) ⟨hx, hb, hml, hown, hts⟩ (zcX6_within l g A σ τ N x2 (nI 0) v1 h_q4) (va_cwS 3 hts gX6_swap_X6_within rfl rfl rfl hdX6_within.2 ⟨by decide, by decide⟩) (z_preS E hh) rfl rfl hl.1 rfl (lv_room (Nat.le_of_ble_eq_true rfl)) dX6_swap_22 ⟨Nat.le_refl _, Nat.le_refl _⟩) hh (fun H locs hh => ?_)
    refine lv_if_eq (tgt := 33) hx hb dX6_swap_25 (by decide) (fun c_v5 => ?_) (fun c_v5 => ?_)
    · have hf := z_ip hf c_v5
      refine lv_iconst (v := (-1)) hx hb dX6_swap_33 (by decide) ?_
      have hf := Option.some.inj hf
      subst hf
      exact z_iretX hx hb hr hlocks hh dX6_swap_34
    · have hf := z_in hf c_v5
      refine lv_iload_n hx hb dX6_swap_28 rfl (lv_at hl 2 rfl) ?_
      refine lv_iload_n hx hb dX6_swap_29 rfl (lv_at hl 3 rfl) ?_
      refine lv_icmp_ne (tgt := 35) hx hb dX6_swap_30 (by decide) (fun c_v6 => ?_) (fun c_v6 => ?_)
      · have hf := z_in hf c_v6
        refine lv_aload_n hx hb dX6_swap_35 rfl (lv_at hl 1 rfl) ?_
        refine z_get (v := .ref (g.2.2 42)) hx hb hts (fun w h => List.mem_cons_of_mem _ (List.mem_append_left _ (List.mem_append_right _ (h)))) hown E hh (by decide) (zC_obj (q := 54) rfl) rfl 0 (by decide) (hts (.fieldLink RX6 10 "TownBand" "band" "LTownBand$Band;") (List.mem_cons_of_mem _ (List.mem_append_left _ (List.mem_append_left _ (List.mem_of_getElem? (i := 0) rfl))))) rfl dX6_swap_36 ?_
        refine z_getN (v := .ref (g.2.2 5)) hx hb hts (fun w h => List.mem_cons_of_mem _ (List.mem_append_right _ (h))) hown E hh (by decide) (zC_band (by decide) (by decide)) rfl 5 (by decide) (zE_f E 13 rfl) rfl dX6_swap_39 ?_
        refine lv_iload_n hx hb dX6_swap_42 rfl (lv_at hl 2 rfl) ?_
        refine lv_iload_n hx hb dX6_swap_43 rfl (lv_at hl 3 rfl) ?_
        obtain ⟨q7, h_q7, hf⟩ := z_bd hf
        refine z_xv (va_runS (As := [.ref (g.2.2 5), .int x1, .int x2]) (rest := []) ⟨hx, hb, hml, hown, hts⟩ (zcX6_exchange l g A σ τ N 5 x1 x2 (by decide) h_q7) (va_cwS 3 hts gX6_swap_X6_exchange rfl rfl rfl hdX6_exchange.2 ⟨by decide, by decide⟩) (z_preS E hh) rfl rfl hl.1 rfl (lv_room (Nat.le_of_ble_eq_true rfl)) dX6_swap_44 ⟨Nat.le_refl _, Nat.le_refl _⟩) hh (fun H locs hh => ?_)
        refine lv_aload_n hx hb dX6_swap_47 rfl (lv_at hl 1 rfl) ?_
        refine z_get (v := .ref (g.2.2 42)) hx hb hts (fun w h => List.mem_cons_of_mem _ (List.mem_append_left _ (List.mem_append_right _ (h)))) hown E hh (by decide) (zC_obj (q := 54) rfl) rfl 0 (by decide) (hts (.fieldLink RX6 10 "TownBand" "band" "LTownBand$Band;") (List.mem_cons_of_mem _ (List.mem_append_left _ (List.mem_append_left _ (List.mem_of_getElem? (i := 0) rfl))))) rfl dX6_swap_48 ?_
        refine z_getN (v := .ref (g.2.2 5)) hx hb hts (fun w h => List.mem_cons_of_mem _ (List.mem_append_right _ (h))) hown E hh (by decide) (zC_band (by decide) (by decide)) rfl 5 (by decide) (zE_f E 13 rfl) rfl dX6_swap_51 ?_
        refine lv_iload_n hx hb dX6_swap_54 rfl (lv_at hl 2 rfl) ?_
        obtain ⟨h_v8, hf⟩ := z_if hf
        obtain ⟨v9, e_v9, hf⟩ := z_lt hf
        refine z_iald hx hb E hh (by decide) h_v8 e_v9 dX6_swap_55 ?_
        have hf := Option.some.inj hf
        subst hf
        exact z_iretX hx hb hr hlocks hh dX6_swap_56
      · have hf := z_ip hf c_v6
        refine lv_iconst (v := (-1)) hx hb dX6_swap_33 (by decide) ?_
        have hf := Option.some.inj hf
        subst hf
        exact z_iretX hx hb hr hlocks hh dX6_swap_34
/-! ===== X6_noise ===== -/
theorem hdX6_noise : yX6_noise.cls = RX6 ∧ yX6_noise.cls ≠ "java/lang/invoke/MethodHandle" ∧ yX6_noise.cls ≠ "java/lang/invoke/VarHandle" ∧ (parseMethodDescriptor yX6_noise.desc).map (fun d => d.parameters.length) = some 0 := by decide +kernel
def fX6_noise (N : Nat) (σ : zS)  : Option (Int32) :=
  (fX0_noiseBy N σ 42 4 (σ.1 42 8) 2).bind fun q1 =>
  some q1
set_option maxRecDepth 100000 in
set_option maxHeartbeats 4000000 in
theorem zcX6_noise (l : Launch) (g : zG) (A : Nat → Prop) (σ τ : zS) (N : Nat)   {res : Int32} (hf : fX6_noise N σ = some res) : Met l yX6_noise wsX6_noise (zR 1) (zPc g A σ τ [.ref (g.2.2 54)]) (zQi g A τ (res, σ)) 0 0 A := by
  refine z_met (cc := cX6_noise) (ret := (some .int)) (own := RX6) (by decide) rfl rfl _ (Nat.le_of_ble_eq_true rfl) ?_
  intro p e s m below meth c C E ls hl hh
  have hl : lv_has ls 1 [(0, .ref (g.2.2 54))] := hl
  obtain ⟨hx, hb, hr, hml, hown, hts, hlocks⟩ := id C
  unfold fX6_noise at hf
  refine lv_aload_n hx hb dX6_noise_0 rfl (lv_at hl 0 rfl) ?_
  refine z_get (v := .ref (g.2.2 42)) hx hb hts (fun w h => List.mem_cons_of_mem _ (List.mem_append_left _ (List.mem_append_right _ (h)))) hown E hh (by decide) (zC_obj (q := 54) rfl) rfl 0 (by decide) (hts (.fieldLink RX6 10 "TownBand" "band" "LTownBand$Band;") (List.mem_cons_of_mem _ (List.mem_append_left _ (List.mem_append_left _ (List.mem_of_getElem? (i := 0) rfl))))) rfl dX6_noise_1 ?_
  refine lv_aload_n hx hb dX6_noise_4 rfl (lv_at hl 0 rfl) ?_
  refine z_get (v := .ref (g.2.2 42)) hx hb hts (fun w h => List.mem_cons_of_mem _ (List.mem_append_left _ (List.mem_append_right _ (h)))) hown E hh (by decide) (zC_obj (q := 54) rfl) rfl 0 (by decide) (hts (.fieldLink RX6 10 "TownBand" "band" "LTownBand$Band;") (List.mem_cons_of_mem _ (List.mem_append_left _ (List.mem_append_left _ (List.mem_of_getElem? (i := 0) rfl))))) rfl dX6_noise_5 ?_
  refine z_getN (v := .ref (g.2.2 4)) hx hb hts (fun w h => List.mem_cons_of_mem _ (List.mem_append_right _ (h))) hown E hh (by decide) (zC_band (by decide) (by decide)) rfl 4 (by decide) (zE_f E 10 rfl) rfl dX6_noise_8 ?_
  refine lv_aload_n hx hb dX6_noise_11 rfl (lv_at hl 0 rfl) ?_
  refine z_get (v := .ref (g.2.2 42)) hx hb hts (fun w h => List.mem_cons_of_mem _ (List.mem_append_left _ (List.mem_append_right _ (h)))) hown E hh (by decide) (zC_obj (q := 54) rfl) rfl 0 (by decide) (hts (.fieldLink RX6 10 "TownBand" "band" "LTownBand$Band;") (List.mem_cons_of_mem _ (List.mem_append_left _ (List.mem_append_left _ (List.mem_of_getElem? (i := 0) rfl))))) rfl dX6_noise_12 ?_
  refine z_getN (v := .int (σ.1 42 8)) hx hb hts (fun w h => List.mem_cons_of_mem _ (List.mem_append_right _ (h))) hown E hh (by decide) (zC_band (by decide) (by decide)) rfl 8 (by decide) (zE_f E 21 rfl) rfl dX6_noise_15 ?_
  refine lv_aload_n hx hb dX6_noise_18 rfl (lv_at hl 0 rfl) ?_
  refine z_get (v := .ref (g.2.2 42)) hx hb hts (fun w h => List.mem_cons_of_mem _ (List.mem_append_left _ (List.mem_append_right _ (h)))) hown E hh (by decide) (zC_obj (q := 54) rfl) rfl 0 (by decide) (hts (.fieldLink RX6 10 "TownBand" "band" "LTownBand$Band;") (List.mem_cons_of_mem _ (List.mem_append_left _ (List.mem_append_left _ (List.mem_of_getElem? (i := 0) rfl))))) rfl dX6_noise_19 ?_
  refine z_getN (v := .ref (g.2.2 2)) hx hb hts (fun w h => List.mem_cons_of_mem _ (List.mem_append_right _ (h))) hown E hh (by decide) (zC_band (by decide) (by decide)) rfl 2 (by decide) (zE_f E 7 rfl) rfl dX6_noise_22 ?_
  obtain ⟨q1, h_q1, hf⟩ := z_bd hf
  refine z_xi (va_runVN (As := [.ref (g.2.2 4), .int (σ.1 42 8), .ref (g.2.2 2)]) (rest := []) ⟨hx, hb, hml, hown, hts⟩ (zcX0_noiseBy l g A σ τ N 42 4 (σ.1 42 8) 2 (by decide) (by decide) (by decide) (by decide) h_q1) ⟨va_cnB 3 hts gX6_noise_X0_noiseBy_n162 rfl rfl rfl (zE_m E 22 rfl) (hts (.initialized RX0) (List.mem_cons_of_mem _ (List.mem_append_left _ (List.mem_append_left _ (List.mem_of_getElem? (i := 2) rfl))))) hdX0_noiseBy.2 ⟨by decide, by decide⟩, (hts (.instanceMethod yX0_noiseBy) (List.mem_cons_of_mem _ (List.mem_append_left _ (List.mem_append_left _ (List.mem_of_getElem? (i := 1) rfl))))), (hts (.selects RX0 yX0_noiseBy yX0_noiseBy) (List.mem_cons_of_mem _ (List.mem_append_left _ (List.mem_append_left _ (List.mem_of_getElem? (i := 3) rfl)))))⟩ (z_preV E hh (by decide) (zC_band (by decide) (by decide)) rfl) rfl rfl hl.1 rfl (lv_room (Nat.le_of_ble_eq_true rfl)) dX6_noise_25 ⟨Nat.le_refl _, Nat.le_refl _⟩) hh (fun H locs hh => ?_)
  have hf := Option.some.inj hf
  subst hf
  exact z_iretX hx hb hr hlocks hh dX6_noise_28
/-! ===== X6_flight ===== -/
theorem hdX6_flight : yX6_flight.cls = RX6 ∧ yX6_flight.cls ≠ "java/lang/invoke/MethodHandle" ∧ yX6_flight.cls ≠ "java/lang/invoke/VarHandle" ∧ (parseMethodDescriptor yX6_flight.desc).map (fun d => d.parameters.length) = some 1 := by decide +kernel
def fX6_flight (N : Nat) (σ : zS) (x1 : Int32) : Option (Int32) :=
  (fX6_within N x1 (nI 0) (nI 1)).bind fun q1 =>
  if q1 = 0 then
    some (-1)
  else
    (fX0_noiseBy N σ 42 4 (σ.1 42 8) 2).bind fun q3 =>
    (fX0_fledBits N σ 42 q3).bind fun q4 =>
    if x1 = 0 then
      some q4
    else
      (fJ6_bitCount_0f7a4 N q4).bind fun q6 =>
      some q6
set_option maxRecDepth 100000 in
set_option maxHeartbeats 4000000 in
theorem zcX6_flight (l : Launch) (g : zG) (A : Nat → Prop) (σ τ : zS) (N : Nat) (x1 : Int32)  {res : Int32} (hf : fX6_flight N σ x1 = some res) : Met l yX6_flight wsX6_flight (zR 1) (zPc g A σ τ [.ref (g.2.2 54), .int x1]) (zQi g A τ (res, σ)) 0 0 A := by
  refine z_met (cc := cX6_flight) (ret := (some .int)) (own := RX6) (by decide) rfl rfl _ (Nat.le_of_ble_eq_true rfl) ?_
  intro p e s m below meth c C E ls hl hh
  have hl : lv_has ls 3 [(0, .ref (g.2.2 54)), (1, .int x1)] := hl
  obtain ⟨hx, hb, hr, hml, hown, hts, hlocks⟩ := id C
  unfold fX6_flight at hf
  refine lv_iload_n hx hb dX6_flight_0 rfl (lv_at hl 1 rfl) ?_
  refine lv_iconst (v := (nI 0)) hx hb dX6_flight_1 (by decide) ?_
  refine lv_iconst (v := (nI 1)) hx hb dX6_flight_2 (by decide) ?_
  obtain ⟨q1, h_q1, hf⟩ := z_bd hf
  refine z_xi (va_runS (As := [.int x1, .int (nI 0), .int (nI 1)]) (rest := []) ⟨hx, hb, hml, hown, hts⟩ (zcX6_within l g A σ τ N x1 (nI 0) (nI 1) h_q1) (va_cwS 3 hts gX6_flight_X6_within rfl rfl rfl hdX6_within.2 ⟨by decide, by decide⟩) (z_preS E hh) rfl rfl hl.1 rfl (lv_room (Nat.le_of_ble_eq_true rfl)) dX6_flight_3 ⟨Nat.le_refl _, Nat.le_refl _⟩) hh (fun H locs hh => ?_)
  refine lv_if_ne (tgt := 11) hx hb dX6_flight_6 (by decide) (fun c_v2 => ?_) (fun c_v2 => ?_)
  · have hf := z_in hf c_v2
    refine lv_aload_n hx hb dX6_flight_11 rfl (lv_at hl 0 rfl) ?_
    refine z_get (v := .ref (g.2.2 42)) hx hb hts (fun w h => List.mem_cons_of_mem _ (List.mem_append_left _ (List.mem_append_right _ (h)))) hown E hh (by decide) (zC_obj (q := 54) rfl) rfl 0 (by decide) (hts (.fieldLink RX6 10 "TownBand" "band" "LTownBand$Band;") (List.mem_cons_of_mem _ (List.mem_append_left _ (List.mem_append_left _ (List.mem_of_getElem? (i := 0) rfl))))) rfl dX6_flight_12 ?_
    refine lv_aload_n hx hb dX6_flight_15 rfl (lv_at hl 0 rfl) ?_
    refine z_get (v := .ref (g.2.2 42)) hx hb hts (fun w h => List.mem_cons_of_mem _ (List.mem_append_left _ (List.mem_append_right _ (h)))) hown E hh (by decide) (zC_obj (q := 54) rfl) rfl 0 (by decide) (hts (.fieldLink RX6 10 "TownBand" "band" "LTownBand$Band;") (List.mem_cons_of_mem _ (List.mem_append_left _ (List.mem_append_left _ (List.mem_of_getElem? (i := 0) rfl))))) rfl dX6_flight_16 ?_
    refine lv_aload_n hx hb dX6_flight_19 rfl (lv_at hl 0 rfl) ?_
    refine z_get (v := .ref (g.2.2 42)) hx hb hts (fun w h => List.mem_cons_of_mem _ (List.mem_append_left _ (List.mem_append_right _ (h)))) hown E hh (by decide) (zC_obj (q := 54) rfl) rfl 0 (by decide) (hts (.fieldLink RX6 10 "TownBand" "band" "LTownBand$Band;") (List.mem_cons_of_mem _ (List.mem_append_left _ (List.mem_append_left _ (List.mem_of_getElem? (i := 0) rfl))))) rfl dX6_flight_20 ?_
    refine z_getN (v := .ref (g.2.2 4)) hx hb hts (fun w h => List.mem_cons_of_mem _ (List.mem_append_right _ (h))) hown E hh (by decide) (zC_band (by decide) (by decide)) rfl 4 (by decide) (zE_f E 10 rfl) rfl dX6_flight_23 ?_
    refine lv_aload_n hx hb dX6_flight_26 rfl (lv_at hl 0 rfl) ?_
    refine z_get (v := .ref (g.2.2 42)) hx hb hts (fun w h => List.mem_cons_of_mem _ (List.mem_append_left _ (List.mem_append_right _ (h)))) hown E hh (by decide) (zC_obj (q := 54) rfl) rfl 0 (by decide) (hts (.fieldLink RX6 10 "TownBand" "band" "LTownBand$Band;") (List.mem_cons_of_mem _ (List.mem_append_left _ (List.mem_append_left _ (List.mem_of_getElem? (i := 0) rfl))))) rfl dX6_flight_27 ?_
    refine z_getN (v := .int (σ.1 42 8)) hx hb hts (fun w h => List.mem_cons_of_mem _ (List.mem_append_right _ (h))) hown E hh (by decide) (zC_band (by decide) (by decide)) rfl 8 (by decide) (zE_f E 21 rfl) rfl dX6_flight_30 ?_
    refine lv_aload_n hx hb dX6_flight_33 rfl (lv_at hl 0 rfl) ?_
    refine z_get (v := .ref (g.2.2 42)) hx hb hts (fun w h => List.mem_cons_of_mem _ (List.mem_append_left _ (List.mem_append_right _ (h)))) hown E hh (by decide) (zC_obj (q := 54) rfl) rfl 0 (by decide) (hts (.fieldLink RX6 10 "TownBand" "band" "LTownBand$Band;") (List.mem_cons_of_mem _ (List.mem_append_left _ (List.mem_append_left _ (List.mem_of_getElem? (i := 0) rfl))))) rfl dX6_flight_34 ?_
    refine z_getN (v := .ref (g.2.2 2)) hx hb hts (fun w h => List.mem_cons_of_mem _ (List.mem_append_right _ (h))) hown E hh (by decide) (zC_band (by decide) (by decide)) rfl 2 (by decide) (zE_f E 7 rfl) rfl dX6_flight_37 ?_
    obtain ⟨q3, h_q3, hf⟩ := z_bd hf
    refine z_xi (va_runVN (As := [.ref (g.2.2 4), .int (σ.1 42 8), .ref (g.2.2 2)]) (rest := [.ref (g.2.2 42)]) ⟨hx, hb, hml, hown, hts⟩ (zcX0_noiseBy l g A σ τ N 42 4 (σ.1 42 8) 2 (by decide) (by decide) (by decide) (by decide) h_q3) ⟨va_cnB 3 hts gX6_flight_X0_noiseBy_n162 rfl rfl rfl (zE_m E 22 rfl) (hts (.initialized RX0) (List.mem_cons_of_mem _ (List.mem_append_left _ (List.mem_append_left _ (List.mem_of_getElem? (i := 6) rfl))))) hdX0_noiseBy.2 ⟨by decide, by decide⟩, (hts (.instanceMethod yX0_noiseBy) (List.mem_cons_of_mem _ (List.mem_append_left _ (List.mem_append_left _ (List.mem_of_getElem? (i := 5) rfl))))), (hts (.selects RX0 yX0_noiseBy yX0_noiseBy) (List.mem_cons_of_mem _ (List.mem_append_left _ (List.mem_append_left _ (List.mem_of_getElem? (i := 7) rfl)))))⟩ (z_preV E hh (by decide) (zC_band (by decide) (by decide)) rfl) rfl rfl hl.1 rfl (lv_room (Nat.le_of_ble_eq_true rfl)) dX6_flight_40 ⟨Nat.le_refl _, Nat.le_refl _⟩) hh (fun H locs hh => ?_)
    obtain ⟨q4, h_q4, hf⟩ := z_bd hf
    refine z_xi (va_runVN (As := [.int q3]) (rest := []) ⟨hx, hb, hml, hown, hts⟩ (zcX0_fledBits l g A σ τ N 42 q3 (by decide) (by decide) h_q4) ⟨va_cnB 1 hts gX6_flight_X0_fledBits_n166 rfl rfl rfl (zE_m E 23 rfl) (hts (.initialized RX0) (List.mem_cons_of_mem _ (List.mem_append_left _ (List.mem_append_left _ (List.mem_of_getElem? (i := 6) rfl))))) hdX0_fledBits.2 ⟨by decide, by decide⟩, (hts (.instanceMethod yX0_fledBits) (List.mem_cons_of_mem _ (List.mem_append_left _ (List.mem_append_left _ (List.mem_of_getElem? (i := 9) rfl))))), (hts (.selects RX0 yX0_fledBits yX0_fledBits) (List.mem_cons_of_mem _ (List.mem_append_left _ (List.mem_append_left _ (List.mem_of_getElem? (i := 10) rfl)))))⟩ (z_preV E hh (by decide) (zC_band (by decide) (by decide)) rfl) rfl rfl hl.1 rfl (lv_room (Nat.le_of_ble_eq_true rfl)) dX6_flight_43 ⟨Nat.le_refl _, Nat.le_refl _⟩) hh (fun H locs hh => ?_)
    refine lv_istore_n (lv' := [(2, .int q4), (0, .ref (g.2.2 54)), (1, .int x1)]) hx hb dX6_flight_46 rfl hl (by decide) rfl (fun ls hl => ?_)
    refine lv_iload_n hx hb dX6_flight_47 rfl (lv_at hl 2 rfl) ?_
    refine lv_if_ne (tgt := 55) hx hb dX6_flight_48 (by decide) (fun c_v5 => ?_) (fun c_v5 => ?_)
    · have hf := z_in hf c_v5
      refine lv_iload_n hx hb dX6_flight_55 rfl (lv_at hl 0 rfl) ?_
      obtain ⟨q6, h_q6, hf⟩ := z_bd hf
      refine z_xi (va_runS (As := [.int q4]) (rest := []) ⟨hx, hb, hml, hown, hts⟩ (zcJ6_bitCount_0f7a4 l g A σ τ N q4 h_q6) (va_cwS 1 hts gX6_flight_J6_bitCount_0f7a4 rfl rfl rfl hdJ6_bitCount_0f7a4.2 ⟨by decide, by decide⟩) (z_preS E hh) rfl rfl hl.1 rfl (lv_room (Nat.le_of_ble_eq_true rfl)) dX6_flight_56 ⟨Nat.le_refl _, Nat.le_refl _⟩) hh (fun H locs hh => ?_)
      have hf := Option.some.inj hf
      subst hf
      exact z_iretX hx hb hr hlocks hh dX6_flight_59
    · have hf := z_ip hf c_v5
      refine lv_iload_n hx hb dX6_flight_51 rfl (lv_at hl 0 rfl) ?_
      refine lv_goto (tgt := 59) hx hb dX6_flight_52 (by decide) ?_
      have hf := Option.some.inj hf
      subst hf
      exact z_iretX hx hb hr hlocks hh dX6_flight_59
  · have hf := z_ip hf c_v2
    refine lv_iconst (v := (-1)) hx hb dX6_flight_9 (by decide) ?_
    have hf := Option.some.inj hf
    subst hf
    exact z_iretX hx hb hr hlocks hh dX6_flight_10
/-! ===== X6_free ===== -/
theorem hdX6_free : yX6_free.cls = RX6 ∧ yX6_free.cls ≠ "java/lang/invoke/MethodHandle" ∧ yX6_free.cls ≠ "java/lang/invoke/VarHandle" ∧ (parseMethodDescriptor yX6_free.desc).map (fun d => d.parameters.length) = some 0 := by decide +kernel
def PX6_free_32 (p : Program) (l : Launch) (e : Env) (s : State) (m : MethodId) (args : Array Value) (below : List Frame) (meth : Method) (c : Code) (g : zG) (A : Nat → Prop) (σ τ : zS) (res : Int32) (f : Int32 → Int32 → Option (Int32)) : Prop := ∀ (x1 : Int32) (x2 : Int32) (H : Heap) (locs : List Loc) (ls : Array Slot), f x1 x2 = some res → zW g A σ τ s H locs → lv_has ls 3 [(0, .ref (g.2.2 54)), (1, .int x1), (2, .int x2)] → W p l e (zR 4) s m args below meth c H locs 0 0 (MQ below (zQi g A τ (res, σ)) args s 0 0 A) (F0 m 32 ls [])
def PX6_free_4 (p : Program) (l : Launch) (e : Env) (s : State) (m : MethodId) (args : Array Value) (below : List Frame) (meth : Method) (c : Code) (g : zG) (A : Nat → Prop) (σ τ : zS) (res : Int32) (f : Int32 → Int32 → Option (Int32)) : Prop := ∀ (x1 : Int32) (x2 : Int32) (H : Heap) (locs : List Loc) (ls : Array Slot), f x1 x2 = some res → zW g A σ τ s H locs → lv_has ls 3 [(0, .ref (g.2.2 54)), (1, .int x1), (2, .int x2)] → W p l e (zR 4) s m args below meth c H locs 0 0 (MQ below (zQi g A τ (res, σ)) args s 0 0 A) (F0 m 4 ls [])
def fX6_free_32 (N : Nat) (σ : zS) (rc : Int32 → Int32 → Option (Int32)) (x1 : Int32) (x2 : Int32) : Option (Int32) :=
  rc x1 (x2 + (nI 1))
set_option maxRecDepth 100000 in
set_option maxHeartbeats 4000000 in
theorem hX6_free_32 {p : Program} {l : Launch} {e : Env} {s : State} {m : MethodId} {args : Array Value} {below : List Frame} {meth : Method} {c : Code} {g : zG} {A : Nat → Prop} {σ τ : zS} {res : Int32} (C : zCx p s m args meth c cX6_free (some .int) wsX6_free RX6 3) (E : zE g A s) (N : Nat) (rc : Int32 → Int32 → Option (Int32)) (hrc : PX6_free_4 p l e s m args below meth c g A σ τ res rc) : PX6_free_32 p l e s m args below meth c g A σ τ res (fX6_free_32 N σ rc) := by
  obtain ⟨hx, hb, hr, hml, hown, hts, hlocks⟩ := id C
  intro x1 x2 H locs ls hf hh hl
  unfold fX6_free_32 at hf
  refine lv_iinc (v := (x2 + (nI 1))) (lv' := [(2, .int (x2 + (nI 1))), (0, .ref (g.2.2 54)), (1, .int x1)]) hx hb dX6_free_32 hl (k := 2) rfl rfl (by decide) rfl (fun ls hl => ?_)
  refine lv_goto (tgt := 4) hx hb dX6_free_35 (by decide) ?_
  exact hrc x1 (x2 + (nI 1)) _ _ _ hf hh (lv_sub hl [1, 2, 0] rfl)
def fX6_free_4 (N : Nat) (σ : zS) : Nat → Int32 → Int32 → Option (Int32)
  | 0, _, _ => none
  | n + 1, x1, x2 =>
    if (σ.1 42 6) ≤ x2 then
      some x1
    else
      (fX0_canClimb N σ 42 x2).bind fun q2 =>
      if q2 = 0 then
        (fX6_free_32 N σ (fX6_free_4 N σ n)) x1 x2
      else
        zlet (x1 ||| ((nI 1) <<< (x2 &&& 31))) fun v4 =>
        (fX6_free_32 N σ (fX6_free_4 N σ n)) v4 x2
set_option maxRecDepth 100000 in
set_option maxHeartbeats 4000000 in
theorem hX6_free_4 {p : Program} {l : Launch} {e : Env} {s : State} {m : MethodId} {args : Array Value} {below : List Frame} {meth : Method} {c : Code} {g : zG} {A : Nat → Prop} {σ τ : zS} {res : Int32} (C : zCx p s m args meth c cX6_free (some .int) wsX6_free RX6 3) (E : zE g A s) (N : Nat) : ∀ n : Nat, PX6_free_4 p l e s m args below meth c g A σ τ res (fX6_free_4 N σ n) := by
  obtain ⟨hx, hb, hr, hml, hown, hts, hlocks⟩ := id C
  intro n
  induction n with
  | zero =>
    intro x1 x2 H locs ls hf
    exact absurd hf (by simp [fX6_free_4])
  | succ n ih =>
    intro x1 x2 H locs ls hf hh hl
    rw [fX6_free_4] at hf
    refine lv_iload_n hx hb dX6_free_4 rfl (lv_at hl 2 rfl) ?_
    refine lv_aload_n hx hb dX6_free_5 rfl (lv_at hl 0 rfl) ?_
    refine z_get (v := .ref (g.2.2 42)) hx hb hts (fun w h => List.mem_cons_of_mem _ (List.mem_append_left _ (List.mem_append_right _ (h)))) hown E hh (by decide) (zC_obj (q := 54) rfl) rfl 0 (by decide) (hts (.fieldLink RX6 10 "TownBand" "band" "LTownBand$Band;") (List.mem_cons_of_mem _ (List.mem_append_left _ (List.mem_append_left _ (List.mem_of_getElem? (i := 0) rfl))))) rfl dX6_free_6 ?_
    refine z_getN (v := .int (σ.1 42 6)) hx hb hts (fun w h => List.mem_cons_of_mem _ (List.mem_append_right _ (h))) hown E hh (by decide) (zC_band (by decide) (by decide)) rfl 6 (by decide) (zE_f E 17 rfl) rfl dX6_free_9 ?_
    refine lv_icmp_ge (tgt := 38) hx hb dX6_free_12 (by decide) (fun c_v1 => ?_) (fun c_v1 => ?_)
    · have hf := z_ip hf c_v1
      refine lv_iload_n hx hb dX6_free_38 rfl (lv_at hl 1 rfl) ?_
      have hf := Option.some.inj hf
      subst hf
      exact z_iretX hx hb hr hlocks hh dX6_free_39
    · have hf := z_in hf c_v1
      refine lv_aload_n hx hb dX6_free_15 rfl (lv_at hl 0 rfl) ?_
      refine z_get (v := .ref (g.2.2 42)) hx hb hts (fun w h => List.mem_cons_of_mem _ (List.mem_append_left _ (List.mem_append_right _ (h)))) hown E hh (by decide) (zC_obj (q := 54) rfl) rfl 0 (by decide) (hts (.fieldLink RX6 10 "TownBand" "band" "LTownBand$Band;") (List.mem_cons_of_mem _ (List.mem_append_left _ (List.mem_append_left _ (List.mem_of_getElem? (i := 0) rfl))))) rfl dX6_free_16 ?_
      refine lv_iload_n hx hb dX6_free_19 rfl (lv_at hl 2 rfl) ?_
      obtain ⟨q2, h_q2, hf⟩ := z_bd hf
      refine z_xi (va_runVN (As := [.int x2]) (rest := []) ⟨hx, hb, hml, hown, hts⟩ (zcX0_canClimb l g A σ τ N 42 x2 (by decide) (by decide) h_q2) ⟨va_cnB 1 hts gX6_free_X0_canClimb_n155 rfl rfl rfl (zE_m E 21 rfl) (hts (.initialized RX0) (List.mem_cons_of_mem _ (List.mem_append_left _ (List.mem_append_left _ (List.mem_of_getElem? (i := 2) rfl))))) hdX0_canClimb.2 ⟨by decide, by decide⟩, (hts (.instanceMethod yX0_canClimb) (List.mem_cons_of_mem _ (List.mem_append_left _ (List.mem_append_left _ (List.mem_of_getElem? (i := 1) rfl))))), (hts (.selects RX0 yX0_canClimb yX0_canClimb) (List.mem_cons_of_mem _ (List.mem_append_left _ (List.mem_append_left _ (List.mem_of_getElem? (i := 3) rfl)))))⟩ (z_preV E hh (by decide) (zC_band (by decide) (by decide)) rfl) rfl rfl hl.1 rfl (lv_room (Nat.le_of_ble_eq_true rfl)) dX6_free_20 ⟨Nat.le_refl _, Nat.le_refl _⟩) hh (fun H locs hh => ?_)
      refine lv_if_eq (tgt := 32) hx hb dX6_free_23 (by decide) (fun c_v3 => ?_) (fun c_v3 => ?_)
      · have hf := z_ip hf c_v3
        exact (hX6_free_32 C E N (fX6_free_4 N σ n) ih) x1 x2 _ _ _ hf hh (lv_sub hl [0, 1, 2] rfl)
      · have hf := z_in hf c_v3
        refine lv_iload_n hx hb dX6_free_26 rfl (lv_at hl 1 rfl) ?_
        refine lv_iconst (v := (nI 1)) hx hb dX6_free_27 (by decide) ?_
        refine lv_iload_n hx hb dX6_free_28 rfl (lv_at hl 2 rfl) ?_
        refine lv_ishl hx hb dX6_free_29 ?_
        refine lv_ior hx hb dX6_free_30 ?_
        obtain ⟨v4, e_v4, hf⟩ := z_lt hf
        refine z_topi e_v4 ?_
        refine lv_istore_n (lv' := [(1, .int v4), (0, .ref (g.2.2 54)), (2, .int x2)]) hx hb dX6_free_31 rfl hl (by decide) rfl (fun ls hl => ?_)
        exact (hX6_free_32 C E N (fX6_free_4 N σ n) ih) v4 x2 _ _ _ hf hh (lv_sub hl [1, 0, 2] rfl)
def fX6_free (N : Nat) (σ : zS)  : Option (Int32) :=
  (fX6_free_4 N σ N) (nI 0) (nI 0)
set_option maxRecDepth 100000 in
set_option maxHeartbeats 4000000 in
theorem zcX6_free (l : Launch) (g : zG) (A : Nat → Prop) (σ τ : zS) (N : Nat)   {res : Int32} (hf : fX6_free N σ = some res) : Met l yX6_free wsX6_free (zR 4) (zPc g A σ τ [.ref (g.2.2 54)]) (zQi g A τ (res, σ)) 0 0 A := by
  refine z_met (cc := cX6_free) (ret := (some .int)) (own := RX6) (by decide) rfl rfl _ (Nat.le_of_ble_eq_true rfl) ?_
  intro p e s m below meth c C E ls hl hh
  have hl : lv_has ls 3 [(0, .ref (g.2.2 54))] := hl
  obtain ⟨hx, hb, hr, hml, hown, hts, hlocks⟩ := id C
  unfold fX6_free at hf
  refine lv_iconst (v := (nI 0)) hx hb dX6_free_0 (by decide) ?_
  refine lv_istore_n (lv' := [(1, .int (nI 0)), (0, .ref (g.2.2 54))]) hx hb dX6_free_1 rfl hl (by decide) rfl (fun ls hl => ?_)
  refine lv_iconst (v := (nI 0)) hx hb dX6_free_2 (by decide) ?_
  refine lv_istore_n (lv' := [(2, .int (nI 0)), (1, .int (nI 0)), (0, .ref (g.2.2 54))]) hx hb dX6_free_3 rfl hl (by decide) rfl (fun ls hl => ?_)
  exact (hX6_free_4 C E N N) (nI 0) (nI 0) _ _ _ hf hh (lv_sub hl [2, 1, 0] rfl)
/-! ===== X6_need ===== -/
theorem hdX6_need : yX6_need.cls = RX6 ∧ yX6_need.cls ≠ "java/lang/invoke/MethodHandle" ∧ yX6_need.cls ≠ "java/lang/invoke/VarHandle" ∧ (parseMethodDescriptor yX6_need.desc).map (fun d => d.parameters.length) = some 0 := by decide +kernel
def PX6_need_4 (p : Program) (l : Launch) (e : Env) (s : State) (m : MethodId) (args : Array Value) (below : List Frame) (meth : Method) (c : Code) (g : zG) (A : Nat → Prop) (σ τ : zS) (res : Int32) (f : Int32 → Int32 → Option (Int32)) : Prop := ∀ (x1 : Int32) (x2 : Int32) (H : Heap) (locs : List Loc) (ls : Array Slot), f x1 x2 = some res → zW g A σ τ s H locs → lv_has ls 3 [(0, .ref (g.2.2 54)), (1, .int x1), (2, .int x2)] → W p l e (zR 1) s m args below meth c H locs 0 0 (MQ below (zQi g A τ (res, σ)) args s 0 0 A) (F0 m 4 ls [])
def fX6_need_4 (N : Nat) (σ : zS) : Nat → Int32 → Int32 → Option (Int32)
  | 0, _, _ => none
  | n + 1, x1, x2 =>
    if (σ.1 42 7) ≤ x2 then
      some x1
    else
      if zin x2 (zlen 3) then
      zlet (σ.2 3 x2.toNatClampNeg) fun v3 =>
      zlet (if x1 < ((v3 - ((nI 2) * x2)) + (nI 1)) then ((v3 - ((nI 2) * x2)) + (nI 1)) else x1) fun v4 =>
      (fX6_need_4 N σ n) v4 (x2 + (nI 1))
      else none
set_option maxRecDepth 100000 in
set_option maxHeartbeats 4000000 in
theorem hX6_need_4 {p : Program} {l : Launch} {e : Env} {s : State} {m : MethodId} {args : Array Value} {below : List Frame} {meth : Method} {c : Code} {g : zG} {A : Nat → Prop} {σ τ : zS} {res : Int32} (C : zCx p s m args meth c cX6_need (some .int) wsX6_need RX6 3) (E : zE g A s) (N : Nat) : ∀ n : Nat, PX6_need_4 p l e s m args below meth c g A σ τ res (fX6_need_4 N σ n) := by
  obtain ⟨hx, hb, hr, hml, hown, hts, hlocks⟩ := id C
  intro n
  induction n with
  | zero =>
    intro x1 x2 H locs ls hf
    exact absurd hf (by simp [fX6_need_4])
  | succ n ih =>
    intro x1 x2 H locs ls hf hh hl
    rw [fX6_need_4] at hf
    refine lv_iload_n hx hb dX6_need_4 rfl (lv_at hl 2 rfl) ?_
    refine lv_aload_n hx hb dX6_need_5 rfl (lv_at hl 0 rfl) ?_
    refine z_get (v := .ref (g.2.2 42)) hx hb hts (fun w h => List.mem_cons_of_mem _ (List.mem_append_left _ (List.mem_append_right _ (h)))) hown E hh (by decide) (zC_obj (q := 54) rfl) rfl 0 (by decide) (hts (.fieldLink RX6 10 "TownBand" "band" "LTownBand$Band;") (List.mem_cons_of_mem _ (List.mem_append_left _ (List.mem_append_left _ (List.mem_of_getElem? (i := 0) rfl))))) rfl dX6_need_6 ?_
    refine z_getN (v := .int (σ.1 42 7)) hx hb hts (fun w h => List.mem_cons_of_mem _ (List.mem_append_right _ (h))) hown E hh (by decide) (zC_band (by decide) (by decide)) rfl 7 (by decide) (zE_f E 20 rfl) rfl dX6_need_9 ?_
    refine lv_icmp_ge (tgt := 41) hx hb dX6_need_12 (by decide) (fun c_v1 => ?_) (fun c_v1 => ?_)
    · have hf := z_ip hf c_v1
      refine lv_iload_n hx hb dX6_need_41 rfl (lv_at hl 1 rfl) ?_
      have hf := Option.some.inj hf
      subst hf
      exact z_iretX hx hb hr hlocks hh dX6_need_42
    · have hf := z_in hf c_v1
      refine lv_iload_n hx hb dX6_need_15 rfl (lv_at hl 1 rfl) ?_
      refine lv_aload_n hx hb dX6_need_16 rfl (lv_at hl 0 rfl) ?_
      refine z_get (v := .ref (g.2.2 42)) hx hb hts (fun w h => List.mem_cons_of_mem _ (List.mem_append_left _ (List.mem_append_right _ (h)))) hown E hh (by decide) (zC_obj (q := 54) rfl) rfl 0 (by decide) (hts (.fieldLink RX6 10 "TownBand" "band" "LTownBand$Band;") (List.mem_cons_of_mem _ (List.mem_append_left _ (List.mem_append_left _ (List.mem_of_getElem? (i := 0) rfl))))) rfl dX6_need_17 ?_
      refine z_getN (v := .ref (g.2.2 3)) hx hb hts (fun w h => List.mem_cons_of_mem _ (List.mem_append_right _ (h))) hown E hh (by decide) (zC_band (by decide) (by decide)) rfl 3 (by decide) (zE_f E 9 rfl) rfl dX6_need_20 ?_
      refine lv_iload_n hx hb dX6_need_23 rfl (lv_at hl 2 rfl) ?_
      obtain ⟨h_v2, hf⟩ := z_if hf
      obtain ⟨v3, e_v3, hf⟩ := z_lt hf
      refine z_iald hx hb E hh (by decide) h_v2 e_v3 dX6_need_24 ?_
      refine lv_iconst (v := (nI 2)) hx hb dX6_need_25 (by decide) ?_
      refine lv_iload_n hx hb dX6_need_26 rfl (lv_at hl 2 rfl) ?_
      refine lv_imul hx hb dX6_need_27 ?_
      refine lv_isub hx hb dX6_need_28 ?_
      refine lv_iconst (v := (nI 1)) hx hb dX6_need_29 (by decide) ?_
      refine lv_iadd hx hb dX6_need_30 ?_
      obtain ⟨v4, e_v4, hf⟩ := z_lt hf
      refine va_mmax hx hb (hml.trans hl.1.symm) hown (hts (.methodLink RX6 174 Lib.Math.max.name) (List.mem_cons_of_mem _ (List.mem_append_left _ (List.mem_append_left _ (List.mem_of_getElem? (i := 1) rfl))))) (hts (.static Lib.Math.max.name) (List.mem_cons_of_mem _ (List.mem_append_left _ (List.mem_append_left _ (List.mem_of_getElem? (i := 2) rfl))))) (hts (.initialized "java/lang/Math") (List.mem_cons_of_mem _ (List.mem_append_left _ (List.mem_append_left _ (List.mem_of_getElem? (i := 3) rfl))))) (hts (.code Lib.Math.max.name Lib.Math.max.code 2 (some .int)) (List.mem_cons_of_mem _ (List.mem_append_left _ (List.mem_append_left _ (List.mem_of_getElem? (i := 4) rfl))))) (by decide) (Nat.le_of_ble_eq_true rfl) (Nat.le_refl _) (Nat.le_refl _) dX6_need_31 ?_
      refine z_topi e_v4 ?_
      refine lv_istore_n (lv' := [(1, .int v4), (0, .ref (g.2.2 54)), (2, .int x2)]) hx hb dX6_need_34 rfl hl (by decide) rfl (fun ls hl => ?_)
      refine lv_iinc (v := (x2 + (nI 1))) (lv' := [(2, .int (x2 + (nI 1))), (1, .int v4), (0, .ref (g.2.2 54))]) hx hb dX6_need_35 hl (k := 2) rfl rfl (by decide) rfl (fun ls hl => ?_)
      refine lv_goto (tgt := 4) hx hb dX6_need_38 (by decide) ?_
      exact ih v4 (x2 + (nI 1)) _ _ _ hf hh (lv_sub hl [2, 1, 0] rfl)
def fX6_need (N : Nat) (σ : zS)  : Option (Int32) :=
  (fX6_need_4 N σ N) (nI 0) (nI 0)
set_option maxRecDepth 100000 in
set_option maxHeartbeats 4000000 in
theorem zcX6_need (l : Launch) (g : zG) (A : Nat → Prop) (σ τ : zS) (N : Nat)   {res : Int32} (hf : fX6_need N σ = some res) : Met l yX6_need wsX6_need (zR 1) (zPc g A σ τ [.ref (g.2.2 54)]) (zQi g A τ (res, σ)) 0 0 A := by
  refine z_met (cc := cX6_need) (ret := (some .int)) (own := RX6) (by decide) rfl rfl _ (Nat.le_of_ble_eq_true rfl) ?_
  intro p e s m below meth c C E ls hl hh
  have hl : lv_has ls 3 [(0, .ref (g.2.2 54))] := hl
  obtain ⟨hx, hb, hr, hml, hown, hts, hlocks⟩ := id C
  unfold fX6_need at hf
  refine lv_iconst (v := (nI 0)) hx hb dX6_need_0 (by decide) ?_
  refine lv_istore_n (lv' := [(1, .int (nI 0)), (0, .ref (g.2.2 54))]) hx hb dX6_need_1 rfl hl (by decide) rfl (fun ls hl => ?_)
  refine lv_iconst (v := (nI 0)) hx hb dX6_need_2 (by decide) ?_
  refine lv_istore_n (lv' := [(2, .int (nI 0)), (1, .int (nI 0)), (0, .ref (g.2.2 54))]) hx hb dX6_need_3 rfl hl (by decide) rfl (fun ls hl => ?_)
  exact (hX6_need_4 C E N N) (nI 0) (nI 0) _ _ _ hf hh (lv_sub hl [2, 1, 0] rfl)
/-! ===== X6_best ===== -/
theorem hdX6_best : yX6_best.cls = RX6 ∧ yX6_best.cls ≠ "java/lang/invoke/MethodHandle" ∧ yX6_best.cls ≠ "java/lang/invoke/VarHandle" ∧ (parseMethodDescriptor yX6_best.desc).map (fun d => d.parameters.length) = some 1 := by decide +kernel
def PX6_best_18 (p : Program) (l : Launch) (e : Env) (s : State) (m : MethodId) (args : Array Value) (below : List Frame) (meth : Method) (c : Code) (g : zG) (A : Nat → Prop) (τ : zS) (res : Int32 × zS) (f : Int32 → zS → Option (Int32 × zS)) : Prop := ∀ (x1 : Int32) (σ : zS) (H : Heap) (locs : List Loc) (ls : Array Slot), f x1 σ = some res → zW g A σ τ s H locs → lv_has ls 2 [(0, .ref (g.2.2 54)), (1, .int x1)] → W p l e (zR 12) s m args below meth c H locs 0 0 (MQ below (zQi g A τ res) args s 0 0 A) (F0 m 18 ls [])
def fX6_best_18 (N : Nat) (x1 : Int32) (σ : zS) : Option (Int32 × zS) :=
  (fX5_walk N σ 42 (nI 0)).bind fun q1 =>
  if x1 = (nI 0) then
    some ((q1.1 52 4), q1)
  else
    if x1 = (nI 1) then
      some ((q1.1 52 5), q1)
    else
      if x1 = (nI 2) then
        some ((q1.1 52 3), q1)
      else
        (fX5_foundAt N q1 (x1 - (nI 10))).bind fun q5 =>
        some (q5, q1)
set_option maxRecDepth 100000 in
set_option maxHeartbeats 4000000 in
theorem hX6_best_18 {p : Program} {l : Launch} {e : Env} {s : State} {m : MethodId} {args : Array Value} {below : List Frame} {meth : Method} {c : Code} {g : zG} {A : Nat → Prop} {τ : zS} {res : Int32 × zS} (C : zCx p s m args meth c cX6_best (some .int) wsX6_best RX6 2) (E : zE g A s) (N : Nat) : PX6_best_18 p l e s m args below meth c g A τ res (fX6_best_18 N) := by
  obtain ⟨hx, hb, hr, hml, hown, hts, hlocks⟩ := id C
  intro x1 σ H locs ls hf hh hl
  unfold fX6_best_18 at hf
  refine lv_aload_n hx hb dX6_best_18 rfl (lv_at hl 0 rfl) ?_
  refine z_get (v := .ref (g.2.2 52)) hx hb hts (fun w h => List.mem_cons_of_mem _ (List.mem_append_left _ (List.mem_append_left _ (List.mem_append_right _ (h))))) hown E hh (by decide) (zC_obj (q := 54) rfl) rfl 3 (by decide) (hts (.fieldLink RX6 33 "TownBand" "search" "LTownBand$Towers;") (List.mem_cons_of_mem _ (List.mem_append_left _ (List.mem_append_left _ (List.mem_append_left _ (List.mem_append_left _ (List.mem_of_getElem? (i := 0) rfl))))))) rfl dX6_best_19 ?_
  refine lv_aload_n hx hb dX6_best_22 rfl (lv_at hl 0 rfl) ?_
  refine z_get (v := .ref (g.2.2 42)) hx hb hts (fun w h => List.mem_cons_of_mem _ (List.mem_append_left _ (List.mem_append_left _ (List.mem_append_right _ (h))))) hown E hh (by decide) (zC_obj (q := 54) rfl) rfl 0 (by decide) (hts (.fieldLink RX6 10 "TownBand" "band" "LTownBand$Band;") (List.mem_cons_of_mem _ (List.mem_append_left _ (List.mem_append_left _ (List.mem_append_left _ (List.mem_append_left _ (List.mem_of_getElem? (i := 1) rfl))))))) rfl dX6_best_23 ?_
  refine lv_iconst (v := (nI 0)) hx hb dX6_best_26 (by decide) ?_
  obtain ⟨q1, h_q1, hf⟩ := z_bd hf
  refine z_xv (va_runVN (As := [.ref (g.2.2 42), .int (nI 0)]) (rest := []) ⟨hx, hb, hml, hown, hts⟩ (zcX5_walk l g A σ τ N 42 (nI 0) (by decide) (by decide) h_q1) ⟨va_cnB 2 hts gX6_best_X5_walk_n183 rfl rfl rfl (zE_m E 24 rfl) (hts (.initialized RX5) (List.mem_cons_of_mem _ (List.mem_append_left _ (List.mem_append_left _ (List.mem_append_left _ (List.mem_append_left _ (List.mem_of_getElem? (i := 10) rfl))))))) hdX5_walk.2 ⟨by decide, by decide⟩, (hts (.instanceMethod yX5_walk) (List.mem_cons_of_mem _ (List.mem_append_left _ (List.mem_append_left _ (List.mem_append_left _ (List.mem_append_left _ (List.mem_of_getElem? (i := 9) rfl))))))), (hts (.selects RX5 yX5_walk yX5_walk) (List.mem_cons_of_mem _ (List.mem_append_left _ (List.mem_append_left _ (List.mem_append_left _ (List.mem_append_left _ (List.mem_of_getElem? (i := 11) rfl)))))))⟩ (z_preV E hh (by decide) (zC_obj (q := 52) rfl) rfl) rfl rfl hl.1 rfl (lv_room (Nat.le_of_ble_eq_true rfl)) dX6_best_27 ⟨Nat.le_refl _, Nat.le_refl _⟩) hh (fun H locs hh => ?_)
  refine lv_iload_n hx hb dX6_best_30 rfl (lv_at hl 1 rfl) ?_
  by_cases c_v2 : x1 = (nI 0)
  · have hf := z_ip hf c_v2
    refine z_tbl (tgt := 56) (off := 25) hx hb dX6_best_31 (nI 0) c_v2 (by decide) (by decide) (by decide) (by decide) ?_
    refine lv_aload_n hx hb dX6_best_56 rfl (lv_at hl 0 rfl) ?_
    refine z_get (v := .ref (g.2.2 52)) hx hb hts (fun w h => List.mem_cons_of_mem _ (List.mem_append_left _ (List.mem_append_left _ (List.mem_append_right _ (h))))) hown E hh (by decide) (zC_obj (q := 54) rfl) rfl 3 (by decide) (hts (.fieldLink RX6 33 "TownBand" "search" "LTownBand$Towers;") (List.mem_cons_of_mem _ (List.mem_append_left _ (List.mem_append_left _ (List.mem_append_left _ (List.mem_append_left _ (List.mem_of_getElem? (i := 0) rfl))))))) rfl dX6_best_57 ?_
    refine z_getN (v := .int (q1.1 52 4)) hx hb hts (fun w h => List.mem_cons_of_mem _ (List.mem_append_left _ (List.mem_append_right _ (h)))) hown E hh (by decide) (zC_obj (q := 52) rfl) rfl 4 (by decide) (zE_f E 37 rfl) rfl dX6_best_60 ?_
    have hf := Option.some.inj hf
    subst hf
    exact z_iretX hx hb hr hlocks hh dX6_best_63
  · have hf := z_in hf c_v2
    by_cases c_v3 : x1 = (nI 1)
    · have hf := z_ip hf c_v3
      refine z_tbl (tgt := 64) (off := 33) hx hb dX6_best_31 (nI 1) c_v3 (by decide) (by decide) (by decide) (by decide) ?_
      refine lv_aload_n hx hb dX6_best_64 rfl (lv_at hl 0 rfl) ?_
      refine z_get (v := .ref (g.2.2 52)) hx hb hts (fun w h => List.mem_cons_of_mem _ (List.mem_append_left _ (List.mem_append_left _ (List.mem_append_right _ (h))))) hown E hh (by decide) (zC_obj (q := 54) rfl) rfl 3 (by decide) (hts (.fieldLink RX6 33 "TownBand" "search" "LTownBand$Towers;") (List.mem_cons_of_mem _ (List.mem_append_left _ (List.mem_append_left _ (List.mem_append_left _ (List.mem_append_left _ (List.mem_of_getElem? (i := 0) rfl))))))) rfl dX6_best_65 ?_
      refine z_getN (v := .int (q1.1 52 5)) hx hb hts (fun w h => List.mem_cons_of_mem _ (List.mem_append_left _ (List.mem_append_right _ (h)))) hown E hh (by decide) (zC_obj (q := 52) rfl) rfl 5 (by decide) (zE_f E 38 rfl) rfl dX6_best_68 ?_
      have hf := Option.some.inj hf
      subst hf
      exact z_iretX hx hb hr hlocks hh dX6_best_71
    · have hf := z_in hf c_v3
      by_cases c_v4 : x1 = (nI 2)
      · have hf := z_ip hf c_v4
        refine z_tbl (tgt := 72) (off := 41) hx hb dX6_best_31 (nI 2) c_v4 (by decide) (by decide) (by decide) (by decide) ?_
        refine lv_aload_n hx hb dX6_best_72 rfl (lv_at hl 0 rfl) ?_
        refine z_get (v := .ref (g.2.2 52)) hx hb hts (fun w h => List.mem_cons_of_mem _ (List.mem_append_left _ (List.mem_append_left _ (List.mem_append_right _ (h))))) hown E hh (by decide) (zC_obj (q := 54) rfl) rfl 3 (by decide) (hts (.fieldLink RX6 33 "TownBand" "search" "LTownBand$Towers;") (List.mem_cons_of_mem _ (List.mem_append_left _ (List.mem_append_left _ (List.mem_append_left _ (List.mem_append_left _ (List.mem_of_getElem? (i := 0) rfl))))))) rfl dX6_best_73 ?_
        refine z_getN (v := .int (q1.1 52 3)) hx hb hts (fun w h => List.mem_cons_of_mem _ (List.mem_append_left _ (List.mem_append_right _ (h)))) hown E hh (by decide) (zC_obj (q := 52) rfl) rfl 3 (by decide) (zE_f E 36 rfl) rfl dX6_best_76 ?_
        have hf := Option.some.inj hf
        subst hf
        exact z_iretX hx hb hr hlocks hh dX6_best_79
      · have hf := z_in hf c_v4
        refine lv_tableOut (tgt := 80) hx hb dX6_best_31 (by have n_c_v2 := lv_neT (a := 0) c_v2 (by decide); have n_c_v3 := lv_neT (a := 1) c_v3 (by decide); have n_c_v4 := lv_neT (a := 2) c_v4 (by decide); omega) (by decide) ?_
        refine lv_aload_n hx hb dX6_best_80 rfl (lv_at hl 0 rfl) ?_
        refine z_get (v := .ref (g.2.2 52)) hx hb hts (fun w h => List.mem_cons_of_mem _ (List.mem_append_left _ (List.mem_append_left _ (List.mem_append_right _ (h))))) hown E hh (by decide) (zC_obj (q := 54) rfl) rfl 3 (by decide) (hts (.fieldLink RX6 33 "TownBand" "search" "LTownBand$Towers;") (List.mem_cons_of_mem _ (List.mem_append_left _ (List.mem_append_left _ (List.mem_append_left _ (List.mem_append_left _ (List.mem_of_getElem? (i := 0) rfl))))))) rfl dX6_best_81 ?_
        refine lv_iload_n hx hb dX6_best_84 rfl (lv_at hl 1 rfl) ?_
        refine lv_bipush (v := (nI 10)) hx hb dX6_best_85 (by decide) ?_
        refine lv_isub hx hb dX6_best_87 ?_
        obtain ⟨q5, h_q5, hf⟩ := z_bd hf
        refine z_xi (va_runVN (As := [.int (x1 - (nI 10))]) (rest := []) ⟨hx, hb, hml, hown, hts⟩ (zcX5_foundAt l g A q1 τ N (x1 - (nI 10)) h_q5) ⟨va_cnB 1 hts gX6_best_X5_foundAt_n196 rfl rfl rfl (zE_m E 28 rfl) (hts (.initialized RX5) (List.mem_cons_of_mem _ (List.mem_append_left _ (List.mem_append_left _ (List.mem_append_left _ (List.mem_append_left _ (List.mem_of_getElem? (i := 10) rfl))))))) hdX5_foundAt.2 ⟨by decide, by decide⟩, (hts (.instanceMethod yX5_foundAt) (List.mem_cons_of_mem _ (List.mem_append_left _ (List.mem_append_left _ (List.mem_append_left _ (List.mem_append_right _ (List.mem_append_right _ (List.mem_of_getElem? (i := 19) rfl)))))))), (hts (.selects RX5 yX5_foundAt yX5_foundAt) (List.mem_cons_of_mem _ (List.mem_append_left _ (List.mem_append_left _ (List.mem_append_left _ (List.mem_append_right _ (List.mem_append_right _ (List.mem_of_getElem? (i := 20) rfl))))))))⟩ (z_preV E hh (by decide) (zC_obj (q := 52) rfl) rfl) rfl rfl hl.1 rfl (lv_room (Nat.le_of_ble_eq_true rfl)) dX6_best_88 ⟨Nat.le_refl _, Nat.le_refl _⟩) hh (fun H locs hh => ?_)
        have hf := Option.some.inj hf
        subst hf
        exact z_iretX hx hb hr hlocks hh dX6_best_91
def fX6_best (N : Nat) (σ : zS) (x1 : Int32) : Option (Int32 × zS) :=
  (fX6_within N x1 (nI 0) (nI 2)).bind fun q1 =>
  if q1 = 0 then
    (fX6_isPlace N x1).bind fun q3 =>
    if q3 = 0 then
      some ((-1), σ)
    else
      (fX6_best_18 N) x1 σ
  else
    (fX6_best_18 N) x1 σ
set_option maxRecDepth 100000 in
set_option maxHeartbeats 4000000 in
theorem zcX6_best (l : Launch) (g : zG) (A : Nat → Prop) (σ τ : zS) (N : Nat) (x1 : Int32)  {res : Int32 × zS} (hf : fX6_best N σ x1 = some res) : Met l yX6_best wsX6_best (zR 12) (zPc g A σ τ [.ref (g.2.2 54), .int x1]) (zQi g A τ res) 0 0 A := by
  refine z_met (cc := cX6_best) (ret := (some .int)) (own := RX6) (by decide) rfl rfl _ (Nat.le_of_ble_eq_true rfl) ?_
  intro p e s m below meth c C E ls hl hh
  have hl : lv_has ls 2 [(0, .ref (g.2.2 54)), (1, .int x1)] := hl
  obtain ⟨hx, hb, hr, hml, hown, hts, hlocks⟩ := id C
  unfold fX6_best at hf
  refine lv_iload_n hx hb dX6_best_0 rfl (lv_at hl 1 rfl) ?_
  refine lv_iconst (v := (nI 0)) hx hb dX6_best_1 (by decide) ?_
  refine lv_iconst (v := (nI 2)) hx hb dX6_best_2 (by decide) ?_
  obtain ⟨q1, h_q1, hf⟩ := z_bd hf
  refine z_xi (va_runS (As := [.int x1, .int (nI 0), .int (nI 2)]) (rest := []) ⟨hx, hb, hml, hown, hts⟩ (zcX6_within l g A σ τ N x1 (nI 0) (nI 2) h_q1) (va_cwS 3 hts gX6_best_X6_within rfl rfl rfl hdX6_within.2 ⟨by decide, by decide⟩) (z_preS E hh) rfl rfl hl.1 rfl (lv_room (Nat.le_of_ble_eq_true rfl)) dX6_best_3 ⟨Nat.le_refl _, Nat.le_refl _⟩) hh (fun H locs hh => ?_)
  refine lv_if_ne (tgt := 18) hx hb dX6_best_6 (by decide) (fun c_v2 => ?_) (fun c_v2 => ?_)
  · have hf := z_in hf c_v2
    exact (hX6_best_18 C E N) x1 σ _ _ _ hf hh (lv_sub hl [0, 1] rfl)
  · have hf := z_ip hf c_v2
    refine lv_iload_n hx hb dX6_best_9 rfl (lv_at hl 1 rfl) ?_
    obtain ⟨q3, h_q3, hf⟩ := z_bd hf
    refine z_xi (va_runS (As := [.int x1]) (rest := []) ⟨hx, hb, hml, hown, hts⟩ (zcX6_isPlace l g A σ τ N x1 h_q3) (va_cwS 1 hts gX6_best_X6_isPlace rfl rfl rfl hdX6_isPlace.2 ⟨by decide, by decide⟩) (z_preS E hh) rfl rfl hl.1 rfl (lv_room (Nat.le_of_ble_eq_true rfl)) dX6_best_10 ⟨Nat.le_refl _, Nat.le_refl _⟩) hh (fun H locs hh => ?_)
    refine lv_if_ne (tgt := 18) hx hb dX6_best_13 (by decide) (fun c_v4 => ?_) (fun c_v4 => ?_)
    · have hf := z_in hf c_v4
      exact (hX6_best_18 C E N) x1 σ _ _ _ hf hh (lv_sub hl [0, 1] rfl)
    · have hf := z_ip hf c_v4
      refine lv_iconst (v := (-1)) hx hb dX6_best_16 (by decide) ?_
      have hf := Option.some.inj hf
      subst hf
      exact z_iretX hx hb hr hlocks hh dX6_best_17
/-! ===== X6_few ===== -/
theorem hdX6_few : yX6_few.cls = RX6 ∧ yX6_few.cls ≠ "java/lang/invoke/MethodHandle" ∧ yX6_few.cls ≠ "java/lang/invoke/VarHandle" ∧ (parseMethodDescriptor yX6_few.desc).map (fun d => d.parameters.length) = some 1 := by decide +kernel
def PX6_few_18 (p : Program) (l : Launch) (e : Env) (s : State) (m : MethodId) (args : Array Value) (below : List Frame) (meth : Method) (c : Code) (g : zG) (A : Nat → Prop) (τ : zS) (res : Int32 × zS) (f : Int32 → zS → Option (Int32 × zS)) : Prop := ∀ (x1 : Int32) (σ : zS) (H : Heap) (locs : List Loc) (ls : Array Slot), f x1 σ = some res → zW g A σ τ s H locs → lv_has ls 2 [(0, .ref (g.2.2 54)), (1, .int x1)] → W p l e (zR 12) s m args below meth c H locs 0 0 (MQ below (zQi g A τ res) args s 0 0 A) (F0 m 18 ls [])
def fX6_few_18 (N : Nat) (x1 : Int32) (σ : zS) : Option (Int32 × zS) :=
  (fX5_walk N σ 42 (nI 1)).bind fun q1 =>
  if (q1.1 52 4) = 0 then
    some ((-4), q1)
  else
    if x1 = (nI 0) then
      some ((q1.1 52 3), q1)
    else
      if x1 = (nI 1) then
        some ((q1.1 52 5), q1)
      else
        (fX5_foundAt N q1 (x1 - (nI 10))).bind fun q5 =>
        some (q5, q1)
set_option maxRecDepth 100000 in
set_option maxHeartbeats 4000000 in
theorem hX6_few_18 {p : Program} {l : Launch} {e : Env} {s : State} {m : MethodId} {args : Array Value} {below : List Frame} {meth : Method} {c : Code} {g : zG} {A : Nat → Prop} {τ : zS} {res : Int32 × zS} (C : zCx p s m args meth c cX6_few (some .int) wsX6_few RX6 2) (E : zE g A s) (N : Nat) : PX6_few_18 p l e s m args below meth c g A τ res (fX6_few_18 N) := by
  obtain ⟨hx, hb, hr, hml, hown, hts, hlocks⟩ := id C
  intro x1 σ H locs ls hf hh hl
  unfold fX6_few_18 at hf
  refine lv_aload_n hx hb dX6_few_18 rfl (lv_at hl 0 rfl) ?_
  refine z_get (v := .ref (g.2.2 52)) hx hb hts (fun w h => List.mem_cons_of_mem _ (List.mem_append_left _ (List.mem_append_left _ (List.mem_append_right _ (h))))) hown E hh (by decide) (zC_obj (q := 54) rfl) rfl 3 (by decide) (hts (.fieldLink RX6 33 "TownBand" "search" "LTownBand$Towers;") (List.mem_cons_of_mem _ (List.mem_append_left _ (List.mem_append_left _ (List.mem_append_left _ (List.mem_append_left _ (List.mem_of_getElem? (i := 0) rfl))))))) rfl dX6_few_19 ?_
  refine lv_aload_n hx hb dX6_few_22 rfl (lv_at hl 0 rfl) ?_
  refine z_get (v := .ref (g.2.2 42)) hx hb hts (fun w h => List.mem_cons_of_mem _ (List.mem_append_left _ (List.mem_append_left _ (List.mem_append_right _ (h))))) hown E hh (by decide) (zC_obj (q := 54) rfl) rfl 0 (by decide) (hts (.fieldLink RX6 10 "TownBand" "band" "LTownBand$Band;") (List.mem_cons_of_mem _ (List.mem_append_left _ (List.mem_append_left _ (List.mem_append_left _ (List.mem_append_left _ (List.mem_of_getElem? (i := 1) rfl))))))) rfl dX6_few_23 ?_
  refine lv_iconst (v := (nI 1)) hx hb dX6_few_26 (by decide) ?_
  obtain ⟨q1, h_q1, hf⟩ := z_bd hf
  refine z_xv (va_runVN (As := [.ref (g.2.2 42), .int (nI 1)]) (rest := []) ⟨hx, hb, hml, hown, hts⟩ (zcX5_walk l g A σ τ N 42 (nI 1) (by decide) (by decide) h_q1) ⟨va_cnB 2 hts gX6_few_X5_walk_n183 rfl rfl rfl (zE_m E 24 rfl) (hts (.initialized RX5) (List.mem_cons_of_mem _ (List.mem_append_left _ (List.mem_append_left _ (List.mem_append_left _ (List.mem_append_left _ (List.mem_of_getElem? (i := 10) rfl))))))) hdX5_walk.2 ⟨by decide, by decide⟩, (hts (.instanceMethod yX5_walk) (List.mem_cons_of_mem _ (List.mem_append_left _ (List.mem_append_left _ (List.mem_append_left _ (List.mem_append_left _ (List.mem_of_getElem? (i := 9) rfl))))))), (hts (.selects RX5 yX5_walk yX5_walk) (List.mem_cons_of_mem _ (List.mem_append_left _ (List.mem_append_left _ (List.mem_append_left _ (List.mem_append_left _ (List.mem_of_getElem? (i := 11) rfl)))))))⟩ (z_preV E hh (by decide) (zC_obj (q := 52) rfl) rfl) rfl rfl hl.1 rfl (lv_room (Nat.le_of_ble_eq_true rfl)) dX6_few_27 ⟨Nat.le_refl _, Nat.le_refl _⟩) hh (fun H locs hh => ?_)
  refine lv_aload_n hx hb dX6_few_30 rfl (lv_at hl 0 rfl) ?_
  refine z_get (v := .ref (g.2.2 52)) hx hb hts (fun w h => List.mem_cons_of_mem _ (List.mem_append_left _ (List.mem_append_left _ (List.mem_append_right _ (h))))) hown E hh (by decide) (zC_obj (q := 54) rfl) rfl 3 (by decide) (hts (.fieldLink RX6 33 "TownBand" "search" "LTownBand$Towers;") (List.mem_cons_of_mem _ (List.mem_append_left _ (List.mem_append_left _ (List.mem_append_left _ (List.mem_append_left _ (List.mem_of_getElem? (i := 0) rfl))))))) rfl dX6_few_31 ?_
  refine z_getN (v := .int (q1.1 52 4)) hx hb hts (fun w h => List.mem_cons_of_mem _ (List.mem_append_left _ (List.mem_append_right _ (h)))) hown E hh (by decide) (zC_obj (q := 52) rfl) rfl 4 (by decide) (zE_f E 37 rfl) rfl dX6_few_34 ?_
  refine lv_if_ne (tgt := 43) hx hb dX6_few_37 (by decide) (fun c_v2 => ?_) (fun c_v2 => ?_)
  · have hf := z_in hf c_v2
    refine lv_iload_n hx hb dX6_few_43 rfl (lv_at hl 1 rfl) ?_
    by_cases c_v3 : x1 = (nI 0)
    · have hf := z_ip hf c_v3
      refine lv_lookup (off := 28) (tgt := 72) hx hb dX6_few_44 (by decide) (by rw [c_v3]; decide) (by decide) ?_
      refine lv_aload_n hx hb dX6_few_72 rfl (lv_at hl 0 rfl) ?_
      refine z_get (v := .ref (g.2.2 52)) hx hb hts (fun w h => List.mem_cons_of_mem _ (List.mem_append_left _ (List.mem_append_left _ (List.mem_append_right _ (h))))) hown E hh (by decide) (zC_obj (q := 54) rfl) rfl 3 (by decide) (hts (.fieldLink RX6 33 "TownBand" "search" "LTownBand$Towers;") (List.mem_cons_of_mem _ (List.mem_append_left _ (List.mem_append_left _ (List.mem_append_left _ (List.mem_append_left _ (List.mem_of_getElem? (i := 0) rfl))))))) rfl dX6_few_73 ?_
      refine z_getN (v := .int (q1.1 52 3)) hx hb hts (fun w h => List.mem_cons_of_mem _ (List.mem_append_left _ (List.mem_append_right _ (h)))) hown E hh (by decide) (zC_obj (q := 52) rfl) rfl 3 (by decide) (zE_f E 36 rfl) rfl dX6_few_76 ?_
      have hf := Option.some.inj hf
      subst hf
      exact z_iretX hx hb hr hlocks hh dX6_few_79
    · have hf := z_in hf c_v3
      by_cases c_v4 : x1 = (nI 1)
      · have hf := z_ip hf c_v4
        refine lv_lookup (off := 36) (tgt := 80) hx hb dX6_few_44 (by decide) (by rw [c_v4]; decide) (by decide) ?_
        refine lv_aload_n hx hb dX6_few_80 rfl (lv_at hl 0 rfl) ?_
        refine z_get (v := .ref (g.2.2 52)) hx hb hts (fun w h => List.mem_cons_of_mem _ (List.mem_append_left _ (List.mem_append_left _ (List.mem_append_right _ (h))))) hown E hh (by decide) (zC_obj (q := 54) rfl) rfl 3 (by decide) (hts (.fieldLink RX6 33 "TownBand" "search" "LTownBand$Towers;") (List.mem_cons_of_mem _ (List.mem_append_left _ (List.mem_append_left _ (List.mem_append_left _ (List.mem_append_left _ (List.mem_of_getElem? (i := 0) rfl))))))) rfl dX6_few_81 ?_
        refine z_getN (v := .int (q1.1 52 5)) hx hb hts (fun w h => List.mem_cons_of_mem _ (List.mem_append_left _ (List.mem_append_right _ (h)))) hown E hh (by decide) (zC_obj (q := 52) rfl) rfl 5 (by decide) (zE_f E 38 rfl) rfl dX6_few_84 ?_
        have hf := Option.some.inj hf
        subst hf
        exact z_iretX hx hb hr hlocks hh dX6_few_87
      · have hf := z_in hf c_v4
        refine lv_lookup (off := 44) (tgt := 88) hx hb dX6_few_44 (by decide) (by rw [lv_osw (a := 0) c_v3 (by decide), lv_osw (a := 1) c_v4 (by decide)]; rfl) (by decide) ?_
        refine lv_aload_n hx hb dX6_few_88 rfl (lv_at hl 0 rfl) ?_
        refine z_get (v := .ref (g.2.2 52)) hx hb hts (fun w h => List.mem_cons_of_mem _ (List.mem_append_left _ (List.mem_append_left _ (List.mem_append_right _ (h))))) hown E hh (by decide) (zC_obj (q := 54) rfl) rfl 3 (by decide) (hts (.fieldLink RX6 33 "TownBand" "search" "LTownBand$Towers;") (List.mem_cons_of_mem _ (List.mem_append_left _ (List.mem_append_left _ (List.mem_append_left _ (List.mem_append_left _ (List.mem_of_getElem? (i := 0) rfl))))))) rfl dX6_few_89 ?_
        refine lv_iload_n hx hb dX6_few_92 rfl (lv_at hl 1 rfl) ?_
        refine lv_bipush (v := (nI 10)) hx hb dX6_few_93 (by decide) ?_
        refine lv_isub hx hb dX6_few_95 ?_
        obtain ⟨q5, h_q5, hf⟩ := z_bd hf
        refine z_xi (va_runVN (As := [.int (x1 - (nI 10))]) (rest := []) ⟨hx, hb, hml, hown, hts⟩ (zcX5_foundAt l g A q1 τ N (x1 - (nI 10)) h_q5) ⟨va_cnB 1 hts gX6_few_X5_foundAt_n196 rfl rfl rfl (zE_m E 28 rfl) (hts (.initialized RX5) (List.mem_cons_of_mem _ (List.mem_append_left _ (List.mem_append_left _ (List.mem_append_left _ (List.mem_append_left _ (List.mem_of_getElem? (i := 10) rfl))))))) hdX5_foundAt.2 ⟨by decide, by decide⟩, (hts (.instanceMethod yX5_foundAt) (List.mem_cons_of_mem _ (List.mem_append_left _ (List.mem_append_left _ (List.mem_append_left _ (List.mem_append_right _ (List.mem_append_right _ (List.mem_of_getElem? (i := 19) rfl)))))))), (hts (.selects RX5 yX5_foundAt yX5_foundAt) (List.mem_cons_of_mem _ (List.mem_append_left _ (List.mem_append_left _ (List.mem_append_left _ (List.mem_append_right _ (List.mem_append_right _ (List.mem_of_getElem? (i := 20) rfl))))))))⟩ (z_preV E hh (by decide) (zC_obj (q := 52) rfl) rfl) rfl rfl hl.1 rfl (lv_room (Nat.le_of_ble_eq_true rfl)) dX6_few_96 ⟨Nat.le_refl _, Nat.le_refl _⟩) hh (fun H locs hh => ?_)
        have hf := Option.some.inj hf
        subst hf
        exact z_iretX hx hb hr hlocks hh dX6_few_99
  · have hf := z_ip hf c_v2
    refine lv_bipush (v := (-4)) hx hb dX6_few_40 (by decide) ?_
    have hf := Option.some.inj hf
    subst hf
    exact z_iretX hx hb hr hlocks hh dX6_few_42
def fX6_few (N : Nat) (σ : zS) (x1 : Int32) : Option (Int32 × zS) :=
  (fX6_within N x1 (nI 0) (nI 1)).bind fun q1 =>
  if q1 = 0 then
    (fX6_isPlace N x1).bind fun q3 =>
    if q3 = 0 then
      some ((-1), σ)
    else
      (fX6_few_18 N) x1 σ
  else
    (fX6_few_18 N) x1 σ
set_option maxRecDepth 100000 in
set_option maxHeartbeats 4000000 in
theorem zcX6_few (l : Launch) (g : zG) (A : Nat → Prop) (σ τ : zS) (N : Nat) (x1 : Int32)  {res : Int32 × zS} (hf : fX6_few N σ x1 = some res) : Met l yX6_few wsX6_few (zR 12) (zPc g A σ τ [.ref (g.2.2 54), .int x1]) (zQi g A τ res) 0 0 A := by
  refine z_met (cc := cX6_few) (ret := (some .int)) (own := RX6) (by decide) rfl rfl _ (Nat.le_of_ble_eq_true rfl) ?_
  intro p e s m below meth c C E ls hl hh
  have hl : lv_has ls 2 [(0, .ref (g.2.2 54)), (1, .int x1)] := hl
  obtain ⟨hx, hb, hr, hml, hown, hts, hlocks⟩ := id C
  unfold fX6_few at hf
  refine lv_iload_n hx hb dX6_few_0 rfl (lv_at hl 1 rfl) ?_
  refine lv_iconst (v := (nI 0)) hx hb dX6_few_1 (by decide) ?_
  refine lv_iconst (v := (nI 1)) hx hb dX6_few_2 (by decide) ?_
  obtain ⟨q1, h_q1, hf⟩ := z_bd hf
  refine z_xi (va_runS (As := [.int x1, .int (nI 0), .int (nI 1)]) (rest := []) ⟨hx, hb, hml, hown, hts⟩ (zcX6_within l g A σ τ N x1 (nI 0) (nI 1) h_q1) (va_cwS 3 hts gX6_few_X6_within rfl rfl rfl hdX6_within.2 ⟨by decide, by decide⟩) (z_preS E hh) rfl rfl hl.1 rfl (lv_room (Nat.le_of_ble_eq_true rfl)) dX6_few_3 ⟨Nat.le_refl _, Nat.le_refl _⟩) hh (fun H locs hh => ?_)
  refine lv_if_ne (tgt := 18) hx hb dX6_few_6 (by decide) (fun c_v2 => ?_) (fun c_v2 => ?_)
  · have hf := z_in hf c_v2
    exact (hX6_few_18 C E N) x1 σ _ _ _ hf hh (lv_sub hl [0, 1] rfl)
  · have hf := z_ip hf c_v2
    refine lv_iload_n hx hb dX6_few_9 rfl (lv_at hl 1 rfl) ?_
    obtain ⟨q3, h_q3, hf⟩ := z_bd hf
    refine z_xi (va_runS (As := [.int x1]) (rest := []) ⟨hx, hb, hml, hown, hts⟩ (zcX6_isPlace l g A σ τ N x1 h_q3) (va_cwS 1 hts gX6_few_X6_isPlace rfl rfl rfl hdX6_isPlace.2 ⟨by decide, by decide⟩) (z_preS E hh) rfl rfl hl.1 rfl (lv_room (Nat.le_of_ble_eq_true rfl)) dX6_few_10 ⟨Nat.le_refl _, Nat.le_refl _⟩) hh (fun H locs hh => ?_)
    refine lv_if_ne (tgt := 18) hx hb dX6_few_13 (by decide) (fun c_v4 => ?_) (fun c_v4 => ?_)
    · have hf := z_in hf c_v4
      exact (hX6_few_18 C E N) x1 σ _ _ _ hf hh (lv_sub hl [0, 1] rfl)
    · have hf := z_ip hf c_v4
      refine lv_iconst (v := (-1)) hx hb dX6_few_16 (by decide) ?_
      have hf := Option.some.inj hf
      subst hf
      exact z_iretX hx hb hr hlocks hh dX6_few_17
/-! ===== X6_loud ===== -/
theorem hdX6_loud : yX6_loud.cls = RX6 ∧ yX6_loud.cls ≠ "java/lang/invoke/MethodHandle" ∧ yX6_loud.cls ≠ "java/lang/invoke/VarHandle" ∧ (parseMethodDescriptor yX6_loud.desc).map (fun d => d.parameters.length) = some 1 := by decide +kernel
def PX6_loud_18 (p : Program) (l : Launch) (e : Env) (s : State) (m : MethodId) (args : Array Value) (below : List Frame) (meth : Method) (c : Code) (g : zG) (A : Nat → Prop) (τ : zS) (res : Int32 × zS) (f : Int32 → zS → Option (Int32 × zS)) : Prop := ∀ (x1 : Int32) (σ : zS) (H : Heap) (locs : List Loc) (ls : Array Slot), f x1 σ = some res → zW g A σ τ s H locs → lv_has ls 2 [(0, .ref (g.2.2 54)), (1, .int x1)] → W p l e (zR 12) s m args below meth c H locs 0 0 (MQ below (zQi g A τ res) args s 0 0 A) (F0 m 18 ls [])
def fX6_loud_18 (N : Nat) (x1 : Int32) (σ : zS) : Option (Int32 × zS) :=
  (fX5_walk N σ 42 (nI 2)).bind fun q1 =>
  if x1 = (nI 0) then
    some ((q1.1 52 5), q1)
  else
    if x1 = (nI 1) then
      some ((q1.1 52 3), q1)
    else
      (fX5_foundAt N q1 (x1 - (nI 10))).bind fun q4 =>
      some (q4, q1)
set_option maxRecDepth 100000 in
set_option maxHeartbeats 4000000 in
theorem hX6_loud_18 {p : Program} {l : Launch} {e : Env} {s : State} {m : MethodId} {args : Array Value} {below : List Frame} {meth : Method} {c : Code} {g : zG} {A : Nat → Prop} {τ : zS} {res : Int32 × zS} (C : zCx p s m args meth c cX6_loud (some .int) wsX6_loud RX6 2) (E : zE g A s) (N : Nat) : PX6_loud_18 p l e s m args below meth c g A τ res (fX6_loud_18 N) := by
  obtain ⟨hx, hb, hr, hml, hown, hts, hlocks⟩ := id C
  intro x1 σ H locs ls hf hh hl
  unfold fX6_loud_18 at hf
  refine lv_aload_n hx hb dX6_loud_18 rfl (lv_at hl 0 rfl) ?_
  refine z_get (v := .ref (g.2.2 52)) hx hb hts (fun w h => List.mem_cons_of_mem _ (List.mem_append_left _ (List.mem_append_left _ (List.mem_append_right _ (h))))) hown E hh (by decide) (zC_obj (q := 54) rfl) rfl 3 (by decide) (hts (.fieldLink RX6 33 "TownBand" "search" "LTownBand$Towers;") (List.mem_cons_of_mem _ (List.mem_append_left _ (List.mem_append_left _ (List.mem_append_left _ (List.mem_append_left _ (List.mem_of_getElem? (i := 0) rfl))))))) rfl dX6_loud_19 ?_
  refine lv_aload_n hx hb dX6_loud_22 rfl (lv_at hl 0 rfl) ?_
  refine z_get (v := .ref (g.2.2 42)) hx hb hts (fun w h => List.mem_cons_of_mem _ (List.mem_append_left _ (List.mem_append_left _ (List.mem_append_right _ (h))))) hown E hh (by decide) (zC_obj (q := 54) rfl) rfl 0 (by decide) (hts (.fieldLink RX6 10 "TownBand" "band" "LTownBand$Band;") (List.mem_cons_of_mem _ (List.mem_append_left _ (List.mem_append_left _ (List.mem_append_left _ (List.mem_append_left _ (List.mem_of_getElem? (i := 1) rfl))))))) rfl dX6_loud_23 ?_
  refine lv_iconst (v := (nI 2)) hx hb dX6_loud_26 (by decide) ?_
  obtain ⟨q1, h_q1, hf⟩ := z_bd hf
  refine z_xv (va_runVN (As := [.ref (g.2.2 42), .int (nI 2)]) (rest := []) ⟨hx, hb, hml, hown, hts⟩ (zcX5_walk l g A σ τ N 42 (nI 2) (by decide) (by decide) h_q1) ⟨va_cnB 2 hts gX6_loud_X5_walk_n183 rfl rfl rfl (zE_m E 24 rfl) (hts (.initialized RX5) (List.mem_cons_of_mem _ (List.mem_append_left _ (List.mem_append_left _ (List.mem_append_left _ (List.mem_append_left _ (List.mem_of_getElem? (i := 10) rfl))))))) hdX5_walk.2 ⟨by decide, by decide⟩, (hts (.instanceMethod yX5_walk) (List.mem_cons_of_mem _ (List.mem_append_left _ (List.mem_append_left _ (List.mem_append_left _ (List.mem_append_left _ (List.mem_of_getElem? (i := 9) rfl))))))), (hts (.selects RX5 yX5_walk yX5_walk) (List.mem_cons_of_mem _ (List.mem_append_left _ (List.mem_append_left _ (List.mem_append_left _ (List.mem_append_left _ (List.mem_of_getElem? (i := 11) rfl)))))))⟩ (z_preV E hh (by decide) (zC_obj (q := 52) rfl) rfl) rfl rfl hl.1 rfl (lv_room (Nat.le_of_ble_eq_true rfl)) dX6_loud_27 ⟨Nat.le_refl _, Nat.le_refl _⟩) hh (fun H locs hh => ?_)
  refine lv_iload_n hx hb dX6_loud_30 rfl (lv_at hl 1 rfl) ?_
  by_cases c_v2 : x1 = (nI 0)
  · have hf := z_ip hf c_v2
    refine lv_lookup (off := 25) (tgt := 56) hx hb dX6_loud_31 (by decide) (by rw [c_v2]; decide) (by decide) ?_
    refine lv_aload_n hx hb dX6_loud_56 rfl (lv_at hl 0 rfl) ?_
    refine z_get (v := .ref (g.2.2 52)) hx hb hts (fun w h => List.mem_cons_of_mem _ (List.mem_append_left _ (List.mem_append_left _ (List.mem_append_right _ (h))))) hown E hh (by decide) (zC_obj (q := 54) rfl) rfl 3 (by decide) (hts (.fieldLink RX6 33 "TownBand" "search" "LTownBand$Towers;") (List.mem_cons_of_mem _ (List.mem_append_left _ (List.mem_append_left _ (List.mem_append_left _ (List.mem_append_left _ (List.mem_of_getElem? (i := 0) rfl))))))) rfl dX6_loud_57 ?_
    refine z_getN (v := .int (q1.1 52 5)) hx hb hts (fun w h => List.mem_cons_of_mem _ (List.mem_append_left _ (List.mem_append_right _ (h)))) hown E hh (by decide) (zC_obj (q := 52) rfl) rfl 5 (by decide) (zE_f E 38 rfl) rfl dX6_loud_60 ?_
    have hf := Option.some.inj hf
    subst hf
    exact z_iretX hx hb hr hlocks hh dX6_loud_63
  · have hf := z_in hf c_v2
    by_cases c_v3 : x1 = (nI 1)
    · have hf := z_ip hf c_v3
      refine lv_lookup (off := 33) (tgt := 64) hx hb dX6_loud_31 (by decide) (by rw [c_v3]; decide) (by decide) ?_
      refine lv_aload_n hx hb dX6_loud_64 rfl (lv_at hl 0 rfl) ?_
      refine z_get (v := .ref (g.2.2 52)) hx hb hts (fun w h => List.mem_cons_of_mem _ (List.mem_append_left _ (List.mem_append_left _ (List.mem_append_right _ (h))))) hown E hh (by decide) (zC_obj (q := 54) rfl) rfl 3 (by decide) (hts (.fieldLink RX6 33 "TownBand" "search" "LTownBand$Towers;") (List.mem_cons_of_mem _ (List.mem_append_left _ (List.mem_append_left _ (List.mem_append_left _ (List.mem_append_left _ (List.mem_of_getElem? (i := 0) rfl))))))) rfl dX6_loud_65 ?_
      refine z_getN (v := .int (q1.1 52 3)) hx hb hts (fun w h => List.mem_cons_of_mem _ (List.mem_append_left _ (List.mem_append_right _ (h)))) hown E hh (by decide) (zC_obj (q := 52) rfl) rfl 3 (by decide) (zE_f E 36 rfl) rfl dX6_loud_68 ?_
      have hf := Option.some.inj hf
      subst hf
      exact z_iretX hx hb hr hlocks hh dX6_loud_71
    · have hf := z_in hf c_v3
      refine lv_lookup (off := 41) (tgt := 72) hx hb dX6_loud_31 (by decide) (by rw [lv_osw (a := 0) c_v2 (by decide), lv_osw (a := 1) c_v3 (by decide)]; rfl) (by decide) ?_
      refine lv_aload_n hx hb dX6_loud_72 rfl (lv_at hl 0 rfl) ?_
      refine z_get (v := .ref (g.2.2 52)) hx hb hts (fun w h => List.mem_cons_of_mem _ (List.mem_append_left _ (List.mem_append_left _ (List.mem_append_right _ (h))))) hown E hh (by decide) (zC_obj (q := 54) rfl) rfl 3 (by decide) (hts (.fieldLink RX6 33 "TownBand" "search" "LTownBand$Towers;") (List.mem_cons_of_mem _ (List.mem_append_left _ (List.mem_append_left _ (List.mem_append_left _ (List.mem_append_left _ (List.mem_of_getElem? (i := 0) rfl))))))) rfl dX6_loud_73 ?_
      refine lv_iload_n hx hb dX6_loud_76 rfl (lv_at hl 1 rfl) ?_
      refine lv_bipush (v := (nI 10)) hx hb dX6_loud_77 (by decide) ?_
      refine lv_isub hx hb dX6_loud_79 ?_
      obtain ⟨q4, h_q4, hf⟩ := z_bd hf
      refine z_xi (va_runVN (As := [.int (x1 - (nI 10))]) (rest := []) ⟨hx, hb, hml, hown, hts⟩ (zcX5_foundAt l g A q1 τ N (x1 - (nI 10)) h_q4) ⟨va_cnB 1 hts gX6_loud_X5_foundAt_n196 rfl rfl rfl (zE_m E 28 rfl) (hts (.initialized RX5) (List.mem_cons_of_mem _ (List.mem_append_left _ (List.mem_append_left _ (List.mem_append_left _ (List.mem_append_left _ (List.mem_of_getElem? (i := 10) rfl))))))) hdX5_foundAt.2 ⟨by decide, by decide⟩, (hts (.instanceMethod yX5_foundAt) (List.mem_cons_of_mem _ (List.mem_append_left _ (List.mem_append_left _ (List.mem_append_left _ (List.mem_append_right _ (List.mem_append_right _ (List.mem_of_getElem? (i := 19) rfl)))))))), (hts (.selects RX5 yX5_foundAt yX5_foundAt) (List.mem_cons_of_mem _ (List.mem_append_left _ (List.mem_append_left _ (List.mem_append_left _ (List.mem_append_right _ (List.mem_append_right _ (List.mem_of_getElem? (i := 20) rfl))))))))⟩ (z_preV E hh (by decide) (zC_obj (q := 52) rfl) rfl) rfl rfl hl.1 rfl (lv_room (Nat.le_of_ble_eq_true rfl)) dX6_loud_80 ⟨Nat.le_refl _, Nat.le_refl _⟩) hh (fun H locs hh => ?_)
      have hf := Option.some.inj hf
      subst hf
      exact z_iretX hx hb hr hlocks hh dX6_loud_83
def fX6_loud (N : Nat) (σ : zS) (x1 : Int32) : Option (Int32 × zS) :=
  (fX6_within N x1 (nI 0) (nI 1)).bind fun q1 =>
  if q1 = 0 then
    (fX6_isPlace N x1).bind fun q3 =>
    if q3 = 0 then
      some ((-1), σ)
    else
      (fX6_loud_18 N) x1 σ
  else
    (fX6_loud_18 N) x1 σ
set_option maxRecDepth 100000 in
set_option maxHeartbeats 4000000 in
theorem zcX6_loud (l : Launch) (g : zG) (A : Nat → Prop) (σ τ : zS) (N : Nat) (x1 : Int32)  {res : Int32 × zS} (hf : fX6_loud N σ x1 = some res) : Met l yX6_loud wsX6_loud (zR 12) (zPc g A σ τ [.ref (g.2.2 54), .int x1]) (zQi g A τ res) 0 0 A := by
  refine z_met (cc := cX6_loud) (ret := (some .int)) (own := RX6) (by decide) rfl rfl _ (Nat.le_of_ble_eq_true rfl) ?_
  intro p e s m below meth c C E ls hl hh
  have hl : lv_has ls 2 [(0, .ref (g.2.2 54)), (1, .int x1)] := hl
  obtain ⟨hx, hb, hr, hml, hown, hts, hlocks⟩ := id C
  unfold fX6_loud at hf
  refine lv_iload_n hx hb dX6_loud_0 rfl (lv_at hl 1 rfl) ?_
  refine lv_iconst (v := (nI 0)) hx hb dX6_loud_1 (by decide) ?_
  refine lv_iconst (v := (nI 1)) hx hb dX6_loud_2 (by decide) ?_
  obtain ⟨q1, h_q1, hf⟩ := z_bd hf
  refine z_xi (va_runS (As := [.int x1, .int (nI 0), .int (nI 1)]) (rest := []) ⟨hx, hb, hml, hown, hts⟩ (zcX6_within l g A σ τ N x1 (nI 0) (nI 1) h_q1) (va_cwS 3 hts gX6_loud_X6_within rfl rfl rfl hdX6_within.2 ⟨by decide, by decide⟩) (z_preS E hh) rfl rfl hl.1 rfl (lv_room (Nat.le_of_ble_eq_true rfl)) dX6_loud_3 ⟨Nat.le_refl _, Nat.le_refl _⟩) hh (fun H locs hh => ?_)
  refine lv_if_ne (tgt := 18) hx hb dX6_loud_6 (by decide) (fun c_v2 => ?_) (fun c_v2 => ?_)
  · have hf := z_in hf c_v2
    exact (hX6_loud_18 C E N) x1 σ _ _ _ hf hh (lv_sub hl [0, 1] rfl)
  · have hf := z_ip hf c_v2
    refine lv_iload_n hx hb dX6_loud_9 rfl (lv_at hl 1 rfl) ?_
    obtain ⟨q3, h_q3, hf⟩ := z_bd hf
    refine z_xi (va_runS (As := [.int x1]) (rest := []) ⟨hx, hb, hml, hown, hts⟩ (zcX6_isPlace l g A σ τ N x1 h_q3) (va_cwS 1 hts gX6_loud_X6_isPlace rfl rfl rfl hdX6_isPlace.2 ⟨by decide, by decide⟩) (z_preS E hh) rfl rfl hl.1 rfl (lv_room (Nat.le_of_ble_eq_true rfl)) dX6_loud_10 ⟨Nat.le_refl _, Nat.le_refl _⟩) hh (fun H locs hh => ?_)
    refine lv_if_ne (tgt := 18) hx hb dX6_loud_13 (by decide) (fun c_v4 => ?_) (fun c_v4 => ?_)
    · have hf := z_in hf c_v4
      exact (hX6_loud_18 C E N) x1 σ _ _ _ hf hh (lv_sub hl [0, 1] rfl)
    · have hf := z_ip hf c_v4
      refine lv_iconst (v := (-1)) hx hb dX6_loud_16 (by decide) ?_
      have hf := Option.some.inj hf
      subst hf
      exact z_iretX hx hb hr hlocks hh dX6_loud_17
/-! ===== X6_towers ===== -/
theorem hdX6_towers : yX6_towers.cls = RX6 ∧ yX6_towers.cls ≠ "java/lang/invoke/MethodHandle" ∧ yX6_towers.cls ≠ "java/lang/invoke/VarHandle" ∧ (parseMethodDescriptor yX6_towers.desc).map (fun d => d.parameters.length) = some 0 := by decide +kernel
def fX6_towers (N : Nat) (σ : zS)  : Option (Int32 × zS) :=
  (fX5_walk N σ 42 (nI 2)).bind fun q1 =>
  some ((q1.1 52 6), q1)
set_option maxRecDepth 100000 in
set_option maxHeartbeats 4000000 in
theorem zcX6_towers (l : Launch) (g : zG) (A : Nat → Prop) (σ τ : zS) (N : Nat)   {res : Int32 × zS} (hf : fX6_towers N σ = some res) : Met l yX6_towers wsX6_towers (zR 12) (zPc g A σ τ [.ref (g.2.2 54)]) (zQi g A τ res) 0 0 A := by
  refine z_met (cc := cX6_towers) (ret := (some .int)) (own := RX6) (by decide) rfl rfl _ (Nat.le_of_ble_eq_true rfl) ?_
  intro p e s m below meth c C E ls hl hh
  have hl : lv_has ls 1 [(0, .ref (g.2.2 54))] := hl
  obtain ⟨hx, hb, hr, hml, hown, hts, hlocks⟩ := id C
  unfold fX6_towers at hf
  refine lv_aload_n hx hb dX6_towers_0 rfl (lv_at hl 0 rfl) ?_
  refine z_get (v := .ref (g.2.2 52)) hx hb hts (fun w h => List.mem_cons_of_mem _ (List.mem_append_left _ (List.mem_append_left _ (List.mem_append_right _ (h))))) hown E hh (by decide) (zC_obj (q := 54) rfl) rfl 3 (by decide) (hts (.fieldLink RX6 33 "TownBand" "search" "LTownBand$Towers;") (List.mem_cons_of_mem _ (List.mem_append_left _ (List.mem_append_left _ (List.mem_append_left _ (List.mem_append_left _ (List.mem_of_getElem? (i := 0) rfl))))))) rfl dX6_towers_1 ?_
  refine lv_aload_n hx hb dX6_towers_4 rfl (lv_at hl 0 rfl) ?_
  refine z_get (v := .ref (g.2.2 42)) hx hb hts (fun w h => List.mem_cons_of_mem _ (List.mem_append_left _ (List.mem_append_left _ (List.mem_append_right _ (h))))) hown E hh (by decide) (zC_obj (q := 54) rfl) rfl 0 (by decide) (hts (.fieldLink RX6 10 "TownBand" "band" "LTownBand$Band;") (List.mem_cons_of_mem _ (List.mem_append_left _ (List.mem_append_left _ (List.mem_append_left _ (List.mem_append_left _ (List.mem_of_getElem? (i := 1) rfl))))))) rfl dX6_towers_5 ?_
  refine lv_iconst (v := (nI 2)) hx hb dX6_towers_8 (by decide) ?_
  obtain ⟨q1, h_q1, hf⟩ := z_bd hf
  refine z_xv (va_runVN (As := [.ref (g.2.2 42), .int (nI 2)]) (rest := []) ⟨hx, hb, hml, hown, hts⟩ (zcX5_walk l g A σ τ N 42 (nI 2) (by decide) (by decide) h_q1) ⟨va_cnB 2 hts gX6_towers_X5_walk_n183 rfl rfl rfl (zE_m E 24 rfl) (hts (.initialized RX5) (List.mem_cons_of_mem _ (List.mem_append_left _ (List.mem_append_left _ (List.mem_append_left _ (List.mem_append_left _ (List.mem_of_getElem? (i := 3) rfl))))))) hdX5_walk.2 ⟨by decide, by decide⟩, (hts (.instanceMethod yX5_walk) (List.mem_cons_of_mem _ (List.mem_append_left _ (List.mem_append_left _ (List.mem_append_left _ (List.mem_append_left _ (List.mem_of_getElem? (i := 2) rfl))))))), (hts (.selects RX5 yX5_walk yX5_walk) (List.mem_cons_of_mem _ (List.mem_append_left _ (List.mem_append_left _ (List.mem_append_left _ (List.mem_append_left _ (List.mem_of_getElem? (i := 4) rfl)))))))⟩ (z_preV E hh (by decide) (zC_obj (q := 52) rfl) rfl) rfl rfl hl.1 rfl (lv_room (Nat.le_of_ble_eq_true rfl)) dX6_towers_9 ⟨Nat.le_refl _, Nat.le_refl _⟩) hh (fun H locs hh => ?_)
  refine lv_aload_n hx hb dX6_towers_12 rfl (lv_at hl 0 rfl) ?_
  refine z_get (v := .ref (g.2.2 52)) hx hb hts (fun w h => List.mem_cons_of_mem _ (List.mem_append_left _ (List.mem_append_left _ (List.mem_append_right _ (h))))) hown E hh (by decide) (zC_obj (q := 54) rfl) rfl 3 (by decide) (hts (.fieldLink RX6 33 "TownBand" "search" "LTownBand$Towers;") (List.mem_cons_of_mem _ (List.mem_append_left _ (List.mem_append_left _ (List.mem_append_left _ (List.mem_append_left _ (List.mem_of_getElem? (i := 0) rfl))))))) rfl dX6_towers_13 ?_
  refine z_getN (v := .int (q1.1 52 6)) hx hb hts (fun w h => List.mem_cons_of_mem _ (List.mem_append_left _ (List.mem_append_right _ (h)))) hown E hh (by decide) (zC_obj (q := 52) rfl) rfl 6 (by decide) (zE_f E 39 rfl) rfl dX6_towers_16 ?_
  have hf := Option.some.inj hf
  subst hf
  exact z_iretX hx hb hr hlocks hh dX6_towers_19
/-! ===== X6_tale ===== -/
theorem hdX6_tale : yX6_tale.cls = RX6 ∧ yX6_tale.cls ≠ "java/lang/invoke/MethodHandle" ∧ yX6_tale.cls ≠ "java/lang/invoke/VarHandle" ∧ (parseMethodDescriptor yX6_tale.desc).map (fun d => d.parameters.length) = some 1 := by decide +kernel
def fX6_tale (N : Nat) (σ : zS) (x1 : Int32) : Option (Int32) :=
  (fX0_metOn N σ 42 5).bind fun q1 =>
  if x1 = (nI 0) then
    (fX0_hurtBehind N σ 42 5 q1).bind fun q3 =>
    some q3
  else
    if x1 = (nI 1) then
      some q1
    else
      if x1 = (nI 2) then
        (fX0_hurtBehind N σ 42 5 q1).bind fun q6 =>
        some ((nI 9) * q6)
      else
        some (-1)
set_option maxRecDepth 100000 in
set_option maxHeartbeats 4000000 in
theorem zcX6_tale (l : Launch) (g : zG) (A : Nat → Prop) (σ τ : zS) (N : Nat) (x1 : Int32)  {res : Int32} (hf : fX6_tale N σ x1 = some res) : Met l yX6_tale wsX6_tale (zR 3) (zPc g A σ τ [.ref (g.2.2 54), .int x1]) (zQi g A τ (res, σ)) 0 0 A := by
  refine z_met (cc := cX6_tale) (ret := (some .int)) (own := RX6) (by decide) rfl rfl _ (Nat.le_of_ble_eq_true rfl) ?_
  intro p e s m below meth c C E ls hl hh
  have hl : lv_has ls 3 [(0, .ref (g.2.2 54)), (1, .int x1)] := hl
  obtain ⟨hx, hb, hr, hml, hown, hts, hlocks⟩ := id C
  unfold fX6_tale at hf
  refine lv_aload_n hx hb dX6_tale_0 rfl (lv_at hl 0 rfl) ?_
  refine z_get (v := .ref (g.2.2 42)) hx hb hts (fun w h => List.mem_cons_of_mem _ (List.mem_append_left _ (List.mem_append_right _ (h)))) hown E hh (by decide) (zC_obj (q := 54) rfl) rfl 0 (by decide) (hts (.fieldLink RX6 10 "TownBand" "band" "LTownBand$Band;") (List.mem_cons_of_mem _ (List.mem_append_left _ (List.mem_append_left _ (List.mem_of_getElem? (i := 0) rfl))))) rfl dX6_tale_1 ?_
  refine lv_aload_n hx hb dX6_tale_4 rfl (lv_at hl 0 rfl) ?_
  refine z_get (v := .ref (g.2.2 42)) hx hb hts (fun w h => List.mem_cons_of_mem _ (List.mem_append_left _ (List.mem_append_right _ (h)))) hown E hh (by decide) (zC_obj (q := 54) rfl) rfl 0 (by decide) (hts (.fieldLink RX6 10 "TownBand" "band" "LTownBand$Band;") (List.mem_cons_of_mem _ (List.mem_append_left _ (List.mem_append_left _ (List.mem_of_getElem? (i := 0) rfl))))) rfl dX6_tale_5 ?_
  refine z_getN (v := .ref (g.2.2 5)) hx hb hts (fun w h => List.mem_cons_of_mem _ (List.mem_append_right _ (h))) hown E hh (by decide) (zC_band (by decide) (by decide)) rfl 5 (by decide) (zE_f E 13 rfl) rfl dX6_tale_8 ?_
  obtain ⟨q1, h_q1, hf⟩ := z_bd hf
  refine z_xi (va_runVN (As := [.ref (g.2.2 5)]) (rest := []) ⟨hx, hb, hml, hown, hts⟩ (zcX0_metOn l g A σ τ N 42 5 (by decide) (by decide) (by decide) h_q1) ⟨va_cnB 1 hts gX6_tale_X0_metOn_n202 rfl rfl rfl (zE_m E 30 rfl) (hts (.initialized RX0) (List.mem_cons_of_mem _ (List.mem_append_left _ (List.mem_append_left _ (List.mem_of_getElem? (i := 2) rfl))))) hdX0_metOn.2 ⟨by decide, by decide⟩, (hts (.instanceMethod yX0_metOn) (List.mem_cons_of_mem _ (List.mem_append_left _ (List.mem_append_left _ (List.mem_of_getElem? (i := 1) rfl))))), (hts (.selects RX0 yX0_metOn yX0_metOn) (List.mem_cons_of_mem _ (List.mem_append_left _ (List.mem_append_left _ (List.mem_of_getElem? (i := 3) rfl)))))⟩ (z_preV E hh (by decide) (zC_band (by decide) (by decide)) rfl) rfl rfl hl.1 rfl (lv_room (Nat.le_of_ble_eq_true rfl)) dX6_tale_11 ⟨Nat.le_refl _, Nat.le_refl _⟩) hh (fun H locs hh => ?_)
  refine lv_istore_n (lv' := [(2, .int q1), (0, .ref (g.2.2 54)), (1, .int x1)]) hx hb dX6_tale_14 rfl hl (by decide) rfl (fun ls hl => ?_)
  refine lv_iload_n hx hb dX6_tale_15 rfl (lv_at hl 2 rfl) ?_
  by_cases c_v2 : x1 = (nI 0)
  · have hf := z_ip hf c_v2
    refine z_tbl (tgt := 44) (off := 28) hx hb dX6_tale_16 (nI 0) c_v2 (by decide) (by decide) (by decide) (by decide) ?_
    refine lv_aload_n hx hb dX6_tale_44 rfl (lv_at hl 1 rfl) ?_
    refine z_get (v := .ref (g.2.2 42)) hx hb hts (fun w h => List.mem_cons_of_mem _ (List.mem_append_left _ (List.mem_append_right _ (h)))) hown E hh (by decide) (zC_obj (q := 54) rfl) rfl 0 (by decide) (hts (.fieldLink RX6 10 "TownBand" "band" "LTownBand$Band;") (List.mem_cons_of_mem _ (List.mem_append_left _ (List.mem_append_left _ (List.mem_of_getElem? (i := 0) rfl))))) rfl dX6_tale_45 ?_
    refine lv_aload_n hx hb dX6_tale_48 rfl (lv_at hl 1 rfl) ?_
    refine z_get (v := .ref (g.2.2 42)) hx hb hts (fun w h => List.mem_cons_of_mem _ (List.mem_append_left _ (List.mem_append_right _ (h)))) hown E hh (by decide) (zC_obj (q := 54) rfl) rfl 0 (by decide) (hts (.fieldLink RX6 10 "TownBand" "band" "LTownBand$Band;") (List.mem_cons_of_mem _ (List.mem_append_left _ (List.mem_append_left _ (List.mem_of_getElem? (i := 0) rfl))))) rfl dX6_tale_49 ?_
    refine z_getN (v := .ref (g.2.2 5)) hx hb hts (fun w h => List.mem_cons_of_mem _ (List.mem_append_right _ (h))) hown E hh (by decide) (zC_band (by decide) (by decide)) rfl 5 (by decide) (zE_f E 13 rfl) rfl dX6_tale_52 ?_
    refine lv_iload_n hx hb dX6_tale_55 rfl (lv_at hl 0 rfl) ?_
    obtain ⟨q3, h_q3, hf⟩ := z_bd hf
    refine z_xi (va_runVN (As := [.ref (g.2.2 5), .int q1]) (rest := []) ⟨hx, hb, hml, hown, hts⟩ (zcX0_hurtBehind l g A σ τ N 42 5 q1 (by decide) (by decide) (by decide) h_q3) ⟨va_cnB 2 hts gX6_tale_X0_hurtBehind_n206 rfl rfl rfl (zE_m E 31 rfl) (hts (.initialized RX0) (List.mem_cons_of_mem _ (List.mem_append_left _ (List.mem_append_left _ (List.mem_of_getElem? (i := 2) rfl))))) hdX0_hurtBehind.2 ⟨by decide, by decide⟩, (hts (.instanceMethod yX0_hurtBehind) (List.mem_cons_of_mem _ (List.mem_append_left _ (List.mem_append_left _ (List.mem_of_getElem? (i := 15) rfl))))), (hts (.selects RX0 yX0_hurtBehind yX0_hurtBehind) (List.mem_cons_of_mem _ (List.mem_append_left _ (List.mem_append_left _ (List.mem_of_getElem? (i := 16) rfl)))))⟩ (z_preV E hh (by decide) (zC_band (by decide) (by decide)) rfl) rfl rfl hl.1 rfl (lv_room (Nat.le_of_ble_eq_true rfl)) dX6_tale_56 ⟨Nat.le_refl _, Nat.le_refl _⟩) hh (fun H locs hh => ?_)
    have hf := Option.some.inj hf
    subst hf
    exact z_iretX hx hb hr hlocks hh dX6_tale_59
  · have hf := z_in hf c_v2
    by_cases c_v4 : x1 = (nI 1)
    · have hf := z_ip hf c_v4
      refine z_tbl (tgt := 60) (off := 44) hx hb dX6_tale_16 (nI 1) c_v4 (by decide) (by decide) (by decide) (by decide) ?_
      refine lv_iload_n hx hb dX6_tale_60 rfl (lv_at hl 0 rfl) ?_
      have hf := Option.some.inj hf
      subst hf
      exact z_iretX hx hb hr hlocks hh dX6_tale_61
    · have hf := z_in hf c_v4
      by_cases c_v5 : x1 = (nI 2)
      · have hf := z_ip hf c_v5
        refine z_tbl (tgt := 62) (off := 46) hx hb dX6_tale_16 (nI 2) c_v5 (by decide) (by decide) (by decide) (by decide) ?_
        refine lv_bipush (v := (nI 9)) hx hb dX6_tale_62 (by decide) ?_
        refine lv_aload_n hx hb dX6_tale_64 rfl (lv_at hl 1 rfl) ?_
        refine z_get (v := .ref (g.2.2 42)) hx hb hts (fun w h => List.mem_cons_of_mem _ (List.mem_append_left _ (List.mem_append_right _ (h)))) hown E hh (by decide) (zC_obj (q := 54) rfl) rfl 0 (by decide) (hts (.fieldLink RX6 10 "TownBand" "band" "LTownBand$Band;") (List.mem_cons_of_mem _ (List.mem_append_left _ (List.mem_append_left _ (List.mem_of_getElem? (i := 0) rfl))))) rfl dX6_tale_65 ?_
        refine lv_aload_n hx hb dX6_tale_68 rfl (lv_at hl 1 rfl) ?_
        refine z_get (v := .ref (g.2.2 42)) hx hb hts (fun w h => List.mem_cons_of_mem _ (List.mem_append_left _ (List.mem_append_right _ (h)))) hown E hh (by decide) (zC_obj (q := 54) rfl) rfl 0 (by decide) (hts (.fieldLink RX6 10 "TownBand" "band" "LTownBand$Band;") (List.mem_cons_of_mem _ (List.mem_append_left _ (List.mem_append_left _ (List.mem_of_getElem? (i := 0) rfl))))) rfl dX6_tale_69 ?_
        refine z_getN (v := .ref (g.2.2 5)) hx hb hts (fun w h => List.mem_cons_of_mem _ (List.mem_append_right _ (h))) hown E hh (by decide) (zC_band (by decide) (by decide)) rfl 5 (by decide) (zE_f E 13 rfl) rfl dX6_tale_72 ?_
        refine lv_iload_n hx hb dX6_tale_75 rfl (lv_at hl 0 rfl) ?_
        obtain ⟨q6, h_q6, hf⟩ := z_bd hf
        refine z_xi (va_runVN (As := [.ref (g.2.2 5), .int q1]) (rest := [.int (nI 9)]) ⟨hx, hb, hml, hown, hts⟩ (zcX0_hurtBehind l g A σ τ N 42 5 q1 (by decide) (by decide) (by decide) h_q6) ⟨va_cnB 2 hts gX6_tale_X0_hurtBehind_n206 rfl rfl rfl (zE_m E 31 rfl) (hts (.initialized RX0) (List.mem_cons_of_mem _ (List.mem_append_left _ (List.mem_append_left _ (List.mem_of_getElem? (i := 2) rfl))))) hdX0_hurtBehind.2 ⟨by decide, by decide⟩, (hts (.instanceMethod yX0_hurtBehind) (List.mem_cons_of_mem _ (List.mem_append_left _ (List.mem_append_left _ (List.mem_of_getElem? (i := 15) rfl))))), (hts (.selects RX0 yX0_hurtBehind yX0_hurtBehind) (List.mem_cons_of_mem _ (List.mem_append_left _ (List.mem_append_left _ (List.mem_of_getElem? (i := 16) rfl)))))⟩ (z_preV E hh (by decide) (zC_band (by decide) (by decide)) rfl) rfl rfl hl.1 rfl (lv_room (Nat.le_of_ble_eq_true rfl)) dX6_tale_76 ⟨Nat.le_refl _, Nat.le_refl _⟩) hh (fun H locs hh => ?_)
        refine lv_imul hx hb dX6_tale_79 ?_
        have hf := Option.some.inj hf
        subst hf
        exact z_iretX hx hb hr hlocks hh dX6_tale_80
      · have hf := z_in hf c_v5
        refine lv_tableOut (tgt := 81) hx hb dX6_tale_16 (by have n_c_v2 := lv_neT (a := 0) c_v2 (by decide); have n_c_v4 := lv_neT (a := 1) c_v4 (by decide); have n_c_v5 := lv_neT (a := 2) c_v5 (by decide); omega) (by decide) ?_
        refine lv_iconst (v := (-1)) hx hb dX6_tale_81 (by decide) ?_
        have hf := Option.some.inj hf
        subst hf
        exact z_iretX hx hb hr hlocks hh dX6_tale_82
/-! ===== X6_beds ===== -/
theorem hdX6_beds : yX6_beds.cls = RX6 ∧ yX6_beds.cls ≠ "java/lang/invoke/MethodHandle" ∧ yX6_beds.cls ≠ "java/lang/invoke/VarHandle" ∧ (parseMethodDescriptor yX6_beds.desc).map (fun d => d.parameters.length) = some 1 := by decide +kernel
def PX6_beds_27 (p : Program) (l : Launch) (e : Env) (s : State) (m : MethodId) (args : Array Value) (below : List Frame) (meth : Method) (c : Code) (g : zG) (A : Nat → Prop) (τ : zS) (res : Int32 × zS) (f : Int32 → zS → Option (Int32 × zS)) : Prop := ∀ (x1 : Int32) (σ : zS) (H : Heap) (locs : List Loc) (ls : Array Slot), f x1 σ = some res → zW g A σ τ s H locs → lv_has ls 2 [(0, .ref (g.2.2 54)), (1, .int x1)] → W p l e (zR 4) s m args below meth c H locs 0 0 (MQ below (zQi g A τ res) args s 0 0 A) (F0 m 27 ls [])
def fX6_beds_27 (N : Nat) (x1 : Int32) (σ : zS) : Option (Int32 × zS) :=
  (fX1_seekWorst N σ 42).bind fun q1 =>
  if x1 = 0 then
    some ((q1.1 53 5), q1)
  else
    if zin (x1 - (nI 10)) (zlen 31) then
    zlet (q1.2 31 (x1 - (nI 10)).toNatClampNeg) fun v4 =>
    some (v4, q1)
    else none
set_option maxRecDepth 100000 in
set_option maxHeartbeats 4000000 in
theorem hX6_beds_27 {p : Program} {l : Launch} {e : Env} {s : State} {m : MethodId} {args : Array Value} {below : List Frame} {meth : Method} {c : Code} {g : zG} {A : Nat → Prop} {τ : zS} {res : Int32 × zS} (C : zCx p s m args meth c cX6_beds (some .int) wsX6_beds RX6 2) (E : zE g A s) (N : Nat) : PX6_beds_27 p l e s m args below meth c g A τ res (fX6_beds_27 N) := by
  obtain ⟨hx, hb, hr, hml, hown, hts, hlocks⟩ := id C
  intro x1 σ H locs ls hf hh hl
  unfold fX6_beds_27 at hf
  refine lv_aload_n hx hb dX6_beds_27 rfl (lv_at hl 0 rfl) ?_
  refine z_get (v := .ref (g.2.2 53)) hx hb hts (fun w h => List.mem_cons_of_mem _ (List.mem_append_left _ (List.mem_append_left _ (List.mem_append_right _ (h))))) hown E hh (by decide) (zC_obj (q := 54) rfl) rfl 4 (by decide) (hts (.fieldLink RX6 40 "TownBand" "orders" "LTownBand$Orders;") (List.mem_cons_of_mem _ (List.mem_append_left _ (List.mem_append_left _ (List.mem_append_left _ (List.mem_append_left _ (List.mem_of_getElem? (i := 1) rfl))))))) rfl dX6_beds_28 ?_
  refine lv_aload_n hx hb dX6_beds_31 rfl (lv_at hl 0 rfl) ?_
  refine z_get (v := .ref (g.2.2 42)) hx hb hts (fun w h => List.mem_cons_of_mem _ (List.mem_append_left _ (List.mem_append_left _ (List.mem_append_right _ (h))))) hown E hh (by decide) (zC_obj (q := 54) rfl) rfl 0 (by decide) (hts (.fieldLink RX6 10 "TownBand" "band" "LTownBand$Band;") (List.mem_cons_of_mem _ (List.mem_append_left _ (List.mem_append_left _ (List.mem_append_left _ (List.mem_append_left _ (List.mem_of_getElem? (i := 0) rfl))))))) rfl dX6_beds_32 ?_
  obtain ⟨q1, h_q1, hf⟩ := z_bd hf
  refine z_xv (va_runVN (As := [.ref (g.2.2 42)]) (rest := []) ⟨hx, hb, hml, hown, hts⟩ (zcX1_seekWorst l g A σ τ N 42 (by decide) (by decide) h_q1) ⟨va_cnB 1 hts gX6_beds_X1_seekWorst_n210 rfl rfl rfl (zE_m E 32 rfl) (hts (.initialized RX1) (List.mem_cons_of_mem _ (List.mem_append_left _ (List.mem_append_left _ (List.mem_append_left _ (List.mem_append_left _ (List.mem_of_getElem? (i := 7) rfl))))))) hdX1_seekWorst.2 ⟨by decide, by decide⟩, (hts (.instanceMethod yX1_seekWorst) (List.mem_cons_of_mem _ (List.mem_append_left _ (List.mem_append_left _ (List.mem_append_left _ (List.mem_append_left _ (List.mem_of_getElem? (i := 6) rfl))))))), (hts (.selects RX1 yX1_seekWorst yX1_seekWorst) (List.mem_cons_of_mem _ (List.mem_append_left _ (List.mem_append_left _ (List.mem_append_left _ (List.mem_append_left _ (List.mem_of_getElem? (i := 8) rfl)))))))⟩ (z_preV E hh (by decide) (zC_obj (q := 53) rfl) rfl) rfl rfl hl.1 rfl (lv_room (Nat.le_of_ble_eq_true rfl)) dX6_beds_35 ⟨Nat.le_refl _, Nat.le_refl _⟩) hh (fun H locs hh => ?_)
  refine lv_iload_n hx hb dX6_beds_38 rfl (lv_at hl 1 rfl) ?_
  refine lv_if_ne (tgt := 52) hx hb dX6_beds_39 (by decide) (fun c_v2 => ?_) (fun c_v2 => ?_)
  · have hf := z_in hf c_v2
    refine lv_aload_n hx hb dX6_beds_52 rfl (lv_at hl 0 rfl) ?_
    refine z_get (v := .ref (g.2.2 53)) hx hb hts (fun w h => List.mem_cons_of_mem _ (List.mem_append_left _ (List.mem_append_left _ (List.mem_append_right _ (h))))) hown E hh (by decide) (zC_obj (q := 54) rfl) rfl 4 (by decide) (hts (.fieldLink RX6 40 "TownBand" "orders" "LTownBand$Orders;") (List.mem_cons_of_mem _ (List.mem_append_left _ (List.mem_append_left _ (List.mem_append_left _ (List.mem_append_left _ (List.mem_of_getElem? (i := 1) rfl))))))) rfl dX6_beds_53 ?_
    refine z_getN (v := .ref (g.2.2 31)) hx hb hts (fun w h => List.mem_cons_of_mem _ (List.mem_append_right _ (h))) hown E hh (by decide) (zC_obj (q := 53) rfl) rfl 1 (by decide) (zE_f E 40 rfl) rfl dX6_beds_56 ?_
    refine lv_iload_n hx hb dX6_beds_59 rfl (lv_at hl 1 rfl) ?_
    refine lv_bipush (v := (nI 10)) hx hb dX6_beds_60 (by decide) ?_
    refine lv_isub hx hb dX6_beds_62 ?_
    obtain ⟨h_v3, hf⟩ := z_if hf
    obtain ⟨v4, e_v4, hf⟩ := z_lt hf
    refine z_iald hx hb E hh (by decide) h_v3 e_v4 dX6_beds_63 ?_
    have hf := Option.some.inj hf
    subst hf
    exact z_iretX hx hb hr hlocks hh dX6_beds_64
  · have hf := z_ip hf c_v2
    refine lv_aload_n hx hb dX6_beds_42 rfl (lv_at hl 0 rfl) ?_
    refine z_get (v := .ref (g.2.2 53)) hx hb hts (fun w h => List.mem_cons_of_mem _ (List.mem_append_left _ (List.mem_append_left _ (List.mem_append_right _ (h))))) hown E hh (by decide) (zC_obj (q := 54) rfl) rfl 4 (by decide) (hts (.fieldLink RX6 40 "TownBand" "orders" "LTownBand$Orders;") (List.mem_cons_of_mem _ (List.mem_append_left _ (List.mem_append_left _ (List.mem_append_left _ (List.mem_append_left _ (List.mem_of_getElem? (i := 1) rfl))))))) rfl dX6_beds_43 ?_
    refine z_getN (v := .int (q1.1 53 5)) hx hb hts (fun w h => List.mem_cons_of_mem _ (List.mem_append_right _ (h))) hown E hh (by decide) (zC_obj (q := 53) rfl) rfl 5 (by decide) (zE_f E 43 rfl) rfl dX6_beds_46 ?_
    refine lv_goto (tgt := 64) hx hb dX6_beds_49 (by decide) ?_
    have hf := Option.some.inj hf
    subst hf
    exact z_iretX hx hb hr hlocks hh dX6_beds_64
def fX6_beds (N : Nat) (σ : zS) (x1 : Int32) : Option (Int32 × zS) :=
  if x1 = 0 then
    (fX6_beds_27 N) x1 σ
  else
    (fX6_within N x1 (nI 10) (((nI 10) + (σ.1 42 6)) - (nI 1))).bind fun q2 =>
    if q2 = 0 then
      some ((-1), σ)
    else
      (fX6_beds_27 N) x1 σ
set_option maxRecDepth 100000 in
set_option maxHeartbeats 4000000 in
theorem zcX6_beds (l : Launch) (g : zG) (A : Nat → Prop) (σ τ : zS) (N : Nat) (x1 : Int32)  {res : Int32 × zS} (hf : fX6_beds N σ x1 = some res) : Met l yX6_beds wsX6_beds (zR 4) (zPc g A σ τ [.ref (g.2.2 54), .int x1]) (zQi g A τ res) 0 0 A := by
  refine z_met (cc := cX6_beds) (ret := (some .int)) (own := RX6) (by decide) rfl rfl _ (Nat.le_of_ble_eq_true rfl) ?_
  intro p e s m below meth c C E ls hl hh
  have hl : lv_has ls 2 [(0, .ref (g.2.2 54)), (1, .int x1)] := hl
  obtain ⟨hx, hb, hr, hml, hown, hts, hlocks⟩ := id C
  unfold fX6_beds at hf
  refine lv_iload_n hx hb dX6_beds_0 rfl (lv_at hl 1 rfl) ?_
  refine lv_if_eq (tgt := 27) hx hb dX6_beds_1 (by decide) (fun c_v1 => ?_) (fun c_v1 => ?_)
  · have hf := z_ip hf c_v1
    exact (hX6_beds_27 C E N) x1 σ _ _ _ hf hh (lv_sub hl [0, 1] rfl)
  · have hf := z_in hf c_v1
    refine lv_iload_n hx hb dX6_beds_4 rfl (lv_at hl 1 rfl) ?_
    refine lv_bipush (v := (nI 10)) hx hb dX6_beds_5 (by decide) ?_
    refine lv_bipush (v := (nI 10)) hx hb dX6_beds_7 (by decide) ?_
    refine lv_aload_n hx hb dX6_beds_9 rfl (lv_at hl 0 rfl) ?_
    refine z_get (v := .ref (g.2.2 42)) hx hb hts (fun w h => List.mem_cons_of_mem _ (List.mem_append_left _ (List.mem_append_left _ (List.mem_append_right _ (h))))) hown E hh (by decide) (zC_obj (q := 54) rfl) rfl 0 (by decide) (hts (.fieldLink RX6 10 "TownBand" "band" "LTownBand$Band;") (List.mem_cons_of_mem _ (List.mem_append_left _ (List.mem_append_left _ (List.mem_append_left _ (List.mem_append_left _ (List.mem_of_getElem? (i := 0) rfl))))))) rfl dX6_beds_10 ?_
    refine z_getN (v := .int (σ.1 42 6)) hx hb hts (fun w h => List.mem_cons_of_mem _ (List.mem_append_left _ (List.mem_append_right _ (h)))) hown E hh (by decide) (zC_band (by decide) (by decide)) rfl 6 (by decide) (zE_f E 17 rfl) rfl dX6_beds_13 ?_
    refine lv_iadd hx hb dX6_beds_16 ?_
    refine lv_iconst (v := (nI 1)) hx hb dX6_beds_17 (by decide) ?_
    refine lv_isub hx hb dX6_beds_18 ?_
    obtain ⟨q2, h_q2, hf⟩ := z_bd hf
    refine z_xi (va_runS (As := [.int x1, .int (nI 10), .int (((nI 10) + (σ.1 42 6)) - (nI 1))]) (rest := []) ⟨hx, hb, hml, hown, hts⟩ (zcX6_within l g A σ τ N x1 (nI 10) (((nI 10) + (σ.1 42 6)) - (nI 1)) h_q2) (va_cwS 3 hts gX6_beds_X6_within rfl rfl rfl hdX6_within.2 ⟨by decide, by decide⟩) (z_preS E hh) rfl rfl hl.1 rfl (lv_room (Nat.le_of_ble_eq_true rfl)) dX6_beds_19 ⟨Nat.le_refl _, Nat.le_refl _⟩) hh (fun H locs hh => ?_)
    refine lv_if_ne (tgt := 27) hx hb dX6_beds_22 (by decide) (fun c_v3 => ?_) (fun c_v3 => ?_)
    · have hf := z_in hf c_v3
      exact (hX6_beds_27 C E N) x1 σ _ _ _ hf hh (lv_sub hl [0, 1] rfl)
    · have hf := z_ip hf c_v3
      refine lv_iconst (v := (-1)) hx hb dX6_beds_25 (by decide) ?_
      have hf := Option.some.inj hf
      subst hf
      exact z_iretX hx hb hr hlocks hh dX6_beds_26
/-! ===== X6_brave ===== -/
theorem hdX6_brave : yX6_brave.cls = RX6 ∧ yX6_brave.cls ≠ "java/lang/invoke/MethodHandle" ∧ yX6_brave.cls ≠ "java/lang/invoke/VarHandle" ∧ (parseMethodDescriptor yX6_brave.desc).map (fun d => d.parameters.length) = some 0 := by decide +kernel
def fX6_brave (N : Nat) (σ : zS)  : Option (Int32) :=
  (fX0_hurtBehind N σ 42 5 ((σ.1 42 6) - (nI 1))).bind fun q1 =>
  if (nI 40) < q1 then
    some (-4)
  else
    some q1
set_option maxRecDepth 100000 in
set_option maxHeartbeats 4000000 in
theorem zcX6_brave (l : Launch) (g : zG) (A : Nat → Prop) (σ τ : zS) (N : Nat)   {res : Int32} (hf : fX6_brave N σ = some res) : Met l yX6_brave wsX6_brave (zR 3) (zPc g A σ τ [.ref (g.2.2 54)]) (zQi g A τ (res, σ)) 0 0 A := by
  refine z_met (cc := cX6_brave) (ret := (some .int)) (own := RX6) (by decide) rfl rfl _ (Nat.le_of_ble_eq_true rfl) ?_
  intro p e s m below meth c C E ls hl hh
  have hl : lv_has ls 2 [(0, .ref (g.2.2 54))] := hl
  obtain ⟨hx, hb, hr, hml, hown, hts, hlocks⟩ := id C
  unfold fX6_brave at hf
  refine lv_aload_n hx hb dX6_brave_0 rfl (lv_at hl 0 rfl) ?_
  refine z_get (v := .ref (g.2.2 42)) hx hb hts (fun w h => List.mem_cons_of_mem _ (List.mem_append_left _ (List.mem_append_right _ (h)))) hown E hh (by decide) (zC_obj (q := 54) rfl) rfl 0 (by decide) (hts (.fieldLink RX6 10 "TownBand" "band" "LTownBand$Band;") (List.mem_cons_of_mem _ (List.mem_append_left _ (List.mem_append_left _ (List.mem_of_getElem? (i := 0) rfl))))) rfl dX6_brave_1 ?_
  refine lv_aload_n hx hb dX6_brave_4 rfl (lv_at hl 0 rfl) ?_
  refine z_get (v := .ref (g.2.2 42)) hx hb hts (fun w h => List.mem_cons_of_mem _ (List.mem_append_left _ (List.mem_append_right _ (h)))) hown E hh (by decide) (zC_obj (q := 54) rfl) rfl 0 (by decide) (hts (.fieldLink RX6 10 "TownBand" "band" "LTownBand$Band;") (List.mem_cons_of_mem _ (List.mem_append_left _ (List.mem_append_left _ (List.mem_of_getElem? (i := 0) rfl))))) rfl dX6_brave_5 ?_
  refine z_getN (v := .ref (g.2.2 5)) hx hb hts (fun w h => List.mem_cons_of_mem _ (List.mem_append_right _ (h))) hown E hh (by decide) (zC_band (by decide) (by decide)) rfl 5 (by decide) (zE_f E 13 rfl) rfl dX6_brave_8 ?_
  refine lv_aload_n hx hb dX6_brave_11 rfl (lv_at hl 0 rfl) ?_
  refine z_get (v := .ref (g.2.2 42)) hx hb hts (fun w h => List.mem_cons_of_mem _ (List.mem_append_left _ (List.mem_append_right _ (h)))) hown E hh (by decide) (zC_obj (q := 54) rfl) rfl 0 (by decide) (hts (.fieldLink RX6 10 "TownBand" "band" "LTownBand$Band;") (List.mem_cons_of_mem _ (List.mem_append_left _ (List.mem_append_left _ (List.mem_of_getElem? (i := 0) rfl))))) rfl dX6_brave_12 ?_
  refine z_getN (v := .int (σ.1 42 6)) hx hb hts (fun w h => List.mem_cons_of_mem _ (List.mem_append_right _ (h))) hown E hh (by decide) (zC_band (by decide) (by decide)) rfl 6 (by decide) (zE_f E 17 rfl) rfl dX6_brave_15 ?_
  refine lv_iconst (v := (nI 1)) hx hb dX6_brave_18 (by decide) ?_
  refine lv_isub hx hb dX6_brave_19 ?_
  obtain ⟨q1, h_q1, hf⟩ := z_bd hf
  refine z_xi (va_runVN (As := [.ref (g.2.2 5), .int ((σ.1 42 6) - (nI 1))]) (rest := []) ⟨hx, hb, hml, hown, hts⟩ (zcX0_hurtBehind l g A σ τ N 42 5 ((σ.1 42 6) - (nI 1)) (by decide) (by decide) (by decide) h_q1) ⟨va_cnB 2 hts gX6_brave_X0_hurtBehind_n206 rfl rfl rfl (zE_m E 31 rfl) (hts (.initialized RX0) (List.mem_cons_of_mem _ (List.mem_append_left _ (List.mem_append_left _ (List.mem_of_getElem? (i := 2) rfl))))) hdX0_hurtBehind.2 ⟨by decide, by decide⟩, (hts (.instanceMethod yX0_hurtBehind) (List.mem_cons_of_mem _ (List.mem_append_left _ (List.mem_append_left _ (List.mem_of_getElem? (i := 1) rfl))))), (hts (.selects RX0 yX0_hurtBehind yX0_hurtBehind) (List.mem_cons_of_mem _ (List.mem_append_left _ (List.mem_append_left _ (List.mem_of_getElem? (i := 3) rfl)))))⟩ (z_preV E hh (by decide) (zC_band (by decide) (by decide)) rfl) rfl rfl hl.1 rfl (lv_room (Nat.le_of_ble_eq_true rfl)) dX6_brave_20 ⟨Nat.le_refl _, Nat.le_refl _⟩) hh (fun H locs hh => ?_)
  refine lv_istore_n (lv' := [(1, .int q1), (0, .ref (g.2.2 54))]) hx hb dX6_brave_23 rfl hl (by decide) rfl (fun ls hl => ?_)
  refine lv_iload_n hx hb dX6_brave_24 rfl (lv_at hl 0 rfl) ?_
  refine lv_bipush (v := (nI 40)) hx hb dX6_brave_25 (by decide) ?_
  refine lv_icmp_gt (tgt := 34) hx hb dX6_brave_27 (by decide) (fun c_v2 => ?_) (fun c_v2 => ?_)
  · have hf := z_ip hf c_v2
    refine lv_bipush (v := (-4)) hx hb dX6_brave_34 (by decide) ?_
    have hf := Option.some.inj hf
    subst hf
    exact z_iretX hx hb hr hlocks hh dX6_brave_36
  · have hf := z_in hf c_v2
    refine lv_iload_n hx hb dX6_brave_30 rfl (lv_at hl 0 rfl) ?_
    refine lv_goto (tgt := 36) hx hb dX6_brave_31 (by decide) ?_
    have hf := Option.some.inj hf
    subst hf
    exact z_iretX hx hb hr hlocks hh dX6_brave_36
/-! ===== X6_value ===== -/
theorem hdX6_value : yX6_value.cls = RX6 ∧ yX6_value.cls ≠ "java/lang/invoke/MethodHandle" ∧ yX6_value.cls ≠ "java/lang/invoke/VarHandle" ∧ (parseMethodDescriptor yX6_value.desc).map (fun d => d.parameters.length) = some 1 := by decide +kernel
def fX6_value (N : Nat) (σ : zS) (x1 : Int32) : Option (Int32 × zS) :=
  (fX6_within N x1 (nI 0) (((nI 1) <<< ((σ.1 42 6) &&& 31)) - (nI 1))).bind fun q1 =>
  if q1 = 0 then
    some ((-1), σ)
  else
    (fX5_walk N σ 42 (nI 0)).bind fun q3 =>
    if zin x1 (zlen 29) then
    zlet (q3.2 29 x1.toNatClampNeg) fun v5 =>
    some (v5, q3)
    else none
set_option maxRecDepth 100000 in
set_option maxHeartbeats 4000000 in
theorem zcX6_value (l : Launch) (g : zG) (A : Nat → Prop) (σ τ : zS) (N : Nat) (x1 : Int32)  {res : Int32 × zS} (hf : fX6_value N σ x1 = some res) : Met l yX6_value wsX6_value (zR 12) (zPc g A σ τ [.ref (g.2.2 54), .int x1]) (zQi g A τ res) 0 0 A := by
  refine z_met (cc := cX6_value) (ret := (some .int)) (own := RX6) (by decide) rfl rfl _ (Nat.le_of_ble_eq_true rfl) ?_
  intro p e s m below meth c C E ls hl hh
  have hl : lv_has ls 2 [(0, .ref (g.2.2 54)), (1, .int x1)] := hl
  obtain ⟨hx, hb, hr, hml, hown, hts, hlocks⟩ := id C
  unfold fX6_value at hf
  refine lv_iload_n hx hb dX6_value_0 rfl (lv_at hl 1 rfl) ?_
  refine lv_iconst (v := (nI 0)) hx hb dX6_value_1 (by decide) ?_
  refine lv_iconst (v := (nI 1)) hx hb dX6_value_2 (by decide) ?_
  refine lv_aload_n hx hb dX6_value_3 rfl (lv_at hl 0 rfl) ?_
  refine z_get (v := .ref (g.2.2 42)) hx hb hts (fun w h => List.mem_cons_of_mem _ (List.mem_append_left _ (List.mem_append_left _ (List.mem_append_right _ (h))))) hown E hh (by decide) (zC_obj (q := 54) rfl) rfl 0 (by decide) (hts (.fieldLink RX6 10 "TownBand" "band" "LTownBand$Band;") (List.mem_cons_of_mem _ (List.mem_append_left _ (List.mem_append_left _ (List.mem_append_left _ (List.mem_append_left _ (List.mem_of_getElem? (i := 0) rfl))))))) rfl dX6_value_4 ?_
  refine z_getN (v := .int (σ.1 42 6)) hx hb hts (fun w h => List.mem_cons_of_mem _ (List.mem_append_left _ (List.mem_append_right _ (h)))) hown E hh (by decide) (zC_band (by decide) (by decide)) rfl 6 (by decide) (zE_f E 17 rfl) rfl dX6_value_7 ?_
  refine lv_ishl hx hb dX6_value_10 ?_
  refine lv_iconst (v := (nI 1)) hx hb dX6_value_11 (by decide) ?_
  refine lv_isub hx hb dX6_value_12 ?_
  obtain ⟨q1, h_q1, hf⟩ := z_bd hf
  refine z_xi (va_runS (As := [.int x1, .int (nI 0), .int (((nI 1) <<< ((σ.1 42 6) &&& 31)) - (nI 1))]) (rest := []) ⟨hx, hb, hml, hown, hts⟩ (zcX6_within l g A σ τ N x1 (nI 0) (((nI 1) <<< ((σ.1 42 6) &&& 31)) - (nI 1)) h_q1) (va_cwS 3 hts gX6_value_X6_within rfl rfl rfl hdX6_within.2 ⟨by decide, by decide⟩) (z_preS E hh) rfl rfl hl.1 rfl (lv_room (Nat.le_of_ble_eq_true rfl)) dX6_value_13 ⟨Nat.le_refl _, Nat.le_refl _⟩) hh (fun H locs hh => ?_)
  refine lv_if_ne (tgt := 21) hx hb dX6_value_16 (by decide) (fun c_v2 => ?_) (fun c_v2 => ?_)
  · have hf := z_in hf c_v2
    refine lv_aload_n hx hb dX6_value_21 rfl (lv_at hl 0 rfl) ?_
    refine z_get (v := .ref (g.2.2 52)) hx hb hts (fun w h => List.mem_cons_of_mem _ (List.mem_append_left _ (List.mem_append_left _ (List.mem_append_right _ (h))))) hown E hh (by decide) (zC_obj (q := 54) rfl) rfl 3 (by decide) (hts (.fieldLink RX6 33 "TownBand" "search" "LTownBand$Towers;") (List.mem_cons_of_mem _ (List.mem_append_left _ (List.mem_append_left _ (List.mem_append_left _ (List.mem_append_left _ (List.mem_of_getElem? (i := 1) rfl))))))) rfl dX6_value_22 ?_
    refine lv_aload_n hx hb dX6_value_25 rfl (lv_at hl 0 rfl) ?_
    refine z_get (v := .ref (g.2.2 42)) hx hb hts (fun w h => List.mem_cons_of_mem _ (List.mem_append_left _ (List.mem_append_left _ (List.mem_append_right _ (h))))) hown E hh (by decide) (zC_obj (q := 54) rfl) rfl 0 (by decide) (hts (.fieldLink RX6 10 "TownBand" "band" "LTownBand$Band;") (List.mem_cons_of_mem _ (List.mem_append_left _ (List.mem_append_left _ (List.mem_append_left _ (List.mem_append_left _ (List.mem_of_getElem? (i := 0) rfl))))))) rfl dX6_value_26 ?_
    refine lv_iconst (v := (nI 0)) hx hb dX6_value_29 (by decide) ?_
    obtain ⟨q3, h_q3, hf⟩ := z_bd hf
    refine z_xv (va_runVN (As := [.ref (g.2.2 42), .int (nI 0)]) (rest := []) ⟨hx, hb, hml, hown, hts⟩ (zcX5_walk l g A σ τ N 42 (nI 0) (by decide) (by decide) h_q3) ⟨va_cnB 2 hts gX6_value_X5_walk_n183 rfl rfl rfl (zE_m E 24 rfl) (hts (.initialized RX5) (List.mem_cons_of_mem _ (List.mem_append_left _ (List.mem_append_left _ (List.mem_append_left _ (List.mem_append_left _ (List.mem_of_getElem? (i := 7) rfl))))))) hdX5_walk.2 ⟨by decide, by decide⟩, (hts (.instanceMethod yX5_walk) (List.mem_cons_of_mem _ (List.mem_append_left _ (List.mem_append_left _ (List.mem_append_left _ (List.mem_append_left _ (List.mem_of_getElem? (i := 6) rfl))))))), (hts (.selects RX5 yX5_walk yX5_walk) (List.mem_cons_of_mem _ (List.mem_append_left _ (List.mem_append_left _ (List.mem_append_left _ (List.mem_append_left _ (List.mem_of_getElem? (i := 8) rfl)))))))⟩ (z_preV E hh (by decide) (zC_obj (q := 52) rfl) rfl) rfl rfl hl.1 rfl (lv_room (Nat.le_of_ble_eq_true rfl)) dX6_value_30 ⟨Nat.le_refl _, Nat.le_refl _⟩) hh (fun H locs hh => ?_)
    refine lv_aload_n hx hb dX6_value_33 rfl (lv_at hl 0 rfl) ?_
    refine z_get (v := .ref (g.2.2 52)) hx hb hts (fun w h => List.mem_cons_of_mem _ (List.mem_append_left _ (List.mem_append_left _ (List.mem_append_right _ (h))))) hown E hh (by decide) (zC_obj (q := 54) rfl) rfl 3 (by decide) (hts (.fieldLink RX6 33 "TownBand" "search" "LTownBand$Towers;") (List.mem_cons_of_mem _ (List.mem_append_left _ (List.mem_append_left _ (List.mem_append_left _ (List.mem_append_left _ (List.mem_of_getElem? (i := 1) rfl))))))) rfl dX6_value_34 ?_
    refine z_getN (v := .ref (g.2.2 29)) hx hb hts (fun w h => List.mem_cons_of_mem _ (List.mem_append_right _ (h))) hown E hh (by decide) (zC_obj (q := 52) rfl) rfl 2 (by decide) (zE_f E 35 rfl) rfl dX6_value_37 ?_
    refine lv_iload_n hx hb dX6_value_40 rfl (lv_at hl 1 rfl) ?_
    obtain ⟨h_v4, hf⟩ := z_if hf
    obtain ⟨v5, e_v5, hf⟩ := z_lt hf
    refine z_iald hx hb E hh (by decide) h_v4 e_v5 dX6_value_41 ?_
    have hf := Option.some.inj hf
    subst hf
    exact z_iretX hx hb hr hlocks hh dX6_value_42
  · have hf := z_ip hf c_v2
    refine lv_iconst (v := (-1)) hx hb dX6_value_19 (by decide) ?_
    have hf := Option.some.inj hf
    subst hf
    exact z_iretX hx hb hr hlocks hh dX6_value_20
/-! ===== X6_share ===== -/
theorem hdX6_share : yX6_share.cls = RX6 ∧ yX6_share.cls ≠ "java/lang/invoke/MethodHandle" ∧ yX6_share.cls ≠ "java/lang/invoke/VarHandle" ∧ (parseMethodDescriptor yX6_share.desc).map (fun d => d.parameters.length) = some 2 := by decide +kernel
def PX6_share_133 (p : Program) (l : Launch) (e : Env) (s : State) (m : MethodId) (args : Array Value) (below : List Frame) (meth : Method) (c : Code) (g : zG) (A : Nat → Prop) (τ : zS) (res : Int64 × zS) (f : Int32 → Int64 → zS → Option (Int64 × zS)) : Prop := ∀ (x2 : Int32) (x3 : Int64) (σ : zS) (H : Heap) (locs : List Loc) (ls : Array Slot), f x2 x3 σ = some res → zW g A σ τ s H locs → lv_has ls 9 [(0, .ref (g.2.2 54)), (2, .int x2), (3, .long x3)] → W p l e (zR 12) s m args below meth c H locs 0 0 (MQ below (zQl g A τ res) args s 0 0 A) (F0 m 133 ls [])
def PX6_share_127 (p : Program) (l : Launch) (e : Env) (s : State) (m : MethodId) (args : Array Value) (below : List Frame) (meth : Method) (c : Code) (g : zG) (A : Nat → Prop) (τ : zS) (res : Int64 × zS) (f : Int32 → Int32 → Int64 → Int32 → zS → Option (Int64 × zS)) : Prop := ∀ (x1 : Int32) (x2 : Int32) (x3 : Int64) (x5 : Int32) (σ : zS) (H : Heap) (locs : List Loc) (ls : Array Slot), f x1 x2 x3 x5 σ = some res → zW g A σ τ s H locs → lv_has ls 9 [(0, .ref (g.2.2 54)), (1, .int x1), (2, .int x2), (3, .long x3), (5, .int x5)] → W p l e (zR 12) s m args below meth c H locs 0 0 (MQ below (zQl g A τ res) args s 0 0 A) (F0 m 127 ls [])
def PX6_share_41 (p : Program) (l : Launch) (e : Env) (s : State) (m : MethodId) (args : Array Value) (below : List Frame) (meth : Method) (c : Code) (g : zG) (A : Nat → Prop) (τ : zS) (res : Int64 × zS) (f : Int32 → Int32 → Int64 → Int32 → zS → Option (Int64 × zS)) : Prop := ∀ (x1 : Int32) (x2 : Int32) (x3 : Int64) (x5 : Int32) (σ : zS) (H : Heap) (locs : List Loc) (ls : Array Slot), f x1 x2 x3 x5 σ = some res → zW g A σ τ s H locs → lv_has ls 9 [(0, .ref (g.2.2 54)), (1, .int x1), (2, .int x2), (3, .long x3), (5, .int x5)] → W p l e (zR 12) s m args below meth c H locs 0 0 (MQ below (zQl g A τ res) args s 0 0 A) (F0 m 41 ls [])
def PX6_share_20 (p : Program) (l : Launch) (e : Env) (s : State) (m : MethodId) (args : Array Value) (below : List Frame) (meth : Method) (c : Code) (g : zG) (A : Nat → Prop) (τ : zS) (res : Int64 × zS) (f : zS → Option (Int64 × zS)) : Prop := ∀  (σ : zS) (H : Heap) (locs : List Loc) (ls : Array Slot), f σ = some res → zW g A σ τ s H locs → lv_has ls 9 [] → W p l e (zR 12) s m args below meth c H locs 0 0 (MQ below (zQl g A τ res) args s 0 0 A) (F0 m 20 ls [])
def fX6_share_133 (N : Nat) (x2 : Int32) (x3 : Int64) (σ : zS) : Option (Int64 × zS) :=
  (fX6_factorial N (σ.1 42 6)).bind fun q1 =>
  (fX6_partOf N x3 q1.toInt64 x2).bind fun q2 =>
  some (q2, σ)
set_option maxRecDepth 100000 in
set_option maxHeartbeats 4000000 in
theorem hX6_share_133 {p : Program} {l : Launch} {e : Env} {s : State} {m : MethodId} {args : Array Value} {below : List Frame} {meth : Method} {c : Code} {g : zG} {A : Nat → Prop} {τ : zS} {res : Int64 × zS} (C : zCx p s m args meth c cX6_share (some .long) wsX6_share RX6 9) (E : zE g A s) (N : Nat) : PX6_share_133 p l e s m args below meth c g A τ res (fX6_share_133 N) := by
  obtain ⟨hx, hb, hr, hml, hown, hts, hlocks⟩ := id C
  intro x2 x3 σ H locs ls hf hh hl
  unfold fX6_share_133 at hf
  refine lv_lload_n hx hb dX6_share_133 rfl (lv_at hl 2 rfl) ?_
  refine lv_aload_n hx hb dX6_share_134 rfl (lv_at hl 0 rfl) ?_
  refine z_get (v := .ref (g.2.2 42)) hx hb hts (fun w h => List.mem_cons_of_mem _ (List.mem_append_left _ (List.mem_append_left _ (List.mem_append_right _ (h))))) hown E hh (by decide) (zC_obj (q := 54) rfl) rfl 0 (by decide) (hts (.fieldLink RX6 10 "TownBand" "band" "LTownBand$Band;") (List.mem_cons_of_mem _ (List.mem_append_left _ (List.mem_append_left _ (List.mem_append_left _ (List.mem_append_left _ (List.mem_of_getElem? (i := 0) rfl))))))) rfl dX6_share_135 ?_
  refine z_getN (v := .int (σ.1 42 6)) hx hb hts (fun w h => List.mem_cons_of_mem _ (List.mem_append_left _ (List.mem_append_right _ (h)))) hown E hh (by decide) (zC_band (by decide) (by decide)) rfl 6 (by decide) (zE_f E 17 rfl) rfl dX6_share_138 ?_
  obtain ⟨q1, h_q1, hf⟩ := z_bd hf
  refine z_xi (va_runS (As := [.int (σ.1 42 6)]) (rest := [.long x3]) ⟨hx, hb, hml, hown, hts⟩ (zcX6_factorial l g A σ τ N (σ.1 42 6) h_q1) (va_cwS 1 hts gX6_share_X6_factorial rfl rfl rfl hdX6_factorial.2 ⟨by decide, by decide⟩) (z_preS E hh) rfl rfl hl.1 rfl (lv_room (Nat.le_of_ble_eq_true rfl)) dX6_share_141 ⟨Nat.le_refl _, Nat.le_refl _⟩) hh (fun H locs hh => ?_)
  refine lv_i2l hx hb dX6_share_144 rfl ?_
  refine lv_iload_n hx hb dX6_share_145 rfl (lv_at hl 1 rfl) ?_
  obtain ⟨q2, h_q2, hf⟩ := z_bd hf
  refine z_xl (va_runS (As := [.long x3, .long q1.toInt64, .int x2]) (rest := []) ⟨hx, hb, hml, hown, hts⟩ (zcX6_partOf l g A σ τ N x3 q1.toInt64 x2 h_q2) (va_cwS 3 hts gX6_share_X6_partOf rfl rfl rfl hdX6_partOf.2 ⟨by decide, by decide⟩) (z_preS E hh) rfl rfl hl.1 rfl (lv_room (Nat.le_of_ble_eq_true rfl)) dX6_share_146 ⟨Nat.le_refl _, Nat.le_refl _⟩) hh (fun H locs hh => ?_)
  have hf := Option.some.inj hf
  subst hf
  exact z_lretX hx hb hr hlocks hh dX6_share_149
def fX6_share_127 (N : Nat) (rc : Int32 → Int32 → Int64 → Int32 → zS → Option (Int64 × zS)) (k_133 : Int32 → Int64 → zS → Option (Int64 × zS)) (x1 : Int32) (x2 : Int32) (x3 : Int64) (x5 : Int32) (σ : zS) : Option (Int64 × zS) :=
  rc x1 x2 x3 (x5 + (nI 1)) σ
set_option maxRecDepth 100000 in
set_option maxHeartbeats 4000000 in
theorem hX6_share_127 {p : Program} {l : Launch} {e : Env} {s : State} {m : MethodId} {args : Array Value} {below : List Frame} {meth : Method} {c : Code} {g : zG} {A : Nat → Prop} {τ : zS} {res : Int64 × zS} (C : zCx p s m args meth c cX6_share (some .long) wsX6_share RX6 9) (E : zE g A s) (N : Nat) (rc : Int32 → Int32 → Int64 → Int32 → zS → Option (Int64 × zS)) (hrc : PX6_share_41 p l e s m args below meth c g A τ res rc) (k_133 : Int32 → Int64 → zS → Option (Int64 × zS)) (hk_133 : PX6_share_133 p l e s m args below meth c g A τ res k_133) : PX6_share_127 p l e s m args below meth c g A τ res (fX6_share_127 N rc k_133) := by
  obtain ⟨hx, hb, hr, hml, hown, hts, hlocks⟩ := id C
  intro x1 x2 x3 x5 σ H locs ls hf hh hl
  unfold fX6_share_127 at hf
  refine lv_iinc (v := (x5 + (nI 1))) (lv' := [(5, .int (x5 + (nI 1))), (0, .ref (g.2.2 54)), (1, .int x1), (2, .int x2), (3, .long x3)]) hx hb dX6_share_127 hl (k := 4) rfl rfl (by decide) rfl (fun ls hl => ?_)
  refine lv_goto (tgt := 41) hx hb dX6_share_130 (by decide) ?_
  exact hrc x1 x2 x3 (x5 + (nI 1)) σ _ _ _ hf hh (lv_sub hl [1, 2, 3, 4, 0] rfl)
def fX6_share_41 (N : Nat) (k_133 : Int32 → Int64 → zS → Option (Int64 × zS)) : Nat → Int32 → Int32 → Int64 → Int32 → zS → Option (Int64 × zS)
  | 0, _, _, _, _, _ => none
  | n + 1, x1, x2, x3, x5, σ =>
    if ((nI 1) <<< ((σ.1 42 6) &&& 31)) ≤ x5 then
      k_133 x2 x3 σ
    else
      if ((x5 >>> (x1 &&& 31)) &&& (nI 1)) = 0 then
        (fJ6_bitCount_0f7a4 N x5).bind fun q3 =>
        (fX6_factorial N q3).bind fun q4 =>
        (fX6_factorial N (((σ.1 42 6) - (nI 1)) - q3)).bind fun q5 =>
        zlet (((q4 * q5)).toInt64) fun v6 =>
        if zin (x5 ||| ((nI 1) <<< (x1 &&& 31))) (zlen 29) then
        zlet (σ.2 29 (x5 ||| ((nI 1) <<< (x1 &&& 31))).toNatClampNeg) fun v8 =>
        if zin x5 (zlen 29) then
        zlet (σ.2 29 x5.toNatClampNeg) fun v10 =>
        zlet (x3 + (v6 * (((v8 - v10)).toInt64))) fun v11 =>
        (fX6_share_127 N (fX6_share_41 N k_133 n) k_133) x1 x2 v11 x5 σ
        else none
        else none
      else
        (fX6_share_127 N (fX6_share_41 N k_133 n) k_133) x1 x2 x3 x5 σ
set_option maxRecDepth 100000 in
set_option maxHeartbeats 4000000 in
theorem hX6_share_41 {p : Program} {l : Launch} {e : Env} {s : State} {m : MethodId} {args : Array Value} {below : List Frame} {meth : Method} {c : Code} {g : zG} {A : Nat → Prop} {τ : zS} {res : Int64 × zS} (C : zCx p s m args meth c cX6_share (some .long) wsX6_share RX6 9) (E : zE g A s) (N : Nat) (k_133 : Int32 → Int64 → zS → Option (Int64 × zS)) (hk_133 : PX6_share_133 p l e s m args below meth c g A τ res k_133) : ∀ n : Nat, PX6_share_41 p l e s m args below meth c g A τ res (fX6_share_41 N k_133 n) := by
  obtain ⟨hx, hb, hr, hml, hown, hts, hlocks⟩ := id C
  intro n
  induction n with
  | zero =>
    intro x1 x2 x3 x5 σ H locs ls hf
    exact absurd hf (by simp [fX6_share_41])
  | succ n ih =>
    intro x1 x2 x3 x5 σ H locs ls hf hh hl
    rw [fX6_share_41] at hf
    refine lv_iload hx hb dX6_share_41 (lv_at hl 4 rfl) ?_
    refine lv_iconst (v := (nI 1)) hx hb dX6_share_43 (by decide) ?_
    refine lv_aload_n hx hb dX6_share_44 rfl (lv_at hl 0 rfl) ?_
    refine z_get (v := .ref (g.2.2 42)) hx hb hts (fun w h => List.mem_cons_of_mem _ (List.mem_append_left _ (List.mem_append_left _ (List.mem_append_right _ (h))))) hown E hh (by decide) (zC_obj (q := 54) rfl) rfl 0 (by decide) (hts (.fieldLink RX6 10 "TownBand" "band" "LTownBand$Band;") (List.mem_cons_of_mem _ (List.mem_append_left _ (List.mem_append_left _ (List.mem_append_left _ (List.mem_append_left _ (List.mem_of_getElem? (i := 0) rfl))))))) rfl dX6_share_45 ?_
    refine z_getN (v := .int (σ.1 42 6)) hx hb hts (fun w h => List.mem_cons_of_mem _ (List.mem_append_left _ (List.mem_append_right _ (h)))) hown E hh (by decide) (zC_band (by decide) (by decide)) rfl 6 (by decide) (zE_f E 17 rfl) rfl dX6_share_48 ?_
    refine lv_ishl hx hb dX6_share_51 ?_
    refine lv_icmp_ge (tgt := 133) hx hb dX6_share_52 (by decide) (fun c_v1 => ?_) (fun c_v1 => ?_)
    · have hf := z_ip hf c_v1
      exact hk_133 x2 x3 σ _ _ _ hf hh (lv_sub hl [0, 2, 3] rfl)
    · have hf := z_in hf c_v1
      refine lv_iload hx hb dX6_share_55 (lv_at hl 4 rfl) ?_
      refine lv_iload_n hx hb dX6_share_57 rfl (lv_at hl 1 rfl) ?_
      refine lv_ishr hx hb dX6_share_58 ?_
      refine lv_iconst (v := (nI 1)) hx hb dX6_share_59 (by decide) ?_
      refine lv_iand hx hb dX6_share_60 ?_
      refine lv_if_ne (tgt := 127) hx hb dX6_share_61 (by decide) (fun c_v2 => ?_) (fun c_v2 => ?_)
      · have hf := z_in hf c_v2
        exact (hX6_share_127 C E N (fX6_share_41 N k_133 n) ih k_133 hk_133) x1 x2 x3 x5 σ _ _ _ hf hh (lv_sub hl [0, 1, 2, 3, 4] rfl)
      · have hf := z_ip hf c_v2
        refine lv_iload hx hb dX6_share_64 (lv_at hl 4 rfl) ?_
        obtain ⟨q3, h_q3, hf⟩ := z_bd hf
        refine z_xi (va_runS (As := [.int x5]) (rest := []) ⟨hx, hb, hml, hown, hts⟩ (zcJ6_bitCount_0f7a4 l g A σ τ N x5 h_q3) (va_cwS 1 hts gX6_share_J6_bitCount_0f7a4 rfl rfl rfl hdJ6_bitCount_0f7a4.2 ⟨by decide, by decide⟩) (z_preS E hh) rfl rfl hl.1 rfl (lv_room (Nat.le_of_ble_eq_true rfl)) dX6_share_66 ⟨Nat.le_refl _, Nat.le_refl _⟩) hh (fun H locs hh => ?_)
        refine lv_istore (lv' := [(6, .int q3), (0, .ref (g.2.2 54)), (1, .int x1), (2, .int x2), (3, .long x3), (5, .int x5)]) hx hb dX6_share_69 hl (by decide) rfl (fun ls hl => ?_)
        refine lv_iload hx hb dX6_share_71 (lv_at hl 0 rfl) ?_
        obtain ⟨q4, h_q4, hf⟩ := z_bd hf
        refine z_xi (va_runS (As := [.int q3]) (rest := []) ⟨hx, hb, hml, hown, hts⟩ (zcX6_factorial l g A σ τ N q3 h_q4) (va_cwS 1 hts gX6_share_X6_factorial rfl rfl rfl hdX6_factorial.2 ⟨by decide, by decide⟩) (z_preS E hh) rfl rfl hl.1 rfl (lv_room (Nat.le_of_ble_eq_true rfl)) dX6_share_73 ⟨Nat.le_refl _, Nat.le_refl _⟩) hh (fun H locs hh => ?_)
        refine lv_aload_n hx hb dX6_share_76 rfl (lv_at hl 1 rfl) ?_
        refine z_get (v := .ref (g.2.2 42)) hx hb hts (fun w h => List.mem_cons_of_mem _ (List.mem_append_left _ (List.mem_append_left _ (List.mem_append_right _ (h))))) hown E hh (by decide) (zC_obj (q := 54) rfl) rfl 0 (by decide) (hts (.fieldLink RX6 10 "TownBand" "band" "LTownBand$Band;") (List.mem_cons_of_mem _ (List.mem_append_left _ (List.mem_append_left _ (List.mem_append_left _ (List.mem_append_left _ (List.mem_of_getElem? (i := 0) rfl))))))) rfl dX6_share_77 ?_
        refine z_getN (v := .int (σ.1 42 6)) hx hb hts (fun w h => List.mem_cons_of_mem _ (List.mem_append_left _ (List.mem_append_right _ (h)))) hown E hh (by decide) (zC_band (by decide) (by decide)) rfl 6 (by decide) (zE_f E 17 rfl) rfl dX6_share_80 ?_
        refine lv_iconst (v := (nI 1)) hx hb dX6_share_83 (by decide) ?_
        refine lv_isub hx hb dX6_share_84 ?_
        refine lv_iload hx hb dX6_share_85 (lv_at hl 0 rfl) ?_
        refine lv_isub hx hb dX6_share_87 ?_
        obtain ⟨q5, h_q5, hf⟩ := z_bd hf
        refine z_xi (va_runS (As := [.int (((σ.1 42 6) - (nI 1)) - q3)]) (rest := [.int q4]) ⟨hx, hb, hml, hown, hts⟩ (zcX6_factorial l g A σ τ N (((σ.1 42 6) - (nI 1)) - q3) h_q5) (va_cwS 1 hts gX6_share_X6_factorial rfl rfl rfl hdX6_factorial.2 ⟨by decide, by decide⟩) (z_preS E hh) rfl rfl hl.1 rfl (lv_room (Nat.le_of_ble_eq_true rfl)) dX6_share_88 ⟨Nat.le_refl _, Nat.le_refl _⟩) hh (fun H locs hh => ?_)
        refine lv_imul hx hb dX6_share_91 ?_
        refine lv_i2l hx hb dX6_share_92 rfl ?_
        obtain ⟨v6, e_v6, hf⟩ := z_lt hf
        refine z_topl e_v6 ?_
        refine lv_lstore (lv' := [(7, .long v6), (6, .int q3), (0, .ref (g.2.2 54)), (1, .int x1), (2, .int x2), (3, .long x3), (5, .int x5)]) hx hb dX6_share_93 hl (by decide) rfl (fun ls hl => ?_)
        refine lv_lload_n hx hb dX6_share_95 rfl (lv_at hl 5 rfl) ?_
        refine lv_lload hx hb dX6_share_96 (lv_at hl 0 rfl) ?_
        refine lv_aload_n hx hb dX6_share_98 rfl (lv_at hl 2 rfl) ?_
        refine z_get (v := .ref (g.2.2 52)) hx hb hts (fun w h => List.mem_cons_of_mem _ (List.mem_append_left _ (List.mem_append_left _ (List.mem_append_right _ (h))))) hown E hh (by decide) (zC_obj (q := 54) rfl) rfl 3 (by decide) (hts (.fieldLink RX6 33 "TownBand" "search" "LTownBand$Towers;") (List.mem_cons_of_mem _ (List.mem_append_left _ (List.mem_append_left _ (List.mem_append_left _ (List.mem_append_left _ (List.mem_of_getElem? (i := 2) rfl))))))) rfl dX6_share_99 ?_
        refine z_getN (v := .ref (g.2.2 29)) hx hb hts (fun w h => List.mem_cons_of_mem _ (List.mem_append_right _ (h))) hown E hh (by decide) (zC_obj (q := 52) rfl) rfl 2 (by decide) (zE_f E 35 rfl) rfl dX6_share_102 ?_
        refine lv_iload hx hb dX6_share_105 (lv_at hl 6 rfl) ?_
        refine lv_iconst (v := (nI 1)) hx hb dX6_share_107 (by decide) ?_
        refine lv_iload_n hx hb dX6_share_108 rfl (lv_at hl 3 rfl) ?_
        refine lv_ishl hx hb dX6_share_109 ?_
        refine lv_ior hx hb dX6_share_110 ?_
        obtain ⟨h_v7, hf⟩ := z_if hf
        obtain ⟨v8, e_v8, hf⟩ := z_lt hf
        refine z_iald hx hb E hh (by decide) h_v7 e_v8 dX6_share_111 ?_
        refine lv_aload_n hx hb dX6_share_112 rfl (lv_at hl 2 rfl) ?_
        refine z_get (v := .ref (g.2.2 52)) hx hb hts (fun w h => List.mem_cons_of_mem _ (List.mem_append_left _ (List.mem_append_left _ (List.mem_append_right _ (h))))) hown E hh (by decide) (zC_obj (q := 54) rfl) rfl 3 (by decide) (hts (.fieldLink RX6 33 "TownBand" "search" "LTownBand$Towers;") (List.mem_cons_of_mem _ (List.mem_append_left _ (List.mem_append_left _ (List.mem_append_left _ (List.mem_append_left _ (List.mem_of_getElem? (i := 2) rfl))))))) rfl dX6_share_113 ?_
        refine z_getN (v := .ref (g.2.2 29)) hx hb hts (fun w h => List.mem_cons_of_mem _ (List.mem_append_right _ (h))) hown E hh (by decide) (zC_obj (q := 52) rfl) rfl 2 (by decide) (zE_f E 35 rfl) rfl dX6_share_116 ?_
        refine lv_iload hx hb dX6_share_119 (lv_at hl 6 rfl) ?_
        obtain ⟨h_v9, hf⟩ := z_if hf
        obtain ⟨v10, e_v10, hf⟩ := z_lt hf
        refine z_iald hx hb E hh (by decide) h_v9 e_v10 dX6_share_121 ?_
        refine lv_isub hx hb dX6_share_122 ?_
        refine lv_i2l hx hb dX6_share_123 rfl ?_
        refine lv_lmul hx hb dX6_share_124 ?_
        refine lv_ladd hx hb dX6_share_125 ?_
        obtain ⟨v11, e_v11, hf⟩ := z_lt hf
        refine z_topl e_v11 ?_
        refine lv_lstore_n (lv' := [(3, .long v11), (7, .long v6), (6, .int q3), (0, .ref (g.2.2 54)), (1, .int x1), (2, .int x2), (5, .int x5)]) hx hb dX6_share_126 rfl hl (by decide) rfl (fun ls hl => ?_)
        exact (hX6_share_127 C E N (fX6_share_41 N k_133 n) ih k_133 hk_133) x1 x2 v11 x5 σ _ _ _ hf hh (lv_sub hl [3, 4, 5, 0, 6] rfl)
def fX6_share_20 (N : Nat)  (σ : zS) : Option (Int64 × zS) :=
  some ((-1), σ)
set_option maxRecDepth 100000 in
set_option maxHeartbeats 4000000 in
theorem hX6_share_20 {p : Program} {l : Launch} {e : Env} {s : State} {m : MethodId} {args : Array Value} {below : List Frame} {meth : Method} {c : Code} {g : zG} {A : Nat → Prop} {τ : zS} {res : Int64 × zS} (C : zCx p s m args meth c cX6_share (some .long) wsX6_share RX6 9) (E : zE g A s) (N : Nat) : PX6_share_20 p l e s m args below meth c g A τ res (fX6_share_20 N) := by
  obtain ⟨hx, hb, hr, hml, hown, hts, hlocks⟩ := id C
  intro σ H locs ls hf hh hl
  unfold fX6_share_20 at hf
  refine lv_ldc2 (v := (-1)) hx hb hown (hts (.constantLong RX6 222 (-1)) (List.mem_cons_of_mem _ (List.mem_append_left _ (List.mem_append_left _ (List.mem_append_left _ (List.mem_append_left _ (List.mem_of_getElem? (i := 1) rfl))))))) dX6_share_20 ?_
  have hf := Option.some.inj hf
  subst hf
  exact z_lretX hx hb hr hlocks hh dX6_share_23
def fX6_share (N : Nat) (σ : zS) (x1 : Int32) (x2 : Int32) : Option (Int64 × zS) :=
  (fX0_hasBeast N σ 42 x1).bind fun q1 =>
  if q1 = 0 then
    (fX6_share_20 N) σ
  else
    (fX6_within N x2 (nI 0) (nI 1)).bind fun q3 =>
    if q3 = 0 then
      (fX6_share_20 N) σ
    else
      (fX5_walk N σ 42 (nI 0)).bind fun q5 =>
      (fX6_share_41 N (fX6_share_133 N) N) x1 x2 0 (nI 0) q5
set_option maxRecDepth 100000 in
set_option maxHeartbeats 4000000 in
theorem zcX6_share (l : Launch) (g : zG) (A : Nat → Prop) (σ τ : zS) (N : Nat) (x1 : Int32) (x2 : Int32)  {res : Int64 × zS} (hf : fX6_share N σ x1 x2 = some res) : Met l yX6_share wsX6_share (zR 12) (zPc g A σ τ [.ref (g.2.2 54), .int x1, .int x2]) (zQl g A τ res) 0 0 A := by
  refine z_met (cc := cX6_share) (ret := (some .long)) (own := RX6) (by decide) rfl rfl _ (Nat.le_of_ble_eq_true rfl) ?_
  intro p e s m below meth c C E ls hl hh
  have hl : lv_has ls 9 [(0, .ref (g.2.2 54)), (1, .int x1), (2, .int x2)] := hl
  obtain ⟨hx, hb, hr, hml, hown, hts, hlocks⟩ := id C
  unfold fX6_share at hf
  refine lv_aload_n hx hb dX6_share_0 rfl (lv_at hl 0 rfl) ?_
  refine z_get (v := .ref (g.2.2 42)) hx hb hts (fun w h => List.mem_cons_of_mem _ (List.mem_append_left _ (List.mem_append_left _ (List.mem_append_right _ (h))))) hown E hh (by decide) (zC_obj (q := 54) rfl) rfl 0 (by decide) (hts (.fieldLink RX6 10 "TownBand" "band" "LTownBand$Band;") (List.mem_cons_of_mem _ (List.mem_append_left _ (List.mem_append_left _ (List.mem_append_left _ (List.mem_append_left _ (List.mem_of_getElem? (i := 0) rfl))))))) rfl dX6_share_1 ?_
  refine lv_iload_n hx hb dX6_share_4 rfl (lv_at hl 1 rfl) ?_
  obtain ⟨q1, h_q1, hf⟩ := z_bd hf
  refine z_xi (va_runVN (As := [.int x1]) (rest := []) ⟨hx, hb, hml, hown, hts⟩ (zcX0_hasBeast l g A σ τ N 42 x1 (by decide) (by decide) h_q1) ⟨va_cnB 1 hts gX6_share_X0_hasBeast_n109 rfl rfl rfl (zE_m E 16 rfl) (hts (.initialized RX0) (List.mem_cons_of_mem _ (List.mem_append_left _ (List.mem_append_left _ (List.mem_append_left _ (List.mem_append_left _ (List.mem_of_getElem? (i := 4) rfl))))))) hdX0_hasBeast.2 ⟨by decide, by decide⟩, (hts (.instanceMethod yX0_hasBeast) (List.mem_cons_of_mem _ (List.mem_append_left _ (List.mem_append_left _ (List.mem_append_left _ (List.mem_append_left _ (List.mem_of_getElem? (i := 3) rfl))))))), (hts (.selects RX0 yX0_hasBeast yX0_hasBeast) (List.mem_cons_of_mem _ (List.mem_append_left _ (List.mem_append_left _ (List.mem_append_left _ (List.mem_append_left _ (List.mem_of_getElem? (i := 5) rfl)))))))⟩ (z_preV E hh (by decide) (zC_band (by decide) (by decide)) rfl) rfl rfl hl.1 rfl (lv_room (Nat.le_of_ble_eq_true rfl)) dX6_share_5 ⟨Nat.le_refl _, Nat.le_refl _⟩) hh (fun H locs hh => ?_)
  refine lv_if_eq (tgt := 20) hx hb dX6_share_8 (by decide) (fun c_v2 => ?_) (fun c_v2 => ?_)
  · have hf := z_ip hf c_v2
    exact (hX6_share_20 C E N) σ _ _ _ hf hh (lv_sub hl [] rfl)
  · have hf := z_in hf c_v2
    refine lv_iload_n hx hb dX6_share_11 rfl (lv_at hl 2 rfl) ?_
    refine lv_iconst (v := (nI 0)) hx hb dX6_share_12 (by decide) ?_
    refine lv_iconst (v := (nI 1)) hx hb dX6_share_13 (by decide) ?_
    obtain ⟨q3, h_q3, hf⟩ := z_bd hf
    refine z_xi (va_runS (As := [.int x2, .int (nI 0), .int (nI 1)]) (rest := []) ⟨hx, hb, hml, hown, hts⟩ (zcX6_within l g A σ τ N x2 (nI 0) (nI 1) h_q3) (va_cwS 3 hts gX6_share_X6_within rfl rfl rfl hdX6_within.2 ⟨by decide, by decide⟩) (z_preS E hh) rfl rfl hl.1 rfl (lv_room (Nat.le_of_ble_eq_true rfl)) dX6_share_14 ⟨Nat.le_refl _, Nat.le_refl _⟩) hh (fun H locs hh => ?_)
    refine lv_if_ne (tgt := 24) hx hb dX6_share_17 (by decide) (fun c_v4 => ?_) (fun c_v4 => ?_)
    · have hf := z_in hf c_v4
      refine lv_aload_n hx hb dX6_share_24 rfl (lv_at hl 0 rfl) ?_
      refine z_get (v := .ref (g.2.2 52)) hx hb hts (fun w h => List.mem_cons_of_mem _ (List.mem_append_left _ (List.mem_append_left _ (List.mem_append_right _ (h))))) hown E hh (by decide) (zC_obj (q := 54) rfl) rfl 3 (by decide) (hts (.fieldLink RX6 33 "TownBand" "search" "LTownBand$Towers;") (List.mem_cons_of_mem _ (List.mem_append_left _ (List.mem_append_left _ (List.mem_append_left _ (List.mem_append_left _ (List.mem_of_getElem? (i := 2) rfl))))))) rfl dX6_share_25 ?_
      refine lv_aload_n hx hb dX6_share_28 rfl (lv_at hl 0 rfl) ?_
      refine z_get (v := .ref (g.2.2 42)) hx hb hts (fun w h => List.mem_cons_of_mem _ (List.mem_append_left _ (List.mem_append_left _ (List.mem_append_right _ (h))))) hown E hh (by decide) (zC_obj (q := 54) rfl) rfl 0 (by decide) (hts (.fieldLink RX6 10 "TownBand" "band" "LTownBand$Band;") (List.mem_cons_of_mem _ (List.mem_append_left _ (List.mem_append_left _ (List.mem_append_left _ (List.mem_append_left _ (List.mem_of_getElem? (i := 0) rfl))))))) rfl dX6_share_29 ?_
      refine lv_iconst (v := (nI 0)) hx hb dX6_share_32 (by decide) ?_
      obtain ⟨q5, h_q5, hf⟩ := z_bd hf
      refine z_xv (va_runVN (As := [.ref (g.2.2 42), .int (nI 0)]) (rest := []) ⟨hx, hb, hml, hown, hts⟩ (zcX5_walk l g A σ τ N 42 (nI 0) (by decide) (by decide) h_q5) ⟨va_cnB 2 hts gX6_share_X5_walk_n183 rfl rfl rfl (zE_m E 24 rfl) (hts (.initialized RX5) (List.mem_cons_of_mem _ (List.mem_append_left _ (List.mem_append_left _ (List.mem_append_left _ (List.mem_append_left _ (List.mem_of_getElem? (i := 13) rfl))))))) hdX5_walk.2 ⟨by decide, by decide⟩, (hts (.instanceMethod yX5_walk) (List.mem_cons_of_mem _ (List.mem_append_left _ (List.mem_append_left _ (List.mem_append_left _ (List.mem_append_left _ (List.mem_of_getElem? (i := 12) rfl))))))), (hts (.selects RX5 yX5_walk yX5_walk) (List.mem_cons_of_mem _ (List.mem_append_left _ (List.mem_append_left _ (List.mem_append_left _ (List.mem_append_left _ (List.mem_of_getElem? (i := 14) rfl)))))))⟩ (z_preV E hh (by decide) (zC_obj (q := 52) rfl) rfl) rfl rfl hl.1 rfl (lv_room (Nat.le_of_ble_eq_true rfl)) dX6_share_33 ⟨Nat.le_refl _, Nat.le_refl _⟩) hh (fun H locs hh => ?_)
      refine lv_lconst (v := 0) hx hb dX6_share_36 (by decide) ?_
      refine lv_lstore_n (lv' := [(3, .long 0), (0, .ref (g.2.2 54)), (1, .int x1), (2, .int x2)]) hx hb dX6_share_37 rfl hl (by decide) rfl (fun ls hl => ?_)
      refine lv_iconst (v := (nI 0)) hx hb dX6_share_38 (by decide) ?_
      refine lv_istore (lv' := [(5, .int (nI 0)), (3, .long 0), (0, .ref (g.2.2 54)), (1, .int x1), (2, .int x2)]) hx hb dX6_share_39 hl (by decide) rfl (fun ls hl => ?_)
      exact (hX6_share_41 C E N (fX6_share_133 N) (hX6_share_133 C E N) N) x1 x2 0 (nI 0) q5 _ _ _ hf hh (lv_sub hl [2, 3, 4, 1, 0] rfl)
    · have hf := z_ip hf c_v4
      exact (hX6_share_20 C E N) σ _ _ _ hf hh (lv_sub hl [] rfl)
/-! ===== X6_silence ===== -/
theorem hdX6_silence : yX6_silence.cls = RX6 ∧ yX6_silence.cls ≠ "java/lang/invoke/MethodHandle" ∧ yX6_silence.cls ≠ "java/lang/invoke/VarHandle" ∧ (parseMethodDescriptor yX6_silence.desc).map (fun d => d.parameters.length) = some 1 := by decide +kernel
def PX6_silence_54 (p : Program) (l : Launch) (e : Env) (s : State) (m : MethodId) (args : Array Value) (below : List Frame) (meth : Method) (c : Code) (g : zG) (A : Nat → Prop) (τ : zS) (res : zS) (f : Int32 → Int32 → zS → Option (zS)) : Prop := ∀ (x1 : Int32) (x2 : Int32) (σ : zS) (H : Heap) (locs : List Loc) (ls : Array Slot), f x1 x2 σ = some res → zW g A σ τ s H locs → lv_has ls 3 [(0, .ref (g.2.2 54)), (1, .int x1), (2, .int x2)] → W p l e (zR 1) s m args below meth c H locs 0 0 (MQ below (zQv g A τ res) args s 0 0 A) (F0 m 54 ls [])
def PX6_silence_19 (p : Program) (l : Launch) (e : Env) (s : State) (m : MethodId) (args : Array Value) (below : List Frame) (meth : Method) (c : Code) (g : zG) (A : Nat → Prop) (τ : zS) (res : zS) (f : Int32 → Int32 → zS → Option (zS)) : Prop := ∀ (x1 : Int32) (x2 : Int32) (σ : zS) (H : Heap) (locs : List Loc) (ls : Array Slot), f x1 x2 σ = some res → zW g A σ τ s H locs → lv_has ls 3 [(0, .ref (g.2.2 54)), (1, .int x1), (2, .int x2)] → W p l e (zR 1) s m args below meth c H locs 0 0 (MQ below (zQv g A τ res) args s 0 0 A) (F0 m 19 ls [])
def fX6_silence_54 (N : Nat) (rc : Int32 → Int32 → zS → Option (zS)) (x1 : Int32) (x2 : Int32) (σ : zS) : Option (zS) :=
  rc x1 (x2 + (nI 1)) σ
set_option maxRecDepth 100000 in
set_option maxHeartbeats 4000000 in
theorem hX6_silence_54 {p : Program} {l : Launch} {e : Env} {s : State} {m : MethodId} {args : Array Value} {below : List Frame} {meth : Method} {c : Code} {g : zG} {A : Nat → Prop} {τ : zS} {res : zS} (C : zCx p s m args meth c cX6_silence none wsX6_silence RX6 3) (E : zE g A s) (N : Nat) (rc : Int32 → Int32 → zS → Option (zS)) (hrc : PX6_silence_19 p l e s m args below meth c g A τ res rc) : PX6_silence_54 p l e s m args below meth c g A τ res (fX6_silence_54 N rc) := by
  obtain ⟨hx, hb, hr, hml, hown, hts, hlocks⟩ := id C
  intro x1 x2 σ H locs ls hf hh hl
  unfold fX6_silence_54 at hf
  refine lv_iinc (v := (x2 + (nI 1))) (lv' := [(2, .int (x2 + (nI 1))), (0, .ref (g.2.2 54)), (1, .int x1)]) hx hb dX6_silence_54 hl (k := 2) rfl rfl (by decide) rfl (fun ls hl => ?_)
  refine lv_goto (tgt := 19) hx hb dX6_silence_57 (by decide) ?_
  exact hrc x1 (x2 + (nI 1)) σ _ _ _ hf hh (lv_sub hl [1, 2, 0] rfl)
def fX6_silence_19 (N : Nat) : Nat → Int32 → Int32 → zS → Option (zS)
  | 0, _, _, _ => none
  | n + 1, x1, x2, σ =>
    if (σ.1 42 8) ≤ x2 then
      some σ
    else
      if ((x1 >>> (x2 &&& 31)) &&& (nI 1)) = (nI 1) then
        if zin x2 (zlen 4) then
        zlet (σ.2 4 x2.toNatClampNeg) fun v4 =>
        if zin v4 (zlen 34) then
        zlet (zpa σ 34 (upd (σ.2 34) v4.toNatClampNeg (nI 0))) fun σ6 =>
        (fX6_silence_54 N (fX6_silence_19 N n)) x1 x2 σ6
        else none
        else none
      else
        (fX6_silence_54 N (fX6_silence_19 N n)) x1 x2 σ
set_option maxRecDepth 100000 in
set_option maxHeartbeats 4000000 in
theorem hX6_silence_19 {p : Program} {l : Launch} {e : Env} {s : State} {m : MethodId} {args : Array Value} {below : List Frame} {meth : Method} {c : Code} {g : zG} {A : Nat → Prop} {τ : zS} {res : zS} (C : zCx p s m args meth c cX6_silence none wsX6_silence RX6 3) (E : zE g A s) (N : Nat) : ∀ n : Nat, PX6_silence_19 p l e s m args below meth c g A τ res (fX6_silence_19 N n) := by
  obtain ⟨hx, hb, hr, hml, hown, hts, hlocks⟩ := id C
  intro n
  induction n with
  | zero =>
    intro x1 x2 σ H locs ls hf
    exact absurd hf (by simp [fX6_silence_19])
  | succ n ih =>
    intro x1 x2 σ H locs ls hf hh hl
    rw [fX6_silence_19] at hf
    refine lv_iload_n hx hb dX6_silence_19 rfl (lv_at hl 2 rfl) ?_
    refine lv_aload_n hx hb dX6_silence_20 rfl (lv_at hl 0 rfl) ?_
    refine z_get (v := .ref (g.2.2 42)) hx hb hts (fun w h => List.mem_cons_of_mem _ (List.mem_append_left _ (List.mem_append_right _ (h)))) hown E hh (by decide) (zC_obj (q := 54) rfl) rfl 0 (by decide) (hts (.fieldLink RX6 10 "TownBand" "band" "LTownBand$Band;") (List.mem_cons_of_mem _ (List.mem_append_left _ (List.mem_append_left _ (List.mem_of_getElem? (i := 0) rfl))))) rfl dX6_silence_21 ?_
    refine z_getN (v := .int (σ.1 42 8)) hx hb hts (fun w h => List.mem_cons_of_mem _ (List.mem_append_right _ (h))) hown E hh (by decide) (zC_band (by decide) (by decide)) rfl 8 (by decide) (zE_f E 21 rfl) rfl dX6_silence_24 ?_
    refine lv_icmp_ge (tgt := 60) hx hb dX6_silence_27 (by decide) (fun c_v1 => ?_) (fun c_v1 => ?_)
    · have hf := z_ip hf c_v1
      have hf := Option.some.inj hf
      subst hf
      exact z_vretX hx hb hr hlocks hh dX6_silence_60
    · have hf := z_in hf c_v1
      refine lv_iload_n hx hb dX6_silence_30 rfl (lv_at hl 1 rfl) ?_
      refine lv_iload_n hx hb dX6_silence_31 rfl (lv_at hl 2 rfl) ?_
      refine lv_ishr hx hb dX6_silence_32 ?_
      refine lv_iconst (v := (nI 1)) hx hb dX6_silence_33 (by decide) ?_
      refine lv_iand hx hb dX6_silence_34 ?_
      refine lv_iconst (v := (nI 1)) hx hb dX6_silence_35 (by decide) ?_
      refine lv_icmp_ne (tgt := 54) hx hb dX6_silence_36 (by decide) (fun c_v2 => ?_) (fun c_v2 => ?_)
      · have hf := z_in hf c_v2
        exact (hX6_silence_54 C E N (fX6_silence_19 N n) ih) x1 x2 σ _ _ _ hf hh (lv_sub hl [0, 1, 2] rfl)
      · have hf := z_ip hf c_v2
        refine lv_aload_n hx hb dX6_silence_39 rfl (lv_at hl 0 rfl) ?_
        refine z_get (v := .ref (g.2.2 34)) hx hb hts (fun w h => List.mem_cons_of_mem _ (List.mem_append_left _ (List.mem_append_right _ (h)))) hown E hh (by decide) (zC_obj (q := 54) rfl) rfl 8 (by decide) (hts (.fieldLink RX6 58 "TownBand" "throats" "[I") (List.mem_cons_of_mem _ (List.mem_append_left _ (List.mem_append_left _ (List.mem_of_getElem? (i := 1) rfl))))) rfl dX6_silence_40 ?_
        refine lv_aload_n hx hb dX6_silence_43 rfl (lv_at hl 0 rfl) ?_
        refine z_get (v := .ref (g.2.2 42)) hx hb hts (fun w h => List.mem_cons_of_mem _ (List.mem_append_left _ (List.mem_append_right _ (h)))) hown E hh (by decide) (zC_obj (q := 54) rfl) rfl 0 (by decide) (hts (.fieldLink RX6 10 "TownBand" "band" "LTownBand$Band;") (List.mem_cons_of_mem _ (List.mem_append_left _ (List.mem_append_left _ (List.mem_of_getElem? (i := 0) rfl))))) rfl dX6_silence_44 ?_
        refine z_getN (v := .ref (g.2.2 4)) hx hb hts (fun w h => List.mem_cons_of_mem _ (List.mem_append_right _ (h))) hown E hh (by decide) (zC_band (by decide) (by decide)) rfl 4 (by decide) (zE_f E 10 rfl) rfl dX6_silence_47 ?_
        refine lv_iload_n hx hb dX6_silence_50 rfl (lv_at hl 2 rfl) ?_
        obtain ⟨h_v3, hf⟩ := z_if hf
        obtain ⟨v4, e_v4, hf⟩ := z_lt hf
        refine z_iald hx hb E hh (by decide) h_v3 e_v4 dX6_silence_51 ?_
        refine lv_iconst (v := (nI 0)) hx hb dX6_silence_52 (by decide) ?_
        obtain ⟨h_v5, hf⟩ := z_if hf
        obtain ⟨σ6, e_σ6, hf⟩ := z_lt hf
        refine z_iast hx hb E hh (by decide) h_v5 e_σ6 dX6_silence_53 (fun H locs hh => ?_)
        exact (hX6_silence_54 C E N (fX6_silence_19 N n) ih) x1 x2 σ6 _ _ _ hf hh (lv_sub hl [0, 1, 2] rfl)
def fX6_silence (N : Nat) (σ : zS) (x1 : Int32) : Option (zS) :=
  if ¬ ((nI 0) : Int32) < 0 ∧ ¬ ((nI 0) : Int32) < 0 ∧ ¬ ((nI 5) : Int32) < 0 ∧ (nI 0).toNatClampNeg + (nI 5).toNatClampNeg ≤ zlen 2 ∧ (nI 0).toNatClampNeg + (nI 5).toNatClampNeg ≤ zlen 34 then
  zlet (zpa σ 34 (va_cpy (σ.2 2) (σ.2 34) (nI 0).toNatClampNeg (nI 0).toNatClampNeg (nI 5).toNatClampNeg)) fun σ2 =>
  (fX6_silence_19 N N) x1 (nI 0) σ2
  else none
set_option maxRecDepth 100000 in
set_option maxHeartbeats 4000000 in
theorem zcX6_silence (l : Launch) (g : zG) (A : Nat → Prop) (σ τ : zS) (N : Nat) (x1 : Int32)  {res : zS} (hf : fX6_silence N σ x1 = some res) : Met l yX6_silence wsX6_silence (zR 1) (zPc g A σ τ [.ref (g.2.2 54), .int x1]) (zQv g A τ res) 0 0 A := by
  refine z_met (cc := cX6_silence) (ret := none) (own := RX6) (by decide) rfl rfl _ (Nat.le_of_ble_eq_true rfl) ?_
  intro p e s m below meth c C E ls hl hh
  have hl : lv_has ls 3 [(0, .ref (g.2.2 54)), (1, .int x1)] := hl
  obtain ⟨hx, hb, hr, hml, hown, hts, hlocks⟩ := id C
  unfold fX6_silence at hf
  refine lv_aload_n hx hb dX6_silence_0 rfl (lv_at hl 0 rfl) ?_
  refine z_get (v := .ref (g.2.2 42)) hx hb hts (fun w h => List.mem_cons_of_mem _ (List.mem_append_left _ (List.mem_append_right _ (h)))) hown E hh (by decide) (zC_obj (q := 54) rfl) rfl 0 (by decide) (hts (.fieldLink RX6 10 "TownBand" "band" "LTownBand$Band;") (List.mem_cons_of_mem _ (List.mem_append_left _ (List.mem_append_left _ (List.mem_of_getElem? (i := 0) rfl))))) rfl dX6_silence_1 ?_
  refine z_getN (v := .ref (g.2.2 2)) hx hb hts (fun w h => List.mem_cons_of_mem _ (List.mem_append_right _ (h))) hown E hh (by decide) (zC_band (by decide) (by decide)) rfl 2 (by decide) (zE_f E 7 rfl) rfl dX6_silence_4 ?_
  refine lv_iconst (v := (nI 0)) hx hb dX6_silence_7 (by decide) ?_
  refine lv_aload_n hx hb dX6_silence_8 rfl (lv_at hl 0 rfl) ?_
  refine z_get (v := .ref (g.2.2 34)) hx hb hts (fun w h => List.mem_cons_of_mem _ (List.mem_append_left _ (List.mem_append_right _ (h)))) hown E hh (by decide) (zC_obj (q := 54) rfl) rfl 8 (by decide) (hts (.fieldLink RX6 58 "TownBand" "throats" "[I") (List.mem_cons_of_mem _ (List.mem_append_left _ (List.mem_append_left _ (List.mem_of_getElem? (i := 1) rfl))))) rfl dX6_silence_9 ?_
  refine lv_iconst (v := (nI 0)) hx hb dX6_silence_12 (by decide) ?_
  refine lv_iconst (v := (nI 5)) hx hb dX6_silence_13 (by decide) ?_
  obtain ⟨h_v1, hf⟩ := z_if hf
  obtain ⟨σ2, e_σ2, hf⟩ := z_lt hf
  refine z_copy hx hb (hml.trans hl.1.symm) hown (hts (.methodLink RX6 243 arraycopyName) (List.mem_cons_of_mem _ (List.mem_append_left _ (List.mem_append_left _ (List.mem_of_getElem? (i := 2) rfl))))) (hts (.native arraycopyName) (List.mem_cons_of_mem _ (List.mem_append_left _ (List.mem_append_left _ (List.mem_of_getElem? (i := 3) rfl))))) (hts (.static arraycopyName) (List.mem_cons_of_mem _ (List.mem_append_left _ (List.mem_append_left _ (List.mem_of_getElem? (i := 4) rfl))))) (hts (.initialized "java/lang/System") (List.mem_cons_of_mem _ (List.mem_append_left _ (List.mem_append_left _ (List.mem_of_getElem? (i := 5) rfl))))) E hh (by decide) (by decide) h_v1 e_σ2 (by decide) (Nat.le_of_ble_eq_true rfl) dX6_silence_14 (fun H locs hh => ?_)
  refine lv_iconst (v := (nI 0)) hx hb dX6_silence_17 (by decide) ?_
  refine lv_istore_n (lv' := [(2, .int (nI 0)), (0, .ref (g.2.2 54)), (1, .int x1)]) hx hb dX6_silence_18 rfl hl (by decide) rfl (fun ls hl => ?_)
  exact (hX6_silence_19 C E N N) x1 (nI 0) σ2 _ _ _ hf hh (lv_sub hl [1, 2, 0] rfl)
/-! ===== X6_hoarseSum ===== -/
theorem hdX6_hoarseSum : yX6_hoarseSum.cls = RX6 ∧ yX6_hoarseSum.cls ≠ "java/lang/invoke/MethodHandle" ∧ yX6_hoarseSum.cls ≠ "java/lang/invoke/VarHandle" ∧ (parseMethodDescriptor yX6_hoarseSum.desc).map (fun d => d.parameters.length) = some 2 := by decide +kernel
def PX6_hoarseSum_132 (p : Program) (l : Launch) (e : Env) (s : State) (m : MethodId) (args : Array Value) (below : List Frame) (meth : Method) (c : Code) (g : zG) (A : Nat → Prop) (τ : zS) (res : Int64 × zS) (f : Int32 → Int32 → Int64 → Int32 → zS → Option (Int64 × zS)) : Prop := ∀ (x1 : Int32) (x2 : Int32) (x3 : Int64) (x5 : Int32) (σ : zS) (H : Heap) (locs : List Loc) (ls : Array Slot), f x1 x2 x3 x5 σ = some res → zW g A σ τ s H locs → lv_has ls 10 [(0, .ref (g.2.2 54)), (1, .int x1), (2, .int x2), (3, .long x3), (5, .int x5)] → W p l e (zR 2) s m args below meth c H locs 0 0 (MQ below (zQl g A τ res) args s 0 0 A) (F0 m 132 ls [])
def PX6_hoarseSum_118 (p : Program) (l : Launch) (e : Env) (s : State) (m : MethodId) (args : Array Value) (below : List Frame) (meth : Method) (c : Code) (g : zG) (A : Nat → Prop) (τ : zS) (res : Int64 × zS) (f : Int32 → Int32 → Int32 → Int64 → Int64 → zS → Option (Int64 × zS)) : Prop := ∀ (x1 : Int32) (x2 : Int32) (x5 : Int32) (s0 : Int64) (s1 : Int64) (σ : zS) (H : Heap) (locs : List Loc) (ls : Array Slot), f x1 x2 x5 s0 s1 σ = some res → zW g A σ τ s H locs → lv_has ls 10 [(0, .ref (g.2.2 54)), (1, .int x1), (2, .int x2), (5, .int x5)] → W p l e (zR 2) s m args below meth c H locs 0 0 (MQ below (zQl g A τ res) args s 0 0 A) (F0 m 118 ls [.long s0, .long s1])
def PX6_hoarseSum_5 (p : Program) (l : Launch) (e : Env) (s : State) (m : MethodId) (args : Array Value) (below : List Frame) (meth : Method) (c : Code) (g : zG) (A : Nat → Prop) (τ : zS) (res : Int64 × zS) (f : Int32 → Int32 → Int64 → Int32 → zS → Option (Int64 × zS)) : Prop := ∀ (x1 : Int32) (x2 : Int32) (x3 : Int64) (x5 : Int32) (σ : zS) (H : Heap) (locs : List Loc) (ls : Array Slot), f x1 x2 x3 x5 σ = some res → zW g A σ τ s H locs → lv_has ls 10 [(0, .ref (g.2.2 54)), (1, .int x1), (2, .int x2), (3, .long x3), (5, .int x5)] → W p l e (zR 2) s m args below meth c H locs 0 0 (MQ below (zQl g A τ res) args s 0 0 A) (F0 m 5 ls [])
def fX6_hoarseSum_132 (N : Nat) (rc : Int32 → Int32 → Int64 → Int32 → zS → Option (Int64 × zS)) (x1 : Int32) (x2 : Int32) (x3 : Int64) (x5 : Int32) (σ : zS) : Option (Int64 × zS) :=
  rc x1 x2 x3 (x5 + (nI 1)) σ
set_option maxRecDepth 100000 in
set_option maxHeartbeats 4000000 in
theorem hX6_hoarseSum_132 {p : Program} {l : Launch} {e : Env} {s : State} {m : MethodId} {args : Array Value} {below : List Frame} {meth : Method} {c : Code} {g : zG} {A : Nat → Prop} {τ : zS} {res : Int64 × zS} (C : zCx p s m args meth c cX6_hoarseSum (some .long) wsX6_hoarseSum RX6 10) (E : zE g A s) (N : Nat) (rc : Int32 → Int32 → Int64 → Int32 → zS → Option (Int64 × zS)) (hrc : PX6_hoarseSum_5 p l e s m args below meth c g A τ res rc) : PX6_hoarseSum_132 p l e s m args below meth c g A τ res (fX6_hoarseSum_132 N rc) := by
  obtain ⟨hx, hb, hr, hml, hown, hts, hlocks⟩ := id C
  intro x1 x2 x3 x5 σ H locs ls hf hh hl
  unfold fX6_hoarseSum_132 at hf
  refine lv_iinc (v := (x5 + (nI 1))) (lv' := [(5, .int (x5 + (nI 1))), (0, .ref (g.2.2 54)), (1, .int x1), (2, .int x2), (3, .long x3)]) hx hb dX6_hoarseSum_132 hl (k := 4) rfl rfl (by decide) rfl (fun ls hl => ?_)
  refine lv_goto (tgt := 5) hx hb dX6_hoarseSum_135 (by decide) ?_
  exact hrc x1 x2 x3 (x5 + (nI 1)) σ _ _ _ hf hh (lv_sub hl [1, 2, 3, 4, 0] rfl)
def fX6_hoarseSum_118 (N : Nat) (rc : Int32 → Int32 → Int64 → Int32 → zS → Option (Int64 × zS)) (x1 : Int32) (x2 : Int32) (x5 : Int32) (s0 : Int64) (s1 : Int64) (σ : zS) : Option (Int64 × zS) :=
  (fX6_hoarseSum_132 N rc) x1 x2 (s1 + s0) x5 σ
set_option maxRecDepth 100000 in
set_option maxHeartbeats 4000000 in
theorem hX6_hoarseSum_118 {p : Program} {l : Launch} {e : Env} {s : State} {m : MethodId} {args : Array Value} {below : List Frame} {meth : Method} {c : Code} {g : zG} {A : Nat → Prop} {τ : zS} {res : Int64 × zS} (C : zCx p s m args meth c cX6_hoarseSum (some .long) wsX6_hoarseSum RX6 10) (E : zE g A s) (N : Nat) (rc : Int32 → Int32 → Int64 → Int32 → zS → Option (Int64 × zS)) (hrc : PX6_hoarseSum_5 p l e s m args below meth c g A τ res rc) : PX6_hoarseSum_118 p l e s m args below meth c g A τ res (fX6_hoarseSum_118 N rc) := by
  obtain ⟨hx, hb, hr, hml, hown, hts, hlocks⟩ := id C
  intro x1 x2 x5 s0 s1 σ H locs ls hf hh hl
  unfold fX6_hoarseSum_118 at hf
  refine lv_ladd hx hb dX6_hoarseSum_118 ?_
  refine lv_lstore_n (lv' := [(3, .long (s1 + s0)), (0, .ref (g.2.2 54)), (1, .int x1), (2, .int x2), (5, .int x5)]) hx hb dX6_hoarseSum_119 rfl hl (by decide) rfl (fun ls hl => ?_)
  refine lv_goto (tgt := 132) hx hb dX6_hoarseSum_120 (by decide) ?_
  exact (hX6_hoarseSum_132 C E N rc hrc) x1 x2 (s1 + s0) x5 σ _ _ _ hf hh (lv_sub hl [1, 2, 3, 0, 4] rfl)
def fX6_hoarseSum_5 (N : Nat) : Nat → Int32 → Int32 → Int64 → Int32 → zS → Option (Int64 × zS)
  | 0, _, _, _, _, _ => none
  | n + 1, x1, x2, x3, x5, σ =>
    if ((nI 1) <<< ((σ.1 42 8) &&& 31)) ≤ x5 then
      some (x3, σ)
    else
      (fX6_silence N σ x5).bind fun q2 =>
      (fX0_noiseBy N q2 42 4 (q2.1 42 8) 34).bind fun q3 =>
      (fX0_fledBits N q2 42 q3).bind fun q4 =>
      (fJ6_bitCount_0f7a4 N q4).bind fun q5 =>
      (fJ6_bitCount_0f7a4 N x5).bind fun q6 =>
      (fX6_power N x1 q6).bind fun q7 =>
      (fX6_power N ((nI 10) - x1) ((q2.1 42 8) - q6)).bind fun q8 =>
      if x2 = 0 then
        zlet (x3 + ((q7 * q8) * q5.toInt64)) fun v10 =>
        (fX6_hoarseSum_132 N (fX6_hoarseSum_5 N n)) x1 x2 v10 x5 q2
      else
        if q5 = (q2.1 42 7) then
          (fX6_hoarseSum_118 N (fX6_hoarseSum_5 N n)) x1 x2 x5 (q7 * q8) x3 q2
        else
          (fX6_hoarseSum_118 N (fX6_hoarseSum_5 N n)) x1 x2 x5 0 x3 q2
set_option maxRecDepth 100000 in
set_option maxHeartbeats 4000000 in
theorem hX6_hoarseSum_5 {p : Program} {l : Launch} {e : Env} {s : State} {m : MethodId} {args : Array Value} {below : List Frame} {meth : Method} {c : Code} {g : zG} {A : Nat → Prop} {τ : zS} {res : Int64 × zS} (C : zCx p s m args meth c cX6_hoarseSum (some .long) wsX6_hoarseSum RX6 10) (E : zE g A s) (N : Nat) : ∀ n : Nat, PX6_hoarseSum_5 p l e s m args below meth c g A τ res (fX6_hoarseSum_5 N n) := by
  obtain ⟨hx, hb, hr, hml, hown, hts, hlocks⟩ := id C
  intro n
  induction n with
  | zero =>
    intro x1 x2 x3 x5 σ H locs ls hf
    exact absurd hf (by simp [fX6_hoarseSum_5])
  | succ n ih =>
    intro x1 x2 x3 x5 σ H locs ls hf hh hl
    rw [fX6_hoarseSum_5] at hf
    refine lv_iload hx hb dX6_hoarseSum_5 (lv_at hl 4 rfl) ?_
    refine lv_iconst (v := (nI 1)) hx hb dX6_hoarseSum_7 (by decide) ?_
    refine lv_aload_n hx hb dX6_hoarseSum_8 rfl (lv_at hl 0 rfl) ?_
    refine z_get (v := .ref (g.2.2 42)) hx hb hts (fun w h => List.mem_cons_of_mem _ (List.mem_append_left _ (List.mem_append_right _ (h)))) hown E hh (by decide) (zC_obj (q := 54) rfl) rfl 0 (by decide) (hts (.fieldLink RX6 10 "TownBand" "band" "LTownBand$Band;") (List.mem_cons_of_mem _ (List.mem_append_left _ (List.mem_append_left _ (List.mem_append_left _ (List.mem_of_getElem? (i := 0) rfl)))))) rfl dX6_hoarseSum_9 ?_
    refine z_getN (v := .int (σ.1 42 8)) hx hb hts (fun w h => List.mem_cons_of_mem _ (List.mem_append_right _ (h))) hown E hh (by decide) (zC_band (by decide) (by decide)) rfl 8 (by decide) (zE_f E 21 rfl) rfl dX6_hoarseSum_12 ?_
    refine lv_ishl hx hb dX6_hoarseSum_15 ?_
    refine lv_icmp_ge (tgt := 138) hx hb dX6_hoarseSum_16 (by decide) (fun c_v1 => ?_) (fun c_v1 => ?_)
    · have hf := z_ip hf c_v1
      refine lv_lload_n hx hb dX6_hoarseSum_138 rfl (lv_at hl 3 rfl) ?_
      have hf := Option.some.inj hf
      subst hf
      exact z_lretX hx hb hr hlocks hh dX6_hoarseSum_139
    · have hf := z_in hf c_v1
      refine lv_aload_n hx hb dX6_hoarseSum_19 rfl (lv_at hl 0 rfl) ?_
      refine lv_iload hx hb dX6_hoarseSum_20 (lv_at hl 4 rfl) ?_
      obtain ⟨q2, h_q2, hf⟩ := z_bd hf
      refine z_xv (va_runV (As := [.int x5]) (rest := []) ⟨hx, hb, hml, hown, hts⟩ (zcX6_silence l g A σ τ N x5 h_q2) (cwV 1 hts gX6_hoarseSum_X6_silence rfl rfl rfl hdX6_silence ⟨by decide, by decide⟩) (z_preV E hh (by decide) (zC_obj (q := 54) rfl) rfl) rfl rfl hl.1 rfl (lv_room (Nat.le_of_ble_eq_true rfl)) dX6_hoarseSum_22 ⟨Nat.le_refl _, Nat.le_refl _⟩) hh (fun H locs hh => ?_)
      refine lv_aload_n hx hb dX6_hoarseSum_25 rfl (lv_at hl 0 rfl) ?_
      refine z_get (v := .ref (g.2.2 42)) hx hb hts (fun w h => List.mem_cons_of_mem _ (List.mem_append_left _ (List.mem_append_right _ (h)))) hown E hh (by decide) (zC_obj (q := 54) rfl) rfl 0 (by decide) (hts (.fieldLink RX6 10 "TownBand" "band" "LTownBand$Band;") (List.mem_cons_of_mem _ (List.mem_append_left _ (List.mem_append_left _ (List.mem_append_left _ (List.mem_of_getElem? (i := 0) rfl)))))) rfl dX6_hoarseSum_26 ?_
      refine lv_aload_n hx hb dX6_hoarseSum_29 rfl (lv_at hl 0 rfl) ?_
      refine z_get (v := .ref (g.2.2 42)) hx hb hts (fun w h => List.mem_cons_of_mem _ (List.mem_append_left _ (List.mem_append_right _ (h)))) hown E hh (by decide) (zC_obj (q := 54) rfl) rfl 0 (by decide) (hts (.fieldLink RX6 10 "TownBand" "band" "LTownBand$Band;") (List.mem_cons_of_mem _ (List.mem_append_left _ (List.mem_append_left _ (List.mem_append_left _ (List.mem_of_getElem? (i := 0) rfl)))))) rfl dX6_hoarseSum_30 ?_
      refine lv_aload_n hx hb dX6_hoarseSum_33 rfl (lv_at hl 0 rfl) ?_
      refine z_get (v := .ref (g.2.2 42)) hx hb hts (fun w h => List.mem_cons_of_mem _ (List.mem_append_left _ (List.mem_append_right _ (h)))) hown E hh (by decide) (zC_obj (q := 54) rfl) rfl 0 (by decide) (hts (.fieldLink RX6 10 "TownBand" "band" "LTownBand$Band;") (List.mem_cons_of_mem _ (List.mem_append_left _ (List.mem_append_left _ (List.mem_append_left _ (List.mem_of_getElem? (i := 0) rfl)))))) rfl dX6_hoarseSum_34 ?_
      refine z_getN (v := .ref (g.2.2 4)) hx hb hts (fun w h => List.mem_cons_of_mem _ (List.mem_append_right _ (h))) hown E hh (by decide) (zC_band (by decide) (by decide)) rfl 4 (by decide) (zE_f E 10 rfl) rfl dX6_hoarseSum_37 ?_
      refine lv_aload_n hx hb dX6_hoarseSum_40 rfl (lv_at hl 0 rfl) ?_
      refine z_get (v := .ref (g.2.2 42)) hx hb hts (fun w h => List.mem_cons_of_mem _ (List.mem_append_left _ (List.mem_append_right _ (h)))) hown E hh (by decide) (zC_obj (q := 54) rfl) rfl 0 (by decide) (hts (.fieldLink RX6 10 "TownBand" "band" "LTownBand$Band;") (List.mem_cons_of_mem _ (List.mem_append_left _ (List.mem_append_left _ (List.mem_append_left _ (List.mem_of_getElem? (i := 0) rfl)))))) rfl dX6_hoarseSum_41 ?_
      refine z_getN (v := .int (q2.1 42 8)) hx hb hts (fun w h => List.mem_cons_of_mem _ (List.mem_append_right _ (h))) hown E hh (by decide) (zC_band (by decide) (by decide)) rfl 8 (by decide) (zE_f E 21 rfl) rfl dX6_hoarseSum_44 ?_
      refine lv_aload_n hx hb dX6_hoarseSum_47 rfl (lv_at hl 0 rfl) ?_
      refine z_get (v := .ref (g.2.2 34)) hx hb hts (fun w h => List.mem_cons_of_mem _ (List.mem_append_left _ (List.mem_append_right _ (h)))) hown E hh (by decide) (zC_obj (q := 54) rfl) rfl 8 (by decide) (hts (.fieldLink RX6 58 "TownBand" "throats" "[I") (List.mem_cons_of_mem _ (List.mem_append_left _ (List.mem_append_left _ (List.mem_append_left _ (List.mem_of_getElem? (i := 1) rfl)))))) rfl dX6_hoarseSum_48 ?_
      obtain ⟨q3, h_q3, hf⟩ := z_bd hf
      refine z_xi (va_runVN (As := [.ref (g.2.2 4), .int (q2.1 42 8), .ref (g.2.2 34)]) (rest := [.ref (g.2.2 42)]) ⟨hx, hb, hml, hown, hts⟩ (zcX0_noiseBy l g A q2 τ N 42 4 (q2.1 42 8) 34 (by decide) (by decide) (by decide) (by decide) h_q3) ⟨va_cnB 3 hts gX6_hoarseSum_X0_noiseBy_n162 rfl rfl rfl (zE_m E 22 rfl) (hts (.initialized RX0) (List.mem_cons_of_mem _ (List.mem_append_left _ (List.mem_append_left _ (List.mem_append_left _ (List.mem_of_getElem? (i := 12) rfl)))))) hdX0_noiseBy.2 ⟨by decide, by decide⟩, (hts (.instanceMethod yX0_noiseBy) (List.mem_cons_of_mem _ (List.mem_append_left _ (List.mem_append_left _ (List.mem_append_left _ (List.mem_of_getElem? (i := 11) rfl)))))), (hts (.selects RX0 yX0_noiseBy yX0_noiseBy) (List.mem_cons_of_mem _ (List.mem_append_left _ (List.mem_append_left _ (List.mem_append_left _ (List.mem_of_getElem? (i := 13) rfl))))))⟩ (z_preV E hh (by decide) (zC_band (by decide) (by decide)) rfl) rfl rfl hl.1 rfl (lv_room (Nat.le_of_ble_eq_true rfl)) dX6_hoarseSum_51 ⟨Nat.le_refl _, Nat.le_refl _⟩) hh (fun H locs hh => ?_)
      obtain ⟨q4, h_q4, hf⟩ := z_bd hf
      refine z_xi (va_runVN (As := [.int q3]) (rest := []) ⟨hx, hb, hml, hown, hts⟩ (zcX0_fledBits l g A q2 τ N 42 q3 (by decide) (by decide) h_q4) ⟨va_cnB 1 hts gX6_hoarseSum_X0_fledBits_n166 rfl rfl rfl (zE_m E 23 rfl) (hts (.initialized RX0) (List.mem_cons_of_mem _ (List.mem_append_left _ (List.mem_append_left _ (List.mem_append_left _ (List.mem_of_getElem? (i := 12) rfl)))))) hdX0_fledBits.2 ⟨by decide, by decide⟩, (hts (.instanceMethod yX0_fledBits) (List.mem_cons_of_mem _ (List.mem_append_left _ (List.mem_append_left _ (List.mem_append_left _ (List.mem_of_getElem? (i := 15) rfl)))))), (hts (.selects RX0 yX0_fledBits yX0_fledBits) (List.mem_cons_of_mem _ (List.mem_append_left _ (List.mem_append_left _ (List.mem_append_left _ (List.mem_of_getElem? (i := 16) rfl))))))⟩ (z_preV E hh (by decide) (zC_band (by decide) (by decide)) rfl) rfl rfl hl.1 rfl (lv_room (Nat.le_of_ble_eq_true rfl)) dX6_hoarseSum_54 ⟨Nat.le_refl _, Nat.le_refl _⟩) hh (fun H locs hh => ?_)
      obtain ⟨q5, h_q5, hf⟩ := z_bd hf
      refine z_xi (va_runS (As := [.int q4]) (rest := []) ⟨hx, hb, hml, hown, hts⟩ (zcJ6_bitCount_0f7a4 l g A q2 τ N q4 h_q5) (va_cwS 1 hts gX6_hoarseSum_J6_bitCount_0f7a4 rfl rfl rfl hdJ6_bitCount_0f7a4.2 ⟨by decide, by decide⟩) (z_preS E hh) rfl rfl hl.1 rfl (lv_room (Nat.le_of_ble_eq_true rfl)) dX6_hoarseSum_57 ⟨Nat.le_refl _, Nat.le_refl _⟩) hh (fun H locs hh => ?_)
      refine lv_istore (lv' := [(6, .int q5), (0, .ref (g.2.2 54)), (1, .int x1), (2, .int x2), (3, .long x3), (5, .int x5)]) hx hb dX6_hoarseSum_60 hl (by decide) rfl (fun ls hl => ?_)
      refine lv_iload hx hb dX6_hoarseSum_62 (lv_at hl 5 rfl) ?_
      obtain ⟨q6, h_q6, hf⟩ := z_bd hf
      refine z_xi (va_runS (As := [.int x5]) (rest := []) ⟨hx, hb, hml, hown, hts⟩ (zcJ6_bitCount_0f7a4 l g A q2 τ N x5 h_q6) (va_cwS 1 hts gX6_hoarseSum_J6_bitCount_0f7a4 rfl rfl rfl hdJ6_bitCount_0f7a4.2 ⟨by decide, by decide⟩) (z_preS E hh) rfl rfl hl.1 rfl (lv_room (Nat.le_of_ble_eq_true rfl)) dX6_hoarseSum_64 ⟨Nat.le_refl _, Nat.le_refl _⟩) hh (fun H locs hh => ?_)
      refine lv_istore (lv' := [(7, .int q6), (6, .int q5), (0, .ref (g.2.2 54)), (1, .int x1), (2, .int x2), (3, .long x3), (5, .int x5)]) hx hb dX6_hoarseSum_67 hl (by decide) rfl (fun ls hl => ?_)
      refine lv_iload_n hx hb dX6_hoarseSum_69 rfl (lv_at hl 3 rfl) ?_
      refine lv_iload hx hb dX6_hoarseSum_70 (lv_at hl 0 rfl) ?_
      obtain ⟨q7, h_q7, hf⟩ := z_bd hf
      refine z_xl (va_runS (As := [.int x1, .int q6]) (rest := []) ⟨hx, hb, hml, hown, hts⟩ (zcX6_power l g A q2 τ N x1 q6 h_q7) (va_cwS 2 hts gX6_hoarseSum_X6_power rfl rfl rfl hdX6_power.2 ⟨by decide, by decide⟩) (z_preS E hh) rfl rfl hl.1 rfl (lv_room (Nat.le_of_ble_eq_true rfl)) dX6_hoarseSum_72 ⟨Nat.le_refl _, Nat.le_refl _⟩) hh (fun H locs hh => ?_)
      refine lv_bipush (v := (nI 10)) hx hb dX6_hoarseSum_75 (by decide) ?_
      refine lv_iload_n hx hb dX6_hoarseSum_77 rfl (lv_at hl 3 rfl) ?_
      refine lv_isub hx hb dX6_hoarseSum_78 ?_
      refine lv_aload_n hx hb dX6_hoarseSum_79 rfl (lv_at hl 2 rfl) ?_
      refine z_get (v := .ref (g.2.2 42)) hx hb hts (fun w h => List.mem_cons_of_mem _ (List.mem_append_left _ (List.mem_append_right _ (h)))) hown E hh (by decide) (zC_obj (q := 54) rfl) rfl 0 (by decide) (hts (.fieldLink RX6 10 "TownBand" "band" "LTownBand$Band;") (List.mem_cons_of_mem _ (List.mem_append_left _ (List.mem_append_left _ (List.mem_append_left _ (List.mem_of_getElem? (i := 0) rfl)))))) rfl dX6_hoarseSum_80 ?_
      refine z_getN (v := .int (q2.1 42 8)) hx hb hts (fun w h => List.mem_cons_of_mem _ (List.mem_append_right _ (h))) hown E hh (by decide) (zC_band (by decide) (by decide)) rfl 8 (by decide) (zE_f E 21 rfl) rfl dX6_hoarseSum_83 ?_
      refine lv_iload hx hb dX6_hoarseSum_86 (lv_at hl 0 rfl) ?_
      refine lv_isub hx hb dX6_hoarseSum_88 ?_
      obtain ⟨q8, h_q8, hf⟩ := z_bd hf
      refine z_xl (va_runS (As := [.int ((nI 10) - x1), .int ((q2.1 42 8) - q6)]) (rest := [.long q7]) ⟨hx, hb, hml, hown, hts⟩ (zcX6_power l g A q2 τ N ((nI 10) - x1) ((q2.1 42 8) - q6) h_q8) (va_cwS 2 hts gX6_hoarseSum_X6_power rfl rfl rfl hdX6_power.2 ⟨by decide, by decide⟩) (z_preS E hh) rfl rfl hl.1 rfl (lv_room (Nat.le_of_ble_eq_true rfl)) dX6_hoarseSum_89 ⟨Nat.le_refl _, Nat.le_refl _⟩) hh (fun H locs hh => ?_)
      refine lv_lmul hx hb dX6_hoarseSum_92 ?_
      refine lv_lstore (lv' := [(8, .long (q7 * q8)), (7, .int q6), (6, .int q5), (0, .ref (g.2.2 54)), (1, .int x1), (2, .int x2), (3, .long x3), (5, .int x5)]) hx hb dX6_hoarseSum_93 hl (by decide) rfl (fun ls hl => ?_)
      refine lv_iload_n hx hb dX6_hoarseSum_95 rfl (lv_at hl 5 rfl) ?_
      refine lv_if_eq (tgt := 123) hx hb dX6_hoarseSum_96 (by decide) (fun c_v9 => ?_) (fun c_v9 => ?_)
      · have hf := z_ip hf c_v9
        refine lv_lload_n hx hb dX6_hoarseSum_123 rfl (lv_at hl 6 rfl) ?_
        refine lv_lload hx hb dX6_hoarseSum_124 (lv_at hl 0 rfl) ?_
        refine lv_iload hx hb dX6_hoarseSum_126 (lv_at hl 2 rfl) ?_
        refine lv_i2l hx hb dX6_hoarseSum_128 rfl ?_
        refine lv_lmul hx hb dX6_hoarseSum_129 ?_
        refine lv_ladd hx hb dX6_hoarseSum_130 ?_
        obtain ⟨v10, e_v10, hf⟩ := z_lt hf
        refine z_topl e_v10 ?_
        refine lv_lstore_n (lv' := [(3, .long v10), (8, .long (q7 * q8)), (7, .int q6), (6, .int q5), (0, .ref (g.2.2 54)), (1, .int x1), (2, .int x2), (5, .int x5)]) hx hb dX6_hoarseSum_131 rfl hl (by decide) rfl (fun ls hl => ?_)
        exact (hX6_hoarseSum_132 C E N (fX6_hoarseSum_5 N n) ih) x1 x2 v10 x5 q2 _ _ _ hf hh (lv_sub hl [4, 5, 6, 0, 7] rfl)
      · have hf := z_in hf c_v9
        refine lv_lload_n hx hb dX6_hoarseSum_99 rfl (lv_at hl 6 rfl) ?_
        refine lv_iload hx hb dX6_hoarseSum_100 (lv_at hl 2 rfl) ?_
        refine lv_aload_n hx hb dX6_hoarseSum_102 rfl (lv_at hl 3 rfl) ?_
        refine z_get (v := .ref (g.2.2 42)) hx hb hts (fun w h => List.mem_cons_of_mem _ (List.mem_append_left _ (List.mem_append_right _ (h)))) hown E hh (by decide) (zC_obj (q := 54) rfl) rfl 0 (by decide) (hts (.fieldLink RX6 10 "TownBand" "band" "LTownBand$Band;") (List.mem_cons_of_mem _ (List.mem_append_left _ (List.mem_append_left _ (List.mem_append_left _ (List.mem_of_getElem? (i := 0) rfl)))))) rfl dX6_hoarseSum_103 ?_
        refine z_getN (v := .int (q2.1 42 7)) hx hb hts (fun w h => List.mem_cons_of_mem _ (List.mem_append_right _ (h))) hown E hh (by decide) (zC_band (by decide) (by decide)) rfl 7 (by decide) (zE_f E 20 rfl) rfl dX6_hoarseSum_106 ?_
        refine lv_icmp_ne (tgt := 117) hx hb dX6_hoarseSum_109 (by decide) (fun c_v11 => ?_) (fun c_v11 => ?_)
        · have hf := z_in hf c_v11
          refine lv_lconst (v := 0) hx hb dX6_hoarseSum_117 (by decide) ?_
          exact (hX6_hoarseSum_118 C E N (fX6_hoarseSum_5 N n) ih) x1 x2 x5 0 x3 q2 _ _ _ hf hh (lv_sub hl [3, 4, 5, 7] rfl)
        · have hf := z_ip hf c_v11
          refine lv_lload hx hb dX6_hoarseSum_112 (lv_at hl 0 rfl) ?_
          refine lv_goto (tgt := 118) hx hb dX6_hoarseSum_114 (by decide) ?_
          exact (hX6_hoarseSum_118 C E N (fX6_hoarseSum_5 N n) ih) x1 x2 x5 (q7 * q8) x3 q2 _ _ _ hf hh (lv_sub hl [3, 4, 5, 7] rfl)
def fX6_hoarseSum (N : Nat) (σ : zS) (x1 : Int32) (x2 : Int32) : Option (Int64 × zS) :=
  (fX6_hoarseSum_5 N N) x1 x2 0 (nI 0) σ
set_option maxRecDepth 100000 in
set_option maxHeartbeats 4000000 in
theorem zcX6_hoarseSum (l : Launch) (g : zG) (A : Nat → Prop) (σ τ : zS) (N : Nat) (x1 : Int32) (x2 : Int32)  {res : Int64 × zS} (hf : fX6_hoarseSum N σ x1 x2 = some res) : Met l yX6_hoarseSum wsX6_hoarseSum (zR 2) (zPc g A σ τ [.ref (g.2.2 54), .int x1, .int x2]) (zQl g A τ res) 0 0 A := by
  refine z_met (cc := cX6_hoarseSum) (ret := (some .long)) (own := RX6) (by decide) rfl rfl _ (Nat.le_of_ble_eq_true rfl) ?_
  intro p e s m below meth c C E ls hl hh
  have hl : lv_has ls 10 [(0, .ref (g.2.2 54)), (1, .int x1), (2, .int x2)] := hl
  obtain ⟨hx, hb, hr, hml, hown, hts, hlocks⟩ := id C
  unfold fX6_hoarseSum at hf
  refine lv_lconst (v := 0) hx hb dX6_hoarseSum_0 (by decide) ?_
  refine lv_lstore_n (lv' := [(3, .long 0), (0, .ref (g.2.2 54)), (1, .int x1), (2, .int x2)]) hx hb dX6_hoarseSum_1 rfl hl (by decide) rfl (fun ls hl => ?_)
  refine lv_iconst (v := (nI 0)) hx hb dX6_hoarseSum_2 (by decide) ?_
  refine lv_istore (lv' := [(5, .int (nI 0)), (3, .long 0), (0, .ref (g.2.2 54)), (1, .int x1), (2, .int x2)]) hx hb dX6_hoarseSum_3 hl (by decide) rfl (fun ls hl => ?_)
  exact (hX6_hoarseSum_5 C E N N) x1 x2 0 (nI 0) σ _ _ _ hf hh (lv_sub hl [2, 3, 4, 1, 0] rfl)
/-! ===== X6_mean ===== -/
theorem hdX6_mean : yX6_mean.cls = RX6 ∧ yX6_mean.cls ≠ "java/lang/invoke/MethodHandle" ∧ yX6_mean.cls ≠ "java/lang/invoke/VarHandle" ∧ (parseMethodDescriptor yX6_mean.desc).map (fun d => d.parameters.length) = some 2 := by decide +kernel
def PX6_mean_19 (p : Program) (l : Launch) (e : Env) (s : State) (m : MethodId) (args : Array Value) (below : List Frame) (meth : Method) (c : Code) (g : zG) (A : Nat → Prop) (τ : zS) (res : Int64 × zS) (f : zS → Option (Int64 × zS)) : Prop := ∀  (σ : zS) (H : Heap) (locs : List Loc) (ls : Array Slot), f σ = some res → zW g A σ τ s H locs → lv_has ls 3 [] → W p l e (zR 3) s m args below meth c H locs 0 0 (MQ below (zQl g A τ res) args s 0 0 A) (F0 m 19 ls [])
def fX6_mean_19 (N : Nat)  (σ : zS) : Option (Int64 × zS) :=
  some ((-1), σ)
set_option maxRecDepth 100000 in
set_option maxHeartbeats 4000000 in
theorem hX6_mean_19 {p : Program} {l : Launch} {e : Env} {s : State} {m : MethodId} {args : Array Value} {below : List Frame} {meth : Method} {c : Code} {g : zG} {A : Nat → Prop} {τ : zS} {res : Int64 × zS} (C : zCx p s m args meth c cX6_mean (some .long) wsX6_mean RX6 3) (E : zE g A s) (N : Nat) : PX6_mean_19 p l e s m args below meth c g A τ res (fX6_mean_19 N) := by
  obtain ⟨hx, hb, hr, hml, hown, hts, hlocks⟩ := id C
  intro σ H locs ls hf hh hl
  unfold fX6_mean_19 at hf
  refine lv_ldc2 (v := (-1)) hx hb hown (hts (.constantLong RX6 222 (-1)) (List.mem_cons_of_mem _ (List.mem_append_left _ (List.mem_append_left _ (List.mem_append_left _ (List.mem_of_getElem? (i := 0) rfl)))))) dX6_mean_19 ?_
  have hf := Option.some.inj hf
  subst hf
  exact z_lretX hx hb hr hlocks hh dX6_mean_22
def fX6_mean (N : Nat) (σ : zS) (x1 : Int32) (x2 : Int32) : Option (Int64 × zS) :=
  (fX6_within N x1 (nI 0) (nI 10)).bind fun q1 =>
  if q1 = 0 then
    (fX6_mean_19 N) σ
  else
    (fX6_within N x2 (nI 0) (nI 1)).bind fun q3 =>
    if q3 = 0 then
      (fX6_mean_19 N) σ
    else
      (fX6_hoarseSum N σ x1 (nI 0)).bind fun q5 =>
      (fX6_power N (nI 10) (q5.2.1 42 8)).bind fun q6 =>
      (fX6_partOf N q5.1 q6 x2).bind fun q7 =>
      some (q7, q5.2)
set_option maxRecDepth 100000 in
set_option maxHeartbeats 4000000 in
theorem zcX6_mean (l : Launch) (g : zG) (A : Nat → Prop) (σ τ : zS) (N : Nat) (x1 : Int32) (x2 : Int32)  {res : Int64 × zS} (hf : fX6_mean N σ x1 x2 = some res) : Met l yX6_mean wsX6_mean (zR 3) (zPc g A σ τ [.ref (g.2.2 54), .int x1, .int x2]) (zQl g A τ res) 0 0 A := by
  refine z_met (cc := cX6_mean) (ret := (some .long)) (own := RX6) (by decide) rfl rfl _ (Nat.le_of_ble_eq_true rfl) ?_
  intro p e s m below meth c C E ls hl hh
  have hl : lv_has ls 3 [(0, .ref (g.2.2 54)), (1, .int x1), (2, .int x2)] := hl
  obtain ⟨hx, hb, hr, hml, hown, hts, hlocks⟩ := id C
  unfold fX6_mean at hf
  refine lv_iload_n hx hb dX6_mean_0 rfl (lv_at hl 1 rfl) ?_
  refine lv_iconst (v := (nI 0)) hx hb dX6_mean_1 (by decide) ?_
  refine lv_bipush (v := (nI 10)) hx hb dX6_mean_2 (by decide) ?_
  obtain ⟨q1, h_q1, hf⟩ := z_bd hf
  refine z_xi (va_runS (As := [.int x1, .int (nI 0), .int (nI 10)]) (rest := []) ⟨hx, hb, hml, hown, hts⟩ (zcX6_within l g A σ τ N x1 (nI 0) (nI 10) h_q1) (va_cwS 3 hts gX6_mean_X6_within rfl rfl rfl hdX6_within.2 ⟨by decide, by decide⟩) (z_preS E hh) rfl rfl hl.1 rfl (lv_room (Nat.le_of_ble_eq_true rfl)) dX6_mean_4 ⟨Nat.le_refl _, Nat.le_refl _⟩) hh (fun H locs hh => ?_)
  refine lv_if_eq (tgt := 19) hx hb dX6_mean_7 (by decide) (fun c_v2 => ?_) (fun c_v2 => ?_)
  · have hf := z_ip hf c_v2
    exact (hX6_mean_19 C E N) σ _ _ _ hf hh (lv_sub hl [] rfl)
  · have hf := z_in hf c_v2
    refine lv_iload_n hx hb dX6_mean_10 rfl (lv_at hl 2 rfl) ?_
    refine lv_iconst (v := (nI 0)) hx hb dX6_mean_11 (by decide) ?_
    refine lv_iconst (v := (nI 1)) hx hb dX6_mean_12 (by decide) ?_
    obtain ⟨q3, h_q3, hf⟩ := z_bd hf
    refine z_xi (va_runS (As := [.int x2, .int (nI 0), .int (nI 1)]) (rest := []) ⟨hx, hb, hml, hown, hts⟩ (zcX6_within l g A σ τ N x2 (nI 0) (nI 1) h_q3) (va_cwS 3 hts gX6_mean_X6_within rfl rfl rfl hdX6_within.2 ⟨by decide, by decide⟩) (z_preS E hh) rfl rfl hl.1 rfl (lv_room (Nat.le_of_ble_eq_true rfl)) dX6_mean_13 ⟨Nat.le_refl _, Nat.le_refl _⟩) hh (fun H locs hh => ?_)
    refine lv_if_ne (tgt := 23) hx hb dX6_mean_16 (by decide) (fun c_v4 => ?_) (fun c_v4 => ?_)
    · have hf := z_in hf c_v4
      refine lv_aload_n hx hb dX6_mean_23 rfl (lv_at hl 0 rfl) ?_
      refine lv_iload_n hx hb dX6_mean_24 rfl (lv_at hl 1 rfl) ?_
      refine lv_iconst (v := (nI 0)) hx hb dX6_mean_25 (by decide) ?_
      obtain ⟨q5, h_q5, hf⟩ := z_bd hf
      refine z_xl (va_runV (As := [.int x1, .int (nI 0)]) (rest := []) ⟨hx, hb, hml, hown, hts⟩ (zcX6_hoarseSum l g A σ τ N x1 (nI 0) h_q5) (cwV 2 hts gX6_mean_X6_hoarseSum rfl rfl rfl hdX6_hoarseSum ⟨by decide, by decide⟩) (z_preV E hh (by decide) (zC_obj (q := 54) rfl) rfl) rfl rfl hl.1 rfl (lv_room (Nat.le_of_ble_eq_true rfl)) dX6_mean_26 ⟨Nat.le_refl _, Nat.le_refl _⟩) hh (fun H locs hh => ?_)
      refine lv_bipush (v := (nI 10)) hx hb dX6_mean_29 (by decide) ?_
      refine lv_aload_n hx hb dX6_mean_31 rfl (lv_at hl 0 rfl) ?_
      refine z_get (v := .ref (g.2.2 42)) hx hb hts (fun w h => List.mem_cons_of_mem _ (List.mem_append_left _ (List.mem_append_right _ (h)))) hown E hh (by decide) (zC_obj (q := 54) rfl) rfl 0 (by decide) (hts (.fieldLink RX6 10 "TownBand" "band" "LTownBand$Band;") (List.mem_cons_of_mem _ (List.mem_append_left _ (List.mem_append_left _ (List.mem_append_left _ (List.mem_of_getElem? (i := 1) rfl)))))) rfl dX6_mean_32 ?_
      refine z_getN (v := .int (q5.2.1 42 8)) hx hb hts (fun w h => List.mem_cons_of_mem _ (List.mem_append_right _ (h))) hown E hh (by decide) (zC_band (by decide) (by decide)) rfl 8 (by decide) (zE_f E 21 rfl) rfl dX6_mean_35 ?_
      obtain ⟨q6, h_q6, hf⟩ := z_bd hf
      refine z_xl (va_runS (As := [.int (nI 10), .int (q5.2.1 42 8)]) (rest := [.long q5.1]) ⟨hx, hb, hml, hown, hts⟩ (zcX6_power l g A q5.2 τ N (nI 10) (q5.2.1 42 8) h_q6) (va_cwS 2 hts gX6_mean_X6_power rfl rfl rfl hdX6_power.2 ⟨by decide, by decide⟩) (z_preS E hh) rfl rfl hl.1 rfl (lv_room (Nat.le_of_ble_eq_true rfl)) dX6_mean_38 ⟨Nat.le_refl _, Nat.le_refl _⟩) hh (fun H locs hh => ?_)
      refine lv_iload_n hx hb dX6_mean_41 rfl (lv_at hl 2 rfl) ?_
      obtain ⟨q7, h_q7, hf⟩ := z_bd hf
      refine z_xl (va_runS (As := [.long q5.1, .long q6, .int x2]) (rest := []) ⟨hx, hb, hml, hown, hts⟩ (zcX6_partOf l g A q5.2 τ N q5.1 q6 x2 h_q7) (va_cwS 3 hts gX6_mean_X6_partOf rfl rfl rfl hdX6_partOf.2 ⟨by decide, by decide⟩) (z_preS E hh) rfl rfl hl.1 rfl (lv_room (Nat.le_of_ble_eq_true rfl)) dX6_mean_42 ⟨Nat.le_refl _, Nat.le_refl _⟩) hh (fun H locs hh => ?_)
      have hf := Option.some.inj hf
      subst hf
      exact z_lretX hx hb hr hlocks hh dX6_mean_45
    · have hf := z_ip hf c_v4
      exact (hX6_mean_19 C E N) σ _ _ _ hf hh (lv_sub hl [] rfl)
/-! ===== X6_luck ===== -/
theorem hdX6_luck : yX6_luck.cls = RX6 ∧ yX6_luck.cls ≠ "java/lang/invoke/MethodHandle" ∧ yX6_luck.cls ≠ "java/lang/invoke/VarHandle" ∧ (parseMethodDescriptor yX6_luck.desc).map (fun d => d.parameters.length) = some 2 := by decide +kernel
def PX6_luck_19 (p : Program) (l : Launch) (e : Env) (s : State) (m : MethodId) (args : Array Value) (below : List Frame) (meth : Method) (c : Code) (g : zG) (A : Nat → Prop) (τ : zS) (res : Int64 × zS) (f : zS → Option (Int64 × zS)) : Prop := ∀  (σ : zS) (H : Heap) (locs : List Loc) (ls : Array Slot), f σ = some res → zW g A σ τ s H locs → lv_has ls 3 [] → W p l e (zR 3) s m args below meth c H locs 0 0 (MQ below (zQl g A τ res) args s 0 0 A) (F0 m 19 ls [])
def fX6_luck_19 (N : Nat)  (σ : zS) : Option (Int64 × zS) :=
  some ((-1), σ)
set_option maxRecDepth 100000 in
set_option maxHeartbeats 4000000 in
theorem hX6_luck_19 {p : Program} {l : Launch} {e : Env} {s : State} {m : MethodId} {args : Array Value} {below : List Frame} {meth : Method} {c : Code} {g : zG} {A : Nat → Prop} {τ : zS} {res : Int64 × zS} (C : zCx p s m args meth c cX6_luck (some .long) wsX6_luck RX6 3) (E : zE g A s) (N : Nat) : PX6_luck_19 p l e s m args below meth c g A τ res (fX6_luck_19 N) := by
  obtain ⟨hx, hb, hr, hml, hown, hts, hlocks⟩ := id C
  intro σ H locs ls hf hh hl
  unfold fX6_luck_19 at hf
  refine lv_ldc2 (v := (-1)) hx hb hown (hts (.constantLong RX6 222 (-1)) (List.mem_cons_of_mem _ (List.mem_append_left _ (List.mem_append_left _ (List.mem_append_left _ (List.mem_of_getElem? (i := 0) rfl)))))) dX6_luck_19 ?_
  have hf := Option.some.inj hf
  subst hf
  exact z_lretX hx hb hr hlocks hh dX6_luck_22
def fX6_luck (N : Nat) (σ : zS) (x1 : Int32) (x2 : Int32) : Option (Int64 × zS) :=
  (fX6_within N x1 (nI 0) (nI 10)).bind fun q1 =>
  if q1 = 0 then
    (fX6_luck_19 N) σ
  else
    (fX6_within N x2 (nI 0) (nI 1)).bind fun q3 =>
    if q3 = 0 then
      (fX6_luck_19 N) σ
    else
      (fX6_hoarseSum N σ x1 (nI 1)).bind fun q5 =>
      (fX6_power N (nI 10) (q5.2.1 42 8)).bind fun q6 =>
      (fX6_partOf N q5.1 q6 x2).bind fun q7 =>
      some (q7, q5.2)
set_option maxRecDepth 100000 in
set_option maxHeartbeats 4000000 in
theorem zcX6_luck (l : Launch) (g : zG) (A : Nat → Prop) (σ τ : zS) (N : Nat) (x1 : Int32) (x2 : Int32)  {res : Int64 × zS} (hf : fX6_luck N σ x1 x2 = some res) : Met l yX6_luck wsX6_luck (zR 3) (zPc g A σ τ [.ref (g.2.2 54), .int x1, .int x2]) (zQl g A τ res) 0 0 A := by
  refine z_met (cc := cX6_luck) (ret := (some .long)) (own := RX6) (by decide) rfl rfl _ (Nat.le_of_ble_eq_true rfl) ?_
  intro p e s m below meth c C E ls hl hh
  have hl : lv_has ls 3 [(0, .ref (g.2.2 54)), (1, .int x1), (2, .int x2)] := hl
  obtain ⟨hx, hb, hr, hml, hown, hts, hlocks⟩ := id C
  unfold fX6_luck at hf
  refine lv_iload_n hx hb dX6_luck_0 rfl (lv_at hl 1 rfl) ?_
  refine lv_iconst (v := (nI 0)) hx hb dX6_luck_1 (by decide) ?_
  refine lv_bipush (v := (nI 10)) hx hb dX6_luck_2 (by decide) ?_
  obtain ⟨q1, h_q1, hf⟩ := z_bd hf
  refine z_xi (va_runS (As := [.int x1, .int (nI 0), .int (nI 10)]) (rest := []) ⟨hx, hb, hml, hown, hts⟩ (zcX6_within l g A σ τ N x1 (nI 0) (nI 10) h_q1) (va_cwS 3 hts gX6_luck_X6_within rfl rfl rfl hdX6_within.2 ⟨by decide, by decide⟩) (z_preS E hh) rfl rfl hl.1 rfl (lv_room (Nat.le_of_ble_eq_true rfl)) dX6_luck_4 ⟨Nat.le_refl _, Nat.le_refl _⟩) hh (fun H locs hh => ?_)
  refine lv_if_eq (tgt := 19) hx hb dX6_luck_7 (by decide) (fun c_v2 => ?_) (fun c_v2 => ?_)
  · have hf := z_ip hf c_v2
    exact (hX6_luck_19 C E N) σ _ _ _ hf hh (lv_sub hl [] rfl)
  · have hf := z_in hf c_v2
    refine lv_iload_n hx hb dX6_luck_10 rfl (lv_at hl 2 rfl) ?_
    refine lv_iconst (v := (nI 0)) hx hb dX6_luck_11 (by decide) ?_
    refine lv_iconst (v := (nI 1)) hx hb dX6_luck_12 (by decide) ?_
    obtain ⟨q3, h_q3, hf⟩ := z_bd hf
    refine z_xi (va_runS (As := [.int x2, .int (nI 0), .int (nI 1)]) (rest := []) ⟨hx, hb, hml, hown, hts⟩ (zcX6_within l g A σ τ N x2 (nI 0) (nI 1) h_q3) (va_cwS 3 hts gX6_luck_X6_within rfl rfl rfl hdX6_within.2 ⟨by decide, by decide⟩) (z_preS E hh) rfl rfl hl.1 rfl (lv_room (Nat.le_of_ble_eq_true rfl)) dX6_luck_13 ⟨Nat.le_refl _, Nat.le_refl _⟩) hh (fun H locs hh => ?_)
    refine lv_if_ne (tgt := 23) hx hb dX6_luck_16 (by decide) (fun c_v4 => ?_) (fun c_v4 => ?_)
    · have hf := z_in hf c_v4
      refine lv_aload_n hx hb dX6_luck_23 rfl (lv_at hl 0 rfl) ?_
      refine lv_iload_n hx hb dX6_luck_24 rfl (lv_at hl 1 rfl) ?_
      refine lv_iconst (v := (nI 1)) hx hb dX6_luck_25 (by decide) ?_
      obtain ⟨q5, h_q5, hf⟩ := z_bd hf
      refine z_xl (va_runV (As := [.int x1, .int (nI 1)]) (rest := []) ⟨hx, hb, hml, hown, hts⟩ (zcX6_hoarseSum l g A σ τ N x1 (nI 1) h_q5) (cwV 2 hts gX6_luck_X6_hoarseSum rfl rfl rfl hdX6_hoarseSum ⟨by decide, by decide⟩) (z_preV E hh (by decide) (zC_obj (q := 54) rfl) rfl) rfl rfl hl.1 rfl (lv_room (Nat.le_of_ble_eq_true rfl)) dX6_luck_26 ⟨Nat.le_refl _, Nat.le_refl _⟩) hh (fun H locs hh => ?_)
      refine lv_bipush (v := (nI 10)) hx hb dX6_luck_29 (by decide) ?_
      refine lv_aload_n hx hb dX6_luck_31 rfl (lv_at hl 0 rfl) ?_
      refine z_get (v := .ref (g.2.2 42)) hx hb hts (fun w h => List.mem_cons_of_mem _ (List.mem_append_left _ (List.mem_append_right _ (h)))) hown E hh (by decide) (zC_obj (q := 54) rfl) rfl 0 (by decide) (hts (.fieldLink RX6 10 "TownBand" "band" "LTownBand$Band;") (List.mem_cons_of_mem _ (List.mem_append_left _ (List.mem_append_left _ (List.mem_append_left _ (List.mem_of_getElem? (i := 1) rfl)))))) rfl dX6_luck_32 ?_
      refine z_getN (v := .int (q5.2.1 42 8)) hx hb hts (fun w h => List.mem_cons_of_mem _ (List.mem_append_right _ (h))) hown E hh (by decide) (zC_band (by decide) (by decide)) rfl 8 (by decide) (zE_f E 21 rfl) rfl dX6_luck_35 ?_
      obtain ⟨q6, h_q6, hf⟩ := z_bd hf
      refine z_xl (va_runS (As := [.int (nI 10), .int (q5.2.1 42 8)]) (rest := [.long q5.1]) ⟨hx, hb, hml, hown, hts⟩ (zcX6_power l g A q5.2 τ N (nI 10) (q5.2.1 42 8) h_q6) (va_cwS 2 hts gX6_luck_X6_power rfl rfl rfl hdX6_power.2 ⟨by decide, by decide⟩) (z_preS E hh) rfl rfl hl.1 rfl (lv_room (Nat.le_of_ble_eq_true rfl)) dX6_luck_38 ⟨Nat.le_refl _, Nat.le_refl _⟩) hh (fun H locs hh => ?_)
      refine lv_iload_n hx hb dX6_luck_41 rfl (lv_at hl 2 rfl) ?_
      obtain ⟨q7, h_q7, hf⟩ := z_bd hf
      refine z_xl (va_runS (As := [.long q5.1, .long q6, .int x2]) (rest := []) ⟨hx, hb, hml, hown, hts⟩ (zcX6_partOf l g A q5.2 τ N q5.1 q6 x2 h_q7) (va_cwS 3 hts gX6_luck_X6_partOf rfl rfl rfl hdX6_partOf.2 ⟨by decide, by decide⟩) (z_preS E hh) rfl rfl hl.1 rfl (lv_room (Nat.le_of_ble_eq_true rfl)) dX6_luck_42 ⟨Nat.le_refl _, Nat.le_refl _⟩) hh (fun H locs hh => ?_)
      have hf := Option.some.inj hf
      subst hf
      exact z_lretX hx hb hr hlocks hh dX6_luck_45
    · have hf := z_ip hf c_v4
      exact (hX6_luck_19 C E N) σ _ _ _ hf hh (lv_sub hl [] rfl)
/-! ===== X6_see ===== -/
theorem hdX6_see : yX6_see.cls = RX6 ∧ yX6_see.cls ≠ "java/lang/invoke/MethodHandle" ∧ yX6_see.cls ≠ "java/lang/invoke/VarHandle" ∧ (parseMethodDescriptor yX6_see.desc).map (fun d => d.parameters.length) = some 2 := by decide +kernel
def fX6_see (N : Nat) (σ : zS) (x1 : Int32) (x2 : Int32) : Option (Int32 × zS) :=
  (fX6_within N x1 (nI 1) (nI 5)).bind fun q1 =>
  if q1 = 0 then
    some ((-1), σ)
  else
    (fX6_within N x2 (nI 0) (nI 99)).bind fun q3 =>
    if q3 = 0 then
      some ((-1), σ)
    else
      if (σ.1 51 2) < (nI 6) then
        if zin (σ.1 51 2) (zlen 25) then
        zlet (zpa σ 25 (upd (σ.2 25) (σ.1 51 2).toNatClampNeg x1)) fun σ7 =>
        if zin (σ7.1 51 2) (zlen 26) then
        zlet (zpa σ7 26 (upd (σ7.2 26) (σ7.1 51 2).toNatClampNeg x2)) fun σ9 =>
        zlet (zpf σ9 51 2 ((σ9.1 51 2) + (nI 1))) fun σ10 =>
        some ((σ10.1 51 2), σ10)
        else none
        else none
      else
        some ((-3), σ)
set_option maxRecDepth 100000 in
set_option maxHeartbeats 4000000 in
theorem zcX6_see (l : Launch) (g : zG) (A : Nat → Prop) (σ τ : zS) (N : Nat) (x1 : Int32) (x2 : Int32)  {res : Int32 × zS} (hf : fX6_see N σ x1 x2 = some res) : Met l yX6_see wsX6_see (zR 1) (zPc g A σ τ [.ref (g.2.2 54), .int x1, .int x2]) (zQi g A τ res) 0 0 A := by
  refine z_met (cc := cX6_see) (ret := (some .int)) (own := RX6) (by decide) rfl rfl _ (Nat.le_of_ble_eq_true rfl) ?_
  intro p e s m below meth c C E ls hl hh
  have hl : lv_has ls 3 [(0, .ref (g.2.2 54)), (1, .int x1), (2, .int x2)] := hl
  obtain ⟨hx, hb, hr, hml, hown, hts, hlocks⟩ := id C
  unfold fX6_see at hf
  refine lv_iload_n hx hb dX6_see_0 rfl (lv_at hl 1 rfl) ?_
  refine lv_iconst (v := (nI 1)) hx hb dX6_see_1 (by decide) ?_
  refine lv_iconst (v := (nI 5)) hx hb dX6_see_2 (by decide) ?_
  obtain ⟨q1, h_q1, hf⟩ := z_bd hf
  refine z_xi (va_runS (As := [.int x1, .int (nI 1), .int (nI 5)]) (rest := []) ⟨hx, hb, hml, hown, hts⟩ (zcX6_within l g A σ τ N x1 (nI 1) (nI 5) h_q1) (va_cwS 3 hts gX6_see_X6_within rfl rfl rfl hdX6_within.2 ⟨by decide, by decide⟩) (z_preS E hh) rfl rfl hl.1 rfl (lv_room (Nat.le_of_ble_eq_true rfl)) dX6_see_3 ⟨Nat.le_refl _, Nat.le_refl _⟩) hh (fun H locs hh => ?_)
  refine lv_if_eq (tgt := 19) hx hb dX6_see_6 (by decide) (fun c_v2 => ?_) (fun c_v2 => ?_)
  · have hf := z_ip hf c_v2
    refine lv_iconst (v := (-1)) hx hb dX6_see_19 (by decide) ?_
    have hf := Option.some.inj hf
    subst hf
    exact z_iretX hx hb hr hlocks hh dX6_see_20
  · have hf := z_in hf c_v2
    refine lv_iload_n hx hb dX6_see_9 rfl (lv_at hl 2 rfl) ?_
    refine lv_iconst (v := (nI 0)) hx hb dX6_see_10 (by decide) ?_
    refine lv_bipush (v := (nI 99)) hx hb dX6_see_11 (by decide) ?_
    obtain ⟨q3, h_q3, hf⟩ := z_bd hf
    refine z_xi (va_runS (As := [.int x2, .int (nI 0), .int (nI 99)]) (rest := []) ⟨hx, hb, hml, hown, hts⟩ (zcX6_within l g A σ τ N x2 (nI 0) (nI 99) h_q3) (va_cwS 3 hts gX6_see_X6_within rfl rfl rfl hdX6_within.2 ⟨by decide, by decide⟩) (z_preS E hh) rfl rfl hl.1 rfl (lv_room (Nat.le_of_ble_eq_true rfl)) dX6_see_13 ⟨Nat.le_refl _, Nat.le_refl _⟩) hh (fun H locs hh => ?_)
    refine lv_if_ne (tgt := 21) hx hb dX6_see_16 (by decide) (fun c_v4 => ?_) (fun c_v4 => ?_)
    · have hf := z_in hf c_v4
      refine lv_aload_n hx hb dX6_see_21 rfl (lv_at hl 0 rfl) ?_
      refine z_get (v := .ref (g.2.2 51)) hx hb hts (fun w h => List.mem_cons_of_mem _ (List.mem_append_left _ (List.mem_append_right _ (h)))) hown E hh (by decide) (zC_obj (q := 54) rfl) rfl 2 (by decide) (hts (.fieldLink RX6 26 "TownBand" "seen" "LTownBand$Seen;") (List.mem_cons_of_mem _ (List.mem_append_left _ (List.mem_append_left _ (List.mem_of_getElem? (i := 0) rfl))))) rfl dX6_see_22 ?_
      refine z_getN (v := .int (σ.1 51 2)) hx hb hts (fun w h => List.mem_cons_of_mem _ (List.mem_append_right _ (h))) hown E hh (by decide) (zC_obj (q := 51) rfl) rfl 2 (by decide) (zE_f E 34 rfl) rfl dX6_see_25 ?_
      refine lv_bipush (v := (nI 6)) hx hb dX6_see_28 (by decide) ?_
      refine lv_icmp_lt (tgt := 36) hx hb dX6_see_30 (by decide) (fun c_v5 => ?_) (fun c_v5 => ?_)
      · have hf := z_ip hf c_v5
        refine lv_aload_n hx hb dX6_see_36 rfl (lv_at hl 0 rfl) ?_
        refine z_get (v := .ref (g.2.2 51)) hx hb hts (fun w h => List.mem_cons_of_mem _ (List.mem_append_left _ (List.mem_append_right _ (h)))) hown E hh (by decide) (zC_obj (q := 54) rfl) rfl 2 (by decide) (hts (.fieldLink RX6 26 "TownBand" "seen" "LTownBand$Seen;") (List.mem_cons_of_mem _ (List.mem_append_left _ (List.mem_append_left _ (List.mem_of_getElem? (i := 0) rfl))))) rfl dX6_see_37 ?_
        refine z_getN (v := .ref (g.2.2 25)) hx hb hts (fun w h => List.mem_cons_of_mem _ (List.mem_append_right _ (h))) hown E hh (by decide) (zC_obj (q := 51) rfl) rfl 0 (by decide) (zE_f E 30 rfl) rfl dX6_see_40 ?_
        refine lv_aload_n hx hb dX6_see_43 rfl (lv_at hl 0 rfl) ?_
        refine z_get (v := .ref (g.2.2 51)) hx hb hts (fun w h => List.mem_cons_of_mem _ (List.mem_append_left _ (List.mem_append_right _ (h)))) hown E hh (by decide) (zC_obj (q := 54) rfl) rfl 2 (by decide) (hts (.fieldLink RX6 26 "TownBand" "seen" "LTownBand$Seen;") (List.mem_cons_of_mem _ (List.mem_append_left _ (List.mem_append_left _ (List.mem_of_getElem? (i := 0) rfl))))) rfl dX6_see_44 ?_
        refine z_getN (v := .int (σ.1 51 2)) hx hb hts (fun w h => List.mem_cons_of_mem _ (List.mem_append_right _ (h))) hown E hh (by decide) (zC_obj (q := 51) rfl) rfl 2 (by decide) (zE_f E 34 rfl) rfl dX6_see_47 ?_
        refine lv_iload_n hx hb dX6_see_50 rfl (lv_at hl 1 rfl) ?_
        obtain ⟨h_v6, hf⟩ := z_if hf
        obtain ⟨σ7, e_σ7, hf⟩ := z_lt hf
        refine z_iast hx hb E hh (by decide) h_v6 e_σ7 dX6_see_51 (fun H locs hh => ?_)
        refine lv_aload_n hx hb dX6_see_52 rfl (lv_at hl 0 rfl) ?_
        refine z_get (v := .ref (g.2.2 51)) hx hb hts (fun w h => List.mem_cons_of_mem _ (List.mem_append_left _ (List.mem_append_right _ (h)))) hown E hh (by decide) (zC_obj (q := 54) rfl) rfl 2 (by decide) (hts (.fieldLink RX6 26 "TownBand" "seen" "LTownBand$Seen;") (List.mem_cons_of_mem _ (List.mem_append_left _ (List.mem_append_left _ (List.mem_of_getElem? (i := 0) rfl))))) rfl dX6_see_53 ?_
        refine z_getN (v := .ref (g.2.2 26)) hx hb hts (fun w h => List.mem_cons_of_mem _ (List.mem_append_right _ (h))) hown E hh (by decide) (zC_obj (q := 51) rfl) rfl 1 (by decide) (zE_f E 32 rfl) rfl dX6_see_56 ?_
        refine lv_aload_n hx hb dX6_see_59 rfl (lv_at hl 0 rfl) ?_
        refine z_get (v := .ref (g.2.2 51)) hx hb hts (fun w h => List.mem_cons_of_mem _ (List.mem_append_left _ (List.mem_append_right _ (h)))) hown E hh (by decide) (zC_obj (q := 54) rfl) rfl 2 (by decide) (hts (.fieldLink RX6 26 "TownBand" "seen" "LTownBand$Seen;") (List.mem_cons_of_mem _ (List.mem_append_left _ (List.mem_append_left _ (List.mem_of_getElem? (i := 0) rfl))))) rfl dX6_see_60 ?_
        refine z_getN (v := .int (σ7.1 51 2)) hx hb hts (fun w h => List.mem_cons_of_mem _ (List.mem_append_right _ (h))) hown E hh (by decide) (zC_obj (q := 51) rfl) rfl 2 (by decide) (zE_f E 34 rfl) rfl dX6_see_63 ?_
        refine lv_iload_n hx hb dX6_see_66 rfl (lv_at hl 2 rfl) ?_
        obtain ⟨h_v8, hf⟩ := z_if hf
        obtain ⟨σ9, e_σ9, hf⟩ := z_lt hf
        refine z_iast hx hb E hh (by decide) h_v8 e_σ9 dX6_see_67 (fun H locs hh => ?_)
        refine lv_aload_n hx hb dX6_see_68 rfl (lv_at hl 0 rfl) ?_
        refine z_get (v := .ref (g.2.2 51)) hx hb hts (fun w h => List.mem_cons_of_mem _ (List.mem_append_left _ (List.mem_append_right _ (h)))) hown E hh (by decide) (zC_obj (q := 54) rfl) rfl 2 (by decide) (hts (.fieldLink RX6 26 "TownBand" "seen" "LTownBand$Seen;") (List.mem_cons_of_mem _ (List.mem_append_left _ (List.mem_append_left _ (List.mem_of_getElem? (i := 0) rfl))))) rfl dX6_see_69 ?_
        refine lv_dup hx hb dX6_see_72 rfl ?_
        refine z_getN (v := .int (σ9.1 51 2)) hx hb hts (fun w h => List.mem_cons_of_mem _ (List.mem_append_right _ (h))) hown E hh (by decide) (zC_obj (q := 51) rfl) rfl 2 (by decide) (zE_f E 34 rfl) rfl dX6_see_73 ?_
        refine lv_iconst (v := (nI 1)) hx hb dX6_see_76 (by decide) ?_
        refine lv_iadd hx hb dX6_see_77 ?_
        obtain ⟨σ10, e_σ10, hf⟩ := z_lt hf
        refine z_putN hx hb hts (fun w h => List.mem_cons_of_mem _ (List.mem_append_right _ (h))) tyX2 tyX2_ok nmX2 hown E hh (by decide) (show zD 51 = _ from rfl) rfl 2 (by decide) rfl (zE_f E 34 rfl) rfl rfl e_σ10 dX6_see_78 (fun H locs hh => ?_)
        refine lv_aload_n hx hb dX6_see_81 rfl (lv_at hl 0 rfl) ?_
        refine z_get (v := .ref (g.2.2 51)) hx hb hts (fun w h => List.mem_cons_of_mem _ (List.mem_append_left _ (List.mem_append_right _ (h)))) hown E hh (by decide) (zC_obj (q := 54) rfl) rfl 2 (by decide) (hts (.fieldLink RX6 26 "TownBand" "seen" "LTownBand$Seen;") (List.mem_cons_of_mem _ (List.mem_append_left _ (List.mem_append_left _ (List.mem_of_getElem? (i := 0) rfl))))) rfl dX6_see_82 ?_
        refine z_getN (v := .int (σ10.1 51 2)) hx hb hts (fun w h => List.mem_cons_of_mem _ (List.mem_append_right _ (h))) hown E hh (by decide) (zC_obj (q := 51) rfl) rfl 2 (by decide) (zE_f E 34 rfl) rfl dX6_see_85 ?_
        have hf := Option.some.inj hf
        subst hf
        exact z_iretX hx hb hr hlocks hh dX6_see_88
      · have hf := z_in hf c_v5
        refine lv_bipush (v := (-3)) hx hb dX6_see_33 (by decide) ?_
        have hf := Option.some.inj hf
        subst hf
        exact z_iretX hx hb hr hlocks hh dX6_see_35
    · have hf := z_ip hf c_v4
      refine lv_iconst (v := (-1)) hx hb dX6_see_19 (by decide) ?_
      have hf := Option.some.inj hf
      subst hf
      exact z_iretX hx hb hr hlocks hh dX6_see_20
/-! ===== X6_forget ===== -/
theorem hdX6_forget : yX6_forget.cls = RX6 ∧ yX6_forget.cls ≠ "java/lang/invoke/MethodHandle" ∧ yX6_forget.cls ≠ "java/lang/invoke/VarHandle" ∧ (parseMethodDescriptor yX6_forget.desc).map (fun d => d.parameters.length) = some 1 := by decide +kernel
def fX6_forget (N : Nat) (σ : zS) (x1 : Int32) : Option (Int32 × zS) :=
  (fX6_within N x1 (nI 0) (σ.1 51 2)).bind fun q1 =>
  if q1 = 0 then
    some ((-1), σ)
  else
    zlet (zpf σ 51 2 x1) fun σ3 =>
    some ((σ.1 51 2), σ3)
set_option maxRecDepth 100000 in
set_option maxHeartbeats 4000000 in
theorem zcX6_forget (l : Launch) (g : zG) (A : Nat → Prop) (σ τ : zS) (N : Nat) (x1 : Int32)  {res : Int32 × zS} (hf : fX6_forget N σ x1 = some res) : Met l yX6_forget wsX6_forget (zR 1) (zPc g A σ τ [.ref (g.2.2 54), .int x1]) (zQi g A τ res) 0 0 A := by
  refine z_met (cc := cX6_forget) (ret := (some .int)) (own := RX6) (by decide) rfl rfl _ (Nat.le_of_ble_eq_true rfl) ?_
  intro p e s m below meth c C E ls hl hh
  have hl : lv_has ls 3 [(0, .ref (g.2.2 54)), (1, .int x1)] := hl
  obtain ⟨hx, hb, hr, hml, hown, hts, hlocks⟩ := id C
  unfold fX6_forget at hf
  refine lv_iload_n hx hb dX6_forget_0 rfl (lv_at hl 1 rfl) ?_
  refine lv_iconst (v := (nI 0)) hx hb dX6_forget_1 (by decide) ?_
  refine lv_aload_n hx hb dX6_forget_2 rfl (lv_at hl 0 rfl) ?_
  refine z_get (v := .ref (g.2.2 51)) hx hb hts (fun w h => List.mem_cons_of_mem _ (List.mem_append_left _ (List.mem_append_right _ (h)))) hown E hh (by decide) (zC_obj (q := 54) rfl) rfl 2 (by decide) (hts (.fieldLink RX6 26 "TownBand" "seen" "LTownBand$Seen;") (List.mem_cons_of_mem _ (List.mem_append_left _ (List.mem_append_left _ (List.mem_of_getElem? (i := 0) rfl))))) rfl dX6_forget_3 ?_
  refine z_getN (v := .int (σ.1 51 2)) hx hb hts (fun w h => List.mem_cons_of_mem _ (List.mem_append_right _ (h))) hown E hh (by decide) (zC_obj (q := 51) rfl) rfl 2 (by decide) (zE_f E 34 rfl) rfl dX6_forget_6 ?_
  obtain ⟨q1, h_q1, hf⟩ := z_bd hf
  refine z_xi (va_runS (As := [.int x1, .int (nI 0), .int (σ.1 51 2)]) (rest := []) ⟨hx, hb, hml, hown, hts⟩ (zcX6_within l g A σ τ N x1 (nI 0) (σ.1 51 2) h_q1) (va_cwS 3 hts gX6_forget_X6_within rfl rfl rfl hdX6_within.2 ⟨by decide, by decide⟩) (z_preS E hh) rfl rfl hl.1 rfl (lv_room (Nat.le_of_ble_eq_true rfl)) dX6_forget_9 ⟨Nat.le_refl _, Nat.le_refl _⟩) hh (fun H locs hh => ?_)
  refine lv_if_ne (tgt := 17) hx hb dX6_forget_12 (by decide) (fun c_v2 => ?_) (fun c_v2 => ?_)
  · have hf := z_in hf c_v2
    refine lv_aload_n hx hb dX6_forget_17 rfl (lv_at hl 0 rfl) ?_
    refine z_get (v := .ref (g.2.2 51)) hx hb hts (fun w h => List.mem_cons_of_mem _ (List.mem_append_left _ (List.mem_append_right _ (h)))) hown E hh (by decide) (zC_obj (q := 54) rfl) rfl 2 (by decide) (hts (.fieldLink RX6 26 "TownBand" "seen" "LTownBand$Seen;") (List.mem_cons_of_mem _ (List.mem_append_left _ (List.mem_append_left _ (List.mem_of_getElem? (i := 0) rfl))))) rfl dX6_forget_18 ?_
    refine z_getN (v := .int (σ.1 51 2)) hx hb hts (fun w h => List.mem_cons_of_mem _ (List.mem_append_right _ (h))) hown E hh (by decide) (zC_obj (q := 51) rfl) rfl 2 (by decide) (zE_f E 34 rfl) rfl dX6_forget_21 ?_
    refine lv_istore_n (lv' := [(2, .int (σ.1 51 2)), (0, .ref (g.2.2 54)), (1, .int x1)]) hx hb dX6_forget_24 rfl hl (by decide) rfl (fun ls hl => ?_)
    refine lv_aload_n hx hb dX6_forget_25 rfl (lv_at hl 1 rfl) ?_
    refine z_get (v := .ref (g.2.2 51)) hx hb hts (fun w h => List.mem_cons_of_mem _ (List.mem_append_left _ (List.mem_append_right _ (h)))) hown E hh (by decide) (zC_obj (q := 54) rfl) rfl 2 (by decide) (hts (.fieldLink RX6 26 "TownBand" "seen" "LTownBand$Seen;") (List.mem_cons_of_mem _ (List.mem_append_left _ (List.mem_append_left _ (List.mem_of_getElem? (i := 0) rfl))))) rfl dX6_forget_26 ?_
    refine lv_iload_n hx hb dX6_forget_29 rfl (lv_at hl 2 rfl) ?_
    obtain ⟨σ3, e_σ3, hf⟩ := z_lt hf
    refine z_putN hx hb hts (fun w h => List.mem_cons_of_mem _ (List.mem_append_right _ (h))) tyX2 tyX2_ok nmX2 hown E hh (by decide) (show zD 51 = _ from rfl) rfl 2 (by decide) rfl (zE_f E 34 rfl) rfl rfl e_σ3 dX6_forget_30 (fun H locs hh => ?_)
    refine lv_iload_n hx hb dX6_forget_33 rfl (lv_at hl 0 rfl) ?_
    have hf := Option.some.inj hf
    subst hf
    exact z_iretX hx hb hr hlocks hh dX6_forget_34
  · have hf := z_ip hf c_v2
    refine lv_iconst (v := (-1)) hx hb dX6_forget_15 (by decide) ?_
    have hf := Option.some.inj hf
    subst hf
    exact z_iretX hx hb hr hlocks hh dX6_forget_16
/-! ===== X6_fits ===== -/
theorem hdX6_fits : yX6_fits.cls = RX6 ∧ yX6_fits.cls ≠ "java/lang/invoke/MethodHandle" ∧ yX6_fits.cls ≠ "java/lang/invoke/VarHandle" ∧ (parseMethodDescriptor yX6_fits.desc).map (fun d => d.parameters.length) = some 1 := by decide +kernel
def PX6_fits_42 (p : Program) (l : Launch) (e : Env) (s : State) (m : MethodId) (args : Array Value) (below : List Frame) (meth : Method) (c : Code) (g : zG) (A : Nat → Prop) (τ : zS) (res : Int32 × zS) (f : Int32 → zS → Option (Int32 × zS)) : Prop := ∀ (x1 : Int32) (σ : zS) (H : Heap) (locs : List Loc) (ls : Array Slot), f x1 σ = some res → zW g A σ τ s H locs → lv_has ls 3 [(0, .ref (g.2.2 54)), (1, .int x1)] → W p l e (zR 5) s m args below meth c H locs 0 0 (MQ below (zQi g A τ res) args s 0 0 A) (F0 m 42 ls [])
def fX6_fits_42 (N : Nat) (x1 : Int32) (σ : zS) : Option (Int32 × zS) :=
  (fX1_seekFitting N σ 42).bind fun q1 =>
  if x1 = 0 then
    some ((q1.1 53 4), q1)
  else
    if (nI 20) ≤ x1 then
      if (q1.1 53 4) ≤ 0 then
        some ((-4), q1)
      else
        if zin (x1 - (nI 20)) (zlen 31) then
        zlet (q1.2 31 (x1 - (nI 20)).toNatClampNeg) fun v6 =>
        some (v6, q1)
        else none
    else
      if zin (x1 - (nI 10)) (zlen 32) then
      zlet (q1.2 32 (x1 - (nI 10)).toNatClampNeg) fun v8 =>
      some (v8, q1)
      else none
set_option maxRecDepth 100000 in
set_option maxHeartbeats 4000000 in
theorem hX6_fits_42 {p : Program} {l : Launch} {e : Env} {s : State} {m : MethodId} {args : Array Value} {below : List Frame} {meth : Method} {c : Code} {g : zG} {A : Nat → Prop} {τ : zS} {res : Int32 × zS} (C : zCx p s m args meth c cX6_fits (some .int) wsX6_fits RX6 3) (E : zE g A s) (N : Nat) : PX6_fits_42 p l e s m args below meth c g A τ res (fX6_fits_42 N) := by
  obtain ⟨hx, hb, hr, hml, hown, hts, hlocks⟩ := id C
  intro x1 σ H locs ls hf hh hl
  unfold fX6_fits_42 at hf
  refine lv_aload_n hx hb dX6_fits_42 rfl (lv_at hl 0 rfl) ?_
  refine z_get (v := .ref (g.2.2 53)) hx hb hts (fun w h => List.mem_cons_of_mem _ (List.mem_append_left _ (List.mem_append_left _ (List.mem_append_left _ (List.mem_append_right _ (h)))))) hown E hh (by decide) (zC_obj (q := 54) rfl) rfl 4 (by decide) (hts (.fieldLink RX6 40 "TownBand" "orders" "LTownBand$Orders;") (List.mem_cons_of_mem _ (List.mem_append_left _ (List.mem_append_left _ (List.mem_append_left _ (List.mem_append_left _ (List.mem_append_left _ (List.mem_of_getElem? (i := 1) rfl)))))))) rfl dX6_fits_43 ?_
  refine lv_aload_n hx hb dX6_fits_46 rfl (lv_at hl 0 rfl) ?_
  refine z_get (v := .ref (g.2.2 42)) hx hb hts (fun w h => List.mem_cons_of_mem _ (List.mem_append_left _ (List.mem_append_left _ (List.mem_append_left _ (List.mem_append_right _ (h)))))) hown E hh (by decide) (zC_obj (q := 54) rfl) rfl 0 (by decide) (hts (.fieldLink RX6 10 "TownBand" "band" "LTownBand$Band;") (List.mem_cons_of_mem _ (List.mem_append_left _ (List.mem_append_left _ (List.mem_append_left _ (List.mem_append_left _ (List.mem_append_left _ (List.mem_of_getElem? (i := 0) rfl)))))))) rfl dX6_fits_47 ?_
  refine lv_aload_n hx hb dX6_fits_50 rfl (lv_at hl 0 rfl) ?_
  refine z_get (v := .ref (g.2.2 51)) hx hb hts (fun w h => List.mem_cons_of_mem _ (List.mem_append_left _ (List.mem_append_left _ (List.mem_append_left _ (List.mem_append_right _ (h)))))) hown E hh (by decide) (zC_obj (q := 54) rfl) rfl 2 (by decide) (hts (.fieldLink RX6 26 "TownBand" "seen" "LTownBand$Seen;") (List.mem_cons_of_mem _ (List.mem_append_left _ (List.mem_append_left _ (List.mem_append_left _ (List.mem_append_left _ (List.mem_append_left _ (List.mem_of_getElem? (i := 2) rfl)))))))) rfl dX6_fits_51 ?_
  obtain ⟨q1, h_q1, hf⟩ := z_bd hf
  refine z_xv (va_runVN (As := [.ref (g.2.2 42), .ref (g.2.2 51)]) (rest := []) ⟨hx, hb, hml, hown, hts⟩ (zcX1_seekFitting l g A σ τ N 42 (by decide) (by decide) h_q1) ⟨va_cnB 2 hts gX6_fits_X1_seekFitting_n255 rfl rfl rfl (zE_m E 38 rfl) (hts (.initialized RX1) (List.mem_cons_of_mem _ (List.mem_append_left _ (List.mem_append_left _ (List.mem_append_left _ (List.mem_append_left _ (List.mem_append_left _ (List.mem_of_getElem? (i := 8) rfl)))))))) hdX1_seekFitting.2 ⟨by decide, by decide⟩, (hts (.instanceMethod yX1_seekFitting) (List.mem_cons_of_mem _ (List.mem_append_left _ (List.mem_append_left _ (List.mem_append_left _ (List.mem_append_left _ (List.mem_append_left _ (List.mem_of_getElem? (i := 7) rfl)))))))), (hts (.selects RX1 yX1_seekFitting yX1_seekFitting) (List.mem_cons_of_mem _ (List.mem_append_left _ (List.mem_append_left _ (List.mem_append_left _ (List.mem_append_left _ (List.mem_append_left _ (List.mem_of_getElem? (i := 9) rfl))))))))⟩ (z_preV E hh (by decide) (zC_obj (q := 53) rfl) rfl) rfl rfl hl.1 rfl (lv_room (Nat.le_of_ble_eq_true rfl)) dX6_fits_54 ⟨Nat.le_refl _, Nat.le_refl _⟩) hh (fun H locs hh => ?_)
  refine lv_iload_n hx hb dX6_fits_57 rfl (lv_at hl 1 rfl) ?_
  refine lv_if_ne (tgt := 69) hx hb dX6_fits_58 (by decide) (fun c_v2 => ?_) (fun c_v2 => ?_)
  · have hf := z_in hf c_v2
    refine lv_iload_n hx hb dX6_fits_69 rfl (lv_at hl 1 rfl) ?_
    refine lv_bipush (v := (nI 20)) hx hb dX6_fits_70 (by decide) ?_
    refine lv_icmp_ge (tgt := 88) hx hb dX6_fits_72 (by decide) (fun c_v3 => ?_) (fun c_v3 => ?_)
    · have hf := z_ip hf c_v3
      refine lv_aload_n hx hb dX6_fits_88 rfl (lv_at hl 0 rfl) ?_
      refine z_get (v := .ref (g.2.2 53)) hx hb hts (fun w h => List.mem_cons_of_mem _ (List.mem_append_left _ (List.mem_append_left _ (List.mem_append_left _ (List.mem_append_right _ (h)))))) hown E hh (by decide) (zC_obj (q := 54) rfl) rfl 4 (by decide) (hts (.fieldLink RX6 40 "TownBand" "orders" "LTownBand$Orders;") (List.mem_cons_of_mem _ (List.mem_append_left _ (List.mem_append_left _ (List.mem_append_left _ (List.mem_append_left _ (List.mem_append_left _ (List.mem_of_getElem? (i := 1) rfl)))))))) rfl dX6_fits_89 ?_
      refine z_getN (v := .int (q1.1 53 4)) hx hb hts (fun w h => List.mem_cons_of_mem _ (List.mem_append_left _ (List.mem_append_right _ (h)))) hown E hh (by decide) (zC_obj (q := 53) rfl) rfl 4 (by decide) (zE_f E 42 rfl) rfl dX6_fits_92 ?_
      refine lv_if_le (tgt := 113) hx hb dX6_fits_95 (by decide) (fun c_v4 => ?_) (fun c_v4 => ?_)
      · have hf := z_ip hf c_v4
        refine lv_bipush (v := (-4)) hx hb dX6_fits_113 (by decide) ?_
        have hf := Option.some.inj hf
        subst hf
        exact z_iretX hx hb hr hlocks hh dX6_fits_115
      · have hf := z_in hf c_v4
        refine lv_aload_n hx hb dX6_fits_98 rfl (lv_at hl 0 rfl) ?_
        refine z_get (v := .ref (g.2.2 53)) hx hb hts (fun w h => List.mem_cons_of_mem _ (List.mem_append_left _ (List.mem_append_left _ (List.mem_append_left _ (List.mem_append_right _ (h)))))) hown E hh (by decide) (zC_obj (q := 54) rfl) rfl 4 (by decide) (hts (.fieldLink RX6 40 "TownBand" "orders" "LTownBand$Orders;") (List.mem_cons_of_mem _ (List.mem_append_left _ (List.mem_append_left _ (List.mem_append_left _ (List.mem_append_left _ (List.mem_append_left _ (List.mem_of_getElem? (i := 1) rfl)))))))) rfl dX6_fits_99 ?_
        refine z_getN (v := .ref (g.2.2 31)) hx hb hts (fun w h => List.mem_cons_of_mem _ (List.mem_append_left _ (List.mem_append_right _ (h)))) hown E hh (by decide) (zC_obj (q := 53) rfl) rfl 1 (by decide) (zE_f E 40 rfl) rfl dX6_fits_102 ?_
        refine lv_iload_n hx hb dX6_fits_105 rfl (lv_at hl 1 rfl) ?_
        refine lv_bipush (v := (nI 20)) hx hb dX6_fits_106 (by decide) ?_
        refine lv_isub hx hb dX6_fits_108 ?_
        obtain ⟨h_v5, hf⟩ := z_if hf
        obtain ⟨v6, e_v6, hf⟩ := z_lt hf
        refine z_iald hx hb E hh (by decide) h_v5 e_v6 dX6_fits_109 ?_
        refine lv_goto (tgt := 115) hx hb dX6_fits_110 (by decide) ?_
        have hf := Option.some.inj hf
        subst hf
        exact z_iretX hx hb hr hlocks hh dX6_fits_115
    · have hf := z_in hf c_v3
      refine lv_aload_n hx hb dX6_fits_75 rfl (lv_at hl 0 rfl) ?_
      refine z_get (v := .ref (g.2.2 53)) hx hb hts (fun w h => List.mem_cons_of_mem _ (List.mem_append_left _ (List.mem_append_left _ (List.mem_append_left _ (List.mem_append_right _ (h)))))) hown E hh (by decide) (zC_obj (q := 54) rfl) rfl 4 (by decide) (hts (.fieldLink RX6 40 "TownBand" "orders" "LTownBand$Orders;") (List.mem_cons_of_mem _ (List.mem_append_left _ (List.mem_append_left _ (List.mem_append_left _ (List.mem_append_left _ (List.mem_append_left _ (List.mem_of_getElem? (i := 1) rfl)))))))) rfl dX6_fits_76 ?_
      refine z_getN (v := .ref (g.2.2 32)) hx hb hts (fun w h => List.mem_cons_of_mem _ (List.mem_append_left _ (List.mem_append_right _ (h)))) hown E hh (by decide) (zC_obj (q := 53) rfl) rfl 2 (by decide) (zE_f E 41 rfl) rfl dX6_fits_79 ?_
      refine lv_iload_n hx hb dX6_fits_82 rfl (lv_at hl 1 rfl) ?_
      refine lv_bipush (v := (nI 10)) hx hb dX6_fits_83 (by decide) ?_
      refine lv_isub hx hb dX6_fits_85 ?_
      obtain ⟨h_v7, hf⟩ := z_if hf
      obtain ⟨v8, e_v8, hf⟩ := z_lt hf
      refine z_iald hx hb E hh (by decide) h_v7 e_v8 dX6_fits_86 ?_
      have hf := Option.some.inj hf
      subst hf
      exact z_iretX hx hb hr hlocks hh dX6_fits_87
  · have hf := z_ip hf c_v2
    refine lv_aload_n hx hb dX6_fits_61 rfl (lv_at hl 0 rfl) ?_
    refine z_get (v := .ref (g.2.2 53)) hx hb hts (fun w h => List.mem_cons_of_mem _ (List.mem_append_left _ (List.mem_append_left _ (List.mem_append_left _ (List.mem_append_right _ (h)))))) hown E hh (by decide) (zC_obj (q := 54) rfl) rfl 4 (by decide) (hts (.fieldLink RX6 40 "TownBand" "orders" "LTownBand$Orders;") (List.mem_cons_of_mem _ (List.mem_append_left _ (List.mem_append_left _ (List.mem_append_left _ (List.mem_append_left _ (List.mem_append_left _ (List.mem_of_getElem? (i := 1) rfl)))))))) rfl dX6_fits_62 ?_
    refine z_getN (v := .int (q1.1 53 4)) hx hb hts (fun w h => List.mem_cons_of_mem _ (List.mem_append_left _ (List.mem_append_right _ (h)))) hown E hh (by decide) (zC_obj (q := 53) rfl) rfl 4 (by decide) (zE_f E 42 rfl) rfl dX6_fits_65 ?_
    have hf := Option.some.inj hf
    subst hf
    exact z_iretX hx hb hr hlocks hh dX6_fits_68
def fX6_fits (N : Nat) (σ : zS) (x1 : Int32) : Option (Int32 × zS) :=
  zlet ((σ.1 42 6) - (nI 1)) fun v1 =>
  if x1 = 0 then
    (fX6_fits_42 N) x1 σ
  else
    (fX6_within N x1 (nI 10) ((nI 10) + v1)).bind fun q3 =>
    if q3 = 0 then
      (fX6_within N x1 (nI 20) ((nI 20) + v1)).bind fun q5 =>
      if q5 = 0 then
        some ((-1), σ)
      else
        (fX6_fits_42 N) x1 σ
    else
      (fX6_fits_42 N) x1 σ
set_option maxRecDepth 100000 in
set_option maxHeartbeats 4000000 in
theorem zcX6_fits (l : Launch) (g : zG) (A : Nat → Prop) (σ τ : zS) (N : Nat) (x1 : Int32)  {res : Int32 × zS} (hf : fX6_fits N σ x1 = some res) : Met l yX6_fits wsX6_fits (zR 5) (zPc g A σ τ [.ref (g.2.2 54), .int x1]) (zQi g A τ res) 0 0 A := by
  refine z_met (cc := cX6_fits) (ret := (some .int)) (own := RX6) (by decide) rfl rfl _ (Nat.le_of_ble_eq_true rfl) ?_
  intro p e s m below meth c C E ls hl hh
  have hl : lv_has ls 3 [(0, .ref (g.2.2 54)), (1, .int x1)] := hl
  obtain ⟨hx, hb, hr, hml, hown, hts, hlocks⟩ := id C
  unfold fX6_fits at hf
  refine lv_aload_n hx hb dX6_fits_0 rfl (lv_at hl 0 rfl) ?_
  refine z_get (v := .ref (g.2.2 42)) hx hb hts (fun w h => List.mem_cons_of_mem _ (List.mem_append_left _ (List.mem_append_left _ (List.mem_append_left _ (List.mem_append_right _ (h)))))) hown E hh (by decide) (zC_obj (q := 54) rfl) rfl 0 (by decide) (hts (.fieldLink RX6 10 "TownBand" "band" "LTownBand$Band;") (List.mem_cons_of_mem _ (List.mem_append_left _ (List.mem_append_left _ (List.mem_append_left _ (List.mem_append_left _ (List.mem_append_left _ (List.mem_of_getElem? (i := 0) rfl)))))))) rfl dX6_fits_1 ?_
  refine z_getN (v := .int (σ.1 42 6)) hx hb hts (fun w h => List.mem_cons_of_mem _ (List.mem_append_left _ (List.mem_append_left _ (List.mem_append_right _ (h))))) hown E hh (by decide) (zC_band (by decide) (by decide)) rfl 6 (by decide) (zE_f E 17 rfl) rfl dX6_fits_4 ?_
  refine lv_iconst (v := (nI 1)) hx hb dX6_fits_7 (by decide) ?_
  refine lv_isub hx hb dX6_fits_8 ?_
  obtain ⟨v1, e_v1, hf⟩ := z_lt hf
  refine z_topi e_v1 ?_
  refine lv_istore_n (lv' := [(2, .int v1), (0, .ref (g.2.2 54)), (1, .int x1)]) hx hb dX6_fits_9 rfl hl (by decide) rfl (fun ls hl => ?_)
  refine lv_iload_n hx hb dX6_fits_10 rfl (lv_at hl 2 rfl) ?_
  refine lv_if_eq (tgt := 42) hx hb dX6_fits_11 (by decide) (fun c_v2 => ?_) (fun c_v2 => ?_)
  · have hf := z_ip hf c_v2
    exact (hX6_fits_42 C E N) x1 σ _ _ _ hf hh (lv_sub hl [1, 2] rfl)
  · have hf := z_in hf c_v2
    refine lv_iload_n hx hb dX6_fits_14 rfl (lv_at hl 2 rfl) ?_
    refine lv_bipush (v := (nI 10)) hx hb dX6_fits_15 (by decide) ?_
    refine lv_bipush (v := (nI 10)) hx hb dX6_fits_17 (by decide) ?_
    refine lv_iload_n hx hb dX6_fits_19 rfl (lv_at hl 0 rfl) ?_
    refine lv_iadd hx hb dX6_fits_20 ?_
    obtain ⟨q3, h_q3, hf⟩ := z_bd hf
    refine z_xi (va_runS (As := [.int x1, .int (nI 10), .int ((nI 10) + v1)]) (rest := []) ⟨hx, hb, hml, hown, hts⟩ (zcX6_within l g A σ τ N x1 (nI 10) ((nI 10) + v1) h_q3) (va_cwS 3 hts gX6_fits_X6_within rfl rfl rfl hdX6_within.2 ⟨by decide, by decide⟩) (z_preS E hh) rfl rfl hl.1 rfl (lv_room (Nat.le_of_ble_eq_true rfl)) dX6_fits_21 ⟨Nat.le_refl _, Nat.le_refl _⟩) hh (fun H locs hh => ?_)
    refine lv_if_ne (tgt := 42) hx hb dX6_fits_24 (by decide) (fun c_v4 => ?_) (fun c_v4 => ?_)
    · have hf := z_in hf c_v4
      exact (hX6_fits_42 C E N) x1 σ _ _ _ hf hh (lv_sub hl [1, 2] rfl)
    · have hf := z_ip hf c_v4
      refine lv_iload_n hx hb dX6_fits_27 rfl (lv_at hl 2 rfl) ?_
      refine lv_bipush (v := (nI 20)) hx hb dX6_fits_28 (by decide) ?_
      refine lv_bipush (v := (nI 20)) hx hb dX6_fits_30 (by decide) ?_
      refine lv_iload_n hx hb dX6_fits_32 rfl (lv_at hl 0 rfl) ?_
      refine lv_iadd hx hb dX6_fits_33 ?_
      obtain ⟨q5, h_q5, hf⟩ := z_bd hf
      refine z_xi (va_runS (As := [.int x1, .int (nI 20), .int ((nI 20) + v1)]) (rest := []) ⟨hx, hb, hml, hown, hts⟩ (zcX6_within l g A σ τ N x1 (nI 20) ((nI 20) + v1) h_q5) (va_cwS 3 hts gX6_fits_X6_within rfl rfl rfl hdX6_within.2 ⟨by decide, by decide⟩) (z_preS E hh) rfl rfl hl.1 rfl (lv_room (Nat.le_of_ble_eq_true rfl)) dX6_fits_34 ⟨Nat.le_refl _, Nat.le_refl _⟩) hh (fun H locs hh => ?_)
      refine lv_if_ne (tgt := 42) hx hb dX6_fits_37 (by decide) (fun c_v6 => ?_) (fun c_v6 => ?_)
      · have hf := z_in hf c_v6
        exact (hX6_fits_42 C E N) x1 σ _ _ _ hf hh (lv_sub hl [1, 2] rfl)
      · have hf := z_ip hf c_v6
        refine lv_iconst (v := (-1)) hx hb dX6_fits_40 (by decide) ?_
        have hf := Option.some.inj hf
        subst hf
        exact z_iretX hx hb hr hlocks hh dX6_fits_41
/-! ===== X6_ask ===== -/
theorem hdX6_ask : yX6_ask.cls = RX6 ∧ yX6_ask.cls ≠ "java/lang/invoke/MethodHandle" ∧ yX6_ask.cls ≠ "java/lang/invoke/VarHandle" ∧ (parseMethodDescriptor yX6_ask.desc).map (fun d => d.parameters.length) = some 1 := by decide +kernel
def PX6_ask_91 (p : Program) (l : Launch) (e : Env) (s : State) (m : MethodId) (args : Array Value) (below : List Frame) (meth : Method) (c : Code) (g : zG) (A : Nat → Prop) (τ : zS) (res : Int32 × zS) (f : Int32 → zS → Option (Int32 × zS)) : Prop := ∀ (x3 : Int32) (σ : zS) (H : Heap) (locs : List Loc) (ls : Array Slot), f x3 σ = some res → zW g A σ τ s H locs → lv_has ls 6 [(3, .int x3)] → W p l e (zR 5) s m args below meth c H locs 0 0 (MQ below (zQi g A τ res) args s 0 0 A) (F0 m 91 ls [])
def PX6_ask_81 (p : Program) (l : Launch) (e : Env) (s : State) (m : MethodId) (args : Array Value) (below : List Frame) (meth : Method) (c : Code) (g : zG) (A : Nat → Prop) (τ : zS) (res : Int32 × zS) (f : Int32 → Int32 → Int32 → zS → Option (Int32 × zS)) : Prop := ∀ (x1 : Int32) (x2 : Int32) (x3 : Int32) (σ : zS) (H : Heap) (locs : List Loc) (ls : Array Slot), f x1 x2 x3 σ = some res → zW g A σ τ s H locs → lv_has ls 6 [(1, .int x1), (2, .int x2), (3, .int x3)] → W p l e (zR 5) s m args below meth c H locs 0 0 (MQ below (zQi g A τ res) args s 0 0 A) (F0 m 81 ls [])
def PX6_ask_75 (p : Program) (l : Launch) (e : Env) (s : State) (m : MethodId) (args : Array Value) (below : List Frame) (meth : Method) (c : Code) (g : zG) (A : Nat → Prop) (τ : zS) (res : Int32 × zS) (f : Int32 → Int32 → Int32 → Int32 → zS → Option (Int32 × zS)) : Prop := ∀ (x1 : Int32) (x2 : Int32) (x3 : Int32) (x4 : Int32) (σ : zS) (H : Heap) (locs : List Loc) (ls : Array Slot), f x1 x2 x3 x4 σ = some res → zW g A σ τ s H locs → lv_has ls 6 [(0, .ref (g.2.2 54)), (1, .int x1), (2, .int x2), (3, .int x3), (4, .int x4)] → W p l e (zR 5) s m args below meth c H locs 0 0 (MQ below (zQi g A τ res) args s 0 0 A) (F0 m 75 ls [])
def PX6_ask_40 (p : Program) (l : Launch) (e : Env) (s : State) (m : MethodId) (args : Array Value) (below : List Frame) (meth : Method) (c : Code) (g : zG) (A : Nat → Prop) (τ : zS) (res : Int32 × zS) (f : Int32 → Int32 → Int32 → Int32 → zS → Option (Int32 × zS)) : Prop := ∀ (x1 : Int32) (x2 : Int32) (x3 : Int32) (x4 : Int32) (σ : zS) (H : Heap) (locs : List Loc) (ls : Array Slot), f x1 x2 x3 x4 σ = some res → zW g A σ τ s H locs → lv_has ls 6 [(0, .ref (g.2.2 54)), (1, .int x1), (2, .int x2), (3, .int x3), (4, .int x4)] → W p l e (zR 5) s m args below meth c H locs 0 0 (MQ below (zQi g A τ res) args s 0 0 A) (F0 m 40 ls [])
def fX6_ask_91 (N : Nat) (x3 : Int32) (σ : zS) : Option (Int32 × zS) :=
  some (x3, σ)
set_option maxRecDepth 100000 in
set_option maxHeartbeats 4000000 in
theorem hX6_ask_91 {p : Program} {l : Launch} {e : Env} {s : State} {m : MethodId} {args : Array Value} {below : List Frame} {meth : Method} {c : Code} {g : zG} {A : Nat → Prop} {τ : zS} {res : Int32 × zS} (C : zCx p s m args meth c cX6_ask (some .int) wsX6_ask RX6 6) (E : zE g A s) (N : Nat) : PX6_ask_91 p l e s m args below meth c g A τ res (fX6_ask_91 N) := by
  obtain ⟨hx, hb, hr, hml, hown, hts, hlocks⟩ := id C
  intro x3 σ H locs ls hf hh hl
  unfold fX6_ask_91 at hf
  refine lv_iload_n hx hb dX6_ask_91 rfl (lv_at hl 0 rfl) ?_
  refine lv_goto (tgt := 96) hx hb dX6_ask_92 (by decide) ?_
  have hf := Option.some.inj hf
  subst hf
  exact z_iretX hx hb hr hlocks hh dX6_ask_96
def fX6_ask_81 (N : Nat) (x1 : Int32) (x2 : Int32) (x3 : Int32) (σ : zS) : Option (Int32 × zS) :=
  if x1 = 0 then
    (fX6_ask_91 N) x3 σ
  else
    if x3 = (-4) then
      (fX6_ask_91 N) x3 σ
    else
      some (x2, σ)
set_option maxRecDepth 100000 in
set_option maxHeartbeats 4000000 in
theorem hX6_ask_81 {p : Program} {l : Launch} {e : Env} {s : State} {m : MethodId} {args : Array Value} {below : List Frame} {meth : Method} {c : Code} {g : zG} {A : Nat → Prop} {τ : zS} {res : Int32 × zS} (C : zCx p s m args meth c cX6_ask (some .int) wsX6_ask RX6 6) (E : zE g A s) (N : Nat) : PX6_ask_81 p l e s m args below meth c g A τ res (fX6_ask_81 N) := by
  obtain ⟨hx, hb, hr, hml, hown, hts, hlocks⟩ := id C
  intro x1 x2 x3 σ H locs ls hf hh hl
  unfold fX6_ask_81 at hf
  refine lv_iload_n hx hb dX6_ask_81 rfl (lv_at hl 0 rfl) ?_
  refine lv_if_eq (tgt := 91) hx hb dX6_ask_82 (by decide) (fun c_v1 => ?_) (fun c_v1 => ?_)
  · have hf := z_ip hf c_v1
    exact (hX6_ask_91 C E N) x3 σ _ _ _ hf hh (lv_sub hl [2] rfl)
  · have hf := z_in hf c_v1
    refine lv_iload_n hx hb dX6_ask_85 rfl (lv_at hl 2 rfl) ?_
    refine lv_bipush (v := (-4)) hx hb dX6_ask_86 (by decide) ?_
    refine lv_icmp_ne (tgt := 95) hx hb dX6_ask_88 (by decide) (fun c_v2 => ?_) (fun c_v2 => ?_)
    · have hf := z_in hf c_v2
      refine lv_iload_n hx hb dX6_ask_95 rfl (lv_at hl 1 rfl) ?_
      have hf := Option.some.inj hf
      subst hf
      exact z_iretX hx hb hr hlocks hh dX6_ask_96
    · have hf := z_ip hf c_v2
      exact (hX6_ask_91 C E N) x3 σ _ _ _ hf hh (lv_sub hl [2] rfl)
def fX6_ask_75 (N : Nat) (rc : Int32 → Int32 → Int32 → Int32 → zS → Option (Int32 × zS)) (k_81 : Int32 → Int32 → Int32 → zS → Option (Int32 × zS)) (x1 : Int32) (x2 : Int32) (x3 : Int32) (x4 : Int32) (σ : zS) : Option (Int32 × zS) :=
  rc x1 x2 x3 (x4 + (nI 1)) σ
set_option maxRecDepth 100000 in
set_option maxHeartbeats 4000000 in
theorem hX6_ask_75 {p : Program} {l : Launch} {e : Env} {s : State} {m : MethodId} {args : Array Value} {below : List Frame} {meth : Method} {c : Code} {g : zG} {A : Nat → Prop} {τ : zS} {res : Int32 × zS} (C : zCx p s m args meth c cX6_ask (some .int) wsX6_ask RX6 6) (E : zE g A s) (N : Nat) (rc : Int32 → Int32 → Int32 → Int32 → zS → Option (Int32 × zS)) (hrc : PX6_ask_40 p l e s m args below meth c g A τ res rc) (k_81 : Int32 → Int32 → Int32 → zS → Option (Int32 × zS)) (hk_81 : PX6_ask_81 p l e s m args below meth c g A τ res k_81) : PX6_ask_75 p l e s m args below meth c g A τ res (fX6_ask_75 N rc k_81) := by
  obtain ⟨hx, hb, hr, hml, hown, hts, hlocks⟩ := id C
  intro x1 x2 x3 x4 σ H locs ls hf hh hl
  unfold fX6_ask_75 at hf
  refine lv_iinc (v := (x4 + (nI 1))) (lv' := [(4, .int (x4 + (nI 1))), (0, .ref (g.2.2 54)), (1, .int x1), (2, .int x2), (3, .int x3)]) hx hb dX6_ask_75 hl (k := 4) rfl rfl (by decide) rfl (fun ls hl => ?_)
  refine lv_goto (tgt := 40) hx hb dX6_ask_78 (by decide) ?_
  exact hrc x1 x2 x3 (x4 + (nI 1)) σ _ _ _ hf hh (lv_sub hl [1, 2, 3, 4, 0] rfl)
def fX6_ask_40 (N : Nat) (k_81 : Int32 → Int32 → Int32 → zS → Option (Int32 × zS)) : Nat → Int32 → Int32 → Int32 → Int32 → zS → Option (Int32 × zS)
  | 0, _, _, _, _, _ => none
  | n + 1, x1, x2, x3, x4, σ =>
    if (σ.1 42 6) < x4 then
      k_81 x1 x2 x3 σ
    else
      (fX1_mostLeft N σ x4).bind fun q2 =>
      if x2 ≤ q2 then
        (fX6_ask_75 N (fX6_ask_40 N k_81 n) k_81) x1 x2 x3 x4 σ
      else
        (fX6_ask_75 N (fX6_ask_40 N k_81 n) k_81) x1 q2 x4 x4 σ
set_option maxRecDepth 100000 in
set_option maxHeartbeats 4000000 in
theorem hX6_ask_40 {p : Program} {l : Launch} {e : Env} {s : State} {m : MethodId} {args : Array Value} {below : List Frame} {meth : Method} {c : Code} {g : zG} {A : Nat → Prop} {τ : zS} {res : Int32 × zS} (C : zCx p s m args meth c cX6_ask (some .int) wsX6_ask RX6 6) (E : zE g A s) (N : Nat) (k_81 : Int32 → Int32 → Int32 → zS → Option (Int32 × zS)) (hk_81 : PX6_ask_81 p l e s m args below meth c g A τ res k_81) : ∀ n : Nat, PX6_ask_40 p l e s m args below meth c g A τ res (fX6_ask_40 N k_81 n) := by
  obtain ⟨hx, hb, hr, hml, hown, hts, hlocks⟩ := id C
  intro n
  induction n with
  | zero =>
    intro x1 x2 x3 x4 σ H locs ls hf
    exact absurd hf (by simp [fX6_ask_40])
  | succ n ih =>
    intro x1 x2 x3 x4 σ H locs ls hf hh hl
    rw [fX6_ask_40] at hf
    refine lv_iload hx hb dX6_ask_40 (lv_at hl 4 rfl) ?_
    refine lv_aload_n hx hb dX6_ask_42 rfl (lv_at hl 0 rfl) ?_
    refine z_get (v := .ref (g.2.2 42)) hx hb hts (fun w h => List.mem_cons_of_mem _ (List.mem_append_left _ (List.mem_append_left _ (List.mem_append_left _ (List.mem_append_right _ (h)))))) hown E hh (by decide) (zC_obj (q := 54) rfl) rfl 0 (by decide) (hts (.fieldLink RX6 10 "TownBand" "band" "LTownBand$Band;") (List.mem_cons_of_mem _ (List.mem_append_left _ (List.mem_append_left _ (List.mem_append_left _ (List.mem_append_left _ (List.mem_append_left _ (List.mem_of_getElem? (i := 1) rfl)))))))) rfl dX6_ask_43 ?_
    refine z_getN (v := .int (σ.1 42 6)) hx hb hts (fun w h => List.mem_cons_of_mem _ (List.mem_append_left _ (List.mem_append_right _ (h)))) hown E hh (by decide) (zC_band (by decide) (by decide)) rfl 6 (by decide) (zE_f E 17 rfl) rfl dX6_ask_46 ?_
    refine lv_icmp_gt (tgt := 81) hx hb dX6_ask_49 (by decide) (fun c_v1 => ?_) (fun c_v1 => ?_)
    · have hf := z_ip hf c_v1
      exact hk_81 x1 x2 x3 σ _ _ _ hf hh (lv_sub hl [1, 2, 3] rfl)
    · have hf := z_in hf c_v1
      refine lv_aload_n hx hb dX6_ask_52 rfl (lv_at hl 0 rfl) ?_
      refine z_get (v := .ref (g.2.2 53)) hx hb hts (fun w h => List.mem_cons_of_mem _ (List.mem_append_left _ (List.mem_append_left _ (List.mem_append_left _ (List.mem_append_right _ (h)))))) hown E hh (by decide) (zC_obj (q := 54) rfl) rfl 4 (by decide) (hts (.fieldLink RX6 40 "TownBand" "orders" "LTownBand$Orders;") (List.mem_cons_of_mem _ (List.mem_append_left _ (List.mem_append_left _ (List.mem_append_left _ (List.mem_append_left _ (List.mem_append_left _ (List.mem_of_getElem? (i := 0) rfl)))))))) rfl dX6_ask_53 ?_
      refine lv_iload hx hb dX6_ask_56 (lv_at hl 4 rfl) ?_
      obtain ⟨q2, h_q2, hf⟩ := z_bd hf
      refine z_xi (va_runVN (As := [.int x4]) (rest := []) ⟨hx, hb, hml, hown, hts⟩ (zcX1_mostLeft l g A σ τ N x4 h_q2) ⟨va_cnB 1 hts gX6_ask_X1_mostLeft_n265 rfl rfl rfl (zE_m E 40 rfl) (hts (.initialized RX1) (List.mem_cons_of_mem _ (List.mem_append_left _ (List.mem_append_left _ (List.mem_append_left _ (List.mem_append_left _ (List.mem_append_left _ (List.mem_of_getElem? (i := 8) rfl)))))))) hdX1_mostLeft.2 ⟨by decide, by decide⟩, (hts (.instanceMethod yX1_mostLeft) (List.mem_cons_of_mem _ (List.mem_append_left _ (List.mem_append_left _ (List.mem_append_left _ (List.mem_append_left _ (List.mem_append_right _ (List.mem_append_right _ (List.mem_of_getElem? (i := 2) rfl))))))))), (hts (.selects RX1 yX1_mostLeft yX1_mostLeft) (List.mem_cons_of_mem _ (List.mem_append_left _ (List.mem_append_left _ (List.mem_append_left _ (List.mem_append_left _ (List.mem_append_right _ (List.mem_append_right _ (List.mem_of_getElem? (i := 3) rfl)))))))))⟩ (z_preV E hh (by decide) (zC_obj (q := 53) rfl) rfl) rfl rfl hl.1 rfl (lv_room (Nat.le_of_ble_eq_true rfl)) dX6_ask_58 ⟨Nat.le_refl _, Nat.le_refl _⟩) hh (fun H locs hh => ?_)
      refine lv_istore (lv' := [(5, .int q2), (0, .ref (g.2.2 54)), (1, .int x1), (2, .int x2), (3, .int x3), (4, .int x4)]) hx hb dX6_ask_61 hl (by decide) rfl (fun ls hl => ?_)
      refine lv_iload hx hb dX6_ask_63 (lv_at hl 0 rfl) ?_
      refine lv_iload_n hx hb dX6_ask_65 rfl (lv_at hl 3 rfl) ?_
      refine lv_icmp_ge (tgt := 75) hx hb dX6_ask_66 (by decide) (fun c_v3 => ?_) (fun c_v3 => ?_)
      · have hf := z_ip hf c_v3
        exact (hX6_ask_75 C E N (fX6_ask_40 N k_81 n) ih k_81 hk_81) x1 x2 x3 x4 σ _ _ _ hf hh (lv_sub hl [1, 2, 3, 4, 5] rfl)
      · have hf := z_in hf c_v3
        refine lv_iload hx hb dX6_ask_69 (lv_at hl 0 rfl) ?_
        refine lv_istore_n (lv' := [(2, .int q2), (5, .int q2), (0, .ref (g.2.2 54)), (1, .int x1), (3, .int x3), (4, .int x4)]) hx hb dX6_ask_71 rfl hl (by decide) rfl (fun ls hl => ?_)
        refine lv_iload hx hb dX6_ask_72 (lv_at hl 5 rfl) ?_
        refine lv_istore_n (lv' := [(3, .int x4), (2, .int q2), (5, .int q2), (0, .ref (g.2.2 54)), (1, .int x1), (4, .int x4)]) hx hb dX6_ask_74 rfl hl (by decide) rfl (fun ls hl => ?_)
        exact (hX6_ask_75 C E N (fX6_ask_40 N k_81 n) ih k_81 hk_81) x1 q2 x4 x4 σ _ _ _ hf hh (lv_sub hl [3, 4, 1, 0, 5] rfl)
def fX6_ask (N : Nat) (σ : zS) (x1 : Int32) : Option (Int32 × zS) :=
  (fX6_within N x1 (nI 0) (nI 1)).bind fun q1 =>
  if q1 = 0 then
    some ((-1), σ)
  else
    (fX1_seekFitting N σ 42).bind fun q3 =>
    zlet (q3.1 53 4) fun v4 =>
    (fX6_ask_40 N (fX6_ask_81 N) N) x1 v4 (-4) (nI 1) q3
set_option maxRecDepth 100000 in
set_option maxHeartbeats 4000000 in
theorem zcX6_ask (l : Launch) (g : zG) (A : Nat → Prop) (σ τ : zS) (N : Nat) (x1 : Int32)  {res : Int32 × zS} (hf : fX6_ask N σ x1 = some res) : Met l yX6_ask wsX6_ask (zR 5) (zPc g A σ τ [.ref (g.2.2 54), .int x1]) (zQi g A τ res) 0 0 A := by
  refine z_met (cc := cX6_ask) (ret := (some .int)) (own := RX6) (by decide) rfl rfl _ (Nat.le_of_ble_eq_true rfl) ?_
  intro p e s m below meth c C E ls hl hh
  have hl : lv_has ls 6 [(0, .ref (g.2.2 54)), (1, .int x1)] := hl
  obtain ⟨hx, hb, hr, hml, hown, hts, hlocks⟩ := id C
  unfold fX6_ask at hf
  refine lv_iload_n hx hb dX6_ask_0 rfl (lv_at hl 1 rfl) ?_
  refine lv_iconst (v := (nI 0)) hx hb dX6_ask_1 (by decide) ?_
  refine lv_iconst (v := (nI 1)) hx hb dX6_ask_2 (by decide) ?_
  obtain ⟨q1, h_q1, hf⟩ := z_bd hf
  refine z_xi (va_runS (As := [.int x1, .int (nI 0), .int (nI 1)]) (rest := []) ⟨hx, hb, hml, hown, hts⟩ (zcX6_within l g A σ τ N x1 (nI 0) (nI 1) h_q1) (va_cwS 3 hts gX6_ask_X6_within rfl rfl rfl hdX6_within.2 ⟨by decide, by decide⟩) (z_preS E hh) rfl rfl hl.1 rfl (lv_room (Nat.le_of_ble_eq_true rfl)) dX6_ask_3 ⟨Nat.le_refl _, Nat.le_refl _⟩) hh (fun H locs hh => ?_)
  refine lv_if_ne (tgt := 11) hx hb dX6_ask_6 (by decide) (fun c_v2 => ?_) (fun c_v2 => ?_)
  · have hf := z_in hf c_v2
    refine lv_aload_n hx hb dX6_ask_11 rfl (lv_at hl 0 rfl) ?_
    refine z_get (v := .ref (g.2.2 53)) hx hb hts (fun w h => List.mem_cons_of_mem _ (List.mem_append_left _ (List.mem_append_left _ (List.mem_append_left _ (List.mem_append_right _ (h)))))) hown E hh (by decide) (zC_obj (q := 54) rfl) rfl 4 (by decide) (hts (.fieldLink RX6 40 "TownBand" "orders" "LTownBand$Orders;") (List.mem_cons_of_mem _ (List.mem_append_left _ (List.mem_append_left _ (List.mem_append_left _ (List.mem_append_left _ (List.mem_append_left _ (List.mem_of_getElem? (i := 0) rfl)))))))) rfl dX6_ask_12 ?_
    refine lv_aload_n hx hb dX6_ask_15 rfl (lv_at hl 0 rfl) ?_
    refine z_get (v := .ref (g.2.2 42)) hx hb hts (fun w h => List.mem_cons_of_mem _ (List.mem_append_left _ (List.mem_append_left _ (List.mem_append_left _ (List.mem_append_right _ (h)))))) hown E hh (by decide) (zC_obj (q := 54) rfl) rfl 0 (by decide) (hts (.fieldLink RX6 10 "TownBand" "band" "LTownBand$Band;") (List.mem_cons_of_mem _ (List.mem_append_left _ (List.mem_append_left _ (List.mem_append_left _ (List.mem_append_left _ (List.mem_append_left _ (List.mem_of_getElem? (i := 1) rfl)))))))) rfl dX6_ask_16 ?_
    refine lv_aload_n hx hb dX6_ask_19 rfl (lv_at hl 0 rfl) ?_
    refine z_get (v := .ref (g.2.2 51)) hx hb hts (fun w h => List.mem_cons_of_mem _ (List.mem_append_left _ (List.mem_append_left _ (List.mem_append_left _ (List.mem_append_right _ (h)))))) hown E hh (by decide) (zC_obj (q := 54) rfl) rfl 2 (by decide) (hts (.fieldLink RX6 26 "TownBand" "seen" "LTownBand$Seen;") (List.mem_cons_of_mem _ (List.mem_append_left _ (List.mem_append_left _ (List.mem_append_left _ (List.mem_append_left _ (List.mem_append_left _ (List.mem_of_getElem? (i := 2) rfl)))))))) rfl dX6_ask_20 ?_
    obtain ⟨q3, h_q3, hf⟩ := z_bd hf
    refine z_xv (va_runVN (As := [.ref (g.2.2 42), .ref (g.2.2 51)]) (rest := []) ⟨hx, hb, hml, hown, hts⟩ (zcX1_seekFitting l g A σ τ N 42 (by decide) (by decide) h_q3) ⟨va_cnB 2 hts gX6_ask_X1_seekFitting_n255 rfl rfl rfl (zE_m E 38 rfl) (hts (.initialized RX1) (List.mem_cons_of_mem _ (List.mem_append_left _ (List.mem_append_left _ (List.mem_append_left _ (List.mem_append_left _ (List.mem_append_left _ (List.mem_of_getElem? (i := 8) rfl)))))))) hdX1_seekFitting.2 ⟨by decide, by decide⟩, (hts (.instanceMethod yX1_seekFitting) (List.mem_cons_of_mem _ (List.mem_append_left _ (List.mem_append_left _ (List.mem_append_left _ (List.mem_append_left _ (List.mem_append_left _ (List.mem_of_getElem? (i := 7) rfl)))))))), (hts (.selects RX1 yX1_seekFitting yX1_seekFitting) (List.mem_cons_of_mem _ (List.mem_append_left _ (List.mem_append_left _ (List.mem_append_left _ (List.mem_append_left _ (List.mem_append_left _ (List.mem_of_getElem? (i := 9) rfl))))))))⟩ (z_preV E hh (by decide) (zC_obj (q := 53) rfl) rfl) rfl rfl hl.1 rfl (lv_room (Nat.le_of_ble_eq_true rfl)) dX6_ask_23 ⟨Nat.le_refl _, Nat.le_refl _⟩) hh (fun H locs hh => ?_)
    refine lv_aload_n hx hb dX6_ask_26 rfl (lv_at hl 0 rfl) ?_
    refine z_get (v := .ref (g.2.2 53)) hx hb hts (fun w h => List.mem_cons_of_mem _ (List.mem_append_left _ (List.mem_append_left _ (List.mem_append_left _ (List.mem_append_right _ (h)))))) hown E hh (by decide) (zC_obj (q := 54) rfl) rfl 4 (by decide) (hts (.fieldLink RX6 40 "TownBand" "orders" "LTownBand$Orders;") (List.mem_cons_of_mem _ (List.mem_append_left _ (List.mem_append_left _ (List.mem_append_left _ (List.mem_append_left _ (List.mem_append_left _ (List.mem_of_getElem? (i := 0) rfl)))))))) rfl dX6_ask_27 ?_
    refine z_getN (v := .int (q3.1 53 4)) hx hb hts (fun w h => List.mem_cons_of_mem _ (List.mem_append_left _ (List.mem_append_left _ (List.mem_append_right _ (h))))) hown E hh (by decide) (zC_obj (q := 53) rfl) rfl 4 (by decide) (zE_f E 42 rfl) rfl dX6_ask_30 ?_
    obtain ⟨v4, e_v4, hf⟩ := z_lt hf
    refine z_topi e_v4 ?_
    refine lv_istore_n (lv' := [(2, .int v4), (0, .ref (g.2.2 54)), (1, .int x1)]) hx hb dX6_ask_33 rfl hl (by decide) rfl (fun ls hl => ?_)
    refine lv_bipush (v := (-4)) hx hb dX6_ask_34 (by decide) ?_
    refine lv_istore_n (lv' := [(3, .int (-4)), (2, .int v4), (0, .ref (g.2.2 54)), (1, .int x1)]) hx hb dX6_ask_36 rfl hl (by decide) rfl (fun ls hl => ?_)
    refine lv_iconst (v := (nI 1)) hx hb dX6_ask_37 (by decide) ?_
    refine lv_istore (lv' := [(4, .int (nI 1)), (3, .int (-4)), (2, .int v4), (0, .ref (g.2.2 54)), (1, .int x1)]) hx hb dX6_ask_38 hl (by decide) rfl (fun ls hl => ?_)
    exact (hX6_ask_40 C E N (fX6_ask_81 N) (hX6_ask_81 C E N) N) x1 v4 (-4) (nI 1) q3 _ _ _ hf hh (lv_sub hl [3, 4, 2, 1, 0] rfl)
  · have hf := z_ip hf c_v2
    refine lv_iconst (v := (-1)) hx hb dX6_ask_9 (by decide) ?_
    have hf := Option.some.inj hf
    subst hf
    exact z_iretX hx hb hr hlocks hh dX6_ask_10
/-! ===== X6_drift ===== -/
theorem hdX6_drift : yX6_drift.cls = RX6 ∧ yX6_drift.cls ≠ "java/lang/invoke/MethodHandle" ∧ yX6_drift.cls ≠ "java/lang/invoke/VarHandle" ∧ (parseMethodDescriptor yX6_drift.desc).map (fun d => d.parameters.length) = some 3 := by decide +kernel
def PX6_drift_163 (p : Program) (l : Launch) (e : Env) (s : State) (m : MethodId) (args : Array Value) (below : List Frame) (meth : Method) (c : Code) (g : zG) (A : Nat → Prop) (τ : zS) (res : Int32 × zS) (f : Int32 → Int32 → Int32 → zS → Option (Int32 × zS)) : Prop := ∀ (x3 : Int32) (x5 : Int32) (x6 : Int32) (σ : zS) (H : Heap) (locs : List Loc) (ls : Array Slot), f x3 x5 x6 σ = some res → zW g A σ τ s H locs → lv_has ls 9 [(3, .int x3), (5, .int x5), (6, .int x6)] → W p l e (zR 1) s m args below meth c H locs 0 0 (MQ below (zQi g A τ res) args s 0 0 A) (F0 m 163 ls [])
def PX6_drift_63 (p : Program) (l : Launch) (e : Env) (s : State) (m : MethodId) (args : Array Value) (below : List Frame) (meth : Method) (c : Code) (g : zG) (A : Nat → Prop) (τ : zS) (res : Int32 × zS) (f : Int32 → Int32 → Int32 → Int32 → Int32 → Int32 → zS → Option (Int32 × zS)) : Prop := ∀ (x2 : Int32) (x3 : Int32) (x4 : Int32) (x5 : Int32) (x6 : Int32) (x7 : Int32) (σ : zS) (H : Heap) (locs : List Loc) (ls : Array Slot), f x2 x3 x4 x5 x6 x7 σ = some res → zW g A σ τ s H locs → lv_has ls 9 [(0, .ref (g.2.2 54)), (2, .int x2), (3, .int x3), (4, .int x4), (5, .int x5), (6, .int x6), (7, .int x7)] → W p l e (zR 1) s m args below meth c H locs 0 0 (MQ below (zQi g A τ res) args s 0 0 A) (F0 m 63 ls [])
def fX6_drift_163 (N : Nat) (x3 : Int32) (x5 : Int32) (x6 : Int32) (σ : zS) : Option (Int32 × zS) :=
  if x3 = 0 then
    some (x5, σ)
  else
    some (x6, σ)
set_option maxRecDepth 100000 in
set_option maxHeartbeats 4000000 in
theorem hX6_drift_163 {p : Program} {l : Launch} {e : Env} {s : State} {m : MethodId} {args : Array Value} {below : List Frame} {meth : Method} {c : Code} {g : zG} {A : Nat → Prop} {τ : zS} {res : Int32 × zS} (C : zCx p s m args meth c cX6_drift (some .int) wsX6_drift RX6 9) (E : zE g A s) (N : Nat) : PX6_drift_163 p l e s m args below meth c g A τ res (fX6_drift_163 N) := by
  obtain ⟨hx, hb, hr, hml, hown, hts, hlocks⟩ := id C
  intro x3 x5 x6 σ H locs ls hf hh hl
  unfold fX6_drift_163 at hf
  refine lv_iload_n hx hb dX6_drift_163 rfl (lv_at hl 0 rfl) ?_
  refine lv_if_ne (tgt := 172) hx hb dX6_drift_164 (by decide) (fun c_v1 => ?_) (fun c_v1 => ?_)
  · have hf := z_in hf c_v1
    refine lv_iload hx hb dX6_drift_172 (lv_at hl 2 rfl) ?_
    have hf := Option.some.inj hf
    subst hf
    exact z_iretX hx hb hr hlocks hh dX6_drift_174
  · have hf := z_ip hf c_v1
    refine lv_iload hx hb dX6_drift_167 (lv_at hl 1 rfl) ?_
    refine lv_goto (tgt := 174) hx hb dX6_drift_169 (by decide) ?_
    have hf := Option.some.inj hf
    subst hf
    exact z_iretX hx hb hr hlocks hh dX6_drift_174
def fX6_drift_63 (N : Nat) (k_163 : Int32 → Int32 → Int32 → zS → Option (Int32 × zS)) : Nat → Int32 → Int32 → Int32 → Int32 → Int32 → Int32 → zS → Option (Int32 × zS)
  | 0, _, _, _, _, _, _, _ => none
  | n + 1, x2, x3, x4, x5, x6, x7, σ =>
    if x2 ≤ x7 then
      k_163 x3 x5 x6 σ
    else
      (fX6_nextSeed N x4).bind fun q2 =>
      (fX6_seedBits N q2).bind fun q3 =>
      if ¬ ((σ.1 42 6) = 0) then
      zlet (zrem q3 (σ.1 42 6)) fun v5 =>
      (fX6_nextSeed N q2).bind fun q6 =>
      (fX6_seedBits N q6).bind fun q7 =>
      zlet (zrem q7 (nI 10)) fun v8 =>
      if zin v5 (zlen 34) then
      zlet (zpa σ 34 (upd (σ.2 34) v5.toNatClampNeg v8)) fun σ10 =>
      (fX0_noiseBy N σ10 42 4 (σ10.1 42 8) 34).bind fun q11 =>
      (fX0_fledBits N σ10 42 q11).bind fun q12 =>
      (fJ6_bitCount_0f7a4 N q12).bind fun q13 =>
      (fX6_drift_63 N k_163 n) x2 x3 q6 (x5 + q13) q11 (x7 + (nI 1)) σ10
      else none
      else none
set_option maxRecDepth 100000 in
set_option maxHeartbeats 4000000 in
theorem hX6_drift_63 {p : Program} {l : Launch} {e : Env} {s : State} {m : MethodId} {args : Array Value} {below : List Frame} {meth : Method} {c : Code} {g : zG} {A : Nat → Prop} {τ : zS} {res : Int32 × zS} (C : zCx p s m args meth c cX6_drift (some .int) wsX6_drift RX6 9) (E : zE g A s) (N : Nat) (k_163 : Int32 → Int32 → Int32 → zS → Option (Int32 × zS)) (hk_163 : PX6_drift_163 p l e s m args below meth c g A τ res k_163) : ∀ n : Nat, PX6_drift_63 p l e s m args below meth c g A τ res (fX6_drift_63 N k_163 n) := by
  obtain ⟨hx, hb, hr, hml, hown, hts, hlocks⟩ := id C
  intro n
  induction n with
  | zero =>
    intro x2 x3 x4 x5 x6 x7 σ H locs ls hf
    exact absurd hf (by simp [fX6_drift_63])
  | succ n ih =>
    intro x2 x3 x4 x5 x6 x7 σ H locs ls hf hh hl
    rw [fX6_drift_63] at hf
    refine lv_iload hx hb dX6_drift_63 (lv_at hl 6 rfl) ?_
    refine lv_iload_n hx hb dX6_drift_65 rfl (lv_at hl 1 rfl) ?_
    refine lv_icmp_ge (tgt := 163) hx hb dX6_drift_66 (by decide) (fun c_v1 => ?_) (fun c_v1 => ?_)
    · have hf := z_ip hf c_v1
      exact hk_163 x3 x5 x6 σ _ _ _ hf hh (lv_sub hl [2, 4, 5] rfl)
    · have hf := z_in hf c_v1
      refine lv_iload hx hb dX6_drift_69 (lv_at hl 3 rfl) ?_
      obtain ⟨q2, h_q2, hf⟩ := z_bd hf
      refine z_xi (va_runS (As := [.int x4]) (rest := []) ⟨hx, hb, hml, hown, hts⟩ (zcX6_nextSeed l g A σ τ N x4 h_q2) (va_cwS 1 hts gX6_drift_X6_nextSeed rfl rfl rfl hdX6_nextSeed.2 ⟨by decide, by decide⟩) (z_preS E hh) rfl rfl hl.1 rfl (lv_room (Nat.le_of_ble_eq_true rfl)) dX6_drift_71 ⟨Nat.le_refl _, Nat.le_refl _⟩) hh (fun H locs hh => ?_)
      refine lv_istore (lv' := [(4, .int q2), (0, .ref (g.2.2 54)), (2, .int x2), (3, .int x3), (5, .int x5), (6, .int x6), (7, .int x7)]) hx hb dX6_drift_74 hl (by decide) rfl (fun ls hl => ?_)
      refine lv_iload hx hb dX6_drift_76 (lv_at hl 0 rfl) ?_
      obtain ⟨q3, h_q3, hf⟩ := z_bd hf
      refine z_xi (va_runS (As := [.int q2]) (rest := []) ⟨hx, hb, hml, hown, hts⟩ (zcX6_seedBits l g A σ τ N q2 h_q3) (va_cwS 1 hts gX6_drift_X6_seedBits rfl rfl rfl hdX6_seedBits.2 ⟨by decide, by decide⟩) (z_preS E hh) rfl rfl hl.1 rfl (lv_room (Nat.le_of_ble_eq_true rfl)) dX6_drift_78 ⟨Nat.le_refl _, Nat.le_refl _⟩) hh (fun H locs hh => ?_)
      refine lv_aload_n hx hb dX6_drift_81 rfl (lv_at hl 1 rfl) ?_
      refine z_get (v := .ref (g.2.2 42)) hx hb hts (fun w h => List.mem_cons_of_mem _ (List.mem_append_left _ (List.mem_append_right _ (h)))) hown E hh (by decide) (zC_obj (q := 54) rfl) rfl 0 (by decide) (hts (.fieldLink RX6 10 "TownBand" "band" "LTownBand$Band;") (List.mem_cons_of_mem _ (List.mem_append_left _ (List.mem_append_left _ (List.mem_append_left _ (List.mem_of_getElem? (i := 0) rfl)))))) rfl dX6_drift_82 ?_
      refine z_getN (v := .int (σ.1 42 6)) hx hb hts (fun w h => List.mem_cons_of_mem _ (List.mem_append_right _ (h))) hown E hh (by decide) (zC_band (by decide) (by decide)) rfl 6 (by decide) (zE_f E 17 rfl) rfl dX6_drift_85 ?_
      obtain ⟨h_v4, hf⟩ := z_if hf
      obtain ⟨v5, e_v5, hf⟩ := z_lt hf
      refine lv_irem hx hb dX6_drift_88 h_v4 ?_
      refine z_topi e_v5 ?_
      refine lv_istore (lv' := [(8, .int v5), (4, .int q2), (0, .ref (g.2.2 54)), (2, .int x2), (3, .int x3), (5, .int x5), (6, .int x6), (7, .int x7)]) hx hb dX6_drift_89 hl (by decide) rfl (fun ls hl => ?_)
      refine lv_iload hx hb dX6_drift_91 (lv_at hl 1 rfl) ?_
      obtain ⟨q6, h_q6, hf⟩ := z_bd hf
      refine z_xi (va_runS (As := [.int q2]) (rest := []) ⟨hx, hb, hml, hown, hts⟩ (zcX6_nextSeed l g A σ τ N q2 h_q6) (va_cwS 1 hts gX6_drift_X6_nextSeed rfl rfl rfl hdX6_nextSeed.2 ⟨by decide, by decide⟩) (z_preS E hh) rfl rfl hl.1 rfl (lv_room (Nat.le_of_ble_eq_true rfl)) dX6_drift_93 ⟨Nat.le_refl _, Nat.le_refl _⟩) hh (fun H locs hh => ?_)
      refine lv_istore (lv' := [(4, .int q6), (8, .int v5), (0, .ref (g.2.2 54)), (2, .int x2), (3, .int x3), (5, .int x5), (6, .int x6), (7, .int x7)]) hx hb dX6_drift_96 hl (by decide) rfl (fun ls hl => ?_)
      refine lv_aload_n hx hb dX6_drift_98 rfl (lv_at hl 2 rfl) ?_
      refine z_get (v := .ref (g.2.2 34)) hx hb hts (fun w h => List.mem_cons_of_mem _ (List.mem_append_left _ (List.mem_append_right _ (h)))) hown E hh (by decide) (zC_obj (q := 54) rfl) rfl 8 (by decide) (hts (.fieldLink RX6 58 "TownBand" "throats" "[I") (List.mem_cons_of_mem _ (List.mem_append_left _ (List.mem_append_left _ (List.mem_append_left _ (List.mem_of_getElem? (i := 1) rfl)))))) rfl dX6_drift_99 ?_
      refine lv_iload hx hb dX6_drift_102 (lv_at hl 1 rfl) ?_
      refine lv_iload hx hb dX6_drift_104 (lv_at hl 0 rfl) ?_
      obtain ⟨q7, h_q7, hf⟩ := z_bd hf
      refine z_xi (va_runS (As := [.int q6]) (rest := [.int v5, .ref (g.2.2 34)]) ⟨hx, hb, hml, hown, hts⟩ (zcX6_seedBits l g A σ τ N q6 h_q7) (va_cwS 1 hts gX6_drift_X6_seedBits rfl rfl rfl hdX6_seedBits.2 ⟨by decide, by decide⟩) (z_preS E hh) rfl rfl hl.1 rfl (lv_room (Nat.le_of_ble_eq_true rfl)) dX6_drift_106 ⟨Nat.le_refl _, Nat.le_refl _⟩) hh (fun H locs hh => ?_)
      refine lv_bipush (v := (nI 10)) hx hb dX6_drift_109 (by decide) ?_
      obtain ⟨v8, e_v8, hf⟩ := z_lt hf
      refine lv_irem hx hb dX6_drift_111 (by decide) ?_
      refine z_topi e_v8 ?_
      obtain ⟨h_v9, hf⟩ := z_if hf
      obtain ⟨σ10, e_σ10, hf⟩ := z_lt hf
      refine z_iast hx hb E hh (by decide) h_v9 e_σ10 dX6_drift_112 (fun H locs hh => ?_)
      refine lv_aload_n hx hb dX6_drift_113 rfl (lv_at hl 2 rfl) ?_
      refine z_get (v := .ref (g.2.2 42)) hx hb hts (fun w h => List.mem_cons_of_mem _ (List.mem_append_left _ (List.mem_append_right _ (h)))) hown E hh (by decide) (zC_obj (q := 54) rfl) rfl 0 (by decide) (hts (.fieldLink RX6 10 "TownBand" "band" "LTownBand$Band;") (List.mem_cons_of_mem _ (List.mem_append_left _ (List.mem_append_left _ (List.mem_append_left _ (List.mem_of_getElem? (i := 0) rfl)))))) rfl dX6_drift_114 ?_
      refine lv_aload_n hx hb dX6_drift_117 rfl (lv_at hl 2 rfl) ?_
      refine z_get (v := .ref (g.2.2 42)) hx hb hts (fun w h => List.mem_cons_of_mem _ (List.mem_append_left _ (List.mem_append_right _ (h)))) hown E hh (by decide) (zC_obj (q := 54) rfl) rfl 0 (by decide) (hts (.fieldLink RX6 10 "TownBand" "band" "LTownBand$Band;") (List.mem_cons_of_mem _ (List.mem_append_left _ (List.mem_append_left _ (List.mem_append_left _ (List.mem_of_getElem? (i := 0) rfl)))))) rfl dX6_drift_118 ?_
      refine z_getN (v := .ref (g.2.2 4)) hx hb hts (fun w h => List.mem_cons_of_mem _ (List.mem_append_right _ (h))) hown E hh (by decide) (zC_band (by decide) (by decide)) rfl 4 (by decide) (zE_f E 10 rfl) rfl dX6_drift_121 ?_
      refine lv_aload_n hx hb dX6_drift_124 rfl (lv_at hl 2 rfl) ?_
      refine z_get (v := .ref (g.2.2 42)) hx hb hts (fun w h => List.mem_cons_of_mem _ (List.mem_append_left _ (List.mem_append_right _ (h)))) hown E hh (by decide) (zC_obj (q := 54) rfl) rfl 0 (by decide) (hts (.fieldLink RX6 10 "TownBand" "band" "LTownBand$Band;") (List.mem_cons_of_mem _ (List.mem_append_left _ (List.mem_append_left _ (List.mem_append_left _ (List.mem_of_getElem? (i := 0) rfl)))))) rfl dX6_drift_125 ?_
      refine z_getN (v := .int (σ10.1 42 8)) hx hb hts (fun w h => List.mem_cons_of_mem _ (List.mem_append_right _ (h))) hown E hh (by decide) (zC_band (by decide) (by decide)) rfl 8 (by decide) (zE_f E 21 rfl) rfl dX6_drift_128 ?_
      refine lv_aload_n hx hb dX6_drift_131 rfl (lv_at hl 2 rfl) ?_
      refine z_get (v := .ref (g.2.2 34)) hx hb hts (fun w h => List.mem_cons_of_mem _ (List.mem_append_left _ (List.mem_append_right _ (h)))) hown E hh (by decide) (zC_obj (q := 54) rfl) rfl 8 (by decide) (hts (.fieldLink RX6 58 "TownBand" "throats" "[I") (List.mem_cons_of_mem _ (List.mem_append_left _ (List.mem_append_left _ (List.mem_append_left _ (List.mem_of_getElem? (i := 1) rfl)))))) rfl dX6_drift_132 ?_
      obtain ⟨q11, h_q11, hf⟩ := z_bd hf
      refine z_xi (va_runVN (As := [.ref (g.2.2 4), .int (σ10.1 42 8), .ref (g.2.2 34)]) (rest := []) ⟨hx, hb, hml, hown, hts⟩ (zcX0_noiseBy l g A σ10 τ N 42 4 (σ10.1 42 8) 34 (by decide) (by decide) (by decide) (by decide) h_q11) ⟨va_cnB 3 hts gX6_drift_X0_noiseBy_n162 rfl rfl rfl (zE_m E 22 rfl) (hts (.initialized RX0) (List.mem_cons_of_mem _ (List.mem_append_left _ (List.mem_append_left _ (List.mem_append_left _ (List.mem_of_getElem? (i := 18) rfl)))))) hdX0_noiseBy.2 ⟨by decide, by decide⟩, (hts (.instanceMethod yX0_noiseBy) (List.mem_cons_of_mem _ (List.mem_append_left _ (List.mem_append_left _ (List.mem_append_left _ (List.mem_of_getElem? (i := 17) rfl)))))), (hts (.selects RX0 yX0_noiseBy yX0_noiseBy) (List.mem_cons_of_mem _ (List.mem_append_left _ (List.mem_append_left _ (List.mem_append_left _ (List.mem_of_getElem? (i := 19) rfl))))))⟩ (z_preV E hh (by decide) (zC_band (by decide) (by decide)) rfl) rfl rfl hl.1 rfl (lv_room (Nat.le_of_ble_eq_true rfl)) dX6_drift_135 ⟨Nat.le_refl _, Nat.le_refl _⟩) hh (fun H locs hh => ?_)
      refine lv_istore (lv' := [(6, .int q11), (4, .int q6), (8, .int v5), (0, .ref (g.2.2 54)), (2, .int x2), (3, .int x3), (5, .int x5), (7, .int x7)]) hx hb dX6_drift_138 hl (by decide) rfl (fun ls hl => ?_)
      refine lv_iload hx hb dX6_drift_140 (lv_at hl 6 rfl) ?_
      refine lv_aload_n hx hb dX6_drift_142 rfl (lv_at hl 3 rfl) ?_
      refine z_get (v := .ref (g.2.2 42)) hx hb hts (fun w h => List.mem_cons_of_mem _ (List.mem_append_left _ (List.mem_append_right _ (h)))) hown E hh (by decide) (zC_obj (q := 54) rfl) rfl 0 (by decide) (hts (.fieldLink RX6 10 "TownBand" "band" "LTownBand$Band;") (List.mem_cons_of_mem _ (List.mem_append_left _ (List.mem_append_left _ (List.mem_append_left _ (List.mem_of_getElem? (i := 0) rfl)))))) rfl dX6_drift_143 ?_
      refine lv_iload hx hb dX6_drift_146 (lv_at hl 0 rfl) ?_
      obtain ⟨q12, h_q12, hf⟩ := z_bd hf
      refine z_xi (va_runVN (As := [.int q11]) (rest := [.int x5]) ⟨hx, hb, hml, hown, hts⟩ (zcX0_fledBits l g A σ10 τ N 42 q11 (by decide) (by decide) h_q12) ⟨va_cnB 1 hts gX6_drift_X0_fledBits_n166 rfl rfl rfl (zE_m E 23 rfl) (hts (.initialized RX0) (List.mem_cons_of_mem _ (List.mem_append_left _ (List.mem_append_left _ (List.mem_append_left _ (List.mem_of_getElem? (i := 18) rfl)))))) hdX0_fledBits.2 ⟨by decide, by decide⟩, (hts (.instanceMethod yX0_fledBits) (List.mem_cons_of_mem _ (List.mem_append_left _ (List.mem_append_left _ (List.mem_append_left _ (List.mem_of_getElem? (i := 21) rfl)))))), (hts (.selects RX0 yX0_fledBits yX0_fledBits) (List.mem_cons_of_mem _ (List.mem_append_left _ (List.mem_append_left _ (List.mem_append_left _ (List.mem_of_getElem? (i := 22) rfl))))))⟩ (z_preV E hh (by decide) (zC_band (by decide) (by decide)) rfl) rfl rfl hl.1 rfl (lv_room (Nat.le_of_ble_eq_true rfl)) dX6_drift_148 ⟨Nat.le_refl _, Nat.le_refl _⟩) hh (fun H locs hh => ?_)
      obtain ⟨q13, h_q13, hf⟩ := z_bd hf
      refine z_xi (va_runS (As := [.int q12]) (rest := [.int x5]) ⟨hx, hb, hml, hown, hts⟩ (zcJ6_bitCount_0f7a4 l g A σ10 τ N q12 h_q13) (va_cwS 1 hts gX6_drift_J6_bitCount_0f7a4 rfl rfl rfl hdJ6_bitCount_0f7a4.2 ⟨by decide, by decide⟩) (z_preS E hh) rfl rfl hl.1 rfl (lv_room (Nat.le_of_ble_eq_true rfl)) dX6_drift_151 ⟨Nat.le_refl _, Nat.le_refl _⟩) hh (fun H locs hh => ?_)
      refine lv_iadd hx hb dX6_drift_154 ?_
      refine lv_istore (lv' := [(5, .int (x5 + q13)), (6, .int q11), (4, .int q6), (8, .int v5), (0, .ref (g.2.2 54)), (2, .int x2), (3, .int x3), (7, .int x7)]) hx hb dX6_drift_155 hl (by decide) rfl (fun ls hl => ?_)
      refine lv_iinc (v := (x7 + (nI 1))) (lv' := [(7, .int (x7 + (nI 1))), (5, .int (x5 + q13)), (6, .int q11), (4, .int q6), (8, .int v5), (0, .ref (g.2.2 54)), (2, .int x2), (3, .int x3)]) hx hb dX6_drift_157 hl (k := 7) rfl rfl (by decide) rfl (fun ls hl => ?_)
      refine lv_goto (tgt := 63) hx hb dX6_drift_160 (by decide) ?_
      exact ih x2 x3 q6 (x5 + q13) q11 (x7 + (nI 1)) σ10 _ _ _ hf hh (lv_sub hl [5, 6, 7, 3, 1, 2, 0] rfl)
def fX6_drift (N : Nat) (σ : zS) (x1 : Int32) (x2 : Int32) (x3 : Int32) : Option (Int32 × zS) :=
  (fX6_within N x2 (nI 1) (nI 60)).bind fun q1 =>
  if q1 = 0 then
    some ((-1), σ)
  else
    (fX6_within N x3 (nI 0) (nI 1)).bind fun q3 =>
    if q3 = 0 then
      some ((-1), σ)
    else
      if (σ.1 42 6) = 0 then
        some ((-2), σ)
      else
        if ¬ ((nI 0) : Int32) < 0 ∧ ¬ ((nI 0) : Int32) < 0 ∧ ¬ ((nI 5) : Int32) < 0 ∧ (nI 0).toNatClampNeg + (nI 5).toNatClampNeg ≤ zlen 2 ∧ (nI 0).toNatClampNeg + (nI 5).toNatClampNeg ≤ zlen 34 then
        zlet (zpa σ 34 (va_cpy (σ.2 2) (σ.2 34) (nI 0).toNatClampNeg (nI 0).toNatClampNeg (nI 5).toNatClampNeg)) fun σ7 =>
        (fX6_drift_63 N (fX6_drift_163 N) N) x2 x3 x1 (nI 0) (nI 0) (nI 0) σ7
        else none
set_option maxRecDepth 100000 in
set_option maxHeartbeats 4000000 in
theorem zcX6_drift (l : Launch) (g : zG) (A : Nat → Prop) (σ τ : zS) (N : Nat) (x1 : Int32) (x2 : Int32) (x3 : Int32)  {res : Int32 × zS} (hf : fX6_drift N σ x1 x2 x3 = some res) : Met l yX6_drift wsX6_drift (zR 1) (zPc g A σ τ [.ref (g.2.2 54), .int x1, .int x2, .int x3]) (zQi g A τ res) 0 0 A := by
  refine z_met (cc := cX6_drift) (ret := (some .int)) (own := RX6) (by decide) rfl rfl _ (Nat.le_of_ble_eq_true rfl) ?_
  intro p e s m below meth c C E ls hl hh
  have hl : lv_has ls 9 [(0, .ref (g.2.2 54)), (1, .int x1), (2, .int x2), (3, .int x3)] := hl
  obtain ⟨hx, hb, hr, hml, hown, hts, hlocks⟩ := id C
  unfold fX6_drift at hf
  refine lv_iload_n hx hb dX6_drift_0 rfl (lv_at hl 2 rfl) ?_
  refine lv_iconst (v := (nI 1)) hx hb dX6_drift_1 (by decide) ?_
  refine lv_bipush (v := (nI 60)) hx hb dX6_drift_2 (by decide) ?_
  obtain ⟨q1, h_q1, hf⟩ := z_bd hf
  refine z_xi (va_runS (As := [.int x2, .int (nI 1), .int (nI 60)]) (rest := []) ⟨hx, hb, hml, hown, hts⟩ (zcX6_within l g A σ τ N x2 (nI 1) (nI 60) h_q1) (va_cwS 3 hts gX6_drift_X6_within rfl rfl rfl hdX6_within.2 ⟨by decide, by decide⟩) (z_preS E hh) rfl rfl hl.1 rfl (lv_room (Nat.le_of_ble_eq_true rfl)) dX6_drift_4 ⟨Nat.le_refl _, Nat.le_refl _⟩) hh (fun H locs hh => ?_)
  refine lv_if_eq (tgt := 19) hx hb dX6_drift_7 (by decide) (fun c_v2 => ?_) (fun c_v2 => ?_)
  · have hf := z_ip hf c_v2
    refine lv_iconst (v := (-1)) hx hb dX6_drift_19 (by decide) ?_
    have hf := Option.some.inj hf
    subst hf
    exact z_iretX hx hb hr hlocks hh dX6_drift_20
  · have hf := z_in hf c_v2
    refine lv_iload_n hx hb dX6_drift_10 rfl (lv_at hl 3 rfl) ?_
    refine lv_iconst (v := (nI 0)) hx hb dX6_drift_11 (by decide) ?_
    refine lv_iconst (v := (nI 1)) hx hb dX6_drift_12 (by decide) ?_
    obtain ⟨q3, h_q3, hf⟩ := z_bd hf
    refine z_xi (va_runS (As := [.int x3, .int (nI 0), .int (nI 1)]) (rest := []) ⟨hx, hb, hml, hown, hts⟩ (zcX6_within l g A σ τ N x3 (nI 0) (nI 1) h_q3) (va_cwS 3 hts gX6_drift_X6_within rfl rfl rfl hdX6_within.2 ⟨by decide, by decide⟩) (z_preS E hh) rfl rfl hl.1 rfl (lv_room (Nat.le_of_ble_eq_true rfl)) dX6_drift_13 ⟨Nat.le_refl _, Nat.le_refl _⟩) hh (fun H locs hh => ?_)
    refine lv_if_ne (tgt := 21) hx hb dX6_drift_16 (by decide) (fun c_v4 => ?_) (fun c_v4 => ?_)
    · have hf := z_in hf c_v4
      refine lv_aload_n hx hb dX6_drift_21 rfl (lv_at hl 0 rfl) ?_
      refine z_get (v := .ref (g.2.2 42)) hx hb hts (fun w h => List.mem_cons_of_mem _ (List.mem_append_left _ (List.mem_append_right _ (h)))) hown E hh (by decide) (zC_obj (q := 54) rfl) rfl 0 (by decide) (hts (.fieldLink RX6 10 "TownBand" "band" "LTownBand$Band;") (List.mem_cons_of_mem _ (List.mem_append_left _ (List.mem_append_left _ (List.mem_append_left _ (List.mem_of_getElem? (i := 0) rfl)))))) rfl dX6_drift_22 ?_
      refine z_getN (v := .int (σ.1 42 6)) hx hb hts (fun w h => List.mem_cons_of_mem _ (List.mem_append_right _ (h))) hown E hh (by decide) (zC_band (by decide) (by decide)) rfl 6 (by decide) (zE_f E 17 rfl) rfl dX6_drift_25 ?_
      refine lv_if_ne (tgt := 34) hx hb dX6_drift_28 (by decide) (fun c_v5 => ?_) (fun c_v5 => ?_)
      · have hf := z_in hf c_v5
        refine lv_aload_n hx hb dX6_drift_34 rfl (lv_at hl 0 rfl) ?_
        refine z_get (v := .ref (g.2.2 42)) hx hb hts (fun w h => List.mem_cons_of_mem _ (List.mem_append_left _ (List.mem_append_right _ (h)))) hown E hh (by decide) (zC_obj (q := 54) rfl) rfl 0 (by decide) (hts (.fieldLink RX6 10 "TownBand" "band" "LTownBand$Band;") (List.mem_cons_of_mem _ (List.mem_append_left _ (List.mem_append_left _ (List.mem_append_left _ (List.mem_of_getElem? (i := 0) rfl)))))) rfl dX6_drift_35 ?_
        refine z_getN (v := .ref (g.2.2 2)) hx hb hts (fun w h => List.mem_cons_of_mem _ (List.mem_append_right _ (h))) hown E hh (by decide) (zC_band (by decide) (by decide)) rfl 2 (by decide) (zE_f E 7 rfl) rfl dX6_drift_38 ?_
        refine lv_iconst (v := (nI 0)) hx hb dX6_drift_41 (by decide) ?_
        refine lv_aload_n hx hb dX6_drift_42 rfl (lv_at hl 0 rfl) ?_
        refine z_get (v := .ref (g.2.2 34)) hx hb hts (fun w h => List.mem_cons_of_mem _ (List.mem_append_left _ (List.mem_append_right _ (h)))) hown E hh (by decide) (zC_obj (q := 54) rfl) rfl 8 (by decide) (hts (.fieldLink RX6 58 "TownBand" "throats" "[I") (List.mem_cons_of_mem _ (List.mem_append_left _ (List.mem_append_left _ (List.mem_append_left _ (List.mem_of_getElem? (i := 1) rfl)))))) rfl dX6_drift_43 ?_
        refine lv_iconst (v := (nI 0)) hx hb dX6_drift_46 (by decide) ?_
        refine lv_iconst (v := (nI 5)) hx hb dX6_drift_47 (by decide) ?_
        obtain ⟨h_v6, hf⟩ := z_if hf
        obtain ⟨σ7, e_σ7, hf⟩ := z_lt hf
        refine z_copy hx hb (hml.trans hl.1.symm) hown (hts (.methodLink RX6 243 arraycopyName) (List.mem_cons_of_mem _ (List.mem_append_left _ (List.mem_append_left _ (List.mem_append_left _ (List.mem_of_getElem? (i := 2) rfl)))))) (hts (.native arraycopyName) (List.mem_cons_of_mem _ (List.mem_append_left _ (List.mem_append_left _ (List.mem_append_left _ (List.mem_of_getElem? (i := 3) rfl)))))) (hts (.static arraycopyName) (List.mem_cons_of_mem _ (List.mem_append_left _ (List.mem_append_left _ (List.mem_append_left _ (List.mem_of_getElem? (i := 4) rfl)))))) (hts (.initialized "java/lang/System") (List.mem_cons_of_mem _ (List.mem_append_left _ (List.mem_append_left _ (List.mem_append_left _ (List.mem_of_getElem? (i := 5) rfl)))))) E hh (by decide) (by decide) h_v6 e_σ7 (by decide) (Nat.le_of_ble_eq_true rfl) dX6_drift_48 (fun H locs hh => ?_)
        refine lv_iload_n hx hb dX6_drift_51 rfl (lv_at hl 1 rfl) ?_
        refine lv_istore (lv' := [(4, .int x1), (0, .ref (g.2.2 54)), (1, .int x1), (2, .int x2), (3, .int x3)]) hx hb dX6_drift_52 hl (by decide) rfl (fun ls hl => ?_)
        refine lv_iconst (v := (nI 0)) hx hb dX6_drift_54 (by decide) ?_
        refine lv_istore (lv' := [(5, .int (nI 0)), (4, .int x1), (0, .ref (g.2.2 54)), (1, .int x1), (2, .int x2), (3, .int x3)]) hx hb dX6_drift_55 hl (by decide) rfl (fun ls hl => ?_)
        refine lv_iconst (v := (nI 0)) hx hb dX6_drift_57 (by decide) ?_
        refine lv_istore (lv' := [(6, .int (nI 0)), (5, .int (nI 0)), (4, .int x1), (0, .ref (g.2.2 54)), (1, .int x1), (2, .int x2), (3, .int x3)]) hx hb dX6_drift_58 hl (by decide) rfl (fun ls hl => ?_)
        refine lv_iconst (v := (nI 0)) hx hb dX6_drift_60 (by decide) ?_
        refine lv_istore (lv' := [(7, .int (nI 0)), (6, .int (nI 0)), (5, .int (nI 0)), (4, .int x1), (0, .ref (g.2.2 54)), (1, .int x1), (2, .int x2), (3, .int x3)]) hx hb dX6_drift_61 hl (by decide) rfl (fun ls hl => ?_)
        exact (hX6_drift_63 C E N (fX6_drift_163 N) (hX6_drift_163 C E N) N) x2 x3 x1 (nI 0) (nI 0) (nI 0) σ7 _ _ _ hf hh (lv_sub hl [4, 6, 7, 3, 2, 1, 0] rfl)
      · have hf := z_ip hf c_v5
        refine lv_bipush (v := (-2)) hx hb dX6_drift_31 (by decide) ?_
        have hf := Option.some.inj hf
        subst hf
        exact z_iretX hx hb hr hlocks hh dX6_drift_33
    · have hf := z_ip hf c_v4
      refine lv_iconst (v := (-1)) hx hb dX6_drift_19 (by decide) ?_
      have hf := Option.some.inj hf
      subst hf
      exact z_iretX hx hb hr hlocks hh dX6_drift_20
/-! ===== X6_keep ===== -/
theorem hdX6_keep : yX6_keep.cls = RX6 ∧ yX6_keep.cls ≠ "java/lang/invoke/MethodHandle" ∧ yX6_keep.cls ≠ "java/lang/invoke/VarHandle" ∧ (parseMethodDescriptor yX6_keep.desc).map (fun d => d.parameters.length) = some 1 := by decide +kernel
def PX6_keep_25 (p : Program) (l : Launch) (e : Env) (s : State) (m : MethodId) (args : Array Value) (below : List Frame) (meth : Method) (c : Code) (g : zG) (A : Nat → Prop) (τ : zS) (res : Int32 × zS) (f : Int32 → Int32 → zS → Option (Int32 × zS)) : Prop := ∀ (x1 : Int32) (s0 : Int32) (σ : zS) (H : Heap) (locs : List Loc) (ls : Array Slot), f x1 s0 σ = some res → zW g A σ τ s H locs → lv_has ls 3 [(0, .ref (g.2.2 54)), (1, .int x1)] → W p l e (zR 2) s m args below meth c H locs 0 0 (MQ below (zQi g A τ res) args s 0 0 A) (F0 m 25 ls [.int s0])
def fX6_keep_25 (N : Nat) (x1 : Int32) (s0 : Int32) (σ : zS) : Option (Int32 × zS) :=
  if zin x1 2 then
  (fX0_copyFrom N σ (44 + x1.toNatClampNeg) 42).bind fun q2 =>
  if zin x1 2 then
  zlet (zpa q2 39 (upd (q2.2 39) x1.toNatClampNeg (vp_nar .boolean (nI 1)))) fun σ4 =>
  some (s0, σ4)
  else none
  else none
set_option maxRecDepth 100000 in
set_option maxHeartbeats 4000000 in
theorem hX6_keep_25 {p : Program} {l : Launch} {e : Env} {s : State} {m : MethodId} {args : Array Value} {below : List Frame} {meth : Method} {c : Code} {g : zG} {A : Nat → Prop} {τ : zS} {res : Int32 × zS} (C : zCx p s m args meth c cX6_keep (some .int) wsX6_keep RX6 3) (E : zE g A s) (N : Nat) : PX6_keep_25 p l e s m args below meth c g A τ res (fX6_keep_25 N) := by
  obtain ⟨hx, hb, hr, hml, hown, hts, hlocks⟩ := id C
  intro x1 s0 σ H locs ls hf hh hl
  unfold fX6_keep_25 at hf
  refine lv_istore_n (lv' := [(2, .int s0), (0, .ref (g.2.2 54)), (1, .int x1)]) hx hb dX6_keep_25 rfl hl (by decide) rfl (fun ls hl => ?_)
  refine lv_aload_n hx hb dX6_keep_26 rfl (lv_at hl 1 rfl) ?_
  refine z_get (v := .ref (g.2.2 40)) hx hb hts (fun w h => List.mem_cons_of_mem _ (List.mem_append_left _ (List.mem_append_right _ (h)))) hown E hh (by decide) (zC_obj (q := 54) rfl) rfl 5 (by decide) (hts (.fieldLink RX6 44 "TownBand" "images" "[LTownBand$Band;") (List.mem_cons_of_mem _ (List.mem_append_left _ (List.mem_append_left _ (List.mem_append_left _ (List.mem_of_getElem? (i := 1) rfl)))))) rfl dX6_keep_27 ?_
  refine lv_iload_n hx hb dX6_keep_30 rfl (lv_at hl 2 rfl) ?_
  obtain ⟨h_v1, hf⟩ := z_if hf
  refine z_aldB hx hb E hh h_v1 dX6_keep_31 ?_
  refine lv_aload_n hx hb dX6_keep_32 rfl (lv_at hl 1 rfl) ?_
  refine z_get (v := .ref (g.2.2 42)) hx hb hts (fun w h => List.mem_cons_of_mem _ (List.mem_append_left _ (List.mem_append_right _ (h)))) hown E hh (by decide) (zC_obj (q := 54) rfl) rfl 0 (by decide) (hts (.fieldLink RX6 10 "TownBand" "band" "LTownBand$Band;") (List.mem_cons_of_mem _ (List.mem_append_left _ (List.mem_append_left _ (List.mem_append_left _ (List.mem_of_getElem? (i := 2) rfl)))))) rfl dX6_keep_33 ?_
  obtain ⟨q2, h_q2, hf⟩ := z_bd hf
  refine z_xv (va_runVN (As := [.ref (g.2.2 42)]) (rest := []) ⟨hx, hb, hml, hown, hts⟩ (zcX0_copyFrom l g A σ τ N (44 + x1.toNatClampNeg) 42 (by omega) (by have := z_inl h_v1; omega) (by decide) (by decide) h_q2) ⟨va_cnB 1 hts gX6_keep_X0_copyFrom_n87 rfl rfl rfl (zE_m E 14 rfl) (hts (.initialized RX0) (List.mem_cons_of_mem _ (List.mem_append_left _ (List.mem_append_left _ (List.mem_append_left _ (List.mem_of_getElem? (i := 8) rfl)))))) hdX0_copyFrom.2 ⟨by decide, by decide⟩, (hts (.instanceMethod yX0_copyFrom) (List.mem_cons_of_mem _ (List.mem_append_left _ (List.mem_append_left _ (List.mem_append_left _ (List.mem_of_getElem? (i := 7) rfl)))))), (hts (.selects RX0 yX0_copyFrom yX0_copyFrom) (List.mem_cons_of_mem _ (List.mem_append_left _ (List.mem_append_left _ (List.mem_append_left _ (List.mem_of_getElem? (i := 9) rfl))))))⟩ (z_preV E hh (Nat.lt_trans (m := 46) (by have := z_inl h_v1; omega) (by decide)) (zC_band (by omega) (by have := z_inl h_v1; omega)) rfl) rfl rfl hl.1 rfl (lv_room (Nat.le_of_ble_eq_true rfl)) dX6_keep_36 ⟨Nat.le_refl _, Nat.le_refl _⟩) hh (fun H locs hh => ?_)
  refine lv_aload_n hx hb dX6_keep_39 rfl (lv_at hl 1 rfl) ?_
  refine z_get (v := .ref (g.2.2 39)) hx hb hts (fun w h => List.mem_cons_of_mem _ (List.mem_append_left _ (List.mem_append_right _ (h)))) hown E hh (by decide) (zC_obj (q := 54) rfl) rfl 6 (by decide) (hts (.fieldLink RX6 48 "TownBand" "kept" "[Z") (List.mem_cons_of_mem _ (List.mem_append_left _ (List.mem_append_left _ (List.mem_append_left _ (List.mem_of_getElem? (i := 0) rfl)))))) rfl dX6_keep_40 ?_
  refine lv_iload_n hx hb dX6_keep_43 rfl (lv_at hl 2 rfl) ?_
  refine lv_iconst (v := (nI 1)) hx hb dX6_keep_44 (by decide) ?_
  obtain ⟨h_v3, hf⟩ := z_if hf
  obtain ⟨σ4, e_σ4, hf⟩ := z_lt hf
  refine z_zast hx hb E hh h_v3 e_σ4 dX6_keep_45 (fun H locs hh => ?_)
  refine lv_iload_n hx hb dX6_keep_46 rfl (lv_at hl 0 rfl) ?_
  have hf := Option.some.inj hf
  subst hf
  exact z_iretX hx hb hr hlocks hh dX6_keep_47
def fX6_keep (N : Nat) (σ : zS) (x1 : Int32) : Option (Int32 × zS) :=
  (fX6_within N x1 (nI 0) (nI 1)).bind fun q1 =>
  if q1 = 0 then
    some ((-1), σ)
  else
    if zin x1 2 then
    zlet (σ.2 39 x1.toNatClampNeg) fun v4 =>
    if v4 = 0 then
      (fX6_keep_25 N) x1 (nI 0) σ
    else
      (fX6_keep_25 N) x1 (nI 1) σ
    else none
set_option maxRecDepth 100000 in
set_option maxHeartbeats 4000000 in
theorem zcX6_keep (l : Launch) (g : zG) (A : Nat → Prop) (σ τ : zS) (N : Nat) (x1 : Int32)  {res : Int32 × zS} (hf : fX6_keep N σ x1 = some res) : Met l yX6_keep wsX6_keep (zR 2) (zPc g A σ τ [.ref (g.2.2 54), .int x1]) (zQi g A τ res) 0 0 A := by
  refine z_met (cc := cX6_keep) (ret := (some .int)) (own := RX6) (by decide) rfl rfl _ (Nat.le_of_ble_eq_true rfl) ?_
  intro p e s m below meth c C E ls hl hh
  have hl : lv_has ls 3 [(0, .ref (g.2.2 54)), (1, .int x1)] := hl
  obtain ⟨hx, hb, hr, hml, hown, hts, hlocks⟩ := id C
  unfold fX6_keep at hf
  refine lv_iload_n hx hb dX6_keep_0 rfl (lv_at hl 1 rfl) ?_
  refine lv_iconst (v := (nI 0)) hx hb dX6_keep_1 (by decide) ?_
  refine lv_iconst (v := (nI 1)) hx hb dX6_keep_2 (by decide) ?_
  obtain ⟨q1, h_q1, hf⟩ := z_bd hf
  refine z_xi (va_runS (As := [.int x1, .int (nI 0), .int (nI 1)]) (rest := []) ⟨hx, hb, hml, hown, hts⟩ (zcX6_within l g A σ τ N x1 (nI 0) (nI 1) h_q1) (va_cwS 3 hts gX6_keep_X6_within rfl rfl rfl hdX6_within.2 ⟨by decide, by decide⟩) (z_preS E hh) rfl rfl hl.1 rfl (lv_room (Nat.le_of_ble_eq_true rfl)) dX6_keep_3 ⟨Nat.le_refl _, Nat.le_refl _⟩) hh (fun H locs hh => ?_)
  refine lv_if_ne (tgt := 11) hx hb dX6_keep_6 (by decide) (fun c_v2 => ?_) (fun c_v2 => ?_)
  · have hf := z_in hf c_v2
    refine lv_aload_n hx hb dX6_keep_11 rfl (lv_at hl 0 rfl) ?_
    refine z_get (v := .ref (g.2.2 39)) hx hb hts (fun w h => List.mem_cons_of_mem _ (List.mem_append_left _ (List.mem_append_right _ (h)))) hown E hh (by decide) (zC_obj (q := 54) rfl) rfl 6 (by decide) (hts (.fieldLink RX6 48 "TownBand" "kept" "[Z") (List.mem_cons_of_mem _ (List.mem_append_left _ (List.mem_append_left _ (List.mem_append_left _ (List.mem_of_getElem? (i := 0) rfl)))))) rfl dX6_keep_12 ?_
    refine lv_iload_n hx hb dX6_keep_15 rfl (lv_at hl 1 rfl) ?_
    obtain ⟨h_v3, hf⟩ := z_if hf
    obtain ⟨v4, e_v4, hf⟩ := z_lt hf
    refine z_zald hx hb E hh h_v3 e_v4 dX6_keep_16 ?_
    refine lv_if_eq (tgt := 24) hx hb dX6_keep_17 (by decide) (fun c_v5 => ?_) (fun c_v5 => ?_)
    · have hf := z_ip hf c_v5
      refine lv_iconst (v := (nI 0)) hx hb dX6_keep_24 (by decide) ?_
      exact (hX6_keep_25 C E N) x1 (nI 0) σ _ _ _ hf hh (lv_sub hl [0, 1] rfl)
    · have hf := z_in hf c_v5
      refine lv_iconst (v := (nI 1)) hx hb dX6_keep_20 (by decide) ?_
      refine lv_goto (tgt := 25) hx hb dX6_keep_21 (by decide) ?_
      exact (hX6_keep_25 C E N) x1 (nI 1) σ _ _ _ hf hh (lv_sub hl [0, 1] rfl)
  · have hf := z_ip hf c_v2
    refine lv_iconst (v := (-1)) hx hb dX6_keep_9 (by decide) ?_
    have hf := Option.some.inj hf
    subst hf
    exact z_iretX hx hb hr hlocks hh dX6_keep_10
/-! ===== X6_back ===== -/
theorem hdX6_back : yX6_back.cls = RX6 ∧ yX6_back.cls ≠ "java/lang/invoke/MethodHandle" ∧ yX6_back.cls ≠ "java/lang/invoke/VarHandle" ∧ (parseMethodDescriptor yX6_back.desc).map (fun d => d.parameters.length) = some 1 := by decide +kernel
def fX6_back (N : Nat) (σ : zS) (x1 : Int32) : Option (Int32 × zS) :=
  (fX6_within N x1 (nI 0) (nI 1)).bind fun q1 =>
  if q1 = 0 then
    some ((-1), σ)
  else
    if zin x1 2 then
    zlet (σ.2 39 x1.toNatClampNeg) fun v4 =>
    if v4 = 0 then
      some ((-2), σ)
    else
      if zin x1 2 then
      (fX0_copyFrom N σ 42 (44 + x1.toNatClampNeg)).bind fun q7 =>
      some ((q7.1 42 8), q7)
      else none
    else none
set_option maxRecDepth 100000 in
set_option maxHeartbeats 4000000 in
theorem zcX6_back (l : Launch) (g : zG) (A : Nat → Prop) (σ τ : zS) (N : Nat) (x1 : Int32)  {res : Int32 × zS} (hf : fX6_back N σ x1 = some res) : Met l yX6_back wsX6_back (zR 2) (zPc g A σ τ [.ref (g.2.2 54), .int x1]) (zQi g A τ res) 0 0 A := by
  refine z_met (cc := cX6_back) (ret := (some .int)) (own := RX6) (by decide) rfl rfl _ (Nat.le_of_ble_eq_true rfl) ?_
  intro p e s m below meth c C E ls hl hh
  have hl : lv_has ls 2 [(0, .ref (g.2.2 54)), (1, .int x1)] := hl
  obtain ⟨hx, hb, hr, hml, hown, hts, hlocks⟩ := id C
  unfold fX6_back at hf
  refine lv_iload_n hx hb dX6_back_0 rfl (lv_at hl 1 rfl) ?_
  refine lv_iconst (v := (nI 0)) hx hb dX6_back_1 (by decide) ?_
  refine lv_iconst (v := (nI 1)) hx hb dX6_back_2 (by decide) ?_
  obtain ⟨q1, h_q1, hf⟩ := z_bd hf
  refine z_xi (va_runS (As := [.int x1, .int (nI 0), .int (nI 1)]) (rest := []) ⟨hx, hb, hml, hown, hts⟩ (zcX6_within l g A σ τ N x1 (nI 0) (nI 1) h_q1) (va_cwS 3 hts gX6_back_X6_within rfl rfl rfl hdX6_within.2 ⟨by decide, by decide⟩) (z_preS E hh) rfl rfl hl.1 rfl (lv_room (Nat.le_of_ble_eq_true rfl)) dX6_back_3 ⟨Nat.le_refl _, Nat.le_refl _⟩) hh (fun H locs hh => ?_)
  refine lv_if_ne (tgt := 11) hx hb dX6_back_6 (by decide) (fun c_v2 => ?_) (fun c_v2 => ?_)
  · have hf := z_in hf c_v2
    refine lv_aload_n hx hb dX6_back_11 rfl (lv_at hl 0 rfl) ?_
    refine z_get (v := .ref (g.2.2 39)) hx hb hts (fun w h => List.mem_cons_of_mem _ (List.mem_append_left _ (List.mem_append_right _ (h)))) hown E hh (by decide) (zC_obj (q := 54) rfl) rfl 6 (by decide) (hts (.fieldLink RX6 48 "TownBand" "kept" "[Z") (List.mem_cons_of_mem _ (List.mem_append_left _ (List.mem_append_left _ (List.mem_append_left _ (List.mem_of_getElem? (i := 0) rfl)))))) rfl dX6_back_12 ?_
    refine lv_iload_n hx hb dX6_back_15 rfl (lv_at hl 1 rfl) ?_
    obtain ⟨h_v3, hf⟩ := z_if hf
    obtain ⟨v4, e_v4, hf⟩ := z_lt hf
    refine z_zald hx hb E hh h_v3 e_v4 dX6_back_16 ?_
    refine lv_if_ne (tgt := 23) hx hb dX6_back_17 (by decide) (fun c_v5 => ?_) (fun c_v5 => ?_)
    · have hf := z_in hf c_v5
      refine lv_aload_n hx hb dX6_back_23 rfl (lv_at hl 0 rfl) ?_
      refine z_get (v := .ref (g.2.2 42)) hx hb hts (fun w h => List.mem_cons_of_mem _ (List.mem_append_left _ (List.mem_append_right _ (h)))) hown E hh (by decide) (zC_obj (q := 54) rfl) rfl 0 (by decide) (hts (.fieldLink RX6 10 "TownBand" "band" "LTownBand$Band;") (List.mem_cons_of_mem _ (List.mem_append_left _ (List.mem_append_left _ (List.mem_append_left _ (List.mem_of_getElem? (i := 1) rfl)))))) rfl dX6_back_24 ?_
      refine lv_aload_n hx hb dX6_back_27 rfl (lv_at hl 0 rfl) ?_
      refine z_get (v := .ref (g.2.2 40)) hx hb hts (fun w h => List.mem_cons_of_mem _ (List.mem_append_left _ (List.mem_append_right _ (h)))) hown E hh (by decide) (zC_obj (q := 54) rfl) rfl 5 (by decide) (hts (.fieldLink RX6 44 "TownBand" "images" "[LTownBand$Band;") (List.mem_cons_of_mem _ (List.mem_append_left _ (List.mem_append_left _ (List.mem_append_left _ (List.mem_of_getElem? (i := 2) rfl)))))) rfl dX6_back_28 ?_
      refine lv_iload_n hx hb dX6_back_31 rfl (lv_at hl 1 rfl) ?_
      obtain ⟨h_v6, hf⟩ := z_if hf
      refine z_aldB hx hb E hh h_v6 dX6_back_32 ?_
      obtain ⟨q7, h_q7, hf⟩ := z_bd hf
      refine z_xv (va_runVN (As := [.ref (g.2.2 (44 + x1.toNatClampNeg))]) (rest := []) ⟨hx, hb, hml, hown, hts⟩ (zcX0_copyFrom l g A σ τ N 42 (44 + x1.toNatClampNeg) (by decide) (by decide) (by omega) (by have := z_inl h_v6; omega) h_q7) ⟨va_cnB 1 hts gX6_back_X0_copyFrom_n87 rfl rfl rfl (zE_m E 14 rfl) (hts (.initialized RX0) (List.mem_cons_of_mem _ (List.mem_append_left _ (List.mem_append_left _ (List.mem_append_left _ (List.mem_of_getElem? (i := 8) rfl)))))) hdX0_copyFrom.2 ⟨by decide, by decide⟩, (hts (.instanceMethod yX0_copyFrom) (List.mem_cons_of_mem _ (List.mem_append_left _ (List.mem_append_left _ (List.mem_append_left _ (List.mem_of_getElem? (i := 7) rfl)))))), (hts (.selects RX0 yX0_copyFrom yX0_copyFrom) (List.mem_cons_of_mem _ (List.mem_append_left _ (List.mem_append_left _ (List.mem_append_left _ (List.mem_of_getElem? (i := 9) rfl))))))⟩ (z_preV E hh (by decide) (zC_band (by decide) (by decide)) rfl) rfl rfl hl.1 rfl (lv_room (Nat.le_of_ble_eq_true rfl)) dX6_back_33 ⟨Nat.le_refl _, Nat.le_refl _⟩) hh (fun H locs hh => ?_)
      refine lv_aload_n hx hb dX6_back_36 rfl (lv_at hl 0 rfl) ?_
      refine z_get (v := .ref (g.2.2 42)) hx hb hts (fun w h => List.mem_cons_of_mem _ (List.mem_append_left _ (List.mem_append_right _ (h)))) hown E hh (by decide) (zC_obj (q := 54) rfl) rfl 0 (by decide) (hts (.fieldLink RX6 10 "TownBand" "band" "LTownBand$Band;") (List.mem_cons_of_mem _ (List.mem_append_left _ (List.mem_append_left _ (List.mem_append_left _ (List.mem_of_getElem? (i := 1) rfl)))))) rfl dX6_back_37 ?_
      refine z_getN (v := .int (q7.1 42 8)) hx hb hts (fun w h => List.mem_cons_of_mem _ (List.mem_append_right _ (h))) hown E hh (by decide) (zC_band (by decide) (by decide)) rfl 8 (by decide) (zE_f E 21 rfl) rfl dX6_back_40 ?_
      have hf := Option.some.inj hf
      subst hf
      exact z_iretX hx hb hr hlocks hh dX6_back_43
    · have hf := z_ip hf c_v5
      refine lv_bipush (v := (-2)) hx hb dX6_back_20 (by decide) ?_
      have hf := Option.some.inj hf
      subst hf
      exact z_iretX hx hb hr hlocks hh dX6_back_22
  · have hf := z_ip hf c_v2
    refine lv_iconst (v := (-1)) hx hb dX6_back_9 (by decide) ?_
    have hf := Option.some.inj hf
    subst hf
    exact z_iretX hx hb hr hlocks hh dX6_back_10
/-! ===== X6_sheet ===== -/
theorem hdX6_sheet : yX6_sheet.cls = RX6 ∧ yX6_sheet.cls ≠ "java/lang/invoke/MethodHandle" ∧ yX6_sheet.cls ≠ "java/lang/invoke/VarHandle" ∧ (parseMethodDescriptor yX6_sheet.desc).map (fun d => d.parameters.length) = some 3 := by decide +kernel
def fX6_sheet (N : Nat) (σ : zS) (x1 : Int32) (x2 : Int32) (x3 : Int32) : Option (Int32 × zS) :=
  (fX6_within N x1 (nI 0) (nI 3)).bind fun q1 =>
  if q1 = 0 then
    some ((-1), σ)
  else
    (fX6_within N x2 (nI 0) (nI 2)).bind fun q3 =>
    if q3 = 0 then
      some ((-1), σ)
    else
      if x3 ≤ (nI 40) then
        if 0 ≤ x3 then
          if zin x1 4 then
          (fX3_renew N σ (46 + x1.toNatClampNeg) x2 x3).bind fun q8 =>
          some ((nI 1), q8)
          else none
        else
          some ((-14), σ)
      else
        some ((-1), σ)
set_option maxRecDepth 100000 in
set_option maxHeartbeats 4000000 in
theorem zcX6_sheet (l : Launch) (g : zG) (A : Nat → Prop) (σ τ : zS) (N : Nat) (x1 : Int32) (x2 : Int32) (x3 : Int32)  {res : Int32 × zS} (hf : fX6_sheet N σ x1 x2 x3 = some res) : Met l yX6_sheet wsX6_sheet (zR 1) (zPc g A σ τ [.ref (g.2.2 54), .int x1, .int x2, .int x3]) (zQi g A τ res) 0 0 A := by
  refine z_met (cc := cX6_sheet) (ret := (some .int)) (own := RX6) (by decide) rfl rfl _ (Nat.le_of_ble_eq_true rfl) ?_
  intro p e s m below meth c C E ls hl hh
  have hl : lv_has ls 4 [(0, .ref (g.2.2 54)), (1, .int x1), (2, .int x2), (3, .int x3)] := hl
  obtain ⟨hx, hb, hr, hml, hown, hts, hlocks⟩ := id C
  unfold fX6_sheet at hf
  refine lv_iload_n hx hb dX6_sheet_0 rfl (lv_at hl 1 rfl) ?_
  refine lv_iconst (v := (nI 0)) hx hb dX6_sheet_1 (by decide) ?_
  refine lv_iconst (v := (nI 3)) hx hb dX6_sheet_2 (by decide) ?_
  obtain ⟨q1, h_q1, hf⟩ := z_bd hf
  refine z_xi (va_runS (As := [.int x1, .int (nI 0), .int (nI 3)]) (rest := []) ⟨hx, hb, hml, hown, hts⟩ (zcX6_within l g A σ τ N x1 (nI 0) (nI 3) h_q1) (va_cwS 3 hts gX6_sheet_X6_within rfl rfl rfl hdX6_within.2 ⟨by decide, by decide⟩) (z_preS E hh) rfl rfl hl.1 rfl (lv_room (Nat.le_of_ble_eq_true rfl)) dX6_sheet_3 ⟨Nat.le_refl _, Nat.le_refl _⟩) hh (fun H locs hh => ?_)
  refine lv_if_eq (tgt := 24) hx hb dX6_sheet_6 (by decide) (fun c_v2 => ?_) (fun c_v2 => ?_)
  · have hf := z_ip hf c_v2
    refine lv_iconst (v := (-1)) hx hb dX6_sheet_24 (by decide) ?_
    have hf := Option.some.inj hf
    subst hf
    exact z_iretX hx hb hr hlocks hh dX6_sheet_25
  · have hf := z_in hf c_v2
    refine lv_iload_n hx hb dX6_sheet_9 rfl (lv_at hl 2 rfl) ?_
    refine lv_iconst (v := (nI 0)) hx hb dX6_sheet_10 (by decide) ?_
    refine lv_iconst (v := (nI 2)) hx hb dX6_sheet_11 (by decide) ?_
    obtain ⟨q3, h_q3, hf⟩ := z_bd hf
    refine z_xi (va_runS (As := [.int x2, .int (nI 0), .int (nI 2)]) (rest := []) ⟨hx, hb, hml, hown, hts⟩ (zcX6_within l g A σ τ N x2 (nI 0) (nI 2) h_q3) (va_cwS 3 hts gX6_sheet_X6_within rfl rfl rfl hdX6_within.2 ⟨by decide, by decide⟩) (z_preS E hh) rfl rfl hl.1 rfl (lv_room (Nat.le_of_ble_eq_true rfl)) dX6_sheet_12 ⟨Nat.le_refl _, Nat.le_refl _⟩) hh (fun H locs hh => ?_)
    refine lv_if_eq (tgt := 24) hx hb dX6_sheet_15 (by decide) (fun c_v4 => ?_) (fun c_v4 => ?_)
    · have hf := z_ip hf c_v4
      refine lv_iconst (v := (-1)) hx hb dX6_sheet_24 (by decide) ?_
      have hf := Option.some.inj hf
      subst hf
      exact z_iretX hx hb hr hlocks hh dX6_sheet_25
    · have hf := z_in hf c_v4
      refine lv_iload_n hx hb dX6_sheet_18 rfl (lv_at hl 3 rfl) ?_
      refine lv_bipush (v := (nI 40)) hx hb dX6_sheet_19 (by decide) ?_
      refine lv_icmp_le (tgt := 26) hx hb dX6_sheet_21 (by decide) (fun c_v5 => ?_) (fun c_v5 => ?_)
      · have hf := z_ip hf c_v5
        refine lv_iload_n hx hb dX6_sheet_26 rfl (lv_at hl 3 rfl) ?_
        refine lv_if_ge (tgt := 33) hx hb dX6_sheet_27 (by decide) (fun c_v6 => ?_) (fun c_v6 => ?_)
        · have hf := z_ip hf c_v6
          refine lv_aload_n hx hb dX6_sheet_33 rfl (lv_at hl 0 rfl) ?_
          refine z_get (v := .ref (g.2.2 41)) hx hb hts (fun w h => List.mem_cons_of_mem _ (List.mem_append_left _ (List.mem_append_right _ (h)))) hown E hh (by decide) (zC_obj (q := 54) rfl) rfl 7 (by decide) (hts (.fieldLink RX6 54 "TownBand" "sheets" "[LTownBand$Sheet;") (List.mem_cons_of_mem _ (List.mem_append_left _ (List.mem_append_left _ (List.mem_of_getElem? (i := 0) rfl))))) rfl dX6_sheet_34 ?_
          refine lv_iload_n hx hb dX6_sheet_37 rfl (lv_at hl 1 rfl) ?_
          obtain ⟨h_v7, hf⟩ := z_if hf
          refine z_aldS hx hb E hh h_v7 dX6_sheet_38 ?_
          refine lv_iload_n hx hb dX6_sheet_39 rfl (lv_at hl 2 rfl) ?_
          refine lv_iload_n hx hb dX6_sheet_40 rfl (lv_at hl 3 rfl) ?_
          obtain ⟨q8, h_q8, hf⟩ := z_bd hf
          refine z_xv (va_runVN (As := [.int x2, .int x3]) (rest := []) ⟨hx, hb, hml, hown, hts⟩ (zcX3_renew l g A σ τ N (46 + x1.toNatClampNeg) x2 x3 (by omega) (by have := z_inl h_v7; omega) h_q8) ⟨va_cnB 2 hts gX6_sheet_X3_renew_n275 rfl rfl rfl (zE_m E 41 rfl) (hts (.initialized RX3) (List.mem_cons_of_mem _ (List.mem_append_left _ (List.mem_append_left _ (List.mem_of_getElem? (i := 6) rfl))))) hdX3_renew.2 ⟨by decide, by decide⟩, (hts (.instanceMethod yX3_renew) (List.mem_cons_of_mem _ (List.mem_append_left _ (List.mem_append_left _ (List.mem_of_getElem? (i := 5) rfl))))), (hts (.selects RX3 yX3_renew yX3_renew) (List.mem_cons_of_mem _ (List.mem_append_left _ (List.mem_append_left _ (List.mem_of_getElem? (i := 7) rfl)))))⟩ (z_preV E hh (Nat.lt_trans (m := 50) (by have := z_inl h_v7; omega) (by decide)) (zC_sheet (by omega) (by have := z_inl h_v7; omega)) rfl) rfl rfl hl.1 rfl (lv_room (Nat.le_of_ble_eq_true rfl)) dX6_sheet_41 ⟨Nat.le_refl _, Nat.le_refl _⟩) hh (fun H locs hh => ?_)
          refine lv_iconst (v := (nI 1)) hx hb dX6_sheet_44 (by decide) ?_
          have hf := Option.some.inj hf
          subst hf
          exact z_iretX hx hb hr hlocks hh dX6_sheet_45
        · have hf := z_in hf c_v6
          refine lv_bipush (v := (-14)) hx hb dX6_sheet_30 (by decide) ?_
          have hf := Option.some.inj hf
          subst hf
          exact z_iretX hx hb hr hlocks hh dX6_sheet_32
      · have hf := z_in hf c_v5
        refine lv_iconst (v := (-1)) hx hb dX6_sheet_24 (by decide) ?_
        have hf := Option.some.inj hf
        subst hf
        exact z_iretX hx hb hr hlocks hh dX6_sheet_25
/-! ===== X6_lay ===== -/
theorem hdX6_lay : yX6_lay.cls = RX6 ∧ yX6_lay.cls ≠ "java/lang/invoke/MethodHandle" ∧ yX6_lay.cls ≠ "java/lang/invoke/VarHandle" ∧ (parseMethodDescriptor yX6_lay.desc).map (fun d => d.parameters.length) = some 3 := by decide +kernel
def fX6_lay (N : Nat) (σ : zS) (x1 : Int32) (x2 : Int32) (x3 : Int32) : Option (Int32 × zS) :=
  (fX6_within N x1 (nI 0) (nI 3)).bind fun q1 =>
  if q1 = 0 then
    some ((-1), σ)
  else
    if zin x1 4 then
    (fX3_faultAt N σ (46 + x1.toNatClampNeg) x2).bind fun q4 =>
    if q4 = 0 then
      if zin x1 4 then
      (fX3_put N σ (46 + x1.toNatClampNeg) x2 x3).bind fun q7 =>
      some ((nI 1), q7)
      else none
    else
      some (((-10) - q4), σ)
    else none
set_option maxRecDepth 100000 in
set_option maxHeartbeats 4000000 in
theorem zcX6_lay (l : Launch) (g : zG) (A : Nat → Prop) (σ τ : zS) (N : Nat) (x1 : Int32) (x2 : Int32) (x3 : Int32)  {res : Int32 × zS} (hf : fX6_lay N σ x1 x2 x3 = some res) : Met l yX6_lay wsX6_lay (zR 2) (zPc g A σ τ [.ref (g.2.2 54), .int x1, .int x2, .int x3]) (zQi g A τ res) 0 0 A := by
  refine z_met (cc := cX6_lay) (ret := (some .int)) (own := RX6) (by decide) rfl rfl _ (Nat.le_of_ble_eq_true rfl) ?_
  intro p e s m below meth c C E ls hl hh
  have hl : lv_has ls 5 [(0, .ref (g.2.2 54)), (1, .int x1), (2, .int x2), (3, .int x3)] := hl
  obtain ⟨hx, hb, hr, hml, hown, hts, hlocks⟩ := id C
  unfold fX6_lay at hf
  refine lv_iload_n hx hb dX6_lay_0 rfl (lv_at hl 1 rfl) ?_
  refine lv_iconst (v := (nI 0)) hx hb dX6_lay_1 (by decide) ?_
  refine lv_iconst (v := (nI 3)) hx hb dX6_lay_2 (by decide) ?_
  obtain ⟨q1, h_q1, hf⟩ := z_bd hf
  refine z_xi (va_runS (As := [.int x1, .int (nI 0), .int (nI 3)]) (rest := []) ⟨hx, hb, hml, hown, hts⟩ (zcX6_within l g A σ τ N x1 (nI 0) (nI 3) h_q1) (va_cwS 3 hts gX6_lay_X6_within rfl rfl rfl hdX6_within.2 ⟨by decide, by decide⟩) (z_preS E hh) rfl rfl hl.1 rfl (lv_room (Nat.le_of_ble_eq_true rfl)) dX6_lay_3 ⟨Nat.le_refl _, Nat.le_refl _⟩) hh (fun H locs hh => ?_)
  refine lv_if_ne (tgt := 11) hx hb dX6_lay_6 (by decide) (fun c_v2 => ?_) (fun c_v2 => ?_)
  · have hf := z_in hf c_v2
    refine lv_aload_n hx hb dX6_lay_11 rfl (lv_at hl 0 rfl) ?_
    refine z_get (v := .ref (g.2.2 41)) hx hb hts (fun w h => List.mem_cons_of_mem _ (List.mem_append_left _ (List.mem_append_right _ (h)))) hown E hh (by decide) (zC_obj (q := 54) rfl) rfl 7 (by decide) (hts (.fieldLink RX6 54 "TownBand" "sheets" "[LTownBand$Sheet;") (List.mem_cons_of_mem _ (List.mem_append_left _ (List.mem_append_left _ (List.mem_of_getElem? (i := 0) rfl))))) rfl dX6_lay_12 ?_
    refine lv_iload_n hx hb dX6_lay_15 rfl (lv_at hl 1 rfl) ?_
    obtain ⟨h_v3, hf⟩ := z_if hf
    refine z_aldS hx hb E hh h_v3 dX6_lay_16 ?_
    refine lv_iload_n hx hb dX6_lay_17 rfl (lv_at hl 2 rfl) ?_
    obtain ⟨q4, h_q4, hf⟩ := z_bd hf
    refine z_xi (va_runVN (As := [.int x2]) (rest := []) ⟨hx, hb, hml, hown, hts⟩ (zcX3_faultAt l g A σ τ N (46 + x1.toNatClampNeg) x2 (by omega) (by have := z_inl h_v3; omega) h_q4) ⟨va_cnB 1 hts gX6_lay_X3_faultAt_n279 rfl rfl rfl (zE_m E 42 rfl) (hts (.initialized RX3) (List.mem_cons_of_mem _ (List.mem_append_left _ (List.mem_append_left _ (List.mem_of_getElem? (i := 6) rfl))))) hdX3_faultAt.2 ⟨by decide, by decide⟩, (hts (.instanceMethod yX3_faultAt) (List.mem_cons_of_mem _ (List.mem_append_left _ (List.mem_append_left _ (List.mem_of_getElem? (i := 5) rfl))))), (hts (.selects RX3 yX3_faultAt yX3_faultAt) (List.mem_cons_of_mem _ (List.mem_append_left _ (List.mem_append_left _ (List.mem_of_getElem? (i := 7) rfl)))))⟩ (z_preV E hh (Nat.lt_trans (m := 50) (by have := z_inl h_v3; omega) (by decide)) (zC_sheet (by omega) (by have := z_inl h_v3; omega)) rfl) rfl rfl hl.1 rfl (lv_room (Nat.le_of_ble_eq_true rfl)) dX6_lay_18 ⟨Nat.le_refl _, Nat.le_refl _⟩) hh (fun H locs hh => ?_)
    refine lv_istore (lv' := [(4, .int q4), (0, .ref (g.2.2 54)), (1, .int x1), (2, .int x2), (3, .int x3)]) hx hb dX6_lay_21 hl (by decide) rfl (fun ls hl => ?_)
    refine lv_iload hx hb dX6_lay_23 (lv_at hl 0 rfl) ?_
    refine lv_if_eq (tgt := 34) hx hb dX6_lay_25 (by decide) (fun c_v5 => ?_) (fun c_v5 => ?_)
    · have hf := z_ip hf c_v5
      refine lv_aload_n hx hb dX6_lay_34 rfl (lv_at hl 1 rfl) ?_
      refine z_get (v := .ref (g.2.2 41)) hx hb hts (fun w h => List.mem_cons_of_mem _ (List.mem_append_left _ (List.mem_append_right _ (h)))) hown E hh (by decide) (zC_obj (q := 54) rfl) rfl 7 (by decide) (hts (.fieldLink RX6 54 "TownBand" "sheets" "[LTownBand$Sheet;") (List.mem_cons_of_mem _ (List.mem_append_left _ (List.mem_append_left _ (List.mem_of_getElem? (i := 0) rfl))))) rfl dX6_lay_35 ?_
      refine lv_iload_n hx hb dX6_lay_38 rfl (lv_at hl 2 rfl) ?_
      obtain ⟨h_v6, hf⟩ := z_if hf
      refine z_aldS hx hb E hh h_v6 dX6_lay_39 ?_
      refine lv_iload_n hx hb dX6_lay_40 rfl (lv_at hl 3 rfl) ?_
      refine lv_iload_n hx hb dX6_lay_41 rfl (lv_at hl 4 rfl) ?_
      obtain ⟨q7, h_q7, hf⟩ := z_bd hf
      refine z_xv (va_runVN (As := [.int x2, .int x3]) (rest := []) ⟨hx, hb, hml, hown, hts⟩ (zcX3_put l g A σ τ N (46 + x1.toNatClampNeg) x2 x3 (by omega) (by have := z_inl h_v6; omega) h_q7) ⟨va_cnB 2 hts gX6_lay_X3_put_n282 rfl rfl rfl (zE_m E 44 rfl) (hts (.initialized RX3) (List.mem_cons_of_mem _ (List.mem_append_left _ (List.mem_append_left _ (List.mem_of_getElem? (i := 6) rfl))))) hdX3_put.2 ⟨by decide, by decide⟩, (hts (.instanceMethod yX3_put) (List.mem_cons_of_mem _ (List.mem_append_left _ (List.mem_append_left _ (List.mem_of_getElem? (i := 11) rfl))))), (hts (.selects RX3 yX3_put yX3_put) (List.mem_cons_of_mem _ (List.mem_append_left _ (List.mem_append_left _ (List.mem_of_getElem? (i := 12) rfl)))))⟩ (z_preV E hh (Nat.lt_trans (m := 50) (by have := z_inl h_v6; omega) (by decide)) (zC_sheet (by omega) (by have := z_inl h_v6; omega)) rfl) rfl rfl hl.1 rfl (lv_room (Nat.le_of_ble_eq_true rfl)) dX6_lay_42 ⟨Nat.le_refl _, Nat.le_refl _⟩) hh (fun H locs hh => ?_)
      refine lv_iconst (v := (nI 1)) hx hb dX6_lay_45 (by decide) ?_
      have hf := Option.some.inj hf
      subst hf
      exact z_iretX hx hb hr hlocks hh dX6_lay_46
    · have hf := z_in hf c_v5
      refine lv_bipush (v := (-10)) hx hb dX6_lay_28 (by decide) ?_
      refine lv_iload hx hb dX6_lay_30 (lv_at hl 0 rfl) ?_
      refine lv_isub hx hb dX6_lay_32 ?_
      have hf := Option.some.inj hf
      subst hf
      exact z_iretX hx hb hr hlocks hh dX6_lay_33
  · have hf := z_ip hf c_v2
    refine lv_iconst (v := (-1)) hx hb dX6_lay_9 (by decide) ?_
    have hf := Option.some.inj hf
    subst hf
    exact z_iretX hx hb hr hlocks hh dX6_lay_10
/-! ===== X6_read ===== -/
theorem hdX6_read : yX6_read.cls = RX6 ∧ yX6_read.cls ≠ "java/lang/invoke/MethodHandle" ∧ yX6_read.cls ≠ "java/lang/invoke/VarHandle" ∧ (parseMethodDescriptor yX6_read.desc).map (fun d => d.parameters.length) = some 4 := by decide +kernel
def PX6_read_127 (p : Program) (l : Launch) (e : Env) (s : State) (m : MethodId) (args : Array Value) (below : List Frame) (meth : Method) (c : Code) (g : zG) (A : Nat → Prop) (τ : zS) (res : Int32 × zS) (f : Int32 → Int32 → zS → Option (Int32 × zS)) : Prop := ∀ (x7 : Int32) (x8 : Int32) (σ : zS) (H : Heap) (locs : List Loc) (ls : Array Slot), f x7 x8 σ = some res → zW g A σ τ s H locs → lv_has ls 10 [(0, .ref (g.2.2 54)), (7, .int x7), (8, .int x8)] → W p l e (zR 5) s m args below meth c H locs 0 0 (MQ below (zQi g A τ res) args s 0 0 A) (F0 m 127 ls [])
def PX6_read_121 (p : Program) (l : Launch) (e : Env) (s : State) (m : MethodId) (args : Array Value) (below : List Frame) (meth : Method) (c : Code) (g : zG) (A : Nat → Prop) (τ : zS) (res : Int32 × zS) (f : Int32 → Int32 → Int32 → Nat → Int32 → Int32 → Int32 → Int32 → zS → Option (Int32 × zS)) : Prop := ∀ (x2 : Int32) (x3 : Int32) (x4 : Int32) (b5 : Nat) (x6 : Int32) (x7 : Int32) (x8 : Int32) (x9 : Int32) (h1_b5 : 46 ≤ b5) (h2_b5 : b5 < 50) (σ : zS) (H : Heap) (locs : List Loc) (ls : Array Slot), f x2 x3 x4 b5 x6 x7 x8 x9 σ = some res → zW g A σ τ s H locs → lv_has ls 10 [(0, .ref (g.2.2 54)), (2, .int x2), (3, .int x3), (4, .int x4), (5, .ref (g.2.2 b5)), (6, .int x6), (7, .int x7), (8, .int x8), (9, .int x9)] → W p l e (zR 5) s m args below meth c H locs 0 0 (MQ below (zQi g A τ res) args s 0 0 A) (F0 m 121 ls [])
def PX6_read_103 (p : Program) (l : Launch) (e : Env) (s : State) (m : MethodId) (args : Array Value) (below : List Frame) (meth : Method) (c : Code) (g : zG) (A : Nat → Prop) (τ : zS) (res : Int32 × zS) (f : Int32 → Int32 → zS → Option (Int32 × zS)) : Prop := ∀ (x6 : Int32) (x9 : Int32) (σ : zS) (H : Heap) (locs : List Loc) (ls : Array Slot), f x6 x9 σ = some res → zW g A σ τ s H locs → lv_has ls 10 [(0, .ref (g.2.2 54)), (6, .int x6), (9, .int x9)] → W p l e (zR 5) s m args below meth c H locs 0 0 (MQ below (zQi g A τ res) args s 0 0 A) (F0 m 103 ls [])
def PX6_read_57 (p : Program) (l : Launch) (e : Env) (s : State) (m : MethodId) (args : Array Value) (below : List Frame) (meth : Method) (c : Code) (g : zG) (A : Nat → Prop) (τ : zS) (res : Int32 × zS) (f : Int32 → Int32 → Int32 → Nat → Int32 → Int32 → Int32 → Int32 → zS → Option (Int32 × zS)) : Prop := ∀ (x2 : Int32) (x3 : Int32) (x4 : Int32) (b5 : Nat) (x6 : Int32) (x7 : Int32) (x8 : Int32) (x9 : Int32) (h1_b5 : 46 ≤ b5) (h2_b5 : b5 < 50) (σ : zS) (H : Heap) (locs : List Loc) (ls : Array Slot), f x2 x3 x4 b5 x6 x7 x8 x9 σ = some res → zW g A σ τ s H locs → lv_has ls 10 [(0, .ref (g.2.2 54)), (2, .int x2), (3, .int x3), (4, .int x4), (5, .ref (g.2.2 b5)), (6, .int x6), (7, .int x7), (8, .int x8), (9, .int x9)] → W p l e (zR 5) s m args below meth c H locs 0 0 (MQ below (zQi g A τ res) args s 0 0 A) (F0 m 57 ls [])
def fX6_read_127 (N : Nat) (x7 : Int32) (x8 : Int32) (σ : zS) : Option (Int32 × zS) :=
  zlet (zpf σ 54 9 x7) fun σ1 =>
  some (x8, σ1)
set_option maxRecDepth 100000 in
set_option maxHeartbeats 4000000 in
theorem hX6_read_127 {p : Program} {l : Launch} {e : Env} {s : State} {m : MethodId} {args : Array Value} {below : List Frame} {meth : Method} {c : Code} {g : zG} {A : Nat → Prop} {τ : zS} {res : Int32 × zS} (C : zCx p s m args meth c cX6_read (some .int) wsX6_read RX6 10) (E : zE g A s) (N : Nat) : PX6_read_127 p l e s m args below meth c g A τ res (fX6_read_127 N) := by
  obtain ⟨hx, hb, hr, hml, hown, hts, hlocks⟩ := id C
  intro x7 x8 σ H locs ls hf hh hl
  unfold fX6_read_127 at hf
  refine lv_aload_n hx hb dX6_read_127 rfl (lv_at hl 0 rfl) ?_
  refine lv_iload hx hb dX6_read_128 (lv_at hl 1 rfl) ?_
  obtain ⟨σ1, e_σ1, hf⟩ := z_lt hf
  refine z_put hx hb hts (fun w h => List.mem_cons_of_mem _ (List.mem_append_left _ (List.mem_append_left _ (List.mem_append_right _ (h))))) tyX6 tyX6_ok nmX6 hown E hh (by decide) (show zD 54 = _ from rfl) rfl 9 (by decide) rfl (hts (.fieldLink RX6 62 "TownBand" "tear" "I") (List.mem_cons_of_mem _ (List.mem_append_left _ (List.mem_append_left _ (List.mem_append_left _ (List.mem_append_left _ (List.mem_of_getElem? (i := 2) rfl))))))) rfl rfl e_σ1 dX6_read_130 (fun H locs hh => ?_)
  refine lv_iload hx hb dX6_read_133 (lv_at hl 2 rfl) ?_
  have hf := Option.some.inj hf
  subst hf
  exact z_iretX hx hb hr hlocks hh dX6_read_135
def fX6_read_121 (N : Nat) (rc : Int32 → Int32 → Int32 → Nat → Int32 → Int32 → Int32 → Int32 → zS → Option (Int32 × zS)) (k_103 : Int32 → Int32 → zS → Option (Int32 × zS)) (k_127 : Int32 → Int32 → zS → Option (Int32 × zS)) (x2 : Int32) (x3 : Int32) (x4 : Int32) (b5 : Nat) (x6 : Int32) (x7 : Int32) (x8 : Int32) (x9 : Int32) (σ : zS) : Option (Int32 × zS) :=
  rc x2 x3 x4 b5 x6 x7 x8 (x9 + (nI 1)) σ
set_option maxRecDepth 100000 in
set_option maxHeartbeats 4000000 in
theorem hX6_read_121 {p : Program} {l : Launch} {e : Env} {s : State} {m : MethodId} {args : Array Value} {below : List Frame} {meth : Method} {c : Code} {g : zG} {A : Nat → Prop} {τ : zS} {res : Int32 × zS} (C : zCx p s m args meth c cX6_read (some .int) wsX6_read RX6 10) (E : zE g A s) (N : Nat) (rc : Int32 → Int32 → Int32 → Nat → Int32 → Int32 → Int32 → Int32 → zS → Option (Int32 × zS)) (hrc : PX6_read_57 p l e s m args below meth c g A τ res rc) (k_103 : Int32 → Int32 → zS → Option (Int32 × zS)) (hk_103 : PX6_read_103 p l e s m args below meth c g A τ res k_103) (k_127 : Int32 → Int32 → zS → Option (Int32 × zS)) (hk_127 : PX6_read_127 p l e s m args below meth c g A τ res k_127) : PX6_read_121 p l e s m args below meth c g A τ res (fX6_read_121 N rc k_103 k_127) := by
  obtain ⟨hx, hb, hr, hml, hown, hts, hlocks⟩ := id C
  intro x2 x3 x4 b5 x6 x7 x8 x9 h1_b5 h2_b5 σ H locs ls hf hh hl
  unfold fX6_read_121 at hf
  refine lv_iinc (v := (x9 + (nI 1))) (lv' := [(9, .int (x9 + (nI 1))), (0, .ref (g.2.2 54)), (2, .int x2), (3, .int x3), (4, .int x4), (5, .ref (g.2.2 b5)), (6, .int x6), (7, .int x7), (8, .int x8)]) hx hb dX6_read_121 hl (k := 8) rfl rfl (by decide) rfl (fun ls hl => ?_)
  refine lv_goto (tgt := 57) hx hb dX6_read_124 (by decide) ?_
  exact hrc x2 x3 x4 b5 x6 x7 x8 (x9 + (nI 1)) h1_b5 h2_b5 σ _ _ _ hf hh (lv_sub hl [1, 2, 3, 4, 5, 6, 7, 8, 0] rfl)
def fX6_read_103 (N : Nat) (x6 : Int32) (x9 : Int32) (σ : zS) : Option (Int32 × zS) :=
  zlet (zpf σ 42 8 x6) fun σ1 =>
  some (((-20) - x9), σ1)
set_option maxRecDepth 100000 in
set_option maxHeartbeats 4000000 in
theorem hX6_read_103 {p : Program} {l : Launch} {e : Env} {s : State} {m : MethodId} {args : Array Value} {below : List Frame} {meth : Method} {c : Code} {g : zG} {A : Nat → Prop} {τ : zS} {res : Int32 × zS} (C : zCx p s m args meth c cX6_read (some .int) wsX6_read RX6 10) (E : zE g A s) (N : Nat) : PX6_read_103 p l e s m args below meth c g A τ res (fX6_read_103 N) := by
  obtain ⟨hx, hb, hr, hml, hown, hts, hlocks⟩ := id C
  intro x6 x9 σ H locs ls hf hh hl
  unfold fX6_read_103 at hf
  refine lv_aload_n hx hb dX6_read_103 rfl (lv_at hl 0 rfl) ?_
  refine z_get (v := .ref (g.2.2 42)) hx hb hts (fun w h => List.mem_cons_of_mem _ (List.mem_append_left _ (List.mem_append_left _ (List.mem_append_right _ (h))))) hown E hh (by decide) (zC_obj (q := 54) rfl) rfl 0 (by decide) (hts (.fieldLink RX6 10 "TownBand" "band" "LTownBand$Band;") (List.mem_cons_of_mem _ (List.mem_append_left _ (List.mem_append_left _ (List.mem_append_left _ (List.mem_append_left _ (List.mem_of_getElem? (i := 1) rfl))))))) rfl dX6_read_104 ?_
  refine lv_iload hx hb dX6_read_107 (lv_at hl 1 rfl) ?_
  obtain ⟨σ1, e_σ1, hf⟩ := z_lt hf
  refine z_putN hx hb hts (fun w h => List.mem_cons_of_mem _ (List.mem_append_left _ (List.mem_append_right _ (h)))) tyX0 tyX0_ok nmX0 hown E hh (by decide) (zD_band (by decide) (by decide)) rfl 8 (by decide) rfl (zE_f E 21 rfl) rfl rfl e_σ1 dX6_read_109 (fun H locs hh => ?_)
  refine lv_bipush (v := (-20)) hx hb dX6_read_112 (by decide) ?_
  refine lv_iload hx hb dX6_read_114 (lv_at hl 2 rfl) ?_
  refine lv_isub hx hb dX6_read_116 ?_
  have hf := Option.some.inj hf
  subst hf
  exact z_iretX hx hb hr hlocks hh dX6_read_117
def fX6_read_57 (N : Nat) (k_103 : Int32 → Int32 → zS → Option (Int32 × zS)) (k_127 : Int32 → Int32 → zS → Option (Int32 × zS)) : Nat → Int32 → Int32 → Int32 → Nat → Int32 → Int32 → Int32 → Int32 → zS → Option (Int32 × zS)
  | 0, _, _, _, _, _, _, _, _, _ => none
  | n + 1, x2, x3, x4, b5, x6, x7, x8, x9, σ =>
    if x4 ≤ x9 then
      k_127 x7 x8 σ
    else
      if x7 = 0 then
        (fX3_faultAs N σ b5 x2 (x3 + x9)).bind fun q3 =>
        if q3 = 0 then
          if zin (x3 + x9) (zlen (zsa b5)) then
          zlet (σ.2 (zsa b5) (x3 + x9).toNatClampNeg) fun v6 =>
          (fX6_mount N σ v6).bind fun q7 =>
          if 0 ≤ q7.1 then
            (fX6_read_121 N (fX6_read_57 N k_103 k_127 n) k_103 k_127) x2 x3 x4 b5 x6 q3 (x8 + (nI 1)) x9 q7.2
          else
            k_103 x6 x9 q7.2
          else none
        else
          (fX6_read_121 N (fX6_read_57 N k_103 k_127 n) k_103 k_127) x2 x3 x4 b5 x6 q3 x8 x9 σ
      else
        k_127 x7 x8 σ
set_option maxRecDepth 100000 in
set_option maxHeartbeats 4000000 in
theorem hX6_read_57 {p : Program} {l : Launch} {e : Env} {s : State} {m : MethodId} {args : Array Value} {below : List Frame} {meth : Method} {c : Code} {g : zG} {A : Nat → Prop} {τ : zS} {res : Int32 × zS} (C : zCx p s m args meth c cX6_read (some .int) wsX6_read RX6 10) (E : zE g A s) (N : Nat) (k_103 : Int32 → Int32 → zS → Option (Int32 × zS)) (hk_103 : PX6_read_103 p l e s m args below meth c g A τ res k_103) (k_127 : Int32 → Int32 → zS → Option (Int32 × zS)) (hk_127 : PX6_read_127 p l e s m args below meth c g A τ res k_127) : ∀ n : Nat, PX6_read_57 p l e s m args below meth c g A τ res (fX6_read_57 N k_103 k_127 n) := by
  obtain ⟨hx, hb, hr, hml, hown, hts, hlocks⟩ := id C
  intro n
  induction n with
  | zero =>
    intro x2 x3 x4 b5 x6 x7 x8 x9 h1_b5 h2_b5 σ H locs ls hf
    exact absurd hf (by simp [fX6_read_57])
  | succ n ih =>
    intro x2 x3 x4 b5 x6 x7 x8 x9 h1_b5 h2_b5 σ H locs ls hf hh hl
    rw [fX6_read_57] at hf
    refine lv_iload hx hb dX6_read_57 (lv_at hl 8 rfl) ?_
    refine lv_iload hx hb dX6_read_59 (lv_at hl 3 rfl) ?_
    refine lv_icmp_ge (tgt := 127) hx hb dX6_read_61 (by decide) (fun c_v1 => ?_) (fun c_v1 => ?_)
    · have hf := z_ip hf c_v1
      exact hk_127 x7 x8 σ _ _ _ hf hh (lv_sub hl [0, 6, 7] rfl)
    · have hf := z_in hf c_v1
      refine lv_iload hx hb dX6_read_64 (lv_at hl 6 rfl) ?_
      refine lv_if_ne (tgt := 127) hx hb dX6_read_66 (by decide) (fun c_v2 => ?_) (fun c_v2 => ?_)
      · have hf := z_in hf c_v2
        exact hk_127 x7 x8 σ _ _ _ hf hh (lv_sub hl [0, 6, 7] rfl)
      · have hf := z_ip hf c_v2
        refine lv_aload hx hb dX6_read_69 (lv_at hl 4 rfl) ?_
        refine lv_iload_n hx hb dX6_read_71 rfl (lv_at hl 1 rfl) ?_
        refine lv_iload_n hx hb dX6_read_72 rfl (lv_at hl 2 rfl) ?_
        refine lv_iload hx hb dX6_read_73 (lv_at hl 8 rfl) ?_
        refine lv_iadd hx hb dX6_read_75 ?_
        obtain ⟨q3, h_q3, hf⟩ := z_bd hf
        refine z_xi (va_runVN (As := [.int x2, .int (x3 + x9)]) (rest := []) ⟨hx, hb, hml, hown, hts⟩ (zcX3_faultAs l g A σ τ N b5 x2 (x3 + x9) h1_b5 h2_b5 h_q3) ⟨va_cnB 2 hts gX6_read_X3_faultAs_n285 rfl rfl rfl (zE_m E 45 rfl) (hts (.initialized RX3) (List.mem_cons_of_mem _ (List.mem_append_left _ (List.mem_append_left _ (List.mem_append_left _ (List.mem_append_left _ (List.mem_of_getElem? (i := 8) rfl))))))) hdX3_faultAs.2 ⟨by decide, by decide⟩, (hts (.instanceMethod yX3_faultAs) (List.mem_cons_of_mem _ (List.mem_append_left _ (List.mem_append_left _ (List.mem_append_left _ (List.mem_append_left _ (List.mem_of_getElem? (i := 7) rfl))))))), (hts (.selects RX3 yX3_faultAs yX3_faultAs) (List.mem_cons_of_mem _ (List.mem_append_left _ (List.mem_append_left _ (List.mem_append_left _ (List.mem_append_left _ (List.mem_of_getElem? (i := 9) rfl)))))))⟩ (z_preV E hh (Nat.lt_trans (m := 50) h2_b5 (by decide)) (zC_sheet h1_b5 h2_b5) rfl) rfl rfl hl.1 rfl (lv_room (Nat.le_of_ble_eq_true rfl)) dX6_read_76 ⟨Nat.le_refl _, Nat.le_refl _⟩) hh (fun H locs hh => ?_)
        refine lv_istore (lv' := [(7, .int q3), (0, .ref (g.2.2 54)), (2, .int x2), (3, .int x3), (4, .int x4), (5, .ref (g.2.2 b5)), (6, .int x6), (8, .int x8), (9, .int x9)]) hx hb dX6_read_79 hl (by decide) rfl (fun ls hl => ?_)
        refine lv_iload hx hb dX6_read_81 (lv_at hl 0 rfl) ?_
        refine lv_if_ne (tgt := 121) hx hb dX6_read_83 (by decide) (fun c_v4 => ?_) (fun c_v4 => ?_)
        · have hf := z_in hf c_v4
          exact (hX6_read_121 C E N (fX6_read_57 N k_103 k_127 n) ih k_103 hk_103 k_127 hk_127) x2 x3 x4 b5 x6 q3 x8 x9 h1_b5 h2_b5 σ _ _ _ hf hh (lv_sub hl [1, 2, 3, 4, 5, 6, 0, 7, 8] rfl)
        · have hf := z_ip hf c_v4
          refine lv_aload_n hx hb dX6_read_86 rfl (lv_at hl 1 rfl) ?_
          refine lv_aload hx hb dX6_read_87 (lv_at hl 5 rfl) ?_
          refine z_getN (v := .ref (g.2.2 (zsa b5))) hx hb hts (fun w h => List.mem_cons_of_mem _ (List.mem_append_right _ (h))) hown E hh (Nat.lt_trans (m := 50) h2_b5 (by decide)) (zC_sheet h1_b5 h2_b5) rfl 0 (by decide) (zE_f E 44 rfl) rfl dX6_read_89 ?_
          refine lv_iload_n hx hb dX6_read_92 rfl (lv_at hl 3 rfl) ?_
          refine lv_iload hx hb dX6_read_93 (lv_at hl 8 rfl) ?_
          refine lv_iadd hx hb dX6_read_95 ?_
          obtain ⟨h_v5, hf⟩ := z_if hf
          obtain ⟨v6, e_v6, hf⟩ := z_lt hf
          refine z_iald hx hb E hh (zsa_lt h1_b5 h2_b5) h_v5 e_v6 dX6_read_96 ?_
          obtain ⟨q7, h_q7, hf⟩ := z_bd hf
          refine z_xi (va_runV (As := [.int v6]) (rest := []) ⟨hx, hb, hml, hown, hts⟩ (zcX6_mount l g A σ τ N v6 h_q7) (cwV 1 hts gX6_read_X6_mount rfl rfl rfl hdX6_mount ⟨by decide, by decide⟩) (z_preV E hh (by decide) (zC_obj (q := 54) rfl) rfl) rfl rfl hl.1 rfl (lv_room (Nat.le_of_ble_eq_true rfl)) dX6_read_97 ⟨Nat.le_refl _, Nat.le_refl _⟩) hh (fun H locs hh => ?_)
          refine lv_if_ge (tgt := 118) hx hb dX6_read_100 (by decide) (fun c_v8 => ?_) (fun c_v8 => ?_)
          · have hf := z_ip hf c_v8
            refine lv_iinc (v := (x8 + (nI 1))) (lv' := [(8, .int (x8 + (nI 1))), (7, .int q3), (0, .ref (g.2.2 54)), (2, .int x2), (3, .int x3), (4, .int x4), (5, .ref (g.2.2 b5)), (6, .int x6), (9, .int x9)]) hx hb dX6_read_118 hl (k := 7) rfl rfl (by decide) rfl (fun ls hl => ?_)
            exact (hX6_read_121 C E N (fX6_read_57 N k_103 k_127 n) ih k_103 hk_103 k_127 hk_127) x2 x3 x4 b5 x6 q3 (x8 + (nI 1)) x9 h1_b5 h2_b5 q7.2 _ _ _ hf hh (lv_sub hl [2, 3, 4, 5, 6, 7, 1, 0, 8] rfl)
          · have hf := z_in hf c_v8
            exact hk_103 x6 x9 q7.2 _ _ _ hf hh (lv_sub hl [1, 6, 8] rfl)
def fX6_read (N : Nat) (σ : zS) (x1 : Int32) (x2 : Int32) (x3 : Int32) (x4 : Int32) : Option (Int32 × zS) :=
  (fX6_within N x1 (nI 0) (nI 3)).bind fun q1 =>
  if q1 = 0 then
    some ((-1), σ)
  else
    (fX6_within N x2 (nI 0) (nI 2)).bind fun q3 =>
    if q3 = 0 then
      some ((-1), σ)
    else
      (fX6_within N x4 (nI 0) (nI 20)).bind fun q5 =>
      if q5 = 0 then
        some ((-1), σ)
      else
        if zin x1 4 then
        (fX6_read_57 N (fX6_read_103 N) (fX6_read_127 N) N) x2 x3 x4 (46 + x1.toNatClampNeg) (σ.1 42 8) (nI 0) (nI 0) (nI 0) σ
        else none
set_option maxRecDepth 100000 in
set_option maxHeartbeats 4000000 in
theorem zcX6_read (l : Launch) (g : zG) (A : Nat → Prop) (σ τ : zS) (N : Nat) (x1 : Int32) (x2 : Int32) (x3 : Int32) (x4 : Int32)  {res : Int32 × zS} (hf : fX6_read N σ x1 x2 x3 x4 = some res) : Met l yX6_read wsX6_read (zR 5) (zPc g A σ τ [.ref (g.2.2 54), .int x1, .int x2, .int x3, .int x4]) (zQi g A τ res) 0 0 A := by
  refine z_met (cc := cX6_read) (ret := (some .int)) (own := RX6) (by decide) rfl rfl _ (Nat.le_of_ble_eq_true rfl) ?_
  intro p e s m below meth c C E ls hl hh
  have hl : lv_has ls 10 [(0, .ref (g.2.2 54)), (1, .int x1), (2, .int x2), (3, .int x3), (4, .int x4)] := hl
  obtain ⟨hx, hb, hr, hml, hown, hts, hlocks⟩ := id C
  unfold fX6_read at hf
  refine lv_iload_n hx hb dX6_read_0 rfl (lv_at hl 1 rfl) ?_
  refine lv_iconst (v := (nI 0)) hx hb dX6_read_1 (by decide) ?_
  refine lv_iconst (v := (nI 3)) hx hb dX6_read_2 (by decide) ?_
  obtain ⟨q1, h_q1, hf⟩ := z_bd hf
  refine z_xi (va_runS (As := [.int x1, .int (nI 0), .int (nI 3)]) (rest := []) ⟨hx, hb, hml, hown, hts⟩ (zcX6_within l g A σ τ N x1 (nI 0) (nI 3) h_q1) (va_cwS 3 hts gX6_read_X6_within rfl rfl rfl hdX6_within.2 ⟨by decide, by decide⟩) (z_preS E hh) rfl rfl hl.1 rfl (lv_room (Nat.le_of_ble_eq_true rfl)) dX6_read_3 ⟨Nat.le_refl _, Nat.le_refl _⟩) hh (fun H locs hh => ?_)
  refine lv_if_eq (tgt := 29) hx hb dX6_read_6 (by decide) (fun c_v2 => ?_) (fun c_v2 => ?_)
  · have hf := z_ip hf c_v2
    refine lv_iconst (v := (-1)) hx hb dX6_read_29 (by decide) ?_
    have hf := Option.some.inj hf
    subst hf
    exact z_iretX hx hb hr hlocks hh dX6_read_30
  · have hf := z_in hf c_v2
    refine lv_iload_n hx hb dX6_read_9 rfl (lv_at hl 2 rfl) ?_
    refine lv_iconst (v := (nI 0)) hx hb dX6_read_10 (by decide) ?_
    refine lv_iconst (v := (nI 2)) hx hb dX6_read_11 (by decide) ?_
    obtain ⟨q3, h_q3, hf⟩ := z_bd hf
    refine z_xi (va_runS (As := [.int x2, .int (nI 0), .int (nI 2)]) (rest := []) ⟨hx, hb, hml, hown, hts⟩ (zcX6_within l g A σ τ N x2 (nI 0) (nI 2) h_q3) (va_cwS 3 hts gX6_read_X6_within rfl rfl rfl hdX6_within.2 ⟨by decide, by decide⟩) (z_preS E hh) rfl rfl hl.1 rfl (lv_room (Nat.le_of_ble_eq_true rfl)) dX6_read_12 ⟨Nat.le_refl _, Nat.le_refl _⟩) hh (fun H locs hh => ?_)
    refine lv_if_eq (tgt := 29) hx hb dX6_read_15 (by decide) (fun c_v4 => ?_) (fun c_v4 => ?_)
    · have hf := z_ip hf c_v4
      refine lv_iconst (v := (-1)) hx hb dX6_read_29 (by decide) ?_
      have hf := Option.some.inj hf
      subst hf
      exact z_iretX hx hb hr hlocks hh dX6_read_30
    · have hf := z_in hf c_v4
      refine lv_iload hx hb dX6_read_18 (lv_at hl 4 rfl) ?_
      refine lv_iconst (v := (nI 0)) hx hb dX6_read_20 (by decide) ?_
      refine lv_bipush (v := (nI 20)) hx hb dX6_read_21 (by decide) ?_
      obtain ⟨q5, h_q5, hf⟩ := z_bd hf
      refine z_xi (va_runS (As := [.int x4, .int (nI 0), .int (nI 20)]) (rest := []) ⟨hx, hb, hml, hown, hts⟩ (zcX6_within l g A σ τ N x4 (nI 0) (nI 20) h_q5) (va_cwS 3 hts gX6_read_X6_within rfl rfl rfl hdX6_within.2 ⟨by decide, by decide⟩) (z_preS E hh) rfl rfl hl.1 rfl (lv_room (Nat.le_of_ble_eq_true rfl)) dX6_read_23 ⟨Nat.le_refl _, Nat.le_refl _⟩) hh (fun H locs hh => ?_)
      refine lv_if_ne (tgt := 31) hx hb dX6_read_26 (by decide) (fun c_v6 => ?_) (fun c_v6 => ?_)
      · have hf := z_in hf c_v6
        refine lv_aload_n hx hb dX6_read_31 rfl (lv_at hl 0 rfl) ?_
        refine z_get (v := .ref (g.2.2 41)) hx hb hts (fun w h => List.mem_cons_of_mem _ (List.mem_append_left _ (List.mem_append_left _ (List.mem_append_right _ (h))))) hown E hh (by decide) (zC_obj (q := 54) rfl) rfl 7 (by decide) (hts (.fieldLink RX6 54 "TownBand" "sheets" "[LTownBand$Sheet;") (List.mem_cons_of_mem _ (List.mem_append_left _ (List.mem_append_left _ (List.mem_append_left _ (List.mem_append_left _ (List.mem_of_getElem? (i := 0) rfl))))))) rfl dX6_read_32 ?_
        refine lv_iload_n hx hb dX6_read_35 rfl (lv_at hl 1 rfl) ?_
        obtain ⟨h_v7, hf⟩ := z_if hf
        refine z_aldS hx hb E hh h_v7 dX6_read_36 ?_
        refine lv_astore (lv' := [(5, .ref (g.2.2 (46 + x1.toNatClampNeg))), (0, .ref (g.2.2 54)), (1, .int x1), (2, .int x2), (3, .int x3), (4, .int x4)]) hx hb dX6_read_37 hl (by decide) rfl (fun ls hl => ?_)
        refine lv_aload_n hx hb dX6_read_39 rfl (lv_at hl 1 rfl) ?_
        refine z_get (v := .ref (g.2.2 42)) hx hb hts (fun w h => List.mem_cons_of_mem _ (List.mem_append_left _ (List.mem_append_left _ (List.mem_append_right _ (h))))) hown E hh (by decide) (zC_obj (q := 54) rfl) rfl 0 (by decide) (hts (.fieldLink RX6 10 "TownBand" "band" "LTownBand$Band;") (List.mem_cons_of_mem _ (List.mem_append_left _ (List.mem_append_left _ (List.mem_append_left _ (List.mem_append_left _ (List.mem_of_getElem? (i := 1) rfl))))))) rfl dX6_read_40 ?_
        refine z_getN (v := .int (σ.1 42 8)) hx hb hts (fun w h => List.mem_cons_of_mem _ (List.mem_append_left _ (List.mem_append_right _ (h)))) hown E hh (by decide) (zC_band (by decide) (by decide)) rfl 8 (by decide) (zE_f E 21 rfl) rfl dX6_read_43 ?_
        refine lv_istore (lv' := [(6, .int (σ.1 42 8)), (5, .ref (g.2.2 (46 + x1.toNatClampNeg))), (0, .ref (g.2.2 54)), (1, .int x1), (2, .int x2), (3, .int x3), (4, .int x4)]) hx hb dX6_read_46 hl (by decide) rfl (fun ls hl => ?_)
        refine lv_iconst (v := (nI 0)) hx hb dX6_read_48 (by decide) ?_
        refine lv_istore (lv' := [(7, .int (nI 0)), (6, .int (σ.1 42 8)), (5, .ref (g.2.2 (46 + x1.toNatClampNeg))), (0, .ref (g.2.2 54)), (1, .int x1), (2, .int x2), (3, .int x3), (4, .int x4)]) hx hb dX6_read_49 hl (by decide) rfl (fun ls hl => ?_)
        refine lv_iconst (v := (nI 0)) hx hb dX6_read_51 (by decide) ?_
        refine lv_istore (lv' := [(8, .int (nI 0)), (7, .int (nI 0)), (6, .int (σ.1 42 8)), (5, .ref (g.2.2 (46 + x1.toNatClampNeg))), (0, .ref (g.2.2 54)), (1, .int x1), (2, .int x2), (3, .int x3), (4, .int x4)]) hx hb dX6_read_52 hl (by decide) rfl (fun ls hl => ?_)
        refine lv_iconst (v := (nI 0)) hx hb dX6_read_54 (by decide) ?_
        refine lv_istore (lv' := [(9, .int (nI 0)), (8, .int (nI 0)), (7, .int (nI 0)), (6, .int (σ.1 42 8)), (5, .ref (g.2.2 (46 + x1.toNatClampNeg))), (0, .ref (g.2.2 54)), (1, .int x1), (2, .int x2), (3, .int x3), (4, .int x4)]) hx hb dX6_read_55 hl (by decide) rfl (fun ls hl => ?_)
        exact (hX6_read_57 C E N (fX6_read_103 N) (hX6_read_103 C E N) (fX6_read_127 N) (hX6_read_127 C E N) N) x2 x3 x4 (46 + x1.toNatClampNeg) (σ.1 42 8) (nI 0) (nI 0) (nI 0) (by omega) (by have := z_inl h_v7; omega) σ _ _ _ hf hh (lv_sub hl [5, 7, 8, 9, 4, 3, 2, 1, 0] rfl)
      · have hf := z_ip hf c_v6
        refine lv_iconst (v := (-1)) hx hb dX6_read_29 (by decide) ?_
        have hf := Option.some.inj hf
        subst hf
        exact z_iretX hx hb hr hlocks hh dX6_read_30
/-! ===== X6_torn ===== -/
theorem hdX6_torn : yX6_torn.cls = RX6 ∧ yX6_torn.cls ≠ "java/lang/invoke/MethodHandle" ∧ yX6_torn.cls ≠ "java/lang/invoke/VarHandle" ∧ (parseMethodDescriptor yX6_torn.desc).map (fun d => d.parameters.length) = some 0 := by decide +kernel
def fX6_torn (N : Nat) (σ : zS)  : Option (Int32) :=
  some (σ.1 54 9)
set_option maxRecDepth 100000 in
set_option maxHeartbeats 4000000 in
theorem zcX6_torn (l : Launch) (g : zG) (A : Nat → Prop) (σ τ : zS) (N : Nat)   {res : Int32} (hf : fX6_torn N σ = some res) : Met l yX6_torn wsX6_torn (zR 0) (zPc g A σ τ [.ref (g.2.2 54)]) (zQi g A τ (res, σ)) 0 0 A := by
  refine z_met (cc := cX6_torn) (ret := (some .int)) (own := RX6) (by decide) rfl rfl _ (Nat.le_of_ble_eq_true rfl) ?_
  intro p e s m below meth c C E ls hl hh
  have hl : lv_has ls 1 [(0, .ref (g.2.2 54))] := hl
  obtain ⟨hx, hb, hr, hml, hown, hts, hlocks⟩ := id C
  unfold fX6_torn at hf
  refine lv_aload_n hx hb dX6_torn_0 rfl (lv_at hl 0 rfl) ?_
  refine z_get (v := .int (σ.1 54 9)) hx hb hts (fun w h => List.mem_cons_of_mem _ (List.mem_append_right _ (h))) hown E hh (by decide) (zC_obj (q := 54) rfl) rfl 9 (by decide) (hts (.fieldLink RX6 62 "TownBand" "tear" "I") (List.mem_cons_of_mem _ (List.mem_append_left _ (List.mem_of_getElem? (i := 0) rfl)))) rfl dX6_torn_1 ?_
  have hf := Option.some.inj hf
  subst hf
  exact z_iretX hx hb hr hlocks hh dX6_torn_4
/-! ===== X6_count ===== -/
theorem hdX6_count : yX6_count.cls = RX6 ∧ yX6_count.cls ≠ "java/lang/invoke/MethodHandle" ∧ yX6_count.cls ≠ "java/lang/invoke/VarHandle" ∧ (parseMethodDescriptor yX6_count.desc).map (fun d => d.parameters.length) = some 1 := by decide +kernel
def PX6_count_62 (p : Program) (l : Launch) (e : Env) (s : State) (m : MethodId) (args : Array Value) (below : List Frame) (meth : Method) (c : Code) (g : zG) (A : Nat → Prop) (σ τ : zS) (res : Int32) (f : Int32 → Option (Int32)) : Prop := ∀ (s0 : Int32) (H : Heap) (locs : List Loc) (ls : Array Slot), f s0 = some res → zW g A σ τ s H locs → lv_has ls 2 [(0, .ref (g.2.2 54))] → W p l e (zR 1) s m args below meth c H locs 0 0 (MQ below (zQi g A τ (res, σ)) args s 0 0 A) (F0 m 62 ls [.int s0])
def fX6_count_62 (N : Nat) (σ : zS) (s0 : Int32) : Option (Int32) :=
  if zin (nI 1) 2 then
  zlet (σ.2 39 (nI 1).toNatClampNeg) fun v2 =>
  if v2 = 0 then
    some (s0 + (nI 0))
  else
    some (s0 + (nI 1))
  else none
set_option maxRecDepth 100000 in
set_option maxHeartbeats 4000000 in
theorem hX6_count_62 {p : Program} {l : Launch} {e : Env} {s : State} {m : MethodId} {args : Array Value} {below : List Frame} {meth : Method} {c : Code} {g : zG} {A : Nat → Prop} {σ τ : zS} {res : Int32} (C : zCx p s m args meth c cX6_count (some .int) wsX6_count RX6 2) (E : zE g A s) (N : Nat) : PX6_count_62 p l e s m args below meth c g A σ τ res (fX6_count_62 N σ) := by
  obtain ⟨hx, hb, hr, hml, hown, hts, hlocks⟩ := id C
  intro s0 H locs ls hf hh hl
  unfold fX6_count_62 at hf
  refine lv_aload_n hx hb dX6_count_62 rfl (lv_at hl 0 rfl) ?_
  refine z_get (v := .ref (g.2.2 39)) hx hb hts (fun w h => List.mem_cons_of_mem _ (List.mem_append_left _ (List.mem_append_left _ (List.mem_append_left _ (List.mem_append_left _ (List.mem_append_right _ (h))))))) hown E hh (by decide) (zC_obj (q := 54) rfl) rfl 6 (by decide) (hts (.fieldLink RX6 48 "TownBand" "kept" "[Z") (List.mem_cons_of_mem _ (List.mem_append_left _ (List.mem_append_left _ (List.mem_append_left _ (List.mem_append_left _ (List.mem_append_left _ (List.mem_of_getElem? (i := 1) rfl)))))))) rfl dX6_count_63 ?_
  refine lv_iconst (v := (nI 1)) hx hb dX6_count_66 (by decide) ?_
  obtain ⟨h_v1, hf⟩ := z_if hf
  obtain ⟨v2, e_v2, hf⟩ := z_lt hf
  refine z_zald hx hb E hh h_v1 e_v2 dX6_count_67 ?_
  refine lv_if_eq (tgt := 75) hx hb dX6_count_68 (by decide) (fun c_v3 => ?_) (fun c_v3 => ?_)
  · have hf := z_ip hf c_v3
    refine lv_iconst (v := (nI 0)) hx hb dX6_count_75 (by decide) ?_
    refine lv_iadd hx hb dX6_count_76 ?_
    have hf := Option.some.inj hf
    subst hf
    exact z_iretX hx hb hr hlocks hh dX6_count_77
  · have hf := z_in hf c_v3
    refine lv_iconst (v := (nI 1)) hx hb dX6_count_71 (by decide) ?_
    refine lv_goto (tgt := 76) hx hb dX6_count_72 (by decide) ?_
    refine lv_iadd hx hb dX6_count_76 ?_
    have hf := Option.some.inj hf
    subst hf
    exact z_iretX hx hb hr hlocks hh dX6_count_77
def fX6_count (N : Nat) (σ : zS) (x1 : Int32) : Option (Int32) :=
  if x1 = (nI 0) then
    some (σ.1 51 2)
  else
    if x1 = (nI 1) then
      if zin (nI 0) 2 then
      zlet (σ.2 39 (nI 0).toNatClampNeg) fun v4 =>
      if v4 = 0 then
        (fX6_count_62 N σ) (nI 0)
      else
        (fX6_count_62 N σ) (nI 1)
      else none
    else
      if x1 = (nI 2) then
        some (σ.1 50 2)
      else
        if x1 = (nI 3) then
          if zin (nI 0) 4 then
          if (σ.1 (46 + (nI 0).toNatClampNeg) 1) = (-1) then
            some (-4)
          else
            if zin (nI 0) 4 then
            some (σ.1 (46 + (nI 0).toNatClampNeg) 2)
            else none
          else none
        else
          if x1 = (nI 4) then
            (fX6_sumOf N σ 1 (σ.1 42 6)).bind fun q12 =>
            some q12
          else
            if x1 = (nI 5) then
              (fX6_sumOf N σ 3 (σ.1 42 7)).bind fun q14 =>
              some q14
            else
              some (-1)
set_option maxRecDepth 100000 in
set_option maxHeartbeats 4000000 in
theorem zcX6_count (l : Launch) (g : zG) (A : Nat → Prop) (σ τ : zS) (N : Nat) (x1 : Int32)  {res : Int32} (hf : fX6_count N σ x1 = some res) : Met l yX6_count wsX6_count (zR 1) (zPc g A σ τ [.ref (g.2.2 54), .int x1]) (zQi g A τ (res, σ)) 0 0 A := by
  refine z_met (cc := cX6_count) (ret := (some .int)) (own := RX6) (by decide) rfl rfl _ (Nat.le_of_ble_eq_true rfl) ?_
  intro p e s m below meth c C E ls hl hh
  have hl : lv_has ls 2 [(0, .ref (g.2.2 54)), (1, .int x1)] := hl
  obtain ⟨hx, hb, hr, hml, hown, hts, hlocks⟩ := id C
  unfold fX6_count at hf
  refine lv_iload_n hx hb dX6_count_0 rfl (lv_at hl 1 rfl) ?_
  by_cases c_v1 : x1 = (nI 0)
  · have hf := z_ip hf c_v1
    refine z_tbl (tgt := 40) (off := 39) hx hb dX6_count_1 (nI 0) c_v1 (by decide) (by decide) (by decide) (by decide) ?_
    refine lv_aload_n hx hb dX6_count_40 rfl (lv_at hl 0 rfl) ?_
    refine z_get (v := .ref (g.2.2 51)) hx hb hts (fun w h => List.mem_cons_of_mem _ (List.mem_append_left _ (List.mem_append_left _ (List.mem_append_left _ (List.mem_append_left _ (List.mem_append_right _ (h))))))) hown E hh (by decide) (zC_obj (q := 54) rfl) rfl 2 (by decide) (hts (.fieldLink RX6 26 "TownBand" "seen" "LTownBand$Seen;") (List.mem_cons_of_mem _ (List.mem_append_left _ (List.mem_append_left _ (List.mem_append_left _ (List.mem_append_left _ (List.mem_append_left _ (List.mem_of_getElem? (i := 0) rfl)))))))) rfl dX6_count_41 ?_
    refine z_getN (v := .int (σ.1 51 2)) hx hb hts (fun w h => List.mem_cons_of_mem _ (List.mem_append_left _ (List.mem_append_left _ (List.mem_append_left _ (List.mem_append_right _ (h)))))) hown E hh (by decide) (zC_obj (q := 51) rfl) rfl 2 (by decide) (zE_f E 34 rfl) rfl dX6_count_44 ?_
    have hf := Option.some.inj hf
    subst hf
    exact z_iretX hx hb hr hlocks hh dX6_count_47
  · have hf := z_in hf c_v1
    by_cases c_v2 : x1 = (nI 1)
    · have hf := z_ip hf c_v2
      refine z_tbl (tgt := 48) (off := 47) hx hb dX6_count_1 (nI 1) c_v2 (by decide) (by decide) (by decide) (by decide) ?_
      refine lv_aload_n hx hb dX6_count_48 rfl (lv_at hl 0 rfl) ?_
      refine z_get (v := .ref (g.2.2 39)) hx hb hts (fun w h => List.mem_cons_of_mem _ (List.mem_append_left _ (List.mem_append_left _ (List.mem_append_left _ (List.mem_append_left _ (List.mem_append_right _ (h))))))) hown E hh (by decide) (zC_obj (q := 54) rfl) rfl 6 (by decide) (hts (.fieldLink RX6 48 "TownBand" "kept" "[Z") (List.mem_cons_of_mem _ (List.mem_append_left _ (List.mem_append_left _ (List.mem_append_left _ (List.mem_append_left _ (List.mem_append_left _ (List.mem_of_getElem? (i := 1) rfl)))))))) rfl dX6_count_49 ?_
      refine lv_iconst (v := (nI 0)) hx hb dX6_count_52 (by decide) ?_
      obtain ⟨h_v3, hf⟩ := z_if hf
      obtain ⟨v4, e_v4, hf⟩ := z_lt hf
      refine z_zald hx hb E hh h_v3 e_v4 dX6_count_53 ?_
      refine lv_if_eq (tgt := 61) hx hb dX6_count_54 (by decide) (fun c_v5 => ?_) (fun c_v5 => ?_)
      · have hf := z_ip hf c_v5
        refine lv_iconst (v := (nI 0)) hx hb dX6_count_61 (by decide) ?_
        exact (hX6_count_62 C E N) (nI 0) _ _ _ hf hh (lv_sub hl [0] rfl)
      · have hf := z_in hf c_v5
        refine lv_iconst (v := (nI 1)) hx hb dX6_count_57 (by decide) ?_
        refine lv_goto (tgt := 62) hx hb dX6_count_58 (by decide) ?_
        exact (hX6_count_62 C E N) (nI 1) _ _ _ hf hh (lv_sub hl [0] rfl)
    · have hf := z_in hf c_v2
      by_cases c_v6 : x1 = (nI 2)
      · have hf := z_ip hf c_v6
        refine z_tbl (tgt := 78) (off := 77) hx hb dX6_count_1 (nI 2) c_v6 (by decide) (by decide) (by decide) (by decide) ?_
        refine lv_aload_n hx hb dX6_count_78 rfl (lv_at hl 0 rfl) ?_
        refine z_get (v := .ref (g.2.2 50)) hx hb hts (fun w h => List.mem_cons_of_mem _ (List.mem_append_left _ (List.mem_append_left _ (List.mem_append_left _ (List.mem_append_left _ (List.mem_append_right _ (h))))))) hown E hh (by decide) (zC_obj (q := 54) rfl) rfl 1 (by decide) (hts (.fieldLink RX6 19 "TownBand" "tape" "LTownBand$Tape;") (List.mem_cons_of_mem _ (List.mem_append_left _ (List.mem_append_left _ (List.mem_append_left _ (List.mem_append_left _ (List.mem_append_left _ (List.mem_of_getElem? (i := 2) rfl)))))))) rfl dX6_count_79 ?_
        refine z_getN (v := .int (σ.1 50 2)) hx hb hts (fun w h => List.mem_cons_of_mem _ (List.mem_append_left _ (List.mem_append_left _ (List.mem_append_right _ (h))))) hown E hh (by decide) (zC_obj (q := 50) rfl) rfl 2 (by decide) (zE_f E 27 rfl) rfl dX6_count_82 ?_
        have hf := Option.some.inj hf
        subst hf
        exact z_iretX hx hb hr hlocks hh dX6_count_85
      · have hf := z_in hf c_v6
        by_cases c_v7 : x1 = (nI 3)
        · have hf := z_ip hf c_v7
          refine z_tbl (tgt := 86) (off := 85) hx hb dX6_count_1 (nI 3) c_v7 (by decide) (by decide) (by decide) (by decide) ?_
          refine lv_aload_n hx hb dX6_count_86 rfl (lv_at hl 0 rfl) ?_
          refine z_get (v := .ref (g.2.2 41)) hx hb hts (fun w h => List.mem_cons_of_mem _ (List.mem_append_left _ (List.mem_append_left _ (List.mem_append_left _ (List.mem_append_left _ (List.mem_append_right _ (h))))))) hown E hh (by decide) (zC_obj (q := 54) rfl) rfl 7 (by decide) (hts (.fieldLink RX6 54 "TownBand" "sheets" "[LTownBand$Sheet;") (List.mem_cons_of_mem _ (List.mem_append_left _ (List.mem_append_left _ (List.mem_append_left _ (List.mem_append_left _ (List.mem_append_left _ (List.mem_of_getElem? (i := 3) rfl)))))))) rfl dX6_count_87 ?_
          refine lv_iconst (v := (nI 0)) hx hb dX6_count_90 (by decide) ?_
          obtain ⟨h_v8, hf⟩ := z_if hf
          refine z_aldS hx hb E hh h_v8 dX6_count_91 ?_
          refine z_getN (v := .int (σ.1 (46 + (nI 0).toNatClampNeg) 1)) hx hb hts (fun w h => List.mem_cons_of_mem _ (List.mem_append_left _ (List.mem_append_right _ (h)))) hown E hh (Nat.lt_trans (m := 50) (by have := z_inl h_v8; omega) (by decide)) (zC_sheet (by omega) (by have := z_inl h_v8; omega)) rfl 1 (by decide) (zE_f E 45 rfl) rfl dX6_count_92 ?_
          refine lv_iconst (v := (-1)) hx hb dX6_count_95 (by decide) ?_
          refine lv_icmp_ne (tgt := 104) hx hb dX6_count_96 (by decide) (fun c_v9 => ?_) (fun c_v9 => ?_)
          · have hf := z_in hf c_v9
            refine lv_aload_n hx hb dX6_count_104 rfl (lv_at hl 0 rfl) ?_
            refine z_get (v := .ref (g.2.2 41)) hx hb hts (fun w h => List.mem_cons_of_mem _ (List.mem_append_left _ (List.mem_append_left _ (List.mem_append_left _ (List.mem_append_left _ (List.mem_append_right _ (h))))))) hown E hh (by decide) (zC_obj (q := 54) rfl) rfl 7 (by decide) (hts (.fieldLink RX6 54 "TownBand" "sheets" "[LTownBand$Sheet;") (List.mem_cons_of_mem _ (List.mem_append_left _ (List.mem_append_left _ (List.mem_append_left _ (List.mem_append_left _ (List.mem_append_left _ (List.mem_of_getElem? (i := 3) rfl)))))))) rfl dX6_count_105 ?_
            refine lv_iconst (v := (nI 0)) hx hb dX6_count_108 (by decide) ?_
            obtain ⟨h_v10, hf⟩ := z_if hf
            refine z_aldS hx hb E hh h_v10 dX6_count_109 ?_
            refine z_getN (v := .int (σ.1 (46 + (nI 0).toNatClampNeg) 2)) hx hb hts (fun w h => List.mem_cons_of_mem _ (List.mem_append_left _ (List.mem_append_right _ (h)))) hown E hh (Nat.lt_trans (m := 50) (by have := z_inl h_v10; omega) (by decide)) (zC_sheet (by omega) (by have := z_inl h_v10; omega)) rfl 2 (by decide) (zE_f E 46 rfl) rfl dX6_count_110 ?_
            have hf := Option.some.inj hf
            subst hf
            exact z_iretX hx hb hr hlocks hh dX6_count_113
          · have hf := z_ip hf c_v9
            refine lv_bipush (v := (-4)) hx hb dX6_count_99 (by decide) ?_
            refine lv_goto (tgt := 113) hx hb dX6_count_101 (by decide) ?_
            have hf := Option.some.inj hf
            subst hf
            exact z_iretX hx hb hr hlocks hh dX6_count_113
        · have hf := z_in hf c_v7
          by_cases c_v11 : x1 = (nI 4)
          · have hf := z_ip hf c_v11
            refine z_tbl (tgt := 114) (off := 113) hx hb dX6_count_1 (nI 4) c_v11 (by decide) (by decide) (by decide) (by decide) ?_
            refine lv_aload_n hx hb dX6_count_114 rfl (lv_at hl 0 rfl) ?_
            refine z_get (v := .ref (g.2.2 42)) hx hb hts (fun w h => List.mem_cons_of_mem _ (List.mem_append_left _ (List.mem_append_left _ (List.mem_append_left _ (List.mem_append_left _ (List.mem_append_right _ (h))))))) hown E hh (by decide) (zC_obj (q := 54) rfl) rfl 0 (by decide) (hts (.fieldLink RX6 10 "TownBand" "band" "LTownBand$Band;") (List.mem_cons_of_mem _ (List.mem_append_left _ (List.mem_append_left _ (List.mem_append_left _ (List.mem_append_left _ (List.mem_append_left _ (List.mem_of_getElem? (i := 4) rfl)))))))) rfl dX6_count_115 ?_
            refine z_getN (v := .ref (g.2.2 1)) hx hb hts (fun w h => List.mem_cons_of_mem _ (List.mem_append_right _ (h))) hown E hh (by decide) (zC_band (by decide) (by decide)) rfl 1 (by decide) (zE_f E 4 rfl) rfl dX6_count_118 ?_
            refine lv_aload_n hx hb dX6_count_121 rfl (lv_at hl 0 rfl) ?_
            refine z_get (v := .ref (g.2.2 42)) hx hb hts (fun w h => List.mem_cons_of_mem _ (List.mem_append_left _ (List.mem_append_left _ (List.mem_append_left _ (List.mem_append_left _ (List.mem_append_right _ (h))))))) hown E hh (by decide) (zC_obj (q := 54) rfl) rfl 0 (by decide) (hts (.fieldLink RX6 10 "TownBand" "band" "LTownBand$Band;") (List.mem_cons_of_mem _ (List.mem_append_left _ (List.mem_append_left _ (List.mem_append_left _ (List.mem_append_left _ (List.mem_append_left _ (List.mem_of_getElem? (i := 4) rfl)))))))) rfl dX6_count_122 ?_
            refine z_getN (v := .int (σ.1 42 6)) hx hb hts (fun w h => List.mem_cons_of_mem _ (List.mem_append_right _ (h))) hown E hh (by decide) (zC_band (by decide) (by decide)) rfl 6 (by decide) (zE_f E 17 rfl) rfl dX6_count_125 ?_
            obtain ⟨q12, h_q12, hf⟩ := z_bd hf
            refine z_xi (va_runS (As := [.ref (g.2.2 1), .int (σ.1 42 6)]) (rest := []) ⟨hx, hb, hml, hown, hts⟩ (zcX6_sumOf l g A σ τ N 1 (σ.1 42 6) (by decide) h_q12) (va_cwS 2 hts gX6_count_X6_sumOf rfl rfl rfl hdX6_sumOf.2 ⟨by decide, by decide⟩) (z_preS E hh) rfl rfl hl.1 rfl (lv_room (Nat.le_of_ble_eq_true rfl)) dX6_count_128 ⟨Nat.le_refl _, Nat.le_refl _⟩) hh (fun H locs hh => ?_)
            have hf := Option.some.inj hf
            subst hf
            exact z_iretX hx hb hr hlocks hh dX6_count_131
          · have hf := z_in hf c_v11
            by_cases c_v13 : x1 = (nI 5)
            · have hf := z_ip hf c_v13
              refine z_tbl (tgt := 132) (off := 131) hx hb dX6_count_1 (nI 5) c_v13 (by decide) (by decide) (by decide) (by decide) ?_
              refine lv_aload_n hx hb dX6_count_132 rfl (lv_at hl 0 rfl) ?_
              refine z_get (v := .ref (g.2.2 42)) hx hb hts (fun w h => List.mem_cons_of_mem _ (List.mem_append_left _ (List.mem_append_left _ (List.mem_append_left _ (List.mem_append_left _ (List.mem_append_right _ (h))))))) hown E hh (by decide) (zC_obj (q := 54) rfl) rfl 0 (by decide) (hts (.fieldLink RX6 10 "TownBand" "band" "LTownBand$Band;") (List.mem_cons_of_mem _ (List.mem_append_left _ (List.mem_append_left _ (List.mem_append_left _ (List.mem_append_left _ (List.mem_append_left _ (List.mem_of_getElem? (i := 4) rfl)))))))) rfl dX6_count_133 ?_
              refine z_getN (v := .ref (g.2.2 3)) hx hb hts (fun w h => List.mem_cons_of_mem _ (List.mem_append_right _ (h))) hown E hh (by decide) (zC_band (by decide) (by decide)) rfl 3 (by decide) (zE_f E 9 rfl) rfl dX6_count_136 ?_
              refine lv_aload_n hx hb dX6_count_139 rfl (lv_at hl 0 rfl) ?_
              refine z_get (v := .ref (g.2.2 42)) hx hb hts (fun w h => List.mem_cons_of_mem _ (List.mem_append_left _ (List.mem_append_left _ (List.mem_append_left _ (List.mem_append_left _ (List.mem_append_right _ (h))))))) hown E hh (by decide) (zC_obj (q := 54) rfl) rfl 0 (by decide) (hts (.fieldLink RX6 10 "TownBand" "band" "LTownBand$Band;") (List.mem_cons_of_mem _ (List.mem_append_left _ (List.mem_append_left _ (List.mem_append_left _ (List.mem_append_left _ (List.mem_append_left _ (List.mem_of_getElem? (i := 4) rfl)))))))) rfl dX6_count_140 ?_
              refine z_getN (v := .int (σ.1 42 7)) hx hb hts (fun w h => List.mem_cons_of_mem _ (List.mem_append_right _ (h))) hown E hh (by decide) (zC_band (by decide) (by decide)) rfl 7 (by decide) (zE_f E 20 rfl) rfl dX6_count_143 ?_
              obtain ⟨q14, h_q14, hf⟩ := z_bd hf
              refine z_xi (va_runS (As := [.ref (g.2.2 3), .int (σ.1 42 7)]) (rest := []) ⟨hx, hb, hml, hown, hts⟩ (zcX6_sumOf l g A σ τ N 3 (σ.1 42 7) (by decide) h_q14) (va_cwS 2 hts gX6_count_X6_sumOf rfl rfl rfl hdX6_sumOf.2 ⟨by decide, by decide⟩) (z_preS E hh) rfl rfl hl.1 rfl (lv_room (Nat.le_of_ble_eq_true rfl)) dX6_count_146 ⟨Nat.le_refl _, Nat.le_refl _⟩) hh (fun H locs hh => ?_)
              have hf := Option.some.inj hf
              subst hf
              exact z_iretX hx hb hr hlocks hh dX6_count_149
            · have hf := z_in hf c_v13
              refine lv_tableOut (tgt := 150) hx hb dX6_count_1 (by have n_c_v1 := lv_neT (a := 0) c_v1 (by decide); have n_c_v2 := lv_neT (a := 1) c_v2 (by decide); have n_c_v6 := lv_neT (a := 2) c_v6 (by decide); have n_c_v7 := lv_neT (a := 3) c_v7 (by decide); have n_c_v11 := lv_neT (a := 4) c_v11 (by decide); have n_c_v13 := lv_neT (a := 5) c_v13 (by decide); omega) (by decide) ?_
              refine lv_iconst (v := (-1)) hx hb dX6_count_150 (by decide) ?_
              have hf := Option.some.inj hf
              subst hf
              exact z_iretX hx hb hr hlocks hh dX6_count_151

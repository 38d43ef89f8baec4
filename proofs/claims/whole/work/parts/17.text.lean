/-! ===== X6_text ===== -/
theorem hdX6_text : yX6_text.cls = RX6 ∧ yX6_text.cls ≠ "java/lang/invoke/MethodHandle" ∧ yX6_text.cls ≠ "java/lang/invoke/VarHandle" ∧ (parseMethodDescriptor yX6_text.desc).map (fun d => d.parameters.length) = some 0 := by decide +kernel
def PX6_text_50 (p : Program) (l : Launch) (e : Env) (s : State) (m : MethodId) (args : Array Value) (below : List Frame) (meth : Method) (c : Code) (g : zG) (A : Nat → Prop) (τ : zS) (res : Int32 × zS) (f : Int32 → Int32 → zS → Option (Int32 × zS)) : Prop := ∀ (x1 : Int32) (x2 : Int32) (σ : zS) (H : Heap) (locs : List Loc) (ls : Array Slot), f x1 x2 σ = some res → zW g A σ τ s H locs → lv_has ls 3 [(0, .ref (g.2.2 54)), (1, .int x1), (2, .int x2)] → W p l e (zR 8) s m args below meth c H locs 0 0 (MQ below (zQi g A τ res) args s 0 0 A) (F0 m 50 ls [])
def fX6_text_50 (N : Nat) : Nat → Int32 → Int32 → zS → Option (Int32 × zS)
  | 0, _, _, _ => none
  | n + 1, x1, x2, σ =>
    if (nI 2) ≤ x2 then
      some (x1, σ)
    else
      if zin x2 2 then
      zlet (zpa σ 39 (upd (σ.2 39) x2.toNatClampNeg (vp_nar .boolean (nI 0)))) fun σ3 =>
      (fX6_text_50 N n) x1 (x2 + (nI 1)) σ3
      else none
set_option maxRecDepth 100000 in
set_option maxHeartbeats 4000000 in
theorem hX6_text_50 {p : Program} {l : Launch} {e : Env} {s : State} {m : MethodId} {args : Array Value} {below : List Frame} {meth : Method} {c : Code} {g : zG} {A : Nat → Prop} {τ : zS} {res : Int32 × zS} (C : zCx p s m args meth c cX6_text (some .int) wsX6_text RX6 3) (E : zE g A s) (N : Nat) : ∀ n : Nat, PX6_text_50 p l e s m args below meth c g A τ res (fX6_text_50 N n) := by
  obtain ⟨hx, hb, hr, hml, hown, hts, hlocks⟩ := id C
  intro n
  induction n with
  | zero =>
    intro x1 x2 σ H locs ls hf
    exact absurd hf (by simp [fX6_text_50])
  | succ n ih =>
    intro x1 x2 σ H locs ls hf hh hl
    rw [fX6_text_50] at hf
    refine lv_iload_n hx hb dX6_text_50 rfl (lv_at hl 2 rfl) ?_
    refine lv_iconst (v := (nI 2)) hx hb dX6_text_51 (by decide) ?_
    refine lv_icmp_ge (tgt := 68) hx hb dX6_text_52 (by decide) (fun c_v1 => ?_) (fun c_v1 => ?_)
    · have hf := z_ip hf c_v1
      refine lv_iload_n hx hb dX6_text_68 rfl (lv_at hl 1 rfl) ?_
      have hf := Option.some.inj hf
      subst hf
      exact z_iretX hx hb hr hlocks hh dX6_text_69
    · have hf := z_in hf c_v1
      refine lv_aload_n hx hb dX6_text_55 rfl (lv_at hl 0 rfl) ?_
      refine z_get (v := .ref (g.2.2 39)) hx hb hts (fun w h => List.mem_cons_of_mem _ (List.mem_append_left _ (List.mem_append_left _ (List.mem_append_left _ (List.mem_append_right _ (h)))))) hown E hh (by decide) (zC_obj (q := 54) rfl) rfl 6 (by decide) (hts (.fieldLink RX6 48 "TownBand" "kept" "[Z") (List.mem_cons_of_mem _ (List.mem_append_left _ (List.mem_append_left _ (List.mem_append_left _ (List.mem_append_left _ (List.mem_append_left _ (List.mem_of_getElem? (i := 3) rfl)))))))) rfl dX6_text_56 ?_
      refine lv_iload_n hx hb dX6_text_59 rfl (lv_at hl 2 rfl) ?_
      refine lv_iconst (v := (nI 0)) hx hb dX6_text_60 (by decide) ?_
      obtain ⟨h_v2, hf⟩ := z_if hf
      obtain ⟨σ3, e_σ3, hf⟩ := z_lt hf
      refine z_zast hx hb E hh h_v2 e_σ3 dX6_text_61 (fun H locs hh => ?_)
      refine lv_iinc (v := (x2 + (nI 1))) (lv' := [(2, .int (x2 + (nI 1))), (0, .ref (g.2.2 54)), (1, .int x1)]) hx hb dX6_text_62 hl (k := 2) rfl rfl (by decide) rfl (fun ls hl => ?_)
      refine lv_goto (tgt := 50) hx hb dX6_text_65 (by decide) ?_
      exact ih x1 (x2 + (nI 1)) σ3 _ _ _ hf hh (lv_sub hl [1, 2, 0] rfl)
def fX6_text (N : Nat) (σ : zS)  : Option (Int32 × zS) :=
  (fX4_tellAll N σ).bind fun q1 =>
  zlet (zpf q1.2 50 2 (nI 0)) fun σ2 =>
  if (σ2.1 50 9) = 0 then
    (fX0_copyFrom N σ2 42 43).bind fun q4 =>
    zlet (zpf q4 51 2 (nI 0)) fun σ5 =>
    (fX6_text_50 N N) q1.1 (nI 0) σ5
  else
    some (q1.1, σ2)
set_option maxRecDepth 100000 in
set_option maxHeartbeats 4000000 in
theorem zcX6_text (l : Launch) (g : zG) (A : Nat → Prop) (σ τ : zS) (N : Nat)   {res : Int32 × zS} (hf : fX6_text N σ = some res) : Met l yX6_text wsX6_text (zR 8) (zPc g A σ τ [.ref (g.2.2 54)]) (zQi g A τ res) 0 0 A := by
  refine z_met (cc := cX6_text) (ret := (some .int)) (own := RX6) (by decide) rfl rfl _ (Nat.le_of_ble_eq_true rfl) ?_
  intro p e s m below meth c C E ls hl hh
  have hl : lv_has ls 3 [(0, .ref (g.2.2 54))] := hl
  obtain ⟨hx, hb, hr, hml, hown, hts, hlocks⟩ := id C
  unfold fX6_text at hf
  refine lv_aload_n hx hb dX6_text_0 rfl (lv_at hl 0 rfl) ?_
  refine z_get (v := .ref (g.2.2 50)) hx hb hts (fun w h => List.mem_cons_of_mem _ (List.mem_append_left _ (List.mem_append_left _ (List.mem_append_left _ (List.mem_append_right _ (h)))))) hown E hh (by decide) (zC_obj (q := 54) rfl) rfl 1 (by decide) (hts (.fieldLink RX6 19 "TownBand" "tape" "LTownBand$Tape;") (List.mem_cons_of_mem _ (List.mem_append_left _ (List.mem_append_left _ (List.mem_append_left _ (List.mem_append_left _ (List.mem_append_left _ (List.mem_of_getElem? (i := 0) rfl)))))))) rfl dX6_text_1 ?_
  obtain ⟨q1, h_q1, hf⟩ := z_bd hf
  refine z_xi (va_runVN (As := []) (rest := []) ⟨hx, hb, hml, hown, hts⟩ (zcX4_tellAll l g A σ τ N  h_q1) ⟨va_cnB 0 hts gX6_text_X4_tellAll_n77 rfl rfl rfl (zE_m E 7 rfl) (hts (.initialized RX4) (List.mem_cons_of_mem _ (List.mem_append_left _ (List.mem_append_left _ (List.mem_append_left _ (List.mem_append_left _ (List.mem_append_left _ (List.mem_of_getElem? (i := 5) rfl)))))))) hdX4_tellAll.2 ⟨by decide, by decide⟩, (hts (.instanceMethod yX4_tellAll) (List.mem_cons_of_mem _ (List.mem_append_left _ (List.mem_append_left _ (List.mem_append_left _ (List.mem_append_left _ (List.mem_append_left _ (List.mem_of_getElem? (i := 4) rfl)))))))), (hts (.selects RX4 yX4_tellAll yX4_tellAll) (List.mem_cons_of_mem _ (List.mem_append_left _ (List.mem_append_left _ (List.mem_append_left _ (List.mem_append_left _ (List.mem_append_left _ (List.mem_of_getElem? (i := 6) rfl))))))))⟩ (z_preV E hh (by decide) (zC_obj (q := 50) rfl) rfl) rfl rfl hl.1 rfl (lv_room (Nat.le_of_ble_eq_true rfl)) dX6_text_4 ⟨Nat.le_refl _, Nat.le_refl _⟩) hh (fun H locs hh => ?_)
  refine lv_istore_n (lv' := [(1, .int q1.1), (0, .ref (g.2.2 54))]) hx hb dX6_text_7 rfl hl (by decide) rfl (fun ls hl => ?_)
  refine lv_aload_n hx hb dX6_text_8 rfl (lv_at hl 1 rfl) ?_
  refine z_get (v := .ref (g.2.2 50)) hx hb hts (fun w h => List.mem_cons_of_mem _ (List.mem_append_left _ (List.mem_append_left _ (List.mem_append_left _ (List.mem_append_right _ (h)))))) hown E hh (by decide) (zC_obj (q := 54) rfl) rfl 1 (by decide) (hts (.fieldLink RX6 19 "TownBand" "tape" "LTownBand$Tape;") (List.mem_cons_of_mem _ (List.mem_append_left _ (List.mem_append_left _ (List.mem_append_left _ (List.mem_append_left _ (List.mem_append_left _ (List.mem_of_getElem? (i := 0) rfl)))))))) rfl dX6_text_9 ?_
  refine lv_iconst (v := (nI 0)) hx hb dX6_text_12 (by decide) ?_
  obtain ⟨σ2, e_σ2, hf⟩ := z_lt hf
  refine z_putN hx hb hts (fun w h => List.mem_cons_of_mem _ (List.mem_append_left _ (List.mem_append_left _ (List.mem_append_right _ (h))))) tyX4 tyX4_ok nmX4 hown E hh (by decide) (show zD 50 = _ from rfl) rfl 2 (by decide) rfl (zE_f E 27 rfl) rfl rfl e_σ2 dX6_text_13 (fun H locs hh => ?_)
  refine lv_aload_n hx hb dX6_text_16 rfl (lv_at hl 1 rfl) ?_
  refine z_get (v := .ref (g.2.2 50)) hx hb hts (fun w h => List.mem_cons_of_mem _ (List.mem_append_left _ (List.mem_append_left _ (List.mem_append_left _ (List.mem_append_right _ (h)))))) hown E hh (by decide) (zC_obj (q := 54) rfl) rfl 1 (by decide) (hts (.fieldLink RX6 19 "TownBand" "tape" "LTownBand$Tape;") (List.mem_cons_of_mem _ (List.mem_append_left _ (List.mem_append_left _ (List.mem_append_left _ (List.mem_append_left _ (List.mem_append_left _ (List.mem_of_getElem? (i := 0) rfl)))))))) rfl dX6_text_17 ?_
  refine z_getN (v := .int (σ2.1 50 9)) hx hb hts (fun w h => List.mem_cons_of_mem _ (List.mem_append_left _ (List.mem_append_left _ (List.mem_append_right _ (h))))) hown E hh (by decide) (zC_obj (q := 50) rfl) rfl 9 (by decide) (zE_f E 28 rfl) rfl dX6_text_20 ?_
  refine lv_if_ne (tgt := 68) hx hb dX6_text_23 (by decide) (fun c_v3 => ?_) (fun c_v3 => ?_)
  · have hf := z_in hf c_v3
    refine lv_iload_n hx hb dX6_text_68 rfl (lv_at hl 0 rfl) ?_
    have hf := Option.some.inj hf
    subst hf
    exact z_iretX hx hb hr hlocks hh dX6_text_69
  · have hf := z_ip hf c_v3
    refine lv_aload_n hx hb dX6_text_26 rfl (lv_at hl 1 rfl) ?_
    refine z_get (v := .ref (g.2.2 42)) hx hb hts (fun w h => List.mem_cons_of_mem _ (List.mem_append_left _ (List.mem_append_left _ (List.mem_append_left _ (List.mem_append_right _ (h)))))) hown E hh (by decide) (zC_obj (q := 54) rfl) rfl 0 (by decide) (hts (.fieldLink RX6 10 "TownBand" "band" "LTownBand$Band;") (List.mem_cons_of_mem _ (List.mem_append_left _ (List.mem_append_left _ (List.mem_append_left _ (List.mem_append_left _ (List.mem_append_left _ (List.mem_of_getElem? (i := 1) rfl)))))))) rfl dX6_text_27 ?_
    refine lv_aload_n hx hb dX6_text_30 rfl (lv_at hl 1 rfl) ?_
    refine z_get (v := .ref (g.2.2 50)) hx hb hts (fun w h => List.mem_cons_of_mem _ (List.mem_append_left _ (List.mem_append_left _ (List.mem_append_left _ (List.mem_append_right _ (h)))))) hown E hh (by decide) (zC_obj (q := 54) rfl) rfl 1 (by decide) (hts (.fieldLink RX6 19 "TownBand" "tape" "LTownBand$Tape;") (List.mem_cons_of_mem _ (List.mem_append_left _ (List.mem_append_left _ (List.mem_append_left _ (List.mem_append_left _ (List.mem_append_left _ (List.mem_of_getElem? (i := 0) rfl)))))))) rfl dX6_text_31 ?_
    refine z_getN (v := .ref (g.2.2 43)) hx hb hts (fun w h => List.mem_cons_of_mem _ (List.mem_append_left _ (List.mem_append_left _ (List.mem_append_right _ (h))))) hown E hh (by decide) (zC_obj (q := 50) rfl) rfl 1 (by decide) (zE_f E 26 rfl) rfl dX6_text_34 ?_
    obtain ⟨q4, h_q4, hf⟩ := z_bd hf
    refine z_xv (va_runVN (As := [.ref (g.2.2 43)]) (rest := []) ⟨hx, hb, hml, hown, hts⟩ (zcX0_copyFrom l g A σ2 τ N 42 43 (by decide) (by decide) (by decide) (by decide) h_q4) ⟨va_cnB 1 hts gX6_text_X0_copyFrom_n87 rfl rfl rfl (zE_m E 14 rfl) (hts (.initialized RX0) (List.mem_cons_of_mem _ (List.mem_append_left _ (List.mem_append_left _ (List.mem_append_left _ (List.mem_append_left _ (List.mem_append_left _ (List.mem_of_getElem? (i := 15) rfl)))))))) hdX0_copyFrom.2 ⟨by decide, by decide⟩, (hts (.instanceMethod yX0_copyFrom) (List.mem_cons_of_mem _ (List.mem_append_left _ (List.mem_append_left _ (List.mem_append_left _ (List.mem_append_left _ (List.mem_append_right _ (List.mem_append_right _ (List.mem_append_right _ (List.mem_append_right _ (List.mem_append_right _ (List.mem_append_right _ (List.mem_append_right _ (List.mem_of_getElem? (i := 12) rfl)))))))))))))), (hts (.selects RX0 yX0_copyFrom yX0_copyFrom) (List.mem_cons_of_mem _ (List.mem_append_left _ (List.mem_append_left _ (List.mem_append_left _ (List.mem_append_left _ (List.mem_append_right _ (List.mem_append_right _ (List.mem_append_right _ (List.mem_append_right _ (List.mem_append_right _ (List.mem_append_right _ (List.mem_append_right _ (List.mem_of_getElem? (i := 13) rfl))))))))))))))⟩ (z_preV E hh (by decide) (zC_band (by decide) (by decide)) rfl) rfl rfl hl.1 rfl (lv_room (Nat.le_of_ble_eq_true rfl)) dX6_text_37 ⟨Nat.le_refl _, Nat.le_refl _⟩) hh (fun H locs hh => ?_)
    refine lv_aload_n hx hb dX6_text_40 rfl (lv_at hl 1 rfl) ?_
    refine z_get (v := .ref (g.2.2 51)) hx hb hts (fun w h => List.mem_cons_of_mem _ (List.mem_append_left _ (List.mem_append_left _ (List.mem_append_left _ (List.mem_append_right _ (h)))))) hown E hh (by decide) (zC_obj (q := 54) rfl) rfl 2 (by decide) (hts (.fieldLink RX6 26 "TownBand" "seen" "LTownBand$Seen;") (List.mem_cons_of_mem _ (List.mem_append_left _ (List.mem_append_left _ (List.mem_append_left _ (List.mem_append_left _ (List.mem_append_left _ (List.mem_of_getElem? (i := 2) rfl)))))))) rfl dX6_text_41 ?_
    refine lv_iconst (v := (nI 0)) hx hb dX6_text_44 (by decide) ?_
    obtain ⟨σ5, e_σ5, hf⟩ := z_lt hf
    refine z_putN hx hb hts (fun w h => List.mem_cons_of_mem _ (List.mem_append_left _ (List.mem_append_right _ (h)))) tyX2 tyX2_ok nmX2 hown E hh (by decide) (show zD 51 = _ from rfl) rfl 2 (by decide) rfl (zE_f E 34 rfl) rfl rfl e_σ5 dX6_text_45 (fun H locs hh => ?_)
    refine lv_iconst (v := (nI 0)) hx hb dX6_text_48 (by decide) ?_
    refine lv_istore_n (lv' := [(2, .int (nI 0)), (1, .int q1.1), (0, .ref (g.2.2 54))]) hx hb dX6_text_49 rfl hl (by decide) rfl (fun ls hl => ?_)
    exact (hX6_text_50 C E N N) q1.1 (nI 0) σ5 _ _ _ hf hh (lv_sub hl [2, 1, 0] rfl)

/-! ===== X4_passRun ===== -/
theorem hdX4_passRun : yX4_passRun.cls = RX4 ∧ yX4_passRun.cls ≠ "java/lang/invoke/MethodHandle" ∧ yX4_passRun.cls ≠ "java/lang/invoke/VarHandle" ∧ (parseMethodDescriptor yX4_passRun.desc).map (fun d => d.parameters.length) = some 2 := by decide +kernel
def PX4_passRun_0 (p : Program) (l : Launch) (e : Env) (s : State) (m : MethodId) (args : Array Value) (below : List Frame) (meth : Method) (c : Code) (g : zG) (A : Nat → Prop) (τ : zS) (res : zS) (f : Int32 → Int32 → zS → Option (zS)) : Prop := ∀ (x1 : Int32) (x2 : Int32) (σ : zS) (H : Heap) (locs : List Loc) (ls : Array Slot), f x1 x2 σ = some res → zW g A σ τ s H locs → lv_has ls 3 [(0, .ref (g.2.2 50)), (1, .int x1), (2, .int x2)] → W p l e (zR 1) s m args below meth c H locs 0 0 (MQ below (zQv g A τ res) args s 0 0 A) (F0 m 0 ls [])
def fX4_passRun_0 (N : Nat) : Nat → Int32 → Int32 → zS → Option (zS)
  | 0, _, _, _ => none
  | n + 1, x1, x2, σ =>
    if (σ.1 50 2) ≤ (σ.1 50 3) then
      some σ
    else
      if zin (σ.1 50 3) (zlen 24) then
      zlet (σ.2 24 (σ.1 50 3).toNatClampNeg) fun v3 =>
      (fX6_within N v3 x1 x2).bind fun q4 =>
      if q4 = 0 then
        some σ
      else
        zlet (zpf σ 50 3 ((σ.1 50 3) + (nI 1))) fun σ6 =>
        (fX4_passRun_0 N n) x1 x2 σ6
      else none
set_option maxRecDepth 100000 in
set_option maxHeartbeats 4000000 in
theorem hX4_passRun_0 {p : Program} {l : Launch} {e : Env} {s : State} {m : MethodId} {args : Array Value} {below : List Frame} {meth : Method} {c : Code} {g : zG} {A : Nat → Prop} {τ : zS} {res : zS} (C : zCx p s m args meth c cX4_passRun none wsX4_passRun RX4 3) (E : zE g A s) (N : Nat) : ∀ n : Nat, PX4_passRun_0 p l e s m args below meth c g A τ res (fX4_passRun_0 N n) := by
  obtain ⟨hx, hb, hr, hml, hown, hts, hlocks⟩ := id C
  intro n
  induction n with
  | zero =>
    intro x1 x2 σ H locs ls hf
    exact absurd hf (by simp [fX4_passRun_0])
  | succ n ih =>
    intro x1 x2 σ H locs ls hf hh hl
    rw [fX4_passRun_0] at hf
    refine lv_aload_n hx hb dX4_passRun_0 rfl (lv_at hl 0 rfl) ?_
    refine z_get (v := .int (σ.1 50 3)) hx hb hts (fun w h => List.mem_cons_of_mem _ (List.mem_append_right _ (h))) hown E hh (by decide) (zC_obj (q := 50) rfl) rfl 3 (by decide) (hts (.fieldLink RX4 39 "TownBand$Tape" "place" "I") (List.mem_cons_of_mem _ (List.mem_append_left _ (List.mem_of_getElem? (i := 0) rfl)))) rfl dX4_passRun_1 ?_
    refine lv_aload_n hx hb dX4_passRun_4 rfl (lv_at hl 0 rfl) ?_
    refine z_get (v := .int (σ.1 50 2)) hx hb hts (fun w h => List.mem_cons_of_mem _ (List.mem_append_right _ (h))) hown E hh (by decide) (zC_obj (q := 50) rfl) rfl 2 (by decide) (hts (.fieldLink RX4 22 "TownBand$Tape" "length" "I") (List.mem_cons_of_mem _ (List.mem_append_left _ (List.mem_of_getElem? (i := 1) rfl)))) rfl dX4_passRun_5 ?_
    refine lv_icmp_ge (tgt := 41) hx hb dX4_passRun_8 (by decide) (fun c_v1 => ?_) (fun c_v1 => ?_)
    · have hf := z_ip hf c_v1
      have hf := Option.some.inj hf
      subst hf
      exact z_vretX hx hb hr hlocks hh dX4_passRun_41
    · have hf := z_in hf c_v1
      refine lv_aload_n hx hb dX4_passRun_11 rfl (lv_at hl 0 rfl) ?_
      refine z_get (v := .ref (g.2.2 24)) hx hb hts (fun w h => List.mem_cons_of_mem _ (List.mem_append_right _ (h))) hown E hh (by decide) (zC_obj (q := 50) rfl) rfl 0 (by decide) (hts (.fieldLink RX4 9 "TownBand$Tape" "bytes" "[I") (List.mem_cons_of_mem _ (List.mem_append_left _ (List.mem_of_getElem? (i := 2) rfl)))) rfl dX4_passRun_12 ?_
      refine lv_aload_n hx hb dX4_passRun_15 rfl (lv_at hl 0 rfl) ?_
      refine z_get (v := .int (σ.1 50 3)) hx hb hts (fun w h => List.mem_cons_of_mem _ (List.mem_append_right _ (h))) hown E hh (by decide) (zC_obj (q := 50) rfl) rfl 3 (by decide) (hts (.fieldLink RX4 39 "TownBand$Tape" "place" "I") (List.mem_cons_of_mem _ (List.mem_append_left _ (List.mem_of_getElem? (i := 0) rfl)))) rfl dX4_passRun_16 ?_
      obtain ⟨h_v2, hf⟩ := z_if hf
      obtain ⟨v3, e_v3, hf⟩ := z_lt hf
      refine z_iald hx hb E hh (by decide) h_v2 e_v3 dX4_passRun_19 ?_
      refine lv_iload_n hx hb dX4_passRun_20 rfl (lv_at hl 1 rfl) ?_
      refine lv_iload_n hx hb dX4_passRun_21 rfl (lv_at hl 2 rfl) ?_
      obtain ⟨q4, h_q4, hf⟩ := z_bd hf
      refine z_xi (va_runSN (As := [.int v3, .int x1, .int x2]) (rest := []) ⟨hx, hb, hml, hown, hts⟩ (zcX6_within l g A σ τ N v3 x1 x2 h_q4) ⟨va_cnB 3 hts gX4_passRun_X6_within_n137 rfl rfl rfl (zE_m E 10 rfl) (hts (.initialized RX6) (List.mem_cons_of_mem _ (List.mem_append_left _ (List.mem_of_getElem? (i := 4) rfl)))) hdX6_within.2 ⟨by decide, by decide⟩, (hts (.static yX6_within) (List.mem_cons_of_mem _ (List.mem_append_left _ (List.mem_of_getElem? (i := 3) rfl)))), trivial⟩ (z_preS E hh) rfl rfl hl.1 rfl (lv_room (Nat.le_of_ble_eq_true rfl)) dX4_passRun_22 ⟨Nat.le_refl _, Nat.le_refl _⟩) hh (fun H locs hh => ?_)
      refine lv_if_eq (tgt := 41) hx hb dX4_passRun_25 (by decide) (fun c_v5 => ?_) (fun c_v5 => ?_)
      · have hf := z_ip hf c_v5
        have hf := Option.some.inj hf
        subst hf
        exact z_vretX hx hb hr hlocks hh dX4_passRun_41
      · have hf := z_in hf c_v5
        refine lv_aload_n hx hb dX4_passRun_28 rfl (lv_at hl 0 rfl) ?_
        refine lv_dup hx hb dX4_passRun_29 rfl ?_
        refine z_get (v := .int (σ.1 50 3)) hx hb hts (fun w h => List.mem_cons_of_mem _ (List.mem_append_right _ (h))) hown E hh (by decide) (zC_obj (q := 50) rfl) rfl 3 (by decide) (hts (.fieldLink RX4 39 "TownBand$Tape" "place" "I") (List.mem_cons_of_mem _ (List.mem_append_left _ (List.mem_of_getElem? (i := 0) rfl)))) rfl dX4_passRun_30 ?_
        refine lv_iconst (v := (nI 1)) hx hb dX4_passRun_33 (by decide) ?_
        refine lv_iadd hx hb dX4_passRun_34 ?_
        obtain ⟨σ6, e_σ6, hf⟩ := z_lt hf
        refine z_put hx hb hts (fun w h => List.mem_cons_of_mem _ (List.mem_append_right _ (h))) tyX4 tyX4_ok nmX4 hown E hh (by decide) (show zD 50 = _ from rfl) rfl 3 (by decide) rfl (hts (.fieldLink RX4 39 "TownBand$Tape" "place" "I") (List.mem_cons_of_mem _ (List.mem_append_left _ (List.mem_of_getElem? (i := 0) rfl)))) rfl rfl e_σ6 dX4_passRun_35 (fun H locs hh => ?_)
        refine lv_goto (tgt := 0) hx hb dX4_passRun_38 (by decide) ?_
        exact ih x1 x2 σ6 _ _ _ hf hh (lv_sub hl [0, 1, 2] rfl)
def fX4_passRun (N : Nat) (σ : zS) (x1 : Int32) (x2 : Int32) : Option (zS) :=
  (fX4_passRun_0 N N) x1 x2 σ
set_option maxRecDepth 100000 in
set_option maxHeartbeats 4000000 in
theorem zcX4_passRun (l : Launch) (g : zG) (A : Nat → Prop) (σ τ : zS) (N : Nat) (x1 : Int32) (x2 : Int32)  {res : zS} (hf : fX4_passRun N σ x1 x2 = some res) : Met l yX4_passRun wsX4_passRun (zR 1) (zPc g A σ τ [.ref (g.2.2 50), .int x1, .int x2]) (zQv g A τ res) 0 0 A := by
  refine z_met (cc := cX4_passRun) (ret := none) (own := RX4) (by decide) rfl rfl _ (Nat.le_of_ble_eq_true rfl) ?_
  intro p e s m below meth c C E ls hl hh
  have hl : lv_has ls 3 [(0, .ref (g.2.2 50)), (1, .int x1), (2, .int x2)] := hl
  obtain ⟨hx, hb, hr, hml, hown, hts, hlocks⟩ := id C
  unfold fX4_passRun at hf
  exact (hX4_passRun_0 C E N N) x1 x2 σ _ _ _ hf hh (lv_sub hl [0, 1, 2] rfl)
/-! ===== X4_spellNumber ===== -/
theorem hdX4_spellNumber : yX4_spellNumber.cls = RX4 ∧ yX4_spellNumber.cls ≠ "java/lang/invoke/MethodHandle" ∧ yX4_spellNumber.cls ≠ "java/lang/invoke/VarHandle" ∧ (parseMethodDescriptor yX4_spellNumber.desc).map (fun d => d.parameters.length) = some 0 := by decide +kernel
def PX4_spellNumber_10 (p : Program) (l : Launch) (e : Env) (s : State) (m : MethodId) (args : Array Value) (below : List Frame) (meth : Method) (c : Code) (g : zG) (A : Nat → Prop) (τ : zS) (res : Int32 × zS) (f : Int32 → zS → Option (Int32 × zS)) : Prop := ∀ (x1 : Int32) (σ : zS) (H : Heap) (locs : List Loc) (ls : Array Slot), f x1 σ = some res → zW g A σ τ s H locs → lv_has ls 2 [(0, .ref (g.2.2 50)), (1, .int x1)] → W p l e (zR 0) s m args below meth c H locs 0 0 (MQ below (zQi g A τ res) args s 0 0 A) (F0 m 10 ls [])
def fX4_spellNumber_10 (N : Nat) : Nat → Int32 → zS → Option (Int32 × zS)
  | 0, _, _ => none
  | n + 1, x1, σ =>
    if (σ.1 50 3) ≤ x1 then
      some (1, σ)
    else
      if zin x1 (zlen 24) then
      zlet (σ.2 24 x1.toNatClampNeg) fun v3 =>
      zlet (zpf σ 50 6 ((((σ.1 50 6) * (nI 10)) + v3) - (nI 48))) fun σ4 =>
      (fX4_spellNumber_10 N n) (x1 + (nI 1)) σ4
      else none
set_option maxRecDepth 100000 in
set_option maxHeartbeats 4000000 in
theorem hX4_spellNumber_10 {p : Program} {l : Launch} {e : Env} {s : State} {m : MethodId} {args : Array Value} {below : List Frame} {meth : Method} {c : Code} {g : zG} {A : Nat → Prop} {τ : zS} {res : Int32 × zS} (C : zCx p s m args meth c cX4_spellNumber (some .boolean) wsX4_spellNumber RX4 2) (E : zE g A s) (N : Nat) : ∀ n : Nat, PX4_spellNumber_10 p l e s m args below meth c g A τ res (fX4_spellNumber_10 N n) := by
  obtain ⟨hx, hb, hr, hml, hown, hts, hlocks⟩ := id C
  intro n
  induction n with
  | zero =>
    intro x1 σ H locs ls hf
    exact absurd hf (by simp [fX4_spellNumber_10])
  | succ n ih =>
    intro x1 σ H locs ls hf hh hl
    rw [fX4_spellNumber_10] at hf
    refine lv_iload_n hx hb dX4_spellNumber_10 rfl (lv_at hl 1 rfl) ?_
    refine lv_aload_n hx hb dX4_spellNumber_11 rfl (lv_at hl 0 rfl) ?_
    refine z_get (v := .int (σ.1 50 3)) hx hb hts (fun w h => List.mem_cons_of_mem _ (List.mem_append_right _ (h))) hown E hh (by decide) (zC_obj (q := 50) rfl) rfl 3 (by decide) (hts (.fieldLink RX4 39 "TownBand$Tape" "place" "I") (List.mem_cons_of_mem _ (List.mem_append_left _ (List.mem_of_getElem? (i := 2) rfl)))) rfl dX4_spellNumber_12 ?_
    refine lv_icmp_ge (tgt := 45) hx hb dX4_spellNumber_15 (by decide) (fun c_v1 => ?_) (fun c_v1 => ?_)
    · have hf := z_ip hf c_v1
      refine lv_iconst (v := (nI 1)) hx hb dX4_spellNumber_45 (by decide) ?_
      have hf := Option.some.inj hf
      subst hf
      exact z_zretX hx hb hr hlocks (Or.inr rfl) hh dX4_spellNumber_46
    · have hf := z_in hf c_v1
      refine lv_aload_n hx hb dX4_spellNumber_18 rfl (lv_at hl 0 rfl) ?_
      refine lv_aload_n hx hb dX4_spellNumber_19 rfl (lv_at hl 0 rfl) ?_
      refine z_get (v := .int (σ.1 50 6)) hx hb hts (fun w h => List.mem_cons_of_mem _ (List.mem_append_right _ (h))) hown E hh (by decide) (zC_obj (q := 50) rfl) rfl 6 (by decide) (hts (.fieldLink RX4 103 "TownBand$Tape" "number" "I") (List.mem_cons_of_mem _ (List.mem_append_left _ (List.mem_of_getElem? (i := 0) rfl)))) rfl dX4_spellNumber_20 ?_
      refine lv_bipush (v := (nI 10)) hx hb dX4_spellNumber_23 (by decide) ?_
      refine lv_imul hx hb dX4_spellNumber_25 ?_
      refine lv_aload_n hx hb dX4_spellNumber_26 rfl (lv_at hl 0 rfl) ?_
      refine z_get (v := .ref (g.2.2 24)) hx hb hts (fun w h => List.mem_cons_of_mem _ (List.mem_append_right _ (h))) hown E hh (by decide) (zC_obj (q := 50) rfl) rfl 0 (by decide) (hts (.fieldLink RX4 9 "TownBand$Tape" "bytes" "[I") (List.mem_cons_of_mem _ (List.mem_append_left _ (List.mem_of_getElem? (i := 3) rfl)))) rfl dX4_spellNumber_27 ?_
      refine lv_iload_n hx hb dX4_spellNumber_30 rfl (lv_at hl 1 rfl) ?_
      obtain ⟨h_v2, hf⟩ := z_if hf
      obtain ⟨v3, e_v3, hf⟩ := z_lt hf
      refine z_iald hx hb E hh (by decide) h_v2 e_v3 dX4_spellNumber_31 ?_
      refine lv_iadd hx hb dX4_spellNumber_32 ?_
      refine lv_bipush (v := (nI 48)) hx hb dX4_spellNumber_33 (by decide) ?_
      refine lv_isub hx hb dX4_spellNumber_35 ?_
      obtain ⟨σ4, e_σ4, hf⟩ := z_lt hf
      refine z_put hx hb hts (fun w h => List.mem_cons_of_mem _ (List.mem_append_right _ (h))) tyX4 tyX4_ok nmX4 hown E hh (by decide) (show zD 50 = _ from rfl) rfl 6 (by decide) rfl (hts (.fieldLink RX4 103 "TownBand$Tape" "number" "I") (List.mem_cons_of_mem _ (List.mem_append_left _ (List.mem_of_getElem? (i := 0) rfl)))) rfl rfl e_σ4 dX4_spellNumber_36 (fun H locs hh => ?_)
      refine lv_iinc (v := (x1 + (nI 1))) (lv' := [(1, .int (x1 + (nI 1))), (0, .ref (g.2.2 50))]) hx hb dX4_spellNumber_39 hl (k := 1) rfl rfl (by decide) rfl (fun ls hl => ?_)
      refine lv_goto (tgt := 10) hx hb dX4_spellNumber_42 (by decide) ?_
      exact ih (x1 + (nI 1)) σ4 _ _ _ hf hh (lv_sub hl [1, 0] rfl)
def fX4_spellNumber (N : Nat) (σ : zS)  : Option (Int32 × zS) :=
  zlet (zpf σ 50 6 (nI 0)) fun σ1 =>
  zlet (σ1.1 50 5) fun v2 =>
  (fX4_spellNumber_10 N N) v2 σ1
set_option maxRecDepth 100000 in
set_option maxHeartbeats 4000000 in
theorem zcX4_spellNumber (l : Launch) (g : zG) (A : Nat → Prop) (σ τ : zS) (N : Nat)   {res : Int32 × zS} (hf : fX4_spellNumber N σ = some res) : Met l yX4_spellNumber wsX4_spellNumber (zR 0) (zPc g A σ τ [.ref (g.2.2 50)]) (zQi g A τ res) 0 0 A := by
  refine z_met (cc := cX4_spellNumber) (ret := (some .boolean)) (own := RX4) (by decide) rfl rfl _ (Nat.le_of_ble_eq_true rfl) ?_
  intro p e s m below meth c C E ls hl hh
  have hl : lv_has ls 2 [(0, .ref (g.2.2 50))] := hl
  obtain ⟨hx, hb, hr, hml, hown, hts, hlocks⟩ := id C
  unfold fX4_spellNumber at hf
  refine lv_aload_n hx hb dX4_spellNumber_0 rfl (lv_at hl 0 rfl) ?_
  refine lv_iconst (v := (nI 0)) hx hb dX4_spellNumber_1 (by decide) ?_
  obtain ⟨σ1, e_σ1, hf⟩ := z_lt hf
  refine z_put hx hb hts (fun w h => List.mem_cons_of_mem _ (List.mem_append_right _ (h))) tyX4 tyX4_ok nmX4 hown E hh (by decide) (show zD 50 = _ from rfl) rfl 6 (by decide) rfl (hts (.fieldLink RX4 103 "TownBand$Tape" "number" "I") (List.mem_cons_of_mem _ (List.mem_append_left _ (List.mem_of_getElem? (i := 0) rfl)))) rfl rfl e_σ1 dX4_spellNumber_2 (fun H locs hh => ?_)
  refine lv_aload_n hx hb dX4_spellNumber_5 rfl (lv_at hl 0 rfl) ?_
  refine z_get (v := .int (σ1.1 50 5)) hx hb hts (fun w h => List.mem_cons_of_mem _ (List.mem_append_right _ (h))) hown E hh (by decide) (zC_obj (q := 50) rfl) rfl 5 (by decide) (hts (.fieldLink RX4 80 "TownBand$Tape" "start" "I") (List.mem_cons_of_mem _ (List.mem_append_left _ (List.mem_of_getElem? (i := 1) rfl)))) rfl dX4_spellNumber_6 ?_
  obtain ⟨v2, e_v2, hf⟩ := z_lt hf
  refine z_topi e_v2 ?_
  refine lv_istore_n (lv' := [(1, .int v2), (0, .ref (g.2.2 50))]) hx hb dX4_spellNumber_9 rfl hl (by decide) rfl (fun ls hl => ?_)
  exact (hX4_spellNumber_10 C E N N) v2 σ1 _ _ _ hf hh (lv_sub hl [1, 0] rfl)
/-! ===== X4_refuse ===== -/
theorem hdX4_refuse : yX4_refuse.cls = RX4 ∧ yX4_refuse.cls ≠ "java/lang/invoke/MethodHandle" ∧ yX4_refuse.cls ≠ "java/lang/invoke/VarHandle" ∧ (parseMethodDescriptor yX4_refuse.desc).map (fun d => d.parameters.length) = some 2 := by decide +kernel
def fX4_refuse (N : Nat) (σ : zS) (x1 : Int32) (x2 : Int32) : Option (Int32 × zS) :=
  zlet (zpf σ 50 9 x1) fun σ1 =>
  zlet (zpf σ1 50 10 x2) fun σ2 =>
  some (0, σ2)
set_option maxRecDepth 100000 in
set_option maxHeartbeats 4000000 in
theorem zcX4_refuse (l : Launch) (g : zG) (A : Nat → Prop) (σ τ : zS) (N : Nat) (x1 : Int32) (x2 : Int32)  {res : Int32 × zS} (hf : fX4_refuse N σ x1 x2 = some res) : Met l yX4_refuse wsX4_refuse (zR 0) (zPc g A σ τ [.ref (g.2.2 50), .int x1, .int x2]) (zQi g A τ res) 0 0 A := by
  refine z_met (cc := cX4_refuse) (ret := (some .boolean)) (own := RX4) (by decide) rfl rfl _ (Nat.le_of_ble_eq_true rfl) ?_
  intro p e s m below meth c C E ls hl hh
  have hl : lv_has ls 3 [(0, .ref (g.2.2 50)), (1, .int x1), (2, .int x2)] := hl
  obtain ⟨hx, hb, hr, hml, hown, hts, hlocks⟩ := id C
  unfold fX4_refuse at hf
  refine lv_aload_n hx hb dX4_refuse_0 rfl (lv_at hl 0 rfl) ?_
  refine lv_iload_n hx hb dX4_refuse_1 rfl (lv_at hl 1 rfl) ?_
  obtain ⟨σ1, e_σ1, hf⟩ := z_lt hf
  refine z_put hx hb hts (fun w h => List.mem_cons_of_mem _ (List.mem_append_right _ (h))) tyX4 tyX4_ok nmX4 hown E hh (by decide) (show zD 50 = _ from rfl) rfl 9 (by decide) rfl (hts (.fieldLink RX4 26 "TownBand$Tape" "flaw" "I") (List.mem_cons_of_mem _ (List.mem_append_left _ (List.mem_of_getElem? (i := 0) rfl)))) rfl rfl e_σ1 dX4_refuse_2 (fun H locs hh => ?_)
  refine lv_aload_n hx hb dX4_refuse_5 rfl (lv_at hl 0 rfl) ?_
  refine lv_iload_n hx hb dX4_refuse_6 rfl (lv_at hl 2 rfl) ?_
  obtain ⟨σ2, e_σ2, hf⟩ := z_lt hf
  refine z_put hx hb hts (fun w h => List.mem_cons_of_mem _ (List.mem_append_right _ (h))) tyX4 tyX4_ok nmX4 hown E hh (by decide) (show zD 50 = _ from rfl) rfl 10 (by decide) rfl (hts (.fieldLink RX4 55 "TownBand$Tape" "flawPlace" "I") (List.mem_cons_of_mem _ (List.mem_append_left _ (List.mem_of_getElem? (i := 1) rfl)))) rfl rfl e_σ2 dX4_refuse_7 (fun H locs hh => ?_)
  refine lv_iconst (v := (nI 0)) hx hb dX4_refuse_10 (by decide) ?_
  have hf := Option.some.inj hf
  subst hf
  exact z_zretX hx hb hr hlocks (Or.inl rfl) hh dX4_refuse_11
/-! ===== X4_takeToken ===== -/
theorem hdX4_takeToken : yX4_takeToken.cls = RX4 ∧ yX4_takeToken.cls ≠ "java/lang/invoke/MethodHandle" ∧ yX4_takeToken.cls ≠ "java/lang/invoke/VarHandle" ∧ (parseMethodDescriptor yX4_takeToken.desc).map (fun d => d.parameters.length) = some 0 := by decide +kernel
def PX4_takeToken_38 (p : Program) (l : Launch) (e : Env) (s : State) (m : MethodId) (args : Array Value) (below : List Frame) (meth : Method) (c : Code) (g : zG) (A : Nat → Prop) (τ : zS) (res : Int32 × zS) (f : zS → Option (Int32 × zS)) : Prop := ∀  (σ : zS) (H : Heap) (locs : List Loc) (ls : Array Slot), f σ = some res → zW g A σ τ s H locs → lv_has ls 2 [(0, .ref (g.2.2 50))] → W p l e (zR 2) s m args below meth c H locs 0 0 (MQ below (zQi g A τ res) args s 0 0 A) (F0 m 38 ls [])
def PX4_takeToken_0 (p : Program) (l : Launch) (e : Env) (s : State) (m : MethodId) (args : Array Value) (below : List Frame) (meth : Method) (c : Code) (g : zG) (A : Nat → Prop) (τ : zS) (res : Int32 × zS) (f : zS → Option (Int32 × zS)) : Prop := ∀  (σ : zS) (H : Heap) (locs : List Loc) (ls : Array Slot), f σ = some res → zW g A σ τ s H locs → lv_has ls 2 [(0, .ref (g.2.2 50))] → W p l e (zR 2) s m args below meth c H locs 0 0 (MQ below (zQi g A τ res) args s 0 0 A) (F0 m 0 ls [])
def fX4_takeToken_38 (N : Nat)  (σ : zS) : Option (Int32 × zS) :=
  zlet (zpf σ 50 5 (σ.1 50 3)) fun σ1 =>
  if (σ1.1 50 3) < (σ1.1 50 2) then
    if zin (σ1.1 50 3) (zlen 24) then
    zlet (σ1.2 24 (σ1.1 50 3).toNatClampNeg) fun v4 =>
    if v4 = (nI 59) then
      zlet (zpf σ1 50 4 (nI 2)) fun σ21 =>
      zlet (zpf σ21 50 3 ((σ21.1 50 3) + (nI 1))) fun σ22 =>
      some (1, σ22)
    else
      (fX6_within N v4 (nI 97) (nI 122)).bind fun q6 =>
      if q6 = 0 then
        (fX6_within N v4 (nI 48) (nI 57)).bind fun q8 =>
        if q8 = 0 then
          (fX4_refuse N σ1 (nI 1) (σ1.1 50 5)).bind fun q10 =>
          if q10.1 = 0 ∨ q10.1 = 1 then
          some (q10.1, q10.2)
          else none
        else
          zlet (zpf σ1 50 4 (nI 1)) fun σ12 =>
          (fX4_passRun N σ12 (nI 48) (nI 57)).bind fun q13 =>
          if (nI 2) < ((q13.1 50 3) - (q13.1 50 5)) then
            (fX4_refuse N q13 (nI 1) (q13.1 50 5)).bind fun q15 =>
            if q15.1 = 0 ∨ q15.1 = 1 then
            some (q15.1, q15.2)
            else none
          else
            (fX4_spellNumber N q13).bind fun q17 =>
            if q17.1 = 0 ∨ q17.1 = 1 then
            some (q17.1, q17.2)
            else none
      else
        zlet (zpf σ1 50 4 (nI 0)) fun σ19 =>
        (fX4_passRun N σ19 (nI 97) (nI 122)).bind fun q20 =>
        some (1, q20)
    else none
  else
    zlet (zpf σ1 50 4 (nI 3)) fun σ23 =>
    some (1, σ23)
set_option maxRecDepth 100000 in
set_option maxHeartbeats 4000000 in
theorem hX4_takeToken_38 {p : Program} {l : Launch} {e : Env} {s : State} {m : MethodId} {args : Array Value} {below : List Frame} {meth : Method} {c : Code} {g : zG} {A : Nat → Prop} {τ : zS} {res : Int32 × zS} (C : zCx p s m args meth c cX4_takeToken (some .boolean) wsX4_takeToken RX4 2) (E : zE g A s) (N : Nat) : PX4_takeToken_38 p l e s m args below meth c g A τ res (fX4_takeToken_38 N) := by
  obtain ⟨hx, hb, hr, hml, hown, hts, hlocks⟩ := id C
  intro σ H locs ls hf hh hl
  unfold fX4_takeToken_38 at hf
  refine lv_aload_n hx hb dX4_takeToken_38 rfl (lv_at hl 0 rfl) ?_
  refine lv_aload_n hx hb dX4_takeToken_39 rfl (lv_at hl 0 rfl) ?_
  refine z_get (v := .int (σ.1 50 3)) hx hb hts (fun w h => List.mem_cons_of_mem _ (List.mem_append_right _ (h))) hown E hh (by decide) (zC_obj (q := 50) rfl) rfl 3 (by decide) (hts (.fieldLink RX4 39 "TownBand$Tape" "place" "I") (List.mem_cons_of_mem _ (List.mem_append_left _ (List.mem_of_getElem? (i := 0) rfl)))) rfl dX4_takeToken_40 ?_
  obtain ⟨σ1, e_σ1, hf⟩ := z_lt hf
  refine z_put hx hb hts (fun w h => List.mem_cons_of_mem _ (List.mem_append_right _ (h))) tyX4 tyX4_ok nmX4 hown E hh (by decide) (show zD 50 = _ from rfl) rfl 5 (by decide) rfl (hts (.fieldLink RX4 80 "TownBand$Tape" "start" "I") (List.mem_cons_of_mem _ (List.mem_append_left _ (List.mem_of_getElem? (i := 3) rfl)))) rfl rfl e_σ1 dX4_takeToken_43 (fun H locs hh => ?_)
  refine lv_aload_n hx hb dX4_takeToken_46 rfl (lv_at hl 0 rfl) ?_
  refine z_get (v := .int (σ1.1 50 3)) hx hb hts (fun w h => List.mem_cons_of_mem _ (List.mem_append_right _ (h))) hown E hh (by decide) (zC_obj (q := 50) rfl) rfl 3 (by decide) (hts (.fieldLink RX4 39 "TownBand$Tape" "place" "I") (List.mem_cons_of_mem _ (List.mem_append_left _ (List.mem_of_getElem? (i := 0) rfl)))) rfl dX4_takeToken_47 ?_
  refine lv_aload_n hx hb dX4_takeToken_50 rfl (lv_at hl 0 rfl) ?_
  refine z_get (v := .int (σ1.1 50 2)) hx hb hts (fun w h => List.mem_cons_of_mem _ (List.mem_append_right _ (h))) hown E hh (by decide) (zC_obj (q := 50) rfl) rfl 2 (by decide) (hts (.fieldLink RX4 22 "TownBand$Tape" "length" "I") (List.mem_cons_of_mem _ (List.mem_append_left _ (List.mem_of_getElem? (i := 1) rfl)))) rfl dX4_takeToken_51 ?_
  refine lv_icmp_lt (tgt := 64) hx hb dX4_takeToken_54 (by decide) (fun c_v2 => ?_) (fun c_v2 => ?_)
  · have hf := z_ip hf c_v2
    refine lv_aload_n hx hb dX4_takeToken_64 rfl (lv_at hl 0 rfl) ?_
    refine z_get (v := .ref (g.2.2 24)) hx hb hts (fun w h => List.mem_cons_of_mem _ (List.mem_append_right _ (h))) hown E hh (by decide) (zC_obj (q := 50) rfl) rfl 0 (by decide) (hts (.fieldLink RX4 9 "TownBand$Tape" "bytes" "[I") (List.mem_cons_of_mem _ (List.mem_append_left _ (List.mem_of_getElem? (i := 2) rfl)))) rfl dX4_takeToken_65 ?_
    refine lv_aload_n hx hb dX4_takeToken_68 rfl (lv_at hl 0 rfl) ?_
    refine z_get (v := .int (σ1.1 50 3)) hx hb hts (fun w h => List.mem_cons_of_mem _ (List.mem_append_right _ (h))) hown E hh (by decide) (zC_obj (q := 50) rfl) rfl 3 (by decide) (hts (.fieldLink RX4 39 "TownBand$Tape" "place" "I") (List.mem_cons_of_mem _ (List.mem_append_left _ (List.mem_of_getElem? (i := 0) rfl)))) rfl dX4_takeToken_69 ?_
    obtain ⟨h_v3, hf⟩ := z_if hf
    obtain ⟨v4, e_v4, hf⟩ := z_lt hf
    refine z_iald hx hb E hh (by decide) h_v3 e_v4 dX4_takeToken_72 ?_
    refine lv_istore_n (lv' := [(1, .int v4), (0, .ref (g.2.2 50))]) hx hb dX4_takeToken_73 rfl hl (by decide) rfl (fun ls hl => ?_)
    refine lv_iload_n hx hb dX4_takeToken_74 rfl (lv_at hl 0 rfl) ?_
    refine lv_bipush (v := (nI 59)) hx hb dX4_takeToken_75 (by decide) ?_
    refine lv_icmp_ne (tgt := 97) hx hb dX4_takeToken_77 (by decide) (fun c_v5 => ?_) (fun c_v5 => ?_)
    · have hf := z_in hf c_v5
      refine lv_iload_n hx hb dX4_takeToken_97 rfl (lv_at hl 0 rfl) ?_
      refine lv_bipush (v := (nI 97)) hx hb dX4_takeToken_98 (by decide) ?_
      refine lv_bipush (v := (nI 122)) hx hb dX4_takeToken_100 (by decide) ?_
      obtain ⟨q6, h_q6, hf⟩ := z_bd hf
      refine z_xi (va_runSN (As := [.int v4, .int (nI 97), .int (nI 122)]) (rest := []) ⟨hx, hb, hml, hown, hts⟩ (zcX6_within l g A σ1 τ N v4 (nI 97) (nI 122) h_q6) ⟨va_cnB 3 hts gX4_takeToken_X6_within_n137 rfl rfl rfl (zE_m E 10 rfl) (hts (.initialized RX6) (List.mem_cons_of_mem _ (List.mem_append_left _ (List.mem_of_getElem? (i := 6) rfl)))) hdX6_within.2 ⟨by decide, by decide⟩, (hts (.static yX6_within) (List.mem_cons_of_mem _ (List.mem_append_left _ (List.mem_of_getElem? (i := 5) rfl)))), trivial⟩ (z_preS E hh) rfl rfl hl.1 rfl (lv_room (Nat.le_of_ble_eq_true rfl)) dX4_takeToken_102 ⟨Nat.le_refl _, Nat.le_refl _⟩) hh (fun H locs hh => ?_)
      refine lv_if_eq (tgt := 123) hx hb dX4_takeToken_105 (by decide) (fun c_v7 => ?_) (fun c_v7 => ?_)
      · have hf := z_ip hf c_v7
        refine lv_iload_n hx hb dX4_takeToken_123 rfl (lv_at hl 0 rfl) ?_
        refine lv_bipush (v := (nI 48)) hx hb dX4_takeToken_124 (by decide) ?_
        refine lv_bipush (v := (nI 57)) hx hb dX4_takeToken_126 (by decide) ?_
        obtain ⟨q8, h_q8, hf⟩ := z_bd hf
        refine z_xi (va_runSN (As := [.int v4, .int (nI 48), .int (nI 57)]) (rest := []) ⟨hx, hb, hml, hown, hts⟩ (zcX6_within l g A σ1 τ N v4 (nI 48) (nI 57) h_q8) ⟨va_cnB 3 hts gX4_takeToken_X6_within_n137 rfl rfl rfl (zE_m E 10 rfl) (hts (.initialized RX6) (List.mem_cons_of_mem _ (List.mem_append_left _ (List.mem_of_getElem? (i := 6) rfl)))) hdX6_within.2 ⟨by decide, by decide⟩, (hts (.static yX6_within) (List.mem_cons_of_mem _ (List.mem_append_left _ (List.mem_of_getElem? (i := 5) rfl)))), trivial⟩ (z_preS E hh) rfl rfl hl.1 rfl (lv_room (Nat.le_of_ble_eq_true rfl)) dX4_takeToken_128 ⟨Nat.le_refl _, Nat.le_refl _⟩) hh (fun H locs hh => ?_)
        refine lv_if_eq (tgt := 177) hx hb dX4_takeToken_131 (by decide) (fun c_v9 => ?_) (fun c_v9 => ?_)
        · have hf := z_ip hf c_v9
          refine lv_aload_n hx hb dX4_takeToken_177 rfl (lv_at hl 1 rfl) ?_
          refine lv_iconst (v := (nI 1)) hx hb dX4_takeToken_178 (by decide) ?_
          refine lv_aload_n hx hb dX4_takeToken_179 rfl (lv_at hl 1 rfl) ?_
          refine z_get (v := .int (σ1.1 50 5)) hx hb hts (fun w h => List.mem_cons_of_mem _ (List.mem_append_right _ (h))) hown E hh (by decide) (zC_obj (q := 50) rfl) rfl 5 (by decide) (hts (.fieldLink RX4 80 "TownBand$Tape" "start" "I") (List.mem_cons_of_mem _ (List.mem_append_left _ (List.mem_of_getElem? (i := 3) rfl)))) rfl dX4_takeToken_180 ?_
          obtain ⟨q10, h_q10, hf⟩ := z_bd hf
          refine z_xi (va_runV (As := [.int (nI 1), .int (σ1.1 50 5)]) (rest := []) ⟨hx, hb, hml, hown, hts⟩ (zcX4_refuse l g A σ1 τ N (nI 1) (σ1.1 50 5) h_q10) (cwV 2 hts gX4_takeToken_X4_refuse rfl rfl rfl hdX4_refuse ⟨by decide, by decide⟩) (z_preV E hh (by decide) (zC_obj (q := 50) rfl) rfl) rfl rfl hl.1 rfl (lv_room (Nat.le_of_ble_eq_true rfl)) dX4_takeToken_183 ⟨Nat.le_refl _, Nat.le_refl _⟩) hh (fun H locs hh => ?_)
          obtain ⟨h_v11, hf⟩ := z_if hf
          have hf := Option.some.inj hf
          subst hf
          exact z_zretX hx hb hr hlocks h_v11 hh dX4_takeToken_186
        · have hf := z_in hf c_v9
          refine lv_aload_n hx hb dX4_takeToken_134 rfl (lv_at hl 1 rfl) ?_
          refine lv_iconst (v := (nI 1)) hx hb dX4_takeToken_135 (by decide) ?_
          obtain ⟨σ12, e_σ12, hf⟩ := z_lt hf
          refine z_put hx hb hts (fun w h => List.mem_cons_of_mem _ (List.mem_append_right _ (h))) tyX4 tyX4_ok nmX4 hown E hh (by decide) (show zD 50 = _ from rfl) rfl 4 (by decide) rfl (hts (.fieldLink RX4 61 "TownBand$Tape" "token" "I") (List.mem_cons_of_mem _ (List.mem_append_left _ (List.mem_of_getElem? (i := 4) rfl)))) rfl rfl e_σ12 dX4_takeToken_136 (fun H locs hh => ?_)
          refine lv_aload_n hx hb dX4_takeToken_139 rfl (lv_at hl 1 rfl) ?_
          refine lv_bipush (v := (nI 48)) hx hb dX4_takeToken_140 (by decide) ?_
          refine lv_bipush (v := (nI 57)) hx hb dX4_takeToken_142 (by decide) ?_
          obtain ⟨q13, h_q13, hf⟩ := z_bd hf
          refine z_xv (va_runV (As := [.int (nI 48), .int (nI 57)]) (rest := []) ⟨hx, hb, hml, hown, hts⟩ (zcX4_passRun l g A σ12 τ N (nI 48) (nI 57) h_q13) (cwV 2 hts gX4_takeToken_X4_passRun rfl rfl rfl hdX4_passRun ⟨by decide, by decide⟩) (z_preV E hh (by decide) (zC_obj (q := 50) rfl) rfl) rfl rfl hl.1 rfl (lv_room (Nat.le_of_ble_eq_true rfl)) dX4_takeToken_144 ⟨Nat.le_refl _, Nat.le_refl _⟩) hh (fun H locs hh => ?_)
          refine lv_aload_n hx hb dX4_takeToken_147 rfl (lv_at hl 1 rfl) ?_
          refine z_get (v := .int (q13.1 50 3)) hx hb hts (fun w h => List.mem_cons_of_mem _ (List.mem_append_right _ (h))) hown E hh (by decide) (zC_obj (q := 50) rfl) rfl 3 (by decide) (hts (.fieldLink RX4 39 "TownBand$Tape" "place" "I") (List.mem_cons_of_mem _ (List.mem_append_left _ (List.mem_of_getElem? (i := 0) rfl)))) rfl dX4_takeToken_148 ?_
          refine lv_aload_n hx hb dX4_takeToken_151 rfl (lv_at hl 1 rfl) ?_
          refine z_get (v := .int (q13.1 50 5)) hx hb hts (fun w h => List.mem_cons_of_mem _ (List.mem_append_right _ (h))) hown E hh (by decide) (zC_obj (q := 50) rfl) rfl 5 (by decide) (hts (.fieldLink RX4 80 "TownBand$Tape" "start" "I") (List.mem_cons_of_mem _ (List.mem_append_left _ (List.mem_of_getElem? (i := 3) rfl)))) rfl dX4_takeToken_152 ?_
          refine lv_isub hx hb dX4_takeToken_155 ?_
          refine lv_iconst (v := (nI 2)) hx hb dX4_takeToken_156 (by decide) ?_
          refine lv_icmp_gt (tgt := 167) hx hb dX4_takeToken_157 (by decide) (fun c_v14 => ?_) (fun c_v14 => ?_)
          · have hf := z_ip hf c_v14
            refine lv_aload_n hx hb dX4_takeToken_167 rfl (lv_at hl 1 rfl) ?_
            refine lv_iconst (v := (nI 1)) hx hb dX4_takeToken_168 (by decide) ?_
            refine lv_aload_n hx hb dX4_takeToken_169 rfl (lv_at hl 1 rfl) ?_
            refine z_get (v := .int (q13.1 50 5)) hx hb hts (fun w h => List.mem_cons_of_mem _ (List.mem_append_right _ (h))) hown E hh (by decide) (zC_obj (q := 50) rfl) rfl 5 (by decide) (hts (.fieldLink RX4 80 "TownBand$Tape" "start" "I") (List.mem_cons_of_mem _ (List.mem_append_left _ (List.mem_of_getElem? (i := 3) rfl)))) rfl dX4_takeToken_170 ?_
            obtain ⟨q15, h_q15, hf⟩ := z_bd hf
            refine z_xi (va_runV (As := [.int (nI 1), .int (q13.1 50 5)]) (rest := []) ⟨hx, hb, hml, hown, hts⟩ (zcX4_refuse l g A q13 τ N (nI 1) (q13.1 50 5) h_q15) (cwV 2 hts gX4_takeToken_X4_refuse rfl rfl rfl hdX4_refuse ⟨by decide, by decide⟩) (z_preV E hh (by decide) (zC_obj (q := 50) rfl) rfl) rfl rfl hl.1 rfl (lv_room (Nat.le_of_ble_eq_true rfl)) dX4_takeToken_173 ⟨Nat.le_refl _, Nat.le_refl _⟩) hh (fun H locs hh => ?_)
            obtain ⟨h_v16, hf⟩ := z_if hf
            have hf := Option.some.inj hf
            subst hf
            exact z_zretX hx hb hr hlocks h_v16 hh dX4_takeToken_176
          · have hf := z_in hf c_v14
            refine lv_aload_n hx hb dX4_takeToken_160 rfl (lv_at hl 1 rfl) ?_
            obtain ⟨q17, h_q17, hf⟩ := z_bd hf
            refine z_xi (va_runV (As := []) (rest := []) ⟨hx, hb, hml, hown, hts⟩ (zcX4_spellNumber l g A q13 τ N  h_q17) (cwV 0 hts gX4_takeToken_X4_spellNumber rfl rfl rfl hdX4_spellNumber ⟨by decide, by decide⟩) (z_preV E hh (by decide) (zC_obj (q := 50) rfl) rfl) rfl rfl hl.1 rfl (lv_room (Nat.le_of_ble_eq_true rfl)) dX4_takeToken_161 ⟨Nat.le_refl _, Nat.le_refl _⟩) hh (fun H locs hh => ?_)
            refine lv_goto (tgt := 176) hx hb dX4_takeToken_164 (by decide) ?_
            obtain ⟨h_v18, hf⟩ := z_if hf
            have hf := Option.some.inj hf
            subst hf
            exact z_zretX hx hb hr hlocks h_v18 hh dX4_takeToken_176
      · have hf := z_in hf c_v7
        refine lv_aload_n hx hb dX4_takeToken_108 rfl (lv_at hl 1 rfl) ?_
        refine lv_iconst (v := (nI 0)) hx hb dX4_takeToken_109 (by decide) ?_
        obtain ⟨σ19, e_σ19, hf⟩ := z_lt hf
        refine z_put hx hb hts (fun w h => List.mem_cons_of_mem _ (List.mem_append_right _ (h))) tyX4 tyX4_ok nmX4 hown E hh (by decide) (show zD 50 = _ from rfl) rfl 4 (by decide) rfl (hts (.fieldLink RX4 61 "TownBand$Tape" "token" "I") (List.mem_cons_of_mem _ (List.mem_append_left _ (List.mem_of_getElem? (i := 4) rfl)))) rfl rfl e_σ19 dX4_takeToken_110 (fun H locs hh => ?_)
        refine lv_aload_n hx hb dX4_takeToken_113 rfl (lv_at hl 1 rfl) ?_
        refine lv_bipush (v := (nI 97)) hx hb dX4_takeToken_114 (by decide) ?_
        refine lv_bipush (v := (nI 122)) hx hb dX4_takeToken_116 (by decide) ?_
        obtain ⟨q20, h_q20, hf⟩ := z_bd hf
        refine z_xv (va_runV (As := [.int (nI 97), .int (nI 122)]) (rest := []) ⟨hx, hb, hml, hown, hts⟩ (zcX4_passRun l g A σ19 τ N (nI 97) (nI 122) h_q20) (cwV 2 hts gX4_takeToken_X4_passRun rfl rfl rfl hdX4_passRun ⟨by decide, by decide⟩) (z_preV E hh (by decide) (zC_obj (q := 50) rfl) rfl) rfl rfl hl.1 rfl (lv_room (Nat.le_of_ble_eq_true rfl)) dX4_takeToken_118 ⟨Nat.le_refl _, Nat.le_refl _⟩) hh (fun H locs hh => ?_)
        refine lv_iconst (v := (nI 1)) hx hb dX4_takeToken_121 (by decide) ?_
        have hf := Option.some.inj hf
        subst hf
        exact z_zretX hx hb hr hlocks (Or.inr rfl) hh dX4_takeToken_122
    · have hf := z_ip hf c_v5
      refine lv_aload_n hx hb dX4_takeToken_80 rfl (lv_at hl 1 rfl) ?_
      refine lv_iconst (v := (nI 2)) hx hb dX4_takeToken_81 (by decide) ?_
      obtain ⟨σ21, e_σ21, hf⟩ := z_lt hf
      refine z_put hx hb hts (fun w h => List.mem_cons_of_mem _ (List.mem_append_right _ (h))) tyX4 tyX4_ok nmX4 hown E hh (by decide) (show zD 50 = _ from rfl) rfl 4 (by decide) rfl (hts (.fieldLink RX4 61 "TownBand$Tape" "token" "I") (List.mem_cons_of_mem _ (List.mem_append_left _ (List.mem_of_getElem? (i := 4) rfl)))) rfl rfl e_σ21 dX4_takeToken_82 (fun H locs hh => ?_)
      refine lv_aload_n hx hb dX4_takeToken_85 rfl (lv_at hl 1 rfl) ?_
      refine lv_dup hx hb dX4_takeToken_86 rfl ?_
      refine z_get (v := .int (σ21.1 50 3)) hx hb hts (fun w h => List.mem_cons_of_mem _ (List.mem_append_right _ (h))) hown E hh (by decide) (zC_obj (q := 50) rfl) rfl 3 (by decide) (hts (.fieldLink RX4 39 "TownBand$Tape" "place" "I") (List.mem_cons_of_mem _ (List.mem_append_left _ (List.mem_of_getElem? (i := 0) rfl)))) rfl dX4_takeToken_87 ?_
      refine lv_iconst (v := (nI 1)) hx hb dX4_takeToken_90 (by decide) ?_
      refine lv_iadd hx hb dX4_takeToken_91 ?_
      obtain ⟨σ22, e_σ22, hf⟩ := z_lt hf
      refine z_put hx hb hts (fun w h => List.mem_cons_of_mem _ (List.mem_append_right _ (h))) tyX4 tyX4_ok nmX4 hown E hh (by decide) (show zD 50 = _ from rfl) rfl 3 (by decide) rfl (hts (.fieldLink RX4 39 "TownBand$Tape" "place" "I") (List.mem_cons_of_mem _ (List.mem_append_left _ (List.mem_of_getElem? (i := 0) rfl)))) rfl rfl e_σ22 dX4_takeToken_92 (fun H locs hh => ?_)
      refine lv_iconst (v := (nI 1)) hx hb dX4_takeToken_95 (by decide) ?_
      have hf := Option.some.inj hf
      subst hf
      exact z_zretX hx hb hr hlocks (Or.inr rfl) hh dX4_takeToken_96
  · have hf := z_in hf c_v2
    refine lv_aload_n hx hb dX4_takeToken_57 rfl (lv_at hl 0 rfl) ?_
    refine lv_iconst (v := (nI 3)) hx hb dX4_takeToken_58 (by decide) ?_
    obtain ⟨σ23, e_σ23, hf⟩ := z_lt hf
    refine z_put hx hb hts (fun w h => List.mem_cons_of_mem _ (List.mem_append_right _ (h))) tyX4 tyX4_ok nmX4 hown E hh (by decide) (show zD 50 = _ from rfl) rfl 4 (by decide) rfl (hts (.fieldLink RX4 61 "TownBand$Tape" "token" "I") (List.mem_cons_of_mem _ (List.mem_append_left _ (List.mem_of_getElem? (i := 4) rfl)))) rfl rfl e_σ23 dX4_takeToken_59 (fun H locs hh => ?_)
    refine lv_iconst (v := (nI 1)) hx hb dX4_takeToken_62 (by decide) ?_
    have hf := Option.some.inj hf
    subst hf
    exact z_zretX hx hb hr hlocks (Or.inr rfl) hh dX4_takeToken_63
def fX4_takeToken_0 (N : Nat) (k_38 : zS → Option (Int32 × zS)) : Nat → zS → Option (Int32 × zS)
  | 0, _ => none
  | n + 1, σ =>
    if (σ.1 50 2) ≤ (σ.1 50 3) then
      k_38 σ
    else
      if zin (σ.1 50 3) (zlen 24) then
      zlet (σ.2 24 (σ.1 50 3).toNatClampNeg) fun v3 =>
      if v3 = (nI 32) then
        zlet (zpf σ 50 3 ((σ.1 50 3) + (nI 1))) fun σ5 =>
        (fX4_takeToken_0 N k_38 n) σ5
      else
        k_38 σ
      else none
set_option maxRecDepth 100000 in
set_option maxHeartbeats 4000000 in
theorem hX4_takeToken_0 {p : Program} {l : Launch} {e : Env} {s : State} {m : MethodId} {args : Array Value} {below : List Frame} {meth : Method} {c : Code} {g : zG} {A : Nat → Prop} {τ : zS} {res : Int32 × zS} (C : zCx p s m args meth c cX4_takeToken (some .boolean) wsX4_takeToken RX4 2) (E : zE g A s) (N : Nat) (k_38 : zS → Option (Int32 × zS)) (hk_38 : PX4_takeToken_38 p l e s m args below meth c g A τ res k_38) : ∀ n : Nat, PX4_takeToken_0 p l e s m args below meth c g A τ res (fX4_takeToken_0 N k_38 n) := by
  obtain ⟨hx, hb, hr, hml, hown, hts, hlocks⟩ := id C
  intro n
  induction n with
  | zero =>
    intro σ H locs ls hf
    exact absurd hf (by simp [fX4_takeToken_0])
  | succ n ih =>
    intro σ H locs ls hf hh hl
    rw [fX4_takeToken_0] at hf
    refine lv_aload_n hx hb dX4_takeToken_0 rfl (lv_at hl 0 rfl) ?_
    refine z_get (v := .int (σ.1 50 3)) hx hb hts (fun w h => List.mem_cons_of_mem _ (List.mem_append_right _ (h))) hown E hh (by decide) (zC_obj (q := 50) rfl) rfl 3 (by decide) (hts (.fieldLink RX4 39 "TownBand$Tape" "place" "I") (List.mem_cons_of_mem _ (List.mem_append_left _ (List.mem_of_getElem? (i := 0) rfl)))) rfl dX4_takeToken_1 ?_
    refine lv_aload_n hx hb dX4_takeToken_4 rfl (lv_at hl 0 rfl) ?_
    refine z_get (v := .int (σ.1 50 2)) hx hb hts (fun w h => List.mem_cons_of_mem _ (List.mem_append_right _ (h))) hown E hh (by decide) (zC_obj (q := 50) rfl) rfl 2 (by decide) (hts (.fieldLink RX4 22 "TownBand$Tape" "length" "I") (List.mem_cons_of_mem _ (List.mem_append_left _ (List.mem_of_getElem? (i := 1) rfl)))) rfl dX4_takeToken_5 ?_
    refine lv_icmp_ge (tgt := 38) hx hb dX4_takeToken_8 (by decide) (fun c_v1 => ?_) (fun c_v1 => ?_)
    · have hf := z_ip hf c_v1
      exact hk_38 σ _ _ _ hf hh (lv_sub hl [0] rfl)
    · have hf := z_in hf c_v1
      refine lv_aload_n hx hb dX4_takeToken_11 rfl (lv_at hl 0 rfl) ?_
      refine z_get (v := .ref (g.2.2 24)) hx hb hts (fun w h => List.mem_cons_of_mem _ (List.mem_append_right _ (h))) hown E hh (by decide) (zC_obj (q := 50) rfl) rfl 0 (by decide) (hts (.fieldLink RX4 9 "TownBand$Tape" "bytes" "[I") (List.mem_cons_of_mem _ (List.mem_append_left _ (List.mem_of_getElem? (i := 2) rfl)))) rfl dX4_takeToken_12 ?_
      refine lv_aload_n hx hb dX4_takeToken_15 rfl (lv_at hl 0 rfl) ?_
      refine z_get (v := .int (σ.1 50 3)) hx hb hts (fun w h => List.mem_cons_of_mem _ (List.mem_append_right _ (h))) hown E hh (by decide) (zC_obj (q := 50) rfl) rfl 3 (by decide) (hts (.fieldLink RX4 39 "TownBand$Tape" "place" "I") (List.mem_cons_of_mem _ (List.mem_append_left _ (List.mem_of_getElem? (i := 0) rfl)))) rfl dX4_takeToken_16 ?_
      obtain ⟨h_v2, hf⟩ := z_if hf
      obtain ⟨v3, e_v3, hf⟩ := z_lt hf
      refine z_iald hx hb E hh (by decide) h_v2 e_v3 dX4_takeToken_19 ?_
      refine lv_bipush (v := (nI 32)) hx hb dX4_takeToken_20 (by decide) ?_
      refine lv_icmp_ne (tgt := 38) hx hb dX4_takeToken_22 (by decide) (fun c_v4 => ?_) (fun c_v4 => ?_)
      · have hf := z_in hf c_v4
        exact hk_38 σ _ _ _ hf hh (lv_sub hl [0] rfl)
      · have hf := z_ip hf c_v4
        refine lv_aload_n hx hb dX4_takeToken_25 rfl (lv_at hl 0 rfl) ?_
        refine lv_dup hx hb dX4_takeToken_26 rfl ?_
        refine z_get (v := .int (σ.1 50 3)) hx hb hts (fun w h => List.mem_cons_of_mem _ (List.mem_append_right _ (h))) hown E hh (by decide) (zC_obj (q := 50) rfl) rfl 3 (by decide) (hts (.fieldLink RX4 39 "TownBand$Tape" "place" "I") (List.mem_cons_of_mem _ (List.mem_append_left _ (List.mem_of_getElem? (i := 0) rfl)))) rfl dX4_takeToken_27 ?_
        refine lv_iconst (v := (nI 1)) hx hb dX4_takeToken_30 (by decide) ?_
        refine lv_iadd hx hb dX4_takeToken_31 ?_
        obtain ⟨σ5, e_σ5, hf⟩ := z_lt hf
        refine z_put hx hb hts (fun w h => List.mem_cons_of_mem _ (List.mem_append_right _ (h))) tyX4 tyX4_ok nmX4 hown E hh (by decide) (show zD 50 = _ from rfl) rfl 3 (by decide) rfl (hts (.fieldLink RX4 39 "TownBand$Tape" "place" "I") (List.mem_cons_of_mem _ (List.mem_append_left _ (List.mem_of_getElem? (i := 0) rfl)))) rfl rfl e_σ5 dX4_takeToken_32 (fun H locs hh => ?_)
        refine lv_goto (tgt := 0) hx hb dX4_takeToken_35 (by decide) ?_
        exact ih σ5 _ _ _ hf hh (lv_sub hl [0] rfl)
def fX4_takeToken (N : Nat) (σ : zS)  : Option (Int32 × zS) :=
  (fX4_takeToken_0 N (fX4_takeToken_38 N) N) σ
set_option maxRecDepth 100000 in
set_option maxHeartbeats 4000000 in
theorem zcX4_takeToken (l : Launch) (g : zG) (A : Nat → Prop) (σ τ : zS) (N : Nat)   {res : Int32 × zS} (hf : fX4_takeToken N σ = some res) : Met l yX4_takeToken wsX4_takeToken (zR 2) (zPc g A σ τ [.ref (g.2.2 50)]) (zQi g A τ res) 0 0 A := by
  refine z_met (cc := cX4_takeToken) (ret := (some .boolean)) (own := RX4) (by decide) rfl rfl _ (Nat.le_of_ble_eq_true rfl) ?_
  intro p e s m below meth c C E ls hl hh
  have hl : lv_has ls 2 [(0, .ref (g.2.2 50))] := hl
  obtain ⟨hx, hb, hr, hml, hown, hts, hlocks⟩ := id C
  unfold fX4_takeToken at hf
  exact (hX4_takeToken_0 C E N (fX4_takeToken_38 N) (hX4_takeToken_38 C E N) N) σ _ _ _ hf hh (lv_sub hl [0] rfl)
/-! ===== X4_spelling ===== -/
theorem hdX4_spelling : yX4_spelling.cls = RX4 ∧ yX4_spelling.cls ≠ "java/lang/invoke/MethodHandle" ∧ yX4_spelling.cls ≠ "java/lang/invoke/VarHandle" ∧ (parseMethodDescriptor yX4_spelling.desc).map (fun d => d.parameters.length) = some 1 := by decide +kernel
def fX4_spelling (N : Nat) (x0 : Int32) : Option (Nat) :=
  if x0 = (nI 0) then
    some 0
  else
    if x0 = (nI 1) then
      some 1
    else
      if x0 = (nI 2) then
        some 2
      else
        if x0 = (nI 3) then
          some 3
        else
          if x0 = (nI 4) then
            some 4
          else
            if x0 = (nI 5) then
              some 5
            else
              if x0 = (nI 6) then
                some 6
              else
                some 7
set_option maxRecDepth 100000 in
set_option maxHeartbeats 4000000 in
theorem zcX4_spelling (l : Launch) (g : zG) (A : Nat → Prop) (σ τ : zS) (N : Nat) (x0 : Int32)  {res : Nat} (hf : fX4_spelling N x0 = some res) : Met l yX4_spelling wsX4_spelling (zR 0) (zPc g A σ τ [.int x0]) (zQs g A τ (res, σ)) 0 0 A := by
  refine z_met (cc := cX4_spelling) (ret := (some (.object "java/lang/String"))) (own := RX4) (by decide) rfl rfl _ (Nat.le_of_ble_eq_true rfl) ?_
  intro p e s m below meth c C E ls hl hh
  have hl : lv_has ls 1 [(0, .int x0)] := hl
  obtain ⟨hx, hb, hr, hml, hown, hts, hlocks⟩ := id C
  unfold fX4_spelling at hf
  refine lv_iload_n hx hb dX4_spelling_0 rfl (lv_at hl 0 rfl) ?_
  by_cases c_v1 : x0 = (nI 0)
  · have hf := z_ip hf c_v1
    refine z_tbl (tgt := 44) (off := 43) hx hb dX4_spelling_1 (nI 0) c_v1 (by decide) (by decide) (by decide) (by decide) ?_
    refine va_ldcS (own := RX4) (index := 164) (tx := "cock") hx hb hown (E.2.2.2.1 0 (by decide)) dX4_spelling_44 ?_
    have hf := Option.some.inj hf
    subst hf
    exact z_sretX hx hb hr hlocks hh dX4_spelling_46
  · have hf := z_in hf c_v1
    by_cases c_v2 : x0 = (nI 1)
    · have hf := z_ip hf c_v2
      refine z_tbl (tgt := 47) (off := 46) hx hb dX4_spelling_1 (nI 1) c_v2 (by decide) (by decide) (by decide) (by decide) ?_
      refine va_ldcS (own := RX4) (index := 166) (tx := "cat") hx hb hown (E.2.2.2.1 1 (by decide)) dX4_spelling_47 ?_
      have hf := Option.some.inj hf
      subst hf
      exact z_sretX hx hb hr hlocks hh dX4_spelling_49
    · have hf := z_in hf c_v2
      by_cases c_v3 : x0 = (nI 2)
      · have hf := z_ip hf c_v3
        refine z_tbl (tgt := 50) (off := 49) hx hb dX4_spelling_1 (nI 2) c_v3 (by decide) (by decide) (by decide) (by decide) ?_
        refine va_ldcS (own := RX4) (index := 168) (tx := "hound") hx hb hown (E.2.2.2.1 2 (by decide)) dX4_spelling_50 ?_
        have hf := Option.some.inj hf
        subst hf
        exact z_sretX hx hb hr hlocks hh dX4_spelling_52
      · have hf := z_in hf c_v3
        by_cases c_v4 : x0 = (nI 3)
        · have hf := z_ip hf c_v4
          refine z_tbl (tgt := 53) (off := 52) hx hb dX4_spelling_1 (nI 3) c_v4 (by decide) (by decide) (by decide) (by decide) ?_
          refine va_ldcS (own := RX4) (index := 170) (tx := "ass") hx hb hown (E.2.2.2.1 3 (by decide)) dX4_spelling_53 ?_
          have hf := Option.some.inj hf
          subst hf
          exact z_sretX hx hb hr hlocks hh dX4_spelling_55
        · have hf := z_in hf c_v4
          by_cases c_v5 : x0 = (nI 4)
          · have hf := z_ip hf c_v5
            refine z_tbl (tgt := 56) (off := 55) hx hb dX4_spelling_1 (nI 4) c_v5 (by decide) (by decide) (by decide) (by decide) ?_
            refine va_ldcS (own := RX4) (index := 172) (tx := "robber") hx hb hown (E.2.2.2.1 4 (by decide)) dX4_spelling_56 ?_
            have hf := Option.some.inj hf
            subst hf
            exact z_sretX hx hb hr hlocks hh dX4_spelling_58
          · have hf := z_in hf c_v5
            by_cases c_v6 : x0 = (nI 5)
            · have hf := z_ip hf c_v6
              refine z_tbl (tgt := 59) (off := 58) hx hb dX4_spelling_1 (nI 5) c_v6 (by decide) (by decide) (by decide) (by decide) ?_
              refine va_ldcS (own := RX4) (index := 174) (tx := "scout") hx hb hown (E.2.2.2.1 5 (by decide)) dX4_spelling_59 ?_
              have hf := Option.some.inj hf
              subst hf
              exact z_sretX hx hb hr hlocks hh dX4_spelling_61
            · have hf := z_in hf c_v6
              by_cases c_v7 : x0 = (nI 6)
              · have hf := z_ip hf c_v7
                refine z_tbl (tgt := 62) (off := 61) hx hb dX4_spelling_1 (nI 6) c_v7 (by decide) (by decide) (by decide) (by decide) ?_
                refine va_ldcS (own := RX4) (index := 176) (tx := "tower") hx hb hown (E.2.2.2.1 6 (by decide)) dX4_spelling_62 ?_
                have hf := Option.some.inj hf
                subst hf
                exact z_sretX hx hb hr hlocks hh dX4_spelling_64
              · have hf := z_in hf c_v7
                refine lv_tableOut (tgt := 65) hx hb dX4_spelling_1 (by have n_c_v1 := lv_neT (a := 0) c_v1 (by decide); have n_c_v2 := lv_neT (a := 1) c_v2 (by decide); have n_c_v3 := lv_neT (a := 2) c_v3 (by decide); have n_c_v4 := lv_neT (a := 3) c_v4 (by decide); have n_c_v5 := lv_neT (a := 4) c_v5 (by decide); have n_c_v6 := lv_neT (a := 5) c_v6 (by decide); have n_c_v7 := lv_neT (a := 6) c_v7 (by decide); omega) (by decide) ?_
                refine va_ldcS (own := RX4) (index := 177) (tx := "beds") hx hb hown (E.2.2.2.1 7 (by decide)) dX4_spelling_65 ?_
                have hf := Option.some.inj hf
                subst hf
                exact z_sretX hx hb hr hlocks hh dX4_spelling_67
theorem fX4_spelling_lt {N : Nat} {x : Int32} {q : Nat} (h : fX4_spelling N x = some q) : q < 8 := by
  unfold fX4_spelling at h
  repeat (split at h; (have h := Option.some.inj h; subst h; decide))
  have h := Option.some.inj h
  subst h
  decide
/-! ===== X4_isSpelt ===== -/
theorem hdX4_isSpelt : yX4_isSpelt.cls = RX4 ∧ yX4_isSpelt.cls ≠ "java/lang/invoke/MethodHandle" ∧ yX4_isSpelt.cls ≠ "java/lang/invoke/VarHandle" ∧ (parseMethodDescriptor yX4_isSpelt.desc).map (fun d => d.parameters.length) = some 1 := by decide +kernel
def PX4_isSpelt_20 (p : Program) (l : Launch) (e : Env) (s : State) (m : MethodId) (args : Array Value) (below : List Frame) (meth : Method) (c : Code) (g : zG) (A : Nat → Prop) (σ τ : zS) (res : Int32) (f : Nat → Int32 → Option (Int32)) : Prop := ∀ (b1 : Nat) (x2 : Int32) (h_b1 : b1 < 8) (H : Heap) (locs : List Loc) (ls : Array Slot), f b1 x2 = some res → zW g A σ τ s H locs → lv_has ls 3 [(0, .ref (g.2.2 50)), (1, .ref (g.2.2 (100 + b1))), (2, .int x2)] → W p l e (zR 4) s m args below meth c H locs 0 0 (MQ below (zQi g A τ (res, σ)) args s 0 0 A) (F0 m 20 ls [])
def fX4_isSpelt_20 (N : Nat) (σ : zS) : Nat → Nat → Int32 → Option (Int32)
  | 0, _, _ => none
  | n + 1, b1, x2 =>
    (fJ0_length_8abf5 N b1).bind fun q1 =>
    if q1 ≤ x2 then
      some 1
    else
      if zin ((σ.1 50 5) + x2) (zlen 24) then
      zlet (σ.2 24 ((σ.1 50 5) + x2).toNatClampNeg) fun v4 =>
      (fJ0_charAt_5068e N b1 x2).bind fun q5 =>
      if v4 = q5 then
        (fX4_isSpelt_20 N σ n) b1 (x2 + (nI 1))
      else
        some 0
      else none
set_option maxRecDepth 100000 in
set_option maxHeartbeats 4000000 in
theorem hX4_isSpelt_20 {p : Program} {l : Launch} {e : Env} {s : State} {m : MethodId} {args : Array Value} {below : List Frame} {meth : Method} {c : Code} {g : zG} {A : Nat → Prop} {σ τ : zS} {res : Int32} (C : zCx p s m args meth c cX4_isSpelt (some .boolean) wsX4_isSpelt RX4 3) (E : zE g A s) (N : Nat) : ∀ n : Nat, PX4_isSpelt_20 p l e s m args below meth c g A σ τ res (fX4_isSpelt_20 N σ n) := by
  obtain ⟨hx, hb, hr, hml, hown, hts, hlocks⟩ := id C
  intro n
  induction n with
  | zero =>
    intro b1 x2 h_b1 H locs ls hf
    exact absurd hf (by simp [fX4_isSpelt_20])
  | succ n ih =>
    intro b1 x2 h_b1 H locs ls hf hh hl
    rw [fX4_isSpelt_20] at hf
    refine lv_iload_n hx hb dX4_isSpelt_20 rfl (lv_at hl 2 rfl) ?_
    refine lv_aload_n hx hb dX4_isSpelt_21 rfl (lv_at hl 1 rfl) ?_
    obtain ⟨q1, h_q1, hf⟩ := z_bd hf
    refine z_xi (va_runV (As := []) (rest := [.int x2]) ⟨hx, hb, hml, hown, hts⟩ (zcJ0_length_8abf5 l g A σ τ N b1 h_b1 h_q1) (cwV 0 hts gX4_isSpelt_J0_length_8abf5 rfl rfl rfl hdJ0_length_8abf5 ⟨by decide, by decide⟩) (z_preK E hh h_b1) rfl rfl hl.1 rfl (lv_room (Nat.le_of_ble_eq_true rfl)) dX4_isSpelt_22 ⟨Nat.le_refl _, Nat.le_refl _⟩) hh (fun H locs hh => ?_)
    refine lv_icmp_ge (tgt := 55) hx hb dX4_isSpelt_25 (by decide) (fun c_v2 => ?_) (fun c_v2 => ?_)
    · have hf := z_ip hf c_v2
      refine lv_iconst (v := (nI 1)) hx hb dX4_isSpelt_55 (by decide) ?_
      have hf := Option.some.inj hf
      subst hf
      exact z_zretX hx hb hr hlocks (Or.inr rfl) hh dX4_isSpelt_56
    · have hf := z_in hf c_v2
      refine lv_aload_n hx hb dX4_isSpelt_28 rfl (lv_at hl 0 rfl) ?_
      refine z_get (v := .ref (g.2.2 24)) hx hb hts (fun w h => List.mem_cons_of_mem _ (List.mem_append_right _ (h))) hown E hh (by decide) (zC_obj (q := 50) rfl) rfl 0 (by decide) (hts (.fieldLink RX4 9 "TownBand$Tape" "bytes" "[I") (List.mem_cons_of_mem _ (List.mem_append_left _ (List.mem_append_left _ (List.mem_of_getElem? (i := 2) rfl))))) rfl dX4_isSpelt_29 ?_
      refine lv_aload_n hx hb dX4_isSpelt_32 rfl (lv_at hl 0 rfl) ?_
      refine z_get (v := .int (σ.1 50 5)) hx hb hts (fun w h => List.mem_cons_of_mem _ (List.mem_append_right _ (h))) hown E hh (by decide) (zC_obj (q := 50) rfl) rfl 5 (by decide) (hts (.fieldLink RX4 80 "TownBand$Tape" "start" "I") (List.mem_cons_of_mem _ (List.mem_append_left _ (List.mem_append_left _ (List.mem_of_getElem? (i := 1) rfl))))) rfl dX4_isSpelt_33 ?_
      refine lv_iload_n hx hb dX4_isSpelt_36 rfl (lv_at hl 2 rfl) ?_
      refine lv_iadd hx hb dX4_isSpelt_37 ?_
      obtain ⟨h_v3, hf⟩ := z_if hf
      obtain ⟨v4, e_v4, hf⟩ := z_lt hf
      refine z_iald hx hb E hh (by decide) h_v3 e_v4 dX4_isSpelt_38 ?_
      refine lv_aload_n hx hb dX4_isSpelt_39 rfl (lv_at hl 1 rfl) ?_
      refine lv_iload_n hx hb dX4_isSpelt_40 rfl (lv_at hl 2 rfl) ?_
      obtain ⟨q5, h_q5, hf⟩ := z_bd hf
      refine z_xi (va_runV (As := [.int x2]) (rest := [.int v4]) ⟨hx, hb, hml, hown, hts⟩ (zcJ0_charAt_5068e l g A σ τ N b1 x2 h_b1 h_q5) (cwV 1 hts gX4_isSpelt_J0_charAt_5068e rfl rfl rfl hdJ0_charAt_5068e ⟨by decide, by decide⟩) (z_preK E hh h_b1) rfl rfl hl.1 rfl (lv_room (Nat.le_of_ble_eq_true rfl)) dX4_isSpelt_41 ⟨Nat.le_refl _, Nat.le_refl _⟩) hh (fun H locs hh => ?_)
      refine lv_icmp_eq (tgt := 49) hx hb dX4_isSpelt_44 (by decide) (fun c_v6 => ?_) (fun c_v6 => ?_)
      · have hf := z_ip hf c_v6
        refine lv_iinc (v := (x2 + (nI 1))) (lv' := [(2, .int (x2 + (nI 1))), (0, .ref (g.2.2 50)), (1, .ref (g.2.2 (100 + b1)))]) hx hb dX4_isSpelt_49 hl (k := 2) rfl rfl (by decide) rfl (fun ls hl => ?_)
        refine lv_goto (tgt := 20) hx hb dX4_isSpelt_52 (by decide) ?_
        exact ih b1 (x2 + (nI 1)) h_b1 _ _ _ hf hh (lv_sub hl [1, 2, 0] rfl)
      · have hf := z_in hf c_v6
        refine lv_iconst (v := (nI 0)) hx hb dX4_isSpelt_47 (by decide) ?_
        have hf := Option.some.inj hf
        subst hf
        exact z_zretX hx hb hr hlocks (Or.inl rfl) hh dX4_isSpelt_48
def fX4_isSpelt (N : Nat) (σ : zS) (b1 : Nat) : Option (Int32) :=
  (fJ0_length_8abf5 N b1).bind fun q1 =>
  if q1 = ((σ.1 50 3) - (σ.1 50 5)) then
    (fX4_isSpelt_20 N σ N) b1 (nI 0)
  else
    some 0
set_option maxRecDepth 100000 in
set_option maxHeartbeats 4000000 in
theorem zcX4_isSpelt (l : Launch) (g : zG) (A : Nat → Prop) (σ τ : zS) (N : Nat) (b1 : Nat) (h_b1 : b1 < 8) {res : Int32} (hf : fX4_isSpelt N σ b1 = some res) : Met l yX4_isSpelt wsX4_isSpelt (zR 4) (zPc g A σ τ [.ref (g.2.2 50), .ref (g.2.2 (100 + b1))]) (zQi g A τ (res, σ)) 0 0 A := by
  refine z_met (cc := cX4_isSpelt) (ret := (some .boolean)) (own := RX4) (by decide) rfl rfl _ (Nat.le_of_ble_eq_true rfl) ?_
  intro p e s m below meth c C E ls hl hh
  have hl : lv_has ls 3 [(0, .ref (g.2.2 50)), (1, .ref (g.2.2 (100 + b1)))] := hl
  obtain ⟨hx, hb, hr, hml, hown, hts, hlocks⟩ := id C
  unfold fX4_isSpelt at hf
  refine lv_aload_n hx hb dX4_isSpelt_0 rfl (lv_at hl 1 rfl) ?_
  obtain ⟨q1, h_q1, hf⟩ := z_bd hf
  refine z_xi (va_runV (As := []) (rest := []) ⟨hx, hb, hml, hown, hts⟩ (zcJ0_length_8abf5 l g A σ τ N b1 h_b1 h_q1) (cwV 0 hts gX4_isSpelt_J0_length_8abf5 rfl rfl rfl hdJ0_length_8abf5 ⟨by decide, by decide⟩) (z_preK E hh h_b1) rfl rfl hl.1 rfl (lv_room (Nat.le_of_ble_eq_true rfl)) dX4_isSpelt_1 ⟨Nat.le_refl _, Nat.le_refl _⟩) hh (fun H locs hh => ?_)
  refine lv_aload_n hx hb dX4_isSpelt_4 rfl (lv_at hl 0 rfl) ?_
  refine z_get (v := .int (σ.1 50 3)) hx hb hts (fun w h => List.mem_cons_of_mem _ (List.mem_append_right _ (h))) hown E hh (by decide) (zC_obj (q := 50) rfl) rfl 3 (by decide) (hts (.fieldLink RX4 39 "TownBand$Tape" "place" "I") (List.mem_cons_of_mem _ (List.mem_append_left _ (List.mem_append_left _ (List.mem_of_getElem? (i := 0) rfl))))) rfl dX4_isSpelt_5 ?_
  refine lv_aload_n hx hb dX4_isSpelt_8 rfl (lv_at hl 0 rfl) ?_
  refine z_get (v := .int (σ.1 50 5)) hx hb hts (fun w h => List.mem_cons_of_mem _ (List.mem_append_right _ (h))) hown E hh (by decide) (zC_obj (q := 50) rfl) rfl 5 (by decide) (hts (.fieldLink RX4 80 "TownBand$Tape" "start" "I") (List.mem_cons_of_mem _ (List.mem_append_left _ (List.mem_append_left _ (List.mem_of_getElem? (i := 1) rfl))))) rfl dX4_isSpelt_9 ?_
  refine lv_isub hx hb dX4_isSpelt_12 ?_
  refine lv_icmp_eq (tgt := 18) hx hb dX4_isSpelt_13 (by decide) (fun c_v2 => ?_) (fun c_v2 => ?_)
  · have hf := z_ip hf c_v2
    refine lv_iconst (v := (nI 0)) hx hb dX4_isSpelt_18 (by decide) ?_
    refine lv_istore_n (lv' := [(2, .int (nI 0)), (0, .ref (g.2.2 50)), (1, .ref (g.2.2 (100 + b1)))]) hx hb dX4_isSpelt_19 rfl hl (by decide) rfl (fun ls hl => ?_)
    exact (hX4_isSpelt_20 C E N N) b1 (nI 0) h_b1 _ _ _ hf hh (lv_sub hl [1, 2, 0] rfl)
  · have hf := z_in hf c_v2
    refine lv_iconst (v := (nI 0)) hx hb dX4_isSpelt_16 (by decide) ?_
    have hf := Option.some.inj hf
    subst hf
    exact z_zretX hx hb hr hlocks (Or.inl rfl) hh dX4_isSpelt_17
/-! ===== X4_wordRead ===== -/
theorem hdX4_wordRead : yX4_wordRead.cls = RX4 ∧ yX4_wordRead.cls ≠ "java/lang/invoke/MethodHandle" ∧ yX4_wordRead.cls ≠ "java/lang/invoke/VarHandle" ∧ (parseMethodDescriptor yX4_wordRead.desc).map (fun d => d.parameters.length) = some 0 := by decide +kernel
def PX4_wordRead_2 (p : Program) (l : Launch) (e : Env) (s : State) (m : MethodId) (args : Array Value) (below : List Frame) (meth : Method) (c : Code) (g : zG) (A : Nat → Prop) (σ τ : zS) (res : Int32) (f : Int32 → Option (Int32)) : Prop := ∀ (x1 : Int32) (H : Heap) (locs : List Loc) (ls : Array Slot), f x1 = some res → zW g A σ τ s H locs → lv_has ls 2 [(0, .ref (g.2.2 50)), (1, .int x1)] → W p l e (zR 5) s m args below meth c H locs 0 0 (MQ below (zQi g A τ (res, σ)) args s 0 0 A) (F0 m 2 ls [])
def fX4_wordRead_2 (N : Nat) (σ : zS) : Nat → Int32 → Option (Int32)
  | 0, _ => none
  | n + 1, x1 =>
    if (nI 8) ≤ x1 then
      some (nI 8)
    else
      (fX4_spelling N x1).bind fun q2 =>
      (fX4_isSpelt N σ q2).bind fun q3 =>
      if q3 = 0 then
        (fX4_wordRead_2 N σ n) (x1 + (nI 1))
      else
        some x1
set_option maxRecDepth 100000 in
set_option maxHeartbeats 4000000 in
theorem hX4_wordRead_2 {p : Program} {l : Launch} {e : Env} {s : State} {m : MethodId} {args : Array Value} {below : List Frame} {meth : Method} {c : Code} {g : zG} {A : Nat → Prop} {σ τ : zS} {res : Int32} (C : zCx p s m args meth c cX4_wordRead (some .int) wsX4_wordRead RX4 2) (E : zE g A s) (N : Nat) : ∀ n : Nat, PX4_wordRead_2 p l e s m args below meth c g A σ τ res (fX4_wordRead_2 N σ n) := by
  obtain ⟨hx, hb, hr, hml, hown, hts, hlocks⟩ := id C
  intro n
  induction n with
  | zero =>
    intro x1 H locs ls hf
    exact absurd hf (by simp [fX4_wordRead_2])
  | succ n ih =>
    intro x1 H locs ls hf hh hl
    rw [fX4_wordRead_2] at hf
    refine lv_iload_n hx hb dX4_wordRead_2 rfl (lv_at hl 1 rfl) ?_
    refine lv_bipush (v := (nI 8)) hx hb dX4_wordRead_3 (by decide) ?_
    refine lv_icmp_ge (tgt := 27) hx hb dX4_wordRead_5 (by decide) (fun c_v1 => ?_) (fun c_v1 => ?_)
    · have hf := z_ip hf c_v1
      refine lv_bipush (v := (nI 8)) hx hb dX4_wordRead_27 (by decide) ?_
      have hf := Option.some.inj hf
      subst hf
      exact z_iretX hx hb hr hlocks hh dX4_wordRead_29
    · have hf := z_in hf c_v1
      refine lv_aload_n hx hb dX4_wordRead_8 rfl (lv_at hl 0 rfl) ?_
      refine lv_iload_n hx hb dX4_wordRead_9 rfl (lv_at hl 1 rfl) ?_
      obtain ⟨q2, h_q2, hf⟩ := z_bd hf
      refine z_xs (va_runS (As := [.int x1]) (rest := [.ref (g.2.2 50)]) ⟨hx, hb, hml, hown, hts⟩ (zcX4_spelling l g A σ τ N x1 h_q2) (va_cwS 1 hts gX4_wordRead_X4_spelling rfl rfl rfl hdX4_spelling.2 ⟨by decide, by decide⟩) (z_preS E hh) rfl rfl hl.1 rfl (lv_room (Nat.le_of_ble_eq_true rfl)) dX4_wordRead_10 ⟨Nat.le_refl _, Nat.le_refl _⟩) hh (fun H locs hh => ?_)
      obtain ⟨q3, h_q3, hf⟩ := z_bd hf
      refine z_xi (va_runV (As := [.ref (g.2.2 (100 + q2))]) (rest := []) ⟨hx, hb, hml, hown, hts⟩ (zcX4_isSpelt l g A σ τ N q2 (fX4_spelling_lt h_q2) h_q3) (cwV 1 hts gX4_wordRead_X4_isSpelt rfl rfl rfl hdX4_isSpelt ⟨by decide, by decide⟩) (z_preV E hh (by decide) (zC_obj (q := 50) rfl) rfl) rfl rfl hl.1 rfl (lv_room (Nat.le_of_ble_eq_true rfl)) dX4_wordRead_13 ⟨Nat.le_refl _, Nat.le_refl _⟩) hh (fun H locs hh => ?_)
      refine lv_if_eq (tgt := 21) hx hb dX4_wordRead_16 (by decide) (fun c_v4 => ?_) (fun c_v4 => ?_)
      · have hf := z_ip hf c_v4
        refine lv_iinc (v := (x1 + (nI 1))) (lv' := [(1, .int (x1 + (nI 1))), (0, .ref (g.2.2 50))]) hx hb dX4_wordRead_21 hl (k := 1) rfl rfl (by decide) rfl (fun ls hl => ?_)
        refine lv_goto (tgt := 2) hx hb dX4_wordRead_24 (by decide) ?_
        exact ih (x1 + (nI 1)) _ _ _ hf hh (lv_sub hl [1, 0] rfl)
      · have hf := z_in hf c_v4
        refine lv_iload_n hx hb dX4_wordRead_19 rfl (lv_at hl 1 rfl) ?_
        have hf := Option.some.inj hf
        subst hf
        exact z_iretX hx hb hr hlocks hh dX4_wordRead_20
def fX4_wordRead (N : Nat) (σ : zS)  : Option (Int32) :=
  (fX4_wordRead_2 N σ N) (nI 0)
set_option maxRecDepth 100000 in
set_option maxHeartbeats 4000000 in
theorem zcX4_wordRead (l : Launch) (g : zG) (A : Nat → Prop) (σ τ : zS) (N : Nat)   {res : Int32} (hf : fX4_wordRead N σ = some res) : Met l yX4_wordRead wsX4_wordRead (zR 5) (zPc g A σ τ [.ref (g.2.2 50)]) (zQi g A τ (res, σ)) 0 0 A := by
  refine z_met (cc := cX4_wordRead) (ret := (some .int)) (own := RX4) (by decide) rfl rfl _ (Nat.le_of_ble_eq_true rfl) ?_
  intro p e s m below meth c C E ls hl hh
  have hl : lv_has ls 2 [(0, .ref (g.2.2 50))] := hl
  obtain ⟨hx, hb, hr, hml, hown, hts, hlocks⟩ := id C
  unfold fX4_wordRead at hf
  refine lv_iconst (v := (nI 0)) hx hb dX4_wordRead_0 (by decide) ?_
  refine lv_istore_n (lv' := [(1, .int (nI 0)), (0, .ref (g.2.2 50))]) hx hb dX4_wordRead_1 rfl hl (by decide) rfl (fun ls hl => ?_)
  exact (hX4_wordRead_2 C E N N) (nI 0) _ _ _ hf hh (lv_sub hl [1, 0] rfl)
/-! ===== X4_numberWithin ===== -/
theorem hdX4_numberWithin : yX4_numberWithin.cls = RX4 ∧ yX4_numberWithin.cls ≠ "java/lang/invoke/MethodHandle" ∧ yX4_numberWithin.cls ≠ "java/lang/invoke/VarHandle" ∧ (parseMethodDescriptor yX4_numberWithin.desc).map (fun d => d.parameters.length) = some 2 := by decide +kernel
def PX4_numberWithin_42 (p : Program) (l : Launch) (e : Env) (s : State) (m : MethodId) (args : Array Value) (below : List Frame) (meth : Method) (c : Code) (g : zG) (A : Nat → Prop) (τ : zS) (res : Int32 × zS) (f : zS → Option (Int32 × zS)) : Prop := ∀  (σ : zS) (H : Heap) (locs : List Loc) (ls : Array Slot), f σ = some res → zW g A σ τ s H locs → lv_has ls 3 [] → W p l e (zR 1) s m args below meth c H locs 0 0 (MQ below (zQi g A τ res) args s 0 0 A) (F0 m 42 ls [])
def fX4_numberWithin_42 (N : Nat)  (σ : zS) : Option (Int32 × zS) :=
  some (1, σ)
set_option maxRecDepth 100000 in
set_option maxHeartbeats 4000000 in
theorem hX4_numberWithin_42 {p : Program} {l : Launch} {e : Env} {s : State} {m : MethodId} {args : Array Value} {below : List Frame} {meth : Method} {c : Code} {g : zG} {A : Nat → Prop} {τ : zS} {res : Int32 × zS} (C : zCx p s m args meth c cX4_numberWithin (some .boolean) wsX4_numberWithin RX4 3) (E : zE g A s) (N : Nat) : PX4_numberWithin_42 p l e s m args below meth c g A τ res (fX4_numberWithin_42 N) := by
  obtain ⟨hx, hb, hr, hml, hown, hts, hlocks⟩ := id C
  intro σ H locs ls hf hh hl
  unfold fX4_numberWithin_42 at hf
  refine lv_iconst (v := (nI 1)) hx hb dX4_numberWithin_42 (by decide) ?_
  refine lv_goto (tgt := 47) hx hb dX4_numberWithin_43 (by decide) ?_
  have hf := Option.some.inj hf
  subst hf
  exact z_zretX hx hb hr hlocks (Or.inr rfl) hh dX4_numberWithin_47
def fX4_numberWithin (N : Nat) (σ : zS) (x1 : Int32) (x2 : Int32) : Option (Int32 × zS) :=
  if (σ.1 50 4) = (nI 1) then
    (fX6_within N (σ.1 50 6) x1 x2).bind fun q2 =>
    if q2 = 0 then
      (fX4_refuse N σ (nI 3) (σ.1 50 5)).bind fun q4 =>
      if q4.1 = 0 then
        some (0, q4.2)
      else
        (fX4_numberWithin_42 N) q4.2
    else
      (fX4_numberWithin_42 N) σ
  else
    (fX4_refuse N σ (nI 2) (σ.1 50 5)).bind fun q6 =>
    if q6.1 = 0 ∨ q6.1 = 1 then
    some (q6.1, q6.2)
    else none
set_option maxRecDepth 100000 in
set_option maxHeartbeats 4000000 in
theorem zcX4_numberWithin (l : Launch) (g : zG) (A : Nat → Prop) (σ τ : zS) (N : Nat) (x1 : Int32) (x2 : Int32)  {res : Int32 × zS} (hf : fX4_numberWithin N σ x1 x2 = some res) : Met l yX4_numberWithin wsX4_numberWithin (zR 1) (zPc g A σ τ [.ref (g.2.2 50), .int x1, .int x2]) (zQi g A τ res) 0 0 A := by
  refine z_met (cc := cX4_numberWithin) (ret := (some .boolean)) (own := RX4) (by decide) rfl rfl _ (Nat.le_of_ble_eq_true rfl) ?_
  intro p e s m below meth c C E ls hl hh
  have hl : lv_has ls 3 [(0, .ref (g.2.2 50)), (1, .int x1), (2, .int x2)] := hl
  obtain ⟨hx, hb, hr, hml, hown, hts, hlocks⟩ := id C
  unfold fX4_numberWithin at hf
  refine lv_aload_n hx hb dX4_numberWithin_0 rfl (lv_at hl 0 rfl) ?_
  refine z_get (v := .int (σ.1 50 4)) hx hb hts (fun w h => List.mem_cons_of_mem _ (List.mem_append_right _ (h))) hown E hh (by decide) (zC_obj (q := 50) rfl) rfl 4 (by decide) (hts (.fieldLink RX4 61 "TownBand$Tape" "token" "I") (List.mem_cons_of_mem _ (List.mem_append_left _ (List.mem_of_getElem? (i := 0) rfl)))) rfl dX4_numberWithin_1 ?_
  refine lv_iconst (v := (nI 1)) hx hb dX4_numberWithin_4 (by decide) ?_
  refine lv_icmp_eq (tgt := 18) hx hb dX4_numberWithin_5 (by decide) (fun c_v1 => ?_) (fun c_v1 => ?_)
  · have hf := z_ip hf c_v1
    refine lv_aload_n hx hb dX4_numberWithin_18 rfl (lv_at hl 0 rfl) ?_
    refine z_get (v := .int (σ.1 50 6)) hx hb hts (fun w h => List.mem_cons_of_mem _ (List.mem_append_right _ (h))) hown E hh (by decide) (zC_obj (q := 50) rfl) rfl 6 (by decide) (hts (.fieldLink RX4 103 "TownBand$Tape" "number" "I") (List.mem_cons_of_mem _ (List.mem_append_left _ (List.mem_of_getElem? (i := 2) rfl)))) rfl dX4_numberWithin_19 ?_
    refine lv_iload_n hx hb dX4_numberWithin_22 rfl (lv_at hl 1 rfl) ?_
    refine lv_iload_n hx hb dX4_numberWithin_23 rfl (lv_at hl 2 rfl) ?_
    obtain ⟨q2, h_q2, hf⟩ := z_bd hf
    refine z_xi (va_runSN (As := [.int (σ.1 50 6), .int x1, .int x2]) (rest := []) ⟨hx, hb, hml, hown, hts⟩ (zcX6_within l g A σ τ N (σ.1 50 6) x1 x2 h_q2) ⟨va_cnB 3 hts gX4_numberWithin_X6_within_n137 rfl rfl rfl (zE_m E 10 rfl) (hts (.initialized RX6) (List.mem_cons_of_mem _ (List.mem_append_left _ (List.mem_of_getElem? (i := 11) rfl)))) hdX6_within.2 ⟨by decide, by decide⟩, (hts (.static yX6_within) (List.mem_cons_of_mem _ (List.mem_append_left _ (List.mem_of_getElem? (i := 10) rfl)))), trivial⟩ (z_preS E hh) rfl rfl hl.1 rfl (lv_room (Nat.le_of_ble_eq_true rfl)) dX4_numberWithin_24 ⟨Nat.le_refl _, Nat.le_refl _⟩) hh (fun H locs hh => ?_)
    refine lv_if_ne (tgt := 42) hx hb dX4_numberWithin_27 (by decide) (fun c_v3 => ?_) (fun c_v3 => ?_)
    · have hf := z_in hf c_v3
      exact (hX4_numberWithin_42 C E N) σ _ _ _ hf hh (lv_sub hl [] rfl)
    · have hf := z_ip hf c_v3
      refine lv_aload_n hx hb dX4_numberWithin_30 rfl (lv_at hl 0 rfl) ?_
      refine lv_iconst (v := (nI 3)) hx hb dX4_numberWithin_31 (by decide) ?_
      refine lv_aload_n hx hb dX4_numberWithin_32 rfl (lv_at hl 0 rfl) ?_
      refine z_get (v := .int (σ.1 50 5)) hx hb hts (fun w h => List.mem_cons_of_mem _ (List.mem_append_right _ (h))) hown E hh (by decide) (zC_obj (q := 50) rfl) rfl 5 (by decide) (hts (.fieldLink RX4 80 "TownBand$Tape" "start" "I") (List.mem_cons_of_mem _ (List.mem_append_left _ (List.mem_of_getElem? (i := 1) rfl)))) rfl dX4_numberWithin_33 ?_
      obtain ⟨q4, h_q4, hf⟩ := z_bd hf
      refine z_xi (va_runV (As := [.int (nI 3), .int (σ.1 50 5)]) (rest := []) ⟨hx, hb, hml, hown, hts⟩ (zcX4_refuse l g A σ τ N (nI 3) (σ.1 50 5) h_q4) (cwV 2 hts gX4_numberWithin_X4_refuse rfl rfl rfl hdX4_refuse ⟨by decide, by decide⟩) (z_preV E hh (by decide) (zC_obj (q := 50) rfl) rfl) rfl rfl hl.1 rfl (lv_room (Nat.le_of_ble_eq_true rfl)) dX4_numberWithin_36 ⟨Nat.le_refl _, Nat.le_refl _⟩) hh (fun H locs hh => ?_)
      refine lv_if_eq (tgt := 46) hx hb dX4_numberWithin_39 (by decide) (fun c_v5 => ?_) (fun c_v5 => ?_)
      · have hf := z_ip hf c_v5
        refine lv_iconst (v := (nI 0)) hx hb dX4_numberWithin_46 (by decide) ?_
        have hf := Option.some.inj hf
        subst hf
        exact z_zretX hx hb hr hlocks (Or.inl rfl) hh dX4_numberWithin_47
      · have hf := z_in hf c_v5
        exact (hX4_numberWithin_42 C E N) q4.2 _ _ _ hf hh (lv_sub hl [] rfl)
  · have hf := z_in hf c_v1
    refine lv_aload_n hx hb dX4_numberWithin_8 rfl (lv_at hl 0 rfl) ?_
    refine lv_iconst (v := (nI 2)) hx hb dX4_numberWithin_9 (by decide) ?_
    refine lv_aload_n hx hb dX4_numberWithin_10 rfl (lv_at hl 0 rfl) ?_
    refine z_get (v := .int (σ.1 50 5)) hx hb hts (fun w h => List.mem_cons_of_mem _ (List.mem_append_right _ (h))) hown E hh (by decide) (zC_obj (q := 50) rfl) rfl 5 (by decide) (hts (.fieldLink RX4 80 "TownBand$Tape" "start" "I") (List.mem_cons_of_mem _ (List.mem_append_left _ (List.mem_of_getElem? (i := 1) rfl)))) rfl dX4_numberWithin_11 ?_
    obtain ⟨q6, h_q6, hf⟩ := z_bd hf
    refine z_xi (va_runV (As := [.int (nI 2), .int (σ.1 50 5)]) (rest := []) ⟨hx, hb, hml, hown, hts⟩ (zcX4_refuse l g A σ τ N (nI 2) (σ.1 50 5) h_q6) (cwV 2 hts gX4_numberWithin_X4_refuse rfl rfl rfl hdX4_refuse ⟨by decide, by decide⟩) (z_preV E hh (by decide) (zC_obj (q := 50) rfl) rfl) rfl rfl hl.1 rfl (lv_room (Nat.le_of_ble_eq_true rfl)) dX4_numberWithin_14 ⟨Nat.le_refl _, Nat.le_refl _⟩) hh (fun H locs hh => ?_)
    obtain ⟨h_v7, hf⟩ := z_if hf
    have hf := Option.some.inj hf
    subst hf
    exact z_zretX hx hb hr hlocks h_v7 hh dX4_numberWithin_17
/-! ===== X4_takeNumber ===== -/
theorem hdX4_takeNumber : yX4_takeNumber.cls = RX4 ∧ yX4_takeNumber.cls ≠ "java/lang/invoke/MethodHandle" ∧ yX4_takeNumber.cls ≠ "java/lang/invoke/VarHandle" ∧ (parseMethodDescriptor yX4_takeNumber.desc).map (fun d => d.parameters.length) = some 2 := by decide +kernel
def fX4_takeNumber (N : Nat) (σ : zS) (x1 : Int32) (x2 : Int32) : Option (Int32 × zS) :=
  (fX4_takeToken N σ).bind fun q1 =>
  if q1.1 = 0 then
    some (0, q1.2)
  else
    (fX4_numberWithin N q1.2 x1 x2).bind fun q3 =>
    if q3.1 = 0 then
      some (0, q3.2)
    else
      some (1, q3.2)
set_option maxRecDepth 100000 in
set_option maxHeartbeats 4000000 in
theorem zcX4_takeNumber (l : Launch) (g : zG) (A : Nat → Prop) (σ τ : zS) (N : Nat) (x1 : Int32) (x2 : Int32)  {res : Int32 × zS} (hf : fX4_takeNumber N σ x1 x2 = some res) : Met l yX4_takeNumber wsX4_takeNumber (zR 3) (zPc g A σ τ [.ref (g.2.2 50), .int x1, .int x2]) (zQi g A τ res) 0 0 A := by
  refine z_met (cc := cX4_takeNumber) (ret := (some .boolean)) (own := RX4) (by decide) rfl rfl _ (Nat.le_of_ble_eq_true rfl) ?_
  intro p e s m below meth c C E ls hl hh
  have hl : lv_has ls 3 [(0, .ref (g.2.2 50)), (1, .int x1), (2, .int x2)] := hl
  obtain ⟨hx, hb, hr, hml, hown, hts, hlocks⟩ := id C
  unfold fX4_takeNumber at hf
  refine lv_aload_n hx hb dX4_takeNumber_0 rfl (lv_at hl 0 rfl) ?_
  obtain ⟨q1, h_q1, hf⟩ := z_bd hf
  refine z_xi (va_runV (As := []) (rest := []) ⟨hx, hb, hml, hown, hts⟩ (zcX4_takeToken l g A σ τ N  h_q1) (cwV 0 hts gX4_takeNumber_X4_takeToken rfl rfl rfl hdX4_takeToken ⟨by decide, by decide⟩) (z_preV E hh (by decide) (zC_obj (q := 50) rfl) rfl) rfl rfl hl.1 rfl (lv_room (Nat.le_of_ble_eq_true rfl)) dX4_takeNumber_1 ⟨Nat.le_refl _, Nat.le_refl _⟩) hh (fun H locs hh => ?_)
  refine lv_if_eq (tgt := 20) hx hb dX4_takeNumber_4 (by decide) (fun c_v2 => ?_) (fun c_v2 => ?_)
  · have hf := z_ip hf c_v2
    refine lv_iconst (v := (nI 0)) hx hb dX4_takeNumber_20 (by decide) ?_
    have hf := Option.some.inj hf
    subst hf
    exact z_zretX hx hb hr hlocks (Or.inl rfl) hh dX4_takeNumber_21
  · have hf := z_in hf c_v2
    refine lv_aload_n hx hb dX4_takeNumber_7 rfl (lv_at hl 0 rfl) ?_
    refine lv_iload_n hx hb dX4_takeNumber_8 rfl (lv_at hl 1 rfl) ?_
    refine lv_iload_n hx hb dX4_takeNumber_9 rfl (lv_at hl 2 rfl) ?_
    obtain ⟨q3, h_q3, hf⟩ := z_bd hf
    refine z_xi (va_runV (As := [.int x1, .int x2]) (rest := []) ⟨hx, hb, hml, hown, hts⟩ (zcX4_numberWithin l g A q1.2 τ N x1 x2 h_q3) (cwV 2 hts gX4_takeNumber_X4_numberWithin rfl rfl rfl hdX4_numberWithin ⟨by decide, by decide⟩) (z_preV E hh (by decide) (zC_obj (q := 50) rfl) rfl) rfl rfl hl.1 rfl (lv_room (Nat.le_of_ble_eq_true rfl)) dX4_takeNumber_10 ⟨Nat.le_refl _, Nat.le_refl _⟩) hh (fun H locs hh => ?_)
    refine lv_if_eq (tgt := 20) hx hb dX4_takeNumber_13 (by decide) (fun c_v4 => ?_) (fun c_v4 => ?_)
    · have hf := z_ip hf c_v4
      refine lv_iconst (v := (nI 0)) hx hb dX4_takeNumber_20 (by decide) ?_
      have hf := Option.some.inj hf
      subst hf
      exact z_zretX hx hb hr hlocks (Or.inl rfl) hh dX4_takeNumber_21
    · have hf := z_in hf c_v4
      refine lv_iconst (v := (nI 1)) hx hb dX4_takeNumber_16 (by decide) ?_
      refine lv_goto (tgt := 21) hx hb dX4_takeNumber_17 (by decide) ?_
      have hf := Option.some.inj hf
      subst hf
      exact z_zretX hx hb hr hlocks (Or.inr rfl) hh dX4_takeNumber_21
/-! ===== X4_takeStop ===== -/
theorem hdX4_takeStop : yX4_takeStop.cls = RX4 ∧ yX4_takeStop.cls ≠ "java/lang/invoke/MethodHandle" ∧ yX4_takeStop.cls ≠ "java/lang/invoke/VarHandle" ∧ (parseMethodDescriptor yX4_takeStop.desc).map (fun d => d.parameters.length) = some 0 := by decide +kernel
def PX4_takeStop_27 (p : Program) (l : Launch) (e : Env) (s : State) (m : MethodId) (args : Array Value) (below : List Frame) (meth : Method) (c : Code) (g : zG) (A : Nat → Prop) (τ : zS) (res : Int32 × zS) (f : zS → Option (Int32 × zS)) : Prop := ∀  (σ : zS) (H : Heap) (locs : List Loc) (ls : Array Slot), f σ = some res → zW g A σ τ s H locs → lv_has ls 1 [] → W p l e (zR 3) s m args below meth c H locs 0 0 (MQ below (zQi g A τ res) args s 0 0 A) (F0 m 27 ls [])
def fX4_takeStop_27 (N : Nat)  (σ : zS) : Option (Int32 × zS) :=
  some (1, σ)
set_option maxRecDepth 100000 in
set_option maxHeartbeats 4000000 in
theorem hX4_takeStop_27 {p : Program} {l : Launch} {e : Env} {s : State} {m : MethodId} {args : Array Value} {below : List Frame} {meth : Method} {c : Code} {g : zG} {A : Nat → Prop} {τ : zS} {res : Int32 × zS} (C : zCx p s m args meth c cX4_takeStop (some .boolean) wsX4_takeStop RX4 1) (E : zE g A s) (N : Nat) : PX4_takeStop_27 p l e s m args below meth c g A τ res (fX4_takeStop_27 N) := by
  obtain ⟨hx, hb, hr, hml, hown, hts, hlocks⟩ := id C
  intro σ H locs ls hf hh hl
  unfold fX4_takeStop_27 at hf
  refine lv_iconst (v := (nI 1)) hx hb dX4_takeStop_27 (by decide) ?_
  refine lv_goto (tgt := 32) hx hb dX4_takeStop_28 (by decide) ?_
  have hf := Option.some.inj hf
  subst hf
  exact z_zretX hx hb hr hlocks (Or.inr rfl) hh dX4_takeStop_32
def fX4_takeStop (N : Nat) (σ : zS)  : Option (Int32 × zS) :=
  (fX4_takeToken N σ).bind fun q1 =>
  if q1.1 = 0 then
    some (0, q1.2)
  else
    if (q1.2.1 50 4) = (nI 2) then
      (fX4_takeStop_27 N) q1.2
    else
      (fX4_refuse N q1.2 (nI 2) (q1.2.1 50 5)).bind fun q4 =>
      if q4.1 = 0 then
        some (0, q4.2)
      else
        (fX4_takeStop_27 N) q4.2
set_option maxRecDepth 100000 in
set_option maxHeartbeats 4000000 in
theorem zcX4_takeStop (l : Launch) (g : zG) (A : Nat → Prop) (σ τ : zS) (N : Nat)   {res : Int32 × zS} (hf : fX4_takeStop N σ = some res) : Met l yX4_takeStop wsX4_takeStop (zR 3) (zPc g A σ τ [.ref (g.2.2 50)]) (zQi g A τ res) 0 0 A := by
  refine z_met (cc := cX4_takeStop) (ret := (some .boolean)) (own := RX4) (by decide) rfl rfl _ (Nat.le_of_ble_eq_true rfl) ?_
  intro p e s m below meth c C E ls hl hh
  have hl : lv_has ls 1 [(0, .ref (g.2.2 50))] := hl
  obtain ⟨hx, hb, hr, hml, hown, hts, hlocks⟩ := id C
  unfold fX4_takeStop at hf
  refine lv_aload_n hx hb dX4_takeStop_0 rfl (lv_at hl 0 rfl) ?_
  obtain ⟨q1, h_q1, hf⟩ := z_bd hf
  refine z_xi (va_runV (As := []) (rest := []) ⟨hx, hb, hml, hown, hts⟩ (zcX4_takeToken l g A σ τ N  h_q1) (cwV 0 hts gX4_takeStop_X4_takeToken rfl rfl rfl hdX4_takeToken ⟨by decide, by decide⟩) (z_preV E hh (by decide) (zC_obj (q := 50) rfl) rfl) rfl rfl hl.1 rfl (lv_room (Nat.le_of_ble_eq_true rfl)) dX4_takeStop_1 ⟨Nat.le_refl _, Nat.le_refl _⟩) hh (fun H locs hh => ?_)
  refine lv_if_eq (tgt := 31) hx hb dX4_takeStop_4 (by decide) (fun c_v2 => ?_) (fun c_v2 => ?_)
  · have hf := z_ip hf c_v2
    refine lv_iconst (v := (nI 0)) hx hb dX4_takeStop_31 (by decide) ?_
    have hf := Option.some.inj hf
    subst hf
    exact z_zretX hx hb hr hlocks (Or.inl rfl) hh dX4_takeStop_32
  · have hf := z_in hf c_v2
    refine lv_aload_n hx hb dX4_takeStop_7 rfl (lv_at hl 0 rfl) ?_
    refine z_get (v := .int (q1.2.1 50 4)) hx hb hts (fun w h => List.mem_cons_of_mem _ (List.mem_append_right _ (h))) hown E hh (by decide) (zC_obj (q := 50) rfl) rfl 4 (by decide) (hts (.fieldLink RX4 61 "TownBand$Tape" "token" "I") (List.mem_cons_of_mem _ (List.mem_append_left _ (List.mem_append_left _ (List.mem_of_getElem? (i := 0) rfl))))) rfl dX4_takeStop_8 ?_
    refine lv_iconst (v := (nI 2)) hx hb dX4_takeStop_11 (by decide) ?_
    refine lv_icmp_eq (tgt := 27) hx hb dX4_takeStop_12 (by decide) (fun c_v3 => ?_) (fun c_v3 => ?_)
    · have hf := z_ip hf c_v3
      exact (hX4_takeStop_27 C E N) q1.2 _ _ _ hf hh (lv_sub hl [] rfl)
    · have hf := z_in hf c_v3
      refine lv_aload_n hx hb dX4_takeStop_15 rfl (lv_at hl 0 rfl) ?_
      refine lv_iconst (v := (nI 2)) hx hb dX4_takeStop_16 (by decide) ?_
      refine lv_aload_n hx hb dX4_takeStop_17 rfl (lv_at hl 0 rfl) ?_
      refine z_get (v := .int (q1.2.1 50 5)) hx hb hts (fun w h => List.mem_cons_of_mem _ (List.mem_append_right _ (h))) hown E hh (by decide) (zC_obj (q := 50) rfl) rfl 5 (by decide) (hts (.fieldLink RX4 80 "TownBand$Tape" "start" "I") (List.mem_cons_of_mem _ (List.mem_append_left _ (List.mem_append_left _ (List.mem_of_getElem? (i := 1) rfl))))) rfl dX4_takeStop_18 ?_
      obtain ⟨q4, h_q4, hf⟩ := z_bd hf
      refine z_xi (va_runV (As := [.int (nI 2), .int (q1.2.1 50 5)]) (rest := []) ⟨hx, hb, hml, hown, hts⟩ (zcX4_refuse l g A q1.2 τ N (nI 2) (q1.2.1 50 5) h_q4) (cwV 2 hts gX4_takeStop_X4_refuse rfl rfl rfl hdX4_refuse ⟨by decide, by decide⟩) (z_preV E hh (by decide) (zC_obj (q := 50) rfl) rfl) rfl rfl hl.1 rfl (lv_room (Nat.le_of_ble_eq_true rfl)) dX4_takeStop_21 ⟨Nat.le_refl _, Nat.le_refl _⟩) hh (fun H locs hh => ?_)
      refine lv_if_eq (tgt := 31) hx hb dX4_takeStop_24 (by decide) (fun c_v5 => ?_) (fun c_v5 => ?_)
      · have hf := z_ip hf c_v5
        refine lv_iconst (v := (nI 0)) hx hb dX4_takeStop_31 (by decide) ?_
        have hf := Option.some.inj hf
        subst hf
        exact z_zretX hx hb hr hlocks (Or.inl rfl) hh dX4_takeStop_32
      · have hf := z_in hf c_v5
        exact (hX4_takeStop_27 C E N) q4.2 _ _ _ hf hh (lv_sub hl [] rfl)
/-! ===== X4_takeRobber ===== -/
theorem hdX4_takeRobber : yX4_takeRobber.cls = RX4 ∧ yX4_takeRobber.cls ≠ "java/lang/invoke/MethodHandle" ∧ yX4_takeRobber.cls ≠ "java/lang/invoke/VarHandle" ∧ (parseMethodDescriptor yX4_takeRobber.desc).map (fun d => d.parameters.length) = some 0 := by decide +kernel
def fX4_takeRobber (N : Nat) (σ : zS)  : Option (Int32 × zS) :=
  if (σ.1 43 7) < (nI 4) then
    (fX4_takeNumber N σ (nI 0) (nI 99)).bind fun q2 =>
    if q2.1 = 0 then
      some (0, q2.2)
    else
      if zin (σ.1 43 7) (zlen 9) then
      zlet (zpa q2.2 9 (upd (q2.2.2 9) (σ.1 43 7).toNatClampNeg (q2.2.1 50 6))) fun σ5 =>
      zlet (zpf σ5 43 7 ((σ5.1 43 7) + (nI 1))) fun σ6 =>
      (fX4_takeStop N σ6).bind fun q7 =>
      if q7.1 = 0 ∨ q7.1 = 1 then
      some (q7.1, q7.2)
      else none
      else none
  else
    (fX4_refuse N σ (nI 5) (σ.1 50 5)).bind fun q9 =>
    if q9.1 = 0 ∨ q9.1 = 1 then
    some (q9.1, q9.2)
    else none
set_option maxRecDepth 100000 in
set_option maxHeartbeats 4000000 in
theorem zcX4_takeRobber (l : Launch) (g : zG) (A : Nat → Prop) (σ τ : zS) (N : Nat)   {res : Int32 × zS} (hf : fX4_takeRobber N σ = some res) : Met l yX4_takeRobber wsX4_takeRobber (zR 4) (zPc g A σ τ [.ref (g.2.2 50)]) (zQi g A τ res) 0 0 A := by
  refine z_met (cc := cX4_takeRobber) (ret := (some .boolean)) (own := RX4) (by decide) rfl rfl _ (Nat.le_of_ble_eq_true rfl) ?_
  intro p e s m below meth c C E ls hl hh
  have hl : lv_has ls 2 [(0, .ref (g.2.2 50))] := hl
  obtain ⟨hx, hb, hr, hml, hown, hts, hlocks⟩ := id C
  unfold fX4_takeRobber at hf
  refine lv_aload_n hx hb dX4_takeRobber_0 rfl (lv_at hl 0 rfl) ?_
  refine z_get (v := .ref (g.2.2 43)) hx hb hts (fun w h => List.mem_cons_of_mem _ (List.mem_append_left _ (List.mem_append_right _ (h)))) hown E hh (by decide) (zC_obj (q := 50) rfl) rfl 1 (by decide) (hts (.fieldLink RX4 18 "TownBand$Tape" "draft" "LTownBand$Band;") (List.mem_cons_of_mem _ (List.mem_append_left _ (List.mem_append_left _ (List.mem_append_left _ (List.mem_of_getElem? (i := 0) rfl)))))) rfl dX4_takeRobber_1 ?_
  refine z_getN (v := .int (σ.1 43 7)) hx hb hts (fun w h => List.mem_cons_of_mem _ (List.mem_append_right _ (h))) hown E hh (by decide) (zC_band (by decide) (by decide)) rfl 7 (by decide) (zE_f E 19 rfl) rfl dX4_takeRobber_4 ?_
  refine lv_istore_n (lv' := [(1, .int (σ.1 43 7)), (0, .ref (g.2.2 50))]) hx hb dX4_takeRobber_7 rfl hl (by decide) rfl (fun ls hl => ?_)
  refine lv_iload_n hx hb dX4_takeRobber_8 rfl (lv_at hl 0 rfl) ?_
  refine lv_iconst (v := (nI 4)) hx hb dX4_takeRobber_9 (by decide) ?_
  refine lv_icmp_lt (tgt := 23) hx hb dX4_takeRobber_10 (by decide) (fun c_v1 => ?_) (fun c_v1 => ?_)
  · have hf := z_ip hf c_v1
    refine lv_aload_n hx hb dX4_takeRobber_23 rfl (lv_at hl 1 rfl) ?_
    refine lv_iconst (v := (nI 0)) hx hb dX4_takeRobber_24 (by decide) ?_
    refine lv_bipush (v := (nI 99)) hx hb dX4_takeRobber_25 (by decide) ?_
    obtain ⟨q2, h_q2, hf⟩ := z_bd hf
    refine z_xi (va_runV (As := [.int (nI 0), .int (nI 99)]) (rest := []) ⟨hx, hb, hml, hown, hts⟩ (zcX4_takeNumber l g A σ τ N (nI 0) (nI 99) h_q2) (cwV 2 hts gX4_takeRobber_X4_takeNumber rfl rfl rfl hdX4_takeNumber ⟨by decide, by decide⟩) (z_preV E hh (by decide) (zC_obj (q := 50) rfl) rfl) rfl rfl hl.1 rfl (lv_room (Nat.le_of_ble_eq_true rfl)) dX4_takeRobber_27 ⟨Nat.le_refl _, Nat.le_refl _⟩) hh (fun H locs hh => ?_)
    refine lv_if_ne (tgt := 35) hx hb dX4_takeRobber_30 (by decide) (fun c_v3 => ?_) (fun c_v3 => ?_)
    · have hf := z_in hf c_v3
      refine lv_aload_n hx hb dX4_takeRobber_35 rfl (lv_at hl 1 rfl) ?_
      refine z_get (v := .ref (g.2.2 43)) hx hb hts (fun w h => List.mem_cons_of_mem _ (List.mem_append_left _ (List.mem_append_right _ (h)))) hown E hh (by decide) (zC_obj (q := 50) rfl) rfl 1 (by decide) (hts (.fieldLink RX4 18 "TownBand$Tape" "draft" "LTownBand$Band;") (List.mem_cons_of_mem _ (List.mem_append_left _ (List.mem_append_left _ (List.mem_append_left _ (List.mem_of_getElem? (i := 0) rfl)))))) rfl dX4_takeRobber_36 ?_
      refine z_getN (v := .ref (g.2.2 9)) hx hb hts (fun w h => List.mem_cons_of_mem _ (List.mem_append_right _ (h))) hown E hh (by decide) (zC_band (by decide) (by decide)) rfl 3 (by decide) (zE_f E 8 rfl) rfl dX4_takeRobber_39 ?_
      refine lv_iload_n hx hb dX4_takeRobber_42 rfl (lv_at hl 0 rfl) ?_
      refine lv_aload_n hx hb dX4_takeRobber_43 rfl (lv_at hl 1 rfl) ?_
      refine z_get (v := .int (q2.2.1 50 6)) hx hb hts (fun w h => List.mem_cons_of_mem _ (List.mem_append_left _ (List.mem_append_right _ (h)))) hown E hh (by decide) (zC_obj (q := 50) rfl) rfl 6 (by decide) (hts (.fieldLink RX4 103 "TownBand$Tape" "number" "I") (List.mem_cons_of_mem _ (List.mem_append_left _ (List.mem_append_left _ (List.mem_append_left _ (List.mem_of_getElem? (i := 2) rfl)))))) rfl dX4_takeRobber_44 ?_
      obtain ⟨h_v4, hf⟩ := z_if hf
      obtain ⟨σ5, e_σ5, hf⟩ := z_lt hf
      refine z_iast hx hb E hh (by decide) h_v4 e_σ5 dX4_takeRobber_47 (fun H locs hh => ?_)
      refine lv_aload_n hx hb dX4_takeRobber_48 rfl (lv_at hl 1 rfl) ?_
      refine z_get (v := .ref (g.2.2 43)) hx hb hts (fun w h => List.mem_cons_of_mem _ (List.mem_append_left _ (List.mem_append_right _ (h)))) hown E hh (by decide) (zC_obj (q := 50) rfl) rfl 1 (by decide) (hts (.fieldLink RX4 18 "TownBand$Tape" "draft" "LTownBand$Band;") (List.mem_cons_of_mem _ (List.mem_append_left _ (List.mem_append_left _ (List.mem_append_left _ (List.mem_of_getElem? (i := 0) rfl)))))) rfl dX4_takeRobber_49 ?_
      refine lv_dup hx hb dX4_takeRobber_52 rfl ?_
      refine z_getN (v := .int (σ5.1 43 7)) hx hb hts (fun w h => List.mem_cons_of_mem _ (List.mem_append_right _ (h))) hown E hh (by decide) (zC_band (by decide) (by decide)) rfl 7 (by decide) (zE_f E 19 rfl) rfl dX4_takeRobber_53 ?_
      refine lv_iconst (v := (nI 1)) hx hb dX4_takeRobber_56 (by decide) ?_
      refine lv_iadd hx hb dX4_takeRobber_57 ?_
      obtain ⟨σ6, e_σ6, hf⟩ := z_lt hf
      refine z_putN hx hb hts (fun w h => List.mem_cons_of_mem _ (List.mem_append_right _ (h))) tyX0 tyX0_ok nmX0 hown E hh (by decide) (zD_band (by decide) (by decide)) rfl 7 (by decide) rfl (zE_f E 19 rfl) rfl rfl e_σ6 dX4_takeRobber_58 (fun H locs hh => ?_)
      refine lv_aload_n hx hb dX4_takeRobber_61 rfl (lv_at hl 1 rfl) ?_
      obtain ⟨q7, h_q7, hf⟩ := z_bd hf
      refine z_xi (va_runV (As := []) (rest := []) ⟨hx, hb, hml, hown, hts⟩ (zcX4_takeStop l g A σ6 τ N  h_q7) (cwV 0 hts gX4_takeRobber_X4_takeStop rfl rfl rfl hdX4_takeStop ⟨by decide, by decide⟩) (z_preV E hh (by decide) (zC_obj (q := 50) rfl) rfl) rfl rfl hl.1 rfl (lv_room (Nat.le_of_ble_eq_true rfl)) dX4_takeRobber_62 ⟨Nat.le_refl _, Nat.le_refl _⟩) hh (fun H locs hh => ?_)
      obtain ⟨h_v8, hf⟩ := z_if hf
      have hf := Option.some.inj hf
      subst hf
      exact z_zretX hx hb hr hlocks h_v8 hh dX4_takeRobber_65
    · have hf := z_ip hf c_v3
      refine lv_iconst (v := (nI 0)) hx hb dX4_takeRobber_33 (by decide) ?_
      have hf := Option.some.inj hf
      subst hf
      exact z_zretX hx hb hr hlocks (Or.inl rfl) hh dX4_takeRobber_34
  · have hf := z_in hf c_v1
    refine lv_aload_n hx hb dX4_takeRobber_13 rfl (lv_at hl 1 rfl) ?_
    refine lv_iconst (v := (nI 5)) hx hb dX4_takeRobber_14 (by decide) ?_
    refine lv_aload_n hx hb dX4_takeRobber_15 rfl (lv_at hl 1 rfl) ?_
    refine z_get (v := .int (σ.1 50 5)) hx hb hts (fun w h => List.mem_cons_of_mem _ (List.mem_append_left _ (List.mem_append_right _ (h)))) hown E hh (by decide) (zC_obj (q := 50) rfl) rfl 5 (by decide) (hts (.fieldLink RX4 80 "TownBand$Tape" "start" "I") (List.mem_cons_of_mem _ (List.mem_append_left _ (List.mem_append_left _ (List.mem_append_left _ (List.mem_of_getElem? (i := 1) rfl)))))) rfl dX4_takeRobber_16 ?_
    obtain ⟨q9, h_q9, hf⟩ := z_bd hf
    refine z_xi (va_runV (As := [.int (nI 5), .int (σ.1 50 5)]) (rest := []) ⟨hx, hb, hml, hown, hts⟩ (zcX4_refuse l g A σ τ N (nI 5) (σ.1 50 5) h_q9) (cwV 2 hts gX4_takeRobber_X4_refuse rfl rfl rfl hdX4_refuse ⟨by decide, by decide⟩) (z_preV E hh (by decide) (zC_obj (q := 50) rfl) rfl) rfl rfl hl.1 rfl (lv_room (Nat.le_of_ble_eq_true rfl)) dX4_takeRobber_19 ⟨Nat.le_refl _, Nat.le_refl _⟩) hh (fun H locs hh => ?_)
    obtain ⟨h_v10, hf⟩ := z_if hf
    have hf := Option.some.inj hf
    subst hf
    exact z_zretX hx hb hr hlocks h_v10 hh dX4_takeRobber_22
/-! ===== X4_isFirst ===== -/
theorem hdX4_isFirst : yX4_isFirst.cls = RX4 ∧ yX4_isFirst.cls ≠ "java/lang/invoke/MethodHandle" ∧ yX4_isFirst.cls ≠ "java/lang/invoke/VarHandle" ∧ (parseMethodDescriptor yX4_isFirst.desc).map (fun d => d.parameters.length) = some 1 := by decide +kernel
def fX4_isFirst (N : Nat) (σ : zS) (x1 : Int32) : Option (Int32 × zS) :=
  if (((σ.1 50 7) >>> (x1 &&& 31)) &&& (nI 1)) = (nI 1) then
    (fX4_refuse N σ (nI 4) (σ.1 50 5)).bind fun q3 =>
    if q3.1 = 0 ∨ q3.1 = 1 then
    some (q3.1, q3.2)
    else none
  else
    zlet (zpf σ 50 7 ((σ.1 50 7) ||| ((nI 1) <<< (x1 &&& 31)))) fun σ2 =>
    some (1, σ2)
set_option maxRecDepth 100000 in
set_option maxHeartbeats 4000000 in
theorem zcX4_isFirst (l : Launch) (g : zG) (A : Nat → Prop) (σ τ : zS) (N : Nat) (x1 : Int32)  {res : Int32 × zS} (hf : fX4_isFirst N σ x1 = some res) : Met l yX4_isFirst wsX4_isFirst (zR 1) (zPc g A σ τ [.ref (g.2.2 50), .int x1]) (zQi g A τ res) 0 0 A := by
  refine z_met (cc := cX4_isFirst) (ret := (some .boolean)) (own := RX4) (by decide) rfl rfl _ (Nat.le_of_ble_eq_true rfl) ?_
  intro p e s m below meth c C E ls hl hh
  have hl : lv_has ls 2 [(0, .ref (g.2.2 50)), (1, .int x1)] := hl
  obtain ⟨hx, hb, hr, hml, hown, hts, hlocks⟩ := id C
  unfold fX4_isFirst at hf
  refine lv_aload_n hx hb dX4_isFirst_0 rfl (lv_at hl 0 rfl) ?_
  refine z_get (v := .int (σ.1 50 7)) hx hb hts (fun w h => List.mem_cons_of_mem _ (List.mem_append_right _ (h))) hown E hh (by decide) (zC_obj (q := 50) rfl) rfl 7 (by decide) (hts (.fieldLink RX4 42 "TownBand$Tape" "told" "I") (List.mem_cons_of_mem _ (List.mem_append_left _ (List.mem_of_getElem? (i := 0) rfl)))) rfl dX4_isFirst_1 ?_
  refine lv_iload_n hx hb dX4_isFirst_4 rfl (lv_at hl 1 rfl) ?_
  refine lv_ishr hx hb dX4_isFirst_5 ?_
  refine lv_iconst (v := (nI 1)) hx hb dX4_isFirst_6 (by decide) ?_
  refine lv_iand hx hb dX4_isFirst_7 ?_
  refine lv_iconst (v := (nI 1)) hx hb dX4_isFirst_8 (by decide) ?_
  refine lv_icmp_ne (tgt := 22) hx hb dX4_isFirst_9 (by decide) (fun c_v1 => ?_) (fun c_v1 => ?_)
  · have hf := z_in hf c_v1
    refine lv_aload_n hx hb dX4_isFirst_22 rfl (lv_at hl 0 rfl) ?_
    refine lv_dup hx hb dX4_isFirst_23 rfl ?_
    refine z_get (v := .int (σ.1 50 7)) hx hb hts (fun w h => List.mem_cons_of_mem _ (List.mem_append_right _ (h))) hown E hh (by decide) (zC_obj (q := 50) rfl) rfl 7 (by decide) (hts (.fieldLink RX4 42 "TownBand$Tape" "told" "I") (List.mem_cons_of_mem _ (List.mem_append_left _ (List.mem_of_getElem? (i := 0) rfl)))) rfl dX4_isFirst_24 ?_
    refine lv_iconst (v := (nI 1)) hx hb dX4_isFirst_27 (by decide) ?_
    refine lv_iload_n hx hb dX4_isFirst_28 rfl (lv_at hl 1 rfl) ?_
    refine lv_ishl hx hb dX4_isFirst_29 ?_
    refine lv_ior hx hb dX4_isFirst_30 ?_
    obtain ⟨σ2, e_σ2, hf⟩ := z_lt hf
    refine z_put hx hb hts (fun w h => List.mem_cons_of_mem _ (List.mem_append_right _ (h))) tyX4 tyX4_ok nmX4 hown E hh (by decide) (show zD 50 = _ from rfl) rfl 7 (by decide) rfl (hts (.fieldLink RX4 42 "TownBand$Tape" "told" "I") (List.mem_cons_of_mem _ (List.mem_append_left _ (List.mem_of_getElem? (i := 0) rfl)))) rfl rfl e_σ2 dX4_isFirst_31 (fun H locs hh => ?_)
    refine lv_iconst (v := (nI 1)) hx hb dX4_isFirst_34 (by decide) ?_
    have hf := Option.some.inj hf
    subst hf
    exact z_zretX hx hb hr hlocks (Or.inr rfl) hh dX4_isFirst_35
  · have hf := z_ip hf c_v1
    refine lv_aload_n hx hb dX4_isFirst_12 rfl (lv_at hl 0 rfl) ?_
    refine lv_iconst (v := (nI 4)) hx hb dX4_isFirst_13 (by decide) ?_
    refine lv_aload_n hx hb dX4_isFirst_14 rfl (lv_at hl 0 rfl) ?_
    refine z_get (v := .int (σ.1 50 5)) hx hb hts (fun w h => List.mem_cons_of_mem _ (List.mem_append_right _ (h))) hown E hh (by decide) (zC_obj (q := 50) rfl) rfl 5 (by decide) (hts (.fieldLink RX4 80 "TownBand$Tape" "start" "I") (List.mem_cons_of_mem _ (List.mem_append_left _ (List.mem_of_getElem? (i := 1) rfl)))) rfl dX4_isFirst_15 ?_
    obtain ⟨q3, h_q3, hf⟩ := z_bd hf
    refine z_xi (va_runV (As := [.int (nI 4), .int (σ.1 50 5)]) (rest := []) ⟨hx, hb, hml, hown, hts⟩ (zcX4_refuse l g A σ τ N (nI 4) (σ.1 50 5) h_q3) (cwV 2 hts gX4_isFirst_X4_refuse rfl rfl rfl hdX4_refuse ⟨by decide, by decide⟩) (z_preV E hh (by decide) (zC_obj (q := 50) rfl) rfl) rfl rfl hl.1 rfl (lv_room (Nat.le_of_ble_eq_true rfl)) dX4_isFirst_18 ⟨Nat.le_refl _, Nat.le_refl _⟩) hh (fun H locs hh => ?_)
    obtain ⟨h_v4, hf⟩ := z_if hf
    have hf := Option.some.inj hf
    subst hf
    exact z_zretX hx hb hr hlocks h_v4 hh dX4_isFirst_21
/-! ===== X4_takeScout ===== -/
theorem hdX4_takeScout : yX4_takeScout.cls = RX4 ∧ yX4_takeScout.cls ≠ "java/lang/invoke/MethodHandle" ∧ yX4_takeScout.cls ≠ "java/lang/invoke/VarHandle" ∧ (parseMethodDescriptor yX4_takeScout.desc).map (fun d => d.parameters.length) = some 0 := by decide +kernel
def fX4_takeScout (N : Nat) (σ : zS)  : Option (Int32 × zS) :=
  (fX4_isFirst N σ (nI 5)).bind fun q1 =>
  if q1.1 = 0 then
    some (0, q1.2)
  else
    (fX4_takeNumber N q1.2 (nI 0) (nI 40)).bind fun q3 =>
    if q3.1 = 0 then
      some (0, q3.2)
    else
      zlet (zpf q3.2 43 9 (q3.2.1 50 6)) fun σ5 =>
      (fX4_takeStop N σ5).bind fun q6 =>
      if q6.1 = 0 ∨ q6.1 = 1 then
      some (q6.1, q6.2)
      else none
set_option maxRecDepth 100000 in
set_option maxHeartbeats 4000000 in
theorem zcX4_takeScout (l : Launch) (g : zG) (A : Nat → Prop) (σ τ : zS) (N : Nat)   {res : Int32 × zS} (hf : fX4_takeScout N σ = some res) : Met l yX4_takeScout wsX4_takeScout (zR 4) (zPc g A σ τ [.ref (g.2.2 50)]) (zQi g A τ res) 0 0 A := by
  refine z_met (cc := cX4_takeScout) (ret := (some .boolean)) (own := RX4) (by decide) rfl rfl _ (Nat.le_of_ble_eq_true rfl) ?_
  intro p e s m below meth c C E ls hl hh
  have hl : lv_has ls 1 [(0, .ref (g.2.2 50))] := hl
  obtain ⟨hx, hb, hr, hml, hown, hts, hlocks⟩ := id C
  unfold fX4_takeScout at hf
  refine lv_aload_n hx hb dX4_takeScout_0 rfl (lv_at hl 0 rfl) ?_
  refine lv_iconst (v := (nI 5)) hx hb dX4_takeScout_1 (by decide) ?_
  obtain ⟨q1, h_q1, hf⟩ := z_bd hf
  refine z_xi (va_runV (As := [.int (nI 5)]) (rest := []) ⟨hx, hb, hml, hown, hts⟩ (zcX4_isFirst l g A σ τ N (nI 5) h_q1) (cwV 1 hts gX4_takeScout_X4_isFirst rfl rfl rfl hdX4_isFirst ⟨by decide, by decide⟩) (z_preV E hh (by decide) (zC_obj (q := 50) rfl) rfl) rfl rfl hl.1 rfl (lv_room (Nat.le_of_ble_eq_true rfl)) dX4_takeScout_2 ⟨Nat.le_refl _, Nat.le_refl _⟩) hh (fun H locs hh => ?_)
  refine lv_if_eq (tgt := 18) hx hb dX4_takeScout_5 (by decide) (fun c_v2 => ?_) (fun c_v2 => ?_)
  · have hf := z_ip hf c_v2
    refine lv_iconst (v := (nI 0)) hx hb dX4_takeScout_18 (by decide) ?_
    have hf := Option.some.inj hf
    subst hf
    exact z_zretX hx hb hr hlocks (Or.inl rfl) hh dX4_takeScout_19
  · have hf := z_in hf c_v2
    refine lv_aload_n hx hb dX4_takeScout_8 rfl (lv_at hl 0 rfl) ?_
    refine lv_iconst (v := (nI 0)) hx hb dX4_takeScout_9 (by decide) ?_
    refine lv_bipush (v := (nI 40)) hx hb dX4_takeScout_10 (by decide) ?_
    obtain ⟨q3, h_q3, hf⟩ := z_bd hf
    refine z_xi (va_runV (As := [.int (nI 0), .int (nI 40)]) (rest := []) ⟨hx, hb, hml, hown, hts⟩ (zcX4_takeNumber l g A q1.2 τ N (nI 0) (nI 40) h_q3) (cwV 2 hts gX4_takeScout_X4_takeNumber rfl rfl rfl hdX4_takeNumber ⟨by decide, by decide⟩) (z_preV E hh (by decide) (zC_obj (q := 50) rfl) rfl) rfl rfl hl.1 rfl (lv_room (Nat.le_of_ble_eq_true rfl)) dX4_takeScout_12 ⟨Nat.le_refl _, Nat.le_refl _⟩) hh (fun H locs hh => ?_)
    refine lv_if_ne (tgt := 20) hx hb dX4_takeScout_15 (by decide) (fun c_v4 => ?_) (fun c_v4 => ?_)
    · have hf := z_in hf c_v4
      refine lv_aload_n hx hb dX4_takeScout_20 rfl (lv_at hl 0 rfl) ?_
      refine z_get (v := .ref (g.2.2 43)) hx hb hts (fun w h => List.mem_cons_of_mem _ (List.mem_append_left _ (List.mem_append_right _ (h)))) hown E hh (by decide) (zC_obj (q := 50) rfl) rfl 1 (by decide) (hts (.fieldLink RX4 18 "TownBand$Tape" "draft" "LTownBand$Band;") (List.mem_cons_of_mem _ (List.mem_append_left _ (List.mem_append_left _ (List.mem_append_left _ (List.mem_of_getElem? (i := 0) rfl)))))) rfl dX4_takeScout_21 ?_
      refine lv_aload_n hx hb dX4_takeScout_24 rfl (lv_at hl 0 rfl) ?_
      refine z_get (v := .int (q3.2.1 50 6)) hx hb hts (fun w h => List.mem_cons_of_mem _ (List.mem_append_left _ (List.mem_append_right _ (h)))) hown E hh (by decide) (zC_obj (q := 50) rfl) rfl 6 (by decide) (hts (.fieldLink RX4 103 "TownBand$Tape" "number" "I") (List.mem_cons_of_mem _ (List.mem_append_left _ (List.mem_append_left _ (List.mem_append_left _ (List.mem_of_getElem? (i := 1) rfl)))))) rfl dX4_takeScout_25 ?_
      obtain ⟨σ5, e_σ5, hf⟩ := z_lt hf
      refine z_putN hx hb hts (fun w h => List.mem_cons_of_mem _ (List.mem_append_right _ (h))) tyX0 tyX0_ok nmX0 hown E hh (by decide) (zD_band (by decide) (by decide)) rfl 9 (by decide) rfl (zE_f E 24 rfl) rfl rfl e_σ5 dX4_takeScout_28 (fun H locs hh => ?_)
      refine lv_aload_n hx hb dX4_takeScout_31 rfl (lv_at hl 0 rfl) ?_
      obtain ⟨q6, h_q6, hf⟩ := z_bd hf
      refine z_xi (va_runV (As := []) (rest := []) ⟨hx, hb, hml, hown, hts⟩ (zcX4_takeStop l g A σ5 τ N  h_q6) (cwV 0 hts gX4_takeScout_X4_takeStop rfl rfl rfl hdX4_takeStop ⟨by decide, by decide⟩) (z_preV E hh (by decide) (zC_obj (q := 50) rfl) rfl) rfl rfl hl.1 rfl (lv_room (Nat.le_of_ble_eq_true rfl)) dX4_takeScout_32 ⟨Nat.le_refl _, Nat.le_refl _⟩) hh (fun H locs hh => ?_)
      obtain ⟨h_v7, hf⟩ := z_if hf
      have hf := Option.some.inj hf
      subst hf
      exact z_zretX hx hb hr hlocks h_v7 hh dX4_takeScout_35
    · have hf := z_ip hf c_v4
      refine lv_iconst (v := (nI 0)) hx hb dX4_takeScout_18 (by decide) ?_
      have hf := Option.some.inj hf
      subst hf
      exact z_zretX hx hb hr hlocks (Or.inl rfl) hh dX4_takeScout_19
/-! ===== X4_takeRow ===== -/
theorem hdX4_takeRow : yX4_takeRow.cls = RX4 ∧ yX4_takeRow.cls ≠ "java/lang/invoke/MethodHandle" ∧ yX4_takeRow.cls ≠ "java/lang/invoke/VarHandle" ∧ (parseMethodDescriptor yX4_takeRow.desc).map (fun d => d.parameters.length) = some 1 := by decide +kernel
def PX4_takeRow_58 (p : Program) (l : Launch) (e : Env) (s : State) (m : MethodId) (args : Array Value) (below : List Frame) (meth : Method) (c : Code) (g : zG) (A : Nat → Prop) (τ : zS) (res : Int32 × zS) (f : Int32 → zS → Option (Int32 × zS)) : Prop := ∀ (x2 : Int32) (σ : zS) (H : Heap) (locs : List Loc) (ls : Array Slot), f x2 σ = some res → zW g A σ τ s H locs → lv_has ls 5 [(0, .ref (g.2.2 50)), (2, .int x2)] → W p l e (zR 3) s m args below meth c H locs 0 0 (MQ below (zQi g A τ res) args s 0 0 A) (F0 m 58 ls [])
def PX4_takeRow_7 (p : Program) (l : Launch) (e : Env) (s : State) (m : MethodId) (args : Array Value) (below : List Frame) (meth : Method) (c : Code) (g : zG) (A : Nat → Prop) (τ : zS) (res : Int32 × zS) (f : Nat → Int32 → Int32 → Int32 → zS → Option (Int32 × zS)) : Prop := ∀ (b1 : Nat) (x2 : Int32) (x3 : Int32) (x4 : Int32) (h_b1 : b1 < 39) (σ : zS) (H : Heap) (locs : List Loc) (ls : Array Slot), f b1 x2 x3 x4 σ = some res → zW g A σ τ s H locs → lv_has ls 5 [(0, .ref (g.2.2 50)), (1, .ref (g.2.2 b1)), (2, .int x2), (3, .int x3), (4, .int x4)] → W p l e (zR 3) s m args below meth c H locs 0 0 (MQ below (zQi g A τ res) args s 0 0 A) (F0 m 7 ls [])
def fX4_takeRow_58 (N : Nat) (x2 : Int32) (σ : zS) : Option (Int32 × zS) :=
  (fX4_refuse N σ (nI 4) (σ.1 50 5)).bind fun q1 =>
  some (x2, q1.2)
set_option maxRecDepth 100000 in
set_option maxHeartbeats 4000000 in
theorem hX4_takeRow_58 {p : Program} {l : Launch} {e : Env} {s : State} {m : MethodId} {args : Array Value} {below : List Frame} {meth : Method} {c : Code} {g : zG} {A : Nat → Prop} {τ : zS} {res : Int32 × zS} (C : zCx p s m args meth c cX4_takeRow (some .int) wsX4_takeRow RX4 5) (E : zE g A s) (N : Nat) : PX4_takeRow_58 p l e s m args below meth c g A τ res (fX4_takeRow_58 N) := by
  obtain ⟨hx, hb, hr, hml, hown, hts, hlocks⟩ := id C
  intro x2 σ H locs ls hf hh hl
  unfold fX4_takeRow_58 at hf
  refine lv_aload_n hx hb dX4_takeRow_58 rfl (lv_at hl 0 rfl) ?_
  refine lv_iconst (v := (nI 4)) hx hb dX4_takeRow_59 (by decide) ?_
  refine lv_aload_n hx hb dX4_takeRow_60 rfl (lv_at hl 0 rfl) ?_
  refine z_get (v := .int (σ.1 50 5)) hx hb hts (fun w h => List.mem_cons_of_mem _ (List.mem_append_right _ (h))) hown E hh (by decide) (zC_obj (q := 50) rfl) rfl 5 (by decide) (hts (.fieldLink RX4 80 "TownBand$Tape" "start" "I") (List.mem_cons_of_mem _ (List.mem_append_left _ (List.mem_append_left _ (List.mem_of_getElem? (i := 2) rfl))))) rfl dX4_takeRow_61 ?_
  obtain ⟨q1, h_q1, hf⟩ := z_bd hf
  refine z_xi (va_runV (As := [.int (nI 4), .int (σ.1 50 5)]) (rest := []) ⟨hx, hb, hml, hown, hts⟩ (zcX4_refuse l g A σ τ N (nI 4) (σ.1 50 5) h_q1) (cwV 2 hts gX4_takeRow_X4_refuse rfl rfl rfl hdX4_refuse ⟨by decide, by decide⟩) (z_preV E hh (by decide) (zC_obj (q := 50) rfl) rfl) rfl rfl hl.1 rfl (lv_room (Nat.le_of_ble_eq_true rfl)) dX4_takeRow_64 ⟨Nat.le_refl _, Nat.le_refl _⟩) hh (fun H locs hh => ?_)
  refine lv_pop hx hb dX4_takeRow_67 rfl ?_
  refine lv_iload_n hx hb dX4_takeRow_68 rfl (lv_at hl 1 rfl) ?_
  have hf := Option.some.inj hf
  subst hf
  exact z_iretX hx hb hr hlocks hh dX4_takeRow_69
def fX4_takeRow_7 (N : Nat) (k_58 : Int32 → zS → Option (Int32 × zS)) : Nat → Nat → Int32 → Int32 → Int32 → zS → Option (Int32 × zS)
  | 0, _, _, _, _, _ => none
  | n + 1, b1, x2, x3, x4, σ =>
    if (nI 5) < x4 then
      some (x2, σ)
    else
      (fX4_takeToken N σ).bind fun q2 =>
      if q2.1 = 0 then
        some (x2, q2.2)
      else
        if (q2.2.1 50 4) = (nI 2) then
          some (x2, q2.2)
        else
          (fX4_numberWithin N q2.2 (nI 0) (nI 4)).bind fun q5 =>
          if q5.1 = 0 then
            some (x2, q5.2)
          else
            if ((x3 >>> ((q5.2.1 50 6) &&& 31)) &&& (nI 1)) = (nI 1) then
              k_58 x2 q5.2
            else
              if x2 < (nI 5) then
                zlet (x3 ||| ((nI 1) <<< ((q5.2.1 50 6) &&& 31))) fun v9 =>
                if zin x2 (zlen b1) then
                zlet (zpa q5.2 b1 (upd (q5.2.2 b1) x2.toNatClampNeg (q5.2.1 50 6))) fun σ11 =>
                (fX4_takeRow_7 N k_58 n) b1 (x2 + (nI 1)) v9 (x4 + (nI 1)) σ11
                else none
              else
                k_58 x2 q5.2
set_option maxRecDepth 100000 in
set_option maxHeartbeats 4000000 in
theorem hX4_takeRow_7 {p : Program} {l : Launch} {e : Env} {s : State} {m : MethodId} {args : Array Value} {below : List Frame} {meth : Method} {c : Code} {g : zG} {A : Nat → Prop} {τ : zS} {res : Int32 × zS} (C : zCx p s m args meth c cX4_takeRow (some .int) wsX4_takeRow RX4 5) (E : zE g A s) (N : Nat) (k_58 : Int32 → zS → Option (Int32 × zS)) (hk_58 : PX4_takeRow_58 p l e s m args below meth c g A τ res k_58) : ∀ n : Nat, PX4_takeRow_7 p l e s m args below meth c g A τ res (fX4_takeRow_7 N k_58 n) := by
  obtain ⟨hx, hb, hr, hml, hown, hts, hlocks⟩ := id C
  intro n
  induction n with
  | zero =>
    intro b1 x2 x3 x4 h_b1 σ H locs ls hf
    exact absurd hf (by simp [fX4_takeRow_7])
  | succ n ih =>
    intro b1 x2 x3 x4 h_b1 σ H locs ls hf hh hl
    rw [fX4_takeRow_7] at hf
    refine lv_iload hx hb dX4_takeRow_7 (lv_at hl 4 rfl) ?_
    refine lv_iconst (v := (nI 5)) hx hb dX4_takeRow_9 (by decide) ?_
    refine lv_icmp_gt (tgt := 95) hx hb dX4_takeRow_10 (by decide) (fun c_v1 => ?_) (fun c_v1 => ?_)
    · have hf := z_ip hf c_v1
      refine lv_iload_n hx hb dX4_takeRow_95 rfl (lv_at hl 2 rfl) ?_
      have hf := Option.some.inj hf
      subst hf
      exact z_iretX hx hb hr hlocks hh dX4_takeRow_96
    · have hf := z_in hf c_v1
      refine lv_aload_n hx hb dX4_takeRow_13 rfl (lv_at hl 0 rfl) ?_
      obtain ⟨q2, h_q2, hf⟩ := z_bd hf
      refine z_xi (va_runV (As := []) (rest := []) ⟨hx, hb, hml, hown, hts⟩ (zcX4_takeToken l g A σ τ N  h_q2) (cwV 0 hts gX4_takeRow_X4_takeToken rfl rfl rfl hdX4_takeToken ⟨by decide, by decide⟩) (z_preV E hh (by decide) (zC_obj (q := 50) rfl) rfl) rfl rfl hl.1 rfl (lv_room (Nat.le_of_ble_eq_true rfl)) dX4_takeRow_14 ⟨Nat.le_refl _, Nat.le_refl _⟩) hh (fun H locs hh => ?_)
      refine lv_if_eq (tgt := 28) hx hb dX4_takeRow_17 (by decide) (fun c_v3 => ?_) (fun c_v3 => ?_)
      · have hf := z_ip hf c_v3
        refine lv_iload_n hx hb dX4_takeRow_28 rfl (lv_at hl 2 rfl) ?_
        have hf := Option.some.inj hf
        subst hf
        exact z_iretX hx hb hr hlocks hh dX4_takeRow_29
      · have hf := z_in hf c_v3
        refine lv_aload_n hx hb dX4_takeRow_20 rfl (lv_at hl 0 rfl) ?_
        refine z_get (v := .int (q2.2.1 50 4)) hx hb hts (fun w h => List.mem_cons_of_mem _ (List.mem_append_right _ (h))) hown E hh (by decide) (zC_obj (q := 50) rfl) rfl 4 (by decide) (hts (.fieldLink RX4 61 "TownBand$Tape" "token" "I") (List.mem_cons_of_mem _ (List.mem_append_left _ (List.mem_append_left _ (List.mem_of_getElem? (i := 0) rfl))))) rfl dX4_takeRow_21 ?_
        refine lv_iconst (v := (nI 2)) hx hb dX4_takeRow_24 (by decide) ?_
        refine lv_icmp_ne (tgt := 30) hx hb dX4_takeRow_25 (by decide) (fun c_v4 => ?_) (fun c_v4 => ?_)
        · have hf := z_in hf c_v4
          refine lv_aload_n hx hb dX4_takeRow_30 rfl (lv_at hl 0 rfl) ?_
          refine lv_iconst (v := (nI 0)) hx hb dX4_takeRow_31 (by decide) ?_
          refine lv_iconst (v := (nI 4)) hx hb dX4_takeRow_32 (by decide) ?_
          obtain ⟨q5, h_q5, hf⟩ := z_bd hf
          refine z_xi (va_runV (As := [.int (nI 0), .int (nI 4)]) (rest := []) ⟨hx, hb, hml, hown, hts⟩ (zcX4_numberWithin l g A q2.2 τ N (nI 0) (nI 4) h_q5) (cwV 2 hts gX4_takeRow_X4_numberWithin rfl rfl rfl hdX4_numberWithin ⟨by decide, by decide⟩) (z_preV E hh (by decide) (zC_obj (q := 50) rfl) rfl) rfl rfl hl.1 rfl (lv_room (Nat.le_of_ble_eq_true rfl)) dX4_takeRow_33 ⟨Nat.le_refl _, Nat.le_refl _⟩) hh (fun H locs hh => ?_)
          refine lv_if_ne (tgt := 41) hx hb dX4_takeRow_36 (by decide) (fun c_v6 => ?_) (fun c_v6 => ?_)
          · have hf := z_in hf c_v6
            refine lv_iload_n hx hb dX4_takeRow_41 rfl (lv_at hl 3 rfl) ?_
            refine lv_aload_n hx hb dX4_takeRow_42 rfl (lv_at hl 0 rfl) ?_
            refine z_get (v := .int (q5.2.1 50 6)) hx hb hts (fun w h => List.mem_cons_of_mem _ (List.mem_append_right _ (h))) hown E hh (by decide) (zC_obj (q := 50) rfl) rfl 6 (by decide) (hts (.fieldLink RX4 103 "TownBand$Tape" "number" "I") (List.mem_cons_of_mem _ (List.mem_append_left _ (List.mem_append_left _ (List.mem_of_getElem? (i := 1) rfl))))) rfl dX4_takeRow_43 ?_
            refine lv_ishr hx hb dX4_takeRow_46 ?_
            refine lv_iconst (v := (nI 1)) hx hb dX4_takeRow_47 (by decide) ?_
            refine lv_iand hx hb dX4_takeRow_48 ?_
            refine lv_iconst (v := (nI 1)) hx hb dX4_takeRow_49 (by decide) ?_
            refine lv_icmp_eq (tgt := 58) hx hb dX4_takeRow_50 (by decide) (fun c_v7 => ?_) (fun c_v7 => ?_)
            · have hf := z_ip hf c_v7
              exact hk_58 x2 q5.2 _ _ _ hf hh (lv_sub hl [0, 2] rfl)
            · have hf := z_in hf c_v7
              refine lv_iload_n hx hb dX4_takeRow_53 rfl (lv_at hl 2 rfl) ?_
              refine lv_iconst (v := (nI 5)) hx hb dX4_takeRow_54 (by decide) ?_
              refine lv_icmp_lt (tgt := 70) hx hb dX4_takeRow_55 (by decide) (fun c_v8 => ?_) (fun c_v8 => ?_)
              · have hf := z_ip hf c_v8
                refine lv_iload_n hx hb dX4_takeRow_70 rfl (lv_at hl 3 rfl) ?_
                refine lv_iconst (v := (nI 1)) hx hb dX4_takeRow_71 (by decide) ?_
                refine lv_aload_n hx hb dX4_takeRow_72 rfl (lv_at hl 0 rfl) ?_
                refine z_get (v := .int (q5.2.1 50 6)) hx hb hts (fun w h => List.mem_cons_of_mem _ (List.mem_append_right _ (h))) hown E hh (by decide) (zC_obj (q := 50) rfl) rfl 6 (by decide) (hts (.fieldLink RX4 103 "TownBand$Tape" "number" "I") (List.mem_cons_of_mem _ (List.mem_append_left _ (List.mem_append_left _ (List.mem_of_getElem? (i := 1) rfl))))) rfl dX4_takeRow_73 ?_
                refine lv_ishl hx hb dX4_takeRow_76 ?_
                refine lv_ior hx hb dX4_takeRow_77 ?_
                obtain ⟨v9, e_v9, hf⟩ := z_lt hf
                refine z_topi e_v9 ?_
                refine lv_istore_n (lv' := [(3, .int v9), (0, .ref (g.2.2 50)), (1, .ref (g.2.2 b1)), (2, .int x2), (4, .int x4)]) hx hb dX4_takeRow_78 rfl hl (by decide) rfl (fun ls hl => ?_)
                refine lv_aload_n hx hb dX4_takeRow_79 rfl (lv_at hl 2 rfl) ?_
                refine lv_iload_n hx hb dX4_takeRow_80 rfl (lv_at hl 3 rfl) ?_
                refine lv_aload_n hx hb dX4_takeRow_81 rfl (lv_at hl 1 rfl) ?_
                refine z_get (v := .int (q5.2.1 50 6)) hx hb hts (fun w h => List.mem_cons_of_mem _ (List.mem_append_right _ (h))) hown E hh (by decide) (zC_obj (q := 50) rfl) rfl 6 (by decide) (hts (.fieldLink RX4 103 "TownBand$Tape" "number" "I") (List.mem_cons_of_mem _ (List.mem_append_left _ (List.mem_append_left _ (List.mem_of_getElem? (i := 1) rfl))))) rfl dX4_takeRow_82 ?_
                obtain ⟨h_v10, hf⟩ := z_if hf
                obtain ⟨σ11, e_σ11, hf⟩ := z_lt hf
                refine z_iast hx hb E hh h_b1 h_v10 e_σ11 dX4_takeRow_85 (fun H locs hh => ?_)
                refine lv_iinc (v := (x2 + (nI 1))) (lv' := [(2, .int (x2 + (nI 1))), (3, .int v9), (0, .ref (g.2.2 50)), (1, .ref (g.2.2 b1)), (4, .int x4)]) hx hb dX4_takeRow_86 hl (k := 3) rfl rfl (by decide) rfl (fun ls hl => ?_)
                refine lv_iinc (v := (x4 + (nI 1))) (lv' := [(4, .int (x4 + (nI 1))), (2, .int (x2 + (nI 1))), (3, .int v9), (0, .ref (g.2.2 50)), (1, .ref (g.2.2 b1))]) hx hb dX4_takeRow_89 hl (k := 4) rfl rfl (by decide) rfl (fun ls hl => ?_)
                refine lv_goto (tgt := 7) hx hb dX4_takeRow_92 (by decide) ?_
                exact ih b1 (x2 + (nI 1)) v9 (x4 + (nI 1)) h_b1 σ11 _ _ _ hf hh (lv_sub hl [3, 4, 1, 2, 0] rfl)
              · have hf := z_in hf c_v8
                exact hk_58 x2 q5.2 _ _ _ hf hh (lv_sub hl [0, 2] rfl)
          · have hf := z_ip hf c_v6
            refine lv_iload_n hx hb dX4_takeRow_39 rfl (lv_at hl 2 rfl) ?_
            have hf := Option.some.inj hf
            subst hf
            exact z_iretX hx hb hr hlocks hh dX4_takeRow_40
        · have hf := z_ip hf c_v4
          refine lv_iload_n hx hb dX4_takeRow_28 rfl (lv_at hl 2 rfl) ?_
          have hf := Option.some.inj hf
          subst hf
          exact z_iretX hx hb hr hlocks hh dX4_takeRow_29
def fX4_takeRow (N : Nat) (σ : zS) (b1 : Nat) : Option (Int32 × zS) :=
  (fX4_takeRow_7 N (fX4_takeRow_58 N) N) b1 (nI 0) (nI 0) (nI 0) σ
set_option maxRecDepth 100000 in
set_option maxHeartbeats 4000000 in
theorem zcX4_takeRow (l : Launch) (g : zG) (A : Nat → Prop) (σ τ : zS) (N : Nat) (b1 : Nat) (h_b1 : b1 < 39) {res : Int32 × zS} (hf : fX4_takeRow N σ b1 = some res) : Met l yX4_takeRow wsX4_takeRow (zR 3) (zPc g A σ τ [.ref (g.2.2 50), .ref (g.2.2 b1)]) (zQi g A τ res) 0 0 A := by
  refine z_met (cc := cX4_takeRow) (ret := (some .int)) (own := RX4) (by decide) rfl rfl _ (Nat.le_of_ble_eq_true rfl) ?_
  intro p e s m below meth c C E ls hl hh
  have hl : lv_has ls 5 [(0, .ref (g.2.2 50)), (1, .ref (g.2.2 b1))] := hl
  obtain ⟨hx, hb, hr, hml, hown, hts, hlocks⟩ := id C
  unfold fX4_takeRow at hf
  refine lv_iconst (v := (nI 0)) hx hb dX4_takeRow_0 (by decide) ?_
  refine lv_istore_n (lv' := [(2, .int (nI 0)), (0, .ref (g.2.2 50)), (1, .ref (g.2.2 b1))]) hx hb dX4_takeRow_1 rfl hl (by decide) rfl (fun ls hl => ?_)
  refine lv_iconst (v := (nI 0)) hx hb dX4_takeRow_2 (by decide) ?_
  refine lv_istore_n (lv' := [(3, .int (nI 0)), (2, .int (nI 0)), (0, .ref (g.2.2 50)), (1, .ref (g.2.2 b1))]) hx hb dX4_takeRow_3 rfl hl (by decide) rfl (fun ls hl => ?_)
  refine lv_iconst (v := (nI 0)) hx hb dX4_takeRow_4 (by decide) ?_
  refine lv_istore (lv' := [(4, .int (nI 0)), (3, .int (nI 0)), (2, .int (nI 0)), (0, .ref (g.2.2 50)), (1, .ref (g.2.2 b1))]) hx hb dX4_takeRow_5 hl (by decide) rfl (fun ls hl => ?_)
  exact (hX4_takeRow_7 C E N (fX4_takeRow_58 N) (hX4_takeRow_58 C E N) N) b1 (nI 0) (nI 0) (nI 0) h_b1 σ _ _ _ hf hh (lv_sub hl [3, 4, 2, 1, 0] rfl)
/-! ===== X4_takeTower ===== -/
theorem hdX4_takeTower : yX4_takeTower.cls = RX4 ∧ yX4_takeTower.cls ≠ "java/lang/invoke/MethodHandle" ∧ yX4_takeTower.cls ≠ "java/lang/invoke/VarHandle" ∧ (parseMethodDescriptor yX4_takeTower.desc).map (fun d => d.parameters.length) = some 0 := by decide +kernel
def fX4_takeTower (N : Nat) (σ : zS)  : Option (Int32 × zS) :=
  (fX4_isFirst N σ (nI 6)).bind fun q1 =>
  if q1.1 = 0 then
    some (0, q1.2)
  else
    (fX4_takeRow N q1.2 10).bind fun q3 =>
    zlet (zpf q3.2 43 8 q3.1) fun σ4 =>
    if (σ4.1 50 9) = 0 then
      some (1, σ4)
    else
      some (0, σ4)
set_option maxRecDepth 100000 in
set_option maxHeartbeats 4000000 in
theorem zcX4_takeTower (l : Launch) (g : zG) (A : Nat → Prop) (σ τ : zS) (N : Nat)   {res : Int32 × zS} (hf : fX4_takeTower N σ = some res) : Met l yX4_takeTower wsX4_takeTower (zR 4) (zPc g A σ τ [.ref (g.2.2 50)]) (zQi g A τ res) 0 0 A := by
  refine z_met (cc := cX4_takeTower) (ret := (some .boolean)) (own := RX4) (by decide) rfl rfl _ (Nat.le_of_ble_eq_true rfl) ?_
  intro p e s m below meth c C E ls hl hh
  have hl : lv_has ls 1 [(0, .ref (g.2.2 50))] := hl
  obtain ⟨hx, hb, hr, hml, hown, hts, hlocks⟩ := id C
  unfold fX4_takeTower at hf
  refine lv_aload_n hx hb dX4_takeTower_0 rfl (lv_at hl 0 rfl) ?_
  refine lv_bipush (v := (nI 6)) hx hb dX4_takeTower_1 (by decide) ?_
  obtain ⟨q1, h_q1, hf⟩ := z_bd hf
  refine z_xi (va_runV (As := [.int (nI 6)]) (rest := []) ⟨hx, hb, hml, hown, hts⟩ (zcX4_isFirst l g A σ τ N (nI 6) h_q1) (cwV 1 hts gX4_takeTower_X4_isFirst rfl rfl rfl hdX4_isFirst ⟨by decide, by decide⟩) (z_preV E hh (by decide) (zC_obj (q := 50) rfl) rfl) rfl rfl hl.1 rfl (lv_room (Nat.le_of_ble_eq_true rfl)) dX4_takeTower_3 ⟨Nat.le_refl _, Nat.le_refl _⟩) hh (fun H locs hh => ?_)
  refine lv_if_ne (tgt := 11) hx hb dX4_takeTower_6 (by decide) (fun c_v2 => ?_) (fun c_v2 => ?_)
  · have hf := z_in hf c_v2
    refine lv_aload_n hx hb dX4_takeTower_11 rfl (lv_at hl 0 rfl) ?_
    refine z_get (v := .ref (g.2.2 43)) hx hb hts (fun w h => List.mem_cons_of_mem _ (List.mem_append_left _ (List.mem_append_right _ (h)))) hown E hh (by decide) (zC_obj (q := 50) rfl) rfl 1 (by decide) (hts (.fieldLink RX4 18 "TownBand$Tape" "draft" "LTownBand$Band;") (List.mem_cons_of_mem _ (List.mem_append_left _ (List.mem_append_left _ (List.mem_append_left _ (List.mem_of_getElem? (i := 0) rfl)))))) rfl dX4_takeTower_12 ?_
    refine lv_aload_n hx hb dX4_takeTower_15 rfl (lv_at hl 0 rfl) ?_
    refine lv_aload_n hx hb dX4_takeTower_16 rfl (lv_at hl 0 rfl) ?_
    refine z_get (v := .ref (g.2.2 43)) hx hb hts (fun w h => List.mem_cons_of_mem _ (List.mem_append_left _ (List.mem_append_right _ (h)))) hown E hh (by decide) (zC_obj (q := 50) rfl) rfl 1 (by decide) (hts (.fieldLink RX4 18 "TownBand$Tape" "draft" "LTownBand$Band;") (List.mem_cons_of_mem _ (List.mem_append_left _ (List.mem_append_left _ (List.mem_append_left _ (List.mem_of_getElem? (i := 0) rfl)))))) rfl dX4_takeTower_17 ?_
    refine z_getN (v := .ref (g.2.2 10)) hx hb hts (fun w h => List.mem_cons_of_mem _ (List.mem_append_right _ (h))) hown E hh (by decide) (zC_band (by decide) (by decide)) rfl 4 (by decide) (zE_f E 11 rfl) rfl dX4_takeTower_20 ?_
    obtain ⟨q3, h_q3, hf⟩ := z_bd hf
    refine z_xi (va_runV (As := [.ref (g.2.2 10)]) (rest := [.ref (g.2.2 43)]) ⟨hx, hb, hml, hown, hts⟩ (zcX4_takeRow l g A q1.2 τ N 10 (by decide) h_q3) (cwV 1 hts gX4_takeTower_X4_takeRow rfl rfl rfl hdX4_takeRow ⟨by decide, by decide⟩) (z_preV E hh (by decide) (zC_obj (q := 50) rfl) rfl) rfl rfl hl.1 rfl (lv_room (Nat.le_of_ble_eq_true rfl)) dX4_takeTower_23 ⟨Nat.le_refl _, Nat.le_refl _⟩) hh (fun H locs hh => ?_)
    obtain ⟨σ4, e_σ4, hf⟩ := z_lt hf
    refine z_putN hx hb hts (fun w h => List.mem_cons_of_mem _ (List.mem_append_right _ (h))) tyX0 tyX0_ok nmX0 hown E hh (by decide) (zD_band (by decide) (by decide)) rfl 8 (by decide) rfl (zE_f E 22 rfl) rfl rfl e_σ4 dX4_takeTower_26 (fun H locs hh => ?_)
    refine lv_aload_n hx hb dX4_takeTower_29 rfl (lv_at hl 0 rfl) ?_
    refine z_get (v := .int (σ4.1 50 9)) hx hb hts (fun w h => List.mem_cons_of_mem _ (List.mem_append_left _ (List.mem_append_right _ (h)))) hown E hh (by decide) (zC_obj (q := 50) rfl) rfl 9 (by decide) (hts (.fieldLink RX4 26 "TownBand$Tape" "flaw" "I") (List.mem_cons_of_mem _ (List.mem_append_left _ (List.mem_append_left _ (List.mem_append_left _ (List.mem_of_getElem? (i := 1) rfl)))))) rfl dX4_takeTower_30 ?_
    refine lv_if_ne (tgt := 40) hx hb dX4_takeTower_33 (by decide) (fun c_v5 => ?_) (fun c_v5 => ?_)
    · have hf := z_in hf c_v5
      refine lv_iconst (v := (nI 0)) hx hb dX4_takeTower_40 (by decide) ?_
      have hf := Option.some.inj hf
      subst hf
      exact z_zretX hx hb hr hlocks (Or.inl rfl) hh dX4_takeTower_41
    · have hf := z_ip hf c_v5
      refine lv_iconst (v := (nI 1)) hx hb dX4_takeTower_36 (by decide) ?_
      refine lv_goto (tgt := 41) hx hb dX4_takeTower_37 (by decide) ?_
      have hf := Option.some.inj hf
      subst hf
      exact z_zretX hx hb hr hlocks (Or.inr rfl) hh dX4_takeTower_41
  · have hf := z_ip hf c_v2
    refine lv_iconst (v := (nI 0)) hx hb dX4_takeTower_9 (by decide) ?_
    have hf := Option.some.inj hf
    subst hf
    exact z_zretX hx hb hr hlocks (Or.inl rfl) hh dX4_takeTower_10
/-! ===== X4_takeBeds ===== -/
theorem hdX4_takeBeds : yX4_takeBeds.cls = RX4 ∧ yX4_takeBeds.cls ≠ "java/lang/invoke/MethodHandle" ∧ yX4_takeBeds.cls ≠ "java/lang/invoke/VarHandle" ∧ (parseMethodDescriptor yX4_takeBeds.desc).map (fun d => d.parameters.length) = some 0 := by decide +kernel
def fX4_takeBeds (N : Nat) (σ : zS)  : Option (Int32 × zS) :=
  (fX4_isFirst N σ (nI 7)).bind fun q1 =>
  if q1.1 = 0 then
    some (0, q1.2)
  else
    (fX4_takeRow N q1.2 11).bind fun q3 =>
    zlet (zpf q3.2 50 8 q3.1) fun σ4 =>
    if (σ4.1 50 9) = 0 then
      some (1, σ4)
    else
      some (0, σ4)
set_option maxRecDepth 100000 in
set_option maxHeartbeats 4000000 in
theorem zcX4_takeBeds (l : Launch) (g : zG) (A : Nat → Prop) (σ τ : zS) (N : Nat)   {res : Int32 × zS} (hf : fX4_takeBeds N σ = some res) : Met l yX4_takeBeds wsX4_takeBeds (zR 4) (zPc g A σ τ [.ref (g.2.2 50)]) (zQi g A τ res) 0 0 A := by
  refine z_met (cc := cX4_takeBeds) (ret := (some .boolean)) (own := RX4) (by decide) rfl rfl _ (Nat.le_of_ble_eq_true rfl) ?_
  intro p e s m below meth c C E ls hl hh
  have hl : lv_has ls 1 [(0, .ref (g.2.2 50))] := hl
  obtain ⟨hx, hb, hr, hml, hown, hts, hlocks⟩ := id C
  unfold fX4_takeBeds at hf
  refine lv_aload_n hx hb dX4_takeBeds_0 rfl (lv_at hl 0 rfl) ?_
  refine lv_bipush (v := (nI 7)) hx hb dX4_takeBeds_1 (by decide) ?_
  obtain ⟨q1, h_q1, hf⟩ := z_bd hf
  refine z_xi (va_runV (As := [.int (nI 7)]) (rest := []) ⟨hx, hb, hml, hown, hts⟩ (zcX4_isFirst l g A σ τ N (nI 7) h_q1) (cwV 1 hts gX4_takeBeds_X4_isFirst rfl rfl rfl hdX4_isFirst ⟨by decide, by decide⟩) (z_preV E hh (by decide) (zC_obj (q := 50) rfl) rfl) rfl rfl hl.1 rfl (lv_room (Nat.le_of_ble_eq_true rfl)) dX4_takeBeds_3 ⟨Nat.le_refl _, Nat.le_refl _⟩) hh (fun H locs hh => ?_)
  refine lv_if_ne (tgt := 11) hx hb dX4_takeBeds_6 (by decide) (fun c_v2 => ?_) (fun c_v2 => ?_)
  · have hf := z_in hf c_v2
    refine lv_aload_n hx hb dX4_takeBeds_11 rfl (lv_at hl 0 rfl) ?_
    refine lv_aload_n hx hb dX4_takeBeds_12 rfl (lv_at hl 0 rfl) ?_
    refine lv_aload_n hx hb dX4_takeBeds_13 rfl (lv_at hl 0 rfl) ?_
    refine z_get (v := .ref (g.2.2 43)) hx hb hts (fun w h => List.mem_cons_of_mem _ (List.mem_append_left _ (List.mem_append_right _ (h)))) hown E hh (by decide) (zC_obj (q := 50) rfl) rfl 1 (by decide) (hts (.fieldLink RX4 18 "TownBand$Tape" "draft" "LTownBand$Band;") (List.mem_cons_of_mem _ (List.mem_append_left _ (List.mem_append_left _ (List.mem_append_left _ (List.mem_of_getElem? (i := 0) rfl)))))) rfl dX4_takeBeds_14 ?_
    refine z_getN (v := .ref (g.2.2 11)) hx hb hts (fun w h => List.mem_cons_of_mem _ (List.mem_append_right _ (h))) hown E hh (by decide) (zC_band (by decide) (by decide)) rfl 5 (by decide) (zE_f E 12 rfl) rfl dX4_takeBeds_17 ?_
    obtain ⟨q3, h_q3, hf⟩ := z_bd hf
    refine z_xi (va_runV (As := [.ref (g.2.2 11)]) (rest := [.ref (g.2.2 50)]) ⟨hx, hb, hml, hown, hts⟩ (zcX4_takeRow l g A q1.2 τ N 11 (by decide) h_q3) (cwV 1 hts gX4_takeBeds_X4_takeRow rfl rfl rfl hdX4_takeRow ⟨by decide, by decide⟩) (z_preV E hh (by decide) (zC_obj (q := 50) rfl) rfl) rfl rfl hl.1 rfl (lv_room (Nat.le_of_ble_eq_true rfl)) dX4_takeBeds_20 ⟨Nat.le_refl _, Nat.le_refl _⟩) hh (fun H locs hh => ?_)
    obtain ⟨σ4, e_σ4, hf⟩ := z_lt hf
    refine z_put hx hb hts (fun w h => List.mem_cons_of_mem _ (List.mem_append_left _ (List.mem_append_right _ (h)))) tyX4 tyX4_ok nmX4 hown E hh (by decide) (show zD 50 = _ from rfl) rfl 8 (by decide) rfl (hts (.fieldLink RX4 45 "TownBand$Tape" "bedsTold" "I") (List.mem_cons_of_mem _ (List.mem_append_left _ (List.mem_append_left _ (List.mem_append_left _ (List.mem_of_getElem? (i := 1) rfl)))))) rfl rfl e_σ4 dX4_takeBeds_23 (fun H locs hh => ?_)
    refine lv_aload_n hx hb dX4_takeBeds_26 rfl (lv_at hl 0 rfl) ?_
    refine z_get (v := .int (σ4.1 50 9)) hx hb hts (fun w h => List.mem_cons_of_mem _ (List.mem_append_left _ (List.mem_append_right _ (h)))) hown E hh (by decide) (zC_obj (q := 50) rfl) rfl 9 (by decide) (hts (.fieldLink RX4 26 "TownBand$Tape" "flaw" "I") (List.mem_cons_of_mem _ (List.mem_append_left _ (List.mem_append_left _ (List.mem_append_left _ (List.mem_of_getElem? (i := 2) rfl)))))) rfl dX4_takeBeds_27 ?_
    refine lv_if_ne (tgt := 37) hx hb dX4_takeBeds_30 (by decide) (fun c_v5 => ?_) (fun c_v5 => ?_)
    · have hf := z_in hf c_v5
      refine lv_iconst (v := (nI 0)) hx hb dX4_takeBeds_37 (by decide) ?_
      have hf := Option.some.inj hf
      subst hf
      exact z_zretX hx hb hr hlocks (Or.inl rfl) hh dX4_takeBeds_38
    · have hf := z_ip hf c_v5
      refine lv_iconst (v := (nI 1)) hx hb dX4_takeBeds_33 (by decide) ?_
      refine lv_goto (tgt := 38) hx hb dX4_takeBeds_34 (by decide) ?_
      have hf := Option.some.inj hf
      subst hf
      exact z_zretX hx hb hr hlocks (Or.inr rfl) hh dX4_takeBeds_38
  · have hf := z_ip hf c_v2
    refine lv_iconst (v := (nI 0)) hx hb dX4_takeBeds_9 (by decide) ?_
    have hf := Option.some.inj hf
    subst hf
    exact z_zretX hx hb hr hlocks (Or.inl rfl) hh dX4_takeBeds_10
/-! ===== X4_takeBeast ===== -/
theorem hdX4_takeBeast : yX4_takeBeast.cls = RX4 ∧ yX4_takeBeast.cls ≠ "java/lang/invoke/MethodHandle" ∧ yX4_takeBeast.cls ≠ "java/lang/invoke/VarHandle" ∧ (parseMethodDescriptor yX4_takeBeast.desc).map (fun d => d.parameters.length) = some 1 := by decide +kernel
def fX4_takeBeast (N : Nat) (σ : zS) (x1 : Int32) : Option (Int32 × zS) :=
  if (σ.1 43 6) < (nI 5) then
    (fX4_takeNumber N σ (nI 1) (nI 9)).bind fun q2 =>
    if q2.1 = 0 then
      some (0, q2.2)
    else
      if zin (σ.1 43 6) (zlen 6) then
      zlet (zpa q2.2 6 (upd (q2.2.2 6) (σ.1 43 6).toNatClampNeg x1)) fun σ5 =>
      if zin (σ.1 43 6) (zlen 7) then
      zlet (zpa σ5 7 (upd (σ5.2 7) (σ.1 43 6).toNatClampNeg (σ5.1 50 6))) fun σ7 =>
      (fX4_takeNumber N σ7 (nI 0) (nI 9)).bind fun q8 =>
      if q8.1 = 0 then
        some (0, q8.2)
      else
        if zin (σ.1 43 6) (zlen 8) then
        zlet (zpa q8.2 8 (upd (q8.2.2 8) (σ.1 43 6).toNatClampNeg (q8.2.1 50 6))) fun σ11 =>
        zlet (zpf σ11 43 6 ((σ11.1 43 6) + (nI 1))) fun σ12 =>
        (fX4_takeStop N σ12).bind fun q13 =>
        if q13.1 = 0 ∨ q13.1 = 1 then
        some (q13.1, q13.2)
        else none
        else none
      else none
      else none
  else
    (fX4_refuse N σ (nI 5) (σ.1 50 5)).bind fun q15 =>
    if q15.1 = 0 ∨ q15.1 = 1 then
    some (q15.1, q15.2)
    else none
set_option maxRecDepth 100000 in
set_option maxHeartbeats 4000000 in
theorem zcX4_takeBeast (l : Launch) (g : zG) (A : Nat → Prop) (σ τ : zS) (N : Nat) (x1 : Int32)  {res : Int32 × zS} (hf : fX4_takeBeast N σ x1 = some res) : Met l yX4_takeBeast wsX4_takeBeast (zR 4) (zPc g A σ τ [.ref (g.2.2 50), .int x1]) (zQi g A τ res) 0 0 A := by
  refine z_met (cc := cX4_takeBeast) (ret := (some .boolean)) (own := RX4) (by decide) rfl rfl _ (Nat.le_of_ble_eq_true rfl) ?_
  intro p e s m below meth c C E ls hl hh
  have hl : lv_has ls 3 [(0, .ref (g.2.2 50)), (1, .int x1)] := hl
  obtain ⟨hx, hb, hr, hml, hown, hts, hlocks⟩ := id C
  unfold fX4_takeBeast at hf
  refine lv_aload_n hx hb dX4_takeBeast_0 rfl (lv_at hl 0 rfl) ?_
  refine z_get (v := .ref (g.2.2 43)) hx hb hts (fun w h => List.mem_cons_of_mem _ (List.mem_append_left _ (List.mem_append_right _ (h)))) hown E hh (by decide) (zC_obj (q := 50) rfl) rfl 1 (by decide) (hts (.fieldLink RX4 18 "TownBand$Tape" "draft" "LTownBand$Band;") (List.mem_cons_of_mem _ (List.mem_append_left _ (List.mem_append_left _ (List.mem_append_left _ (List.mem_of_getElem? (i := 0) rfl)))))) rfl dX4_takeBeast_1 ?_
  refine z_getN (v := .int (σ.1 43 6)) hx hb hts (fun w h => List.mem_cons_of_mem _ (List.mem_append_right _ (h))) hown E hh (by decide) (zC_band (by decide) (by decide)) rfl 6 (by decide) (zE_f E 16 rfl) rfl dX4_takeBeast_4 ?_
  refine lv_istore_n (lv' := [(2, .int (σ.1 43 6)), (0, .ref (g.2.2 50)), (1, .int x1)]) hx hb dX4_takeBeast_7 rfl hl (by decide) rfl (fun ls hl => ?_)
  refine lv_iload_n hx hb dX4_takeBeast_8 rfl (lv_at hl 0 rfl) ?_
  refine lv_iconst (v := (nI 5)) hx hb dX4_takeBeast_9 (by decide) ?_
  refine lv_icmp_lt (tgt := 23) hx hb dX4_takeBeast_10 (by decide) (fun c_v1 => ?_) (fun c_v1 => ?_)
  · have hf := z_ip hf c_v1
    refine lv_aload_n hx hb dX4_takeBeast_23 rfl (lv_at hl 1 rfl) ?_
    refine lv_iconst (v := (nI 1)) hx hb dX4_takeBeast_24 (by decide) ?_
    refine lv_bipush (v := (nI 9)) hx hb dX4_takeBeast_25 (by decide) ?_
    obtain ⟨q2, h_q2, hf⟩ := z_bd hf
    refine z_xi (va_runV (As := [.int (nI 1), .int (nI 9)]) (rest := []) ⟨hx, hb, hml, hown, hts⟩ (zcX4_takeNumber l g A σ τ N (nI 1) (nI 9) h_q2) (cwV 2 hts gX4_takeBeast_X4_takeNumber rfl rfl rfl hdX4_takeNumber ⟨by decide, by decide⟩) (z_preV E hh (by decide) (zC_obj (q := 50) rfl) rfl) rfl rfl hl.1 rfl (lv_room (Nat.le_of_ble_eq_true rfl)) dX4_takeBeast_27 ⟨Nat.le_refl _, Nat.le_refl _⟩) hh (fun H locs hh => ?_)
    refine lv_if_ne (tgt := 35) hx hb dX4_takeBeast_30 (by decide) (fun c_v3 => ?_) (fun c_v3 => ?_)
    · have hf := z_in hf c_v3
      refine lv_aload_n hx hb dX4_takeBeast_35 rfl (lv_at hl 1 rfl) ?_
      refine z_get (v := .ref (g.2.2 43)) hx hb hts (fun w h => List.mem_cons_of_mem _ (List.mem_append_left _ (List.mem_append_right _ (h)))) hown E hh (by decide) (zC_obj (q := 50) rfl) rfl 1 (by decide) (hts (.fieldLink RX4 18 "TownBand$Tape" "draft" "LTownBand$Band;") (List.mem_cons_of_mem _ (List.mem_append_left _ (List.mem_append_left _ (List.mem_append_left _ (List.mem_of_getElem? (i := 0) rfl)))))) rfl dX4_takeBeast_36 ?_
      refine z_getN (v := .ref (g.2.2 6)) hx hb hts (fun w h => List.mem_cons_of_mem _ (List.mem_append_right _ (h))) hown E hh (by decide) (zC_band (by decide) (by decide)) rfl 0 (by decide) (zE_f E 0 rfl) rfl dX4_takeBeast_39 ?_
      refine lv_iload_n hx hb dX4_takeBeast_42 rfl (lv_at hl 0 rfl) ?_
      refine lv_iload_n hx hb dX4_takeBeast_43 rfl (lv_at hl 2 rfl) ?_
      obtain ⟨h_v4, hf⟩ := z_if hf
      obtain ⟨σ5, e_σ5, hf⟩ := z_lt hf
      refine z_iast hx hb E hh (by decide) h_v4 e_σ5 dX4_takeBeast_44 (fun H locs hh => ?_)
      refine lv_aload_n hx hb dX4_takeBeast_45 rfl (lv_at hl 1 rfl) ?_
      refine z_get (v := .ref (g.2.2 43)) hx hb hts (fun w h => List.mem_cons_of_mem _ (List.mem_append_left _ (List.mem_append_right _ (h)))) hown E hh (by decide) (zC_obj (q := 50) rfl) rfl 1 (by decide) (hts (.fieldLink RX4 18 "TownBand$Tape" "draft" "LTownBand$Band;") (List.mem_cons_of_mem _ (List.mem_append_left _ (List.mem_append_left _ (List.mem_append_left _ (List.mem_of_getElem? (i := 0) rfl)))))) rfl dX4_takeBeast_46 ?_
      refine z_getN (v := .ref (g.2.2 7)) hx hb hts (fun w h => List.mem_cons_of_mem _ (List.mem_append_right _ (h))) hown E hh (by decide) (zC_band (by decide) (by decide)) rfl 1 (by decide) (zE_f E 3 rfl) rfl dX4_takeBeast_49 ?_
      refine lv_iload_n hx hb dX4_takeBeast_52 rfl (lv_at hl 0 rfl) ?_
      refine lv_aload_n hx hb dX4_takeBeast_53 rfl (lv_at hl 1 rfl) ?_
      refine z_get (v := .int (σ5.1 50 6)) hx hb hts (fun w h => List.mem_cons_of_mem _ (List.mem_append_left _ (List.mem_append_right _ (h)))) hown E hh (by decide) (zC_obj (q := 50) rfl) rfl 6 (by decide) (hts (.fieldLink RX4 103 "TownBand$Tape" "number" "I") (List.mem_cons_of_mem _ (List.mem_append_left _ (List.mem_append_left _ (List.mem_append_left _ (List.mem_of_getElem? (i := 2) rfl)))))) rfl dX4_takeBeast_54 ?_
      obtain ⟨h_v6, hf⟩ := z_if hf
      obtain ⟨σ7, e_σ7, hf⟩ := z_lt hf
      refine z_iast hx hb E hh (by decide) h_v6 e_σ7 dX4_takeBeast_57 (fun H locs hh => ?_)
      refine lv_aload_n hx hb dX4_takeBeast_58 rfl (lv_at hl 1 rfl) ?_
      refine lv_iconst (v := (nI 0)) hx hb dX4_takeBeast_59 (by decide) ?_
      refine lv_bipush (v := (nI 9)) hx hb dX4_takeBeast_60 (by decide) ?_
      obtain ⟨q8, h_q8, hf⟩ := z_bd hf
      refine z_xi (va_runV (As := [.int (nI 0), .int (nI 9)]) (rest := []) ⟨hx, hb, hml, hown, hts⟩ (zcX4_takeNumber l g A σ7 τ N (nI 0) (nI 9) h_q8) (cwV 2 hts gX4_takeBeast_X4_takeNumber rfl rfl rfl hdX4_takeNumber ⟨by decide, by decide⟩) (z_preV E hh (by decide) (zC_obj (q := 50) rfl) rfl) rfl rfl hl.1 rfl (lv_room (Nat.le_of_ble_eq_true rfl)) dX4_takeBeast_62 ⟨Nat.le_refl _, Nat.le_refl _⟩) hh (fun H locs hh => ?_)
      refine lv_if_ne (tgt := 70) hx hb dX4_takeBeast_65 (by decide) (fun c_v9 => ?_) (fun c_v9 => ?_)
      · have hf := z_in hf c_v9
        refine lv_aload_n hx hb dX4_takeBeast_70 rfl (lv_at hl 1 rfl) ?_
        refine z_get (v := .ref (g.2.2 43)) hx hb hts (fun w h => List.mem_cons_of_mem _ (List.mem_append_left _ (List.mem_append_right _ (h)))) hown E hh (by decide) (zC_obj (q := 50) rfl) rfl 1 (by decide) (hts (.fieldLink RX4 18 "TownBand$Tape" "draft" "LTownBand$Band;") (List.mem_cons_of_mem _ (List.mem_append_left _ (List.mem_append_left _ (List.mem_append_left _ (List.mem_of_getElem? (i := 0) rfl)))))) rfl dX4_takeBeast_71 ?_
        refine z_getN (v := .ref (g.2.2 8)) hx hb hts (fun w h => List.mem_cons_of_mem _ (List.mem_append_right _ (h))) hown E hh (by decide) (zC_band (by decide) (by decide)) rfl 2 (by decide) (zE_f E 6 rfl) rfl dX4_takeBeast_74 ?_
        refine lv_iload_n hx hb dX4_takeBeast_77 rfl (lv_at hl 0 rfl) ?_
        refine lv_aload_n hx hb dX4_takeBeast_78 rfl (lv_at hl 1 rfl) ?_
        refine z_get (v := .int (q8.2.1 50 6)) hx hb hts (fun w h => List.mem_cons_of_mem _ (List.mem_append_left _ (List.mem_append_right _ (h)))) hown E hh (by decide) (zC_obj (q := 50) rfl) rfl 6 (by decide) (hts (.fieldLink RX4 103 "TownBand$Tape" "number" "I") (List.mem_cons_of_mem _ (List.mem_append_left _ (List.mem_append_left _ (List.mem_append_left _ (List.mem_of_getElem? (i := 2) rfl)))))) rfl dX4_takeBeast_79 ?_
        obtain ⟨h_v10, hf⟩ := z_if hf
        obtain ⟨σ11, e_σ11, hf⟩ := z_lt hf
        refine z_iast hx hb E hh (by decide) h_v10 e_σ11 dX4_takeBeast_82 (fun H locs hh => ?_)
        refine lv_aload_n hx hb dX4_takeBeast_83 rfl (lv_at hl 1 rfl) ?_
        refine z_get (v := .ref (g.2.2 43)) hx hb hts (fun w h => List.mem_cons_of_mem _ (List.mem_append_left _ (List.mem_append_right _ (h)))) hown E hh (by decide) (zC_obj (q := 50) rfl) rfl 1 (by decide) (hts (.fieldLink RX4 18 "TownBand$Tape" "draft" "LTownBand$Band;") (List.mem_cons_of_mem _ (List.mem_append_left _ (List.mem_append_left _ (List.mem_append_left _ (List.mem_of_getElem? (i := 0) rfl)))))) rfl dX4_takeBeast_84 ?_
        refine lv_dup hx hb dX4_takeBeast_87 rfl ?_
        refine z_getN (v := .int (σ11.1 43 6)) hx hb hts (fun w h => List.mem_cons_of_mem _ (List.mem_append_right _ (h))) hown E hh (by decide) (zC_band (by decide) (by decide)) rfl 6 (by decide) (zE_f E 16 rfl) rfl dX4_takeBeast_88 ?_
        refine lv_iconst (v := (nI 1)) hx hb dX4_takeBeast_91 (by decide) ?_
        refine lv_iadd hx hb dX4_takeBeast_92 ?_
        obtain ⟨σ12, e_σ12, hf⟩ := z_lt hf
        refine z_putN hx hb hts (fun w h => List.mem_cons_of_mem _ (List.mem_append_right _ (h))) tyX0 tyX0_ok nmX0 hown E hh (by decide) (zD_band (by decide) (by decide)) rfl 6 (by decide) rfl (zE_f E 16 rfl) rfl rfl e_σ12 dX4_takeBeast_93 (fun H locs hh => ?_)
        refine lv_aload_n hx hb dX4_takeBeast_96 rfl (lv_at hl 1 rfl) ?_
        obtain ⟨q13, h_q13, hf⟩ := z_bd hf
        refine z_xi (va_runV (As := []) (rest := []) ⟨hx, hb, hml, hown, hts⟩ (zcX4_takeStop l g A σ12 τ N  h_q13) (cwV 0 hts gX4_takeBeast_X4_takeStop rfl rfl rfl hdX4_takeStop ⟨by decide, by decide⟩) (z_preV E hh (by decide) (zC_obj (q := 50) rfl) rfl) rfl rfl hl.1 rfl (lv_room (Nat.le_of_ble_eq_true rfl)) dX4_takeBeast_97 ⟨Nat.le_refl _, Nat.le_refl _⟩) hh (fun H locs hh => ?_)
        obtain ⟨h_v14, hf⟩ := z_if hf
        have hf := Option.some.inj hf
        subst hf
        exact z_zretX hx hb hr hlocks h_v14 hh dX4_takeBeast_100
      · have hf := z_ip hf c_v9
        refine lv_iconst (v := (nI 0)) hx hb dX4_takeBeast_68 (by decide) ?_
        have hf := Option.some.inj hf
        subst hf
        exact z_zretX hx hb hr hlocks (Or.inl rfl) hh dX4_takeBeast_69
    · have hf := z_ip hf c_v3
      refine lv_iconst (v := (nI 0)) hx hb dX4_takeBeast_33 (by decide) ?_
      have hf := Option.some.inj hf
      subst hf
      exact z_zretX hx hb hr hlocks (Or.inl rfl) hh dX4_takeBeast_34
  · have hf := z_in hf c_v1
    refine lv_aload_n hx hb dX4_takeBeast_13 rfl (lv_at hl 1 rfl) ?_
    refine lv_iconst (v := (nI 5)) hx hb dX4_takeBeast_14 (by decide) ?_
    refine lv_aload_n hx hb dX4_takeBeast_15 rfl (lv_at hl 1 rfl) ?_
    refine z_get (v := .int (σ.1 50 5)) hx hb hts (fun w h => List.mem_cons_of_mem _ (List.mem_append_left _ (List.mem_append_right _ (h)))) hown E hh (by decide) (zC_obj (q := 50) rfl) rfl 5 (by decide) (hts (.fieldLink RX4 80 "TownBand$Tape" "start" "I") (List.mem_cons_of_mem _ (List.mem_append_left _ (List.mem_append_left _ (List.mem_append_left _ (List.mem_of_getElem? (i := 1) rfl)))))) rfl dX4_takeBeast_16 ?_
    obtain ⟨q15, h_q15, hf⟩ := z_bd hf
    refine z_xi (va_runV (As := [.int (nI 5), .int (σ.1 50 5)]) (rest := []) ⟨hx, hb, hml, hown, hts⟩ (zcX4_refuse l g A σ τ N (nI 5) (σ.1 50 5) h_q15) (cwV 2 hts gX4_takeBeast_X4_refuse rfl rfl rfl hdX4_refuse ⟨by decide, by decide⟩) (z_preV E hh (by decide) (zC_obj (q := 50) rfl) rfl) rfl rfl hl.1 rfl (lv_room (Nat.le_of_ble_eq_true rfl)) dX4_takeBeast_19 ⟨Nat.le_refl _, Nat.le_refl _⟩) hh (fun H locs hh => ?_)
    obtain ⟨h_v16, hf⟩ := z_if hf
    have hf := Option.some.inj hf
    subst hf
    exact z_zretX hx hb hr hlocks h_v16 hh dX4_takeBeast_22
/-! ===== X4_takeLine ===== -/
theorem hdX4_takeLine : yX4_takeLine.cls = RX4 ∧ yX4_takeLine.cls ≠ "java/lang/invoke/MethodHandle" ∧ yX4_takeLine.cls ≠ "java/lang/invoke/VarHandle" ∧ (parseMethodDescriptor yX4_takeLine.desc).map (fun d => d.parameters.length) = some 0 := by decide +kernel
def PX4_takeLine_33 (p : Program) (l : Launch) (e : Env) (s : State) (m : MethodId) (args : Array Value) (below : List Frame) (meth : Method) (c : Code) (g : zG) (A : Nat → Prop) (τ : zS) (res : Int32 × zS) (f : Int32 → zS → Option (Int32 × zS)) : Prop := ∀ (s0 : Int32) (σ : zS) (H : Heap) (locs : List Loc) (ls : Array Slot), f s0 σ = some res → zW g A σ τ s H locs → lv_has ls 2 [(0, .ref (g.2.2 50))] → W p l e (zR 6) s m args below meth c H locs 0 0 (MQ below (zQi g A τ res) args s 0 0 A) (F0 m 33 ls [.int s0])
def fX4_takeLine_33 (N : Nat) (s0 : Int32) (σ : zS) : Option (Int32 × zS) :=
  if s0 = (nI 4) then
    (fX4_takeRobber N σ).bind fun q2 =>
    if q2.1 = 0 ∨ q2.1 = 1 then
    some (q2.1, q2.2)
    else none
  else
    if s0 = (nI 5) then
      (fX4_takeScout N σ).bind fun q5 =>
      if q5.1 = 0 ∨ q5.1 = 1 then
      some (q5.1, q5.2)
      else none
    else
      if s0 = (nI 6) then
        (fX4_takeTower N σ).bind fun q8 =>
        if q8.1 = 0 ∨ q8.1 = 1 then
        some (q8.1, q8.2)
        else none
      else
        if s0 = (nI 7) then
          (fX4_takeBeds N σ).bind fun q11 =>
          if q11.1 = 0 ∨ q11.1 = 1 then
          some (q11.1, q11.2)
          else none
        else
          if s0 = (nI 8) then
            (fX4_refuse N σ (nI 2) (σ.1 50 5)).bind fun q14 =>
            if q14.1 = 0 ∨ q14.1 = 1 then
            some (q14.1, q14.2)
            else none
          else
            (fX4_takeBeast N σ s0).bind fun q16 =>
            if q16.1 = 0 ∨ q16.1 = 1 then
            some (q16.1, q16.2)
            else none
set_option maxRecDepth 100000 in
set_option maxHeartbeats 4000000 in
theorem hX4_takeLine_33 {p : Program} {l : Launch} {e : Env} {s : State} {m : MethodId} {args : Array Value} {below : List Frame} {meth : Method} {c : Code} {g : zG} {A : Nat → Prop} {τ : zS} {res : Int32 × zS} (C : zCx p s m args meth c cX4_takeLine (some .boolean) wsX4_takeLine RX4 2) (E : zE g A s) (N : Nat) : PX4_takeLine_33 p l e s m args below meth c g A τ res (fX4_takeLine_33 N) := by
  obtain ⟨hx, hb, hr, hml, hown, hts, hlocks⟩ := id C
  intro s0 σ H locs ls hf hh hl
  unfold fX4_takeLine_33 at hf
  refine lv_istore_n (lv' := [(1, .int s0), (0, .ref (g.2.2 50))]) hx hb dX4_takeLine_33 rfl hl (by decide) rfl (fun ls hl => ?_)
  refine lv_iload_n hx hb dX4_takeLine_34 rfl (lv_at hl 0 rfl) ?_
  by_cases c_v1 : s0 = (nI 4)
  · have hf := z_ip hf c_v1
    refine z_tbl (tgt := 68) (off := 33) hx hb dX4_takeLine_35 (nI 4) c_v1 (by decide) (by decide) (by decide) (by decide) ?_
    refine lv_aload_n hx hb dX4_takeLine_68 rfl (lv_at hl 1 rfl) ?_
    obtain ⟨q2, h_q2, hf⟩ := z_bd hf
    refine z_xi (va_runV (As := []) (rest := []) ⟨hx, hb, hml, hown, hts⟩ (zcX4_takeRobber l g A σ τ N  h_q2) (cwV 0 hts gX4_takeLine_X4_takeRobber rfl rfl rfl hdX4_takeRobber ⟨by decide, by decide⟩) (z_preV E hh (by decide) (zC_obj (q := 50) rfl) rfl) rfl rfl hl.1 rfl (lv_room (Nat.le_of_ble_eq_true rfl)) dX4_takeLine_69 ⟨Nat.le_refl _, Nat.le_refl _⟩) hh (fun H locs hh => ?_)
    obtain ⟨h_v3, hf⟩ := z_if hf
    have hf := Option.some.inj hf
    subst hf
    exact z_zretX hx hb hr hlocks h_v3 hh dX4_takeLine_72
  · have hf := z_in hf c_v1
    by_cases c_v4 : s0 = (nI 5)
    · have hf := z_ip hf c_v4
      refine z_tbl (tgt := 73) (off := 38) hx hb dX4_takeLine_35 (nI 5) c_v4 (by decide) (by decide) (by decide) (by decide) ?_
      refine lv_aload_n hx hb dX4_takeLine_73 rfl (lv_at hl 1 rfl) ?_
      obtain ⟨q5, h_q5, hf⟩ := z_bd hf
      refine z_xi (va_runV (As := []) (rest := []) ⟨hx, hb, hml, hown, hts⟩ (zcX4_takeScout l g A σ τ N  h_q5) (cwV 0 hts gX4_takeLine_X4_takeScout rfl rfl rfl hdX4_takeScout ⟨by decide, by decide⟩) (z_preV E hh (by decide) (zC_obj (q := 50) rfl) rfl) rfl rfl hl.1 rfl (lv_room (Nat.le_of_ble_eq_true rfl)) dX4_takeLine_74 ⟨Nat.le_refl _, Nat.le_refl _⟩) hh (fun H locs hh => ?_)
      obtain ⟨h_v6, hf⟩ := z_if hf
      have hf := Option.some.inj hf
      subst hf
      exact z_zretX hx hb hr hlocks h_v6 hh dX4_takeLine_77
    · have hf := z_in hf c_v4
      by_cases c_v7 : s0 = (nI 6)
      · have hf := z_ip hf c_v7
        refine z_tbl (tgt := 78) (off := 43) hx hb dX4_takeLine_35 (nI 6) c_v7 (by decide) (by decide) (by decide) (by decide) ?_
        refine lv_aload_n hx hb dX4_takeLine_78 rfl (lv_at hl 1 rfl) ?_
        obtain ⟨q8, h_q8, hf⟩ := z_bd hf
        refine z_xi (va_runV (As := []) (rest := []) ⟨hx, hb, hml, hown, hts⟩ (zcX4_takeTower l g A σ τ N  h_q8) (cwV 0 hts gX4_takeLine_X4_takeTower rfl rfl rfl hdX4_takeTower ⟨by decide, by decide⟩) (z_preV E hh (by decide) (zC_obj (q := 50) rfl) rfl) rfl rfl hl.1 rfl (lv_room (Nat.le_of_ble_eq_true rfl)) dX4_takeLine_79 ⟨Nat.le_refl _, Nat.le_refl _⟩) hh (fun H locs hh => ?_)
        obtain ⟨h_v9, hf⟩ := z_if hf
        have hf := Option.some.inj hf
        subst hf
        exact z_zretX hx hb hr hlocks h_v9 hh dX4_takeLine_82
      · have hf := z_in hf c_v7
        by_cases c_v10 : s0 = (nI 7)
        · have hf := z_ip hf c_v10
          refine z_tbl (tgt := 83) (off := 48) hx hb dX4_takeLine_35 (nI 7) c_v10 (by decide) (by decide) (by decide) (by decide) ?_
          refine lv_aload_n hx hb dX4_takeLine_83 rfl (lv_at hl 1 rfl) ?_
          obtain ⟨q11, h_q11, hf⟩ := z_bd hf
          refine z_xi (va_runV (As := []) (rest := []) ⟨hx, hb, hml, hown, hts⟩ (zcX4_takeBeds l g A σ τ N  h_q11) (cwV 0 hts gX4_takeLine_X4_takeBeds rfl rfl rfl hdX4_takeBeds ⟨by decide, by decide⟩) (z_preV E hh (by decide) (zC_obj (q := 50) rfl) rfl) rfl rfl hl.1 rfl (lv_room (Nat.le_of_ble_eq_true rfl)) dX4_takeLine_84 ⟨Nat.le_refl _, Nat.le_refl _⟩) hh (fun H locs hh => ?_)
          obtain ⟨h_v12, hf⟩ := z_if hf
          have hf := Option.some.inj hf
          subst hf
          exact z_zretX hx hb hr hlocks h_v12 hh dX4_takeLine_87
        · have hf := z_in hf c_v10
          by_cases c_v13 : s0 = (nI 8)
          · have hf := z_ip hf c_v13
            refine z_tbl (tgt := 88) (off := 53) hx hb dX4_takeLine_35 (nI 8) c_v13 (by decide) (by decide) (by decide) (by decide) ?_
            refine lv_aload_n hx hb dX4_takeLine_88 rfl (lv_at hl 1 rfl) ?_
            refine lv_iconst (v := (nI 2)) hx hb dX4_takeLine_89 (by decide) ?_
            refine lv_aload_n hx hb dX4_takeLine_90 rfl (lv_at hl 1 rfl) ?_
            refine z_get (v := .int (σ.1 50 5)) hx hb hts (fun w h => List.mem_cons_of_mem _ (List.mem_append_left _ (List.mem_append_right _ (h)))) hown E hh (by decide) (zC_obj (q := 50) rfl) rfl 5 (by decide) (hts (.fieldLink RX4 80 "TownBand$Tape" "start" "I") (List.mem_cons_of_mem _ (List.mem_append_left _ (List.mem_append_left _ (List.mem_append_left _ (List.mem_of_getElem? (i := 1) rfl)))))) rfl dX4_takeLine_91 ?_
            obtain ⟨q14, h_q14, hf⟩ := z_bd hf
            refine z_xi (va_runV (As := [.int (nI 2), .int (σ.1 50 5)]) (rest := []) ⟨hx, hb, hml, hown, hts⟩ (zcX4_refuse l g A σ τ N (nI 2) (σ.1 50 5) h_q14) (cwV 2 hts gX4_takeLine_X4_refuse rfl rfl rfl hdX4_refuse ⟨by decide, by decide⟩) (z_preV E hh (by decide) (zC_obj (q := 50) rfl) rfl) rfl rfl hl.1 rfl (lv_room (Nat.le_of_ble_eq_true rfl)) dX4_takeLine_94 ⟨Nat.le_refl _, Nat.le_refl _⟩) hh (fun H locs hh => ?_)
            obtain ⟨h_v15, hf⟩ := z_if hf
            have hf := Option.some.inj hf
            subst hf
            exact z_zretX hx hb hr hlocks h_v15 hh dX4_takeLine_97
          · have hf := z_in hf c_v13
            refine lv_tableOut (tgt := 98) hx hb dX4_takeLine_35 (by have n_c_v1 := lv_neT (a := 4) c_v1 (by decide); have n_c_v4 := lv_neT (a := 5) c_v4 (by decide); have n_c_v7 := lv_neT (a := 6) c_v7 (by decide); have n_c_v10 := lv_neT (a := 7) c_v10 (by decide); have n_c_v13 := lv_neT (a := 8) c_v13 (by decide); omega) (by decide) ?_
            refine lv_aload_n hx hb dX4_takeLine_98 rfl (lv_at hl 1 rfl) ?_
            refine lv_iload_n hx hb dX4_takeLine_99 rfl (lv_at hl 0 rfl) ?_
            obtain ⟨q16, h_q16, hf⟩ := z_bd hf
            refine z_xi (va_runV (As := [.int s0]) (rest := []) ⟨hx, hb, hml, hown, hts⟩ (zcX4_takeBeast l g A σ τ N s0 h_q16) (cwV 1 hts gX4_takeLine_X4_takeBeast rfl rfl rfl hdX4_takeBeast ⟨by decide, by decide⟩) (z_preV E hh (by decide) (zC_obj (q := 50) rfl) rfl) rfl rfl hl.1 rfl (lv_room (Nat.le_of_ble_eq_true rfl)) dX4_takeLine_100 ⟨Nat.le_refl _, Nat.le_refl _⟩) hh (fun H locs hh => ?_)
            obtain ⟨h_v17, hf⟩ := z_if hf
            have hf := Option.some.inj hf
            subst hf
            exact z_zretX hx hb hr hlocks h_v17 hh dX4_takeLine_103
def fX4_takeLine (N : Nat) (σ : zS)  : Option (Int32 × zS) :=
  (fX4_takeToken N σ).bind fun q1 =>
  if q1.1 = 0 then
    some (0, q1.2)
  else
    if (q1.2.1 50 4) = (nI 3) then
      some (0, q1.2)
    else
      if (q1.2.1 50 4) = 0 then
        (fX4_wordRead N q1.2).bind fun q5 =>
        (fX4_takeLine_33 N) q5 q1.2
      else
        (fX4_takeLine_33 N) (nI 8) q1.2
set_option maxRecDepth 100000 in
set_option maxHeartbeats 4000000 in
theorem zcX4_takeLine (l : Launch) (g : zG) (A : Nat → Prop) (σ τ : zS) (N : Nat)   {res : Int32 × zS} (hf : fX4_takeLine N σ = some res) : Met l yX4_takeLine wsX4_takeLine (zR 6) (zPc g A σ τ [.ref (g.2.2 50)]) (zQi g A τ res) 0 0 A := by
  refine z_met (cc := cX4_takeLine) (ret := (some .boolean)) (own := RX4) (by decide) rfl rfl _ (Nat.le_of_ble_eq_true rfl) ?_
  intro p e s m below meth c C E ls hl hh
  have hl : lv_has ls 2 [(0, .ref (g.2.2 50))] := hl
  obtain ⟨hx, hb, hr, hml, hown, hts, hlocks⟩ := id C
  unfold fX4_takeLine at hf
  refine lv_aload_n hx hb dX4_takeLine_0 rfl (lv_at hl 0 rfl) ?_
  obtain ⟨q1, h_q1, hf⟩ := z_bd hf
  refine z_xi (va_runV (As := []) (rest := []) ⟨hx, hb, hml, hown, hts⟩ (zcX4_takeToken l g A σ τ N  h_q1) (cwV 0 hts gX4_takeLine_X4_takeToken rfl rfl rfl hdX4_takeToken ⟨by decide, by decide⟩) (z_preV E hh (by decide) (zC_obj (q := 50) rfl) rfl) rfl rfl hl.1 rfl (lv_room (Nat.le_of_ble_eq_true rfl)) dX4_takeLine_1 ⟨Nat.le_refl _, Nat.le_refl _⟩) hh (fun H locs hh => ?_)
  refine lv_if_eq (tgt := 15) hx hb dX4_takeLine_4 (by decide) (fun c_v2 => ?_) (fun c_v2 => ?_)
  · have hf := z_ip hf c_v2
    refine lv_iconst (v := (nI 0)) hx hb dX4_takeLine_15 (by decide) ?_
    have hf := Option.some.inj hf
    subst hf
    exact z_zretX hx hb hr hlocks (Or.inl rfl) hh dX4_takeLine_16
  · have hf := z_in hf c_v2
    refine lv_aload_n hx hb dX4_takeLine_7 rfl (lv_at hl 0 rfl) ?_
    refine z_get (v := .int (q1.2.1 50 4)) hx hb hts (fun w h => List.mem_cons_of_mem _ (List.mem_append_left _ (List.mem_append_right _ (h)))) hown E hh (by decide) (zC_obj (q := 50) rfl) rfl 4 (by decide) (hts (.fieldLink RX4 61 "TownBand$Tape" "token" "I") (List.mem_cons_of_mem _ (List.mem_append_left _ (List.mem_append_left _ (List.mem_append_left _ (List.mem_of_getElem? (i := 0) rfl)))))) rfl dX4_takeLine_8 ?_
    refine lv_iconst (v := (nI 3)) hx hb dX4_takeLine_11 (by decide) ?_
    refine lv_icmp_ne (tgt := 17) hx hb dX4_takeLine_12 (by decide) (fun c_v3 => ?_) (fun c_v3 => ?_)
    · have hf := z_in hf c_v3
      refine lv_aload_n hx hb dX4_takeLine_17 rfl (lv_at hl 0 rfl) ?_
      refine z_get (v := .int (q1.2.1 50 4)) hx hb hts (fun w h => List.mem_cons_of_mem _ (List.mem_append_left _ (List.mem_append_right _ (h)))) hown E hh (by decide) (zC_obj (q := 50) rfl) rfl 4 (by decide) (hts (.fieldLink RX4 61 "TownBand$Tape" "token" "I") (List.mem_cons_of_mem _ (List.mem_append_left _ (List.mem_append_left _ (List.mem_append_left _ (List.mem_of_getElem? (i := 0) rfl)))))) rfl dX4_takeLine_18 ?_
      refine lv_if_ne (tgt := 31) hx hb dX4_takeLine_21 (by decide) (fun c_v4 => ?_) (fun c_v4 => ?_)
      · have hf := z_in hf c_v4
        refine lv_bipush (v := (nI 8)) hx hb dX4_takeLine_31 (by decide) ?_
        exact (hX4_takeLine_33 C E N) (nI 8) q1.2 _ _ _ hf hh (lv_sub hl [0] rfl)
      · have hf := z_ip hf c_v4
        refine lv_aload_n hx hb dX4_takeLine_24 rfl (lv_at hl 0 rfl) ?_
        obtain ⟨q5, h_q5, hf⟩ := z_bd hf
        refine z_xi (va_runV (As := []) (rest := []) ⟨hx, hb, hml, hown, hts⟩ (zcX4_wordRead l g A q1.2 τ N  h_q5) (cwV 0 hts gX4_takeLine_X4_wordRead rfl rfl rfl hdX4_wordRead ⟨by decide, by decide⟩) (z_preV E hh (by decide) (zC_obj (q := 50) rfl) rfl) rfl rfl hl.1 rfl (lv_room (Nat.le_of_ble_eq_true rfl)) dX4_takeLine_25 ⟨Nat.le_refl _, Nat.le_refl _⟩) hh (fun H locs hh => ?_)
        refine lv_goto (tgt := 33) hx hb dX4_takeLine_28 (by decide) ?_
        exact (hX4_takeLine_33 C E N) q5 q1.2 _ _ _ hf hh (lv_sub hl [0] rfl)
    · have hf := z_ip hf c_v3
      refine lv_iconst (v := (nI 0)) hx hb dX4_takeLine_15 (by decide) ?_
      have hf := Option.some.inj hf
      subst hf
      exact z_zretX hx hb hr hlocks (Or.inl rfl) hh dX4_takeLine_16
/-! ===== X4_areThere ===== -/
theorem hdX4_areThere : yX4_areThere.cls = RX4 ∧ yX4_areThere.cls ≠ "java/lang/invoke/MethodHandle" ∧ yX4_areThere.cls ≠ "java/lang/invoke/VarHandle" ∧ (parseMethodDescriptor yX4_areThere.desc).map (fun d => d.parameters.length) = some 2 := by decide +kernel
def PX4_areThere_2 (p : Program) (l : Launch) (e : Env) (s : State) (m : MethodId) (args : Array Value) (below : List Frame) (meth : Method) (c : Code) (g : zG) (A : Nat → Prop) (σ τ : zS) (res : Int32) (f : Nat → Int32 → Int32 → Option (Int32)) : Prop := ∀ (b1 : Nat) (x2 : Int32) (x3 : Int32) (h_b1 : b1 < 39) (H : Heap) (locs : List Loc) (ls : Array Slot), f b1 x2 x3 = some res → zW g A σ τ s H locs → lv_has ls 4 [(0, .ref (g.2.2 50)), (1, .ref (g.2.2 b1)), (2, .int x2), (3, .int x3)] → W p l e (zR 2) s m args below meth c H locs 0 0 (MQ below (zQi g A τ (res, σ)) args s 0 0 A) (F0 m 2 ls [])
def fX4_areThere_2 (N : Nat) (σ : zS) : Nat → Nat → Int32 → Int32 → Option (Int32)
  | 0, _, _, _ => none
  | n + 1, b1, x2, x3 =>
    if x2 ≤ x3 then
      some 1
    else
      if zin x3 (zlen b1) then
      zlet (σ.2 b1 x3.toNatClampNeg) fun v3 =>
      (fX0_hasBeast N σ 43 v3).bind fun q4 =>
      if q4 = 0 then
        some 0
      else
        (fX4_areThere_2 N σ n) b1 x2 (x3 + (nI 1))
      else none
set_option maxRecDepth 100000 in
set_option maxHeartbeats 4000000 in
theorem hX4_areThere_2 {p : Program} {l : Launch} {e : Env} {s : State} {m : MethodId} {args : Array Value} {below : List Frame} {meth : Method} {c : Code} {g : zG} {A : Nat → Prop} {σ τ : zS} {res : Int32} (C : zCx p s m args meth c cX4_areThere (some .boolean) wsX4_areThere RX4 4) (E : zE g A s) (N : Nat) : ∀ n : Nat, PX4_areThere_2 p l e s m args below meth c g A σ τ res (fX4_areThere_2 N σ n) := by
  obtain ⟨hx, hb, hr, hml, hown, hts, hlocks⟩ := id C
  intro n
  induction n with
  | zero =>
    intro b1 x2 x3 h_b1 H locs ls hf
    exact absurd hf (by simp [fX4_areThere_2])
  | succ n ih =>
    intro b1 x2 x3 h_b1 H locs ls hf hh hl
    rw [fX4_areThere_2] at hf
    refine lv_iload_n hx hb dX4_areThere_2 rfl (lv_at hl 3 rfl) ?_
    refine lv_iload_n hx hb dX4_areThere_3 rfl (lv_at hl 2 rfl) ?_
    refine lv_icmp_ge (tgt := 28) hx hb dX4_areThere_4 (by decide) (fun c_v1 => ?_) (fun c_v1 => ?_)
    · have hf := z_ip hf c_v1
      refine lv_iconst (v := (nI 1)) hx hb dX4_areThere_28 (by decide) ?_
      have hf := Option.some.inj hf
      subst hf
      exact z_zretX hx hb hr hlocks (Or.inr rfl) hh dX4_areThere_29
    · have hf := z_in hf c_v1
      refine lv_aload_n hx hb dX4_areThere_7 rfl (lv_at hl 0 rfl) ?_
      refine z_get (v := .ref (g.2.2 43)) hx hb hts (fun w h => List.mem_cons_of_mem _ (List.mem_append_left _ (List.mem_append_right _ (h)))) hown E hh (by decide) (zC_obj (q := 50) rfl) rfl 1 (by decide) (hts (.fieldLink RX4 18 "TownBand$Tape" "draft" "LTownBand$Band;") (List.mem_cons_of_mem _ (List.mem_append_left _ (List.mem_append_left _ (List.mem_of_getElem? (i := 0) rfl))))) rfl dX4_areThere_8 ?_
      refine lv_aload_n hx hb dX4_areThere_11 rfl (lv_at hl 1 rfl) ?_
      refine lv_iload_n hx hb dX4_areThere_12 rfl (lv_at hl 3 rfl) ?_
      obtain ⟨h_v2, hf⟩ := z_if hf
      obtain ⟨v3, e_v3, hf⟩ := z_lt hf
      refine z_iald hx hb E hh h_b1 h_v2 e_v3 dX4_areThere_13 ?_
      obtain ⟨q4, h_q4, hf⟩ := z_bd hf
      refine z_xi (va_runVN (As := [.int v3]) (rest := []) ⟨hx, hb, hml, hown, hts⟩ (zcX0_hasBeast l g A σ τ N 43 v3 (by decide) (by decide) h_q4) ⟨va_cnB 1 hts gX4_areThere_X0_hasBeast_n186 rfl rfl rfl (zE_m E 11 rfl) (hts (.initialized RX0) (List.mem_cons_of_mem _ (List.mem_append_left _ (List.mem_append_left _ (List.mem_of_getElem? (i := 2) rfl))))) hdX0_hasBeast.2 ⟨by decide, by decide⟩, (hts (.instanceMethod yX0_hasBeast) (List.mem_cons_of_mem _ (List.mem_append_left _ (List.mem_append_left _ (List.mem_of_getElem? (i := 1) rfl))))), (hts (.selects RX0 yX0_hasBeast yX0_hasBeast) (List.mem_cons_of_mem _ (List.mem_append_left _ (List.mem_append_left _ (List.mem_of_getElem? (i := 3) rfl)))))⟩ (z_preV E hh (by decide) (zC_band (by decide) (by decide)) rfl) rfl rfl hl.1 rfl (lv_room (Nat.le_of_ble_eq_true rfl)) dX4_areThere_14 ⟨Nat.le_refl _, Nat.le_refl _⟩) hh (fun H locs hh => ?_)
      refine lv_if_ne (tgt := 22) hx hb dX4_areThere_17 (by decide) (fun c_v5 => ?_) (fun c_v5 => ?_)
      · have hf := z_in hf c_v5
        refine lv_iinc (v := (x3 + (nI 1))) (lv' := [(3, .int (x3 + (nI 1))), (0, .ref (g.2.2 50)), (1, .ref (g.2.2 b1)), (2, .int x2)]) hx hb dX4_areThere_22 hl (k := 3) rfl rfl (by decide) rfl (fun ls hl => ?_)
        refine lv_goto (tgt := 2) hx hb dX4_areThere_25 (by decide) ?_
        exact ih b1 x2 (x3 + (nI 1)) h_b1 _ _ _ hf hh (lv_sub hl [1, 2, 3, 0] rfl)
      · have hf := z_ip hf c_v5
        refine lv_iconst (v := (nI 0)) hx hb dX4_areThere_20 (by decide) ?_
        have hf := Option.some.inj hf
        subst hf
        exact z_zretX hx hb hr hlocks (Or.inl rfl) hh dX4_areThere_21
def fX4_areThere (N : Nat) (σ : zS) (b1 : Nat) (x2 : Int32) : Option (Int32) :=
  (fX4_areThere_2 N σ N) b1 x2 (nI 0)
set_option maxRecDepth 100000 in
set_option maxHeartbeats 4000000 in
theorem zcX4_areThere (l : Launch) (g : zG) (A : Nat → Prop) (σ τ : zS) (N : Nat) (b1 : Nat) (x2 : Int32) (h_b1 : b1 < 39) {res : Int32} (hf : fX4_areThere N σ b1 x2 = some res) : Met l yX4_areThere wsX4_areThere (zR 2) (zPc g A σ τ [.ref (g.2.2 50), .ref (g.2.2 b1), .int x2]) (zQi g A τ (res, σ)) 0 0 A := by
  refine z_met (cc := cX4_areThere) (ret := (some .boolean)) (own := RX4) (by decide) rfl rfl _ (Nat.le_of_ble_eq_true rfl) ?_
  intro p e s m below meth c C E ls hl hh
  have hl : lv_has ls 4 [(0, .ref (g.2.2 50)), (1, .ref (g.2.2 b1)), (2, .int x2)] := hl
  obtain ⟨hx, hb, hr, hml, hown, hts, hlocks⟩ := id C
  unfold fX4_areThere at hf
  refine lv_iconst (v := (nI 0)) hx hb dX4_areThere_0 (by decide) ?_
  refine lv_istore_n (lv' := [(3, .int (nI 0)), (0, .ref (g.2.2 50)), (1, .ref (g.2.2 b1)), (2, .int x2)]) hx hb dX4_areThere_1 rfl hl (by decide) rfl (fun ls hl => ?_)
  exact (hX4_areThere_2 C E N N) b1 x2 (nI 0) h_b1 _ _ _ hf hh (lv_sub hl [1, 2, 3, 0] rfl)
/-! ===== X4_lookAtWhole ===== -/
theorem hdX4_lookAtWhole : yX4_lookAtWhole.cls = RX4 ∧ yX4_lookAtWhole.cls ≠ "java/lang/invoke/MethodHandle" ∧ yX4_lookAtWhole.cls ≠ "java/lang/invoke/VarHandle" ∧ (parseMethodDescriptor yX4_lookAtWhole.desc).map (fun d => d.parameters.length) = some 0 := by decide +kernel
def PX4_lookAtWhole_104 (p : Program) (l : Launch) (e : Env) (s : State) (m : MethodId) (args : Array Value) (below : List Frame) (meth : Method) (c : Code) (g : zG) (A : Nat → Prop) (τ : zS) (res : zS) (f : zS → Option (zS)) : Prop := ∀  (σ : zS) (H : Heap) (locs : List Loc) (ls : Array Slot), f σ = some res → zW g A σ τ s H locs → lv_has ls 2 [(0, .ref (g.2.2 50))] → W p l e (zR 4) s m args below meth c H locs 0 0 (MQ below (zQv g A τ res) args s 0 0 A) (F0 m 104 ls [])
def PX4_lookAtWhole_58 (p : Program) (l : Launch) (e : Env) (s : State) (m : MethodId) (args : Array Value) (below : List Frame) (meth : Method) (c : Code) (g : zG) (A : Nat → Prop) (τ : zS) (res : zS) (f : zS → Option (zS)) : Prop := ∀  (σ : zS) (H : Heap) (locs : List Loc) (ls : Array Slot), f σ = some res → zW g A σ τ s H locs → lv_has ls 2 [(0, .ref (g.2.2 50))] → W p l e (zR 4) s m args below meth c H locs 0 0 (MQ below (zQv g A τ res) args s 0 0 A) (F0 m 58 ls [])
def PX4_lookAtWhole_18 (p : Program) (l : Launch) (e : Env) (s : State) (m : MethodId) (args : Array Value) (below : List Frame) (meth : Method) (c : Code) (g : zG) (A : Nat → Prop) (τ : zS) (res : zS) (f : Int32 → zS → Option (zS)) : Prop := ∀ (s0 : Int32) (σ : zS) (H : Heap) (locs : List Loc) (ls : Array Slot), f s0 σ = some res → zW g A σ τ s H locs → lv_has ls 2 [(0, .ref (g.2.2 50))] → W p l e (zR 4) s m args below meth c H locs 0 0 (MQ below (zQv g A τ res) args s 0 0 A) (F0 m 18 ls [.int s0])
def fX4_lookAtWhole_104 (N : Nat)  (σ : zS) : Option (zS) :=
  (fX0_stands N σ 43).bind fun q1 =>
  if q1 = 0 then
    (fX4_refuse N σ (nI 8) (σ.1 50 2)).bind fun q3 =>
    some q3.2
  else
    some σ
set_option maxRecDepth 100000 in
set_option maxHeartbeats 4000000 in
theorem hX4_lookAtWhole_104 {p : Program} {l : Launch} {e : Env} {s : State} {m : MethodId} {args : Array Value} {below : List Frame} {meth : Method} {c : Code} {g : zG} {A : Nat → Prop} {τ : zS} {res : zS} (C : zCx p s m args meth c cX4_lookAtWhole none wsX4_lookAtWhole RX4 2) (E : zE g A s) (N : Nat) : PX4_lookAtWhole_104 p l e s m args below meth c g A τ res (fX4_lookAtWhole_104 N) := by
  obtain ⟨hx, hb, hr, hml, hown, hts, hlocks⟩ := id C
  intro σ H locs ls hf hh hl
  unfold fX4_lookAtWhole_104 at hf
  refine lv_aload_n hx hb dX4_lookAtWhole_104 rfl (lv_at hl 0 rfl) ?_
  refine z_get (v := .ref (g.2.2 43)) hx hb hts (fun w h => List.mem_cons_of_mem _ (List.mem_append_left _ (List.mem_append_right _ (h)))) hown E hh (by decide) (zC_obj (q := 50) rfl) rfl 1 (by decide) (hts (.fieldLink RX4 18 "TownBand$Tape" "draft" "LTownBand$Band;") (List.mem_cons_of_mem _ (List.mem_append_left _ (List.mem_append_left _ (List.mem_append_left _ (List.mem_of_getElem? (i := 1) rfl)))))) rfl dX4_lookAtWhole_105 ?_
  obtain ⟨q1, h_q1, hf⟩ := z_bd hf
  refine z_xi (va_runVN (As := []) (rest := []) ⟨hx, hb, hml, hown, hts⟩ (zcX0_stands l g A σ τ N 43 (by decide) (by decide) h_q1) ⟨va_cnB 0 hts gX4_lookAtWhole_X0_stands_n183 rfl rfl rfl (zE_m E 13 rfl) (hts (.initialized RX0) (List.mem_cons_of_mem _ (List.mem_append_left _ (List.mem_append_left _ (List.mem_append_left _ (List.mem_of_getElem? (i := 10) rfl)))))) hdX0_stands.2 ⟨by decide, by decide⟩, (hts (.instanceMethod yX0_stands) (List.mem_cons_of_mem _ (List.mem_append_left _ (List.mem_append_left _ (List.mem_append_left _ (List.mem_of_getElem? (i := 23) rfl)))))), (hts (.selects RX0 yX0_stands yX0_stands) (List.mem_cons_of_mem _ (List.mem_append_left _ (List.mem_append_left _ (List.mem_append_right _ (List.mem_of_getElem? (i := 0) rfl))))))⟩ (z_preV E hh (by decide) (zC_band (by decide) (by decide)) rfl) rfl rfl hl.1 rfl (lv_room (Nat.le_of_ble_eq_true rfl)) dX4_lookAtWhole_108 ⟨Nat.le_refl _, Nat.le_refl _⟩) hh (fun H locs hh => ?_)
  refine lv_if_ne (tgt := 125) hx hb dX4_lookAtWhole_111 (by decide) (fun c_v2 => ?_) (fun c_v2 => ?_)
  · have hf := z_in hf c_v2
    have hf := Option.some.inj hf
    subst hf
    exact z_vretX hx hb hr hlocks hh dX4_lookAtWhole_125
  · have hf := z_ip hf c_v2
    refine lv_aload_n hx hb dX4_lookAtWhole_114 rfl (lv_at hl 0 rfl) ?_
    refine lv_bipush (v := (nI 8)) hx hb dX4_lookAtWhole_115 (by decide) ?_
    refine lv_aload_n hx hb dX4_lookAtWhole_117 rfl (lv_at hl 0 rfl) ?_
    refine z_get (v := .int (σ.1 50 2)) hx hb hts (fun w h => List.mem_cons_of_mem _ (List.mem_append_left _ (List.mem_append_right _ (h)))) hown E hh (by decide) (zC_obj (q := 50) rfl) rfl 2 (by decide) (hts (.fieldLink RX4 22 "TownBand$Tape" "length" "I") (List.mem_cons_of_mem _ (List.mem_append_left _ (List.mem_append_left _ (List.mem_append_left _ (List.mem_of_getElem? (i := 3) rfl)))))) rfl dX4_lookAtWhole_118 ?_
    obtain ⟨q3, h_q3, hf⟩ := z_bd hf
    refine z_xi (va_runV (As := [.int (nI 8), .int (σ.1 50 2)]) (rest := []) ⟨hx, hb, hml, hown, hts⟩ (zcX4_refuse l g A σ τ N (nI 8) (σ.1 50 2) h_q3) (cwV 2 hts gX4_lookAtWhole_X4_refuse rfl rfl rfl hdX4_refuse ⟨by decide, by decide⟩) (z_preV E hh (by decide) (zC_obj (q := 50) rfl) rfl) rfl rfl hl.1 rfl (lv_room (Nat.le_of_ble_eq_true rfl)) dX4_lookAtWhole_121 ⟨Nat.le_refl _, Nat.le_refl _⟩) hh (fun H locs hh => ?_)
    refine lv_pop hx hb dX4_lookAtWhole_124 rfl ?_
    have hf := Option.some.inj hf
    subst hf
    exact z_vretX hx hb hr hlocks hh dX4_lookAtWhole_125
def fX4_lookAtWhole_58 (N : Nat)  (σ : zS) : Option (zS) :=
  (fX4_refuse N σ (nI 6) (σ.1 50 2)).bind fun q1 =>
  some q1.2
set_option maxRecDepth 100000 in
set_option maxHeartbeats 4000000 in
theorem hX4_lookAtWhole_58 {p : Program} {l : Launch} {e : Env} {s : State} {m : MethodId} {args : Array Value} {below : List Frame} {meth : Method} {c : Code} {g : zG} {A : Nat → Prop} {τ : zS} {res : zS} (C : zCx p s m args meth c cX4_lookAtWhole none wsX4_lookAtWhole RX4 2) (E : zE g A s) (N : Nat) : PX4_lookAtWhole_58 p l e s m args below meth c g A τ res (fX4_lookAtWhole_58 N) := by
  obtain ⟨hx, hb, hr, hml, hown, hts, hlocks⟩ := id C
  intro σ H locs ls hf hh hl
  unfold fX4_lookAtWhole_58 at hf
  refine lv_aload_n hx hb dX4_lookAtWhole_58 rfl (lv_at hl 0 rfl) ?_
  refine lv_bipush (v := (nI 6)) hx hb dX4_lookAtWhole_59 (by decide) ?_
  refine lv_aload_n hx hb dX4_lookAtWhole_61 rfl (lv_at hl 0 rfl) ?_
  refine z_get (v := .int (σ.1 50 2)) hx hb hts (fun w h => List.mem_cons_of_mem _ (List.mem_append_left _ (List.mem_append_right _ (h)))) hown E hh (by decide) (zC_obj (q := 50) rfl) rfl 2 (by decide) (hts (.fieldLink RX4 22 "TownBand$Tape" "length" "I") (List.mem_cons_of_mem _ (List.mem_append_left _ (List.mem_append_left _ (List.mem_append_left _ (List.mem_of_getElem? (i := 3) rfl)))))) rfl dX4_lookAtWhole_62 ?_
  obtain ⟨q1, h_q1, hf⟩ := z_bd hf
  refine z_xi (va_runV (As := [.int (nI 6), .int (σ.1 50 2)]) (rest := []) ⟨hx, hb, hml, hown, hts⟩ (zcX4_refuse l g A σ τ N (nI 6) (σ.1 50 2) h_q1) (cwV 2 hts gX4_lookAtWhole_X4_refuse rfl rfl rfl hdX4_refuse ⟨by decide, by decide⟩) (z_preV E hh (by decide) (zC_obj (q := 50) rfl) rfl) rfl rfl hl.1 rfl (lv_room (Nat.le_of_ble_eq_true rfl)) dX4_lookAtWhole_65 ⟨Nat.le_refl _, Nat.le_refl _⟩) hh (fun H locs hh => ?_)
  refine lv_pop hx hb dX4_lookAtWhole_68 rfl ?_
  refine lv_goto (tgt := 125) hx hb dX4_lookAtWhole_69 (by decide) ?_
  have hf := Option.some.inj hf
  subst hf
  exact z_vretX hx hb hr hlocks hh dX4_lookAtWhole_125
def fX4_lookAtWhole_18 (N : Nat) (s0 : Int32) (σ : zS) : Option (zS) :=
  (fX4_areThere N σ 10 (σ.1 43 8)).bind fun q1 =>
  if q1 = 0 then
    (fX4_lookAtWhole_58 N) σ
  else
    (fX4_areThere N σ 11 (σ.1 50 8)).bind fun q3 =>
    if q3 = 0 then
      (fX4_lookAtWhole_58 N) σ
    else
      if s0 = 0 then
        (fX4_lookAtWhole_104 N) σ
      else
        if (σ.1 50 8) = (σ.1 43 6) then
          (fX4_lookAtWhole_104 N) σ
        else
          (fX4_refuse N σ (nI 7) (σ.1 50 2)).bind fun q7 =>
          some q7.2
set_option maxRecDepth 100000 in
set_option maxHeartbeats 4000000 in
theorem hX4_lookAtWhole_18 {p : Program} {l : Launch} {e : Env} {s : State} {m : MethodId} {args : Array Value} {below : List Frame} {meth : Method} {c : Code} {g : zG} {A : Nat → Prop} {τ : zS} {res : zS} (C : zCx p s m args meth c cX4_lookAtWhole none wsX4_lookAtWhole RX4 2) (E : zE g A s) (N : Nat) : PX4_lookAtWhole_18 p l e s m args below meth c g A τ res (fX4_lookAtWhole_18 N) := by
  obtain ⟨hx, hb, hr, hml, hown, hts, hlocks⟩ := id C
  intro s0 σ H locs ls hf hh hl
  unfold fX4_lookAtWhole_18 at hf
  refine lv_istore_n (lv' := [(1, .int s0), (0, .ref (g.2.2 50))]) hx hb dX4_lookAtWhole_18 rfl hl (by decide) rfl (fun ls hl => ?_)
  refine lv_aload_n hx hb dX4_lookAtWhole_19 rfl (lv_at hl 1 rfl) ?_
  refine lv_aload_n hx hb dX4_lookAtWhole_20 rfl (lv_at hl 1 rfl) ?_
  refine z_get (v := .ref (g.2.2 43)) hx hb hts (fun w h => List.mem_cons_of_mem _ (List.mem_append_left _ (List.mem_append_right _ (h)))) hown E hh (by decide) (zC_obj (q := 50) rfl) rfl 1 (by decide) (hts (.fieldLink RX4 18 "TownBand$Tape" "draft" "LTownBand$Band;") (List.mem_cons_of_mem _ (List.mem_append_left _ (List.mem_append_left _ (List.mem_append_left _ (List.mem_of_getElem? (i := 1) rfl)))))) rfl dX4_lookAtWhole_21 ?_
  refine z_getN (v := .ref (g.2.2 10)) hx hb hts (fun w h => List.mem_cons_of_mem _ (List.mem_append_right _ (h))) hown E hh (by decide) (zC_band (by decide) (by decide)) rfl 4 (by decide) (zE_f E 11 rfl) rfl dX4_lookAtWhole_24 ?_
  refine lv_aload_n hx hb dX4_lookAtWhole_27 rfl (lv_at hl 1 rfl) ?_
  refine z_get (v := .ref (g.2.2 43)) hx hb hts (fun w h => List.mem_cons_of_mem _ (List.mem_append_left _ (List.mem_append_right _ (h)))) hown E hh (by decide) (zC_obj (q := 50) rfl) rfl 1 (by decide) (hts (.fieldLink RX4 18 "TownBand$Tape" "draft" "LTownBand$Band;") (List.mem_cons_of_mem _ (List.mem_append_left _ (List.mem_append_left _ (List.mem_append_left _ (List.mem_of_getElem? (i := 1) rfl)))))) rfl dX4_lookAtWhole_28 ?_
  refine z_getN (v := .int (σ.1 43 8)) hx hb hts (fun w h => List.mem_cons_of_mem _ (List.mem_append_right _ (h))) hown E hh (by decide) (zC_band (by decide) (by decide)) rfl 8 (by decide) (zE_f E 22 rfl) rfl dX4_lookAtWhole_31 ?_
  obtain ⟨q1, h_q1, hf⟩ := z_bd hf
  refine z_xi (va_runV (As := [.ref (g.2.2 10), .int (σ.1 43 8)]) (rest := []) ⟨hx, hb, hml, hown, hts⟩ (zcX4_areThere l g A σ τ N 10 (σ.1 43 8) (by decide) h_q1) (cwV 2 hts gX4_lookAtWhole_X4_areThere rfl rfl rfl hdX4_areThere ⟨by decide, by decide⟩) (z_preV E hh (by decide) (zC_obj (q := 50) rfl) rfl) rfl rfl hl.1 rfl (lv_room (Nat.le_of_ble_eq_true rfl)) dX4_lookAtWhole_34 ⟨Nat.le_refl _, Nat.le_refl _⟩) hh (fun H locs hh => ?_)
  refine lv_if_eq (tgt := 58) hx hb dX4_lookAtWhole_37 (by decide) (fun c_v2 => ?_) (fun c_v2 => ?_)
  · have hf := z_ip hf c_v2
    exact (hX4_lookAtWhole_58 C E N) σ _ _ _ hf hh (lv_sub hl [1] rfl)
  · have hf := z_in hf c_v2
    refine lv_aload_n hx hb dX4_lookAtWhole_40 rfl (lv_at hl 1 rfl) ?_
    refine lv_aload_n hx hb dX4_lookAtWhole_41 rfl (lv_at hl 1 rfl) ?_
    refine z_get (v := .ref (g.2.2 43)) hx hb hts (fun w h => List.mem_cons_of_mem _ (List.mem_append_left _ (List.mem_append_right _ (h)))) hown E hh (by decide) (zC_obj (q := 50) rfl) rfl 1 (by decide) (hts (.fieldLink RX4 18 "TownBand$Tape" "draft" "LTownBand$Band;") (List.mem_cons_of_mem _ (List.mem_append_left _ (List.mem_append_left _ (List.mem_append_left _ (List.mem_of_getElem? (i := 1) rfl)))))) rfl dX4_lookAtWhole_42 ?_
    refine z_getN (v := .ref (g.2.2 11)) hx hb hts (fun w h => List.mem_cons_of_mem _ (List.mem_append_right _ (h))) hown E hh (by decide) (zC_band (by decide) (by decide)) rfl 5 (by decide) (zE_f E 12 rfl) rfl dX4_lookAtWhole_45 ?_
    refine lv_aload_n hx hb dX4_lookAtWhole_48 rfl (lv_at hl 1 rfl) ?_
    refine z_get (v := .int (σ.1 50 8)) hx hb hts (fun w h => List.mem_cons_of_mem _ (List.mem_append_left _ (List.mem_append_right _ (h)))) hown E hh (by decide) (zC_obj (q := 50) rfl) rfl 8 (by decide) (hts (.fieldLink RX4 45 "TownBand$Tape" "bedsTold" "I") (List.mem_cons_of_mem _ (List.mem_append_left _ (List.mem_append_left _ (List.mem_append_left _ (List.mem_of_getElem? (i := 2) rfl)))))) rfl dX4_lookAtWhole_49 ?_
    obtain ⟨q3, h_q3, hf⟩ := z_bd hf
    refine z_xi (va_runV (As := [.ref (g.2.2 11), .int (σ.1 50 8)]) (rest := []) ⟨hx, hb, hml, hown, hts⟩ (zcX4_areThere l g A σ τ N 11 (σ.1 50 8) (by decide) h_q3) (cwV 2 hts gX4_lookAtWhole_X4_areThere rfl rfl rfl hdX4_areThere ⟨by decide, by decide⟩) (z_preV E hh (by decide) (zC_obj (q := 50) rfl) rfl) rfl rfl hl.1 rfl (lv_room (Nat.le_of_ble_eq_true rfl)) dX4_lookAtWhole_52 ⟨Nat.le_refl _, Nat.le_refl _⟩) hh (fun H locs hh => ?_)
    refine lv_if_ne (tgt := 72) hx hb dX4_lookAtWhole_55 (by decide) (fun c_v4 => ?_) (fun c_v4 => ?_)
    · have hf := z_in hf c_v4
      refine lv_iload_n hx hb dX4_lookAtWhole_72 rfl (lv_at hl 0 rfl) ?_
      refine lv_if_eq (tgt := 104) hx hb dX4_lookAtWhole_73 (by decide) (fun c_v5 => ?_) (fun c_v5 => ?_)
      · have hf := z_ip hf c_v5
        exact (hX4_lookAtWhole_104 C E N) σ _ _ _ hf hh (lv_sub hl [1] rfl)
      · have hf := z_in hf c_v5
        refine lv_aload_n hx hb dX4_lookAtWhole_76 rfl (lv_at hl 1 rfl) ?_
        refine z_get (v := .int (σ.1 50 8)) hx hb hts (fun w h => List.mem_cons_of_mem _ (List.mem_append_left _ (List.mem_append_right _ (h)))) hown E hh (by decide) (zC_obj (q := 50) rfl) rfl 8 (by decide) (hts (.fieldLink RX4 45 "TownBand$Tape" "bedsTold" "I") (List.mem_cons_of_mem _ (List.mem_append_left _ (List.mem_append_left _ (List.mem_append_left _ (List.mem_of_getElem? (i := 2) rfl)))))) rfl dX4_lookAtWhole_77 ?_
        refine lv_aload_n hx hb dX4_lookAtWhole_80 rfl (lv_at hl 1 rfl) ?_
        refine z_get (v := .ref (g.2.2 43)) hx hb hts (fun w h => List.mem_cons_of_mem _ (List.mem_append_left _ (List.mem_append_right _ (h)))) hown E hh (by decide) (zC_obj (q := 50) rfl) rfl 1 (by decide) (hts (.fieldLink RX4 18 "TownBand$Tape" "draft" "LTownBand$Band;") (List.mem_cons_of_mem _ (List.mem_append_left _ (List.mem_append_left _ (List.mem_append_left _ (List.mem_of_getElem? (i := 1) rfl)))))) rfl dX4_lookAtWhole_81 ?_
        refine z_getN (v := .int (σ.1 43 6)) hx hb hts (fun w h => List.mem_cons_of_mem _ (List.mem_append_right _ (h))) hown E hh (by decide) (zC_band (by decide) (by decide)) rfl 6 (by decide) (zE_f E 16 rfl) rfl dX4_lookAtWhole_84 ?_
        refine lv_icmp_eq (tgt := 104) hx hb dX4_lookAtWhole_87 (by decide) (fun c_v6 => ?_) (fun c_v6 => ?_)
        · have hf := z_ip hf c_v6
          exact (hX4_lookAtWhole_104 C E N) σ _ _ _ hf hh (lv_sub hl [1] rfl)
        · have hf := z_in hf c_v6
          refine lv_aload_n hx hb dX4_lookAtWhole_90 rfl (lv_at hl 1 rfl) ?_
          refine lv_bipush (v := (nI 7)) hx hb dX4_lookAtWhole_91 (by decide) ?_
          refine lv_aload_n hx hb dX4_lookAtWhole_93 rfl (lv_at hl 1 rfl) ?_
          refine z_get (v := .int (σ.1 50 2)) hx hb hts (fun w h => List.mem_cons_of_mem _ (List.mem_append_left _ (List.mem_append_right _ (h)))) hown E hh (by decide) (zC_obj (q := 50) rfl) rfl 2 (by decide) (hts (.fieldLink RX4 22 "TownBand$Tape" "length" "I") (List.mem_cons_of_mem _ (List.mem_append_left _ (List.mem_append_left _ (List.mem_append_left _ (List.mem_of_getElem? (i := 3) rfl)))))) rfl dX4_lookAtWhole_94 ?_
          obtain ⟨q7, h_q7, hf⟩ := z_bd hf
          refine z_xi (va_runV (As := [.int (nI 7), .int (σ.1 50 2)]) (rest := []) ⟨hx, hb, hml, hown, hts⟩ (zcX4_refuse l g A σ τ N (nI 7) (σ.1 50 2) h_q7) (cwV 2 hts gX4_lookAtWhole_X4_refuse rfl rfl rfl hdX4_refuse ⟨by decide, by decide⟩) (z_preV E hh (by decide) (zC_obj (q := 50) rfl) rfl) rfl rfl hl.1 rfl (lv_room (Nat.le_of_ble_eq_true rfl)) dX4_lookAtWhole_97 ⟨Nat.le_refl _, Nat.le_refl _⟩) hh (fun H locs hh => ?_)
          refine lv_pop hx hb dX4_lookAtWhole_100 rfl ?_
          refine lv_goto (tgt := 125) hx hb dX4_lookAtWhole_101 (by decide) ?_
          have hf := Option.some.inj hf
          subst hf
          exact z_vretX hx hb hr hlocks hh dX4_lookAtWhole_125
    · have hf := z_ip hf c_v4
      exact (hX4_lookAtWhole_58 C E N) σ _ _ _ hf hh (lv_sub hl [1] rfl)
def fX4_lookAtWhole (N : Nat) (σ : zS)  : Option (zS) :=
  if (((σ.1 50 7) >>> ((nI 7) &&& 31)) &&& (nI 1)) = (nI 1) then
    (fX4_lookAtWhole_18 N) (nI 1) σ
  else
    (fX4_lookAtWhole_18 N) (nI 0) σ
set_option maxRecDepth 100000 in
set_option maxHeartbeats 4000000 in
theorem zcX4_lookAtWhole (l : Launch) (g : zG) (A : Nat → Prop) (σ τ : zS) (N : Nat)   {res : zS} (hf : fX4_lookAtWhole N σ = some res) : Met l yX4_lookAtWhole wsX4_lookAtWhole (zR 4) (zPc g A σ τ [.ref (g.2.2 50)]) (zQv g A τ res) 0 0 A := by
  refine z_met (cc := cX4_lookAtWhole) (ret := none) (own := RX4) (by decide) rfl rfl _ (Nat.le_of_ble_eq_true rfl) ?_
  intro p e s m below meth c C E ls hl hh
  have hl : lv_has ls 2 [(0, .ref (g.2.2 50))] := hl
  obtain ⟨hx, hb, hr, hml, hown, hts, hlocks⟩ := id C
  unfold fX4_lookAtWhole at hf
  refine lv_aload_n hx hb dX4_lookAtWhole_0 rfl (lv_at hl 0 rfl) ?_
  refine z_get (v := .int (σ.1 50 7)) hx hb hts (fun w h => List.mem_cons_of_mem _ (List.mem_append_left _ (List.mem_append_right _ (h)))) hown E hh (by decide) (zC_obj (q := 50) rfl) rfl 7 (by decide) (hts (.fieldLink RX4 42 "TownBand$Tape" "told" "I") (List.mem_cons_of_mem _ (List.mem_append_left _ (List.mem_append_left _ (List.mem_append_left _ (List.mem_of_getElem? (i := 0) rfl)))))) rfl dX4_lookAtWhole_1 ?_
  refine lv_bipush (v := (nI 7)) hx hb dX4_lookAtWhole_4 (by decide) ?_
  refine lv_ishr hx hb dX4_lookAtWhole_6 ?_
  refine lv_iconst (v := (nI 1)) hx hb dX4_lookAtWhole_7 (by decide) ?_
  refine lv_iand hx hb dX4_lookAtWhole_8 ?_
  refine lv_iconst (v := (nI 1)) hx hb dX4_lookAtWhole_9 (by decide) ?_
  refine lv_icmp_ne (tgt := 17) hx hb dX4_lookAtWhole_10 (by decide) (fun c_v1 => ?_) (fun c_v1 => ?_)
  · have hf := z_in hf c_v1
    refine lv_iconst (v := (nI 0)) hx hb dX4_lookAtWhole_17 (by decide) ?_
    exact (hX4_lookAtWhole_18 C E N) (nI 0) σ _ _ _ hf hh (lv_sub hl [0] rfl)
  · have hf := z_ip hf c_v1
    refine lv_iconst (v := (nI 1)) hx hb dX4_lookAtWhole_13 (by decide) ?_
    refine lv_goto (tgt := 18) hx hb dX4_lookAtWhole_14 (by decide) ?_
    exact (hX4_lookAtWhole_18 C E N) (nI 1) σ _ _ _ hf hh (lv_sub hl [0] rfl)
/-! ===== X4_tellAll ===== -/
theorem hdX4_tellAll : yX4_tellAll.cls = RX4 ∧ yX4_tellAll.cls ≠ "java/lang/invoke/MethodHandle" ∧ yX4_tellAll.cls ≠ "java/lang/invoke/VarHandle" ∧ (parseMethodDescriptor yX4_tellAll.desc).map (fun d => d.parameters.length) = some 0 := by decide +kernel
def PX4_tellAll_70 (p : Program) (l : Launch) (e : Env) (s : State) (m : MethodId) (args : Array Value) (below : List Frame) (meth : Method) (c : Code) (g : zG) (A : Nat → Prop) (τ : zS) (res : Int32 × zS) (f : Int32 → zS → Option (Int32 × zS)) : Prop := ∀ (x1 : Int32) (σ : zS) (H : Heap) (locs : List Loc) (ls : Array Slot), f x1 σ = some res → zW g A σ τ s H locs → lv_has ls 2 [(0, .ref (g.2.2 50)), (1, .int x1)] → W p l e (zR 7) s m args below meth c H locs 0 0 (MQ below (zQi g A τ res) args s 0 0 A) (F0 m 70 ls [])
def PX4_tellAll_59 (p : Program) (l : Launch) (e : Env) (s : State) (m : MethodId) (args : Array Value) (below : List Frame) (meth : Method) (c : Code) (g : zG) (A : Nat → Prop) (τ : zS) (res : Int32 × zS) (f : Int32 → zS → Option (Int32 × zS)) : Prop := ∀ (x1 : Int32) (σ : zS) (H : Heap) (locs : List Loc) (ls : Array Slot), f x1 σ = some res → zW g A σ τ s H locs → lv_has ls 2 [(0, .ref (g.2.2 50)), (1, .int x1)] → W p l e (zR 7) s m args below meth c H locs 0 0 (MQ below (zQi g A τ res) args s 0 0 A) (F0 m 59 ls [])
def PX4_tellAll_39 (p : Program) (l : Launch) (e : Env) (s : State) (m : MethodId) (args : Array Value) (below : List Frame) (meth : Method) (c : Code) (g : zG) (A : Nat → Prop) (τ : zS) (res : Int32 × zS) (f : Int32 → zS → Option (Int32 × zS)) : Prop := ∀ (x1 : Int32) (σ : zS) (H : Heap) (locs : List Loc) (ls : Array Slot), f x1 σ = some res → zW g A σ τ s H locs → lv_has ls 2 [(0, .ref (g.2.2 50)), (1, .int x1)] → W p l e (zR 7) s m args below meth c H locs 0 0 (MQ below (zQi g A τ res) args s 0 0 A) (F0 m 39 ls [])
def fX4_tellAll_70 (N : Nat) (x1 : Int32) (σ : zS) : Option (Int32 × zS) :=
  if (σ.1 50 9) = 0 then
    some (x1, σ)
  else
    some (((-10) - (σ.1 50 10)), σ)
set_option maxRecDepth 100000 in
set_option maxHeartbeats 4000000 in
theorem hX4_tellAll_70 {p : Program} {l : Launch} {e : Env} {s : State} {m : MethodId} {args : Array Value} {below : List Frame} {meth : Method} {c : Code} {g : zG} {A : Nat → Prop} {τ : zS} {res : Int32 × zS} (C : zCx p s m args meth c cX4_tellAll (some .int) wsX4_tellAll RX4 2) (E : zE g A s) (N : Nat) : PX4_tellAll_70 p l e s m args below meth c g A τ res (fX4_tellAll_70 N) := by
  obtain ⟨hx, hb, hr, hml, hown, hts, hlocks⟩ := id C
  intro x1 σ H locs ls hf hh hl
  unfold fX4_tellAll_70 at hf
  refine lv_aload_n hx hb dX4_tellAll_70 rfl (lv_at hl 0 rfl) ?_
  refine z_get (v := .int (σ.1 50 9)) hx hb hts (fun w h => List.mem_cons_of_mem _ (List.mem_append_left _ (List.mem_append_right _ (h)))) hown E hh (by decide) (zC_obj (q := 50) rfl) rfl 9 (by decide) (hts (.fieldLink RX4 26 "TownBand$Tape" "flaw" "I") (List.mem_cons_of_mem _ (List.mem_append_left _ (List.mem_append_left _ (List.mem_append_left _ (List.mem_of_getElem? (i := 4) rfl)))))) rfl dX4_tellAll_71 ?_
  refine lv_if_ne (tgt := 81) hx hb dX4_tellAll_74 (by decide) (fun c_v1 => ?_) (fun c_v1 => ?_)
  · have hf := z_in hf c_v1
    refine lv_bipush (v := (-10)) hx hb dX4_tellAll_81 (by decide) ?_
    refine lv_aload_n hx hb dX4_tellAll_83 rfl (lv_at hl 0 rfl) ?_
    refine z_get (v := .int (σ.1 50 10)) hx hb hts (fun w h => List.mem_cons_of_mem _ (List.mem_append_left _ (List.mem_append_right _ (h)))) hown E hh (by decide) (zC_obj (q := 50) rfl) rfl 10 (by decide) (hts (.fieldLink RX4 55 "TownBand$Tape" "flawPlace" "I") (List.mem_cons_of_mem _ (List.mem_append_left _ (List.mem_append_left _ (List.mem_append_left _ (List.mem_of_getElem? (i := 5) rfl)))))) rfl dX4_tellAll_84 ?_
    refine lv_isub hx hb dX4_tellAll_87 ?_
    have hf := Option.some.inj hf
    subst hf
    exact z_iretX hx hb hr hlocks hh dX4_tellAll_88
  · have hf := z_ip hf c_v1
    refine lv_iload_n hx hb dX4_tellAll_77 rfl (lv_at hl 1 rfl) ?_
    refine lv_goto (tgt := 88) hx hb dX4_tellAll_78 (by decide) ?_
    have hf := Option.some.inj hf
    subst hf
    exact z_iretX hx hb hr hlocks hh dX4_tellAll_88
def fX4_tellAll_59 (N : Nat) (x1 : Int32) (σ : zS) : Option (Int32 × zS) :=
  if (σ.1 50 9) = 0 then
    (fX4_lookAtWhole N σ).bind fun q2 =>
    (fX4_tellAll_70 N) x1 q2
  else
    (fX4_tellAll_70 N) x1 σ
set_option maxRecDepth 100000 in
set_option maxHeartbeats 4000000 in
theorem hX4_tellAll_59 {p : Program} {l : Launch} {e : Env} {s : State} {m : MethodId} {args : Array Value} {below : List Frame} {meth : Method} {c : Code} {g : zG} {A : Nat → Prop} {τ : zS} {res : Int32 × zS} (C : zCx p s m args meth c cX4_tellAll (some .int) wsX4_tellAll RX4 2) (E : zE g A s) (N : Nat) : PX4_tellAll_59 p l e s m args below meth c g A τ res (fX4_tellAll_59 N) := by
  obtain ⟨hx, hb, hr, hml, hown, hts, hlocks⟩ := id C
  intro x1 σ H locs ls hf hh hl
  unfold fX4_tellAll_59 at hf
  refine lv_aload_n hx hb dX4_tellAll_59 rfl (lv_at hl 0 rfl) ?_
  refine z_get (v := .int (σ.1 50 9)) hx hb hts (fun w h => List.mem_cons_of_mem _ (List.mem_append_left _ (List.mem_append_right _ (h)))) hown E hh (by decide) (zC_obj (q := 50) rfl) rfl 9 (by decide) (hts (.fieldLink RX4 26 "TownBand$Tape" "flaw" "I") (List.mem_cons_of_mem _ (List.mem_append_left _ (List.mem_append_left _ (List.mem_append_left _ (List.mem_of_getElem? (i := 4) rfl)))))) rfl dX4_tellAll_60 ?_
  refine lv_if_ne (tgt := 70) hx hb dX4_tellAll_63 (by decide) (fun c_v1 => ?_) (fun c_v1 => ?_)
  · have hf := z_in hf c_v1
    exact (hX4_tellAll_70 C E N) x1 σ _ _ _ hf hh (lv_sub hl [0, 1] rfl)
  · have hf := z_ip hf c_v1
    refine lv_aload_n hx hb dX4_tellAll_66 rfl (lv_at hl 0 rfl) ?_
    obtain ⟨q2, h_q2, hf⟩ := z_bd hf
    refine z_xv (va_runV (As := []) (rest := []) ⟨hx, hb, hml, hown, hts⟩ (zcX4_lookAtWhole l g A σ τ N  h_q2) (cwV 0 hts gX4_tellAll_X4_lookAtWhole rfl rfl rfl hdX4_lookAtWhole ⟨by decide, by decide⟩) (z_preV E hh (by decide) (zC_obj (q := 50) rfl) rfl) rfl rfl hl.1 rfl (lv_room (Nat.le_of_ble_eq_true rfl)) dX4_tellAll_67 ⟨Nat.le_refl _, Nat.le_refl _⟩) hh (fun H locs hh => ?_)
    exact (hX4_tellAll_70 C E N) x1 q2 _ _ _ hf hh (lv_sub hl [0, 1] rfl)
def fX4_tellAll_39 (N : Nat) (k_59 : Int32 → zS → Option (Int32 × zS)) : Nat → Int32 → zS → Option (Int32 × zS)
  | 0, _, _ => none
  | n + 1, x1, σ =>
    if (nI 160) < x1 then
      k_59 x1 σ
    else
      (fX4_takeLine N σ).bind fun q2 =>
      if q2.1 = 0 then
        k_59 x1 q2.2
      else
        (fX4_tellAll_39 N k_59 n) (x1 + (nI 1)) q2.2
set_option maxRecDepth 100000 in
set_option maxHeartbeats 4000000 in
theorem hX4_tellAll_39 {p : Program} {l : Launch} {e : Env} {s : State} {m : MethodId} {args : Array Value} {below : List Frame} {meth : Method} {c : Code} {g : zG} {A : Nat → Prop} {τ : zS} {res : Int32 × zS} (C : zCx p s m args meth c cX4_tellAll (some .int) wsX4_tellAll RX4 2) (E : zE g A s) (N : Nat) (k_59 : Int32 → zS → Option (Int32 × zS)) (hk_59 : PX4_tellAll_59 p l e s m args below meth c g A τ res k_59) : ∀ n : Nat, PX4_tellAll_39 p l e s m args below meth c g A τ res (fX4_tellAll_39 N k_59 n) := by
  obtain ⟨hx, hb, hr, hml, hown, hts, hlocks⟩ := id C
  intro n
  induction n with
  | zero =>
    intro x1 σ H locs ls hf
    exact absurd hf (by simp [fX4_tellAll_39])
  | succ n ih =>
    intro x1 σ H locs ls hf hh hl
    rw [fX4_tellAll_39] at hf
    refine lv_iload_n hx hb dX4_tellAll_39 rfl (lv_at hl 1 rfl) ?_
    refine lv_sipush (v := (nI 160)) hx hb dX4_tellAll_40 (by decide) ?_
    refine lv_icmp_gt (tgt := 59) hx hb dX4_tellAll_43 (by decide) (fun c_v1 => ?_) (fun c_v1 => ?_)
    · have hf := z_ip hf c_v1
      exact hk_59 x1 σ _ _ _ hf hh (lv_sub hl [0, 1] rfl)
    · have hf := z_in hf c_v1
      refine lv_aload_n hx hb dX4_tellAll_46 rfl (lv_at hl 0 rfl) ?_
      obtain ⟨q2, h_q2, hf⟩ := z_bd hf
      refine z_xi (va_runV (As := []) (rest := []) ⟨hx, hb, hml, hown, hts⟩ (zcX4_takeLine l g A σ τ N  h_q2) (cwV 0 hts gX4_tellAll_X4_takeLine rfl rfl rfl hdX4_takeLine ⟨by decide, by decide⟩) (z_preV E hh (by decide) (zC_obj (q := 50) rfl) rfl) rfl rfl hl.1 rfl (lv_room (Nat.le_of_ble_eq_true rfl)) dX4_tellAll_47 ⟨Nat.le_refl _, Nat.le_refl _⟩) hh (fun H locs hh => ?_)
      refine lv_if_eq (tgt := 59) hx hb dX4_tellAll_50 (by decide) (fun c_v3 => ?_) (fun c_v3 => ?_)
      · have hf := z_ip hf c_v3
        exact hk_59 x1 q2.2 _ _ _ hf hh (lv_sub hl [0, 1] rfl)
      · have hf := z_in hf c_v3
        refine lv_iinc (v := (x1 + (nI 1))) (lv' := [(1, .int (x1 + (nI 1))), (0, .ref (g.2.2 50))]) hx hb dX4_tellAll_53 hl (k := 1) rfl rfl (by decide) rfl (fun ls hl => ?_)
        refine lv_goto (tgt := 39) hx hb dX4_tellAll_56 (by decide) ?_
        exact ih (x1 + (nI 1)) q2.2 _ _ _ hf hh (lv_sub hl [1, 0] rfl)
def fX4_tellAll (N : Nat) (σ : zS)  : Option (Int32 × zS) :=
  (fX0_clear N σ 43).bind fun q1 =>
  (fX6_fillByOrder N q1 11).bind fun q2 =>
  zlet (zpf q2 50 3 (nI 0)) fun σ3 =>
  zlet (zpf σ3 50 7 (nI 0)) fun σ4 =>
  zlet (zpf σ4 50 8 (nI 0)) fun σ5 =>
  zlet (zpf σ5 50 9 (nI 0)) fun σ6 =>
  (fX4_tellAll_39 N (fX4_tellAll_59 N) N) (nI 0) σ6
set_option maxRecDepth 100000 in
set_option maxHeartbeats 4000000 in
theorem zcX4_tellAll (l : Launch) (g : zG) (A : Nat → Prop) (σ τ : zS) (N : Nat)   {res : Int32 × zS} (hf : fX4_tellAll N σ = some res) : Met l yX4_tellAll wsX4_tellAll (zR 7) (zPc g A σ τ [.ref (g.2.2 50)]) (zQi g A τ res) 0 0 A := by
  refine z_met (cc := cX4_tellAll) (ret := (some .int)) (own := RX4) (by decide) rfl rfl _ (Nat.le_of_ble_eq_true rfl) ?_
  intro p e s m below meth c C E ls hl hh
  have hl : lv_has ls 2 [(0, .ref (g.2.2 50))] := hl
  obtain ⟨hx, hb, hr, hml, hown, hts, hlocks⟩ := id C
  unfold fX4_tellAll at hf
  refine lv_aload_n hx hb dX4_tellAll_0 rfl (lv_at hl 0 rfl) ?_
  refine z_get (v := .ref (g.2.2 43)) hx hb hts (fun w h => List.mem_cons_of_mem _ (List.mem_append_left _ (List.mem_append_right _ (h)))) hown E hh (by decide) (zC_obj (q := 50) rfl) rfl 1 (by decide) (hts (.fieldLink RX4 18 "TownBand$Tape" "draft" "LTownBand$Band;") (List.mem_cons_of_mem _ (List.mem_append_left _ (List.mem_append_left _ (List.mem_append_left _ (List.mem_of_getElem? (i := 0) rfl)))))) rfl dX4_tellAll_1 ?_
  obtain ⟨q1, h_q1, hf⟩ := z_bd hf
  refine z_xv (va_runVN (As := []) (rest := []) ⟨hx, hb, hml, hown, hts⟩ (zcX0_clear l g A σ τ N 43 (by decide) (by decide) h_q1) ⟨va_cnB 0 hts gX4_tellAll_X0_clear_n29 rfl rfl rfl (zE_m E 8 rfl) (hts (.initialized RX0) (List.mem_cons_of_mem _ (List.mem_append_left _ (List.mem_append_left _ (List.mem_append_left _ (List.mem_of_getElem? (i := 7) rfl)))))) hdX0_clear.2 ⟨by decide, by decide⟩, (hts (.instanceMethod yX0_clear) (List.mem_cons_of_mem _ (List.mem_append_left _ (List.mem_append_left _ (List.mem_append_left _ (List.mem_of_getElem? (i := 6) rfl)))))), (hts (.selects RX0 yX0_clear yX0_clear) (List.mem_cons_of_mem _ (List.mem_append_left _ (List.mem_append_left _ (List.mem_append_left _ (List.mem_of_getElem? (i := 8) rfl))))))⟩ (z_preV E hh (by decide) (zC_band (by decide) (by decide)) rfl) rfl rfl hl.1 rfl (lv_room (Nat.le_of_ble_eq_true rfl)) dX4_tellAll_4 ⟨Nat.le_refl _, Nat.le_refl _⟩) hh (fun H locs hh => ?_)
  refine lv_aload_n hx hb dX4_tellAll_7 rfl (lv_at hl 0 rfl) ?_
  refine z_get (v := .ref (g.2.2 43)) hx hb hts (fun w h => List.mem_cons_of_mem _ (List.mem_append_left _ (List.mem_append_right _ (h)))) hown E hh (by decide) (zC_obj (q := 50) rfl) rfl 1 (by decide) (hts (.fieldLink RX4 18 "TownBand$Tape" "draft" "LTownBand$Band;") (List.mem_cons_of_mem _ (List.mem_append_left _ (List.mem_append_left _ (List.mem_append_left _ (List.mem_of_getElem? (i := 0) rfl)))))) rfl dX4_tellAll_8 ?_
  refine z_getN (v := .ref (g.2.2 11)) hx hb hts (fun w h => List.mem_cons_of_mem _ (List.mem_append_right _ (h))) hown E hh (by decide) (zC_band (by decide) (by decide)) rfl 5 (by decide) (zE_f E 12 rfl) rfl dX4_tellAll_11 ?_
  obtain ⟨q2, h_q2, hf⟩ := z_bd hf
  refine z_xv (va_runSN (As := [.ref (g.2.2 11)]) (rest := []) ⟨hx, hb, hml, hown, hts⟩ (zcX6_fillByOrder l g A q1 τ N 11 (by decide) h_q2) ⟨va_cnB 1 hts gX4_tellAll_X6_fillByOrder_n35 rfl rfl rfl (zE_m E 9 rfl) (hts (.initialized RX6) (List.mem_cons_of_mem _ (List.mem_append_left _ (List.mem_append_left _ (List.mem_append_left _ (List.mem_of_getElem? (i := 15) rfl)))))) hdX6_fillByOrder.2 ⟨by decide, by decide⟩, (hts (.static yX6_fillByOrder) (List.mem_cons_of_mem _ (List.mem_append_left _ (List.mem_append_left _ (List.mem_append_left _ (List.mem_of_getElem? (i := 14) rfl)))))), trivial⟩ (z_preS E hh) rfl rfl hl.1 rfl (lv_room (Nat.le_of_ble_eq_true rfl)) dX4_tellAll_14 ⟨Nat.le_refl _, Nat.le_refl _⟩) hh (fun H locs hh => ?_)
  refine lv_aload_n hx hb dX4_tellAll_17 rfl (lv_at hl 0 rfl) ?_
  refine lv_iconst (v := (nI 0)) hx hb dX4_tellAll_18 (by decide) ?_
  obtain ⟨σ3, e_σ3, hf⟩ := z_lt hf
  refine z_put hx hb hts (fun w h => List.mem_cons_of_mem _ (List.mem_append_left _ (List.mem_append_right _ (h)))) tyX4 tyX4_ok nmX4 hown E hh (by decide) (show zD 50 = _ from rfl) rfl 3 (by decide) rfl (hts (.fieldLink RX4 39 "TownBand$Tape" "place" "I") (List.mem_cons_of_mem _ (List.mem_append_left _ (List.mem_append_left _ (List.mem_append_left _ (List.mem_of_getElem? (i := 1) rfl)))))) rfl rfl e_σ3 dX4_tellAll_19 (fun H locs hh => ?_)
  refine lv_aload_n hx hb dX4_tellAll_22 rfl (lv_at hl 0 rfl) ?_
  refine lv_iconst (v := (nI 0)) hx hb dX4_tellAll_23 (by decide) ?_
  obtain ⟨σ4, e_σ4, hf⟩ := z_lt hf
  refine z_put hx hb hts (fun w h => List.mem_cons_of_mem _ (List.mem_append_left _ (List.mem_append_right _ (h)))) tyX4 tyX4_ok nmX4 hown E hh (by decide) (show zD 50 = _ from rfl) rfl 7 (by decide) rfl (hts (.fieldLink RX4 42 "TownBand$Tape" "told" "I") (List.mem_cons_of_mem _ (List.mem_append_left _ (List.mem_append_left _ (List.mem_append_left _ (List.mem_of_getElem? (i := 2) rfl)))))) rfl rfl e_σ4 dX4_tellAll_24 (fun H locs hh => ?_)
  refine lv_aload_n hx hb dX4_tellAll_27 rfl (lv_at hl 0 rfl) ?_
  refine lv_iconst (v := (nI 0)) hx hb dX4_tellAll_28 (by decide) ?_
  obtain ⟨σ5, e_σ5, hf⟩ := z_lt hf
  refine z_put hx hb hts (fun w h => List.mem_cons_of_mem _ (List.mem_append_left _ (List.mem_append_right _ (h)))) tyX4 tyX4_ok nmX4 hown E hh (by decide) (show zD 50 = _ from rfl) rfl 8 (by decide) rfl (hts (.fieldLink RX4 45 "TownBand$Tape" "bedsTold" "I") (List.mem_cons_of_mem _ (List.mem_append_left _ (List.mem_append_left _ (List.mem_append_left _ (List.mem_of_getElem? (i := 3) rfl)))))) rfl rfl e_σ5 dX4_tellAll_29 (fun H locs hh => ?_)
  refine lv_aload_n hx hb dX4_tellAll_32 rfl (lv_at hl 0 rfl) ?_
  refine lv_iconst (v := (nI 0)) hx hb dX4_tellAll_33 (by decide) ?_
  obtain ⟨σ6, e_σ6, hf⟩ := z_lt hf
  refine z_put hx hb hts (fun w h => List.mem_cons_of_mem _ (List.mem_append_left _ (List.mem_append_right _ (h)))) tyX4 tyX4_ok nmX4 hown E hh (by decide) (show zD 50 = _ from rfl) rfl 9 (by decide) rfl (hts (.fieldLink RX4 26 "TownBand$Tape" "flaw" "I") (List.mem_cons_of_mem _ (List.mem_append_left _ (List.mem_append_left _ (List.mem_append_left _ (List.mem_of_getElem? (i := 4) rfl)))))) rfl rfl e_σ6 dX4_tellAll_34 (fun H locs hh => ?_)
  refine lv_iconst (v := (nI 0)) hx hb dX4_tellAll_37 (by decide) ?_
  refine lv_istore_n (lv' := [(1, .int (nI 0)), (0, .ref (g.2.2 50))]) hx hb dX4_tellAll_38 rfl hl (by decide) rfl (fun ls hl => ?_)
  exact (hX4_tellAll_39 C E N (fX4_tellAll_59 N) (hX4_tellAll_59 C E N) N) (nI 0) σ6 _ _ _ hf hh (lv_sub hl [1, 0] rfl)

/-! ===== X3_renew ===== -/
theorem hdX3_renew : yX3_renew.cls = RX3 ∧ yX3_renew.cls ≠ "java/lang/invoke/MethodHandle" ∧ yX3_renew.cls ≠ "java/lang/invoke/VarHandle" ∧ (parseMethodDescriptor yX3_renew.desc).map (fun d => d.parameters.length) = some 2 := by decide +kernel
def PX3_renew_12 (p : Program) (l : Launch) (e : Env) (s : State) (m : MethodId) (args : Array Value) (below : List Frame) (meth : Method) (c : Code) (g : zG) (A : Nat → Prop) (τ : zS) (res : zS) (f : Nat → Int32 → zS → Option (zS)) : Prop := ∀ (b0 : Nat) (x3 : Int32) (h1_b0 : 46 ≤ b0) (h2_b0 : b0 < 50) (σ : zS) (H : Heap) (locs : List Loc) (ls : Array Slot), f b0 x3 σ = some res → zW g A σ τ s H locs → lv_has ls 4 [(0, .ref (g.2.2 b0)), (3, .int x3)] → W p l e (zR 0) s m args below meth c H locs 0 0 (MQ below (zQv g A τ res) args s 0 0 A) (F0 m 12 ls [])
def fX3_renew_12 (N : Nat) : Nat → Nat → Int32 → zS → Option (zS)
  | 0, _, _, _ => none
  | n + 1, b0, x3, σ =>
    if (nI 40) ≤ x3 then
      some σ
    else
      if zin x3 (zlen (zsa b0)) then
      zlet (zpa σ (zsa b0) (upd (σ.2 (zsa b0)) x3.toNatClampNeg (nI 0))) fun σ3 =>
      (fX3_renew_12 N n) b0 (x3 + (nI 1)) σ3
      else none
set_option maxRecDepth 100000 in
set_option maxHeartbeats 4000000 in
theorem hX3_renew_12 {p : Program} {l : Launch} {e : Env} {s : State} {m : MethodId} {args : Array Value} {below : List Frame} {meth : Method} {c : Code} {g : zG} {A : Nat → Prop} {τ : zS} {res : zS} (C : zCx p s m args meth c cX3_renew none wsX3_renew RX3 4) (E : zE g A s) (N : Nat) : ∀ n : Nat, PX3_renew_12 p l e s m args below meth c g A τ res (fX3_renew_12 N n) := by
  obtain ⟨hx, hb, hr, hml, hown, hts, hlocks⟩ := id C
  intro n
  induction n with
  | zero =>
    intro b0 x3 h1_b0 h2_b0 σ H locs ls hf
    exact absurd hf (by simp [fX3_renew_12])
  | succ n ih =>
    intro b0 x3 h1_b0 h2_b0 σ H locs ls hf hh hl
    rw [fX3_renew_12] at hf
    refine lv_iload_n hx hb dX3_renew_12 rfl (lv_at hl 1 rfl) ?_
    refine lv_bipush (v := (nI 40)) hx hb dX3_renew_13 (by decide) ?_
    refine lv_icmp_ge (tgt := 31) hx hb dX3_renew_15 (by decide) (fun c_v1 => ?_) (fun c_v1 => ?_)
    · have hf := z_ip hf c_v1
      have hf := Option.some.inj hf
      subst hf
      exact z_vretX hx hb hr hlocks hh dX3_renew_31
    · have hf := z_in hf c_v1
      refine lv_aload_n hx hb dX3_renew_18 rfl (lv_at hl 0 rfl) ?_
      refine z_get (v := .ref (g.2.2 (zsa b0))) hx hb hts (fun w h => List.mem_cons_of_mem _ (List.mem_append_right _ (h))) hown E hh (Nat.lt_trans (m := 50) h2_b0 (by decide)) (zC_sheet h1_b0 h2_b0) rfl 0 (by decide) (hts (.fieldLink RX3 9 "TownBand$Sheet" "cells" "[I") (List.mem_cons_of_mem _ (List.mem_append_left _ (List.mem_of_getElem? (i := 2) rfl)))) rfl dX3_renew_19 ?_
      refine lv_iload_n hx hb dX3_renew_22 rfl (lv_at hl 1 rfl) ?_
      refine lv_iconst (v := (nI 0)) hx hb dX3_renew_23 (by decide) ?_
      obtain ⟨h_v2, hf⟩ := z_if hf
      obtain ⟨σ3, e_σ3, hf⟩ := z_lt hf
      refine z_iast hx hb E hh (zsa_lt h1_b0 h2_b0) h_v2 e_σ3 dX3_renew_24 (fun H locs hh => ?_)
      refine lv_iinc (v := (x3 + (nI 1))) (lv' := [(3, .int (x3 + (nI 1))), (0, .ref (g.2.2 b0))]) hx hb dX3_renew_25 hl (k := 1) rfl rfl (by decide) rfl (fun ls hl => ?_)
      refine lv_goto (tgt := 12) hx hb dX3_renew_28 (by decide) ?_
      exact ih b0 (x3 + (nI 1)) h1_b0 h2_b0 σ3 _ _ _ hf hh (lv_sub hl [1, 0] rfl)
def fX3_renew (N : Nat) (σ : zS) (b0 : Nat) (x1 : Int32) (x2 : Int32) : Option (zS) :=
  zlet (zpf σ b0 1 x1) fun σ1 =>
  zlet (zpf σ1 b0 2 x2) fun σ2 =>
  (fX3_renew_12 N N) b0 (nI 0) σ2
set_option maxRecDepth 100000 in
set_option maxHeartbeats 4000000 in
theorem zcX3_renew (l : Launch) (g : zG) (A : Nat → Prop) (σ τ : zS) (N : Nat) (b0 : Nat) (x1 : Int32) (x2 : Int32) (h1_b0 : 46 ≤ b0) (h2_b0 : b0 < 50) {res : zS} (hf : fX3_renew N σ b0 x1 x2 = some res) : Met l yX3_renew wsX3_renew (zR 0) (zPc g A σ τ [.ref (g.2.2 b0), .int x1, .int x2]) (zQv g A τ res) 0 0 A := by
  refine z_met (cc := cX3_renew) (ret := none) (own := RX3) (by decide) rfl rfl _ (Nat.le_of_ble_eq_true rfl) ?_
  intro p e s m below meth c C E ls hl hh
  have hl : lv_has ls 4 [(0, .ref (g.2.2 b0)), (1, .int x1), (2, .int x2)] := hl
  obtain ⟨hx, hb, hr, hml, hown, hts, hlocks⟩ := id C
  unfold fX3_renew at hf
  refine lv_aload_n hx hb dX3_renew_0 rfl (lv_at hl 0 rfl) ?_
  refine lv_iload_n hx hb dX3_renew_1 rfl (lv_at hl 1 rfl) ?_
  obtain ⟨σ1, e_σ1, hf⟩ := z_lt hf
  refine z_put hx hb hts (fun w h => List.mem_cons_of_mem _ (List.mem_append_right _ (h))) tyX3 tyX3_ok nmX3 hown E hh (Nat.lt_trans (m := 50) h2_b0 (by decide)) (zD_sheet h1_b0 h2_b0) rfl 1 (by decide) rfl (hts (.fieldLink RX3 15 "TownBand$Sheet" "lane" "I") (List.mem_cons_of_mem _ (List.mem_append_left _ (List.mem_of_getElem? (i := 0) rfl)))) rfl rfl e_σ1 dX3_renew_2 (fun H locs hh => ?_)
  refine lv_aload_n hx hb dX3_renew_5 rfl (lv_at hl 0 rfl) ?_
  refine lv_iload_n hx hb dX3_renew_6 rfl (lv_at hl 2 rfl) ?_
  obtain ⟨σ2, e_σ2, hf⟩ := z_lt hf
  refine z_put hx hb hts (fun w h => List.mem_cons_of_mem _ (List.mem_append_right _ (h))) tyX3 tyX3_ok nmX3 hown E hh (Nat.lt_trans (m := 50) h2_b0 (by decide)) (zD_sheet h1_b0 h2_b0) rfl 2 (by decide) rfl (hts (.fieldLink RX3 19 "TownBand$Sheet" "size" "I") (List.mem_cons_of_mem _ (List.mem_append_left _ (List.mem_of_getElem? (i := 1) rfl)))) rfl rfl e_σ2 dX3_renew_7 (fun H locs hh => ?_)
  refine lv_iconst (v := (nI 0)) hx hb dX3_renew_10 (by decide) ?_
  refine lv_istore_n (lv' := [(3, .int (nI 0)), (0, .ref (g.2.2 b0)), (1, .int x1), (2, .int x2)]) hx hb dX3_renew_11 rfl hl (by decide) rfl (fun ls hl => ?_)
  exact (hX3_renew_12 C E N N) b0 (nI 0) h1_b0 h2_b0 σ2 _ _ _ hf hh (lv_sub hl [1, 0] rfl)
/-! ===== X3_faultAt ===== -/
theorem hdX3_faultAt : yX3_faultAt.cls = RX3 ∧ yX3_faultAt.cls ≠ "java/lang/invoke/MethodHandle" ∧ yX3_faultAt.cls ≠ "java/lang/invoke/VarHandle" ∧ (parseMethodDescriptor yX3_faultAt.desc).map (fun d => d.parameters.length) = some 1 := by decide +kernel
def fX3_faultAt (N : Nat) (σ : zS) (b0 : Nat) (x1 : Int32) : Option (Int32) :=
  if (σ.1 b0 1) = (-1) then
    some (nI 1)
  else
    (fX6_within N x1 (nI 0) ((σ.1 b0 2) - (nI 1))).bind fun q2 =>
    if q2 = 0 then
      some (nI 2)
    else
      some (nI 0)
set_option maxRecDepth 100000 in
set_option maxHeartbeats 4000000 in
theorem zcX3_faultAt (l : Launch) (g : zG) (A : Nat → Prop) (σ τ : zS) (N : Nat) (b0 : Nat) (x1 : Int32) (h1_b0 : 46 ≤ b0) (h2_b0 : b0 < 50) {res : Int32} (hf : fX3_faultAt N σ b0 x1 = some res) : Met l yX3_faultAt wsX3_faultAt (zR 1) (zPc g A σ τ [.ref (g.2.2 b0), .int x1]) (zQi g A τ (res, σ)) 0 0 A := by
  refine z_met (cc := cX3_faultAt) (ret := (some .int)) (own := RX3) (by decide) rfl rfl _ (Nat.le_of_ble_eq_true rfl) ?_
  intro p e s m below meth c C E ls hl hh
  have hl : lv_has ls 2 [(0, .ref (g.2.2 b0)), (1, .int x1)] := hl
  obtain ⟨hx, hb, hr, hml, hown, hts, hlocks⟩ := id C
  unfold fX3_faultAt at hf
  refine lv_aload_n hx hb dX3_faultAt_0 rfl (lv_at hl 0 rfl) ?_
  refine z_get (v := .int (σ.1 b0 1)) hx hb hts (fun w h => List.mem_cons_of_mem _ (List.mem_append_right _ (h))) hown E hh (Nat.lt_trans (m := 50) h2_b0 (by decide)) (zC_sheet h1_b0 h2_b0) rfl 1 (by decide) (hts (.fieldLink RX3 15 "TownBand$Sheet" "lane" "I") (List.mem_cons_of_mem _ (List.mem_append_left _ (List.mem_of_getElem? (i := 0) rfl)))) rfl dX3_faultAt_1 ?_
  refine lv_iconst (v := (-1)) hx hb dX3_faultAt_4 (by decide) ?_
  refine lv_icmp_ne (tgt := 10) hx hb dX3_faultAt_5 (by decide) (fun c_v1 => ?_) (fun c_v1 => ?_)
  · have hf := z_in hf c_v1
    refine lv_iload_n hx hb dX3_faultAt_10 rfl (lv_at hl 1 rfl) ?_
    refine lv_iconst (v := (nI 0)) hx hb dX3_faultAt_11 (by decide) ?_
    refine lv_aload_n hx hb dX3_faultAt_12 rfl (lv_at hl 0 rfl) ?_
    refine z_get (v := .int (σ.1 b0 2)) hx hb hts (fun w h => List.mem_cons_of_mem _ (List.mem_append_right _ (h))) hown E hh (Nat.lt_trans (m := 50) h2_b0 (by decide)) (zC_sheet h1_b0 h2_b0) rfl 2 (by decide) (hts (.fieldLink RX3 19 "TownBand$Sheet" "size" "I") (List.mem_cons_of_mem _ (List.mem_append_left _ (List.mem_of_getElem? (i := 1) rfl)))) rfl dX3_faultAt_13 ?_
    refine lv_iconst (v := (nI 1)) hx hb dX3_faultAt_16 (by decide) ?_
    refine lv_isub hx hb dX3_faultAt_17 ?_
    obtain ⟨q2, h_q2, hf⟩ := z_bd hf
    refine z_xi (va_runSN (As := [.int x1, .int (nI 0), .int ((σ.1 b0 2) - (nI 1))]) (rest := []) ⟨hx, hb, hml, hown, hts⟩ (zcX6_within l g A σ τ N x1 (nI 0) ((σ.1 b0 2) - (nI 1)) h_q2) ⟨va_cnB 3 hts gX3_faultAt_X6_within_n26 rfl rfl rfl (zE_m E 43 rfl) (hts (.initialized RX6) (List.mem_cons_of_mem _ (List.mem_append_left _ (List.mem_of_getElem? (i := 3) rfl)))) hdX6_within.2 ⟨by decide, by decide⟩, (hts (.static yX6_within) (List.mem_cons_of_mem _ (List.mem_append_left _ (List.mem_of_getElem? (i := 2) rfl)))), trivial⟩ (z_preS E hh) rfl rfl hl.1 rfl (lv_room (Nat.le_of_ble_eq_true rfl)) dX3_faultAt_18 ⟨Nat.le_refl _, Nat.le_refl _⟩) hh (fun H locs hh => ?_)
    refine lv_if_eq (tgt := 28) hx hb dX3_faultAt_21 (by decide) (fun c_v3 => ?_) (fun c_v3 => ?_)
    · have hf := z_ip hf c_v3
      refine lv_iconst (v := (nI 2)) hx hb dX3_faultAt_28 (by decide) ?_
      have hf := Option.some.inj hf
      subst hf
      exact z_iretX hx hb hr hlocks hh dX3_faultAt_29
    · have hf := z_in hf c_v3
      refine lv_iconst (v := (nI 0)) hx hb dX3_faultAt_24 (by decide) ?_
      refine lv_goto (tgt := 29) hx hb dX3_faultAt_25 (by decide) ?_
      have hf := Option.some.inj hf
      subst hf
      exact z_iretX hx hb hr hlocks hh dX3_faultAt_29
  · have hf := z_ip hf c_v1
    refine lv_iconst (v := (nI 1)) hx hb dX3_faultAt_8 (by decide) ?_
    have hf := Option.some.inj hf
    subst hf
    exact z_iretX hx hb hr hlocks hh dX3_faultAt_9
/-! ===== X3_faultAs ===== -/
theorem hdX3_faultAs : yX3_faultAs.cls = RX3 ∧ yX3_faultAs.cls ≠ "java/lang/invoke/MethodHandle" ∧ yX3_faultAs.cls ≠ "java/lang/invoke/VarHandle" ∧ (parseMethodDescriptor yX3_faultAs.desc).map (fun d => d.parameters.length) = some 2 := by decide +kernel
def PX3_faultAs_16 (p : Program) (l : Launch) (e : Env) (s : State) (m : MethodId) (args : Array Value) (below : List Frame) (meth : Method) (c : Code) (g : zG) (A : Nat → Prop) (σ τ : zS) (res : Int32) (f : Nat → Int32 → Option (Int32)) : Prop := ∀ (b0 : Nat) (x2 : Int32) (h1_b0 : 46 ≤ b0) (h2_b0 : b0 < 50) (H : Heap) (locs : List Loc) (ls : Array Slot), f b0 x2 = some res → zW g A σ τ s H locs → lv_has ls 3 [(0, .ref (g.2.2 b0)), (2, .int x2)] → W p l e (zR 2) s m args below meth c H locs 0 0 (MQ below (zQi g A τ (res, σ)) args s 0 0 A) (F0 m 16 ls [])
def fX3_faultAs_16 (N : Nat) (σ : zS) (b0 : Nat) (x2 : Int32) : Option (Int32) :=
  (fX3_faultAt N σ b0 x2).bind fun q1 =>
  some q1
set_option maxRecDepth 100000 in
set_option maxHeartbeats 4000000 in
theorem hX3_faultAs_16 {p : Program} {l : Launch} {e : Env} {s : State} {m : MethodId} {args : Array Value} {below : List Frame} {meth : Method} {c : Code} {g : zG} {A : Nat → Prop} {σ τ : zS} {res : Int32} (C : zCx p s m args meth c cX3_faultAs (some .int) wsX3_faultAs RX3 3) (E : zE g A s) (N : Nat) : PX3_faultAs_16 p l e s m args below meth c g A σ τ res (fX3_faultAs_16 N σ) := by
  obtain ⟨hx, hb, hr, hml, hown, hts, hlocks⟩ := id C
  intro b0 x2 h1_b0 h2_b0 H locs ls hf hh hl
  unfold fX3_faultAs_16 at hf
  refine lv_aload_n hx hb dX3_faultAs_16 rfl (lv_at hl 0 rfl) ?_
  refine lv_iload_n hx hb dX3_faultAs_17 rfl (lv_at hl 1 rfl) ?_
  obtain ⟨q1, h_q1, hf⟩ := z_bd hf
  refine z_xi (va_runV (As := [.int x2]) (rest := []) ⟨hx, hb, hml, hown, hts⟩ (zcX3_faultAt l g A σ τ N b0 x2 h1_b0 h2_b0 h_q1) (cwV 1 hts gX3_faultAs_X3_faultAt rfl rfl rfl hdX3_faultAt ⟨by decide, by decide⟩) (z_preV E hh (Nat.lt_trans (m := 50) h2_b0 (by decide)) (zC_sheet h1_b0 h2_b0) rfl) rfl rfl hl.1 rfl (lv_room (Nat.le_of_ble_eq_true rfl)) dX3_faultAs_18 ⟨Nat.le_refl _, Nat.le_refl _⟩) hh (fun H locs hh => ?_)
  refine lv_goto (tgt := 25) hx hb dX3_faultAs_21 (by decide) ?_
  have hf := Option.some.inj hf
  subst hf
  exact z_iretX hx hb hr hlocks hh dX3_faultAs_25
def fX3_faultAs (N : Nat) (σ : zS) (b0 : Nat) (x1 : Int32) (x2 : Int32) : Option (Int32) :=
  if (σ.1 b0 1) = (-1) then
    (fX3_faultAs_16 N σ) b0 x2
  else
    if (σ.1 b0 1) = x1 then
      (fX3_faultAs_16 N σ) b0 x2
    else
      some (nI 3)
set_option maxRecDepth 100000 in
set_option maxHeartbeats 4000000 in
theorem zcX3_faultAs (l : Launch) (g : zG) (A : Nat → Prop) (σ τ : zS) (N : Nat) (b0 : Nat) (x1 : Int32) (x2 : Int32) (h1_b0 : 46 ≤ b0) (h2_b0 : b0 < 50) {res : Int32} (hf : fX3_faultAs N σ b0 x1 x2 = some res) : Met l yX3_faultAs wsX3_faultAs (zR 2) (zPc g A σ τ [.ref (g.2.2 b0), .int x1, .int x2]) (zQi g A τ (res, σ)) 0 0 A := by
  refine z_met (cc := cX3_faultAs) (ret := (some .int)) (own := RX3) (by decide) rfl rfl _ (Nat.le_of_ble_eq_true rfl) ?_
  intro p e s m below meth c C E ls hl hh
  have hl : lv_has ls 3 [(0, .ref (g.2.2 b0)), (1, .int x1), (2, .int x2)] := hl
  obtain ⟨hx, hb, hr, hml, hown, hts, hlocks⟩ := id C
  unfold fX3_faultAs at hf
  refine lv_aload_n hx hb dX3_faultAs_0 rfl (lv_at hl 0 rfl) ?_
  refine z_get (v := .int (σ.1 b0 1)) hx hb hts (fun w h => List.mem_cons_of_mem _ (List.mem_append_right _ (h))) hown E hh (Nat.lt_trans (m := 50) h2_b0 (by decide)) (zC_sheet h1_b0 h2_b0) rfl 1 (by decide) (hts (.fieldLink RX3 15 "TownBand$Sheet" "lane" "I") (List.mem_cons_of_mem _ (List.mem_append_left _ (List.mem_of_getElem? (i := 0) rfl)))) rfl dX3_faultAs_1 ?_
  refine lv_iconst (v := (-1)) hx hb dX3_faultAs_4 (by decide) ?_
  refine lv_icmp_eq (tgt := 16) hx hb dX3_faultAs_5 (by decide) (fun c_v1 => ?_) (fun c_v1 => ?_)
  · have hf := z_ip hf c_v1
    exact (hX3_faultAs_16 C E N) b0 x2 h1_b0 h2_b0 _ _ _ hf hh (lv_sub hl [0, 2] rfl)
  · have hf := z_in hf c_v1
    refine lv_aload_n hx hb dX3_faultAs_8 rfl (lv_at hl 0 rfl) ?_
    refine z_get (v := .int (σ.1 b0 1)) hx hb hts (fun w h => List.mem_cons_of_mem _ (List.mem_append_right _ (h))) hown E hh (Nat.lt_trans (m := 50) h2_b0 (by decide)) (zC_sheet h1_b0 h2_b0) rfl 1 (by decide) (hts (.fieldLink RX3 15 "TownBand$Sheet" "lane" "I") (List.mem_cons_of_mem _ (List.mem_append_left _ (List.mem_of_getElem? (i := 0) rfl)))) rfl dX3_faultAs_9 ?_
    refine lv_iload_n hx hb dX3_faultAs_12 rfl (lv_at hl 1 rfl) ?_
    refine lv_icmp_ne (tgt := 24) hx hb dX3_faultAs_13 (by decide) (fun c_v2 => ?_) (fun c_v2 => ?_)
    · have hf := z_in hf c_v2
      refine lv_iconst (v := (nI 3)) hx hb dX3_faultAs_24 (by decide) ?_
      have hf := Option.some.inj hf
      subst hf
      exact z_iretX hx hb hr hlocks hh dX3_faultAs_25
    · have hf := z_ip hf c_v2
      exact (hX3_faultAs_16 C E N) b0 x2 h1_b0 h2_b0 _ _ _ hf hh (lv_sub hl [0, 2] rfl)
/-! ===== X3_put ===== -/
theorem hdX3_put : yX3_put.cls = RX3 ∧ yX3_put.cls ≠ "java/lang/invoke/MethodHandle" ∧ yX3_put.cls ≠ "java/lang/invoke/VarHandle" ∧ (parseMethodDescriptor yX3_put.desc).map (fun d => d.parameters.length) = some 2 := by decide +kernel
def fX3_put (N : Nat) (σ : zS) (b0 : Nat) (x1 : Int32) (x2 : Int32) : Option (zS) :=
  if (σ.1 b0 1) = 0 then
    if zin x1 (zlen (zsa b0)) then
    zlet (zpa σ (zsa b0) (upd (σ.2 (zsa b0)) x1.toNatClampNeg (x2.toInt8.toInt32))) fun σ8 =>
    some σ8
    else none
  else
    if (σ.1 b0 1) = (nI 1) then
      if zin x1 (zlen (zsa b0)) then
      zlet (zpa σ (zsa b0) (upd (σ.2 (zsa b0)) x1.toNatClampNeg (x2.toInt16.toInt32))) fun σ6 =>
      some σ6
      else none
    else
      if zin x1 (zlen (zsa b0)) then
      zlet (zpa σ (zsa b0) (upd (σ.2 (zsa b0)) x1.toNatClampNeg x2)) fun σ4 =>
      some σ4
      else none
set_option maxRecDepth 100000 in
set_option maxHeartbeats 4000000 in
theorem zcX3_put (l : Launch) (g : zG) (A : Nat → Prop) (σ τ : zS) (N : Nat) (b0 : Nat) (x1 : Int32) (x2 : Int32) (h1_b0 : 46 ≤ b0) (h2_b0 : b0 < 50) {res : zS} (hf : fX3_put N σ b0 x1 x2 = some res) : Met l yX3_put wsX3_put (zR 0) (zPc g A σ τ [.ref (g.2.2 b0), .int x1, .int x2]) (zQv g A τ res) 0 0 A := by
  refine z_met (cc := cX3_put) (ret := none) (own := RX3) (by decide) rfl rfl _ (Nat.le_of_ble_eq_true rfl) ?_
  intro p e s m below meth c C E ls hl hh
  have hl : lv_has ls 3 [(0, .ref (g.2.2 b0)), (1, .int x1), (2, .int x2)] := hl
  obtain ⟨hx, hb, hr, hml, hown, hts, hlocks⟩ := id C
  unfold fX3_put at hf
  refine lv_aload_n hx hb dX3_put_0 rfl (lv_at hl 0 rfl) ?_
  refine z_get (v := .int (σ.1 b0 1)) hx hb hts (fun w h => List.mem_cons_of_mem _ (List.mem_append_right _ (h))) hown E hh (Nat.lt_trans (m := 50) h2_b0 (by decide)) (zC_sheet h1_b0 h2_b0) rfl 1 (by decide) (hts (.fieldLink RX3 15 "TownBand$Sheet" "lane" "I") (List.mem_cons_of_mem _ (List.mem_append_left _ (List.mem_of_getElem? (i := 0) rfl)))) rfl dX3_put_1 ?_
  refine lv_if_ne (tgt := 18) hx hb dX3_put_4 (by decide) (fun c_v1 => ?_) (fun c_v1 => ?_)
  · have hf := z_in hf c_v1
    refine lv_aload_n hx hb dX3_put_18 rfl (lv_at hl 0 rfl) ?_
    refine z_get (v := .int (σ.1 b0 1)) hx hb hts (fun w h => List.mem_cons_of_mem _ (List.mem_append_right _ (h))) hown E hh (Nat.lt_trans (m := 50) h2_b0 (by decide)) (zC_sheet h1_b0 h2_b0) rfl 1 (by decide) (hts (.fieldLink RX3 15 "TownBand$Sheet" "lane" "I") (List.mem_cons_of_mem _ (List.mem_append_left _ (List.mem_of_getElem? (i := 0) rfl)))) rfl dX3_put_19 ?_
    refine lv_iconst (v := (nI 1)) hx hb dX3_put_22 (by decide) ?_
    refine lv_icmp_ne (tgt := 37) hx hb dX3_put_23 (by decide) (fun c_v2 => ?_) (fun c_v2 => ?_)
    · have hf := z_in hf c_v2
      refine lv_aload_n hx hb dX3_put_37 rfl (lv_at hl 0 rfl) ?_
      refine z_get (v := .ref (g.2.2 (zsa b0))) hx hb hts (fun w h => List.mem_cons_of_mem _ (List.mem_append_right _ (h))) hown E hh (Nat.lt_trans (m := 50) h2_b0 (by decide)) (zC_sheet h1_b0 h2_b0) rfl 0 (by decide) (hts (.fieldLink RX3 9 "TownBand$Sheet" "cells" "[I") (List.mem_cons_of_mem _ (List.mem_append_left _ (List.mem_of_getElem? (i := 1) rfl)))) rfl dX3_put_38 ?_
      refine lv_iload_n hx hb dX3_put_41 rfl (lv_at hl 1 rfl) ?_
      refine lv_iload_n hx hb dX3_put_42 rfl (lv_at hl 2 rfl) ?_
      obtain ⟨h_v3, hf⟩ := z_if hf
      obtain ⟨σ4, e_σ4, hf⟩ := z_lt hf
      refine z_iast hx hb E hh (zsa_lt h1_b0 h2_b0) h_v3 e_σ4 dX3_put_43 (fun H locs hh => ?_)
      have hf := Option.some.inj hf
      subst hf
      exact z_vretX hx hb hr hlocks hh dX3_put_44
    · have hf := z_ip hf c_v2
      refine lv_aload_n hx hb dX3_put_26 rfl (lv_at hl 0 rfl) ?_
      refine z_get (v := .ref (g.2.2 (zsa b0))) hx hb hts (fun w h => List.mem_cons_of_mem _ (List.mem_append_right _ (h))) hown E hh (Nat.lt_trans (m := 50) h2_b0 (by decide)) (zC_sheet h1_b0 h2_b0) rfl 0 (by decide) (hts (.fieldLink RX3 9 "TownBand$Sheet" "cells" "[I") (List.mem_cons_of_mem _ (List.mem_append_left _ (List.mem_of_getElem? (i := 1) rfl)))) rfl dX3_put_27 ?_
      refine lv_iload_n hx hb dX3_put_30 rfl (lv_at hl 1 rfl) ?_
      refine lv_iload_n hx hb dX3_put_31 rfl (lv_at hl 2 rfl) ?_
      refine lv_i2s hx hb dX3_put_32 rfl ?_
      obtain ⟨h_v5, hf⟩ := z_if hf
      obtain ⟨σ6, e_σ6, hf⟩ := z_lt hf
      refine z_iast hx hb E hh (zsa_lt h1_b0 h2_b0) h_v5 e_σ6 dX3_put_33 (fun H locs hh => ?_)
      refine lv_goto (tgt := 44) hx hb dX3_put_34 (by decide) ?_
      have hf := Option.some.inj hf
      subst hf
      exact z_vretX hx hb hr hlocks hh dX3_put_44
  · have hf := z_ip hf c_v1
    refine lv_aload_n hx hb dX3_put_7 rfl (lv_at hl 0 rfl) ?_
    refine z_get (v := .ref (g.2.2 (zsa b0))) hx hb hts (fun w h => List.mem_cons_of_mem _ (List.mem_append_right _ (h))) hown E hh (Nat.lt_trans (m := 50) h2_b0 (by decide)) (zC_sheet h1_b0 h2_b0) rfl 0 (by decide) (hts (.fieldLink RX3 9 "TownBand$Sheet" "cells" "[I") (List.mem_cons_of_mem _ (List.mem_append_left _ (List.mem_of_getElem? (i := 1) rfl)))) rfl dX3_put_8 ?_
    refine lv_iload_n hx hb dX3_put_11 rfl (lv_at hl 1 rfl) ?_
    refine lv_iload_n hx hb dX3_put_12 rfl (lv_at hl 2 rfl) ?_
    refine lv_i2b hx hb dX3_put_13 rfl ?_
    obtain ⟨h_v7, hf⟩ := z_if hf
    obtain ⟨σ8, e_σ8, hf⟩ := z_lt hf
    refine z_iast hx hb E hh (zsa_lt h1_b0 h2_b0) h_v7 e_σ8 dX3_put_14 (fun H locs hh => ?_)
    refine lv_goto (tgt := 44) hx hb dX3_put_15 (by decide) ?_
    have hf := Option.some.inj hf
    subst hf
    exact z_vretX hx hb hr hlocks hh dX3_put_44

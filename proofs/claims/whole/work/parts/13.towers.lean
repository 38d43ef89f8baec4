/-! ===== X5_weigh ===== -/
theorem hdX5_weigh : yX5_weigh.cls = RX5 ∧ yX5_weigh.cls ≠ "java/lang/invoke/MethodHandle" ∧ yX5_weigh.cls ≠ "java/lang/invoke/VarHandle" ∧ (parseMethodDescriptor yX5_weigh.desc).map (fun d => d.parameters.length) = some 4 := by decide +kernel
def PX5_weigh_118 (p : Program) (l : Launch) (e : Env) (s : State) (m : MethodId) (args : Array Value) (below : List Frame) (meth : Method) (c : Code) (g : zG) (A : Nat → Prop) (τ : zS) (res : zS) (f : Int32 → Int32 → Int32 → zS → Option (zS)) : Prop := ∀ (x3 : Int32) (x5 : Int32) (x7 : Int32) (σ : zS) (H : Heap) (locs : List Loc) (ls : Array Slot), f x3 x5 x7 σ = some res → zW g A σ τ s H locs → lv_has ls 8 [(0, .ref (g.2.2 52)), (3, .int x3), (5, .int x5), (7, .int x7)] → W p l e (zR 1) s m args below meth c H locs 0 0 (MQ below (zQv g A τ res) args s 0 0 A) (F0 m 118 ls [])
def PX5_weigh_92 (p : Program) (l : Launch) (e : Env) (s : State) (m : MethodId) (args : Array Value) (below : List Frame) (meth : Method) (c : Code) (g : zG) (A : Nat → Prop) (τ : zS) (res : zS) (f : Int32 → Int32 → Int32 → zS → Option (zS)) : Prop := ∀ (x3 : Int32) (x5 : Int32) (x7 : Int32) (σ : zS) (H : Heap) (locs : List Loc) (ls : Array Slot), f x3 x5 x7 σ = some res → zW g A σ τ s H locs → lv_has ls 8 [(0, .ref (g.2.2 52)), (3, .int x3), (5, .int x5), (7, .int x7)] → W p l e (zR 1) s m args below meth c H locs 0 0 (MQ below (zQv g A τ res) args s 0 0 A) (F0 m 92 ls [])
def PX5_weigh_78 (p : Program) (l : Launch) (e : Env) (s : State) (m : MethodId) (args : Array Value) (below : List Frame) (meth : Method) (c : Code) (g : zG) (A : Nat → Prop) (τ : zS) (res : zS) (f : Int32 → Int32 → Int32 → zS → Option (zS)) : Prop := ∀ (x3 : Int32) (x5 : Int32) (s0 : Int32) (σ : zS) (H : Heap) (locs : List Loc) (ls : Array Slot), f x3 x5 s0 σ = some res → zW g A σ τ s H locs → lv_has ls 8 [(0, .ref (g.2.2 52)), (3, .int x3), (5, .int x5)] → W p l e (zR 1) s m args below meth c H locs 0 0 (MQ below (zQv g A τ res) args s 0 0 A) (F0 m 78 ls [.int s0])
def fX5_weigh_118 (N : Nat) (x3 : Int32) (x5 : Int32) (x7 : Int32) (σ : zS) : Option (zS) :=
  zlet (zpf σ 52 4 x7) fun σ1 =>
  zlet (zpf σ1 52 5 x5) fun σ2 =>
  zlet (zpf σ2 52 3 x3) fun σ3 =>
  if ¬ ((nI 0) : Int32) < 0 ∧ ¬ ((nI 0) : Int32) < 0 ∧ ¬ ((nI 5) : Int32) < 0 ∧ (nI 0).toNatClampNeg + (nI 5).toNatClampNeg ≤ zlen 27 ∧ (nI 0).toNatClampNeg + (nI 5).toNatClampNeg ≤ zlen 28 then
  zlet (zpa σ3 28 (va_cpy (σ3.2 27) (σ3.2 28) (nI 0).toNatClampNeg (nI 0).toNatClampNeg (nI 5).toNatClampNeg)) fun σ5 =>
  some σ5
  else none
set_option maxRecDepth 100000 in
set_option maxHeartbeats 4000000 in
theorem hX5_weigh_118 {p : Program} {l : Launch} {e : Env} {s : State} {m : MethodId} {args : Array Value} {below : List Frame} {meth : Method} {c : Code} {g : zG} {A : Nat → Prop} {τ : zS} {res : zS} (C : zCx p s m args meth c cX5_weigh none wsX5_weigh RX5 8) (E : zE g A s) (N : Nat) : PX5_weigh_118 p l e s m args below meth c g A τ res (fX5_weigh_118 N) := by
  obtain ⟨hx, hb, hr, hml, hown, hts, hlocks⟩ := id C
  intro x3 x5 x7 σ H locs ls hf hh hl
  unfold fX5_weigh_118 at hf
  refine lv_aload_n hx hb dX5_weigh_118 rfl (lv_at hl 0 rfl) ?_
  refine lv_iload hx hb dX5_weigh_119 (lv_at hl 3 rfl) ?_
  obtain ⟨σ1, e_σ1, hf⟩ := z_lt hf
  refine z_put hx hb hts (fun w h => List.mem_cons_of_mem _ (List.mem_append_left _ (List.mem_append_right _ (h)))) tyX5 tyX5_ok nmX5 hown E hh (by decide) (show zD 52 = _ from rfl) rfl 4 (by decide) rfl (hts (.fieldLink RX5 28 "TownBand$Towers" "foundScore" "I") (List.mem_cons_of_mem _ (List.mem_append_left _ (List.mem_append_left _ (List.mem_append_left _ (List.mem_of_getElem? (i := 7) rfl)))))) rfl rfl e_σ1 dX5_weigh_121 (fun H locs hh => ?_)
  refine lv_aload_n hx hb dX5_weigh_124 rfl (lv_at hl 0 rfl) ?_
  refine lv_iload hx hb dX5_weigh_125 (lv_at hl 2 rfl) ?_
  obtain ⟨σ2, e_σ2, hf⟩ := z_lt hf
  refine z_put hx hb hts (fun w h => List.mem_cons_of_mem _ (List.mem_append_left _ (List.mem_append_right _ (h)))) tyX5 tyX5_ok nmX5 hown E hh (by decide) (show zD 52 = _ from rfl) rfl 5 (by decide) rfl (hts (.fieldLink RX5 31 "TownBand$Towers" "foundNoise" "I") (List.mem_cons_of_mem _ (List.mem_append_left _ (List.mem_append_left _ (List.mem_append_left _ (List.mem_of_getElem? (i := 9) rfl)))))) rfl rfl e_σ2 dX5_weigh_127 (fun H locs hh => ?_)
  refine lv_aload_n hx hb dX5_weigh_130 rfl (lv_at hl 0 rfl) ?_
  refine lv_iload_n hx hb dX5_weigh_131 rfl (lv_at hl 1 rfl) ?_
  obtain ⟨σ3, e_σ3, hf⟩ := z_lt hf
  refine z_put hx hb hts (fun w h => List.mem_cons_of_mem _ (List.mem_append_left _ (List.mem_append_right _ (h)))) tyX5 tyX5_ok nmX5 hown E hh (by decide) (show zD 52 = _ from rfl) rfl 3 (by decide) rfl (hts (.fieldLink RX5 25 "TownBand$Towers" "foundSize" "I") (List.mem_cons_of_mem _ (List.mem_append_left _ (List.mem_append_left _ (List.mem_append_left _ (List.mem_of_getElem? (i := 8) rfl)))))) rfl rfl e_σ3 dX5_weigh_132 (fun H locs hh => ?_)
  refine lv_aload_n hx hb dX5_weigh_135 rfl (lv_at hl 0 rfl) ?_
  refine z_get (v := .ref (g.2.2 27)) hx hb hts (fun w h => List.mem_cons_of_mem _ (List.mem_append_left _ (List.mem_append_right _ (h)))) hown E hh (by decide) (zC_obj (q := 52) rfl) rfl 0 (by decide) (hts (.fieldLink RX5 9 "TownBand$Towers" "row" "[I") (List.mem_cons_of_mem _ (List.mem_append_left _ (List.mem_append_left _ (List.mem_append_left _ (List.mem_of_getElem? (i := 0) rfl)))))) rfl dX5_weigh_136 ?_
  refine lv_iconst (v := (nI 0)) hx hb dX5_weigh_139 (by decide) ?_
  refine lv_aload_n hx hb dX5_weigh_140 rfl (lv_at hl 0 rfl) ?_
  refine z_get (v := .ref (g.2.2 28)) hx hb hts (fun w h => List.mem_cons_of_mem _ (List.mem_append_left _ (List.mem_append_right _ (h)))) hown E hh (by decide) (zC_obj (q := 52) rfl) rfl 1 (by decide) (hts (.fieldLink RX5 15 "TownBand$Towers" "found" "[I") (List.mem_cons_of_mem _ (List.mem_append_left _ (List.mem_append_left _ (List.mem_append_left _ (List.mem_of_getElem? (i := 10) rfl)))))) rfl dX5_weigh_141 ?_
  refine lv_iconst (v := (nI 0)) hx hb dX5_weigh_144 (by decide) ?_
  refine lv_iconst (v := (nI 5)) hx hb dX5_weigh_145 (by decide) ?_
  obtain ⟨h_v4, hf⟩ := z_if hf
  obtain ⟨σ5, e_σ5, hf⟩ := z_lt hf
  refine z_copy hx hb (hml.trans hl.1.symm) hown (hts (.methodLink RX5 82 arraycopyName) (List.mem_cons_of_mem _ (List.mem_append_left _ (List.mem_append_left _ (List.mem_append_left _ (List.mem_of_getElem? (i := 11) rfl)))))) (hts (.native arraycopyName) (List.mem_cons_of_mem _ (List.mem_append_left _ (List.mem_append_left _ (List.mem_append_left _ (List.mem_of_getElem? (i := 12) rfl)))))) (hts (.static arraycopyName) (List.mem_cons_of_mem _ (List.mem_append_left _ (List.mem_append_left _ (List.mem_append_left _ (List.mem_of_getElem? (i := 13) rfl)))))) (hts (.initialized "java/lang/System") (List.mem_cons_of_mem _ (List.mem_append_left _ (List.mem_append_left _ (List.mem_append_left _ (List.mem_of_getElem? (i := 14) rfl)))))) E hh (by decide) (by decide) h_v4 e_σ5 (by decide) (Nat.le_of_ble_eq_true rfl) dX5_weigh_146 (fun H locs hh => ?_)
  have hf := Option.some.inj hf
  subst hf
  exact z_vretX hx hb hr hlocks hh dX5_weigh_149
def fX5_weigh_92 (N : Nat) (x3 : Int32) (x5 : Int32) (x7 : Int32) (σ : zS) : Option (zS) :=
  if (σ.1 52 4) < x7 then
    (fX5_weigh_118 N) x3 x5 x7 σ
  else
    if x7 = (σ.1 52 4) then
      if (σ.1 52 3) ≤ x3 then
        some σ
      else
        (fX5_weigh_118 N) x3 x5 x7 σ
    else
      some σ
set_option maxRecDepth 100000 in
set_option maxHeartbeats 4000000 in
theorem hX5_weigh_92 {p : Program} {l : Launch} {e : Env} {s : State} {m : MethodId} {args : Array Value} {below : List Frame} {meth : Method} {c : Code} {g : zG} {A : Nat → Prop} {τ : zS} {res : zS} (C : zCx p s m args meth c cX5_weigh none wsX5_weigh RX5 8) (E : zE g A s) (N : Nat) : PX5_weigh_92 p l e s m args below meth c g A τ res (fX5_weigh_92 N) := by
  obtain ⟨hx, hb, hr, hml, hown, hts, hlocks⟩ := id C
  intro x3 x5 x7 σ H locs ls hf hh hl
  unfold fX5_weigh_92 at hf
  refine lv_iload hx hb dX5_weigh_92 (lv_at hl 3 rfl) ?_
  refine lv_aload_n hx hb dX5_weigh_94 rfl (lv_at hl 0 rfl) ?_
  refine z_get (v := .int (σ.1 52 4)) hx hb hts (fun w h => List.mem_cons_of_mem _ (List.mem_append_left _ (List.mem_append_right _ (h)))) hown E hh (by decide) (zC_obj (q := 52) rfl) rfl 4 (by decide) (hts (.fieldLink RX5 28 "TownBand$Towers" "foundScore" "I") (List.mem_cons_of_mem _ (List.mem_append_left _ (List.mem_append_left _ (List.mem_append_left _ (List.mem_of_getElem? (i := 7) rfl)))))) rfl dX5_weigh_95 ?_
  refine lv_icmp_gt (tgt := 118) hx hb dX5_weigh_98 (by decide) (fun c_v1 => ?_) (fun c_v1 => ?_)
  · have hf := z_ip hf c_v1
    exact (hX5_weigh_118 C E N) x3 x5 x7 σ _ _ _ hf hh (lv_sub hl [0, 1, 2, 3] rfl)
  · have hf := z_in hf c_v1
    refine lv_iload hx hb dX5_weigh_101 (lv_at hl 3 rfl) ?_
    refine lv_aload_n hx hb dX5_weigh_103 rfl (lv_at hl 0 rfl) ?_
    refine z_get (v := .int (σ.1 52 4)) hx hb hts (fun w h => List.mem_cons_of_mem _ (List.mem_append_left _ (List.mem_append_right _ (h)))) hown E hh (by decide) (zC_obj (q := 52) rfl) rfl 4 (by decide) (hts (.fieldLink RX5 28 "TownBand$Towers" "foundScore" "I") (List.mem_cons_of_mem _ (List.mem_append_left _ (List.mem_append_left _ (List.mem_append_left _ (List.mem_of_getElem? (i := 7) rfl)))))) rfl dX5_weigh_104 ?_
    refine lv_icmp_ne (tgt := 149) hx hb dX5_weigh_107 (by decide) (fun c_v2 => ?_) (fun c_v2 => ?_)
    · have hf := z_in hf c_v2
      have hf := Option.some.inj hf
      subst hf
      exact z_vretX hx hb hr hlocks hh dX5_weigh_149
    · have hf := z_ip hf c_v2
      refine lv_iload_n hx hb dX5_weigh_110 rfl (lv_at hl 1 rfl) ?_
      refine lv_aload_n hx hb dX5_weigh_111 rfl (lv_at hl 0 rfl) ?_
      refine z_get (v := .int (σ.1 52 3)) hx hb hts (fun w h => List.mem_cons_of_mem _ (List.mem_append_left _ (List.mem_append_right _ (h)))) hown E hh (by decide) (zC_obj (q := 52) rfl) rfl 3 (by decide) (hts (.fieldLink RX5 25 "TownBand$Towers" "foundSize" "I") (List.mem_cons_of_mem _ (List.mem_append_left _ (List.mem_append_left _ (List.mem_append_left _ (List.mem_of_getElem? (i := 8) rfl)))))) rfl dX5_weigh_112 ?_
      refine lv_icmp_ge (tgt := 149) hx hb dX5_weigh_115 (by decide) (fun c_v3 => ?_) (fun c_v3 => ?_)
      · have hf := z_ip hf c_v3
        have hf := Option.some.inj hf
        subst hf
        exact z_vretX hx hb hr hlocks hh dX5_weigh_149
      · have hf := z_in hf c_v3
        exact (hX5_weigh_118 C E N) x3 x5 x7 σ _ _ _ hf hh (lv_sub hl [0, 1, 2, 3] rfl)
def fX5_weigh_78 (N : Nat) (x3 : Int32) (x5 : Int32) (s0 : Int32) (σ : zS) : Option (zS) :=
  (fX5_weigh_92 N) x3 x5 s0 σ
set_option maxRecDepth 100000 in
set_option maxHeartbeats 4000000 in
theorem hX5_weigh_78 {p : Program} {l : Launch} {e : Env} {s : State} {m : MethodId} {args : Array Value} {below : List Frame} {meth : Method} {c : Code} {g : zG} {A : Nat → Prop} {τ : zS} {res : zS} (C : zCx p s m args meth c cX5_weigh none wsX5_weigh RX5 8) (E : zE g A s) (N : Nat) : PX5_weigh_78 p l e s m args below meth c g A τ res (fX5_weigh_78 N) := by
  obtain ⟨hx, hb, hr, hml, hown, hts, hlocks⟩ := id C
  intro x3 x5 s0 σ H locs ls hf hh hl
  unfold fX5_weigh_78 at hf
  refine lv_istore (lv' := [(7, .int s0), (0, .ref (g.2.2 52)), (3, .int x3), (5, .int x5)]) hx hb dX5_weigh_78 hl (by decide) rfl (fun ls hl => ?_)
  refine lv_goto (tgt := 92) hx hb dX5_weigh_80 (by decide) ?_
  exact (hX5_weigh_92 C E N) x3 x5 s0 σ _ _ _ hf hh (lv_sub hl [1, 2, 3, 0] rfl)
def fX5_weigh (N : Nat) (σ : zS) (b1 : Nat) (x2 : Int32) (x3 : Int32) (x4 : Int32) : Option (zS) :=
  (fX0_noiseBy N σ b1 27 x3 (zba b1 2)).bind fun q1 =>
  (fX0_fledBits N σ b1 q1).bind fun q2 =>
  (fJ6_bitCount_0f7a4 N q2).bind fun q3 =>
  zlet (zpf σ 52 6 ((σ.1 52 6) + (nI 1))) fun σ4 =>
  if zin x4 (zlen 29) then
  zlet (σ4.2 29 x4.toNatClampNeg) fun v6 =>
  zlet (if v6 < q3 then q3 else v6) fun v7 =>
  if zin x4 (zlen 29) then
  zlet (zpa σ4 29 (upd (σ4.2 29) x4.toNatClampNeg v7)) fun σ9 =>
  if x2 = (nI 1) then
    if q3 = (σ9.1 b1 7) then
      (fX5_weigh_78 N) x3 q1 (nI 1) σ9
    else
      (fX5_weigh_78 N) x3 q1 (nI 0) σ9
  else
    if x2 = (nI 2) then
      (fX5_weigh_92 N) x3 q1 q1 σ9
    else
      (fX5_weigh_92 N) x3 q1 q3 σ9
  else none
  else none
set_option maxRecDepth 100000 in
set_option maxHeartbeats 4000000 in
theorem zcX5_weigh (l : Launch) (g : zG) (A : Nat → Prop) (σ τ : zS) (N : Nat) (b1 : Nat) (x2 : Int32) (x3 : Int32) (x4 : Int32) (h1_b1 : 42 ≤ b1) (h2_b1 : b1 < 46) {res : zS} (hf : fX5_weigh N σ b1 x2 x3 x4 = some res) : Met l yX5_weigh wsX5_weigh (zR 1) (zPc g A σ τ [.ref (g.2.2 52), .ref (g.2.2 b1), .int x2, .int x3, .int x4]) (zQv g A τ res) 0 0 A := by
  refine z_met (cc := cX5_weigh) (ret := none) (own := RX5) (by decide) rfl rfl _ (Nat.le_of_ble_eq_true rfl) ?_
  intro p e s m below meth c C E ls hl hh
  have hl : lv_has ls 8 [(0, .ref (g.2.2 52)), (1, .ref (g.2.2 b1)), (2, .int x2), (3, .int x3), (4, .int x4)] := hl
  obtain ⟨hx, hb, hr, hml, hown, hts, hlocks⟩ := id C
  unfold fX5_weigh at hf
  refine lv_aload_n hx hb dX5_weigh_0 rfl (lv_at hl 1 rfl) ?_
  refine lv_aload_n hx hb dX5_weigh_1 rfl (lv_at hl 0 rfl) ?_
  refine z_get (v := .ref (g.2.2 27)) hx hb hts (fun w h => List.mem_cons_of_mem _ (List.mem_append_left _ (List.mem_append_right _ (h)))) hown E hh (by decide) (zC_obj (q := 52) rfl) rfl 0 (by decide) (hts (.fieldLink RX5 9 "TownBand$Towers" "row" "[I") (List.mem_cons_of_mem _ (List.mem_append_left _ (List.mem_append_left _ (List.mem_append_left _ (List.mem_of_getElem? (i := 0) rfl)))))) rfl dX5_weigh_2 ?_
  refine lv_iload_n hx hb dX5_weigh_5 rfl (lv_at hl 3 rfl) ?_
  refine lv_aload_n hx hb dX5_weigh_6 rfl (lv_at hl 1 rfl) ?_
  refine z_getN (v := .ref (g.2.2 (zba b1 2))) hx hb hts (fun w h => List.mem_cons_of_mem _ (List.mem_append_right _ (h))) hown E hh (Nat.lt_trans (m := 46) h2_b1 (by decide)) (zC_band h1_b1 h2_b1) rfl 2 (by decide) (zE_f E 5 rfl) rfl dX5_weigh_7 ?_
  obtain ⟨q1, h_q1, hf⟩ := z_bd hf
  refine z_xi (va_runVN (As := [.ref (g.2.2 27), .int x3, .ref (g.2.2 (zba b1 2))]) (rest := []) ⟨hx, hb, hml, hown, hts⟩ (zcX0_noiseBy l g A σ τ N b1 27 x3 (zba b1 2) h1_b1 h2_b1 (by decide) (zba_lt h1_b1 h2_b1 (by decide)) h_q1) ⟨va_cnB 3 hts gX5_weigh_X0_noiseBy_n60 rfl rfl rfl (zE_m E 25 rfl) (hts (.initialized RX0) (List.mem_cons_of_mem _ (List.mem_append_left _ (List.mem_append_left _ (List.mem_append_left _ (List.mem_of_getElem? (i := 16) rfl)))))) hdX0_noiseBy.2 ⟨by decide, by decide⟩, (hts (.instanceMethod yX0_noiseBy) (List.mem_cons_of_mem _ (List.mem_append_left _ (List.mem_append_left _ (List.mem_append_left _ (List.mem_of_getElem? (i := 15) rfl)))))), (hts (.selects RX0 yX0_noiseBy yX0_noiseBy) (List.mem_cons_of_mem _ (List.mem_append_left _ (List.mem_append_left _ (List.mem_append_left _ (List.mem_of_getElem? (i := 17) rfl))))))⟩ (z_preV E hh (Nat.lt_trans (m := 46) h2_b1 (by decide)) (zC_band h1_b1 h2_b1) rfl) rfl rfl hl.1 rfl (lv_room (Nat.le_of_ble_eq_true rfl)) dX5_weigh_10 ⟨Nat.le_refl _, Nat.le_refl _⟩) hh (fun H locs hh => ?_)
  refine lv_istore (lv' := [(5, .int q1), (0, .ref (g.2.2 52)), (1, .ref (g.2.2 b1)), (2, .int x2), (3, .int x3), (4, .int x4)]) hx hb dX5_weigh_13 hl (by decide) rfl (fun ls hl => ?_)
  refine lv_aload_n hx hb dX5_weigh_15 rfl (lv_at hl 2 rfl) ?_
  refine lv_iload hx hb dX5_weigh_16 (lv_at hl 0 rfl) ?_
  obtain ⟨q2, h_q2, hf⟩ := z_bd hf
  refine z_xi (va_runVN (As := [.int q1]) (rest := []) ⟨hx, hb, hml, hown, hts⟩ (zcX0_fledBits l g A σ τ N b1 q1 h1_b1 h2_b1 h_q2) ⟨va_cnB 1 hts gX5_weigh_X0_fledBits_n64 rfl rfl rfl (zE_m E 26 rfl) (hts (.initialized RX0) (List.mem_cons_of_mem _ (List.mem_append_left _ (List.mem_append_left _ (List.mem_append_left _ (List.mem_of_getElem? (i := 16) rfl)))))) hdX0_fledBits.2 ⟨by decide, by decide⟩, (hts (.instanceMethod yX0_fledBits) (List.mem_cons_of_mem _ (List.mem_append_left _ (List.mem_append_left _ (List.mem_append_left _ (List.mem_of_getElem? (i := 19) rfl)))))), (hts (.selects RX0 yX0_fledBits yX0_fledBits) (List.mem_cons_of_mem _ (List.mem_append_left _ (List.mem_append_left _ (List.mem_append_left _ (List.mem_of_getElem? (i := 20) rfl))))))⟩ (z_preV E hh (Nat.lt_trans (m := 46) h2_b1 (by decide)) (zC_band h1_b1 h2_b1) rfl) rfl rfl hl.1 rfl (lv_room (Nat.le_of_ble_eq_true rfl)) dX5_weigh_18 ⟨Nat.le_refl _, Nat.le_refl _⟩) hh (fun H locs hh => ?_)
  obtain ⟨q3, h_q3, hf⟩ := z_bd hf
  refine z_xi (va_runS (As := [.int q2]) (rest := []) ⟨hx, hb, hml, hown, hts⟩ (zcJ6_bitCount_0f7a4 l g A σ τ N q2 h_q3) (va_cwS 1 hts gX5_weigh_J6_bitCount_0f7a4 rfl rfl rfl hdJ6_bitCount_0f7a4.2 ⟨by decide, by decide⟩) (z_preS E hh) rfl rfl hl.1 rfl (lv_room (Nat.le_of_ble_eq_true rfl)) dX5_weigh_21 ⟨Nat.le_refl _, Nat.le_refl _⟩) hh (fun H locs hh => ?_)
  refine lv_istore (lv' := [(6, .int q3), (5, .int q1), (0, .ref (g.2.2 52)), (1, .ref (g.2.2 b1)), (2, .int x2), (3, .int x3), (4, .int x4)]) hx hb dX5_weigh_24 hl (by decide) rfl (fun ls hl => ?_)
  refine lv_aload_n hx hb dX5_weigh_26 rfl (lv_at hl 2 rfl) ?_
  refine lv_dup hx hb dX5_weigh_27 rfl ?_
  refine z_get (v := .int (σ.1 52 6)) hx hb hts (fun w h => List.mem_cons_of_mem _ (List.mem_append_left _ (List.mem_append_right _ (h)))) hown E hh (by decide) (zC_obj (q := 52) rfl) rfl 6 (by decide) (hts (.fieldLink RX5 21 "TownBand$Towers" "total" "I") (List.mem_cons_of_mem _ (List.mem_append_left _ (List.mem_append_left _ (List.mem_append_left _ (List.mem_of_getElem? (i := 1) rfl)))))) rfl dX5_weigh_28 ?_
  refine lv_iconst (v := (nI 1)) hx hb dX5_weigh_31 (by decide) ?_
  refine lv_iadd hx hb dX5_weigh_32 ?_
  obtain ⟨σ4, e_σ4, hf⟩ := z_lt hf
  refine z_put hx hb hts (fun w h => List.mem_cons_of_mem _ (List.mem_append_left _ (List.mem_append_right _ (h)))) tyX5 tyX5_ok nmX5 hown E hh (by decide) (show zD 52 = _ from rfl) rfl 6 (by decide) rfl (hts (.fieldLink RX5 21 "TownBand$Towers" "total" "I") (List.mem_cons_of_mem _ (List.mem_append_left _ (List.mem_append_left _ (List.mem_append_left _ (List.mem_of_getElem? (i := 1) rfl)))))) rfl rfl e_σ4 dX5_weigh_33 (fun H locs hh => ?_)
  refine lv_aload_n hx hb dX5_weigh_36 rfl (lv_at hl 2 rfl) ?_
  refine z_get (v := .ref (g.2.2 29)) hx hb hts (fun w h => List.mem_cons_of_mem _ (List.mem_append_left _ (List.mem_append_right _ (h)))) hown E hh (by decide) (zC_obj (q := 52) rfl) rfl 2 (by decide) (hts (.fieldLink RX5 18 "TownBand$Towers" "values" "[I") (List.mem_cons_of_mem _ (List.mem_append_left _ (List.mem_append_left _ (List.mem_append_left _ (List.mem_of_getElem? (i := 2) rfl)))))) rfl dX5_weigh_37 ?_
  refine lv_iload hx hb dX5_weigh_40 (lv_at hl 6 rfl) ?_
  refine lv_aload_n hx hb dX5_weigh_42 rfl (lv_at hl 2 rfl) ?_
  refine z_get (v := .ref (g.2.2 29)) hx hb hts (fun w h => List.mem_cons_of_mem _ (List.mem_append_left _ (List.mem_append_right _ (h)))) hown E hh (by decide) (zC_obj (q := 52) rfl) rfl 2 (by decide) (hts (.fieldLink RX5 18 "TownBand$Towers" "values" "[I") (List.mem_cons_of_mem _ (List.mem_append_left _ (List.mem_append_left _ (List.mem_append_left _ (List.mem_of_getElem? (i := 2) rfl)))))) rfl dX5_weigh_43 ?_
  refine lv_iload hx hb dX5_weigh_46 (lv_at hl 6 rfl) ?_
  obtain ⟨h_v5, hf⟩ := z_if hf
  obtain ⟨v6, e_v6, hf⟩ := z_lt hf
  refine z_iald hx hb E hh (by decide) h_v5 e_v6 dX5_weigh_48 ?_
  refine lv_iload hx hb dX5_weigh_49 (lv_at hl 0 rfl) ?_
  obtain ⟨v7, e_v7, hf⟩ := z_lt hf
  refine va_mmax hx hb (hml.trans hl.1.symm) hown (hts (.methodLink RX5 73 Lib.Math.max.name) (List.mem_cons_of_mem _ (List.mem_append_left _ (List.mem_append_left _ (List.mem_append_left _ (List.mem_of_getElem? (i := 3) rfl)))))) (hts (.static Lib.Math.max.name) (List.mem_cons_of_mem _ (List.mem_append_left _ (List.mem_append_left _ (List.mem_append_left _ (List.mem_of_getElem? (i := 4) rfl)))))) (hts (.initialized "java/lang/Math") (List.mem_cons_of_mem _ (List.mem_append_left _ (List.mem_append_left _ (List.mem_append_left _ (List.mem_of_getElem? (i := 5) rfl)))))) (hts (.code Lib.Math.max.name Lib.Math.max.code 2 (some .int)) (List.mem_cons_of_mem _ (List.mem_append_left _ (List.mem_append_left _ (List.mem_append_left _ (List.mem_of_getElem? (i := 6) rfl)))))) (by decide) (Nat.le_of_ble_eq_true rfl) (Nat.le_refl _) (Nat.le_refl _) dX5_weigh_51 ?_
  refine z_topi e_v7 ?_
  obtain ⟨h_v8, hf⟩ := z_if hf
  obtain ⟨σ9, e_σ9, hf⟩ := z_lt hf
  refine z_iast hx hb E hh (by decide) h_v8 e_σ9 dX5_weigh_54 (fun H locs hh => ?_)
  refine lv_iload hx hb dX5_weigh_55 (lv_at hl 0 rfl) ?_
  refine lv_istore (lv' := [(7, .int q3), (6, .int q3), (5, .int q1), (0, .ref (g.2.2 52)), (1, .ref (g.2.2 b1)), (2, .int x2), (3, .int x3), (4, .int x4)]) hx hb dX5_weigh_57 hl (by decide) rfl (fun ls hl => ?_)
  refine lv_iload_n hx hb dX5_weigh_59 rfl (lv_at hl 5 rfl) ?_
  refine lv_iconst (v := (nI 1)) hx hb dX5_weigh_60 (by decide) ?_
  refine lv_icmp_ne (tgt := 83) hx hb dX5_weigh_61 (by decide) (fun c_v10 => ?_) (fun c_v10 => ?_)
  · have hf := z_in hf c_v10
    refine lv_iload_n hx hb dX5_weigh_83 rfl (lv_at hl 5 rfl) ?_
    refine lv_iconst (v := (nI 2)) hx hb dX5_weigh_84 (by decide) ?_
    refine lv_icmp_ne (tgt := 92) hx hb dX5_weigh_85 (by decide) (fun c_v11 => ?_) (fun c_v11 => ?_)
    · have hf := z_in hf c_v11
      exact (hX5_weigh_92 C E N) x3 q1 q3 σ9 _ _ _ hf hh (lv_sub hl [3, 6, 2, 0] rfl)
    · have hf := z_ip hf c_v11
      refine lv_iload hx hb dX5_weigh_88 (lv_at hl 2 rfl) ?_
      refine lv_istore (lv' := [(7, .int q1), (6, .int q3), (5, .int q1), (0, .ref (g.2.2 52)), (1, .ref (g.2.2 b1)), (2, .int x2), (3, .int x3), (4, .int x4)]) hx hb dX5_weigh_90 hl (by decide) rfl (fun ls hl => ?_)
      exact (hX5_weigh_92 C E N) x3 q1 q1 σ9 _ _ _ hf hh (lv_sub hl [3, 6, 2, 0] rfl)
  · have hf := z_ip hf c_v10
    refine lv_iload hx hb dX5_weigh_64 (lv_at hl 1 rfl) ?_
    refine lv_aload_n hx hb dX5_weigh_66 rfl (lv_at hl 4 rfl) ?_
    refine z_getN (v := .int (σ9.1 b1 7)) hx hb hts (fun w h => List.mem_cons_of_mem _ (List.mem_append_right _ (h))) hown E hh (Nat.lt_trans (m := 46) h2_b1 (by decide)) (zC_band h1_b1 h2_b1) rfl 7 (by decide) (zE_f E 18 rfl) rfl dX5_weigh_67 ?_
    refine lv_icmp_ne (tgt := 77) hx hb dX5_weigh_70 (by decide) (fun c_v12 => ?_) (fun c_v12 => ?_)
    · have hf := z_in hf c_v12
      refine lv_iconst (v := (nI 0)) hx hb dX5_weigh_77 (by decide) ?_
      exact (hX5_weigh_78 C E N) x3 q1 (nI 0) σ9 _ _ _ hf hh (lv_sub hl [3, 6, 2] rfl)
    · have hf := z_ip hf c_v12
      refine lv_iconst (v := (nI 1)) hx hb dX5_weigh_73 (by decide) ?_
      refine lv_goto (tgt := 78) hx hb dX5_weigh_74 (by decide) ?_
      exact (hX5_weigh_78 C E N) x3 q1 (nI 1) σ9 _ _ _ hf hh (lv_sub hl [3, 6, 2] rfl)
/-! ===== X5_visit ===== -/
theorem hdX5_visit : yX5_visit.cls = RX5 ∧ yX5_visit.cls ≠ "java/lang/invoke/MethodHandle" ∧ yX5_visit.cls ≠ "java/lang/invoke/VarHandle" ∧ (parseMethodDescriptor yX5_visit.desc).map (fun d => d.parameters.length) = some 5 := by decide +kernel
def PX5_visit_80 (p : Program) (l : Launch) (e : Env) (s : State) (m : MethodId) (args : Array Value) (below : List Frame) (meth : Method) (c : Code) (g : zG) (A : Nat → Prop) (d : Nat) (τ : zS) (res : zS) (f : Nat → Int32 → Int32 → Int32 → Int32 → zS → Option (zS)) : Prop := ∀ (b1 : Nat) (x2 : Int32) (x3 : Int32) (x4 : Int32) (x5 : Int32) (h1_b1 : 42 ≤ b1) (h2_b1 : b1 < 46) (σ : zS) (H : Heap) (locs : List Loc) (ls : Array Slot), f b1 x2 x3 x4 x5 σ = some res → zW g A σ τ s H locs → lv_has ls 6 [(0, .ref (g.2.2 52)), (1, .ref (g.2.2 b1)), (2, .int x2), (3, .int x3), (4, .int x4), (5, .int x5)] → W p l e (zR (d + 1 + 3)) s m args below meth c H locs 0 0 (MQ below (zQv g A τ res) args s 0 0 A) (F0 m 80 ls [])
def PX5_visit_18 (p : Program) (l : Launch) (e : Env) (s : State) (m : MethodId) (args : Array Value) (below : List Frame) (meth : Method) (c : Code) (g : zG) (A : Nat → Prop) (d : Nat) (τ : zS) (res : zS) (f : Nat → Int32 → Int32 → Int32 → Int32 → zS → Option (zS)) : Prop := ∀ (b1 : Nat) (x2 : Int32) (x3 : Int32) (x4 : Int32) (x5 : Int32) (h1_b1 : 42 ≤ b1) (h2_b1 : b1 < 46) (σ : zS) (H : Heap) (locs : List Loc) (ls : Array Slot), f b1 x2 x3 x4 x5 σ = some res → zW g A σ τ s H locs → lv_has ls 6 [(0, .ref (g.2.2 52)), (1, .ref (g.2.2 b1)), (2, .int x2), (3, .int x3), (4, .int x4), (5, .int x5)] → W p l e (zR (d + 1 + 3)) s m args below meth c H locs 0 0 (MQ below (zQv g A τ res) args s 0 0 A) (F0 m 18 ls [])
def fX5_visit_80 (N : Nat) (rv : Nat → zS → Nat → Int32 → Int32 → Int32 → Option (zS)) (rc : Nat → Int32 → Int32 → Int32 → Int32 → zS → Option (zS)) (b1 : Nat) (x2 : Int32) (x3 : Int32) (x4 : Int32) (x5 : Int32) (σ : zS) : Option (zS) :=
  rc b1 x2 x3 x4 (x5 + (nI 1)) σ
set_option maxRecDepth 100000 in
set_option maxHeartbeats 4000000 in
theorem hX5_visit_80 {p : Program} {l : Launch} {e : Env} {s : State} {m : MethodId} {args : Array Value} {below : List Frame} {meth : Method} {c : Code} {g : zG} {A : Nat → Prop} {d : Nat} {τ : zS} {res : zS} (C : zCx p s m args meth c cX5_visit none wsX5_visit RX5 6) (E : zE g A s) (N : Nat) (rv : Nat → zS → Nat → Int32 → Int32 → Int32 → Option (zS)) (hrv : ∀ (σ : zS) (b1 : Nat) (x2 : Int32) (x3 : Int32) (x4 : Int32) (h1_b1 : 42 ≤ b1) (h2_b1 : b1 < 46) (res : zS), rv N σ b1 x2 x3 x4 = some res → Met l yX5_visit wsX5_visit (zR (d + 3)) (zPc g A σ τ [.ref (g.2.2 52), .ref (g.2.2 b1), .int x2, .int x3, .int x4]) (zQv g A τ res) 0 0 A) (rc : Nat → Int32 → Int32 → Int32 → Int32 → zS → Option (zS)) (hrc : PX5_visit_18 p l e s m args below meth c g A d τ res rc) : PX5_visit_80 p l e s m args below meth c g A d τ res (fX5_visit_80 N rv rc) := by
  obtain ⟨hx, hb, hr, hml, hown, hts, hlocks⟩ := id C
  intro b1 x2 x3 x4 x5 h1_b1 h2_b1 σ H locs ls hf hh hl
  unfold fX5_visit_80 at hf
  refine lv_iinc (v := (x5 + (nI 1))) (lv' := [(5, .int (x5 + (nI 1))), (0, .ref (g.2.2 52)), (1, .ref (g.2.2 b1)), (2, .int x2), (3, .int x3), (4, .int x4)]) hx hb dX5_visit_80 hl (k := 5) rfl rfl (by decide) rfl (fun ls hl => ?_)
  refine lv_goto (tgt := 18) hx hb dX5_visit_83 (by decide) ?_
  exact hrc b1 x2 x3 x4 (x5 + (nI 1)) h1_b1 h2_b1 σ _ _ _ hf hh (lv_sub hl [1, 2, 3, 4, 5, 0] rfl)
def fX5_visit_18 (N : Nat) (rv : Nat → zS → Nat → Int32 → Int32 → Int32 → Option (zS)) : Nat → Nat → Int32 → Int32 → Int32 → Int32 → zS → Option (zS)
  | 0, _, _, _, _, _, _ => none
  | n + 1, b1, x2, x3, x4, x5, σ =>
    if (σ.1 b1 6) ≤ x5 then
      some σ
    else
      if ((x4 >>> (x5 &&& 31)) &&& (nI 1)) = 0 then
        if zin x5 (zlen (zba b1 1)) then
        zlet (σ.2 (zba b1 1) x5.toNatClampNeg) fun v4 =>
        (fX0_carries N σ b1 27 x3 v4).bind fun q5 =>
        if q5 = 0 then
          (fX5_visit_80 N rv (fX5_visit_18 N rv n)) b1 x2 x3 x4 x5 σ
        else
          if zin x3 (zlen 27) then
          zlet (zpa σ 27 (upd (σ.2 27) x3.toNatClampNeg x5)) fun σ8 =>
          (rv N σ8 b1 x2 (x3 + (nI 1)) (x4 ||| ((nI 1) <<< (x5 &&& 31)))).bind fun q9 =>
          (fX5_visit_80 N rv (fX5_visit_18 N rv n)) b1 x2 x3 x4 x5 q9
          else none
        else none
      else
        (fX5_visit_80 N rv (fX5_visit_18 N rv n)) b1 x2 x3 x4 x5 σ
set_option maxRecDepth 100000 in
set_option maxHeartbeats 4000000 in
theorem hX5_visit_18 {p : Program} {l : Launch} {e : Env} {s : State} {m : MethodId} {args : Array Value} {below : List Frame} {meth : Method} {c : Code} {g : zG} {A : Nat → Prop} {d : Nat} {τ : zS} {res : zS} (C : zCx p s m args meth c cX5_visit none wsX5_visit RX5 6) (E : zE g A s) (N : Nat) (rv : Nat → zS → Nat → Int32 → Int32 → Int32 → Option (zS)) (hrv : ∀ (σ : zS) (b1 : Nat) (x2 : Int32) (x3 : Int32) (x4 : Int32) (h1_b1 : 42 ≤ b1) (h2_b1 : b1 < 46) (res : zS), rv N σ b1 x2 x3 x4 = some res → Met l yX5_visit wsX5_visit (zR (d + 3)) (zPc g A σ τ [.ref (g.2.2 52), .ref (g.2.2 b1), .int x2, .int x3, .int x4]) (zQv g A τ res) 0 0 A) : ∀ n : Nat, PX5_visit_18 p l e s m args below meth c g A d τ res (fX5_visit_18 N rv n) := by
  obtain ⟨hx, hb, hr, hml, hown, hts, hlocks⟩ := id C
  intro n
  induction n with
  | zero =>
    intro b1 x2 x3 x4 x5 h1_b1 h2_b1 σ H locs ls hf
    exact absurd hf (by simp [fX5_visit_18])
  | succ n ih =>
    intro b1 x2 x3 x4 x5 h1_b1 h2_b1 σ H locs ls hf hh hl
    rw [fX5_visit_18] at hf
    refine lv_iload hx hb dX5_visit_18 (lv_at hl 5 rfl) ?_
    refine lv_aload_n hx hb dX5_visit_20 rfl (lv_at hl 1 rfl) ?_
    refine z_getN (v := .int (σ.1 b1 6)) hx hb hts (fun w h => List.mem_cons_of_mem _ (List.mem_append_left _ (List.mem_append_right _ (h)))) hown E hh (Nat.lt_trans (m := 46) h2_b1 (by decide)) (zC_band h1_b1 h2_b1) rfl 6 (by decide) (zE_f E 15 rfl) rfl dX5_visit_21 ?_
    refine lv_icmp_ge (tgt := 86) hx hb dX5_visit_24 (by decide) (fun c_v1 => ?_) (fun c_v1 => ?_)
    · have hf := z_ip hf c_v1
      have hf := Option.some.inj hf
      subst hf
      exact z_vretX hx hb hr hlocks hh dX5_visit_86
    · have hf := z_in hf c_v1
      refine lv_iload hx hb dX5_visit_27 (lv_at hl 4 rfl) ?_
      refine lv_iload hx hb dX5_visit_29 (lv_at hl 5 rfl) ?_
      refine lv_ishr hx hb dX5_visit_31 ?_
      refine lv_iconst (v := (nI 1)) hx hb dX5_visit_32 (by decide) ?_
      refine lv_iand hx hb dX5_visit_33 ?_
      refine lv_if_ne (tgt := 80) hx hb dX5_visit_34 (by decide) (fun c_v2 => ?_) (fun c_v2 => ?_)
      · have hf := z_in hf c_v2
        exact (hX5_visit_80 C E N rv hrv (fX5_visit_18 N rv n) ih) b1 x2 x3 x4 x5 h1_b1 h2_b1 σ _ _ _ hf hh (lv_sub hl [0, 1, 2, 3, 4, 5] rfl)
      · have hf := z_ip hf c_v2
        refine lv_aload_n hx hb dX5_visit_37 rfl (lv_at hl 1 rfl) ?_
        refine lv_aload_n hx hb dX5_visit_38 rfl (lv_at hl 0 rfl) ?_
        refine z_get (v := .ref (g.2.2 27)) hx hb hts (fun w h => List.mem_cons_of_mem _ (List.mem_append_right _ (h))) hown E hh (by decide) (zC_obj (q := 52) rfl) rfl 0 (by decide) (hts (.fieldLink RX5 9 "TownBand$Towers" "row" "[I") (List.mem_cons_of_mem _ (List.mem_append_left _ (List.mem_append_left _ (List.mem_append_left _ (List.mem_of_getElem? (i := 0) rfl)))))) rfl dX5_visit_39 ?_
        refine lv_iload_n hx hb dX5_visit_42 rfl (lv_at hl 3 rfl) ?_
        refine lv_aload_n hx hb dX5_visit_43 rfl (lv_at hl 1 rfl) ?_
        refine z_getN (v := .ref (g.2.2 (zba b1 1))) hx hb hts (fun w h => List.mem_cons_of_mem _ (List.mem_append_left _ (List.mem_append_right _ (h)))) hown E hh (Nat.lt_trans (m := 46) h2_b1 (by decide)) (zC_band h1_b1 h2_b1) rfl 1 (by decide) (zE_f E 2 rfl) rfl dX5_visit_44 ?_
        refine lv_iload hx hb dX5_visit_47 (lv_at hl 5 rfl) ?_
        obtain ⟨h_v3, hf⟩ := z_if hf
        obtain ⟨v4, e_v4, hf⟩ := z_lt hf
        refine z_iald hx hb E hh (zba_lt h1_b1 h2_b1 (by decide)) h_v3 e_v4 dX5_visit_49 ?_
        obtain ⟨q5, h_q5, hf⟩ := z_bd hf
        refine z_xi (va_runVN (As := [.ref (g.2.2 27), .int x3, .int v4]) (rest := []) ⟨hx, hb, hml, hown, hts⟩ (zcX0_carries l g A σ τ N b1 27 x3 v4 h1_b1 h2_b1 (by decide) h_q5) ⟨va_cnB 3 hts gX5_visit_X0_carries_n53 rfl rfl rfl (zE_m E 27 rfl) (hts (.initialized RX0) (List.mem_cons_of_mem _ (List.mem_append_left _ (List.mem_append_left _ (List.mem_append_left _ (List.mem_of_getElem? (i := 21) rfl)))))) hdX0_carries.2 ⟨by simp only [zR]; omega, by simp only [zR]; omega⟩, (hts (.instanceMethod yX0_carries) (List.mem_cons_of_mem _ (List.mem_append_left _ (List.mem_append_left _ (List.mem_append_right _ (List.mem_append_left _ (List.mem_of_getElem? (i := 12) rfl))))))), (hts (.selects RX0 yX0_carries yX0_carries) (List.mem_cons_of_mem _ (List.mem_append_left _ (List.mem_append_left _ (List.mem_append_right _ (List.mem_append_left _ (List.mem_of_getElem? (i := 13) rfl)))))))⟩ (z_preV E hh (Nat.lt_trans (m := 46) h2_b1 (by decide)) (zC_band h1_b1 h2_b1) rfl) rfl rfl hl.1 rfl (lv_room (Nat.le_of_ble_eq_true rfl)) dX5_visit_50 ⟨Nat.le_refl _, Nat.le_refl _⟩) hh (fun H locs hh => ?_)
        refine lv_if_eq (tgt := 80) hx hb dX5_visit_53 (by decide) (fun c_v6 => ?_) (fun c_v6 => ?_)
        · have hf := z_ip hf c_v6
          exact (hX5_visit_80 C E N rv hrv (fX5_visit_18 N rv n) ih) b1 x2 x3 x4 x5 h1_b1 h2_b1 σ _ _ _ hf hh (lv_sub hl [0, 1, 2, 3, 4, 5] rfl)
        · have hf := z_in hf c_v6
          refine lv_aload_n hx hb dX5_visit_56 rfl (lv_at hl 0 rfl) ?_
          refine z_get (v := .ref (g.2.2 27)) hx hb hts (fun w h => List.mem_cons_of_mem _ (List.mem_append_right _ (h))) hown E hh (by decide) (zC_obj (q := 52) rfl) rfl 0 (by decide) (hts (.fieldLink RX5 9 "TownBand$Towers" "row" "[I") (List.mem_cons_of_mem _ (List.mem_append_left _ (List.mem_append_left _ (List.mem_append_left _ (List.mem_of_getElem? (i := 0) rfl)))))) rfl dX5_visit_57 ?_
          refine lv_iload_n hx hb dX5_visit_60 rfl (lv_at hl 3 rfl) ?_
          refine lv_iload hx hb dX5_visit_61 (lv_at hl 5 rfl) ?_
          obtain ⟨h_v7, hf⟩ := z_if hf
          obtain ⟨σ8, e_σ8, hf⟩ := z_lt hf
          refine z_iast hx hb E hh (by decide) h_v7 e_σ8 dX5_visit_63 (fun H locs hh => ?_)
          refine lv_aload_n hx hb dX5_visit_64 rfl (lv_at hl 0 rfl) ?_
          refine lv_aload_n hx hb dX5_visit_65 rfl (lv_at hl 1 rfl) ?_
          refine lv_iload_n hx hb dX5_visit_66 rfl (lv_at hl 2 rfl) ?_
          refine lv_iload_n hx hb dX5_visit_67 rfl (lv_at hl 3 rfl) ?_
          refine lv_iconst (v := (nI 1)) hx hb dX5_visit_68 (by decide) ?_
          refine lv_iadd hx hb dX5_visit_69 ?_
          refine lv_iload hx hb dX5_visit_70 (lv_at hl 4 rfl) ?_
          refine lv_iconst (v := (nI 1)) hx hb dX5_visit_72 (by decide) ?_
          refine lv_iload hx hb dX5_visit_73 (lv_at hl 5 rfl) ?_
          refine lv_ishl hx hb dX5_visit_75 ?_
          refine lv_ior hx hb dX5_visit_76 ?_
          obtain ⟨q9, h_q9, hf⟩ := z_bd hf
          refine z_xv (va_runS (As := [.ref (g.2.2 52), .ref (g.2.2 b1), .int x2, .int (x3 + (nI 1)), .int (x4 ||| ((nI 1) <<< (x5 &&& 31)))]) (rest := []) ⟨hx, hb, hml, hown, hts⟩ (hrv σ8 b1 x2 (x3 + (nI 1)) (x4 ||| ((nI 1) <<< (x5 &&& 31))) h1_b1 h2_b1 _ h_q9) (va_cwS 5 hts gX5_visit_X5_visit rfl rfl rfl hdX5_visit.2 ⟨by simp only [zR]; omega, by simp only [zR]; omega⟩) (z_preS E hh) rfl rfl hl.1 rfl (lv_room (Nat.le_of_ble_eq_true rfl)) dX5_visit_77 ⟨Nat.le_refl _, Nat.le_refl _⟩) hh (fun H locs hh => ?_)
          exact (hX5_visit_80 C E N rv hrv (fX5_visit_18 N rv n) ih) b1 x2 x3 x4 x5 h1_b1 h2_b1 q9 _ _ _ hf hh (lv_sub hl [0, 1, 2, 3, 4, 5] rfl)
def fX5_visit_B (N : Nat) (rv : Nat → zS → Nat → Int32 → Int32 → Int32 → Option (zS)) (σ : zS) (b1 : Nat) (x2 : Int32) (x3 : Int32) (x4 : Int32) : Option (zS) :=
  (fX5_weigh N σ b1 x2 x3 x4).bind fun q1 =>
  if x3 < (nI 5) then
    (fX5_visit_18 N rv N) b1 x2 x3 x4 (nI 0) q1
  else
    some q1
def fX5_visit_D : Nat → Nat → zS → Nat → Int32 → Int32 → Int32 → Option (zS)
  | 0, _, _, _, _, _, _ => none
  | d + 1, N, σ, b1, x2, x3, x4 => fX5_visit_B N (fX5_visit_D d) σ b1 x2 x3 x4
def fX5_visit (N : Nat) (σ : zS) (b1 : Nat) (x2 : Int32) (x3 : Int32) (x4 : Int32) : Option (zS) := fX5_visit_D 7 N σ b1 x2 x3 x4
set_option maxRecDepth 100000 in
set_option maxHeartbeats 4000000 in
theorem zcX5_visit_D (l : Launch) (g : zG) (A : Nat → Prop) (τ : zS) (N : Nat) : ∀ d : Nat, ∀ (σ : zS) (b1 : Nat) (x2 : Int32) (x3 : Int32) (x4 : Int32) (h1_b1 : 42 ≤ b1) (h2_b1 : b1 < 46) (res : zS), fX5_visit_D d N σ b1 x2 x3 x4 = some res → Met l yX5_visit wsX5_visit (zR (d + 3)) (zPc g A σ τ [.ref (g.2.2 52), .ref (g.2.2 b1), .int x2, .int x3, .int x4]) (zQv g A τ res) 0 0 A := by
  intro d
  induction d with
  | zero =>
    intro σ b1 x2 x3 x4 h1_b1 h2_b1 res hf
    exact absurd hf (by simp [fX5_visit_D])
  | succ d hrv =>
    intro σ b1 x2 x3 x4 h1_b1 h2_b1 res hf
    rw [fX5_visit_D] at hf
    generalize fX5_visit_D d = rv at hf hrv
    rw [show d + 1 + 3 = d + 1 + 3 from rfl]
    refine z_met (cc := cX5_visit) (ret := none) (own := RX5) (by decide) rfl rfl _ (Nat.le_of_ble_eq_true rfl) ?_
    intro p e s m below meth c C E ls hl hh
    have hl : lv_has ls 6 [(0, .ref (g.2.2 52)), (1, .ref (g.2.2 b1)), (2, .int x2), (3, .int x3), (4, .int x4)] := hl
    obtain ⟨hx, hb, hr, hml, hown, hts, hlocks⟩ := id C
    unfold fX5_visit_B at hf
    refine lv_aload_n hx hb dX5_visit_0 rfl (lv_at hl 0 rfl) ?_
    refine lv_aload_n hx hb dX5_visit_1 rfl (lv_at hl 1 rfl) ?_
    refine lv_iload_n hx hb dX5_visit_2 rfl (lv_at hl 2 rfl) ?_
    refine lv_iload_n hx hb dX5_visit_3 rfl (lv_at hl 3 rfl) ?_
    refine lv_iload hx hb dX5_visit_4 (lv_at hl 4 rfl) ?_
    obtain ⟨q1, h_q1, hf⟩ := z_bd hf
    refine z_xv (va_runV (As := [.ref (g.2.2 b1), .int x2, .int x3, .int x4]) (rest := []) ⟨hx, hb, hml, hown, hts⟩ (zcX5_weigh l g A σ τ N b1 x2 x3 x4 h1_b1 h2_b1 h_q1) (cwV 4 hts gX5_visit_X5_weigh rfl rfl rfl hdX5_weigh ⟨by simp only [zR]; omega, by simp only [zR]; omega⟩) (z_preV E hh (by decide) (zC_obj (q := 52) rfl) rfl) rfl rfl hl.1 rfl (lv_room (Nat.le_of_ble_eq_true rfl)) dX5_visit_6 ⟨Nat.le_refl _, Nat.le_refl _⟩) hh (fun H locs hh => ?_)
    refine lv_iload_n hx hb dX5_visit_9 rfl (lv_at hl 3 rfl) ?_
    refine lv_iconst (v := (nI 5)) hx hb dX5_visit_10 (by decide) ?_
    refine lv_icmp_lt (tgt := 15) hx hb dX5_visit_11 (by decide) (fun c_v2 => ?_) (fun c_v2 => ?_)
    · have hf := z_ip hf c_v2
      refine lv_iconst (v := (nI 0)) hx hb dX5_visit_15 (by decide) ?_
      refine lv_istore (lv' := [(5, .int (nI 0)), (0, .ref (g.2.2 52)), (1, .ref (g.2.2 b1)), (2, .int x2), (3, .int x3), (4, .int x4)]) hx hb dX5_visit_16 hl (by decide) rfl (fun ls hl => ?_)
      exact (hX5_visit_18 C E N rv hrv N) b1 x2 x3 x4 (nI 0) h1_b1 h2_b1 q1 _ _ _ hf hh (lv_sub hl [1, 2, 3, 4, 5, 0] rfl)
    · have hf := z_in hf c_v2
      have hf := Option.some.inj hf
      subst hf
      exact z_vretX hx hb hr hlocks hh dX5_visit_14
theorem zcX5_visit (l : Launch) (g : zG) (A : Nat → Prop) (σ τ : zS) (N : Nat) (b1 : Nat) (x2 : Int32) (x3 : Int32) (x4 : Int32) (h1_b1 : 42 ≤ b1) (h2_b1 : b1 < 46) {res : zS} (hf : fX5_visit N σ b1 x2 x3 x4 = some res) : Met l yX5_visit wsX5_visit (zR 10) (zPc g A σ τ [.ref (g.2.2 52), .ref (g.2.2 b1), .int x2, .int x3, .int x4]) (zQv g A τ res) 0 0 A := zcX5_visit_D l g A τ N 7 σ b1 x2 x3 x4 h1_b1 h2_b1 res hf
/-! ===== X5_spreadValues ===== -/
theorem hdX5_spreadValues : yX5_spreadValues.cls = RX5 ∧ yX5_spreadValues.cls ≠ "java/lang/invoke/MethodHandle" ∧ yX5_spreadValues.cls ≠ "java/lang/invoke/VarHandle" ∧ (parseMethodDescriptor yX5_spreadValues.desc).map (fun d => d.parameters.length) = some 0 := by decide +kernel
def PX5_spreadValues_58 (p : Program) (l : Launch) (e : Env) (s : State) (m : MethodId) (args : Array Value) (below : List Frame) (meth : Method) (c : Code) (g : zG) (A : Nat → Prop) (τ : zS) (res : zS) (f : Int32 → zS → Option (zS)) : Prop := ∀ (x1 : Int32) (σ : zS) (H : Heap) (locs : List Loc) (ls : Array Slot), f x1 σ = some res → zW g A σ τ s H locs → lv_has ls 3 [(0, .ref (g.2.2 52)), (1, .int x1)] → W p l e (zR 1) s m args below meth c H locs 0 0 (MQ below (zQv g A τ res) args s 0 0 A) (F0 m 58 ls [])
def PX5_spreadValues_52 (p : Program) (l : Launch) (e : Env) (s : State) (m : MethodId) (args : Array Value) (below : List Frame) (meth : Method) (c : Code) (g : zG) (A : Nat → Prop) (τ : zS) (res : zS) (f : Int32 → Int32 → zS → Option (zS)) : Prop := ∀ (x1 : Int32) (x2 : Int32) (σ : zS) (H : Heap) (locs : List Loc) (ls : Array Slot), f x1 x2 σ = some res → zW g A σ τ s H locs → lv_has ls 3 [(0, .ref (g.2.2 52)), (1, .int x1), (2, .int x2)] → W p l e (zR 1) s m args below meth c H locs 0 0 (MQ below (zQv g A τ res) args s 0 0 A) (F0 m 52 ls [])
def PX5_spreadValues_9 (p : Program) (l : Launch) (e : Env) (s : State) (m : MethodId) (args : Array Value) (below : List Frame) (meth : Method) (c : Code) (g : zG) (A : Nat → Prop) (τ : zS) (res : zS) (f : Int32 → Int32 → zS → Option (zS)) : Prop := ∀ (x1 : Int32) (x2 : Int32) (σ : zS) (H : Heap) (locs : List Loc) (ls : Array Slot), f x1 x2 σ = some res → zW g A σ τ s H locs → lv_has ls 3 [(0, .ref (g.2.2 52)), (1, .int x1), (2, .int x2)] → W p l e (zR 1) s m args below meth c H locs 0 0 (MQ below (zQv g A τ res) args s 0 0 A) (F0 m 9 ls [])
def PX5_spreadValues_2 (p : Program) (l : Launch) (e : Env) (s : State) (m : MethodId) (args : Array Value) (below : List Frame) (meth : Method) (c : Code) (g : zG) (A : Nat → Prop) (τ : zS) (res : zS) (f : Int32 → zS → Option (zS)) : Prop := ∀ (x1 : Int32) (σ : zS) (H : Heap) (locs : List Loc) (ls : Array Slot), f x1 σ = some res → zW g A σ τ s H locs → lv_has ls 3 [(0, .ref (g.2.2 52)), (1, .int x1)] → W p l e (zR 1) s m args below meth c H locs 0 0 (MQ below (zQv g A τ res) args s 0 0 A) (F0 m 2 ls [])
def fX5_spreadValues_58 (N : Nat) (rc : Int32 → zS → Option (zS)) (x1 : Int32) (σ : zS) : Option (zS) :=
  rc (x1 + (nI 1)) σ
set_option maxRecDepth 100000 in
set_option maxHeartbeats 4000000 in
theorem hX5_spreadValues_58 {p : Program} {l : Launch} {e : Env} {s : State} {m : MethodId} {args : Array Value} {below : List Frame} {meth : Method} {c : Code} {g : zG} {A : Nat → Prop} {τ : zS} {res : zS} (C : zCx p s m args meth c cX5_spreadValues none wsX5_spreadValues RX5 3) (E : zE g A s) (N : Nat) (rc : Int32 → zS → Option (zS)) (hrc : PX5_spreadValues_2 p l e s m args below meth c g A τ res rc) : PX5_spreadValues_58 p l e s m args below meth c g A τ res (fX5_spreadValues_58 N rc) := by
  obtain ⟨hx, hb, hr, hml, hown, hts, hlocks⟩ := id C
  intro x1 σ H locs ls hf hh hl
  unfold fX5_spreadValues_58 at hf
  refine lv_iinc (v := (x1 + (nI 1))) (lv' := [(1, .int (x1 + (nI 1))), (0, .ref (g.2.2 52))]) hx hb dX5_spreadValues_58 hl (k := 1) rfl rfl (by decide) rfl (fun ls hl => ?_)
  refine lv_goto (tgt := 2) hx hb dX5_spreadValues_61 (by decide) ?_
  exact hrc (x1 + (nI 1)) σ _ _ _ hf hh (lv_sub hl [1, 0] rfl)
def fX5_spreadValues_52 (N : Nat) (rc : Int32 → Int32 → zS → Option (zS)) (k_58 : Int32 → zS → Option (zS)) (x1 : Int32) (x2 : Int32) (σ : zS) : Option (zS) :=
  rc x1 (x2 + (nI 1)) σ
set_option maxRecDepth 100000 in
set_option maxHeartbeats 4000000 in
theorem hX5_spreadValues_52 {p : Program} {l : Launch} {e : Env} {s : State} {m : MethodId} {args : Array Value} {below : List Frame} {meth : Method} {c : Code} {g : zG} {A : Nat → Prop} {τ : zS} {res : zS} (C : zCx p s m args meth c cX5_spreadValues none wsX5_spreadValues RX5 3) (E : zE g A s) (N : Nat) (rc : Int32 → Int32 → zS → Option (zS)) (hrc : PX5_spreadValues_9 p l e s m args below meth c g A τ res rc) (k_58 : Int32 → zS → Option (zS)) (hk_58 : PX5_spreadValues_58 p l e s m args below meth c g A τ res k_58) : PX5_spreadValues_52 p l e s m args below meth c g A τ res (fX5_spreadValues_52 N rc k_58) := by
  obtain ⟨hx, hb, hr, hml, hown, hts, hlocks⟩ := id C
  intro x1 x2 σ H locs ls hf hh hl
  unfold fX5_spreadValues_52 at hf
  refine lv_iinc (v := (x2 + (nI 1))) (lv' := [(2, .int (x2 + (nI 1))), (0, .ref (g.2.2 52)), (1, .int x1)]) hx hb dX5_spreadValues_52 hl (k := 2) rfl rfl (by decide) rfl (fun ls hl => ?_)
  refine lv_goto (tgt := 9) hx hb dX5_spreadValues_55 (by decide) ?_
  exact hrc x1 (x2 + (nI 1)) σ _ _ _ hf hh (lv_sub hl [1, 2, 0] rfl)
def fX5_spreadValues_9 (N : Nat) (k_58 : Int32 → zS → Option (zS)) : Nat → Int32 → Int32 → zS → Option (zS)
  | 0, _, _, _ => none
  | n + 1, x1, x2, σ =>
    if (Int32.ofNat (zlen 29)) ≤ x2 then
      k_58 x1 σ
    else
      if ((x2 >>> (x1 &&& 31)) &&& (nI 1)) = (nI 1) then
        if zin x2 (zlen 29) then
        zlet (σ.2 29 x2.toNatClampNeg) fun v4 =>
        if zin (x2 ^^^ ((nI 1) <<< (x1 &&& 31))) (zlen 29) then
        zlet (σ.2 29 (x2 ^^^ ((nI 1) <<< (x1 &&& 31))).toNatClampNeg) fun v6 =>
        zlet (if v4 < v6 then v6 else v4) fun v7 =>
        if zin x2 (zlen 29) then
        zlet (zpa σ 29 (upd (σ.2 29) x2.toNatClampNeg v7)) fun σ9 =>
        (fX5_spreadValues_52 N (fX5_spreadValues_9 N k_58 n) k_58) x1 x2 σ9
        else none
        else none
        else none
      else
        (fX5_spreadValues_52 N (fX5_spreadValues_9 N k_58 n) k_58) x1 x2 σ
set_option maxRecDepth 100000 in
set_option maxHeartbeats 4000000 in
theorem hX5_spreadValues_9 {p : Program} {l : Launch} {e : Env} {s : State} {m : MethodId} {args : Array Value} {below : List Frame} {meth : Method} {c : Code} {g : zG} {A : Nat → Prop} {τ : zS} {res : zS} (C : zCx p s m args meth c cX5_spreadValues none wsX5_spreadValues RX5 3) (E : zE g A s) (N : Nat) (k_58 : Int32 → zS → Option (zS)) (hk_58 : PX5_spreadValues_58 p l e s m args below meth c g A τ res k_58) : ∀ n : Nat, PX5_spreadValues_9 p l e s m args below meth c g A τ res (fX5_spreadValues_9 N k_58 n) := by
  obtain ⟨hx, hb, hr, hml, hown, hts, hlocks⟩ := id C
  intro n
  induction n with
  | zero =>
    intro x1 x2 σ H locs ls hf
    exact absurd hf (by simp [fX5_spreadValues_9])
  | succ n ih =>
    intro x1 x2 σ H locs ls hf hh hl
    rw [fX5_spreadValues_9] at hf
    refine lv_iload_n hx hb dX5_spreadValues_9 rfl (lv_at hl 2 rfl) ?_
    refine lv_aload_n hx hb dX5_spreadValues_10 rfl (lv_at hl 0 rfl) ?_
    refine z_get (v := .ref (g.2.2 29)) hx hb hts (fun w h => List.mem_cons_of_mem _ (List.mem_append_right _ (h))) hown E hh (by decide) (zC_obj (q := 52) rfl) rfl 2 (by decide) (hts (.fieldLink RX5 18 "TownBand$Towers" "values" "[I") (List.mem_cons_of_mem _ (List.mem_append_left _ (List.mem_of_getElem? (i := 0) rfl)))) rfl dX5_spreadValues_11 ?_
    refine z_alen hx hb E hh (by decide) dX5_spreadValues_14 ?_
    refine lv_icmp_ge (tgt := 58) hx hb dX5_spreadValues_15 (by decide) (fun c_v1 => ?_) (fun c_v1 => ?_)
    · have hf := z_ip hf c_v1
      exact hk_58 x1 σ _ _ _ hf hh (lv_sub hl [0, 1] rfl)
    · have hf := z_in hf c_v1
      refine lv_iload_n hx hb dX5_spreadValues_18 rfl (lv_at hl 2 rfl) ?_
      refine lv_iload_n hx hb dX5_spreadValues_19 rfl (lv_at hl 1 rfl) ?_
      refine lv_ishr hx hb dX5_spreadValues_20 ?_
      refine lv_iconst (v := (nI 1)) hx hb dX5_spreadValues_21 (by decide) ?_
      refine lv_iand hx hb dX5_spreadValues_22 ?_
      refine lv_iconst (v := (nI 1)) hx hb dX5_spreadValues_23 (by decide) ?_
      refine lv_icmp_ne (tgt := 52) hx hb dX5_spreadValues_24 (by decide) (fun c_v2 => ?_) (fun c_v2 => ?_)
      · have hf := z_in hf c_v2
        exact (hX5_spreadValues_52 C E N (fX5_spreadValues_9 N k_58 n) ih k_58 hk_58) x1 x2 σ _ _ _ hf hh (lv_sub hl [0, 1, 2] rfl)
      · have hf := z_ip hf c_v2
        refine lv_aload_n hx hb dX5_spreadValues_27 rfl (lv_at hl 0 rfl) ?_
        refine z_get (v := .ref (g.2.2 29)) hx hb hts (fun w h => List.mem_cons_of_mem _ (List.mem_append_right _ (h))) hown E hh (by decide) (zC_obj (q := 52) rfl) rfl 2 (by decide) (hts (.fieldLink RX5 18 "TownBand$Towers" "values" "[I") (List.mem_cons_of_mem _ (List.mem_append_left _ (List.mem_of_getElem? (i := 0) rfl)))) rfl dX5_spreadValues_28 ?_
        refine lv_iload_n hx hb dX5_spreadValues_31 rfl (lv_at hl 2 rfl) ?_
        refine lv_aload_n hx hb dX5_spreadValues_32 rfl (lv_at hl 0 rfl) ?_
        refine z_get (v := .ref (g.2.2 29)) hx hb hts (fun w h => List.mem_cons_of_mem _ (List.mem_append_right _ (h))) hown E hh (by decide) (zC_obj (q := 52) rfl) rfl 2 (by decide) (hts (.fieldLink RX5 18 "TownBand$Towers" "values" "[I") (List.mem_cons_of_mem _ (List.mem_append_left _ (List.mem_of_getElem? (i := 0) rfl)))) rfl dX5_spreadValues_33 ?_
        refine lv_iload_n hx hb dX5_spreadValues_36 rfl (lv_at hl 2 rfl) ?_
        obtain ⟨h_v3, hf⟩ := z_if hf
        obtain ⟨v4, e_v4, hf⟩ := z_lt hf
        refine z_iald hx hb E hh (by decide) h_v3 e_v4 dX5_spreadValues_37 ?_
        refine lv_aload_n hx hb dX5_spreadValues_38 rfl (lv_at hl 0 rfl) ?_
        refine z_get (v := .ref (g.2.2 29)) hx hb hts (fun w h => List.mem_cons_of_mem _ (List.mem_append_right _ (h))) hown E hh (by decide) (zC_obj (q := 52) rfl) rfl 2 (by decide) (hts (.fieldLink RX5 18 "TownBand$Towers" "values" "[I") (List.mem_cons_of_mem _ (List.mem_append_left _ (List.mem_of_getElem? (i := 0) rfl)))) rfl dX5_spreadValues_39 ?_
        refine lv_iload_n hx hb dX5_spreadValues_42 rfl (lv_at hl 2 rfl) ?_
        refine lv_iconst (v := (nI 1)) hx hb dX5_spreadValues_43 (by decide) ?_
        refine lv_iload_n hx hb dX5_spreadValues_44 rfl (lv_at hl 1 rfl) ?_
        refine lv_ishl hx hb dX5_spreadValues_45 ?_
        refine lv_ixor hx hb dX5_spreadValues_46 ?_
        obtain ⟨h_v5, hf⟩ := z_if hf
        obtain ⟨v6, e_v6, hf⟩ := z_lt hf
        refine z_iald hx hb E hh (by decide) h_v5 e_v6 dX5_spreadValues_47 ?_
        obtain ⟨v7, e_v7, hf⟩ := z_lt hf
        refine va_mmax hx hb (hml.trans hl.1.symm) hown (hts (.methodLink RX5 73 Lib.Math.max.name) (List.mem_cons_of_mem _ (List.mem_append_left _ (List.mem_of_getElem? (i := 1) rfl)))) (hts (.static Lib.Math.max.name) (List.mem_cons_of_mem _ (List.mem_append_left _ (List.mem_of_getElem? (i := 2) rfl)))) (hts (.initialized "java/lang/Math") (List.mem_cons_of_mem _ (List.mem_append_left _ (List.mem_of_getElem? (i := 3) rfl)))) (hts (.code Lib.Math.max.name Lib.Math.max.code 2 (some .int)) (List.mem_cons_of_mem _ (List.mem_append_left _ (List.mem_of_getElem? (i := 4) rfl)))) (by decide) (Nat.le_of_ble_eq_true rfl) (Nat.le_refl _) (Nat.le_refl _) dX5_spreadValues_48 ?_
        refine z_topi e_v7 ?_
        obtain ⟨h_v8, hf⟩ := z_if hf
        obtain ⟨σ9, e_σ9, hf⟩ := z_lt hf
        refine z_iast hx hb E hh (by decide) h_v8 e_σ9 dX5_spreadValues_51 (fun H locs hh => ?_)
        exact (hX5_spreadValues_52 C E N (fX5_spreadValues_9 N k_58 n) ih k_58 hk_58) x1 x2 σ9 _ _ _ hf hh (lv_sub hl [0, 1, 2] rfl)
def fX5_spreadValues_2 (N : Nat) : Nat → Int32 → zS → Option (zS)
  | 0, _, _ => none
  | n + 1, x1, σ =>
    if (nI 5) ≤ x1 then
      some σ
    else
      (fX5_spreadValues_9 N (fX5_spreadValues_58 N (fX5_spreadValues_2 N n)) N) x1 (nI 0) σ
set_option maxRecDepth 100000 in
set_option maxHeartbeats 4000000 in
theorem hX5_spreadValues_2 {p : Program} {l : Launch} {e : Env} {s : State} {m : MethodId} {args : Array Value} {below : List Frame} {meth : Method} {c : Code} {g : zG} {A : Nat → Prop} {τ : zS} {res : zS} (C : zCx p s m args meth c cX5_spreadValues none wsX5_spreadValues RX5 3) (E : zE g A s) (N : Nat) : ∀ n : Nat, PX5_spreadValues_2 p l e s m args below meth c g A τ res (fX5_spreadValues_2 N n) := by
  obtain ⟨hx, hb, hr, hml, hown, hts, hlocks⟩ := id C
  intro n
  induction n with
  | zero =>
    intro x1 σ H locs ls hf
    exact absurd hf (by simp [fX5_spreadValues_2])
  | succ n ih =>
    intro x1 σ H locs ls hf hh hl
    rw [fX5_spreadValues_2] at hf
    refine lv_iload_n hx hb dX5_spreadValues_2 rfl (lv_at hl 1 rfl) ?_
    refine lv_iconst (v := (nI 5)) hx hb dX5_spreadValues_3 (by decide) ?_
    refine lv_icmp_ge (tgt := 64) hx hb dX5_spreadValues_4 (by decide) (fun c_v1 => ?_) (fun c_v1 => ?_)
    · have hf := z_ip hf c_v1
      have hf := Option.some.inj hf
      subst hf
      exact z_vretX hx hb hr hlocks hh dX5_spreadValues_64
    · have hf := z_in hf c_v1
      refine lv_iconst (v := (nI 0)) hx hb dX5_spreadValues_7 (by decide) ?_
      refine lv_istore_n (lv' := [(2, .int (nI 0)), (0, .ref (g.2.2 52)), (1, .int x1)]) hx hb dX5_spreadValues_8 rfl hl (by decide) rfl (fun ls hl => ?_)
      exact (hX5_spreadValues_9 C E N (fX5_spreadValues_58 N (fX5_spreadValues_2 N n)) (hX5_spreadValues_58 C E N (fX5_spreadValues_2 N n) ih) N) x1 (nI 0) σ _ _ _ hf hh (lv_sub hl [1, 2, 0] rfl)
def fX5_spreadValues (N : Nat) (σ : zS)  : Option (zS) :=
  (fX5_spreadValues_2 N N) (nI 0) σ
set_option maxRecDepth 100000 in
set_option maxHeartbeats 4000000 in
theorem zcX5_spreadValues (l : Launch) (g : zG) (A : Nat → Prop) (σ τ : zS) (N : Nat)   {res : zS} (hf : fX5_spreadValues N σ = some res) : Met l yX5_spreadValues wsX5_spreadValues (zR 1) (zPc g A σ τ [.ref (g.2.2 52)]) (zQv g A τ res) 0 0 A := by
  refine z_met (cc := cX5_spreadValues) (ret := none) (own := RX5) (by decide) rfl rfl _ (Nat.le_of_ble_eq_true rfl) ?_
  intro p e s m below meth c C E ls hl hh
  have hl : lv_has ls 3 [(0, .ref (g.2.2 52))] := hl
  obtain ⟨hx, hb, hr, hml, hown, hts, hlocks⟩ := id C
  unfold fX5_spreadValues at hf
  refine lv_iconst (v := (nI 0)) hx hb dX5_spreadValues_0 (by decide) ?_
  refine lv_istore_n (lv' := [(1, .int (nI 0)), (0, .ref (g.2.2 52))]) hx hb dX5_spreadValues_1 rfl hl (by decide) rfl (fun ls hl => ?_)
  exact (hX5_spreadValues_2 C E N N) (nI 0) σ _ _ _ hf hh (lv_sub hl [1, 0] rfl)
/-! ===== X5_walk ===== -/
theorem hdX5_walk : yX5_walk.cls = RX5 ∧ yX5_walk.cls ≠ "java/lang/invoke/MethodHandle" ∧ yX5_walk.cls ≠ "java/lang/invoke/VarHandle" ∧ (parseMethodDescriptor yX5_walk.desc).map (fun d => d.parameters.length) = some 2 := by decide +kernel
def PX5_walk_24 (p : Program) (l : Launch) (e : Env) (s : State) (m : MethodId) (args : Array Value) (below : List Frame) (meth : Method) (c : Code) (g : zG) (A : Nat → Prop) (τ : zS) (res : zS) (f : Nat → Int32 → zS → Option (zS)) : Prop := ∀ (b1 : Nat) (x2 : Int32) (h1_b1 : 42 ≤ b1) (h2_b1 : b1 < 46) (σ : zS) (H : Heap) (locs : List Loc) (ls : Array Slot), f b1 x2 σ = some res → zW g A σ τ s H locs → lv_has ls 4 [(0, .ref (g.2.2 52)), (1, .ref (g.2.2 b1)), (2, .int x2)] → W p l e (zR 11) s m args below meth c H locs 0 0 (MQ below (zQv g A τ res) args s 0 0 A) (F0 m 24 ls [])
def PX5_walk_2 (p : Program) (l : Launch) (e : Env) (s : State) (m : MethodId) (args : Array Value) (below : List Frame) (meth : Method) (c : Code) (g : zG) (A : Nat → Prop) (τ : zS) (res : zS) (f : Nat → Int32 → Int32 → zS → Option (zS)) : Prop := ∀ (b1 : Nat) (x2 : Int32) (x3 : Int32) (h1_b1 : 42 ≤ b1) (h2_b1 : b1 < 46) (σ : zS) (H : Heap) (locs : List Loc) (ls : Array Slot), f b1 x2 x3 σ = some res → zW g A σ τ s H locs → lv_has ls 4 [(0, .ref (g.2.2 52)), (1, .ref (g.2.2 b1)), (2, .int x2), (3, .int x3)] → W p l e (zR 11) s m args below meth c H locs 0 0 (MQ below (zQv g A τ res) args s 0 0 A) (F0 m 2 ls [])
def fX5_walk_24 (N : Nat) (b1 : Nat) (x2 : Int32) (σ : zS) : Option (zS) :=
  zlet (zpf σ 52 6 (nI 0)) fun σ1 =>
  zlet (zpf σ1 52 3 (nI 0)) fun σ2 =>
  zlet (zpf σ2 52 4 (-1)) fun σ3 =>
  zlet (zpf σ3 52 5 (nI 0)) fun σ4 =>
  (fX5_visit N σ4 b1 x2 (nI 0) (nI 0)).bind fun q5 =>
  (fX5_spreadValues N q5).bind fun q6 =>
  some q6
set_option maxRecDepth 100000 in
set_option maxHeartbeats 4000000 in
theorem hX5_walk_24 {p : Program} {l : Launch} {e : Env} {s : State} {m : MethodId} {args : Array Value} {below : List Frame} {meth : Method} {c : Code} {g : zG} {A : Nat → Prop} {τ : zS} {res : zS} (C : zCx p s m args meth c cX5_walk none wsX5_walk RX5 4) (E : zE g A s) (N : Nat) : PX5_walk_24 p l e s m args below meth c g A τ res (fX5_walk_24 N) := by
  obtain ⟨hx, hb, hr, hml, hown, hts, hlocks⟩ := id C
  intro b1 x2 h1_b1 h2_b1 σ H locs ls hf hh hl
  unfold fX5_walk_24 at hf
  refine lv_aload_n hx hb dX5_walk_24 rfl (lv_at hl 0 rfl) ?_
  refine lv_iconst (v := (nI 0)) hx hb dX5_walk_25 (by decide) ?_
  obtain ⟨σ1, e_σ1, hf⟩ := z_lt hf
  refine z_put hx hb hts (fun w h => List.mem_cons_of_mem _ (List.mem_append_left _ (List.mem_append_right _ (h)))) tyX5 tyX5_ok nmX5 hown E hh (by decide) (show zD 52 = _ from rfl) rfl 6 (by decide) rfl (hts (.fieldLink RX5 21 "TownBand$Towers" "total" "I") (List.mem_cons_of_mem _ (List.mem_append_left _ (List.mem_append_left _ (List.mem_append_left _ (List.mem_of_getElem? (i := 1) rfl)))))) rfl rfl e_σ1 dX5_walk_26 (fun H locs hh => ?_)
  refine lv_aload_n hx hb dX5_walk_29 rfl (lv_at hl 0 rfl) ?_
  refine lv_iconst (v := (nI 0)) hx hb dX5_walk_30 (by decide) ?_
  obtain ⟨σ2, e_σ2, hf⟩ := z_lt hf
  refine z_put hx hb hts (fun w h => List.mem_cons_of_mem _ (List.mem_append_left _ (List.mem_append_right _ (h)))) tyX5 tyX5_ok nmX5 hown E hh (by decide) (show zD 52 = _ from rfl) rfl 3 (by decide) rfl (hts (.fieldLink RX5 25 "TownBand$Towers" "foundSize" "I") (List.mem_cons_of_mem _ (List.mem_append_left _ (List.mem_append_left _ (List.mem_append_left _ (List.mem_of_getElem? (i := 2) rfl)))))) rfl rfl e_σ2 dX5_walk_31 (fun H locs hh => ?_)
  refine lv_aload_n hx hb dX5_walk_34 rfl (lv_at hl 0 rfl) ?_
  refine lv_iconst (v := (-1)) hx hb dX5_walk_35 (by decide) ?_
  obtain ⟨σ3, e_σ3, hf⟩ := z_lt hf
  refine z_put hx hb hts (fun w h => List.mem_cons_of_mem _ (List.mem_append_left _ (List.mem_append_right _ (h)))) tyX5 tyX5_ok nmX5 hown E hh (by decide) (show zD 52 = _ from rfl) rfl 4 (by decide) rfl (hts (.fieldLink RX5 28 "TownBand$Towers" "foundScore" "I") (List.mem_cons_of_mem _ (List.mem_append_left _ (List.mem_append_left _ (List.mem_append_left _ (List.mem_of_getElem? (i := 3) rfl)))))) rfl rfl e_σ3 dX5_walk_36 (fun H locs hh => ?_)
  refine lv_aload_n hx hb dX5_walk_39 rfl (lv_at hl 0 rfl) ?_
  refine lv_iconst (v := (nI 0)) hx hb dX5_walk_40 (by decide) ?_
  obtain ⟨σ4, e_σ4, hf⟩ := z_lt hf
  refine z_put hx hb hts (fun w h => List.mem_cons_of_mem _ (List.mem_append_left _ (List.mem_append_right _ (h)))) tyX5 tyX5_ok nmX5 hown E hh (by decide) (show zD 52 = _ from rfl) rfl 5 (by decide) rfl (hts (.fieldLink RX5 31 "TownBand$Towers" "foundNoise" "I") (List.mem_cons_of_mem _ (List.mem_append_left _ (List.mem_append_left _ (List.mem_append_left _ (List.mem_of_getElem? (i := 4) rfl)))))) rfl rfl e_σ4 dX5_walk_41 (fun H locs hh => ?_)
  refine lv_aload_n hx hb dX5_walk_44 rfl (lv_at hl 0 rfl) ?_
  refine lv_aload_n hx hb dX5_walk_45 rfl (lv_at hl 1 rfl) ?_
  refine lv_iload_n hx hb dX5_walk_46 rfl (lv_at hl 2 rfl) ?_
  refine lv_iconst (v := (nI 0)) hx hb dX5_walk_47 (by decide) ?_
  refine lv_iconst (v := (nI 0)) hx hb dX5_walk_48 (by decide) ?_
  obtain ⟨q5, h_q5, hf⟩ := z_bd hf
  refine z_xv (va_runS (As := [.ref (g.2.2 52), .ref (g.2.2 b1), .int x2, .int (nI 0), .int (nI 0)]) (rest := []) ⟨hx, hb, hml, hown, hts⟩ (zcX5_visit l g A σ4 τ N b1 x2 (nI 0) (nI 0) h1_b1 h2_b1 h_q5) (va_cwS 5 hts gX5_walk_X5_visit rfl rfl rfl hdX5_visit.2 ⟨by decide, by decide⟩) (z_preS E hh) rfl rfl hl.1 rfl (lv_room (Nat.le_of_ble_eq_true rfl)) dX5_walk_49 ⟨Nat.le_refl _, Nat.le_refl _⟩) hh (fun H locs hh => ?_)
  refine lv_aload_n hx hb dX5_walk_52 rfl (lv_at hl 0 rfl) ?_
  obtain ⟨q6, h_q6, hf⟩ := z_bd hf
  refine z_xv (va_runV (As := []) (rest := []) ⟨hx, hb, hml, hown, hts⟩ (zcX5_spreadValues l g A q5 τ N  h_q6) (cwV 0 hts gX5_walk_X5_spreadValues rfl rfl rfl hdX5_spreadValues ⟨by decide, by decide⟩) (z_preV E hh (by decide) (zC_obj (q := 52) rfl) rfl) rfl rfl hl.1 rfl (lv_room (Nat.le_of_ble_eq_true rfl)) dX5_walk_53 ⟨Nat.le_refl _, Nat.le_refl _⟩) hh (fun H locs hh => ?_)
  have hf := Option.some.inj hf
  subst hf
  exact z_vretX hx hb hr hlocks hh dX5_walk_56
def fX5_walk_2 (N : Nat) (k_24 : Nat → Int32 → zS → Option (zS)) : Nat → Nat → Int32 → Int32 → zS → Option (zS)
  | 0, _, _, _, _ => none
  | n + 1, b1, x2, x3, σ =>
    if (Int32.ofNat (zlen 29)) ≤ x3 then
      k_24 b1 x2 σ
    else
      if zin x3 (zlen 29) then
      zlet (zpa σ 29 (upd (σ.2 29) x3.toNatClampNeg (nI 0))) fun σ3 =>
      (fX5_walk_2 N k_24 n) b1 x2 (x3 + (nI 1)) σ3
      else none
set_option maxRecDepth 100000 in
set_option maxHeartbeats 4000000 in
theorem hX5_walk_2 {p : Program} {l : Launch} {e : Env} {s : State} {m : MethodId} {args : Array Value} {below : List Frame} {meth : Method} {c : Code} {g : zG} {A : Nat → Prop} {τ : zS} {res : zS} (C : zCx p s m args meth c cX5_walk none wsX5_walk RX5 4) (E : zE g A s) (N : Nat) (k_24 : Nat → Int32 → zS → Option (zS)) (hk_24 : PX5_walk_24 p l e s m args below meth c g A τ res k_24) : ∀ n : Nat, PX5_walk_2 p l e s m args below meth c g A τ res (fX5_walk_2 N k_24 n) := by
  obtain ⟨hx, hb, hr, hml, hown, hts, hlocks⟩ := id C
  intro n
  induction n with
  | zero =>
    intro b1 x2 x3 h1_b1 h2_b1 σ H locs ls hf
    exact absurd hf (by simp [fX5_walk_2])
  | succ n ih =>
    intro b1 x2 x3 h1_b1 h2_b1 σ H locs ls hf hh hl
    rw [fX5_walk_2] at hf
    refine lv_iload_n hx hb dX5_walk_2 rfl (lv_at hl 3 rfl) ?_
    refine lv_aload_n hx hb dX5_walk_3 rfl (lv_at hl 0 rfl) ?_
    refine z_get (v := .ref (g.2.2 29)) hx hb hts (fun w h => List.mem_cons_of_mem _ (List.mem_append_left _ (List.mem_append_right _ (h)))) hown E hh (by decide) (zC_obj (q := 52) rfl) rfl 2 (by decide) (hts (.fieldLink RX5 18 "TownBand$Towers" "values" "[I") (List.mem_cons_of_mem _ (List.mem_append_left _ (List.mem_append_left _ (List.mem_append_left _ (List.mem_of_getElem? (i := 0) rfl)))))) rfl dX5_walk_4 ?_
    refine z_alen hx hb E hh (by decide) dX5_walk_7 ?_
    refine lv_icmp_ge (tgt := 24) hx hb dX5_walk_8 (by decide) (fun c_v1 => ?_) (fun c_v1 => ?_)
    · have hf := z_ip hf c_v1
      exact hk_24 b1 x2 h1_b1 h2_b1 σ _ _ _ hf hh (lv_sub hl [0, 1, 2] rfl)
    · have hf := z_in hf c_v1
      refine lv_aload_n hx hb dX5_walk_11 rfl (lv_at hl 0 rfl) ?_
      refine z_get (v := .ref (g.2.2 29)) hx hb hts (fun w h => List.mem_cons_of_mem _ (List.mem_append_left _ (List.mem_append_right _ (h)))) hown E hh (by decide) (zC_obj (q := 52) rfl) rfl 2 (by decide) (hts (.fieldLink RX5 18 "TownBand$Towers" "values" "[I") (List.mem_cons_of_mem _ (List.mem_append_left _ (List.mem_append_left _ (List.mem_append_left _ (List.mem_of_getElem? (i := 0) rfl)))))) rfl dX5_walk_12 ?_
      refine lv_iload_n hx hb dX5_walk_15 rfl (lv_at hl 3 rfl) ?_
      refine lv_iconst (v := (nI 0)) hx hb dX5_walk_16 (by decide) ?_
      obtain ⟨h_v2, hf⟩ := z_if hf
      obtain ⟨σ3, e_σ3, hf⟩ := z_lt hf
      refine z_iast hx hb E hh (by decide) h_v2 e_σ3 dX5_walk_17 (fun H locs hh => ?_)
      refine lv_iinc (v := (x3 + (nI 1))) (lv' := [(3, .int (x3 + (nI 1))), (0, .ref (g.2.2 52)), (1, .ref (g.2.2 b1)), (2, .int x2)]) hx hb dX5_walk_18 hl (k := 3) rfl rfl (by decide) rfl (fun ls hl => ?_)
      refine lv_goto (tgt := 2) hx hb dX5_walk_21 (by decide) ?_
      exact ih b1 x2 (x3 + (nI 1)) h1_b1 h2_b1 σ3 _ _ _ hf hh (lv_sub hl [1, 2, 3, 0] rfl)
def fX5_walk (N : Nat) (σ : zS) (b1 : Nat) (x2 : Int32) : Option (zS) :=
  (fX5_walk_2 N (fX5_walk_24 N) N) b1 x2 (nI 0) σ
set_option maxRecDepth 100000 in
set_option maxHeartbeats 4000000 in
theorem zcX5_walk (l : Launch) (g : zG) (A : Nat → Prop) (σ τ : zS) (N : Nat) (b1 : Nat) (x2 : Int32) (h1_b1 : 42 ≤ b1) (h2_b1 : b1 < 46) {res : zS} (hf : fX5_walk N σ b1 x2 = some res) : Met l yX5_walk wsX5_walk (zR 11) (zPc g A σ τ [.ref (g.2.2 52), .ref (g.2.2 b1), .int x2]) (zQv g A τ res) 0 0 A := by
  refine z_met (cc := cX5_walk) (ret := none) (own := RX5) (by decide) rfl rfl _ (Nat.le_of_ble_eq_true rfl) ?_
  intro p e s m below meth c C E ls hl hh
  have hl : lv_has ls 4 [(0, .ref (g.2.2 52)), (1, .ref (g.2.2 b1)), (2, .int x2)] := hl
  obtain ⟨hx, hb, hr, hml, hown, hts, hlocks⟩ := id C
  unfold fX5_walk at hf
  refine lv_iconst (v := (nI 0)) hx hb dX5_walk_0 (by decide) ?_
  refine lv_istore_n (lv' := [(3, .int (nI 0)), (0, .ref (g.2.2 52)), (1, .ref (g.2.2 b1)), (2, .int x2)]) hx hb dX5_walk_1 rfl hl (by decide) rfl (fun ls hl => ?_)
  exact (hX5_walk_2 C E N (fX5_walk_24 N) (hX5_walk_24 C E N) N) b1 x2 (nI 0) h1_b1 h2_b1 σ _ _ _ hf hh (lv_sub hl [1, 2, 3, 0] rfl)
/-! ===== X5_foundAt ===== -/
theorem hdX5_foundAt : yX5_foundAt.cls = RX5 ∧ yX5_foundAt.cls ≠ "java/lang/invoke/MethodHandle" ∧ yX5_foundAt.cls ≠ "java/lang/invoke/VarHandle" ∧ (parseMethodDescriptor yX5_foundAt.desc).map (fun d => d.parameters.length) = some 1 := by decide +kernel
def fX5_foundAt (N : Nat) (σ : zS) (x1 : Int32) : Option (Int32) :=
  (fX6_within N x1 (nI 0) ((σ.1 52 3) - (nI 1))).bind fun q1 =>
  if q1 = 0 then
    some (-4)
  else
    if zin x1 (zlen 28) then
    zlet (σ.2 28 x1.toNatClampNeg) fun v4 =>
    some v4
    else none
set_option maxRecDepth 100000 in
set_option maxHeartbeats 4000000 in
theorem zcX5_foundAt (l : Launch) (g : zG) (A : Nat → Prop) (σ τ : zS) (N : Nat) (x1 : Int32)  {res : Int32} (hf : fX5_foundAt N σ x1 = some res) : Met l yX5_foundAt wsX5_foundAt (zR 1) (zPc g A σ τ [.ref (g.2.2 52), .int x1]) (zQi g A τ (res, σ)) 0 0 A := by
  refine z_met (cc := cX5_foundAt) (ret := (some .int)) (own := RX5) (by decide) rfl rfl _ (Nat.le_of_ble_eq_true rfl) ?_
  intro p e s m below meth c C E ls hl hh
  have hl : lv_has ls 2 [(0, .ref (g.2.2 52)), (1, .int x1)] := hl
  obtain ⟨hx, hb, hr, hml, hown, hts, hlocks⟩ := id C
  unfold fX5_foundAt at hf
  refine lv_iload_n hx hb dX5_foundAt_0 rfl (lv_at hl 1 rfl) ?_
  refine lv_iconst (v := (nI 0)) hx hb dX5_foundAt_1 (by decide) ?_
  refine lv_aload_n hx hb dX5_foundAt_2 rfl (lv_at hl 0 rfl) ?_
  refine z_get (v := .int (σ.1 52 3)) hx hb hts (fun w h => List.mem_cons_of_mem _ (List.mem_append_right _ (h))) hown E hh (by decide) (zC_obj (q := 52) rfl) rfl 3 (by decide) (hts (.fieldLink RX5 25 "TownBand$Towers" "foundSize" "I") (List.mem_cons_of_mem _ (List.mem_append_left _ (List.mem_of_getElem? (i := 0) rfl)))) rfl dX5_foundAt_3 ?_
  refine lv_iconst (v := (nI 1)) hx hb dX5_foundAt_6 (by decide) ?_
  refine lv_isub hx hb dX5_foundAt_7 ?_
  obtain ⟨q1, h_q1, hf⟩ := z_bd hf
  refine z_xi (va_runSN (As := [.int x1, .int (nI 0), .int ((σ.1 52 3) - (nI 1))]) (rest := []) ⟨hx, hb, hml, hown, hts⟩ (zcX6_within l g A σ τ N x1 (nI 0) ((σ.1 52 3) - (nI 1)) h_q1) ⟨va_cnB 3 hts gX5_foundAt_X6_within_n88 rfl rfl rfl (zE_m E 29 rfl) (hts (.initialized RX6) (List.mem_cons_of_mem _ (List.mem_append_left _ (List.mem_of_getElem? (i := 3) rfl)))) hdX6_within.2 ⟨by decide, by decide⟩, (hts (.static yX6_within) (List.mem_cons_of_mem _ (List.mem_append_left _ (List.mem_of_getElem? (i := 2) rfl)))), trivial⟩ (z_preS E hh) rfl rfl hl.1 rfl (lv_room (Nat.le_of_ble_eq_true rfl)) dX5_foundAt_8 ⟨Nat.le_refl _, Nat.le_refl _⟩) hh (fun H locs hh => ?_)
  refine lv_if_eq (tgt := 23) hx hb dX5_foundAt_11 (by decide) (fun c_v2 => ?_) (fun c_v2 => ?_)
  · have hf := z_ip hf c_v2
    refine lv_bipush (v := (-4)) hx hb dX5_foundAt_23 (by decide) ?_
    have hf := Option.some.inj hf
    subst hf
    exact z_iretX hx hb hr hlocks hh dX5_foundAt_25
  · have hf := z_in hf c_v2
    refine lv_aload_n hx hb dX5_foundAt_14 rfl (lv_at hl 0 rfl) ?_
    refine z_get (v := .ref (g.2.2 28)) hx hb hts (fun w h => List.mem_cons_of_mem _ (List.mem_append_right _ (h))) hown E hh (by decide) (zC_obj (q := 52) rfl) rfl 1 (by decide) (hts (.fieldLink RX5 15 "TownBand$Towers" "found" "[I") (List.mem_cons_of_mem _ (List.mem_append_left _ (List.mem_of_getElem? (i := 1) rfl)))) rfl dX5_foundAt_15 ?_
    refine lv_iload_n hx hb dX5_foundAt_18 rfl (lv_at hl 1 rfl) ?_
    obtain ⟨h_v3, hf⟩ := z_if hf
    obtain ⟨v4, e_v4, hf⟩ := z_lt hf
    refine z_iald hx hb E hh (by decide) h_v3 e_v4 dX5_foundAt_19 ?_
    refine lv_goto (tgt := 25) hx hb dX5_foundAt_20 (by decide) ?_
    have hf := Option.some.inj hf
    subst hf
    exact z_iretX hx hb hr hlocks hh dX5_foundAt_25

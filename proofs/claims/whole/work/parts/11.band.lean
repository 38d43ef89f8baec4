/-! ===== X0_clear ===== -/
theorem hdX0_clear : yX0_clear.cls = RX0 ∧ yX0_clear.cls ≠ "java/lang/invoke/MethodHandle" ∧ yX0_clear.cls ≠ "java/lang/invoke/VarHandle" ∧ (parseMethodDescriptor yX0_clear.desc).map (fun d => d.parameters.length) = some 0 := by decide +kernel
def fX0_clear (N : Nat) (σ : zS) (b0 : Nat) : Option (zS) :=
  zlet (zpf σ b0 6 (nI 0)) fun σ1 =>
  zlet (zpf σ1 b0 7 (nI 0)) fun σ2 =>
  zlet (zpf σ2 b0 8 (nI 0)) fun σ3 =>
  zlet (zpf σ3 b0 9 (nI 5)) fun σ4 =>
  some σ4
set_option maxRecDepth 100000 in
set_option maxHeartbeats 4000000 in
theorem zcX0_clear (l : Launch) (g : zG) (A : Nat → Prop) (σ τ : zS) (N : Nat) (b0 : Nat) (h1_b0 : 42 ≤ b0) (h2_b0 : b0 < 46) {res : zS} (hf : fX0_clear N σ b0 = some res) : Met l yX0_clear wsX0_clear (zR 0) (zPc g A σ τ [.ref (g.2.2 b0)]) (zQv g A τ res) 0 0 A := by
  refine z_met (cc := cX0_clear) (ret := none) (own := RX0) (by decide) rfl rfl _ (Nat.le_of_ble_eq_true rfl) ?_
  intro p e s m below meth c C E ls hl hh
  have hl : lv_has ls 1 [(0, .ref (g.2.2 b0))] := hl
  obtain ⟨hx, hb, hr, hml, hown, hts, hlocks⟩ := id C
  unfold fX0_clear at hf
  refine lv_aload_n hx hb dX0_clear_0 rfl (lv_at hl 0 rfl) ?_
  refine lv_iconst (v := (nI 0)) hx hb dX0_clear_1 (by decide) ?_
  obtain ⟨σ1, e_σ1, hf⟩ := z_lt hf
  refine z_put hx hb hts (fun w h => List.mem_cons_of_mem _ (List.mem_append_right _ (h))) tyX0 tyX0_ok nmX0 hown E hh (Nat.lt_trans (m := 46) h2_b0 (by decide)) (zD_band h1_b0 h2_b0) rfl 6 (by decide) rfl (hts (.fieldLink RX0 30 "TownBand$Band" "beasts" "I") (List.mem_cons_of_mem _ (List.mem_append_left _ (List.mem_of_getElem? (i := 0) rfl)))) rfl rfl e_σ1 dX0_clear_2 (fun H locs hh => ?_)
  refine lv_aload_n hx hb dX0_clear_5 rfl (lv_at hl 0 rfl) ?_
  refine lv_iconst (v := (nI 0)) hx hb dX0_clear_6 (by decide) ?_
  obtain ⟨σ2, e_σ2, hf⟩ := z_lt hf
  refine z_put hx hb hts (fun w h => List.mem_cons_of_mem _ (List.mem_append_right _ (h))) tyX0 tyX0_ok nmX0 hown E hh (Nat.lt_trans (m := 46) h2_b0 (by decide)) (zD_band h1_b0 h2_b0) rfl 7 (by decide) rfl (hts (.fieldLink RX0 34 "TownBand$Band" "robbers" "I") (List.mem_cons_of_mem _ (List.mem_append_left _ (List.mem_of_getElem? (i := 1) rfl)))) rfl rfl e_σ2 dX0_clear_7 (fun H locs hh => ?_)
  refine lv_aload_n hx hb dX0_clear_10 rfl (lv_at hl 0 rfl) ?_
  refine lv_iconst (v := (nI 0)) hx hb dX0_clear_11 (by decide) ?_
  obtain ⟨σ3, e_σ3, hf⟩ := z_lt hf
  refine z_put hx hb hts (fun w h => List.mem_cons_of_mem _ (List.mem_append_right _ (h))) tyX0 tyX0_ok nmX0 hown E hh (Nat.lt_trans (m := 46) h2_b0 (by decide)) (zD_band h1_b0 h2_b0) rfl 8 (by decide) rfl (hts (.fieldLink RX0 37 "TownBand$Band" "height" "I") (List.mem_cons_of_mem _ (List.mem_append_left _ (List.mem_of_getElem? (i := 2) rfl)))) rfl rfl e_σ3 dX0_clear_12 (fun H locs hh => ?_)
  refine lv_aload_n hx hb dX0_clear_15 rfl (lv_at hl 0 rfl) ?_
  refine lv_iconst (v := (nI 5)) hx hb dX0_clear_16 (by decide) ?_
  obtain ⟨σ4, e_σ4, hf⟩ := z_lt hf
  refine z_put hx hb hts (fun w h => List.mem_cons_of_mem _ (List.mem_append_right _ (h))) tyX0 tyX0_ok nmX0 hown E hh (Nat.lt_trans (m := 46) h2_b0 (by decide)) (zD_band h1_b0 h2_b0) rfl 9 (by decide) rfl (hts (.fieldLink RX0 40 "TownBand$Band" "nerve" "I") (List.mem_cons_of_mem _ (List.mem_append_left _ (List.mem_of_getElem? (i := 3) rfl)))) rfl rfl e_σ4 dX0_clear_17 (fun H locs hh => ?_)
  have hf := Option.some.inj hf
  subst hf
  exact z_vretX hx hb hr hlocks hh dX0_clear_20
/-! ===== X0_copyFrom ===== -/
theorem hdX0_copyFrom : yX0_copyFrom.cls = RX0 ∧ yX0_copyFrom.cls ≠ "java/lang/invoke/MethodHandle" ∧ yX0_copyFrom.cls ≠ "java/lang/invoke/VarHandle" ∧ (parseMethodDescriptor yX0_copyFrom.desc).map (fun d => d.parameters.length) = some 1 := by decide +kernel
def fX0_copyFrom (N : Nat) (σ : zS) (b0 : Nat) (b1 : Nat) : Option (zS) :=
  if ¬ ((nI 0) : Int32) < 0 ∧ ¬ ((nI 0) : Int32) < 0 ∧ ¬ ((nI 5) : Int32) < 0 ∧ (nI 0).toNatClampNeg + (nI 5).toNatClampNeg ≤ zlen (zba b1 0) ∧ (nI 0).toNatClampNeg + (nI 5).toNatClampNeg ≤ zlen (zba b0 0) then
  zlet (zpa σ (zba b0 0) (va_cpy (σ.2 (zba b1 0)) (σ.2 (zba b0 0)) (nI 0).toNatClampNeg (nI 0).toNatClampNeg (nI 5).toNatClampNeg)) fun σ2 =>
  if ¬ ((nI 0) : Int32) < 0 ∧ ¬ ((nI 0) : Int32) < 0 ∧ ¬ ((nI 5) : Int32) < 0 ∧ (nI 0).toNatClampNeg + (nI 5).toNatClampNeg ≤ zlen (zba b1 1) ∧ (nI 0).toNatClampNeg + (nI 5).toNatClampNeg ≤ zlen (zba b0 1) then
  zlet (zpa σ2 (zba b0 1) (va_cpy (σ2.2 (zba b1 1)) (σ2.2 (zba b0 1)) (nI 0).toNatClampNeg (nI 0).toNatClampNeg (nI 5).toNatClampNeg)) fun σ4 =>
  if ¬ ((nI 0) : Int32) < 0 ∧ ¬ ((nI 0) : Int32) < 0 ∧ ¬ ((nI 5) : Int32) < 0 ∧ (nI 0).toNatClampNeg + (nI 5).toNatClampNeg ≤ zlen (zba b1 2) ∧ (nI 0).toNatClampNeg + (nI 5).toNatClampNeg ≤ zlen (zba b0 2) then
  zlet (zpa σ4 (zba b0 2) (va_cpy (σ4.2 (zba b1 2)) (σ4.2 (zba b0 2)) (nI 0).toNatClampNeg (nI 0).toNatClampNeg (nI 5).toNatClampNeg)) fun σ6 =>
  if ¬ ((nI 0) : Int32) < 0 ∧ ¬ ((nI 0) : Int32) < 0 ∧ ¬ ((nI 4) : Int32) < 0 ∧ (nI 0).toNatClampNeg + (nI 4).toNatClampNeg ≤ zlen (zba b1 3) ∧ (nI 0).toNatClampNeg + (nI 4).toNatClampNeg ≤ zlen (zba b0 3) then
  zlet (zpa σ6 (zba b0 3) (va_cpy (σ6.2 (zba b1 3)) (σ6.2 (zba b0 3)) (nI 0).toNatClampNeg (nI 0).toNatClampNeg (nI 4).toNatClampNeg)) fun σ8 =>
  if ¬ ((nI 0) : Int32) < 0 ∧ ¬ ((nI 0) : Int32) < 0 ∧ ¬ ((nI 5) : Int32) < 0 ∧ (nI 0).toNatClampNeg + (nI 5).toNatClampNeg ≤ zlen (zba b1 4) ∧ (nI 0).toNatClampNeg + (nI 5).toNatClampNeg ≤ zlen (zba b0 4) then
  zlet (zpa σ8 (zba b0 4) (va_cpy (σ8.2 (zba b1 4)) (σ8.2 (zba b0 4)) (nI 0).toNatClampNeg (nI 0).toNatClampNeg (nI 5).toNatClampNeg)) fun σ10 =>
  if ¬ ((nI 0) : Int32) < 0 ∧ ¬ ((nI 0) : Int32) < 0 ∧ ¬ ((nI 5) : Int32) < 0 ∧ (nI 0).toNatClampNeg + (nI 5).toNatClampNeg ≤ zlen (zba b1 5) ∧ (nI 0).toNatClampNeg + (nI 5).toNatClampNeg ≤ zlen (zba b0 5) then
  zlet (zpa σ10 (zba b0 5) (va_cpy (σ10.2 (zba b1 5)) (σ10.2 (zba b0 5)) (nI 0).toNatClampNeg (nI 0).toNatClampNeg (nI 5).toNatClampNeg)) fun σ12 =>
  zlet (zpf σ12 b0 6 (σ12.1 b1 6)) fun σ13 =>
  zlet (zpf σ13 b0 7 (σ13.1 b1 7)) fun σ14 =>
  zlet (zpf σ14 b0 8 (σ14.1 b1 8)) fun σ15 =>
  zlet (zpf σ15 b0 9 (σ15.1 b1 9)) fun σ16 =>
  some σ16
  else none
  else none
  else none
  else none
  else none
  else none
set_option maxRecDepth 100000 in
set_option maxHeartbeats 4000000 in
theorem zcX0_copyFrom (l : Launch) (g : zG) (A : Nat → Prop) (σ τ : zS) (N : Nat) (b0 : Nat) (b1 : Nat) (h1_b0 : 42 ≤ b0) (h2_b0 : b0 < 46) (h1_b1 : 42 ≤ b1) (h2_b1 : b1 < 46) {res : zS} (hf : fX0_copyFrom N σ b0 b1 = some res) : Met l yX0_copyFrom wsX0_copyFrom (zR 1) (zPc g A σ τ [.ref (g.2.2 b0), .ref (g.2.2 b1)]) (zQv g A τ res) 0 0 A := by
  refine z_met (cc := cX0_copyFrom) (ret := none) (own := RX0) (by decide) rfl rfl _ (Nat.le_of_ble_eq_true rfl) ?_
  intro p e s m below meth c C E ls hl hh
  have hl : lv_has ls 2 [(0, .ref (g.2.2 b0)), (1, .ref (g.2.2 b1))] := hl
  obtain ⟨hx, hb, hr, hml, hown, hts, hlocks⟩ := id C
  unfold fX0_copyFrom at hf
  refine lv_aload_n hx hb dX0_copyFrom_0 rfl (lv_at hl 1 rfl) ?_
  refine z_get (v := .ref (g.2.2 (zba b1 0))) hx hb hts (fun w h => List.mem_cons_of_mem _ (List.mem_append_right _ (h))) hown E hh (Nat.lt_trans (m := 46) h2_b1 (by decide)) (zC_band h1_b1 h2_b1) rfl 0 (by decide) (hts (.fieldLink RX0 9 "TownBand$Band" "kinds" "[I") (List.mem_cons_of_mem _ (List.mem_append_left _ (List.mem_of_getElem? (i := 0) rfl)))) rfl dX0_copyFrom_1 ?_
  refine lv_iconst (v := (nI 0)) hx hb dX0_copyFrom_4 (by decide) ?_
  refine lv_aload_n hx hb dX0_copyFrom_5 rfl (lv_at hl 0 rfl) ?_
  refine z_get (v := .ref (g.2.2 (zba b0 0))) hx hb hts (fun w h => List.mem_cons_of_mem _ (List.mem_append_right _ (h))) hown E hh (Nat.lt_trans (m := 46) h2_b0 (by decide)) (zC_band h1_b0 h2_b0) rfl 0 (by decide) (hts (.fieldLink RX0 9 "TownBand$Band" "kinds" "[I") (List.mem_cons_of_mem _ (List.mem_append_left _ (List.mem_of_getElem? (i := 0) rfl)))) rfl dX0_copyFrom_6 ?_
  refine lv_iconst (v := (nI 0)) hx hb dX0_copyFrom_9 (by decide) ?_
  refine lv_iconst (v := (nI 5)) hx hb dX0_copyFrom_10 (by decide) ?_
  obtain ⟨h_v1, hf⟩ := z_if hf
  obtain ⟨σ2, e_σ2, hf⟩ := z_lt hf
  refine z_copy hx hb (hml.trans hl.1.symm) hown (hts (.methodLink RX0 43 arraycopyName) (List.mem_cons_of_mem _ (List.mem_append_left _ (List.mem_of_getElem? (i := 1) rfl)))) (hts (.native arraycopyName) (List.mem_cons_of_mem _ (List.mem_append_left _ (List.mem_of_getElem? (i := 2) rfl)))) (hts (.static arraycopyName) (List.mem_cons_of_mem _ (List.mem_append_left _ (List.mem_of_getElem? (i := 3) rfl)))) (hts (.initialized "java/lang/System") (List.mem_cons_of_mem _ (List.mem_append_left _ (List.mem_of_getElem? (i := 4) rfl)))) E hh (zba_lt h1_b1 h2_b1 (by decide)) (zba_lt h1_b0 h2_b0 (by decide)) h_v1 e_σ2 (by decide) (Nat.le_of_ble_eq_true rfl) dX0_copyFrom_11 (fun H locs hh => ?_)
  refine lv_aload_n hx hb dX0_copyFrom_14 rfl (lv_at hl 1 rfl) ?_
  refine z_get (v := .ref (g.2.2 (zba b1 1))) hx hb hts (fun w h => List.mem_cons_of_mem _ (List.mem_append_right _ (h))) hown E hh (Nat.lt_trans (m := 46) h2_b1 (by decide)) (zC_band h1_b1 h2_b1) rfl 1 (by decide) (hts (.fieldLink RX0 15 "TownBand$Band" "weights" "[I") (List.mem_cons_of_mem _ (List.mem_append_left _ (List.mem_of_getElem? (i := 5) rfl)))) rfl dX0_copyFrom_15 ?_
  refine lv_iconst (v := (nI 0)) hx hb dX0_copyFrom_18 (by decide) ?_
  refine lv_aload_n hx hb dX0_copyFrom_19 rfl (lv_at hl 0 rfl) ?_
  refine z_get (v := .ref (g.2.2 (zba b0 1))) hx hb hts (fun w h => List.mem_cons_of_mem _ (List.mem_append_right _ (h))) hown E hh (Nat.lt_trans (m := 46) h2_b0 (by decide)) (zC_band h1_b0 h2_b0) rfl 1 (by decide) (hts (.fieldLink RX0 15 "TownBand$Band" "weights" "[I") (List.mem_cons_of_mem _ (List.mem_append_left _ (List.mem_of_getElem? (i := 5) rfl)))) rfl dX0_copyFrom_20 ?_
  refine lv_iconst (v := (nI 0)) hx hb dX0_copyFrom_23 (by decide) ?_
  refine lv_iconst (v := (nI 5)) hx hb dX0_copyFrom_24 (by decide) ?_
  obtain ⟨h_v3, hf⟩ := z_if hf
  obtain ⟨σ4, e_σ4, hf⟩ := z_lt hf
  refine z_copy hx hb (hml.trans hl.1.symm) hown (hts (.methodLink RX0 43 arraycopyName) (List.mem_cons_of_mem _ (List.mem_append_left _ (List.mem_of_getElem? (i := 1) rfl)))) (hts (.native arraycopyName) (List.mem_cons_of_mem _ (List.mem_append_left _ (List.mem_of_getElem? (i := 2) rfl)))) (hts (.static arraycopyName) (List.mem_cons_of_mem _ (List.mem_append_left _ (List.mem_of_getElem? (i := 3) rfl)))) (hts (.initialized "java/lang/System") (List.mem_cons_of_mem _ (List.mem_append_left _ (List.mem_of_getElem? (i := 4) rfl)))) E hh (zba_lt h1_b1 h2_b1 (by decide)) (zba_lt h1_b0 h2_b0 (by decide)) h_v3 e_σ4 (by decide) (Nat.le_of_ble_eq_true rfl) dX0_copyFrom_25 (fun H locs hh => ?_)
  refine lv_aload_n hx hb dX0_copyFrom_28 rfl (lv_at hl 1 rfl) ?_
  refine z_get (v := .ref (g.2.2 (zba b1 2))) hx hb hts (fun w h => List.mem_cons_of_mem _ (List.mem_append_right _ (h))) hown E hh (Nat.lt_trans (m := 46) h2_b1 (by decide)) (zC_band h1_b1 h2_b1) rfl 2 (by decide) (hts (.fieldLink RX0 18 "TownBand$Band" "voices" "[I") (List.mem_cons_of_mem _ (List.mem_append_left _ (List.mem_of_getElem? (i := 6) rfl)))) rfl dX0_copyFrom_29 ?_
  refine lv_iconst (v := (nI 0)) hx hb dX0_copyFrom_32 (by decide) ?_
  refine lv_aload_n hx hb dX0_copyFrom_33 rfl (lv_at hl 0 rfl) ?_
  refine z_get (v := .ref (g.2.2 (zba b0 2))) hx hb hts (fun w h => List.mem_cons_of_mem _ (List.mem_append_right _ (h))) hown E hh (Nat.lt_trans (m := 46) h2_b0 (by decide)) (zC_band h1_b0 h2_b0) rfl 2 (by decide) (hts (.fieldLink RX0 18 "TownBand$Band" "voices" "[I") (List.mem_cons_of_mem _ (List.mem_append_left _ (List.mem_of_getElem? (i := 6) rfl)))) rfl dX0_copyFrom_34 ?_
  refine lv_iconst (v := (nI 0)) hx hb dX0_copyFrom_37 (by decide) ?_
  refine lv_iconst (v := (nI 5)) hx hb dX0_copyFrom_38 (by decide) ?_
  obtain ⟨h_v5, hf⟩ := z_if hf
  obtain ⟨σ6, e_σ6, hf⟩ := z_lt hf
  refine z_copy hx hb (hml.trans hl.1.symm) hown (hts (.methodLink RX0 43 arraycopyName) (List.mem_cons_of_mem _ (List.mem_append_left _ (List.mem_of_getElem? (i := 1) rfl)))) (hts (.native arraycopyName) (List.mem_cons_of_mem _ (List.mem_append_left _ (List.mem_of_getElem? (i := 2) rfl)))) (hts (.static arraycopyName) (List.mem_cons_of_mem _ (List.mem_append_left _ (List.mem_of_getElem? (i := 3) rfl)))) (hts (.initialized "java/lang/System") (List.mem_cons_of_mem _ (List.mem_append_left _ (List.mem_of_getElem? (i := 4) rfl)))) E hh (zba_lt h1_b1 h2_b1 (by decide)) (zba_lt h1_b0 h2_b0 (by decide)) h_v5 e_σ6 (by decide) (Nat.le_of_ble_eq_true rfl) dX0_copyFrom_39 (fun H locs hh => ?_)
  refine lv_aload_n hx hb dX0_copyFrom_42 rfl (lv_at hl 1 rfl) ?_
  refine z_get (v := .ref (g.2.2 (zba b1 3))) hx hb hts (fun w h => List.mem_cons_of_mem _ (List.mem_append_right _ (h))) hown E hh (Nat.lt_trans (m := 46) h2_b1 (by decide)) (zC_band h1_b1 h2_b1) rfl 3 (by decide) (hts (.fieldLink RX0 21 "TownBand$Band" "courages" "[I") (List.mem_cons_of_mem _ (List.mem_append_left _ (List.mem_of_getElem? (i := 7) rfl)))) rfl dX0_copyFrom_43 ?_
  refine lv_iconst (v := (nI 0)) hx hb dX0_copyFrom_46 (by decide) ?_
  refine lv_aload_n hx hb dX0_copyFrom_47 rfl (lv_at hl 0 rfl) ?_
  refine z_get (v := .ref (g.2.2 (zba b0 3))) hx hb hts (fun w h => List.mem_cons_of_mem _ (List.mem_append_right _ (h))) hown E hh (Nat.lt_trans (m := 46) h2_b0 (by decide)) (zC_band h1_b0 h2_b0) rfl 3 (by decide) (hts (.fieldLink RX0 21 "TownBand$Band" "courages" "[I") (List.mem_cons_of_mem _ (List.mem_append_left _ (List.mem_of_getElem? (i := 7) rfl)))) rfl dX0_copyFrom_48 ?_
  refine lv_iconst (v := (nI 0)) hx hb dX0_copyFrom_51 (by decide) ?_
  refine lv_iconst (v := (nI 4)) hx hb dX0_copyFrom_52 (by decide) ?_
  obtain ⟨h_v7, hf⟩ := z_if hf
  obtain ⟨σ8, e_σ8, hf⟩ := z_lt hf
  refine z_copy hx hb (hml.trans hl.1.symm) hown (hts (.methodLink RX0 43 arraycopyName) (List.mem_cons_of_mem _ (List.mem_append_left _ (List.mem_of_getElem? (i := 1) rfl)))) (hts (.native arraycopyName) (List.mem_cons_of_mem _ (List.mem_append_left _ (List.mem_of_getElem? (i := 2) rfl)))) (hts (.static arraycopyName) (List.mem_cons_of_mem _ (List.mem_append_left _ (List.mem_of_getElem? (i := 3) rfl)))) (hts (.initialized "java/lang/System") (List.mem_cons_of_mem _ (List.mem_append_left _ (List.mem_of_getElem? (i := 4) rfl)))) E hh (zba_lt h1_b1 h2_b1 (by decide)) (zba_lt h1_b0 h2_b0 (by decide)) h_v7 e_σ8 (by decide) (Nat.le_of_ble_eq_true rfl) dX0_copyFrom_53 (fun H locs hh => ?_)
  refine lv_aload_n hx hb dX0_copyFrom_56 rfl (lv_at hl 1 rfl) ?_
  refine z_get (v := .ref (g.2.2 (zba b1 4))) hx hb hts (fun w h => List.mem_cons_of_mem _ (List.mem_append_right _ (h))) hown E hh (Nat.lt_trans (m := 46) h2_b1 (by decide)) (zC_band h1_b1 h2_b1) rfl 4 (by decide) (hts (.fieldLink RX0 24 "TownBand$Band" "tower" "[I") (List.mem_cons_of_mem _ (List.mem_append_left _ (List.mem_of_getElem? (i := 8) rfl)))) rfl dX0_copyFrom_57 ?_
  refine lv_iconst (v := (nI 0)) hx hb dX0_copyFrom_60 (by decide) ?_
  refine lv_aload_n hx hb dX0_copyFrom_61 rfl (lv_at hl 0 rfl) ?_
  refine z_get (v := .ref (g.2.2 (zba b0 4))) hx hb hts (fun w h => List.mem_cons_of_mem _ (List.mem_append_right _ (h))) hown E hh (Nat.lt_trans (m := 46) h2_b0 (by decide)) (zC_band h1_b0 h2_b0) rfl 4 (by decide) (hts (.fieldLink RX0 24 "TownBand$Band" "tower" "[I") (List.mem_cons_of_mem _ (List.mem_append_left _ (List.mem_of_getElem? (i := 8) rfl)))) rfl dX0_copyFrom_62 ?_
  refine lv_iconst (v := (nI 0)) hx hb dX0_copyFrom_65 (by decide) ?_
  refine lv_iconst (v := (nI 5)) hx hb dX0_copyFrom_66 (by decide) ?_
  obtain ⟨h_v9, hf⟩ := z_if hf
  obtain ⟨σ10, e_σ10, hf⟩ := z_lt hf
  refine z_copy hx hb (hml.trans hl.1.symm) hown (hts (.methodLink RX0 43 arraycopyName) (List.mem_cons_of_mem _ (List.mem_append_left _ (List.mem_of_getElem? (i := 1) rfl)))) (hts (.native arraycopyName) (List.mem_cons_of_mem _ (List.mem_append_left _ (List.mem_of_getElem? (i := 2) rfl)))) (hts (.static arraycopyName) (List.mem_cons_of_mem _ (List.mem_append_left _ (List.mem_of_getElem? (i := 3) rfl)))) (hts (.initialized "java/lang/System") (List.mem_cons_of_mem _ (List.mem_append_left _ (List.mem_of_getElem? (i := 4) rfl)))) E hh (zba_lt h1_b1 h2_b1 (by decide)) (zba_lt h1_b0 h2_b0 (by decide)) h_v9 e_σ10 (by decide) (Nat.le_of_ble_eq_true rfl) dX0_copyFrom_67 (fun H locs hh => ?_)
  refine lv_aload_n hx hb dX0_copyFrom_70 rfl (lv_at hl 1 rfl) ?_
  refine z_get (v := .ref (g.2.2 (zba b1 5))) hx hb hts (fun w h => List.mem_cons_of_mem _ (List.mem_append_right _ (h))) hown E hh (Nat.lt_trans (m := 46) h2_b1 (by decide)) (zC_band h1_b1 h2_b1) rfl 5 (by decide) (hts (.fieldLink RX0 27 "TownBand$Band" "bedRow" "[I") (List.mem_cons_of_mem _ (List.mem_append_left _ (List.mem_of_getElem? (i := 9) rfl)))) rfl dX0_copyFrom_71 ?_
  refine lv_iconst (v := (nI 0)) hx hb dX0_copyFrom_74 (by decide) ?_
  refine lv_aload_n hx hb dX0_copyFrom_75 rfl (lv_at hl 0 rfl) ?_
  refine z_get (v := .ref (g.2.2 (zba b0 5))) hx hb hts (fun w h => List.mem_cons_of_mem _ (List.mem_append_right _ (h))) hown E hh (Nat.lt_trans (m := 46) h2_b0 (by decide)) (zC_band h1_b0 h2_b0) rfl 5 (by decide) (hts (.fieldLink RX0 27 "TownBand$Band" "bedRow" "[I") (List.mem_cons_of_mem _ (List.mem_append_left _ (List.mem_of_getElem? (i := 9) rfl)))) rfl dX0_copyFrom_76 ?_
  refine lv_iconst (v := (nI 0)) hx hb dX0_copyFrom_79 (by decide) ?_
  refine lv_iconst (v := (nI 5)) hx hb dX0_copyFrom_80 (by decide) ?_
  obtain ⟨h_v11, hf⟩ := z_if hf
  obtain ⟨σ12, e_σ12, hf⟩ := z_lt hf
  refine z_copy hx hb (hml.trans hl.1.symm) hown (hts (.methodLink RX0 43 arraycopyName) (List.mem_cons_of_mem _ (List.mem_append_left _ (List.mem_of_getElem? (i := 1) rfl)))) (hts (.native arraycopyName) (List.mem_cons_of_mem _ (List.mem_append_left _ (List.mem_of_getElem? (i := 2) rfl)))) (hts (.static arraycopyName) (List.mem_cons_of_mem _ (List.mem_append_left _ (List.mem_of_getElem? (i := 3) rfl)))) (hts (.initialized "java/lang/System") (List.mem_cons_of_mem _ (List.mem_append_left _ (List.mem_of_getElem? (i := 4) rfl)))) E hh (zba_lt h1_b1 h2_b1 (by decide)) (zba_lt h1_b0 h2_b0 (by decide)) h_v11 e_σ12 (by decide) (Nat.le_of_ble_eq_true rfl) dX0_copyFrom_81 (fun H locs hh => ?_)
  refine lv_aload_n hx hb dX0_copyFrom_84 rfl (lv_at hl 0 rfl) ?_
  refine lv_aload_n hx hb dX0_copyFrom_85 rfl (lv_at hl 1 rfl) ?_
  refine z_get (v := .int (σ12.1 b1 6)) hx hb hts (fun w h => List.mem_cons_of_mem _ (List.mem_append_right _ (h))) hown E hh (Nat.lt_trans (m := 46) h2_b1 (by decide)) (zC_band h1_b1 h2_b1) rfl 6 (by decide) (hts (.fieldLink RX0 30 "TownBand$Band" "beasts" "I") (List.mem_cons_of_mem _ (List.mem_append_left _ (List.mem_of_getElem? (i := 10) rfl)))) rfl dX0_copyFrom_86 ?_
  obtain ⟨σ13, e_σ13, hf⟩ := z_lt hf
  refine z_put hx hb hts (fun w h => List.mem_cons_of_mem _ (List.mem_append_right _ (h))) tyX0 tyX0_ok nmX0 hown E hh (Nat.lt_trans (m := 46) h2_b0 (by decide)) (zD_band h1_b0 h2_b0) rfl 6 (by decide) rfl (hts (.fieldLink RX0 30 "TownBand$Band" "beasts" "I") (List.mem_cons_of_mem _ (List.mem_append_left _ (List.mem_of_getElem? (i := 10) rfl)))) rfl rfl e_σ13 dX0_copyFrom_89 (fun H locs hh => ?_)
  refine lv_aload_n hx hb dX0_copyFrom_92 rfl (lv_at hl 0 rfl) ?_
  refine lv_aload_n hx hb dX0_copyFrom_93 rfl (lv_at hl 1 rfl) ?_
  refine z_get (v := .int (σ13.1 b1 7)) hx hb hts (fun w h => List.mem_cons_of_mem _ (List.mem_append_right _ (h))) hown E hh (Nat.lt_trans (m := 46) h2_b1 (by decide)) (zC_band h1_b1 h2_b1) rfl 7 (by decide) (hts (.fieldLink RX0 34 "TownBand$Band" "robbers" "I") (List.mem_cons_of_mem _ (List.mem_append_left _ (List.mem_of_getElem? (i := 11) rfl)))) rfl dX0_copyFrom_94 ?_
  obtain ⟨σ14, e_σ14, hf⟩ := z_lt hf
  refine z_put hx hb hts (fun w h => List.mem_cons_of_mem _ (List.mem_append_right _ (h))) tyX0 tyX0_ok nmX0 hown E hh (Nat.lt_trans (m := 46) h2_b0 (by decide)) (zD_band h1_b0 h2_b0) rfl 7 (by decide) rfl (hts (.fieldLink RX0 34 "TownBand$Band" "robbers" "I") (List.mem_cons_of_mem _ (List.mem_append_left _ (List.mem_of_getElem? (i := 11) rfl)))) rfl rfl e_σ14 dX0_copyFrom_97 (fun H locs hh => ?_)
  refine lv_aload_n hx hb dX0_copyFrom_100 rfl (lv_at hl 0 rfl) ?_
  refine lv_aload_n hx hb dX0_copyFrom_101 rfl (lv_at hl 1 rfl) ?_
  refine z_get (v := .int (σ14.1 b1 8)) hx hb hts (fun w h => List.mem_cons_of_mem _ (List.mem_append_right _ (h))) hown E hh (Nat.lt_trans (m := 46) h2_b1 (by decide)) (zC_band h1_b1 h2_b1) rfl 8 (by decide) (hts (.fieldLink RX0 37 "TownBand$Band" "height" "I") (List.mem_cons_of_mem _ (List.mem_append_left _ (List.mem_of_getElem? (i := 12) rfl)))) rfl dX0_copyFrom_102 ?_
  obtain ⟨σ15, e_σ15, hf⟩ := z_lt hf
  refine z_put hx hb hts (fun w h => List.mem_cons_of_mem _ (List.mem_append_right _ (h))) tyX0 tyX0_ok nmX0 hown E hh (Nat.lt_trans (m := 46) h2_b0 (by decide)) (zD_band h1_b0 h2_b0) rfl 8 (by decide) rfl (hts (.fieldLink RX0 37 "TownBand$Band" "height" "I") (List.mem_cons_of_mem _ (List.mem_append_left _ (List.mem_of_getElem? (i := 12) rfl)))) rfl rfl e_σ15 dX0_copyFrom_105 (fun H locs hh => ?_)
  refine lv_aload_n hx hb dX0_copyFrom_108 rfl (lv_at hl 0 rfl) ?_
  refine lv_aload_n hx hb dX0_copyFrom_109 rfl (lv_at hl 1 rfl) ?_
  refine z_get (v := .int (σ15.1 b1 9)) hx hb hts (fun w h => List.mem_cons_of_mem _ (List.mem_append_right _ (h))) hown E hh (Nat.lt_trans (m := 46) h2_b1 (by decide)) (zC_band h1_b1 h2_b1) rfl 9 (by decide) (hts (.fieldLink RX0 40 "TownBand$Band" "nerve" "I") (List.mem_cons_of_mem _ (List.mem_append_left _ (List.mem_of_getElem? (i := 13) rfl)))) rfl dX0_copyFrom_110 ?_
  obtain ⟨σ16, e_σ16, hf⟩ := z_lt hf
  refine z_put hx hb hts (fun w h => List.mem_cons_of_mem _ (List.mem_append_right _ (h))) tyX0 tyX0_ok nmX0 hown E hh (Nat.lt_trans (m := 46) h2_b0 (by decide)) (zD_band h1_b0 h2_b0) rfl 9 (by decide) rfl (hts (.fieldLink RX0 40 "TownBand$Band" "nerve" "I") (List.mem_cons_of_mem _ (List.mem_append_left _ (List.mem_of_getElem? (i := 13) rfl)))) rfl rfl e_σ16 dX0_copyFrom_113 (fun H locs hh => ?_)
  have hf := Option.some.inj hf
  subst hf
  exact z_vretX hx hb hr hlocks hh dX0_copyFrom_116
/-! ===== X0_hasBeast ===== -/
theorem hdX0_hasBeast : yX0_hasBeast.cls = RX0 ∧ yX0_hasBeast.cls ≠ "java/lang/invoke/MethodHandle" ∧ yX0_hasBeast.cls ≠ "java/lang/invoke/VarHandle" ∧ (parseMethodDescriptor yX0_hasBeast.desc).map (fun d => d.parameters.length) = some 1 := by decide +kernel
def fX0_hasBeast (N : Nat) (σ : zS) (b0 : Nat) (x1 : Int32) : Option (Int32) :=
  (fX6_within N x1 (nI 0) ((σ.1 b0 6) - (nI 1))).bind fun q1 =>
  if q1 = 0 ∨ q1 = 1 then
  some q1
  else none
set_option maxRecDepth 100000 in
set_option maxHeartbeats 4000000 in
theorem zcX0_hasBeast (l : Launch) (g : zG) (A : Nat → Prop) (σ τ : zS) (N : Nat) (b0 : Nat) (x1 : Int32) (h1_b0 : 42 ≤ b0) (h2_b0 : b0 < 46) {res : Int32} (hf : fX0_hasBeast N σ b0 x1 = some res) : Met l yX0_hasBeast wsX0_hasBeast (zR 1) (zPc g A σ τ [.ref (g.2.2 b0), .int x1]) (zQi g A τ (res, σ)) 0 0 A := by
  refine z_met (cc := cX0_hasBeast) (ret := (some .boolean)) (own := RX0) (by decide) rfl rfl _ (Nat.le_of_ble_eq_true rfl) ?_
  intro p e s m below meth c C E ls hl hh
  have hl : lv_has ls 2 [(0, .ref (g.2.2 b0)), (1, .int x1)] := hl
  obtain ⟨hx, hb, hr, hml, hown, hts, hlocks⟩ := id C
  unfold fX0_hasBeast at hf
  refine lv_iload_n hx hb dX0_hasBeast_0 rfl (lv_at hl 1 rfl) ?_
  refine lv_iconst (v := (nI 0)) hx hb dX0_hasBeast_1 (by decide) ?_
  refine lv_aload_n hx hb dX0_hasBeast_2 rfl (lv_at hl 0 rfl) ?_
  refine z_get (v := .int (σ.1 b0 6)) hx hb hts (fun w h => List.mem_cons_of_mem _ (List.mem_append_right _ (h))) hown E hh (Nat.lt_trans (m := 46) h2_b0 (by decide)) (zC_band h1_b0 h2_b0) rfl 6 (by decide) (hts (.fieldLink RX0 30 "TownBand$Band" "beasts" "I") (List.mem_cons_of_mem _ (List.mem_append_left _ (List.mem_of_getElem? (i := 0) rfl)))) rfl dX0_hasBeast_3 ?_
  refine lv_iconst (v := (nI 1)) hx hb dX0_hasBeast_6 (by decide) ?_
  refine lv_isub hx hb dX0_hasBeast_7 ?_
  obtain ⟨q1, h_q1, hf⟩ := z_bd hf
  refine z_xi (va_runSN (As := [.int x1, .int (nI 0), .int ((σ.1 b0 6) - (nI 1))]) (rest := []) ⟨hx, hb, hml, hown, hts⟩ (zcX6_within l g A σ τ N x1 (nI 0) ((σ.1 b0 6) - (nI 1)) h_q1) ⟨va_cnB 3 hts gX0_hasBeast_X6_within_n49 rfl rfl rfl (zE_m E 12 rfl) (hts (.initialized RX6) (List.mem_cons_of_mem _ (List.mem_append_left _ (List.mem_of_getElem? (i := 2) rfl)))) hdX6_within.2 ⟨by decide, by decide⟩, (hts (.static yX6_within) (List.mem_cons_of_mem _ (List.mem_append_left _ (List.mem_of_getElem? (i := 1) rfl)))), trivial⟩ (z_preS E hh) rfl rfl hl.1 rfl (lv_room (Nat.le_of_ble_eq_true rfl)) dX0_hasBeast_8 ⟨Nat.le_refl _, Nat.le_refl _⟩) hh (fun H locs hh => ?_)
  obtain ⟨h_v2, hf⟩ := z_if hf
  have hf := Option.some.inj hf
  subst hf
  exact z_zretX hx hb hr hlocks h_v2 hh dX0_hasBeast_11
/-! ===== X0_hasRobber ===== -/
theorem hdX0_hasRobber : yX0_hasRobber.cls = RX0 ∧ yX0_hasRobber.cls ≠ "java/lang/invoke/MethodHandle" ∧ yX0_hasRobber.cls ≠ "java/lang/invoke/VarHandle" ∧ (parseMethodDescriptor yX0_hasRobber.desc).map (fun d => d.parameters.length) = some 1 := by decide +kernel
def fX0_hasRobber (N : Nat) (σ : zS) (b0 : Nat) (x1 : Int32) : Option (Int32) :=
  (fX6_within N x1 (nI 0) ((σ.1 b0 7) - (nI 1))).bind fun q1 =>
  if q1 = 0 ∨ q1 = 1 then
  some q1
  else none
set_option maxRecDepth 100000 in
set_option maxHeartbeats 4000000 in
theorem zcX0_hasRobber (l : Launch) (g : zG) (A : Nat → Prop) (σ τ : zS) (N : Nat) (b0 : Nat) (x1 : Int32) (h1_b0 : 42 ≤ b0) (h2_b0 : b0 < 46) {res : Int32} (hf : fX0_hasRobber N σ b0 x1 = some res) : Met l yX0_hasRobber wsX0_hasRobber (zR 1) (zPc g A σ τ [.ref (g.2.2 b0), .int x1]) (zQi g A τ (res, σ)) 0 0 A := by
  refine z_met (cc := cX0_hasRobber) (ret := (some .boolean)) (own := RX0) (by decide) rfl rfl _ (Nat.le_of_ble_eq_true rfl) ?_
  intro p e s m below meth c C E ls hl hh
  have hl : lv_has ls 2 [(0, .ref (g.2.2 b0)), (1, .int x1)] := hl
  obtain ⟨hx, hb, hr, hml, hown, hts, hlocks⟩ := id C
  unfold fX0_hasRobber at hf
  refine lv_iload_n hx hb dX0_hasRobber_0 rfl (lv_at hl 1 rfl) ?_
  refine lv_iconst (v := (nI 0)) hx hb dX0_hasRobber_1 (by decide) ?_
  refine lv_aload_n hx hb dX0_hasRobber_2 rfl (lv_at hl 0 rfl) ?_
  refine z_get (v := .int (σ.1 b0 7)) hx hb hts (fun w h => List.mem_cons_of_mem _ (List.mem_append_right _ (h))) hown E hh (Nat.lt_trans (m := 46) h2_b0 (by decide)) (zC_band h1_b0 h2_b0) rfl 7 (by decide) (hts (.fieldLink RX0 34 "TownBand$Band" "robbers" "I") (List.mem_cons_of_mem _ (List.mem_append_left _ (List.mem_of_getElem? (i := 0) rfl)))) rfl dX0_hasRobber_3 ?_
  refine lv_iconst (v := (nI 1)) hx hb dX0_hasRobber_6 (by decide) ?_
  refine lv_isub hx hb dX0_hasRobber_7 ?_
  obtain ⟨q1, h_q1, hf⟩ := z_bd hf
  refine z_xi (va_runSN (As := [.int x1, .int (nI 0), .int ((σ.1 b0 7) - (nI 1))]) (rest := []) ⟨hx, hb, hml, hown, hts⟩ (zcX6_within l g A σ τ N x1 (nI 0) ((σ.1 b0 7) - (nI 1)) h_q1) ⟨va_cnB 3 hts gX0_hasRobber_X6_within_n49 rfl rfl rfl (zE_m E 12 rfl) (hts (.initialized RX6) (List.mem_cons_of_mem _ (List.mem_append_left _ (List.mem_of_getElem? (i := 2) rfl)))) hdX6_within.2 ⟨by decide, by decide⟩, (hts (.static yX6_within) (List.mem_cons_of_mem _ (List.mem_append_left _ (List.mem_of_getElem? (i := 1) rfl)))), trivial⟩ (z_preS E hh) rfl rfl hl.1 rfl (lv_room (Nat.le_of_ble_eq_true rfl)) dX0_hasRobber_8 ⟨Nat.le_refl _, Nat.le_refl _⟩) hh (fun H locs hh => ?_)
  obtain ⟨h_v2, hf⟩ := z_if hf
  have hf := Option.some.inj hf
  subst hf
  exact z_zretX hx hb hr hlocks h_v2 hh dX0_hasRobber_11
/-! ===== X0_byKind ===== -/
theorem hdX0_byKind : yX0_byKind.cls = RX0 ∧ yX0_byKind.cls ≠ "java/lang/invoke/MethodHandle" ∧ yX0_byKind.cls ≠ "java/lang/invoke/VarHandle" ∧ (parseMethodDescriptor yX0_byKind.desc).map (fun d => d.parameters.length) = some 2 := by decide +kernel
def fX0_byKind (N : Nat) (x0 : Int32) (x1 : Int32) : Option (Int32) :=
  if x0 = (nI 0) then
    some x1
  else
    if x0 = (nI 1) then
      some (x1 + (nI 1))
    else
      if x0 = (nI 2) then
        some ((nI 2) * (x1 + (nI 1)))
      else
        some (((nI 2) * (x1 + (nI 1))) + (nI 3))
set_option maxRecDepth 100000 in
set_option maxHeartbeats 4000000 in
theorem zcX0_byKind (l : Launch) (g : zG) (A : Nat → Prop) (σ τ : zS) (N : Nat) (x0 : Int32) (x1 : Int32)  {res : Int32} (hf : fX0_byKind N x0 x1 = some res) : Met l yX0_byKind wsX0_byKind (zR 0) (zPc g A σ τ [.int x0, .int x1]) (zQi g A τ (res, σ)) 0 0 A := by
  refine z_met (cc := cX0_byKind) (ret := (some .int)) (own := RX0) (by decide) rfl rfl _ (Nat.le_of_ble_eq_true rfl) ?_
  intro p e s m below meth c C E ls hl hh
  have hl : lv_has ls 2 [(0, .int x0), (1, .int x1)] := hl
  obtain ⟨hx, hb, hr, hml, hown, hts, hlocks⟩ := id C
  unfold fX0_byKind at hf
  refine lv_iload_n hx hb dX0_byKind_0 rfl (lv_at hl 0 rfl) ?_
  by_cases c_v1 : x0 = (nI 0)
  · have hf := z_ip hf c_v1
    refine z_tbl (tgt := 28) (off := 27) hx hb dX0_byKind_1 (nI 0) c_v1 (by decide) (by decide) (by decide) (by decide) ?_
    refine lv_iload_n hx hb dX0_byKind_28 rfl (lv_at hl 1 rfl) ?_
    have hf := Option.some.inj hf
    subst hf
    exact z_iretX hx hb hr hlocks hh dX0_byKind_29
  · have hf := z_in hf c_v1
    by_cases c_v2 : x0 = (nI 1)
    · have hf := z_ip hf c_v2
      refine z_tbl (tgt := 30) (off := 29) hx hb dX0_byKind_1 (nI 1) c_v2 (by decide) (by decide) (by decide) (by decide) ?_
      refine lv_iload_n hx hb dX0_byKind_30 rfl (lv_at hl 1 rfl) ?_
      refine lv_iconst (v := (nI 1)) hx hb dX0_byKind_31 (by decide) ?_
      refine lv_iadd hx hb dX0_byKind_32 ?_
      have hf := Option.some.inj hf
      subst hf
      exact z_iretX hx hb hr hlocks hh dX0_byKind_33
    · have hf := z_in hf c_v2
      by_cases c_v3 : x0 = (nI 2)
      · have hf := z_ip hf c_v3
        refine z_tbl (tgt := 34) (off := 33) hx hb dX0_byKind_1 (nI 2) c_v3 (by decide) (by decide) (by decide) (by decide) ?_
        refine lv_iconst (v := (nI 2)) hx hb dX0_byKind_34 (by decide) ?_
        refine lv_iload_n hx hb dX0_byKind_35 rfl (lv_at hl 1 rfl) ?_
        refine lv_iconst (v := (nI 1)) hx hb dX0_byKind_36 (by decide) ?_
        refine lv_iadd hx hb dX0_byKind_37 ?_
        refine lv_imul hx hb dX0_byKind_38 ?_
        have hf := Option.some.inj hf
        subst hf
        exact z_iretX hx hb hr hlocks hh dX0_byKind_39
      · have hf := z_in hf c_v3
        refine lv_tableOut (tgt := 40) hx hb dX0_byKind_1 (by have n_c_v1 := lv_neT (a := 0) c_v1 (by decide); have n_c_v2 := lv_neT (a := 1) c_v2 (by decide); have n_c_v3 := lv_neT (a := 2) c_v3 (by decide); omega) (by decide) ?_
        refine lv_iconst (v := (nI 2)) hx hb dX0_byKind_40 (by decide) ?_
        refine lv_iload_n hx hb dX0_byKind_41 rfl (lv_at hl 1 rfl) ?_
        refine lv_iconst (v := (nI 1)) hx hb dX0_byKind_42 (by decide) ?_
        refine lv_iadd hx hb dX0_byKind_43 ?_
        refine lv_imul hx hb dX0_byKind_44 ?_
        refine lv_iconst (v := (nI 3)) hx hb dX0_byKind_45 (by decide) ?_
        refine lv_iadd hx hb dX0_byKind_46 ?_
        have hf := Option.some.inj hf
        subst hf
        exact z_iretX hx hb hr hlocks hh dX0_byKind_47
/-! ===== X0_bears ===== -/
theorem hdX0_bears : yX0_bears.cls = RX0 ∧ yX0_bears.cls ≠ "java/lang/invoke/MethodHandle" ∧ yX0_bears.cls ≠ "java/lang/invoke/VarHandle" ∧ (parseMethodDescriptor yX0_bears.desc).map (fun d => d.parameters.length) = some 1 := by decide +kernel
def fX0_bears (N : Nat) (σ : zS) (b0 : Nat) (x1 : Int32) : Option (Int32) :=
  if zin x1 (zlen (zba b0 0)) then
  zlet (σ.2 (zba b0 0) x1.toNatClampNeg) fun v2 =>
  if zin x1 (zlen (zba b0 1)) then
  zlet (σ.2 (zba b0 1) x1.toNatClampNeg) fun v4 =>
  (fX0_byKind N v2 v4).bind fun q5 =>
  some q5
  else none
  else none
set_option maxRecDepth 100000 in
set_option maxHeartbeats 4000000 in
theorem zcX0_bears (l : Launch) (g : zG) (A : Nat → Prop) (σ τ : zS) (N : Nat) (b0 : Nat) (x1 : Int32) (h1_b0 : 42 ≤ b0) (h2_b0 : b0 < 46) {res : Int32} (hf : fX0_bears N σ b0 x1 = some res) : Met l yX0_bears wsX0_bears (zR 1) (zPc g A σ τ [.ref (g.2.2 b0), .int x1]) (zQi g A τ (res, σ)) 0 0 A := by
  refine z_met (cc := cX0_bears) (ret := (some .int)) (own := RX0) (by decide) rfl rfl _ (Nat.le_of_ble_eq_true rfl) ?_
  intro p e s m below meth c C E ls hl hh
  have hl : lv_has ls 2 [(0, .ref (g.2.2 b0)), (1, .int x1)] := hl
  obtain ⟨hx, hb, hr, hml, hown, hts, hlocks⟩ := id C
  unfold fX0_bears at hf
  refine lv_aload_n hx hb dX0_bears_0 rfl (lv_at hl 0 rfl) ?_
  refine z_get (v := .ref (g.2.2 (zba b0 0))) hx hb hts (fun w h => List.mem_cons_of_mem _ (List.mem_append_right _ (h))) hown E hh (Nat.lt_trans (m := 46) h2_b0 (by decide)) (zC_band h1_b0 h2_b0) rfl 0 (by decide) (hts (.fieldLink RX0 9 "TownBand$Band" "kinds" "[I") (List.mem_cons_of_mem _ (List.mem_append_left _ (List.mem_of_getElem? (i := 0) rfl)))) rfl dX0_bears_1 ?_
  refine lv_iload_n hx hb dX0_bears_4 rfl (lv_at hl 1 rfl) ?_
  obtain ⟨h_v1, hf⟩ := z_if hf
  obtain ⟨v2, e_v2, hf⟩ := z_lt hf
  refine z_iald hx hb E hh (zba_lt h1_b0 h2_b0 (by decide)) h_v1 e_v2 dX0_bears_5 ?_
  refine lv_aload_n hx hb dX0_bears_6 rfl (lv_at hl 0 rfl) ?_
  refine z_get (v := .ref (g.2.2 (zba b0 1))) hx hb hts (fun w h => List.mem_cons_of_mem _ (List.mem_append_right _ (h))) hown E hh (Nat.lt_trans (m := 46) h2_b0 (by decide)) (zC_band h1_b0 h2_b0) rfl 1 (by decide) (hts (.fieldLink RX0 15 "TownBand$Band" "weights" "[I") (List.mem_cons_of_mem _ (List.mem_append_left _ (List.mem_of_getElem? (i := 1) rfl)))) rfl dX0_bears_7 ?_
  refine lv_iload_n hx hb dX0_bears_10 rfl (lv_at hl 1 rfl) ?_
  obtain ⟨h_v3, hf⟩ := z_if hf
  obtain ⟨v4, e_v4, hf⟩ := z_lt hf
  refine z_iald hx hb E hh (zba_lt h1_b0 h2_b0 (by decide)) h_v3 e_v4 dX0_bears_11 ?_
  obtain ⟨q5, h_q5, hf⟩ := z_bd hf
  refine z_xi (va_runS (As := [.int v2, .int v4]) (rest := []) ⟨hx, hb, hml, hown, hts⟩ (zcX0_byKind l g A σ τ N v2 v4 h_q5) (va_cwS 2 hts gX0_bears_X0_byKind rfl rfl rfl hdX0_byKind.2 ⟨by decide, by decide⟩) (z_preS E hh) rfl rfl hl.1 rfl (lv_room (Nat.le_of_ble_eq_true rfl)) dX0_bears_12 ⟨Nat.le_refl _, Nat.le_refl _⟩) hh (fun H locs hh => ?_)
  have hf := Option.some.inj hf
  subst hf
  exact z_iretX hx hb hr hlocks hh dX0_bears_15
/-! ===== X0_hurts ===== -/
theorem hdX0_hurts : yX0_hurts.cls = RX0 ∧ yX0_hurts.cls ≠ "java/lang/invoke/MethodHandle" ∧ yX0_hurts.cls ≠ "java/lang/invoke/VarHandle" ∧ (parseMethodDescriptor yX0_hurts.desc).map (fun d => d.parameters.length) = some 1 := by decide +kernel
def fX0_hurts (N : Nat) (σ : zS) (b0 : Nat) (x1 : Int32) : Option (Int32) :=
  if zin x1 (zlen (zba b0 0)) then
  zlet (σ.2 (zba b0 0) x1.toNatClampNeg) fun v2 =>
  (fX0_byKind N v2 (nI 1)).bind fun q3 =>
  some q3
  else none
set_option maxRecDepth 100000 in
set_option maxHeartbeats 4000000 in
theorem zcX0_hurts (l : Launch) (g : zG) (A : Nat → Prop) (σ τ : zS) (N : Nat) (b0 : Nat) (x1 : Int32) (h1_b0 : 42 ≤ b0) (h2_b0 : b0 < 46) {res : Int32} (hf : fX0_hurts N σ b0 x1 = some res) : Met l yX0_hurts wsX0_hurts (zR 1) (zPc g A σ τ [.ref (g.2.2 b0), .int x1]) (zQi g A τ (res, σ)) 0 0 A := by
  refine z_met (cc := cX0_hurts) (ret := (some .int)) (own := RX0) (by decide) rfl rfl _ (Nat.le_of_ble_eq_true rfl) ?_
  intro p e s m below meth c C E ls hl hh
  have hl : lv_has ls 2 [(0, .ref (g.2.2 b0)), (1, .int x1)] := hl
  obtain ⟨hx, hb, hr, hml, hown, hts, hlocks⟩ := id C
  unfold fX0_hurts at hf
  refine lv_aload_n hx hb dX0_hurts_0 rfl (lv_at hl 0 rfl) ?_
  refine z_get (v := .ref (g.2.2 (zba b0 0))) hx hb hts (fun w h => List.mem_cons_of_mem _ (List.mem_append_right _ (h))) hown E hh (Nat.lt_trans (m := 46) h2_b0 (by decide)) (zC_band h1_b0 h2_b0) rfl 0 (by decide) (hts (.fieldLink RX0 9 "TownBand$Band" "kinds" "[I") (List.mem_cons_of_mem _ (List.mem_append_left _ (List.mem_of_getElem? (i := 0) rfl)))) rfl dX0_hurts_1 ?_
  refine lv_iload_n hx hb dX0_hurts_4 rfl (lv_at hl 1 rfl) ?_
  obtain ⟨h_v1, hf⟩ := z_if hf
  obtain ⟨v2, e_v2, hf⟩ := z_lt hf
  refine z_iald hx hb E hh (zba_lt h1_b0 h2_b0 (by decide)) h_v1 e_v2 dX0_hurts_5 ?_
  refine lv_iconst (v := (nI 1)) hx hb dX0_hurts_6 (by decide) ?_
  obtain ⟨q3, h_q3, hf⟩ := z_bd hf
  refine z_xi (va_runS (As := [.int v2, .int (nI 1)]) (rest := []) ⟨hx, hb, hml, hown, hts⟩ (zcX0_byKind l g A σ τ N v2 (nI 1) h_q3) (va_cwS 2 hts gX0_hurts_X0_byKind rfl rfl rfl hdX0_byKind.2 ⟨by decide, by decide⟩) (z_preS E hh) rfl rfl hl.1 rfl (lv_room (Nat.le_of_ble_eq_true rfl)) dX0_hurts_7 ⟨Nat.le_refl _, Nat.le_refl _⟩) hh (fun H locs hh => ?_)
  have hf := Option.some.inj hf
  subst hf
  exact z_iretX hx hb hr hlocks hh dX0_hurts_10
/-! ===== X0_towerBits ===== -/
theorem hdX0_towerBits : yX0_towerBits.cls = RX0 ∧ yX0_towerBits.cls ≠ "java/lang/invoke/MethodHandle" ∧ yX0_towerBits.cls ≠ "java/lang/invoke/VarHandle" ∧ (parseMethodDescriptor yX0_towerBits.desc).map (fun d => d.parameters.length) = some 0 := by decide +kernel
def PX0_towerBits_4 (p : Program) (l : Launch) (e : Env) (s : State) (m : MethodId) (args : Array Value) (below : List Frame) (meth : Method) (c : Code) (g : zG) (A : Nat → Prop) (σ τ : zS) (res : Int32) (f : Nat → Int32 → Int32 → Option (Int32)) : Prop := ∀ (b0 : Nat) (x1 : Int32) (x2 : Int32) (h1_b0 : 42 ≤ b0) (h2_b0 : b0 < 46) (H : Heap) (locs : List Loc) (ls : Array Slot), f b0 x1 x2 = some res → zW g A σ τ s H locs → lv_has ls 3 [(0, .ref (g.2.2 b0)), (1, .int x1), (2, .int x2)] → W p l e (zR 0) s m args below meth c H locs 0 0 (MQ below (zQi g A τ (res, σ)) args s 0 0 A) (F0 m 4 ls [])
def fX0_towerBits_4 (N : Nat) (σ : zS) : Nat → Nat → Int32 → Int32 → Option (Int32)
  | 0, _, _, _ => none
  | n + 1, b0, x1, x2 =>
    if (σ.1 b0 8) ≤ x2 then
      some x1
    else
      if zin x2 (zlen (zba b0 4)) then
      zlet (σ.2 (zba b0 4) x2.toNatClampNeg) fun v3 =>
      zlet (x1 ||| ((nI 1) <<< (v3 &&& 31))) fun v4 =>
      (fX0_towerBits_4 N σ n) b0 v4 (x2 + (nI 1))
      else none
set_option maxRecDepth 100000 in
set_option maxHeartbeats 4000000 in
theorem hX0_towerBits_4 {p : Program} {l : Launch} {e : Env} {s : State} {m : MethodId} {args : Array Value} {below : List Frame} {meth : Method} {c : Code} {g : zG} {A : Nat → Prop} {σ τ : zS} {res : Int32} (C : zCx p s m args meth c cX0_towerBits (some .int) wsX0_towerBits RX0 3) (E : zE g A s) (N : Nat) : ∀ n : Nat, PX0_towerBits_4 p l e s m args below meth c g A σ τ res (fX0_towerBits_4 N σ n) := by
  obtain ⟨hx, hb, hr, hml, hown, hts, hlocks⟩ := id C
  intro n
  induction n with
  | zero =>
    intro b0 x1 x2 h1_b0 h2_b0 H locs ls hf
    exact absurd hf (by simp [fX0_towerBits_4])
  | succ n ih =>
    intro b0 x1 x2 h1_b0 h2_b0 H locs ls hf hh hl
    rw [fX0_towerBits_4] at hf
    refine lv_iload_n hx hb dX0_towerBits_4 rfl (lv_at hl 2 rfl) ?_
    refine lv_aload_n hx hb dX0_towerBits_5 rfl (lv_at hl 0 rfl) ?_
    refine z_get (v := .int (σ.1 b0 8)) hx hb hts (fun w h => List.mem_cons_of_mem _ (List.mem_append_right _ (h))) hown E hh (Nat.lt_trans (m := 46) h2_b0 (by decide)) (zC_band h1_b0 h2_b0) rfl 8 (by decide) (hts (.fieldLink RX0 37 "TownBand$Band" "height" "I") (List.mem_cons_of_mem _ (List.mem_append_left _ (List.mem_of_getElem? (i := 0) rfl)))) rfl dX0_towerBits_6 ?_
    refine lv_icmp_ge (tgt := 29) hx hb dX0_towerBits_9 (by decide) (fun c_v1 => ?_) (fun c_v1 => ?_)
    · have hf := z_ip hf c_v1
      refine lv_iload_n hx hb dX0_towerBits_29 rfl (lv_at hl 1 rfl) ?_
      have hf := Option.some.inj hf
      subst hf
      exact z_iretX hx hb hr hlocks hh dX0_towerBits_30
    · have hf := z_in hf c_v1
      refine lv_iload_n hx hb dX0_towerBits_12 rfl (lv_at hl 1 rfl) ?_
      refine lv_iconst (v := (nI 1)) hx hb dX0_towerBits_13 (by decide) ?_
      refine lv_aload_n hx hb dX0_towerBits_14 rfl (lv_at hl 0 rfl) ?_
      refine z_get (v := .ref (g.2.2 (zba b0 4))) hx hb hts (fun w h => List.mem_cons_of_mem _ (List.mem_append_right _ (h))) hown E hh (Nat.lt_trans (m := 46) h2_b0 (by decide)) (zC_band h1_b0 h2_b0) rfl 4 (by decide) (hts (.fieldLink RX0 24 "TownBand$Band" "tower" "[I") (List.mem_cons_of_mem _ (List.mem_append_left _ (List.mem_of_getElem? (i := 1) rfl)))) rfl dX0_towerBits_15 ?_
      refine lv_iload_n hx hb dX0_towerBits_18 rfl (lv_at hl 2 rfl) ?_
      obtain ⟨h_v2, hf⟩ := z_if hf
      obtain ⟨v3, e_v3, hf⟩ := z_lt hf
      refine z_iald hx hb E hh (zba_lt h1_b0 h2_b0 (by decide)) h_v2 e_v3 dX0_towerBits_19 ?_
      refine lv_ishl hx hb dX0_towerBits_20 ?_
      refine lv_ior hx hb dX0_towerBits_21 ?_
      obtain ⟨v4, e_v4, hf⟩ := z_lt hf
      refine z_topi e_v4 ?_
      refine lv_istore_n (lv' := [(1, .int v4), (0, .ref (g.2.2 b0)), (2, .int x2)]) hx hb dX0_towerBits_22 rfl hl (by decide) rfl (fun ls hl => ?_)
      refine lv_iinc (v := (x2 + (nI 1))) (lv' := [(2, .int (x2 + (nI 1))), (1, .int v4), (0, .ref (g.2.2 b0))]) hx hb dX0_towerBits_23 hl (k := 2) rfl rfl (by decide) rfl (fun ls hl => ?_)
      refine lv_goto (tgt := 4) hx hb dX0_towerBits_26 (by decide) ?_
      exact ih b0 v4 (x2 + (nI 1)) h1_b0 h2_b0 _ _ _ hf hh (lv_sub hl [2, 1, 0] rfl)
def fX0_towerBits (N : Nat) (σ : zS) (b0 : Nat) : Option (Int32) :=
  (fX0_towerBits_4 N σ N) b0 (nI 0) (nI 0)
set_option maxRecDepth 100000 in
set_option maxHeartbeats 4000000 in
theorem zcX0_towerBits (l : Launch) (g : zG) (A : Nat → Prop) (σ τ : zS) (N : Nat) (b0 : Nat) (h1_b0 : 42 ≤ b0) (h2_b0 : b0 < 46) {res : Int32} (hf : fX0_towerBits N σ b0 = some res) : Met l yX0_towerBits wsX0_towerBits (zR 0) (zPc g A σ τ [.ref (g.2.2 b0)]) (zQi g A τ (res, σ)) 0 0 A := by
  refine z_met (cc := cX0_towerBits) (ret := (some .int)) (own := RX0) (by decide) rfl rfl _ (Nat.le_of_ble_eq_true rfl) ?_
  intro p e s m below meth c C E ls hl hh
  have hl : lv_has ls 3 [(0, .ref (g.2.2 b0))] := hl
  obtain ⟨hx, hb, hr, hml, hown, hts, hlocks⟩ := id C
  unfold fX0_towerBits at hf
  refine lv_iconst (v := (nI 0)) hx hb dX0_towerBits_0 (by decide) ?_
  refine lv_istore_n (lv' := [(1, .int (nI 0)), (0, .ref (g.2.2 b0))]) hx hb dX0_towerBits_1 rfl hl (by decide) rfl (fun ls hl => ?_)
  refine lv_iconst (v := (nI 0)) hx hb dX0_towerBits_2 (by decide) ?_
  refine lv_istore_n (lv' := [(2, .int (nI 0)), (1, .int (nI 0)), (0, .ref (g.2.2 b0))]) hx hb dX0_towerBits_3 rfl hl (by decide) rfl (fun ls hl => ?_)
  exact (hX0_towerBits_4 C E N N) b0 (nI 0) (nI 0) h1_b0 h2_b0 _ _ _ hf hh (lv_sub hl [2, 1, 0] rfl)
/-! ===== X0_carries ===== -/
theorem hdX0_carries : yX0_carries.cls = RX0 ∧ yX0_carries.cls ≠ "java/lang/invoke/MethodHandle" ∧ yX0_carries.cls ≠ "java/lang/invoke/VarHandle" ∧ (parseMethodDescriptor yX0_carries.desc).map (fun d => d.parameters.length) = some 3 := by decide +kernel
def PX0_carries_8 (p : Program) (l : Launch) (e : Env) (s : State) (m : MethodId) (args : Array Value) (below : List Frame) (meth : Method) (c : Code) (g : zG) (A : Nat → Prop) (σ τ : zS) (res : Int32) (f : Nat → Nat → Int32 → Int32 → Option (Int32)) : Prop := ∀ (b0 : Nat) (b1 : Nat) (x4 : Int32) (x5 : Int32) (h1_b0 : 42 ≤ b0) (h2_b0 : b0 < 46) (h_b1 : b1 < 39) (H : Heap) (locs : List Loc) (ls : Array Slot), f b0 b1 x4 x5 = some res → zW g A σ τ s H locs → lv_has ls 6 [(0, .ref (g.2.2 b0)), (1, .ref (g.2.2 b1)), (4, .int x4), (5, .int x5)] → W p l e (zR 2) s m args below meth c H locs 0 0 (MQ below (zQi g A τ (res, σ)) args s 0 0 A) (F0 m 8 ls [])
def fX0_carries_8 (N : Nat) (σ : zS) : Nat → Nat → Nat → Int32 → Int32 → Option (Int32)
  | 0, _, _, _, _ => none
  | n + 1, b0, b1, x4, x5 =>
    if x5 < 0 then
      some 1
    else
      if zin x5 (zlen b1) then
      zlet (σ.2 b1 x5.toNatClampNeg) fun v3 =>
      (fX0_bears N σ b0 v3).bind fun q4 =>
      if x4 ≤ q4 then
        if zin x5 (zlen b1) then
        zlet (σ.2 b1 x5.toNatClampNeg) fun v7 =>
        if zin v7 (zlen (zba b0 1)) then
        zlet (σ.2 (zba b0 1) v7.toNatClampNeg) fun v9 =>
        (fX0_carries_8 N σ n) b0 b1 (x4 + v9) (x5 + (-1))
        else none
        else none
      else
        some 0
      else none
set_option maxRecDepth 100000 in
set_option maxHeartbeats 4000000 in
theorem hX0_carries_8 {p : Program} {l : Launch} {e : Env} {s : State} {m : MethodId} {args : Array Value} {below : List Frame} {meth : Method} {c : Code} {g : zG} {A : Nat → Prop} {σ τ : zS} {res : Int32} (C : zCx p s m args meth c cX0_carries (some .boolean) wsX0_carries RX0 6) (E : zE g A s) (N : Nat) : ∀ n : Nat, PX0_carries_8 p l e s m args below meth c g A σ τ res (fX0_carries_8 N σ n) := by
  obtain ⟨hx, hb, hr, hml, hown, hts, hlocks⟩ := id C
  intro n
  induction n with
  | zero =>
    intro b0 b1 x4 x5 h1_b0 h2_b0 h_b1 H locs ls hf
    exact absurd hf (by simp [fX0_carries_8])
  | succ n ih =>
    intro b0 b1 x4 x5 h1_b0 h2_b0 h_b1 H locs ls hf hh hl
    rw [fX0_carries_8] at hf
    refine lv_iload hx hb dX0_carries_8 (lv_at hl 3 rfl) ?_
    refine lv_if_lt (tgt := 48) hx hb dX0_carries_10 (by decide) (fun c_v1 => ?_) (fun c_v1 => ?_)
    · have hf := z_ip hf c_v1
      refine lv_iconst (v := (nI 1)) hx hb dX0_carries_48 (by decide) ?_
      have hf := Option.some.inj hf
      subst hf
      exact z_zretX hx hb hr hlocks (Or.inr rfl) hh dX0_carries_49
    · have hf := z_in hf c_v1
      refine lv_aload_n hx hb dX0_carries_13 rfl (lv_at hl 0 rfl) ?_
      refine lv_aload_n hx hb dX0_carries_14 rfl (lv_at hl 1 rfl) ?_
      refine lv_iload hx hb dX0_carries_15 (lv_at hl 3 rfl) ?_
      obtain ⟨h_v2, hf⟩ := z_if hf
      obtain ⟨v3, e_v3, hf⟩ := z_lt hf
      refine z_iald hx hb E hh h_b1 h_v2 e_v3 dX0_carries_17 ?_
      obtain ⟨q4, h_q4, hf⟩ := z_bd hf
      refine z_xi (va_runV (As := [.int v3]) (rest := []) ⟨hx, hb, hml, hown, hts⟩ (zcX0_bears l g A σ τ N b0 v3 h1_b0 h2_b0 h_q4) (cwV 1 hts gX0_carries_X0_bears rfl rfl rfl hdX0_bears ⟨by decide, by decide⟩) (z_preV E hh (Nat.lt_trans (m := 46) h2_b0 (by decide)) (zC_band h1_b0 h2_b0) rfl) rfl rfl hl.1 rfl (lv_room (Nat.le_of_ble_eq_true rfl)) dX0_carries_18 ⟨Nat.le_refl _, Nat.le_refl _⟩) hh (fun H locs hh => ?_)
      refine lv_iload hx hb dX0_carries_21 (lv_at hl 2 rfl) ?_
      refine lv_icmp_ge (tgt := 28) hx hb dX0_carries_23 (by decide) (fun c_v5 => ?_) (fun c_v5 => ?_)
      · have hf := z_ip hf c_v5
        refine lv_iload hx hb dX0_carries_28 (lv_at hl 2 rfl) ?_
        refine lv_aload_n hx hb dX0_carries_30 rfl (lv_at hl 0 rfl) ?_
        refine z_get (v := .ref (g.2.2 (zba b0 1))) hx hb hts (fun w h => List.mem_cons_of_mem _ (List.mem_append_right _ (h))) hown E hh (Nat.lt_trans (m := 46) h2_b0 (by decide)) (zC_band h1_b0 h2_b0) rfl 1 (by decide) (hts (.fieldLink RX0 15 "TownBand$Band" "weights" "[I") (List.mem_cons_of_mem _ (List.mem_append_left _ (List.mem_of_getElem? (i := 0) rfl)))) rfl dX0_carries_31 ?_
        refine lv_aload_n hx hb dX0_carries_34 rfl (lv_at hl 1 rfl) ?_
        refine lv_iload hx hb dX0_carries_35 (lv_at hl 3 rfl) ?_
        obtain ⟨h_v6, hf⟩ := z_if hf
        obtain ⟨v7, e_v7, hf⟩ := z_lt hf
        refine z_iald hx hb E hh h_b1 h_v6 e_v7 dX0_carries_37 ?_
        obtain ⟨h_v8, hf⟩ := z_if hf
        obtain ⟨v9, e_v9, hf⟩ := z_lt hf
        refine z_iald hx hb E hh (zba_lt h1_b0 h2_b0 (by decide)) h_v8 e_v9 dX0_carries_38 ?_
        refine lv_iadd hx hb dX0_carries_39 ?_
        refine lv_istore (lv' := [(4, .int (x4 + v9)), (0, .ref (g.2.2 b0)), (1, .ref (g.2.2 b1)), (5, .int x5)]) hx hb dX0_carries_40 hl (by decide) rfl (fun ls hl => ?_)
        refine lv_iinc (v := (x5 + (-1))) (lv' := [(5, .int (x5 + (-1))), (4, .int (x4 + v9)), (0, .ref (g.2.2 b0)), (1, .ref (g.2.2 b1))]) hx hb dX0_carries_42 hl (k := 3) rfl rfl (by decide) rfl (fun ls hl => ?_)
        refine lv_goto (tgt := 8) hx hb dX0_carries_45 (by decide) ?_
        exact ih b0 b1 (x4 + v9) (x5 + (-1)) h1_b0 h2_b0 h_b1 _ _ _ hf hh (lv_sub hl [2, 3, 1, 0] rfl)
      · have hf := z_in hf c_v5
        refine lv_iconst (v := (nI 0)) hx hb dX0_carries_26 (by decide) ?_
        have hf := Option.some.inj hf
        subst hf
        exact z_zretX hx hb hr hlocks (Or.inl rfl) hh dX0_carries_27
def fX0_carries (N : Nat) (σ : zS) (b0 : Nat) (b1 : Nat) (x2 : Int32) (x3 : Int32) : Option (Int32) :=
  zlet (x2 - (nI 1)) fun v1 =>
  (fX0_carries_8 N σ N) b0 b1 x3 v1
set_option maxRecDepth 100000 in
set_option maxHeartbeats 4000000 in
theorem zcX0_carries (l : Launch) (g : zG) (A : Nat → Prop) (σ τ : zS) (N : Nat) (b0 : Nat) (b1 : Nat) (x2 : Int32) (x3 : Int32) (h1_b0 : 42 ≤ b0) (h2_b0 : b0 < 46) (h_b1 : b1 < 39) {res : Int32} (hf : fX0_carries N σ b0 b1 x2 x3 = some res) : Met l yX0_carries wsX0_carries (zR 2) (zPc g A σ τ [.ref (g.2.2 b0), .ref (g.2.2 b1), .int x2, .int x3]) (zQi g A τ (res, σ)) 0 0 A := by
  refine z_met (cc := cX0_carries) (ret := (some .boolean)) (own := RX0) (by decide) rfl rfl _ (Nat.le_of_ble_eq_true rfl) ?_
  intro p e s m below meth c C E ls hl hh
  have hl : lv_has ls 6 [(0, .ref (g.2.2 b0)), (1, .ref (g.2.2 b1)), (2, .int x2), (3, .int x3)] := hl
  obtain ⟨hx, hb, hr, hml, hown, hts, hlocks⟩ := id C
  unfold fX0_carries at hf
  refine lv_iload_n hx hb dX0_carries_0 rfl (lv_at hl 3 rfl) ?_
  refine lv_istore (lv' := [(4, .int x3), (0, .ref (g.2.2 b0)), (1, .ref (g.2.2 b1)), (2, .int x2), (3, .int x3)]) hx hb dX0_carries_1 hl (by decide) rfl (fun ls hl => ?_)
  refine lv_iload_n hx hb dX0_carries_3 rfl (lv_at hl 3 rfl) ?_
  refine lv_iconst (v := (nI 1)) hx hb dX0_carries_4 (by decide) ?_
  refine lv_isub hx hb dX0_carries_5 ?_
  obtain ⟨v1, e_v1, hf⟩ := z_lt hf
  refine z_topi e_v1 ?_
  refine lv_istore (lv' := [(5, .int v1), (4, .int x3), (0, .ref (g.2.2 b0)), (1, .ref (g.2.2 b1)), (2, .int x2), (3, .int x3)]) hx hb dX0_carries_6 hl (by decide) rfl (fun ls hl => ?_)
  exact (hX0_carries_8 C E N N) b0 b1 x3 v1 h1_b0 h2_b0 h_b1 _ _ _ hf hh (lv_sub hl [2, 3, 1, 0] rfl)
/-! ===== X0_stands ===== -/
theorem hdX0_stands : yX0_stands.cls = RX0 ∧ yX0_stands.cls ≠ "java/lang/invoke/MethodHandle" ∧ yX0_stands.cls ≠ "java/lang/invoke/VarHandle" ∧ (parseMethodDescriptor yX0_stands.desc).map (fun d => d.parameters.length) = some 0 := by decide +kernel
def fX0_stands (N : Nat) (σ : zS) (b0 : Nat) : Option (Int32) :=
  (fX0_carries N σ b0 (zba b0 4) (σ.1 b0 8) (nI 0)).bind fun q1 =>
  if q1 = 0 ∨ q1 = 1 then
  some q1
  else none
set_option maxRecDepth 100000 in
set_option maxHeartbeats 4000000 in
theorem zcX0_stands (l : Launch) (g : zG) (A : Nat → Prop) (σ τ : zS) (N : Nat) (b0 : Nat) (h1_b0 : 42 ≤ b0) (h2_b0 : b0 < 46) {res : Int32} (hf : fX0_stands N σ b0 = some res) : Met l yX0_stands wsX0_stands (zR 3) (zPc g A σ τ [.ref (g.2.2 b0)]) (zQi g A τ (res, σ)) 0 0 A := by
  refine z_met (cc := cX0_stands) (ret := (some .boolean)) (own := RX0) (by decide) rfl rfl _ (Nat.le_of_ble_eq_true rfl) ?_
  intro p e s m below meth c C E ls hl hh
  have hl : lv_has ls 1 [(0, .ref (g.2.2 b0))] := hl
  obtain ⟨hx, hb, hr, hml, hown, hts, hlocks⟩ := id C
  unfold fX0_stands at hf
  refine lv_aload_n hx hb dX0_stands_0 rfl (lv_at hl 0 rfl) ?_
  refine lv_aload_n hx hb dX0_stands_1 rfl (lv_at hl 0 rfl) ?_
  refine z_get (v := .ref (g.2.2 (zba b0 4))) hx hb hts (fun w h => List.mem_cons_of_mem _ (List.mem_append_right _ (h))) hown E hh (Nat.lt_trans (m := 46) h2_b0 (by decide)) (zC_band h1_b0 h2_b0) rfl 4 (by decide) (hts (.fieldLink RX0 24 "TownBand$Band" "tower" "[I") (List.mem_cons_of_mem _ (List.mem_append_left _ (List.mem_of_getElem? (i := 0) rfl)))) rfl dX0_stands_2 ?_
  refine lv_aload_n hx hb dX0_stands_5 rfl (lv_at hl 0 rfl) ?_
  refine z_get (v := .int (σ.1 b0 8)) hx hb hts (fun w h => List.mem_cons_of_mem _ (List.mem_append_right _ (h))) hown E hh (Nat.lt_trans (m := 46) h2_b0 (by decide)) (zC_band h1_b0 h2_b0) rfl 8 (by decide) (hts (.fieldLink RX0 37 "TownBand$Band" "height" "I") (List.mem_cons_of_mem _ (List.mem_append_left _ (List.mem_of_getElem? (i := 1) rfl)))) rfl dX0_stands_6 ?_
  refine lv_iconst (v := (nI 0)) hx hb dX0_stands_9 (by decide) ?_
  obtain ⟨q1, h_q1, hf⟩ := z_bd hf
  refine z_xi (va_runV (As := [.ref (g.2.2 (zba b0 4)), .int (σ.1 b0 8), .int (nI 0)]) (rest := []) ⟨hx, hb, hml, hown, hts⟩ (zcX0_carries l g A σ τ N b0 (zba b0 4) (σ.1 b0 8) (nI 0) h1_b0 h2_b0 (zba_lt h1_b0 h2_b0 (by decide)) h_q1) (cwV 3 hts gX0_stands_X0_carries rfl rfl rfl hdX0_carries ⟨by decide, by decide⟩) (z_preV E hh (Nat.lt_trans (m := 46) h2_b0 (by decide)) (zC_band h1_b0 h2_b0) rfl) rfl rfl hl.1 rfl (lv_room (Nat.le_of_ble_eq_true rfl)) dX0_stands_10 ⟨Nat.le_refl _, Nat.le_refl _⟩) hh (fun H locs hh => ?_)
  obtain ⟨h_v2, hf⟩ := z_if hf
  have hf := Option.some.inj hf
  subst hf
  exact z_zretX hx hb hr hlocks h_v2 hh dX0_stands_13
/-! ===== X0_canClimb ===== -/
theorem hdX0_canClimb : yX0_canClimb.cls = RX0 ∧ yX0_canClimb.cls ≠ "java/lang/invoke/MethodHandle" ∧ yX0_canClimb.cls ≠ "java/lang/invoke/VarHandle" ∧ (parseMethodDescriptor yX0_canClimb.desc).map (fun d => d.parameters.length) = some 1 := by decide +kernel
def fX0_canClimb (N : Nat) (σ : zS) (b0 : Nat) (x1 : Int32) : Option (Int32) :=
  if (nI 5) ≤ (σ.1 b0 8) then
    some 0
  else
    (fX0_towerBits N σ b0).bind fun q2 =>
    if ((q2 >>> (x1 &&& 31)) &&& (nI 1)) = 0 then
      if zin x1 (zlen (zba b0 1)) then
      zlet (σ.2 (zba b0 1) x1.toNatClampNeg) fun v5 =>
      (fX0_carries N σ b0 (zba b0 4) (σ.1 b0 8) v5).bind fun q6 =>
      if q6 = 0 then
        some 0
      else
        some 1
      else none
    else
      some 0
set_option maxRecDepth 100000 in
set_option maxHeartbeats 4000000 in
theorem zcX0_canClimb (l : Launch) (g : zG) (A : Nat → Prop) (σ τ : zS) (N : Nat) (b0 : Nat) (x1 : Int32) (h1_b0 : 42 ≤ b0) (h2_b0 : b0 < 46) {res : Int32} (hf : fX0_canClimb N σ b0 x1 = some res) : Met l yX0_canClimb wsX0_canClimb (zR 3) (zPc g A σ τ [.ref (g.2.2 b0), .int x1]) (zQi g A τ (res, σ)) 0 0 A := by
  refine z_met (cc := cX0_canClimb) (ret := (some .boolean)) (own := RX0) (by decide) rfl rfl _ (Nat.le_of_ble_eq_true rfl) ?_
  intro p e s m below meth c C E ls hl hh
  have hl : lv_has ls 2 [(0, .ref (g.2.2 b0)), (1, .int x1)] := hl
  obtain ⟨hx, hb, hr, hml, hown, hts, hlocks⟩ := id C
  unfold fX0_canClimb at hf
  refine lv_aload_n hx hb dX0_canClimb_0 rfl (lv_at hl 0 rfl) ?_
  refine z_get (v := .int (σ.1 b0 8)) hx hb hts (fun w h => List.mem_cons_of_mem _ (List.mem_append_right _ (h))) hown E hh (Nat.lt_trans (m := 46) h2_b0 (by decide)) (zC_band h1_b0 h2_b0) rfl 8 (by decide) (hts (.fieldLink RX0 37 "TownBand$Band" "height" "I") (List.mem_cons_of_mem _ (List.mem_append_left _ (List.mem_of_getElem? (i := 0) rfl)))) rfl dX0_canClimb_1 ?_
  refine lv_iconst (v := (nI 5)) hx hb dX0_canClimb_4 (by decide) ?_
  refine lv_icmp_ge (tgt := 44) hx hb dX0_canClimb_5 (by decide) (fun c_v1 => ?_) (fun c_v1 => ?_)
  · have hf := z_ip hf c_v1
    refine lv_iconst (v := (nI 0)) hx hb dX0_canClimb_44 (by decide) ?_
    have hf := Option.some.inj hf
    subst hf
    exact z_zretX hx hb hr hlocks (Or.inl rfl) hh dX0_canClimb_45
  · have hf := z_in hf c_v1
    refine lv_aload_n hx hb dX0_canClimb_8 rfl (lv_at hl 0 rfl) ?_
    obtain ⟨q2, h_q2, hf⟩ := z_bd hf
    refine z_xi (va_runV (As := []) (rest := []) ⟨hx, hb, hml, hown, hts⟩ (zcX0_towerBits l g A σ τ N b0 h1_b0 h2_b0 h_q2) (cwV 0 hts gX0_canClimb_X0_towerBits rfl rfl rfl hdX0_towerBits ⟨by decide, by decide⟩) (z_preV E hh (Nat.lt_trans (m := 46) h2_b0 (by decide)) (zC_band h1_b0 h2_b0) rfl) rfl rfl hl.1 rfl (lv_room (Nat.le_of_ble_eq_true rfl)) dX0_canClimb_9 ⟨Nat.le_refl _, Nat.le_refl _⟩) hh (fun H locs hh => ?_)
    refine lv_iload_n hx hb dX0_canClimb_12 rfl (lv_at hl 1 rfl) ?_
    refine lv_ishr hx hb dX0_canClimb_13 ?_
    refine lv_iconst (v := (nI 1)) hx hb dX0_canClimb_14 (by decide) ?_
    refine lv_iand hx hb dX0_canClimb_15 ?_
    refine lv_if_ne (tgt := 44) hx hb dX0_canClimb_16 (by decide) (fun c_v3 => ?_) (fun c_v3 => ?_)
    · have hf := z_in hf c_v3
      refine lv_iconst (v := (nI 0)) hx hb dX0_canClimb_44 (by decide) ?_
      have hf := Option.some.inj hf
      subst hf
      exact z_zretX hx hb hr hlocks (Or.inl rfl) hh dX0_canClimb_45
    · have hf := z_ip hf c_v3
      refine lv_aload_n hx hb dX0_canClimb_19 rfl (lv_at hl 0 rfl) ?_
      refine lv_aload_n hx hb dX0_canClimb_20 rfl (lv_at hl 0 rfl) ?_
      refine z_get (v := .ref (g.2.2 (zba b0 4))) hx hb hts (fun w h => List.mem_cons_of_mem _ (List.mem_append_right _ (h))) hown E hh (Nat.lt_trans (m := 46) h2_b0 (by decide)) (zC_band h1_b0 h2_b0) rfl 4 (by decide) (hts (.fieldLink RX0 24 "TownBand$Band" "tower" "[I") (List.mem_cons_of_mem _ (List.mem_append_left _ (List.mem_of_getElem? (i := 1) rfl)))) rfl dX0_canClimb_21 ?_
      refine lv_aload_n hx hb dX0_canClimb_24 rfl (lv_at hl 0 rfl) ?_
      refine z_get (v := .int (σ.1 b0 8)) hx hb hts (fun w h => List.mem_cons_of_mem _ (List.mem_append_right _ (h))) hown E hh (Nat.lt_trans (m := 46) h2_b0 (by decide)) (zC_band h1_b0 h2_b0) rfl 8 (by decide) (hts (.fieldLink RX0 37 "TownBand$Band" "height" "I") (List.mem_cons_of_mem _ (List.mem_append_left _ (List.mem_of_getElem? (i := 0) rfl)))) rfl dX0_canClimb_25 ?_
      refine lv_aload_n hx hb dX0_canClimb_28 rfl (lv_at hl 0 rfl) ?_
      refine z_get (v := .ref (g.2.2 (zba b0 1))) hx hb hts (fun w h => List.mem_cons_of_mem _ (List.mem_append_right _ (h))) hown E hh (Nat.lt_trans (m := 46) h2_b0 (by decide)) (zC_band h1_b0 h2_b0) rfl 1 (by decide) (hts (.fieldLink RX0 15 "TownBand$Band" "weights" "[I") (List.mem_cons_of_mem _ (List.mem_append_left _ (List.mem_of_getElem? (i := 2) rfl)))) rfl dX0_canClimb_29 ?_
      refine lv_iload_n hx hb dX0_canClimb_32 rfl (lv_at hl 1 rfl) ?_
      obtain ⟨h_v4, hf⟩ := z_if hf
      obtain ⟨v5, e_v5, hf⟩ := z_lt hf
      refine z_iald hx hb E hh (zba_lt h1_b0 h2_b0 (by decide)) h_v4 e_v5 dX0_canClimb_33 ?_
      obtain ⟨q6, h_q6, hf⟩ := z_bd hf
      refine z_xi (va_runV (As := [.ref (g.2.2 (zba b0 4)), .int (σ.1 b0 8), .int v5]) (rest := []) ⟨hx, hb, hml, hown, hts⟩ (zcX0_carries l g A σ τ N b0 (zba b0 4) (σ.1 b0 8) v5 h1_b0 h2_b0 (zba_lt h1_b0 h2_b0 (by decide)) h_q6) (cwV 3 hts gX0_canClimb_X0_carries rfl rfl rfl hdX0_carries ⟨by decide, by decide⟩) (z_preV E hh (Nat.lt_trans (m := 46) h2_b0 (by decide)) (zC_band h1_b0 h2_b0) rfl) rfl rfl hl.1 rfl (lv_room (Nat.le_of_ble_eq_true rfl)) dX0_canClimb_34 ⟨Nat.le_refl _, Nat.le_refl _⟩) hh (fun H locs hh => ?_)
      refine lv_if_eq (tgt := 44) hx hb dX0_canClimb_37 (by decide) (fun c_v7 => ?_) (fun c_v7 => ?_)
      · have hf := z_ip hf c_v7
        refine lv_iconst (v := (nI 0)) hx hb dX0_canClimb_44 (by decide) ?_
        have hf := Option.some.inj hf
        subst hf
        exact z_zretX hx hb hr hlocks (Or.inl rfl) hh dX0_canClimb_45
      · have hf := z_in hf c_v7
        refine lv_iconst (v := (nI 1)) hx hb dX0_canClimb_40 (by decide) ?_
        refine lv_goto (tgt := 45) hx hb dX0_canClimb_41 (by decide) ?_
        have hf := Option.some.inj hf
        subst hf
        exact z_zretX hx hb hr hlocks (Or.inr rfl) hh dX0_canClimb_45
/-! ===== X0_noiseBy ===== -/
theorem hdX0_noiseBy : yX0_noiseBy.cls = RX0 ∧ yX0_noiseBy.cls ≠ "java/lang/invoke/MethodHandle" ∧ yX0_noiseBy.cls ≠ "java/lang/invoke/VarHandle" ∧ (parseMethodDescriptor yX0_noiseBy.desc).map (fun d => d.parameters.length) = some 3 := by decide +kernel
def PX0_noiseBy_6 (p : Program) (l : Launch) (e : Env) (s : State) (m : MethodId) (args : Array Value) (below : List Frame) (meth : Method) (c : Code) (g : zG) (A : Nat → Prop) (σ τ : zS) (res : Int32) (f : Nat → Int32 → Nat → Int32 → Int32 → Option (Int32)) : Prop := ∀ (b1 : Nat) (x2 : Int32) (b3 : Nat) (x4 : Int32) (x5 : Int32) (h_b1 : b1 < 39) (h_b3 : b3 < 39) (H : Heap) (locs : List Loc) (ls : Array Slot), f b1 x2 b3 x4 x5 = some res → zW g A σ τ s H locs → lv_has ls 6 [(1, .ref (g.2.2 b1)), (2, .int x2), (3, .ref (g.2.2 b3)), (4, .int x4), (5, .int x5)] → W p l e (zR 0) s m args below meth c H locs 0 0 (MQ below (zQi g A τ (res, σ)) args s 0 0 A) (F0 m 6 ls [])
def fX0_noiseBy_6 (N : Nat) (σ : zS) : Nat → Nat → Int32 → Nat → Int32 → Int32 → Option (Int32)
  | 0, _, _, _, _, _ => none
  | n + 1, b1, x2, b3, x4, x5 =>
    if x2 ≤ x5 then
      some x4
    else
      if zin x5 (zlen b1) then
      zlet (σ.2 b1 x5.toNatClampNeg) fun v3 =>
      if zin v3 (zlen b3) then
      zlet (σ.2 b3 v3.toNatClampNeg) fun v5 =>
      zlet (x4 + (v5 * (x5 + (nI 1)))) fun v6 =>
      (fX0_noiseBy_6 N σ n) b1 x2 b3 v6 (x5 + (nI 1))
      else none
      else none
set_option maxRecDepth 100000 in
set_option maxHeartbeats 4000000 in
theorem hX0_noiseBy_6 {p : Program} {l : Launch} {e : Env} {s : State} {m : MethodId} {args : Array Value} {below : List Frame} {meth : Method} {c : Code} {g : zG} {A : Nat → Prop} {σ τ : zS} {res : Int32} (C : zCx p s m args meth c cX0_noiseBy (some .int) wsX0_noiseBy RX0 6) (E : zE g A s) (N : Nat) : ∀ n : Nat, PX0_noiseBy_6 p l e s m args below meth c g A σ τ res (fX0_noiseBy_6 N σ n) := by
  obtain ⟨hx, hb, hr, hml, hown, hts, hlocks⟩ := id C
  intro n
  induction n with
  | zero =>
    intro b1 x2 b3 x4 x5 h_b1 h_b3 H locs ls hf
    exact absurd hf (by simp [fX0_noiseBy_6])
  | succ n ih =>
    intro b1 x2 b3 x4 x5 h_b1 h_b3 H locs ls hf hh hl
    rw [fX0_noiseBy_6] at hf
    refine lv_iload hx hb dX0_noiseBy_6 (lv_at hl 4 rfl) ?_
    refine lv_iload_n hx hb dX0_noiseBy_8 rfl (lv_at hl 1 rfl) ?_
    refine lv_icmp_ge (tgt := 34) hx hb dX0_noiseBy_9 (by decide) (fun c_v1 => ?_) (fun c_v1 => ?_)
    · have hf := z_ip hf c_v1
      refine lv_iload hx hb dX0_noiseBy_34 (lv_at hl 3 rfl) ?_
      have hf := Option.some.inj hf
      subst hf
      exact z_iretX hx hb hr hlocks hh dX0_noiseBy_36
    · have hf := z_in hf c_v1
      refine lv_iload hx hb dX0_noiseBy_12 (lv_at hl 3 rfl) ?_
      refine lv_aload_n hx hb dX0_noiseBy_14 rfl (lv_at hl 2 rfl) ?_
      refine lv_aload_n hx hb dX0_noiseBy_15 rfl (lv_at hl 0 rfl) ?_
      refine lv_iload hx hb dX0_noiseBy_16 (lv_at hl 4 rfl) ?_
      obtain ⟨h_v2, hf⟩ := z_if hf
      obtain ⟨v3, e_v3, hf⟩ := z_lt hf
      refine z_iald hx hb E hh h_b1 h_v2 e_v3 dX0_noiseBy_18 ?_
      obtain ⟨h_v4, hf⟩ := z_if hf
      obtain ⟨v5, e_v5, hf⟩ := z_lt hf
      refine z_iald hx hb E hh h_b3 h_v4 e_v5 dX0_noiseBy_19 ?_
      refine lv_iload hx hb dX0_noiseBy_20 (lv_at hl 4 rfl) ?_
      refine lv_iconst (v := (nI 1)) hx hb dX0_noiseBy_22 (by decide) ?_
      refine lv_iadd hx hb dX0_noiseBy_23 ?_
      refine lv_imul hx hb dX0_noiseBy_24 ?_
      refine lv_iadd hx hb dX0_noiseBy_25 ?_
      obtain ⟨v6, e_v6, hf⟩ := z_lt hf
      refine z_topi e_v6 ?_
      refine lv_istore (lv' := [(4, .int v6), (1, .ref (g.2.2 b1)), (2, .int x2), (3, .ref (g.2.2 b3)), (5, .int x5)]) hx hb dX0_noiseBy_26 hl (by decide) rfl (fun ls hl => ?_)
      refine lv_iinc (v := (x5 + (nI 1))) (lv' := [(5, .int (x5 + (nI 1))), (4, .int v6), (1, .ref (g.2.2 b1)), (2, .int x2), (3, .ref (g.2.2 b3))]) hx hb dX0_noiseBy_28 hl (k := 4) rfl rfl (by decide) rfl (fun ls hl => ?_)
      refine lv_goto (tgt := 6) hx hb dX0_noiseBy_31 (by decide) ?_
      exact ih b1 x2 b3 v6 (x5 + (nI 1)) h_b1 h_b3 _ _ _ hf hh (lv_sub hl [2, 3, 4, 1, 0] rfl)
def fX0_noiseBy (N : Nat) (σ : zS) (b0 : Nat) (b1 : Nat) (x2 : Int32) (b3 : Nat) : Option (Int32) :=
  (fX0_noiseBy_6 N σ N) b1 x2 b3 (nI 0) (nI 0)
set_option maxRecDepth 100000 in
set_option maxHeartbeats 4000000 in
theorem zcX0_noiseBy (l : Launch) (g : zG) (A : Nat → Prop) (σ τ : zS) (N : Nat) (b0 : Nat) (b1 : Nat) (x2 : Int32) (b3 : Nat) (h1_b0 : 42 ≤ b0) (h2_b0 : b0 < 46) (h_b1 : b1 < 39) (h_b3 : b3 < 39) {res : Int32} (hf : fX0_noiseBy N σ b0 b1 x2 b3 = some res) : Met l yX0_noiseBy wsX0_noiseBy (zR 0) (zPc g A σ τ [.ref (g.2.2 b0), .ref (g.2.2 b1), .int x2, .ref (g.2.2 b3)]) (zQi g A τ (res, σ)) 0 0 A := by
  refine z_met (cc := cX0_noiseBy) (ret := (some .int)) (own := RX0) (by decide) rfl rfl _ (Nat.le_of_ble_eq_true rfl) ?_
  intro p e s m below meth c C E ls hl hh
  have hl : lv_has ls 6 [(0, .ref (g.2.2 b0)), (1, .ref (g.2.2 b1)), (2, .int x2), (3, .ref (g.2.2 b3))] := hl
  obtain ⟨hx, hb, hr, hml, hown, hts, hlocks⟩ := id C
  unfold fX0_noiseBy at hf
  refine lv_iconst (v := (nI 0)) hx hb dX0_noiseBy_0 (by decide) ?_
  refine lv_istore (lv' := [(4, .int (nI 0)), (0, .ref (g.2.2 b0)), (1, .ref (g.2.2 b1)), (2, .int x2), (3, .ref (g.2.2 b3))]) hx hb dX0_noiseBy_1 hl (by decide) rfl (fun ls hl => ?_)
  refine lv_iconst (v := (nI 0)) hx hb dX0_noiseBy_3 (by decide) ?_
  refine lv_istore (lv' := [(5, .int (nI 0)), (4, .int (nI 0)), (0, .ref (g.2.2 b0)), (1, .ref (g.2.2 b1)), (2, .int x2), (3, .ref (g.2.2 b3))]) hx hb dX0_noiseBy_4 hl (by decide) rfl (fun ls hl => ?_)
  exact (hX0_noiseBy_6 C E N N) b1 x2 b3 (nI 0) (nI 0) h_b1 h_b3 _ _ _ hf hh (lv_sub hl [3, 4, 5, 1, 0] rfl)
/-! ===== X0_fledBits ===== -/
theorem hdX0_fledBits : yX0_fledBits.cls = RX0 ∧ yX0_fledBits.cls ≠ "java/lang/invoke/MethodHandle" ∧ yX0_fledBits.cls ≠ "java/lang/invoke/VarHandle" ∧ (parseMethodDescriptor yX0_fledBits.desc).map (fun d => d.parameters.length) = some 1 := by decide +kernel
def PX0_fledBits_37 (p : Program) (l : Launch) (e : Env) (s : State) (m : MethodId) (args : Array Value) (below : List Frame) (meth : Method) (c : Code) (g : zG) (A : Nat → Prop) (σ τ : zS) (res : Int32) (f : Nat → Int32 → Int32 → Int32 → Option (Int32)) : Prop := ∀ (b0 : Nat) (x2 : Int32) (x3 : Int32) (x4 : Int32) (h1_b0 : 42 ≤ b0) (h2_b0 : b0 < 46) (H : Heap) (locs : List Loc) (ls : Array Slot), f b0 x2 x3 x4 = some res → zW g A σ τ s H locs → lv_has ls 5 [(0, .ref (g.2.2 b0)), (2, .int x2), (3, .int x3), (4, .int x4)] → W p l e (zR 0) s m args below meth c H locs 0 0 (MQ below (zQi g A τ (res, σ)) args s 0 0 A) (F0 m 37 ls [])
def PX0_fledBits_7 (p : Program) (l : Launch) (e : Env) (s : State) (m : MethodId) (args : Array Value) (below : List Frame) (meth : Method) (c : Code) (g : zG) (A : Nat → Prop) (σ τ : zS) (res : Int32) (f : Nat → Int32 → Int32 → Int32 → Option (Int32)) : Prop := ∀ (b0 : Nat) (x2 : Int32) (x3 : Int32) (x4 : Int32) (h1_b0 : 42 ≤ b0) (h2_b0 : b0 < 46) (H : Heap) (locs : List Loc) (ls : Array Slot), f b0 x2 x3 x4 = some res → zW g A σ τ s H locs → lv_has ls 5 [(0, .ref (g.2.2 b0)), (2, .int x2), (3, .int x3), (4, .int x4)] → W p l e (zR 0) s m args below meth c H locs 0 0 (MQ below (zQi g A τ (res, σ)) args s 0 0 A) (F0 m 7 ls [])
def fX0_fledBits_37 (N : Nat) (σ : zS) (rc : Nat → Int32 → Int32 → Int32 → Option (Int32)) (b0 : Nat) (x2 : Int32) (x3 : Int32) (x4 : Int32) : Option (Int32) :=
  rc b0 x2 x3 (x4 + (nI 1))
set_option maxRecDepth 100000 in
set_option maxHeartbeats 4000000 in
theorem hX0_fledBits_37 {p : Program} {l : Launch} {e : Env} {s : State} {m : MethodId} {args : Array Value} {below : List Frame} {meth : Method} {c : Code} {g : zG} {A : Nat → Prop} {σ τ : zS} {res : Int32} (C : zCx p s m args meth c cX0_fledBits (some .int) wsX0_fledBits RX0 5) (E : zE g A s) (N : Nat) (rc : Nat → Int32 → Int32 → Int32 → Option (Int32)) (hrc : PX0_fledBits_7 p l e s m args below meth c g A σ τ res rc) : PX0_fledBits_37 p l e s m args below meth c g A σ τ res (fX0_fledBits_37 N σ rc) := by
  obtain ⟨hx, hb, hr, hml, hown, hts, hlocks⟩ := id C
  intro b0 x2 x3 x4 h1_b0 h2_b0 H locs ls hf hh hl
  unfold fX0_fledBits_37 at hf
  refine lv_iinc (v := (x4 + (nI 1))) (lv' := [(4, .int (x4 + (nI 1))), (0, .ref (g.2.2 b0)), (2, .int x2), (3, .int x3)]) hx hb dX0_fledBits_37 hl (k := 3) rfl rfl (by decide) rfl (fun ls hl => ?_)
  refine lv_goto (tgt := 7) hx hb dX0_fledBits_40 (by decide) ?_
  exact hrc b0 x2 x3 (x4 + (nI 1)) h1_b0 h2_b0 _ _ _ hf hh (lv_sub hl [1, 2, 3, 0] rfl)
def fX0_fledBits_7 (N : Nat) (σ : zS) : Nat → Nat → Int32 → Int32 → Int32 → Option (Int32)
  | 0, _, _, _, _ => none
  | n + 1, b0, x2, x3, x4 =>
    if (σ.1 b0 7) ≤ x4 then
      some x2
    else
      if zin x4 (zlen (zba b0 3)) then
      zlet (σ.2 (zba b0 3) x4.toNatClampNeg) fun v3 =>
      if x3 ≤ v3 then
        (fX0_fledBits_37 N σ (fX0_fledBits_7 N σ n)) b0 x2 x3 x4
      else
        zlet (x2 ||| ((nI 1) <<< (x4 &&& 31))) fun v5 =>
        (fX0_fledBits_37 N σ (fX0_fledBits_7 N σ n)) b0 v5 (x3 + (nI 2)) x4
      else none
set_option maxRecDepth 100000 in
set_option maxHeartbeats 4000000 in
theorem hX0_fledBits_7 {p : Program} {l : Launch} {e : Env} {s : State} {m : MethodId} {args : Array Value} {below : List Frame} {meth : Method} {c : Code} {g : zG} {A : Nat → Prop} {σ τ : zS} {res : Int32} (C : zCx p s m args meth c cX0_fledBits (some .int) wsX0_fledBits RX0 5) (E : zE g A s) (N : Nat) : ∀ n : Nat, PX0_fledBits_7 p l e s m args below meth c g A σ τ res (fX0_fledBits_7 N σ n) := by
  obtain ⟨hx, hb, hr, hml, hown, hts, hlocks⟩ := id C
  intro n
  induction n with
  | zero =>
    intro b0 x2 x3 x4 h1_b0 h2_b0 H locs ls hf
    exact absurd hf (by simp [fX0_fledBits_7])
  | succ n ih =>
    intro b0 x2 x3 x4 h1_b0 h2_b0 H locs ls hf hh hl
    rw [fX0_fledBits_7] at hf
    refine lv_iload hx hb dX0_fledBits_7 (lv_at hl 3 rfl) ?_
    refine lv_aload_n hx hb dX0_fledBits_9 rfl (lv_at hl 0 rfl) ?_
    refine z_get (v := .int (σ.1 b0 7)) hx hb hts (fun w h => List.mem_cons_of_mem _ (List.mem_append_right _ (h))) hown E hh (Nat.lt_trans (m := 46) h2_b0 (by decide)) (zC_band h1_b0 h2_b0) rfl 7 (by decide) (hts (.fieldLink RX0 34 "TownBand$Band" "robbers" "I") (List.mem_cons_of_mem _ (List.mem_append_left _ (List.mem_of_getElem? (i := 0) rfl)))) rfl dX0_fledBits_10 ?_
    refine lv_icmp_ge (tgt := 43) hx hb dX0_fledBits_13 (by decide) (fun c_v1 => ?_) (fun c_v1 => ?_)
    · have hf := z_ip hf c_v1
      refine lv_iload_n hx hb dX0_fledBits_43 rfl (lv_at hl 1 rfl) ?_
      have hf := Option.some.inj hf
      subst hf
      exact z_iretX hx hb hr hlocks hh dX0_fledBits_44
    · have hf := z_in hf c_v1
      refine lv_iload_n hx hb dX0_fledBits_16 rfl (lv_at hl 2 rfl) ?_
      refine lv_aload_n hx hb dX0_fledBits_17 rfl (lv_at hl 0 rfl) ?_
      refine z_get (v := .ref (g.2.2 (zba b0 3))) hx hb hts (fun w h => List.mem_cons_of_mem _ (List.mem_append_right _ (h))) hown E hh (Nat.lt_trans (m := 46) h2_b0 (by decide)) (zC_band h1_b0 h2_b0) rfl 3 (by decide) (hts (.fieldLink RX0 21 "TownBand$Band" "courages" "[I") (List.mem_cons_of_mem _ (List.mem_append_left _ (List.mem_of_getElem? (i := 1) rfl)))) rfl dX0_fledBits_18 ?_
      refine lv_iload hx hb dX0_fledBits_21 (lv_at hl 3 rfl) ?_
      obtain ⟨h_v2, hf⟩ := z_if hf
      obtain ⟨v3, e_v3, hf⟩ := z_lt hf
      refine z_iald hx hb E hh (zba_lt h1_b0 h2_b0 (by decide)) h_v2 e_v3 dX0_fledBits_23 ?_
      refine lv_icmp_le (tgt := 37) hx hb dX0_fledBits_24 (by decide) (fun c_v4 => ?_) (fun c_v4 => ?_)
      · have hf := z_ip hf c_v4
        exact (hX0_fledBits_37 C E N (fX0_fledBits_7 N σ n) ih) b0 x2 x3 x4 h1_b0 h2_b0 _ _ _ hf hh (lv_sub hl [0, 1, 2, 3] rfl)
      · have hf := z_in hf c_v4
        refine lv_iload_n hx hb dX0_fledBits_27 rfl (lv_at hl 1 rfl) ?_
        refine lv_iconst (v := (nI 1)) hx hb dX0_fledBits_28 (by decide) ?_
        refine lv_iload hx hb dX0_fledBits_29 (lv_at hl 3 rfl) ?_
        refine lv_ishl hx hb dX0_fledBits_31 ?_
        refine lv_ior hx hb dX0_fledBits_32 ?_
        obtain ⟨v5, e_v5, hf⟩ := z_lt hf
        refine z_topi e_v5 ?_
        refine lv_istore_n (lv' := [(2, .int v5), (0, .ref (g.2.2 b0)), (3, .int x3), (4, .int x4)]) hx hb dX0_fledBits_33 rfl hl (by decide) rfl (fun ls hl => ?_)
        refine lv_iinc (v := (x3 + (nI 2))) (lv' := [(3, .int (x3 + (nI 2))), (2, .int v5), (0, .ref (g.2.2 b0)), (4, .int x4)]) hx hb dX0_fledBits_34 hl (k := 2) rfl rfl (by decide) rfl (fun ls hl => ?_)
        exact (hX0_fledBits_37 C E N (fX0_fledBits_7 N σ n) ih) b0 v5 (x3 + (nI 2)) x4 h1_b0 h2_b0 _ _ _ hf hh (lv_sub hl [2, 1, 0, 3] rfl)
def fX0_fledBits (N : Nat) (σ : zS) (b0 : Nat) (x1 : Int32) : Option (Int32) :=
  (fX0_fledBits_7 N σ N) b0 (nI 0) x1 (nI 0)
set_option maxRecDepth 100000 in
set_option maxHeartbeats 4000000 in
theorem zcX0_fledBits (l : Launch) (g : zG) (A : Nat → Prop) (σ τ : zS) (N : Nat) (b0 : Nat) (x1 : Int32) (h1_b0 : 42 ≤ b0) (h2_b0 : b0 < 46) {res : Int32} (hf : fX0_fledBits N σ b0 x1 = some res) : Met l yX0_fledBits wsX0_fledBits (zR 0) (zPc g A σ τ [.ref (g.2.2 b0), .int x1]) (zQi g A τ (res, σ)) 0 0 A := by
  refine z_met (cc := cX0_fledBits) (ret := (some .int)) (own := RX0) (by decide) rfl rfl _ (Nat.le_of_ble_eq_true rfl) ?_
  intro p e s m below meth c C E ls hl hh
  have hl : lv_has ls 5 [(0, .ref (g.2.2 b0)), (1, .int x1)] := hl
  obtain ⟨hx, hb, hr, hml, hown, hts, hlocks⟩ := id C
  unfold fX0_fledBits at hf
  refine lv_iconst (v := (nI 0)) hx hb dX0_fledBits_0 (by decide) ?_
  refine lv_istore_n (lv' := [(2, .int (nI 0)), (0, .ref (g.2.2 b0)), (1, .int x1)]) hx hb dX0_fledBits_1 rfl hl (by decide) rfl (fun ls hl => ?_)
  refine lv_iload_n hx hb dX0_fledBits_2 rfl (lv_at hl 2 rfl) ?_
  refine lv_istore_n (lv' := [(3, .int x1), (2, .int (nI 0)), (0, .ref (g.2.2 b0)), (1, .int x1)]) hx hb dX0_fledBits_3 rfl hl (by decide) rfl (fun ls hl => ?_)
  refine lv_iconst (v := (nI 0)) hx hb dX0_fledBits_4 (by decide) ?_
  refine lv_istore (lv' := [(4, .int (nI 0)), (3, .int x1), (2, .int (nI 0)), (0, .ref (g.2.2 b0)), (1, .int x1)]) hx hb dX0_fledBits_5 hl (by decide) rfl (fun ls hl => ?_)
  exact (hX0_fledBits_7 C E N N) b0 (nI 0) x1 (nI 0) h1_b0 h2_b0 _ _ _ hf hh (lv_sub hl [3, 2, 1, 0] rfl)
/-! ===== X0_metOn ===== -/
theorem hdX0_metOn : yX0_metOn.cls = RX0 ∧ yX0_metOn.cls ≠ "java/lang/invoke/MethodHandle" ∧ yX0_metOn.cls ≠ "java/lang/invoke/VarHandle" ∧ (parseMethodDescriptor yX0_metOn.desc).map (fun d => d.parameters.length) = some 1 := by decide +kernel
def PX0_metOn_4 (p : Program) (l : Launch) (e : Env) (s : State) (m : MethodId) (args : Array Value) (below : List Frame) (meth : Method) (c : Code) (g : zG) (A : Nat → Prop) (σ τ : zS) (res : Int32) (f : Nat → Nat → Int32 → Int32 → Option (Int32)) : Prop := ∀ (b0 : Nat) (b1 : Nat) (x2 : Int32) (x3 : Int32) (h1_b0 : 42 ≤ b0) (h2_b0 : b0 < 46) (h_b1 : b1 < 39) (H : Heap) (locs : List Loc) (ls : Array Slot), f b0 b1 x2 x3 = some res → zW g A σ τ s H locs → lv_has ls 4 [(0, .ref (g.2.2 b0)), (1, .ref (g.2.2 b1)), (2, .int x2), (3, .int x3)] → W p l e (zR 2) s m args below meth c H locs 0 0 (MQ below (zQi g A τ (res, σ)) args s 0 0 A) (F0 m 4 ls [])
def fX0_metOn_4 (N : Nat) (σ : zS) : Nat → Nat → Nat → Int32 → Int32 → Option (Int32)
  | 0, _, _, _, _ => none
  | n + 1, b0, b1, x2, x3 =>
    if (σ.1 b0 6) ≤ x3 then
      some x3
    else
      if (σ.1 b0 9) < x2 then
        some x3
      else
        if zin x3 (zlen b1) then
        zlet (σ.2 b1 x3.toNatClampNeg) fun v4 =>
        (fX0_hurts N σ b0 v4).bind fun q5 =>
        (fX0_metOn_4 N σ n) b0 b1 (x2 + q5) (x3 + (nI 1))
        else none
set_option maxRecDepth 100000 in
set_option maxHeartbeats 4000000 in
theorem hX0_metOn_4 {p : Program} {l : Launch} {e : Env} {s : State} {m : MethodId} {args : Array Value} {below : List Frame} {meth : Method} {c : Code} {g : zG} {A : Nat → Prop} {σ τ : zS} {res : Int32} (C : zCx p s m args meth c cX0_metOn (some .int) wsX0_metOn RX0 4) (E : zE g A s) (N : Nat) : ∀ n : Nat, PX0_metOn_4 p l e s m args below meth c g A σ τ res (fX0_metOn_4 N σ n) := by
  obtain ⟨hx, hb, hr, hml, hown, hts, hlocks⟩ := id C
  intro n
  induction n with
  | zero =>
    intro b0 b1 x2 x3 h1_b0 h2_b0 h_b1 H locs ls hf
    exact absurd hf (by simp [fX0_metOn_4])
  | succ n ih =>
    intro b0 b1 x2 x3 h1_b0 h2_b0 h_b1 H locs ls hf hh hl
    rw [fX0_metOn_4] at hf
    refine lv_iload_n hx hb dX0_metOn_4 rfl (lv_at hl 3 rfl) ?_
    refine lv_aload_n hx hb dX0_metOn_5 rfl (lv_at hl 0 rfl) ?_
    refine z_get (v := .int (σ.1 b0 6)) hx hb hts (fun w h => List.mem_cons_of_mem _ (List.mem_append_right _ (h))) hown E hh (Nat.lt_trans (m := 46) h2_b0 (by decide)) (zC_band h1_b0 h2_b0) rfl 6 (by decide) (hts (.fieldLink RX0 30 "TownBand$Band" "beasts" "I") (List.mem_cons_of_mem _ (List.mem_append_left _ (List.mem_of_getElem? (i := 0) rfl)))) rfl dX0_metOn_6 ?_
    refine lv_icmp_ge (tgt := 36) hx hb dX0_metOn_9 (by decide) (fun c_v1 => ?_) (fun c_v1 => ?_)
    · have hf := z_ip hf c_v1
      refine lv_iload_n hx hb dX0_metOn_36 rfl (lv_at hl 3 rfl) ?_
      have hf := Option.some.inj hf
      subst hf
      exact z_iretX hx hb hr hlocks hh dX0_metOn_37
    · have hf := z_in hf c_v1
      refine lv_iload_n hx hb dX0_metOn_12 rfl (lv_at hl 2 rfl) ?_
      refine lv_aload_n hx hb dX0_metOn_13 rfl (lv_at hl 0 rfl) ?_
      refine z_get (v := .int (σ.1 b0 9)) hx hb hts (fun w h => List.mem_cons_of_mem _ (List.mem_append_right _ (h))) hown E hh (Nat.lt_trans (m := 46) h2_b0 (by decide)) (zC_band h1_b0 h2_b0) rfl 9 (by decide) (hts (.fieldLink RX0 40 "TownBand$Band" "nerve" "I") (List.mem_cons_of_mem _ (List.mem_append_left _ (List.mem_of_getElem? (i := 1) rfl)))) rfl dX0_metOn_14 ?_
      refine lv_icmp_gt (tgt := 36) hx hb dX0_metOn_17 (by decide) (fun c_v2 => ?_) (fun c_v2 => ?_)
      · have hf := z_ip hf c_v2
        refine lv_iload_n hx hb dX0_metOn_36 rfl (lv_at hl 3 rfl) ?_
        have hf := Option.some.inj hf
        subst hf
        exact z_iretX hx hb hr hlocks hh dX0_metOn_37
      · have hf := z_in hf c_v2
        refine lv_iload_n hx hb dX0_metOn_20 rfl (lv_at hl 2 rfl) ?_
        refine lv_aload_n hx hb dX0_metOn_21 rfl (lv_at hl 0 rfl) ?_
        refine lv_aload_n hx hb dX0_metOn_22 rfl (lv_at hl 1 rfl) ?_
        refine lv_iload_n hx hb dX0_metOn_23 rfl (lv_at hl 3 rfl) ?_
        obtain ⟨h_v3, hf⟩ := z_if hf
        obtain ⟨v4, e_v4, hf⟩ := z_lt hf
        refine z_iald hx hb E hh h_b1 h_v3 e_v4 dX0_metOn_24 ?_
        obtain ⟨q5, h_q5, hf⟩ := z_bd hf
        refine z_xi (va_runV (As := [.int v4]) (rest := [.int x2]) ⟨hx, hb, hml, hown, hts⟩ (zcX0_hurts l g A σ τ N b0 v4 h1_b0 h2_b0 h_q5) (cwV 1 hts gX0_metOn_X0_hurts rfl rfl rfl hdX0_hurts ⟨by decide, by decide⟩) (z_preV E hh (Nat.lt_trans (m := 46) h2_b0 (by decide)) (zC_band h1_b0 h2_b0) rfl) rfl rfl hl.1 rfl (lv_room (Nat.le_of_ble_eq_true rfl)) dX0_metOn_25 ⟨Nat.le_refl _, Nat.le_refl _⟩) hh (fun H locs hh => ?_)
        refine lv_iadd hx hb dX0_metOn_28 ?_
        refine lv_istore_n (lv' := [(2, .int (x2 + q5)), (0, .ref (g.2.2 b0)), (1, .ref (g.2.2 b1)), (3, .int x3)]) hx hb dX0_metOn_29 rfl hl (by decide) rfl (fun ls hl => ?_)
        refine lv_iinc (v := (x3 + (nI 1))) (lv' := [(3, .int (x3 + (nI 1))), (2, .int (x2 + q5)), (0, .ref (g.2.2 b0)), (1, .ref (g.2.2 b1))]) hx hb dX0_metOn_30 hl (k := 3) rfl rfl (by decide) rfl (fun ls hl => ?_)
        refine lv_goto (tgt := 4) hx hb dX0_metOn_33 (by decide) ?_
        exact ih b0 b1 (x2 + q5) (x3 + (nI 1)) h1_b0 h2_b0 h_b1 _ _ _ hf hh (lv_sub hl [2, 3, 1, 0] rfl)
def fX0_metOn (N : Nat) (σ : zS) (b0 : Nat) (b1 : Nat) : Option (Int32) :=
  (fX0_metOn_4 N σ N) b0 b1 (nI 0) (nI 0)
set_option maxRecDepth 100000 in
set_option maxHeartbeats 4000000 in
theorem zcX0_metOn (l : Launch) (g : zG) (A : Nat → Prop) (σ τ : zS) (N : Nat) (b0 : Nat) (b1 : Nat) (h1_b0 : 42 ≤ b0) (h2_b0 : b0 < 46) (h_b1 : b1 < 39) {res : Int32} (hf : fX0_metOn N σ b0 b1 = some res) : Met l yX0_metOn wsX0_metOn (zR 2) (zPc g A σ τ [.ref (g.2.2 b0), .ref (g.2.2 b1)]) (zQi g A τ (res, σ)) 0 0 A := by
  refine z_met (cc := cX0_metOn) (ret := (some .int)) (own := RX0) (by decide) rfl rfl _ (Nat.le_of_ble_eq_true rfl) ?_
  intro p e s m below meth c C E ls hl hh
  have hl : lv_has ls 4 [(0, .ref (g.2.2 b0)), (1, .ref (g.2.2 b1))] := hl
  obtain ⟨hx, hb, hr, hml, hown, hts, hlocks⟩ := id C
  unfold fX0_metOn at hf
  refine lv_iconst (v := (nI 0)) hx hb dX0_metOn_0 (by decide) ?_
  refine lv_istore_n (lv' := [(2, .int (nI 0)), (0, .ref (g.2.2 b0)), (1, .ref (g.2.2 b1))]) hx hb dX0_metOn_1 rfl hl (by decide) rfl (fun ls hl => ?_)
  refine lv_iconst (v := (nI 0)) hx hb dX0_metOn_2 (by decide) ?_
  refine lv_istore_n (lv' := [(3, .int (nI 0)), (2, .int (nI 0)), (0, .ref (g.2.2 b0)), (1, .ref (g.2.2 b1))]) hx hb dX0_metOn_3 rfl hl (by decide) rfl (fun ls hl => ?_)
  exact (hX0_metOn_4 C E N N) b0 b1 (nI 0) (nI 0) h1_b0 h2_b0 h_b1 _ _ _ hf hh (lv_sub hl [2, 3, 1, 0] rfl)
/-! ===== X0_hurtBehind ===== -/
theorem hdX0_hurtBehind : yX0_hurtBehind.cls = RX0 ∧ yX0_hurtBehind.cls ≠ "java/lang/invoke/MethodHandle" ∧ yX0_hurtBehind.cls ≠ "java/lang/invoke/VarHandle" ∧ (parseMethodDescriptor yX0_hurtBehind.desc).map (fun d => d.parameters.length) = some 2 := by decide +kernel
def PX0_hurtBehind_5 (p : Program) (l : Launch) (e : Env) (s : State) (m : MethodId) (args : Array Value) (below : List Frame) (meth : Method) (c : Code) (g : zG) (A : Nat → Prop) (σ τ : zS) (res : Int32) (f : Nat → Nat → Int32 → Int32 → Int32 → Option (Int32)) : Prop := ∀ (b0 : Nat) (b1 : Nat) (x2 : Int32) (x3 : Int32) (x4 : Int32) (h1_b0 : 42 ≤ b0) (h2_b0 : b0 < 46) (h_b1 : b1 < 39) (H : Heap) (locs : List Loc) (ls : Array Slot), f b0 b1 x2 x3 x4 = some res → zW g A σ τ s H locs → lv_has ls 5 [(0, .ref (g.2.2 b0)), (1, .ref (g.2.2 b1)), (2, .int x2), (3, .int x3), (4, .int x4)] → W p l e (zR 2) s m args below meth c H locs 0 0 (MQ below (zQi g A τ (res, σ)) args s 0 0 A) (F0 m 5 ls [])
def fX0_hurtBehind_5 (N : Nat) (σ : zS) : Nat → Nat → Nat → Int32 → Int32 → Int32 → Option (Int32)
  | 0, _, _, _, _, _ => none
  | n + 1, b0, b1, x2, x3, x4 =>
    if x2 ≤ x4 then
      some x3
    else
      if zin x4 (zlen b1) then
      zlet (σ.2 b1 x4.toNatClampNeg) fun v3 =>
      (fX0_hurts N σ b0 v3).bind fun q4 =>
      (fX0_hurtBehind_5 N σ n) b0 b1 x2 (x3 + q4) (x4 + (nI 1))
      else none
set_option maxRecDepth 100000 in
set_option maxHeartbeats 4000000 in
theorem hX0_hurtBehind_5 {p : Program} {l : Launch} {e : Env} {s : State} {m : MethodId} {args : Array Value} {below : List Frame} {meth : Method} {c : Code} {g : zG} {A : Nat → Prop} {σ τ : zS} {res : Int32} (C : zCx p s m args meth c cX0_hurtBehind (some .int) wsX0_hurtBehind RX0 5) (E : zE g A s) (N : Nat) : ∀ n : Nat, PX0_hurtBehind_5 p l e s m args below meth c g A σ τ res (fX0_hurtBehind_5 N σ n) := by
  obtain ⟨hx, hb, hr, hml, hown, hts, hlocks⟩ := id C
  intro n
  induction n with
  | zero =>
    intro b0 b1 x2 x3 x4 h1_b0 h2_b0 h_b1 H locs ls hf
    exact absurd hf (by simp [fX0_hurtBehind_5])
  | succ n ih =>
    intro b0 b1 x2 x3 x4 h1_b0 h2_b0 h_b1 H locs ls hf hh hl
    rw [fX0_hurtBehind_5] at hf
    refine lv_iload hx hb dX0_hurtBehind_5 (lv_at hl 4 rfl) ?_
    refine lv_iload_n hx hb dX0_hurtBehind_7 rfl (lv_at hl 2 rfl) ?_
    refine lv_icmp_ge (tgt := 28) hx hb dX0_hurtBehind_8 (by decide) (fun c_v1 => ?_) (fun c_v1 => ?_)
    · have hf := z_ip hf c_v1
      refine lv_iload_n hx hb dX0_hurtBehind_28 rfl (lv_at hl 3 rfl) ?_
      have hf := Option.some.inj hf
      subst hf
      exact z_iretX hx hb hr hlocks hh dX0_hurtBehind_29
    · have hf := z_in hf c_v1
      refine lv_iload_n hx hb dX0_hurtBehind_11 rfl (lv_at hl 3 rfl) ?_
      refine lv_aload_n hx hb dX0_hurtBehind_12 rfl (lv_at hl 0 rfl) ?_
      refine lv_aload_n hx hb dX0_hurtBehind_13 rfl (lv_at hl 1 rfl) ?_
      refine lv_iload hx hb dX0_hurtBehind_14 (lv_at hl 4 rfl) ?_
      obtain ⟨h_v2, hf⟩ := z_if hf
      obtain ⟨v3, e_v3, hf⟩ := z_lt hf
      refine z_iald hx hb E hh h_b1 h_v2 e_v3 dX0_hurtBehind_16 ?_
      obtain ⟨q4, h_q4, hf⟩ := z_bd hf
      refine z_xi (va_runV (As := [.int v3]) (rest := [.int x3]) ⟨hx, hb, hml, hown, hts⟩ (zcX0_hurts l g A σ τ N b0 v3 h1_b0 h2_b0 h_q4) (cwV 1 hts gX0_hurtBehind_X0_hurts rfl rfl rfl hdX0_hurts ⟨by decide, by decide⟩) (z_preV E hh (Nat.lt_trans (m := 46) h2_b0 (by decide)) (zC_band h1_b0 h2_b0) rfl) rfl rfl hl.1 rfl (lv_room (Nat.le_of_ble_eq_true rfl)) dX0_hurtBehind_17 ⟨Nat.le_refl _, Nat.le_refl _⟩) hh (fun H locs hh => ?_)
      refine lv_iadd hx hb dX0_hurtBehind_20 ?_
      refine lv_istore_n (lv' := [(3, .int (x3 + q4)), (0, .ref (g.2.2 b0)), (1, .ref (g.2.2 b1)), (2, .int x2), (4, .int x4)]) hx hb dX0_hurtBehind_21 rfl hl (by decide) rfl (fun ls hl => ?_)
      refine lv_iinc (v := (x4 + (nI 1))) (lv' := [(4, .int (x4 + (nI 1))), (3, .int (x3 + q4)), (0, .ref (g.2.2 b0)), (1, .ref (g.2.2 b1)), (2, .int x2)]) hx hb dX0_hurtBehind_22 hl (k := 4) rfl rfl (by decide) rfl (fun ls hl => ?_)
      refine lv_goto (tgt := 5) hx hb dX0_hurtBehind_25 (by decide) ?_
      exact ih b0 b1 x2 (x3 + q4) (x4 + (nI 1)) h1_b0 h2_b0 h_b1 _ _ _ hf hh (lv_sub hl [2, 3, 4, 1, 0] rfl)
def fX0_hurtBehind (N : Nat) (σ : zS) (b0 : Nat) (b1 : Nat) (x2 : Int32) : Option (Int32) :=
  (fX0_hurtBehind_5 N σ N) b0 b1 x2 (nI 0) (nI 0)
set_option maxRecDepth 100000 in
set_option maxHeartbeats 4000000 in
theorem zcX0_hurtBehind (l : Launch) (g : zG) (A : Nat → Prop) (σ τ : zS) (N : Nat) (b0 : Nat) (b1 : Nat) (x2 : Int32) (h1_b0 : 42 ≤ b0) (h2_b0 : b0 < 46) (h_b1 : b1 < 39) {res : Int32} (hf : fX0_hurtBehind N σ b0 b1 x2 = some res) : Met l yX0_hurtBehind wsX0_hurtBehind (zR 2) (zPc g A σ τ [.ref (g.2.2 b0), .ref (g.2.2 b1), .int x2]) (zQi g A τ (res, σ)) 0 0 A := by
  refine z_met (cc := cX0_hurtBehind) (ret := (some .int)) (own := RX0) (by decide) rfl rfl _ (Nat.le_of_ble_eq_true rfl) ?_
  intro p e s m below meth c C E ls hl hh
  have hl : lv_has ls 5 [(0, .ref (g.2.2 b0)), (1, .ref (g.2.2 b1)), (2, .int x2)] := hl
  obtain ⟨hx, hb, hr, hml, hown, hts, hlocks⟩ := id C
  unfold fX0_hurtBehind at hf
  refine lv_iconst (v := (nI 0)) hx hb dX0_hurtBehind_0 (by decide) ?_
  refine lv_istore_n (lv' := [(3, .int (nI 0)), (0, .ref (g.2.2 b0)), (1, .ref (g.2.2 b1)), (2, .int x2)]) hx hb dX0_hurtBehind_1 rfl hl (by decide) rfl (fun ls hl => ?_)
  refine lv_iconst (v := (nI 0)) hx hb dX0_hurtBehind_2 (by decide) ?_
  refine lv_istore (lv' := [(4, .int (nI 0)), (3, .int (nI 0)), (0, .ref (g.2.2 b0)), (1, .ref (g.2.2 b1)), (2, .int x2)]) hx hb dX0_hurtBehind_3 hl (by decide) rfl (fun ls hl => ?_)
  exact (hX0_hurtBehind_5 C E N N) b0 b1 x2 (nI 0) (nI 0) h1_b0 h2_b0 h_b1 _ _ _ hf hh (lv_sub hl [2, 3, 4, 1, 0] rfl)

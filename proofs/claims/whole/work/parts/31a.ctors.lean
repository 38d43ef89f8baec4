theorem hdX0_init : yX0_init.cls = RX0 ∧ yX0_init.cls ≠ "java/lang/invoke/MethodHandle" ∧ yX0_init.cls ≠ "java/lang/invoke/VarHandle" ∧ (parseMethodDescriptor yX0_init.desc).map (fun d => d.parameters.length) = some 0 := by decide +kernel
def wX0_init (g : zG) (h0 : Nat) (u : Nat → Nat) : va_W := [(h0, .inr (0, [.ref (u 0), .ref (u 1), .ref (u 2), .ref (u 3), .ref (u 4), .ref (u 5), .int 0, .int 0, .int 0, .int 5])), ((u 0), .inl (g.2.1.1, 5, .inl (fun _ => 0))), ((u 1), .inl (g.2.1.1, 5, .inl (fun _ => 0))), ((u 2), .inl (g.2.1.1, 5, .inl (fun _ => 0))), ((u 3), .inl (g.2.1.1, 4, .inl (fun _ => 0))), ((u 4), .inl (g.2.1.1, 5, .inl (fun _ => 0))), ((u 5), .inl (g.2.1.1, 5, .inl (fun _ => 0)))]
set_option maxRecDepth 100000 in
set_option maxHeartbeats 4000000 in
theorem zcX0_init (l : Launch) (g : zG) (A : Nat → Prop) (w : va_W) (h0 : Nat) : Met l yX0_init wsX0_init (yR 1 6 29) (zVc g A (w ++ [(h0, .inr (0, [.null, .null, .null, .null, .null, .null, .int 0, .int 0, .int 0, .int 0]))]) [.ref h0]) (zVq g A (fun u => w ++ wX0_init g h0 u)) 6 29 A := by
  refine y_met (cc := cX0_init) (ret := none) (own := RX0) (by decide) rfl rfl rfl _ (Nat.le_of_ble_eq_true rfl) ?_
  intro p e s m below meth c C hin E ls hl V
  have hl : lv_has ls 1 [(0, .ref h0)] := hl
  obtain ⟨hx, hb, hr, hml, hown, hts, hlocks⟩ := id C
  refine lv_aload_n hx hb dX0_init_0 rfl (lv_at hl 0 rfl) ?_
  refine W.objInit hx hb hown (hts (.methodLink RX0 3 objectInit) (List.mem_cons_of_mem _ (List.mem_append_left _ (List.mem_of_getElem? (i := 0) rfl)))) (hts (.instanceMethod objectInit) (List.mem_cons_of_mem _ (List.mem_append_left _ (List.mem_of_getElem? (i := 1) rfl)))) (hts (.code objectInit ⟨#[0xb1]⟩ 1 none) (List.mem_cons_of_mem _ (List.mem_append_left _ (List.mem_of_getElem? (i := 2) rfl)))) rfl (by rw [hml]; exact hl.1) rfl dX0_init_1 (by decide) (Nat.le_of_ble_eq_true rfl) ?_
  refine W.eq (g2 := F0 m 4 ls []) rfl ?_
  refine lv_aload_n hx hb dX0_init_4 rfl (lv_at hl 0 rfl) ?_
  refine lv_iconst (v := 5) hx hb dX0_init_5 (by decide) ?_
  refine y_newI hx hb V E (hts (.arrayClass .int) (List.mem_cons_of_mem _ (List.mem_append_left _ (List.mem_of_getElem? (i := 3) rfl)))) (by decide) rfl (by decide) (by decide) (by decide) dX0_init_6 (fun q1 H V => ?_)
  have V : zV g A (w ++ [(h0, .inr (0, [.null, .null, .null, .null, .null, .null, .int 0, .int 0, .int 0, .int 0])), (q1, .inl (g.2.1.1, 5, .inl (fun _ => 0)))]) s H [] := V
  refine y_putF hx hb V E hts (fun w h => List.mem_cons_of_mem _ (List.mem_append_right _ (h))) tyX0 tyX0_ok nmX0 hown 0 rfl rfl 0 (by decide) (hts (.fieldLink RX0 9 "TownBand$Band" "kinds" "[I") (List.mem_cons_of_mem _ (List.mem_append_left _ (List.mem_of_getElem? (i := 4) rfl)))) rfl hin rfl rfl rfl (Nat.le_of_ble_eq_true rfl) dX0_init_8 (fun H locs V => ?_)
  have V : zV g A (w ++ [(h0, .inr (0, [.ref q1, .null, .null, .null, .null, .null, .int 0, .int 0, .int 0, .int 0])), (q1, .inl (g.2.1.1, 5, .inl (fun _ => 0)))]) s H locs := V
  refine lv_aload_n hx hb dX0_init_11 rfl (lv_at hl 0 rfl) ?_
  refine lv_iconst (v := 5) hx hb dX0_init_12 (by decide) ?_
  refine y_newI hx hb V E (hts (.arrayClass .int) (List.mem_cons_of_mem _ (List.mem_append_left _ (List.mem_of_getElem? (i := 3) rfl)))) (by decide) rfl (by decide) (by decide) (by decide) dX0_init_13 (fun q2 H V => ?_)
  have V : zV g A (w ++ [(h0, .inr (0, [.ref q1, .null, .null, .null, .null, .null, .int 0, .int 0, .int 0, .int 0])), (q1, .inl (g.2.1.1, 5, .inl (fun _ => 0))), (q2, .inl (g.2.1.1, 5, .inl (fun _ => 0)))]) s H locs := V
  refine y_putF hx hb V E hts (fun w h => List.mem_cons_of_mem _ (List.mem_append_right _ (h))) tyX0 tyX0_ok nmX0 hown 0 rfl rfl 1 (by decide) (hts (.fieldLink RX0 15 "TownBand$Band" "weights" "[I") (List.mem_cons_of_mem _ (List.mem_append_left _ (List.mem_of_getElem? (i := 5) rfl)))) rfl hin rfl rfl rfl (Nat.le_of_ble_eq_true rfl) dX0_init_15 (fun H locs V => ?_)
  have V : zV g A (w ++ [(h0, .inr (0, [.ref q1, .ref q2, .null, .null, .null, .null, .int 0, .int 0, .int 0, .int 0])), (q1, .inl (g.2.1.1, 5, .inl (fun _ => 0))), (q2, .inl (g.2.1.1, 5, .inl (fun _ => 0)))]) s H locs := V
  refine lv_aload_n hx hb dX0_init_18 rfl (lv_at hl 0 rfl) ?_
  refine lv_iconst (v := 5) hx hb dX0_init_19 (by decide) ?_
  refine y_newI hx hb V E (hts (.arrayClass .int) (List.mem_cons_of_mem _ (List.mem_append_left _ (List.mem_of_getElem? (i := 3) rfl)))) (by decide) rfl (by decide) (by decide) (by decide) dX0_init_20 (fun q3 H V => ?_)
  have V : zV g A (w ++ [(h0, .inr (0, [.ref q1, .ref q2, .null, .null, .null, .null, .int 0, .int 0, .int 0, .int 0])), (q1, .inl (g.2.1.1, 5, .inl (fun _ => 0))), (q2, .inl (g.2.1.1, 5, .inl (fun _ => 0))), (q3, .inl (g.2.1.1, 5, .inl (fun _ => 0)))]) s H locs := V
  refine y_putF hx hb V E hts (fun w h => List.mem_cons_of_mem _ (List.mem_append_right _ (h))) tyX0 tyX0_ok nmX0 hown 0 rfl rfl 2 (by decide) (hts (.fieldLink RX0 18 "TownBand$Band" "voices" "[I") (List.mem_cons_of_mem _ (List.mem_append_left _ (List.mem_of_getElem? (i := 6) rfl)))) rfl hin rfl rfl rfl (Nat.le_of_ble_eq_true rfl) dX0_init_22 (fun H locs V => ?_)
  have V : zV g A (w ++ [(h0, .inr (0, [.ref q1, .ref q2, .ref q3, .null, .null, .null, .int 0, .int 0, .int 0, .int 0])), (q1, .inl (g.2.1.1, 5, .inl (fun _ => 0))), (q2, .inl (g.2.1.1, 5, .inl (fun _ => 0))), (q3, .inl (g.2.1.1, 5, .inl (fun _ => 0)))]) s H locs := V
  refine lv_aload_n hx hb dX0_init_25 rfl (lv_at hl 0 rfl) ?_
  refine lv_iconst (v := 4) hx hb dX0_init_26 (by decide) ?_
  refine y_newI hx hb V E (hts (.arrayClass .int) (List.mem_cons_of_mem _ (List.mem_append_left _ (List.mem_of_getElem? (i := 3) rfl)))) (by decide) rfl (by decide) (by decide) (by decide) dX0_init_27 (fun q4 H V => ?_)
  have V : zV g A (w ++ [(h0, .inr (0, [.ref q1, .ref q2, .ref q3, .null, .null, .null, .int 0, .int 0, .int 0, .int 0])), (q1, .inl (g.2.1.1, 5, .inl (fun _ => 0))), (q2, .inl (g.2.1.1, 5, .inl (fun _ => 0))), (q3, .inl (g.2.1.1, 5, .inl (fun _ => 0))), (q4, .inl (g.2.1.1, 4, .inl (fun _ => 0)))]) s H locs := V
  refine y_putF hx hb V E hts (fun w h => List.mem_cons_of_mem _ (List.mem_append_right _ (h))) tyX0 tyX0_ok nmX0 hown 0 rfl rfl 3 (by decide) (hts (.fieldLink RX0 21 "TownBand$Band" "courages" "[I") (List.mem_cons_of_mem _ (List.mem_append_left _ (List.mem_of_getElem? (i := 7) rfl)))) rfl hin rfl rfl rfl (Nat.le_of_ble_eq_true rfl) dX0_init_29 (fun H locs V => ?_)
  have V : zV g A (w ++ [(h0, .inr (0, [.ref q1, .ref q2, .ref q3, .ref q4, .null, .null, .int 0, .int 0, .int 0, .int 0])), (q1, .inl (g.2.1.1, 5, .inl (fun _ => 0))), (q2, .inl (g.2.1.1, 5, .inl (fun _ => 0))), (q3, .inl (g.2.1.1, 5, .inl (fun _ => 0))), (q4, .inl (g.2.1.1, 4, .inl (fun _ => 0)))]) s H locs := V
  refine lv_aload_n hx hb dX0_init_32 rfl (lv_at hl 0 rfl) ?_
  refine lv_iconst (v := 5) hx hb dX0_init_33 (by decide) ?_
  refine y_newI hx hb V E (hts (.arrayClass .int) (List.mem_cons_of_mem _ (List.mem_append_left _ (List.mem_of_getElem? (i := 3) rfl)))) (by decide) rfl (by decide) (by decide) (by decide) dX0_init_34 (fun q5 H V => ?_)
  have V : zV g A (w ++ [(h0, .inr (0, [.ref q1, .ref q2, .ref q3, .ref q4, .null, .null, .int 0, .int 0, .int 0, .int 0])), (q1, .inl (g.2.1.1, 5, .inl (fun _ => 0))), (q2, .inl (g.2.1.1, 5, .inl (fun _ => 0))), (q3, .inl (g.2.1.1, 5, .inl (fun _ => 0))), (q4, .inl (g.2.1.1, 4, .inl (fun _ => 0))), (q5, .inl (g.2.1.1, 5, .inl (fun _ => 0)))]) s H locs := V
  refine y_putF hx hb V E hts (fun w h => List.mem_cons_of_mem _ (List.mem_append_right _ (h))) tyX0 tyX0_ok nmX0 hown 0 rfl rfl 4 (by decide) (hts (.fieldLink RX0 24 "TownBand$Band" "tower" "[I") (List.mem_cons_of_mem _ (List.mem_append_left _ (List.mem_of_getElem? (i := 8) rfl)))) rfl hin rfl rfl rfl (Nat.le_of_ble_eq_true rfl) dX0_init_36 (fun H locs V => ?_)
  have V : zV g A (w ++ [(h0, .inr (0, [.ref q1, .ref q2, .ref q3, .ref q4, .ref q5, .null, .int 0, .int 0, .int 0, .int 0])), (q1, .inl (g.2.1.1, 5, .inl (fun _ => 0))), (q2, .inl (g.2.1.1, 5, .inl (fun _ => 0))), (q3, .inl (g.2.1.1, 5, .inl (fun _ => 0))), (q4, .inl (g.2.1.1, 4, .inl (fun _ => 0))), (q5, .inl (g.2.1.1, 5, .inl (fun _ => 0)))]) s H locs := V
  refine lv_aload_n hx hb dX0_init_39 rfl (lv_at hl 0 rfl) ?_
  refine lv_iconst (v := 5) hx hb dX0_init_40 (by decide) ?_
  refine y_newI hx hb V E (hts (.arrayClass .int) (List.mem_cons_of_mem _ (List.mem_append_left _ (List.mem_of_getElem? (i := 3) rfl)))) (by decide) rfl (by decide) (by decide) (by decide) dX0_init_41 (fun q6 H V => ?_)
  have V : zV g A (w ++ [(h0, .inr (0, [.ref q1, .ref q2, .ref q3, .ref q4, .ref q5, .null, .int 0, .int 0, .int 0, .int 0])), (q1, .inl (g.2.1.1, 5, .inl (fun _ => 0))), (q2, .inl (g.2.1.1, 5, .inl (fun _ => 0))), (q3, .inl (g.2.1.1, 5, .inl (fun _ => 0))), (q4, .inl (g.2.1.1, 4, .inl (fun _ => 0))), (q5, .inl (g.2.1.1, 5, .inl (fun _ => 0))), (q6, .inl (g.2.1.1, 5, .inl (fun _ => 0)))]) s H locs := V
  refine y_putF hx hb V E hts (fun w h => List.mem_cons_of_mem _ (List.mem_append_right _ (h))) tyX0 tyX0_ok nmX0 hown 0 rfl rfl 5 (by decide) (hts (.fieldLink RX0 27 "TownBand$Band" "bedRow" "[I") (List.mem_cons_of_mem _ (List.mem_append_left _ (List.mem_of_getElem? (i := 9) rfl)))) rfl hin rfl rfl rfl (Nat.le_of_ble_eq_true rfl) dX0_init_43 (fun H locs V => ?_)
  have V : zV g A (w ++ [(h0, .inr (0, [.ref q1, .ref q2, .ref q3, .ref q4, .ref q5, .ref q6, .int 0, .int 0, .int 0, .int 0])), (q1, .inl (g.2.1.1, 5, .inl (fun _ => 0))), (q2, .inl (g.2.1.1, 5, .inl (fun _ => 0))), (q3, .inl (g.2.1.1, 5, .inl (fun _ => 0))), (q4, .inl (g.2.1.1, 4, .inl (fun _ => 0))), (q5, .inl (g.2.1.1, 5, .inl (fun _ => 0))), (q6, .inl (g.2.1.1, 5, .inl (fun _ => 0)))]) s H locs := V
  refine lv_aload_n hx hb dX0_init_46 rfl (lv_at hl 0 rfl) ?_
  refine lv_iconst (v := 0) hx hb dX0_init_47 (by decide) ?_
  refine y_put hx hb V E hts (fun w h => List.mem_cons_of_mem _ (List.mem_append_right _ (h))) tyX0 tyX0_ok nmX0 hown 0 rfl rfl 6 (by decide) (hts (.fieldLink RX0 30 "TownBand$Band" "beasts" "I") (List.mem_cons_of_mem _ (List.mem_append_left _ (List.mem_of_getElem? (i := 10) rfl)))) rfl rfl rfl (Nat.le_of_ble_eq_true rfl) dX0_init_48 (fun H locs V => ?_)
  have V : zV g A (w ++ [(h0, .inr (0, [.ref q1, .ref q2, .ref q3, .ref q4, .ref q5, .ref q6, .int 0, .int 0, .int 0, .int 0])), (q1, .inl (g.2.1.1, 5, .inl (fun _ => 0))), (q2, .inl (g.2.1.1, 5, .inl (fun _ => 0))), (q3, .inl (g.2.1.1, 5, .inl (fun _ => 0))), (q4, .inl (g.2.1.1, 4, .inl (fun _ => 0))), (q5, .inl (g.2.1.1, 5, .inl (fun _ => 0))), (q6, .inl (g.2.1.1, 5, .inl (fun _ => 0)))]) s H locs := V
  refine lv_aload_n hx hb dX0_init_51 rfl (lv_at hl 0 rfl) ?_
  refine lv_iconst (v := 0) hx hb dX0_init_52 (by decide) ?_
  refine y_put hx hb V E hts (fun w h => List.mem_cons_of_mem _ (List.mem_append_right _ (h))) tyX0 tyX0_ok nmX0 hown 0 rfl rfl 7 (by decide) (hts (.fieldLink RX0 34 "TownBand$Band" "robbers" "I") (List.mem_cons_of_mem _ (List.mem_append_left _ (List.mem_of_getElem? (i := 11) rfl)))) rfl rfl rfl (Nat.le_of_ble_eq_true rfl) dX0_init_53 (fun H locs V => ?_)
  have V : zV g A (w ++ [(h0, .inr (0, [.ref q1, .ref q2, .ref q3, .ref q4, .ref q5, .ref q6, .int 0, .int 0, .int 0, .int 0])), (q1, .inl (g.2.1.1, 5, .inl (fun _ => 0))), (q2, .inl (g.2.1.1, 5, .inl (fun _ => 0))), (q3, .inl (g.2.1.1, 5, .inl (fun _ => 0))), (q4, .inl (g.2.1.1, 4, .inl (fun _ => 0))), (q5, .inl (g.2.1.1, 5, .inl (fun _ => 0))), (q6, .inl (g.2.1.1, 5, .inl (fun _ => 0)))]) s H locs := V
  refine lv_aload_n hx hb dX0_init_56 rfl (lv_at hl 0 rfl) ?_
  refine lv_iconst (v := 0) hx hb dX0_init_57 (by decide) ?_
  refine y_put hx hb V E hts (fun w h => List.mem_cons_of_mem _ (List.mem_append_right _ (h))) tyX0 tyX0_ok nmX0 hown 0 rfl rfl 8 (by decide) (hts (.fieldLink RX0 37 "TownBand$Band" "height" "I") (List.mem_cons_of_mem _ (List.mem_append_left _ (List.mem_of_getElem? (i := 12) rfl)))) rfl rfl rfl (Nat.le_of_ble_eq_true rfl) dX0_init_58 (fun H locs V => ?_)
  have V : zV g A (w ++ [(h0, .inr (0, [.ref q1, .ref q2, .ref q3, .ref q4, .ref q5, .ref q6, .int 0, .int 0, .int 0, .int 0])), (q1, .inl (g.2.1.1, 5, .inl (fun _ => 0))), (q2, .inl (g.2.1.1, 5, .inl (fun _ => 0))), (q3, .inl (g.2.1.1, 5, .inl (fun _ => 0))), (q4, .inl (g.2.1.1, 4, .inl (fun _ => 0))), (q5, .inl (g.2.1.1, 5, .inl (fun _ => 0))), (q6, .inl (g.2.1.1, 5, .inl (fun _ => 0)))]) s H locs := V
  refine lv_aload_n hx hb dX0_init_61 rfl (lv_at hl 0 rfl) ?_
  refine lv_iconst (v := 5) hx hb dX0_init_62 (by decide) ?_
  refine y_put hx hb V E hts (fun w h => List.mem_cons_of_mem _ (List.mem_append_right _ (h))) tyX0 tyX0_ok nmX0 hown 0 rfl rfl 9 (by decide) (hts (.fieldLink RX0 40 "TownBand$Band" "nerve" "I") (List.mem_cons_of_mem _ (List.mem_append_left _ (List.mem_of_getElem? (i := 13) rfl)))) rfl rfl rfl (Nat.le_of_ble_eq_true rfl) dX0_init_63 (fun H locs V => ?_)
  have V : zV g A (w ++ [(h0, .inr (0, [.ref q1, .ref q2, .ref q3, .ref q4, .ref q5, .ref q6, .int 0, .int 0, .int 0, .int 5])), (q1, .inl (g.2.1.1, 5, .inl (fun _ => 0))), (q2, .inl (g.2.1.1, 5, .inl (fun _ => 0))), (q3, .inl (g.2.1.1, 5, .inl (fun _ => 0))), (q4, .inl (g.2.1.1, 4, .inl (fun _ => 0))), (q5, .inl (g.2.1.1, 5, .inl (fun _ => 0))), (q6, .inl (g.2.1.1, 5, .inl (fun _ => 0)))]) s H locs := V
  exact y_vret hx hb hr hlocks V (fun k => [q1, q2, q3, q4, q5, q6].getD k 0) rfl dX0_init_66
theorem hdX2_init : yX2_init.cls = RX2 ∧ yX2_init.cls ≠ "java/lang/invoke/MethodHandle" ∧ yX2_init.cls ≠ "java/lang/invoke/VarHandle" ∧ (parseMethodDescriptor yX2_init.desc).map (fun d => d.parameters.length) = some 0 := by decide +kernel
def wX2_init (g : zG) (h0 : Nat) (u : Nat → Nat) : va_W := [(h0, .inr (2, [.ref (u 0), .ref (u 1), .int 0])), ((u 0), .inl (g.2.1.1, 6, .inl (fun _ => 0))), ((u 1), .inl (g.2.1.1, 6, .inl (fun _ => 0)))]
set_option maxRecDepth 100000 in
set_option maxHeartbeats 4000000 in
theorem zcX2_init (l : Launch) (g : zG) (A : Nat → Prop) (w : va_W) (h0 : Nat) : Met l yX2_init wsX2_init (yR 1 2 12) (zVc g A (w ++ [(h0, .inr (2, [.null, .null, .int 0]))]) [.ref h0]) (zVq g A (fun u => w ++ wX2_init g h0 u)) 2 12 A := by
  refine y_met (cc := cX2_init) (ret := none) (own := RX2) (by decide) rfl rfl rfl _ (Nat.le_of_ble_eq_true rfl) ?_
  intro p e s m below meth c C hin E ls hl V
  have hl : lv_has ls 1 [(0, .ref h0)] := hl
  obtain ⟨hx, hb, hr, hml, hown, hts, hlocks⟩ := id C
  refine lv_aload_n hx hb dX2_init_0 rfl (lv_at hl 0 rfl) ?_
  refine W.objInit hx hb hown (hts (.methodLink RX2 3 objectInit) (List.mem_cons_of_mem _ (List.mem_append_left _ (List.mem_of_getElem? (i := 0) rfl)))) (hts (.instanceMethod objectInit) (List.mem_cons_of_mem _ (List.mem_append_left _ (List.mem_of_getElem? (i := 1) rfl)))) (hts (.code objectInit ⟨#[0xb1]⟩ 1 none) (List.mem_cons_of_mem _ (List.mem_append_left _ (List.mem_of_getElem? (i := 2) rfl)))) rfl (by rw [hml]; exact hl.1) rfl dX2_init_1 (by decide) (Nat.le_of_ble_eq_true rfl) ?_
  refine W.eq (g2 := F0 m 4 ls []) rfl ?_
  refine lv_aload_n hx hb dX2_init_4 rfl (lv_at hl 0 rfl) ?_
  refine lv_bipush (v := 6) hx hb dX2_init_5 (by decide) ?_
  refine y_newI hx hb V E (hts (.arrayClass .int) (List.mem_cons_of_mem _ (List.mem_append_left _ (List.mem_of_getElem? (i := 3) rfl)))) (by decide) rfl (by decide) (by decide) (by decide) dX2_init_7 (fun q1 H V => ?_)
  have V : zV g A (w ++ [(h0, .inr (2, [.null, .null, .int 0])), (q1, .inl (g.2.1.1, 6, .inl (fun _ => 0)))]) s H [] := V
  refine y_putF hx hb V E hts (fun w h => List.mem_cons_of_mem _ (List.mem_append_right _ (h))) tyX2 tyX2_ok nmX2 hown 0 rfl rfl 0 (by decide) (hts (.fieldLink RX2 9 "TownBand$Seen" "behind" "[I") (List.mem_cons_of_mem _ (List.mem_append_left _ (List.mem_of_getElem? (i := 4) rfl)))) rfl hin rfl rfl rfl (Nat.le_of_ble_eq_true rfl) dX2_init_9 (fun H locs V => ?_)
  have V : zV g A (w ++ [(h0, .inr (2, [.ref q1, .null, .int 0])), (q1, .inl (g.2.1.1, 6, .inl (fun _ => 0)))]) s H locs := V
  refine lv_aload_n hx hb dX2_init_12 rfl (lv_at hl 0 rfl) ?_
  refine lv_bipush (v := 6) hx hb dX2_init_13 (by decide) ?_
  refine y_newI hx hb V E (hts (.arrayClass .int) (List.mem_cons_of_mem _ (List.mem_append_left _ (List.mem_of_getElem? (i := 3) rfl)))) (by decide) rfl (by decide) (by decide) (by decide) dX2_init_15 (fun q2 H V => ?_)
  have V : zV g A (w ++ [(h0, .inr (2, [.ref q1, .null, .int 0])), (q1, .inl (g.2.1.1, 6, .inl (fun _ => 0))), (q2, .inl (g.2.1.1, 6, .inl (fun _ => 0)))]) s H locs := V
  refine y_putF hx hb V E hts (fun w h => List.mem_cons_of_mem _ (List.mem_append_right _ (h))) tyX2 tyX2_ok nmX2 hown 0 rfl rfl 1 (by decide) (hts (.fieldLink RX2 15 "TownBand$Seen" "hurt" "[I") (List.mem_cons_of_mem _ (List.mem_append_left _ (List.mem_of_getElem? (i := 5) rfl)))) rfl hin rfl rfl rfl (Nat.le_of_ble_eq_true rfl) dX2_init_17 (fun H locs V => ?_)
  have V : zV g A (w ++ [(h0, .inr (2, [.ref q1, .ref q2, .int 0])), (q1, .inl (g.2.1.1, 6, .inl (fun _ => 0))), (q2, .inl (g.2.1.1, 6, .inl (fun _ => 0)))]) s H locs := V
  refine lv_aload_n hx hb dX2_init_20 rfl (lv_at hl 0 rfl) ?_
  refine lv_iconst (v := 0) hx hb dX2_init_21 (by decide) ?_
  refine y_put hx hb V E hts (fun w h => List.mem_cons_of_mem _ (List.mem_append_right _ (h))) tyX2 tyX2_ok nmX2 hown 0 rfl rfl 2 (by decide) (hts (.fieldLink RX2 18 "TownBand$Seen" "size" "I") (List.mem_cons_of_mem _ (List.mem_append_left _ (List.mem_of_getElem? (i := 6) rfl)))) rfl rfl rfl (Nat.le_of_ble_eq_true rfl) dX2_init_22 (fun H locs V => ?_)
  have V : zV g A (w ++ [(h0, .inr (2, [.ref q1, .ref q2, .int 0])), (q1, .inl (g.2.1.1, 6, .inl (fun _ => 0))), (q2, .inl (g.2.1.1, 6, .inl (fun _ => 0)))]) s H locs := V
  exact y_vret hx hb hr hlocks V (fun k => [q1, q2].getD k 0) rfl dX2_init_25
theorem hdX3_init : yX3_init.cls = RX3 ∧ yX3_init.cls ≠ "java/lang/invoke/MethodHandle" ∧ yX3_init.cls ≠ "java/lang/invoke/VarHandle" ∧ (parseMethodDescriptor yX3_init.desc).map (fun d => d.parameters.length) = some 0 := by decide +kernel
def wX3_init (g : zG) (h0 : Nat) (u : Nat → Nat) : va_W := [(h0, .inr (3, [.ref (u 0), .int (-1), .int 0])), ((u 0), .inl (g.2.1.1, 40, .inl (fun _ => 0)))]
set_option maxRecDepth 100000 in
set_option maxHeartbeats 4000000 in
theorem zcX3_init (l : Launch) (g : zG) (A : Nat → Prop) (w : va_W) (h0 : Nat) : Met l yX3_init wsX3_init (yR 1 1 40) (zVc g A (w ++ [(h0, .inr (3, [.null, .int 0, .int 0]))]) [.ref h0]) (zVq g A (fun u => w ++ wX3_init g h0 u)) 1 40 A := by
  refine y_met (cc := cX3_init) (ret := none) (own := RX3) (by decide) rfl rfl rfl _ (Nat.le_of_ble_eq_true rfl) ?_
  intro p e s m below meth c C hin E ls hl V
  have hl : lv_has ls 1 [(0, .ref h0)] := hl
  obtain ⟨hx, hb, hr, hml, hown, hts, hlocks⟩ := id C
  refine lv_aload_n hx hb dX3_init_0 rfl (lv_at hl 0 rfl) ?_
  refine W.objInit hx hb hown (hts (.methodLink RX3 3 objectInit) (List.mem_cons_of_mem _ (List.mem_append_left _ (List.mem_of_getElem? (i := 0) rfl)))) (hts (.instanceMethod objectInit) (List.mem_cons_of_mem _ (List.mem_append_left _ (List.mem_of_getElem? (i := 1) rfl)))) (hts (.code objectInit ⟨#[0xb1]⟩ 1 none) (List.mem_cons_of_mem _ (List.mem_append_left _ (List.mem_of_getElem? (i := 2) rfl)))) rfl (by rw [hml]; exact hl.1) rfl dX3_init_1 (by decide) (Nat.le_of_ble_eq_true rfl) ?_
  refine W.eq (g2 := F0 m 4 ls []) rfl ?_
  refine lv_aload_n hx hb dX3_init_4 rfl (lv_at hl 0 rfl) ?_
  refine lv_bipush (v := 40) hx hb dX3_init_5 (by decide) ?_
  refine y_newI hx hb V E (hts (.arrayClass .int) (List.mem_cons_of_mem _ (List.mem_append_left _ (List.mem_of_getElem? (i := 3) rfl)))) (by decide) rfl (by decide) (by decide) (by decide) dX3_init_7 (fun q1 H V => ?_)
  have V : zV g A (w ++ [(h0, .inr (3, [.null, .int 0, .int 0])), (q1, .inl (g.2.1.1, 40, .inl (fun _ => 0)))]) s H [] := V
  refine y_putF hx hb V E hts (fun w h => List.mem_cons_of_mem _ (List.mem_append_right _ (h))) tyX3 tyX3_ok nmX3 hown 0 rfl rfl 0 (by decide) (hts (.fieldLink RX3 9 "TownBand$Sheet" "cells" "[I") (List.mem_cons_of_mem _ (List.mem_append_left _ (List.mem_of_getElem? (i := 4) rfl)))) rfl hin rfl rfl rfl (Nat.le_of_ble_eq_true rfl) dX3_init_9 (fun H locs V => ?_)
  have V : zV g A (w ++ [(h0, .inr (3, [.ref q1, .int 0, .int 0])), (q1, .inl (g.2.1.1, 40, .inl (fun _ => 0)))]) s H locs := V
  refine lv_aload_n hx hb dX3_init_12 rfl (lv_at hl 0 rfl) ?_
  refine lv_iconst (v := (-1)) hx hb dX3_init_13 (by decide) ?_
  refine y_put hx hb V E hts (fun w h => List.mem_cons_of_mem _ (List.mem_append_right _ (h))) tyX3 tyX3_ok nmX3 hown 0 rfl rfl 1 (by decide) (hts (.fieldLink RX3 15 "TownBand$Sheet" "lane" "I") (List.mem_cons_of_mem _ (List.mem_append_left _ (List.mem_of_getElem? (i := 5) rfl)))) rfl rfl rfl (Nat.le_of_ble_eq_true rfl) dX3_init_14 (fun H locs V => ?_)
  have V : zV g A (w ++ [(h0, .inr (3, [.ref q1, .int (-1), .int 0])), (q1, .inl (g.2.1.1, 40, .inl (fun _ => 0)))]) s H locs := V
  refine lv_aload_n hx hb dX3_init_17 rfl (lv_at hl 0 rfl) ?_
  refine lv_iconst (v := 0) hx hb dX3_init_18 (by decide) ?_
  refine y_put hx hb V E hts (fun w h => List.mem_cons_of_mem _ (List.mem_append_right _ (h))) tyX3 tyX3_ok nmX3 hown 0 rfl rfl 2 (by decide) (hts (.fieldLink RX3 19 "TownBand$Sheet" "size" "I") (List.mem_cons_of_mem _ (List.mem_append_left _ (List.mem_of_getElem? (i := 6) rfl)))) rfl rfl rfl (Nat.le_of_ble_eq_true rfl) dX3_init_19 (fun H locs V => ?_)
  have V : zV g A (w ++ [(h0, .inr (3, [.ref q1, .int (-1), .int 0])), (q1, .inl (g.2.1.1, 40, .inl (fun _ => 0)))]) s H locs := V
  exact y_vret hx hb hr hlocks V (fun k => [q1].getD k 0) rfl dX3_init_22
theorem hdX5_init : yX5_init.cls = RX5 ∧ yX5_init.cls ≠ "java/lang/invoke/MethodHandle" ∧ yX5_init.cls ≠ "java/lang/invoke/VarHandle" ∧ (parseMethodDescriptor yX5_init.desc).map (fun d => d.parameters.length) = some 0 := by decide +kernel
def wX5_init (g : zG) (h0 : Nat) (u : Nat → Nat) : va_W := [(h0, .inr (5, [.ref (u 0), .ref (u 1), .ref (u 2), .int 0, .int 0, .int 0, .int 0])), ((u 0), .inl (g.2.1.1, 5, .inl (fun _ => 0))), ((u 1), .inl (g.2.1.1, 5, .inl (fun _ => 0))), ((u 2), .inl (g.2.1.1, 32, .inl (fun _ => 0)))]
set_option maxRecDepth 100000 in
set_option maxHeartbeats 4000000 in
theorem zcX5_init (l : Launch) (g : zG) (A : Nat → Prop) (w : va_W) (h0 : Nat) : Met l yX5_init wsX5_init (yR 1 3 42) (zVc g A (w ++ [(h0, .inr (5, [.null, .null, .null, .int 0, .int 0, .int 0, .int 0]))]) [.ref h0]) (zVq g A (fun u => w ++ wX5_init g h0 u)) 3 42 A := by
  refine y_met (cc := cX5_init) (ret := none) (own := RX5) (by decide) rfl rfl rfl _ (Nat.le_of_ble_eq_true rfl) ?_
  intro p e s m below meth c C hin E ls hl V
  have hl : lv_has ls 1 [(0, .ref h0)] := hl
  obtain ⟨hx, hb, hr, hml, hown, hts, hlocks⟩ := id C
  refine lv_aload_n hx hb dX5_init_0 rfl (lv_at hl 0 rfl) ?_
  refine W.objInit hx hb hown (hts (.methodLink RX5 3 objectInit) (List.mem_cons_of_mem _ (List.mem_append_left _ (List.mem_of_getElem? (i := 0) rfl)))) (hts (.instanceMethod objectInit) (List.mem_cons_of_mem _ (List.mem_append_left _ (List.mem_of_getElem? (i := 1) rfl)))) (hts (.code objectInit ⟨#[0xb1]⟩ 1 none) (List.mem_cons_of_mem _ (List.mem_append_left _ (List.mem_of_getElem? (i := 2) rfl)))) rfl (by rw [hml]; exact hl.1) rfl dX5_init_1 (by decide) (Nat.le_of_ble_eq_true rfl) ?_
  refine W.eq (g2 := F0 m 4 ls []) rfl ?_
  refine lv_aload_n hx hb dX5_init_4 rfl (lv_at hl 0 rfl) ?_
  refine lv_iconst (v := 5) hx hb dX5_init_5 (by decide) ?_
  refine y_newI hx hb V E (hts (.arrayClass .int) (List.mem_cons_of_mem _ (List.mem_append_left _ (List.mem_of_getElem? (i := 3) rfl)))) (by decide) rfl (by decide) (by decide) (by decide) dX5_init_6 (fun q1 H V => ?_)
  have V : zV g A (w ++ [(h0, .inr (5, [.null, .null, .null, .int 0, .int 0, .int 0, .int 0])), (q1, .inl (g.2.1.1, 5, .inl (fun _ => 0)))]) s H [] := V
  refine y_putF hx hb V E hts (fun w h => List.mem_cons_of_mem _ (List.mem_append_right _ (h))) tyX5 tyX5_ok nmX5 hown 0 rfl rfl 0 (by decide) (hts (.fieldLink RX5 9 "TownBand$Towers" "row" "[I") (List.mem_cons_of_mem _ (List.mem_append_left _ (List.mem_of_getElem? (i := 4) rfl)))) rfl hin rfl rfl rfl (Nat.le_of_ble_eq_true rfl) dX5_init_8 (fun H locs V => ?_)
  have V : zV g A (w ++ [(h0, .inr (5, [.ref q1, .null, .null, .int 0, .int 0, .int 0, .int 0])), (q1, .inl (g.2.1.1, 5, .inl (fun _ => 0)))]) s H locs := V
  refine lv_aload_n hx hb dX5_init_11 rfl (lv_at hl 0 rfl) ?_
  refine lv_iconst (v := 5) hx hb dX5_init_12 (by decide) ?_
  refine y_newI hx hb V E (hts (.arrayClass .int) (List.mem_cons_of_mem _ (List.mem_append_left _ (List.mem_of_getElem? (i := 3) rfl)))) (by decide) rfl (by decide) (by decide) (by decide) dX5_init_13 (fun q2 H V => ?_)
  have V : zV g A (w ++ [(h0, .inr (5, [.ref q1, .null, .null, .int 0, .int 0, .int 0, .int 0])), (q1, .inl (g.2.1.1, 5, .inl (fun _ => 0))), (q2, .inl (g.2.1.1, 5, .inl (fun _ => 0)))]) s H locs := V
  refine y_putF hx hb V E hts (fun w h => List.mem_cons_of_mem _ (List.mem_append_right _ (h))) tyX5 tyX5_ok nmX5 hown 0 rfl rfl 1 (by decide) (hts (.fieldLink RX5 15 "TownBand$Towers" "found" "[I") (List.mem_cons_of_mem _ (List.mem_append_left _ (List.mem_of_getElem? (i := 5) rfl)))) rfl hin rfl rfl rfl (Nat.le_of_ble_eq_true rfl) dX5_init_15 (fun H locs V => ?_)
  have V : zV g A (w ++ [(h0, .inr (5, [.ref q1, .ref q2, .null, .int 0, .int 0, .int 0, .int 0])), (q1, .inl (g.2.1.1, 5, .inl (fun _ => 0))), (q2, .inl (g.2.1.1, 5, .inl (fun _ => 0)))]) s H locs := V
  refine lv_aload_n hx hb dX5_init_18 rfl (lv_at hl 0 rfl) ?_
  refine lv_bipush (v := 32) hx hb dX5_init_19 (by decide) ?_
  refine y_newI hx hb V E (hts (.arrayClass .int) (List.mem_cons_of_mem _ (List.mem_append_left _ (List.mem_of_getElem? (i := 3) rfl)))) (by decide) rfl (by decide) (by decide) (by decide) dX5_init_21 (fun q3 H V => ?_)
  have V : zV g A (w ++ [(h0, .inr (5, [.ref q1, .ref q2, .null, .int 0, .int 0, .int 0, .int 0])), (q1, .inl (g.2.1.1, 5, .inl (fun _ => 0))), (q2, .inl (g.2.1.1, 5, .inl (fun _ => 0))), (q3, .inl (g.2.1.1, 32, .inl (fun _ => 0)))]) s H locs := V
  refine y_putF hx hb V E hts (fun w h => List.mem_cons_of_mem _ (List.mem_append_right _ (h))) tyX5 tyX5_ok nmX5 hown 0 rfl rfl 2 (by decide) (hts (.fieldLink RX5 18 "TownBand$Towers" "values" "[I") (List.mem_cons_of_mem _ (List.mem_append_left _ (List.mem_of_getElem? (i := 6) rfl)))) rfl hin rfl rfl rfl (Nat.le_of_ble_eq_true rfl) dX5_init_23 (fun H locs V => ?_)
  have V : zV g A (w ++ [(h0, .inr (5, [.ref q1, .ref q2, .ref q3, .int 0, .int 0, .int 0, .int 0])), (q1, .inl (g.2.1.1, 5, .inl (fun _ => 0))), (q2, .inl (g.2.1.1, 5, .inl (fun _ => 0))), (q3, .inl (g.2.1.1, 32, .inl (fun _ => 0)))]) s H locs := V
  exact y_vret hx hb hr hlocks V (fun k => [q1, q2, q3].getD k 0) rfl dX5_init_26
theorem hdX1_init : yX1_init.cls = RX1 ∧ yX1_init.cls ≠ "java/lang/invoke/MethodHandle" ∧ yX1_init.cls ≠ "java/lang/invoke/VarHandle" ∧ (parseMethodDescriptor yX1_init.desc).map (fun d => d.parameters.length) = some 0 := by decide +kernel
def wX1_init (g : zG) (h0 : Nat) (u : Nat → Nat) : va_W := [(h0, .inr (1, [.ref (u 0), .ref (u 1), .ref (u 2), .ref (u 3), .int 0, .int 0])), ((u 0), .inl (g.2.1.1, 5, .inl (fun _ => 0))), ((u 1), .inl (g.2.1.1, 5, .inl (fun _ => 0))), ((u 2), .inl (g.2.1.1, 5, .inl (fun _ => 0))), ((u 3), .inl (g.2.1.1, 240, .inl (fun _ => 0)))]
set_option maxRecDepth 100000 in
set_option maxHeartbeats 4000000 in
theorem zcX1_init (l : Launch) (g : zG) (A : Nat → Prop) (w : va_W) (h0 : Nat) : Met l yX1_init wsX1_init (yR 1 4 255) (zVc g A (w ++ [(h0, .inr (1, [.null, .null, .null, .null, .int 0, .int 0]))]) [.ref h0]) (zVq g A (fun u => w ++ wX1_init g h0 u)) 4 255 A := by
  refine y_met (cc := cX1_init) (ret := none) (own := RX1) (by decide) rfl rfl rfl _ (Nat.le_of_ble_eq_true rfl) ?_
  intro p e s m below meth c C hin E ls hl V
  have hl : lv_has ls 1 [(0, .ref h0)] := hl
  obtain ⟨hx, hb, hr, hml, hown, hts, hlocks⟩ := id C
  refine lv_aload_n hx hb dX1_init_0 rfl (lv_at hl 0 rfl) ?_
  refine W.objInit hx hb hown (hts (.methodLink RX1 3 objectInit) (List.mem_cons_of_mem _ (List.mem_append_left _ (List.mem_of_getElem? (i := 0) rfl)))) (hts (.instanceMethod objectInit) (List.mem_cons_of_mem _ (List.mem_append_left _ (List.mem_of_getElem? (i := 1) rfl)))) (hts (.code objectInit ⟨#[0xb1]⟩ 1 none) (List.mem_cons_of_mem _ (List.mem_append_left _ (List.mem_of_getElem? (i := 2) rfl)))) rfl (by rw [hml]; exact hl.1) rfl dX1_init_1 (by decide) (Nat.le_of_ble_eq_true rfl) ?_
  refine W.eq (g2 := F0 m 4 ls []) rfl ?_
  refine lv_aload_n hx hb dX1_init_4 rfl (lv_at hl 0 rfl) ?_
  refine lv_iconst (v := 5) hx hb dX1_init_5 (by decide) ?_
  refine y_newI hx hb V E (hts (.arrayClass .int) (List.mem_cons_of_mem _ (List.mem_append_left _ (List.mem_of_getElem? (i := 3) rfl)))) (by decide) rfl (by decide) (by decide) (by decide) dX1_init_6 (fun q1 H V => ?_)
  have V : zV g A (w ++ [(h0, .inr (1, [.null, .null, .null, .null, .int 0, .int 0])), (q1, .inl (g.2.1.1, 5, .inl (fun _ => 0)))]) s H [] := V
  refine y_putF hx hb V E hts (fun w h => List.mem_cons_of_mem _ (List.mem_append_right _ (h))) tyX1 tyX1_ok nmX1 hown 0 rfl rfl 0 (by decide) (hts (.fieldLink RX1 9 "TownBand$Orders" "row" "[I") (List.mem_cons_of_mem _ (List.mem_append_left _ (List.mem_of_getElem? (i := 4) rfl)))) rfl hin rfl rfl rfl (Nat.le_of_ble_eq_true rfl) dX1_init_8 (fun H locs V => ?_)
  have V : zV g A (w ++ [(h0, .inr (1, [.ref q1, .null, .null, .null, .int 0, .int 0])), (q1, .inl (g.2.1.1, 5, .inl (fun _ => 0)))]) s H locs := V
  refine lv_aload_n hx hb dX1_init_11 rfl (lv_at hl 0 rfl) ?_
  refine lv_iconst (v := 5) hx hb dX1_init_12 (by decide) ?_
  refine y_newI hx hb V E (hts (.arrayClass .int) (List.mem_cons_of_mem _ (List.mem_append_left _ (List.mem_of_getElem? (i := 3) rfl)))) (by decide) rfl (by decide) (by decide) (by decide) dX1_init_13 (fun q2 H V => ?_)
  have V : zV g A (w ++ [(h0, .inr (1, [.ref q1, .null, .null, .null, .int 0, .int 0])), (q1, .inl (g.2.1.1, 5, .inl (fun _ => 0))), (q2, .inl (g.2.1.1, 5, .inl (fun _ => 0)))]) s H locs := V
  refine y_putF hx hb V E hts (fun w h => List.mem_cons_of_mem _ (List.mem_append_right _ (h))) tyX1 tyX1_ok nmX1 hown 0 rfl rfl 1 (by decide) (hts (.fieldLink RX1 15 "TownBand$Orders" "first" "[I") (List.mem_cons_of_mem _ (List.mem_append_left _ (List.mem_of_getElem? (i := 5) rfl)))) rfl hin rfl rfl rfl (Nat.le_of_ble_eq_true rfl) dX1_init_15 (fun H locs V => ?_)
  have V : zV g A (w ++ [(h0, .inr (1, [.ref q1, .ref q2, .null, .null, .int 0, .int 0])), (q1, .inl (g.2.1.1, 5, .inl (fun _ => 0))), (q2, .inl (g.2.1.1, 5, .inl (fun _ => 0)))]) s H locs := V
  refine lv_aload_n hx hb dX1_init_18 rfl (lv_at hl 0 rfl) ?_
  refine lv_iconst (v := 5) hx hb dX1_init_19 (by decide) ?_
  refine y_newI hx hb V E (hts (.arrayClass .int) (List.mem_cons_of_mem _ (List.mem_append_left _ (List.mem_of_getElem? (i := 3) rfl)))) (by decide) rfl (by decide) (by decide) (by decide) dX1_init_20 (fun q3 H V => ?_)
  have V : zV g A (w ++ [(h0, .inr (1, [.ref q1, .ref q2, .null, .null, .int 0, .int 0])), (q1, .inl (g.2.1.1, 5, .inl (fun _ => 0))), (q2, .inl (g.2.1.1, 5, .inl (fun _ => 0))), (q3, .inl (g.2.1.1, 5, .inl (fun _ => 0)))]) s H locs := V
  refine y_putF hx hb V E hts (fun w h => List.mem_cons_of_mem _ (List.mem_append_right _ (h))) tyX1 tyX1_ok nmX1 hown 0 rfl rfl 2 (by decide) (hts (.fieldLink RX1 18 "TownBand$Orders" "liers" "[I") (List.mem_cons_of_mem _ (List.mem_append_left _ (List.mem_of_getElem? (i := 6) rfl)))) rfl hin rfl rfl rfl (Nat.le_of_ble_eq_true rfl) dX1_init_22 (fun H locs V => ?_)
  have V : zV g A (w ++ [(h0, .inr (1, [.ref q1, .ref q2, .ref q3, .null, .int 0, .int 0])), (q1, .inl (g.2.1.1, 5, .inl (fun _ => 0))), (q2, .inl (g.2.1.1, 5, .inl (fun _ => 0))), (q3, .inl (g.2.1.1, 5, .inl (fun _ => 0)))]) s H locs := V
  refine lv_aload_n hx hb dX1_init_25 rfl (lv_at hl 0 rfl) ?_
  refine lv_sipush (v := 240) hx hb dX1_init_26 (by decide) ?_
  refine y_newI hx hb V E (hts (.arrayClass .int) (List.mem_cons_of_mem _ (List.mem_append_left _ (List.mem_of_getElem? (i := 3) rfl)))) (by decide) rfl (by decide) (by decide) (by decide) dX1_init_29 (fun q4 H V => ?_)
  have V : zV g A (w ++ [(h0, .inr (1, [.ref q1, .ref q2, .ref q3, .null, .int 0, .int 0])), (q1, .inl (g.2.1.1, 5, .inl (fun _ => 0))), (q2, .inl (g.2.1.1, 5, .inl (fun _ => 0))), (q3, .inl (g.2.1.1, 5, .inl (fun _ => 0))), (q4, .inl (g.2.1.1, 240, .inl (fun _ => 0)))]) s H locs := V
  refine y_putF hx hb V E hts (fun w h => List.mem_cons_of_mem _ (List.mem_append_right _ (h))) tyX1 tyX1_ok nmX1 hown 0 rfl rfl 3 (by decide) (hts (.fieldLink RX1 21 "TownBand$Orders" "tally" "[I") (List.mem_cons_of_mem _ (List.mem_append_left _ (List.mem_of_getElem? (i := 7) rfl)))) rfl hin rfl rfl rfl (Nat.le_of_ble_eq_true rfl) dX1_init_31 (fun H locs V => ?_)
  have V : zV g A (w ++ [(h0, .inr (1, [.ref q1, .ref q2, .ref q3, .ref q4, .int 0, .int 0])), (q1, .inl (g.2.1.1, 5, .inl (fun _ => 0))), (q2, .inl (g.2.1.1, 5, .inl (fun _ => 0))), (q3, .inl (g.2.1.1, 5, .inl (fun _ => 0))), (q4, .inl (g.2.1.1, 240, .inl (fun _ => 0)))]) s H locs := V
  exact y_vret hx hb hr hlocks V (fun k => [q1, q2, q3, q4].getD k 0) rfl dX1_init_34
theorem hdX4_init : yX4_init.cls = RX4 ∧ yX4_init.cls ≠ "java/lang/invoke/MethodHandle" ∧ yX4_init.cls ≠ "java/lang/invoke/VarHandle" ∧ (parseMethodDescriptor yX4_init.desc).map (fun d => d.parameters.length) = some 0 := by decide +kernel
def wX4_init (g : zG) (h0 : Nat) (u : Nat → Nat) : va_W := [(h0, .inr (4, [.ref (u 0), .ref (u 1), .int 0, .int 0, .int 0, .int 0, .int 0, .int 0, .int 0, .int 0, .int 0])), ((u 0), .inl (g.2.1.1, 160, .inl (fun _ => 0))), ((u 1), .inr (0, [.ref (u 2), .ref (u 3), .ref (u 4), .ref (u 5), .ref (u 6), .ref (u 7), .int 0, .int 0, .int 0, .int 5])), ((u 2), .inl (g.2.1.1, 5, .inl (fun _ => 0))), ((u 3), .inl (g.2.1.1, 5, .inl (fun _ => 0))), ((u 4), .inl (g.2.1.1, 5, .inl (fun _ => 0))), ((u 5), .inl (g.2.1.1, 4, .inl (fun _ => 0))), ((u 6), .inl (g.2.1.1, 5, .inl (fun _ => 0))), ((u 7), .inl (g.2.1.1, 5, .inl (fun _ => 0)))]
set_option maxRecDepth 100000 in
set_option maxHeartbeats 4000000 in
theorem zcX4_init (l : Launch) (g : zG) (A : Nat → Prop) (w : va_W) (h0 : Nat) : Met l yX4_init wsX4_init (yR 2 8 199) (zVc g A (w ++ [(h0, .inr (4, [.null, .null, .int 0, .int 0, .int 0, .int 0, .int 0, .int 0, .int 0, .int 0, .int 0]))]) [.ref h0]) (zVq g A (fun u => w ++ wX4_init g h0 u)) 8 199 A := by
  refine y_met (cc := cX4_init) (ret := none) (own := RX4) (by decide) rfl rfl rfl _ (Nat.le_of_ble_eq_true rfl) ?_
  intro p e s m below meth c C hin E ls hl V
  have hl : lv_has ls 1 [(0, .ref h0)] := hl
  obtain ⟨hx, hb, hr, hml, hown, hts, hlocks⟩ := id C
  refine lv_aload_n hx hb dX4_init_0 rfl (lv_at hl 0 rfl) ?_
  refine W.objInit hx hb hown (hts (.methodLink RX4 3 objectInit) (List.mem_cons_of_mem _ (List.mem_append_left _ (List.mem_append_left _ (List.mem_of_getElem? (i := 0) rfl))))) (hts (.instanceMethod objectInit) (List.mem_cons_of_mem _ (List.mem_append_left _ (List.mem_append_left _ (List.mem_of_getElem? (i := 1) rfl))))) (hts (.code objectInit ⟨#[0xb1]⟩ 1 none) (List.mem_cons_of_mem _ (List.mem_append_left _ (List.mem_append_left _ (List.mem_of_getElem? (i := 2) rfl))))) rfl (by rw [hml]; exact hl.1) rfl dX4_init_1 (by decide) (Nat.le_of_ble_eq_true rfl) ?_
  refine W.eq (g2 := F0 m 4 ls []) rfl ?_
  refine lv_aload_n hx hb dX4_init_4 rfl (lv_at hl 0 rfl) ?_
  refine lv_sipush (v := 160) hx hb dX4_init_5 (by decide) ?_
  refine y_newI hx hb V E (hts (.arrayClass .int) (List.mem_cons_of_mem _ (List.mem_append_left _ (List.mem_append_left _ (List.mem_of_getElem? (i := 3) rfl))))) (by decide) rfl (by decide) (by decide) (by decide) dX4_init_8 (fun q1 H V => ?_)
  have V : zV g A (w ++ [(h0, .inr (4, [.null, .null, .int 0, .int 0, .int 0, .int 0, .int 0, .int 0, .int 0, .int 0, .int 0])), (q1, .inl (g.2.1.1, 160, .inl (fun _ => 0)))]) s H [] := V
  refine y_putF hx hb V E hts (fun w h => List.mem_cons_of_mem _ (List.mem_append_left _ (List.mem_append_right _ (h)))) tyX4 tyX4_ok nmX4 hown 0 rfl rfl 0 (by decide) (hts (.fieldLink RX4 9 "TownBand$Tape" "bytes" "[I") (List.mem_cons_of_mem _ (List.mem_append_left _ (List.mem_append_left _ (List.mem_of_getElem? (i := 4) rfl))))) rfl hin rfl rfl rfl (Nat.le_of_ble_eq_true rfl) dX4_init_10 (fun H locs V => ?_)
  have V : zV g A (w ++ [(h0, .inr (4, [.ref q1, .null, .int 0, .int 0, .int 0, .int 0, .int 0, .int 0, .int 0, .int 0, .int 0])), (q1, .inl (g.2.1.1, 160, .inl (fun _ => 0)))]) s H locs := V
  refine lv_aload_n hx hb dX4_init_13 rfl (lv_at hl 0 rfl) ?_
  refine y_new (ci := 0) (fs := [.null, .null, .null, .null, .null, .null, .int 0, .int 0, .int 0, .int 0]) hx hb V E hts (fun w h => List.mem_cons_of_mem _ (List.mem_append_right _ (h))) tyX0 tyX0_ok hown (hts (.classLink RX4 15 RX0) (List.mem_cons_of_mem _ (List.mem_append_left _ (List.mem_append_left _ (List.mem_of_getElem? (i := 5) rfl))))) (hts (.instantiable RX0 10) (List.mem_cons_of_mem _ (List.mem_append_left _ (List.mem_append_left _ (List.mem_of_getElem? (i := 6) rfl))))) (hts (.initialized RX0) (List.mem_cons_of_mem _ (List.mem_append_left _ (List.mem_append_left _ (List.mem_of_getElem? (i := 7) rfl))))) rfl (fun j hj => match j, hj with | 0, _ => rfl | 1, _ => rfl | 2, _ => rfl | 3, _ => rfl | 4, _ => rfl | 5, _ => rfl | 6, _ => rfl | 7, _ => rfl | 8, _ => rfl | 9, _ => rfl | j + 10, hj => absurd hj (by omega)) (by decide) (by decide) dX4_init_14 (fun q2 H V => ?_)
  have V : zV g A (w ++ [(h0, .inr (4, [.ref q1, .null, .int 0, .int 0, .int 0, .int 0, .int 0, .int 0, .int 0, .int 0, .int 0])), (q1, .inl (g.2.1.1, 160, .inl (fun _ => 0))), (q2, .inr (0, [.null, .null, .null, .null, .null, .null, .int 0, .int 0, .int 0, .int 0]))]) s H locs := V
  refine lv_dup hx hb dX4_init_17 rfl ?_
  refine y_call (va_runIN (As := []) (rest := [.ref q2, .ref h0]) ⟨hx, hb, hml, hown, hts⟩ (zcX0_init l g A (w ++ [(h0, .inr (4, [.ref q1, .null, .int 0, .int 0, .int 0, .int 0, .int 0, .int 0, .int 0, .int 0, .int 0])), (q1, .inl (g.2.1.1, 160, .inl (fun _ => 0)))]) q2) ⟨va_cnB 0 hts gX4_init_X0_init_n17 rfl rfl rfl (zE_n E 2 rfl) (hts (.initialized RX0) (List.mem_cons_of_mem _ (List.mem_append_left _ (List.mem_append_left _ (List.mem_of_getElem? (i := 7) rfl))))) hdX0_init.2 ⟨by decide, by decide⟩, rfl, (hts (.instanceMethod yX0_init) (List.mem_cons_of_mem _ (List.mem_append_left _ (List.mem_append_left _ (List.mem_of_getElem? (i := 11) rfl)))))⟩ (y_pre V E (by rw [List.append_assoc]; rfl)) rfl rfl hl.1 rfl (lv_room (Nat.le_of_ble_eq_true rfl)) dX4_init_18 ⟨by decide, by decide⟩) V (fun u3 H locs V => ?_)
  rw [List.append_assoc] at V
  have V : zV g A (w ++ [(h0, .inr (4, [.ref q1, .null, .int 0, .int 0, .int 0, .int 0, .int 0, .int 0, .int 0, .int 0, .int 0])), (q1, .inl (g.2.1.1, 160, .inl (fun _ => 0))), (q2, .inr (0, [.ref (u3 0), .ref (u3 1), .ref (u3 2), .ref (u3 3), .ref (u3 4), .ref (u3 5), .int 0, .int 0, .int 0, .int 5])), ((u3 0), .inl (g.2.1.1, 5, .inl (fun _ => 0))), ((u3 1), .inl (g.2.1.1, 5, .inl (fun _ => 0))), ((u3 2), .inl (g.2.1.1, 5, .inl (fun _ => 0))), ((u3 3), .inl (g.2.1.1, 4, .inl (fun _ => 0))), ((u3 4), .inl (g.2.1.1, 5, .inl (fun _ => 0))), ((u3 5), .inl (g.2.1.1, 5, .inl (fun _ => 0)))]) s H locs := V
  refine y_putF hx hb V E hts (fun w h => List.mem_cons_of_mem _ (List.mem_append_left _ (List.mem_append_right _ (h)))) tyX4 tyX4_ok nmX4 hown 0 rfl rfl 1 (by decide) (hts (.fieldLink RX4 18 "TownBand$Tape" "draft" "LTownBand$Band;") (List.mem_cons_of_mem _ (List.mem_append_left _ (List.mem_append_left _ (List.mem_of_getElem? (i := 8) rfl))))) rfl hin rfl rfl rfl (Nat.le_of_ble_eq_true rfl) dX4_init_21 (fun H locs V => ?_)
  have V : zV g A (w ++ [(h0, .inr (4, [.ref q1, .ref q2, .int 0, .int 0, .int 0, .int 0, .int 0, .int 0, .int 0, .int 0, .int 0])), (q1, .inl (g.2.1.1, 160, .inl (fun _ => 0))), (q2, .inr (0, [.ref (u3 0), .ref (u3 1), .ref (u3 2), .ref (u3 3), .ref (u3 4), .ref (u3 5), .int 0, .int 0, .int 0, .int 5])), ((u3 0), .inl (g.2.1.1, 5, .inl (fun _ => 0))), ((u3 1), .inl (g.2.1.1, 5, .inl (fun _ => 0))), ((u3 2), .inl (g.2.1.1, 5, .inl (fun _ => 0))), ((u3 3), .inl (g.2.1.1, 4, .inl (fun _ => 0))), ((u3 4), .inl (g.2.1.1, 5, .inl (fun _ => 0))), ((u3 5), .inl (g.2.1.1, 5, .inl (fun _ => 0)))]) s H locs := V
  refine lv_aload_n hx hb dX4_init_24 rfl (lv_at hl 0 rfl) ?_
  refine lv_iconst (v := 0) hx hb dX4_init_25 (by decide) ?_
  refine y_put hx hb V E hts (fun w h => List.mem_cons_of_mem _ (List.mem_append_left _ (List.mem_append_right _ (h)))) tyX4 tyX4_ok nmX4 hown 0 rfl rfl 2 (by decide) (hts (.fieldLink RX4 22 "TownBand$Tape" "length" "I") (List.mem_cons_of_mem _ (List.mem_append_left _ (List.mem_append_left _ (List.mem_of_getElem? (i := 9) rfl))))) rfl rfl rfl (Nat.le_of_ble_eq_true rfl) dX4_init_26 (fun H locs V => ?_)
  have V : zV g A (w ++ [(h0, .inr (4, [.ref q1, .ref q2, .int 0, .int 0, .int 0, .int 0, .int 0, .int 0, .int 0, .int 0, .int 0])), (q1, .inl (g.2.1.1, 160, .inl (fun _ => 0))), (q2, .inr (0, [.ref (u3 0), .ref (u3 1), .ref (u3 2), .ref (u3 3), .ref (u3 4), .ref (u3 5), .int 0, .int 0, .int 0, .int 5])), ((u3 0), .inl (g.2.1.1, 5, .inl (fun _ => 0))), ((u3 1), .inl (g.2.1.1, 5, .inl (fun _ => 0))), ((u3 2), .inl (g.2.1.1, 5, .inl (fun _ => 0))), ((u3 3), .inl (g.2.1.1, 4, .inl (fun _ => 0))), ((u3 4), .inl (g.2.1.1, 5, .inl (fun _ => 0))), ((u3 5), .inl (g.2.1.1, 5, .inl (fun _ => 0)))]) s H locs := V
  refine lv_aload_n hx hb dX4_init_29 rfl (lv_at hl 0 rfl) ?_
  refine lv_iconst (v := 0) hx hb dX4_init_30 (by decide) ?_
  refine y_put hx hb V E hts (fun w h => List.mem_cons_of_mem _ (List.mem_append_left _ (List.mem_append_right _ (h)))) tyX4 tyX4_ok nmX4 hown 0 rfl rfl 9 (by decide) (hts (.fieldLink RX4 26 "TownBand$Tape" "flaw" "I") (List.mem_cons_of_mem _ (List.mem_append_left _ (List.mem_append_left _ (List.mem_of_getElem? (i := 10) rfl))))) rfl rfl rfl (Nat.le_of_ble_eq_true rfl) dX4_init_31 (fun H locs V => ?_)
  have V : zV g A (w ++ [(h0, .inr (4, [.ref q1, .ref q2, .int 0, .int 0, .int 0, .int 0, .int 0, .int 0, .int 0, .int 0, .int 0])), (q1, .inl (g.2.1.1, 160, .inl (fun _ => 0))), (q2, .inr (0, [.ref (u3 0), .ref (u3 1), .ref (u3 2), .ref (u3 3), .ref (u3 4), .ref (u3 5), .int 0, .int 0, .int 0, .int 5])), ((u3 0), .inl (g.2.1.1, 5, .inl (fun _ => 0))), ((u3 1), .inl (g.2.1.1, 5, .inl (fun _ => 0))), ((u3 2), .inl (g.2.1.1, 5, .inl (fun _ => 0))), ((u3 3), .inl (g.2.1.1, 4, .inl (fun _ => 0))), ((u3 4), .inl (g.2.1.1, 5, .inl (fun _ => 0))), ((u3 5), .inl (g.2.1.1, 5, .inl (fun _ => 0)))]) s H locs := V
  exact y_vret hx hb hr hlocks V (fun k => [q1, q2, (u3 0), (u3 1), (u3 2), (u3 3), (u3 4), (u3 5)].getD k 0) rfl dX4_init_34

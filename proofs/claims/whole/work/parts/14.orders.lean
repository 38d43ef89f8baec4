/-! ===== X1_stepOn ===== -/
theorem hdX1_stepOn : yX1_stepOn.cls = RX1 ∧ yX1_stepOn.cls ≠ "java/lang/invoke/MethodHandle" ∧ yX1_stepOn.cls ≠ "java/lang/invoke/VarHandle" ∧ (parseMethodDescriptor yX1_stepOn.desc).map (fun d => d.parameters.length) = some 1 := by decide +kernel
def PX1_stepOn_85 (p : Program) (l : Launch) (e : Env) (s : State) (m : MethodId) (args : Array Value) (below : List Frame) (meth : Method) (c : Code) (g : zG) (A : Nat → Prop) (τ : zS) (res : zS) (f : Int32 → Int32 → zS → Option (zS)) : Prop := ∀ (x4 : Int32) (x5 : Int32) (σ : zS) (H : Heap) (locs : List Loc) (ls : Array Slot), f x4 x5 σ = some res → zW g A σ τ s H locs → lv_has ls 6 [(0, .ref (g.2.2 53)), (4, .int x4), (5, .int x5)] → W p l e (zR 1) s m args below meth c H locs 0 0 (MQ below (zQv g A τ res) args s 0 0 A) (F0 m 85 ls [])
def PX1_stepOn_66 (p : Program) (l : Launch) (e : Env) (s : State) (m : MethodId) (args : Array Value) (below : List Frame) (meth : Method) (c : Code) (g : zG) (A : Nat → Prop) (τ : zS) (res : zS) (f : Int32 → Int32 → Int32 → zS → Option (zS)) : Prop := ∀ (x1 : Int32) (x2 : Int32) (x3 : Int32) (σ : zS) (H : Heap) (locs : List Loc) (ls : Array Slot), f x1 x2 x3 σ = some res → zW g A σ τ s H locs → lv_has ls 6 [(0, .ref (g.2.2 53)), (1, .int x1), (2, .int x2), (3, .int x3)] → W p l e (zR 1) s m args below meth c H locs 0 0 (MQ below (zQv g A τ res) args s 0 0 A) (F0 m 66 ls [])
def PX1_stepOn_40 (p : Program) (l : Launch) (e : Env) (s : State) (m : MethodId) (args : Array Value) (below : List Frame) (meth : Method) (c : Code) (g : zG) (A : Nat → Prop) (τ : zS) (res : zS) (f : Int32 → Int32 → Int32 → zS → Option (zS)) : Prop := ∀ (x1 : Int32) (x2 : Int32) (x3 : Int32) (σ : zS) (H : Heap) (locs : List Loc) (ls : Array Slot), f x1 x2 x3 σ = some res → zW g A σ τ s H locs → lv_has ls 6 [(0, .ref (g.2.2 53)), (1, .int x1), (2, .int x2), (3, .int x3)] → W p l e (zR 1) s m args below meth c H locs 0 0 (MQ below (zQv g A τ res) args s 0 0 A) (F0 m 40 ls [])
def PX1_stepOn_31 (p : Program) (l : Launch) (e : Env) (s : State) (m : MethodId) (args : Array Value) (below : List Frame) (meth : Method) (c : Code) (g : zG) (A : Nat → Prop) (τ : zS) (res : zS) (f : Int32 → Int32 → zS → Option (zS)) : Prop := ∀ (x1 : Int32) (x2 : Int32) (σ : zS) (H : Heap) (locs : List Loc) (ls : Array Slot), f x1 x2 σ = some res → zW g A σ τ s H locs → lv_has ls 6 [(0, .ref (g.2.2 53)), (1, .int x1), (2, .int x2)] → W p l e (zR 1) s m args below meth c H locs 0 0 (MQ below (zQv g A τ res) args s 0 0 A) (F0 m 31 ls [])
def PX1_stepOn_4 (p : Program) (l : Launch) (e : Env) (s : State) (m : MethodId) (args : Array Value) (below : List Frame) (meth : Method) (c : Code) (g : zG) (A : Nat → Prop) (τ : zS) (res : zS) (f : Int32 → Int32 → zS → Option (zS)) : Prop := ∀ (x1 : Int32) (x2 : Int32) (σ : zS) (H : Heap) (locs : List Loc) (ls : Array Slot), f x1 x2 σ = some res → zW g A σ τ s H locs → lv_has ls 6 [(0, .ref (g.2.2 53)), (1, .int x1), (2, .int x2)] → W p l e (zR 1) s m args below meth c H locs 0 0 (MQ below (zQv g A τ res) args s 0 0 A) (F0 m 4 ls [])
def fX1_stepOn_85 (N : Nat) : Nat → Int32 → Int32 → zS → Option (zS)
  | 0, _, _, _ => none
  | n + 1, x4, x5, σ =>
    if x5 ≤ x4 then
      some σ
    else
      (fX6_exchange N σ 30 x4 x5).bind fun q2 =>
      (fX1_stepOn_85 N n) (x4 + (nI 1)) (x5 + (-1)) q2
set_option maxRecDepth 100000 in
set_option maxHeartbeats 4000000 in
theorem hX1_stepOn_85 {p : Program} {l : Launch} {e : Env} {s : State} {m : MethodId} {args : Array Value} {below : List Frame} {meth : Method} {c : Code} {g : zG} {A : Nat → Prop} {τ : zS} {res : zS} (C : zCx p s m args meth c cX1_stepOn none wsX1_stepOn RX1 6) (E : zE g A s) (N : Nat) : ∀ n : Nat, PX1_stepOn_85 p l e s m args below meth c g A τ res (fX1_stepOn_85 N n) := by
  obtain ⟨hx, hb, hr, hml, hown, hts, hlocks⟩ := id C
  intro n
  induction n with
  | zero =>
    intro x4 x5 σ H locs ls hf
    exact absurd hf (by simp [fX1_stepOn_85])
  | succ n ih =>
    intro x4 x5 σ H locs ls hf hh hl
    rw [fX1_stepOn_85] at hf
    refine lv_iload hx hb dX1_stepOn_85 (lv_at hl 1 rfl) ?_
    refine lv_iload hx hb dX1_stepOn_87 (lv_at hl 2 rfl) ?_
    refine lv_icmp_ge (tgt := 112) hx hb dX1_stepOn_89 (by decide) (fun c_v1 => ?_) (fun c_v1 => ?_)
    · have hf := z_ip hf c_v1
      have hf := Option.some.inj hf
      subst hf
      exact z_vretX hx hb hr hlocks hh dX1_stepOn_112
    · have hf := z_in hf c_v1
      refine lv_aload_n hx hb dX1_stepOn_92 rfl (lv_at hl 0 rfl) ?_
      refine z_get (v := .ref (g.2.2 30)) hx hb hts (fun w h => List.mem_cons_of_mem _ (List.mem_append_right _ (h))) hown E hh (by decide) (zC_obj (q := 53) rfl) rfl 0 (by decide) (hts (.fieldLink RX1 9 "TownBand$Orders" "row" "[I") (List.mem_cons_of_mem _ (List.mem_append_left _ (List.mem_of_getElem? (i := 0) rfl)))) rfl dX1_stepOn_93 ?_
      refine lv_iload hx hb dX1_stepOn_96 (lv_at hl 1 rfl) ?_
      refine lv_iload hx hb dX1_stepOn_98 (lv_at hl 2 rfl) ?_
      obtain ⟨q2, h_q2, hf⟩ := z_bd hf
      refine z_xv (va_runSN (As := [.ref (g.2.2 30), .int x4, .int x5]) (rest := []) ⟨hx, hb, hml, hown, hts⟩ (zcX6_exchange l g A σ τ N 30 x4 x5 (by decide) h_q2) ⟨va_cnB 3 hts gX1_stepOn_X6_exchange_n90 rfl rfl rfl (zE_m E 37 rfl) (hts (.initialized RX6) (List.mem_cons_of_mem _ (List.mem_append_left _ (List.mem_of_getElem? (i := 2) rfl)))) hdX6_exchange.2 ⟨by decide, by decide⟩, (hts (.static yX6_exchange) (List.mem_cons_of_mem _ (List.mem_append_left _ (List.mem_of_getElem? (i := 1) rfl)))), trivial⟩ (z_preS E hh) rfl rfl hl.1 rfl (lv_room (Nat.le_of_ble_eq_true rfl)) dX1_stepOn_100 ⟨Nat.le_refl _, Nat.le_refl _⟩) hh (fun H locs hh => ?_)
      refine lv_iinc (v := (x4 + (nI 1))) (lv' := [(4, .int (x4 + (nI 1))), (0, .ref (g.2.2 53)), (5, .int x5)]) hx hb dX1_stepOn_103 hl (k := 1) rfl rfl (by decide) rfl (fun ls hl => ?_)
      refine lv_iinc (v := (x5 + (-1))) (lv' := [(5, .int (x5 + (-1))), (4, .int (x4 + (nI 1))), (0, .ref (g.2.2 53))]) hx hb dX1_stepOn_106 hl (k := 2) rfl rfl (by decide) rfl (fun ls hl => ?_)
      refine lv_goto (tgt := 85) hx hb dX1_stepOn_109 (by decide) ?_
      exact ih (x4 + (nI 1)) (x5 + (-1)) q2 _ _ _ hf hh (lv_sub hl [2, 1, 0] rfl)
def fX1_stepOn_66 (N : Nat) (x1 : Int32) (x2 : Int32) (x3 : Int32) (σ : zS) : Option (zS) :=
  (fX6_exchange N σ 30 x2 x3).bind fun q1 =>
  zlet (x2 + (nI 1)) fun v2 =>
  zlet (x1 - (nI 1)) fun v3 =>
  (fX1_stepOn_85 N N) v2 v3 q1
set_option maxRecDepth 100000 in
set_option maxHeartbeats 4000000 in
theorem hX1_stepOn_66 {p : Program} {l : Launch} {e : Env} {s : State} {m : MethodId} {args : Array Value} {below : List Frame} {meth : Method} {c : Code} {g : zG} {A : Nat → Prop} {τ : zS} {res : zS} (C : zCx p s m args meth c cX1_stepOn none wsX1_stepOn RX1 6) (E : zE g A s) (N : Nat) : PX1_stepOn_66 p l e s m args below meth c g A τ res (fX1_stepOn_66 N) := by
  obtain ⟨hx, hb, hr, hml, hown, hts, hlocks⟩ := id C
  intro x1 x2 x3 σ H locs ls hf hh hl
  unfold fX1_stepOn_66 at hf
  refine lv_aload_n hx hb dX1_stepOn_66 rfl (lv_at hl 0 rfl) ?_
  refine z_get (v := .ref (g.2.2 30)) hx hb hts (fun w h => List.mem_cons_of_mem _ (List.mem_append_right _ (h))) hown E hh (by decide) (zC_obj (q := 53) rfl) rfl 0 (by decide) (hts (.fieldLink RX1 9 "TownBand$Orders" "row" "[I") (List.mem_cons_of_mem _ (List.mem_append_left _ (List.mem_of_getElem? (i := 0) rfl)))) rfl dX1_stepOn_67 ?_
  refine lv_iload_n hx hb dX1_stepOn_70 rfl (lv_at hl 2 rfl) ?_
  refine lv_iload_n hx hb dX1_stepOn_71 rfl (lv_at hl 3 rfl) ?_
  obtain ⟨q1, h_q1, hf⟩ := z_bd hf
  refine z_xv (va_runSN (As := [.ref (g.2.2 30), .int x2, .int x3]) (rest := []) ⟨hx, hb, hml, hown, hts⟩ (zcX6_exchange l g A σ τ N 30 x2 x3 (by decide) h_q1) ⟨va_cnB 3 hts gX1_stepOn_X6_exchange_n90 rfl rfl rfl (zE_m E 37 rfl) (hts (.initialized RX6) (List.mem_cons_of_mem _ (List.mem_append_left _ (List.mem_of_getElem? (i := 2) rfl)))) hdX6_exchange.2 ⟨by decide, by decide⟩, (hts (.static yX6_exchange) (List.mem_cons_of_mem _ (List.mem_append_left _ (List.mem_of_getElem? (i := 1) rfl)))), trivial⟩ (z_preS E hh) rfl rfl hl.1 rfl (lv_room (Nat.le_of_ble_eq_true rfl)) dX1_stepOn_72 ⟨Nat.le_refl _, Nat.le_refl _⟩) hh (fun H locs hh => ?_)
  refine lv_iload_n hx hb dX1_stepOn_75 rfl (lv_at hl 2 rfl) ?_
  refine lv_iconst (v := (nI 1)) hx hb dX1_stepOn_76 (by decide) ?_
  refine lv_iadd hx hb dX1_stepOn_77 ?_
  obtain ⟨v2, e_v2, hf⟩ := z_lt hf
  refine z_topi e_v2 ?_
  refine lv_istore (lv' := [(4, .int v2), (0, .ref (g.2.2 53)), (1, .int x1), (2, .int x2), (3, .int x3)]) hx hb dX1_stepOn_78 hl (by decide) rfl (fun ls hl => ?_)
  refine lv_iload_n hx hb dX1_stepOn_80 rfl (lv_at hl 2 rfl) ?_
  refine lv_iconst (v := (nI 1)) hx hb dX1_stepOn_81 (by decide) ?_
  refine lv_isub hx hb dX1_stepOn_82 ?_
  obtain ⟨v3, e_v3, hf⟩ := z_lt hf
  refine z_topi e_v3 ?_
  refine lv_istore (lv' := [(5, .int v3), (4, .int v2), (0, .ref (g.2.2 53)), (1, .int x1), (2, .int x2), (3, .int x3)]) hx hb dX1_stepOn_83 hl (by decide) rfl (fun ls hl => ?_)
  exact (hX1_stepOn_85 C E N N) v2 v3 q1 _ _ _ hf hh (lv_sub hl [2, 1, 0] rfl)
def fX1_stepOn_40 (N : Nat) (k_66 : Int32 → Int32 → Int32 → zS → Option (zS)) : Nat → Int32 → Int32 → Int32 → zS → Option (zS)
  | 0, _, _, _, _ => none
  | n + 1, x1, x2, x3, σ =>
    if x3 ≤ x2 then
      k_66 x1 x2 x3 σ
    else
      if zin x3 (zlen 30) then
      zlet (σ.2 30 x3.toNatClampNeg) fun v3 =>
      if zin x2 (zlen 30) then
      zlet (σ.2 30 x2.toNatClampNeg) fun v5 =>
      if v5 ≤ v3 then
        k_66 x1 x2 x3 σ
      else
        (fX1_stepOn_40 N k_66 n) x1 x2 (x3 + (-1)) σ
      else none
      else none
set_option maxRecDepth 100000 in
set_option maxHeartbeats 4000000 in
theorem hX1_stepOn_40 {p : Program} {l : Launch} {e : Env} {s : State} {m : MethodId} {args : Array Value} {below : List Frame} {meth : Method} {c : Code} {g : zG} {A : Nat → Prop} {τ : zS} {res : zS} (C : zCx p s m args meth c cX1_stepOn none wsX1_stepOn RX1 6) (E : zE g A s) (N : Nat) (k_66 : Int32 → Int32 → Int32 → zS → Option (zS)) (hk_66 : PX1_stepOn_66 p l e s m args below meth c g A τ res k_66) : ∀ n : Nat, PX1_stepOn_40 p l e s m args below meth c g A τ res (fX1_stepOn_40 N k_66 n) := by
  obtain ⟨hx, hb, hr, hml, hown, hts, hlocks⟩ := id C
  intro n
  induction n with
  | zero =>
    intro x1 x2 x3 σ H locs ls hf
    exact absurd hf (by simp [fX1_stepOn_40])
  | succ n ih =>
    intro x1 x2 x3 σ H locs ls hf hh hl
    rw [fX1_stepOn_40] at hf
    refine lv_iload_n hx hb dX1_stepOn_40 rfl (lv_at hl 3 rfl) ?_
    refine lv_iload_n hx hb dX1_stepOn_41 rfl (lv_at hl 2 rfl) ?_
    refine lv_icmp_le (tgt := 66) hx hb dX1_stepOn_42 (by decide) (fun c_v1 => ?_) (fun c_v1 => ?_)
    · have hf := z_ip hf c_v1
      exact hk_66 x1 x2 x3 σ _ _ _ hf hh (lv_sub hl [0, 1, 2, 3] rfl)
    · have hf := z_in hf c_v1
      refine lv_aload_n hx hb dX1_stepOn_45 rfl (lv_at hl 0 rfl) ?_
      refine z_get (v := .ref (g.2.2 30)) hx hb hts (fun w h => List.mem_cons_of_mem _ (List.mem_append_right _ (h))) hown E hh (by decide) (zC_obj (q := 53) rfl) rfl 0 (by decide) (hts (.fieldLink RX1 9 "TownBand$Orders" "row" "[I") (List.mem_cons_of_mem _ (List.mem_append_left _ (List.mem_of_getElem? (i := 0) rfl)))) rfl dX1_stepOn_46 ?_
      refine lv_iload_n hx hb dX1_stepOn_49 rfl (lv_at hl 3 rfl) ?_
      obtain ⟨h_v2, hf⟩ := z_if hf
      obtain ⟨v3, e_v3, hf⟩ := z_lt hf
      refine z_iald hx hb E hh (by decide) h_v2 e_v3 dX1_stepOn_50 ?_
      refine lv_aload_n hx hb dX1_stepOn_51 rfl (lv_at hl 0 rfl) ?_
      refine z_get (v := .ref (g.2.2 30)) hx hb hts (fun w h => List.mem_cons_of_mem _ (List.mem_append_right _ (h))) hown E hh (by decide) (zC_obj (q := 53) rfl) rfl 0 (by decide) (hts (.fieldLink RX1 9 "TownBand$Orders" "row" "[I") (List.mem_cons_of_mem _ (List.mem_append_left _ (List.mem_of_getElem? (i := 0) rfl)))) rfl dX1_stepOn_52 ?_
      refine lv_iload_n hx hb dX1_stepOn_55 rfl (lv_at hl 2 rfl) ?_
      obtain ⟨h_v4, hf⟩ := z_if hf
      obtain ⟨v5, e_v5, hf⟩ := z_lt hf
      refine z_iald hx hb E hh (by decide) h_v4 e_v5 dX1_stepOn_56 ?_
      refine lv_icmp_ge (tgt := 66) hx hb dX1_stepOn_57 (by decide) (fun c_v6 => ?_) (fun c_v6 => ?_)
      · have hf := z_ip hf c_v6
        exact hk_66 x1 x2 x3 σ _ _ _ hf hh (lv_sub hl [0, 1, 2, 3] rfl)
      · have hf := z_in hf c_v6
        refine lv_iinc (v := (x3 + (-1))) (lv' := [(3, .int (x3 + (-1))), (0, .ref (g.2.2 53)), (1, .int x1), (2, .int x2)]) hx hb dX1_stepOn_60 hl (k := 3) rfl rfl (by decide) rfl (fun ls hl => ?_)
        refine lv_goto (tgt := 40) hx hb dX1_stepOn_63 (by decide) ?_
        exact ih x1 x2 (x3 + (-1)) σ _ _ _ hf hh (lv_sub hl [1, 2, 3, 0] rfl)
def fX1_stepOn_31 (N : Nat) (x1 : Int32) (x2 : Int32) (σ : zS) : Option (zS) :=
  if 0 ≤ x2 then
    zlet (x1 - (nI 1)) fun v2 =>
    (fX1_stepOn_40 N (fX1_stepOn_66 N) N) x1 x2 v2 σ
  else
    some σ
set_option maxRecDepth 100000 in
set_option maxHeartbeats 4000000 in
theorem hX1_stepOn_31 {p : Program} {l : Launch} {e : Env} {s : State} {m : MethodId} {args : Array Value} {below : List Frame} {meth : Method} {c : Code} {g : zG} {A : Nat → Prop} {τ : zS} {res : zS} (C : zCx p s m args meth c cX1_stepOn none wsX1_stepOn RX1 6) (E : zE g A s) (N : Nat) : PX1_stepOn_31 p l e s m args below meth c g A τ res (fX1_stepOn_31 N) := by
  obtain ⟨hx, hb, hr, hml, hown, hts, hlocks⟩ := id C
  intro x1 x2 σ H locs ls hf hh hl
  unfold fX1_stepOn_31 at hf
  refine lv_iload_n hx hb dX1_stepOn_31 rfl (lv_at hl 2 rfl) ?_
  refine lv_if_ge (tgt := 36) hx hb dX1_stepOn_32 (by decide) (fun c_v1 => ?_) (fun c_v1 => ?_)
  · have hf := z_ip hf c_v1
    refine lv_iload_n hx hb dX1_stepOn_36 rfl (lv_at hl 1 rfl) ?_
    refine lv_iconst (v := (nI 1)) hx hb dX1_stepOn_37 (by decide) ?_
    refine lv_isub hx hb dX1_stepOn_38 ?_
    obtain ⟨v2, e_v2, hf⟩ := z_lt hf
    refine z_topi e_v2 ?_
    refine lv_istore_n (lv' := [(3, .int v2), (0, .ref (g.2.2 53)), (1, .int x1), (2, .int x2)]) hx hb dX1_stepOn_39 rfl hl (by decide) rfl (fun ls hl => ?_)
    exact (hX1_stepOn_40 C E N (fX1_stepOn_66 N) (hX1_stepOn_66 C E N) N) x1 x2 v2 σ _ _ _ hf hh (lv_sub hl [1, 2, 3, 0] rfl)
  · have hf := z_in hf c_v1
    have hf := Option.some.inj hf
    subst hf
    exact z_vretX hx hb hr hlocks hh dX1_stepOn_35
def fX1_stepOn_4 (N : Nat) (k_31 : Int32 → Int32 → zS → Option (zS)) : Nat → Int32 → Int32 → zS → Option (zS)
  | 0, _, _, _ => none
  | n + 1, x1, x2, σ =>
    if x2 < 0 then
      k_31 x1 x2 σ
    else
      if zin x2 (zlen 30) then
      zlet (σ.2 30 x2.toNatClampNeg) fun v3 =>
      if zin (x2 + (nI 1)) (zlen 30) then
      zlet (σ.2 30 (x2 + (nI 1)).toNatClampNeg) fun v5 =>
      if v3 ≤ v5 then
        k_31 x1 x2 σ
      else
        (fX1_stepOn_4 N k_31 n) x1 (x2 + (-1)) σ
      else none
      else none
set_option maxRecDepth 100000 in
set_option maxHeartbeats 4000000 in
theorem hX1_stepOn_4 {p : Program} {l : Launch} {e : Env} {s : State} {m : MethodId} {args : Array Value} {below : List Frame} {meth : Method} {c : Code} {g : zG} {A : Nat → Prop} {τ : zS} {res : zS} (C : zCx p s m args meth c cX1_stepOn none wsX1_stepOn RX1 6) (E : zE g A s) (N : Nat) (k_31 : Int32 → Int32 → zS → Option (zS)) (hk_31 : PX1_stepOn_31 p l e s m args below meth c g A τ res k_31) : ∀ n : Nat, PX1_stepOn_4 p l e s m args below meth c g A τ res (fX1_stepOn_4 N k_31 n) := by
  obtain ⟨hx, hb, hr, hml, hown, hts, hlocks⟩ := id C
  intro n
  induction n with
  | zero =>
    intro x1 x2 σ H locs ls hf
    exact absurd hf (by simp [fX1_stepOn_4])
  | succ n ih =>
    intro x1 x2 σ H locs ls hf hh hl
    rw [fX1_stepOn_4] at hf
    refine lv_iload_n hx hb dX1_stepOn_4 rfl (lv_at hl 2 rfl) ?_
    refine lv_if_lt (tgt := 31) hx hb dX1_stepOn_5 (by decide) (fun c_v1 => ?_) (fun c_v1 => ?_)
    · have hf := z_ip hf c_v1
      exact hk_31 x1 x2 σ _ _ _ hf hh (lv_sub hl [0, 1, 2] rfl)
    · have hf := z_in hf c_v1
      refine lv_aload_n hx hb dX1_stepOn_8 rfl (lv_at hl 0 rfl) ?_
      refine z_get (v := .ref (g.2.2 30)) hx hb hts (fun w h => List.mem_cons_of_mem _ (List.mem_append_right _ (h))) hown E hh (by decide) (zC_obj (q := 53) rfl) rfl 0 (by decide) (hts (.fieldLink RX1 9 "TownBand$Orders" "row" "[I") (List.mem_cons_of_mem _ (List.mem_append_left _ (List.mem_of_getElem? (i := 0) rfl)))) rfl dX1_stepOn_9 ?_
      refine lv_iload_n hx hb dX1_stepOn_12 rfl (lv_at hl 2 rfl) ?_
      obtain ⟨h_v2, hf⟩ := z_if hf
      obtain ⟨v3, e_v3, hf⟩ := z_lt hf
      refine z_iald hx hb E hh (by decide) h_v2 e_v3 dX1_stepOn_13 ?_
      refine lv_aload_n hx hb dX1_stepOn_14 rfl (lv_at hl 0 rfl) ?_
      refine z_get (v := .ref (g.2.2 30)) hx hb hts (fun w h => List.mem_cons_of_mem _ (List.mem_append_right _ (h))) hown E hh (by decide) (zC_obj (q := 53) rfl) rfl 0 (by decide) (hts (.fieldLink RX1 9 "TownBand$Orders" "row" "[I") (List.mem_cons_of_mem _ (List.mem_append_left _ (List.mem_of_getElem? (i := 0) rfl)))) rfl dX1_stepOn_15 ?_
      refine lv_iload_n hx hb dX1_stepOn_18 rfl (lv_at hl 2 rfl) ?_
      refine lv_iconst (v := (nI 1)) hx hb dX1_stepOn_19 (by decide) ?_
      refine lv_iadd hx hb dX1_stepOn_20 ?_
      obtain ⟨h_v4, hf⟩ := z_if hf
      obtain ⟨v5, e_v5, hf⟩ := z_lt hf
      refine z_iald hx hb E hh (by decide) h_v4 e_v5 dX1_stepOn_21 ?_
      refine lv_icmp_le (tgt := 31) hx hb dX1_stepOn_22 (by decide) (fun c_v6 => ?_) (fun c_v6 => ?_)
      · have hf := z_ip hf c_v6
        exact hk_31 x1 x2 σ _ _ _ hf hh (lv_sub hl [0, 1, 2] rfl)
      · have hf := z_in hf c_v6
        refine lv_iinc (v := (x2 + (-1))) (lv' := [(2, .int (x2 + (-1))), (0, .ref (g.2.2 53)), (1, .int x1)]) hx hb dX1_stepOn_25 hl (k := 2) rfl rfl (by decide) rfl (fun ls hl => ?_)
        refine lv_goto (tgt := 4) hx hb dX1_stepOn_28 (by decide) ?_
        exact ih x1 (x2 + (-1)) σ _ _ _ hf hh (lv_sub hl [1, 2, 0] rfl)
def fX1_stepOn (N : Nat) (σ : zS) (x1 : Int32) : Option (zS) :=
  zlet (x1 - (nI 2)) fun v1 =>
  (fX1_stepOn_4 N (fX1_stepOn_31 N) N) x1 v1 σ
set_option maxRecDepth 100000 in
set_option maxHeartbeats 4000000 in
theorem zcX1_stepOn (l : Launch) (g : zG) (A : Nat → Prop) (σ τ : zS) (N : Nat) (x1 : Int32)  {res : zS} (hf : fX1_stepOn N σ x1 = some res) : Met l yX1_stepOn wsX1_stepOn (zR 1) (zPc g A σ τ [.ref (g.2.2 53), .int x1]) (zQv g A τ res) 0 0 A := by
  refine z_met (cc := cX1_stepOn) (ret := none) (own := RX1) (by decide) rfl rfl _ (Nat.le_of_ble_eq_true rfl) ?_
  intro p e s m below meth c C E ls hl hh
  have hl : lv_has ls 6 [(0, .ref (g.2.2 53)), (1, .int x1)] := hl
  obtain ⟨hx, hb, hr, hml, hown, hts, hlocks⟩ := id C
  unfold fX1_stepOn at hf
  refine lv_iload_n hx hb dX1_stepOn_0 rfl (lv_at hl 1 rfl) ?_
  refine lv_iconst (v := (nI 2)) hx hb dX1_stepOn_1 (by decide) ?_
  refine lv_isub hx hb dX1_stepOn_2 ?_
  obtain ⟨v1, e_v1, hf⟩ := z_lt hf
  refine z_topi e_v1 ?_
  refine lv_istore_n (lv' := [(2, .int v1), (0, .ref (g.2.2 53)), (1, .int x1)]) hx hb dX1_stepOn_3 rfl hl (by decide) rfl (fun ls hl => ?_)
  exact (hX1_stepOn_4 C E N (fX1_stepOn_31 N) (hX1_stepOn_31 C E N) N) x1 v1 σ _ _ _ hf hh (lv_sub hl [1, 2, 0] rfl)
/-! ===== X1_seekWorst ===== -/
theorem hdX1_seekWorst : yX1_seekWorst.cls = RX1 ∧ yX1_seekWorst.cls ≠ "java/lang/invoke/MethodHandle" ∧ yX1_seekWorst.cls ≠ "java/lang/invoke/VarHandle" ∧ (parseMethodDescriptor yX1_seekWorst.desc).map (fun d => d.parameters.length) = some 1 := by decide +kernel
def PX1_seekWorst_74 (p : Program) (l : Launch) (e : Env) (s : State) (m : MethodId) (args : Array Value) (below : List Frame) (meth : Method) (c : Code) (g : zG) (A : Nat → Prop) (τ : zS) (res : zS) (f : Nat → Int32 → Int32 → zS → Option (zS)) : Prop := ∀ (b1 : Nat) (x2 : Int32) (x3 : Int32) (h1_b1 : 42 ≤ b1) (h2_b1 : b1 < 46) (σ : zS) (H : Heap) (locs : List Loc) (ls : Array Slot), f b1 x2 x3 σ = some res → zW g A σ τ s H locs → lv_has ls 5 [(0, .ref (g.2.2 53)), (1, .ref (g.2.2 b1)), (2, .int x2), (3, .int x3)] → W p l e (zR 3) s m args below meth c H locs 0 0 (MQ below (zQv g A τ res) args s 0 0 A) (F0 m 74 ls [])
def PX1_seekWorst_22 (p : Program) (l : Launch) (e : Env) (s : State) (m : MethodId) (args : Array Value) (below : List Frame) (meth : Method) (c : Code) (g : zG) (A : Nat → Prop) (τ : zS) (res : zS) (f : Nat → Int32 → Int32 → zS → Option (zS)) : Prop := ∀ (b1 : Nat) (x2 : Int32) (x3 : Int32) (h1_b1 : 42 ≤ b1) (h2_b1 : b1 < 46) (σ : zS) (H : Heap) (locs : List Loc) (ls : Array Slot), f b1 x2 x3 σ = some res → zW g A σ τ s H locs → lv_has ls 5 [(0, .ref (g.2.2 53)), (1, .ref (g.2.2 b1)), (2, .int x2), (3, .int x3)] → W p l e (zR 3) s m args below meth c H locs 0 0 (MQ below (zQv g A τ res) args s 0 0 A) (F0 m 22 ls [])
def fX1_seekWorst_74 (N : Nat) (rc : Nat → Int32 → Int32 → zS → Option (zS)) (b1 : Nat) (x2 : Int32) (x3 : Int32) (σ : zS) : Option (zS) :=
  (fX1_stepOn N σ (σ.1 b1 6)).bind fun q1 =>
  rc b1 x2 (x3 + (nI 1)) q1
set_option maxRecDepth 100000 in
set_option maxHeartbeats 4000000 in
theorem hX1_seekWorst_74 {p : Program} {l : Launch} {e : Env} {s : State} {m : MethodId} {args : Array Value} {below : List Frame} {meth : Method} {c : Code} {g : zG} {A : Nat → Prop} {τ : zS} {res : zS} (C : zCx p s m args meth c cX1_seekWorst none wsX1_seekWorst RX1 5) (E : zE g A s) (N : Nat) (rc : Nat → Int32 → Int32 → zS → Option (zS)) (hrc : PX1_seekWorst_22 p l e s m args below meth c g A τ res rc) : PX1_seekWorst_74 p l e s m args below meth c g A τ res (fX1_seekWorst_74 N rc) := by
  obtain ⟨hx, hb, hr, hml, hown, hts, hlocks⟩ := id C
  intro b1 x2 x3 h1_b1 h2_b1 σ H locs ls hf hh hl
  unfold fX1_seekWorst_74 at hf
  refine lv_aload_n hx hb dX1_seekWorst_74 rfl (lv_at hl 0 rfl) ?_
  refine lv_aload_n hx hb dX1_seekWorst_75 rfl (lv_at hl 1 rfl) ?_
  refine z_getN (v := .int (σ.1 b1 6)) hx hb hts (fun w h => List.mem_cons_of_mem _ (List.mem_append_right _ (h))) hown E hh (Nat.lt_trans (m := 46) h2_b1 (by decide)) (zC_band h1_b1 h2_b1) rfl 6 (by decide) (zE_f E 14 rfl) rfl dX1_seekWorst_76 ?_
  obtain ⟨q1, h_q1, hf⟩ := z_bd hf
  refine z_xv (va_runV (As := [.int (σ.1 b1 6)]) (rest := []) ⟨hx, hb, hml, hown, hts⟩ (zcX1_stepOn l g A σ τ N (σ.1 b1 6) h_q1) (cwV 1 hts gX1_seekWorst_X1_stepOn rfl rfl rfl hdX1_stepOn ⟨by decide, by decide⟩) (z_preV E hh (by decide) (zC_obj (q := 53) rfl) rfl) rfl rfl hl.1 rfl (lv_room (Nat.le_of_ble_eq_true rfl)) dX1_seekWorst_79 ⟨Nat.le_refl _, Nat.le_refl _⟩) hh (fun H locs hh => ?_)
  refine lv_iinc (v := (x3 + (nI 1))) (lv' := [(3, .int (x3 + (nI 1))), (0, .ref (g.2.2 53)), (1, .ref (g.2.2 b1)), (2, .int x2)]) hx hb dX1_seekWorst_82 hl (k := 3) rfl rfl (by decide) rfl (fun ls hl => ?_)
  refine lv_goto (tgt := 22) hx hb dX1_seekWorst_85 (by decide) ?_
  exact hrc b1 x2 (x3 + (nI 1)) h1_b1 h2_b1 q1 _ _ _ hf hh (lv_sub hl [1, 2, 3, 0] rfl)
def fX1_seekWorst_22 (N : Nat) : Nat → Nat → Int32 → Int32 → zS → Option (zS)
  | 0, _, _, _, _ => none
  | n + 1, b1, x2, x3, σ =>
    if x2 ≤ x3 then
      some σ
    else
      (fX0_metOn N σ b1 30).bind fun q2 =>
      (fX0_hurtBehind N σ b1 30 q2).bind fun q3 =>
      if q3 ≤ (σ.1 53 5) then
        (fX1_seekWorst_74 N (fX1_seekWorst_22 N n)) b1 x2 x3 σ
      else
        zlet (zpf σ 53 5 q3) fun σ5 =>
        if ¬ ((nI 0) : Int32) < 0 ∧ ¬ ((nI 0) : Int32) < 0 ∧ ¬ ((nI 5) : Int32) < 0 ∧ (nI 0).toNatClampNeg + (nI 5).toNatClampNeg ≤ zlen 30 ∧ (nI 0).toNatClampNeg + (nI 5).toNatClampNeg ≤ zlen 31 then
        zlet (zpa σ5 31 (va_cpy (σ5.2 30) (σ5.2 31) (nI 0).toNatClampNeg (nI 0).toNatClampNeg (nI 5).toNatClampNeg)) fun σ7 =>
        (fX1_seekWorst_74 N (fX1_seekWorst_22 N n)) b1 x2 x3 σ7
        else none
set_option maxRecDepth 100000 in
set_option maxHeartbeats 4000000 in
theorem hX1_seekWorst_22 {p : Program} {l : Launch} {e : Env} {s : State} {m : MethodId} {args : Array Value} {below : List Frame} {meth : Method} {c : Code} {g : zG} {A : Nat → Prop} {τ : zS} {res : zS} (C : zCx p s m args meth c cX1_seekWorst none wsX1_seekWorst RX1 5) (E : zE g A s) (N : Nat) : ∀ n : Nat, PX1_seekWorst_22 p l e s m args below meth c g A τ res (fX1_seekWorst_22 N n) := by
  obtain ⟨hx, hb, hr, hml, hown, hts, hlocks⟩ := id C
  intro n
  induction n with
  | zero =>
    intro b1 x2 x3 h1_b1 h2_b1 σ H locs ls hf
    exact absurd hf (by simp [fX1_seekWorst_22])
  | succ n ih =>
    intro b1 x2 x3 h1_b1 h2_b1 σ H locs ls hf hh hl
    rw [fX1_seekWorst_22] at hf
    refine lv_iload_n hx hb dX1_seekWorst_22 rfl (lv_at hl 3 rfl) ?_
    refine lv_iload_n hx hb dX1_seekWorst_23 rfl (lv_at hl 2 rfl) ?_
    refine lv_icmp_ge (tgt := 88) hx hb dX1_seekWorst_24 (by decide) (fun c_v1 => ?_) (fun c_v1 => ?_)
    · have hf := z_ip hf c_v1
      have hf := Option.some.inj hf
      subst hf
      exact z_vretX hx hb hr hlocks hh dX1_seekWorst_88
    · have hf := z_in hf c_v1
      refine lv_aload_n hx hb dX1_seekWorst_27 rfl (lv_at hl 1 rfl) ?_
      refine lv_aload_n hx hb dX1_seekWorst_28 rfl (lv_at hl 0 rfl) ?_
      refine z_get (v := .ref (g.2.2 30)) hx hb hts (fun w h => List.mem_cons_of_mem _ (List.mem_append_left _ (List.mem_append_right _ (h)))) hown E hh (by decide) (zC_obj (q := 53) rfl) rfl 0 (by decide) (hts (.fieldLink RX1 9 "TownBand$Orders" "row" "[I") (List.mem_cons_of_mem _ (List.mem_append_left _ (List.mem_append_left _ (List.mem_append_left _ (List.mem_of_getElem? (i := 0) rfl)))))) rfl dX1_seekWorst_29 ?_
      refine lv_aload_n hx hb dX1_seekWorst_32 rfl (lv_at hl 1 rfl) ?_
      refine lv_aload_n hx hb dX1_seekWorst_33 rfl (lv_at hl 0 rfl) ?_
      refine z_get (v := .ref (g.2.2 30)) hx hb hts (fun w h => List.mem_cons_of_mem _ (List.mem_append_left _ (List.mem_append_right _ (h)))) hown E hh (by decide) (zC_obj (q := 53) rfl) rfl 0 (by decide) (hts (.fieldLink RX1 9 "TownBand$Orders" "row" "[I") (List.mem_cons_of_mem _ (List.mem_append_left _ (List.mem_append_left _ (List.mem_append_left _ (List.mem_of_getElem? (i := 0) rfl)))))) rfl dX1_seekWorst_34 ?_
      obtain ⟨q2, h_q2, hf⟩ := z_bd hf
      refine z_xi (va_runVN (As := [.ref (g.2.2 30)]) (rest := [.ref (g.2.2 30), .ref (g.2.2 b1)]) ⟨hx, hb, hml, hown, hts⟩ (zcX0_metOn l g A σ τ N b1 30 h1_b1 h2_b1 (by decide) h_q2) ⟨va_cnB 1 hts gX1_seekWorst_X0_metOn_n41 rfl rfl rfl (zE_m E 35 rfl) (hts (.initialized RX0) (List.mem_cons_of_mem _ (List.mem_append_left _ (List.mem_append_left _ (List.mem_append_left _ (List.mem_of_getElem? (i := 13) rfl)))))) hdX0_metOn.2 ⟨by decide, by decide⟩, (hts (.instanceMethod yX0_metOn) (List.mem_cons_of_mem _ (List.mem_append_left _ (List.mem_append_left _ (List.mem_append_left _ (List.mem_of_getElem? (i := 12) rfl)))))), (hts (.selects RX0 yX0_metOn yX0_metOn) (List.mem_cons_of_mem _ (List.mem_append_left _ (List.mem_append_left _ (List.mem_append_left _ (List.mem_of_getElem? (i := 14) rfl))))))⟩ (z_preV E hh (Nat.lt_trans (m := 46) h2_b1 (by decide)) (zC_band h1_b1 h2_b1) rfl) rfl rfl hl.1 rfl (lv_room (Nat.le_of_ble_eq_true rfl)) dX1_seekWorst_37 ⟨Nat.le_refl _, Nat.le_refl _⟩) hh (fun H locs hh => ?_)
      obtain ⟨q3, h_q3, hf⟩ := z_bd hf
      refine z_xi (va_runVN (As := [.ref (g.2.2 30), .int q2]) (rest := []) ⟨hx, hb, hml, hown, hts⟩ (zcX0_hurtBehind l g A σ τ N b1 30 q2 h1_b1 h2_b1 (by decide) h_q3) ⟨va_cnB 2 hts gX1_seekWorst_X0_hurtBehind_n45 rfl rfl rfl (zE_m E 36 rfl) (hts (.initialized RX0) (List.mem_cons_of_mem _ (List.mem_append_left _ (List.mem_append_left _ (List.mem_append_left _ (List.mem_of_getElem? (i := 13) rfl)))))) hdX0_hurtBehind.2 ⟨by decide, by decide⟩, (hts (.instanceMethod yX0_hurtBehind) (List.mem_cons_of_mem _ (List.mem_append_left _ (List.mem_append_left _ (List.mem_append_right _ (List.mem_of_getElem? (i := 2) rfl)))))), (hts (.selects RX0 yX0_hurtBehind yX0_hurtBehind) (List.mem_cons_of_mem _ (List.mem_append_left _ (List.mem_append_left _ (List.mem_append_right _ (List.mem_of_getElem? (i := 3) rfl))))))⟩ (z_preV E hh (Nat.lt_trans (m := 46) h2_b1 (by decide)) (zC_band h1_b1 h2_b1) rfl) rfl rfl hl.1 rfl (lv_room (Nat.le_of_ble_eq_true rfl)) dX1_seekWorst_40 ⟨Nat.le_refl _, Nat.le_refl _⟩) hh (fun H locs hh => ?_)
      refine lv_istore (lv' := [(4, .int q3), (0, .ref (g.2.2 53)), (1, .ref (g.2.2 b1)), (2, .int x2), (3, .int x3)]) hx hb dX1_seekWorst_43 hl (by decide) rfl (fun ls hl => ?_)
      refine lv_iload hx hb dX1_seekWorst_45 (lv_at hl 0 rfl) ?_
      refine lv_aload_n hx hb dX1_seekWorst_47 rfl (lv_at hl 1 rfl) ?_
      refine z_get (v := .int (σ.1 53 5)) hx hb hts (fun w h => List.mem_cons_of_mem _ (List.mem_append_left _ (List.mem_append_right _ (h)))) hown E hh (by decide) (zC_obj (q := 53) rfl) rfl 5 (by decide) (hts (.fieldLink RX1 28 "TownBand$Orders" "worstHurt" "I") (List.mem_cons_of_mem _ (List.mem_append_left _ (List.mem_append_left _ (List.mem_append_left _ (List.mem_of_getElem? (i := 1) rfl)))))) rfl dX1_seekWorst_48 ?_
      refine lv_icmp_le (tgt := 74) hx hb dX1_seekWorst_51 (by decide) (fun c_v4 => ?_) (fun c_v4 => ?_)
      · have hf := z_ip hf c_v4
        exact (hX1_seekWorst_74 C E N (fX1_seekWorst_22 N n) ih) b1 x2 x3 h1_b1 h2_b1 σ _ _ _ hf hh (lv_sub hl [1, 2, 3, 4] rfl)
      · have hf := z_in hf c_v4
        refine lv_aload_n hx hb dX1_seekWorst_54 rfl (lv_at hl 1 rfl) ?_
        refine lv_iload hx hb dX1_seekWorst_55 (lv_at hl 0 rfl) ?_
        obtain ⟨σ5, e_σ5, hf⟩ := z_lt hf
        refine z_put hx hb hts (fun w h => List.mem_cons_of_mem _ (List.mem_append_left _ (List.mem_append_right _ (h)))) tyX1 tyX1_ok nmX1 hown E hh (by decide) (show zD 53 = _ from rfl) rfl 5 (by decide) rfl (hts (.fieldLink RX1 28 "TownBand$Orders" "worstHurt" "I") (List.mem_cons_of_mem _ (List.mem_append_left _ (List.mem_append_left _ (List.mem_append_left _ (List.mem_of_getElem? (i := 1) rfl)))))) rfl rfl e_σ5 dX1_seekWorst_57 (fun H locs hh => ?_)
        refine lv_aload_n hx hb dX1_seekWorst_60 rfl (lv_at hl 1 rfl) ?_
        refine z_get (v := .ref (g.2.2 30)) hx hb hts (fun w h => List.mem_cons_of_mem _ (List.mem_append_left _ (List.mem_append_right _ (h)))) hown E hh (by decide) (zC_obj (q := 53) rfl) rfl 0 (by decide) (hts (.fieldLink RX1 9 "TownBand$Orders" "row" "[I") (List.mem_cons_of_mem _ (List.mem_append_left _ (List.mem_append_left _ (List.mem_append_left _ (List.mem_of_getElem? (i := 0) rfl)))))) rfl dX1_seekWorst_61 ?_
        refine lv_iconst (v := (nI 0)) hx hb dX1_seekWorst_64 (by decide) ?_
        refine lv_aload_n hx hb dX1_seekWorst_65 rfl (lv_at hl 1 rfl) ?_
        refine z_get (v := .ref (g.2.2 31)) hx hb hts (fun w h => List.mem_cons_of_mem _ (List.mem_append_left _ (List.mem_append_right _ (h)))) hown E hh (by decide) (zC_obj (q := 53) rfl) rfl 1 (by decide) (hts (.fieldLink RX1 15 "TownBand$Orders" "first" "[I") (List.mem_cons_of_mem _ (List.mem_append_left _ (List.mem_append_left _ (List.mem_append_left _ (List.mem_of_getElem? (i := 2) rfl)))))) rfl dX1_seekWorst_66 ?_
        refine lv_iconst (v := (nI 0)) hx hb dX1_seekWorst_69 (by decide) ?_
        refine lv_iconst (v := (nI 5)) hx hb dX1_seekWorst_70 (by decide) ?_
        obtain ⟨h_v6, hf⟩ := z_if hf
        obtain ⟨σ7, e_σ7, hf⟩ := z_lt hf
        refine z_copy hx hb (hml.trans hl.1.symm) hown (hts (.methodLink RX1 49 arraycopyName) (List.mem_cons_of_mem _ (List.mem_append_left _ (List.mem_append_left _ (List.mem_append_left _ (List.mem_of_getElem? (i := 3) rfl)))))) (hts (.native arraycopyName) (List.mem_cons_of_mem _ (List.mem_append_left _ (List.mem_append_left _ (List.mem_append_left _ (List.mem_of_getElem? (i := 4) rfl)))))) (hts (.static arraycopyName) (List.mem_cons_of_mem _ (List.mem_append_left _ (List.mem_append_left _ (List.mem_append_left _ (List.mem_of_getElem? (i := 5) rfl)))))) (hts (.initialized "java/lang/System") (List.mem_cons_of_mem _ (List.mem_append_left _ (List.mem_append_left _ (List.mem_append_left _ (List.mem_of_getElem? (i := 6) rfl)))))) E hh (by decide) (by decide) h_v6 e_σ7 (by decide) (Nat.le_of_ble_eq_true rfl) dX1_seekWorst_71 (fun H locs hh => ?_)
        exact (hX1_seekWorst_74 C E N (fX1_seekWorst_22 N n) ih) b1 x2 x3 h1_b1 h2_b1 σ7 _ _ _ hf hh (lv_sub hl [1, 2, 3, 4] rfl)
def fX1_seekWorst (N : Nat) (σ : zS) (b1 : Nat) : Option (zS) :=
  (fX6_fillByOrder N σ 30).bind fun q1 =>
  zlet (zpf q1 53 5 (-1)) fun σ2 =>
  (fX6_factorial N (σ2.1 b1 6)).bind fun q3 =>
  (fX1_seekWorst_22 N N) b1 q3 (nI 0) σ2
set_option maxRecDepth 100000 in
set_option maxHeartbeats 4000000 in
theorem zcX1_seekWorst (l : Launch) (g : zG) (A : Nat → Prop) (σ τ : zS) (N : Nat) (b1 : Nat) (h1_b1 : 42 ≤ b1) (h2_b1 : b1 < 46) {res : zS} (hf : fX1_seekWorst N σ b1 = some res) : Met l yX1_seekWorst wsX1_seekWorst (zR 3) (zPc g A σ τ [.ref (g.2.2 53), .ref (g.2.2 b1)]) (zQv g A τ res) 0 0 A := by
  refine z_met (cc := cX1_seekWorst) (ret := none) (own := RX1) (by decide) rfl rfl _ (Nat.le_of_ble_eq_true rfl) ?_
  intro p e s m below meth c C E ls hl hh
  have hl : lv_has ls 5 [(0, .ref (g.2.2 53)), (1, .ref (g.2.2 b1))] := hl
  obtain ⟨hx, hb, hr, hml, hown, hts, hlocks⟩ := id C
  unfold fX1_seekWorst at hf
  refine lv_aload_n hx hb dX1_seekWorst_0 rfl (lv_at hl 0 rfl) ?_
  refine z_get (v := .ref (g.2.2 30)) hx hb hts (fun w h => List.mem_cons_of_mem _ (List.mem_append_left _ (List.mem_append_right _ (h)))) hown E hh (by decide) (zC_obj (q := 53) rfl) rfl 0 (by decide) (hts (.fieldLink RX1 9 "TownBand$Orders" "row" "[I") (List.mem_cons_of_mem _ (List.mem_append_left _ (List.mem_append_left _ (List.mem_append_left _ (List.mem_of_getElem? (i := 0) rfl)))))) rfl dX1_seekWorst_1 ?_
  obtain ⟨q1, h_q1, hf⟩ := z_bd hf
  refine z_xv (va_runSN (As := [.ref (g.2.2 30)]) (rest := []) ⟨hx, hb, hml, hown, hts⟩ (zcX6_fillByOrder l g A σ τ N 30 (by decide) h_q1) ⟨va_cnB 1 hts gX1_seekWorst_X6_fillByOrder_n24 rfl rfl rfl (zE_m E 33 rfl) (hts (.initialized RX6) (List.mem_cons_of_mem _ (List.mem_append_left _ (List.mem_append_left _ (List.mem_append_left _ (List.mem_of_getElem? (i := 8) rfl)))))) hdX6_fillByOrder.2 ⟨by decide, by decide⟩, (hts (.static yX6_fillByOrder) (List.mem_cons_of_mem _ (List.mem_append_left _ (List.mem_append_left _ (List.mem_append_left _ (List.mem_of_getElem? (i := 7) rfl)))))), trivial⟩ (z_preS E hh) rfl rfl hl.1 rfl (lv_room (Nat.le_of_ble_eq_true rfl)) dX1_seekWorst_4 ⟨Nat.le_refl _, Nat.le_refl _⟩) hh (fun H locs hh => ?_)
  refine lv_aload_n hx hb dX1_seekWorst_7 rfl (lv_at hl 0 rfl) ?_
  refine lv_iconst (v := (-1)) hx hb dX1_seekWorst_8 (by decide) ?_
  obtain ⟨σ2, e_σ2, hf⟩ := z_lt hf
  refine z_put hx hb hts (fun w h => List.mem_cons_of_mem _ (List.mem_append_left _ (List.mem_append_right _ (h)))) tyX1 tyX1_ok nmX1 hown E hh (by decide) (show zD 53 = _ from rfl) rfl 5 (by decide) rfl (hts (.fieldLink RX1 28 "TownBand$Orders" "worstHurt" "I") (List.mem_cons_of_mem _ (List.mem_append_left _ (List.mem_append_left _ (List.mem_append_left _ (List.mem_of_getElem? (i := 1) rfl)))))) rfl rfl e_σ2 dX1_seekWorst_9 (fun H locs hh => ?_)
  refine lv_aload_n hx hb dX1_seekWorst_12 rfl (lv_at hl 1 rfl) ?_
  refine z_getN (v := .int (σ2.1 b1 6)) hx hb hts (fun w h => List.mem_cons_of_mem _ (List.mem_append_right _ (h))) hown E hh (Nat.lt_trans (m := 46) h2_b1 (by decide)) (zC_band h1_b1 h2_b1) rfl 6 (by decide) (zE_f E 14 rfl) rfl dX1_seekWorst_13 ?_
  obtain ⟨q3, h_q3, hf⟩ := z_bd hf
  refine z_xi (va_runSN (As := [.int (σ2.1 b1 6)]) (rest := []) ⟨hx, hb, hml, hown, hts⟩ (zcX6_factorial l g A σ2 τ N (σ2.1 b1 6) h_q3) ⟨va_cnB 1 hts gX1_seekWorst_X6_factorial_n37 rfl rfl rfl (zE_m E 34 rfl) (hts (.initialized RX6) (List.mem_cons_of_mem _ (List.mem_append_left _ (List.mem_append_left _ (List.mem_append_left _ (List.mem_of_getElem? (i := 8) rfl)))))) hdX6_factorial.2 ⟨by decide, by decide⟩, (hts (.static yX6_factorial) (List.mem_cons_of_mem _ (List.mem_append_left _ (List.mem_append_left _ (List.mem_append_left _ (List.mem_of_getElem? (i := 10) rfl)))))), trivial⟩ (z_preS E hh) rfl rfl hl.1 rfl (lv_room (Nat.le_of_ble_eq_true rfl)) dX1_seekWorst_16 ⟨Nat.le_refl _, Nat.le_refl _⟩) hh (fun H locs hh => ?_)
  refine lv_istore_n (lv' := [(2, .int q3), (0, .ref (g.2.2 53)), (1, .ref (g.2.2 b1))]) hx hb dX1_seekWorst_19 rfl hl (by decide) rfl (fun ls hl => ?_)
  refine lv_iconst (v := (nI 0)) hx hb dX1_seekWorst_20 (by decide) ?_
  refine lv_istore_n (lv' := [(3, .int (nI 0)), (2, .int q3), (0, .ref (g.2.2 53)), (1, .ref (g.2.2 b1))]) hx hb dX1_seekWorst_21 rfl hl (by decide) rfl (fun ls hl => ?_)
  exact (hX1_seekWorst_22 C E N N) b1 q3 (nI 0) h1_b1 h2_b1 σ2 _ _ _ hf hh (lv_sub hl [2, 3, 1, 0] rfl)
/-! ===== X1_isAsSeen ===== -/
theorem hdX1_isAsSeen : yX1_isAsSeen.cls = RX1 ∧ yX1_isAsSeen.cls ≠ "java/lang/invoke/MethodHandle" ∧ yX1_isAsSeen.cls ≠ "java/lang/invoke/VarHandle" ∧ (parseMethodDescriptor yX1_isAsSeen.desc).map (fun d => d.parameters.length) = some 2 := by decide +kernel
def PX1_isAsSeen_2 (p : Program) (l : Launch) (e : Env) (s : State) (m : MethodId) (args : Array Value) (below : List Frame) (meth : Method) (c : Code) (g : zG) (A : Nat → Prop) (σ τ : zS) (res : Int32) (f : Nat → Int32 → Option (Int32)) : Prop := ∀ (b1 : Nat) (x3 : Int32) (h1_b1 : 42 ≤ b1) (h2_b1 : b1 < 46) (H : Heap) (locs : List Loc) (ls : Array Slot), f b1 x3 = some res → zW g A σ τ s H locs → lv_has ls 5 [(0, .ref (g.2.2 53)), (1, .ref (g.2.2 b1)), (2, .ref (g.2.2 51)), (3, .int x3)] → W p l e (zR 3) s m args below meth c H locs 0 0 (MQ below (zQi g A τ (res, σ)) args s 0 0 A) (F0 m 2 ls [])
def fX1_isAsSeen_2 (N : Nat) (σ : zS) : Nat → Nat → Int32 → Option (Int32)
  | 0, _, _ => none
  | n + 1, b1, x3 =>
    if (σ.1 51 2) ≤ x3 then
      some 1
    else
      if zin x3 (zlen 25) then
      zlet (σ.2 25 x3.toNatClampNeg) fun v3 =>
      if (σ.1 b1 6) < v3 then
        some 0
      else
        (fX0_hurtBehind N σ b1 30 v3).bind fun q5 =>
        if zin x3 (zlen 26) then
        zlet (σ.2 26 x3.toNatClampNeg) fun v7 =>
        if q5 = v7 then
          (fX1_isAsSeen_2 N σ n) b1 (x3 + (nI 1))
        else
          some 0
        else none
      else none
set_option maxRecDepth 100000 in
set_option maxHeartbeats 4000000 in
theorem hX1_isAsSeen_2 {p : Program} {l : Launch} {e : Env} {s : State} {m : MethodId} {args : Array Value} {below : List Frame} {meth : Method} {c : Code} {g : zG} {A : Nat → Prop} {σ τ : zS} {res : Int32} (C : zCx p s m args meth c cX1_isAsSeen (some .boolean) wsX1_isAsSeen RX1 5) (E : zE g A s) (N : Nat) : ∀ n : Nat, PX1_isAsSeen_2 p l e s m args below meth c g A σ τ res (fX1_isAsSeen_2 N σ n) := by
  obtain ⟨hx, hb, hr, hml, hown, hts, hlocks⟩ := id C
  intro n
  induction n with
  | zero =>
    intro b1 x3 h1_b1 h2_b1 H locs ls hf
    exact absurd hf (by simp [fX1_isAsSeen_2])
  | succ n ih =>
    intro b1 x3 h1_b1 h2_b1 H locs ls hf hh hl
    rw [fX1_isAsSeen_2] at hf
    refine lv_iload_n hx hb dX1_isAsSeen_2 rfl (lv_at hl 3 rfl) ?_
    refine lv_aload_n hx hb dX1_isAsSeen_3 rfl (lv_at hl 2 rfl) ?_
    refine z_getN (v := .int (σ.1 51 2)) hx hb hts (fun w h => List.mem_cons_of_mem _ (List.mem_append_left _ (List.mem_append_left _ (List.mem_append_right _ (h))))) hown E hh (by decide) (zC_obj (q := 51) rfl) rfl 2 (by decide) (zE_f E 33 rfl) rfl dX1_isAsSeen_4 ?_
    refine lv_icmp_ge (tgt := 54) hx hb dX1_isAsSeen_7 (by decide) (fun c_v1 => ?_) (fun c_v1 => ?_)
    · have hf := z_ip hf c_v1
      refine lv_iconst (v := (nI 1)) hx hb dX1_isAsSeen_54 (by decide) ?_
      have hf := Option.some.inj hf
      subst hf
      exact z_zretX hx hb hr hlocks (Or.inr rfl) hh dX1_isAsSeen_55
    · have hf := z_in hf c_v1
      refine lv_aload_n hx hb dX1_isAsSeen_10 rfl (lv_at hl 2 rfl) ?_
      refine z_getN (v := .ref (g.2.2 25)) hx hb hts (fun w h => List.mem_cons_of_mem _ (List.mem_append_left _ (List.mem_append_left _ (List.mem_append_right _ (h))))) hown E hh (by decide) (zC_obj (q := 51) rfl) rfl 0 (by decide) (zE_f E 29 rfl) rfl dX1_isAsSeen_11 ?_
      refine lv_iload_n hx hb dX1_isAsSeen_14 rfl (lv_at hl 3 rfl) ?_
      obtain ⟨h_v2, hf⟩ := z_if hf
      obtain ⟨v3, e_v3, hf⟩ := z_lt hf
      refine z_iald hx hb E hh (by decide) h_v2 e_v3 dX1_isAsSeen_15 ?_
      refine lv_istore (lv' := [(4, .int v3), (0, .ref (g.2.2 53)), (1, .ref (g.2.2 b1)), (2, .ref (g.2.2 51)), (3, .int x3)]) hx hb dX1_isAsSeen_16 hl (by decide) rfl (fun ls hl => ?_)
      refine lv_iload hx hb dX1_isAsSeen_18 (lv_at hl 0 rfl) ?_
      refine lv_aload_n hx hb dX1_isAsSeen_20 rfl (lv_at hl 2 rfl) ?_
      refine z_getN (v := .int (σ.1 b1 6)) hx hb hts (fun w h => List.mem_cons_of_mem _ (List.mem_append_left _ (List.mem_append_right _ (h)))) hown E hh (Nat.lt_trans (m := 46) h2_b1 (by decide)) (zC_band h1_b1 h2_b1) rfl 6 (by decide) (zE_f E 14 rfl) rfl dX1_isAsSeen_21 ?_
      refine lv_icmp_gt (tgt := 46) hx hb dX1_isAsSeen_24 (by decide) (fun c_v4 => ?_) (fun c_v4 => ?_)
      · have hf := z_ip hf c_v4
        refine lv_iconst (v := (nI 0)) hx hb dX1_isAsSeen_46 (by decide) ?_
        have hf := Option.some.inj hf
        subst hf
        exact z_zretX hx hb hr hlocks (Or.inl rfl) hh dX1_isAsSeen_47
      · have hf := z_in hf c_v4
        refine lv_aload_n hx hb dX1_isAsSeen_27 rfl (lv_at hl 2 rfl) ?_
        refine lv_aload_n hx hb dX1_isAsSeen_28 rfl (lv_at hl 1 rfl) ?_
        refine z_get (v := .ref (g.2.2 30)) hx hb hts (fun w h => List.mem_cons_of_mem _ (List.mem_append_right _ (h))) hown E hh (by decide) (zC_obj (q := 53) rfl) rfl 0 (by decide) (hts (.fieldLink RX1 9 "TownBand$Orders" "row" "[I") (List.mem_cons_of_mem _ (List.mem_append_left _ (List.mem_append_left _ (List.mem_append_left _ (List.mem_of_getElem? (i := 0) rfl)))))) rfl dX1_isAsSeen_29 ?_
        refine lv_iload hx hb dX1_isAsSeen_32 (lv_at hl 0 rfl) ?_
        obtain ⟨q5, h_q5, hf⟩ := z_bd hf
        refine z_xi (va_runVN (As := [.ref (g.2.2 30), .int v3]) (rest := []) ⟨hx, hb, hml, hown, hts⟩ (zcX0_hurtBehind l g A σ τ N b1 30 v3 h1_b1 h2_b1 (by decide) h_q5) ⟨va_cnB 2 hts gX1_isAsSeen_X0_hurtBehind_n45 rfl rfl rfl (zE_m E 36 rfl) (hts (.initialized RX0) (List.mem_cons_of_mem _ (List.mem_append_left _ (List.mem_append_left _ (List.mem_append_left _ (List.mem_of_getElem? (i := 2) rfl)))))) hdX0_hurtBehind.2 ⟨by decide, by decide⟩, (hts (.instanceMethod yX0_hurtBehind) (List.mem_cons_of_mem _ (List.mem_append_left _ (List.mem_append_left _ (List.mem_append_left _ (List.mem_of_getElem? (i := 1) rfl)))))), (hts (.selects RX0 yX0_hurtBehind yX0_hurtBehind) (List.mem_cons_of_mem _ (List.mem_append_left _ (List.mem_append_left _ (List.mem_append_left _ (List.mem_of_getElem? (i := 3) rfl))))))⟩ (z_preV E hh (Nat.lt_trans (m := 46) h2_b1 (by decide)) (zC_band h1_b1 h2_b1) rfl) rfl rfl hl.1 rfl (lv_room (Nat.le_of_ble_eq_true rfl)) dX1_isAsSeen_34 ⟨Nat.le_refl _, Nat.le_refl _⟩) hh (fun H locs hh => ?_)
        refine lv_aload_n hx hb dX1_isAsSeen_37 rfl (lv_at hl 3 rfl) ?_
        refine z_getN (v := .ref (g.2.2 26)) hx hb hts (fun w h => List.mem_cons_of_mem _ (List.mem_append_left _ (List.mem_append_left _ (List.mem_append_right _ (h))))) hown E hh (by decide) (zC_obj (q := 51) rfl) rfl 1 (by decide) (zE_f E 31 rfl) rfl dX1_isAsSeen_38 ?_
        refine lv_iload_n hx hb dX1_isAsSeen_41 rfl (lv_at hl 4 rfl) ?_
        obtain ⟨h_v6, hf⟩ := z_if hf
        obtain ⟨v7, e_v7, hf⟩ := z_lt hf
        refine z_iald hx hb E hh (by decide) h_v6 e_v7 dX1_isAsSeen_42 ?_
        refine lv_icmp_eq (tgt := 48) hx hb dX1_isAsSeen_43 (by decide) (fun c_v8 => ?_) (fun c_v8 => ?_)
        · have hf := z_ip hf c_v8
          refine lv_iinc (v := (x3 + (nI 1))) (lv' := [(3, .int (x3 + (nI 1))), (4, .int v3), (0, .ref (g.2.2 53)), (1, .ref (g.2.2 b1)), (2, .ref (g.2.2 51))]) hx hb dX1_isAsSeen_48 hl (k := 4) rfl rfl (by decide) rfl (fun ls hl => ?_)
          refine lv_goto (tgt := 2) hx hb dX1_isAsSeen_51 (by decide) ?_
          exact ih b1 (x3 + (nI 1)) h1_b1 h2_b1 _ _ _ hf hh (lv_sub hl [2, 3, 4, 0] rfl)
        · have hf := z_in hf c_v8
          refine lv_iconst (v := (nI 0)) hx hb dX1_isAsSeen_46 (by decide) ?_
          have hf := Option.some.inj hf
          subst hf
          exact z_zretX hx hb hr hlocks (Or.inl rfl) hh dX1_isAsSeen_47
def fX1_isAsSeen (N : Nat) (σ : zS) (b1 : Nat) : Option (Int32) :=
  (fX1_isAsSeen_2 N σ N) b1 (nI 0)
set_option maxRecDepth 100000 in
set_option maxHeartbeats 4000000 in
theorem zcX1_isAsSeen (l : Launch) (g : zG) (A : Nat → Prop) (σ τ : zS) (N : Nat) (b1 : Nat) (h1_b1 : 42 ≤ b1) (h2_b1 : b1 < 46) {res : Int32} (hf : fX1_isAsSeen N σ b1 = some res) : Met l yX1_isAsSeen wsX1_isAsSeen (zR 3) (zPc g A σ τ [.ref (g.2.2 53), .ref (g.2.2 b1), .ref (g.2.2 51)]) (zQi g A τ (res, σ)) 0 0 A := by
  refine z_met (cc := cX1_isAsSeen) (ret := (some .boolean)) (own := RX1) (by decide) rfl rfl _ (Nat.le_of_ble_eq_true rfl) ?_
  intro p e s m below meth c C E ls hl hh
  have hl : lv_has ls 5 [(0, .ref (g.2.2 53)), (1, .ref (g.2.2 b1)), (2, .ref (g.2.2 51))] := hl
  obtain ⟨hx, hb, hr, hml, hown, hts, hlocks⟩ := id C
  unfold fX1_isAsSeen at hf
  refine lv_iconst (v := (nI 0)) hx hb dX1_isAsSeen_0 (by decide) ?_
  refine lv_istore_n (lv' := [(3, .int (nI 0)), (0, .ref (g.2.2 53)), (1, .ref (g.2.2 b1)), (2, .ref (g.2.2 51))]) hx hb dX1_isAsSeen_1 rfl hl (by decide) rfl (fun ls hl => ?_)
  exact (hX1_isAsSeen_2 C E N N) b1 (nI 0) h1_b1 h2_b1 _ _ _ hf hh (lv_sub hl [1, 2, 3, 0] rfl)
/-! ===== X1_enter ===== -/
theorem hdX1_enter : yX1_enter.cls = RX1 ∧ yX1_enter.cls ≠ "java/lang/invoke/MethodHandle" ∧ yX1_enter.cls ≠ "java/lang/invoke/VarHandle" ∧ (parseMethodDescriptor yX1_enter.desc).map (fun d => d.parameters.length) = some 1 := by decide +kernel
def PX1_enter_35 (p : Program) (l : Launch) (e : Env) (s : State) (m : MethodId) (args : Array Value) (below : List Frame) (meth : Method) (c : Code) (g : zG) (A : Nat → Prop) (τ : zS) (res : zS) (f : Nat → Int32 → Int32 → zS → Option (zS)) : Prop := ∀ (b1 : Nat) (x2 : Int32) (x3 : Int32) (h1_b1 : 42 ≤ b1) (h2_b1 : b1 < 46) (σ : zS) (H : Heap) (locs : List Loc) (ls : Array Slot), f b1 x2 x3 σ = some res → zW g A σ τ s H locs → lv_has ls 4 [(0, .ref (g.2.2 53)), (1, .ref (g.2.2 b1)), (2, .int x2), (3, .int x3)] → W p l e (zR 2) s m args below meth c H locs 0 0 (MQ below (zQv g A τ res) args s 0 0 A) (F0 m 35 ls [])
def PX1_enter_21 (p : Program) (l : Launch) (e : Env) (s : State) (m : MethodId) (args : Array Value) (below : List Frame) (meth : Method) (c : Code) (g : zG) (A : Nat → Prop) (τ : zS) (res : zS) (f : Nat → zS → Option (zS)) : Prop := ∀ (b1 : Nat) (h1_b1 : 42 ≤ b1) (h2_b1 : b1 < 46) (σ : zS) (H : Heap) (locs : List Loc) (ls : Array Slot), f b1 σ = some res → zW g A σ τ s H locs → lv_has ls 4 [(0, .ref (g.2.2 53)), (1, .ref (g.2.2 b1))] → W p l e (zR 2) s m args below meth c H locs 0 0 (MQ below (zQv g A τ res) args s 0 0 A) (F0 m 21 ls [])
def fX1_enter_35 (N : Nat) : Nat → Nat → Int32 → Int32 → zS → Option (zS)
  | 0, _, _, _, _ => none
  | n + 1, b1, x2, x3, σ =>
    if (σ.1 b1 6) ≤ x3 then
      some σ
    else
      if zin x3 (zlen 32) then
      zlet (σ.2 32 x3.toNatClampNeg) fun v3 =>
      if zin x3 (zlen 30) then
      zlet (σ.2 30 x3.toNatClampNeg) fun v5 =>
      if zin x3 (zlen 32) then
      zlet (zpa σ 32 (upd (σ.2 32) x3.toNatClampNeg (v3 ||| ((nI 1) <<< (v5 &&& 31))))) fun σ7 =>
      if zin x3 (zlen 30) then
      zlet (σ7.2 30 x3.toNatClampNeg) fun v9 =>
      (fX0_hurts N σ7 b1 v9).bind fun q10 =>
      if zin (((x3 + (nI 1)) * (nI 40)) + (x2 + q10)) (zlen 33) then
      zlet (σ7.2 33 (((x3 + (nI 1)) * (nI 40)) + (x2 + q10)).toNatClampNeg) fun v12 =>
      if zin (((x3 + (nI 1)) * (nI 40)) + (x2 + q10)) (zlen 33) then
      zlet (zpa σ7 33 (upd (σ7.2 33) (((x3 + (nI 1)) * (nI 40)) + (x2 + q10)).toNatClampNeg (v12 + (nI 1)))) fun σ14 =>
      (fX1_enter_35 N n) b1 (x2 + q10) (x3 + (nI 1)) σ14
      else none
      else none
      else none
      else none
      else none
      else none
set_option maxRecDepth 100000 in
set_option maxHeartbeats 4000000 in
theorem hX1_enter_35 {p : Program} {l : Launch} {e : Env} {s : State} {m : MethodId} {args : Array Value} {below : List Frame} {meth : Method} {c : Code} {g : zG} {A : Nat → Prop} {τ : zS} {res : zS} (C : zCx p s m args meth c cX1_enter none wsX1_enter RX1 4) (E : zE g A s) (N : Nat) : ∀ n : Nat, PX1_enter_35 p l e s m args below meth c g A τ res (fX1_enter_35 N n) := by
  obtain ⟨hx, hb, hr, hml, hown, hts, hlocks⟩ := id C
  intro n
  induction n with
  | zero =>
    intro b1 x2 x3 h1_b1 h2_b1 σ H locs ls hf
    exact absurd hf (by simp [fX1_enter_35])
  | succ n ih =>
    intro b1 x2 x3 h1_b1 h2_b1 σ H locs ls hf hh hl
    rw [fX1_enter_35] at hf
    refine lv_iload_n hx hb dX1_enter_35 rfl (lv_at hl 3 rfl) ?_
    refine lv_aload_n hx hb dX1_enter_36 rfl (lv_at hl 1 rfl) ?_
    refine z_getN (v := .int (σ.1 b1 6)) hx hb hts (fun w h => List.mem_cons_of_mem _ (List.mem_append_right _ (h))) hown E hh (Nat.lt_trans (m := 46) h2_b1 (by decide)) (zC_band h1_b1 h2_b1) rfl 6 (by decide) (zE_f E 14 rfl) rfl dX1_enter_37 ?_
    refine lv_icmp_ge (tgt := 96) hx hb dX1_enter_40 (by decide) (fun c_v1 => ?_) (fun c_v1 => ?_)
    · have hf := z_ip hf c_v1
      have hf := Option.some.inj hf
      subst hf
      exact z_vretX hx hb hr hlocks hh dX1_enter_96
    · have hf := z_in hf c_v1
      refine lv_aload_n hx hb dX1_enter_43 rfl (lv_at hl 0 rfl) ?_
      refine z_get (v := .ref (g.2.2 32)) hx hb hts (fun w h => List.mem_cons_of_mem _ (List.mem_append_left _ (List.mem_append_right _ (h)))) hown E hh (by decide) (zC_obj (q := 53) rfl) rfl 2 (by decide) (hts (.fieldLink RX1 18 "TownBand$Orders" "liers" "[I") (List.mem_cons_of_mem _ (List.mem_append_left _ (List.mem_append_left _ (List.mem_of_getElem? (i := 7) rfl))))) rfl dX1_enter_44 ?_
      refine lv_iload_n hx hb dX1_enter_47 rfl (lv_at hl 3 rfl) ?_
      refine lv_dup2_11 hx hb dX1_enter_48 rfl rfl ?_
      obtain ⟨h_v2, hf⟩ := z_if hf
      obtain ⟨v3, e_v3, hf⟩ := z_lt hf
      refine z_iald hx hb E hh (by decide) h_v2 e_v3 dX1_enter_49 ?_
      refine lv_iconst (v := (nI 1)) hx hb dX1_enter_50 (by decide) ?_
      refine lv_aload_n hx hb dX1_enter_51 rfl (lv_at hl 0 rfl) ?_
      refine z_get (v := .ref (g.2.2 30)) hx hb hts (fun w h => List.mem_cons_of_mem _ (List.mem_append_left _ (List.mem_append_right _ (h)))) hown E hh (by decide) (zC_obj (q := 53) rfl) rfl 0 (by decide) (hts (.fieldLink RX1 9 "TownBand$Orders" "row" "[I") (List.mem_cons_of_mem _ (List.mem_append_left _ (List.mem_append_left _ (List.mem_of_getElem? (i := 1) rfl))))) rfl dX1_enter_52 ?_
      refine lv_iload_n hx hb dX1_enter_55 rfl (lv_at hl 3 rfl) ?_
      obtain ⟨h_v4, hf⟩ := z_if hf
      obtain ⟨v5, e_v5, hf⟩ := z_lt hf
      refine z_iald hx hb E hh (by decide) h_v4 e_v5 dX1_enter_56 ?_
      refine lv_ishl hx hb dX1_enter_57 ?_
      refine lv_ior hx hb dX1_enter_58 ?_
      obtain ⟨h_v6, hf⟩ := z_if hf
      obtain ⟨σ7, e_σ7, hf⟩ := z_lt hf
      refine z_iast hx hb E hh (by decide) h_v6 e_σ7 dX1_enter_59 (fun H locs hh => ?_)
      refine lv_iload_n hx hb dX1_enter_60 rfl (lv_at hl 2 rfl) ?_
      refine lv_aload_n hx hb dX1_enter_61 rfl (lv_at hl 1 rfl) ?_
      refine lv_aload_n hx hb dX1_enter_62 rfl (lv_at hl 0 rfl) ?_
      refine z_get (v := .ref (g.2.2 30)) hx hb hts (fun w h => List.mem_cons_of_mem _ (List.mem_append_left _ (List.mem_append_right _ (h)))) hown E hh (by decide) (zC_obj (q := 53) rfl) rfl 0 (by decide) (hts (.fieldLink RX1 9 "TownBand$Orders" "row" "[I") (List.mem_cons_of_mem _ (List.mem_append_left _ (List.mem_append_left _ (List.mem_of_getElem? (i := 1) rfl))))) rfl dX1_enter_63 ?_
      refine lv_iload_n hx hb dX1_enter_66 rfl (lv_at hl 3 rfl) ?_
      obtain ⟨h_v8, hf⟩ := z_if hf
      obtain ⟨v9, e_v9, hf⟩ := z_lt hf
      refine z_iald hx hb E hh (by decide) h_v8 e_v9 dX1_enter_67 ?_
      obtain ⟨q10, h_q10, hf⟩ := z_bd hf
      refine z_xi (va_runVN (As := [.int v9]) (rest := [.int x2]) ⟨hx, hb, hml, hown, hts⟩ (zcX0_hurts l g A σ7 τ N b1 v9 h1_b1 h2_b1 h_q10) ⟨va_cnB 1 hts gX1_enter_X0_hurts_n81 rfl rfl rfl (zE_m E 39 rfl) (hts (.initialized RX0) (List.mem_cons_of_mem _ (List.mem_append_left _ (List.mem_append_left _ (List.mem_of_getElem? (i := 10) rfl))))) hdX0_hurts.2 ⟨by decide, by decide⟩, (hts (.instanceMethod yX0_hurts) (List.mem_cons_of_mem _ (List.mem_append_left _ (List.mem_append_left _ (List.mem_of_getElem? (i := 9) rfl))))), (hts (.selects RX0 yX0_hurts yX0_hurts) (List.mem_cons_of_mem _ (List.mem_append_left _ (List.mem_append_left _ (List.mem_of_getElem? (i := 11) rfl)))))⟩ (z_preV E hh (Nat.lt_trans (m := 46) h2_b1 (by decide)) (zC_band h1_b1 h2_b1) rfl) rfl rfl hl.1 rfl (lv_room (Nat.le_of_ble_eq_true rfl)) dX1_enter_68 ⟨Nat.le_refl _, Nat.le_refl _⟩) hh (fun H locs hh => ?_)
      refine lv_iadd hx hb dX1_enter_71 ?_
      refine lv_istore_n (lv' := [(2, .int (x2 + q10)), (0, .ref (g.2.2 53)), (1, .ref (g.2.2 b1)), (3, .int x3)]) hx hb dX1_enter_72 rfl hl (by decide) rfl (fun ls hl => ?_)
      refine lv_aload_n hx hb dX1_enter_73 rfl (lv_at hl 1 rfl) ?_
      refine z_get (v := .ref (g.2.2 33)) hx hb hts (fun w h => List.mem_cons_of_mem _ (List.mem_append_left _ (List.mem_append_right _ (h)))) hown E hh (by decide) (zC_obj (q := 53) rfl) rfl 3 (by decide) (hts (.fieldLink RX1 21 "TownBand$Orders" "tally" "[I") (List.mem_cons_of_mem _ (List.mem_append_left _ (List.mem_append_left _ (List.mem_of_getElem? (i := 8) rfl))))) rfl dX1_enter_74 ?_
      refine lv_iload_n hx hb dX1_enter_77 rfl (lv_at hl 3 rfl) ?_
      refine lv_iconst (v := (nI 1)) hx hb dX1_enter_78 (by decide) ?_
      refine lv_iadd hx hb dX1_enter_79 ?_
      refine lv_bipush (v := (nI 40)) hx hb dX1_enter_80 (by decide) ?_
      refine lv_imul hx hb dX1_enter_82 ?_
      refine lv_iload_n hx hb dX1_enter_83 rfl (lv_at hl 0 rfl) ?_
      refine lv_iadd hx hb dX1_enter_84 ?_
      refine lv_dup2_11 hx hb dX1_enter_85 rfl rfl ?_
      obtain ⟨h_v11, hf⟩ := z_if hf
      obtain ⟨v12, e_v12, hf⟩ := z_lt hf
      refine z_iald hx hb E hh (by decide) h_v11 e_v12 dX1_enter_86 ?_
      refine lv_iconst (v := (nI 1)) hx hb dX1_enter_87 (by decide) ?_
      refine lv_iadd hx hb dX1_enter_88 ?_
      obtain ⟨h_v13, hf⟩ := z_if hf
      obtain ⟨σ14, e_σ14, hf⟩ := z_lt hf
      refine z_iast hx hb E hh (by decide) h_v13 e_σ14 dX1_enter_89 (fun H locs hh => ?_)
      refine lv_iinc (v := (x3 + (nI 1))) (lv' := [(3, .int (x3 + (nI 1))), (2, .int (x2 + q10)), (0, .ref (g.2.2 53)), (1, .ref (g.2.2 b1))]) hx hb dX1_enter_90 hl (k := 3) rfl rfl (by decide) rfl (fun ls hl => ?_)
      refine lv_goto (tgt := 35) hx hb dX1_enter_93 (by decide) ?_
      exact ih b1 (x2 + q10) (x3 + (nI 1)) h1_b1 h2_b1 σ14 _ _ _ hf hh (lv_sub hl [2, 3, 1, 0] rfl)
def fX1_enter_21 (N : Nat) (b1 : Nat) (σ : zS) : Option (zS) :=
  zlet (zpf σ 53 4 ((σ.1 53 4) + (nI 1))) fun σ1 =>
  (fX1_enter_35 N N) b1 (nI 0) (nI 0) σ1
set_option maxRecDepth 100000 in
set_option maxHeartbeats 4000000 in
theorem hX1_enter_21 {p : Program} {l : Launch} {e : Env} {s : State} {m : MethodId} {args : Array Value} {below : List Frame} {meth : Method} {c : Code} {g : zG} {A : Nat → Prop} {τ : zS} {res : zS} (C : zCx p s m args meth c cX1_enter none wsX1_enter RX1 4) (E : zE g A s) (N : Nat) : PX1_enter_21 p l e s m args below meth c g A τ res (fX1_enter_21 N) := by
  obtain ⟨hx, hb, hr, hml, hown, hts, hlocks⟩ := id C
  intro b1 h1_b1 h2_b1 σ H locs ls hf hh hl
  unfold fX1_enter_21 at hf
  refine lv_aload_n hx hb dX1_enter_21 rfl (lv_at hl 0 rfl) ?_
  refine lv_dup hx hb dX1_enter_22 rfl ?_
  refine z_get (v := .int (σ.1 53 4)) hx hb hts (fun w h => List.mem_cons_of_mem _ (List.mem_append_left _ (List.mem_append_right _ (h)))) hown E hh (by decide) (zC_obj (q := 53) rfl) rfl 4 (by decide) (hts (.fieldLink RX1 59 "TownBand$Orders" "fitting" "I") (List.mem_cons_of_mem _ (List.mem_append_left _ (List.mem_append_left _ (List.mem_of_getElem? (i := 0) rfl))))) rfl dX1_enter_23 ?_
  refine lv_iconst (v := (nI 1)) hx hb dX1_enter_26 (by decide) ?_
  refine lv_iadd hx hb dX1_enter_27 ?_
  obtain ⟨σ1, e_σ1, hf⟩ := z_lt hf
  refine z_put hx hb hts (fun w h => List.mem_cons_of_mem _ (List.mem_append_left _ (List.mem_append_right _ (h)))) tyX1 tyX1_ok nmX1 hown E hh (by decide) (show zD 53 = _ from rfl) rfl 4 (by decide) rfl (hts (.fieldLink RX1 59 "TownBand$Orders" "fitting" "I") (List.mem_cons_of_mem _ (List.mem_append_left _ (List.mem_append_left _ (List.mem_of_getElem? (i := 0) rfl))))) rfl rfl e_σ1 dX1_enter_28 (fun H locs hh => ?_)
  refine lv_iconst (v := (nI 0)) hx hb dX1_enter_31 (by decide) ?_
  refine lv_istore_n (lv' := [(2, .int (nI 0)), (0, .ref (g.2.2 53)), (1, .ref (g.2.2 b1))]) hx hb dX1_enter_32 rfl hl (by decide) rfl (fun ls hl => ?_)
  refine lv_iconst (v := (nI 0)) hx hb dX1_enter_33 (by decide) ?_
  refine lv_istore_n (lv' := [(3, .int (nI 0)), (2, .int (nI 0)), (0, .ref (g.2.2 53)), (1, .ref (g.2.2 b1))]) hx hb dX1_enter_34 rfl hl (by decide) rfl (fun ls hl => ?_)
  exact (hX1_enter_35 C E N N) b1 (nI 0) (nI 0) h1_b1 h2_b1 σ1 _ _ _ hf hh (lv_sub hl [2, 3, 1, 0] rfl)
def fX1_enter (N : Nat) (σ : zS) (b1 : Nat) : Option (zS) :=
  if (σ.1 53 4) = 0 then
    if ¬ ((nI 0) : Int32) < 0 ∧ ¬ ((nI 0) : Int32) < 0 ∧ ¬ ((nI 5) : Int32) < 0 ∧ (nI 0).toNatClampNeg + (nI 5).toNatClampNeg ≤ zlen 30 ∧ (nI 0).toNatClampNeg + (nI 5).toNatClampNeg ≤ zlen 31 then
    zlet (zpa σ 31 (va_cpy (σ.2 30) (σ.2 31) (nI 0).toNatClampNeg (nI 0).toNatClampNeg (nI 5).toNatClampNeg)) fun σ3 =>
    (fX1_enter_21 N) b1 σ3
    else none
  else
    (fX1_enter_21 N) b1 σ
set_option maxRecDepth 100000 in
set_option maxHeartbeats 4000000 in
theorem zcX1_enter (l : Launch) (g : zG) (A : Nat → Prop) (σ τ : zS) (N : Nat) (b1 : Nat) (h1_b1 : 42 ≤ b1) (h2_b1 : b1 < 46) {res : zS} (hf : fX1_enter N σ b1 = some res) : Met l yX1_enter wsX1_enter (zR 2) (zPc g A σ τ [.ref (g.2.2 53), .ref (g.2.2 b1)]) (zQv g A τ res) 0 0 A := by
  refine z_met (cc := cX1_enter) (ret := none) (own := RX1) (by decide) rfl rfl _ (Nat.le_of_ble_eq_true rfl) ?_
  intro p e s m below meth c C E ls hl hh
  have hl : lv_has ls 4 [(0, .ref (g.2.2 53)), (1, .ref (g.2.2 b1))] := hl
  obtain ⟨hx, hb, hr, hml, hown, hts, hlocks⟩ := id C
  unfold fX1_enter at hf
  refine lv_aload_n hx hb dX1_enter_0 rfl (lv_at hl 0 rfl) ?_
  refine z_get (v := .int (σ.1 53 4)) hx hb hts (fun w h => List.mem_cons_of_mem _ (List.mem_append_left _ (List.mem_append_right _ (h)))) hown E hh (by decide) (zC_obj (q := 53) rfl) rfl 4 (by decide) (hts (.fieldLink RX1 59 "TownBand$Orders" "fitting" "I") (List.mem_cons_of_mem _ (List.mem_append_left _ (List.mem_append_left _ (List.mem_of_getElem? (i := 0) rfl))))) rfl dX1_enter_1 ?_
  refine lv_if_ne (tgt := 21) hx hb dX1_enter_4 (by decide) (fun c_v1 => ?_) (fun c_v1 => ?_)
  · have hf := z_in hf c_v1
    exact (hX1_enter_21 C E N) b1 h1_b1 h2_b1 σ _ _ _ hf hh (lv_sub hl [0, 1] rfl)
  · have hf := z_ip hf c_v1
    refine lv_aload_n hx hb dX1_enter_7 rfl (lv_at hl 0 rfl) ?_
    refine z_get (v := .ref (g.2.2 30)) hx hb hts (fun w h => List.mem_cons_of_mem _ (List.mem_append_left _ (List.mem_append_right _ (h)))) hown E hh (by decide) (zC_obj (q := 53) rfl) rfl 0 (by decide) (hts (.fieldLink RX1 9 "TownBand$Orders" "row" "[I") (List.mem_cons_of_mem _ (List.mem_append_left _ (List.mem_append_left _ (List.mem_of_getElem? (i := 1) rfl))))) rfl dX1_enter_8 ?_
    refine lv_iconst (v := (nI 0)) hx hb dX1_enter_11 (by decide) ?_
    refine lv_aload_n hx hb dX1_enter_12 rfl (lv_at hl 0 rfl) ?_
    refine z_get (v := .ref (g.2.2 31)) hx hb hts (fun w h => List.mem_cons_of_mem _ (List.mem_append_left _ (List.mem_append_right _ (h)))) hown E hh (by decide) (zC_obj (q := 53) rfl) rfl 1 (by decide) (hts (.fieldLink RX1 15 "TownBand$Orders" "first" "[I") (List.mem_cons_of_mem _ (List.mem_append_left _ (List.mem_append_left _ (List.mem_of_getElem? (i := 2) rfl))))) rfl dX1_enter_13 ?_
    refine lv_iconst (v := (nI 0)) hx hb dX1_enter_16 (by decide) ?_
    refine lv_iconst (v := (nI 5)) hx hb dX1_enter_17 (by decide) ?_
    obtain ⟨h_v2, hf⟩ := z_if hf
    obtain ⟨σ3, e_σ3, hf⟩ := z_lt hf
    refine z_copy hx hb (hml.trans hl.1.symm) hown (hts (.methodLink RX1 49 arraycopyName) (List.mem_cons_of_mem _ (List.mem_append_left _ (List.mem_append_left _ (List.mem_of_getElem? (i := 3) rfl))))) (hts (.native arraycopyName) (List.mem_cons_of_mem _ (List.mem_append_left _ (List.mem_append_left _ (List.mem_of_getElem? (i := 4) rfl))))) (hts (.static arraycopyName) (List.mem_cons_of_mem _ (List.mem_append_left _ (List.mem_append_left _ (List.mem_of_getElem? (i := 5) rfl))))) (hts (.initialized "java/lang/System") (List.mem_cons_of_mem _ (List.mem_append_left _ (List.mem_append_left _ (List.mem_of_getElem? (i := 6) rfl))))) E hh (by decide) (by decide) h_v2 e_σ3 (by decide) (Nat.le_of_ble_eq_true rfl) dX1_enter_18 (fun H locs hh => ?_)
    exact (hX1_enter_21 C E N) b1 h1_b1 h2_b1 σ3 _ _ _ hf hh (lv_sub hl [0, 1] rfl)
/-! ===== X1_seekFitting ===== -/
theorem hdX1_seekFitting : yX1_seekFitting.cls = RX1 ∧ yX1_seekFitting.cls ≠ "java/lang/invoke/MethodHandle" ∧ yX1_seekFitting.cls ≠ "java/lang/invoke/VarHandle" ∧ (parseMethodDescriptor yX1_seekFitting.desc).map (fun d => d.parameters.length) = some 2 := by decide +kernel
def PX1_seekFitting_87 (p : Program) (l : Launch) (e : Env) (s : State) (m : MethodId) (args : Array Value) (below : List Frame) (meth : Method) (c : Code) (g : zG) (A : Nat → Prop) (τ : zS) (res : zS) (f : Nat → Int32 → Int32 → zS → Option (zS)) : Prop := ∀ (b1 : Nat) (x3 : Int32) (x4 : Int32) (h1_b1 : 42 ≤ b1) (h2_b1 : b1 < 46) (σ : zS) (H : Heap) (locs : List Loc) (ls : Array Slot), f b1 x3 x4 σ = some res → zW g A σ τ s H locs → lv_has ls 5 [(0, .ref (g.2.2 53)), (1, .ref (g.2.2 b1)), (2, .ref (g.2.2 51)), (3, .int x3), (4, .int x4)] → W p l e (zR 4) s m args below meth c H locs 0 0 (MQ below (zQv g A τ res) args s 0 0 A) (F0 m 87 ls [])
def PX1_seekFitting_67 (p : Program) (l : Launch) (e : Env) (s : State) (m : MethodId) (args : Array Value) (below : List Frame) (meth : Method) (c : Code) (g : zG) (A : Nat → Prop) (τ : zS) (res : zS) (f : Nat → Int32 → Int32 → zS → Option (zS)) : Prop := ∀ (b1 : Nat) (x3 : Int32) (x4 : Int32) (h1_b1 : 42 ≤ b1) (h2_b1 : b1 < 46) (σ : zS) (H : Heap) (locs : List Loc) (ls : Array Slot), f b1 x3 x4 σ = some res → zW g A σ τ s H locs → lv_has ls 5 [(0, .ref (g.2.2 53)), (1, .ref (g.2.2 b1)), (2, .ref (g.2.2 51)), (3, .int x3), (4, .int x4)] → W p l e (zR 4) s m args below meth c H locs 0 0 (MQ below (zQv g A τ res) args s 0 0 A) (F0 m 67 ls [])
def PX1_seekFitting_56 (p : Program) (l : Launch) (e : Env) (s : State) (m : MethodId) (args : Array Value) (below : List Frame) (meth : Method) (c : Code) (g : zG) (A : Nat → Prop) (τ : zS) (res : zS) (f : Nat → zS → Option (zS)) : Prop := ∀ (b1 : Nat) (h1_b1 : 42 ≤ b1) (h2_b1 : b1 < 46) (σ : zS) (H : Heap) (locs : List Loc) (ls : Array Slot), f b1 σ = some res → zW g A σ τ s H locs → lv_has ls 5 [(0, .ref (g.2.2 53)), (1, .ref (g.2.2 b1)), (2, .ref (g.2.2 51))] → W p l e (zR 4) s m args below meth c H locs 0 0 (MQ below (zQv g A τ res) args s 0 0 A) (F0 m 56 ls [])
def PX1_seekFitting_34 (p : Program) (l : Launch) (e : Env) (s : State) (m : MethodId) (args : Array Value) (below : List Frame) (meth : Method) (c : Code) (g : zG) (A : Nat → Prop) (τ : zS) (res : zS) (f : Nat → Int32 → zS → Option (zS)) : Prop := ∀ (b1 : Nat) (x3 : Int32) (h1_b1 : 42 ≤ b1) (h2_b1 : b1 < 46) (σ : zS) (H : Heap) (locs : List Loc) (ls : Array Slot), f b1 x3 σ = some res → zW g A σ τ s H locs → lv_has ls 5 [(0, .ref (g.2.2 53)), (1, .ref (g.2.2 b1)), (2, .ref (g.2.2 51)), (3, .int x3)] → W p l e (zR 4) s m args below meth c H locs 0 0 (MQ below (zQv g A τ res) args s 0 0 A) (F0 m 34 ls [])
def PX1_seekFitting_32 (p : Program) (l : Launch) (e : Env) (s : State) (m : MethodId) (args : Array Value) (below : List Frame) (meth : Method) (c : Code) (g : zG) (A : Nat → Prop) (τ : zS) (res : zS) (f : Nat → zS → Option (zS)) : Prop := ∀ (b1 : Nat) (h1_b1 : 42 ≤ b1) (h2_b1 : b1 < 46) (σ : zS) (H : Heap) (locs : List Loc) (ls : Array Slot), f b1 σ = some res → zW g A σ τ s H locs → lv_has ls 5 [(0, .ref (g.2.2 53)), (1, .ref (g.2.2 b1)), (2, .ref (g.2.2 51))] → W p l e (zR 4) s m args below meth c H locs 0 0 (MQ below (zQv g A τ res) args s 0 0 A) (F0 m 32 ls [])
def PX1_seekFitting_14 (p : Program) (l : Launch) (e : Env) (s : State) (m : MethodId) (args : Array Value) (below : List Frame) (meth : Method) (c : Code) (g : zG) (A : Nat → Prop) (τ : zS) (res : zS) (f : Nat → Int32 → zS → Option (zS)) : Prop := ∀ (b1 : Nat) (x3 : Int32) (h1_b1 : 42 ≤ b1) (h2_b1 : b1 < 46) (σ : zS) (H : Heap) (locs : List Loc) (ls : Array Slot), f b1 x3 σ = some res → zW g A σ τ s H locs → lv_has ls 5 [(0, .ref (g.2.2 53)), (1, .ref (g.2.2 b1)), (2, .ref (g.2.2 51)), (3, .int x3)] → W p l e (zR 4) s m args below meth c H locs 0 0 (MQ below (zQv g A τ res) args s 0 0 A) (F0 m 14 ls [])
def fX1_seekFitting_87 (N : Nat) (rc : Nat → Int32 → Int32 → zS → Option (zS)) (b1 : Nat) (x3 : Int32) (x4 : Int32) (σ : zS) : Option (zS) :=
  (fX1_stepOn N σ (σ.1 b1 6)).bind fun q1 =>
  rc b1 x3 (x4 + (nI 1)) q1
set_option maxRecDepth 100000 in
set_option maxHeartbeats 4000000 in
theorem hX1_seekFitting_87 {p : Program} {l : Launch} {e : Env} {s : State} {m : MethodId} {args : Array Value} {below : List Frame} {meth : Method} {c : Code} {g : zG} {A : Nat → Prop} {τ : zS} {res : zS} (C : zCx p s m args meth c cX1_seekFitting none wsX1_seekFitting RX1 5) (E : zE g A s) (N : Nat) (rc : Nat → Int32 → Int32 → zS → Option (zS)) (hrc : PX1_seekFitting_67 p l e s m args below meth c g A τ res rc) : PX1_seekFitting_87 p l e s m args below meth c g A τ res (fX1_seekFitting_87 N rc) := by
  obtain ⟨hx, hb, hr, hml, hown, hts, hlocks⟩ := id C
  intro b1 x3 x4 h1_b1 h2_b1 σ H locs ls hf hh hl
  unfold fX1_seekFitting_87 at hf
  refine lv_aload_n hx hb dX1_seekFitting_87 rfl (lv_at hl 0 rfl) ?_
  refine lv_aload_n hx hb dX1_seekFitting_88 rfl (lv_at hl 1 rfl) ?_
  refine z_getN (v := .int (σ.1 b1 6)) hx hb hts (fun w h => List.mem_cons_of_mem _ (List.mem_append_left _ (List.mem_append_right _ (h)))) hown E hh (Nat.lt_trans (m := 46) h2_b1 (by decide)) (zC_band h1_b1 h2_b1) rfl 6 (by decide) (zE_f E 14 rfl) rfl dX1_seekFitting_89 ?_
  obtain ⟨q1, h_q1, hf⟩ := z_bd hf
  refine z_xv (va_runV (As := [.int (σ.1 b1 6)]) (rest := []) ⟨hx, hb, hml, hown, hts⟩ (zcX1_stepOn l g A σ τ N (σ.1 b1 6) h_q1) (cwV 1 hts gX1_seekFitting_X1_stepOn rfl rfl rfl hdX1_stepOn ⟨by decide, by decide⟩) (z_preV E hh (by decide) (zC_obj (q := 53) rfl) rfl) rfl rfl hl.1 rfl (lv_room (Nat.le_of_ble_eq_true rfl)) dX1_seekFitting_92 ⟨Nat.le_refl _, Nat.le_refl _⟩) hh (fun H locs hh => ?_)
  refine lv_iinc (v := (x4 + (nI 1))) (lv' := [(4, .int (x4 + (nI 1))), (0, .ref (g.2.2 53)), (1, .ref (g.2.2 b1)), (2, .ref (g.2.2 51)), (3, .int x3)]) hx hb dX1_seekFitting_95 hl (k := 4) rfl rfl (by decide) rfl (fun ls hl => ?_)
  refine lv_goto (tgt := 67) hx hb dX1_seekFitting_98 (by decide) ?_
  exact hrc b1 x3 (x4 + (nI 1)) h1_b1 h2_b1 q1 _ _ _ hf hh (lv_sub hl [1, 2, 3, 4, 0] rfl)
def fX1_seekFitting_67 (N : Nat) : Nat → Nat → Int32 → Int32 → zS → Option (zS)
  | 0, _, _, _, _ => none
  | n + 1, b1, x3, x4, σ =>
    if x3 ≤ x4 then
      some σ
    else
      (fX1_isAsSeen N σ b1).bind fun q2 =>
      if q2 = 0 then
        (fX1_seekFitting_87 N (fX1_seekFitting_67 N n)) b1 x3 x4 σ
      else
        (fX1_enter N σ b1).bind fun q4 =>
        (fX1_seekFitting_87 N (fX1_seekFitting_67 N n)) b1 x3 x4 q4
set_option maxRecDepth 100000 in
set_option maxHeartbeats 4000000 in
theorem hX1_seekFitting_67 {p : Program} {l : Launch} {e : Env} {s : State} {m : MethodId} {args : Array Value} {below : List Frame} {meth : Method} {c : Code} {g : zG} {A : Nat → Prop} {τ : zS} {res : zS} (C : zCx p s m args meth c cX1_seekFitting none wsX1_seekFitting RX1 5) (E : zE g A s) (N : Nat) : ∀ n : Nat, PX1_seekFitting_67 p l e s m args below meth c g A τ res (fX1_seekFitting_67 N n) := by
  obtain ⟨hx, hb, hr, hml, hown, hts, hlocks⟩ := id C
  intro n
  induction n with
  | zero =>
    intro b1 x3 x4 h1_b1 h2_b1 σ H locs ls hf
    exact absurd hf (by simp [fX1_seekFitting_67])
  | succ n ih =>
    intro b1 x3 x4 h1_b1 h2_b1 σ H locs ls hf hh hl
    rw [fX1_seekFitting_67] at hf
    refine lv_iload hx hb dX1_seekFitting_67 (lv_at hl 4 rfl) ?_
    refine lv_iload_n hx hb dX1_seekFitting_69 rfl (lv_at hl 3 rfl) ?_
    refine lv_icmp_ge (tgt := 101) hx hb dX1_seekFitting_70 (by decide) (fun c_v1 => ?_) (fun c_v1 => ?_)
    · have hf := z_ip hf c_v1
      have hf := Option.some.inj hf
      subst hf
      exact z_vretX hx hb hr hlocks hh dX1_seekFitting_101
    · have hf := z_in hf c_v1
      refine lv_aload_n hx hb dX1_seekFitting_73 rfl (lv_at hl 0 rfl) ?_
      refine lv_aload_n hx hb dX1_seekFitting_74 rfl (lv_at hl 1 rfl) ?_
      refine lv_aload_n hx hb dX1_seekFitting_75 rfl (lv_at hl 2 rfl) ?_
      obtain ⟨q2, h_q2, hf⟩ := z_bd hf
      refine z_xi (va_runV (As := [.ref (g.2.2 b1), .ref (g.2.2 51)]) (rest := []) ⟨hx, hb, hml, hown, hts⟩ (zcX1_isAsSeen l g A σ τ N b1 h1_b1 h2_b1 h_q2) (cwV 2 hts gX1_seekFitting_X1_isAsSeen rfl rfl rfl hdX1_isAsSeen ⟨by decide, by decide⟩) (z_preV E hh (by decide) (zC_obj (q := 53) rfl) rfl) rfl rfl hl.1 rfl (lv_room (Nat.le_of_ble_eq_true rfl)) dX1_seekFitting_76 ⟨Nat.le_refl _, Nat.le_refl _⟩) hh (fun H locs hh => ?_)
      refine lv_if_eq (tgt := 87) hx hb dX1_seekFitting_79 (by decide) (fun c_v3 => ?_) (fun c_v3 => ?_)
      · have hf := z_ip hf c_v3
        exact (hX1_seekFitting_87 C E N (fX1_seekFitting_67 N n) ih) b1 x3 x4 h1_b1 h2_b1 σ _ _ _ hf hh (lv_sub hl [0, 1, 2, 3, 4] rfl)
      · have hf := z_in hf c_v3
        refine lv_aload_n hx hb dX1_seekFitting_82 rfl (lv_at hl 0 rfl) ?_
        refine lv_aload_n hx hb dX1_seekFitting_83 rfl (lv_at hl 1 rfl) ?_
        obtain ⟨q4, h_q4, hf⟩ := z_bd hf
        refine z_xv (va_runV (As := [.ref (g.2.2 b1)]) (rest := []) ⟨hx, hb, hml, hown, hts⟩ (zcX1_enter l g A σ τ N b1 h1_b1 h2_b1 h_q4) (cwV 1 hts gX1_seekFitting_X1_enter rfl rfl rfl hdX1_enter ⟨by decide, by decide⟩) (z_preV E hh (by decide) (zC_obj (q := 53) rfl) rfl) rfl rfl hl.1 rfl (lv_room (Nat.le_of_ble_eq_true rfl)) dX1_seekFitting_84 ⟨Nat.le_refl _, Nat.le_refl _⟩) hh (fun H locs hh => ?_)
        exact (hX1_seekFitting_87 C E N (fX1_seekFitting_67 N n) ih) b1 x3 x4 h1_b1 h2_b1 q4 _ _ _ hf hh (lv_sub hl [0, 1, 2, 3, 4] rfl)
def fX1_seekFitting_56 (N : Nat) (b1 : Nat) (σ : zS) : Option (zS) :=
  (fX6_factorial N (σ.1 b1 6)).bind fun q1 =>
  (fX1_seekFitting_67 N N) b1 q1 (nI 0) σ
set_option maxRecDepth 100000 in
set_option maxHeartbeats 4000000 in
theorem hX1_seekFitting_56 {p : Program} {l : Launch} {e : Env} {s : State} {m : MethodId} {args : Array Value} {below : List Frame} {meth : Method} {c : Code} {g : zG} {A : Nat → Prop} {τ : zS} {res : zS} (C : zCx p s m args meth c cX1_seekFitting none wsX1_seekFitting RX1 5) (E : zE g A s) (N : Nat) : PX1_seekFitting_56 p l e s m args below meth c g A τ res (fX1_seekFitting_56 N) := by
  obtain ⟨hx, hb, hr, hml, hown, hts, hlocks⟩ := id C
  intro b1 h1_b1 h2_b1 σ H locs ls hf hh hl
  unfold fX1_seekFitting_56 at hf
  refine lv_aload_n hx hb dX1_seekFitting_56 rfl (lv_at hl 1 rfl) ?_
  refine z_getN (v := .int (σ.1 b1 6)) hx hb hts (fun w h => List.mem_cons_of_mem _ (List.mem_append_left _ (List.mem_append_right _ (h)))) hown E hh (Nat.lt_trans (m := 46) h2_b1 (by decide)) (zC_band h1_b1 h2_b1) rfl 6 (by decide) (zE_f E 14 rfl) rfl dX1_seekFitting_57 ?_
  obtain ⟨q1, h_q1, hf⟩ := z_bd hf
  refine z_xi (va_runSN (As := [.int (σ.1 b1 6)]) (rest := []) ⟨hx, hb, hml, hown, hts⟩ (zcX6_factorial l g A σ τ N (σ.1 b1 6) h_q1) ⟨va_cnB 1 hts gX1_seekFitting_X6_factorial_n37 rfl rfl rfl (zE_m E 34 rfl) (hts (.initialized RX6) (List.mem_cons_of_mem _ (List.mem_append_left _ (List.mem_append_left _ (List.mem_append_left _ (List.mem_append_left _ (List.mem_of_getElem? (i := 5) rfl))))))) hdX6_factorial.2 ⟨by decide, by decide⟩, (hts (.static yX6_factorial) (List.mem_cons_of_mem _ (List.mem_append_left _ (List.mem_append_left _ (List.mem_append_left _ (List.mem_append_left _ (List.mem_of_getElem? (i := 7) rfl))))))), trivial⟩ (z_preS E hh) rfl rfl hl.1 rfl (lv_room (Nat.le_of_ble_eq_true rfl)) dX1_seekFitting_60 ⟨Nat.le_refl _, Nat.le_refl _⟩) hh (fun H locs hh => ?_)
  refine lv_istore_n (lv' := [(3, .int q1), (0, .ref (g.2.2 53)), (1, .ref (g.2.2 b1)), (2, .ref (g.2.2 51))]) hx hb dX1_seekFitting_63 rfl hl (by decide) rfl (fun ls hl => ?_)
  refine lv_iconst (v := (nI 0)) hx hb dX1_seekFitting_64 (by decide) ?_
  refine lv_istore (lv' := [(4, .int (nI 0)), (3, .int q1), (0, .ref (g.2.2 53)), (1, .ref (g.2.2 b1)), (2, .ref (g.2.2 51))]) hx hb dX1_seekFitting_65 hl (by decide) rfl (fun ls hl => ?_)
  exact (hX1_seekFitting_67 C E N N) b1 q1 (nI 0) h1_b1 h2_b1 σ _ _ _ hf hh (lv_sub hl [2, 3, 4, 1, 0] rfl)
def fX1_seekFitting_34 (N : Nat) (k_56 : Nat → zS → Option (zS)) : Nat → Nat → Int32 → zS → Option (zS)
  | 0, _, _, _ => none
  | n + 1, b1, x3, σ =>
    if (Int32.ofNat (zlen 33)) ≤ x3 then
      k_56 b1 σ
    else
      if zin x3 (zlen 33) then
      zlet (zpa σ 33 (upd (σ.2 33) x3.toNatClampNeg (nI 0))) fun σ3 =>
      (fX1_seekFitting_34 N k_56 n) b1 (x3 + (nI 1)) σ3
      else none
set_option maxRecDepth 100000 in
set_option maxHeartbeats 4000000 in
theorem hX1_seekFitting_34 {p : Program} {l : Launch} {e : Env} {s : State} {m : MethodId} {args : Array Value} {below : List Frame} {meth : Method} {c : Code} {g : zG} {A : Nat → Prop} {τ : zS} {res : zS} (C : zCx p s m args meth c cX1_seekFitting none wsX1_seekFitting RX1 5) (E : zE g A s) (N : Nat) (k_56 : Nat → zS → Option (zS)) (hk_56 : PX1_seekFitting_56 p l e s m args below meth c g A τ res k_56) : ∀ n : Nat, PX1_seekFitting_34 p l e s m args below meth c g A τ res (fX1_seekFitting_34 N k_56 n) := by
  obtain ⟨hx, hb, hr, hml, hown, hts, hlocks⟩ := id C
  intro n
  induction n with
  | zero =>
    intro b1 x3 h1_b1 h2_b1 σ H locs ls hf
    exact absurd hf (by simp [fX1_seekFitting_34])
  | succ n ih =>
    intro b1 x3 h1_b1 h2_b1 σ H locs ls hf hh hl
    rw [fX1_seekFitting_34] at hf
    refine lv_iload_n hx hb dX1_seekFitting_34 rfl (lv_at hl 3 rfl) ?_
    refine lv_aload_n hx hb dX1_seekFitting_35 rfl (lv_at hl 0 rfl) ?_
    refine z_get (v := .ref (g.2.2 33)) hx hb hts (fun w h => List.mem_cons_of_mem _ (List.mem_append_left _ (List.mem_append_left _ (List.mem_append_right _ (h))))) hown E hh (by decide) (zC_obj (q := 53) rfl) rfl 3 (by decide) (hts (.fieldLink RX1 21 "TownBand$Orders" "tally" "[I") (List.mem_cons_of_mem _ (List.mem_append_left _ (List.mem_append_left _ (List.mem_append_left _ (List.mem_append_left _ (List.mem_of_getElem? (i := 3) rfl))))))) rfl dX1_seekFitting_36 ?_
    refine z_alen hx hb E hh (by decide) dX1_seekFitting_39 ?_
    refine lv_icmp_ge (tgt := 56) hx hb dX1_seekFitting_40 (by decide) (fun c_v1 => ?_) (fun c_v1 => ?_)
    · have hf := z_ip hf c_v1
      exact hk_56 b1 h1_b1 h2_b1 σ _ _ _ hf hh (lv_sub hl [0, 1, 2] rfl)
    · have hf := z_in hf c_v1
      refine lv_aload_n hx hb dX1_seekFitting_43 rfl (lv_at hl 0 rfl) ?_
      refine z_get (v := .ref (g.2.2 33)) hx hb hts (fun w h => List.mem_cons_of_mem _ (List.mem_append_left _ (List.mem_append_left _ (List.mem_append_right _ (h))))) hown E hh (by decide) (zC_obj (q := 53) rfl) rfl 3 (by decide) (hts (.fieldLink RX1 21 "TownBand$Orders" "tally" "[I") (List.mem_cons_of_mem _ (List.mem_append_left _ (List.mem_append_left _ (List.mem_append_left _ (List.mem_append_left _ (List.mem_of_getElem? (i := 3) rfl))))))) rfl dX1_seekFitting_44 ?_
      refine lv_iload_n hx hb dX1_seekFitting_47 rfl (lv_at hl 3 rfl) ?_
      refine lv_iconst (v := (nI 0)) hx hb dX1_seekFitting_48 (by decide) ?_
      obtain ⟨h_v2, hf⟩ := z_if hf
      obtain ⟨σ3, e_σ3, hf⟩ := z_lt hf
      refine z_iast hx hb E hh (by decide) h_v2 e_σ3 dX1_seekFitting_49 (fun H locs hh => ?_)
      refine lv_iinc (v := (x3 + (nI 1))) (lv' := [(3, .int (x3 + (nI 1))), (0, .ref (g.2.2 53)), (1, .ref (g.2.2 b1)), (2, .ref (g.2.2 51))]) hx hb dX1_seekFitting_50 hl (k := 3) rfl rfl (by decide) rfl (fun ls hl => ?_)
      refine lv_goto (tgt := 34) hx hb dX1_seekFitting_53 (by decide) ?_
      exact ih b1 (x3 + (nI 1)) h1_b1 h2_b1 σ3 _ _ _ hf hh (lv_sub hl [1, 2, 3, 0] rfl)
def fX1_seekFitting_32 (N : Nat) (b1 : Nat) (σ : zS) : Option (zS) :=
  (fX1_seekFitting_34 N (fX1_seekFitting_56 N) N) b1 (nI 0) σ
set_option maxRecDepth 100000 in
set_option maxHeartbeats 4000000 in
theorem hX1_seekFitting_32 {p : Program} {l : Launch} {e : Env} {s : State} {m : MethodId} {args : Array Value} {below : List Frame} {meth : Method} {c : Code} {g : zG} {A : Nat → Prop} {τ : zS} {res : zS} (C : zCx p s m args meth c cX1_seekFitting none wsX1_seekFitting RX1 5) (E : zE g A s) (N : Nat) : PX1_seekFitting_32 p l e s m args below meth c g A τ res (fX1_seekFitting_32 N) := by
  obtain ⟨hx, hb, hr, hml, hown, hts, hlocks⟩ := id C
  intro b1 h1_b1 h2_b1 σ H locs ls hf hh hl
  unfold fX1_seekFitting_32 at hf
  refine lv_iconst (v := (nI 0)) hx hb dX1_seekFitting_32 (by decide) ?_
  refine lv_istore_n (lv' := [(3, .int (nI 0)), (0, .ref (g.2.2 53)), (1, .ref (g.2.2 b1)), (2, .ref (g.2.2 51))]) hx hb dX1_seekFitting_33 rfl hl (by decide) rfl (fun ls hl => ?_)
  exact (hX1_seekFitting_34 C E N (fX1_seekFitting_56 N) (hX1_seekFitting_56 C E N) N) b1 (nI 0) h1_b1 h2_b1 σ _ _ _ hf hh (lv_sub hl [1, 2, 3, 0] rfl)
def fX1_seekFitting_14 (N : Nat) (k_32 : Nat → zS → Option (zS)) : Nat → Nat → Int32 → zS → Option (zS)
  | 0, _, _, _ => none
  | n + 1, b1, x3, σ =>
    if (nI 5) ≤ x3 then
      k_32 b1 σ
    else
      if zin x3 (zlen 32) then
      zlet (zpa σ 32 (upd (σ.2 32) x3.toNatClampNeg (nI 0))) fun σ3 =>
      (fX1_seekFitting_14 N k_32 n) b1 (x3 + (nI 1)) σ3
      else none
set_option maxRecDepth 100000 in
set_option maxHeartbeats 4000000 in
theorem hX1_seekFitting_14 {p : Program} {l : Launch} {e : Env} {s : State} {m : MethodId} {args : Array Value} {below : List Frame} {meth : Method} {c : Code} {g : zG} {A : Nat → Prop} {τ : zS} {res : zS} (C : zCx p s m args meth c cX1_seekFitting none wsX1_seekFitting RX1 5) (E : zE g A s) (N : Nat) (k_32 : Nat → zS → Option (zS)) (hk_32 : PX1_seekFitting_32 p l e s m args below meth c g A τ res k_32) : ∀ n : Nat, PX1_seekFitting_14 p l e s m args below meth c g A τ res (fX1_seekFitting_14 N k_32 n) := by
  obtain ⟨hx, hb, hr, hml, hown, hts, hlocks⟩ := id C
  intro n
  induction n with
  | zero =>
    intro b1 x3 h1_b1 h2_b1 σ H locs ls hf
    exact absurd hf (by simp [fX1_seekFitting_14])
  | succ n ih =>
    intro b1 x3 h1_b1 h2_b1 σ H locs ls hf hh hl
    rw [fX1_seekFitting_14] at hf
    refine lv_iload_n hx hb dX1_seekFitting_14 rfl (lv_at hl 3 rfl) ?_
    refine lv_iconst (v := (nI 5)) hx hb dX1_seekFitting_15 (by decide) ?_
    refine lv_icmp_ge (tgt := 32) hx hb dX1_seekFitting_16 (by decide) (fun c_v1 => ?_) (fun c_v1 => ?_)
    · have hf := z_ip hf c_v1
      exact hk_32 b1 h1_b1 h2_b1 σ _ _ _ hf hh (lv_sub hl [0, 1, 2] rfl)
    · have hf := z_in hf c_v1
      refine lv_aload_n hx hb dX1_seekFitting_19 rfl (lv_at hl 0 rfl) ?_
      refine z_get (v := .ref (g.2.2 32)) hx hb hts (fun w h => List.mem_cons_of_mem _ (List.mem_append_left _ (List.mem_append_left _ (List.mem_append_right _ (h))))) hown E hh (by decide) (zC_obj (q := 53) rfl) rfl 2 (by decide) (hts (.fieldLink RX1 18 "TownBand$Orders" "liers" "[I") (List.mem_cons_of_mem _ (List.mem_append_left _ (List.mem_append_left _ (List.mem_append_left _ (List.mem_append_left _ (List.mem_of_getElem? (i := 2) rfl))))))) rfl dX1_seekFitting_20 ?_
      refine lv_iload_n hx hb dX1_seekFitting_23 rfl (lv_at hl 3 rfl) ?_
      refine lv_iconst (v := (nI 0)) hx hb dX1_seekFitting_24 (by decide) ?_
      obtain ⟨h_v2, hf⟩ := z_if hf
      obtain ⟨σ3, e_σ3, hf⟩ := z_lt hf
      refine z_iast hx hb E hh (by decide) h_v2 e_σ3 dX1_seekFitting_25 (fun H locs hh => ?_)
      refine lv_iinc (v := (x3 + (nI 1))) (lv' := [(3, .int (x3 + (nI 1))), (0, .ref (g.2.2 53)), (1, .ref (g.2.2 b1)), (2, .ref (g.2.2 51))]) hx hb dX1_seekFitting_26 hl (k := 3) rfl rfl (by decide) rfl (fun ls hl => ?_)
      refine lv_goto (tgt := 14) hx hb dX1_seekFitting_29 (by decide) ?_
      exact ih b1 (x3 + (nI 1)) h1_b1 h2_b1 σ3 _ _ _ hf hh (lv_sub hl [1, 2, 3, 0] rfl)
def fX1_seekFitting (N : Nat) (σ : zS) (b1 : Nat) : Option (zS) :=
  (fX6_fillByOrder N σ 30).bind fun q1 =>
  zlet (zpf q1 53 4 (nI 0)) fun σ2 =>
  (fX1_seekFitting_14 N (fX1_seekFitting_32 N) N) b1 (nI 0) σ2
set_option maxRecDepth 100000 in
set_option maxHeartbeats 4000000 in
theorem zcX1_seekFitting (l : Launch) (g : zG) (A : Nat → Prop) (σ τ : zS) (N : Nat) (b1 : Nat) (h1_b1 : 42 ≤ b1) (h2_b1 : b1 < 46) {res : zS} (hf : fX1_seekFitting N σ b1 = some res) : Met l yX1_seekFitting wsX1_seekFitting (zR 4) (zPc g A σ τ [.ref (g.2.2 53), .ref (g.2.2 b1), .ref (g.2.2 51)]) (zQv g A τ res) 0 0 A := by
  refine z_met (cc := cX1_seekFitting) (ret := none) (own := RX1) (by decide) rfl rfl _ (Nat.le_of_ble_eq_true rfl) ?_
  intro p e s m below meth c C E ls hl hh
  have hl : lv_has ls 5 [(0, .ref (g.2.2 53)), (1, .ref (g.2.2 b1)), (2, .ref (g.2.2 51))] := hl
  obtain ⟨hx, hb, hr, hml, hown, hts, hlocks⟩ := id C
  unfold fX1_seekFitting at hf
  refine lv_aload_n hx hb dX1_seekFitting_0 rfl (lv_at hl 0 rfl) ?_
  refine z_get (v := .ref (g.2.2 30)) hx hb hts (fun w h => List.mem_cons_of_mem _ (List.mem_append_left _ (List.mem_append_left _ (List.mem_append_right _ (h))))) hown E hh (by decide) (zC_obj (q := 53) rfl) rfl 0 (by decide) (hts (.fieldLink RX1 9 "TownBand$Orders" "row" "[I") (List.mem_cons_of_mem _ (List.mem_append_left _ (List.mem_append_left _ (List.mem_append_left _ (List.mem_append_left _ (List.mem_of_getElem? (i := 0) rfl))))))) rfl dX1_seekFitting_1 ?_
  obtain ⟨q1, h_q1, hf⟩ := z_bd hf
  refine z_xv (va_runSN (As := [.ref (g.2.2 30)]) (rest := []) ⟨hx, hb, hml, hown, hts⟩ (zcX6_fillByOrder l g A σ τ N 30 (by decide) h_q1) ⟨va_cnB 1 hts gX1_seekFitting_X6_fillByOrder_n24 rfl rfl rfl (zE_m E 33 rfl) (hts (.initialized RX6) (List.mem_cons_of_mem _ (List.mem_append_left _ (List.mem_append_left _ (List.mem_append_left _ (List.mem_append_left _ (List.mem_of_getElem? (i := 5) rfl))))))) hdX6_fillByOrder.2 ⟨by decide, by decide⟩, (hts (.static yX6_fillByOrder) (List.mem_cons_of_mem _ (List.mem_append_left _ (List.mem_append_left _ (List.mem_append_left _ (List.mem_append_left _ (List.mem_of_getElem? (i := 4) rfl))))))), trivial⟩ (z_preS E hh) rfl rfl hl.1 rfl (lv_room (Nat.le_of_ble_eq_true rfl)) dX1_seekFitting_4 ⟨Nat.le_refl _, Nat.le_refl _⟩) hh (fun H locs hh => ?_)
  refine lv_aload_n hx hb dX1_seekFitting_7 rfl (lv_at hl 0 rfl) ?_
  refine lv_iconst (v := (nI 0)) hx hb dX1_seekFitting_8 (by decide) ?_
  obtain ⟨σ2, e_σ2, hf⟩ := z_lt hf
  refine z_put hx hb hts (fun w h => List.mem_cons_of_mem _ (List.mem_append_left _ (List.mem_append_left _ (List.mem_append_right _ (h))))) tyX1 tyX1_ok nmX1 hown E hh (by decide) (show zD 53 = _ from rfl) rfl 4 (by decide) rfl (hts (.fieldLink RX1 59 "TownBand$Orders" "fitting" "I") (List.mem_cons_of_mem _ (List.mem_append_left _ (List.mem_append_left _ (List.mem_append_left _ (List.mem_append_left _ (List.mem_of_getElem? (i := 1) rfl))))))) rfl rfl e_σ2 dX1_seekFitting_9 (fun H locs hh => ?_)
  refine lv_iconst (v := (nI 0)) hx hb dX1_seekFitting_12 (by decide) ?_
  refine lv_istore_n (lv' := [(3, .int (nI 0)), (0, .ref (g.2.2 53)), (1, .ref (g.2.2 b1)), (2, .ref (g.2.2 51))]) hx hb dX1_seekFitting_13 rfl hl (by decide) rfl (fun ls hl => ?_)
  exact (hX1_seekFitting_14 C E N (fX1_seekFitting_32 N) (hX1_seekFitting_32 C E N) N) b1 (nI 0) h1_b1 h2_b1 σ2 _ _ _ hf hh (lv_sub hl [1, 2, 3, 0] rfl)
/-! ===== X1_mostLeft ===== -/
theorem hdX1_mostLeft : yX1_mostLeft.cls = RX1 ∧ yX1_mostLeft.cls ≠ "java/lang/invoke/MethodHandle" ∧ yX1_mostLeft.cls ≠ "java/lang/invoke/VarHandle" ∧ (parseMethodDescriptor yX1_mostLeft.desc).map (fun d => d.parameters.length) = some 1 := by decide +kernel
def PX1_mostLeft_4 (p : Program) (l : Launch) (e : Env) (s : State) (m : MethodId) (args : Array Value) (below : List Frame) (meth : Method) (c : Code) (g : zG) (A : Nat → Prop) (σ τ : zS) (res : Int32) (f : Int32 → Int32 → Int32 → Option (Int32)) : Prop := ∀ (x1 : Int32) (x2 : Int32) (x3 : Int32) (H : Heap) (locs : List Loc) (ls : Array Slot), f x1 x2 x3 = some res → zW g A σ τ s H locs → lv_has ls 4 [(0, .ref (g.2.2 53)), (1, .int x1), (2, .int x2), (3, .int x3)] → W p l e (zR 1) s m args below meth c H locs 0 0 (MQ below (zQi g A τ (res, σ)) args s 0 0 A) (F0 m 4 ls [])
def fX1_mostLeft_4 (N : Nat) (σ : zS) : Nat → Int32 → Int32 → Int32 → Option (Int32)
  | 0, _, _, _ => none
  | n + 1, x1, x2, x3 =>
    if (nI 40) ≤ x3 then
      some x2
    else
      if zin ((x1 * (nI 40)) + x3) (zlen 33) then
      zlet (σ.2 33 ((x1 * (nI 40)) + x3).toNatClampNeg) fun v3 =>
      zlet (if x2 < v3 then v3 else x2) fun v4 =>
      (fX1_mostLeft_4 N σ n) x1 v4 (x3 + (nI 1))
      else none
set_option maxRecDepth 100000 in
set_option maxHeartbeats 4000000 in
theorem hX1_mostLeft_4 {p : Program} {l : Launch} {e : Env} {s : State} {m : MethodId} {args : Array Value} {below : List Frame} {meth : Method} {c : Code} {g : zG} {A : Nat → Prop} {σ τ : zS} {res : Int32} (C : zCx p s m args meth c cX1_mostLeft (some .int) wsX1_mostLeft RX1 4) (E : zE g A s) (N : Nat) : ∀ n : Nat, PX1_mostLeft_4 p l e s m args below meth c g A σ τ res (fX1_mostLeft_4 N σ n) := by
  obtain ⟨hx, hb, hr, hml, hown, hts, hlocks⟩ := id C
  intro n
  induction n with
  | zero =>
    intro x1 x2 x3 H locs ls hf
    exact absurd hf (by simp [fX1_mostLeft_4])
  | succ n ih =>
    intro x1 x2 x3 H locs ls hf hh hl
    rw [fX1_mostLeft_4] at hf
    refine lv_iload_n hx hb dX1_mostLeft_4 rfl (lv_at hl 3 rfl) ?_
    refine lv_bipush (v := (nI 40)) hx hb dX1_mostLeft_5 (by decide) ?_
    refine lv_icmp_ge (tgt := 32) hx hb dX1_mostLeft_7 (by decide) (fun c_v1 => ?_) (fun c_v1 => ?_)
    · have hf := z_ip hf c_v1
      refine lv_iload_n hx hb dX1_mostLeft_32 rfl (lv_at hl 2 rfl) ?_
      have hf := Option.some.inj hf
      subst hf
      exact z_iretX hx hb hr hlocks hh dX1_mostLeft_33
    · have hf := z_in hf c_v1
      refine lv_iload_n hx hb dX1_mostLeft_10 rfl (lv_at hl 2 rfl) ?_
      refine lv_aload_n hx hb dX1_mostLeft_11 rfl (lv_at hl 0 rfl) ?_
      refine z_get (v := .ref (g.2.2 33)) hx hb hts (fun w h => List.mem_cons_of_mem _ (List.mem_append_right _ (h))) hown E hh (by decide) (zC_obj (q := 53) rfl) rfl 3 (by decide) (hts (.fieldLink RX1 21 "TownBand$Orders" "tally" "[I") (List.mem_cons_of_mem _ (List.mem_append_left _ (List.mem_of_getElem? (i := 0) rfl)))) rfl dX1_mostLeft_12 ?_
      refine lv_iload_n hx hb dX1_mostLeft_15 rfl (lv_at hl 1 rfl) ?_
      refine lv_bipush (v := (nI 40)) hx hb dX1_mostLeft_16 (by decide) ?_
      refine lv_imul hx hb dX1_mostLeft_18 ?_
      refine lv_iload_n hx hb dX1_mostLeft_19 rfl (lv_at hl 3 rfl) ?_
      refine lv_iadd hx hb dX1_mostLeft_20 ?_
      obtain ⟨h_v2, hf⟩ := z_if hf
      obtain ⟨v3, e_v3, hf⟩ := z_lt hf
      refine z_iald hx hb E hh (by decide) h_v2 e_v3 dX1_mostLeft_21 ?_
      obtain ⟨v4, e_v4, hf⟩ := z_lt hf
      refine va_mmax hx hb (hml.trans hl.1.symm) hown (hts (.methodLink RX1 84 Lib.Math.max.name) (List.mem_cons_of_mem _ (List.mem_append_left _ (List.mem_of_getElem? (i := 1) rfl)))) (hts (.static Lib.Math.max.name) (List.mem_cons_of_mem _ (List.mem_append_left _ (List.mem_of_getElem? (i := 2) rfl)))) (hts (.initialized "java/lang/Math") (List.mem_cons_of_mem _ (List.mem_append_left _ (List.mem_of_getElem? (i := 3) rfl)))) (hts (.code Lib.Math.max.name Lib.Math.max.code 2 (some .int)) (List.mem_cons_of_mem _ (List.mem_append_left _ (List.mem_of_getElem? (i := 4) rfl)))) (by decide) (Nat.le_of_ble_eq_true rfl) (Nat.le_refl _) (Nat.le_refl _) dX1_mostLeft_22 ?_
      refine z_topi e_v4 ?_
      refine lv_istore_n (lv' := [(2, .int v4), (0, .ref (g.2.2 53)), (1, .int x1), (3, .int x3)]) hx hb dX1_mostLeft_25 rfl hl (by decide) rfl (fun ls hl => ?_)
      refine lv_iinc (v := (x3 + (nI 1))) (lv' := [(3, .int (x3 + (nI 1))), (2, .int v4), (0, .ref (g.2.2 53)), (1, .int x1)]) hx hb dX1_mostLeft_26 hl (k := 3) rfl rfl (by decide) rfl (fun ls hl => ?_)
      refine lv_goto (tgt := 4) hx hb dX1_mostLeft_29 (by decide) ?_
      exact ih x1 v4 (x3 + (nI 1)) _ _ _ hf hh (lv_sub hl [2, 3, 1, 0] rfl)
def fX1_mostLeft (N : Nat) (σ : zS) (x1 : Int32) : Option (Int32) :=
  (fX1_mostLeft_4 N σ N) x1 (nI 0) (nI 0)
set_option maxRecDepth 100000 in
set_option maxHeartbeats 4000000 in
theorem zcX1_mostLeft (l : Launch) (g : zG) (A : Nat → Prop) (σ τ : zS) (N : Nat) (x1 : Int32)  {res : Int32} (hf : fX1_mostLeft N σ x1 = some res) : Met l yX1_mostLeft wsX1_mostLeft (zR 1) (zPc g A σ τ [.ref (g.2.2 53), .int x1]) (zQi g A τ (res, σ)) 0 0 A := by
  refine z_met (cc := cX1_mostLeft) (ret := (some .int)) (own := RX1) (by decide) rfl rfl _ (Nat.le_of_ble_eq_true rfl) ?_
  intro p e s m below meth c C E ls hl hh
  have hl : lv_has ls 4 [(0, .ref (g.2.2 53)), (1, .int x1)] := hl
  obtain ⟨hx, hb, hr, hml, hown, hts, hlocks⟩ := id C
  unfold fX1_mostLeft at hf
  refine lv_iconst (v := (nI 0)) hx hb dX1_mostLeft_0 (by decide) ?_
  refine lv_istore_n (lv' := [(2, .int (nI 0)), (0, .ref (g.2.2 53)), (1, .int x1)]) hx hb dX1_mostLeft_1 rfl hl (by decide) rfl (fun ls hl => ?_)
  refine lv_iconst (v := (nI 0)) hx hb dX1_mostLeft_2 (by decide) ?_
  refine lv_istore_n (lv' := [(3, .int (nI 0)), (2, .int (nI 0)), (0, .ref (g.2.2 53)), (1, .int x1)]) hx hb dX1_mostLeft_3 rfl hl (by decide) rfl (fun ls hl => ?_)
  exact (hX1_mostLeft_4 C E N N) x1 (nI 0) (nI 0) _ _ _ hf hh (lv_sub hl [2, 3, 1, 0] rfl)

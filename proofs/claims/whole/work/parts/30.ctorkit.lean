/-! constructors: worlds of the form w ++ l, w whatever else there is -/
def yR (h mc ms : Nat) : Room := { frames := h, cells := mc, slots := ms, locals := 40 * h }
def zV (g : zG) (A : Nat → Prop) (ws : va_W) (s : State) (H : Heap) (locs : List Loc) : Prop := va_P g.1 vwCl ws H ∧ va_D A ws ∧ va_S A s.heap H locs
def zVE (g : zG) (A : Nat → Prop) (U : State) : Prop := va_K g.1 vwCl (zT g) U ∧ zN U ∧ va_AO RX0 U ∧ va_AO RX3 U ∧ ∀ q, U.heap.size ≤ q → A q
def zVc (g : zG) (A : Nat → Prop) (ws : va_W) (av : List Value) : Array Value → State → Prop := va_Pc av (fun U => (va_P g.1 vwCl ws U.heap ∧ va_D A ws) ∧ zVE g A U)
def zVq (g : zG) (A : Nat → Prop) (F : (Nat → Nat) → va_W) : Array Value → State → Outcome → State → Prop := va_Qv (fun (_ : Nat → Nat) => True) (fun u t => va_P g.1 vwCl (F u) t.heap ∧ va_D A (F u)) A
theorem zVE_go {g : zG} {A : Nat → Prop} {s U : State} {H : Heap} {locs : List Loc} (E : zVE g A s) (hS : va_S A s.heap H locs) (hU : U.heap = H) (hW : s.WarmedH U.vm) : zVE g A U := by
  obtain ⟨h1, ⟨h2, h3⟩, h4, h5, h6⟩ := E
  exact ⟨va_K.moved hW.alike h1, ⟨fun q hq => va_Nw.warmF hW (h2 q hq), fun q hq => va_Nw.warmM hW (h3 q hq)⟩, va_AO.moved hW.alike h4, va_AO.moved hW.alike h5, fun q hq => h6 q (Nat.le_trans hS.1 (by rw [hU] at hq; exact hq))⟩
theorem zVE_blind {g : zG} {A : Nat → Prop} {U V : State} (E : zVE g A U) (hv : V.vm = U.vm) (hh : V.heap = U.heap) : zVE g A V := by
  obtain ⟨h1, ⟨h2, h3⟩, h4, h5, h6⟩ := E
  have hal : U.vm.Alike V.vm := by rw [hv]; exact Vm.Alike.refl U.vm
  exact ⟨va_K.moved hal h1, ⟨fun q hq => va_Nw.same rfl hv.symm (h2 q hq), fun q hq => va_Nw.same rfl hv.symm (h3 q hq)⟩, va_AO.moved hal h4, va_AO.moved hal h5, by rw [hh]; exact h6⟩
theorem z_wl {w l : va_W} {j : Nat} {e : Nat × va_E} (h : l[j]? = some e) : (w ++ l)[w.length + j]? = some e := by
  rw [List.getElem?_append_right (Nat.le_add_right _ _), Nat.add_sub_cancel_left]
  exact h
theorem z_ws {w l : va_W} {j : Nat} {e : Nat × va_E} : (w ++ l).set (w.length + j) e = w ++ l.set j e := by
  rw [List.set_append_right _ _ (Nat.le_add_right _ _), Nat.add_sub_cancel_left]
section ZCT
variable {p : Program} {l : Launch} {e : Env} {R : Room} {s : State} {m : MethodId} {args : Array Value} {below : List Frame} {meth : Method} {c : Code} {H : Heap} {locs : List Loc} {cells slots : Nat} {Q : State → Prop}
variable {cc : ByteArray} {pc : Nat} {ls : Array Slot} {rest st0 : List Value} {g : zG} {A : Nat → Prop} {w v0 : va_W}
theorem y_newI (hexec : p.tables.exec = Jvm.exec) (hb : c.code = cc) (V : zV g A (w ++ v0) s H locs) (E : zVE g A s) (harr : (Cond.arrayClass .int).before args s = true) {n : Int32} {N' : Nat} (hn : ¬ n < 0) (hN : n.toNatClampNeg = N') (hby : N' * componentBytes .int ≤ 536870912) (hcells : cells + 1 ≤ R.cells) (hslots : slots + N' ≤ R.slots) (hdg : decode cc pc = .ok (.newarray .int, 2)) (kk : ∀ (q : Nat) (H1 : Heap), zV g A (w ++ (v0 ++ [(q, .inl (g.2.1.1, N', .inl (fun _ => 0)))])) s H1 locs → W p l e R s m args below meth c H1 locs (cells + 1) (slots + N') Q (F0 m (pc + 2) ls (.ref q :: rest))) : W p l e R s m args below meth c H locs cells slots Q (F0 m pc ls (.int n :: rest)) := by
  refine va_newa (atype := .int) (ty := .int) (a0 := (N', .inl (fun _ => 0))) hexec hb harr rfl E.1 V.1 V.2.1 V.2.2 E.2.2.2.2 (fun cA => rfl) hn hN hby hcells hslots hdg (fun q cA H1 hK hP hD hS => ?_)
  have hc : cA = g.2.1.1 := Option.some.inj ((hK.2 4 (cA, .int) rfl).2.symm.trans (E.1.2 0 (g.2.1.1, .int) rfl).2)
  subst hc
  rw [List.append_assoc] at hP hD
  exact kk q H1 ⟨hP, hD, hS⟩
theorem y_newZ (hexec : p.tables.exec = Jvm.exec) (hb : c.code = cc) (V : zV g A (w ++ v0) s H locs) (E : zVE g A s) (harr : (Cond.arrayClass .boolean).before args s = true) {n : Int32} {N' : Nat} (hn : ¬ n < 0) (hN : n.toNatClampNeg = N') (hby : N' * componentBytes .boolean ≤ 536870912) (hcells : cells + 1 ≤ R.cells) (hslots : slots + N' ≤ R.slots) (hdg : decode cc pc = .ok (.newarray .boolean, 2)) (kk : ∀ (q : Nat) (H1 : Heap), zV g A (w ++ (v0 ++ [(q, .inl (g.2.1.2.1, N', .inl (fun _ => 0)))])) s H1 locs → W p l e R s m args below meth c H1 locs (cells + 1) (slots + N') Q (F0 m (pc + 2) ls (.ref q :: rest))) : W p l e R s m args below meth c H locs cells slots Q (F0 m pc ls (.int n :: rest)) := by
  refine va_newa (atype := .boolean) (ty := .boolean) (a0 := (N', .inl (fun _ => 0))) hexec hb harr rfl E.1 V.1 V.2.1 V.2.2 E.2.2.2.2 (fun cA => rfl) hn hN hby hcells hslots hdg (fun q cA H1 hK hP hD hS => ?_)
  have hc : cA = g.2.1.2.1 := Option.some.inj ((hK.2 4 (cA, .boolean) rfl).2.symm.trans (E.1.2 1 (g.2.1.2.1, .boolean) rfl).2)
  subst hc
  rw [List.append_assoc] at hP hD
  exact kk q H1 ⟨hP, hD, hS⟩
theorem y_newB (hexec : p.tables.exec = Jvm.exec) (hb : c.code = cc) (V : zV g A (w ++ v0) s H locs) (E : zVE g A s) {own : String} {index : Nat} (hown : s.vm.findClass own = some m.cls) (hclink : (Cond.classLink own index RX0).before args s = true) {n : Int32} {N' : Nat} (hn : ¬ n < 0) (hN : n.toNatClampNeg = N') (hby : N' * 4 ≤ 536870912) (hcells : cells + 1 ≤ R.cells) (hslots : slots + N' ≤ R.slots) (hdg : decode cc pc = .ok (.anewarray index, 3)) (kk : ∀ (q : Nat) (H1 : Heap), zV g A (w ++ (v0 ++ [(q, .inl (g.2.1.2.2.1, N', .inr (.inr (.inr (.inr (fun _ => none))))))])) s H1 locs → W p l e R s m args below meth c H1 locs (cells + 1) (slots + N') Q (F0 m (pc + 3) ls (.ref q :: rest))) : W p l e R s m args below meth c H locs cells slots Q (F0 m pc ls (.int n :: rest)) := by
  refine va_newq (C := RX0) hexec hb hown hclink E.2.2.1 E.1 V.1 V.2.1 V.2.2 E.2.2.2.2 hn hN hby hcells hslots hdg (fun q cA H1 hK hP hD hS => ?_)
  obtain ⟨k1, c1, a1, a2, a3, a4⟩ := (hK.2 4 (cA, .object RX0) rfl).2
  obtain ⟨k2, c2, b1, b2, b3, b4⟩ := (E.1.2 2 (g.2.1.2.2.1, .object RX0) rfl).2
  have hc : cA = g.2.1.2.2.1 := Option.some.inj (a4.symm.trans b4)
  subst hc
  rw [List.append_assoc] at hP hD
  exact kk q H1 ⟨hP, hD, hS⟩
theorem y_newS (hexec : p.tables.exec = Jvm.exec) (hb : c.code = cc) (V : zV g A (w ++ v0) s H locs) (E : zVE g A s) {own : String} {index : Nat} (hown : s.vm.findClass own = some m.cls) (hclink : (Cond.classLink own index RX3).before args s = true) {n : Int32} {N' : Nat} (hn : ¬ n < 0) (hN : n.toNatClampNeg = N') (hby : N' * 4 ≤ 536870912) (hcells : cells + 1 ≤ R.cells) (hslots : slots + N' ≤ R.slots) (hdg : decode cc pc = .ok (.anewarray index, 3)) (kk : ∀ (q : Nat) (H1 : Heap), zV g A (w ++ (v0 ++ [(q, .inl (g.2.1.2.2.2, N', .inr (.inr (.inr (.inr (fun _ => none))))))])) s H1 locs → W p l e R s m args below meth c H1 locs (cells + 1) (slots + N') Q (F0 m (pc + 3) ls (.ref q :: rest))) : W p l e R s m args below meth c H locs cells slots Q (F0 m pc ls (.int n :: rest)) := by
  refine va_newq (C := RX3) hexec hb hown hclink E.2.2.2.1 E.1 V.1 V.2.1 V.2.2 E.2.2.2.2 hn hN hby hcells hslots hdg (fun q cA H1 hK hP hD hS => ?_)
  obtain ⟨k1, c1, a1, a2, a3, a4⟩ := (hK.2 4 (cA, .object RX3) rfl).2
  obtain ⟨k2, c2, b1, b2, b3, b4⟩ := (E.1.2 3 (g.2.1.2.2.2, .object RX3) rfl).2
  have hc : cA = g.2.1.2.2.2 := Option.some.inj (a4.symm.trans b4)
  subst hc
  rw [List.append_assoc] at hP hD
  exact kk q H1 ⟨hP, hD, hS⟩
theorem y_new (hexec : p.tables.exec = Jvm.exec) (hb : c.code = cc) (V : zV g A (w ++ v0) s H locs) (E : zVE g A s) {own C : String} {T : u_T} {N ci index : Nat} {Ts : List Cond} (hts : ∀ x ∈ Ts, x.before args s = true) (hin : ∀ x ∈ u_ws C T N, x ∈ Ts) (ty : Nat → FieldType) (hty : ∀ k, k < N → parseFieldDescriptor (T k).2.2.1 = some (ty k)) (hown : s.vm.findClass own = some m.cls) (hcl : (Cond.classLink own index C).before args s = true) (hinst : (Cond.instantiable C N).before args s = true) (hini : (Cond.initialized C).before args s = true) (hc : vwCl[ci]? = some (C, T, N)) {fs : List Value} (hfs : ∀ j, j < N → defaultValue (ty j) = vp_V fs j) (hcells : cells + 1 ≤ R.cells) (hslots : slots + N ≤ R.slots) (hdg : decode cc pc = .ok (.new index, 3)) (kk : ∀ (q : Nat) (H1 : Heap), zV g A (w ++ (v0 ++ [(q, .inr (ci, fs))])) s H1 locs → W p l e R s m args below meth c H1 locs (cells + 1) (slots + N) Q (F0 m (pc + 3) ls (.ref q :: rest))) : W p l e R s m args below meth c H locs cells slots Q (F0 m pc ls rest) := by
  refine va_new hexec hb hts hin ty hty hown hcl hinst hini E.1 V.1 V.2.1 V.2.2 E.2.2.2.2 hc hfs hcells hslots hdg (fun q H1 hP hD hS => ?_)
  rw [List.append_assoc] at hP hD
  exact kk q H1 ⟨hP, hD, hS⟩
theorem y_putF (hexec : p.tables.exec = Jvm.exec) (hb : c.code = cc) (V : zV g A (w ++ v0) s H locs) (E : zVE g A s) {own C : String} {T : u_T} {N ci index : Nat} {Ts : List Cond} (hts : ∀ x ∈ Ts, x.before args s = true) (hin : ∀ x ∈ u_ws C T N, x ∈ Ts) (ty0 : Nat → FieldType) (hty : ∀ k, k < N → parseFieldDescriptor (T k).2.2.1 = some (ty0 k)) (hnm : ∀ a, a < N → ∀ b, b < N → a ≠ b → (T a).2.1 ≠ (T b).2.1) (hown : s.vm.findClass own = some m.cls) (j : Nat) {a : Nat} {fs : List Value} (he : v0[j]? = some (a, .inr (ci, fs))) (hc : vwCl[ci]? = some (C, T, N)) (k : Nat) (hk : k < N) (hlink : (Cond.fieldLink own index (T k).1 (T k).2.1 (T k).2.2.1).before args s = true) (hfin : (T k).2.2.2 = true) (hin2 : meth.name = "<init>") (hdecl : (T k).1 = own) {v : Value} (hn : narrow (ty0 k) v = v) (hfit : fits (ty0 k) v = true) (hl : k < fs.length) (hdg : decode cc pc = .ok (.putfield index, 3)) (kk : ∀ (H1 : Heap) (locs1 : List Loc), zV g A (w ++ v0.set j (a, .inr (ci, fs.set k v))) s H1 locs1 → W p l e R s m args below meth c H1 locs1 cells slots Q (F0 m (pc + 3) ls rest)) : W p l e R s m args below meth c H locs cells slots Q (F0 m pc ls (v :: .ref a :: rest)) := by
  refine va_putF hexec hb hts hin ty0 hty hnm hown E.1 V.1 V.2.1 V.2.2 (w.length + j) (z_wl he) hc k hk hlink (fun _ h => h) hfin hin2 hdecl (hty k hk) hn hfit hl hdg (fun H1 locs1 hP hD hS => ?_)
  rw [z_ws] at hP hD
  exact kk H1 locs1 ⟨hP, hD, hS⟩
theorem y_put (hexec : p.tables.exec = Jvm.exec) (hb : c.code = cc) (V : zV g A (w ++ v0) s H locs) (E : zVE g A s) {own C : String} {T : u_T} {N ci index : Nat} {Ts : List Cond} (hts : ∀ x ∈ Ts, x.before args s = true) (hin : ∀ x ∈ u_ws C T N, x ∈ Ts) (ty0 : Nat → FieldType) (hty : ∀ k, k < N → parseFieldDescriptor (T k).2.2.1 = some (ty0 k)) (hnm : ∀ a, a < N → ∀ b, b < N → a ≠ b → (T a).2.1 ≠ (T b).2.1) (hown : s.vm.findClass own = some m.cls) (j : Nat) {a : Nat} {fs : List Value} (he : v0[j]? = some (a, .inr (ci, fs))) (hc : vwCl[ci]? = some (C, T, N)) (k : Nat) (hk : k < N) (hlink : (Cond.fieldLink own index (T k).1 (T k).2.1 (T k).2.2.1).before args s = true) (hfin : (T k).2.2.2 = false) {v : Value} (hn : narrow (ty0 k) v = v) (hfit : fits (ty0 k) v = true) (hl : k < fs.length) (hdg : decode cc pc = .ok (.putfield index, 3)) (kk : ∀ (H1 : Heap) (locs1 : List Loc), zV g A (w ++ v0.set j (a, .inr (ci, fs.set k v))) s H1 locs1 → W p l e R s m args below meth c H1 locs1 cells slots Q (F0 m (pc + 3) ls rest)) : W p l e R s m args below meth c H locs cells slots Q (F0 m pc ls (v :: .ref a :: rest)) := by
  refine va_put hexec hb hts hin ty0 hty hnm hown E.1 V.1 V.2.1 V.2.2 (w.length + j) (z_wl he) hc k hk hlink (fun _ h => h) hfin (hty k hk) hn hfit hl hdg (fun H1 locs1 hP hD hS => ?_)
  rw [z_ws] at hP hD
  exact kk H1 locs1 ⟨hP, hD, hS⟩
theorem y_get (hexec : p.tables.exec = Jvm.exec) (hb : c.code = cc) (V : zV g A (w ++ v0) s H locs) (E : zVE g A s) {own C : String} {T : u_T} {N ci index : Nat} {Ts : List Cond} (hts : ∀ x ∈ Ts, x.before args s = true) (hin : ∀ x ∈ u_ws C T N, x ∈ Ts) (hown : s.vm.findClass own = some m.cls) (j : Nat) {a : Nat} {fs : List Value} (he : v0[j]? = some (a, .inr (ci, fs))) (hc : vwCl[ci]? = some (C, T, N)) (k : Nat) (hk : k < N) (hlink : (Cond.fieldLink own index (T k).1 (T k).2.1 (T k).2.2.1).before args s = true) {v : Value} (hv : fs[k]? = some v) (hdg : decode cc pc = .ok (.getfield index, 3)) (kk : W p l e R s m args below meth c H locs cells slots Q (F0 m (pc + 3) ls (v :: rest))) : W p l e R s m args below meth c H locs cells slots Q (F0 m pc ls (.ref a :: rest)) :=
  va_get hexec hb hts hin hown E.1 V.1 (w.length + j) (z_wl he) hc k hk hlink (fun _ h => h) hv hdg kk
theorem y_iast (hexec : p.tables.exec = Jvm.exec) (hb : c.code = cc) (V : zV g A (w ++ v0) s H locs) (E : zVE g A s) (j : Nat) {a n : Nat} {f : Nat → Int32} (he : v0[j]? = some (a, .inl (g.2.1.1, n, .inl f))) {i x : Int32} (hin : zin i n) (hdg : decode cc pc = .ok (.iastore, 1)) (kk : ∀ (H1 : Heap) (locs1 : List Loc), zV g A (w ++ v0.set j (a, .inl (g.2.1.1, n, .inl (upd f i.toNatClampNeg x)))) s H1 locs1 → W p l e R s m args below meth c H1 locs1 cells slots Q (F0 m (pc + 1) ls rest)) : W p l e R s m args below meth c H locs cells slots Q (F0 m pc ls (.int x :: .int i :: .ref a :: rest)) := by
  refine va_iast hexec hb E.1 V.1 V.2.1 V.2.2 (w.length + j) 0 (z_wl he) rfl hin hdg (fun H1 locs1 hP hD hS => ?_)
  rw [z_ws] at hP hD
  exact kk H1 locs1 ⟨hP, hD, hS⟩
theorem y_aastB (hexec : p.tables.exec = Jvm.exec) (hb : c.code = cc) (V : zV g A (w ++ v0) s H locs) (E : zVE g A s) (j jk : Nat) {a n v : Nat} {vs : List Value} {f : Nat → Option Nat} (he : v0[j]? = some (a, .inl (g.2.1.2.2.1, n, .inr (.inr (.inr (.inr f)))))) (hv : v0[jk]? = some (v, .inr (0, vs))) {i : Int32} (hin : zin i n) (hdg : decode cc pc = .ok (.aastore, 1)) (kk : ∀ (H1 : Heap) (locs1 : List Loc), zV g A (w ++ v0.set j (a, .inl (g.2.1.2.2.1, n, .inr (.inr (.inr (.inr (va_up f i.toNatClampNeg (some v)))))))) s H1 locs1 → W p l e R s m args below meth c H1 locs1 cells slots Q (F0 m (pc + 1) ls rest)) : W p l e R s m args below meth c H locs cells slots Q (F0 m pc ls (.ref v :: .int i :: .ref a :: rest)) := by
  refine va_astq hexec hb E.1 V.1 V.2.1 V.2.2 (w.length + j) 2 (w.length + jk) 0 (r := (RX0, TX0, 10)) (z_wl he) rfl (z_wl hv) rfl hin hdg (fun H1 locs1 hP hD hS => ?_)
  rw [z_ws] at hP hD
  exact kk H1 locs1 ⟨hP, hD, hS⟩
theorem y_aastS (hexec : p.tables.exec = Jvm.exec) (hb : c.code = cc) (V : zV g A (w ++ v0) s H locs) (E : zVE g A s) (j jk : Nat) {a n v : Nat} {vs : List Value} {f : Nat → Option Nat} (he : v0[j]? = some (a, .inl (g.2.1.2.2.2, n, .inr (.inr (.inr (.inr f)))))) (hv : v0[jk]? = some (v, .inr (3, vs))) {i : Int32} (hin : zin i n) (hdg : decode cc pc = .ok (.aastore, 1)) (kk : ∀ (H1 : Heap) (locs1 : List Loc), zV g A (w ++ v0.set j (a, .inl (g.2.1.2.2.2, n, .inr (.inr (.inr (.inr (va_up f i.toNatClampNeg (some v)))))))) s H1 locs1 → W p l e R s m args below meth c H1 locs1 cells slots Q (F0 m (pc + 1) ls rest)) : W p l e R s m args below meth c H locs cells slots Q (F0 m pc ls (.ref v :: .int i :: .ref a :: rest)) := by
  refine va_astq hexec hb E.1 V.1 V.2.1 V.2.2 (w.length + j) 3 (w.length + jk) 3 (r := (RX3, TX3, 3)) (z_wl he) rfl (z_wl hv) rfl hin hdg (fun H1 locs1 hP hD hS => ?_)
  rw [z_ws] at hP hD
  exact kk H1 locs1 ⟨hP, hD, hS⟩
theorem y_pre (V : zV g A (w ++ v0) s H locs) (E : zVE g A s) {As : List Value} {ws' : va_W} (hw : w ++ v0 = ws') : PreS s H (zVc g A ws' As) As := by
  subst hw
  exact ⟨fun a U g' mk h => ⟨h.1, h.2.1, zVE_blind h.2.2 rfl rfl⟩, fun U hU hW => ⟨rfl, by rw [hU]; exact ⟨V.1, V.2.1⟩, zVE_go E V.2.2 hU hW⟩⟩
theorem y_call {a : Array Value} {mc ms : Nat} {F : (Nat → Nat) → va_W} (hr : va_Run p l e R s m args below meth c H locs cells slots mc ms (F0 m pc ls st0) rest (zVq g A F a) A) (V : zV g A (w ++ v0) s H locs) (kk : ∀ (u : Nat → Nat) (H1 : Heap) (locs1 : List Loc), zV g A (F u) s H1 locs1 → W p l e R s m args below meth c H1 locs1 (cells + mc) (slots + ms) Q (F0 m (pc + 3) ls rest)) : W p l e R s m args below meth c H locs cells slots Q (F0 m pc ls st0) :=
  va_callv hr V.2.2 (fun _ _ h => h) (fun _ h => h) (fun u t H1 locs1 ht _ _ hB _ _ hS => kk u H1 locs1 ⟨by rw [← ht]; exact hB.1, hB.2, hS⟩)
theorem y_vret (hexec : p.tables.exec = Jvm.exec) (hb : c.code = cc) (hr : meth.sig.returnType = none) (hlocks : meth.locks = false) {F : (Nat → Nat) → va_W} (V : zV g A (w ++ v0) s H locs) (u : Nat → Nat) (hF : w ++ v0 = F u) (hdg : decode cc pc = .ok (.return_, 1)) : W p l e R s m args below meth c H locs cells slots (MQ below (zVq g A F) args s cells slots A) (F0 m pc ls []) :=
  W.vret hexec hb hr (fun t ht hW => ⟨⟨u, rfl, trivial, by dsimp only; rw [ht, ← hF]; exact ⟨V.1, V.2.1⟩⟩, V.2.2.F ht⟩) V.2.2.2.2 hdg hlocks
theorem y_met {y : MethodName} {ws ws' : List Cond} {rm : Room} {Qc : Array Value → State → Outcome → State → Prop} {maxL mc ms : Nat} {ret : Option FieldType} {own : String} {W0 : va_W} (hy : plainName y.cls = true) (hw : ws = Cond.code y cc maxL ret :: ws') (ho : y.cls = own) (hi : y.name = "<init>") (av : List Value) (hn : (lg_sl av).length ≤ maxL) (body : ∀ (p : Program) (e : Env) (s : State) (m : MethodId) (below : List Frame) (meth : Method) (c : Code), zCx p s m av.toArray meth c cc ret ws own maxL → meth.name = "<init>" → zVE g A s → ∀ ls, lv_has ls maxL (lv_args 0 av) → zV g A W0 s s.heap [] → W p l e rm s m av.toArray below meth c s.heap [] 0 0 (MQ below Qc av.toArray s mc ms A) (F0 m 0 ls [])) : Met l y ws rm (zVc g A W0 av) Qc mc ms A := by
  refine Met.ofW (cc := cc) (maxL := maxL) (ret := ret) hy hw ?_
  intro p e s m args below meth c s₁ B hml hv
  obtain ⟨rfl, ⟨hP, hD⟩, hE⟩ := hv
  rw [lg_entry_eq]
  subst ho
  exact body p e s m below meth c ⟨B.exec, B.bytes, B.returns, hml, findClass_of_methodNamed B.named, atoms_spec (ws := ws) B.pre, B.notSynchronized⟩ ((name_of_methodNamed B.named B.method).1.trans hi) hE _ (lv_entry av hn) ⟨hP, hD, va_S.rf⟩
end ZCT
theorem zE_n {g : zG} {A : Nat → Prop} {s : State} (E : zVE g A s) (k : Nat) {a : String} {i : Nat} {y : MethodName} {h : String} (hk : zNm[k]? = some (a, i, y, h)) : va_Nw (.methodLinkNest a i y h) s := E.2.1.2 _ (List.mem_of_getElem? hk)

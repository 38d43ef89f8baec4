/-! THE CLAIM OUT OF ONE WALK OF THE LAW'S BODY. Your part is whole_start (and what it stands on); all else here is the same for every law, but numbers. -/
def R_law : String := "TownBandLaw"
def lw_P (b : Addr) (xs : List Int32) (args : Array Value) (s : State) : Prop := args = #[.ref b] ∧ s.IntsAt b xs ∧ xs.length ≤ 320 ∧ (Jvm.Cond.and given_1 narrow_1).before args s = true
def lw_Q (_ : Array Value) (s : State) (o : Outcome) (t : State) : Prop := o = .returned (some (.int 1)) ∧ Framed s o t [] 600000 7302250
def lw_Z (below : List Frame) (a : Array Value) (s : State) : State → Prop := fun t => ∃ o, t.status = .running ∧ Ended t below o ∧ lw_Q a s o t
/-- the law's own end, with 1 on the stack, nothing written that was there before, its room as the claim has it -/
theorem lw_ret {p : Program} {l : Launch} {e : Env} {s : State} {m : MethodId} {below : List Frame} {meth : Method} {c : Code} {b : Nat} (hx : p.tables.exec = Jvm.exec) (hb : c.code = code) (hr : meth.sig.returnType = ret) (hlocks : meth.locks = false) {pc : Nat} {H : Heap} {ls : Array Slot} (hdg : decode code pc = .ok (.ireturn, 1)) : W p l e room_1 s m #[Value.ref b] below meth c H [] 600000 7302250 (lw_Z below #[Value.ref b] s) (F0 m pc ls [.int 1]) := by
  intro T hT X
  obtain ⟨fs, hret, hrun, hended, hW, hframe⟩ := X.leave (v := some (.int 1)) (hlocks := hlocks) (fun h => by rw [hr] at h; cases h)
  have hmeth' : T.vm.method? m = some meth := X.method'
  refine ⟨T.setFrames fs, ?_, .returned (some (.int 1)), hrun, hended, rfl, ⟨_, rfl⟩, hW, hframe⟩
  jvm_step X.here [X.here.top, hx, hb, hdg, hmeth', hr, ret, narrow_b1]
  (try refine ⟨rfl, ?_⟩); (try refine ⟨rfl, ?_⟩)
  first | (intro acts; rw [hret _ acts rfl rfl rfl]) | rw [hret _ _ rfl rfl rfl]
  exact Steps.refl _
/-- what holds at the law's entry: the machine, the code, the tables' words (any of lw_tbl by 'hts w (by decide +kernel)'), the script of L ints xs at the cell b, what the Statement gives of the start (any of its parts by flat_of_before) -/
def lw_At (p : Program) (s : State) (m : MethodId) (meth : Method) (c : Code) (b L : Nat) (xs : Nat → Int32) : Prop :=
  p.tables.exec = Jvm.exec ∧ c.code = code ∧ meth.sig.returnType = ret ∧ c.maxLocals = 4 ∧ s.vm.findClass R_law = some m.cls ∧ (∀ w ∈ lw_tbl, w.before #[Value.ref b] s = true) ∧ va_X b L xs s s.heap ∧ b < s.heap.size ∧ meth.locks = false ∧ (Jvm.Cond.and given_1 narrow_1).before #[Value.ref b] s = true
def ok_feed (N : Nat) (Rel : zS → zS → Prop) : Prop := ∀ (σ τ : zS) (x1 : Int32), Rel σ τ → ∃ rx rm, fX6_feed N σ x1 = some rx ∧ fX7_feed N τ x1 = some rm ∧ rx.1 = rm.1 ∧ Rel rx.2 rm.2
def ok_end (N : Nat) (Rel : zS → zS → Prop) : Prop := ∀ (σ τ : zS) (x1 : Int32), Rel σ τ → ∃ rx rm, fX6_end N σ x1 = some rx ∧ fX7_end N τ x1 = some rm ∧ rx.1 = rm.1 ∧ Rel rx.2 rm.2
def ok_text (N : Nat) (Rel : zS → zS → Prop) : Prop := ∀ (σ τ : zS), Rel σ τ → ∃ rx rm, fX6_text N σ = some rx ∧ fX7_text N τ = some rm ∧ rx.1 = rm.1 ∧ Rel rx.2 rm.2
def ok_fault (N : Nat) (Rel : zS → zS → Prop) : Prop := ∀ (σ τ : zS), Rel σ τ → ∃ rx rm, fX6_fault N σ = some rx ∧ fX7_fault N τ = some rm ∧ rx = rm ∧ Rel σ τ
def ok_rule (N : Nat) (Rel : zS → zS → Prop) : Prop := ∀ (σ τ : zS) (x1 : Int32), Rel σ τ → ∃ rx rm, fX6_rule N σ x1 = some rx ∧ fX7_rule N τ x1 = some rm ∧ rx = rm ∧ Rel σ τ
def ok_beast (N : Nat) (Rel : zS → zS → Prop) : Prop := ∀ (σ τ : zS) (x1 x2 : Int32), Rel σ τ → ∃ rx rm, fX6_beast N σ x1 x2 = some rx ∧ fX7_beast N τ x1 x2 = some rm ∧ rx = rm ∧ Rel σ τ
def ok_robber (N : Nat) (Rel : zS → zS → Prop) : Prop := ∀ (σ τ : zS) (x1 : Int32), Rel σ τ → ∃ rx rm, fX6_robber N σ x1 = some rx ∧ fX7_robber N τ x1 = some rm ∧ rx = rm ∧ Rel σ τ
def ok_at (N : Nat) (Rel : zS → zS → Prop) : Prop := ∀ (σ τ : zS) (x1 x2 : Int32), Rel σ τ → ∃ rx rm, fX6_at N σ x1 x2 = some rx ∧ fX7_at N τ x1 x2 = some rm ∧ rx = rm ∧ Rel σ τ
def ok_alter (N : Nat) (Rel : zS → zS → Prop) : Prop := ∀ (σ τ : zS) (x1 x2 x3 : Int32), Rel σ τ → ∃ rx rm, fX6_alter N σ x1 x2 x3 = some rx ∧ fX7_alter N τ x1 x2 x3 = some rm ∧ rx.1 = rm.1 ∧ Rel rx.2 rm.2
def ok_steel (N : Nat) (Rel : zS → zS → Prop) : Prop := ∀ (σ τ : zS) (x1 x2 : Int32), Rel σ τ → ∃ rx rm, fX6_steel N σ x1 x2 = some rx ∧ fX7_steel N τ x1 x2 = some rm ∧ rx.1 = rm.1 ∧ Rel rx.2 rm.2
def ok_scout (N : Nat) (Rel : zS → zS → Prop) : Prop := ∀ (σ τ : zS) (x1 : Int32), Rel σ τ → ∃ rx rm, fX6_scout N σ x1 = some rx ∧ fX7_scout N τ x1 = some rm ∧ rx.1 = rm.1 ∧ Rel rx.2 rm.2
def ok_climb (N : Nat) (Rel : zS → zS → Prop) : Prop := ∀ (σ τ : zS) (x1 : Int32), Rel σ τ → ∃ rx rm, fX6_climb N σ x1 = some rx ∧ fX7_climb N τ x1 = some rm ∧ rx.1 = rm.1 ∧ Rel rx.2 rm.2
def ok_down (N : Nat) (Rel : zS → zS → Prop) : Prop := ∀ (σ τ : zS) (x1 : Int32), Rel σ τ → ∃ rx rm, fX6_down N σ x1 = some rx ∧ fX7_down N τ x1 = some rm ∧ rx.1 = rm.1 ∧ Rel rx.2 rm.2
def ok_swap (N : Nat) (Rel : zS → zS → Prop) : Prop := ∀ (σ τ : zS) (x1 x2 : Int32), Rel σ τ → ∃ rx rm, fX6_swap N σ x1 x2 = some rx ∧ fX7_swap N τ x1 x2 = some rm ∧ rx.1 = rm.1 ∧ Rel rx.2 rm.2
def ok_noise (N : Nat) (Rel : zS → zS → Prop) : Prop := ∀ (σ τ : zS), Rel σ τ → ∃ rx rm, fX6_noise N σ = some rx ∧ fX7_noise N τ = some rm ∧ rx = rm ∧ Rel σ τ
def ok_flight (N : Nat) (Rel : zS → zS → Prop) : Prop := ∀ (σ τ : zS) (x1 : Int32), Rel σ τ → ∃ rx rm, fX6_flight N σ x1 = some rx ∧ fX7_flight N τ x1 = some rm ∧ rx = rm ∧ Rel σ τ
def ok_free (N : Nat) (Rel : zS → zS → Prop) : Prop := ∀ (σ τ : zS), Rel σ τ → ∃ rx rm, fX6_free N σ = some rx ∧ fX7_free N τ = some rm ∧ rx = rm.1 ∧ Rel σ rm.2
def ok_need (N : Nat) (Rel : zS → zS → Prop) : Prop := ∀ (σ τ : zS), Rel σ τ → ∃ rx rm, fX6_need N σ = some rx ∧ fX7_need N τ = some rm ∧ rx = rm ∧ Rel σ τ
def ok_best (N : Nat) (Rel : zS → zS → Prop) : Prop := ∀ (σ τ : zS) (x1 : Int32), Rel σ τ → ∃ rx rm, fX6_best N σ x1 = some rx ∧ fX7_best N τ x1 = some rm ∧ rx.1 = rm.1 ∧ Rel rx.2 rm.2
def ok_few (N : Nat) (Rel : zS → zS → Prop) : Prop := ∀ (σ τ : zS) (x1 : Int32), Rel σ τ → ∃ rx rm, fX6_few N σ x1 = some rx ∧ fX7_few N τ x1 = some rm ∧ rx.1 = rm.1 ∧ Rel rx.2 rm.2
def ok_loud (N : Nat) (Rel : zS → zS → Prop) : Prop := ∀ (σ τ : zS) (x1 : Int32), Rel σ τ → ∃ rx rm, fX6_loud N σ x1 = some rx ∧ fX7_loud N τ x1 = some rm ∧ rx.1 = rm.1 ∧ Rel rx.2 rm.2
def ok_towers (N : Nat) (Rel : zS → zS → Prop) : Prop := ∀ (σ τ : zS), Rel σ τ → ∃ rx rm, fX6_towers N σ = some rx ∧ fX7_towers N τ = some rm ∧ rx.1 = rm.1 ∧ Rel rx.2 rm.2
def ok_tale (N : Nat) (Rel : zS → zS → Prop) : Prop := ∀ (σ τ : zS) (x1 : Int32), Rel σ τ → ∃ rx rm, fX6_tale N σ x1 = some rx ∧ fX7_tale N τ x1 = some rm ∧ rx = rm.1 ∧ Rel σ rm.2
def ok_beds (N : Nat) (Rel : zS → zS → Prop) : Prop := ∀ (σ τ : zS) (x1 : Int32), Rel σ τ → ∃ rx rm, fX6_beds N σ x1 = some rx ∧ fX7_beds N τ x1 = some rm ∧ rx.1 = rm.1 ∧ Rel rx.2 rm.2
def ok_brave (N : Nat) (Rel : zS → zS → Prop) : Prop := ∀ (σ τ : zS), Rel σ τ → ∃ rx rm, fX6_brave N σ = some rx ∧ fX7_brave N τ = some rm ∧ rx = rm ∧ Rel σ τ
def ok_value (N : Nat) (Rel : zS → zS → Prop) : Prop := ∀ (σ τ : zS) (x1 : Int32), Rel σ τ → ∃ rx rm, fX6_value N σ x1 = some rx ∧ fX7_value N τ x1 = some rm ∧ rx.1 = rm.1 ∧ Rel rx.2 rm.2
def ok_share (N : Nat) (Rel : zS → zS → Prop) : Prop := ∀ (σ τ : zS) (x1 x2 : Int32), Rel σ τ → ∃ rx rm, fX6_share N σ x1 x2 = some rx ∧ fX7_share N τ x1 x2 = some rm ∧ rx.1 = rm.1 ∧ Rel rx.2 rm.2
def ok_mean (N : Nat) (Rel : zS → zS → Prop) : Prop := ∀ (σ τ : zS) (x1 x2 : Int32), Rel σ τ → ∃ rx rm, fX6_mean N σ x1 x2 = some rx ∧ fX7_mean N τ x1 x2 = some rm ∧ rx.1 = rm ∧ Rel rx.2 τ
def ok_luck (N : Nat) (Rel : zS → zS → Prop) : Prop := ∀ (σ τ : zS) (x1 x2 : Int32), Rel σ τ → ∃ rx rm, fX6_luck N σ x1 x2 = some rx ∧ fX7_luck N τ x1 x2 = some rm ∧ rx.1 = rm ∧ Rel rx.2 τ
def ok_see (N : Nat) (Rel : zS → zS → Prop) : Prop := ∀ (σ τ : zS) (x1 x2 : Int32), Rel σ τ → ∃ rx rm, fX6_see N σ x1 x2 = some rx ∧ fX7_see N τ x1 x2 = some rm ∧ rx.1 = rm.1 ∧ Rel rx.2 rm.2
def ok_forget (N : Nat) (Rel : zS → zS → Prop) : Prop := ∀ (σ τ : zS) (x1 : Int32), Rel σ τ → ∃ rx rm, fX6_forget N σ x1 = some rx ∧ fX7_forget N τ x1 = some rm ∧ rx.1 = rm.1 ∧ Rel rx.2 rm.2
def ok_fits (N : Nat) (Rel : zS → zS → Prop) : Prop := ∀ (σ τ : zS) (x1 : Int32), Rel σ τ → ∃ rx rm, fX6_fits N σ x1 = some rx ∧ fX7_fits N τ x1 = some rm ∧ rx.1 = rm ∧ Rel rx.2 τ
def ok_ask (N : Nat) (Rel : zS → zS → Prop) : Prop := ∀ (σ τ : zS) (x1 : Int32), Rel σ τ → ∃ rx rm, fX6_ask N σ x1 = some rx ∧ fX7_ask N τ x1 = some rm ∧ rx.1 = rm.1 ∧ Rel rx.2 rm.2
def ok_drift (N : Nat) (Rel : zS → zS → Prop) : Prop := ∀ (σ τ : zS) (x1 x2 x3 : Int32), Rel σ τ → ∃ rx rm, fX6_drift N σ x1 x2 x3 = some rx ∧ fX7_drift N τ x1 x2 x3 = some rm ∧ rx.1 = rm.1 ∧ Rel rx.2 rm.2
def ok_keep (N : Nat) (Rel : zS → zS → Prop) : Prop := ∀ (σ τ : zS) (x1 : Int32), Rel σ τ → ∃ rx rm, fX6_keep N σ x1 = some rx ∧ fX7_keep N τ x1 = some rm ∧ rx.1 = rm.1 ∧ Rel rx.2 rm.2
def ok_back (N : Nat) (Rel : zS → zS → Prop) : Prop := ∀ (σ τ : zS) (x1 : Int32), Rel σ τ → ∃ rx rm, fX6_back N σ x1 = some rx ∧ fX7_back N τ x1 = some rm ∧ rx.1 = rm.1 ∧ Rel rx.2 rm.2
def ok_sheet (N : Nat) (Rel : zS → zS → Prop) : Prop := ∀ (σ τ : zS) (x1 x2 x3 : Int32), Rel σ τ → ∃ rx rm, fX6_sheet N σ x1 x2 x3 = some rx ∧ fX7_sheet N τ x1 x2 x3 = some rm ∧ rx.1 = rm.1 ∧ Rel rx.2 rm.2
def ok_lay (N : Nat) (Rel : zS → zS → Prop) : Prop := ∀ (σ τ : zS) (x1 x2 x3 : Int32), Rel σ τ → ∃ rx rm, fX6_lay N σ x1 x2 x3 = some rx ∧ fX7_lay N τ x1 x2 x3 = some rm ∧ rx.1 = rm.1 ∧ Rel rx.2 rm.2
def ok_read (N : Nat) (Rel : zS → zS → Prop) : Prop := ∀ (σ τ : zS) (x1 x2 x3 x4 : Int32), Rel σ τ → ∃ rx rm, fX6_read N σ x1 x2 x3 x4 = some rx ∧ fX7_read N τ x1 x2 x3 x4 = some rm ∧ rx.1 = rm.1 ∧ Rel rx.2 rm.2
def ok_torn (N : Nat) (Rel : zS → zS → Prop) : Prop := ∀ (σ τ : zS), Rel σ τ → ∃ rx rm, fX6_torn N σ = some rx ∧ fX7_torn N τ = some rm ∧ rx = rm ∧ Rel σ τ
def ok_count (N : Nat) (Rel : zS → zS → Prop) : Prop := ∀ (σ τ : zS) (x1 : Int32), Rel σ τ → ∃ rx rm, fX6_count N σ x1 = some rx ∧ fX7_count N τ x1 = some rm ∧ rx = rm ∧ Rel σ τ
def okAll (N : Nat) (Rel : zS → zS → Prop) : Prop := ok_feed N Rel ∧ ok_end N Rel ∧ ok_text N Rel ∧ ok_fault N Rel ∧ ok_rule N Rel ∧ ok_beast N Rel ∧ ok_robber N Rel ∧ ok_at N Rel ∧ ok_alter N Rel ∧ ok_steel N Rel ∧ ok_scout N Rel ∧ ok_climb N Rel ∧ ok_down N Rel ∧ ok_swap N Rel ∧ ok_noise N Rel ∧ ok_flight N Rel ∧ ok_free N Rel ∧ ok_need N Rel ∧ ok_best N Rel ∧ ok_few N Rel ∧ ok_loud N Rel ∧ ok_towers N Rel ∧ ok_tale N Rel ∧ ok_beds N Rel ∧ ok_brave N Rel ∧ ok_value N Rel ∧ ok_share N Rel ∧ ok_mean N Rel ∧ ok_luck N Rel ∧ ok_see N Rel ∧ ok_forget N Rel ∧ ok_fits N Rel ∧ ok_ask N Rel ∧ ok_drift N Rel ∧ ok_keep N Rel ∧ ok_back N Rel ∧ ok_sheet N Rel ∧ ok_lay N Rel ∧ ok_read N Rel ∧ ok_torn N Rel ∧ ok_count N Rel
theorem lg_cmp_self (x : Int64) : lg_cmp x x = 0 := by unfold lg_cmp; simp
abbrev lwA (s : State) : Nat → Prop := fun q => s.heap.size ≤ q
def lawP (p : Program) (l : Launch) (e : Env) (s : State) (m : MethodId) (below : List Frame) (meth : Method) (c : Code) (g : zG) (b : Nat) (Rel : zS → zS → Prop) (pc : Nat) (i : Int32) : Prop := ∀ (σ τ : zS), Rel σ τ → ∀ (H : Heap) (locs : List Loc) (ls : Array Slot), zW g (lwA s) σ τ s H locs → lv_has ls 4 [(0, .ref b), (1, .ref (g.2.2 54)), (2, .ref (g.2.2 66)), (3, .int i)] → W p l e room_1 s m #[Value.ref b] below meth c H locs 67 1495 (lw_Z below #[Value.ref b] s) (F0 m pc ls [])
set_option maxRecDepth 100000 in
set_option maxHeartbeats 4000000 in
theorem law_feed {p : Program} {l : Launch} {e : Env} {s : State} {m : MethodId} {below : List Frame} {meth : Method} {c : Code} {g : zG} {b L : Nat} {xs : Nat → Int32} (C0 : lw_At p s m meth c b L xs) (E : zE g (lwA s) s) {N : Nat} {Rel : zS → zS → Prop} (K : ok_feed N Rel) {i : Int32} (h_1 : vp_in (i + 1) L) (next : lawP p l e s m below meth c g b Rel 1268 i) : lawP p l e s m below meth c g b Rel 212 i := by
  obtain ⟨hx, hb, hr, hml, hown, hts, hX, hbl, hlocks, hgv⟩ := C0
  have hb : c.code = cL_law := hb
  have hts := fun w h => hts w (wsL_law_in w h)
  have hbA : ¬ lwA s b := Nat.not_le.mpr hbl
  intro σ τ hrel H locs ls hh hl
  obtain ⟨rx, rm, hfx, hfm, he, hR⟩ := K σ τ (xs (i + 1).toNatClampNeg) hrel
  refine lv_aload_n hx hb dL_law_212 rfl (lv_at hl 1 rfl) ?_
  refine lv_aload_n hx hb dL_law_213 rfl (lv_at hl 0 rfl) ?_
  refine lv_iload_n hx hb dL_law_214 rfl (lv_at hl 3 rfl) ?_
  refine lv_iconst (v := 1) hx hb dL_law_215 (by decide) ?_
  refine lv_iadd hx hb dL_law_216 ?_
  refine va_sld hx hb hX hbl hbA hh.2 h_1 dL_law_217 ?_
  refine z_xi (va_runV (As := [.int (xs (i + 1).toNatClampNeg)]) (rest := []) ⟨hx, hb, hml, hown, hts⟩ (zcX6_feed l g (lwA s) σ τ N (xs (i + 1).toNatClampNeg) hfx) (cwV 1 hts gL_law_X6_feed rfl rfl rfl hdX6_feed ⟨by decide, by decide⟩) (z_preV E hh (by decide) (zC_obj (q := 54) rfl) rfl) rfl rfl hl.1 rfl (lv_room (Nat.le_of_ble_eq_true rfl)) dL_law_218 ⟨by decide, by decide⟩) hh (fun H locs hh => ?_)
  refine lv_aload_n hx hb dL_law_221 rfl (lv_at hl 2 rfl) ?_
  refine lv_aload_n hx hb dL_law_222 rfl (lv_at hl 0 rfl) ?_
  refine lv_iload_n hx hb dL_law_223 rfl (lv_at hl 3 rfl) ?_
  refine lv_iconst (v := 1) hx hb dL_law_224 (by decide) ?_
  refine lv_iadd hx hb dL_law_225 ?_
  refine va_sld hx hb hX hbl hbA hh.2 h_1 dL_law_226 ?_
  refine z_mi (va_runV (As := [.int (xs (i + 1).toNatClampNeg)]) (rest := [.int rx.1]) ⟨hx, hb, hml, hown, hts⟩ (zcX7_feed l g (lwA s) rx.2 τ N (xs (i + 1).toNatClampNeg) hfm) (cwV 1 hts gL_law_X7_feed rfl rfl rfl hdX7_feed ⟨by decide, by decide⟩) (z_preV E hh (by decide) (zC_obj (q := 66) rfl) rfl) rfl rfl hl.1 rfl (lv_room (Nat.le_of_ble_eq_true rfl)) dL_law_227 ⟨by decide, by decide⟩) hh (fun H locs hh => ?_)
  refine lv_icmp_eq (tgt := 1268) hx hb dL_law_230 (by decide) (fun c1 => ?_) (fun c1 => absurd he c1)
  exact next rx.2 rm.2 hR _ _ _ hh hl
set_option maxRecDepth 100000 in
set_option maxHeartbeats 4000000 in
theorem law_end {p : Program} {l : Launch} {e : Env} {s : State} {m : MethodId} {below : List Frame} {meth : Method} {c : Code} {g : zG} {b L : Nat} {xs : Nat → Int32} (C0 : lw_At p s m meth c b L xs) (E : zE g (lwA s) s) {N : Nat} {Rel : zS → zS → Prop} (K : ok_end N Rel) {i : Int32} (h_1 : vp_in (i + 1) L) (next : lawP p l e s m below meth c g b Rel 1268 i) : lawP p l e s m below meth c g b Rel 235 i := by
  obtain ⟨hx, hb, hr, hml, hown, hts, hX, hbl, hlocks, hgv⟩ := C0
  have hb : c.code = cL_law := hb
  have hts := fun w h => hts w (wsL_law_in w h)
  have hbA : ¬ lwA s b := Nat.not_le.mpr hbl
  intro σ τ hrel H locs ls hh hl
  obtain ⟨rx, rm, hfx, hfm, he, hR⟩ := K σ τ (xs (i + 1).toNatClampNeg) hrel
  refine lv_aload_n hx hb dL_law_235 rfl (lv_at hl 1 rfl) ?_
  refine lv_aload_n hx hb dL_law_236 rfl (lv_at hl 0 rfl) ?_
  refine lv_iload_n hx hb dL_law_237 rfl (lv_at hl 3 rfl) ?_
  refine lv_iconst (v := 1) hx hb dL_law_238 (by decide) ?_
  refine lv_iadd hx hb dL_law_239 ?_
  refine va_sld hx hb hX hbl hbA hh.2 h_1 dL_law_240 ?_
  refine z_xi (va_runV (As := [.int (xs (i + 1).toNatClampNeg)]) (rest := []) ⟨hx, hb, hml, hown, hts⟩ (zcX6_end l g (lwA s) σ τ N (xs (i + 1).toNatClampNeg) hfx) (cwV 1 hts gL_law_X6_end rfl rfl rfl hdX6_end ⟨by decide, by decide⟩) (z_preV E hh (by decide) (zC_obj (q := 54) rfl) rfl) rfl rfl hl.1 rfl (lv_room (Nat.le_of_ble_eq_true rfl)) dL_law_241 ⟨by decide, by decide⟩) hh (fun H locs hh => ?_)
  refine lv_aload_n hx hb dL_law_244 rfl (lv_at hl 2 rfl) ?_
  refine lv_aload_n hx hb dL_law_245 rfl (lv_at hl 0 rfl) ?_
  refine lv_iload_n hx hb dL_law_246 rfl (lv_at hl 3 rfl) ?_
  refine lv_iconst (v := 1) hx hb dL_law_247 (by decide) ?_
  refine lv_iadd hx hb dL_law_248 ?_
  refine va_sld hx hb hX hbl hbA hh.2 h_1 dL_law_249 ?_
  refine z_mi (va_runV (As := [.int (xs (i + 1).toNatClampNeg)]) (rest := [.int rx.1]) ⟨hx, hb, hml, hown, hts⟩ (zcX7_end l g (lwA s) rx.2 τ N (xs (i + 1).toNatClampNeg) hfm) (cwV 1 hts gL_law_X7_end rfl rfl rfl hdX7_end ⟨by decide, by decide⟩) (z_preV E hh (by decide) (zC_obj (q := 66) rfl) rfl) rfl rfl hl.1 rfl (lv_room (Nat.le_of_ble_eq_true rfl)) dL_law_250 ⟨by decide, by decide⟩) hh (fun H locs hh => ?_)
  refine lv_icmp_eq (tgt := 1268) hx hb dL_law_253 (by decide) (fun c1 => ?_) (fun c1 => absurd he c1)
  exact next rx.2 rm.2 hR _ _ _ hh hl
set_option maxRecDepth 100000 in
set_option maxHeartbeats 4000000 in
theorem law_text {p : Program} {l : Launch} {e : Env} {s : State} {m : MethodId} {below : List Frame} {meth : Method} {c : Code} {g : zG} {b L : Nat} {xs : Nat → Int32} (C0 : lw_At p s m meth c b L xs) (E : zE g (lwA s) s) {N : Nat} {Rel : zS → zS → Prop} (K : ok_text N Rel) {i : Int32}  (next : lawP p l e s m below meth c g b Rel 1268 i) : lawP p l e s m below meth c g b Rel 258 i := by
  obtain ⟨hx, hb, hr, hml, hown, hts, hX, hbl, hlocks, hgv⟩ := C0
  have hb : c.code = cL_law := hb
  have hts := fun w h => hts w (wsL_law_in w h)
  have hbA : ¬ lwA s b := Nat.not_le.mpr hbl
  intro σ τ hrel H locs ls hh hl
  obtain ⟨rx, rm, hfx, hfm, he, hR⟩ := K σ τ  hrel
  refine lv_aload_n hx hb dL_law_258 rfl (lv_at hl 1 rfl) ?_
  refine z_xi (va_runV (As := []) (rest := []) ⟨hx, hb, hml, hown, hts⟩ (zcX6_text l g (lwA s) σ τ N  hfx) (cwV 0 hts gL_law_X6_text rfl rfl rfl hdX6_text ⟨by decide, by decide⟩) (z_preV E hh (by decide) (zC_obj (q := 54) rfl) rfl) rfl rfl hl.1 rfl (lv_room (Nat.le_of_ble_eq_true rfl)) dL_law_259 ⟨by decide, by decide⟩) hh (fun H locs hh => ?_)
  refine lv_aload_n hx hb dL_law_262 rfl (lv_at hl 2 rfl) ?_
  refine z_mi (va_runV (As := []) (rest := [.int rx.1]) ⟨hx, hb, hml, hown, hts⟩ (zcX7_text l g (lwA s) rx.2 τ N  hfm) (cwV 0 hts gL_law_X7_text rfl rfl rfl hdX7_text ⟨by decide, by decide⟩) (z_preV E hh (by decide) (zC_obj (q := 66) rfl) rfl) rfl rfl hl.1 rfl (lv_room (Nat.le_of_ble_eq_true rfl)) dL_law_263 ⟨by decide, by decide⟩) hh (fun H locs hh => ?_)
  refine lv_icmp_eq (tgt := 1268) hx hb dL_law_266 (by decide) (fun c1 => ?_) (fun c1 => absurd he c1)
  exact next rx.2 rm.2 hR _ _ _ hh hl
set_option maxRecDepth 100000 in
set_option maxHeartbeats 4000000 in
theorem law_fault {p : Program} {l : Launch} {e : Env} {s : State} {m : MethodId} {below : List Frame} {meth : Method} {c : Code} {g : zG} {b L : Nat} {xs : Nat → Int32} (C0 : lw_At p s m meth c b L xs) (E : zE g (lwA s) s) {N : Nat} {Rel : zS → zS → Prop} (K : ok_fault N Rel) {i : Int32}  (next : lawP p l e s m below meth c g b Rel 1268 i) : lawP p l e s m below meth c g b Rel 271 i := by
  obtain ⟨hx, hb, hr, hml, hown, hts, hX, hbl, hlocks, hgv⟩ := C0
  have hb : c.code = cL_law := hb
  have hts := fun w h => hts w (wsL_law_in w h)
  have hbA : ¬ lwA s b := Nat.not_le.mpr hbl
  intro σ τ hrel H locs ls hh hl
  obtain ⟨rx, rm, hfx, hfm, he, hR⟩ := K σ τ  hrel
  refine lv_aload_n hx hb dL_law_271 rfl (lv_at hl 1 rfl) ?_
  refine z_xi (va_runV (As := []) (rest := []) ⟨hx, hb, hml, hown, hts⟩ (zcX6_fault l g (lwA s) σ τ N  hfx) (cwV 0 hts gL_law_X6_fault rfl rfl rfl hdX6_fault ⟨by decide, by decide⟩) (z_preV E hh (by decide) (zC_obj (q := 54) rfl) rfl) rfl rfl hl.1 rfl (lv_room (Nat.le_of_ble_eq_true rfl)) dL_law_272 ⟨by decide, by decide⟩) hh (fun H locs hh => ?_)
  refine lv_aload_n hx hb dL_law_275 rfl (lv_at hl 2 rfl) ?_
  refine z_mi (va_runV (As := []) (rest := [.int rx]) ⟨hx, hb, hml, hown, hts⟩ (zcX7_fault l g (lwA s) σ τ N  hfm) (cwV 0 hts gL_law_X7_fault rfl rfl rfl hdX7_fault ⟨by decide, by decide⟩) (z_preV E hh (by decide) (zC_obj (q := 66) rfl) rfl) rfl rfl hl.1 rfl (lv_room (Nat.le_of_ble_eq_true rfl)) dL_law_276 ⟨by decide, by decide⟩) hh (fun H locs hh => ?_)
  refine lv_icmp_eq (tgt := 1268) hx hb dL_law_279 (by decide) (fun c1 => ?_) (fun c1 => absurd he c1)
  exact next σ τ hR _ _ _ hh hl
set_option maxRecDepth 100000 in
set_option maxHeartbeats 4000000 in
theorem law_rule {p : Program} {l : Launch} {e : Env} {s : State} {m : MethodId} {below : List Frame} {meth : Method} {c : Code} {g : zG} {b L : Nat} {xs : Nat → Int32} (C0 : lw_At p s m meth c b L xs) (E : zE g (lwA s) s) {N : Nat} {Rel : zS → zS → Prop} (K : ok_rule N Rel) {i : Int32} (h_1 : vp_in (i + 1) L) (next : lawP p l e s m below meth c g b Rel 1268 i) : lawP p l e s m below meth c g b Rel 284 i := by
  obtain ⟨hx, hb, hr, hml, hown, hts, hX, hbl, hlocks, hgv⟩ := C0
  have hb : c.code = cL_law := hb
  have hts := fun w h => hts w (wsL_law_in w h)
  have hbA : ¬ lwA s b := Nat.not_le.mpr hbl
  intro σ τ hrel H locs ls hh hl
  obtain ⟨rx, rm, hfx, hfm, he, hR⟩ := K σ τ (xs (i + 1).toNatClampNeg) hrel
  refine lv_aload_n hx hb dL_law_284 rfl (lv_at hl 1 rfl) ?_
  refine lv_aload_n hx hb dL_law_285 rfl (lv_at hl 0 rfl) ?_
  refine lv_iload_n hx hb dL_law_286 rfl (lv_at hl 3 rfl) ?_
  refine lv_iconst (v := 1) hx hb dL_law_287 (by decide) ?_
  refine lv_iadd hx hb dL_law_288 ?_
  refine va_sld hx hb hX hbl hbA hh.2 h_1 dL_law_289 ?_
  refine z_xi (va_runV (As := [.int (xs (i + 1).toNatClampNeg)]) (rest := []) ⟨hx, hb, hml, hown, hts⟩ (zcX6_rule l g (lwA s) σ τ N (xs (i + 1).toNatClampNeg) hfx) (cwV 1 hts gL_law_X6_rule rfl rfl rfl hdX6_rule ⟨by decide, by decide⟩) (z_preV E hh (by decide) (zC_obj (q := 54) rfl) rfl) rfl rfl hl.1 rfl (lv_room (Nat.le_of_ble_eq_true rfl)) dL_law_290 ⟨by decide, by decide⟩) hh (fun H locs hh => ?_)
  refine lv_aload_n hx hb dL_law_293 rfl (lv_at hl 2 rfl) ?_
  refine lv_aload_n hx hb dL_law_294 rfl (lv_at hl 0 rfl) ?_
  refine lv_iload_n hx hb dL_law_295 rfl (lv_at hl 3 rfl) ?_
  refine lv_iconst (v := 1) hx hb dL_law_296 (by decide) ?_
  refine lv_iadd hx hb dL_law_297 ?_
  refine va_sld hx hb hX hbl hbA hh.2 h_1 dL_law_298 ?_
  refine z_mi (va_runV (As := [.int (xs (i + 1).toNatClampNeg)]) (rest := [.int rx]) ⟨hx, hb, hml, hown, hts⟩ (zcX7_rule l g (lwA s) σ τ N (xs (i + 1).toNatClampNeg) hfm) (cwV 1 hts gL_law_X7_rule rfl rfl rfl hdX7_rule ⟨by decide, by decide⟩) (z_preV E hh (by decide) (zC_obj (q := 66) rfl) rfl) rfl rfl hl.1 rfl (lv_room (Nat.le_of_ble_eq_true rfl)) dL_law_299 ⟨by decide, by decide⟩) hh (fun H locs hh => ?_)
  refine lv_icmp_eq (tgt := 1268) hx hb dL_law_302 (by decide) (fun c1 => ?_) (fun c1 => absurd he c1)
  exact next σ τ hR _ _ _ hh hl
set_option maxRecDepth 100000 in
set_option maxHeartbeats 4000000 in
theorem law_beast {p : Program} {l : Launch} {e : Env} {s : State} {m : MethodId} {below : List Frame} {meth : Method} {c : Code} {g : zG} {b L : Nat} {xs : Nat → Int32} (C0 : lw_At p s m meth c b L xs) (E : zE g (lwA s) s) {N : Nat} {Rel : zS → zS → Prop} (K : ok_beast N Rel) {i : Int32} (h_1 : vp_in (i + 1) L) (h_2 : vp_in (i + 2) L) (next : lawP p l e s m below meth c g b Rel 1268 i) : lawP p l e s m below meth c g b Rel 307 i := by
  obtain ⟨hx, hb, hr, hml, hown, hts, hX, hbl, hlocks, hgv⟩ := C0
  have hb : c.code = cL_law := hb
  have hts := fun w h => hts w (wsL_law_in w h)
  have hbA : ¬ lwA s b := Nat.not_le.mpr hbl
  intro σ τ hrel H locs ls hh hl
  obtain ⟨rx, rm, hfx, hfm, he, hR⟩ := K σ τ (xs (i + 1).toNatClampNeg) (xs (i + 2).toNatClampNeg) hrel
  refine lv_aload_n hx hb dL_law_307 rfl (lv_at hl 1 rfl) ?_
  refine lv_aload_n hx hb dL_law_308 rfl (lv_at hl 0 rfl) ?_
  refine lv_iload_n hx hb dL_law_309 rfl (lv_at hl 3 rfl) ?_
  refine lv_iconst (v := 1) hx hb dL_law_310 (by decide) ?_
  refine lv_iadd hx hb dL_law_311 ?_
  refine va_sld hx hb hX hbl hbA hh.2 h_1 dL_law_312 ?_
  refine lv_aload_n hx hb dL_law_313 rfl (lv_at hl 0 rfl) ?_
  refine lv_iload_n hx hb dL_law_314 rfl (lv_at hl 3 rfl) ?_
  refine lv_iconst (v := 2) hx hb dL_law_315 (by decide) ?_
  refine lv_iadd hx hb dL_law_316 ?_
  refine va_sld hx hb hX hbl hbA hh.2 h_2 dL_law_317 ?_
  refine z_xi (va_runV (As := [.int (xs (i + 1).toNatClampNeg), .int (xs (i + 2).toNatClampNeg)]) (rest := []) ⟨hx, hb, hml, hown, hts⟩ (zcX6_beast l g (lwA s) σ τ N (xs (i + 1).toNatClampNeg) (xs (i + 2).toNatClampNeg) hfx) (cwV 2 hts gL_law_X6_beast rfl rfl rfl hdX6_beast ⟨by decide, by decide⟩) (z_preV E hh (by decide) (zC_obj (q := 54) rfl) rfl) rfl rfl hl.1 rfl (lv_room (Nat.le_of_ble_eq_true rfl)) dL_law_318 ⟨by decide, by decide⟩) hh (fun H locs hh => ?_)
  refine lv_aload_n hx hb dL_law_321 rfl (lv_at hl 2 rfl) ?_
  refine lv_aload_n hx hb dL_law_322 rfl (lv_at hl 0 rfl) ?_
  refine lv_iload_n hx hb dL_law_323 rfl (lv_at hl 3 rfl) ?_
  refine lv_iconst (v := 1) hx hb dL_law_324 (by decide) ?_
  refine lv_iadd hx hb dL_law_325 ?_
  refine va_sld hx hb hX hbl hbA hh.2 h_1 dL_law_326 ?_
  refine lv_aload_n hx hb dL_law_327 rfl (lv_at hl 0 rfl) ?_
  refine lv_iload_n hx hb dL_law_328 rfl (lv_at hl 3 rfl) ?_
  refine lv_iconst (v := 2) hx hb dL_law_329 (by decide) ?_
  refine lv_iadd hx hb dL_law_330 ?_
  refine va_sld hx hb hX hbl hbA hh.2 h_2 dL_law_331 ?_
  refine z_mi (va_runV (As := [.int (xs (i + 1).toNatClampNeg), .int (xs (i + 2).toNatClampNeg)]) (rest := [.int rx]) ⟨hx, hb, hml, hown, hts⟩ (zcX7_beast l g (lwA s) σ τ N (xs (i + 1).toNatClampNeg) (xs (i + 2).toNatClampNeg) hfm) (cwV 2 hts gL_law_X7_beast rfl rfl rfl hdX7_beast ⟨by decide, by decide⟩) (z_preV E hh (by decide) (zC_obj (q := 66) rfl) rfl) rfl rfl hl.1 rfl (lv_room (Nat.le_of_ble_eq_true rfl)) dL_law_332 ⟨by decide, by decide⟩) hh (fun H locs hh => ?_)
  refine lv_icmp_eq (tgt := 1268) hx hb dL_law_335 (by decide) (fun c1 => ?_) (fun c1 => absurd he c1)
  exact next σ τ hR _ _ _ hh hl
set_option maxRecDepth 100000 in
set_option maxHeartbeats 4000000 in
theorem law_robber {p : Program} {l : Launch} {e : Env} {s : State} {m : MethodId} {below : List Frame} {meth : Method} {c : Code} {g : zG} {b L : Nat} {xs : Nat → Int32} (C0 : lw_At p s m meth c b L xs) (E : zE g (lwA s) s) {N : Nat} {Rel : zS → zS → Prop} (K : ok_robber N Rel) {i : Int32} (h_1 : vp_in (i + 1) L) (next : lawP p l e s m below meth c g b Rel 1268 i) : lawP p l e s m below meth c g b Rel 340 i := by
  obtain ⟨hx, hb, hr, hml, hown, hts, hX, hbl, hlocks, hgv⟩ := C0
  have hb : c.code = cL_law := hb
  have hts := fun w h => hts w (wsL_law_in w h)
  have hbA : ¬ lwA s b := Nat.not_le.mpr hbl
  intro σ τ hrel H locs ls hh hl
  obtain ⟨rx, rm, hfx, hfm, he, hR⟩ := K σ τ (xs (i + 1).toNatClampNeg) hrel
  refine lv_aload_n hx hb dL_law_340 rfl (lv_at hl 1 rfl) ?_
  refine lv_aload_n hx hb dL_law_341 rfl (lv_at hl 0 rfl) ?_
  refine lv_iload_n hx hb dL_law_342 rfl (lv_at hl 3 rfl) ?_
  refine lv_iconst (v := 1) hx hb dL_law_343 (by decide) ?_
  refine lv_iadd hx hb dL_law_344 ?_
  refine va_sld hx hb hX hbl hbA hh.2 h_1 dL_law_345 ?_
  refine z_xi (va_runV (As := [.int (xs (i + 1).toNatClampNeg)]) (rest := []) ⟨hx, hb, hml, hown, hts⟩ (zcX6_robber l g (lwA s) σ τ N (xs (i + 1).toNatClampNeg) hfx) (cwV 1 hts gL_law_X6_robber rfl rfl rfl hdX6_robber ⟨by decide, by decide⟩) (z_preV E hh (by decide) (zC_obj (q := 54) rfl) rfl) rfl rfl hl.1 rfl (lv_room (Nat.le_of_ble_eq_true rfl)) dL_law_346 ⟨by decide, by decide⟩) hh (fun H locs hh => ?_)
  refine lv_aload_n hx hb dL_law_349 rfl (lv_at hl 2 rfl) ?_
  refine lv_aload_n hx hb dL_law_350 rfl (lv_at hl 0 rfl) ?_
  refine lv_iload_n hx hb dL_law_351 rfl (lv_at hl 3 rfl) ?_
  refine lv_iconst (v := 1) hx hb dL_law_352 (by decide) ?_
  refine lv_iadd hx hb dL_law_353 ?_
  refine va_sld hx hb hX hbl hbA hh.2 h_1 dL_law_354 ?_
  refine z_mi (va_runV (As := [.int (xs (i + 1).toNatClampNeg)]) (rest := [.int rx]) ⟨hx, hb, hml, hown, hts⟩ (zcX7_robber l g (lwA s) σ τ N (xs (i + 1).toNatClampNeg) hfm) (cwV 1 hts gL_law_X7_robber rfl rfl rfl hdX7_robber ⟨by decide, by decide⟩) (z_preV E hh (by decide) (zC_obj (q := 66) rfl) rfl) rfl rfl hl.1 rfl (lv_room (Nat.le_of_ble_eq_true rfl)) dL_law_355 ⟨by decide, by decide⟩) hh (fun H locs hh => ?_)
  refine lv_icmp_eq (tgt := 1268) hx hb dL_law_358 (by decide) (fun c1 => ?_) (fun c1 => absurd he c1)
  exact next σ τ hR _ _ _ hh hl
set_option maxRecDepth 100000 in
set_option maxHeartbeats 4000000 in
theorem law_at {p : Program} {l : Launch} {e : Env} {s : State} {m : MethodId} {below : List Frame} {meth : Method} {c : Code} {g : zG} {b L : Nat} {xs : Nat → Int32} (C0 : lw_At p s m meth c b L xs) (E : zE g (lwA s) s) {N : Nat} {Rel : zS → zS → Prop} (K : ok_at N Rel) {i : Int32} (h_1 : vp_in (i + 1) L) (h_2 : vp_in (i + 2) L) (next : lawP p l e s m below meth c g b Rel 1268 i) : lawP p l e s m below meth c g b Rel 363 i := by
  obtain ⟨hx, hb, hr, hml, hown, hts, hX, hbl, hlocks, hgv⟩ := C0
  have hb : c.code = cL_law := hb
  have hts := fun w h => hts w (wsL_law_in w h)
  have hbA : ¬ lwA s b := Nat.not_le.mpr hbl
  intro σ τ hrel H locs ls hh hl
  obtain ⟨rx, rm, hfx, hfm, he, hR⟩ := K σ τ (xs (i + 1).toNatClampNeg) (xs (i + 2).toNatClampNeg) hrel
  refine lv_aload_n hx hb dL_law_363 rfl (lv_at hl 1 rfl) ?_
  refine lv_aload_n hx hb dL_law_364 rfl (lv_at hl 0 rfl) ?_
  refine lv_iload_n hx hb dL_law_365 rfl (lv_at hl 3 rfl) ?_
  refine lv_iconst (v := 1) hx hb dL_law_366 (by decide) ?_
  refine lv_iadd hx hb dL_law_367 ?_
  refine va_sld hx hb hX hbl hbA hh.2 h_1 dL_law_368 ?_
  refine lv_aload_n hx hb dL_law_369 rfl (lv_at hl 0 rfl) ?_
  refine lv_iload_n hx hb dL_law_370 rfl (lv_at hl 3 rfl) ?_
  refine lv_iconst (v := 2) hx hb dL_law_371 (by decide) ?_
  refine lv_iadd hx hb dL_law_372 ?_
  refine va_sld hx hb hX hbl hbA hh.2 h_2 dL_law_373 ?_
  refine z_xi (va_runV (As := [.int (xs (i + 1).toNatClampNeg), .int (xs (i + 2).toNatClampNeg)]) (rest := []) ⟨hx, hb, hml, hown, hts⟩ (zcX6_at l g (lwA s) σ τ N (xs (i + 1).toNatClampNeg) (xs (i + 2).toNatClampNeg) hfx) (cwV 2 hts gL_law_X6_at rfl rfl rfl hdX6_at ⟨by decide, by decide⟩) (z_preV E hh (by decide) (zC_obj (q := 54) rfl) rfl) rfl rfl hl.1 rfl (lv_room (Nat.le_of_ble_eq_true rfl)) dL_law_374 ⟨by decide, by decide⟩) hh (fun H locs hh => ?_)
  refine lv_aload_n hx hb dL_law_377 rfl (lv_at hl 2 rfl) ?_
  refine lv_aload_n hx hb dL_law_378 rfl (lv_at hl 0 rfl) ?_
  refine lv_iload_n hx hb dL_law_379 rfl (lv_at hl 3 rfl) ?_
  refine lv_iconst (v := 1) hx hb dL_law_380 (by decide) ?_
  refine lv_iadd hx hb dL_law_381 ?_
  refine va_sld hx hb hX hbl hbA hh.2 h_1 dL_law_382 ?_
  refine lv_aload_n hx hb dL_law_383 rfl (lv_at hl 0 rfl) ?_
  refine lv_iload_n hx hb dL_law_384 rfl (lv_at hl 3 rfl) ?_
  refine lv_iconst (v := 2) hx hb dL_law_385 (by decide) ?_
  refine lv_iadd hx hb dL_law_386 ?_
  refine va_sld hx hb hX hbl hbA hh.2 h_2 dL_law_387 ?_
  refine z_mi (va_runV (As := [.int (xs (i + 1).toNatClampNeg), .int (xs (i + 2).toNatClampNeg)]) (rest := [.int rx]) ⟨hx, hb, hml, hown, hts⟩ (zcX7_at l g (lwA s) σ τ N (xs (i + 1).toNatClampNeg) (xs (i + 2).toNatClampNeg) hfm) (cwV 2 hts gL_law_X7_at rfl rfl rfl hdX7_at ⟨by decide, by decide⟩) (z_preV E hh (by decide) (zC_obj (q := 66) rfl) rfl) rfl rfl hl.1 rfl (lv_room (Nat.le_of_ble_eq_true rfl)) dL_law_388 ⟨by decide, by decide⟩) hh (fun H locs hh => ?_)
  refine lv_icmp_eq (tgt := 1268) hx hb dL_law_391 (by decide) (fun c1 => ?_) (fun c1 => absurd he c1)
  exact next σ τ hR _ _ _ hh hl
set_option maxRecDepth 100000 in
set_option maxHeartbeats 4000000 in
theorem law_alter {p : Program} {l : Launch} {e : Env} {s : State} {m : MethodId} {below : List Frame} {meth : Method} {c : Code} {g : zG} {b L : Nat} {xs : Nat → Int32} (C0 : lw_At p s m meth c b L xs) (E : zE g (lwA s) s) {N : Nat} {Rel : zS → zS → Prop} (K : ok_alter N Rel) {i : Int32} (h_1 : vp_in (i + 1) L) (h_2 : vp_in (i + 2) L) (h_3 : vp_in (i + 3) L) (next : lawP p l e s m below meth c g b Rel 1268 i) : lawP p l e s m below meth c g b Rel 396 i := by
  obtain ⟨hx, hb, hr, hml, hown, hts, hX, hbl, hlocks, hgv⟩ := C0
  have hb : c.code = cL_law := hb
  have hts := fun w h => hts w (wsL_law_in w h)
  have hbA : ¬ lwA s b := Nat.not_le.mpr hbl
  intro σ τ hrel H locs ls hh hl
  obtain ⟨rx, rm, hfx, hfm, he, hR⟩ := K σ τ (xs (i + 1).toNatClampNeg) (xs (i + 2).toNatClampNeg) (xs (i + 3).toNatClampNeg) hrel
  refine lv_aload_n hx hb dL_law_396 rfl (lv_at hl 1 rfl) ?_
  refine lv_aload_n hx hb dL_law_397 rfl (lv_at hl 0 rfl) ?_
  refine lv_iload_n hx hb dL_law_398 rfl (lv_at hl 3 rfl) ?_
  refine lv_iconst (v := 1) hx hb dL_law_399 (by decide) ?_
  refine lv_iadd hx hb dL_law_400 ?_
  refine va_sld hx hb hX hbl hbA hh.2 h_1 dL_law_401 ?_
  refine lv_aload_n hx hb dL_law_402 rfl (lv_at hl 0 rfl) ?_
  refine lv_iload_n hx hb dL_law_403 rfl (lv_at hl 3 rfl) ?_
  refine lv_iconst (v := 2) hx hb dL_law_404 (by decide) ?_
  refine lv_iadd hx hb dL_law_405 ?_
  refine va_sld hx hb hX hbl hbA hh.2 h_2 dL_law_406 ?_
  refine lv_aload_n hx hb dL_law_407 rfl (lv_at hl 0 rfl) ?_
  refine lv_iload_n hx hb dL_law_408 rfl (lv_at hl 3 rfl) ?_
  refine lv_iconst (v := 3) hx hb dL_law_409 (by decide) ?_
  refine lv_iadd hx hb dL_law_410 ?_
  refine va_sld hx hb hX hbl hbA hh.2 h_3 dL_law_411 ?_
  refine z_xi (va_runV (As := [.int (xs (i + 1).toNatClampNeg), .int (xs (i + 2).toNatClampNeg), .int (xs (i + 3).toNatClampNeg)]) (rest := []) ⟨hx, hb, hml, hown, hts⟩ (zcX6_alter l g (lwA s) σ τ N (xs (i + 1).toNatClampNeg) (xs (i + 2).toNatClampNeg) (xs (i + 3).toNatClampNeg) hfx) (cwV 3 hts gL_law_X6_alter rfl rfl rfl hdX6_alter ⟨by decide, by decide⟩) (z_preV E hh (by decide) (zC_obj (q := 54) rfl) rfl) rfl rfl hl.1 rfl (lv_room (Nat.le_of_ble_eq_true rfl)) dL_law_412 ⟨by decide, by decide⟩) hh (fun H locs hh => ?_)
  refine lv_aload_n hx hb dL_law_415 rfl (lv_at hl 2 rfl) ?_
  refine lv_aload_n hx hb dL_law_416 rfl (lv_at hl 0 rfl) ?_
  refine lv_iload_n hx hb dL_law_417 rfl (lv_at hl 3 rfl) ?_
  refine lv_iconst (v := 1) hx hb dL_law_418 (by decide) ?_
  refine lv_iadd hx hb dL_law_419 ?_
  refine va_sld hx hb hX hbl hbA hh.2 h_1 dL_law_420 ?_
  refine lv_aload_n hx hb dL_law_421 rfl (lv_at hl 0 rfl) ?_
  refine lv_iload_n hx hb dL_law_422 rfl (lv_at hl 3 rfl) ?_
  refine lv_iconst (v := 2) hx hb dL_law_423 (by decide) ?_
  refine lv_iadd hx hb dL_law_424 ?_
  refine va_sld hx hb hX hbl hbA hh.2 h_2 dL_law_425 ?_
  refine lv_aload_n hx hb dL_law_426 rfl (lv_at hl 0 rfl) ?_
  refine lv_iload_n hx hb dL_law_427 rfl (lv_at hl 3 rfl) ?_
  refine lv_iconst (v := 3) hx hb dL_law_428 (by decide) ?_
  refine lv_iadd hx hb dL_law_429 ?_
  refine va_sld hx hb hX hbl hbA hh.2 h_3 dL_law_430 ?_
  refine z_mi (va_runV (As := [.int (xs (i + 1).toNatClampNeg), .int (xs (i + 2).toNatClampNeg), .int (xs (i + 3).toNatClampNeg)]) (rest := [.int rx.1]) ⟨hx, hb, hml, hown, hts⟩ (zcX7_alter l g (lwA s) rx.2 τ N (xs (i + 1).toNatClampNeg) (xs (i + 2).toNatClampNeg) (xs (i + 3).toNatClampNeg) hfm) (cwV 3 hts gL_law_X7_alter rfl rfl rfl hdX7_alter ⟨by decide, by decide⟩) (z_preV E hh (by decide) (zC_obj (q := 66) rfl) rfl) rfl rfl hl.1 rfl (lv_room (Nat.le_of_ble_eq_true rfl)) dL_law_431 ⟨by decide, by decide⟩) hh (fun H locs hh => ?_)
  refine lv_icmp_eq (tgt := 1268) hx hb dL_law_434 (by decide) (fun c1 => ?_) (fun c1 => absurd he c1)
  exact next rx.2 rm.2 hR _ _ _ hh hl
set_option maxRecDepth 100000 in
set_option maxHeartbeats 4000000 in
theorem law_steel {p : Program} {l : Launch} {e : Env} {s : State} {m : MethodId} {below : List Frame} {meth : Method} {c : Code} {g : zG} {b L : Nat} {xs : Nat → Int32} (C0 : lw_At p s m meth c b L xs) (E : zE g (lwA s) s) {N : Nat} {Rel : zS → zS → Prop} (K : ok_steel N Rel) {i : Int32} (h_1 : vp_in (i + 1) L) (h_2 : vp_in (i + 2) L) (next : lawP p l e s m below meth c g b Rel 1268 i) : lawP p l e s m below meth c g b Rel 439 i := by
  obtain ⟨hx, hb, hr, hml, hown, hts, hX, hbl, hlocks, hgv⟩ := C0
  have hb : c.code = cL_law := hb
  have hts := fun w h => hts w (wsL_law_in w h)
  have hbA : ¬ lwA s b := Nat.not_le.mpr hbl
  intro σ τ hrel H locs ls hh hl
  obtain ⟨rx, rm, hfx, hfm, he, hR⟩ := K σ τ (xs (i + 1).toNatClampNeg) (xs (i + 2).toNatClampNeg) hrel
  refine lv_aload_n hx hb dL_law_439 rfl (lv_at hl 1 rfl) ?_
  refine lv_aload_n hx hb dL_law_440 rfl (lv_at hl 0 rfl) ?_
  refine lv_iload_n hx hb dL_law_441 rfl (lv_at hl 3 rfl) ?_
  refine lv_iconst (v := 1) hx hb dL_law_442 (by decide) ?_
  refine lv_iadd hx hb dL_law_443 ?_
  refine va_sld hx hb hX hbl hbA hh.2 h_1 dL_law_444 ?_
  refine lv_aload_n hx hb dL_law_445 rfl (lv_at hl 0 rfl) ?_
  refine lv_iload_n hx hb dL_law_446 rfl (lv_at hl 3 rfl) ?_
  refine lv_iconst (v := 2) hx hb dL_law_447 (by decide) ?_
  refine lv_iadd hx hb dL_law_448 ?_
  refine va_sld hx hb hX hbl hbA hh.2 h_2 dL_law_449 ?_
  refine z_xi (va_runV (As := [.int (xs (i + 1).toNatClampNeg), .int (xs (i + 2).toNatClampNeg)]) (rest := []) ⟨hx, hb, hml, hown, hts⟩ (zcX6_steel l g (lwA s) σ τ N (xs (i + 1).toNatClampNeg) (xs (i + 2).toNatClampNeg) hfx) (cwV 2 hts gL_law_X6_steel rfl rfl rfl hdX6_steel ⟨by decide, by decide⟩) (z_preV E hh (by decide) (zC_obj (q := 54) rfl) rfl) rfl rfl hl.1 rfl (lv_room (Nat.le_of_ble_eq_true rfl)) dL_law_450 ⟨by decide, by decide⟩) hh (fun H locs hh => ?_)
  refine lv_aload_n hx hb dL_law_453 rfl (lv_at hl 2 rfl) ?_
  refine lv_aload_n hx hb dL_law_454 rfl (lv_at hl 0 rfl) ?_
  refine lv_iload_n hx hb dL_law_455 rfl (lv_at hl 3 rfl) ?_
  refine lv_iconst (v := 1) hx hb dL_law_456 (by decide) ?_
  refine lv_iadd hx hb dL_law_457 ?_
  refine va_sld hx hb hX hbl hbA hh.2 h_1 dL_law_458 ?_
  refine lv_aload_n hx hb dL_law_459 rfl (lv_at hl 0 rfl) ?_
  refine lv_iload_n hx hb dL_law_460 rfl (lv_at hl 3 rfl) ?_
  refine lv_iconst (v := 2) hx hb dL_law_461 (by decide) ?_
  refine lv_iadd hx hb dL_law_462 ?_
  refine va_sld hx hb hX hbl hbA hh.2 h_2 dL_law_463 ?_
  refine z_mi (va_runV (As := [.int (xs (i + 1).toNatClampNeg), .int (xs (i + 2).toNatClampNeg)]) (rest := [.int rx.1]) ⟨hx, hb, hml, hown, hts⟩ (zcX7_steel l g (lwA s) rx.2 τ N (xs (i + 1).toNatClampNeg) (xs (i + 2).toNatClampNeg) hfm) (cwV 2 hts gL_law_X7_steel rfl rfl rfl hdX7_steel ⟨by decide, by decide⟩) (z_preV E hh (by decide) (zC_obj (q := 66) rfl) rfl) rfl rfl hl.1 rfl (lv_room (Nat.le_of_ble_eq_true rfl)) dL_law_464 ⟨by decide, by decide⟩) hh (fun H locs hh => ?_)
  refine lv_icmp_eq (tgt := 1268) hx hb dL_law_467 (by decide) (fun c1 => ?_) (fun c1 => absurd he c1)
  exact next rx.2 rm.2 hR _ _ _ hh hl
set_option maxRecDepth 100000 in
set_option maxHeartbeats 4000000 in
theorem law_scout {p : Program} {l : Launch} {e : Env} {s : State} {m : MethodId} {below : List Frame} {meth : Method} {c : Code} {g : zG} {b L : Nat} {xs : Nat → Int32} (C0 : lw_At p s m meth c b L xs) (E : zE g (lwA s) s) {N : Nat} {Rel : zS → zS → Prop} (K : ok_scout N Rel) {i : Int32} (h_1 : vp_in (i + 1) L) (next : lawP p l e s m below meth c g b Rel 1268 i) : lawP p l e s m below meth c g b Rel 472 i := by
  obtain ⟨hx, hb, hr, hml, hown, hts, hX, hbl, hlocks, hgv⟩ := C0
  have hb : c.code = cL_law := hb
  have hts := fun w h => hts w (wsL_law_in w h)
  have hbA : ¬ lwA s b := Nat.not_le.mpr hbl
  intro σ τ hrel H locs ls hh hl
  obtain ⟨rx, rm, hfx, hfm, he, hR⟩ := K σ τ (xs (i + 1).toNatClampNeg) hrel
  refine lv_aload_n hx hb dL_law_472 rfl (lv_at hl 1 rfl) ?_
  refine lv_aload_n hx hb dL_law_473 rfl (lv_at hl 0 rfl) ?_
  refine lv_iload_n hx hb dL_law_474 rfl (lv_at hl 3 rfl) ?_
  refine lv_iconst (v := 1) hx hb dL_law_475 (by decide) ?_
  refine lv_iadd hx hb dL_law_476 ?_
  refine va_sld hx hb hX hbl hbA hh.2 h_1 dL_law_477 ?_
  refine z_xi (va_runV (As := [.int (xs (i + 1).toNatClampNeg)]) (rest := []) ⟨hx, hb, hml, hown, hts⟩ (zcX6_scout l g (lwA s) σ τ N (xs (i + 1).toNatClampNeg) hfx) (cwV 1 hts gL_law_X6_scout rfl rfl rfl hdX6_scout ⟨by decide, by decide⟩) (z_preV E hh (by decide) (zC_obj (q := 54) rfl) rfl) rfl rfl hl.1 rfl (lv_room (Nat.le_of_ble_eq_true rfl)) dL_law_478 ⟨by decide, by decide⟩) hh (fun H locs hh => ?_)
  refine lv_aload_n hx hb dL_law_481 rfl (lv_at hl 2 rfl) ?_
  refine lv_aload_n hx hb dL_law_482 rfl (lv_at hl 0 rfl) ?_
  refine lv_iload_n hx hb dL_law_483 rfl (lv_at hl 3 rfl) ?_
  refine lv_iconst (v := 1) hx hb dL_law_484 (by decide) ?_
  refine lv_iadd hx hb dL_law_485 ?_
  refine va_sld hx hb hX hbl hbA hh.2 h_1 dL_law_486 ?_
  refine z_mi (va_runV (As := [.int (xs (i + 1).toNatClampNeg)]) (rest := [.int rx.1]) ⟨hx, hb, hml, hown, hts⟩ (zcX7_scout l g (lwA s) rx.2 τ N (xs (i + 1).toNatClampNeg) hfm) (cwV 1 hts gL_law_X7_scout rfl rfl rfl hdX7_scout ⟨by decide, by decide⟩) (z_preV E hh (by decide) (zC_obj (q := 66) rfl) rfl) rfl rfl hl.1 rfl (lv_room (Nat.le_of_ble_eq_true rfl)) dL_law_487 ⟨by decide, by decide⟩) hh (fun H locs hh => ?_)
  refine lv_icmp_eq (tgt := 1268) hx hb dL_law_490 (by decide) (fun c1 => ?_) (fun c1 => absurd he c1)
  exact next rx.2 rm.2 hR _ _ _ hh hl
set_option maxRecDepth 100000 in
set_option maxHeartbeats 4000000 in
theorem law_climb {p : Program} {l : Launch} {e : Env} {s : State} {m : MethodId} {below : List Frame} {meth : Method} {c : Code} {g : zG} {b L : Nat} {xs : Nat → Int32} (C0 : lw_At p s m meth c b L xs) (E : zE g (lwA s) s) {N : Nat} {Rel : zS → zS → Prop} (K : ok_climb N Rel) {i : Int32} (h_1 : vp_in (i + 1) L) (next : lawP p l e s m below meth c g b Rel 1268 i) : lawP p l e s m below meth c g b Rel 495 i := by
  obtain ⟨hx, hb, hr, hml, hown, hts, hX, hbl, hlocks, hgv⟩ := C0
  have hb : c.code = cL_law := hb
  have hts := fun w h => hts w (wsL_law_in w h)
  have hbA : ¬ lwA s b := Nat.not_le.mpr hbl
  intro σ τ hrel H locs ls hh hl
  obtain ⟨rx, rm, hfx, hfm, he, hR⟩ := K σ τ (xs (i + 1).toNatClampNeg) hrel
  refine lv_aload_n hx hb dL_law_495 rfl (lv_at hl 1 rfl) ?_
  refine lv_aload_n hx hb dL_law_496 rfl (lv_at hl 0 rfl) ?_
  refine lv_iload_n hx hb dL_law_497 rfl (lv_at hl 3 rfl) ?_
  refine lv_iconst (v := 1) hx hb dL_law_498 (by decide) ?_
  refine lv_iadd hx hb dL_law_499 ?_
  refine va_sld hx hb hX hbl hbA hh.2 h_1 dL_law_500 ?_
  refine z_xi (va_runV (As := [.int (xs (i + 1).toNatClampNeg)]) (rest := []) ⟨hx, hb, hml, hown, hts⟩ (zcX6_climb l g (lwA s) σ τ N (xs (i + 1).toNatClampNeg) hfx) (cwV 1 hts gL_law_X6_climb rfl rfl rfl hdX6_climb ⟨by decide, by decide⟩) (z_preV E hh (by decide) (zC_obj (q := 54) rfl) rfl) rfl rfl hl.1 rfl (lv_room (Nat.le_of_ble_eq_true rfl)) dL_law_501 ⟨by decide, by decide⟩) hh (fun H locs hh => ?_)
  refine lv_aload_n hx hb dL_law_504 rfl (lv_at hl 2 rfl) ?_
  refine lv_aload_n hx hb dL_law_505 rfl (lv_at hl 0 rfl) ?_
  refine lv_iload_n hx hb dL_law_506 rfl (lv_at hl 3 rfl) ?_
  refine lv_iconst (v := 1) hx hb dL_law_507 (by decide) ?_
  refine lv_iadd hx hb dL_law_508 ?_
  refine va_sld hx hb hX hbl hbA hh.2 h_1 dL_law_509 ?_
  refine z_mi (va_runV (As := [.int (xs (i + 1).toNatClampNeg)]) (rest := [.int rx.1]) ⟨hx, hb, hml, hown, hts⟩ (zcX7_climb l g (lwA s) rx.2 τ N (xs (i + 1).toNatClampNeg) hfm) (cwV 1 hts gL_law_X7_climb rfl rfl rfl hdX7_climb ⟨by decide, by decide⟩) (z_preV E hh (by decide) (zC_obj (q := 66) rfl) rfl) rfl rfl hl.1 rfl (lv_room (Nat.le_of_ble_eq_true rfl)) dL_law_510 ⟨by decide, by decide⟩) hh (fun H locs hh => ?_)
  refine lv_icmp_eq (tgt := 1268) hx hb dL_law_513 (by decide) (fun c1 => ?_) (fun c1 => absurd he c1)
  exact next rx.2 rm.2 hR _ _ _ hh hl
set_option maxRecDepth 100000 in
set_option maxHeartbeats 4000000 in
theorem law_down {p : Program} {l : Launch} {e : Env} {s : State} {m : MethodId} {below : List Frame} {meth : Method} {c : Code} {g : zG} {b L : Nat} {xs : Nat → Int32} (C0 : lw_At p s m meth c b L xs) (E : zE g (lwA s) s) {N : Nat} {Rel : zS → zS → Prop} (K : ok_down N Rel) {i : Int32} (h_1 : vp_in (i + 1) L) (next : lawP p l e s m below meth c g b Rel 1268 i) : lawP p l e s m below meth c g b Rel 518 i := by
  obtain ⟨hx, hb, hr, hml, hown, hts, hX, hbl, hlocks, hgv⟩ := C0
  have hb : c.code = cL_law := hb
  have hts := fun w h => hts w (wsL_law_in w h)
  have hbA : ¬ lwA s b := Nat.not_le.mpr hbl
  intro σ τ hrel H locs ls hh hl
  obtain ⟨rx, rm, hfx, hfm, he, hR⟩ := K σ τ (xs (i + 1).toNatClampNeg) hrel
  refine lv_aload_n hx hb dL_law_518 rfl (lv_at hl 1 rfl) ?_
  refine lv_aload_n hx hb dL_law_519 rfl (lv_at hl 0 rfl) ?_
  refine lv_iload_n hx hb dL_law_520 rfl (lv_at hl 3 rfl) ?_
  refine lv_iconst (v := 1) hx hb dL_law_521 (by decide) ?_
  refine lv_iadd hx hb dL_law_522 ?_
  refine va_sld hx hb hX hbl hbA hh.2 h_1 dL_law_523 ?_
  refine z_xi (va_runV (As := [.int (xs (i + 1).toNatClampNeg)]) (rest := []) ⟨hx, hb, hml, hown, hts⟩ (zcX6_down l g (lwA s) σ τ N (xs (i + 1).toNatClampNeg) hfx) (cwV 1 hts gL_law_X6_down rfl rfl rfl hdX6_down ⟨by decide, by decide⟩) (z_preV E hh (by decide) (zC_obj (q := 54) rfl) rfl) rfl rfl hl.1 rfl (lv_room (Nat.le_of_ble_eq_true rfl)) dL_law_524 ⟨by decide, by decide⟩) hh (fun H locs hh => ?_)
  refine lv_aload_n hx hb dL_law_527 rfl (lv_at hl 2 rfl) ?_
  refine lv_aload_n hx hb dL_law_528 rfl (lv_at hl 0 rfl) ?_
  refine lv_iload_n hx hb dL_law_529 rfl (lv_at hl 3 rfl) ?_
  refine lv_iconst (v := 1) hx hb dL_law_530 (by decide) ?_
  refine lv_iadd hx hb dL_law_531 ?_
  refine va_sld hx hb hX hbl hbA hh.2 h_1 dL_law_532 ?_
  refine z_mi (va_runV (As := [.int (xs (i + 1).toNatClampNeg)]) (rest := [.int rx.1]) ⟨hx, hb, hml, hown, hts⟩ (zcX7_down l g (lwA s) rx.2 τ N (xs (i + 1).toNatClampNeg) hfm) (cwV 1 hts gL_law_X7_down rfl rfl rfl hdX7_down ⟨by decide, by decide⟩) (z_preV E hh (by decide) (zC_obj (q := 66) rfl) rfl) rfl rfl hl.1 rfl (lv_room (Nat.le_of_ble_eq_true rfl)) dL_law_533 ⟨by decide, by decide⟩) hh (fun H locs hh => ?_)
  refine lv_icmp_eq (tgt := 1268) hx hb dL_law_536 (by decide) (fun c1 => ?_) (fun c1 => absurd he c1)
  exact next rx.2 rm.2 hR _ _ _ hh hl
set_option maxRecDepth 100000 in
set_option maxHeartbeats 4000000 in
theorem law_swap {p : Program} {l : Launch} {e : Env} {s : State} {m : MethodId} {below : List Frame} {meth : Method} {c : Code} {g : zG} {b L : Nat} {xs : Nat → Int32} (C0 : lw_At p s m meth c b L xs) (E : zE g (lwA s) s) {N : Nat} {Rel : zS → zS → Prop} (K : ok_swap N Rel) {i : Int32} (h_1 : vp_in (i + 1) L) (h_2 : vp_in (i + 2) L) (next : lawP p l e s m below meth c g b Rel 1268 i) : lawP p l e s m below meth c g b Rel 541 i := by
  obtain ⟨hx, hb, hr, hml, hown, hts, hX, hbl, hlocks, hgv⟩ := C0
  have hb : c.code = cL_law := hb
  have hts := fun w h => hts w (wsL_law_in w h)
  have hbA : ¬ lwA s b := Nat.not_le.mpr hbl
  intro σ τ hrel H locs ls hh hl
  obtain ⟨rx, rm, hfx, hfm, he, hR⟩ := K σ τ (xs (i + 1).toNatClampNeg) (xs (i + 2).toNatClampNeg) hrel
  refine lv_aload_n hx hb dL_law_541 rfl (lv_at hl 1 rfl) ?_
  refine lv_aload_n hx hb dL_law_542 rfl (lv_at hl 0 rfl) ?_
  refine lv_iload_n hx hb dL_law_543 rfl (lv_at hl 3 rfl) ?_
  refine lv_iconst (v := 1) hx hb dL_law_544 (by decide) ?_
  refine lv_iadd hx hb dL_law_545 ?_
  refine va_sld hx hb hX hbl hbA hh.2 h_1 dL_law_546 ?_
  refine lv_aload_n hx hb dL_law_547 rfl (lv_at hl 0 rfl) ?_
  refine lv_iload_n hx hb dL_law_548 rfl (lv_at hl 3 rfl) ?_
  refine lv_iconst (v := 2) hx hb dL_law_549 (by decide) ?_
  refine lv_iadd hx hb dL_law_550 ?_
  refine va_sld hx hb hX hbl hbA hh.2 h_2 dL_law_551 ?_
  refine z_xi (va_runV (As := [.int (xs (i + 1).toNatClampNeg), .int (xs (i + 2).toNatClampNeg)]) (rest := []) ⟨hx, hb, hml, hown, hts⟩ (zcX6_swap l g (lwA s) σ τ N (xs (i + 1).toNatClampNeg) (xs (i + 2).toNatClampNeg) hfx) (cwV 2 hts gL_law_X6_swap rfl rfl rfl hdX6_swap ⟨by decide, by decide⟩) (z_preV E hh (by decide) (zC_obj (q := 54) rfl) rfl) rfl rfl hl.1 rfl (lv_room (Nat.le_of_ble_eq_true rfl)) dL_law_552 ⟨by decide, by decide⟩) hh (fun H locs hh => ?_)
  refine lv_aload_n hx hb dL_law_555 rfl (lv_at hl 2 rfl) ?_
  refine lv_aload_n hx hb dL_law_556 rfl (lv_at hl 0 rfl) ?_
  refine lv_iload_n hx hb dL_law_557 rfl (lv_at hl 3 rfl) ?_
  refine lv_iconst (v := 1) hx hb dL_law_558 (by decide) ?_
  refine lv_iadd hx hb dL_law_559 ?_
  refine va_sld hx hb hX hbl hbA hh.2 h_1 dL_law_560 ?_
  refine lv_aload_n hx hb dL_law_561 rfl (lv_at hl 0 rfl) ?_
  refine lv_iload_n hx hb dL_law_562 rfl (lv_at hl 3 rfl) ?_
  refine lv_iconst (v := 2) hx hb dL_law_563 (by decide) ?_
  refine lv_iadd hx hb dL_law_564 ?_
  refine va_sld hx hb hX hbl hbA hh.2 h_2 dL_law_565 ?_
  refine z_mi (va_runV (As := [.int (xs (i + 1).toNatClampNeg), .int (xs (i + 2).toNatClampNeg)]) (rest := [.int rx.1]) ⟨hx, hb, hml, hown, hts⟩ (zcX7_swap l g (lwA s) rx.2 τ N (xs (i + 1).toNatClampNeg) (xs (i + 2).toNatClampNeg) hfm) (cwV 2 hts gL_law_X7_swap rfl rfl rfl hdX7_swap ⟨by decide, by decide⟩) (z_preV E hh (by decide) (zC_obj (q := 66) rfl) rfl) rfl rfl hl.1 rfl (lv_room (Nat.le_of_ble_eq_true rfl)) dL_law_566 ⟨by decide, by decide⟩) hh (fun H locs hh => ?_)
  refine lv_icmp_eq (tgt := 1268) hx hb dL_law_569 (by decide) (fun c1 => ?_) (fun c1 => absurd he c1)
  exact next rx.2 rm.2 hR _ _ _ hh hl
set_option maxRecDepth 100000 in
set_option maxHeartbeats 4000000 in
theorem law_noise {p : Program} {l : Launch} {e : Env} {s : State} {m : MethodId} {below : List Frame} {meth : Method} {c : Code} {g : zG} {b L : Nat} {xs : Nat → Int32} (C0 : lw_At p s m meth c b L xs) (E : zE g (lwA s) s) {N : Nat} {Rel : zS → zS → Prop} (K : ok_noise N Rel) {i : Int32}  (next : lawP p l e s m below meth c g b Rel 1268 i) : lawP p l e s m below meth c g b Rel 574 i := by
  obtain ⟨hx, hb, hr, hml, hown, hts, hX, hbl, hlocks, hgv⟩ := C0
  have hb : c.code = cL_law := hb
  have hts := fun w h => hts w (wsL_law_in w h)
  have hbA : ¬ lwA s b := Nat.not_le.mpr hbl
  intro σ τ hrel H locs ls hh hl
  obtain ⟨rx, rm, hfx, hfm, he, hR⟩ := K σ τ  hrel
  refine lv_aload_n hx hb dL_law_574 rfl (lv_at hl 1 rfl) ?_
  refine z_xi (va_runV (As := []) (rest := []) ⟨hx, hb, hml, hown, hts⟩ (zcX6_noise l g (lwA s) σ τ N  hfx) (cwV 0 hts gL_law_X6_noise rfl rfl rfl hdX6_noise ⟨by decide, by decide⟩) (z_preV E hh (by decide) (zC_obj (q := 54) rfl) rfl) rfl rfl hl.1 rfl (lv_room (Nat.le_of_ble_eq_true rfl)) dL_law_575 ⟨by decide, by decide⟩) hh (fun H locs hh => ?_)
  refine lv_aload_n hx hb dL_law_578 rfl (lv_at hl 2 rfl) ?_
  refine z_mi (va_runV (As := []) (rest := [.int rx]) ⟨hx, hb, hml, hown, hts⟩ (zcX7_noise l g (lwA s) σ τ N  hfm) (cwV 0 hts gL_law_X7_noise rfl rfl rfl hdX7_noise ⟨by decide, by decide⟩) (z_preV E hh (by decide) (zC_obj (q := 66) rfl) rfl) rfl rfl hl.1 rfl (lv_room (Nat.le_of_ble_eq_true rfl)) dL_law_579 ⟨by decide, by decide⟩) hh (fun H locs hh => ?_)
  refine lv_icmp_eq (tgt := 1268) hx hb dL_law_582 (by decide) (fun c1 => ?_) (fun c1 => absurd he c1)
  exact next σ τ hR _ _ _ hh hl
set_option maxRecDepth 100000 in
set_option maxHeartbeats 4000000 in
theorem law_flight {p : Program} {l : Launch} {e : Env} {s : State} {m : MethodId} {below : List Frame} {meth : Method} {c : Code} {g : zG} {b L : Nat} {xs : Nat → Int32} (C0 : lw_At p s m meth c b L xs) (E : zE g (lwA s) s) {N : Nat} {Rel : zS → zS → Prop} (K : ok_flight N Rel) {i : Int32} (h_1 : vp_in (i + 1) L) (next : lawP p l e s m below meth c g b Rel 1268 i) : lawP p l e s m below meth c g b Rel 587 i := by
  obtain ⟨hx, hb, hr, hml, hown, hts, hX, hbl, hlocks, hgv⟩ := C0
  have hb : c.code = cL_law := hb
  have hts := fun w h => hts w (wsL_law_in w h)
  have hbA : ¬ lwA s b := Nat.not_le.mpr hbl
  intro σ τ hrel H locs ls hh hl
  obtain ⟨rx, rm, hfx, hfm, he, hR⟩ := K σ τ (xs (i + 1).toNatClampNeg) hrel
  refine lv_aload_n hx hb dL_law_587 rfl (lv_at hl 1 rfl) ?_
  refine lv_aload_n hx hb dL_law_588 rfl (lv_at hl 0 rfl) ?_
  refine lv_iload_n hx hb dL_law_589 rfl (lv_at hl 3 rfl) ?_
  refine lv_iconst (v := 1) hx hb dL_law_590 (by decide) ?_
  refine lv_iadd hx hb dL_law_591 ?_
  refine va_sld hx hb hX hbl hbA hh.2 h_1 dL_law_592 ?_
  refine z_xi (va_runV (As := [.int (xs (i + 1).toNatClampNeg)]) (rest := []) ⟨hx, hb, hml, hown, hts⟩ (zcX6_flight l g (lwA s) σ τ N (xs (i + 1).toNatClampNeg) hfx) (cwV 1 hts gL_law_X6_flight rfl rfl rfl hdX6_flight ⟨by decide, by decide⟩) (z_preV E hh (by decide) (zC_obj (q := 54) rfl) rfl) rfl rfl hl.1 rfl (lv_room (Nat.le_of_ble_eq_true rfl)) dL_law_593 ⟨by decide, by decide⟩) hh (fun H locs hh => ?_)
  refine lv_aload_n hx hb dL_law_596 rfl (lv_at hl 2 rfl) ?_
  refine lv_aload_n hx hb dL_law_597 rfl (lv_at hl 0 rfl) ?_
  refine lv_iload_n hx hb dL_law_598 rfl (lv_at hl 3 rfl) ?_
  refine lv_iconst (v := 1) hx hb dL_law_599 (by decide) ?_
  refine lv_iadd hx hb dL_law_600 ?_
  refine va_sld hx hb hX hbl hbA hh.2 h_1 dL_law_601 ?_
  refine z_mi (va_runV (As := [.int (xs (i + 1).toNatClampNeg)]) (rest := [.int rx]) ⟨hx, hb, hml, hown, hts⟩ (zcX7_flight l g (lwA s) σ τ N (xs (i + 1).toNatClampNeg) hfm) (cwV 1 hts gL_law_X7_flight rfl rfl rfl hdX7_flight ⟨by decide, by decide⟩) (z_preV E hh (by decide) (zC_obj (q := 66) rfl) rfl) rfl rfl hl.1 rfl (lv_room (Nat.le_of_ble_eq_true rfl)) dL_law_602 ⟨by decide, by decide⟩) hh (fun H locs hh => ?_)
  refine lv_icmp_eq (tgt := 1268) hx hb dL_law_605 (by decide) (fun c1 => ?_) (fun c1 => absurd he c1)
  exact next σ τ hR _ _ _ hh hl
set_option maxRecDepth 100000 in
set_option maxHeartbeats 4000000 in
theorem law_free {p : Program} {l : Launch} {e : Env} {s : State} {m : MethodId} {below : List Frame} {meth : Method} {c : Code} {g : zG} {b L : Nat} {xs : Nat → Int32} (C0 : lw_At p s m meth c b L xs) (E : zE g (lwA s) s) {N : Nat} {Rel : zS → zS → Prop} (K : ok_free N Rel) {i : Int32}  (next : lawP p l e s m below meth c g b Rel 1268 i) : lawP p l e s m below meth c g b Rel 610 i := by
  obtain ⟨hx, hb, hr, hml, hown, hts, hX, hbl, hlocks, hgv⟩ := C0
  have hb : c.code = cL_law := hb
  have hts := fun w h => hts w (wsL_law_in w h)
  have hbA : ¬ lwA s b := Nat.not_le.mpr hbl
  intro σ τ hrel H locs ls hh hl
  obtain ⟨rx, rm, hfx, hfm, he, hR⟩ := K σ τ  hrel
  refine lv_aload_n hx hb dL_law_610 rfl (lv_at hl 1 rfl) ?_
  refine z_xi (va_runV (As := []) (rest := []) ⟨hx, hb, hml, hown, hts⟩ (zcX6_free l g (lwA s) σ τ N  hfx) (cwV 0 hts gL_law_X6_free rfl rfl rfl hdX6_free ⟨by decide, by decide⟩) (z_preV E hh (by decide) (zC_obj (q := 54) rfl) rfl) rfl rfl hl.1 rfl (lv_room (Nat.le_of_ble_eq_true rfl)) dL_law_611 ⟨by decide, by decide⟩) hh (fun H locs hh => ?_)
  refine lv_aload_n hx hb dL_law_614 rfl (lv_at hl 2 rfl) ?_
  refine z_mi (va_runV (As := []) (rest := [.int rx]) ⟨hx, hb, hml, hown, hts⟩ (zcX7_free l g (lwA s) σ τ N  hfm) (cwV 0 hts gL_law_X7_free rfl rfl rfl hdX7_free ⟨by decide, by decide⟩) (z_preV E hh (by decide) (zC_obj (q := 66) rfl) rfl) rfl rfl hl.1 rfl (lv_room (Nat.le_of_ble_eq_true rfl)) dL_law_615 ⟨by decide, by decide⟩) hh (fun H locs hh => ?_)
  refine lv_icmp_eq (tgt := 1268) hx hb dL_law_618 (by decide) (fun c1 => ?_) (fun c1 => absurd he c1)
  exact next σ rm.2 hR _ _ _ hh hl
set_option maxRecDepth 100000 in
set_option maxHeartbeats 4000000 in
theorem law_need {p : Program} {l : Launch} {e : Env} {s : State} {m : MethodId} {below : List Frame} {meth : Method} {c : Code} {g : zG} {b L : Nat} {xs : Nat → Int32} (C0 : lw_At p s m meth c b L xs) (E : zE g (lwA s) s) {N : Nat} {Rel : zS → zS → Prop} (K : ok_need N Rel) {i : Int32}  (next : lawP p l e s m below meth c g b Rel 1268 i) : lawP p l e s m below meth c g b Rel 623 i := by
  obtain ⟨hx, hb, hr, hml, hown, hts, hX, hbl, hlocks, hgv⟩ := C0
  have hb : c.code = cL_law := hb
  have hts := fun w h => hts w (wsL_law_in w h)
  have hbA : ¬ lwA s b := Nat.not_le.mpr hbl
  intro σ τ hrel H locs ls hh hl
  obtain ⟨rx, rm, hfx, hfm, he, hR⟩ := K σ τ  hrel
  refine lv_aload_n hx hb dL_law_623 rfl (lv_at hl 1 rfl) ?_
  refine z_xi (va_runV (As := []) (rest := []) ⟨hx, hb, hml, hown, hts⟩ (zcX6_need l g (lwA s) σ τ N  hfx) (cwV 0 hts gL_law_X6_need rfl rfl rfl hdX6_need ⟨by decide, by decide⟩) (z_preV E hh (by decide) (zC_obj (q := 54) rfl) rfl) rfl rfl hl.1 rfl (lv_room (Nat.le_of_ble_eq_true rfl)) dL_law_624 ⟨by decide, by decide⟩) hh (fun H locs hh => ?_)
  refine lv_aload_n hx hb dL_law_627 rfl (lv_at hl 2 rfl) ?_
  refine z_mi (va_runV (As := []) (rest := [.int rx]) ⟨hx, hb, hml, hown, hts⟩ (zcX7_need l g (lwA s) σ τ N  hfm) (cwV 0 hts gL_law_X7_need rfl rfl rfl hdX7_need ⟨by decide, by decide⟩) (z_preV E hh (by decide) (zC_obj (q := 66) rfl) rfl) rfl rfl hl.1 rfl (lv_room (Nat.le_of_ble_eq_true rfl)) dL_law_628 ⟨by decide, by decide⟩) hh (fun H locs hh => ?_)
  refine lv_icmp_eq (tgt := 1268) hx hb dL_law_631 (by decide) (fun c1 => ?_) (fun c1 => absurd he c1)
  exact next σ τ hR _ _ _ hh hl
set_option maxRecDepth 100000 in
set_option maxHeartbeats 4000000 in
theorem law_best {p : Program} {l : Launch} {e : Env} {s : State} {m : MethodId} {below : List Frame} {meth : Method} {c : Code} {g : zG} {b L : Nat} {xs : Nat → Int32} (C0 : lw_At p s m meth c b L xs) (E : zE g (lwA s) s) {N : Nat} {Rel : zS → zS → Prop} (K : ok_best N Rel) {i : Int32} (h_1 : vp_in (i + 1) L) (next : lawP p l e s m below meth c g b Rel 1268 i) : lawP p l e s m below meth c g b Rel 636 i := by
  obtain ⟨hx, hb, hr, hml, hown, hts, hX, hbl, hlocks, hgv⟩ := C0
  have hb : c.code = cL_law := hb
  have hts := fun w h => hts w (wsL_law_in w h)
  have hbA : ¬ lwA s b := Nat.not_le.mpr hbl
  intro σ τ hrel H locs ls hh hl
  obtain ⟨rx, rm, hfx, hfm, he, hR⟩ := K σ τ (xs (i + 1).toNatClampNeg) hrel
  refine lv_aload_n hx hb dL_law_636 rfl (lv_at hl 1 rfl) ?_
  refine lv_aload_n hx hb dL_law_637 rfl (lv_at hl 0 rfl) ?_
  refine lv_iload_n hx hb dL_law_638 rfl (lv_at hl 3 rfl) ?_
  refine lv_iconst (v := 1) hx hb dL_law_639 (by decide) ?_
  refine lv_iadd hx hb dL_law_640 ?_
  refine va_sld hx hb hX hbl hbA hh.2 h_1 dL_law_641 ?_
  refine z_xi (va_runV (As := [.int (xs (i + 1).toNatClampNeg)]) (rest := []) ⟨hx, hb, hml, hown, hts⟩ (zcX6_best l g (lwA s) σ τ N (xs (i + 1).toNatClampNeg) hfx) (cwV 1 hts gL_law_X6_best rfl rfl rfl hdX6_best ⟨by decide, by decide⟩) (z_preV E hh (by decide) (zC_obj (q := 54) rfl) rfl) rfl rfl hl.1 rfl (lv_room (Nat.le_of_ble_eq_true rfl)) dL_law_642 ⟨by decide, by decide⟩) hh (fun H locs hh => ?_)
  refine lv_aload_n hx hb dL_law_645 rfl (lv_at hl 2 rfl) ?_
  refine lv_aload_n hx hb dL_law_646 rfl (lv_at hl 0 rfl) ?_
  refine lv_iload_n hx hb dL_law_647 rfl (lv_at hl 3 rfl) ?_
  refine lv_iconst (v := 1) hx hb dL_law_648 (by decide) ?_
  refine lv_iadd hx hb dL_law_649 ?_
  refine va_sld hx hb hX hbl hbA hh.2 h_1 dL_law_650 ?_
  refine z_mi (va_runV (As := [.int (xs (i + 1).toNatClampNeg)]) (rest := [.int rx.1]) ⟨hx, hb, hml, hown, hts⟩ (zcX7_best l g (lwA s) rx.2 τ N (xs (i + 1).toNatClampNeg) hfm) (cwV 1 hts gL_law_X7_best rfl rfl rfl hdX7_best ⟨by decide, by decide⟩) (z_preV E hh (by decide) (zC_obj (q := 66) rfl) rfl) rfl rfl hl.1 rfl (lv_room (Nat.le_of_ble_eq_true rfl)) dL_law_651 ⟨by decide, by decide⟩) hh (fun H locs hh => ?_)
  refine lv_icmp_eq (tgt := 1268) hx hb dL_law_654 (by decide) (fun c1 => ?_) (fun c1 => absurd he c1)
  exact next rx.2 rm.2 hR _ _ _ hh hl
set_option maxRecDepth 100000 in
set_option maxHeartbeats 4000000 in
theorem law_few {p : Program} {l : Launch} {e : Env} {s : State} {m : MethodId} {below : List Frame} {meth : Method} {c : Code} {g : zG} {b L : Nat} {xs : Nat → Int32} (C0 : lw_At p s m meth c b L xs) (E : zE g (lwA s) s) {N : Nat} {Rel : zS → zS → Prop} (K : ok_few N Rel) {i : Int32} (h_1 : vp_in (i + 1) L) (next : lawP p l e s m below meth c g b Rel 1268 i) : lawP p l e s m below meth c g b Rel 659 i := by
  obtain ⟨hx, hb, hr, hml, hown, hts, hX, hbl, hlocks, hgv⟩ := C0
  have hb : c.code = cL_law := hb
  have hts := fun w h => hts w (wsL_law_in w h)
  have hbA : ¬ lwA s b := Nat.not_le.mpr hbl
  intro σ τ hrel H locs ls hh hl
  obtain ⟨rx, rm, hfx, hfm, he, hR⟩ := K σ τ (xs (i + 1).toNatClampNeg) hrel
  refine lv_aload_n hx hb dL_law_659 rfl (lv_at hl 1 rfl) ?_
  refine lv_aload_n hx hb dL_law_660 rfl (lv_at hl 0 rfl) ?_
  refine lv_iload_n hx hb dL_law_661 rfl (lv_at hl 3 rfl) ?_
  refine lv_iconst (v := 1) hx hb dL_law_662 (by decide) ?_
  refine lv_iadd hx hb dL_law_663 ?_
  refine va_sld hx hb hX hbl hbA hh.2 h_1 dL_law_664 ?_
  refine z_xi (va_runV (As := [.int (xs (i + 1).toNatClampNeg)]) (rest := []) ⟨hx, hb, hml, hown, hts⟩ (zcX6_few l g (lwA s) σ τ N (xs (i + 1).toNatClampNeg) hfx) (cwV 1 hts gL_law_X6_few rfl rfl rfl hdX6_few ⟨by decide, by decide⟩) (z_preV E hh (by decide) (zC_obj (q := 54) rfl) rfl) rfl rfl hl.1 rfl (lv_room (Nat.le_of_ble_eq_true rfl)) dL_law_665 ⟨by decide, by decide⟩) hh (fun H locs hh => ?_)
  refine lv_aload_n hx hb dL_law_668 rfl (lv_at hl 2 rfl) ?_
  refine lv_aload_n hx hb dL_law_669 rfl (lv_at hl 0 rfl) ?_
  refine lv_iload_n hx hb dL_law_670 rfl (lv_at hl 3 rfl) ?_
  refine lv_iconst (v := 1) hx hb dL_law_671 (by decide) ?_
  refine lv_iadd hx hb dL_law_672 ?_
  refine va_sld hx hb hX hbl hbA hh.2 h_1 dL_law_673 ?_
  refine z_mi (va_runV (As := [.int (xs (i + 1).toNatClampNeg)]) (rest := [.int rx.1]) ⟨hx, hb, hml, hown, hts⟩ (zcX7_few l g (lwA s) rx.2 τ N (xs (i + 1).toNatClampNeg) hfm) (cwV 1 hts gL_law_X7_few rfl rfl rfl hdX7_few ⟨by decide, by decide⟩) (z_preV E hh (by decide) (zC_obj (q := 66) rfl) rfl) rfl rfl hl.1 rfl (lv_room (Nat.le_of_ble_eq_true rfl)) dL_law_674 ⟨by decide, by decide⟩) hh (fun H locs hh => ?_)
  refine lv_icmp_eq (tgt := 1268) hx hb dL_law_677 (by decide) (fun c1 => ?_) (fun c1 => absurd he c1)
  exact next rx.2 rm.2 hR _ _ _ hh hl
set_option maxRecDepth 100000 in
set_option maxHeartbeats 4000000 in
theorem law_loud {p : Program} {l : Launch} {e : Env} {s : State} {m : MethodId} {below : List Frame} {meth : Method} {c : Code} {g : zG} {b L : Nat} {xs : Nat → Int32} (C0 : lw_At p s m meth c b L xs) (E : zE g (lwA s) s) {N : Nat} {Rel : zS → zS → Prop} (K : ok_loud N Rel) {i : Int32} (h_1 : vp_in (i + 1) L) (next : lawP p l e s m below meth c g b Rel 1268 i) : lawP p l e s m below meth c g b Rel 682 i := by
  obtain ⟨hx, hb, hr, hml, hown, hts, hX, hbl, hlocks, hgv⟩ := C0
  have hb : c.code = cL_law := hb
  have hts := fun w h => hts w (wsL_law_in w h)
  have hbA : ¬ lwA s b := Nat.not_le.mpr hbl
  intro σ τ hrel H locs ls hh hl
  obtain ⟨rx, rm, hfx, hfm, he, hR⟩ := K σ τ (xs (i + 1).toNatClampNeg) hrel
  refine lv_aload_n hx hb dL_law_682 rfl (lv_at hl 1 rfl) ?_
  refine lv_aload_n hx hb dL_law_683 rfl (lv_at hl 0 rfl) ?_
  refine lv_iload_n hx hb dL_law_684 rfl (lv_at hl 3 rfl) ?_
  refine lv_iconst (v := 1) hx hb dL_law_685 (by decide) ?_
  refine lv_iadd hx hb dL_law_686 ?_
  refine va_sld hx hb hX hbl hbA hh.2 h_1 dL_law_687 ?_
  refine z_xi (va_runV (As := [.int (xs (i + 1).toNatClampNeg)]) (rest := []) ⟨hx, hb, hml, hown, hts⟩ (zcX6_loud l g (lwA s) σ τ N (xs (i + 1).toNatClampNeg) hfx) (cwV 1 hts gL_law_X6_loud rfl rfl rfl hdX6_loud ⟨by decide, by decide⟩) (z_preV E hh (by decide) (zC_obj (q := 54) rfl) rfl) rfl rfl hl.1 rfl (lv_room (Nat.le_of_ble_eq_true rfl)) dL_law_688 ⟨by decide, by decide⟩) hh (fun H locs hh => ?_)
  refine lv_aload_n hx hb dL_law_691 rfl (lv_at hl 2 rfl) ?_
  refine lv_aload_n hx hb dL_law_692 rfl (lv_at hl 0 rfl) ?_
  refine lv_iload_n hx hb dL_law_693 rfl (lv_at hl 3 rfl) ?_
  refine lv_iconst (v := 1) hx hb dL_law_694 (by decide) ?_
  refine lv_iadd hx hb dL_law_695 ?_
  refine va_sld hx hb hX hbl hbA hh.2 h_1 dL_law_696 ?_
  refine z_mi (va_runV (As := [.int (xs (i + 1).toNatClampNeg)]) (rest := [.int rx.1]) ⟨hx, hb, hml, hown, hts⟩ (zcX7_loud l g (lwA s) rx.2 τ N (xs (i + 1).toNatClampNeg) hfm) (cwV 1 hts gL_law_X7_loud rfl rfl rfl hdX7_loud ⟨by decide, by decide⟩) (z_preV E hh (by decide) (zC_obj (q := 66) rfl) rfl) rfl rfl hl.1 rfl (lv_room (Nat.le_of_ble_eq_true rfl)) dL_law_697 ⟨by decide, by decide⟩) hh (fun H locs hh => ?_)
  refine lv_icmp_eq (tgt := 1268) hx hb dL_law_700 (by decide) (fun c1 => ?_) (fun c1 => absurd he c1)
  exact next rx.2 rm.2 hR _ _ _ hh hl
set_option maxRecDepth 100000 in
set_option maxHeartbeats 4000000 in
theorem law_towers {p : Program} {l : Launch} {e : Env} {s : State} {m : MethodId} {below : List Frame} {meth : Method} {c : Code} {g : zG} {b L : Nat} {xs : Nat → Int32} (C0 : lw_At p s m meth c b L xs) (E : zE g (lwA s) s) {N : Nat} {Rel : zS → zS → Prop} (K : ok_towers N Rel) {i : Int32}  (next : lawP p l e s m below meth c g b Rel 1268 i) : lawP p l e s m below meth c g b Rel 705 i := by
  obtain ⟨hx, hb, hr, hml, hown, hts, hX, hbl, hlocks, hgv⟩ := C0
  have hb : c.code = cL_law := hb
  have hts := fun w h => hts w (wsL_law_in w h)
  have hbA : ¬ lwA s b := Nat.not_le.mpr hbl
  intro σ τ hrel H locs ls hh hl
  obtain ⟨rx, rm, hfx, hfm, he, hR⟩ := K σ τ  hrel
  refine lv_aload_n hx hb dL_law_705 rfl (lv_at hl 1 rfl) ?_
  refine z_xi (va_runV (As := []) (rest := []) ⟨hx, hb, hml, hown, hts⟩ (zcX6_towers l g (lwA s) σ τ N  hfx) (cwV 0 hts gL_law_X6_towers rfl rfl rfl hdX6_towers ⟨by decide, by decide⟩) (z_preV E hh (by decide) (zC_obj (q := 54) rfl) rfl) rfl rfl hl.1 rfl (lv_room (Nat.le_of_ble_eq_true rfl)) dL_law_706 ⟨by decide, by decide⟩) hh (fun H locs hh => ?_)
  refine lv_aload_n hx hb dL_law_709 rfl (lv_at hl 2 rfl) ?_
  refine z_mi (va_runV (As := []) (rest := [.int rx.1]) ⟨hx, hb, hml, hown, hts⟩ (zcX7_towers l g (lwA s) rx.2 τ N  hfm) (cwV 0 hts gL_law_X7_towers rfl rfl rfl hdX7_towers ⟨by decide, by decide⟩) (z_preV E hh (by decide) (zC_obj (q := 66) rfl) rfl) rfl rfl hl.1 rfl (lv_room (Nat.le_of_ble_eq_true rfl)) dL_law_710 ⟨by decide, by decide⟩) hh (fun H locs hh => ?_)
  refine lv_icmp_eq (tgt := 1268) hx hb dL_law_713 (by decide) (fun c1 => ?_) (fun c1 => absurd he c1)
  exact next rx.2 rm.2 hR _ _ _ hh hl
set_option maxRecDepth 100000 in
set_option maxHeartbeats 4000000 in
theorem law_tale {p : Program} {l : Launch} {e : Env} {s : State} {m : MethodId} {below : List Frame} {meth : Method} {c : Code} {g : zG} {b L : Nat} {xs : Nat → Int32} (C0 : lw_At p s m meth c b L xs) (E : zE g (lwA s) s) {N : Nat} {Rel : zS → zS → Prop} (K : ok_tale N Rel) {i : Int32} (h_1 : vp_in (i + 1) L) (next : lawP p l e s m below meth c g b Rel 1268 i) : lawP p l e s m below meth c g b Rel 718 i := by
  obtain ⟨hx, hb, hr, hml, hown, hts, hX, hbl, hlocks, hgv⟩ := C0
  have hb : c.code = cL_law := hb
  have hts := fun w h => hts w (wsL_law_in w h)
  have hbA : ¬ lwA s b := Nat.not_le.mpr hbl
  intro σ τ hrel H locs ls hh hl
  obtain ⟨rx, rm, hfx, hfm, he, hR⟩ := K σ τ (xs (i + 1).toNatClampNeg) hrel
  refine lv_aload_n hx hb dL_law_718 rfl (lv_at hl 1 rfl) ?_
  refine lv_aload_n hx hb dL_law_719 rfl (lv_at hl 0 rfl) ?_
  refine lv_iload_n hx hb dL_law_720 rfl (lv_at hl 3 rfl) ?_
  refine lv_iconst (v := 1) hx hb dL_law_721 (by decide) ?_
  refine lv_iadd hx hb dL_law_722 ?_
  refine va_sld hx hb hX hbl hbA hh.2 h_1 dL_law_723 ?_
  refine z_xi (va_runV (As := [.int (xs (i + 1).toNatClampNeg)]) (rest := []) ⟨hx, hb, hml, hown, hts⟩ (zcX6_tale l g (lwA s) σ τ N (xs (i + 1).toNatClampNeg) hfx) (cwV 1 hts gL_law_X6_tale rfl rfl rfl hdX6_tale ⟨by decide, by decide⟩) (z_preV E hh (by decide) (zC_obj (q := 54) rfl) rfl) rfl rfl hl.1 rfl (lv_room (Nat.le_of_ble_eq_true rfl)) dL_law_724 ⟨by decide, by decide⟩) hh (fun H locs hh => ?_)
  refine lv_aload_n hx hb dL_law_727 rfl (lv_at hl 2 rfl) ?_
  refine lv_aload_n hx hb dL_law_728 rfl (lv_at hl 0 rfl) ?_
  refine lv_iload_n hx hb dL_law_729 rfl (lv_at hl 3 rfl) ?_
  refine lv_iconst (v := 1) hx hb dL_law_730 (by decide) ?_
  refine lv_iadd hx hb dL_law_731 ?_
  refine va_sld hx hb hX hbl hbA hh.2 h_1 dL_law_732 ?_
  refine z_mi (va_runV (As := [.int (xs (i + 1).toNatClampNeg)]) (rest := [.int rx]) ⟨hx, hb, hml, hown, hts⟩ (zcX7_tale l g (lwA s) σ τ N (xs (i + 1).toNatClampNeg) hfm) (cwV 1 hts gL_law_X7_tale rfl rfl rfl hdX7_tale ⟨by decide, by decide⟩) (z_preV E hh (by decide) (zC_obj (q := 66) rfl) rfl) rfl rfl hl.1 rfl (lv_room (Nat.le_of_ble_eq_true rfl)) dL_law_733 ⟨by decide, by decide⟩) hh (fun H locs hh => ?_)
  refine lv_icmp_eq (tgt := 1268) hx hb dL_law_736 (by decide) (fun c1 => ?_) (fun c1 => absurd he c1)
  exact next σ rm.2 hR _ _ _ hh hl
set_option maxRecDepth 100000 in
set_option maxHeartbeats 4000000 in
theorem law_beds {p : Program} {l : Launch} {e : Env} {s : State} {m : MethodId} {below : List Frame} {meth : Method} {c : Code} {g : zG} {b L : Nat} {xs : Nat → Int32} (C0 : lw_At p s m meth c b L xs) (E : zE g (lwA s) s) {N : Nat} {Rel : zS → zS → Prop} (K : ok_beds N Rel) {i : Int32} (h_1 : vp_in (i + 1) L) (next : lawP p l e s m below meth c g b Rel 1268 i) : lawP p l e s m below meth c g b Rel 741 i := by
  obtain ⟨hx, hb, hr, hml, hown, hts, hX, hbl, hlocks, hgv⟩ := C0
  have hb : c.code = cL_law := hb
  have hts := fun w h => hts w (wsL_law_in w h)
  have hbA : ¬ lwA s b := Nat.not_le.mpr hbl
  intro σ τ hrel H locs ls hh hl
  obtain ⟨rx, rm, hfx, hfm, he, hR⟩ := K σ τ (xs (i + 1).toNatClampNeg) hrel
  refine lv_aload_n hx hb dL_law_741 rfl (lv_at hl 1 rfl) ?_
  refine lv_aload_n hx hb dL_law_742 rfl (lv_at hl 0 rfl) ?_
  refine lv_iload_n hx hb dL_law_743 rfl (lv_at hl 3 rfl) ?_
  refine lv_iconst (v := 1) hx hb dL_law_744 (by decide) ?_
  refine lv_iadd hx hb dL_law_745 ?_
  refine va_sld hx hb hX hbl hbA hh.2 h_1 dL_law_746 ?_
  refine z_xi (va_runV (As := [.int (xs (i + 1).toNatClampNeg)]) (rest := []) ⟨hx, hb, hml, hown, hts⟩ (zcX6_beds l g (lwA s) σ τ N (xs (i + 1).toNatClampNeg) hfx) (cwV 1 hts gL_law_X6_beds rfl rfl rfl hdX6_beds ⟨by decide, by decide⟩) (z_preV E hh (by decide) (zC_obj (q := 54) rfl) rfl) rfl rfl hl.1 rfl (lv_room (Nat.le_of_ble_eq_true rfl)) dL_law_747 ⟨by decide, by decide⟩) hh (fun H locs hh => ?_)
  refine lv_aload_n hx hb dL_law_750 rfl (lv_at hl 2 rfl) ?_
  refine lv_aload_n hx hb dL_law_751 rfl (lv_at hl 0 rfl) ?_
  refine lv_iload_n hx hb dL_law_752 rfl (lv_at hl 3 rfl) ?_
  refine lv_iconst (v := 1) hx hb dL_law_753 (by decide) ?_
  refine lv_iadd hx hb dL_law_754 ?_
  refine va_sld hx hb hX hbl hbA hh.2 h_1 dL_law_755 ?_
  refine z_mi (va_runV (As := [.int (xs (i + 1).toNatClampNeg)]) (rest := [.int rx.1]) ⟨hx, hb, hml, hown, hts⟩ (zcX7_beds l g (lwA s) rx.2 τ N (xs (i + 1).toNatClampNeg) hfm) (cwV 1 hts gL_law_X7_beds rfl rfl rfl hdX7_beds ⟨by decide, by decide⟩) (z_preV E hh (by decide) (zC_obj (q := 66) rfl) rfl) rfl rfl hl.1 rfl (lv_room (Nat.le_of_ble_eq_true rfl)) dL_law_756 ⟨by decide, by decide⟩) hh (fun H locs hh => ?_)
  refine lv_icmp_eq (tgt := 1268) hx hb dL_law_759 (by decide) (fun c1 => ?_) (fun c1 => absurd he c1)
  exact next rx.2 rm.2 hR _ _ _ hh hl
set_option maxRecDepth 100000 in
set_option maxHeartbeats 4000000 in
theorem law_brave {p : Program} {l : Launch} {e : Env} {s : State} {m : MethodId} {below : List Frame} {meth : Method} {c : Code} {g : zG} {b L : Nat} {xs : Nat → Int32} (C0 : lw_At p s m meth c b L xs) (E : zE g (lwA s) s) {N : Nat} {Rel : zS → zS → Prop} (K : ok_brave N Rel) {i : Int32}  (next : lawP p l e s m below meth c g b Rel 1268 i) : lawP p l e s m below meth c g b Rel 764 i := by
  obtain ⟨hx, hb, hr, hml, hown, hts, hX, hbl, hlocks, hgv⟩ := C0
  have hb : c.code = cL_law := hb
  have hts := fun w h => hts w (wsL_law_in w h)
  have hbA : ¬ lwA s b := Nat.not_le.mpr hbl
  intro σ τ hrel H locs ls hh hl
  obtain ⟨rx, rm, hfx, hfm, he, hR⟩ := K σ τ  hrel
  refine lv_aload_n hx hb dL_law_764 rfl (lv_at hl 1 rfl) ?_
  refine z_xi (va_runV (As := []) (rest := []) ⟨hx, hb, hml, hown, hts⟩ (zcX6_brave l g (lwA s) σ τ N  hfx) (cwV 0 hts gL_law_X6_brave rfl rfl rfl hdX6_brave ⟨by decide, by decide⟩) (z_preV E hh (by decide) (zC_obj (q := 54) rfl) rfl) rfl rfl hl.1 rfl (lv_room (Nat.le_of_ble_eq_true rfl)) dL_law_765 ⟨by decide, by decide⟩) hh (fun H locs hh => ?_)
  refine lv_aload_n hx hb dL_law_768 rfl (lv_at hl 2 rfl) ?_
  refine z_mi (va_runV (As := []) (rest := [.int rx]) ⟨hx, hb, hml, hown, hts⟩ (zcX7_brave l g (lwA s) σ τ N  hfm) (cwV 0 hts gL_law_X7_brave rfl rfl rfl hdX7_brave ⟨by decide, by decide⟩) (z_preV E hh (by decide) (zC_obj (q := 66) rfl) rfl) rfl rfl hl.1 rfl (lv_room (Nat.le_of_ble_eq_true rfl)) dL_law_769 ⟨by decide, by decide⟩) hh (fun H locs hh => ?_)
  refine lv_icmp_eq (tgt := 1268) hx hb dL_law_772 (by decide) (fun c1 => ?_) (fun c1 => absurd he c1)
  exact next σ τ hR _ _ _ hh hl
set_option maxRecDepth 100000 in
set_option maxHeartbeats 4000000 in
theorem law_value {p : Program} {l : Launch} {e : Env} {s : State} {m : MethodId} {below : List Frame} {meth : Method} {c : Code} {g : zG} {b L : Nat} {xs : Nat → Int32} (C0 : lw_At p s m meth c b L xs) (E : zE g (lwA s) s) {N : Nat} {Rel : zS → zS → Prop} (K : ok_value N Rel) {i : Int32} (h_1 : vp_in (i + 1) L) (next : lawP p l e s m below meth c g b Rel 1268 i) : lawP p l e s m below meth c g b Rel 777 i := by
  obtain ⟨hx, hb, hr, hml, hown, hts, hX, hbl, hlocks, hgv⟩ := C0
  have hb : c.code = cL_law := hb
  have hts := fun w h => hts w (wsL_law_in w h)
  have hbA : ¬ lwA s b := Nat.not_le.mpr hbl
  intro σ τ hrel H locs ls hh hl
  obtain ⟨rx, rm, hfx, hfm, he, hR⟩ := K σ τ (xs (i + 1).toNatClampNeg) hrel
  refine lv_aload_n hx hb dL_law_777 rfl (lv_at hl 1 rfl) ?_
  refine lv_aload_n hx hb dL_law_778 rfl (lv_at hl 0 rfl) ?_
  refine lv_iload_n hx hb dL_law_779 rfl (lv_at hl 3 rfl) ?_
  refine lv_iconst (v := 1) hx hb dL_law_780 (by decide) ?_
  refine lv_iadd hx hb dL_law_781 ?_
  refine va_sld hx hb hX hbl hbA hh.2 h_1 dL_law_782 ?_
  refine z_xi (va_runV (As := [.int (xs (i + 1).toNatClampNeg)]) (rest := []) ⟨hx, hb, hml, hown, hts⟩ (zcX6_value l g (lwA s) σ τ N (xs (i + 1).toNatClampNeg) hfx) (cwV 1 hts gL_law_X6_value rfl rfl rfl hdX6_value ⟨by decide, by decide⟩) (z_preV E hh (by decide) (zC_obj (q := 54) rfl) rfl) rfl rfl hl.1 rfl (lv_room (Nat.le_of_ble_eq_true rfl)) dL_law_783 ⟨by decide, by decide⟩) hh (fun H locs hh => ?_)
  refine lv_aload_n hx hb dL_law_786 rfl (lv_at hl 2 rfl) ?_
  refine lv_aload_n hx hb dL_law_787 rfl (lv_at hl 0 rfl) ?_
  refine lv_iload_n hx hb dL_law_788 rfl (lv_at hl 3 rfl) ?_
  refine lv_iconst (v := 1) hx hb dL_law_789 (by decide) ?_
  refine lv_iadd hx hb dL_law_790 ?_
  refine va_sld hx hb hX hbl hbA hh.2 h_1 dL_law_791 ?_
  refine z_mi (va_runV (As := [.int (xs (i + 1).toNatClampNeg)]) (rest := [.int rx.1]) ⟨hx, hb, hml, hown, hts⟩ (zcX7_value l g (lwA s) rx.2 τ N (xs (i + 1).toNatClampNeg) hfm) (cwV 1 hts gL_law_X7_value rfl rfl rfl hdX7_value ⟨by decide, by decide⟩) (z_preV E hh (by decide) (zC_obj (q := 66) rfl) rfl) rfl rfl hl.1 rfl (lv_room (Nat.le_of_ble_eq_true rfl)) dL_law_792 ⟨by decide, by decide⟩) hh (fun H locs hh => ?_)
  refine lv_icmp_eq (tgt := 1268) hx hb dL_law_795 (by decide) (fun c1 => ?_) (fun c1 => absurd he c1)
  exact next rx.2 rm.2 hR _ _ _ hh hl
set_option maxRecDepth 100000 in
set_option maxHeartbeats 4000000 in
theorem law_share {p : Program} {l : Launch} {e : Env} {s : State} {m : MethodId} {below : List Frame} {meth : Method} {c : Code} {g : zG} {b L : Nat} {xs : Nat → Int32} (C0 : lw_At p s m meth c b L xs) (E : zE g (lwA s) s) {N : Nat} {Rel : zS → zS → Prop} (K : ok_share N Rel) {i : Int32} (h_1 : vp_in (i + 1) L) (h_2 : vp_in (i + 2) L) (next : lawP p l e s m below meth c g b Rel 1268 i) : lawP p l e s m below meth c g b Rel 800 i := by
  obtain ⟨hx, hb, hr, hml, hown, hts, hX, hbl, hlocks, hgv⟩ := C0
  have hb : c.code = cL_law := hb
  have hts := fun w h => hts w (wsL_law_in w h)
  have hbA : ¬ lwA s b := Nat.not_le.mpr hbl
  intro σ τ hrel H locs ls hh hl
  obtain ⟨rx, rm, hfx, hfm, he, hR⟩ := K σ τ (xs (i + 1).toNatClampNeg) (xs (i + 2).toNatClampNeg) hrel
  refine lv_aload_n hx hb dL_law_800 rfl (lv_at hl 1 rfl) ?_
  refine lv_aload_n hx hb dL_law_801 rfl (lv_at hl 0 rfl) ?_
  refine lv_iload_n hx hb dL_law_802 rfl (lv_at hl 3 rfl) ?_
  refine lv_iconst (v := 1) hx hb dL_law_803 (by decide) ?_
  refine lv_iadd hx hb dL_law_804 ?_
  refine va_sld hx hb hX hbl hbA hh.2 h_1 dL_law_805 ?_
  refine lv_aload_n hx hb dL_law_806 rfl (lv_at hl 0 rfl) ?_
  refine lv_iload_n hx hb dL_law_807 rfl (lv_at hl 3 rfl) ?_
  refine lv_iconst (v := 2) hx hb dL_law_808 (by decide) ?_
  refine lv_iadd hx hb dL_law_809 ?_
  refine va_sld hx hb hX hbl hbA hh.2 h_2 dL_law_810 ?_
  refine z_xl (va_runV (As := [.int (xs (i + 1).toNatClampNeg), .int (xs (i + 2).toNatClampNeg)]) (rest := []) ⟨hx, hb, hml, hown, hts⟩ (zcX6_share l g (lwA s) σ τ N (xs (i + 1).toNatClampNeg) (xs (i + 2).toNatClampNeg) hfx) (cwV 2 hts gL_law_X6_share rfl rfl rfl hdX6_share ⟨by decide, by decide⟩) (z_preV E hh (by decide) (zC_obj (q := 54) rfl) rfl) rfl rfl hl.1 rfl (lv_room (Nat.le_of_ble_eq_true rfl)) dL_law_811 ⟨by decide, by decide⟩) hh (fun H locs hh => ?_)
  refine lv_aload_n hx hb dL_law_814 rfl (lv_at hl 2 rfl) ?_
  refine lv_aload_n hx hb dL_law_815 rfl (lv_at hl 0 rfl) ?_
  refine lv_iload_n hx hb dL_law_816 rfl (lv_at hl 3 rfl) ?_
  refine lv_iconst (v := 1) hx hb dL_law_817 (by decide) ?_
  refine lv_iadd hx hb dL_law_818 ?_
  refine va_sld hx hb hX hbl hbA hh.2 h_1 dL_law_819 ?_
  refine lv_aload_n hx hb dL_law_820 rfl (lv_at hl 0 rfl) ?_
  refine lv_iload_n hx hb dL_law_821 rfl (lv_at hl 3 rfl) ?_
  refine lv_iconst (v := 2) hx hb dL_law_822 (by decide) ?_
  refine lv_iadd hx hb dL_law_823 ?_
  refine va_sld hx hb hX hbl hbA hh.2 h_2 dL_law_824 ?_
  refine z_ml (va_runV (As := [.int (xs (i + 1).toNatClampNeg), .int (xs (i + 2).toNatClampNeg)]) (rest := [.long rx.1]) ⟨hx, hb, hml, hown, hts⟩ (zcX7_share l g (lwA s) rx.2 τ N (xs (i + 1).toNatClampNeg) (xs (i + 2).toNatClampNeg) hfm) (cwV 2 hts gL_law_X7_share rfl rfl rfl hdX7_share ⟨by decide, by decide⟩) (z_preV E hh (by decide) (zC_obj (q := 66) rfl) rfl) rfl rfl hl.1 rfl (lv_room (Nat.le_of_ble_eq_true rfl)) dL_law_825 ⟨by decide, by decide⟩) hh (fun H locs hh => ?_)
  refine W.lcmp hx hb dL_law_828 ?_
  refine lv_if_eq (tgt := 1268) hx hb dL_law_829 (by decide) (fun c1 => ?_) (fun c1 => absurd (by (try dsimp only); rw [he]; exact lg_cmp_self _) c1)
  exact next rx.2 rm.2 hR _ _ _ hh hl
set_option maxRecDepth 100000 in
set_option maxHeartbeats 4000000 in
theorem law_mean {p : Program} {l : Launch} {e : Env} {s : State} {m : MethodId} {below : List Frame} {meth : Method} {c : Code} {g : zG} {b L : Nat} {xs : Nat → Int32} (C0 : lw_At p s m meth c b L xs) (E : zE g (lwA s) s) {N : Nat} {Rel : zS → zS → Prop} (K : ok_mean N Rel) {i : Int32} (h_1 : vp_in (i + 1) L) (h_2 : vp_in (i + 2) L) (next : lawP p l e s m below meth c g b Rel 1268 i) : lawP p l e s m below meth c g b Rel 834 i := by
  obtain ⟨hx, hb, hr, hml, hown, hts, hX, hbl, hlocks, hgv⟩ := C0
  have hb : c.code = cL_law := hb
  have hts := fun w h => hts w (wsL_law_in w h)
  have hbA : ¬ lwA s b := Nat.not_le.mpr hbl
  intro σ τ hrel H locs ls hh hl
  obtain ⟨rx, rm, hfx, hfm, he, hR⟩ := K σ τ (xs (i + 1).toNatClampNeg) (xs (i + 2).toNatClampNeg) hrel
  refine lv_aload_n hx hb dL_law_834 rfl (lv_at hl 1 rfl) ?_
  refine lv_aload_n hx hb dL_law_835 rfl (lv_at hl 0 rfl) ?_
  refine lv_iload_n hx hb dL_law_836 rfl (lv_at hl 3 rfl) ?_
  refine lv_iconst (v := 1) hx hb dL_law_837 (by decide) ?_
  refine lv_iadd hx hb dL_law_838 ?_
  refine va_sld hx hb hX hbl hbA hh.2 h_1 dL_law_839 ?_
  refine lv_aload_n hx hb dL_law_840 rfl (lv_at hl 0 rfl) ?_
  refine lv_iload_n hx hb dL_law_841 rfl (lv_at hl 3 rfl) ?_
  refine lv_iconst (v := 2) hx hb dL_law_842 (by decide) ?_
  refine lv_iadd hx hb dL_law_843 ?_
  refine va_sld hx hb hX hbl hbA hh.2 h_2 dL_law_844 ?_
  refine z_xl (va_runV (As := [.int (xs (i + 1).toNatClampNeg), .int (xs (i + 2).toNatClampNeg)]) (rest := []) ⟨hx, hb, hml, hown, hts⟩ (zcX6_mean l g (lwA s) σ τ N (xs (i + 1).toNatClampNeg) (xs (i + 2).toNatClampNeg) hfx) (cwV 2 hts gL_law_X6_mean rfl rfl rfl hdX6_mean ⟨by decide, by decide⟩) (z_preV E hh (by decide) (zC_obj (q := 54) rfl) rfl) rfl rfl hl.1 rfl (lv_room (Nat.le_of_ble_eq_true rfl)) dL_law_845 ⟨by decide, by decide⟩) hh (fun H locs hh => ?_)
  refine lv_aload_n hx hb dL_law_848 rfl (lv_at hl 2 rfl) ?_
  refine lv_aload_n hx hb dL_law_849 rfl (lv_at hl 0 rfl) ?_
  refine lv_iload_n hx hb dL_law_850 rfl (lv_at hl 3 rfl) ?_
  refine lv_iconst (v := 1) hx hb dL_law_851 (by decide) ?_
  refine lv_iadd hx hb dL_law_852 ?_
  refine va_sld hx hb hX hbl hbA hh.2 h_1 dL_law_853 ?_
  refine lv_aload_n hx hb dL_law_854 rfl (lv_at hl 0 rfl) ?_
  refine lv_iload_n hx hb dL_law_855 rfl (lv_at hl 3 rfl) ?_
  refine lv_iconst (v := 2) hx hb dL_law_856 (by decide) ?_
  refine lv_iadd hx hb dL_law_857 ?_
  refine va_sld hx hb hX hbl hbA hh.2 h_2 dL_law_858 ?_
  refine z_ml (va_runV (As := [.int (xs (i + 1).toNatClampNeg), .int (xs (i + 2).toNatClampNeg)]) (rest := [.long rx.1]) ⟨hx, hb, hml, hown, hts⟩ (zcX7_mean l g (lwA s) rx.2 τ N (xs (i + 1).toNatClampNeg) (xs (i + 2).toNatClampNeg) hfm) (cwV 2 hts gL_law_X7_mean rfl rfl rfl hdX7_mean ⟨by decide, by decide⟩) (z_preV E hh (by decide) (zC_obj (q := 66) rfl) rfl) rfl rfl hl.1 rfl (lv_room (Nat.le_of_ble_eq_true rfl)) dL_law_859 ⟨by decide, by decide⟩) hh (fun H locs hh => ?_)
  refine W.lcmp hx hb dL_law_862 ?_
  refine lv_if_eq (tgt := 1268) hx hb dL_law_863 (by decide) (fun c1 => ?_) (fun c1 => absurd (by (try dsimp only); rw [he]; exact lg_cmp_self _) c1)
  exact next rx.2 τ hR _ _ _ hh hl
set_option maxRecDepth 100000 in
set_option maxHeartbeats 4000000 in
theorem law_luck {p : Program} {l : Launch} {e : Env} {s : State} {m : MethodId} {below : List Frame} {meth : Method} {c : Code} {g : zG} {b L : Nat} {xs : Nat → Int32} (C0 : lw_At p s m meth c b L xs) (E : zE g (lwA s) s) {N : Nat} {Rel : zS → zS → Prop} (K : ok_luck N Rel) {i : Int32} (h_1 : vp_in (i + 1) L) (h_2 : vp_in (i + 2) L) (next : lawP p l e s m below meth c g b Rel 1268 i) : lawP p l e s m below meth c g b Rel 868 i := by
  obtain ⟨hx, hb, hr, hml, hown, hts, hX, hbl, hlocks, hgv⟩ := C0
  have hb : c.code = cL_law := hb
  have hts := fun w h => hts w (wsL_law_in w h)
  have hbA : ¬ lwA s b := Nat.not_le.mpr hbl
  intro σ τ hrel H locs ls hh hl
  obtain ⟨rx, rm, hfx, hfm, he, hR⟩ := K σ τ (xs (i + 1).toNatClampNeg) (xs (i + 2).toNatClampNeg) hrel
  refine lv_aload_n hx hb dL_law_868 rfl (lv_at hl 1 rfl) ?_
  refine lv_aload_n hx hb dL_law_869 rfl (lv_at hl 0 rfl) ?_
  refine lv_iload_n hx hb dL_law_870 rfl (lv_at hl 3 rfl) ?_
  refine lv_iconst (v := 1) hx hb dL_law_871 (by decide) ?_
  refine lv_iadd hx hb dL_law_872 ?_
  refine va_sld hx hb hX hbl hbA hh.2 h_1 dL_law_873 ?_
  refine lv_aload_n hx hb dL_law_874 rfl (lv_at hl 0 rfl) ?_
  refine lv_iload_n hx hb dL_law_875 rfl (lv_at hl 3 rfl) ?_
  refine lv_iconst (v := 2) hx hb dL_law_876 (by decide) ?_
  refine lv_iadd hx hb dL_law_877 ?_
  refine va_sld hx hb hX hbl hbA hh.2 h_2 dL_law_878 ?_
  refine z_xl (va_runV (As := [.int (xs (i + 1).toNatClampNeg), .int (xs (i + 2).toNatClampNeg)]) (rest := []) ⟨hx, hb, hml, hown, hts⟩ (zcX6_luck l g (lwA s) σ τ N (xs (i + 1).toNatClampNeg) (xs (i + 2).toNatClampNeg) hfx) (cwV 2 hts gL_law_X6_luck rfl rfl rfl hdX6_luck ⟨by decide, by decide⟩) (z_preV E hh (by decide) (zC_obj (q := 54) rfl) rfl) rfl rfl hl.1 rfl (lv_room (Nat.le_of_ble_eq_true rfl)) dL_law_879 ⟨by decide, by decide⟩) hh (fun H locs hh => ?_)
  refine lv_aload_n hx hb dL_law_882 rfl (lv_at hl 2 rfl) ?_
  refine lv_aload_n hx hb dL_law_883 rfl (lv_at hl 0 rfl) ?_
  refine lv_iload_n hx hb dL_law_884 rfl (lv_at hl 3 rfl) ?_
  refine lv_iconst (v := 1) hx hb dL_law_885 (by decide) ?_
  refine lv_iadd hx hb dL_law_886 ?_
  refine va_sld hx hb hX hbl hbA hh.2 h_1 dL_law_887 ?_
  refine lv_aload_n hx hb dL_law_888 rfl (lv_at hl 0 rfl) ?_
  refine lv_iload_n hx hb dL_law_889 rfl (lv_at hl 3 rfl) ?_
  refine lv_iconst (v := 2) hx hb dL_law_890 (by decide) ?_
  refine lv_iadd hx hb dL_law_891 ?_
  refine va_sld hx hb hX hbl hbA hh.2 h_2 dL_law_892 ?_
  refine z_ml (va_runV (As := [.int (xs (i + 1).toNatClampNeg), .int (xs (i + 2).toNatClampNeg)]) (rest := [.long rx.1]) ⟨hx, hb, hml, hown, hts⟩ (zcX7_luck l g (lwA s) rx.2 τ N (xs (i + 1).toNatClampNeg) (xs (i + 2).toNatClampNeg) hfm) (cwV 2 hts gL_law_X7_luck rfl rfl rfl hdX7_luck ⟨by decide, by decide⟩) (z_preV E hh (by decide) (zC_obj (q := 66) rfl) rfl) rfl rfl hl.1 rfl (lv_room (Nat.le_of_ble_eq_true rfl)) dL_law_893 ⟨by decide, by decide⟩) hh (fun H locs hh => ?_)
  refine W.lcmp hx hb dL_law_896 ?_
  refine lv_if_eq (tgt := 1268) hx hb dL_law_897 (by decide) (fun c1 => ?_) (fun c1 => absurd (by (try dsimp only); rw [he]; exact lg_cmp_self _) c1)
  exact next rx.2 τ hR _ _ _ hh hl
set_option maxRecDepth 100000 in
set_option maxHeartbeats 4000000 in
theorem law_see {p : Program} {l : Launch} {e : Env} {s : State} {m : MethodId} {below : List Frame} {meth : Method} {c : Code} {g : zG} {b L : Nat} {xs : Nat → Int32} (C0 : lw_At p s m meth c b L xs) (E : zE g (lwA s) s) {N : Nat} {Rel : zS → zS → Prop} (K : ok_see N Rel) {i : Int32} (h_1 : vp_in (i + 1) L) (h_2 : vp_in (i + 2) L) (next : lawP p l e s m below meth c g b Rel 1268 i) : lawP p l e s m below meth c g b Rel 902 i := by
  obtain ⟨hx, hb, hr, hml, hown, hts, hX, hbl, hlocks, hgv⟩ := C0
  have hb : c.code = cL_law := hb
  have hts := fun w h => hts w (wsL_law_in w h)
  have hbA : ¬ lwA s b := Nat.not_le.mpr hbl
  intro σ τ hrel H locs ls hh hl
  obtain ⟨rx, rm, hfx, hfm, he, hR⟩ := K σ τ (xs (i + 1).toNatClampNeg) (xs (i + 2).toNatClampNeg) hrel
  refine lv_aload_n hx hb dL_law_902 rfl (lv_at hl 1 rfl) ?_
  refine lv_aload_n hx hb dL_law_903 rfl (lv_at hl 0 rfl) ?_
  refine lv_iload_n hx hb dL_law_904 rfl (lv_at hl 3 rfl) ?_
  refine lv_iconst (v := 1) hx hb dL_law_905 (by decide) ?_
  refine lv_iadd hx hb dL_law_906 ?_
  refine va_sld hx hb hX hbl hbA hh.2 h_1 dL_law_907 ?_
  refine lv_aload_n hx hb dL_law_908 rfl (lv_at hl 0 rfl) ?_
  refine lv_iload_n hx hb dL_law_909 rfl (lv_at hl 3 rfl) ?_
  refine lv_iconst (v := 2) hx hb dL_law_910 (by decide) ?_
  refine lv_iadd hx hb dL_law_911 ?_
  refine va_sld hx hb hX hbl hbA hh.2 h_2 dL_law_912 ?_
  refine z_xi (va_runV (As := [.int (xs (i + 1).toNatClampNeg), .int (xs (i + 2).toNatClampNeg)]) (rest := []) ⟨hx, hb, hml, hown, hts⟩ (zcX6_see l g (lwA s) σ τ N (xs (i + 1).toNatClampNeg) (xs (i + 2).toNatClampNeg) hfx) (cwV 2 hts gL_law_X6_see rfl rfl rfl hdX6_see ⟨by decide, by decide⟩) (z_preV E hh (by decide) (zC_obj (q := 54) rfl) rfl) rfl rfl hl.1 rfl (lv_room (Nat.le_of_ble_eq_true rfl)) dL_law_913 ⟨by decide, by decide⟩) hh (fun H locs hh => ?_)
  refine lv_aload_n hx hb dL_law_916 rfl (lv_at hl 2 rfl) ?_
  refine lv_aload_n hx hb dL_law_917 rfl (lv_at hl 0 rfl) ?_
  refine lv_iload_n hx hb dL_law_918 rfl (lv_at hl 3 rfl) ?_
  refine lv_iconst (v := 1) hx hb dL_law_919 (by decide) ?_
  refine lv_iadd hx hb dL_law_920 ?_
  refine va_sld hx hb hX hbl hbA hh.2 h_1 dL_law_921 ?_
  refine lv_aload_n hx hb dL_law_922 rfl (lv_at hl 0 rfl) ?_
  refine lv_iload_n hx hb dL_law_923 rfl (lv_at hl 3 rfl) ?_
  refine lv_iconst (v := 2) hx hb dL_law_924 (by decide) ?_
  refine lv_iadd hx hb dL_law_925 ?_
  refine va_sld hx hb hX hbl hbA hh.2 h_2 dL_law_926 ?_
  refine z_mi (va_runV (As := [.int (xs (i + 1).toNatClampNeg), .int (xs (i + 2).toNatClampNeg)]) (rest := [.int rx.1]) ⟨hx, hb, hml, hown, hts⟩ (zcX7_see l g (lwA s) rx.2 τ N (xs (i + 1).toNatClampNeg) (xs (i + 2).toNatClampNeg) hfm) (cwV 2 hts gL_law_X7_see rfl rfl rfl hdX7_see ⟨by decide, by decide⟩) (z_preV E hh (by decide) (zC_obj (q := 66) rfl) rfl) rfl rfl hl.1 rfl (lv_room (Nat.le_of_ble_eq_true rfl)) dL_law_927 ⟨by decide, by decide⟩) hh (fun H locs hh => ?_)
  refine lv_icmp_eq (tgt := 1268) hx hb dL_law_930 (by decide) (fun c1 => ?_) (fun c1 => absurd he c1)
  exact next rx.2 rm.2 hR _ _ _ hh hl
set_option maxRecDepth 100000 in
set_option maxHeartbeats 4000000 in
theorem law_forget {p : Program} {l : Launch} {e : Env} {s : State} {m : MethodId} {below : List Frame} {meth : Method} {c : Code} {g : zG} {b L : Nat} {xs : Nat → Int32} (C0 : lw_At p s m meth c b L xs) (E : zE g (lwA s) s) {N : Nat} {Rel : zS → zS → Prop} (K : ok_forget N Rel) {i : Int32} (h_1 : vp_in (i + 1) L) (next : lawP p l e s m below meth c g b Rel 1268 i) : lawP p l e s m below meth c g b Rel 935 i := by
  obtain ⟨hx, hb, hr, hml, hown, hts, hX, hbl, hlocks, hgv⟩ := C0
  have hb : c.code = cL_law := hb
  have hts := fun w h => hts w (wsL_law_in w h)
  have hbA : ¬ lwA s b := Nat.not_le.mpr hbl
  intro σ τ hrel H locs ls hh hl
  obtain ⟨rx, rm, hfx, hfm, he, hR⟩ := K σ τ (xs (i + 1).toNatClampNeg) hrel
  refine lv_aload_n hx hb dL_law_935 rfl (lv_at hl 1 rfl) ?_
  refine lv_aload_n hx hb dL_law_936 rfl (lv_at hl 0 rfl) ?_
  refine lv_iload_n hx hb dL_law_937 rfl (lv_at hl 3 rfl) ?_
  refine lv_iconst (v := 1) hx hb dL_law_938 (by decide) ?_
  refine lv_iadd hx hb dL_law_939 ?_
  refine va_sld hx hb hX hbl hbA hh.2 h_1 dL_law_940 ?_
  refine z_xi (va_runV (As := [.int (xs (i + 1).toNatClampNeg)]) (rest := []) ⟨hx, hb, hml, hown, hts⟩ (zcX6_forget l g (lwA s) σ τ N (xs (i + 1).toNatClampNeg) hfx) (cwV 1 hts gL_law_X6_forget rfl rfl rfl hdX6_forget ⟨by decide, by decide⟩) (z_preV E hh (by decide) (zC_obj (q := 54) rfl) rfl) rfl rfl hl.1 rfl (lv_room (Nat.le_of_ble_eq_true rfl)) dL_law_941 ⟨by decide, by decide⟩) hh (fun H locs hh => ?_)
  refine lv_aload_n hx hb dL_law_944 rfl (lv_at hl 2 rfl) ?_
  refine lv_aload_n hx hb dL_law_945 rfl (lv_at hl 0 rfl) ?_
  refine lv_iload_n hx hb dL_law_946 rfl (lv_at hl 3 rfl) ?_
  refine lv_iconst (v := 1) hx hb dL_law_947 (by decide) ?_
  refine lv_iadd hx hb dL_law_948 ?_
  refine va_sld hx hb hX hbl hbA hh.2 h_1 dL_law_949 ?_
  refine z_mi (va_runV (As := [.int (xs (i + 1).toNatClampNeg)]) (rest := [.int rx.1]) ⟨hx, hb, hml, hown, hts⟩ (zcX7_forget l g (lwA s) rx.2 τ N (xs (i + 1).toNatClampNeg) hfm) (cwV 1 hts gL_law_X7_forget rfl rfl rfl hdX7_forget ⟨by decide, by decide⟩) (z_preV E hh (by decide) (zC_obj (q := 66) rfl) rfl) rfl rfl hl.1 rfl (lv_room (Nat.le_of_ble_eq_true rfl)) dL_law_950 ⟨by decide, by decide⟩) hh (fun H locs hh => ?_)
  refine lv_icmp_eq (tgt := 1268) hx hb dL_law_953 (by decide) (fun c1 => ?_) (fun c1 => absurd he c1)
  exact next rx.2 rm.2 hR _ _ _ hh hl
set_option maxRecDepth 100000 in
set_option maxHeartbeats 4000000 in
theorem law_fits {p : Program} {l : Launch} {e : Env} {s : State} {m : MethodId} {below : List Frame} {meth : Method} {c : Code} {g : zG} {b L : Nat} {xs : Nat → Int32} (C0 : lw_At p s m meth c b L xs) (E : zE g (lwA s) s) {N : Nat} {Rel : zS → zS → Prop} (K : ok_fits N Rel) {i : Int32} (h_1 : vp_in (i + 1) L) (next : lawP p l e s m below meth c g b Rel 1268 i) : lawP p l e s m below meth c g b Rel 958 i := by
  obtain ⟨hx, hb, hr, hml, hown, hts, hX, hbl, hlocks, hgv⟩ := C0
  have hb : c.code = cL_law := hb
  have hts := fun w h => hts w (wsL_law_in w h)
  have hbA : ¬ lwA s b := Nat.not_le.mpr hbl
  intro σ τ hrel H locs ls hh hl
  obtain ⟨rx, rm, hfx, hfm, he, hR⟩ := K σ τ (xs (i + 1).toNatClampNeg) hrel
  refine lv_aload_n hx hb dL_law_958 rfl (lv_at hl 1 rfl) ?_
  refine lv_aload_n hx hb dL_law_959 rfl (lv_at hl 0 rfl) ?_
  refine lv_iload_n hx hb dL_law_960 rfl (lv_at hl 3 rfl) ?_
  refine lv_iconst (v := 1) hx hb dL_law_961 (by decide) ?_
  refine lv_iadd hx hb dL_law_962 ?_
  refine va_sld hx hb hX hbl hbA hh.2 h_1 dL_law_963 ?_
  refine z_xi (va_runV (As := [.int (xs (i + 1).toNatClampNeg)]) (rest := []) ⟨hx, hb, hml, hown, hts⟩ (zcX6_fits l g (lwA s) σ τ N (xs (i + 1).toNatClampNeg) hfx) (cwV 1 hts gL_law_X6_fits rfl rfl rfl hdX6_fits ⟨by decide, by decide⟩) (z_preV E hh (by decide) (zC_obj (q := 54) rfl) rfl) rfl rfl hl.1 rfl (lv_room (Nat.le_of_ble_eq_true rfl)) dL_law_964 ⟨by decide, by decide⟩) hh (fun H locs hh => ?_)
  refine lv_aload_n hx hb dL_law_967 rfl (lv_at hl 2 rfl) ?_
  refine lv_aload_n hx hb dL_law_968 rfl (lv_at hl 0 rfl) ?_
  refine lv_iload_n hx hb dL_law_969 rfl (lv_at hl 3 rfl) ?_
  refine lv_iconst (v := 1) hx hb dL_law_970 (by decide) ?_
  refine lv_iadd hx hb dL_law_971 ?_
  refine va_sld hx hb hX hbl hbA hh.2 h_1 dL_law_972 ?_
  refine z_mi (va_runV (As := [.int (xs (i + 1).toNatClampNeg)]) (rest := [.int rx.1]) ⟨hx, hb, hml, hown, hts⟩ (zcX7_fits l g (lwA s) rx.2 τ N (xs (i + 1).toNatClampNeg) hfm) (cwV 1 hts gL_law_X7_fits rfl rfl rfl hdX7_fits ⟨by decide, by decide⟩) (z_preV E hh (by decide) (zC_obj (q := 66) rfl) rfl) rfl rfl hl.1 rfl (lv_room (Nat.le_of_ble_eq_true rfl)) dL_law_973 ⟨by decide, by decide⟩) hh (fun H locs hh => ?_)
  refine lv_icmp_eq (tgt := 1268) hx hb dL_law_976 (by decide) (fun c1 => ?_) (fun c1 => absurd he c1)
  exact next rx.2 τ hR _ _ _ hh hl
set_option maxRecDepth 100000 in
set_option maxHeartbeats 4000000 in
theorem law_ask {p : Program} {l : Launch} {e : Env} {s : State} {m : MethodId} {below : List Frame} {meth : Method} {c : Code} {g : zG} {b L : Nat} {xs : Nat → Int32} (C0 : lw_At p s m meth c b L xs) (E : zE g (lwA s) s) {N : Nat} {Rel : zS → zS → Prop} (K : ok_ask N Rel) {i : Int32} (h_1 : vp_in (i + 1) L) (next : lawP p l e s m below meth c g b Rel 1268 i) : lawP p l e s m below meth c g b Rel 981 i := by
  obtain ⟨hx, hb, hr, hml, hown, hts, hX, hbl, hlocks, hgv⟩ := C0
  have hb : c.code = cL_law := hb
  have hts := fun w h => hts w (wsL_law_in w h)
  have hbA : ¬ lwA s b := Nat.not_le.mpr hbl
  intro σ τ hrel H locs ls hh hl
  obtain ⟨rx, rm, hfx, hfm, he, hR⟩ := K σ τ (xs (i + 1).toNatClampNeg) hrel
  refine lv_aload_n hx hb dL_law_981 rfl (lv_at hl 1 rfl) ?_
  refine lv_aload_n hx hb dL_law_982 rfl (lv_at hl 0 rfl) ?_
  refine lv_iload_n hx hb dL_law_983 rfl (lv_at hl 3 rfl) ?_
  refine lv_iconst (v := 1) hx hb dL_law_984 (by decide) ?_
  refine lv_iadd hx hb dL_law_985 ?_
  refine va_sld hx hb hX hbl hbA hh.2 h_1 dL_law_986 ?_
  refine z_xi (va_runV (As := [.int (xs (i + 1).toNatClampNeg)]) (rest := []) ⟨hx, hb, hml, hown, hts⟩ (zcX6_ask l g (lwA s) σ τ N (xs (i + 1).toNatClampNeg) hfx) (cwV 1 hts gL_law_X6_ask rfl rfl rfl hdX6_ask ⟨by decide, by decide⟩) (z_preV E hh (by decide) (zC_obj (q := 54) rfl) rfl) rfl rfl hl.1 rfl (lv_room (Nat.le_of_ble_eq_true rfl)) dL_law_987 ⟨by decide, by decide⟩) hh (fun H locs hh => ?_)
  refine lv_aload_n hx hb dL_law_990 rfl (lv_at hl 2 rfl) ?_
  refine lv_aload_n hx hb dL_law_991 rfl (lv_at hl 0 rfl) ?_
  refine lv_iload_n hx hb dL_law_992 rfl (lv_at hl 3 rfl) ?_
  refine lv_iconst (v := 1) hx hb dL_law_993 (by decide) ?_
  refine lv_iadd hx hb dL_law_994 ?_
  refine va_sld hx hb hX hbl hbA hh.2 h_1 dL_law_995 ?_
  refine z_mi (va_runV (As := [.int (xs (i + 1).toNatClampNeg)]) (rest := [.int rx.1]) ⟨hx, hb, hml, hown, hts⟩ (zcX7_ask l g (lwA s) rx.2 τ N (xs (i + 1).toNatClampNeg) hfm) (cwV 1 hts gL_law_X7_ask rfl rfl rfl hdX7_ask ⟨by decide, by decide⟩) (z_preV E hh (by decide) (zC_obj (q := 66) rfl) rfl) rfl rfl hl.1 rfl (lv_room (Nat.le_of_ble_eq_true rfl)) dL_law_996 ⟨by decide, by decide⟩) hh (fun H locs hh => ?_)
  refine lv_icmp_eq (tgt := 1268) hx hb dL_law_999 (by decide) (fun c1 => ?_) (fun c1 => absurd he c1)
  exact next rx.2 rm.2 hR _ _ _ hh hl
set_option maxRecDepth 100000 in
set_option maxHeartbeats 4000000 in
theorem law_drift {p : Program} {l : Launch} {e : Env} {s : State} {m : MethodId} {below : List Frame} {meth : Method} {c : Code} {g : zG} {b L : Nat} {xs : Nat → Int32} (C0 : lw_At p s m meth c b L xs) (E : zE g (lwA s) s) {N : Nat} {Rel : zS → zS → Prop} (K : ok_drift N Rel) {i : Int32} (h_1 : vp_in (i + 1) L) (h_2 : vp_in (i + 2) L) (h_3 : vp_in (i + 3) L) (next : lawP p l e s m below meth c g b Rel 1268 i) : lawP p l e s m below meth c g b Rel 1004 i := by
  obtain ⟨hx, hb, hr, hml, hown, hts, hX, hbl, hlocks, hgv⟩ := C0
  have hb : c.code = cL_law := hb
  have hts := fun w h => hts w (wsL_law_in w h)
  have hbA : ¬ lwA s b := Nat.not_le.mpr hbl
  intro σ τ hrel H locs ls hh hl
  obtain ⟨rx, rm, hfx, hfm, he, hR⟩ := K σ τ (xs (i + 1).toNatClampNeg) (xs (i + 2).toNatClampNeg) (xs (i + 3).toNatClampNeg) hrel
  refine lv_aload_n hx hb dL_law_1004 rfl (lv_at hl 1 rfl) ?_
  refine lv_aload_n hx hb dL_law_1005 rfl (lv_at hl 0 rfl) ?_
  refine lv_iload_n hx hb dL_law_1006 rfl (lv_at hl 3 rfl) ?_
  refine lv_iconst (v := 1) hx hb dL_law_1007 (by decide) ?_
  refine lv_iadd hx hb dL_law_1008 ?_
  refine va_sld hx hb hX hbl hbA hh.2 h_1 dL_law_1009 ?_
  refine lv_aload_n hx hb dL_law_1010 rfl (lv_at hl 0 rfl) ?_
  refine lv_iload_n hx hb dL_law_1011 rfl (lv_at hl 3 rfl) ?_
  refine lv_iconst (v := 2) hx hb dL_law_1012 (by decide) ?_
  refine lv_iadd hx hb dL_law_1013 ?_
  refine va_sld hx hb hX hbl hbA hh.2 h_2 dL_law_1014 ?_
  refine lv_aload_n hx hb dL_law_1015 rfl (lv_at hl 0 rfl) ?_
  refine lv_iload_n hx hb dL_law_1016 rfl (lv_at hl 3 rfl) ?_
  refine lv_iconst (v := 3) hx hb dL_law_1017 (by decide) ?_
  refine lv_iadd hx hb dL_law_1018 ?_
  refine va_sld hx hb hX hbl hbA hh.2 h_3 dL_law_1019 ?_
  refine z_xi (va_runV (As := [.int (xs (i + 1).toNatClampNeg), .int (xs (i + 2).toNatClampNeg), .int (xs (i + 3).toNatClampNeg)]) (rest := []) ⟨hx, hb, hml, hown, hts⟩ (zcX6_drift l g (lwA s) σ τ N (xs (i + 1).toNatClampNeg) (xs (i + 2).toNatClampNeg) (xs (i + 3).toNatClampNeg) hfx) (cwV 3 hts gL_law_X6_drift rfl rfl rfl hdX6_drift ⟨by decide, by decide⟩) (z_preV E hh (by decide) (zC_obj (q := 54) rfl) rfl) rfl rfl hl.1 rfl (lv_room (Nat.le_of_ble_eq_true rfl)) dL_law_1020 ⟨by decide, by decide⟩) hh (fun H locs hh => ?_)
  refine lv_aload_n hx hb dL_law_1023 rfl (lv_at hl 2 rfl) ?_
  refine lv_aload_n hx hb dL_law_1024 rfl (lv_at hl 0 rfl) ?_
  refine lv_iload_n hx hb dL_law_1025 rfl (lv_at hl 3 rfl) ?_
  refine lv_iconst (v := 1) hx hb dL_law_1026 (by decide) ?_
  refine lv_iadd hx hb dL_law_1027 ?_
  refine va_sld hx hb hX hbl hbA hh.2 h_1 dL_law_1028 ?_
  refine lv_aload_n hx hb dL_law_1029 rfl (lv_at hl 0 rfl) ?_
  refine lv_iload_n hx hb dL_law_1030 rfl (lv_at hl 3 rfl) ?_
  refine lv_iconst (v := 2) hx hb dL_law_1031 (by decide) ?_
  refine lv_iadd hx hb dL_law_1032 ?_
  refine va_sld hx hb hX hbl hbA hh.2 h_2 dL_law_1033 ?_
  refine lv_aload_n hx hb dL_law_1034 rfl (lv_at hl 0 rfl) ?_
  refine lv_iload_n hx hb dL_law_1035 rfl (lv_at hl 3 rfl) ?_
  refine lv_iconst (v := 3) hx hb dL_law_1036 (by decide) ?_
  refine lv_iadd hx hb dL_law_1037 ?_
  refine va_sld hx hb hX hbl hbA hh.2 h_3 dL_law_1038 ?_
  refine z_mi (va_runV (As := [.int (xs (i + 1).toNatClampNeg), .int (xs (i + 2).toNatClampNeg), .int (xs (i + 3).toNatClampNeg)]) (rest := [.int rx.1]) ⟨hx, hb, hml, hown, hts⟩ (zcX7_drift l g (lwA s) rx.2 τ N (xs (i + 1).toNatClampNeg) (xs (i + 2).toNatClampNeg) (xs (i + 3).toNatClampNeg) hfm) (cwV 3 hts gL_law_X7_drift rfl rfl rfl hdX7_drift ⟨by decide, by decide⟩) (z_preV E hh (by decide) (zC_obj (q := 66) rfl) rfl) rfl rfl hl.1 rfl (lv_room (Nat.le_of_ble_eq_true rfl)) dL_law_1039 ⟨by decide, by decide⟩) hh (fun H locs hh => ?_)
  refine lv_icmp_eq (tgt := 1268) hx hb dL_law_1042 (by decide) (fun c1 => ?_) (fun c1 => absurd he c1)
  exact next rx.2 rm.2 hR _ _ _ hh hl
set_option maxRecDepth 100000 in
set_option maxHeartbeats 4000000 in
theorem law_keep {p : Program} {l : Launch} {e : Env} {s : State} {m : MethodId} {below : List Frame} {meth : Method} {c : Code} {g : zG} {b L : Nat} {xs : Nat → Int32} (C0 : lw_At p s m meth c b L xs) (E : zE g (lwA s) s) {N : Nat} {Rel : zS → zS → Prop} (K : ok_keep N Rel) {i : Int32} (h_1 : vp_in (i + 1) L) (next : lawP p l e s m below meth c g b Rel 1268 i) : lawP p l e s m below meth c g b Rel 1047 i := by
  obtain ⟨hx, hb, hr, hml, hown, hts, hX, hbl, hlocks, hgv⟩ := C0
  have hb : c.code = cL_law := hb
  have hts := fun w h => hts w (wsL_law_in w h)
  have hbA : ¬ lwA s b := Nat.not_le.mpr hbl
  intro σ τ hrel H locs ls hh hl
  obtain ⟨rx, rm, hfx, hfm, he, hR⟩ := K σ τ (xs (i + 1).toNatClampNeg) hrel
  refine lv_aload_n hx hb dL_law_1047 rfl (lv_at hl 1 rfl) ?_
  refine lv_aload_n hx hb dL_law_1048 rfl (lv_at hl 0 rfl) ?_
  refine lv_iload_n hx hb dL_law_1049 rfl (lv_at hl 3 rfl) ?_
  refine lv_iconst (v := 1) hx hb dL_law_1050 (by decide) ?_
  refine lv_iadd hx hb dL_law_1051 ?_
  refine va_sld hx hb hX hbl hbA hh.2 h_1 dL_law_1052 ?_
  refine z_xi (va_runV (As := [.int (xs (i + 1).toNatClampNeg)]) (rest := []) ⟨hx, hb, hml, hown, hts⟩ (zcX6_keep l g (lwA s) σ τ N (xs (i + 1).toNatClampNeg) hfx) (cwV 1 hts gL_law_X6_keep rfl rfl rfl hdX6_keep ⟨by decide, by decide⟩) (z_preV E hh (by decide) (zC_obj (q := 54) rfl) rfl) rfl rfl hl.1 rfl (lv_room (Nat.le_of_ble_eq_true rfl)) dL_law_1053 ⟨by decide, by decide⟩) hh (fun H locs hh => ?_)
  refine lv_aload_n hx hb dL_law_1056 rfl (lv_at hl 2 rfl) ?_
  refine lv_aload_n hx hb dL_law_1057 rfl (lv_at hl 0 rfl) ?_
  refine lv_iload_n hx hb dL_law_1058 rfl (lv_at hl 3 rfl) ?_
  refine lv_iconst (v := 1) hx hb dL_law_1059 (by decide) ?_
  refine lv_iadd hx hb dL_law_1060 ?_
  refine va_sld hx hb hX hbl hbA hh.2 h_1 dL_law_1061 ?_
  refine z_mi (va_runV (As := [.int (xs (i + 1).toNatClampNeg)]) (rest := [.int rx.1]) ⟨hx, hb, hml, hown, hts⟩ (zcX7_keep l g (lwA s) rx.2 τ N (xs (i + 1).toNatClampNeg) hfm) (cwV 1 hts gL_law_X7_keep rfl rfl rfl hdX7_keep ⟨by decide, by decide⟩) (z_preV E hh (by decide) (zC_obj (q := 66) rfl) rfl) rfl rfl hl.1 rfl (lv_room (Nat.le_of_ble_eq_true rfl)) dL_law_1062 ⟨by decide, by decide⟩) hh (fun H locs hh => ?_)
  refine lv_icmp_eq (tgt := 1268) hx hb dL_law_1065 (by decide) (fun c1 => ?_) (fun c1 => absurd he c1)
  exact next rx.2 rm.2 hR _ _ _ hh hl
set_option maxRecDepth 100000 in
set_option maxHeartbeats 4000000 in
theorem law_back {p : Program} {l : Launch} {e : Env} {s : State} {m : MethodId} {below : List Frame} {meth : Method} {c : Code} {g : zG} {b L : Nat} {xs : Nat → Int32} (C0 : lw_At p s m meth c b L xs) (E : zE g (lwA s) s) {N : Nat} {Rel : zS → zS → Prop} (K : ok_back N Rel) {i : Int32} (h_1 : vp_in (i + 1) L) (next : lawP p l e s m below meth c g b Rel 1268 i) : lawP p l e s m below meth c g b Rel 1070 i := by
  obtain ⟨hx, hb, hr, hml, hown, hts, hX, hbl, hlocks, hgv⟩ := C0
  have hb : c.code = cL_law := hb
  have hts := fun w h => hts w (wsL_law_in w h)
  have hbA : ¬ lwA s b := Nat.not_le.mpr hbl
  intro σ τ hrel H locs ls hh hl
  obtain ⟨rx, rm, hfx, hfm, he, hR⟩ := K σ τ (xs (i + 1).toNatClampNeg) hrel
  refine lv_aload_n hx hb dL_law_1070 rfl (lv_at hl 1 rfl) ?_
  refine lv_aload_n hx hb dL_law_1071 rfl (lv_at hl 0 rfl) ?_
  refine lv_iload_n hx hb dL_law_1072 rfl (lv_at hl 3 rfl) ?_
  refine lv_iconst (v := 1) hx hb dL_law_1073 (by decide) ?_
  refine lv_iadd hx hb dL_law_1074 ?_
  refine va_sld hx hb hX hbl hbA hh.2 h_1 dL_law_1075 ?_
  refine z_xi (va_runV (As := [.int (xs (i + 1).toNatClampNeg)]) (rest := []) ⟨hx, hb, hml, hown, hts⟩ (zcX6_back l g (lwA s) σ τ N (xs (i + 1).toNatClampNeg) hfx) (cwV 1 hts gL_law_X6_back rfl rfl rfl hdX6_back ⟨by decide, by decide⟩) (z_preV E hh (by decide) (zC_obj (q := 54) rfl) rfl) rfl rfl hl.1 rfl (lv_room (Nat.le_of_ble_eq_true rfl)) dL_law_1076 ⟨by decide, by decide⟩) hh (fun H locs hh => ?_)
  refine lv_aload_n hx hb dL_law_1079 rfl (lv_at hl 2 rfl) ?_
  refine lv_aload_n hx hb dL_law_1080 rfl (lv_at hl 0 rfl) ?_
  refine lv_iload_n hx hb dL_law_1081 rfl (lv_at hl 3 rfl) ?_
  refine lv_iconst (v := 1) hx hb dL_law_1082 (by decide) ?_
  refine lv_iadd hx hb dL_law_1083 ?_
  refine va_sld hx hb hX hbl hbA hh.2 h_1 dL_law_1084 ?_
  refine z_mi (va_runV (As := [.int (xs (i + 1).toNatClampNeg)]) (rest := [.int rx.1]) ⟨hx, hb, hml, hown, hts⟩ (zcX7_back l g (lwA s) rx.2 τ N (xs (i + 1).toNatClampNeg) hfm) (cwV 1 hts gL_law_X7_back rfl rfl rfl hdX7_back ⟨by decide, by decide⟩) (z_preV E hh (by decide) (zC_obj (q := 66) rfl) rfl) rfl rfl hl.1 rfl (lv_room (Nat.le_of_ble_eq_true rfl)) dL_law_1085 ⟨by decide, by decide⟩) hh (fun H locs hh => ?_)
  refine lv_icmp_eq (tgt := 1268) hx hb dL_law_1088 (by decide) (fun c1 => ?_) (fun c1 => absurd he c1)
  exact next rx.2 rm.2 hR _ _ _ hh hl
set_option maxRecDepth 100000 in
set_option maxHeartbeats 4000000 in
theorem law_sheet {p : Program} {l : Launch} {e : Env} {s : State} {m : MethodId} {below : List Frame} {meth : Method} {c : Code} {g : zG} {b L : Nat} {xs : Nat → Int32} (C0 : lw_At p s m meth c b L xs) (E : zE g (lwA s) s) {N : Nat} {Rel : zS → zS → Prop} (K : ok_sheet N Rel) {i : Int32} (h_1 : vp_in (i + 1) L) (h_2 : vp_in (i + 2) L) (h_3 : vp_in (i + 3) L) (next : lawP p l e s m below meth c g b Rel 1268 i) : lawP p l e s m below meth c g b Rel 1093 i := by
  obtain ⟨hx, hb, hr, hml, hown, hts, hX, hbl, hlocks, hgv⟩ := C0
  have hb : c.code = cL_law := hb
  have hts := fun w h => hts w (wsL_law_in w h)
  have hbA : ¬ lwA s b := Nat.not_le.mpr hbl
  intro σ τ hrel H locs ls hh hl
  obtain ⟨rx, rm, hfx, hfm, he, hR⟩ := K σ τ (xs (i + 1).toNatClampNeg) (xs (i + 2).toNatClampNeg) (xs (i + 3).toNatClampNeg) hrel
  refine lv_aload_n hx hb dL_law_1093 rfl (lv_at hl 1 rfl) ?_
  refine lv_aload_n hx hb dL_law_1094 rfl (lv_at hl 0 rfl) ?_
  refine lv_iload_n hx hb dL_law_1095 rfl (lv_at hl 3 rfl) ?_
  refine lv_iconst (v := 1) hx hb dL_law_1096 (by decide) ?_
  refine lv_iadd hx hb dL_law_1097 ?_
  refine va_sld hx hb hX hbl hbA hh.2 h_1 dL_law_1098 ?_
  refine lv_aload_n hx hb dL_law_1099 rfl (lv_at hl 0 rfl) ?_
  refine lv_iload_n hx hb dL_law_1100 rfl (lv_at hl 3 rfl) ?_
  refine lv_iconst (v := 2) hx hb dL_law_1101 (by decide) ?_
  refine lv_iadd hx hb dL_law_1102 ?_
  refine va_sld hx hb hX hbl hbA hh.2 h_2 dL_law_1103 ?_
  refine lv_aload_n hx hb dL_law_1104 rfl (lv_at hl 0 rfl) ?_
  refine lv_iload_n hx hb dL_law_1105 rfl (lv_at hl 3 rfl) ?_
  refine lv_iconst (v := 3) hx hb dL_law_1106 (by decide) ?_
  refine lv_iadd hx hb dL_law_1107 ?_
  refine va_sld hx hb hX hbl hbA hh.2 h_3 dL_law_1108 ?_
  refine z_xi (va_runV (As := [.int (xs (i + 1).toNatClampNeg), .int (xs (i + 2).toNatClampNeg), .int (xs (i + 3).toNatClampNeg)]) (rest := []) ⟨hx, hb, hml, hown, hts⟩ (zcX6_sheet l g (lwA s) σ τ N (xs (i + 1).toNatClampNeg) (xs (i + 2).toNatClampNeg) (xs (i + 3).toNatClampNeg) hfx) (cwV 3 hts gL_law_X6_sheet rfl rfl rfl hdX6_sheet ⟨by decide, by decide⟩) (z_preV E hh (by decide) (zC_obj (q := 54) rfl) rfl) rfl rfl hl.1 rfl (lv_room (Nat.le_of_ble_eq_true rfl)) dL_law_1109 ⟨by decide, by decide⟩) hh (fun H locs hh => ?_)
  refine lv_aload_n hx hb dL_law_1112 rfl (lv_at hl 2 rfl) ?_
  refine lv_aload_n hx hb dL_law_1113 rfl (lv_at hl 0 rfl) ?_
  refine lv_iload_n hx hb dL_law_1114 rfl (lv_at hl 3 rfl) ?_
  refine lv_iconst (v := 1) hx hb dL_law_1115 (by decide) ?_
  refine lv_iadd hx hb dL_law_1116 ?_
  refine va_sld hx hb hX hbl hbA hh.2 h_1 dL_law_1117 ?_
  refine lv_aload_n hx hb dL_law_1118 rfl (lv_at hl 0 rfl) ?_
  refine lv_iload_n hx hb dL_law_1119 rfl (lv_at hl 3 rfl) ?_
  refine lv_iconst (v := 2) hx hb dL_law_1120 (by decide) ?_
  refine lv_iadd hx hb dL_law_1121 ?_
  refine va_sld hx hb hX hbl hbA hh.2 h_2 dL_law_1122 ?_
  refine lv_aload_n hx hb dL_law_1123 rfl (lv_at hl 0 rfl) ?_
  refine lv_iload_n hx hb dL_law_1124 rfl (lv_at hl 3 rfl) ?_
  refine lv_iconst (v := 3) hx hb dL_law_1125 (by decide) ?_
  refine lv_iadd hx hb dL_law_1126 ?_
  refine va_sld hx hb hX hbl hbA hh.2 h_3 dL_law_1127 ?_
  refine z_mi (va_runV (As := [.int (xs (i + 1).toNatClampNeg), .int (xs (i + 2).toNatClampNeg), .int (xs (i + 3).toNatClampNeg)]) (rest := [.int rx.1]) ⟨hx, hb, hml, hown, hts⟩ (zcX7_sheet l g (lwA s) rx.2 τ N (xs (i + 1).toNatClampNeg) (xs (i + 2).toNatClampNeg) (xs (i + 3).toNatClampNeg) hfm) (cwV 3 hts gL_law_X7_sheet rfl rfl rfl hdX7_sheet ⟨by decide, by decide⟩) (z_preV E hh (by decide) (zC_obj (q := 66) rfl) rfl) rfl rfl hl.1 rfl (lv_room (Nat.le_of_ble_eq_true rfl)) dL_law_1128 ⟨by decide, by decide⟩) hh (fun H locs hh => ?_)
  refine lv_icmp_eq (tgt := 1268) hx hb dL_law_1131 (by decide) (fun c1 => ?_) (fun c1 => absurd he c1)
  exact next rx.2 rm.2 hR _ _ _ hh hl
set_option maxRecDepth 100000 in
set_option maxHeartbeats 4000000 in
theorem law_lay {p : Program} {l : Launch} {e : Env} {s : State} {m : MethodId} {below : List Frame} {meth : Method} {c : Code} {g : zG} {b L : Nat} {xs : Nat → Int32} (C0 : lw_At p s m meth c b L xs) (E : zE g (lwA s) s) {N : Nat} {Rel : zS → zS → Prop} (K : ok_lay N Rel) {i : Int32} (h_1 : vp_in (i + 1) L) (h_2 : vp_in (i + 2) L) (h_3 : vp_in (i + 3) L) (next : lawP p l e s m below meth c g b Rel 1268 i) : lawP p l e s m below meth c g b Rel 1136 i := by
  obtain ⟨hx, hb, hr, hml, hown, hts, hX, hbl, hlocks, hgv⟩ := C0
  have hb : c.code = cL_law := hb
  have hts := fun w h => hts w (wsL_law_in w h)
  have hbA : ¬ lwA s b := Nat.not_le.mpr hbl
  intro σ τ hrel H locs ls hh hl
  obtain ⟨rx, rm, hfx, hfm, he, hR⟩ := K σ τ (xs (i + 1).toNatClampNeg) (xs (i + 2).toNatClampNeg) (xs (i + 3).toNatClampNeg) hrel
  refine lv_aload_n hx hb dL_law_1136 rfl (lv_at hl 1 rfl) ?_
  refine lv_aload_n hx hb dL_law_1137 rfl (lv_at hl 0 rfl) ?_
  refine lv_iload_n hx hb dL_law_1138 rfl (lv_at hl 3 rfl) ?_
  refine lv_iconst (v := 1) hx hb dL_law_1139 (by decide) ?_
  refine lv_iadd hx hb dL_law_1140 ?_
  refine va_sld hx hb hX hbl hbA hh.2 h_1 dL_law_1141 ?_
  refine lv_aload_n hx hb dL_law_1142 rfl (lv_at hl 0 rfl) ?_
  refine lv_iload_n hx hb dL_law_1143 rfl (lv_at hl 3 rfl) ?_
  refine lv_iconst (v := 2) hx hb dL_law_1144 (by decide) ?_
  refine lv_iadd hx hb dL_law_1145 ?_
  refine va_sld hx hb hX hbl hbA hh.2 h_2 dL_law_1146 ?_
  refine lv_aload_n hx hb dL_law_1147 rfl (lv_at hl 0 rfl) ?_
  refine lv_iload_n hx hb dL_law_1148 rfl (lv_at hl 3 rfl) ?_
  refine lv_iconst (v := 3) hx hb dL_law_1149 (by decide) ?_
  refine lv_iadd hx hb dL_law_1150 ?_
  refine va_sld hx hb hX hbl hbA hh.2 h_3 dL_law_1151 ?_
  refine z_xi (va_runV (As := [.int (xs (i + 1).toNatClampNeg), .int (xs (i + 2).toNatClampNeg), .int (xs (i + 3).toNatClampNeg)]) (rest := []) ⟨hx, hb, hml, hown, hts⟩ (zcX6_lay l g (lwA s) σ τ N (xs (i + 1).toNatClampNeg) (xs (i + 2).toNatClampNeg) (xs (i + 3).toNatClampNeg) hfx) (cwV 3 hts gL_law_X6_lay rfl rfl rfl hdX6_lay ⟨by decide, by decide⟩) (z_preV E hh (by decide) (zC_obj (q := 54) rfl) rfl) rfl rfl hl.1 rfl (lv_room (Nat.le_of_ble_eq_true rfl)) dL_law_1152 ⟨by decide, by decide⟩) hh (fun H locs hh => ?_)
  refine lv_aload_n hx hb dL_law_1155 rfl (lv_at hl 2 rfl) ?_
  refine lv_aload_n hx hb dL_law_1156 rfl (lv_at hl 0 rfl) ?_
  refine lv_iload_n hx hb dL_law_1157 rfl (lv_at hl 3 rfl) ?_
  refine lv_iconst (v := 1) hx hb dL_law_1158 (by decide) ?_
  refine lv_iadd hx hb dL_law_1159 ?_
  refine va_sld hx hb hX hbl hbA hh.2 h_1 dL_law_1160 ?_
  refine lv_aload_n hx hb dL_law_1161 rfl (lv_at hl 0 rfl) ?_
  refine lv_iload_n hx hb dL_law_1162 rfl (lv_at hl 3 rfl) ?_
  refine lv_iconst (v := 2) hx hb dL_law_1163 (by decide) ?_
  refine lv_iadd hx hb dL_law_1164 ?_
  refine va_sld hx hb hX hbl hbA hh.2 h_2 dL_law_1165 ?_
  refine lv_aload_n hx hb dL_law_1166 rfl (lv_at hl 0 rfl) ?_
  refine lv_iload_n hx hb dL_law_1167 rfl (lv_at hl 3 rfl) ?_
  refine lv_iconst (v := 3) hx hb dL_law_1168 (by decide) ?_
  refine lv_iadd hx hb dL_law_1169 ?_
  refine va_sld hx hb hX hbl hbA hh.2 h_3 dL_law_1170 ?_
  refine z_mi (va_runV (As := [.int (xs (i + 1).toNatClampNeg), .int (xs (i + 2).toNatClampNeg), .int (xs (i + 3).toNatClampNeg)]) (rest := [.int rx.1]) ⟨hx, hb, hml, hown, hts⟩ (zcX7_lay l g (lwA s) rx.2 τ N (xs (i + 1).toNatClampNeg) (xs (i + 2).toNatClampNeg) (xs (i + 3).toNatClampNeg) hfm) (cwV 3 hts gL_law_X7_lay rfl rfl rfl hdX7_lay ⟨by decide, by decide⟩) (z_preV E hh (by decide) (zC_obj (q := 66) rfl) rfl) rfl rfl hl.1 rfl (lv_room (Nat.le_of_ble_eq_true rfl)) dL_law_1171 ⟨by decide, by decide⟩) hh (fun H locs hh => ?_)
  refine lv_icmp_eq (tgt := 1268) hx hb dL_law_1174 (by decide) (fun c1 => ?_) (fun c1 => absurd he c1)
  exact next rx.2 rm.2 hR _ _ _ hh hl
set_option maxRecDepth 100000 in
set_option maxHeartbeats 4000000 in
theorem law_read {p : Program} {l : Launch} {e : Env} {s : State} {m : MethodId} {below : List Frame} {meth : Method} {c : Code} {g : zG} {b L : Nat} {xs : Nat → Int32} (C0 : lw_At p s m meth c b L xs) (E : zE g (lwA s) s) {N : Nat} {Rel : zS → zS → Prop} (K : ok_read N Rel) {i : Int32} (h_1 : vp_in (i + 1) L) (h_2 : vp_in (i + 2) L) (h_3 : vp_in (i + 3) L) (h_4 : vp_in (i + 4) L) (next : lawP p l e s m below meth c g b Rel 1268 i) : lawP p l e s m below meth c g b Rel 1179 i := by
  obtain ⟨hx, hb, hr, hml, hown, hts, hX, hbl, hlocks, hgv⟩ := C0
  have hb : c.code = cL_law := hb
  have hts := fun w h => hts w (wsL_law_in w h)
  have hbA : ¬ lwA s b := Nat.not_le.mpr hbl
  intro σ τ hrel H locs ls hh hl
  obtain ⟨rx, rm, hfx, hfm, he, hR⟩ := K σ τ (xs (i + 1).toNatClampNeg) (xs (i + 2).toNatClampNeg) (xs (i + 3).toNatClampNeg) (xs (i + 4).toNatClampNeg) hrel
  refine lv_aload_n hx hb dL_law_1179 rfl (lv_at hl 1 rfl) ?_
  refine lv_aload_n hx hb dL_law_1180 rfl (lv_at hl 0 rfl) ?_
  refine lv_iload_n hx hb dL_law_1181 rfl (lv_at hl 3 rfl) ?_
  refine lv_iconst (v := 1) hx hb dL_law_1182 (by decide) ?_
  refine lv_iadd hx hb dL_law_1183 ?_
  refine va_sld hx hb hX hbl hbA hh.2 h_1 dL_law_1184 ?_
  refine lv_aload_n hx hb dL_law_1185 rfl (lv_at hl 0 rfl) ?_
  refine lv_iload_n hx hb dL_law_1186 rfl (lv_at hl 3 rfl) ?_
  refine lv_iconst (v := 2) hx hb dL_law_1187 (by decide) ?_
  refine lv_iadd hx hb dL_law_1188 ?_
  refine va_sld hx hb hX hbl hbA hh.2 h_2 dL_law_1189 ?_
  refine lv_aload_n hx hb dL_law_1190 rfl (lv_at hl 0 rfl) ?_
  refine lv_iload_n hx hb dL_law_1191 rfl (lv_at hl 3 rfl) ?_
  refine lv_iconst (v := 3) hx hb dL_law_1192 (by decide) ?_
  refine lv_iadd hx hb dL_law_1193 ?_
  refine va_sld hx hb hX hbl hbA hh.2 h_3 dL_law_1194 ?_
  refine lv_aload_n hx hb dL_law_1195 rfl (lv_at hl 0 rfl) ?_
  refine lv_iload_n hx hb dL_law_1196 rfl (lv_at hl 3 rfl) ?_
  refine lv_iconst (v := 4) hx hb dL_law_1197 (by decide) ?_
  refine lv_iadd hx hb dL_law_1198 ?_
  refine va_sld hx hb hX hbl hbA hh.2 h_4 dL_law_1199 ?_
  refine z_xi (va_runV (As := [.int (xs (i + 1).toNatClampNeg), .int (xs (i + 2).toNatClampNeg), .int (xs (i + 3).toNatClampNeg), .int (xs (i + 4).toNatClampNeg)]) (rest := []) ⟨hx, hb, hml, hown, hts⟩ (zcX6_read l g (lwA s) σ τ N (xs (i + 1).toNatClampNeg) (xs (i + 2).toNatClampNeg) (xs (i + 3).toNatClampNeg) (xs (i + 4).toNatClampNeg) hfx) (cwV 4 hts gL_law_X6_read rfl rfl rfl hdX6_read ⟨by decide, by decide⟩) (z_preV E hh (by decide) (zC_obj (q := 54) rfl) rfl) rfl rfl hl.1 rfl (lv_room (Nat.le_of_ble_eq_true rfl)) dL_law_1200 ⟨by decide, by decide⟩) hh (fun H locs hh => ?_)
  refine lv_aload_n hx hb dL_law_1203 rfl (lv_at hl 2 rfl) ?_
  refine lv_aload_n hx hb dL_law_1204 rfl (lv_at hl 0 rfl) ?_
  refine lv_iload_n hx hb dL_law_1205 rfl (lv_at hl 3 rfl) ?_
  refine lv_iconst (v := 1) hx hb dL_law_1206 (by decide) ?_
  refine lv_iadd hx hb dL_law_1207 ?_
  refine va_sld hx hb hX hbl hbA hh.2 h_1 dL_law_1208 ?_
  refine lv_aload_n hx hb dL_law_1209 rfl (lv_at hl 0 rfl) ?_
  refine lv_iload_n hx hb dL_law_1210 rfl (lv_at hl 3 rfl) ?_
  refine lv_iconst (v := 2) hx hb dL_law_1211 (by decide) ?_
  refine lv_iadd hx hb dL_law_1212 ?_
  refine va_sld hx hb hX hbl hbA hh.2 h_2 dL_law_1213 ?_
  refine lv_aload_n hx hb dL_law_1214 rfl (lv_at hl 0 rfl) ?_
  refine lv_iload_n hx hb dL_law_1215 rfl (lv_at hl 3 rfl) ?_
  refine lv_iconst (v := 3) hx hb dL_law_1216 (by decide) ?_
  refine lv_iadd hx hb dL_law_1217 ?_
  refine va_sld hx hb hX hbl hbA hh.2 h_3 dL_law_1218 ?_
  refine lv_aload_n hx hb dL_law_1219 rfl (lv_at hl 0 rfl) ?_
  refine lv_iload_n hx hb dL_law_1220 rfl (lv_at hl 3 rfl) ?_
  refine lv_iconst (v := 4) hx hb dL_law_1221 (by decide) ?_
  refine lv_iadd hx hb dL_law_1222 ?_
  refine va_sld hx hb hX hbl hbA hh.2 h_4 dL_law_1223 ?_
  refine z_mi (va_runV (As := [.int (xs (i + 1).toNatClampNeg), .int (xs (i + 2).toNatClampNeg), .int (xs (i + 3).toNatClampNeg), .int (xs (i + 4).toNatClampNeg)]) (rest := [.int rx.1]) ⟨hx, hb, hml, hown, hts⟩ (zcX7_read l g (lwA s) rx.2 τ N (xs (i + 1).toNatClampNeg) (xs (i + 2).toNatClampNeg) (xs (i + 3).toNatClampNeg) (xs (i + 4).toNatClampNeg) hfm) (cwV 4 hts gL_law_X7_read rfl rfl rfl hdX7_read ⟨by decide, by decide⟩) (z_preV E hh (by decide) (zC_obj (q := 66) rfl) rfl) rfl rfl hl.1 rfl (lv_room (Nat.le_of_ble_eq_true rfl)) dL_law_1224 ⟨by decide, by decide⟩) hh (fun H locs hh => ?_)
  refine lv_icmp_eq (tgt := 1268) hx hb dL_law_1227 (by decide) (fun c1 => ?_) (fun c1 => absurd he c1)
  exact next rx.2 rm.2 hR _ _ _ hh hl
set_option maxRecDepth 100000 in
set_option maxHeartbeats 4000000 in
theorem law_torn {p : Program} {l : Launch} {e : Env} {s : State} {m : MethodId} {below : List Frame} {meth : Method} {c : Code} {g : zG} {b L : Nat} {xs : Nat → Int32} (C0 : lw_At p s m meth c b L xs) (E : zE g (lwA s) s) {N : Nat} {Rel : zS → zS → Prop} (K : ok_torn N Rel) {i : Int32}  (next : lawP p l e s m below meth c g b Rel 1268 i) : lawP p l e s m below meth c g b Rel 1232 i := by
  obtain ⟨hx, hb, hr, hml, hown, hts, hX, hbl, hlocks, hgv⟩ := C0
  have hb : c.code = cL_law := hb
  have hts := fun w h => hts w (wsL_law_in w h)
  have hbA : ¬ lwA s b := Nat.not_le.mpr hbl
  intro σ τ hrel H locs ls hh hl
  obtain ⟨rx, rm, hfx, hfm, he, hR⟩ := K σ τ  hrel
  refine lv_aload_n hx hb dL_law_1232 rfl (lv_at hl 1 rfl) ?_
  refine z_xi (va_runV (As := []) (rest := []) ⟨hx, hb, hml, hown, hts⟩ (zcX6_torn l g (lwA s) σ τ N  hfx) (cwV 0 hts gL_law_X6_torn rfl rfl rfl hdX6_torn ⟨by decide, by decide⟩) (z_preV E hh (by decide) (zC_obj (q := 54) rfl) rfl) rfl rfl hl.1 rfl (lv_room (Nat.le_of_ble_eq_true rfl)) dL_law_1233 ⟨by decide, by decide⟩) hh (fun H locs hh => ?_)
  refine lv_aload_n hx hb dL_law_1236 rfl (lv_at hl 2 rfl) ?_
  refine z_mi (va_runV (As := []) (rest := [.int rx]) ⟨hx, hb, hml, hown, hts⟩ (zcX7_torn l g (lwA s) σ τ N  hfm) (cwV 0 hts gL_law_X7_torn rfl rfl rfl hdX7_torn ⟨by decide, by decide⟩) (z_preV E hh (by decide) (zC_obj (q := 66) rfl) rfl) rfl rfl hl.1 rfl (lv_room (Nat.le_of_ble_eq_true rfl)) dL_law_1237 ⟨by decide, by decide⟩) hh (fun H locs hh => ?_)
  refine lv_icmp_eq (tgt := 1268) hx hb dL_law_1240 (by decide) (fun c1 => ?_) (fun c1 => absurd he c1)
  exact next σ τ hR _ _ _ hh hl
set_option maxRecDepth 100000 in
set_option maxHeartbeats 4000000 in
theorem law_count {p : Program} {l : Launch} {e : Env} {s : State} {m : MethodId} {below : List Frame} {meth : Method} {c : Code} {g : zG} {b L : Nat} {xs : Nat → Int32} (C0 : lw_At p s m meth c b L xs) (E : zE g (lwA s) s) {N : Nat} {Rel : zS → zS → Prop} (K : ok_count N Rel) {i : Int32} (h_1 : vp_in (i + 1) L) (next : lawP p l e s m below meth c g b Rel 1268 i) : lawP p l e s m below meth c g b Rel 1245 i := by
  obtain ⟨hx, hb, hr, hml, hown, hts, hX, hbl, hlocks, hgv⟩ := C0
  have hb : c.code = cL_law := hb
  have hts := fun w h => hts w (wsL_law_in w h)
  have hbA : ¬ lwA s b := Nat.not_le.mpr hbl
  intro σ τ hrel H locs ls hh hl
  obtain ⟨rx, rm, hfx, hfm, he, hR⟩ := K σ τ (xs (i + 1).toNatClampNeg) hrel
  refine lv_aload_n hx hb dL_law_1245 rfl (lv_at hl 1 rfl) ?_
  refine lv_aload_n hx hb dL_law_1246 rfl (lv_at hl 0 rfl) ?_
  refine lv_iload_n hx hb dL_law_1247 rfl (lv_at hl 3 rfl) ?_
  refine lv_iconst (v := 1) hx hb dL_law_1248 (by decide) ?_
  refine lv_iadd hx hb dL_law_1249 ?_
  refine va_sld hx hb hX hbl hbA hh.2 h_1 dL_law_1250 ?_
  refine z_xi (va_runV (As := [.int (xs (i + 1).toNatClampNeg)]) (rest := []) ⟨hx, hb, hml, hown, hts⟩ (zcX6_count l g (lwA s) σ τ N (xs (i + 1).toNatClampNeg) hfx) (cwV 1 hts gL_law_X6_count rfl rfl rfl hdX6_count ⟨by decide, by decide⟩) (z_preV E hh (by decide) (zC_obj (q := 54) rfl) rfl) rfl rfl hl.1 rfl (lv_room (Nat.le_of_ble_eq_true rfl)) dL_law_1251 ⟨by decide, by decide⟩) hh (fun H locs hh => ?_)
  refine lv_aload_n hx hb dL_law_1254 rfl (lv_at hl 2 rfl) ?_
  refine lv_aload_n hx hb dL_law_1255 rfl (lv_at hl 0 rfl) ?_
  refine lv_iload_n hx hb dL_law_1256 rfl (lv_at hl 3 rfl) ?_
  refine lv_iconst (v := 1) hx hb dL_law_1257 (by decide) ?_
  refine lv_iadd hx hb dL_law_1258 ?_
  refine va_sld hx hb hX hbl hbA hh.2 h_1 dL_law_1259 ?_
  refine z_mi (va_runV (As := [.int (xs (i + 1).toNatClampNeg)]) (rest := [.int rx]) ⟨hx, hb, hml, hown, hts⟩ (zcX7_count l g (lwA s) σ τ N (xs (i + 1).toNatClampNeg) hfm) (cwV 1 hts gL_law_X7_count rfl rfl rfl hdX7_count ⟨by decide, by decide⟩) (z_preV E hh (by decide) (zC_obj (q := 66) rfl) rfl) rfl rfl hl.1 rfl (lv_room (Nat.le_of_ble_eq_true rfl)) dL_law_1260 ⟨by decide, by decide⟩) hh (fun H locs hh => ?_)
  refine lv_icmp_eq (tgt := 1268) hx hb dL_law_1263 (by decide) (fun c1 => ?_) (fun c1 => absurd he c1)
  exact next σ τ hR _ _ _ hh hl
theorem lw_ix {L k j : Nat} (hL : L ≤ 320) (h : 5 * k + 5 ≤ L) (hj : j < 5) : vp_in (nI (5 * k) + nI j) L := by
  rw [nI_add]
  exact vp_in_nI (by omega) (by omega)
theorem lw_go {L k : Nat} (hL : L ≤ 320) (hk : 5 * k ≤ 320) (h : ¬ (Int32.ofNat L - 5 < nI (5 * k))) : 5 * k + 5 ≤ L := by
  have h1 := Int32.not_lt.mp h
  rw [Int32.le_iff_toInt_le, nI_toInt (by omega)] at h1
  have h5 : (Int32.ofNat L - 5).toInt = (L : Int) - 5 := by
    rw [Int32.toInt_sub]
    have e1 : (Int32.ofNat L).toInt = (L : Int) := Int32.toInt_ofNat_of_lt (by omega)
    have e2 : (5 : Int32).toInt = 5 := rfl
    rw [e1, e2]
    rw [Int.bmod_eq_of_le (by omega) (by omega)]
  rw [h5] at h1
  omega
set_option maxRecDepth 100000 in
set_option maxHeartbeats 8000000 in
theorem law_loop {p : Program} {l : Launch} {e : Env} {s : State} {m : MethodId} {below : List Frame} {meth : Method} {c : Code} {g : zG} {b L : Nat} {xs : Nat → Int32} (hL : L ≤ 320) (C0 : lw_At p s m meth c b L xs) (E : zE g (lwA s) s) {N : Nat} {Rel : zS → zS → Prop} (K : okAll N Rel) : ∀ n k : Nat, 65 ≤ k + n → 5 * k ≤ 320 → lawP p l e s m below meth c g b Rel 18 (nI (5 * k)) := by
  intro n
  induction n with
  | zero => intro k h1 h2; omega
  | succ n ih =>
    intro k h1 h2 σ τ hrel H locs ls hh hl
    obtain ⟨hx, hb, hr, hml, hown, hts, hX, hbl, hlocks, hgv⟩ := id C0
    have hb : c.code = cL_law := hb
    have hbA : ¬ lwA s b := Nat.not_le.mpr hbl
    refine lv_iload_n hx hb dL_law_18 rfl (lv_at hl 3 rfl) ?_
    refine lv_aload_n hx hb dL_law_19 rfl (lv_at hl 0 rfl) ?_
    refine va_slen hx hb hX hbl hbA hh.2 dL_law_20 ?_
    refine lv_iconst (v := 5) hx hb dL_law_21 (by decide) ?_
    refine lv_isub hx hb dL_law_22 ?_
    refine lv_icmp_gt (tgt := 1274) hx hb dL_law_23 (by decide) (fun c1 => ?_) (fun c1 => ?_)
    · refine lv_iconst (v := 1) hx hb dL_law_1274 (by decide) ?_
      refine va_forget (fun q hq => hh.2.2.2 q hq) ?_
      refine W.widen (k := 600000) (n := 7302250) (by decide) (by decide) ?_
      exact lw_ret hx hb hr hlocks dL_law_1275
    · have hlt : 5 * k + 5 ≤ L := lw_go hL h2 c1
      have h_0 : vp_in (nI (5 * k)) L := vp_in_nI (by omega) (by omega)
      have h_1 : vp_in (nI (5 * k) + 1) L := lw_ix hL hlt (j := 1) (by decide)
      have h_2 : vp_in (nI (5 * k) + 2) L := lw_ix hL hlt (j := 2) (by decide)
      have h_3 : vp_in (nI (5 * k) + 3) L := lw_ix hL hlt (j := 3) (by decide)
      have h_4 : vp_in (nI (5 * k) + 4) L := lw_ix hL hlt (j := 4) (by decide)
      have next : lawP p l e s m below meth c g b Rel 1268 (nI (5 * k)) := by
        intro σ τ hrel H locs ls hh hl
        refine lv_iinc (v := nI (5 * (k + 1))) (lv' := [(3, .int (nI (5 * (k + 1)))), (0, .ref b), (1, .ref (g.2.2 54)), (2, .ref (g.2.2 66))]) hx hb dL_law_1268 hl (k := 3) rfl (by rw [show (Int32.ofInt 5) = nI 5 from rfl, nI_add]; rfl) (by decide) rfl (fun ls hl => ?_)
        refine lv_goto (tgt := 18) hx hb dL_law_1271 (by decide) ?_
        exact ih (k + 1) (by omega) (by omega) σ τ hrel _ _ _ hh (lv_sub hl [1, 2, 3, 0] rfl)
      refine lv_aload_n hx hb dL_law_26 rfl (lv_at hl 0 rfl) ?_
      refine lv_iload_n hx hb dL_law_27 rfl (lv_at hl 3 rfl) ?_
      refine va_sld hx hb hX hbl hbA hh.2 h_0 dL_law_28 ?_
      refine lv_bipush (v := 63) hx hb dL_law_29 (by decide) ?_
      refine lv_iand hx hb dL_law_31 ?_
      refine lv_topi (fun v ev => ?_)
      by_cases c_0 : v = 0
      · refine z_tbl (tgt := 212) (off := 180) hx hb dL_law_32 0 c_0 (by decide) (by decide) (by decide) (by decide) ?_
        exact law_feed C0 E (K.1) h_1 next σ τ hrel _ _ _ hh hl
      by_cases c_1 : v = 1
      · refine z_tbl (tgt := 235) (off := 203) hx hb dL_law_32 1 c_1 (by decide) (by decide) (by decide) (by decide) ?_
        exact law_end C0 E (K.2.1) h_1 next σ τ hrel _ _ _ hh hl
      by_cases c_2 : v = 2
      · refine z_tbl (tgt := 258) (off := 226) hx hb dL_law_32 2 c_2 (by decide) (by decide) (by decide) (by decide) ?_
        exact law_text C0 E (K.2.2.1)  next σ τ hrel _ _ _ hh hl
      by_cases c_3 : v = 3
      · refine z_tbl (tgt := 271) (off := 239) hx hb dL_law_32 3 c_3 (by decide) (by decide) (by decide) (by decide) ?_
        exact law_fault C0 E (K.2.2.2.1)  next σ τ hrel _ _ _ hh hl
      by_cases c_4 : v = 4
      · refine z_tbl (tgt := 284) (off := 252) hx hb dL_law_32 4 c_4 (by decide) (by decide) (by decide) (by decide) ?_
        exact law_rule C0 E (K.2.2.2.2.1) h_1 next σ τ hrel _ _ _ hh hl
      by_cases c_5 : v = 5
      · refine z_tbl (tgt := 307) (off := 275) hx hb dL_law_32 5 c_5 (by decide) (by decide) (by decide) (by decide) ?_
        exact law_beast C0 E (K.2.2.2.2.2.1) h_1 h_2 next σ τ hrel _ _ _ hh hl
      by_cases c_6 : v = 6
      · refine z_tbl (tgt := 340) (off := 308) hx hb dL_law_32 6 c_6 (by decide) (by decide) (by decide) (by decide) ?_
        exact law_robber C0 E (K.2.2.2.2.2.2.1) h_1 next σ τ hrel _ _ _ hh hl
      by_cases c_7 : v = 7
      · refine z_tbl (tgt := 363) (off := 331) hx hb dL_law_32 7 c_7 (by decide) (by decide) (by decide) (by decide) ?_
        exact law_at C0 E (K.2.2.2.2.2.2.2.1) h_1 h_2 next σ τ hrel _ _ _ hh hl
      by_cases c_8 : v = 8
      · refine z_tbl (tgt := 396) (off := 364) hx hb dL_law_32 8 c_8 (by decide) (by decide) (by decide) (by decide) ?_
        exact law_alter C0 E (K.2.2.2.2.2.2.2.2.1) h_1 h_2 h_3 next σ τ hrel _ _ _ hh hl
      by_cases c_9 : v = 9
      · refine z_tbl (tgt := 439) (off := 407) hx hb dL_law_32 9 c_9 (by decide) (by decide) (by decide) (by decide) ?_
        exact law_steel C0 E (K.2.2.2.2.2.2.2.2.2.1) h_1 h_2 next σ τ hrel _ _ _ hh hl
      by_cases c_10 : v = 10
      · refine z_tbl (tgt := 472) (off := 440) hx hb dL_law_32 10 c_10 (by decide) (by decide) (by decide) (by decide) ?_
        exact law_scout C0 E (K.2.2.2.2.2.2.2.2.2.2.1) h_1 next σ τ hrel _ _ _ hh hl
      by_cases c_11 : v = 11
      · refine z_tbl (tgt := 495) (off := 463) hx hb dL_law_32 11 c_11 (by decide) (by decide) (by decide) (by decide) ?_
        exact law_climb C0 E (K.2.2.2.2.2.2.2.2.2.2.2.1) h_1 next σ τ hrel _ _ _ hh hl
      by_cases c_12 : v = 12
      · refine z_tbl (tgt := 518) (off := 486) hx hb dL_law_32 12 c_12 (by decide) (by decide) (by decide) (by decide) ?_
        exact law_down C0 E (K.2.2.2.2.2.2.2.2.2.2.2.2.1) h_1 next σ τ hrel _ _ _ hh hl
      by_cases c_13 : v = 13
      · refine z_tbl (tgt := 541) (off := 509) hx hb dL_law_32 13 c_13 (by decide) (by decide) (by decide) (by decide) ?_
        exact law_swap C0 E (K.2.2.2.2.2.2.2.2.2.2.2.2.2.1) h_1 h_2 next σ τ hrel _ _ _ hh hl
      by_cases c_14 : v = 14
      · refine z_tbl (tgt := 574) (off := 542) hx hb dL_law_32 14 c_14 (by decide) (by decide) (by decide) (by decide) ?_
        exact law_noise C0 E (K.2.2.2.2.2.2.2.2.2.2.2.2.2.2.1)  next σ τ hrel _ _ _ hh hl
      by_cases c_15 : v = 15
      · refine z_tbl (tgt := 587) (off := 555) hx hb dL_law_32 15 c_15 (by decide) (by decide) (by decide) (by decide) ?_
        exact law_flight C0 E (K.2.2.2.2.2.2.2.2.2.2.2.2.2.2.2.1) h_1 next σ τ hrel _ _ _ hh hl
      by_cases c_16 : v = 16
      · refine z_tbl (tgt := 610) (off := 578) hx hb dL_law_32 16 c_16 (by decide) (by decide) (by decide) (by decide) ?_
        exact law_free C0 E (K.2.2.2.2.2.2.2.2.2.2.2.2.2.2.2.2.1)  next σ τ hrel _ _ _ hh hl
      by_cases c_17 : v = 17
      · refine z_tbl (tgt := 623) (off := 591) hx hb dL_law_32 17 c_17 (by decide) (by decide) (by decide) (by decide) ?_
        exact law_need C0 E (K.2.2.2.2.2.2.2.2.2.2.2.2.2.2.2.2.2.1)  next σ τ hrel _ _ _ hh hl
      by_cases c_18 : v = 18
      · refine z_tbl (tgt := 636) (off := 604) hx hb dL_law_32 18 c_18 (by decide) (by decide) (by decide) (by decide) ?_
        exact law_best C0 E (K.2.2.2.2.2.2.2.2.2.2.2.2.2.2.2.2.2.2.1) h_1 next σ τ hrel _ _ _ hh hl
      by_cases c_19 : v = 19
      · refine z_tbl (tgt := 659) (off := 627) hx hb dL_law_32 19 c_19 (by decide) (by decide) (by decide) (by decide) ?_
        exact law_few C0 E (K.2.2.2.2.2.2.2.2.2.2.2.2.2.2.2.2.2.2.2.1) h_1 next σ τ hrel _ _ _ hh hl
      by_cases c_20 : v = 20
      · refine z_tbl (tgt := 682) (off := 650) hx hb dL_law_32 20 c_20 (by decide) (by decide) (by decide) (by decide) ?_
        exact law_loud C0 E (K.2.2.2.2.2.2.2.2.2.2.2.2.2.2.2.2.2.2.2.2.1) h_1 next σ τ hrel _ _ _ hh hl
      by_cases c_21 : v = 21
      · refine z_tbl (tgt := 705) (off := 673) hx hb dL_law_32 21 c_21 (by decide) (by decide) (by decide) (by decide) ?_
        exact law_towers C0 E (K.2.2.2.2.2.2.2.2.2.2.2.2.2.2.2.2.2.2.2.2.2.1)  next σ τ hrel _ _ _ hh hl
      by_cases c_22 : v = 22
      · refine z_tbl (tgt := 718) (off := 686) hx hb dL_law_32 22 c_22 (by decide) (by decide) (by decide) (by decide) ?_
        exact law_tale C0 E (K.2.2.2.2.2.2.2.2.2.2.2.2.2.2.2.2.2.2.2.2.2.2.1) h_1 next σ τ hrel _ _ _ hh hl
      by_cases c_23 : v = 23
      · refine z_tbl (tgt := 741) (off := 709) hx hb dL_law_32 23 c_23 (by decide) (by decide) (by decide) (by decide) ?_
        exact law_beds C0 E (K.2.2.2.2.2.2.2.2.2.2.2.2.2.2.2.2.2.2.2.2.2.2.2.1) h_1 next σ τ hrel _ _ _ hh hl
      by_cases c_24 : v = 24
      · refine z_tbl (tgt := 764) (off := 732) hx hb dL_law_32 24 c_24 (by decide) (by decide) (by decide) (by decide) ?_
        exact law_brave C0 E (K.2.2.2.2.2.2.2.2.2.2.2.2.2.2.2.2.2.2.2.2.2.2.2.2.1)  next σ τ hrel _ _ _ hh hl
      by_cases c_25 : v = 25
      · refine z_tbl (tgt := 777) (off := 745) hx hb dL_law_32 25 c_25 (by decide) (by decide) (by decide) (by decide) ?_
        exact law_value C0 E (K.2.2.2.2.2.2.2.2.2.2.2.2.2.2.2.2.2.2.2.2.2.2.2.2.2.1) h_1 next σ τ hrel _ _ _ hh hl
      by_cases c_26 : v = 26
      · refine z_tbl (tgt := 800) (off := 768) hx hb dL_law_32 26 c_26 (by decide) (by decide) (by decide) (by decide) ?_
        exact law_share C0 E (K.2.2.2.2.2.2.2.2.2.2.2.2.2.2.2.2.2.2.2.2.2.2.2.2.2.2.1) h_1 h_2 next σ τ hrel _ _ _ hh hl
      by_cases c_27 : v = 27
      · refine z_tbl (tgt := 834) (off := 802) hx hb dL_law_32 27 c_27 (by decide) (by decide) (by decide) (by decide) ?_
        exact law_mean C0 E (K.2.2.2.2.2.2.2.2.2.2.2.2.2.2.2.2.2.2.2.2.2.2.2.2.2.2.2.1) h_1 h_2 next σ τ hrel _ _ _ hh hl
      by_cases c_28 : v = 28
      · refine z_tbl (tgt := 868) (off := 836) hx hb dL_law_32 28 c_28 (by decide) (by decide) (by decide) (by decide) ?_
        exact law_luck C0 E (K.2.2.2.2.2.2.2.2.2.2.2.2.2.2.2.2.2.2.2.2.2.2.2.2.2.2.2.2.1) h_1 h_2 next σ τ hrel _ _ _ hh hl
      by_cases c_29 : v = 29
      · refine z_tbl (tgt := 902) (off := 870) hx hb dL_law_32 29 c_29 (by decide) (by decide) (by decide) (by decide) ?_
        exact law_see C0 E (K.2.2.2.2.2.2.2.2.2.2.2.2.2.2.2.2.2.2.2.2.2.2.2.2.2.2.2.2.2.1) h_1 h_2 next σ τ hrel _ _ _ hh hl
      by_cases c_30 : v = 30
      · refine z_tbl (tgt := 935) (off := 903) hx hb dL_law_32 30 c_30 (by decide) (by decide) (by decide) (by decide) ?_
        exact law_forget C0 E (K.2.2.2.2.2.2.2.2.2.2.2.2.2.2.2.2.2.2.2.2.2.2.2.2.2.2.2.2.2.2.1) h_1 next σ τ hrel _ _ _ hh hl
      by_cases c_31 : v = 31
      · refine z_tbl (tgt := 958) (off := 926) hx hb dL_law_32 31 c_31 (by decide) (by decide) (by decide) (by decide) ?_
        exact law_fits C0 E (K.2.2.2.2.2.2.2.2.2.2.2.2.2.2.2.2.2.2.2.2.2.2.2.2.2.2.2.2.2.2.2.1) h_1 next σ τ hrel _ _ _ hh hl
      by_cases c_32 : v = 32
      · refine z_tbl (tgt := 981) (off := 949) hx hb dL_law_32 32 c_32 (by decide) (by decide) (by decide) (by decide) ?_
        exact law_ask C0 E (K.2.2.2.2.2.2.2.2.2.2.2.2.2.2.2.2.2.2.2.2.2.2.2.2.2.2.2.2.2.2.2.2.1) h_1 next σ τ hrel _ _ _ hh hl
      by_cases c_33 : v = 33
      · refine z_tbl (tgt := 1004) (off := 972) hx hb dL_law_32 33 c_33 (by decide) (by decide) (by decide) (by decide) ?_
        exact law_drift C0 E (K.2.2.2.2.2.2.2.2.2.2.2.2.2.2.2.2.2.2.2.2.2.2.2.2.2.2.2.2.2.2.2.2.2.1) h_1 h_2 h_3 next σ τ hrel _ _ _ hh hl
      by_cases c_34 : v = 34
      · refine z_tbl (tgt := 1047) (off := 1015) hx hb dL_law_32 34 c_34 (by decide) (by decide) (by decide) (by decide) ?_
        exact law_keep C0 E (K.2.2.2.2.2.2.2.2.2.2.2.2.2.2.2.2.2.2.2.2.2.2.2.2.2.2.2.2.2.2.2.2.2.2.1) h_1 next σ τ hrel _ _ _ hh hl
      by_cases c_35 : v = 35
      · refine z_tbl (tgt := 1070) (off := 1038) hx hb dL_law_32 35 c_35 (by decide) (by decide) (by decide) (by decide) ?_
        exact law_back C0 E (K.2.2.2.2.2.2.2.2.2.2.2.2.2.2.2.2.2.2.2.2.2.2.2.2.2.2.2.2.2.2.2.2.2.2.2.1) h_1 next σ τ hrel _ _ _ hh hl
      by_cases c_36 : v = 36
      · refine z_tbl (tgt := 1093) (off := 1061) hx hb dL_law_32 36 c_36 (by decide) (by decide) (by decide) (by decide) ?_
        exact law_sheet C0 E (K.2.2.2.2.2.2.2.2.2.2.2.2.2.2.2.2.2.2.2.2.2.2.2.2.2.2.2.2.2.2.2.2.2.2.2.2.1) h_1 h_2 h_3 next σ τ hrel _ _ _ hh hl
      by_cases c_37 : v = 37
      · refine z_tbl (tgt := 1136) (off := 1104) hx hb dL_law_32 37 c_37 (by decide) (by decide) (by decide) (by decide) ?_
        exact law_lay C0 E (K.2.2.2.2.2.2.2.2.2.2.2.2.2.2.2.2.2.2.2.2.2.2.2.2.2.2.2.2.2.2.2.2.2.2.2.2.2.1) h_1 h_2 h_3 next σ τ hrel _ _ _ hh hl
      by_cases c_38 : v = 38
      · refine z_tbl (tgt := 1179) (off := 1147) hx hb dL_law_32 38 c_38 (by decide) (by decide) (by decide) (by decide) ?_
        exact law_read C0 E (K.2.2.2.2.2.2.2.2.2.2.2.2.2.2.2.2.2.2.2.2.2.2.2.2.2.2.2.2.2.2.2.2.2.2.2.2.2.2.1) h_1 h_2 h_3 h_4 next σ τ hrel _ _ _ hh hl
      by_cases c_39 : v = 39
      · refine z_tbl (tgt := 1232) (off := 1200) hx hb dL_law_32 39 c_39 (by decide) (by decide) (by decide) (by decide) ?_
        exact law_torn C0 E (K.2.2.2.2.2.2.2.2.2.2.2.2.2.2.2.2.2.2.2.2.2.2.2.2.2.2.2.2.2.2.2.2.2.2.2.2.2.2.2.1)  next σ τ hrel _ _ _ hh hl
      by_cases c_40 : v = 40
      · refine z_tbl (tgt := 1245) (off := 1213) hx hb dL_law_32 40 c_40 (by decide) (by decide) (by decide) (by decide) ?_
        exact law_count C0 E (K.2.2.2.2.2.2.2.2.2.2.2.2.2.2.2.2.2.2.2.2.2.2.2.2.2.2.2.2.2.2.2.2.2.2.2.2.2.2.2.2) h_1 next σ τ hrel _ _ _ hh hl
      refine lv_tableOut (tgt := 1268) hx hb dL_law_32 (by have n_0 := lv_neT (a := 0) c_0 (by decide); have n_1 := lv_neT (a := 1) c_1 (by decide); have n_2 := lv_neT (a := 2) c_2 (by decide); have n_3 := lv_neT (a := 3) c_3 (by decide); have n_4 := lv_neT (a := 4) c_4 (by decide); have n_5 := lv_neT (a := 5) c_5 (by decide); have n_6 := lv_neT (a := 6) c_6 (by decide); have n_7 := lv_neT (a := 7) c_7 (by decide); have n_8 := lv_neT (a := 8) c_8 (by decide); have n_9 := lv_neT (a := 9) c_9 (by decide); have n_10 := lv_neT (a := 10) c_10 (by decide); have n_11 := lv_neT (a := 11) c_11 (by decide); have n_12 := lv_neT (a := 12) c_12 (by decide); have n_13 := lv_neT (a := 13) c_13 (by decide); have n_14 := lv_neT (a := 14) c_14 (by decide); have n_15 := lv_neT (a := 15) c_15 (by decide); have n_16 := lv_neT (a := 16) c_16 (by decide); have n_17 := lv_neT (a := 17) c_17 (by decide); have n_18 := lv_neT (a := 18) c_18 (by decide); have n_19 := lv_neT (a := 19) c_19 (by decide); have n_20 := lv_neT (a := 20) c_20 (by decide); have n_21 := lv_neT (a := 21) c_21 (by decide); have n_22 := lv_neT (a := 22) c_22 (by decide); have n_23 := lv_neT (a := 23) c_23 (by decide); have n_24 := lv_neT (a := 24) c_24 (by decide); have n_25 := lv_neT (a := 25) c_25 (by decide); have n_26 := lv_neT (a := 26) c_26 (by decide); have n_27 := lv_neT (a := 27) c_27 (by decide); have n_28 := lv_neT (a := 28) c_28 (by decide); have n_29 := lv_neT (a := 29) c_29 (by decide); have n_30 := lv_neT (a := 30) c_30 (by decide); have n_31 := lv_neT (a := 31) c_31 (by decide); have n_32 := lv_neT (a := 32) c_32 (by decide); have n_33 := lv_neT (a := 33) c_33 (by decide); have n_34 := lv_neT (a := 34) c_34 (by decide); have n_35 := lv_neT (a := 35) c_35 (by decide); have n_36 := lv_neT (a := 36) c_36 (by decide); have n_37 := lv_neT (a := 37) c_37 (by decide); have n_38 := lv_neT (a := 38) c_38 (by decide); have n_39 := lv_neT (a := 39) c_39 (by decide); have n_40 := lv_neT (a := 40) c_40 (by decide); omega) (by decide) ?_
      exact next σ τ hrel _ _ _ hh hl

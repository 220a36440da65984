-- ===== end of PART A; then your names; then what follows =====
/-! THE CLAIM OUT OF ONE WALK OF THE LAW'S BODY. Your part is whole_start (and what it stands on); all else here is the same for every law, but numbers. -/
def R_law : String := "EvenTreesLaw"
def lw_P (b : Addr) (xs : List Int32) (args : Array Value) (s : State) : Prop := args = #[.ref b] ∧ s.IntsAt b xs ∧ xs.length ≤ 3072 ∧ (Jvm.Cond.and given_1 narrow_1).before args s = true
def lw_Q (_ : Array Value) (s : State) (o : Outcome) (t : State) : Prop := o = .returned (some (.int 1)) ∧ Framed s o t [] 601024 7293034
def lw_Z (below : List Frame) (a : Array Value) (s : State) : State → Prop := fun t => ∃ o, t.status = .running ∧ Ended t below o ∧ lw_Q a s o t
/-- the law's own end, with 1 on the stack, nothing written that was there before, its room as the claim has it -/
theorem lw_ret {p : Program} {l : Launch} {e : Env} {s : State} {m : MethodId} {below : List Frame} {meth : Method} {c : Code} {b : Nat} (hx : p.tables.exec = Jvm.exec) (hb : c.code = code) (hr : meth.sig.returnType = ret) (hlocks : meth.locks = false) {pc : Nat} {H : Heap} {ls : Array Slot} (hdg : decode code pc = .ok (.ireturn, 1)) : W p l e room_1 s m #[Value.ref b] below meth c H [] 601024 7293034 (lw_Z below #[Value.ref b] s) (F0 m pc ls [.int 1]) := by
  intro T hT X
  obtain ⟨fs, hret, hrun, hended, hW, hframe⟩ := X.leave (v := some (.int 1)) (hlocks := hlocks) (fun h => by rw [hr] at h; cases h)
  have hmeth' : T.vm.method? m = some meth := X.method'
  refine ⟨T.setFrames fs, ?_, .returned (some (.int 1)), hrun, hended, rfl, ⟨_, rfl⟩, hW, hframe⟩
  jvm_step X.here [X.here.top, hx, hb, hdg, hmeth', hr, ret, narrow_b1]
  (try refine ⟨rfl, ?_⟩); (try refine ⟨rfl, ?_⟩)
  first | (intro acts; rw [hret _ acts rfl rfl rfl]) | rw [hret _ _ rfl rfl rfl]
  exact Steps.refl _
/-- what holds at the law's entry: the machine, the code, the tables' words (any of lw_tbl by 'hts w (by decide +kernel)'), the script of L ints xs at the cell b, what the Statement gives of the start (any of its parts by flat_of_before) -/
def lw_At (p : Program) (s : State) (m : MethodId) (meth : Method) (c : Code) (b L : Nat) (xs : Nat → Int32) : Prop :=
  p.tables.exec = Jvm.exec ∧ c.code = code ∧ meth.sig.returnType = ret ∧ c.maxLocals = 8 ∧ s.vm.findClass R_law = some m.cls ∧ (∀ w ∈ lw_tbl, w.before #[Value.ref b] s = true) ∧ va_X b L xs s s.heap ∧ b < s.heap.size ∧ meth.locks = false ∧ (Jvm.Cond.and given_1 narrow_1).before #[Value.ref b] s = true

theorem lk_row229 : Cond.methodLink RL 229 yL_row ∈ WT := wt4 80 (by rfl) rfl
theorem lk_rowst : Cond.static yL_row ∈ WT := wt4 81 (by rfl) rfl
theorem lk_rowcw : Cond.codeWith yL_row cL_row 4 (some .int) [(0, 8, 11, 13)] ∈ WT := wt4 82 (by rfl) rfl
theorem lk_rowin : Cond.initialized RL ∈ WT := wt1 0 (by rfl) rfl
theorem gL_row9 : GoodIn WT (va_wsS RL 229 yL_row (.codeWith yL_row cL_row 4 (some .int) [(0, 8, 11, 13)] :: WT)) := by
  intro w hw
  have hm : w ∈ WT := by
    rcases List.mem_append.mp hw with h | h
    · rcases List.mem_cons.mp h with rfl | h
      · exact lk_row229
      · rcases List.mem_cons.mp h with rfl | h
        · exact lk_rowst
        · rcases List.mem_cons.mp h with rfl | h
          · exact lk_rowin
          · exact absurd h List.not_mem_nil
    · rcases List.mem_cons.mp h with rfl | h
      · exact lk_rowcw
      · exact h
  exact ⟨hm, good_of_word (wt_good hm)⟩
def HS_50 (S : Nat → St → St → Prop) : Prop := ∀ (k : Nat) (σ τ : St) (z0 : Int), k < 512 → R32 σ → R32 τ → S k σ τ → in32 z0 → σ 34 0 ≤ 16 ∧ ∃ (r : Int) (τ1 : St), M_row τ z0 = some (r, τ1) ∧ M_thrown τ1 = some (rowR σ z0) ∧ (rowR σ z0 = 0 → r = σ 13 z0) ∧ S (k + 1) σ τ1
theorem rowR_in (σ : St) (z : Int) : in32 (rowR σ z) := by
  unfold rowR
  split <;> decide
set_option maxRecDepth 100000 in
set_option maxHeartbeats 4000000 in
theorem law_c50 {p : Program} {l : Launch} {e : Env} {s : State} {m : MethodId} {below : List Frame} {meth : Method} {c : Code} {Q : State → Prop} {D : va_G} {g : Ad} {b L : Nat} {xs : Nat → Int32} {S : Nat → St → St → Prop} (HN : HS_50 S) (hl0 : l.stackTraces = false) (hC : LC p s m meth c b L xs D g) {k : Nat} {σ τ : St} {v i : Int} (hk : k < 512) (hR : R32 σ) (hR9 : R32 τ) (hS : S k σ τ) (h0 : 0 ≤ i) (hiL : i + 6 ≤ L) {H : Heap} {locs : List Loc} {cells slots : Nat} {ls : Array Slot} (hc : cells + 1 ≤ room_1.cells ∧ slots + 6 ≤ room_1.slots) (hE : EW D (aL s) s.heap (wL g σ τ v) H locs) (hl : lv_has ls 8 (lvL g b i))
    (next : ∀ (τ1 : St) (v1 : Int) (H : Heap) (locs : List Loc) (ls : Array Slot), R32 τ1 → S (k + 1) σ τ1 → EW D (aL s) s.heap (wL g σ τ1 v1) H locs → lv_has ls 8 (lvL g b i) → W p l e room_1 s m #[Value.ref b] below meth c H locs (cells + 1) (slots + 6) Q (F0 m 2401 ls [])) : W p l e room_1 s m #[Value.ref b] below meth c H locs cells slots Q (F0 m 2346 ls []) := by
  have C0 := hC.1
  obtain ⟨a1, e_a1, i_a1⟩ : ∃ a, a = (xs (i + 1).toNat).toInt ∧ in32 a := ⟨_, rfl, in32_toInt _⟩
  obtain ⟨hm16, r, τ1, h_M, h_T, h_r, h_S⟩ := HN k σ τ a1 hk hR hR9 hS i_a1
  have hl : lv_has ls 8 [(0, .ref b), (1, .ref (g.2 0)), (2, .ref (g.2 100)), (3, .ref (g.2 200)), (4, .int (I i))] := hl
  refine lv_aload_n C0.1 C0.2.1 dL_law_2346 rfl (lv_at hl 1 rfl) ?_
  refine lv_aload_n C0.1 C0.2.1 dL_law_2347 rfl (lv_at hl 0 rfl) ?_
  refine lv_iload C0.1 C0.2.1 dL_law_2348 (lv_at hl 4 rfl) ?_
  refine lv_iconst (v := I 1) C0.1 C0.2.1 dL_law_2350 rfl ?_
  refine x_add (v := i + 1) C0 rfl dL_law_2351 ?_
  refine x_sld hC hE (by omega) (by omega) e_a1 dL_law_2352 ?_
  refine lv_aload_n C0.1 C0.2.1 dL_law_2353 rfl (lv_at hl 3 rfl) ?_
  have hF := va_free hE.2.1 hE.2.2.1 hE.2.2.2 (List.range 30 ++ [45]) (show (List.range 30 ++ [45]).map (fun i => (wL g σ τ v)[i]?) = (wEO g σ v).map some from wL_mR g σ τ v)
  have hXH : XR (aL s) s H := hC.2.2.2.2.2.2.1.kept hE.2.2.1.2.1
  refine va_calli (vx_runSW (As := [.ref (g.2 0), .int (I a1), .ref (g.2 200)]) (rest := []) ⟨C0.1, C0.2.1, hC.2.1, C0.2.2.1, C0.2.2.2.1⟩ (c_L_row l hl0 D g (v := v) hR i_a1 hm16 H.size) (vx_cwSW 3 C0.2.2.2.1 gL_row9 rfl rfl rfl (by decide +kernel) ⟨Nat.le_of_ble_eq_true rfl, Nat.le_of_ble_eq_true rfl⟩)
    ⟨pcx_blind, fun U hU hW => ⟨rfl, by rw [hU], by rw [hU]; exact hE.1.sub (List.range 30 ++ [45]) (wL_oC g σ τ v), C0.2.2.2.2.warm hW, (hE.2.1.sub (List.range 30 ++ [45]) (by decide +kernel) (show (List.range 30 ++ [45]).map (fun i => (wL g σ τ v)[i]?) = (wEO g σ v).map some from wL_mR g σ τ v)).weaken (fun _ _ _ _ => trivial), by rw [hU]; exact (hXH.narrow hF).warm hW⟩⟩ rfl rfl hl.1 rfl (lv_room (Nat.le_of_ble_eq_true rfl)) dL_law_2354 hc) hE.2.2.1 (fun q _ h => hF q h) hF (fun x u t H1 locs1 ht hvm hp hB hz hq hS2 => ?_)
  obtain ⟨rfl, -⟩ := hp
  have hE := ew_join hE (List.range 30 ++ [45]) ((List.range 15).map (· + 30)) (show (List.range 30 ++ [45]).map (fun i => (wL g σ τ v)[i]?) = (wEO g σ v).map some from wL_mR g σ τ v) (wL_mC g σ τ v) (by decide +kernel) (by decide +kernel) ht hB hq hS2
  have hE := ew_sub _ (wL_backO g σ τ (rowV σ a1 v)) (wL_backO2 g σ τ (rowV σ a1 v)) (by decide +kernel) hE
  generalize H1 = H at hE ⊢
  generalize locs1 = locs at hE ⊢
  have ir := rowR_in σ a1
  refine lv_istore (lv' := [(5, .int (I (rowR σ a1))), (0, .ref b), (1, .ref (g.2 0)), (2, .ref (g.2 100)), (3, .ref (g.2 200)), (4, .int (I i))]) C0.1 C0.2.1 dL_law_2357 hl (by decide) rfl (fun ls hl => ?_)
  refine lv_aload_n C0.1 C0.2.1 dL_law_2359 rfl (lv_at hl 3 rfl) ?_
  refine lv_aload_n C0.1 C0.2.1 dL_law_2360 rfl (lv_at hl 1 rfl) ?_
  refine lv_iload C0.1 C0.2.1 dL_law_2361 (lv_at hl 5 rfl) ?_
  refine lv_iconst (v := I 1) C0.1 C0.2.1 dL_law_2363 rfl ?_
  refine x_add (v := i + 1) C0 rfl dL_law_2364 ?_
  refine x_sld hC hE (by omega) (by omega) e_a1 dL_law_2365 ?_
  refine lawM_l (rest := []) (τ' := τ1) C0 hC.2.1 hE (c_M_row l D g hR9 i_a1 h_M) kw_L_234 ⟨Nat.le_of_ble_eq_true rfl, Nat.le_of_ble_eq_true rfl⟩ rfl hl.1 rfl (Nat.le_of_ble_eq_true rfl) dL_law_2366 hc (fun H locs hE ⟨i_r, hR9⟩ => ?_)
  refine lv_lstore (lv' := [(6, .long (J r)), (5, .int (I (rowR σ a1))), (0, .ref b), (1, .ref (g.2 0)), (2, .ref (g.2 100)), (3, .ref (g.2 200)), (4, .int (I i))]) C0.1 C0.2.1 dL_law_2369 hl (by decide) rfl (fun ls hl => ?_)
  refine lv_aload_n C0.1 C0.2.1 dL_law_2371 rfl (lv_at hl 4 rfl) ?_
  refine lawM_i (rest := []) (τ' := τ1) C0 hC.2.1 hE (c_M_thrown l D g hR9 h_T) kw_L_235 ⟨Nat.le_of_ble_eq_true rfl, Nat.le_of_ble_eq_true rfl⟩ rfl hl.1 rfl (Nat.le_of_ble_eq_true rfl) dL_law_2372 hc (fun H locs hE _ => ?_)
  refine lv_iload C0.1 C0.2.1 dL_law_2375 (lv_at hl 1 rfl) ?_
  refine x_icmp_eq C0 ir ir dL_law_2377 (tgt := 2382) (by decide) (fun _ => ?_) (fun c9 => absurd rfl c9)
  have fin : W p l e room_1 s m #[Value.ref b] below meth c H locs (cells + 1) (slots + 6) Q (F0 m 2398 ls []) := x_goto C0 dL_law_2398 (tgt := 2401) (by decide) (next τ1 _ H locs ls hR9 h_S hE (lv_sub hl [2, 3, 4, 5, 6] rfl))
  refine lv_iload C0.1 C0.2.1 dL_law_2382 (lv_at hl 1 rfl) ?_
  refine x_if_ne C0 ir dL_law_2384 (tgt := 2398) (by decide) (fun _ => fin) (fun c9 => ?_)
  refine lv_aload_n C0.1 C0.2.1 dL_law_2387 rfl (lv_at hl 5 rfl) ?_
  refine lv_iconst (v := I 0) C0.1 C0.2.1 dL_law_2388 rfl ?_
  refine va_lald (n := 1) (f := fO (rowV σ a1 v)) C0.1 C0.2.1 C0.2.2.2.2.1 hE.1 45 1 rfl rfl (I_in (n := 1) (by decide) (by decide) (by decide) rfl) dL_law_2389 ?_
  refine lv_lload C0.1 C0.2.1 dL_law_2390 (lv_at hl 0 rfl) ?_
  have hin : 0 ≤ a1 ∧ a1 < σ 34 0 := by
    unfold rowR at c9
    split at c9
    · assumption
    · exact absurd c9 (by decide)
  have ev : rowV σ a1 v = r := by
    rw [h_r c9]; exact if_pos hin
  have e0 : fO (rowV σ a1 v) (I 0).toNatClampNeg = J r := by
    rw [ev, show (I 0).toNatClampNeg = 0 by decide +kernel]; rfl
  rw [e0]
  refine x_lcmp C0 (v := 0) i_r i_r (by unfold lcmpv; simp) dL_law_2392 ?_
  exact x_if_eq C0 (by decide) dL_law_2393 (tgt := 2398) (by decide) (fun _ => fin) (fun c9 => absurd rfl c9)
set_option maxRecDepth 100000 in
set_option maxHeartbeats 4000000 in
theorem law_loop {p : Program} {l : Launch} {e : Env} {s : State} {m : MethodId} {below : List Frame} {meth : Method} {c : Code} {D : va_G} {g : Ad} {b L : Nat} {xs : Nat → Int32} {S : Nat → St → St → Prop} (H0 : HS_0 S) (H1 : HS_1 S) (H2 : HS_2 S) (H3 : HS_3 S) (H4 : HS_4 S) (H5 : HS_5 S) (H6 : HS_6 S) (H7 : HS_7 S) (H8 : HS_8 S) (H9 : HS_9 S) (H10 : HS_10 S) (H11 : HS_11 S) (H12 : HS_12 S) (H13 : HS_13 S) (H14 : HS_14 S) (H15 : HS_15 S) (H16 : HS_16 S) (H17 : HS_17 S) (H18 : HS_18 S) (H19 : HS_19 S) (H20 : HS_20 S) (H21 : HS_21 S) (H22 : HS_22 S) (H23 : HS_23 S) (H24 : HS_24 S) (H25 : HS_25 S) (H26 : HS_26 S) (H27 : HS_27 S) (H28 : HS_28 S) (H29 : HS_29 S) (H30 : HS_30 S) (H31 : HS_31 S) (H32 : HS_32 S) (H33 : HS_33 S) (H34 : HS_34 S) (H35 : HS_35 S) (H36 : HS_36 S) (H37 : HS_37 S) (H38 : HS_38 S) (H39 : HS_39 S) (H40 : HS_40 S) (H41 : HS_41 S) (H42 : HS_42 S) (H43 : HS_43 S) (H44 : HS_44 S) (H45 : HS_45 S) (H46 : HS_46 S) (H47 : HS_47 S) (H48 : HS_48 S) (H49 : HS_49 S) (H50 : HS_50 S) (HD : ∀ (k : Nat) (σ τ : St), S k σ τ → S (k + 1) σ τ) (hl0 : l.stackTraces = false) (hC : LC p s m meth c b L xs D g) :
    ∀ (n k : Nat) (σ τ : St) (v i : Int) (H : Heap) (locs : List Loc) (cells slots : Nat) (ls : Array Slot), i = 6 * k → i ≤ L → L + 6 ≤ i + 6 * n → R32 σ → R32 τ → S k σ τ → cells ≤ 100 + k → slots ≤ 50000 + 6 * k → EW D (aL s) s.heap (wL g σ τ v) H locs → lv_has ls 8 (lvL g b i) → W p l e room_1 s m #[Value.ref b] below meth c H locs cells slots (lw_Z below #[Value.ref b] s) (F0 m 23 ls []) := by
  have hCC := hC
  obtain ⟨C0, hml, hX, hbl, hlk, hr, hXR, hL⟩ := hCC
  intro n
  induction n with
  | zero =>
    intro k σ τ v i H locs cells slots ls hi h1 h2
    omega
  | succ n ih =>
    intro k σ τ v i H locs cells slots ls hi h1 h2 hR hR9 hS hcc hss hE hl
    have ii : in32 i := by omega
    refine lv_iload C0.1 C0.2.1 dL_law_23 (lv_at hl 4 rfl) ?_
    refine lv_aload_n C0.1 C0.2.1 dL_law_25 rfl (lv_at hl 0 rfl) ?_
    refine x_slen hC hE dL_law_26 ?_
    refine lv_bipush (v := I 6) C0.1 C0.2.1 dL_law_27 (by decide +kernel) ?_
    refine x_sub (v := L - 6) C0 rfl dL_law_29 ?_
    refine x_icmp_gt C0 ii (by omega) dL_law_30 (tgt := 2407) (by decide) (fun c9 => ?_) (fun c9 => ?_)
    · refine lv_iconst (v := I 1) C0.1 C0.2.1 dL_law_2407 rfl ?_
      refine va_forget (fun q hq => hE.2.2.1.2.2 q hq) ?_
      refine W.widen (k := 601024) (n := 7293034) (by omega) (by omega) ?_
      exact lw_ret C0.1 C0.2.1 hr hlk dL_law_2408
    have hk : k < 512 := by omega
    have hc : cells + 1 ≤ room_1.cells ∧ slots + 6 ≤ room_1.slots := by
      show cells + 1 ≤ 601024 ∧ slots + 6 ≤ 7293034
      omega
    have hc1 : cells ≤ room_1.cells ∧ slots ≤ room_1.slots := ⟨Nat.le_of_succ_le hc.1, by omega⟩
    have hiL : i + 6 ≤ L := by omega
    have h0 : 0 ≤ i := by omega
    have back : ∀ (σ1 τ1 : St) (v1 : Int) (H : Heap) (locs : List Loc) (cells slots : Nat) (ls : Array Slot), cells ≤ 100 + (k + 1) → slots ≤ 50000 + 6 * (k + 1) → R32 σ1 → R32 τ1 → S (k + 1) σ1 τ1 → EW D (aL s) s.heap (wL g σ1 τ1 v1) H locs → lv_has ls 8 (lvL g b i) → W p l e room_1 s m #[Value.ref b] below meth c H locs cells slots (lw_Z below #[Value.ref b] s) (F0 m 2401 ls []) := by
      intro σ1 τ1 v1 H locs cells slots ls hcc hss hR hR9 hS hE hl
      refine x_iinc (v := i + 6) (lv' := [(4, .int (I (i + 6))), (0, .ref b), (1, .ref (g.2 0)), (2, .ref (g.2 100)), (3, .ref (g.2 200))]) C0 dL_law_2401 hl (k := 4) rfl rfl (by decide) rfl (fun ls hl => ?_)
      refine x_goto C0 dL_law_2404 (tgt := 23) (by decide) ?_
      exact ih (k + 1) σ1 τ1 v1 (i + 6) H locs cells slots ls (by omega) (by omega) (by omega) hR hR9 hS hcc hss hE (lv_sub hl [1, 2, 3, 4, 0] rfl)
    have next : ∀ (σ1 τ1 : St) (H : Heap) (locs : List Loc) (ls : Array Slot), R32 σ1 → R32 τ1 → S (k + 1) σ1 τ1 → EW D (aL s) s.heap (wL g σ1 τ1 v) H locs → lv_has ls 8 (lvL g b i) → W p l e room_1 s m #[Value.ref b] below meth c H locs cells slots (lw_Z below #[Value.ref b] s) (F0 m 2401 ls []) := fun σ1 τ1 H locs ls hR hR9 hS hE hl => back σ1 τ1 v H locs cells slots ls (by omega) (by omega) hR hR9 hS hE hl
    obtain ⟨a0, e_a0, i_a0⟩ : ∃ a, a = (xs i.toNat).toInt ∧ in32 a := ⟨_, rfl, in32_toInt _⟩
    refine lv_aload_n C0.1 C0.2.1 dL_law_33 rfl (lv_at hl 0 rfl) ?_
    refine lv_iload C0.1 C0.2.1 dL_law_34 (lv_at hl 4 rfl) ?_
    refine x_sld hC hE h0 (by omega) e_a0 dL_law_36 ?_
    refine lv_bipush (v := I 63) C0.1 C0.2.1 dL_law_37 (by decide +kernel) ?_
    obtain ⟨w, e_w, i_w⟩ : ∃ w, w = band a0 63 ∧ in32 w := ⟨_, rfl, band_in _ _⟩
    refine x_and C0 e_w dL_law_39 ?_
    by_cases q0 : w = 0
    · refine x_tabIn (tgt := 260) C0 0 i_w dL_law_40 q0 ⟨by decide, by decide, by rfl⟩ (by decide) ?_
      exact law_c0 H0 hC hk hR hR9 hS h0 hiL hc1 hE hl next
    by_cases q1 : w = 1
    · refine x_tabIn (tgt := 285) C0 1 i_w dL_law_40 q1 ⟨by decide, by decide, by rfl⟩ (by decide) ?_
      exact law_c1 H1 hC hk hR hR9 hS h0 hiL hc1 hE hl next
    by_cases q2 : w = 2
    · refine x_tabIn (tgt := 310) C0 2 i_w dL_law_40 q2 ⟨by decide, by decide, by rfl⟩ (by decide) ?_
      exact law_c2 H2 hC hk hR hR9 hS h0 hiL hc1 hE hl next
    by_cases q3 : w = 3
    · refine x_tabIn (tgt := 335) C0 3 i_w dL_law_40 q3 ⟨by decide, by decide, by rfl⟩ (by decide) ?_
      exact law_c3 H3 hC hk hR hR9 hS h0 hiL hc1 hE hl next
    by_cases q4 : w = 4
    · refine x_tabIn (tgt := 360) C0 4 i_w dL_law_40 q4 ⟨by decide, by decide, by rfl⟩ (by decide) ?_
      exact law_c4 H4 hC hk hR hR9 hS h0 hiL hc1 hE hl next
    by_cases q5 : w = 5
    · refine x_tabIn (tgt := 409) C0 5 i_w dL_law_40 q5 ⟨by decide, by decide, by rfl⟩ (by decide) ?_
      exact law_c5 H5 hC hk hR hR9 hS h0 hiL hc1 hE hl next
    by_cases q6 : w = 6
    · refine x_tabIn (tgt := 446) C0 6 i_w dL_law_40 q6 ⟨by decide, by decide, by rfl⟩ (by decide) ?_
      exact law_c6 H6 hC hk hR hR9 hS h0 hiL hc1 hE hl next
    by_cases q7 : w = 7
    · refine x_tabIn (tgt := 495) C0 7 i_w dL_law_40 q7 ⟨by decide, by decide, by rfl⟩ (by decide) ?_
      exact law_c7 H7 hC hk hR hR9 hS h0 hiL hc1 hE hl next
    by_cases q8 : w = 8
    · refine x_tabIn (tgt := 556) C0 8 i_w dL_law_40 q8 ⟨by decide, by decide, by rfl⟩ (by decide) ?_
      exact law_c8 H8 hC hk hR hR9 hS h0 hiL hc1 hE hl next
    by_cases q9 : w = 9
    · refine x_tabIn (tgt := 581) C0 9 i_w dL_law_40 q9 ⟨by decide, by decide, by rfl⟩ (by decide) ?_
      exact law_c9 H9 hC hk hR hR9 hS h0 hiL hc1 hE hl next
    by_cases q10 : w = 10
    · refine x_tabIn (tgt := 618) C0 10 i_w dL_law_40 q10 ⟨by decide, by decide, by rfl⟩ (by decide) ?_
      exact law_c10 H10 hC hk hR hR9 hS h0 hiL hc1 hE hl next
    by_cases q11 : w = 11
    · refine x_tabIn (tgt := 655) C0 11 i_w dL_law_40 q11 ⟨by decide, by decide, by rfl⟩ (by decide) ?_
      exact law_c11 H11 hC hk hR hR9 hS h0 hiL hc1 hE hl next
    by_cases q12 : w = 12
    · refine x_tabIn (tgt := 716) C0 12 i_w dL_law_40 q12 ⟨by decide, by decide, by rfl⟩ (by decide) ?_
      exact law_c12 H12 hC hk hR hR9 hS h0 hiL hc1 hE hl next
    by_cases q13 : w = 13
    · refine x_tabIn (tgt := 765) C0 13 i_w dL_law_40 q13 ⟨by decide, by decide, by rfl⟩ (by decide) ?_
      exact law_c13 H13 hC hk hR hR9 hS h0 hiL hc1 hE hl next
    by_cases q14 : w = 14
    · refine x_tabIn (tgt := 814) C0 14 i_w dL_law_40 q14 ⟨by decide, by decide, by rfl⟩ (by decide) ?_
      exact law_c14 H14 hC hk hR hR9 hS h0 hiL hc1 hE hl next
    by_cases q15 : w = 15
    · refine x_tabIn (tgt := 851) C0 15 i_w dL_law_40 q15 ⟨by decide, by decide, by rfl⟩ (by decide) ?_
      exact law_c15 H15 hC hk hR hR9 hS h0 hiL hc1 hE hl next
    by_cases q16 : w = 16
    · refine x_tabIn (tgt := 888) C0 16 i_w dL_law_40 q16 ⟨by decide, by decide, by rfl⟩ (by decide) ?_
      exact law_c16 H16 hC hk hR hR9 hS h0 hiL hc1 hE hl next
    by_cases q17 : w = 17
    · refine x_tabIn (tgt := 961) C0 17 i_w dL_law_40 q17 ⟨by decide, by decide, by rfl⟩ (by decide) ?_
      exact law_c17 H17 hC hk hR hR9 hS h0 hiL hc1 hE hl next
    by_cases q18 : w = 18
    · refine x_tabIn (tgt := 1010) C0 18 i_w dL_law_40 q18 ⟨by decide, by decide, by rfl⟩ (by decide) ?_
      exact law_c18 H18 hC hk hR hR9 hS h0 hiL hc1 hE hl next
    by_cases q19 : w = 19
    · refine x_tabIn (tgt := 1059) C0 19 i_w dL_law_40 q19 ⟨by decide, by decide, by rfl⟩ (by decide) ?_
      exact law_c19 H19 hC hk hR hR9 hS h0 hiL hc1 hE hl next
    by_cases q20 : w = 20
    · refine x_tabIn (tgt := 1096) C0 20 i_w dL_law_40 q20 ⟨by decide, by decide, by rfl⟩ (by decide) ?_
      exact law_c20 H20 hC hk hR hR9 hS h0 hiL hc1 hE hl next
    by_cases q21 : w = 21
    · refine x_tabIn (tgt := 1145) C0 21 i_w dL_law_40 q21 ⟨by decide, by decide, by rfl⟩ (by decide) ?_
      exact law_c21 H21 hC hk hR hR9 hS h0 hiL hc1 hE hl next
    by_cases q22 : w = 22
    · refine x_tabIn (tgt := 1194) C0 22 i_w dL_law_40 q22 ⟨by decide, by decide, by rfl⟩ (by decide) ?_
      exact law_c22 H22 hC hk hR hR9 hS h0 hiL hc1 hE hl next
    by_cases q23 : w = 23
    · refine x_tabIn (tgt := 1255) C0 23 i_w dL_law_40 q23 ⟨by decide, by decide, by rfl⟩ (by decide) ?_
      exact law_c23 H23 hC hk hR hR9 hS h0 hiL hc1 hE hl next
    by_cases q24 : w = 24
    · refine x_tabIn (tgt := 1316) C0 24 i_w dL_law_40 q24 ⟨by decide, by decide, by rfl⟩ (by decide) ?_
      exact law_c24 H24 hC hk hR hR9 hS h0 hiL hc1 hE hl next
    by_cases q25 : w = 25
    · refine x_tabIn (tgt := 1377) C0 25 i_w dL_law_40 q25 ⟨by decide, by decide, by rfl⟩ (by decide) ?_
      exact law_c25 H25 hC hk hR hR9 hS h0 hiL hc1 hE hl next
    by_cases q26 : w = 26
    · refine x_tabIn (tgt := 1438) C0 26 i_w dL_law_40 q26 ⟨by decide, by decide, by rfl⟩ (by decide) ?_
      exact law_c26 H26 hC hk hR hR9 hS h0 hiL hc1 hE hl next
    by_cases q27 : w = 27
    · refine x_tabIn (tgt := 1475) C0 27 i_w dL_law_40 q27 ⟨by decide, by decide, by rfl⟩ (by decide) ?_
      exact law_c27 H27 hC hk hR hR9 hS h0 hiL hc1 hE hl next
    by_cases q28 : w = 28
    · refine x_tabIn (tgt := 1524) C0 28 i_w dL_law_40 q28 ⟨by decide, by decide, by rfl⟩ (by decide) ?_
      exact law_c28 H28 hC hk hR hR9 hS h0 hiL hc1 hE hl next
    by_cases q29 : w = 29
    · refine x_tabIn (tgt := 1585) C0 29 i_w dL_law_40 q29 ⟨by decide, by decide, by rfl⟩ (by decide) ?_
      exact law_c29 H29 hC hk hR hR9 hS h0 hiL hc1 hE hl next
    by_cases q30 : w = 30
    · refine x_tabIn (tgt := 1622) C0 30 i_w dL_law_40 q30 ⟨by decide, by decide, by rfl⟩ (by decide) ?_
      exact law_c30 H30 hC hk hR hR9 hS h0 hiL hc1 hE hl next
    by_cases q31 : w = 31
    · refine x_tabIn (tgt := 1647) C0 31 i_w dL_law_40 q31 ⟨by decide, by decide, by rfl⟩ (by decide) ?_
      exact law_c31 H31 hC hk hR hR9 hS h0 hiL hc1 hE hl next
    by_cases q32 : w = 32
    · refine x_tabIn (tgt := 1696) C0 32 i_w dL_law_40 q32 ⟨by decide, by decide, by rfl⟩ (by decide) ?_
      exact law_c32 H32 hC hk hR hR9 hS h0 hiL hc1 hE hl next
    by_cases q33 : w = 33
    · refine x_tabIn (tgt := 1733) C0 33 i_w dL_law_40 q33 ⟨by decide, by decide, by rfl⟩ (by decide) ?_
      exact law_c33 H33 hC hk hR hR9 hS h0 hiL hc1 hE hl next
    by_cases q34 : w = 34
    · refine x_tabIn (tgt := 1770) C0 34 i_w dL_law_40 q34 ⟨by decide, by decide, by rfl⟩ (by decide) ?_
      exact law_c34 H34 hC hk hR hR9 hS h0 hiL hc1 hE hl next
    by_cases q35 : w = 35
    · refine x_tabIn (tgt := 1807) C0 35 i_w dL_law_40 q35 ⟨by decide, by decide, by rfl⟩ (by decide) ?_
      exact law_c35 H35 hC hk hR hR9 hS h0 hiL hc1 hE hl next
    by_cases q36 : w = 36
    · refine x_tabIn (tgt := 1856) C0 36 i_w dL_law_40 q36 ⟨by decide, by decide, by rfl⟩ (by decide) ?_
      exact law_c36 H36 hC hk hR hR9 hS h0 hiL hc1 hE hl next
    by_cases q37 : w = 37
    · refine x_tabIn (tgt := 1893) C0 37 i_w dL_law_40 q37 ⟨by decide, by decide, by rfl⟩ (by decide) ?_
      exact law_c37 H37 hC hk hR hR9 hS h0 hiL hc1 hE hl next
    by_cases q38 : w = 38
    · refine x_tabIn (tgt := 1930) C0 38 i_w dL_law_40 q38 ⟨by decide, by decide, by rfl⟩ (by decide) ?_
      exact law_c38 H38 hC hk hR hR9 hS h0 hiL hc1 hE hl next
    by_cases q39 : w = 39
    · refine x_tabIn (tgt := 1967) C0 39 i_w dL_law_40 q39 ⟨by decide, by decide, by rfl⟩ (by decide) ?_
      exact law_c39 H39 hC hk hR hR9 hS h0 hiL hc1 hE hl next
    by_cases q40 : w = 40
    · refine x_tabIn (tgt := 2004) C0 40 i_w dL_law_40 q40 ⟨by decide, by decide, by rfl⟩ (by decide) ?_
      exact law_c40 H40 hC hk hR hR9 hS h0 hiL hc1 hE hl next
    by_cases q41 : w = 41
    · refine x_tabIn (tgt := 2041) C0 41 i_w dL_law_40 q41 ⟨by decide, by decide, by rfl⟩ (by decide) ?_
      exact law_c41 H41 hC hk hR hR9 hS h0 hiL hc1 hE hl next
    by_cases q42 : w = 42
    · refine x_tabIn (tgt := 2078) C0 42 i_w dL_law_40 q42 ⟨by decide, by decide, by rfl⟩ (by decide) ?_
      exact law_c42 H42 hC hk hR hR9 hS h0 hiL hc1 hE hl next
    by_cases q43 : w = 43
    · refine x_tabIn (tgt := 2115) C0 43 i_w dL_law_40 q43 ⟨by decide, by decide, by rfl⟩ (by decide) ?_
      exact law_c43 H43 hC hk hR hR9 hS h0 hiL hc1 hE hl next
    by_cases q44 : w = 44
    · refine x_tabIn (tgt := 2152) C0 44 i_w dL_law_40 q44 ⟨by decide, by decide, by rfl⟩ (by decide) ?_
      exact law_c44 H44 hC hk hR hR9 hS h0 hiL hc1 hE hl next
    by_cases q45 : w = 45
    · refine x_tabIn (tgt := 2177) C0 45 i_w dL_law_40 q45 ⟨by decide, by decide, by rfl⟩ (by decide) ?_
      exact law_c45 H45 hC hk hR hR9 hS h0 hiL hc1 hE hl next
    by_cases q46 : w = 46
    · refine x_tabIn (tgt := 2190) C0 46 i_w dL_law_40 q46 ⟨by decide, by decide, by rfl⟩ (by decide) ?_
      exact law_c46 H46 hC hk hR hR9 hS h0 hiL hc1 hE hl next
    by_cases q47 : w = 47
    · refine x_tabIn (tgt := 2215) C0 47 i_w dL_law_40 q47 ⟨by decide, by decide, by rfl⟩ (by decide) ?_
      exact law_c47 H47 hC hk hR hR9 hS h0 hiL hc1 hE hl next
    by_cases q48 : w = 48
    · refine x_tabIn (tgt := 2252) C0 48 i_w dL_law_40 q48 ⟨by decide, by decide, by rfl⟩ (by decide) ?_
      exact law_c48 H48 hC hk hR hR9 hS h0 hiL hc1 hE hl next
    by_cases q49 : w = 49
    · refine x_tabIn (tgt := 2321) C0 49 i_w dL_law_40 q49 ⟨by decide, by decide, by rfl⟩ (by decide) ?_
      exact law_c49 H49 hC hk hR hR9 hS h0 hiL hc1 hE hl next
    by_cases q50 : w = 50
    · refine x_tabIn (tgt := 2346) C0 50 i_w dL_law_40 q50 ⟨by decide, by decide, by rfl⟩ (by decide) ?_
      exact law_c50 H50 hl0 hC hk hR hR9 hS h0 hiL hc hE hl (fun τ1 v1 H locs ls hR9 hS hE hl => back σ τ1 v1 H locs (cells + 1) (slots + 6) ls (by omega) (by omega) hR hR9 hS hE hl)
    refine x_tabOut (tgt := 2401) C0 i_w dL_law_40 (by omega) (by decide) ?_
    exact back σ τ v H locs cells slots ls (by omega) (by omega) hR hR9 (HD k σ τ hS) hE hl

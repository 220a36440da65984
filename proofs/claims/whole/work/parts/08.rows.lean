-- EvenTrees.row, which returns or throws, and the law's own row, which catches
def PCX (D : va_G) (g : Ad) (w : va_W) (av : List Value) (sz : Nat) : Array Value → State → Prop := va_Pc av (fun U => U.heap.size = sz ∧ va_P D vwCl w U.heap ∧ KX D g U ∧ va_D (fun _ => True) w ∧ XR (va_A w sz) U U.heap)
theorem pcx_blind {D : va_G} {g : Ad} {w : va_W} {av : List Value} {sz : Nat} : FrameBlind (PCX D g w av sz) := fun a U gg mk q => by
  obtain ⟨q0, q1, qP, qK, qD, qX⟩ := q
  exact ⟨q0, q1, qP, qK.call, qD, qX.call⟩
theorem kwvn {p : Program} {R : Room} {s : State} {m : MethodId} {args : Array Value} {c : Code} {cc : ByteArray} {D : va_G} {g : Ad} {own : String} {ix : Nat} {C : String} {y : MethodName} {b : ByteArray} {nl : Nat} {rt : Option FieldType} {n k mc ms : Nat} (K : KWV own ix C y b nl rt n) (C0 : CX p c cc m s args D g own) (hk : k + 1 ≤ R.frames ∧ 8 + (nl + 11) + 40 * k ≤ R.locals) : CallW R s args own C ix y b nl rt (.code y b nl rt :: WT) (rmn k mc ms) mc ms n := by
  have ht := C0.2.2.2.1
  obtain ⟨h1, h2, h3, h4, h5, h6, h7⟩ := K
  exact ⟨callB_of n ht (WT_cons h5) rfl rfl rfl (by rw [h6]; exact ht _ h4) (ht _ h1) h7 hk, ht _ h2, ht _ h3⟩
set_option maxRecDepth 100000 in
set_option maxHeartbeats 4000000 in
theorem c_E_row (l : Launch) (hl0 : l.stackTraces = false) (D : va_G) (g : Ad) {σ : St} {p1 : Int} (hR : R32 σ) (i1 : in32 p1) (hm : σ 34 0 ≤ 16) (sz : Nat) :
    vx_Met l yX7_row (.code yX7_row cX7_row 2 (some .long) :: WT) (rmn 10 1 6) (PCX D g (wE g σ) [.ref (g.2 0), .int (I p1)] sz)
      (va_Ql (fun (x : Int64) (_ : Unit) => (0 ≤ p1 ∧ p1 < σ 34 0) ∧ x = J (σ 13 p1)) (fun _ t => BW D (wE g σ) (va_A (wE g σ) sz) t) (va_A (wE g σ) sz))
      (vx_X (fun _ : Unit => ¬ (0 ≤ p1 ∧ p1 < σ 34 0)) (fun E _ t => E = NSE ∧ BW D (wE g σ) (va_A (wE g σ) sz) t) (va_A (wE g σ) sz)) 1 6 (va_A (wE g σ) sz) := by
  refine vx_ofW (cc := cX7_row) (maxL := 2) (ret := some .long) (by decide) rfl ?_
  intro p e s m args below meth c s₁ B hml hnt hv
  obtain ⟨rfl, hsz, hP, hK, hD0, hX⟩ := hv
  have hts := atoms_spec (ws := .code yX7_row cX7_row 2 (some .long) :: WT) B.pre
  have hown : s.vm.findClass RX7 = some m.cls := findClass_of_methodNamed B.named
  have hlk := B.notSynchronized
  have hr := B.returns
  subst hsz
  have hD := hD0.self (sz := s.heap.size)
  have hl := lv_entry [.ref (g.2 0), .int (I p1)] (n := 2) (Nat.le_of_ble_eq_true rfl)
  rw [lg_entry_eq]
  have hrm : (headSpec (.code yX7_row cX7_row 2 (some .long) :: WT) (rmn 10 1 6)).room = rmn 10 1 6 := rfl
  rw [hrm]
  have C0 : CX p c cX7_row m s _ D g RX7 := ⟨B.exec, B.bytes, hown, fun w hw => hts w (List.mem_cons_of_mem _ hw), hK⟩
  have hE : EW D (va_A (wE g σ) s.heap.size) s.heap (wE g σ) s.heap [] := ⟨hP, hD, va_S.rf, fun q h => Or.inr h⟩
  generalize (lg_sl ([.ref (g.2 0), .int (I p1)]) ++ List.replicate (2 - (lg_sl ([.ref (g.2 0), .int (I p1)])).length) Slot.unset).toArray = ls at hl ⊢
  have hl : lv_has ls 2 [(0, .ref (g.2 0)), (1, .int (I p1))] := hl
  have thr : ¬ (0 ≤ p1 ∧ p1 < σ 34 0) → W p l e (rmn 10 1 6) s m _ below meth c s.heap [] 0 0 (vx_MQ below (va_Ql (fun (x : Int64) (_ : Unit) => (0 ≤ p1 ∧ p1 < σ 34 0) ∧ x = J (σ 13 p1)) (fun _ t => BW D (wE g σ) (va_A (wE g σ) s.heap.size) t) (va_A (wE g σ) s.heap.size)) (vx_X (fun _ : Unit => ¬ (0 ≤ p1 ∧ p1 < σ 34 0)) (fun E _ t => E = NSE ∧ BW D (wE g σ) (va_A (wE g σ) s.heap.size) t) (va_A (wE g σ) s.heap.size)) _ s 1 6 (va_A (wE g σ) s.heap.size)) (F0 m 15 ls []) := fun hno =>
    rx_throw C0.1 C0.2.1 hl0 hown C0.2.2.2.1 hX va_S.rf (hl.1.trans hml.symm) dX7_row_15 dX7_row_18 dX7_row_19 dX7_row_22 dX7_row_25 (fun x hx => (hnt x hx).elim) (Nat.le_of_ble_eq_true rfl) (Nat.le_of_ble_eq_true rfl) (Nat.le_of_ble_eq_true rfl) (Nat.le_of_ble_eq_true rfl) hlk
      (fun t hA hz hq => ⟨(), hno, ⟨rfl, hP.kept (fun k x hx => hq x.1 ((hP k x hx).lt)), hD⟩, hz, fun q h1 _ => hq q h1⟩) (fun _ h => nomatch h) (Nat.le_refl _) (Nat.le_refl _)
  refine lv_iload_n C0.1 C0.2.1 dX7_row_0 rfl (lv_at hl 1 rfl) ?_
  refine x_if_lt C0 i1 dX7_row_1 (tgt := 15) (by decide) (fun c9 => ?_) (fun c9 => ?_)
  · exact thr (by omega)
  refine lv_iload_n C0.1 C0.2.1 dX7_row_4 rfl (lv_at hl 1 rfl) ?_
  refine lv_aload_n C0.1 C0.2.1 dX7_row_5 rfl (lv_at hl 0 rfl) ?_
  refine E_g_told C0 hE fk_X7_19 dX7_row_6 ?_
  refine Row_n_many C0 hE rfl nk_X7_303 dX7_row_9 ?_
  refine x_icmp_lt C0 i1 (hR 34 0) dX7_row_12 (tgt := 26) (by decide) (fun c8 => ?_) (fun c8 => ?_)
  · refine lv_aload_n C0.1 C0.2.1 dX7_row_26 rfl (lv_at hl 0 rfl) ?_
    refine E_g_told C0 hE fk_X7_19 dX7_row_27 ?_
    refine Row_n_numbers C0 hE nk_X7_314 dX7_row_30 ?_
    refine lv_iload_n C0.1 C0.2.1 dX7_row_33 rfl (lv_at hl 1 rfl) ?_
    refine Row_numbers_l C0 hE i1 ⟨rfl, by omega, by omega⟩ dX7_row_34 ?_
    refine W.widen (k := 1) (n := 6) (Nat.zero_le _) (Nat.zero_le _) ?_
    refine vx_ret ?_
    exact W.lret (v := J (σ 13 p1)) C0.1 C0.2.1 hr (fun t ht hW => ⟨⟨J (σ 13 p1), (), rfl, ⟨⟨by omega, c8⟩, rfl⟩, by rw [ht]; exact hP, hD⟩, va_S.rf.F ht⟩) (fun _ h => nomatch h) dX7_row_35 hlk
  · exact thr (by omega)
def fO (v : Int) : Nat → Int64 := fun j => if j = 0 then J v else J 0
theorem fO_0 : fO 0 = fun _ => 0 := by
  funext j
  unfold fO
  split <;> rfl
theorem fO_up (v x : Int) : vp_updL (fO v) (I 0).toNatClampNeg (J x) = fO x := by
  funext j
  have h : (I 0).toNatClampNeg = 0 := by decide +kernel
  rw [h]
  unfold vp_updL fO
  by_cases h : j = 0 <;> simp [h]
def wO (g : Ad) (v : Int) : va_W := [((g.2 200), .inl (g.1 1, 1, .inr (.inl (fO v))))]
def wEO (g : Ad) (σ : St) (v : Int) : va_W := wE g σ ++ wO g v
theorem lk_law13 : Cond.classLink RL 13 NSE ∈ WT := wt4 83 (by rfl) rfl
theorem bx_cast : Cond.castable NSE NSE ∈ BX := by decide +kernel
def rowR (σ : St) (p1 : Int) : Int := if 0 ≤ p1 ∧ p1 < σ 34 0 then 0 else 1
def rowV (σ : St) (p1 v : Int) : Int := if 0 ≤ p1 ∧ p1 < σ 34 0 then σ 13 p1 else v
set_option maxRecDepth 100000 in
set_option maxHeartbeats 4000000 in
theorem c_L_row (l : Launch) (hl0 : l.stackTraces = false) (D : va_G) (g : Ad) {σ : St} {p1 v : Int} (hR : R32 σ) (i1 : in32 p1) (hm : σ 34 0 ≤ 16) (sz : Nat) :
    Met l yL_row (.codeWith yL_row cL_row 4 (some .int) [(0, 8, 11, 13)] :: WT) (rmn 12 1 6) (PCX D g (wEO g σ v) [.ref (g.2 0), .int (I p1), .ref (g.2 200)] sz)
      (QCi D (wEO g σ (rowV σ p1 v)) (rowR σ p1) True (va_A (wEO g σ v) sz)) 1 6 (va_A (wEO g σ v) sz) := by
  have hM : vx_Met l yL_row (.codeWith yL_row cL_row 4 (some .int) [(0, 8, 11, 13)] :: WT) (rmn 12 1 6) (PCX D g (wEO g σ v) [.ref (g.2 0), .int (I p1), .ref (g.2 200)] sz)
      (QCi D (wEO g σ (rowV σ p1 v)) (rowR σ p1) True (va_A (wEO g σ v) sz)) (fun _ _ _ => False) 1 6 (va_A (wEO g σ v) sz) := by
    refine vx_ofWH (cc := cL_row) (maxL := 4) (ret := some .int) (hh := [(0, 8, 11, 13)]) (by decide) rfl ?_
    intro p e s m args below meth c s₁ B hml hv
    obtain ⟨rfl, hsz, hP, hK, hD0, hX⟩ := hv
    have hts := atoms_spec (ws := .codeWith yL_row cL_row 4 (some .int) [(0, 8, 11, 13)] :: WT) B.pre
    have hown : s.vm.findClass RL = some m.cls := findClass_of_methodNamed B.named
    have hlk := B.notSynchronized
    have hr := B.returns
    subst hsz
    have htab : c.exceptionTable.toList.map (fun h => (h.startPc, h.endPc, h.handlerPc, h.catchType)) = [(0, 8, 11, 13)] := by
      obtain ⟨m9, meth9, c9, q1, q2, q3, -, -, q4, -⟩ := Cond.codeWith_spec (hts _ List.mem_cons_self)
      have e1 : m9 = m := Option.some.inj (q1.symm.trans B.named)
      rw [e1] at q2
      have e2 : meth9 = meth := Option.some.inj (q2.symm.trans B.method)
      rw [e2] at q3
      have h1 : s₁.code? m = some c := B.here.code
      have h2 : s.code? m = some c := by
        rw [B.state] at h1
        rw [State.code?_eq] at h1 ⊢
        exact h1
      rw [State.code?_eq, B.method] at h2
      have e3 : c9 = c := by
        have h3 : meth.code = some c := by simpa using h2
        exact Option.some.inj (q3.symm.trans h3)
      rw [← e3]; exact q4
    obtain ⟨x9, hx9, hx1, hx2, hx3, hx4⟩ : ∃ x : ExceptionTableEntry, c.exceptionTable.toList = [] ++ x :: [] ∧ x.startPc = 0 ∧ x.endPc = 8 ∧ x.handlerPc = 11 ∧ x.catchType = 13 := by
      cases hq : c.exceptionTable.toList with
      | nil => rw [hq] at htab; cases htab
      | cons x r =>
        rw [hq] at htab
        cases r with
        | nil =>
          simp only [List.map_cons, List.map_nil, List.cons.injEq, Prod.mk.injEq, and_true] at htab
          exact ⟨x, rfl, htab.1, htab.2.1, htab.2.2.1, htab.2.2.2⟩
        | cons y r => simp at htab
    have hD := hD0.self (sz := s.heap.size)
    have hl := lv_entry [.ref (g.2 0), .int (I p1), .ref (g.2 200)] (n := 4) (Nat.le_of_ble_eq_true rfl)
    rw [lg_entry_eq]
    have hrm : (headSpec (.codeWith yL_row cL_row 4 (some .int) [(0, 8, 11, 13)] :: WT) (rmn 12 1 6)).room = rmn 12 1 6 := rfl
    rw [hrm]
    have C0 : CX p c cL_row m s _ D g RL := ⟨B.exec, B.bytes, hown, fun w hw => hts w (List.mem_cons_of_mem _ hw), hK⟩
    have hE : EW D (va_A (wEO g σ v) s.heap.size) s.heap (wEO g σ v) s.heap [] := ⟨hP, hD, va_S.rf, fun q h => Or.inr h⟩
    generalize (lg_sl ([.ref (g.2 0), .int (I p1), .ref (g.2 200)]) ++ List.replicate (4 - (lg_sl ([.ref (g.2 0), .int (I p1), .ref (g.2 200)])).length) Slot.unset).toArray = ls at hl ⊢
    have hl : lv_has ls 4 [(0, .ref (g.2 0)), (1, .int (I p1)), (2, .ref (g.2 200))] := hl
    refine lv_aload_n C0.1 C0.2.1 dL_row_0 rfl (lv_at hl 2 rfl) ?_
    refine lv_iconst (v := I 0) C0.1 C0.2.1 dL_row_1 rfl ?_
    refine lv_aload_n C0.1 C0.2.1 dL_row_2 rfl (lv_at hl 0 rfl) ?_
    refine lv_iload_n C0.1 C0.2.1 dL_row_3 rfl (lv_at hl 1 rfl) ?_
    have isC : (List.range 30).map (fun i => (wEO g σ v)[i]?) = (wE g σ).map some := rfl
    have isC2 : (List.range 30).filterMap (fun i => (wEO g σ v)[i]?) = wE g σ := rfl
    have isR : [30].map (fun i => (wEO g σ v)[i]?) = (wO g v).map some := rfl
    have hF : ∀ q, va_A (wE g σ) s.heap.size q → va_A (wEO g σ v) s.heap.size q := va_free hE.2.1 hE.2.2.1 hE.2.2.2 (List.range 30) isC
    refine vx_calll (vx_runV (As := [.int (I p1)]) (rest := [.int (I 0), .ref (g.2 200)]) ⟨C0.1, C0.2.1, hml, hown, C0.2.2.2.1⟩ (c_E_row l hl0 D g hR i1 hm s.heap.size) (kwvn kw_L_7 C0 ⟨Nat.le_of_ble_eq_true rfl, Nat.le_of_ble_eq_true rfl⟩)
      ⟨pcx_blind, va_recv hK.1 hP (ci := 6) (q0 := 0) rfl rfl, fun U hU hW => ⟨rfl, by rw [hU], by rw [hU]; exact hP.sub (List.range 30) isC2, hK.warm hW, (hD.sub (List.range 30) (by decide +kernel) isC).weaken (fun _ _ _ _ => trivial), by rw [hU]; exact (hX.narrow hF).warm hW⟩⟩ rfl rfl hl.1 rfl (lv_room (Nat.le_of_ble_eq_true rfl)) dL_row_4 ⟨Nat.le_of_ble_eq_true rfl, Nat.le_of_ble_eq_true rfl⟩) hE.2.2.1 (fun q _ h => hF q h) hF (fun q _ h => hF q h) (fun E ce q9 u t H1 locs1 ht hvm hp hBx hz hq hS hc9 hcv hcl => ?_) (fun r u t H1 locs1 ht hvm hp hB hz hq hS => ?_)
    · obtain ⟨rfl, hB⟩ := hBx
      have hE1 := ew_join hE (List.range 30) [30] isC isR (by decide) (by decide +kernel) ht hB hq hS
      refine vx_catch hown [] x9 [] hx9 (fun z hz => nomatch hz) (by simp [covers, hx1, hx2]) (by rw [hx4]; decide) (by rw [hx4]; exact C0.2.2.2.1 _ lk_law13) (BX_use (w := Cond.castable NSE NSE) rfl (hX.2.2.2 _ bx_cast)) hc9 hcv hcl ?_
      rw [hx3]
      refine lv_astore_n (lv' := [(3, .ref q9), (0, .ref (g.2 0)), (1, .int (I p1)), (2, .ref (g.2 200))]) C0.1 C0.2.1 dL_row_11 rfl hl (by decide) rfl (fun ls hl => ?_)
      refine lv_iconst (v := I 1) C0.1 C0.2.1 dL_row_12 rfl ?_
      have hE2 := ew_sub (w' := wEO g σ v) ((List.range 30).map (· + 1) ++ [0]) rfl rfl (by decide +kernel) hE1
      refine vx_ret ?_
      have e1 : rowR σ p1 = 1 := if_neg hp
      have e2 : rowV σ p1 v = v := if_neg hp
      exact W.iret (v := I 1) C0.1 C0.2.1 hr (fun t ht hW => ⟨⟨I 1, (), rfl, ⟨by rw [e1], trivial⟩, by rw [e2, ht]; exact hE2.1, by rw [e2]; exact hE2.2.1⟩, hE2.2.2.1.F ht⟩) hE2.2.2.1.2.2 dL_row_13 hlk
    · obtain ⟨hin, rfl⟩ := hp
      have hE1 := ew_join hE (List.range 30) [30] isC isR (by decide) (by decide +kernel) ht hB hq hS
      have hE2 := ew_sub (w' := wEO g σ v) ((List.range 30).map (· + 1) ++ [0]) rfl rfl (by decide +kernel) hE1
      refine va_last (n := 1) (f := fO v) C0.1 C0.2.1 hK.1 hE2.1 hE2.2.1 hE2.2.2.1 30 1 rfl rfl (I_in (n := 1) (by decide) (by decide) (by decide) rfl) dL_row_7 (fun H2 locs2 hP2 hD2 hS2 => ?_)
      refine x_goto C0 dL_row_8 (tgt := 14) (by decide) ?_
      refine lv_iconst (v := I 0) C0.1 C0.2.1 dL_row_14 rfl ?_
      refine vx_ret ?_
      have e1 : rowR σ p1 = 0 := if_pos hin
      have e2 : rowV σ p1 v = σ 13 p1 := if_pos hin
      rw [fO_up] at hP2 hD2
      have hP3 : va_P D vwCl (wEO g σ (σ 13 p1)) H2 := hP2
      have hD3 : va_D (va_A (wEO g σ v) s.heap.size) (wEO g σ (σ 13 p1)) := hD2
      exact W.iret (v := I 0) C0.1 C0.2.1 hr (fun t ht hW => ⟨⟨I 0, (), rfl, ⟨by rw [e1], trivial⟩, by rw [e2, ht]; exact hP3, by rw [e2]; exact hD3⟩, hS2.F ht⟩) hS2.2.2 dL_row_15 hlk
  refine MetFree.mono hM (fun _ _ h => h) (fun _ _ _ _ _ h => h) (fun a st o t _ h => ?_)
  rcases h with h | ⟨q, -, E, ce, L, hf, -⟩
  · exact h
  · exact hf.elim

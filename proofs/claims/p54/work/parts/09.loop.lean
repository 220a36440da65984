-- ===== end of PART A; then your names; then what follows =====
/-! THE CLAIM OUT OF ONE WALK OF THE LAW'S BODY. Your part is whole_start (and what it stands on); all else here is the same for every law, but numbers. -/
def R_law : String := "EvenTreesLaw"
def lw_P (b : Addr) (xs : List Int32) (args : Array Value) (s : State) : Prop := args = #[.ref b] ∧ s.IntsAt b xs ∧ xs.length ≤ 260 ∧ (Jvm.Cond.and given_1 narrow_1).before args s = true
def lw_Q (_ : Array Value) (s : State) (o : Outcome) (t : State) : Prop := o = .returned (some (.int 1)) ∧ Framed s o t [] 600086 7301442
def lw_Z (below : List Frame) (a : Array Value) (s : State) : State → Prop := fun t => ∃ o, t.status = .running ∧ Ended t below o ∧ lw_Q a s o t
/-- the law's own end, with 1 on the stack, nothing written that was there before, its room as the claim has it -/
theorem lw_ret {p : Program} {l : Launch} {e : Env} {s : State} {m : MethodId} {below : List Frame} {meth : Method} {c : Code} {b : Nat} (hx : p.tables.exec = Jvm.exec) (hb : c.code = code) (hr : meth.sig.returnType = ret) (hlocks : meth.locks = false) {pc : Nat} {H : Heap} {ls : Array Slot} (hdg : decode code pc = .ok (.ireturn, 1)) : W p l e room_1 s m #[Value.ref b] below meth c H [] 600086 7301442 (lw_Z below #[Value.ref b] s) (F0 m pc ls [.int 1]) := by
  intro T hT X
  obtain ⟨fs, hret, hrun, hended, hW, hframe⟩ := X.leave (v := some (.int 1)) (hlocks := hlocks) (fun h => by rw [hr] at h; cases h)
  have hmeth' : T.vm.method? m = some meth := X.method'
  refine ⟨T.setFrames fs, ?_, .returned (some (.int 1)), hrun, hended, rfl, ⟨_, rfl⟩, hW, hframe⟩
  jvm_step X.here [X.here.top, hx, hb, hdg, hmeth', hr, ret, narrow_b1]
  (try refine ⟨rfl, ?_⟩); (try refine ⟨rfl, ?_⟩)
  first | (intro acts; rw [hret _ acts rfl rfl rfl]) | rw [hret _ _ rfl rfl rfl]
  exact Steps.refl _
/-- what holds at the law's entry: the machine, the code, the tables' words (any of lw_tbl by 'hts w (by decide +kernel)'), the script of L ints xs at the cell b, what the Statement gives of the start (any of its parts by flat_of_before) -/
def lw_At (p : Program) (s : State) (m : MethodId) (meth : Method) (c : Code) (b L : Nat) (xs : Nat → Int32) : Prop :=
  p.tables.exec = Jvm.exec ∧ c.code = code ∧ meth.sig.returnType = ret ∧ c.maxLocals = 20 ∧ s.vm.findClass R_law = some m.cls ∧ (∀ w ∈ lw_tbl, w.before #[Value.ref b] s = true) ∧ va_X b L xs s s.heap ∧ b < s.heap.size ∧ meth.locks = false ∧ (Jvm.Cond.and given_1 narrow_1).before #[Value.ref b] s = true

-- the helper cell: the script's number, or 0
def cellv (L : Nat) (xs : Nat → Int32) (k : Int) : Int := if k < L then (xs k.toNat).toInt else 0
theorem cellv_in (L : Nat) (xs : Nat → Int32) (k : Int) : in32 (cellv L xs k) := by
  unfold cellv
  split
  · exact in32_toInt _
  · decide
def PCS (D : va_G) (g : Ad) (b L : Nat) (xs : Nat → Int32) (k : Int) (sz : Nat) : Array Value → State → Prop := va_Pc [.ref b, .int (I k)] (fun U => U.heap.size = sz ∧ va_P D vwCl [] U.heap ∧ KX D g U ∧ va_D (fun _ => True) [] ∧ va_X b L xs U U.heap ∧ b < U.heap.size)
theorem pcs_blind {D : va_G} {g : Ad} {b L : Nat} {xs : Nat → Int32} {k : Int} {sz : Nat} : FrameBlind (PCS D g b L xs k sz) := fun a U gg mk q => by
  obtain ⟨q0, q1, qP, qK, qD, qX, qb⟩ := q
  exact ⟨q0, q1, qP, qK.call, qD, va_X.moved (u := U) (U := U.calling gg mk a) (Vm.Alike.refl U.vm) qX, qb⟩
theorem nilP (D : va_G) (H : Heap) : va_P D vwCl [] H := fun k q h => by simp at h
theorem nilD (A : Nat → Prop) : va_D A [] := ⟨fun i j p q h => by simp at h, fun k q h => by simp at h⟩
set_option maxRecDepth 100000 in
set_option maxHeartbeats 4000000 in
theorem c_L_cell (l : Launch) (D : va_G) (g : Ad) {b L : Nat} {xs : Nat → Int32} {k : Int} (i_k : in32 k) (h0 : 0 ≤ k) (hL : L ≤ 260) (sz : Nat) :
    Met l yL_cell (.code yL_cell cL_cell 2 (some .int) :: WT) (rmk 1) (PCS D g b L xs k sz) (QCi D [] (cellv L xs k) True (va_A [] sz)) 0 0 (va_A [] sz) := by
  refine Met.ofW (cc := cL_cell) (maxL := 2) (ret := some .int) (by decide) rfl ?_
  intro p e s m args below meth c s₁ B hml hv
  obtain ⟨rfl, hsz, hP, hK, hD0, hX, hbl⟩ := hv
  have hts := atoms_spec (ws := .code yL_cell cL_cell 2 (some .int) :: WT) B.pre
  have hown : s.vm.findClass RL = some m.cls := findClass_of_methodNamed B.named
  have hlk := B.notSynchronized
  have hr := B.returns
  subst hsz
  have hD := hD0.self (sz := s.heap.size)
  have hl := lv_entry [.ref b, .int (I k)] (n := 2) (Nat.le_of_ble_eq_true rfl)
  rw [lg_entry_eq]
  have hrm : (headSpec (.code yL_cell cL_cell 2 (some .int) :: WT) (rmk 1)).room = rmk 1 := rfl
  rw [hrm]
  have C0 : CX p c cL_cell m s _ D g RL := ⟨B.exec, B.bytes, hown, fun w hw => hts w (List.mem_cons_of_mem _ hw), hK⟩
  generalize (lg_sl ([.ref b, .int (I k)]) ++ List.replicate (2 - (lg_sl ([.ref b, .int (I k)])).length) Slot.unset).toArray = ls at hl ⊢
  have hl : lv_has ls 2 [(0, .ref b), (1, .int (I k))] := hl
  have hbA : ¬ va_A [] s.heap.size b := by
    rintro (⟨k9, e9, h9⟩ | h9)
    · simp at h9
    · exact absurd hbl (Nat.not_lt.mpr h9)
  have iL : in32 (L : Int) := by omega
  refine lv_iload_n C0.1 C0.2.1 dL_cell_0 rfl (lv_at hl 1 rfl) ?_
  refine lv_aload_n C0.1 C0.2.1 dL_cell_1 rfl (lv_at hl 0 rfl) ?_
  refine va_slen C0.1 C0.2.1 hX hbl hbA va_S.rf dL_cell_2 ?_
  refine x_icmp_ge C0 i_k iL dL_cell_3 (tgt := 12) (by decide) (fun c9 => ?_) (fun c9 => ?_)
  · refine lv_iconst (v := I 0) C0.1 C0.2.1 dL_cell_12 rfl ?_
    exact W.iret (v := I 0) C0.1 C0.2.1 hr (fun t ht hW => ⟨⟨I 0, (), rfl, ⟨by unfold cellv; rw [if_neg (by omega)], trivial⟩, by rw [ht]; exact hP, hD⟩, va_S.rf.F ht⟩) (fun _ h => nomatch h) dL_cell_13 hlk
  · refine lv_aload_n C0.1 C0.2.1 dL_cell_6 rfl (lv_at hl 0 rfl) ?_
    refine lv_iload_n C0.1 C0.2.1 dL_cell_7 rfl (lv_at hl 1 rfl) ?_
    have hkL : k < (L : Int) := by omega
    refine va_sld C0.1 C0.2.1 hX hbl hbA va_S.rf (I_in h0 hkL i_k rfl) dL_cell_8 ?_
    rw [I_clamp h0 i_k]
    refine x_goto C0 dL_cell_9 (tgt := 13) (by decide) ?_
    exact W.iret (v := xs k.toNat) C0.1 C0.2.1 hr (fun t ht hW => ⟨⟨xs k.toNat, (), rfl, ⟨by unfold cellv; rw [if_pos hkL]; exact (Int32.ofInt_toInt _).symm, trivial⟩, by rw [ht]; exact hP, hD⟩, va_S.rf.F ht⟩) (fun _ h => nomatch h) dL_cell_13 hlk
-- the loop
def HSTEP (J : Nat → St → St → Prop) : Prop := ∀ (k : Nat) (σ μ : St) (c : Int), k < 20 → R32 σ → R32 μ → in32 c → J k σ μ → ∃ σ1 μ1, L_head σ μ c = some (σ1, μ1) ∧ J (k + 1) σ1 μ1
set_option maxRecDepth 100000 in
set_option maxHeartbeats 4000000 in
theorem call_cell {p : Program} {l : Launch} {e : Env} {s : State} {m : MethodId} {below : List Frame} {meth : Method} {c : Code} {Q : State → Prop} {D : va_G} {g : Ad} {b L : Nat} {xs : Nat → Int32} {σ μ : St} {k : Int} {H : Heap} {locs : List Loc} {cells slots : Nat} {ls : Array Slot} (hC : LC p s m meth c b L xs D g) (hL : L ≤ 260) (i_k : in32 k) (h0 : 0 ≤ k) (hc : cells ≤ room_1.cells ∧ slots ≤ room_1.slots) (hE : EW D (aL s) s.heap (wP g σ μ) H locs) (hls : ls.size = 20)
    (kk : ∀ (H1 : Heap) (locs1 : List Loc), EW D (aL s) s.heap (wP g σ μ) H1 locs1 → W p l e room_1 s m #[Value.ref b] below meth c H1 locs1 cells slots Q (F0 m 38 ls [.int (I (cellv L xs k))])) : W p l e room_1 s m #[Value.ref b] below meth c H locs cells slots Q (F0 m 35 ls [.int (I k), .ref b]) := by
  obtain ⟨C0, hml, hX, hbl, hlk, hr, hK3, hAO⟩ := hC
  have hF : ∀ q, va_A [] H.size q → aL s q := va_free hE.2.1 hE.2.2.1 hE.2.2.2 [] rfl
  have hbA : ¬ aL s b := Nat.not_le.mpr hbl
  have hX1 : va_X b L xs s H := hX.kept (hE.2.2.1.2.1 b hbl hbA)
  have hp : PreS s H (PCS D g b L xs k H.size) [.ref b, .int (I k)] := ⟨pcs_blind, fun U hU hW => ⟨rfl, by rw [hU], nilP _ _, C0.2.2.2.2.warm hW, nilD _, by rw [hU]; exact hX1.moved hW.alike, by rw [hU]; exact Nat.lt_of_lt_of_le hbl hE.2.2.1.1⟩⟩
  exact va_calli (va_runS ⟨C0.1, C0.2.1, hml, C0.2.2.1, C0.2.2.2.1⟩ (c_L_cell l D g i_k h0 hL H.size) (kws kw_L_23 C0 ⟨Nat.le_of_ble_eq_true rfl, Nat.le_of_ble_eq_true rfl⟩) hp rfl rfl hls rfl (by exact lv_room (st := []) (Nat.zero_le _)) dL_law_35 hc) hE.2.2.1 (fun q _ h => hF q h) hF
    (fun x u t H1 locs1 ht hvm hp hB hz hq hS => by
      obtain ⟨rfl, -⟩ := hp
      have h1 := ew_join hE [] (List.range 38) (wr := wP g σ μ) rfl rfl (by decide +kernel) (by decide +kernel) ht hB hq hS
      rw [List.append_nil] at h1
      exact kk H1 locs1 h1)
set_option maxRecDepth 100000 in
set_option maxHeartbeats 4000000 in
theorem law_loop {p : Program} {l : Launch} {e : Env} {s : State} {m : MethodId} {below : List Frame} {meth : Method} {c : Code} {D : va_G} {b L : Nat} {xs : Nat → Int32} {J : Nat → St → St → Prop} (HS : HSTEP J) (hL : L ≤ 260) :
    ∀ (n k : Nat) (g : Ad) (σ μ : St) (H : Heap) (locs : List Loc) (cells slots : Nat) (ls : Array Slot), LC p s m meth c b L xs D g → k + n = 20 → R32 σ → R32 μ → J k σ μ → cells ≤ 100 + k → slots ≤ 50000 + 64 * k → EW D (aL s) s.heap (wP g σ μ) H locs → lv_has ls 20 (lvH g b (k : Int)) → W p l e room_1 s m #[Value.ref b] below meth c H locs cells slots (lw_Z below #[Value.ref b] s) (F0 m 25 ls []) := by
  intro n
  induction n with
  | zero =>
    intro k g σ μ H locs cells slots ls hC hk hR hM hJ hcc hss hE hl
    have C0 := hC.1
    have ik : in32 (k : Int) := by omega
    have hl : lv_has ls 20 [(0, .ref b), (1, .ref (g.2 0)), (2, .ref (g.2 46)), (3, .ref (g.2 47)), (4, .int (I (k : Int)))] := hl
    refine lv_iload C0.1 C0.2.1 dL_law_25 (lv_at hl 4 rfl) ?_
    refine lv_bipush (v := I 20) C0.1 C0.2.1 dL_law_27 (by decide +kernel) ?_
    refine x_icmp_ge C0 ik (by decide) dL_law_29 (tgt := 1407) (by decide) (fun c9 => ?_) (fun c9 => absurd c9 (by omega))
    refine lv_iconst (v := I 1) C0.1 C0.2.1 dL_law_1407 rfl ?_
    refine va_forget (fun q hq => hE.2.2.1.2.2 q hq) ?_
    refine W.widen (k := 600086) (n := 7301442) (by omega) (by omega) ?_
    exact lw_ret C0.1 C0.2.1 hC.2.2.2.2.2.1 hC.2.2.2.2.1 dL_law_1408
  | succ n ih =>
    intro k g σ μ H locs cells slots ls hC hk hR hM hJ hcc hss hE hl
    have C0 := hC.1
    have ik : in32 (k : Int) := by omega
    have hl : lv_has ls 20 [(0, .ref b), (1, .ref (g.2 0)), (2, .ref (g.2 46)), (3, .ref (g.2 47)), (4, .int (I (k : Int)))] := hl
    have hc : cells ≤ room_1.cells ∧ slots ≤ room_1.slots := by
      show cells ≤ 600086 ∧ slots ≤ 7301442
      omega
    have hroom : cells + 1 ≤ room_1.cells ∧ slots + 64 ≤ room_1.slots := by
      show cells + 1 ≤ 600086 ∧ slots + 64 ≤ 7301442
      omega
    obtain ⟨σr, μr, hs, hJ1⟩ := HS k σ μ (cellv L xs k) (by omega) hR hM (cellv_in _ _ _) hJ
    refine lv_iload C0.1 C0.2.1 dL_law_25 (lv_at hl 4 rfl) ?_
    refine lv_bipush (v := I 20) C0.1 C0.2.1 dL_law_27 (by decide +kernel) ?_
    refine x_icmp_ge C0 ik (by decide) dL_law_29 (tgt := 1407) (by decide) (fun c9 => absurd c9 (by omega)) (fun c9 => ?_)
    refine lv_aload_n C0.1 C0.2.1 dL_law_32 rfl (lv_at hl 0 rfl) ?_
    refine lv_iload C0.1 C0.2.1 dL_law_33 (lv_at hl 4 rfl) ?_
    refine call_cell hC hL ik (by omega) hc hE hl.1 (fun H locs hE => ?_)
    refine c_L_head hC hR hM ik (cellv_in L xs k) hc hroom hE hl hs (fun g1 σ1 μ1 H locs ls e1 h9 hR hM hE hl => ?_)
    cases h9
    have hC1 := hC.cg e1
    have hl : lv_has ls 20 [(0, .ref b), (1, .ref (g1.2 0)), (2, .ref (g1.2 46)), (3, .ref (g1.2 47)), (4, .int (I (k : Int)))] := hl
    refine x_iinc (v := (k : Int) + 1) (lv' := [(4, .int (I ((k : Int) + 1))), (0, .ref b), (1, .ref (g1.2 0)), (2, .ref (g1.2 46)), (3, .ref (g1.2 47))]) hC1.1 dL_law_1401 hl (k := 4) rfl rfl (by decide) rfl (fun ls hl => ?_)
    refine x_goto hC1.1 dL_law_1404 (tgt := 25) (by decide) ?_
    have e2 : ((k + 1 : Nat) : Int) = (k : Int) + 1 := by omega
    refine ih (k + 1) g1 σr μr H locs (cells + 1) (slots + 64) ls hC1 (by omega) hR hM hJ1 (by omega) (by omega) hE ?_
    rw [e2]
    exact lv_sub hl [1, 2, 3, 4, 0] rfl
-- the start
theorem NW_tab : ∀ w ∈ NW, w ∈ lw_tbl := by decide +kernel
theorem zE_R : R32 zE := by
  intro f j
  unfold zE
  repeat (first | decide | split)
def zP : St := fun _ _ => 0
theorem zP_R : R32 zP := fun _ _ => (by decide : in32 0)
theorem arr_of {s : State} {args : Array Value} (ty : FieldType) (hp : ∀ c : ClassId, s.vm.findClass ("[" ++ ty.toString) = some c → va_RA s c ty) (h : (Cond.arrayClass ty).before args s = true) : ∃ c : ClassId, ArrOfT s c ty ∧ va_RA s c ty := by
  obtain ⟨cA, kA, comp, h1, h2, h3⟩ := Cond.arrayClass_spec h
  exact ⟨cA, fun n z => ⟨fun k h => (by cases h), kA, h2, comp, h3⟩, hp cA h1⟩
theorem pl_six (r : Nat → Nat) (f : Nat → va_E) (x : va_E) : va_pl ([] ++ (List.range 6).map r) (vr_up f ((List.range 6).map r) x) = [(r 0, x), (r 1, x), (r 2, x), (r 3, x), (r 4, x), (r 5, x)] := by
  simp [va_pl, vr_up, List.range, List.range.loop]
set_option maxRecDepth 100000 in
set_option maxHeartbeats 4000000 in
theorem law_start {p : Program} {e : Env} {s : State} {m : MethodId} {below : List Frame} {meth : Method} {c : Code} (l : Launch) {b L : Nat} {xs : Nat → Int32} (hL : L ≤ 260) (Z0 : lw_At p s m meth c b L xs) {J : Nat → St → St → Prop} (HI : J 0 zE zP) (HS : HSTEP J) : W p l e room_1 s m #[Value.ref b] below meth c s.heap [] 0 0 (lw_Z below #[Value.ref b] s) (entryFrame m ([Value.ref b] : List Value).toArray 20) := by
  obtain ⟨hx, hb, hr, hml, hown, hts, hX, hbl, hlk, hgv⟩ := Z0
  have htw : ∀ w ∈ WT, w.before #[Value.ref b] s = true := fun w hw => hts w (List.mem_filter.mp hw).1
  obtain ⟨c0, i0, hK0⟩ := u_known (C := RX0) (T := TX0) (N := 10) (n := 10) htw inX0 (htw _ (wt1 25 (by rfl) rfl))
  obtain ⟨c1, i1, hK1⟩ := u_known (C := RX1) (T := TX1) (N := 14) (n := 14) htw inX1 (htw _ (wt1 80 (by rfl) rfl))
  obtain ⟨c2, i2, hK2⟩ := u_known (C := RX2) (T := TX2) (N := 2) (n := 2) htw inX2 (htw _ (wt1 64 (by rfl) rfl))
  obtain ⟨c4, i4, hK4⟩ := u_known (C := RX4) (T := TX4) (N := 2) (n := 2) htw inX4 (htw _ (wt1 86 (by rfl) rfl))
  obtain ⟨c5, i5, hK5⟩ := u_known (C := RX5) (T := TX5) (N := 2) (n := 2) htw inX5 (htw _ (wt1 160 (by rfl) rfl))
  obtain ⟨c6, i6, hK6⟩ := u_known (C := RX6) (T := TX6) (N := 3) (n := 3) htw inX6 (htw _ (wt1 144 (by rfl) rfl))
  obtain ⟨c7, i7, hK7⟩ := u_known (C := RX7) (T := TX7) (N := 12) (n := 12) htw inX7 (htw _ (wt1 17 (by rfl) rfl))
  obtain ⟨k0, hk0⟩ := arr_of .int (fun _ h => h) (htw _ (wt1 62 (by rfl) rfl))
  obtain ⟨k1, hk1⟩ := arr_of .long (fun _ h => h) (htw _ (wt1 78 (by rfl) rfl))
  have hAO : (Cond.arrayOver (.array .int)).before #[Value.ref b] s = true := hts _ (List.mem_append_right _ (List.mem_append_right _ (List.mem_append_right _ ((List.mem_of_getElem? (i := 157) (by rfl))))))
  obtain ⟨dC, dI, hKc⟩ : ∃ (dC : Nat → ClassId) (dI : Nat → Nat → Nat), ∀ (k : Nat) (q : vw_C), vwCl[k]? = some q → u_Kn s q.1 q.2.1 q.2.2 (dC k) (dI k) := by
    refine ⟨fun k => if k = 0 then c0 else if k = 1 then c1 else if k = 2 then c2 else if k = 3 then c4 else if k = 4 then c5 else if k = 5 then c6 else c7, fun k => if k = 0 then i0 else if k = 1 then i1 else if k = 2 then i2 else if k = 3 then i4 else if k = 4 then i5 else if k = 5 then i6 else i7, ?_⟩
    intro k q hq
    match k, hq with
    | 0, hq => cases hq; exact hK0
    | 1, hq => cases hq; exact hK1
    | 2, hq => cases hq; exact hK2
    | 3, hq => cases hq; exact hK4
    | 4, hq => cases hq; exact hK5
    | 5, hq => cases hq; exact hK6
    | 6, hq => cases hq; exact hK7
    | k + 7, hq => simp [vwCl] at hq
  have hKX : ∀ (k2 : ClassId) (ad : Nat → Nat), KX (dC, dI) ((fun k => if k = 0 then k0 else if k = 1 then k1 else k2), ad) s := by
    intro k2 ad
    refine ⟨⟨hKc, ?_⟩, fun w hw => ?_⟩
    · intro k q hq
      match k, hq with
      | 0, hq => cases hq; exact hk0
      | 1, hq => cases hq; exact hk1
      | k + 2, hq => simp [tyA] at hq
    · have hm : w ∈ lw_tbl := NW_tab w hw
      have hn := NW_nest w hw
      have hb9 := hts w hm
      cases w <;> first | exact va_Nw.of rfl hb9 | exact absurd hn (fun q => q)
  have C0 : ∀ (k2 : ClassId) (ad : Nat → Nat), CX p c cL_law m s #[Value.ref b] (dC, dI) ((fun k => if k = 0 then k0 else if k = 1 then k1 else k2), ad) RL := fun k2 ad => ⟨hx, hb, hown, htw, hKX k2 ad⟩
  have hl := lv_entry ([.ref b]) (n := 20) (Nat.le_of_ble_eq_true rfl)
  rw [lg_entry_eq]
  generalize (lg_sl ([.ref b]) ++ List.replicate (20 - (lg_sl ([.ref b])).length) Slot.unset).toArray = ls at hl ⊢
  have hl : lv_has ls 20 [(0, .ref b)] := hl
  have hE : EW (dC, dI) (aL s) s.heap [] s.heap [] := ⟨nilP _ _, nilD _, va_S.rf, fun q h => h⟩
  refine x_new (g := ((fun k => if k = 0 then k0 else if k = 1 then k1 else k0), fun _ => 0)) (ci := 6) (fs := [.null, .null, .null, .null, .null, .null, .null, .null, .null, .null, .null, .null]) (C := RX7) (T := TX7) (N := 12) (C0 k0 (fun _ => 0)) hE inX7 tyX7 tyX7_ok (wt1 16 (by rfl) rfl) (wt1 17 (by rfl) rfl) (wt1 1 (by rfl) rfl) rfl (fun j hj => by rcases (show j = 0 ∨ j = 1 ∨ j = 2 ∨ j = 3 ∨ j = 4 ∨ j = 5 ∨ j = 6 ∨ j = 7 ∨ j = 8 ∨ j = 9 ∨ j = 10 ∨ j = 11 by omega) with rfl | rfl | rfl | rfl | rfl | rfl | rfl | rfl | rfl | rfl | rfl | rfl <;> rfl) (Nat.le_of_ble_eq_true rfl) (Nat.le_of_ble_eq_true rfl) dL_law_0 (fun qE H hE => ?_)
  have hE : EW (dC, dI) (aL s) s.heap [(qE, .inr (6, [.null, .null, .null, .null, .null, .null, .null, .null, .null, .null, .null, .null]))] H [] := hE
  refine W.cs (cells' := 1) (slots' := 12) rfl rfl ?_
  refine lv_dup hx hb dL_law_3 rfl ?_
  refine callN (g := ((fun k => if k = 0 then k0 else if k = 1 then k1 else k0), fun _ => 0)) (n := 0) (host := "EvenTrees") (wr := []) (wc := [(qE, .inr (6, [.null, .null, .null, .null, .null, .null, .null, .null, .null, .null, .null, .null]))]) (rest := [.ref qE]) (C0 k0 (fun _ => 0)) hml hE [0] [] rfl rfl rfl (by decide) (by decide) (by decide) (n_E l (dC, dI) ((fun k => if k = 0 then k0 else if k = 1 then k1 else k0), fun _ => 0) qE) ⟨Or.inr (wt1 18 (by rfl) rfl), (wt1 19 (by rfl) rfl), (wt1 1 (by rfl) rfl), (wt1 20 (by rfl) rfl), rfl, by decide +kernel⟩ ⟨Nat.le_of_ble_eq_true rfl, Nat.le_of_ble_eq_true rfl⟩ rfl hl.1 rfl (Nat.le_of_ble_eq_true rfl) dL_law_4 ⟨Nat.le_of_ble_eq_true rfl, Nat.le_of_ble_eq_true rfl⟩ (fun u H locs hE hu => ?_)
  refine W.cs (cells' := 30) (slots' := 35071) rfl rfl ?_
  have hu : u 0 = qE := hu
  have hE : EW (dC, dI) (aL s) s.heap (wE ((fun k => if k = 0 then k0 else if k = 1 then k1 else k0), u) zE) H locs := hE
  refine lv_astore_n (lv' := [(1, .ref qE), (0, .ref b)]) hx hb dL_law_7 rfl hl (by decide) rfl (fun ls hl => ?_)
  refine lv_bipush (v := I 6) hx hb dL_law_8 (by decide +kernel) ?_
  refine lv_bipush (v := I 64) hx hb dL_law_10 (by decide +kernel) ?_
  have hP0 : va_P (dC, dI) vwCl (wE ((fun k => if k = 0 then k0 else if k = 1 then k1 else k0), u) zE ++ va_pl [] (fun _ => .inl (k0, (0, .inl (fun _ => 0))))) H := by
    show va_P (dC, dI) vwCl (wE _ zE ++ []) H
    rw [List.append_nil]
    exact hE.1
  have hD0 : va_D (aL s) (wE ((fun k => if k = 0 then k0 else if k = 1 then k1 else k0), u) zE ++ va_pl [] (fun _ => .inl (k0, (0, .inl (fun _ => 0))))) := by
    show va_D (aL s) (wE _ zE ++ [])
    rw [List.append_nil]
    exact hE.2.1
  refine va_mna (own := RL) (index := 21) (ty := .int) (cy := k0) (n := I 6) (k := I 64) (N' := 6) (K' := 64) (z := (64, .inl (fun _ => 0))) hx hb hown (show (Cond.classLink RL 21 "[[I").before #[Value.ref b] s = true from htw _ (wt3 156 (by rfl) rfl)) hAO (htw _ (wt1 62 (by rfl) rfl)) hk0.2 (hKX k0 (fun _ => 0)).1 hP0 hD0 hE.2.2.1 hE.2.2.2 (by decide) (by decide) (by decide +kernel) (by decide +kernel) (Nat.le_of_ble_eq_true rfl) (Nat.le_of_ble_eq_true rfl) (Nat.le_of_ble_eq_true rfl) rfl rfl (Nat.le_of_ble_eq_true rfl) (Nat.le_of_ble_eq_true rfl) (fun c9 => by
    show ({ cls := c9, slots := Array.replicate 64 (.int 0), vm := .none } : Cell) = _
    rw [arrV_new]
    rfl) dL_law_12 (fun qO r cA H1 hinj hnm hK2 hP2 hD2 hS2 => ?_)
  rw [pl_six] at hP2 hD2
  have hE : EW (dC, dI) (aL s) s.heap _ H1 locs := ⟨hP2, hD2, hS2, hE.2.2.2⟩
  refine W.cs (cells' := 37) (slots' := 35461) rfl rfl ?_
  refine lv_astore_n (lv' := [(2, .ref qO), (1, .ref qE), (0, .ref b)]) hx hb dL_law_16 rfl hl (by decide) rfl (fun ls hl => ?_)
  refine lv_bipush (v := I 6) hx hb dL_law_17 (by decide +kernel) ?_
  refine x_newa (g := ((fun k => if k = 0 then k0 else if k = 1 then k1 else cA), fun _ => 0)) (atype := .int) (ty := .int) (t := 0) (N := 6) (n := 6) (a0 := (6, .inl (fun _ => 0))) (C0 cA (fun _ => 0)) hE (wt1 62 (by rfl) rfl) rfl rfl (fun _ _ h => h) (fun _ => rfl) (by decide) (by decide +kernel) (Nat.le_of_ble_eq_true rfl) (Nat.le_of_ble_eq_true rfl) (Nat.le_of_ble_eq_true rfl) dL_law_19 (fun qN H hE => ?_)
  refine W.cs (cells' := 38) (slots' := 35467) rfl rfl ?_
  have hf : (fun i => if i < 6 then some (r i) else none : Nat → Option Nat) = fun i => if i < 6 then some (if 51 + i < 30 then u (51 + i) else if 51 + i = 46 then qO else if 51 + i = 47 then qN else r (51 + i - 51)) else none := by
    funext i
    by_cases h6 : i < 6
    · rw [if_pos h6, if_pos h6, if_neg (by omega), if_neg (by omega), if_neg (by omega), show 51 + i - 51 = i by omega]
    · rw [if_neg h6, if_neg h6]
  rw [hf] at hE
  obtain ⟨g, hg, hg0, hg1, hg2⟩ : ∃ g : Ad, g = ((fun k => if k = 0 then k0 else if k = 1 then k1 else cA), fun k => if k < 30 then u k else if k = 46 then qO else if k = 47 then qN else r (k - 51)) ∧ g.2 0 = qE ∧ g.2 46 = qO ∧ g.2 47 = qN := ⟨_, rfl, hu, rfl, rfl⟩
  have hE : EW (dC, dI) (aL s) s.heap (wP g zE zP) H locs := by
    rw [hg]
    exact ew_sub (List.range 31 ++ [37, 31, 32, 33, 34, 35, 36]) rfl rfl (by decide +kernel) hE
  refine lv_astore_n (lv' := [(3, .ref qN), (2, .ref qO), (1, .ref qE), (0, .ref b)]) hx hb dL_law_21 rfl hl (by decide) rfl (fun ls hl => ?_)
  refine lv_iconst (v := I 0) hx hb dL_law_22 rfl ?_
  refine lv_istore (lv' := [(4, .int (I 0)), (3, .ref qN), (2, .ref qO), (1, .ref qE), (0, .ref b)]) hx hb dL_law_23 hl (by decide) rfl (fun ls hl => ?_)
  have hl : lv_has ls 20 (lvH g b ((0 : Nat) : Int)) := by
    unfold lvH
    rw [hg0, hg1, hg2]
    exact lv_sub hl [4, 3, 2, 1, 0] rfl
  have hLC : LC p s m meth c b L xs (dC, dI) g := ⟨by rw [hg]; exact C0 cA _, hml, hX, hbl, hlk, hr, by rw [hg]; exact hK2.sub [2] rfl, hAO⟩
  exact law_loop HS hL 20 0 g zE zP H locs 38 35467 ls hLC rfl zE_R zP_R HI (by omega) (by omega) hE hl

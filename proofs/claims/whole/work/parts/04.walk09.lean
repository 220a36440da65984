-- THE WALKS, written by program
set_option maxRecDepth 100000 in
set_option maxHeartbeats 4000000 in
theorem c_M_node (l : Launch) (D : va_G) (g : Ad) {σ : St} {p1 p2 r : Int} (hR : R32 σ) (i_p1 : in32 p1) (i_p2 : in32 p2) (h : M_node σ p1 p2 = some r) : CtI l D g yX8_node cX8_node 3 (some .int) 1 (wM g σ) (wM g σ) [.ref (g.2 100), .int (I p1), .int (I p2)] r (in32 r) := by
  intro sz
  refine met_of (by decide) (Nat.le_of_ble_eq_true rfl) (fun p e s m args below meth c ls H locs C0 hml hr hlk hE hl => ?_)
  have C0 : CX p c cX8_node m s args D g RX8 := C0
  have hl : lv_has ls 3 [(0, .ref (g.2 100)), (1, .int (I p1)), (2, .int (I p2))] := hl
  unfold M_node at h
  refine lv_aload_n C0.1 C0.2.1 dX8_node_0 rfl (lv_at hl 0 rfl) ?_
  refine M_g_nodes C0 hE fk_X8_13 dX8_node_1 ?_
  refine lv_sipush (v := I 256) C0.1 C0.2.1 dX8_node_4 (by decide +kernel) ?_
  refine lv_iload_n C0.1 C0.2.1 dX8_node_7 rfl (lv_at hl 1 rfl) ?_
  obtain ⟨v1, e_v1, i_v1, h⟩ := omul_s h
  refine x_mul C0 e_v1 dX8_node_8 ?_
  refine lv_iload_n C0.1 C0.2.1 dX8_node_9 rfl (lv_at hl 2 rfl) ?_
  obtain ⟨v2, e_v2, i_v2, h⟩ := oadd_s h
  refine x_add C0 e_v2 dX8_node_10 ?_
  obtain ⟨v3, e_v3, i_v3, h⟩ := rd_s hR h
  refine M_nodes_l C0 hE i_v2 e_v3 dX8_node_11 ?_
  exact pret_i C0 hr hlk hE h i_v3 dX8_node_12
set_option maxRecDepth 100000 in
set_option maxHeartbeats 4000000 in
theorem c_M_hasNode (l : Launch) (D : va_G) (g : Ad) {σ : St} {p1 p2 p3 r : Int} (hR : R32 σ) (i_p1 : in32 p1) (i_p2 : in32 p2) (i_p3 : in32 p3) (h : M_hasNode σ p1 p2 p3 = some r) : CtI l D g yX8_hasNode cX8_hasNode 5 (some .boolean) 2 (wM g σ) (wM g σ) [.ref (g.2 100), .int (I p1), .int (I p2), .int (I p3)] r (in32 r) := by
  intro sz
  refine met_of (by decide) (Nat.le_of_ble_eq_true rfl) (fun p e s m args below meth c ls H locs C0 hml hr hlk hE hl => ?_)
  have C0 : CX p c cX8_hasNode m s args D g RX8 := C0
  have hl : lv_has ls 5 [(0, .ref (g.2 100)), (1, .int (I p1)), (2, .int (I p2)), (3, .int (I p3))] := hl
  unfold M_hasNode at h
  refine lv_iconst (v := I 0) C0.1 C0.2.1 dX8_hasNode_0 rfl ?_
  refine lv_istore (lv' := [(4, .int (I 0)), (0, .ref (g.2 100)), (1, .int (I p1)), (2, .int (I p2)), (3, .int (I p3))]) C0.1 C0.2.1 dX8_hasNode_1 hl (by decide) rfl (fun ls hl => ?_)
  have hL3 : ∀ (n : Nat) (x1 : Int) (i_x1 : in32 x1) (H : Heap) (locs : List Loc) (ls : Array Slot), EW D (va_A (wM g σ) sz) s.heap (wM g σ) H locs → lv_has ls 5 [(0, .ref (g.2 100)), (1, .int (I p1)), (2, .int (I p2)), (3, .int (I p3)), (4, .int (I x1))] → M_hasNode_L3 σ p1 p2 p3 n x1 = some r → W p l e (rmk 2) s m args below meth c H locs 0 0 (MQ below (QCi D (wM g σ) r (in32 r) (va_A (wM g σ) sz)) args s 0 0 (va_A (wM g σ) sz)) (F0 m 3 ls []) := by
    intro n
    induction n with
    | zero => intros; rename_i h; cases h
    | succ n ih2 =>
      intro x1 i_x1 H locs ls hE hl h
      unfold M_hasNode_L3 at h
      refine lv_iload C0.1 C0.2.1 dX8_hasNode_3 (lv_at hl 4 rfl) ?_
      refine lv_iload_n C0.1 C0.2.1 dX8_hasNode_5 rfl (lv_at hl 3 rfl) ?_
      refine x_icmp_ge C0 i_x1 i_p3 dX8_hasNode_6 (tgt := 28) (by decide) (fun c9 => ?_) (fun c9 => ?_)
      · have h := ite_f c9 h
        refine lv_iconst (v := I 0) C0.1 C0.2.1 dX8_hasNode_28 rfl ?_
        exact pret_z C0 hr hlk hE (Or.inl rfl) h dX8_hasNode_29
      · have h := ite_t c9 h
        refine lv_aload_n C0.1 C0.2.1 dX8_hasNode_9 rfl (lv_at hl 0 rfl) ?_
        refine lv_iload_n C0.1 C0.2.1 dX8_hasNode_10 rfl (lv_at hl 1 rfl) ?_
        refine lv_iload C0.1 C0.2.1 dX8_hasNode_11 (lv_at hl 4 rfl) ?_
        obtain ⟨v3, h_v3, h⟩ := bndp_s h
        refine callV_i (rest := []) C0 hml hE (M_rec C0 hE) (c_M_node l D g hR i_p1 i_x1 h_v3) kw_X8_308 ⟨Nat.le_of_ble_eq_true rfl, Nat.le_of_ble_eq_true rfl⟩ rfl hl.1 rfl (Nat.le_of_ble_eq_true rfl) dX8_hasNode_13 ⟨Nat.zero_le _, Nat.zero_le _⟩ (fun H locs hE i_v3 => ?_)
        refine lv_iload_n C0.1 C0.2.1 dX8_hasNode_16 rfl (lv_at hl 2 rfl) ?_
        refine x_icmp_ne C0 i_v3 i_p2 dX8_hasNode_17 (tgt := 22) (by decide) (fun c9 => ?_) (fun c9 => ?_)
        · have h := ite_f c9 h
          obtain ⟨v4, e_v4, i_v4, h⟩ := oadd_s h
          refine x_iinc (lv' := [(4, .int (I v4)), (0, .ref (g.2 100)), (1, .int (I p1)), (2, .int (I p2)), (3, .int (I p3))]) C0 dX8_hasNode_22 hl (k := 4) rfl e_v4 (by decide) rfl (fun ls hl => ?_)
          refine x_goto C0 dX8_hasNode_25 (tgt := 3) (by decide) ?_
          exact ih2 v4 i_v4 _ _ _ hE (lv_sub hl [1, 2, 3, 4, 0] rfl) h
        · have h := ite_t c9 h
          refine lv_iconst (v := I 1) C0.1 C0.2.1 dX8_hasNode_20 rfl ?_
          exact pret_z C0 hr hlk hE (Or.inr rfl) h dX8_hasNode_21
  exact hL3 FU 0 lit_0 _ _ _ hE (lv_sub hl [1, 2, 3, 4, 0] rfl) h
set_option maxRecDepth 100000 in
set_option maxHeartbeats 4000000 in
theorem c_M_isFirst (l : Launch) (D : va_G) (g : Ad) {σ : St} {p1 p2 r : Int} (hR : R32 σ) (i_p1 : in32 p1) (i_p2 : in32 p2) (h : M_isFirst σ p1 p2 = some r) : CtI l D g yX8_isFirst cX8_isFirst 3 (some .boolean) 3 (wM g σ) (wM g σ) [.ref (g.2 100), .int (I p1), .int (I p2)] r (in32 r) := by
  intro sz
  refine met_of (by decide) (Nat.le_of_ble_eq_true rfl) (fun p e s m args below meth c ls H locs C0 hml hr hlk hE hl => ?_)
  have C0 : CX p c cX8_isFirst m s args D g RX8 := C0
  have hl : lv_has ls 3 [(0, .ref (g.2 100)), (1, .int (I p1)), (2, .int (I p2))] := hl
  unfold M_isFirst at h
  refine lv_aload_n C0.1 C0.2.1 dX8_isFirst_0 rfl (lv_at hl 0 rfl) ?_
  refine lv_iload_n C0.1 C0.2.1 dX8_isFirst_1 rfl (lv_at hl 1 rfl) ?_
  refine lv_aload_n C0.1 C0.2.1 dX8_isFirst_2 rfl (lv_at hl 0 rfl) ?_
  refine lv_iload_n C0.1 C0.2.1 dX8_isFirst_3 rfl (lv_at hl 1 rfl) ?_
  refine lv_iload_n C0.1 C0.2.1 dX8_isFirst_4 rfl (lv_at hl 2 rfl) ?_
  obtain ⟨v1, h_v1, h⟩ := bndp_s h
  refine callV_i (rest := [.int (I p1), .ref (g.2 100)]) C0 hml hE (M_rec C0 hE) (c_M_node l D g hR i_p1 i_p2 h_v1) kw_X8_308 ⟨Nat.le_of_ble_eq_true rfl, Nat.le_of_ble_eq_true rfl⟩ rfl hl.1 rfl (Nat.le_of_ble_eq_true rfl) dX8_isFirst_5 ⟨Nat.zero_le _, Nat.zero_le _⟩ (fun H locs hE i_v1 => ?_)
  refine lv_iload_n C0.1 C0.2.1 dX8_isFirst_8 rfl (lv_at hl 2 rfl) ?_
  obtain ⟨v2, h_v2, h⟩ := bndp_s h
  refine callV_i (rest := []) C0 hml hE (M_rec C0 hE) (c_M_hasNode l D g hR i_p1 i_v1 i_p2 h_v2) kw_X8_317 ⟨Nat.le_of_ble_eq_true rfl, Nat.le_of_ble_eq_true rfl⟩ rfl hl.1 rfl (Nat.le_of_ble_eq_true rfl) dX8_isFirst_9 ⟨Nat.zero_le _, Nat.zero_le _⟩ (fun H locs hE i_v2 => ?_)
  obtain ⟨v3, e_v3, i_v3, h⟩ := oif_s h
  have kk_v3 : W p l e (rmk 3) s m args below meth c H locs 0 0 (MQ below (QCi D (wM g σ) r (in32 r) (va_A (wM g σ) sz)) args s 0 0 (va_A (wM g σ) sz)) (F0 m 20 ls [.int (I v3)]) := by
    obtain ⟨z9, h⟩ := retZp_s h
    exact pret_z C0 hr hlk hE z9 h dX8_isFirst_20
  refine x_if_ne C0 i_v2 dX8_isFirst_12 (tgt := 19) (by decide) (fun c9 => ?_) (fun c9 => ?_)
  · have e9 := e_v3.trans (if_neg c9)
    refine lv_iconst (v := I 0) C0.1 C0.2.1 dX8_isFirst_19 rfl ?_
    rw [e9] at kk_v3; exact kk_v3
  · have e9 := e_v3.trans (if_pos c9)
    refine lv_iconst (v := I 1) C0.1 C0.2.1 dX8_isFirst_15 rfl ?_
    refine x_goto C0 dX8_isFirst_16 (tgt := 20) (by decide) ?_
    rw [e9] at kk_v3; exact kk_v3
set_option maxRecDepth 100000 in
set_option maxHeartbeats 4000000 in
theorem c_M_oftenOf (l : Launch) (D : va_G) (g : Ad) {σ : St} {p1 p2 r : Int} (hR : R32 σ) (i_p1 : in32 p1) (i_p2 : in32 p2) (h : M_oftenOf σ p1 p2 = some r) : CtI l D g yX8_oftenOf cX8_oftenOf 5 (some .int) 2 (wM g σ) (wM g σ) [.ref (g.2 100), .int (I p1), .int (I p2)] r (in32 r) := by
  intro sz
  refine met_of (by decide) (Nat.le_of_ble_eq_true rfl) (fun p e s m args below meth c ls H locs C0 hml hr hlk hE hl => ?_)
  have C0 : CX p c cX8_oftenOf m s args D g RX8 := C0
  have hl : lv_has ls 5 [(0, .ref (g.2 100)), (1, .int (I p1)), (2, .int (I p2))] := hl
  unfold M_oftenOf at h
  refine lv_iconst (v := I 0) C0.1 C0.2.1 dX8_oftenOf_0 rfl ?_
  refine lv_istore_n (lv' := [(3, .int (I 0)), (0, .ref (g.2 100)), (1, .int (I p1)), (2, .int (I p2))]) C0.1 C0.2.1 dX8_oftenOf_1 rfl hl (by decide) rfl (fun ls hl => ?_)
  refine lv_iconst (v := I 0) C0.1 C0.2.1 dX8_oftenOf_2 rfl ?_
  refine lv_istore (lv' := [(4, .int (I 0)), (3, .int (I 0)), (0, .ref (g.2 100)), (1, .int (I p1)), (2, .int (I p2))]) C0.1 C0.2.1 dX8_oftenOf_3 hl (by decide) rfl (fun ls hl => ?_)
  have hL5 : ∀ (n : Nat) (x1 : Int) (i_x1 : in32 x1) (x2 : Int) (i_x2 : in32 x2) (H : Heap) (locs : List Loc) (ls : Array Slot), EW D (va_A (wM g σ) sz) s.heap (wM g σ) H locs → lv_has ls 5 [(0, .ref (g.2 100)), (1, .int (I p1)), (2, .int (I p2)), (3, .int (I x1)), (4, .int (I x2))] → M_oftenOf_L5 σ p1 p2 n x1 x2 = some r → W p l e (rmk 2) s m args below meth c H locs 0 0 (MQ below (QCi D (wM g σ) r (in32 r) (va_A (wM g σ) sz)) args s 0 0 (va_A (wM g σ) sz)) (F0 m 5 ls []) := by
    intro n
    induction n with
    | zero => intros; rename_i h; cases h
    | succ n ih3 =>
      intro x1 i_x1 x2 i_x2 H locs ls hE hl h
      unfold M_oftenOf_L5 at h
      refine lv_iload C0.1 C0.2.1 dX8_oftenOf_5 (lv_at hl 4 rfl) ?_
      refine lv_aload_n C0.1 C0.2.1 dX8_oftenOf_7 rfl (lv_at hl 0 rfl) ?_
      refine M_g_sizes C0 hE fk_X8_16 dX8_oftenOf_8 ?_
      refine lv_iload_n C0.1 C0.2.1 dX8_oftenOf_11 rfl (lv_at hl 1 rfl) ?_
      obtain ⟨v4, e_v4, i_v4, h⟩ := rd_s hR h
      refine M_sizes_l C0 hE i_p1 e_v4 dX8_oftenOf_12 ?_
      refine x_icmp_ge C0 i_x2 i_v4 dX8_oftenOf_13 (tgt := 41) (by decide) (fun c9 => ?_) (fun c9 => ?_)
      · have h := ite_f c9 h
        refine lv_iload_n C0.1 C0.2.1 dX8_oftenOf_41 rfl (lv_at hl 3 rfl) ?_
        exact pret_i C0 hr hlk hE h i_x1 dX8_oftenOf_42
      · have h := ite_t c9 h
        refine lv_iload_n C0.1 C0.2.1 dX8_oftenOf_16 rfl (lv_at hl 3 rfl) ?_
        refine lv_aload_n C0.1 C0.2.1 dX8_oftenOf_17 rfl (lv_at hl 0 rfl) ?_
        refine lv_iload_n C0.1 C0.2.1 dX8_oftenOf_18 rfl (lv_at hl 1 rfl) ?_
        refine lv_iload C0.1 C0.2.1 dX8_oftenOf_19 (lv_at hl 4 rfl) ?_
        obtain ⟨v5, h_v5, h⟩ := bndp_s h
        refine callV_i (rest := [.int (I x1)]) C0 hml hE (M_rec C0 hE) (c_M_node l D g hR i_p1 i_x2 h_v5) kw_X8_308 ⟨Nat.le_of_ble_eq_true rfl, Nat.le_of_ble_eq_true rfl⟩ rfl hl.1 rfl (Nat.le_of_ble_eq_true rfl) dX8_oftenOf_21 ⟨Nat.zero_le _, Nat.zero_le _⟩ (fun H locs hE i_v5 => ?_)
        refine lv_iload_n C0.1 C0.2.1 dX8_oftenOf_24 rfl (lv_at hl 2 rfl) ?_
        obtain ⟨v6, e_v6, i_v6, h⟩ := oif_s h
        have kk_v6 : W p l e (rmk 2) s m args below meth c H locs 0 0 (MQ below (QCi D (wM g σ) r (in32 r) (va_A (wM g σ) sz)) args s 0 0 (va_A (wM g σ) sz)) (F0 m 33 ls [.int (I v6), .int (I x1)]) := by
          obtain ⟨v7, e_v7, i_v7, h⟩ := oadd_s h
          refine x_add C0 e_v7 dX8_oftenOf_33 ?_
          refine lv_istore_n (lv' := [(3, .int (I v7)), (0, .ref (g.2 100)), (1, .int (I p1)), (2, .int (I p2)), (4, .int (I x2))]) C0.1 C0.2.1 dX8_oftenOf_34 rfl hl (by decide) rfl (fun ls hl => ?_)
          obtain ⟨v8, e_v8, i_v8, h⟩ := oadd_s h
          refine x_iinc (lv' := [(4, .int (I v8)), (3, .int (I v7)), (0, .ref (g.2 100)), (1, .int (I p1)), (2, .int (I p2))]) C0 dX8_oftenOf_35 hl (k := 4) rfl e_v8 (by decide) rfl (fun ls hl => ?_)
          refine x_goto C0 dX8_oftenOf_38 (tgt := 5) (by decide) ?_
          exact ih3 v7 i_v7 v8 i_v8 _ _ _ hE (lv_sub hl [2, 3, 4, 1, 0] rfl) h
        refine x_icmp_ne C0 i_v5 i_p2 dX8_oftenOf_25 (tgt := 32) (by decide) (fun c9 => ?_) (fun c9 => ?_)
        · have e9 := e_v6.trans (if_neg c9)
          refine lv_iconst (v := I 0) C0.1 C0.2.1 dX8_oftenOf_32 rfl ?_
          rw [e9] at kk_v6; exact kk_v6
        · have e9 := e_v6.trans (if_pos c9)
          refine lv_iconst (v := I 1) C0.1 C0.2.1 dX8_oftenOf_28 rfl ?_
          refine x_goto C0 dX8_oftenOf_29 (tgt := 33) (by decide) ?_
          rw [e9] at kk_v6; exact kk_v6
  exact hL5 FU 0 lit_0 0 lit_0 _ _ _ hE (lv_sub hl [2, 3, 4, 1, 0] rfl) h
set_option maxRecDepth 100000 in
set_option maxHeartbeats 4000000 in
theorem c_M_twins (l : Launch) (D : va_G) (g : Ad) {σ σr : St} {p1 r : Int} (hR : R32 σ) (i_p1 : in32 p1) (h : M_twins σ p1 = some (r, σr)) : CtI l D g yX8_twins cX8_twins 7 (some .int) 4 (wM g σ) (wM g σr) [.ref (g.2 100), .int (I p1)] r (in32 r ∧ R32 σr) := by
  intro sz
  refine met_of (by decide) (Nat.le_of_ble_eq_true rfl) (fun p e s m args below meth c ls H locs C0 hml hr hlk hE hl => ?_)
  have C0 : CX p c cX8_twins m s args D g RX8 := C0
  have hl : lv_has ls 7 [(0, .ref (g.2 100)), (1, .int (I p1))] := hl
  unfold M_twins at h
  refine lv_aload_n C0.1 C0.2.1 dX8_twins_0 rfl (lv_at hl 0 rfl) ?_
  refine lv_iconst (v := I 0) C0.1 C0.2.1 dX8_twins_1 rfl ?_
  obtain ⟨s1, e_s1, hR, h⟩ := pf_s hR lit_0 h
  refine M_p_thrown C0 hE e_s1 fk_X8_55 dX8_twins_2 (fun H locs hE => ?_)
  refine lv_iload_n C0.1 C0.2.1 dX8_twins_5 rfl (lv_at hl 1 rfl) ?_
  obtain ⟨v2, h_v2, h⟩ := bndp_s h
  refine callS_i (rest := []) C0 hml hE (c_M_isPlace l D g (σ := s1) i_p1 h_v2) kw_X8_134 ⟨Nat.le_of_ble_eq_true rfl, Nat.le_of_ble_eq_true rfl⟩ rfl hl.1 rfl (Nat.le_of_ble_eq_true rfl) dX8_twins_6 ⟨Nat.zero_le _, Nat.zero_le _⟩ (fun H locs hE i_v2 => ?_)
  refine x_if_ne C0 i_v2 dX8_twins_9 (tgt := 14) (by decide) (fun c9 => ?_) (fun c9 => ?_)
  · have h := ite_f c9 h
    refine lv_iconst (v := I 0) C0.1 C0.2.1 dX8_twins_14 rfl ?_
    refine lv_istore_n (lv' := [(2, .int (I 0)), (0, .ref (g.2 100)), (1, .int (I p1))]) C0.1 C0.2.1 dX8_twins_15 rfl hl (by decide) rfl (fun ls hl => ?_)
    refine lv_iconst (v := I 0) C0.1 C0.2.1 dX8_twins_16 rfl ?_
    refine lv_istore_n (lv' := [(3, .int (I 0)), (2, .int (I 0)), (0, .ref (g.2 100)), (1, .int (I p1))]) C0.1 C0.2.1 dX8_twins_17 rfl hl (by decide) rfl (fun ls hl => ?_)
    refine lv_iconst (v := I 0) C0.1 C0.2.1 dX8_twins_18 rfl ?_
    refine lv_istore (lv' := [(4, .int (I 0)), (3, .int (I 0)), (2, .int (I 0)), (0, .ref (g.2 100)), (1, .int (I p1))]) C0.1 C0.2.1 dX8_twins_19 hl (by decide) rfl (fun ls hl => ?_)
    refine lv_iconst (v := I 0) C0.1 C0.2.1 dX8_twins_21 rfl ?_
    refine lv_istore (lv' := [(5, .int (I 0)), (4, .int (I 0)), (3, .int (I 0)), (2, .int (I 0)), (0, .ref (g.2 100)), (1, .int (I p1))]) C0.1 C0.2.1 dX8_twins_22 hl (by decide) rfl (fun ls hl => ?_)
    obtain ⟨k6, e_k6, h⟩ := jn_s h
    have h_k6 : ∀ (x3 : Int) (i_x3 : in32 x3) (x4 : Int) (i_x4 : in32 x4) (x5 : Int) (i_x5 : in32 x5) (H : Heap) (locs : List Loc) (ls : Array Slot), EW D (va_A (wM g σ) sz) s.heap (wM g s1) H locs → lv_has ls 7 [(0, .ref (g.2 100)), (1, .int (I p1)), (2, .int (I x3)), (3, .int (I x4)), (4, .int (I x5))] → k6 x3 x4 x5 = some (r, σr) → W p l e (rmk 4) s m args below meth c H locs 0 0 (MQ below (QCi D (wM g σr) r (in32 r ∧ R32 σr) (va_A (wM g σ) sz)) args s 0 0 (va_A (wM g σ) sz)) (F0 m 94 ls []) := by
      intro x3 i_x3 x4 i_x4 x5 i_x5 H locs ls hE hl h
      have h := (congrFun (congrFun (congrFun e_k6 x3) x4) x5).symm.trans h
      refine lv_aload_n C0.1 C0.2.1 dX8_twins_94 rfl (lv_at hl 0 rfl) ?_
      refine lv_iconst (v := I 0) C0.1 C0.2.1 dX8_twins_95 rfl ?_
      obtain ⟨s7, e_s7, hR, h⟩ := pf_s hR lit_0 h
      refine M_p_rowMany C0 hE e_s7 fk_X8_59 dX8_twins_96 (fun H locs hE => ?_)
      refine lv_aload_n C0.1 C0.2.1 dX8_twins_99 rfl (lv_at hl 0 rfl) ?_
      refine lv_iload C0.1 C0.2.1 dX8_twins_100 (lv_at hl 4 rfl) ?_
      refine x_i2l C0 i_x5 dX8_twins_102 ?_
      obtain ⟨v8, s9, h_v8, h⟩ := bnd_s h
      refine callV_v (rest := []) C0 hml hE (M_rec C0 hE) (c_M_tell l D g hR (in64_of i_x5) h_v8) kw_X8_150 ⟨Nat.le_of_ble_eq_true rfl, Nat.le_of_ble_eq_true rfl⟩ rfl hl.1 rfl (Nat.le_of_ble_eq_true rfl) dX8_twins_103 ⟨Nat.zero_le _, Nat.zero_le _⟩ (fun H locs hE hR => ?_)
      refine lv_aload_n C0.1 C0.2.1 dX8_twins_106 rfl (lv_at hl 0 rfl) ?_
      refine lv_aload_n C0.1 C0.2.1 dX8_twins_107 rfl (lv_at hl 0 rfl) ?_
      refine M_g_sizes C0 hE fk_X8_16 dX8_twins_108 ?_
      refine lv_iload_n C0.1 C0.2.1 dX8_twins_111 rfl (lv_at hl 1 rfl) ?_
      obtain ⟨v10, e_v10, i_v10, h⟩ := rd_s hR h
      refine M_sizes_l C0 hE i_p1 e_v10 dX8_twins_112 ?_
      refine lv_iload_n C0.1 C0.2.1 dX8_twins_113 rfl (lv_at hl 3 rfl) ?_
      obtain ⟨v11, e_v11, i_v11, h⟩ := osub_s h
      refine x_sub C0 e_v11 dX8_twins_114 ?_
      refine x_i2l C0 i_v11 dX8_twins_115 ?_
      obtain ⟨v12, s13, h_v12, h⟩ := bnd_s h
      refine callV_v (rest := []) C0 hml hE (M_rec C0 hE) (c_M_tell l D g hR (in64_of i_v11) h_v12) kw_X8_150 ⟨Nat.le_of_ble_eq_true rfl, Nat.le_of_ble_eq_true rfl⟩ rfl hl.1 rfl (Nat.le_of_ble_eq_true rfl) dX8_twins_116 ⟨Nat.zero_le _, Nat.zero_le _⟩ (fun H locs hE hR => ?_)
      refine lv_iload_n C0.1 C0.2.1 dX8_twins_119 rfl (lv_at hl 2 rfl) ?_
      exact ret_i (wf := wM g) C0 hr hlk hE h i_x3 hR dX8_twins_120
    have hL24 : ∀ (n : Nat) (x14 : Int) (i_x14 : in32 x14) (x15 : Int) (i_x15 : in32 x15) (x16 : Int) (i_x16 : in32 x16) (x17 : Int) (i_x17 : in32 x17) (H : Heap) (locs : List Loc) (ls : Array Slot), EW D (va_A (wM g σ) sz) s.heap (wM g s1) H locs → lv_has ls 7 [(0, .ref (g.2 100)), (1, .int (I p1)), (2, .int (I x14)), (3, .int (I x15)), (4, .int (I x16)), (5, .int (I x17))] → M_twins_L24 k6 s1 p1 n x14 x15 x16 x17 = some (r, σr) → W p l e (rmk 4) s m args below meth c H locs 0 0 (MQ below (QCi D (wM g σr) r (in32 r ∧ R32 σr) (va_A (wM g σ) sz)) args s 0 0 (va_A (wM g σ) sz)) (F0 m 24 ls []) := by
      intro n
      induction n with
      | zero => intros; rename_i h; cases h
      | succ n ih18 =>
        intro x14 i_x14 x15 i_x15 x16 i_x16 x17 i_x17 H locs ls hE hl h
        unfold M_twins_L24 at h
        refine lv_iload C0.1 C0.2.1 dX8_twins_24 (lv_at hl 5 rfl) ?_
        refine lv_aload_n C0.1 C0.2.1 dX8_twins_26 rfl (lv_at hl 0 rfl) ?_
        refine M_g_sizes C0 hE fk_X8_16 dX8_twins_27 ?_
        refine lv_iload_n C0.1 C0.2.1 dX8_twins_30 rfl (lv_at hl 1 rfl) ?_
        obtain ⟨v19, e_v19, i_v19, h⟩ := rd_s hR h
        refine M_sizes_l C0 hE i_p1 e_v19 dX8_twins_31 ?_
        refine x_icmp_ge C0 i_x17 i_v19 dX8_twins_32 (tgt := 94) (by decide) (fun c9 => ?_) (fun c9 => ?_)
        · have h := ite_f c9 h
          exact h_k6 x14 i_x14 x15 i_x15 x16 i_x16 _ _ _ hE (lv_sub hl [0, 1, 2, 3, 4] rfl) h
        · have h := ite_t c9 h
          refine lv_aload_n C0.1 C0.2.1 dX8_twins_35 rfl (lv_at hl 0 rfl) ?_
          refine lv_iload_n C0.1 C0.2.1 dX8_twins_36 rfl (lv_at hl 1 rfl) ?_
          refine lv_iload C0.1 C0.2.1 dX8_twins_37 (lv_at hl 5 rfl) ?_
          obtain ⟨v20, h_v20, h⟩ := bndp_s h
          refine callV_i (rest := []) C0 hml hE (M_rec C0 hE) (c_M_isFirst l D g hR i_p1 i_x17 h_v20) kw_X8_311 ⟨Nat.le_of_ble_eq_true rfl, Nat.le_of_ble_eq_true rfl⟩ rfl hl.1 rfl (Nat.le_of_ble_eq_true rfl) dX8_twins_39 ⟨Nat.zero_le _, Nat.zero_le _⟩ (fun H locs hE i_v20 => ?_)
          obtain ⟨k24, e_k24, h⟩ := jn_s h
          have h_k24 : ∀ (x21 : Int) (i_x21 : in32 x21) (x22 : Int) (i_x22 : in32 x22) (x23 : Int) (i_x23 : in32 x23) (H : Heap) (locs : List Loc) (ls : Array Slot), EW D (va_A (wM g σ) sz) s.heap (wM g s1) H locs → lv_has ls 7 [(0, .ref (g.2 100)), (1, .int (I p1)), (2, .int (I x21)), (3, .int (I x22)), (4, .int (I x23)), (5, .int (I x17))] → k24 x21 x22 x23 = some (r, σr) → W p l e (rmk 4) s m args below meth c H locs 0 0 (MQ below (QCi D (wM g σr) r (in32 r ∧ R32 σr) (va_A (wM g σ) sz)) args s 0 0 (va_A (wM g σ) sz)) (F0 m 88 ls []) := by
            intro x21 i_x21 x22 i_x22 x23 i_x23 H locs ls hE hl h
            have h := (congrFun (congrFun (congrFun e_k24 x21) x22) x23).symm.trans h
            obtain ⟨v25, e_v25, i_v25, h⟩ := oadd_s h
            refine x_iinc (lv' := [(5, .int (I v25)), (0, .ref (g.2 100)), (1, .int (I p1)), (2, .int (I x21)), (3, .int (I x22)), (4, .int (I x23))]) C0 dX8_twins_88 hl (k := 5) rfl e_v25 (by decide) rfl (fun ls hl => ?_)
            refine x_goto C0 dX8_twins_91 (tgt := 24) (by decide) ?_
            exact ih18 x21 i_x21 x22 i_x22 x23 i_x23 v25 i_v25 _ _ _ hE (lv_sub hl [1, 2, 3, 4, 5, 0] rfl) h
          refine x_if_ne C0 i_v20 dX8_twins_42 (tgt := 48) (by decide) (fun c9 => ?_) (fun c9 => ?_)
          · have h := ite_f c9 h
            refine lv_aload_n C0.1 C0.2.1 dX8_twins_48 rfl (lv_at hl 0 rfl) ?_
            refine lv_iload_n C0.1 C0.2.1 dX8_twins_49 rfl (lv_at hl 1 rfl) ?_
            refine lv_aload_n C0.1 C0.2.1 dX8_twins_50 rfl (lv_at hl 0 rfl) ?_
            refine lv_iload_n C0.1 C0.2.1 dX8_twins_51 rfl (lv_at hl 1 rfl) ?_
            refine lv_iload C0.1 C0.2.1 dX8_twins_52 (lv_at hl 5 rfl) ?_
            obtain ⟨v26, h_v26, h⟩ := bndp_s h
            refine callV_i (rest := [.int (I p1), .ref (g.2 100)]) C0 hml hE (M_rec C0 hE) (c_M_node l D g hR i_p1 i_x17 h_v26) kw_X8_308 ⟨Nat.le_of_ble_eq_true rfl, Nat.le_of_ble_eq_true rfl⟩ rfl hl.1 rfl (Nat.le_of_ble_eq_true rfl) dX8_twins_54 ⟨Nat.zero_le _, Nat.zero_le _⟩ (fun H locs hE i_v26 => ?_)
            obtain ⟨v27, h_v27, h⟩ := bndp_s h
            refine callV_i (rest := []) C0 hml hE (M_rec C0 hE) (c_M_oftenOf l D g hR i_p1 i_v26 h_v27) kw_X8_314 ⟨Nat.le_of_ble_eq_true rfl, Nat.le_of_ble_eq_true rfl⟩ rfl hl.1 rfl (Nat.le_of_ble_eq_true rfl) dX8_twins_57 ⟨Nat.zero_le _, Nat.zero_le _⟩ (fun H locs hE i_v27 => ?_)
            refine lv_istore (lv' := [(6, .int (I v27)), (0, .ref (g.2 100)), (1, .int (I p1)), (2, .int (I x14)), (3, .int (I x15)), (4, .int (I x16)), (5, .int (I x17))]) C0.1 C0.2.1 dX8_twins_60 hl (by decide) rfl (fun ls hl => ?_)
            obtain ⟨v28, e_v28, i_v28, h⟩ := oadd_s h
            refine x_iinc (lv' := [(3, .int (I v28)), (6, .int (I v27)), (0, .ref (g.2 100)), (1, .int (I p1)), (2, .int (I x14)), (4, .int (I x16)), (5, .int (I x17))]) C0 dX8_twins_62 hl (k := 4) rfl e_v28 (by decide) rfl (fun ls hl => ?_)
            refine lv_iload_n C0.1 C0.2.1 dX8_twins_65 rfl (lv_at hl 4 rfl) ?_
            refine lv_iload C0.1 C0.2.1 dX8_twins_66 (lv_at hl 1 rfl) ?_
            refine lv_iconst (v := I 1) C0.1 C0.2.1 dX8_twins_68 rfl ?_
            obtain ⟨v29, e_v29, i_v29, h⟩ := oif_s h
            have kk_v29 : W p l e (rmk 4) s m args below meth c H locs 0 0 (MQ below (QCi D (wM g σr) r (in32 r ∧ R32 σr) (va_A (wM g σ) sz)) args s 0 0 (va_A (wM g σ) sz)) (F0 m 77 ls [.int (I v29), .int (I x14)]) := by
              obtain ⟨v30, e_v30, i_v30, h⟩ := oadd_s h
              refine x_add C0 e_v30 dX8_twins_77 ?_
              refine lv_istore_n (lv' := [(2, .int (I v30)), (3, .int (I v28)), (6, .int (I v27)), (0, .ref (g.2 100)), (1, .int (I p1)), (4, .int (I x16)), (5, .int (I x17))]) C0.1 C0.2.1 dX8_twins_78 rfl hl (by decide) rfl (fun ls hl => ?_)
              refine lv_iload C0.1 C0.2.1 dX8_twins_79 (lv_at hl 5 rfl) ?_
              refine lv_iload C0.1 C0.2.1 dX8_twins_81 (lv_at hl 2 rfl) ?_
              obtain ⟨v31, e_v31, i_v31, h⟩ := opure_s h (imax_in i_x16 i_v27)
              refine x_max C0 kw_X8_234 (hml.trans hl.1.symm) i_x16 i_v27 e_v31 ⟨Nat.le_of_ble_eq_true rfl, Nat.le_of_ble_eq_true rfl⟩ ⟨Nat.zero_le _, Nat.zero_le _⟩ dX8_twins_83 ?_
              refine lv_istore (lv' := [(4, .int (I v31)), (2, .int (I v30)), (3, .int (I v28)), (6, .int (I v27)), (0, .ref (g.2 100)), (1, .int (I p1)), (5, .int (I x17))]) C0.1 C0.2.1 dX8_twins_86 hl (by decide) rfl (fun ls hl => ?_)
              exact h_k24 v30 i_v30 v28 i_v28 v31 i_v31 _ _ _ hE (lv_sub hl [4, 5, 1, 2, 0, 6] rfl) h
            refine x_icmp_le C0 i_v27 lit_1 dX8_twins_69 (tgt := 76) (by decide) (fun c9 => ?_) (fun c9 => ?_)
            · have e9 := e_v29.trans (if_neg c9)
              refine lv_iconst (v := I 0) C0.1 C0.2.1 dX8_twins_76 rfl ?_
              rw [e9] at kk_v29; exact kk_v29
            · have e9 := e_v29.trans (if_pos c9)
              refine lv_iconst (v := I 1) C0.1 C0.2.1 dX8_twins_72 rfl ?_
              refine x_goto C0 dX8_twins_73 (tgt := 77) (by decide) ?_
              rw [e9] at kk_v29; exact kk_v29
          · have h := ite_t c9 h
            refine x_goto C0 dX8_twins_45 (tgt := 88) (by decide) ?_
            exact h_k24 x14 i_x14 x15 i_x15 x16 i_x16 _ _ _ hE (lv_sub hl [0, 1, 2, 3, 4, 5] rfl) h
    exact hL24 FU 0 lit_0 0 lit_0 0 lit_0 0 lit_0 _ _ _ hE (lv_sub hl [4, 5, 3, 2, 1, 0] rfl) h
  · have h := ite_t c9 h
    refine lv_iconst (v := I (-1)) C0.1 C0.2.1 dX8_twins_12 rfl ?_
    exact ret_i (wf := wM g) C0 hr hlk hE h lit_m1 hR dX8_twins_13
set_option maxRecDepth 100000 in
set_option maxHeartbeats 4000000 in
theorem c_M_same (l : Launch) (D : va_G) (g : Ad) {σ σr : St} {p1 p2 r : Int} (hR : R32 σ) (i_p1 : in32 p1) (i_p2 : in32 p2) (h : M_same σ p1 p2 = some (r, σr)) : CtI l D g yX8_same cX8_same 8 (some .int) 4 (wM g σ) (wM g σr) [.ref (g.2 100), .int (I p1), .int (I p2)] r (in32 r ∧ R32 σr) := by
  intro sz
  refine met_of (by decide) (Nat.le_of_ble_eq_true rfl) (fun p e s m args below meth c ls H locs C0 hml hr hlk hE hl => ?_)
  have C0 : CX p c cX8_same m s args D g RX8 := C0
  have hl : lv_has ls 8 [(0, .ref (g.2 100)), (1, .int (I p1)), (2, .int (I p2))] := hl
  unfold M_same at h
  refine lv_aload_n C0.1 C0.2.1 dX8_same_0 rfl (lv_at hl 0 rfl) ?_
  refine lv_iconst (v := I 0) C0.1 C0.2.1 dX8_same_1 rfl ?_
  obtain ⟨s1, e_s1, hR, h⟩ := pf_s hR lit_0 h
  refine M_p_thrown C0 hE e_s1 fk_X8_55 dX8_same_2 (fun H locs hE => ?_)
  refine lv_iload_n C0.1 C0.2.1 dX8_same_5 rfl (lv_at hl 1 rfl) ?_
  obtain ⟨v2, h_v2, h⟩ := bndp_s h
  refine callS_i (rest := []) C0 hml hE (c_M_isPlace l D g (σ := s1) i_p1 h_v2) kw_X8_134 ⟨Nat.le_of_ble_eq_true rfl, Nat.le_of_ble_eq_true rfl⟩ rfl hl.1 rfl (Nat.le_of_ble_eq_true rfl) dX8_same_6 ⟨Nat.zero_le _, Nat.zero_le _⟩ (fun H locs hE i_v2 => ?_)
  refine x_if_eq C0 i_v2 dX8_same_9 (tgt := 19) (by decide) (fun c9 => ?_) (fun c9 => ?_)
  · have h := ite_t c9 h
    refine lv_iconst (v := I (-1)) C0.1 C0.2.1 dX8_same_19 rfl ?_
    exact ret_i (wf := wM g) C0 hr hlk hE h lit_m1 hR dX8_same_20
  · have h := ite_f c9 h
    refine lv_iload_n C0.1 C0.2.1 dX8_same_12 rfl (lv_at hl 2 rfl) ?_
    obtain ⟨v3, h_v3, h⟩ := bndp_s h
    refine callS_i (rest := []) C0 hml hE (c_M_isPlace l D g (σ := s1) i_p2 h_v3) kw_X8_134 ⟨Nat.le_of_ble_eq_true rfl, Nat.le_of_ble_eq_true rfl⟩ rfl hl.1 rfl (Nat.le_of_ble_eq_true rfl) dX8_same_13 ⟨Nat.zero_le _, Nat.zero_le _⟩ (fun H locs hE i_v3 => ?_)
    refine x_if_ne C0 i_v3 dX8_same_16 (tgt := 21) (by decide) (fun c9 => ?_) (fun c9 => ?_)
    · have h := ite_f c9 h
      refine lv_aload_n C0.1 C0.2.1 dX8_same_21 rfl (lv_at hl 0 rfl) ?_
      refine M_g_sizes C0 hE fk_X8_16 dX8_same_22 ?_
      refine lv_iload_n C0.1 C0.2.1 dX8_same_25 rfl (lv_at hl 1 rfl) ?_
      obtain ⟨v4, e_v4, i_v4, h⟩ := rd_s hR h
      refine M_sizes_l C0 hE i_p1 e_v4 dX8_same_26 ?_
      refine lv_aload_n C0.1 C0.2.1 dX8_same_27 rfl (lv_at hl 0 rfl) ?_
      refine M_g_sizes C0 hE fk_X8_16 dX8_same_28 ?_
      refine lv_iload_n C0.1 C0.2.1 dX8_same_31 rfl (lv_at hl 2 rfl) ?_
      obtain ⟨v5, e_v5, i_v5, h⟩ := rd_s hR h
      refine M_sizes_l C0 hE i_p2 e_v5 dX8_same_32 ?_
      obtain ⟨v6, e_v6, i_v6, h⟩ := opure_s h (imin_in i_v4 i_v5)
      refine x_min C0 kw_X8_229 (hml.trans hl.1.symm) i_v4 i_v5 e_v6 ⟨Nat.le_of_ble_eq_true rfl, Nat.le_of_ble_eq_true rfl⟩ ⟨Nat.zero_le _, Nat.zero_le _⟩ dX8_same_33 ?_
      refine lv_istore_n (lv' := [(3, .int (I v6)), (0, .ref (g.2 100)), (1, .int (I p1)), (2, .int (I p2))]) C0.1 C0.2.1 dX8_same_36 rfl hl (by decide) rfl (fun ls hl => ?_)
      refine lv_iconst (v := I 0) C0.1 C0.2.1 dX8_same_37 rfl ?_
      refine lv_istore (lv' := [(4, .int (I 0)), (3, .int (I v6)), (0, .ref (g.2 100)), (1, .int (I p1)), (2, .int (I p2))]) C0.1 C0.2.1 dX8_same_38 hl (by decide) rfl (fun ls hl => ?_)
      obtain ⟨k8, e_k8, h⟩ := jn_s h
      have h_k8 : ∀ (x7 : Int) (i_x7 : in32 x7) (H : Heap) (locs : List Loc) (ls : Array Slot), EW D (va_A (wM g σ) sz) s.heap (wM g s1) H locs → lv_has ls 8 [(0, .ref (g.2 100)), (1, .int (I p1)), (2, .int (I p2)), (4, .int (I x7))] → k8 x7 = some (r, σr) → W p l e (rmk 4) s m args below meth c H locs 0 0 (MQ below (QCi D (wM g σr) r (in32 r ∧ R32 σr) (va_A (wM g σ) sz)) args s 0 0 (va_A (wM g σ) sz)) (F0 m 69 ls []) := by
        intro x7 i_x7 H locs ls hE hl h
        have h := (congrFun e_k8 x7).symm.trans h
        refine lv_iload C0.1 C0.2.1 dX8_same_69 (lv_at hl 3 rfl) ?_
        refine lv_aload_n C0.1 C0.2.1 dX8_same_71 rfl (lv_at hl 0 rfl) ?_
        refine M_g_sizes C0 hE fk_X8_16 dX8_same_72 ?_
        refine lv_iload_n C0.1 C0.2.1 dX8_same_75 rfl (lv_at hl 1 rfl) ?_
        obtain ⟨v9, e_v9, i_v9, h⟩ := rd_s hR h
        refine M_sizes_l C0 hE i_p1 e_v9 dX8_same_76 ?_
        obtain ⟨k11, e_k11, h⟩ := jn_s h
        have h_k11 : ∀ (x10 : Int) (i_x10 : in32 x10) (H : Heap) (locs : List Loc) (ls : Array Slot), EW D (va_A (wM g σ) sz) s.heap (wM g s1) H locs → lv_has ls 8 [(0, .ref (g.2 100)), (1, .int (I p1)), (2, .int (I p2)), (4, .int (I x7))] → k11 x10 = some (r, σr) → W p l e (rmk 4) s m args below meth c H locs 0 0 (MQ below (QCi D (wM g σr) r (in32 r ∧ R32 σr) (va_A (wM g σ) sz)) args s 0 0 (va_A (wM g σ) sz)) (F0 m 96 ls [.int (I x10)]) := by
          intro x10 i_x10 H locs ls hE hl h
          have h := (congrFun e_k11 x10).symm.trans h
          refine lv_istore (lv' := [(5, .int (I x10)), (0, .ref (g.2 100)), (1, .int (I p1)), (2, .int (I p2)), (4, .int (I x7))]) C0.1 C0.2.1 dX8_same_96 hl (by decide) rfl (fun ls hl => ?_)
          refine lv_iconst (v := I 0) C0.1 C0.2.1 dX8_same_98 rfl ?_
          refine lv_istore (lv' := [(6, .int (I 0)), (5, .int (I x10)), (0, .ref (g.2 100)), (1, .int (I p1)), (2, .int (I p2)), (4, .int (I x7))]) C0.1 C0.2.1 dX8_same_99 hl (by decide) rfl (fun ls hl => ?_)
          refine lv_iconst (v := I 0) C0.1 C0.2.1 dX8_same_101 rfl ?_
          refine lv_istore (lv' := [(7, .int (I 0)), (6, .int (I 0)), (5, .int (I x10)), (0, .ref (g.2 100)), (1, .int (I p1)), (2, .int (I p2)), (4, .int (I x7))]) C0.1 C0.2.1 dX8_same_102 hl (by decide) rfl (fun ls hl => ?_)
          obtain ⟨k13, e_k13, h⟩ := jn_s h
          have h_k13 : ∀ (x12 : Int) (i_x12 : in32 x12) (H : Heap) (locs : List Loc) (ls : Array Slot), EW D (va_A (wM g σ) sz) s.heap (wM g s1) H locs → lv_has ls 8 [(0, .ref (g.2 100)), (4, .int (I x7)), (5, .int (I x10)), (6, .int (I x12))] → k13 x12 = some (r, σr) → W p l e (rmk 4) s m args below meth c H locs 0 0 (MQ below (QCi D (wM g σr) r (in32 r ∧ R32 σr) (va_A (wM g σ) sz)) args s 0 0 (va_A (wM g σ) sz)) (F0 m 162 ls []) := by
            intro x12 i_x12 H locs ls hE hl h
            have h := (congrFun e_k13 x12).symm.trans h
            refine lv_aload_n C0.1 C0.2.1 dX8_same_162 rfl (lv_at hl 0 rfl) ?_
            refine lv_iconst (v := I 0) C0.1 C0.2.1 dX8_same_163 rfl ?_
            obtain ⟨s14, e_s14, hR, h⟩ := pf_s hR lit_0 h
            refine M_p_rowMany C0 hE e_s14 fk_X8_59 dX8_same_164 (fun H locs hE => ?_)
            refine lv_aload_n C0.1 C0.2.1 dX8_same_167 rfl (lv_at hl 0 rfl) ?_
            refine lv_iload C0.1 C0.2.1 dX8_same_168 (lv_at hl 2 rfl) ?_
            obtain ⟨k16, e_k16, h⟩ := jn_s h
            have h_k16 : ∀ (x15 : Int) (i_x15 : in64 x15) (H : Heap) (locs : List Loc) (ls : Array Slot), EW D (va_A (wM g σ) sz) s.heap (wM g s14) H locs → lv_has ls 8 [(0, .ref (g.2 100)), (5, .int (I x10)), (6, .int (I x12))] → k16 x15 = some (r, σr) → W p l e (rmk 4) s m args below meth c H locs 0 0 (MQ below (QCi D (wM g σr) r (in32 r ∧ R32 σr) (va_A (wM g σ) sz)) args s 0 0 (va_A (wM g σ) sz)) (F0 m 182 ls [.long (J x15), .ref (g.2 100)]) := by
              intro x15 i_x15 H locs ls hE hl h
              have h := (congrFun e_k16 x15).symm.trans h
              obtain ⟨v17, s18, h_v17, h⟩ := bnd_s h
              refine callV_v (rest := []) C0 hml hE (M_rec C0 hE) (c_M_tell l D g hR i_x15 h_v17) kw_X8_150 ⟨Nat.le_of_ble_eq_true rfl, Nat.le_of_ble_eq_true rfl⟩ rfl hl.1 rfl (Nat.le_of_ble_eq_true rfl) dX8_same_182 ⟨Nat.zero_le _, Nat.zero_le _⟩ (fun H locs hE hR => ?_)
              refine lv_aload_n C0.1 C0.2.1 dX8_same_185 rfl (lv_at hl 0 rfl) ?_
              refine lv_iload C0.1 C0.2.1 dX8_same_186 (lv_at hl 2 rfl) ?_
              refine x_i2l C0 i_x12 dX8_same_188 ?_
              obtain ⟨v19, s20, h_v19, h⟩ := bnd_s h
              refine callV_v (rest := []) C0 hml hE (M_rec C0 hE) (c_M_tell l D g hR (in64_of i_x12) h_v19) kw_X8_150 ⟨Nat.le_of_ble_eq_true rfl, Nat.le_of_ble_eq_true rfl⟩ rfl hl.1 rfl (Nat.le_of_ble_eq_true rfl) dX8_same_189 ⟨Nat.zero_le _, Nat.zero_le _⟩ (fun H locs hE hR => ?_)
              refine lv_iload C0.1 C0.2.1 dX8_same_192 (lv_at hl 1 rfl) ?_
              obtain ⟨v21, e_v21, i_v21, h⟩ := oif_s h
              have kk_v21 : W p l e (rmk 4) s m args below meth c H locs 0 0 (MQ below (QCi D (wM g σr) r (in32 r ∧ R32 σr) (va_A (wM g σ) sz)) args s 0 0 (va_A (wM g σ) sz)) (F0 m 202 ls [.int (I v21)]) := by
                exact ret_i (wf := wM g) C0 hr hlk hE h i_v21 hR dX8_same_202
              refine x_if_eq C0 i_x10 dX8_same_194 (tgt := 201) (by decide) (fun c9 => ?_) (fun c9 => ?_)
              · have e9 := e_v21.trans (if_pos c9)
                refine lv_iconst (v := I 0) C0.1 C0.2.1 dX8_same_201 rfl ?_
                rw [e9] at kk_v21; exact kk_v21
              · have e9 := e_v21.trans (if_neg c9)
                refine lv_iconst (v := I 1) C0.1 C0.2.1 dX8_same_197 rfl ?_
                refine x_goto C0 dX8_same_198 (tgt := 202) (by decide) ?_
                rw [e9] at kk_v21; exact kk_v21
            refine x_if_eq C0 i_x10 dX8_same_170 (tgt := 179) (by decide) (fun c9 => ?_) (fun c9 => ?_)
            · have h := ite_t c9 h
              refine lv_iload C0.1 C0.2.1 dX8_same_179 (lv_at hl 1 rfl) ?_
              refine x_i2l C0 i_x7 dX8_same_181 ?_
              exact h_k16 x7 (in64_of i_x7) _ _ _ hE (lv_sub hl [0, 2, 3] rfl) h
            · have h := ite_f c9 h
              refine x_ldc2 (v := (-1)) C0 ck_X8_320 (by decide +kernel) dX8_same_173 ?_
              refine x_goto C0 dX8_same_176 (tgt := 182) (by decide) ?_
              exact h_k16 (-1) (by decide) _ _ _ hE (lv_sub hl [0, 2, 3] rfl) h
          have hL104 : ∀ (n : Nat) (x22 : Int) (i_x22 : in32 x22) (x23 : Int) (i_x23 : in32 x23) (H : Heap) (locs : List Loc) (ls : Array Slot), EW D (va_A (wM g σ) sz) s.heap (wM g s1) H locs → lv_has ls 8 [(0, .ref (g.2 100)), (1, .int (I p1)), (2, .int (I p2)), (4, .int (I x7)), (5, .int (I x10)), (6, .int (I x22)), (7, .int (I x23))] → M_same_L104 k13 s1 p1 p2 n x22 x23 = some (r, σr) → W p l e (rmk 4) s m args below meth c H locs 0 0 (MQ below (QCi D (wM g σr) r (in32 r ∧ R32 σr) (va_A (wM g σ) sz)) args s 0 0 (va_A (wM g σ) sz)) (F0 m 104 ls []) := by
            intro n
            induction n with
            | zero => intros; rename_i h; cases h
            | succ n ih24 =>
              intro x22 i_x22 x23 i_x23 H locs ls hE hl h
              unfold M_same_L104 at h
              refine lv_iload C0.1 C0.2.1 dX8_same_104 (lv_at hl 6 rfl) ?_
              refine lv_aload_n C0.1 C0.2.1 dX8_same_106 rfl (lv_at hl 0 rfl) ?_
              refine M_g_sizes C0 hE fk_X8_16 dX8_same_107 ?_
              refine lv_iload_n C0.1 C0.2.1 dX8_same_110 rfl (lv_at hl 1 rfl) ?_
              obtain ⟨v25, e_v25, i_v25, h⟩ := rd_s hR h
              refine M_sizes_l C0 hE i_p1 e_v25 dX8_same_111 ?_
              refine x_icmp_ge C0 i_x23 i_v25 dX8_same_112 (tgt := 162) (by decide) (fun c9 => ?_) (fun c9 => ?_)
              · have h := ite_f c9 h
                exact h_k13 x22 i_x22 _ _ _ hE (lv_sub hl [0, 3, 4, 5] rfl) h
              · have h := ite_t c9 h
                refine lv_iload C0.1 C0.2.1 dX8_same_115 (lv_at hl 5 rfl) ?_
                refine lv_aload_n C0.1 C0.2.1 dX8_same_117 rfl (lv_at hl 0 rfl) ?_
                refine lv_iload_n C0.1 C0.2.1 dX8_same_118 rfl (lv_at hl 1 rfl) ?_
                refine lv_iload C0.1 C0.2.1 dX8_same_119 (lv_at hl 6 rfl) ?_
                obtain ⟨v26, h_v26, h⟩ := bndp_s h
                refine callV_i (rest := [.int (I x22)]) C0 hml hE (M_rec C0 hE) (c_M_isFirst l D g hR i_p1 i_x23 h_v26) kw_X8_311 ⟨Nat.le_of_ble_eq_true rfl, Nat.le_of_ble_eq_true rfl⟩ rfl hl.1 rfl (Nat.le_of_ble_eq_true rfl) dX8_same_121 ⟨Nat.zero_le _, Nat.zero_le _⟩ (fun H locs hE i_v26 => ?_)
                obtain ⟨k28, e_k28, h⟩ := jn_s h
                have h_k28 : ∀ (x27 : Int) (i_x27 : in32 x27) (H : Heap) (locs : List Loc) (ls : Array Slot), EW D (va_A (wM g σ) sz) s.heap (wM g s1) H locs → lv_has ls 8 [(0, .ref (g.2 100)), (1, .int (I p1)), (2, .int (I p2)), (4, .int (I x7)), (5, .int (I x10)), (7, .int (I x23))] → k28 x27 = some (r, σr) → W p l e (rmk 4) s m args below meth c H locs 0 0 (MQ below (QCi D (wM g σr) r (in32 r ∧ R32 σr) (va_A (wM g σ) sz)) args s 0 0 (va_A (wM g σ) sz)) (F0 m 153 ls [.int (I x27), .int (I x22)]) := by
                  intro x27 i_x27 H locs ls hE hl h
                  have h := (congrFun e_k28 x27).symm.trans h
                  obtain ⟨v29, e_v29, i_v29, h⟩ := oadd_s h
                  refine x_add C0 e_v29 dX8_same_153 ?_
                  refine lv_istore (lv' := [(6, .int (I v29)), (0, .ref (g.2 100)), (1, .int (I p1)), (2, .int (I p2)), (4, .int (I x7)), (5, .int (I x10)), (7, .int (I x23))]) C0.1 C0.2.1 dX8_same_154 hl (by decide) rfl (fun ls hl => ?_)
                  obtain ⟨v30, e_v30, i_v30, h⟩ := oadd_s h
                  refine x_iinc (lv' := [(7, .int (I v30)), (6, .int (I v29)), (0, .ref (g.2 100)), (1, .int (I p1)), (2, .int (I p2)), (4, .int (I x7)), (5, .int (I x10))]) C0 dX8_same_156 hl (k := 6) rfl e_v30 (by decide) rfl (fun ls hl => ?_)
                  refine x_goto C0 dX8_same_159 (tgt := 104) (by decide) ?_
                  exact ih24 v29 i_v29 v30 i_v30 _ _ _ hE (lv_sub hl [2, 3, 4, 5, 6, 1, 0] rfl) h
                obtain ⟨k31, e_k31, h⟩ := jn_s h
                have h_k31 : ∀ (H : Heap) (locs : List Loc) (ls : Array Slot), EW D (va_A (wM g σ) sz) s.heap (wM g s1) H locs → lv_has ls 8 [(0, .ref (g.2 100)), (1, .int (I p1)), (2, .int (I p2)), (4, .int (I x7)), (5, .int (I x10)), (7, .int (I x23))] → k31 = some (r, σr) → W p l e (rmk 4) s m args below meth c H locs 0 0 (MQ below (QCi D (wM g σr) r (in32 r ∧ R32 σr) (va_A (wM g σ) sz)) args s 0 0 (va_A (wM g σ) sz)) (F0 m 152 ls [.int (I x22)]) := by
                  intro H locs ls hE hl h
                  have h := e_k31.symm.trans h
                  refine lv_iconst (v := I 0) C0.1 C0.2.1 dX8_same_152 rfl ?_
                  exact h_k28 0 lit_0 _ _ _ hE (lv_sub hl [0, 1, 2, 3, 4, 5] rfl) h
                refine x_if_eq C0 i_v26 dX8_same_124 (tgt := 152) (by decide) (fun c9 => ?_) (fun c9 => ?_)
                · have h := ite_t c9 h
                  exact h_k31 _ _ _ hE (lv_sub hl [0, 1, 2, 3, 4, 6] rfl) h
                · have h := ite_f c9 h
                  refine lv_aload_n C0.1 C0.2.1 dX8_same_127 rfl (lv_at hl 0 rfl) ?_
                  refine lv_iload_n C0.1 C0.2.1 dX8_same_128 rfl (lv_at hl 2 rfl) ?_
                  refine lv_aload_n C0.1 C0.2.1 dX8_same_129 rfl (lv_at hl 0 rfl) ?_
                  refine lv_iload_n C0.1 C0.2.1 dX8_same_130 rfl (lv_at hl 1 rfl) ?_
                  refine lv_iload C0.1 C0.2.1 dX8_same_131 (lv_at hl 6 rfl) ?_
                  obtain ⟨v32, h_v32, h⟩ := bndp_s h
                  refine callV_i (rest := [.int (I p2), .ref (g.2 100), .int (I x22)]) C0 hml hE (M_rec C0 hE) (c_M_node l D g hR i_p1 i_x23 h_v32) kw_X8_308 ⟨Nat.le_of_ble_eq_true rfl, Nat.le_of_ble_eq_true rfl⟩ rfl hl.1 rfl (Nat.le_of_ble_eq_true rfl) dX8_same_133 ⟨Nat.zero_le _, Nat.zero_le _⟩ (fun H locs hE i_v32 => ?_)
                  refine lv_aload_n C0.1 C0.2.1 dX8_same_136 rfl (lv_at hl 0 rfl) ?_
                  refine M_g_sizes C0 hE fk_X8_16 dX8_same_137 ?_
                  refine lv_iload_n C0.1 C0.2.1 dX8_same_140 rfl (lv_at hl 2 rfl) ?_
                  obtain ⟨v33, e_v33, i_v33, h⟩ := rd_s hR h
                  refine M_sizes_l C0 hE i_p2 e_v33 dX8_same_141 ?_
                  obtain ⟨v34, h_v34, h⟩ := bndp_s h
                  refine callV_i (rest := [.int (I x22)]) C0 hml hE (M_rec C0 hE) (c_M_hasNode l D g hR i_p2 i_v32 i_v33 h_v34) kw_X8_317 ⟨Nat.le_of_ble_eq_true rfl, Nat.le_of_ble_eq_true rfl⟩ rfl hl.1 rfl (Nat.le_of_ble_eq_true rfl) dX8_same_142 ⟨Nat.zero_le _, Nat.zero_le _⟩ (fun H locs hE i_v34 => ?_)
                  refine x_if_eq C0 i_v34 dX8_same_145 (tgt := 152) (by decide) (fun c9 => ?_) (fun c9 => ?_)
                  · have h := ite_t c9 h
                    exact h_k31 _ _ _ hE (lv_sub hl [0, 1, 2, 3, 4, 6] rfl) h
                  · have h := ite_f c9 h
                    refine lv_iconst (v := I 1) C0.1 C0.2.1 dX8_same_148 rfl ?_
                    refine x_goto C0 dX8_same_149 (tgt := 153) (by decide) ?_
                    exact h_k28 1 lit_1 _ _ _ hE (lv_sub hl [0, 1, 2, 3, 4, 6] rfl) h
          exact hL104 FU 0 lit_0 0 lit_0 _ _ _ hE (lv_sub hl [3, 4, 5, 6, 2, 1, 0] rfl) h
        obtain ⟨k35, e_k35, h⟩ := jn_s h
        have h_k35 : ∀ (H : Heap) (locs : List Loc) (ls : Array Slot), EW D (va_A (wM g σ) sz) s.heap (wM g s1) H locs → lv_has ls 8 [(0, .ref (g.2 100)), (1, .int (I p1)), (2, .int (I p2)), (4, .int (I x7))] → k35 = some (r, σr) → W p l e (rmk 4) s m args below meth c H locs 0 0 (MQ below (QCi D (wM g σr) r (in32 r ∧ R32 σr) (va_A (wM g σ) sz)) args s 0 0 (va_A (wM g σ) sz)) (F0 m 95 ls []) := by
          intro H locs ls hE hl h
          have h := e_k35.symm.trans h
          refine lv_iconst (v := I 0) C0.1 C0.2.1 dX8_same_95 rfl ?_
          exact h_k11 0 lit_0 _ _ _ hE (lv_sub hl [0, 1, 2, 3] rfl) h
        refine x_icmp_ne C0 i_x7 i_v9 dX8_same_77 (tgt := 95) (by decide) (fun c9 => ?_) (fun c9 => ?_)
        · have h := ite_f c9 h
          exact h_k35 _ _ _ hE (lv_sub hl [0, 1, 2, 3] rfl) h
        · have h := ite_t c9 h
          refine lv_iload C0.1 C0.2.1 dX8_same_80 (lv_at hl 3 rfl) ?_
          refine lv_aload_n C0.1 C0.2.1 dX8_same_82 rfl (lv_at hl 0 rfl) ?_
          refine M_g_sizes C0 hE fk_X8_16 dX8_same_83 ?_
          refine lv_iload_n C0.1 C0.2.1 dX8_same_86 rfl (lv_at hl 2 rfl) ?_
          obtain ⟨v36, e_v36, i_v36, h⟩ := rd_s hR h
          refine M_sizes_l C0 hE i_p2 e_v36 dX8_same_87 ?_
          refine x_icmp_ne C0 i_x7 i_v36 dX8_same_88 (tgt := 95) (by decide) (fun c9 => ?_) (fun c9 => ?_)
          · have h := ite_f c9 h
            exact h_k35 _ _ _ hE (lv_sub hl [0, 1, 2, 3] rfl) h
          · have h := ite_t c9 h
            refine lv_iconst (v := I 1) C0.1 C0.2.1 dX8_same_91 rfl ?_
            refine x_goto C0 dX8_same_92 (tgt := 96) (by decide) ?_
            exact h_k11 1 lit_1 _ _ _ hE (lv_sub hl [0, 1, 2, 3] rfl) h
      have hL40 : ∀ (n : Nat) (x37 : Int) (i_x37 : in32 x37) (H : Heap) (locs : List Loc) (ls : Array Slot), EW D (va_A (wM g σ) sz) s.heap (wM g s1) H locs → lv_has ls 8 [(0, .ref (g.2 100)), (1, .int (I p1)), (2, .int (I p2)), (3, .int (I v6)), (4, .int (I x37))] → M_same_L40 k8 s1 p1 p2 v6 n x37 = some (r, σr) → W p l e (rmk 4) s m args below meth c H locs 0 0 (MQ below (QCi D (wM g σr) r (in32 r ∧ R32 σr) (va_A (wM g σ) sz)) args s 0 0 (va_A (wM g σ) sz)) (F0 m 40 ls []) := by
        intro n
        induction n with
        | zero => intros; rename_i h; cases h
        | succ n ih38 =>
          intro x37 i_x37 H locs ls hE hl h
          unfold M_same_L40 at h
          refine lv_iload C0.1 C0.2.1 dX8_same_40 (lv_at hl 4 rfl) ?_
          refine lv_iload_n C0.1 C0.2.1 dX8_same_42 rfl (lv_at hl 3 rfl) ?_
          refine x_icmp_ge C0 i_x37 i_v6 dX8_same_43 (tgt := 69) (by decide) (fun c9 => ?_) (fun c9 => ?_)
          · have h := ite_f c9 h
            exact h_k8 x37 i_x37 _ _ _ hE (lv_sub hl [0, 1, 2, 4] rfl) h
          · have h := ite_t c9 h
            refine lv_aload_n C0.1 C0.2.1 dX8_same_46 rfl (lv_at hl 0 rfl) ?_
            refine lv_iload_n C0.1 C0.2.1 dX8_same_47 rfl (lv_at hl 1 rfl) ?_
            refine lv_iload C0.1 C0.2.1 dX8_same_48 (lv_at hl 4 rfl) ?_
            obtain ⟨v39, h_v39, h⟩ := bndp_s h
            refine callV_i (rest := []) C0 hml hE (M_rec C0 hE) (c_M_number l D g hR i_p1 i_x37 h_v39) kw_X8_99 ⟨Nat.le_of_ble_eq_true rfl, Nat.le_of_ble_eq_true rfl⟩ rfl hl.1 rfl (Nat.le_of_ble_eq_true rfl) dX8_same_50 ⟨Nat.zero_le _, Nat.zero_le _⟩ (fun H locs hE i_v39 => ?_)
            refine lv_aload_n C0.1 C0.2.1 dX8_same_53 rfl (lv_at hl 0 rfl) ?_
            refine lv_iload_n C0.1 C0.2.1 dX8_same_54 rfl (lv_at hl 2 rfl) ?_
            refine lv_iload C0.1 C0.2.1 dX8_same_55 (lv_at hl 4 rfl) ?_
            obtain ⟨v40, h_v40, h⟩ := bndp_s h
            refine callV_i (rest := [.int (I v39)]) C0 hml hE (M_rec C0 hE) (c_M_number l D g hR i_p2 i_x37 h_v40) kw_X8_99 ⟨Nat.le_of_ble_eq_true rfl, Nat.le_of_ble_eq_true rfl⟩ rfl hl.1 rfl (Nat.le_of_ble_eq_true rfl) dX8_same_57 ⟨Nat.zero_le _, Nat.zero_le _⟩ (fun H locs hE i_v40 => ?_)
            refine x_icmp_ne C0 i_v39 i_v40 dX8_same_60 (tgt := 69) (by decide) (fun c9 => ?_) (fun c9 => ?_)
            · have h := ite_f c9 h
              exact h_k8 x37 i_x37 _ _ _ hE (lv_sub hl [0, 1, 2, 4] rfl) h
            · have h := ite_t c9 h
              obtain ⟨v41, e_v41, i_v41, h⟩ := oadd_s h
              refine x_iinc (lv' := [(4, .int (I v41)), (0, .ref (g.2 100)), (1, .int (I p1)), (2, .int (I p2)), (3, .int (I v6))]) C0 dX8_same_63 hl (k := 4) rfl e_v41 (by decide) rfl (fun ls hl => ?_)
              refine x_goto C0 dX8_same_66 (tgt := 40) (by decide) ?_
              exact ih38 v41 i_v41 _ _ _ hE (lv_sub hl [1, 2, 3, 4, 0] rfl) h
      exact hL40 FU 0 lit_0 _ _ _ hE (lv_sub hl [2, 3, 4, 1, 0] rfl) h
    · have h := ite_t c9 h
      refine lv_iconst (v := I (-1)) C0.1 C0.2.1 dX8_same_19 rfl ?_
      exact ret_i (wf := wM g) C0 hr hlk hE h lit_m1 hR dX8_same_20
set_option maxRecDepth 100000 in
set_option maxHeartbeats 4000000 in
theorem c_M_isAhead (l : Launch) (D : va_G) (g : Ad) {σ : St} {p1 p2 r : Int} (hR : R32 σ) (i_p1 : in32 p1) (i_p2 : in32 p2) (h : M_isAhead σ p1 p2 = some r) : CtI l D g yX8_isAhead cX8_isAhead 4 (some .boolean) 3 (wM g σ) (wM g σ) [.ref (g.2 100), .int (I p1), .int (I p2)] r (in32 r) := by
  intro sz
  refine met_of (by decide) (Nat.le_of_ble_eq_true rfl) (fun p e s m args below meth c ls H locs C0 hml hr hlk hE hl => ?_)
  have C0 : CX p c cX8_isAhead m s args D g RX8 := C0
  have hl : lv_has ls 4 [(0, .ref (g.2 100)), (1, .int (I p1)), (2, .int (I p2))] := hl
  unfold M_isAhead at h
  refine lv_iconst (v := I 0) C0.1 C0.2.1 dX8_isAhead_0 rfl ?_
  refine lv_istore_n (lv' := [(3, .int (I 0)), (0, .ref (g.2 100)), (1, .int (I p1)), (2, .int (I p2))]) C0.1 C0.2.1 dX8_isAhead_1 rfl hl (by decide) rfl (fun ls hl => ?_)
  have hL2 : ∀ (n : Nat) (x1 : Int) (i_x1 : in32 x1) (H : Heap) (locs : List Loc) (ls : Array Slot), EW D (va_A (wM g σ) sz) s.heap (wM g σ) H locs → lv_has ls 4 [(0, .ref (g.2 100)), (1, .int (I p1)), (2, .int (I p2)), (3, .int (I x1))] → M_isAhead_L2 σ p1 p2 n x1 = some r → W p l e (rmk 3) s m args below meth c H locs 0 0 (MQ below (QCi D (wM g σ) r (in32 r) (va_A (wM g σ) sz)) args s 0 0 (va_A (wM g σ) sz)) (F0 m 2 ls []) := by
    intro n
    induction n with
    | zero => intros; rename_i h; cases h
    | succ n ih2 =>
      intro x1 i_x1 H locs ls hE hl h
      unfold M_isAhead_L2 at h
      refine lv_iload_n C0.1 C0.2.1 dX8_isAhead_2 rfl (lv_at hl 3 rfl) ?_
      refine lv_iload_n C0.1 C0.2.1 dX8_isAhead_3 rfl (lv_at hl 2 rfl) ?_
      refine x_icmp_ge C0 i_x1 i_p2 dX8_isAhead_4 (tgt := 30) (by decide) (fun c9 => ?_) (fun c9 => ?_)
      · have h := ite_f c9 h
        refine lv_iconst (v := I 0) C0.1 C0.2.1 dX8_isAhead_30 rfl ?_
        exact pret_z C0 hr hlk hE (Or.inl rfl) h dX8_isAhead_31
      · have h := ite_t c9 h
        refine lv_aload_n C0.1 C0.2.1 dX8_isAhead_7 rfl (lv_at hl 0 rfl) ?_
        refine lv_iload_n C0.1 C0.2.1 dX8_isAhead_8 rfl (lv_at hl 3 rfl) ?_
        refine lv_iload_n C0.1 C0.2.1 dX8_isAhead_9 rfl (lv_at hl 1 rfl) ?_
        refine lv_aload_n C0.1 C0.2.1 dX8_isAhead_10 rfl (lv_at hl 0 rfl) ?_
        refine M_g_sizes C0 hE fk_X8_16 dX8_isAhead_11 ?_
        refine lv_iload_n C0.1 C0.2.1 dX8_isAhead_14 rfl (lv_at hl 3 rfl) ?_
        obtain ⟨v3, e_v3, i_v3, h⟩ := rd_s hR h
        refine M_sizes_l C0 hE i_x1 e_v3 dX8_isAhead_15 ?_
        obtain ⟨v4, h_v4, h⟩ := bndp_s h
        refine callV_i (rest := []) C0 hml hE (M_rec C0 hE) (c_M_hasNode l D g hR i_x1 i_p1 i_v3 h_v4) kw_X8_317 ⟨Nat.le_of_ble_eq_true rfl, Nat.le_of_ble_eq_true rfl⟩ rfl hl.1 rfl (Nat.le_of_ble_eq_true rfl) dX8_isAhead_16 ⟨Nat.zero_le _, Nat.zero_le _⟩ (fun H locs hE i_v4 => ?_)
        refine x_if_eq C0 i_v4 dX8_isAhead_19 (tgt := 24) (by decide) (fun c9 => ?_) (fun c9 => ?_)
        · have h := ite_t c9 h
          obtain ⟨v5, e_v5, i_v5, h⟩ := oadd_s h
          refine x_iinc (lv' := [(3, .int (I v5)), (0, .ref (g.2 100)), (1, .int (I p1)), (2, .int (I p2))]) C0 dX8_isAhead_24 hl (k := 3) rfl e_v5 (by decide) rfl (fun ls hl => ?_)
          refine x_goto C0 dX8_isAhead_27 (tgt := 2) (by decide) ?_
          exact ih2 v5 i_v5 _ _ _ hE (lv_sub hl [1, 2, 3, 0] rfl) h
        · have h := ite_f c9 h
          refine lv_iconst (v := I 1) C0.1 C0.2.1 dX8_isAhead_22 rfl ?_
          exact pret_z C0 hr hlk hE (Or.inr rfl) h dX8_isAhead_23
  exact hL2 FU 0 lit_0 _ _ _ hE (lv_sub hl [1, 2, 3, 0] rfl) h
set_option maxRecDepth 100000 in
set_option maxHeartbeats 4000000 in
theorem c_M_placesOf (l : Launch) (D : va_G) (g : Ad) {σ : St} {p1 p2 r : Int} (hR : R32 σ) (i_p1 : in32 p1) (i_p2 : in32 p2) (h : M_placesOf σ p1 p2 = some r) : CtI l D g yX8_placesOf cX8_placesOf 5 (some .int) 3 (wM g σ) (wM g σ) [.ref (g.2 100), .int (I p1), .int (I p2)] r (in32 r) := by
  intro sz
  refine met_of (by decide) (Nat.le_of_ble_eq_true rfl) (fun p e s m args below meth c ls H locs C0 hml hr hlk hE hl => ?_)
  have C0 : CX p c cX8_placesOf m s args D g RX8 := C0
  have hl : lv_has ls 5 [(0, .ref (g.2 100)), (1, .int (I p1)), (2, .int (I p2))] := hl
  unfold M_placesOf at h
  refine lv_iconst (v := I 0) C0.1 C0.2.1 dX8_placesOf_0 rfl ?_
  refine lv_istore_n (lv' := [(3, .int (I 0)), (0, .ref (g.2 100)), (1, .int (I p1)), (2, .int (I p2))]) C0.1 C0.2.1 dX8_placesOf_1 rfl hl (by decide) rfl (fun ls hl => ?_)
  refine lv_iload_n C0.1 C0.2.1 dX8_placesOf_2 rfl (lv_at hl 3 rfl) ?_
  refine lv_istore (lv' := [(4, .int (I p2)), (3, .int (I 0)), (0, .ref (g.2 100)), (1, .int (I p1)), (2, .int (I p2))]) C0.1 C0.2.1 dX8_placesOf_3 hl (by decide) rfl (fun ls hl => ?_)
  have hL5 : ∀ (n : Nat) (x1 : Int) (i_x1 : in32 x1) (x2 : Int) (i_x2 : in32 x2) (H : Heap) (locs : List Loc) (ls : Array Slot), EW D (va_A (wM g σ) sz) s.heap (wM g σ) H locs → lv_has ls 5 [(0, .ref (g.2 100)), (1, .int (I p1)), (3, .int (I x1)), (4, .int (I x2))] → M_placesOf_L5 σ p1 n x1 x2 = some r → W p l e (rmk 3) s m args below meth c H locs 0 0 (MQ below (QCi D (wM g σ) r (in32 r) (va_A (wM g σ) sz)) args s 0 0 (va_A (wM g σ) sz)) (F0 m 5 ls []) := by
    intro n
    induction n with
    | zero => intros; rename_i h; cases h
    | succ n ih3 =>
      intro x1 i_x1 x2 i_x2 H locs ls hE hl h
      unfold M_placesOf_L5 at h
      refine lv_iload C0.1 C0.2.1 dX8_placesOf_5 (lv_at hl 3 rfl) ?_
      refine lv_bipush (v := I 6) C0.1 C0.2.1 dX8_placesOf_7 (by decide +kernel) ?_
      refine x_icmp_ge C0 i_x2 lit_6 dX8_placesOf_9 (tgt := 43) (by decide) (fun c9 => ?_) (fun c9 => ?_)
      · have h := ite_f c9 h
        refine lv_iload_n C0.1 C0.2.1 dX8_placesOf_43 rfl (lv_at hl 2 rfl) ?_
        exact pret_i C0 hr hlk hE h i_x1 dX8_placesOf_44
      · have h := ite_t c9 h
        refine lv_iload_n C0.1 C0.2.1 dX8_placesOf_12 rfl (lv_at hl 2 rfl) ?_
        refine lv_aload_n C0.1 C0.2.1 dX8_placesOf_13 rfl (lv_at hl 0 rfl) ?_
        refine lv_iload C0.1 C0.2.1 dX8_placesOf_14 (lv_at hl 3 rfl) ?_
        refine lv_iload_n C0.1 C0.2.1 dX8_placesOf_16 rfl (lv_at hl 1 rfl) ?_
        refine lv_aload_n C0.1 C0.2.1 dX8_placesOf_17 rfl (lv_at hl 0 rfl) ?_
        refine M_g_sizes C0 hE fk_X8_16 dX8_placesOf_18 ?_
        refine lv_iload C0.1 C0.2.1 dX8_placesOf_21 (lv_at hl 3 rfl) ?_
        obtain ⟨v4, e_v4, i_v4, h⟩ := rd_s hR h
        refine M_sizes_l C0 hE i_x2 e_v4 dX8_placesOf_23 ?_
        obtain ⟨v5, h_v5, h⟩ := bndp_s h
        refine callV_i (rest := [.int (I x1)]) C0 hml hE (M_rec C0 hE) (c_M_hasNode l D g hR i_x2 i_p1 i_v4 h_v5) kw_X8_317 ⟨Nat.le_of_ble_eq_true rfl, Nat.le_of_ble_eq_true rfl⟩ rfl hl.1 rfl (Nat.le_of_ble_eq_true rfl) dX8_placesOf_24 ⟨Nat.zero_le _, Nat.zero_le _⟩ (fun H locs hE i_v5 => ?_)
        obtain ⟨v6, e_v6, i_v6, h⟩ := oif_s h
        have kk_v6 : W p l e (rmk 3) s m args below meth c H locs 0 0 (MQ below (QCi D (wM g σ) r (in32 r) (va_A (wM g σ) sz)) args s 0 0 (va_A (wM g σ) sz)) (F0 m 35 ls [.int (I v6), .int (I x1)]) := by
          obtain ⟨v7, e_v7, i_v7, h⟩ := oadd_s h
          refine x_add C0 e_v7 dX8_placesOf_35 ?_
          refine lv_istore_n (lv' := [(3, .int (I v7)), (0, .ref (g.2 100)), (1, .int (I p1)), (4, .int (I x2))]) C0.1 C0.2.1 dX8_placesOf_36 rfl hl (by decide) rfl (fun ls hl => ?_)
          obtain ⟨v8, e_v8, i_v8, h⟩ := oadd_s h
          refine x_iinc (lv' := [(4, .int (I v8)), (3, .int (I v7)), (0, .ref (g.2 100)), (1, .int (I p1))]) C0 dX8_placesOf_37 hl (k := 3) rfl e_v8 (by decide) rfl (fun ls hl => ?_)
          refine x_goto C0 dX8_placesOf_40 (tgt := 5) (by decide) ?_
          exact ih3 v7 i_v7 v8 i_v8 _ _ _ hE (lv_sub hl [2, 3, 1, 0] rfl) h
        refine x_if_eq C0 i_v5 dX8_placesOf_27 (tgt := 34) (by decide) (fun c9 => ?_) (fun c9 => ?_)
        · have e9 := e_v6.trans (if_pos c9)
          refine lv_iconst (v := I 0) C0.1 C0.2.1 dX8_placesOf_34 rfl ?_
          rw [e9] at kk_v6; exact kk_v6
        · have e9 := e_v6.trans (if_neg c9)
          refine lv_iconst (v := I 1) C0.1 C0.2.1 dX8_placesOf_30 rfl ?_
          refine x_goto C0 dX8_placesOf_31 (tgt := 35) (by decide) ?_
          rw [e9] at kk_v6; exact kk_v6
  exact hL5 FU 0 lit_0 p2 i_p2 _ _ _ hE (lv_sub hl [2, 3, 1, 0] rfl) h
set_option maxRecDepth 100000 in
set_option maxHeartbeats 4000000 in
theorem c_M_nodes (l : Launch) (D : va_G) (g : Ad) {σ σr : St} {r : Int} (hR : R32 σ) (h : M_nodes σ = some (r, σr)) : CtI l D g yX8_nodes cX8_nodes 6 (some .int) 4 (wM g σ) (wM g σr) [.ref (g.2 100)] r (in32 r ∧ R32 σr) := by
  intro sz
  refine met_of (by decide) (Nat.le_of_ble_eq_true rfl) (fun p e s m args below meth c ls H locs C0 hml hr hlk hE hl => ?_)
  have C0 : CX p c cX8_nodes m s args D g RX8 := C0
  have hl : lv_has ls 6 [(0, .ref (g.2 100))] := hl
  unfold M_nodes at h
  refine lv_aload_n C0.1 C0.2.1 dX8_nodes_0 rfl (lv_at hl 0 rfl) ?_
  refine lv_iconst (v := I 0) C0.1 C0.2.1 dX8_nodes_1 rfl ?_
  obtain ⟨s1, e_s1, hR, h⟩ := pf_s hR lit_0 h
  refine M_p_thrown C0 hE e_s1 fk_X8_55 dX8_nodes_2 (fun H locs hE => ?_)
  refine lv_iconst (v := I 0) C0.1 C0.2.1 dX8_nodes_5 rfl ?_
  refine lv_istore_n (lv' := [(1, .int (I 0)), (0, .ref (g.2 100))]) C0.1 C0.2.1 dX8_nodes_6 rfl hl (by decide) rfl (fun ls hl => ?_)
  refine lv_iconst (v := I 0) C0.1 C0.2.1 dX8_nodes_7 rfl ?_
  refine lv_istore_n (lv' := [(2, .int (I 0)), (1, .int (I 0)), (0, .ref (g.2 100))]) C0.1 C0.2.1 dX8_nodes_8 rfl hl (by decide) rfl (fun ls hl => ?_)
  refine lv_iconst (v := I 0) C0.1 C0.2.1 dX8_nodes_9 rfl ?_
  refine lv_istore_n (lv' := [(3, .int (I 0)), (2, .int (I 0)), (1, .int (I 0)), (0, .ref (g.2 100))]) C0.1 C0.2.1 dX8_nodes_10 rfl hl (by decide) rfl (fun ls hl => ?_)
  refine lv_iconst (v := I 0) C0.1 C0.2.1 dX8_nodes_11 rfl ?_
  refine lv_istore (lv' := [(4, .int (I 0)), (3, .int (I 0)), (2, .int (I 0)), (1, .int (I 0)), (0, .ref (g.2 100))]) C0.1 C0.2.1 dX8_nodes_12 hl (by decide) rfl (fun ls hl => ?_)
  obtain ⟨k5, e_k5, h⟩ := jn_s h
  have h_k5 : ∀ (x2 : Int) (i_x2 : in32 x2) (x3 : Int) (i_x3 : in32 x3) (x4 : Int) (i_x4 : in32 x4) (H : Heap) (locs : List Loc) (ls : Array Slot), EW D (va_A (wM g σ) sz) s.heap (wM g s1) H locs → lv_has ls 6 [(0, .ref (g.2 100)), (1, .int (I x2)), (2, .int (I x3)), (3, .int (I x4))] → k5 x2 x3 x4 = some (r, σr) → W p l e (rmk 4) s m args below meth c H locs 0 0 (MQ below (QCi D (wM g σr) r (in32 r ∧ R32 σr) (va_A (wM g σ) sz)) args s 0 0 (va_A (wM g σ) sz)) (F0 m 118 ls []) := by
    intro x2 i_x2 x3 i_x3 x4 i_x4 H locs ls hE hl h
    have h := (congrFun (congrFun (congrFun e_k5 x2) x3) x4).symm.trans h
    refine lv_aload_n C0.1 C0.2.1 dX8_nodes_118 rfl (lv_at hl 0 rfl) ?_
    refine lv_iconst (v := I 0) C0.1 C0.2.1 dX8_nodes_119 rfl ?_
    obtain ⟨s6, e_s6, hR, h⟩ := pf_s hR lit_0 h
    refine M_p_rowMany C0 hE e_s6 fk_X8_59 dX8_nodes_120 (fun H locs hE => ?_)
    refine lv_aload_n C0.1 C0.2.1 dX8_nodes_123 rfl (lv_at hl 0 rfl) ?_
    refine lv_iload_n C0.1 C0.2.1 dX8_nodes_124 rfl (lv_at hl 2 rfl) ?_
    refine x_i2l C0 i_x3 dX8_nodes_125 ?_
    obtain ⟨v7, s8, h_v7, h⟩ := bnd_s h
    refine callV_v (rest := []) C0 hml hE (M_rec C0 hE) (c_M_tell l D g hR (in64_of i_x3) h_v7) kw_X8_150 ⟨Nat.le_of_ble_eq_true rfl, Nat.le_of_ble_eq_true rfl⟩ rfl hl.1 rfl (Nat.le_of_ble_eq_true rfl) dX8_nodes_126 ⟨Nat.zero_le _, Nat.zero_le _⟩ (fun H locs hE hR => ?_)
    refine lv_aload_n C0.1 C0.2.1 dX8_nodes_129 rfl (lv_at hl 0 rfl) ?_
    refine lv_iload_n C0.1 C0.2.1 dX8_nodes_130 rfl (lv_at hl 3 rfl) ?_
    refine x_i2l C0 i_x4 dX8_nodes_131 ?_
    obtain ⟨v9, s10, h_v9, h⟩ := bnd_s h
    refine callV_v (rest := []) C0 hml hE (M_rec C0 hE) (c_M_tell l D g hR (in64_of i_x4) h_v9) kw_X8_150 ⟨Nat.le_of_ble_eq_true rfl, Nat.le_of_ble_eq_true rfl⟩ rfl hl.1 rfl (Nat.le_of_ble_eq_true rfl) dX8_nodes_132 ⟨Nat.zero_le _, Nat.zero_le _⟩ (fun H locs hE hR => ?_)
    refine lv_iload_n C0.1 C0.2.1 dX8_nodes_135 rfl (lv_at hl 1 rfl) ?_
    exact ret_i (wf := wM g) C0 hr hlk hE h i_x2 hR dX8_nodes_136
  have hL14 : ∀ (n : Nat) (x11 : Int) (i_x11 : in32 x11) (x12 : Int) (i_x12 : in32 x12) (x13 : Int) (i_x13 : in32 x13) (x14 : Int) (i_x14 : in32 x14) (H : Heap) (locs : List Loc) (ls : Array Slot), EW D (va_A (wM g σ) sz) s.heap (wM g s1) H locs → lv_has ls 6 [(0, .ref (g.2 100)), (1, .int (I x11)), (2, .int (I x12)), (3, .int (I x13)), (4, .int (I x14))] → M_nodes_L14 k5 s1 n x11 x12 x13 x14 = some (r, σr) → W p l e (rmk 4) s m args below meth c H locs 0 0 (MQ below (QCi D (wM g σr) r (in32 r ∧ R32 σr) (va_A (wM g σ) sz)) args s 0 0 (va_A (wM g σ) sz)) (F0 m 14 ls []) := by
    intro n
    induction n with
    | zero => intros; rename_i h; cases h
    | succ n ih15 =>
      intro x11 i_x11 x12 i_x12 x13 i_x13 x14 i_x14 H locs ls hE hl h
      unfold M_nodes_L14 at h
      refine lv_iload C0.1 C0.2.1 dX8_nodes_14 (lv_at hl 4 rfl) ?_
      refine lv_bipush (v := I 6) C0.1 C0.2.1 dX8_nodes_16 (by decide +kernel) ?_
      refine x_icmp_ge C0 i_x14 lit_6 dX8_nodes_18 (tgt := 118) (by decide) (fun c9 => ?_) (fun c9 => ?_)
      · have h := ite_f c9 h
        exact h_k5 x11 i_x11 x12 i_x12 x13 i_x13 _ _ _ hE (lv_sub hl [0, 1, 2, 3] rfl) h
      · have h := ite_t c9 h
        refine lv_iload_n C0.1 C0.2.1 dX8_nodes_21 rfl (lv_at hl 3 rfl) ?_
        refine lv_aload_n C0.1 C0.2.1 dX8_nodes_22 rfl (lv_at hl 0 rfl) ?_
        refine M_g_sizes C0 hE fk_X8_16 dX8_nodes_23 ?_
        refine lv_iload C0.1 C0.2.1 dX8_nodes_26 (lv_at hl 4 rfl) ?_
        obtain ⟨v16, e_v16, i_v16, h⟩ := rd_s hR h
        refine M_sizes_l C0 hE i_x14 e_v16 dX8_nodes_28 ?_
        obtain ⟨v17, e_v17, i_v17, h⟩ := oadd_s h
        refine x_add C0 e_v17 dX8_nodes_29 ?_
        refine lv_istore_n (lv' := [(3, .int (I v17)), (0, .ref (g.2 100)), (1, .int (I x11)), (2, .int (I x12)), (4, .int (I x14))]) C0.1 C0.2.1 dX8_nodes_30 rfl hl (by decide) rfl (fun ls hl => ?_)
        refine lv_iconst (v := I 0) C0.1 C0.2.1 dX8_nodes_31 rfl ?_
        refine lv_istore (lv' := [(5, .int (I 0)), (3, .int (I v17)), (0, .ref (g.2 100)), (1, .int (I x11)), (2, .int (I x12)), (4, .int (I x14))]) C0.1 C0.2.1 dX8_nodes_32 hl (by decide) rfl (fun ls hl => ?_)
        obtain ⟨k20, e_k20, h⟩ := jn_s h
        have h_k20 : ∀ (x18 : Int) (i_x18 : in32 x18) (x19 : Int) (i_x19 : in32 x19) (H : Heap) (locs : List Loc) (ls : Array Slot), EW D (va_A (wM g σ) sz) s.heap (wM g s1) H locs → lv_has ls 6 [(0, .ref (g.2 100)), (1, .int (I x18)), (2, .int (I x19)), (3, .int (I v17)), (4, .int (I x14))] → k20 x18 x19 = some (r, σr) → W p l e (rmk 4) s m args below meth c H locs 0 0 (MQ below (QCi D (wM g σr) r (in32 r ∧ R32 σr) (va_A (wM g σ) sz)) args s 0 0 (va_A (wM g σ) sz)) (F0 m 112 ls []) := by
          intro x18 i_x18 x19 i_x19 H locs ls hE hl h
          have h := (congrFun (congrFun e_k20 x18) x19).symm.trans h
          obtain ⟨v21, e_v21, i_v21, h⟩ := oadd_s h
          refine x_iinc (lv' := [(4, .int (I v21)), (0, .ref (g.2 100)), (1, .int (I x18)), (2, .int (I x19)), (3, .int (I v17))]) C0 dX8_nodes_112 hl (k := 4) rfl e_v21 (by decide) rfl (fun ls hl => ?_)
          refine x_goto C0 dX8_nodes_115 (tgt := 14) (by decide) ?_
          exact ih15 x18 i_x18 x19 i_x19 v17 i_v17 v21 i_v21 _ _ _ hE (lv_sub hl [1, 2, 3, 4, 0] rfl) h
        have hL34 : ∀ (n : Nat) (x22 : Int) (i_x22 : in32 x22) (x23 : Int) (i_x23 : in32 x23) (x24 : Int) (i_x24 : in32 x24) (H : Heap) (locs : List Loc) (ls : Array Slot), EW D (va_A (wM g σ) sz) s.heap (wM g s1) H locs → lv_has ls 6 [(0, .ref (g.2 100)), (1, .int (I x22)), (2, .int (I x23)), (3, .int (I v17)), (4, .int (I x14)), (5, .int (I x24))] → M_nodes_L34 k20 s1 x14 n x22 x23 x24 = some (r, σr) → W p l e (rmk 4) s m args below meth c H locs 0 0 (MQ below (QCi D (wM g σr) r (in32 r ∧ R32 σr) (va_A (wM g σ) sz)) args s 0 0 (va_A (wM g σ) sz)) (F0 m 34 ls []) := by
          intro n
          induction n with
          | zero => intros; rename_i h; cases h
          | succ n ih25 =>
            intro x22 i_x22 x23 i_x23 x24 i_x24 H locs ls hE hl h
            unfold M_nodes_L34 at h
            refine lv_iload C0.1 C0.2.1 dX8_nodes_34 (lv_at hl 5 rfl) ?_
            refine lv_aload_n C0.1 C0.2.1 dX8_nodes_36 rfl (lv_at hl 0 rfl) ?_
            refine M_g_sizes C0 hE fk_X8_16 dX8_nodes_37 ?_
            refine lv_iload C0.1 C0.2.1 dX8_nodes_40 (lv_at hl 4 rfl) ?_
            obtain ⟨v26, e_v26, i_v26, h⟩ := rd_s hR h
            refine M_sizes_l C0 hE i_x14 e_v26 dX8_nodes_42 ?_
            refine x_icmp_ge C0 i_x24 i_v26 dX8_nodes_43 (tgt := 112) (by decide) (fun c9 => ?_) (fun c9 => ?_)
            · have h := ite_f c9 h
              exact h_k20 x22 i_x22 x23 i_x23 _ _ _ hE (lv_sub hl [0, 1, 2, 3, 4] rfl) h
            · have h := ite_t c9 h
              refine lv_aload_n C0.1 C0.2.1 dX8_nodes_46 rfl (lv_at hl 0 rfl) ?_
              refine lv_iload C0.1 C0.2.1 dX8_nodes_47 (lv_at hl 4 rfl) ?_
              refine lv_iload C0.1 C0.2.1 dX8_nodes_49 (lv_at hl 5 rfl) ?_
              obtain ⟨v27, h_v27, h⟩ := bndp_s h
              refine callV_i (rest := []) C0 hml hE (M_rec C0 hE) (c_M_isFirst l D g hR i_x14 i_x24 h_v27) kw_X8_311 ⟨Nat.le_of_ble_eq_true rfl, Nat.le_of_ble_eq_true rfl⟩ rfl hl.1 rfl (Nat.le_of_ble_eq_true rfl) dX8_nodes_51 ⟨Nat.zero_le _, Nat.zero_le _⟩ (fun H locs hE i_v27 => ?_)
              obtain ⟨k30, e_k30, h⟩ := jn_s h
              have h_k30 : ∀ (x28 : Int) (i_x28 : in32 x28) (x29 : Int) (i_x29 : in32 x29) (H : Heap) (locs : List Loc) (ls : Array Slot), EW D (va_A (wM g σ) sz) s.heap (wM g s1) H locs → lv_has ls 6 [(0, .ref (g.2 100)), (1, .int (I x28)), (2, .int (I x29)), (3, .int (I v17)), (4, .int (I x14)), (5, .int (I x24))] → k30 x28 x29 = some (r, σr) → W p l e (rmk 4) s m args below meth c H locs 0 0 (MQ below (QCi D (wM g σr) r (in32 r ∧ R32 σr) (va_A (wM g σ) sz)) args s 0 0 (va_A (wM g σ) sz)) (F0 m 106 ls []) := by
                intro x28 i_x28 x29 i_x29 H locs ls hE hl h
                have h := (congrFun (congrFun e_k30 x28) x29).symm.trans h
                obtain ⟨v31, e_v31, i_v31, h⟩ := oadd_s h
                refine x_iinc (lv' := [(5, .int (I v31)), (0, .ref (g.2 100)), (1, .int (I x28)), (2, .int (I x29)), (3, .int (I v17)), (4, .int (I x14))]) C0 dX8_nodes_106 hl (k := 5) rfl e_v31 (by decide) rfl (fun ls hl => ?_)
                refine x_goto C0 dX8_nodes_109 (tgt := 34) (by decide) ?_
                exact ih25 x28 i_x28 x29 i_x29 v31 i_v31 _ _ _ hE (lv_sub hl [1, 2, 3, 4, 5, 0] rfl) h
              refine x_if_eq C0 i_v27 dX8_nodes_54 (tgt := 106) (by decide) (fun c9 => ?_) (fun c9 => ?_)
              · have h := ite_t c9 h
                exact h_k30 x22 i_x22 x23 i_x23 _ _ _ hE (lv_sub hl [0, 1, 2, 3, 4, 5] rfl) h
              · have h := ite_f c9 h
                refine lv_aload_n C0.1 C0.2.1 dX8_nodes_57 rfl (lv_at hl 0 rfl) ?_
                refine lv_aload_n C0.1 C0.2.1 dX8_nodes_58 rfl (lv_at hl 0 rfl) ?_
                refine lv_iload C0.1 C0.2.1 dX8_nodes_59 (lv_at hl 4 rfl) ?_
                refine lv_iload C0.1 C0.2.1 dX8_nodes_61 (lv_at hl 5 rfl) ?_
                obtain ⟨v32, h_v32, h⟩ := bndp_s h
                refine callV_i (rest := [.ref (g.2 100)]) C0 hml hE (M_rec C0 hE) (c_M_node l D g hR i_x14 i_x24 h_v32) kw_X8_308 ⟨Nat.le_of_ble_eq_true rfl, Nat.le_of_ble_eq_true rfl⟩ rfl hl.1 rfl (Nat.le_of_ble_eq_true rfl) dX8_nodes_63 ⟨Nat.zero_le _, Nat.zero_le _⟩ (fun H locs hE i_v32 => ?_)
                refine lv_iload C0.1 C0.2.1 dX8_nodes_66 (lv_at hl 4 rfl) ?_
                obtain ⟨v33, h_v33, h⟩ := bndp_s h
                refine callV_i (rest := []) C0 hml hE (M_rec C0 hE) (c_M_isAhead l D g hR i_v32 i_x14 h_v33) kw_X8_322 ⟨Nat.le_of_ble_eq_true rfl, Nat.le_of_ble_eq_true rfl⟩ rfl hl.1 rfl (Nat.le_of_ble_eq_true rfl) dX8_nodes_68 ⟨Nat.zero_le _, Nat.zero_le _⟩ (fun H locs hE i_v33 => ?_)
                refine x_if_eq C0 i_v33 dX8_nodes_71 (tgt := 77) (by decide) (fun c9 => ?_) (fun c9 => ?_)
                · have h := ite_t c9 h
                  obtain ⟨v34, e_v34, i_v34, h⟩ := oadd_s h
                  refine x_iinc (lv' := [(1, .int (I v34)), (0, .ref (g.2 100)), (2, .int (I x23)), (3, .int (I v17)), (4, .int (I x14)), (5, .int (I x24))]) C0 dX8_nodes_77 hl (k := 1) rfl e_v34 (by decide) rfl (fun ls hl => ?_)
                  refine lv_iload_n C0.1 C0.2.1 dX8_nodes_80 rfl (lv_at hl 2 rfl) ?_
                  refine lv_aload_n C0.1 C0.2.1 dX8_nodes_81 rfl (lv_at hl 1 rfl) ?_
                  refine lv_aload_n C0.1 C0.2.1 dX8_nodes_82 rfl (lv_at hl 1 rfl) ?_
                  refine lv_iload C0.1 C0.2.1 dX8_nodes_83 (lv_at hl 4 rfl) ?_
                  refine lv_iload C0.1 C0.2.1 dX8_nodes_85 (lv_at hl 5 rfl) ?_
                  obtain ⟨v35, h_v35, h⟩ := bndp_s h
                  refine callV_i (rest := [.ref (g.2 100), .int (I x23)]) C0 hml hE (M_rec C0 hE) (c_M_node l D g hR i_x14 i_x24 h_v35) kw_X8_308 ⟨Nat.le_of_ble_eq_true rfl, Nat.le_of_ble_eq_true rfl⟩ rfl hl.1 rfl (Nat.le_of_ble_eq_true rfl) dX8_nodes_87 ⟨Nat.zero_le _, Nat.zero_le _⟩ (fun H locs hE i_v35 => ?_)
                  refine lv_iload C0.1 C0.2.1 dX8_nodes_90 (lv_at hl 4 rfl) ?_
                  obtain ⟨v36, h_v36, h⟩ := bndp_s h
                  refine callV_i (rest := [.int (I x23)]) C0 hml hE (M_rec C0 hE) (c_M_placesOf l D g hR i_v35 i_x14 h_v36) kw_X8_325 ⟨Nat.le_of_ble_eq_true rfl, Nat.le_of_ble_eq_true rfl⟩ rfl hl.1 rfl (Nat.le_of_ble_eq_true rfl) dX8_nodes_92 ⟨Nat.zero_le _, Nat.zero_le _⟩ (fun H locs hE i_v36 => ?_)
                  refine lv_iconst (v := I 1) C0.1 C0.2.1 dX8_nodes_95 rfl ?_
                  obtain ⟨v37, e_v37, i_v37, h⟩ := oif_s h
                  have kk_v37 : W p l e (rmk 4) s m args below meth c H locs 0 0 (MQ below (QCi D (wM g σr) r (in32 r ∧ R32 σr) (va_A (wM g σ) sz)) args s 0 0 (va_A (wM g σ) sz)) (F0 m 104 ls [.int (I v37), .int (I x23)]) := by
                    obtain ⟨v38, e_v38, i_v38, h⟩ := oadd_s h
                    refine x_add C0 e_v38 dX8_nodes_104 ?_
                    refine lv_istore_n (lv' := [(2, .int (I v38)), (1, .int (I v34)), (0, .ref (g.2 100)), (3, .int (I v17)), (4, .int (I x14)), (5, .int (I x24))]) C0.1 C0.2.1 dX8_nodes_105 rfl hl (by decide) rfl (fun ls hl => ?_)
                    exact h_k30 v34 i_v34 v38 i_v38 _ _ _ hE (lv_sub hl [2, 1, 0, 3, 4, 5] rfl) h
                  refine x_icmp_le C0 i_v36 lit_1 dX8_nodes_96 (tgt := 103) (by decide) (fun c9 => ?_) (fun c9 => ?_)
                  · have e9 := e_v37.trans (if_neg c9)
                    refine lv_iconst (v := I 0) C0.1 C0.2.1 dX8_nodes_103 rfl ?_
                    rw [e9] at kk_v37; exact kk_v37
                  · have e9 := e_v37.trans (if_pos c9)
                    refine lv_iconst (v := I 1) C0.1 C0.2.1 dX8_nodes_99 rfl ?_
                    refine x_goto C0 dX8_nodes_100 (tgt := 104) (by decide) ?_
                    rw [e9] at kk_v37; exact kk_v37
                · have h := ite_f c9 h
                  refine x_goto C0 dX8_nodes_74 (tgt := 106) (by decide) ?_
                  exact h_k30 x22 i_x22 x23 i_x23 _ _ _ hE (lv_sub hl [0, 1, 2, 3, 4, 5] rfl) h
        exact hL34 FU x11 i_x11 x12 i_x12 0 lit_0 _ _ _ hE (lv_sub hl [2, 3, 4, 1, 5, 0] rfl) h
  exact hL14 FU 0 lit_0 0 lit_0 0 lit_0 0 lit_0 _ _ _ hE (lv_sub hl [4, 3, 2, 1, 0] rfl) h
set_option maxRecDepth 100000 in
set_option maxHeartbeats 4000000 in
theorem c_M_own (l : Launch) (D : va_G) (g : Ad) {σ σr : St} {p1 r : Int} (hR : R32 σ) (i_p1 : in32 p1) (h : M_own σ p1 = some (r, σr)) : CtI l D g yX8_own cX8_own 5 (some .int) 4 (wM g σ) (wM g σr) [.ref (g.2 100), .int (I p1)] r (in32 r ∧ R32 σr) := by
  intro sz
  refine met_of (by decide) (Nat.le_of_ble_eq_true rfl) (fun p e s m args below meth c ls H locs C0 hml hr hlk hE hl => ?_)
  have C0 : CX p c cX8_own m s args D g RX8 := C0
  have hl : lv_has ls 5 [(0, .ref (g.2 100)), (1, .int (I p1))] := hl
  unfold M_own at h
  refine lv_aload_n C0.1 C0.2.1 dX8_own_0 rfl (lv_at hl 0 rfl) ?_
  refine lv_iconst (v := I 0) C0.1 C0.2.1 dX8_own_1 rfl ?_
  obtain ⟨s1, e_s1, hR, h⟩ := pf_s hR lit_0 h
  refine M_p_thrown C0 hE e_s1 fk_X8_55 dX8_own_2 (fun H locs hE => ?_)
  refine lv_iload_n C0.1 C0.2.1 dX8_own_5 rfl (lv_at hl 1 rfl) ?_
  obtain ⟨v2, h_v2, h⟩ := bndp_s h
  refine callS_i (rest := []) C0 hml hE (c_M_isPlace l D g (σ := s1) i_p1 h_v2) kw_X8_134 ⟨Nat.le_of_ble_eq_true rfl, Nat.le_of_ble_eq_true rfl⟩ rfl hl.1 rfl (Nat.le_of_ble_eq_true rfl) dX8_own_6 ⟨Nat.zero_le _, Nat.zero_le _⟩ (fun H locs hE i_v2 => ?_)
  refine x_if_ne C0 i_v2 dX8_own_9 (tgt := 14) (by decide) (fun c9 => ?_) (fun c9 => ?_)
  · have h := ite_f c9 h
    refine lv_iconst (v := I 0) C0.1 C0.2.1 dX8_own_14 rfl ?_
    refine lv_istore_n (lv' := [(2, .int (I 0)), (0, .ref (g.2 100)), (1, .int (I p1))]) C0.1 C0.2.1 dX8_own_15 rfl hl (by decide) rfl (fun ls hl => ?_)
    refine lv_iconst (v := I 0) C0.1 C0.2.1 dX8_own_16 rfl ?_
    refine lv_istore_n (lv' := [(3, .int (I 0)), (2, .int (I 0)), (0, .ref (g.2 100)), (1, .int (I p1))]) C0.1 C0.2.1 dX8_own_17 rfl hl (by decide) rfl (fun ls hl => ?_)
    refine lv_iconst (v := I 0) C0.1 C0.2.1 dX8_own_18 rfl ?_
    refine lv_istore (lv' := [(4, .int (I 0)), (3, .int (I 0)), (2, .int (I 0)), (0, .ref (g.2 100)), (1, .int (I p1))]) C0.1 C0.2.1 dX8_own_19 hl (by decide) rfl (fun ls hl => ?_)
    obtain ⟨k5, e_k5, h⟩ := jn_s h
    have h_k5 : ∀ (x3 : Int) (i_x3 : in32 x3) (x4 : Int) (i_x4 : in32 x4) (H : Heap) (locs : List Loc) (ls : Array Slot), EW D (va_A (wM g σ) sz) s.heap (wM g s1) H locs → lv_has ls 5 [(0, .ref (g.2 100)), (2, .int (I x3)), (3, .int (I x4))] → k5 x3 x4 = some (r, σr) → W p l e (rmk 4) s m args below meth c H locs 0 0 (MQ below (QCi D (wM g σr) r (in32 r ∧ R32 σr) (va_A (wM g σ) sz)) args s 0 0 (va_A (wM g σ) sz)) (F0 m 78 ls []) := by
      intro x3 i_x3 x4 i_x4 H locs ls hE hl h
      have h := (congrFun (congrFun e_k5 x3) x4).symm.trans h
      refine lv_aload_n C0.1 C0.2.1 dX8_own_78 rfl (lv_at hl 0 rfl) ?_
      refine lv_iconst (v := I 0) C0.1 C0.2.1 dX8_own_79 rfl ?_
      obtain ⟨s6, e_s6, hR, h⟩ := pf_s hR lit_0 h
      refine M_p_rowMany C0 hE e_s6 fk_X8_59 dX8_own_80 (fun H locs hE => ?_)
      refine lv_aload_n C0.1 C0.2.1 dX8_own_83 rfl (lv_at hl 0 rfl) ?_
      refine lv_iload_n C0.1 C0.2.1 dX8_own_84 rfl (lv_at hl 2 rfl) ?_
      refine x_i2l C0 i_x4 dX8_own_85 ?_
      obtain ⟨v7, s8, h_v7, h⟩ := bnd_s h
      refine callV_v (rest := []) C0 hml hE (M_rec C0 hE) (c_M_tell l D g hR (in64_of i_x4) h_v7) kw_X8_150 ⟨Nat.le_of_ble_eq_true rfl, Nat.le_of_ble_eq_true rfl⟩ rfl hl.1 rfl (Nat.le_of_ble_eq_true rfl) dX8_own_86 ⟨Nat.zero_le _, Nat.zero_le _⟩ (fun H locs hE hR => ?_)
      refine lv_iload_n C0.1 C0.2.1 dX8_own_89 rfl (lv_at hl 1 rfl) ?_
      exact ret_i (wf := wM g) C0 hr hlk hE h i_x3 hR dX8_own_90
    have hL21 : ∀ (n : Nat) (x9 : Int) (i_x9 : in32 x9) (x10 : Int) (i_x10 : in32 x10) (x11 : Int) (i_x11 : in32 x11) (H : Heap) (locs : List Loc) (ls : Array Slot), EW D (va_A (wM g σ) sz) s.heap (wM g s1) H locs → lv_has ls 5 [(0, .ref (g.2 100)), (1, .int (I p1)), (2, .int (I x9)), (3, .int (I x10)), (4, .int (I x11))] → M_own_L21 k5 s1 p1 n x9 x10 x11 = some (r, σr) → W p l e (rmk 4) s m args below meth c H locs 0 0 (MQ below (QCi D (wM g σr) r (in32 r ∧ R32 σr) (va_A (wM g σ) sz)) args s 0 0 (va_A (wM g σ) sz)) (F0 m 21 ls []) := by
      intro n
      induction n with
      | zero => intros; rename_i h; cases h
      | succ n ih12 =>
        intro x9 i_x9 x10 i_x10 x11 i_x11 H locs ls hE hl h
        unfold M_own_L21 at h
        refine lv_iload C0.1 C0.2.1 dX8_own_21 (lv_at hl 4 rfl) ?_
        refine lv_aload_n C0.1 C0.2.1 dX8_own_23 rfl (lv_at hl 0 rfl) ?_
        refine M_g_sizes C0 hE fk_X8_16 dX8_own_24 ?_
        refine lv_iload_n C0.1 C0.2.1 dX8_own_27 rfl (lv_at hl 1 rfl) ?_
        obtain ⟨v13, e_v13, i_v13, h⟩ := rd_s hR h
        refine M_sizes_l C0 hE i_p1 e_v13 dX8_own_28 ?_
        refine x_icmp_ge C0 i_x11 i_v13 dX8_own_29 (tgt := 78) (by decide) (fun c9 => ?_) (fun c9 => ?_)
        · have h := ite_f c9 h
          exact h_k5 x9 i_x9 x10 i_x10 _ _ _ hE (lv_sub hl [0, 2, 3] rfl) h
        · have h := ite_t c9 h
          refine lv_aload_n C0.1 C0.2.1 dX8_own_32 rfl (lv_at hl 0 rfl) ?_
          refine lv_iload_n C0.1 C0.2.1 dX8_own_33 rfl (lv_at hl 1 rfl) ?_
          refine lv_iload C0.1 C0.2.1 dX8_own_34 (lv_at hl 4 rfl) ?_
          obtain ⟨v14, h_v14, h⟩ := bndp_s h
          refine callV_i (rest := []) C0 hml hE (M_rec C0 hE) (c_M_isFirst l D g hR i_p1 i_x11 h_v14) kw_X8_311 ⟨Nat.le_of_ble_eq_true rfl, Nat.le_of_ble_eq_true rfl⟩ rfl hl.1 rfl (Nat.le_of_ble_eq_true rfl) dX8_own_36 ⟨Nat.zero_le _, Nat.zero_le _⟩ (fun H locs hE i_v14 => ?_)
          obtain ⟨k17, e_k17, h⟩ := jn_s h
          have h_k17 : ∀ (x15 : Int) (i_x15 : in32 x15) (x16 : Int) (i_x16 : in32 x16) (H : Heap) (locs : List Loc) (ls : Array Slot), EW D (va_A (wM g σ) sz) s.heap (wM g s1) H locs → lv_has ls 5 [(0, .ref (g.2 100)), (1, .int (I p1)), (2, .int (I x15)), (3, .int (I x16)), (4, .int (I x11))] → k17 x15 x16 = some (r, σr) → W p l e (rmk 4) s m args below meth c H locs 0 0 (MQ below (QCi D (wM g σr) r (in32 r ∧ R32 σr) (va_A (wM g σ) sz)) args s 0 0 (va_A (wM g σ) sz)) (F0 m 72 ls []) := by
            intro x15 i_x15 x16 i_x16 H locs ls hE hl h
            have h := (congrFun (congrFun e_k17 x15) x16).symm.trans h
            obtain ⟨v18, e_v18, i_v18, h⟩ := oadd_s h
            refine x_iinc (lv' := [(4, .int (I v18)), (0, .ref (g.2 100)), (1, .int (I p1)), (2, .int (I x15)), (3, .int (I x16))]) C0 dX8_own_72 hl (k := 4) rfl e_v18 (by decide) rfl (fun ls hl => ?_)
            refine x_goto C0 dX8_own_75 (tgt := 21) (by decide) ?_
            exact ih12 x15 i_x15 x16 i_x16 v18 i_v18 _ _ _ hE (lv_sub hl [1, 2, 3, 4, 0] rfl) h
          refine x_if_ne C0 i_v14 dX8_own_39 (tgt := 45) (by decide) (fun c9 => ?_) (fun c9 => ?_)
          · have h := ite_f c9 h
            obtain ⟨v19, e_v19, i_v19, h⟩ := oadd_s h
            refine x_iinc (lv' := [(2, .int (I v19)), (0, .ref (g.2 100)), (1, .int (I p1)), (3, .int (I x10)), (4, .int (I x11))]) C0 dX8_own_45 hl (k := 2) rfl e_v19 (by decide) rfl (fun ls hl => ?_)
            refine lv_iload_n C0.1 C0.2.1 dX8_own_48 rfl (lv_at hl 3 rfl) ?_
            refine lv_aload_n C0.1 C0.2.1 dX8_own_49 rfl (lv_at hl 1 rfl) ?_
            refine lv_aload_n C0.1 C0.2.1 dX8_own_50 rfl (lv_at hl 1 rfl) ?_
            refine lv_iload_n C0.1 C0.2.1 dX8_own_51 rfl (lv_at hl 2 rfl) ?_
            refine lv_iload C0.1 C0.2.1 dX8_own_52 (lv_at hl 4 rfl) ?_
            obtain ⟨v20, h_v20, h⟩ := bndp_s h
            refine callV_i (rest := [.ref (g.2 100), .int (I x10)]) C0 hml hE (M_rec C0 hE) (c_M_node l D g hR i_p1 i_x11 h_v20) kw_X8_308 ⟨Nat.le_of_ble_eq_true rfl, Nat.le_of_ble_eq_true rfl⟩ rfl hl.1 rfl (Nat.le_of_ble_eq_true rfl) dX8_own_54 ⟨Nat.zero_le _, Nat.zero_le _⟩ (fun H locs hE i_v20 => ?_)
            refine lv_iconst (v := I 0) C0.1 C0.2.1 dX8_own_57 rfl ?_
            obtain ⟨v21, h_v21, h⟩ := bndp_s h
            refine callV_i (rest := [.int (I x10)]) C0 hml hE (M_rec C0 hE) (c_M_placesOf l D g hR i_v20 lit_0 h_v21) kw_X8_325 ⟨Nat.le_of_ble_eq_true rfl, Nat.le_of_ble_eq_true rfl⟩ rfl hl.1 rfl (Nat.le_of_ble_eq_true rfl) dX8_own_58 ⟨Nat.zero_le _, Nat.zero_le _⟩ (fun H locs hE i_v21 => ?_)
            refine lv_iconst (v := I 1) C0.1 C0.2.1 dX8_own_61 rfl ?_
            obtain ⟨v22, e_v22, i_v22, h⟩ := oif_s h
            have kk_v22 : W p l e (rmk 4) s m args below meth c H locs 0 0 (MQ below (QCi D (wM g σr) r (in32 r ∧ R32 σr) (va_A (wM g σ) sz)) args s 0 0 (va_A (wM g σ) sz)) (F0 m 70 ls [.int (I v22), .int (I x10)]) := by
              obtain ⟨v23, e_v23, i_v23, h⟩ := oadd_s h
              refine x_add C0 e_v23 dX8_own_70 ?_
              refine lv_istore_n (lv' := [(3, .int (I v23)), (2, .int (I v19)), (0, .ref (g.2 100)), (1, .int (I p1)), (4, .int (I x11))]) C0.1 C0.2.1 dX8_own_71 rfl hl (by decide) rfl (fun ls hl => ?_)
              exact h_k17 v19 i_v19 v23 i_v23 _ _ _ hE (lv_sub hl [2, 3, 1, 0, 4] rfl) h
            refine x_icmp_ne C0 i_v21 lit_1 dX8_own_62 (tgt := 69) (by decide) (fun c9 => ?_) (fun c9 => ?_)
            · have e9 := e_v22.trans (if_neg c9)
              refine lv_iconst (v := I 0) C0.1 C0.2.1 dX8_own_69 rfl ?_
              rw [e9] at kk_v22; exact kk_v22
            · have e9 := e_v22.trans (if_pos c9)
              refine lv_iconst (v := I 1) C0.1 C0.2.1 dX8_own_65 rfl ?_
              refine x_goto C0 dX8_own_66 (tgt := 70) (by decide) ?_
              rw [e9] at kk_v22; exact kk_v22
          · have h := ite_t c9 h
            refine x_goto C0 dX8_own_42 (tgt := 72) (by decide) ?_
            exact h_k17 x9 i_x9 x10 i_x10 _ _ _ hE (lv_sub hl [0, 1, 2, 3, 4] rfl) h
    exact hL21 FU 0 lit_0 0 lit_0 0 lit_0 _ _ _ hE (lv_sub hl [3, 4, 2, 1, 0] rfl) h
  · have h := ite_t c9 h
    refine lv_iconst (v := I (-1)) C0.1 C0.2.1 dX8_own_12 rfl ?_
    exact ret_i (wf := wM g) C0 hr hlk hE h lit_m1 hR dX8_own_13
set_option maxRecDepth 100000 in
set_option maxHeartbeats 4000000 in
theorem c_M_level (l : Launch) (D : va_G) (g : Ad) {σ σr : St} {p1 p2 r : Int} (hR : R32 σ) (i_p1 : in32 p1) (i_p2 : in32 p2) (h : M_level σ p1 p2 = some (r, σr)) : CtI l D g yX8_level cX8_level 6 (some .int) 3 (wM g σ) (wM g σr) [.ref (g.2 100), .int (I p1), .int (I p2)] r (in32 r ∧ R32 σr) := by
  intro sz
  refine met_of (by decide) (Nat.le_of_ble_eq_true rfl) (fun p e s m args below meth c ls H locs C0 hml hr hlk hE hl => ?_)
  have C0 : CX p c cX8_level m s args D g RX8 := C0
  have hl : lv_has ls 6 [(0, .ref (g.2 100)), (1, .int (I p1)), (2, .int (I p2))] := hl
  unfold M_level at h
  refine lv_aload_n C0.1 C0.2.1 dX8_level_0 rfl (lv_at hl 0 rfl) ?_
  refine lv_iconst (v := I 0) C0.1 C0.2.1 dX8_level_1 rfl ?_
  obtain ⟨s1, e_s1, hR, h⟩ := pf_s hR lit_0 h
  refine M_p_thrown C0 hE e_s1 fk_X8_55 dX8_level_2 (fun H locs hE => ?_)
  refine lv_iload_n C0.1 C0.2.1 dX8_level_5 rfl (lv_at hl 1 rfl) ?_
  obtain ⟨v2, h_v2, h⟩ := bndp_s h
  refine callS_i (rest := []) C0 hml hE (c_M_isPlace l D g (σ := s1) i_p1 h_v2) kw_X8_134 ⟨Nat.le_of_ble_eq_true rfl, Nat.le_of_ble_eq_true rfl⟩ rfl hl.1 rfl (Nat.le_of_ble_eq_true rfl) dX8_level_6 ⟨Nat.zero_le _, Nat.zero_le _⟩ (fun H locs hE i_v2 => ?_)
  refine x_if_eq C0 i_v2 dX8_level_9 (tgt := 24) (by decide) (fun c9 => ?_) (fun c9 => ?_)
  · have h := ite_t c9 h
    refine lv_iconst (v := I (-1)) C0.1 C0.2.1 dX8_level_24 rfl ?_
    exact ret_i (wf := wM g) C0 hr hlk hE h lit_m1 hR dX8_level_25
  · have h := ite_f c9 h
    refine lv_iload_n C0.1 C0.2.1 dX8_level_12 rfl (lv_at hl 2 rfl) ?_
    refine x_i2l C0 i_p2 dX8_level_13 ?_
    refine lv_lconst (v := J 0) C0.1 C0.2.1 dX8_level_14 (by decide +kernel) ?_
    refine x_ldc2 (v := 7) C0 ck_X8_328 (by decide +kernel) dX8_level_15 ?_
    obtain ⟨v3, h_v3, h⟩ := bndp_s h
    refine callS_i (rest := []) C0 hml hE (c_M_in l D g (σ := s1) (in64_of i_p2) (by decide) (by decide) h_v3) kw_X8_65 ⟨Nat.le_of_ble_eq_true rfl, Nat.le_of_ble_eq_true rfl⟩ rfl hl.1 rfl (Nat.le_of_ble_eq_true rfl) dX8_level_18 ⟨Nat.zero_le _, Nat.zero_le _⟩ (fun H locs hE i_v3 => ?_)
    refine x_if_ne C0 i_v3 dX8_level_21 (tgt := 26) (by decide) (fun c9 => ?_) (fun c9 => ?_)
    · have h := ite_f c9 h
      refine lv_iconst (v := I 0) C0.1 C0.2.1 dX8_level_26 rfl ?_
      refine lv_istore_n (lv' := [(3, .int (I 0)), (0, .ref (g.2 100)), (1, .int (I p1)), (2, .int (I p2))]) C0.1 C0.2.1 dX8_level_27 rfl hl (by decide) rfl (fun ls hl => ?_)
      refine lv_iconst (v := I 0) C0.1 C0.2.1 dX8_level_28 rfl ?_
      refine lv_istore (lv' := [(4, .int (I 0)), (3, .int (I 0)), (0, .ref (g.2 100)), (1, .int (I p1)), (2, .int (I p2))]) C0.1 C0.2.1 dX8_level_29 hl (by decide) rfl (fun ls hl => ?_)
      refine lv_iconst (v := I 0) C0.1 C0.2.1 dX8_level_31 rfl ?_
      refine lv_istore (lv' := [(5, .int (I 0)), (4, .int (I 0)), (3, .int (I 0)), (0, .ref (g.2 100)), (1, .int (I p1)), (2, .int (I p2))]) C0.1 C0.2.1 dX8_level_32 hl (by decide) rfl (fun ls hl => ?_)
      obtain ⟨k7, e_k7, h⟩ := jn_s h
      have h_k7 : ∀ (s4 : St) (hR : R32 s4) (x5 : Int) (i_x5 : in32 x5) (x6 : Int) (i_x6 : in32 x6) (H : Heap) (locs : List Loc) (ls : Array Slot), EW D (va_A (wM g σ) sz) s.heap (wM g s4) H locs → lv_has ls 6 [(0, .ref (g.2 100)), (3, .int (I x5)), (4, .int (I x6))] → k7 s4 x5 x6 = some (r, σr) → W p l e (rmk 3) s m args below meth c H locs 0 0 (MQ below (QCi D (wM g σr) r (in32 r ∧ R32 σr) (va_A (wM g σ) sz)) args s 0 0 (va_A (wM g σ) sz)) (F0 m 85 ls []) := by
        intro s4 hR x5 i_x5 x6 i_x6 H locs ls hE hl h
        have h := (congrFun (congrFun (congrFun e_k7 s4) x5) x6).symm.trans h
        refine lv_aload_n C0.1 C0.2.1 dX8_level_85 rfl (lv_at hl 0 rfl) ?_
        refine lv_iconst (v := I 0) C0.1 C0.2.1 dX8_level_86 rfl ?_
        obtain ⟨s8, e_s8, hR, h⟩ := pf_s hR lit_0 h
        refine M_p_rowMany C0 hE e_s8 fk_X8_59 dX8_level_87 (fun H locs hE => ?_)
        refine lv_aload_n C0.1 C0.2.1 dX8_level_90 rfl (lv_at hl 0 rfl) ?_
        refine lv_iload C0.1 C0.2.1 dX8_level_91 (lv_at hl 2 rfl) ?_
        refine x_i2l C0 i_x6 dX8_level_93 ?_
        obtain ⟨v9, s10, h_v9, h⟩ := bnd_s h
        refine callV_v (rest := []) C0 hml hE (M_rec C0 hE) (c_M_tell l D g hR (in64_of i_x6) h_v9) kw_X8_150 ⟨Nat.le_of_ble_eq_true rfl, Nat.le_of_ble_eq_true rfl⟩ rfl hl.1 rfl (Nat.le_of_ble_eq_true rfl) dX8_level_94 ⟨Nat.zero_le _, Nat.zero_le _⟩ (fun H locs hE hR => ?_)
        refine lv_iload_n C0.1 C0.2.1 dX8_level_97 rfl (lv_at hl 1 rfl) ?_
        exact ret_i (wf := wM g) C0 hr hlk hE h i_x5 hR dX8_level_98
      have hL34 : ∀ (n : Nat) (s14 : St) (hR : R32 s14) (x11 : Int) (i_x11 : in32 x11) (x12 : Int) (i_x12 : in32 x12) (x13 : Int) (i_x13 : in32 x13) (H : Heap) (locs : List Loc) (ls : Array Slot), EW D (va_A (wM g σ) sz) s.heap (wM g s14) H locs → lv_has ls 6 [(0, .ref (g.2 100)), (1, .int (I p1)), (2, .int (I p2)), (3, .int (I x11)), (4, .int (I x12)), (5, .int (I x13))] → M_level_L34 k7 p1 p2 n s14 x11 x12 x13 = some (r, σr) → W p l e (rmk 3) s m args below meth c H locs 0 0 (MQ below (QCi D (wM g σr) r (in32 r ∧ R32 σr) (va_A (wM g σ) sz)) args s 0 0 (va_A (wM g σ) sz)) (F0 m 34 ls []) := by
        intro n
        induction n with
        | zero => intros; rename_i h; cases h
        | succ n ih15 =>
          intro s14 hR x11 i_x11 x12 i_x12 x13 i_x13 H locs ls hE hl h
          unfold M_level_L34 at h
          refine lv_iload C0.1 C0.2.1 dX8_level_34 (lv_at hl 5 rfl) ?_
          refine lv_aload_n C0.1 C0.2.1 dX8_level_36 rfl (lv_at hl 0 rfl) ?_
          refine M_g_sizes C0 hE fk_X8_16 dX8_level_37 ?_
          refine lv_iload_n C0.1 C0.2.1 dX8_level_40 rfl (lv_at hl 1 rfl) ?_
          obtain ⟨v16, e_v16, i_v16, h⟩ := rd_s hR h
          refine M_sizes_l C0 hE i_p1 e_v16 dX8_level_41 ?_
          refine x_icmp_ge C0 i_x13 i_v16 dX8_level_42 (tgt := 85) (by decide) (fun c9 => ?_) (fun c9 => ?_)
          · have h := ite_f c9 h
            exact h_k7 s14 hR x11 i_x11 x12 i_x12 _ _ _ hE (lv_sub hl [0, 3, 4] rfl) h
          · have h := ite_t c9 h
            refine lv_aload_n C0.1 C0.2.1 dX8_level_45 rfl (lv_at hl 0 rfl) ?_
            refine lv_iload C0.1 C0.2.1 dX8_level_46 (lv_at hl 5 rfl) ?_
            obtain ⟨v17, s18, h_v17, h⟩ := bnd_s h
            refine callV_v (rest := []) C0 hml hE (M_rec C0 hE) (c_M_laysWay l D g hR i_x13 h_v17) kw_X8_95 ⟨Nat.le_of_ble_eq_true rfl, Nat.le_of_ble_eq_true rfl⟩ rfl hl.1 rfl (Nat.le_of_ble_eq_true rfl) dX8_level_48 ⟨Nat.zero_le _, Nat.zero_le _⟩ (fun H locs hE hR => ?_)
            refine lv_aload_n C0.1 C0.2.1 dX8_level_51 rfl (lv_at hl 0 rfl) ?_
            obtain ⟨v19, e_v19, i_v19, h⟩ := gf_s hR h
            refine M_g_wayMany C0 hE e_v19 fk_X8_89 dX8_level_52 ?_
            refine lv_iconst (v := I 1) C0.1 C0.2.1 dX8_level_55 rfl ?_
            obtain ⟨v20, e_v20, i_v20, h⟩ := osub_s h
            refine x_sub C0 e_v20 dX8_level_56 ?_
            refine lv_iload_n C0.1 C0.2.1 dX8_level_57 rfl (lv_at hl 2 rfl) ?_
            obtain ⟨k23, e_k23, h⟩ := jn_s h
            have h_k23 : ∀ (x21 : Int) (i_x21 : in32 x21) (x22 : Int) (i_x22 : in32 x22) (H : Heap) (locs : List Loc) (ls : Array Slot), EW D (va_A (wM g σ) sz) s.heap (wM g s18) H locs → lv_has ls 6 [(0, .ref (g.2 100)), (1, .int (I p1)), (2, .int (I p2)), (3, .int (I x21)), (4, .int (I x22)), (5, .int (I x13))] → k23 x21 x22 = some (r, σr) → W p l e (rmk 3) s m args below meth c H locs 0 0 (MQ below (QCi D (wM g σr) r (in32 r ∧ R32 σr) (va_A (wM g σ) sz)) args s 0 0 (va_A (wM g σ) sz)) (F0 m 79 ls []) := by
              intro x21 i_x21 x22 i_x22 H locs ls hE hl h
              have h := (congrFun (congrFun e_k23 x21) x22).symm.trans h
              obtain ⟨v24, e_v24, i_v24, h⟩ := oadd_s h
              refine x_iinc (lv' := [(5, .int (I v24)), (0, .ref (g.2 100)), (1, .int (I p1)), (2, .int (I p2)), (3, .int (I x21)), (4, .int (I x22))]) C0 dX8_level_79 hl (k := 5) rfl e_v24 (by decide) rfl (fun ls hl => ?_)
              refine x_goto C0 dX8_level_82 (tgt := 34) (by decide) ?_
              exact ih15 s18 hR x21 i_x21 x22 i_x22 v24 i_v24 _ _ _ hE (lv_sub hl [1, 2, 3, 4, 5, 0] rfl) h
            refine x_icmp_eq C0 i_v20 i_p2 dX8_level_58 (tgt := 64) (by decide) (fun c9 => ?_) (fun c9 => ?_)
            · have h := ite_t c9 h
              obtain ⟨v25, e_v25, i_v25, h⟩ := oadd_s h
              refine x_iinc (lv' := [(3, .int (I v25)), (0, .ref (g.2 100)), (1, .int (I p1)), (2, .int (I p2)), (4, .int (I x12)), (5, .int (I x13))]) C0 dX8_level_64 hl (k := 3) rfl e_v25 (by decide) rfl (fun ls hl => ?_)
              refine lv_iload C0.1 C0.2.1 dX8_level_67 (lv_at hl 4 rfl) ?_
              refine lv_aload_n C0.1 C0.2.1 dX8_level_69 rfl (lv_at hl 1 rfl) ?_
              refine lv_iload_n C0.1 C0.2.1 dX8_level_70 rfl (lv_at hl 2 rfl) ?_
              refine lv_iload C0.1 C0.2.1 dX8_level_71 (lv_at hl 5 rfl) ?_
              obtain ⟨v26, h_v26, h⟩ := bndp_s h
              refine callV_i (rest := [.int (I x12)]) C0 hml hE (M_rec C0 hE) (c_M_number l D g hR i_p1 i_x13 h_v26) kw_X8_99 ⟨Nat.le_of_ble_eq_true rfl, Nat.le_of_ble_eq_true rfl⟩ rfl hl.1 rfl (Nat.le_of_ble_eq_true rfl) dX8_level_73 ⟨Nat.zero_le _, Nat.zero_le _⟩ (fun H locs hE i_v26 => ?_)
              obtain ⟨v27, e_v27, i_v27, h⟩ := oadd_s h
              refine x_add C0 e_v27 dX8_level_76 ?_
              refine lv_istore (lv' := [(4, .int (I v27)), (3, .int (I v25)), (0, .ref (g.2 100)), (1, .int (I p1)), (2, .int (I p2)), (5, .int (I x13))]) C0.1 C0.2.1 dX8_level_77 hl (by decide) rfl (fun ls hl => ?_)
              exact h_k23 v25 i_v25 v27 i_v27 _ _ _ hE (lv_sub hl [2, 3, 4, 1, 0, 5] rfl) h
            · have h := ite_f c9 h
              refine x_goto C0 dX8_level_61 (tgt := 79) (by decide) ?_
              exact h_k23 x11 i_x11 x12 i_x12 _ _ _ hE (lv_sub hl [0, 1, 2, 3, 4, 5] rfl) h
      exact hL34 FU s1 hR 0 lit_0 0 lit_0 0 lit_0 _ _ _ hE (lv_sub hl [3, 4, 5, 2, 1, 0] rfl) h
    · have h := ite_t c9 h
      refine lv_iconst (v := I (-1)) C0.1 C0.2.1 dX8_level_24 rfl ?_
      exact ret_i (wf := wM g) C0 hr hlk hE h lit_m1 hR dX8_level_25
set_option maxRecDepth 100000 in
set_option maxHeartbeats 4000000 in
theorem c_M_ways (l : Launch) (D : va_G) (g : Ad) {σ σr : St} {p1 p2 r : Int} (hR : R32 σ) (i_p1 : in32 p1) (i_p2 : in64 p2) (h : M_ways σ p1 p2 = some (r, σr)) : CtI l D g yX8_ways cX8_ways 5 (some .int) 3 (wM g σ) (wM g σr) [.ref (g.2 100), .int (I p1), .long (J p2)] r (in32 r ∧ R32 σr) := by
  intro sz
  refine met_of (by decide) (Nat.le_of_ble_eq_true rfl) (fun p e s m args below meth c ls H locs C0 hml hr hlk hE hl => ?_)
  have C0 : CX p c cX8_ways m s args D g RX8 := C0
  have hl : lv_has ls 5 [(0, .ref (g.2 100)), (1, .int (I p1)), (2, .long (J p2))] := hl
  unfold M_ways at h
  refine lv_aload_n C0.1 C0.2.1 dX8_ways_0 rfl (lv_at hl 0 rfl) ?_
  refine lv_iconst (v := I 0) C0.1 C0.2.1 dX8_ways_1 rfl ?_
  obtain ⟨s1, e_s1, hR, h⟩ := pf_s hR lit_0 h
  refine M_p_thrown C0 hE e_s1 fk_X8_55 dX8_ways_2 (fun H locs hE => ?_)
  refine lv_iload_n C0.1 C0.2.1 dX8_ways_5 rfl (lv_at hl 1 rfl) ?_
  obtain ⟨v2, h_v2, h⟩ := bndp_s h
  refine callS_i (rest := []) C0 hml hE (c_M_isPlace l D g (σ := s1) i_p1 h_v2) kw_X8_134 ⟨Nat.le_of_ble_eq_true rfl, Nat.le_of_ble_eq_true rfl⟩ rfl hl.1 rfl (Nat.le_of_ble_eq_true rfl) dX8_ways_6 ⟨Nat.zero_le _, Nat.zero_le _⟩ (fun H locs hE i_v2 => ?_)
  refine x_if_eq C0 i_v2 dX8_ways_9 (tgt := 23) (by decide) (fun c9 => ?_) (fun c9 => ?_)
  · have h := ite_t c9 h
    refine lv_iconst (v := I (-1)) C0.1 C0.2.1 dX8_ways_23 rfl ?_
    exact ret_i (wf := wM g) C0 hr hlk hE h lit_m1 hR dX8_ways_24
  · have h := ite_f c9 h
    refine lv_lload_n C0.1 C0.2.1 dX8_ways_12 rfl (lv_at hl 2 rfl) ?_
    refine lv_lconst (v := J 0) C0.1 C0.2.1 dX8_ways_13 (by decide +kernel) ?_
    refine x_ldc2 (v := 4611686018427387903) C0 ck_X8_330 (by decide +kernel) dX8_ways_14 ?_
    obtain ⟨v3, h_v3, h⟩ := bndp_s h
    refine callS_i (rest := []) C0 hml hE (c_M_in l D g (σ := s1) i_p2 (by decide) (by decide) h_v3) kw_X8_65 ⟨Nat.le_of_ble_eq_true rfl, Nat.le_of_ble_eq_true rfl⟩ rfl hl.1 rfl (Nat.le_of_ble_eq_true rfl) dX8_ways_17 ⟨Nat.zero_le _, Nat.zero_le _⟩ (fun H locs hE i_v3 => ?_)
    refine x_if_ne C0 i_v3 dX8_ways_20 (tgt := 25) (by decide) (fun c9 => ?_) (fun c9 => ?_)
    · have h := ite_f c9 h
      refine lv_aload_n C0.1 C0.2.1 dX8_ways_25 rfl (lv_at hl 0 rfl) ?_
      obtain ⟨v4, s5, h_v4, h⟩ := bnd_s h
      refine callV_v (rest := []) C0 hml hE (M_rec C0 hE) (c_M_clearsNew l D g hR h_v4) kw_X8_195 ⟨Nat.le_of_ble_eq_true rfl, Nat.le_of_ble_eq_true rfl⟩ rfl hl.1 rfl (Nat.le_of_ble_eq_true rfl) dX8_ways_26 ⟨Nat.zero_le _, Nat.zero_le _⟩ (fun H locs hE hR => ?_)
      refine lv_iconst (v := I 0) C0.1 C0.2.1 dX8_ways_29 rfl ?_
      refine lv_istore (lv' := [(4, .int (I 0)), (0, .ref (g.2 100)), (1, .int (I p1)), (2, .long (J p2))]) C0.1 C0.2.1 dX8_ways_30 hl (by decide) rfl (fun ls hl => ?_)
      obtain ⟨k7, e_k7, h⟩ := jn_s h
      have h_k7 : ∀ (s6 : St) (hR : R32 s6) (H : Heap) (locs : List Loc) (ls : Array Slot), EW D (va_A (wM g σ) sz) s.heap (wM g s6) H locs → lv_has ls 5 [(0, .ref (g.2 100))] → k7 s6 = some (r, σr) → W p l e (rmk 3) s m args below meth c H locs 0 0 (MQ below (QCi D (wM g σr) r (in32 r ∧ R32 σr) (va_A (wM g σ) sz)) args s 0 0 (va_A (wM g σ) sz)) (F0 m 74 ls []) := by
        intro s6 hR H locs ls hE hl h
        have h := (congrFun e_k7 s6).symm.trans h
        refine lv_aload_n C0.1 C0.2.1 dX8_ways_74 rfl (lv_at hl 0 rfl) ?_
        obtain ⟨v8, h_v8, h⟩ := bndp_s h
        refine callV_i (rest := []) C0 hml hE (M_rec C0 hE) (c_M_markedMany l D g hR h_v8) kw_X8_281 ⟨Nat.le_of_ble_eq_true rfl, Nat.le_of_ble_eq_true rfl⟩ rfl hl.1 rfl (Nat.le_of_ble_eq_true rfl) dX8_ways_75 ⟨Nat.zero_le _, Nat.zero_le _⟩ (fun H locs hE i_v8 => ?_)
        exact ret_i (wf := wM g) C0 hr hlk hE h i_v8 hR dX8_ways_78
      have hL32 : ∀ (n : Nat) (s10 : St) (hR : R32 s10) (x9 : Int) (i_x9 : in32 x9) (H : Heap) (locs : List Loc) (ls : Array Slot), EW D (va_A (wM g σ) sz) s.heap (wM g s10) H locs → lv_has ls 5 [(0, .ref (g.2 100)), (1, .int (I p1)), (2, .long (J p2)), (4, .int (I x9))] → M_ways_L32 k7 p1 p2 n s10 x9 = some (r, σr) → W p l e (rmk 3) s m args below meth c H locs 0 0 (MQ below (QCi D (wM g σr) r (in32 r ∧ R32 σr) (va_A (wM g σ) sz)) args s 0 0 (va_A (wM g σ) sz)) (F0 m 32 ls []) := by
        intro n
        induction n with
        | zero => intros; rename_i h; cases h
        | succ n ih11 =>
          intro s10 hR x9 i_x9 H locs ls hE hl h
          unfold M_ways_L32 at h
          refine lv_iload C0.1 C0.2.1 dX8_ways_32 (lv_at hl 3 rfl) ?_
          refine lv_bipush (v := I 62) C0.1 C0.2.1 dX8_ways_34 (by decide +kernel) ?_
          refine x_icmp_ge C0 i_x9 lit_62 dX8_ways_36 (tgt := 74) (by decide) (fun c9 => ?_) (fun c9 => ?_)
          · have h := ite_f c9 h
            exact h_k7 s10 hR _ _ _ hE (lv_sub hl [0] rfl) h
          · have h := ite_t c9 h
            refine lv_iload C0.1 C0.2.1 dX8_ways_39 (lv_at hl 3 rfl) ?_
            refine lv_aload_n C0.1 C0.2.1 dX8_ways_41 rfl (lv_at hl 0 rfl) ?_
            refine M_g_sizes C0 hE fk_X8_16 dX8_ways_42 ?_
            refine lv_iload_n C0.1 C0.2.1 dX8_ways_45 rfl (lv_at hl 1 rfl) ?_
            obtain ⟨v12, e_v12, i_v12, h⟩ := rd_s hR h
            refine M_sizes_l C0 hE i_p1 e_v12 dX8_ways_46 ?_
            refine x_icmp_ge C0 i_x9 i_v12 dX8_ways_47 (tgt := 74) (by decide) (fun c9 => ?_) (fun c9 => ?_)
            · have h := ite_f c9 h
              exact h_k7 s10 hR _ _ _ hE (lv_sub hl [0] rfl) h
            · have h := ite_t c9 h
              refine lv_lload_n C0.1 C0.2.1 dX8_ways_50 rfl (lv_at hl 2 rfl) ?_
              refine lv_iload C0.1 C0.2.1 dX8_ways_51 (lv_at hl 3 rfl) ?_
              obtain ⟨v13, e_v13, i_v13, h⟩ := opure_l h (llshr_in _ _)
              refine x_lshr C0 e_v13 dX8_ways_53 ?_
              refine lv_lconst (v := J 1) C0.1 C0.2.1 dX8_ways_54 (by decide +kernel) ?_
              obtain ⟨v14, e_v14, i_v14, h⟩ := opure_l h (lland_in _ _)
              refine x_land C0 e_v14 dX8_ways_55 ?_
              refine lv_lconst (v := J 1) C0.1 C0.2.1 dX8_ways_56 (by decide +kernel) ?_
              obtain ⟨v15, e_v15, i_v15, h⟩ := opure_s h (lcmpv_in _ _)
              refine x_lcmp C0 i_v14 (by decide) e_v15 dX8_ways_57 ?_
              obtain ⟨k17, e_k17, h⟩ := jn_s h
              have h_k17 : ∀ (s16 : St) (hR : R32 s16) (H : Heap) (locs : List Loc) (ls : Array Slot), EW D (va_A (wM g σ) sz) s.heap (wM g s16) H locs → lv_has ls 5 [(0, .ref (g.2 100)), (1, .int (I p1)), (2, .long (J p2)), (4, .int (I x9))] → k17 s16 = some (r, σr) → W p l e (rmk 3) s m args below meth c H locs 0 0 (MQ below (QCi D (wM g σr) r (in32 r ∧ R32 σr) (va_A (wM g σ) sz)) args s 0 0 (va_A (wM g σ) sz)) (F0 m 68 ls []) := by
                intro s16 hR H locs ls hE hl h
                have h := (congrFun e_k17 s16).symm.trans h
                obtain ⟨v18, e_v18, i_v18, h⟩ := oadd_s h
                refine x_iinc (lv' := [(4, .int (I v18)), (0, .ref (g.2 100)), (1, .int (I p1)), (2, .long (J p2))]) C0 dX8_ways_68 hl (k := 3) rfl e_v18 (by decide) rfl (fun ls hl => ?_)
                refine x_goto C0 dX8_ways_71 (tgt := 32) (by decide) ?_
                exact ih11 s16 hR v18 i_v18 _ _ _ hE (lv_sub hl [1, 2, 3, 0] rfl) h
              refine x_if_ne C0 i_v15 dX8_ways_58 (tgt := 68) (by decide) (fun c9 => ?_) (fun c9 => ?_)
              · have h := ite_f c9 h
                exact h_k17 s10 hR _ _ _ hE (lv_sub hl [0, 1, 2, 3] rfl) h
              · have h := ite_t c9 h
                refine lv_aload_n C0.1 C0.2.1 dX8_ways_61 rfl (lv_at hl 0 rfl) ?_
                refine lv_iload C0.1 C0.2.1 dX8_ways_62 (lv_at hl 3 rfl) ?_
                refine lv_iconst (v := I 1) C0.1 C0.2.1 dX8_ways_64 rfl ?_
                obtain ⟨v19, s20, h_v19, h⟩ := bnd_s h
                refine callV_v (rest := []) C0 hml hE (M_rec C0 hE) (c_M_marks l D g hR i_x9 lit_1 h_v19) kw_X8_198 ⟨Nat.le_of_ble_eq_true rfl, Nat.le_of_ble_eq_true rfl⟩ rfl hl.1 rfl (Nat.le_of_ble_eq_true rfl) dX8_ways_65 ⟨Nat.zero_le _, Nat.zero_le _⟩ (fun H locs hE hR => ?_)
                exact h_k17 s20 hR _ _ _ hE (lv_sub hl [0, 1, 2, 3] rfl) h
      exact hL32 FU s5 hR 0 lit_0 _ _ _ hE (lv_sub hl [1, 2, 3, 0] rfl) h
    · have h := ite_t c9 h
      refine lv_iconst (v := I (-1)) C0.1 C0.2.1 dX8_ways_23 rfl ?_
      exact ret_i (wf := wM g) C0 hr hlk hE h lit_m1 hR dX8_ways_24
set_option maxRecDepth 100000 in
set_option maxHeartbeats 4000000 in
theorem c_M_fullPlaces (l : Launch) (D : va_G) (g : Ad) {σ : St} {r : Int} (hR : R32 σ) (h : M_fullPlaces σ = some r) : CtI l D g yX8_fullPlaces cX8_fullPlaces 3 (some .int) 1 (wM g σ) (wM g σ) [.ref (g.2 100)] r (in32 r) := by
  intro sz
  refine met_of (by decide) (Nat.le_of_ble_eq_true rfl) (fun p e s m args below meth c ls H locs C0 hml hr hlk hE hl => ?_)
  have C0 : CX p c cX8_fullPlaces m s args D g RX8 := C0
  have hl : lv_has ls 3 [(0, .ref (g.2 100))] := hl
  unfold M_fullPlaces at h
  refine lv_iconst (v := I 0) C0.1 C0.2.1 dX8_fullPlaces_0 rfl ?_
  refine lv_istore_n (lv' := [(1, .int (I 0)), (0, .ref (g.2 100))]) C0.1 C0.2.1 dX8_fullPlaces_1 rfl hl (by decide) rfl (fun ls hl => ?_)
  refine lv_iconst (v := I 0) C0.1 C0.2.1 dX8_fullPlaces_2 rfl ?_
  refine lv_istore_n (lv' := [(2, .int (I 0)), (1, .int (I 0)), (0, .ref (g.2 100))]) C0.1 C0.2.1 dX8_fullPlaces_3 rfl hl (by decide) rfl (fun ls hl => ?_)
  have hL4 : ∀ (n : Nat) (x1 : Int) (i_x1 : in32 x1) (x2 : Int) (i_x2 : in32 x2) (H : Heap) (locs : List Loc) (ls : Array Slot), EW D (va_A (wM g σ) sz) s.heap (wM g σ) H locs → lv_has ls 3 [(0, .ref (g.2 100)), (1, .int (I x1)), (2, .int (I x2))] → M_fullPlaces_L4 σ n x1 x2 = some r → W p l e (rmk 1) s m args below meth c H locs 0 0 (MQ below (QCi D (wM g σ) r (in32 r) (va_A (wM g σ) sz)) args s 0 0 (va_A (wM g σ) sz)) (F0 m 4 ls []) := by
    intro n
    induction n with
    | zero => intros; rename_i h; cases h
    | succ n ih3 =>
      intro x1 i_x1 x2 i_x2 H locs ls hE hl h
      unfold M_fullPlaces_L4 at h
      refine lv_iload_n C0.1 C0.2.1 dX8_fullPlaces_4 rfl (lv_at hl 2 rfl) ?_
      refine lv_bipush (v := I 6) C0.1 C0.2.1 dX8_fullPlaces_5 (by decide +kernel) ?_
      refine x_icmp_ge C0 i_x2 lit_6 dX8_fullPlaces_7 (tgt := 35) (by decide) (fun c9 => ?_) (fun c9 => ?_)
      · have h := ite_f c9 h
        refine lv_iload_n C0.1 C0.2.1 dX8_fullPlaces_35 rfl (lv_at hl 1 rfl) ?_
        exact pret_i C0 hr hlk hE h i_x1 dX8_fullPlaces_36
      · have h := ite_t c9 h
        refine lv_iload_n C0.1 C0.2.1 dX8_fullPlaces_10 rfl (lv_at hl 1 rfl) ?_
        refine lv_aload_n C0.1 C0.2.1 dX8_fullPlaces_11 rfl (lv_at hl 0 rfl) ?_
        refine M_g_sizes C0 hE fk_X8_16 dX8_fullPlaces_12 ?_
        refine lv_iload_n C0.1 C0.2.1 dX8_fullPlaces_15 rfl (lv_at hl 2 rfl) ?_
        obtain ⟨v4, e_v4, i_v4, h⟩ := rd_s hR h
        refine M_sizes_l C0 hE i_x2 e_v4 dX8_fullPlaces_16 ?_
        obtain ⟨k6, e_k6, h⟩ := jn_s h
        have h_k6 : ∀ (x5 : Int) (i_x5 : in32 x5) (H : Heap) (locs : List Loc) (ls : Array Slot), EW D (va_A (wM g σ) sz) s.heap (wM g σ) H locs → lv_has ls 3 [(0, .ref (g.2 100)), (2, .int (I x2))] → k6 x5 = some r → W p l e (rmk 1) s m args below meth c H locs 0 0 (MQ below (QCi D (wM g σ) r (in32 r) (va_A (wM g σ) sz)) args s 0 0 (va_A (wM g σ) sz)) (F0 m 27 ls [.int (I x5), .int (I x1)]) := by
          intro x5 i_x5 H locs ls hE hl h
          have h := (congrFun e_k6 x5).symm.trans h
          obtain ⟨v7, e_v7, i_v7, h⟩ := opure_s h (bor_in _ _)
          refine x_or C0 e_v7 dX8_fullPlaces_27 ?_
          refine lv_istore_n (lv' := [(1, .int (I v7)), (0, .ref (g.2 100)), (2, .int (I x2))]) C0.1 C0.2.1 dX8_fullPlaces_28 rfl hl (by decide) rfl (fun ls hl => ?_)
          obtain ⟨v8, e_v8, i_v8, h⟩ := oadd_s h
          refine x_iinc (lv' := [(2, .int (I v8)), (1, .int (I v7)), (0, .ref (g.2 100))]) C0 dX8_fullPlaces_29 hl (k := 2) rfl e_v8 (by decide) rfl (fun ls hl => ?_)
          refine x_goto C0 dX8_fullPlaces_32 (tgt := 4) (by decide) ?_
          exact ih3 v7 i_v7 v8 i_v8 _ _ _ hE (lv_sub hl [2, 1, 0] rfl) h
        refine x_if_le C0 i_v4 dX8_fullPlaces_17 (tgt := 26) (by decide) (fun c9 => ?_) (fun c9 => ?_)
        · have h := ite_f c9 h
          refine lv_iconst (v := I 0) C0.1 C0.2.1 dX8_fullPlaces_26 rfl ?_
          exact h_k6 0 lit_0 _ _ _ hE (lv_sub hl [0, 2] rfl) h
        · have h := ite_t c9 h
          refine lv_iconst (v := I 1) C0.1 C0.2.1 dX8_fullPlaces_20 rfl ?_
          refine lv_iload_n C0.1 C0.2.1 dX8_fullPlaces_21 rfl (lv_at hl 2 rfl) ?_
          obtain ⟨v9, e_v9, i_v9, h⟩ := opure_s h (bshl_in _ _)
          refine x_shl C0 e_v9 dX8_fullPlaces_22 ?_
          refine x_goto C0 dX8_fullPlaces_23 (tgt := 27) (by decide) ?_
          exact h_k6 v9 i_v9 _ _ _ hE (lv_sub hl [0, 2] rfl) h
  exact hL4 FU 0 lit_0 0 lit_0 _ _ _ hE (lv_sub hl [2, 1, 0] rfl) h
set_option maxRecDepth 100000 in
set_option maxHeartbeats 4000000 in
theorem c_M_count (l : Launch) (D : va_G) (g : Ad) {σ σr : St} {p1 r : Int} (hR : R32 σ) (i_p1 : in32 p1) (h : M_count σ p1 = some (r, σr)) : CtI l D g yX8_count cX8_count 2 (some .int) 2 (wM g σ) (wM g σr) [.ref (g.2 100), .int (I p1)] r (in32 r ∧ R32 σr) := by
  intro sz
  refine met_of (by decide) (Nat.le_of_ble_eq_true rfl) (fun p e s m args below meth c ls H locs C0 hml hr hlk hE hl => ?_)
  have C0 : CX p c cX8_count m s args D g RX8 := C0
  have hl : lv_has ls 2 [(0, .ref (g.2 100)), (1, .int (I p1))] := hl
  unfold M_count at h
  refine lv_aload_n C0.1 C0.2.1 dX8_count_0 rfl (lv_at hl 0 rfl) ?_
  refine lv_iconst (v := I 0) C0.1 C0.2.1 dX8_count_1 rfl ?_
  obtain ⟨s1, e_s1, hR, h⟩ := pf_s hR lit_0 h
  refine M_p_thrown C0 hE e_s1 fk_X8_55 dX8_count_2 (fun H locs hE => ?_)
  refine lv_iload_n C0.1 C0.2.1 dX8_count_5 rfl (lv_at hl 1 rfl) ?_
  by_cases q2 : p1 = 0
  · have h := ite_t q2 h
    refine x_tabIn (tgt := 40) C0 0 i_p1 dX8_count_6 q2 ⟨by decide, by decide, by rfl⟩ (by decide) ?_
    refine lv_aload_n C0.1 C0.2.1 dX8_count_40 rfl (lv_at hl 0 rfl) ?_
    obtain ⟨v3, h_v3, h⟩ := bndp_s h
    refine callV_i (rest := []) C0 hml hE (M_rec C0 hE) (c_M_fullPlaces l D g hR h_v3) kw_X8_332 ⟨Nat.le_of_ble_eq_true rfl, Nat.le_of_ble_eq_true rfl⟩ rfl hl.1 rfl (Nat.le_of_ble_eq_true rfl) dX8_count_41 ⟨Nat.zero_le _, Nat.zero_le _⟩ (fun H locs hE i_v3 => ?_)
    exact ret_i (wf := wM g) C0 hr hlk hE h i_v3 hR dX8_count_44
  have h := ite_f q2 h
  by_cases q4 : p1 = 1
  · have h := ite_t q4 h
    refine x_tabIn (tgt := 45) C0 1 i_p1 dX8_count_6 q4 ⟨by decide, by decide, by rfl⟩ (by decide) ?_
    refine lv_aload_n C0.1 C0.2.1 dX8_count_45 rfl (lv_at hl 0 rfl) ?_
    obtain ⟨v5, e_v5, i_v5, h⟩ := gf_s hR h
    refine M_g_made C0 hE e_v5 fk_X8_75 dX8_count_46 ?_
    exact ret_i (wf := wM g) C0 hr hlk hE h i_v5 hR dX8_count_49
  have h := ite_f q4 h
  by_cases q6 : p1 = 2
  · have h := ite_t q6 h
    refine x_tabIn (tgt := 50) C0 2 i_p1 dX8_count_6 q6 ⟨by decide, by decide, by rfl⟩ (by decide) ?_
    refine lv_aload_n C0.1 C0.2.1 dX8_count_50 rfl (lv_at hl 0 rfl) ?_
    obtain ⟨v7, e_v7, i_v7, h⟩ := gf_s hR h
    refine M_g_rowMany C0 hE e_v7 fk_X8_59 dX8_count_51 ?_
    exact ret_i (wf := wM g) C0 hr hlk hE h i_v7 hR dX8_count_54
  have h := ite_f q6 h
  by_cases q8 : p1 = 3
  · have h := ite_t q8 h
    refine x_tabIn (tgt := 55) C0 3 i_p1 dX8_count_6 q8 ⟨by decide, by decide, by rfl⟩ (by decide) ?_
    refine lv_aload_n C0.1 C0.2.1 dX8_count_55 rfl (lv_at hl 0 rfl) ?_
    obtain ⟨v9, e_v9, i_v9, h⟩ := gf_s hR h
    refine M_g_typed C0 hE e_v9 fk_X8_62 dX8_count_56 ?_
    exact ret_i (wf := wM g) C0 hr hlk hE h i_v9 hR dX8_count_59
  have h := ite_f q8 h
  by_cases q10 : p1 = 4
  · have h := ite_t q10 h
    refine x_tabIn (tgt := 60) C0 4 i_p1 dX8_count_6 q10 ⟨by decide, by decide, by rfl⟩ (by decide) ?_
    refine lv_iconst (v := I 1) C0.1 C0.2.1 dX8_count_60 rfl ?_
    exact ret_i (wf := wM g) C0 hr hlk hE h lit_1 hR dX8_count_61
  have h := ite_f q10 h
  refine x_tabOut (tgt := 62) C0 i_p1 dX8_count_6 (by omega) (by decide) ?_
  refine lv_iconst (v := I (-1)) C0.1 C0.2.1 dX8_count_62 rfl ?_
  exact ret_i (wf := wM g) C0 hr hlk hE h lit_m1 hR dX8_count_63
set_option maxRecDepth 100000 in
set_option maxHeartbeats 4000000 in
theorem c_M_lost (l : Launch) (D : va_G) (g : Ad) {σ σr : St} {r : Int} (hR : R32 σ) (h : M_lost σ = some (r, σr)) : CtI l D g yX8_lost cX8_lost 1 (some .int) 1 (wM g σ) (wM g σr) [.ref (g.2 100)] r (in32 r ∧ R32 σr) := by
  intro sz
  refine met_of (by decide) (Nat.le_of_ble_eq_true rfl) (fun p e s m args below meth c ls H locs C0 hml hr hlk hE hl => ?_)
  have C0 : CX p c cX8_lost m s args D g RX8 := C0
  have hl : lv_has ls 1 [(0, .ref (g.2 100))] := hl
  unfold M_lost at h
  refine lv_aload_n C0.1 C0.2.1 dX8_lost_0 rfl (lv_at hl 0 rfl) ?_
  refine lv_iconst (v := I 1) C0.1 C0.2.1 dX8_lost_1 rfl ?_
  obtain ⟨s1, e_s1, hR, h⟩ := pf_s hR lit_1 h
  refine M_p_thrown C0 hE e_s1 fk_X8_55 dX8_lost_2 (fun H locs hE => ?_)
  refine lv_iconst (v := I 0) C0.1 C0.2.1 dX8_lost_5 rfl ?_
  exact ret_i (wf := wM g) C0 hr hlk hE h lit_0 hR dX8_lost_6
set_option maxRecDepth 100000 in
set_option maxHeartbeats 4000000 in
theorem c_M_row (l : Launch) (D : va_G) (g : Ad) {σ σr : St} {p1 r : Int} (hR : R32 σ) (i_p1 : in32 p1) (h : M_row σ p1 = some (r, σr)) : CtL l D g yX8_row cX8_row 2 (some .long) 2 (wM g σ) (wM g σr) [.ref (g.2 100), .int (I p1)] r (in64 r ∧ R32 σr) := by
  intro sz
  refine met_of (by decide) (Nat.le_of_ble_eq_true rfl) (fun p e s m args below meth c ls H locs C0 hml hr hlk hE hl => ?_)
  have C0 : CX p c cX8_row m s args D g RX8 := C0
  have hl : lv_has ls 2 [(0, .ref (g.2 100)), (1, .int (I p1))] := hl
  unfold M_row at h
  refine lv_aload_n C0.1 C0.2.1 dX8_row_0 rfl (lv_at hl 0 rfl) ?_
  refine lv_iconst (v := I 0) C0.1 C0.2.1 dX8_row_1 rfl ?_
  obtain ⟨s1, e_s1, hR, h⟩ := pf_s hR lit_0 h
  refine M_p_thrown C0 hE e_s1 fk_X8_55 dX8_row_2 (fun H locs hE => ?_)
  refine lv_iload_n C0.1 C0.2.1 dX8_row_5 rfl (lv_at hl 1 rfl) ?_
  refine x_i2l C0 i_p1 dX8_row_6 ?_
  refine lv_lconst (v := J 0) C0.1 C0.2.1 dX8_row_7 (by decide +kernel) ?_
  refine lv_aload_n C0.1 C0.2.1 dX8_row_8 rfl (lv_at hl 0 rfl) ?_
  obtain ⟨v2, e_v2, i_v2, h⟩ := gf_s hR h
  refine M_g_rowMany C0 hE e_v2 fk_X8_59 dX8_row_9 ?_
  refine lv_iconst (v := I 1) C0.1 C0.2.1 dX8_row_12 rfl ?_
  obtain ⟨v3, e_v3, i_v3, h⟩ := osub_s h
  refine x_sub C0 e_v3 dX8_row_13 ?_
  refine x_i2l C0 i_v3 dX8_row_14 ?_
  obtain ⟨v4, h_v4, h⟩ := bndp_s h
  refine callS_i (rest := []) C0 hml hE (c_M_in l D g (σ := s1) (in64_of i_p1) (by decide) (in64_of i_v3) h_v4) kw_X8_65 ⟨Nat.le_of_ble_eq_true rfl, Nat.le_of_ble_eq_true rfl⟩ rfl hl.1 rfl (Nat.le_of_ble_eq_true rfl) dX8_row_15 ⟨Nat.zero_le _, Nat.zero_le _⟩ (fun H locs hE i_v4 => ?_)
  refine x_if_eq C0 i_v4 dX8_row_18 (tgt := 30) (by decide) (fun c9 => ?_) (fun c9 => ?_)
  · have h := ite_t c9 h
    refine lv_aload_n C0.1 C0.2.1 dX8_row_30 rfl (lv_at hl 0 rfl) ?_
    obtain ⟨v5, s6, h_v5, h⟩ := bnd_s h
    refine callV_i (rest := []) C0 hml hE (M_rec C0 hE) (c_M_lost l D g hR h_v5) kw_X8_335 ⟨Nat.le_of_ble_eq_true rfl, Nat.le_of_ble_eq_true rfl⟩ rfl hl.1 rfl (Nat.le_of_ble_eq_true rfl) dX8_row_31 ⟨Nat.zero_le _, Nat.zero_le _⟩ (fun H locs hE ⟨i_v5, hR⟩ => ?_)
    refine x_i2l C0 i_v5 dX8_row_34 ?_
    exact ret_l (wf := wM g) C0 hr hlk hE h (in64_of i_v5) hR dX8_row_35
  · have h := ite_f c9 h
    refine lv_aload_n C0.1 C0.2.1 dX8_row_21 rfl (lv_at hl 0 rfl) ?_
    refine M_g_row C0 hE fk_X8_23 dX8_row_22 ?_
    refine lv_iload_n C0.1 C0.2.1 dX8_row_25 rfl (lv_at hl 1 rfl) ?_
    obtain ⟨v7, e_v7, i_v7, h⟩ := rd_s hR h
    refine M_row_l C0 hE i_p1 e_v7 dX8_row_26 ?_
    refine x_goto C0 dX8_row_27 (tgt := 35) (by decide) ?_
    exact ret_l (wf := wM g) C0 hr hlk hE h (in64_of i_v7) hR dX8_row_35

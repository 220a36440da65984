-- THE WALKS, written by program
set_option maxRecDepth 100000 in
set_option maxHeartbeats 4000000 in
theorem c_E_search (l : Launch) (D : va_G) (g : Ad) {σ σr : St} {p1 p2 r : Int} (hR : R32 σ) (i_p1 : in32 p1) (i_p2 : in32 p2) (h : E_search σ p1 p2 = some (r, σr)) : CtI l D g yX7_search cX7_search 7 (some .int) 5 (wE g σ) (wE g σr) [.ref (g.2 0), .int (I p1), .int (I p2)] r (in32 r ∧ R32 σr) := by
  intro sz
  refine met_of (by decide) (Nat.le_of_ble_eq_true rfl) (fun p e s m args below meth c ls H locs C0 hml hr hlk hE hl => ?_)
  have C0 : CX p c cX7_search m s args D g RX7 := C0
  have hl : lv_has ls 7 [(0, .ref (g.2 0)), (1, .int (I p1)), (2, .int (I p2))] := hl
  unfold E_search at h
  refine lv_iload_n C0.1 C0.2.1 dX7_search_0 rfl (lv_at hl 1 rfl) ?_
  obtain ⟨v1, h_v1, h⟩ := bndp_s h
  refine callS_i (rest := []) C0 hml hE (c_E_isPlace l D g (σ := σ) i_p1 h_v1) kw_X7_86 ⟨Nat.le_of_ble_eq_true rfl, Nat.le_of_ble_eq_true rfl⟩ rfl hl.1 rfl (Nat.le_of_ble_eq_true rfl) dX7_search_1 ⟨Nat.zero_le _, Nat.zero_le _⟩ (fun H locs hE i_v1 => ?_)
  refine x_if_eq C0 i_v1 dX7_search_4 (tgt := 14) (by decide) (fun c9 => ?_) (fun c9 => ?_)
  · have h := ite_t c9 h
    refine lv_iconst (v := I (-1)) C0.1 C0.2.1 dX7_search_14 rfl ?_
    exact ret_i (wf := wE g) C0 hr hlk hE h lit_m1 hR dX7_search_15
  · have h := ite_f c9 h
    refine lv_iload_n C0.1 C0.2.1 dX7_search_7 rfl (lv_at hl 2 rfl) ?_
    obtain ⟨v2, h_v2, h⟩ := bndp_s h
    refine callS_i (rest := []) C0 hml hE (c_E_isNumber l D g (σ := σ) i_p2 h_v2) kw_X7_117 ⟨Nat.le_of_ble_eq_true rfl, Nat.le_of_ble_eq_true rfl⟩ rfl hl.1 rfl (Nat.le_of_ble_eq_true rfl) dX7_search_8 ⟨Nat.zero_le _, Nat.zero_le _⟩ (fun H locs hE i_v2 => ?_)
    refine x_if_ne C0 i_v2 dX7_search_11 (tgt := 16) (by decide) (fun c9 => ?_) (fun c9 => ?_)
    · have h := ite_f c9 h
      refine lv_aload_n C0.1 C0.2.1 dX7_search_16 rfl (lv_at hl 0 rfl) ?_
      refine E_g_pool C0 hE fk_X7_10 dX7_search_17 ?_
      refine lv_aload_n C0.1 C0.2.1 dX7_search_20 rfl (lv_at hl 0 rfl) ?_
      refine E_g_trees C0 hE fk_X7_49 dX7_search_21 ?_
      refine lv_iload_n C0.1 C0.2.1 dX7_search_24 rfl (lv_at hl 1 rfl) ?_
      obtain ⟨v3, e_v3, i_v3, h⟩ := rd_s hR h
      refine E_trees_l C0 hE i_p1 e_v3 dX7_search_25 ?_
      refine lv_aload_n C0.1 C0.2.1 dX7_search_26 rfl (lv_at hl 0 rfl) ?_
      refine E_g_sizes C0 hE fk_X7_53 dX7_search_27 ?_
      refine lv_iload_n C0.1 C0.2.1 dX7_search_30 rfl (lv_at hl 1 rfl) ?_
      obtain ⟨v4, e_v4, i_v4, h⟩ := rd_s hR h
      refine E_sizes_l C0 hE i_p1 e_v4 dX7_search_31 ?_
      refine lv_aload_n C0.1 C0.2.1 dX7_search_32 rfl (lv_at hl 0 rfl) ?_
      refine E_g_one C0 hE fk_X7_56 dX7_search_33 ?_
      obtain ⟨v5, s6, h_v5, h⟩ := bnd_s h
      refine callV_v (rest := []) C0 hml hE (Pool_rec C0 hE) (c_Pool_read_one l D g hR i_v3 i_v4 h_v5) kw_X7_201 ⟨Nat.le_of_ble_eq_true rfl, Nat.le_of_ble_eq_true rfl⟩ rfl hl.1 rfl (Nat.le_of_ble_eq_true rfl) dX7_search_36 ⟨Nat.zero_le _, Nat.zero_le _⟩ (fun H locs hE hR => ?_)
      refine lv_iconst (v := I 0) C0.1 C0.2.1 dX7_search_39 rfl ?_
      refine lv_istore_n (lv' := [(3, .int (I 0)), (0, .ref (g.2 0)), (1, .int (I p1)), (2, .int (I p2))]) C0.1 C0.2.1 dX7_search_40 rfl hl (by decide) rfl (fun ls hl => ?_)
      refine lv_aload_n C0.1 C0.2.1 dX7_search_41 rfl (lv_at hl 1 rfl) ?_
      refine E_g_sizes C0 hE fk_X7_53 dX7_search_42 ?_
      refine lv_iload_n C0.1 C0.2.1 dX7_search_45 rfl (lv_at hl 2 rfl) ?_
      obtain ⟨v7, e_v7, i_v7, h⟩ := rd_s hR h
      refine E_sizes_l C0 hE i_p1 e_v7 dX7_search_46 ?_
      refine lv_istore (lv' := [(4, .int (I v7)), (3, .int (I 0)), (0, .ref (g.2 0)), (1, .int (I p1)), (2, .int (I p2))]) C0.1 C0.2.1 dX7_search_47 hl (by decide) rfl (fun ls hl => ?_)
      refine lv_iconst (v := I 0) C0.1 C0.2.1 dX7_search_49 rfl ?_
      refine lv_istore (lv' := [(5, .int (I 0)), (4, .int (I v7)), (3, .int (I 0)), (0, .ref (g.2 0)), (1, .int (I p1)), (2, .int (I p2))]) C0.1 C0.2.1 dX7_search_50 hl (by decide) rfl (fun ls hl => ?_)
      obtain ⟨k10, e_k10, h⟩ := jn_s h
      have h_k10 : ∀ (x8 : Int) (i_x8 : in32 x8) (x9 : Int) (i_x9 : in32 x9) (H : Heap) (locs : List Loc) (ls : Array Slot), EW D (va_A (wE g σ) sz) s.heap (wE g s6) H locs → lv_has ls 7 [(0, .ref (g.2 0)), (1, .int (I p1)), (2, .int (I p2)), (3, .int (I x8)), (5, .int (I x9))] → k10 x8 x9 = some (r, σr) → W p l e (rmk 5) s m args below meth c H locs 0 0 (MQ below (QCi D (wE g σr) r (in32 r ∧ R32 σr) (va_A (wE g σ) sz)) args s 0 0 (va_A (wE g σ) sz)) (F0 m 95 ls []) := by
        intro x8 i_x8 x9 i_x9 H locs ls hE hl h
        have h := (congrFun (congrFun e_k10 x8) x9).symm.trans h
        refine lv_aload_n C0.1 C0.2.1 dX7_search_95 rfl (lv_at hl 0 rfl) ?_
        refine E_g_told C0 hE fk_X7_19 dX7_search_96 ?_
        refine lv_iload C0.1 C0.2.1 dX7_search_99 (lv_at hl 4 rfl) ?_
        refine x_i2l C0 i_x9 dX7_search_101 ?_
        refine lv_iload_n C0.1 C0.2.1 dX7_search_102 rfl (lv_at hl 3 rfl) ?_
        refine lv_aload_n C0.1 C0.2.1 dX7_search_103 rfl (lv_at hl 0 rfl) ?_
        refine E_g_sizes C0 hE fk_X7_53 dX7_search_104 ?_
        refine lv_iload_n C0.1 C0.2.1 dX7_search_107 rfl (lv_at hl 1 rfl) ?_
        obtain ⟨v11, e_v11, i_v11, h⟩ := rd_s hR h
        refine E_sizes_l C0 hE i_p1 e_v11 dX7_search_108 ?_
        obtain ⟨k13, e_k13, h⟩ := jn_s h
        have h_k13 : ∀ (x12 : Int) (i_x12 : in64 x12) (H : Heap) (locs : List Loc) (ls : Array Slot), EW D (va_A (wE g σ) sz) s.heap (wE g s6) H locs → lv_has ls 7 [(3, .int (I x8))] → k13 x12 = some (r, σr) → W p l e (rmk 5) s m args below meth c H locs 0 0 (MQ below (QCi D (wE g σr) r (in32 r ∧ R32 σr) (va_A (wE g σ) sz)) args s 0 0 (va_A (wE g σ) sz)) (F0 m 127 ls [.long (J x12), .long (J x9), .ref (g.2 2)]) := by
          intro x12 i_x12 H locs ls hE hl h
          have h := (congrFun e_k13 x12).symm.trans h
          obtain ⟨v14, s15, h_v14, h⟩ := bnd_s h
          refine callV_v (rest := []) C0 hml hE (Row_rec C0 hE) (c_Row_tell1 l D g hR (in64_of i_x9) i_x12 h_v14) kw_X7_162 ⟨Nat.le_of_ble_eq_true rfl, Nat.le_of_ble_eq_true rfl⟩ rfl hl.1 rfl (Nat.le_of_ble_eq_true rfl) dX7_search_127 ⟨Nat.zero_le _, Nat.zero_le _⟩ (fun H locs hE hR => ?_)
          refine lv_iload_n C0.1 C0.2.1 dX7_search_130 rfl (lv_at hl 0 rfl) ?_
          exact ret_i (wf := wE g) C0 hr hlk hE h i_x8 hR dX7_search_131
        obtain ⟨k16, e_k16, h⟩ := jn_s h
        have h_k16 : ∀ (H : Heap) (locs : List Loc) (ls : Array Slot), EW D (va_A (wE g σ) sz) s.heap (wE g s6) H locs → lv_has ls 7 [(3, .int (I x8))] → k16 = some (r, σr) → W p l e (rmk 5) s m args below meth c H locs 0 0 (MQ below (QCi D (wE g σr) r (in32 r ∧ R32 σr) (va_A (wE g σ) sz)) args s 0 0 (va_A (wE g σ) sz)) (F0 m 126 ls [.long (J x9), .ref (g.2 2)]) := by
          intro H locs ls hE hl h
          have h := e_k16.symm.trans h
          refine lv_lconst (v := J 0) C0.1 C0.2.1 dX7_search_126 (by decide +kernel) ?_
          exact h_k13 0 (by decide) _ _ _ hE (lv_sub hl [0] rfl) h
        refine x_icmp_ge C0 i_x8 i_v11 dX7_search_109 (tgt := 126) (by decide) (fun c9 => ?_) (fun c9 => ?_)
        · have h := ite_f c9 h
          exact h_k16 _ _ _ hE (lv_sub hl [3] rfl) h
        · have h := ite_t c9 h
          refine lv_aload_n C0.1 C0.2.1 dX7_search_112 rfl (lv_at hl 0 rfl) ?_
          refine E_g_one C0 hE fk_X7_56 dX7_search_113 ?_
          refine lv_iload_n C0.1 C0.2.1 dX7_search_116 rfl (lv_at hl 3 rfl) ?_
          obtain ⟨v17, e_v17, i_v17, h⟩ := rd_s hR h
          refine E_one_l C0 hE i_x8 e_v17 dX7_search_117 ?_
          refine lv_iload_n C0.1 C0.2.1 dX7_search_118 rfl (lv_at hl 2 rfl) ?_
          refine x_icmp_ne C0 i_v17 i_p2 dX7_search_119 (tgt := 126) (by decide) (fun c9 => ?_) (fun c9 => ?_)
          · have h := ite_f c9 h
            exact h_k16 _ _ _ hE (lv_sub hl [3] rfl) h
          · have h := ite_t c9 h
            refine lv_lconst (v := J 1) C0.1 C0.2.1 dX7_search_122 (by decide +kernel) ?_
            refine x_goto C0 dX7_search_123 (tgt := 127) (by decide) ?_
            exact h_k13 1 (by decide) _ _ _ hE (lv_sub hl [3] rfl) h
      have hL52 : ∀ (n : Nat) (x18 : Int) (i_x18 : in32 x18) (x19 : Int) (i_x19 : in32 x19) (x20 : Int) (i_x20 : in32 x20) (H : Heap) (locs : List Loc) (ls : Array Slot), EW D (va_A (wE g σ) sz) s.heap (wE g s6) H locs → lv_has ls 7 [(0, .ref (g.2 0)), (1, .int (I p1)), (2, .int (I p2)), (3, .int (I x18)), (4, .int (I x19)), (5, .int (I x20))] → E_search_L52 k10 s6 p2 n x18 x19 x20 = some (r, σr) → W p l e (rmk 5) s m args below meth c H locs 0 0 (MQ below (QCi D (wE g σr) r (in32 r ∧ R32 σr) (va_A (wE g σ) sz)) args s 0 0 (va_A (wE g σ) sz)) (F0 m 52 ls []) := by
        intro n
        induction n with
        | zero => intros; rename_i h; cases h
        | succ n ih21 =>
          intro x18 i_x18 x19 i_x19 x20 i_x20 H locs ls hE hl h
          unfold E_search_L52 at h
          refine lv_iload_n C0.1 C0.2.1 dX7_search_52 rfl (lv_at hl 3 rfl) ?_
          refine lv_iload C0.1 C0.2.1 dX7_search_53 (lv_at hl 4 rfl) ?_
          refine x_icmp_ge C0 i_x18 i_x19 dX7_search_55 (tgt := 95) (by decide) (fun c9 => ?_) (fun c9 => ?_)
          · have h := ite_f c9 h
            exact h_k10 x18 i_x18 x20 i_x20 _ _ _ hE (lv_sub hl [0, 1, 2, 3, 5] rfl) h
          · have h := ite_t c9 h
            refine lv_iload_n C0.1 C0.2.1 dX7_search_58 rfl (lv_at hl 3 rfl) ?_
            refine lv_iload C0.1 C0.2.1 dX7_search_59 (lv_at hl 4 rfl) ?_
            obtain ⟨v22, e_v22, i_v22, h⟩ := oadd_s h
            refine x_add C0 e_v22 dX7_search_61 ?_
            refine lv_iconst (v := I 2) C0.1 C0.2.1 dX7_search_62 rfl ?_
            obtain ⟨v23, e_v23, i_v23, h⟩ := odiv_s i_v22 h
            refine x_div C0 i_v22 lit_2 e_v23 dX7_search_63 ?_
            refine lv_istore (lv' := [(6, .int (I v23)), (0, .ref (g.2 0)), (1, .int (I p1)), (2, .int (I p2)), (3, .int (I x18)), (4, .int (I x19)), (5, .int (I x20))]) C0.1 C0.2.1 dX7_search_64 hl (by decide) rfl (fun ls hl => ?_)
            obtain ⟨v24, e_v24, i_v24, h⟩ := oadd_s h
            refine x_iinc (lv' := [(5, .int (I v24)), (6, .int (I v23)), (0, .ref (g.2 0)), (1, .int (I p1)), (2, .int (I p2)), (3, .int (I x18)), (4, .int (I x19))]) C0 dX7_search_66 hl (k := 6) rfl e_v24 (by decide) rfl (fun ls hl => ?_)
            refine lv_aload_n C0.1 C0.2.1 dX7_search_69 rfl (lv_at hl 2 rfl) ?_
            refine E_g_one C0 hE fk_X7_56 dX7_search_70 ?_
            refine lv_iload C0.1 C0.2.1 dX7_search_73 (lv_at hl 1 rfl) ?_
            obtain ⟨v25, e_v25, i_v25, h⟩ := rd_s hR h
            refine E_one_l C0 hE i_v23 e_v25 dX7_search_75 ?_
            refine lv_iload_n C0.1 C0.2.1 dX7_search_76 rfl (lv_at hl 4 rfl) ?_
            obtain ⟨k28, e_k28, h⟩ := jn_s h
            have h_k28 : ∀ (x26 : Int) (i_x26 : in32 x26) (x27 : Int) (i_x27 : in32 x27) (H : Heap) (locs : List Loc) (ls : Array Slot), EW D (va_A (wE g σ) sz) s.heap (wE g s6) H locs → lv_has ls 7 [(0, .ref (g.2 0)), (1, .int (I p1)), (2, .int (I p2)), (3, .int (I x26)), (4, .int (I x27)), (5, .int (I v24))] → k28 x26 x27 = some (r, σr) → W p l e (rmk 5) s m args below meth c H locs 0 0 (MQ below (QCi D (wE g σr) r (in32 r ∧ R32 σr) (va_A (wE g σ) sz)) args s 0 0 (va_A (wE g σ) sz)) (F0 m 92 ls []) := by
              intro x26 i_x26 x27 i_x27 H locs ls hE hl h
              have h := (congrFun (congrFun e_k28 x26) x27).symm.trans h
              refine x_goto C0 dX7_search_92 (tgt := 52) (by decide) ?_
              exact ih21 x26 i_x26 x27 i_x27 v24 i_v24 _ _ _ hE (lv_sub hl [0, 1, 2, 3, 4, 5] rfl) h
            refine x_icmp_ge C0 i_v25 i_p2 dX7_search_77 (tgt := 88) (by decide) (fun c9 => ?_) (fun c9 => ?_)
            · have h := ite_f c9 h
              refine lv_iload C0.1 C0.2.1 dX7_search_88 (lv_at hl 1 rfl) ?_
              refine lv_istore (lv' := [(4, .int (I v23)), (5, .int (I v24)), (6, .int (I v23)), (0, .ref (g.2 0)), (1, .int (I p1)), (2, .int (I p2)), (3, .int (I x18))]) C0.1 C0.2.1 dX7_search_90 hl (by decide) rfl (fun ls hl => ?_)
              exact h_k28 x18 i_x18 v23 i_v23 _ _ _ hE (lv_sub hl [3, 4, 5, 6, 0, 1] rfl) h
            · have h := ite_t c9 h
              refine lv_iload C0.1 C0.2.1 dX7_search_80 (lv_at hl 1 rfl) ?_
              refine lv_iconst (v := I 1) C0.1 C0.2.1 dX7_search_82 rfl ?_
              obtain ⟨v29, e_v29, i_v29, h⟩ := oadd_s h
              refine x_add C0 e_v29 dX7_search_83 ?_
              refine lv_istore_n (lv' := [(3, .int (I v29)), (5, .int (I v24)), (6, .int (I v23)), (0, .ref (g.2 0)), (1, .int (I p1)), (2, .int (I p2)), (4, .int (I x19))]) C0.1 C0.2.1 dX7_search_84 rfl hl (by decide) rfl (fun ls hl => ?_)
              refine x_goto C0 dX7_search_85 (tgt := 92) (by decide) ?_
              exact h_k28 v29 i_v29 x19 i_x19 _ _ _ hE (lv_sub hl [3, 4, 5, 0, 6, 1] rfl) h
      exact hL52 FU 0 lit_0 v7 i_v7 0 lit_0 _ _ _ hE (lv_sub hl [3, 4, 5, 2, 1, 0] rfl) h
    · have h := ite_t c9 h
      refine lv_iconst (v := I (-1)) C0.1 C0.2.1 dX7_search_14 rfl ?_
      exact ret_i (wf := wE g) C0 hr hlk hE h lit_m1 hR dX7_search_15
set_option maxRecDepth 100000 in
set_option maxHeartbeats 4000000 in
theorem c_E_reaches (l : Launch) (D : va_G) (g : Ad) {σ σr : St} {p1 p2 r : Int} (hR : R32 σ) (i_p1 : in32 p1) (i_p2 : in32 p2) (h : E_reaches σ p1 p2 = some (r, σr)) : CtI l D g yX7_reaches cX7_reaches 5 (some .int) 5 (wE g σ) (wE g σr) [.ref (g.2 0), .int (I p1), .int (I p2)] r (in32 r ∧ R32 σr) := by
  intro sz
  refine met_of (by decide) (Nat.le_of_ble_eq_true rfl) (fun p e s m args below meth c ls H locs C0 hml hr hlk hE hl => ?_)
  have C0 : CX p c cX7_reaches m s args D g RX7 := C0
  have hl : lv_has ls 5 [(0, .ref (g.2 0)), (1, .int (I p1)), (2, .int (I p2))] := hl
  unfold E_reaches at h
  refine lv_iload_n C0.1 C0.2.1 dX7_reaches_0 rfl (lv_at hl 1 rfl) ?_
  obtain ⟨v1, h_v1, h⟩ := bndp_s h
  refine callS_i (rest := []) C0 hml hE (c_E_isPlace l D g (σ := σ) i_p1 h_v1) kw_X7_86 ⟨Nat.le_of_ble_eq_true rfl, Nat.le_of_ble_eq_true rfl⟩ rfl hl.1 rfl (Nat.le_of_ble_eq_true rfl) dX7_reaches_1 ⟨Nat.zero_le _, Nat.zero_le _⟩ (fun H locs hE i_v1 => ?_)
  refine x_if_ne C0 i_v1 dX7_reaches_4 (tgt := 9) (by decide) (fun c9 => ?_) (fun c9 => ?_)
  · have h := ite_f c9 h
    refine lv_aload_n C0.1 C0.2.1 dX7_reaches_9 rfl (lv_at hl 0 rfl) ?_
    refine E_g_pool C0 hE fk_X7_10 dX7_reaches_10 ?_
    refine lv_aload_n C0.1 C0.2.1 dX7_reaches_13 rfl (lv_at hl 0 rfl) ?_
    refine E_g_trees C0 hE fk_X7_49 dX7_reaches_14 ?_
    refine lv_iload_n C0.1 C0.2.1 dX7_reaches_17 rfl (lv_at hl 1 rfl) ?_
    obtain ⟨v2, e_v2, i_v2, h⟩ := rd_s hR h
    refine E_trees_l C0 hE i_p1 e_v2 dX7_reaches_18 ?_
    refine lv_aload_n C0.1 C0.2.1 dX7_reaches_19 rfl (lv_at hl 0 rfl) ?_
    refine E_g_sizes C0 hE fk_X7_53 dX7_reaches_20 ?_
    refine lv_iload_n C0.1 C0.2.1 dX7_reaches_23 rfl (lv_at hl 1 rfl) ?_
    obtain ⟨v3, e_v3, i_v3, h⟩ := rd_s hR h
    refine E_sizes_l C0 hE i_p1 e_v3 dX7_reaches_24 ?_
    refine lv_aload_n C0.1 C0.2.1 dX7_reaches_25 rfl (lv_at hl 0 rfl) ?_
    refine E_g_one C0 hE fk_X7_56 dX7_reaches_26 ?_
    obtain ⟨v4, s5, h_v4, h⟩ := bnd_s h
    refine callV_v (rest := []) C0 hml hE (Pool_rec C0 hE) (c_Pool_read_one l D g hR i_v2 i_v3 h_v4) kw_X7_201 ⟨Nat.le_of_ble_eq_true rfl, Nat.le_of_ble_eq_true rfl⟩ rfl hl.1 rfl (Nat.le_of_ble_eq_true rfl) dX7_reaches_29 ⟨Nat.zero_le _, Nat.zero_le _⟩ (fun H locs hE hR => ?_)
    refine lv_iconst (v := I 0) C0.1 C0.2.1 dX7_reaches_32 rfl ?_
    refine lv_istore_n (lv' := [(3, .int (I 0)), (0, .ref (g.2 0)), (1, .int (I p1)), (2, .int (I p2))]) C0.1 C0.2.1 dX7_reaches_33 rfl hl (by decide) rfl (fun ls hl => ?_)
    refine lv_iconst (v := I 0) C0.1 C0.2.1 dX7_reaches_34 rfl ?_
    refine lv_istore (lv' := [(4, .int (I 0)), (3, .int (I 0)), (0, .ref (g.2 0)), (1, .int (I p1)), (2, .int (I p2))]) C0.1 C0.2.1 dX7_reaches_35 hl (by decide) rfl (fun ls hl => ?_)
    obtain ⟨k8, e_k8, h⟩ := jn_s h
    have h_k8 : ∀ (x6 : Int) (i_x6 : in32 x6) (x7 : Int) (i_x7 : in32 x7) (H : Heap) (locs : List Loc) (ls : Array Slot), EW D (va_A (wE g σ) sz) s.heap (wE g s5) H locs → lv_has ls 5 [(0, .ref (g.2 0)), (2, .int (I p2)), (3, .int (I x6)), (4, .int (I x7))] → k8 x6 x7 = some (r, σr) → W p l e (rmk 5) s m args below meth c H locs 0 0 (MQ below (QCi D (wE g σr) r (in32 r ∧ R32 σr) (va_A (wE g σ) sz)) args s 0 0 (va_A (wE g σ) sz)) (F0 m 69 ls []) := by
      intro x6 i_x6 x7 i_x7 H locs ls hE hl h
      have h := (congrFun (congrFun e_k8 x6) x7).symm.trans h
      refine lv_iload_n C0.1 C0.2.1 dX7_reaches_69 rfl (lv_at hl 2 rfl) ?_
      refine lv_iload_n C0.1 C0.2.1 dX7_reaches_70 rfl (lv_at hl 1 rfl) ?_
      refine x_icmp_ge C0 i_x6 i_p2 dX7_reaches_71 (tgt := 77) (by decide) (fun c9 => ?_) (fun c9 => ?_)
      · have h := ite_f c9 h
        refine lv_aload_n C0.1 C0.2.1 dX7_reaches_77 rfl (lv_at hl 0 rfl) ?_
        refine E_g_told C0 hE fk_X7_19 dX7_reaches_78 ?_
        refine lv_iload_n C0.1 C0.2.1 dX7_reaches_81 rfl (lv_at hl 2 rfl) ?_
        refine x_i2l C0 i_x6 dX7_reaches_82 ?_
        obtain ⟨v9, s10, h_v9, h⟩ := bnd_s h
        refine callV_v (rest := []) C0 hml hE (Row_rec C0 hE) (c_Row_tell l D g hR (in64_of i_x6) h_v9) kw_X7_171 ⟨Nat.le_of_ble_eq_true rfl, Nat.le_of_ble_eq_true rfl⟩ rfl hl.1 rfl (Nat.le_of_ble_eq_true rfl) dX7_reaches_83 ⟨Nat.zero_le _, Nat.zero_le _⟩ (fun H locs hE hR => ?_)
        refine lv_iload C0.1 C0.2.1 dX7_reaches_86 (lv_at hl 3 rfl) ?_
        exact ret_i (wf := wE g) C0 hr hlk hE h i_x7 hR dX7_reaches_88
      · have h := ite_t c9 h
        refine lv_bipush (v := I (-2)) C0.1 C0.2.1 dX7_reaches_74 (by decide +kernel) ?_
        exact ret_i (wf := wE g) C0 hr hlk hE h lit_m2 hR dX7_reaches_76
    have hL37 : ∀ (n : Nat) (x11 : Int) (i_x11 : in32 x11) (x12 : Int) (i_x12 : in32 x12) (H : Heap) (locs : List Loc) (ls : Array Slot), EW D (va_A (wE g σ) sz) s.heap (wE g s5) H locs → lv_has ls 5 [(0, .ref (g.2 0)), (1, .int (I p1)), (2, .int (I p2)), (3, .int (I x11)), (4, .int (I x12))] → E_reaches_L37 k8 s5 p1 p2 n x11 x12 = some (r, σr) → W p l e (rmk 5) s m args below meth c H locs 0 0 (MQ below (QCi D (wE g σr) r (in32 r ∧ R32 σr) (va_A (wE g σ) sz)) args s 0 0 (va_A (wE g σ) sz)) (F0 m 37 ls []) := by
      intro n
      induction n with
      | zero => intros; rename_i h; cases h
      | succ n ih13 =>
        intro x11 i_x11 x12 i_x12 H locs ls hE hl h
        unfold E_reaches_L37 at h
        refine lv_iload C0.1 C0.2.1 dX7_reaches_37 (lv_at hl 4 rfl) ?_
        refine lv_aload_n C0.1 C0.2.1 dX7_reaches_39 rfl (lv_at hl 0 rfl) ?_
        refine E_g_sizes C0 hE fk_X7_53 dX7_reaches_40 ?_
        refine lv_iload_n C0.1 C0.2.1 dX7_reaches_43 rfl (lv_at hl 1 rfl) ?_
        obtain ⟨v14, e_v14, i_v14, h⟩ := rd_s hR h
        refine E_sizes_l C0 hE i_p1 e_v14 dX7_reaches_44 ?_
        refine x_icmp_ge C0 i_x12 i_v14 dX7_reaches_45 (tgt := 69) (by decide) (fun c9 => ?_) (fun c9 => ?_)
        · have h := ite_f c9 h
          exact h_k8 x11 i_x11 x12 i_x12 _ _ _ hE (lv_sub hl [0, 2, 3, 4] rfl) h
        · have h := ite_t c9 h
          refine lv_iload_n C0.1 C0.2.1 dX7_reaches_48 rfl (lv_at hl 3 rfl) ?_
          refine lv_iload_n C0.1 C0.2.1 dX7_reaches_49 rfl (lv_at hl 2 rfl) ?_
          refine x_icmp_ge C0 i_x11 i_p2 dX7_reaches_50 (tgt := 69) (by decide) (fun c9 => ?_) (fun c9 => ?_)
          · have h := ite_f c9 h
            exact h_k8 x11 i_x11 x12 i_x12 _ _ _ hE (lv_sub hl [0, 2, 3, 4] rfl) h
          · have h := ite_t c9 h
            refine lv_iload_n C0.1 C0.2.1 dX7_reaches_53 rfl (lv_at hl 3 rfl) ?_
            refine lv_aload_n C0.1 C0.2.1 dX7_reaches_54 rfl (lv_at hl 0 rfl) ?_
            refine E_g_one C0 hE fk_X7_56 dX7_reaches_55 ?_
            refine lv_iload C0.1 C0.2.1 dX7_reaches_58 (lv_at hl 4 rfl) ?_
            obtain ⟨v15, e_v15, i_v15, h⟩ := rd_s hR h
            refine E_one_l C0 hE i_x12 e_v15 dX7_reaches_60 ?_
            obtain ⟨v16, e_v16, i_v16, h⟩ := oadd_s h
            refine x_add C0 e_v16 dX7_reaches_61 ?_
            refine lv_istore_n (lv' := [(3, .int (I v16)), (0, .ref (g.2 0)), (1, .int (I p1)), (2, .int (I p2)), (4, .int (I x12))]) C0.1 C0.2.1 dX7_reaches_62 rfl hl (by decide) rfl (fun ls hl => ?_)
            obtain ⟨v17, e_v17, i_v17, h⟩ := oadd_s h
            refine x_iinc (lv' := [(4, .int (I v17)), (3, .int (I v16)), (0, .ref (g.2 0)), (1, .int (I p1)), (2, .int (I p2))]) C0 dX7_reaches_63 hl (k := 4) rfl e_v17 (by decide) rfl (fun ls hl => ?_)
            refine x_goto C0 dX7_reaches_66 (tgt := 37) (by decide) ?_
            exact ih13 v16 i_v16 v17 i_v17 _ _ _ hE (lv_sub hl [2, 3, 4, 1, 0] rfl) h
    exact hL37 FU 0 lit_0 0 lit_0 _ _ _ hE (lv_sub hl [2, 3, 4, 1, 0] rfl) h
  · have h := ite_t c9 h
    refine lv_iconst (v := I (-1)) C0.1 C0.2.1 dX7_reaches_7 rfl ?_
    exact ret_i (wf := wE g) C0 hr hlk hE h lit_m1 hR dX7_reaches_8
set_option maxRecDepth 100000 in
set_option maxHeartbeats 4000000 in
theorem c_E_standsAt (l : Launch) (D : va_G) (g : Ad) {σ : St} {p1 p2 r : Int} (hR : R32 σ) (i_p1 : in32 p1) (i_p2 : in32 p2) (h : E_standsAt σ p1 p2 = some r) : CtI l D g yX7_standsAt cX7_standsAt 4 (some .boolean) 1 (wE g σ) (wE g σ) [.ref (g.2 0), .int (I p1), .int (I p2)] r (in32 r) := by
  intro sz
  refine met_of (by decide) (Nat.le_of_ble_eq_true rfl) (fun p e s m args below meth c ls H locs C0 hml hr hlk hE hl => ?_)
  have C0 : CX p c cX7_standsAt m s args D g RX7 := C0
  have hl : lv_has ls 4 [(0, .ref (g.2 0)), (1, .int (I p1)), (2, .int (I p2))] := hl
  unfold E_standsAt at h
  refine lv_iconst (v := I 0) C0.1 C0.2.1 dX7_standsAt_0 rfl ?_
  refine lv_istore_n (lv' := [(3, .int (I 0)), (0, .ref (g.2 0)), (1, .int (I p1)), (2, .int (I p2))]) C0.1 C0.2.1 dX7_standsAt_1 rfl hl (by decide) rfl (fun ls hl => ?_)
  obtain ⟨k2, e_k2, h⟩ := jn_s h
  have h_k2 : ∀ (x1 : Int) (i_x1 : in32 x1) (H : Heap) (locs : List Loc) (ls : Array Slot), EW D (va_A (wE g σ) sz) s.heap (wE g σ) H locs → lv_has ls 4 [(2, .int (I p2)), (3, .int (I x1))] → k2 x1 = some r → W p l e (rmk 1) s m args below meth c H locs 0 0 (MQ below (QCi D (wE g σ) r (in32 r) (va_A (wE g σ) sz)) args s 0 0 (va_A (wE g σ) sz)) (F0 m 30 ls []) := by
    intro x1 i_x1 H locs ls hE hl h
    have h := (congrFun e_k2 x1).symm.trans h
    refine lv_iload_n C0.1 C0.2.1 dX7_standsAt_30 rfl (lv_at hl 1 rfl) ?_
    refine lv_iload_n C0.1 C0.2.1 dX7_standsAt_31 rfl (lv_at hl 0 rfl) ?_
    obtain ⟨v3, e_v3, i_v3, h⟩ := oif_s h
    have kk_v3 : W p l e (rmk 1) s m args below meth c H locs 0 0 (MQ below (QCi D (wE g σ) r (in32 r) (va_A (wE g σ) sz)) args s 0 0 (va_A (wE g σ) sz)) (F0 m 40 ls [.int (I v3)]) := by
      obtain ⟨z9, h⟩ := retZp_s h
      exact pret_z C0 hr hlk hE z9 h dX7_standsAt_40
    refine x_icmp_ne C0 i_x1 i_p2 dX7_standsAt_32 (tgt := 39) (by decide) (fun c9 => ?_) (fun c9 => ?_)
    · have e9 := e_v3.trans (if_neg c9)
      refine lv_iconst (v := I 0) C0.1 C0.2.1 dX7_standsAt_39 rfl ?_
      rw [e9] at kk_v3; exact kk_v3
    · have e9 := e_v3.trans (if_pos c9)
      refine lv_iconst (v := I 1) C0.1 C0.2.1 dX7_standsAt_35 rfl ?_
      refine x_goto C0 dX7_standsAt_36 (tgt := 40) (by decide) ?_
      rw [e9] at kk_v3; exact kk_v3
  have hL2 : ∀ (n : Nat) (x4 : Int) (i_x4 : in32 x4) (H : Heap) (locs : List Loc) (ls : Array Slot), EW D (va_A (wE g σ) sz) s.heap (wE g σ) H locs → lv_has ls 4 [(0, .ref (g.2 0)), (1, .int (I p1)), (2, .int (I p2)), (3, .int (I x4))] → E_standsAt_L2 k2 σ p1 p2 n x4 = some r → W p l e (rmk 1) s m args below meth c H locs 0 0 (MQ below (QCi D (wE g σ) r (in32 r) (va_A (wE g σ) sz)) args s 0 0 (va_A (wE g σ) sz)) (F0 m 2 ls []) := by
    intro n
    induction n with
    | zero => intros; rename_i h; cases h
    | succ n ih5 =>
      intro x4 i_x4 H locs ls hE hl h
      unfold E_standsAt_L2 at h
      refine lv_iload_n C0.1 C0.2.1 dX7_standsAt_2 rfl (lv_at hl 3 rfl) ?_
      refine lv_iload_n C0.1 C0.2.1 dX7_standsAt_3 rfl (lv_at hl 2 rfl) ?_
      refine x_icmp_ge C0 i_x4 i_p2 dX7_standsAt_4 (tgt := 30) (by decide) (fun c9 => ?_) (fun c9 => ?_)
      · have h := ite_f c9 h
        exact h_k2 x4 i_x4 _ _ _ hE (lv_sub hl [2, 3] rfl) h
      · have h := ite_t c9 h
        refine lv_aload_n C0.1 C0.2.1 dX7_standsAt_7 rfl (lv_at hl 0 rfl) ?_
        refine E_g_one C0 hE fk_X7_56 dX7_standsAt_8 ?_
        refine lv_iload_n C0.1 C0.2.1 dX7_standsAt_11 rfl (lv_at hl 1 rfl) ?_
        refine lv_iload_n C0.1 C0.2.1 dX7_standsAt_12 rfl (lv_at hl 3 rfl) ?_
        obtain ⟨v6, e_v6, i_v6, h⟩ := oadd_s h
        refine x_add C0 e_v6 dX7_standsAt_13 ?_
        obtain ⟨v7, e_v7, i_v7, h⟩ := rd_s hR h
        refine E_one_l C0 hE i_v6 e_v7 dX7_standsAt_14 ?_
        refine lv_aload_n C0.1 C0.2.1 dX7_standsAt_15 rfl (lv_at hl 0 rfl) ?_
        refine E_g_other C0 hE fk_X7_59 dX7_standsAt_16 ?_
        refine lv_iload_n C0.1 C0.2.1 dX7_standsAt_19 rfl (lv_at hl 3 rfl) ?_
        obtain ⟨v8, e_v8, i_v8, h⟩ := rd_s hR h
        refine E_other_l C0 hE i_x4 e_v8 dX7_standsAt_20 ?_
        refine x_icmp_ne C0 i_v7 i_v8 dX7_standsAt_21 (tgt := 30) (by decide) (fun c9 => ?_) (fun c9 => ?_)
        · have h := ite_f c9 h
          exact h_k2 x4 i_x4 _ _ _ hE (lv_sub hl [2, 3] rfl) h
        · have h := ite_t c9 h
          obtain ⟨v9, e_v9, i_v9, h⟩ := oadd_s h
          refine x_iinc (lv' := [(3, .int (I v9)), (0, .ref (g.2 0)), (1, .int (I p1)), (2, .int (I p2))]) C0 dX7_standsAt_24 hl (k := 3) rfl e_v9 (by decide) rfl (fun ls hl => ?_)
          refine x_goto C0 dX7_standsAt_27 (tgt := 2) (by decide) ?_
          exact ih5 v9 i_v9 _ _ _ hE (lv_sub hl [1, 2, 3, 0] rfl) h
  exact hL2 FU 0 lit_0 _ _ _ hE (lv_sub hl [1, 2, 3, 0] rfl) h
set_option maxRecDepth 100000 in
set_option maxHeartbeats 4000000 in
theorem c_E_occurs (l : Launch) (D : va_G) (g : Ad) {σ σr : St} {p1 p2 r : Int} (hR : R32 σ) (i_p1 : in32 p1) (i_p2 : in32 p2) (h : E_occurs σ p1 p2 = some (r, σr)) : CtI l D g yX7_occurs cX7_occurs 7 (some .int) 6 (wE g σ) (wE g σr) [.ref (g.2 0), .int (I p1), .int (I p2)] r (in32 r ∧ R32 σr) := by
  intro sz
  refine met_of (by decide) (Nat.le_of_ble_eq_true rfl) (fun p e s m args below meth c ls H locs C0 hml hr hlk hE hl => ?_)
  have C0 : CX p c cX7_occurs m s args D g RX7 := C0
  have hl : lv_has ls 7 [(0, .ref (g.2 0)), (1, .int (I p1)), (2, .int (I p2))] := hl
  unfold E_occurs at h
  refine lv_iload_n C0.1 C0.2.1 dX7_occurs_0 rfl (lv_at hl 1 rfl) ?_
  obtain ⟨v1, h_v1, h⟩ := bndp_s h
  refine callS_i (rest := []) C0 hml hE (c_E_isPlace l D g (σ := σ) i_p1 h_v1) kw_X7_86 ⟨Nat.le_of_ble_eq_true rfl, Nat.le_of_ble_eq_true rfl⟩ rfl hl.1 rfl (Nat.le_of_ble_eq_true rfl) dX7_occurs_1 ⟨Nat.zero_le _, Nat.zero_le _⟩ (fun H locs hE i_v1 => ?_)
  refine x_if_eq C0 i_v1 dX7_occurs_4 (tgt := 14) (by decide) (fun c9 => ?_) (fun c9 => ?_)
  · have h := ite_t c9 h
    refine lv_iconst (v := I (-1)) C0.1 C0.2.1 dX7_occurs_14 rfl ?_
    exact ret_i (wf := wE g) C0 hr hlk hE h lit_m1 hR dX7_occurs_15
  · have h := ite_f c9 h
    refine lv_iload_n C0.1 C0.2.1 dX7_occurs_7 rfl (lv_at hl 2 rfl) ?_
    obtain ⟨v2, h_v2, h⟩ := bndp_s h
    refine callS_i (rest := []) C0 hml hE (c_E_isPlace l D g (σ := σ) i_p2 h_v2) kw_X7_86 ⟨Nat.le_of_ble_eq_true rfl, Nat.le_of_ble_eq_true rfl⟩ rfl hl.1 rfl (Nat.le_of_ble_eq_true rfl) dX7_occurs_8 ⟨Nat.zero_le _, Nat.zero_le _⟩ (fun H locs hE i_v2 => ?_)
    refine x_if_ne C0 i_v2 dX7_occurs_11 (tgt := 16) (by decide) (fun c9 => ?_) (fun c9 => ?_)
    · have h := ite_f c9 h
      refine lv_aload_n C0.1 C0.2.1 dX7_occurs_16 rfl (lv_at hl 0 rfl) ?_
      refine lv_iload_n C0.1 C0.2.1 dX7_occurs_17 rfl (lv_at hl 1 rfl) ?_
      refine lv_iload_n C0.1 C0.2.1 dX7_occurs_18 rfl (lv_at hl 2 rfl) ?_
      obtain ⟨v3, s4, h_v3, h⟩ := bnd_s h
      refine callV_v (rest := []) C0 hml hE (E_rec C0 hE) (c_E_readBoth l D g hR i_p1 i_p2 h_v3) kw_X7_177 ⟨Nat.le_of_ble_eq_true rfl, Nat.le_of_ble_eq_true rfl⟩ rfl hl.1 rfl (Nat.le_of_ble_eq_true rfl) dX7_occurs_19 ⟨Nat.zero_le _, Nat.zero_le _⟩ (fun H locs hE hR => ?_)
      refine lv_iconst (v := I 0) C0.1 C0.2.1 dX7_occurs_22 rfl ?_
      refine lv_istore_n (lv' := [(3, .int (I 0)), (0, .ref (g.2 0)), (1, .int (I p1)), (2, .int (I p2))]) C0.1 C0.2.1 dX7_occurs_23 rfl hl (by decide) rfl (fun ls hl => ?_)
      refine lv_iconst (v := I (-1)) C0.1 C0.2.1 dX7_occurs_24 rfl ?_
      refine lv_istore (lv' := [(4, .int (I (-1))), (3, .int (I 0)), (0, .ref (g.2 0)), (1, .int (I p1)), (2, .int (I p2))]) C0.1 C0.2.1 dX7_occurs_25 hl (by decide) rfl (fun ls hl => ?_)
      refine lv_iconst (v := I (-1)) C0.1 C0.2.1 dX7_occurs_27 rfl ?_
      refine lv_istore (lv' := [(5, .int (I (-1))), (4, .int (I (-1))), (3, .int (I 0)), (0, .ref (g.2 0)), (1, .int (I p1)), (2, .int (I p2))]) C0.1 C0.2.1 dX7_occurs_28 hl (by decide) rfl (fun ls hl => ?_)
      refine lv_iconst (v := I 0) C0.1 C0.2.1 dX7_occurs_30 rfl ?_
      refine lv_istore (lv' := [(6, .int (I 0)), (5, .int (I (-1))), (4, .int (I (-1))), (3, .int (I 0)), (0, .ref (g.2 0)), (1, .int (I p1)), (2, .int (I p2))]) C0.1 C0.2.1 dX7_occurs_31 hl (by decide) rfl (fun ls hl => ?_)
      obtain ⟨k8, e_k8, h⟩ := jn_s h
      have h_k8 : ∀ (x5 : Int) (i_x5 : in32 x5) (x6 : Int) (i_x6 : in32 x6) (x7 : Int) (i_x7 : in32 x7) (H : Heap) (locs : List Loc) (ls : Array Slot), EW D (va_A (wE g σ) sz) s.heap (wE g s4) H locs → lv_has ls 7 [(0, .ref (g.2 0)), (3, .int (I x5)), (4, .int (I x6)), (5, .int (I x7))] → k8 x5 x6 x7 = some (r, σr) → W p l e (rmk 6) s m args below meth c H locs 0 0 (MQ below (QCi D (wE g σr) r (in32 r ∧ R32 σr) (va_A (wE g σ) sz)) args s 0 0 (va_A (wE g σ) sz)) (F0 m 92 ls []) := by
        intro x5 i_x5 x6 i_x6 x7 i_x7 H locs ls hE hl h
        have h := (congrFun (congrFun (congrFun e_k8 x5) x6) x7).symm.trans h
        refine lv_aload_n C0.1 C0.2.1 dX7_occurs_92 rfl (lv_at hl 0 rfl) ?_
        refine E_g_told C0 hE fk_X7_19 dX7_occurs_93 ?_
        refine lv_iload C0.1 C0.2.1 dX7_occurs_96 (lv_at hl 2 rfl) ?_
        refine x_i2l C0 i_x6 dX7_occurs_98 ?_
        refine lv_iload C0.1 C0.2.1 dX7_occurs_99 (lv_at hl 3 rfl) ?_
        refine x_i2l C0 i_x7 dX7_occurs_101 ?_
        obtain ⟨v9, s10, h_v9, h⟩ := bnd_s h
        refine callV_v (rest := []) C0 hml hE (Row_rec C0 hE) (c_Row_tell1 l D g hR (in64_of i_x6) (in64_of i_x7) h_v9) kw_X7_162 ⟨Nat.le_of_ble_eq_true rfl, Nat.le_of_ble_eq_true rfl⟩ rfl hl.1 rfl (Nat.le_of_ble_eq_true rfl) dX7_occurs_102 ⟨Nat.zero_le _, Nat.zero_le _⟩ (fun H locs hE hR => ?_)
        refine lv_iload_n C0.1 C0.2.1 dX7_occurs_105 rfl (lv_at hl 1 rfl) ?_
        exact ret_i (wf := wE g) C0 hr hlk hE h i_x5 hR dX7_occurs_106
      have hL33 : ∀ (n : Nat) (x11 : Int) (i_x11 : in32 x11) (x12 : Int) (i_x12 : in32 x12) (x13 : Int) (i_x13 : in32 x13) (x14 : Int) (i_x14 : in32 x14) (H : Heap) (locs : List Loc) (ls : Array Slot), EW D (va_A (wE g σ) sz) s.heap (wE g s4) H locs → lv_has ls 7 [(0, .ref (g.2 0)), (1, .int (I p1)), (2, .int (I p2)), (3, .int (I x11)), (4, .int (I x12)), (5, .int (I x13)), (6, .int (I x14))] → E_occurs_L33 k8 s4 p1 p2 n x11 x12 x13 x14 = some (r, σr) → W p l e (rmk 6) s m args below meth c H locs 0 0 (MQ below (QCi D (wE g σr) r (in32 r ∧ R32 σr) (va_A (wE g σ) sz)) args s 0 0 (va_A (wE g σ) sz)) (F0 m 33 ls []) := by
        intro n
        induction n with
        | zero => intros; rename_i h; cases h
        | succ n ih15 =>
          intro x11 i_x11 x12 i_x12 x13 i_x13 x14 i_x14 H locs ls hE hl h
          unfold E_occurs_L33 at h
          refine lv_iload C0.1 C0.2.1 dX7_occurs_33 (lv_at hl 6 rfl) ?_
          refine lv_aload_n C0.1 C0.2.1 dX7_occurs_35 rfl (lv_at hl 0 rfl) ?_
          refine E_g_sizes C0 hE fk_X7_53 dX7_occurs_36 ?_
          refine lv_iload_n C0.1 C0.2.1 dX7_occurs_39 rfl (lv_at hl 2 rfl) ?_
          obtain ⟨v16, e_v16, i_v16, h⟩ := rd_s hR h
          refine E_sizes_l C0 hE i_p2 e_v16 dX7_occurs_40 ?_
          obtain ⟨v17, e_v17, i_v17, h⟩ := oadd_s h
          refine x_add C0 e_v17 dX7_occurs_41 ?_
          refine lv_aload_n C0.1 C0.2.1 dX7_occurs_42 rfl (lv_at hl 0 rfl) ?_
          refine E_g_sizes C0 hE fk_X7_53 dX7_occurs_43 ?_
          refine lv_iload_n C0.1 C0.2.1 dX7_occurs_46 rfl (lv_at hl 1 rfl) ?_
          obtain ⟨v18, e_v18, i_v18, h⟩ := rd_s hR h
          refine E_sizes_l C0 hE i_p1 e_v18 dX7_occurs_47 ?_
          refine x_icmp_gt C0 i_v17 i_v18 dX7_occurs_48 (tgt := 92) (by decide) (fun c9 => ?_) (fun c9 => ?_)
          · have h := ite_t c9 h
            exact h_k8 x11 i_x11 x12 i_x12 x13 i_x13 _ _ _ hE (lv_sub hl [0, 3, 4, 5] rfl) h
          · have h := ite_f c9 h
            refine lv_aload_n C0.1 C0.2.1 dX7_occurs_51 rfl (lv_at hl 0 rfl) ?_
            refine lv_iload C0.1 C0.2.1 dX7_occurs_52 (lv_at hl 6 rfl) ?_
            refine lv_aload_n C0.1 C0.2.1 dX7_occurs_54 rfl (lv_at hl 0 rfl) ?_
            refine E_g_sizes C0 hE fk_X7_53 dX7_occurs_55 ?_
            refine lv_iload_n C0.1 C0.2.1 dX7_occurs_58 rfl (lv_at hl 2 rfl) ?_
            obtain ⟨v19, e_v19, i_v19, h⟩ := rd_s hR h
            refine E_sizes_l C0 hE i_p2 e_v19 dX7_occurs_59 ?_
            obtain ⟨v20, h_v20, h⟩ := bndp_s h
            refine callV_i (rest := []) C0 hml hE (E_rec C0 hE) (c_E_standsAt l D g hR i_x14 i_v19 h_v20) kw_X7_256 ⟨Nat.le_of_ble_eq_true rfl, Nat.le_of_ble_eq_true rfl⟩ rfl hl.1 rfl (Nat.le_of_ble_eq_true rfl) dX7_occurs_60 ⟨Nat.zero_le _, Nat.zero_le _⟩ (fun H locs hE i_v20 => ?_)
            obtain ⟨k24, e_k24, h⟩ := jn_s h
            have h_k24 : ∀ (x21 : Int) (i_x21 : in32 x21) (x22 : Int) (i_x22 : in32 x22) (x23 : Int) (i_x23 : in32 x23) (H : Heap) (locs : List Loc) (ls : Array Slot), EW D (va_A (wE g σ) sz) s.heap (wE g s4) H locs → lv_has ls 7 [(0, .ref (g.2 0)), (1, .int (I p1)), (2, .int (I p2)), (3, .int (I x21)), (4, .int (I x22)), (5, .int (I x23)), (6, .int (I x14))] → k24 x21 x22 x23 = some (r, σr) → W p l e (rmk 6) s m args below meth c H locs 0 0 (MQ below (QCi D (wE g σr) r (in32 r ∧ R32 σr) (va_A (wE g σ) sz)) args s 0 0 (va_A (wE g σ) sz)) (F0 m 86 ls []) := by
              intro x21 i_x21 x22 i_x22 x23 i_x23 H locs ls hE hl h
              have h := (congrFun (congrFun (congrFun e_k24 x21) x22) x23).symm.trans h
              obtain ⟨v25, e_v25, i_v25, h⟩ := oadd_s h
              refine x_iinc (lv' := [(6, .int (I v25)), (0, .ref (g.2 0)), (1, .int (I p1)), (2, .int (I p2)), (3, .int (I x21)), (4, .int (I x22)), (5, .int (I x23))]) C0 dX7_occurs_86 hl (k := 6) rfl e_v25 (by decide) rfl (fun ls hl => ?_)
              refine x_goto C0 dX7_occurs_89 (tgt := 33) (by decide) ?_
              exact ih15 x21 i_x21 x22 i_x22 x23 i_x23 v25 i_v25 _ _ _ hE (lv_sub hl [1, 2, 3, 4, 5, 6, 0] rfl) h
            refine x_if_eq C0 i_v20 dX7_occurs_63 (tgt := 86) (by decide) (fun c9 => ?_) (fun c9 => ?_)
            · have h := ite_t c9 h
              exact h_k24 x11 i_x11 x12 i_x12 x13 i_x13 _ _ _ hE (lv_sub hl [0, 1, 2, 3, 4, 5, 6] rfl) h
            · have h := ite_f c9 h
              refine lv_iload_n C0.1 C0.2.1 dX7_occurs_66 rfl (lv_at hl 3 rfl) ?_
              obtain ⟨v26, e_v26, i_v26, h⟩ := oif_s h
              have kk_v26 : W p l e (rmk 6) s m args below meth c H locs 0 0 (MQ below (QCi D (wE g σr) r (in32 r ∧ R32 σr) (va_A (wE g σ) sz)) args s 0 0 (va_A (wE g σ) sz)) (F0 m 77 ls [.int (I v26)]) := by
                refine lv_istore (lv' := [(4, .int (I v26)), (0, .ref (g.2 0)), (1, .int (I p1)), (2, .int (I p2)), (3, .int (I x11)), (5, .int (I x13)), (6, .int (I x14))]) C0.1 C0.2.1 dX7_occurs_77 hl (by decide) rfl (fun ls hl => ?_)
                refine lv_iload C0.1 C0.2.1 dX7_occurs_79 (lv_at hl 6 rfl) ?_
                refine lv_istore (lv' := [(5, .int (I x14)), (4, .int (I v26)), (0, .ref (g.2 0)), (1, .int (I p1)), (2, .int (I p2)), (3, .int (I x11)), (6, .int (I x14))]) C0.1 C0.2.1 dX7_occurs_81 hl (by decide) rfl (fun ls hl => ?_)
                obtain ⟨v27, e_v27, i_v27, h⟩ := oadd_s h
                refine x_iinc (lv' := [(3, .int (I v27)), (5, .int (I x14)), (4, .int (I v26)), (0, .ref (g.2 0)), (1, .int (I p1)), (2, .int (I p2)), (6, .int (I x14))]) C0 dX7_occurs_83 hl (k := 5) rfl e_v27 (by decide) rfl (fun ls hl => ?_)
                exact h_k24 v27 i_v27 v26 i_v26 x14 i_x14 _ _ _ hE (lv_sub hl [3, 4, 5, 0, 2, 1, 6] rfl) h
              refine x_if_ne C0 i_x11 dX7_occurs_67 (tgt := 75) (by decide) (fun c9 => ?_) (fun c9 => ?_)
              · have e9 := e_v26.trans (if_neg c9)
                refine lv_iload C0.1 C0.2.1 dX7_occurs_75 (lv_at hl 4 rfl) ?_
                rw [e9] at kk_v26; exact kk_v26
              · have e9 := e_v26.trans (if_pos c9)
                refine lv_iload C0.1 C0.2.1 dX7_occurs_70 (lv_at hl 6 rfl) ?_
                refine x_goto C0 dX7_occurs_72 (tgt := 77) (by decide) ?_
                rw [e9] at kk_v26; exact kk_v26
      exact hL33 FU 0 lit_0 (-1) lit_m1 (-1) lit_m1 0 lit_0 _ _ _ hE (lv_sub hl [4, 5, 6, 3, 2, 1, 0] rfl) h
    · have h := ite_t c9 h
      refine lv_iconst (v := I (-1)) C0.1 C0.2.1 dX7_occurs_14 rfl ?_
      exact ret_i (wf := wE g) C0 hr hlk hE h lit_m1 hR dX7_occurs_15
set_option maxRecDepth 100000 in
set_option maxHeartbeats 4000000 in
theorem c_E_differs (l : Launch) (D : va_G) (g : Ad) {σ σr : St} {p1 p2 r : Int} (hR : R32 σ) (i_p1 : in32 p1) (i_p2 : in32 p2) (h : E_differs σ p1 p2 = some (r, σr)) : CtI l D g yX7_differs cX7_differs 3 (some .int) 6 (wE g σ) (wE g σr) [.ref (g.2 0), .int (I p1), .int (I p2)] r (in32 r ∧ R32 σr) := by
  intro sz
  refine met_of (by decide) (Nat.le_of_ble_eq_true rfl) (fun p e s m args below meth c ls H locs C0 hml hr hlk hE hl => ?_)
  have C0 : CX p c cX7_differs m s args D g RX7 := C0
  have hl : lv_has ls 3 [(0, .ref (g.2 0)), (1, .int (I p1)), (2, .int (I p2))] := hl
  unfold E_differs at h
  refine lv_iload_n C0.1 C0.2.1 dX7_differs_0 rfl (lv_at hl 1 rfl) ?_
  obtain ⟨v1, h_v1, h⟩ := bndp_s h
  refine callS_i (rest := []) C0 hml hE (c_E_isPlace l D g (σ := σ) i_p1 h_v1) kw_X7_86 ⟨Nat.le_of_ble_eq_true rfl, Nat.le_of_ble_eq_true rfl⟩ rfl hl.1 rfl (Nat.le_of_ble_eq_true rfl) dX7_differs_1 ⟨Nat.zero_le _, Nat.zero_le _⟩ (fun H locs hE i_v1 => ?_)
  refine x_if_eq C0 i_v1 dX7_differs_4 (tgt := 14) (by decide) (fun c9 => ?_) (fun c9 => ?_)
  · have h := ite_t c9 h
    refine lv_iconst (v := I (-1)) C0.1 C0.2.1 dX7_differs_14 rfl ?_
    exact ret_i (wf := wE g) C0 hr hlk hE h lit_m1 hR dX7_differs_15
  · have h := ite_f c9 h
    refine lv_iload_n C0.1 C0.2.1 dX7_differs_7 rfl (lv_at hl 2 rfl) ?_
    obtain ⟨v2, h_v2, h⟩ := bndp_s h
    refine callS_i (rest := []) C0 hml hE (c_E_isPlace l D g (σ := σ) i_p2 h_v2) kw_X7_86 ⟨Nat.le_of_ble_eq_true rfl, Nat.le_of_ble_eq_true rfl⟩ rfl hl.1 rfl (Nat.le_of_ble_eq_true rfl) dX7_differs_8 ⟨Nat.zero_le _, Nat.zero_le _⟩ (fun H locs hE i_v2 => ?_)
    refine x_if_ne C0 i_v2 dX7_differs_11 (tgt := 16) (by decide) (fun c9 => ?_) (fun c9 => ?_)
    · have h := ite_f c9 h
      refine lv_aload_n C0.1 C0.2.1 dX7_differs_16 rfl (lv_at hl 0 rfl) ?_
      refine E_g_sizes C0 hE fk_X7_53 dX7_differs_17 ?_
      refine lv_iload_n C0.1 C0.2.1 dX7_differs_20 rfl (lv_at hl 1 rfl) ?_
      obtain ⟨v3, e_v3, i_v3, h⟩ := rd_s hR h
      refine E_sizes_l C0 hE i_p1 e_v3 dX7_differs_21 ?_
      refine lv_aload_n C0.1 C0.2.1 dX7_differs_22 rfl (lv_at hl 0 rfl) ?_
      refine E_g_sizes C0 hE fk_X7_53 dX7_differs_23 ?_
      refine lv_iload_n C0.1 C0.2.1 dX7_differs_26 rfl (lv_at hl 2 rfl) ?_
      obtain ⟨v4, e_v4, i_v4, h⟩ := rd_s hR h
      refine E_sizes_l C0 hE i_p2 e_v4 dX7_differs_27 ?_
      refine x_icmp_eq C0 i_v3 i_v4 dX7_differs_28 (tgt := 34) (by decide) (fun c9 => ?_) (fun c9 => ?_)
      · have h := ite_t c9 h
        refine lv_aload_n C0.1 C0.2.1 dX7_differs_34 rfl (lv_at hl 0 rfl) ?_
        refine lv_iload_n C0.1 C0.2.1 dX7_differs_35 rfl (lv_at hl 1 rfl) ?_
        refine lv_iload_n C0.1 C0.2.1 dX7_differs_36 rfl (lv_at hl 2 rfl) ?_
        obtain ⟨v5, s6, h_v5, h⟩ := bnd_s h
        refine callV_v (rest := []) C0 hml hE (E_rec C0 hE) (c_E_readBoth l D g hR i_p1 i_p2 h_v5) kw_X7_177 ⟨Nat.le_of_ble_eq_true rfl, Nat.le_of_ble_eq_true rfl⟩ rfl hl.1 rfl (Nat.le_of_ble_eq_true rfl) dX7_differs_37 ⟨Nat.zero_le _, Nat.zero_le _⟩ (fun H locs hE hR => ?_)
        refine lv_aload_n C0.1 C0.2.1 dX7_differs_40 rfl (lv_at hl 0 rfl) ?_
        refine E_g_told C0 hE fk_X7_19 dX7_differs_41 ?_
        refine lv_aload_n C0.1 C0.2.1 dX7_differs_44 rfl (lv_at hl 0 rfl) ?_
        refine lv_aload_n C0.1 C0.2.1 dX7_differs_45 rfl (lv_at hl 0 rfl) ?_
        refine E_g_sizes C0 hE fk_X7_53 dX7_differs_46 ?_
        refine lv_iload_n C0.1 C0.2.1 dX7_differs_49 rfl (lv_at hl 1 rfl) ?_
        obtain ⟨v7, e_v7, i_v7, h⟩ := rd_s hR h
        refine E_sizes_l C0 hE i_p1 e_v7 dX7_differs_50 ?_
        obtain ⟨v8, s9, h_v8, h⟩ := bnd_s h
        refine callV_i (rest := [.ref (g.2 2)]) C0 hml hE (E_rec C0 hE) (c_E_markUnlike l D g hR i_v7 h_v8) kw_X7_181 ⟨Nat.le_of_ble_eq_true rfl, Nat.le_of_ble_eq_true rfl⟩ rfl hl.1 rfl (Nat.le_of_ble_eq_true rfl) dX7_differs_51 ⟨Nat.zero_le _, Nat.zero_le _⟩ (fun H locs hE ⟨i_v8, hR⟩ => ?_)
        refine x_i2l C0 i_v8 dX7_differs_54 ?_
        obtain ⟨v10, s11, h_v10, h⟩ := bnd_s h
        refine callV_v (rest := []) C0 hml hE (Row_rec C0 hE) (c_Row_tell l D g hR (in64_of i_v8) h_v10) kw_X7_171 ⟨Nat.le_of_ble_eq_true rfl, Nat.le_of_ble_eq_true rfl⟩ rfl hl.1 rfl (Nat.le_of_ble_eq_true rfl) dX7_differs_55 ⟨Nat.zero_le _, Nat.zero_le _⟩ (fun H locs hE hR => ?_)
        refine lv_aload_n C0.1 C0.2.1 dX7_differs_58 rfl (lv_at hl 0 rfl) ?_
        refine E_g_marked C0 hE fk_X7_45 dX7_differs_59 ?_
        obtain ⟨v12, e_v12, i_v12, h⟩ := gf_s hR h
        refine Ways_n_total C0 hE e_v12 nk_X7_259 dX7_differs_62 ?_
        exact ret_i (wf := wE g) C0 hr hlk hE h i_v12 hR dX7_differs_65
      · have h := ite_f c9 h
        refine lv_bipush (v := I (-2)) C0.1 C0.2.1 dX7_differs_31 (by decide +kernel) ?_
        exact ret_i (wf := wE g) C0 hr hlk hE h lit_m2 hR dX7_differs_33
    · have h := ite_t c9 h
      refine lv_iconst (v := I (-1)) C0.1 C0.2.1 dX7_differs_14 rfl ?_
      exact ret_i (wf := wE g) C0 hr hlk hE h lit_m1 hR dX7_differs_15
set_option maxRecDepth 100000 in
set_option maxHeartbeats 4000000 in
theorem c_Writer_begin (l : Launch) (D : va_G) (g : Ad) {σ σr : St} {p1 r : Int} (hR : R32 σ) (i_p1 : in32 p1) (h : Writer_begin σ p1 = some (r, σr)) : CtV l D g yX6_begin cX6_begin 2 none 1 (wE g σ) (wE g σr) [.ref (g.2 5), .int (I p1)] (R32 σr) := by
  intro sz
  refine met_of (by decide) (Nat.le_of_ble_eq_true rfl) (fun p e s m args below meth c ls H locs C0 hml hr hlk hE hl => ?_)
  have C0 : CX p c cX6_begin m s args D g RX6 := C0
  have hl : lv_has ls 2 [(0, .ref (g.2 5)), (1, .int (I p1))] := hl
  unfold Writer_begin at h
  refine lv_aload_n C0.1 C0.2.1 dX6_begin_0 rfl (lv_at hl 0 rfl) ?_
  refine lv_iload_n C0.1 C0.2.1 dX6_begin_1 rfl (lv_at hl 1 rfl) ?_
  obtain ⟨s1, e_s1, hR, h⟩ := pf_s hR i_p1 h
  refine Writer_p_wanted C0 hE e_s1 fk_X6_9 dX6_begin_2 (fun H locs hE => ?_)
  refine lv_aload_n C0.1 C0.2.1 dX6_begin_5 rfl (lv_at hl 0 rfl) ?_
  refine lv_iconst (v := I (-1)) C0.1 C0.2.1 dX6_begin_6 rfl ?_
  obtain ⟨s2, e_s2, hR, h⟩ := pf_s hR lit_m1 h
  refine Writer_p_found C0 hE e_s2 fk_X6_15 dX6_begin_7 (fun H locs hE => ?_)
  refine lv_aload_n C0.1 C0.2.1 dX6_begin_10 rfl (lv_at hl 0 rfl) ?_
  refine lv_iconst (v := I 0) C0.1 C0.2.1 dX6_begin_11 rfl ?_
  obtain ⟨s3, e_s3, hR, h⟩ := pf_s hR lit_0 h
  refine Writer_p_signs C0 hE e_s3 fk_X6_18 dX6_begin_12 (fun H locs hE => ?_)
  exact ret_v (wf := wE g) C0 hr hlk hE h hR dX6_begin_15
set_option maxRecDepth 100000 in
set_option maxHeartbeats 4000000 in
theorem c_Writer_put (l : Launch) (D : va_G) (g : Ad) {σ σr : St} {p1 r : Int} (hR : R32 σ) (i_p1 : in32 p1) (h : Writer_put σ p1 = some (r, σr)) : CtV l D g yX6_put cX6_put 2 none 1 (wE g σ) (wE g σr) [.ref (g.2 5), .int (I p1)] (R32 σr) := by
  intro sz
  refine met_of (by decide) (Nat.le_of_ble_eq_true rfl) (fun p e s m args below meth c ls H locs C0 hml hr hlk hE hl => ?_)
  have C0 : CX p c cX6_put m s args D g RX6 := C0
  have hl : lv_has ls 2 [(0, .ref (g.2 5)), (1, .int (I p1))] := hl
  unfold Writer_put at h
  refine lv_aload_n C0.1 C0.2.1 dX6_put_0 rfl (lv_at hl 0 rfl) ?_
  obtain ⟨v1, e_v1, i_v1, h⟩ := gf_s hR h
  refine Writer_g_signs C0 hE e_v1 fk_X6_18 dX6_put_1 ?_
  refine lv_aload_n C0.1 C0.2.1 dX6_put_4 rfl (lv_at hl 0 rfl) ?_
  obtain ⟨v2, e_v2, i_v2, h⟩ := gf_s hR h
  refine Writer_g_wanted C0 hE e_v2 fk_X6_9 dX6_put_5 ?_
  obtain ⟨k4, e_k4, h⟩ := jn_s h
  have h_k4 : ∀ (s3 : St) (hR : R32 s3) (H : Heap) (locs : List Loc) (ls : Array Slot), EW D (va_A (wE g σ) sz) s.heap (wE g s3) H locs → lv_has ls 2 [(0, .ref (g.2 5))] → k4 s3 = some (r, σr) → W p l e (rmk 1) s m args below meth c H locs 0 0 (MQ below (QCv D (wE g σr) (R32 σr) (va_A (wE g σ) sz)) args s 0 0 (va_A (wE g σ) sz)) (F0 m 16 ls []) := by
    intro s3 hR H locs ls hE hl h
    have h := (congrFun e_k4 s3).symm.trans h
    refine lv_aload_n C0.1 C0.2.1 dX6_put_16 rfl (lv_at hl 0 rfl) ?_
    refine lv_dup C0.1 C0.2.1 dX6_put_17 rfl ?_
    obtain ⟨v5, e_v5, i_v5, h⟩ := gf_s hR h
    refine Writer_g_signs C0 hE e_v5 fk_X6_18 dX6_put_18 ?_
    refine lv_iconst (v := I 1) C0.1 C0.2.1 dX6_put_21 rfl ?_
    obtain ⟨v6, e_v6, i_v6, h⟩ := oadd_s h
    refine x_add C0 e_v6 dX6_put_22 ?_
    obtain ⟨s7, e_s7, hR, h⟩ := pf_s hR i_v6 h
    refine Writer_p_signs C0 hE e_s7 fk_X6_18 dX6_put_23 (fun H locs hE => ?_)
    exact ret_v (wf := wE g) C0 hr hlk hE h hR dX6_put_26
  refine x_icmp_ne C0 i_v1 i_v2 dX6_put_8 (tgt := 16) (by decide) (fun c9 => ?_) (fun c9 => ?_)
  · have h := ite_f c9 h
    exact h_k4 σ hR _ _ _ hE (lv_sub hl [0] rfl) h
  · have h := ite_t c9 h
    refine lv_aload_n C0.1 C0.2.1 dX6_put_11 rfl (lv_at hl 0 rfl) ?_
    refine lv_iload_n C0.1 C0.2.1 dX6_put_12 rfl (lv_at hl 1 rfl) ?_
    obtain ⟨s8, e_s8, hR, h⟩ := pf_s hR i_p1 h
    refine Writer_p_found C0 hE e_s8 fk_X6_15 dX6_put_13 (fun H locs hE => ?_)
    exact h_k4 s8 hR _ _ _ hE (lv_sub hl [0] rfl) h
set_option maxRecDepth 100000 in
set_option maxHeartbeats 4000000 in
theorem c_Writer_putNumber (l : Launch) (D : va_G) (g : Ad) {σ σr : St} {p1 r : Int} (hR : R32 σ) (i_p1 : in32 p1) (h : Writer_putNumber σ p1 = some (r, σr)) : CtV l D g yX6_putNumber cX6_putNumber 3 none 2 (wE g σ) (wE g σr) [.ref (g.2 5), .int (I p1)] (R32 σr) := by
  intro sz
  refine met_of (by decide) (Nat.le_of_ble_eq_true rfl) (fun p e s m args below meth c ls H locs C0 hml hr hlk hE hl => ?_)
  have C0 : CX p c cX6_putNumber m s args D g RX6 := C0
  have hl : lv_has ls 3 [(0, .ref (g.2 5)), (1, .int (I p1))] := hl
  unfold Writer_putNumber at h
  refine lv_iload_n C0.1 C0.2.1 dX6_putNumber_0 rfl (lv_at hl 1 rfl) ?_
  obtain ⟨k2, e_k2, h⟩ := jn_s h
  have h_k2 : ∀ (s1 : St) (hR : R32 s1) (H : Heap) (locs : List Loc) (ls : Array Slot), EW D (va_A (wE g σ) sz) s.heap (wE g s1) H locs → lv_has ls 3 [(0, .ref (g.2 5)), (1, .int (I p1))] → k2 s1 = some (r, σr) → W p l e (rmk 2) s m args below meth c H locs 0 0 (MQ below (QCv D (wE g σr) (R32 σr) (va_A (wE g σ) sz)) args s 0 0 (va_A (wE g σ) sz)) (F0 m 10 ls []) := by
    intro s1 hR H locs ls hE hl h
    have h := (congrFun e_k2 s1).symm.trans h
    refine lv_iload_n C0.1 C0.2.1 dX6_putNumber_10 rfl (lv_at hl 1 rfl) ?_
    obtain ⟨v3, e_v3, i_v3, h⟩ := oabs_s i_p1 h
    refine x_abs C0 kw_X6_25 (hml.trans hl.1.symm) i_p1 e_v3 ⟨Nat.le_of_ble_eq_true rfl, Nat.le_of_ble_eq_true rfl⟩ ⟨Nat.zero_le _, Nat.zero_le _⟩ dX6_putNumber_11 ?_
    refine lv_istore_n (lv' := [(2, .int (I v3)), (0, .ref (g.2 5)), (1, .int (I p1))]) C0.1 C0.2.1 dX6_putNumber_14 rfl hl (by decide) rfl (fun ls hl => ?_)
    refine lv_iload_n C0.1 C0.2.1 dX6_putNumber_15 rfl (lv_at hl 0 rfl) ?_
    refine lv_bipush (v := I 99) C0.1 C0.2.1 dX6_putNumber_16 (by decide +kernel) ?_
    obtain ⟨k5, e_k5, h⟩ := jn_s h
    have h_k5 : ∀ (s4 : St) (hR : R32 s4) (H : Heap) (locs : List Loc) (ls : Array Slot), EW D (va_A (wE g σ) sz) s.heap (wE g s4) H locs → lv_has ls 3 [(0, .ref (g.2 5)), (2, .int (I v3))] → k5 s4 = some (r, σr) → W p l e (rmk 2) s m args below meth c H locs 0 0 (MQ below (QCv D (wE g σr) (R32 σr) (va_A (wE g σ) sz)) args s 0 0 (va_A (wE g σ) sz)) (F0 m 32 ls []) := by
      intro s4 hR H locs ls hE hl h
      have h := (congrFun e_k5 s4).symm.trans h
      refine lv_iload_n C0.1 C0.2.1 dX6_putNumber_32 rfl (lv_at hl 1 rfl) ?_
      refine lv_bipush (v := I 9) C0.1 C0.2.1 dX6_putNumber_33 (by decide +kernel) ?_
      obtain ⟨k7, e_k7, h⟩ := jn_s h
      have h_k7 : ∀ (s6 : St) (hR : R32 s6) (H : Heap) (locs : List Loc) (ls : Array Slot), EW D (va_A (wE g σ) sz) s.heap (wE g s6) H locs → lv_has ls 3 [(0, .ref (g.2 5)), (2, .int (I v3))] → k7 s6 = some (r, σr) → W p l e (rmk 2) s m args below meth c H locs 0 0 (MQ below (QCv D (wE g σr) (R32 σr) (va_A (wE g σ) sz)) args s 0 0 (va_A (wE g σ) sz)) (F0 m 52 ls []) := by
        intro s6 hR H locs ls hE hl h
        have h := (congrFun e_k7 s6).symm.trans h
        refine lv_aload_n C0.1 C0.2.1 dX6_putNumber_52 rfl (lv_at hl 0 rfl) ?_
        refine lv_bipush (v := I 48) C0.1 C0.2.1 dX6_putNumber_53 (by decide +kernel) ?_
        refine lv_iload_n C0.1 C0.2.1 dX6_putNumber_55 rfl (lv_at hl 1 rfl) ?_
        refine lv_bipush (v := I 10) C0.1 C0.2.1 dX6_putNumber_56 (by decide +kernel) ?_
        obtain ⟨v8, e_v8, i_v8, h⟩ := orem_s lit_10 h
        refine x_rem C0 i_v3 lit_10 e_v8 dX6_putNumber_58 ?_
        obtain ⟨v9, e_v9, i_v9, h⟩ := oadd_s h
        refine x_add C0 e_v9 dX6_putNumber_59 ?_
        obtain ⟨v10, s11, h_v10, h⟩ := bnd_s h
        refine callV_v (rest := []) C0 hml hE (Writer_rec C0 hE) (c_Writer_put l D g hR i_v9 h_v10) kw_X6_21 ⟨Nat.le_of_ble_eq_true rfl, Nat.le_of_ble_eq_true rfl⟩ rfl hl.1 rfl (Nat.le_of_ble_eq_true rfl) dX6_putNumber_60 ⟨Nat.zero_le _, Nat.zero_le _⟩ (fun H locs hE hR => ?_)
        exact ret_v (wf := wE g) C0 hr hlk hE h hR dX6_putNumber_63
      refine x_icmp_le C0 i_v3 lit_9 dX6_putNumber_35 (tgt := 52) (by decide) (fun c9 => ?_) (fun c9 => ?_)
      · have h := ite_f c9 h
        exact h_k7 s4 hR _ _ _ hE (lv_sub hl [0, 1] rfl) h
      · have h := ite_t c9 h
        refine lv_aload_n C0.1 C0.2.1 dX6_putNumber_38 rfl (lv_at hl 0 rfl) ?_
        refine lv_bipush (v := I 48) C0.1 C0.2.1 dX6_putNumber_39 (by decide +kernel) ?_
        refine lv_iload_n C0.1 C0.2.1 dX6_putNumber_41 rfl (lv_at hl 1 rfl) ?_
        refine lv_bipush (v := I 10) C0.1 C0.2.1 dX6_putNumber_42 (by decide +kernel) ?_
        obtain ⟨v12, e_v12, i_v12, h⟩ := odiv_s i_v3 h
        refine x_div C0 i_v3 lit_10 e_v12 dX6_putNumber_44 ?_
        refine lv_bipush (v := I 10) C0.1 C0.2.1 dX6_putNumber_45 (by decide +kernel) ?_
        obtain ⟨v13, e_v13, i_v13, h⟩ := orem_s lit_10 h
        refine x_rem C0 i_v12 lit_10 e_v13 dX6_putNumber_47 ?_
        obtain ⟨v14, e_v14, i_v14, h⟩ := oadd_s h
        refine x_add C0 e_v14 dX6_putNumber_48 ?_
        obtain ⟨v15, s16, h_v15, h⟩ := bnd_s h
        refine callV_v (rest := []) C0 hml hE (Writer_rec C0 hE) (c_Writer_put l D g hR i_v14 h_v15) kw_X6_21 ⟨Nat.le_of_ble_eq_true rfl, Nat.le_of_ble_eq_true rfl⟩ rfl hl.1 rfl (Nat.le_of_ble_eq_true rfl) dX6_putNumber_49 ⟨Nat.zero_le _, Nat.zero_le _⟩ (fun H locs hE hR => ?_)
        exact h_k7 s16 hR _ _ _ hE (lv_sub hl [0, 1] rfl) h
    refine x_icmp_le C0 i_v3 lit_99 dX6_putNumber_18 (tgt := 32) (by decide) (fun c9 => ?_) (fun c9 => ?_)
    · have h := ite_f c9 h
      exact h_k5 s1 hR _ _ _ hE (lv_sub hl [1, 0] rfl) h
    · have h := ite_t c9 h
      refine lv_aload_n C0.1 C0.2.1 dX6_putNumber_21 rfl (lv_at hl 1 rfl) ?_
      refine lv_bipush (v := I 48) C0.1 C0.2.1 dX6_putNumber_22 (by decide +kernel) ?_
      refine lv_iload_n C0.1 C0.2.1 dX6_putNumber_24 rfl (lv_at hl 0 rfl) ?_
      refine lv_bipush (v := I 100) C0.1 C0.2.1 dX6_putNumber_25 (by decide +kernel) ?_
      obtain ⟨v17, e_v17, i_v17, h⟩ := odiv_s i_v3 h
      refine x_div C0 i_v3 lit_100 e_v17 dX6_putNumber_27 ?_
      obtain ⟨v18, e_v18, i_v18, h⟩ := oadd_s h
      refine x_add C0 e_v18 dX6_putNumber_28 ?_
      obtain ⟨v19, s20, h_v19, h⟩ := bnd_s h
      refine callV_v (rest := []) C0 hml hE (Writer_rec C0 hE) (c_Writer_put l D g hR i_v18 h_v19) kw_X6_21 ⟨Nat.le_of_ble_eq_true rfl, Nat.le_of_ble_eq_true rfl⟩ rfl hl.1 rfl (Nat.le_of_ble_eq_true rfl) dX6_putNumber_29 ⟨Nat.zero_le _, Nat.zero_le _⟩ (fun H locs hE hR => ?_)
      exact h_k5 s20 hR _ _ _ hE (lv_sub hl [1, 0] rfl) h
  refine x_if_ge C0 i_p1 dX6_putNumber_1 (tgt := 10) (by decide) (fun c9 => ?_) (fun c9 => ?_)
  · have h := ite_f c9 h
    exact h_k2 σ hR _ _ _ hE (lv_sub hl [0, 1] rfl) h
  · have h := ite_t c9 h
    refine lv_aload_n C0.1 C0.2.1 dX6_putNumber_4 rfl (lv_at hl 0 rfl) ?_
    refine lv_bipush (v := I 45) C0.1 C0.2.1 dX6_putNumber_5 (by decide +kernel) ?_
    obtain ⟨v21, s22, h_v21, h⟩ := bnd_s h
    refine callV_v (rest := []) C0 hml hE (Writer_rec C0 hE) (c_Writer_put l D g hR lit_45 h_v21) kw_X6_21 ⟨Nat.le_of_ble_eq_true rfl, Nat.le_of_ble_eq_true rfl⟩ rfl hl.1 rfl (Nat.le_of_ble_eq_true rfl) dX6_putNumber_7 ⟨Nat.zero_le _, Nat.zero_le _⟩ (fun H locs hE hR => ?_)
    exact h_k2 s22 hR _ _ _ hE (lv_sub hl [0, 1] rfl) h
set_option maxRecDepth 100000 in
set_option maxHeartbeats 4000000 in
theorem c_Writer_writeTree_one (l : Launch) (D : va_G) (g : Ad) : ∀ (d : Nat) {σ σr : St} {p3 p4 p5 r : Int} (hR : R32 σ) (i_p3 : in32 p3) (i_p4 : in32 p4) (i_p5 : in32 p5) (h : Writer_writeTree_one d σ p3 p4 p5 = some (r, σr)), CtV l D g yX6_writeTree cX6_writeTree 5 none (3 + d) (wE g σ) (wE g σr) [.ref (g.2 5), .ref (g.2 26), .int (I p3), .int (I p4), .int (I p5)] (R32 σr) := by
  intro d
  induction d with
  | zero => intros; rename_i h; cases h
  | succ d ih =>
    intro σ σr p3 p4 p5 r hR i_p3 i_p4 i_p5 h sz
    refine met_of (by decide) (Nat.le_of_ble_eq_true rfl) (fun p e s m args below meth c ls H locs C0 hml hr hlk hE hl => ?_)
    have C0 : CX p c cX6_writeTree m s args D g RX6 := C0
    have hl : lv_has ls 5 [(0, .ref (g.2 5)), (1, .ref (g.2 26)), (2, .int (I p3)), (3, .int (I p4)), (4, .int (I p5))] := hl
    unfold Writer_writeTree_one at h
    refine lv_iload_n C0.1 C0.2.1 dX6_writeTree_0 rfl (lv_at hl 3 rfl) ?_
    refine lv_iload_n C0.1 C0.2.1 dX6_writeTree_1 rfl (lv_at hl 2 rfl) ?_
    obtain ⟨k1, e_k1, h⟩ := jn_s h
    have h_k1 : ∀ (H : Heap) (locs : List Loc) (ls : Array Slot), EW D (va_A (wE g σ) sz) s.heap (wE g σ) H locs → lv_has ls 5 [(0, .ref (g.2 5))] → k1 = some (r, σr) → W p l e (rmk (3 + (d + 1))) s m args below meth c H locs 0 0 (MQ below (QCv D (wE g σr) (R32 σr) (va_A (wE g σ) sz)) args s 0 0 (va_A (wE g σ) sz)) (F0 m 11 ls []) := by
      intro H locs ls hE hl h
      have h := e_k1.symm.trans h
      refine lv_aload_n C0.1 C0.2.1 dX6_writeTree_11 rfl (lv_at hl 0 rfl) ?_
      refine lv_bipush (v := I 46) C0.1 C0.2.1 dX6_writeTree_12 (by decide +kernel) ?_
      obtain ⟨v2, s3, h_v2, h⟩ := bnd_s h
      refine callV_v (rest := []) C0 hml hE (Writer_rec C0 hE) (c_Writer_put l D g hR lit_46 h_v2) kw_X6_21 (by simp only [rmk, RD]; omega) rfl hl.1 rfl (Nat.le_of_ble_eq_true rfl) dX6_writeTree_14 ⟨Nat.zero_le _, Nat.zero_le _⟩ (fun H locs hE hR => ?_)
      exact ret_v (wf := wE g) C0 hr hlk hE h hR dX6_writeTree_17
    refine x_icmp_ge C0 i_p4 i_p3 dX6_writeTree_2 (tgt := 11) (by decide) (fun c9 => ?_) (fun c9 => ?_)
    · have h := ite_f c9 h
      exact h_k1 _ _ _ hE (lv_sub hl [0] rfl) h
    · have h := ite_t c9 h
      refine lv_iload_n C0.1 C0.2.1 dX6_writeTree_5 rfl (lv_at hl 3 rfl) ?_
      refine lv_aload_n C0.1 C0.2.1 dX6_writeTree_6 rfl (lv_at hl 1 rfl) ?_
      refine E_one_len C0 hE dX6_writeTree_7 ?_
      refine x_icmp_lt C0 i_p4 lit_256 dX6_writeTree_8 (tgt := 18) (by decide) (fun c9 => ?_) (fun c9 => ?_)
      · have h := ite_t c9 h
        refine lv_aload_n C0.1 C0.2.1 dX6_writeTree_18 rfl (lv_at hl 0 rfl) ?_
        refine lv_bipush (v := I 40) C0.1 C0.2.1 dX6_writeTree_19 (by decide +kernel) ?_
        obtain ⟨v4, s5, h_v4, h⟩ := bnd_s h
        refine callV_v (rest := []) C0 hml hE (Writer_rec C0 hE) (c_Writer_put l D g hR lit_40 h_v4) kw_X6_21 (by simp only [rmk, RD]; omega) rfl hl.1 rfl (Nat.le_of_ble_eq_true rfl) dX6_writeTree_21 ⟨Nat.zero_le _, Nat.zero_le _⟩ (fun H locs hE hR => ?_)
        refine lv_aload_n C0.1 C0.2.1 dX6_writeTree_24 rfl (lv_at hl 0 rfl) ?_
        refine lv_aload_n C0.1 C0.2.1 dX6_writeTree_25 rfl (lv_at hl 1 rfl) ?_
        refine lv_iload_n C0.1 C0.2.1 dX6_writeTree_26 rfl (lv_at hl 3 rfl) ?_
        obtain ⟨v6, e_v6, i_v6, h⟩ := rd_s hR h
        refine E_one_l C0 hE i_p4 e_v6 dX6_writeTree_27 ?_
        obtain ⟨v7, s8, h_v7, h⟩ := bnd_s h
        refine callV_v (rest := []) C0 hml hE (Writer_rec C0 hE) (c_Writer_putNumber l D g hR i_v6 h_v7) kw_X6_31 (by simp only [rmk, RD]; omega) rfl hl.1 rfl (Nat.le_of_ble_eq_true rfl) dX6_writeTree_28 ⟨Nat.zero_le _, Nat.zero_le _⟩ (fun H locs hE hR => ?_)
        refine lv_aload_n C0.1 C0.2.1 dX6_writeTree_31 rfl (lv_at hl 0 rfl) ?_
        refine lv_aload_n C0.1 C0.2.1 dX6_writeTree_32 rfl (lv_at hl 1 rfl) ?_
        refine lv_iload_n C0.1 C0.2.1 dX6_writeTree_33 rfl (lv_at hl 2 rfl) ?_
        refine lv_iload_n C0.1 C0.2.1 dX6_writeTree_34 rfl (lv_at hl 3 rfl) ?_
        refine lv_iload C0.1 C0.2.1 dX6_writeTree_35 (lv_at hl 4 rfl) ?_
        obtain ⟨v9, e_v9, i_v9, h⟩ := oadd_s h
        refine x_add C0 e_v9 dX6_writeTree_37 ?_
        refine lv_iconst (v := I 2) C0.1 C0.2.1 dX6_writeTree_38 rfl ?_
        refine lv_iload C0.1 C0.2.1 dX6_writeTree_39 (lv_at hl 4 rfl) ?_
        obtain ⟨v10, e_v10, i_v10, h⟩ := omul_s h
        refine x_mul C0 e_v10 dX6_writeTree_41 ?_
        obtain ⟨v11, s12, h_v11, h⟩ := bnd_s h
        refine callS_v (rest := []) C0 hml hE (ih hR i_p3 i_v9 i_v10 h_v11) kw_X6_34 (by simp only [rmk, RD]; omega) rfl hl.1 rfl (Nat.le_of_ble_eq_true rfl) dX6_writeTree_42 ⟨Nat.zero_le _, Nat.zero_le _⟩ (fun H locs hE hR => ?_)
        refine lv_aload_n C0.1 C0.2.1 dX6_writeTree_45 rfl (lv_at hl 0 rfl) ?_
        refine lv_aload_n C0.1 C0.2.1 dX6_writeTree_46 rfl (lv_at hl 1 rfl) ?_
        refine lv_iload_n C0.1 C0.2.1 dX6_writeTree_47 rfl (lv_at hl 2 rfl) ?_
        refine lv_iload_n C0.1 C0.2.1 dX6_writeTree_48 rfl (lv_at hl 3 rfl) ?_
        refine lv_iconst (v := I 2) C0.1 C0.2.1 dX6_writeTree_49 rfl ?_
        refine lv_iload C0.1 C0.2.1 dX6_writeTree_50 (lv_at hl 4 rfl) ?_
        obtain ⟨v13, e_v13, i_v13, h⟩ := omul_s h
        refine x_mul C0 e_v13 dX6_writeTree_52 ?_
        obtain ⟨v14, e_v14, i_v14, h⟩ := oadd_s h
        refine x_add C0 e_v14 dX6_writeTree_53 ?_
        refine lv_iconst (v := I 2) C0.1 C0.2.1 dX6_writeTree_54 rfl ?_
        refine lv_iload C0.1 C0.2.1 dX6_writeTree_55 (lv_at hl 4 rfl) ?_
        obtain ⟨v15, e_v15, i_v15, h⟩ := omul_s h
        refine x_mul C0 e_v15 dX6_writeTree_57 ?_
        obtain ⟨v16, s17, h_v16, h⟩ := bnd_s h
        refine callS_v (rest := []) C0 hml hE (ih hR i_p3 i_v14 i_v15 h_v16) kw_X6_34 (by simp only [rmk, RD]; omega) rfl hl.1 rfl (Nat.le_of_ble_eq_true rfl) dX6_writeTree_58 ⟨Nat.zero_le _, Nat.zero_le _⟩ (fun H locs hE hR => ?_)
        refine lv_aload_n C0.1 C0.2.1 dX6_writeTree_61 rfl (lv_at hl 0 rfl) ?_
        refine lv_bipush (v := I 41) C0.1 C0.2.1 dX6_writeTree_62 (by decide +kernel) ?_
        obtain ⟨v18, s19, h_v18, h⟩ := bnd_s h
        refine callV_v (rest := []) C0 hml hE (Writer_rec C0 hE) (c_Writer_put l D g hR lit_41 h_v18) kw_X6_21 (by simp only [rmk, RD]; omega) rfl hl.1 rfl (Nat.le_of_ble_eq_true rfl) dX6_writeTree_64 ⟨Nat.zero_le _, Nat.zero_le _⟩ (fun H locs hE hR => ?_)
        exact ret_v (wf := wE g) C0 hr hlk hE h hR dX6_writeTree_67
      · have h := ite_f c9 h
        exact h_k1 _ _ _ hE (lv_sub hl [0] rfl) h
set_option maxRecDepth 100000 in
set_option maxHeartbeats 4000000 in
theorem c_E_written (l : Launch) (D : va_G) (g : Ad) {σ σr : St} {p1 p2 r : Int} (hR : R32 σ) (i_p1 : in32 p1) (i_p2 : in32 p2) (h : E_written σ p1 p2 = some (r, σr)) : CtI l D g yX7_written cX7_written 3 (some .int) 16 (wE g σ) (wE g σr) [.ref (g.2 0), .int (I p1), .int (I p2)] r (in32 r ∧ R32 σr) := by
  intro sz
  refine met_of (by decide) (Nat.le_of_ble_eq_true rfl) (fun p e s m args below meth c ls H locs C0 hml hr hlk hE hl => ?_)
  have C0 : CX p c cX7_written m s args D g RX7 := C0
  have hl : lv_has ls 3 [(0, .ref (g.2 0)), (1, .int (I p1)), (2, .int (I p2))] := hl
  unfold E_written at h
  refine lv_iload_n C0.1 C0.2.1 dX7_written_0 rfl (lv_at hl 1 rfl) ?_
  obtain ⟨v1, h_v1, h⟩ := bndp_s h
  refine callS_i (rest := []) C0 hml hE (c_E_isPlace l D g (σ := σ) i_p1 h_v1) kw_X7_86 ⟨Nat.le_of_ble_eq_true rfl, Nat.le_of_ble_eq_true rfl⟩ rfl hl.1 rfl (Nat.le_of_ble_eq_true rfl) dX7_written_1 ⟨Nat.zero_le _, Nat.zero_le _⟩ (fun H locs hE i_v1 => ?_)
  refine x_if_eq C0 i_v1 dX7_written_4 (tgt := 12) (by decide) (fun c9 => ?_) (fun c9 => ?_)
  · have h := ite_t c9 h
    refine lv_iconst (v := I (-1)) C0.1 C0.2.1 dX7_written_12 rfl ?_
    exact ret_i (wf := wE g) C0 hr hlk hE h lit_m1 hR dX7_written_13
  · have h := ite_f c9 h
    refine lv_iload_n C0.1 C0.2.1 dX7_written_7 rfl (lv_at hl 2 rfl) ?_
    refine lv_iconst (v := I (-1)) C0.1 C0.2.1 dX7_written_8 rfl ?_
    refine x_icmp_ge C0 i_p2 lit_m1 dX7_written_9 (tgt := 14) (by decide) (fun c9 => ?_) (fun c9 => ?_)
    · have h := ite_f c9 h
      refine lv_aload_n C0.1 C0.2.1 dX7_written_14 rfl (lv_at hl 0 rfl) ?_
      refine E_g_pool C0 hE fk_X7_10 dX7_written_15 ?_
      refine lv_aload_n C0.1 C0.2.1 dX7_written_18 rfl (lv_at hl 0 rfl) ?_
      refine E_g_trees C0 hE fk_X7_49 dX7_written_19 ?_
      refine lv_iload_n C0.1 C0.2.1 dX7_written_22 rfl (lv_at hl 1 rfl) ?_
      obtain ⟨v2, e_v2, i_v2, h⟩ := rd_s hR h
      refine E_trees_l C0 hE i_p1 e_v2 dX7_written_23 ?_
      refine lv_aload_n C0.1 C0.2.1 dX7_written_24 rfl (lv_at hl 0 rfl) ?_
      refine E_g_sizes C0 hE fk_X7_53 dX7_written_25 ?_
      refine lv_iload_n C0.1 C0.2.1 dX7_written_28 rfl (lv_at hl 1 rfl) ?_
      obtain ⟨v3, e_v3, i_v3, h⟩ := rd_s hR h
      refine E_sizes_l C0 hE i_p1 e_v3 dX7_written_29 ?_
      refine lv_aload_n C0.1 C0.2.1 dX7_written_30 rfl (lv_at hl 0 rfl) ?_
      refine E_g_one C0 hE fk_X7_56 dX7_written_31 ?_
      obtain ⟨v4, s5, h_v4, h⟩ := bnd_s h
      refine callV_v (rest := []) C0 hml hE (Pool_rec C0 hE) (c_Pool_read_one l D g hR i_v2 i_v3 h_v4) kw_X7_201 ⟨Nat.le_of_ble_eq_true rfl, Nat.le_of_ble_eq_true rfl⟩ rfl hl.1 rfl (Nat.le_of_ble_eq_true rfl) dX7_written_34 ⟨Nat.zero_le _, Nat.zero_le _⟩ (fun H locs hE hR => ?_)
      refine lv_aload_n C0.1 C0.2.1 dX7_written_37 rfl (lv_at hl 0 rfl) ?_
      refine E_g_writer C0 hE fk_X7_38 dX7_written_38 ?_
      refine lv_iload_n C0.1 C0.2.1 dX7_written_41 rfl (lv_at hl 2 rfl) ?_
      obtain ⟨v6, s7, h_v6, h⟩ := bnd_s h
      refine callV_v (rest := []) C0 hml hE (Writer_rec C0 hE) (c_Writer_begin l D g hR i_p2 h_v6) kw_X7_262 ⟨Nat.le_of_ble_eq_true rfl, Nat.le_of_ble_eq_true rfl⟩ rfl hl.1 rfl (Nat.le_of_ble_eq_true rfl) dX7_written_42 ⟨Nat.zero_le _, Nat.zero_le _⟩ (fun H locs hE hR => ?_)
      refine lv_aload_n C0.1 C0.2.1 dX7_written_45 rfl (lv_at hl 0 rfl) ?_
      refine E_g_writer C0 hE fk_X7_38 dX7_written_46 ?_
      refine lv_aload_n C0.1 C0.2.1 dX7_written_49 rfl (lv_at hl 0 rfl) ?_
      refine E_g_one C0 hE fk_X7_56 dX7_written_50 ?_
      refine lv_aload_n C0.1 C0.2.1 dX7_written_53 rfl (lv_at hl 0 rfl) ?_
      refine E_g_sizes C0 hE fk_X7_53 dX7_written_54 ?_
      refine lv_iload_n C0.1 C0.2.1 dX7_written_57 rfl (lv_at hl 1 rfl) ?_
      obtain ⟨v8, e_v8, i_v8, h⟩ := rd_s hR h
      refine E_sizes_l C0 hE i_p1 e_v8 dX7_written_58 ?_
      refine lv_iconst (v := I 0) C0.1 C0.2.1 dX7_written_59 rfl ?_
      refine lv_iconst (v := I 1) C0.1 C0.2.1 dX7_written_60 rfl ?_
      obtain ⟨v9, s10, h_v9, h⟩ := bnd_s h
      refine callSN_v (rest := []) C0 hml hE (c_Writer_writeTree_one l D g RD hR i_v8 lit_0 lit_1 h_v9) kw_X7_264 ⟨Nat.le_of_ble_eq_true rfl, Nat.le_of_ble_eq_true rfl⟩ rfl hl.1 rfl (Nat.le_of_ble_eq_true rfl) dX7_written_61 ⟨Nat.zero_le _, Nat.zero_le _⟩ (fun H locs hE hR => ?_)
      refine lv_iload_n C0.1 C0.2.1 dX7_written_64 rfl (lv_at hl 2 rfl) ?_
      refine lv_iconst (v := I (-1)) C0.1 C0.2.1 dX7_written_65 rfl ?_
      refine x_icmp_ne C0 i_p2 lit_m1 dX7_written_66 (tgt := 79) (by decide) (fun c9 => ?_) (fun c9 => ?_)
      · have h := ite_f c9 h
        refine lv_aload_n C0.1 C0.2.1 dX7_written_79 rfl (lv_at hl 0 rfl) ?_
        refine E_g_writer C0 hE fk_X7_38 dX7_written_80 ?_
        obtain ⟨v11, e_v11, i_v11, h⟩ := gf_s hR h
        refine Writer_n_found C0 hE e_v11 nk_X7_271 dX7_written_83 ?_
        exact ret_i (wf := wE g) C0 hr hlk hE h i_v11 hR dX7_written_86
      · have h := ite_t c9 h
        refine lv_aload_n C0.1 C0.2.1 dX7_written_69 rfl (lv_at hl 0 rfl) ?_
        refine E_g_writer C0 hE fk_X7_38 dX7_written_70 ?_
        obtain ⟨v12, e_v12, i_v12, h⟩ := gf_s hR h
        refine Writer_n_signs C0 hE e_v12 nk_X7_268 dX7_written_73 ?_
        refine x_goto C0 dX7_written_76 (tgt := 86) (by decide) ?_
        exact ret_i (wf := wE g) C0 hr hlk hE h i_v12 hR dX7_written_86
    · have h := ite_t c9 h
      refine lv_iconst (v := I (-1)) C0.1 C0.2.1 dX7_written_12 rfl ?_
      exact ret_i (wf := wE g) C0 hr hlk hE h lit_m1 hR dX7_written_13
set_option maxRecDepth 100000 in
set_option maxHeartbeats 4000000 in
theorem c_Shape_costAhead (l : Launch) (D : va_G) (g : Ad) {σ : St} {p1 r : Int} (i_p1 : in32 p1) (h : Shape_costAhead p1 = some r) : CtI l D g yX3_costAhead cX3_costAhead 3 (some .int) 1 (wE g σ) (wE g σ) [.int (I p1)] r (in32 r) := by
  intro sz
  refine met_of (by decide) (Nat.le_of_ble_eq_true rfl) (fun p e s m args below meth c ls H locs C0 hml hr hlk hE hl => ?_)
  have C0 : CX p c cX3_costAhead m s args D g RX3 := C0
  have hl : lv_has ls 3 [(0, .int (I p1))] := hl
  unfold Shape_costAhead at h
  refine lv_iconst (v := I 1) C0.1 C0.2.1 dX3_costAhead_0 rfl ?_
  refine lv_istore_n (lv' := [(1, .int (I 1)), (0, .int (I p1))]) C0.1 C0.2.1 dX3_costAhead_1 rfl hl (by decide) rfl (fun ls hl => ?_)
  refine lv_iload_n C0.1 C0.2.1 dX3_costAhead_2 rfl (lv_at hl 1 rfl) ?_
  refine lv_istore_n (lv' := [(2, .int (I p1)), (1, .int (I 1)), (0, .int (I p1))]) C0.1 C0.2.1 dX3_costAhead_3 rfl hl (by decide) rfl (fun ls hl => ?_)
  have hL4 : ∀ (n : Nat) (x1 : Int) (i_x1 : in32 x1) (x2 : Int) (i_x2 : in32 x2) (H : Heap) (locs : List Loc) (ls : Array Slot), EW D (va_A (wE g σ) sz) s.heap (wE g σ) H locs → lv_has ls 3 [(1, .int (I x1)), (2, .int (I x2))] → Shape_costAhead_L4 n x1 x2 = some r → W p l e (rmk 1) s m args below meth c H locs 0 0 (MQ below (QCi D (wE g σ) r (in32 r) (va_A (wE g σ) sz)) args s 0 0 (va_A (wE g σ) sz)) (F0 m 4 ls []) := by
    intro n
    induction n with
    | zero => intros; rename_i h; cases h
    | succ n ih3 =>
      intro x1 i_x1 x2 i_x2 H locs ls hE hl h
      unfold Shape_costAhead_L4 at h
      refine lv_iload_n C0.1 C0.2.1 dX3_costAhead_4 rfl (lv_at hl 1 rfl) ?_
      refine x_if_le C0 i_x2 dX3_costAhead_5 (tgt := 20) (by decide) (fun c9 => ?_) (fun c9 => ?_)
      · have h := ite_f c9 h
        refine lv_iload_n C0.1 C0.2.1 dX3_costAhead_20 rfl (lv_at hl 0 rfl) ?_
        exact pret_i C0 hr hlk hE h i_x1 dX3_costAhead_21
      · have h := ite_t c9 h
        obtain ⟨v4, e_v4, i_v4, h⟩ := oadd_s h
        refine x_iinc (lv' := [(1, .int (I v4)), (2, .int (I x2))]) C0 dX3_costAhead_8 hl (k := 0) rfl e_v4 (by decide) rfl (fun ls hl => ?_)
        refine lv_iload_n C0.1 C0.2.1 dX3_costAhead_11 rfl (lv_at hl 1 rfl) ?_
        refine lv_iconst (v := I 1) C0.1 C0.2.1 dX3_costAhead_12 rfl ?_
        obtain ⟨v5, e_v5, i_v5, h⟩ := osub_s h
        refine x_sub C0 e_v5 dX3_costAhead_13 ?_
        refine lv_iconst (v := I 2) C0.1 C0.2.1 dX3_costAhead_14 rfl ?_
        obtain ⟨v6, e_v6, i_v6, h⟩ := odiv_s i_v5 h
        refine x_div C0 i_v5 lit_2 e_v6 dX3_costAhead_15 ?_
        refine lv_istore_n (lv' := [(2, .int (I v6)), (1, .int (I v4))]) C0.1 C0.2.1 dX3_costAhead_16 rfl hl (by decide) rfl (fun ls hl => ?_)
        refine x_goto C0 dX3_costAhead_17 (tgt := 4) (by decide) ?_
        exact ih3 v4 i_v4 v6 i_v6 _ _ _ hE (lv_sub hl [1, 0] rfl) h
  exact hL4 FU 1 lit_1 p1 i_p1 _ _ _ hE (lv_sub hl [1, 0] rfl) h
set_option maxRecDepth 100000 in
set_option maxHeartbeats 4000000 in
theorem c_Shape_costFirst (l : Launch) (D : va_G) (g : Ad) {σ : St} {p1 r : Int} (i_p1 : in32 p1) (h : Shape_costFirst p1 = some r) : CtI l D g yX3_costFirst cX3_costFirst 3 (some .int) 1 (wE g σ) (wE g σ) [.int (I p1)] r (in32 r) := by
  intro sz
  refine met_of (by decide) (Nat.le_of_ble_eq_true rfl) (fun p e s m args below meth c ls H locs C0 hml hr hlk hE hl => ?_)
  have C0 : CX p c cX3_costFirst m s args D g RX3 := C0
  have hl : lv_has ls 3 [(0, .int (I p1))] := hl
  unfold Shape_costFirst at h
  refine lv_iconst (v := I 0) C0.1 C0.2.1 dX3_costFirst_0 rfl ?_
  refine lv_istore_n (lv' := [(1, .int (I 0)), (0, .int (I p1))]) C0.1 C0.2.1 dX3_costFirst_1 rfl hl (by decide) rfl (fun ls hl => ?_)
  refine lv_iload_n C0.1 C0.2.1 dX3_costFirst_2 rfl (lv_at hl 1 rfl) ?_
  refine lv_istore_n (lv' := [(2, .int (I p1)), (1, .int (I 0)), (0, .int (I p1))]) C0.1 C0.2.1 dX3_costFirst_3 rfl hl (by decide) rfl (fun ls hl => ?_)
  have hL4 : ∀ (n : Nat) (x1 : Int) (i_x1 : in32 x1) (x2 : Int) (i_x2 : in32 x2) (H : Heap) (locs : List Loc) (ls : Array Slot), EW D (va_A (wE g σ) sz) s.heap (wE g σ) H locs → lv_has ls 3 [(1, .int (I x1)), (2, .int (I x2))] → Shape_costFirst_L4 n x1 x2 = some r → W p l e (rmk 1) s m args below meth c H locs 0 0 (MQ below (QCi D (wE g σ) r (in32 r) (va_A (wE g σ) sz)) args s 0 0 (va_A (wE g σ) sz)) (F0 m 4 ls []) := by
    intro n
    induction n with
    | zero => intros; rename_i h; cases h
    | succ n ih3 =>
      intro x1 i_x1 x2 i_x2 H locs ls hE hl h
      unfold Shape_costFirst_L4 at h
      refine lv_iload_n C0.1 C0.2.1 dX3_costFirst_4 rfl (lv_at hl 1 rfl) ?_
      refine lv_iconst (v := I 1) C0.1 C0.2.1 dX3_costFirst_5 rfl ?_
      refine x_icmp_le C0 i_x2 lit_1 dX3_costFirst_6 (tgt := 19) (by decide) (fun c9 => ?_) (fun c9 => ?_)
      · have h := ite_f c9 h
        refine lv_iload_n C0.1 C0.2.1 dX3_costFirst_19 rfl (lv_at hl 0 rfl) ?_
        exact pret_i C0 hr hlk hE h i_x1 dX3_costFirst_20
      · have h := ite_t c9 h
        obtain ⟨v4, e_v4, i_v4, h⟩ := oadd_s h
        refine x_iinc (lv' := [(1, .int (I v4)), (2, .int (I x2))]) C0 dX3_costFirst_9 hl (k := 0) rfl e_v4 (by decide) rfl (fun ls hl => ?_)
        refine lv_iload_n C0.1 C0.2.1 dX3_costFirst_12 rfl (lv_at hl 1 rfl) ?_
        refine lv_iconst (v := I 2) C0.1 C0.2.1 dX3_costFirst_13 rfl ?_
        obtain ⟨v5, e_v5, i_v5, h⟩ := odiv_s i_x2 h
        refine x_div C0 i_x2 lit_2 e_v5 dX3_costFirst_14 ?_
        refine lv_istore_n (lv' := [(2, .int (I v5)), (1, .int (I v4))]) C0.1 C0.2.1 dX3_costFirst_15 rfl hl (by decide) rfl (fun ls hl => ?_)
        refine x_goto C0 dX3_costFirst_16 (tgt := 4) (by decide) ?_
        exact ih3 v4 i_v4 v5 i_v5 _ _ _ hE (lv_sub hl [1, 0] rfl) h
  exact hL4 FU 0 lit_0 p1 i_p1 _ _ _ hE (lv_sub hl [1, 0] rfl) h
set_option maxRecDepth 100000 in
set_option maxHeartbeats 4000000 in
theorem c_Shape_cost (l : Launch) (D : va_G) (g : Ad) {σ : St} {p1 p2 r : Int} (i_p1 : in32 p1) (i_p2 : in32 p2) (h : Shape_cost p1 p2 = some r) : CtI l D g yX3_cost cX3_cost 2 (some .int) 4 (wE g σ) (wE g σ) [.int (I p1), .int (I p2)] r (in32 r) := by
  intro sz
  refine met_of (by decide) (Nat.le_of_ble_eq_true rfl) (fun p e s m args below meth c ls H locs C0 hml hr hlk hE hl => ?_)
  have C0 : CX p c cX3_cost m s args D g RX3 := C0
  have hl : lv_has ls 2 [(0, .int (I p1)), (1, .int (I p2))] := hl
  unfold Shape_cost at h
  refine lv_iload_n C0.1 C0.2.1 dX3_cost_0 rfl (lv_at hl 1 rfl) ?_
  obtain ⟨k1, e_k1, h⟩ := jn_s h
  have h_k1 : ∀ (H : Heap) (locs : List Loc) (ls : Array Slot), EW D (va_A (wE g σ) sz) s.heap (wE g σ) H locs → lv_has ls 2 [(0, .int (I p1))] → k1 = some r → W p l e (rmk 4) s m args below meth c H locs 0 0 (MQ below (QCi D (wE g σ) r (in32 r) (va_A (wE g σ) sz)) args s 0 0 (va_A (wE g σ) sz)) (F0 m 36 ls []) := by
    intro H locs ls hE hl h
    have h := e_k1.symm.trans h
    refine lv_iload_n C0.1 C0.2.1 dX3_cost_36 rfl (lv_at hl 0 rfl) ?_
    obtain ⟨v2, h_v2, h⟩ := bndp_s h
    refine callS_i (rest := []) C0 hml hE (c_Shape_costAhead l D g (σ := σ) i_p1 h_v2) kw_X3_20 ⟨Nat.le_of_ble_eq_true rfl, Nat.le_of_ble_eq_true rfl⟩ rfl hl.1 rfl (Nat.le_of_ble_eq_true rfl) dX3_cost_37 ⟨Nat.zero_le _, Nat.zero_le _⟩ (fun H locs hE i_v2 => ?_)
    exact pret_i C0 hr hlk hE h i_v2 dX3_cost_40
  by_cases q3 : p2 = 0
  · have h := ite_t q3 h
    refine x_tabIn (tgt := 36) C0 0 i_p2 dX3_cost_1 q3 ⟨by decide, by decide, by rfl⟩ (by decide) ?_
    exact h_k1 _ _ _ hE (lv_sub hl [0] rfl) h
  have h := ite_f q3 h
  by_cases q4 : p2 = 1
  · have h := ite_t q4 h
    refine x_tabIn (tgt := 41) C0 1 i_p2 dX3_cost_1 q4 ⟨by decide, by decide, by rfl⟩ (by decide) ?_
    refine lv_iload_n C0.1 C0.2.1 dX3_cost_41 rfl (lv_at hl 0 rfl) ?_
    obtain ⟨v5, h_v5, h⟩ := bndp_s h
    refine callS_i (rest := []) C0 hml hE (c_Shape_depth l D g (σ := σ) i_p1 h_v5) kw_X3_23 ⟨Nat.le_of_ble_eq_true rfl, Nat.le_of_ble_eq_true rfl⟩ rfl hl.1 rfl (Nat.le_of_ble_eq_true rfl) dX3_cost_42 ⟨Nat.zero_le _, Nat.zero_le _⟩ (fun H locs hE i_v5 => ?_)
    refine lv_iconst (v := I 1) C0.1 C0.2.1 dX3_cost_45 rfl ?_
    obtain ⟨v6, e_v6, i_v6, h⟩ := oadd_s h
    refine x_add C0 e_v6 dX3_cost_46 ?_
    exact pret_i C0 hr hlk hE h i_v6 dX3_cost_47
  have h := ite_f q4 h
  by_cases q7 : p2 = 2
  · have h := ite_t q7 h
    refine x_tabIn (tgt := 48) C0 2 i_p2 dX3_cost_1 q7 ⟨by decide, by decide, by rfl⟩ (by decide) ?_
    refine lv_iload_n C0.1 C0.2.1 dX3_cost_48 rfl (lv_at hl 0 rfl) ?_
    obtain ⟨v8, h_v8, h⟩ := bndp_s h
    refine callS_i (rest := []) C0 hml hE (c_Shape_costFirst l D g (σ := σ) i_p1 h_v8) kw_X3_26 ⟨Nat.le_of_ble_eq_true rfl, Nat.le_of_ble_eq_true rfl⟩ rfl hl.1 rfl (Nat.le_of_ble_eq_true rfl) dX3_cost_49 ⟨Nat.zero_le _, Nat.zero_le _⟩ (fun H locs hE i_v8 => ?_)
    exact pret_i C0 hr hlk hE h i_v8 dX3_cost_52
  have h := ite_f q7 h
  by_cases q9 : p2 = 3
  · have h := ite_t q9 h
    refine x_tabIn (tgt := 53) C0 3 i_p2 dX3_cost_1 q9 ⟨by decide, by decide, by rfl⟩ (by decide) ?_
    refine lv_iload_n C0.1 C0.2.1 dX3_cost_53 rfl (lv_at hl 0 rfl) ?_
    refine lv_iconst (v := I 1) C0.1 C0.2.1 dX3_cost_54 rfl ?_
    obtain ⟨v10, e_v10, i_v10, h⟩ := osub_s h
    refine x_sub C0 e_v10 dX3_cost_55 ?_
    obtain ⟨v11, h_v11, h⟩ := bndp_s h
    refine callS_i (rest := []) C0 hml hE (c_Shape_depth l D g (σ := σ) i_v10 h_v11) kw_X3_23 ⟨Nat.le_of_ble_eq_true rfl, Nat.le_of_ble_eq_true rfl⟩ rfl hl.1 rfl (Nat.le_of_ble_eq_true rfl) dX3_cost_56 ⟨Nat.zero_le _, Nat.zero_le _⟩ (fun H locs hE i_v11 => ?_)
    exact pret_i C0 hr hlk hE h i_v11 dX3_cost_59
  have h := ite_f q9 h
  by_cases q12 : p2 = 4
  · have h := ite_t q12 h
    refine x_tabIn (tgt := 36) C0 4 i_p2 dX3_cost_1 q12 ⟨by decide, by decide, by rfl⟩ (by decide) ?_
    exact h_k1 _ _ _ hE (lv_sub hl [0] rfl) h
  have h := ite_f q12 h
  refine x_tabOut (tgt := 60) C0 i_p2 dX3_cost_1 (by omega) (by decide) ?_
  refine lv_iload_n C0.1 C0.2.1 dX3_cost_60 rfl (lv_at hl 0 rfl) ?_
  obtain ⟨v13, h_v13, h⟩ := bndp_s h
  refine callS_i (rest := []) C0 hml hE (c_Shape_steps l D g (σ := σ) i_p1 h_v13) kw_X3_29 ⟨Nat.le_of_ble_eq_true rfl, Nat.le_of_ble_eq_true rfl⟩ rfl hl.1 rfl (Nat.le_of_ble_eq_true rfl) dX3_cost_61 ⟨Nat.zero_le _, Nat.zero_le _⟩ (fun H locs hE i_v13 => ?_)
  exact pret_i C0 hr hlk hE h i_v13 dX3_cost_64
set_option maxRecDepth 100000 in
set_option maxHeartbeats 4000000 in
theorem c_E_costs (l : Launch) (D : va_G) (g : Ad) {σ : St} {p1 p2 r : Int} (i_p1 : in32 p1) (i_p2 : in32 p2) (h : E_costs p1 p2 = some r) : CtI l D g yX7_costs cX7_costs 5 (some .int) 5 (wE g σ) (wE g σ) [.ref (g.2 0), .int (I p1), .int (I p2)] r (in32 r) := by
  intro sz
  refine met_of (by decide) (Nat.le_of_ble_eq_true rfl) (fun p e s m args below meth c ls H locs C0 hml hr hlk hE hl => ?_)
  have C0 : CX p c cX7_costs m s args D g RX7 := C0
  have hl : lv_has ls 5 [(0, .ref (g.2 0)), (1, .int (I p1)), (2, .int (I p2))] := hl
  unfold E_costs at h
  refine lv_iload_n C0.1 C0.2.1 dX7_costs_0 rfl (lv_at hl 1 rfl) ?_
  refine x_if_lt C0 i_p1 dX7_costs_1 (tgt := 20) (by decide) (fun c9 => ?_) (fun c9 => ?_)
  · have h := ite_t c9 h
    refine lv_iconst (v := I (-1)) C0.1 C0.2.1 dX7_costs_20 rfl ?_
    exact pret_i C0 hr hlk hE h lit_m1 dX7_costs_21
  · have h := ite_f c9 h
    refine lv_iload_n C0.1 C0.2.1 dX7_costs_4 rfl (lv_at hl 1 rfl) ?_
    refine lv_sipush (v := I 255) C0.1 C0.2.1 dX7_costs_5 (by decide +kernel) ?_
    refine x_icmp_gt C0 i_p1 lit_255 dX7_costs_8 (tgt := 20) (by decide) (fun c9 => ?_) (fun c9 => ?_)
    · have h := ite_t c9 h
      refine lv_iconst (v := I (-1)) C0.1 C0.2.1 dX7_costs_20 rfl ?_
      exact pret_i C0 hr hlk hE h lit_m1 dX7_costs_21
    · have h := ite_f c9 h
      refine lv_iload_n C0.1 C0.2.1 dX7_costs_11 rfl (lv_at hl 2 rfl) ?_
      refine x_if_lt C0 i_p2 dX7_costs_12 (tgt := 20) (by decide) (fun c9 => ?_) (fun c9 => ?_)
      · have h := ite_t c9 h
        refine lv_iconst (v := I (-1)) C0.1 C0.2.1 dX7_costs_20 rfl ?_
        exact pret_i C0 hr hlk hE h lit_m1 dX7_costs_21
      · have h := ite_f c9 h
        refine lv_iload_n C0.1 C0.2.1 dX7_costs_15 rfl (lv_at hl 2 rfl) ?_
        refine lv_iconst (v := I 5) C0.1 C0.2.1 dX7_costs_16 rfl ?_
        refine x_icmp_le C0 i_p2 lit_5 dX7_costs_17 (tgt := 22) (by decide) (fun c9 => ?_) (fun c9 => ?_)
        · have h := ite_f c9 h
          refine lv_iload_n C0.1 C0.2.1 dX7_costs_22 rfl (lv_at hl 2 rfl) ?_
          refine lv_iconst (v := I 2) C0.1 C0.2.1 dX7_costs_23 rfl ?_
          obtain ⟨k2, e_k2, h⟩ := jn_s h
          have h_k2 : ∀ (x1 : Int) (i_x1 : in32 x1) (H : Heap) (locs : List Loc) (ls : Array Slot), EW D (va_A (wE g σ) sz) s.heap (wE g σ) H locs → lv_has ls 5 [(1, .int (I p1)), (2, .int (I p2))] → k2 x1 = some r → W p l e (rmk 5) s m args below meth c H locs 0 0 (MQ below (QCi D (wE g σ) r (in32 r) (va_A (wE g σ) sz)) args s 0 0 (va_A (wE g σ) sz)) (F0 m 37 ls [.int (I x1)]) := by
            intro x1 i_x1 H locs ls hE hl h
            have h := (congrFun e_k2 x1).symm.trans h
            refine lv_istore_n (lv' := [(3, .int (I x1)), (1, .int (I p1)), (2, .int (I p2))]) C0.1 C0.2.1 dX7_costs_37 rfl hl (by decide) rfl (fun ls hl => ?_)
            refine lv_iload_n C0.1 C0.2.1 dX7_costs_38 rfl (lv_at hl 2 rfl) ?_
            obtain ⟨k4, e_k4, h⟩ := jn_s h
            have h_k4 : ∀ (x3 : Int) (i_x3 : in32 x3) (H : Heap) (locs : List Loc) (ls : Array Slot), EW D (va_A (wE g σ) sz) s.heap (wE g σ) H locs → lv_has ls 5 [(1, .int (I p1)), (2, .int (I p2)), (3, .int (I x1))] → k4 x3 = some r → W p l e (rmk 5) s m args below meth c H locs 0 0 (MQ below (QCi D (wE g σ) r (in32 r) (va_A (wE g σ) sz)) args s 0 0 (va_A (wE g σ) sz)) (F0 m 57 ls [.int (I x3)]) := by
              intro x3 i_x3 H locs ls hE hl h
              have h := (congrFun e_k4 x3).symm.trans h
              refine lv_istore (lv' := [(4, .int (I x3)), (1, .int (I p1)), (2, .int (I p2)), (3, .int (I x1))]) C0.1 C0.2.1 dX7_costs_57 hl (by decide) rfl (fun ls hl => ?_)
              refine lv_iload_n C0.1 C0.2.1 dX7_costs_59 rfl (lv_at hl 3 rfl) ?_
              obtain ⟨k5, e_k5, h⟩ := jn_s h
              have h_k5 : ∀ (H : Heap) (locs : List Loc) (ls : Array Slot), EW D (va_A (wE g σ) sz) s.heap (wE g σ) H locs → lv_has ls 5 [(1, .int (I p1)), (2, .int (I p2)), (4, .int (I x3))] → k5 = some r → W p l e (rmk 5) s m args below meth c H locs 0 0 (MQ below (QCi D (wE g σ) r (in32 r) (va_A (wE g σ) sz)) args s 0 0 (va_A (wE g σ) sz)) (F0 m 67 ls []) := by
                intro H locs ls hE hl h
                have h := e_k5.symm.trans h
                refine lv_iload C0.1 C0.2.1 dX7_costs_67 (lv_at hl 2 rfl) ?_
                obtain ⟨k6, e_k6, h⟩ := jn_s h
                have h_k6 : ∀ (H : Heap) (locs : List Loc) (ls : Array Slot), EW D (va_A (wE g σ) sz) s.heap (wE g σ) H locs → lv_has ls 5 [(1, .int (I p1)), (2, .int (I p2))] → k6 = some r → W p l e (rmk 5) s m args below meth c H locs 0 0 (MQ below (QCi D (wE g σ) r (in32 r) (va_A (wE g σ) sz)) args s 0 0 (va_A (wE g σ) sz)) (F0 m 82 ls []) := by
                  intro H locs ls hE hl h
                  have h := e_k6.symm.trans h
                  refine lv_iload_n C0.1 C0.2.1 dX7_costs_82 rfl (lv_at hl 0 rfl) ?_
                  refine lv_iload_n C0.1 C0.2.1 dX7_costs_83 rfl (lv_at hl 1 rfl) ?_
                  obtain ⟨v7, h_v7, h⟩ := bndp_s h
                  refine callS_i (rest := []) C0 hml hE (c_Shape_cost l D g (σ := σ) i_p1 i_p2 h_v7) kw_X7_274 ⟨Nat.le_of_ble_eq_true rfl, Nat.le_of_ble_eq_true rfl⟩ rfl hl.1 rfl (Nat.le_of_ble_eq_true rfl) dX7_costs_84 ⟨Nat.zero_le _, Nat.zero_le _⟩ (fun H locs hE i_v7 => ?_)
                  exact pret_i C0 hr hlk hE h i_v7 dX7_costs_87
                refine x_if_eq C0 i_x3 dX7_costs_69 (tgt := 82) (by decide) (fun c9 => ?_) (fun c9 => ?_)
                · have h := ite_t c9 h
                  exact h_k6 _ _ _ hE (lv_sub hl [0, 1] rfl) h
                · have h := ite_f c9 h
                  refine lv_iload_n C0.1 C0.2.1 dX7_costs_72 rfl (lv_at hl 0 rfl) ?_
                  refine lv_sipush (v := I 255) C0.1 C0.2.1 dX7_costs_73 (by decide +kernel) ?_
                  refine x_icmp_ne C0 i_p1 lit_255 dX7_costs_76 (tgt := 82) (by decide) (fun c9 => ?_) (fun c9 => ?_)
                  · have h := ite_f c9 h
                    exact h_k6 _ _ _ hE (lv_sub hl [0, 1] rfl) h
                  · have h := ite_t c9 h
                    refine lv_bipush (v := I (-2)) C0.1 C0.2.1 dX7_costs_79 (by decide +kernel) ?_
                    exact pret_i C0 hr hlk hE h lit_m2 dX7_costs_81
              refine x_if_eq C0 i_x1 dX7_costs_60 (tgt := 67) (by decide) (fun c9 => ?_) (fun c9 => ?_)
              · have h := ite_t c9 h
                exact h_k5 _ _ _ hE (lv_sub hl [1, 2, 0] rfl) h
              · have h := ite_f c9 h
                refine lv_iload_n C0.1 C0.2.1 dX7_costs_63 rfl (lv_at hl 1 rfl) ?_
                refine x_if_eq C0 i_p1 dX7_costs_64 (tgt := 79) (by decide) (fun c9 => ?_) (fun c9 => ?_)
                · have h := ite_t c9 h
                  refine lv_bipush (v := I (-2)) C0.1 C0.2.1 dX7_costs_79 (by decide +kernel) ?_
                  exact pret_i C0 hr hlk hE h lit_m2 dX7_costs_81
                · have h := ite_f c9 h
                  exact h_k5 _ _ _ hE (lv_sub hl [1, 2, 0] rfl) h
            obtain ⟨k8, e_k8, h⟩ := jn_s h
            have h_k8 : ∀ (H : Heap) (locs : List Loc) (ls : Array Slot), EW D (va_A (wE g σ) sz) s.heap (wE g σ) H locs → lv_has ls 5 [(1, .int (I p1)), (2, .int (I p2)), (3, .int (I x1))] → k8 = some r → W p l e (rmk 5) s m args below meth c H locs 0 0 (MQ below (QCi D (wE g σ) r (in32 r) (va_A (wE g σ) sz)) args s 0 0 (va_A (wE g σ) sz)) (F0 m 52 ls []) := by
              intro H locs ls hE hl h
              have h := e_k8.symm.trans h
              refine lv_iconst (v := I 1) C0.1 C0.2.1 dX7_costs_52 rfl ?_
              refine x_goto C0 dX7_costs_53 (tgt := 57) (by decide) ?_
              exact h_k4 1 lit_1 _ _ _ hE (lv_sub hl [0, 1, 2] rfl) h
            refine x_if_eq C0 i_p2 dX7_costs_39 (tgt := 52) (by decide) (fun c9 => ?_) (fun c9 => ?_)
            · have h := ite_t c9 h
              exact h_k8 _ _ _ hE (lv_sub hl [1, 2, 0] rfl) h
            · have h := ite_f c9 h
              refine lv_iload_n C0.1 C0.2.1 dX7_costs_42 rfl (lv_at hl 2 rfl) ?_
              refine lv_iconst (v := I 1) C0.1 C0.2.1 dX7_costs_43 rfl ?_
              refine x_icmp_eq C0 i_p2 lit_1 dX7_costs_44 (tgt := 52) (by decide) (fun c9 => ?_) (fun c9 => ?_)
              · have h := ite_t c9 h
                exact h_k8 _ _ _ hE (lv_sub hl [1, 2, 0] rfl) h
              · have h := ite_f c9 h
                refine lv_iload_n C0.1 C0.2.1 dX7_costs_47 rfl (lv_at hl 2 rfl) ?_
                refine lv_iconst (v := I 4) C0.1 C0.2.1 dX7_costs_48 rfl ?_
                refine x_icmp_ne C0 i_p2 lit_4 dX7_costs_49 (tgt := 56) (by decide) (fun c9 => ?_) (fun c9 => ?_)
                · have h := ite_f c9 h
                  refine lv_iconst (v := I 0) C0.1 C0.2.1 dX7_costs_56 rfl ?_
                  exact h_k4 0 lit_0 _ _ _ hE (lv_sub hl [1, 2, 0] rfl) h
                · have h := ite_t c9 h
                  exact h_k8 _ _ _ hE (lv_sub hl [1, 2, 0] rfl) h
          obtain ⟨k9, e_k9, h⟩ := jn_s h
          have h_k9 : ∀ (H : Heap) (locs : List Loc) (ls : Array Slot), EW D (va_A (wE g σ) sz) s.heap (wE g σ) H locs → lv_has ls 5 [(1, .int (I p1)), (2, .int (I p2))] → k9 = some r → W p l e (rmk 5) s m args below meth c H locs 0 0 (MQ below (QCi D (wE g σ) r (in32 r) (va_A (wE g σ) sz)) args s 0 0 (va_A (wE g σ) sz)) (F0 m 32 ls []) := by
            intro H locs ls hE hl h
            have h := e_k9.symm.trans h
            refine lv_iconst (v := I 1) C0.1 C0.2.1 dX7_costs_32 rfl ?_
            refine x_goto C0 dX7_costs_33 (tgt := 37) (by decide) ?_
            exact h_k2 1 lit_1 _ _ _ hE (lv_sub hl [0, 1] rfl) h
          refine x_icmp_eq C0 i_p2 lit_2 dX7_costs_24 (tgt := 32) (by decide) (fun c9 => ?_) (fun c9 => ?_)
          · have h := ite_t c9 h
            exact h_k9 _ _ _ hE (lv_sub hl [1, 2] rfl) h
          · have h := ite_f c9 h
            refine lv_iload_n C0.1 C0.2.1 dX7_costs_27 rfl (lv_at hl 2 rfl) ?_
            refine lv_iconst (v := I 3) C0.1 C0.2.1 dX7_costs_28 rfl ?_
            refine x_icmp_ne C0 i_p2 lit_3 dX7_costs_29 (tgt := 36) (by decide) (fun c9 => ?_) (fun c9 => ?_)
            · have h := ite_f c9 h
              refine lv_iconst (v := I 0) C0.1 C0.2.1 dX7_costs_36 rfl ?_
              exact h_k2 0 lit_0 _ _ _ hE (lv_sub hl [1, 2] rfl) h
            · have h := ite_t c9 h
              exact h_k9 _ _ _ hE (lv_sub hl [1, 2] rfl) h
        · have h := ite_t c9 h
          refine lv_iconst (v := I (-1)) C0.1 C0.2.1 dX7_costs_20 rfl ?_
          exact pret_i C0 hr hlk hE h lit_m1 dX7_costs_21
set_option maxRecDepth 100000 in
set_option maxHeartbeats 4000000 in
theorem c_Pool_countAt (l : Launch) (D : va_G) (g : Ad) {σ σr : St} {p1 r : Int} (hR : R32 σ) (i_p1 : in32 p1) (h : Pool_countAt σ p1 = some (r, σr)) : CtI l D g yX0_countAt cX0_countAt 4 (some .int) 2 (wE g σ) (wE g σr) [.ref (g.2 1), .int (I p1)] r (in32 r ∧ R32 σr) := by
  intro sz
  refine met_of (by decide) (Nat.le_of_ble_eq_true rfl) (fun p e s m args below meth c ls H locs C0 hml hr hlk hE hl => ?_)
  have C0 : CX p c cX0_countAt m s args D g RX0 := C0
  have hl : lv_has ls 4 [(0, .ref (g.2 1)), (1, .int (I p1))] := hl
  unfold Pool_countAt at h
  refine lv_aload_n C0.1 C0.2.1 dX0_countAt_0 rfl (lv_at hl 0 rfl) ?_
  refine Pool_g_at C0 hE fk_X0_27 dX0_countAt_1 ?_
  refine lv_iload_n C0.1 C0.2.1 dX0_countAt_4 rfl (lv_at hl 1 rfl) ?_
  obtain ⟨v1, e_v1, i_v1, h⟩ := rd_s hR h
  refine Pool_at_l C0 hE i_p1 e_v1 dX0_countAt_5 ?_
  refine lv_istore_n (lv' := [(2, .int (I v1)), (0, .ref (g.2 1)), (1, .int (I p1))]) C0.1 C0.2.1 dX0_countAt_6 rfl hl (by decide) rfl (fun ls hl => ?_)
  refine lv_iload_n C0.1 C0.2.1 dX0_countAt_7 rfl (lv_at hl 0 rfl) ?_
  obtain ⟨v2, h_v2, h⟩ := bndp_s h
  refine callS_i (rest := []) C0 hml hE (c_Pool_isNode l D g (σ := σ) i_v1 h_v2) kw_X0_53 ⟨Nat.le_of_ble_eq_true rfl, Nat.le_of_ble_eq_true rfl⟩ rfl hl.1 rfl (Nat.le_of_ble_eq_true rfl) dX0_countAt_8 ⟨Nat.zero_le _, Nat.zero_le _⟩ (fun H locs hE i_v2 => ?_)
  refine x_if_ne C0 i_v2 dX0_countAt_11 (tgt := 16) (by decide) (fun c9 => ?_) (fun c9 => ?_)
  · have h := ite_f c9 h
    refine lv_aload_n C0.1 C0.2.1 dX0_countAt_16 rfl (lv_at hl 1 rfl) ?_
    refine lv_iload_n C0.1 C0.2.1 dX0_countAt_17 rfl (lv_at hl 0 rfl) ?_
    obtain ⟨v3, h_v3, h⟩ := bndp_s h
    refine callV_i (rest := []) C0 hml hE (Pool_rec C0 hE) (c_Pool_seenOf l D g hR i_v1 h_v3) kw_X0_90 ⟨Nat.le_of_ble_eq_true rfl, Nat.le_of_ble_eq_true rfl⟩ rfl hl.1 rfl (Nat.le_of_ble_eq_true rfl) dX0_countAt_18 ⟨Nat.zero_le _, Nat.zero_le _⟩ (fun H locs hE i_v3 => ?_)
    refine lv_iconst (v := I 1) C0.1 C0.2.1 dX0_countAt_21 rfl ?_
    obtain ⟨v4, e_v4, i_v4, h⟩ := oadd_s h
    refine x_add C0 e_v4 dX0_countAt_22 ?_
    refine lv_istore_n (lv' := [(3, .int (I v4)), (2, .int (I v1)), (0, .ref (g.2 1)), (1, .int (I p1))]) C0.1 C0.2.1 dX0_countAt_23 rfl hl (by decide) rfl (fun ls hl => ?_)
    refine lv_aload_n C0.1 C0.2.1 dX0_countAt_24 rfl (lv_at hl 2 rfl) ?_
    refine Pool_g_seen C0 hE fk_X0_24 dX0_countAt_25 ?_
    refine lv_iload_n C0.1 C0.2.1 dX0_countAt_28 rfl (lv_at hl 1 rfl) ?_
    refine lv_aload_n C0.1 C0.2.1 dX0_countAt_29 rfl (lv_at hl 2 rfl) ?_
    obtain ⟨v5, e_v5, i_v5, h⟩ := gf_s hR h
    refine Pool_g_base C0 hE e_v5 fk_X0_40 dX0_countAt_30 ?_
    refine lv_iload_n C0.1 C0.2.1 dX0_countAt_33 rfl (lv_at hl 0 rfl) ?_
    obtain ⟨v6, e_v6, i_v6, h⟩ := oadd_s h
    refine x_add C0 e_v6 dX0_countAt_34 ?_
    obtain ⟨s7, e_s7, hR, h⟩ := wr_s hR i_v6 h
    refine Pool_seen_st C0 hE i_v1 e_s7 dX0_countAt_35 (fun H locs hE => ?_)
    refine lv_iload_n C0.1 C0.2.1 dX0_countAt_36 rfl (lv_at hl 0 rfl) ?_
    exact ret_i (wf := wE g) C0 hr hlk hE h i_v4 hR dX0_countAt_37
  · have h := ite_t c9 h
    refine lv_iconst (v := I 0) C0.1 C0.2.1 dX0_countAt_14 rfl ?_
    exact ret_i (wf := wE g) C0 hr hlk hE h lit_0 hR dX0_countAt_15
set_option maxRecDepth 100000 in
set_option maxHeartbeats 4000000 in
theorem c_E_twins (l : Launch) (D : va_G) (g : Ad) {σ σr : St} {p1 r : Int} (hR : R32 σ) (i_p1 : in32 p1) (h : E_twins σ p1 = some (r, σr)) : CtI l D g yX7_twins cX7_twins 7 (some .int) 4 (wE g σ) (wE g σr) [.ref (g.2 0), .int (I p1)] r (in32 r ∧ R32 σr) := by
  intro sz
  refine met_of (by decide) (Nat.le_of_ble_eq_true rfl) (fun p e s m args below meth c ls H locs C0 hml hr hlk hE hl => ?_)
  have C0 : CX p c cX7_twins m s args D g RX7 := C0
  have hl : lv_has ls 7 [(0, .ref (g.2 0)), (1, .int (I p1))] := hl
  unfold E_twins at h
  refine lv_iload_n C0.1 C0.2.1 dX7_twins_0 rfl (lv_at hl 1 rfl) ?_
  obtain ⟨v1, h_v1, h⟩ := bndp_s h
  refine callS_i (rest := []) C0 hml hE (c_E_isPlace l D g (σ := σ) i_p1 h_v1) kw_X7_86 ⟨Nat.le_of_ble_eq_true rfl, Nat.le_of_ble_eq_true rfl⟩ rfl hl.1 rfl (Nat.le_of_ble_eq_true rfl) dX7_twins_1 ⟨Nat.zero_le _, Nat.zero_le _⟩ (fun H locs hE i_v1 => ?_)
  refine x_if_ne C0 i_v1 dX7_twins_4 (tgt := 9) (by decide) (fun c9 => ?_) (fun c9 => ?_)
  · have h := ite_f c9 h
    refine lv_aload_n C0.1 C0.2.1 dX7_twins_9 rfl (lv_at hl 0 rfl) ?_
    refine E_g_pool C0 hE fk_X7_10 dX7_twins_10 ?_
    obtain ⟨v2, s3, h_v2, h⟩ := bnd_s h
    refine callV_v (rest := []) C0 hml hE (Pool_rec C0 hE) (c_Pool_forget l D g hR h_v2) kw_X7_277 ⟨Nat.le_of_ble_eq_true rfl, Nat.le_of_ble_eq_true rfl⟩ rfl hl.1 rfl (Nat.le_of_ble_eq_true rfl) dX7_twins_13 ⟨Nat.zero_le _, Nat.zero_le _⟩ (fun H locs hE hR => ?_)
    refine lv_aload_n C0.1 C0.2.1 dX7_twins_16 rfl (lv_at hl 0 rfl) ?_
    refine E_g_pool C0 hE fk_X7_10 dX7_twins_17 ?_
    refine lv_aload_n C0.1 C0.2.1 dX7_twins_20 rfl (lv_at hl 0 rfl) ?_
    refine E_g_trees C0 hE fk_X7_49 dX7_twins_21 ?_
    refine lv_iload_n C0.1 C0.2.1 dX7_twins_24 rfl (lv_at hl 1 rfl) ?_
    obtain ⟨v4, e_v4, i_v4, h⟩ := rd_s hR h
    refine E_trees_l C0 hE i_p1 e_v4 dX7_twins_25 ?_
    refine lv_aload_n C0.1 C0.2.1 dX7_twins_26 rfl (lv_at hl 0 rfl) ?_
    refine E_g_sizes C0 hE fk_X7_53 dX7_twins_27 ?_
    refine lv_iload_n C0.1 C0.2.1 dX7_twins_30 rfl (lv_at hl 1 rfl) ?_
    obtain ⟨v5, e_v5, i_v5, h⟩ := rd_s hR h
    refine E_sizes_l C0 hE i_p1 e_v5 dX7_twins_31 ?_
    obtain ⟨v6, s7, h_v6, h⟩ := bnd_s h
    refine callV_v (rest := []) C0 hml hE (Pool_rec C0 hE) (c_Pool_spread l D g hR i_v4 i_v5 h_v6) kw_X7_280 ⟨Nat.le_of_ble_eq_true rfl, Nat.le_of_ble_eq_true rfl⟩ rfl hl.1 rfl (Nat.le_of_ble_eq_true rfl) dX7_twins_32 ⟨Nat.zero_le _, Nat.zero_le _⟩ (fun H locs hE hR => ?_)
    refine lv_iconst (v := I 0) C0.1 C0.2.1 dX7_twins_35 rfl ?_
    refine lv_istore_n (lv' := [(2, .int (I 0)), (0, .ref (g.2 0)), (1, .int (I p1))]) C0.1 C0.2.1 dX7_twins_36 rfl hl (by decide) rfl (fun ls hl => ?_)
    refine lv_iconst (v := I 0) C0.1 C0.2.1 dX7_twins_37 rfl ?_
    refine lv_istore_n (lv' := [(3, .int (I 0)), (2, .int (I 0)), (0, .ref (g.2 0)), (1, .int (I p1))]) C0.1 C0.2.1 dX7_twins_38 rfl hl (by decide) rfl (fun ls hl => ?_)
    refine lv_iconst (v := I 0) C0.1 C0.2.1 dX7_twins_39 rfl ?_
    refine lv_istore (lv' := [(4, .int (I 0)), (3, .int (I 0)), (2, .int (I 0)), (0, .ref (g.2 0)), (1, .int (I p1))]) C0.1 C0.2.1 dX7_twins_40 hl (by decide) rfl (fun ls hl => ?_)
    refine lv_iconst (v := I 0) C0.1 C0.2.1 dX7_twins_42 rfl ?_
    refine lv_istore (lv' := [(5, .int (I 0)), (4, .int (I 0)), (3, .int (I 0)), (2, .int (I 0)), (0, .ref (g.2 0)), (1, .int (I p1))]) C0.1 C0.2.1 dX7_twins_43 hl (by decide) rfl (fun ls hl => ?_)
    obtain ⟨k12, e_k12, h⟩ := jn_s h
    have h_k12 : ∀ (s8 : St) (hR : R32 s8) (x9 : Int) (i_x9 : in32 x9) (x10 : Int) (i_x10 : in32 x10) (x11 : Int) (i_x11 : in32 x11) (H : Heap) (locs : List Loc) (ls : Array Slot), EW D (va_A (wE g σ) sz) s.heap (wE g s8) H locs → lv_has ls 7 [(0, .ref (g.2 0)), (1, .int (I p1)), (2, .int (I x9)), (3, .int (I x10)), (4, .int (I x11))] → k12 s8 x9 x10 x11 = some (r, σr) → W p l e (rmk 4) s m args below meth c H locs 0 0 (MQ below (QCi D (wE g σr) r (in32 r ∧ R32 σr) (va_A (wE g σ) sz)) args s 0 0 (va_A (wE g σ) sz)) (F0 m 110 ls []) := by
      intro s8 hR x9 i_x9 x10 i_x10 x11 i_x11 H locs ls hE hl h
      have h := (congrFun (congrFun (congrFun (congrFun e_k12 s8) x9) x10) x11).symm.trans h
      refine lv_aload_n C0.1 C0.2.1 dX7_twins_110 rfl (lv_at hl 0 rfl) ?_
      refine E_g_told C0 hE fk_X7_19 dX7_twins_111 ?_
      refine lv_iload C0.1 C0.2.1 dX7_twins_114 (lv_at hl 4 rfl) ?_
      refine x_i2l C0 i_x11 dX7_twins_116 ?_
      refine lv_aload_n C0.1 C0.2.1 dX7_twins_117 rfl (lv_at hl 0 rfl) ?_
      refine E_g_sizes C0 hE fk_X7_53 dX7_twins_118 ?_
      refine lv_iload_n C0.1 C0.2.1 dX7_twins_121 rfl (lv_at hl 1 rfl) ?_
      obtain ⟨v13, e_v13, i_v13, h⟩ := rd_s hR h
      refine E_sizes_l C0 hE i_p1 e_v13 dX7_twins_122 ?_
      refine lv_iload_n C0.1 C0.2.1 dX7_twins_123 rfl (lv_at hl 2 rfl) ?_
      obtain ⟨v14, e_v14, i_v14, h⟩ := osub_s h
      refine x_sub C0 e_v14 dX7_twins_124 ?_
      refine x_i2l C0 i_v14 dX7_twins_125 ?_
      obtain ⟨v15, s16, h_v15, h⟩ := bnd_s h
      refine callV_v (rest := []) C0 hml hE (Row_rec C0 hE) (c_Row_tell1 l D g hR (in64_of i_x11) (in64_of i_v14) h_v15) kw_X7_162 ⟨Nat.le_of_ble_eq_true rfl, Nat.le_of_ble_eq_true rfl⟩ rfl hl.1 rfl (Nat.le_of_ble_eq_true rfl) dX7_twins_126 ⟨Nat.zero_le _, Nat.zero_le _⟩ (fun H locs hE hR => ?_)
      refine lv_iload_n C0.1 C0.2.1 dX7_twins_129 rfl (lv_at hl 3 rfl) ?_
      exact ret_i (wf := wE g) C0 hr hlk hE h i_x10 hR dX7_twins_130
    have hL45 : ∀ (n : Nat) (s21 : St) (hR : R32 s21) (x17 : Int) (i_x17 : in32 x17) (x18 : Int) (i_x18 : in32 x18) (x19 : Int) (i_x19 : in32 x19) (x20 : Int) (i_x20 : in32 x20) (H : Heap) (locs : List Loc) (ls : Array Slot), EW D (va_A (wE g σ) sz) s.heap (wE g s21) H locs → lv_has ls 7 [(0, .ref (g.2 0)), (1, .int (I p1)), (2, .int (I x17)), (3, .int (I x18)), (4, .int (I x19)), (5, .int (I x20))] → E_twins_L45 k12 p1 n s21 x17 x18 x19 x20 = some (r, σr) → W p l e (rmk 4) s m args below meth c H locs 0 0 (MQ below (QCi D (wE g σr) r (in32 r ∧ R32 σr) (va_A (wE g σ) sz)) args s 0 0 (va_A (wE g σ) sz)) (F0 m 45 ls []) := by
      intro n
      induction n with
      | zero => intros; rename_i h; cases h
      | succ n ih22 =>
        intro s21 hR x17 i_x17 x18 i_x18 x19 i_x19 x20 i_x20 H locs ls hE hl h
        unfold E_twins_L45 at h
        refine lv_iload C0.1 C0.2.1 dX7_twins_45 (lv_at hl 5 rfl) ?_
        refine lv_aload_n C0.1 C0.2.1 dX7_twins_47 rfl (lv_at hl 0 rfl) ?_
        refine E_g_sizes C0 hE fk_X7_53 dX7_twins_48 ?_
        refine lv_iload_n C0.1 C0.2.1 dX7_twins_51 rfl (lv_at hl 1 rfl) ?_
        obtain ⟨v23, e_v23, i_v23, h⟩ := rd_s hR h
        refine E_sizes_l C0 hE i_p1 e_v23 dX7_twins_52 ?_
        refine x_icmp_ge C0 i_x20 i_v23 dX7_twins_53 (tgt := 110) (by decide) (fun c9 => ?_) (fun c9 => ?_)
        · have h := ite_f c9 h
          exact h_k12 s21 hR x17 i_x17 x18 i_x18 x19 i_x19 _ _ _ hE (lv_sub hl [0, 1, 2, 3, 4] rfl) h
        · have h := ite_t c9 h
          refine lv_aload_n C0.1 C0.2.1 dX7_twins_56 rfl (lv_at hl 0 rfl) ?_
          refine E_g_pool C0 hE fk_X7_10 dX7_twins_57 ?_
          refine lv_iload C0.1 C0.2.1 dX7_twins_60 (lv_at hl 5 rfl) ?_
          obtain ⟨v24, s25, h_v24, h⟩ := bnd_s h
          refine callV_i (rest := []) C0 hml hE (Pool_rec C0 hE) (c_Pool_countAt l D g hR i_x20 h_v24) kw_X7_283 ⟨Nat.le_of_ble_eq_true rfl, Nat.le_of_ble_eq_true rfl⟩ rfl hl.1 rfl (Nat.le_of_ble_eq_true rfl) dX7_twins_62 ⟨Nat.zero_le _, Nat.zero_le _⟩ (fun H locs hE ⟨i_v24, hR⟩ => ?_)
          refine lv_istore (lv' := [(6, .int (I v24)), (0, .ref (g.2 0)), (1, .int (I p1)), (2, .int (I x17)), (3, .int (I x18)), (4, .int (I x19)), (5, .int (I x20))]) C0.1 C0.2.1 dX7_twins_65 hl (by decide) rfl (fun ls hl => ?_)
          refine lv_iload_n C0.1 C0.2.1 dX7_twins_67 rfl (lv_at hl 3 rfl) ?_
          refine lv_iload C0.1 C0.2.1 dX7_twins_68 (lv_at hl 0 rfl) ?_
          refine lv_iconst (v := I 1) C0.1 C0.2.1 dX7_twins_70 rfl ?_
          obtain ⟨v26, e_v26, i_v26, h⟩ := oif_s h
          have kk_v26 : W p l e (rmk 4) s m args below meth c H locs 0 0 (MQ below (QCi D (wE g σr) r (in32 r ∧ R32 σr) (va_A (wE g σ) sz)) args s 0 0 (va_A (wE g σ) sz)) (F0 m 79 ls [.int (I v26), .int (I x17)]) := by
            obtain ⟨v27, e_v27, i_v27, h⟩ := oadd_s h
            refine x_add C0 e_v27 dX7_twins_79 ?_
            refine lv_istore_n (lv' := [(2, .int (I v27)), (6, .int (I v24)), (0, .ref (g.2 0)), (1, .int (I p1)), (3, .int (I x18)), (4, .int (I x19)), (5, .int (I x20))]) C0.1 C0.2.1 dX7_twins_80 rfl hl (by decide) rfl (fun ls hl => ?_)
            refine lv_iload_n C0.1 C0.2.1 dX7_twins_81 rfl (lv_at hl 4 rfl) ?_
            refine lv_iload C0.1 C0.2.1 dX7_twins_82 (lv_at hl 1 rfl) ?_
            refine lv_iconst (v := I 2) C0.1 C0.2.1 dX7_twins_84 rfl ?_
            obtain ⟨v28, e_v28, i_v28, h⟩ := oif_s h
            have kk_v28 : W p l e (rmk 4) s m args below meth c H locs 0 0 (MQ below (QCi D (wE g σr) r (in32 r ∧ R32 σr) (va_A (wE g σ) sz)) args s 0 0 (va_A (wE g σ) sz)) (F0 m 93 ls [.int (I v28), .int (I x18)]) := by
              obtain ⟨v29, e_v29, i_v29, h⟩ := oadd_s h
              refine x_add C0 e_v29 dX7_twins_93 ?_
              refine lv_istore_n (lv' := [(3, .int (I v29)), (2, .int (I v27)), (6, .int (I v24)), (0, .ref (g.2 0)), (1, .int (I p1)), (4, .int (I x19)), (5, .int (I x20))]) C0.1 C0.2.1 dX7_twins_94 rfl hl (by decide) rfl (fun ls hl => ?_)
              refine lv_iload C0.1 C0.2.1 dX7_twins_95 (lv_at hl 5 rfl) ?_
              refine lv_iload C0.1 C0.2.1 dX7_twins_97 (lv_at hl 2 rfl) ?_
              obtain ⟨v30, e_v30, i_v30, h⟩ := opure_s h (imax_in i_x19 i_v24)
              refine x_max C0 kw_X7_286 (hml.trans hl.1.symm) i_x19 i_v24 e_v30 ⟨Nat.le_of_ble_eq_true rfl, Nat.le_of_ble_eq_true rfl⟩ ⟨Nat.zero_le _, Nat.zero_le _⟩ dX7_twins_99 ?_
              refine lv_istore (lv' := [(4, .int (I v30)), (3, .int (I v29)), (2, .int (I v27)), (6, .int (I v24)), (0, .ref (g.2 0)), (1, .int (I p1)), (5, .int (I x20))]) C0.1 C0.2.1 dX7_twins_102 hl (by decide) rfl (fun ls hl => ?_)
              obtain ⟨v31, e_v31, i_v31, h⟩ := oadd_s h
              refine x_iinc (lv' := [(5, .int (I v31)), (4, .int (I v30)), (3, .int (I v29)), (2, .int (I v27)), (6, .int (I v24)), (0, .ref (g.2 0)), (1, .int (I p1))]) C0 dX7_twins_104 hl (k := 6) rfl e_v31 (by decide) rfl (fun ls hl => ?_)
              refine x_goto C0 dX7_twins_107 (tgt := 45) (by decide) ?_
              exact ih22 s25 hR v27 i_v27 v29 i_v29 v30 i_v30 v31 i_v31 _ _ _ hE (lv_sub hl [5, 6, 3, 2, 1, 0] rfl) h
            refine x_icmp_ne C0 i_v24 lit_2 dX7_twins_85 (tgt := 92) (by decide) (fun c9 => ?_) (fun c9 => ?_)
            · have e9 := e_v28.trans (if_neg c9)
              refine lv_iconst (v := I 0) C0.1 C0.2.1 dX7_twins_92 rfl ?_
              rw [e9] at kk_v28; exact kk_v28
            · have e9 := e_v28.trans (if_pos c9)
              refine lv_iconst (v := I 1) C0.1 C0.2.1 dX7_twins_88 rfl ?_
              refine x_goto C0 dX7_twins_89 (tgt := 93) (by decide) ?_
              rw [e9] at kk_v28; exact kk_v28
          refine x_icmp_ne C0 i_v24 lit_1 dX7_twins_71 (tgt := 78) (by decide) (fun c9 => ?_) (fun c9 => ?_)
          · have e9 := e_v26.trans (if_neg c9)
            refine lv_iconst (v := I 0) C0.1 C0.2.1 dX7_twins_78 rfl ?_
            rw [e9] at kk_v26; exact kk_v26
          · have e9 := e_v26.trans (if_pos c9)
            refine lv_iconst (v := I 1) C0.1 C0.2.1 dX7_twins_74 rfl ?_
            refine x_goto C0 dX7_twins_75 (tgt := 79) (by decide) ?_
            rw [e9] at kk_v26; exact kk_v26
    exact hL45 FU s7 hR 0 lit_0 0 lit_0 0 lit_0 0 lit_0 _ _ _ hE (lv_sub hl [4, 5, 3, 2, 1, 0] rfl) h
  · have h := ite_t c9 h
    refine lv_iconst (v := I (-1)) C0.1 C0.2.1 dX7_twins_7 rfl ?_
    exact ret_i (wf := wE g) C0 hr hlk hE h lit_m1 hR dX7_twins_8
set_option maxRecDepth 100000 in
set_option maxHeartbeats 4000000 in
theorem c_E_nodes (l : Launch) (D : va_G) (g : Ad) {σ σr : St} {r : Int} (hR : R32 σ) (h : E_nodes σ = some (r, σr)) : CtI l D g yX7_nodes cX7_nodes 7 (some .int) 4 (wE g σ) (wE g σr) [.ref (g.2 0)] r (in32 r ∧ R32 σr) := by
  intro sz
  refine met_of (by decide) (Nat.le_of_ble_eq_true rfl) (fun p e s m args below meth c ls H locs C0 hml hr hlk hE hl => ?_)
  have C0 : CX p c cX7_nodes m s args D g RX7 := C0
  have hl : lv_has ls 7 [(0, .ref (g.2 0))] := hl
  unfold E_nodes at h
  refine lv_aload_n C0.1 C0.2.1 dX7_nodes_0 rfl (lv_at hl 0 rfl) ?_
  refine E_g_pool C0 hE fk_X7_10 dX7_nodes_1 ?_
  obtain ⟨v1, s2, h_v1, h⟩ := bnd_s h
  refine callV_v (rest := []) C0 hml hE (Pool_rec C0 hE) (c_Pool_forget l D g hR h_v1) kw_X7_277 ⟨Nat.le_of_ble_eq_true rfl, Nat.le_of_ble_eq_true rfl⟩ rfl hl.1 rfl (Nat.le_of_ble_eq_true rfl) dX7_nodes_4 ⟨Nat.zero_le _, Nat.zero_le _⟩ (fun H locs hE hR => ?_)
  refine lv_iconst (v := I 0) C0.1 C0.2.1 dX7_nodes_7 rfl ?_
  refine lv_istore_n (lv' := [(1, .int (I 0)), (0, .ref (g.2 0))]) C0.1 C0.2.1 dX7_nodes_8 rfl hl (by decide) rfl (fun ls hl => ?_)
  refine lv_iconst (v := I 0) C0.1 C0.2.1 dX7_nodes_9 rfl ?_
  refine lv_istore_n (lv' := [(2, .int (I 0)), (1, .int (I 0)), (0, .ref (g.2 0))]) C0.1 C0.2.1 dX7_nodes_10 rfl hl (by decide) rfl (fun ls hl => ?_)
  refine lv_iconst (v := I 0) C0.1 C0.2.1 dX7_nodes_11 rfl ?_
  refine lv_istore_n (lv' := [(3, .int (I 0)), (2, .int (I 0)), (1, .int (I 0)), (0, .ref (g.2 0))]) C0.1 C0.2.1 dX7_nodes_12 rfl hl (by decide) rfl (fun ls hl => ?_)
  refine lv_iconst (v := I 0) C0.1 C0.2.1 dX7_nodes_13 rfl ?_
  refine lv_istore (lv' := [(4, .int (I 0)), (3, .int (I 0)), (2, .int (I 0)), (1, .int (I 0)), (0, .ref (g.2 0))]) C0.1 C0.2.1 dX7_nodes_14 hl (by decide) rfl (fun ls hl => ?_)
  obtain ⟨k7, e_k7, h⟩ := jn_s h
  have h_k7 : ∀ (s3 : St) (hR : R32 s3) (x4 : Int) (i_x4 : in32 x4) (x5 : Int) (i_x5 : in32 x5) (x6 : Int) (i_x6 : in32 x6) (H : Heap) (locs : List Loc) (ls : Array Slot), EW D (va_A (wE g σ) sz) s.heap (wE g s3) H locs → lv_has ls 7 [(0, .ref (g.2 0)), (1, .int (I x4)), (2, .int (I x5)), (3, .int (I x6))] → k7 s3 x4 x5 x6 = some (r, σr) → W p l e (rmk 4) s m args below meth c H locs 0 0 (MQ below (QCi D (wE g σr) r (in32 r ∧ R32 σr) (va_A (wE g σ) sz)) args s 0 0 (va_A (wE g σ) sz)) (F0 m 136 ls []) := by
    intro s3 hR x4 i_x4 x5 i_x5 x6 i_x6 H locs ls hE hl h
    have h := (congrFun (congrFun (congrFun (congrFun e_k7 s3) x4) x5) x6).symm.trans h
    refine lv_aload_n C0.1 C0.2.1 dX7_nodes_136 rfl (lv_at hl 0 rfl) ?_
    refine E_g_told C0 hE fk_X7_19 dX7_nodes_137 ?_
    refine lv_iload_n C0.1 C0.2.1 dX7_nodes_140 rfl (lv_at hl 2 rfl) ?_
    refine x_i2l C0 i_x5 dX7_nodes_141 ?_
    refine lv_iload_n C0.1 C0.2.1 dX7_nodes_142 rfl (lv_at hl 3 rfl) ?_
    refine x_i2l C0 i_x6 dX7_nodes_143 ?_
    obtain ⟨v8, s9, h_v8, h⟩ := bnd_s h
    refine callV_v (rest := []) C0 hml hE (Row_rec C0 hE) (c_Row_tell1 l D g hR (in64_of i_x5) (in64_of i_x6) h_v8) kw_X7_162 ⟨Nat.le_of_ble_eq_true rfl, Nat.le_of_ble_eq_true rfl⟩ rfl hl.1 rfl (Nat.le_of_ble_eq_true rfl) dX7_nodes_144 ⟨Nat.zero_le _, Nat.zero_le _⟩ (fun H locs hE hR => ?_)
    refine lv_iload_n C0.1 C0.2.1 dX7_nodes_147 rfl (lv_at hl 1 rfl) ?_
    exact ret_i (wf := wE g) C0 hr hlk hE h i_x4 hR dX7_nodes_148
  have hL16 : ∀ (n : Nat) (s14 : St) (hR : R32 s14) (x10 : Int) (i_x10 : in32 x10) (x11 : Int) (i_x11 : in32 x11) (x12 : Int) (i_x12 : in32 x12) (x13 : Int) (i_x13 : in32 x13) (H : Heap) (locs : List Loc) (ls : Array Slot), EW D (va_A (wE g σ) sz) s.heap (wE g s14) H locs → lv_has ls 7 [(0, .ref (g.2 0)), (1, .int (I x10)), (2, .int (I x11)), (3, .int (I x12)), (4, .int (I x13))] → E_nodes_L16 k7 n s14 x10 x11 x12 x13 = some (r, σr) → W p l e (rmk 4) s m args below meth c H locs 0 0 (MQ below (QCi D (wE g σr) r (in32 r ∧ R32 σr) (va_A (wE g σ) sz)) args s 0 0 (va_A (wE g σ) sz)) (F0 m 16 ls []) := by
    intro n
    induction n with
    | zero => intros; rename_i h; cases h
    | succ n ih15 =>
      intro s14 hR x10 i_x10 x11 i_x11 x12 i_x12 x13 i_x13 H locs ls hE hl h
      unfold E_nodes_L16 at h
      refine lv_iload C0.1 C0.2.1 dX7_nodes_16 (lv_at hl 4 rfl) ?_
      refine lv_bipush (v := I 6) C0.1 C0.2.1 dX7_nodes_18 (by decide +kernel) ?_
      refine x_icmp_ge C0 i_x13 lit_6 dX7_nodes_20 (tgt := 136) (by decide) (fun c9 => ?_) (fun c9 => ?_)
      · have h := ite_f c9 h
        exact h_k7 s14 hR x10 i_x10 x11 i_x11 x12 i_x12 _ _ _ hE (lv_sub hl [0, 1, 2, 3] rfl) h
      · have h := ite_t c9 h
        refine lv_aload_n C0.1 C0.2.1 dX7_nodes_23 rfl (lv_at hl 0 rfl) ?_
        refine E_g_pool C0 hE fk_X7_10 dX7_nodes_24 ?_
        refine lv_aload_n C0.1 C0.2.1 dX7_nodes_27 rfl (lv_at hl 0 rfl) ?_
        refine E_g_trees C0 hE fk_X7_49 dX7_nodes_28 ?_
        refine lv_iload C0.1 C0.2.1 dX7_nodes_31 (lv_at hl 4 rfl) ?_
        obtain ⟨v16, e_v16, i_v16, h⟩ := rd_s hR h
        refine E_trees_l C0 hE i_x13 e_v16 dX7_nodes_33 ?_
        refine lv_aload_n C0.1 C0.2.1 dX7_nodes_34 rfl (lv_at hl 0 rfl) ?_
        refine E_g_sizes C0 hE fk_X7_53 dX7_nodes_35 ?_
        refine lv_iload C0.1 C0.2.1 dX7_nodes_38 (lv_at hl 4 rfl) ?_
        obtain ⟨v17, e_v17, i_v17, h⟩ := rd_s hR h
        refine E_sizes_l C0 hE i_x13 e_v17 dX7_nodes_40 ?_
        obtain ⟨v18, s19, h_v18, h⟩ := bnd_s h
        refine callV_v (rest := []) C0 hml hE (Pool_rec C0 hE) (c_Pool_spread l D g hR i_v16 i_v17 h_v18) kw_X7_280 ⟨Nat.le_of_ble_eq_true rfl, Nat.le_of_ble_eq_true rfl⟩ rfl hl.1 rfl (Nat.le_of_ble_eq_true rfl) dX7_nodes_41 ⟨Nat.zero_le _, Nat.zero_le _⟩ (fun H locs hE hR => ?_)
        refine lv_iconst (v := I 0) C0.1 C0.2.1 dX7_nodes_44 rfl ?_
        refine lv_istore (lv' := [(5, .int (I 0)), (0, .ref (g.2 0)), (1, .int (I x10)), (2, .int (I x11)), (3, .int (I x12)), (4, .int (I x13))]) C0.1 C0.2.1 dX7_nodes_45 hl (by decide) rfl (fun ls hl => ?_)
        obtain ⟨k23, e_k23, h⟩ := jn_s h
        have h_k23 : ∀ (s20 : St) (hR : R32 s20) (x21 : Int) (i_x21 : in32 x21) (x22 : Int) (i_x22 : in32 x22) (H : Heap) (locs : List Loc) (ls : Array Slot), EW D (va_A (wE g σ) sz) s.heap (wE g s20) H locs → lv_has ls 7 [(0, .ref (g.2 0)), (1, .int (I x21)), (2, .int (I x22)), (3, .int (I x12)), (4, .int (I x13))] → k23 s20 x21 x22 = some (r, σr) → W p l e (rmk 4) s m args below meth c H locs 0 0 (MQ below (QCi D (wE g σr) r (in32 r ∧ R32 σr) (va_A (wE g σ) sz)) args s 0 0 (va_A (wE g σ) sz)) (F0 m 120 ls []) := by
          intro s20 hR x21 i_x21 x22 i_x22 H locs ls hE hl h
          have h := (congrFun (congrFun (congrFun e_k23 s20) x21) x22).symm.trans h
          refine lv_iload_n C0.1 C0.2.1 dX7_nodes_120 rfl (lv_at hl 3 rfl) ?_
          refine lv_aload_n C0.1 C0.2.1 dX7_nodes_121 rfl (lv_at hl 0 rfl) ?_
          refine E_g_sizes C0 hE fk_X7_53 dX7_nodes_122 ?_
          refine lv_iload C0.1 C0.2.1 dX7_nodes_125 (lv_at hl 4 rfl) ?_
          obtain ⟨v24, e_v24, i_v24, h⟩ := rd_s hR h
          refine E_sizes_l C0 hE i_x13 e_v24 dX7_nodes_127 ?_
          obtain ⟨v25, e_v25, i_v25, h⟩ := oadd_s h
          refine x_add C0 e_v25 dX7_nodes_128 ?_
          refine lv_istore_n (lv' := [(3, .int (I v25)), (0, .ref (g.2 0)), (1, .int (I x21)), (2, .int (I x22)), (4, .int (I x13))]) C0.1 C0.2.1 dX7_nodes_129 rfl hl (by decide) rfl (fun ls hl => ?_)
          obtain ⟨v26, e_v26, i_v26, h⟩ := oadd_s h
          refine x_iinc (lv' := [(4, .int (I v26)), (3, .int (I v25)), (0, .ref (g.2 0)), (1, .int (I x21)), (2, .int (I x22))]) C0 dX7_nodes_130 hl (k := 4) rfl e_v26 (by decide) rfl (fun ls hl => ?_)
          refine x_goto C0 dX7_nodes_133 (tgt := 16) (by decide) ?_
          exact ih15 s20 hR x21 i_x21 x22 i_x22 v25 i_v25 v26 i_v26 _ _ _ hE (lv_sub hl [2, 3, 4, 1, 0] rfl) h
        have hL47 : ∀ (n : Nat) (s30 : St) (hR : R32 s30) (x27 : Int) (i_x27 : in32 x27) (x28 : Int) (i_x28 : in32 x28) (x29 : Int) (i_x29 : in32 x29) (H : Heap) (locs : List Loc) (ls : Array Slot), EW D (va_A (wE g σ) sz) s.heap (wE g s30) H locs → lv_has ls 7 [(0, .ref (g.2 0)), (1, .int (I x27)), (2, .int (I x28)), (3, .int (I x12)), (4, .int (I x13)), (5, .int (I x29))] → E_nodes_L47 k23 x13 n s30 x27 x28 x29 = some (r, σr) → W p l e (rmk 4) s m args below meth c H locs 0 0 (MQ below (QCi D (wE g σr) r (in32 r ∧ R32 σr) (va_A (wE g σ) sz)) args s 0 0 (va_A (wE g σ) sz)) (F0 m 47 ls []) := by
          intro n
          induction n with
          | zero => intros; rename_i h; cases h
          | succ n ih31 =>
            intro s30 hR x27 i_x27 x28 i_x28 x29 i_x29 H locs ls hE hl h
            unfold E_nodes_L47 at h
            refine lv_iload C0.1 C0.2.1 dX7_nodes_47 (lv_at hl 5 rfl) ?_
            refine lv_aload_n C0.1 C0.2.1 dX7_nodes_49 rfl (lv_at hl 0 rfl) ?_
            refine E_g_sizes C0 hE fk_X7_53 dX7_nodes_50 ?_
            refine lv_iload C0.1 C0.2.1 dX7_nodes_53 (lv_at hl 4 rfl) ?_
            obtain ⟨v32, e_v32, i_v32, h⟩ := rd_s hR h
            refine E_sizes_l C0 hE i_x13 e_v32 dX7_nodes_55 ?_
            refine x_icmp_ge C0 i_x29 i_v32 dX7_nodes_56 (tgt := 120) (by decide) (fun c9 => ?_) (fun c9 => ?_)
            · have h := ite_f c9 h
              exact h_k23 s30 hR x27 i_x27 x28 i_x28 _ _ _ hE (lv_sub hl [0, 1, 2, 3, 4] rfl) h
            · have h := ite_t c9 h
              refine lv_aload_n C0.1 C0.2.1 dX7_nodes_59 rfl (lv_at hl 0 rfl) ?_
              refine E_g_pool C0 hE fk_X7_10 dX7_nodes_60 ?_
              refine lv_iload C0.1 C0.2.1 dX7_nodes_63 (lv_at hl 5 rfl) ?_
              refine lv_iconst (v := I 1) C0.1 C0.2.1 dX7_nodes_65 rfl ?_
              refine lv_iload C0.1 C0.2.1 dX7_nodes_66 (lv_at hl 4 rfl) ?_
              obtain ⟨v33, e_v33, i_v33, h⟩ := opure_s h (bshl_in _ _)
              refine x_shl C0 e_v33 dX7_nodes_68 ?_
              obtain ⟨v34, s35, h_v34, h⟩ := bnd_s h
              refine callV_i (rest := []) C0 hml hE (Pool_rec C0 hE) (c_Pool_seeAt l D g hR i_x29 i_v33 h_v34) kw_X7_289 ⟨Nat.le_of_ble_eq_true rfl, Nat.le_of_ble_eq_true rfl⟩ rfl hl.1 rfl (Nat.le_of_ble_eq_true rfl) dX7_nodes_69 ⟨Nat.zero_le _, Nat.zero_le _⟩ (fun H locs hE ⟨i_v34, hR⟩ => ?_)
              refine lv_istore (lv' := [(6, .int (I v34)), (0, .ref (g.2 0)), (1, .int (I x27)), (2, .int (I x28)), (3, .int (I x12)), (4, .int (I x13)), (5, .int (I x29))]) C0.1 C0.2.1 dX7_nodes_72 hl (by decide) rfl (fun ls hl => ?_)
              refine lv_iload_n C0.1 C0.2.1 dX7_nodes_74 rfl (lv_at hl 2 rfl) ?_
              refine lv_iload C0.1 C0.2.1 dX7_nodes_75 (lv_at hl 0 rfl) ?_
              obtain ⟨v36, e_v36, i_v36, h⟩ := oif_s h
              have kk_v36 : W p l e (rmk 4) s m args below meth c H locs 0 0 (MQ below (QCi D (wE g σr) r (in32 r ∧ R32 σr) (va_A (wE g σ) sz)) args s 0 0 (va_A (wE g σ) sz)) (F0 m 85 ls [.int (I v36), .int (I x27)]) := by
                obtain ⟨v37, e_v37, i_v37, h⟩ := oadd_s h
                refine x_add C0 e_v37 dX7_nodes_85 ?_
                refine lv_istore_n (lv' := [(1, .int (I v37)), (6, .int (I v34)), (0, .ref (g.2 0)), (2, .int (I x28)), (3, .int (I x12)), (4, .int (I x13)), (5, .int (I x29))]) C0.1 C0.2.1 dX7_nodes_86 rfl hl (by decide) rfl (fun ls hl => ?_)
                refine lv_iload_n C0.1 C0.2.1 dX7_nodes_87 rfl (lv_at hl 3 rfl) ?_
                refine lv_iload C0.1 C0.2.1 dX7_nodes_88 (lv_at hl 1 rfl) ?_
                refine lv_iconst (v := I 1) C0.1 C0.2.1 dX7_nodes_90 rfl ?_
                refine lv_iload C0.1 C0.2.1 dX7_nodes_91 (lv_at hl 5 rfl) ?_
                obtain ⟨v38, e_v38, i_v38, h⟩ := opure_s h (bshl_in _ _)
                refine x_shl C0 e_v38 dX7_nodes_93 ?_
                obtain ⟨v39, e_v39, i_v39, h⟩ := opure_s h (band_in _ _)
                refine x_and C0 e_v39 dX7_nodes_94 ?_
                obtain ⟨k41, e_k41, h⟩ := jn_s h
                have h_k41 : ∀ (x40 : Int) (i_x40 : in32 x40) (H : Heap) (locs : List Loc) (ls : Array Slot), EW D (va_A (wE g σ) sz) s.heap (wE g s35) H locs → lv_has ls 7 [(0, .ref (g.2 0)), (1, .int (I v37)), (3, .int (I x12)), (4, .int (I x13)), (5, .int (I x29))] → k41 x40 = some (r, σr) → W p l e (rmk 4) s m args below meth c H locs 0 0 (MQ below (QCi D (wE g σr) r (in32 r ∧ R32 σr) (va_A (wE g σ) sz)) args s 0 0 (va_A (wE g σ) sz)) (F0 m 112 ls [.int (I x40), .int (I x28)]) := by
                  intro x40 i_x40 H locs ls hE hl h
                  have h := (congrFun e_k41 x40).symm.trans h
                  obtain ⟨v42, e_v42, i_v42, h⟩ := oadd_s h
                  refine x_add C0 e_v42 dX7_nodes_112 ?_
                  refine lv_istore_n (lv' := [(2, .int (I v42)), (0, .ref (g.2 0)), (1, .int (I v37)), (3, .int (I x12)), (4, .int (I x13)), (5, .int (I x29))]) C0.1 C0.2.1 dX7_nodes_113 rfl hl (by decide) rfl (fun ls hl => ?_)
                  obtain ⟨v43, e_v43, i_v43, h⟩ := oadd_s h
                  refine x_iinc (lv' := [(5, .int (I v43)), (2, .int (I v42)), (0, .ref (g.2 0)), (1, .int (I v37)), (3, .int (I x12)), (4, .int (I x13))]) C0 dX7_nodes_114 hl (k := 5) rfl e_v43 (by decide) rfl (fun ls hl => ?_)
                  refine x_goto C0 dX7_nodes_117 (tgt := 47) (by decide) ?_
                  exact ih31 s35 hR v37 i_v37 v42 i_v42 v43 i_v43 _ _ _ hE (lv_sub hl [2, 3, 1, 4, 5, 0] rfl) h
                obtain ⟨k44, e_k44, h⟩ := jn_s h
                have h_k44 : ∀ (H : Heap) (locs : List Loc) (ls : Array Slot), EW D (va_A (wE g σ) sz) s.heap (wE g s35) H locs → lv_has ls 7 [(0, .ref (g.2 0)), (1, .int (I v37)), (3, .int (I x12)), (4, .int (I x13)), (5, .int (I x29))] → k44 = some (r, σr) → W p l e (rmk 4) s m args below meth c H locs 0 0 (MQ below (QCi D (wE g σr) r (in32 r ∧ R32 σr) (va_A (wE g σ) sz)) args s 0 0 (va_A (wE g σ) sz)) (F0 m 111 ls [.int (I x28)]) := by
                  intro H locs ls hE hl h
                  have h := e_k44.symm.trans h
                  refine lv_iconst (v := I 0) C0.1 C0.2.1 dX7_nodes_111 rfl ?_
                  exact h_k41 0 lit_0 _ _ _ hE (lv_sub hl [0, 1, 2, 3, 4] rfl) h
                refine x_if_ne C0 i_v39 dX7_nodes_95 (tgt := 111) (by decide) (fun c9 => ?_) (fun c9 => ?_)
                · have h := ite_f c9 h
                  exact h_k44 _ _ _ hE (lv_sub hl [2, 0, 4, 5, 6] rfl) h
                · have h := ite_t c9 h
                  refine lv_iload C0.1 C0.2.1 dX7_nodes_98 (lv_at hl 1 rfl) ?_
                  obtain ⟨v45, h_v45, h⟩ := bndp_s h
                  refine callS_i (rest := [.int (I x28)]) C0 hml hE (c_Jint_bitCount l D g (σ := s35) i_v34 h_v45) kw_X7_292 ⟨Nat.le_of_ble_eq_true rfl, Nat.le_of_ble_eq_true rfl⟩ rfl hl.1 rfl (Nat.le_of_ble_eq_true rfl) dX7_nodes_100 ⟨Nat.zero_le _, Nat.zero_le _⟩ (fun H locs hE i_v45 => ?_)
                  refine lv_iconst (v := I 1) C0.1 C0.2.1 dX7_nodes_103 rfl ?_
                  refine x_icmp_ne C0 i_v45 lit_1 dX7_nodes_104 (tgt := 111) (by decide) (fun c9 => ?_) (fun c9 => ?_)
                  · have h := ite_f c9 h
                    exact h_k44 _ _ _ hE (lv_sub hl [2, 0, 4, 5, 6] rfl) h
                  · have h := ite_t c9 h
                    refine lv_iconst (v := I 1) C0.1 C0.2.1 dX7_nodes_107 rfl ?_
                    refine x_goto C0 dX7_nodes_108 (tgt := 112) (by decide) ?_
                    exact h_k41 1 lit_1 _ _ _ hE (lv_sub hl [2, 0, 4, 5, 6] rfl) h
              refine x_if_ne C0 i_v34 dX7_nodes_77 (tgt := 84) (by decide) (fun c9 => ?_) (fun c9 => ?_)
              · have e9 := e_v36.trans (if_neg c9)
                refine lv_iconst (v := I 0) C0.1 C0.2.1 dX7_nodes_84 rfl ?_
                rw [e9] at kk_v36; exact kk_v36
              · have e9 := e_v36.trans (if_pos c9)
                refine lv_iconst (v := I 1) C0.1 C0.2.1 dX7_nodes_80 rfl ?_
                refine x_goto C0 dX7_nodes_81 (tgt := 85) (by decide) ?_
                rw [e9] at kk_v36; exact kk_v36
        exact hL47 FU s19 hR x10 i_x10 x11 i_x11 0 lit_0 _ _ _ hE (lv_sub hl [1, 2, 3, 4, 5, 0] rfl) h
  exact hL16 FU s2 hR 0 lit_0 0 lit_0 0 lit_0 0 lit_0 _ _ _ hE (lv_sub hl [4, 3, 2, 1, 0] rfl) h
set_option maxRecDepth 100000 in
set_option maxHeartbeats 4000000 in
theorem c_E_own (l : Launch) (D : va_G) (g : Ad) {σ σr : St} {p1 r : Int} (hR : R32 σ) (i_p1 : in32 p1) (h : E_own σ p1 = some (r, σr)) : CtI l D g yX7_own cX7_own 6 (some .int) 5 (wE g σ) (wE g σr) [.ref (g.2 0), .int (I p1)] r (in32 r ∧ R32 σr) := by
  intro sz
  refine met_of (by decide) (Nat.le_of_ble_eq_true rfl) (fun p e s m args below meth c ls H locs C0 hml hr hlk hE hl => ?_)
  have C0 : CX p c cX7_own m s args D g RX7 := C0
  have hl : lv_has ls 6 [(0, .ref (g.2 0)), (1, .int (I p1))] := hl
  unfold E_own at h
  refine lv_iload_n C0.1 C0.2.1 dX7_own_0 rfl (lv_at hl 1 rfl) ?_
  obtain ⟨v1, h_v1, h⟩ := bndp_s h
  refine callS_i (rest := []) C0 hml hE (c_E_isPlace l D g (σ := σ) i_p1 h_v1) kw_X7_86 ⟨Nat.le_of_ble_eq_true rfl, Nat.le_of_ble_eq_true rfl⟩ rfl hl.1 rfl (Nat.le_of_ble_eq_true rfl) dX7_own_1 ⟨Nat.zero_le _, Nat.zero_le _⟩ (fun H locs hE i_v1 => ?_)
  refine x_if_ne C0 i_v1 dX7_own_4 (tgt := 9) (by decide) (fun c9 => ?_) (fun c9 => ?_)
  · have h := ite_f c9 h
    refine lv_aload_n C0.1 C0.2.1 dX7_own_9 rfl (lv_at hl 0 rfl) ?_
    refine E_g_pool C0 hE fk_X7_10 dX7_own_10 ?_
    obtain ⟨v2, s3, h_v2, h⟩ := bnd_s h
    refine callV_v (rest := []) C0 hml hE (Pool_rec C0 hE) (c_Pool_forget l D g hR h_v2) kw_X7_277 ⟨Nat.le_of_ble_eq_true rfl, Nat.le_of_ble_eq_true rfl⟩ rfl hl.1 rfl (Nat.le_of_ble_eq_true rfl) dX7_own_13 ⟨Nat.zero_le _, Nat.zero_le _⟩ (fun H locs hE hR => ?_)
    refine lv_iconst (v := I 0) C0.1 C0.2.1 dX7_own_16 rfl ?_
    refine lv_istore_n (lv' := [(2, .int (I 0)), (0, .ref (g.2 0)), (1, .int (I p1))]) C0.1 C0.2.1 dX7_own_17 rfl hl (by decide) rfl (fun ls hl => ?_)
    obtain ⟨k5, e_k5, h⟩ := jn_s h
    have h_k5 : ∀ (s4 : St) (hR : R32 s4) (H : Heap) (locs : List Loc) (ls : Array Slot), EW D (va_A (wE g σ) sz) s.heap (wE g s4) H locs → lv_has ls 6 [(0, .ref (g.2 0)), (1, .int (I p1))] → k5 s4 = some (r, σr) → W p l e (rmk 5) s m args below meth c H locs 0 0 (MQ below (QCi D (wE g σr) r (in32 r ∧ R32 σr) (va_A (wE g σ) sz)) args s 0 0 (va_A (wE g σ) sz)) (F0 m 41 ls []) := by
      intro s4 hR H locs ls hE hl h
      have h := (congrFun e_k5 s4).symm.trans h
      refine lv_aload_n C0.1 C0.2.1 dX7_own_41 rfl (lv_at hl 0 rfl) ?_
      refine E_g_pool C0 hE fk_X7_10 dX7_own_42 ?_
      refine lv_aload_n C0.1 C0.2.1 dX7_own_45 rfl (lv_at hl 0 rfl) ?_
      refine E_g_trees C0 hE fk_X7_49 dX7_own_46 ?_
      refine lv_iload_n C0.1 C0.2.1 dX7_own_49 rfl (lv_at hl 1 rfl) ?_
      obtain ⟨v6, e_v6, i_v6, h⟩ := rd_s hR h
      refine E_trees_l C0 hE i_p1 e_v6 dX7_own_50 ?_
      refine lv_aload_n C0.1 C0.2.1 dX7_own_51 rfl (lv_at hl 0 rfl) ?_
      refine E_g_sizes C0 hE fk_X7_53 dX7_own_52 ?_
      refine lv_iload_n C0.1 C0.2.1 dX7_own_55 rfl (lv_at hl 1 rfl) ?_
      obtain ⟨v7, e_v7, i_v7, h⟩ := rd_s hR h
      refine E_sizes_l C0 hE i_p1 e_v7 dX7_own_56 ?_
      obtain ⟨v8, s9, h_v8, h⟩ := bnd_s h
      refine callV_v (rest := []) C0 hml hE (Pool_rec C0 hE) (c_Pool_spread l D g hR i_v6 i_v7 h_v8) kw_X7_280 ⟨Nat.le_of_ble_eq_true rfl, Nat.le_of_ble_eq_true rfl⟩ rfl hl.1 rfl (Nat.le_of_ble_eq_true rfl) dX7_own_57 ⟨Nat.zero_le _, Nat.zero_le _⟩ (fun H locs hE hR => ?_)
      refine lv_iconst (v := I 0) C0.1 C0.2.1 dX7_own_60 rfl ?_
      refine lv_istore_n (lv' := [(2, .int (I 0)), (0, .ref (g.2 0)), (1, .int (I p1))]) C0.1 C0.2.1 dX7_own_61 rfl hl (by decide) rfl (fun ls hl => ?_)
      refine lv_iconst (v := I 0) C0.1 C0.2.1 dX7_own_62 rfl ?_
      refine lv_istore_n (lv' := [(3, .int (I 0)), (2, .int (I 0)), (0, .ref (g.2 0)), (1, .int (I p1))]) C0.1 C0.2.1 dX7_own_63 rfl hl (by decide) rfl (fun ls hl => ?_)
      refine lv_iconst (v := I 0) C0.1 C0.2.1 dX7_own_64 rfl ?_
      refine lv_istore (lv' := [(4, .int (I 0)), (3, .int (I 0)), (2, .int (I 0)), (0, .ref (g.2 0)), (1, .int (I p1))]) C0.1 C0.2.1 dX7_own_65 hl (by decide) rfl (fun ls hl => ?_)
      obtain ⟨k13, e_k13, h⟩ := jn_s h
      have h_k13 : ∀ (s10 : St) (hR : R32 s10) (x11 : Int) (i_x11 : in32 x11) (x12 : Int) (i_x12 : in32 x12) (H : Heap) (locs : List Loc) (ls : Array Slot), EW D (va_A (wE g σ) sz) s.heap (wE g s10) H locs → lv_has ls 6 [(0, .ref (g.2 0)), (2, .int (I x11)), (3, .int (I x12))] → k13 s10 x11 x12 = some (r, σr) → W p l e (rmk 5) s m args below meth c H locs 0 0 (MQ below (QCi D (wE g σr) r (in32 r ∧ R32 σr) (va_A (wE g σ) sz)) args s 0 0 (va_A (wE g σ) sz)) (F0 m 124 ls []) := by
        intro s10 hR x11 i_x11 x12 i_x12 H locs ls hE hl h
        have h := (congrFun (congrFun (congrFun e_k13 s10) x11) x12).symm.trans h
        refine lv_aload_n C0.1 C0.2.1 dX7_own_124 rfl (lv_at hl 0 rfl) ?_
        refine E_g_told C0 hE fk_X7_19 dX7_own_125 ?_
        refine lv_iload_n C0.1 C0.2.1 dX7_own_128 rfl (lv_at hl 2 rfl) ?_
        refine x_i2l C0 i_x12 dX7_own_129 ?_
        obtain ⟨v14, s15, h_v14, h⟩ := bnd_s h
        refine callV_v (rest := []) C0 hml hE (Row_rec C0 hE) (c_Row_tell l D g hR (in64_of i_x12) h_v14) kw_X7_171 ⟨Nat.le_of_ble_eq_true rfl, Nat.le_of_ble_eq_true rfl⟩ rfl hl.1 rfl (Nat.le_of_ble_eq_true rfl) dX7_own_130 ⟨Nat.zero_le _, Nat.zero_le _⟩ (fun H locs hE hR => ?_)
        refine lv_iload_n C0.1 C0.2.1 dX7_own_133 rfl (lv_at hl 1 rfl) ?_
        exact ret_i (wf := wE g) C0 hr hlk hE h i_x11 hR dX7_own_134
      have hL67 : ∀ (n : Nat) (s19 : St) (hR : R32 s19) (x16 : Int) (i_x16 : in32 x16) (x17 : Int) (i_x17 : in32 x17) (x18 : Int) (i_x18 : in32 x18) (H : Heap) (locs : List Loc) (ls : Array Slot), EW D (va_A (wE g σ) sz) s.heap (wE g s19) H locs → lv_has ls 6 [(0, .ref (g.2 0)), (1, .int (I p1)), (2, .int (I x16)), (3, .int (I x17)), (4, .int (I x18))] → E_own_L67 k13 p1 n s19 x16 x17 x18 = some (r, σr) → W p l e (rmk 5) s m args below meth c H locs 0 0 (MQ below (QCi D (wE g σr) r (in32 r ∧ R32 σr) (va_A (wE g σ) sz)) args s 0 0 (va_A (wE g σ) sz)) (F0 m 67 ls []) := by
        intro n
        induction n with
        | zero => intros; rename_i h; cases h
        | succ n ih20 =>
          intro s19 hR x16 i_x16 x17 i_x17 x18 i_x18 H locs ls hE hl h
          unfold E_own_L67 at h
          refine lv_iload C0.1 C0.2.1 dX7_own_67 (lv_at hl 4 rfl) ?_
          refine lv_aload_n C0.1 C0.2.1 dX7_own_69 rfl (lv_at hl 0 rfl) ?_
          refine E_g_sizes C0 hE fk_X7_53 dX7_own_70 ?_
          refine lv_iload_n C0.1 C0.2.1 dX7_own_73 rfl (lv_at hl 1 rfl) ?_
          obtain ⟨v21, e_v21, i_v21, h⟩ := rd_s hR h
          refine E_sizes_l C0 hE i_p1 e_v21 dX7_own_74 ?_
          refine x_icmp_ge C0 i_x18 i_v21 dX7_own_75 (tgt := 124) (by decide) (fun c9 => ?_) (fun c9 => ?_)
          · have h := ite_f c9 h
            exact h_k13 s19 hR x16 i_x16 x17 i_x17 _ _ _ hE (lv_sub hl [0, 2, 3] rfl) h
          · have h := ite_t c9 h
            refine lv_aload_n C0.1 C0.2.1 dX7_own_78 rfl (lv_at hl 0 rfl) ?_
            refine E_g_pool C0 hE fk_X7_10 dX7_own_79 ?_
            refine lv_iload C0.1 C0.2.1 dX7_own_82 (lv_at hl 4 rfl) ?_
            refine lv_iconst (v := I 2) C0.1 C0.2.1 dX7_own_84 rfl ?_
            obtain ⟨v22, s23, h_v22, h⟩ := bnd_s h
            refine callV_i (rest := []) C0 hml hE (Pool_rec C0 hE) (c_Pool_seeAt l D g hR i_x18 lit_2 h_v22) kw_X7_289 ⟨Nat.le_of_ble_eq_true rfl, Nat.le_of_ble_eq_true rfl⟩ rfl hl.1 rfl (Nat.le_of_ble_eq_true rfl) dX7_own_85 ⟨Nat.zero_le _, Nat.zero_le _⟩ (fun H locs hE ⟨i_v22, hR⟩ => ?_)
            refine lv_istore (lv' := [(5, .int (I v22)), (0, .ref (g.2 0)), (1, .int (I p1)), (2, .int (I x16)), (3, .int (I x17)), (4, .int (I x18))]) C0.1 C0.2.1 dX7_own_88 hl (by decide) rfl (fun ls hl => ?_)
            refine lv_iload_n C0.1 C0.2.1 dX7_own_90 rfl (lv_at hl 3 rfl) ?_
            refine lv_iload C0.1 C0.2.1 dX7_own_91 (lv_at hl 0 rfl) ?_
            refine lv_iconst (v := I 2) C0.1 C0.2.1 dX7_own_93 rfl ?_
            obtain ⟨v24, e_v24, i_v24, h⟩ := opure_s h (band_in _ _)
            refine x_and C0 e_v24 dX7_own_94 ?_
            obtain ⟨v25, e_v25, i_v25, h⟩ := oif_s h
            have kk_v25 : W p l e (rmk 5) s m args below meth c H locs 0 0 (MQ below (QCi D (wE g σr) r (in32 r ∧ R32 σr) (va_A (wE g σ) sz)) args s 0 0 (va_A (wE g σ) sz)) (F0 m 103 ls [.int (I v25), .int (I x16)]) := by
              obtain ⟨v26, e_v26, i_v26, h⟩ := oadd_s h
              refine x_add C0 e_v26 dX7_own_103 ?_
              refine lv_istore_n (lv' := [(2, .int (I v26)), (5, .int (I v22)), (0, .ref (g.2 0)), (1, .int (I p1)), (3, .int (I x17)), (4, .int (I x18))]) C0.1 C0.2.1 dX7_own_104 rfl hl (by decide) rfl (fun ls hl => ?_)
              refine lv_iload_n C0.1 C0.2.1 dX7_own_105 rfl (lv_at hl 4 rfl) ?_
              refine lv_iload C0.1 C0.2.1 dX7_own_106 (lv_at hl 1 rfl) ?_
              obtain ⟨v27, e_v27, i_v27, h⟩ := oif_s h
              have kk_v27 : W p l e (rmk 5) s m args below meth c H locs 0 0 (MQ below (QCi D (wE g σr) r (in32 r ∧ R32 σr) (va_A (wE g σ) sz)) args s 0 0 (va_A (wE g σ) sz)) (F0 m 116 ls [.int (I v27), .int (I x17)]) := by
                obtain ⟨v28, e_v28, i_v28, h⟩ := oadd_s h
                refine x_add C0 e_v28 dX7_own_116 ?_
                refine lv_istore_n (lv' := [(3, .int (I v28)), (2, .int (I v26)), (5, .int (I v22)), (0, .ref (g.2 0)), (1, .int (I p1)), (4, .int (I x18))]) C0.1 C0.2.1 dX7_own_117 rfl hl (by decide) rfl (fun ls hl => ?_)
                obtain ⟨v29, e_v29, i_v29, h⟩ := oadd_s h
                refine x_iinc (lv' := [(4, .int (I v29)), (3, .int (I v28)), (2, .int (I v26)), (5, .int (I v22)), (0, .ref (g.2 0)), (1, .int (I p1))]) C0 dX7_own_118 hl (k := 5) rfl e_v29 (by decide) rfl (fun ls hl => ?_)
                refine x_goto C0 dX7_own_121 (tgt := 67) (by decide) ?_
                exact ih20 s23 hR v26 i_v26 v28 i_v28 v29 i_v29 _ _ _ hE (lv_sub hl [4, 5, 2, 1, 0] rfl) h
              refine x_if_ne C0 i_v22 dX7_own_108 (tgt := 115) (by decide) (fun c9 => ?_) (fun c9 => ?_)
              · have e9 := e_v27.trans (if_neg c9)
                refine lv_iconst (v := I 0) C0.1 C0.2.1 dX7_own_115 rfl ?_
                rw [e9] at kk_v27; exact kk_v27
              · have e9 := e_v27.trans (if_pos c9)
                refine lv_iconst (v := I 1) C0.1 C0.2.1 dX7_own_111 rfl ?_
                refine x_goto C0 dX7_own_112 (tgt := 116) (by decide) ?_
                rw [e9] at kk_v27; exact kk_v27
            refine x_if_ne C0 i_v24 dX7_own_95 (tgt := 102) (by decide) (fun c9 => ?_) (fun c9 => ?_)
            · have e9 := e_v25.trans (if_neg c9)
              refine lv_iconst (v := I 0) C0.1 C0.2.1 dX7_own_102 rfl ?_
              rw [e9] at kk_v25; exact kk_v25
            · have e9 := e_v25.trans (if_pos c9)
              refine lv_iconst (v := I 1) C0.1 C0.2.1 dX7_own_98 rfl ?_
              refine x_goto C0 dX7_own_99 (tgt := 103) (by decide) ?_
              rw [e9] at kk_v25; exact kk_v25
      exact hL67 FU s9 hR 0 lit_0 0 lit_0 0 lit_0 _ _ _ hE (lv_sub hl [3, 4, 2, 1, 0] rfl) h
    have hL18 : ∀ (n : Nat) (s31 : St) (hR : R32 s31) (x30 : Int) (i_x30 : in32 x30) (H : Heap) (locs : List Loc) (ls : Array Slot), EW D (va_A (wE g σ) sz) s.heap (wE g s31) H locs → lv_has ls 6 [(0, .ref (g.2 0)), (1, .int (I p1)), (2, .int (I x30))] → E_own_L18 k5 p1 n s31 x30 = some (r, σr) → W p l e (rmk 5) s m args below meth c H locs 0 0 (MQ below (QCi D (wE g σr) r (in32 r ∧ R32 σr) (va_A (wE g σ) sz)) args s 0 0 (va_A (wE g σ) sz)) (F0 m 18 ls []) := by
      intro n
      induction n with
      | zero => intros; rename_i h; cases h
      | succ n ih32 =>
        intro s31 hR x30 i_x30 H locs ls hE hl h
        unfold E_own_L18 at h
        refine lv_iload_n C0.1 C0.2.1 dX7_own_18 rfl (lv_at hl 2 rfl) ?_
        refine lv_bipush (v := I 6) C0.1 C0.2.1 dX7_own_19 (by decide +kernel) ?_
        refine x_icmp_ge C0 i_x30 lit_6 dX7_own_21 (tgt := 41) (by decide) (fun c9 => ?_) (fun c9 => ?_)
        · have h := ite_f c9 h
          exact h_k5 s31 hR _ _ _ hE (lv_sub hl [0, 1] rfl) h
        · have h := ite_t c9 h
          refine lv_iload_n C0.1 C0.2.1 dX7_own_24 rfl (lv_at hl 2 rfl) ?_
          refine lv_iload_n C0.1 C0.2.1 dX7_own_25 rfl (lv_at hl 1 rfl) ?_
          obtain ⟨k34, e_k34, h⟩ := jn_s h
          have h_k34 : ∀ (s33 : St) (hR : R32 s33) (H : Heap) (locs : List Loc) (ls : Array Slot), EW D (va_A (wE g σ) sz) s.heap (wE g s33) H locs → lv_has ls 6 [(0, .ref (g.2 0)), (1, .int (I p1)), (2, .int (I x30))] → k34 s33 = some (r, σr) → W p l e (rmk 5) s m args below meth c H locs 0 0 (MQ below (QCi D (wE g σr) r (in32 r ∧ R32 σr) (va_A (wE g σ) sz)) args s 0 0 (va_A (wE g σ) sz)) (F0 m 35 ls []) := by
            intro s33 hR H locs ls hE hl h
            have h := (congrFun e_k34 s33).symm.trans h
            obtain ⟨v35, e_v35, i_v35, h⟩ := oadd_s h
            refine x_iinc (lv' := [(2, .int (I v35)), (0, .ref (g.2 0)), (1, .int (I p1))]) C0 dX7_own_35 hl (k := 2) rfl e_v35 (by decide) rfl (fun ls hl => ?_)
            refine x_goto C0 dX7_own_38 (tgt := 18) (by decide) ?_
            exact ih32 s33 hR v35 i_v35 _ _ _ hE (lv_sub hl [1, 2, 0] rfl) h
          refine x_icmp_eq C0 i_x30 i_p1 dX7_own_26 (tgt := 35) (by decide) (fun c9 => ?_) (fun c9 => ?_)
          · have h := ite_t c9 h
            exact h_k34 s31 hR _ _ _ hE (lv_sub hl [0, 1, 2] rfl) h
          · have h := ite_f c9 h
            refine lv_aload_n C0.1 C0.2.1 dX7_own_29 rfl (lv_at hl 0 rfl) ?_
            refine lv_iload_n C0.1 C0.2.1 dX7_own_30 rfl (lv_at hl 2 rfl) ?_
            refine lv_iconst (v := I 1) C0.1 C0.2.1 dX7_own_31 rfl ?_
            obtain ⟨v36, s37, h_v36, h⟩ := bnd_s h
            refine callV_v (rest := []) C0 hml hE (E_rec C0 hE) (c_E_seeAll l D g hR i_x30 lit_1 h_v36) kw_X7_297 ⟨Nat.le_of_ble_eq_true rfl, Nat.le_of_ble_eq_true rfl⟩ rfl hl.1 rfl (Nat.le_of_ble_eq_true rfl) dX7_own_32 ⟨Nat.zero_le _, Nat.zero_le _⟩ (fun H locs hE hR => ?_)
            exact h_k34 s37 hR _ _ _ hE (lv_sub hl [0, 1, 2] rfl) h
    exact hL18 FU s3 hR 0 lit_0 _ _ _ hE (lv_sub hl [1, 2, 0] rfl) h
  · have h := ite_t c9 h
    refine lv_iconst (v := I (-1)) C0.1 C0.2.1 dX7_own_7 rfl ?_
    exact ret_i (wf := wE g) C0 hr hlk hE h lit_m1 hR dX7_own_8
set_option maxRecDepth 100000 in
set_option maxHeartbeats 4000000 in
theorem c_E_level (l : Launch) (D : va_G) (g : Ad) {σ σr : St} {p1 p2 r : Int} (hR : R32 σ) (i_p1 : in32 p1) (i_p2 : in32 p2) (h : E_level σ p1 p2 = some (r, σr)) : CtI l D g yX7_level cX7_level 6 (some .int) 5 (wE g σ) (wE g σr) [.ref (g.2 0), .int (I p1), .int (I p2)] r (in32 r ∧ R32 σr) := by
  intro sz
  refine met_of (by decide) (Nat.le_of_ble_eq_true rfl) (fun p e s m args below meth c ls H locs C0 hml hr hlk hE hl => ?_)
  have C0 : CX p c cX7_level m s args D g RX7 := C0
  have hl : lv_has ls 6 [(0, .ref (g.2 0)), (1, .int (I p1)), (2, .int (I p2))] := hl
  unfold E_level at h
  refine lv_iload_n C0.1 C0.2.1 dX7_level_0 rfl (lv_at hl 1 rfl) ?_
  obtain ⟨v1, h_v1, h⟩ := bndp_s h
  refine callS_i (rest := []) C0 hml hE (c_E_isPlace l D g (σ := σ) i_p1 h_v1) kw_X7_86 ⟨Nat.le_of_ble_eq_true rfl, Nat.le_of_ble_eq_true rfl⟩ rfl hl.1 rfl (Nat.le_of_ble_eq_true rfl) dX7_level_1 ⟨Nat.zero_le _, Nat.zero_le _⟩ (fun H locs hE i_v1 => ?_)
  refine x_if_eq C0 i_v1 dX7_level_4 (tgt := 17) (by decide) (fun c9 => ?_) (fun c9 => ?_)
  · have h := ite_t c9 h
    refine lv_iconst (v := I (-1)) C0.1 C0.2.1 dX7_level_17 rfl ?_
    exact ret_i (wf := wE g) C0 hr hlk hE h lit_m1 hR dX7_level_18
  · have h := ite_f c9 h
    refine lv_iload_n C0.1 C0.2.1 dX7_level_7 rfl (lv_at hl 2 rfl) ?_
    refine x_if_lt C0 i_p2 dX7_level_8 (tgt := 17) (by decide) (fun c9 => ?_) (fun c9 => ?_)
    · have h := ite_t c9 h
      refine lv_iconst (v := I (-1)) C0.1 C0.2.1 dX7_level_17 rfl ?_
      exact ret_i (wf := wE g) C0 hr hlk hE h lit_m1 hR dX7_level_18
    · have h := ite_f c9 h
      refine lv_iload_n C0.1 C0.2.1 dX7_level_11 rfl (lv_at hl 2 rfl) ?_
      refine lv_bipush (v := I 8) C0.1 C0.2.1 dX7_level_12 (by decide +kernel) ?_
      refine x_icmp_lt C0 i_p2 lit_8 dX7_level_14 (tgt := 19) (by decide) (fun c9 => ?_) (fun c9 => ?_)
      · have h := ite_t c9 h
        refine lv_aload_n C0.1 C0.2.1 dX7_level_19 rfl (lv_at hl 0 rfl) ?_
        refine E_g_pool C0 hE fk_X7_10 dX7_level_20 ?_
        refine lv_aload_n C0.1 C0.2.1 dX7_level_23 rfl (lv_at hl 0 rfl) ?_
        refine E_g_trees C0 hE fk_X7_49 dX7_level_24 ?_
        refine lv_iload_n C0.1 C0.2.1 dX7_level_27 rfl (lv_at hl 1 rfl) ?_
        obtain ⟨v2, e_v2, i_v2, h⟩ := rd_s hR h
        refine E_trees_l C0 hE i_p1 e_v2 dX7_level_28 ?_
        refine lv_aload_n C0.1 C0.2.1 dX7_level_29 rfl (lv_at hl 0 rfl) ?_
        refine E_g_sizes C0 hE fk_X7_53 dX7_level_30 ?_
        refine lv_iload_n C0.1 C0.2.1 dX7_level_33 rfl (lv_at hl 1 rfl) ?_
        obtain ⟨v3, e_v3, i_v3, h⟩ := rd_s hR h
        refine E_sizes_l C0 hE i_p1 e_v3 dX7_level_34 ?_
        refine lv_aload_n C0.1 C0.2.1 dX7_level_35 rfl (lv_at hl 0 rfl) ?_
        refine E_g_one C0 hE fk_X7_56 dX7_level_36 ?_
        obtain ⟨v4, s5, h_v4, h⟩ := bnd_s h
        refine callV_v (rest := []) C0 hml hE (Pool_rec C0 hE) (c_Pool_read_one l D g hR i_v2 i_v3 h_v4) kw_X7_201 ⟨Nat.le_of_ble_eq_true rfl, Nat.le_of_ble_eq_true rfl⟩ rfl hl.1 rfl (Nat.le_of_ble_eq_true rfl) dX7_level_39 ⟨Nat.zero_le _, Nat.zero_le _⟩ (fun H locs hE hR => ?_)
        refine lv_iconst (v := I 0) C0.1 C0.2.1 dX7_level_42 rfl ?_
        refine lv_istore_n (lv' := [(3, .int (I 0)), (0, .ref (g.2 0)), (1, .int (I p1)), (2, .int (I p2))]) C0.1 C0.2.1 dX7_level_43 rfl hl (by decide) rfl (fun ls hl => ?_)
        refine lv_iconst (v := I 0) C0.1 C0.2.1 dX7_level_44 rfl ?_
        refine lv_istore (lv' := [(4, .int (I 0)), (3, .int (I 0)), (0, .ref (g.2 0)), (1, .int (I p1)), (2, .int (I p2))]) C0.1 C0.2.1 dX7_level_45 hl (by decide) rfl (fun ls hl => ?_)
        refine lv_iconst (v := I 1) C0.1 C0.2.1 dX7_level_47 rfl ?_
        refine lv_iload_n C0.1 C0.2.1 dX7_level_48 rfl (lv_at hl 4 rfl) ?_
        obtain ⟨v6, e_v6, i_v6, h⟩ := opure_s h (bshl_in _ _)
        refine x_shl C0 e_v6 dX7_level_49 ?_
        refine lv_iconst (v := I 1) C0.1 C0.2.1 dX7_level_50 rfl ?_
        obtain ⟨v7, e_v7, i_v7, h⟩ := osub_s h
        refine x_sub C0 e_v7 dX7_level_51 ?_
        refine lv_istore (lv' := [(5, .int (I v7)), (4, .int (I 0)), (3, .int (I 0)), (0, .ref (g.2 0)), (1, .int (I p1)), (2, .int (I p2))]) C0.1 C0.2.1 dX7_level_52 hl (by decide) rfl (fun ls hl => ?_)
        obtain ⟨k10, e_k10, h⟩ := jn_s h
        have h_k10 : ∀ (x8 : Int) (i_x8 : in32 x8) (x9 : Int) (i_x9 : in32 x9) (H : Heap) (locs : List Loc) (ls : Array Slot), EW D (va_A (wE g σ) sz) s.heap (wE g s5) H locs → lv_has ls 6 [(0, .ref (g.2 0)), (3, .int (I x8)), (4, .int (I x9))] → k10 x8 x9 = some (r, σr) → W p l e (rmk 5) s m args below meth c H locs 0 0 (MQ below (QCi D (wE g σr) r (in32 r ∧ R32 σr) (va_A (wE g σ) sz)) args s 0 0 (va_A (wE g σ) sz)) (F0 m 96 ls []) := by
          intro x8 i_x8 x9 i_x9 H locs ls hE hl h
          have h := (congrFun (congrFun e_k10 x8) x9).symm.trans h
          refine lv_aload_n C0.1 C0.2.1 dX7_level_96 rfl (lv_at hl 0 rfl) ?_
          refine E_g_told C0 hE fk_X7_19 dX7_level_97 ?_
          refine lv_iload C0.1 C0.2.1 dX7_level_100 (lv_at hl 2 rfl) ?_
          refine x_i2l C0 i_x9 dX7_level_102 ?_
          obtain ⟨v11, s12, h_v11, h⟩ := bnd_s h
          refine callV_v (rest := []) C0 hml hE (Row_rec C0 hE) (c_Row_tell l D g hR (in64_of i_x9) h_v11) kw_X7_171 ⟨Nat.le_of_ble_eq_true rfl, Nat.le_of_ble_eq_true rfl⟩ rfl hl.1 rfl (Nat.le_of_ble_eq_true rfl) dX7_level_103 ⟨Nat.zero_le _, Nat.zero_le _⟩ (fun H locs hE hR => ?_)
          refine lv_iload_n C0.1 C0.2.1 dX7_level_106 rfl (lv_at hl 1 rfl) ?_
          exact ret_i (wf := wE g) C0 hr hlk hE h i_x8 hR dX7_level_107
        have hL54 : ∀ (n : Nat) (x13 : Int) (i_x13 : in32 x13) (x14 : Int) (i_x14 : in32 x14) (x15 : Int) (i_x15 : in32 x15) (H : Heap) (locs : List Loc) (ls : Array Slot), EW D (va_A (wE g σ) sz) s.heap (wE g s5) H locs → lv_has ls 6 [(0, .ref (g.2 0)), (1, .int (I p1)), (2, .int (I p2)), (3, .int (I x13)), (4, .int (I x14)), (5, .int (I x15))] → E_level_L54 k10 s5 p1 p2 n x13 x14 x15 = some (r, σr) → W p l e (rmk 5) s m args below meth c H locs 0 0 (MQ below (QCi D (wE g σr) r (in32 r ∧ R32 σr) (va_A (wE g σ) sz)) args s 0 0 (va_A (wE g σ) sz)) (F0 m 54 ls []) := by
          intro n
          induction n with
          | zero => intros; rename_i h; cases h
          | succ n ih16 =>
            intro x13 i_x13 x14 i_x14 x15 i_x15 H locs ls hE hl h
            unfold E_level_L54 at h
            refine lv_iload C0.1 C0.2.1 dX7_level_54 (lv_at hl 5 rfl) ?_
            refine lv_aload_n C0.1 C0.2.1 dX7_level_56 rfl (lv_at hl 0 rfl) ?_
            refine E_g_sizes C0 hE fk_X7_53 dX7_level_57 ?_
            refine lv_iload_n C0.1 C0.2.1 dX7_level_60 rfl (lv_at hl 1 rfl) ?_
            obtain ⟨v17, e_v17, i_v17, h⟩ := rd_s hR h
            refine E_sizes_l C0 hE i_p1 e_v17 dX7_level_61 ?_
            refine x_icmp_ge C0 i_x15 i_v17 dX7_level_62 (tgt := 96) (by decide) (fun c9 => ?_) (fun c9 => ?_)
            · have h := ite_f c9 h
              exact h_k10 x13 i_x13 x14 i_x14 _ _ _ hE (lv_sub hl [0, 3, 4] rfl) h
            · have h := ite_t c9 h
              refine lv_iload C0.1 C0.2.1 dX7_level_65 (lv_at hl 5 rfl) ?_
              refine lv_iconst (v := I 2) C0.1 C0.2.1 dX7_level_67 rfl ?_
              refine lv_iload_n C0.1 C0.2.1 dX7_level_68 rfl (lv_at hl 2 rfl) ?_
              obtain ⟨v18, e_v18, i_v18, h⟩ := opure_s h (bshl_in _ _)
              refine x_shl C0 e_v18 dX7_level_69 ?_
              refine lv_iconst (v := I 1) C0.1 C0.2.1 dX7_level_70 rfl ?_
              obtain ⟨v19, e_v19, i_v19, h⟩ := osub_s h
              refine x_sub C0 e_v19 dX7_level_71 ?_
              refine x_icmp_ge C0 i_x15 i_v19 dX7_level_72 (tgt := 96) (by decide) (fun c9 => ?_) (fun c9 => ?_)
              · have h := ite_f c9 h
                exact h_k10 x13 i_x13 x14 i_x14 _ _ _ hE (lv_sub hl [0, 3, 4] rfl) h
              · have h := ite_t c9 h
                refine lv_iload C0.1 C0.2.1 dX7_level_75 (lv_at hl 4 rfl) ?_
                refine lv_aload_n C0.1 C0.2.1 dX7_level_77 rfl (lv_at hl 0 rfl) ?_
                refine E_g_one C0 hE fk_X7_56 dX7_level_78 ?_
                refine lv_iload C0.1 C0.2.1 dX7_level_81 (lv_at hl 5 rfl) ?_
                obtain ⟨v20, e_v20, i_v20, h⟩ := rd_s hR h
                refine E_one_l C0 hE i_x15 e_v20 dX7_level_83 ?_
                obtain ⟨v21, e_v21, i_v21, h⟩ := oadd_s h
                refine x_add C0 e_v21 dX7_level_84 ?_
                refine lv_istore (lv' := [(4, .int (I v21)), (0, .ref (g.2 0)), (1, .int (I p1)), (2, .int (I p2)), (3, .int (I x13)), (5, .int (I x15))]) C0.1 C0.2.1 dX7_level_85 hl (by decide) rfl (fun ls hl => ?_)
                obtain ⟨v22, e_v22, i_v22, h⟩ := oadd_s h
                refine x_iinc (lv' := [(3, .int (I v22)), (4, .int (I v21)), (0, .ref (g.2 0)), (1, .int (I p1)), (2, .int (I p2)), (5, .int (I x15))]) C0 dX7_level_87 hl (k := 4) rfl e_v22 (by decide) rfl (fun ls hl => ?_)
                obtain ⟨v23, e_v23, i_v23, h⟩ := oadd_s h
                refine x_iinc (lv' := [(5, .int (I v23)), (3, .int (I v22)), (4, .int (I v21)), (0, .ref (g.2 0)), (1, .int (I p1)), (2, .int (I p2))]) C0 dX7_level_90 hl (k := 5) rfl e_v23 (by decide) rfl (fun ls hl => ?_)
                refine x_goto C0 dX7_level_93 (tgt := 54) (by decide) ?_
                exact ih16 v22 i_v22 v21 i_v21 v23 i_v23 _ _ _ hE (lv_sub hl [3, 4, 5, 1, 2, 0] rfl) h
        exact hL54 FU 0 lit_0 0 lit_0 v7 i_v7 _ _ _ hE (lv_sub hl [3, 4, 5, 2, 1, 0] rfl) h
      · have h := ite_f c9 h
        refine lv_iconst (v := I (-1)) C0.1 C0.2.1 dX7_level_17 rfl ?_
        exact ret_i (wf := wE g) C0 hr hlk hE h lit_m1 hR dX7_level_18
set_option maxRecDepth 100000 in
set_option maxHeartbeats 4000000 in
theorem c_E_ways (l : Launch) (D : va_G) (g : Ad) {σ σr : St} {p1 p2 r : Int} (hR : R32 σ) (i_p1 : in32 p1) (i_p2 : in64 p2) (h : E_ways σ p1 p2 = some (r, σr)) : CtI l D g yX7_ways cX7_ways 5 (some .int) 4 (wE g σ) (wE g σr) [.ref (g.2 0), .int (I p1), .long (J p2)] r (in32 r ∧ R32 σr) := by
  intro sz
  refine met_of (by decide) (Nat.le_of_ble_eq_true rfl) (fun p e s m args below meth c ls H locs C0 hml hr hlk hE hl => ?_)
  have C0 : CX p c cX7_ways m s args D g RX7 := C0
  have hl : lv_has ls 5 [(0, .ref (g.2 0)), (1, .int (I p1)), (2, .long (J p2))] := hl
  unfold E_ways at h
  refine lv_iload_n C0.1 C0.2.1 dX7_ways_0 rfl (lv_at hl 1 rfl) ?_
  obtain ⟨v1, h_v1, h⟩ := bndp_s h
  refine callS_i (rest := []) C0 hml hE (c_E_isPlace l D g (σ := σ) i_p1 h_v1) kw_X7_86 ⟨Nat.le_of_ble_eq_true rfl, Nat.le_of_ble_eq_true rfl⟩ rfl hl.1 rfl (Nat.le_of_ble_eq_true rfl) dX7_ways_1 ⟨Nat.zero_le _, Nat.zero_le _⟩ (fun H locs hE i_v1 => ?_)
  refine x_if_eq C0 i_v1 dX7_ways_4 (tgt := 16) (by decide) (fun c9 => ?_) (fun c9 => ?_)
  · have h := ite_t c9 h
    refine lv_iconst (v := I (-1)) C0.1 C0.2.1 dX7_ways_16 rfl ?_
    exact ret_i (wf := wE g) C0 hr hlk hE h lit_m1 hR dX7_ways_17
  · have h := ite_f c9 h
    refine lv_lload_n C0.1 C0.2.1 dX7_ways_7 rfl (lv_at hl 2 rfl) ?_
    refine lv_bipush (v := I 62) C0.1 C0.2.1 dX7_ways_8 (by decide +kernel) ?_
    obtain ⟨v2, e_v2, i_v2, h⟩ := opure_l h (llushr_in _ _)
    refine x_lushr C0 e_v2 dX7_ways_10 ?_
    refine lv_lconst (v := J 0) C0.1 C0.2.1 dX7_ways_11 (by decide +kernel) ?_
    obtain ⟨v3, e_v3, i_v3, h⟩ := opure_s h (lcmpv_in _ _)
    refine x_lcmp C0 i_v2 (by decide) e_v3 dX7_ways_12 ?_
    refine x_if_eq C0 i_v3 dX7_ways_13 (tgt := 18) (by decide) (fun c9 => ?_) (fun c9 => ?_)
    · have h := ite_t c9 h
      refine lv_aload_n C0.1 C0.2.1 dX7_ways_18 rfl (lv_at hl 0 rfl) ?_
      refine E_g_marked C0 hE fk_X7_45 dX7_ways_19 ?_
      obtain ⟨v4, s5, h_v4, h⟩ := bnd_s h
      refine callV_v (rest := []) C0 hml hE (Ways_rec C0 hE) (c_Ways_clear l D g hR h_v4) kw_X7_198 ⟨Nat.le_of_ble_eq_true rfl, Nat.le_of_ble_eq_true rfl⟩ rfl hl.1 rfl (Nat.le_of_ble_eq_true rfl) dX7_ways_22 ⟨Nat.zero_le _, Nat.zero_le _⟩ (fun H locs hE hR => ?_)
      refine lv_iconst (v := I 0) C0.1 C0.2.1 dX7_ways_25 rfl ?_
      refine lv_istore (lv' := [(4, .int (I 0)), (0, .ref (g.2 0)), (1, .int (I p1)), (2, .long (J p2))]) C0.1 C0.2.1 dX7_ways_26 hl (by decide) rfl (fun ls hl => ?_)
      obtain ⟨k7, e_k7, h⟩ := jn_s h
      have h_k7 : ∀ (s6 : St) (hR : R32 s6) (H : Heap) (locs : List Loc) (ls : Array Slot), EW D (va_A (wE g σ) sz) s.heap (wE g s6) H locs → lv_has ls 5 [(0, .ref (g.2 0))] → k7 s6 = some (r, σr) → W p l e (rmk 4) s m args below meth c H locs 0 0 (MQ below (QCi D (wE g σr) r (in32 r ∧ R32 σr) (va_A (wE g σ) sz)) args s 0 0 (va_A (wE g σ) sz)) (F0 m 72 ls []) := by
        intro s6 hR H locs ls hE hl h
        have h := (congrFun e_k7 s6).symm.trans h
        refine lv_aload_n C0.1 C0.2.1 dX7_ways_72 rfl (lv_at hl 0 rfl) ?_
        refine E_g_marked C0 hE fk_X7_45 dX7_ways_73 ?_
        obtain ⟨v8, e_v8, i_v8, h⟩ := gf_s hR h
        refine Ways_n_total C0 hE e_v8 nk_X7_259 dX7_ways_76 ?_
        exact ret_i (wf := wE g) C0 hr hlk hE h i_v8 hR dX7_ways_79
      have hL28 : ∀ (n : Nat) (s10 : St) (hR : R32 s10) (x9 : Int) (i_x9 : in32 x9) (H : Heap) (locs : List Loc) (ls : Array Slot), EW D (va_A (wE g σ) sz) s.heap (wE g s10) H locs → lv_has ls 5 [(0, .ref (g.2 0)), (1, .int (I p1)), (2, .long (J p2)), (4, .int (I x9))] → E_ways_L28 k7 p1 p2 n s10 x9 = some (r, σr) → W p l e (rmk 4) s m args below meth c H locs 0 0 (MQ below (QCi D (wE g σr) r (in32 r ∧ R32 σr) (va_A (wE g σ) sz)) args s 0 0 (va_A (wE g σ) sz)) (F0 m 28 ls []) := by
        intro n
        induction n with
        | zero => intros; rename_i h; cases h
        | succ n ih11 =>
          intro s10 hR x9 i_x9 H locs ls hE hl h
          unfold E_ways_L28 at h
          refine lv_iload C0.1 C0.2.1 dX7_ways_28 (lv_at hl 3 rfl) ?_
          refine lv_bipush (v := I 62) C0.1 C0.2.1 dX7_ways_30 (by decide +kernel) ?_
          refine x_icmp_ge C0 i_x9 lit_62 dX7_ways_32 (tgt := 72) (by decide) (fun c9 => ?_) (fun c9 => ?_)
          · have h := ite_f c9 h
            exact h_k7 s10 hR _ _ _ hE (lv_sub hl [0] rfl) h
          · have h := ite_t c9 h
            refine lv_iload C0.1 C0.2.1 dX7_ways_35 (lv_at hl 3 rfl) ?_
            refine lv_aload_n C0.1 C0.2.1 dX7_ways_37 rfl (lv_at hl 0 rfl) ?_
            refine E_g_sizes C0 hE fk_X7_53 dX7_ways_38 ?_
            refine lv_iload_n C0.1 C0.2.1 dX7_ways_41 rfl (lv_at hl 1 rfl) ?_
            obtain ⟨v12, e_v12, i_v12, h⟩ := rd_s hR h
            refine E_sizes_l C0 hE i_p1 e_v12 dX7_ways_42 ?_
            refine x_icmp_ge C0 i_x9 i_v12 dX7_ways_43 (tgt := 72) (by decide) (fun c9 => ?_) (fun c9 => ?_)
            · have h := ite_f c9 h
              exact h_k7 s10 hR _ _ _ hE (lv_sub hl [0] rfl) h
            · have h := ite_t c9 h
              refine lv_lload_n C0.1 C0.2.1 dX7_ways_46 rfl (lv_at hl 2 rfl) ?_
              refine lv_iload C0.1 C0.2.1 dX7_ways_47 (lv_at hl 3 rfl) ?_
              obtain ⟨v13, e_v13, i_v13, h⟩ := opure_l h (llushr_in _ _)
              refine x_lushr C0 e_v13 dX7_ways_49 ?_
              refine lv_lconst (v := J 1) C0.1 C0.2.1 dX7_ways_50 (by decide +kernel) ?_
              obtain ⟨v14, e_v14, i_v14, h⟩ := opure_l h (lland_in _ _)
              refine x_land C0 e_v14 dX7_ways_51 ?_
              refine lv_lconst (v := J 1) C0.1 C0.2.1 dX7_ways_52 (by decide +kernel) ?_
              obtain ⟨v15, e_v15, i_v15, h⟩ := opure_s h (lcmpv_in _ _)
              refine x_lcmp C0 i_v14 (by decide) e_v15 dX7_ways_53 ?_
              obtain ⟨k17, e_k17, h⟩ := jn_s h
              have h_k17 : ∀ (s16 : St) (hR : R32 s16) (H : Heap) (locs : List Loc) (ls : Array Slot), EW D (va_A (wE g σ) sz) s.heap (wE g s16) H locs → lv_has ls 5 [(0, .ref (g.2 0)), (1, .int (I p1)), (2, .long (J p2)), (4, .int (I x9))] → k17 s16 = some (r, σr) → W p l e (rmk 4) s m args below meth c H locs 0 0 (MQ below (QCi D (wE g σr) r (in32 r ∧ R32 σr) (va_A (wE g σ) sz)) args s 0 0 (va_A (wE g σ) sz)) (F0 m 66 ls []) := by
                intro s16 hR H locs ls hE hl h
                have h := (congrFun e_k17 s16).symm.trans h
                obtain ⟨v18, e_v18, i_v18, h⟩ := oadd_s h
                refine x_iinc (lv' := [(4, .int (I v18)), (0, .ref (g.2 0)), (1, .int (I p1)), (2, .long (J p2))]) C0 dX7_ways_66 hl (k := 3) rfl e_v18 (by decide) rfl (fun ls hl => ?_)
                refine x_goto C0 dX7_ways_69 (tgt := 28) (by decide) ?_
                exact ih11 s16 hR v18 i_v18 _ _ _ hE (lv_sub hl [1, 2, 3, 0] rfl) h
              refine x_if_ne C0 i_v15 dX7_ways_54 (tgt := 66) (by decide) (fun c9 => ?_) (fun c9 => ?_)
              · have h := ite_f c9 h
                exact h_k17 s10 hR _ _ _ hE (lv_sub hl [0, 1, 2, 3] rfl) h
              · have h := ite_t c9 h
                refine lv_aload_n C0.1 C0.2.1 dX7_ways_57 rfl (lv_at hl 0 rfl) ?_
                refine E_g_marked C0 hE fk_X7_45 dX7_ways_58 ?_
                refine lv_iload C0.1 C0.2.1 dX7_ways_61 (lv_at hl 3 rfl) ?_
                obtain ⟨v19, s20, h_v19, h⟩ := bnd_s h
                refine callV_v (rest := []) C0 hml hE (Ways_rec C0 hE) (c_Ways_mark l D g hR i_x9 h_v19) kw_X7_208 ⟨Nat.le_of_ble_eq_true rfl, Nat.le_of_ble_eq_true rfl⟩ rfl hl.1 rfl (Nat.le_of_ble_eq_true rfl) dX7_ways_63 ⟨Nat.zero_le _, Nat.zero_le _⟩ (fun H locs hE hR => ?_)
                exact h_k17 s20 hR _ _ _ hE (lv_sub hl [0, 1, 2, 3] rfl) h
      exact hL28 FU s5 hR 0 lit_0 _ _ _ hE (lv_sub hl [1, 2, 3, 0] rfl) h
    · have h := ite_f c9 h
      refine lv_iconst (v := I (-1)) C0.1 C0.2.1 dX7_ways_16 rfl ?_
      exact ret_i (wf := wE g) C0 hr hlk hE h lit_m1 hR dX7_ways_17
set_option maxRecDepth 100000 in
set_option maxHeartbeats 4000000 in
theorem c_E_placesInUse (l : Launch) (D : va_G) (g : Ad) {σ : St} {r : Int} (hR : R32 σ) (h : E_placesInUse σ = some r) : CtI l D g yX7_placesInUse cX7_placesInUse 3 (some .int) 1 (wE g σ) (wE g σ) [.ref (g.2 0)] r (in32 r) := by
  intro sz
  refine met_of (by decide) (Nat.le_of_ble_eq_true rfl) (fun p e s m args below meth c ls H locs C0 hml hr hlk hE hl => ?_)
  have C0 : CX p c cX7_placesInUse m s args D g RX7 := C0
  have hl : lv_has ls 3 [(0, .ref (g.2 0))] := hl
  unfold E_placesInUse at h
  refine lv_iconst (v := I 0) C0.1 C0.2.1 dX7_placesInUse_0 rfl ?_
  refine lv_istore_n (lv' := [(1, .int (I 0)), (0, .ref (g.2 0))]) C0.1 C0.2.1 dX7_placesInUse_1 rfl hl (by decide) rfl (fun ls hl => ?_)
  refine lv_iconst (v := I 0) C0.1 C0.2.1 dX7_placesInUse_2 rfl ?_
  refine lv_istore_n (lv' := [(2, .int (I 0)), (1, .int (I 0)), (0, .ref (g.2 0))]) C0.1 C0.2.1 dX7_placesInUse_3 rfl hl (by decide) rfl (fun ls hl => ?_)
  have hL4 : ∀ (n : Nat) (x1 : Int) (i_x1 : in32 x1) (x2 : Int) (i_x2 : in32 x2) (H : Heap) (locs : List Loc) (ls : Array Slot), EW D (va_A (wE g σ) sz) s.heap (wE g σ) H locs → lv_has ls 3 [(0, .ref (g.2 0)), (1, .int (I x1)), (2, .int (I x2))] → E_placesInUse_L4 σ n x1 x2 = some r → W p l e (rmk 1) s m args below meth c H locs 0 0 (MQ below (QCi D (wE g σ) r (in32 r) (va_A (wE g σ) sz)) args s 0 0 (va_A (wE g σ) sz)) (F0 m 4 ls []) := by
    intro n
    induction n with
    | zero => intros; rename_i h; cases h
    | succ n ih3 =>
      intro x1 i_x1 x2 i_x2 H locs ls hE hl h
      unfold E_placesInUse_L4 at h
      refine lv_iload_n C0.1 C0.2.1 dX7_placesInUse_4 rfl (lv_at hl 2 rfl) ?_
      refine lv_bipush (v := I 6) C0.1 C0.2.1 dX7_placesInUse_5 (by decide +kernel) ?_
      refine x_icmp_ge C0 i_x2 lit_6 dX7_placesInUse_7 (tgt := 35) (by decide) (fun c9 => ?_) (fun c9 => ?_)
      · have h := ite_f c9 h
        refine lv_iload_n C0.1 C0.2.1 dX7_placesInUse_35 rfl (lv_at hl 1 rfl) ?_
        exact pret_i C0 hr hlk hE h i_x1 dX7_placesInUse_36
      · have h := ite_t c9 h
        refine lv_iload_n C0.1 C0.2.1 dX7_placesInUse_10 rfl (lv_at hl 1 rfl) ?_
        refine lv_aload_n C0.1 C0.2.1 dX7_placesInUse_11 rfl (lv_at hl 0 rfl) ?_
        refine E_g_sizes C0 hE fk_X7_53 dX7_placesInUse_12 ?_
        refine lv_iload_n C0.1 C0.2.1 dX7_placesInUse_15 rfl (lv_at hl 2 rfl) ?_
        obtain ⟨v4, e_v4, i_v4, h⟩ := rd_s hR h
        refine E_sizes_l C0 hE i_x2 e_v4 dX7_placesInUse_16 ?_
        obtain ⟨k6, e_k6, h⟩ := jn_s h
        have h_k6 : ∀ (x5 : Int) (i_x5 : in32 x5) (H : Heap) (locs : List Loc) (ls : Array Slot), EW D (va_A (wE g σ) sz) s.heap (wE g σ) H locs → lv_has ls 3 [(0, .ref (g.2 0)), (2, .int (I x2))] → k6 x5 = some r → W p l e (rmk 1) s m args below meth c H locs 0 0 (MQ below (QCi D (wE g σ) r (in32 r) (va_A (wE g σ) sz)) args s 0 0 (va_A (wE g σ) sz)) (F0 m 27 ls [.int (I x5), .int (I x1)]) := by
          intro x5 i_x5 H locs ls hE hl h
          have h := (congrFun e_k6 x5).symm.trans h
          obtain ⟨v7, e_v7, i_v7, h⟩ := opure_s h (bor_in _ _)
          refine x_or C0 e_v7 dX7_placesInUse_27 ?_
          refine lv_istore_n (lv' := [(1, .int (I v7)), (0, .ref (g.2 0)), (2, .int (I x2))]) C0.1 C0.2.1 dX7_placesInUse_28 rfl hl (by decide) rfl (fun ls hl => ?_)
          obtain ⟨v8, e_v8, i_v8, h⟩ := oadd_s h
          refine x_iinc (lv' := [(2, .int (I v8)), (1, .int (I v7)), (0, .ref (g.2 0))]) C0 dX7_placesInUse_29 hl (k := 2) rfl e_v8 (by decide) rfl (fun ls hl => ?_)
          refine x_goto C0 dX7_placesInUse_32 (tgt := 4) (by decide) ?_
          exact ih3 v7 i_v7 v8 i_v8 _ _ _ hE (lv_sub hl [2, 1, 0] rfl) h
        refine x_if_le C0 i_v4 dX7_placesInUse_17 (tgt := 26) (by decide) (fun c9 => ?_) (fun c9 => ?_)
        · have h := ite_f c9 h
          refine lv_iconst (v := I 0) C0.1 C0.2.1 dX7_placesInUse_26 rfl ?_
          exact h_k6 0 lit_0 _ _ _ hE (lv_sub hl [0, 2] rfl) h
        · have h := ite_t c9 h
          refine lv_iconst (v := I 1) C0.1 C0.2.1 dX7_placesInUse_20 rfl ?_
          refine lv_iload_n C0.1 C0.2.1 dX7_placesInUse_21 rfl (lv_at hl 2 rfl) ?_
          obtain ⟨v9, e_v9, i_v9, h⟩ := opure_s h (bshl_in _ _)
          refine x_shl C0 e_v9 dX7_placesInUse_22 ?_
          refine x_goto C0 dX7_placesInUse_23 (tgt := 27) (by decide) ?_
          exact h_k6 v9 i_v9 _ _ _ hE (lv_sub hl [0, 2] rfl) h
  exact hL4 FU 0 lit_0 0 lit_0 _ _ _ hE (lv_sub hl [2, 1, 0] rfl) h
set_option maxRecDepth 100000 in
set_option maxHeartbeats 4000000 in
theorem c_E_count (l : Launch) (D : va_G) (g : Ad) {σ : St} {p1 r : Int} (hR : R32 σ) (i_p1 : in32 p1) (h : E_count σ p1 = some r) : CtI l D g yX7_count cX7_count 2 (some .int) 2 (wE g σ) (wE g σ) [.ref (g.2 0), .int (I p1)] r (in32 r) := by
  intro sz
  refine met_of (by decide) (Nat.le_of_ble_eq_true rfl) (fun p e s m args below meth c ls H locs C0 hml hr hlk hE hl => ?_)
  have C0 : CX p c cX7_count m s args D g RX7 := C0
  have hl : lv_has ls 2 [(0, .ref (g.2 0)), (1, .int (I p1))] := hl
  unfold E_count at h
  refine lv_iload_n C0.1 C0.2.1 dX7_count_0 rfl (lv_at hl 1 rfl) ?_
  by_cases q1 : p1 = 0
  · have h := ite_t q1 h
    refine x_tabIn (tgt := 36) C0 0 i_p1 dX7_count_1 q1 ⟨by decide, by decide, by rfl⟩ (by decide) ?_
    refine lv_aload_n C0.1 C0.2.1 dX7_count_36 rfl (lv_at hl 0 rfl) ?_
    obtain ⟨v2, h_v2, h⟩ := bndp_s h
    refine callV_i (rest := []) C0 hml hE (E_rec C0 hE) (c_E_placesInUse l D g hR h_v2) kw_X7_300 ⟨Nat.le_of_ble_eq_true rfl, Nat.le_of_ble_eq_true rfl⟩ rfl hl.1 rfl (Nat.le_of_ble_eq_true rfl) dX7_count_37 ⟨Nat.zero_le _, Nat.zero_le _⟩ (fun H locs hE i_v2 => ?_)
    exact pret_i C0 hr hlk hE h i_v2 dX7_count_40
  have h := ite_f q1 h
  by_cases q3 : p1 = 1
  · have h := ite_t q3 h
    refine x_tabIn (tgt := 41) C0 1 i_p1 dX7_count_1 q3 ⟨by decide, by decide, by rfl⟩ (by decide) ?_
    refine lv_aload_n C0.1 C0.2.1 dX7_count_41 rfl (lv_at hl 0 rfl) ?_
    refine E_g_pool C0 hE fk_X7_10 dX7_count_42 ?_
    obtain ⟨v4, e_v4, i_v4, h⟩ := gf_s hR h
    refine Pool_n_made C0 hE e_v4 nk_X7_130 dX7_count_45 ?_
    exact pret_i C0 hr hlk hE h i_v4 dX7_count_48
  have h := ite_f q3 h
  by_cases q5 : p1 = 2
  · have h := ite_t q5 h
    refine x_tabIn (tgt := 49) C0 2 i_p1 dX7_count_1 q5 ⟨by decide, by decide, by rfl⟩ (by decide) ?_
    refine lv_aload_n C0.1 C0.2.1 dX7_count_49 rfl (lv_at hl 0 rfl) ?_
    refine E_g_told C0 hE fk_X7_19 dX7_count_50 ?_
    obtain ⟨v6, e_v6, i_v6, h⟩ := gf_s hR h
    refine Row_n_many C0 hE e_v6 nk_X7_303 dX7_count_53 ?_
    exact pret_i C0 hr hlk hE h i_v6 dX7_count_56
  have h := ite_f q5 h
  by_cases q7 : p1 = 3
  · have h := ite_t q7 h
    refine x_tabIn (tgt := 57) C0 3 i_p1 dX7_count_1 q7 ⟨by decide, by decide, by rfl⟩ (by decide) ?_
    refine lv_aload_n C0.1 C0.2.1 dX7_count_57 rfl (lv_at hl 0 rfl) ?_
    refine E_g_text C0 hE fk_X7_34 dX7_count_58 ?_
    obtain ⟨v8, e_v8, i_v8, h⟩ := gf_s hR h
    refine Text_n_many C0 hE e_v8 nk_X7_306 dX7_count_61 ?_
    exact pret_i C0 hr hlk hE h i_v8 dX7_count_64
  have h := ite_f q7 h
  by_cases q9 : p1 = 4
  · have h := ite_t q9 h
    refine x_tabIn (tgt := 65) C0 4 i_p1 dX7_count_1 q9 ⟨by decide, by decide, by rfl⟩ (by decide) ?_
    refine lv_iconst (v := I 1) C0.1 C0.2.1 dX7_count_65 rfl ?_
    exact pret_i C0 hr hlk hE h lit_1 dX7_count_66
  have h := ite_f q9 h
  refine x_tabOut (tgt := 67) C0 i_p1 dX7_count_1 (by omega) (by decide) ?_
  refine lv_iconst (v := I (-1)) C0.1 C0.2.1 dX7_count_67 rfl ?_
  exact pret_i C0 hr hlk hE h lit_m1 dX7_count_68

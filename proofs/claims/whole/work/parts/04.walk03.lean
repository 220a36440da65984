-- THE WALKS, written by program
set_option maxRecDepth 100000 in
set_option maxHeartbeats 4000000 in
theorem c_E_sorts (l : Launch) (D : va_G) (g : Ad) {σ σr : St} {p1 p2 r : Int} (hR : R32 σ) (i_p1 : in32 p1) (i_p2 : in32 p2) (h : E_sorts σ p1 p2 = some (r, σr)) : CtI l D g yX7_sorts cX7_sorts 6 (some .int) 7 (wE g σ) (wE g σr) [.ref (g.2 0), .int (I p1), .int (I p2)] r (in32 r ∧ R32 σr) := by
  intro sz
  refine met_of (by decide) (Nat.le_of_ble_eq_true rfl) (fun p e s m args below meth c ls H locs C0 hml hr hlk hE hl => ?_)
  have C0 : CX p c cX7_sorts m s args D g RX7 := C0
  have hl : lv_has ls 6 [(0, .ref (g.2 0)), (1, .int (I p1)), (2, .int (I p2))] := hl
  unfold E_sorts at h
  refine lv_iload_n C0.1 C0.2.1 dX7_sorts_0 rfl (lv_at hl 1 rfl) ?_
  obtain ⟨v1, h_v1, h⟩ := bndp_s h
  refine callS_i (rest := []) C0 hml hE (c_E_isPlace l D g (σ := σ) i_p1 h_v1) kw_X7_86 ⟨Nat.le_of_ble_eq_true rfl, Nat.le_of_ble_eq_true rfl⟩ rfl hl.1 rfl (Nat.le_of_ble_eq_true rfl) dX7_sorts_1 ⟨Nat.zero_le _, Nat.zero_le _⟩ (fun H locs hE i_v1 => ?_)
  refine x_if_eq C0 i_v1 dX7_sorts_4 (tgt := 14) (by decide) (fun c9 => ?_) (fun c9 => ?_)
  · have h := ite_t c9 h
    refine lv_iconst (v := I (-1)) C0.1 C0.2.1 dX7_sorts_14 rfl ?_
    exact ret_i (wf := wE g) C0 hr hlk hE h lit_m1 hR dX7_sorts_15
  · have h := ite_f c9 h
    refine lv_iload_n C0.1 C0.2.1 dX7_sorts_7 rfl (lv_at hl 2 rfl) ?_
    obtain ⟨v2, h_v2, h⟩ := bndp_s h
    refine callS_i (rest := []) C0 hml hE (c_E_isPlace l D g (σ := σ) i_p2 h_v2) kw_X7_86 ⟨Nat.le_of_ble_eq_true rfl, Nat.le_of_ble_eq_true rfl⟩ rfl hl.1 rfl (Nat.le_of_ble_eq_true rfl) dX7_sorts_8 ⟨Nat.zero_le _, Nat.zero_le _⟩ (fun H locs hE i_v2 => ?_)
    refine x_if_ne C0 i_v2 dX7_sorts_11 (tgt := 16) (by decide) (fun c9 => ?_) (fun c9 => ?_)
    · have h := ite_f c9 h
      refine lv_aload_n C0.1 C0.2.1 dX7_sorts_16 rfl (lv_at hl 0 rfl) ?_
      refine E_g_sizes C0 hE fk_X7_53 dX7_sorts_17 ?_
      refine lv_iload_n C0.1 C0.2.1 dX7_sorts_20 rfl (lv_at hl 1 rfl) ?_
      obtain ⟨v3, e_v3, i_v3, h⟩ := rd_s hR h
      refine E_sizes_l C0 hE i_p1 e_v3 dX7_sorts_21 ?_
      refine lv_istore_n (lv' := [(3, .int (I v3)), (0, .ref (g.2 0)), (1, .int (I p1)), (2, .int (I p2))]) C0.1 C0.2.1 dX7_sorts_22 rfl hl (by decide) rfl (fun ls hl => ?_)
      refine lv_aload_n C0.1 C0.2.1 dX7_sorts_23 rfl (lv_at hl 1 rfl) ?_
      refine E_g_pool C0 hE fk_X7_10 dX7_sorts_24 ?_
      refine lv_aload_n C0.1 C0.2.1 dX7_sorts_27 rfl (lv_at hl 1 rfl) ?_
      refine E_g_trees C0 hE fk_X7_49 dX7_sorts_28 ?_
      refine lv_iload_n C0.1 C0.2.1 dX7_sorts_31 rfl (lv_at hl 2 rfl) ?_
      obtain ⟨v4, e_v4, i_v4, h⟩ := rd_s hR h
      refine E_trees_l C0 hE i_p1 e_v4 dX7_sorts_32 ?_
      refine lv_iload_n C0.1 C0.2.1 dX7_sorts_33 rfl (lv_at hl 0 rfl) ?_
      refine lv_aload_n C0.1 C0.2.1 dX7_sorts_34 rfl (lv_at hl 1 rfl) ?_
      refine E_g_one C0 hE fk_X7_56 dX7_sorts_35 ?_
      obtain ⟨v5, s6, h_v5, h⟩ := bnd_s h
      refine callV_v (rest := []) C0 hml hE (Pool_rec C0 hE) (c_Pool_read_one l D g hR i_v4 i_v3 h_v5) kw_X7_201 ⟨Nat.le_of_ble_eq_true rfl, Nat.le_of_ble_eq_true rfl⟩ rfl hl.1 rfl (Nat.le_of_ble_eq_true rfl) dX7_sorts_38 ⟨Nat.zero_le _, Nat.zero_le _⟩ (fun H locs hE hR => ?_)
      refine lv_aload_n C0.1 C0.2.1 dX7_sorts_41 rfl (lv_at hl 1 rfl) ?_
      refine lv_iload_n C0.1 C0.2.1 dX7_sorts_42 rfl (lv_at hl 0 rfl) ?_
      obtain ⟨v7, s8, h_v7, h⟩ := bnd_s h
      refine callV_v (rest := []) C0 hml hE (E_rec C0 hE) (c_E_sortInto l D g hR i_v3 h_v7) kw_X7_236 ⟨Nat.le_of_ble_eq_true rfl, Nat.le_of_ble_eq_true rfl⟩ rfl hl.1 rfl (Nat.le_of_ble_eq_true rfl) dX7_sorts_43 ⟨Nat.zero_le _, Nat.zero_le _⟩ (fun H locs hE hR => ?_)
      refine lv_iconst (v := I 0) C0.1 C0.2.1 dX7_sorts_46 rfl ?_
      refine lv_istore (lv' := [(4, .int (I 0)), (3, .int (I v3)), (0, .ref (g.2 0)), (1, .int (I p1)), (2, .int (I p2))]) C0.1 C0.2.1 dX7_sorts_47 hl (by decide) rfl (fun ls hl => ?_)
      refine lv_iconst (v := I 0) C0.1 C0.2.1 dX7_sorts_49 rfl ?_
      refine lv_istore (lv' := [(5, .int (I 0)), (4, .int (I 0)), (3, .int (I v3)), (0, .ref (g.2 0)), (1, .int (I p1)), (2, .int (I p2))]) C0.1 C0.2.1 dX7_sorts_50 hl (by decide) rfl (fun ls hl => ?_)
      obtain ⟨k10, e_k10, h⟩ := jn_s h
      have h_k10 : ∀ (x9 : Int) (i_x9 : in32 x9) (H : Heap) (locs : List Loc) (ls : Array Slot), EW D (va_A (wE g σ) sz) s.heap (wE g s8) H locs → lv_has ls 6 [(0, .ref (g.2 0)), (2, .int (I p2)), (3, .int (I v3)), (4, .int (I x9))] → k10 x9 = some (r, σr) → W p l e (rmk 7) s m args below meth c H locs 0 0 (MQ below (QCi D (wE g σr) r (in32 r ∧ R32 σr) (va_A (wE g σ) sz)) args s 0 0 (va_A (wE g σ) sz)) (F0 m 91 ls []) := by
        intro x9 i_x9 H locs ls hE hl h
        have h := (congrFun e_k10 x9).symm.trans h
        refine lv_aload_n C0.1 C0.2.1 dX7_sorts_91 rfl (lv_at hl 0 rfl) ?_
        refine E_g_told C0 hE fk_X7_19 dX7_sorts_92 ?_
        refine lv_iload C0.1 C0.2.1 dX7_sorts_95 (lv_at hl 3 rfl) ?_
        refine x_i2l C0 i_x9 dX7_sorts_97 ?_
        obtain ⟨v11, s12, h_v11, h⟩ := bnd_s h
        refine callV_v (rest := []) C0 hml hE (Row_rec C0 hE) (c_Row_tell l D g hR (in64_of i_x9) h_v11) kw_X7_171 ⟨Nat.le_of_ble_eq_true rfl, Nat.le_of_ble_eq_true rfl⟩ rfl hl.1 rfl (Nat.le_of_ble_eq_true rfl) dX7_sorts_98 ⟨Nat.zero_le _, Nat.zero_le _⟩ (fun H locs hE hR => ?_)
        refine lv_aload_n C0.1 C0.2.1 dX7_sorts_101 rfl (lv_at hl 0 rfl) ?_
        refine lv_iload_n C0.1 C0.2.1 dX7_sorts_102 rfl (lv_at hl 1 rfl) ?_
        refine lv_iload_n C0.1 C0.2.1 dX7_sorts_103 rfl (lv_at hl 2 rfl) ?_
        obtain ⟨v13, s14, h_v13, h⟩ := bnd_s h
        refine callV_i (rest := []) C0 hml hE (E_rec C0 hE) (c_E_build l D g hR i_p2 i_v3 h_v13) kw_X7_89 ⟨Nat.le_of_ble_eq_true rfl, Nat.le_of_ble_eq_true rfl⟩ rfl hl.1 rfl (Nat.le_of_ble_eq_true rfl) dX7_sorts_104 ⟨Nat.zero_le _, Nat.zero_le _⟩ (fun H locs hE ⟨i_v13, hR⟩ => ?_)
        exact ret_i (wf := wE g) C0 hr hlk hE h i_v13 hR dX7_sorts_107
      have hL52 : ∀ (n : Nat) (x15 : Int) (i_x15 : in32 x15) (x16 : Int) (i_x16 : in32 x16) (H : Heap) (locs : List Loc) (ls : Array Slot), EW D (va_A (wE g σ) sz) s.heap (wE g s8) H locs → lv_has ls 6 [(0, .ref (g.2 0)), (2, .int (I p2)), (3, .int (I v3)), (4, .int (I x15)), (5, .int (I x16))] → E_sorts_L52 k10 s8 v3 n x15 x16 = some (r, σr) → W p l e (rmk 7) s m args below meth c H locs 0 0 (MQ below (QCi D (wE g σr) r (in32 r ∧ R32 σr) (va_A (wE g σ) sz)) args s 0 0 (va_A (wE g σ) sz)) (F0 m 52 ls []) := by
        intro n
        induction n with
        | zero => intros; rename_i h; cases h
        | succ n ih17 =>
          intro x15 i_x15 x16 i_x16 H locs ls hE hl h
          unfold E_sorts_L52 at h
          refine lv_iload C0.1 C0.2.1 dX7_sorts_52 (lv_at hl 4 rfl) ?_
          refine lv_iload_n C0.1 C0.2.1 dX7_sorts_54 rfl (lv_at hl 2 rfl) ?_
          refine x_icmp_ge C0 i_x16 i_v3 dX7_sorts_55 (tgt := 91) (by decide) (fun c9 => ?_) (fun c9 => ?_)
          · have h := ite_f c9 h
            exact h_k10 x15 i_x15 _ _ _ hE (lv_sub hl [0, 1, 2, 3] rfl) h
          · have h := ite_t c9 h
            refine lv_iload C0.1 C0.2.1 dX7_sorts_58 (lv_at hl 3 rfl) ?_
            refine lv_aload_n C0.1 C0.2.1 dX7_sorts_60 rfl (lv_at hl 0 rfl) ?_
            refine E_g_fresh C0 hE fk_X7_62 dX7_sorts_61 ?_
            refine lv_iload C0.1 C0.2.1 dX7_sorts_64 (lv_at hl 4 rfl) ?_
            obtain ⟨v18, e_v18, i_v18, h⟩ := rd_s hR h
            refine E_fresh_l C0 hE i_x16 e_v18 dX7_sorts_66 ?_
            refine lv_aload_n C0.1 C0.2.1 dX7_sorts_67 rfl (lv_at hl 0 rfl) ?_
            refine E_g_one C0 hE fk_X7_56 dX7_sorts_68 ?_
            refine lv_iload C0.1 C0.2.1 dX7_sorts_71 (lv_at hl 4 rfl) ?_
            obtain ⟨v19, e_v19, i_v19, h⟩ := rd_s hR h
            refine E_one_l C0 hE i_x16 e_v19 dX7_sorts_73 ?_
            obtain ⟨v20, e_v20, i_v20, h⟩ := oif_s h
            have kk_v20 : W p l e (rmk 7) s m args below meth c H locs 0 0 (MQ below (QCi D (wE g σr) r (in32 r ∧ R32 σr) (va_A (wE g σ) sz)) args s 0 0 (va_A (wE g σ) sz)) (F0 m 82 ls [.int (I v20), .int (I x15)]) := by
              obtain ⟨v21, e_v21, i_v21, h⟩ := oadd_s h
              refine x_add C0 e_v21 dX7_sorts_82 ?_
              refine lv_istore (lv' := [(4, .int (I v21)), (0, .ref (g.2 0)), (2, .int (I p2)), (3, .int (I v3)), (5, .int (I x16))]) C0.1 C0.2.1 dX7_sorts_83 hl (by decide) rfl (fun ls hl => ?_)
              obtain ⟨v22, e_v22, i_v22, h⟩ := oadd_s h
              refine x_iinc (lv' := [(5, .int (I v22)), (4, .int (I v21)), (0, .ref (g.2 0)), (2, .int (I p2)), (3, .int (I v3))]) C0 dX7_sorts_85 hl (k := 4) rfl e_v22 (by decide) rfl (fun ls hl => ?_)
              refine x_goto C0 dX7_sorts_88 (tgt := 52) (by decide) ?_
              exact ih17 v21 i_v21 v22 i_v22 _ _ _ hE (lv_sub hl [2, 3, 4, 1, 0] rfl) h
            refine x_icmp_eq C0 i_v18 i_v19 dX7_sorts_74 (tgt := 81) (by decide) (fun c9 => ?_) (fun c9 => ?_)
            · have e9 := e_v20.trans (if_pos c9)
              refine lv_iconst (v := I 0) C0.1 C0.2.1 dX7_sorts_81 rfl ?_
              rw [e9] at kk_v20; exact kk_v20
            · have e9 := e_v20.trans (if_neg c9)
              refine lv_iconst (v := I 1) C0.1 C0.2.1 dX7_sorts_77 rfl ?_
              refine x_goto C0 dX7_sorts_78 (tgt := 82) (by decide) ?_
              rw [e9] at kk_v20; exact kk_v20
      exact hL52 FU 0 lit_0 0 lit_0 _ _ _ hE (lv_sub hl [3, 5, 2, 1, 0] rfl) h
    · have h := ite_t c9 h
      refine lv_iconst (v := I (-1)) C0.1 C0.2.1 dX7_sorts_14 rfl ?_
      exact ret_i (wf := wE g) C0 hr hlk hE h lit_m1 hR dX7_sorts_15
set_option maxRecDepth 100000 in
set_option maxHeartbeats 4000000 in
theorem c_E_merges (l : Launch) (D : va_G) (g : Ad) {σ σr : St} {p1 p2 p3 r : Int} (hR : R32 σ) (i_p1 : in32 p1) (i_p2 : in32 p2) (i_p3 : in32 p3) (h : E_merges σ p1 p2 p3 = some (r, σr)) : CtI l D g yX7_merges cX7_merges 8 (some .int) 7 (wE g σ) (wE g σr) [.ref (g.2 0), .int (I p1), .int (I p2), .int (I p3)] r (in32 r ∧ R32 σr) := by
  intro sz
  refine met_of (by decide) (Nat.le_of_ble_eq_true rfl) (fun p e s m args below meth c ls H locs C0 hml hr hlk hE hl => ?_)
  have C0 : CX p c cX7_merges m s args D g RX7 := C0
  have hl : lv_has ls 8 [(0, .ref (g.2 0)), (1, .int (I p1)), (2, .int (I p2)), (3, .int (I p3))] := hl
  unfold E_merges at h
  refine lv_iload_n C0.1 C0.2.1 dX7_merges_0 rfl (lv_at hl 1 rfl) ?_
  obtain ⟨v1, h_v1, h⟩ := bndp_s h
  refine callS_i (rest := []) C0 hml hE (c_E_isPlace l D g (σ := σ) i_p1 h_v1) kw_X7_86 ⟨Nat.le_of_ble_eq_true rfl, Nat.le_of_ble_eq_true rfl⟩ rfl hl.1 rfl (Nat.le_of_ble_eq_true rfl) dX7_merges_1 ⟨Nat.zero_le _, Nat.zero_le _⟩ (fun H locs hE i_v1 => ?_)
  refine x_if_eq C0 i_v1 dX7_merges_4 (tgt := 21) (by decide) (fun c9 => ?_) (fun c9 => ?_)
  · have h := ite_t c9 h
    refine lv_iconst (v := I (-1)) C0.1 C0.2.1 dX7_merges_21 rfl ?_
    exact ret_i (wf := wE g) C0 hr hlk hE h lit_m1 hR dX7_merges_22
  · have h := ite_f c9 h
    refine lv_iload_n C0.1 C0.2.1 dX7_merges_7 rfl (lv_at hl 2 rfl) ?_
    obtain ⟨v2, h_v2, h⟩ := bndp_s h
    refine callS_i (rest := []) C0 hml hE (c_E_isPlace l D g (σ := σ) i_p2 h_v2) kw_X7_86 ⟨Nat.le_of_ble_eq_true rfl, Nat.le_of_ble_eq_true rfl⟩ rfl hl.1 rfl (Nat.le_of_ble_eq_true rfl) dX7_merges_8 ⟨Nat.zero_le _, Nat.zero_le _⟩ (fun H locs hE i_v2 => ?_)
    refine x_if_eq C0 i_v2 dX7_merges_11 (tgt := 21) (by decide) (fun c9 => ?_) (fun c9 => ?_)
    · have h := ite_t c9 h
      refine lv_iconst (v := I (-1)) C0.1 C0.2.1 dX7_merges_21 rfl ?_
      exact ret_i (wf := wE g) C0 hr hlk hE h lit_m1 hR dX7_merges_22
    · have h := ite_f c9 h
      refine lv_iload_n C0.1 C0.2.1 dX7_merges_14 rfl (lv_at hl 3 rfl) ?_
      obtain ⟨v3, h_v3, h⟩ := bndp_s h
      refine callS_i (rest := []) C0 hml hE (c_E_isPlace l D g (σ := σ) i_p3 h_v3) kw_X7_86 ⟨Nat.le_of_ble_eq_true rfl, Nat.le_of_ble_eq_true rfl⟩ rfl hl.1 rfl (Nat.le_of_ble_eq_true rfl) dX7_merges_15 ⟨Nat.zero_le _, Nat.zero_le _⟩ (fun H locs hE i_v3 => ?_)
      refine x_if_ne C0 i_v3 dX7_merges_18 (tgt := 23) (by decide) (fun c9 => ?_) (fun c9 => ?_)
      · have h := ite_f c9 h
        refine lv_aload_n C0.1 C0.2.1 dX7_merges_23 rfl (lv_at hl 0 rfl) ?_
        refine E_g_sizes C0 hE fk_X7_53 dX7_merges_24 ?_
        refine lv_iload_n C0.1 C0.2.1 dX7_merges_27 rfl (lv_at hl 1 rfl) ?_
        obtain ⟨v4, e_v4, i_v4, h⟩ := rd_s hR h
        refine E_sizes_l C0 hE i_p1 e_v4 dX7_merges_28 ?_
        refine lv_aload_n C0.1 C0.2.1 dX7_merges_29 rfl (lv_at hl 0 rfl) ?_
        refine E_g_sizes C0 hE fk_X7_53 dX7_merges_30 ?_
        refine lv_iload_n C0.1 C0.2.1 dX7_merges_33 rfl (lv_at hl 2 rfl) ?_
        obtain ⟨v5, e_v5, i_v5, h⟩ := rd_s hR h
        refine E_sizes_l C0 hE i_p2 e_v5 dX7_merges_34 ?_
        obtain ⟨v6, e_v6, i_v6, h⟩ := oadd_s h
        refine x_add C0 e_v6 dX7_merges_35 ?_
        refine lv_istore (lv' := [(4, .int (I v6)), (0, .ref (g.2 0)), (1, .int (I p1)), (2, .int (I p2)), (3, .int (I p3))]) C0.1 C0.2.1 dX7_merges_36 hl (by decide) rfl (fun ls hl => ?_)
        refine lv_iload C0.1 C0.2.1 dX7_merges_38 (lv_at hl 0 rfl) ?_
        refine lv_sipush (v := I 255) C0.1 C0.2.1 dX7_merges_40 (by decide +kernel) ?_
        refine x_icmp_le C0 i_v6 lit_255 dX7_merges_43 (tgt := 49) (by decide) (fun c9 => ?_) (fun c9 => ?_)
        · have h := ite_f c9 h
          refine lv_aload_n C0.1 C0.2.1 dX7_merges_49 rfl (lv_at hl 1 rfl) ?_
          refine lv_iload_n C0.1 C0.2.1 dX7_merges_50 rfl (lv_at hl 2 rfl) ?_
          refine lv_iload_n C0.1 C0.2.1 dX7_merges_51 rfl (lv_at hl 3 rfl) ?_
          obtain ⟨v7, s8, h_v7, h⟩ := bnd_s h
          refine callV_v (rest := []) C0 hml hE (E_rec C0 hE) (c_E_readBoth l D g hR i_p1 i_p2 h_v7) kw_X7_177 ⟨Nat.le_of_ble_eq_true rfl, Nat.le_of_ble_eq_true rfl⟩ rfl hl.1 rfl (Nat.le_of_ble_eq_true rfl) dX7_merges_52 ⟨Nat.zero_le _, Nat.zero_le _⟩ (fun H locs hE hR => ?_)
          refine lv_iconst (v := I 0) C0.1 C0.2.1 dX7_merges_55 rfl ?_
          refine lv_istore (lv' := [(5, .int (I 0)), (4, .int (I v6)), (0, .ref (g.2 0)), (1, .int (I p1)), (2, .int (I p2)), (3, .int (I p3))]) C0.1 C0.2.1 dX7_merges_56 hl (by decide) rfl (fun ls hl => ?_)
          refine lv_iconst (v := I 0) C0.1 C0.2.1 dX7_merges_58 rfl ?_
          refine lv_istore (lv' := [(6, .int (I 0)), (5, .int (I 0)), (4, .int (I v6)), (0, .ref (g.2 0)), (1, .int (I p1)), (2, .int (I p2)), (3, .int (I p3))]) C0.1 C0.2.1 dX7_merges_59 hl (by decide) rfl (fun ls hl => ?_)
          refine lv_iconst (v := I 0) C0.1 C0.2.1 dX7_merges_61 rfl ?_
          refine lv_istore (lv' := [(7, .int (I 0)), (6, .int (I 0)), (5, .int (I 0)), (4, .int (I v6)), (0, .ref (g.2 0)), (1, .int (I p1)), (2, .int (I p2)), (3, .int (I p3))]) C0.1 C0.2.1 dX7_merges_62 hl (by decide) rfl (fun ls hl => ?_)
          obtain ⟨k10, e_k10, h⟩ := jn_s h
          have h_k10 : ∀ (s9 : St) (hR : R32 s9) (H : Heap) (locs : List Loc) (ls : Array Slot), EW D (va_A (wE g σ) sz) s.heap (wE g s9) H locs → lv_has ls 8 [(0, .ref (g.2 0)), (3, .int (I p3)), (4, .int (I v6))] → k10 s9 = some (r, σr) → W p l e (rmk 7) s m args below meth c H locs 0 0 (MQ below (QCi D (wE g σr) r (in32 r ∧ R32 σr) (va_A (wE g σ) sz)) args s 0 0 (va_A (wE g σ) sz)) (F0 m 153 ls []) := by
            intro s9 hR H locs ls hE hl h
            have h := (congrFun e_k10 s9).symm.trans h
            refine lv_aload_n C0.1 C0.2.1 dX7_merges_153 rfl (lv_at hl 0 rfl) ?_
            refine lv_iload_n C0.1 C0.2.1 dX7_merges_154 rfl (lv_at hl 1 rfl) ?_
            refine lv_iload C0.1 C0.2.1 dX7_merges_155 (lv_at hl 2 rfl) ?_
            obtain ⟨v11, s12, h_v11, h⟩ := bnd_s h
            refine callV_i (rest := []) C0 hml hE (E_rec C0 hE) (c_E_build l D g hR i_p3 i_v6 h_v11) kw_X7_89 ⟨Nat.le_of_ble_eq_true rfl, Nat.le_of_ble_eq_true rfl⟩ rfl hl.1 rfl (Nat.le_of_ble_eq_true rfl) dX7_merges_157 ⟨Nat.zero_le _, Nat.zero_le _⟩ (fun H locs hE ⟨i_v11, hR⟩ => ?_)
            exact ret_i (wf := wE g) C0 hr hlk hE h i_v11 hR dX7_merges_160
          have hL64 : ∀ (n : Nat) (s16 : St) (hR : R32 s16) (x13 : Int) (i_x13 : in32 x13) (x14 : Int) (i_x14 : in32 x14) (x15 : Int) (i_x15 : in32 x15) (H : Heap) (locs : List Loc) (ls : Array Slot), EW D (va_A (wE g σ) sz) s.heap (wE g s16) H locs → lv_has ls 8 [(0, .ref (g.2 0)), (1, .int (I p1)), (2, .int (I p2)), (3, .int (I p3)), (4, .int (I v6)), (5, .int (I x13)), (6, .int (I x14)), (7, .int (I x15))] → E_merges_L64 k10 p1 p2 v6 n s16 x13 x14 x15 = some (r, σr) → W p l e (rmk 7) s m args below meth c H locs 0 0 (MQ below (QCi D (wE g σr) r (in32 r ∧ R32 σr) (va_A (wE g σ) sz)) args s 0 0 (va_A (wE g σ) sz)) (F0 m 64 ls []) := by
            intro n
            induction n with
            | zero => intros; rename_i h; cases h
            | succ n ih17 =>
              intro s16 hR x13 i_x13 x14 i_x14 x15 i_x15 H locs ls hE hl h
              unfold E_merges_L64 at h
              refine lv_iload C0.1 C0.2.1 dX7_merges_64 (lv_at hl 7 rfl) ?_
              refine lv_iload C0.1 C0.2.1 dX7_merges_66 (lv_at hl 4 rfl) ?_
              refine x_icmp_ge C0 i_x15 i_v6 dX7_merges_68 (tgt := 153) (by decide) (fun c9 => ?_) (fun c9 => ?_)
              · have h := ite_f c9 h
                exact h_k10 s16 hR _ _ _ hE (lv_sub hl [0, 3, 4] rfl) h
              · have h := ite_t c9 h
                refine lv_iload C0.1 C0.2.1 dX7_merges_71 (lv_at hl 6 rfl) ?_
                refine lv_aload_n C0.1 C0.2.1 dX7_merges_73 rfl (lv_at hl 0 rfl) ?_
                refine E_g_sizes C0 hE fk_X7_53 dX7_merges_74 ?_
                refine lv_iload_n C0.1 C0.2.1 dX7_merges_77 rfl (lv_at hl 2 rfl) ?_
                obtain ⟨v18, e_v18, i_v18, h⟩ := rd_s hR h
                refine E_sizes_l C0 hE i_p2 e_v18 dX7_merges_78 ?_
                obtain ⟨k22, e_k22, h⟩ := jn_s h
                have h_k22 : ∀ (s19 : St) (hR : R32 s19) (x20 : Int) (i_x20 : in32 x20) (x21 : Int) (i_x21 : in32 x21) (H : Heap) (locs : List Loc) (ls : Array Slot), EW D (va_A (wE g σ) sz) s.heap (wE g s19) H locs → lv_has ls 8 [(0, .ref (g.2 0)), (1, .int (I p1)), (2, .int (I p2)), (3, .int (I p3)), (4, .int (I v6)), (5, .int (I x20)), (6, .int (I x21)), (7, .int (I x15))] → k22 s19 x20 x21 = some (r, σr) → W p l e (rmk 7) s m args below meth c H locs 0 0 (MQ below (QCi D (wE g σr) r (in32 r ∧ R32 σr) (va_A (wE g σ) sz)) args s 0 0 (va_A (wE g σ) sz)) (F0 m 147 ls []) := by
                  intro s19 hR x20 i_x20 x21 i_x21 H locs ls hE hl h
                  have h := (congrFun (congrFun (congrFun e_k22 s19) x20) x21).symm.trans h
                  obtain ⟨v23, e_v23, i_v23, h⟩ := oadd_s h
                  refine x_iinc (lv' := [(7, .int (I v23)), (0, .ref (g.2 0)), (1, .int (I p1)), (2, .int (I p2)), (3, .int (I p3)), (4, .int (I v6)), (5, .int (I x20)), (6, .int (I x21))]) C0 dX7_merges_147 hl (k := 7) rfl e_v23 (by decide) rfl (fun ls hl => ?_)
                  refine x_goto C0 dX7_merges_150 (tgt := 64) (by decide) ?_
                  exact ih17 s19 hR x20 i_x20 x21 i_x21 v23 i_v23 _ _ _ hE (lv_sub hl [1, 2, 3, 4, 5, 6, 7, 0] rfl) h
                obtain ⟨k24, e_k24, h⟩ := jn_s h
                have h_k24 : ∀ (H : Heap) (locs : List Loc) (ls : Array Slot), EW D (va_A (wE g σ) sz) s.heap (wE g s16) H locs → lv_has ls 8 [(0, .ref (g.2 0)), (1, .int (I p1)), (2, .int (I p2)), (3, .int (I p3)), (4, .int (I v6)), (5, .int (I x13)), (6, .int (I x14)), (7, .int (I x15))] → k24 = some (r, σr) → W p l e (rmk 7) s m args below meth c H locs 0 0 (MQ below (QCi D (wE g σr) r (in32 r ∧ R32 σr) (va_A (wE g σ) sz)) args s 0 0 (va_A (wE g σ) sz)) (F0 m 110 ls []) := by
                  intro H locs ls hE hl h
                  have h := e_k24.symm.trans h
                  refine lv_aload_n C0.1 C0.2.1 dX7_merges_110 rfl (lv_at hl 0 rfl) ?_
                  refine E_g_fresh C0 hE fk_X7_62 dX7_merges_111 ?_
                  refine lv_iload C0.1 C0.2.1 dX7_merges_114 (lv_at hl 7 rfl) ?_
                  refine lv_aload_n C0.1 C0.2.1 dX7_merges_116 rfl (lv_at hl 0 rfl) ?_
                  refine E_g_one C0 hE fk_X7_56 dX7_merges_117 ?_
                  refine lv_iload C0.1 C0.2.1 dX7_merges_120 (lv_at hl 5 rfl) ?_
                  obtain ⟨v25, e_v25, i_v25, h⟩ := rd_s hR h
                  refine E_one_l C0 hE i_x13 e_v25 dX7_merges_122 ?_
                  obtain ⟨s26, e_s26, hR, h⟩ := wr_s hR i_v25 h
                  refine E_fresh_st C0 hE i_x15 e_s26 dX7_merges_123 (fun H locs hE => ?_)
                  obtain ⟨v27, e_v27, i_v27, h⟩ := oadd_s h
                  refine x_iinc (lv' := [(5, .int (I v27)), (0, .ref (g.2 0)), (1, .int (I p1)), (2, .int (I p2)), (3, .int (I p3)), (4, .int (I v6)), (6, .int (I x14)), (7, .int (I x15))]) C0 dX7_merges_124 hl (k := 5) rfl e_v27 (by decide) rfl (fun ls hl => ?_)
                  refine x_goto C0 dX7_merges_127 (tgt := 147) (by decide) ?_
                  exact h_k22 s26 hR v27 i_v27 x14 i_x14 _ _ _ hE (lv_sub hl [1, 2, 3, 4, 5, 0, 6, 7] rfl) h
                refine x_icmp_ge C0 i_x14 i_v18 dX7_merges_79 (tgt := 110) (by decide) (fun c9 => ?_) (fun c9 => ?_)
                · have h := ite_f c9 h
                  exact h_k24 _ _ _ hE (lv_sub hl [0, 1, 2, 3, 4, 5, 6, 7] rfl) h
                · have h := ite_t c9 h
                  refine lv_iload C0.1 C0.2.1 dX7_merges_82 (lv_at hl 5 rfl) ?_
                  refine lv_aload_n C0.1 C0.2.1 dX7_merges_84 rfl (lv_at hl 0 rfl) ?_
                  refine E_g_sizes C0 hE fk_X7_53 dX7_merges_85 ?_
                  refine lv_iload_n C0.1 C0.2.1 dX7_merges_88 rfl (lv_at hl 1 rfl) ?_
                  obtain ⟨v28, e_v28, i_v28, h⟩ := rd_s hR h
                  refine E_sizes_l C0 hE i_p1 e_v28 dX7_merges_89 ?_
                  obtain ⟨k29, e_k29, h⟩ := jn_s h
                  have h_k29 : ∀ (H : Heap) (locs : List Loc) (ls : Array Slot), EW D (va_A (wE g σ) sz) s.heap (wE g s16) H locs → lv_has ls 8 [(0, .ref (g.2 0)), (1, .int (I p1)), (2, .int (I p2)), (3, .int (I p3)), (4, .int (I v6)), (5, .int (I x13)), (6, .int (I x14)), (7, .int (I x15))] → k29 = some (r, σr) → W p l e (rmk 7) s m args below meth c H locs 0 0 (MQ below (QCi D (wE g σr) r (in32 r ∧ R32 σr) (va_A (wE g σ) sz)) args s 0 0 (va_A (wE g σ) sz)) (F0 m 130 ls []) := by
                    intro H locs ls hE hl h
                    have h := e_k29.symm.trans h
                    refine lv_aload_n C0.1 C0.2.1 dX7_merges_130 rfl (lv_at hl 0 rfl) ?_
                    refine E_g_fresh C0 hE fk_X7_62 dX7_merges_131 ?_
                    refine lv_iload C0.1 C0.2.1 dX7_merges_134 (lv_at hl 7 rfl) ?_
                    refine lv_aload_n C0.1 C0.2.1 dX7_merges_136 rfl (lv_at hl 0 rfl) ?_
                    refine E_g_other C0 hE fk_X7_59 dX7_merges_137 ?_
                    refine lv_iload C0.1 C0.2.1 dX7_merges_140 (lv_at hl 6 rfl) ?_
                    obtain ⟨v30, e_v30, i_v30, h⟩ := rd_s hR h
                    refine E_other_l C0 hE i_x14 e_v30 dX7_merges_142 ?_
                    obtain ⟨s31, e_s31, hR, h⟩ := wr_s hR i_v30 h
                    refine E_fresh_st C0 hE i_x15 e_s31 dX7_merges_143 (fun H locs hE => ?_)
                    obtain ⟨v32, e_v32, i_v32, h⟩ := oadd_s h
                    refine x_iinc (lv' := [(6, .int (I v32)), (0, .ref (g.2 0)), (1, .int (I p1)), (2, .int (I p2)), (3, .int (I p3)), (4, .int (I v6)), (5, .int (I x13)), (7, .int (I x15))]) C0 dX7_merges_144 hl (k := 6) rfl e_v32 (by decide) rfl (fun ls hl => ?_)
                    exact h_k22 s31 hR x13 i_x13 v32 i_v32 _ _ _ hE (lv_sub hl [1, 2, 3, 4, 5, 6, 0, 7] rfl) h
                  refine x_icmp_ge C0 i_x13 i_v28 dX7_merges_90 (tgt := 130) (by decide) (fun c9 => ?_) (fun c9 => ?_)
                  · have h := ite_f c9 h
                    exact h_k29 _ _ _ hE (lv_sub hl [0, 1, 2, 3, 4, 5, 6, 7] rfl) h
                  · have h := ite_t c9 h
                    refine lv_aload_n C0.1 C0.2.1 dX7_merges_93 rfl (lv_at hl 0 rfl) ?_
                    refine E_g_one C0 hE fk_X7_56 dX7_merges_94 ?_
                    refine lv_iload C0.1 C0.2.1 dX7_merges_97 (lv_at hl 5 rfl) ?_
                    obtain ⟨v33, e_v33, i_v33, h⟩ := rd_s hR h
                    refine E_one_l C0 hE i_x13 e_v33 dX7_merges_99 ?_
                    refine lv_aload_n C0.1 C0.2.1 dX7_merges_100 rfl (lv_at hl 0 rfl) ?_
                    refine E_g_other C0 hE fk_X7_59 dX7_merges_101 ?_
                    refine lv_iload C0.1 C0.2.1 dX7_merges_104 (lv_at hl 6 rfl) ?_
                    obtain ⟨v34, e_v34, i_v34, h⟩ := rd_s hR h
                    refine E_other_l C0 hE i_x14 e_v34 dX7_merges_106 ?_
                    refine x_icmp_gt C0 i_v33 i_v34 dX7_merges_107 (tgt := 130) (by decide) (fun c9 => ?_) (fun c9 => ?_)
                    · have h := ite_t c9 h
                      exact h_k29 _ _ _ hE (lv_sub hl [0, 1, 2, 3, 4, 5, 6, 7] rfl) h
                    · have h := ite_f c9 h
                      exact h_k24 _ _ _ hE (lv_sub hl [0, 1, 2, 3, 4, 5, 6, 7] rfl) h
          exact hL64 FU s8 hR 0 lit_0 0 lit_0 0 lit_0 _ _ _ hE (lv_sub hl [4, 5, 6, 7, 3, 2, 1, 0] rfl) h
        · have h := ite_t c9 h
          refine lv_bipush (v := I (-2)) C0.1 C0.2.1 dX7_merges_46 (by decide +kernel) ?_
          exact ret_i (wf := wE g) C0 hr hlk hE h lit_m2 hR dX7_merges_48
      · have h := ite_t c9 h
        refine lv_iconst (v := I (-1)) C0.1 C0.2.1 dX7_merges_21 rfl ?_
        exact ret_i (wf := wE g) C0 hr hlk hE h lit_m1 hR dX7_merges_22
set_option maxRecDepth 100000 in
set_option maxHeartbeats 4000000 in
theorem c_E_picks (l : Launch) (D : va_G) (g : Ad) {σ σr : St} {p1 p2 p3 p4 r : Int} (hR : R32 σ) (i_p1 : in32 p1) (i_p2 : in32 p2) (i_p3 : in32 p3) (i_p4 : in32 p4) (h : E_picks σ p1 p2 p3 p4 = some (r, σr)) : CtI l D g yX7_picks cX7_picks 7 (some .int) 7 (wE g σ) (wE g σr) [.ref (g.2 0), .int (I p1), .int (I p2), .int (I p3), .int (I p4)] r (in32 r ∧ R32 σr) := by
  intro sz
  refine met_of (by decide) (Nat.le_of_ble_eq_true rfl) (fun p e s m args below meth c ls H locs C0 hml hr hlk hE hl => ?_)
  have C0 : CX p c cX7_picks m s args D g RX7 := C0
  have hl : lv_has ls 7 [(0, .ref (g.2 0)), (1, .int (I p1)), (2, .int (I p2)), (3, .int (I p3)), (4, .int (I p4))] := hl
  unfold E_picks at h
  refine lv_iload_n C0.1 C0.2.1 dX7_picks_0 rfl (lv_at hl 1 rfl) ?_
  obtain ⟨v1, h_v1, h⟩ := bndp_s h
  refine callS_i (rest := []) C0 hml hE (c_E_isPlace l D g (σ := σ) i_p1 h_v1) kw_X7_86 ⟨Nat.le_of_ble_eq_true rfl, Nat.le_of_ble_eq_true rfl⟩ rfl hl.1 rfl (Nat.le_of_ble_eq_true rfl) dX7_picks_1 ⟨Nat.zero_le _, Nat.zero_le _⟩ (fun H locs hE i_v1 => ?_)
  refine x_if_eq C0 i_v1 dX7_picks_4 (tgt := 29) (by decide) (fun c9 => ?_) (fun c9 => ?_)
  · have h := ite_t c9 h
    refine lv_iconst (v := I (-1)) C0.1 C0.2.1 dX7_picks_29 rfl ?_
    exact ret_i (wf := wE g) C0 hr hlk hE h lit_m1 hR dX7_picks_30
  · have h := ite_f c9 h
    refine lv_iload_n C0.1 C0.2.1 dX7_picks_7 rfl (lv_at hl 2 rfl) ?_
    obtain ⟨v2, h_v2, h⟩ := bndp_s h
    refine callS_i (rest := []) C0 hml hE (c_E_isNumber l D g (σ := σ) i_p2 h_v2) kw_X7_117 ⟨Nat.le_of_ble_eq_true rfl, Nat.le_of_ble_eq_true rfl⟩ rfl hl.1 rfl (Nat.le_of_ble_eq_true rfl) dX7_picks_8 ⟨Nat.zero_le _, Nat.zero_le _⟩ (fun H locs hE i_v2 => ?_)
    refine x_if_eq C0 i_v2 dX7_picks_11 (tgt := 29) (by decide) (fun c9 => ?_) (fun c9 => ?_)
    · have h := ite_t c9 h
      refine lv_iconst (v := I (-1)) C0.1 C0.2.1 dX7_picks_29 rfl ?_
      exact ret_i (wf := wE g) C0 hr hlk hE h lit_m1 hR dX7_picks_30
    · have h := ite_f c9 h
      refine lv_iload_n C0.1 C0.2.1 dX7_picks_14 rfl (lv_at hl 3 rfl) ?_
      obtain ⟨v3, h_v3, h⟩ := bndp_s h
      refine callS_i (rest := []) C0 hml hE (c_E_isNumber l D g (σ := σ) i_p3 h_v3) kw_X7_117 ⟨Nat.le_of_ble_eq_true rfl, Nat.le_of_ble_eq_true rfl⟩ rfl hl.1 rfl (Nat.le_of_ble_eq_true rfl) dX7_picks_15 ⟨Nat.zero_le _, Nat.zero_le _⟩ (fun H locs hE i_v3 => ?_)
      refine x_if_eq C0 i_v3 dX7_picks_18 (tgt := 29) (by decide) (fun c9 => ?_) (fun c9 => ?_)
      · have h := ite_t c9 h
        refine lv_iconst (v := I (-1)) C0.1 C0.2.1 dX7_picks_29 rfl ?_
        exact ret_i (wf := wE g) C0 hr hlk hE h lit_m1 hR dX7_picks_30
      · have h := ite_f c9 h
        refine lv_iload C0.1 C0.2.1 dX7_picks_21 (lv_at hl 4 rfl) ?_
        obtain ⟨v4, h_v4, h⟩ := bndp_s h
        refine callS_i (rest := []) C0 hml hE (c_E_isPlace l D g (σ := σ) i_p4 h_v4) kw_X7_86 ⟨Nat.le_of_ble_eq_true rfl, Nat.le_of_ble_eq_true rfl⟩ rfl hl.1 rfl (Nat.le_of_ble_eq_true rfl) dX7_picks_23 ⟨Nat.zero_le _, Nat.zero_le _⟩ (fun H locs hE i_v4 => ?_)
        refine x_if_ne C0 i_v4 dX7_picks_26 (tgt := 31) (by decide) (fun c9 => ?_) (fun c9 => ?_)
        · have h := ite_f c9 h
          refine lv_aload_n C0.1 C0.2.1 dX7_picks_31 rfl (lv_at hl 0 rfl) ?_
          refine E_g_pool C0 hE fk_X7_10 dX7_picks_32 ?_
          refine lv_aload_n C0.1 C0.2.1 dX7_picks_35 rfl (lv_at hl 0 rfl) ?_
          refine E_g_trees C0 hE fk_X7_49 dX7_picks_36 ?_
          refine lv_iload_n C0.1 C0.2.1 dX7_picks_39 rfl (lv_at hl 1 rfl) ?_
          obtain ⟨v5, e_v5, i_v5, h⟩ := rd_s hR h
          refine E_trees_l C0 hE i_p1 e_v5 dX7_picks_40 ?_
          refine lv_aload_n C0.1 C0.2.1 dX7_picks_41 rfl (lv_at hl 0 rfl) ?_
          refine E_g_sizes C0 hE fk_X7_53 dX7_picks_42 ?_
          refine lv_iload_n C0.1 C0.2.1 dX7_picks_45 rfl (lv_at hl 1 rfl) ?_
          obtain ⟨v6, e_v6, i_v6, h⟩ := rd_s hR h
          refine E_sizes_l C0 hE i_p1 e_v6 dX7_picks_46 ?_
          refine lv_aload_n C0.1 C0.2.1 dX7_picks_47 rfl (lv_at hl 0 rfl) ?_
          refine E_g_one C0 hE fk_X7_56 dX7_picks_48 ?_
          obtain ⟨v7, s8, h_v7, h⟩ := bnd_s h
          refine callV_v (rest := []) C0 hml hE (Pool_rec C0 hE) (c_Pool_read_one l D g hR i_v5 i_v6 h_v7) kw_X7_201 ⟨Nat.le_of_ble_eq_true rfl, Nat.le_of_ble_eq_true rfl⟩ rfl hl.1 rfl (Nat.le_of_ble_eq_true rfl) dX7_picks_51 ⟨Nat.zero_le _, Nat.zero_le _⟩ (fun H locs hE hR => ?_)
          refine lv_iconst (v := I 0) C0.1 C0.2.1 dX7_picks_54 rfl ?_
          refine lv_istore (lv' := [(5, .int (I 0)), (0, .ref (g.2 0)), (1, .int (I p1)), (2, .int (I p2)), (3, .int (I p3)), (4, .int (I p4))]) C0.1 C0.2.1 dX7_picks_55 hl (by decide) rfl (fun ls hl => ?_)
          refine lv_iconst (v := I 0) C0.1 C0.2.1 dX7_picks_57 rfl ?_
          refine lv_istore (lv' := [(6, .int (I 0)), (5, .int (I 0)), (0, .ref (g.2 0)), (1, .int (I p1)), (2, .int (I p2)), (3, .int (I p3)), (4, .int (I p4))]) C0.1 C0.2.1 dX7_picks_58 hl (by decide) rfl (fun ls hl => ?_)
          obtain ⟨k11, e_k11, h⟩ := jn_s h
          have h_k11 : ∀ (s9 : St) (hR : R32 s9) (x10 : Int) (i_x10 : in32 x10) (H : Heap) (locs : List Loc) (ls : Array Slot), EW D (va_A (wE g σ) sz) s.heap (wE g s9) H locs → lv_has ls 7 [(0, .ref (g.2 0)), (4, .int (I p4)), (5, .int (I x10))] → k11 s9 x10 = some (r, σr) → W p l e (rmk 7) s m args below meth c H locs 0 0 (MQ below (QCi D (wE g σr) r (in32 r ∧ R32 σr) (va_A (wE g σ) sz)) args s 0 0 (va_A (wE g σ) sz)) (F0 m 116 ls []) := by
            intro s9 hR x10 i_x10 H locs ls hE hl h
            have h := (congrFun (congrFun e_k11 s9) x10).symm.trans h
            refine lv_aload_n C0.1 C0.2.1 dX7_picks_116 rfl (lv_at hl 0 rfl) ?_
            refine lv_iload C0.1 C0.2.1 dX7_picks_117 (lv_at hl 1 rfl) ?_
            refine lv_iload C0.1 C0.2.1 dX7_picks_119 (lv_at hl 2 rfl) ?_
            obtain ⟨v12, s13, h_v12, h⟩ := bnd_s h
            refine callV_i (rest := []) C0 hml hE (E_rec C0 hE) (c_E_build l D g hR i_p4 i_x10 h_v12) kw_X7_89 ⟨Nat.le_of_ble_eq_true rfl, Nat.le_of_ble_eq_true rfl⟩ rfl hl.1 rfl (Nat.le_of_ble_eq_true rfl) dX7_picks_121 ⟨Nat.zero_le _, Nat.zero_le _⟩ (fun H locs hE ⟨i_v12, hR⟩ => ?_)
            exact ret_i (wf := wE g) C0 hr hlk hE h i_v12 hR dX7_picks_124
          have hL60 : ∀ (n : Nat) (s16 : St) (hR : R32 s16) (x14 : Int) (i_x14 : in32 x14) (x15 : Int) (i_x15 : in32 x15) (H : Heap) (locs : List Loc) (ls : Array Slot), EW D (va_A (wE g σ) sz) s.heap (wE g s16) H locs → lv_has ls 7 [(0, .ref (g.2 0)), (1, .int (I p1)), (2, .int (I p2)), (3, .int (I p3)), (4, .int (I p4)), (5, .int (I x14)), (6, .int (I x15))] → E_picks_L60 k11 p1 p2 p3 n s16 x14 x15 = some (r, σr) → W p l e (rmk 7) s m args below meth c H locs 0 0 (MQ below (QCi D (wE g σr) r (in32 r ∧ R32 σr) (va_A (wE g σ) sz)) args s 0 0 (va_A (wE g σ) sz)) (F0 m 60 ls []) := by
            intro n
            induction n with
            | zero => intros; rename_i h; cases h
            | succ n ih17 =>
              intro s16 hR x14 i_x14 x15 i_x15 H locs ls hE hl h
              unfold E_picks_L60 at h
              refine lv_iload C0.1 C0.2.1 dX7_picks_60 (lv_at hl 6 rfl) ?_
              refine lv_aload_n C0.1 C0.2.1 dX7_picks_62 rfl (lv_at hl 0 rfl) ?_
              refine E_g_sizes C0 hE fk_X7_53 dX7_picks_63 ?_
              refine lv_iload_n C0.1 C0.2.1 dX7_picks_66 rfl (lv_at hl 1 rfl) ?_
              obtain ⟨v18, e_v18, i_v18, h⟩ := rd_s hR h
              refine E_sizes_l C0 hE i_p1 e_v18 dX7_picks_67 ?_
              refine x_icmp_ge C0 i_x15 i_v18 dX7_picks_68 (tgt := 116) (by decide) (fun c9 => ?_) (fun c9 => ?_)
              · have h := ite_f c9 h
                exact h_k11 s16 hR x14 i_x14 _ _ _ hE (lv_sub hl [0, 4, 5] rfl) h
              · have h := ite_t c9 h
                refine lv_aload_n C0.1 C0.2.1 dX7_picks_71 rfl (lv_at hl 0 rfl) ?_
                refine E_g_one C0 hE fk_X7_56 dX7_picks_72 ?_
                refine lv_iload C0.1 C0.2.1 dX7_picks_75 (lv_at hl 6 rfl) ?_
                obtain ⟨v19, e_v19, i_v19, h⟩ := rd_s hR h
                refine E_one_l C0 hE i_x15 e_v19 dX7_picks_77 ?_
                refine lv_iload_n C0.1 C0.2.1 dX7_picks_78 rfl (lv_at hl 2 rfl) ?_
                obtain ⟨k22, e_k22, h⟩ := jn_s h
                have h_k22 : ∀ (s20 : St) (hR : R32 s20) (x21 : Int) (i_x21 : in32 x21) (H : Heap) (locs : List Loc) (ls : Array Slot), EW D (va_A (wE g σ) sz) s.heap (wE g s20) H locs → lv_has ls 7 [(0, .ref (g.2 0)), (1, .int (I p1)), (2, .int (I p2)), (3, .int (I p3)), (4, .int (I p4)), (5, .int (I x21)), (6, .int (I x15))] → k22 s20 x21 = some (r, σr) → W p l e (rmk 7) s m args below meth c H locs 0 0 (MQ below (QCi D (wE g σr) r (in32 r ∧ R32 σr) (va_A (wE g σ) sz)) args s 0 0 (va_A (wE g σ) sz)) (F0 m 110 ls []) := by
                  intro s20 hR x21 i_x21 H locs ls hE hl h
                  have h := (congrFun (congrFun e_k22 s20) x21).symm.trans h
                  obtain ⟨v23, e_v23, i_v23, h⟩ := oadd_s h
                  refine x_iinc (lv' := [(6, .int (I v23)), (0, .ref (g.2 0)), (1, .int (I p1)), (2, .int (I p2)), (3, .int (I p3)), (4, .int (I p4)), (5, .int (I x21))]) C0 dX7_picks_110 hl (k := 6) rfl e_v23 (by decide) rfl (fun ls hl => ?_)
                  refine x_goto C0 dX7_picks_113 (tgt := 60) (by decide) ?_
                  exact ih17 s20 hR x21 i_x21 v23 i_v23 _ _ _ hE (lv_sub hl [1, 2, 3, 4, 5, 6, 0] rfl) h
                refine x_icmp_lt C0 i_v19 i_p2 dX7_picks_79 (tgt := 110) (by decide) (fun c9 => ?_) (fun c9 => ?_)
                · have h := ite_t c9 h
                  exact h_k22 s16 hR x14 i_x14 _ _ _ hE (lv_sub hl [0, 1, 2, 3, 4, 5, 6] rfl) h
                · have h := ite_f c9 h
                  refine lv_aload_n C0.1 C0.2.1 dX7_picks_82 rfl (lv_at hl 0 rfl) ?_
                  refine E_g_one C0 hE fk_X7_56 dX7_picks_83 ?_
                  refine lv_iload C0.1 C0.2.1 dX7_picks_86 (lv_at hl 6 rfl) ?_
                  obtain ⟨v24, e_v24, i_v24, h⟩ := rd_s hR h
                  refine E_one_l C0 hE i_x15 e_v24 dX7_picks_88 ?_
                  refine lv_iload_n C0.1 C0.2.1 dX7_picks_89 rfl (lv_at hl 3 rfl) ?_
                  refine x_icmp_gt C0 i_v24 i_p3 dX7_picks_90 (tgt := 110) (by decide) (fun c9 => ?_) (fun c9 => ?_)
                  · have h := ite_t c9 h
                    exact h_k22 s16 hR x14 i_x14 _ _ _ hE (lv_sub hl [0, 1, 2, 3, 4, 5, 6] rfl) h
                  · have h := ite_f c9 h
                    refine lv_aload_n C0.1 C0.2.1 dX7_picks_93 rfl (lv_at hl 0 rfl) ?_
                    refine E_g_fresh C0 hE fk_X7_62 dX7_picks_94 ?_
                    refine lv_iload C0.1 C0.2.1 dX7_picks_97 (lv_at hl 5 rfl) ?_
                    refine lv_aload_n C0.1 C0.2.1 dX7_picks_99 rfl (lv_at hl 0 rfl) ?_
                    refine E_g_one C0 hE fk_X7_56 dX7_picks_100 ?_
                    refine lv_iload C0.1 C0.2.1 dX7_picks_103 (lv_at hl 6 rfl) ?_
                    obtain ⟨v25, e_v25, i_v25, h⟩ := rd_s hR h
                    refine E_one_l C0 hE i_x15 e_v25 dX7_picks_105 ?_
                    obtain ⟨s26, e_s26, hR, h⟩ := wr_s hR i_v25 h
                    refine E_fresh_st C0 hE i_x14 e_s26 dX7_picks_106 (fun H locs hE => ?_)
                    obtain ⟨v27, e_v27, i_v27, h⟩ := oadd_s h
                    refine x_iinc (lv' := [(5, .int (I v27)), (0, .ref (g.2 0)), (1, .int (I p1)), (2, .int (I p2)), (3, .int (I p3)), (4, .int (I p4)), (6, .int (I x15))]) C0 dX7_picks_107 hl (k := 5) rfl e_v27 (by decide) rfl (fun ls hl => ?_)
                    exact h_k22 s26 hR v27 i_v27 _ _ _ hE (lv_sub hl [1, 2, 3, 4, 5, 0, 6] rfl) h
          exact hL60 FU s8 hR 0 lit_0 0 lit_0 _ _ _ hE (lv_sub hl [2, 3, 4, 5, 6, 1, 0] rfl) h
        · have h := ite_t c9 h
          refine lv_iconst (v := I (-1)) C0.1 C0.2.1 dX7_picks_29 rfl ?_
          exact ret_i (wf := wE g) C0 hr hlk hE h lit_m1 hR dX7_picks_30
set_option maxRecDepth 100000 in
set_option maxHeartbeats 4000000 in
theorem c_Pool_mirrored (l : Launch) (D : va_G) (g : Ad) {σ σr : St} {p1 p2 r : Int} (hR : R32 σ) (i_p1 : in32 p1) (i_p2 : in32 p2) (h : Pool_mirrored σ p1 p2 = some (r, σr)) : CtI l D g yX0_mirrored cX0_mirrored 4 (some .int) 4 (wE g σ) (wE g σr) [.ref (g.2 1), .int (I p1), .int (I p2)] r (in32 r ∧ R32 σr) := by
  intro sz
  refine met_of (by decide) (Nat.le_of_ble_eq_true rfl) (fun p e s m args below meth c ls H locs C0 hml hr hlk hE hl => ?_)
  have C0 : CX p c cX0_mirrored m s args D g RX0 := C0
  have hl : lv_has ls 4 [(0, .ref (g.2 1)), (1, .int (I p1)), (2, .int (I p2))] := hl
  unfold Pool_mirrored at h
  refine lv_aload_n C0.1 C0.2.1 dX0_mirrored_0 rfl (lv_at hl 0 rfl) ?_
  refine lv_iload_n C0.1 C0.2.1 dX0_mirrored_1 rfl (lv_at hl 1 rfl) ?_
  refine lv_iload_n C0.1 C0.2.1 dX0_mirrored_2 rfl (lv_at hl 2 rfl) ?_
  obtain ⟨v1, s2, h_v1, h⟩ := bnd_s h
  refine callV_v (rest := []) C0 hml hE (Pool_rec C0 hE) (c_Pool_spread l D g hR i_p1 i_p2 h_v1) kw_X0_49 ⟨Nat.le_of_ble_eq_true rfl, Nat.le_of_ble_eq_true rfl⟩ rfl hl.1 rfl (Nat.le_of_ble_eq_true rfl) dX0_mirrored_3 ⟨Nat.zero_le _, Nat.zero_le _⟩ (fun H locs hE hR => ?_)
  refine lv_iload_n C0.1 C0.2.1 dX0_mirrored_6 rfl (lv_at hl 2 rfl) ?_
  refine lv_iconst (v := I 1) C0.1 C0.2.1 dX0_mirrored_7 rfl ?_
  obtain ⟨v3, e_v3, i_v3, h⟩ := osub_s h
  refine x_sub C0 e_v3 dX0_mirrored_8 ?_
  refine lv_istore_n (lv' := [(3, .int (I v3)), (0, .ref (g.2 1)), (1, .int (I p1)), (2, .int (I p2))]) C0.1 C0.2.1 dX0_mirrored_9 rfl hl (by decide) rfl (fun ls hl => ?_)
  obtain ⟨k5, e_k5, h⟩ := jn_s h
  have h_k5 : ∀ (s4 : St) (hR : R32 s4) (H : Heap) (locs : List Loc) (ls : Array Slot), EW D (va_A (wE g σ) sz) s.heap (wE g s4) H locs → lv_has ls 4 [(0, .ref (g.2 1)), (2, .int (I p2))] → k5 s4 = some (r, σr) → W p l e (rmk 4) s m args below meth c H locs 0 0 (MQ below (QCi D (wE g σr) r (in32 r ∧ R32 σr) (va_A (wE g σ) sz)) args s 0 0 (va_A (wE g σ) sz)) (F0 m 54 ls []) := by
    intro s4 hR H locs ls hE hl h
    have h := (congrFun e_k5 s4).symm.trans h
    refine lv_aload_n C0.1 C0.2.1 dX0_mirrored_54 rfl (lv_at hl 0 rfl) ?_
    refine lv_iload_n C0.1 C0.2.1 dX0_mirrored_55 rfl (lv_at hl 1 rfl) ?_
    obtain ⟨v6, h_v6, h⟩ := bndp_s h
    refine callV_i (rest := []) C0 hml hE (Pool_rec C0 hE) (c_Pool_rootOf l D g hR i_p2 h_v6) kw_X0_79 ⟨Nat.le_of_ble_eq_true rfl, Nat.le_of_ble_eq_true rfl⟩ rfl hl.1 rfl (Nat.le_of_ble_eq_true rfl) dX0_mirrored_56 ⟨Nat.zero_le _, Nat.zero_le _⟩ (fun H locs hE i_v6 => ?_)
    exact ret_i (wf := wE g) C0 hr hlk hE h i_v6 hR dX0_mirrored_59
  have hL10 : ∀ (n : Nat) (s8 : St) (hR : R32 s8) (x7 : Int) (i_x7 : in32 x7) (H : Heap) (locs : List Loc) (ls : Array Slot), EW D (va_A (wE g σ) sz) s.heap (wE g s8) H locs → lv_has ls 4 [(0, .ref (g.2 1)), (2, .int (I p2)), (3, .int (I x7))] → Pool_mirrored_L10 k5 p2 n s8 x7 = some (r, σr) → W p l e (rmk 4) s m args below meth c H locs 0 0 (MQ below (QCi D (wE g σr) r (in32 r ∧ R32 σr) (va_A (wE g σ) sz)) args s 0 0 (va_A (wE g σ) sz)) (F0 m 10 ls []) := by
    intro n
    induction n with
    | zero => intros; rename_i h; cases h
    | succ n ih9 =>
      intro s8 hR x7 i_x7 H locs ls hE hl h
      unfold Pool_mirrored_L10 at h
      refine lv_iload_n C0.1 C0.2.1 dX0_mirrored_10 rfl (lv_at hl 2 rfl) ?_
      refine x_if_lt C0 i_x7 dX0_mirrored_11 (tgt := 54) (by decide) (fun c9 => ?_) (fun c9 => ?_)
      · have h := ite_t c9 h
        exact h_k5 s8 hR _ _ _ hE (lv_sub hl [0, 1] rfl) h
      · have h := ite_f c9 h
        refine lv_aload_n C0.1 C0.2.1 dX0_mirrored_14 rfl (lv_at hl 0 rfl) ?_
        refine Pool_g_at C0 hE fk_X0_27 dX0_mirrored_15 ?_
        refine lv_iload_n C0.1 C0.2.1 dX0_mirrored_18 rfl (lv_at hl 2 rfl) ?_
        refine lv_aload_n C0.1 C0.2.1 dX0_mirrored_19 rfl (lv_at hl 0 rfl) ?_
        refine lv_aload_n C0.1 C0.2.1 dX0_mirrored_20 rfl (lv_at hl 0 rfl) ?_
        refine lv_aload_n C0.1 C0.2.1 dX0_mirrored_21 rfl (lv_at hl 0 rfl) ?_
        refine Pool_g_at C0 hE fk_X0_27 dX0_mirrored_22 ?_
        refine lv_iload_n C0.1 C0.2.1 dX0_mirrored_25 rfl (lv_at hl 2 rfl) ?_
        obtain ⟨v10, e_v10, i_v10, h⟩ := rd_s hR h
        refine Pool_at_l C0 hE i_x7 e_v10 dX0_mirrored_26 ?_
        obtain ⟨v11, h_v11, h⟩ := bndp_s h
        refine callV_i (rest := [.ref (g.2 1), .int (I x7), .ref (g.2 12)]) C0 hml hE (Pool_rec C0 hE) (c_Pool_numberOf l D g hR i_v10 h_v11) kw_X0_64 ⟨Nat.le_of_ble_eq_true rfl, Nat.le_of_ble_eq_true rfl⟩ rfl hl.1 rfl (Nat.le_of_ble_eq_true rfl) dX0_mirrored_27 ⟨Nat.zero_le _, Nat.zero_le _⟩ (fun H locs hE i_v11 => ?_)
        refine lv_aload_n C0.1 C0.2.1 dX0_mirrored_30 rfl (lv_at hl 0 rfl) ?_
        refine lv_iload_n C0.1 C0.2.1 dX0_mirrored_31 rfl (lv_at hl 2 rfl) ?_
        refine lv_iconst (v := I 2) C0.1 C0.2.1 dX0_mirrored_32 rfl ?_
        refine lv_iload_n C0.1 C0.2.1 dX0_mirrored_33 rfl (lv_at hl 1 rfl) ?_
        obtain ⟨v12, h_v12, h⟩ := bndp_s h
        refine callV_i (rest := [.int (I v11), .ref (g.2 1), .int (I x7), .ref (g.2 12)]) C0 hml hE (Pool_rec C0 hE) (c_Pool_below l D g hR i_x7 lit_2 i_p2 h_v12) kw_X0_72 ⟨Nat.le_of_ble_eq_true rfl, Nat.le_of_ble_eq_true rfl⟩ rfl hl.1 rfl (Nat.le_of_ble_eq_true rfl) dX0_mirrored_34 ⟨Nat.zero_le _, Nat.zero_le _⟩ (fun H locs hE i_v12 => ?_)
        refine lv_aload_n C0.1 C0.2.1 dX0_mirrored_37 rfl (lv_at hl 0 rfl) ?_
        refine lv_iload_n C0.1 C0.2.1 dX0_mirrored_38 rfl (lv_at hl 2 rfl) ?_
        refine lv_iconst (v := I 1) C0.1 C0.2.1 dX0_mirrored_39 rfl ?_
        refine lv_iload_n C0.1 C0.2.1 dX0_mirrored_40 rfl (lv_at hl 1 rfl) ?_
        obtain ⟨v13, h_v13, h⟩ := bndp_s h
        refine callV_i (rest := [.int (I v12), .int (I v11), .ref (g.2 1), .int (I x7), .ref (g.2 12)]) C0 hml hE (Pool_rec C0 hE) (c_Pool_below l D g hR i_x7 lit_1 i_p2 h_v13) kw_X0_72 ⟨Nat.le_of_ble_eq_true rfl, Nat.le_of_ble_eq_true rfl⟩ rfl hl.1 rfl (Nat.le_of_ble_eq_true rfl) dX0_mirrored_41 ⟨Nat.zero_le _, Nat.zero_le _⟩ (fun H locs hE i_v13 => ?_)
        obtain ⟨v14, s15, h_v14, h⟩ := bnd_s h
        refine callV_i (rest := [.int (I x7), .ref (g.2 12)]) C0 hml hE (Pool_rec C0 hE) (c_Pool_make l D g hR i_v11 i_v12 i_v13 h_v14) kw_X0_76 ⟨Nat.le_of_ble_eq_true rfl, Nat.le_of_ble_eq_true rfl⟩ rfl hl.1 rfl (Nat.le_of_ble_eq_true rfl) dX0_mirrored_44 ⟨Nat.zero_le _, Nat.zero_le _⟩ (fun H locs hE ⟨i_v14, hR⟩ => ?_)
        obtain ⟨s16, e_s16, hR, h⟩ := wr_s hR i_v14 h
        refine Pool_at_st C0 hE i_x7 e_s16 dX0_mirrored_47 (fun H locs hE => ?_)
        obtain ⟨v17, e_v17, i_v17, h⟩ := oadd_s h
        refine x_iinc (lv' := [(3, .int (I v17)), (0, .ref (g.2 1)), (2, .int (I p2))]) C0 dX0_mirrored_48 hl (k := 2) rfl e_v17 (by decide) rfl (fun ls hl => ?_)
        refine x_goto C0 dX0_mirrored_51 (tgt := 10) (by decide) ?_
        exact ih9 s16 hR v17 i_v17 _ _ _ hE (lv_sub hl [1, 2, 0] rfl) h
  exact hL10 FU s2 hR v3 i_v3 _ _ _ hE (lv_sub hl [1, 3, 0] rfl) h
set_option maxRecDepth 100000 in
set_option maxHeartbeats 4000000 in
theorem c_E_mirrors (l : Launch) (D : va_G) (g : Ad) {σ σr : St} {p1 p2 r : Int} (hR : R32 σ) (i_p1 : in32 p1) (i_p2 : in32 p2) (h : E_mirrors σ p1 p2 = some (r, σr)) : CtI l D g yX7_mirrors cX7_mirrors 3 (some .int) 6 (wE g σ) (wE g σr) [.ref (g.2 0), .int (I p1), .int (I p2)] r (in32 r ∧ R32 σr) := by
  intro sz
  refine met_of (by decide) (Nat.le_of_ble_eq_true rfl) (fun p e s m args below meth c ls H locs C0 hml hr hlk hE hl => ?_)
  have C0 : CX p c cX7_mirrors m s args D g RX7 := C0
  have hl : lv_has ls 3 [(0, .ref (g.2 0)), (1, .int (I p1)), (2, .int (I p2))] := hl
  unfold E_mirrors at h
  refine lv_iload_n C0.1 C0.2.1 dX7_mirrors_0 rfl (lv_at hl 1 rfl) ?_
  obtain ⟨v1, h_v1, h⟩ := bndp_s h
  refine callS_i (rest := []) C0 hml hE (c_E_isPlace l D g (σ := σ) i_p1 h_v1) kw_X7_86 ⟨Nat.le_of_ble_eq_true rfl, Nat.le_of_ble_eq_true rfl⟩ rfl hl.1 rfl (Nat.le_of_ble_eq_true rfl) dX7_mirrors_1 ⟨Nat.zero_le _, Nat.zero_le _⟩ (fun H locs hE i_v1 => ?_)
  refine x_if_eq C0 i_v1 dX7_mirrors_4 (tgt := 14) (by decide) (fun c9 => ?_) (fun c9 => ?_)
  · have h := ite_t c9 h
    refine lv_iconst (v := I (-1)) C0.1 C0.2.1 dX7_mirrors_14 rfl ?_
    exact ret_i (wf := wE g) C0 hr hlk hE h lit_m1 hR dX7_mirrors_15
  · have h := ite_f c9 h
    refine lv_iload_n C0.1 C0.2.1 dX7_mirrors_7 rfl (lv_at hl 2 rfl) ?_
    obtain ⟨v2, h_v2, h⟩ := bndp_s h
    refine callS_i (rest := []) C0 hml hE (c_E_isPlace l D g (σ := σ) i_p2 h_v2) kw_X7_86 ⟨Nat.le_of_ble_eq_true rfl, Nat.le_of_ble_eq_true rfl⟩ rfl hl.1 rfl (Nat.le_of_ble_eq_true rfl) dX7_mirrors_8 ⟨Nat.zero_le _, Nat.zero_le _⟩ (fun H locs hE i_v2 => ?_)
    refine x_if_ne C0 i_v2 dX7_mirrors_11 (tgt := 16) (by decide) (fun c9 => ?_) (fun c9 => ?_)
    · have h := ite_f c9 h
      refine lv_aload_n C0.1 C0.2.1 dX7_mirrors_16 rfl (lv_at hl 0 rfl) ?_
      refine E_g_sizes C0 hE fk_X7_53 dX7_mirrors_17 ?_
      refine lv_iload_n C0.1 C0.2.1 dX7_mirrors_20 rfl (lv_at hl 1 rfl) ?_
      obtain ⟨v3, e_v3, i_v3, h⟩ := rd_s hR h
      refine E_sizes_l C0 hE i_p1 e_v3 dX7_mirrors_21 ?_
      refine lv_aload_n C0.1 C0.2.1 dX7_mirrors_22 rfl (lv_at hl 0 rfl) ?_
      refine E_g_sizes C0 hE fk_X7_53 dX7_mirrors_23 ?_
      refine lv_iload_n C0.1 C0.2.1 dX7_mirrors_26 rfl (lv_at hl 1 rfl) ?_
      obtain ⟨v4, e_v4, i_v4, h⟩ := rd_s hR h
      refine E_sizes_l C0 hE i_p1 e_v4 dX7_mirrors_27 ?_
      refine lv_iconst (v := I 1) C0.1 C0.2.1 dX7_mirrors_28 rfl ?_
      obtain ⟨v5, e_v5, i_v5, h⟩ := oadd_s h
      refine x_add C0 e_v5 dX7_mirrors_29 ?_
      obtain ⟨v6, e_v6, i_v6, h⟩ := opure_s h (band_in _ _)
      refine x_and C0 e_v6 dX7_mirrors_30 ?_
      refine x_if_eq C0 i_v6 dX7_mirrors_31 (tgt := 37) (by decide) (fun c9 => ?_) (fun c9 => ?_)
      · have h := ite_t c9 h
        refine lv_aload_n C0.1 C0.2.1 dX7_mirrors_37 rfl (lv_at hl 0 rfl) ?_
        obtain ⟨v7, s8, h_v7, h⟩ := bnd_s h
        refine callV_i (rest := []) C0 hml hE (E_rec C0 hE) (c_E_begin l D g hR h_v7) kw_X7_120 ⟨Nat.le_of_ble_eq_true rfl, Nat.le_of_ble_eq_true rfl⟩ rfl hl.1 rfl (Nat.le_of_ble_eq_true rfl) dX7_mirrors_38 ⟨Nat.zero_le _, Nat.zero_le _⟩ (fun H locs hE ⟨i_v7, hR⟩ => ?_)
        refine lv_pop C0.1 C0.2.1 dX7_mirrors_41 rfl ?_
        refine lv_aload_n C0.1 C0.2.1 dX7_mirrors_42 rfl (lv_at hl 0 rfl) ?_
        refine lv_iload_n C0.1 C0.2.1 dX7_mirrors_43 rfl (lv_at hl 2 rfl) ?_
        refine lv_aload_n C0.1 C0.2.1 dX7_mirrors_44 rfl (lv_at hl 0 rfl) ?_
        refine E_g_pool C0 hE fk_X7_10 dX7_mirrors_45 ?_
        refine lv_aload_n C0.1 C0.2.1 dX7_mirrors_48 rfl (lv_at hl 0 rfl) ?_
        refine E_g_trees C0 hE fk_X7_49 dX7_mirrors_49 ?_
        refine lv_iload_n C0.1 C0.2.1 dX7_mirrors_52 rfl (lv_at hl 1 rfl) ?_
        obtain ⟨v9, e_v9, i_v9, h⟩ := rd_s hR h
        refine E_trees_l C0 hE i_p1 e_v9 dX7_mirrors_53 ?_
        refine lv_aload_n C0.1 C0.2.1 dX7_mirrors_54 rfl (lv_at hl 0 rfl) ?_
        refine E_g_sizes C0 hE fk_X7_53 dX7_mirrors_55 ?_
        refine lv_iload_n C0.1 C0.2.1 dX7_mirrors_58 rfl (lv_at hl 1 rfl) ?_
        obtain ⟨v10, e_v10, i_v10, h⟩ := rd_s hR h
        refine E_sizes_l C0 hE i_p1 e_v10 dX7_mirrors_59 ?_
        obtain ⟨v11, s12, h_v11, h⟩ := bnd_s h
        refine callV_i (rest := [.int (I p2), .ref (g.2 0)]) C0 hml hE (Pool_rec C0 hE) (c_Pool_mirrored l D g hR i_v9 i_v10 h_v11) kw_X7_239 ⟨Nat.le_of_ble_eq_true rfl, Nat.le_of_ble_eq_true rfl⟩ rfl hl.1 rfl (Nat.le_of_ble_eq_true rfl) dX7_mirrors_60 ⟨Nat.zero_le _, Nat.zero_le _⟩ (fun H locs hE ⟨i_v11, hR⟩ => ?_)
        refine lv_aload_n C0.1 C0.2.1 dX7_mirrors_63 rfl (lv_at hl 0 rfl) ?_
        refine E_g_sizes C0 hE fk_X7_53 dX7_mirrors_64 ?_
        refine lv_iload_n C0.1 C0.2.1 dX7_mirrors_67 rfl (lv_at hl 1 rfl) ?_
        obtain ⟨v13, e_v13, i_v13, h⟩ := rd_s hR h
        refine E_sizes_l C0 hE i_p1 e_v13 dX7_mirrors_68 ?_
        obtain ⟨v14, s15, h_v14, h⟩ := bnd_s h
        refine callV_i (rest := []) C0 hml hE (E_rec C0 hE) (c_E_keep l D g hR i_p2 i_v11 i_v13 h_v14) kw_X7_126 ⟨Nat.le_of_ble_eq_true rfl, Nat.le_of_ble_eq_true rfl⟩ rfl hl.1 rfl (Nat.le_of_ble_eq_true rfl) dX7_mirrors_69 ⟨Nat.zero_le _, Nat.zero_le _⟩ (fun H locs hE ⟨i_v14, hR⟩ => ?_)
        exact ret_i (wf := wE g) C0 hr hlk hE h i_v14 hR dX7_mirrors_72
      · have h := ite_f c9 h
        refine lv_bipush (v := I (-2)) C0.1 C0.2.1 dX7_mirrors_34 (by decide +kernel) ?_
        exact ret_i (wf := wE g) C0 hr hlk hE h lit_m2 hR dX7_mirrors_36
    · have h := ite_t c9 h
      refine lv_iconst (v := I (-1)) C0.1 C0.2.1 dX7_mirrors_14 rfl ?_
      exact ret_i (wf := wE g) C0 hr hlk hE h lit_m1 hR dX7_mirrors_15
set_option maxRecDepth 100000 in
set_option maxHeartbeats 4000000 in
theorem c_E_heap (l : Launch) (D : va_G) (g : Ad) {σ σr : St} {p1 r : Int} (hR : R32 σ) (i_p1 : in32 p1) (h : E_heap σ p1 = some (r, σr)) : CtI l D g yX7_heap cX7_heap 4 (some .int) 5 (wE g σ) (wE g σr) [.ref (g.2 0), .int (I p1)] r (in32 r ∧ R32 σr) := by
  intro sz
  refine met_of (by decide) (Nat.le_of_ble_eq_true rfl) (fun p e s m args below meth c ls H locs C0 hml hr hlk hE hl => ?_)
  have C0 : CX p c cX7_heap m s args D g RX7 := C0
  have hl : lv_has ls 4 [(0, .ref (g.2 0)), (1, .int (I p1))] := hl
  unfold E_heap at h
  refine lv_iload_n C0.1 C0.2.1 dX7_heap_0 rfl (lv_at hl 1 rfl) ?_
  obtain ⟨v1, h_v1, h⟩ := bndp_s h
  refine callS_i (rest := []) C0 hml hE (c_E_isPlace l D g (σ := σ) i_p1 h_v1) kw_X7_86 ⟨Nat.le_of_ble_eq_true rfl, Nat.le_of_ble_eq_true rfl⟩ rfl hl.1 rfl (Nat.le_of_ble_eq_true rfl) dX7_heap_1 ⟨Nat.zero_le _, Nat.zero_le _⟩ (fun H locs hE i_v1 => ?_)
  refine x_if_ne C0 i_v1 dX7_heap_4 (tgt := 9) (by decide) (fun c9 => ?_) (fun c9 => ?_)
  · have h := ite_f c9 h
    refine lv_aload_n C0.1 C0.2.1 dX7_heap_9 rfl (lv_at hl 0 rfl) ?_
    refine E_g_pool C0 hE fk_X7_10 dX7_heap_10 ?_
    refine lv_aload_n C0.1 C0.2.1 dX7_heap_13 rfl (lv_at hl 0 rfl) ?_
    refine E_g_trees C0 hE fk_X7_49 dX7_heap_14 ?_
    refine lv_iload_n C0.1 C0.2.1 dX7_heap_17 rfl (lv_at hl 1 rfl) ?_
    obtain ⟨v2, e_v2, i_v2, h⟩ := rd_s hR h
    refine E_trees_l C0 hE i_p1 e_v2 dX7_heap_18 ?_
    refine lv_aload_n C0.1 C0.2.1 dX7_heap_19 rfl (lv_at hl 0 rfl) ?_
    refine E_g_sizes C0 hE fk_X7_53 dX7_heap_20 ?_
    refine lv_iload_n C0.1 C0.2.1 dX7_heap_23 rfl (lv_at hl 1 rfl) ?_
    obtain ⟨v3, e_v3, i_v3, h⟩ := rd_s hR h
    refine E_sizes_l C0 hE i_p1 e_v3 dX7_heap_24 ?_
    refine lv_aload_n C0.1 C0.2.1 dX7_heap_25 rfl (lv_at hl 0 rfl) ?_
    refine E_g_one C0 hE fk_X7_56 dX7_heap_26 ?_
    obtain ⟨v4, s5, h_v4, h⟩ := bnd_s h
    refine callV_v (rest := []) C0 hml hE (Pool_rec C0 hE) (c_Pool_read_one l D g hR i_v2 i_v3 h_v4) kw_X7_201 ⟨Nat.le_of_ble_eq_true rfl, Nat.le_of_ble_eq_true rfl⟩ rfl hl.1 rfl (Nat.le_of_ble_eq_true rfl) dX7_heap_29 ⟨Nat.zero_le _, Nat.zero_le _⟩ (fun H locs hE hR => ?_)
    refine lv_iconst (v := I (-1)) C0.1 C0.2.1 dX7_heap_32 rfl ?_
    refine lv_istore_n (lv' := [(2, .int (I (-1))), (0, .ref (g.2 0)), (1, .int (I p1))]) C0.1 C0.2.1 dX7_heap_33 rfl hl (by decide) rfl (fun ls hl => ?_)
    refine lv_iconst (v := I 1) C0.1 C0.2.1 dX7_heap_34 rfl ?_
    refine lv_istore_n (lv' := [(3, .int (I 1)), (2, .int (I (-1))), (0, .ref (g.2 0)), (1, .int (I p1))]) C0.1 C0.2.1 dX7_heap_35 rfl hl (by decide) rfl (fun ls hl => ?_)
    obtain ⟨k7, e_k7, h⟩ := jn_s h
    have h_k7 : ∀ (x6 : Int) (i_x6 : in32 x6) (H : Heap) (locs : List Loc) (ls : Array Slot), EW D (va_A (wE g σ) sz) s.heap (wE g s5) H locs → lv_has ls 4 [(0, .ref (g.2 0)), (2, .int (I x6))] → k7 x6 = some (r, σr) → W p l e (rmk 5) s m args below meth c H locs 0 0 (MQ below (QCi D (wE g σr) r (in32 r ∧ R32 σr) (va_A (wE g σ) sz)) args s 0 0 (va_A (wE g σ) sz)) (F0 m 77 ls []) := by
      intro x6 i_x6 H locs ls hE hl h
      have h := (congrFun e_k7 x6).symm.trans h
      refine lv_aload_n C0.1 C0.2.1 dX7_heap_77 rfl (lv_at hl 0 rfl) ?_
      refine E_g_told C0 hE fk_X7_19 dX7_heap_78 ?_
      refine lv_iload_n C0.1 C0.2.1 dX7_heap_81 rfl (lv_at hl 1 rfl) ?_
      refine x_i2l C0 i_x6 dX7_heap_82 ?_
      obtain ⟨v8, s9, h_v8, h⟩ := bnd_s h
      refine callV_v (rest := []) C0 hml hE (Row_rec C0 hE) (c_Row_tell l D g hR (in64_of i_x6) h_v8) kw_X7_171 ⟨Nat.le_of_ble_eq_true rfl, Nat.le_of_ble_eq_true rfl⟩ rfl hl.1 rfl (Nat.le_of_ble_eq_true rfl) dX7_heap_83 ⟨Nat.zero_le _, Nat.zero_le _⟩ (fun H locs hE hR => ?_)
      refine lv_iload_n C0.1 C0.2.1 dX7_heap_86 rfl (lv_at hl 1 rfl) ?_
      refine lv_iconst (v := I (-1)) C0.1 C0.2.1 dX7_heap_87 rfl ?_
      obtain ⟨v10, e_v10, i_v10, h⟩ := oif_s h
      have kk_v10 : W p l e (rmk 5) s m args below meth c H locs 0 0 (MQ below (QCi D (wE g σr) r (in32 r ∧ R32 σr) (va_A (wE g σ) sz)) args s 0 0 (va_A (wE g σ) sz)) (F0 m 96 ls [.int (I v10)]) := by
        exact ret_i (wf := wE g) C0 hr hlk hE h i_v10 hR dX7_heap_96
      refine x_icmp_ne C0 i_x6 lit_m1 dX7_heap_88 (tgt := 95) (by decide) (fun c9 => ?_) (fun c9 => ?_)
      · have e9 := e_v10.trans (if_neg c9)
        refine lv_iconst (v := I 0) C0.1 C0.2.1 dX7_heap_95 rfl ?_
        rw [e9] at kk_v10; exact kk_v10
      · have e9 := e_v10.trans (if_pos c9)
        refine lv_iconst (v := I 1) C0.1 C0.2.1 dX7_heap_91 rfl ?_
        refine x_goto C0 dX7_heap_92 (tgt := 96) (by decide) ?_
        rw [e9] at kk_v10; exact kk_v10
    have hL36 : ∀ (n : Nat) (x11 : Int) (i_x11 : in32 x11) (x12 : Int) (i_x12 : in32 x12) (H : Heap) (locs : List Loc) (ls : Array Slot), EW D (va_A (wE g σ) sz) s.heap (wE g s5) H locs → lv_has ls 4 [(0, .ref (g.2 0)), (1, .int (I p1)), (2, .int (I x11)), (3, .int (I x12))] → E_heap_L36 k7 s5 p1 n x11 x12 = some (r, σr) → W p l e (rmk 5) s m args below meth c H locs 0 0 (MQ below (QCi D (wE g σr) r (in32 r ∧ R32 σr) (va_A (wE g σ) sz)) args s 0 0 (va_A (wE g σ) sz)) (F0 m 36 ls []) := by
      intro n
      induction n with
      | zero => intros; rename_i h; cases h
      | succ n ih13 =>
        intro x11 i_x11 x12 i_x12 H locs ls hE hl h
        unfold E_heap_L36 at h
        refine lv_iload_n C0.1 C0.2.1 dX7_heap_36 rfl (lv_at hl 3 rfl) ?_
        refine lv_aload_n C0.1 C0.2.1 dX7_heap_37 rfl (lv_at hl 0 rfl) ?_
        refine E_g_sizes C0 hE fk_X7_53 dX7_heap_38 ?_
        refine lv_iload_n C0.1 C0.2.1 dX7_heap_41 rfl (lv_at hl 1 rfl) ?_
        obtain ⟨v14, e_v14, i_v14, h⟩ := rd_s hR h
        refine E_sizes_l C0 hE i_p1 e_v14 dX7_heap_42 ?_
        refine x_icmp_ge C0 i_x12 i_v14 dX7_heap_43 (tgt := 77) (by decide) (fun c9 => ?_) (fun c9 => ?_)
        · have h := ite_f c9 h
          exact h_k7 x11 i_x11 _ _ _ hE (lv_sub hl [0, 2] rfl) h
        · have h := ite_t c9 h
          refine lv_iload_n C0.1 C0.2.1 dX7_heap_46 rfl (lv_at hl 2 rfl) ?_
          refine lv_iconst (v := I (-1)) C0.1 C0.2.1 dX7_heap_47 rfl ?_
          refine x_icmp_ne C0 i_x11 lit_m1 dX7_heap_48 (tgt := 77) (by decide) (fun c9 => ?_) (fun c9 => ?_)
          · have h := ite_f c9 h
            exact h_k7 x11 i_x11 _ _ _ hE (lv_sub hl [0, 2] rfl) h
          · have h := ite_t c9 h
            refine lv_aload_n C0.1 C0.2.1 dX7_heap_51 rfl (lv_at hl 0 rfl) ?_
            refine E_g_one C0 hE fk_X7_56 dX7_heap_52 ?_
            refine lv_iload_n C0.1 C0.2.1 dX7_heap_55 rfl (lv_at hl 3 rfl) ?_
            obtain ⟨v15, e_v15, i_v15, h⟩ := rd_s hR h
            refine E_one_l C0 hE i_x12 e_v15 dX7_heap_56 ?_
            refine lv_aload_n C0.1 C0.2.1 dX7_heap_57 rfl (lv_at hl 0 rfl) ?_
            refine E_g_one C0 hE fk_X7_56 dX7_heap_58 ?_
            refine lv_iload_n C0.1 C0.2.1 dX7_heap_61 rfl (lv_at hl 3 rfl) ?_
            obtain ⟨v16, h_v16, h⟩ := bndp_s h
            refine callS_i (rest := [.ref (g.2 26), .int (I v15)]) C0 hml hE (c_Shape_above l D g (σ := s5) i_x12 h_v16) kw_X7_242 ⟨Nat.le_of_ble_eq_true rfl, Nat.le_of_ble_eq_true rfl⟩ rfl hl.1 rfl (Nat.le_of_ble_eq_true rfl) dX7_heap_62 ⟨Nat.zero_le _, Nat.zero_le _⟩ (fun H locs hE i_v16 => ?_)
            obtain ⟨v17, e_v17, i_v17, h⟩ := rd_s hR h
            refine E_one_l C0 hE i_v16 e_v17 dX7_heap_65 ?_
            obtain ⟨k19, e_k19, h⟩ := jn_s h
            have h_k19 : ∀ (x18 : Int) (i_x18 : in32 x18) (H : Heap) (locs : List Loc) (ls : Array Slot), EW D (va_A (wE g σ) sz) s.heap (wE g s5) H locs → lv_has ls 4 [(0, .ref (g.2 0)), (1, .int (I p1)), (2, .int (I x18)), (3, .int (I x12))] → k19 x18 = some (r, σr) → W p l e (rmk 5) s m args below meth c H locs 0 0 (MQ below (QCi D (wE g σr) r (in32 r ∧ R32 σr) (va_A (wE g σ) sz)) args s 0 0 (va_A (wE g σ) sz)) (F0 m 71 ls []) := by
              intro x18 i_x18 H locs ls hE hl h
              have h := (congrFun e_k19 x18).symm.trans h
              obtain ⟨v20, e_v20, i_v20, h⟩ := oadd_s h
              refine x_iinc (lv' := [(3, .int (I v20)), (0, .ref (g.2 0)), (1, .int (I p1)), (2, .int (I x18))]) C0 dX7_heap_71 hl (k := 3) rfl e_v20 (by decide) rfl (fun ls hl => ?_)
              refine x_goto C0 dX7_heap_74 (tgt := 36) (by decide) ?_
              exact ih13 x18 i_x18 v20 i_v20 _ _ _ hE (lv_sub hl [1, 2, 3, 0] rfl) h
            refine x_icmp_ge C0 i_v15 i_v17 dX7_heap_66 (tgt := 71) (by decide) (fun c9 => ?_) (fun c9 => ?_)
            · have h := ite_f c9 h
              exact h_k19 x11 i_x11 _ _ _ hE (lv_sub hl [0, 1, 2, 3] rfl) h
            · have h := ite_t c9 h
              refine lv_iload_n C0.1 C0.2.1 dX7_heap_69 rfl (lv_at hl 3 rfl) ?_
              refine lv_istore_n (lv' := [(2, .int (I x12)), (0, .ref (g.2 0)), (1, .int (I p1)), (3, .int (I x12))]) C0.1 C0.2.1 dX7_heap_70 rfl hl (by decide) rfl (fun ls hl => ?_)
              exact h_k19 x12 i_x12 _ _ _ hE (lv_sub hl [1, 2, 0, 3] rfl) h
    exact hL36 FU (-1) lit_m1 1 lit_1 _ _ _ hE (lv_sub hl [2, 3, 1, 0] rfl) h
  · have h := ite_t c9 h
    refine lv_iconst (v := I (-1)) C0.1 C0.2.1 dX7_heap_7 rfl ?_
    exact ret_i (wf := wE g) C0 hr hlk hE h lit_m1 hR dX7_heap_8
set_option maxRecDepth 100000 in
set_option maxHeartbeats 4000000 in
theorem c_E_push (l : Launch) (D : va_G) (g : Ad) {σ σr : St} {p1 p2 p3 r : Int} (hR : R32 σ) (i_p1 : in32 p1) (i_p2 : in32 p2) (i_p3 : in32 p3) (h : E_push σ p1 p2 p3 = some (r, σr)) : CtI l D g yX7_push cX7_push 4 (some .int) 18 (wE g σ) (wE g σr) [.ref (g.2 0), .int (I p1), .int (I p2), .int (I p3)] r (in32 r ∧ R32 σr) := by
  intro sz
  refine met_of (by decide) (Nat.le_of_ble_eq_true rfl) (fun p e s m args below meth c ls H locs C0 hml hr hlk hE hl => ?_)
  have C0 : CX p c cX7_push m s args D g RX7 := C0
  have hl : lv_has ls 4 [(0, .ref (g.2 0)), (1, .int (I p1)), (2, .int (I p2)), (3, .int (I p3))] := hl
  unfold E_push at h
  refine lv_aload_n C0.1 C0.2.1 dX7_push_0 rfl (lv_at hl 0 rfl) ?_
  refine lv_iload_n C0.1 C0.2.1 dX7_push_1 rfl (lv_at hl 1 rfl) ?_
  refine lv_iload_n C0.1 C0.2.1 dX7_push_2 rfl (lv_at hl 2 rfl) ?_
  refine lv_iload_n C0.1 C0.2.1 dX7_push_3 rfl (lv_at hl 3 rfl) ?_
  refine lv_iconst (v := I 4) C0.1 C0.2.1 dX7_push_4 rfl ?_
  obtain ⟨v1, s2, h_v1, h⟩ := bnd_s h
  refine callV_i (rest := []) C0 hml hE (E_rec C0 hE) (c_E_putOne l D g hR i_p1 i_p2 i_p3 lit_4 h_v1) kw_X7_187 ⟨Nat.le_of_ble_eq_true rfl, Nat.le_of_ble_eq_true rfl⟩ rfl hl.1 rfl (Nat.le_of_ble_eq_true rfl) dX7_push_5 ⟨Nat.zero_le _, Nat.zero_le _⟩ (fun H locs hE ⟨i_v1, hR⟩ => ?_)
  exact ret_i (wf := wE g) C0 hr hlk hE h i_v1 hR dX7_push_8
set_option maxRecDepth 100000 in
set_option maxHeartbeats 4000000 in
theorem c_Pool_farLeft (l : Launch) (D : va_G) (g : Ad) {σ : St} {p1 r : Int} (hR : R32 σ) (i_p1 : in32 p1) (h : Pool_farLeft σ p1 = some r) : CtI l D g yX0_farLeft cX0_farLeft 4 (some .int) 3 (wE g σ) (wE g σ) [.ref (g.2 1), .int (I p1)] r (in32 r) := by
  intro sz
  refine met_of (by decide) (Nat.le_of_ble_eq_true rfl) (fun p e s m args below meth c ls H locs C0 hml hr hlk hE hl => ?_)
  have C0 : CX p c cX0_farLeft m s args D g RX0 := C0
  have hl : lv_has ls 4 [(0, .ref (g.2 1)), (1, .int (I p1))] := hl
  unfold Pool_farLeft at h
  refine lv_iload_n C0.1 C0.2.1 dX0_farLeft_0 rfl (lv_at hl 1 rfl) ?_
  refine lv_istore_n (lv' := [(2, .int (I p1)), (0, .ref (g.2 1)), (1, .int (I p1))]) C0.1 C0.2.1 dX0_farLeft_1 rfl hl (by decide) rfl (fun ls hl => ?_)
  refine lv_iconst (v := I 0) C0.1 C0.2.1 dX0_farLeft_2 rfl ?_
  refine lv_istore_n (lv' := [(3, .int (I 0)), (2, .int (I p1)), (0, .ref (g.2 1)), (1, .int (I p1))]) C0.1 C0.2.1 dX0_farLeft_3 rfl hl (by decide) rfl (fun ls hl => ?_)
  obtain ⟨k2, e_k2, h⟩ := jn_s h
  have h_k2 : ∀ (x1 : Int) (i_x1 : in32 x1) (H : Heap) (locs : List Loc) (ls : Array Slot), EW D (va_A (wE g σ) sz) s.heap (wE g σ) H locs → lv_has ls 4 [(0, .ref (g.2 1)), (2, .int (I x1))] → k2 x1 = some r → W p l e (rmk 3) s m args below meth c H locs 0 0 (MQ below (QCi D (wE g σ) r (in32 r) (va_A (wE g σ) sz)) args s 0 0 (va_A (wE g σ) sz)) (F0 m 30 ls []) := by
    intro x1 i_x1 H locs ls hE hl h
    have h := (congrFun e_k2 x1).symm.trans h
    refine lv_aload_n C0.1 C0.2.1 dX0_farLeft_30 rfl (lv_at hl 0 rfl) ?_
    refine lv_iload_n C0.1 C0.2.1 dX0_farLeft_31 rfl (lv_at hl 1 rfl) ?_
    obtain ⟨v3, h_v3, h⟩ := bndp_s h
    refine callV_i (rest := []) C0 hml hE (Pool_rec C0 hE) (c_Pool_numberOf l D g hR i_x1 h_v3) kw_X0_64 ⟨Nat.le_of_ble_eq_true rfl, Nat.le_of_ble_eq_true rfl⟩ rfl hl.1 rfl (Nat.le_of_ble_eq_true rfl) dX0_farLeft_32 ⟨Nat.zero_le _, Nat.zero_le _⟩ (fun H locs hE i_v3 => ?_)
    exact pret_i C0 hr hlk hE h i_v3 dX0_farLeft_35
  have hL4 : ∀ (n : Nat) (x4 : Int) (i_x4 : in32 x4) (x5 : Int) (i_x5 : in32 x5) (H : Heap) (locs : List Loc) (ls : Array Slot), EW D (va_A (wE g σ) sz) s.heap (wE g σ) H locs → lv_has ls 4 [(0, .ref (g.2 1)), (2, .int (I x4)), (3, .int (I x5))] → Pool_farLeft_L4 k2 σ n x4 x5 = some r → W p l e (rmk 3) s m args below meth c H locs 0 0 (MQ below (QCi D (wE g σ) r (in32 r) (va_A (wE g σ) sz)) args s 0 0 (va_A (wE g σ) sz)) (F0 m 4 ls []) := by
    intro n
    induction n with
    | zero => intros; rename_i h; cases h
    | succ n ih6 =>
      intro x4 i_x4 x5 i_x5 H locs ls hE hl h
      unfold Pool_farLeft_L4 at h
      refine lv_iload_n C0.1 C0.2.1 dX0_farLeft_4 rfl (lv_at hl 2 rfl) ?_
      refine lv_bipush (v := I 8) C0.1 C0.2.1 dX0_farLeft_5 (by decide +kernel) ?_
      refine x_icmp_ge C0 i_x5 lit_8 dX0_farLeft_7 (tgt := 30) (by decide) (fun c9 => ?_) (fun c9 => ?_)
      · have h := ite_f c9 h
        exact h_k2 x4 i_x4 _ _ _ hE (lv_sub hl [0, 1] rfl) h
      · have h := ite_t c9 h
        refine lv_aload_n C0.1 C0.2.1 dX0_farLeft_10 rfl (lv_at hl 0 rfl) ?_
        refine lv_iload_n C0.1 C0.2.1 dX0_farLeft_11 rfl (lv_at hl 1 rfl) ?_
        obtain ⟨v7, h_v7, h⟩ := bndp_s h
        refine callV_i (rest := []) C0 hml hE (Pool_rec C0 hE) (c_Pool_leftOf l D g hR i_x4 h_v7) kw_X0_57 ⟨Nat.le_of_ble_eq_true rfl, Nat.le_of_ble_eq_true rfl⟩ rfl hl.1 rfl (Nat.le_of_ble_eq_true rfl) dX0_farLeft_12 ⟨Nat.zero_le _, Nat.zero_le _⟩ (fun H locs hE i_v7 => ?_)
        refine x_if_eq C0 i_v7 dX0_farLeft_15 (tgt := 30) (by decide) (fun c9 => ?_) (fun c9 => ?_)
        · have h := ite_t c9 h
          exact h_k2 x4 i_x4 _ _ _ hE (lv_sub hl [0, 1] rfl) h
        · have h := ite_f c9 h
          refine lv_aload_n C0.1 C0.2.1 dX0_farLeft_18 rfl (lv_at hl 0 rfl) ?_
          refine lv_iload_n C0.1 C0.2.1 dX0_farLeft_19 rfl (lv_at hl 1 rfl) ?_
          obtain ⟨v8, h_v8, h⟩ := bndp_s h
          refine callV_i (rest := []) C0 hml hE (Pool_rec C0 hE) (c_Pool_leftOf l D g hR i_x4 h_v8) kw_X0_57 ⟨Nat.le_of_ble_eq_true rfl, Nat.le_of_ble_eq_true rfl⟩ rfl hl.1 rfl (Nat.le_of_ble_eq_true rfl) dX0_farLeft_20 ⟨Nat.zero_le _, Nat.zero_le _⟩ (fun H locs hE i_v8 => ?_)
          refine lv_istore_n (lv' := [(2, .int (I v8)), (0, .ref (g.2 1)), (3, .int (I x5))]) C0.1 C0.2.1 dX0_farLeft_23 rfl hl (by decide) rfl (fun ls hl => ?_)
          obtain ⟨v9, e_v9, i_v9, h⟩ := oadd_s h
          refine x_iinc (lv' := [(3, .int (I v9)), (2, .int (I v8)), (0, .ref (g.2 1))]) C0 dX0_farLeft_24 hl (k := 2) rfl e_v9 (by decide) rfl (fun ls hl => ?_)
          refine x_goto C0 dX0_farLeft_27 (tgt := 4) (by decide) ?_
          exact ih6 v8 i_v8 v9 i_v9 _ _ _ hE (lv_sub hl [2, 1, 0] rfl) h
  exact hL4 FU p1 i_p1 0 lit_0 _ _ _ hE (lv_sub hl [2, 1, 0] rfl) h
set_option maxRecDepth 100000 in
set_option maxHeartbeats 4000000 in
theorem c_Pool_farLeftGone (l : Launch) (D : va_G) (g : Ad) : ∀ (d : Nat) {σ σr : St} {p2 p3 r : Int} (hR : R32 σ) (i_p2 : in32 p2) (i_p3 : in32 p3) (h : Pool_farLeftGone d σ p2 p3 = some (r, σr)), CtI l D g yX0_farLeftGone cX0_farLeftGone 4 (some .int) (3 + d) (wE g σ) (wE g σr) [.ref (g.2 1), .int (I p2), .int (I p3)] r (in32 r ∧ R32 σr) := by
  intro d
  induction d with
  | zero => intros; rename_i h; cases h
  | succ d ih =>
    intro σ σr p2 p3 r hR i_p2 i_p3 h sz
    refine met_of (by decide) (Nat.le_of_ble_eq_true rfl) (fun p e s m args below meth c ls H locs C0 hml hr hlk hE hl => ?_)
    have C0 : CX p c cX0_farLeftGone m s args D g RX0 := C0
    have hl : lv_has ls 4 [(0, .ref (g.2 1)), (1, .int (I p2)), (2, .int (I p3))] := hl
    unfold Pool_farLeftGone at h
    refine lv_iload_n C0.1 C0.2.1 dX0_farLeftGone_0 rfl (lv_at hl 2 rfl) ?_
    refine lv_iconst (v := I 1) C0.1 C0.2.1 dX0_farLeftGone_1 rfl ?_
    refine x_icmp_gt C0 i_p3 lit_1 dX0_farLeftGone_2 (tgt := 7) (by decide) (fun c9 => ?_) (fun c9 => ?_)
    · have h := ite_t c9 h
      refine lv_aload_n C0.1 C0.2.1 dX0_farLeftGone_7 rfl (lv_at hl 0 rfl) ?_
      refine lv_aload_n C0.1 C0.2.1 dX0_farLeftGone_8 rfl (lv_at hl 0 rfl) ?_
      refine lv_iload_n C0.1 C0.2.1 dX0_farLeftGone_9 rfl (lv_at hl 1 rfl) ?_
      obtain ⟨v1, h_v1, h⟩ := bndp_s h
      refine callV_i (rest := [.ref (g.2 1)]) C0 hml hE (Pool_rec C0 hE) (c_Pool_leftOf l D g hR i_p2 h_v1) kw_X0_57 (by simp only [rmk, RD]; omega) rfl hl.1 rfl (Nat.le_of_ble_eq_true rfl) dX0_farLeftGone_10 ⟨Nat.zero_le _, Nat.zero_le _⟩ (fun H locs hE i_v1 => ?_)
      refine lv_iload_n C0.1 C0.2.1 dX0_farLeftGone_13 rfl (lv_at hl 2 rfl) ?_
      obtain ⟨v2, h_v2, h⟩ := bndp_s h
      refine callS_i (rest := [.int (I v1), .ref (g.2 1)]) C0 hml hE (c_Shape_leftSize l D g (σ := σ) i_p3 h_v2) kw_X0_126 (by simp only [rmk, RD]; omega) rfl hl.1 rfl (Nat.le_of_ble_eq_true rfl) dX0_farLeftGone_14 ⟨Nat.zero_le _, Nat.zero_le _⟩ (fun H locs hE i_v2 => ?_)
      obtain ⟨v3, s4, h_v3, h⟩ := bnd_s h
      refine callS_i (rest := []) C0 hml hE (ih hR i_v1 i_v2 h_v3) kw_X0_129 (by simp only [rmk, RD]; omega) rfl hl.1 rfl (Nat.le_of_ble_eq_true rfl) dX0_farLeftGone_17 ⟨Nat.zero_le _, Nat.zero_le _⟩ (fun H locs hE ⟨i_v3, hR⟩ => ?_)
      refine lv_istore_n (lv' := [(3, .int (I v3)), (0, .ref (g.2 1)), (1, .int (I p2)), (2, .int (I p3))]) C0.1 C0.2.1 dX0_farLeftGone_20 rfl hl (by decide) rfl (fun ls hl => ?_)
      refine lv_aload_n C0.1 C0.2.1 dX0_farLeftGone_21 rfl (lv_at hl 1 rfl) ?_
      refine lv_aload_n C0.1 C0.2.1 dX0_farLeftGone_22 rfl (lv_at hl 1 rfl) ?_
      refine lv_iload_n C0.1 C0.2.1 dX0_farLeftGone_23 rfl (lv_at hl 2 rfl) ?_
      obtain ⟨v5, h_v5, h⟩ := bndp_s h
      refine callV_i (rest := [.ref (g.2 1)]) C0 hml hE (Pool_rec C0 hE) (c_Pool_numberOf l D g hR i_p2 h_v5) kw_X0_64 (by simp only [rmk, RD]; omega) rfl hl.1 rfl (Nat.le_of_ble_eq_true rfl) dX0_farLeftGone_24 ⟨Nat.zero_le _, Nat.zero_le _⟩ (fun H locs hE i_v5 => ?_)
      refine lv_aload_n C0.1 C0.2.1 dX0_farLeftGone_27 rfl (lv_at hl 1 rfl) ?_
      refine lv_iload_n C0.1 C0.2.1 dX0_farLeftGone_28 rfl (lv_at hl 2 rfl) ?_
      obtain ⟨v6, h_v6, h⟩ := bndp_s h
      refine callV_i (rest := [.int (I v5), .ref (g.2 1)]) C0 hml hE (Pool_rec C0 hE) (c_Pool_rightOf l D g hR i_p2 h_v6) kw_X0_61 (by simp only [rmk, RD]; omega) rfl hl.1 rfl (Nat.le_of_ble_eq_true rfl) dX0_farLeftGone_29 ⟨Nat.zero_le _, Nat.zero_le _⟩ (fun H locs hE i_v6 => ?_)
      refine lv_iload_n C0.1 C0.2.1 dX0_farLeftGone_32 rfl (lv_at hl 0 rfl) ?_
      obtain ⟨v7, s8, h_v7, h⟩ := bnd_s h
      refine callV_i (rest := []) C0 hml hE (Pool_rec C0 hE) (c_Pool_make l D g hR i_v5 i_v6 i_v3 h_v7) kw_X0_76 (by simp only [rmk, RD]; omega) rfl hl.1 rfl (Nat.le_of_ble_eq_true rfl) dX0_farLeftGone_33 ⟨Nat.zero_le _, Nat.zero_le _⟩ (fun H locs hE ⟨i_v7, hR⟩ => ?_)
      exact ret_i (wf := wE g) C0 hr hlk hE h i_v7 hR dX0_farLeftGone_36
    · have h := ite_f c9 h
      refine lv_iconst (v := I 0) C0.1 C0.2.1 dX0_farLeftGone_5 rfl ?_
      exact ret_i (wf := wE g) C0 hr hlk hE h lit_0 hR dX0_farLeftGone_6
set_option maxRecDepth 100000 in
set_option maxHeartbeats 4000000 in
theorem c_Pool_sifted (l : Launch) (D : va_G) (g : Ad) : ∀ (d : Nat) {σ σr : St} {p2 p3 p4 p5 r : Int} (hR : R32 σ) (i_p2 : in32 p2) (i_p3 : in32 p3) (i_p4 : in32 p4) (i_p5 : in32 p5) (h : Pool_sifted d σ p2 p3 p4 p5 = some (r, σr)), CtI l D g yX0_sifted cX0_sifted 8 (some .int) (3 + d) (wE g σ) (wE g σr) [.ref (g.2 1), .int (I p2), .int (I p3), .int (I p4), .int (I p5)] r (in32 r ∧ R32 σr) := by
  intro d
  induction d with
  | zero => intros; rename_i h; cases h
  | succ d ih =>
    intro σ σr p2 p3 p4 p5 r hR i_p2 i_p3 i_p4 i_p5 h sz
    refine met_of (by decide) (Nat.le_of_ble_eq_true rfl) (fun p e s m args below meth c ls H locs C0 hml hr hlk hE hl => ?_)
    have C0 : CX p c cX0_sifted m s args D g RX0 := C0
    have hl : lv_has ls 8 [(0, .ref (g.2 1)), (1, .int (I p2)), (2, .int (I p3)), (3, .int (I p4)), (4, .int (I p5))] := hl
    unfold Pool_sifted at h
    refine lv_iload_n C0.1 C0.2.1 dX0_sifted_0 rfl (lv_at hl 2 rfl) ?_
    obtain ⟨k2, e_k2, h⟩ := jn_s h
    have h_k2 : ∀ (x1 : Int) (i_x1 : in32 x1) (H : Heap) (locs : List Loc) (ls : Array Slot), EW D (va_A (wE g σ) sz) s.heap (wE g σ) H locs → lv_has ls 8 [(0, .ref (g.2 1)), (1, .int (I p2)), (2, .int (I p3)), (3, .int (I p4)), (4, .int (I p5))] → k2 x1 = some (r, σr) → W p l e (rmk (3 + (d + 1))) s m args below meth c H locs 0 0 (MQ below (QCi D (wE g σr) r (in32 r ∧ R32 σr) (va_A (wE g σ) sz)) args s 0 0 (va_A (wE g σ) sz)) (F0 m 18 ls [.int (I x1)]) := by
      intro x1 i_x1 H locs ls hE hl h
      have h := (congrFun e_k2 x1).symm.trans h
      refine lv_istore (lv' := [(5, .int (I x1)), (0, .ref (g.2 1)), (1, .int (I p2)), (2, .int (I p3)), (3, .int (I p4)), (4, .int (I p5))]) C0.1 C0.2.1 dX0_sifted_18 hl (by decide) rfl (fun ls hl => ?_)
      refine lv_iload_n C0.1 C0.2.1 dX0_sifted_20 rfl (lv_at hl 4 rfl) ?_
      obtain ⟨k4, e_k4, h⟩ := jn_s h
      have h_k4 : ∀ (x3 : Int) (i_x3 : in32 x3) (H : Heap) (locs : List Loc) (ls : Array Slot), EW D (va_A (wE g σ) sz) s.heap (wE g σ) H locs → lv_has ls 8 [(0, .ref (g.2 1)), (1, .int (I p2)), (2, .int (I p3)), (3, .int (I p4)), (4, .int (I p5)), (5, .int (I x1))] → k4 x3 = some (r, σr) → W p l e (rmk (3 + (d + 1))) s m args below meth c H locs 0 0 (MQ below (QCi D (wE g σr) r (in32 r ∧ R32 σr) (va_A (wE g σ) sz)) args s 0 0 (va_A (wE g σ) sz)) (F0 m 38 ls [.int (I x3)]) := by
        intro x3 i_x3 H locs ls hE hl h
        have h := (congrFun e_k4 x3).symm.trans h
        refine lv_istore (lv' := [(6, .int (I x3)), (0, .ref (g.2 1)), (1, .int (I p2)), (2, .int (I p3)), (3, .int (I p4)), (4, .int (I p5)), (5, .int (I x1))]) C0.1 C0.2.1 dX0_sifted_38 hl (by decide) rfl (fun ls hl => ?_)
        refine lv_iload C0.1 C0.2.1 dX0_sifted_40 (lv_at hl 5 rfl) ?_
        obtain ⟨k5, e_k5, h⟩ := jn_s h
        have h_k5 : ∀ (H : Heap) (locs : List Loc) (ls : Array Slot), EW D (va_A (wE g σ) sz) s.heap (wE g σ) H locs → lv_has ls 8 [(0, .ref (g.2 1)), (1, .int (I p2)), (2, .int (I p3)), (3, .int (I p4))] → k5 = some (r, σr) → W p l e (rmk (3 + (d + 1))) s m args below meth c H locs 0 0 (MQ below (QCi D (wE g σr) r (in32 r ∧ R32 σr) (va_A (wE g σ) sz)) args s 0 0 (va_A (wE g σ) sz)) (F0 m 59 ls []) := by
          intro H locs ls hE hl h
          have h := e_k5.symm.trans h
          refine lv_aload_n C0.1 C0.2.1 dX0_sifted_59 rfl (lv_at hl 0 rfl) ?_
          refine lv_iload_n C0.1 C0.2.1 dX0_sifted_60 rfl (lv_at hl 1 rfl) ?_
          refine lv_iload_n C0.1 C0.2.1 dX0_sifted_61 rfl (lv_at hl 2 rfl) ?_
          refine lv_iload_n C0.1 C0.2.1 dX0_sifted_62 rfl (lv_at hl 3 rfl) ?_
          obtain ⟨v6, s7, h_v6, h⟩ := bnd_s h
          refine callV_i (rest := []) C0 hml hE (Pool_rec C0 hE) (c_Pool_make l D g hR i_p2 i_p3 i_p4 h_v6) kw_X0_76 (by simp only [rmk, RD]; omega) rfl hl.1 rfl (Nat.le_of_ble_eq_true rfl) dX0_sifted_63 ⟨Nat.zero_le _, Nat.zero_le _⟩ (fun H locs hE ⟨i_v6, hR⟩ => ?_)
          exact ret_i (wf := wE g) C0 hr hlk hE h i_v6 hR dX0_sifted_66
        refine x_if_le C0 i_p5 dX0_sifted_42 (tgt := 59) (by decide) (fun c9 => ?_) (fun c9 => ?_)
        · have h := ite_f c9 h
          exact h_k5 _ _ _ hE (lv_sub hl [1, 2, 3, 4] rfl) h
        · have h := ite_t c9 h
          refine lv_iload_n C0.1 C0.2.1 dX0_sifted_45 rfl (lv_at hl 3 rfl) ?_
          refine x_if_eq C0 i_p3 dX0_sifted_46 (tgt := 59) (by decide) (fun c9 => ?_) (fun c9 => ?_)
          · have h := ite_t c9 h
            exact h_k5 _ _ _ hE (lv_sub hl [1, 2, 3, 4] rfl) h
          · have h := ite_f c9 h
            refine lv_iload C0.1 C0.2.1 dX0_sifted_49 (lv_at hl 6 rfl) ?_
            obtain ⟨k8, e_k8, h⟩ := jn_s h
            have h_k8 : ∀ (H : Heap) (locs : List Loc) (ls : Array Slot), EW D (va_A (wE g σ) sz) s.heap (wE g σ) H locs → lv_has ls 8 [(0, .ref (g.2 1)), (1, .int (I p2)), (2, .int (I p3)), (3, .int (I p4)), (4, .int (I p5))] → k8 = some (r, σr) → W p l e (rmk (3 + (d + 1))) s m args below meth c H locs 0 0 (MQ below (QCi D (wE g σr) r (in32 r ∧ R32 σr) (va_A (wE g σ) sz)) args s 0 0 (va_A (wE g σ) sz)) (F0 m 67 ls []) := by
              intro H locs ls hE hl h
              have h := e_k8.symm.trans h
              refine lv_iload_n C0.1 C0.2.1 dX0_sifted_67 rfl (lv_at hl 3 rfl) ?_
              obtain ⟨k9, e_k9, h⟩ := jn_s h
              have h_k9 : ∀ (H : Heap) (locs : List Loc) (ls : Array Slot), EW D (va_A (wE g σ) sz) s.heap (wE g σ) H locs → lv_has ls 8 [(0, .ref (g.2 1)), (1, .int (I p2)), (2, .int (I p3)), (3, .int (I p4)), (4, .int (I p5))] → k9 = some (r, σr) → W p l e (rmk (3 + (d + 1))) s m args below meth c H locs 0 0 (MQ below (QCi D (wE g σr) r (in32 r ∧ R32 σr) (va_A (wE g σ) sz)) args s 0 0 (va_A (wE g σ) sz)) (F0 m 84 ls []) := by
                intro H locs ls hE hl h
                have h := e_k9.symm.trans h
                refine lv_aload_n C0.1 C0.2.1 dX0_sifted_84 rfl (lv_at hl 0 rfl) ?_
                refine lv_iload_n C0.1 C0.2.1 dX0_sifted_85 rfl (lv_at hl 1 rfl) ?_
                refine lv_aload_n C0.1 C0.2.1 dX0_sifted_86 rfl (lv_at hl 0 rfl) ?_
                refine lv_iload_n C0.1 C0.2.1 dX0_sifted_87 rfl (lv_at hl 2 rfl) ?_
                obtain ⟨v10, h_v10, h⟩ := bndp_s h
                refine callV_i (rest := [.int (I p2), .ref (g.2 1)]) C0 hml hE (Pool_rec C0 hE) (c_Pool_leftOf l D g hR i_p3 h_v10) kw_X0_57 (by simp only [rmk, RD]; omega) rfl hl.1 rfl (Nat.le_of_ble_eq_true rfl) dX0_sifted_88 ⟨Nat.zero_le _, Nat.zero_le _⟩ (fun H locs hE i_v10 => ?_)
                refine lv_aload_n C0.1 C0.2.1 dX0_sifted_91 rfl (lv_at hl 0 rfl) ?_
                refine lv_iload_n C0.1 C0.2.1 dX0_sifted_92 rfl (lv_at hl 2 rfl) ?_
                obtain ⟨v11, h_v11, h⟩ := bndp_s h
                refine callV_i (rest := [.int (I v10), .int (I p2), .ref (g.2 1)]) C0 hml hE (Pool_rec C0 hE) (c_Pool_rightOf l D g hR i_p3 h_v11) kw_X0_61 (by simp only [rmk, RD]; omega) rfl hl.1 rfl (Nat.le_of_ble_eq_true rfl) dX0_sifted_93 ⟨Nat.zero_le _, Nat.zero_le _⟩ (fun H locs hE i_v11 => ?_)
                refine lv_iload C0.1 C0.2.1 dX0_sifted_96 (lv_at hl 4 rfl) ?_
                refine lv_iconst (v := I 1) C0.1 C0.2.1 dX0_sifted_98 rfl ?_
                obtain ⟨v12, e_v12, i_v12, h⟩ := osub_s h
                refine x_sub C0 e_v12 dX0_sifted_99 ?_
                obtain ⟨v13, s14, h_v13, h⟩ := bnd_s h
                refine callS_i (rest := []) C0 hml hE (ih hR i_p2 i_v10 i_v11 i_v12 h_v13) kw_X0_132 (by simp only [rmk, RD]; omega) rfl hl.1 rfl (Nat.le_of_ble_eq_true rfl) dX0_sifted_100 ⟨Nat.zero_le _, Nat.zero_le _⟩ (fun H locs hE ⟨i_v13, hR⟩ => ?_)
                refine lv_istore (lv' := [(7, .int (I v13)), (0, .ref (g.2 1)), (1, .int (I p2)), (2, .int (I p3)), (3, .int (I p4)), (4, .int (I p5))]) C0.1 C0.2.1 dX0_sifted_103 hl (by decide) rfl (fun ls hl => ?_)
                refine lv_aload_n C0.1 C0.2.1 dX0_sifted_105 rfl (lv_at hl 1 rfl) ?_
                refine lv_aload_n C0.1 C0.2.1 dX0_sifted_106 rfl (lv_at hl 1 rfl) ?_
                refine lv_iload_n C0.1 C0.2.1 dX0_sifted_107 rfl (lv_at hl 3 rfl) ?_
                obtain ⟨v15, h_v15, h⟩ := bndp_s h
                refine callV_i (rest := [.ref (g.2 1)]) C0 hml hE (Pool_rec C0 hE) (c_Pool_numberOf l D g hR i_p3 h_v15) kw_X0_64 (by simp only [rmk, RD]; omega) rfl hl.1 rfl (Nat.le_of_ble_eq_true rfl) dX0_sifted_108 ⟨Nat.zero_le _, Nat.zero_le _⟩ (fun H locs hE i_v15 => ?_)
                refine lv_iload C0.1 C0.2.1 dX0_sifted_111 (lv_at hl 0 rfl) ?_
                refine lv_iload_n C0.1 C0.2.1 dX0_sifted_113 rfl (lv_at hl 4 rfl) ?_
                obtain ⟨v16, s17, h_v16, h⟩ := bnd_s h
                refine callV_i (rest := []) C0 hml hE (Pool_rec C0 hE) (c_Pool_make l D g hR i_v15 i_v13 i_p4 h_v16) kw_X0_76 (by simp only [rmk, RD]; omega) rfl hl.1 rfl (Nat.le_of_ble_eq_true rfl) dX0_sifted_114 ⟨Nat.zero_le _, Nat.zero_le _⟩ (fun H locs hE ⟨i_v16, hR⟩ => ?_)
                exact ret_i (wf := wE g) C0 hr hlk hE h i_v16 hR dX0_sifted_117
              refine x_if_eq C0 i_p4 dX0_sifted_68 (tgt := 84) (by decide) (fun c9 => ?_) (fun c9 => ?_)
              · have h := ite_t c9 h
                exact h_k9 _ _ _ hE (lv_sub hl [0, 1, 2, 3, 4] rfl) h
              · have h := ite_f c9 h
                refine lv_aload_n C0.1 C0.2.1 dX0_sifted_71 rfl (lv_at hl 0 rfl) ?_
                refine lv_iload_n C0.1 C0.2.1 dX0_sifted_72 rfl (lv_at hl 2 rfl) ?_
                obtain ⟨v18, h_v18, h⟩ := bndp_s h
                refine callV_i (rest := []) C0 hml hE (Pool_rec C0 hE) (c_Pool_numberOf l D g hR i_p3 h_v18) kw_X0_64 (by simp only [rmk, RD]; omega) rfl hl.1 rfl (Nat.le_of_ble_eq_true rfl) dX0_sifted_73 ⟨Nat.zero_le _, Nat.zero_le _⟩ (fun H locs hE i_v18 => ?_)
                refine lv_aload_n C0.1 C0.2.1 dX0_sifted_76 rfl (lv_at hl 0 rfl) ?_
                refine lv_iload_n C0.1 C0.2.1 dX0_sifted_77 rfl (lv_at hl 3 rfl) ?_
                obtain ⟨v19, h_v19, h⟩ := bndp_s h
                refine callV_i (rest := [.int (I v18)]) C0 hml hE (Pool_rec C0 hE) (c_Pool_numberOf l D g hR i_p4 h_v19) kw_X0_64 (by simp only [rmk, RD]; omega) rfl hl.1 rfl (Nat.le_of_ble_eq_true rfl) dX0_sifted_78 ⟨Nat.zero_le _, Nat.zero_le _⟩ (fun H locs hE i_v19 => ?_)
                refine x_icmp_gt C0 i_v18 i_v19 dX0_sifted_81 (tgt := 118) (by decide) (fun c9 => ?_) (fun c9 => ?_)
                · have h := ite_t c9 h
                  refine lv_aload_n C0.1 C0.2.1 dX0_sifted_118 rfl (lv_at hl 0 rfl) ?_
                  refine lv_iload_n C0.1 C0.2.1 dX0_sifted_119 rfl (lv_at hl 1 rfl) ?_
                  refine lv_aload_n C0.1 C0.2.1 dX0_sifted_120 rfl (lv_at hl 0 rfl) ?_
                  refine lv_iload_n C0.1 C0.2.1 dX0_sifted_121 rfl (lv_at hl 3 rfl) ?_
                  obtain ⟨v20, h_v20, h⟩ := bndp_s h
                  refine callV_i (rest := [.int (I p2), .ref (g.2 1)]) C0 hml hE (Pool_rec C0 hE) (c_Pool_leftOf l D g hR i_p4 h_v20) kw_X0_57 (by simp only [rmk, RD]; omega) rfl hl.1 rfl (Nat.le_of_ble_eq_true rfl) dX0_sifted_122 ⟨Nat.zero_le _, Nat.zero_le _⟩ (fun H locs hE i_v20 => ?_)
                  refine lv_aload_n C0.1 C0.2.1 dX0_sifted_125 rfl (lv_at hl 0 rfl) ?_
                  refine lv_iload_n C0.1 C0.2.1 dX0_sifted_126 rfl (lv_at hl 3 rfl) ?_
                  obtain ⟨v21, h_v21, h⟩ := bndp_s h
                  refine callV_i (rest := [.int (I v20), .int (I p2), .ref (g.2 1)]) C0 hml hE (Pool_rec C0 hE) (c_Pool_rightOf l D g hR i_p4 h_v21) kw_X0_61 (by simp only [rmk, RD]; omega) rfl hl.1 rfl (Nat.le_of_ble_eq_true rfl) dX0_sifted_127 ⟨Nat.zero_le _, Nat.zero_le _⟩ (fun H locs hE i_v21 => ?_)
                  refine lv_iload C0.1 C0.2.1 dX0_sifted_130 (lv_at hl 4 rfl) ?_
                  refine lv_iconst (v := I 1) C0.1 C0.2.1 dX0_sifted_132 rfl ?_
                  obtain ⟨v22, e_v22, i_v22, h⟩ := osub_s h
                  refine x_sub C0 e_v22 dX0_sifted_133 ?_
                  obtain ⟨v23, s24, h_v23, h⟩ := bnd_s h
                  refine callS_i (rest := []) C0 hml hE (ih hR i_p2 i_v20 i_v21 i_v22 h_v23) kw_X0_132 (by simp only [rmk, RD]; omega) rfl hl.1 rfl (Nat.le_of_ble_eq_true rfl) dX0_sifted_134 ⟨Nat.zero_le _, Nat.zero_le _⟩ (fun H locs hE ⟨i_v23, hR⟩ => ?_)
                  refine lv_istore (lv' := [(7, .int (I v23)), (0, .ref (g.2 1)), (1, .int (I p2)), (2, .int (I p3)), (3, .int (I p4)), (4, .int (I p5))]) C0.1 C0.2.1 dX0_sifted_137 hl (by decide) rfl (fun ls hl => ?_)
                  refine lv_aload_n C0.1 C0.2.1 dX0_sifted_139 rfl (lv_at hl 1 rfl) ?_
                  refine lv_aload_n C0.1 C0.2.1 dX0_sifted_140 rfl (lv_at hl 1 rfl) ?_
                  refine lv_iload_n C0.1 C0.2.1 dX0_sifted_141 rfl (lv_at hl 4 rfl) ?_
                  obtain ⟨v25, h_v25, h⟩ := bndp_s h
                  refine callV_i (rest := [.ref (g.2 1)]) C0 hml hE (Pool_rec C0 hE) (c_Pool_numberOf l D g hR i_p4 h_v25) kw_X0_64 (by simp only [rmk, RD]; omega) rfl hl.1 rfl (Nat.le_of_ble_eq_true rfl) dX0_sifted_142 ⟨Nat.zero_le _, Nat.zero_le _⟩ (fun H locs hE i_v25 => ?_)
                  refine lv_iload_n C0.1 C0.2.1 dX0_sifted_145 rfl (lv_at hl 3 rfl) ?_
                  refine lv_iload C0.1 C0.2.1 dX0_sifted_146 (lv_at hl 0 rfl) ?_
                  obtain ⟨v26, s27, h_v26, h⟩ := bnd_s h
                  refine callV_i (rest := []) C0 hml hE (Pool_rec C0 hE) (c_Pool_make l D g hR i_v25 i_p3 i_v23 h_v26) kw_X0_76 (by simp only [rmk, RD]; omega) rfl hl.1 rfl (Nat.le_of_ble_eq_true rfl) dX0_sifted_148 ⟨Nat.zero_le _, Nat.zero_le _⟩ (fun H locs hE ⟨i_v26, hR⟩ => ?_)
                  exact ret_i (wf := wE g) C0 hr hlk hE h i_v26 hR dX0_sifted_151
                · have h := ite_f c9 h
                  exact h_k9 _ _ _ hE (lv_sub hl [0, 1, 2, 3, 4] rfl) h
            refine x_if_eq C0 i_x1 dX0_sifted_51 (tgt := 67) (by decide) (fun c9 => ?_) (fun c9 => ?_)
            · have h := ite_t c9 h
              exact h_k8 _ _ _ hE (lv_sub hl [1, 2, 3, 4, 5] rfl) h
            · have h := ite_f c9 h
              refine lv_iload C0.1 C0.2.1 dX0_sifted_54 (lv_at hl 0 rfl) ?_
              refine x_if_eq C0 i_x3 dX0_sifted_56 (tgt := 67) (by decide) (fun c9 => ?_) (fun c9 => ?_)
              · have h := ite_t c9 h
                exact h_k8 _ _ _ hE (lv_sub hl [1, 2, 3, 4, 5] rfl) h
              · have h := ite_f c9 h
                exact h_k5 _ _ _ hE (lv_sub hl [1, 2, 3, 4] rfl) h
      obtain ⟨k28, e_k28, h⟩ := jn_s h
      have h_k28 : ∀ (H : Heap) (locs : List Loc) (ls : Array Slot), EW D (va_A (wE g σ) sz) s.heap (wE g σ) H locs → lv_has ls 8 [(0, .ref (g.2 1)), (1, .int (I p2)), (2, .int (I p3)), (3, .int (I p4)), (4, .int (I p5)), (5, .int (I x1))] → k28 = some (r, σr) → W p l e (rmk (3 + (d + 1))) s m args below meth c H locs 0 0 (MQ below (QCi D (wE g σr) r (in32 r ∧ R32 σr) (va_A (wE g σ) sz)) args s 0 0 (va_A (wE g σ) sz)) (F0 m 33 ls []) := by
        intro H locs ls hE hl h
        have h := e_k28.symm.trans h
        refine lv_iconst (v := I 1) C0.1 C0.2.1 dX0_sifted_33 rfl ?_
        refine x_goto C0 dX0_sifted_34 (tgt := 38) (by decide) ?_
        exact h_k4 1 lit_1 _ _ _ hE (lv_sub hl [0, 1, 2, 3, 4, 5] rfl) h
      refine x_if_eq C0 i_p4 dX0_sifted_21 (tgt := 33) (by decide) (fun c9 => ?_) (fun c9 => ?_)
      · have h := ite_t c9 h
        exact h_k28 _ _ _ hE (lv_sub hl [1, 2, 3, 4, 5, 0] rfl) h
      · have h := ite_f c9 h
        refine lv_iload_n C0.1 C0.2.1 dX0_sifted_24 rfl (lv_at hl 2 rfl) ?_
        refine lv_aload_n C0.1 C0.2.1 dX0_sifted_25 rfl (lv_at hl 1 rfl) ?_
        refine lv_iload_n C0.1 C0.2.1 dX0_sifted_26 rfl (lv_at hl 4 rfl) ?_
        obtain ⟨v29, h_v29, h⟩ := bndp_s h
        refine callV_i (rest := [.int (I p2)]) C0 hml hE (Pool_rec C0 hE) (c_Pool_numberOf l D g hR i_p4 h_v29) kw_X0_64 (by simp only [rmk, RD]; omega) rfl hl.1 rfl (Nat.le_of_ble_eq_true rfl) dX0_sifted_27 ⟨Nat.zero_le _, Nat.zero_le _⟩ (fun H locs hE i_v29 => ?_)
        refine x_icmp_gt C0 i_p2 i_v29 dX0_sifted_30 (tgt := 37) (by decide) (fun c9 => ?_) (fun c9 => ?_)
        · have h := ite_t c9 h
          refine lv_iconst (v := I 0) C0.1 C0.2.1 dX0_sifted_37 rfl ?_
          exact h_k4 0 lit_0 _ _ _ hE (lv_sub hl [1, 2, 3, 4, 5, 0] rfl) h
        · have h := ite_f c9 h
          exact h_k28 _ _ _ hE (lv_sub hl [1, 2, 3, 4, 5, 0] rfl) h
    obtain ⟨k30, e_k30, h⟩ := jn_s h
    have h_k30 : ∀ (H : Heap) (locs : List Loc) (ls : Array Slot), EW D (va_A (wE g σ) sz) s.heap (wE g σ) H locs → lv_has ls 8 [(0, .ref (g.2 1)), (1, .int (I p2)), (2, .int (I p3)), (3, .int (I p4)), (4, .int (I p5))] → k30 = some (r, σr) → W p l e (rmk (3 + (d + 1))) s m args below meth c H locs 0 0 (MQ below (QCi D (wE g σr) r (in32 r ∧ R32 σr) (va_A (wE g σ) sz)) args s 0 0 (va_A (wE g σ) sz)) (F0 m 13 ls []) := by
      intro H locs ls hE hl h
      have h := e_k30.symm.trans h
      refine lv_iconst (v := I 1) C0.1 C0.2.1 dX0_sifted_13 rfl ?_
      refine x_goto C0 dX0_sifted_14 (tgt := 18) (by decide) ?_
      exact h_k2 1 lit_1 _ _ _ hE (lv_sub hl [0, 1, 2, 3, 4] rfl) h
    refine x_if_eq C0 i_p3 dX0_sifted_1 (tgt := 13) (by decide) (fun c9 => ?_) (fun c9 => ?_)
    · have h := ite_t c9 h
      exact h_k30 _ _ _ hE (lv_sub hl [0, 1, 2, 3, 4] rfl) h
    · have h := ite_f c9 h
      refine lv_iload_n C0.1 C0.2.1 dX0_sifted_4 rfl (lv_at hl 1 rfl) ?_
      refine lv_aload_n C0.1 C0.2.1 dX0_sifted_5 rfl (lv_at hl 0 rfl) ?_
      refine lv_iload_n C0.1 C0.2.1 dX0_sifted_6 rfl (lv_at hl 2 rfl) ?_
      obtain ⟨v31, h_v31, h⟩ := bndp_s h
      refine callV_i (rest := [.int (I p2)]) C0 hml hE (Pool_rec C0 hE) (c_Pool_numberOf l D g hR i_p3 h_v31) kw_X0_64 (by simp only [rmk, RD]; omega) rfl hl.1 rfl (Nat.le_of_ble_eq_true rfl) dX0_sifted_7 ⟨Nat.zero_le _, Nat.zero_le _⟩ (fun H locs hE i_v31 => ?_)
      refine x_icmp_gt C0 i_p2 i_v31 dX0_sifted_10 (tgt := 17) (by decide) (fun c9 => ?_) (fun c9 => ?_)
      · have h := ite_t c9 h
        refine lv_iconst (v := I 0) C0.1 C0.2.1 dX0_sifted_17 rfl ?_
        exact h_k2 0 lit_0 _ _ _ hE (lv_sub hl [0, 1, 2, 3, 4] rfl) h
      · have h := ite_f c9 h
        exact h_k30 _ _ _ hE (lv_sub hl [0, 1, 2, 3, 4] rfl) h
set_option maxRecDepth 100000 in
set_option maxHeartbeats 4000000 in
theorem c_Pool_popped (l : Launch) (D : va_G) (g : Ad) {σ σr : St} {p1 p2 r : Int} (hR : R32 σ) (i_p1 : in32 p1) (i_p2 : in32 p2) (h : Pool_popped σ p1 p2 = some (r, σr)) : CtI l D g yX0_popped cX0_popped 6 (some .int) 16 (wE g σ) (wE g σr) [.ref (g.2 1), .int (I p1), .int (I p2)] r (in32 r ∧ R32 σr) := by
  intro sz
  refine met_of (by decide) (Nat.le_of_ble_eq_true rfl) (fun p e s m args below meth c ls H locs C0 hml hr hlk hE hl => ?_)
  have C0 : CX p c cX0_popped m s args D g RX0 := C0
  have hl : lv_has ls 6 [(0, .ref (g.2 1)), (1, .int (I p1)), (2, .int (I p2))] := hl
  unfold Pool_popped at h
  refine lv_iload_n C0.1 C0.2.1 dX0_popped_0 rfl (lv_at hl 2 rfl) ?_
  refine lv_iconst (v := I 1) C0.1 C0.2.1 dX0_popped_1 rfl ?_
  refine x_icmp_gt C0 i_p2 lit_1 dX0_popped_2 (tgt := 7) (by decide) (fun c9 => ?_) (fun c9 => ?_)
  · have h := ite_t c9 h
    refine lv_aload_n C0.1 C0.2.1 dX0_popped_7 rfl (lv_at hl 0 rfl) ?_
    refine lv_iload_n C0.1 C0.2.1 dX0_popped_8 rfl (lv_at hl 1 rfl) ?_
    obtain ⟨v1, h_v1, h⟩ := bndp_s h
    refine callV_i (rest := []) C0 hml hE (Pool_rec C0 hE) (c_Pool_leftOf l D g hR i_p1 h_v1) kw_X0_57 ⟨Nat.le_of_ble_eq_true rfl, Nat.le_of_ble_eq_true rfl⟩ rfl hl.1 rfl (Nat.le_of_ble_eq_true rfl) dX0_popped_9 ⟨Nat.zero_le _, Nat.zero_le _⟩ (fun H locs hE i_v1 => ?_)
    refine lv_istore_n (lv' := [(3, .int (I v1)), (0, .ref (g.2 1)), (1, .int (I p1)), (2, .int (I p2))]) C0.1 C0.2.1 dX0_popped_12 rfl hl (by decide) rfl (fun ls hl => ?_)
    refine lv_aload_n C0.1 C0.2.1 dX0_popped_13 rfl (lv_at hl 1 rfl) ?_
    refine lv_iload_n C0.1 C0.2.1 dX0_popped_14 rfl (lv_at hl 0 rfl) ?_
    obtain ⟨v2, h_v2, h⟩ := bndp_s h
    refine callV_i (rest := []) C0 hml hE (Pool_rec C0 hE) (c_Pool_farLeft l D g hR i_v1 h_v2) kw_X0_123 ⟨Nat.le_of_ble_eq_true rfl, Nat.le_of_ble_eq_true rfl⟩ rfl hl.1 rfl (Nat.le_of_ble_eq_true rfl) dX0_popped_15 ⟨Nat.zero_le _, Nat.zero_le _⟩ (fun H locs hE i_v2 => ?_)
    refine lv_istore (lv' := [(4, .int (I v2)), (3, .int (I v1)), (0, .ref (g.2 1)), (1, .int (I p1)), (2, .int (I p2))]) C0.1 C0.2.1 dX0_popped_18 hl (by decide) rfl (fun ls hl => ?_)
    refine lv_aload_n C0.1 C0.2.1 dX0_popped_20 rfl (lv_at hl 2 rfl) ?_
    refine lv_iload_n C0.1 C0.2.1 dX0_popped_21 rfl (lv_at hl 1 rfl) ?_
    refine lv_iload_n C0.1 C0.2.1 dX0_popped_22 rfl (lv_at hl 4 rfl) ?_
    obtain ⟨v3, h_v3, h⟩ := bndp_s h
    refine callS_i (rest := [.int (I v1), .ref (g.2 1)]) C0 hml hE (c_Shape_leftSize l D g (σ := σ) i_p2 h_v3) kw_X0_126 ⟨Nat.le_of_ble_eq_true rfl, Nat.le_of_ble_eq_true rfl⟩ rfl hl.1 rfl (Nat.le_of_ble_eq_true rfl) dX0_popped_23 ⟨Nat.zero_le _, Nat.zero_le _⟩ (fun H locs hE i_v3 => ?_)
    obtain ⟨v4, s5, h_v4, h⟩ := bnd_s h
    refine callS_i (rest := []) C0 hml hE (c_Pool_farLeftGone l D g RD hR i_v1 i_v3 h_v4) kw_X0_129 ⟨Nat.le_of_ble_eq_true rfl, Nat.le_of_ble_eq_true rfl⟩ rfl hl.1 rfl (Nat.le_of_ble_eq_true rfl) dX0_popped_26 ⟨Nat.zero_le _, Nat.zero_le _⟩ (fun H locs hE ⟨i_v4, hR⟩ => ?_)
    refine lv_istore (lv' := [(5, .int (I v4)), (4, .int (I v2)), (3, .int (I v1)), (0, .ref (g.2 1)), (1, .int (I p1)), (2, .int (I p2))]) C0.1 C0.2.1 dX0_popped_29 hl (by decide) rfl (fun ls hl => ?_)
    refine lv_aload_n C0.1 C0.2.1 dX0_popped_31 rfl (lv_at hl 3 rfl) ?_
    refine lv_iload C0.1 C0.2.1 dX0_popped_32 (lv_at hl 1 rfl) ?_
    refine lv_aload_n C0.1 C0.2.1 dX0_popped_34 rfl (lv_at hl 3 rfl) ?_
    refine lv_iload_n C0.1 C0.2.1 dX0_popped_35 rfl (lv_at hl 4 rfl) ?_
    obtain ⟨v6, h_v6, h⟩ := bndp_s h
    refine callV_i (rest := [.int (I v2), .ref (g.2 1)]) C0 hml hE (Pool_rec C0 hE) (c_Pool_rightOf l D g hR i_p1 h_v6) kw_X0_61 ⟨Nat.le_of_ble_eq_true rfl, Nat.le_of_ble_eq_true rfl⟩ rfl hl.1 rfl (Nat.le_of_ble_eq_true rfl) dX0_popped_36 ⟨Nat.zero_le _, Nat.zero_le _⟩ (fun H locs hE i_v6 => ?_)
    refine lv_iload C0.1 C0.2.1 dX0_popped_39 (lv_at hl 0 rfl) ?_
    refine lv_bipush (v := I 8) C0.1 C0.2.1 dX0_popped_41 (by decide +kernel) ?_
    obtain ⟨v7, s8, h_v7, h⟩ := bnd_s h
    refine callS_i (rest := []) C0 hml hE (c_Pool_sifted l D g RD hR i_v2 i_v6 i_v4 lit_8 h_v7) kw_X0_132 ⟨Nat.le_of_ble_eq_true rfl, Nat.le_of_ble_eq_true rfl⟩ rfl hl.1 rfl (Nat.le_of_ble_eq_true rfl) dX0_popped_43 ⟨Nat.zero_le _, Nat.zero_le _⟩ (fun H locs hE ⟨i_v7, hR⟩ => ?_)
    exact ret_i (wf := wE g) C0 hr hlk hE h i_v7 hR dX0_popped_46
  · have h := ite_f c9 h
    refine lv_iconst (v := I 0) C0.1 C0.2.1 dX0_popped_5 rfl ?_
    exact ret_i (wf := wE g) C0 hr hlk hE h lit_0 hR dX0_popped_6
set_option maxRecDepth 100000 in
set_option maxHeartbeats 4000000 in
theorem c_E_pop (l : Launch) (D : va_G) (g : Ad) {σ σr : St} {p1 p2 r : Int} (hR : R32 σ) (i_p1 : in32 p1) (i_p2 : in32 p2) (h : E_pop σ p1 p2 = some (r, σr)) : CtI l D g yX7_pop cX7_pop 5 (some .int) 17 (wE g σ) (wE g σr) [.ref (g.2 0), .int (I p1), .int (I p2)] r (in32 r ∧ R32 σr) := by
  intro sz
  refine met_of (by decide) (Nat.le_of_ble_eq_true rfl) (fun p e s m args below meth c ls H locs C0 hml hr hlk hE hl => ?_)
  have C0 : CX p c cX7_pop m s args D g RX7 := C0
  have hl : lv_has ls 5 [(0, .ref (g.2 0)), (1, .int (I p1)), (2, .int (I p2))] := hl
  unfold E_pop at h
  refine lv_iload_n C0.1 C0.2.1 dX7_pop_0 rfl (lv_at hl 1 rfl) ?_
  obtain ⟨v1, h_v1, h⟩ := bndp_s h
  refine callS_i (rest := []) C0 hml hE (c_E_isPlace l D g (σ := σ) i_p1 h_v1) kw_X7_86 ⟨Nat.le_of_ble_eq_true rfl, Nat.le_of_ble_eq_true rfl⟩ rfl hl.1 rfl (Nat.le_of_ble_eq_true rfl) dX7_pop_1 ⟨Nat.zero_le _, Nat.zero_le _⟩ (fun H locs hE i_v1 => ?_)
  refine x_if_eq C0 i_v1 dX7_pop_4 (tgt := 14) (by decide) (fun c9 => ?_) (fun c9 => ?_)
  · have h := ite_t c9 h
    refine lv_iconst (v := I (-1)) C0.1 C0.2.1 dX7_pop_14 rfl ?_
    exact ret_i (wf := wE g) C0 hr hlk hE h lit_m1 hR dX7_pop_15
  · have h := ite_f c9 h
    refine lv_iload_n C0.1 C0.2.1 dX7_pop_7 rfl (lv_at hl 2 rfl) ?_
    obtain ⟨v2, h_v2, h⟩ := bndp_s h
    refine callS_i (rest := []) C0 hml hE (c_E_isPlace l D g (σ := σ) i_p2 h_v2) kw_X7_86 ⟨Nat.le_of_ble_eq_true rfl, Nat.le_of_ble_eq_true rfl⟩ rfl hl.1 rfl (Nat.le_of_ble_eq_true rfl) dX7_pop_8 ⟨Nat.zero_le _, Nat.zero_le _⟩ (fun H locs hE i_v2 => ?_)
    refine x_if_ne C0 i_v2 dX7_pop_11 (tgt := 16) (by decide) (fun c9 => ?_) (fun c9 => ?_)
    · have h := ite_f c9 h
      refine lv_aload_n C0.1 C0.2.1 dX7_pop_16 rfl (lv_at hl 0 rfl) ?_
      refine E_g_sizes C0 hE fk_X7_53 dX7_pop_17 ?_
      refine lv_iload_n C0.1 C0.2.1 dX7_pop_20 rfl (lv_at hl 1 rfl) ?_
      obtain ⟨v3, e_v3, i_v3, h⟩ := rd_s hR h
      refine E_sizes_l C0 hE i_p1 e_v3 dX7_pop_21 ?_
      refine lv_istore_n (lv' := [(3, .int (I v3)), (0, .ref (g.2 0)), (1, .int (I p1)), (2, .int (I p2))]) C0.1 C0.2.1 dX7_pop_22 rfl hl (by decide) rfl (fun ls hl => ?_)
      refine lv_iload_n C0.1 C0.2.1 dX7_pop_23 rfl (lv_at hl 0 rfl) ?_
      refine x_if_ne C0 i_v3 dX7_pop_24 (tgt := 30) (by decide) (fun c9 => ?_) (fun c9 => ?_)
      · have h := ite_f c9 h
        refine lv_aload_n C0.1 C0.2.1 dX7_pop_30 rfl (lv_at hl 1 rfl) ?_
        refine E_g_told C0 hE fk_X7_19 dX7_pop_31 ?_
        refine lv_aload_n C0.1 C0.2.1 dX7_pop_34 rfl (lv_at hl 1 rfl) ?_
        refine E_g_pool C0 hE fk_X7_10 dX7_pop_35 ?_
        refine lv_aload_n C0.1 C0.2.1 dX7_pop_38 rfl (lv_at hl 1 rfl) ?_
        refine E_g_trees C0 hE fk_X7_49 dX7_pop_39 ?_
        refine lv_iload_n C0.1 C0.2.1 dX7_pop_42 rfl (lv_at hl 2 rfl) ?_
        obtain ⟨v4, e_v4, i_v4, h⟩ := rd_s hR h
        refine E_trees_l C0 hE i_p1 e_v4 dX7_pop_43 ?_
        obtain ⟨v5, h_v5, h⟩ := bndp_s h
        refine callV_i (rest := [.ref (g.2 2)]) C0 hml hE (Pool_rec C0 hE) (c_Pool_numberOf l D g hR i_v4 h_v5) kw_X7_216 ⟨Nat.le_of_ble_eq_true rfl, Nat.le_of_ble_eq_true rfl⟩ rfl hl.1 rfl (Nat.le_of_ble_eq_true rfl) dX7_pop_44 ⟨Nat.zero_le _, Nat.zero_le _⟩ (fun H locs hE i_v5 => ?_)
        refine x_i2l C0 i_v5 dX7_pop_47 ?_
        obtain ⟨v6, s7, h_v6, h⟩ := bnd_s h
        refine callV_v (rest := []) C0 hml hE (Row_rec C0 hE) (c_Row_tell l D g hR (in64_of i_v5) h_v6) kw_X7_171 ⟨Nat.le_of_ble_eq_true rfl, Nat.le_of_ble_eq_true rfl⟩ rfl hl.1 rfl (Nat.le_of_ble_eq_true rfl) dX7_pop_48 ⟨Nat.zero_le _, Nat.zero_le _⟩ (fun H locs hE hR => ?_)
        refine lv_aload_n C0.1 C0.2.1 dX7_pop_51 rfl (lv_at hl 1 rfl) ?_
        obtain ⟨v8, s9, h_v8, h⟩ := bnd_s h
        refine callV_i (rest := []) C0 hml hE (E_rec C0 hE) (c_E_begin l D g hR h_v8) kw_X7_120 ⟨Nat.le_of_ble_eq_true rfl, Nat.le_of_ble_eq_true rfl⟩ rfl hl.1 rfl (Nat.le_of_ble_eq_true rfl) dX7_pop_52 ⟨Nat.zero_le _, Nat.zero_le _⟩ (fun H locs hE ⟨i_v8, hR⟩ => ?_)
        refine lv_istore (lv' := [(4, .int (I v8)), (3, .int (I v3)), (0, .ref (g.2 0)), (1, .int (I p1)), (2, .int (I p2))]) C0.1 C0.2.1 dX7_pop_55 hl (by decide) rfl (fun ls hl => ?_)
        refine lv_aload_n C0.1 C0.2.1 dX7_pop_57 rfl (lv_at hl 2 rfl) ?_
        refine lv_iload_n C0.1 C0.2.1 dX7_pop_58 rfl (lv_at hl 4 rfl) ?_
        refine lv_aload_n C0.1 C0.2.1 dX7_pop_59 rfl (lv_at hl 2 rfl) ?_
        refine E_g_pool C0 hE fk_X7_10 dX7_pop_60 ?_
        refine lv_aload_n C0.1 C0.2.1 dX7_pop_63 rfl (lv_at hl 2 rfl) ?_
        refine E_g_trees C0 hE fk_X7_49 dX7_pop_64 ?_
        refine lv_iload_n C0.1 C0.2.1 dX7_pop_67 rfl (lv_at hl 3 rfl) ?_
        obtain ⟨v10, e_v10, i_v10, h⟩ := rd_s hR h
        refine E_trees_l C0 hE i_p1 e_v10 dX7_pop_68 ?_
        refine lv_iload_n C0.1 C0.2.1 dX7_pop_69 rfl (lv_at hl 1 rfl) ?_
        obtain ⟨v11, s12, h_v11, h⟩ := bnd_s h
        refine callV_i (rest := [.int (I p2), .ref (g.2 0)]) C0 hml hE (Pool_rec C0 hE) (c_Pool_popped l D g hR i_v10 i_v3 h_v11) kw_X7_245 ⟨Nat.le_of_ble_eq_true rfl, Nat.le_of_ble_eq_true rfl⟩ rfl hl.1 rfl (Nat.le_of_ble_eq_true rfl) dX7_pop_70 ⟨Nat.zero_le _, Nat.zero_le _⟩ (fun H locs hE ⟨i_v11, hR⟩ => ?_)
        refine lv_iload_n C0.1 C0.2.1 dX7_pop_73 rfl (lv_at hl 1 rfl) ?_
        refine lv_iconst (v := I 1) C0.1 C0.2.1 dX7_pop_74 rfl ?_
        obtain ⟨v13, e_v13, i_v13, h⟩ := osub_s h
        refine x_sub C0 e_v13 dX7_pop_75 ?_
        obtain ⟨v14, s15, h_v14, h⟩ := bnd_s h
        refine callV_i (rest := []) C0 hml hE (E_rec C0 hE) (c_E_keep l D g hR i_p2 i_v11 i_v13 h_v14) kw_X7_126 ⟨Nat.le_of_ble_eq_true rfl, Nat.le_of_ble_eq_true rfl⟩ rfl hl.1 rfl (Nat.le_of_ble_eq_true rfl) dX7_pop_76 ⟨Nat.zero_le _, Nat.zero_le _⟩ (fun H locs hE ⟨i_v14, hR⟩ => ?_)
        refine lv_pop C0.1 C0.2.1 dX7_pop_79 rfl ?_
        refine lv_aload_n C0.1 C0.2.1 dX7_pop_80 rfl (lv_at hl 2 rfl) ?_
        refine E_g_pool C0 hE fk_X7_10 dX7_pop_81 ?_
        obtain ⟨v16, e_v16, i_v16, h⟩ := gf_s hR h
        refine Pool_n_made C0 hE e_v16 nk_X7_130 dX7_pop_84 ?_
        refine lv_iload C0.1 C0.2.1 dX7_pop_87 (lv_at hl 0 rfl) ?_
        obtain ⟨v17, e_v17, i_v17, h⟩ := osub_s h
        refine x_sub C0 e_v17 dX7_pop_89 ?_
        exact ret_i (wf := wE g) C0 hr hlk hE h i_v17 hR dX7_pop_90
      · have h := ite_t c9 h
        refine lv_bipush (v := I (-2)) C0.1 C0.2.1 dX7_pop_27 (by decide +kernel) ?_
        exact ret_i (wf := wE g) C0 hr hlk hE h lit_m2 hR dX7_pop_29
    · have h := ite_t c9 h
      refine lv_iconst (v := I (-1)) C0.1 C0.2.1 dX7_pop_14 rfl ?_
      exact ret_i (wf := wE g) C0 hr hlk hE h lit_m1 hR dX7_pop_15
set_option maxRecDepth 100000 in
set_option maxHeartbeats 4000000 in
theorem c_Pool_putAll_one (l : Launch) (D : va_G) (g : Ad) {σ σr : St} {p1 p2 p4 p5 r : Int} (hR : R32 σ) (i_p1 : in32 p1) (i_p2 : in32 p2) (i_p4 : in32 p4) (i_p5 : in32 p5) (h : Pool_putAll_one σ p1 p2 p4 p5 = some (r, σr)) : CtI l D g yX0_putAll cX0_putAll 8 (some .int) 17 (wE g σ) (wE g σr) [.ref (g.2 1), .int (I p1), .int (I p2), .ref (g.2 26), .int (I p4), .int (I p5)] r (in32 r ∧ R32 σr) := by
  intro sz
  refine met_of (by decide) (Nat.le_of_ble_eq_true rfl) (fun p e s m args below meth c ls H locs C0 hml hr hlk hE hl => ?_)
  have C0 : CX p c cX0_putAll m s args D g RX0 := C0
  have hl : lv_has ls 8 [(0, .ref (g.2 1)), (1, .int (I p1)), (2, .int (I p2)), (3, .ref (g.2 26)), (4, .int (I p4)), (5, .int (I p5))] := hl
  unfold Pool_putAll_one at h
  refine lv_iload_n C0.1 C0.2.1 dX0_putAll_0 rfl (lv_at hl 1 rfl) ?_
  refine lv_istore (lv' := [(6, .int (I p1)), (0, .ref (g.2 1)), (1, .int (I p1)), (2, .int (I p2)), (3, .ref (g.2 26)), (4, .int (I p4)), (5, .int (I p5))]) C0.1 C0.2.1 dX0_putAll_1 hl (by decide) rfl (fun ls hl => ?_)
  refine lv_iconst (v := I 0) C0.1 C0.2.1 dX0_putAll_3 rfl ?_
  refine lv_istore (lv' := [(7, .int (I 0)), (6, .int (I p1)), (0, .ref (g.2 1)), (1, .int (I p1)), (2, .int (I p2)), (3, .ref (g.2 26)), (4, .int (I p4)), (5, .int (I p5))]) C0.1 C0.2.1 dX0_putAll_4 hl (by decide) rfl (fun ls hl => ?_)
  have hL6 : ∀ (n : Nat) (s3 : St) (hR : R32 s3) (x1 : Int) (i_x1 : in32 x1) (x2 : Int) (i_x2 : in32 x2) (H : Heap) (locs : List Loc) (ls : Array Slot), EW D (va_A (wE g σ) sz) s.heap (wE g s3) H locs → lv_has ls 8 [(0, .ref (g.2 1)), (2, .int (I p2)), (3, .ref (g.2 26)), (4, .int (I p4)), (5, .int (I p5)), (6, .int (I x1)), (7, .int (I x2))] → Pool_putAll_one_L6 p2 p4 p5 n s3 x1 x2 = some (r, σr) → W p l e (rmk 17) s m args below meth c H locs 0 0 (MQ below (QCi D (wE g σr) r (in32 r ∧ R32 σr) (va_A (wE g σ) sz)) args s 0 0 (va_A (wE g σ) sz)) (F0 m 6 ls []) := by
    intro n
    induction n with
    | zero => intros; rename_i h; cases h
    | succ n ih4 =>
      intro s3 hR x1 i_x1 x2 i_x2 H locs ls hE hl h
      unfold Pool_putAll_one_L6 at h
      refine lv_iload C0.1 C0.2.1 dX0_putAll_6 (lv_at hl 6 rfl) ?_
      refine lv_iload C0.1 C0.2.1 dX0_putAll_8 (lv_at hl 3 rfl) ?_
      refine x_icmp_ge C0 i_x2 i_p4 dX0_putAll_10 (tgt := 37) (by decide) (fun c9 => ?_) (fun c9 => ?_)
      · have h := ite_f c9 h
        refine lv_iload C0.1 C0.2.1 dX0_putAll_37 (lv_at hl 5 rfl) ?_
        exact ret_i (wf := wE g) C0 hr hlk hE h i_x1 hR dX0_putAll_39
      · have h := ite_t c9 h
        refine lv_aload_n C0.1 C0.2.1 dX0_putAll_13 rfl (lv_at hl 0 rfl) ?_
        refine lv_aload_n C0.1 C0.2.1 dX0_putAll_14 rfl (lv_at hl 2 rfl) ?_
        refine lv_iload C0.1 C0.2.1 dX0_putAll_15 (lv_at hl 6 rfl) ?_
        obtain ⟨v5, e_v5, i_v5, h⟩ := rd_s hR h
        refine E_one_l C0 hE i_x2 e_v5 dX0_putAll_17 ?_
        refine lv_iload C0.1 C0.2.1 dX0_putAll_18 (lv_at hl 5 rfl) ?_
        refine lv_iload_n C0.1 C0.2.1 dX0_putAll_20 rfl (lv_at hl 1 rfl) ?_
        refine lv_iload C0.1 C0.2.1 dX0_putAll_21 (lv_at hl 6 rfl) ?_
        obtain ⟨v6, e_v6, i_v6, h⟩ := oadd_s h
        refine x_add C0 e_v6 dX0_putAll_23 ?_
        refine lv_iload C0.1 C0.2.1 dX0_putAll_24 (lv_at hl 4 rfl) ?_
        obtain ⟨v7, s8, h_v7, h⟩ := bnd_s h
        refine callV_i (rest := []) C0 hml hE (Pool_rec C0 hE) (c_Pool_put l D g hR i_v5 i_x1 i_v6 i_p5 h_v7) kw_X0_109 ⟨Nat.le_of_ble_eq_true rfl, Nat.le_of_ble_eq_true rfl⟩ rfl hl.1 rfl (Nat.le_of_ble_eq_true rfl) dX0_putAll_26 ⟨Nat.zero_le _, Nat.zero_le _⟩ (fun H locs hE ⟨i_v7, hR⟩ => ?_)
        refine lv_istore (lv' := [(6, .int (I v7)), (0, .ref (g.2 1)), (2, .int (I p2)), (3, .ref (g.2 26)), (4, .int (I p4)), (5, .int (I p5)), (7, .int (I x2))]) C0.1 C0.2.1 dX0_putAll_29 hl (by decide) rfl (fun ls hl => ?_)
        obtain ⟨v9, e_v9, i_v9, h⟩ := oadd_s h
        refine x_iinc (lv' := [(7, .int (I v9)), (6, .int (I v7)), (0, .ref (g.2 1)), (2, .int (I p2)), (3, .ref (g.2 26)), (4, .int (I p4)), (5, .int (I p5))]) C0 dX0_putAll_31 hl (k := 6) rfl e_v9 (by decide) rfl (fun ls hl => ?_)
        refine x_goto C0 dX0_putAll_34 (tgt := 6) (by decide) ?_
        exact ih4 s8 hR v7 i_v7 v9 i_v9 _ _ _ hE (lv_sub hl [2, 3, 4, 5, 6, 1, 0] rfl) h
  exact hL6 FU σ hR p1 i_p1 0 lit_0 _ _ _ hE (lv_sub hl [2, 4, 5, 6, 7, 1, 0] rfl) h
set_option maxRecDepth 100000 in
set_option maxHeartbeats 4000000 in
theorem c_E_heaps (l : Launch) (D : va_G) (g : Ad) {σ σr : St} {p1 p2 r : Int} (hR : R32 σ) (i_p1 : in32 p1) (i_p2 : in32 p2) (h : E_heaps σ p1 p2 = some (r, σr)) : CtI l D g yX7_heaps cX7_heaps 4 (some .int) 18 (wE g σ) (wE g σr) [.ref (g.2 0), .int (I p1), .int (I p2)] r (in32 r ∧ R32 σr) := by
  intro sz
  refine met_of (by decide) (Nat.le_of_ble_eq_true rfl) (fun p e s m args below meth c ls H locs C0 hml hr hlk hE hl => ?_)
  have C0 : CX p c cX7_heaps m s args D g RX7 := C0
  have hl : lv_has ls 4 [(0, .ref (g.2 0)), (1, .int (I p1)), (2, .int (I p2))] := hl
  unfold E_heaps at h
  refine lv_iload_n C0.1 C0.2.1 dX7_heaps_0 rfl (lv_at hl 1 rfl) ?_
  obtain ⟨v1, h_v1, h⟩ := bndp_s h
  refine callS_i (rest := []) C0 hml hE (c_E_isPlace l D g (σ := σ) i_p1 h_v1) kw_X7_86 ⟨Nat.le_of_ble_eq_true rfl, Nat.le_of_ble_eq_true rfl⟩ rfl hl.1 rfl (Nat.le_of_ble_eq_true rfl) dX7_heaps_1 ⟨Nat.zero_le _, Nat.zero_le _⟩ (fun H locs hE i_v1 => ?_)
  refine x_if_eq C0 i_v1 dX7_heaps_4 (tgt := 14) (by decide) (fun c9 => ?_) (fun c9 => ?_)
  · have h := ite_t c9 h
    refine lv_iconst (v := I (-1)) C0.1 C0.2.1 dX7_heaps_14 rfl ?_
    exact ret_i (wf := wE g) C0 hr hlk hE h lit_m1 hR dX7_heaps_15
  · have h := ite_f c9 h
    refine lv_iload_n C0.1 C0.2.1 dX7_heaps_7 rfl (lv_at hl 2 rfl) ?_
    obtain ⟨v2, h_v2, h⟩ := bndp_s h
    refine callS_i (rest := []) C0 hml hE (c_E_isPlace l D g (σ := σ) i_p2 h_v2) kw_X7_86 ⟨Nat.le_of_ble_eq_true rfl, Nat.le_of_ble_eq_true rfl⟩ rfl hl.1 rfl (Nat.le_of_ble_eq_true rfl) dX7_heaps_8 ⟨Nat.zero_le _, Nat.zero_le _⟩ (fun H locs hE i_v2 => ?_)
    refine x_if_ne C0 i_v2 dX7_heaps_11 (tgt := 16) (by decide) (fun c9 => ?_) (fun c9 => ?_)
    · have h := ite_f c9 h
      refine lv_aload_n C0.1 C0.2.1 dX7_heaps_16 rfl (lv_at hl 0 rfl) ?_
      obtain ⟨v3, s4, h_v3, h⟩ := bnd_s h
      refine callV_i (rest := []) C0 hml hE (E_rec C0 hE) (c_E_begin l D g hR h_v3) kw_X7_120 ⟨Nat.le_of_ble_eq_true rfl, Nat.le_of_ble_eq_true rfl⟩ rfl hl.1 rfl (Nat.le_of_ble_eq_true rfl) dX7_heaps_17 ⟨Nat.zero_le _, Nat.zero_le _⟩ (fun H locs hE ⟨i_v3, hR⟩ => ?_)
      refine lv_istore_n (lv' := [(3, .int (I v3)), (0, .ref (g.2 0)), (1, .int (I p1)), (2, .int (I p2))]) C0.1 C0.2.1 dX7_heaps_20 rfl hl (by decide) rfl (fun ls hl => ?_)
      refine lv_aload_n C0.1 C0.2.1 dX7_heaps_21 rfl (lv_at hl 1 rfl) ?_
      refine E_g_pool C0 hE fk_X7_10 dX7_heaps_22 ?_
      refine lv_aload_n C0.1 C0.2.1 dX7_heaps_25 rfl (lv_at hl 1 rfl) ?_
      refine E_g_trees C0 hE fk_X7_49 dX7_heaps_26 ?_
      refine lv_iload_n C0.1 C0.2.1 dX7_heaps_29 rfl (lv_at hl 2 rfl) ?_
      obtain ⟨v5, e_v5, i_v5, h⟩ := rd_s hR h
      refine E_trees_l C0 hE i_p1 e_v5 dX7_heaps_30 ?_
      refine lv_aload_n C0.1 C0.2.1 dX7_heaps_31 rfl (lv_at hl 1 rfl) ?_
      refine E_g_sizes C0 hE fk_X7_53 dX7_heaps_32 ?_
      refine lv_iload_n C0.1 C0.2.1 dX7_heaps_35 rfl (lv_at hl 2 rfl) ?_
      obtain ⟨v6, e_v6, i_v6, h⟩ := rd_s hR h
      refine E_sizes_l C0 hE i_p1 e_v6 dX7_heaps_36 ?_
      refine lv_aload_n C0.1 C0.2.1 dX7_heaps_37 rfl (lv_at hl 1 rfl) ?_
      refine E_g_one C0 hE fk_X7_56 dX7_heaps_38 ?_
      obtain ⟨v7, s8, h_v7, h⟩ := bnd_s h
      refine callV_v (rest := []) C0 hml hE (Pool_rec C0 hE) (c_Pool_read_one l D g hR i_v5 i_v6 h_v7) kw_X7_201 ⟨Nat.le_of_ble_eq_true rfl, Nat.le_of_ble_eq_true rfl⟩ rfl hl.1 rfl (Nat.le_of_ble_eq_true rfl) dX7_heaps_41 ⟨Nat.zero_le _, Nat.zero_le _⟩ (fun H locs hE hR => ?_)
      refine lv_aload_n C0.1 C0.2.1 dX7_heaps_44 rfl (lv_at hl 1 rfl) ?_
      refine lv_iload_n C0.1 C0.2.1 dX7_heaps_45 rfl (lv_at hl 3 rfl) ?_
      refine lv_aload_n C0.1 C0.2.1 dX7_heaps_46 rfl (lv_at hl 1 rfl) ?_
      refine E_g_pool C0 hE fk_X7_10 dX7_heaps_47 ?_
      refine lv_iconst (v := I 0) C0.1 C0.2.1 dX7_heaps_50 rfl ?_
      refine lv_iconst (v := I 0) C0.1 C0.2.1 dX7_heaps_51 rfl ?_
      refine lv_aload_n C0.1 C0.2.1 dX7_heaps_52 rfl (lv_at hl 1 rfl) ?_
      refine E_g_one C0 hE fk_X7_56 dX7_heaps_53 ?_
      refine lv_aload_n C0.1 C0.2.1 dX7_heaps_56 rfl (lv_at hl 1 rfl) ?_
      refine E_g_sizes C0 hE fk_X7_53 dX7_heaps_57 ?_
      refine lv_iload_n C0.1 C0.2.1 dX7_heaps_60 rfl (lv_at hl 2 rfl) ?_
      obtain ⟨v9, e_v9, i_v9, h⟩ := rd_s hR h
      refine E_sizes_l C0 hE i_p1 e_v9 dX7_heaps_61 ?_
      refine lv_iconst (v := I 4) C0.1 C0.2.1 dX7_heaps_62 rfl ?_
      obtain ⟨v10, s11, h_v10, h⟩ := bnd_s h
      refine callV_i (rest := [.int (I p2), .ref (g.2 0)]) C0 hml hE (Pool_rec C0 hE) (c_Pool_putAll_one l D g hR lit_0 lit_0 i_v9 lit_4 h_v10) kw_X7_212 ⟨Nat.le_of_ble_eq_true rfl, Nat.le_of_ble_eq_true rfl⟩ rfl hl.1 rfl (Nat.le_of_ble_eq_true rfl) dX7_heaps_63 ⟨Nat.zero_le _, Nat.zero_le _⟩ (fun H locs hE ⟨i_v10, hR⟩ => ?_)
      refine lv_aload_n C0.1 C0.2.1 dX7_heaps_66 rfl (lv_at hl 1 rfl) ?_
      refine E_g_sizes C0 hE fk_X7_53 dX7_heaps_67 ?_
      refine lv_iload_n C0.1 C0.2.1 dX7_heaps_70 rfl (lv_at hl 2 rfl) ?_
      obtain ⟨v12, e_v12, i_v12, h⟩ := rd_s hR h
      refine E_sizes_l C0 hE i_p1 e_v12 dX7_heaps_71 ?_
      obtain ⟨v13, s14, h_v13, h⟩ := bnd_s h
      refine callV_i (rest := []) C0 hml hE (E_rec C0 hE) (c_E_keep l D g hR i_p2 i_v10 i_v12 h_v13) kw_X7_126 ⟨Nat.le_of_ble_eq_true rfl, Nat.le_of_ble_eq_true rfl⟩ rfl hl.1 rfl (Nat.le_of_ble_eq_true rfl) dX7_heaps_72 ⟨Nat.zero_le _, Nat.zero_le _⟩ (fun H locs hE ⟨i_v13, hR⟩ => ?_)
      refine lv_pop C0.1 C0.2.1 dX7_heaps_75 rfl ?_
      refine lv_aload_n C0.1 C0.2.1 dX7_heaps_76 rfl (lv_at hl 1 rfl) ?_
      refine E_g_pool C0 hE fk_X7_10 dX7_heaps_77 ?_
      obtain ⟨v15, e_v15, i_v15, h⟩ := gf_s hR h
      refine Pool_n_made C0 hE e_v15 nk_X7_130 dX7_heaps_80 ?_
      refine lv_iload_n C0.1 C0.2.1 dX7_heaps_83 rfl (lv_at hl 0 rfl) ?_
      obtain ⟨v16, e_v16, i_v16, h⟩ := osub_s h
      refine x_sub C0 e_v16 dX7_heaps_84 ?_
      exact ret_i (wf := wE g) C0 hr hlk hE h i_v16 hR dX7_heaps_85
    · have h := ite_t c9 h
      refine lv_iconst (v := I (-1)) C0.1 C0.2.1 dX7_heaps_14 rfl ?_
      exact ret_i (wf := wE g) C0 hr hlk hE h lit_m1 hR dX7_heaps_15
set_option maxRecDepth 100000 in
set_option maxHeartbeats 4000000 in
theorem c_E_numbers (l : Launch) (D : va_G) (g : Ad) {σ σr : St} {p1 p2 r : Int} (hR : R32 σ) (i_p1 : in32 p1) (i_p2 : in32 p2) (h : E_numbers σ p1 p2 = some (r, σr)) : CtI l D g yX7_numbers cX7_numbers 5 (some .int) 5 (wE g σ) (wE g σr) [.ref (g.2 0), .int (I p1), .int (I p2)] r (in32 r ∧ R32 σr) := by
  intro sz
  refine met_of (by decide) (Nat.le_of_ble_eq_true rfl) (fun p e s m args below meth c ls H locs C0 hml hr hlk hE hl => ?_)
  have C0 : CX p c cX7_numbers m s args D g RX7 := C0
  have hl : lv_has ls 5 [(0, .ref (g.2 0)), (1, .int (I p1)), (2, .int (I p2))] := hl
  unfold E_numbers at h
  refine lv_aload_n C0.1 C0.2.1 dX7_numbers_0 rfl (lv_at hl 0 rfl) ?_
  refine lv_iload_n C0.1 C0.2.1 dX7_numbers_1 rfl (lv_at hl 1 rfl) ?_
  refine lv_iconst (v := I 0) C0.1 C0.2.1 dX7_numbers_2 rfl ?_
  refine lv_iload_n C0.1 C0.2.1 dX7_numbers_3 rfl (lv_at hl 2 rfl) ?_
  obtain ⟨v1, h_v1, h⟩ := bndp_s h
  refine callV_i (rest := []) C0 hml hE (E_rec C0 hE) (c_E_isRange l D g hR i_p1 lit_0 i_p2 h_v1) kw_X7_194 ⟨Nat.le_of_ble_eq_true rfl, Nat.le_of_ble_eq_true rfl⟩ rfl hl.1 rfl (Nat.le_of_ble_eq_true rfl) dX7_numbers_4 ⟨Nat.zero_le _, Nat.zero_le _⟩ (fun H locs hE i_v1 => ?_)
  refine x_if_ne C0 i_v1 dX7_numbers_7 (tgt := 12) (by decide) (fun c9 => ?_) (fun c9 => ?_)
  · have h := ite_f c9 h
    refine lv_aload_n C0.1 C0.2.1 dX7_numbers_12 rfl (lv_at hl 0 rfl) ?_
    refine E_g_pool C0 hE fk_X7_10 dX7_numbers_13 ?_
    refine lv_aload_n C0.1 C0.2.1 dX7_numbers_16 rfl (lv_at hl 0 rfl) ?_
    refine E_g_trees C0 hE fk_X7_49 dX7_numbers_17 ?_
    refine lv_iload_n C0.1 C0.2.1 dX7_numbers_20 rfl (lv_at hl 1 rfl) ?_
    obtain ⟨v2, e_v2, i_v2, h⟩ := rd_s hR h
    refine E_trees_l C0 hE i_p1 e_v2 dX7_numbers_21 ?_
    refine lv_aload_n C0.1 C0.2.1 dX7_numbers_22 rfl (lv_at hl 0 rfl) ?_
    refine E_g_sizes C0 hE fk_X7_53 dX7_numbers_23 ?_
    refine lv_iload_n C0.1 C0.2.1 dX7_numbers_26 rfl (lv_at hl 1 rfl) ?_
    obtain ⟨v3, e_v3, i_v3, h⟩ := rd_s hR h
    refine E_sizes_l C0 hE i_p1 e_v3 dX7_numbers_27 ?_
    refine lv_aload_n C0.1 C0.2.1 dX7_numbers_28 rfl (lv_at hl 0 rfl) ?_
    refine E_g_one C0 hE fk_X7_56 dX7_numbers_29 ?_
    obtain ⟨v4, s5, h_v4, h⟩ := bnd_s h
    refine callV_v (rest := []) C0 hml hE (Pool_rec C0 hE) (c_Pool_read_one l D g hR i_v2 i_v3 h_v4) kw_X7_201 ⟨Nat.le_of_ble_eq_true rfl, Nat.le_of_ble_eq_true rfl⟩ rfl hl.1 rfl (Nat.le_of_ble_eq_true rfl) dX7_numbers_32 ⟨Nat.zero_le _, Nat.zero_le _⟩ (fun H locs hE hR => ?_)
    refine lv_bipush (v := I 16) C0.1 C0.2.1 dX7_numbers_35 (by decide +kernel) ?_
    refine lv_aload_n C0.1 C0.2.1 dX7_numbers_37 rfl (lv_at hl 0 rfl) ?_
    refine E_g_sizes C0 hE fk_X7_53 dX7_numbers_38 ?_
    refine lv_iload_n C0.1 C0.2.1 dX7_numbers_41 rfl (lv_at hl 1 rfl) ?_
    obtain ⟨v6, e_v6, i_v6, h⟩ := rd_s hR h
    refine E_sizes_l C0 hE i_p1 e_v6 dX7_numbers_42 ?_
    refine lv_iload_n C0.1 C0.2.1 dX7_numbers_43 rfl (lv_at hl 2 rfl) ?_
    obtain ⟨v7, e_v7, i_v7, h⟩ := osub_s h
    refine x_sub C0 e_v7 dX7_numbers_44 ?_
    obtain ⟨v8, e_v8, i_v8, h⟩ := opure_s h (imin_in lit_16 i_v7)
    refine x_min C0 kw_X7_228 (hml.trans hl.1.symm) lit_16 i_v7 e_v8 ⟨Nat.le_of_ble_eq_true rfl, Nat.le_of_ble_eq_true rfl⟩ ⟨Nat.zero_le _, Nat.zero_le _⟩ dX7_numbers_45 ?_
    refine lv_istore_n (lv' := [(3, .int (I v8)), (0, .ref (g.2 0)), (1, .int (I p1)), (2, .int (I p2))]) C0.1 C0.2.1 dX7_numbers_48 rfl hl (by decide) rfl (fun ls hl => ?_)
    refine lv_aload_n C0.1 C0.2.1 dX7_numbers_49 rfl (lv_at hl 1 rfl) ?_
    refine E_g_told C0 hE fk_X7_19 dX7_numbers_50 ?_
    obtain ⟨v9, s10, h_v9, h⟩ := bnd_s h
    refine callV_v (rest := []) C0 hml hE (Row_rec C0 hE) (c_Row_clear l D g hR h_v9) kw_X7_248 ⟨Nat.le_of_ble_eq_true rfl, Nat.le_of_ble_eq_true rfl⟩ rfl hl.1 rfl (Nat.le_of_ble_eq_true rfl) dX7_numbers_53 ⟨Nat.zero_le _, Nat.zero_le _⟩ (fun H locs hE hR => ?_)
    refine lv_iload_n C0.1 C0.2.1 dX7_numbers_56 rfl (lv_at hl 3 rfl) ?_
    refine lv_istore (lv' := [(4, .int (I p2)), (3, .int (I v8)), (0, .ref (g.2 0)), (1, .int (I p1)), (2, .int (I p2))]) C0.1 C0.2.1 dX7_numbers_57 hl (by decide) rfl (fun ls hl => ?_)
    have hL59 : ∀ (n : Nat) (s12 : St) (hR : R32 s12) (x11 : Int) (i_x11 : in32 x11) (H : Heap) (locs : List Loc) (ls : Array Slot), EW D (va_A (wE g σ) sz) s.heap (wE g s12) H locs → lv_has ls 5 [(0, .ref (g.2 0)), (2, .int (I p2)), (3, .int (I v8)), (4, .int (I x11))] → E_numbers_L59 p2 v8 n s12 x11 = some (r, σr) → W p l e (rmk 5) s m args below meth c H locs 0 0 (MQ below (QCi D (wE g σr) r (in32 r ∧ R32 σr) (va_A (wE g σ) sz)) args s 0 0 (va_A (wE g σ) sz)) (F0 m 59 ls []) := by
      intro n
      induction n with
      | zero => intros; rename_i h; cases h
      | succ n ih13 =>
        intro s12 hR x11 i_x11 H locs ls hE hl h
        unfold E_numbers_L59 at h
        refine lv_iload C0.1 C0.2.1 dX7_numbers_59 (lv_at hl 3 rfl) ?_
        refine lv_iload_n C0.1 C0.2.1 dX7_numbers_61 rfl (lv_at hl 1 rfl) ?_
        refine lv_iload_n C0.1 C0.2.1 dX7_numbers_62 rfl (lv_at hl 2 rfl) ?_
        obtain ⟨v14, e_v14, i_v14, h⟩ := oadd_s h
        refine x_add C0 e_v14 dX7_numbers_63 ?_
        refine x_icmp_ge C0 i_x11 i_v14 dX7_numbers_64 (tgt := 88) (by decide) (fun c9 => ?_) (fun c9 => ?_)
        · have h := ite_f c9 h
          refine lv_iload_n C0.1 C0.2.1 dX7_numbers_88 rfl (lv_at hl 2 rfl) ?_
          exact ret_i (wf := wE g) C0 hr hlk hE h i_v8 hR dX7_numbers_89
        · have h := ite_t c9 h
          refine lv_aload_n C0.1 C0.2.1 dX7_numbers_67 rfl (lv_at hl 0 rfl) ?_
          refine E_g_told C0 hE fk_X7_19 dX7_numbers_68 ?_
          refine lv_aload_n C0.1 C0.2.1 dX7_numbers_71 rfl (lv_at hl 0 rfl) ?_
          refine E_g_one C0 hE fk_X7_56 dX7_numbers_72 ?_
          refine lv_iload C0.1 C0.2.1 dX7_numbers_75 (lv_at hl 3 rfl) ?_
          obtain ⟨v15, e_v15, i_v15, h⟩ := rd_s hR h
          refine E_one_l C0 hE i_x11 e_v15 dX7_numbers_77 ?_
          refine x_i2l C0 i_v15 dX7_numbers_78 ?_
          obtain ⟨v16, s17, h_v16, h⟩ := bnd_s h
          refine callV_v (rest := []) C0 hml hE (Row_rec C0 hE) (c_Row_add l D g hR (in64_of i_v15) h_v16) kw_X7_249 ⟨Nat.le_of_ble_eq_true rfl, Nat.le_of_ble_eq_true rfl⟩ rfl hl.1 rfl (Nat.le_of_ble_eq_true rfl) dX7_numbers_79 ⟨Nat.zero_le _, Nat.zero_le _⟩ (fun H locs hE hR => ?_)
          obtain ⟨v18, e_v18, i_v18, h⟩ := oadd_s h
          refine x_iinc (lv' := [(4, .int (I v18)), (0, .ref (g.2 0)), (2, .int (I p2)), (3, .int (I v8))]) C0 dX7_numbers_82 hl (k := 3) rfl e_v18 (by decide) rfl (fun ls hl => ?_)
          refine x_goto C0 dX7_numbers_85 (tgt := 59) (by decide) ?_
          exact ih13 s17 hR v18 i_v18 _ _ _ hE (lv_sub hl [1, 2, 3, 0] rfl) h
    exact hL59 FU s10 hR p2 i_p2 _ _ _ hE (lv_sub hl [2, 4, 1, 0] rfl) h
  · have h := ite_t c9 h
    refine lv_iconst (v := I (-1)) C0.1 C0.2.1 dX7_numbers_10 rfl ?_
    exact ret_i (wf := wE g) C0 hr hlk hE h lit_m1 hR dX7_numbers_11
set_option maxRecDepth 100000 in
set_option maxHeartbeats 4000000 in
theorem c_E_sum (l : Launch) (D : va_G) (g : Ad) {σ σr : St} {p1 p2 p3 r : Int} (hR : R32 σ) (i_p1 : in32 p1) (i_p2 : in32 p2) (i_p3 : in32 p3) (h : E_sum σ p1 p2 p3 = some (r, σr)) : CtI l D g yX7_sum cX7_sum 8 (some .int) 5 (wE g σ) (wE g σr) [.ref (g.2 0), .int (I p1), .int (I p2), .int (I p3)] r (in32 r ∧ R32 σr) := by
  intro sz
  refine met_of (by decide) (Nat.le_of_ble_eq_true rfl) (fun p e s m args below meth c ls H locs C0 hml hr hlk hE hl => ?_)
  have C0 : CX p c cX7_sum m s args D g RX7 := C0
  have hl : lv_has ls 8 [(0, .ref (g.2 0)), (1, .int (I p1)), (2, .int (I p2)), (3, .int (I p3))] := hl
  unfold E_sum at h
  refine lv_aload_n C0.1 C0.2.1 dX7_sum_0 rfl (lv_at hl 0 rfl) ?_
  refine lv_iload_n C0.1 C0.2.1 dX7_sum_1 rfl (lv_at hl 1 rfl) ?_
  refine lv_iload_n C0.1 C0.2.1 dX7_sum_2 rfl (lv_at hl 2 rfl) ?_
  refine lv_iload_n C0.1 C0.2.1 dX7_sum_3 rfl (lv_at hl 3 rfl) ?_
  obtain ⟨v1, h_v1, h⟩ := bndp_s h
  refine callV_i (rest := []) C0 hml hE (E_rec C0 hE) (c_E_isRange l D g hR i_p1 i_p2 i_p3 h_v1) kw_X7_194 ⟨Nat.le_of_ble_eq_true rfl, Nat.le_of_ble_eq_true rfl⟩ rfl hl.1 rfl (Nat.le_of_ble_eq_true rfl) dX7_sum_4 ⟨Nat.zero_le _, Nat.zero_le _⟩ (fun H locs hE i_v1 => ?_)
  refine x_if_ne C0 i_v1 dX7_sum_7 (tgt := 13) (by decide) (fun c9 => ?_) (fun c9 => ?_)
  · have h := ite_f c9 h
    refine lv_aload_n C0.1 C0.2.1 dX7_sum_13 rfl (lv_at hl 0 rfl) ?_
    refine E_g_pool C0 hE fk_X7_10 dX7_sum_14 ?_
    refine lv_aload_n C0.1 C0.2.1 dX7_sum_17 rfl (lv_at hl 0 rfl) ?_
    refine E_g_trees C0 hE fk_X7_49 dX7_sum_18 ?_
    refine lv_iload_n C0.1 C0.2.1 dX7_sum_21 rfl (lv_at hl 1 rfl) ?_
    obtain ⟨v2, e_v2, i_v2, h⟩ := rd_s hR h
    refine E_trees_l C0 hE i_p1 e_v2 dX7_sum_22 ?_
    refine lv_aload_n C0.1 C0.2.1 dX7_sum_23 rfl (lv_at hl 0 rfl) ?_
    refine E_g_sizes C0 hE fk_X7_53 dX7_sum_24 ?_
    refine lv_iload_n C0.1 C0.2.1 dX7_sum_27 rfl (lv_at hl 1 rfl) ?_
    obtain ⟨v3, e_v3, i_v3, h⟩ := rd_s hR h
    refine E_sizes_l C0 hE i_p1 e_v3 dX7_sum_28 ?_
    refine lv_aload_n C0.1 C0.2.1 dX7_sum_29 rfl (lv_at hl 0 rfl) ?_
    refine E_g_one C0 hE fk_X7_56 dX7_sum_30 ?_
    obtain ⟨v4, s5, h_v4, h⟩ := bnd_s h
    refine callV_v (rest := []) C0 hml hE (Pool_rec C0 hE) (c_Pool_read_one l D g hR i_v2 i_v3 h_v4) kw_X7_201 ⟨Nat.le_of_ble_eq_true rfl, Nat.le_of_ble_eq_true rfl⟩ rfl hl.1 rfl (Nat.le_of_ble_eq_true rfl) dX7_sum_33 ⟨Nat.zero_le _, Nat.zero_le _⟩ (fun H locs hE hR => ?_)
    refine lv_aload_n C0.1 C0.2.1 dX7_sum_36 rfl (lv_at hl 0 rfl) ?_
    refine E_g_told C0 hE fk_X7_19 dX7_sum_37 ?_
    obtain ⟨v6, s7, h_v6, h⟩ := bnd_s h
    refine callV_v (rest := []) C0 hml hE (Row_rec C0 hE) (c_Row_clear l D g hR h_v6) kw_X7_248 ⟨Nat.le_of_ble_eq_true rfl, Nat.le_of_ble_eq_true rfl⟩ rfl hl.1 rfl (Nat.le_of_ble_eq_true rfl) dX7_sum_40 ⟨Nat.zero_le _, Nat.zero_le _⟩ (fun H locs hE hR => ?_)
    refine lv_iload_n C0.1 C0.2.1 dX7_sum_43 rfl (lv_at hl 2 rfl) ?_
    refine lv_iload_n C0.1 C0.2.1 dX7_sum_44 rfl (lv_at hl 3 rfl) ?_
    refine x_icmp_ne C0 i_p2 i_p3 dX7_sum_45 (tgt := 50) (by decide) (fun c9 => ?_) (fun c9 => ?_)
    · have h := ite_f c9 h
      refine lv_iload_n C0.1 C0.2.1 dX7_sum_50 rfl (lv_at hl 2 rfl) ?_
      refine lv_istore (lv' := [(4, .int (I p2)), (0, .ref (g.2 0)), (1, .int (I p1)), (2, .int (I p2)), (3, .int (I p3))]) C0.1 C0.2.1 dX7_sum_51 hl (by decide) rfl (fun ls hl => ?_)
      refine lv_iload_n C0.1 C0.2.1 dX7_sum_53 rfl (lv_at hl 3 rfl) ?_
      refine lv_istore (lv' := [(5, .int (I p2)), (4, .int (I p2)), (0, .ref (g.2 0)), (1, .int (I p1)), (2, .int (I p2)), (3, .int (I p3))]) C0.1 C0.2.1 dX7_sum_54 hl (by decide) rfl (fun ls hl => ?_)
      refine lv_iconst (v := I 0) C0.1 C0.2.1 dX7_sum_56 rfl ?_
      refine lv_istore (lv' := [(6, .int (I 0)), (5, .int (I p2)), (4, .int (I p2)), (0, .ref (g.2 0)), (1, .int (I p1)), (2, .int (I p2)), (3, .int (I p3))]) C0.1 C0.2.1 dX7_sum_57 hl (by decide) rfl (fun ls hl => ?_)
      refine lv_iload_n C0.1 C0.2.1 dX7_sum_59 rfl (lv_at hl 5 rfl) ?_
      refine lv_istore (lv' := [(7, .int (I p2)), (6, .int (I 0)), (5, .int (I p2)), (4, .int (I p2)), (0, .ref (g.2 0)), (1, .int (I p1)), (2, .int (I p2)), (3, .int (I p3))]) C0.1 C0.2.1 dX7_sum_60 hl (by decide) rfl (fun ls hl => ?_)
      obtain ⟨k11, e_k11, h⟩ := jn_s h
      have h_k11 : ∀ (x8 : Int) (i_x8 : in32 x8) (x9 : Int) (i_x9 : in32 x9) (x10 : Int) (i_x10 : in32 x10) (H : Heap) (locs : List Loc) (ls : Array Slot), EW D (va_A (wE g σ) sz) s.heap (wE g s7) H locs → lv_has ls 8 [(0, .ref (g.2 0)), (4, .int (I x8)), (5, .int (I x9)), (6, .int (I x10))] → k11 x8 x9 x10 = some (r, σr) → W p l e (rmk 5) s m args below meth c H locs 0 0 (MQ below (QCi D (wE g σr) r (in32 r ∧ R32 σr) (va_A (wE g σ) sz)) args s 0 0 (va_A (wE g σ) sz)) (F0 m 138 ls []) := by
        intro x8 i_x8 x9 i_x9 x10 i_x10 H locs ls hE hl h
        have h := (congrFun (congrFun (congrFun e_k11 x8) x9) x10).symm.trans h
        refine lv_aload_n C0.1 C0.2.1 dX7_sum_138 rfl (lv_at hl 0 rfl) ?_
        refine E_g_told C0 hE fk_X7_19 dX7_sum_139 ?_
        refine lv_aload_n C0.1 C0.2.1 dX7_sum_142 rfl (lv_at hl 0 rfl) ?_
        refine E_g_one C0 hE fk_X7_56 dX7_sum_143 ?_
        refine lv_iload C0.1 C0.2.1 dX7_sum_146 (lv_at hl 1 rfl) ?_
        obtain ⟨v12, e_v12, i_v12, h⟩ := rd_s hR h
        refine E_one_l C0 hE i_x8 e_v12 dX7_sum_148 ?_
        refine x_i2l C0 i_v12 dX7_sum_149 ?_
        refine lv_aload_n C0.1 C0.2.1 dX7_sum_150 rfl (lv_at hl 0 rfl) ?_
        refine E_g_one C0 hE fk_X7_56 dX7_sum_151 ?_
        refine lv_iload C0.1 C0.2.1 dX7_sum_154 (lv_at hl 2 rfl) ?_
        obtain ⟨v13, e_v13, i_v13, h⟩ := rd_s hR h
        refine E_one_l C0 hE i_x9 e_v13 dX7_sum_156 ?_
        refine x_i2l C0 i_v13 dX7_sum_157 ?_
        obtain ⟨v14, s15, h_v14, h⟩ := bnd_s h
        refine callV_v (rest := []) C0 hml hE (Row_rec C0 hE) (c_Row_tell1 l D g hR (in64_of i_v12) (in64_of i_v13) h_v14) kw_X7_162 ⟨Nat.le_of_ble_eq_true rfl, Nat.le_of_ble_eq_true rfl⟩ rfl hl.1 rfl (Nat.le_of_ble_eq_true rfl) dX7_sum_158 ⟨Nat.zero_le _, Nat.zero_le _⟩ (fun H locs hE hR => ?_)
        refine lv_aload_n C0.1 C0.2.1 dX7_sum_161 rfl (lv_at hl 0 rfl) ?_
        refine E_g_told C0 hE fk_X7_19 dX7_sum_162 ?_
        refine lv_iload C0.1 C0.2.1 dX7_sum_165 (lv_at hl 1 rfl) ?_
        refine x_i2l C0 i_x8 dX7_sum_167 ?_
        obtain ⟨v16, s17, h_v16, h⟩ := bnd_s h
        refine callV_v (rest := []) C0 hml hE (Row_rec C0 hE) (c_Row_add l D g hR (in64_of i_x8) h_v16) kw_X7_249 ⟨Nat.le_of_ble_eq_true rfl, Nat.le_of_ble_eq_true rfl⟩ rfl hl.1 rfl (Nat.le_of_ble_eq_true rfl) dX7_sum_168 ⟨Nat.zero_le _, Nat.zero_le _⟩ (fun H locs hE hR => ?_)
        refine lv_aload_n C0.1 C0.2.1 dX7_sum_171 rfl (lv_at hl 0 rfl) ?_
        refine E_g_told C0 hE fk_X7_19 dX7_sum_172 ?_
        refine lv_iload C0.1 C0.2.1 dX7_sum_175 (lv_at hl 2 rfl) ?_
        refine x_i2l C0 i_x9 dX7_sum_177 ?_
        obtain ⟨v18, s19, h_v18, h⟩ := bnd_s h
        refine callV_v (rest := []) C0 hml hE (Row_rec C0 hE) (c_Row_add l D g hR (in64_of i_x9) h_v18) kw_X7_249 ⟨Nat.le_of_ble_eq_true rfl, Nat.le_of_ble_eq_true rfl⟩ rfl hl.1 rfl (Nat.le_of_ble_eq_true rfl) dX7_sum_178 ⟨Nat.zero_le _, Nat.zero_le _⟩ (fun H locs hE hR => ?_)
        refine lv_iload C0.1 C0.2.1 dX7_sum_181 (lv_at hl 3 rfl) ?_
        exact ret_i (wf := wE g) C0 hr hlk hE h i_x10 hR dX7_sum_183
      have hL62 : ∀ (n : Nat) (x20 : Int) (i_x20 : in32 x20) (x21 : Int) (i_x21 : in32 x21) (x22 : Int) (i_x22 : in32 x22) (x23 : Int) (i_x23 : in32 x23) (H : Heap) (locs : List Loc) (ls : Array Slot), EW D (va_A (wE g σ) sz) s.heap (wE g s7) H locs → lv_has ls 8 [(0, .ref (g.2 0)), (3, .int (I p3)), (4, .int (I x20)), (5, .int (I x21)), (6, .int (I x22)), (7, .int (I x23))] → E_sum_L62 k11 s7 p3 n x20 x21 x22 x23 = some (r, σr) → W p l e (rmk 5) s m args below meth c H locs 0 0 (MQ below (QCi D (wE g σr) r (in32 r ∧ R32 σr) (va_A (wE g σ) sz)) args s 0 0 (va_A (wE g σ) sz)) (F0 m 62 ls []) := by
        intro n
        induction n with
        | zero => intros; rename_i h; cases h
        | succ n ih24 =>
          intro x20 i_x20 x21 i_x21 x22 i_x22 x23 i_x23 H locs ls hE hl h
          unfold E_sum_L62 at h
          refine lv_iload C0.1 C0.2.1 dX7_sum_62 (lv_at hl 5 rfl) ?_
          refine lv_iload_n C0.1 C0.2.1 dX7_sum_64 rfl (lv_at hl 1 rfl) ?_
          refine x_icmp_ge C0 i_x23 i_p3 dX7_sum_65 (tgt := 138) (by decide) (fun c9 => ?_) (fun c9 => ?_)
          · have h := ite_f c9 h
            exact h_k11 x20 i_x20 x21 i_x21 x22 i_x22 _ _ _ hE (lv_sub hl [0, 2, 3, 4] rfl) h
          · have h := ite_t c9 h
            refine lv_iload C0.1 C0.2.1 dX7_sum_68 (lv_at hl 4 rfl) ?_
            refine lv_aload_n C0.1 C0.2.1 dX7_sum_70 rfl (lv_at hl 0 rfl) ?_
            refine E_g_one C0 hE fk_X7_56 dX7_sum_71 ?_
            refine lv_iload C0.1 C0.2.1 dX7_sum_74 (lv_at hl 5 rfl) ?_
            obtain ⟨v25, e_v25, i_v25, h⟩ := rd_s hR h
            refine E_one_l C0 hE i_x23 e_v25 dX7_sum_76 ?_
            obtain ⟨v26, e_v26, i_v26, h⟩ := oadd_s h
            refine x_add C0 e_v26 dX7_sum_77 ?_
            refine lv_istore (lv' := [(6, .int (I v26)), (0, .ref (g.2 0)), (3, .int (I p3)), (4, .int (I x20)), (5, .int (I x21)), (7, .int (I x23))]) C0.1 C0.2.1 dX7_sum_78 hl (by decide) rfl (fun ls hl => ?_)
            refine lv_aload_n C0.1 C0.2.1 dX7_sum_80 rfl (lv_at hl 1 rfl) ?_
            refine E_g_one C0 hE fk_X7_56 dX7_sum_81 ?_
            refine lv_iload C0.1 C0.2.1 dX7_sum_84 (lv_at hl 5 rfl) ?_
            obtain ⟨v27, e_v27, i_v27, h⟩ := rd_s hR h
            refine E_one_l C0 hE i_x23 e_v27 dX7_sum_86 ?_
            refine lv_aload_n C0.1 C0.2.1 dX7_sum_87 rfl (lv_at hl 1 rfl) ?_
            refine E_g_one C0 hE fk_X7_56 dX7_sum_88 ?_
            refine lv_iload C0.1 C0.2.1 dX7_sum_91 (lv_at hl 3 rfl) ?_
            obtain ⟨v28, e_v28, i_v28, h⟩ := rd_s hR h
            refine E_one_l C0 hE i_x20 e_v28 dX7_sum_93 ?_
            obtain ⟨v29, e_v29, i_v29, h⟩ := oif_s h
            have kk_v29 : W p l e (rmk 5) s m args below meth c H locs 0 0 (MQ below (QCi D (wE g σr) r (in32 r ∧ R32 σr) (va_A (wE g σ) sz)) args s 0 0 (va_A (wE g σ) sz)) (F0 m 104 ls [.int (I v29)]) := by
              refine lv_istore (lv' := [(4, .int (I v29)), (6, .int (I v26)), (0, .ref (g.2 0)), (3, .int (I p3)), (5, .int (I x21)), (7, .int (I x23))]) C0.1 C0.2.1 dX7_sum_104 hl (by decide) rfl (fun ls hl => ?_)
              refine lv_aload_n C0.1 C0.2.1 dX7_sum_106 rfl (lv_at hl 2 rfl) ?_
              refine E_g_one C0 hE fk_X7_56 dX7_sum_107 ?_
              refine lv_iload C0.1 C0.2.1 dX7_sum_110 (lv_at hl 5 rfl) ?_
              obtain ⟨v30, e_v30, i_v30, h⟩ := rd_s hR h
              refine E_one_l C0 hE i_x23 e_v30 dX7_sum_112 ?_
              refine lv_aload_n C0.1 C0.2.1 dX7_sum_113 rfl (lv_at hl 2 rfl) ?_
              refine E_g_one C0 hE fk_X7_56 dX7_sum_114 ?_
              refine lv_iload C0.1 C0.2.1 dX7_sum_117 (lv_at hl 4 rfl) ?_
              obtain ⟨v31, e_v31, i_v31, h⟩ := rd_s hR h
              refine E_one_l C0 hE i_x21 e_v31 dX7_sum_119 ?_
              obtain ⟨v32, e_v32, i_v32, h⟩ := oif_s h
              have kk_v32 : W p l e (rmk 5) s m args below meth c H locs 0 0 (MQ below (QCi D (wE g σr) r (in32 r ∧ R32 σr) (va_A (wE g σ) sz)) args s 0 0 (va_A (wE g σ) sz)) (F0 m 130 ls [.int (I v32)]) := by
                refine lv_istore (lv' := [(5, .int (I v32)), (4, .int (I v29)), (6, .int (I v26)), (0, .ref (g.2 0)), (3, .int (I p3)), (7, .int (I x23))]) C0.1 C0.2.1 dX7_sum_130 hl (by decide) rfl (fun ls hl => ?_)
                obtain ⟨v33, e_v33, i_v33, h⟩ := oadd_s h
                refine x_iinc (lv' := [(7, .int (I v33)), (5, .int (I v32)), (4, .int (I v29)), (6, .int (I v26)), (0, .ref (g.2 0)), (3, .int (I p3))]) C0 dX7_sum_132 hl (k := 5) rfl e_v33 (by decide) rfl (fun ls hl => ?_)
                refine x_goto C0 dX7_sum_135 (tgt := 62) (by decide) ?_
                exact ih24 v29 i_v29 v32 i_v32 v26 i_v26 v33 i_v33 _ _ _ hE (lv_sub hl [4, 5, 2, 1, 3, 0] rfl) h
              refine x_icmp_le C0 i_v30 i_v31 dX7_sum_120 (tgt := 128) (by decide) (fun c9 => ?_) (fun c9 => ?_)
              · have e9 := e_v32.trans (if_neg c9)
                refine lv_iload C0.1 C0.2.1 dX7_sum_128 (lv_at hl 4 rfl) ?_
                rw [e9] at kk_v32; exact kk_v32
              · have e9 := e_v32.trans (if_pos c9)
                refine lv_iload C0.1 C0.2.1 dX7_sum_123 (lv_at hl 5 rfl) ?_
                refine x_goto C0 dX7_sum_125 (tgt := 130) (by decide) ?_
                rw [e9] at kk_v32; exact kk_v32
            refine x_icmp_ge C0 i_v27 i_v28 dX7_sum_94 (tgt := 102) (by decide) (fun c9 => ?_) (fun c9 => ?_)
            · have e9 := e_v29.trans (if_neg c9)
              refine lv_iload C0.1 C0.2.1 dX7_sum_102 (lv_at hl 3 rfl) ?_
              rw [e9] at kk_v29; exact kk_v29
            · have e9 := e_v29.trans (if_pos c9)
              refine lv_iload C0.1 C0.2.1 dX7_sum_97 (lv_at hl 5 rfl) ?_
              refine x_goto C0 dX7_sum_99 (tgt := 104) (by decide) ?_
              rw [e9] at kk_v29; exact kk_v29
      exact hL62 FU p2 i_p2 p2 i_p2 0 lit_0 p2 i_p2 _ _ _ hE (lv_sub hl [4, 7, 3, 2, 1, 0] rfl) h
    · have h := ite_t c9 h
      refine lv_iconst (v := I 0) C0.1 C0.2.1 dX7_sum_48 rfl ?_
      exact ret_i (wf := wE g) C0 hr hlk hE h lit_0 hR dX7_sum_49
  · have h := ite_t c9 h
    refine x_ldc (v := (-1000000)) C0 ck_X7_252 (by decide +kernel) dX7_sum_10 ?_
    exact ret_i (wf := wE g) C0 hr hlk hE h lit_m1000000 hR dX7_sum_12
set_option maxRecDepth 100000 in
set_option maxHeartbeats 4000000 in
theorem c_E_finds (l : Launch) (D : va_G) (g : Ad) {σ σr : St} {p1 p2 r : Int} (hR : R32 σ) (i_p1 : in32 p1) (i_p2 : in32 p2) (h : E_finds σ p1 p2 = some (r, σr)) : CtI l D g yX7_finds cX7_finds 7 (some .int) 5 (wE g σ) (wE g σr) [.ref (g.2 0), .int (I p1), .int (I p2)] r (in32 r ∧ R32 σr) := by
  intro sz
  refine met_of (by decide) (Nat.le_of_ble_eq_true rfl) (fun p e s m args below meth c ls H locs C0 hml hr hlk hE hl => ?_)
  have C0 : CX p c cX7_finds m s args D g RX7 := C0
  have hl : lv_has ls 7 [(0, .ref (g.2 0)), (1, .int (I p1)), (2, .int (I p2))] := hl
  unfold E_finds at h
  refine lv_iload_n C0.1 C0.2.1 dX7_finds_0 rfl (lv_at hl 1 rfl) ?_
  obtain ⟨v1, h_v1, h⟩ := bndp_s h
  refine callS_i (rest := []) C0 hml hE (c_E_isPlace l D g (σ := σ) i_p1 h_v1) kw_X7_86 ⟨Nat.le_of_ble_eq_true rfl, Nat.le_of_ble_eq_true rfl⟩ rfl hl.1 rfl (Nat.le_of_ble_eq_true rfl) dX7_finds_1 ⟨Nat.zero_le _, Nat.zero_le _⟩ (fun H locs hE i_v1 => ?_)
  refine x_if_eq C0 i_v1 dX7_finds_4 (tgt := 14) (by decide) (fun c9 => ?_) (fun c9 => ?_)
  · have h := ite_t c9 h
    refine lv_iconst (v := I (-1)) C0.1 C0.2.1 dX7_finds_14 rfl ?_
    exact ret_i (wf := wE g) C0 hr hlk hE h lit_m1 hR dX7_finds_15
  · have h := ite_f c9 h
    refine lv_iload_n C0.1 C0.2.1 dX7_finds_7 rfl (lv_at hl 2 rfl) ?_
    obtain ⟨v2, h_v2, h⟩ := bndp_s h
    refine callS_i (rest := []) C0 hml hE (c_E_isNumber l D g (σ := σ) i_p2 h_v2) kw_X7_117 ⟨Nat.le_of_ble_eq_true rfl, Nat.le_of_ble_eq_true rfl⟩ rfl hl.1 rfl (Nat.le_of_ble_eq_true rfl) dX7_finds_8 ⟨Nat.zero_le _, Nat.zero_le _⟩ (fun H locs hE i_v2 => ?_)
    refine x_if_ne C0 i_v2 dX7_finds_11 (tgt := 16) (by decide) (fun c9 => ?_) (fun c9 => ?_)
    · have h := ite_f c9 h
      refine lv_aload_n C0.1 C0.2.1 dX7_finds_16 rfl (lv_at hl 0 rfl) ?_
      refine E_g_pool C0 hE fk_X7_10 dX7_finds_17 ?_
      refine lv_aload_n C0.1 C0.2.1 dX7_finds_20 rfl (lv_at hl 0 rfl) ?_
      refine E_g_trees C0 hE fk_X7_49 dX7_finds_21 ?_
      refine lv_iload_n C0.1 C0.2.1 dX7_finds_24 rfl (lv_at hl 1 rfl) ?_
      obtain ⟨v3, e_v3, i_v3, h⟩ := rd_s hR h
      refine E_trees_l C0 hE i_p1 e_v3 dX7_finds_25 ?_
      refine lv_aload_n C0.1 C0.2.1 dX7_finds_26 rfl (lv_at hl 0 rfl) ?_
      refine E_g_sizes C0 hE fk_X7_53 dX7_finds_27 ?_
      refine lv_iload_n C0.1 C0.2.1 dX7_finds_30 rfl (lv_at hl 1 rfl) ?_
      obtain ⟨v4, e_v4, i_v4, h⟩ := rd_s hR h
      refine E_sizes_l C0 hE i_p1 e_v4 dX7_finds_31 ?_
      refine lv_aload_n C0.1 C0.2.1 dX7_finds_32 rfl (lv_at hl 0 rfl) ?_
      refine E_g_one C0 hE fk_X7_56 dX7_finds_33 ?_
      obtain ⟨v5, s6, h_v5, h⟩ := bnd_s h
      refine callV_v (rest := []) C0 hml hE (Pool_rec C0 hE) (c_Pool_read_one l D g hR i_v3 i_v4 h_v5) kw_X7_201 ⟨Nat.le_of_ble_eq_true rfl, Nat.le_of_ble_eq_true rfl⟩ rfl hl.1 rfl (Nat.le_of_ble_eq_true rfl) dX7_finds_36 ⟨Nat.zero_le _, Nat.zero_le _⟩ (fun H locs hE hR => ?_)
      refine lv_iconst (v := I 0) C0.1 C0.2.1 dX7_finds_39 rfl ?_
      refine lv_istore_n (lv' := [(3, .int (I 0)), (0, .ref (g.2 0)), (1, .int (I p1)), (2, .int (I p2))]) C0.1 C0.2.1 dX7_finds_40 rfl hl (by decide) rfl (fun ls hl => ?_)
      refine lv_iconst (v := I (-1)) C0.1 C0.2.1 dX7_finds_41 rfl ?_
      refine lv_istore (lv' := [(4, .int (I (-1))), (3, .int (I 0)), (0, .ref (g.2 0)), (1, .int (I p1)), (2, .int (I p2))]) C0.1 C0.2.1 dX7_finds_42 hl (by decide) rfl (fun ls hl => ?_)
      refine lv_iconst (v := I (-1)) C0.1 C0.2.1 dX7_finds_44 rfl ?_
      refine lv_istore (lv' := [(5, .int (I (-1))), (4, .int (I (-1))), (3, .int (I 0)), (0, .ref (g.2 0)), (1, .int (I p1)), (2, .int (I p2))]) C0.1 C0.2.1 dX7_finds_45 hl (by decide) rfl (fun ls hl => ?_)
      refine lv_iconst (v := I 0) C0.1 C0.2.1 dX7_finds_47 rfl ?_
      refine lv_istore (lv' := [(6, .int (I 0)), (5, .int (I (-1))), (4, .int (I (-1))), (3, .int (I 0)), (0, .ref (g.2 0)), (1, .int (I p1)), (2, .int (I p2))]) C0.1 C0.2.1 dX7_finds_48 hl (by decide) rfl (fun ls hl => ?_)
      obtain ⟨k10, e_k10, h⟩ := jn_s h
      have h_k10 : ∀ (x7 : Int) (i_x7 : in32 x7) (x8 : Int) (i_x8 : in32 x8) (x9 : Int) (i_x9 : in32 x9) (H : Heap) (locs : List Loc) (ls : Array Slot), EW D (va_A (wE g σ) sz) s.heap (wE g s6) H locs → lv_has ls 7 [(0, .ref (g.2 0)), (3, .int (I x7)), (4, .int (I x8)), (5, .int (I x9))] → k10 x7 x8 x9 = some (r, σr) → W p l e (rmk 5) s m args below meth c H locs 0 0 (MQ below (QCi D (wE g σr) r (in32 r ∧ R32 σr) (va_A (wE g σ) sz)) args s 0 0 (va_A (wE g σ) sz)) (F0 m 98 ls []) := by
        intro x7 i_x7 x8 i_x8 x9 i_x9 H locs ls hE hl h
        have h := (congrFun (congrFun (congrFun e_k10 x7) x8) x9).symm.trans h
        refine lv_iload_n C0.1 C0.2.1 dX7_finds_98 rfl (lv_at hl 1 rfl) ?_
        refine x_if_ne C0 i_x7 dX7_finds_99 (tgt := 105) (by decide) (fun c9 => ?_) (fun c9 => ?_)
        · have h := ite_f c9 h
          refine lv_aload_n C0.1 C0.2.1 dX7_finds_105 rfl (lv_at hl 0 rfl) ?_
          refine E_g_told C0 hE fk_X7_19 dX7_finds_106 ?_
          refine lv_iload_n C0.1 C0.2.1 dX7_finds_109 rfl (lv_at hl 1 rfl) ?_
          refine x_i2l C0 i_x7 dX7_finds_110 ?_
          refine lv_iload C0.1 C0.2.1 dX7_finds_111 (lv_at hl 3 rfl) ?_
          refine x_i2l C0 i_x9 dX7_finds_113 ?_
          obtain ⟨v11, s12, h_v11, h⟩ := bnd_s h
          refine callV_v (rest := []) C0 hml hE (Row_rec C0 hE) (c_Row_tell1 l D g hR (in64_of i_x7) (in64_of i_x9) h_v11) kw_X7_162 ⟨Nat.le_of_ble_eq_true rfl, Nat.le_of_ble_eq_true rfl⟩ rfl hl.1 rfl (Nat.le_of_ble_eq_true rfl) dX7_finds_114 ⟨Nat.zero_le _, Nat.zero_le _⟩ (fun H locs hE hR => ?_)
          refine lv_iload C0.1 C0.2.1 dX7_finds_117 (lv_at hl 2 rfl) ?_
          exact ret_i (wf := wE g) C0 hr hlk hE h i_x8 hR dX7_finds_119
        · have h := ite_t c9 h
          refine lv_bipush (v := I (-2)) C0.1 C0.2.1 dX7_finds_102 (by decide +kernel) ?_
          exact ret_i (wf := wE g) C0 hr hlk hE h lit_m2 hR dX7_finds_104
      have hL50 : ∀ (n : Nat) (x13 : Int) (i_x13 : in32 x13) (x14 : Int) (i_x14 : in32 x14) (x15 : Int) (i_x15 : in32 x15) (x16 : Int) (i_x16 : in32 x16) (H : Heap) (locs : List Loc) (ls : Array Slot), EW D (va_A (wE g σ) sz) s.heap (wE g s6) H locs → lv_has ls 7 [(0, .ref (g.2 0)), (1, .int (I p1)), (2, .int (I p2)), (3, .int (I x13)), (4, .int (I x14)), (5, .int (I x15)), (6, .int (I x16))] → E_finds_L50 k10 s6 p1 p2 n x13 x14 x15 x16 = some (r, σr) → W p l e (rmk 5) s m args below meth c H locs 0 0 (MQ below (QCi D (wE g σr) r (in32 r ∧ R32 σr) (va_A (wE g σ) sz)) args s 0 0 (va_A (wE g σ) sz)) (F0 m 50 ls []) := by
        intro n
        induction n with
        | zero => intros; rename_i h; cases h
        | succ n ih17 =>
          intro x13 i_x13 x14 i_x14 x15 i_x15 x16 i_x16 H locs ls hE hl h
          unfold E_finds_L50 at h
          refine lv_iload C0.1 C0.2.1 dX7_finds_50 (lv_at hl 6 rfl) ?_
          refine lv_aload_n C0.1 C0.2.1 dX7_finds_52 rfl (lv_at hl 0 rfl) ?_
          refine E_g_sizes C0 hE fk_X7_53 dX7_finds_53 ?_
          refine lv_iload_n C0.1 C0.2.1 dX7_finds_56 rfl (lv_at hl 1 rfl) ?_
          obtain ⟨v18, e_v18, i_v18, h⟩ := rd_s hR h
          refine E_sizes_l C0 hE i_p1 e_v18 dX7_finds_57 ?_
          refine x_icmp_ge C0 i_x16 i_v18 dX7_finds_58 (tgt := 98) (by decide) (fun c9 => ?_) (fun c9 => ?_)
          · have h := ite_f c9 h
            exact h_k10 x13 i_x13 x14 i_x14 x15 i_x15 _ _ _ hE (lv_sub hl [0, 3, 4, 5] rfl) h
          · have h := ite_t c9 h
            refine lv_aload_n C0.1 C0.2.1 dX7_finds_61 rfl (lv_at hl 0 rfl) ?_
            refine E_g_one C0 hE fk_X7_56 dX7_finds_62 ?_
            refine lv_iload C0.1 C0.2.1 dX7_finds_65 (lv_at hl 6 rfl) ?_
            obtain ⟨v19, e_v19, i_v19, h⟩ := rd_s hR h
            refine E_one_l C0 hE i_x16 e_v19 dX7_finds_67 ?_
            refine lv_iload_n C0.1 C0.2.1 dX7_finds_68 rfl (lv_at hl 2 rfl) ?_
            obtain ⟨k23, e_k23, h⟩ := jn_s h
            have h_k23 : ∀ (x20 : Int) (i_x20 : in32 x20) (x21 : Int) (i_x21 : in32 x21) (x22 : Int) (i_x22 : in32 x22) (H : Heap) (locs : List Loc) (ls : Array Slot), EW D (va_A (wE g σ) sz) s.heap (wE g s6) H locs → lv_has ls 7 [(0, .ref (g.2 0)), (1, .int (I p1)), (2, .int (I p2)), (3, .int (I x20)), (4, .int (I x21)), (5, .int (I x22)), (6, .int (I x16))] → k23 x20 x21 x22 = some (r, σr) → W p l e (rmk 5) s m args below meth c H locs 0 0 (MQ below (QCi D (wE g σr) r (in32 r ∧ R32 σr) (va_A (wE g σ) sz)) args s 0 0 (va_A (wE g σ) sz)) (F0 m 92 ls []) := by
              intro x20 i_x20 x21 i_x21 x22 i_x22 H locs ls hE hl h
              have h := (congrFun (congrFun (congrFun e_k23 x20) x21) x22).symm.trans h
              obtain ⟨v24, e_v24, i_v24, h⟩ := oadd_s h
              refine x_iinc (lv' := [(6, .int (I v24)), (0, .ref (g.2 0)), (1, .int (I p1)), (2, .int (I p2)), (3, .int (I x20)), (4, .int (I x21)), (5, .int (I x22))]) C0 dX7_finds_92 hl (k := 6) rfl e_v24 (by decide) rfl (fun ls hl => ?_)
              refine x_goto C0 dX7_finds_95 (tgt := 50) (by decide) ?_
              exact ih17 x20 i_x20 x21 i_x21 x22 i_x22 v24 i_v24 _ _ _ hE (lv_sub hl [1, 2, 3, 4, 5, 6, 0] rfl) h
            refine x_icmp_ne C0 i_v19 i_p2 dX7_finds_69 (tgt := 92) (by decide) (fun c9 => ?_) (fun c9 => ?_)
            · have h := ite_f c9 h
              exact h_k23 x13 i_x13 x14 i_x14 x15 i_x15 _ _ _ hE (lv_sub hl [0, 1, 2, 3, 4, 5, 6] rfl) h
            · have h := ite_t c9 h
              refine lv_iload_n C0.1 C0.2.1 dX7_finds_72 rfl (lv_at hl 3 rfl) ?_
              obtain ⟨v25, e_v25, i_v25, h⟩ := oif_s h
              have kk_v25 : W p l e (rmk 5) s m args below meth c H locs 0 0 (MQ below (QCi D (wE g σr) r (in32 r ∧ R32 σr) (va_A (wE g σ) sz)) args s 0 0 (va_A (wE g σ) sz)) (F0 m 83 ls [.int (I v25)]) := by
                refine lv_istore (lv' := [(4, .int (I v25)), (0, .ref (g.2 0)), (1, .int (I p1)), (2, .int (I p2)), (3, .int (I x13)), (5, .int (I x15)), (6, .int (I x16))]) C0.1 C0.2.1 dX7_finds_83 hl (by decide) rfl (fun ls hl => ?_)
                refine lv_iload C0.1 C0.2.1 dX7_finds_85 (lv_at hl 6 rfl) ?_
                refine lv_istore (lv' := [(5, .int (I x16)), (4, .int (I v25)), (0, .ref (g.2 0)), (1, .int (I p1)), (2, .int (I p2)), (3, .int (I x13)), (6, .int (I x16))]) C0.1 C0.2.1 dX7_finds_87 hl (by decide) rfl (fun ls hl => ?_)
                obtain ⟨v26, e_v26, i_v26, h⟩ := oadd_s h
                refine x_iinc (lv' := [(3, .int (I v26)), (5, .int (I x16)), (4, .int (I v25)), (0, .ref (g.2 0)), (1, .int (I p1)), (2, .int (I p2)), (6, .int (I x16))]) C0 dX7_finds_89 hl (k := 5) rfl e_v26 (by decide) rfl (fun ls hl => ?_)
                exact h_k23 v26 i_v26 v25 i_v25 x16 i_x16 _ _ _ hE (lv_sub hl [3, 4, 5, 0, 2, 1, 6] rfl) h
              refine x_if_ne C0 i_x13 dX7_finds_73 (tgt := 81) (by decide) (fun c9 => ?_) (fun c9 => ?_)
              · have e9 := e_v25.trans (if_neg c9)
                refine lv_iload C0.1 C0.2.1 dX7_finds_81 (lv_at hl 4 rfl) ?_
                rw [e9] at kk_v25; exact kk_v25
              · have e9 := e_v25.trans (if_pos c9)
                refine lv_iload C0.1 C0.2.1 dX7_finds_76 (lv_at hl 6 rfl) ?_
                refine x_goto C0 dX7_finds_78 (tgt := 83) (by decide) ?_
                rw [e9] at kk_v25; exact kk_v25
      exact hL50 FU 0 lit_0 (-1) lit_m1 (-1) lit_m1 0 lit_0 _ _ _ hE (lv_sub hl [4, 5, 6, 3, 2, 1, 0] rfl) h
    · have h := ite_t c9 h
      refine lv_iconst (v := I (-1)) C0.1 C0.2.1 dX7_finds_14 rfl ?_
      exact ret_i (wf := wE g) C0 hr hlk hE h lit_m1 hR dX7_finds_15
set_option maxRecDepth 100000 in
set_option maxHeartbeats 4000000 in
theorem c_Pool_forget (l : Launch) (D : va_G) (g : Ad) {σ σr : St} {r : Int} (hR : R32 σ) (h : Pool_forget σ = some (r, σr)) : CtV l D g yX0_forget cX0_forget 1 none 1 (wE g σ) (wE g σr) [.ref (g.2 1)] (R32 σr) := by
  intro sz
  refine met_of (by decide) (Nat.le_of_ble_eq_true rfl) (fun p e s m args below meth c ls H locs C0 hml hr hlk hE hl => ?_)
  have C0 : CX p c cX0_forget m s args D g RX0 := C0
  have hl : lv_has ls 1 [(0, .ref (g.2 1))] := hl
  unfold Pool_forget at h
  refine lv_aload_n C0.1 C0.2.1 dX0_forget_0 rfl (lv_at hl 0 rfl) ?_
  refine lv_dup C0.1 C0.2.1 dX0_forget_1 rfl ?_
  obtain ⟨v1, e_v1, i_v1, h⟩ := gf_s hR h
  refine Pool_g_base C0 hE e_v1 fk_X0_40 dX0_forget_2 ?_
  refine lv_sipush (v := I 256) C0.1 C0.2.1 dX0_forget_5 (by decide +kernel) ?_
  obtain ⟨v2, e_v2, i_v2, h⟩ := oadd_s h
  refine x_add C0 e_v2 dX0_forget_8 ?_
  obtain ⟨s3, e_s3, hR, h⟩ := pf_s hR i_v2 h
  refine Pool_p_base C0 hE e_s3 fk_X0_40 dX0_forget_9 (fun H locs hE => ?_)
  exact ret_v (wf := wE g) C0 hr hlk hE h hR dX0_forget_12
set_option maxRecDepth 100000 in
set_option maxHeartbeats 4000000 in
theorem c_Pool_seenOf (l : Launch) (D : va_G) (g : Ad) {σ : St} {p1 r : Int} (hR : R32 σ) (i_p1 : in32 p1) (h : Pool_seenOf σ p1 = some r) : CtI l D g yX0_seenOf cX0_seenOf 2 (some .int) 1 (wE g σ) (wE g σ) [.ref (g.2 1), .int (I p1)] r (in32 r) := by
  intro sz
  refine met_of (by decide) (Nat.le_of_ble_eq_true rfl) (fun p e s m args below meth c ls H locs C0 hml hr hlk hE hl => ?_)
  have C0 : CX p c cX0_seenOf m s args D g RX0 := C0
  have hl : lv_has ls 2 [(0, .ref (g.2 1)), (1, .int (I p1))] := hl
  unfold Pool_seenOf at h
  refine lv_iconst (v := I 0) C0.1 C0.2.1 dX0_seenOf_0 rfl ?_
  refine lv_aload_n C0.1 C0.2.1 dX0_seenOf_1 rfl (lv_at hl 0 rfl) ?_
  refine Pool_g_seen C0 hE fk_X0_24 dX0_seenOf_2 ?_
  refine lv_iload_n C0.1 C0.2.1 dX0_seenOf_5 rfl (lv_at hl 1 rfl) ?_
  obtain ⟨v1, e_v1, i_v1, h⟩ := rd_s hR h
  refine Pool_seen_l C0 hE i_p1 e_v1 dX0_seenOf_6 ?_
  refine lv_aload_n C0.1 C0.2.1 dX0_seenOf_7 rfl (lv_at hl 0 rfl) ?_
  obtain ⟨v2, e_v2, i_v2, h⟩ := gf_s hR h
  refine Pool_g_base C0 hE e_v2 fk_X0_40 dX0_seenOf_8 ?_
  obtain ⟨v3, e_v3, i_v3, h⟩ := osub_s h
  refine x_sub C0 e_v3 dX0_seenOf_11 ?_
  obtain ⟨v4, e_v4, i_v4, h⟩ := opure_s h (imax_in lit_0 i_v3)
  refine x_max C0 kw_X0_93 (hml.trans hl.1.symm) lit_0 i_v3 e_v4 ⟨Nat.le_of_ble_eq_true rfl, Nat.le_of_ble_eq_true rfl⟩ ⟨Nat.zero_le _, Nat.zero_le _⟩ dX0_seenOf_12 ?_
  exact pret_i C0 hr hlk hE h i_v4 dX0_seenOf_15
set_option maxRecDepth 100000 in
set_option maxHeartbeats 4000000 in
theorem c_Pool_seeAt (l : Launch) (D : va_G) (g : Ad) {σ σr : St} {p1 p2 r : Int} (hR : R32 σ) (i_p1 : in32 p1) (i_p2 : in32 p2) (h : Pool_seeAt σ p1 p2 = some (r, σr)) : CtI l D g yX0_seeAt cX0_seeAt 5 (some .int) 2 (wE g σ) (wE g σr) [.ref (g.2 1), .int (I p1), .int (I p2)] r (in32 r ∧ R32 σr) := by
  intro sz
  refine met_of (by decide) (Nat.le_of_ble_eq_true rfl) (fun p e s m args below meth c ls H locs C0 hml hr hlk hE hl => ?_)
  have C0 : CX p c cX0_seeAt m s args D g RX0 := C0
  have hl : lv_has ls 5 [(0, .ref (g.2 1)), (1, .int (I p1)), (2, .int (I p2))] := hl
  unfold Pool_seeAt at h
  refine lv_aload_n C0.1 C0.2.1 dX0_seeAt_0 rfl (lv_at hl 0 rfl) ?_
  refine Pool_g_at C0 hE fk_X0_27 dX0_seeAt_1 ?_
  refine lv_iload_n C0.1 C0.2.1 dX0_seeAt_4 rfl (lv_at hl 1 rfl) ?_
  obtain ⟨v1, e_v1, i_v1, h⟩ := rd_s hR h
  refine Pool_at_l C0 hE i_p1 e_v1 dX0_seeAt_5 ?_
  refine lv_istore_n (lv' := [(3, .int (I v1)), (0, .ref (g.2 1)), (1, .int (I p1)), (2, .int (I p2))]) C0.1 C0.2.1 dX0_seeAt_6 rfl hl (by decide) rfl (fun ls hl => ?_)
  refine lv_iload_n C0.1 C0.2.1 dX0_seeAt_7 rfl (lv_at hl 0 rfl) ?_
  obtain ⟨v2, h_v2, h⟩ := bndp_s h
  refine callS_i (rest := []) C0 hml hE (c_Pool_isNode l D g (σ := σ) i_v1 h_v2) kw_X0_53 ⟨Nat.le_of_ble_eq_true rfl, Nat.le_of_ble_eq_true rfl⟩ rfl hl.1 rfl (Nat.le_of_ble_eq_true rfl) dX0_seeAt_8 ⟨Nat.zero_le _, Nat.zero_le _⟩ (fun H locs hE i_v2 => ?_)
  refine x_if_ne C0 i_v2 dX0_seeAt_11 (tgt := 16) (by decide) (fun c9 => ?_) (fun c9 => ?_)
  · have h := ite_f c9 h
    refine lv_aload_n C0.1 C0.2.1 dX0_seeAt_16 rfl (lv_at hl 1 rfl) ?_
    refine lv_iload_n C0.1 C0.2.1 dX0_seeAt_17 rfl (lv_at hl 0 rfl) ?_
    obtain ⟨v3, h_v3, h⟩ := bndp_s h
    refine callV_i (rest := []) C0 hml hE (Pool_rec C0 hE) (c_Pool_seenOf l D g hR i_v1 h_v3) kw_X0_90 ⟨Nat.le_of_ble_eq_true rfl, Nat.le_of_ble_eq_true rfl⟩ rfl hl.1 rfl (Nat.le_of_ble_eq_true rfl) dX0_seeAt_18 ⟨Nat.zero_le _, Nat.zero_le _⟩ (fun H locs hE i_v3 => ?_)
    refine lv_istore (lv' := [(4, .int (I v3)), (3, .int (I v1)), (0, .ref (g.2 1)), (1, .int (I p1)), (2, .int (I p2))]) C0.1 C0.2.1 dX0_seeAt_21 hl (by decide) rfl (fun ls hl => ?_)
    refine lv_aload_n C0.1 C0.2.1 dX0_seeAt_23 rfl (lv_at hl 2 rfl) ?_
    refine Pool_g_seen C0 hE fk_X0_24 dX0_seeAt_24 ?_
    refine lv_iload_n C0.1 C0.2.1 dX0_seeAt_27 rfl (lv_at hl 1 rfl) ?_
    refine lv_aload_n C0.1 C0.2.1 dX0_seeAt_28 rfl (lv_at hl 2 rfl) ?_
    obtain ⟨v4, e_v4, i_v4, h⟩ := gf_s hR h
    refine Pool_g_base C0 hE e_v4 fk_X0_40 dX0_seeAt_29 ?_
    refine lv_iload C0.1 C0.2.1 dX0_seeAt_32 (lv_at hl 0 rfl) ?_
    refine lv_iload_n C0.1 C0.2.1 dX0_seeAt_34 rfl (lv_at hl 4 rfl) ?_
    obtain ⟨v5, e_v5, i_v5, h⟩ := opure_s h (bor_in _ _)
    refine x_or C0 e_v5 dX0_seeAt_35 ?_
    obtain ⟨v6, e_v6, i_v6, h⟩ := oadd_s h
    refine x_add C0 e_v6 dX0_seeAt_36 ?_
    obtain ⟨s7, e_s7, hR, h⟩ := wr_s hR i_v6 h
    refine Pool_seen_st C0 hE i_v1 e_s7 dX0_seeAt_37 (fun H locs hE => ?_)
    refine lv_iload C0.1 C0.2.1 dX0_seeAt_38 (lv_at hl 0 rfl) ?_
    exact ret_i (wf := wE g) C0 hr hlk hE h i_v3 hR dX0_seeAt_40
  · have h := ite_t c9 h
    refine lv_iconst (v := I 0) C0.1 C0.2.1 dX0_seeAt_14 rfl ?_
    exact ret_i (wf := wE g) C0 hr hlk hE h lit_0 hR dX0_seeAt_15
set_option maxRecDepth 100000 in
set_option maxHeartbeats 4000000 in
theorem c_E_seeAll (l : Launch) (D : va_G) (g : Ad) {σ σr : St} {p1 p2 r : Int} (hR : R32 σ) (i_p1 : in32 p1) (i_p2 : in32 p2) (h : E_seeAll σ p1 p2 = some (r, σr)) : CtV l D g yX7_seeAll cX7_seeAll 4 none 4 (wE g σ) (wE g σr) [.ref (g.2 0), .int (I p1), .int (I p2)] (R32 σr) := by
  intro sz
  refine met_of (by decide) (Nat.le_of_ble_eq_true rfl) (fun p e s m args below meth c ls H locs C0 hml hr hlk hE hl => ?_)
  have C0 : CX p c cX7_seeAll m s args D g RX7 := C0
  have hl : lv_has ls 4 [(0, .ref (g.2 0)), (1, .int (I p1)), (2, .int (I p2))] := hl
  unfold E_seeAll at h
  refine lv_aload_n C0.1 C0.2.1 dX7_seeAll_0 rfl (lv_at hl 0 rfl) ?_
  refine E_g_pool C0 hE fk_X7_10 dX7_seeAll_1 ?_
  refine lv_aload_n C0.1 C0.2.1 dX7_seeAll_4 rfl (lv_at hl 0 rfl) ?_
  refine E_g_trees C0 hE fk_X7_49 dX7_seeAll_5 ?_
  refine lv_iload_n C0.1 C0.2.1 dX7_seeAll_8 rfl (lv_at hl 1 rfl) ?_
  obtain ⟨v1, e_v1, i_v1, h⟩ := rd_s hR h
  refine E_trees_l C0 hE i_p1 e_v1 dX7_seeAll_9 ?_
  refine lv_aload_n C0.1 C0.2.1 dX7_seeAll_10 rfl (lv_at hl 0 rfl) ?_
  refine E_g_sizes C0 hE fk_X7_53 dX7_seeAll_11 ?_
  refine lv_iload_n C0.1 C0.2.1 dX7_seeAll_14 rfl (lv_at hl 1 rfl) ?_
  obtain ⟨v2, e_v2, i_v2, h⟩ := rd_s hR h
  refine E_sizes_l C0 hE i_p1 e_v2 dX7_seeAll_15 ?_
  obtain ⟨v3, s4, h_v3, h⟩ := bnd_s h
  refine callV_v (rest := []) C0 hml hE (Pool_rec C0 hE) (c_Pool_spread l D g hR i_v1 i_v2 h_v3) kw_X7_280 ⟨Nat.le_of_ble_eq_true rfl, Nat.le_of_ble_eq_true rfl⟩ rfl hl.1 rfl (Nat.le_of_ble_eq_true rfl) dX7_seeAll_16 ⟨Nat.zero_le _, Nat.zero_le _⟩ (fun H locs hE hR => ?_)
  refine lv_iconst (v := I 0) C0.1 C0.2.1 dX7_seeAll_19 rfl ?_
  refine lv_istore_n (lv' := [(3, .int (I 0)), (0, .ref (g.2 0)), (1, .int (I p1)), (2, .int (I p2))]) C0.1 C0.2.1 dX7_seeAll_20 rfl hl (by decide) rfl (fun ls hl => ?_)
  have hL21 : ∀ (n : Nat) (s6 : St) (hR : R32 s6) (x5 : Int) (i_x5 : in32 x5) (H : Heap) (locs : List Loc) (ls : Array Slot), EW D (va_A (wE g σ) sz) s.heap (wE g s6) H locs → lv_has ls 4 [(0, .ref (g.2 0)), (1, .int (I p1)), (2, .int (I p2)), (3, .int (I x5))] → E_seeAll_L21 p1 p2 n s6 x5 = some (r, σr) → W p l e (rmk 4) s m args below meth c H locs 0 0 (MQ below (QCv D (wE g σr) (R32 σr) (va_A (wE g σ) sz)) args s 0 0 (va_A (wE g σ) sz)) (F0 m 21 ls []) := by
    intro n
    induction n with
    | zero => intros; rename_i h; cases h
    | succ n ih7 =>
      intro s6 hR x5 i_x5 H locs ls hE hl h
      unfold E_seeAll_L21 at h
      refine lv_iload_n C0.1 C0.2.1 dX7_seeAll_21 rfl (lv_at hl 3 rfl) ?_
      refine lv_aload_n C0.1 C0.2.1 dX7_seeAll_22 rfl (lv_at hl 0 rfl) ?_
      refine E_g_sizes C0 hE fk_X7_53 dX7_seeAll_23 ?_
      refine lv_iload_n C0.1 C0.2.1 dX7_seeAll_26 rfl (lv_at hl 1 rfl) ?_
      obtain ⟨v8, e_v8, i_v8, h⟩ := rd_s hR h
      refine E_sizes_l C0 hE i_p1 e_v8 dX7_seeAll_27 ?_
      refine x_icmp_ge C0 i_x5 i_v8 dX7_seeAll_28 (tgt := 47) (by decide) (fun c9 => ?_) (fun c9 => ?_)
      · have h := ite_f c9 h
        exact ret_v (wf := wE g) C0 hr hlk hE h hR dX7_seeAll_47
      · have h := ite_t c9 h
        refine lv_aload_n C0.1 C0.2.1 dX7_seeAll_31 rfl (lv_at hl 0 rfl) ?_
        refine E_g_pool C0 hE fk_X7_10 dX7_seeAll_32 ?_
        refine lv_iload_n C0.1 C0.2.1 dX7_seeAll_35 rfl (lv_at hl 3 rfl) ?_
        refine lv_iload_n C0.1 C0.2.1 dX7_seeAll_36 rfl (lv_at hl 2 rfl) ?_
        obtain ⟨v9, s10, h_v9, h⟩ := bnd_s h
        refine callV_i (rest := []) C0 hml hE (Pool_rec C0 hE) (c_Pool_seeAt l D g hR i_x5 i_p2 h_v9) kw_X7_289 ⟨Nat.le_of_ble_eq_true rfl, Nat.le_of_ble_eq_true rfl⟩ rfl hl.1 rfl (Nat.le_of_ble_eq_true rfl) dX7_seeAll_37 ⟨Nat.zero_le _, Nat.zero_le _⟩ (fun H locs hE ⟨i_v9, hR⟩ => ?_)
        refine lv_pop C0.1 C0.2.1 dX7_seeAll_40 rfl ?_
        obtain ⟨v11, e_v11, i_v11, h⟩ := oadd_s h
        refine x_iinc (lv' := [(3, .int (I v11)), (0, .ref (g.2 0)), (1, .int (I p1)), (2, .int (I p2))]) C0 dX7_seeAll_41 hl (k := 3) rfl e_v11 (by decide) rfl (fun ls hl => ?_)
        refine x_goto C0 dX7_seeAll_44 (tgt := 21) (by decide) ?_
        exact ih7 s10 hR v11 i_v11 _ _ _ hE (lv_sub hl [1, 2, 3, 0] rfl) h
  exact hL21 FU s4 hR 0 lit_0 _ _ _ hE (lv_sub hl [1, 2, 3, 0] rfl) h
set_option maxRecDepth 100000 in
set_option maxHeartbeats 4000000 in
theorem c_E_nodesInBoth (l : Launch) (D : va_G) (g : Ad) {σ σr : St} {p1 p2 r : Int} (hR : R32 σ) (i_p1 : in32 p1) (i_p2 : in32 p2) (h : E_nodesInBoth σ p1 p2 = some (r, σr)) : CtI l D g yX7_nodesInBoth cX7_nodesInBoth 5 (some .int) 5 (wE g σ) (wE g σr) [.ref (g.2 0), .int (I p1), .int (I p2)] r (in32 r ∧ R32 σr) := by
  intro sz
  refine met_of (by decide) (Nat.le_of_ble_eq_true rfl) (fun p e s m args below meth c ls H locs C0 hml hr hlk hE hl => ?_)
  have C0 : CX p c cX7_nodesInBoth m s args D g RX7 := C0
  have hl : lv_has ls 5 [(0, .ref (g.2 0)), (1, .int (I p1)), (2, .int (I p2))] := hl
  unfold E_nodesInBoth at h
  refine lv_aload_n C0.1 C0.2.1 dX7_nodesInBoth_0 rfl (lv_at hl 0 rfl) ?_
  refine E_g_pool C0 hE fk_X7_10 dX7_nodesInBoth_1 ?_
  obtain ⟨v1, s2, h_v1, h⟩ := bnd_s h
  refine callV_v (rest := []) C0 hml hE (Pool_rec C0 hE) (c_Pool_forget l D g hR h_v1) kw_X7_277 ⟨Nat.le_of_ble_eq_true rfl, Nat.le_of_ble_eq_true rfl⟩ rfl hl.1 rfl (Nat.le_of_ble_eq_true rfl) dX7_nodesInBoth_4 ⟨Nat.zero_le _, Nat.zero_le _⟩ (fun H locs hE hR => ?_)
  refine lv_aload_n C0.1 C0.2.1 dX7_nodesInBoth_7 rfl (lv_at hl 0 rfl) ?_
  refine lv_iload_n C0.1 C0.2.1 dX7_nodesInBoth_8 rfl (lv_at hl 1 rfl) ?_
  refine lv_iconst (v := I 1) C0.1 C0.2.1 dX7_nodesInBoth_9 rfl ?_
  obtain ⟨v3, s4, h_v3, h⟩ := bnd_s h
  refine callV_v (rest := []) C0 hml hE (E_rec C0 hE) (c_E_seeAll l D g hR i_p1 lit_1 h_v3) kw_X7_297 ⟨Nat.le_of_ble_eq_true rfl, Nat.le_of_ble_eq_true rfl⟩ rfl hl.1 rfl (Nat.le_of_ble_eq_true rfl) dX7_nodesInBoth_10 ⟨Nat.zero_le _, Nat.zero_le _⟩ (fun H locs hE hR => ?_)
  refine lv_aload_n C0.1 C0.2.1 dX7_nodesInBoth_13 rfl (lv_at hl 0 rfl) ?_
  refine E_g_pool C0 hE fk_X7_10 dX7_nodesInBoth_14 ?_
  refine lv_aload_n C0.1 C0.2.1 dX7_nodesInBoth_17 rfl (lv_at hl 0 rfl) ?_
  refine E_g_trees C0 hE fk_X7_49 dX7_nodesInBoth_18 ?_
  refine lv_iload_n C0.1 C0.2.1 dX7_nodesInBoth_21 rfl (lv_at hl 2 rfl) ?_
  obtain ⟨v5, e_v5, i_v5, h⟩ := rd_s hR h
  refine E_trees_l C0 hE i_p2 e_v5 dX7_nodesInBoth_22 ?_
  refine lv_aload_n C0.1 C0.2.1 dX7_nodesInBoth_23 rfl (lv_at hl 0 rfl) ?_
  refine E_g_sizes C0 hE fk_X7_53 dX7_nodesInBoth_24 ?_
  refine lv_iload_n C0.1 C0.2.1 dX7_nodesInBoth_27 rfl (lv_at hl 2 rfl) ?_
  obtain ⟨v6, e_v6, i_v6, h⟩ := rd_s hR h
  refine E_sizes_l C0 hE i_p2 e_v6 dX7_nodesInBoth_28 ?_
  obtain ⟨v7, s8, h_v7, h⟩ := bnd_s h
  refine callV_v (rest := []) C0 hml hE (Pool_rec C0 hE) (c_Pool_spread l D g hR i_v5 i_v6 h_v7) kw_X7_280 ⟨Nat.le_of_ble_eq_true rfl, Nat.le_of_ble_eq_true rfl⟩ rfl hl.1 rfl (Nat.le_of_ble_eq_true rfl) dX7_nodesInBoth_29 ⟨Nat.zero_le _, Nat.zero_le _⟩ (fun H locs hE hR => ?_)
  refine lv_iconst (v := I 0) C0.1 C0.2.1 dX7_nodesInBoth_32 rfl ?_
  refine lv_istore_n (lv' := [(3, .int (I 0)), (0, .ref (g.2 0)), (1, .int (I p1)), (2, .int (I p2))]) C0.1 C0.2.1 dX7_nodesInBoth_33 rfl hl (by decide) rfl (fun ls hl => ?_)
  refine lv_iconst (v := I 0) C0.1 C0.2.1 dX7_nodesInBoth_34 rfl ?_
  refine lv_istore (lv' := [(4, .int (I 0)), (3, .int (I 0)), (0, .ref (g.2 0)), (1, .int (I p1)), (2, .int (I p2))]) C0.1 C0.2.1 dX7_nodesInBoth_35 hl (by decide) rfl (fun ls hl => ?_)
  have hL37 : ∀ (n : Nat) (s11 : St) (hR : R32 s11) (x9 : Int) (i_x9 : in32 x9) (x10 : Int) (i_x10 : in32 x10) (H : Heap) (locs : List Loc) (ls : Array Slot), EW D (va_A (wE g σ) sz) s.heap (wE g s11) H locs → lv_has ls 5 [(0, .ref (g.2 0)), (2, .int (I p2)), (3, .int (I x9)), (4, .int (I x10))] → E_nodesInBoth_L37 p2 n s11 x9 x10 = some (r, σr) → W p l e (rmk 5) s m args below meth c H locs 0 0 (MQ below (QCi D (wE g σr) r (in32 r ∧ R32 σr) (va_A (wE g σ) sz)) args s 0 0 (va_A (wE g σ) sz)) (F0 m 37 ls []) := by
    intro n
    induction n with
    | zero => intros; rename_i h; cases h
    | succ n ih12 =>
      intro s11 hR x9 i_x9 x10 i_x10 H locs ls hE hl h
      unfold E_nodesInBoth_L37 at h
      refine lv_iload C0.1 C0.2.1 dX7_nodesInBoth_37 (lv_at hl 3 rfl) ?_
      refine lv_aload_n C0.1 C0.2.1 dX7_nodesInBoth_39 rfl (lv_at hl 0 rfl) ?_
      refine E_g_sizes C0 hE fk_X7_53 dX7_nodesInBoth_40 ?_
      refine lv_iload_n C0.1 C0.2.1 dX7_nodesInBoth_43 rfl (lv_at hl 1 rfl) ?_
      obtain ⟨v13, e_v13, i_v13, h⟩ := rd_s hR h
      refine E_sizes_l C0 hE i_p2 e_v13 dX7_nodesInBoth_44 ?_
      refine x_icmp_ge C0 i_x10 i_v13 dX7_nodesInBoth_45 (tgt := 76) (by decide) (fun c9 => ?_) (fun c9 => ?_)
      · have h := ite_f c9 h
        refine lv_iload_n C0.1 C0.2.1 dX7_nodesInBoth_76 rfl (lv_at hl 2 rfl) ?_
        exact ret_i (wf := wE g) C0 hr hlk hE h i_x9 hR dX7_nodesInBoth_77
      · have h := ite_t c9 h
        refine lv_iload_n C0.1 C0.2.1 dX7_nodesInBoth_48 rfl (lv_at hl 2 rfl) ?_
        refine lv_aload_n C0.1 C0.2.1 dX7_nodesInBoth_49 rfl (lv_at hl 0 rfl) ?_
        refine E_g_pool C0 hE fk_X7_10 dX7_nodesInBoth_50 ?_
        refine lv_iload C0.1 C0.2.1 dX7_nodesInBoth_53 (lv_at hl 3 rfl) ?_
        refine lv_iconst (v := I 2) C0.1 C0.2.1 dX7_nodesInBoth_55 rfl ?_
        obtain ⟨v14, s15, h_v14, h⟩ := bnd_s h
        refine callV_i (rest := [.int (I x9)]) C0 hml hE (Pool_rec C0 hE) (c_Pool_seeAt l D g hR i_x10 lit_2 h_v14) kw_X7_289 ⟨Nat.le_of_ble_eq_true rfl, Nat.le_of_ble_eq_true rfl⟩ rfl hl.1 rfl (Nat.le_of_ble_eq_true rfl) dX7_nodesInBoth_56 ⟨Nat.zero_le _, Nat.zero_le _⟩ (fun H locs hE ⟨i_v14, hR⟩ => ?_)
        refine lv_iconst (v := I 1) C0.1 C0.2.1 dX7_nodesInBoth_59 rfl ?_
        obtain ⟨v16, e_v16, i_v16, h⟩ := oif_s h
        have kk_v16 : W p l e (rmk 5) s m args below meth c H locs 0 0 (MQ below (QCi D (wE g σr) r (in32 r ∧ R32 σr) (va_A (wE g σ) sz)) args s 0 0 (va_A (wE g σ) sz)) (F0 m 68 ls [.int (I v16), .int (I x9)]) := by
          obtain ⟨v17, e_v17, i_v17, h⟩ := oadd_s h
          refine x_add C0 e_v17 dX7_nodesInBoth_68 ?_
          refine lv_istore_n (lv' := [(3, .int (I v17)), (0, .ref (g.2 0)), (2, .int (I p2)), (4, .int (I x10))]) C0.1 C0.2.1 dX7_nodesInBoth_69 rfl hl (by decide) rfl (fun ls hl => ?_)
          obtain ⟨v18, e_v18, i_v18, h⟩ := oadd_s h
          refine x_iinc (lv' := [(4, .int (I v18)), (3, .int (I v17)), (0, .ref (g.2 0)), (2, .int (I p2))]) C0 dX7_nodesInBoth_70 hl (k := 3) rfl e_v18 (by decide) rfl (fun ls hl => ?_)
          refine x_goto C0 dX7_nodesInBoth_73 (tgt := 37) (by decide) ?_
          exact ih12 s15 hR v17 i_v17 v18 i_v18 _ _ _ hE (lv_sub hl [2, 3, 1, 0] rfl) h
        refine x_icmp_ne C0 i_v14 lit_1 dX7_nodesInBoth_60 (tgt := 67) (by decide) (fun c9 => ?_) (fun c9 => ?_)
        · have e9 := e_v16.trans (if_neg c9)
          refine lv_iconst (v := I 0) C0.1 C0.2.1 dX7_nodesInBoth_67 rfl ?_
          rw [e9] at kk_v16; exact kk_v16
        · have e9 := e_v16.trans (if_pos c9)
          refine lv_iconst (v := I 1) C0.1 C0.2.1 dX7_nodesInBoth_63 rfl ?_
          refine x_goto C0 dX7_nodesInBoth_64 (tgt := 68) (by decide) ?_
          rw [e9] at kk_v16; exact kk_v16
  exact hL37 FU s8 hR 0 lit_0 0 lit_0 _ _ _ hE (lv_sub hl [2, 4, 1, 0] rfl) h
set_option maxRecDepth 100000 in
set_option maxHeartbeats 4000000 in
theorem c_E_same (l : Launch) (D : va_G) (g : Ad) {σ σr : St} {p1 p2 r : Int} (hR : R32 σ) (i_p1 : in32 p1) (i_p2 : in32 p2) (h : E_same σ p1 p2 = some (r, σr)) : CtI l D g yX7_same cX7_same 6 (some .int) 6 (wE g σ) (wE g σr) [.ref (g.2 0), .int (I p1), .int (I p2)] r (in32 r ∧ R32 σr) := by
  intro sz
  refine met_of (by decide) (Nat.le_of_ble_eq_true rfl) (fun p e s m args below meth c ls H locs C0 hml hr hlk hE hl => ?_)
  have C0 : CX p c cX7_same m s args D g RX7 := C0
  have hl : lv_has ls 6 [(0, .ref (g.2 0)), (1, .int (I p1)), (2, .int (I p2))] := hl
  unfold E_same at h
  refine lv_iload_n C0.1 C0.2.1 dX7_same_0 rfl (lv_at hl 1 rfl) ?_
  obtain ⟨v1, h_v1, h⟩ := bndp_s h
  refine callS_i (rest := []) C0 hml hE (c_E_isPlace l D g (σ := σ) i_p1 h_v1) kw_X7_86 ⟨Nat.le_of_ble_eq_true rfl, Nat.le_of_ble_eq_true rfl⟩ rfl hl.1 rfl (Nat.le_of_ble_eq_true rfl) dX7_same_1 ⟨Nat.zero_le _, Nat.zero_le _⟩ (fun H locs hE i_v1 => ?_)
  refine x_if_eq C0 i_v1 dX7_same_4 (tgt := 14) (by decide) (fun c9 => ?_) (fun c9 => ?_)
  · have h := ite_t c9 h
    refine lv_iconst (v := I (-1)) C0.1 C0.2.1 dX7_same_14 rfl ?_
    exact ret_i (wf := wE g) C0 hr hlk hE h lit_m1 hR dX7_same_15
  · have h := ite_f c9 h
    refine lv_iload_n C0.1 C0.2.1 dX7_same_7 rfl (lv_at hl 2 rfl) ?_
    obtain ⟨v2, h_v2, h⟩ := bndp_s h
    refine callS_i (rest := []) C0 hml hE (c_E_isPlace l D g (σ := σ) i_p2 h_v2) kw_X7_86 ⟨Nat.le_of_ble_eq_true rfl, Nat.le_of_ble_eq_true rfl⟩ rfl hl.1 rfl (Nat.le_of_ble_eq_true rfl) dX7_same_8 ⟨Nat.zero_le _, Nat.zero_le _⟩ (fun H locs hE i_v2 => ?_)
    refine x_if_ne C0 i_v2 dX7_same_11 (tgt := 16) (by decide) (fun c9 => ?_) (fun c9 => ?_)
    · have h := ite_f c9 h
      refine lv_aload_n C0.1 C0.2.1 dX7_same_16 rfl (lv_at hl 0 rfl) ?_
      refine lv_iload_n C0.1 C0.2.1 dX7_same_17 rfl (lv_at hl 1 rfl) ?_
      refine lv_iload_n C0.1 C0.2.1 dX7_same_18 rfl (lv_at hl 2 rfl) ?_
      obtain ⟨v3, s4, h_v3, h⟩ := bnd_s h
      refine callV_v (rest := []) C0 hml hE (E_rec C0 hE) (c_E_readBoth l D g hR i_p1 i_p2 h_v3) kw_X7_177 ⟨Nat.le_of_ble_eq_true rfl, Nat.le_of_ble_eq_true rfl⟩ rfl hl.1 rfl (Nat.le_of_ble_eq_true rfl) dX7_same_19 ⟨Nat.zero_le _, Nat.zero_le _⟩ (fun H locs hE hR => ?_)
      refine lv_aload_n C0.1 C0.2.1 dX7_same_22 rfl (lv_at hl 0 rfl) ?_
      refine E_g_sizes C0 hE fk_X7_53 dX7_same_23 ?_
      refine lv_iload_n C0.1 C0.2.1 dX7_same_26 rfl (lv_at hl 1 rfl) ?_
      obtain ⟨v5, e_v5, i_v5, h⟩ := rd_s hR h
      refine E_sizes_l C0 hE i_p1 e_v5 dX7_same_27 ?_
      refine lv_aload_n C0.1 C0.2.1 dX7_same_28 rfl (lv_at hl 0 rfl) ?_
      refine E_g_sizes C0 hE fk_X7_53 dX7_same_29 ?_
      refine lv_iload_n C0.1 C0.2.1 dX7_same_32 rfl (lv_at hl 2 rfl) ?_
      obtain ⟨v6, e_v6, i_v6, h⟩ := rd_s hR h
      refine E_sizes_l C0 hE i_p2 e_v6 dX7_same_33 ?_
      obtain ⟨v7, e_v7, i_v7, h⟩ := opure_s h (imin_in i_v5 i_v6)
      refine x_min C0 kw_X7_228 (hml.trans hl.1.symm) i_v5 i_v6 e_v7 ⟨Nat.le_of_ble_eq_true rfl, Nat.le_of_ble_eq_true rfl⟩ ⟨Nat.zero_le _, Nat.zero_le _⟩ dX7_same_34 ?_
      refine lv_istore_n (lv' := [(3, .int (I v7)), (0, .ref (g.2 0)), (1, .int (I p1)), (2, .int (I p2))]) C0.1 C0.2.1 dX7_same_37 rfl hl (by decide) rfl (fun ls hl => ?_)
      refine lv_iconst (v := I 0) C0.1 C0.2.1 dX7_same_38 rfl ?_
      refine lv_istore (lv' := [(4, .int (I 0)), (3, .int (I v7)), (0, .ref (g.2 0)), (1, .int (I p1)), (2, .int (I p2))]) C0.1 C0.2.1 dX7_same_39 hl (by decide) rfl (fun ls hl => ?_)
      obtain ⟨k9, e_k9, h⟩ := jn_s h
      have h_k9 : ∀ (x8 : Int) (i_x8 : in32 x8) (H : Heap) (locs : List Loc) (ls : Array Slot), EW D (va_A (wE g σ) sz) s.heap (wE g s4) H locs → lv_has ls 6 [(0, .ref (g.2 0)), (1, .int (I p1)), (2, .int (I p2)), (4, .int (I x8))] → k9 x8 = some (r, σr) → W p l e (rmk 6) s m args below meth c H locs 0 0 (MQ below (QCi D (wE g σr) r (in32 r ∧ R32 σr) (va_A (wE g σ) sz)) args s 0 0 (va_A (wE g σ) sz)) (F0 m 70 ls []) := by
        intro x8 i_x8 H locs ls hE hl h
        have h := (congrFun e_k9 x8).symm.trans h
        refine lv_iload C0.1 C0.2.1 dX7_same_70 (lv_at hl 3 rfl) ?_
        refine lv_aload_n C0.1 C0.2.1 dX7_same_72 rfl (lv_at hl 0 rfl) ?_
        refine E_g_sizes C0 hE fk_X7_53 dX7_same_73 ?_
        refine lv_iload_n C0.1 C0.2.1 dX7_same_76 rfl (lv_at hl 1 rfl) ?_
        obtain ⟨v10, e_v10, i_v10, h⟩ := rd_s hR h
        refine E_sizes_l C0 hE i_p1 e_v10 dX7_same_77 ?_
        obtain ⟨k12, e_k12, h⟩ := jn_s h
        have h_k12 : ∀ (x11 : Int) (i_x11 : in32 x11) (H : Heap) (locs : List Loc) (ls : Array Slot), EW D (va_A (wE g σ) sz) s.heap (wE g s4) H locs → lv_has ls 6 [(0, .ref (g.2 0)), (1, .int (I p1)), (2, .int (I p2)), (4, .int (I x8))] → k12 x11 = some (r, σr) → W p l e (rmk 6) s m args below meth c H locs 0 0 (MQ below (QCi D (wE g σr) r (in32 r ∧ R32 σr) (va_A (wE g σ) sz)) args s 0 0 (va_A (wE g σ) sz)) (F0 m 97 ls [.int (I x11)]) := by
          intro x11 i_x11 H locs ls hE hl h
          have h := (congrFun e_k12 x11).symm.trans h
          refine lv_istore (lv' := [(5, .int (I x11)), (0, .ref (g.2 0)), (1, .int (I p1)), (2, .int (I p2)), (4, .int (I x8))]) C0.1 C0.2.1 dX7_same_97 hl (by decide) rfl (fun ls hl => ?_)
          refine lv_aload_n C0.1 C0.2.1 dX7_same_99 rfl (lv_at hl 1 rfl) ?_
          refine E_g_told C0 hE fk_X7_19 dX7_same_100 ?_
          refine lv_iload C0.1 C0.2.1 dX7_same_103 (lv_at hl 0 rfl) ?_
          obtain ⟨k14, e_k14, h⟩ := jn_s h
          have h_k14 : ∀ (x13 : Int) (i_x13 : in64 x13) (H : Heap) (locs : List Loc) (ls : Array Slot), EW D (va_A (wE g σ) sz) s.heap (wE g s4) H locs → lv_has ls 6 [(0, .ref (g.2 0)), (1, .int (I p1)), (2, .int (I p2)), (5, .int (I x11))] → k14 x13 = some (r, σr) → W p l e (rmk 6) s m args below meth c H locs 0 0 (MQ below (QCi D (wE g σr) r (in32 r ∧ R32 σr) (va_A (wE g σ) sz)) args s 0 0 (va_A (wE g σ) sz)) (F0 m 117 ls [.long (J x13), .ref (g.2 2)]) := by
            intro x13 i_x13 H locs ls hE hl h
            have h := (congrFun e_k14 x13).symm.trans h
            refine lv_aload_n C0.1 C0.2.1 dX7_same_117 rfl (lv_at hl 0 rfl) ?_
            refine lv_iload_n C0.1 C0.2.1 dX7_same_118 rfl (lv_at hl 1 rfl) ?_
            refine lv_iload_n C0.1 C0.2.1 dX7_same_119 rfl (lv_at hl 2 rfl) ?_
            obtain ⟨v15, s16, h_v15, h⟩ := bnd_s h
            refine callV_i (rest := [.long (J x13), .ref (g.2 2)]) C0 hml hE (E_rec C0 hE) (c_E_nodesInBoth l D g hR i_p1 i_p2 h_v15) kw_X7_253 ⟨Nat.le_of_ble_eq_true rfl, Nat.le_of_ble_eq_true rfl⟩ rfl hl.1 rfl (Nat.le_of_ble_eq_true rfl) dX7_same_120 ⟨Nat.zero_le _, Nat.zero_le _⟩ (fun H locs hE ⟨i_v15, hR⟩ => ?_)
            refine x_i2l C0 i_v15 dX7_same_123 ?_
            obtain ⟨v17, s18, h_v17, h⟩ := bnd_s h
            refine callV_v (rest := []) C0 hml hE (Row_rec C0 hE) (c_Row_tell1 l D g hR i_x13 (in64_of i_v15) h_v17) kw_X7_162 ⟨Nat.le_of_ble_eq_true rfl, Nat.le_of_ble_eq_true rfl⟩ rfl hl.1 rfl (Nat.le_of_ble_eq_true rfl) dX7_same_124 ⟨Nat.zero_le _, Nat.zero_le _⟩ (fun H locs hE hR => ?_)
            refine lv_iload C0.1 C0.2.1 dX7_same_127 (lv_at hl 3 rfl) ?_
            obtain ⟨v19, e_v19, i_v19, h⟩ := oif_s h
            have kk_v19 : W p l e (rmk 6) s m args below meth c H locs 0 0 (MQ below (QCi D (wE g σr) r (in32 r ∧ R32 σr) (va_A (wE g σ) sz)) args s 0 0 (va_A (wE g σ) sz)) (F0 m 137 ls [.int (I v19)]) := by
              exact ret_i (wf := wE g) C0 hr hlk hE h i_v19 hR dX7_same_137
            refine x_if_eq C0 i_x11 dX7_same_129 (tgt := 136) (by decide) (fun c9 => ?_) (fun c9 => ?_)
            · have e9 := e_v19.trans (if_pos c9)
              refine lv_iconst (v := I 0) C0.1 C0.2.1 dX7_same_136 rfl ?_
              rw [e9] at kk_v19; exact kk_v19
            · have e9 := e_v19.trans (if_neg c9)
              refine lv_iconst (v := I 1) C0.1 C0.2.1 dX7_same_132 rfl ?_
              refine x_goto C0 dX7_same_133 (tgt := 137) (by decide) ?_
              rw [e9] at kk_v19; exact kk_v19
          refine x_if_eq C0 i_x11 dX7_same_105 (tgt := 114) (by decide) (fun c9 => ?_) (fun c9 => ?_)
          · have h := ite_t c9 h
            refine lv_iload C0.1 C0.2.1 dX7_same_114 (lv_at hl 4 rfl) ?_
            refine x_i2l C0 i_x8 dX7_same_116 ?_
            exact h_k14 x8 (in64_of i_x8) _ _ _ hE (lv_sub hl [1, 2, 3, 0] rfl) h
          · have h := ite_f c9 h
            refine x_ldc2 (v := (-1)) C0 ck_X7_157 (by decide +kernel) dX7_same_108 ?_
            refine x_goto C0 dX7_same_111 (tgt := 117) (by decide) ?_
            exact h_k14 (-1) (by decide) _ _ _ hE (lv_sub hl [1, 2, 3, 0] rfl) h
        obtain ⟨k20, e_k20, h⟩ := jn_s h
        have h_k20 : ∀ (H : Heap) (locs : List Loc) (ls : Array Slot), EW D (va_A (wE g σ) sz) s.heap (wE g s4) H locs → lv_has ls 6 [(0, .ref (g.2 0)), (1, .int (I p1)), (2, .int (I p2)), (4, .int (I x8))] → k20 = some (r, σr) → W p l e (rmk 6) s m args below meth c H locs 0 0 (MQ below (QCi D (wE g σr) r (in32 r ∧ R32 σr) (va_A (wE g σ) sz)) args s 0 0 (va_A (wE g σ) sz)) (F0 m 96 ls []) := by
          intro H locs ls hE hl h
          have h := e_k20.symm.trans h
          refine lv_iconst (v := I 0) C0.1 C0.2.1 dX7_same_96 rfl ?_
          exact h_k12 0 lit_0 _ _ _ hE (lv_sub hl [0, 1, 2, 3] rfl) h
        refine x_icmp_ne C0 i_x8 i_v10 dX7_same_78 (tgt := 96) (by decide) (fun c9 => ?_) (fun c9 => ?_)
        · have h := ite_f c9 h
          exact h_k20 _ _ _ hE (lv_sub hl [0, 1, 2, 3] rfl) h
        · have h := ite_t c9 h
          refine lv_iload C0.1 C0.2.1 dX7_same_81 (lv_at hl 3 rfl) ?_
          refine lv_aload_n C0.1 C0.2.1 dX7_same_83 rfl (lv_at hl 0 rfl) ?_
          refine E_g_sizes C0 hE fk_X7_53 dX7_same_84 ?_
          refine lv_iload_n C0.1 C0.2.1 dX7_same_87 rfl (lv_at hl 2 rfl) ?_
          obtain ⟨v21, e_v21, i_v21, h⟩ := rd_s hR h
          refine E_sizes_l C0 hE i_p2 e_v21 dX7_same_88 ?_
          refine x_icmp_ne C0 i_x8 i_v21 dX7_same_89 (tgt := 96) (by decide) (fun c9 => ?_) (fun c9 => ?_)
          · have h := ite_f c9 h
            exact h_k20 _ _ _ hE (lv_sub hl [0, 1, 2, 3] rfl) h
          · have h := ite_t c9 h
            refine lv_iconst (v := I 1) C0.1 C0.2.1 dX7_same_92 rfl ?_
            refine x_goto C0 dX7_same_93 (tgt := 97) (by decide) ?_
            exact h_k12 1 lit_1 _ _ _ hE (lv_sub hl [0, 1, 2, 3] rfl) h
      have hL41 : ∀ (n : Nat) (x22 : Int) (i_x22 : in32 x22) (H : Heap) (locs : List Loc) (ls : Array Slot), EW D (va_A (wE g σ) sz) s.heap (wE g s4) H locs → lv_has ls 6 [(0, .ref (g.2 0)), (1, .int (I p1)), (2, .int (I p2)), (3, .int (I v7)), (4, .int (I x22))] → E_same_L41 k9 s4 v7 n x22 = some (r, σr) → W p l e (rmk 6) s m args below meth c H locs 0 0 (MQ below (QCi D (wE g σr) r (in32 r ∧ R32 σr) (va_A (wE g σ) sz)) args s 0 0 (va_A (wE g σ) sz)) (F0 m 41 ls []) := by
        intro n
        induction n with
        | zero => intros; rename_i h; cases h
        | succ n ih23 =>
          intro x22 i_x22 H locs ls hE hl h
          unfold E_same_L41 at h
          refine lv_iload C0.1 C0.2.1 dX7_same_41 (lv_at hl 4 rfl) ?_
          refine lv_iload_n C0.1 C0.2.1 dX7_same_43 rfl (lv_at hl 3 rfl) ?_
          refine x_icmp_ge C0 i_x22 i_v7 dX7_same_44 (tgt := 70) (by decide) (fun c9 => ?_) (fun c9 => ?_)
          · have h := ite_f c9 h
            exact h_k9 x22 i_x22 _ _ _ hE (lv_sub hl [0, 1, 2, 4] rfl) h
          · have h := ite_t c9 h
            refine lv_aload_n C0.1 C0.2.1 dX7_same_47 rfl (lv_at hl 0 rfl) ?_
            refine E_g_one C0 hE fk_X7_56 dX7_same_48 ?_
            refine lv_iload C0.1 C0.2.1 dX7_same_51 (lv_at hl 4 rfl) ?_
            obtain ⟨v24, e_v24, i_v24, h⟩ := rd_s hR h
            refine E_one_l C0 hE i_x22 e_v24 dX7_same_53 ?_
            refine lv_aload_n C0.1 C0.2.1 dX7_same_54 rfl (lv_at hl 0 rfl) ?_
            refine E_g_other C0 hE fk_X7_59 dX7_same_55 ?_
            refine lv_iload C0.1 C0.2.1 dX7_same_58 (lv_at hl 4 rfl) ?_
            obtain ⟨v25, e_v25, i_v25, h⟩ := rd_s hR h
            refine E_other_l C0 hE i_x22 e_v25 dX7_same_60 ?_
            refine x_icmp_ne C0 i_v24 i_v25 dX7_same_61 (tgt := 70) (by decide) (fun c9 => ?_) (fun c9 => ?_)
            · have h := ite_f c9 h
              exact h_k9 x22 i_x22 _ _ _ hE (lv_sub hl [0, 1, 2, 4] rfl) h
            · have h := ite_t c9 h
              obtain ⟨v26, e_v26, i_v26, h⟩ := oadd_s h
              refine x_iinc (lv' := [(4, .int (I v26)), (0, .ref (g.2 0)), (1, .int (I p1)), (2, .int (I p2)), (3, .int (I v7))]) C0 dX7_same_64 hl (k := 4) rfl e_v26 (by decide) rfl (fun ls hl => ?_)
              refine x_goto C0 dX7_same_67 (tgt := 41) (by decide) ?_
              exact ih23 v26 i_v26 _ _ _ hE (lv_sub hl [1, 2, 3, 4, 0] rfl) h
      exact hL41 FU 0 lit_0 _ _ _ hE (lv_sub hl [2, 3, 4, 1, 0] rfl) h
    · have h := ite_t c9 h
      refine lv_iconst (v := I (-1)) C0.1 C0.2.1 dX7_same_14 rfl ?_
      exact ret_i (wf := wE g) C0 hr hlk hE h lit_m1 hR dX7_same_15

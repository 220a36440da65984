-- literals
theorem lit_m1000000 : in32 (-1000000) := by decide
theorem lit_m1000 : in32 (-1000) := by decide
theorem lit_m999 : in32 (-999) := by decide
theorem lit_m2 : in32 (-2) := by decide
theorem lit_m1 : in32 (-1) := by decide
theorem lit_0 : in32 (0) := by decide
theorem lit_1 : in32 (1) := by decide
theorem lit_2 : in32 (2) := by decide
theorem lit_3 : in32 (3) := by decide
theorem lit_4 : in32 (4) := by decide
theorem lit_6 : in32 (6) := by decide
theorem lit_8 : in32 (8) := by decide
theorem lit_16 : in32 (16) := by decide
theorem lit_63 : in32 (63) := by decide
theorem lit_255 : in32 (255) := by decide
theorem lit_256 : in32 (256) := by decide
theorem lit_999 : in32 (999) := by decide
theorem lit_4096 : in32 (4096) := by decide
theorem lit_6143 : in32 (6143) := by decide
theorem lit_6144 : in32 (6144) := by decide
theorem lit_252645135 : in32 (252645135) := by decide
theorem lit_858993459 : in32 (858993459) := by decide
theorem lit_1431655765 : in32 (1431655765) := by decide
-- THE WALKS, written by program
set_option maxRecDepth 100000 in
set_option maxHeartbeats 4000000 in
theorem c_Pool_make (l : Launch) (D : va_G) (g : Ad) {σ σr : St} {p1 p2 p3 r : Int} (hR : R32 σ) (i_p1 : in32 p1) (i_p2 : in32 p2) (i_p3 : in32 p3) (h : Pool_make σ p1 p2 p3 = some (r, σr)) : CtI l D g yX0_make cX0_make 5 (some .int) 1 (wE g σ) (wE g σr) [.ref (g.2 1), .int (I p1), .int (I p2), .int (I p3)] r (in32 r ∧ R32 σr) := by
  intro sz
  refine met_of (by decide) (Nat.le_of_ble_eq_true rfl) (fun p e s m args below meth c ls H locs C0 hml hr hlk hE hl => ?_)
  have C0 : CX p c cX0_make m s args D g RX0 := C0
  have hl : lv_has ls 5 [(0, .ref (g.2 1)), (1, .int (I p1)), (2, .int (I p2)), (3, .int (I p3))] := hl
  unfold Pool_make at h
  obtain ⟨k2, e_k2, h⟩ := jn_s h
  have h_k2 : ∀ (s1 : St) (hR : R32 s1) (H : Heap) (locs : List Loc) (ls : Array Slot), EW D (va_A (wE g σ) sz) s.heap (wE g s1) H locs → lv_has ls 5 [(0, .ref (g.2 1)), (1, .int (I p1)), (2, .int (I p2)), (3, .int (I p3))] → k2 s1 = some (r, σr) → W p l e (rmk 1) s m args below meth c H locs 0 0 (MQ below (QCi D (wE g σr) r (in32 r ∧ R32 σr) (va_A (wE g σ) sz)) args s 0 0 (va_A (wE g σ) sz)) (F0 m 35 ls []) := by
    intro s1 hR H locs ls hE hl h
    have h := (congrFun e_k2 s1).symm.trans h
    refine lv_aload_n C0.1 C0.2.1 dX0_make_35 rfl (lv_at hl 0 rfl) ?_
    obtain ⟨v3, e_v3, i_v3, h⟩ := gf_s hR h
    refine Pool_g_next C0 hE e_v3 fk_X0_30 dX0_make_36 ?_
    refine lv_sipush (v := I 6144) C0.1 C0.2.1 dX0_make_39 (by decide +kernel) ?_
    refine x_icmp_lt C0 i_v3 lit_6144 dX0_make_42 (tgt := 47) (by decide) (fun c9 => ?_) (fun c9 => ?_)
    · have h := ite_t c9 h
      refine lv_aload_n C0.1 C0.2.1 dX0_make_47 rfl (lv_at hl 0 rfl) ?_
      obtain ⟨v4, e_v4, i_v4, h⟩ := gf_s hR h
      refine Pool_g_next C0 hE e_v4 fk_X0_30 dX0_make_48 ?_
      refine lv_istore (lv' := [(4, .int (I v4)), (0, .ref (g.2 1)), (1, .int (I p1)), (2, .int (I p2)), (3, .int (I p3))]) C0.1 C0.2.1 dX0_make_51 hl (by decide) rfl (fun ls hl => ?_)
      refine lv_aload_n C0.1 C0.2.1 dX0_make_53 rfl (lv_at hl 1 rfl) ?_
      refine Pool_g_numbers C0 hE fk_X0_11 dX0_make_54 ?_
      refine lv_iload C0.1 C0.2.1 dX0_make_57 (lv_at hl 0 rfl) ?_
      refine lv_iload_n C0.1 C0.2.1 dX0_make_59 rfl (lv_at hl 2 rfl) ?_
      obtain ⟨s5, e_s5, hR, h⟩ := wr_s hR i_p1 h
      refine Pool_numbers_st C0 hE i_v4 e_s5 dX0_make_60 (fun H locs hE => ?_)
      refine lv_aload_n C0.1 C0.2.1 dX0_make_61 rfl (lv_at hl 1 rfl) ?_
      refine Pool_g_lefts C0 hE fk_X0_15 dX0_make_62 ?_
      refine lv_iload C0.1 C0.2.1 dX0_make_65 (lv_at hl 0 rfl) ?_
      refine lv_iload_n C0.1 C0.2.1 dX0_make_67 rfl (lv_at hl 3 rfl) ?_
      obtain ⟨s6, e_s6, hR, h⟩ := wr_s hR i_p2 h
      refine Pool_lefts_st C0 hE i_v4 e_s6 dX0_make_68 (fun H locs hE => ?_)
      refine lv_aload_n C0.1 C0.2.1 dX0_make_69 rfl (lv_at hl 1 rfl) ?_
      refine Pool_g_rights C0 hE fk_X0_18 dX0_make_70 ?_
      refine lv_iload C0.1 C0.2.1 dX0_make_73 (lv_at hl 0 rfl) ?_
      refine lv_iload_n C0.1 C0.2.1 dX0_make_75 rfl (lv_at hl 4 rfl) ?_
      obtain ⟨s7, e_s7, hR, h⟩ := wr_s hR i_p3 h
      refine Pool_rights_st C0 hE i_v4 e_s7 dX0_make_76 (fun H locs hE => ?_)
      refine lv_aload_n C0.1 C0.2.1 dX0_make_77 rfl (lv_at hl 1 rfl) ?_
      refine lv_dup C0.1 C0.2.1 dX0_make_78 rfl ?_
      obtain ⟨v8, e_v8, i_v8, h⟩ := gf_s hR h
      refine Pool_g_next C0 hE e_v8 fk_X0_30 dX0_make_79 ?_
      refine lv_iconst (v := I 1) C0.1 C0.2.1 dX0_make_82 rfl ?_
      obtain ⟨v9, e_v9, i_v9, h⟩ := oadd_s h
      refine x_add C0 e_v9 dX0_make_83 ?_
      obtain ⟨s10, e_s10, hR, h⟩ := pf_s hR i_v9 h
      refine Pool_p_next C0 hE e_s10 fk_X0_30 dX0_make_84 (fun H locs hE => ?_)
      refine lv_aload_n C0.1 C0.2.1 dX0_make_87 rfl (lv_at hl 1 rfl) ?_
      refine lv_dup C0.1 C0.2.1 dX0_make_88 rfl ?_
      obtain ⟨v11, e_v11, i_v11, h⟩ := gf_s hR h
      refine Pool_g_free C0 hE e_v11 fk_X0_34 dX0_make_89 ?_
      refine lv_iconst (v := I 1) C0.1 C0.2.1 dX0_make_92 rfl ?_
      obtain ⟨v12, e_v12, i_v12, h⟩ := osub_s h
      refine x_sub C0 e_v12 dX0_make_93 ?_
      obtain ⟨s13, e_s13, hR, h⟩ := pf_s hR i_v12 h
      refine Pool_p_free C0 hE e_s13 fk_X0_34 dX0_make_94 (fun H locs hE => ?_)
      refine lv_aload_n C0.1 C0.2.1 dX0_make_97 rfl (lv_at hl 1 rfl) ?_
      refine lv_dup C0.1 C0.2.1 dX0_make_98 rfl ?_
      obtain ⟨v14, e_v14, i_v14, h⟩ := gf_s hR h
      refine Pool_g_made C0 hE e_v14 fk_X0_37 dX0_make_99 ?_
      refine lv_iconst (v := I 1) C0.1 C0.2.1 dX0_make_102 rfl ?_
      obtain ⟨v15, e_v15, i_v15, h⟩ := oadd_s h
      refine x_add C0 e_v15 dX0_make_103 ?_
      obtain ⟨s16, e_s16, hR, h⟩ := pf_s hR i_v15 h
      refine Pool_p_made C0 hE e_s16 fk_X0_37 dX0_make_104 (fun H locs hE => ?_)
      refine lv_iload C0.1 C0.2.1 dX0_make_107 (lv_at hl 0 rfl) ?_
      exact ret_i (wf := wE g) C0 hr hlk hE h i_v4 hR dX0_make_109
    · have h := ite_f c9 h
      refine lv_iconst (v := I 0) C0.1 C0.2.1 dX0_make_45 rfl ?_
      exact ret_i (wf := wE g) C0 hr hlk hE h lit_0 hR dX0_make_46
  have hL0 : ∀ (n : Nat) (s18 : St) (hR : R32 s18) (H : Heap) (locs : List Loc) (ls : Array Slot), EW D (va_A (wE g σ) sz) s.heap (wE g s18) H locs → lv_has ls 5 [(0, .ref (g.2 1)), (1, .int (I p1)), (2, .int (I p2)), (3, .int (I p3))] → Pool_make_L0 k2 n s18 = some (r, σr) → W p l e (rmk 1) s m args below meth c H locs 0 0 (MQ below (QCi D (wE g σr) r (in32 r ∧ R32 σr) (va_A (wE g σ) sz)) args s 0 0 (va_A (wE g σ) sz)) (F0 m 0 ls []) := by
    intro n
    induction n with
    | zero => intros; rename_i h; cases h
    | succ n ih17 =>
      intro s18 hR H locs ls hE hl h
      unfold Pool_make_L0 at h
      refine lv_aload_n C0.1 C0.2.1 dX0_make_0 rfl (lv_at hl 0 rfl) ?_
      obtain ⟨v19, e_v19, i_v19, h⟩ := gf_s hR h
      refine Pool_g_next C0 hE e_v19 fk_X0_30 dX0_make_1 ?_
      refine lv_sipush (v := I 6144) C0.1 C0.2.1 dX0_make_4 (by decide +kernel) ?_
      refine x_icmp_ge C0 i_v19 lit_6144 dX0_make_7 (tgt := 35) (by decide) (fun c9 => ?_) (fun c9 => ?_)
      · have h := ite_f c9 h
        exact h_k2 s18 hR _ _ _ hE (lv_sub hl [0, 1, 2, 3] rfl) h
      · have h := ite_t c9 h
        refine lv_aload_n C0.1 C0.2.1 dX0_make_10 rfl (lv_at hl 0 rfl) ?_
        refine Pool_g_kept C0 hE fk_X0_21 dX0_make_11 ?_
        refine lv_aload_n C0.1 C0.2.1 dX0_make_14 rfl (lv_at hl 0 rfl) ?_
        obtain ⟨v20, e_v20, i_v20, h⟩ := gf_s hR h
        refine Pool_g_next C0 hE e_v20 fk_X0_30 dX0_make_15 ?_
        obtain ⟨v21, e_v21, i_v21, h⟩ := rd_s hR h
        refine Pool_kept_l C0 hE i_v20 e_v21 dX0_make_18 ?_
        refine x_if_eq C0 i_v21 dX0_make_19 (tgt := 35) (by decide) (fun c9 => ?_) (fun c9 => ?_)
        · have h := ite_t c9 h
          exact h_k2 s18 hR _ _ _ hE (lv_sub hl [0, 1, 2, 3] rfl) h
        · have h := ite_f c9 h
          refine lv_aload_n C0.1 C0.2.1 dX0_make_22 rfl (lv_at hl 0 rfl) ?_
          refine lv_dup C0.1 C0.2.1 dX0_make_23 rfl ?_
          obtain ⟨v22, e_v22, i_v22, h⟩ := gf_s hR h
          refine Pool_g_next C0 hE e_v22 fk_X0_30 dX0_make_24 ?_
          refine lv_iconst (v := I 1) C0.1 C0.2.1 dX0_make_27 rfl ?_
          obtain ⟨v23, e_v23, i_v23, h⟩ := oadd_s h
          refine x_add C0 e_v23 dX0_make_28 ?_
          obtain ⟨s24, e_s24, hR, h⟩ := pf_s hR i_v23 h
          refine Pool_p_next C0 hE e_s24 fk_X0_30 dX0_make_29 (fun H locs hE => ?_)
          refine x_goto C0 dX0_make_32 (tgt := 0) (by decide) ?_
          exact ih17 s24 hR _ _ _ hE (lv_sub hl [0, 1, 2, 3] rfl) h
  exact hL0 FU σ hR _ _ _ hE (lv_sub hl [0, 1, 2, 3] rfl) h
set_option maxRecDepth 100000 in
set_option maxHeartbeats 4000000 in
theorem c_Jint_bitCount (l : Launch) (D : va_G) (g : Ad) {σ : St} {p1 r : Int} (i_p1 : in32 p1) (h : Jint_bitCount p1 = some r) : CtI l D g yJ6_bitCount_0f7a4 cJ6_bitCount_0f7a4 1 (some .int) 1 (wE g σ) (wE g σ) [.int (I p1)] r (in32 r) := by
  intro sz
  refine met_of (by decide) (Nat.le_of_ble_eq_true rfl) (fun p e s m args below meth c ls H locs C0 hml hr hlk hE hl => ?_)
  have C0 : CX p c cJ6_bitCount_0f7a4 m s args D g RJ6 := C0
  have hl : lv_has ls 1 [(0, .int (I p1))] := hl
  unfold Jint_bitCount at h
  refine lv_iload_n C0.1 C0.2.1 dJ6_bitCount_0f7a4_0 rfl (lv_at hl 0 rfl) ?_
  refine lv_iload_n C0.1 C0.2.1 dJ6_bitCount_0f7a4_1 rfl (lv_at hl 0 rfl) ?_
  refine lv_iconst (v := I 1) C0.1 C0.2.1 dJ6_bitCount_0f7a4_2 rfl ?_
  obtain ⟨v1, e_v1, i_v1, h⟩ := opure_s h (bushr_in _ _)
  refine x_ushr C0 e_v1 dJ6_bitCount_0f7a4_3 ?_
  refine x_ldcw (v := 1431655765) C0 ck_J6_265 (by decide +kernel) dJ6_bitCount_0f7a4_4 ?_
  obtain ⟨v2, e_v2, i_v2, h⟩ := opure_s h (band_in _ _)
  refine x_and C0 e_v2 dJ6_bitCount_0f7a4_7 ?_
  obtain ⟨v3, e_v3, i_v3, h⟩ := osub_s h
  refine x_sub C0 e_v3 dJ6_bitCount_0f7a4_8 ?_
  refine lv_istore_n (lv' := [(0, .int (I v3))]) C0.1 C0.2.1 dJ6_bitCount_0f7a4_9 rfl hl (by decide) rfl (fun ls hl => ?_)
  refine lv_iload_n C0.1 C0.2.1 dJ6_bitCount_0f7a4_10 rfl (lv_at hl 0 rfl) ?_
  refine x_ldcw (v := 858993459) C0 ck_J6_266 (by decide +kernel) dJ6_bitCount_0f7a4_11 ?_
  obtain ⟨v4, e_v4, i_v4, h⟩ := opure_s h (band_in _ _)
  refine x_and C0 e_v4 dJ6_bitCount_0f7a4_14 ?_
  refine lv_iload_n C0.1 C0.2.1 dJ6_bitCount_0f7a4_15 rfl (lv_at hl 0 rfl) ?_
  refine lv_iconst (v := I 2) C0.1 C0.2.1 dJ6_bitCount_0f7a4_16 rfl ?_
  obtain ⟨v5, e_v5, i_v5, h⟩ := opure_s h (bushr_in _ _)
  refine x_ushr C0 e_v5 dJ6_bitCount_0f7a4_17 ?_
  refine x_ldcw (v := 858993459) C0 ck_J6_266 (by decide +kernel) dJ6_bitCount_0f7a4_18 ?_
  obtain ⟨v6, e_v6, i_v6, h⟩ := opure_s h (band_in _ _)
  refine x_and C0 e_v6 dJ6_bitCount_0f7a4_21 ?_
  obtain ⟨v7, e_v7, i_v7, h⟩ := oadd_s h
  refine x_add C0 e_v7 dJ6_bitCount_0f7a4_22 ?_
  refine lv_istore_n (lv' := [(0, .int (I v7))]) C0.1 C0.2.1 dJ6_bitCount_0f7a4_23 rfl hl (by decide) rfl (fun ls hl => ?_)
  refine lv_iload_n C0.1 C0.2.1 dJ6_bitCount_0f7a4_24 rfl (lv_at hl 0 rfl) ?_
  refine lv_iload_n C0.1 C0.2.1 dJ6_bitCount_0f7a4_25 rfl (lv_at hl 0 rfl) ?_
  refine lv_iconst (v := I 4) C0.1 C0.2.1 dJ6_bitCount_0f7a4_26 rfl ?_
  obtain ⟨v8, e_v8, i_v8, h⟩ := opure_s h (bushr_in _ _)
  refine x_ushr C0 e_v8 dJ6_bitCount_0f7a4_27 ?_
  obtain ⟨v9, e_v9, i_v9, h⟩ := oadd_s h
  refine x_add C0 e_v9 dJ6_bitCount_0f7a4_28 ?_
  refine x_ldcw (v := 252645135) C0 ck_J6_267 (by decide +kernel) dJ6_bitCount_0f7a4_29 ?_
  obtain ⟨v10, e_v10, i_v10, h⟩ := opure_s h (band_in _ _)
  refine x_and C0 e_v10 dJ6_bitCount_0f7a4_32 ?_
  refine lv_istore_n (lv' := [(0, .int (I v10))]) C0.1 C0.2.1 dJ6_bitCount_0f7a4_33 rfl hl (by decide) rfl (fun ls hl => ?_)
  refine lv_iload_n C0.1 C0.2.1 dJ6_bitCount_0f7a4_34 rfl (lv_at hl 0 rfl) ?_
  refine lv_iload_n C0.1 C0.2.1 dJ6_bitCount_0f7a4_35 rfl (lv_at hl 0 rfl) ?_
  refine lv_bipush (v := I 8) C0.1 C0.2.1 dJ6_bitCount_0f7a4_36 (by decide +kernel) ?_
  obtain ⟨v11, e_v11, i_v11, h⟩ := opure_s h (bushr_in _ _)
  refine x_ushr C0 e_v11 dJ6_bitCount_0f7a4_38 ?_
  obtain ⟨v12, e_v12, i_v12, h⟩ := oadd_s h
  refine x_add C0 e_v12 dJ6_bitCount_0f7a4_39 ?_
  refine lv_istore_n (lv' := [(0, .int (I v12))]) C0.1 C0.2.1 dJ6_bitCount_0f7a4_40 rfl hl (by decide) rfl (fun ls hl => ?_)
  refine lv_iload_n C0.1 C0.2.1 dJ6_bitCount_0f7a4_41 rfl (lv_at hl 0 rfl) ?_
  refine lv_iload_n C0.1 C0.2.1 dJ6_bitCount_0f7a4_42 rfl (lv_at hl 0 rfl) ?_
  refine lv_bipush (v := I 16) C0.1 C0.2.1 dJ6_bitCount_0f7a4_43 (by decide +kernel) ?_
  obtain ⟨v13, e_v13, i_v13, h⟩ := opure_s h (bushr_in _ _)
  refine x_ushr C0 e_v13 dJ6_bitCount_0f7a4_45 ?_
  obtain ⟨v14, e_v14, i_v14, h⟩ := oadd_s h
  refine x_add C0 e_v14 dJ6_bitCount_0f7a4_46 ?_
  refine lv_istore_n (lv' := [(0, .int (I v14))]) C0.1 C0.2.1 dJ6_bitCount_0f7a4_47 rfl hl (by decide) rfl (fun ls hl => ?_)
  refine lv_iload_n C0.1 C0.2.1 dJ6_bitCount_0f7a4_48 rfl (lv_at hl 0 rfl) ?_
  refine lv_bipush (v := I 63) C0.1 C0.2.1 dJ6_bitCount_0f7a4_49 (by decide +kernel) ?_
  obtain ⟨v15, e_v15, i_v15, h⟩ := opure_s h (band_in _ _)
  refine x_and C0 e_v15 dJ6_bitCount_0f7a4_51 ?_
  exact pret_i C0 hr hlk hE h i_v15 dJ6_bitCount_0f7a4_52
set_option maxRecDepth 100000 in
set_option maxHeartbeats 4000000 in
theorem c_Shape_stride (l : Launch) (D : va_G) (g : Ad) {σ : St} {p1 r : Int} (i_p1 : in32 p1) (h : Shape_stride p1 = some r) : CtI l D g yX3_stride cX3_stride 2 (some .int) 1 (wE g σ) (wE g σ) [.int (I p1)] r (in32 r) := by
  intro sz
  refine met_of (by decide) (Nat.le_of_ble_eq_true rfl) (fun p e s m args below meth c ls H locs C0 hml hr hlk hE hl => ?_)
  have C0 : CX p c cX3_stride m s args D g RX3 := C0
  have hl : lv_has ls 2 [(0, .int (I p1))] := hl
  unfold Shape_stride at h
  refine lv_iload_n C0.1 C0.2.1 dX3_stride_0 rfl (lv_at hl 0 rfl) ?_
  refine lv_iconst (v := I 1) C0.1 C0.2.1 dX3_stride_1 rfl ?_
  obtain ⟨v1, e_v1, i_v1, h⟩ := oadd_s h
  refine x_add C0 e_v1 dX3_stride_2 ?_
  refine lv_istore_n (lv' := [(1, .int (I v1)), (0, .int (I p1))]) C0.1 C0.2.1 dX3_stride_3 rfl hl (by decide) rfl (fun ls hl => ?_)
  refine lv_iload_n C0.1 C0.2.1 dX3_stride_4 rfl (lv_at hl 0 rfl) ?_
  refine lv_iload_n C0.1 C0.2.1 dX3_stride_5 rfl (lv_at hl 0 rfl) ?_
  refine lv_iconst (v := I 1) C0.1 C0.2.1 dX3_stride_6 rfl ?_
  obtain ⟨v2, e_v2, i_v2, h⟩ := opure_s h (bshr_in _ _)
  refine x_shr C0 e_v2 dX3_stride_7 ?_
  obtain ⟨v3, e_v3, i_v3, h⟩ := opure_s h (bor_in _ _)
  refine x_or C0 e_v3 dX3_stride_8 ?_
  refine lv_istore_n (lv' := [(1, .int (I v3)), (0, .int (I p1))]) C0.1 C0.2.1 dX3_stride_9 rfl hl (by decide) rfl (fun ls hl => ?_)
  refine lv_iload_n C0.1 C0.2.1 dX3_stride_10 rfl (lv_at hl 0 rfl) ?_
  refine lv_iload_n C0.1 C0.2.1 dX3_stride_11 rfl (lv_at hl 0 rfl) ?_
  refine lv_iconst (v := I 2) C0.1 C0.2.1 dX3_stride_12 rfl ?_
  obtain ⟨v4, e_v4, i_v4, h⟩ := opure_s h (bshr_in _ _)
  refine x_shr C0 e_v4 dX3_stride_13 ?_
  obtain ⟨v5, e_v5, i_v5, h⟩ := opure_s h (bor_in _ _)
  refine x_or C0 e_v5 dX3_stride_14 ?_
  refine lv_istore_n (lv' := [(1, .int (I v5)), (0, .int (I p1))]) C0.1 C0.2.1 dX3_stride_15 rfl hl (by decide) rfl (fun ls hl => ?_)
  refine lv_iload_n C0.1 C0.2.1 dX3_stride_16 rfl (lv_at hl 0 rfl) ?_
  refine lv_iload_n C0.1 C0.2.1 dX3_stride_17 rfl (lv_at hl 0 rfl) ?_
  refine lv_iconst (v := I 4) C0.1 C0.2.1 dX3_stride_18 rfl ?_
  obtain ⟨v6, e_v6, i_v6, h⟩ := opure_s h (bshr_in _ _)
  refine x_shr C0 e_v6 dX3_stride_19 ?_
  obtain ⟨v7, e_v7, i_v7, h⟩ := opure_s h (bor_in _ _)
  refine x_or C0 e_v7 dX3_stride_20 ?_
  refine lv_istore_n (lv' := [(1, .int (I v7)), (0, .int (I p1))]) C0.1 C0.2.1 dX3_stride_21 rfl hl (by decide) rfl (fun ls hl => ?_)
  refine lv_iload_n C0.1 C0.2.1 dX3_stride_22 rfl (lv_at hl 0 rfl) ?_
  refine lv_iload_n C0.1 C0.2.1 dX3_stride_23 rfl (lv_at hl 0 rfl) ?_
  refine lv_bipush (v := I 8) C0.1 C0.2.1 dX3_stride_24 (by decide +kernel) ?_
  obtain ⟨v8, e_v8, i_v8, h⟩ := opure_s h (bshr_in _ _)
  refine x_shr C0 e_v8 dX3_stride_26 ?_
  obtain ⟨v9, e_v9, i_v9, h⟩ := opure_s h (bor_in _ _)
  refine x_or C0 e_v9 dX3_stride_27 ?_
  refine lv_istore_n (lv' := [(1, .int (I v9)), (0, .int (I p1))]) C0.1 C0.2.1 dX3_stride_28 rfl hl (by decide) rfl (fun ls hl => ?_)
  refine lv_iload_n C0.1 C0.2.1 dX3_stride_29 rfl (lv_at hl 0 rfl) ?_
  refine lv_iload_n C0.1 C0.2.1 dX3_stride_30 rfl (lv_at hl 0 rfl) ?_
  refine lv_iconst (v := I 1) C0.1 C0.2.1 dX3_stride_31 rfl ?_
  obtain ⟨v10, e_v10, i_v10, h⟩ := opure_s h (bshr_in _ _)
  refine x_shr C0 e_v10 dX3_stride_32 ?_
  obtain ⟨v11, e_v11, i_v11, h⟩ := osub_s h
  refine x_sub C0 e_v11 dX3_stride_33 ?_
  exact pret_i C0 hr hlk hE h i_v11 dX3_stride_34
set_option maxRecDepth 100000 in
set_option maxHeartbeats 4000000 in
theorem c_Shape_depth (l : Launch) (D : va_G) (g : Ad) {σ : St} {p1 r : Int} (i_p1 : in32 p1) (h : Shape_depth p1 = some r) : CtI l D g yX3_depth cX3_depth 1 (some .int) 2 (wE g σ) (wE g σ) [.int (I p1)] r (in32 r) := by
  intro sz
  refine met_of (by decide) (Nat.le_of_ble_eq_true rfl) (fun p e s m args below meth c ls H locs C0 hml hr hlk hE hl => ?_)
  have C0 : CX p c cX3_depth m s args D g RX3 := C0
  have hl : lv_has ls 1 [(0, .int (I p1))] := hl
  unfold Shape_depth at h
  refine lv_iload_n C0.1 C0.2.1 dX3_depth_0 rfl (lv_at hl 0 rfl) ?_
  obtain ⟨v1, h_v1, h⟩ := bndp_s h
  refine callS_i (rest := []) C0 hml hE (c_Shape_stride l D g (σ := σ) i_p1 h_v1) kw_X3_9 ⟨Nat.le_of_ble_eq_true rfl, Nat.le_of_ble_eq_true rfl⟩ rfl hl.1 rfl (Nat.le_of_ble_eq_true rfl) dX3_depth_1 ⟨Nat.zero_le _, Nat.zero_le _⟩ (fun H locs hE i_v1 => ?_)
  refine lv_iconst (v := I 1) C0.1 C0.2.1 dX3_depth_4 rfl ?_
  obtain ⟨v2, e_v2, i_v2, h⟩ := osub_s h
  refine x_sub C0 e_v2 dX3_depth_5 ?_
  obtain ⟨v3, h_v3, h⟩ := bndp_s h
  refine callS_i (rest := []) C0 hml hE (c_Jint_bitCount l D g (σ := σ) i_v2 h_v3) kw_X3_15 ⟨Nat.le_of_ble_eq_true rfl, Nat.le_of_ble_eq_true rfl⟩ rfl hl.1 rfl (Nat.le_of_ble_eq_true rfl) dX3_depth_6 ⟨Nat.zero_le _, Nat.zero_le _⟩ (fun H locs hE i_v3 => ?_)
  exact pret_i C0 hr hlk hE h i_v3 dX3_depth_9
set_option maxRecDepth 100000 in
set_option maxHeartbeats 4000000 in
theorem c_Pool_alike (l : Launch) (D : va_G) (g : Ad) {σ σr : St} {p1 p2 r : Int} (hR : R32 σ) (i_p1 : in32 p1) (i_p2 : in32 p2) (h : Pool_alike σ p1 p2 = some (r, σr)) : CtI l D g yX0_alike cX0_alike 8 (some .int) 3 (wE g σ) (wE g σr) [.ref (g.2 1), .int (I p1), .int (I p2)] r (in32 r ∧ R32 σr) := by
  intro sz
  refine met_of (by decide) (Nat.le_of_ble_eq_true rfl) (fun p e s m args below meth c ls H locs C0 hml hr hlk hE hl => ?_)
  have C0 : CX p c cX0_alike m s args D g RX0 := C0
  have hl : lv_has ls 8 [(0, .ref (g.2 1)), (1, .int (I p1)), (2, .int (I p2))] := hl
  unfold Pool_alike at h
  refine lv_iconst (v := I 0) C0.1 C0.2.1 dX0_alike_0 rfl ?_
  refine lv_istore_n (lv' := [(3, .int (I 0)), (0, .ref (g.2 1)), (1, .int (I p1)), (2, .int (I p2))]) C0.1 C0.2.1 dX0_alike_1 rfl hl (by decide) rfl (fun ls hl => ?_)
  refine lv_aload_n C0.1 C0.2.1 dX0_alike_2 rfl (lv_at hl 1 rfl) ?_
  refine lv_iload_n C0.1 C0.2.1 dX0_alike_3 rfl (lv_at hl 3 rfl) ?_
  refine lv_iconst (v := I 0) C0.1 C0.2.1 dX0_alike_4 rfl ?_
  refine lv_iconst (v := I 0) C0.1 C0.2.1 dX0_alike_5 rfl ?_
  obtain ⟨v1, s2, h_v1, h⟩ := bnd_s h
  refine callV_i (rest := []) C0 hml hE (Pool_rec C0 hE) (c_Pool_make l D g hR i_p2 lit_0 lit_0 h_v1) kw_X0_76 ⟨Nat.le_of_ble_eq_true rfl, Nat.le_of_ble_eq_true rfl⟩ rfl hl.1 rfl (Nat.le_of_ble_eq_true rfl) dX0_alike_6 ⟨Nat.zero_le _, Nat.zero_le _⟩ (fun H locs hE ⟨i_v1, hR⟩ => ?_)
  refine lv_istore (lv' := [(4, .int (I v1)), (3, .int (I 0)), (0, .ref (g.2 1)), (1, .int (I p1)), (2, .int (I p2))]) C0.1 C0.2.1 dX0_alike_9 hl (by decide) rfl (fun ls hl => ?_)
  refine lv_iload_n C0.1 C0.2.1 dX0_alike_11 rfl (lv_at hl 3 rfl) ?_
  obtain ⟨v3, h_v3, h⟩ := bndp_s h
  refine callS_i (rest := []) C0 hml hE (c_Shape_depth l D g (σ := s2) i_p1 h_v3) kw_X0_87 ⟨Nat.le_of_ble_eq_true rfl, Nat.le_of_ble_eq_true rfl⟩ rfl hl.1 rfl (Nat.le_of_ble_eq_true rfl) dX0_alike_12 ⟨Nat.zero_le _, Nat.zero_le _⟩ (fun H locs hE i_v3 => ?_)
  refine lv_iconst (v := I 1) C0.1 C0.2.1 dX0_alike_15 rfl ?_
  obtain ⟨v4, e_v4, i_v4, h⟩ := osub_s h
  refine x_sub C0 e_v4 dX0_alike_16 ?_
  refine lv_istore (lv' := [(5, .int (I v4)), (4, .int (I v1)), (3, .int (I 0)), (0, .ref (g.2 1)), (1, .int (I p1)), (2, .int (I p2))]) C0.1 C0.2.1 dX0_alike_17 hl (by decide) rfl (fun ls hl => ?_)
  have hL19 : ∀ (n : Nat) (s9 : St) (hR : R32 s9) (x5 : Int) (i_x5 : in32 x5) (x6 : Int) (i_x6 : in32 x6) (x7 : Int) (i_x7 : in32 x7) (H : Heap) (locs : List Loc) (ls : Array Slot), EW D (va_A (wE g σ) sz) s.heap (wE g s9) H locs → lv_has ls 8 [(0, .ref (g.2 1)), (1, .int (I p1)), (2, .int (I p2)), (3, .int (I x5)), (4, .int (I x6)), (5, .int (I x7))] → Pool_alike_L19 p1 p2 n s9 x5 x6 x7 = some (r, σr) → W p l e (rmk 3) s m args below meth c H locs 0 0 (MQ below (QCi D (wE g σr) r (in32 r ∧ R32 σr) (va_A (wE g σ) sz)) args s 0 0 (va_A (wE g σ) sz)) (F0 m 19 ls []) := by
    intro n
    induction n with
    | zero => intros; rename_i h; cases h
    | succ n ih8 =>
      intro s9 hR x5 i_x5 x6 i_x6 x7 i_x7 H locs ls hE hl h
      unfold Pool_alike_L19 at h
      refine lv_iload C0.1 C0.2.1 dX0_alike_19 (lv_at hl 5 rfl) ?_
      refine x_if_lt C0 i_x7 dX0_alike_21 (tgt := 103) (by decide) (fun c9 => ?_) (fun c9 => ?_)
      · have h := ite_t c9 h
        refine lv_iload_n C0.1 C0.2.1 dX0_alike_103 rfl (lv_at hl 3 rfl) ?_
        exact ret_i (wf := wE g) C0 hr hlk hE h i_x5 hR dX0_alike_104
      · have h := ite_f c9 h
        refine lv_iload_n C0.1 C0.2.1 dX0_alike_24 rfl (lv_at hl 1 rfl) ?_
        refine lv_iconst (v := I 1) C0.1 C0.2.1 dX0_alike_25 rfl ?_
        obtain ⟨v10, e_v10, i_v10, h⟩ := oadd_s h
        refine x_add C0 e_v10 dX0_alike_26 ?_
        refine lv_iload C0.1 C0.2.1 dX0_alike_27 (lv_at hl 5 rfl) ?_
        obtain ⟨v11, e_v11, i_v11, h⟩ := opure_s h (bshr_in _ _)
        refine x_shr C0 e_v11 dX0_alike_29 ?_
        refine lv_iconst (v := I 2) C0.1 C0.2.1 dX0_alike_30 rfl ?_
        obtain ⟨v12, e_v12, i_v12, h⟩ := orem_s lit_2 h
        refine x_rem C0 i_v11 lit_2 e_v12 dX0_alike_31 ?_
        obtain ⟨v13, e_v13, i_v13, h⟩ := oif_s h
        have kk_v13 : W p l e (rmk 3) s m args below meth c H locs 0 0 (MQ below (QCi D (wE g σr) r (in32 r ∧ R32 σr) (va_A (wE g σ) sz)) args s 0 0 (va_A (wE g σ) sz)) (F0 m 40 ls [.int (I v13)]) := by
          refine lv_istore (lv' := [(6, .int (I v13)), (0, .ref (g.2 1)), (1, .int (I p1)), (2, .int (I p2)), (3, .int (I x5)), (4, .int (I x6)), (5, .int (I x7))]) C0.1 C0.2.1 dX0_alike_40 hl (by decide) rfl (fun ls hl => ?_)
          refine lv_iload C0.1 C0.2.1 dX0_alike_42 (lv_at hl 0 rfl) ?_
          obtain ⟨k16, e_k16, h⟩ := jn_s h
          have h_k16 : ∀ (s14 : St) (hR : R32 s14) (x15 : Int) (i_x15 : in32 x15) (H : Heap) (locs : List Loc) (ls : Array Slot), EW D (va_A (wE g σ) sz) s.heap (wE g s14) H locs → lv_has ls 8 [(0, .ref (g.2 1)), (1, .int (I p1)), (2, .int (I p2)), (3, .int (I x5)), (4, .int (I x6)), (5, .int (I x7)), (6, .int (I v13))] → k16 s14 x15 = some (r, σr) → W p l e (rmk 3) s m args below meth c H locs 0 0 (MQ below (QCi D (wE g σr) r (in32 r ∧ R32 σr) (va_A (wE g σ) sz)) args s 0 0 (va_A (wE g σ) sz)) (F0 m 65 ls [.int (I x15)]) := by
            intro s14 hR x15 i_x15 H locs ls hE hl h
            have h := (congrFun (congrFun e_k16 s14) x15).symm.trans h
            refine lv_istore (lv' := [(7, .int (I x15)), (0, .ref (g.2 1)), (1, .int (I p1)), (2, .int (I p2)), (3, .int (I x5)), (4, .int (I x6)), (5, .int (I x7)), (6, .int (I v13))]) C0.1 C0.2.1 dX0_alike_65 hl (by decide) rfl (fun ls hl => ?_)
            refine lv_iload C0.1 C0.2.1 dX0_alike_67 (lv_at hl 7 rfl) ?_
            obtain ⟨k19, e_k19, h⟩ := jn_s h
            have h_k19 : ∀ (s17 : St) (hR : R32 s17) (x18 : Int) (i_x18 : in32 x18) (H : Heap) (locs : List Loc) (ls : Array Slot), EW D (va_A (wE g σ) sz) s.heap (wE g s17) H locs → lv_has ls 8 [(0, .ref (g.2 1)), (1, .int (I p1)), (2, .int (I p2)), (5, .int (I x7)), (7, .int (I x15))] → k19 s17 x18 = some (r, σr) → W p l e (rmk 3) s m args below meth c H locs 0 0 (MQ below (QCi D (wE g σr) r (in32 r ∧ R32 σr) (va_A (wE g σ) sz)) args s 0 0 (va_A (wE g σ) sz)) (F0 m 92 ls [.int (I x18)]) := by
              intro s17 hR x18 i_x18 H locs ls hE hl h
              have h := (congrFun (congrFun e_k19 s17) x18).symm.trans h
              refine lv_istore (lv' := [(4, .int (I x18)), (0, .ref (g.2 1)), (1, .int (I p1)), (2, .int (I p2)), (5, .int (I x7)), (7, .int (I x15))]) C0.1 C0.2.1 dX0_alike_92 hl (by decide) rfl (fun ls hl => ?_)
              refine lv_iload C0.1 C0.2.1 dX0_alike_94 (lv_at hl 5 rfl) ?_
              refine lv_istore_n (lv' := [(3, .int (I x15)), (4, .int (I x18)), (0, .ref (g.2 1)), (1, .int (I p1)), (2, .int (I p2)), (5, .int (I x7)), (7, .int (I x15))]) C0.1 C0.2.1 dX0_alike_96 rfl hl (by decide) rfl (fun ls hl => ?_)
              obtain ⟨v20, e_v20, i_v20, h⟩ := oadd_s h
              refine x_iinc (lv' := [(5, .int (I v20)), (3, .int (I x15)), (4, .int (I x18)), (0, .ref (g.2 1)), (1, .int (I p1)), (2, .int (I p2)), (7, .int (I x15))]) C0 dX0_alike_97 hl (k := 5) rfl e_v20 (by decide) rfl (fun ls hl => ?_)
              refine x_goto C0 dX0_alike_100 (tgt := 19) (by decide) ?_
              exact ih8 s17 hR x15 i_x15 x18 i_x18 v20 i_v20 _ _ _ hE (lv_sub hl [3, 4, 5, 1, 2, 0] rfl) h
            refine x_if_eq C0 i_v13 dX0_alike_69 (tgt := 83) (by decide) (fun c9 => ?_) (fun c9 => ?_)
            · have h := ite_t c9 h
              refine lv_aload_n C0.1 C0.2.1 dX0_alike_83 rfl (lv_at hl 1 rfl) ?_
              refine lv_iload_n C0.1 C0.2.1 dX0_alike_84 rfl (lv_at hl 3 rfl) ?_
              refine lv_iload C0.1 C0.2.1 dX0_alike_85 (lv_at hl 5 rfl) ?_
              refine lv_iload C0.1 C0.2.1 dX0_alike_87 (lv_at hl 5 rfl) ?_
              obtain ⟨v21, s22, h_v21, h⟩ := bnd_s h
              refine callV_i (rest := []) C0 hml hE (Pool_rec C0 hE) (c_Pool_make l D g hR i_p2 i_x6 i_x6 h_v21) kw_X0_76 ⟨Nat.le_of_ble_eq_true rfl, Nat.le_of_ble_eq_true rfl⟩ rfl hl.1 rfl (Nat.le_of_ble_eq_true rfl) dX0_alike_89 ⟨Nat.zero_le _, Nat.zero_le _⟩ (fun H locs hE ⟨i_v21, hR⟩ => ?_)
              exact h_k19 s22 hR v21 i_v21 _ _ _ hE (lv_sub hl [1, 2, 3, 6, 0] rfl) h
            · have h := ite_f c9 h
              refine lv_aload_n C0.1 C0.2.1 dX0_alike_72 rfl (lv_at hl 1 rfl) ?_
              refine lv_iload_n C0.1 C0.2.1 dX0_alike_73 rfl (lv_at hl 3 rfl) ?_
              refine lv_iload C0.1 C0.2.1 dX0_alike_74 (lv_at hl 5 rfl) ?_
              refine lv_iload_n C0.1 C0.2.1 dX0_alike_76 rfl (lv_at hl 4 rfl) ?_
              obtain ⟨v23, s24, h_v23, h⟩ := bnd_s h
              refine callV_i (rest := []) C0 hml hE (Pool_rec C0 hE) (c_Pool_make l D g hR i_p2 i_x6 i_x5 h_v23) kw_X0_76 ⟨Nat.le_of_ble_eq_true rfl, Nat.le_of_ble_eq_true rfl⟩ rfl hl.1 rfl (Nat.le_of_ble_eq_true rfl) dX0_alike_77 ⟨Nat.zero_le _, Nat.zero_le _⟩ (fun H locs hE ⟨i_v23, hR⟩ => ?_)
              refine x_goto C0 dX0_alike_80 (tgt := 92) (by decide) ?_
              exact h_k19 s24 hR v23 i_v23 _ _ _ hE (lv_sub hl [1, 2, 3, 6, 0] rfl) h
          refine x_if_eq C0 i_v13 dX0_alike_44 (tgt := 57) (by decide) (fun c9 => ?_) (fun c9 => ?_)
          · have h := ite_t c9 h
            refine lv_aload_n C0.1 C0.2.1 dX0_alike_57 rfl (lv_at hl 1 rfl) ?_
            refine lv_iload_n C0.1 C0.2.1 dX0_alike_58 rfl (lv_at hl 3 rfl) ?_
            refine lv_iload C0.1 C0.2.1 dX0_alike_59 (lv_at hl 5 rfl) ?_
            refine lv_iload_n C0.1 C0.2.1 dX0_alike_61 rfl (lv_at hl 4 rfl) ?_
            obtain ⟨v25, s26, h_v25, h⟩ := bnd_s h
            refine callV_i (rest := []) C0 hml hE (Pool_rec C0 hE) (c_Pool_make l D g hR i_p2 i_x6 i_x5 h_v25) kw_X0_76 ⟨Nat.le_of_ble_eq_true rfl, Nat.le_of_ble_eq_true rfl⟩ rfl hl.1 rfl (Nat.le_of_ble_eq_true rfl) dX0_alike_62 ⟨Nat.zero_le _, Nat.zero_le _⟩ (fun H locs hE ⟨i_v25, hR⟩ => ?_)
            exact h_k16 s26 hR v25 i_v25 _ _ _ hE (lv_sub hl [1, 2, 3, 4, 5, 6, 0] rfl) h
          · have h := ite_f c9 h
            refine lv_aload_n C0.1 C0.2.1 dX0_alike_47 rfl (lv_at hl 1 rfl) ?_
            refine lv_iload_n C0.1 C0.2.1 dX0_alike_48 rfl (lv_at hl 3 rfl) ?_
            refine lv_iload_n C0.1 C0.2.1 dX0_alike_49 rfl (lv_at hl 4 rfl) ?_
            refine lv_iload_n C0.1 C0.2.1 dX0_alike_50 rfl (lv_at hl 4 rfl) ?_
            obtain ⟨v27, s28, h_v27, h⟩ := bnd_s h
            refine callV_i (rest := []) C0 hml hE (Pool_rec C0 hE) (c_Pool_make l D g hR i_p2 i_x5 i_x5 h_v27) kw_X0_76 ⟨Nat.le_of_ble_eq_true rfl, Nat.le_of_ble_eq_true rfl⟩ rfl hl.1 rfl (Nat.le_of_ble_eq_true rfl) dX0_alike_51 ⟨Nat.zero_le _, Nat.zero_le _⟩ (fun H locs hE ⟨i_v27, hR⟩ => ?_)
            refine x_goto C0 dX0_alike_54 (tgt := 65) (by decide) ?_
            exact h_k16 s28 hR v27 i_v27 _ _ _ hE (lv_sub hl [1, 2, 3, 4, 5, 6, 0] rfl) h
        refine x_if_ne C0 i_v12 dX0_alike_32 (tgt := 39) (by decide) (fun c9 => ?_) (fun c9 => ?_)
        · have e9 := e_v13.trans (if_neg c9)
          refine lv_iconst (v := I 0) C0.1 C0.2.1 dX0_alike_39 rfl ?_
          rw [e9] at kk_v13; exact kk_v13
        · have e9 := e_v13.trans (if_pos c9)
          refine lv_iconst (v := I 1) C0.1 C0.2.1 dX0_alike_35 rfl ?_
          refine x_goto C0 dX0_alike_36 (tgt := 40) (by decide) ?_
          rw [e9] at kk_v13; exact kk_v13
  exact hL19 FU s2 hR 0 lit_0 v1 i_v1 v4 i_v4 _ _ _ hE (lv_sub hl [3, 4, 5, 2, 1, 0] rfl) h
set_option maxRecDepth 100000 in
set_option maxHeartbeats 4000000 in
theorem c_Jarr_fill_kept (l : Launch) (D : va_G) (g : Ad) {σ σr : St} {p2 r : Int} (hR : R32 σ) (i_p2 : in32 p2) (h : Jarr_fill_kept σ p2 = some (r, σr)) : CtV l D g yJ7_fill_53178 cJ7_fill_53178 4 none 1 (wE g σ) (wE g σr) [.ref (g.2 10), .int (I p2)] (R32 σr) := by
  intro sz
  refine met_of (by decide) (Nat.le_of_ble_eq_true rfl) (fun p e s m args below meth c ls H locs C0 hml hr hlk hE hl => ?_)
  have C0 : CX p c cJ7_fill_53178 m s args D g RJ7 := C0
  have hl : lv_has ls 4 [(0, .ref (g.2 10)), (1, .int (I p2))] := hl
  unfold Jarr_fill_kept at h
  refine lv_iconst (v := I 0) C0.1 C0.2.1 dJ7_fill_53178_0 rfl ?_
  refine lv_istore_n (lv' := [(2, .int (I 0)), (0, .ref (g.2 10)), (1, .int (I p2))]) C0.1 C0.2.1 dJ7_fill_53178_1 rfl hl (by decide) rfl (fun ls hl => ?_)
  refine lv_aload_n C0.1 C0.2.1 dJ7_fill_53178_2 rfl (lv_at hl 1 rfl) ?_
  refine Pool_kept_len C0 hE dJ7_fill_53178_3 ?_
  refine lv_istore_n (lv' := [(3, .int (I 6144)), (2, .int (I 0)), (0, .ref (g.2 10)), (1, .int (I p2))]) C0.1 C0.2.1 dJ7_fill_53178_4 rfl hl (by decide) rfl (fun ls hl => ?_)
  have hL5 : ∀ (n : Nat) (s3 : St) (hR : R32 s3) (x1 : Int) (i_x1 : in32 x1) (H : Heap) (locs : List Loc) (ls : Array Slot), EW D (va_A (wE g σ) sz) s.heap (wE g s3) H locs → lv_has ls 4 [(0, .ref (g.2 10)), (1, .int (I p2)), (2, .int (I x1)), (3, .int (I 6144))] → Jarr_fill_kept_L5 p2 n s3 x1 = some (r, σr) → W p l e (rmk 1) s m args below meth c H locs 0 0 (MQ below (QCv D (wE g σr) (R32 σr) (va_A (wE g σ) sz)) args s 0 0 (va_A (wE g σ) sz)) (F0 m 5 ls []) := by
    intro n
    induction n with
    | zero => intros; rename_i h; cases h
    | succ n ih2 =>
      intro s3 hR x1 i_x1 H locs ls hE hl h
      unfold Jarr_fill_kept_L5 at h
      refine lv_iload_n C0.1 C0.2.1 dJ7_fill_53178_5 rfl (lv_at hl 2 rfl) ?_
      refine lv_iload_n C0.1 C0.2.1 dJ7_fill_53178_6 rfl (lv_at hl 3 rfl) ?_
      refine x_icmp_ge C0 i_x1 lit_6144 dJ7_fill_53178_7 (tgt := 20) (by decide) (fun c9 => ?_) (fun c9 => ?_)
      · have h := ite_f c9 h
        exact ret_v (wf := wE g) C0 hr hlk hE h hR dJ7_fill_53178_20
      · have h := ite_t c9 h
        refine lv_aload_n C0.1 C0.2.1 dJ7_fill_53178_10 rfl (lv_at hl 0 rfl) ?_
        refine lv_iload_n C0.1 C0.2.1 dJ7_fill_53178_11 rfl (lv_at hl 2 rfl) ?_
        refine lv_iload_n C0.1 C0.2.1 dJ7_fill_53178_12 rfl (lv_at hl 1 rfl) ?_
        obtain ⟨s4, e_s4, hR, h⟩ := wr_s hR i_p2 h
        refine Pool_kept_st C0 hE i_x1 e_s4 dJ7_fill_53178_13 (fun H locs hE => ?_)
        obtain ⟨v5, e_v5, i_v5, h⟩ := oadd_s h
        refine x_iinc (lv' := [(2, .int (I v5)), (0, .ref (g.2 10)), (1, .int (I p2)), (3, .int (I 6144))]) C0 dJ7_fill_53178_14 hl (k := 2) rfl e_v5 (by decide) rfl (fun ls hl => ?_)
        refine x_goto C0 dJ7_fill_53178_17 (tgt := 5) (by decide) ?_
        exact ih2 s4 hR v5 i_v5 _ _ _ hE (lv_sub hl [1, 2, 0, 3] rfl) h
  exact hL5 FU σ hR 0 lit_0 _ _ _ hE (lv_sub hl [2, 3, 1, 0] rfl) h
set_option maxRecDepth 100000 in
set_option maxHeartbeats 4000000 in
theorem c_Pool_forgetKept (l : Launch) (D : va_G) (g : Ad) {σ σr : St} {r : Int} (hR : R32 σ) (h : Pool_forgetKept σ = some (r, σr)) : CtV l D g yX0_forgetKept cX0_forgetKept 1 none 2 (wE g σ) (wE g σr) [.ref (g.2 1)] (R32 σr) := by
  intro sz
  refine met_of (by decide) (Nat.le_of_ble_eq_true rfl) (fun p e s m args below meth c ls H locs C0 hml hr hlk hE hl => ?_)
  have C0 : CX p c cX0_forgetKept m s args D g RX0 := C0
  have hl : lv_has ls 1 [(0, .ref (g.2 1))] := hl
  unfold Pool_forgetKept at h
  refine lv_aload_n C0.1 C0.2.1 dX0_forgetKept_0 rfl (lv_at hl 0 rfl) ?_
  refine Pool_g_kept C0 hE fk_X0_21 dX0_forgetKept_1 ?_
  refine lv_iconst (v := I 0) C0.1 C0.2.1 dX0_forgetKept_4 rfl ?_
  obtain ⟨v1, s2, h_v1, h⟩ := bnd_s h
  refine callS_v (rest := []) C0 hml hE (c_Jarr_fill_kept l D g hR lit_0 h_v1) kw_X0_43 ⟨Nat.le_of_ble_eq_true rfl, Nat.le_of_ble_eq_true rfl⟩ rfl hl.1 rfl (Nat.le_of_ble_eq_true rfl) dX0_forgetKept_5 ⟨Nat.zero_le _, Nat.zero_le _⟩ (fun H locs hE hR => ?_)
  refine lv_aload_n C0.1 C0.2.1 dX0_forgetKept_8 rfl (lv_at hl 0 rfl) ?_
  refine Pool_g_kept C0 hE fk_X0_21 dX0_forgetKept_9 ?_
  refine lv_iconst (v := I 0) C0.1 C0.2.1 dX0_forgetKept_12 rfl ?_
  refine lv_iconst (v := I 1) C0.1 C0.2.1 dX0_forgetKept_13 rfl ?_
  obtain ⟨s3, e_s3, hR, h⟩ := wr_s hR lit_1 h
  refine Pool_kept_st C0 hE lit_0 e_s3 dX0_forgetKept_14 (fun H locs hE => ?_)
  refine lv_aload_n C0.1 C0.2.1 dX0_forgetKept_15 rfl (lv_at hl 0 rfl) ?_
  refine lv_sipush (v := I 6143) C0.1 C0.2.1 dX0_forgetKept_16 (by decide +kernel) ?_
  obtain ⟨s4, e_s4, hR, h⟩ := pf_s hR lit_6143 h
  refine Pool_p_free C0 hE e_s4 fk_X0_34 dX0_forgetKept_19 (fun H locs hE => ?_)
  refine lv_aload_n C0.1 C0.2.1 dX0_forgetKept_22 rfl (lv_at hl 0 rfl) ?_
  refine lv_iconst (v := I 1) C0.1 C0.2.1 dX0_forgetKept_23 rfl ?_
  obtain ⟨s5, e_s5, hR, h⟩ := pf_s hR lit_1 h
  refine Pool_p_next C0 hE e_s5 fk_X0_30 dX0_forgetKept_24 (fun H locs hE => ?_)
  exact ret_v (wf := wE g) C0 hr hlk hE h hR dX0_forgetKept_27
set_option maxRecDepth 100000 in
set_option maxHeartbeats 4000000 in
theorem c_Pool_hasRoom (l : Launch) (D : va_G) (g : Ad) {σ : St} {r : Int} (hR : R32 σ) (h : Pool_hasRoom σ = some r) : CtI l D g yX0_hasRoom cX0_hasRoom 1 (some .boolean) 1 (wE g σ) (wE g σ) [.ref (g.2 1)] r (in32 r) := by
  intro sz
  refine met_of (by decide) (Nat.le_of_ble_eq_true rfl) (fun p e s m args below meth c ls H locs C0 hml hr hlk hE hl => ?_)
  have C0 : CX p c cX0_hasRoom m s args D g RX0 := C0
  have hl : lv_has ls 1 [(0, .ref (g.2 1))] := hl
  unfold Pool_hasRoom at h
  refine lv_aload_n C0.1 C0.2.1 dX0_hasRoom_0 rfl (lv_at hl 0 rfl) ?_
  obtain ⟨v1, e_v1, i_v1, h⟩ := gf_s hR h
  refine Pool_g_free C0 hE e_v1 fk_X0_34 dX0_hasRoom_1 ?_
  refine lv_sipush (v := I 4096) C0.1 C0.2.1 dX0_hasRoom_4 (by decide +kernel) ?_
  obtain ⟨v2, e_v2, i_v2, h⟩ := oif_s h
  have kk_v2 : W p l e (rmk 1) s m args below meth c H locs 0 0 (MQ below (QCi D (wE g σ) r (in32 r) (va_A (wE g σ) sz)) args s 0 0 (va_A (wE g σ) sz)) (F0 m 15 ls [.int (I v2)]) := by
    obtain ⟨z9, h⟩ := retZp_s h
    exact pret_z C0 hr hlk hE z9 h dX0_hasRoom_15
  refine x_icmp_lt C0 i_v1 lit_4096 dX0_hasRoom_7 (tgt := 14) (by decide) (fun c9 => ?_) (fun c9 => ?_)
  · have e9 := e_v2.trans (if_pos c9)
    refine lv_iconst (v := I 0) C0.1 C0.2.1 dX0_hasRoom_14 rfl ?_
    rw [e9] at kk_v2; exact kk_v2
  · have e9 := e_v2.trans (if_neg c9)
    refine lv_iconst (v := I 1) C0.1 C0.2.1 dX0_hasRoom_10 rfl ?_
    refine x_goto C0 dX0_hasRoom_11 (tgt := 15) (by decide) ?_
    rw [e9] at kk_v2; exact kk_v2
set_option maxRecDepth 100000 in
set_option maxHeartbeats 4000000 in
theorem c_Pool_isNode (l : Launch) (D : va_G) (g : Ad) {σ : St} {p1 r : Int} (i_p1 : in32 p1) (h : Pool_isNode p1 = some r) : CtI l D g yX0_isNode cX0_isNode 1 (some .boolean) 1 (wE g σ) (wE g σ) [.int (I p1)] r (in32 r) := by
  intro sz
  refine met_of (by decide) (Nat.le_of_ble_eq_true rfl) (fun p e s m args below meth c ls H locs C0 hml hr hlk hE hl => ?_)
  have C0 : CX p c cX0_isNode m s args D g RX0 := C0
  have hl : lv_has ls 1 [(0, .int (I p1))] := hl
  unfold Pool_isNode at h
  refine lv_iload_n C0.1 C0.2.1 dX0_isNode_0 rfl (lv_at hl 0 rfl) ?_
  refine x_if_le C0 i_p1 dX0_isNode_1 (tgt := 15) (by decide) (fun c9 => ?_) (fun c9 => ?_)
  · have h := ite_f c9 h
    refine lv_iconst (v := I 0) C0.1 C0.2.1 dX0_isNode_15 rfl ?_
    exact pret_z C0 hr hlk hE (Or.inl rfl) h dX0_isNode_16
  · have h := ite_t c9 h
    refine lv_iload_n C0.1 C0.2.1 dX0_isNode_4 rfl (lv_at hl 0 rfl) ?_
    refine lv_sipush (v := I 6144) C0.1 C0.2.1 dX0_isNode_5 (by decide +kernel) ?_
    refine x_icmp_ge C0 i_p1 lit_6144 dX0_isNode_8 (tgt := 15) (by decide) (fun c9 => ?_) (fun c9 => ?_)
    · have h := ite_f c9 h
      refine lv_iconst (v := I 0) C0.1 C0.2.1 dX0_isNode_15 rfl ?_
      exact pret_z C0 hr hlk hE (Or.inl rfl) h dX0_isNode_16
    · have h := ite_t c9 h
      refine lv_iconst (v := I 1) C0.1 C0.2.1 dX0_isNode_11 rfl ?_
      refine x_goto C0 dX0_isNode_12 (tgt := 16) (by decide) ?_
      exact pret_z C0 hr hlk hE (Or.inr rfl) h dX0_isNode_16
set_option maxRecDepth 100000 in
set_option maxHeartbeats 4000000 in
theorem c_Pool_leftOf (l : Launch) (D : va_G) (g : Ad) {σ : St} {p1 r : Int} (hR : R32 σ) (i_p1 : in32 p1) (h : Pool_leftOf σ p1 = some r) : CtI l D g yX0_leftOf cX0_leftOf 2 (some .int) 2 (wE g σ) (wE g σ) [.ref (g.2 1), .int (I p1)] r (in32 r) := by
  intro sz
  refine met_of (by decide) (Nat.le_of_ble_eq_true rfl) (fun p e s m args below meth c ls H locs C0 hml hr hlk hE hl => ?_)
  have C0 : CX p c cX0_leftOf m s args D g RX0 := C0
  have hl : lv_has ls 2 [(0, .ref (g.2 1)), (1, .int (I p1))] := hl
  unfold Pool_leftOf at h
  refine lv_iload_n C0.1 C0.2.1 dX0_leftOf_0 rfl (lv_at hl 1 rfl) ?_
  obtain ⟨v1, h_v1, h⟩ := bndp_s h
  refine callS_i (rest := []) C0 hml hE (c_Pool_isNode l D g (σ := σ) i_p1 h_v1) kw_X0_53 ⟨Nat.le_of_ble_eq_true rfl, Nat.le_of_ble_eq_true rfl⟩ rfl hl.1 rfl (Nat.le_of_ble_eq_true rfl) dX0_leftOf_1 ⟨Nat.zero_le _, Nat.zero_le _⟩ (fun H locs hE i_v1 => ?_)
  refine x_if_eq C0 i_v1 dX0_leftOf_4 (tgt := 16) (by decide) (fun c9 => ?_) (fun c9 => ?_)
  · have h := ite_t c9 h
    refine lv_iconst (v := I 0) C0.1 C0.2.1 dX0_leftOf_16 rfl ?_
    exact pret_i C0 hr hlk hE h lit_0 dX0_leftOf_17
  · have h := ite_f c9 h
    refine lv_aload_n C0.1 C0.2.1 dX0_leftOf_7 rfl (lv_at hl 0 rfl) ?_
    refine Pool_g_lefts C0 hE fk_X0_15 dX0_leftOf_8 ?_
    refine lv_iload_n C0.1 C0.2.1 dX0_leftOf_11 rfl (lv_at hl 1 rfl) ?_
    obtain ⟨v2, e_v2, i_v2, h⟩ := rd_s hR h
    refine Pool_lefts_l C0 hE i_p1 e_v2 dX0_leftOf_12 ?_
    refine x_goto C0 dX0_leftOf_13 (tgt := 17) (by decide) ?_
    exact pret_i C0 hr hlk hE h i_v2 dX0_leftOf_17
set_option maxRecDepth 100000 in
set_option maxHeartbeats 4000000 in
theorem c_Pool_rightOf (l : Launch) (D : va_G) (g : Ad) {σ : St} {p1 r : Int} (hR : R32 σ) (i_p1 : in32 p1) (h : Pool_rightOf σ p1 = some r) : CtI l D g yX0_rightOf cX0_rightOf 2 (some .int) 2 (wE g σ) (wE g σ) [.ref (g.2 1), .int (I p1)] r (in32 r) := by
  intro sz
  refine met_of (by decide) (Nat.le_of_ble_eq_true rfl) (fun p e s m args below meth c ls H locs C0 hml hr hlk hE hl => ?_)
  have C0 : CX p c cX0_rightOf m s args D g RX0 := C0
  have hl : lv_has ls 2 [(0, .ref (g.2 1)), (1, .int (I p1))] := hl
  unfold Pool_rightOf at h
  refine lv_iload_n C0.1 C0.2.1 dX0_rightOf_0 rfl (lv_at hl 1 rfl) ?_
  obtain ⟨v1, h_v1, h⟩ := bndp_s h
  refine callS_i (rest := []) C0 hml hE (c_Pool_isNode l D g (σ := σ) i_p1 h_v1) kw_X0_53 ⟨Nat.le_of_ble_eq_true rfl, Nat.le_of_ble_eq_true rfl⟩ rfl hl.1 rfl (Nat.le_of_ble_eq_true rfl) dX0_rightOf_1 ⟨Nat.zero_le _, Nat.zero_le _⟩ (fun H locs hE i_v1 => ?_)
  refine x_if_eq C0 i_v1 dX0_rightOf_4 (tgt := 16) (by decide) (fun c9 => ?_) (fun c9 => ?_)
  · have h := ite_t c9 h
    refine lv_iconst (v := I 0) C0.1 C0.2.1 dX0_rightOf_16 rfl ?_
    exact pret_i C0 hr hlk hE h lit_0 dX0_rightOf_17
  · have h := ite_f c9 h
    refine lv_aload_n C0.1 C0.2.1 dX0_rightOf_7 rfl (lv_at hl 0 rfl) ?_
    refine Pool_g_rights C0 hE fk_X0_18 dX0_rightOf_8 ?_
    refine lv_iload_n C0.1 C0.2.1 dX0_rightOf_11 rfl (lv_at hl 1 rfl) ?_
    obtain ⟨v2, e_v2, i_v2, h⟩ := rd_s hR h
    refine Pool_rights_l C0 hE i_p1 e_v2 dX0_rightOf_12 ?_
    refine x_goto C0 dX0_rightOf_13 (tgt := 17) (by decide) ?_
    exact pret_i C0 hr hlk hE h i_v2 dX0_rightOf_17
set_option maxRecDepth 100000 in
set_option maxHeartbeats 4000000 in
theorem c_Pool_spread (l : Launch) (D : va_G) (g : Ad) {σ σr : St} {p1 p2 r : Int} (hR : R32 σ) (i_p1 : in32 p1) (i_p2 : in32 p2) (h : Pool_spread σ p1 p2 = some (r, σr)) : CtV l D g yX0_spread cX0_spread 5 none 3 (wE g σ) (wE g σr) [.ref (g.2 1), .int (I p1), .int (I p2)] (R32 σr) := by
  intro sz
  refine met_of (by decide) (Nat.le_of_ble_eq_true rfl) (fun p e s m args below meth c ls H locs C0 hml hr hlk hE hl => ?_)
  have C0 : CX p c cX0_spread m s args D g RX0 := C0
  have hl : lv_has ls 5 [(0, .ref (g.2 1)), (1, .int (I p1)), (2, .int (I p2))] := hl
  unfold Pool_spread at h
  refine lv_aload_n C0.1 C0.2.1 dX0_spread_0 rfl (lv_at hl 0 rfl) ?_
  refine Pool_g_at C0 hE fk_X0_27 dX0_spread_1 ?_
  refine lv_iconst (v := I 0) C0.1 C0.2.1 dX0_spread_4 rfl ?_
  refine lv_iload_n C0.1 C0.2.1 dX0_spread_5 rfl (lv_at hl 1 rfl) ?_
  obtain ⟨s1, e_s1, hR, h⟩ := wr_s hR i_p1 h
  refine Pool_at_st C0 hE lit_0 e_s1 dX0_spread_6 (fun H locs hE => ?_)
  refine lv_iconst (v := I 0) C0.1 C0.2.1 dX0_spread_7 rfl ?_
  refine lv_istore_n (lv' := [(3, .int (I 0)), (0, .ref (g.2 1)), (1, .int (I p1)), (2, .int (I p2))]) C0.1 C0.2.1 dX0_spread_8 rfl hl (by decide) rfl (fun ls hl => ?_)
  have hL9 : ∀ (n : Nat) (s4 : St) (hR : R32 s4) (x2 : Int) (i_x2 : in32 x2) (H : Heap) (locs : List Loc) (ls : Array Slot), EW D (va_A (wE g σ) sz) s.heap (wE g s4) H locs → lv_has ls 5 [(0, .ref (g.2 1)), (2, .int (I p2)), (3, .int (I x2))] → Pool_spread_L9 p2 n s4 x2 = some (r, σr) → W p l e (rmk 3) s m args below meth c H locs 0 0 (MQ below (QCv D (wE g σr) (R32 σr) (va_A (wE g σ) sz)) args s 0 0 (va_A (wE g σ) sz)) (F0 m 9 ls []) := by
    intro n
    induction n with
    | zero => intros; rename_i h; cases h
    | succ n ih3 =>
      intro s4 hR x2 i_x2 H locs ls hE hl h
      unfold Pool_spread_L9 at h
      refine lv_iload_n C0.1 C0.2.1 dX0_spread_9 rfl (lv_at hl 2 rfl) ?_
      refine lv_iload_n C0.1 C0.2.1 dX0_spread_10 rfl (lv_at hl 1 rfl) ?_
      refine x_icmp_ge C0 i_x2 i_p2 dX0_spread_11 (tgt := 84) (by decide) (fun c9 => ?_) (fun c9 => ?_)
      · have h := ite_f c9 h
        exact ret_v (wf := wE g) C0 hr hlk hE h hR dX0_spread_84
      · have h := ite_t c9 h
        refine lv_iload_n C0.1 C0.2.1 dX0_spread_14 rfl (lv_at hl 2 rfl) ?_
        obtain ⟨v5, h_v5, h⟩ := bndp_s h
        refine callS_i (rest := []) C0 hml hE (c_Shape_stride l D g (σ := s4) i_x2 h_v5) kw_X0_67 ⟨Nat.le_of_ble_eq_true rfl, Nat.le_of_ble_eq_true rfl⟩ rfl hl.1 rfl (Nat.le_of_ble_eq_true rfl) dX0_spread_15 ⟨Nat.zero_le _, Nat.zero_le _⟩ (fun H locs hE i_v5 => ?_)
        refine lv_istore (lv' := [(4, .int (I v5)), (0, .ref (g.2 1)), (2, .int (I p2)), (3, .int (I x2))]) C0.1 C0.2.1 dX0_spread_18 hl (by decide) rfl (fun ls hl => ?_)
        refine lv_iload_n C0.1 C0.2.1 dX0_spread_20 rfl (lv_at hl 3 rfl) ?_
        refine lv_iload C0.1 C0.2.1 dX0_spread_21 (lv_at hl 0 rfl) ?_
        obtain ⟨v6, e_v6, i_v6, h⟩ := oadd_s h
        refine x_add C0 e_v6 dX0_spread_23 ?_
        refine lv_iload_n C0.1 C0.2.1 dX0_spread_24 rfl (lv_at hl 2 rfl) ?_
        obtain ⟨k8, e_k8, h⟩ := jn_s h
        have h_k8 : ∀ (s7 : St) (hR : R32 s7) (H : Heap) (locs : List Loc) (ls : Array Slot), EW D (va_A (wE g σ) sz) s.heap (wE g s7) H locs → lv_has ls 5 [(0, .ref (g.2 1)), (2, .int (I p2)), (3, .int (I x2)), (4, .int (I v5))] → k8 s7 = some (r, σr) → W p l e (rmk 3) s m args below meth c H locs 0 0 (MQ below (QCv D (wE g σr) (R32 σr) (va_A (wE g σ) sz)) args s 0 0 (va_A (wE g σ) sz)) (F0 m 47 ls []) := by
          intro s7 hR H locs ls hE hl h
          have h := (congrFun e_k8 s7).symm.trans h
          refine lv_iload_n C0.1 C0.2.1 dX0_spread_47 rfl (lv_at hl 2 rfl) ?_
          refine lv_iconst (v := I 2) C0.1 C0.2.1 dX0_spread_48 rfl ?_
          refine lv_iload C0.1 C0.2.1 dX0_spread_49 (lv_at hl 3 rfl) ?_
          obtain ⟨v9, e_v9, i_v9, h⟩ := omul_s h
          refine x_mul C0 e_v9 dX0_spread_51 ?_
          obtain ⟨v10, e_v10, i_v10, h⟩ := oadd_s h
          refine x_add C0 e_v10 dX0_spread_52 ?_
          refine lv_iload_n C0.1 C0.2.1 dX0_spread_53 rfl (lv_at hl 1 rfl) ?_
          obtain ⟨k12, e_k12, h⟩ := jn_s h
          have h_k12 : ∀ (s11 : St) (hR : R32 s11) (H : Heap) (locs : List Loc) (ls : Array Slot), EW D (va_A (wE g σ) sz) s.heap (wE g s11) H locs → lv_has ls 5 [(0, .ref (g.2 1)), (2, .int (I p2)), (3, .int (I x2))] → k12 s11 = some (r, σr) → W p l e (rmk 3) s m args below meth c H locs 0 0 (MQ below (QCv D (wE g σr) (R32 σr) (va_A (wE g σ) sz)) args s 0 0 (va_A (wE g σ) sz)) (F0 m 78 ls []) := by
            intro s11 hR H locs ls hE hl h
            have h := (congrFun e_k12 s11).symm.trans h
            obtain ⟨v13, e_v13, i_v13, h⟩ := oadd_s h
            refine x_iinc (lv' := [(3, .int (I v13)), (0, .ref (g.2 1)), (2, .int (I p2))]) C0 dX0_spread_78 hl (k := 2) rfl e_v13 (by decide) rfl (fun ls hl => ?_)
            refine x_goto C0 dX0_spread_81 (tgt := 9) (by decide) ?_
            exact ih3 s11 hR v13 i_v13 _ _ _ hE (lv_sub hl [1, 2, 0] rfl) h
          refine x_icmp_ge C0 i_v10 i_p2 dX0_spread_54 (tgt := 78) (by decide) (fun c9 => ?_) (fun c9 => ?_)
          · have h := ite_f c9 h
            exact h_k12 s7 hR _ _ _ hE (lv_sub hl [0, 1, 2] rfl) h
          · have h := ite_t c9 h
            refine lv_aload_n C0.1 C0.2.1 dX0_spread_57 rfl (lv_at hl 0 rfl) ?_
            refine Pool_g_at C0 hE fk_X0_27 dX0_spread_58 ?_
            refine lv_iload_n C0.1 C0.2.1 dX0_spread_61 rfl (lv_at hl 2 rfl) ?_
            refine lv_iconst (v := I 2) C0.1 C0.2.1 dX0_spread_62 rfl ?_
            refine lv_iload C0.1 C0.2.1 dX0_spread_63 (lv_at hl 3 rfl) ?_
            obtain ⟨v14, e_v14, i_v14, h⟩ := omul_s h
            refine x_mul C0 e_v14 dX0_spread_65 ?_
            obtain ⟨v15, e_v15, i_v15, h⟩ := oadd_s h
            refine x_add C0 e_v15 dX0_spread_66 ?_
            refine lv_aload_n C0.1 C0.2.1 dX0_spread_67 rfl (lv_at hl 0 rfl) ?_
            refine lv_aload_n C0.1 C0.2.1 dX0_spread_68 rfl (lv_at hl 0 rfl) ?_
            refine Pool_g_at C0 hE fk_X0_27 dX0_spread_69 ?_
            refine lv_iload_n C0.1 C0.2.1 dX0_spread_72 rfl (lv_at hl 2 rfl) ?_
            obtain ⟨v16, e_v16, i_v16, h⟩ := rd_s hR h
            refine Pool_at_l C0 hE i_x2 e_v16 dX0_spread_73 ?_
            obtain ⟨v17, h_v17, h⟩ := bndp_s h
            refine callV_i (rest := [.int (I v15), .ref (g.2 12)]) C0 hml hE (Pool_rec C0 hE) (c_Pool_rightOf l D g hR i_v16 h_v17) kw_X0_61 ⟨Nat.le_of_ble_eq_true rfl, Nat.le_of_ble_eq_true rfl⟩ rfl hl.1 rfl (Nat.le_of_ble_eq_true rfl) dX0_spread_74 ⟨Nat.zero_le _, Nat.zero_le _⟩ (fun H locs hE i_v17 => ?_)
            obtain ⟨s18, e_s18, hR, h⟩ := wr_s hR i_v17 h
            refine Pool_at_st C0 hE i_v15 e_s18 dX0_spread_77 (fun H locs hE => ?_)
            exact h_k12 s18 hR _ _ _ hE (lv_sub hl [0, 1, 2] rfl) h
        refine x_icmp_ge C0 i_v6 i_p2 dX0_spread_25 (tgt := 47) (by decide) (fun c9 => ?_) (fun c9 => ?_)
        · have h := ite_f c9 h
          exact h_k8 s4 hR _ _ _ hE (lv_sub hl [1, 2, 3, 0] rfl) h
        · have h := ite_t c9 h
          refine lv_aload_n C0.1 C0.2.1 dX0_spread_28 rfl (lv_at hl 1 rfl) ?_
          refine Pool_g_at C0 hE fk_X0_27 dX0_spread_29 ?_
          refine lv_iload_n C0.1 C0.2.1 dX0_spread_32 rfl (lv_at hl 3 rfl) ?_
          refine lv_iload C0.1 C0.2.1 dX0_spread_33 (lv_at hl 0 rfl) ?_
          obtain ⟨v19, e_v19, i_v19, h⟩ := oadd_s h
          refine x_add C0 e_v19 dX0_spread_35 ?_
          refine lv_aload_n C0.1 C0.2.1 dX0_spread_36 rfl (lv_at hl 1 rfl) ?_
          refine lv_aload_n C0.1 C0.2.1 dX0_spread_37 rfl (lv_at hl 1 rfl) ?_
          refine Pool_g_at C0 hE fk_X0_27 dX0_spread_38 ?_
          refine lv_iload_n C0.1 C0.2.1 dX0_spread_41 rfl (lv_at hl 3 rfl) ?_
          obtain ⟨v20, e_v20, i_v20, h⟩ := rd_s hR h
          refine Pool_at_l C0 hE i_x2 e_v20 dX0_spread_42 ?_
          obtain ⟨v21, h_v21, h⟩ := bndp_s h
          refine callV_i (rest := [.int (I v19), .ref (g.2 12)]) C0 hml hE (Pool_rec C0 hE) (c_Pool_leftOf l D g hR i_v20 h_v21) kw_X0_57 ⟨Nat.le_of_ble_eq_true rfl, Nat.le_of_ble_eq_true rfl⟩ rfl hl.1 rfl (Nat.le_of_ble_eq_true rfl) dX0_spread_43 ⟨Nat.zero_le _, Nat.zero_le _⟩ (fun H locs hE i_v21 => ?_)
          obtain ⟨s22, e_s22, hR, h⟩ := wr_s hR i_v21 h
          refine Pool_at_st C0 hE i_v19 e_s22 dX0_spread_46 (fun H locs hE => ?_)
          exact h_k8 s22 hR _ _ _ hE (lv_sub hl [1, 2, 3, 0] rfl) h
  exact hL9 FU s1 hR 0 lit_0 _ _ _ hE (lv_sub hl [1, 3, 0] rfl) h
set_option maxRecDepth 100000 in
set_option maxHeartbeats 4000000 in
theorem c_Pool_keepAll (l : Launch) (D : va_G) (g : Ad) {σ σr : St} {p1 p2 r : Int} (hR : R32 σ) (i_p1 : in32 p1) (i_p2 : in32 p2) (h : Pool_keepAll σ p1 p2 = some (r, σr)) : CtV l D g yX0_keepAll cX0_keepAll 4 none 4 (wE g σ) (wE g σr) [.ref (g.2 1), .int (I p1), .int (I p2)] (R32 σr) := by
  intro sz
  refine met_of (by decide) (Nat.le_of_ble_eq_true rfl) (fun p e s m args below meth c ls H locs C0 hml hr hlk hE hl => ?_)
  have C0 : CX p c cX0_keepAll m s args D g RX0 := C0
  have hl : lv_has ls 4 [(0, .ref (g.2 1)), (1, .int (I p1)), (2, .int (I p2))] := hl
  unfold Pool_keepAll at h
  refine lv_aload_n C0.1 C0.2.1 dX0_keepAll_0 rfl (lv_at hl 0 rfl) ?_
  refine lv_iload_n C0.1 C0.2.1 dX0_keepAll_1 rfl (lv_at hl 1 rfl) ?_
  refine lv_iload_n C0.1 C0.2.1 dX0_keepAll_2 rfl (lv_at hl 2 rfl) ?_
  obtain ⟨v1, s2, h_v1, h⟩ := bnd_s h
  refine callV_v (rest := []) C0 hml hE (Pool_rec C0 hE) (c_Pool_spread l D g hR i_p1 i_p2 h_v1) kw_X0_49 ⟨Nat.le_of_ble_eq_true rfl, Nat.le_of_ble_eq_true rfl⟩ rfl hl.1 rfl (Nat.le_of_ble_eq_true rfl) dX0_keepAll_3 ⟨Nat.zero_le _, Nat.zero_le _⟩ (fun H locs hE hR => ?_)
  refine lv_iconst (v := I 0) C0.1 C0.2.1 dX0_keepAll_6 rfl ?_
  refine lv_istore_n (lv' := [(3, .int (I 0)), (0, .ref (g.2 1)), (1, .int (I p1)), (2, .int (I p2))]) C0.1 C0.2.1 dX0_keepAll_7 rfl hl (by decide) rfl (fun ls hl => ?_)
  have hL8 : ∀ (n : Nat) (s5 : St) (hR : R32 s5) (x3 : Int) (i_x3 : in32 x3) (H : Heap) (locs : List Loc) (ls : Array Slot), EW D (va_A (wE g σ) sz) s.heap (wE g s5) H locs → lv_has ls 4 [(0, .ref (g.2 1)), (2, .int (I p2)), (3, .int (I x3))] → Pool_keepAll_L8 p2 n s5 x3 = some (r, σr) → W p l e (rmk 4) s m args below meth c H locs 0 0 (MQ below (QCv D (wE g σr) (R32 σr) (va_A (wE g σ) sz)) args s 0 0 (va_A (wE g σ) sz)) (F0 m 8 ls []) := by
    intro n
    induction n with
    | zero => intros; rename_i h; cases h
    | succ n ih4 =>
      intro s5 hR x3 i_x3 H locs ls hE hl h
      unfold Pool_keepAll_L8 at h
      refine lv_iload_n C0.1 C0.2.1 dX0_keepAll_8 rfl (lv_at hl 2 rfl) ?_
      refine lv_iload_n C0.1 C0.2.1 dX0_keepAll_9 rfl (lv_at hl 1 rfl) ?_
      refine x_icmp_ge C0 i_x3 i_p2 dX0_keepAll_10 (tgt := 67) (by decide) (fun c9 => ?_) (fun c9 => ?_)
      · have h := ite_f c9 h
        exact ret_v (wf := wE g) C0 hr hlk hE h hR dX0_keepAll_67
      · have h := ite_t c9 h
        refine lv_aload_n C0.1 C0.2.1 dX0_keepAll_13 rfl (lv_at hl 0 rfl) ?_
        refine Pool_g_at C0 hE fk_X0_27 dX0_keepAll_14 ?_
        refine lv_iload_n C0.1 C0.2.1 dX0_keepAll_17 rfl (lv_at hl 2 rfl) ?_
        obtain ⟨v6, e_v6, i_v6, h⟩ := rd_s hR h
        refine Pool_at_l C0 hE i_x3 e_v6 dX0_keepAll_18 ?_
        obtain ⟨v7, h_v7, h⟩ := bndp_s h
        refine callS_i (rest := []) C0 hml hE (c_Pool_isNode l D g (σ := s5) i_v6 h_v7) kw_X0_53 ⟨Nat.le_of_ble_eq_true rfl, Nat.le_of_ble_eq_true rfl⟩ rfl hl.1 rfl (Nat.le_of_ble_eq_true rfl) dX0_keepAll_19 ⟨Nat.zero_le _, Nat.zero_le _⟩ (fun H locs hE i_v7 => ?_)
        obtain ⟨k9, e_k9, h⟩ := jn_s h
        have h_k9 : ∀ (s8 : St) (hR : R32 s8) (H : Heap) (locs : List Loc) (ls : Array Slot), EW D (va_A (wE g σ) sz) s.heap (wE g s8) H locs → lv_has ls 4 [(0, .ref (g.2 1)), (2, .int (I p2)), (3, .int (I x3))] → k9 s8 = some (r, σr) → W p l e (rmk 4) s m args below meth c H locs 0 0 (MQ below (QCv D (wE g σr) (R32 σr) (va_A (wE g σ) sz)) args s 0 0 (va_A (wE g σ) sz)) (F0 m 61 ls []) := by
          intro s8 hR H locs ls hE hl h
          have h := (congrFun e_k9 s8).symm.trans h
          obtain ⟨v10, e_v10, i_v10, h⟩ := oadd_s h
          refine x_iinc (lv' := [(3, .int (I v10)), (0, .ref (g.2 1)), (2, .int (I p2))]) C0 dX0_keepAll_61 hl (k := 2) rfl e_v10 (by decide) rfl (fun ls hl => ?_)
          refine x_goto C0 dX0_keepAll_64 (tgt := 8) (by decide) ?_
          exact ih4 s8 hR v10 i_v10 _ _ _ hE (lv_sub hl [1, 2, 0] rfl) h
        refine x_if_eq C0 i_v7 dX0_keepAll_22 (tgt := 61) (by decide) (fun c9 => ?_) (fun c9 => ?_)
        · have h := ite_t c9 h
          exact h_k9 s5 hR _ _ _ hE (lv_sub hl [0, 1, 2] rfl) h
        · have h := ite_f c9 h
          refine lv_aload_n C0.1 C0.2.1 dX0_keepAll_25 rfl (lv_at hl 0 rfl) ?_
          refine Pool_g_kept C0 hE fk_X0_21 dX0_keepAll_26 ?_
          refine lv_aload_n C0.1 C0.2.1 dX0_keepAll_29 rfl (lv_at hl 0 rfl) ?_
          refine Pool_g_at C0 hE fk_X0_27 dX0_keepAll_30 ?_
          refine lv_iload_n C0.1 C0.2.1 dX0_keepAll_33 rfl (lv_at hl 2 rfl) ?_
          obtain ⟨v11, e_v11, i_v11, h⟩ := rd_s hR h
          refine Pool_at_l C0 hE i_x3 e_v11 dX0_keepAll_34 ?_
          obtain ⟨v12, e_v12, i_v12, h⟩ := rd_s hR h
          refine Pool_kept_l C0 hE i_v11 e_v12 dX0_keepAll_35 ?_
          refine x_if_ne C0 i_v12 dX0_keepAll_36 (tgt := 61) (by decide) (fun c9 => ?_) (fun c9 => ?_)
          · have h := ite_f c9 h
            exact h_k9 s5 hR _ _ _ hE (lv_sub hl [0, 1, 2] rfl) h
          · have h := ite_t c9 h
            refine lv_aload_n C0.1 C0.2.1 dX0_keepAll_39 rfl (lv_at hl 0 rfl) ?_
            refine Pool_g_kept C0 hE fk_X0_21 dX0_keepAll_40 ?_
            refine lv_aload_n C0.1 C0.2.1 dX0_keepAll_43 rfl (lv_at hl 0 rfl) ?_
            refine Pool_g_at C0 hE fk_X0_27 dX0_keepAll_44 ?_
            refine lv_iload_n C0.1 C0.2.1 dX0_keepAll_47 rfl (lv_at hl 2 rfl) ?_
            obtain ⟨v13, e_v13, i_v13, h⟩ := rd_s hR h
            refine Pool_at_l C0 hE i_x3 e_v13 dX0_keepAll_48 ?_
            refine lv_iconst (v := I 1) C0.1 C0.2.1 dX0_keepAll_49 rfl ?_
            obtain ⟨s14, e_s14, hR, h⟩ := wr_s hR lit_1 h
            refine Pool_kept_st C0 hE i_v13 e_s14 dX0_keepAll_50 (fun H locs hE => ?_)
            refine lv_aload_n C0.1 C0.2.1 dX0_keepAll_51 rfl (lv_at hl 0 rfl) ?_
            refine lv_dup C0.1 C0.2.1 dX0_keepAll_52 rfl ?_
            obtain ⟨v15, e_v15, i_v15, h⟩ := gf_s hR h
            refine Pool_g_free C0 hE e_v15 fk_X0_34 dX0_keepAll_53 ?_
            refine lv_iconst (v := I 1) C0.1 C0.2.1 dX0_keepAll_56 rfl ?_
            obtain ⟨v16, e_v16, i_v16, h⟩ := osub_s h
            refine x_sub C0 e_v16 dX0_keepAll_57 ?_
            obtain ⟨s17, e_s17, hR, h⟩ := pf_s hR i_v16 h
            refine Pool_p_free C0 hE e_s17 fk_X0_34 dX0_keepAll_58 (fun H locs hE => ?_)
            exact h_k9 s17 hR _ _ _ hE (lv_sub hl [0, 1, 2] rfl) h
  exact hL8 FU s2 hR 0 lit_0 _ _ _ hE (lv_sub hl [1, 3, 0] rfl) h
set_option maxRecDepth 100000 in
set_option maxHeartbeats 4000000 in
theorem c_E_begin (l : Launch) (D : va_G) (g : Ad) {σ σr : St} {r : Int} (hR : R32 σ) (h : E_begin σ = some (r, σr)) : CtI l D g yX7_begin cX7_begin 2 (some .int) 5 (wE g σ) (wE g σr) [.ref (g.2 0)] r (in32 r ∧ R32 σr) := by
  intro sz
  refine met_of (by decide) (Nat.le_of_ble_eq_true rfl) (fun p e s m args below meth c ls H locs C0 hml hr hlk hE hl => ?_)
  have C0 : CX p c cX7_begin m s args D g RX7 := C0
  have hl : lv_has ls 2 [(0, .ref (g.2 0))] := hl
  unfold E_begin at h
  refine lv_aload_n C0.1 C0.2.1 dX7_begin_0 rfl (lv_at hl 0 rfl) ?_
  refine E_g_pool C0 hE fk_X7_10 dX7_begin_1 ?_
  obtain ⟨v1, h_v1, h⟩ := bndp_s h
  refine callV_i (rest := []) C0 hml hE (Pool_rec C0 hE) (c_Pool_hasRoom l D g hR h_v1) kw_X7_318 ⟨Nat.le_of_ble_eq_true rfl, Nat.le_of_ble_eq_true rfl⟩ rfl hl.1 rfl (Nat.le_of_ble_eq_true rfl) dX7_begin_4 ⟨Nat.zero_le _, Nat.zero_le _⟩ (fun H locs hE i_v1 => ?_)
  obtain ⟨k3, e_k3, h⟩ := jn_s h
  have h_k3 : ∀ (s2 : St) (hR : R32 s2) (H : Heap) (locs : List Loc) (ls : Array Slot), EW D (va_A (wE g σ) sz) s.heap (wE g s2) H locs → lv_has ls 2 [(0, .ref (g.2 0))] → k3 s2 = some (r, σr) → W p l e (rmk 5) s m args below meth c H locs 0 0 (MQ below (QCi D (wE g σr) r (in32 r ∧ R32 σr) (va_A (wE g σ) sz)) args s 0 0 (va_A (wE g σ) sz)) (F0 m 50 ls []) := by
    intro s2 hR H locs ls hE hl h
    have h := (congrFun e_k3 s2).symm.trans h
    refine lv_aload_n C0.1 C0.2.1 dX7_begin_50 rfl (lv_at hl 0 rfl) ?_
    refine E_g_pool C0 hE fk_X7_10 dX7_begin_51 ?_
    obtain ⟨v4, e_v4, i_v4, h⟩ := gf_s hR h
    refine Pool_n_made C0 hE e_v4 nk_X7_130 dX7_begin_54 ?_
    exact ret_i (wf := wE g) C0 hr hlk hE h i_v4 hR dX7_begin_57
  refine x_if_ne C0 i_v1 dX7_begin_7 (tgt := 50) (by decide) (fun c9 => ?_) (fun c9 => ?_)
  · have h := ite_f c9 h
    exact h_k3 σ hR _ _ _ hE (lv_sub hl [0] rfl) h
  · have h := ite_t c9 h
    refine lv_aload_n C0.1 C0.2.1 dX7_begin_10 rfl (lv_at hl 0 rfl) ?_
    refine E_g_pool C0 hE fk_X7_10 dX7_begin_11 ?_
    obtain ⟨v5, s6, h_v5, h⟩ := bnd_s h
    refine callV_v (rest := []) C0 hml hE (Pool_rec C0 hE) (c_Pool_forgetKept l D g hR h_v5) kw_X7_321 ⟨Nat.le_of_ble_eq_true rfl, Nat.le_of_ble_eq_true rfl⟩ rfl hl.1 rfl (Nat.le_of_ble_eq_true rfl) dX7_begin_14 ⟨Nat.zero_le _, Nat.zero_le _⟩ (fun H locs hE hR => ?_)
    refine lv_iconst (v := I 0) C0.1 C0.2.1 dX7_begin_17 rfl ?_
    refine lv_istore_n (lv' := [(1, .int (I 0)), (0, .ref (g.2 0))]) C0.1 C0.2.1 dX7_begin_18 rfl hl (by decide) rfl (fun ls hl => ?_)
    obtain ⟨k8, e_k8, h⟩ := jn_s h
    have h_k8 : ∀ (s7 : St) (hR : R32 s7) (H : Heap) (locs : List Loc) (ls : Array Slot), EW D (va_A (wE g σ) sz) s.heap (wE g s7) H locs → lv_has ls 2 [(0, .ref (g.2 0))] → k8 s7 = some (r, σr) → W p l e (rmk 5) s m args below meth c H locs 0 0 (MQ below (QCi D (wE g σr) r (in32 r ∧ R32 σr) (va_A (wE g σ) sz)) args s 0 0 (va_A (wE g σ) sz)) (F0 m 50 ls []) := by
      intro s7 hR H locs ls hE hl h
      have h := (congrFun e_k8 s7).symm.trans h
      exact h_k3 s7 hR _ _ _ hE (lv_sub hl [0] rfl) h
    have hL19 : ∀ (n : Nat) (s11 : St) (hR : R32 s11) (x9 : Int) (i_x9 : in32 x9) (H : Heap) (locs : List Loc) (ls : Array Slot), EW D (va_A (wE g σ) sz) s.heap (wE g s11) H locs → lv_has ls 2 [(0, .ref (g.2 0)), (1, .int (I x9))] → E_begin_L19 k8 n s11 x9 = some (r, σr) → W p l e (rmk 5) s m args below meth c H locs 0 0 (MQ below (QCi D (wE g σr) r (in32 r ∧ R32 σr) (va_A (wE g σ) sz)) args s 0 0 (va_A (wE g σ) sz)) (F0 m 19 ls []) := by
      intro n
      induction n with
      | zero => intros; rename_i h; cases h
      | succ n ih10 =>
        intro s11 hR x9 i_x9 H locs ls hE hl h
        unfold E_begin_L19 at h
        refine lv_iload_n C0.1 C0.2.1 dX7_begin_19 rfl (lv_at hl 1 rfl) ?_
        refine lv_bipush (v := I 6) C0.1 C0.2.1 dX7_begin_20 (by decide +kernel) ?_
        refine x_icmp_ge C0 i_x9 lit_6 dX7_begin_22 (tgt := 50) (by decide) (fun c9 => ?_) (fun c9 => ?_)
        · have h := ite_f c9 h
          exact h_k8 s11 hR _ _ _ hE (lv_sub hl [0] rfl) h
        · have h := ite_t c9 h
          refine lv_aload_n C0.1 C0.2.1 dX7_begin_25 rfl (lv_at hl 0 rfl) ?_
          refine E_g_pool C0 hE fk_X7_10 dX7_begin_26 ?_
          refine lv_aload_n C0.1 C0.2.1 dX7_begin_29 rfl (lv_at hl 0 rfl) ?_
          refine E_g_trees C0 hE fk_X7_49 dX7_begin_30 ?_
          refine lv_iload_n C0.1 C0.2.1 dX7_begin_33 rfl (lv_at hl 1 rfl) ?_
          obtain ⟨v12, e_v12, i_v12, h⟩ := rd_s hR h
          refine E_trees_l C0 hE i_x9 e_v12 dX7_begin_34 ?_
          refine lv_aload_n C0.1 C0.2.1 dX7_begin_35 rfl (lv_at hl 0 rfl) ?_
          refine E_g_sizes C0 hE fk_X7_53 dX7_begin_36 ?_
          refine lv_iload_n C0.1 C0.2.1 dX7_begin_39 rfl (lv_at hl 1 rfl) ?_
          obtain ⟨v13, e_v13, i_v13, h⟩ := rd_s hR h
          refine E_sizes_l C0 hE i_x9 e_v13 dX7_begin_40 ?_
          obtain ⟨v14, s15, h_v14, h⟩ := bnd_s h
          refine callV_v (rest := []) C0 hml hE (Pool_rec C0 hE) (c_Pool_keepAll l D g hR i_v12 i_v13 h_v14) kw_X7_324 ⟨Nat.le_of_ble_eq_true rfl, Nat.le_of_ble_eq_true rfl⟩ rfl hl.1 rfl (Nat.le_of_ble_eq_true rfl) dX7_begin_41 ⟨Nat.zero_le _, Nat.zero_le _⟩ (fun H locs hE hR => ?_)
          obtain ⟨v16, e_v16, i_v16, h⟩ := oadd_s h
          refine x_iinc (lv' := [(1, .int (I v16)), (0, .ref (g.2 0))]) C0 dX7_begin_44 hl (k := 1) rfl e_v16 (by decide) rfl (fun ls hl => ?_)
          refine x_goto C0 dX7_begin_47 (tgt := 19) (by decide) ?_
          exact ih10 s15 hR v16 i_v16 _ _ _ hE (lv_sub hl [1, 0] rfl) h
    exact hL19 FU s6 hR 0 lit_0 _ _ _ hE (lv_sub hl [1, 0] rfl) h
set_option maxRecDepth 100000 in
set_option maxHeartbeats 4000000 in
theorem c_E_isNumber (l : Launch) (D : va_G) (g : Ad) {σ : St} {p1 r : Int} (i_p1 : in32 p1) (h : E_isNumber p1 = some r) : CtI l D g yX7_isNumber cX7_isNumber 1 (some .boolean) 1 (wE g σ) (wE g σ) [.int (I p1)] r (in32 r) := by
  intro sz
  refine met_of (by decide) (Nat.le_of_ble_eq_true rfl) (fun p e s m args below meth c ls H locs C0 hml hr hlk hE hl => ?_)
  have C0 : CX p c cX7_isNumber m s args D g RX7 := C0
  have hl : lv_has ls 1 [(0, .int (I p1))] := hl
  unfold E_isNumber at h
  refine lv_iload_n C0.1 C0.2.1 dX7_isNumber_0 rfl (lv_at hl 0 rfl) ?_
  refine lv_sipush (v := I (-999)) C0.1 C0.2.1 dX7_isNumber_1 (by decide +kernel) ?_
  refine x_icmp_lt C0 i_p1 lit_m999 dX7_isNumber_4 (tgt := 18) (by decide) (fun c9 => ?_) (fun c9 => ?_)
  · have h := ite_t c9 h
    refine lv_iconst (v := I 0) C0.1 C0.2.1 dX7_isNumber_18 rfl ?_
    exact pret_z C0 hr hlk hE (Or.inl rfl) h dX7_isNumber_19
  · have h := ite_f c9 h
    refine lv_iload_n C0.1 C0.2.1 dX7_isNumber_7 rfl (lv_at hl 0 rfl) ?_
    refine lv_sipush (v := I 999) C0.1 C0.2.1 dX7_isNumber_8 (by decide +kernel) ?_
    refine x_icmp_gt C0 i_p1 lit_999 dX7_isNumber_11 (tgt := 18) (by decide) (fun c9 => ?_) (fun c9 => ?_)
    · have h := ite_t c9 h
      refine lv_iconst (v := I 0) C0.1 C0.2.1 dX7_isNumber_18 rfl ?_
      exact pret_z C0 hr hlk hE (Or.inl rfl) h dX7_isNumber_19
    · have h := ite_f c9 h
      refine lv_iconst (v := I 1) C0.1 C0.2.1 dX7_isNumber_14 rfl ?_
      refine x_goto C0 dX7_isNumber_15 (tgt := 19) (by decide) ?_
      exact pret_z C0 hr hlk hE (Or.inr rfl) h dX7_isNumber_19
set_option maxRecDepth 100000 in
set_option maxHeartbeats 4000000 in
theorem c_E_isPlace (l : Launch) (D : va_G) (g : Ad) {σ : St} {p1 r : Int} (i_p1 : in32 p1) (h : E_isPlace p1 = some r) : CtI l D g yX7_isPlace cX7_isPlace 1 (some .boolean) 1 (wE g σ) (wE g σ) [.int (I p1)] r (in32 r) := by
  intro sz
  refine met_of (by decide) (Nat.le_of_ble_eq_true rfl) (fun p e s m args below meth c ls H locs C0 hml hr hlk hE hl => ?_)
  have C0 : CX p c cX7_isPlace m s args D g RX7 := C0
  have hl : lv_has ls 1 [(0, .int (I p1))] := hl
  unfold E_isPlace at h
  refine lv_iload_n C0.1 C0.2.1 dX7_isPlace_0 rfl (lv_at hl 0 rfl) ?_
  refine x_if_lt C0 i_p1 dX7_isPlace_1 (tgt := 14) (by decide) (fun c9 => ?_) (fun c9 => ?_)
  · have h := ite_t c9 h
    refine lv_iconst (v := I 0) C0.1 C0.2.1 dX7_isPlace_14 rfl ?_
    exact pret_z C0 hr hlk hE (Or.inl rfl) h dX7_isPlace_15
  · have h := ite_f c9 h
    refine lv_iload_n C0.1 C0.2.1 dX7_isPlace_4 rfl (lv_at hl 0 rfl) ?_
    refine lv_bipush (v := I 6) C0.1 C0.2.1 dX7_isPlace_5 (by decide +kernel) ?_
    refine x_icmp_ge C0 i_p1 lit_6 dX7_isPlace_7 (tgt := 14) (by decide) (fun c9 => ?_) (fun c9 => ?_)
    · have h := ite_f c9 h
      refine lv_iconst (v := I 0) C0.1 C0.2.1 dX7_isPlace_14 rfl ?_
      exact pret_z C0 hr hlk hE (Or.inl rfl) h dX7_isPlace_15
    · have h := ite_t c9 h
      refine lv_iconst (v := I 1) C0.1 C0.2.1 dX7_isPlace_10 rfl ?_
      refine x_goto C0 dX7_isPlace_11 (tgt := 15) (by decide) ?_
      exact pret_z C0 hr hlk hE (Or.inr rfl) h dX7_isPlace_15
set_option maxRecDepth 100000 in
set_option maxHeartbeats 4000000 in
theorem c_E_keep (l : Launch) (D : va_G) (g : Ad) {σ σr : St} {p1 p2 p3 r : Int} (hR : R32 σ) (i_p1 : in32 p1) (i_p2 : in32 p2) (i_p3 : in32 p3) (h : E_keep σ p1 p2 p3 = some (r, σr)) : CtI l D g yX7_keep cX7_keep 4 (some .int) 1 (wE g σ) (wE g σr) [.ref (g.2 0), .int (I p1), .int (I p2), .int (I p3)] r (in32 r ∧ R32 σr) := by
  intro sz
  refine met_of (by decide) (Nat.le_of_ble_eq_true rfl) (fun p e s m args below meth c ls H locs C0 hml hr hlk hE hl => ?_)
  have C0 : CX p c cX7_keep m s args D g RX7 := C0
  have hl : lv_has ls 4 [(0, .ref (g.2 0)), (1, .int (I p1)), (2, .int (I p2)), (3, .int (I p3))] := hl
  unfold E_keep at h
  refine lv_aload_n C0.1 C0.2.1 dX7_keep_0 rfl (lv_at hl 0 rfl) ?_
  refine E_g_trees C0 hE fk_X7_49 dX7_keep_1 ?_
  refine lv_iload_n C0.1 C0.2.1 dX7_keep_4 rfl (lv_at hl 1 rfl) ?_
  refine lv_iload_n C0.1 C0.2.1 dX7_keep_5 rfl (lv_at hl 2 rfl) ?_
  obtain ⟨s1, e_s1, hR, h⟩ := wr_s hR i_p2 h
  refine E_trees_st C0 hE i_p1 e_s1 dX7_keep_6 (fun H locs hE => ?_)
  refine lv_aload_n C0.1 C0.2.1 dX7_keep_7 rfl (lv_at hl 0 rfl) ?_
  refine E_g_sizes C0 hE fk_X7_53 dX7_keep_8 ?_
  refine lv_iload_n C0.1 C0.2.1 dX7_keep_11 rfl (lv_at hl 1 rfl) ?_
  refine lv_iload_n C0.1 C0.2.1 dX7_keep_12 rfl (lv_at hl 3 rfl) ?_
  obtain ⟨s2, e_s2, hR, h⟩ := wr_s hR i_p3 h
  refine E_sizes_st C0 hE i_p1 e_s2 dX7_keep_13 (fun H locs hE => ?_)
  refine lv_iload_n C0.1 C0.2.1 dX7_keep_14 rfl (lv_at hl 3 rfl) ?_
  exact ret_i (wf := wE g) C0 hr hlk hE h i_p3 hR dX7_keep_15
set_option maxRecDepth 100000 in
set_option maxHeartbeats 4000000 in
theorem c_E_fills (l : Launch) (D : va_G) (g : Ad) {σ σr : St} {p1 p2 p3 r : Int} (hR : R32 σ) (i_p1 : in32 p1) (i_p2 : in32 p2) (i_p3 : in32 p3) (h : E_fills σ p1 p2 p3 = some (r, σr)) : CtI l D g yX7_fills cX7_fills 5 (some .int) 6 (wE g σ) (wE g σr) [.ref (g.2 0), .int (I p1), .int (I p2), .int (I p3)] r (in32 r ∧ R32 σr) := by
  intro sz
  refine met_of (by decide) (Nat.le_of_ble_eq_true rfl) (fun p e s m args below meth c ls H locs C0 hml hr hlk hE hl => ?_)
  have C0 : CX p c cX7_fills m s args D g RX7 := C0
  have hl : lv_has ls 5 [(0, .ref (g.2 0)), (1, .int (I p1)), (2, .int (I p2)), (3, .int (I p3))] := hl
  unfold E_fills at h
  refine lv_iload_n C0.1 C0.2.1 dX7_fills_0 rfl (lv_at hl 1 rfl) ?_
  refine x_if_lt C0 i_p1 dX7_fills_1 (tgt := 25) (by decide) (fun c9 => ?_) (fun c9 => ?_)
  · have h := ite_t c9 h
    refine lv_iconst (v := I (-1)) C0.1 C0.2.1 dX7_fills_25 rfl ?_
    exact ret_i (wf := wE g) C0 hr hlk hE h lit_m1 hR dX7_fills_26
  · have h := ite_f c9 h
    refine lv_iload_n C0.1 C0.2.1 dX7_fills_4 rfl (lv_at hl 1 rfl) ?_
    refine lv_sipush (v := I 255) C0.1 C0.2.1 dX7_fills_5 (by decide +kernel) ?_
    refine x_icmp_gt C0 i_p1 lit_255 dX7_fills_8 (tgt := 25) (by decide) (fun c9 => ?_) (fun c9 => ?_)
    · have h := ite_t c9 h
      refine lv_iconst (v := I (-1)) C0.1 C0.2.1 dX7_fills_25 rfl ?_
      exact ret_i (wf := wE g) C0 hr hlk hE h lit_m1 hR dX7_fills_26
    · have h := ite_f c9 h
      refine lv_iload_n C0.1 C0.2.1 dX7_fills_11 rfl (lv_at hl 2 rfl) ?_
      obtain ⟨v1, h_v1, h⟩ := bndp_s h
      refine callS_i (rest := []) C0 hml hE (c_E_isNumber l D g (σ := σ) i_p2 h_v1) kw_X7_117 ⟨Nat.le_of_ble_eq_true rfl, Nat.le_of_ble_eq_true rfl⟩ rfl hl.1 rfl (Nat.le_of_ble_eq_true rfl) dX7_fills_12 ⟨Nat.zero_le _, Nat.zero_le _⟩ (fun H locs hE i_v1 => ?_)
      refine x_if_eq C0 i_v1 dX7_fills_15 (tgt := 25) (by decide) (fun c9 => ?_) (fun c9 => ?_)
      · have h := ite_t c9 h
        refine lv_iconst (v := I (-1)) C0.1 C0.2.1 dX7_fills_25 rfl ?_
        exact ret_i (wf := wE g) C0 hr hlk hE h lit_m1 hR dX7_fills_26
      · have h := ite_f c9 h
        refine lv_iload_n C0.1 C0.2.1 dX7_fills_18 rfl (lv_at hl 3 rfl) ?_
        obtain ⟨v2, h_v2, h⟩ := bndp_s h
        refine callS_i (rest := []) C0 hml hE (c_E_isPlace l D g (σ := σ) i_p3 h_v2) kw_X7_86 ⟨Nat.le_of_ble_eq_true rfl, Nat.le_of_ble_eq_true rfl⟩ rfl hl.1 rfl (Nat.le_of_ble_eq_true rfl) dX7_fills_19 ⟨Nat.zero_le _, Nat.zero_le _⟩ (fun H locs hE i_v2 => ?_)
        refine x_if_ne C0 i_v2 dX7_fills_22 (tgt := 27) (by decide) (fun c9 => ?_) (fun c9 => ?_)
        · have h := ite_f c9 h
          refine lv_aload_n C0.1 C0.2.1 dX7_fills_27 rfl (lv_at hl 0 rfl) ?_
          obtain ⟨v3, s4, h_v3, h⟩ := bnd_s h
          refine callV_i (rest := []) C0 hml hE (E_rec C0 hE) (c_E_begin l D g hR h_v3) kw_X7_120 ⟨Nat.le_of_ble_eq_true rfl, Nat.le_of_ble_eq_true rfl⟩ rfl hl.1 rfl (Nat.le_of_ble_eq_true rfl) dX7_fills_28 ⟨Nat.zero_le _, Nat.zero_le _⟩ (fun H locs hE ⟨i_v3, hR⟩ => ?_)
          refine lv_istore (lv' := [(4, .int (I v3)), (0, .ref (g.2 0)), (1, .int (I p1)), (2, .int (I p2)), (3, .int (I p3))]) C0.1 C0.2.1 dX7_fills_31 hl (by decide) rfl (fun ls hl => ?_)
          refine lv_aload_n C0.1 C0.2.1 dX7_fills_33 rfl (lv_at hl 1 rfl) ?_
          refine lv_iload_n C0.1 C0.2.1 dX7_fills_34 rfl (lv_at hl 4 rfl) ?_
          refine lv_aload_n C0.1 C0.2.1 dX7_fills_35 rfl (lv_at hl 1 rfl) ?_
          refine E_g_pool C0 hE fk_X7_10 dX7_fills_36 ?_
          refine lv_iload_n C0.1 C0.2.1 dX7_fills_39 rfl (lv_at hl 2 rfl) ?_
          refine lv_iload_n C0.1 C0.2.1 dX7_fills_40 rfl (lv_at hl 3 rfl) ?_
          obtain ⟨v5, s6, h_v5, h⟩ := bnd_s h
          refine callV_i (rest := [.int (I p3), .ref (g.2 0)]) C0 hml hE (Pool_rec C0 hE) (c_Pool_alike l D g hR i_p1 i_p2 h_v5) kw_X7_123 ⟨Nat.le_of_ble_eq_true rfl, Nat.le_of_ble_eq_true rfl⟩ rfl hl.1 rfl (Nat.le_of_ble_eq_true rfl) dX7_fills_41 ⟨Nat.zero_le _, Nat.zero_le _⟩ (fun H locs hE ⟨i_v5, hR⟩ => ?_)
          refine lv_iload_n C0.1 C0.2.1 dX7_fills_44 rfl (lv_at hl 2 rfl) ?_
          obtain ⟨v7, s8, h_v7, h⟩ := bnd_s h
          refine callV_i (rest := []) C0 hml hE (E_rec C0 hE) (c_E_keep l D g hR i_p3 i_v5 i_p1 h_v7) kw_X7_126 ⟨Nat.le_of_ble_eq_true rfl, Nat.le_of_ble_eq_true rfl⟩ rfl hl.1 rfl (Nat.le_of_ble_eq_true rfl) dX7_fills_45 ⟨Nat.zero_le _, Nat.zero_le _⟩ (fun H locs hE ⟨i_v7, hR⟩ => ?_)
          refine lv_pop C0.1 C0.2.1 dX7_fills_48 rfl ?_
          refine lv_aload_n C0.1 C0.2.1 dX7_fills_49 rfl (lv_at hl 1 rfl) ?_
          refine E_g_pool C0 hE fk_X7_10 dX7_fills_50 ?_
          obtain ⟨v9, e_v9, i_v9, h⟩ := gf_s hR h
          refine Pool_n_made C0 hE e_v9 nk_X7_130 dX7_fills_53 ?_
          refine lv_iload C0.1 C0.2.1 dX7_fills_56 (lv_at hl 0 rfl) ?_
          obtain ⟨v10, e_v10, i_v10, h⟩ := osub_s h
          refine x_sub C0 e_v10 dX7_fills_58 ?_
          exact ret_i (wf := wE g) C0 hr hlk hE h i_v10 hR dX7_fills_59
        · have h := ite_t c9 h
          refine lv_iconst (v := I (-1)) C0.1 C0.2.1 dX7_fills_25 rfl ?_
          exact ret_i (wf := wE g) C0 hr hlk hE h lit_m1 hR dX7_fills_26
set_option maxRecDepth 100000 in
set_option maxHeartbeats 4000000 in
theorem c_Shape_leftSize (l : Launch) (D : va_G) (g : Ad) {σ : St} {p1 r : Int} (i_p1 : in32 p1) (h : Shape_leftSize p1 = some r) : CtI l D g yX3_leftSize cX3_leftSize 1 (some .int) 1 (wE g σ) (wE g σ) [.int (I p1)] r (in32 r) := by
  intro sz
  refine met_of (by decide) (Nat.le_of_ble_eq_true rfl) (fun p e s m args below meth c ls H locs C0 hml hr hlk hE hl => ?_)
  have C0 : CX p c cX3_leftSize m s args D g RX3 := C0
  have hl : lv_has ls 1 [(0, .int (I p1))] := hl
  unfold Shape_leftSize at h
  refine lv_iload_n C0.1 C0.2.1 dX3_leftSize_0 rfl (lv_at hl 0 rfl) ?_
  refine lv_iconst (v := I 2) C0.1 C0.2.1 dX3_leftSize_1 rfl ?_
  obtain ⟨v1, e_v1, i_v1, h⟩ := odiv_s i_p1 h
  refine x_div C0 i_p1 lit_2 e_v1 dX3_leftSize_2 ?_
  exact pret_i C0 hr hlk hE h i_v1 dX3_leftSize_3
set_option maxRecDepth 100000 in
set_option maxHeartbeats 4000000 in
theorem c_Shape_rightSize (l : Launch) (D : va_G) (g : Ad) {σ : St} {p1 r : Int} (i_p1 : in32 p1) (h : Shape_rightSize p1 = some r) : CtI l D g yX3_rightSize cX3_rightSize 1 (some .int) 1 (wE g σ) (wE g σ) [.int (I p1)] r (in32 r) := by
  intro sz
  refine met_of (by decide) (Nat.le_of_ble_eq_true rfl) (fun p e s m args below meth c ls H locs C0 hml hr hlk hE hl => ?_)
  have C0 : CX p c cX3_rightSize m s args D g RX3 := C0
  have hl : lv_has ls 1 [(0, .int (I p1))] := hl
  unfold Shape_rightSize at h
  refine lv_iload_n C0.1 C0.2.1 dX3_rightSize_0 rfl (lv_at hl 0 rfl) ?_
  refine lv_iconst (v := I 2) C0.1 C0.2.1 dX3_rightSize_1 rfl ?_
  refine x_icmp_ge C0 i_p1 lit_2 dX3_rightSize_2 (tgt := 9) (by decide) (fun c9 => ?_) (fun c9 => ?_)
  · have h := ite_f c9 h
    refine lv_iload_n C0.1 C0.2.1 dX3_rightSize_9 rfl (lv_at hl 0 rfl) ?_
    refine lv_iconst (v := I 1) C0.1 C0.2.1 dX3_rightSize_10 rfl ?_
    obtain ⟨v1, e_v1, i_v1, h⟩ := osub_s h
    refine x_sub C0 e_v1 dX3_rightSize_11 ?_
    refine lv_iconst (v := I 2) C0.1 C0.2.1 dX3_rightSize_12 rfl ?_
    obtain ⟨v2, e_v2, i_v2, h⟩ := odiv_s i_v1 h
    refine x_div C0 i_v1 lit_2 e_v2 dX3_rightSize_13 ?_
    exact pret_i C0 hr hlk hE h i_v2 dX3_rightSize_14
  · have h := ite_t c9 h
    refine lv_iconst (v := I 0) C0.1 C0.2.1 dX3_rightSize_5 rfl ?_
    refine x_goto C0 dX3_rightSize_6 (tgt := 14) (by decide) ?_
    exact pret_i C0 hr hlk hE h lit_0 dX3_rightSize_14
set_option maxRecDepth 100000 in
set_option maxHeartbeats 4000000 in
theorem c_E_sides (l : Launch) (D : va_G) (g : Ad) {σ σr : St} {p1 p2 p3 r : Int} (hR : R32 σ) (i_p1 : in32 p1) (i_p2 : in32 p2) (i_p3 : in32 p3) (h : E_sides σ p1 p2 p3 = some (r, σr)) : CtI l D g yX7_sides cX7_sides 5 (some .int) 3 (wE g σ) (wE g σr) [.ref (g.2 0), .int (I p1), .int (I p2), .int (I p3)] r (in32 r ∧ R32 σr) := by
  intro sz
  refine met_of (by decide) (Nat.le_of_ble_eq_true rfl) (fun p e s m args below meth c ls H locs C0 hml hr hlk hE hl => ?_)
  have C0 : CX p c cX7_sides m s args D g RX7 := C0
  have hl : lv_has ls 5 [(0, .ref (g.2 0)), (1, .int (I p1)), (2, .int (I p2)), (3, .int (I p3))] := hl
  unfold E_sides at h
  refine lv_iload_n C0.1 C0.2.1 dX7_sides_0 rfl (lv_at hl 1 rfl) ?_
  obtain ⟨v1, h_v1, h⟩ := bndp_s h
  refine callS_i (rest := []) C0 hml hE (c_E_isPlace l D g (σ := σ) i_p1 h_v1) kw_X7_86 ⟨Nat.le_of_ble_eq_true rfl, Nat.le_of_ble_eq_true rfl⟩ rfl hl.1 rfl (Nat.le_of_ble_eq_true rfl) dX7_sides_1 ⟨Nat.zero_le _, Nat.zero_le _⟩ (fun H locs hE i_v1 => ?_)
  refine x_if_eq C0 i_v1 dX7_sides_4 (tgt := 23) (by decide) (fun c9 => ?_) (fun c9 => ?_)
  · have h := ite_t c9 h
    refine lv_iconst (v := I (-1)) C0.1 C0.2.1 dX7_sides_23 rfl ?_
    exact ret_i (wf := wE g) C0 hr hlk hE h lit_m1 hR dX7_sides_24
  · have h := ite_f c9 h
    refine lv_iload_n C0.1 C0.2.1 dX7_sides_7 rfl (lv_at hl 3 rfl) ?_
    obtain ⟨v2, h_v2, h⟩ := bndp_s h
    refine callS_i (rest := []) C0 hml hE (c_E_isPlace l D g (σ := σ) i_p3 h_v2) kw_X7_86 ⟨Nat.le_of_ble_eq_true rfl, Nat.le_of_ble_eq_true rfl⟩ rfl hl.1 rfl (Nat.le_of_ble_eq_true rfl) dX7_sides_8 ⟨Nat.zero_le _, Nat.zero_le _⟩ (fun H locs hE i_v2 => ?_)
    refine x_if_eq C0 i_v2 dX7_sides_11 (tgt := 23) (by decide) (fun c9 => ?_) (fun c9 => ?_)
    · have h := ite_t c9 h
      refine lv_iconst (v := I (-1)) C0.1 C0.2.1 dX7_sides_23 rfl ?_
      exact ret_i (wf := wE g) C0 hr hlk hE h lit_m1 hR dX7_sides_24
    · have h := ite_f c9 h
      refine lv_iload_n C0.1 C0.2.1 dX7_sides_14 rfl (lv_at hl 2 rfl) ?_
      refine x_if_lt C0 i_p2 dX7_sides_15 (tgt := 23) (by decide) (fun c9 => ?_) (fun c9 => ?_)
      · have h := ite_t c9 h
        refine lv_iconst (v := I (-1)) C0.1 C0.2.1 dX7_sides_23 rfl ?_
        exact ret_i (wf := wE g) C0 hr hlk hE h lit_m1 hR dX7_sides_24
      · have h := ite_f c9 h
        refine lv_iload_n C0.1 C0.2.1 dX7_sides_18 rfl (lv_at hl 2 rfl) ?_
        refine lv_iconst (v := I 1) C0.1 C0.2.1 dX7_sides_19 rfl ?_
        refine x_icmp_le C0 i_p2 lit_1 dX7_sides_20 (tgt := 25) (by decide) (fun c9 => ?_) (fun c9 => ?_)
        · have h := ite_f c9 h
          refine lv_iload_n C0.1 C0.2.1 dX7_sides_25 rfl (lv_at hl 2 rfl) ?_
          obtain ⟨k4, e_k4, h⟩ := jn_s h
          have h_k4 : ∀ (x3 : Int) (i_x3 : in32 x3) (H : Heap) (locs : List Loc) (ls : Array Slot), EW D (va_A (wE g σ) sz) s.heap (wE g σ) H locs → lv_has ls 5 [(0, .ref (g.2 0)), (1, .int (I p1)), (2, .int (I p2)), (3, .int (I p3))] → k4 x3 = some (r, σr) → W p l e (rmk 3) s m args below meth c H locs 0 0 (MQ below (QCi D (wE g σr) r (in32 r ∧ R32 σr) (va_A (wE g σ) sz)) args s 0 0 (va_A (wE g σ) sz)) (F0 m 50 ls [.int (I x3)]) := by
            intro x3 i_x3 H locs ls hE hl h
            have h := (congrFun e_k4 x3).symm.trans h
            refine lv_istore (lv' := [(4, .int (I x3)), (0, .ref (g.2 0)), (1, .int (I p1)), (2, .int (I p2)), (3, .int (I p3))]) C0.1 C0.2.1 dX7_sides_50 hl (by decide) rfl (fun ls hl => ?_)
            refine lv_iload C0.1 C0.2.1 dX7_sides_52 (lv_at hl 0 rfl) ?_
            refine x_if_ne C0 i_x3 dX7_sides_54 (tgt := 60) (by decide) (fun c9 => ?_) (fun c9 => ?_)
            · have h := ite_f c9 h
              refine lv_aload_n C0.1 C0.2.1 dX7_sides_60 rfl (lv_at hl 1 rfl) ?_
              refine lv_iload_n C0.1 C0.2.1 dX7_sides_61 rfl (lv_at hl 4 rfl) ?_
              refine lv_iload_n C0.1 C0.2.1 dX7_sides_62 rfl (lv_at hl 3 rfl) ?_
              obtain ⟨k6, e_k6, h⟩ := jn_s h
              have h_k6 : ∀ (x5 : Int) (i_x5 : in32 x5) (H : Heap) (locs : List Loc) (ls : Array Slot), EW D (va_A (wE g σ) sz) s.heap (wE g σ) H locs → lv_has ls 5 [(4, .int (I x3))] → k6 x5 = some (r, σr) → W p l e (rmk 3) s m args below meth c H locs 0 0 (MQ below (QCi D (wE g σr) r (in32 r ∧ R32 σr) (va_A (wE g σ) sz)) args s 0 0 (va_A (wE g σ) sz)) (F0 m 95 ls [.int (I x5), .int (I p3), .ref (g.2 0)]) := by
                intro x5 i_x5 H locs ls hE hl h
                have h := (congrFun e_k6 x5).symm.trans h
                refine lv_iload C0.1 C0.2.1 dX7_sides_95 (lv_at hl 0 rfl) ?_
                obtain ⟨v7, s8, h_v7, h⟩ := bnd_s h
                refine callV_i (rest := []) C0 hml hE (E_rec C0 hE) (c_E_keep l D g hR i_p3 i_x5 i_x3 h_v7) kw_X7_126 ⟨Nat.le_of_ble_eq_true rfl, Nat.le_of_ble_eq_true rfl⟩ rfl hl.1 rfl (Nat.le_of_ble_eq_true rfl) dX7_sides_97 ⟨Nat.zero_le _, Nat.zero_le _⟩ (fun H locs hE ⟨i_v7, hR⟩ => ?_)
                exact ret_i (wf := wE g) C0 hr hlk hE h i_v7 hR dX7_sides_100
              refine x_if_ne C0 i_p2 dX7_sides_63 (tgt := 82) (by decide) (fun c9 => ?_) (fun c9 => ?_)
              · have h := ite_f c9 h
                refine lv_aload_n C0.1 C0.2.1 dX7_sides_82 rfl (lv_at hl 1 rfl) ?_
                refine E_g_pool C0 hE fk_X7_10 dX7_sides_83 ?_
                refine lv_aload_n C0.1 C0.2.1 dX7_sides_86 rfl (lv_at hl 1 rfl) ?_
                refine E_g_trees C0 hE fk_X7_49 dX7_sides_87 ?_
                refine lv_iload_n C0.1 C0.2.1 dX7_sides_90 rfl (lv_at hl 2 rfl) ?_
                obtain ⟨v9, e_v9, i_v9, h⟩ := rd_s hR h
                refine E_trees_l C0 hE i_p1 e_v9 dX7_sides_91 ?_
                obtain ⟨v10, h_v10, h⟩ := bndp_s h
                refine callV_i (rest := [.int (I p3), .ref (g.2 0)]) C0 hml hE (Pool_rec C0 hE) (c_Pool_rightOf l D g hR i_v9 h_v10) kw_X7_144 ⟨Nat.le_of_ble_eq_true rfl, Nat.le_of_ble_eq_true rfl⟩ rfl hl.1 rfl (Nat.le_of_ble_eq_true rfl) dX7_sides_92 ⟨Nat.zero_le _, Nat.zero_le _⟩ (fun H locs hE i_v10 => ?_)
                exact h_k6 v10 i_v10 _ _ _ hE (lv_sub hl [0] rfl) h
              · have h := ite_t c9 h
                refine lv_aload_n C0.1 C0.2.1 dX7_sides_66 rfl (lv_at hl 1 rfl) ?_
                refine E_g_pool C0 hE fk_X7_10 dX7_sides_67 ?_
                refine lv_aload_n C0.1 C0.2.1 dX7_sides_70 rfl (lv_at hl 1 rfl) ?_
                refine E_g_trees C0 hE fk_X7_49 dX7_sides_71 ?_
                refine lv_iload_n C0.1 C0.2.1 dX7_sides_74 rfl (lv_at hl 2 rfl) ?_
                obtain ⟨v11, e_v11, i_v11, h⟩ := rd_s hR h
                refine E_trees_l C0 hE i_p1 e_v11 dX7_sides_75 ?_
                obtain ⟨v12, h_v12, h⟩ := bndp_s h
                refine callV_i (rest := [.int (I p3), .ref (g.2 0)]) C0 hml hE (Pool_rec C0 hE) (c_Pool_leftOf l D g hR i_v11 h_v12) kw_X7_141 ⟨Nat.le_of_ble_eq_true rfl, Nat.le_of_ble_eq_true rfl⟩ rfl hl.1 rfl (Nat.le_of_ble_eq_true rfl) dX7_sides_76 ⟨Nat.zero_le _, Nat.zero_le _⟩ (fun H locs hE i_v12 => ?_)
                refine x_goto C0 dX7_sides_79 (tgt := 95) (by decide) ?_
                exact h_k6 v12 i_v12 _ _ _ hE (lv_sub hl [0] rfl) h
            · have h := ite_t c9 h
              refine lv_bipush (v := I (-2)) C0.1 C0.2.1 dX7_sides_57 (by decide +kernel) ?_
              exact ret_i (wf := wE g) C0 hr hlk hE h lit_m2 hR dX7_sides_59
          refine x_if_ne C0 i_p2 dX7_sides_26 (tgt := 41) (by decide) (fun c9 => ?_) (fun c9 => ?_)
          · have h := ite_f c9 h
            refine lv_aload_n C0.1 C0.2.1 dX7_sides_41 rfl (lv_at hl 0 rfl) ?_
            refine E_g_sizes C0 hE fk_X7_53 dX7_sides_42 ?_
            refine lv_iload_n C0.1 C0.2.1 dX7_sides_45 rfl (lv_at hl 1 rfl) ?_
            obtain ⟨v13, e_v13, i_v13, h⟩ := rd_s hR h
            refine E_sizes_l C0 hE i_p1 e_v13 dX7_sides_46 ?_
            obtain ⟨v14, h_v14, h⟩ := bndp_s h
            refine callS_i (rest := []) C0 hml hE (c_Shape_rightSize l D g (σ := σ) i_v13 h_v14) kw_X7_138 ⟨Nat.le_of_ble_eq_true rfl, Nat.le_of_ble_eq_true rfl⟩ rfl hl.1 rfl (Nat.le_of_ble_eq_true rfl) dX7_sides_47 ⟨Nat.zero_le _, Nat.zero_le _⟩ (fun H locs hE i_v14 => ?_)
            exact h_k4 v14 i_v14 _ _ _ hE (lv_sub hl [0, 1, 2, 3] rfl) h
          · have h := ite_t c9 h
            refine lv_aload_n C0.1 C0.2.1 dX7_sides_29 rfl (lv_at hl 0 rfl) ?_
            refine E_g_sizes C0 hE fk_X7_53 dX7_sides_30 ?_
            refine lv_iload_n C0.1 C0.2.1 dX7_sides_33 rfl (lv_at hl 1 rfl) ?_
            obtain ⟨v15, e_v15, i_v15, h⟩ := rd_s hR h
            refine E_sizes_l C0 hE i_p1 e_v15 dX7_sides_34 ?_
            obtain ⟨v16, h_v16, h⟩ := bndp_s h
            refine callS_i (rest := []) C0 hml hE (c_Shape_leftSize l D g (σ := σ) i_v15 h_v16) kw_X7_133 ⟨Nat.le_of_ble_eq_true rfl, Nat.le_of_ble_eq_true rfl⟩ rfl hl.1 rfl (Nat.le_of_ble_eq_true rfl) dX7_sides_35 ⟨Nat.zero_le _, Nat.zero_le _⟩ (fun H locs hE i_v16 => ?_)
            refine x_goto C0 dX7_sides_38 (tgt := 50) (by decide) ?_
            exact h_k4 v16 i_v16 _ _ _ hE (lv_sub hl [0, 1, 2, 3] rfl) h
        · have h := ite_t c9 h
          refine lv_iconst (v := I (-1)) C0.1 C0.2.1 dX7_sides_23 rfl ?_
          exact ret_i (wf := wE g) C0 hr hlk hE h lit_m1 hR dX7_sides_24
set_option maxRecDepth 100000 in
set_option maxHeartbeats 4000000 in
theorem c_Pool_numberOf (l : Launch) (D : va_G) (g : Ad) {σ : St} {p1 r : Int} (hR : R32 σ) (i_p1 : in32 p1) (h : Pool_numberOf σ p1 = some r) : CtI l D g yX0_numberOf cX0_numberOf 2 (some .int) 2 (wE g σ) (wE g σ) [.ref (g.2 1), .int (I p1)] r (in32 r) := by
  intro sz
  refine met_of (by decide) (Nat.le_of_ble_eq_true rfl) (fun p e s m args below meth c ls H locs C0 hml hr hlk hE hl => ?_)
  have C0 : CX p c cX0_numberOf m s args D g RX0 := C0
  have hl : lv_has ls 2 [(0, .ref (g.2 1)), (1, .int (I p1))] := hl
  unfold Pool_numberOf at h
  refine lv_iload_n C0.1 C0.2.1 dX0_numberOf_0 rfl (lv_at hl 1 rfl) ?_
  obtain ⟨v1, h_v1, h⟩ := bndp_s h
  refine callS_i (rest := []) C0 hml hE (c_Pool_isNode l D g (σ := σ) i_p1 h_v1) kw_X0_53 ⟨Nat.le_of_ble_eq_true rfl, Nat.le_of_ble_eq_true rfl⟩ rfl hl.1 rfl (Nat.le_of_ble_eq_true rfl) dX0_numberOf_1 ⟨Nat.zero_le _, Nat.zero_le _⟩ (fun H locs hE i_v1 => ?_)
  refine x_if_eq C0 i_v1 dX0_numberOf_4 (tgt := 16) (by decide) (fun c9 => ?_) (fun c9 => ?_)
  · have h := ite_t c9 h
    refine lv_iconst (v := I 0) C0.1 C0.2.1 dX0_numberOf_16 rfl ?_
    exact pret_i C0 hr hlk hE h lit_0 dX0_numberOf_17
  · have h := ite_f c9 h
    refine lv_aload_n C0.1 C0.2.1 dX0_numberOf_7 rfl (lv_at hl 0 rfl) ?_
    refine Pool_g_numbers C0 hE fk_X0_11 dX0_numberOf_8 ?_
    refine lv_iload_n C0.1 C0.2.1 dX0_numberOf_11 rfl (lv_at hl 1 rfl) ?_
    obtain ⟨v2, e_v2, i_v2, h⟩ := rd_s hR h
    refine Pool_numbers_l C0 hE i_p1 e_v2 dX0_numberOf_12 ?_
    refine x_goto C0 dX0_numberOf_13 (tgt := 17) (by decide) ?_
    exact pret_i C0 hr hlk hE h i_v2 dX0_numberOf_17
set_option maxRecDepth 100000 in
set_option maxHeartbeats 4000000 in
theorem c_Pool_numberAt (l : Launch) (D : va_G) (g : Ad) {σ : St} {p1 p2 r : Int} (hR : R32 σ) (i_p1 : in32 p1) (i_p2 : in32 p2) (h : Pool_numberAt σ p1 p2 = some r) : CtI l D g yX0_numberAt cX0_numberAt 5 (some .int) 3 (wE g σ) (wE g σ) [.ref (g.2 1), .int (I p1), .int (I p2)] r (in32 r) := by
  intro sz
  refine met_of (by decide) (Nat.le_of_ble_eq_true rfl) (fun p e s m args below meth c ls H locs C0 hml hr hlk hE hl => ?_)
  have C0 : CX p c cX0_numberAt m s args D g RX0 := C0
  have hl : lv_has ls 5 [(0, .ref (g.2 1)), (1, .int (I p1)), (2, .int (I p2))] := hl
  unfold Pool_numberAt at h
  refine lv_iload_n C0.1 C0.2.1 dX0_numberAt_0 rfl (lv_at hl 1 rfl) ?_
  refine lv_istore_n (lv' := [(3, .int (I p1)), (0, .ref (g.2 1)), (1, .int (I p1)), (2, .int (I p2))]) C0.1 C0.2.1 dX0_numberAt_1 rfl hl (by decide) rfl (fun ls hl => ?_)
  refine lv_iload_n C0.1 C0.2.1 dX0_numberAt_2 rfl (lv_at hl 3 rfl) ?_
  refine lv_istore (lv' := [(4, .int (I p2)), (3, .int (I p1)), (0, .ref (g.2 1)), (1, .int (I p1)), (2, .int (I p2))]) C0.1 C0.2.1 dX0_numberAt_3 hl (by decide) rfl (fun ls hl => ?_)
  obtain ⟨k2, e_k2, h⟩ := jn_s h
  have h_k2 : ∀ (x1 : Int) (i_x1 : in32 x1) (H : Heap) (locs : List Loc) (ls : Array Slot), EW D (va_A (wE g σ) sz) s.heap (wE g σ) H locs → lv_has ls 5 [(0, .ref (g.2 1)), (3, .int (I x1))] → k2 x1 = some r → W p l e (rmk 3) s m args below meth c H locs 0 0 (MQ below (QCi D (wE g σ) r (in32 r) (va_A (wE g σ) sz)) args s 0 0 (va_A (wE g σ) sz)) (F0 m 43 ls []) := by
    intro x1 i_x1 H locs ls hE hl h
    have h := (congrFun e_k2 x1).symm.trans h
    refine lv_aload_n C0.1 C0.2.1 dX0_numberAt_43 rfl (lv_at hl 0 rfl) ?_
    refine lv_iload_n C0.1 C0.2.1 dX0_numberAt_44 rfl (lv_at hl 1 rfl) ?_
    obtain ⟨v3, h_v3, h⟩ := bndp_s h
    refine callV_i (rest := []) C0 hml hE (Pool_rec C0 hE) (c_Pool_numberOf l D g hR i_x1 h_v3) kw_X0_64 ⟨Nat.le_of_ble_eq_true rfl, Nat.le_of_ble_eq_true rfl⟩ rfl hl.1 rfl (Nat.le_of_ble_eq_true rfl) dX0_numberAt_45 ⟨Nat.zero_le _, Nat.zero_le _⟩ (fun H locs hE i_v3 => ?_)
    exact pret_i C0 hr hlk hE h i_v3 dX0_numberAt_48
  have hL5 : ∀ (n : Nat) (x4 : Int) (i_x4 : in32 x4) (x5 : Int) (i_x5 : in32 x5) (H : Heap) (locs : List Loc) (ls : Array Slot), EW D (va_A (wE g σ) sz) s.heap (wE g σ) H locs → lv_has ls 5 [(0, .ref (g.2 1)), (3, .int (I x4)), (4, .int (I x5))] → Pool_numberAt_L5 k2 σ n x4 x5 = some r → W p l e (rmk 3) s m args below meth c H locs 0 0 (MQ below (QCi D (wE g σ) r (in32 r) (va_A (wE g σ) sz)) args s 0 0 (va_A (wE g σ) sz)) (F0 m 5 ls []) := by
    intro n
    induction n with
    | zero => intros; rename_i h; cases h
    | succ n ih6 =>
      intro x4 i_x4 x5 i_x5 H locs ls hE hl h
      unfold Pool_numberAt_L5 at h
      refine lv_iload C0.1 C0.2.1 dX0_numberAt_5 (lv_at hl 2 rfl) ?_
      refine x_if_le C0 i_x5 dX0_numberAt_7 (tgt := 43) (by decide) (fun c9 => ?_) (fun c9 => ?_)
      · have h := ite_f c9 h
        exact h_k2 x4 i_x4 _ _ _ hE (lv_sub hl [0, 1] rfl) h
      · have h := ite_t c9 h
        refine lv_iload C0.1 C0.2.1 dX0_numberAt_10 (lv_at hl 2 rfl) ?_
        refine lv_iconst (v := I 2) C0.1 C0.2.1 dX0_numberAt_12 rfl ?_
        obtain ⟨v7, e_v7, i_v7, h⟩ := orem_s lit_2 h
        refine x_rem C0 i_x5 lit_2 e_v7 dX0_numberAt_13 ?_
        refine lv_iconst (v := I 1) C0.1 C0.2.1 dX0_numberAt_14 rfl ?_
        obtain ⟨k9, e_k9, h⟩ := jn_s h
        have h_k9 : ∀ (x8 : Int) (i_x8 : in32 x8) (H : Heap) (locs : List Loc) (ls : Array Slot), EW D (va_A (wE g σ) sz) s.heap (wE g σ) H locs → lv_has ls 5 [(0, .ref (g.2 1)), (4, .int (I x5))] → k9 x8 = some r → W p l e (rmk 3) s m args below meth c H locs 0 0 (MQ below (QCi D (wE g σ) r (in32 r) (va_A (wE g σ) sz)) args s 0 0 (va_A (wE g σ) sz)) (F0 m 31 ls [.int (I x8)]) := by
          intro x8 i_x8 H locs ls hE hl h
          have h := (congrFun e_k9 x8).symm.trans h
          refine lv_istore_n (lv' := [(3, .int (I x8)), (0, .ref (g.2 1)), (4, .int (I x5))]) C0.1 C0.2.1 dX0_numberAt_31 rfl hl (by decide) rfl (fun ls hl => ?_)
          refine lv_iload C0.1 C0.2.1 dX0_numberAt_32 (lv_at hl 2 rfl) ?_
          refine lv_iconst (v := I 1) C0.1 C0.2.1 dX0_numberAt_34 rfl ?_
          obtain ⟨v10, e_v10, i_v10, h⟩ := osub_s h
          refine x_sub C0 e_v10 dX0_numberAt_35 ?_
          refine lv_iconst (v := I 2) C0.1 C0.2.1 dX0_numberAt_36 rfl ?_
          obtain ⟨v11, e_v11, i_v11, h⟩ := odiv_s i_v10 h
          refine x_div C0 i_v10 lit_2 e_v11 dX0_numberAt_37 ?_
          refine lv_istore (lv' := [(4, .int (I v11)), (3, .int (I x8)), (0, .ref (g.2 1))]) C0.1 C0.2.1 dX0_numberAt_38 hl (by decide) rfl (fun ls hl => ?_)
          refine x_goto C0 dX0_numberAt_40 (tgt := 5) (by decide) ?_
          exact ih6 x8 i_x8 v11 i_v11 _ _ _ hE (lv_sub hl [2, 1, 0] rfl) h
        refine x_icmp_ne C0 i_v7 lit_1 dX0_numberAt_15 (tgt := 26) (by decide) (fun c9 => ?_) (fun c9 => ?_)
        · have h := ite_f c9 h
          refine lv_aload_n C0.1 C0.2.1 dX0_numberAt_26 rfl (lv_at hl 0 rfl) ?_
          refine lv_iload_n C0.1 C0.2.1 dX0_numberAt_27 rfl (lv_at hl 1 rfl) ?_
          obtain ⟨v12, h_v12, h⟩ := bndp_s h
          refine callV_i (rest := []) C0 hml hE (Pool_rec C0 hE) (c_Pool_rightOf l D g hR i_x4 h_v12) kw_X0_61 ⟨Nat.le_of_ble_eq_true rfl, Nat.le_of_ble_eq_true rfl⟩ rfl hl.1 rfl (Nat.le_of_ble_eq_true rfl) dX0_numberAt_28 ⟨Nat.zero_le _, Nat.zero_le _⟩ (fun H locs hE i_v12 => ?_)
          exact h_k9 v12 i_v12 _ _ _ hE (lv_sub hl [0, 2] rfl) h
        · have h := ite_t c9 h
          refine lv_aload_n C0.1 C0.2.1 dX0_numberAt_18 rfl (lv_at hl 0 rfl) ?_
          refine lv_iload_n C0.1 C0.2.1 dX0_numberAt_19 rfl (lv_at hl 1 rfl) ?_
          obtain ⟨v13, h_v13, h⟩ := bndp_s h
          refine callV_i (rest := []) C0 hml hE (Pool_rec C0 hE) (c_Pool_leftOf l D g hR i_x4 h_v13) kw_X0_57 ⟨Nat.le_of_ble_eq_true rfl, Nat.le_of_ble_eq_true rfl⟩ rfl hl.1 rfl (Nat.le_of_ble_eq_true rfl) dX0_numberAt_20 ⟨Nat.zero_le _, Nat.zero_le _⟩ (fun H locs hE i_v13 => ?_)
          refine x_goto C0 dX0_numberAt_23 (tgt := 31) (by decide) ?_
          exact h_k9 v13 i_v13 _ _ _ hE (lv_sub hl [0, 2] rfl) h
  exact hL5 FU p1 i_p1 p2 i_p2 _ _ _ hE (lv_sub hl [2, 1, 0] rfl) h
set_option maxRecDepth 100000 in
set_option maxHeartbeats 4000000 in
theorem c_E_isIndex (l : Launch) (D : va_G) (g : Ad) {σ : St} {p1 p2 r : Int} (hR : R32 σ) (i_p1 : in32 p1) (i_p2 : in32 p2) (h : E_isIndex σ p1 p2 = some r) : CtI l D g yX7_isIndex cX7_isIndex 3 (some .boolean) 2 (wE g σ) (wE g σ) [.ref (g.2 0), .int (I p1), .int (I p2)] r (in32 r) := by
  intro sz
  refine met_of (by decide) (Nat.le_of_ble_eq_true rfl) (fun p e s m args below meth c ls H locs C0 hml hr hlk hE hl => ?_)
  have C0 : CX p c cX7_isIndex m s args D g RX7 := C0
  have hl : lv_has ls 3 [(0, .ref (g.2 0)), (1, .int (I p1)), (2, .int (I p2))] := hl
  unfold E_isIndex at h
  refine lv_iload_n C0.1 C0.2.1 dX7_isIndex_0 rfl (lv_at hl 1 rfl) ?_
  obtain ⟨v1, h_v1, h⟩ := bndp_s h
  refine callS_i (rest := []) C0 hml hE (c_E_isPlace l D g (σ := σ) i_p1 h_v1) kw_X7_86 ⟨Nat.le_of_ble_eq_true rfl, Nat.le_of_ble_eq_true rfl⟩ rfl hl.1 rfl (Nat.le_of_ble_eq_true rfl) dX7_isIndex_1 ⟨Nat.zero_le _, Nat.zero_le _⟩ (fun H locs hE i_v1 => ?_)
  refine x_if_eq C0 i_v1 dX7_isIndex_4 (tgt := 25) (by decide) (fun c9 => ?_) (fun c9 => ?_)
  · have h := ite_t c9 h
    refine lv_iconst (v := I 0) C0.1 C0.2.1 dX7_isIndex_25 rfl ?_
    exact pret_z C0 hr hlk hE (Or.inl rfl) h dX7_isIndex_26
  · have h := ite_f c9 h
    refine lv_iload_n C0.1 C0.2.1 dX7_isIndex_7 rfl (lv_at hl 2 rfl) ?_
    refine x_if_lt C0 i_p2 dX7_isIndex_8 (tgt := 25) (by decide) (fun c9 => ?_) (fun c9 => ?_)
    · have h := ite_t c9 h
      refine lv_iconst (v := I 0) C0.1 C0.2.1 dX7_isIndex_25 rfl ?_
      exact pret_z C0 hr hlk hE (Or.inl rfl) h dX7_isIndex_26
    · have h := ite_f c9 h
      refine lv_iload_n C0.1 C0.2.1 dX7_isIndex_11 rfl (lv_at hl 2 rfl) ?_
      refine lv_aload_n C0.1 C0.2.1 dX7_isIndex_12 rfl (lv_at hl 0 rfl) ?_
      refine E_g_sizes C0 hE fk_X7_53 dX7_isIndex_13 ?_
      refine lv_iload_n C0.1 C0.2.1 dX7_isIndex_16 rfl (lv_at hl 1 rfl) ?_
      obtain ⟨v2, e_v2, i_v2, h⟩ := rd_s hR h
      refine E_sizes_l C0 hE i_p1 e_v2 dX7_isIndex_17 ?_
      refine x_icmp_ge C0 i_p2 i_v2 dX7_isIndex_18 (tgt := 25) (by decide) (fun c9 => ?_) (fun c9 => ?_)
      · have h := ite_f c9 h
        refine lv_iconst (v := I 0) C0.1 C0.2.1 dX7_isIndex_25 rfl ?_
        exact pret_z C0 hr hlk hE (Or.inl rfl) h dX7_isIndex_26
      · have h := ite_t c9 h
        refine lv_iconst (v := I 1) C0.1 C0.2.1 dX7_isIndex_21 rfl ?_
        refine x_goto C0 dX7_isIndex_22 (tgt := 26) (by decide) ?_
        exact pret_z C0 hr hlk hE (Or.inr rfl) h dX7_isIndex_26
set_option maxRecDepth 100000 in
set_option maxHeartbeats 4000000 in
theorem c_E_get (l : Launch) (D : va_G) (g : Ad) {σ : St} {p1 p2 r : Int} (hR : R32 σ) (i_p1 : in32 p1) (i_p2 : in32 p2) (h : E_get σ p1 p2 = some r) : CtI l D g yX7_get cX7_get 3 (some .int) 4 (wE g σ) (wE g σ) [.ref (g.2 0), .int (I p1), .int (I p2)] r (in32 r) := by
  intro sz
  refine met_of (by decide) (Nat.le_of_ble_eq_true rfl) (fun p e s m args below meth c ls H locs C0 hml hr hlk hE hl => ?_)
  have C0 : CX p c cX7_get m s args D g RX7 := C0
  have hl : lv_has ls 3 [(0, .ref (g.2 0)), (1, .int (I p1)), (2, .int (I p2))] := hl
  unfold E_get at h
  refine lv_aload_n C0.1 C0.2.1 dX7_get_0 rfl (lv_at hl 0 rfl) ?_
  refine lv_iload_n C0.1 C0.2.1 dX7_get_1 rfl (lv_at hl 1 rfl) ?_
  refine lv_iload_n C0.1 C0.2.1 dX7_get_2 rfl (lv_at hl 2 rfl) ?_
  obtain ⟨v1, h_v1, h⟩ := bndp_s h
  refine callV_i (rest := []) C0 hml hE (E_rec C0 hE) (c_E_isIndex l D g hR i_p1 i_p2 h_v1) kw_X7_165 ⟨Nat.le_of_ble_eq_true rfl, Nat.le_of_ble_eq_true rfl⟩ rfl hl.1 rfl (Nat.le_of_ble_eq_true rfl) dX7_get_3 ⟨Nat.zero_le _, Nat.zero_le _⟩ (fun H locs hE i_v1 => ?_)
  refine x_if_ne C0 i_v1 dX7_get_6 (tgt := 13) (by decide) (fun c9 => ?_) (fun c9 => ?_)
  · have h := ite_f c9 h
    refine lv_aload_n C0.1 C0.2.1 dX7_get_13 rfl (lv_at hl 0 rfl) ?_
    refine E_g_pool C0 hE fk_X7_10 dX7_get_14 ?_
    refine lv_aload_n C0.1 C0.2.1 dX7_get_17 rfl (lv_at hl 0 rfl) ?_
    refine E_g_trees C0 hE fk_X7_49 dX7_get_18 ?_
    refine lv_iload_n C0.1 C0.2.1 dX7_get_21 rfl (lv_at hl 1 rfl) ?_
    obtain ⟨v2, e_v2, i_v2, h⟩ := rd_s hR h
    refine E_trees_l C0 hE i_p1 e_v2 dX7_get_22 ?_
    refine lv_iload_n C0.1 C0.2.1 dX7_get_23 rfl (lv_at hl 2 rfl) ?_
    obtain ⟨v3, h_v3, h⟩ := bndp_s h
    refine callV_i (rest := []) C0 hml hE (Pool_rec C0 hE) (c_Pool_numberAt l D g hR i_v2 i_p2 h_v3) kw_X7_168 ⟨Nat.le_of_ble_eq_true rfl, Nat.le_of_ble_eq_true rfl⟩ rfl hl.1 rfl (Nat.le_of_ble_eq_true rfl) dX7_get_24 ⟨Nat.zero_le _, Nat.zero_le _⟩ (fun H locs hE i_v3 => ?_)
    exact pret_i C0 hr hlk hE h i_v3 dX7_get_27
  · have h := ite_t c9 h
    refine lv_sipush (v := I (-1000)) C0.1 C0.2.1 dX7_get_9 (by decide +kernel) ?_
    exact pret_i C0 hr hlk hE h lit_m1000 dX7_get_12
set_option maxRecDepth 100000 in
set_option maxHeartbeats 4000000 in
theorem c_Jarr_fill_on (l : Launch) (D : va_G) (g : Ad) {σ σr : St} {p2 r : Int} (hR : R32 σ) (i_p2 : in32 p2) (h : Jarr_fill_on σ p2 = some (r, σr)) : CtV l D g yJ7_fill_53178 cJ7_fill_53178 4 none 1 (wE g σ) (wE g σr) [.ref (g.2 23), .int (I p2)] (R32 σr) := by
  intro sz
  refine met_of (by decide) (Nat.le_of_ble_eq_true rfl) (fun p e s m args below meth c ls H locs C0 hml hr hlk hE hl => ?_)
  have C0 : CX p c cJ7_fill_53178 m s args D g RJ7 := C0
  have hl : lv_has ls 4 [(0, .ref (g.2 23)), (1, .int (I p2))] := hl
  unfold Jarr_fill_on at h
  refine lv_iconst (v := I 0) C0.1 C0.2.1 dJ7_fill_53178_0 rfl ?_
  refine lv_istore_n (lv' := [(2, .int (I 0)), (0, .ref (g.2 23)), (1, .int (I p2))]) C0.1 C0.2.1 dJ7_fill_53178_1 rfl hl (by decide) rfl (fun ls hl => ?_)
  refine lv_aload_n C0.1 C0.2.1 dJ7_fill_53178_2 rfl (lv_at hl 1 rfl) ?_
  refine Ways_on_len C0 hE dJ7_fill_53178_3 ?_
  refine lv_istore_n (lv' := [(3, .int (I 255)), (2, .int (I 0)), (0, .ref (g.2 23)), (1, .int (I p2))]) C0.1 C0.2.1 dJ7_fill_53178_4 rfl hl (by decide) rfl (fun ls hl => ?_)
  have hL5 : ∀ (n : Nat) (s3 : St) (hR : R32 s3) (x1 : Int) (i_x1 : in32 x1) (H : Heap) (locs : List Loc) (ls : Array Slot), EW D (va_A (wE g σ) sz) s.heap (wE g s3) H locs → lv_has ls 4 [(0, .ref (g.2 23)), (1, .int (I p2)), (2, .int (I x1)), (3, .int (I 255))] → Jarr_fill_on_L5 p2 n s3 x1 = some (r, σr) → W p l e (rmk 1) s m args below meth c H locs 0 0 (MQ below (QCv D (wE g σr) (R32 σr) (va_A (wE g σ) sz)) args s 0 0 (va_A (wE g σ) sz)) (F0 m 5 ls []) := by
    intro n
    induction n with
    | zero => intros; rename_i h; cases h
    | succ n ih2 =>
      intro s3 hR x1 i_x1 H locs ls hE hl h
      unfold Jarr_fill_on_L5 at h
      refine lv_iload_n C0.1 C0.2.1 dJ7_fill_53178_5 rfl (lv_at hl 2 rfl) ?_
      refine lv_iload_n C0.1 C0.2.1 dJ7_fill_53178_6 rfl (lv_at hl 3 rfl) ?_
      refine x_icmp_ge C0 i_x1 lit_255 dJ7_fill_53178_7 (tgt := 20) (by decide) (fun c9 => ?_) (fun c9 => ?_)
      · have h := ite_f c9 h
        exact ret_v (wf := wE g) C0 hr hlk hE h hR dJ7_fill_53178_20
      · have h := ite_t c9 h
        refine lv_aload_n C0.1 C0.2.1 dJ7_fill_53178_10 rfl (lv_at hl 0 rfl) ?_
        refine lv_iload_n C0.1 C0.2.1 dJ7_fill_53178_11 rfl (lv_at hl 2 rfl) ?_
        refine lv_iload_n C0.1 C0.2.1 dJ7_fill_53178_12 rfl (lv_at hl 1 rfl) ?_
        obtain ⟨s4, e_s4, hR, h⟩ := wr_s hR i_p2 h
        refine Ways_on_st C0 hE i_x1 e_s4 dJ7_fill_53178_13 (fun H locs hE => ?_)
        obtain ⟨v5, e_v5, i_v5, h⟩ := oadd_s h
        refine x_iinc (lv' := [(2, .int (I v5)), (0, .ref (g.2 23)), (1, .int (I p2)), (3, .int (I 255))]) C0 dJ7_fill_53178_14 hl (k := 2) rfl e_v5 (by decide) rfl (fun ls hl => ?_)
        refine x_goto C0 dJ7_fill_53178_17 (tgt := 5) (by decide) ?_
        exact ih2 s4 hR v5 i_v5 _ _ _ hE (lv_sub hl [1, 2, 0, 3] rfl) h
  exact hL5 FU σ hR 0 lit_0 _ _ _ hE (lv_sub hl [2, 3, 1, 0] rfl) h
set_option maxRecDepth 100000 in
set_option maxHeartbeats 4000000 in
theorem c_Ways_clear (l : Launch) (D : va_G) (g : Ad) {σ σr : St} {r : Int} (hR : R32 σ) (h : Ways_clear σ = some (r, σr)) : CtV l D g yX5_clear cX5_clear 1 none 2 (wE g σ) (wE g σr) [.ref (g.2 6)] (R32 σr) := by
  intro sz
  refine met_of (by decide) (Nat.le_of_ble_eq_true rfl) (fun p e s m args below meth c ls H locs C0 hml hr hlk hE hl => ?_)
  have C0 : CX p c cX5_clear m s args D g RX5 := C0
  have hl : lv_has ls 1 [(0, .ref (g.2 6))] := hl
  unfold Ways_clear at h
  refine lv_aload_n C0.1 C0.2.1 dX5_clear_0 rfl (lv_at hl 0 rfl) ?_
  refine Ways_g_on C0 hE fk_X5_9 dX5_clear_1 ?_
  refine lv_iconst (v := I 0) C0.1 C0.2.1 dX5_clear_4 rfl ?_
  obtain ⟨v1, s2, h_v1, h⟩ := bnd_s h
  refine callS_v (rest := []) C0 hml hE (c_Jarr_fill_on l D g hR lit_0 h_v1) kw_X5_19 ⟨Nat.le_of_ble_eq_true rfl, Nat.le_of_ble_eq_true rfl⟩ rfl hl.1 rfl (Nat.le_of_ble_eq_true rfl) dX5_clear_5 ⟨Nat.zero_le _, Nat.zero_le _⟩ (fun H locs hE hR => ?_)
  refine lv_aload_n C0.1 C0.2.1 dX5_clear_8 rfl (lv_at hl 0 rfl) ?_
  refine lv_iconst (v := I 0) C0.1 C0.2.1 dX5_clear_9 rfl ?_
  obtain ⟨s3, e_s3, hR, h⟩ := pf_s hR lit_0 h
  refine Ways_p_total C0 hE e_s3 fk_X5_15 dX5_clear_10 (fun H locs hE => ?_)
  exact ret_v (wf := wE g) C0 hr hlk hE h hR dX5_clear_13
set_option maxRecDepth 100000 in
set_option maxHeartbeats 4000000 in
theorem c_Shape_above (l : Launch) (D : va_G) (g : Ad) {σ : St} {p1 r : Int} (i_p1 : in32 p1) (h : Shape_above p1 = some r) : CtI l D g yX3_above cX3_above 2 (some .int) 2 (wE g σ) (wE g σ) [.int (I p1)] r (in32 r) := by
  intro sz
  refine met_of (by decide) (Nat.le_of_ble_eq_true rfl) (fun p e s m args below meth c ls H locs C0 hml hr hlk hE hl => ?_)
  have C0 : CX p c cX3_above m s args D g RX3 := C0
  have hl : lv_has ls 2 [(0, .int (I p1))] := hl
  unfold Shape_above at h
  refine lv_iload_n C0.1 C0.2.1 dX3_above_0 rfl (lv_at hl 0 rfl) ?_
  refine x_if_gt C0 i_p1 dX3_above_1 (tgt := 6) (by decide) (fun c9 => ?_) (fun c9 => ?_)
  · have h := ite_t c9 h
    refine lv_iload_n C0.1 C0.2.1 dX3_above_6 rfl (lv_at hl 0 rfl) ?_
    obtain ⟨v1, h_v1, h⟩ := bndp_s h
    refine callS_i (rest := []) C0 hml hE (c_Shape_stride l D g (σ := σ) i_p1 h_v1) kw_X3_9 ⟨Nat.le_of_ble_eq_true rfl, Nat.le_of_ble_eq_true rfl⟩ rfl hl.1 rfl (Nat.le_of_ble_eq_true rfl) dX3_above_7 ⟨Nat.zero_le _, Nat.zero_le _⟩ (fun H locs hE i_v1 => ?_)
    refine lv_iconst (v := I 2) C0.1 C0.2.1 dX3_above_10 rfl ?_
    obtain ⟨v2, e_v2, i_v2, h⟩ := odiv_s i_v1 h
    refine x_div C0 i_v1 lit_2 e_v2 dX3_above_11 ?_
    refine lv_istore_n (lv' := [(1, .int (I v2)), (0, .int (I p1))]) C0.1 C0.2.1 dX3_above_12 rfl hl (by decide) rfl (fun ls hl => ?_)
    refine lv_iload_n C0.1 C0.2.1 dX3_above_13 rfl (lv_at hl 0 rfl) ?_
    refine lv_iload_n C0.1 C0.2.1 dX3_above_14 rfl (lv_at hl 1 rfl) ?_
    refine lv_iconst (v := I 1) C0.1 C0.2.1 dX3_above_15 rfl ?_
    obtain ⟨v3, e_v3, i_v3, h⟩ := oadd_s h
    refine x_add C0 e_v3 dX3_above_16 ?_
    refine lv_iload_n C0.1 C0.2.1 dX3_above_17 rfl (lv_at hl 0 rfl) ?_
    refine lv_iconst (v := I 1) C0.1 C0.2.1 dX3_above_18 rfl ?_
    obtain ⟨v4, e_v4, i_v4, h⟩ := osub_s h
    refine x_sub C0 e_v4 dX3_above_19 ?_
    obtain ⟨v5, e_v5, i_v5, h⟩ := opure_s h (band_in _ _)
    refine x_and C0 e_v5 dX3_above_20 ?_
    obtain ⟨v6, e_v6, i_v6, h⟩ := oadd_s h
    refine x_add C0 e_v6 dX3_above_21 ?_
    refine lv_iconst (v := I 1) C0.1 C0.2.1 dX3_above_22 rfl ?_
    obtain ⟨v7, e_v7, i_v7, h⟩ := osub_s h
    refine x_sub C0 e_v7 dX3_above_23 ?_
    exact pret_i C0 hr hlk hE h i_v7 dX3_above_24
  · have h := ite_f c9 h
    refine lv_iconst (v := I (-1)) C0.1 C0.2.1 dX3_above_4 rfl ?_
    exact pret_i C0 hr hlk hE h lit_m1 dX3_above_5
set_option maxRecDepth 100000 in
set_option maxHeartbeats 4000000 in
theorem c_Ways_mark (l : Launch) (D : va_G) (g : Ad) {σ σr : St} {p1 r : Int} (hR : R32 σ) (i_p1 : in32 p1) (h : Ways_mark σ p1 = some (r, σr)) : CtV l D g yX5_mark cX5_mark 4 none 3 (wE g σ) (wE g σr) [.ref (g.2 6), .int (I p1)] (R32 σr) := by
  intro sz
  refine met_of (by decide) (Nat.le_of_ble_eq_true rfl) (fun p e s m args below meth c ls H locs C0 hml hr hlk hE hl => ?_)
  have C0 : CX p c cX5_mark m s args D g RX5 := C0
  have hl : lv_has ls 4 [(0, .ref (g.2 6)), (1, .int (I p1))] := hl
  unfold Ways_mark at h
  refine lv_iload_n C0.1 C0.2.1 dX5_mark_0 rfl (lv_at hl 1 rfl) ?_
  refine lv_istore_n (lv' := [(2, .int (I p1)), (0, .ref (g.2 6)), (1, .int (I p1))]) C0.1 C0.2.1 dX5_mark_1 rfl hl (by decide) rfl (fun ls hl => ?_)
  refine lv_iconst (v := I 0) C0.1 C0.2.1 dX5_mark_2 rfl ?_
  refine lv_istore_n (lv' := [(3, .int (I 0)), (2, .int (I p1)), (0, .ref (g.2 6)), (1, .int (I p1))]) C0.1 C0.2.1 dX5_mark_3 rfl hl (by decide) rfl (fun ls hl => ?_)
  have hL4 : ∀ (n : Nat) (s4 : St) (hR : R32 s4) (x1 : Int) (i_x1 : in32 x1) (x2 : Int) (i_x2 : in32 x2) (H : Heap) (locs : List Loc) (ls : Array Slot), EW D (va_A (wE g σ) sz) s.heap (wE g s4) H locs → lv_has ls 4 [(0, .ref (g.2 6)), (2, .int (I x1)), (3, .int (I x2))] → Ways_mark_L4 n s4 x1 x2 = some (r, σr) → W p l e (rmk 3) s m args below meth c H locs 0 0 (MQ below (QCv D (wE g σr) (R32 σr) (va_A (wE g σ) sz)) args s 0 0 (va_A (wE g σ) sz)) (F0 m 4 ls []) := by
    intro n
    induction n with
    | zero => intros; rename_i h; cases h
    | succ n ih3 =>
      intro s4 hR x1 i_x1 x2 i_x2 H locs ls hE hl h
      unfold Ways_mark_L4 at h
      refine lv_iload_n C0.1 C0.2.1 dX5_mark_4 rfl (lv_at hl 2 rfl) ?_
      refine lv_bipush (v := I 8) C0.1 C0.2.1 dX5_mark_5 (by decide +kernel) ?_
      refine x_icmp_ge C0 i_x2 lit_8 dX5_mark_7 (tgt := 58) (by decide) (fun c9 => ?_) (fun c9 => ?_)
      · have h := ite_f c9 h
        exact ret_v (wf := wE g) C0 hr hlk hE h hR dX5_mark_58
      · have h := ite_t c9 h
        refine lv_iload_n C0.1 C0.2.1 dX5_mark_10 rfl (lv_at hl 1 rfl) ?_
        refine x_if_lt C0 i_x1 dX5_mark_11 (tgt := 58) (by decide) (fun c9 => ?_) (fun c9 => ?_)
        · have h := ite_t c9 h
          exact ret_v (wf := wE g) C0 hr hlk hE h hR dX5_mark_58
        · have h := ite_f c9 h
          refine lv_iload_n C0.1 C0.2.1 dX5_mark_14 rfl (lv_at hl 1 rfl) ?_
          refine lv_sipush (v := I 255) C0.1 C0.2.1 dX5_mark_15 (by decide +kernel) ?_
          refine x_icmp_ge C0 i_x1 lit_255 dX5_mark_18 (tgt := 58) (by decide) (fun c9 => ?_) (fun c9 => ?_)
          · have h := ite_f c9 h
            exact ret_v (wf := wE g) C0 hr hlk hE h hR dX5_mark_58
          · have h := ite_t c9 h
            refine lv_aload_n C0.1 C0.2.1 dX5_mark_21 rfl (lv_at hl 0 rfl) ?_
            refine Ways_g_on C0 hE fk_X5_9 dX5_mark_22 ?_
            refine lv_iload_n C0.1 C0.2.1 dX5_mark_25 rfl (lv_at hl 1 rfl) ?_
            obtain ⟨v5, e_v5, i_v5, h⟩ := rd_s hR h
            refine Ways_on_l C0 hE i_x1 e_v5 dX5_mark_26 ?_
            refine x_if_ne C0 i_v5 dX5_mark_27 (tgt := 58) (by decide) (fun c9 => ?_) (fun c9 => ?_)
            · have h := ite_f c9 h
              exact ret_v (wf := wE g) C0 hr hlk hE h hR dX5_mark_58
            · have h := ite_t c9 h
              refine lv_aload_n C0.1 C0.2.1 dX5_mark_30 rfl (lv_at hl 0 rfl) ?_
              refine Ways_g_on C0 hE fk_X5_9 dX5_mark_31 ?_
              refine lv_iload_n C0.1 C0.2.1 dX5_mark_34 rfl (lv_at hl 1 rfl) ?_
              refine lv_iconst (v := I 1) C0.1 C0.2.1 dX5_mark_35 rfl ?_
              obtain ⟨s6, e_s6, hR, h⟩ := wr_s hR lit_1 h
              refine Ways_on_st C0 hE i_x1 e_s6 dX5_mark_36 (fun H locs hE => ?_)
              refine lv_aload_n C0.1 C0.2.1 dX5_mark_37 rfl (lv_at hl 0 rfl) ?_
              refine lv_dup C0.1 C0.2.1 dX5_mark_38 rfl ?_
              obtain ⟨v7, e_v7, i_v7, h⟩ := gf_s hR h
              refine Ways_g_total C0 hE e_v7 fk_X5_15 dX5_mark_39 ?_
              refine lv_iconst (v := I 1) C0.1 C0.2.1 dX5_mark_42 rfl ?_
              obtain ⟨v8, e_v8, i_v8, h⟩ := oadd_s h
              refine x_add C0 e_v8 dX5_mark_43 ?_
              obtain ⟨s9, e_s9, hR, h⟩ := pf_s hR i_v8 h
              refine Ways_p_total C0 hE e_s9 fk_X5_15 dX5_mark_44 (fun H locs hE => ?_)
              refine lv_iload_n C0.1 C0.2.1 dX5_mark_47 rfl (lv_at hl 1 rfl) ?_
              obtain ⟨v10, h_v10, h⟩ := bndp_s h
              refine callS_i (rest := []) C0 hml hE (c_Shape_above l D g (σ := s9) i_x1 h_v10) kw_X5_25 ⟨Nat.le_of_ble_eq_true rfl, Nat.le_of_ble_eq_true rfl⟩ rfl hl.1 rfl (Nat.le_of_ble_eq_true rfl) dX5_mark_48 ⟨Nat.zero_le _, Nat.zero_le _⟩ (fun H locs hE i_v10 => ?_)
              refine lv_istore_n (lv' := [(2, .int (I v10)), (0, .ref (g.2 6)), (3, .int (I x2))]) C0.1 C0.2.1 dX5_mark_51 rfl hl (by decide) rfl (fun ls hl => ?_)
              obtain ⟨v11, e_v11, i_v11, h⟩ := oadd_s h
              refine x_iinc (lv' := [(3, .int (I v11)), (2, .int (I v10)), (0, .ref (g.2 6))]) C0 dX5_mark_52 hl (k := 2) rfl e_v11 (by decide) rfl (fun ls hl => ?_)
              refine x_goto C0 dX5_mark_55 (tgt := 4) (by decide) ?_
              exact ih3 s9 hR v10 i_v10 v11 i_v11 _ _ _ hE (lv_sub hl [2, 1, 0] rfl) h
  exact hL4 FU σ hR p1 i_p1 0 lit_0 _ _ _ hE (lv_sub hl [2, 1, 0] rfl) h
set_option maxRecDepth 100000 in
set_option maxHeartbeats 4000000 in
theorem c_E_markUnlike (l : Launch) (D : va_G) (g : Ad) {σ σr : St} {p1 r : Int} (hR : R32 σ) (i_p1 : in32 p1) (h : E_markUnlike σ p1 = some (r, σr)) : CtI l D g yX7_markUnlike cX7_markUnlike 4 (some .int) 4 (wE g σ) (wE g σr) [.ref (g.2 0), .int (I p1)] r (in32 r ∧ R32 σr) := by
  intro sz
  refine met_of (by decide) (Nat.le_of_ble_eq_true rfl) (fun p e s m args below meth c ls H locs C0 hml hr hlk hE hl => ?_)
  have C0 : CX p c cX7_markUnlike m s args D g RX7 := C0
  have hl : lv_has ls 4 [(0, .ref (g.2 0)), (1, .int (I p1))] := hl
  unfold E_markUnlike at h
  refine lv_aload_n C0.1 C0.2.1 dX7_markUnlike_0 rfl (lv_at hl 0 rfl) ?_
  refine E_g_marked C0 hE fk_X7_45 dX7_markUnlike_1 ?_
  obtain ⟨v1, s2, h_v1, h⟩ := bnd_s h
  refine callV_v (rest := []) C0 hml hE (Ways_rec C0 hE) (c_Ways_clear l D g hR h_v1) kw_X7_198 ⟨Nat.le_of_ble_eq_true rfl, Nat.le_of_ble_eq_true rfl⟩ rfl hl.1 rfl (Nat.le_of_ble_eq_true rfl) dX7_markUnlike_4 ⟨Nat.zero_le _, Nat.zero_le _⟩ (fun H locs hE hR => ?_)
  refine lv_iconst (v := I 0) C0.1 C0.2.1 dX7_markUnlike_7 rfl ?_
  refine lv_istore_n (lv' := [(2, .int (I 0)), (0, .ref (g.2 0)), (1, .int (I p1))]) C0.1 C0.2.1 dX7_markUnlike_8 rfl hl (by decide) rfl (fun ls hl => ?_)
  refine lv_iconst (v := I 0) C0.1 C0.2.1 dX7_markUnlike_9 rfl ?_
  refine lv_istore_n (lv' := [(3, .int (I 0)), (2, .int (I 0)), (0, .ref (g.2 0)), (1, .int (I p1))]) C0.1 C0.2.1 dX7_markUnlike_10 rfl hl (by decide) rfl (fun ls hl => ?_)
  have hL11 : ∀ (n : Nat) (s6 : St) (hR : R32 s6) (x3 : Int) (i_x3 : in32 x3) (x4 : Int) (i_x4 : in32 x4) (H : Heap) (locs : List Loc) (ls : Array Slot), EW D (va_A (wE g σ) sz) s.heap (wE g s6) H locs → lv_has ls 4 [(0, .ref (g.2 0)), (1, .int (I p1)), (2, .int (I x3)), (3, .int (I x4))] → E_markUnlike_L11 p1 n s6 x3 x4 = some (r, σr) → W p l e (rmk 4) s m args below meth c H locs 0 0 (MQ below (QCi D (wE g σr) r (in32 r ∧ R32 σr) (va_A (wE g σ) sz)) args s 0 0 (va_A (wE g σ) sz)) (F0 m 11 ls []) := by
    intro n
    induction n with
    | zero => intros; rename_i h; cases h
    | succ n ih5 =>
      intro s6 hR x3 i_x3 x4 i_x4 H locs ls hE hl h
      unfold E_markUnlike_L11 at h
      refine lv_iload_n C0.1 C0.2.1 dX7_markUnlike_11 rfl (lv_at hl 3 rfl) ?_
      refine lv_iload_n C0.1 C0.2.1 dX7_markUnlike_12 rfl (lv_at hl 1 rfl) ?_
      refine x_icmp_ge C0 i_x4 i_p1 dX7_markUnlike_13 (tgt := 48) (by decide) (fun c9 => ?_) (fun c9 => ?_)
      · have h := ite_f c9 h
        refine lv_iload_n C0.1 C0.2.1 dX7_markUnlike_48 rfl (lv_at hl 2 rfl) ?_
        exact ret_i (wf := wE g) C0 hr hlk hE h i_x3 hR dX7_markUnlike_49
      · have h := ite_t c9 h
        refine lv_aload_n C0.1 C0.2.1 dX7_markUnlike_16 rfl (lv_at hl 0 rfl) ?_
        refine E_g_one C0 hE fk_X7_56 dX7_markUnlike_17 ?_
        refine lv_iload_n C0.1 C0.2.1 dX7_markUnlike_20 rfl (lv_at hl 3 rfl) ?_
        obtain ⟨v7, e_v7, i_v7, h⟩ := rd_s hR h
        refine E_one_l C0 hE i_x4 e_v7 dX7_markUnlike_21 ?_
        refine lv_aload_n C0.1 C0.2.1 dX7_markUnlike_22 rfl (lv_at hl 0 rfl) ?_
        refine E_g_other C0 hE fk_X7_59 dX7_markUnlike_23 ?_
        refine lv_iload_n C0.1 C0.2.1 dX7_markUnlike_26 rfl (lv_at hl 3 rfl) ?_
        obtain ⟨v8, e_v8, i_v8, h⟩ := rd_s hR h
        refine E_other_l C0 hE i_x4 e_v8 dX7_markUnlike_27 ?_
        obtain ⟨k11, e_k11, h⟩ := jn_s h
        have h_k11 : ∀ (s9 : St) (hR : R32 s9) (x10 : Int) (i_x10 : in32 x10) (H : Heap) (locs : List Loc) (ls : Array Slot), EW D (va_A (wE g σ) sz) s.heap (wE g s9) H locs → lv_has ls 4 [(0, .ref (g.2 0)), (1, .int (I p1)), (2, .int (I x10)), (3, .int (I x4))] → k11 s9 x10 = some (r, σr) → W p l e (rmk 4) s m args below meth c H locs 0 0 (MQ below (QCi D (wE g σr) r (in32 r ∧ R32 σr) (va_A (wE g σ) sz)) args s 0 0 (va_A (wE g σ) sz)) (F0 m 42 ls []) := by
          intro s9 hR x10 i_x10 H locs ls hE hl h
          have h := (congrFun (congrFun e_k11 s9) x10).symm.trans h
          obtain ⟨v12, e_v12, i_v12, h⟩ := oadd_s h
          refine x_iinc (lv' := [(3, .int (I v12)), (0, .ref (g.2 0)), (1, .int (I p1)), (2, .int (I x10))]) C0 dX7_markUnlike_42 hl (k := 3) rfl e_v12 (by decide) rfl (fun ls hl => ?_)
          refine x_goto C0 dX7_markUnlike_45 (tgt := 11) (by decide) ?_
          exact ih5 s9 hR x10 i_x10 v12 i_v12 _ _ _ hE (lv_sub hl [1, 2, 3, 0] rfl) h
        refine x_icmp_eq C0 i_v7 i_v8 dX7_markUnlike_28 (tgt := 42) (by decide) (fun c9 => ?_) (fun c9 => ?_)
        · have h := ite_t c9 h
          exact h_k11 s6 hR x3 i_x3 _ _ _ hE (lv_sub hl [0, 1, 2, 3] rfl) h
        · have h := ite_f c9 h
          refine lv_aload_n C0.1 C0.2.1 dX7_markUnlike_31 rfl (lv_at hl 0 rfl) ?_
          refine E_g_marked C0 hE fk_X7_45 dX7_markUnlike_32 ?_
          refine lv_iload_n C0.1 C0.2.1 dX7_markUnlike_35 rfl (lv_at hl 3 rfl) ?_
          obtain ⟨v13, s14, h_v13, h⟩ := bnd_s h
          refine callV_v (rest := []) C0 hml hE (Ways_rec C0 hE) (c_Ways_mark l D g hR i_x4 h_v13) kw_X7_208 ⟨Nat.le_of_ble_eq_true rfl, Nat.le_of_ble_eq_true rfl⟩ rfl hl.1 rfl (Nat.le_of_ble_eq_true rfl) dX7_markUnlike_36 ⟨Nat.zero_le _, Nat.zero_le _⟩ (fun H locs hE hR => ?_)
          obtain ⟨v15, e_v15, i_v15, h⟩ := oadd_s h
          refine x_iinc (lv' := [(2, .int (I v15)), (0, .ref (g.2 0)), (1, .int (I p1)), (3, .int (I x4))]) C0 dX7_markUnlike_39 hl (k := 2) rfl e_v15 (by decide) rfl (fun ls hl => ?_)
          exact h_k11 s14 hR v15 i_v15 _ _ _ hE (lv_sub hl [1, 2, 0, 3] rfl) h
  exact hL11 FU s2 hR 0 lit_0 0 lit_0 _ _ _ hE (lv_sub hl [2, 3, 1, 0] rfl) h
set_option maxRecDepth 100000 in
set_option maxHeartbeats 4000000 in
theorem c_Pool_read_one (l : Launch) (D : va_G) (g : Ad) {σ σr : St} {p1 p2 r : Int} (hR : R32 σ) (i_p1 : in32 p1) (i_p2 : in32 p2) (h : Pool_read_one σ p1 p2 = some (r, σr)) : CtV l D g yX0_read cX0_read 5 none 4 (wE g σ) (wE g σr) [.ref (g.2 1), .int (I p1), .int (I p2), .ref (g.2 26)] (R32 σr) := by
  intro sz
  refine met_of (by decide) (Nat.le_of_ble_eq_true rfl) (fun p e s m args below meth c ls H locs C0 hml hr hlk hE hl => ?_)
  have C0 : CX p c cX0_read m s args D g RX0 := C0
  have hl : lv_has ls 5 [(0, .ref (g.2 1)), (1, .int (I p1)), (2, .int (I p2)), (3, .ref (g.2 26))] := hl
  unfold Pool_read_one at h
  refine lv_aload_n C0.1 C0.2.1 dX0_read_0 rfl (lv_at hl 0 rfl) ?_
  refine lv_iload_n C0.1 C0.2.1 dX0_read_1 rfl (lv_at hl 1 rfl) ?_
  refine lv_iload_n C0.1 C0.2.1 dX0_read_2 rfl (lv_at hl 2 rfl) ?_
  obtain ⟨v1, s2, h_v1, h⟩ := bnd_s h
  refine callV_v (rest := []) C0 hml hE (Pool_rec C0 hE) (c_Pool_spread l D g hR i_p1 i_p2 h_v1) kw_X0_49 ⟨Nat.le_of_ble_eq_true rfl, Nat.le_of_ble_eq_true rfl⟩ rfl hl.1 rfl (Nat.le_of_ble_eq_true rfl) dX0_read_3 ⟨Nat.zero_le _, Nat.zero_le _⟩ (fun H locs hE hR => ?_)
  refine lv_iconst (v := I 0) C0.1 C0.2.1 dX0_read_6 rfl ?_
  refine lv_istore (lv' := [(4, .int (I 0)), (0, .ref (g.2 1)), (1, .int (I p1)), (2, .int (I p2)), (3, .ref (g.2 26))]) C0.1 C0.2.1 dX0_read_7 hl (by decide) rfl (fun ls hl => ?_)
  have hL9 : ∀ (n : Nat) (s5 : St) (hR : R32 s5) (x3 : Int) (i_x3 : in32 x3) (H : Heap) (locs : List Loc) (ls : Array Slot), EW D (va_A (wE g σ) sz) s.heap (wE g s5) H locs → lv_has ls 5 [(0, .ref (g.2 1)), (2, .int (I p2)), (3, .ref (g.2 26)), (4, .int (I x3))] → Pool_read_one_L9 p2 n s5 x3 = some (r, σr) → W p l e (rmk 4) s m args below meth c H locs 0 0 (MQ below (QCv D (wE g σr) (R32 σr) (va_A (wE g σ) sz)) args s 0 0 (va_A (wE g σ) sz)) (F0 m 9 ls []) := by
    intro n
    induction n with
    | zero => intros; rename_i h; cases h
    | succ n ih4 =>
      intro s5 hR x3 i_x3 H locs ls hE hl h
      unfold Pool_read_one_L9 at h
      refine lv_iload C0.1 C0.2.1 dX0_read_9 (lv_at hl 3 rfl) ?_
      refine lv_iload_n C0.1 C0.2.1 dX0_read_11 rfl (lv_at hl 1 rfl) ?_
      refine x_icmp_ge C0 i_x3 i_p2 dX0_read_12 (tgt := 36) (by decide) (fun c9 => ?_) (fun c9 => ?_)
      · have h := ite_f c9 h
        exact ret_v (wf := wE g) C0 hr hlk hE h hR dX0_read_36
      · have h := ite_t c9 h
        refine lv_aload_n C0.1 C0.2.1 dX0_read_15 rfl (lv_at hl 2 rfl) ?_
        refine lv_iload C0.1 C0.2.1 dX0_read_16 (lv_at hl 3 rfl) ?_
        refine lv_aload_n C0.1 C0.2.1 dX0_read_18 rfl (lv_at hl 0 rfl) ?_
        refine lv_aload_n C0.1 C0.2.1 dX0_read_19 rfl (lv_at hl 0 rfl) ?_
        refine Pool_g_at C0 hE fk_X0_27 dX0_read_20 ?_
        refine lv_iload C0.1 C0.2.1 dX0_read_23 (lv_at hl 3 rfl) ?_
        obtain ⟨v6, e_v6, i_v6, h⟩ := rd_s hR h
        refine Pool_at_l C0 hE i_x3 e_v6 dX0_read_25 ?_
        obtain ⟨v7, h_v7, h⟩ := bndp_s h
        refine callV_i (rest := [.int (I x3), .ref (g.2 26)]) C0 hml hE (Pool_rec C0 hE) (c_Pool_numberOf l D g hR i_v6 h_v7) kw_X0_64 ⟨Nat.le_of_ble_eq_true rfl, Nat.le_of_ble_eq_true rfl⟩ rfl hl.1 rfl (Nat.le_of_ble_eq_true rfl) dX0_read_26 ⟨Nat.zero_le _, Nat.zero_le _⟩ (fun H locs hE i_v7 => ?_)
        obtain ⟨s8, e_s8, hR, h⟩ := wr_s hR i_v7 h
        refine E_one_st C0 hE i_x3 e_s8 dX0_read_29 (fun H locs hE => ?_)
        obtain ⟨v9, e_v9, i_v9, h⟩ := oadd_s h
        refine x_iinc (lv' := [(4, .int (I v9)), (0, .ref (g.2 1)), (2, .int (I p2)), (3, .ref (g.2 26))]) C0 dX0_read_30 hl (k := 3) rfl e_v9 (by decide) rfl (fun ls hl => ?_)
        refine x_goto C0 dX0_read_33 (tgt := 9) (by decide) ?_
        exact ih4 s8 hR v9 i_v9 _ _ _ hE (lv_sub hl [1, 2, 3, 0] rfl) h
  exact hL9 FU s2 hR 0 lit_0 _ _ _ hE (lv_sub hl [1, 3, 4, 0] rfl) h
set_option maxRecDepth 100000 in
set_option maxHeartbeats 4000000 in
theorem c_Pool_read_other (l : Launch) (D : va_G) (g : Ad) {σ σr : St} {p1 p2 r : Int} (hR : R32 σ) (i_p1 : in32 p1) (i_p2 : in32 p2) (h : Pool_read_other σ p1 p2 = some (r, σr)) : CtV l D g yX0_read cX0_read 5 none 4 (wE g σ) (wE g σr) [.ref (g.2 1), .int (I p1), .int (I p2), .ref (g.2 27)] (R32 σr) := by
  intro sz
  refine met_of (by decide) (Nat.le_of_ble_eq_true rfl) (fun p e s m args below meth c ls H locs C0 hml hr hlk hE hl => ?_)
  have C0 : CX p c cX0_read m s args D g RX0 := C0
  have hl : lv_has ls 5 [(0, .ref (g.2 1)), (1, .int (I p1)), (2, .int (I p2)), (3, .ref (g.2 27))] := hl
  unfold Pool_read_other at h
  refine lv_aload_n C0.1 C0.2.1 dX0_read_0 rfl (lv_at hl 0 rfl) ?_
  refine lv_iload_n C0.1 C0.2.1 dX0_read_1 rfl (lv_at hl 1 rfl) ?_
  refine lv_iload_n C0.1 C0.2.1 dX0_read_2 rfl (lv_at hl 2 rfl) ?_
  obtain ⟨v1, s2, h_v1, h⟩ := bnd_s h
  refine callV_v (rest := []) C0 hml hE (Pool_rec C0 hE) (c_Pool_spread l D g hR i_p1 i_p2 h_v1) kw_X0_49 ⟨Nat.le_of_ble_eq_true rfl, Nat.le_of_ble_eq_true rfl⟩ rfl hl.1 rfl (Nat.le_of_ble_eq_true rfl) dX0_read_3 ⟨Nat.zero_le _, Nat.zero_le _⟩ (fun H locs hE hR => ?_)
  refine lv_iconst (v := I 0) C0.1 C0.2.1 dX0_read_6 rfl ?_
  refine lv_istore (lv' := [(4, .int (I 0)), (0, .ref (g.2 1)), (1, .int (I p1)), (2, .int (I p2)), (3, .ref (g.2 27))]) C0.1 C0.2.1 dX0_read_7 hl (by decide) rfl (fun ls hl => ?_)
  have hL9 : ∀ (n : Nat) (s5 : St) (hR : R32 s5) (x3 : Int) (i_x3 : in32 x3) (H : Heap) (locs : List Loc) (ls : Array Slot), EW D (va_A (wE g σ) sz) s.heap (wE g s5) H locs → lv_has ls 5 [(0, .ref (g.2 1)), (2, .int (I p2)), (3, .ref (g.2 27)), (4, .int (I x3))] → Pool_read_other_L9 p2 n s5 x3 = some (r, σr) → W p l e (rmk 4) s m args below meth c H locs 0 0 (MQ below (QCv D (wE g σr) (R32 σr) (va_A (wE g σ) sz)) args s 0 0 (va_A (wE g σ) sz)) (F0 m 9 ls []) := by
    intro n
    induction n with
    | zero => intros; rename_i h; cases h
    | succ n ih4 =>
      intro s5 hR x3 i_x3 H locs ls hE hl h
      unfold Pool_read_other_L9 at h
      refine lv_iload C0.1 C0.2.1 dX0_read_9 (lv_at hl 3 rfl) ?_
      refine lv_iload_n C0.1 C0.2.1 dX0_read_11 rfl (lv_at hl 1 rfl) ?_
      refine x_icmp_ge C0 i_x3 i_p2 dX0_read_12 (tgt := 36) (by decide) (fun c9 => ?_) (fun c9 => ?_)
      · have h := ite_f c9 h
        exact ret_v (wf := wE g) C0 hr hlk hE h hR dX0_read_36
      · have h := ite_t c9 h
        refine lv_aload_n C0.1 C0.2.1 dX0_read_15 rfl (lv_at hl 2 rfl) ?_
        refine lv_iload C0.1 C0.2.1 dX0_read_16 (lv_at hl 3 rfl) ?_
        refine lv_aload_n C0.1 C0.2.1 dX0_read_18 rfl (lv_at hl 0 rfl) ?_
        refine lv_aload_n C0.1 C0.2.1 dX0_read_19 rfl (lv_at hl 0 rfl) ?_
        refine Pool_g_at C0 hE fk_X0_27 dX0_read_20 ?_
        refine lv_iload C0.1 C0.2.1 dX0_read_23 (lv_at hl 3 rfl) ?_
        obtain ⟨v6, e_v6, i_v6, h⟩ := rd_s hR h
        refine Pool_at_l C0 hE i_x3 e_v6 dX0_read_25 ?_
        obtain ⟨v7, h_v7, h⟩ := bndp_s h
        refine callV_i (rest := [.int (I x3), .ref (g.2 27)]) C0 hml hE (Pool_rec C0 hE) (c_Pool_numberOf l D g hR i_v6 h_v7) kw_X0_64 ⟨Nat.le_of_ble_eq_true rfl, Nat.le_of_ble_eq_true rfl⟩ rfl hl.1 rfl (Nat.le_of_ble_eq_true rfl) dX0_read_26 ⟨Nat.zero_le _, Nat.zero_le _⟩ (fun H locs hE i_v7 => ?_)
        obtain ⟨s8, e_s8, hR, h⟩ := wr_s hR i_v7 h
        refine E_other_st C0 hE i_x3 e_s8 dX0_read_29 (fun H locs hE => ?_)
        obtain ⟨v9, e_v9, i_v9, h⟩ := oadd_s h
        refine x_iinc (lv' := [(4, .int (I v9)), (0, .ref (g.2 1)), (2, .int (I p2)), (3, .ref (g.2 27))]) C0 dX0_read_30 hl (k := 3) rfl e_v9 (by decide) rfl (fun ls hl => ?_)
        refine x_goto C0 dX0_read_33 (tgt := 9) (by decide) ?_
        exact ih4 s8 hR v9 i_v9 _ _ _ hE (lv_sub hl [1, 2, 3, 0] rfl) h
  exact hL9 FU s2 hR 0 lit_0 _ _ _ hE (lv_sub hl [1, 3, 4, 0] rfl) h
set_option maxRecDepth 100000 in
set_option maxHeartbeats 4000000 in
theorem c_E_readBoth (l : Launch) (D : va_G) (g : Ad) {σ σr : St} {p1 p2 r : Int} (hR : R32 σ) (i_p1 : in32 p1) (i_p2 : in32 p2) (h : E_readBoth σ p1 p2 = some (r, σr)) : CtV l D g yX7_readBoth cX7_readBoth 3 none 5 (wE g σ) (wE g σr) [.ref (g.2 0), .int (I p1), .int (I p2)] (R32 σr) := by
  intro sz
  refine met_of (by decide) (Nat.le_of_ble_eq_true rfl) (fun p e s m args below meth c ls H locs C0 hml hr hlk hE hl => ?_)
  have C0 : CX p c cX7_readBoth m s args D g RX7 := C0
  have hl : lv_has ls 3 [(0, .ref (g.2 0)), (1, .int (I p1)), (2, .int (I p2))] := hl
  unfold E_readBoth at h
  refine lv_aload_n C0.1 C0.2.1 dX7_readBoth_0 rfl (lv_at hl 0 rfl) ?_
  refine E_g_pool C0 hE fk_X7_10 dX7_readBoth_1 ?_
  refine lv_aload_n C0.1 C0.2.1 dX7_readBoth_4 rfl (lv_at hl 0 rfl) ?_
  refine E_g_trees C0 hE fk_X7_49 dX7_readBoth_5 ?_
  refine lv_iload_n C0.1 C0.2.1 dX7_readBoth_8 rfl (lv_at hl 1 rfl) ?_
  obtain ⟨v1, e_v1, i_v1, h⟩ := rd_s hR h
  refine E_trees_l C0 hE i_p1 e_v1 dX7_readBoth_9 ?_
  refine lv_aload_n C0.1 C0.2.1 dX7_readBoth_10 rfl (lv_at hl 0 rfl) ?_
  refine E_g_sizes C0 hE fk_X7_53 dX7_readBoth_11 ?_
  refine lv_iload_n C0.1 C0.2.1 dX7_readBoth_14 rfl (lv_at hl 1 rfl) ?_
  obtain ⟨v2, e_v2, i_v2, h⟩ := rd_s hR h
  refine E_sizes_l C0 hE i_p1 e_v2 dX7_readBoth_15 ?_
  refine lv_aload_n C0.1 C0.2.1 dX7_readBoth_16 rfl (lv_at hl 0 rfl) ?_
  refine E_g_one C0 hE fk_X7_56 dX7_readBoth_17 ?_
  obtain ⟨v3, s4, h_v3, h⟩ := bnd_s h
  refine callV_v (rest := []) C0 hml hE (Pool_rec C0 hE) (c_Pool_read_one l D g hR i_v1 i_v2 h_v3) kw_X7_201 ⟨Nat.le_of_ble_eq_true rfl, Nat.le_of_ble_eq_true rfl⟩ rfl hl.1 rfl (Nat.le_of_ble_eq_true rfl) dX7_readBoth_20 ⟨Nat.zero_le _, Nat.zero_le _⟩ (fun H locs hE hR => ?_)
  refine lv_aload_n C0.1 C0.2.1 dX7_readBoth_23 rfl (lv_at hl 0 rfl) ?_
  refine E_g_pool C0 hE fk_X7_10 dX7_readBoth_24 ?_
  refine lv_aload_n C0.1 C0.2.1 dX7_readBoth_27 rfl (lv_at hl 0 rfl) ?_
  refine E_g_trees C0 hE fk_X7_49 dX7_readBoth_28 ?_
  refine lv_iload_n C0.1 C0.2.1 dX7_readBoth_31 rfl (lv_at hl 2 rfl) ?_
  obtain ⟨v5, e_v5, i_v5, h⟩ := rd_s hR h
  refine E_trees_l C0 hE i_p2 e_v5 dX7_readBoth_32 ?_
  refine lv_aload_n C0.1 C0.2.1 dX7_readBoth_33 rfl (lv_at hl 0 rfl) ?_
  refine E_g_sizes C0 hE fk_X7_53 dX7_readBoth_34 ?_
  refine lv_iload_n C0.1 C0.2.1 dX7_readBoth_37 rfl (lv_at hl 2 rfl) ?_
  obtain ⟨v6, e_v6, i_v6, h⟩ := rd_s hR h
  refine E_sizes_l C0 hE i_p2 e_v6 dX7_readBoth_38 ?_
  refine lv_aload_n C0.1 C0.2.1 dX7_readBoth_39 rfl (lv_at hl 0 rfl) ?_
  refine E_g_other C0 hE fk_X7_59 dX7_readBoth_40 ?_
  obtain ⟨v7, s8, h_v7, h⟩ := bnd_s h
  refine callV_v (rest := []) C0 hml hE (Pool_rec C0 hE) (c_Pool_read_other l D g hR i_v5 i_v6 h_v7) kw_X7_201 ⟨Nat.le_of_ble_eq_true rfl, Nat.le_of_ble_eq_true rfl⟩ rfl hl.1 rfl (Nat.le_of_ble_eq_true rfl) dX7_readBoth_43 ⟨Nat.zero_le _, Nat.zero_le _⟩ (fun H locs hE hR => ?_)
  exact ret_v (wf := wE g) C0 hr hlk hE h hR dX7_readBoth_46
set_option maxRecDepth 100000 in
set_option maxHeartbeats 4000000 in
theorem c_Pool_below (l : Launch) (D : va_G) (g : Ad) {σ : St} {p1 p2 p3 r : Int} (hR : R32 σ) (i_p1 : in32 p1) (i_p2 : in32 p2) (i_p3 : in32 p3) (h : Pool_below σ p1 p2 p3 = some r) : CtI l D g yX0_below cX0_below 5 (some .int) 2 (wE g σ) (wE g σ) [.ref (g.2 1), .int (I p1), .int (I p2), .int (I p3)] r (in32 r) := by
  intro sz
  refine met_of (by decide) (Nat.le_of_ble_eq_true rfl) (fun p e s m args below meth c ls H locs C0 hml hr hlk hE hl => ?_)
  have C0 : CX p c cX0_below m s args D g RX0 := C0
  have hl : lv_has ls 5 [(0, .ref (g.2 1)), (1, .int (I p1)), (2, .int (I p2)), (3, .int (I p3))] := hl
  unfold Pool_below at h
  refine lv_iload_n C0.1 C0.2.1 dX0_below_0 rfl (lv_at hl 1 rfl) ?_
  refine lv_iload_n C0.1 C0.2.1 dX0_below_1 rfl (lv_at hl 2 rfl) ?_
  refine lv_iload_n C0.1 C0.2.1 dX0_below_2 rfl (lv_at hl 1 rfl) ?_
  obtain ⟨v1, h_v1, h⟩ := bndp_s h
  refine callS_i (rest := [.int (I p2), .int (I p1)]) C0 hml hE (c_Shape_stride l D g (σ := σ) i_p1 h_v1) kw_X0_67 ⟨Nat.le_of_ble_eq_true rfl, Nat.le_of_ble_eq_true rfl⟩ rfl hl.1 rfl (Nat.le_of_ble_eq_true rfl) dX0_below_3 ⟨Nat.zero_le _, Nat.zero_le _⟩ (fun H locs hE i_v1 => ?_)
  obtain ⟨v2, e_v2, i_v2, h⟩ := omul_s h
  refine x_mul C0 e_v2 dX0_below_6 ?_
  obtain ⟨v3, e_v3, i_v3, h⟩ := oadd_s h
  refine x_add C0 e_v3 dX0_below_7 ?_
  refine lv_istore (lv' := [(4, .int (I v3)), (0, .ref (g.2 1)), (1, .int (I p1)), (2, .int (I p2)), (3, .int (I p3))]) C0.1 C0.2.1 dX0_below_8 hl (by decide) rfl (fun ls hl => ?_)
  refine lv_iload C0.1 C0.2.1 dX0_below_10 (lv_at hl 0 rfl) ?_
  refine lv_iload_n C0.1 C0.2.1 dX0_below_12 rfl (lv_at hl 4 rfl) ?_
  refine x_icmp_ge C0 i_v3 i_p3 dX0_below_13 (tgt := 26) (by decide) (fun c9 => ?_) (fun c9 => ?_)
  · have h := ite_f c9 h
    refine lv_iconst (v := I 0) C0.1 C0.2.1 dX0_below_26 rfl ?_
    exact pret_i C0 hr hlk hE h lit_0 dX0_below_27
  · have h := ite_t c9 h
    refine lv_aload_n C0.1 C0.2.1 dX0_below_16 rfl (lv_at hl 1 rfl) ?_
    refine Pool_g_at C0 hE fk_X0_27 dX0_below_17 ?_
    refine lv_iload C0.1 C0.2.1 dX0_below_20 (lv_at hl 0 rfl) ?_
    obtain ⟨v4, e_v4, i_v4, h⟩ := rd_s hR h
    refine Pool_at_l C0 hE i_v3 e_v4 dX0_below_22 ?_
    refine x_goto C0 dX0_below_23 (tgt := 27) (by decide) ?_
    exact pret_i C0 hr hlk hE h i_v4 dX0_below_27
set_option maxRecDepth 100000 in
set_option maxHeartbeats 4000000 in
theorem c_Pool_rootOf (l : Launch) (D : va_G) (g : Ad) {σ : St} {p1 r : Int} (hR : R32 σ) (i_p1 : in32 p1) (h : Pool_rootOf σ p1 = some r) : CtI l D g yX0_rootOf cX0_rootOf 2 (some .int) 1 (wE g σ) (wE g σ) [.ref (g.2 1), .int (I p1)] r (in32 r) := by
  intro sz
  refine met_of (by decide) (Nat.le_of_ble_eq_true rfl) (fun p e s m args below meth c ls H locs C0 hml hr hlk hE hl => ?_)
  have C0 : CX p c cX0_rootOf m s args D g RX0 := C0
  have hl : lv_has ls 2 [(0, .ref (g.2 1)), (1, .int (I p1))] := hl
  unfold Pool_rootOf at h
  refine lv_iload_n C0.1 C0.2.1 dX0_rootOf_0 rfl (lv_at hl 1 rfl) ?_
  refine x_if_le C0 i_p1 dX0_rootOf_1 (tgt := 13) (by decide) (fun c9 => ?_) (fun c9 => ?_)
  · have h := ite_f c9 h
    refine lv_iconst (v := I 0) C0.1 C0.2.1 dX0_rootOf_13 rfl ?_
    exact pret_i C0 hr hlk hE h lit_0 dX0_rootOf_14
  · have h := ite_t c9 h
    refine lv_aload_n C0.1 C0.2.1 dX0_rootOf_4 rfl (lv_at hl 0 rfl) ?_
    refine Pool_g_at C0 hE fk_X0_27 dX0_rootOf_5 ?_
    refine lv_iconst (v := I 0) C0.1 C0.2.1 dX0_rootOf_8 rfl ?_
    obtain ⟨v1, e_v1, i_v1, h⟩ := rd_s hR h
    refine Pool_at_l C0 hE lit_0 e_v1 dX0_rootOf_9 ?_
    refine x_goto C0 dX0_rootOf_10 (tgt := 14) (by decide) ?_
    exact pret_i C0 hr hlk hE h i_v1 dX0_rootOf_14
set_option maxRecDepth 100000 in
set_option maxHeartbeats 4000000 in
theorem c_Ways_has (l : Launch) (D : va_G) (g : Ad) {σ : St} {p1 r : Int} (hR : R32 σ) (i_p1 : in32 p1) (h : Ways_has σ p1 = some r) : CtI l D g yX5_has cX5_has 2 (some .boolean) 1 (wE g σ) (wE g σ) [.ref (g.2 6), .int (I p1)] r (in32 r) := by
  intro sz
  refine met_of (by decide) (Nat.le_of_ble_eq_true rfl) (fun p e s m args below meth c ls H locs C0 hml hr hlk hE hl => ?_)
  have C0 : CX p c cX5_has m s args D g RX5 := C0
  have hl : lv_has ls 2 [(0, .ref (g.2 6)), (1, .int (I p1))] := hl
  unfold Ways_has at h
  refine lv_iload_n C0.1 C0.2.1 dX5_has_0 rfl (lv_at hl 1 rfl) ?_
  refine x_if_lt C0 i_p1 dX5_has_1 (tgt := 24) (by decide) (fun c9 => ?_) (fun c9 => ?_)
  · have h := ite_t c9 h
    refine lv_iconst (v := I 0) C0.1 C0.2.1 dX5_has_24 rfl ?_
    exact pret_z C0 hr hlk hE (Or.inl rfl) h dX5_has_25
  · have h := ite_f c9 h
    refine lv_iload_n C0.1 C0.2.1 dX5_has_4 rfl (lv_at hl 1 rfl) ?_
    refine lv_sipush (v := I 255) C0.1 C0.2.1 dX5_has_5 (by decide +kernel) ?_
    refine x_icmp_ge C0 i_p1 lit_255 dX5_has_8 (tgt := 24) (by decide) (fun c9 => ?_) (fun c9 => ?_)
    · have h := ite_f c9 h
      refine lv_iconst (v := I 0) C0.1 C0.2.1 dX5_has_24 rfl ?_
      exact pret_z C0 hr hlk hE (Or.inl rfl) h dX5_has_25
    · have h := ite_t c9 h
      refine lv_aload_n C0.1 C0.2.1 dX5_has_11 rfl (lv_at hl 0 rfl) ?_
      refine Ways_g_on C0 hE fk_X5_9 dX5_has_12 ?_
      refine lv_iload_n C0.1 C0.2.1 dX5_has_15 rfl (lv_at hl 1 rfl) ?_
      obtain ⟨v1, e_v1, i_v1, h⟩ := rd_s hR h
      refine Ways_on_l C0 hE i_p1 e_v1 dX5_has_16 ?_
      refine x_if_eq C0 i_v1 dX5_has_17 (tgt := 24) (by decide) (fun c9 => ?_) (fun c9 => ?_)
      · have h := ite_t c9 h
        refine lv_iconst (v := I 0) C0.1 C0.2.1 dX5_has_24 rfl ?_
        exact pret_z C0 hr hlk hE (Or.inl rfl) h dX5_has_25
      · have h := ite_f c9 h
        refine lv_iconst (v := I 1) C0.1 C0.2.1 dX5_has_20 rfl ?_
        refine x_goto C0 dX5_has_21 (tgt := 25) (by decide) ?_
        exact pret_z C0 hr hlk hE (Or.inr rfl) h dX5_has_25
set_option maxRecDepth 100000 in
set_option maxHeartbeats 4000000 in
theorem c_Pool_changed_one (l : Launch) (D : va_G) (g : Ad) {σ σr : St} {p1 p2 r : Int} (hR : R32 σ) (i_p1 : in32 p1) (i_p2 : in32 p2) (h : Pool_changed_one σ p1 p2 = some (r, σr)) : CtI l D g yX0_changed cX0_changed 6 (some .int) 4 (wE g σ) (wE g σr) [.ref (g.2 1), .int (I p1), .int (I p2), .ref (g.2 6), .ref (g.2 26)] r (in32 r ∧ R32 σr) := by
  intro sz
  refine met_of (by decide) (Nat.le_of_ble_eq_true rfl) (fun p e s m args below meth c ls H locs C0 hml hr hlk hE hl => ?_)
  have C0 : CX p c cX0_changed m s args D g RX0 := C0
  have hl : lv_has ls 6 [(0, .ref (g.2 1)), (1, .int (I p1)), (2, .int (I p2)), (3, .ref (g.2 6)), (4, .ref (g.2 26))] := hl
  unfold Pool_changed_one at h
  refine lv_aload_n C0.1 C0.2.1 dX0_changed_0 rfl (lv_at hl 0 rfl) ?_
  refine lv_iload_n C0.1 C0.2.1 dX0_changed_1 rfl (lv_at hl 1 rfl) ?_
  refine lv_iload_n C0.1 C0.2.1 dX0_changed_2 rfl (lv_at hl 2 rfl) ?_
  obtain ⟨v1, s2, h_v1, h⟩ := bnd_s h
  refine callV_v (rest := []) C0 hml hE (Pool_rec C0 hE) (c_Pool_spread l D g hR i_p1 i_p2 h_v1) kw_X0_49 ⟨Nat.le_of_ble_eq_true rfl, Nat.le_of_ble_eq_true rfl⟩ rfl hl.1 rfl (Nat.le_of_ble_eq_true rfl) dX0_changed_3 ⟨Nat.zero_le _, Nat.zero_le _⟩ (fun H locs hE hR => ?_)
  refine lv_iload_n C0.1 C0.2.1 dX0_changed_6 rfl (lv_at hl 2 rfl) ?_
  refine lv_iconst (v := I 1) C0.1 C0.2.1 dX0_changed_7 rfl ?_
  obtain ⟨v3, e_v3, i_v3, h⟩ := osub_s h
  refine x_sub C0 e_v3 dX0_changed_8 ?_
  refine lv_istore (lv' := [(5, .int (I v3)), (0, .ref (g.2 1)), (1, .int (I p1)), (2, .int (I p2)), (3, .ref (g.2 6)), (4, .ref (g.2 26))]) C0.1 C0.2.1 dX0_changed_9 hl (by decide) rfl (fun ls hl => ?_)
  obtain ⟨k5, e_k5, h⟩ := jn_s h
  have h_k5 : ∀ (s4 : St) (hR : R32 s4) (H : Heap) (locs : List Loc) (ls : Array Slot), EW D (va_A (wE g σ) sz) s.heap (wE g s4) H locs → lv_has ls 6 [(0, .ref (g.2 1)), (2, .int (I p2))] → k5 s4 = some (r, σr) → W p l e (rmk 4) s m args below meth c H locs 0 0 (MQ below (QCi D (wE g σr) r (in32 r ∧ R32 σr) (va_A (wE g σ) sz)) args s 0 0 (va_A (wE g σ) sz)) (F0 m 63 ls []) := by
    intro s4 hR H locs ls hE hl h
    have h := (congrFun e_k5 s4).symm.trans h
    refine lv_aload_n C0.1 C0.2.1 dX0_changed_63 rfl (lv_at hl 0 rfl) ?_
    refine lv_iload_n C0.1 C0.2.1 dX0_changed_64 rfl (lv_at hl 1 rfl) ?_
    obtain ⟨v6, h_v6, h⟩ := bndp_s h
    refine callV_i (rest := []) C0 hml hE (Pool_rec C0 hE) (c_Pool_rootOf l D g hR i_p2 h_v6) kw_X0_79 ⟨Nat.le_of_ble_eq_true rfl, Nat.le_of_ble_eq_true rfl⟩ rfl hl.1 rfl (Nat.le_of_ble_eq_true rfl) dX0_changed_65 ⟨Nat.zero_le _, Nat.zero_le _⟩ (fun H locs hE i_v6 => ?_)
    exact ret_i (wf := wE g) C0 hr hlk hE h i_v6 hR dX0_changed_68
  have hL11 : ∀ (n : Nat) (s9 : St) (hR : R32 s9) (x7 : Int) (i_x7 : in32 x7) (H : Heap) (locs : List Loc) (ls : Array Slot), EW D (va_A (wE g σ) sz) s.heap (wE g s9) H locs → lv_has ls 6 [(0, .ref (g.2 1)), (2, .int (I p2)), (3, .ref (g.2 6)), (4, .ref (g.2 26)), (5, .int (I x7))] → Pool_changed_one_L11 k5 p2 n s9 x7 = some (r, σr) → W p l e (rmk 4) s m args below meth c H locs 0 0 (MQ below (QCi D (wE g σr) r (in32 r ∧ R32 σr) (va_A (wE g σ) sz)) args s 0 0 (va_A (wE g σ) sz)) (F0 m 11 ls []) := by
    intro n
    induction n with
    | zero => intros; rename_i h; cases h
    | succ n ih8 =>
      intro s9 hR x7 i_x7 H locs ls hE hl h
      unfold Pool_changed_one_L11 at h
      refine lv_iload C0.1 C0.2.1 dX0_changed_11 (lv_at hl 4 rfl) ?_
      refine x_if_lt C0 i_x7 dX0_changed_13 (tgt := 63) (by decide) (fun c9 => ?_) (fun c9 => ?_)
      · have h := ite_t c9 h
        exact h_k5 s9 hR _ _ _ hE (lv_sub hl [0, 1] rfl) h
      · have h := ite_f c9 h
        refine lv_aload_n C0.1 C0.2.1 dX0_changed_16 rfl (lv_at hl 2 rfl) ?_
        refine lv_iload C0.1 C0.2.1 dX0_changed_17 (lv_at hl 4 rfl) ?_
        obtain ⟨v10, h_v10, h⟩ := bndp_s h
        refine callV_i (rest := []) C0 hml hE (Ways_rec C0 hE) (c_Ways_has l D g hR i_x7 h_v10) kw_X0_82 ⟨Nat.le_of_ble_eq_true rfl, Nat.le_of_ble_eq_true rfl⟩ rfl hl.1 rfl (Nat.le_of_ble_eq_true rfl) dX0_changed_19 ⟨Nat.zero_le _, Nat.zero_le _⟩ (fun H locs hE i_v10 => ?_)
        obtain ⟨k12, e_k12, h⟩ := jn_s h
        have h_k12 : ∀ (s11 : St) (hR : R32 s11) (H : Heap) (locs : List Loc) (ls : Array Slot), EW D (va_A (wE g σ) sz) s.heap (wE g s11) H locs → lv_has ls 6 [(0, .ref (g.2 1)), (2, .int (I p2)), (3, .ref (g.2 6)), (4, .ref (g.2 26)), (5, .int (I x7))] → k12 s11 = some (r, σr) → W p l e (rmk 4) s m args below meth c H locs 0 0 (MQ below (QCi D (wE g σr) r (in32 r ∧ R32 σr) (va_A (wE g σ) sz)) args s 0 0 (va_A (wE g σ) sz)) (F0 m 57 ls []) := by
          intro s11 hR H locs ls hE hl h
          have h := (congrFun e_k12 s11).symm.trans h
          obtain ⟨v13, e_v13, i_v13, h⟩ := oadd_s h
          refine x_iinc (lv' := [(5, .int (I v13)), (0, .ref (g.2 1)), (2, .int (I p2)), (3, .ref (g.2 6)), (4, .ref (g.2 26))]) C0 dX0_changed_57 hl (k := 4) rfl e_v13 (by decide) rfl (fun ls hl => ?_)
          refine x_goto C0 dX0_changed_60 (tgt := 11) (by decide) ?_
          exact ih8 s11 hR v13 i_v13 _ _ _ hE (lv_sub hl [1, 2, 3, 4, 0] rfl) h
        refine x_if_eq C0 i_v10 dX0_changed_22 (tgt := 57) (by decide) (fun c9 => ?_) (fun c9 => ?_)
        · have h := ite_t c9 h
          exact h_k12 s9 hR _ _ _ hE (lv_sub hl [0, 1, 2, 3, 4] rfl) h
        · have h := ite_f c9 h
          refine lv_aload_n C0.1 C0.2.1 dX0_changed_25 rfl (lv_at hl 0 rfl) ?_
          refine Pool_g_at C0 hE fk_X0_27 dX0_changed_26 ?_
          refine lv_iload C0.1 C0.2.1 dX0_changed_29 (lv_at hl 4 rfl) ?_
          refine lv_aload_n C0.1 C0.2.1 dX0_changed_31 rfl (lv_at hl 0 rfl) ?_
          refine lv_aload C0.1 C0.2.1 dX0_changed_32 (lv_at hl 3 rfl) ?_
          refine lv_iload C0.1 C0.2.1 dX0_changed_34 (lv_at hl 4 rfl) ?_
          obtain ⟨v14, e_v14, i_v14, h⟩ := rd_s hR h
          refine E_one_l C0 hE i_x7 e_v14 dX0_changed_36 ?_
          refine lv_aload_n C0.1 C0.2.1 dX0_changed_37 rfl (lv_at hl 0 rfl) ?_
          refine lv_iload C0.1 C0.2.1 dX0_changed_38 (lv_at hl 4 rfl) ?_
          refine lv_iconst (v := I 1) C0.1 C0.2.1 dX0_changed_40 rfl ?_
          refine lv_iload_n C0.1 C0.2.1 dX0_changed_41 rfl (lv_at hl 1 rfl) ?_
          obtain ⟨v15, h_v15, h⟩ := bndp_s h
          refine callV_i (rest := [.int (I v14), .ref (g.2 1), .int (I x7), .ref (g.2 12)]) C0 hml hE (Pool_rec C0 hE) (c_Pool_below l D g hR i_x7 lit_1 i_p2 h_v15) kw_X0_72 ⟨Nat.le_of_ble_eq_true rfl, Nat.le_of_ble_eq_true rfl⟩ rfl hl.1 rfl (Nat.le_of_ble_eq_true rfl) dX0_changed_42 ⟨Nat.zero_le _, Nat.zero_le _⟩ (fun H locs hE i_v15 => ?_)
          refine lv_aload_n C0.1 C0.2.1 dX0_changed_45 rfl (lv_at hl 0 rfl) ?_
          refine lv_iload C0.1 C0.2.1 dX0_changed_46 (lv_at hl 4 rfl) ?_
          refine lv_iconst (v := I 2) C0.1 C0.2.1 dX0_changed_48 rfl ?_
          refine lv_iload_n C0.1 C0.2.1 dX0_changed_49 rfl (lv_at hl 1 rfl) ?_
          obtain ⟨v16, h_v16, h⟩ := bndp_s h
          refine callV_i (rest := [.int (I v15), .int (I v14), .ref (g.2 1), .int (I x7), .ref (g.2 12)]) C0 hml hE (Pool_rec C0 hE) (c_Pool_below l D g hR i_x7 lit_2 i_p2 h_v16) kw_X0_72 ⟨Nat.le_of_ble_eq_true rfl, Nat.le_of_ble_eq_true rfl⟩ rfl hl.1 rfl (Nat.le_of_ble_eq_true rfl) dX0_changed_50 ⟨Nat.zero_le _, Nat.zero_le _⟩ (fun H locs hE i_v16 => ?_)
          obtain ⟨v17, s18, h_v17, h⟩ := bnd_s h
          refine callV_i (rest := [.int (I x7), .ref (g.2 12)]) C0 hml hE (Pool_rec C0 hE) (c_Pool_make l D g hR i_v14 i_v15 i_v16 h_v17) kw_X0_76 ⟨Nat.le_of_ble_eq_true rfl, Nat.le_of_ble_eq_true rfl⟩ rfl hl.1 rfl (Nat.le_of_ble_eq_true rfl) dX0_changed_53 ⟨Nat.zero_le _, Nat.zero_le _⟩ (fun H locs hE ⟨i_v17, hR⟩ => ?_)
          obtain ⟨s19, e_s19, hR, h⟩ := wr_s hR i_v17 h
          refine Pool_at_st C0 hE i_x7 e_s19 dX0_changed_56 (fun H locs hE => ?_)
          exact h_k12 s19 hR _ _ _ hE (lv_sub hl [0, 1, 2, 3, 4] rfl) h
  exact hL11 FU s2 hR v3 i_v3 _ _ _ hE (lv_sub hl [1, 3, 4, 5, 0] rfl) h
set_option maxRecDepth 100000 in
set_option maxHeartbeats 4000000 in
theorem c_E_renew (l : Launch) (D : va_G) (g : Ad) {σ σr : St} {p1 p2 r : Int} (hR : R32 σ) (i_p1 : in32 p1) (i_p2 : in32 p2) (h : E_renew σ p1 p2 = some (r, σr)) : CtI l D g yX7_renew cX7_renew 4 (some .int) 6 (wE g σ) (wE g σr) [.ref (g.2 0), .int (I p1), .int (I p2)] r (in32 r ∧ R32 σr) := by
  intro sz
  refine met_of (by decide) (Nat.le_of_ble_eq_true rfl) (fun p e s m args below meth c ls H locs C0 hml hr hlk hE hl => ?_)
  have C0 : CX p c cX7_renew m s args D g RX7 := C0
  have hl : lv_has ls 4 [(0, .ref (g.2 0)), (1, .int (I p1)), (2, .int (I p2))] := hl
  unfold E_renew at h
  refine lv_aload_n C0.1 C0.2.1 dX7_renew_0 rfl (lv_at hl 0 rfl) ?_
  obtain ⟨v1, s2, h_v1, h⟩ := bnd_s h
  refine callV_i (rest := []) C0 hml hE (E_rec C0 hE) (c_E_begin l D g hR h_v1) kw_X7_120 ⟨Nat.le_of_ble_eq_true rfl, Nat.le_of_ble_eq_true rfl⟩ rfl hl.1 rfl (Nat.le_of_ble_eq_true rfl) dX7_renew_1 ⟨Nat.zero_le _, Nat.zero_le _⟩ (fun H locs hE ⟨i_v1, hR⟩ => ?_)
  refine lv_istore_n (lv' := [(3, .int (I v1)), (0, .ref (g.2 0)), (1, .int (I p1)), (2, .int (I p2))]) C0.1 C0.2.1 dX7_renew_4 rfl hl (by decide) rfl (fun ls hl => ?_)
  refine lv_aload_n C0.1 C0.2.1 dX7_renew_5 rfl (lv_at hl 1 rfl) ?_
  refine lv_iload_n C0.1 C0.2.1 dX7_renew_6 rfl (lv_at hl 3 rfl) ?_
  refine lv_aload_n C0.1 C0.2.1 dX7_renew_7 rfl (lv_at hl 1 rfl) ?_
  refine E_g_pool C0 hE fk_X7_10 dX7_renew_8 ?_
  refine lv_aload_n C0.1 C0.2.1 dX7_renew_11 rfl (lv_at hl 1 rfl) ?_
  refine E_g_trees C0 hE fk_X7_49 dX7_renew_12 ?_
  refine lv_iload_n C0.1 C0.2.1 dX7_renew_15 rfl (lv_at hl 2 rfl) ?_
  obtain ⟨v3, e_v3, i_v3, h⟩ := rd_s hR h
  refine E_trees_l C0 hE i_p1 e_v3 dX7_renew_16 ?_
  refine lv_aload_n C0.1 C0.2.1 dX7_renew_17 rfl (lv_at hl 1 rfl) ?_
  refine E_g_sizes C0 hE fk_X7_53 dX7_renew_18 ?_
  refine lv_iload_n C0.1 C0.2.1 dX7_renew_21 rfl (lv_at hl 2 rfl) ?_
  obtain ⟨v4, e_v4, i_v4, h⟩ := rd_s hR h
  refine E_sizes_l C0 hE i_p1 e_v4 dX7_renew_22 ?_
  refine lv_aload_n C0.1 C0.2.1 dX7_renew_23 rfl (lv_at hl 1 rfl) ?_
  refine E_g_marked C0 hE fk_X7_45 dX7_renew_24 ?_
  refine lv_aload_n C0.1 C0.2.1 dX7_renew_27 rfl (lv_at hl 1 rfl) ?_
  refine E_g_one C0 hE fk_X7_56 dX7_renew_28 ?_
  obtain ⟨v5, s6, h_v5, h⟩ := bnd_s h
  refine callV_i (rest := [.int (I p2), .ref (g.2 0)]) C0 hml hE (Pool_rec C0 hE) (c_Pool_changed_one l D g hR i_v3 i_v4 h_v5) kw_X7_331 ⟨Nat.le_of_ble_eq_true rfl, Nat.le_of_ble_eq_true rfl⟩ rfl hl.1 rfl (Nat.le_of_ble_eq_true rfl) dX7_renew_31 ⟨Nat.zero_le _, Nat.zero_le _⟩ (fun H locs hE ⟨i_v5, hR⟩ => ?_)
  refine lv_aload_n C0.1 C0.2.1 dX7_renew_34 rfl (lv_at hl 1 rfl) ?_
  refine E_g_sizes C0 hE fk_X7_53 dX7_renew_35 ?_
  refine lv_iload_n C0.1 C0.2.1 dX7_renew_38 rfl (lv_at hl 2 rfl) ?_
  obtain ⟨v7, e_v7, i_v7, h⟩ := rd_s hR h
  refine E_sizes_l C0 hE i_p1 e_v7 dX7_renew_39 ?_
  obtain ⟨v8, s9, h_v8, h⟩ := bnd_s h
  refine callV_i (rest := []) C0 hml hE (E_rec C0 hE) (c_E_keep l D g hR i_p2 i_v5 i_v7 h_v8) kw_X7_126 ⟨Nat.le_of_ble_eq_true rfl, Nat.le_of_ble_eq_true rfl⟩ rfl hl.1 rfl (Nat.le_of_ble_eq_true rfl) dX7_renew_40 ⟨Nat.zero_le _, Nat.zero_le _⟩ (fun H locs hE ⟨i_v8, hR⟩ => ?_)
  refine lv_pop C0.1 C0.2.1 dX7_renew_43 rfl ?_
  refine lv_aload_n C0.1 C0.2.1 dX7_renew_44 rfl (lv_at hl 1 rfl) ?_
  refine E_g_pool C0 hE fk_X7_10 dX7_renew_45 ?_
  obtain ⟨v10, e_v10, i_v10, h⟩ := gf_s hR h
  refine Pool_n_made C0 hE e_v10 nk_X7_130 dX7_renew_48 ?_
  refine lv_iload_n C0.1 C0.2.1 dX7_renew_51 rfl (lv_at hl 0 rfl) ?_
  obtain ⟨v11, e_v11, i_v11, h⟩ := osub_s h
  refine x_sub C0 e_v11 dX7_renew_52 ?_
  exact ret_i (wf := wE g) C0 hr hlk hE h i_v11 hR dX7_renew_53
set_option maxRecDepth 100000 in
set_option maxHeartbeats 4000000 in
theorem c_E_sets (l : Launch) (D : va_G) (g : Ad) {σ σr : St} {p1 p2 p3 p4 r : Int} (hR : R32 σ) (i_p1 : in32 p1) (i_p2 : in32 p2) (i_p3 : in32 p3) (i_p4 : in32 p4) (h : E_sets σ p1 p2 p3 p4 = some (r, σr)) : CtI l D g yX7_sets cX7_sets 5 (some .int) 7 (wE g σ) (wE g σr) [.ref (g.2 0), .int (I p1), .int (I p2), .int (I p3), .int (I p4)] r (in32 r ∧ R32 σr) := by
  intro sz
  refine met_of (by decide) (Nat.le_of_ble_eq_true rfl) (fun p e s m args below meth c ls H locs C0 hml hr hlk hE hl => ?_)
  have C0 : CX p c cX7_sets m s args D g RX7 := C0
  have hl : lv_has ls 5 [(0, .ref (g.2 0)), (1, .int (I p1)), (2, .int (I p2)), (3, .int (I p3)), (4, .int (I p4))] := hl
  unfold E_sets at h
  refine lv_aload_n C0.1 C0.2.1 dX7_sets_0 rfl (lv_at hl 0 rfl) ?_
  refine lv_iload_n C0.1 C0.2.1 dX7_sets_1 rfl (lv_at hl 1 rfl) ?_
  refine lv_iload_n C0.1 C0.2.1 dX7_sets_2 rfl (lv_at hl 2 rfl) ?_
  obtain ⟨v1, h_v1, h⟩ := bndp_s h
  refine callV_i (rest := []) C0 hml hE (E_rec C0 hE) (c_E_isIndex l D g hR i_p1 i_p2 h_v1) kw_X7_165 ⟨Nat.le_of_ble_eq_true rfl, Nat.le_of_ble_eq_true rfl⟩ rfl hl.1 rfl (Nat.le_of_ble_eq_true rfl) dX7_sets_3 ⟨Nat.zero_le _, Nat.zero_le _⟩ (fun H locs hE i_v1 => ?_)
  refine x_if_eq C0 i_v1 dX7_sets_6 (tgt := 24) (by decide) (fun c9 => ?_) (fun c9 => ?_)
  · have h := ite_t c9 h
    refine lv_iconst (v := I (-1)) C0.1 C0.2.1 dX7_sets_24 rfl ?_
    exact ret_i (wf := wE g) C0 hr hlk hE h lit_m1 hR dX7_sets_25
  · have h := ite_f c9 h
    refine lv_iload_n C0.1 C0.2.1 dX7_sets_9 rfl (lv_at hl 3 rfl) ?_
    obtain ⟨v2, h_v2, h⟩ := bndp_s h
    refine callS_i (rest := []) C0 hml hE (c_E_isNumber l D g (σ := σ) i_p3 h_v2) kw_X7_117 ⟨Nat.le_of_ble_eq_true rfl, Nat.le_of_ble_eq_true rfl⟩ rfl hl.1 rfl (Nat.le_of_ble_eq_true rfl) dX7_sets_10 ⟨Nat.zero_le _, Nat.zero_le _⟩ (fun H locs hE i_v2 => ?_)
    refine x_if_eq C0 i_v2 dX7_sets_13 (tgt := 24) (by decide) (fun c9 => ?_) (fun c9 => ?_)
    · have h := ite_t c9 h
      refine lv_iconst (v := I (-1)) C0.1 C0.2.1 dX7_sets_24 rfl ?_
      exact ret_i (wf := wE g) C0 hr hlk hE h lit_m1 hR dX7_sets_25
    · have h := ite_f c9 h
      refine lv_iload C0.1 C0.2.1 dX7_sets_16 (lv_at hl 4 rfl) ?_
      obtain ⟨v3, h_v3, h⟩ := bndp_s h
      refine callS_i (rest := []) C0 hml hE (c_E_isPlace l D g (σ := σ) i_p4 h_v3) kw_X7_86 ⟨Nat.le_of_ble_eq_true rfl, Nat.le_of_ble_eq_true rfl⟩ rfl hl.1 rfl (Nat.le_of_ble_eq_true rfl) dX7_sets_18 ⟨Nat.zero_le _, Nat.zero_le _⟩ (fun H locs hE i_v3 => ?_)
      refine x_if_ne C0 i_v3 dX7_sets_21 (tgt := 26) (by decide) (fun c9 => ?_) (fun c9 => ?_)
      · have h := ite_f c9 h
        refine lv_aload_n C0.1 C0.2.1 dX7_sets_26 rfl (lv_at hl 0 rfl) ?_
        refine lv_iload_n C0.1 C0.2.1 dX7_sets_27 rfl (lv_at hl 1 rfl) ?_
        refine lv_iload_n C0.1 C0.2.1 dX7_sets_28 rfl (lv_at hl 1 rfl) ?_
        obtain ⟨v4, s5, h_v4, h⟩ := bnd_s h
        refine callV_v (rest := []) C0 hml hE (E_rec C0 hE) (c_E_readBoth l D g hR i_p1 i_p1 h_v4) kw_X7_177 ⟨Nat.le_of_ble_eq_true rfl, Nat.le_of_ble_eq_true rfl⟩ rfl hl.1 rfl (Nat.le_of_ble_eq_true rfl) dX7_sets_29 ⟨Nat.zero_le _, Nat.zero_le _⟩ (fun H locs hE hR => ?_)
        refine lv_aload_n C0.1 C0.2.1 dX7_sets_32 rfl (lv_at hl 0 rfl) ?_
        refine E_g_one C0 hE fk_X7_56 dX7_sets_33 ?_
        refine lv_iload_n C0.1 C0.2.1 dX7_sets_36 rfl (lv_at hl 2 rfl) ?_
        refine lv_iload_n C0.1 C0.2.1 dX7_sets_37 rfl (lv_at hl 3 rfl) ?_
        obtain ⟨s6, e_s6, hR, h⟩ := wr_s hR i_p3 h
        refine E_one_st C0 hE i_p2 e_s6 dX7_sets_38 (fun H locs hE => ?_)
        refine lv_aload_n C0.1 C0.2.1 dX7_sets_39 rfl (lv_at hl 0 rfl) ?_
        refine lv_aload_n C0.1 C0.2.1 dX7_sets_40 rfl (lv_at hl 0 rfl) ?_
        refine E_g_sizes C0 hE fk_X7_53 dX7_sets_41 ?_
        refine lv_iload_n C0.1 C0.2.1 dX7_sets_44 rfl (lv_at hl 1 rfl) ?_
        obtain ⟨v7, e_v7, i_v7, h⟩ := rd_s hR h
        refine E_sizes_l C0 hE i_p1 e_v7 dX7_sets_45 ?_
        obtain ⟨v8, s9, h_v8, h⟩ := bnd_s h
        refine callV_i (rest := []) C0 hml hE (E_rec C0 hE) (c_E_markUnlike l D g hR i_v7 h_v8) kw_X7_181 ⟨Nat.le_of_ble_eq_true rfl, Nat.le_of_ble_eq_true rfl⟩ rfl hl.1 rfl (Nat.le_of_ble_eq_true rfl) dX7_sets_46 ⟨Nat.zero_le _, Nat.zero_le _⟩ (fun H locs hE ⟨i_v8, hR⟩ => ?_)
        refine lv_pop C0.1 C0.2.1 dX7_sets_49 rfl ?_
        refine lv_aload_n C0.1 C0.2.1 dX7_sets_50 rfl (lv_at hl 0 rfl) ?_
        refine lv_iload_n C0.1 C0.2.1 dX7_sets_51 rfl (lv_at hl 1 rfl) ?_
        refine lv_iload C0.1 C0.2.1 dX7_sets_52 (lv_at hl 4 rfl) ?_
        obtain ⟨v10, s11, h_v10, h⟩ := bnd_s h
        refine callV_i (rest := []) C0 hml hE (E_rec C0 hE) (c_E_renew l D g hR i_p1 i_p4 h_v10) kw_X7_184 ⟨Nat.le_of_ble_eq_true rfl, Nat.le_of_ble_eq_true rfl⟩ rfl hl.1 rfl (Nat.le_of_ble_eq_true rfl) dX7_sets_54 ⟨Nat.zero_le _, Nat.zero_le _⟩ (fun H locs hE ⟨i_v10, hR⟩ => ?_)
        exact ret_i (wf := wE g) C0 hr hlk hE h i_v10 hR dX7_sets_57
      · have h := ite_t c9 h
        refine lv_iconst (v := I (-1)) C0.1 C0.2.1 dX7_sets_24 rfl ?_
        exact ret_i (wf := wE g) C0 hr hlk hE h lit_m1 hR dX7_sets_25
set_option maxRecDepth 100000 in
set_option maxHeartbeats 4000000 in
theorem c_Pool_backed (l : Launch) (D : va_G) (g : Ad) : ∀ (d : Nat) {σ σr : St} {p2 p3 p4 r : Int} (hR : R32 σ) (i_p2 : in32 p2) (i_p3 : in32 p3) (i_p4 : in32 p4) (h : Pool_backed d σ p2 p3 p4 = some (r, σr)), CtI l D g yX0_backed cX0_backed 6 (some .int) (3 + d) (wE g σ) (wE g σr) [.ref (g.2 1), .int (I p2), .int (I p3), .int (I p4)] r (in32 r ∧ R32 σr) := by
  intro d
  induction d with
  | zero => intros; rename_i h; cases h
  | succ d ih =>
    intro σ σr p2 p3 p4 r hR i_p2 i_p3 i_p4 h sz
    refine met_of (by decide) (Nat.le_of_ble_eq_true rfl) (fun p e s m args below meth c ls H locs C0 hml hr hlk hE hl => ?_)
    have C0 : CX p c cX0_backed m s args D g RX0 := C0
    have hl : lv_has ls 6 [(0, .ref (g.2 1)), (1, .int (I p2)), (2, .int (I p3)), (3, .int (I p4))] := hl
    unfold Pool_backed at h
    refine lv_iload_n C0.1 C0.2.1 dX0_backed_0 rfl (lv_at hl 3 rfl) ?_
    refine x_if_gt C0 i_p4 dX0_backed_1 (tgt := 12) (by decide) (fun c9 => ?_) (fun c9 => ?_)
    · have h := ite_t c9 h
      refine lv_aload_n C0.1 C0.2.1 dX0_backed_12 rfl (lv_at hl 0 rfl) ?_
      refine lv_iload_n C0.1 C0.2.1 dX0_backed_13 rfl (lv_at hl 2 rfl) ?_
      obtain ⟨v1, h_v1, h⟩ := bndp_s h
      refine callV_i (rest := []) C0 hml hE (Pool_rec C0 hE) (c_Pool_leftOf l D g hR i_p3 h_v1) kw_X0_57 (by simp only [rmk, RD]; omega) rfl hl.1 rfl (Nat.le_of_ble_eq_true rfl) dX0_backed_14 ⟨Nat.zero_le _, Nat.zero_le _⟩ (fun H locs hE i_v1 => ?_)
      refine lv_istore (lv' := [(4, .int (I v1)), (0, .ref (g.2 1)), (1, .int (I p2)), (2, .int (I p3)), (3, .int (I p4))]) C0.1 C0.2.1 dX0_backed_17 hl (by decide) rfl (fun ls hl => ?_)
      refine lv_aload_n C0.1 C0.2.1 dX0_backed_19 rfl (lv_at hl 1 rfl) ?_
      refine lv_iload_n C0.1 C0.2.1 dX0_backed_20 rfl (lv_at hl 3 rfl) ?_
      obtain ⟨v2, h_v2, h⟩ := bndp_s h
      refine callV_i (rest := []) C0 hml hE (Pool_rec C0 hE) (c_Pool_rightOf l D g hR i_p3 h_v2) kw_X0_61 (by simp only [rmk, RD]; omega) rfl hl.1 rfl (Nat.le_of_ble_eq_true rfl) dX0_backed_21 ⟨Nat.zero_le _, Nat.zero_le _⟩ (fun H locs hE i_v2 => ?_)
      refine lv_istore (lv' := [(5, .int (I v2)), (4, .int (I v1)), (0, .ref (g.2 1)), (1, .int (I p2)), (2, .int (I p3)), (3, .int (I p4))]) C0.1 C0.2.1 dX0_backed_24 hl (by decide) rfl (fun ls hl => ?_)
      refine lv_iload_n C0.1 C0.2.1 dX0_backed_26 rfl (lv_at hl 5 rfl) ?_
      refine lv_iconst (v := I 2) C0.1 C0.2.1 dX0_backed_27 rfl ?_
      obtain ⟨v3, e_v3, i_v3, h⟩ := orem_s lit_2 h
      refine x_rem C0 i_p4 lit_2 e_v3 dX0_backed_28 ?_
      refine lv_iconst (v := I 1) C0.1 C0.2.1 dX0_backed_29 rfl ?_
      obtain ⟨k7, e_k7, h⟩ := jn_s h
      have h_k7 : ∀ (s4 : St) (hR : R32 s4) (x5 : Int) (i_x5 : in32 x5) (x6 : Int) (i_x6 : in32 x6) (H : Heap) (locs : List Loc) (ls : Array Slot), EW D (va_A (wE g σ) sz) s.heap (wE g s4) H locs → lv_has ls 6 [(0, .ref (g.2 1)), (2, .int (I p3)), (4, .int (I x5)), (5, .int (I x6))] → k7 s4 x5 x6 = some (r, σr) → W p l e (rmk (3 + (d + 1))) s m args below meth c H locs 0 0 (MQ below (QCi D (wE g σr) r (in32 r ∧ R32 σr) (va_A (wE g σ) sz)) args s 0 0 (va_A (wE g σ) sz)) (F0 m 62 ls []) := by
        intro s4 hR x5 i_x5 x6 i_x6 H locs ls hE hl h
        have h := (congrFun (congrFun (congrFun e_k7 s4) x5) x6).symm.trans h
        refine lv_aload_n C0.1 C0.2.1 dX0_backed_62 rfl (lv_at hl 0 rfl) ?_
        refine lv_aload_n C0.1 C0.2.1 dX0_backed_63 rfl (lv_at hl 0 rfl) ?_
        refine lv_iload_n C0.1 C0.2.1 dX0_backed_64 rfl (lv_at hl 1 rfl) ?_
        obtain ⟨v8, h_v8, h⟩ := bndp_s h
        refine callV_i (rest := [.ref (g.2 1)]) C0 hml hE (Pool_rec C0 hE) (c_Pool_numberOf l D g hR i_p3 h_v8) kw_X0_64 (by simp only [rmk, RD]; omega) rfl hl.1 rfl (Nat.le_of_ble_eq_true rfl) dX0_backed_65 ⟨Nat.zero_le _, Nat.zero_le _⟩ (fun H locs hE i_v8 => ?_)
        refine lv_iload C0.1 C0.2.1 dX0_backed_68 (lv_at hl 2 rfl) ?_
        refine lv_iload C0.1 C0.2.1 dX0_backed_70 (lv_at hl 3 rfl) ?_
        obtain ⟨v9, s10, h_v9, h⟩ := bnd_s h
        refine callV_i (rest := []) C0 hml hE (Pool_rec C0 hE) (c_Pool_make l D g hR i_v8 i_x5 i_x6 h_v9) kw_X0_76 (by simp only [rmk, RD]; omega) rfl hl.1 rfl (Nat.le_of_ble_eq_true rfl) dX0_backed_72 ⟨Nat.zero_le _, Nat.zero_le _⟩ (fun H locs hE ⟨i_v9, hR⟩ => ?_)
        exact ret_i (wf := wE g) C0 hr hlk hE h i_v9 hR dX0_backed_75
      refine x_icmp_ne C0 i_v3 lit_1 dX0_backed_30 (tgt := 49) (by decide) (fun c9 => ?_) (fun c9 => ?_)
      · have h := ite_f c9 h
        refine lv_aload_n C0.1 C0.2.1 dX0_backed_49 rfl (lv_at hl 2 rfl) ?_
        refine lv_iload_n C0.1 C0.2.1 dX0_backed_50 rfl (lv_at hl 3 rfl) ?_
        refine lv_iload C0.1 C0.2.1 dX0_backed_51 (lv_at hl 0 rfl) ?_
        refine lv_iload_n C0.1 C0.2.1 dX0_backed_53 rfl (lv_at hl 5 rfl) ?_
        obtain ⟨v11, h_v11, h⟩ := bndp_s h
        refine callS_i (rest := [.int (I v2), .int (I p2), .ref (g.2 1)]) C0 hml hE (c_Shape_rightSize l D g (σ := σ) i_p4 h_v11) kw_X0_136 (by simp only [rmk, RD]; omega) rfl hl.1 rfl (Nat.le_of_ble_eq_true rfl) dX0_backed_54 ⟨Nat.zero_le _, Nat.zero_le _⟩ (fun H locs hE i_v11 => ?_)
        obtain ⟨v12, s13, h_v12, h⟩ := bnd_s h
        refine callS_i (rest := []) C0 hml hE (ih hR i_p2 i_v2 i_v11 h_v12) kw_X0_103 (by simp only [rmk, RD]; omega) rfl hl.1 rfl (Nat.le_of_ble_eq_true rfl) dX0_backed_57 ⟨Nat.zero_le _, Nat.zero_le _⟩ (fun H locs hE ⟨i_v12, hR⟩ => ?_)
        refine lv_istore (lv' := [(5, .int (I v12)), (4, .int (I v1)), (0, .ref (g.2 1)), (1, .int (I p2)), (2, .int (I p3)), (3, .int (I p4))]) C0.1 C0.2.1 dX0_backed_60 hl (by decide) rfl (fun ls hl => ?_)
        exact h_k7 s13 hR v1 i_v1 v12 i_v12 _ _ _ hE (lv_sub hl [2, 4, 1, 0] rfl) h
      · have h := ite_t c9 h
        refine lv_aload_n C0.1 C0.2.1 dX0_backed_33 rfl (lv_at hl 2 rfl) ?_
        refine lv_iload_n C0.1 C0.2.1 dX0_backed_34 rfl (lv_at hl 3 rfl) ?_
        refine lv_iload C0.1 C0.2.1 dX0_backed_35 (lv_at hl 1 rfl) ?_
        refine lv_iload_n C0.1 C0.2.1 dX0_backed_37 rfl (lv_at hl 5 rfl) ?_
        obtain ⟨v14, h_v14, h⟩ := bndp_s h
        refine callS_i (rest := [.int (I v1), .int (I p2), .ref (g.2 1)]) C0 hml hE (c_Shape_leftSize l D g (σ := σ) i_p4 h_v14) kw_X0_126 (by simp only [rmk, RD]; omega) rfl hl.1 rfl (Nat.le_of_ble_eq_true rfl) dX0_backed_38 ⟨Nat.zero_le _, Nat.zero_le _⟩ (fun H locs hE i_v14 => ?_)
        obtain ⟨v15, s16, h_v15, h⟩ := bnd_s h
        refine callS_i (rest := []) C0 hml hE (ih hR i_p2 i_v1 i_v14 h_v15) kw_X0_103 (by simp only [rmk, RD]; omega) rfl hl.1 rfl (Nat.le_of_ble_eq_true rfl) dX0_backed_41 ⟨Nat.zero_le _, Nat.zero_le _⟩ (fun H locs hE ⟨i_v15, hR⟩ => ?_)
        refine lv_istore (lv' := [(4, .int (I v15)), (5, .int (I v2)), (0, .ref (g.2 1)), (1, .int (I p2)), (2, .int (I p3)), (3, .int (I p4))]) C0.1 C0.2.1 dX0_backed_44 hl (by decide) rfl (fun ls hl => ?_)
        refine x_goto C0 dX0_backed_46 (tgt := 62) (by decide) ?_
        exact h_k7 s16 hR v15 i_v15 v2 i_v2 _ _ _ hE (lv_sub hl [2, 4, 0, 1] rfl) h
    · have h := ite_f c9 h
      refine lv_aload_n C0.1 C0.2.1 dX0_backed_4 rfl (lv_at hl 0 rfl) ?_
      refine lv_iload_n C0.1 C0.2.1 dX0_backed_5 rfl (lv_at hl 1 rfl) ?_
      refine lv_iconst (v := I 0) C0.1 C0.2.1 dX0_backed_6 rfl ?_
      refine lv_iconst (v := I 0) C0.1 C0.2.1 dX0_backed_7 rfl ?_
      obtain ⟨v17, s18, h_v17, h⟩ := bnd_s h
      refine callV_i (rest := []) C0 hml hE (Pool_rec C0 hE) (c_Pool_make l D g hR i_p2 lit_0 lit_0 h_v17) kw_X0_76 (by simp only [rmk, RD]; omega) rfl hl.1 rfl (Nat.le_of_ble_eq_true rfl) dX0_backed_8 ⟨Nat.zero_le _, Nat.zero_le _⟩ (fun H locs hE ⟨i_v17, hR⟩ => ?_)
      exact ret_i (wf := wE g) C0 hr hlk hE h i_v17 hR dX0_backed_11

-- THE WALKS, written by program
set_option maxRecDepth 100000 in
set_option maxHeartbeats 4000000 in
theorem c_M_thrown (l : Launch) (D : va_G) (g : Ad) {σ : St} {r : Int} (hR : R32 σ) (h : M_thrown σ = some r) : CtI l D g yX8_thrown cX8_thrown 1 (some .int) 1 (wM g σ) (wM g σ) [.ref (g.2 100)] r (in32 r) := by
  intro sz
  refine met_of (by decide) (Nat.le_of_ble_eq_true rfl) (fun p e s m args below meth c ls H locs C0 hml hr hlk hE hl => ?_)
  have C0 : CX p c cX8_thrown m s args D g RX8 := C0
  have hl : lv_has ls 1 [(0, .ref (g.2 100))] := hl
  unfold M_thrown at h
  refine lv_aload_n C0.1 C0.2.1 dX8_thrown_0 rfl (lv_at hl 0 rfl) ?_
  obtain ⟨v1, e_v1, i_v1, h⟩ := gf_s hR h
  refine M_g_thrown C0 hE e_v1 fk_X8_55 dX8_thrown_1 ?_
  exact pret_i C0 hr hlk hE h i_v1 dX8_thrown_4
set_option maxRecDepth 100000 in
set_option maxHeartbeats 4000000 in
theorem c_M_sign (l : Launch) (D : va_G) (g : Ad) {σ σr : St} {p1 r : Int} (hR : R32 σ) (i_p1 : in32 p1) (h : M_sign σ p1 = some (r, σr)) : CtI l D g yX8_sign cX8_sign 3 (some .int) 1 (wM g σ) (wM g σr) [.ref (g.2 100), .int (I p1)] r (in32 r ∧ R32 σr) := by
  intro sz
  refine met_of (by decide) (Nat.le_of_ble_eq_true rfl) (fun p e s m args below meth c ls H locs C0 hml hr hlk hE hl => ?_)
  have C0 : CX p c cX8_sign m s args D g RX8 := C0
  have hl : lv_has ls 3 [(0, .ref (g.2 100)), (1, .int (I p1))] := hl
  unfold M_sign at h
  refine lv_aload_n C0.1 C0.2.1 dX8_sign_0 rfl (lv_at hl 0 rfl) ?_
  refine lv_iconst (v := I 0) C0.1 C0.2.1 dX8_sign_1 rfl ?_
  obtain ⟨s1, e_s1, hR, h⟩ := pf_s hR lit_0 h
  refine M_p_thrown C0 hE e_s1 fk_X8_55 dX8_sign_2 (fun H locs hE => ?_)
  refine lv_aload_n C0.1 C0.2.1 dX8_sign_5 rfl (lv_at hl 0 rfl) ?_
  obtain ⟨v2, e_v2, i_v2, h⟩ := gf_s hR h
  refine M_g_typed C0 hE e_v2 fk_X8_62 dX8_sign_6 ?_
  refine lv_iconst (v := I 4) C0.1 C0.2.1 dX8_sign_9 rfl ?_
  obtain ⟨v3, e_v3, i_v3, h⟩ := oadd_s h
  refine x_add C0 e_v3 dX8_sign_10 ?_
  refine lv_sipush (v := I 200) C0.1 C0.2.1 dX8_sign_11 (by decide +kernel) ?_
  refine x_icmp_le C0 i_v3 lit_200 dX8_sign_14 (tgt := 19) (by decide) (fun c9 => ?_) (fun c9 => ?_)
  · have h := ite_f c9 h
    refine lv_iconst (v := I 3) C0.1 C0.2.1 dX8_sign_19 rfl ?_
    refine lv_istore_n (lv' := [(2, .int (I 3)), (0, .ref (g.2 100)), (1, .int (I p1))]) C0.1 C0.2.1 dX8_sign_20 rfl hl (by decide) rfl (fun ls hl => ?_)
    obtain ⟨k5, e_k5, h⟩ := jn_s h
    have h_k5 : ∀ (s4 : St) (hR : R32 s4) (H : Heap) (locs : List Loc) (ls : Array Slot), EW D (va_A (wM g σ) sz) s.heap (wM g s4) H locs → lv_has ls 3 [(0, .ref (g.2 100))] → k5 s4 = some (r, σr) → W p l e (rmk 1) s m args below meth c H locs 0 0 (MQ below (QCi D (wM g σr) r (in32 r ∧ R32 σr) (va_A (wM g σ) sz)) args s 0 0 (va_A (wM g σ) sz)) (F0 m 54 ls []) := by
      intro s4 hR H locs ls hE hl h
      have h := (congrFun e_k5 s4).symm.trans h
      refine lv_aload_n C0.1 C0.2.1 dX8_sign_54 rfl (lv_at hl 0 rfl) ?_
      obtain ⟨v6, e_v6, i_v6, h⟩ := gf_s hR h
      refine M_g_typed C0 hE e_v6 fk_X8_62 dX8_sign_55 ?_
      exact ret_i (wf := wM g) C0 hr hlk hE h i_v6 hR dX8_sign_58
    have hL21 : ∀ (n : Nat) (s8 : St) (hR : R32 s8) (x7 : Int) (i_x7 : in32 x7) (H : Heap) (locs : List Loc) (ls : Array Slot), EW D (va_A (wM g σ) sz) s.heap (wM g s8) H locs → lv_has ls 3 [(0, .ref (g.2 100)), (1, .int (I p1)), (2, .int (I x7))] → M_sign_L21 k5 p1 n s8 x7 = some (r, σr) → W p l e (rmk 1) s m args below meth c H locs 0 0 (MQ below (QCi D (wM g σr) r (in32 r ∧ R32 σr) (va_A (wM g σ) sz)) args s 0 0 (va_A (wM g σ) sz)) (F0 m 21 ls []) := by
      intro n
      induction n with
      | zero => intros; rename_i h; cases h
      | succ n ih9 =>
        intro s8 hR x7 i_x7 H locs ls hE hl h
        unfold M_sign_L21 at h
        refine lv_iload_n C0.1 C0.2.1 dX8_sign_21 rfl (lv_at hl 2 rfl) ?_
        refine x_if_lt C0 i_x7 dX8_sign_22 (tgt := 54) (by decide) (fun c9 => ?_) (fun c9 => ?_)
        · have h := ite_t c9 h
          exact h_k5 s8 hR _ _ _ hE (lv_sub hl [0] rfl) h
        · have h := ite_f c9 h
          refine lv_aload_n C0.1 C0.2.1 dX8_sign_25 rfl (lv_at hl 0 rfl) ?_
          refine M_g_text C0 hE fk_X8_19 dX8_sign_26 ?_
          refine lv_aload_n C0.1 C0.2.1 dX8_sign_29 rfl (lv_at hl 0 rfl) ?_
          refine lv_dup C0.1 C0.2.1 dX8_sign_30 rfl ?_
          obtain ⟨v10, e_v10, i_v10, h⟩ := gf_s hR h
          refine M_g_typed C0 hE e_v10 fk_X8_62 dX8_sign_31 ?_
          refine lv_dup_x1 C0.1 C0.2.1 dX8_sign_34 rfl rfl ?_
          refine lv_iconst (v := I 1) C0.1 C0.2.1 dX8_sign_35 rfl ?_
          obtain ⟨v11, e_v11, i_v11, h⟩ := oadd_s h
          refine x_add C0 e_v11 dX8_sign_36 ?_
          obtain ⟨s12, e_s12, hR, h⟩ := pf_s hR i_v11 h
          refine M_p_typed C0 hE e_s12 fk_X8_62 dX8_sign_37 (fun H locs hE => ?_)
          refine lv_iload_n C0.1 C0.2.1 dX8_sign_40 rfl (lv_at hl 1 rfl) ?_
          refine lv_bipush (v := I 8) C0.1 C0.2.1 dX8_sign_41 (by decide +kernel) ?_
          refine lv_iload_n C0.1 C0.2.1 dX8_sign_43 rfl (lv_at hl 2 rfl) ?_
          obtain ⟨v13, e_v13, i_v13, h⟩ := omul_s h
          refine x_mul C0 e_v13 dX8_sign_44 ?_
          obtain ⟨v14, e_v14, i_v14, h⟩ := opure_s h (bshr_in _ _)
          refine x_shr C0 e_v14 dX8_sign_45 ?_
          obtain ⟨v15, e_v15, i_v15, h⟩ := opure_s h (bi2b_in _)
          refine x_i2b C0 e_v15 dX8_sign_46 ?_
          obtain ⟨s16, e_s16, hR, h⟩ := wrB_s hR h
          refine M_text_st C0 hE i_v10 e_s16 dX8_sign_47 (fun H locs hE => ?_)
          obtain ⟨v17, e_v17, i_v17, h⟩ := oadd_s h
          refine x_iinc (lv' := [(2, .int (I v17)), (0, .ref (g.2 100)), (1, .int (I p1))]) C0 dX8_sign_48 hl (k := 2) rfl e_v17 (by decide) rfl (fun ls hl => ?_)
          refine x_goto C0 dX8_sign_51 (tgt := 21) (by decide) ?_
          exact ih9 s16 hR v17 i_v17 _ _ _ hE (lv_sub hl [1, 2, 0] rfl) h
    exact hL21 FU s1 hR 3 lit_3 _ _ _ hE (lv_sub hl [1, 2, 0] rfl) h
  · have h := ite_t c9 h
    refine lv_iconst (v := I (-1)) C0.1 C0.2.1 dX8_sign_17 rfl ?_
    exact ret_i (wf := wM g) C0 hr hlk hE h lit_m1 hR dX8_sign_18
set_option maxRecDepth 100000 in
set_option maxHeartbeats 4000000 in
theorem c_M_in (l : Launch) (D : va_G) (g : Ad) {σ : St} {p1 p2 p3 r : Int} (i_p1 : in64 p1) (i_p2 : in64 p2) (i_p3 : in64 p3) (h : M_in p1 p2 p3 = some r) : CtI l D g yX8_in cX8_in 6 (some .boolean) 1 (wM g σ) (wM g σ) [.long (J p1), .long (J p2), .long (J p3)] r (in32 r) := by
  intro sz
  refine met_of (by decide) (Nat.le_of_ble_eq_true rfl) (fun p e s m args below meth c ls H locs C0 hml hr hlk hE hl => ?_)
  have C0 : CX p c cX8_in m s args D g RX8 := C0
  have hl : lv_has ls 6 [(0, .long (J p1)), (2, .long (J p2)), (4, .long (J p3))] := hl
  unfold M_in at h
  refine lv_lload_n C0.1 C0.2.1 dX8_in_0 rfl (lv_at hl 0 rfl) ?_
  refine lv_lload_n C0.1 C0.2.1 dX8_in_1 rfl (lv_at hl 1 rfl) ?_
  obtain ⟨v1, e_v1, i_v1, h⟩ := opure_s h (lcmpv_in _ _)
  refine x_lcmp C0 i_p1 i_p2 e_v1 dX8_in_2 ?_
  refine x_if_lt C0 i_v1 dX8_in_3 (tgt := 17) (by decide) (fun c9 => ?_) (fun c9 => ?_)
  · have h := ite_t c9 h
    refine lv_iconst (v := I 0) C0.1 C0.2.1 dX8_in_17 rfl ?_
    exact pret_z C0 hr hlk hE (Or.inl rfl) h dX8_in_18
  · have h := ite_f c9 h
    refine lv_lload_n C0.1 C0.2.1 dX8_in_6 rfl (lv_at hl 0 rfl) ?_
    refine lv_lload C0.1 C0.2.1 dX8_in_7 (lv_at hl 2 rfl) ?_
    obtain ⟨v2, e_v2, i_v2, h⟩ := opure_s h (lcmpv_in _ _)
    refine x_lcmp C0 i_p1 i_p3 e_v2 dX8_in_9 ?_
    refine x_if_gt C0 i_v2 dX8_in_10 (tgt := 17) (by decide) (fun c9 => ?_) (fun c9 => ?_)
    · have h := ite_t c9 h
      refine lv_iconst (v := I 0) C0.1 C0.2.1 dX8_in_17 rfl ?_
      exact pret_z C0 hr hlk hE (Or.inl rfl) h dX8_in_18
    · have h := ite_f c9 h
      refine lv_iconst (v := I 1) C0.1 C0.2.1 dX8_in_13 rfl ?_
      refine x_goto C0 dX8_in_14 (tgt := 18) (by decide) ?_
      exact pret_z C0 hr hlk hE (Or.inr rfl) h dX8_in_18
set_option maxRecDepth 100000 in
set_option maxHeartbeats 4000000 in
theorem c_M_end (l : Launch) (D : va_G) (g : Ad) {σ σr : St} {p1 r : Int} (hR : R32 σ) (i_p1 : in32 p1) (h : M_end σ p1 = some (r, σr)) : CtI l D g yX8_end cX8_end 2 (some .boolean) 2 (wM g σ) (wM g σr) [.ref (g.2 100), .int (I p1)] r (in32 r ∧ R32 σr) := by
  intro sz
  refine met_of (by decide) (Nat.le_of_ble_eq_true rfl) (fun p e s m args below meth c ls H locs C0 hml hr hlk hE hl => ?_)
  have C0 : CX p c cX8_end m s args D g RX8 := C0
  have hl : lv_has ls 2 [(0, .ref (g.2 100)), (1, .int (I p1))] := hl
  unfold M_end at h
  refine lv_aload_n C0.1 C0.2.1 dX8_end_0 rfl (lv_at hl 0 rfl) ?_
  refine lv_iconst (v := I 0) C0.1 C0.2.1 dX8_end_1 rfl ?_
  obtain ⟨s1, e_s1, hR, h⟩ := pf_s hR lit_0 h
  refine M_p_thrown C0 hE e_s1 fk_X8_55 dX8_end_2 (fun H locs hE => ?_)
  refine lv_iload_n C0.1 C0.2.1 dX8_end_5 rfl (lv_at hl 1 rfl) ?_
  refine x_i2l C0 i_p1 dX8_end_6 ?_
  refine lv_lconst (v := J 0) C0.1 C0.2.1 dX8_end_7 (by decide +kernel) ?_
  refine lv_aload_n C0.1 C0.2.1 dX8_end_8 rfl (lv_at hl 0 rfl) ?_
  obtain ⟨v2, e_v2, i_v2, h⟩ := gf_s hR h
  refine M_g_typed C0 hE e_v2 fk_X8_62 dX8_end_9 ?_
  refine x_i2l C0 i_v2 dX8_end_12 ?_
  obtain ⟨v3, h_v3, h⟩ := bndp_s h
  refine callS_i (rest := []) C0 hml hE (c_M_in l D g (σ := s1) (in64_of i_p1) (by decide) (in64_of i_v2) h_v3) kw_X8_65 ⟨Nat.le_of_ble_eq_true rfl, Nat.le_of_ble_eq_true rfl⟩ rfl hl.1 rfl (Nat.le_of_ble_eq_true rfl) dX8_end_13 ⟨Nat.zero_le _, Nat.zero_le _⟩ (fun H locs hE i_v3 => ?_)
  refine x_if_ne C0 i_v3 dX8_end_16 (tgt := 21) (by decide) (fun c9 => ?_) (fun c9 => ?_)
  · have h := ite_f c9 h
    refine lv_aload_n C0.1 C0.2.1 dX8_end_21 rfl (lv_at hl 0 rfl) ?_
    refine lv_iload_n C0.1 C0.2.1 dX8_end_22 rfl (lv_at hl 1 rfl) ?_
    obtain ⟨s4, e_s4, hR, h⟩ := pf_s hR i_p1 h
    refine M_p_typed C0 hE e_s4 fk_X8_62 dX8_end_23 (fun H locs hE => ?_)
    refine lv_iconst (v := I 1) C0.1 C0.2.1 dX8_end_26 rfl ?_
    exact ret_z (wf := wM g) C0 hr hlk hE (Or.inr rfl) h hR dX8_end_27
  · have h := ite_t c9 h
    refine lv_iconst (v := I 0) C0.1 C0.2.1 dX8_end_19 rfl ?_
    exact ret_z (wf := wM g) C0 hr hlk hE (Or.inl rfl) h hR dX8_end_20
set_option maxRecDepth 100000 in
set_option maxHeartbeats 4000000 in
theorem c_M_begin (l : Launch) (D : va_G) (g : Ad) {σ σr : St} {r : Int} (hR : R32 σ) (h : M_begin σ = some (r, σr)) : CtV l D g yX8_begin cX8_begin 1 none 1 (wM g σ) (wM g σr) [.ref (g.2 100)] (R32 σr) := by
  intro sz
  refine met_of (by decide) (Nat.le_of_ble_eq_true rfl) (fun p e s m args below meth c ls H locs C0 hml hr hlk hE hl => ?_)
  have C0 : CX p c cX8_begin m s args D g RX8 := C0
  have hl : lv_has ls 1 [(0, .ref (g.2 100))] := hl
  unfold M_begin at h
  refine lv_aload_n C0.1 C0.2.1 dX8_begin_0 rfl (lv_at hl 0 rfl) ?_
  refine lv_aload_n C0.1 C0.2.1 dX8_begin_1 rfl (lv_at hl 0 rfl) ?_
  obtain ⟨v1, e_v1, i_v1, h⟩ := gf_s hR h
  refine M_g_typed C0 hE e_v1 fk_X8_62 dX8_begin_2 ?_
  obtain ⟨s2, e_s2, hR, h⟩ := pf_s hR i_v1 h
  refine M_p_length C0 hE e_s2 fk_X8_107 dX8_begin_5 (fun H locs hE => ?_)
  refine lv_aload_n C0.1 C0.2.1 dX8_begin_8 rfl (lv_at hl 0 rfl) ?_
  refine lv_iconst (v := I 0) C0.1 C0.2.1 dX8_begin_9 rfl ?_
  obtain ⟨s3, e_s3, hR, h⟩ := pf_s hR lit_0 h
  refine M_p_typed C0 hE e_s3 fk_X8_62 dX8_begin_10 (fun H locs hE => ?_)
  refine lv_aload_n C0.1 C0.2.1 dX8_begin_13 rfl (lv_at hl 0 rfl) ?_
  refine lv_iconst (v := I 0) C0.1 C0.2.1 dX8_begin_14 rfl ?_
  obtain ⟨s4, e_s4, hR, h⟩ := pf_s hR lit_0 h
  refine M_p_at C0 hE e_s4 fk_X8_110 dX8_begin_15 (fun H locs hE => ?_)
  exact ret_v (wf := wM g) C0 hr hlk hE h hR dX8_begin_18
set_option maxRecDepth 100000 in
set_option maxHeartbeats 4000000 in
theorem c_M_makes (l : Launch) (D : va_G) (g : Ad) {σ σr : St} {p1 p2 p3 r : Int} (hR : R32 σ) (i_p1 : in32 p1) (i_p2 : in32 p2) (i_p3 : in32 p3) (h : M_makes σ p1 p2 p3 = some (r, σr)) : CtV l D g yX8_makes cX8_makes 4 none 1 (wM g σ) (wM g σr) [.ref (g.2 100), .int (I p1), .int (I p2), .int (I p3)] (R32 σr) := by
  intro sz
  refine met_of (by decide) (Nat.le_of_ble_eq_true rfl) (fun p e s m args below meth c ls H locs C0 hml hr hlk hE hl => ?_)
  have C0 : CX p c cX8_makes m s args D g RX8 := C0
  have hl : lv_has ls 4 [(0, .ref (g.2 100)), (1, .int (I p1)), (2, .int (I p2)), (3, .int (I p3))] := hl
  unfold M_makes at h
  refine lv_aload_n C0.1 C0.2.1 dX8_makes_0 rfl (lv_at hl 0 rfl) ?_
  refine lv_dup C0.1 C0.2.1 dX8_makes_1 rfl ?_
  obtain ⟨v1, e_v1, i_v1, h⟩ := gf_s hR h
  refine M_g_made C0 hE e_v1 fk_X8_75 dX8_makes_2 ?_
  refine lv_iconst (v := I 1) C0.1 C0.2.1 dX8_makes_5 rfl ?_
  obtain ⟨v2, e_v2, i_v2, h⟩ := oadd_s h
  refine x_add C0 e_v2 dX8_makes_6 ?_
  obtain ⟨s3, e_s3, hR, h⟩ := pf_s hR i_v2 h
  refine M_p_made C0 hE e_s3 fk_X8_75 dX8_makes_7 (fun H locs hE => ?_)
  refine lv_aload_n C0.1 C0.2.1 dX8_makes_10 rfl (lv_at hl 0 rfl) ?_
  refine M_g_numbers C0 hE fk_X8_7 dX8_makes_11 ?_
  refine lv_sipush (v := I 256) C0.1 C0.2.1 dX8_makes_14 (by decide +kernel) ?_
  refine lv_iload_n C0.1 C0.2.1 dX8_makes_17 rfl (lv_at hl 1 rfl) ?_
  obtain ⟨v4, e_v4, i_v4, h⟩ := omul_s h
  refine x_mul C0 e_v4 dX8_makes_18 ?_
  refine lv_iload_n C0.1 C0.2.1 dX8_makes_19 rfl (lv_at hl 2 rfl) ?_
  obtain ⟨v5, e_v5, i_v5, h⟩ := oadd_s h
  refine x_add C0 e_v5 dX8_makes_20 ?_
  refine lv_iload_n C0.1 C0.2.1 dX8_makes_21 rfl (lv_at hl 3 rfl) ?_
  obtain ⟨s6, e_s6, hR, h⟩ := wr_s hR i_p3 h
  refine M_numbers_st C0 hE i_v5 e_s6 dX8_makes_22 (fun H locs hE => ?_)
  refine lv_aload_n C0.1 C0.2.1 dX8_makes_23 rfl (lv_at hl 0 rfl) ?_
  refine M_g_nodes C0 hE fk_X8_13 dX8_makes_24 ?_
  refine lv_sipush (v := I 256) C0.1 C0.2.1 dX8_makes_27 (by decide +kernel) ?_
  refine lv_iload_n C0.1 C0.2.1 dX8_makes_30 rfl (lv_at hl 1 rfl) ?_
  obtain ⟨v7, e_v7, i_v7, h⟩ := omul_s h
  refine x_mul C0 e_v7 dX8_makes_31 ?_
  refine lv_iload_n C0.1 C0.2.1 dX8_makes_32 rfl (lv_at hl 2 rfl) ?_
  obtain ⟨v8, e_v8, i_v8, h⟩ := oadd_s h
  refine x_add C0 e_v8 dX8_makes_33 ?_
  refine lv_aload_n C0.1 C0.2.1 dX8_makes_34 rfl (lv_at hl 0 rfl) ?_
  obtain ⟨v9, e_v9, i_v9, h⟩ := gf_s hR h
  refine M_g_made C0 hE e_v9 fk_X8_75 dX8_makes_35 ?_
  obtain ⟨s10, e_s10, hR, h⟩ := wr_s hR i_v9 h
  refine M_nodes_st C0 hE i_v8 e_s10 dX8_makes_38 (fun H locs hE => ?_)
  exact ret_v (wf := wM g) C0 hr hlk hE h hR dX8_makes_39
set_option maxRecDepth 100000 in
set_option maxHeartbeats 4000000 in
theorem c_M_number (l : Launch) (D : va_G) (g : Ad) {σ : St} {p1 p2 r : Int} (hR : R32 σ) (i_p1 : in32 p1) (i_p2 : in32 p2) (h : M_number σ p1 p2 = some r) : CtI l D g yX8_number cX8_number 3 (some .int) 1 (wM g σ) (wM g σ) [.ref (g.2 100), .int (I p1), .int (I p2)] r (in32 r) := by
  intro sz
  refine met_of (by decide) (Nat.le_of_ble_eq_true rfl) (fun p e s m args below meth c ls H locs C0 hml hr hlk hE hl => ?_)
  have C0 : CX p c cX8_number m s args D g RX8 := C0
  have hl : lv_has ls 3 [(0, .ref (g.2 100)), (1, .int (I p1)), (2, .int (I p2))] := hl
  unfold M_number at h
  refine lv_aload_n C0.1 C0.2.1 dX8_number_0 rfl (lv_at hl 0 rfl) ?_
  refine M_g_numbers C0 hE fk_X8_7 dX8_number_1 ?_
  refine lv_sipush (v := I 256) C0.1 C0.2.1 dX8_number_4 (by decide +kernel) ?_
  refine lv_iload_n C0.1 C0.2.1 dX8_number_7 rfl (lv_at hl 1 rfl) ?_
  obtain ⟨v1, e_v1, i_v1, h⟩ := omul_s h
  refine x_mul C0 e_v1 dX8_number_8 ?_
  refine lv_iload_n C0.1 C0.2.1 dX8_number_9 rfl (lv_at hl 2 rfl) ?_
  obtain ⟨v2, e_v2, i_v2, h⟩ := oadd_s h
  refine x_add C0 e_v2 dX8_number_10 ?_
  obtain ⟨v3, e_v3, i_v3, h⟩ := rd_s hR h
  refine M_numbers_l C0 hE i_v2 e_v3 dX8_number_11 ?_
  exact pret_i C0 hr hlk hE h i_v3 dX8_number_12
set_option maxRecDepth 100000 in
set_option maxHeartbeats 4000000 in
theorem c_M_built (l : Launch) (D : va_G) (g : Ad) {σ σr : St} {r : Int} (hR : R32 σ) (h : M_built σ = some (r, σr)) : CtV l D g yX8_built cX8_built 2 none 2 (wM g σ) (wM g σr) [.ref (g.2 100)] (R32 σr) := by
  intro sz
  refine met_of (by decide) (Nat.le_of_ble_eq_true rfl) (fun p e s m args below meth c ls H locs C0 hml hr hlk hE hl => ?_)
  have C0 : CX p c cX8_built m s args D g RX8 := C0
  have hl : lv_has ls 2 [(0, .ref (g.2 100))] := hl
  unfold M_built at h
  refine lv_iconst (v := I 0) C0.1 C0.2.1 dX8_built_0 rfl ?_
  refine lv_istore_n (lv' := [(1, .int (I 0)), (0, .ref (g.2 100))]) C0.1 C0.2.1 dX8_built_1 rfl hl (by decide) rfl (fun ls hl => ?_)
  have hL2 : ∀ (n : Nat) (s2 : St) (hR : R32 s2) (x1 : Int) (i_x1 : in32 x1) (H : Heap) (locs : List Loc) (ls : Array Slot), EW D (va_A (wM g σ) sz) s.heap (wM g s2) H locs → lv_has ls 2 [(0, .ref (g.2 100)), (1, .int (I x1))] → M_built_L2 n s2 x1 = some (r, σr) → W p l e (rmk 2) s m args below meth c H locs 0 0 (MQ below (QCv D (wM g σr) (R32 σr) (va_A (wM g σ) sz)) args s 0 0 (va_A (wM g σ) sz)) (F0 m 2 ls []) := by
    intro n
    induction n with
    | zero => intros; rename_i h; cases h
    | succ n ih3 =>
      intro s2 hR x1 i_x1 H locs ls hE hl h
      unfold M_built_L2 at h
      refine lv_iload_n C0.1 C0.2.1 dX8_built_2 rfl (lv_at hl 1 rfl) ?_
      refine lv_aload_n C0.1 C0.2.1 dX8_built_3 rfl (lv_at hl 0 rfl) ?_
      refine M_g_sizes C0 hE fk_X8_16 dX8_built_4 ?_
      refine lv_bipush (v := I 7) C0.1 C0.2.1 dX8_built_7 (by decide +kernel) ?_
      obtain ⟨v4, e_v4, i_v4, h⟩ := rd_s hR h
      refine M_sizes_l C0 hE lit_7 e_v4 dX8_built_9 ?_
      refine x_icmp_ge C0 i_x1 i_v4 dX8_built_10 (tgt := 33) (by decide) (fun c9 => ?_) (fun c9 => ?_)
      · have h := ite_f c9 h
        exact ret_v (wf := wM g) C0 hr hlk hE h hR dX8_built_33
      · have h := ite_t c9 h
        refine lv_aload_n C0.1 C0.2.1 dX8_built_13 rfl (lv_at hl 0 rfl) ?_
        refine lv_bipush (v := I 7) C0.1 C0.2.1 dX8_built_14 (by decide +kernel) ?_
        refine lv_iload_n C0.1 C0.2.1 dX8_built_16 rfl (lv_at hl 1 rfl) ?_
        refine lv_aload_n C0.1 C0.2.1 dX8_built_17 rfl (lv_at hl 0 rfl) ?_
        refine lv_bipush (v := I 7) C0.1 C0.2.1 dX8_built_18 (by decide +kernel) ?_
        refine lv_iload_n C0.1 C0.2.1 dX8_built_20 rfl (lv_at hl 1 rfl) ?_
        obtain ⟨v5, h_v5, h⟩ := bndp_s h
        refine callV_i (rest := [.int (I x1), .int (I 7), .ref (g.2 100)]) C0 hml hE (M_rec C0 hE) (c_M_number l D g hR lit_7 i_x1 h_v5) kw_X8_99 ⟨Nat.le_of_ble_eq_true rfl, Nat.le_of_ble_eq_true rfl⟩ rfl hl.1 rfl (Nat.le_of_ble_eq_true rfl) dX8_built_21 ⟨Nat.zero_le _, Nat.zero_le _⟩ (fun H locs hE i_v5 => ?_)
        obtain ⟨v6, s7, h_v6, h⟩ := bnd_s h
        refine callV_v (rest := []) C0 hml hE (M_rec C0 hE) (c_M_makes l D g hR lit_7 i_x1 i_v5 h_v6) kw_X8_103 ⟨Nat.le_of_ble_eq_true rfl, Nat.le_of_ble_eq_true rfl⟩ rfl hl.1 rfl (Nat.le_of_ble_eq_true rfl) dX8_built_24 ⟨Nat.zero_le _, Nat.zero_le _⟩ (fun H locs hE hR => ?_)
        obtain ⟨v8, e_v8, i_v8, h⟩ := oadd_s h
        refine x_iinc (lv' := [(1, .int (I v8)), (0, .ref (g.2 100))]) C0 dX8_built_27 hl (k := 1) rfl e_v8 (by decide) rfl (fun ls hl => ?_)
        refine x_goto C0 dX8_built_30 (tgt := 2) (by decide) ?_
        exact ih3 s7 hR v8 i_v8 _ _ _ hE (lv_sub hl [1, 0] rfl) h
  exact hL2 FU σ hR 0 lit_0 _ _ _ hE (lv_sub hl [1, 0] rfl) h
set_option maxRecDepth 100000 in
set_option maxHeartbeats 4000000 in
theorem c_M_isPlace (l : Launch) (D : va_G) (g : Ad) {σ : St} {p1 r : Int} (i_p1 : in32 p1) (h : M_isPlace p1 = some r) : CtI l D g yX8_isPlace cX8_isPlace 1 (some .boolean) 2 (wM g σ) (wM g σ) [.int (I p1)] r (in32 r) := by
  intro sz
  refine met_of (by decide) (Nat.le_of_ble_eq_true rfl) (fun p e s m args below meth c ls H locs C0 hml hr hlk hE hl => ?_)
  have C0 : CX p c cX8_isPlace m s args D g RX8 := C0
  have hl : lv_has ls 1 [(0, .int (I p1))] := hl
  unfold M_isPlace at h
  refine lv_iload_n C0.1 C0.2.1 dX8_isPlace_0 rfl (lv_at hl 0 rfl) ?_
  refine x_i2l C0 i_p1 dX8_isPlace_1 ?_
  refine lv_lconst (v := J 0) C0.1 C0.2.1 dX8_isPlace_2 (by decide +kernel) ?_
  refine x_ldc2 (v := 5) C0 ck_X8_69 (by decide +kernel) dX8_isPlace_3 ?_
  obtain ⟨v1, h_v1, h⟩ := bndp_s h
  refine callS_i (rest := []) C0 hml hE (c_M_in l D g (σ := σ) (in64_of i_p1) (by decide) (by decide) h_v1) kw_X8_65 ⟨Nat.le_of_ble_eq_true rfl, Nat.le_of_ble_eq_true rfl⟩ rfl hl.1 rfl (Nat.le_of_ble_eq_true rfl) dX8_isPlace_6 ⟨Nat.zero_le _, Nat.zero_le _⟩ (fun H locs hE i_v1 => ?_)
  obtain ⟨z9, h⟩ := retZp_s h
  exact pret_z C0 hr hlk hE z9 h dX8_isPlace_9
set_option maxRecDepth 100000 in
set_option maxHeartbeats 4000000 in
theorem c_M_here (l : Launch) (D : va_G) (g : Ad) {σ : St} {r : Int} (hR : R32 σ) (h : M_here σ = some r) : CtI l D g yX8_here cX8_here 1 (some .int) 1 (wM g σ) (wM g σ) [.ref (g.2 100)] r (in32 r) := by
  intro sz
  refine met_of (by decide) (Nat.le_of_ble_eq_true rfl) (fun p e s m args below meth c ls H locs C0 hml hr hlk hE hl => ?_)
  have C0 : CX p c cX8_here m s args D g RX8 := C0
  have hl : lv_has ls 1 [(0, .ref (g.2 100))] := hl
  unfold M_here at h
  refine lv_aload_n C0.1 C0.2.1 dX8_here_0 rfl (lv_at hl 0 rfl) ?_
  obtain ⟨v1, e_v1, i_v1, h⟩ := gf_s hR h
  refine M_g_at C0 hE e_v1 fk_X8_110 dX8_here_1 ?_
  refine lv_aload_n C0.1 C0.2.1 dX8_here_4 rfl (lv_at hl 0 rfl) ?_
  obtain ⟨v2, e_v2, i_v2, h⟩ := gf_s hR h
  refine M_g_length C0 hE e_v2 fk_X8_107 dX8_here_5 ?_
  refine x_icmp_ge C0 i_v1 i_v2 dX8_here_8 (tgt := 27) (by decide) (fun c9 => ?_) (fun c9 => ?_)
  · have h := ite_f c9 h
    refine lv_iconst (v := I (-1)) C0.1 C0.2.1 dX8_here_27 rfl ?_
    exact pret_i C0 hr hlk hE h lit_m1 dX8_here_28
  · have h := ite_t c9 h
    refine lv_aload_n C0.1 C0.2.1 dX8_here_11 rfl (lv_at hl 0 rfl) ?_
    refine M_g_text C0 hE fk_X8_19 dX8_here_12 ?_
    refine lv_aload_n C0.1 C0.2.1 dX8_here_15 rfl (lv_at hl 0 rfl) ?_
    obtain ⟨v3, e_v3, i_v3, h⟩ := gf_s hR h
    refine M_g_at C0 hE e_v3 fk_X8_110 dX8_here_16 ?_
    obtain ⟨v4, e_v4, i_v4, h⟩ := rd_s hR h
    refine M_text_l C0 hE i_v3 e_v4 dX8_here_19 ?_
    refine lv_sipush (v := I 255) C0.1 C0.2.1 dX8_here_20 (by decide +kernel) ?_
    obtain ⟨v5, e_v5, i_v5, h⟩ := opure_s h (band_in _ _)
    refine x_and C0 e_v5 dX8_here_23 ?_
    refine x_goto C0 dX8_here_24 (tgt := 28) (by decide) ?_
    exact pret_i C0 hr hlk hE h i_v5 dX8_here_28
set_option maxRecDepth 100000 in
set_option maxHeartbeats 4000000 in
theorem c_M_readsNumber (l : Launch) (D : va_G) (g : Ad) {σ σr : St} {r : Int} (hR : R32 σ) (h : M_readsNumber σ = some (r, σr)) : CtI l D g yX8_readsNumber cX8_readsNumber 4 (some .boolean) 2 (wM g σ) (wM g σr) [.ref (g.2 100)] r (in32 r ∧ R32 σr) := by
  intro sz
  refine met_of (by decide) (Nat.le_of_ble_eq_true rfl) (fun p e s m args below meth c ls H locs C0 hml hr hlk hE hl => ?_)
  have C0 : CX p c cX8_readsNumber m s args D g RX8 := C0
  have hl : lv_has ls 4 [(0, .ref (g.2 100))] := hl
  unfold M_readsNumber at h
  refine lv_aload_n C0.1 C0.2.1 dX8_readsNumber_0 rfl (lv_at hl 0 rfl) ?_
  obtain ⟨v1, h_v1, h⟩ := bndp_s h
  refine callV_i (rest := []) C0 hml hE (M_rec C0 hE) (c_M_here l D g hR h_v1) kw_X8_113 ⟨Nat.le_of_ble_eq_true rfl, Nat.le_of_ble_eq_true rfl⟩ rfl hl.1 rfl (Nat.le_of_ble_eq_true rfl) dX8_readsNumber_1 ⟨Nat.zero_le _, Nat.zero_le _⟩ (fun H locs hE i_v1 => ?_)
  refine lv_bipush (v := I 45) C0.1 C0.2.1 dX8_readsNumber_4 (by decide +kernel) ?_
  obtain ⟨v2, e_v2, i_v2, h⟩ := oif_s h
  have kk_v2 : W p l e (rmk 2) s m args below meth c H locs 0 0 (MQ below (QCi D (wM g σr) r (in32 r ∧ R32 σr) (va_A (wM g σ) sz)) args s 0 0 (va_A (wM g σ) sz)) (F0 m 14 ls [.int (I v2)]) := by
    refine lv_istore_n (lv' := [(1, .int (I v2)), (0, .ref (g.2 100))]) C0.1 C0.2.1 dX8_readsNumber_14 rfl hl (by decide) rfl (fun ls hl => ?_)
    refine lv_iload_n C0.1 C0.2.1 dX8_readsNumber_15 rfl (lv_at hl 0 rfl) ?_
    obtain ⟨k4, e_k4, h⟩ := jn_s h
    have h_k4 : ∀ (s3 : St) (hR : R32 s3) (H : Heap) (locs : List Loc) (ls : Array Slot), EW D (va_A (wM g σ) sz) s.heap (wM g s3) H locs → lv_has ls 4 [(0, .ref (g.2 100)), (1, .int (I v2))] → k4 s3 = some (r, σr) → W p l e (rmk 2) s m args below meth c H locs 0 0 (MQ below (QCi D (wM g σr) r (in32 r ∧ R32 σr) (va_A (wM g σ) sz)) args s 0 0 (va_A (wM g σ) sz)) (F0 m 29 ls []) := by
      intro s3 hR H locs ls hE hl h
      have h := (congrFun e_k4 s3).symm.trans h
      refine lv_iconst (v := I 0) C0.1 C0.2.1 dX8_readsNumber_29 rfl ?_
      refine lv_istore_n (lv' := [(2, .int (I 0)), (0, .ref (g.2 100)), (1, .int (I v2))]) C0.1 C0.2.1 dX8_readsNumber_30 rfl hl (by decide) rfl (fun ls hl => ?_)
      refine lv_iconst (v := I 0) C0.1 C0.2.1 dX8_readsNumber_31 rfl ?_
      refine lv_istore_n (lv' := [(3, .int (I 0)), (2, .int (I 0)), (0, .ref (g.2 100)), (1, .int (I v2))]) C0.1 C0.2.1 dX8_readsNumber_32 rfl hl (by decide) rfl (fun ls hl => ?_)
      obtain ⟨k8, e_k8, h⟩ := jn_s h
      have h_k8 : ∀ (s5 : St) (hR : R32 s5) (x6 : Int) (i_x6 : in32 x6) (x7 : Int) (i_x7 : in32 x7) (H : Heap) (locs : List Loc) (ls : Array Slot), EW D (va_A (wM g σ) sz) s.heap (wM g s5) H locs → lv_has ls 4 [(0, .ref (g.2 100)), (1, .int (I v2)), (2, .int (I x6)), (3, .int (I x7))] → k8 s5 x6 x7 = some (r, σr) → W p l e (rmk 2) s m args below meth c H locs 0 0 (MQ below (QCi D (wM g σr) r (in32 r ∧ R32 σr) (va_A (wM g σ) sz)) args s 0 0 (va_A (wM g σ) sz)) (F0 m 84 ls []) := by
        intro s5 hR x6 i_x6 x7 i_x7 H locs ls hE hl h
        have h := (congrFun (congrFun (congrFun e_k8 s5) x6) x7).symm.trans h
        refine lv_aload_n C0.1 C0.2.1 dX8_readsNumber_84 rfl (lv_at hl 0 rfl) ?_
        refine lv_iload_n C0.1 C0.2.1 dX8_readsNumber_85 rfl (lv_at hl 1 rfl) ?_
        obtain ⟨k10, e_k10, h⟩ := jn_s h
        have h_k10 : ∀ (x9 : Int) (i_x9 : in32 x9) (H : Heap) (locs : List Loc) (ls : Array Slot), EW D (va_A (wM g σ) sz) s.heap (wM g s5) H locs → lv_has ls 4 [(3, .int (I x7))] → k10 x9 = some (r, σr) → W p l e (rmk 2) s m args below meth c H locs 0 0 (MQ below (QCi D (wM g σr) r (in32 r ∧ R32 σr) (va_A (wM g σ) sz)) args s 0 0 (va_A (wM g σ) sz)) (F0 m 95 ls [.int (I x9), .ref (g.2 100)]) := by
          intro x9 i_x9 H locs ls hE hl h
          have h := (congrFun e_k10 x9).symm.trans h
          obtain ⟨s11, e_s11, hR, h⟩ := pf_s hR i_x9 h
          refine M_p_read C0 hE e_s11 fk_X8_121 dX8_readsNumber_95 (fun H locs hE => ?_)
          refine lv_iload_n C0.1 C0.2.1 dX8_readsNumber_98 rfl (lv_at hl 0 rfl) ?_
          obtain ⟨v12, e_v12, i_v12, h⟩ := oif_s h
          have kk_v12 : W p l e (rmk 2) s m args below meth c H locs 0 0 (MQ below (QCi D (wM g σr) r (in32 r ∧ R32 σr) (va_A (wM g σ) sz)) args s 0 0 (va_A (wM g σ) sz)) (F0 m 107 ls [.int (I v12)]) := by
            obtain ⟨z9, h⟩ := retZ_s h
            exact ret_z (wf := wM g) C0 hr hlk hE z9 h hR dX8_readsNumber_107
          refine x_if_le C0 i_x7 dX8_readsNumber_99 (tgt := 106) (by decide) (fun c9 => ?_) (fun c9 => ?_)
          · have e9 := e_v12.trans (if_neg c9)
            refine lv_iconst (v := I 0) C0.1 C0.2.1 dX8_readsNumber_106 rfl ?_
            rw [e9] at kk_v12; exact kk_v12
          · have e9 := e_v12.trans (if_pos c9)
            refine lv_iconst (v := I 1) C0.1 C0.2.1 dX8_readsNumber_102 rfl ?_
            refine x_goto C0 dX8_readsNumber_103 (tgt := 107) (by decide) ?_
            rw [e9] at kk_v12; exact kk_v12
        refine x_if_eq C0 i_v2 dX8_readsNumber_86 (tgt := 94) (by decide) (fun c9 => ?_) (fun c9 => ?_)
        · have h := ite_t c9 h
          refine lv_iload_n C0.1 C0.2.1 dX8_readsNumber_94 rfl (lv_at hl 2 rfl) ?_
          exact h_k10 x6 i_x6 _ _ _ hE (lv_sub hl [3] rfl) h
        · have h := ite_f c9 h
          refine lv_iload_n C0.1 C0.2.1 dX8_readsNumber_89 rfl (lv_at hl 2 rfl) ?_
          obtain ⟨v13, e_v13, i_v13, h⟩ := oneg_s h
          refine x_neg C0 e_v13 dX8_readsNumber_90 ?_
          refine x_goto C0 dX8_readsNumber_91 (tgt := 95) (by decide) ?_
          exact h_k10 v13 i_v13 _ _ _ hE (lv_sub hl [3] rfl) h
      have hL33 : ∀ (n : Nat) (s16 : St) (hR : R32 s16) (x14 : Int) (i_x14 : in32 x14) (x15 : Int) (i_x15 : in32 x15) (H : Heap) (locs : List Loc) (ls : Array Slot), EW D (va_A (wM g σ) sz) s.heap (wM g s16) H locs → lv_has ls 4 [(0, .ref (g.2 100)), (1, .int (I v2)), (2, .int (I x14)), (3, .int (I x15))] → M_readsNumber_L33 k8 n s16 x14 x15 = some (r, σr) → W p l e (rmk 2) s m args below meth c H locs 0 0 (MQ below (QCi D (wM g σr) r (in32 r ∧ R32 σr) (va_A (wM g σ) sz)) args s 0 0 (va_A (wM g σ) sz)) (F0 m 33 ls []) := by
        intro n
        induction n with
        | zero => intros; rename_i h; cases h
        | succ n ih17 =>
          intro s16 hR x14 i_x14 x15 i_x15 H locs ls hE hl h
          unfold M_readsNumber_L33 at h
          refine lv_iload_n C0.1 C0.2.1 dX8_readsNumber_33 rfl (lv_at hl 3 rfl) ?_
          refine lv_iconst (v := I 3) C0.1 C0.2.1 dX8_readsNumber_34 rfl ?_
          refine x_icmp_ge C0 i_x15 lit_3 dX8_readsNumber_35 (tgt := 84) (by decide) (fun c9 => ?_) (fun c9 => ?_)
          · have h := ite_f c9 h
            exact h_k8 s16 hR x14 i_x14 x15 i_x15 _ _ _ hE (lv_sub hl [0, 1, 2, 3] rfl) h
          · have h := ite_t c9 h
            refine lv_aload_n C0.1 C0.2.1 dX8_readsNumber_38 rfl (lv_at hl 0 rfl) ?_
            obtain ⟨v18, h_v18, h⟩ := bndp_s h
            refine callV_i (rest := []) C0 hml hE (M_rec C0 hE) (c_M_here l D g hR h_v18) kw_X8_113 ⟨Nat.le_of_ble_eq_true rfl, Nat.le_of_ble_eq_true rfl⟩ rfl hl.1 rfl (Nat.le_of_ble_eq_true rfl) dX8_readsNumber_39 ⟨Nat.zero_le _, Nat.zero_le _⟩ (fun H locs hE i_v18 => ?_)
            refine x_i2l C0 i_v18 dX8_readsNumber_42 ?_
            refine x_ldc2 (v := 48) C0 ck_X8_117 (by decide +kernel) dX8_readsNumber_43 ?_
            refine x_ldc2 (v := 57) C0 ck_X8_119 (by decide +kernel) dX8_readsNumber_46 ?_
            obtain ⟨v19, h_v19, h⟩ := bndp_s h
            refine callS_i (rest := []) C0 hml hE (c_M_in l D g (σ := s16) (in64_of i_v18) (by decide) (by decide) h_v19) kw_X8_65 ⟨Nat.le_of_ble_eq_true rfl, Nat.le_of_ble_eq_true rfl⟩ rfl hl.1 rfl (Nat.le_of_ble_eq_true rfl) dX8_readsNumber_49 ⟨Nat.zero_le _, Nat.zero_le _⟩ (fun H locs hE i_v19 => ?_)
            refine x_if_eq C0 i_v19 dX8_readsNumber_52 (tgt := 84) (by decide) (fun c9 => ?_) (fun c9 => ?_)
            · have h := ite_t c9 h
              exact h_k8 s16 hR x14 i_x14 x15 i_x15 _ _ _ hE (lv_sub hl [0, 1, 2, 3] rfl) h
            · have h := ite_f c9 h
              refine lv_bipush (v := I 10) C0.1 C0.2.1 dX8_readsNumber_55 (by decide +kernel) ?_
              refine lv_iload_n C0.1 C0.2.1 dX8_readsNumber_57 rfl (lv_at hl 2 rfl) ?_
              obtain ⟨v20, e_v20, i_v20, h⟩ := omul_s h
              refine x_mul C0 e_v20 dX8_readsNumber_58 ?_
              refine lv_aload_n C0.1 C0.2.1 dX8_readsNumber_59 rfl (lv_at hl 0 rfl) ?_
              obtain ⟨v21, h_v21, h⟩ := bndp_s h
              refine callV_i (rest := [.int (I v20)]) C0 hml hE (M_rec C0 hE) (c_M_here l D g hR h_v21) kw_X8_113 ⟨Nat.le_of_ble_eq_true rfl, Nat.le_of_ble_eq_true rfl⟩ rfl hl.1 rfl (Nat.le_of_ble_eq_true rfl) dX8_readsNumber_60 ⟨Nat.zero_le _, Nat.zero_le _⟩ (fun H locs hE i_v21 => ?_)
              obtain ⟨v22, e_v22, i_v22, h⟩ := oadd_s h
              refine x_add C0 e_v22 dX8_readsNumber_63 ?_
              refine lv_bipush (v := I 48) C0.1 C0.2.1 dX8_readsNumber_64 (by decide +kernel) ?_
              obtain ⟨v23, e_v23, i_v23, h⟩ := osub_s h
              refine x_sub C0 e_v23 dX8_readsNumber_66 ?_
              refine lv_istore_n (lv' := [(2, .int (I v23)), (0, .ref (g.2 100)), (1, .int (I v2)), (3, .int (I x15))]) C0.1 C0.2.1 dX8_readsNumber_67 rfl hl (by decide) rfl (fun ls hl => ?_)
              obtain ⟨v24, e_v24, i_v24, h⟩ := oadd_s h
              refine x_iinc (lv' := [(3, .int (I v24)), (2, .int (I v23)), (0, .ref (g.2 100)), (1, .int (I v2))]) C0 dX8_readsNumber_68 hl (k := 3) rfl e_v24 (by decide) rfl (fun ls hl => ?_)
              refine lv_aload_n C0.1 C0.2.1 dX8_readsNumber_71 rfl (lv_at hl 2 rfl) ?_
              refine lv_dup C0.1 C0.2.1 dX8_readsNumber_72 rfl ?_
              obtain ⟨v25, e_v25, i_v25, h⟩ := gf_s hR h
              refine M_g_at C0 hE e_v25 fk_X8_110 dX8_readsNumber_73 ?_
              refine lv_iconst (v := I 1) C0.1 C0.2.1 dX8_readsNumber_76 rfl ?_
              obtain ⟨v26, e_v26, i_v26, h⟩ := oadd_s h
              refine x_add C0 e_v26 dX8_readsNumber_77 ?_
              obtain ⟨s27, e_s27, hR, h⟩ := pf_s hR i_v26 h
              refine M_p_at C0 hE e_s27 fk_X8_110 dX8_readsNumber_78 (fun H locs hE => ?_)
              refine x_goto C0 dX8_readsNumber_81 (tgt := 33) (by decide) ?_
              exact ih17 s27 hR v23 i_v23 v24 i_v24 _ _ _ hE (lv_sub hl [2, 3, 1, 0] rfl) h
      exact hL33 FU s3 hR 0 lit_0 0 lit_0 _ _ _ hE (lv_sub hl [2, 3, 1, 0] rfl) h
    refine x_if_eq C0 i_v2 dX8_readsNumber_16 (tgt := 29) (by decide) (fun c9 => ?_) (fun c9 => ?_)
    · have h := ite_t c9 h
      exact h_k4 σ hR _ _ _ hE (lv_sub hl [1, 0] rfl) h
    · have h := ite_f c9 h
      refine lv_aload_n C0.1 C0.2.1 dX8_readsNumber_19 rfl (lv_at hl 1 rfl) ?_
      refine lv_dup C0.1 C0.2.1 dX8_readsNumber_20 rfl ?_
      obtain ⟨v28, e_v28, i_v28, h⟩ := gf_s hR h
      refine M_g_at C0 hE e_v28 fk_X8_110 dX8_readsNumber_21 ?_
      refine lv_iconst (v := I 1) C0.1 C0.2.1 dX8_readsNumber_24 rfl ?_
      obtain ⟨v29, e_v29, i_v29, h⟩ := oadd_s h
      refine x_add C0 e_v29 dX8_readsNumber_25 ?_
      obtain ⟨s30, e_s30, hR, h⟩ := pf_s hR i_v29 h
      refine M_p_at C0 hE e_s30 fk_X8_110 dX8_readsNumber_26 (fun H locs hE => ?_)
      exact h_k4 s30 hR _ _ _ hE (lv_sub hl [1, 0] rfl) h
  refine x_icmp_ne C0 i_v1 lit_45 dX8_readsNumber_6 (tgt := 13) (by decide) (fun c9 => ?_) (fun c9 => ?_)
  · have e9 := e_v2.trans (if_neg c9)
    refine lv_iconst (v := I 0) C0.1 C0.2.1 dX8_readsNumber_13 rfl ?_
    rw [e9] at kk_v2; exact kk_v2
  · have e9 := e_v2.trans (if_pos c9)
    refine lv_iconst (v := I 1) C0.1 C0.2.1 dX8_readsNumber_9 rfl ?_
    refine x_goto C0 dX8_readsNumber_10 (tgt := 14) (by decide) ?_
    rw [e9] at kk_v2; exact kk_v2
set_option maxRecDepth 100000 in
set_option maxHeartbeats 4000000 in
theorem c_M_readsRow (l : Launch) (D : va_G) (g : Ad) {σ σr : St} {r : Int} (hR : R32 σ) (h : M_readsRow σ = some (r, σr)) : CtI l D g yX8_readsRow cX8_readsRow 1 (some .boolean) 3 (wM g σ) (wM g σr) [.ref (g.2 100)] r (in32 r ∧ R32 σr) := by
  intro sz
  refine met_of (by decide) (Nat.le_of_ble_eq_true rfl) (fun p e s m args below meth c ls H locs C0 hml hr hlk hE hl => ?_)
  have C0 : CX p c cX8_readsRow m s args D g RX8 := C0
  have hl : lv_has ls 1 [(0, .ref (g.2 100))] := hl
  unfold M_readsRow at h
  refine lv_aload_n C0.1 C0.2.1 dX8_readsRow_0 rfl (lv_at hl 0 rfl) ?_
  refine M_g_sizes C0 hE fk_X8_16 dX8_readsRow_1 ?_
  refine lv_bipush (v := I 7) C0.1 C0.2.1 dX8_readsRow_4 (by decide +kernel) ?_
  refine lv_iconst (v := I 0) C0.1 C0.2.1 dX8_readsRow_6 rfl ?_
  obtain ⟨s1, e_s1, hR, h⟩ := wr_s hR lit_0 h
  refine M_sizes_st C0 hE lit_7 e_s1 dX8_readsRow_7 (fun H locs hE => ?_)
  refine lv_aload_n C0.1 C0.2.1 dX8_readsRow_8 rfl (lv_at hl 0 rfl) ?_
  obtain ⟨v2, e_v2, i_v2, h⟩ := gf_s hR h
  refine M_g_length C0 hE e_v2 fk_X8_107 dX8_readsRow_9 ?_
  refine x_if_ne C0 i_v2 dX8_readsRow_12 (tgt := 17) (by decide) (fun c9 => ?_) (fun c9 => ?_)
  · have h := ite_f c9 h
    have hL17 : ∀ (n : Nat) (s3 : St) (hR : R32 s3) (H : Heap) (locs : List Loc) (ls : Array Slot), EW D (va_A (wM g σ) sz) s.heap (wM g s3) H locs → lv_has ls 1 [(0, .ref (g.2 100))] → M_readsRow_L17 n s3 = some (r, σr) → W p l e (rmk 3) s m args below meth c H locs 0 0 (MQ below (QCi D (wM g σr) r (in32 r ∧ R32 σr) (va_A (wM g σ) sz)) args s 0 0 (va_A (wM g σ) sz)) (F0 m 17 ls []) := by
      intro n
      induction n with
      | zero => intros; rename_i h; cases h
      | succ n ih4 =>
        intro s3 hR H locs ls hE hl h
        unfold M_readsRow_L17 at h
        refine lv_aload_n C0.1 C0.2.1 dX8_readsRow_17 rfl (lv_at hl 0 rfl) ?_
        obtain ⟨v5, s6, h_v5, h⟩ := bnd_s h
        refine callV_i (rest := []) C0 hml hE (M_rec C0 hE) (c_M_readsNumber l D g hR h_v5) kw_X8_124 ⟨Nat.le_of_ble_eq_true rfl, Nat.le_of_ble_eq_true rfl⟩ rfl hl.1 rfl (Nat.le_of_ble_eq_true rfl) dX8_readsRow_18 ⟨Nat.zero_le _, Nat.zero_le _⟩ (fun H locs hE ⟨i_v5, hR⟩ => ?_)
        refine x_if_ne C0 i_v5 dX8_readsRow_21 (tgt := 26) (by decide) (fun c9 => ?_) (fun c9 => ?_)
        · have h := ite_f c9 h
          refine lv_aload_n C0.1 C0.2.1 dX8_readsRow_26 rfl (lv_at hl 0 rfl) ?_
          refine M_g_numbers C0 hE fk_X8_7 dX8_readsRow_27 ?_
          refine lv_sipush (v := I 1792) C0.1 C0.2.1 dX8_readsRow_30 (by decide +kernel) ?_
          refine lv_aload_n C0.1 C0.2.1 dX8_readsRow_33 rfl (lv_at hl 0 rfl) ?_
          refine M_g_sizes C0 hE fk_X8_16 dX8_readsRow_34 ?_
          refine lv_bipush (v := I 7) C0.1 C0.2.1 dX8_readsRow_37 (by decide +kernel) ?_
          obtain ⟨v7, e_v7, i_v7, h⟩ := rd_s hR h
          refine M_sizes_l C0 hE lit_7 e_v7 dX8_readsRow_39 ?_
          obtain ⟨v8, e_v8, i_v8, h⟩ := oadd_s h
          refine x_add C0 e_v8 dX8_readsRow_40 ?_
          refine lv_aload_n C0.1 C0.2.1 dX8_readsRow_41 rfl (lv_at hl 0 rfl) ?_
          obtain ⟨v9, e_v9, i_v9, h⟩ := gf_s hR h
          refine M_g_read C0 hE e_v9 fk_X8_121 dX8_readsRow_42 ?_
          obtain ⟨s10, e_s10, hR, h⟩ := wr_s hR i_v9 h
          refine M_numbers_st C0 hE i_v8 e_s10 dX8_readsRow_45 (fun H locs hE => ?_)
          refine lv_aload_n C0.1 C0.2.1 dX8_readsRow_46 rfl (lv_at hl 0 rfl) ?_
          refine M_g_sizes C0 hE fk_X8_16 dX8_readsRow_47 ?_
          refine lv_bipush (v := I 7) C0.1 C0.2.1 dX8_readsRow_50 (by decide +kernel) ?_
          refine lv_dup2_11 C0.1 C0.2.1 dX8_readsRow_52 rfl rfl ?_
          obtain ⟨v11, e_v11, i_v11, h⟩ := rd_s hR h
          refine M_sizes_l C0 hE lit_7 e_v11 dX8_readsRow_53 ?_
          refine lv_iconst (v := I 1) C0.1 C0.2.1 dX8_readsRow_54 rfl ?_
          obtain ⟨v12, e_v12, i_v12, h⟩ := oadd_s h
          refine x_add C0 e_v12 dX8_readsRow_55 ?_
          obtain ⟨s13, e_s13, hR, h⟩ := wr_s hR i_v12 h
          refine M_sizes_st C0 hE lit_7 e_s13 dX8_readsRow_56 (fun H locs hE => ?_)
          refine lv_aload_n C0.1 C0.2.1 dX8_readsRow_57 rfl (lv_at hl 0 rfl) ?_
          obtain ⟨v14, e_v14, i_v14, h⟩ := gf_s hR h
          refine M_g_at C0 hE e_v14 fk_X8_110 dX8_readsRow_58 ?_
          refine lv_aload_n C0.1 C0.2.1 dX8_readsRow_61 rfl (lv_at hl 0 rfl) ?_
          obtain ⟨v15, e_v15, i_v15, h⟩ := gf_s hR h
          refine M_g_length C0 hE e_v15 fk_X8_107 dX8_readsRow_62 ?_
          refine x_icmp_ne C0 i_v14 i_v15 dX8_readsRow_65 (tgt := 70) (by decide) (fun c9 => ?_) (fun c9 => ?_)
          · have h := ite_f c9 h
            refine lv_aload_n C0.1 C0.2.1 dX8_readsRow_70 rfl (lv_at hl 0 rfl) ?_
            obtain ⟨v16, h_v16, h⟩ := bndp_s h
            refine callV_i (rest := []) C0 hml hE (M_rec C0 hE) (c_M_here l D g hR h_v16) kw_X8_113 ⟨Nat.le_of_ble_eq_true rfl, Nat.le_of_ble_eq_true rfl⟩ rfl hl.1 rfl (Nat.le_of_ble_eq_true rfl) dX8_readsRow_71 ⟨Nat.zero_le _, Nat.zero_le _⟩ (fun H locs hE i_v16 => ?_)
            refine lv_bipush (v := I 44) C0.1 C0.2.1 dX8_readsRow_74 (by decide +kernel) ?_
            refine x_icmp_eq C0 i_v16 lit_44 dX8_readsRow_76 (tgt := 81) (by decide) (fun c9 => ?_) (fun c9 => ?_)
            · have h := ite_t c9 h
              refine lv_aload_n C0.1 C0.2.1 dX8_readsRow_81 rfl (lv_at hl 0 rfl) ?_
              refine lv_dup C0.1 C0.2.1 dX8_readsRow_82 rfl ?_
              obtain ⟨v17, e_v17, i_v17, h⟩ := gf_s hR h
              refine M_g_at C0 hE e_v17 fk_X8_110 dX8_readsRow_83 ?_
              refine lv_iconst (v := I 1) C0.1 C0.2.1 dX8_readsRow_86 rfl ?_
              obtain ⟨v18, e_v18, i_v18, h⟩ := oadd_s h
              refine x_add C0 e_v18 dX8_readsRow_87 ?_
              obtain ⟨s19, e_s19, hR, h⟩ := pf_s hR i_v18 h
              refine M_p_at C0 hE e_s19 fk_X8_110 dX8_readsRow_88 (fun H locs hE => ?_)
              refine x_goto C0 dX8_readsRow_91 (tgt := 17) (by decide) ?_
              exact ih4 s19 hR _ _ _ hE (lv_sub hl [0] rfl) h
            · have h := ite_f c9 h
              refine lv_iconst (v := I 0) C0.1 C0.2.1 dX8_readsRow_79 rfl ?_
              exact ret_z (wf := wM g) C0 hr hlk hE (Or.inl rfl) h hR dX8_readsRow_80
          · have h := ite_t c9 h
            refine lv_iconst (v := I 1) C0.1 C0.2.1 dX8_readsRow_68 rfl ?_
            exact ret_z (wf := wM g) C0 hr hlk hE (Or.inr rfl) h hR dX8_readsRow_69
        · have h := ite_t c9 h
          refine lv_iconst (v := I 0) C0.1 C0.2.1 dX8_readsRow_24 rfl ?_
          exact ret_z (wf := wM g) C0 hr hlk hE (Or.inl rfl) h hR dX8_readsRow_25
    exact hL17 FU s1 hR _ _ _ hE (lv_sub hl [0] rfl) h
  · have h := ite_t c9 h
    refine lv_iconst (v := I 1) C0.1 C0.2.1 dX8_readsRow_15 rfl ?_
    exact ret_z (wf := wM g) C0 hr hlk hE (Or.inr rfl) h hR dX8_readsRow_16
set_option maxRecDepth 100000 in
set_option maxHeartbeats 4000000 in
theorem c_M_shares (l : Launch) (D : va_G) (g : Ad) {σ σr : St} {p1 p2 p3 p4 p5 p6 p7 r : Int} (hR : R32 σ) (i_p1 : in32 p1) (i_p2 : in32 p2) (i_p3 : in32 p3) (i_p4 : in32 p4) (i_p5 : in32 p5) (i_p6 : in32 p6) (i_p7 : in32 p7) (h : M_shares σ p1 p2 p3 p4 p5 p6 p7 = some (r, σr)) : CtV l D g yX8_shares cX8_shares 9 none 1 (wM g σ) (wM g σr) [.ref (g.2 100), .int (I p1), .int (I p2), .int (I p3), .int (I p4), .int (I p5), .int (I p6), .int (I p7)] (R32 σr) := by
  intro sz
  refine met_of (by decide) (Nat.le_of_ble_eq_true rfl) (fun p e s m args below meth c ls H locs C0 hml hr hlk hE hl => ?_)
  have C0 : CX p c cX8_shares m s args D g RX8 := C0
  have hl : lv_has ls 9 [(0, .ref (g.2 100)), (1, .int (I p1)), (2, .int (I p2)), (3, .int (I p3)), (4, .int (I p4)), (5, .int (I p5)), (6, .int (I p6)), (7, .int (I p7))] := hl
  unfold M_shares at h
  refine lv_iconst (v := I 0) C0.1 C0.2.1 dX8_shares_0 rfl ?_
  refine lv_istore (lv' := [(8, .int (I 0)), (0, .ref (g.2 100)), (1, .int (I p1)), (2, .int (I p2)), (3, .int (I p3)), (4, .int (I p4)), (5, .int (I p5)), (6, .int (I p6)), (7, .int (I p7))]) C0.1 C0.2.1 dX8_shares_1 hl (by decide) rfl (fun ls hl => ?_)
  have hL3 : ∀ (n : Nat) (s2 : St) (hR : R32 s2) (x1 : Int) (i_x1 : in32 x1) (H : Heap) (locs : List Loc) (ls : Array Slot), EW D (va_A (wM g σ) sz) s.heap (wM g s2) H locs → lv_has ls 9 [(0, .ref (g.2 100)), (1, .int (I p1)), (2, .int (I p2)), (3, .int (I p3)), (4, .int (I p4)), (5, .int (I p5)), (6, .int (I p6)), (7, .int (I p7)), (8, .int (I x1))] → M_shares_L3 p1 p2 p3 p4 p5 p6 p7 n s2 x1 = some (r, σr) → W p l e (rmk 1) s m args below meth c H locs 0 0 (MQ below (QCv D (wM g σr) (R32 σr) (va_A (wM g σ) sz)) args s 0 0 (va_A (wM g σ) sz)) (F0 m 3 ls []) := by
    intro n
    induction n with
    | zero => intros; rename_i h; cases h
    | succ n ih3 =>
      intro s2 hR x1 i_x1 H locs ls hE hl h
      unfold M_shares_L3 at h
      refine lv_iload C0.1 C0.2.1 dX8_shares_3 (lv_at hl 8 rfl) ?_
      refine lv_iload C0.1 C0.2.1 dX8_shares_5 (lv_at hl 4 rfl) ?_
      refine x_icmp_ge C0 i_x1 i_p4 dX8_shares_7 (tgt := 90) (by decide) (fun c9 => ?_) (fun c9 => ?_)
      · have h := ite_f c9 h
        exact ret_v (wf := wM g) C0 hr hlk hE h hR dX8_shares_90
      · have h := ite_t c9 h
        refine lv_aload_n C0.1 C0.2.1 dX8_shares_10 rfl (lv_at hl 0 rfl) ?_
        refine M_g_numbers C0 hE fk_X8_7 dX8_shares_11 ?_
        refine lv_sipush (v := I 256) C0.1 C0.2.1 dX8_shares_14 (by decide +kernel) ?_
        refine lv_iload C0.1 C0.2.1 dX8_shares_17 (lv_at hl 5 rfl) ?_
        obtain ⟨v4, e_v4, i_v4, h⟩ := omul_s h
        refine x_mul C0 e_v4 dX8_shares_19 ?_
        refine lv_iload C0.1 C0.2.1 dX8_shares_20 (lv_at hl 6 rfl) ?_
        obtain ⟨v5, e_v5, i_v5, h⟩ := oadd_s h
        refine x_add C0 e_v5 dX8_shares_22 ?_
        refine lv_iload C0.1 C0.2.1 dX8_shares_23 (lv_at hl 7 rfl) ?_
        refine lv_iload C0.1 C0.2.1 dX8_shares_25 (lv_at hl 8 rfl) ?_
        obtain ⟨v6, e_v6, i_v6, h⟩ := omul_s h
        refine x_mul C0 e_v6 dX8_shares_27 ?_
        obtain ⟨v7, e_v7, i_v7, h⟩ := oadd_s h
        refine x_add C0 e_v7 dX8_shares_28 ?_
        refine lv_aload_n C0.1 C0.2.1 dX8_shares_29 rfl (lv_at hl 0 rfl) ?_
        refine M_g_numbers C0 hE fk_X8_7 dX8_shares_30 ?_
        refine lv_sipush (v := I 256) C0.1 C0.2.1 dX8_shares_33 (by decide +kernel) ?_
        refine lv_iload_n C0.1 C0.2.1 dX8_shares_36 rfl (lv_at hl 1 rfl) ?_
        obtain ⟨v8, e_v8, i_v8, h⟩ := omul_s h
        refine x_mul C0 e_v8 dX8_shares_37 ?_
        refine lv_iload_n C0.1 C0.2.1 dX8_shares_38 rfl (lv_at hl 2 rfl) ?_
        obtain ⟨v9, e_v9, i_v9, h⟩ := oadd_s h
        refine x_add C0 e_v9 dX8_shares_39 ?_
        refine lv_iload_n C0.1 C0.2.1 dX8_shares_40 rfl (lv_at hl 3 rfl) ?_
        refine lv_iload C0.1 C0.2.1 dX8_shares_41 (lv_at hl 8 rfl) ?_
        obtain ⟨v10, e_v10, i_v10, h⟩ := omul_s h
        refine x_mul C0 e_v10 dX8_shares_43 ?_
        obtain ⟨v11, e_v11, i_v11, h⟩ := oadd_s h
        refine x_add C0 e_v11 dX8_shares_44 ?_
        obtain ⟨v12, e_v12, i_v12, h⟩ := rd_s hR h
        refine M_numbers_l C0 hE i_v11 e_v12 dX8_shares_45 ?_
        obtain ⟨s13, e_s13, hR, h⟩ := wr_s hR i_v12 h
        refine M_numbers_st C0 hE i_v7 e_s13 dX8_shares_46 (fun H locs hE => ?_)
        refine lv_aload_n C0.1 C0.2.1 dX8_shares_47 rfl (lv_at hl 0 rfl) ?_
        refine M_g_nodes C0 hE fk_X8_13 dX8_shares_48 ?_
        refine lv_sipush (v := I 256) C0.1 C0.2.1 dX8_shares_51 (by decide +kernel) ?_
        refine lv_iload C0.1 C0.2.1 dX8_shares_54 (lv_at hl 5 rfl) ?_
        obtain ⟨v14, e_v14, i_v14, h⟩ := omul_s h
        refine x_mul C0 e_v14 dX8_shares_56 ?_
        refine lv_iload C0.1 C0.2.1 dX8_shares_57 (lv_at hl 6 rfl) ?_
        obtain ⟨v15, e_v15, i_v15, h⟩ := oadd_s h
        refine x_add C0 e_v15 dX8_shares_59 ?_
        refine lv_iload C0.1 C0.2.1 dX8_shares_60 (lv_at hl 7 rfl) ?_
        refine lv_iload C0.1 C0.2.1 dX8_shares_62 (lv_at hl 8 rfl) ?_
        obtain ⟨v16, e_v16, i_v16, h⟩ := omul_s h
        refine x_mul C0 e_v16 dX8_shares_64 ?_
        obtain ⟨v17, e_v17, i_v17, h⟩ := oadd_s h
        refine x_add C0 e_v17 dX8_shares_65 ?_
        refine lv_aload_n C0.1 C0.2.1 dX8_shares_66 rfl (lv_at hl 0 rfl) ?_
        refine M_g_nodes C0 hE fk_X8_13 dX8_shares_67 ?_
        refine lv_sipush (v := I 256) C0.1 C0.2.1 dX8_shares_70 (by decide +kernel) ?_
        refine lv_iload_n C0.1 C0.2.1 dX8_shares_73 rfl (lv_at hl 1 rfl) ?_
        obtain ⟨v18, e_v18, i_v18, h⟩ := omul_s h
        refine x_mul C0 e_v18 dX8_shares_74 ?_
        refine lv_iload_n C0.1 C0.2.1 dX8_shares_75 rfl (lv_at hl 2 rfl) ?_
        obtain ⟨v19, e_v19, i_v19, h⟩ := oadd_s h
        refine x_add C0 e_v19 dX8_shares_76 ?_
        refine lv_iload_n C0.1 C0.2.1 dX8_shares_77 rfl (lv_at hl 3 rfl) ?_
        refine lv_iload C0.1 C0.2.1 dX8_shares_78 (lv_at hl 8 rfl) ?_
        obtain ⟨v20, e_v20, i_v20, h⟩ := omul_s h
        refine x_mul C0 e_v20 dX8_shares_80 ?_
        obtain ⟨v21, e_v21, i_v21, h⟩ := oadd_s h
        refine x_add C0 e_v21 dX8_shares_81 ?_
        obtain ⟨v22, e_v22, i_v22, h⟩ := rd_s hR h
        refine M_nodes_l C0 hE i_v21 e_v22 dX8_shares_82 ?_
        obtain ⟨s23, e_s23, hR, h⟩ := wr_s hR i_v22 h
        refine M_nodes_st C0 hE i_v17 e_s23 dX8_shares_83 (fun H locs hE => ?_)
        obtain ⟨v24, e_v24, i_v24, h⟩ := oadd_s h
        refine x_iinc (lv' := [(8, .int (I v24)), (0, .ref (g.2 100)), (1, .int (I p1)), (2, .int (I p2)), (3, .int (I p3)), (4, .int (I p4)), (5, .int (I p5)), (6, .int (I p6)), (7, .int (I p7))]) C0 dX8_shares_84 hl (k := 8) rfl e_v24 (by decide) rfl (fun ls hl => ?_)
        refine x_goto C0 dX8_shares_87 (tgt := 3) (by decide) ?_
        exact ih3 s23 hR v24 i_v24 _ _ _ hE (lv_sub hl [1, 2, 3, 4, 5, 6, 7, 8, 0] rfl) h
  exact hL3 FU σ hR 0 lit_0 _ _ _ hE (lv_sub hl [1, 2, 3, 4, 5, 6, 7, 8, 0] rfl) h
set_option maxRecDepth 100000 in
set_option maxHeartbeats 4000000 in
theorem c_M_takes (l : Launch) (D : va_G) (g : Ad) {σ σr : St} {p1 p2 r : Int} (hR : R32 σ) (i_p1 : in32 p1) (i_p2 : in32 p2) (h : M_takes σ p1 p2 = some (r, σr)) : CtV l D g yX8_takes cX8_takes 3 none 2 (wM g σ) (wM g σr) [.ref (g.2 100), .int (I p1), .int (I p2)] (R32 σr) := by
  intro sz
  refine met_of (by decide) (Nat.le_of_ble_eq_true rfl) (fun p e s m args below meth c ls H locs C0 hml hr hlk hE hl => ?_)
  have C0 : CX p c cX8_takes m s args D g RX8 := C0
  have hl : lv_has ls 3 [(0, .ref (g.2 100)), (1, .int (I p1)), (2, .int (I p2))] := hl
  unfold M_takes at h
  refine lv_aload_n C0.1 C0.2.1 dX8_takes_0 rfl (lv_at hl 0 rfl) ?_
  refine lv_iload_n C0.1 C0.2.1 dX8_takes_1 rfl (lv_at hl 1 rfl) ?_
  refine lv_iconst (v := I 0) C0.1 C0.2.1 dX8_takes_2 rfl ?_
  refine lv_iconst (v := I 1) C0.1 C0.2.1 dX8_takes_3 rfl ?_
  refine lv_aload_n C0.1 C0.2.1 dX8_takes_4 rfl (lv_at hl 0 rfl) ?_
  refine M_g_sizes C0 hE fk_X8_16 dX8_takes_5 ?_
  refine lv_iload_n C0.1 C0.2.1 dX8_takes_8 rfl (lv_at hl 1 rfl) ?_
  obtain ⟨v1, e_v1, i_v1, h⟩ := rd_s hR h
  refine M_sizes_l C0 hE i_p1 e_v1 dX8_takes_9 ?_
  refine lv_iload_n C0.1 C0.2.1 dX8_takes_10 rfl (lv_at hl 2 rfl) ?_
  refine lv_iconst (v := I 0) C0.1 C0.2.1 dX8_takes_11 rfl ?_
  refine lv_iconst (v := I 1) C0.1 C0.2.1 dX8_takes_12 rfl ?_
  obtain ⟨v2, s3, h_v2, h⟩ := bnd_s h
  refine callV_v (rest := []) C0 hml hE (M_rec C0 hE) (c_M_shares l D g hR i_p1 lit_0 lit_1 i_v1 i_p2 lit_0 lit_1 h_v2) kw_X8_78 ⟨Nat.le_of_ble_eq_true rfl, Nat.le_of_ble_eq_true rfl⟩ rfl hl.1 rfl (Nat.le_of_ble_eq_true rfl) dX8_takes_13 ⟨Nat.zero_le _, Nat.zero_le _⟩ (fun H locs hE hR => ?_)
  refine lv_aload_n C0.1 C0.2.1 dX8_takes_16 rfl (lv_at hl 0 rfl) ?_
  refine M_g_sizes C0 hE fk_X8_16 dX8_takes_17 ?_
  refine lv_iload_n C0.1 C0.2.1 dX8_takes_20 rfl (lv_at hl 2 rfl) ?_
  refine lv_aload_n C0.1 C0.2.1 dX8_takes_21 rfl (lv_at hl 0 rfl) ?_
  refine M_g_sizes C0 hE fk_X8_16 dX8_takes_22 ?_
  refine lv_iload_n C0.1 C0.2.1 dX8_takes_25 rfl (lv_at hl 1 rfl) ?_
  obtain ⟨v4, e_v4, i_v4, h⟩ := rd_s hR h
  refine M_sizes_l C0 hE i_p1 e_v4 dX8_takes_26 ?_
  obtain ⟨s5, e_s5, hR, h⟩ := wr_s hR i_v4 h
  refine M_sizes_st C0 hE i_p2 e_s5 dX8_takes_27 (fun H locs hE => ?_)
  exact ret_v (wf := wM g) C0 hr hlk hE h hR dX8_takes_28
set_option maxRecDepth 100000 in
set_option maxHeartbeats 4000000 in
theorem c_M_tells (l : Launch) (D : va_G) (g : Ad) {σ σr : St} {p1 r : Int} (hR : R32 σ) (i_p1 : in32 p1) (h : M_tells σ p1 = some (r, σr)) : CtI l D g yX8_tells cX8_tells 2 (some .int) 4 (wM g σ) (wM g σr) [.ref (g.2 100), .int (I p1)] r (in32 r ∧ R32 σr) := by
  intro sz
  refine met_of (by decide) (Nat.le_of_ble_eq_true rfl) (fun p e s m args below meth c ls H locs C0 hml hr hlk hE hl => ?_)
  have C0 : CX p c cX8_tells m s args D g RX8 := C0
  have hl : lv_has ls 2 [(0, .ref (g.2 100)), (1, .int (I p1))] := hl
  unfold M_tells at h
  refine lv_aload_n C0.1 C0.2.1 dX8_tells_0 rfl (lv_at hl 0 rfl) ?_
  refine lv_iconst (v := I 0) C0.1 C0.2.1 dX8_tells_1 rfl ?_
  obtain ⟨s1, e_s1, hR, h⟩ := pf_s hR lit_0 h
  refine M_p_thrown C0 hE e_s1 fk_X8_55 dX8_tells_2 (fun H locs hE => ?_)
  refine lv_aload_n C0.1 C0.2.1 dX8_tells_5 rfl (lv_at hl 0 rfl) ?_
  obtain ⟨v2, s3, h_v2, h⟩ := bnd_s h
  refine callV_v (rest := []) C0 hml hE (M_rec C0 hE) (c_M_begin l D g hR h_v2) kw_X8_128 ⟨Nat.le_of_ble_eq_true rfl, Nat.le_of_ble_eq_true rfl⟩ rfl hl.1 rfl (Nat.le_of_ble_eq_true rfl) dX8_tells_6 ⟨Nat.zero_le _, Nat.zero_le _⟩ (fun H locs hE hR => ?_)
  refine lv_aload_n C0.1 C0.2.1 dX8_tells_9 rfl (lv_at hl 0 rfl) ?_
  obtain ⟨v4, s5, h_v4, h⟩ := bnd_s h
  refine callV_i (rest := []) C0 hml hE (M_rec C0 hE) (c_M_readsRow l D g hR h_v4) kw_X8_131 ⟨Nat.le_of_ble_eq_true rfl, Nat.le_of_ble_eq_true rfl⟩ rfl hl.1 rfl (Nat.le_of_ble_eq_true rfl) dX8_tells_10 ⟨Nat.zero_le _, Nat.zero_le _⟩ (fun H locs hE ⟨i_v4, hR⟩ => ?_)
  refine x_if_ne C0 i_v4 dX8_tells_13 (tgt := 25) (by decide) (fun c9 => ?_) (fun c9 => ?_)
  · have h := ite_f c9 h
    refine lv_iload_n C0.1 C0.2.1 dX8_tells_25 rfl (lv_at hl 1 rfl) ?_
    obtain ⟨v6, h_v6, h⟩ := bndp_s h
    refine callS_i (rest := []) C0 hml hE (c_M_isPlace l D g (σ := s5) i_p1 h_v6) kw_X8_134 ⟨Nat.le_of_ble_eq_true rfl, Nat.le_of_ble_eq_true rfl⟩ rfl hl.1 rfl (Nat.le_of_ble_eq_true rfl) dX8_tells_26 ⟨Nat.zero_le _, Nat.zero_le _⟩ (fun H locs hE i_v6 => ?_)
    refine x_if_ne C0 i_v6 dX8_tells_29 (tgt := 34) (by decide) (fun c9 => ?_) (fun c9 => ?_)
    · have h := ite_f c9 h
      refine lv_aload_n C0.1 C0.2.1 dX8_tells_34 rfl (lv_at hl 0 rfl) ?_
      obtain ⟨v7, s8, h_v7, h⟩ := bnd_s h
      refine callV_v (rest := []) C0 hml hE (M_rec C0 hE) (c_M_built l D g hR h_v7) kw_X8_138 ⟨Nat.le_of_ble_eq_true rfl, Nat.le_of_ble_eq_true rfl⟩ rfl hl.1 rfl (Nat.le_of_ble_eq_true rfl) dX8_tells_35 ⟨Nat.zero_le _, Nat.zero_le _⟩ (fun H locs hE hR => ?_)
      refine lv_aload_n C0.1 C0.2.1 dX8_tells_38 rfl (lv_at hl 0 rfl) ?_
      refine lv_bipush (v := I 7) C0.1 C0.2.1 dX8_tells_39 (by decide +kernel) ?_
      refine lv_iload_n C0.1 C0.2.1 dX8_tells_41 rfl (lv_at hl 1 rfl) ?_
      obtain ⟨v9, s10, h_v9, h⟩ := bnd_s h
      refine callV_v (rest := []) C0 hml hE (M_rec C0 hE) (c_M_takes l D g hR lit_7 i_p1 h_v9) kw_X8_82 ⟨Nat.le_of_ble_eq_true rfl, Nat.le_of_ble_eq_true rfl⟩ rfl hl.1 rfl (Nat.le_of_ble_eq_true rfl) dX8_tells_42 ⟨Nat.zero_le _, Nat.zero_le _⟩ (fun H locs hE hR => ?_)
      refine lv_aload_n C0.1 C0.2.1 dX8_tells_45 rfl (lv_at hl 0 rfl) ?_
      refine M_g_sizes C0 hE fk_X8_16 dX8_tells_46 ?_
      refine lv_iload_n C0.1 C0.2.1 dX8_tells_49 rfl (lv_at hl 1 rfl) ?_
      obtain ⟨v11, e_v11, i_v11, h⟩ := rd_s hR h
      refine M_sizes_l C0 hE i_p1 e_v11 dX8_tells_50 ?_
      exact ret_i (wf := wM g) C0 hr hlk hE h i_v11 hR dX8_tells_51
    · have h := ite_t c9 h
      refine lv_iconst (v := I (-1)) C0.1 C0.2.1 dX8_tells_32 rfl ?_
      exact ret_i (wf := wM g) C0 hr hlk hE h lit_m1 hR dX8_tells_33
  · have h := ite_t c9 h
    refine lv_sipush (v := I (-2000)) C0.1 C0.2.1 dX8_tells_16 (by decide +kernel) ?_
    refine lv_aload_n C0.1 C0.2.1 dX8_tells_19 rfl (lv_at hl 0 rfl) ?_
    obtain ⟨v12, e_v12, i_v12, h⟩ := gf_s hR h
    refine M_g_at C0 hE e_v12 fk_X8_110 dX8_tells_20 ?_
    obtain ⟨v13, e_v13, i_v13, h⟩ := osub_s h
    refine x_sub C0 e_v13 dX8_tells_23 ?_
    exact ret_i (wf := wM g) C0 hr hlk hE h i_v13 hR dX8_tells_24
set_option maxRecDepth 100000 in
set_option maxHeartbeats 4000000 in
theorem c_M_readsTree (l : Launch) (D : va_G) (g : Ad) {σ σr : St} {r : Int} (hR : R32 σ) (h : M_readsTree σ = some (r, σr)) : CtI l D g yX8_readsTree cX8_readsTree 4 (some .boolean) 3 (wM g σ) (wM g σr) [.ref (g.2 100)] r (in32 r ∧ R32 σr) := by
  intro sz
  refine met_of (by decide) (Nat.le_of_ble_eq_true rfl) (fun p e s m args below meth c ls H locs C0 hml hr hlk hE hl => ?_)
  have C0 : CX p c cX8_readsTree m s args D g RX8 := C0
  have hl : lv_has ls 4 [(0, .ref (g.2 100))] := hl
  unfold M_readsTree at h
  refine lv_aload_n C0.1 C0.2.1 dX8_readsTree_0 rfl (lv_at hl 0 rfl) ?_
  refine lv_iconst (v := I 0) C0.1 C0.2.1 dX8_readsTree_1 rfl ?_
  obtain ⟨s1, e_s1, hR, h⟩ := pf_s hR lit_0 h
  refine M_p_toldMany C0 hE e_s1 fk_X8_141 dX8_readsTree_2 (fun H locs hE => ?_)
  refine lv_iconst (v := I (-1)) C0.1 C0.2.1 dX8_readsTree_5 rfl ?_
  refine lv_istore_n (lv' := [(1, .int (I (-1))), (0, .ref (g.2 100))]) C0.1 C0.2.1 dX8_readsTree_6 rfl hl (by decide) rfl (fun ls hl => ?_)
  refine lv_iconst (v := I 0) C0.1 C0.2.1 dX8_readsTree_7 rfl ?_
  refine lv_istore_n (lv' := [(2, .int (I 0)), (1, .int (I (-1))), (0, .ref (g.2 100))]) C0.1 C0.2.1 dX8_readsTree_8 rfl hl (by decide) rfl (fun ls hl => ?_)
  obtain ⟨k3, e_k3, h⟩ := jn_s h
  have h_k3 : ∀ (s2 : St) (hR : R32 s2) (H : Heap) (locs : List Loc) (ls : Array Slot), EW D (va_A (wM g σ) sz) s.heap (wM g s2) H locs → lv_has ls 4 [(0, .ref (g.2 100))] → k3 s2 = some (r, σr) → W p l e (rmk 3) s m args below meth c H locs 0 0 (MQ below (QCi D (wM g σr) r (in32 r ∧ R32 σr) (va_A (wM g σ) sz)) args s 0 0 (va_A (wM g σ) sz)) (F0 m 187 ls []) := by
    intro s2 hR H locs ls hE hl h
    have h := (congrFun e_k3 s2).symm.trans h
    refine lv_aload_n C0.1 C0.2.1 dX8_readsTree_187 rfl (lv_at hl 0 rfl) ?_
    obtain ⟨v4, e_v4, i_v4, h⟩ := gf_s hR h
    refine M_g_at C0 hE e_v4 fk_X8_110 dX8_readsTree_188 ?_
    refine lv_aload_n C0.1 C0.2.1 dX8_readsTree_191 rfl (lv_at hl 0 rfl) ?_
    obtain ⟨v5, e_v5, i_v5, h⟩ := gf_s hR h
    refine M_g_length C0 hE e_v5 fk_X8_107 dX8_readsTree_192 ?_
    obtain ⟨v6, e_v6, i_v6, h⟩ := oif_s h
    have kk_v6 : W p l e (rmk 3) s m args below meth c H locs 0 0 (MQ below (QCi D (wM g σr) r (in32 r ∧ R32 σr) (va_A (wM g σ) sz)) args s 0 0 (va_A (wM g σ) sz)) (F0 m 203 ls [.int (I v6)]) := by
      obtain ⟨z9, h⟩ := retZ_s h
      exact ret_z (wf := wM g) C0 hr hlk hE z9 h hR dX8_readsTree_203
    refine x_icmp_ne C0 i_v4 i_v5 dX8_readsTree_195 (tgt := 202) (by decide) (fun c9 => ?_) (fun c9 => ?_)
    · have e9 := e_v6.trans (if_neg c9)
      refine lv_iconst (v := I 0) C0.1 C0.2.1 dX8_readsTree_202 rfl ?_
      rw [e9] at kk_v6; exact kk_v6
    · have e9 := e_v6.trans (if_pos c9)
      refine lv_iconst (v := I 1) C0.1 C0.2.1 dX8_readsTree_198 rfl ?_
      refine x_goto C0 dX8_readsTree_199 (tgt := 203) (by decide) ?_
      rw [e9] at kk_v6; exact kk_v6
  have hL9 : ∀ (n : Nat) (s9 : St) (hR : R32 s9) (x7 : Int) (i_x7 : in32 x7) (x8 : Int) (i_x8 : in32 x8) (H : Heap) (locs : List Loc) (ls : Array Slot), EW D (va_A (wM g σ) sz) s.heap (wM g s9) H locs → lv_has ls 4 [(0, .ref (g.2 100)), (1, .int (I x7)), (2, .int (I x8))] → M_readsTree_L9 k3 n s9 x7 x8 = some (r, σr) → W p l e (rmk 3) s m args below meth c H locs 0 0 (MQ below (QCi D (wM g σr) r (in32 r ∧ R32 σr) (va_A (wM g σ) sz)) args s 0 0 (va_A (wM g σ) sz)) (F0 m 9 ls []) := by
    intro n
    induction n with
    | zero => intros; rename_i h; cases h
    | succ n ih10 =>
      intro s9 hR x7 i_x7 x8 i_x8 H locs ls hE hl h
      unfold M_readsTree_L9 at h
      refine lv_aload_n C0.1 C0.2.1 dX8_readsTree_9 rfl (lv_at hl 0 rfl) ?_
      obtain ⟨v11, h_v11, h⟩ := bndp_s h
      refine callV_i (rest := []) C0 hml hE (M_rec C0 hE) (c_M_here l D g hR h_v11) kw_X8_113 ⟨Nat.le_of_ble_eq_true rfl, Nat.le_of_ble_eq_true rfl⟩ rfl hl.1 rfl (Nat.le_of_ble_eq_true rfl) dX8_readsTree_10 ⟨Nat.zero_le _, Nat.zero_le _⟩ (fun H locs hE i_v11 => ?_)
      refine lv_bipush (v := I 40) C0.1 C0.2.1 dX8_readsTree_13 (by decide +kernel) ?_
      refine x_icmp_ne C0 i_v11 lit_40 dX8_readsTree_15 (tgt := 113) (by decide) (fun c9 => ?_) (fun c9 => ?_)
      · have h := ite_f c9 h
        refine lv_aload_n C0.1 C0.2.1 dX8_readsTree_113 rfl (lv_at hl 0 rfl) ?_
        obtain ⟨v12, h_v12, h⟩ := bndp_s h
        refine callV_i (rest := []) C0 hml hE (M_rec C0 hE) (c_M_here l D g hR h_v12) kw_X8_113 ⟨Nat.le_of_ble_eq_true rfl, Nat.le_of_ble_eq_true rfl⟩ rfl hl.1 rfl (Nat.le_of_ble_eq_true rfl) dX8_readsTree_114 ⟨Nat.zero_le _, Nat.zero_le _⟩ (fun H locs hE i_v12 => ?_)
        refine lv_bipush (v := I 46) C0.1 C0.2.1 dX8_readsTree_117 (by decide +kernel) ?_
        refine x_icmp_eq C0 i_v12 lit_46 dX8_readsTree_119 (tgt := 124) (by decide) (fun c9 => ?_) (fun c9 => ?_)
        · have h := ite_t c9 h
          refine lv_aload_n C0.1 C0.2.1 dX8_readsTree_124 rfl (lv_at hl 0 rfl) ?_
          refine lv_dup C0.1 C0.2.1 dX8_readsTree_125 rfl ?_
          obtain ⟨v13, e_v13, i_v13, h⟩ := gf_s hR h
          refine M_g_at C0 hE e_v13 fk_X8_110 dX8_readsTree_126 ?_
          refine lv_iconst (v := I 1) C0.1 C0.2.1 dX8_readsTree_129 rfl ?_
          obtain ⟨v14, e_v14, i_v14, h⟩ := oadd_s h
          refine x_add C0 e_v14 dX8_readsTree_130 ?_
          obtain ⟨s15, e_s15, hR, h⟩ := pf_s hR i_v14 h
          refine M_p_at C0 hE e_s15 fk_X8_110 dX8_readsTree_131 (fun H locs hE => ?_)
          obtain ⟨k18, e_k18, h⟩ := jn_s h
          have h_k18 : ∀ (s16 : St) (hR : R32 s16) (x17 : Int) (i_x17 : in32 x17) (H : Heap) (locs : List Loc) (ls : Array Slot), EW D (va_A (wM g σ) sz) s.heap (wM g s16) H locs → lv_has ls 4 [(0, .ref (g.2 100)), (1, .int (I x17))] → k18 s16 x17 = some (r, σr) → W p l e (rmk 3) s m args below meth c H locs 0 0 (MQ below (QCi D (wM g σr) r (in32 r ∧ R32 σr) (va_A (wM g σ) sz)) args s 0 0 (va_A (wM g σ) sz)) (F0 m 182 ls []) := by
            intro s16 hR x17 i_x17 H locs ls hE hl h
            have h := (congrFun (congrFun e_k18 s16) x17).symm.trans h
            refine lv_iload_n C0.1 C0.2.1 dX8_readsTree_182 rfl (lv_at hl 1 rfl) ?_
            refine lv_iconst (v := I (-1)) C0.1 C0.2.1 dX8_readsTree_183 rfl ?_
            refine x_icmp_ne C0 i_x17 lit_m1 dX8_readsTree_184 (tgt := 204) (by decide) (fun c9 => ?_) (fun c9 => ?_)
            · have h := ite_f c9 h
              refine lv_iconst (v := I 1) C0.1 C0.2.1 dX8_readsTree_204 rfl ?_
              refine lv_istore_n (lv' := [(2, .int (I 1)), (0, .ref (g.2 100)), (1, .int (I x17))]) C0.1 C0.2.1 dX8_readsTree_205 rfl hl (by decide) rfl (fun ls hl => ?_)
              refine x_goto C0 dX8_readsTree_206 (tgt := 9) (by decide) ?_
              exact ih10 s16 hR x17 i_x17 1 lit_1 _ _ _ hE (lv_sub hl [1, 2, 0] rfl) h
            · have h := ite_t c9 h
              exact h_k3 s16 hR _ _ _ hE (lv_sub hl [0] rfl) h
          have hL134 : ∀ (n : Nat) (s21 : St) (hR : R32 s21) (x19 : Int) (i_x19 : in32 x19) (x20 : Int) (i_x20 : in32 x20) (H : Heap) (locs : List Loc) (ls : Array Slot), EW D (va_A (wM g σ) sz) s.heap (wM g s21) H locs → lv_has ls 4 [(0, .ref (g.2 100)), (1, .int (I x19)), (2, .int (I x20))] → M_readsTree_L134 k18 n s21 x19 x20 = some (r, σr) → W p l e (rmk 3) s m args below meth c H locs 0 0 (MQ below (QCi D (wM g σr) r (in32 r ∧ R32 σr) (va_A (wM g σ) sz)) args s 0 0 (va_A (wM g σ) sz)) (F0 m 134 ls []) := by
            intro n
            induction n with
            | zero => intros; rename_i h; cases h
            | succ n ih22 =>
              intro s21 hR x19 i_x19 x20 i_x20 H locs ls hE hl h
              unfold M_readsTree_L134 at h
              refine lv_iload_n C0.1 C0.2.1 dX8_readsTree_134 rfl (lv_at hl 1 rfl) ?_
              refine lv_iconst (v := I (-1)) C0.1 C0.2.1 dX8_readsTree_135 rfl ?_
              refine x_icmp_eq C0 i_x19 lit_m1 dX8_readsTree_136 (tgt := 182) (by decide) (fun c9 => ?_) (fun c9 => ?_)
              · have h := ite_t c9 h
                exact h_k18 s21 hR x19 i_x19 _ _ _ hE (lv_sub hl [0, 1] rfl) h
              · have h := ite_f c9 h
                refine lv_iload_n C0.1 C0.2.1 dX8_readsTree_139 rfl (lv_at hl 2 rfl) ?_
                refine lv_iconst (v := I 1) C0.1 C0.2.1 dX8_readsTree_140 rfl ?_
                refine x_icmp_ne C0 i_x20 lit_1 dX8_readsTree_141 (tgt := 182) (by decide) (fun c9 => ?_) (fun c9 => ?_)
                · have h := ite_f c9 h
                  exact h_k18 s21 hR x19 i_x19 _ _ _ hE (lv_sub hl [0, 1] rfl) h
                · have h := ite_t c9 h
                  refine lv_aload_n C0.1 C0.2.1 dX8_readsTree_144 rfl (lv_at hl 0 rfl) ?_
                  obtain ⟨v23, h_v23, h⟩ := bndp_s h
                  refine callV_i (rest := []) C0 hml hE (M_rec C0 hE) (c_M_here l D g hR h_v23) kw_X8_113 ⟨Nat.le_of_ble_eq_true rfl, Nat.le_of_ble_eq_true rfl⟩ rfl hl.1 rfl (Nat.le_of_ble_eq_true rfl) dX8_readsTree_145 ⟨Nat.zero_le _, Nat.zero_le _⟩ (fun H locs hE i_v23 => ?_)
                  refine lv_bipush (v := I 41) C0.1 C0.2.1 dX8_readsTree_148 (by decide +kernel) ?_
                  refine x_icmp_eq C0 i_v23 lit_41 dX8_readsTree_150 (tgt := 155) (by decide) (fun c9 => ?_) (fun c9 => ?_)
                  · have h := ite_t c9 h
                    refine lv_aload_n C0.1 C0.2.1 dX8_readsTree_155 rfl (lv_at hl 0 rfl) ?_
                    refine lv_dup C0.1 C0.2.1 dX8_readsTree_156 rfl ?_
                    obtain ⟨v24, e_v24, i_v24, h⟩ := gf_s hR h
                    refine M_g_at C0 hE e_v24 fk_X8_110 dX8_readsTree_157 ?_
                    refine lv_iconst (v := I 1) C0.1 C0.2.1 dX8_readsTree_160 rfl ?_
                    obtain ⟨v25, e_v25, i_v25, h⟩ := oadd_s h
                    refine x_add C0 e_v25 dX8_readsTree_161 ?_
                    obtain ⟨s26, e_s26, hR, h⟩ := pf_s hR i_v25 h
                    refine M_p_at C0 hE e_s26 fk_X8_110 dX8_readsTree_162 (fun H locs hE => ?_)
                    refine lv_aload_n C0.1 C0.2.1 dX8_readsTree_165 rfl (lv_at hl 0 rfl) ?_
                    refine M_g_toldSide C0 hE fk_X8_43 dX8_readsTree_166 ?_
                    refine lv_iload_n C0.1 C0.2.1 dX8_readsTree_169 rfl (lv_at hl 1 rfl) ?_
                    obtain ⟨v27, e_v27, i_v27, h⟩ := rd_s hR h
                    refine M_toldSide_l C0 hE i_x19 e_v27 dX8_readsTree_170 ?_
                    refine lv_istore_n (lv' := [(2, .int (I v27)), (0, .ref (g.2 100)), (1, .int (I x19))]) C0.1 C0.2.1 dX8_readsTree_171 rfl hl (by decide) rfl (fun ls hl => ?_)
                    refine lv_aload_n C0.1 C0.2.1 dX8_readsTree_172 rfl (lv_at hl 1 rfl) ?_
                    refine M_g_toldAbove C0 hE fk_X8_40 dX8_readsTree_173 ?_
                    refine lv_iload_n C0.1 C0.2.1 dX8_readsTree_176 rfl (lv_at hl 2 rfl) ?_
                    obtain ⟨v28, e_v28, i_v28, h⟩ := rd_s hR h
                    refine M_toldAbove_l C0 hE i_x19 e_v28 dX8_readsTree_177 ?_
                    refine lv_istore_n (lv' := [(1, .int (I v28)), (2, .int (I v27)), (0, .ref (g.2 100))]) C0.1 C0.2.1 dX8_readsTree_178 rfl hl (by decide) rfl (fun ls hl => ?_)
                    refine x_goto C0 dX8_readsTree_179 (tgt := 134) (by decide) ?_
                    exact ih22 s26 hR v28 i_v28 v27 i_v27 _ _ _ hE (lv_sub hl [2, 0, 1] rfl) h
                  · have h := ite_f c9 h
                    refine lv_iconst (v := I 0) C0.1 C0.2.1 dX8_readsTree_153 rfl ?_
                    exact ret_z (wf := wM g) C0 hr hlk hE (Or.inl rfl) h hR dX8_readsTree_154
          exact hL134 FU s15 hR x7 i_x7 x8 i_x8 _ _ _ hE (lv_sub hl [0, 1, 2] rfl) h
        · have h := ite_f c9 h
          refine lv_iconst (v := I 0) C0.1 C0.2.1 dX8_readsTree_122 rfl ?_
          exact ret_z (wf := wM g) C0 hr hlk hE (Or.inl rfl) h hR dX8_readsTree_123
      · have h := ite_t c9 h
        refine lv_aload_n C0.1 C0.2.1 dX8_readsTree_18 rfl (lv_at hl 0 rfl) ?_
        obtain ⟨v29, e_v29, i_v29, h⟩ := gf_s hR h
        refine M_g_toldMany C0 hE e_v29 fk_X8_141 dX8_readsTree_19 ?_
        refine lv_istore_n (lv' := [(3, .int (I v29)), (0, .ref (g.2 100)), (1, .int (I x7)), (2, .int (I x8))]) C0.1 C0.2.1 dX8_readsTree_22 rfl hl (by decide) rfl (fun ls hl => ?_)
        refine lv_aload_n C0.1 C0.2.1 dX8_readsTree_23 rfl (lv_at hl 1 rfl) ?_
        refine M_g_toldAt C0 hE fk_X8_34 dX8_readsTree_24 ?_
        refine lv_iload_n C0.1 C0.2.1 dX8_readsTree_27 rfl (lv_at hl 0 rfl) ?_
        refine lv_aload_n C0.1 C0.2.1 dX8_readsTree_28 rfl (lv_at hl 1 rfl) ?_
        obtain ⟨v30, e_v30, i_v30, h⟩ := gf_s hR h
        refine M_g_at C0 hE e_v30 fk_X8_110 dX8_readsTree_29 ?_
        obtain ⟨s31, e_s31, hR, h⟩ := wr_s hR i_v30 h
        refine M_toldAt_st C0 hE i_v29 e_s31 dX8_readsTree_32 (fun H locs hE => ?_)
        refine lv_aload_n C0.1 C0.2.1 dX8_readsTree_33 rfl (lv_at hl 1 rfl) ?_
        refine M_g_toldAbove C0 hE fk_X8_40 dX8_readsTree_34 ?_
        refine lv_iload_n C0.1 C0.2.1 dX8_readsTree_37 rfl (lv_at hl 0 rfl) ?_
        refine lv_iload_n C0.1 C0.2.1 dX8_readsTree_38 rfl (lv_at hl 2 rfl) ?_
        obtain ⟨s32, e_s32, hR, h⟩ := wr_s hR i_x7 h
        refine M_toldAbove_st C0 hE i_v29 e_s32 dX8_readsTree_39 (fun H locs hE => ?_)
        refine lv_aload_n C0.1 C0.2.1 dX8_readsTree_40 rfl (lv_at hl 1 rfl) ?_
        refine M_g_toldSide C0 hE fk_X8_43 dX8_readsTree_41 ?_
        refine lv_iload_n C0.1 C0.2.1 dX8_readsTree_44 rfl (lv_at hl 0 rfl) ?_
        refine lv_iload_n C0.1 C0.2.1 dX8_readsTree_45 rfl (lv_at hl 3 rfl) ?_
        obtain ⟨s33, e_s33, hR, h⟩ := wr_s hR i_x8 h
        refine M_toldSide_st C0 hE i_v29 e_s33 dX8_readsTree_46 (fun H locs hE => ?_)
        refine lv_aload_n C0.1 C0.2.1 dX8_readsTree_47 rfl (lv_at hl 1 rfl) ?_
        refine M_g_toldSides C0 hE fk_X8_46 dX8_readsTree_48 ?_
        refine lv_iconst (v := I 2) C0.1 C0.2.1 dX8_readsTree_51 rfl ?_
        refine lv_iload_n C0.1 C0.2.1 dX8_readsTree_52 rfl (lv_at hl 0 rfl) ?_
        obtain ⟨v34, e_v34, i_v34, h⟩ := omul_s h
        refine x_mul C0 e_v34 dX8_readsTree_53 ?_
        refine lv_iconst (v := I 0) C0.1 C0.2.1 dX8_readsTree_54 rfl ?_
        obtain ⟨s35, e_s35, hR, h⟩ := wr_s hR lit_0 h
        refine M_toldSides_st C0 hE i_v34 e_s35 dX8_readsTree_55 (fun H locs hE => ?_)
        refine lv_aload_n C0.1 C0.2.1 dX8_readsTree_56 rfl (lv_at hl 1 rfl) ?_
        refine M_g_toldSides C0 hE fk_X8_46 dX8_readsTree_57 ?_
        refine lv_iconst (v := I 2) C0.1 C0.2.1 dX8_readsTree_60 rfl ?_
        refine lv_iload_n C0.1 C0.2.1 dX8_readsTree_61 rfl (lv_at hl 0 rfl) ?_
        obtain ⟨v36, e_v36, i_v36, h⟩ := omul_s h
        refine x_mul C0 e_v36 dX8_readsTree_62 ?_
        refine lv_iconst (v := I 1) C0.1 C0.2.1 dX8_readsTree_63 rfl ?_
        obtain ⟨v37, e_v37, i_v37, h⟩ := oadd_s h
        refine x_add C0 e_v37 dX8_readsTree_64 ?_
        refine lv_iconst (v := I 0) C0.1 C0.2.1 dX8_readsTree_65 rfl ?_
        obtain ⟨s38, e_s38, hR, h⟩ := wr_s hR lit_0 h
        refine M_toldSides_st C0 hE i_v37 e_s38 dX8_readsTree_66 (fun H locs hE => ?_)
        refine lv_aload_n C0.1 C0.2.1 dX8_readsTree_67 rfl (lv_at hl 1 rfl) ?_
        refine lv_dup C0.1 C0.2.1 dX8_readsTree_68 rfl ?_
        obtain ⟨v39, e_v39, i_v39, h⟩ := gf_s hR h
        refine M_g_toldMany C0 hE e_v39 fk_X8_141 dX8_readsTree_69 ?_
        refine lv_iconst (v := I 1) C0.1 C0.2.1 dX8_readsTree_72 rfl ?_
        obtain ⟨v40, e_v40, i_v40, h⟩ := oadd_s h
        refine x_add C0 e_v40 dX8_readsTree_73 ?_
        obtain ⟨s41, e_s41, hR, h⟩ := pf_s hR i_v40 h
        refine M_p_toldMany C0 hE e_s41 fk_X8_141 dX8_readsTree_74 (fun H locs hE => ?_)
        refine lv_aload_n C0.1 C0.2.1 dX8_readsTree_77 rfl (lv_at hl 1 rfl) ?_
        refine lv_dup C0.1 C0.2.1 dX8_readsTree_78 rfl ?_
        obtain ⟨v42, e_v42, i_v42, h⟩ := gf_s hR h
        refine M_g_at C0 hE e_v42 fk_X8_110 dX8_readsTree_79 ?_
        refine lv_iconst (v := I 1) C0.1 C0.2.1 dX8_readsTree_82 rfl ?_
        obtain ⟨v43, e_v43, i_v43, h⟩ := oadd_s h
        refine x_add C0 e_v43 dX8_readsTree_83 ?_
        obtain ⟨s44, e_s44, hR, h⟩ := pf_s hR i_v43 h
        refine M_p_at C0 hE e_s44 fk_X8_110 dX8_readsTree_84 (fun H locs hE => ?_)
        refine lv_aload_n C0.1 C0.2.1 dX8_readsTree_87 rfl (lv_at hl 1 rfl) ?_
        obtain ⟨v45, s46, h_v45, h⟩ := bnd_s h
        refine callV_i (rest := []) C0 hml hE (M_rec C0 hE) (c_M_readsNumber l D g hR h_v45) kw_X8_124 ⟨Nat.le_of_ble_eq_true rfl, Nat.le_of_ble_eq_true rfl⟩ rfl hl.1 rfl (Nat.le_of_ble_eq_true rfl) dX8_readsTree_88 ⟨Nat.zero_le _, Nat.zero_le _⟩ (fun H locs hE ⟨i_v45, hR⟩ => ?_)
        refine x_if_ne C0 i_v45 dX8_readsTree_91 (tgt := 96) (by decide) (fun c9 => ?_) (fun c9 => ?_)
        · have h := ite_f c9 h
          refine lv_aload_n C0.1 C0.2.1 dX8_readsTree_96 rfl (lv_at hl 1 rfl) ?_
          refine M_g_toldNumber C0 hE fk_X8_37 dX8_readsTree_97 ?_
          refine lv_iload_n C0.1 C0.2.1 dX8_readsTree_100 rfl (lv_at hl 0 rfl) ?_
          refine lv_aload_n C0.1 C0.2.1 dX8_readsTree_101 rfl (lv_at hl 1 rfl) ?_
          obtain ⟨v47, e_v47, i_v47, h⟩ := gf_s hR h
          refine M_g_read C0 hE e_v47 fk_X8_121 dX8_readsTree_102 ?_
          obtain ⟨s48, e_s48, hR, h⟩ := wr_s hR i_v47 h
          refine M_toldNumber_st C0 hE i_v29 e_s48 dX8_readsTree_105 (fun H locs hE => ?_)
          refine lv_iload_n C0.1 C0.2.1 dX8_readsTree_106 rfl (lv_at hl 0 rfl) ?_
          refine lv_istore_n (lv' := [(1, .int (I v29)), (3, .int (I v29)), (0, .ref (g.2 100)), (2, .int (I x8))]) C0.1 C0.2.1 dX8_readsTree_107 rfl hl (by decide) rfl (fun ls hl => ?_)
          refine lv_iconst (v := I 0) C0.1 C0.2.1 dX8_readsTree_108 rfl ?_
          refine lv_istore_n (lv' := [(2, .int (I 0)), (1, .int (I v29)), (3, .int (I v29)), (0, .ref (g.2 100))]) C0.1 C0.2.1 dX8_readsTree_109 rfl hl (by decide) rfl (fun ls hl => ?_)
          refine x_goto C0 dX8_readsTree_110 (tgt := 9) (by decide) ?_
          exact ih10 s48 hR v29 i_v29 0 lit_0 _ _ _ hE (lv_sub hl [3, 1, 0] rfl) h
        · have h := ite_t c9 h
          refine lv_iconst (v := I 0) C0.1 C0.2.1 dX8_readsTree_94 rfl ?_
          exact ret_z (wf := wM g) C0 hr hlk hE (Or.inl rfl) h hR dX8_readsTree_95
  exact hL9 FU s1 hR (-1) lit_m1 0 lit_0 _ _ _ hE (lv_sub hl [2, 1, 0] rfl) h
set_option maxRecDepth 100000 in
set_option maxHeartbeats 4000000 in
theorem c_M_tell (l : Launch) (D : va_G) (g : Ad) {σ σr : St} {p1 r : Int} (hR : R32 σ) (i_p1 : in64 p1) (h : M_tell σ p1 = some (r, σr)) : CtV l D g yX8_tell cX8_tell 3 none 1 (wM g σ) (wM g σr) [.ref (g.2 100), .long (J p1)] (R32 σr) := by
  intro sz
  refine met_of (by decide) (Nat.le_of_ble_eq_true rfl) (fun p e s m args below meth c ls H locs C0 hml hr hlk hE hl => ?_)
  have C0 : CX p c cX8_tell m s args D g RX8 := C0
  have hl : lv_has ls 3 [(0, .ref (g.2 100)), (1, .long (J p1))] := hl
  unfold M_tell at h
  refine lv_aload_n C0.1 C0.2.1 dX8_tell_0 rfl (lv_at hl 0 rfl) ?_
  refine M_g_row C0 hE fk_X8_23 dX8_tell_1 ?_
  refine lv_aload_n C0.1 C0.2.1 dX8_tell_4 rfl (lv_at hl 0 rfl) ?_
  obtain ⟨v1, e_v1, i_v1, h⟩ := gf_s hR h
  refine M_g_rowMany C0 hE e_v1 fk_X8_59 dX8_tell_5 ?_
  refine lv_lload_n C0.1 C0.2.1 dX8_tell_8 rfl (lv_at hl 1 rfl) ?_
  obtain ⟨s2, e_s2, hR, h⟩ := wrL_s hR h
  refine M_row_st C0 hE i_v1 e_s2 dX8_tell_9 (fun H locs hE => ?_)
  refine lv_aload_n C0.1 C0.2.1 dX8_tell_10 rfl (lv_at hl 0 rfl) ?_
  refine lv_dup C0.1 C0.2.1 dX8_tell_11 rfl ?_
  obtain ⟨v3, e_v3, i_v3, h⟩ := gf_s hR h
  refine M_g_rowMany C0 hE e_v3 fk_X8_59 dX8_tell_12 ?_
  refine lv_iconst (v := I 1) C0.1 C0.2.1 dX8_tell_15 rfl ?_
  obtain ⟨v4, e_v4, i_v4, h⟩ := oadd_s h
  refine x_add C0 e_v4 dX8_tell_16 ?_
  obtain ⟨s5, e_s5, hR, h⟩ := pf_s hR i_v4 h
  refine M_p_rowMany C0 hE e_s5 fk_X8_59 dX8_tell_17 (fun H locs hE => ?_)
  exact ret_v (wf := wM g) C0 hr hlk hE h hR dX8_tell_20
set_option maxRecDepth 100000 in
set_option maxHeartbeats 4000000 in
theorem c_M_unevenTold (l : Launch) (D : va_G) (g : Ad) {σ σr : St} {r : Int} (hR : R32 σ) (h : M_unevenTold σ = some (r, σr)) : CtI l D g yX8_unevenTold cX8_unevenTold 5 (some .int) 1 (wM g σ) (wM g σr) [.ref (g.2 100)] r (in32 r ∧ R32 σr) := by
  intro sz
  refine met_of (by decide) (Nat.le_of_ble_eq_true rfl) (fun p e s m args below meth c ls H locs C0 hml hr hlk hE hl => ?_)
  have C0 : CX p c cX8_unevenTold m s args D g RX8 := C0
  have hl : lv_has ls 5 [(0, .ref (g.2 100))] := hl
  unfold M_unevenTold at h
  refine lv_iconst (v := I (-1)) C0.1 C0.2.1 dX8_unevenTold_0 rfl ?_
  refine lv_istore_n (lv' := [(1, .int (I (-1))), (0, .ref (g.2 100))]) C0.1 C0.2.1 dX8_unevenTold_1 rfl hl (by decide) rfl (fun ls hl => ?_)
  refine lv_aload_n C0.1 C0.2.1 dX8_unevenTold_2 rfl (lv_at hl 1 rfl) ?_
  obtain ⟨v1, e_v1, i_v1, h⟩ := gf_s hR h
  refine M_g_toldMany C0 hE e_v1 fk_X8_141 dX8_unevenTold_3 ?_
  refine lv_iconst (v := I 1) C0.1 C0.2.1 dX8_unevenTold_6 rfl ?_
  obtain ⟨v2, e_v2, i_v2, h⟩ := osub_s h
  refine x_sub C0 e_v2 dX8_unevenTold_7 ?_
  refine lv_istore_n (lv' := [(2, .int (I v2)), (1, .int (I (-1))), (0, .ref (g.2 100))]) C0.1 C0.2.1 dX8_unevenTold_8 rfl hl (by decide) rfl (fun ls hl => ?_)
  have hL9 : ∀ (n : Nat) (s5 : St) (hR : R32 s5) (x3 : Int) (i_x3 : in32 x3) (x4 : Int) (i_x4 : in32 x4) (H : Heap) (locs : List Loc) (ls : Array Slot), EW D (va_A (wM g σ) sz) s.heap (wM g s5) H locs → lv_has ls 5 [(0, .ref (g.2 100)), (1, .int (I x3)), (2, .int (I x4))] → M_unevenTold_L9 n s5 x3 x4 = some (r, σr) → W p l e (rmk 1) s m args below meth c H locs 0 0 (MQ below (QCi D (wM g σr) r (in32 r ∧ R32 σr) (va_A (wM g σ) sz)) args s 0 0 (va_A (wM g σ) sz)) (F0 m 9 ls []) := by
    intro n
    induction n with
    | zero => intros; rename_i h; cases h
    | succ n ih6 =>
      intro s5 hR x3 i_x3 x4 i_x4 H locs ls hE hl h
      unfold M_unevenTold_L9 at h
      refine lv_iload_n C0.1 C0.2.1 dX8_unevenTold_9 rfl (lv_at hl 2 rfl) ?_
      refine x_if_lt C0 i_x4 dX8_unevenTold_10 (tgt := 92) (by decide) (fun c9 => ?_) (fun c9 => ?_)
      · have h := ite_t c9 h
        refine lv_iload_n C0.1 C0.2.1 dX8_unevenTold_92 rfl (lv_at hl 1 rfl) ?_
        exact ret_i (wf := wM g) C0 hr hlk hE h i_x3 hR dX8_unevenTold_93
      · have h := ite_f c9 h
        refine lv_aload_n C0.1 C0.2.1 dX8_unevenTold_13 rfl (lv_at hl 0 rfl) ?_
        refine M_g_toldSides C0 hE fk_X8_46 dX8_unevenTold_14 ?_
        refine lv_iconst (v := I 2) C0.1 C0.2.1 dX8_unevenTold_17 rfl ?_
        refine lv_iload_n C0.1 C0.2.1 dX8_unevenTold_18 rfl (lv_at hl 2 rfl) ?_
        obtain ⟨v7, e_v7, i_v7, h⟩ := omul_s h
        refine x_mul C0 e_v7 dX8_unevenTold_19 ?_
        obtain ⟨v8, e_v8, i_v8, h⟩ := rd_s hR h
        refine M_toldSides_l C0 hE i_v7 e_v8 dX8_unevenTold_20 ?_
        refine lv_istore_n (lv' := [(3, .int (I v8)), (0, .ref (g.2 100)), (1, .int (I x3)), (2, .int (I x4))]) C0.1 C0.2.1 dX8_unevenTold_21 rfl hl (by decide) rfl (fun ls hl => ?_)
        refine lv_aload_n C0.1 C0.2.1 dX8_unevenTold_22 rfl (lv_at hl 1 rfl) ?_
        refine M_g_toldSides C0 hE fk_X8_46 dX8_unevenTold_23 ?_
        refine lv_iconst (v := I 2) C0.1 C0.2.1 dX8_unevenTold_26 rfl ?_
        refine lv_iload_n C0.1 C0.2.1 dX8_unevenTold_27 rfl (lv_at hl 3 rfl) ?_
        obtain ⟨v9, e_v9, i_v9, h⟩ := omul_s h
        refine x_mul C0 e_v9 dX8_unevenTold_28 ?_
        refine lv_iconst (v := I 1) C0.1 C0.2.1 dX8_unevenTold_29 rfl ?_
        obtain ⟨v10, e_v10, i_v10, h⟩ := oadd_s h
        refine x_add C0 e_v10 dX8_unevenTold_30 ?_
        obtain ⟨v11, e_v11, i_v11, h⟩ := rd_s hR h
        refine M_toldSides_l C0 hE i_v10 e_v11 dX8_unevenTold_31 ?_
        refine lv_istore (lv' := [(4, .int (I v11)), (3, .int (I v8)), (0, .ref (g.2 100)), (1, .int (I x3)), (2, .int (I x4))]) C0.1 C0.2.1 dX8_unevenTold_32 hl (by decide) rfl (fun ls hl => ?_)
        refine lv_iload_n C0.1 C0.2.1 dX8_unevenTold_34 rfl (lv_at hl 1 rfl) ?_
        refine lv_iload C0.1 C0.2.1 dX8_unevenTold_35 (lv_at hl 0 rfl) ?_
        obtain ⟨k13, e_k13, h⟩ := jn_s h
        have h_k13 : ∀ (x12 : Int) (i_x12 : in32 x12) (H : Heap) (locs : List Loc) (ls : Array Slot), EW D (va_A (wM g σ) sz) s.heap (wM g s5) H locs → lv_has ls 5 [(0, .ref (g.2 100)), (1, .int (I x12)), (2, .int (I x4)), (3, .int (I v8)), (4, .int (I v11))] → k13 x12 = some (r, σr) → W p l e (rmk 1) s m args below meth c H locs 0 0 (MQ below (QCi D (wM g σr) r (in32 r ∧ R32 σr) (va_A (wM g σ) sz)) args s 0 0 (va_A (wM g σ) sz)) (F0 m 50 ls []) := by
          intro x12 i_x12 H locs ls hE hl h
          have h := (congrFun e_k13 x12).symm.trans h
          refine lv_aload_n C0.1 C0.2.1 dX8_unevenTold_50 rfl (lv_at hl 0 rfl) ?_
          refine M_g_toldAbove C0 hE fk_X8_40 dX8_unevenTold_51 ?_
          refine lv_iload_n C0.1 C0.2.1 dX8_unevenTold_54 rfl (lv_at hl 2 rfl) ?_
          obtain ⟨v14, e_v14, i_v14, h⟩ := rd_s hR h
          refine M_toldAbove_l C0 hE i_x4 e_v14 dX8_unevenTold_55 ?_
          refine lv_iconst (v := I (-1)) C0.1 C0.2.1 dX8_unevenTold_56 rfl ?_
          obtain ⟨k16, e_k16, h⟩ := jn_s h
          have h_k16 : ∀ (s15 : St) (hR : R32 s15) (H : Heap) (locs : List Loc) (ls : Array Slot), EW D (va_A (wM g σ) sz) s.heap (wM g s15) H locs → lv_has ls 5 [(0, .ref (g.2 100)), (1, .int (I x12)), (2, .int (I x4))] → k16 s15 = some (r, σr) → W p l e (rmk 1) s m args below meth c H locs 0 0 (MQ below (QCi D (wM g σr) r (in32 r ∧ R32 σr) (va_A (wM g σ) sz)) args s 0 0 (va_A (wM g σ) sz)) (F0 m 86 ls []) := by
            intro s15 hR H locs ls hE hl h
            have h := (congrFun e_k16 s15).symm.trans h
            obtain ⟨v17, e_v17, i_v17, h⟩ := oadd_s h
            refine x_iinc (lv' := [(2, .int (I v17)), (0, .ref (g.2 100)), (1, .int (I x12))]) C0 dX8_unevenTold_86 hl (k := 2) rfl e_v17 (by decide) rfl (fun ls hl => ?_)
            refine x_goto C0 dX8_unevenTold_89 (tgt := 9) (by decide) ?_
            exact ih6 s15 hR x12 i_x12 v17 i_v17 _ _ _ hE (lv_sub hl [1, 2, 0] rfl) h
          refine x_icmp_eq C0 i_v14 lit_m1 dX8_unevenTold_57 (tgt := 86) (by decide) (fun c9 => ?_) (fun c9 => ?_)
          · have h := ite_t c9 h
            exact h_k16 s5 hR _ _ _ hE (lv_sub hl [0, 1, 2] rfl) h
          · have h := ite_f c9 h
            refine lv_aload_n C0.1 C0.2.1 dX8_unevenTold_60 rfl (lv_at hl 0 rfl) ?_
            refine M_g_toldSides C0 hE fk_X8_46 dX8_unevenTold_61 ?_
            refine lv_iconst (v := I 2) C0.1 C0.2.1 dX8_unevenTold_64 rfl ?_
            refine lv_aload_n C0.1 C0.2.1 dX8_unevenTold_65 rfl (lv_at hl 0 rfl) ?_
            refine M_g_toldAbove C0 hE fk_X8_40 dX8_unevenTold_66 ?_
            refine lv_iload_n C0.1 C0.2.1 dX8_unevenTold_69 rfl (lv_at hl 2 rfl) ?_
            obtain ⟨v18, e_v18, i_v18, h⟩ := rd_s hR h
            refine M_toldAbove_l C0 hE i_x4 e_v18 dX8_unevenTold_70 ?_
            obtain ⟨v19, e_v19, i_v19, h⟩ := omul_s h
            refine x_mul C0 e_v19 dX8_unevenTold_71 ?_
            refine lv_aload_n C0.1 C0.2.1 dX8_unevenTold_72 rfl (lv_at hl 0 rfl) ?_
            refine M_g_toldSide C0 hE fk_X8_43 dX8_unevenTold_73 ?_
            refine lv_iload_n C0.1 C0.2.1 dX8_unevenTold_76 rfl (lv_at hl 2 rfl) ?_
            obtain ⟨v20, e_v20, i_v20, h⟩ := rd_s hR h
            refine M_toldSide_l C0 hE i_x4 e_v20 dX8_unevenTold_77 ?_
            obtain ⟨v21, e_v21, i_v21, h⟩ := oadd_s h
            refine x_add C0 e_v21 dX8_unevenTold_78 ?_
            refine lv_iload_n C0.1 C0.2.1 dX8_unevenTold_79 rfl (lv_at hl 3 rfl) ?_
            refine lv_iload C0.1 C0.2.1 dX8_unevenTold_80 (lv_at hl 4 rfl) ?_
            obtain ⟨v22, e_v22, i_v22, h⟩ := oadd_s h
            refine x_add C0 e_v22 dX8_unevenTold_82 ?_
            refine lv_iconst (v := I 1) C0.1 C0.2.1 dX8_unevenTold_83 rfl ?_
            obtain ⟨v23, e_v23, i_v23, h⟩ := oadd_s h
            refine x_add C0 e_v23 dX8_unevenTold_84 ?_
            obtain ⟨s24, e_s24, hR, h⟩ := wr_s hR i_v23 h
            refine M_toldSides_st C0 hE i_v21 e_s24 dX8_unevenTold_85 (fun H locs hE => ?_)
            exact h_k16 s24 hR _ _ _ hE (lv_sub hl [0, 1, 2] rfl) h
        refine x_icmp_eq C0 i_v8 i_v11 dX8_unevenTold_37 (tgt := 50) (by decide) (fun c9 => ?_) (fun c9 => ?_)
        · have h := ite_t c9 h
          exact h_k13 x3 i_x3 _ _ _ hE (lv_sub hl [2, 3, 4, 1, 0] rfl) h
        · have h := ite_f c9 h
          refine lv_iload_n C0.1 C0.2.1 dX8_unevenTold_40 rfl (lv_at hl 1 rfl) ?_
          refine lv_iload C0.1 C0.2.1 dX8_unevenTold_41 (lv_at hl 0 rfl) ?_
          refine lv_iconst (v := I 1) C0.1 C0.2.1 dX8_unevenTold_43 rfl ?_
          obtain ⟨v25, e_v25, i_v25, h⟩ := oadd_s h
          refine x_add C0 e_v25 dX8_unevenTold_44 ?_
          refine x_icmp_eq C0 i_v8 i_v25 dX8_unevenTold_45 (tgt := 50) (by decide) (fun c9 => ?_) (fun c9 => ?_)
          · have h := ite_t c9 h
            exact h_k13 x3 i_x3 _ _ _ hE (lv_sub hl [2, 3, 4, 1, 0] rfl) h
          · have h := ite_f c9 h
            refine lv_iload_n C0.1 C0.2.1 dX8_unevenTold_48 rfl (lv_at hl 4 rfl) ?_
            refine lv_istore_n (lv' := [(1, .int (I x4)), (4, .int (I v11)), (3, .int (I v8)), (0, .ref (g.2 100)), (2, .int (I x4))]) C0.1 C0.2.1 dX8_unevenTold_49 rfl hl (by decide) rfl (fun ls hl => ?_)
            exact h_k13 x4 i_x4 _ _ _ hE (lv_sub hl [3, 0, 4, 2, 1] rfl) h
  exact hL9 FU σ hR (-1) lit_m1 v2 i_v2 _ _ _ hE (lv_sub hl [2, 1, 0] rfl) h
set_option maxRecDepth 100000 in
set_option maxHeartbeats 4000000 in
theorem c_M_grows (l : Launch) (D : va_G) (g : Ad) {σ σr : St} {p1 r : Int} (hR : R32 σ) (i_p1 : in32 p1) (h : M_grows σ p1 = some (r, σr)) : CtI l D g yX8_grows cX8_grows 5 (some .int) 4 (wM g σ) (wM g σr) [.ref (g.2 100), .int (I p1)] r (in32 r ∧ R32 σr) := by
  intro sz
  refine met_of (by decide) (Nat.le_of_ble_eq_true rfl) (fun p e s m args below meth c ls H locs C0 hml hr hlk hE hl => ?_)
  have C0 : CX p c cX8_grows m s args D g RX8 := C0
  have hl : lv_has ls 5 [(0, .ref (g.2 100)), (1, .int (I p1))] := hl
  unfold M_grows at h
  refine lv_aload_n C0.1 C0.2.1 dX8_grows_0 rfl (lv_at hl 0 rfl) ?_
  refine lv_iconst (v := I 0) C0.1 C0.2.1 dX8_grows_1 rfl ?_
  obtain ⟨s1, e_s1, hR, h⟩ := pf_s hR lit_0 h
  refine M_p_thrown C0 hE e_s1 fk_X8_55 dX8_grows_2 (fun H locs hE => ?_)
  refine lv_aload_n C0.1 C0.2.1 dX8_grows_5 rfl (lv_at hl 0 rfl) ?_
  obtain ⟨v2, s3, h_v2, h⟩ := bnd_s h
  refine callV_v (rest := []) C0 hml hE (M_rec C0 hE) (c_M_begin l D g hR h_v2) kw_X8_128 ⟨Nat.le_of_ble_eq_true rfl, Nat.le_of_ble_eq_true rfl⟩ rfl hl.1 rfl (Nat.le_of_ble_eq_true rfl) dX8_grows_6 ⟨Nat.zero_le _, Nat.zero_le _⟩ (fun H locs hE hR => ?_)
  refine lv_aload_n C0.1 C0.2.1 dX8_grows_9 rfl (lv_at hl 0 rfl) ?_
  obtain ⟨v4, s5, h_v4, h⟩ := bnd_s h
  refine callV_i (rest := []) C0 hml hE (M_rec C0 hE) (c_M_readsTree l D g hR h_v4) kw_X8_144 ⟨Nat.le_of_ble_eq_true rfl, Nat.le_of_ble_eq_true rfl⟩ rfl hl.1 rfl (Nat.le_of_ble_eq_true rfl) dX8_grows_10 ⟨Nat.zero_le _, Nat.zero_le _⟩ (fun H locs hE ⟨i_v4, hR⟩ => ?_)
  refine x_if_ne C0 i_v4 dX8_grows_13 (tgt := 25) (by decide) (fun c9 => ?_) (fun c9 => ?_)
  · have h := ite_f c9 h
    refine lv_iload_n C0.1 C0.2.1 dX8_grows_25 rfl (lv_at hl 1 rfl) ?_
    obtain ⟨v6, h_v6, h⟩ := bndp_s h
    refine callS_i (rest := []) C0 hml hE (c_M_isPlace l D g (σ := s5) i_p1 h_v6) kw_X8_134 ⟨Nat.le_of_ble_eq_true rfl, Nat.le_of_ble_eq_true rfl⟩ rfl hl.1 rfl (Nat.le_of_ble_eq_true rfl) dX8_grows_26 ⟨Nat.zero_le _, Nat.zero_le _⟩ (fun H locs hE i_v6 => ?_)
    refine x_if_ne C0 i_v6 dX8_grows_29 (tgt := 34) (by decide) (fun c9 => ?_) (fun c9 => ?_)
    · have h := ite_f c9 h
      refine lv_aload_n C0.1 C0.2.1 dX8_grows_34 rfl (lv_at hl 0 rfl) ?_
      obtain ⟨v7, s8, h_v7, h⟩ := bnd_s h
      refine callV_i (rest := []) C0 hml hE (M_rec C0 hE) (c_M_unevenTold l D g hR h_v7) kw_X8_147 ⟨Nat.le_of_ble_eq_true rfl, Nat.le_of_ble_eq_true rfl⟩ rfl hl.1 rfl (Nat.le_of_ble_eq_true rfl) dX8_grows_35 ⟨Nat.zero_le _, Nat.zero_le _⟩ (fun H locs hE ⟨i_v7, hR⟩ => ?_)
      refine lv_istore_n (lv' := [(2, .int (I v7)), (0, .ref (g.2 100)), (1, .int (I p1))]) C0.1 C0.2.1 dX8_grows_38 rfl hl (by decide) rfl (fun ls hl => ?_)
      refine lv_iload_n C0.1 C0.2.1 dX8_grows_39 rfl (lv_at hl 0 rfl) ?_
      refine lv_iconst (v := I (-1)) C0.1 C0.2.1 dX8_grows_40 rfl ?_
      refine x_icmp_eq C0 i_v7 lit_m1 dX8_grows_41 (tgt := 91) (by decide) (fun c9 => ?_) (fun c9 => ?_)
      · have h := ite_t c9 h
        refine lv_aload_n C0.1 C0.2.1 dX8_grows_91 rfl (lv_at hl 1 rfl) ?_
        refine M_g_sizes C0 hE fk_X8_16 dX8_grows_92 ?_
        refine lv_bipush (v := I 7) C0.1 C0.2.1 dX8_grows_95 (by decide +kernel) ?_
        refine lv_aload_n C0.1 C0.2.1 dX8_grows_97 rfl (lv_at hl 1 rfl) ?_
        obtain ⟨v9, e_v9, i_v9, h⟩ := gf_s hR h
        refine M_g_toldMany C0 hE e_v9 fk_X8_141 dX8_grows_98 ?_
        obtain ⟨s10, e_s10, hR, h⟩ := wr_s hR i_v9 h
        refine M_sizes_st C0 hE lit_7 e_s10 dX8_grows_101 (fun H locs hE => ?_)
        refine lv_iconst (v := I 0) C0.1 C0.2.1 dX8_grows_102 rfl ?_
        refine lv_istore_n (lv' := [(3, .int (I 0)), (2, .int (I v7)), (0, .ref (g.2 100)), (1, .int (I p1))]) C0.1 C0.2.1 dX8_grows_103 rfl hl (by decide) rfl (fun ls hl => ?_)
        obtain ⟨k12, e_k12, h⟩ := jn_s h
        have h_k12 : ∀ (s11 : St) (hR : R32 s11) (H : Heap) (locs : List Loc) (ls : Array Slot), EW D (va_A (wM g σ) sz) s.heap (wM g s11) H locs → lv_has ls 5 [(0, .ref (g.2 100)), (1, .int (I p1))] → k12 s11 = some (r, σr) → W p l e (rmk 4) s m args below meth c H locs 0 0 (MQ below (QCi D (wM g σr) r (in32 r ∧ R32 σr) (va_A (wM g σ) sz)) args s 0 0 (va_A (wM g σ) sz)) (F0 m 212 ls []) := by
          intro s11 hR H locs ls hE hl h
          have h := (congrFun e_k12 s11).symm.trans h
          refine lv_aload_n C0.1 C0.2.1 dX8_grows_212 rfl (lv_at hl 0 rfl) ?_
          obtain ⟨v13, s14, h_v13, h⟩ := bnd_s h
          refine callV_v (rest := []) C0 hml hE (M_rec C0 hE) (c_M_built l D g hR h_v13) kw_X8_138 ⟨Nat.le_of_ble_eq_true rfl, Nat.le_of_ble_eq_true rfl⟩ rfl hl.1 rfl (Nat.le_of_ble_eq_true rfl) dX8_grows_213 ⟨Nat.zero_le _, Nat.zero_le _⟩ (fun H locs hE hR => ?_)
          refine lv_aload_n C0.1 C0.2.1 dX8_grows_216 rfl (lv_at hl 0 rfl) ?_
          refine lv_bipush (v := I 7) C0.1 C0.2.1 dX8_grows_217 (by decide +kernel) ?_
          refine lv_iload_n C0.1 C0.2.1 dX8_grows_219 rfl (lv_at hl 1 rfl) ?_
          obtain ⟨v15, s16, h_v15, h⟩ := bnd_s h
          refine callV_v (rest := []) C0 hml hE (M_rec C0 hE) (c_M_takes l D g hR lit_7 i_p1 h_v15) kw_X8_82 ⟨Nat.le_of_ble_eq_true rfl, Nat.le_of_ble_eq_true rfl⟩ rfl hl.1 rfl (Nat.le_of_ble_eq_true rfl) dX8_grows_220 ⟨Nat.zero_le _, Nat.zero_le _⟩ (fun H locs hE hR => ?_)
          refine lv_aload_n C0.1 C0.2.1 dX8_grows_223 rfl (lv_at hl 0 rfl) ?_
          refine M_g_sizes C0 hE fk_X8_16 dX8_grows_224 ?_
          refine lv_iload_n C0.1 C0.2.1 dX8_grows_227 rfl (lv_at hl 1 rfl) ?_
          obtain ⟨v17, e_v17, i_v17, h⟩ := rd_s hR h
          refine M_sizes_l C0 hE i_p1 e_v17 dX8_grows_228 ?_
          exact ret_i (wf := wM g) C0 hr hlk hE h i_v17 hR dX8_grows_229
        have hL104 : ∀ (n : Nat) (s19 : St) (hR : R32 s19) (x18 : Int) (i_x18 : in32 x18) (H : Heap) (locs : List Loc) (ls : Array Slot), EW D (va_A (wM g σ) sz) s.heap (wM g s19) H locs → lv_has ls 5 [(0, .ref (g.2 100)), (1, .int (I p1)), (3, .int (I x18))] → M_grows_L104 k12 n s19 x18 = some (r, σr) → W p l e (rmk 4) s m args below meth c H locs 0 0 (MQ below (QCi D (wM g σr) r (in32 r ∧ R32 σr) (va_A (wM g σ) sz)) args s 0 0 (va_A (wM g σ) sz)) (F0 m 104 ls []) := by
          intro n
          induction n with
          | zero => intros; rename_i h; cases h
          | succ n ih20 =>
            intro s19 hR x18 i_x18 H locs ls hE hl h
            unfold M_grows_L104 at h
            refine lv_iload_n C0.1 C0.2.1 dX8_grows_104 rfl (lv_at hl 2 rfl) ?_
            refine lv_aload_n C0.1 C0.2.1 dX8_grows_105 rfl (lv_at hl 0 rfl) ?_
            obtain ⟨v21, e_v21, i_v21, h⟩ := gf_s hR h
            refine M_g_toldMany C0 hE e_v21 fk_X8_141 dX8_grows_106 ?_
            refine x_icmp_ge C0 i_x18 i_v21 dX8_grows_109 (tgt := 212) (by decide) (fun c9 => ?_) (fun c9 => ?_)
            · have h := ite_f c9 h
              exact h_k12 s19 hR _ _ _ hE (lv_sub hl [0, 1] rfl) h
            · have h := ite_t c9 h
              refine lv_aload_n C0.1 C0.2.1 dX8_grows_112 rfl (lv_at hl 0 rfl) ?_
              refine M_g_toldAbove C0 hE fk_X8_40 dX8_grows_113 ?_
              refine lv_iload_n C0.1 C0.2.1 dX8_grows_116 rfl (lv_at hl 2 rfl) ?_
              obtain ⟨v22, e_v22, i_v22, h⟩ := rd_s hR h
              refine M_toldAbove_l C0 hE i_x18 e_v22 dX8_grows_117 ?_
              refine lv_istore (lv' := [(4, .int (I v22)), (0, .ref (g.2 100)), (1, .int (I p1)), (3, .int (I x18))]) C0.1 C0.2.1 dX8_grows_118 hl (by decide) rfl (fun ls hl => ?_)
              refine lv_aload_n C0.1 C0.2.1 dX8_grows_120 rfl (lv_at hl 1 rfl) ?_
              refine M_g_toldIndex C0 hE fk_X8_49 dX8_grows_121 ?_
              refine lv_iload_n C0.1 C0.2.1 dX8_grows_124 rfl (lv_at hl 3 rfl) ?_
              refine lv_iload C0.1 C0.2.1 dX8_grows_125 (lv_at hl 0 rfl) ?_
              refine lv_iconst (v := I (-1)) C0.1 C0.2.1 dX8_grows_127 rfl ?_
              obtain ⟨k24, e_k24, h⟩ := jn_s h
              have h_k24 : ∀ (x23 : Int) (i_x23 : in32 x23) (H : Heap) (locs : List Loc) (ls : Array Slot), EW D (va_A (wM g σ) sz) s.heap (wM g s19) H locs → lv_has ls 5 [(0, .ref (g.2 100)), (1, .int (I p1)), (3, .int (I x18)), (4, .int (I v22))] → k24 x23 = some (r, σr) → W p l e (rmk 4) s m args below meth c H locs 0 0 (MQ below (QCi D (wM g σr) r (in32 r ∧ R32 σr) (va_A (wM g σ) sz)) args s 0 0 (va_A (wM g σ) sz)) (F0 m 159 ls [.int (I x23), .int (I x18), .ref (g.2 113)]) := by
                intro x23 i_x23 H locs ls hE hl h
                have h := (congrFun e_k24 x23).symm.trans h
                obtain ⟨s25, e_s25, hR, h⟩ := wr_s hR i_x23 h
                refine M_toldIndex_st C0 hE i_x18 e_s25 dX8_grows_159 (fun H locs hE => ?_)
                refine lv_aload_n C0.1 C0.2.1 dX8_grows_160 rfl (lv_at hl 0 rfl) ?_
                refine M_g_toldStep C0 hE fk_X8_52 dX8_grows_161 ?_
                refine lv_iload_n C0.1 C0.2.1 dX8_grows_164 rfl (lv_at hl 2 rfl) ?_
                refine lv_iload C0.1 C0.2.1 dX8_grows_165 (lv_at hl 3 rfl) ?_
                refine lv_iconst (v := I (-1)) C0.1 C0.2.1 dX8_grows_167 rfl ?_
                obtain ⟨k27, e_k27, h⟩ := jn_s h
                have h_k27 : ∀ (x26 : Int) (i_x26 : in32 x26) (H : Heap) (locs : List Loc) (ls : Array Slot), EW D (va_A (wM g σ) sz) s.heap (wM g s25) H locs → lv_has ls 5 [(0, .ref (g.2 100)), (1, .int (I p1)), (3, .int (I x18))] → k27 x26 = some (r, σr) → W p l e (rmk 4) s m args below meth c H locs 0 0 (MQ below (QCi D (wM g σr) r (in32 r ∧ R32 σr) (va_A (wM g σ) sz)) args s 0 0 (va_A (wM g σ) sz)) (F0 m 184 ls [.int (I x26), .int (I x18), .ref (g.2 114)]) := by
                  intro x26 i_x26 H locs ls hE hl h
                  have h := (congrFun e_k27 x26).symm.trans h
                  obtain ⟨s28, e_s28, hR, h⟩ := wr_s hR i_x26 h
                  refine M_toldStep_st C0 hE i_x18 e_s28 dX8_grows_184 (fun H locs hE => ?_)
                  refine lv_aload_n C0.1 C0.2.1 dX8_grows_185 rfl (lv_at hl 0 rfl) ?_
                  refine M_g_numbers C0 hE fk_X8_7 dX8_grows_186 ?_
                  refine lv_sipush (v := I 1792) C0.1 C0.2.1 dX8_grows_189 (by decide +kernel) ?_
                  refine lv_aload_n C0.1 C0.2.1 dX8_grows_192 rfl (lv_at hl 0 rfl) ?_
                  refine M_g_toldIndex C0 hE fk_X8_49 dX8_grows_193 ?_
                  refine lv_iload_n C0.1 C0.2.1 dX8_grows_196 rfl (lv_at hl 2 rfl) ?_
                  obtain ⟨v29, e_v29, i_v29, h⟩ := rd_s hR h
                  refine M_toldIndex_l C0 hE i_x18 e_v29 dX8_grows_197 ?_
                  obtain ⟨v30, e_v30, i_v30, h⟩ := oadd_s h
                  refine x_add C0 e_v30 dX8_grows_198 ?_
                  refine lv_aload_n C0.1 C0.2.1 dX8_grows_199 rfl (lv_at hl 0 rfl) ?_
                  refine M_g_toldNumber C0 hE fk_X8_37 dX8_grows_200 ?_
                  refine lv_iload_n C0.1 C0.2.1 dX8_grows_203 rfl (lv_at hl 2 rfl) ?_
                  obtain ⟨v31, e_v31, i_v31, h⟩ := rd_s hR h
                  refine M_toldNumber_l C0 hE i_x18 e_v31 dX8_grows_204 ?_
                  obtain ⟨s32, e_s32, hR, h⟩ := wr_s hR i_v31 h
                  refine M_numbers_st C0 hE i_v30 e_s32 dX8_grows_205 (fun H locs hE => ?_)
                  obtain ⟨v33, e_v33, i_v33, h⟩ := oadd_s h
                  refine x_iinc (lv' := [(3, .int (I v33)), (0, .ref (g.2 100)), (1, .int (I p1))]) C0 dX8_grows_206 hl (k := 2) rfl e_v33 (by decide) rfl (fun ls hl => ?_)
                  refine x_goto C0 dX8_grows_209 (tgt := 104) (by decide) ?_
                  exact ih20 s32 hR v33 i_v33 _ _ _ hE (lv_sub hl [1, 2, 0] rfl) h
                refine x_icmp_ne C0 i_v22 lit_m1 dX8_grows_168 (tgt := 175) (by decide) (fun c9 => ?_) (fun c9 => ?_)
                · have h := ite_f c9 h
                  refine lv_iconst (v := I 2) C0.1 C0.2.1 dX8_grows_175 rfl ?_
                  refine lv_aload_n C0.1 C0.2.1 dX8_grows_176 rfl (lv_at hl 0 rfl) ?_
                  refine M_g_toldStep C0 hE fk_X8_52 dX8_grows_177 ?_
                  refine lv_iload C0.1 C0.2.1 dX8_grows_180 (lv_at hl 3 rfl) ?_
                  obtain ⟨v34, e_v34, i_v34, h⟩ := rd_s hR h
                  refine M_toldStep_l C0 hE i_v22 e_v34 dX8_grows_182 ?_
                  obtain ⟨v35, e_v35, i_v35, h⟩ := omul_s h
                  refine x_mul C0 e_v35 dX8_grows_183 ?_
                  exact h_k27 v35 i_v35 _ _ _ hE (lv_sub hl [0, 1, 2] rfl) h
                · have h := ite_t c9 h
                  refine lv_iconst (v := I 1) C0.1 C0.2.1 dX8_grows_171 rfl ?_
                  refine x_goto C0 dX8_grows_172 (tgt := 184) (by decide) ?_
                  exact h_k27 1 lit_1 _ _ _ hE (lv_sub hl [0, 1, 2] rfl) h
              refine x_icmp_ne C0 i_v22 lit_m1 dX8_grows_128 (tgt := 135) (by decide) (fun c9 => ?_) (fun c9 => ?_)
              · have h := ite_f c9 h
                refine lv_aload_n C0.1 C0.2.1 dX8_grows_135 rfl (lv_at hl 1 rfl) ?_
                refine M_g_toldIndex C0 hE fk_X8_49 dX8_grows_136 ?_
                refine lv_iload C0.1 C0.2.1 dX8_grows_139 (lv_at hl 0 rfl) ?_
                obtain ⟨v36, e_v36, i_v36, h⟩ := rd_s hR h
                refine M_toldIndex_l C0 hE i_v22 e_v36 dX8_grows_141 ?_
                refine lv_aload_n C0.1 C0.2.1 dX8_grows_142 rfl (lv_at hl 1 rfl) ?_
                refine M_g_toldStep C0 hE fk_X8_52 dX8_grows_143 ?_
                refine lv_iload C0.1 C0.2.1 dX8_grows_146 (lv_at hl 0 rfl) ?_
                obtain ⟨v37, e_v37, i_v37, h⟩ := rd_s hR h
                refine M_toldStep_l C0 hE i_v22 e_v37 dX8_grows_148 ?_
                refine lv_aload_n C0.1 C0.2.1 dX8_grows_149 rfl (lv_at hl 1 rfl) ?_
                refine M_g_toldSide C0 hE fk_X8_43 dX8_grows_150 ?_
                refine lv_iload_n C0.1 C0.2.1 dX8_grows_153 rfl (lv_at hl 3 rfl) ?_
                obtain ⟨v38, e_v38, i_v38, h⟩ := rd_s hR h
                refine M_toldSide_l C0 hE i_x18 e_v38 dX8_grows_154 ?_
                refine lv_iconst (v := I 1) C0.1 C0.2.1 dX8_grows_155 rfl ?_
                obtain ⟨v39, e_v39, i_v39, h⟩ := oadd_s h
                refine x_add C0 e_v39 dX8_grows_156 ?_
                obtain ⟨v40, e_v40, i_v40, h⟩ := omul_s h
                refine x_mul C0 e_v40 dX8_grows_157 ?_
                obtain ⟨v41, e_v41, i_v41, h⟩ := oadd_s h
                refine x_add C0 e_v41 dX8_grows_158 ?_
                exact h_k24 v41 i_v41 _ _ _ hE (lv_sub hl [1, 2, 3, 0] rfl) h
              · have h := ite_t c9 h
                refine lv_iconst (v := I 0) C0.1 C0.2.1 dX8_grows_131 rfl ?_
                refine x_goto C0 dX8_grows_132 (tgt := 159) (by decide) ?_
                exact h_k24 0 lit_0 _ _ _ hE (lv_sub hl [1, 2, 3, 0] rfl) h
        exact hL104 FU s10 hR 0 lit_0 _ _ _ hE (lv_sub hl [2, 3, 0] rfl) h
      · have h := ite_f c9 h
        refine lv_aload_n C0.1 C0.2.1 dX8_grows_44 rfl (lv_at hl 1 rfl) ?_
        refine lv_iconst (v := I 0) C0.1 C0.2.1 dX8_grows_45 rfl ?_
        obtain ⟨s42, e_s42, hR, h⟩ := pf_s hR lit_0 h
        refine M_p_rowMany C0 hE e_s42 fk_X8_59 dX8_grows_46 (fun H locs hE => ?_)
        refine lv_aload_n C0.1 C0.2.1 dX8_grows_49 rfl (lv_at hl 1 rfl) ?_
        refine lv_aload_n C0.1 C0.2.1 dX8_grows_50 rfl (lv_at hl 1 rfl) ?_
        refine M_g_toldAt C0 hE fk_X8_34 dX8_grows_51 ?_
        refine lv_iload_n C0.1 C0.2.1 dX8_grows_54 rfl (lv_at hl 0 rfl) ?_
        obtain ⟨v43, e_v43, i_v43, h⟩ := rd_s hR h
        refine M_toldAt_l C0 hE i_v7 e_v43 dX8_grows_55 ?_
        refine x_i2l C0 i_v43 dX8_grows_56 ?_
        obtain ⟨v44, s45, h_v44, h⟩ := bnd_s h
        refine callV_v (rest := []) C0 hml hE (M_rec C0 hE) (c_M_tell l D g hR (in64_of i_v43) h_v44) kw_X8_150 ⟨Nat.le_of_ble_eq_true rfl, Nat.le_of_ble_eq_true rfl⟩ rfl hl.1 rfl (Nat.le_of_ble_eq_true rfl) dX8_grows_57 ⟨Nat.zero_le _, Nat.zero_le _⟩ (fun H locs hE hR => ?_)
        refine lv_aload_n C0.1 C0.2.1 dX8_grows_60 rfl (lv_at hl 1 rfl) ?_
        refine lv_aload_n C0.1 C0.2.1 dX8_grows_61 rfl (lv_at hl 1 rfl) ?_
        refine M_g_toldSides C0 hE fk_X8_46 dX8_grows_62 ?_
        refine lv_iconst (v := I 2) C0.1 C0.2.1 dX8_grows_65 rfl ?_
        refine lv_iload_n C0.1 C0.2.1 dX8_grows_66 rfl (lv_at hl 0 rfl) ?_
        obtain ⟨v46, e_v46, i_v46, h⟩ := omul_s h
        refine x_mul C0 e_v46 dX8_grows_67 ?_
        obtain ⟨v47, e_v47, i_v47, h⟩ := rd_s hR h
        refine M_toldSides_l C0 hE i_v46 e_v47 dX8_grows_68 ?_
        refine x_i2l C0 i_v47 dX8_grows_69 ?_
        obtain ⟨v48, s49, h_v48, h⟩ := bnd_s h
        refine callV_v (rest := []) C0 hml hE (M_rec C0 hE) (c_M_tell l D g hR (in64_of i_v47) h_v48) kw_X8_150 ⟨Nat.le_of_ble_eq_true rfl, Nat.le_of_ble_eq_true rfl⟩ rfl hl.1 rfl (Nat.le_of_ble_eq_true rfl) dX8_grows_70 ⟨Nat.zero_le _, Nat.zero_le _⟩ (fun H locs hE hR => ?_)
        refine lv_aload_n C0.1 C0.2.1 dX8_grows_73 rfl (lv_at hl 1 rfl) ?_
        refine lv_aload_n C0.1 C0.2.1 dX8_grows_74 rfl (lv_at hl 1 rfl) ?_
        refine M_g_toldSides C0 hE fk_X8_46 dX8_grows_75 ?_
        refine lv_iconst (v := I 2) C0.1 C0.2.1 dX8_grows_78 rfl ?_
        refine lv_iload_n C0.1 C0.2.1 dX8_grows_79 rfl (lv_at hl 0 rfl) ?_
        obtain ⟨v50, e_v50, i_v50, h⟩ := omul_s h
        refine x_mul C0 e_v50 dX8_grows_80 ?_
        refine lv_iconst (v := I 1) C0.1 C0.2.1 dX8_grows_81 rfl ?_
        obtain ⟨v51, e_v51, i_v51, h⟩ := oadd_s h
        refine x_add C0 e_v51 dX8_grows_82 ?_
        obtain ⟨v52, e_v52, i_v52, h⟩ := rd_s hR h
        refine M_toldSides_l C0 hE i_v51 e_v52 dX8_grows_83 ?_
        refine x_i2l C0 i_v52 dX8_grows_84 ?_
        obtain ⟨v53, s54, h_v53, h⟩ := bnd_s h
        refine callV_v (rest := []) C0 hml hE (M_rec C0 hE) (c_M_tell l D g hR (in64_of i_v52) h_v53) kw_X8_150 ⟨Nat.le_of_ble_eq_true rfl, Nat.le_of_ble_eq_true rfl⟩ rfl hl.1 rfl (Nat.le_of_ble_eq_true rfl) dX8_grows_85 ⟨Nat.zero_le _, Nat.zero_le _⟩ (fun H locs hE hR => ?_)
        refine lv_bipush (v := I (-2)) C0.1 C0.2.1 dX8_grows_88 (by decide +kernel) ?_
        exact ret_i (wf := wM g) C0 hr hlk hE h lit_m2 hR dX8_grows_90
    · have h := ite_t c9 h
      refine lv_iconst (v := I (-1)) C0.1 C0.2.1 dX8_grows_32 rfl ?_
      exact ret_i (wf := wM g) C0 hr hlk hE h lit_m1 hR dX8_grows_33
  · have h := ite_t c9 h
    refine lv_sipush (v := I (-2000)) C0.1 C0.2.1 dX8_grows_16 (by decide +kernel) ?_
    refine lv_aload_n C0.1 C0.2.1 dX8_grows_19 rfl (lv_at hl 0 rfl) ?_
    obtain ⟨v55, e_v55, i_v55, h⟩ := gf_s hR h
    refine M_g_at C0 hE e_v55 fk_X8_110 dX8_grows_20 ?_
    obtain ⟨v56, e_v56, i_v56, h⟩ := osub_s h
    refine x_sub C0 e_v56 dX8_grows_23 ?_
    exact ret_i (wf := wM g) C0 hr hlk hE h i_v56 hR dX8_grows_24
set_option maxRecDepth 100000 in
set_option maxHeartbeats 4000000 in
theorem c_M_begins (l : Launch) (D : va_G) (g : Ad) {σ σr : St} {r : Int} (hR : R32 σ) (h : M_begins σ = some (r, σr)) : CtV l D g yX8_begins cX8_begins 1 none 1 (wM g σ) (wM g σr) [.ref (g.2 100)] (R32 σr) := by
  intro sz
  refine met_of (by decide) (Nat.le_of_ble_eq_true rfl) (fun p e s m args below meth c ls H locs C0 hml hr hlk hE hl => ?_)
  have C0 : CX p c cX8_begins m s args D g RX8 := C0
  have hl : lv_has ls 1 [(0, .ref (g.2 100))] := hl
  unfold M_begins at h
  refine lv_aload_n C0.1 C0.2.1 dX8_begins_0 rfl (lv_at hl 0 rfl) ?_
  refine lv_aload_n C0.1 C0.2.1 dX8_begins_1 rfl (lv_at hl 0 rfl) ?_
  obtain ⟨v1, e_v1, i_v1, h⟩ := gf_s hR h
  refine M_g_made C0 hE e_v1 fk_X8_75 dX8_begins_2 ?_
  obtain ⟨s2, e_s2, hR, h⟩ := pf_s hR i_v1 h
  refine M_p_madeBefore C0 hE e_s2 fk_X8_86 dX8_begins_5 (fun H locs hE => ?_)
  exact ret_v (wf := wM g) C0 hr hlk hE h hR dX8_begins_8
set_option maxRecDepth 100000 in
set_option maxHeartbeats 4000000 in
theorem c_M_joins (l : Launch) (D : va_G) (g : Ad) {σ σr : St} {p1 p2 p3 p4 r : Int} (hR : R32 σ) (i_p1 : in32 p1) (i_p2 : in32 p2) (i_p3 : in32 p3) (i_p4 : in32 p4) (h : M_joins σ p1 p2 p3 p4 = some (r, σr)) : CtV l D g yX8_joins cX8_joins 5 none 2 (wM g σ) (wM g σr) [.ref (g.2 100), .int (I p1), .int (I p2), .int (I p3), .int (I p4)] (R32 σr) := by
  intro sz
  refine met_of (by decide) (Nat.le_of_ble_eq_true rfl) (fun p e s m args below meth c ls H locs C0 hml hr hlk hE hl => ?_)
  have C0 : CX p c cX8_joins m s args D g RX8 := C0
  have hl : lv_has ls 5 [(0, .ref (g.2 100)), (1, .int (I p1)), (2, .int (I p2)), (3, .int (I p3)), (4, .int (I p4))] := hl
  unfold M_joins at h
  refine lv_aload_n C0.1 C0.2.1 dX8_joins_0 rfl (lv_at hl 0 rfl) ?_
  refine lv_iload_n C0.1 C0.2.1 dX8_joins_1 rfl (lv_at hl 1 rfl) ?_
  refine lv_iconst (v := I 0) C0.1 C0.2.1 dX8_joins_2 rfl ?_
  refine lv_iload_n C0.1 C0.2.1 dX8_joins_3 rfl (lv_at hl 2 rfl) ?_
  obtain ⟨v1, s2, h_v1, h⟩ := bnd_s h
  refine callV_v (rest := []) C0 hml hE (M_rec C0 hE) (c_M_makes l D g hR i_p1 lit_0 i_p2 h_v1) kw_X8_103 ⟨Nat.le_of_ble_eq_true rfl, Nat.le_of_ble_eq_true rfl⟩ rfl hl.1 rfl (Nat.le_of_ble_eq_true rfl) dX8_joins_4 ⟨Nat.zero_le _, Nat.zero_le _⟩ (fun H locs hE hR => ?_)
  refine lv_aload_n C0.1 C0.2.1 dX8_joins_7 rfl (lv_at hl 0 rfl) ?_
  refine lv_iload_n C0.1 C0.2.1 dX8_joins_8 rfl (lv_at hl 3 rfl) ?_
  refine lv_iconst (v := I 0) C0.1 C0.2.1 dX8_joins_9 rfl ?_
  refine lv_iconst (v := I 1) C0.1 C0.2.1 dX8_joins_10 rfl ?_
  refine lv_aload_n C0.1 C0.2.1 dX8_joins_11 rfl (lv_at hl 0 rfl) ?_
  refine M_g_sizes C0 hE fk_X8_16 dX8_joins_12 ?_
  refine lv_iload_n C0.1 C0.2.1 dX8_joins_15 rfl (lv_at hl 3 rfl) ?_
  obtain ⟨v3, e_v3, i_v3, h⟩ := rd_s hR h
  refine M_sizes_l C0 hE i_p3 e_v3 dX8_joins_16 ?_
  refine lv_iload_n C0.1 C0.2.1 dX8_joins_17 rfl (lv_at hl 1 rfl) ?_
  refine lv_iconst (v := I 1) C0.1 C0.2.1 dX8_joins_18 rfl ?_
  refine lv_iconst (v := I 2) C0.1 C0.2.1 dX8_joins_19 rfl ?_
  obtain ⟨v4, s5, h_v4, h⟩ := bnd_s h
  refine callV_v (rest := []) C0 hml hE (M_rec C0 hE) (c_M_shares l D g hR i_p3 lit_0 lit_1 i_v3 i_p1 lit_1 lit_2 h_v4) kw_X8_78 ⟨Nat.le_of_ble_eq_true rfl, Nat.le_of_ble_eq_true rfl⟩ rfl hl.1 rfl (Nat.le_of_ble_eq_true rfl) dX8_joins_20 ⟨Nat.zero_le _, Nat.zero_le _⟩ (fun H locs hE hR => ?_)
  refine lv_aload_n C0.1 C0.2.1 dX8_joins_23 rfl (lv_at hl 0 rfl) ?_
  refine lv_iload C0.1 C0.2.1 dX8_joins_24 (lv_at hl 4 rfl) ?_
  refine lv_iconst (v := I 0) C0.1 C0.2.1 dX8_joins_26 rfl ?_
  refine lv_iconst (v := I 1) C0.1 C0.2.1 dX8_joins_27 rfl ?_
  refine lv_aload_n C0.1 C0.2.1 dX8_joins_28 rfl (lv_at hl 0 rfl) ?_
  refine M_g_sizes C0 hE fk_X8_16 dX8_joins_29 ?_
  refine lv_iload C0.1 C0.2.1 dX8_joins_32 (lv_at hl 4 rfl) ?_
  obtain ⟨v6, e_v6, i_v6, h⟩ := rd_s hR h
  refine M_sizes_l C0 hE i_p4 e_v6 dX8_joins_34 ?_
  refine lv_iload_n C0.1 C0.2.1 dX8_joins_35 rfl (lv_at hl 1 rfl) ?_
  refine lv_iconst (v := I 2) C0.1 C0.2.1 dX8_joins_36 rfl ?_
  refine lv_iconst (v := I 2) C0.1 C0.2.1 dX8_joins_37 rfl ?_
  obtain ⟨v7, s8, h_v7, h⟩ := bnd_s h
  refine callV_v (rest := []) C0 hml hE (M_rec C0 hE) (c_M_shares l D g hR i_p4 lit_0 lit_1 i_v6 i_p1 lit_2 lit_2 h_v7) kw_X8_78 ⟨Nat.le_of_ble_eq_true rfl, Nat.le_of_ble_eq_true rfl⟩ rfl hl.1 rfl (Nat.le_of_ble_eq_true rfl) dX8_joins_38 ⟨Nat.zero_le _, Nat.zero_le _⟩ (fun H locs hE hR => ?_)
  refine lv_aload_n C0.1 C0.2.1 dX8_joins_41 rfl (lv_at hl 0 rfl) ?_
  refine M_g_sizes C0 hE fk_X8_16 dX8_joins_42 ?_
  refine lv_iload_n C0.1 C0.2.1 dX8_joins_45 rfl (lv_at hl 1 rfl) ?_
  refine lv_iconst (v := I 1) C0.1 C0.2.1 dX8_joins_46 rfl ?_
  refine lv_aload_n C0.1 C0.2.1 dX8_joins_47 rfl (lv_at hl 0 rfl) ?_
  refine M_g_sizes C0 hE fk_X8_16 dX8_joins_48 ?_
  refine lv_iload_n C0.1 C0.2.1 dX8_joins_51 rfl (lv_at hl 3 rfl) ?_
  obtain ⟨v9, e_v9, i_v9, h⟩ := rd_s hR h
  refine M_sizes_l C0 hE i_p3 e_v9 dX8_joins_52 ?_
  obtain ⟨v10, e_v10, i_v10, h⟩ := oadd_s h
  refine x_add C0 e_v10 dX8_joins_53 ?_
  refine lv_aload_n C0.1 C0.2.1 dX8_joins_54 rfl (lv_at hl 0 rfl) ?_
  refine M_g_sizes C0 hE fk_X8_16 dX8_joins_55 ?_
  refine lv_iload C0.1 C0.2.1 dX8_joins_58 (lv_at hl 4 rfl) ?_
  obtain ⟨v11, e_v11, i_v11, h⟩ := rd_s hR h
  refine M_sizes_l C0 hE i_p4 e_v11 dX8_joins_60 ?_
  obtain ⟨v12, e_v12, i_v12, h⟩ := oadd_s h
  refine x_add C0 e_v12 dX8_joins_61 ?_
  obtain ⟨s13, e_s13, hR, h⟩ := wr_s hR i_v12 h
  refine M_sizes_st C0 hE i_p1 e_s13 dX8_joins_62 (fun H locs hE => ?_)
  exact ret_v (wf := wM g) C0 hr hlk hE h hR dX8_joins_63
set_option maxRecDepth 100000 in
set_option maxHeartbeats 4000000 in
theorem c_M_fillsCouple (l : Launch) (D : va_G) (g : Ad) : ∀ (d : Nat) {σ σr : St} {p1 p2 r : Int} (hR : R32 σ) (i_p1 : in32 p1) (i_p2 : in32 p2) (h : M_fillsCouple d σ p1 p2 = some (r, σr)), CtV l D g yX8_fillsCouple cX8_fillsCouple 4 none (3 + d) (wM g σ) (wM g σr) [.ref (g.2 100), .int (I p1), .int (I p2)] (R32 σr) := by
  intro d
  induction d with
  | zero => intros; rename_i h; cases h
  | succ d ih =>
    intro σ σr p1 p2 r hR i_p1 i_p2 h sz
    refine met_of (by decide) (Nat.le_of_ble_eq_true rfl) (fun p e s m args below meth c ls H locs C0 hml hr hlk hE hl => ?_)
    have C0 : CX p c cX8_fillsCouple m s args D g RX8 := C0
    have hl : lv_has ls 4 [(0, .ref (g.2 100)), (1, .int (I p1)), (2, .int (I p2))] := hl
    unfold M_fillsCouple at h
    refine lv_iload_n C0.1 C0.2.1 dX8_fillsCouple_0 rfl (lv_at hl 1 rfl) ?_
    refine x_if_ne C0 i_p1 dX8_fillsCouple_1 (tgt := 29) (by decide) (fun c9 => ?_) (fun c9 => ?_)
    · have h := ite_f c9 h
      refine lv_iload_n C0.1 C0.2.1 dX8_fillsCouple_29 rfl (lv_at hl 1 rfl) ?_
      refine lv_iconst (v := I 2) C0.1 C0.2.1 dX8_fillsCouple_30 rfl ?_
      obtain ⟨v1, e_v1, i_v1, h⟩ := orem_s lit_2 h
      refine x_rem C0 i_p1 lit_2 e_v1 dX8_fillsCouple_31 ?_
      refine lv_iconst (v := I 1) C0.1 C0.2.1 dX8_fillsCouple_32 rfl ?_
      obtain ⟨v2, e_v2, i_v2, h⟩ := oif_s h
      have kk_v2 : W p l e (rmk (3 + (d + 1))) s m args below meth c H locs 0 0 (MQ below (QCv D (wM g σr) (R32 σr) (va_A (wM g σ) sz)) args s 0 0 (va_A (wM g σ) sz)) (F0 m 41 ls [.int (I v2)]) := by
        refine lv_istore_n (lv' := [(3, .int (I v2)), (0, .ref (g.2 100)), (1, .int (I p1)), (2, .int (I p2))]) C0.1 C0.2.1 dX8_fillsCouple_41 rfl hl (by decide) rfl (fun ls hl => ?_)
        refine lv_aload_n C0.1 C0.2.1 dX8_fillsCouple_42 rfl (lv_at hl 1 rfl) ?_
        refine lv_iload_n C0.1 C0.2.1 dX8_fillsCouple_43 rfl (lv_at hl 0 rfl) ?_
        obtain ⟨k4, e_k4, h⟩ := jn_s h
        have h_k4 : ∀ (x3 : Int) (i_x3 : in32 x3) (H : Heap) (locs : List Loc) (ls : Array Slot), EW D (va_A (wM g σ) sz) s.heap (wM g σ) H locs → lv_has ls 4 [(0, .ref (g.2 100)), (2, .int (I p2)), (3, .int (I v2))] → k4 x3 = some (r, σr) → W p l e (rmk (3 + (d + 1))) s m args below meth c H locs 0 0 (MQ below (QCv D (wM g σr) (R32 σr) (va_A (wM g σ) sz)) args s 0 0 (va_A (wM g σ) sz)) (F0 m 60 ls [.int (I x3), .ref (g.2 100)]) := by
          intro x3 i_x3 H locs ls hE hl h
          have h := (congrFun e_k4 x3).symm.trans h
          refine lv_iload_n C0.1 C0.2.1 dX8_fillsCouple_60 rfl (lv_at hl 1 rfl) ?_
          obtain ⟨v5, s6, h_v5, h⟩ := bnd_s h
          refine callV_v (rest := []) C0 hml hE (M_rec C0 hE) (ih hR i_x3 i_p2 h_v5) kw_X8_154 (by simp only [rmk, RD]; omega) rfl hl.1 rfl (Nat.le_of_ble_eq_true rfl) dX8_fillsCouple_61 ⟨Nat.zero_le _, Nat.zero_le _⟩ (fun H locs hE hR => ?_)
          refine lv_aload_n C0.1 C0.2.1 dX8_fillsCouple_64 rfl (lv_at hl 0 rfl) ?_
          refine lv_bipush (v := I 8) C0.1 C0.2.1 dX8_fillsCouple_65 (by decide +kernel) ?_
          refine lv_bipush (v := I 6) C0.1 C0.2.1 dX8_fillsCouple_67 (by decide +kernel) ?_
          obtain ⟨v7, s8, h_v7, h⟩ := bnd_s h
          refine callV_v (rest := []) C0 hml hE (M_rec C0 hE) (c_M_takes l D g hR lit_8 lit_6 h_v7) kw_X8_82 (by simp only [rmk, RD]; omega) rfl hl.1 rfl (Nat.le_of_ble_eq_true rfl) dX8_fillsCouple_69 ⟨Nat.zero_le _, Nat.zero_le _⟩ (fun H locs hE hR => ?_)
          refine lv_aload_n C0.1 C0.2.1 dX8_fillsCouple_72 rfl (lv_at hl 0 rfl) ?_
          refine lv_bipush (v := I 9) C0.1 C0.2.1 dX8_fillsCouple_73 (by decide +kernel) ?_
          refine lv_bipush (v := I 7) C0.1 C0.2.1 dX8_fillsCouple_75 (by decide +kernel) ?_
          obtain ⟨v9, s10, h_v9, h⟩ := bnd_s h
          refine callV_v (rest := []) C0 hml hE (M_rec C0 hE) (c_M_takes l D g hR lit_9 lit_7 h_v9) kw_X8_82 (by simp only [rmk, RD]; omega) rfl hl.1 rfl (Nat.le_of_ble_eq_true rfl) dX8_fillsCouple_77 ⟨Nat.zero_le _, Nat.zero_le _⟩ (fun H locs hE hR => ?_)
          refine lv_aload_n C0.1 C0.2.1 dX8_fillsCouple_80 rfl (lv_at hl 0 rfl) ?_
          refine lv_bipush (v := I 8) C0.1 C0.2.1 dX8_fillsCouple_81 (by decide +kernel) ?_
          refine lv_iload_n C0.1 C0.2.1 dX8_fillsCouple_83 rfl (lv_at hl 1 rfl) ?_
          refine lv_iload_n C0.1 C0.2.1 dX8_fillsCouple_84 rfl (lv_at hl 2 rfl) ?_
          obtain ⟨v11, e_v11, i_v11, h⟩ := oif_s h
          have kk_v11 : W p l e (rmk (3 + (d + 1))) s m args below meth c H locs 0 0 (MQ below (QCv D (wM g σr) (R32 σr) (va_A (wM g σ) sz)) args s 0 0 (va_A (wM g σ) sz)) (F0 m 95 ls [.int (I v11), .int (I p2), .int (I 8), .ref (g.2 100)]) := by
            refine lv_bipush (v := I 6) C0.1 C0.2.1 dX8_fillsCouple_95 (by decide +kernel) ?_
            obtain ⟨v12, s13, h_v12, h⟩ := bnd_s h
            refine callV_v (rest := []) C0 hml hE (M_rec C0 hE) (c_M_joins l D g hR lit_8 i_p2 i_v11 lit_6 h_v12) kw_X8_157 (by simp only [rmk, RD]; omega) rfl hl.1 rfl (Nat.le_of_ble_eq_true rfl) dX8_fillsCouple_97 ⟨Nat.zero_le _, Nat.zero_le _⟩ (fun H locs hE hR => ?_)
            refine lv_aload_n C0.1 C0.2.1 dX8_fillsCouple_100 rfl (lv_at hl 0 rfl) ?_
            refine lv_bipush (v := I 9) C0.1 C0.2.1 dX8_fillsCouple_101 (by decide +kernel) ?_
            refine lv_iload_n C0.1 C0.2.1 dX8_fillsCouple_103 rfl (lv_at hl 1 rfl) ?_
            refine lv_bipush (v := I 7) C0.1 C0.2.1 dX8_fillsCouple_104 (by decide +kernel) ?_
            refine lv_iload_n C0.1 C0.2.1 dX8_fillsCouple_106 rfl (lv_at hl 2 rfl) ?_
            obtain ⟨v14, e_v14, i_v14, h⟩ := oif_s h
            have kk_v14 : W p l e (rmk (3 + (d + 1))) s m args below meth c H locs 0 0 (MQ below (QCv D (wM g σr) (R32 σr) (va_A (wM g σ) sz)) args s 0 0 (va_A (wM g σ) sz)) (F0 m 117 ls [.int (I v14), .int (I 7), .int (I p2), .int (I 9), .ref (g.2 100)]) := by
              obtain ⟨v15, s16, h_v15, h⟩ := bnd_s h
              refine callV_v (rest := []) C0 hml hE (M_rec C0 hE) (c_M_joins l D g hR lit_9 i_p2 lit_7 i_v14 h_v15) kw_X8_157 (by simp only [rmk, RD]; omega) rfl hl.1 rfl (Nat.le_of_ble_eq_true rfl) dX8_fillsCouple_117 ⟨Nat.zero_le _, Nat.zero_le _⟩ (fun H locs hE hR => ?_)
              exact ret_v (wf := wM g) C0 hr hlk hE h hR dX8_fillsCouple_120
            refine x_if_eq C0 i_v2 dX8_fillsCouple_107 (tgt := 115) (by decide) (fun c9 => ?_) (fun c9 => ?_)
            · have e9 := e_v14.trans (if_pos c9)
              refine lv_bipush (v := I 7) C0.1 C0.2.1 dX8_fillsCouple_115 (by decide +kernel) ?_
              rw [e9] at kk_v14; exact kk_v14
            · have e9 := e_v14.trans (if_neg c9)
              refine lv_bipush (v := I 6) C0.1 C0.2.1 dX8_fillsCouple_110 (by decide +kernel) ?_
              refine x_goto C0 dX8_fillsCouple_112 (tgt := 117) (by decide) ?_
              rw [e9] at kk_v14; exact kk_v14
          refine x_if_eq C0 i_v2 dX8_fillsCouple_85 (tgt := 93) (by decide) (fun c9 => ?_) (fun c9 => ?_)
          · have e9 := e_v11.trans (if_pos c9)
            refine lv_bipush (v := I 7) C0.1 C0.2.1 dX8_fillsCouple_93 (by decide +kernel) ?_
            rw [e9] at kk_v11; exact kk_v11
          · have e9 := e_v11.trans (if_neg c9)
            refine lv_bipush (v := I 6) C0.1 C0.2.1 dX8_fillsCouple_88 (by decide +kernel) ?_
            refine x_goto C0 dX8_fillsCouple_90 (tgt := 95) (by decide) ?_
            rw [e9] at kk_v11; exact kk_v11
        refine x_if_eq C0 i_v2 dX8_fillsCouple_44 (tgt := 55) (by decide) (fun c9 => ?_) (fun c9 => ?_)
        · have h := ite_t c9 h
          refine lv_iload_n C0.1 C0.2.1 dX8_fillsCouple_55 rfl (lv_at hl 2 rfl) ?_
          refine lv_iconst (v := I 2) C0.1 C0.2.1 dX8_fillsCouple_56 rfl ?_
          obtain ⟨v17, e_v17, i_v17, h⟩ := osub_s h
          refine x_sub C0 e_v17 dX8_fillsCouple_57 ?_
          refine lv_iconst (v := I 2) C0.1 C0.2.1 dX8_fillsCouple_58 rfl ?_
          obtain ⟨v18, e_v18, i_v18, h⟩ := odiv_s i_v17 h
          refine x_div C0 i_v17 lit_2 e_v18 dX8_fillsCouple_59 ?_
          exact h_k4 v18 i_v18 _ _ _ hE (lv_sub hl [1, 3, 0] rfl) h
        · have h := ite_f c9 h
          refine lv_iload_n C0.1 C0.2.1 dX8_fillsCouple_47 rfl (lv_at hl 2 rfl) ?_
          refine lv_iconst (v := I 1) C0.1 C0.2.1 dX8_fillsCouple_48 rfl ?_
          obtain ⟨v19, e_v19, i_v19, h⟩ := osub_s h
          refine x_sub C0 e_v19 dX8_fillsCouple_49 ?_
          refine lv_iconst (v := I 2) C0.1 C0.2.1 dX8_fillsCouple_50 rfl ?_
          obtain ⟨v20, e_v20, i_v20, h⟩ := odiv_s i_v19 h
          refine x_div C0 i_v19 lit_2 e_v20 dX8_fillsCouple_51 ?_
          refine x_goto C0 dX8_fillsCouple_52 (tgt := 60) (by decide) ?_
          exact h_k4 v20 i_v20 _ _ _ hE (lv_sub hl [1, 3, 0] rfl) h
      refine x_icmp_ne C0 i_v1 lit_1 dX8_fillsCouple_33 (tgt := 40) (by decide) (fun c9 => ?_) (fun c9 => ?_)
      · have e9 := e_v2.trans (if_neg c9)
        refine lv_iconst (v := I 0) C0.1 C0.2.1 dX8_fillsCouple_40 rfl ?_
        rw [e9] at kk_v2; exact kk_v2
      · have e9 := e_v2.trans (if_pos c9)
        refine lv_iconst (v := I 1) C0.1 C0.2.1 dX8_fillsCouple_36 rfl ?_
        refine x_goto C0 dX8_fillsCouple_37 (tgt := 41) (by decide) ?_
        rw [e9] at kk_v2; exact kk_v2
    · have h := ite_t c9 h
      refine lv_aload_n C0.1 C0.2.1 dX8_fillsCouple_4 rfl (lv_at hl 0 rfl) ?_
      refine M_g_sizes C0 hE fk_X8_16 dX8_fillsCouple_5 ?_
      refine lv_bipush (v := I 8) C0.1 C0.2.1 dX8_fillsCouple_8 (by decide +kernel) ?_
      refine lv_iconst (v := I 0) C0.1 C0.2.1 dX8_fillsCouple_10 rfl ?_
      obtain ⟨s21, e_s21, hR, h⟩ := wr_s hR lit_0 h
      refine M_sizes_st C0 hE lit_8 e_s21 dX8_fillsCouple_11 (fun H locs hE => ?_)
      refine lv_aload_n C0.1 C0.2.1 dX8_fillsCouple_12 rfl (lv_at hl 0 rfl) ?_
      refine M_g_sizes C0 hE fk_X8_16 dX8_fillsCouple_13 ?_
      refine lv_bipush (v := I 9) C0.1 C0.2.1 dX8_fillsCouple_16 (by decide +kernel) ?_
      refine lv_iconst (v := I 1) C0.1 C0.2.1 dX8_fillsCouple_18 rfl ?_
      obtain ⟨s22, e_s22, hR, h⟩ := wr_s hR lit_1 h
      refine M_sizes_st C0 hE lit_9 e_s22 dX8_fillsCouple_19 (fun H locs hE => ?_)
      refine lv_aload_n C0.1 C0.2.1 dX8_fillsCouple_20 rfl (lv_at hl 0 rfl) ?_
      refine lv_bipush (v := I 9) C0.1 C0.2.1 dX8_fillsCouple_21 (by decide +kernel) ?_
      refine lv_iconst (v := I 0) C0.1 C0.2.1 dX8_fillsCouple_23 rfl ?_
      refine lv_iload_n C0.1 C0.2.1 dX8_fillsCouple_24 rfl (lv_at hl 2 rfl) ?_
      obtain ⟨v23, s24, h_v23, h⟩ := bnd_s h
      refine callV_v (rest := []) C0 hml hE (M_rec C0 hE) (c_M_makes l D g hR lit_9 lit_0 i_p2 h_v23) kw_X8_103 (by simp only [rmk, RD]; omega) rfl hl.1 rfl (Nat.le_of_ble_eq_true rfl) dX8_fillsCouple_25 ⟨Nat.zero_le _, Nat.zero_le _⟩ (fun H locs hE hR => ?_)
      exact ret_v (wf := wM g) C0 hr hlk hE h hR dX8_fillsCouple_28
set_option maxRecDepth 100000 in
set_option maxHeartbeats 4000000 in
theorem c_M_isNumber (l : Launch) (D : va_G) (g : Ad) {σ : St} {p1 r : Int} (i_p1 : in32 p1) (h : M_isNumber p1 = some r) : CtI l D g yX8_isNumber cX8_isNumber 1 (some .boolean) 2 (wM g σ) (wM g σ) [.int (I p1)] r (in32 r) := by
  intro sz
  refine met_of (by decide) (Nat.le_of_ble_eq_true rfl) (fun p e s m args below meth c ls H locs C0 hml hr hlk hE hl => ?_)
  have C0 : CX p c cX8_isNumber m s args D g RX8 := C0
  have hl : lv_has ls 1 [(0, .int (I p1))] := hl
  unfold M_isNumber at h
  refine lv_iload_n C0.1 C0.2.1 dX8_isNumber_0 rfl (lv_at hl 0 rfl) ?_
  refine x_i2l C0 i_p1 dX8_isNumber_1 ?_
  refine x_ldc2 (v := (-999)) C0 ck_X8_71 (by decide +kernel) dX8_isNumber_2 ?_
  refine x_ldc2 (v := 999) C0 ck_X8_73 (by decide +kernel) dX8_isNumber_5 ?_
  obtain ⟨v1, h_v1, h⟩ := bndp_s h
  refine callS_i (rest := []) C0 hml hE (c_M_in l D g (σ := σ) (in64_of i_p1) (by decide) (by decide) h_v1) kw_X8_65 ⟨Nat.le_of_ble_eq_true rfl, Nat.le_of_ble_eq_true rfl⟩ rfl hl.1 rfl (Nat.le_of_ble_eq_true rfl) dX8_isNumber_8 ⟨Nat.zero_le _, Nat.zero_le _⟩ (fun H locs hE i_v1 => ?_)
  obtain ⟨z9, h⟩ := retZp_s h
  exact pret_z C0 hr hlk hE z9 h dX8_isNumber_11
set_option maxRecDepth 100000 in
set_option maxHeartbeats 4000000 in
theorem c_M_fills (l : Launch) (D : va_G) (g : Ad) {σ σr : St} {p1 p2 p3 r : Int} (hR : R32 σ) (i_p1 : in32 p1) (i_p2 : in32 p2) (i_p3 : in32 p3) (h : M_fills σ p1 p2 p3 = some (r, σr)) : CtI l D g yX8_fills cX8_fills 4 (some .int) 16 (wM g σ) (wM g σr) [.ref (g.2 100), .int (I p1), .int (I p2), .int (I p3)] r (in32 r ∧ R32 σr) := by
  intro sz
  refine met_of (by decide) (Nat.le_of_ble_eq_true rfl) (fun p e s m args below meth c ls H locs C0 hml hr hlk hE hl => ?_)
  have C0 : CX p c cX8_fills m s args D g RX8 := C0
  have hl : lv_has ls 4 [(0, .ref (g.2 100)), (1, .int (I p1)), (2, .int (I p2)), (3, .int (I p3))] := hl
  unfold M_fills at h
  refine lv_aload_n C0.1 C0.2.1 dX8_fills_0 rfl (lv_at hl 0 rfl) ?_
  refine lv_iconst (v := I 0) C0.1 C0.2.1 dX8_fills_1 rfl ?_
  obtain ⟨s1, e_s1, hR, h⟩ := pf_s hR lit_0 h
  refine M_p_thrown C0 hE e_s1 fk_X8_55 dX8_fills_2 (fun H locs hE => ?_)
  refine lv_iload_n C0.1 C0.2.1 dX8_fills_5 rfl (lv_at hl 1 rfl) ?_
  refine x_i2l C0 i_p1 dX8_fills_6 ?_
  refine lv_lconst (v := J 0) C0.1 C0.2.1 dX8_fills_7 (by decide +kernel) ?_
  refine x_ldc2 (v := 255) C0 ck_X8_161 (by decide +kernel) dX8_fills_8 ?_
  obtain ⟨v2, h_v2, h⟩ := bndp_s h
  refine callS_i (rest := []) C0 hml hE (c_M_in l D g (σ := s1) (in64_of i_p1) (by decide) (by decide) h_v2) kw_X8_65 ⟨Nat.le_of_ble_eq_true rfl, Nat.le_of_ble_eq_true rfl⟩ rfl hl.1 rfl (Nat.le_of_ble_eq_true rfl) dX8_fills_11 ⟨Nat.zero_le _, Nat.zero_le _⟩ (fun H locs hE i_v2 => ?_)
  refine x_if_eq C0 i_v2 dX8_fills_14 (tgt := 31) (by decide) (fun c9 => ?_) (fun c9 => ?_)
  · have h := ite_t c9 h
    refine lv_iconst (v := I (-1)) C0.1 C0.2.1 dX8_fills_31 rfl ?_
    exact ret_i (wf := wM g) C0 hr hlk hE h lit_m1 hR dX8_fills_32
  · have h := ite_f c9 h
    refine lv_iload_n C0.1 C0.2.1 dX8_fills_17 rfl (lv_at hl 2 rfl) ?_
    obtain ⟨v3, h_v3, h⟩ := bndp_s h
    refine callS_i (rest := []) C0 hml hE (c_M_isNumber l D g (σ := s1) i_p2 h_v3) kw_X8_163 ⟨Nat.le_of_ble_eq_true rfl, Nat.le_of_ble_eq_true rfl⟩ rfl hl.1 rfl (Nat.le_of_ble_eq_true rfl) dX8_fills_18 ⟨Nat.zero_le _, Nat.zero_le _⟩ (fun H locs hE i_v3 => ?_)
    refine x_if_eq C0 i_v3 dX8_fills_21 (tgt := 31) (by decide) (fun c9 => ?_) (fun c9 => ?_)
    · have h := ite_t c9 h
      refine lv_iconst (v := I (-1)) C0.1 C0.2.1 dX8_fills_31 rfl ?_
      exact ret_i (wf := wM g) C0 hr hlk hE h lit_m1 hR dX8_fills_32
    · have h := ite_f c9 h
      refine lv_iload_n C0.1 C0.2.1 dX8_fills_24 rfl (lv_at hl 3 rfl) ?_
      obtain ⟨v4, h_v4, h⟩ := bndp_s h
      refine callS_i (rest := []) C0 hml hE (c_M_isPlace l D g (σ := s1) i_p3 h_v4) kw_X8_134 ⟨Nat.le_of_ble_eq_true rfl, Nat.le_of_ble_eq_true rfl⟩ rfl hl.1 rfl (Nat.le_of_ble_eq_true rfl) dX8_fills_25 ⟨Nat.zero_le _, Nat.zero_le _⟩ (fun H locs hE i_v4 => ?_)
      refine x_if_ne C0 i_v4 dX8_fills_28 (tgt := 33) (by decide) (fun c9 => ?_) (fun c9 => ?_)
      · have h := ite_f c9 h
        refine lv_aload_n C0.1 C0.2.1 dX8_fills_33 rfl (lv_at hl 0 rfl) ?_
        obtain ⟨v5, s6, h_v5, h⟩ := bnd_s h
        refine callV_v (rest := []) C0 hml hE (M_rec C0 hE) (c_M_begins l D g hR h_v5) kw_X8_166 ⟨Nat.le_of_ble_eq_true rfl, Nat.le_of_ble_eq_true rfl⟩ rfl hl.1 rfl (Nat.le_of_ble_eq_true rfl) dX8_fills_34 ⟨Nat.zero_le _, Nat.zero_le _⟩ (fun H locs hE hR => ?_)
        refine lv_aload_n C0.1 C0.2.1 dX8_fills_37 rfl (lv_at hl 0 rfl) ?_
        refine lv_iload_n C0.1 C0.2.1 dX8_fills_38 rfl (lv_at hl 1 rfl) ?_
        refine lv_iload_n C0.1 C0.2.1 dX8_fills_39 rfl (lv_at hl 2 rfl) ?_
        obtain ⟨v7, s8, h_v7, h⟩ := bnd_s h
        refine callV_v (rest := []) C0 hml hE (M_rec C0 hE) (c_M_fillsCouple l D g RD hR i_p1 i_p2 h_v7) kw_X8_154 ⟨Nat.le_of_ble_eq_true rfl, Nat.le_of_ble_eq_true rfl⟩ rfl hl.1 rfl (Nat.le_of_ble_eq_true rfl) dX8_fills_40 ⟨Nat.zero_le _, Nat.zero_le _⟩ (fun H locs hE hR => ?_)
        refine lv_aload_n C0.1 C0.2.1 dX8_fills_43 rfl (lv_at hl 0 rfl) ?_
        refine lv_bipush (v := I 8) C0.1 C0.2.1 dX8_fills_44 (by decide +kernel) ?_
        refine lv_iload_n C0.1 C0.2.1 dX8_fills_46 rfl (lv_at hl 3 rfl) ?_
        obtain ⟨v9, s10, h_v9, h⟩ := bnd_s h
        refine callV_v (rest := []) C0 hml hE (M_rec C0 hE) (c_M_takes l D g hR lit_8 i_p3 h_v9) kw_X8_82 ⟨Nat.le_of_ble_eq_true rfl, Nat.le_of_ble_eq_true rfl⟩ rfl hl.1 rfl (Nat.le_of_ble_eq_true rfl) dX8_fills_47 ⟨Nat.zero_le _, Nat.zero_le _⟩ (fun H locs hE hR => ?_)
        refine lv_aload_n C0.1 C0.2.1 dX8_fills_50 rfl (lv_at hl 0 rfl) ?_
        obtain ⟨v11, e_v11, i_v11, h⟩ := gf_s hR h
        refine M_g_made C0 hE e_v11 fk_X8_75 dX8_fills_51 ?_
        refine lv_aload_n C0.1 C0.2.1 dX8_fills_54 rfl (lv_at hl 0 rfl) ?_
        obtain ⟨v12, e_v12, i_v12, h⟩ := gf_s hR h
        refine M_g_madeBefore C0 hE e_v12 fk_X8_86 dX8_fills_55 ?_
        obtain ⟨v13, e_v13, i_v13, h⟩ := osub_s h
        refine x_sub C0 e_v13 dX8_fills_58 ?_
        exact ret_i (wf := wM g) C0 hr hlk hE h i_v13 hR dX8_fills_59
      · have h := ite_t c9 h
        refine lv_iconst (v := I (-1)) C0.1 C0.2.1 dX8_fills_31 rfl ?_
        exact ret_i (wf := wM g) C0 hr hlk hE h lit_m1 hR dX8_fills_32
set_option maxRecDepth 100000 in
set_option maxHeartbeats 4000000 in
theorem c_M_copies (l : Launch) (D : va_G) (g : Ad) {σ σr : St} {p1 p2 r : Int} (hR : R32 σ) (i_p1 : in32 p1) (i_p2 : in32 p2) (h : M_copies σ p1 p2 = some (r, σr)) : CtI l D g yX8_copies cX8_copies 3 (some .int) 3 (wM g σ) (wM g σr) [.ref (g.2 100), .int (I p1), .int (I p2)] r (in32 r ∧ R32 σr) := by
  intro sz
  refine met_of (by decide) (Nat.le_of_ble_eq_true rfl) (fun p e s m args below meth c ls H locs C0 hml hr hlk hE hl => ?_)
  have C0 : CX p c cX8_copies m s args D g RX8 := C0
  have hl : lv_has ls 3 [(0, .ref (g.2 100)), (1, .int (I p1)), (2, .int (I p2))] := hl
  unfold M_copies at h
  refine lv_aload_n C0.1 C0.2.1 dX8_copies_0 rfl (lv_at hl 0 rfl) ?_
  refine lv_iconst (v := I 0) C0.1 C0.2.1 dX8_copies_1 rfl ?_
  obtain ⟨s1, e_s1, hR, h⟩ := pf_s hR lit_0 h
  refine M_p_thrown C0 hE e_s1 fk_X8_55 dX8_copies_2 (fun H locs hE => ?_)
  refine lv_iload_n C0.1 C0.2.1 dX8_copies_5 rfl (lv_at hl 1 rfl) ?_
  obtain ⟨v2, h_v2, h⟩ := bndp_s h
  refine callS_i (rest := []) C0 hml hE (c_M_isPlace l D g (σ := s1) i_p1 h_v2) kw_X8_134 ⟨Nat.le_of_ble_eq_true rfl, Nat.le_of_ble_eq_true rfl⟩ rfl hl.1 rfl (Nat.le_of_ble_eq_true rfl) dX8_copies_6 ⟨Nat.zero_le _, Nat.zero_le _⟩ (fun H locs hE i_v2 => ?_)
  refine x_if_eq C0 i_v2 dX8_copies_9 (tgt := 19) (by decide) (fun c9 => ?_) (fun c9 => ?_)
  · have h := ite_t c9 h
    refine lv_iconst (v := I (-1)) C0.1 C0.2.1 dX8_copies_19 rfl ?_
    exact ret_i (wf := wM g) C0 hr hlk hE h lit_m1 hR dX8_copies_20
  · have h := ite_f c9 h
    refine lv_iload_n C0.1 C0.2.1 dX8_copies_12 rfl (lv_at hl 2 rfl) ?_
    obtain ⟨v3, h_v3, h⟩ := bndp_s h
    refine callS_i (rest := []) C0 hml hE (c_M_isPlace l D g (σ := s1) i_p2 h_v3) kw_X8_134 ⟨Nat.le_of_ble_eq_true rfl, Nat.le_of_ble_eq_true rfl⟩ rfl hl.1 rfl (Nat.le_of_ble_eq_true rfl) dX8_copies_13 ⟨Nat.zero_le _, Nat.zero_le _⟩ (fun H locs hE i_v3 => ?_)
    refine x_if_ne C0 i_v3 dX8_copies_16 (tgt := 21) (by decide) (fun c9 => ?_) (fun c9 => ?_)
    · have h := ite_f c9 h
      refine lv_aload_n C0.1 C0.2.1 dX8_copies_21 rfl (lv_at hl 0 rfl) ?_
      refine lv_iload_n C0.1 C0.2.1 dX8_copies_22 rfl (lv_at hl 1 rfl) ?_
      refine lv_iload_n C0.1 C0.2.1 dX8_copies_23 rfl (lv_at hl 2 rfl) ?_
      obtain ⟨v4, s5, h_v4, h⟩ := bnd_s h
      refine callV_v (rest := []) C0 hml hE (M_rec C0 hE) (c_M_takes l D g hR i_p1 i_p2 h_v4) kw_X8_82 ⟨Nat.le_of_ble_eq_true rfl, Nat.le_of_ble_eq_true rfl⟩ rfl hl.1 rfl (Nat.le_of_ble_eq_true rfl) dX8_copies_24 ⟨Nat.zero_le _, Nat.zero_le _⟩ (fun H locs hE hR => ?_)
      refine lv_aload_n C0.1 C0.2.1 dX8_copies_27 rfl (lv_at hl 0 rfl) ?_
      refine M_g_sizes C0 hE fk_X8_16 dX8_copies_28 ?_
      refine lv_iload_n C0.1 C0.2.1 dX8_copies_31 rfl (lv_at hl 2 rfl) ?_
      obtain ⟨v6, e_v6, i_v6, h⟩ := rd_s hR h
      refine M_sizes_l C0 hE i_p2 e_v6 dX8_copies_32 ?_
      exact ret_i (wf := wM g) C0 hr hlk hE h i_v6 hR dX8_copies_33
    · have h := ite_t c9 h
      refine lv_iconst (v := I (-1)) C0.1 C0.2.1 dX8_copies_19 rfl ?_
      exact ret_i (wf := wM g) C0 hr hlk hE h lit_m1 hR dX8_copies_20
set_option maxRecDepth 100000 in
set_option maxHeartbeats 4000000 in
theorem c_M_asks (l : Launch) (D : va_G) (g : Ad) {σ σr : St} {p1 r : Int} (hR : R32 σ) (i_p1 : in32 p1) (h : M_asks σ p1 = some (r, σr)) : CtV l D g yX8_asks cX8_asks 2 none 3 (wM g σ) (wM g σr) [.ref (g.2 100), .int (I p1)] (R32 σr) := by
  intro sz
  refine met_of (by decide) (Nat.le_of_ble_eq_true rfl) (fun p e s m args below meth c ls H locs C0 hml hr hlk hE hl => ?_)
  have C0 : CX p c cX8_asks m s args D g RX8 := C0
  have hl : lv_has ls 2 [(0, .ref (g.2 100)), (1, .int (I p1))] := hl
  unfold M_asks at h
  refine lv_aload_n C0.1 C0.2.1 dX8_asks_0 rfl (lv_at hl 0 rfl) ?_
  refine lv_iload_n C0.1 C0.2.1 dX8_asks_1 rfl (lv_at hl 1 rfl) ?_
  refine lv_bipush (v := I 6) C0.1 C0.2.1 dX8_asks_2 (by decide +kernel) ?_
  obtain ⟨v1, s2, h_v1, h⟩ := bnd_s h
  refine callV_v (rest := []) C0 hml hE (M_rec C0 hE) (c_M_takes l D g hR i_p1 lit_6 h_v1) kw_X8_82 ⟨Nat.le_of_ble_eq_true rfl, Nat.le_of_ble_eq_true rfl⟩ rfl hl.1 rfl (Nat.le_of_ble_eq_true rfl) dX8_asks_4 ⟨Nat.zero_le _, Nat.zero_le _⟩ (fun H locs hE hR => ?_)
  refine lv_aload_n C0.1 C0.2.1 dX8_asks_7 rfl (lv_at hl 0 rfl) ?_
  refine lv_iload_n C0.1 C0.2.1 dX8_asks_8 rfl (lv_at hl 1 rfl) ?_
  refine lv_bipush (v := I 7) C0.1 C0.2.1 dX8_asks_9 (by decide +kernel) ?_
  obtain ⟨v3, s4, h_v3, h⟩ := bnd_s h
  refine callV_v (rest := []) C0 hml hE (M_rec C0 hE) (c_M_takes l D g hR i_p1 lit_7 h_v3) kw_X8_82 ⟨Nat.le_of_ble_eq_true rfl, Nat.le_of_ble_eq_true rfl⟩ rfl hl.1 rfl (Nat.le_of_ble_eq_true rfl) dX8_asks_11 ⟨Nat.zero_le _, Nat.zero_le _⟩ (fun H locs hE hR => ?_)
  exact ret_v (wf := wM g) C0 hr hlk hE h hR dX8_asks_14
set_option maxRecDepth 100000 in
set_option maxHeartbeats 4000000 in
theorem c_M_leftSize (l : Launch) (D : va_G) (g : Ad) {σ : St} {p1 r : Int} (i_p1 : in32 p1) (h : M_leftSize p1 = some r) : CtI l D g yX8_leftSize cX8_leftSize 1 (some .int) 1 (wM g σ) (wM g σ) [.int (I p1)] r (in32 r) := by
  intro sz
  refine met_of (by decide) (Nat.le_of_ble_eq_true rfl) (fun p e s m args below meth c ls H locs C0 hml hr hlk hE hl => ?_)
  have C0 : CX p c cX8_leftSize m s args D g RX8 := C0
  have hl : lv_has ls 1 [(0, .int (I p1))] := hl
  unfold M_leftSize at h
  refine lv_iload_n C0.1 C0.2.1 dX8_leftSize_0 rfl (lv_at hl 0 rfl) ?_
  refine lv_iconst (v := I 2) C0.1 C0.2.1 dX8_leftSize_1 rfl ?_
  obtain ⟨v1, e_v1, i_v1, h⟩ := odiv_s i_p1 h
  refine x_div C0 i_p1 lit_2 e_v1 dX8_leftSize_2 ?_
  exact pret_i C0 hr hlk hE h i_v1 dX8_leftSize_3
set_option maxRecDepth 100000 in
set_option maxHeartbeats 4000000 in
theorem c_M_rightSize (l : Launch) (D : va_G) (g : Ad) {σ : St} {p1 r : Int} (i_p1 : in32 p1) (h : M_rightSize p1 = some r) : CtI l D g yX8_rightSize cX8_rightSize 1 (some .int) 1 (wM g σ) (wM g σ) [.int (I p1)] r (in32 r) := by
  intro sz
  refine met_of (by decide) (Nat.le_of_ble_eq_true rfl) (fun p e s m args below meth c ls H locs C0 hml hr hlk hE hl => ?_)
  have C0 : CX p c cX8_rightSize m s args D g RX8 := C0
  have hl : lv_has ls 1 [(0, .int (I p1))] := hl
  unfold M_rightSize at h
  refine lv_iload_n C0.1 C0.2.1 dX8_rightSize_0 rfl (lv_at hl 0 rfl) ?_
  refine x_if_le C0 i_p1 dX8_rightSize_1 (tgt := 12) (by decide) (fun c9 => ?_) (fun c9 => ?_)
  · have h := ite_f c9 h
    refine lv_iconst (v := I 0) C0.1 C0.2.1 dX8_rightSize_12 rfl ?_
    exact pret_i C0 hr hlk hE h lit_0 dX8_rightSize_13
  · have h := ite_t c9 h
    refine lv_iload_n C0.1 C0.2.1 dX8_rightSize_4 rfl (lv_at hl 0 rfl) ?_
    refine lv_iconst (v := I 1) C0.1 C0.2.1 dX8_rightSize_5 rfl ?_
    obtain ⟨v1, e_v1, i_v1, h⟩ := osub_s h
    refine x_sub C0 e_v1 dX8_rightSize_6 ?_
    refine lv_iconst (v := I 2) C0.1 C0.2.1 dX8_rightSize_7 rfl ?_
    obtain ⟨v2, e_v2, i_v2, h⟩ := odiv_s i_v1 h
    refine x_div C0 i_v1 lit_2 e_v2 dX8_rightSize_8 ?_
    refine x_goto C0 dX8_rightSize_9 (tgt := 13) (by decide) ?_
    exact pret_i C0 hr hlk hE h i_v2 dX8_rightSize_13
set_option maxRecDepth 100000 in
set_option maxHeartbeats 4000000 in
theorem c_M_sides (l : Launch) (D : va_G) (g : Ad) {σ σr : St} {p1 p2 p3 r : Int} (hR : R32 σ) (i_p1 : in32 p1) (i_p2 : in32 p2) (i_p3 : in32 p3) (h : M_sides σ p1 p2 p3 = some (r, σr)) : CtI l D g yX8_sides cX8_sides 5 (some .int) 4 (wM g σ) (wM g σr) [.ref (g.2 100), .int (I p1), .int (I p2), .int (I p3)] r (in32 r ∧ R32 σr) := by
  intro sz
  refine met_of (by decide) (Nat.le_of_ble_eq_true rfl) (fun p e s m args below meth c ls H locs C0 hml hr hlk hE hl => ?_)
  have C0 : CX p c cX8_sides m s args D g RX8 := C0
  have hl : lv_has ls 5 [(0, .ref (g.2 100)), (1, .int (I p1)), (2, .int (I p2)), (3, .int (I p3))] := hl
  unfold M_sides at h
  refine lv_aload_n C0.1 C0.2.1 dX8_sides_0 rfl (lv_at hl 0 rfl) ?_
  refine lv_iconst (v := I 0) C0.1 C0.2.1 dX8_sides_1 rfl ?_
  obtain ⟨s1, e_s1, hR, h⟩ := pf_s hR lit_0 h
  refine M_p_thrown C0 hE e_s1 fk_X8_55 dX8_sides_2 (fun H locs hE => ?_)
  refine lv_iload_n C0.1 C0.2.1 dX8_sides_5 rfl (lv_at hl 1 rfl) ?_
  obtain ⟨v2, h_v2, h⟩ := bndp_s h
  refine callS_i (rest := []) C0 hml hE (c_M_isPlace l D g (σ := s1) i_p1 h_v2) kw_X8_134 ⟨Nat.le_of_ble_eq_true rfl, Nat.le_of_ble_eq_true rfl⟩ rfl hl.1 rfl (Nat.le_of_ble_eq_true rfl) dX8_sides_6 ⟨Nat.zero_le _, Nat.zero_le _⟩ (fun H locs hE i_v2 => ?_)
  refine x_if_eq C0 i_v2 dX8_sides_9 (tgt := 29) (by decide) (fun c9 => ?_) (fun c9 => ?_)
  · have h := ite_t c9 h
    refine lv_iconst (v := I (-1)) C0.1 C0.2.1 dX8_sides_29 rfl ?_
    exact ret_i (wf := wM g) C0 hr hlk hE h lit_m1 hR dX8_sides_30
  · have h := ite_f c9 h
    refine lv_iload_n C0.1 C0.2.1 dX8_sides_12 rfl (lv_at hl 3 rfl) ?_
    obtain ⟨v3, h_v3, h⟩ := bndp_s h
    refine callS_i (rest := []) C0 hml hE (c_M_isPlace l D g (σ := s1) i_p3 h_v3) kw_X8_134 ⟨Nat.le_of_ble_eq_true rfl, Nat.le_of_ble_eq_true rfl⟩ rfl hl.1 rfl (Nat.le_of_ble_eq_true rfl) dX8_sides_13 ⟨Nat.zero_le _, Nat.zero_le _⟩ (fun H locs hE i_v3 => ?_)
    refine x_if_eq C0 i_v3 dX8_sides_16 (tgt := 29) (by decide) (fun c9 => ?_) (fun c9 => ?_)
    · have h := ite_t c9 h
      refine lv_iconst (v := I (-1)) C0.1 C0.2.1 dX8_sides_29 rfl ?_
      exact ret_i (wf := wM g) C0 hr hlk hE h lit_m1 hR dX8_sides_30
    · have h := ite_f c9 h
      refine lv_iload_n C0.1 C0.2.1 dX8_sides_19 rfl (lv_at hl 2 rfl) ?_
      refine x_i2l C0 i_p2 dX8_sides_20 ?_
      refine lv_lconst (v := J 0) C0.1 C0.2.1 dX8_sides_21 (by decide +kernel) ?_
      refine lv_lconst (v := J 1) C0.1 C0.2.1 dX8_sides_22 (by decide +kernel) ?_
      obtain ⟨v4, h_v4, h⟩ := bndp_s h
      refine callS_i (rest := []) C0 hml hE (c_M_in l D g (σ := s1) (in64_of i_p2) (by decide) (by decide) h_v4) kw_X8_65 ⟨Nat.le_of_ble_eq_true rfl, Nat.le_of_ble_eq_true rfl⟩ rfl hl.1 rfl (Nat.le_of_ble_eq_true rfl) dX8_sides_23 ⟨Nat.zero_le _, Nat.zero_le _⟩ (fun H locs hE i_v4 => ?_)
      refine x_if_ne C0 i_v4 dX8_sides_26 (tgt := 31) (by decide) (fun c9 => ?_) (fun c9 => ?_)
      · have h := ite_f c9 h
        refine lv_iload_n C0.1 C0.2.1 dX8_sides_31 rfl (lv_at hl 2 rfl) ?_
        obtain ⟨k6, e_k6, h⟩ := jn_s h
        have h_k6 : ∀ (x5 : Int) (i_x5 : in32 x5) (H : Heap) (locs : List Loc) (ls : Array Slot), EW D (va_A (wM g σ) sz) s.heap (wM g s1) H locs → lv_has ls 5 [(0, .ref (g.2 100)), (1, .int (I p1)), (2, .int (I p2)), (3, .int (I p3))] → k6 x5 = some (r, σr) → W p l e (rmk 4) s m args below meth c H locs 0 0 (MQ below (QCi D (wM g σr) r (in32 r ∧ R32 σr) (va_A (wM g σ) sz)) args s 0 0 (va_A (wM g σ) sz)) (F0 m 56 ls [.int (I x5)]) := by
          intro x5 i_x5 H locs ls hE hl h
          have h := (congrFun e_k6 x5).symm.trans h
          refine lv_istore (lv' := [(4, .int (I x5)), (0, .ref (g.2 100)), (1, .int (I p1)), (2, .int (I p2)), (3, .int (I p3))]) C0.1 C0.2.1 dX8_sides_56 hl (by decide) rfl (fun ls hl => ?_)
          refine lv_iload C0.1 C0.2.1 dX8_sides_58 (lv_at hl 0 rfl) ?_
          refine x_if_ne C0 i_x5 dX8_sides_60 (tgt := 66) (by decide) (fun c9 => ?_) (fun c9 => ?_)
          · have h := ite_f c9 h
            refine lv_aload_n C0.1 C0.2.1 dX8_sides_66 rfl (lv_at hl 1 rfl) ?_
            refine lv_iload_n C0.1 C0.2.1 dX8_sides_67 rfl (lv_at hl 2 rfl) ?_
            obtain ⟨v7, s8, h_v7, h⟩ := bnd_s h
            refine callV_v (rest := []) C0 hml hE (M_rec C0 hE) (c_M_asks l D g hR i_p1 h_v7) kw_X8_176 ⟨Nat.le_of_ble_eq_true rfl, Nat.le_of_ble_eq_true rfl⟩ rfl hl.1 rfl (Nat.le_of_ble_eq_true rfl) dX8_sides_68 ⟨Nat.zero_le _, Nat.zero_le _⟩ (fun H locs hE hR => ?_)
            refine lv_aload_n C0.1 C0.2.1 dX8_sides_71 rfl (lv_at hl 1 rfl) ?_
            refine M_g_sizes C0 hE fk_X8_16 dX8_sides_72 ?_
            refine lv_bipush (v := I 7) C0.1 C0.2.1 dX8_sides_75 (by decide +kernel) ?_
            refine lv_iload C0.1 C0.2.1 dX8_sides_77 (lv_at hl 0 rfl) ?_
            obtain ⟨s9, e_s9, hR, h⟩ := wr_s hR i_x5 h
            refine M_sizes_st C0 hE lit_7 e_s9 dX8_sides_79 (fun H locs hE => ?_)
            refine lv_aload_n C0.1 C0.2.1 dX8_sides_80 rfl (lv_at hl 1 rfl) ?_
            refine lv_bipush (v := I 6) C0.1 C0.2.1 dX8_sides_81 (by decide +kernel) ?_
            refine lv_iconst (v := I 1) C0.1 C0.2.1 dX8_sides_83 rfl ?_
            refine lv_iload_n C0.1 C0.2.1 dX8_sides_84 rfl (lv_at hl 3 rfl) ?_
            obtain ⟨v10, e_v10, i_v10, h⟩ := oadd_s h
            refine x_add C0 e_v10 dX8_sides_85 ?_
            refine lv_iconst (v := I 2) C0.1 C0.2.1 dX8_sides_86 rfl ?_
            refine lv_aload_n C0.1 C0.2.1 dX8_sides_87 rfl (lv_at hl 1 rfl) ?_
            refine M_g_sizes C0 hE fk_X8_16 dX8_sides_88 ?_
            refine lv_bipush (v := I 7) C0.1 C0.2.1 dX8_sides_91 (by decide +kernel) ?_
            obtain ⟨v11, e_v11, i_v11, h⟩ := rd_s hR h
            refine M_sizes_l C0 hE lit_7 e_v11 dX8_sides_93 ?_
            refine lv_bipush (v := I 7) C0.1 C0.2.1 dX8_sides_94 (by decide +kernel) ?_
            refine lv_iconst (v := I 0) C0.1 C0.2.1 dX8_sides_96 rfl ?_
            refine lv_iconst (v := I 1) C0.1 C0.2.1 dX8_sides_97 rfl ?_
            obtain ⟨v12, s13, h_v12, h⟩ := bnd_s h
            refine callV_v (rest := []) C0 hml hE (M_rec C0 hE) (c_M_shares l D g hR lit_6 i_v10 lit_2 i_v11 lit_7 lit_0 lit_1 h_v12) kw_X8_78 ⟨Nat.le_of_ble_eq_true rfl, Nat.le_of_ble_eq_true rfl⟩ rfl hl.1 rfl (Nat.le_of_ble_eq_true rfl) dX8_sides_98 ⟨Nat.zero_le _, Nat.zero_le _⟩ (fun H locs hE hR => ?_)
            refine lv_aload_n C0.1 C0.2.1 dX8_sides_101 rfl (lv_at hl 1 rfl) ?_
            refine lv_bipush (v := I 7) C0.1 C0.2.1 dX8_sides_102 (by decide +kernel) ?_
            refine lv_iload_n C0.1 C0.2.1 dX8_sides_104 rfl (lv_at hl 4 rfl) ?_
            obtain ⟨v14, s15, h_v14, h⟩ := bnd_s h
            refine callV_v (rest := []) C0 hml hE (M_rec C0 hE) (c_M_takes l D g hR lit_7 i_p3 h_v14) kw_X8_82 ⟨Nat.le_of_ble_eq_true rfl, Nat.le_of_ble_eq_true rfl⟩ rfl hl.1 rfl (Nat.le_of_ble_eq_true rfl) dX8_sides_105 ⟨Nat.zero_le _, Nat.zero_le _⟩ (fun H locs hE hR => ?_)
            refine lv_aload_n C0.1 C0.2.1 dX8_sides_108 rfl (lv_at hl 1 rfl) ?_
            refine M_g_sizes C0 hE fk_X8_16 dX8_sides_109 ?_
            refine lv_iload_n C0.1 C0.2.1 dX8_sides_112 rfl (lv_at hl 4 rfl) ?_
            obtain ⟨v16, e_v16, i_v16, h⟩ := rd_s hR h
            refine M_sizes_l C0 hE i_p3 e_v16 dX8_sides_113 ?_
            exact ret_i (wf := wM g) C0 hr hlk hE h i_v16 hR dX8_sides_114
          · have h := ite_t c9 h
            refine lv_bipush (v := I (-2)) C0.1 C0.2.1 dX8_sides_63 (by decide +kernel) ?_
            exact ret_i (wf := wM g) C0 hr hlk hE h lit_m2 hR dX8_sides_65
        refine x_if_ne C0 i_p2 dX8_sides_32 (tgt := 47) (by decide) (fun c9 => ?_) (fun c9 => ?_)
        · have h := ite_f c9 h
          refine lv_aload_n C0.1 C0.2.1 dX8_sides_47 rfl (lv_at hl 0 rfl) ?_
          refine M_g_sizes C0 hE fk_X8_16 dX8_sides_48 ?_
          refine lv_iload_n C0.1 C0.2.1 dX8_sides_51 rfl (lv_at hl 1 rfl) ?_
          obtain ⟨v17, e_v17, i_v17, h⟩ := rd_s hR h
          refine M_sizes_l C0 hE i_p1 e_v17 dX8_sides_52 ?_
          obtain ⟨v18, h_v18, h⟩ := bndp_s h
          refine callS_i (rest := []) C0 hml hE (c_M_rightSize l D g (σ := s1) i_v17 h_v18) kw_X8_173 ⟨Nat.le_of_ble_eq_true rfl, Nat.le_of_ble_eq_true rfl⟩ rfl hl.1 rfl (Nat.le_of_ble_eq_true rfl) dX8_sides_53 ⟨Nat.zero_le _, Nat.zero_le _⟩ (fun H locs hE i_v18 => ?_)
          exact h_k6 v18 i_v18 _ _ _ hE (lv_sub hl [0, 1, 2, 3] rfl) h
        · have h := ite_t c9 h
          refine lv_aload_n C0.1 C0.2.1 dX8_sides_35 rfl (lv_at hl 0 rfl) ?_
          refine M_g_sizes C0 hE fk_X8_16 dX8_sides_36 ?_
          refine lv_iload_n C0.1 C0.2.1 dX8_sides_39 rfl (lv_at hl 1 rfl) ?_
          obtain ⟨v19, e_v19, i_v19, h⟩ := rd_s hR h
          refine M_sizes_l C0 hE i_p1 e_v19 dX8_sides_40 ?_
          obtain ⟨v20, h_v20, h⟩ := bndp_s h
          refine callS_i (rest := []) C0 hml hE (c_M_leftSize l D g (σ := s1) i_v19 h_v20) kw_X8_169 ⟨Nat.le_of_ble_eq_true rfl, Nat.le_of_ble_eq_true rfl⟩ rfl hl.1 rfl (Nat.le_of_ble_eq_true rfl) dX8_sides_41 ⟨Nat.zero_le _, Nat.zero_le _⟩ (fun H locs hE i_v20 => ?_)
          refine x_goto C0 dX8_sides_44 (tgt := 56) (by decide) ?_
          exact h_k6 v20 i_v20 _ _ _ hE (lv_sub hl [0, 1, 2, 3] rfl) h
      · have h := ite_t c9 h
        refine lv_iconst (v := I (-1)) C0.1 C0.2.1 dX8_sides_29 rfl ?_
        exact ret_i (wf := wM g) C0 hr hlk hE h lit_m1 hR dX8_sides_30
set_option maxRecDepth 100000 in
set_option maxHeartbeats 4000000 in
theorem c_M_roots (l : Launch) (D : va_G) (g : Ad) {σ σr : St} {p1 p2 p3 p4 r : Int} (hR : R32 σ) (i_p1 : in32 p1) (i_p2 : in32 p2) (i_p3 : in32 p3) (i_p4 : in32 p4) (h : M_roots σ p1 p2 p3 p4 = some (r, σr)) : CtI l D g yX8_roots cX8_roots 5 (some .int) 3 (wM g σ) (wM g σr) [.ref (g.2 100), .int (I p1), .int (I p2), .int (I p3), .int (I p4)] r (in32 r ∧ R32 σr) := by
  intro sz
  refine met_of (by decide) (Nat.le_of_ble_eq_true rfl) (fun p e s m args below meth c ls H locs C0 hml hr hlk hE hl => ?_)
  have C0 : CX p c cX8_roots m s args D g RX8 := C0
  have hl : lv_has ls 5 [(0, .ref (g.2 100)), (1, .int (I p1)), (2, .int (I p2)), (3, .int (I p3)), (4, .int (I p4))] := hl
  unfold M_roots at h
  refine lv_aload_n C0.1 C0.2.1 dX8_roots_0 rfl (lv_at hl 0 rfl) ?_
  refine lv_iconst (v := I 0) C0.1 C0.2.1 dX8_roots_1 rfl ?_
  obtain ⟨s1, e_s1, hR, h⟩ := pf_s hR lit_0 h
  refine M_p_thrown C0 hE e_s1 fk_X8_55 dX8_roots_2 (fun H locs hE => ?_)
  refine lv_iload_n C0.1 C0.2.1 dX8_roots_5 rfl (lv_at hl 1 rfl) ?_
  obtain ⟨v2, h_v2, h⟩ := bndp_s h
  refine callS_i (rest := []) C0 hml hE (c_M_isNumber l D g (σ := s1) i_p1 h_v2) kw_X8_163 ⟨Nat.le_of_ble_eq_true rfl, Nat.le_of_ble_eq_true rfl⟩ rfl hl.1 rfl (Nat.le_of_ble_eq_true rfl) dX8_roots_6 ⟨Nat.zero_le _, Nat.zero_le _⟩ (fun H locs hE i_v2 => ?_)
  refine x_if_eq C0 i_v2 dX8_roots_9 (tgt := 34) (by decide) (fun c9 => ?_) (fun c9 => ?_)
  · have h := ite_t c9 h
    refine lv_iconst (v := I (-1)) C0.1 C0.2.1 dX8_roots_34 rfl ?_
    exact ret_i (wf := wM g) C0 hr hlk hE h lit_m1 hR dX8_roots_35
  · have h := ite_f c9 h
    refine lv_iload_n C0.1 C0.2.1 dX8_roots_12 rfl (lv_at hl 2 rfl) ?_
    obtain ⟨v3, h_v3, h⟩ := bndp_s h
    refine callS_i (rest := []) C0 hml hE (c_M_isPlace l D g (σ := s1) i_p2 h_v3) kw_X8_134 ⟨Nat.le_of_ble_eq_true rfl, Nat.le_of_ble_eq_true rfl⟩ rfl hl.1 rfl (Nat.le_of_ble_eq_true rfl) dX8_roots_13 ⟨Nat.zero_le _, Nat.zero_le _⟩ (fun H locs hE i_v3 => ?_)
    refine x_if_eq C0 i_v3 dX8_roots_16 (tgt := 34) (by decide) (fun c9 => ?_) (fun c9 => ?_)
    · have h := ite_t c9 h
      refine lv_iconst (v := I (-1)) C0.1 C0.2.1 dX8_roots_34 rfl ?_
      exact ret_i (wf := wM g) C0 hr hlk hE h lit_m1 hR dX8_roots_35
    · have h := ite_f c9 h
      refine lv_iload_n C0.1 C0.2.1 dX8_roots_19 rfl (lv_at hl 3 rfl) ?_
      obtain ⟨v4, h_v4, h⟩ := bndp_s h
      refine callS_i (rest := []) C0 hml hE (c_M_isPlace l D g (σ := s1) i_p3 h_v4) kw_X8_134 ⟨Nat.le_of_ble_eq_true rfl, Nat.le_of_ble_eq_true rfl⟩ rfl hl.1 rfl (Nat.le_of_ble_eq_true rfl) dX8_roots_20 ⟨Nat.zero_le _, Nat.zero_le _⟩ (fun H locs hE i_v4 => ?_)
      refine x_if_eq C0 i_v4 dX8_roots_23 (tgt := 34) (by decide) (fun c9 => ?_) (fun c9 => ?_)
      · have h := ite_t c9 h
        refine lv_iconst (v := I (-1)) C0.1 C0.2.1 dX8_roots_34 rfl ?_
        exact ret_i (wf := wM g) C0 hr hlk hE h lit_m1 hR dX8_roots_35
      · have h := ite_f c9 h
        refine lv_iload C0.1 C0.2.1 dX8_roots_26 (lv_at hl 4 rfl) ?_
        obtain ⟨v5, h_v5, h⟩ := bndp_s h
        refine callS_i (rest := []) C0 hml hE (c_M_isPlace l D g (σ := s1) i_p4 h_v5) kw_X8_134 ⟨Nat.le_of_ble_eq_true rfl, Nat.le_of_ble_eq_true rfl⟩ rfl hl.1 rfl (Nat.le_of_ble_eq_true rfl) dX8_roots_28 ⟨Nat.zero_le _, Nat.zero_le _⟩ (fun H locs hE i_v5 => ?_)
        refine x_if_ne C0 i_v5 dX8_roots_31 (tgt := 36) (by decide) (fun c9 => ?_) (fun c9 => ?_)
        · have h := ite_f c9 h
          refine lv_aload_n C0.1 C0.2.1 dX8_roots_36 rfl (lv_at hl 0 rfl) ?_
          refine M_g_sizes C0 hE fk_X8_16 dX8_roots_37 ?_
          refine lv_iload_n C0.1 C0.2.1 dX8_roots_40 rfl (lv_at hl 2 rfl) ?_
          obtain ⟨v6, e_v6, i_v6, h⟩ := rd_s hR h
          refine M_sizes_l C0 hE i_p2 e_v6 dX8_roots_41 ?_
          refine lv_aload_n C0.1 C0.2.1 dX8_roots_42 rfl (lv_at hl 0 rfl) ?_
          refine M_g_sizes C0 hE fk_X8_16 dX8_roots_43 ?_
          refine lv_iload_n C0.1 C0.2.1 dX8_roots_46 rfl (lv_at hl 3 rfl) ?_
          obtain ⟨v7, e_v7, i_v7, h⟩ := rd_s hR h
          refine M_sizes_l C0 hE i_p3 e_v7 dX8_roots_47 ?_
          obtain ⟨k8, e_k8, h⟩ := jn_s h
          have h_k8 : ∀ (H : Heap) (locs : List Loc) (ls : Array Slot), EW D (va_A (wM g σ) sz) s.heap (wM g s1) H locs → lv_has ls 5 [(0, .ref (g.2 100)), (1, .int (I p1)), (2, .int (I p2)), (3, .int (I p3)), (4, .int (I p4))] → k8 = some (r, σr) → W p l e (rmk 3) s m args below meth c H locs 0 0 (MQ below (QCi D (wM g σr) r (in32 r ∧ R32 σr) (va_A (wM g σ) sz)) args s 0 0 (va_A (wM g σ) sz)) (F0 m 71 ls []) := by
            intro H locs ls hE hl h
            have h := e_k8.symm.trans h
            refine lv_aload_n C0.1 C0.2.1 dX8_roots_71 rfl (lv_at hl 0 rfl) ?_
            refine M_g_sizes C0 hE fk_X8_16 dX8_roots_72 ?_
            refine lv_iload_n C0.1 C0.2.1 dX8_roots_75 rfl (lv_at hl 2 rfl) ?_
            obtain ⟨v9, e_v9, i_v9, h⟩ := rd_s hR h
            refine M_sizes_l C0 hE i_p2 e_v9 dX8_roots_76 ?_
            refine lv_aload_n C0.1 C0.2.1 dX8_roots_77 rfl (lv_at hl 0 rfl) ?_
            refine M_g_sizes C0 hE fk_X8_16 dX8_roots_78 ?_
            refine lv_iload_n C0.1 C0.2.1 dX8_roots_81 rfl (lv_at hl 3 rfl) ?_
            obtain ⟨v10, e_v10, i_v10, h⟩ := rd_s hR h
            refine M_sizes_l C0 hE i_p3 e_v10 dX8_roots_82 ?_
            obtain ⟨v11, e_v11, i_v11, h⟩ := oadd_s h
            refine x_add C0 e_v11 dX8_roots_83 ?_
            refine lv_iconst (v := I 1) C0.1 C0.2.1 dX8_roots_84 rfl ?_
            obtain ⟨v12, e_v12, i_v12, h⟩ := oadd_s h
            refine x_add C0 e_v12 dX8_roots_85 ?_
            refine lv_sipush (v := I 255) C0.1 C0.2.1 dX8_roots_86 (by decide +kernel) ?_
            refine x_icmp_le C0 i_v12 lit_255 dX8_roots_89 (tgt := 95) (by decide) (fun c9 => ?_) (fun c9 => ?_)
            · have h := ite_f c9 h
              refine lv_aload_n C0.1 C0.2.1 dX8_roots_95 rfl (lv_at hl 0 rfl) ?_
              refine lv_bipush (v := I 7) C0.1 C0.2.1 dX8_roots_96 (by decide +kernel) ?_
              refine lv_iload_n C0.1 C0.2.1 dX8_roots_98 rfl (lv_at hl 1 rfl) ?_
              refine lv_iload_n C0.1 C0.2.1 dX8_roots_99 rfl (lv_at hl 2 rfl) ?_
              refine lv_iload_n C0.1 C0.2.1 dX8_roots_100 rfl (lv_at hl 3 rfl) ?_
              obtain ⟨v13, s14, h_v13, h⟩ := bnd_s h
              refine callV_v (rest := []) C0 hml hE (M_rec C0 hE) (c_M_joins l D g hR lit_7 i_p1 i_p2 i_p3 h_v13) kw_X8_157 ⟨Nat.le_of_ble_eq_true rfl, Nat.le_of_ble_eq_true rfl⟩ rfl hl.1 rfl (Nat.le_of_ble_eq_true rfl) dX8_roots_101 ⟨Nat.zero_le _, Nat.zero_le _⟩ (fun H locs hE hR => ?_)
              refine lv_aload_n C0.1 C0.2.1 dX8_roots_104 rfl (lv_at hl 0 rfl) ?_
              refine lv_bipush (v := I 7) C0.1 C0.2.1 dX8_roots_105 (by decide +kernel) ?_
              refine lv_iload C0.1 C0.2.1 dX8_roots_107 (lv_at hl 4 rfl) ?_
              obtain ⟨v15, s16, h_v15, h⟩ := bnd_s h
              refine callV_v (rest := []) C0 hml hE (M_rec C0 hE) (c_M_takes l D g hR lit_7 i_p4 h_v15) kw_X8_82 ⟨Nat.le_of_ble_eq_true rfl, Nat.le_of_ble_eq_true rfl⟩ rfl hl.1 rfl (Nat.le_of_ble_eq_true rfl) dX8_roots_109 ⟨Nat.zero_le _, Nat.zero_le _⟩ (fun H locs hE hR => ?_)
              refine lv_aload_n C0.1 C0.2.1 dX8_roots_112 rfl (lv_at hl 0 rfl) ?_
              refine M_g_sizes C0 hE fk_X8_16 dX8_roots_113 ?_
              refine lv_iload C0.1 C0.2.1 dX8_roots_116 (lv_at hl 4 rfl) ?_
              obtain ⟨v17, e_v17, i_v17, h⟩ := rd_s hR h
              refine M_sizes_l C0 hE i_p4 e_v17 dX8_roots_118 ?_
              exact ret_i (wf := wM g) C0 hr hlk hE h i_v17 hR dX8_roots_119
            · have h := ite_t c9 h
              refine lv_bipush (v := I (-3)) C0.1 C0.2.1 dX8_roots_92 (by decide +kernel) ?_
              exact ret_i (wf := wM g) C0 hr hlk hE h lit_m3 hR dX8_roots_94
          refine x_icmp_eq C0 i_v6 i_v7 dX8_roots_48 (tgt := 71) (by decide) (fun c9 => ?_) (fun c9 => ?_)
          · have h := ite_t c9 h
            exact h_k8 _ _ _ hE (lv_sub hl [0, 1, 2, 3, 4] rfl) h
          · have h := ite_f c9 h
            refine lv_aload_n C0.1 C0.2.1 dX8_roots_51 rfl (lv_at hl 0 rfl) ?_
            refine M_g_sizes C0 hE fk_X8_16 dX8_roots_52 ?_
            refine lv_iload_n C0.1 C0.2.1 dX8_roots_55 rfl (lv_at hl 2 rfl) ?_
            obtain ⟨v18, e_v18, i_v18, h⟩ := rd_s hR h
            refine M_sizes_l C0 hE i_p2 e_v18 dX8_roots_56 ?_
            refine lv_aload_n C0.1 C0.2.1 dX8_roots_57 rfl (lv_at hl 0 rfl) ?_
            refine M_g_sizes C0 hE fk_X8_16 dX8_roots_58 ?_
            refine lv_iload_n C0.1 C0.2.1 dX8_roots_61 rfl (lv_at hl 3 rfl) ?_
            obtain ⟨v19, e_v19, i_v19, h⟩ := rd_s hR h
            refine M_sizes_l C0 hE i_p3 e_v19 dX8_roots_62 ?_
            refine lv_iconst (v := I 1) C0.1 C0.2.1 dX8_roots_63 rfl ?_
            obtain ⟨v20, e_v20, i_v20, h⟩ := oadd_s h
            refine x_add C0 e_v20 dX8_roots_64 ?_
            refine x_icmp_eq C0 i_v18 i_v20 dX8_roots_65 (tgt := 71) (by decide) (fun c9 => ?_) (fun c9 => ?_)
            · have h := ite_t c9 h
              exact h_k8 _ _ _ hE (lv_sub hl [0, 1, 2, 3, 4] rfl) h
            · have h := ite_f c9 h
              refine lv_bipush (v := I (-2)) C0.1 C0.2.1 dX8_roots_68 (by decide +kernel) ?_
              exact ret_i (wf := wM g) C0 hr hlk hE h lit_m2 hR dX8_roots_70
        · have h := ite_t c9 h
          refine lv_iconst (v := I (-1)) C0.1 C0.2.1 dX8_roots_34 rfl ?_
          exact ret_i (wf := wM g) C0 hr hlk hE h lit_m1 hR dX8_roots_35

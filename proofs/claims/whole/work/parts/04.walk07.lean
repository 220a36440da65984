-- THE WALKS, written by program
set_option maxRecDepth 100000 in
set_option maxHeartbeats 4000000 in
theorem c_M_skips (l : Launch) (D : va_G) (g : Ad) {σ σr : St} {p1 p2 p3 r : Int} (hR : R32 σ) (i_p1 : in32 p1) (i_p2 : in32 p2) (i_p3 : in32 p3) (h : M_skips σ p1 p2 p3 = some (r, σr)) : CtI l D g yX8_skips cX8_skips 5 (some .int) 16 (wM g σ) (wM g σr) [.ref (g.2 100), .int (I p1), .int (I p2), .int (I p3)] r (in32 r ∧ R32 σr) := by
  intro sz
  refine met_of (by decide) (Nat.le_of_ble_eq_true rfl) (fun p e s m args below meth c ls H locs C0 hml hr hlk hE hl => ?_)
  have C0 : CX p c cX8_skips m s args D g RX8 := C0
  have hl : lv_has ls 5 [(0, .ref (g.2 100)), (1, .int (I p1)), (2, .int (I p2)), (3, .int (I p3))] := hl
  unfold M_skips at h
  refine lv_aload_n C0.1 C0.2.1 dX8_skips_0 rfl (lv_at hl 0 rfl) ?_
  refine lv_iconst (v := I 0) C0.1 C0.2.1 dX8_skips_1 rfl ?_
  obtain ⟨s1, e_s1, hR, h⟩ := pf_s hR lit_0 h
  refine M_p_thrown C0 hE e_s1 fk_X8_55 dX8_skips_2 (fun H locs hE => ?_)
  refine lv_iload_n C0.1 C0.2.1 dX8_skips_5 rfl (lv_at hl 1 rfl) ?_
  obtain ⟨v2, h_v2, h⟩ := bndp_s h
  refine callS_i (rest := []) C0 hml hE (c_M_isPlace l D g (σ := s1) i_p1 h_v2) kw_X8_134 ⟨Nat.le_of_ble_eq_true rfl, Nat.le_of_ble_eq_true rfl⟩ rfl hl.1 rfl (Nat.le_of_ble_eq_true rfl) dX8_skips_6 ⟨Nat.zero_le _, Nat.zero_le _⟩ (fun H locs hE i_v2 => ?_)
  refine x_if_eq C0 i_v2 dX8_skips_9 (tgt := 35) (by decide) (fun c9 => ?_) (fun c9 => ?_)
  · have h := ite_t c9 h
    refine lv_iconst (v := I (-1)) C0.1 C0.2.1 dX8_skips_35 rfl ?_
    exact ret_i (wf := wM g) C0 hr hlk hE h lit_m1 hR dX8_skips_36
  · have h := ite_f c9 h
    refine lv_iload_n C0.1 C0.2.1 dX8_skips_12 rfl (lv_at hl 2 rfl) ?_
    refine x_i2l C0 i_p2 dX8_skips_13 ?_
    refine lv_lconst (v := J 0) C0.1 C0.2.1 dX8_skips_14 (by decide +kernel) ?_
    refine lv_aload_n C0.1 C0.2.1 dX8_skips_15 rfl (lv_at hl 0 rfl) ?_
    refine M_g_sizes C0 hE fk_X8_16 dX8_skips_16 ?_
    refine lv_iload_n C0.1 C0.2.1 dX8_skips_19 rfl (lv_at hl 1 rfl) ?_
    obtain ⟨v3, e_v3, i_v3, h⟩ := rd_s hR h
    refine M_sizes_l C0 hE i_p1 e_v3 dX8_skips_20 ?_
    refine x_i2l C0 i_v3 dX8_skips_21 ?_
    obtain ⟨v4, h_v4, h⟩ := bndp_s h
    refine callS_i (rest := []) C0 hml hE (c_M_in l D g (σ := s1) (in64_of i_p2) (by decide) (in64_of i_v3) h_v4) kw_X8_65 ⟨Nat.le_of_ble_eq_true rfl, Nat.le_of_ble_eq_true rfl⟩ rfl hl.1 rfl (Nat.le_of_ble_eq_true rfl) dX8_skips_22 ⟨Nat.zero_le _, Nat.zero_le _⟩ (fun H locs hE i_v4 => ?_)
    refine x_if_eq C0 i_v4 dX8_skips_25 (tgt := 35) (by decide) (fun c9 => ?_) (fun c9 => ?_)
    · have h := ite_t c9 h
      refine lv_iconst (v := I (-1)) C0.1 C0.2.1 dX8_skips_35 rfl ?_
      exact ret_i (wf := wM g) C0 hr hlk hE h lit_m1 hR dX8_skips_36
    · have h := ite_f c9 h
      refine lv_iload_n C0.1 C0.2.1 dX8_skips_28 rfl (lv_at hl 3 rfl) ?_
      obtain ⟨v5, h_v5, h⟩ := bndp_s h
      refine callS_i (rest := []) C0 hml hE (c_M_isPlace l D g (σ := s1) i_p3 h_v5) kw_X8_134 ⟨Nat.le_of_ble_eq_true rfl, Nat.le_of_ble_eq_true rfl⟩ rfl hl.1 rfl (Nat.le_of_ble_eq_true rfl) dX8_skips_29 ⟨Nat.zero_le _, Nat.zero_le _⟩ (fun H locs hE i_v5 => ?_)
      refine x_if_ne C0 i_v5 dX8_skips_32 (tgt := 37) (by decide) (fun c9 => ?_) (fun c9 => ?_)
      · have h := ite_f c9 h
        refine lv_aload_n C0.1 C0.2.1 dX8_skips_37 rfl (lv_at hl 0 rfl) ?_
        refine lv_iload_n C0.1 C0.2.1 dX8_skips_38 rfl (lv_at hl 1 rfl) ?_
        obtain ⟨v6, s7, h_v6, h⟩ := bnd_s h
        refine callV_v (rest := []) C0 hml hE (M_rec C0 hE) (c_M_asks l D g hR i_p1 h_v6) kw_X8_176 ⟨Nat.le_of_ble_eq_true rfl, Nat.le_of_ble_eq_true rfl⟩ rfl hl.1 rfl (Nat.le_of_ble_eq_true rfl) dX8_skips_39 ⟨Nat.zero_le _, Nat.zero_le _⟩ (fun H locs hE hR => ?_)
        refine lv_aload_n C0.1 C0.2.1 dX8_skips_42 rfl (lv_at hl 0 rfl) ?_
        obtain ⟨v8, s9, h_v8, h⟩ := bnd_s h
        refine callV_v (rest := []) C0 hml hE (M_rec C0 hE) (c_M_begins l D g hR h_v8) kw_X8_166 ⟨Nat.le_of_ble_eq_true rfl, Nat.le_of_ble_eq_true rfl⟩ rfl hl.1 rfl (Nat.le_of_ble_eq_true rfl) dX8_skips_43 ⟨Nat.zero_le _, Nat.zero_le _⟩ (fun H locs hE hR => ?_)
        refine lv_iconst (v := I 0) C0.1 C0.2.1 dX8_skips_46 rfl ?_
        refine lv_istore (lv' := [(4, .int (I 0)), (0, .ref (g.2 100)), (1, .int (I p1)), (2, .int (I p2)), (3, .int (I p3))]) C0.1 C0.2.1 dX8_skips_47 hl (by decide) rfl (fun ls hl => ?_)
        obtain ⟨k11, e_k11, h⟩ := jn_s h
        have h_k11 : ∀ (s10 : St) (hR : R32 s10) (H : Heap) (locs : List Loc) (ls : Array Slot), EW D (va_A (wM g σ) sz) s.heap (wM g s10) H locs → lv_has ls 5 [(0, .ref (g.2 100)), (3, .int (I p3))] → k11 s10 = some (r, σr) → W p l e (rmk 16) s m args below meth c H locs 0 0 (MQ below (QCi D (wM g σr) r (in32 r ∧ R32 σr) (va_A (wM g σ) sz)) args s 0 0 (va_A (wM g σ) sz)) (F0 m 65 ls []) := by
          intro s10 hR H locs ls hE hl h
          have h := (congrFun e_k11 s10).symm.trans h
          refine lv_aload_n C0.1 C0.2.1 dX8_skips_65 rfl (lv_at hl 0 rfl) ?_
          refine lv_iload_n C0.1 C0.2.1 dX8_skips_66 rfl (lv_at hl 1 rfl) ?_
          obtain ⟨v12, s13, h_v12, h⟩ := bnd_s h
          refine callV_i (rest := []) C0 hml hE (M_rec C0 hE) (c_M_ends l D g hR i_p3 h_v12) kw_X8_205 ⟨Nat.le_of_ble_eq_true rfl, Nat.le_of_ble_eq_true rfl⟩ rfl hl.1 rfl (Nat.le_of_ble_eq_true rfl) dX8_skips_67 ⟨Nat.zero_le _, Nat.zero_le _⟩ (fun H locs hE ⟨i_v12, hR⟩ => ?_)
          exact ret_i (wf := wM g) C0 hr hlk hE h i_v12 hR dX8_skips_70
        have hL49 : ∀ (n : Nat) (s15 : St) (hR : R32 s15) (x14 : Int) (i_x14 : in32 x14) (H : Heap) (locs : List Loc) (ls : Array Slot), EW D (va_A (wM g σ) sz) s.heap (wM g s15) H locs → lv_has ls 5 [(0, .ref (g.2 100)), (2, .int (I p2)), (3, .int (I p3)), (4, .int (I x14))] → M_skips_L49 k11 p2 n s15 x14 = some (r, σr) → W p l e (rmk 16) s m args below meth c H locs 0 0 (MQ below (QCi D (wM g σr) r (in32 r ∧ R32 σr) (va_A (wM g σ) sz)) args s 0 0 (va_A (wM g σ) sz)) (F0 m 49 ls []) := by
          intro n
          induction n with
          | zero => intros; rename_i h; cases h
          | succ n ih16 =>
            intro s15 hR x14 i_x14 H locs ls hE hl h
            unfold M_skips_L49 at h
            refine lv_iload C0.1 C0.2.1 dX8_skips_49 (lv_at hl 3 rfl) ?_
            refine lv_iload_n C0.1 C0.2.1 dX8_skips_51 rfl (lv_at hl 1 rfl) ?_
            refine x_icmp_ge C0 i_x14 i_p2 dX8_skips_52 (tgt := 65) (by decide) (fun c9 => ?_) (fun c9 => ?_)
            · have h := ite_f c9 h
              exact h_k11 s15 hR _ _ _ hE (lv_sub hl [0, 2] rfl) h
            · have h := ite_t c9 h
              refine lv_aload_n C0.1 C0.2.1 dX8_skips_55 rfl (lv_at hl 0 rfl) ?_
              obtain ⟨v17, s18, h_v17, h⟩ := bnd_s h
              refine callV_v (rest := []) C0 hml hE (M_rec C0 hE) (c_M_goesFirst l D g hR h_v17) kw_X8_219 ⟨Nat.le_of_ble_eq_true rfl, Nat.le_of_ble_eq_true rfl⟩ rfl hl.1 rfl (Nat.le_of_ble_eq_true rfl) dX8_skips_56 ⟨Nat.zero_le _, Nat.zero_le _⟩ (fun H locs hE hR => ?_)
              obtain ⟨v19, e_v19, i_v19, h⟩ := oadd_s h
              refine x_iinc (lv' := [(4, .int (I v19)), (0, .ref (g.2 100)), (2, .int (I p2)), (3, .int (I p3))]) C0 dX8_skips_59 hl (k := 3) rfl e_v19 (by decide) rfl (fun ls hl => ?_)
              refine x_goto C0 dX8_skips_62 (tgt := 49) (by decide) ?_
              exact ih16 s18 hR v19 i_v19 _ _ _ hE (lv_sub hl [1, 2, 3, 0] rfl) h
        exact hL49 FU s9 hR 0 lit_0 _ _ _ hE (lv_sub hl [1, 3, 4, 0] rfl) h
      · have h := ite_t c9 h
        refine lv_iconst (v := I (-1)) C0.1 C0.2.1 dX8_skips_35 rfl ?_
        exact ret_i (wf := wM g) C0 hr hlk hE h lit_m1 hR dX8_skips_36
set_option maxRecDepth 100000 in
set_option maxHeartbeats 4000000 in
theorem c_M_slips (l : Launch) (D : va_G) (g : Ad) {σ σr : St} {p1 p2 p3 p4 r : Int} (hR : R32 σ) (i_p1 : in32 p1) (i_p2 : in32 p2) (i_p3 : in32 p3) (i_p4 : in32 p4) (h : M_slips σ p1 p2 p3 p4 = some (r, σr)) : CtI l D g yX8_slips cX8_slips 6 (some .int) 4 (wM g σ) (wM g σr) [.ref (g.2 100), .int (I p1), .int (I p2), .int (I p3), .int (I p4)] r (in32 r ∧ R32 σr) := by
  intro sz
  refine met_of (by decide) (Nat.le_of_ble_eq_true rfl) (fun p e s m args below meth c ls H locs C0 hml hr hlk hE hl => ?_)
  have C0 : CX p c cX8_slips m s args D g RX8 := C0
  have hl : lv_has ls 6 [(0, .ref (g.2 100)), (1, .int (I p1)), (2, .int (I p2)), (3, .int (I p3)), (4, .int (I p4))] := hl
  unfold M_slips at h
  refine lv_aload_n C0.1 C0.2.1 dX8_slips_0 rfl (lv_at hl 0 rfl) ?_
  refine lv_iconst (v := I 0) C0.1 C0.2.1 dX8_slips_1 rfl ?_
  obtain ⟨s1, e_s1, hR, h⟩ := pf_s hR lit_0 h
  refine M_p_thrown C0 hE e_s1 fk_X8_55 dX8_slips_2 (fun H locs hE => ?_)
  refine lv_iload_n C0.1 C0.2.1 dX8_slips_5 rfl (lv_at hl 1 rfl) ?_
  obtain ⟨v2, h_v2, h⟩ := bndp_s h
  refine callS_i (rest := []) C0 hml hE (c_M_isPlace l D g (σ := s1) i_p1 h_v2) kw_X8_134 ⟨Nat.le_of_ble_eq_true rfl, Nat.le_of_ble_eq_true rfl⟩ rfl hl.1 rfl (Nat.le_of_ble_eq_true rfl) dX8_slips_6 ⟨Nat.zero_le _, Nat.zero_le _⟩ (fun H locs hE i_v2 => ?_)
  refine x_if_eq C0 i_v2 dX8_slips_9 (tgt := 43) (by decide) (fun c9 => ?_) (fun c9 => ?_)
  · have h := ite_t c9 h
    refine lv_iconst (v := I (-1)) C0.1 C0.2.1 dX8_slips_43 rfl ?_
    exact ret_i (wf := wM g) C0 hr hlk hE h lit_m1 hR dX8_slips_44
  · have h := ite_f c9 h
    refine lv_iload_n C0.1 C0.2.1 dX8_slips_12 rfl (lv_at hl 2 rfl) ?_
    refine x_i2l C0 i_p2 dX8_slips_13 ?_
    refine lv_lconst (v := J 0) C0.1 C0.2.1 dX8_slips_14 (by decide +kernel) ?_
    refine lv_aload_n C0.1 C0.2.1 dX8_slips_15 rfl (lv_at hl 0 rfl) ?_
    refine M_g_sizes C0 hE fk_X8_16 dX8_slips_16 ?_
    refine lv_iload_n C0.1 C0.2.1 dX8_slips_19 rfl (lv_at hl 1 rfl) ?_
    obtain ⟨v3, e_v3, i_v3, h⟩ := rd_s hR h
    refine M_sizes_l C0 hE i_p1 e_v3 dX8_slips_20 ?_
    refine x_i2l C0 i_v3 dX8_slips_21 ?_
    obtain ⟨v4, h_v4, h⟩ := bndp_s h
    refine callS_i (rest := []) C0 hml hE (c_M_in l D g (σ := s1) (in64_of i_p2) (by decide) (in64_of i_v3) h_v4) kw_X8_65 ⟨Nat.le_of_ble_eq_true rfl, Nat.le_of_ble_eq_true rfl⟩ rfl hl.1 rfl (Nat.le_of_ble_eq_true rfl) dX8_slips_22 ⟨Nat.zero_le _, Nat.zero_le _⟩ (fun H locs hE i_v4 => ?_)
    refine x_if_eq C0 i_v4 dX8_slips_25 (tgt := 43) (by decide) (fun c9 => ?_) (fun c9 => ?_)
    · have h := ite_t c9 h
      refine lv_iconst (v := I (-1)) C0.1 C0.2.1 dX8_slips_43 rfl ?_
      exact ret_i (wf := wM g) C0 hr hlk hE h lit_m1 hR dX8_slips_44
    · have h := ite_f c9 h
      refine lv_iload_n C0.1 C0.2.1 dX8_slips_28 rfl (lv_at hl 3 rfl) ?_
      obtain ⟨v5, h_v5, h⟩ := bndp_s h
      refine callS_i (rest := []) C0 hml hE (c_M_isNumber l D g (σ := s1) i_p3 h_v5) kw_X8_163 ⟨Nat.le_of_ble_eq_true rfl, Nat.le_of_ble_eq_true rfl⟩ rfl hl.1 rfl (Nat.le_of_ble_eq_true rfl) dX8_slips_29 ⟨Nat.zero_le _, Nat.zero_le _⟩ (fun H locs hE i_v5 => ?_)
      refine x_if_eq C0 i_v5 dX8_slips_32 (tgt := 43) (by decide) (fun c9 => ?_) (fun c9 => ?_)
      · have h := ite_t c9 h
        refine lv_iconst (v := I (-1)) C0.1 C0.2.1 dX8_slips_43 rfl ?_
        exact ret_i (wf := wM g) C0 hr hlk hE h lit_m1 hR dX8_slips_44
      · have h := ite_f c9 h
        refine lv_iload C0.1 C0.2.1 dX8_slips_35 (lv_at hl 4 rfl) ?_
        obtain ⟨v6, h_v6, h⟩ := bndp_s h
        refine callS_i (rest := []) C0 hml hE (c_M_isPlace l D g (σ := s1) i_p4 h_v6) kw_X8_134 ⟨Nat.le_of_ble_eq_true rfl, Nat.le_of_ble_eq_true rfl⟩ rfl hl.1 rfl (Nat.le_of_ble_eq_true rfl) dX8_slips_37 ⟨Nat.zero_le _, Nat.zero_le _⟩ (fun H locs hE i_v6 => ?_)
        refine x_if_ne C0 i_v6 dX8_slips_40 (tgt := 45) (by decide) (fun c9 => ?_) (fun c9 => ?_)
        · have h := ite_f c9 h
          refine lv_aload_n C0.1 C0.2.1 dX8_slips_45 rfl (lv_at hl 0 rfl) ?_
          refine M_g_sizes C0 hE fk_X8_16 dX8_slips_46 ?_
          refine lv_iload_n C0.1 C0.2.1 dX8_slips_49 rfl (lv_at hl 1 rfl) ?_
          obtain ⟨v7, e_v7, i_v7, h⟩ := rd_s hR h
          refine M_sizes_l C0 hE i_p1 e_v7 dX8_slips_50 ?_
          refine lv_sipush (v := I 255) C0.1 C0.2.1 dX8_slips_51 (by decide +kernel) ?_
          refine x_icmp_ne C0 i_v7 lit_255 dX8_slips_54 (tgt := 60) (by decide) (fun c9 => ?_) (fun c9 => ?_)
          · have h := ite_f c9 h
            refine lv_aload_n C0.1 C0.2.1 dX8_slips_60 rfl (lv_at hl 0 rfl) ?_
            refine lv_iload_n C0.1 C0.2.1 dX8_slips_61 rfl (lv_at hl 1 rfl) ?_
            obtain ⟨v8, s9, h_v8, h⟩ := bnd_s h
            refine callV_v (rest := []) C0 hml hE (M_rec C0 hE) (c_M_asks l D g hR i_p1 h_v8) kw_X8_176 ⟨Nat.le_of_ble_eq_true rfl, Nat.le_of_ble_eq_true rfl⟩ rfl hl.1 rfl (Nat.le_of_ble_eq_true rfl) dX8_slips_62 ⟨Nat.zero_le _, Nat.zero_le _⟩ (fun H locs hE hR => ?_)
            refine lv_aload_n C0.1 C0.2.1 dX8_slips_65 rfl (lv_at hl 0 rfl) ?_
            refine M_g_sizes C0 hE fk_X8_16 dX8_slips_66 ?_
            refine lv_bipush (v := I 7) C0.1 C0.2.1 dX8_slips_69 (by decide +kernel) ?_
            obtain ⟨v10, e_v10, i_v10, h⟩ := rd_s hR h
            refine M_sizes_l C0 hE lit_7 e_v10 dX8_slips_71 ?_
            refine lv_istore (lv' := [(5, .int (I v10)), (0, .ref (g.2 100)), (1, .int (I p1)), (2, .int (I p2)), (3, .int (I p3)), (4, .int (I p4))]) C0.1 C0.2.1 dX8_slips_72 hl (by decide) rfl (fun ls hl => ?_)
            obtain ⟨k12, e_k12, h⟩ := jn_s h
            have h_k12 : ∀ (s11 : St) (hR : R32 s11) (H : Heap) (locs : List Loc) (ls : Array Slot), EW D (va_A (wM g σ) sz) s.heap (wM g s11) H locs → lv_has ls 6 [(0, .ref (g.2 100)), (2, .int (I p2)), (3, .int (I p3)), (4, .int (I p4))] → k12 s11 = some (r, σr) → W p l e (rmk 4) s m args below meth c H locs 0 0 (MQ below (QCi D (wM g σr) r (in32 r ∧ R32 σr) (va_A (wM g σ) sz)) args s 0 0 (va_A (wM g σ) sz)) (F0 m 107 ls []) := by
              intro s11 hR H locs ls hE hl h
              have h := (congrFun e_k12 s11).symm.trans h
              refine lv_aload_n C0.1 C0.2.1 dX8_slips_107 rfl (lv_at hl 0 rfl) ?_
              refine M_g_numbers C0 hE fk_X8_7 dX8_slips_108 ?_
              refine lv_sipush (v := I 1792) C0.1 C0.2.1 dX8_slips_111 (by decide +kernel) ?_
              refine lv_iload_n C0.1 C0.2.1 dX8_slips_114 rfl (lv_at hl 1 rfl) ?_
              obtain ⟨v13, e_v13, i_v13, h⟩ := oadd_s h
              refine x_add C0 e_v13 dX8_slips_115 ?_
              refine lv_iload_n C0.1 C0.2.1 dX8_slips_116 rfl (lv_at hl 2 rfl) ?_
              obtain ⟨s14, e_s14, hR, h⟩ := wr_s hR i_p3 h
              refine M_numbers_st C0 hE i_v13 e_s14 dX8_slips_117 (fun H locs hE => ?_)
              refine lv_aload_n C0.1 C0.2.1 dX8_slips_118 rfl (lv_at hl 0 rfl) ?_
              refine M_g_sizes C0 hE fk_X8_16 dX8_slips_119 ?_
              refine lv_bipush (v := I 7) C0.1 C0.2.1 dX8_slips_122 (by decide +kernel) ?_
              refine lv_dup2_11 C0.1 C0.2.1 dX8_slips_124 rfl rfl ?_
              obtain ⟨v15, e_v15, i_v15, h⟩ := rd_s hR h
              refine M_sizes_l C0 hE lit_7 e_v15 dX8_slips_125 ?_
              refine lv_iconst (v := I 1) C0.1 C0.2.1 dX8_slips_126 rfl ?_
              obtain ⟨v16, e_v16, i_v16, h⟩ := oadd_s h
              refine x_add C0 e_v16 dX8_slips_127 ?_
              obtain ⟨s17, e_s17, hR, h⟩ := wr_s hR i_v16 h
              refine M_sizes_st C0 hE lit_7 e_s17 dX8_slips_128 (fun H locs hE => ?_)
              refine lv_aload_n C0.1 C0.2.1 dX8_slips_129 rfl (lv_at hl 0 rfl) ?_
              obtain ⟨v18, s19, h_v18, h⟩ := bnd_s h
              refine callV_v (rest := []) C0 hml hE (M_rec C0 hE) (c_M_built l D g hR h_v18) kw_X8_138 ⟨Nat.le_of_ble_eq_true rfl, Nat.le_of_ble_eq_true rfl⟩ rfl hl.1 rfl (Nat.le_of_ble_eq_true rfl) dX8_slips_130 ⟨Nat.zero_le _, Nat.zero_le _⟩ (fun H locs hE hR => ?_)
              refine lv_aload_n C0.1 C0.2.1 dX8_slips_133 rfl (lv_at hl 0 rfl) ?_
              refine lv_bipush (v := I 7) C0.1 C0.2.1 dX8_slips_134 (by decide +kernel) ?_
              refine lv_iload C0.1 C0.2.1 dX8_slips_136 (lv_at hl 3 rfl) ?_
              obtain ⟨v20, s21, h_v20, h⟩ := bnd_s h
              refine callV_v (rest := []) C0 hml hE (M_rec C0 hE) (c_M_takes l D g hR lit_7 i_p4 h_v20) kw_X8_82 ⟨Nat.le_of_ble_eq_true rfl, Nat.le_of_ble_eq_true rfl⟩ rfl hl.1 rfl (Nat.le_of_ble_eq_true rfl) dX8_slips_138 ⟨Nat.zero_le _, Nat.zero_le _⟩ (fun H locs hE hR => ?_)
              refine lv_aload_n C0.1 C0.2.1 dX8_slips_141 rfl (lv_at hl 0 rfl) ?_
              refine M_g_sizes C0 hE fk_X8_16 dX8_slips_142 ?_
              refine lv_iload C0.1 C0.2.1 dX8_slips_145 (lv_at hl 3 rfl) ?_
              obtain ⟨v22, e_v22, i_v22, h⟩ := rd_s hR h
              refine M_sizes_l C0 hE i_p4 e_v22 dX8_slips_147 ?_
              exact ret_i (wf := wM g) C0 hr hlk hE h i_v22 hR dX8_slips_148
            have hL74 : ∀ (n : Nat) (s24 : St) (hR : R32 s24) (x23 : Int) (i_x23 : in32 x23) (H : Heap) (locs : List Loc) (ls : Array Slot), EW D (va_A (wM g σ) sz) s.heap (wM g s24) H locs → lv_has ls 6 [(0, .ref (g.2 100)), (2, .int (I p2)), (3, .int (I p3)), (4, .int (I p4)), (5, .int (I x23))] → M_slips_L74 k12 p2 n s24 x23 = some (r, σr) → W p l e (rmk 4) s m args below meth c H locs 0 0 (MQ below (QCi D (wM g σr) r (in32 r ∧ R32 σr) (va_A (wM g σ) sz)) args s 0 0 (va_A (wM g σ) sz)) (F0 m 74 ls []) := by
              intro n
              induction n with
              | zero => intros; rename_i h; cases h
              | succ n ih25 =>
                intro s24 hR x23 i_x23 H locs ls hE hl h
                unfold M_slips_L74 at h
                refine lv_iload C0.1 C0.2.1 dX8_slips_74 (lv_at hl 4 rfl) ?_
                refine lv_iload_n C0.1 C0.2.1 dX8_slips_76 rfl (lv_at hl 1 rfl) ?_
                refine x_icmp_le C0 i_x23 i_p2 dX8_slips_77 (tgt := 107) (by decide) (fun c9 => ?_) (fun c9 => ?_)
                · have h := ite_f c9 h
                  exact h_k12 s24 hR _ _ _ hE (lv_sub hl [0, 1, 2, 3] rfl) h
                · have h := ite_t c9 h
                  refine lv_aload_n C0.1 C0.2.1 dX8_slips_80 rfl (lv_at hl 0 rfl) ?_
                  refine M_g_numbers C0 hE fk_X8_7 dX8_slips_81 ?_
                  refine lv_sipush (v := I 1792) C0.1 C0.2.1 dX8_slips_84 (by decide +kernel) ?_
                  refine lv_iload C0.1 C0.2.1 dX8_slips_87 (lv_at hl 4 rfl) ?_
                  obtain ⟨v26, e_v26, i_v26, h⟩ := oadd_s h
                  refine x_add C0 e_v26 dX8_slips_89 ?_
                  refine lv_aload_n C0.1 C0.2.1 dX8_slips_90 rfl (lv_at hl 0 rfl) ?_
                  refine lv_bipush (v := I 6) C0.1 C0.2.1 dX8_slips_91 (by decide +kernel) ?_
                  refine lv_iload C0.1 C0.2.1 dX8_slips_93 (lv_at hl 4 rfl) ?_
                  refine lv_iconst (v := I 1) C0.1 C0.2.1 dX8_slips_95 rfl ?_
                  obtain ⟨v27, e_v27, i_v27, h⟩ := osub_s h
                  refine x_sub C0 e_v27 dX8_slips_96 ?_
                  obtain ⟨v28, h_v28, h⟩ := bndp_s h
                  refine callV_i (rest := [.int (I v26), .ref (g.2 101)]) C0 hml hE (M_rec C0 hE) (c_M_number l D g hR lit_6 i_v27 h_v28) kw_X8_99 ⟨Nat.le_of_ble_eq_true rfl, Nat.le_of_ble_eq_true rfl⟩ rfl hl.1 rfl (Nat.le_of_ble_eq_true rfl) dX8_slips_97 ⟨Nat.zero_le _, Nat.zero_le _⟩ (fun H locs hE i_v28 => ?_)
                  obtain ⟨s29, e_s29, hR, h⟩ := wr_s hR i_v28 h
                  refine M_numbers_st C0 hE i_v26 e_s29 dX8_slips_100 (fun H locs hE => ?_)
                  obtain ⟨v30, e_v30, i_v30, h⟩ := oadd_s h
                  refine x_iinc (lv' := [(5, .int (I v30)), (0, .ref (g.2 100)), (2, .int (I p2)), (3, .int (I p3)), (4, .int (I p4))]) C0 dX8_slips_101 hl (k := 4) rfl e_v30 (by decide) rfl (fun ls hl => ?_)
                  refine x_goto C0 dX8_slips_104 (tgt := 74) (by decide) ?_
                  exact ih25 s29 hR v30 i_v30 _ _ _ hE (lv_sub hl [1, 2, 3, 4, 0] rfl) h
            exact hL74 FU s9 hR v10 i_v10 _ _ _ hE (lv_sub hl [1, 3, 4, 5, 0] rfl) h
          · have h := ite_t c9 h
            refine lv_bipush (v := I (-2)) C0.1 C0.2.1 dX8_slips_57 (by decide +kernel) ?_
            exact ret_i (wf := wM g) C0 hr hlk hE h lit_m2 hR dX8_slips_59
        · have h := ite_t c9 h
          refine lv_iconst (v := I (-1)) C0.1 C0.2.1 dX8_slips_43 rfl ?_
          exact ret_i (wf := wM g) C0 hr hlk hE h lit_m1 hR dX8_slips_44
set_option maxRecDepth 100000 in
set_option maxHeartbeats 4000000 in
theorem c_M_swaps (l : Launch) (D : va_G) (g : Ad) {σ σr : St} {p1 p2 p3 p4 r : Int} (hR : R32 σ) (i_p1 : in32 p1) (i_p2 : in32 p2) (i_p3 : in32 p3) (i_p4 : in32 p4) (h : M_swaps σ p1 p2 p3 p4 = some (r, σr)) : CtI l D g yX8_swaps cX8_swaps 5 (some .int) 4 (wM g σ) (wM g σr) [.ref (g.2 100), .int (I p1), .int (I p2), .int (I p3), .int (I p4)] r (in32 r ∧ R32 σr) := by
  intro sz
  refine met_of (by decide) (Nat.le_of_ble_eq_true rfl) (fun p e s m args below meth c ls H locs C0 hml hr hlk hE hl => ?_)
  have C0 : CX p c cX8_swaps m s args D g RX8 := C0
  have hl : lv_has ls 5 [(0, .ref (g.2 100)), (1, .int (I p1)), (2, .int (I p2)), (3, .int (I p3)), (4, .int (I p4))] := hl
  unfold M_swaps at h
  refine lv_aload_n C0.1 C0.2.1 dX8_swaps_0 rfl (lv_at hl 0 rfl) ?_
  refine lv_iconst (v := I 0) C0.1 C0.2.1 dX8_swaps_1 rfl ?_
  obtain ⟨s1, e_s1, hR, h⟩ := pf_s hR lit_0 h
  refine M_p_thrown C0 hE e_s1 fk_X8_55 dX8_swaps_2 (fun H locs hE => ?_)
  refine lv_iload_n C0.1 C0.2.1 dX8_swaps_5 rfl (lv_at hl 1 rfl) ?_
  obtain ⟨v2, h_v2, h⟩ := bndp_s h
  refine callS_i (rest := []) C0 hml hE (c_M_isPlace l D g (σ := s1) i_p1 h_v2) kw_X8_134 ⟨Nat.le_of_ble_eq_true rfl, Nat.le_of_ble_eq_true rfl⟩ rfl hl.1 rfl (Nat.le_of_ble_eq_true rfl) dX8_swaps_6 ⟨Nat.zero_le _, Nat.zero_le _⟩ (fun H locs hE i_v2 => ?_)
  refine x_if_eq C0 i_v2 dX8_swaps_9 (tgt := 38) (by decide) (fun c9 => ?_) (fun c9 => ?_)
  · have h := ite_t c9 h
    refine lv_iconst (v := I (-1)) C0.1 C0.2.1 dX8_swaps_38 rfl ?_
    exact ret_i (wf := wM g) C0 hr hlk hE h lit_m1 hR dX8_swaps_39
  · have h := ite_f c9 h
    refine lv_aload_n C0.1 C0.2.1 dX8_swaps_12 rfl (lv_at hl 0 rfl) ?_
    refine lv_iload_n C0.1 C0.2.1 dX8_swaps_13 rfl (lv_at hl 1 rfl) ?_
    refine lv_iload_n C0.1 C0.2.1 dX8_swaps_14 rfl (lv_at hl 2 rfl) ?_
    obtain ⟨v3, h_v3, h⟩ := bndp_s h
    refine callV_i (rest := []) C0 hml hE (M_rec C0 hE) (c_M_isIndex l D g hR i_p1 i_p2 h_v3) kw_X8_191 ⟨Nat.le_of_ble_eq_true rfl, Nat.le_of_ble_eq_true rfl⟩ rfl hl.1 rfl (Nat.le_of_ble_eq_true rfl) dX8_swaps_15 ⟨Nat.zero_le _, Nat.zero_le _⟩ (fun H locs hE i_v3 => ?_)
    refine x_if_eq C0 i_v3 dX8_swaps_18 (tgt := 38) (by decide) (fun c9 => ?_) (fun c9 => ?_)
    · have h := ite_t c9 h
      refine lv_iconst (v := I (-1)) C0.1 C0.2.1 dX8_swaps_38 rfl ?_
      exact ret_i (wf := wM g) C0 hr hlk hE h lit_m1 hR dX8_swaps_39
    · have h := ite_f c9 h
      refine lv_aload_n C0.1 C0.2.1 dX8_swaps_21 rfl (lv_at hl 0 rfl) ?_
      refine lv_iload_n C0.1 C0.2.1 dX8_swaps_22 rfl (lv_at hl 1 rfl) ?_
      refine lv_iload_n C0.1 C0.2.1 dX8_swaps_23 rfl (lv_at hl 3 rfl) ?_
      obtain ⟨v4, h_v4, h⟩ := bndp_s h
      refine callV_i (rest := []) C0 hml hE (M_rec C0 hE) (c_M_isIndex l D g hR i_p1 i_p3 h_v4) kw_X8_191 ⟨Nat.le_of_ble_eq_true rfl, Nat.le_of_ble_eq_true rfl⟩ rfl hl.1 rfl (Nat.le_of_ble_eq_true rfl) dX8_swaps_24 ⟨Nat.zero_le _, Nat.zero_le _⟩ (fun H locs hE i_v4 => ?_)
      refine x_if_eq C0 i_v4 dX8_swaps_27 (tgt := 38) (by decide) (fun c9 => ?_) (fun c9 => ?_)
      · have h := ite_t c9 h
        refine lv_iconst (v := I (-1)) C0.1 C0.2.1 dX8_swaps_38 rfl ?_
        exact ret_i (wf := wM g) C0 hr hlk hE h lit_m1 hR dX8_swaps_39
      · have h := ite_f c9 h
        refine lv_iload C0.1 C0.2.1 dX8_swaps_30 (lv_at hl 4 rfl) ?_
        obtain ⟨v5, h_v5, h⟩ := bndp_s h
        refine callS_i (rest := []) C0 hml hE (c_M_isPlace l D g (σ := s1) i_p4 h_v5) kw_X8_134 ⟨Nat.le_of_ble_eq_true rfl, Nat.le_of_ble_eq_true rfl⟩ rfl hl.1 rfl (Nat.le_of_ble_eq_true rfl) dX8_swaps_32 ⟨Nat.zero_le _, Nat.zero_le _⟩ (fun H locs hE i_v5 => ?_)
        refine x_if_ne C0 i_v5 dX8_swaps_35 (tgt := 40) (by decide) (fun c9 => ?_) (fun c9 => ?_)
        · have h := ite_f c9 h
          refine lv_aload_n C0.1 C0.2.1 dX8_swaps_40 rfl (lv_at hl 0 rfl) ?_
          refine lv_iload_n C0.1 C0.2.1 dX8_swaps_41 rfl (lv_at hl 1 rfl) ?_
          obtain ⟨v6, s7, h_v6, h⟩ := bnd_s h
          refine callV_v (rest := []) C0 hml hE (M_rec C0 hE) (c_M_asks l D g hR i_p1 h_v6) kw_X8_176 ⟨Nat.le_of_ble_eq_true rfl, Nat.le_of_ble_eq_true rfl⟩ rfl hl.1 rfl (Nat.le_of_ble_eq_true rfl) dX8_swaps_42 ⟨Nat.zero_le _, Nat.zero_le _⟩ (fun H locs hE hR => ?_)
          refine lv_aload_n C0.1 C0.2.1 dX8_swaps_45 rfl (lv_at hl 0 rfl) ?_
          obtain ⟨v8, s9, h_v8, h⟩ := bnd_s h
          refine callV_v (rest := []) C0 hml hE (M_rec C0 hE) (c_M_begins l D g hR h_v8) kw_X8_166 ⟨Nat.le_of_ble_eq_true rfl, Nat.le_of_ble_eq_true rfl⟩ rfl hl.1 rfl (Nat.le_of_ble_eq_true rfl) dX8_swaps_46 ⟨Nat.zero_le _, Nat.zero_le _⟩ (fun H locs hE hR => ?_)
          refine lv_aload_n C0.1 C0.2.1 dX8_swaps_49 rfl (lv_at hl 0 rfl) ?_
          refine lv_iload_n C0.1 C0.2.1 dX8_swaps_50 rfl (lv_at hl 1 rfl) ?_
          refine lv_iload_n C0.1 C0.2.1 dX8_swaps_51 rfl (lv_at hl 2 rfl) ?_
          obtain ⟨v10, h_v10, h⟩ := bndp_s h
          refine callV_i (rest := []) C0 hml hE (M_rec C0 hE) (c_M_number l D g hR i_p1 i_p2 h_v10) kw_X8_99 ⟨Nat.le_of_ble_eq_true rfl, Nat.le_of_ble_eq_true rfl⟩ rfl hl.1 rfl (Nat.le_of_ble_eq_true rfl) dX8_swaps_52 ⟨Nat.zero_le _, Nat.zero_le _⟩ (fun H locs hE i_v10 => ?_)
          refine lv_aload_n C0.1 C0.2.1 dX8_swaps_55 rfl (lv_at hl 0 rfl) ?_
          refine lv_iload_n C0.1 C0.2.1 dX8_swaps_56 rfl (lv_at hl 1 rfl) ?_
          refine lv_iload_n C0.1 C0.2.1 dX8_swaps_57 rfl (lv_at hl 3 rfl) ?_
          obtain ⟨v11, h_v11, h⟩ := bndp_s h
          refine callV_i (rest := [.int (I v10)]) C0 hml hE (M_rec C0 hE) (c_M_number l D g hR i_p1 i_p3 h_v11) kw_X8_99 ⟨Nat.le_of_ble_eq_true rfl, Nat.le_of_ble_eq_true rfl⟩ rfl hl.1 rfl (Nat.le_of_ble_eq_true rfl) dX8_swaps_58 ⟨Nat.zero_le _, Nat.zero_le _⟩ (fun H locs hE i_v11 => ?_)
          obtain ⟨k13, e_k13, h⟩ := jn_s h
          have h_k13 : ∀ (s12 : St) (hR : R32 s12) (H : Heap) (locs : List Loc) (ls : Array Slot), EW D (va_A (wM g σ) sz) s.heap (wM g s12) H locs → lv_has ls 5 [(0, .ref (g.2 100)), (4, .int (I p4))] → k13 s12 = some (r, σr) → W p l e (rmk 4) s m args below meth c H locs 0 0 (MQ below (QCi D (wM g σr) r (in32 r ∧ R32 σr) (va_A (wM g σ) sz)) args s 0 0 (va_A (wM g σ) sz)) (F0 m 118 ls []) := by
            intro s12 hR H locs ls hE hl h
            have h := (congrFun e_k13 s12).symm.trans h
            refine lv_aload_n C0.1 C0.2.1 dX8_swaps_118 rfl (lv_at hl 0 rfl) ?_
            refine lv_iload C0.1 C0.2.1 dX8_swaps_119 (lv_at hl 1 rfl) ?_
            obtain ⟨v14, s15, h_v14, h⟩ := bnd_s h
            refine callV_i (rest := []) C0 hml hE (M_rec C0 hE) (c_M_ends l D g hR i_p4 h_v14) kw_X8_205 ⟨Nat.le_of_ble_eq_true rfl, Nat.le_of_ble_eq_true rfl⟩ rfl hl.1 rfl (Nat.le_of_ble_eq_true rfl) dX8_swaps_121 ⟨Nat.zero_le _, Nat.zero_le _⟩ (fun H locs hE ⟨i_v14, hR⟩ => ?_)
            exact ret_i (wf := wM g) C0 hr hlk hE h i_v14 hR dX8_swaps_124
          refine x_icmp_eq C0 i_v10 i_v11 dX8_swaps_61 (tgt := 118) (by decide) (fun c9 => ?_) (fun c9 => ?_)
          · have h := ite_t c9 h
            exact h_k13 s9 hR _ _ _ hE (lv_sub hl [0, 4] rfl) h
          · have h := ite_f c9 h
            refine lv_aload_n C0.1 C0.2.1 dX8_swaps_64 rfl (lv_at hl 0 rfl) ?_
            obtain ⟨v16, s17, h_v16, h⟩ := bnd_s h
            refine callV_v (rest := []) C0 hml hE (M_rec C0 hE) (c_M_clearsNew l D g hR h_v16) kw_X8_195 ⟨Nat.le_of_ble_eq_true rfl, Nat.le_of_ble_eq_true rfl⟩ rfl hl.1 rfl (Nat.le_of_ble_eq_true rfl) dX8_swaps_65 ⟨Nat.zero_le _, Nat.zero_le _⟩ (fun H locs hE hR => ?_)
            refine lv_aload_n C0.1 C0.2.1 dX8_swaps_68 rfl (lv_at hl 0 rfl) ?_
            refine lv_iload_n C0.1 C0.2.1 dX8_swaps_69 rfl (lv_at hl 2 rfl) ?_
            refine lv_iconst (v := I 1) C0.1 C0.2.1 dX8_swaps_70 rfl ?_
            obtain ⟨v18, s19, h_v18, h⟩ := bnd_s h
            refine callV_v (rest := []) C0 hml hE (M_rec C0 hE) (c_M_marks l D g hR i_p2 lit_1 h_v18) kw_X8_198 ⟨Nat.le_of_ble_eq_true rfl, Nat.le_of_ble_eq_true rfl⟩ rfl hl.1 rfl (Nat.le_of_ble_eq_true rfl) dX8_swaps_71 ⟨Nat.zero_le _, Nat.zero_le _⟩ (fun H locs hE hR => ?_)
            refine lv_aload_n C0.1 C0.2.1 dX8_swaps_74 rfl (lv_at hl 0 rfl) ?_
            refine lv_iload_n C0.1 C0.2.1 dX8_swaps_75 rfl (lv_at hl 3 rfl) ?_
            refine lv_iconst (v := I 1) C0.1 C0.2.1 dX8_swaps_76 rfl ?_
            obtain ⟨v20, s21, h_v20, h⟩ := bnd_s h
            refine callV_v (rest := []) C0 hml hE (M_rec C0 hE) (c_M_marks l D g hR i_p3 lit_1 h_v20) kw_X8_198 ⟨Nat.le_of_ble_eq_true rfl, Nat.le_of_ble_eq_true rfl⟩ rfl hl.1 rfl (Nat.le_of_ble_eq_true rfl) dX8_swaps_77 ⟨Nat.zero_le _, Nat.zero_le _⟩ (fun H locs hE hR => ?_)
            refine lv_aload_n C0.1 C0.2.1 dX8_swaps_80 rfl (lv_at hl 0 rfl) ?_
            refine M_g_numbers C0 hE fk_X8_7 dX8_swaps_81 ?_
            refine lv_sipush (v := I 1792) C0.1 C0.2.1 dX8_swaps_84 (by decide +kernel) ?_
            refine lv_iload_n C0.1 C0.2.1 dX8_swaps_87 rfl (lv_at hl 2 rfl) ?_
            obtain ⟨v22, e_v22, i_v22, h⟩ := oadd_s h
            refine x_add C0 e_v22 dX8_swaps_88 ?_
            refine lv_aload_n C0.1 C0.2.1 dX8_swaps_89 rfl (lv_at hl 0 rfl) ?_
            refine lv_bipush (v := I 6) C0.1 C0.2.1 dX8_swaps_90 (by decide +kernel) ?_
            refine lv_iload_n C0.1 C0.2.1 dX8_swaps_92 rfl (lv_at hl 3 rfl) ?_
            obtain ⟨v23, h_v23, h⟩ := bndp_s h
            refine callV_i (rest := [.int (I v22), .ref (g.2 101)]) C0 hml hE (M_rec C0 hE) (c_M_number l D g hR lit_6 i_p3 h_v23) kw_X8_99 ⟨Nat.le_of_ble_eq_true rfl, Nat.le_of_ble_eq_true rfl⟩ rfl hl.1 rfl (Nat.le_of_ble_eq_true rfl) dX8_swaps_93 ⟨Nat.zero_le _, Nat.zero_le _⟩ (fun H locs hE i_v23 => ?_)
            obtain ⟨s24, e_s24, hR, h⟩ := wr_s hR i_v23 h
            refine M_numbers_st C0 hE i_v22 e_s24 dX8_swaps_96 (fun H locs hE => ?_)
            refine lv_aload_n C0.1 C0.2.1 dX8_swaps_97 rfl (lv_at hl 0 rfl) ?_
            refine M_g_numbers C0 hE fk_X8_7 dX8_swaps_98 ?_
            refine lv_sipush (v := I 1792) C0.1 C0.2.1 dX8_swaps_101 (by decide +kernel) ?_
            refine lv_iload_n C0.1 C0.2.1 dX8_swaps_104 rfl (lv_at hl 3 rfl) ?_
            obtain ⟨v25, e_v25, i_v25, h⟩ := oadd_s h
            refine x_add C0 e_v25 dX8_swaps_105 ?_
            refine lv_aload_n C0.1 C0.2.1 dX8_swaps_106 rfl (lv_at hl 0 rfl) ?_
            refine lv_bipush (v := I 6) C0.1 C0.2.1 dX8_swaps_107 (by decide +kernel) ?_
            refine lv_iload_n C0.1 C0.2.1 dX8_swaps_109 rfl (lv_at hl 2 rfl) ?_
            obtain ⟨v26, h_v26, h⟩ := bndp_s h
            refine callV_i (rest := [.int (I v25), .ref (g.2 101)]) C0 hml hE (M_rec C0 hE) (c_M_number l D g hR lit_6 i_p2 h_v26) kw_X8_99 ⟨Nat.le_of_ble_eq_true rfl, Nat.le_of_ble_eq_true rfl⟩ rfl hl.1 rfl (Nat.le_of_ble_eq_true rfl) dX8_swaps_110 ⟨Nat.zero_le _, Nat.zero_le _⟩ (fun H locs hE i_v26 => ?_)
            obtain ⟨s27, e_s27, hR, h⟩ := wr_s hR i_v26 h
            refine M_numbers_st C0 hE i_v25 e_s27 dX8_swaps_113 (fun H locs hE => ?_)
            refine lv_aload_n C0.1 C0.2.1 dX8_swaps_114 rfl (lv_at hl 0 rfl) ?_
            obtain ⟨v28, s29, h_v28, h⟩ := bnd_s h
            refine callV_v (rest := []) C0 hml hE (M_rec C0 hE) (c_M_renews l D g hR h_v28) kw_X8_202 ⟨Nat.le_of_ble_eq_true rfl, Nat.le_of_ble_eq_true rfl⟩ rfl hl.1 rfl (Nat.le_of_ble_eq_true rfl) dX8_swaps_115 ⟨Nat.zero_le _, Nat.zero_le _⟩ (fun H locs hE hR => ?_)
            exact h_k13 s29 hR _ _ _ hE (lv_sub hl [0, 4] rfl) h
        · have h := ite_t c9 h
          refine lv_iconst (v := I (-1)) C0.1 C0.2.1 dX8_swaps_38 rfl ?_
          exact ret_i (wf := wM g) C0 hr hlk hE h lit_m1 hR dX8_swaps_39
set_option maxRecDepth 100000 in
set_option maxHeartbeats 4000000 in
theorem c_M_builds (l : Launch) (D : va_G) (g : Ad) {σ σr : St} {p1 r : Int} (hR : R32 σ) (i_p1 : in32 p1) (h : M_builds σ p1 = some (r, σr)) : CtI l D g yX8_builds cX8_builds 2 (some .int) 3 (wM g σ) (wM g σr) [.ref (g.2 100), .int (I p1)] r (in32 r ∧ R32 σr) := by
  intro sz
  refine met_of (by decide) (Nat.le_of_ble_eq_true rfl) (fun p e s m args below meth c ls H locs C0 hml hr hlk hE hl => ?_)
  have C0 : CX p c cX8_builds m s args D g RX8 := C0
  have hl : lv_has ls 2 [(0, .ref (g.2 100)), (1, .int (I p1))] := hl
  unfold M_builds at h
  refine lv_aload_n C0.1 C0.2.1 dX8_builds_0 rfl (lv_at hl 0 rfl) ?_
  obtain ⟨v1, s2, h_v1, h⟩ := bnd_s h
  refine callV_v (rest := []) C0 hml hE (M_rec C0 hE) (c_M_built l D g hR h_v1) kw_X8_138 ⟨Nat.le_of_ble_eq_true rfl, Nat.le_of_ble_eq_true rfl⟩ rfl hl.1 rfl (Nat.le_of_ble_eq_true rfl) dX8_builds_1 ⟨Nat.zero_le _, Nat.zero_le _⟩ (fun H locs hE hR => ?_)
  refine lv_aload_n C0.1 C0.2.1 dX8_builds_4 rfl (lv_at hl 0 rfl) ?_
  refine lv_bipush (v := I 7) C0.1 C0.2.1 dX8_builds_5 (by decide +kernel) ?_
  refine lv_iload_n C0.1 C0.2.1 dX8_builds_7 rfl (lv_at hl 1 rfl) ?_
  obtain ⟨v3, s4, h_v3, h⟩ := bnd_s h
  refine callV_v (rest := []) C0 hml hE (M_rec C0 hE) (c_M_takes l D g hR lit_7 i_p1 h_v3) kw_X8_82 ⟨Nat.le_of_ble_eq_true rfl, Nat.le_of_ble_eq_true rfl⟩ rfl hl.1 rfl (Nat.le_of_ble_eq_true rfl) dX8_builds_8 ⟨Nat.zero_le _, Nat.zero_le _⟩ (fun H locs hE hR => ?_)
  refine lv_aload_n C0.1 C0.2.1 dX8_builds_11 rfl (lv_at hl 0 rfl) ?_
  refine M_g_sizes C0 hE fk_X8_16 dX8_builds_12 ?_
  refine lv_iload_n C0.1 C0.2.1 dX8_builds_15 rfl (lv_at hl 1 rfl) ?_
  obtain ⟨v5, e_v5, i_v5, h⟩ := rd_s hR h
  refine M_sizes_l C0 hE i_p1 e_v5 dX8_builds_16 ?_
  exact ret_i (wf := wM g) C0 hr hlk hE h i_v5 hR dX8_builds_17
set_option maxRecDepth 100000 in
set_option maxHeartbeats 4000000 in
theorem c_M_lays (l : Launch) (D : va_G) (g : Ad) {σ σr : St} {p1 r : Int} (hR : R32 σ) (i_p1 : in32 p1) (h : M_lays σ p1 = some (r, σr)) : CtV l D g yX8_lays cX8_lays 2 none 1 (wM g σ) (wM g σr) [.ref (g.2 100), .int (I p1)] (R32 σr) := by
  intro sz
  refine met_of (by decide) (Nat.le_of_ble_eq_true rfl) (fun p e s m args below meth c ls H locs C0 hml hr hlk hE hl => ?_)
  have C0 : CX p c cX8_lays m s args D g RX8 := C0
  have hl : lv_has ls 2 [(0, .ref (g.2 100)), (1, .int (I p1))] := hl
  unfold M_lays at h
  refine lv_aload_n C0.1 C0.2.1 dX8_lays_0 rfl (lv_at hl 0 rfl) ?_
  refine M_g_numbers C0 hE fk_X8_7 dX8_lays_1 ?_
  refine lv_sipush (v := I 1792) C0.1 C0.2.1 dX8_lays_4 (by decide +kernel) ?_
  refine lv_aload_n C0.1 C0.2.1 dX8_lays_7 rfl (lv_at hl 0 rfl) ?_
  refine M_g_sizes C0 hE fk_X8_16 dX8_lays_8 ?_
  refine lv_bipush (v := I 7) C0.1 C0.2.1 dX8_lays_11 (by decide +kernel) ?_
  obtain ⟨v1, e_v1, i_v1, h⟩ := rd_s hR h
  refine M_sizes_l C0 hE lit_7 e_v1 dX8_lays_13 ?_
  obtain ⟨v2, e_v2, i_v2, h⟩ := oadd_s h
  refine x_add C0 e_v2 dX8_lays_14 ?_
  refine lv_iload_n C0.1 C0.2.1 dX8_lays_15 rfl (lv_at hl 1 rfl) ?_
  obtain ⟨s3, e_s3, hR, h⟩ := wr_s hR i_p1 h
  refine M_numbers_st C0 hE i_v2 e_s3 dX8_lays_16 (fun H locs hE => ?_)
  refine lv_aload_n C0.1 C0.2.1 dX8_lays_17 rfl (lv_at hl 0 rfl) ?_
  refine M_g_sizes C0 hE fk_X8_16 dX8_lays_18 ?_
  refine lv_bipush (v := I 7) C0.1 C0.2.1 dX8_lays_21 (by decide +kernel) ?_
  refine lv_dup2_11 C0.1 C0.2.1 dX8_lays_23 rfl rfl ?_
  obtain ⟨v4, e_v4, i_v4, h⟩ := rd_s hR h
  refine M_sizes_l C0 hE lit_7 e_v4 dX8_lays_24 ?_
  refine lv_iconst (v := I 1) C0.1 C0.2.1 dX8_lays_25 rfl ?_
  obtain ⟨v5, e_v5, i_v5, h⟩ := oadd_s h
  refine x_add C0 e_v5 dX8_lays_26 ?_
  obtain ⟨s6, e_s6, hR, h⟩ := wr_s hR i_v5 h
  refine M_sizes_st C0 hE lit_7 e_s6 dX8_lays_27 (fun H locs hE => ?_)
  exact ret_v (wf := wM g) C0 hr hlk hE h hR dX8_lays_28
set_option maxRecDepth 100000 in
set_option maxHeartbeats 4000000 in
theorem c_M_held (l : Launch) (D : va_G) (g : Ad) {σ : St} {p1 r : Int} (i_p1 : in32 p1) (h : M_held p1 = some r) : CtI l D g yX8_held cX8_held 1 (some .int) 1 (wM g σ) (wM g σ) [.int (I p1)] r (in32 r) := by
  intro sz
  refine met_of (by decide) (Nat.le_of_ble_eq_true rfl) (fun p e s m args below meth c ls H locs C0 hml hr hlk hE hl => ?_)
  have C0 : CX p c cX8_held m s args D g RX8 := C0
  have hl : lv_has ls 1 [(0, .int (I p1))] := hl
  unfold M_held at h
  refine lv_sipush (v := I (-999)) C0.1 C0.2.1 dX8_held_0 (by decide +kernel) ?_
  refine lv_sipush (v := I 999) C0.1 C0.2.1 dX8_held_3 (by decide +kernel) ?_
  refine lv_iload_n C0.1 C0.2.1 dX8_held_6 rfl (lv_at hl 0 rfl) ?_
  obtain ⟨v1, e_v1, i_v1, h⟩ := opure_s h (imin_in lit_999 i_p1)
  refine x_min C0 kw_X8_229 (hml.trans hl.1.symm) lit_999 i_p1 e_v1 ⟨Nat.le_of_ble_eq_true rfl, Nat.le_of_ble_eq_true rfl⟩ ⟨Nat.zero_le _, Nat.zero_le _⟩ dX8_held_7 ?_
  obtain ⟨v2, e_v2, i_v2, h⟩ := opure_s h (imax_in lit_m999 i_v1)
  refine x_max C0 kw_X8_234 (hml.trans hl.1.symm) lit_m999 i_v1 e_v2 ⟨Nat.le_of_ble_eq_true rfl, Nat.le_of_ble_eq_true rfl⟩ ⟨Nat.zero_le _, Nat.zero_le _⟩ dX8_held_10 ?_
  exact pret_i C0 hr hlk hE h i_v2 dX8_held_13
set_option maxRecDepth 100000 in
set_option maxHeartbeats 4000000 in
theorem c_M_zipped (l : Launch) (D : va_G) (g : Ad) {σ : St} {p1 p2 p3 r : Int} (i_p1 : in32 p1) (i_p2 : in32 p2) (i_p3 : in32 p3) (h : M_zipped p1 p2 p3 = some r) : CtI l D g yX8_zipped cX8_zipped 3 (some .int) 2 (wM g σ) (wM g σ) [.int (I p1), .int (I p2), .int (I p3)] r (in32 r) := by
  intro sz
  refine met_of (by decide) (Nat.le_of_ble_eq_true rfl) (fun p e s m args below meth c ls H locs C0 hml hr hlk hE hl => ?_)
  have C0 : CX p c cX8_zipped m s args D g RX8 := C0
  have hl : lv_has ls 3 [(0, .int (I p1)), (1, .int (I p2)), (2, .int (I p3))] := hl
  unfold M_zipped at h
  refine lv_iload_n C0.1 C0.2.1 dX8_zipped_0 rfl (lv_at hl 2 rfl) ?_
  by_cases q1 : p3 = 0
  · have h := ite_t q1 h
    refine x_tabIn (tgt := 28) C0 0 i_p3 dX8_zipped_1 q1 ⟨by decide, by decide, by rfl⟩ (by decide) ?_
    refine lv_iload_n C0.1 C0.2.1 dX8_zipped_28 rfl (lv_at hl 0 rfl) ?_
    refine lv_iload_n C0.1 C0.2.1 dX8_zipped_29 rfl (lv_at hl 1 rfl) ?_
    obtain ⟨v2, e_v2, i_v2, h⟩ := oadd_s h
    refine x_add C0 e_v2 dX8_zipped_30 ?_
    obtain ⟨v3, h_v3, h⟩ := bndp_s h
    refine callS_i (rest := []) C0 hml hE (c_M_held l D g (σ := σ) i_v2 h_v3) kw_X8_237 ⟨Nat.le_of_ble_eq_true rfl, Nat.le_of_ble_eq_true rfl⟩ rfl hl.1 rfl (Nat.le_of_ble_eq_true rfl) dX8_zipped_31 ⟨Nat.zero_le _, Nat.zero_le _⟩ (fun H locs hE i_v3 => ?_)
    exact pret_i C0 hr hlk hE h i_v3 dX8_zipped_34
  have h := ite_f q1 h
  by_cases q4 : p3 = 1
  · have h := ite_t q4 h
    refine x_tabIn (tgt := 35) C0 1 i_p3 dX8_zipped_1 q4 ⟨by decide, by decide, by rfl⟩ (by decide) ?_
    refine lv_iload_n C0.1 C0.2.1 dX8_zipped_35 rfl (lv_at hl 0 rfl) ?_
    refine lv_iload_n C0.1 C0.2.1 dX8_zipped_36 rfl (lv_at hl 1 rfl) ?_
    obtain ⟨v5, e_v5, i_v5, h⟩ := osub_s h
    refine x_sub C0 e_v5 dX8_zipped_37 ?_
    obtain ⟨v6, h_v6, h⟩ := bndp_s h
    refine callS_i (rest := []) C0 hml hE (c_M_held l D g (σ := σ) i_v5 h_v6) kw_X8_237 ⟨Nat.le_of_ble_eq_true rfl, Nat.le_of_ble_eq_true rfl⟩ rfl hl.1 rfl (Nat.le_of_ble_eq_true rfl) dX8_zipped_38 ⟨Nat.zero_le _, Nat.zero_le _⟩ (fun H locs hE i_v6 => ?_)
    exact pret_i C0 hr hlk hE h i_v6 dX8_zipped_41
  have h := ite_f q4 h
  by_cases q7 : p3 = 2
  · have h := ite_t q7 h
    refine x_tabIn (tgt := 42) C0 2 i_p3 dX8_zipped_1 q7 ⟨by decide, by decide, by rfl⟩ (by decide) ?_
    refine lv_iload_n C0.1 C0.2.1 dX8_zipped_42 rfl (lv_at hl 0 rfl) ?_
    refine lv_iload_n C0.1 C0.2.1 dX8_zipped_43 rfl (lv_at hl 1 rfl) ?_
    obtain ⟨v8, e_v8, i_v8, h⟩ := opure_s h (imin_in i_p1 i_p2)
    refine x_min C0 kw_X8_229 (hml.trans hl.1.symm) i_p1 i_p2 e_v8 ⟨Nat.le_of_ble_eq_true rfl, Nat.le_of_ble_eq_true rfl⟩ ⟨Nat.zero_le _, Nat.zero_le _⟩ dX8_zipped_44 ?_
    exact pret_i C0 hr hlk hE h i_v8 dX8_zipped_47
  have h := ite_f q7 h
  refine x_tabOut (tgt := 48) C0 i_p3 dX8_zipped_1 (by omega) (by decide) ?_
  refine lv_iload_n C0.1 C0.2.1 dX8_zipped_48 rfl (lv_at hl 0 rfl) ?_
  refine lv_iload_n C0.1 C0.2.1 dX8_zipped_49 rfl (lv_at hl 1 rfl) ?_
  obtain ⟨v9, e_v9, i_v9, h⟩ := opure_s h (imax_in i_p1 i_p2)
  refine x_max C0 kw_X8_234 (hml.trans hl.1.symm) i_p1 i_p2 e_v9 ⟨Nat.le_of_ble_eq_true rfl, Nat.le_of_ble_eq_true rfl⟩ ⟨Nat.zero_le _, Nat.zero_le _⟩ dX8_zipped_50 ?_
  exact pret_i C0 hr hlk hE h i_v9 dX8_zipped_53
set_option maxRecDepth 100000 in
set_option maxHeartbeats 4000000 in
theorem c_M_zips (l : Launch) (D : va_G) (g : Ad) {σ σr : St} {p1 p2 p3 p4 r : Int} (hR : R32 σ) (i_p1 : in32 p1) (i_p2 : in32 p2) (i_p3 : in32 p3) (i_p4 : in32 p4) (h : M_zips σ p1 p2 p3 p4 = some (r, σr)) : CtI l D g yX8_zips cX8_zips 6 (some .int) 4 (wM g σ) (wM g σr) [.ref (g.2 100), .int (I p1), .int (I p2), .int (I p3), .int (I p4)] r (in32 r ∧ R32 σr) := by
  intro sz
  refine met_of (by decide) (Nat.le_of_ble_eq_true rfl) (fun p e s m args below meth c ls H locs C0 hml hr hlk hE hl => ?_)
  have C0 : CX p c cX8_zips m s args D g RX8 := C0
  have hl : lv_has ls 6 [(0, .ref (g.2 100)), (1, .int (I p1)), (2, .int (I p2)), (3, .int (I p3)), (4, .int (I p4))] := hl
  unfold M_zips at h
  refine lv_aload_n C0.1 C0.2.1 dX8_zips_0 rfl (lv_at hl 0 rfl) ?_
  refine lv_iconst (v := I 0) C0.1 C0.2.1 dX8_zips_1 rfl ?_
  obtain ⟨s1, e_s1, hR, h⟩ := pf_s hR lit_0 h
  refine M_p_thrown C0 hE e_s1 fk_X8_55 dX8_zips_2 (fun H locs hE => ?_)
  refine lv_iload_n C0.1 C0.2.1 dX8_zips_5 rfl (lv_at hl 1 rfl) ?_
  obtain ⟨v2, h_v2, h⟩ := bndp_s h
  refine callS_i (rest := []) C0 hml hE (c_M_isPlace l D g (σ := s1) i_p1 h_v2) kw_X8_134 ⟨Nat.le_of_ble_eq_true rfl, Nat.le_of_ble_eq_true rfl⟩ rfl hl.1 rfl (Nat.le_of_ble_eq_true rfl) dX8_zips_6 ⟨Nat.zero_le _, Nat.zero_le _⟩ (fun H locs hE i_v2 => ?_)
  refine x_if_eq C0 i_v2 dX8_zips_9 (tgt := 39) (by decide) (fun c9 => ?_) (fun c9 => ?_)
  · have h := ite_t c9 h
    refine lv_iconst (v := I (-1)) C0.1 C0.2.1 dX8_zips_39 rfl ?_
    exact ret_i (wf := wM g) C0 hr hlk hE h lit_m1 hR dX8_zips_40
  · have h := ite_f c9 h
    refine lv_iload_n C0.1 C0.2.1 dX8_zips_12 rfl (lv_at hl 2 rfl) ?_
    obtain ⟨v3, h_v3, h⟩ := bndp_s h
    refine callS_i (rest := []) C0 hml hE (c_M_isPlace l D g (σ := s1) i_p2 h_v3) kw_X8_134 ⟨Nat.le_of_ble_eq_true rfl, Nat.le_of_ble_eq_true rfl⟩ rfl hl.1 rfl (Nat.le_of_ble_eq_true rfl) dX8_zips_13 ⟨Nat.zero_le _, Nat.zero_le _⟩ (fun H locs hE i_v3 => ?_)
    refine x_if_eq C0 i_v3 dX8_zips_16 (tgt := 39) (by decide) (fun c9 => ?_) (fun c9 => ?_)
    · have h := ite_t c9 h
      refine lv_iconst (v := I (-1)) C0.1 C0.2.1 dX8_zips_39 rfl ?_
      exact ret_i (wf := wM g) C0 hr hlk hE h lit_m1 hR dX8_zips_40
    · have h := ite_f c9 h
      refine lv_iload_n C0.1 C0.2.1 dX8_zips_19 rfl (lv_at hl 3 rfl) ?_
      refine x_i2l C0 i_p3 dX8_zips_20 ?_
      refine lv_lconst (v := J 0) C0.1 C0.2.1 dX8_zips_21 (by decide +kernel) ?_
      refine x_ldc2 (v := 3) C0 ck_X8_240 (by decide +kernel) dX8_zips_22 ?_
      obtain ⟨v4, h_v4, h⟩ := bndp_s h
      refine callS_i (rest := []) C0 hml hE (c_M_in l D g (σ := s1) (in64_of i_p3) (by decide) (by decide) h_v4) kw_X8_65 ⟨Nat.le_of_ble_eq_true rfl, Nat.le_of_ble_eq_true rfl⟩ rfl hl.1 rfl (Nat.le_of_ble_eq_true rfl) dX8_zips_25 ⟨Nat.zero_le _, Nat.zero_le _⟩ (fun H locs hE i_v4 => ?_)
      refine x_if_eq C0 i_v4 dX8_zips_28 (tgt := 39) (by decide) (fun c9 => ?_) (fun c9 => ?_)
      · have h := ite_t c9 h
        refine lv_iconst (v := I (-1)) C0.1 C0.2.1 dX8_zips_39 rfl ?_
        exact ret_i (wf := wM g) C0 hr hlk hE h lit_m1 hR dX8_zips_40
      · have h := ite_f c9 h
        refine lv_iload C0.1 C0.2.1 dX8_zips_31 (lv_at hl 4 rfl) ?_
        obtain ⟨v5, h_v5, h⟩ := bndp_s h
        refine callS_i (rest := []) C0 hml hE (c_M_isPlace l D g (σ := s1) i_p4 h_v5) kw_X8_134 ⟨Nat.le_of_ble_eq_true rfl, Nat.le_of_ble_eq_true rfl⟩ rfl hl.1 rfl (Nat.le_of_ble_eq_true rfl) dX8_zips_33 ⟨Nat.zero_le _, Nat.zero_le _⟩ (fun H locs hE i_v5 => ?_)
        refine x_if_ne C0 i_v5 dX8_zips_36 (tgt := 41) (by decide) (fun c9 => ?_) (fun c9 => ?_)
        · have h := ite_f c9 h
          refine lv_aload_n C0.1 C0.2.1 dX8_zips_41 rfl (lv_at hl 0 rfl) ?_
          refine M_g_sizes C0 hE fk_X8_16 dX8_zips_42 ?_
          refine lv_bipush (v := I 7) C0.1 C0.2.1 dX8_zips_45 (by decide +kernel) ?_
          refine lv_iconst (v := I 0) C0.1 C0.2.1 dX8_zips_47 rfl ?_
          obtain ⟨s6, e_s6, hR, h⟩ := wr_s hR lit_0 h
          refine M_sizes_st C0 hE lit_7 e_s6 dX8_zips_48 (fun H locs hE => ?_)
          refine lv_iconst (v := I 0) C0.1 C0.2.1 dX8_zips_49 rfl ?_
          refine lv_istore (lv' := [(5, .int (I 0)), (0, .ref (g.2 100)), (1, .int (I p1)), (2, .int (I p2)), (3, .int (I p3)), (4, .int (I p4))]) C0.1 C0.2.1 dX8_zips_50 hl (by decide) rfl (fun ls hl => ?_)
          obtain ⟨k8, e_k8, h⟩ := jn_s h
          have h_k8 : ∀ (s7 : St) (hR : R32 s7) (H : Heap) (locs : List Loc) (ls : Array Slot), EW D (va_A (wM g σ) sz) s.heap (wM g s7) H locs → lv_has ls 6 [(0, .ref (g.2 100)), (4, .int (I p4))] → k8 s7 = some (r, σr) → W p l e (rmk 4) s m args below meth c H locs 0 0 (MQ below (QCi D (wM g σr) r (in32 r ∧ R32 σr) (va_A (wM g σ) sz)) args s 0 0 (va_A (wM g σ) sz)) (F0 m 102 ls []) := by
            intro s7 hR H locs ls hE hl h
            have h := (congrFun e_k8 s7).symm.trans h
            refine lv_aload_n C0.1 C0.2.1 dX8_zips_102 rfl (lv_at hl 0 rfl) ?_
            refine lv_iload C0.1 C0.2.1 dX8_zips_103 (lv_at hl 1 rfl) ?_
            obtain ⟨v9, s10, h_v9, h⟩ := bnd_s h
            refine callV_i (rest := []) C0 hml hE (M_rec C0 hE) (c_M_builds l D g hR i_p4 h_v9) kw_X8_249 ⟨Nat.le_of_ble_eq_true rfl, Nat.le_of_ble_eq_true rfl⟩ rfl hl.1 rfl (Nat.le_of_ble_eq_true rfl) dX8_zips_105 ⟨Nat.zero_le _, Nat.zero_le _⟩ (fun H locs hE ⟨i_v9, hR⟩ => ?_)
            exact ret_i (wf := wM g) C0 hr hlk hE h i_v9 hR dX8_zips_108
          have hL52 : ∀ (n : Nat) (s12 : St) (hR : R32 s12) (x11 : Int) (i_x11 : in32 x11) (H : Heap) (locs : List Loc) (ls : Array Slot), EW D (va_A (wM g σ) sz) s.heap (wM g s12) H locs → lv_has ls 6 [(0, .ref (g.2 100)), (1, .int (I p1)), (2, .int (I p2)), (3, .int (I p3)), (4, .int (I p4)), (5, .int (I x11))] → M_zips_L52 k8 p1 p2 p3 n s12 x11 = some (r, σr) → W p l e (rmk 4) s m args below meth c H locs 0 0 (MQ below (QCi D (wM g σr) r (in32 r ∧ R32 σr) (va_A (wM g σ) sz)) args s 0 0 (va_A (wM g σ) sz)) (F0 m 52 ls []) := by
            intro n
            induction n with
            | zero => intros; rename_i h; cases h
            | succ n ih13 =>
              intro s12 hR x11 i_x11 H locs ls hE hl h
              unfold M_zips_L52 at h
              refine lv_iload C0.1 C0.2.1 dX8_zips_52 (lv_at hl 5 rfl) ?_
              refine lv_aload_n C0.1 C0.2.1 dX8_zips_54 rfl (lv_at hl 0 rfl) ?_
              refine M_g_sizes C0 hE fk_X8_16 dX8_zips_55 ?_
              refine lv_iload_n C0.1 C0.2.1 dX8_zips_58 rfl (lv_at hl 1 rfl) ?_
              obtain ⟨v14, e_v14, i_v14, h⟩ := rd_s hR h
              refine M_sizes_l C0 hE i_p1 e_v14 dX8_zips_59 ?_
              refine x_icmp_ge C0 i_x11 i_v14 dX8_zips_60 (tgt := 102) (by decide) (fun c9 => ?_) (fun c9 => ?_)
              · have h := ite_f c9 h
                exact h_k8 s12 hR _ _ _ hE (lv_sub hl [0, 4] rfl) h
              · have h := ite_t c9 h
                refine lv_iload C0.1 C0.2.1 dX8_zips_63 (lv_at hl 5 rfl) ?_
                refine lv_aload_n C0.1 C0.2.1 dX8_zips_65 rfl (lv_at hl 0 rfl) ?_
                refine M_g_sizes C0 hE fk_X8_16 dX8_zips_66 ?_
                refine lv_iload_n C0.1 C0.2.1 dX8_zips_69 rfl (lv_at hl 2 rfl) ?_
                obtain ⟨v15, e_v15, i_v15, h⟩ := rd_s hR h
                refine M_sizes_l C0 hE i_p2 e_v15 dX8_zips_70 ?_
                refine x_icmp_ge C0 i_x11 i_v15 dX8_zips_71 (tgt := 102) (by decide) (fun c9 => ?_) (fun c9 => ?_)
                · have h := ite_f c9 h
                  exact h_k8 s12 hR _ _ _ hE (lv_sub hl [0, 4] rfl) h
                · have h := ite_t c9 h
                  refine lv_aload_n C0.1 C0.2.1 dX8_zips_74 rfl (lv_at hl 0 rfl) ?_
                  refine lv_aload_n C0.1 C0.2.1 dX8_zips_75 rfl (lv_at hl 0 rfl) ?_
                  refine lv_iload_n C0.1 C0.2.1 dX8_zips_76 rfl (lv_at hl 1 rfl) ?_
                  refine lv_iload C0.1 C0.2.1 dX8_zips_77 (lv_at hl 5 rfl) ?_
                  obtain ⟨v16, h_v16, h⟩ := bndp_s h
                  refine callV_i (rest := [.ref (g.2 100)]) C0 hml hE (M_rec C0 hE) (c_M_number l D g hR i_p1 i_x11 h_v16) kw_X8_99 ⟨Nat.le_of_ble_eq_true rfl, Nat.le_of_ble_eq_true rfl⟩ rfl hl.1 rfl (Nat.le_of_ble_eq_true rfl) dX8_zips_79 ⟨Nat.zero_le _, Nat.zero_le _⟩ (fun H locs hE i_v16 => ?_)
                  refine lv_aload_n C0.1 C0.2.1 dX8_zips_82 rfl (lv_at hl 0 rfl) ?_
                  refine lv_iload_n C0.1 C0.2.1 dX8_zips_83 rfl (lv_at hl 2 rfl) ?_
                  refine lv_iload C0.1 C0.2.1 dX8_zips_84 (lv_at hl 5 rfl) ?_
                  obtain ⟨v17, h_v17, h⟩ := bndp_s h
                  refine callV_i (rest := [.int (I v16), .ref (g.2 100)]) C0 hml hE (M_rec C0 hE) (c_M_number l D g hR i_p2 i_x11 h_v17) kw_X8_99 ⟨Nat.le_of_ble_eq_true rfl, Nat.le_of_ble_eq_true rfl⟩ rfl hl.1 rfl (Nat.le_of_ble_eq_true rfl) dX8_zips_86 ⟨Nat.zero_le _, Nat.zero_le _⟩ (fun H locs hE i_v17 => ?_)
                  refine lv_iload_n C0.1 C0.2.1 dX8_zips_89 rfl (lv_at hl 3 rfl) ?_
                  obtain ⟨v18, h_v18, h⟩ := bndp_s h
                  refine callS_i (rest := [.ref (g.2 100)]) C0 hml hE (c_M_zipped l D g (σ := s12) i_v16 i_v17 i_p3 h_v18) kw_X8_242 ⟨Nat.le_of_ble_eq_true rfl, Nat.le_of_ble_eq_true rfl⟩ rfl hl.1 rfl (Nat.le_of_ble_eq_true rfl) dX8_zips_90 ⟨Nat.zero_le _, Nat.zero_le _⟩ (fun H locs hE i_v18 => ?_)
                  obtain ⟨v19, s20, h_v19, h⟩ := bnd_s h
                  refine callV_v (rest := []) C0 hml hE (M_rec C0 hE) (c_M_lays l D g hR i_v18 h_v19) kw_X8_246 ⟨Nat.le_of_ble_eq_true rfl, Nat.le_of_ble_eq_true rfl⟩ rfl hl.1 rfl (Nat.le_of_ble_eq_true rfl) dX8_zips_93 ⟨Nat.zero_le _, Nat.zero_le _⟩ (fun H locs hE hR => ?_)
                  obtain ⟨v21, e_v21, i_v21, h⟩ := oadd_s h
                  refine x_iinc (lv' := [(5, .int (I v21)), (0, .ref (g.2 100)), (1, .int (I p1)), (2, .int (I p2)), (3, .int (I p3)), (4, .int (I p4))]) C0 dX8_zips_96 hl (k := 5) rfl e_v21 (by decide) rfl (fun ls hl => ?_)
                  refine x_goto C0 dX8_zips_99 (tgt := 52) (by decide) ?_
                  exact ih13 s20 hR v21 i_v21 _ _ _ hE (lv_sub hl [1, 2, 3, 4, 5, 0] rfl) h
          exact hL52 FU s6 hR 0 lit_0 _ _ _ hE (lv_sub hl [1, 2, 3, 4, 5, 0] rfl) h
        · have h := ite_t c9 h
          refine lv_iconst (v := I (-1)) C0.1 C0.2.1 dX8_zips_39 rfl ?_
          exact ret_i (wf := wM g) C0 hr hlk hE h lit_m1 hR dX8_zips_40
set_option maxRecDepth 100000 in
set_option maxHeartbeats 4000000 in
theorem c_M_parts (l : Launch) (D : va_G) (g : Ad) {σ σr : St} {p1 p2 p3 p4 r : Int} (hR : R32 σ) (i_p1 : in32 p1) (i_p2 : in32 p2) (i_p3 : in32 p3) (i_p4 : in32 p4) (h : M_parts σ p1 p2 p3 p4 = some (r, σr)) : CtI l D g yX8_parts cX8_parts 6 (some .int) 16 (wM g σ) (wM g σr) [.ref (g.2 100), .int (I p1), .int (I p2), .int (I p3), .int (I p4)] r (in32 r ∧ R32 σr) := by
  intro sz
  refine met_of (by decide) (Nat.le_of_ble_eq_true rfl) (fun p e s m args below meth c ls H locs C0 hml hr hlk hE hl => ?_)
  have C0 : CX p c cX8_parts m s args D g RX8 := C0
  have hl : lv_has ls 6 [(0, .ref (g.2 100)), (1, .int (I p1)), (2, .int (I p2)), (3, .int (I p3)), (4, .int (I p4))] := hl
  unfold M_parts at h
  refine lv_aload_n C0.1 C0.2.1 dX8_parts_0 rfl (lv_at hl 0 rfl) ?_
  refine lv_iconst (v := I 0) C0.1 C0.2.1 dX8_parts_1 rfl ?_
  obtain ⟨s1, e_s1, hR, h⟩ := pf_s hR lit_0 h
  refine M_p_thrown C0 hE e_s1 fk_X8_55 dX8_parts_2 (fun H locs hE => ?_)
  refine lv_iload_n C0.1 C0.2.1 dX8_parts_5 rfl (lv_at hl 1 rfl) ?_
  obtain ⟨v2, h_v2, h⟩ := bndp_s h
  refine callS_i (rest := []) C0 hml hE (c_M_isPlace l D g (σ := s1) i_p1 h_v2) kw_X8_134 ⟨Nat.le_of_ble_eq_true rfl, Nat.le_of_ble_eq_true rfl⟩ rfl hl.1 rfl (Nat.le_of_ble_eq_true rfl) dX8_parts_6 ⟨Nat.zero_le _, Nat.zero_le _⟩ (fun H locs hE i_v2 => ?_)
  refine x_if_eq C0 i_v2 dX8_parts_9 (tgt := 43) (by decide) (fun c9 => ?_) (fun c9 => ?_)
  · have h := ite_t c9 h
    refine lv_iconst (v := I (-1)) C0.1 C0.2.1 dX8_parts_43 rfl ?_
    exact ret_i (wf := wM g) C0 hr hlk hE h lit_m1 hR dX8_parts_44
  · have h := ite_f c9 h
    refine lv_iload_n C0.1 C0.2.1 dX8_parts_12 rfl (lv_at hl 2 rfl) ?_
    refine x_i2l C0 i_p2 dX8_parts_13 ?_
    refine lv_lconst (v := J 0) C0.1 C0.2.1 dX8_parts_14 (by decide +kernel) ?_
    refine lv_aload_n C0.1 C0.2.1 dX8_parts_15 rfl (lv_at hl 0 rfl) ?_
    refine M_g_sizes C0 hE fk_X8_16 dX8_parts_16 ?_
    refine lv_iload_n C0.1 C0.2.1 dX8_parts_19 rfl (lv_at hl 1 rfl) ?_
    obtain ⟨v3, e_v3, i_v3, h⟩ := rd_s hR h
    refine M_sizes_l C0 hE i_p1 e_v3 dX8_parts_20 ?_
    refine x_i2l C0 i_v3 dX8_parts_21 ?_
    obtain ⟨v4, h_v4, h⟩ := bndp_s h
    refine callS_i (rest := []) C0 hml hE (c_M_in l D g (σ := s1) (in64_of i_p2) (by decide) (in64_of i_v3) h_v4) kw_X8_65 ⟨Nat.le_of_ble_eq_true rfl, Nat.le_of_ble_eq_true rfl⟩ rfl hl.1 rfl (Nat.le_of_ble_eq_true rfl) dX8_parts_22 ⟨Nat.zero_le _, Nat.zero_le _⟩ (fun H locs hE i_v4 => ?_)
    refine x_if_eq C0 i_v4 dX8_parts_25 (tgt := 43) (by decide) (fun c9 => ?_) (fun c9 => ?_)
    · have h := ite_t c9 h
      refine lv_iconst (v := I (-1)) C0.1 C0.2.1 dX8_parts_43 rfl ?_
      exact ret_i (wf := wM g) C0 hr hlk hE h lit_m1 hR dX8_parts_44
    · have h := ite_f c9 h
      refine lv_iload_n C0.1 C0.2.1 dX8_parts_28 rfl (lv_at hl 3 rfl) ?_
      obtain ⟨v5, h_v5, h⟩ := bndp_s h
      refine callS_i (rest := []) C0 hml hE (c_M_isPlace l D g (σ := s1) i_p3 h_v5) kw_X8_134 ⟨Nat.le_of_ble_eq_true rfl, Nat.le_of_ble_eq_true rfl⟩ rfl hl.1 rfl (Nat.le_of_ble_eq_true rfl) dX8_parts_29 ⟨Nat.zero_le _, Nat.zero_le _⟩ (fun H locs hE i_v5 => ?_)
      refine x_if_eq C0 i_v5 dX8_parts_32 (tgt := 43) (by decide) (fun c9 => ?_) (fun c9 => ?_)
      · have h := ite_t c9 h
        refine lv_iconst (v := I (-1)) C0.1 C0.2.1 dX8_parts_43 rfl ?_
        exact ret_i (wf := wM g) C0 hr hlk hE h lit_m1 hR dX8_parts_44
      · have h := ite_f c9 h
        refine lv_iload C0.1 C0.2.1 dX8_parts_35 (lv_at hl 4 rfl) ?_
        obtain ⟨v6, h_v6, h⟩ := bndp_s h
        refine callS_i (rest := []) C0 hml hE (c_M_isPlace l D g (σ := s1) i_p4 h_v6) kw_X8_134 ⟨Nat.le_of_ble_eq_true rfl, Nat.le_of_ble_eq_true rfl⟩ rfl hl.1 rfl (Nat.le_of_ble_eq_true rfl) dX8_parts_37 ⟨Nat.zero_le _, Nat.zero_le _⟩ (fun H locs hE i_v6 => ?_)
        refine x_if_ne C0 i_v6 dX8_parts_40 (tgt := 45) (by decide) (fun c9 => ?_) (fun c9 => ?_)
        · have h := ite_f c9 h
          refine lv_iload_n C0.1 C0.2.1 dX8_parts_45 rfl (lv_at hl 3 rfl) ?_
          refine lv_iload C0.1 C0.2.1 dX8_parts_46 (lv_at hl 4 rfl) ?_
          refine x_icmp_ne C0 i_p3 i_p4 dX8_parts_48 (tgt := 54) (by decide) (fun c9 => ?_) (fun c9 => ?_)
          · have h := ite_f c9 h
            refine lv_aload_n C0.1 C0.2.1 dX8_parts_54 rfl (lv_at hl 0 rfl) ?_
            refine lv_iload_n C0.1 C0.2.1 dX8_parts_55 rfl (lv_at hl 1 rfl) ?_
            refine lv_bipush (v := I 8) C0.1 C0.2.1 dX8_parts_56 (by decide +kernel) ?_
            obtain ⟨v7, s8, h_v7, h⟩ := bnd_s h
            refine callV_v (rest := []) C0 hml hE (M_rec C0 hE) (c_M_takes l D g hR i_p1 lit_8 h_v7) kw_X8_82 ⟨Nat.le_of_ble_eq_true rfl, Nat.le_of_ble_eq_true rfl⟩ rfl hl.1 rfl (Nat.le_of_ble_eq_true rfl) dX8_parts_58 ⟨Nat.zero_le _, Nat.zero_le _⟩ (fun H locs hE hR => ?_)
            refine lv_aload_n C0.1 C0.2.1 dX8_parts_61 rfl (lv_at hl 0 rfl) ?_
            refine lv_iload_n C0.1 C0.2.1 dX8_parts_62 rfl (lv_at hl 1 rfl) ?_
            obtain ⟨v9, s10, h_v9, h⟩ := bnd_s h
            refine callV_v (rest := []) C0 hml hE (M_rec C0 hE) (c_M_asks l D g hR i_p1 h_v9) kw_X8_176 ⟨Nat.le_of_ble_eq_true rfl, Nat.le_of_ble_eq_true rfl⟩ rfl hl.1 rfl (Nat.le_of_ble_eq_true rfl) dX8_parts_63 ⟨Nat.zero_le _, Nat.zero_le _⟩ (fun H locs hE hR => ?_)
            refine lv_aload_n C0.1 C0.2.1 dX8_parts_66 rfl (lv_at hl 0 rfl) ?_
            obtain ⟨v11, s12, h_v11, h⟩ := bnd_s h
            refine callV_v (rest := []) C0 hml hE (M_rec C0 hE) (c_M_begins l D g hR h_v11) kw_X8_166 ⟨Nat.le_of_ble_eq_true rfl, Nat.le_of_ble_eq_true rfl⟩ rfl hl.1 rfl (Nat.le_of_ble_eq_true rfl) dX8_parts_67 ⟨Nat.zero_le _, Nat.zero_le _⟩ (fun H locs hE hR => ?_)
            obtain ⟨k14, e_k14, h⟩ := jn_s h
            have h_k14 : ∀ (s13 : St) (hR : R32 s13) (H : Heap) (locs : List Loc) (ls : Array Slot), EW D (va_A (wM g σ) sz) s.heap (wM g s13) H locs → lv_has ls 6 [(0, .ref (g.2 100)), (2, .int (I p2)), (3, .int (I p3)), (4, .int (I p4))] → k14 s13 = some (r, σr) → W p l e (rmk 16) s m args below meth c H locs 0 0 (MQ below (QCi D (wM g σr) r (in32 r ∧ R32 σr) (va_A (wM g σ) sz)) args s 0 0 (va_A (wM g σ) sz)) (F0 m 88 ls []) := by
              intro s13 hR H locs ls hE hl h
              have h := (congrFun e_k14 s13).symm.trans h
              refine lv_aload_n C0.1 C0.2.1 dX8_parts_88 rfl (lv_at hl 0 rfl) ?_
              refine lv_bipush (v := I 7) C0.1 C0.2.1 dX8_parts_89 (by decide +kernel) ?_
              refine lv_iload_n C0.1 C0.2.1 dX8_parts_91 rfl (lv_at hl 2 rfl) ?_
              obtain ⟨v15, s16, h_v15, h⟩ := bnd_s h
              refine callV_v (rest := []) C0 hml hE (M_rec C0 hE) (c_M_takes l D g hR lit_7 i_p3 h_v15) kw_X8_82 ⟨Nat.le_of_ble_eq_true rfl, Nat.le_of_ble_eq_true rfl⟩ rfl hl.1 rfl (Nat.le_of_ble_eq_true rfl) dX8_parts_92 ⟨Nat.zero_le _, Nat.zero_le _⟩ (fun H locs hE hR => ?_)
              refine lv_aload_n C0.1 C0.2.1 dX8_parts_95 rfl (lv_at hl 0 rfl) ?_
              refine lv_bipush (v := I 8) C0.1 C0.2.1 dX8_parts_96 (by decide +kernel) ?_
              refine lv_bipush (v := I 7) C0.1 C0.2.1 dX8_parts_98 (by decide +kernel) ?_
              obtain ⟨v17, s18, h_v17, h⟩ := bnd_s h
              refine callV_v (rest := []) C0 hml hE (M_rec C0 hE) (c_M_takes l D g hR lit_8 lit_7 h_v17) kw_X8_82 ⟨Nat.le_of_ble_eq_true rfl, Nat.le_of_ble_eq_true rfl⟩ rfl hl.1 rfl (Nat.le_of_ble_eq_true rfl) dX8_parts_100 ⟨Nat.zero_le _, Nat.zero_le _⟩ (fun H locs hE hR => ?_)
              refine lv_iconst (v := I 0) C0.1 C0.2.1 dX8_parts_103 rfl ?_
              refine lv_istore (lv' := [(5, .int (I 0)), (0, .ref (g.2 100)), (2, .int (I p2)), (3, .int (I p3)), (4, .int (I p4))]) C0.1 C0.2.1 dX8_parts_104 hl (by decide) rfl (fun ls hl => ?_)
              obtain ⟨k20, e_k20, h⟩ := jn_s h
              have h_k20 : ∀ (s19 : St) (hR : R32 s19) (H : Heap) (locs : List Loc) (ls : Array Slot), EW D (va_A (wM g σ) sz) s.heap (wM g s19) H locs → lv_has ls 6 [(0, .ref (g.2 100)), (4, .int (I p4))] → k20 s19 = some (r, σr) → W p l e (rmk 16) s m args below meth c H locs 0 0 (MQ below (QCi D (wM g σr) r (in32 r ∧ R32 σr) (va_A (wM g σ) sz)) args s 0 0 (va_A (wM g σ) sz)) (F0 m 122 ls []) := by
                intro s19 hR H locs ls hE hl h
                have h := (congrFun e_k20 s19).symm.trans h
                refine lv_aload_n C0.1 C0.2.1 dX8_parts_122 rfl (lv_at hl 0 rfl) ?_
                refine lv_iload C0.1 C0.2.1 dX8_parts_123 (lv_at hl 1 rfl) ?_
                obtain ⟨v21, s22, h_v21, h⟩ := bnd_s h
                refine callV_i (rest := []) C0 hml hE (M_rec C0 hE) (c_M_ends l D g hR i_p4 h_v21) kw_X8_205 ⟨Nat.le_of_ble_eq_true rfl, Nat.le_of_ble_eq_true rfl⟩ rfl hl.1 rfl (Nat.le_of_ble_eq_true rfl) dX8_parts_125 ⟨Nat.zero_le _, Nat.zero_le _⟩ (fun H locs hE ⟨i_v21, hR⟩ => ?_)
                exact ret_i (wf := wM g) C0 hr hlk hE h i_v21 hR dX8_parts_128
              have hL106 : ∀ (n : Nat) (s24 : St) (hR : R32 s24) (x23 : Int) (i_x23 : in32 x23) (H : Heap) (locs : List Loc) (ls : Array Slot), EW D (va_A (wM g σ) sz) s.heap (wM g s24) H locs → lv_has ls 6 [(0, .ref (g.2 100)), (2, .int (I p2)), (4, .int (I p4)), (5, .int (I x23))] → M_parts_L106 k20 p2 n s24 x23 = some (r, σr) → W p l e (rmk 16) s m args below meth c H locs 0 0 (MQ below (QCi D (wM g σr) r (in32 r ∧ R32 σr) (va_A (wM g σ) sz)) args s 0 0 (va_A (wM g σ) sz)) (F0 m 106 ls []) := by
                intro n
                induction n with
                | zero => intros; rename_i h; cases h
                | succ n ih25 =>
                  intro s24 hR x23 i_x23 H locs ls hE hl h
                  unfold M_parts_L106 at h
                  refine lv_iload C0.1 C0.2.1 dX8_parts_106 (lv_at hl 3 rfl) ?_
                  refine lv_iload_n C0.1 C0.2.1 dX8_parts_108 rfl (lv_at hl 1 rfl) ?_
                  refine x_icmp_ge C0 i_x23 i_p2 dX8_parts_109 (tgt := 122) (by decide) (fun c9 => ?_) (fun c9 => ?_)
                  · have h := ite_f c9 h
                    exact h_k20 s24 hR _ _ _ hE (lv_sub hl [0, 2] rfl) h
                  · have h := ite_t c9 h
                    refine lv_aload_n C0.1 C0.2.1 dX8_parts_112 rfl (lv_at hl 0 rfl) ?_
                    obtain ⟨v26, s27, h_v26, h⟩ := bnd_s h
                    refine callV_v (rest := []) C0 hml hE (M_rec C0 hE) (c_M_goesFirst l D g hR h_v26) kw_X8_219 ⟨Nat.le_of_ble_eq_true rfl, Nat.le_of_ble_eq_true rfl⟩ rfl hl.1 rfl (Nat.le_of_ble_eq_true rfl) dX8_parts_113 ⟨Nat.zero_le _, Nat.zero_le _⟩ (fun H locs hE hR => ?_)
                    obtain ⟨v28, e_v28, i_v28, h⟩ := oadd_s h
                    refine x_iinc (lv' := [(5, .int (I v28)), (0, .ref (g.2 100)), (2, .int (I p2)), (4, .int (I p4))]) C0 dX8_parts_116 hl (k := 3) rfl e_v28 (by decide) rfl (fun ls hl => ?_)
                    refine x_goto C0 dX8_parts_119 (tgt := 106) (by decide) ?_
                    exact ih25 s27 hR v28 i_v28 _ _ _ hE (lv_sub hl [1, 2, 3, 0] rfl) h
              exact hL106 FU s18 hR 0 lit_0 _ _ _ hE (lv_sub hl [1, 2, 4, 0] rfl) h
            have hL70 : ∀ (n : Nat) (s29 : St) (hR : R32 s29) (H : Heap) (locs : List Loc) (ls : Array Slot), EW D (va_A (wM g σ) sz) s.heap (wM g s29) H locs → lv_has ls 6 [(0, .ref (g.2 100)), (2, .int (I p2)), (3, .int (I p3)), (4, .int (I p4))] → M_parts_L70 k14 p2 n s29 = some (r, σr) → W p l e (rmk 16) s m args below meth c H locs 0 0 (MQ below (QCi D (wM g σr) r (in32 r ∧ R32 σr) (va_A (wM g σ) sz)) args s 0 0 (va_A (wM g σ) sz)) (F0 m 70 ls []) := by
              intro n
              induction n with
              | zero => intros; rename_i h; cases h
              | succ n ih30 =>
                intro s29 hR H locs ls hE hl h
                unfold M_parts_L70 at h
                refine lv_aload_n C0.1 C0.2.1 dX8_parts_70 rfl (lv_at hl 0 rfl) ?_
                refine M_g_sizes C0 hE fk_X8_16 dX8_parts_71 ?_
                refine lv_bipush (v := I 7) C0.1 C0.2.1 dX8_parts_74 (by decide +kernel) ?_
                obtain ⟨v31, e_v31, i_v31, h⟩ := rd_s hR h
                refine M_sizes_l C0 hE lit_7 e_v31 dX8_parts_76 ?_
                refine lv_iload_n C0.1 C0.2.1 dX8_parts_77 rfl (lv_at hl 1 rfl) ?_
                refine x_icmp_le C0 i_v31 i_p2 dX8_parts_78 (tgt := 88) (by decide) (fun c9 => ?_) (fun c9 => ?_)
                · have h := ite_f c9 h
                  exact h_k14 s29 hR _ _ _ hE (lv_sub hl [0, 1, 2, 3] rfl) h
                · have h := ite_t c9 h
                  refine lv_aload_n C0.1 C0.2.1 dX8_parts_81 rfl (lv_at hl 0 rfl) ?_
                  obtain ⟨v32, s33, h_v32, h⟩ := bnd_s h
                  refine callV_v (rest := []) C0 hml hE (M_rec C0 hE) (c_M_goesLast l D g hR h_v32) kw_X8_222 ⟨Nat.le_of_ble_eq_true rfl, Nat.le_of_ble_eq_true rfl⟩ rfl hl.1 rfl (Nat.le_of_ble_eq_true rfl) dX8_parts_82 ⟨Nat.zero_le _, Nat.zero_le _⟩ (fun H locs hE hR => ?_)
                  refine x_goto C0 dX8_parts_85 (tgt := 70) (by decide) ?_
                  exact ih30 s33 hR _ _ _ hE (lv_sub hl [0, 1, 2, 3] rfl) h
            exact hL70 FU s12 hR _ _ _ hE (lv_sub hl [0, 2, 3, 4] rfl) h
          · have h := ite_t c9 h
            refine lv_bipush (v := I (-2)) C0.1 C0.2.1 dX8_parts_51 (by decide +kernel) ?_
            exact ret_i (wf := wM g) C0 hr hlk hE h lit_m2 hR dX8_parts_53
        · have h := ite_t c9 h
          refine lv_iconst (v := I (-1)) C0.1 C0.2.1 dX8_parts_43 rfl ?_
          exact ret_i (wf := wM g) C0 hr hlk hE h lit_m1 hR dX8_parts_44
set_option maxRecDepth 100000 in
set_option maxHeartbeats 4000000 in
theorem c_M_sorts (l : Launch) (D : va_G) (g : Ad) {σ σr : St} {p1 p2 r : Int} (hR : R32 σ) (i_p1 : in32 p1) (i_p2 : in32 p2) (h : M_sorts σ p1 p2 = some (r, σr)) : CtI l D g yX8_sorts cX8_sorts 6 (some .int) 4 (wM g σ) (wM g σr) [.ref (g.2 100), .int (I p1), .int (I p2)] r (in32 r ∧ R32 σr) := by
  intro sz
  refine met_of (by decide) (Nat.le_of_ble_eq_true rfl) (fun p e s m args below meth c ls H locs C0 hml hr hlk hE hl => ?_)
  have C0 : CX p c cX8_sorts m s args D g RX8 := C0
  have hl : lv_has ls 6 [(0, .ref (g.2 100)), (1, .int (I p1)), (2, .int (I p2))] := hl
  unfold M_sorts at h
  refine lv_aload_n C0.1 C0.2.1 dX8_sorts_0 rfl (lv_at hl 0 rfl) ?_
  refine lv_iconst (v := I 0) C0.1 C0.2.1 dX8_sorts_1 rfl ?_
  obtain ⟨s1, e_s1, hR, h⟩ := pf_s hR lit_0 h
  refine M_p_thrown C0 hE e_s1 fk_X8_55 dX8_sorts_2 (fun H locs hE => ?_)
  refine lv_iload_n C0.1 C0.2.1 dX8_sorts_5 rfl (lv_at hl 1 rfl) ?_
  obtain ⟨v2, h_v2, h⟩ := bndp_s h
  refine callS_i (rest := []) C0 hml hE (c_M_isPlace l D g (σ := s1) i_p1 h_v2) kw_X8_134 ⟨Nat.le_of_ble_eq_true rfl, Nat.le_of_ble_eq_true rfl⟩ rfl hl.1 rfl (Nat.le_of_ble_eq_true rfl) dX8_sorts_6 ⟨Nat.zero_le _, Nat.zero_le _⟩ (fun H locs hE i_v2 => ?_)
  refine x_if_eq C0 i_v2 dX8_sorts_9 (tgt := 19) (by decide) (fun c9 => ?_) (fun c9 => ?_)
  · have h := ite_t c9 h
    refine lv_iconst (v := I (-1)) C0.1 C0.2.1 dX8_sorts_19 rfl ?_
    exact ret_i (wf := wM g) C0 hr hlk hE h lit_m1 hR dX8_sorts_20
  · have h := ite_f c9 h
    refine lv_iload_n C0.1 C0.2.1 dX8_sorts_12 rfl (lv_at hl 2 rfl) ?_
    obtain ⟨v3, h_v3, h⟩ := bndp_s h
    refine callS_i (rest := []) C0 hml hE (c_M_isPlace l D g (σ := s1) i_p2 h_v3) kw_X8_134 ⟨Nat.le_of_ble_eq_true rfl, Nat.le_of_ble_eq_true rfl⟩ rfl hl.1 rfl (Nat.le_of_ble_eq_true rfl) dX8_sorts_13 ⟨Nat.zero_le _, Nat.zero_le _⟩ (fun H locs hE i_v3 => ?_)
    refine x_if_ne C0 i_v3 dX8_sorts_16 (tgt := 21) (by decide) (fun c9 => ?_) (fun c9 => ?_)
    · have h := ite_f c9 h
      refine lv_aload_n C0.1 C0.2.1 dX8_sorts_21 rfl (lv_at hl 0 rfl) ?_
      refine lv_iload_n C0.1 C0.2.1 dX8_sorts_22 rfl (lv_at hl 1 rfl) ?_
      obtain ⟨v4, s5, h_v4, h⟩ := bnd_s h
      refine callV_v (rest := []) C0 hml hE (M_rec C0 hE) (c_M_asks l D g hR i_p1 h_v4) kw_X8_176 ⟨Nat.le_of_ble_eq_true rfl, Nat.le_of_ble_eq_true rfl⟩ rfl hl.1 rfl (Nat.le_of_ble_eq_true rfl) dX8_sorts_23 ⟨Nat.zero_le _, Nat.zero_le _⟩ (fun H locs hE hR => ?_)
      refine lv_iconst (v := I 1) C0.1 C0.2.1 dX8_sorts_26 rfl ?_
      refine lv_istore_n (lv' := [(3, .int (I 1)), (0, .ref (g.2 100)), (1, .int (I p1)), (2, .int (I p2))]) C0.1 C0.2.1 dX8_sorts_27 rfl hl (by decide) rfl (fun ls hl => ?_)
      obtain ⟨k7, e_k7, h⟩ := jn_s h
      have h_k7 : ∀ (s6 : St) (hR : R32 s6) (H : Heap) (locs : List Loc) (ls : Array Slot), EW D (va_A (wM g σ) sz) s.heap (wM g s6) H locs → lv_has ls 6 [(0, .ref (g.2 100)), (2, .int (I p2))] → k7 s6 = some (r, σr) → W p l e (rmk 4) s m args below meth c H locs 0 0 (MQ below (QCi D (wM g σr) r (in32 r ∧ R32 σr) (va_A (wM g σ) sz)) args s 0 0 (va_A (wM g σ) sz)) (F0 m 117 ls []) := by
        intro s6 hR H locs ls hE hl h
        have h := (congrFun e_k7 s6).symm.trans h
        refine lv_iconst (v := I 0) C0.1 C0.2.1 dX8_sorts_117 rfl ?_
        refine lv_istore_n (lv' := [(3, .int (I 0)), (0, .ref (g.2 100)), (2, .int (I p2))]) C0.1 C0.2.1 dX8_sorts_118 rfl hl (by decide) rfl (fun ls hl => ?_)
        refine lv_iconst (v := I 0) C0.1 C0.2.1 dX8_sorts_119 rfl ?_
        refine lv_istore (lv' := [(4, .int (I 0)), (3, .int (I 0)), (0, .ref (g.2 100)), (2, .int (I p2))]) C0.1 C0.2.1 dX8_sorts_120 hl (by decide) rfl (fun ls hl => ?_)
        obtain ⟨k9, e_k9, h⟩ := jn_s h
        have h_k9 : ∀ (x8 : Int) (i_x8 : in32 x8) (H : Heap) (locs : List Loc) (ls : Array Slot), EW D (va_A (wM g σ) sz) s.heap (wM g s6) H locs → lv_has ls 6 [(0, .ref (g.2 100)), (2, .int (I p2)), (3, .int (I x8))] → k9 x8 = some (r, σr) → W p l e (rmk 4) s m args below meth c H locs 0 0 (MQ below (QCi D (wM g σr) r (in32 r ∧ R32 σr) (va_A (wM g σ) sz)) args s 0 0 (va_A (wM g σ) sz)) (F0 m 167 ls []) := by
          intro x8 i_x8 H locs ls hE hl h
          have h := (congrFun e_k9 x8).symm.trans h
          refine lv_aload_n C0.1 C0.2.1 dX8_sorts_167 rfl (lv_at hl 0 rfl) ?_
          refine lv_iconst (v := I 0) C0.1 C0.2.1 dX8_sorts_168 rfl ?_
          obtain ⟨s10, e_s10, hR, h⟩ := pf_s hR lit_0 h
          refine M_p_rowMany C0 hE e_s10 fk_X8_59 dX8_sorts_169 (fun H locs hE => ?_)
          refine lv_aload_n C0.1 C0.2.1 dX8_sorts_172 rfl (lv_at hl 0 rfl) ?_
          refine lv_iload_n C0.1 C0.2.1 dX8_sorts_173 rfl (lv_at hl 2 rfl) ?_
          refine x_i2l C0 i_x8 dX8_sorts_174 ?_
          obtain ⟨v11, s12, h_v11, h⟩ := bnd_s h
          refine callV_v (rest := []) C0 hml hE (M_rec C0 hE) (c_M_tell l D g hR (in64_of i_x8) h_v11) kw_X8_150 ⟨Nat.le_of_ble_eq_true rfl, Nat.le_of_ble_eq_true rfl⟩ rfl hl.1 rfl (Nat.le_of_ble_eq_true rfl) dX8_sorts_175 ⟨Nat.zero_le _, Nat.zero_le _⟩ (fun H locs hE hR => ?_)
          refine lv_aload_n C0.1 C0.2.1 dX8_sorts_178 rfl (lv_at hl 0 rfl) ?_
          refine lv_iload_n C0.1 C0.2.1 dX8_sorts_179 rfl (lv_at hl 1 rfl) ?_
          obtain ⟨v13, s14, h_v13, h⟩ := bnd_s h
          refine callV_i (rest := []) C0 hml hE (M_rec C0 hE) (c_M_builds l D g hR i_p2 h_v13) kw_X8_249 ⟨Nat.le_of_ble_eq_true rfl, Nat.le_of_ble_eq_true rfl⟩ rfl hl.1 rfl (Nat.le_of_ble_eq_true rfl) dX8_sorts_180 ⟨Nat.zero_le _, Nat.zero_le _⟩ (fun H locs hE ⟨i_v13, hR⟩ => ?_)
          exact ret_i (wf := wM g) C0 hr hlk hE h i_v13 hR dX8_sorts_183
        have hL122 : ∀ (n : Nat) (x15 : Int) (i_x15 : in32 x15) (x16 : Int) (i_x16 : in32 x16) (H : Heap) (locs : List Loc) (ls : Array Slot), EW D (va_A (wM g σ) sz) s.heap (wM g s6) H locs → lv_has ls 6 [(0, .ref (g.2 100)), (2, .int (I p2)), (3, .int (I x15)), (4, .int (I x16))] → M_sorts_L122 k9 s6 n x15 x16 = some (r, σr) → W p l e (rmk 4) s m args below meth c H locs 0 0 (MQ below (QCi D (wM g σr) r (in32 r ∧ R32 σr) (va_A (wM g σ) sz)) args s 0 0 (va_A (wM g σ) sz)) (F0 m 122 ls []) := by
          intro n
          induction n with
          | zero => intros; rename_i h; cases h
          | succ n ih17 =>
            intro x15 i_x15 x16 i_x16 H locs ls hE hl h
            unfold M_sorts_L122 at h
            refine lv_iload C0.1 C0.2.1 dX8_sorts_122 (lv_at hl 3 rfl) ?_
            refine lv_aload_n C0.1 C0.2.1 dX8_sorts_124 rfl (lv_at hl 0 rfl) ?_
            refine M_g_sizes C0 hE fk_X8_16 dX8_sorts_125 ?_
            refine lv_bipush (v := I 7) C0.1 C0.2.1 dX8_sorts_128 (by decide +kernel) ?_
            obtain ⟨v18, e_v18, i_v18, h⟩ := rd_s hR h
            refine M_sizes_l C0 hE lit_7 e_v18 dX8_sorts_130 ?_
            refine x_icmp_ge C0 i_x16 i_v18 dX8_sorts_131 (tgt := 167) (by decide) (fun c9 => ?_) (fun c9 => ?_)
            · have h := ite_f c9 h
              exact h_k9 x15 i_x15 _ _ _ hE (lv_sub hl [0, 1, 2] rfl) h
            · have h := ite_t c9 h
              refine lv_iload_n C0.1 C0.2.1 dX8_sorts_134 rfl (lv_at hl 2 rfl) ?_
              refine lv_aload_n C0.1 C0.2.1 dX8_sorts_135 rfl (lv_at hl 0 rfl) ?_
              refine lv_bipush (v := I 7) C0.1 C0.2.1 dX8_sorts_136 (by decide +kernel) ?_
              refine lv_iload C0.1 C0.2.1 dX8_sorts_138 (lv_at hl 3 rfl) ?_
              obtain ⟨v19, h_v19, h⟩ := bndp_s h
              refine callV_i (rest := [.int (I x15)]) C0 hml hE (M_rec C0 hE) (c_M_number l D g hR lit_7 i_x16 h_v19) kw_X8_99 ⟨Nat.le_of_ble_eq_true rfl, Nat.le_of_ble_eq_true rfl⟩ rfl hl.1 rfl (Nat.le_of_ble_eq_true rfl) dX8_sorts_140 ⟨Nat.zero_le _, Nat.zero_le _⟩ (fun H locs hE i_v19 => ?_)
              refine lv_aload_n C0.1 C0.2.1 dX8_sorts_143 rfl (lv_at hl 0 rfl) ?_
              refine lv_bipush (v := I 6) C0.1 C0.2.1 dX8_sorts_144 (by decide +kernel) ?_
              refine lv_iload C0.1 C0.2.1 dX8_sorts_146 (lv_at hl 3 rfl) ?_
              obtain ⟨v20, h_v20, h⟩ := bndp_s h
              refine callV_i (rest := [.int (I v19), .int (I x15)]) C0 hml hE (M_rec C0 hE) (c_M_number l D g hR lit_6 i_x16 h_v20) kw_X8_99 ⟨Nat.le_of_ble_eq_true rfl, Nat.le_of_ble_eq_true rfl⟩ rfl hl.1 rfl (Nat.le_of_ble_eq_true rfl) dX8_sorts_148 ⟨Nat.zero_le _, Nat.zero_le _⟩ (fun H locs hE i_v20 => ?_)
              obtain ⟨v21, e_v21, i_v21, h⟩ := oif_s h
              have kk_v21 : W p l e (rmk 4) s m args below meth c H locs 0 0 (MQ below (QCi D (wM g σr) r (in32 r ∧ R32 σr) (va_A (wM g σ) sz)) args s 0 0 (va_A (wM g σ) sz)) (F0 m 159 ls [.int (I v21), .int (I x15)]) := by
                obtain ⟨v22, e_v22, i_v22, h⟩ := oadd_s h
                refine x_add C0 e_v22 dX8_sorts_159 ?_
                refine lv_istore_n (lv' := [(3, .int (I v22)), (0, .ref (g.2 100)), (2, .int (I p2)), (4, .int (I x16))]) C0.1 C0.2.1 dX8_sorts_160 rfl hl (by decide) rfl (fun ls hl => ?_)
                obtain ⟨v23, e_v23, i_v23, h⟩ := oadd_s h
                refine x_iinc (lv' := [(4, .int (I v23)), (3, .int (I v22)), (0, .ref (g.2 100)), (2, .int (I p2))]) C0 dX8_sorts_161 hl (k := 3) rfl e_v23 (by decide) rfl (fun ls hl => ?_)
                refine x_goto C0 dX8_sorts_164 (tgt := 122) (by decide) ?_
                exact ih17 v22 i_v22 v23 i_v23 _ _ _ hE (lv_sub hl [2, 3, 1, 0] rfl) h
              refine x_icmp_eq C0 i_v19 i_v20 dX8_sorts_151 (tgt := 158) (by decide) (fun c9 => ?_) (fun c9 => ?_)
              · have e9 := e_v21.trans (if_pos c9)
                refine lv_iconst (v := I 0) C0.1 C0.2.1 dX8_sorts_158 rfl ?_
                rw [e9] at kk_v21; exact kk_v21
              · have e9 := e_v21.trans (if_neg c9)
                refine lv_iconst (v := I 1) C0.1 C0.2.1 dX8_sorts_154 rfl ?_
                refine x_goto C0 dX8_sorts_155 (tgt := 159) (by decide) ?_
                rw [e9] at kk_v21; exact kk_v21
        exact hL122 FU 0 lit_0 0 lit_0 _ _ _ hE (lv_sub hl [2, 3, 1, 0] rfl) h
      have hL28 : ∀ (n : Nat) (s25 : St) (hR : R32 s25) (x24 : Int) (i_x24 : in32 x24) (H : Heap) (locs : List Loc) (ls : Array Slot), EW D (va_A (wM g σ) sz) s.heap (wM g s25) H locs → lv_has ls 6 [(0, .ref (g.2 100)), (2, .int (I p2)), (3, .int (I x24))] → M_sorts_L28 k7 n s25 x24 = some (r, σr) → W p l e (rmk 4) s m args below meth c H locs 0 0 (MQ below (QCi D (wM g σr) r (in32 r ∧ R32 σr) (va_A (wM g σ) sz)) args s 0 0 (va_A (wM g σ) sz)) (F0 m 28 ls []) := by
        intro n
        induction n with
        | zero => intros; rename_i h; cases h
        | succ n ih26 =>
          intro s25 hR x24 i_x24 H locs ls hE hl h
          unfold M_sorts_L28 at h
          refine lv_iload_n C0.1 C0.2.1 dX8_sorts_28 rfl (lv_at hl 2 rfl) ?_
          refine lv_aload_n C0.1 C0.2.1 dX8_sorts_29 rfl (lv_at hl 0 rfl) ?_
          refine M_g_sizes C0 hE fk_X8_16 dX8_sorts_30 ?_
          refine lv_bipush (v := I 7) C0.1 C0.2.1 dX8_sorts_33 (by decide +kernel) ?_
          obtain ⟨v27, e_v27, i_v27, h⟩ := rd_s hR h
          refine M_sizes_l C0 hE lit_7 e_v27 dX8_sorts_35 ?_
          refine x_icmp_ge C0 i_x24 i_v27 dX8_sorts_36 (tgt := 117) (by decide) (fun c9 => ?_) (fun c9 => ?_)
          · have h := ite_f c9 h
            exact h_k7 s25 hR _ _ _ hE (lv_sub hl [0, 1] rfl) h
          · have h := ite_t c9 h
            refine lv_aload_n C0.1 C0.2.1 dX8_sorts_39 rfl (lv_at hl 0 rfl) ?_
            refine lv_bipush (v := I 7) C0.1 C0.2.1 dX8_sorts_40 (by decide +kernel) ?_
            refine lv_iload_n C0.1 C0.2.1 dX8_sorts_42 rfl (lv_at hl 2 rfl) ?_
            obtain ⟨v28, h_v28, h⟩ := bndp_s h
            refine callV_i (rest := []) C0 hml hE (M_rec C0 hE) (c_M_number l D g hR lit_7 i_x24 h_v28) kw_X8_99 ⟨Nat.le_of_ble_eq_true rfl, Nat.le_of_ble_eq_true rfl⟩ rfl hl.1 rfl (Nat.le_of_ble_eq_true rfl) dX8_sorts_43 ⟨Nat.zero_le _, Nat.zero_le _⟩ (fun H locs hE i_v28 => ?_)
            refine lv_istore (lv' := [(4, .int (I v28)), (0, .ref (g.2 100)), (2, .int (I p2)), (3, .int (I x24))]) C0.1 C0.2.1 dX8_sorts_46 hl (by decide) rfl (fun ls hl => ?_)
            refine lv_iload_n C0.1 C0.2.1 dX8_sorts_48 rfl (lv_at hl 3 rfl) ?_
            refine lv_istore (lv' := [(5, .int (I x24)), (4, .int (I v28)), (0, .ref (g.2 100)), (2, .int (I p2)), (3, .int (I x24))]) C0.1 C0.2.1 dX8_sorts_49 hl (by decide) rfl (fun ls hl => ?_)
            obtain ⟨k31, e_k31, h⟩ := jn_s h
            have h_k31 : ∀ (s29 : St) (hR : R32 s29) (x30 : Int) (i_x30 : in32 x30) (H : Heap) (locs : List Loc) (ls : Array Slot), EW D (va_A (wM g σ) sz) s.heap (wM g s29) H locs → lv_has ls 6 [(0, .ref (g.2 100)), (2, .int (I p2)), (3, .int (I x24)), (4, .int (I v28)), (5, .int (I x30))] → k31 s29 x30 = some (r, σr) → W p l e (rmk 4) s m args below meth c H locs 0 0 (MQ below (QCi D (wM g σr) r (in32 r ∧ R32 σr) (va_A (wM g σ) sz)) args s 0 0 (va_A (wM g σ) sz)) (F0 m 98 ls []) := by
              intro s29 hR x30 i_x30 H locs ls hE hl h
              have h := (congrFun (congrFun e_k31 s29) x30).symm.trans h
              refine lv_aload_n C0.1 C0.2.1 dX8_sorts_98 rfl (lv_at hl 0 rfl) ?_
              refine M_g_numbers C0 hE fk_X8_7 dX8_sorts_99 ?_
              refine lv_sipush (v := I 1792) C0.1 C0.2.1 dX8_sorts_102 (by decide +kernel) ?_
              refine lv_iload C0.1 C0.2.1 dX8_sorts_105 (lv_at hl 4 rfl) ?_
              obtain ⟨v32, e_v32, i_v32, h⟩ := oadd_s h
              refine x_add C0 e_v32 dX8_sorts_107 ?_
              refine lv_iload C0.1 C0.2.1 dX8_sorts_108 (lv_at hl 3 rfl) ?_
              obtain ⟨s33, e_s33, hR, h⟩ := wr_s hR i_v28 h
              refine M_numbers_st C0 hE i_v32 e_s33 dX8_sorts_110 (fun H locs hE => ?_)
              obtain ⟨v34, e_v34, i_v34, h⟩ := oadd_s h
              refine x_iinc (lv' := [(3, .int (I v34)), (0, .ref (g.2 100)), (2, .int (I p2)), (4, .int (I v28)), (5, .int (I x30))]) C0 dX8_sorts_111 hl (k := 2) rfl e_v34 (by decide) rfl (fun ls hl => ?_)
              refine x_goto C0 dX8_sorts_114 (tgt := 28) (by decide) ?_
              exact ih26 s33 hR v34 i_v34 _ _ _ hE (lv_sub hl [1, 2, 0] rfl) h
            have hL51 : ∀ (n : Nat) (s36 : St) (hR : R32 s36) (x35 : Int) (i_x35 : in32 x35) (H : Heap) (locs : List Loc) (ls : Array Slot), EW D (va_A (wM g σ) sz) s.heap (wM g s36) H locs → lv_has ls 6 [(0, .ref (g.2 100)), (2, .int (I p2)), (3, .int (I x24)), (4, .int (I v28)), (5, .int (I x35))] → M_sorts_L51 k31 v28 n s36 x35 = some (r, σr) → W p l e (rmk 4) s m args below meth c H locs 0 0 (MQ below (QCi D (wM g σr) r (in32 r ∧ R32 σr) (va_A (wM g σ) sz)) args s 0 0 (va_A (wM g σ) sz)) (F0 m 51 ls []) := by
              intro n
              induction n with
              | zero => intros; rename_i h; cases h
              | succ n ih37 =>
                intro s36 hR x35 i_x35 H locs ls hE hl h
                unfold M_sorts_L51 at h
                refine lv_iload C0.1 C0.2.1 dX8_sorts_51 (lv_at hl 4 rfl) ?_
                refine x_if_le C0 i_x35 dX8_sorts_53 (tgt := 98) (by decide) (fun c9 => ?_) (fun c9 => ?_)
                · have h := ite_f c9 h
                  exact h_k31 s36 hR x35 i_x35 _ _ _ hE (lv_sub hl [0, 1, 2, 3, 4] rfl) h
                · have h := ite_t c9 h
                  refine lv_aload_n C0.1 C0.2.1 dX8_sorts_56 rfl (lv_at hl 0 rfl) ?_
                  refine lv_bipush (v := I 7) C0.1 C0.2.1 dX8_sorts_57 (by decide +kernel) ?_
                  refine lv_iload C0.1 C0.2.1 dX8_sorts_59 (lv_at hl 4 rfl) ?_
                  refine lv_iconst (v := I 1) C0.1 C0.2.1 dX8_sorts_61 rfl ?_
                  obtain ⟨v38, e_v38, i_v38, h⟩ := osub_s h
                  refine x_sub C0 e_v38 dX8_sorts_62 ?_
                  obtain ⟨v39, h_v39, h⟩ := bndp_s h
                  refine callV_i (rest := []) C0 hml hE (M_rec C0 hE) (c_M_number l D g hR lit_7 i_v38 h_v39) kw_X8_99 ⟨Nat.le_of_ble_eq_true rfl, Nat.le_of_ble_eq_true rfl⟩ rfl hl.1 rfl (Nat.le_of_ble_eq_true rfl) dX8_sorts_63 ⟨Nat.zero_le _, Nat.zero_le _⟩ (fun H locs hE i_v39 => ?_)
                  refine lv_iload C0.1 C0.2.1 dX8_sorts_66 (lv_at hl 3 rfl) ?_
                  refine x_icmp_le C0 i_v39 i_v28 dX8_sorts_68 (tgt := 98) (by decide) (fun c9 => ?_) (fun c9 => ?_)
                  · have h := ite_f c9 h
                    exact h_k31 s36 hR x35 i_x35 _ _ _ hE (lv_sub hl [0, 1, 2, 3, 4] rfl) h
                  · have h := ite_t c9 h
                    refine lv_aload_n C0.1 C0.2.1 dX8_sorts_71 rfl (lv_at hl 0 rfl) ?_
                    refine M_g_numbers C0 hE fk_X8_7 dX8_sorts_72 ?_
                    refine lv_sipush (v := I 1792) C0.1 C0.2.1 dX8_sorts_75 (by decide +kernel) ?_
                    refine lv_iload C0.1 C0.2.1 dX8_sorts_78 (lv_at hl 4 rfl) ?_
                    obtain ⟨v40, e_v40, i_v40, h⟩ := oadd_s h
                    refine x_add C0 e_v40 dX8_sorts_80 ?_
                    refine lv_aload_n C0.1 C0.2.1 dX8_sorts_81 rfl (lv_at hl 0 rfl) ?_
                    refine lv_bipush (v := I 7) C0.1 C0.2.1 dX8_sorts_82 (by decide +kernel) ?_
                    refine lv_iload C0.1 C0.2.1 dX8_sorts_84 (lv_at hl 4 rfl) ?_
                    refine lv_iconst (v := I 1) C0.1 C0.2.1 dX8_sorts_86 rfl ?_
                    obtain ⟨v41, e_v41, i_v41, h⟩ := osub_s h
                    refine x_sub C0 e_v41 dX8_sorts_87 ?_
                    obtain ⟨v42, h_v42, h⟩ := bndp_s h
                    refine callV_i (rest := [.int (I v40), .ref (g.2 101)]) C0 hml hE (M_rec C0 hE) (c_M_number l D g hR lit_7 i_v41 h_v42) kw_X8_99 ⟨Nat.le_of_ble_eq_true rfl, Nat.le_of_ble_eq_true rfl⟩ rfl hl.1 rfl (Nat.le_of_ble_eq_true rfl) dX8_sorts_88 ⟨Nat.zero_le _, Nat.zero_le _⟩ (fun H locs hE i_v42 => ?_)
                    obtain ⟨s43, e_s43, hR, h⟩ := wr_s hR i_v42 h
                    refine M_numbers_st C0 hE i_v40 e_s43 dX8_sorts_91 (fun H locs hE => ?_)
                    obtain ⟨v44, e_v44, i_v44, h⟩ := oadd_s h
                    refine x_iinc (lv' := [(5, .int (I v44)), (0, .ref (g.2 100)), (2, .int (I p2)), (3, .int (I x24)), (4, .int (I v28))]) C0 dX8_sorts_92 hl (k := 4) rfl e_v44 (by decide) rfl (fun ls hl => ?_)
                    refine x_goto C0 dX8_sorts_95 (tgt := 51) (by decide) ?_
                    exact ih37 s43 hR v44 i_v44 _ _ _ hE (lv_sub hl [1, 2, 3, 4, 0] rfl) h
            exact hL51 FU s25 hR x24 i_x24 _ _ _ hE (lv_sub hl [2, 3, 4, 1, 0] rfl) h
      exact hL28 FU s5 hR 1 lit_1 _ _ _ hE (lv_sub hl [1, 3, 0] rfl) h
    · have h := ite_t c9 h
      refine lv_iconst (v := I (-1)) C0.1 C0.2.1 dX8_sorts_19 rfl ?_
      exact ret_i (wf := wM g) C0 hr hlk hE h lit_m1 hR dX8_sorts_20
set_option maxRecDepth 100000 in
set_option maxHeartbeats 4000000 in
theorem c_M_merges (l : Launch) (D : va_G) (g : Ad) {σ σr : St} {p1 p2 p3 r : Int} (hR : R32 σ) (i_p1 : in32 p1) (i_p2 : in32 p2) (i_p3 : in32 p3) (h : M_merges σ p1 p2 p3 = some (r, σr)) : CtI l D g yX8_merges cX8_merges 7 (some .int) 4 (wM g σ) (wM g σr) [.ref (g.2 100), .int (I p1), .int (I p2), .int (I p3)] r (in32 r ∧ R32 σr) := by
  intro sz
  refine met_of (by decide) (Nat.le_of_ble_eq_true rfl) (fun p e s m args below meth c ls H locs C0 hml hr hlk hE hl => ?_)
  have C0 : CX p c cX8_merges m s args D g RX8 := C0
  have hl : lv_has ls 7 [(0, .ref (g.2 100)), (1, .int (I p1)), (2, .int (I p2)), (3, .int (I p3))] := hl
  unfold M_merges at h
  refine lv_aload_n C0.1 C0.2.1 dX8_merges_0 rfl (lv_at hl 0 rfl) ?_
  refine lv_iconst (v := I 0) C0.1 C0.2.1 dX8_merges_1 rfl ?_
  obtain ⟨s1, e_s1, hR, h⟩ := pf_s hR lit_0 h
  refine M_p_thrown C0 hE e_s1 fk_X8_55 dX8_merges_2 (fun H locs hE => ?_)
  refine lv_iload_n C0.1 C0.2.1 dX8_merges_5 rfl (lv_at hl 1 rfl) ?_
  obtain ⟨v2, h_v2, h⟩ := bndp_s h
  refine callS_i (rest := []) C0 hml hE (c_M_isPlace l D g (σ := s1) i_p1 h_v2) kw_X8_134 ⟨Nat.le_of_ble_eq_true rfl, Nat.le_of_ble_eq_true rfl⟩ rfl hl.1 rfl (Nat.le_of_ble_eq_true rfl) dX8_merges_6 ⟨Nat.zero_le _, Nat.zero_le _⟩ (fun H locs hE i_v2 => ?_)
  refine x_if_eq C0 i_v2 dX8_merges_9 (tgt := 26) (by decide) (fun c9 => ?_) (fun c9 => ?_)
  · have h := ite_t c9 h
    refine lv_iconst (v := I (-1)) C0.1 C0.2.1 dX8_merges_26 rfl ?_
    exact ret_i (wf := wM g) C0 hr hlk hE h lit_m1 hR dX8_merges_27
  · have h := ite_f c9 h
    refine lv_iload_n C0.1 C0.2.1 dX8_merges_12 rfl (lv_at hl 2 rfl) ?_
    obtain ⟨v3, h_v3, h⟩ := bndp_s h
    refine callS_i (rest := []) C0 hml hE (c_M_isPlace l D g (σ := s1) i_p2 h_v3) kw_X8_134 ⟨Nat.le_of_ble_eq_true rfl, Nat.le_of_ble_eq_true rfl⟩ rfl hl.1 rfl (Nat.le_of_ble_eq_true rfl) dX8_merges_13 ⟨Nat.zero_le _, Nat.zero_le _⟩ (fun H locs hE i_v3 => ?_)
    refine x_if_eq C0 i_v3 dX8_merges_16 (tgt := 26) (by decide) (fun c9 => ?_) (fun c9 => ?_)
    · have h := ite_t c9 h
      refine lv_iconst (v := I (-1)) C0.1 C0.2.1 dX8_merges_26 rfl ?_
      exact ret_i (wf := wM g) C0 hr hlk hE h lit_m1 hR dX8_merges_27
    · have h := ite_f c9 h
      refine lv_iload_n C0.1 C0.2.1 dX8_merges_19 rfl (lv_at hl 3 rfl) ?_
      obtain ⟨v4, h_v4, h⟩ := bndp_s h
      refine callS_i (rest := []) C0 hml hE (c_M_isPlace l D g (σ := s1) i_p3 h_v4) kw_X8_134 ⟨Nat.le_of_ble_eq_true rfl, Nat.le_of_ble_eq_true rfl⟩ rfl hl.1 rfl (Nat.le_of_ble_eq_true rfl) dX8_merges_20 ⟨Nat.zero_le _, Nat.zero_le _⟩ (fun H locs hE i_v4 => ?_)
      refine x_if_ne C0 i_v4 dX8_merges_23 (tgt := 28) (by decide) (fun c9 => ?_) (fun c9 => ?_)
      · have h := ite_f c9 h
        refine lv_aload_n C0.1 C0.2.1 dX8_merges_28 rfl (lv_at hl 0 rfl) ?_
        refine M_g_sizes C0 hE fk_X8_16 dX8_merges_29 ?_
        refine lv_iload_n C0.1 C0.2.1 dX8_merges_32 rfl (lv_at hl 1 rfl) ?_
        obtain ⟨v5, e_v5, i_v5, h⟩ := rd_s hR h
        refine M_sizes_l C0 hE i_p1 e_v5 dX8_merges_33 ?_
        refine lv_aload_n C0.1 C0.2.1 dX8_merges_34 rfl (lv_at hl 0 rfl) ?_
        refine M_g_sizes C0 hE fk_X8_16 dX8_merges_35 ?_
        refine lv_iload_n C0.1 C0.2.1 dX8_merges_38 rfl (lv_at hl 2 rfl) ?_
        obtain ⟨v6, e_v6, i_v6, h⟩ := rd_s hR h
        refine M_sizes_l C0 hE i_p2 e_v6 dX8_merges_39 ?_
        obtain ⟨v7, e_v7, i_v7, h⟩ := oadd_s h
        refine x_add C0 e_v7 dX8_merges_40 ?_
        refine lv_sipush (v := I 255) C0.1 C0.2.1 dX8_merges_41 (by decide +kernel) ?_
        refine x_icmp_le C0 i_v7 lit_255 dX8_merges_44 (tgt := 50) (by decide) (fun c9 => ?_) (fun c9 => ?_)
        · have h := ite_f c9 h
          refine lv_aload_n C0.1 C0.2.1 dX8_merges_50 rfl (lv_at hl 0 rfl) ?_
          refine M_g_sizes C0 hE fk_X8_16 dX8_merges_51 ?_
          refine lv_bipush (v := I 7) C0.1 C0.2.1 dX8_merges_54 (by decide +kernel) ?_
          refine lv_iconst (v := I 0) C0.1 C0.2.1 dX8_merges_56 rfl ?_
          obtain ⟨s8, e_s8, hR, h⟩ := wr_s hR lit_0 h
          refine M_sizes_st C0 hE lit_7 e_s8 dX8_merges_57 (fun H locs hE => ?_)
          refine lv_iconst (v := I 0) C0.1 C0.2.1 dX8_merges_58 rfl ?_
          refine lv_istore (lv' := [(4, .int (I 0)), (0, .ref (g.2 100)), (1, .int (I p1)), (2, .int (I p2)), (3, .int (I p3))]) C0.1 C0.2.1 dX8_merges_59 hl (by decide) rfl (fun ls hl => ?_)
          refine lv_iconst (v := I 0) C0.1 C0.2.1 dX8_merges_61 rfl ?_
          refine lv_istore (lv' := [(5, .int (I 0)), (4, .int (I 0)), (0, .ref (g.2 100)), (1, .int (I p1)), (2, .int (I p2)), (3, .int (I p3))]) C0.1 C0.2.1 dX8_merges_62 hl (by decide) rfl (fun ls hl => ?_)
          obtain ⟨k10, e_k10, h⟩ := jn_s h
          have h_k10 : ∀ (s9 : St) (hR : R32 s9) (H : Heap) (locs : List Loc) (ls : Array Slot), EW D (va_A (wM g σ) sz) s.heap (wM g s9) H locs → lv_has ls 7 [(0, .ref (g.2 100)), (3, .int (I p3))] → k10 s9 = some (r, σr) → W p l e (rmk 4) s m args below meth c H locs 0 0 (MQ below (QCi D (wM g σr) r (in32 r ∧ R32 σr) (va_A (wM g σ) sz)) args s 0 0 (va_A (wM g σ) sz)) (F0 m 191 ls []) := by
            intro s9 hR H locs ls hE hl h
            have h := (congrFun e_k10 s9).symm.trans h
            refine lv_aload_n C0.1 C0.2.1 dX8_merges_191 rfl (lv_at hl 0 rfl) ?_
            refine lv_iload_n C0.1 C0.2.1 dX8_merges_192 rfl (lv_at hl 1 rfl) ?_
            obtain ⟨v11, s12, h_v11, h⟩ := bnd_s h
            refine callV_i (rest := []) C0 hml hE (M_rec C0 hE) (c_M_builds l D g hR i_p3 h_v11) kw_X8_249 ⟨Nat.le_of_ble_eq_true rfl, Nat.le_of_ble_eq_true rfl⟩ rfl hl.1 rfl (Nat.le_of_ble_eq_true rfl) dX8_merges_193 ⟨Nat.zero_le _, Nat.zero_le _⟩ (fun H locs hE ⟨i_v11, hR⟩ => ?_)
            exact ret_i (wf := wM g) C0 hr hlk hE h i_v11 hR dX8_merges_196
          have hL64 : ∀ (n : Nat) (s15 : St) (hR : R32 s15) (x13 : Int) (i_x13 : in32 x13) (x14 : Int) (i_x14 : in32 x14) (H : Heap) (locs : List Loc) (ls : Array Slot), EW D (va_A (wM g σ) sz) s.heap (wM g s15) H locs → lv_has ls 7 [(0, .ref (g.2 100)), (1, .int (I p1)), (2, .int (I p2)), (3, .int (I p3)), (4, .int (I x13)), (5, .int (I x14))] → M_merges_L64 k10 p1 p2 n s15 x13 x14 = some (r, σr) → W p l e (rmk 4) s m args below meth c H locs 0 0 (MQ below (QCi D (wM g σr) r (in32 r ∧ R32 σr) (va_A (wM g σ) sz)) args s 0 0 (va_A (wM g σ) sz)) (F0 m 64 ls []) := by
            intro n
            induction n with
            | zero => intros; rename_i h; cases h
            | succ n ih16 =>
              intro s15 hR x13 i_x13 x14 i_x14 H locs ls hE hl h
              unfold M_merges_L64 at h
              refine lv_iload C0.1 C0.2.1 dX8_merges_64 (lv_at hl 4 rfl) ?_
              refine lv_aload_n C0.1 C0.2.1 dX8_merges_66 rfl (lv_at hl 0 rfl) ?_
              refine M_g_sizes C0 hE fk_X8_16 dX8_merges_67 ?_
              refine lv_iload_n C0.1 C0.2.1 dX8_merges_70 rfl (lv_at hl 1 rfl) ?_
              obtain ⟨v17, e_v17, i_v17, h⟩ := rd_s hR h
              refine M_sizes_l C0 hE i_p1 e_v17 dX8_merges_71 ?_
              obtain ⟨k18, e_k18, h⟩ := jn_s h
              have h_k18 : ∀ (H : Heap) (locs : List Loc) (ls : Array Slot), EW D (va_A (wM g σ) sz) s.heap (wM g s15) H locs → lv_has ls 7 [(0, .ref (g.2 100)), (1, .int (I p1)), (2, .int (I p2)), (3, .int (I p3)), (4, .int (I x13)), (5, .int (I x14))] → k18 = some (r, σr) → W p l e (rmk 4) s m args below meth c H locs 0 0 (MQ below (QCi D (wM g σr) r (in32 r ∧ R32 σr) (va_A (wM g σ) sz)) args s 0 0 (va_A (wM g σ) sz)) (F0 m 86 ls []) := by
                intro H locs ls hE hl h
                have h := e_k18.symm.trans h
                refine lv_iload C0.1 C0.2.1 dX8_merges_86 (lv_at hl 5 rfl) ?_
                refine lv_aload_n C0.1 C0.2.1 dX8_merges_88 rfl (lv_at hl 0 rfl) ?_
                refine M_g_sizes C0 hE fk_X8_16 dX8_merges_89 ?_
                refine lv_iload_n C0.1 C0.2.1 dX8_merges_92 rfl (lv_at hl 2 rfl) ?_
                obtain ⟨v19, e_v19, i_v19, h⟩ := rd_s hR h
                refine M_sizes_l C0 hE i_p2 e_v19 dX8_merges_93 ?_
                obtain ⟨k21, e_k21, h⟩ := jn_s h
                have h_k21 : ∀ (x20 : Int) (i_x20 : in32 x20) (H : Heap) (locs : List Loc) (ls : Array Slot), EW D (va_A (wM g σ) sz) s.heap (wM g s15) H locs → lv_has ls 7 [(0, .ref (g.2 100)), (1, .int (I p1)), (2, .int (I p2)), (3, .int (I p3)), (4, .int (I x13)), (5, .int (I x14))] → k21 x20 = some (r, σr) → W p l e (rmk 4) s m args below meth c H locs 0 0 (MQ below (QCi D (wM g σr) r (in32 r ∧ R32 σr) (va_A (wM g σ) sz)) args s 0 0 (va_A (wM g σ) sz)) (F0 m 130 ls [.int (I x20)]) := by
                  intro x20 i_x20 H locs ls hE hl h
                  have h := (congrFun e_k21 x20).symm.trans h
                  refine lv_istore (lv' := [(6, .int (I x20)), (0, .ref (g.2 100)), (1, .int (I p1)), (2, .int (I p2)), (3, .int (I p3)), (4, .int (I x13)), (5, .int (I x14))]) C0.1 C0.2.1 dX8_merges_130 hl (by decide) rfl (fun ls hl => ?_)
                  refine lv_aload_n C0.1 C0.2.1 dX8_merges_132 rfl (lv_at hl 1 rfl) ?_
                  refine lv_iload C0.1 C0.2.1 dX8_merges_133 (lv_at hl 0 rfl) ?_
                  obtain ⟨k23, e_k23, h⟩ := jn_s h
                  have h_k23 : ∀ (x22 : Int) (i_x22 : in32 x22) (H : Heap) (locs : List Loc) (ls : Array Slot), EW D (va_A (wM g σ) sz) s.heap (wM g s15) H locs → lv_has ls 7 [(0, .ref (g.2 100)), (1, .int (I p1)), (2, .int (I p2)), (3, .int (I p3)), (4, .int (I x13)), (5, .int (I x14)), (6, .int (I x20))] → k23 x22 = some (r, σr) → W p l e (rmk 4) s m args below meth c H locs 0 0 (MQ below (QCi D (wM g σr) r (in32 r ∧ R32 σr) (va_A (wM g σ) sz)) args s 0 0 (va_A (wM g σ) sz)) (F0 m 155 ls [.int (I x22), .ref (g.2 100)]) := by
                    intro x22 i_x22 H locs ls hE hl h
                    have h := (congrFun e_k23 x22).symm.trans h
                    obtain ⟨v24, s25, h_v24, h⟩ := bnd_s h
                    refine callV_v (rest := []) C0 hml hE (M_rec C0 hE) (c_M_lays l D g hR i_x22 h_v24) kw_X8_246 ⟨Nat.le_of_ble_eq_true rfl, Nat.le_of_ble_eq_true rfl⟩ rfl hl.1 rfl (Nat.le_of_ble_eq_true rfl) dX8_merges_155 ⟨Nat.zero_le _, Nat.zero_le _⟩ (fun H locs hE hR => ?_)
                    refine lv_iload C0.1 C0.2.1 dX8_merges_158 (lv_at hl 4 rfl) ?_
                    refine lv_iload C0.1 C0.2.1 dX8_merges_160 (lv_at hl 6 rfl) ?_
                    obtain ⟨v26, e_v26, i_v26, h⟩ := oif_s h
                    have kk_v26 : W p l e (rmk 4) s m args below meth c H locs 0 0 (MQ below (QCi D (wM g σr) r (in32 r ∧ R32 σr) (va_A (wM g σ) sz)) args s 0 0 (va_A (wM g σ) sz)) (F0 m 170 ls [.int (I v26), .int (I x13)]) := by
                      obtain ⟨v27, e_v27, i_v27, h⟩ := oadd_s h
                      refine x_add C0 e_v27 dX8_merges_170 ?_
                      refine lv_istore (lv' := [(4, .int (I v27)), (0, .ref (g.2 100)), (1, .int (I p1)), (2, .int (I p2)), (3, .int (I p3)), (5, .int (I x14)), (6, .int (I x20))]) C0.1 C0.2.1 dX8_merges_171 hl (by decide) rfl (fun ls hl => ?_)
                      refine lv_iload C0.1 C0.2.1 dX8_merges_173 (lv_at hl 5 rfl) ?_
                      refine lv_iload C0.1 C0.2.1 dX8_merges_175 (lv_at hl 6 rfl) ?_
                      obtain ⟨v28, e_v28, i_v28, h⟩ := oif_s h
                      have kk_v28 : W p l e (rmk 4) s m args below meth c H locs 0 0 (MQ below (QCi D (wM g σr) r (in32 r ∧ R32 σr) (va_A (wM g σ) sz)) args s 0 0 (va_A (wM g σ) sz)) (F0 m 185 ls [.int (I v28), .int (I x14)]) := by
                        obtain ⟨v29, e_v29, i_v29, h⟩ := oadd_s h
                        refine x_add C0 e_v29 dX8_merges_185 ?_
                        refine lv_istore (lv' := [(5, .int (I v29)), (4, .int (I v27)), (0, .ref (g.2 100)), (1, .int (I p1)), (2, .int (I p2)), (3, .int (I p3)), (6, .int (I x20))]) C0.1 C0.2.1 dX8_merges_186 hl (by decide) rfl (fun ls hl => ?_)
                        refine x_goto C0 dX8_merges_188 (tgt := 64) (by decide) ?_
                        exact ih16 s25 hR v27 i_v27 v29 i_v29 _ _ _ hE (lv_sub hl [2, 3, 4, 5, 1, 0] rfl) h
                      refine x_if_eq C0 i_x20 dX8_merges_177 (tgt := 184) (by decide) (fun c9 => ?_) (fun c9 => ?_)
                      · have e9 := e_v28.trans (if_pos c9)
                        refine lv_iconst (v := I 1) C0.1 C0.2.1 dX8_merges_184 rfl ?_
                        rw [e9] at kk_v28; exact kk_v28
                      · have e9 := e_v28.trans (if_neg c9)
                        refine lv_iconst (v := I 0) C0.1 C0.2.1 dX8_merges_180 rfl ?_
                        refine x_goto C0 dX8_merges_181 (tgt := 185) (by decide) ?_
                        rw [e9] at kk_v28; exact kk_v28
                    refine x_if_eq C0 i_x20 dX8_merges_162 (tgt := 169) (by decide) (fun c9 => ?_) (fun c9 => ?_)
                    · have e9 := e_v26.trans (if_pos c9)
                      refine lv_iconst (v := I 0) C0.1 C0.2.1 dX8_merges_169 rfl ?_
                      rw [e9] at kk_v26; exact kk_v26
                    · have e9 := e_v26.trans (if_neg c9)
                      refine lv_iconst (v := I 1) C0.1 C0.2.1 dX8_merges_165 rfl ?_
                      refine x_goto C0 dX8_merges_166 (tgt := 170) (by decide) ?_
                      rw [e9] at kk_v26; exact kk_v26
                  refine x_if_eq C0 i_x20 dX8_merges_135 (tgt := 148) (by decide) (fun c9 => ?_) (fun c9 => ?_)
                  · have h := ite_t c9 h
                    refine lv_aload_n C0.1 C0.2.1 dX8_merges_148 rfl (lv_at hl 1 rfl) ?_
                    refine lv_iload_n C0.1 C0.2.1 dX8_merges_149 rfl (lv_at hl 3 rfl) ?_
                    refine lv_iload C0.1 C0.2.1 dX8_merges_150 (lv_at hl 6 rfl) ?_
                    obtain ⟨v30, h_v30, h⟩ := bndp_s h
                    refine callV_i (rest := [.ref (g.2 100)]) C0 hml hE (M_rec C0 hE) (c_M_number l D g hR i_p2 i_x14 h_v30) kw_X8_99 ⟨Nat.le_of_ble_eq_true rfl, Nat.le_of_ble_eq_true rfl⟩ rfl hl.1 rfl (Nat.le_of_ble_eq_true rfl) dX8_merges_152 ⟨Nat.zero_le _, Nat.zero_le _⟩ (fun H locs hE i_v30 => ?_)
                    exact h_k23 v30 i_v30 _ _ _ hE (lv_sub hl [1, 2, 3, 4, 5, 6, 0] rfl) h
                  · have h := ite_f c9 h
                    refine lv_aload_n C0.1 C0.2.1 dX8_merges_138 rfl (lv_at hl 1 rfl) ?_
                    refine lv_iload_n C0.1 C0.2.1 dX8_merges_139 rfl (lv_at hl 2 rfl) ?_
                    refine lv_iload C0.1 C0.2.1 dX8_merges_140 (lv_at hl 5 rfl) ?_
                    obtain ⟨v31, h_v31, h⟩ := bndp_s h
                    refine callV_i (rest := [.ref (g.2 100)]) C0 hml hE (M_rec C0 hE) (c_M_number l D g hR i_p1 i_x13 h_v31) kw_X8_99 ⟨Nat.le_of_ble_eq_true rfl, Nat.le_of_ble_eq_true rfl⟩ rfl hl.1 rfl (Nat.le_of_ble_eq_true rfl) dX8_merges_142 ⟨Nat.zero_le _, Nat.zero_le _⟩ (fun H locs hE i_v31 => ?_)
                    refine x_goto C0 dX8_merges_145 (tgt := 155) (by decide) ?_
                    exact h_k23 v31 i_v31 _ _ _ hE (lv_sub hl [1, 2, 3, 4, 5, 6, 0] rfl) h
                obtain ⟨k32, e_k32, h⟩ := jn_s h
                have h_k32 : ∀ (H : Heap) (locs : List Loc) (ls : Array Slot), EW D (va_A (wM g σ) sz) s.heap (wM g s15) H locs → lv_has ls 7 [(0, .ref (g.2 100)), (1, .int (I p1)), (2, .int (I p2)), (3, .int (I p3)), (4, .int (I x13)), (5, .int (I x14))] → k32 = some (r, σr) → W p l e (rmk 4) s m args below meth c H locs 0 0 (MQ below (QCi D (wM g σr) r (in32 r ∧ R32 σr) (va_A (wM g σ) sz)) args s 0 0 (va_A (wM g σ) sz)) (F0 m 125 ls []) := by
                  intro H locs ls hE hl h
                  have h := e_k32.symm.trans h
                  refine lv_iconst (v := I 1) C0.1 C0.2.1 dX8_merges_125 rfl ?_
                  refine x_goto C0 dX8_merges_126 (tgt := 130) (by decide) ?_
                  exact h_k21 1 lit_1 _ _ _ hE (lv_sub hl [0, 1, 2, 3, 4, 5] rfl) h
                refine x_icmp_eq C0 i_x14 i_v19 dX8_merges_94 (tgt := 125) (by decide) (fun c9 => ?_) (fun c9 => ?_)
                · have h := ite_t c9 h
                  exact h_k32 _ _ _ hE (lv_sub hl [0, 1, 2, 3, 4, 5] rfl) h
                · have h := ite_f c9 h
                  refine lv_iload C0.1 C0.2.1 dX8_merges_97 (lv_at hl 4 rfl) ?_
                  refine lv_aload_n C0.1 C0.2.1 dX8_merges_99 rfl (lv_at hl 0 rfl) ?_
                  refine M_g_sizes C0 hE fk_X8_16 dX8_merges_100 ?_
                  refine lv_iload_n C0.1 C0.2.1 dX8_merges_103 rfl (lv_at hl 1 rfl) ?_
                  obtain ⟨v33, e_v33, i_v33, h⟩ := rd_s hR h
                  refine M_sizes_l C0 hE i_p1 e_v33 dX8_merges_104 ?_
                  obtain ⟨k34, e_k34, h⟩ := jn_s h
                  have h_k34 : ∀ (H : Heap) (locs : List Loc) (ls : Array Slot), EW D (va_A (wM g σ) sz) s.heap (wM g s15) H locs → lv_has ls 7 [(0, .ref (g.2 100)), (1, .int (I p1)), (2, .int (I p2)), (3, .int (I p3)), (4, .int (I x13)), (5, .int (I x14))] → k34 = some (r, σr) → W p l e (rmk 4) s m args below meth c H locs 0 0 (MQ below (QCi D (wM g σr) r (in32 r ∧ R32 σr) (va_A (wM g σ) sz)) args s 0 0 (va_A (wM g σ) sz)) (F0 m 129 ls []) := by
                    intro H locs ls hE hl h
                    have h := e_k34.symm.trans h
                    refine lv_iconst (v := I 0) C0.1 C0.2.1 dX8_merges_129 rfl ?_
                    exact h_k21 0 lit_0 _ _ _ hE (lv_sub hl [0, 1, 2, 3, 4, 5] rfl) h
                  refine x_icmp_ge C0 i_x13 i_v33 dX8_merges_105 (tgt := 129) (by decide) (fun c9 => ?_) (fun c9 => ?_)
                  · have h := ite_f c9 h
                    exact h_k34 _ _ _ hE (lv_sub hl [0, 1, 2, 3, 4, 5] rfl) h
                  · have h := ite_t c9 h
                    refine lv_aload_n C0.1 C0.2.1 dX8_merges_108 rfl (lv_at hl 0 rfl) ?_
                    refine lv_iload_n C0.1 C0.2.1 dX8_merges_109 rfl (lv_at hl 1 rfl) ?_
                    refine lv_iload C0.1 C0.2.1 dX8_merges_110 (lv_at hl 4 rfl) ?_
                    obtain ⟨v35, h_v35, h⟩ := bndp_s h
                    refine callV_i (rest := []) C0 hml hE (M_rec C0 hE) (c_M_number l D g hR i_p1 i_x13 h_v35) kw_X8_99 ⟨Nat.le_of_ble_eq_true rfl, Nat.le_of_ble_eq_true rfl⟩ rfl hl.1 rfl (Nat.le_of_ble_eq_true rfl) dX8_merges_112 ⟨Nat.zero_le _, Nat.zero_le _⟩ (fun H locs hE i_v35 => ?_)
                    refine lv_aload_n C0.1 C0.2.1 dX8_merges_115 rfl (lv_at hl 0 rfl) ?_
                    refine lv_iload_n C0.1 C0.2.1 dX8_merges_116 rfl (lv_at hl 2 rfl) ?_
                    refine lv_iload C0.1 C0.2.1 dX8_merges_117 (lv_at hl 5 rfl) ?_
                    obtain ⟨v36, h_v36, h⟩ := bndp_s h
                    refine callV_i (rest := [.int (I v35)]) C0 hml hE (M_rec C0 hE) (c_M_number l D g hR i_p2 i_x14 h_v36) kw_X8_99 ⟨Nat.le_of_ble_eq_true rfl, Nat.le_of_ble_eq_true rfl⟩ rfl hl.1 rfl (Nat.le_of_ble_eq_true rfl) dX8_merges_119 ⟨Nat.zero_le _, Nat.zero_le _⟩ (fun H locs hE i_v36 => ?_)
                    refine x_icmp_gt C0 i_v35 i_v36 dX8_merges_122 (tgt := 129) (by decide) (fun c9 => ?_) (fun c9 => ?_)
                    · have h := ite_t c9 h
                      exact h_k34 _ _ _ hE (lv_sub hl [0, 1, 2, 3, 4, 5] rfl) h
                    · have h := ite_f c9 h
                      exact h_k32 _ _ _ hE (lv_sub hl [0, 1, 2, 3, 4, 5] rfl) h
              refine x_icmp_lt C0 i_x13 i_v17 dX8_merges_72 (tgt := 86) (by decide) (fun c9 => ?_) (fun c9 => ?_)
              · have h := ite_t c9 h
                exact h_k18 _ _ _ hE (lv_sub hl [0, 1, 2, 3, 4, 5] rfl) h
              · have h := ite_f c9 h
                refine lv_iload C0.1 C0.2.1 dX8_merges_75 (lv_at hl 5 rfl) ?_
                refine lv_aload_n C0.1 C0.2.1 dX8_merges_77 rfl (lv_at hl 0 rfl) ?_
                refine M_g_sizes C0 hE fk_X8_16 dX8_merges_78 ?_
                refine lv_iload_n C0.1 C0.2.1 dX8_merges_81 rfl (lv_at hl 2 rfl) ?_
                obtain ⟨v37, e_v37, i_v37, h⟩ := rd_s hR h
                refine M_sizes_l C0 hE i_p2 e_v37 dX8_merges_82 ?_
                refine x_icmp_ge C0 i_x14 i_v37 dX8_merges_83 (tgt := 191) (by decide) (fun c9 => ?_) (fun c9 => ?_)
                · have h := ite_f c9 h
                  exact h_k10 s15 hR _ _ _ hE (lv_sub hl [0, 3] rfl) h
                · have h := ite_t c9 h
                  exact h_k18 _ _ _ hE (lv_sub hl [0, 1, 2, 3, 4, 5] rfl) h
          exact hL64 FU s8 hR 0 lit_0 0 lit_0 _ _ _ hE (lv_sub hl [2, 3, 4, 5, 1, 0] rfl) h
        · have h := ite_t c9 h
          refine lv_bipush (v := I (-2)) C0.1 C0.2.1 dX8_merges_47 (by decide +kernel) ?_
          exact ret_i (wf := wM g) C0 hr hlk hE h lit_m2 hR dX8_merges_49
      · have h := ite_t c9 h
        refine lv_iconst (v := I (-1)) C0.1 C0.2.1 dX8_merges_26 rfl ?_
        exact ret_i (wf := wM g) C0 hr hlk hE h lit_m1 hR dX8_merges_27
set_option maxRecDepth 100000 in
set_option maxHeartbeats 4000000 in
theorem c_M_picks (l : Launch) (D : va_G) (g : Ad) {σ σr : St} {p1 p2 p3 p4 r : Int} (hR : R32 σ) (i_p1 : in32 p1) (i_p2 : in32 p2) (i_p3 : in32 p3) (i_p4 : in32 p4) (h : M_picks σ p1 p2 p3 p4 = some (r, σr)) : CtI l D g yX8_picks cX8_picks 6 (some .int) 4 (wM g σ) (wM g σr) [.ref (g.2 100), .int (I p1), .int (I p2), .int (I p3), .int (I p4)] r (in32 r ∧ R32 σr) := by
  intro sz
  refine met_of (by decide) (Nat.le_of_ble_eq_true rfl) (fun p e s m args below meth c ls H locs C0 hml hr hlk hE hl => ?_)
  have C0 : CX p c cX8_picks m s args D g RX8 := C0
  have hl : lv_has ls 6 [(0, .ref (g.2 100)), (1, .int (I p1)), (2, .int (I p2)), (3, .int (I p3)), (4, .int (I p4))] := hl
  unfold M_picks at h
  refine lv_aload_n C0.1 C0.2.1 dX8_picks_0 rfl (lv_at hl 0 rfl) ?_
  refine lv_iconst (v := I 0) C0.1 C0.2.1 dX8_picks_1 rfl ?_
  obtain ⟨s1, e_s1, hR, h⟩ := pf_s hR lit_0 h
  refine M_p_thrown C0 hE e_s1 fk_X8_55 dX8_picks_2 (fun H locs hE => ?_)
  refine lv_iload_n C0.1 C0.2.1 dX8_picks_5 rfl (lv_at hl 1 rfl) ?_
  obtain ⟨v2, h_v2, h⟩ := bndp_s h
  refine callS_i (rest := []) C0 hml hE (c_M_isPlace l D g (σ := s1) i_p1 h_v2) kw_X8_134 ⟨Nat.le_of_ble_eq_true rfl, Nat.le_of_ble_eq_true rfl⟩ rfl hl.1 rfl (Nat.le_of_ble_eq_true rfl) dX8_picks_6 ⟨Nat.zero_le _, Nat.zero_le _⟩ (fun H locs hE i_v2 => ?_)
  refine x_if_eq C0 i_v2 dX8_picks_9 (tgt := 34) (by decide) (fun c9 => ?_) (fun c9 => ?_)
  · have h := ite_t c9 h
    refine lv_iconst (v := I (-1)) C0.1 C0.2.1 dX8_picks_34 rfl ?_
    exact ret_i (wf := wM g) C0 hr hlk hE h lit_m1 hR dX8_picks_35
  · have h := ite_f c9 h
    refine lv_iload_n C0.1 C0.2.1 dX8_picks_12 rfl (lv_at hl 2 rfl) ?_
    obtain ⟨v3, h_v3, h⟩ := bndp_s h
    refine callS_i (rest := []) C0 hml hE (c_M_isNumber l D g (σ := s1) i_p2 h_v3) kw_X8_163 ⟨Nat.le_of_ble_eq_true rfl, Nat.le_of_ble_eq_true rfl⟩ rfl hl.1 rfl (Nat.le_of_ble_eq_true rfl) dX8_picks_13 ⟨Nat.zero_le _, Nat.zero_le _⟩ (fun H locs hE i_v3 => ?_)
    refine x_if_eq C0 i_v3 dX8_picks_16 (tgt := 34) (by decide) (fun c9 => ?_) (fun c9 => ?_)
    · have h := ite_t c9 h
      refine lv_iconst (v := I (-1)) C0.1 C0.2.1 dX8_picks_34 rfl ?_
      exact ret_i (wf := wM g) C0 hr hlk hE h lit_m1 hR dX8_picks_35
    · have h := ite_f c9 h
      refine lv_iload_n C0.1 C0.2.1 dX8_picks_19 rfl (lv_at hl 3 rfl) ?_
      obtain ⟨v4, h_v4, h⟩ := bndp_s h
      refine callS_i (rest := []) C0 hml hE (c_M_isNumber l D g (σ := s1) i_p3 h_v4) kw_X8_163 ⟨Nat.le_of_ble_eq_true rfl, Nat.le_of_ble_eq_true rfl⟩ rfl hl.1 rfl (Nat.le_of_ble_eq_true rfl) dX8_picks_20 ⟨Nat.zero_le _, Nat.zero_le _⟩ (fun H locs hE i_v4 => ?_)
      refine x_if_eq C0 i_v4 dX8_picks_23 (tgt := 34) (by decide) (fun c9 => ?_) (fun c9 => ?_)
      · have h := ite_t c9 h
        refine lv_iconst (v := I (-1)) C0.1 C0.2.1 dX8_picks_34 rfl ?_
        exact ret_i (wf := wM g) C0 hr hlk hE h lit_m1 hR dX8_picks_35
      · have h := ite_f c9 h
        refine lv_iload C0.1 C0.2.1 dX8_picks_26 (lv_at hl 4 rfl) ?_
        obtain ⟨v5, h_v5, h⟩ := bndp_s h
        refine callS_i (rest := []) C0 hml hE (c_M_isPlace l D g (σ := s1) i_p4 h_v5) kw_X8_134 ⟨Nat.le_of_ble_eq_true rfl, Nat.le_of_ble_eq_true rfl⟩ rfl hl.1 rfl (Nat.le_of_ble_eq_true rfl) dX8_picks_28 ⟨Nat.zero_le _, Nat.zero_le _⟩ (fun H locs hE i_v5 => ?_)
        refine x_if_ne C0 i_v5 dX8_picks_31 (tgt := 36) (by decide) (fun c9 => ?_) (fun c9 => ?_)
        · have h := ite_f c9 h
          refine lv_aload_n C0.1 C0.2.1 dX8_picks_36 rfl (lv_at hl 0 rfl) ?_
          refine M_g_sizes C0 hE fk_X8_16 dX8_picks_37 ?_
          refine lv_bipush (v := I 7) C0.1 C0.2.1 dX8_picks_40 (by decide +kernel) ?_
          refine lv_iconst (v := I 0) C0.1 C0.2.1 dX8_picks_42 rfl ?_
          obtain ⟨s6, e_s6, hR, h⟩ := wr_s hR lit_0 h
          refine M_sizes_st C0 hE lit_7 e_s6 dX8_picks_43 (fun H locs hE => ?_)
          refine lv_iconst (v := I 0) C0.1 C0.2.1 dX8_picks_44 rfl ?_
          refine lv_istore (lv' := [(5, .int (I 0)), (0, .ref (g.2 100)), (1, .int (I p1)), (2, .int (I p2)), (3, .int (I p3)), (4, .int (I p4))]) C0.1 C0.2.1 dX8_picks_45 hl (by decide) rfl (fun ls hl => ?_)
          obtain ⟨k8, e_k8, h⟩ := jn_s h
          have h_k8 : ∀ (s7 : St) (hR : R32 s7) (H : Heap) (locs : List Loc) (ls : Array Slot), EW D (va_A (wM g σ) sz) s.heap (wM g s7) H locs → lv_has ls 6 [(0, .ref (g.2 100)), (4, .int (I p4))] → k8 s7 = some (r, σr) → W p l e (rmk 4) s m args below meth c H locs 0 0 (MQ below (QCi D (wM g σr) r (in32 r ∧ R32 σr) (va_A (wM g σ) sz)) args s 0 0 (va_A (wM g σ) sz)) (F0 m 93 ls []) := by
            intro s7 hR H locs ls hE hl h
            have h := (congrFun e_k8 s7).symm.trans h
            refine lv_aload_n C0.1 C0.2.1 dX8_picks_93 rfl (lv_at hl 0 rfl) ?_
            refine lv_iload C0.1 C0.2.1 dX8_picks_94 (lv_at hl 1 rfl) ?_
            obtain ⟨v9, s10, h_v9, h⟩ := bnd_s h
            refine callV_i (rest := []) C0 hml hE (M_rec C0 hE) (c_M_builds l D g hR i_p4 h_v9) kw_X8_249 ⟨Nat.le_of_ble_eq_true rfl, Nat.le_of_ble_eq_true rfl⟩ rfl hl.1 rfl (Nat.le_of_ble_eq_true rfl) dX8_picks_96 ⟨Nat.zero_le _, Nat.zero_le _⟩ (fun H locs hE ⟨i_v9, hR⟩ => ?_)
            exact ret_i (wf := wM g) C0 hr hlk hE h i_v9 hR dX8_picks_99
          have hL47 : ∀ (n : Nat) (s12 : St) (hR : R32 s12) (x11 : Int) (i_x11 : in32 x11) (H : Heap) (locs : List Loc) (ls : Array Slot), EW D (va_A (wM g σ) sz) s.heap (wM g s12) H locs → lv_has ls 6 [(0, .ref (g.2 100)), (1, .int (I p1)), (2, .int (I p2)), (3, .int (I p3)), (4, .int (I p4)), (5, .int (I x11))] → M_picks_L47 k8 p1 p2 p3 n s12 x11 = some (r, σr) → W p l e (rmk 4) s m args below meth c H locs 0 0 (MQ below (QCi D (wM g σr) r (in32 r ∧ R32 σr) (va_A (wM g σ) sz)) args s 0 0 (va_A (wM g σ) sz)) (F0 m 47 ls []) := by
            intro n
            induction n with
            | zero => intros; rename_i h; cases h
            | succ n ih13 =>
              intro s12 hR x11 i_x11 H locs ls hE hl h
              unfold M_picks_L47 at h
              refine lv_iload C0.1 C0.2.1 dX8_picks_47 (lv_at hl 5 rfl) ?_
              refine lv_aload_n C0.1 C0.2.1 dX8_picks_49 rfl (lv_at hl 0 rfl) ?_
              refine M_g_sizes C0 hE fk_X8_16 dX8_picks_50 ?_
              refine lv_iload_n C0.1 C0.2.1 dX8_picks_53 rfl (lv_at hl 1 rfl) ?_
              obtain ⟨v14, e_v14, i_v14, h⟩ := rd_s hR h
              refine M_sizes_l C0 hE i_p1 e_v14 dX8_picks_54 ?_
              refine x_icmp_ge C0 i_x11 i_v14 dX8_picks_55 (tgt := 93) (by decide) (fun c9 => ?_) (fun c9 => ?_)
              · have h := ite_f c9 h
                exact h_k8 s12 hR _ _ _ hE (lv_sub hl [0, 4] rfl) h
              · have h := ite_t c9 h
                refine lv_aload_n C0.1 C0.2.1 dX8_picks_58 rfl (lv_at hl 0 rfl) ?_
                refine lv_iload_n C0.1 C0.2.1 dX8_picks_59 rfl (lv_at hl 1 rfl) ?_
                refine lv_iload C0.1 C0.2.1 dX8_picks_60 (lv_at hl 5 rfl) ?_
                obtain ⟨v15, h_v15, h⟩ := bndp_s h
                refine callV_i (rest := []) C0 hml hE (M_rec C0 hE) (c_M_number l D g hR i_p1 i_x11 h_v15) kw_X8_99 ⟨Nat.le_of_ble_eq_true rfl, Nat.le_of_ble_eq_true rfl⟩ rfl hl.1 rfl (Nat.le_of_ble_eq_true rfl) dX8_picks_62 ⟨Nat.zero_le _, Nat.zero_le _⟩ (fun H locs hE i_v15 => ?_)
                refine x_i2l C0 i_v15 dX8_picks_65 ?_
                refine lv_iload_n C0.1 C0.2.1 dX8_picks_66 rfl (lv_at hl 2 rfl) ?_
                refine x_i2l C0 i_p2 dX8_picks_67 ?_
                refine lv_iload_n C0.1 C0.2.1 dX8_picks_68 rfl (lv_at hl 3 rfl) ?_
                refine x_i2l C0 i_p3 dX8_picks_69 ?_
                obtain ⟨v16, h_v16, h⟩ := bndp_s h
                refine callS_i (rest := []) C0 hml hE (c_M_in l D g (σ := s12) (in64_of i_v15) (in64_of i_p2) (in64_of i_p3) h_v16) kw_X8_65 ⟨Nat.le_of_ble_eq_true rfl, Nat.le_of_ble_eq_true rfl⟩ rfl hl.1 rfl (Nat.le_of_ble_eq_true rfl) dX8_picks_70 ⟨Nat.zero_le _, Nat.zero_le _⟩ (fun H locs hE i_v16 => ?_)
                obtain ⟨k18, e_k18, h⟩ := jn_s h
                have h_k18 : ∀ (s17 : St) (hR : R32 s17) (H : Heap) (locs : List Loc) (ls : Array Slot), EW D (va_A (wM g σ) sz) s.heap (wM g s17) H locs → lv_has ls 6 [(0, .ref (g.2 100)), (1, .int (I p1)), (2, .int (I p2)), (3, .int (I p3)), (4, .int (I p4)), (5, .int (I x11))] → k18 s17 = some (r, σr) → W p l e (rmk 4) s m args below meth c H locs 0 0 (MQ below (QCi D (wM g σr) r (in32 r ∧ R32 σr) (va_A (wM g σ) sz)) args s 0 0 (va_A (wM g σ) sz)) (F0 m 87 ls []) := by
                  intro s17 hR H locs ls hE hl h
                  have h := (congrFun e_k18 s17).symm.trans h
                  obtain ⟨v19, e_v19, i_v19, h⟩ := oadd_s h
                  refine x_iinc (lv' := [(5, .int (I v19)), (0, .ref (g.2 100)), (1, .int (I p1)), (2, .int (I p2)), (3, .int (I p3)), (4, .int (I p4))]) C0 dX8_picks_87 hl (k := 5) rfl e_v19 (by decide) rfl (fun ls hl => ?_)
                  refine x_goto C0 dX8_picks_90 (tgt := 47) (by decide) ?_
                  exact ih13 s17 hR v19 i_v19 _ _ _ hE (lv_sub hl [1, 2, 3, 4, 5, 0] rfl) h
                refine x_if_eq C0 i_v16 dX8_picks_73 (tgt := 87) (by decide) (fun c9 => ?_) (fun c9 => ?_)
                · have h := ite_t c9 h
                  exact h_k18 s12 hR _ _ _ hE (lv_sub hl [0, 1, 2, 3, 4, 5] rfl) h
                · have h := ite_f c9 h
                  refine lv_aload_n C0.1 C0.2.1 dX8_picks_76 rfl (lv_at hl 0 rfl) ?_
                  refine lv_aload_n C0.1 C0.2.1 dX8_picks_77 rfl (lv_at hl 0 rfl) ?_
                  refine lv_iload_n C0.1 C0.2.1 dX8_picks_78 rfl (lv_at hl 1 rfl) ?_
                  refine lv_iload C0.1 C0.2.1 dX8_picks_79 (lv_at hl 5 rfl) ?_
                  obtain ⟨v20, h_v20, h⟩ := bndp_s h
                  refine callV_i (rest := [.ref (g.2 100)]) C0 hml hE (M_rec C0 hE) (c_M_number l D g hR i_p1 i_x11 h_v20) kw_X8_99 ⟨Nat.le_of_ble_eq_true rfl, Nat.le_of_ble_eq_true rfl⟩ rfl hl.1 rfl (Nat.le_of_ble_eq_true rfl) dX8_picks_81 ⟨Nat.zero_le _, Nat.zero_le _⟩ (fun H locs hE i_v20 => ?_)
                  obtain ⟨v21, s22, h_v21, h⟩ := bnd_s h
                  refine callV_v (rest := []) C0 hml hE (M_rec C0 hE) (c_M_lays l D g hR i_v20 h_v21) kw_X8_246 ⟨Nat.le_of_ble_eq_true rfl, Nat.le_of_ble_eq_true rfl⟩ rfl hl.1 rfl (Nat.le_of_ble_eq_true rfl) dX8_picks_84 ⟨Nat.zero_le _, Nat.zero_le _⟩ (fun H locs hE hR => ?_)
                  exact h_k18 s22 hR _ _ _ hE (lv_sub hl [0, 1, 2, 3, 4, 5] rfl) h
          exact hL47 FU s6 hR 0 lit_0 _ _ _ hE (lv_sub hl [1, 2, 3, 4, 5, 0] rfl) h
        · have h := ite_t c9 h
          refine lv_iconst (v := I (-1)) C0.1 C0.2.1 dX8_picks_34 rfl ?_
          exact ret_i (wf := wM g) C0 hr hlk hE h lit_m1 hR dX8_picks_35
set_option maxRecDepth 100000 in
set_option maxHeartbeats 4000000 in
theorem c_M_mirrored (l : Launch) (D : va_G) (g : Ad) {σ : St} {p1 r : Int} (i_p1 : in32 p1) (h : M_mirrored p1 = some r) : CtI l D g yX8_mirrored cX8_mirrored 5 (some .int) 1 (wM g σ) (wM g σ) [.int (I p1)] r (in32 r) := by
  intro sz
  refine met_of (by decide) (Nat.le_of_ble_eq_true rfl) (fun p e s m args below meth c ls H locs C0 hml hr hlk hE hl => ?_)
  have C0 : CX p c cX8_mirrored m s args D g RX8 := C0
  have hl : lv_has ls 5 [(0, .int (I p1))] := hl
  unfold M_mirrored at h
  refine lv_iconst (v := I 0) C0.1 C0.2.1 dX8_mirrored_0 rfl ?_
  refine lv_istore_n (lv' := [(1, .int (I 0)), (0, .int (I p1))]) C0.1 C0.2.1 dX8_mirrored_1 rfl hl (by decide) rfl (fun ls hl => ?_)
  refine lv_iconst (v := I 1) C0.1 C0.2.1 dX8_mirrored_2 rfl ?_
  refine lv_istore_n (lv' := [(2, .int (I 1)), (1, .int (I 0)), (0, .int (I p1))]) C0.1 C0.2.1 dX8_mirrored_3 rfl hl (by decide) rfl (fun ls hl => ?_)
  refine lv_iload_n C0.1 C0.2.1 dX8_mirrored_4 rfl (lv_at hl 2 rfl) ?_
  refine lv_istore_n (lv' := [(3, .int (I p1)), (2, .int (I 1)), (1, .int (I 0)), (0, .int (I p1))]) C0.1 C0.2.1 dX8_mirrored_5 rfl hl (by decide) rfl (fun ls hl => ?_)
  have hL6 : ∀ (n : Nat) (x1 : Int) (i_x1 : in32 x1) (x2 : Int) (i_x2 : in32 x2) (x3 : Int) (i_x3 : in32 x3) (H : Heap) (locs : List Loc) (ls : Array Slot), EW D (va_A (wM g σ) sz) s.heap (wM g σ) H locs → lv_has ls 5 [(1, .int (I x1)), (2, .int (I x2)), (3, .int (I x3))] → M_mirrored_L6 n x1 x2 x3 = some r → W p l e (rmk 1) s m args below meth c H locs 0 0 (MQ below (QCi D (wM g σ) r (in32 r) (va_A (wM g σ) sz)) args s 0 0 (va_A (wM g σ) sz)) (F0 m 6 ls []) := by
    intro n
    induction n with
    | zero => intros; rename_i h; cases h
    | succ n ih4 =>
      intro x1 i_x1 x2 i_x2 x3 i_x3 H locs ls hE hl h
      unfold M_mirrored_L6 at h
      refine lv_iload_n C0.1 C0.2.1 dX8_mirrored_6 rfl (lv_at hl 2 rfl) ?_
      refine x_if_le C0 i_x3 dX8_mirrored_7 (tgt := 64) (by decide) (fun c9 => ?_) (fun c9 => ?_)
      · have h := ite_f c9 h
        refine lv_iload_n C0.1 C0.2.1 dX8_mirrored_64 rfl (lv_at hl 0 rfl) ?_
        exact pret_i C0 hr hlk hE h i_x1 dX8_mirrored_65
      · have h := ite_t c9 h
        refine lv_iload_n C0.1 C0.2.1 dX8_mirrored_10 rfl (lv_at hl 2 rfl) ?_
        refine lv_iconst (v := I 2) C0.1 C0.2.1 dX8_mirrored_11 rfl ?_
        obtain ⟨v5, e_v5, i_v5, h⟩ := orem_s lit_2 h
        refine x_rem C0 i_x3 lit_2 e_v5 dX8_mirrored_12 ?_
        obtain ⟨v6, e_v6, i_v6, h⟩ := oif_s h
        have kk_v6 : W p l e (rmk 1) s m args below meth c H locs 0 0 (MQ below (QCi D (wM g σ) r (in32 r) (va_A (wM g σ) sz)) args s 0 0 (va_A (wM g σ) sz)) (F0 m 21 ls [.int (I v6)]) := by
          refine lv_istore (lv' := [(4, .int (I v6)), (1, .int (I x1)), (2, .int (I x2)), (3, .int (I x3))]) C0.1 C0.2.1 dX8_mirrored_21 hl (by decide) rfl (fun ls hl => ?_)
          refine lv_iload_n C0.1 C0.2.1 dX8_mirrored_23 rfl (lv_at hl 1 rfl) ?_
          refine lv_iload C0.1 C0.2.1 dX8_mirrored_24 (lv_at hl 0 rfl) ?_
          obtain ⟨v7, e_v7, i_v7, h⟩ := oif_s h
          have kk_v7 : W p l e (rmk 1) s m args below meth c H locs 0 0 (MQ below (QCi D (wM g σ) r (in32 r) (va_A (wM g σ) sz)) args s 0 0 (va_A (wM g σ) sz)) (F0 m 36 ls [.int (I v7), .int (I x1)]) := by
            obtain ⟨v8, e_v8, i_v8, h⟩ := oadd_s h
            refine x_add C0 e_v8 dX8_mirrored_36 ?_
            refine lv_istore_n (lv' := [(1, .int (I v8)), (4, .int (I v6)), (2, .int (I x2)), (3, .int (I x3))]) C0.1 C0.2.1 dX8_mirrored_37 rfl hl (by decide) rfl (fun ls hl => ?_)
            refine lv_iload C0.1 C0.2.1 dX8_mirrored_38 (lv_at hl 1 rfl) ?_
            obtain ⟨k10, e_k10, h⟩ := jn_s h
            have h_k10 : ∀ (x9 : Int) (i_x9 : in32 x9) (H : Heap) (locs : List Loc) (ls : Array Slot), EW D (va_A (wM g σ) sz) s.heap (wM g σ) H locs → lv_has ls 5 [(1, .int (I v8)), (2, .int (I x2))] → k10 x9 = some r → W p l e (rmk 1) s m args below meth c H locs 0 0 (MQ below (QCi D (wM g σ) r (in32 r) (va_A (wM g σ) sz)) args s 0 0 (va_A (wM g σ) sz)) (F0 m 56 ls [.int (I x9)]) := by
              intro x9 i_x9 H locs ls hE hl h
              have h := (congrFun e_k10 x9).symm.trans h
              refine lv_istore_n (lv' := [(3, .int (I x9)), (1, .int (I v8)), (2, .int (I x2))]) C0.1 C0.2.1 dX8_mirrored_56 rfl hl (by decide) rfl (fun ls hl => ?_)
              refine lv_iload_n C0.1 C0.2.1 dX8_mirrored_57 rfl (lv_at hl 2 rfl) ?_
              refine lv_iconst (v := I 2) C0.1 C0.2.1 dX8_mirrored_58 rfl ?_
              obtain ⟨v11, e_v11, i_v11, h⟩ := omul_s h
              refine x_mul C0 e_v11 dX8_mirrored_59 ?_
              refine lv_istore_n (lv' := [(2, .int (I v11)), (3, .int (I x9)), (1, .int (I v8))]) C0.1 C0.2.1 dX8_mirrored_60 rfl hl (by decide) rfl (fun ls hl => ?_)
              refine x_goto C0 dX8_mirrored_61 (tgt := 6) (by decide) ?_
              exact ih4 v8 i_v8 v11 i_v11 x9 i_x9 _ _ _ hE (lv_sub hl [2, 0, 1] rfl) h
            refine x_if_eq C0 i_v6 dX8_mirrored_40 (tgt := 51) (by decide) (fun c9 => ?_) (fun c9 => ?_)
            · have h := ite_t c9 h
              refine lv_iload_n C0.1 C0.2.1 dX8_mirrored_51 rfl (lv_at hl 3 rfl) ?_
              refine lv_iconst (v := I 1) C0.1 C0.2.1 dX8_mirrored_52 rfl ?_
              obtain ⟨v12, e_v12, i_v12, h⟩ := osub_s h
              refine x_sub C0 e_v12 dX8_mirrored_53 ?_
              refine lv_iconst (v := I 2) C0.1 C0.2.1 dX8_mirrored_54 rfl ?_
              obtain ⟨v13, e_v13, i_v13, h⟩ := odiv_s i_v12 h
              refine x_div C0 i_v12 lit_2 e_v13 dX8_mirrored_55 ?_
              exact h_k10 v13 i_v13 _ _ _ hE (lv_sub hl [0, 2] rfl) h
            · have h := ite_f c9 h
              refine lv_iload_n C0.1 C0.2.1 dX8_mirrored_43 rfl (lv_at hl 3 rfl) ?_
              refine lv_iconst (v := I 2) C0.1 C0.2.1 dX8_mirrored_44 rfl ?_
              obtain ⟨v14, e_v14, i_v14, h⟩ := osub_s h
              refine x_sub C0 e_v14 dX8_mirrored_45 ?_
              refine lv_iconst (v := I 2) C0.1 C0.2.1 dX8_mirrored_46 rfl ?_
              obtain ⟨v15, e_v15, i_v15, h⟩ := odiv_s i_v14 h
              refine x_div C0 i_v14 lit_2 e_v15 dX8_mirrored_47 ?_
              refine x_goto C0 dX8_mirrored_48 (tgt := 56) (by decide) ?_
              exact h_k10 v15 i_v15 _ _ _ hE (lv_sub hl [0, 2] rfl) h
          refine x_if_eq C0 i_v6 dX8_mirrored_26 (tgt := 33) (by decide) (fun c9 => ?_) (fun c9 => ?_)
          · have e9 := e_v7.trans (if_pos c9)
            refine lv_iconst (v := I 2) C0.1 C0.2.1 dX8_mirrored_33 rfl ?_
            refine lv_iload_n C0.1 C0.2.1 dX8_mirrored_34 rfl (lv_at hl 2 rfl) ?_
            refine x_mul (v := 2 * x2) C0 rfl dX8_mirrored_35 ?_
            rw [e9] at kk_v7; exact kk_v7
          · have e9 := e_v7.trans (if_neg c9)
            refine lv_iload_n C0.1 C0.2.1 dX8_mirrored_29 rfl (lv_at hl 2 rfl) ?_
            refine x_goto C0 dX8_mirrored_30 (tgt := 36) (by decide) ?_
            rw [e9] at kk_v7; exact kk_v7
        refine x_if_ne C0 i_v5 dX8_mirrored_13 (tgt := 20) (by decide) (fun c9 => ?_) (fun c9 => ?_)
        · have e9 := e_v6.trans (if_neg c9)
          refine lv_iconst (v := I 0) C0.1 C0.2.1 dX8_mirrored_20 rfl ?_
          rw [e9] at kk_v6; exact kk_v6
        · have e9 := e_v6.trans (if_pos c9)
          refine lv_iconst (v := I 1) C0.1 C0.2.1 dX8_mirrored_16 rfl ?_
          refine x_goto C0 dX8_mirrored_17 (tgt := 21) (by decide) ?_
          rw [e9] at kk_v6; exact kk_v6
  exact hL6 FU 0 lit_0 1 lit_1 p1 i_p1 _ _ _ hE (lv_sub hl [2, 1, 0] rfl) h
set_option maxRecDepth 100000 in
set_option maxHeartbeats 4000000 in
theorem c_M_mirrors (l : Launch) (D : va_G) (g : Ad) {σ σr : St} {p1 p2 r : Int} (hR : R32 σ) (i_p1 : in32 p1) (i_p2 : in32 p2) (h : M_mirrors σ p1 p2 = some (r, σr)) : CtI l D g yX8_mirrors cX8_mirrors 4 (some .int) 4 (wM g σ) (wM g σr) [.ref (g.2 100), .int (I p1), .int (I p2)] r (in32 r ∧ R32 σr) := by
  intro sz
  refine met_of (by decide) (Nat.le_of_ble_eq_true rfl) (fun p e s m args below meth c ls H locs C0 hml hr hlk hE hl => ?_)
  have C0 : CX p c cX8_mirrors m s args D g RX8 := C0
  have hl : lv_has ls 4 [(0, .ref (g.2 100)), (1, .int (I p1)), (2, .int (I p2))] := hl
  unfold M_mirrors at h
  refine lv_aload_n C0.1 C0.2.1 dX8_mirrors_0 rfl (lv_at hl 0 rfl) ?_
  refine lv_iconst (v := I 0) C0.1 C0.2.1 dX8_mirrors_1 rfl ?_
  obtain ⟨s1, e_s1, hR, h⟩ := pf_s hR lit_0 h
  refine M_p_thrown C0 hE e_s1 fk_X8_55 dX8_mirrors_2 (fun H locs hE => ?_)
  refine lv_iload_n C0.1 C0.2.1 dX8_mirrors_5 rfl (lv_at hl 1 rfl) ?_
  obtain ⟨v2, h_v2, h⟩ := bndp_s h
  refine callS_i (rest := []) C0 hml hE (c_M_isPlace l D g (σ := s1) i_p1 h_v2) kw_X8_134 ⟨Nat.le_of_ble_eq_true rfl, Nat.le_of_ble_eq_true rfl⟩ rfl hl.1 rfl (Nat.le_of_ble_eq_true rfl) dX8_mirrors_6 ⟨Nat.zero_le _, Nat.zero_le _⟩ (fun H locs hE i_v2 => ?_)
  refine x_if_eq C0 i_v2 dX8_mirrors_9 (tgt := 19) (by decide) (fun c9 => ?_) (fun c9 => ?_)
  · have h := ite_t c9 h
    refine lv_iconst (v := I (-1)) C0.1 C0.2.1 dX8_mirrors_19 rfl ?_
    exact ret_i (wf := wM g) C0 hr hlk hE h lit_m1 hR dX8_mirrors_20
  · have h := ite_f c9 h
    refine lv_iload_n C0.1 C0.2.1 dX8_mirrors_12 rfl (lv_at hl 2 rfl) ?_
    obtain ⟨v3, h_v3, h⟩ := bndp_s h
    refine callS_i (rest := []) C0 hml hE (c_M_isPlace l D g (σ := s1) i_p2 h_v3) kw_X8_134 ⟨Nat.le_of_ble_eq_true rfl, Nat.le_of_ble_eq_true rfl⟩ rfl hl.1 rfl (Nat.le_of_ble_eq_true rfl) dX8_mirrors_13 ⟨Nat.zero_le _, Nat.zero_le _⟩ (fun H locs hE i_v3 => ?_)
    refine x_if_ne C0 i_v3 dX8_mirrors_16 (tgt := 21) (by decide) (fun c9 => ?_) (fun c9 => ?_)
    · have h := ite_f c9 h
      refine lv_aload_n C0.1 C0.2.1 dX8_mirrors_21 rfl (lv_at hl 0 rfl) ?_
      refine M_g_sizes C0 hE fk_X8_16 dX8_mirrors_22 ?_
      refine lv_iload_n C0.1 C0.2.1 dX8_mirrors_25 rfl (lv_at hl 1 rfl) ?_
      obtain ⟨v4, e_v4, i_v4, h⟩ := rd_s hR h
      refine M_sizes_l C0 hE i_p1 e_v4 dX8_mirrors_26 ?_
      refine lv_aload_n C0.1 C0.2.1 dX8_mirrors_27 rfl (lv_at hl 0 rfl) ?_
      refine M_g_sizes C0 hE fk_X8_16 dX8_mirrors_28 ?_
      refine lv_iload_n C0.1 C0.2.1 dX8_mirrors_31 rfl (lv_at hl 1 rfl) ?_
      obtain ⟨v5, e_v5, i_v5, h⟩ := rd_s hR h
      refine M_sizes_l C0 hE i_p1 e_v5 dX8_mirrors_32 ?_
      refine lv_iconst (v := I 1) C0.1 C0.2.1 dX8_mirrors_33 rfl ?_
      obtain ⟨v6, e_v6, i_v6, h⟩ := oadd_s h
      refine x_add C0 e_v6 dX8_mirrors_34 ?_
      obtain ⟨v7, e_v7, i_v7, h⟩ := opure_s h (band_in _ _)
      refine x_and C0 e_v7 dX8_mirrors_35 ?_
      refine x_if_eq C0 i_v7 dX8_mirrors_36 (tgt := 42) (by decide) (fun c9 => ?_) (fun c9 => ?_)
      · have h := ite_t c9 h
        refine lv_aload_n C0.1 C0.2.1 dX8_mirrors_42 rfl (lv_at hl 0 rfl) ?_
        refine lv_iload_n C0.1 C0.2.1 dX8_mirrors_43 rfl (lv_at hl 1 rfl) ?_
        obtain ⟨v8, s9, h_v8, h⟩ := bnd_s h
        refine callV_v (rest := []) C0 hml hE (M_rec C0 hE) (c_M_asks l D g hR i_p1 h_v8) kw_X8_176 ⟨Nat.le_of_ble_eq_true rfl, Nat.le_of_ble_eq_true rfl⟩ rfl hl.1 rfl (Nat.le_of_ble_eq_true rfl) dX8_mirrors_44 ⟨Nat.zero_le _, Nat.zero_le _⟩ (fun H locs hE hR => ?_)
        refine lv_iconst (v := I 0) C0.1 C0.2.1 dX8_mirrors_47 rfl ?_
        refine lv_istore_n (lv' := [(3, .int (I 0)), (0, .ref (g.2 100)), (1, .int (I p1)), (2, .int (I p2))]) C0.1 C0.2.1 dX8_mirrors_48 rfl hl (by decide) rfl (fun ls hl => ?_)
        obtain ⟨k11, e_k11, h⟩ := jn_s h
        have h_k11 : ∀ (s10 : St) (hR : R32 s10) (H : Heap) (locs : List Loc) (ls : Array Slot), EW D (va_A (wM g σ) sz) s.heap (wM g s10) H locs → lv_has ls 4 [(0, .ref (g.2 100)), (2, .int (I p2))] → k11 s10 = some (r, σr) → W p l e (rmk 4) s m args below meth c H locs 0 0 (MQ below (QCi D (wM g σr) r (in32 r ∧ R32 σr) (va_A (wM g σ) sz)) args s 0 0 (va_A (wM g σ) sz)) (F0 m 86 ls []) := by
          intro s10 hR H locs ls hE hl h
          have h := (congrFun e_k11 s10).symm.trans h
          refine lv_aload_n C0.1 C0.2.1 dX8_mirrors_86 rfl (lv_at hl 0 rfl) ?_
          refine lv_iload_n C0.1 C0.2.1 dX8_mirrors_87 rfl (lv_at hl 1 rfl) ?_
          obtain ⟨v12, s13, h_v12, h⟩ := bnd_s h
          refine callV_i (rest := []) C0 hml hE (M_rec C0 hE) (c_M_builds l D g hR i_p2 h_v12) kw_X8_249 ⟨Nat.le_of_ble_eq_true rfl, Nat.le_of_ble_eq_true rfl⟩ rfl hl.1 rfl (Nat.le_of_ble_eq_true rfl) dX8_mirrors_88 ⟨Nat.zero_le _, Nat.zero_le _⟩ (fun H locs hE ⟨i_v12, hR⟩ => ?_)
          exact ret_i (wf := wM g) C0 hr hlk hE h i_v12 hR dX8_mirrors_91
        have hL49 : ∀ (n : Nat) (s15 : St) (hR : R32 s15) (x14 : Int) (i_x14 : in32 x14) (H : Heap) (locs : List Loc) (ls : Array Slot), EW D (va_A (wM g σ) sz) s.heap (wM g s15) H locs → lv_has ls 4 [(0, .ref (g.2 100)), (2, .int (I p2)), (3, .int (I x14))] → M_mirrors_L49 k11 n s15 x14 = some (r, σr) → W p l e (rmk 4) s m args below meth c H locs 0 0 (MQ below (QCi D (wM g σr) r (in32 r ∧ R32 σr) (va_A (wM g σ) sz)) args s 0 0 (va_A (wM g σ) sz)) (F0 m 49 ls []) := by
          intro n
          induction n with
          | zero => intros; rename_i h; cases h
          | succ n ih16 =>
            intro s15 hR x14 i_x14 H locs ls hE hl h
            unfold M_mirrors_L49 at h
            refine lv_iload_n C0.1 C0.2.1 dX8_mirrors_49 rfl (lv_at hl 2 rfl) ?_
            refine lv_aload_n C0.1 C0.2.1 dX8_mirrors_50 rfl (lv_at hl 0 rfl) ?_
            refine M_g_sizes C0 hE fk_X8_16 dX8_mirrors_51 ?_
            refine lv_bipush (v := I 7) C0.1 C0.2.1 dX8_mirrors_54 (by decide +kernel) ?_
            obtain ⟨v17, e_v17, i_v17, h⟩ := rd_s hR h
            refine M_sizes_l C0 hE lit_7 e_v17 dX8_mirrors_56 ?_
            refine x_icmp_ge C0 i_x14 i_v17 dX8_mirrors_57 (tgt := 86) (by decide) (fun c9 => ?_) (fun c9 => ?_)
            · have h := ite_f c9 h
              exact h_k11 s15 hR _ _ _ hE (lv_sub hl [0, 1] rfl) h
            · have h := ite_t c9 h
              refine lv_aload_n C0.1 C0.2.1 dX8_mirrors_60 rfl (lv_at hl 0 rfl) ?_
              refine M_g_numbers C0 hE fk_X8_7 dX8_mirrors_61 ?_
              refine lv_sipush (v := I 1792) C0.1 C0.2.1 dX8_mirrors_64 (by decide +kernel) ?_
              refine lv_iload_n C0.1 C0.2.1 dX8_mirrors_67 rfl (lv_at hl 2 rfl) ?_
              obtain ⟨v18, h_v18, h⟩ := bndp_s h
              refine callS_i (rest := [.int (I 1792), .ref (g.2 101)]) C0 hml hE (c_M_mirrored l D g (σ := s15) i_x14 h_v18) kw_X8_252 ⟨Nat.le_of_ble_eq_true rfl, Nat.le_of_ble_eq_true rfl⟩ rfl hl.1 rfl (Nat.le_of_ble_eq_true rfl) dX8_mirrors_68 ⟨Nat.zero_le _, Nat.zero_le _⟩ (fun H locs hE i_v18 => ?_)
              obtain ⟨v19, e_v19, i_v19, h⟩ := oadd_s h
              refine x_add C0 e_v19 dX8_mirrors_71 ?_
              refine lv_aload_n C0.1 C0.2.1 dX8_mirrors_72 rfl (lv_at hl 0 rfl) ?_
              refine lv_bipush (v := I 6) C0.1 C0.2.1 dX8_mirrors_73 (by decide +kernel) ?_
              refine lv_iload_n C0.1 C0.2.1 dX8_mirrors_75 rfl (lv_at hl 2 rfl) ?_
              obtain ⟨v20, h_v20, h⟩ := bndp_s h
              refine callV_i (rest := [.int (I v19), .ref (g.2 101)]) C0 hml hE (M_rec C0 hE) (c_M_number l D g hR lit_6 i_x14 h_v20) kw_X8_99 ⟨Nat.le_of_ble_eq_true rfl, Nat.le_of_ble_eq_true rfl⟩ rfl hl.1 rfl (Nat.le_of_ble_eq_true rfl) dX8_mirrors_76 ⟨Nat.zero_le _, Nat.zero_le _⟩ (fun H locs hE i_v20 => ?_)
              obtain ⟨s21, e_s21, hR, h⟩ := wr_s hR i_v20 h
              refine M_numbers_st C0 hE i_v19 e_s21 dX8_mirrors_79 (fun H locs hE => ?_)
              obtain ⟨v22, e_v22, i_v22, h⟩ := oadd_s h
              refine x_iinc (lv' := [(3, .int (I v22)), (0, .ref (g.2 100)), (2, .int (I p2))]) C0 dX8_mirrors_80 hl (k := 2) rfl e_v22 (by decide) rfl (fun ls hl => ?_)
              refine x_goto C0 dX8_mirrors_83 (tgt := 49) (by decide) ?_
              exact ih16 s21 hR v22 i_v22 _ _ _ hE (lv_sub hl [1, 2, 0] rfl) h
        exact hL49 FU s9 hR 0 lit_0 _ _ _ hE (lv_sub hl [1, 3, 0] rfl) h
      · have h := ite_f c9 h
        refine lv_bipush (v := I (-2)) C0.1 C0.2.1 dX8_mirrors_39 (by decide +kernel) ?_
        exact ret_i (wf := wM g) C0 hr hlk hE h lit_m2 hR dX8_mirrors_41
    · have h := ite_t c9 h
      refine lv_iconst (v := I (-1)) C0.1 C0.2.1 dX8_mirrors_19 rfl ?_
      exact ret_i (wf := wM g) C0 hr hlk hE h lit_m1 hR dX8_mirrors_20
set_option maxRecDepth 100000 in
set_option maxHeartbeats 4000000 in
theorem c_M_above (l : Launch) (D : va_G) (g : Ad) {σ σr : St} {p1 r : Int} (hR : R32 σ) (i_p1 : in32 p1) (h : M_above σ p1 = some (r, σr)) : CtI l D g yX8_above cX8_above 2 (some .int) 2 (wM g σ) (wM g σr) [.ref (g.2 100), .int (I p1)] r (in32 r ∧ R32 σr) := by
  intro sz
  refine met_of (by decide) (Nat.le_of_ble_eq_true rfl) (fun p e s m args below meth c ls H locs C0 hml hr hlk hE hl => ?_)
  have C0 : CX p c cX8_above m s args D g RX8 := C0
  have hl : lv_has ls 2 [(0, .ref (g.2 100)), (1, .int (I p1))] := hl
  unfold M_above at h
  refine lv_aload_n C0.1 C0.2.1 dX8_above_0 rfl (lv_at hl 0 rfl) ?_
  refine lv_iload_n C0.1 C0.2.1 dX8_above_1 rfl (lv_at hl 1 rfl) ?_
  obtain ⟨v1, s2, h_v1, h⟩ := bnd_s h
  refine callV_v (rest := []) C0 hml hE (M_rec C0 hE) (c_M_laysWay l D g hR i_p1 h_v1) kw_X8_95 ⟨Nat.le_of_ble_eq_true rfl, Nat.le_of_ble_eq_true rfl⟩ rfl hl.1 rfl (Nat.le_of_ble_eq_true rfl) dX8_above_2 ⟨Nat.zero_le _, Nat.zero_le _⟩ (fun H locs hE hR => ?_)
  refine lv_aload_n C0.1 C0.2.1 dX8_above_5 rfl (lv_at hl 0 rfl) ?_
  refine M_g_way C0 hE fk_X8_27 dX8_above_6 ?_
  refine lv_aload_n C0.1 C0.2.1 dX8_above_9 rfl (lv_at hl 0 rfl) ?_
  obtain ⟨v3, e_v3, i_v3, h⟩ := gf_s hR h
  refine M_g_wayMany C0 hE e_v3 fk_X8_89 dX8_above_10 ?_
  refine lv_iconst (v := I 2) C0.1 C0.2.1 dX8_above_13 rfl ?_
  obtain ⟨v4, e_v4, i_v4, h⟩ := osub_s h
  refine x_sub C0 e_v4 dX8_above_14 ?_
  obtain ⟨v5, e_v5, i_v5, h⟩ := rd_s hR h
  refine M_way_l C0 hE i_v4 e_v5 dX8_above_15 ?_
  exact ret_i (wf := wM g) C0 hr hlk hE h i_v5 hR dX8_above_16
set_option maxRecDepth 100000 in
set_option maxHeartbeats 4000000 in
theorem c_M_heap (l : Launch) (D : va_G) (g : Ad) {σ σr : St} {p1 r : Int} (hR : R32 σ) (i_p1 : in32 p1) (h : M_heap σ p1 = some (r, σr)) : CtI l D g yX8_heap cX8_heap 4 (some .int) 3 (wM g σ) (wM g σr) [.ref (g.2 100), .int (I p1)] r (in32 r ∧ R32 σr) := by
  intro sz
  refine met_of (by decide) (Nat.le_of_ble_eq_true rfl) (fun p e s m args below meth c ls H locs C0 hml hr hlk hE hl => ?_)
  have C0 : CX p c cX8_heap m s args D g RX8 := C0
  have hl : lv_has ls 4 [(0, .ref (g.2 100)), (1, .int (I p1))] := hl
  unfold M_heap at h
  refine lv_aload_n C0.1 C0.2.1 dX8_heap_0 rfl (lv_at hl 0 rfl) ?_
  refine lv_iconst (v := I 0) C0.1 C0.2.1 dX8_heap_1 rfl ?_
  obtain ⟨s1, e_s1, hR, h⟩ := pf_s hR lit_0 h
  refine M_p_thrown C0 hE e_s1 fk_X8_55 dX8_heap_2 (fun H locs hE => ?_)
  refine lv_iload_n C0.1 C0.2.1 dX8_heap_5 rfl (lv_at hl 1 rfl) ?_
  obtain ⟨v2, h_v2, h⟩ := bndp_s h
  refine callS_i (rest := []) C0 hml hE (c_M_isPlace l D g (σ := s1) i_p1 h_v2) kw_X8_134 ⟨Nat.le_of_ble_eq_true rfl, Nat.le_of_ble_eq_true rfl⟩ rfl hl.1 rfl (Nat.le_of_ble_eq_true rfl) dX8_heap_6 ⟨Nat.zero_le _, Nat.zero_le _⟩ (fun H locs hE i_v2 => ?_)
  refine x_if_ne C0 i_v2 dX8_heap_9 (tgt := 14) (by decide) (fun c9 => ?_) (fun c9 => ?_)
  · have h := ite_f c9 h
    refine lv_iconst (v := I (-1)) C0.1 C0.2.1 dX8_heap_14 rfl ?_
    refine lv_istore_n (lv' := [(2, .int (I (-1))), (0, .ref (g.2 100)), (1, .int (I p1))]) C0.1 C0.2.1 dX8_heap_15 rfl hl (by decide) rfl (fun ls hl => ?_)
    refine lv_aload_n C0.1 C0.2.1 dX8_heap_16 rfl (lv_at hl 1 rfl) ?_
    refine M_g_sizes C0 hE fk_X8_16 dX8_heap_17 ?_
    refine lv_iload_n C0.1 C0.2.1 dX8_heap_20 rfl (lv_at hl 2 rfl) ?_
    obtain ⟨v3, e_v3, i_v3, h⟩ := rd_s hR h
    refine M_sizes_l C0 hE i_p1 e_v3 dX8_heap_21 ?_
    refine lv_iconst (v := I 1) C0.1 C0.2.1 dX8_heap_22 rfl ?_
    obtain ⟨v4, e_v4, i_v4, h⟩ := osub_s h
    refine x_sub C0 e_v4 dX8_heap_23 ?_
    refine lv_istore_n (lv' := [(3, .int (I v4)), (2, .int (I (-1))), (0, .ref (g.2 100)), (1, .int (I p1))]) C0.1 C0.2.1 dX8_heap_24 rfl hl (by decide) rfl (fun ls hl => ?_)
    obtain ⟨k7, e_k7, h⟩ := jn_s h
    have h_k7 : ∀ (s5 : St) (hR : R32 s5) (x6 : Int) (i_x6 : in32 x6) (H : Heap) (locs : List Loc) (ls : Array Slot), EW D (va_A (wM g σ) sz) s.heap (wM g s5) H locs → lv_has ls 4 [(0, .ref (g.2 100)), (2, .int (I x6))] → k7 s5 x6 = some (r, σr) → W p l e (rmk 3) s m args below meth c H locs 0 0 (MQ below (QCi D (wM g σr) r (in32 r ∧ R32 σr) (va_A (wM g σ) sz)) args s 0 0 (va_A (wM g σ) sz)) (F0 m 56 ls []) := by
      intro s5 hR x6 i_x6 H locs ls hE hl h
      have h := (congrFun (congrFun e_k7 s5) x6).symm.trans h
      refine lv_aload_n C0.1 C0.2.1 dX8_heap_56 rfl (lv_at hl 0 rfl) ?_
      refine lv_iconst (v := I 0) C0.1 C0.2.1 dX8_heap_57 rfl ?_
      obtain ⟨s8, e_s8, hR, h⟩ := pf_s hR lit_0 h
      refine M_p_rowMany C0 hE e_s8 fk_X8_59 dX8_heap_58 (fun H locs hE => ?_)
      refine lv_aload_n C0.1 C0.2.1 dX8_heap_61 rfl (lv_at hl 0 rfl) ?_
      refine lv_iload_n C0.1 C0.2.1 dX8_heap_62 rfl (lv_at hl 1 rfl) ?_
      refine x_i2l C0 i_x6 dX8_heap_63 ?_
      obtain ⟨v9, s10, h_v9, h⟩ := bnd_s h
      refine callV_v (rest := []) C0 hml hE (M_rec C0 hE) (c_M_tell l D g hR (in64_of i_x6) h_v9) kw_X8_150 ⟨Nat.le_of_ble_eq_true rfl, Nat.le_of_ble_eq_true rfl⟩ rfl hl.1 rfl (Nat.le_of_ble_eq_true rfl) dX8_heap_64 ⟨Nat.zero_le _, Nat.zero_le _⟩ (fun H locs hE hR => ?_)
      refine lv_iload_n C0.1 C0.2.1 dX8_heap_67 rfl (lv_at hl 1 rfl) ?_
      refine lv_iconst (v := I (-1)) C0.1 C0.2.1 dX8_heap_68 rfl ?_
      obtain ⟨v11, e_v11, i_v11, h⟩ := oif_s h
      have kk_v11 : W p l e (rmk 3) s m args below meth c H locs 0 0 (MQ below (QCi D (wM g σr) r (in32 r ∧ R32 σr) (va_A (wM g σ) sz)) args s 0 0 (va_A (wM g σ) sz)) (F0 m 77 ls [.int (I v11)]) := by
        exact ret_i (wf := wM g) C0 hr hlk hE h i_v11 hR dX8_heap_77
      refine x_icmp_ne C0 i_x6 lit_m1 dX8_heap_69 (tgt := 76) (by decide) (fun c9 => ?_) (fun c9 => ?_)
      · have e9 := e_v11.trans (if_neg c9)
        refine lv_iconst (v := I 0) C0.1 C0.2.1 dX8_heap_76 rfl ?_
        rw [e9] at kk_v11; exact kk_v11
      · have e9 := e_v11.trans (if_pos c9)
        refine lv_iconst (v := I 1) C0.1 C0.2.1 dX8_heap_72 rfl ?_
        refine x_goto C0 dX8_heap_73 (tgt := 77) (by decide) ?_
        rw [e9] at kk_v11; exact kk_v11
    have hL25 : ∀ (n : Nat) (s14 : St) (hR : R32 s14) (x12 : Int) (i_x12 : in32 x12) (x13 : Int) (i_x13 : in32 x13) (H : Heap) (locs : List Loc) (ls : Array Slot), EW D (va_A (wM g σ) sz) s.heap (wM g s14) H locs → lv_has ls 4 [(0, .ref (g.2 100)), (1, .int (I p1)), (2, .int (I x12)), (3, .int (I x13))] → M_heap_L25 k7 p1 n s14 x12 x13 = some (r, σr) → W p l e (rmk 3) s m args below meth c H locs 0 0 (MQ below (QCi D (wM g σr) r (in32 r ∧ R32 σr) (va_A (wM g σ) sz)) args s 0 0 (va_A (wM g σ) sz)) (F0 m 25 ls []) := by
      intro n
      induction n with
      | zero => intros; rename_i h; cases h
      | succ n ih15 =>
        intro s14 hR x12 i_x12 x13 i_x13 H locs ls hE hl h
        unfold M_heap_L25 at h
        refine lv_iload_n C0.1 C0.2.1 dX8_heap_25 rfl (lv_at hl 3 rfl) ?_
        refine x_if_le C0 i_x13 dX8_heap_26 (tgt := 56) (by decide) (fun c9 => ?_) (fun c9 => ?_)
        · have h := ite_f c9 h
          exact h_k7 s14 hR x12 i_x12 _ _ _ hE (lv_sub hl [0, 2] rfl) h
        · have h := ite_t c9 h
          refine lv_aload_n C0.1 C0.2.1 dX8_heap_29 rfl (lv_at hl 0 rfl) ?_
          refine lv_iload_n C0.1 C0.2.1 dX8_heap_30 rfl (lv_at hl 1 rfl) ?_
          refine lv_iload_n C0.1 C0.2.1 dX8_heap_31 rfl (lv_at hl 3 rfl) ?_
          obtain ⟨v16, h_v16, h⟩ := bndp_s h
          refine callV_i (rest := []) C0 hml hE (M_rec C0 hE) (c_M_number l D g hR i_p1 i_x13 h_v16) kw_X8_99 ⟨Nat.le_of_ble_eq_true rfl, Nat.le_of_ble_eq_true rfl⟩ rfl hl.1 rfl (Nat.le_of_ble_eq_true rfl) dX8_heap_32 ⟨Nat.zero_le _, Nat.zero_le _⟩ (fun H locs hE i_v16 => ?_)
          refine lv_aload_n C0.1 C0.2.1 dX8_heap_35 rfl (lv_at hl 0 rfl) ?_
          refine lv_iload_n C0.1 C0.2.1 dX8_heap_36 rfl (lv_at hl 1 rfl) ?_
          refine lv_aload_n C0.1 C0.2.1 dX8_heap_37 rfl (lv_at hl 0 rfl) ?_
          refine lv_iload_n C0.1 C0.2.1 dX8_heap_38 rfl (lv_at hl 3 rfl) ?_
          obtain ⟨v17, s18, h_v17, h⟩ := bnd_s h
          refine callV_i (rest := [.int (I p1), .ref (g.2 100), .int (I v16)]) C0 hml hE (M_rec C0 hE) (c_M_above l D g hR i_x13 h_v17) kw_X8_255 ⟨Nat.le_of_ble_eq_true rfl, Nat.le_of_ble_eq_true rfl⟩ rfl hl.1 rfl (Nat.le_of_ble_eq_true rfl) dX8_heap_39 ⟨Nat.zero_le _, Nat.zero_le _⟩ (fun H locs hE ⟨i_v17, hR⟩ => ?_)
          obtain ⟨v19, h_v19, h⟩ := bndp_s h
          refine callV_i (rest := [.int (I v16)]) C0 hml hE (M_rec C0 hE) (c_M_number l D g hR i_p1 i_v17 h_v19) kw_X8_99 ⟨Nat.le_of_ble_eq_true rfl, Nat.le_of_ble_eq_true rfl⟩ rfl hl.1 rfl (Nat.le_of_ble_eq_true rfl) dX8_heap_42 ⟨Nat.zero_le _, Nat.zero_le _⟩ (fun H locs hE i_v19 => ?_)
          obtain ⟨k21, e_k21, h⟩ := jn_s h
          have h_k21 : ∀ (x20 : Int) (i_x20 : in32 x20) (H : Heap) (locs : List Loc) (ls : Array Slot), EW D (va_A (wM g σ) sz) s.heap (wM g s18) H locs → lv_has ls 4 [(0, .ref (g.2 100)), (1, .int (I p1)), (2, .int (I x20)), (3, .int (I x13))] → k21 x20 = some (r, σr) → W p l e (rmk 3) s m args below meth c H locs 0 0 (MQ below (QCi D (wM g σr) r (in32 r ∧ R32 σr) (va_A (wM g σ) sz)) args s 0 0 (va_A (wM g σ) sz)) (F0 m 50 ls []) := by
            intro x20 i_x20 H locs ls hE hl h
            have h := (congrFun e_k21 x20).symm.trans h
            obtain ⟨v22, e_v22, i_v22, h⟩ := oadd_s h
            refine x_iinc (lv' := [(3, .int (I v22)), (0, .ref (g.2 100)), (1, .int (I p1)), (2, .int (I x20))]) C0 dX8_heap_50 hl (k := 3) rfl e_v22 (by decide) rfl (fun ls hl => ?_)
            refine x_goto C0 dX8_heap_53 (tgt := 25) (by decide) ?_
            exact ih15 s18 hR x20 i_x20 v22 i_v22 _ _ _ hE (lv_sub hl [1, 2, 3, 0] rfl) h
          refine x_icmp_ge C0 i_v16 i_v19 dX8_heap_45 (tgt := 50) (by decide) (fun c9 => ?_) (fun c9 => ?_)
          · have h := ite_f c9 h
            exact h_k21 x12 i_x12 _ _ _ hE (lv_sub hl [0, 1, 2, 3] rfl) h
          · have h := ite_t c9 h
            refine lv_iload_n C0.1 C0.2.1 dX8_heap_48 rfl (lv_at hl 3 rfl) ?_
            refine lv_istore_n (lv' := [(2, .int (I x13)), (0, .ref (g.2 100)), (1, .int (I p1)), (3, .int (I x13))]) C0.1 C0.2.1 dX8_heap_49 rfl hl (by decide) rfl (fun ls hl => ?_)
            exact h_k21 x13 i_x13 _ _ _ hE (lv_sub hl [1, 2, 0, 3] rfl) h
    exact hL25 FU s1 hR (-1) lit_m1 v4 i_v4 _ _ _ hE (lv_sub hl [2, 3, 1, 0] rfl) h
  · have h := ite_t c9 h
    refine lv_iconst (v := I (-1)) C0.1 C0.2.1 dX8_heap_12 rfl ?_
    exact ret_i (wf := wM g) C0 hr hlk hE h lit_m1 hR dX8_heap_13
set_option maxRecDepth 100000 in
set_option maxHeartbeats 4000000 in
theorem c_M_pushes (l : Launch) (D : va_G) (g : Ad) : ∀ (d : Nat) {σ σr : St} {p1 p2 p3 p4 p5 p6 r : Int} (hR : R32 σ) (i_p1 : in32 p1) (i_p2 : in32 p2) (i_p3 : in32 p3) (i_p4 : in32 p4) (i_p5 : in32 p5) (i_p6 : in32 p6) (h : M_pushes d σ p1 p2 p3 p4 p5 p6 = some (r, σr)), CtV l D g yX8_pushes cX8_pushes 8 none (2 + d) (wM g σ) (wM g σr) [.ref (g.2 100), .int (I p1), .int (I p2), .int (I p3), .int (I p4), .int (I p5), .int (I p6)] (R32 σr) := by
  intro d
  induction d with
  | zero => intros; rename_i h; cases h
  | succ d ih =>
    intro σ σr p1 p2 p3 p4 p5 p6 r hR i_p1 i_p2 i_p3 i_p4 i_p5 i_p6 h sz
    refine met_of (by decide) (Nat.le_of_ble_eq_true rfl) (fun p e s m args below meth c ls H locs C0 hml hr hlk hE hl => ?_)
    have C0 : CX p c cX8_pushes m s args D g RX8 := C0
    have hl : lv_has ls 8 [(0, .ref (g.2 100)), (1, .int (I p1)), (2, .int (I p2)), (3, .int (I p3)), (4, .int (I p4)), (5, .int (I p5)), (6, .int (I p6))] := hl
    unfold M_pushes at h
    refine lv_iload_n C0.1 C0.2.1 dX8_pushes_0 rfl (lv_at hl 3 rfl) ?_
    refine x_if_ne C0 i_p3 dX8_pushes_1 (tgt := 15) (by decide) (fun c9 => ?_) (fun c9 => ?_)
    · have h := ite_f c9 h
      refine lv_aload_n C0.1 C0.2.1 dX8_pushes_15 rfl (lv_at hl 0 rfl) ?_
      refine lv_bipush (v := I 6) C0.1 C0.2.1 dX8_pushes_16 (by decide +kernel) ?_
      refine lv_iload_n C0.1 C0.2.1 dX8_pushes_18 rfl (lv_at hl 1 rfl) ?_
      obtain ⟨v1, h_v1, h⟩ := bndp_s h
      refine callV_i (rest := []) C0 hml hE (M_rec C0 hE) (c_M_number l D g hR lit_6 i_p1 h_v1) kw_X8_99 (by simp only [rmk, RD]; omega) rfl hl.1 rfl (Nat.le_of_ble_eq_true rfl) dX8_pushes_19 ⟨Nat.zero_le _, Nat.zero_le _⟩ (fun H locs hE i_v1 => ?_)
      refine lv_istore (lv' := [(7, .int (I v1)), (0, .ref (g.2 100)), (1, .int (I p1)), (2, .int (I p2)), (3, .int (I p3)), (4, .int (I p4)), (5, .int (I p5)), (6, .int (I p6))]) C0.1 C0.2.1 dX8_pushes_22 hl (by decide) rfl (fun ls hl => ?_)
      refine lv_aload_n C0.1 C0.2.1 dX8_pushes_24 rfl (lv_at hl 1 rfl) ?_
      refine lv_bipush (v := I 7) C0.1 C0.2.1 dX8_pushes_25 (by decide +kernel) ?_
      refine lv_iload C0.1 C0.2.1 dX8_pushes_27 (lv_at hl 5 rfl) ?_
      refine lv_iload C0.1 C0.2.1 dX8_pushes_29 (lv_at hl 7 rfl) ?_
      refine lv_iload C0.1 C0.2.1 dX8_pushes_31 (lv_at hl 0 rfl) ?_
      obtain ⟨v2, e_v2, i_v2, h⟩ := opure_s h (imin_in i_p6 i_v1)
      refine x_min C0 kw_X8_229 (hml.trans hl.1.symm) i_p6 i_v1 e_v2 ⟨by simp only [rmk]; omega, Nat.le_trans (m := 8 + 13) (Nat.add_le_add_right (Nat.le_of_ble_eq_true rfl) 13) (by simp only [rmk]; omega)⟩ ⟨Nat.zero_le _, Nat.zero_le _⟩ dX8_pushes_33 ?_
      obtain ⟨v3, s4, h_v3, h⟩ := bnd_s h
      refine callV_v (rest := []) C0 hml hE (M_rec C0 hE) (c_M_makes l D g hR lit_7 i_p4 i_v2 h_v3) kw_X8_103 (by simp only [rmk, RD]; omega) rfl hl.1 rfl (Nat.le_of_ble_eq_true rfl) dX8_pushes_36 ⟨Nat.zero_le _, Nat.zero_le _⟩ (fun H locs hE hR => ?_)
      refine lv_aload_n C0.1 C0.2.1 dX8_pushes_39 rfl (lv_at hl 1 rfl) ?_
      refine lv_bipush (v := I 6) C0.1 C0.2.1 dX8_pushes_40 (by decide +kernel) ?_
      refine lv_iload_n C0.1 C0.2.1 dX8_pushes_42 rfl (lv_at hl 2 rfl) ?_
      refine lv_iload_n C0.1 C0.2.1 dX8_pushes_43 rfl (lv_at hl 3 rfl) ?_
      obtain ⟨v5, e_v5, i_v5, h⟩ := oadd_s h
      refine x_add C0 e_v5 dX8_pushes_44 ?_
      refine lv_iconst (v := I 2) C0.1 C0.2.1 dX8_pushes_45 rfl ?_
      refine lv_iload_n C0.1 C0.2.1 dX8_pushes_46 rfl (lv_at hl 3 rfl) ?_
      obtain ⟨v6, e_v6, i_v6, h⟩ := omul_s h
      refine x_mul C0 e_v6 dX8_pushes_47 ?_
      refine lv_iload_n C0.1 C0.2.1 dX8_pushes_48 rfl (lv_at hl 4 rfl) ?_
      obtain ⟨v7, h_v7, h⟩ := bndp_s h
      refine callS_i (rest := [.int (I v6), .int (I v5), .int (I 6), .ref (g.2 100)]) C0 hml hE (c_M_leftSize l D g (σ := s4) i_p3 h_v7) kw_X8_169 (by simp only [rmk, RD]; omega) rfl hl.1 rfl (Nat.le_of_ble_eq_true rfl) dX8_pushes_49 ⟨Nat.zero_le _, Nat.zero_le _⟩ (fun H locs hE i_v7 => ?_)
      refine lv_bipush (v := I 7) C0.1 C0.2.1 dX8_pushes_52 (by decide +kernel) ?_
      refine lv_iload C0.1 C0.2.1 dX8_pushes_54 (lv_at hl 5 rfl) ?_
      refine lv_iconst (v := I 2) C0.1 C0.2.1 dX8_pushes_56 rfl ?_
      refine lv_iload C0.1 C0.2.1 dX8_pushes_57 (lv_at hl 6 rfl) ?_
      obtain ⟨v8, e_v8, i_v8, h⟩ := omul_s h
      refine x_mul C0 e_v8 dX8_pushes_59 ?_
      obtain ⟨v9, e_v9, i_v9, h⟩ := oadd_s h
      refine x_add C0 e_v9 dX8_pushes_60 ?_
      refine lv_iconst (v := I 2) C0.1 C0.2.1 dX8_pushes_61 rfl ?_
      refine lv_iload C0.1 C0.2.1 dX8_pushes_62 (lv_at hl 6 rfl) ?_
      obtain ⟨v10, e_v10, i_v10, h⟩ := omul_s h
      refine x_mul C0 e_v10 dX8_pushes_64 ?_
      obtain ⟨v11, s12, h_v11, h⟩ := bnd_s h
      refine callV_v (rest := []) C0 hml hE (M_rec C0 hE) (c_M_shares l D g hR lit_6 i_v5 i_v6 i_v7 lit_7 i_v9 i_v10 h_v11) kw_X8_78 (by simp only [rmk, RD]; omega) rfl hl.1 rfl (Nat.le_of_ble_eq_true rfl) dX8_pushes_65 ⟨Nat.zero_le _, Nat.zero_le _⟩ (fun H locs hE hR => ?_)
      refine lv_aload_n C0.1 C0.2.1 dX8_pushes_68 rfl (lv_at hl 1 rfl) ?_
      refine lv_iload_n C0.1 C0.2.1 dX8_pushes_69 rfl (lv_at hl 2 rfl) ?_
      refine lv_iconst (v := I 2) C0.1 C0.2.1 dX8_pushes_70 rfl ?_
      refine lv_iload_n C0.1 C0.2.1 dX8_pushes_71 rfl (lv_at hl 3 rfl) ?_
      obtain ⟨v13, e_v13, i_v13, h⟩ := omul_s h
      refine x_mul C0 e_v13 dX8_pushes_72 ?_
      obtain ⟨v14, e_v14, i_v14, h⟩ := oadd_s h
      refine x_add C0 e_v14 dX8_pushes_73 ?_
      refine lv_iconst (v := I 2) C0.1 C0.2.1 dX8_pushes_74 rfl ?_
      refine lv_iload_n C0.1 C0.2.1 dX8_pushes_75 rfl (lv_at hl 3 rfl) ?_
      obtain ⟨v15, e_v15, i_v15, h⟩ := omul_s h
      refine x_mul C0 e_v15 dX8_pushes_76 ?_
      refine lv_iload_n C0.1 C0.2.1 dX8_pushes_77 rfl (lv_at hl 4 rfl) ?_
      obtain ⟨v16, h_v16, h⟩ := bndp_s h
      refine callS_i (rest := [.int (I v15), .int (I v14), .ref (g.2 100)]) C0 hml hE (c_M_rightSize l D g (σ := s12) i_p3 h_v16) kw_X8_173 (by simp only [rmk, RD]; omega) rfl hl.1 rfl (Nat.le_of_ble_eq_true rfl) dX8_pushes_78 ⟨Nat.zero_le _, Nat.zero_le _⟩ (fun H locs hE i_v16 => ?_)
      refine lv_iload C0.1 C0.2.1 dX8_pushes_81 (lv_at hl 5 rfl) ?_
      refine lv_iload C0.1 C0.2.1 dX8_pushes_83 (lv_at hl 6 rfl) ?_
      obtain ⟨v17, e_v17, i_v17, h⟩ := oadd_s h
      refine x_add C0 e_v17 dX8_pushes_85 ?_
      refine lv_iconst (v := I 2) C0.1 C0.2.1 dX8_pushes_86 rfl ?_
      refine lv_iload C0.1 C0.2.1 dX8_pushes_87 (lv_at hl 6 rfl) ?_
      obtain ⟨v18, e_v18, i_v18, h⟩ := omul_s h
      refine x_mul C0 e_v18 dX8_pushes_89 ?_
      refine lv_iload C0.1 C0.2.1 dX8_pushes_90 (lv_at hl 7 rfl) ?_
      refine lv_iload C0.1 C0.2.1 dX8_pushes_92 (lv_at hl 0 rfl) ?_
      obtain ⟨v19, e_v19, i_v19, h⟩ := opure_s h (imax_in i_p6 i_v1)
      refine x_max C0 kw_X8_234 (hml.trans hl.1.symm) i_p6 i_v1 e_v19 ⟨by simp only [rmk]; omega, Nat.le_trans (m := 8 + 13) (Nat.add_le_add_right (Nat.le_of_ble_eq_true rfl) 13) (by simp only [rmk]; omega)⟩ ⟨Nat.zero_le _, Nat.zero_le _⟩ dX8_pushes_94 ?_
      obtain ⟨v20, s21, h_v20, h⟩ := bnd_s h
      refine callV_v (rest := []) C0 hml hE (M_rec C0 hE) (ih hR i_v14 i_v15 i_v16 i_v17 i_v18 i_v19 h_v20) kw_X8_258 (by simp only [rmk, RD]; omega) rfl hl.1 rfl (Nat.le_of_ble_eq_true rfl) dX8_pushes_97 ⟨Nat.zero_le _, Nat.zero_le _⟩ (fun H locs hE hR => ?_)
      exact ret_v (wf := wM g) C0 hr hlk hE h hR dX8_pushes_100
    · have h := ite_t c9 h
      refine lv_aload_n C0.1 C0.2.1 dX8_pushes_4 rfl (lv_at hl 0 rfl) ?_
      refine lv_bipush (v := I 7) C0.1 C0.2.1 dX8_pushes_5 (by decide +kernel) ?_
      refine lv_iload C0.1 C0.2.1 dX8_pushes_7 (lv_at hl 4 rfl) ?_
      refine lv_iload C0.1 C0.2.1 dX8_pushes_9 (lv_at hl 6 rfl) ?_
      obtain ⟨v22, s23, h_v22, h⟩ := bnd_s h
      refine callV_v (rest := []) C0 hml hE (M_rec C0 hE) (c_M_makes l D g hR lit_7 i_p4 i_p6 h_v22) kw_X8_103 (by simp only [rmk, RD]; omega) rfl hl.1 rfl (Nat.le_of_ble_eq_true rfl) dX8_pushes_11 ⟨Nat.zero_le _, Nat.zero_le _⟩ (fun H locs hE hR => ?_)
      exact ret_v (wf := wM g) C0 hr hlk hE h hR dX8_pushes_14
set_option maxRecDepth 100000 in
set_option maxHeartbeats 4000000 in
theorem c_M_goesPush (l : Launch) (D : va_G) (g : Ad) {σ σr : St} {p1 r : Int} (hR : R32 σ) (i_p1 : in32 p1) (h : M_goesPush σ p1 = some (r, σr)) : CtV l D g yX8_goesPush cX8_goesPush 2 none 15 (wM g σ) (wM g σr) [.ref (g.2 100), .int (I p1)] (R32 σr) := by
  intro sz
  refine met_of (by decide) (Nat.le_of_ble_eq_true rfl) (fun p e s m args below meth c ls H locs C0 hml hr hlk hE hl => ?_)
  have C0 : CX p c cX8_goesPush m s args D g RX8 := C0
  have hl : lv_has ls 2 [(0, .ref (g.2 100)), (1, .int (I p1))] := hl
  unfold M_goesPush at h
  refine lv_aload_n C0.1 C0.2.1 dX8_goesPush_0 rfl (lv_at hl 0 rfl) ?_
  refine lv_bipush (v := I 7) C0.1 C0.2.1 dX8_goesPush_1 (by decide +kernel) ?_
  refine lv_bipush (v := I 6) C0.1 C0.2.1 dX8_goesPush_3 (by decide +kernel) ?_
  obtain ⟨v1, s2, h_v1, h⟩ := bnd_s h
  refine callV_v (rest := []) C0 hml hE (M_rec C0 hE) (c_M_takes l D g hR lit_7 lit_6 h_v1) kw_X8_82 ⟨Nat.le_of_ble_eq_true rfl, Nat.le_of_ble_eq_true rfl⟩ rfl hl.1 rfl (Nat.le_of_ble_eq_true rfl) dX8_goesPush_5 ⟨Nat.zero_le _, Nat.zero_le _⟩ (fun H locs hE hR => ?_)
  refine lv_aload_n C0.1 C0.2.1 dX8_goesPush_8 rfl (lv_at hl 0 rfl) ?_
  refine lv_iconst (v := I 0) C0.1 C0.2.1 dX8_goesPush_9 rfl ?_
  refine lv_iconst (v := I 1) C0.1 C0.2.1 dX8_goesPush_10 rfl ?_
  refine lv_aload_n C0.1 C0.2.1 dX8_goesPush_11 rfl (lv_at hl 0 rfl) ?_
  refine M_g_sizes C0 hE fk_X8_16 dX8_goesPush_12 ?_
  refine lv_bipush (v := I 6) C0.1 C0.2.1 dX8_goesPush_15 (by decide +kernel) ?_
  obtain ⟨v3, e_v3, i_v3, h⟩ := rd_s hR h
  refine M_sizes_l C0 hE lit_6 e_v3 dX8_goesPush_17 ?_
  refine lv_iconst (v := I 0) C0.1 C0.2.1 dX8_goesPush_18 rfl ?_
  refine lv_iconst (v := I 1) C0.1 C0.2.1 dX8_goesPush_19 rfl ?_
  refine lv_iload_n C0.1 C0.2.1 dX8_goesPush_20 rfl (lv_at hl 1 rfl) ?_
  obtain ⟨v4, s5, h_v4, h⟩ := bnd_s h
  refine callV_v (rest := []) C0 hml hE (M_rec C0 hE) (c_M_pushes l D g RD hR lit_0 lit_1 i_v3 lit_0 lit_1 i_p1 h_v4) kw_X8_258 ⟨Nat.le_of_ble_eq_true rfl, Nat.le_of_ble_eq_true rfl⟩ rfl hl.1 rfl (Nat.le_of_ble_eq_true rfl) dX8_goesPush_21 ⟨Nat.zero_le _, Nat.zero_le _⟩ (fun H locs hE hR => ?_)
  refine lv_aload_n C0.1 C0.2.1 dX8_goesPush_24 rfl (lv_at hl 0 rfl) ?_
  refine M_g_sizes C0 hE fk_X8_16 dX8_goesPush_25 ?_
  refine lv_bipush (v := I 7) C0.1 C0.2.1 dX8_goesPush_28 (by decide +kernel) ?_
  refine lv_dup2_11 C0.1 C0.2.1 dX8_goesPush_30 rfl rfl ?_
  obtain ⟨v6, e_v6, i_v6, h⟩ := rd_s hR h
  refine M_sizes_l C0 hE lit_7 e_v6 dX8_goesPush_31 ?_
  refine lv_iconst (v := I 1) C0.1 C0.2.1 dX8_goesPush_32 rfl ?_
  obtain ⟨v7, e_v7, i_v7, h⟩ := oadd_s h
  refine x_add C0 e_v7 dX8_goesPush_33 ?_
  obtain ⟨s8, e_s8, hR, h⟩ := wr_s hR i_v7 h
  refine M_sizes_st C0 hE lit_7 e_s8 dX8_goesPush_34 (fun H locs hE => ?_)
  exact ret_v (wf := wM g) C0 hr hlk hE h hR dX8_goesPush_35
set_option maxRecDepth 100000 in
set_option maxHeartbeats 4000000 in
theorem c_M_push (l : Launch) (D : va_G) (g : Ad) {σ σr : St} {p1 p2 p3 r : Int} (hR : R32 σ) (i_p1 : in32 p1) (i_p2 : in32 p2) (i_p3 : in32 p3) (h : M_push σ p1 p2 p3 = some (r, σr)) : CtI l D g yX8_push cX8_push 4 (some .int) 16 (wM g σ) (wM g σr) [.ref (g.2 100), .int (I p1), .int (I p2), .int (I p3)] r (in32 r ∧ R32 σr) := by
  intro sz
  refine met_of (by decide) (Nat.le_of_ble_eq_true rfl) (fun p e s m args below meth c ls H locs C0 hml hr hlk hE hl => ?_)
  have C0 : CX p c cX8_push m s args D g RX8 := C0
  have hl : lv_has ls 4 [(0, .ref (g.2 100)), (1, .int (I p1)), (2, .int (I p2)), (3, .int (I p3))] := hl
  unfold M_push at h
  refine lv_aload_n C0.1 C0.2.1 dX8_push_0 rfl (lv_at hl 0 rfl) ?_
  refine lv_iconst (v := I 0) C0.1 C0.2.1 dX8_push_1 rfl ?_
  obtain ⟨s1, e_s1, hR, h⟩ := pf_s hR lit_0 h
  refine M_p_thrown C0 hE e_s1 fk_X8_55 dX8_push_2 (fun H locs hE => ?_)
  refine lv_iload_n C0.1 C0.2.1 dX8_push_5 rfl (lv_at hl 1 rfl) ?_
  obtain ⟨v2, h_v2, h⟩ := bndp_s h
  refine callS_i (rest := []) C0 hml hE (c_M_isPlace l D g (σ := s1) i_p1 h_v2) kw_X8_134 ⟨Nat.le_of_ble_eq_true rfl, Nat.le_of_ble_eq_true rfl⟩ rfl hl.1 rfl (Nat.le_of_ble_eq_true rfl) dX8_push_6 ⟨Nat.zero_le _, Nat.zero_le _⟩ (fun H locs hE i_v2 => ?_)
  refine x_if_eq C0 i_v2 dX8_push_9 (tgt := 26) (by decide) (fun c9 => ?_) (fun c9 => ?_)
  · have h := ite_t c9 h
    refine lv_iconst (v := I (-1)) C0.1 C0.2.1 dX8_push_26 rfl ?_
    exact ret_i (wf := wM g) C0 hr hlk hE h lit_m1 hR dX8_push_27
  · have h := ite_f c9 h
    refine lv_iload_n C0.1 C0.2.1 dX8_push_12 rfl (lv_at hl 2 rfl) ?_
    obtain ⟨v3, h_v3, h⟩ := bndp_s h
    refine callS_i (rest := []) C0 hml hE (c_M_isNumber l D g (σ := s1) i_p2 h_v3) kw_X8_163 ⟨Nat.le_of_ble_eq_true rfl, Nat.le_of_ble_eq_true rfl⟩ rfl hl.1 rfl (Nat.le_of_ble_eq_true rfl) dX8_push_13 ⟨Nat.zero_le _, Nat.zero_le _⟩ (fun H locs hE i_v3 => ?_)
    refine x_if_eq C0 i_v3 dX8_push_16 (tgt := 26) (by decide) (fun c9 => ?_) (fun c9 => ?_)
    · have h := ite_t c9 h
      refine lv_iconst (v := I (-1)) C0.1 C0.2.1 dX8_push_26 rfl ?_
      exact ret_i (wf := wM g) C0 hr hlk hE h lit_m1 hR dX8_push_27
    · have h := ite_f c9 h
      refine lv_iload_n C0.1 C0.2.1 dX8_push_19 rfl (lv_at hl 3 rfl) ?_
      obtain ⟨v4, h_v4, h⟩ := bndp_s h
      refine callS_i (rest := []) C0 hml hE (c_M_isPlace l D g (σ := s1) i_p3 h_v4) kw_X8_134 ⟨Nat.le_of_ble_eq_true rfl, Nat.le_of_ble_eq_true rfl⟩ rfl hl.1 rfl (Nat.le_of_ble_eq_true rfl) dX8_push_20 ⟨Nat.zero_le _, Nat.zero_le _⟩ (fun H locs hE i_v4 => ?_)
      refine x_if_ne C0 i_v4 dX8_push_23 (tgt := 28) (by decide) (fun c9 => ?_) (fun c9 => ?_)
      · have h := ite_f c9 h
        refine lv_aload_n C0.1 C0.2.1 dX8_push_28 rfl (lv_at hl 0 rfl) ?_
        refine M_g_sizes C0 hE fk_X8_16 dX8_push_29 ?_
        refine lv_iload_n C0.1 C0.2.1 dX8_push_32 rfl (lv_at hl 1 rfl) ?_
        obtain ⟨v5, e_v5, i_v5, h⟩ := rd_s hR h
        refine M_sizes_l C0 hE i_p1 e_v5 dX8_push_33 ?_
        refine lv_sipush (v := I 255) C0.1 C0.2.1 dX8_push_34 (by decide +kernel) ?_
        refine x_icmp_ne C0 i_v5 lit_255 dX8_push_37 (tgt := 43) (by decide) (fun c9 => ?_) (fun c9 => ?_)
        · have h := ite_f c9 h
          refine lv_aload_n C0.1 C0.2.1 dX8_push_43 rfl (lv_at hl 0 rfl) ?_
          refine lv_iload_n C0.1 C0.2.1 dX8_push_44 rfl (lv_at hl 1 rfl) ?_
          obtain ⟨v6, s7, h_v6, h⟩ := bnd_s h
          refine callV_v (rest := []) C0 hml hE (M_rec C0 hE) (c_M_asks l D g hR i_p1 h_v6) kw_X8_176 ⟨Nat.le_of_ble_eq_true rfl, Nat.le_of_ble_eq_true rfl⟩ rfl hl.1 rfl (Nat.le_of_ble_eq_true rfl) dX8_push_45 ⟨Nat.zero_le _, Nat.zero_le _⟩ (fun H locs hE hR => ?_)
          refine lv_aload_n C0.1 C0.2.1 dX8_push_48 rfl (lv_at hl 0 rfl) ?_
          obtain ⟨v8, s9, h_v8, h⟩ := bnd_s h
          refine callV_v (rest := []) C0 hml hE (M_rec C0 hE) (c_M_begins l D g hR h_v8) kw_X8_166 ⟨Nat.le_of_ble_eq_true rfl, Nat.le_of_ble_eq_true rfl⟩ rfl hl.1 rfl (Nat.le_of_ble_eq_true rfl) dX8_push_49 ⟨Nat.zero_le _, Nat.zero_le _⟩ (fun H locs hE hR => ?_)
          refine lv_aload_n C0.1 C0.2.1 dX8_push_52 rfl (lv_at hl 0 rfl) ?_
          refine lv_iload_n C0.1 C0.2.1 dX8_push_53 rfl (lv_at hl 2 rfl) ?_
          obtain ⟨v10, s11, h_v10, h⟩ := bnd_s h
          refine callV_v (rest := []) C0 hml hE (M_rec C0 hE) (c_M_goesPush l D g hR i_p2 h_v10) kw_X8_261 ⟨Nat.le_of_ble_eq_true rfl, Nat.le_of_ble_eq_true rfl⟩ rfl hl.1 rfl (Nat.le_of_ble_eq_true rfl) dX8_push_54 ⟨Nat.zero_le _, Nat.zero_le _⟩ (fun H locs hE hR => ?_)
          refine lv_aload_n C0.1 C0.2.1 dX8_push_57 rfl (lv_at hl 0 rfl) ?_
          refine lv_iload_n C0.1 C0.2.1 dX8_push_58 rfl (lv_at hl 3 rfl) ?_
          obtain ⟨v12, s13, h_v12, h⟩ := bnd_s h
          refine callV_i (rest := []) C0 hml hE (M_rec C0 hE) (c_M_ends l D g hR i_p3 h_v12) kw_X8_205 ⟨Nat.le_of_ble_eq_true rfl, Nat.le_of_ble_eq_true rfl⟩ rfl hl.1 rfl (Nat.le_of_ble_eq_true rfl) dX8_push_59 ⟨Nat.zero_le _, Nat.zero_le _⟩ (fun H locs hE ⟨i_v12, hR⟩ => ?_)
          exact ret_i (wf := wM g) C0 hr hlk hE h i_v12 hR dX8_push_62
        · have h := ite_t c9 h
          refine lv_bipush (v := I (-2)) C0.1 C0.2.1 dX8_push_40 (by decide +kernel) ?_
          exact ret_i (wf := wM g) C0 hr hlk hE h lit_m2 hR dX8_push_42
      · have h := ite_t c9 h
        refine lv_iconst (v := I (-1)) C0.1 C0.2.1 dX8_push_26 rfl ?_
        exact ret_i (wf := wM g) C0 hr hlk hE h lit_m1 hR dX8_push_27
set_option maxRecDepth 100000 in
set_option maxHeartbeats 4000000 in
theorem c_M_lifts (l : Launch) (D : va_G) (g : Ad) : ∀ (d : Nat) {σ σr : St} {p1 p2 p3 p4 p5 r : Int} (hR : R32 σ) (i_p1 : in32 p1) (i_p2 : in32 p2) (i_p3 : in32 p3) (i_p4 : in32 p4) (i_p5 : in32 p5) (h : M_lifts d σ p1 p2 p3 p4 p5 = some (r, σr)), CtV l D g yX8_lifts cX8_lifts 6 none (2 + d) (wM g σ) (wM g σr) [.ref (g.2 100), .int (I p1), .int (I p2), .int (I p3), .int (I p4), .int (I p5)] (R32 σr) := by
  intro d
  induction d with
  | zero => intros; rename_i h; cases h
  | succ d ih =>
    intro σ σr p1 p2 p3 p4 p5 r hR i_p1 i_p2 i_p3 i_p4 i_p5 h sz
    refine met_of (by decide) (Nat.le_of_ble_eq_true rfl) (fun p e s m args below meth c ls H locs C0 hml hr hlk hE hl => ?_)
    have C0 : CX p c cX8_lifts m s args D g RX8 := C0
    have hl : lv_has ls 6 [(0, .ref (g.2 100)), (1, .int (I p1)), (2, .int (I p2)), (3, .int (I p3)), (4, .int (I p4)), (5, .int (I p5))] := hl
    unfold M_lifts at h
    refine lv_iload_n C0.1 C0.2.1 dX8_lifts_0 rfl (lv_at hl 3 rfl) ?_
    refine lv_iconst (v := I 1) C0.1 C0.2.1 dX8_lifts_1 rfl ?_
    refine x_icmp_ne C0 i_p3 lit_1 dX8_lifts_2 (tgt := 17) (by decide) (fun c9 => ?_) (fun c9 => ?_)
    · have h := ite_f c9 h
      refine lv_aload_n C0.1 C0.2.1 dX8_lifts_17 rfl (lv_at hl 0 rfl) ?_
      refine lv_bipush (v := I 7) C0.1 C0.2.1 dX8_lifts_18 (by decide +kernel) ?_
      refine lv_iload C0.1 C0.2.1 dX8_lifts_20 (lv_at hl 4 rfl) ?_
      refine lv_aload_n C0.1 C0.2.1 dX8_lifts_22 rfl (lv_at hl 0 rfl) ?_
      refine lv_bipush (v := I 6) C0.1 C0.2.1 dX8_lifts_23 (by decide +kernel) ?_
      refine lv_iload_n C0.1 C0.2.1 dX8_lifts_25 rfl (lv_at hl 1 rfl) ?_
      obtain ⟨v1, h_v1, h⟩ := bndp_s h
      refine callV_i (rest := [.int (I p4), .int (I 7), .ref (g.2 100)]) C0 hml hE (M_rec C0 hE) (c_M_number l D g hR lit_6 i_p1 h_v1) kw_X8_99 (by simp only [rmk, RD]; omega) rfl hl.1 rfl (Nat.le_of_ble_eq_true rfl) dX8_lifts_26 ⟨Nat.zero_le _, Nat.zero_le _⟩ (fun H locs hE i_v1 => ?_)
      obtain ⟨v2, s3, h_v2, h⟩ := bnd_s h
      refine callV_v (rest := []) C0 hml hE (M_rec C0 hE) (c_M_makes l D g hR lit_7 i_p4 i_v1 h_v2) kw_X8_103 (by simp only [rmk, RD]; omega) rfl hl.1 rfl (Nat.le_of_ble_eq_true rfl) dX8_lifts_29 ⟨Nat.zero_le _, Nat.zero_le _⟩ (fun H locs hE hR => ?_)
      refine lv_aload_n C0.1 C0.2.1 dX8_lifts_32 rfl (lv_at hl 0 rfl) ?_
      refine lv_bipush (v := I 6) C0.1 C0.2.1 dX8_lifts_33 (by decide +kernel) ?_
      refine lv_iload_n C0.1 C0.2.1 dX8_lifts_35 rfl (lv_at hl 1 rfl) ?_
      refine lv_iconst (v := I 2) C0.1 C0.2.1 dX8_lifts_36 rfl ?_
      refine lv_iload_n C0.1 C0.2.1 dX8_lifts_37 rfl (lv_at hl 2 rfl) ?_
      obtain ⟨v4, e_v4, i_v4, h⟩ := omul_s h
      refine x_mul C0 e_v4 dX8_lifts_38 ?_
      obtain ⟨v5, e_v5, i_v5, h⟩ := oadd_s h
      refine x_add C0 e_v5 dX8_lifts_39 ?_
      refine lv_iconst (v := I 2) C0.1 C0.2.1 dX8_lifts_40 rfl ?_
      refine lv_iload_n C0.1 C0.2.1 dX8_lifts_41 rfl (lv_at hl 2 rfl) ?_
      obtain ⟨v6, e_v6, i_v6, h⟩ := omul_s h
      refine x_mul C0 e_v6 dX8_lifts_42 ?_
      refine lv_iload_n C0.1 C0.2.1 dX8_lifts_43 rfl (lv_at hl 3 rfl) ?_
      obtain ⟨v7, h_v7, h⟩ := bndp_s h
      refine callS_i (rest := [.int (I v6), .int (I v5), .int (I 6), .ref (g.2 100)]) C0 hml hE (c_M_rightSize l D g (σ := s3) i_p3 h_v7) kw_X8_173 (by simp only [rmk, RD]; omega) rfl hl.1 rfl (Nat.le_of_ble_eq_true rfl) dX8_lifts_44 ⟨Nat.zero_le _, Nat.zero_le _⟩ (fun H locs hE i_v7 => ?_)
      refine lv_bipush (v := I 7) C0.1 C0.2.1 dX8_lifts_47 (by decide +kernel) ?_
      refine lv_iload C0.1 C0.2.1 dX8_lifts_49 (lv_at hl 4 rfl) ?_
      refine lv_iload C0.1 C0.2.1 dX8_lifts_51 (lv_at hl 5 rfl) ?_
      obtain ⟨v8, e_v8, i_v8, h⟩ := oadd_s h
      refine x_add C0 e_v8 dX8_lifts_53 ?_
      refine lv_iconst (v := I 2) C0.1 C0.2.1 dX8_lifts_54 rfl ?_
      refine lv_iload C0.1 C0.2.1 dX8_lifts_55 (lv_at hl 5 rfl) ?_
      obtain ⟨v9, e_v9, i_v9, h⟩ := omul_s h
      refine x_mul C0 e_v9 dX8_lifts_57 ?_
      obtain ⟨v10, s11, h_v10, h⟩ := bnd_s h
      refine callV_v (rest := []) C0 hml hE (M_rec C0 hE) (c_M_shares l D g hR lit_6 i_v5 i_v6 i_v7 lit_7 i_v8 i_v9 h_v10) kw_X8_78 (by simp only [rmk, RD]; omega) rfl hl.1 rfl (Nat.le_of_ble_eq_true rfl) dX8_lifts_58 ⟨Nat.zero_le _, Nat.zero_le _⟩ (fun H locs hE hR => ?_)
      refine lv_aload_n C0.1 C0.2.1 dX8_lifts_61 rfl (lv_at hl 0 rfl) ?_
      refine lv_iload_n C0.1 C0.2.1 dX8_lifts_62 rfl (lv_at hl 1 rfl) ?_
      refine lv_iload_n C0.1 C0.2.1 dX8_lifts_63 rfl (lv_at hl 2 rfl) ?_
      obtain ⟨v12, e_v12, i_v12, h⟩ := oadd_s h
      refine x_add C0 e_v12 dX8_lifts_64 ?_
      refine lv_iconst (v := I 2) C0.1 C0.2.1 dX8_lifts_65 rfl ?_
      refine lv_iload_n C0.1 C0.2.1 dX8_lifts_66 rfl (lv_at hl 2 rfl) ?_
      obtain ⟨v13, e_v13, i_v13, h⟩ := omul_s h
      refine x_mul C0 e_v13 dX8_lifts_67 ?_
      refine lv_iload_n C0.1 C0.2.1 dX8_lifts_68 rfl (lv_at hl 3 rfl) ?_
      obtain ⟨v14, h_v14, h⟩ := bndp_s h
      refine callS_i (rest := [.int (I v13), .int (I v12), .ref (g.2 100)]) C0 hml hE (c_M_leftSize l D g (σ := s11) i_p3 h_v14) kw_X8_169 (by simp only [rmk, RD]; omega) rfl hl.1 rfl (Nat.le_of_ble_eq_true rfl) dX8_lifts_69 ⟨Nat.zero_le _, Nat.zero_le _⟩ (fun H locs hE i_v14 => ?_)
      refine lv_iload C0.1 C0.2.1 dX8_lifts_72 (lv_at hl 4 rfl) ?_
      refine lv_iconst (v := I 2) C0.1 C0.2.1 dX8_lifts_74 rfl ?_
      refine lv_iload C0.1 C0.2.1 dX8_lifts_75 (lv_at hl 5 rfl) ?_
      obtain ⟨v15, e_v15, i_v15, h⟩ := omul_s h
      refine x_mul C0 e_v15 dX8_lifts_77 ?_
      obtain ⟨v16, e_v16, i_v16, h⟩ := oadd_s h
      refine x_add C0 e_v16 dX8_lifts_78 ?_
      refine lv_iconst (v := I 2) C0.1 C0.2.1 dX8_lifts_79 rfl ?_
      refine lv_iload C0.1 C0.2.1 dX8_lifts_80 (lv_at hl 5 rfl) ?_
      obtain ⟨v17, e_v17, i_v17, h⟩ := omul_s h
      refine x_mul C0 e_v17 dX8_lifts_82 ?_
      obtain ⟨v18, s19, h_v18, h⟩ := bnd_s h
      refine callV_v (rest := []) C0 hml hE (M_rec C0 hE) (ih hR i_v12 i_v13 i_v14 i_v16 i_v17 h_v18) kw_X8_267 (by simp only [rmk, RD]; omega) rfl hl.1 rfl (Nat.le_of_ble_eq_true rfl) dX8_lifts_83 ⟨Nat.zero_le _, Nat.zero_le _⟩ (fun H locs hE hR => ?_)
      exact ret_v (wf := wM g) C0 hr hlk hE h hR dX8_lifts_86
    · have h := ite_t c9 h
      refine lv_aload_n C0.1 C0.2.1 dX8_lifts_5 rfl (lv_at hl 0 rfl) ?_
      refine lv_aload_n C0.1 C0.2.1 dX8_lifts_6 rfl (lv_at hl 0 rfl) ?_
      refine lv_bipush (v := I 6) C0.1 C0.2.1 dX8_lifts_7 (by decide +kernel) ?_
      refine lv_iload_n C0.1 C0.2.1 dX8_lifts_9 rfl (lv_at hl 1 rfl) ?_
      obtain ⟨v20, h_v20, h⟩ := bndp_s h
      refine callV_i (rest := [.ref (g.2 100)]) C0 hml hE (M_rec C0 hE) (c_M_number l D g hR lit_6 i_p1 h_v20) kw_X8_99 (by simp only [rmk, RD]; omega) rfl hl.1 rfl (Nat.le_of_ble_eq_true rfl) dX8_lifts_10 ⟨Nat.zero_le _, Nat.zero_le _⟩ (fun H locs hE i_v20 => ?_)
      obtain ⟨s21, e_s21, hR, h⟩ := pf_s hR i_v20 h
      refine M_p_lifted C0 hE e_s21 fk_X8_264 dX8_lifts_13 (fun H locs hE => ?_)
      exact ret_v (wf := wM g) C0 hr hlk hE h hR dX8_lifts_16

-- THE WALKS, written by program
set_option maxRecDepth 100000 in
set_option maxHeartbeats 4000000 in
theorem c_Pool_pushed (l : Launch) (D : va_G) (g : Ad) : ∀ (d : Nat) {σ σr : St} {p2 p3 p4 r : Int} (hR : R32 σ) (i_p2 : in32 p2) (i_p3 : in32 p3) (i_p4 : in32 p4) (h : Pool_pushed d σ p2 p3 p4 = some (r, σr)), CtI l D g yX0_pushed cX0_pushed 6 (some .int) (3 + d) (wE g σ) (wE g σr) [.ref (g.2 1), .int (I p2), .int (I p3), .int (I p4)] r (in32 r ∧ R32 σr) := by
  intro d
  induction d with
  | zero => intros; rename_i h; cases h
  | succ d ih =>
    intro σ σr p2 p3 p4 r hR i_p2 i_p3 i_p4 h sz
    refine met_of (by decide) (Nat.le_of_ble_eq_true rfl) (fun p e s m args below meth c ls H locs C0 hml hr hlk hE hl => ?_)
    have C0 : CX p c cX0_pushed m s args D g RX0 := C0
    have hl : lv_has ls 6 [(0, .ref (g.2 1)), (1, .int (I p2)), (2, .int (I p3)), (3, .int (I p4))] := hl
    unfold Pool_pushed at h
    refine lv_iload_n C0.1 C0.2.1 dX0_pushed_0 rfl (lv_at hl 3 rfl) ?_
    refine x_if_gt C0 i_p4 dX0_pushed_1 (tgt := 12) (by decide) (fun c9 => ?_) (fun c9 => ?_)
    · have h := ite_t c9 h
      refine lv_aload_n C0.1 C0.2.1 dX0_pushed_12 rfl (lv_at hl 0 rfl) ?_
      refine lv_iload_n C0.1 C0.2.1 dX0_pushed_13 rfl (lv_at hl 2 rfl) ?_
      obtain ⟨v1, h_v1, h⟩ := bndp_s h
      refine callV_i (rest := []) C0 hml hE (Pool_rec C0 hE) (c_Pool_numberOf l D g hR i_p3 h_v1) kw_X0_64 (by simp only [rmk, RD]; omega) rfl hl.1 rfl (Nat.le_of_ble_eq_true rfl) dX0_pushed_14 ⟨Nat.zero_le _, Nat.zero_le _⟩ (fun H locs hE i_v1 => ?_)
      refine lv_istore (lv' := [(4, .int (I v1)), (0, .ref (g.2 1)), (1, .int (I p2)), (2, .int (I p3)), (3, .int (I p4))]) C0.1 C0.2.1 dX0_pushed_17 hl (by decide) rfl (fun ls hl => ?_)
      refine lv_aload_n C0.1 C0.2.1 dX0_pushed_19 rfl (lv_at hl 1 rfl) ?_
      refine lv_iload_n C0.1 C0.2.1 dX0_pushed_20 rfl (lv_at hl 2 rfl) ?_
      refine lv_iload C0.1 C0.2.1 dX0_pushed_21 (lv_at hl 0 rfl) ?_
      obtain ⟨v2, e_v2, i_v2, h⟩ := opure_s h (imax_in i_p2 i_v1)
      refine x_max C0 kw_X0_93 (hml.trans hl.1.symm) i_p2 i_v1 e_v2 ⟨by simp only [rmk]; omega, Nat.le_trans (m := 8 + 13) (Nat.add_le_add_right (Nat.le_of_ble_eq_true rfl) 13) (by simp only [rmk]; omega)⟩ ⟨Nat.zero_le _, Nat.zero_le _⟩ dX0_pushed_23 ?_
      refine lv_aload_n C0.1 C0.2.1 dX0_pushed_26 rfl (lv_at hl 1 rfl) ?_
      refine lv_iload_n C0.1 C0.2.1 dX0_pushed_27 rfl (lv_at hl 3 rfl) ?_
      obtain ⟨v3, h_v3, h⟩ := bndp_s h
      refine callV_i (rest := [.int (I v2), .ref (g.2 1)]) C0 hml hE (Pool_rec C0 hE) (c_Pool_rightOf l D g hR i_p3 h_v3) kw_X0_61 (by simp only [rmk, RD]; omega) rfl hl.1 rfl (Nat.le_of_ble_eq_true rfl) dX0_pushed_28 ⟨Nat.zero_le _, Nat.zero_le _⟩ (fun H locs hE i_v3 => ?_)
      refine lv_iload_n C0.1 C0.2.1 dX0_pushed_31 rfl (lv_at hl 4 rfl) ?_
      obtain ⟨v4, h_v4, h⟩ := bndp_s h
      refine callS_i (rest := [.int (I v3), .int (I v2), .ref (g.2 1)]) C0 hml hE (c_Shape_rightSize l D g (σ := σ) i_p4 h_v4) kw_X0_136 (by simp only [rmk, RD]; omega) rfl hl.1 rfl (Nat.le_of_ble_eq_true rfl) dX0_pushed_32 ⟨Nat.zero_le _, Nat.zero_le _⟩ (fun H locs hE i_v4 => ?_)
      obtain ⟨v5, s6, h_v5, h⟩ := bnd_s h
      refine callS_i (rest := []) C0 hml hE (ih hR i_v2 i_v3 i_v4 h_v5) kw_X0_106 (by simp only [rmk, RD]; omega) rfl hl.1 rfl (Nat.le_of_ble_eq_true rfl) dX0_pushed_35 ⟨Nat.zero_le _, Nat.zero_le _⟩ (fun H locs hE ⟨i_v5, hR⟩ => ?_)
      refine lv_istore (lv' := [(5, .int (I v5)), (4, .int (I v1)), (0, .ref (g.2 1)), (1, .int (I p2)), (2, .int (I p3)), (3, .int (I p4))]) C0.1 C0.2.1 dX0_pushed_38 hl (by decide) rfl (fun ls hl => ?_)
      refine lv_aload_n C0.1 C0.2.1 dX0_pushed_40 rfl (lv_at hl 2 rfl) ?_
      refine lv_iload_n C0.1 C0.2.1 dX0_pushed_41 rfl (lv_at hl 3 rfl) ?_
      refine lv_iload C0.1 C0.2.1 dX0_pushed_42 (lv_at hl 1 rfl) ?_
      obtain ⟨v7, e_v7, i_v7, h⟩ := opure_s h (imin_in i_p2 i_v1)
      refine x_min C0 kw_X0_139 (hml.trans hl.1.symm) i_p2 i_v1 e_v7 ⟨by simp only [rmk]; omega, Nat.le_trans (m := 8 + 13) (Nat.add_le_add_right (Nat.le_of_ble_eq_true rfl) 13) (by simp only [rmk]; omega)⟩ ⟨Nat.zero_le _, Nat.zero_le _⟩ dX0_pushed_44 ?_
      refine lv_iload C0.1 C0.2.1 dX0_pushed_47 (lv_at hl 0 rfl) ?_
      refine lv_aload_n C0.1 C0.2.1 dX0_pushed_49 rfl (lv_at hl 2 rfl) ?_
      refine lv_iload_n C0.1 C0.2.1 dX0_pushed_50 rfl (lv_at hl 4 rfl) ?_
      obtain ⟨v8, h_v8, h⟩ := bndp_s h
      refine callV_i (rest := [.int (I v5), .int (I v7), .ref (g.2 1)]) C0 hml hE (Pool_rec C0 hE) (c_Pool_leftOf l D g hR i_p3 h_v8) kw_X0_57 (by simp only [rmk, RD]; omega) rfl hl.1 rfl (Nat.le_of_ble_eq_true rfl) dX0_pushed_51 ⟨Nat.zero_le _, Nat.zero_le _⟩ (fun H locs hE i_v8 => ?_)
      obtain ⟨v9, s10, h_v9, h⟩ := bnd_s h
      refine callV_i (rest := []) C0 hml hE (Pool_rec C0 hE) (c_Pool_make l D g hR i_v7 i_v5 i_v8 h_v9) kw_X0_76 (by simp only [rmk, RD]; omega) rfl hl.1 rfl (Nat.le_of_ble_eq_true rfl) dX0_pushed_54 ⟨Nat.zero_le _, Nat.zero_le _⟩ (fun H locs hE ⟨i_v9, hR⟩ => ?_)
      exact ret_i (wf := wE g) C0 hr hlk hE h i_v9 hR dX0_pushed_57
    · have h := ite_f c9 h
      refine lv_aload_n C0.1 C0.2.1 dX0_pushed_4 rfl (lv_at hl 0 rfl) ?_
      refine lv_iload_n C0.1 C0.2.1 dX0_pushed_5 rfl (lv_at hl 1 rfl) ?_
      refine lv_iconst (v := I 0) C0.1 C0.2.1 dX0_pushed_6 rfl ?_
      refine lv_iconst (v := I 0) C0.1 C0.2.1 dX0_pushed_7 rfl ?_
      obtain ⟨v11, s12, h_v11, h⟩ := bnd_s h
      refine callV_i (rest := []) C0 hml hE (Pool_rec C0 hE) (c_Pool_make l D g hR i_p2 lit_0 lit_0 h_v11) kw_X0_76 (by simp only [rmk, RD]; omega) rfl hl.1 rfl (Nat.le_of_ble_eq_true rfl) dX0_pushed_8 ⟨Nat.zero_le _, Nat.zero_le _⟩ (fun H locs hE ⟨i_v11, hR⟩ => ?_)
      exact ret_i (wf := wE g) C0 hr hlk hE h i_v11 hR dX0_pushed_11
set_option maxRecDepth 100000 in
set_option maxHeartbeats 4000000 in
theorem c_Pool_put (l : Launch) (D : va_G) (g : Ad) {σ σr : St} {p1 p2 p3 p4 r : Int} (hR : R32 σ) (i_p1 : in32 p1) (i_p2 : in32 p2) (i_p3 : in32 p3) (i_p4 : in32 p4) (h : Pool_put σ p1 p2 p3 p4 = some (r, σr)) : CtI l D g yX0_put cX0_put 5 (some .int) 16 (wE g σ) (wE g σr) [.ref (g.2 1), .int (I p1), .int (I p2), .int (I p3), .int (I p4)] r (in32 r ∧ R32 σr) := by
  intro sz
  refine met_of (by decide) (Nat.le_of_ble_eq_true rfl) (fun p e s m args below meth c ls H locs C0 hml hr hlk hE hl => ?_)
  have C0 : CX p c cX0_put m s args D g RX0 := C0
  have hl : lv_has ls 5 [(0, .ref (g.2 1)), (1, .int (I p1)), (2, .int (I p2)), (3, .int (I p3)), (4, .int (I p4))] := hl
  unfold Pool_put at h
  refine lv_iload C0.1 C0.2.1 dX0_put_0 (lv_at hl 4 rfl) ?_
  by_cases q1 : p4 = 0
  · have h := ite_t q1 h
    refine x_look (tgt := 28) C0 i_p4 dX0_put_2 (by decide) (by rw [q1] <;> rfl) (by decide) ?_
    refine lv_aload_n C0.1 C0.2.1 dX0_put_28 rfl (lv_at hl 0 rfl) ?_
    refine lv_iload_n C0.1 C0.2.1 dX0_put_29 rfl (lv_at hl 1 rfl) ?_
    refine lv_iload_n C0.1 C0.2.1 dX0_put_30 rfl (lv_at hl 2 rfl) ?_
    refine lv_iload_n C0.1 C0.2.1 dX0_put_31 rfl (lv_at hl 3 rfl) ?_
    obtain ⟨v2, s3, h_v2, h⟩ := bnd_s h
    refine callS_i (rest := []) C0 hml hE (c_Pool_fronted l D g RD hR i_p1 i_p2 i_p3 h_v2) kw_X0_99 ⟨Nat.le_of_ble_eq_true rfl, Nat.le_of_ble_eq_true rfl⟩ rfl hl.1 rfl (Nat.le_of_ble_eq_true rfl) dX0_put_32 ⟨Nat.zero_le _, Nat.zero_le _⟩ (fun H locs hE ⟨i_v2, hR⟩ => ?_)
    exact ret_i (wf := wE g) C0 hr hlk hE h i_v2 hR dX0_put_35
  have h := ite_f q1 h
  by_cases q4 : p4 = 1
  · have h := ite_t q4 h
    refine x_look (tgt := 36) C0 i_p4 dX0_put_2 (by decide) (by rw [q4] <;> rfl) (by decide) ?_
    refine lv_aload_n C0.1 C0.2.1 dX0_put_36 rfl (lv_at hl 0 rfl) ?_
    refine lv_iload_n C0.1 C0.2.1 dX0_put_37 rfl (lv_at hl 1 rfl) ?_
    refine lv_iload_n C0.1 C0.2.1 dX0_put_38 rfl (lv_at hl 2 rfl) ?_
    refine lv_iload_n C0.1 C0.2.1 dX0_put_39 rfl (lv_at hl 3 rfl) ?_
    obtain ⟨v5, s6, h_v5, h⟩ := bnd_s h
    refine callS_i (rest := []) C0 hml hE (c_Pool_backed l D g RD hR i_p1 i_p2 i_p3 h_v5) kw_X0_103 ⟨Nat.le_of_ble_eq_true rfl, Nat.le_of_ble_eq_true rfl⟩ rfl hl.1 rfl (Nat.le_of_ble_eq_true rfl) dX0_put_40 ⟨Nat.zero_le _, Nat.zero_le _⟩ (fun H locs hE ⟨i_v5, hR⟩ => ?_)
    exact ret_i (wf := wE g) C0 hr hlk hE h i_v5 hR dX0_put_43
  have h := ite_f q4 h
  refine x_look (tgt := 44) (off := 42) C0 i_p4 dX0_put_2 (by decide) (by simp [Op.lookupswitch.offset, q1, q4]; omega) (by decide) ?_
  refine lv_aload_n C0.1 C0.2.1 dX0_put_44 rfl (lv_at hl 0 rfl) ?_
  refine lv_iload_n C0.1 C0.2.1 dX0_put_45 rfl (lv_at hl 1 rfl) ?_
  refine lv_iload_n C0.1 C0.2.1 dX0_put_46 rfl (lv_at hl 2 rfl) ?_
  refine lv_iload_n C0.1 C0.2.1 dX0_put_47 rfl (lv_at hl 3 rfl) ?_
  obtain ⟨v7, s8, h_v7, h⟩ := bnd_s h
  refine callS_i (rest := []) C0 hml hE (c_Pool_pushed l D g RD hR i_p1 i_p2 i_p3 h_v7) kw_X0_106 ⟨Nat.le_of_ble_eq_true rfl, Nat.le_of_ble_eq_true rfl⟩ rfl hl.1 rfl (Nat.le_of_ble_eq_true rfl) dX0_put_48 ⟨Nat.zero_le _, Nat.zero_le _⟩ (fun H locs hE ⟨i_v7, hR⟩ => ?_)
  exact ret_i (wf := wE g) C0 hr hlk hE h i_v7 hR dX0_put_51
set_option maxRecDepth 100000 in
set_option maxHeartbeats 4000000 in
theorem c_E_putOne (l : Launch) (D : va_G) (g : Ad) {σ σr : St} {p1 p2 p3 p4 r : Int} (hR : R32 σ) (i_p1 : in32 p1) (i_p2 : in32 p2) (i_p3 : in32 p3) (i_p4 : in32 p4) (h : E_putOne σ p1 p2 p3 p4 = some (r, σr)) : CtI l D g yX7_putOne cX7_putOne 6 (some .int) 17 (wE g σ) (wE g σr) [.ref (g.2 0), .int (I p1), .int (I p2), .int (I p3), .int (I p4)] r (in32 r ∧ R32 σr) := by
  intro sz
  refine met_of (by decide) (Nat.le_of_ble_eq_true rfl) (fun p e s m args below meth c ls H locs C0 hml hr hlk hE hl => ?_)
  have C0 : CX p c cX7_putOne m s args D g RX7 := C0
  have hl : lv_has ls 6 [(0, .ref (g.2 0)), (1, .int (I p1)), (2, .int (I p2)), (3, .int (I p3)), (4, .int (I p4))] := hl
  unfold E_putOne at h
  refine lv_iload_n C0.1 C0.2.1 dX7_putOne_0 rfl (lv_at hl 1 rfl) ?_
  obtain ⟨v1, h_v1, h⟩ := bndp_s h
  refine callS_i (rest := []) C0 hml hE (c_E_isPlace l D g (σ := σ) i_p1 h_v1) kw_X7_86 ⟨Nat.le_of_ble_eq_true rfl, Nat.le_of_ble_eq_true rfl⟩ rfl hl.1 rfl (Nat.le_of_ble_eq_true rfl) dX7_putOne_1 ⟨Nat.zero_le _, Nat.zero_le _⟩ (fun H locs hE i_v1 => ?_)
  refine x_if_eq C0 i_v1 dX7_putOne_4 (tgt := 21) (by decide) (fun c9 => ?_) (fun c9 => ?_)
  · have h := ite_t c9 h
    refine lv_iconst (v := I (-1)) C0.1 C0.2.1 dX7_putOne_21 rfl ?_
    exact ret_i (wf := wE g) C0 hr hlk hE h lit_m1 hR dX7_putOne_22
  · have h := ite_f c9 h
    refine lv_iload_n C0.1 C0.2.1 dX7_putOne_7 rfl (lv_at hl 2 rfl) ?_
    obtain ⟨v2, h_v2, h⟩ := bndp_s h
    refine callS_i (rest := []) C0 hml hE (c_E_isNumber l D g (σ := σ) i_p2 h_v2) kw_X7_117 ⟨Nat.le_of_ble_eq_true rfl, Nat.le_of_ble_eq_true rfl⟩ rfl hl.1 rfl (Nat.le_of_ble_eq_true rfl) dX7_putOne_8 ⟨Nat.zero_le _, Nat.zero_le _⟩ (fun H locs hE i_v2 => ?_)
    refine x_if_eq C0 i_v2 dX7_putOne_11 (tgt := 21) (by decide) (fun c9 => ?_) (fun c9 => ?_)
    · have h := ite_t c9 h
      refine lv_iconst (v := I (-1)) C0.1 C0.2.1 dX7_putOne_21 rfl ?_
      exact ret_i (wf := wE g) C0 hr hlk hE h lit_m1 hR dX7_putOne_22
    · have h := ite_f c9 h
      refine lv_iload_n C0.1 C0.2.1 dX7_putOne_14 rfl (lv_at hl 3 rfl) ?_
      obtain ⟨v3, h_v3, h⟩ := bndp_s h
      refine callS_i (rest := []) C0 hml hE (c_E_isPlace l D g (σ := σ) i_p3 h_v3) kw_X7_86 ⟨Nat.le_of_ble_eq_true rfl, Nat.le_of_ble_eq_true rfl⟩ rfl hl.1 rfl (Nat.le_of_ble_eq_true rfl) dX7_putOne_15 ⟨Nat.zero_le _, Nat.zero_le _⟩ (fun H locs hE i_v3 => ?_)
      refine x_if_ne C0 i_v3 dX7_putOne_18 (tgt := 23) (by decide) (fun c9 => ?_) (fun c9 => ?_)
      · have h := ite_f c9 h
        refine lv_aload_n C0.1 C0.2.1 dX7_putOne_23 rfl (lv_at hl 0 rfl) ?_
        refine E_g_sizes C0 hE fk_X7_53 dX7_putOne_24 ?_
        refine lv_iload_n C0.1 C0.2.1 dX7_putOne_27 rfl (lv_at hl 1 rfl) ?_
        obtain ⟨v4, e_v4, i_v4, h⟩ := rd_s hR h
        refine E_sizes_l C0 hE i_p1 e_v4 dX7_putOne_28 ?_
        refine lv_sipush (v := I 255) C0.1 C0.2.1 dX7_putOne_29 (by decide +kernel) ?_
        refine x_icmp_ne C0 i_v4 lit_255 dX7_putOne_32 (tgt := 38) (by decide) (fun c9 => ?_) (fun c9 => ?_)
        · have h := ite_f c9 h
          refine lv_aload_n C0.1 C0.2.1 dX7_putOne_38 rfl (lv_at hl 0 rfl) ?_
          obtain ⟨v5, s6, h_v5, h⟩ := bnd_s h
          refine callV_i (rest := []) C0 hml hE (E_rec C0 hE) (c_E_begin l D g hR h_v5) kw_X7_120 ⟨Nat.le_of_ble_eq_true rfl, Nat.le_of_ble_eq_true rfl⟩ rfl hl.1 rfl (Nat.le_of_ble_eq_true rfl) dX7_putOne_39 ⟨Nat.zero_le _, Nat.zero_le _⟩ (fun H locs hE ⟨i_v5, hR⟩ => ?_)
          refine lv_istore (lv' := [(5, .int (I v5)), (0, .ref (g.2 0)), (1, .int (I p1)), (2, .int (I p2)), (3, .int (I p3)), (4, .int (I p4))]) C0.1 C0.2.1 dX7_putOne_42 hl (by decide) rfl (fun ls hl => ?_)
          refine lv_aload_n C0.1 C0.2.1 dX7_putOne_44 rfl (lv_at hl 1 rfl) ?_
          refine lv_iload_n C0.1 C0.2.1 dX7_putOne_45 rfl (lv_at hl 4 rfl) ?_
          refine lv_aload_n C0.1 C0.2.1 dX7_putOne_46 rfl (lv_at hl 1 rfl) ?_
          refine E_g_pool C0 hE fk_X7_10 dX7_putOne_47 ?_
          refine lv_iload_n C0.1 C0.2.1 dX7_putOne_50 rfl (lv_at hl 3 rfl) ?_
          refine lv_aload_n C0.1 C0.2.1 dX7_putOne_51 rfl (lv_at hl 1 rfl) ?_
          refine E_g_trees C0 hE fk_X7_49 dX7_putOne_52 ?_
          refine lv_iload_n C0.1 C0.2.1 dX7_putOne_55 rfl (lv_at hl 2 rfl) ?_
          obtain ⟨v7, e_v7, i_v7, h⟩ := rd_s hR h
          refine E_trees_l C0 hE i_p1 e_v7 dX7_putOne_56 ?_
          refine lv_aload_n C0.1 C0.2.1 dX7_putOne_57 rfl (lv_at hl 1 rfl) ?_
          refine E_g_sizes C0 hE fk_X7_53 dX7_putOne_58 ?_
          refine lv_iload_n C0.1 C0.2.1 dX7_putOne_61 rfl (lv_at hl 2 rfl) ?_
          obtain ⟨v8, e_v8, i_v8, h⟩ := rd_s hR h
          refine E_sizes_l C0 hE i_p1 e_v8 dX7_putOne_62 ?_
          refine lv_iload C0.1 C0.2.1 dX7_putOne_63 (lv_at hl 5 rfl) ?_
          obtain ⟨v9, s10, h_v9, h⟩ := bnd_s h
          refine callV_i (rest := [.int (I p3), .ref (g.2 0)]) C0 hml hE (Pool_rec C0 hE) (c_Pool_put l D g hR i_p2 i_v7 i_v8 i_p4 h_v9) kw_X7_222 ⟨Nat.le_of_ble_eq_true rfl, Nat.le_of_ble_eq_true rfl⟩ rfl hl.1 rfl (Nat.le_of_ble_eq_true rfl) dX7_putOne_65 ⟨Nat.zero_le _, Nat.zero_le _⟩ (fun H locs hE ⟨i_v9, hR⟩ => ?_)
          refine lv_aload_n C0.1 C0.2.1 dX7_putOne_68 rfl (lv_at hl 1 rfl) ?_
          refine E_g_sizes C0 hE fk_X7_53 dX7_putOne_69 ?_
          refine lv_iload_n C0.1 C0.2.1 dX7_putOne_72 rfl (lv_at hl 2 rfl) ?_
          obtain ⟨v11, e_v11, i_v11, h⟩ := rd_s hR h
          refine E_sizes_l C0 hE i_p1 e_v11 dX7_putOne_73 ?_
          refine lv_iconst (v := I 1) C0.1 C0.2.1 dX7_putOne_74 rfl ?_
          obtain ⟨v12, e_v12, i_v12, h⟩ := oadd_s h
          refine x_add C0 e_v12 dX7_putOne_75 ?_
          obtain ⟨v13, s14, h_v13, h⟩ := bnd_s h
          refine callV_i (rest := []) C0 hml hE (E_rec C0 hE) (c_E_keep l D g hR i_p3 i_v9 i_v12 h_v13) kw_X7_126 ⟨Nat.le_of_ble_eq_true rfl, Nat.le_of_ble_eq_true rfl⟩ rfl hl.1 rfl (Nat.le_of_ble_eq_true rfl) dX7_putOne_76 ⟨Nat.zero_le _, Nat.zero_le _⟩ (fun H locs hE ⟨i_v13, hR⟩ => ?_)
          refine lv_pop C0.1 C0.2.1 dX7_putOne_79 rfl ?_
          refine lv_aload_n C0.1 C0.2.1 dX7_putOne_80 rfl (lv_at hl 1 rfl) ?_
          refine E_g_pool C0 hE fk_X7_10 dX7_putOne_81 ?_
          obtain ⟨v15, e_v15, i_v15, h⟩ := gf_s hR h
          refine Pool_n_made C0 hE e_v15 nk_X7_130 dX7_putOne_84 ?_
          refine lv_iload C0.1 C0.2.1 dX7_putOne_87 (lv_at hl 0 rfl) ?_
          obtain ⟨v16, e_v16, i_v16, h⟩ := osub_s h
          refine x_sub C0 e_v16 dX7_putOne_89 ?_
          exact ret_i (wf := wE g) C0 hr hlk hE h i_v16 hR dX7_putOne_90
        · have h := ite_t c9 h
          refine lv_bipush (v := I (-2)) C0.1 C0.2.1 dX7_putOne_35 (by decide +kernel) ?_
          exact ret_i (wf := wE g) C0 hr hlk hE h lit_m2 hR dX7_putOne_37
      · have h := ite_t c9 h
        refine lv_iconst (v := I (-1)) C0.1 C0.2.1 dX7_putOne_21 rfl ?_
        exact ret_i (wf := wE g) C0 hr hlk hE h lit_m1 hR dX7_putOne_22
set_option maxRecDepth 100000 in
set_option maxHeartbeats 4000000 in
theorem c_E_front (l : Launch) (D : va_G) (g : Ad) {σ σr : St} {p1 p2 p3 r : Int} (hR : R32 σ) (i_p1 : in32 p1) (i_p2 : in32 p2) (i_p3 : in32 p3) (h : E_front σ p1 p2 p3 = some (r, σr)) : CtI l D g yX7_front cX7_front 4 (some .int) 18 (wE g σ) (wE g σr) [.ref (g.2 0), .int (I p1), .int (I p2), .int (I p3)] r (in32 r ∧ R32 σr) := by
  intro sz
  refine met_of (by decide) (Nat.le_of_ble_eq_true rfl) (fun p e s m args below meth c ls H locs C0 hml hr hlk hE hl => ?_)
  have C0 : CX p c cX7_front m s args D g RX7 := C0
  have hl : lv_has ls 4 [(0, .ref (g.2 0)), (1, .int (I p1)), (2, .int (I p2)), (3, .int (I p3))] := hl
  unfold E_front at h
  refine lv_aload_n C0.1 C0.2.1 dX7_front_0 rfl (lv_at hl 0 rfl) ?_
  refine lv_iload_n C0.1 C0.2.1 dX7_front_1 rfl (lv_at hl 1 rfl) ?_
  refine lv_iload_n C0.1 C0.2.1 dX7_front_2 rfl (lv_at hl 2 rfl) ?_
  refine lv_iload_n C0.1 C0.2.1 dX7_front_3 rfl (lv_at hl 3 rfl) ?_
  refine lv_iconst (v := I 0) C0.1 C0.2.1 dX7_front_4 rfl ?_
  obtain ⟨v1, s2, h_v1, h⟩ := bnd_s h
  refine callV_i (rest := []) C0 hml hE (E_rec C0 hE) (c_E_putOne l D g hR i_p1 i_p2 i_p3 lit_0 h_v1) kw_X7_187 ⟨Nat.le_of_ble_eq_true rfl, Nat.le_of_ble_eq_true rfl⟩ rfl hl.1 rfl (Nat.le_of_ble_eq_true rfl) dX7_front_5 ⟨Nat.zero_le _, Nat.zero_le _⟩ (fun H locs hE ⟨i_v1, hR⟩ => ?_)
  exact ret_i (wf := wE g) C0 hr hlk hE h i_v1 hR dX7_front_8
set_option maxRecDepth 100000 in
set_option maxHeartbeats 4000000 in
theorem c_E_back (l : Launch) (D : va_G) (g : Ad) {σ σr : St} {p1 p2 p3 r : Int} (hR : R32 σ) (i_p1 : in32 p1) (i_p2 : in32 p2) (i_p3 : in32 p3) (h : E_back σ p1 p2 p3 = some (r, σr)) : CtI l D g yX7_back cX7_back 4 (some .int) 18 (wE g σ) (wE g σr) [.ref (g.2 0), .int (I p1), .int (I p2), .int (I p3)] r (in32 r ∧ R32 σr) := by
  intro sz
  refine met_of (by decide) (Nat.le_of_ble_eq_true rfl) (fun p e s m args below meth c ls H locs C0 hml hr hlk hE hl => ?_)
  have C0 : CX p c cX7_back m s args D g RX7 := C0
  have hl : lv_has ls 4 [(0, .ref (g.2 0)), (1, .int (I p1)), (2, .int (I p2)), (3, .int (I p3))] := hl
  unfold E_back at h
  refine lv_aload_n C0.1 C0.2.1 dX7_back_0 rfl (lv_at hl 0 rfl) ?_
  refine lv_iload_n C0.1 C0.2.1 dX7_back_1 rfl (lv_at hl 1 rfl) ?_
  refine lv_iload_n C0.1 C0.2.1 dX7_back_2 rfl (lv_at hl 2 rfl) ?_
  refine lv_iload_n C0.1 C0.2.1 dX7_back_3 rfl (lv_at hl 3 rfl) ?_
  refine lv_iconst (v := I 1) C0.1 C0.2.1 dX7_back_4 rfl ?_
  obtain ⟨v1, s2, h_v1, h⟩ := bnd_s h
  refine callV_i (rest := []) C0 hml hE (E_rec C0 hE) (c_E_putOne l D g hR i_p1 i_p2 i_p3 lit_1 h_v1) kw_X7_187 ⟨Nat.le_of_ble_eq_true rfl, Nat.le_of_ble_eq_true rfl⟩ rfl hl.1 rfl (Nat.le_of_ble_eq_true rfl) dX7_back_5 ⟨Nat.zero_le _, Nat.zero_le _⟩ (fun H locs hE ⟨i_v1, hR⟩ => ?_)
  exact ret_i (wf := wE g) C0 hr hlk hE h i_v1 hR dX7_back_8
set_option maxRecDepth 100000 in
set_option maxHeartbeats 4000000 in
theorem c_Pool_firstGone (l : Launch) (D : va_G) (g : Ad) : ∀ (d : Nat) {σ σr : St} {p2 p3 r : Int} (hR : R32 σ) (i_p2 : in32 p2) (i_p3 : in32 p3) (h : Pool_firstGone d σ p2 p3 = some (r, σr)), CtI l D g yX0_firstGone cX0_firstGone 5 (some .int) (3 + d) (wE g σ) (wE g σr) [.ref (g.2 1), .int (I p2), .int (I p3)] r (in32 r ∧ R32 σr) := by
  intro d
  induction d with
  | zero => intros; rename_i h; cases h
  | succ d ih =>
    intro σ σr p2 p3 r hR i_p2 i_p3 h sz
    refine met_of (by decide) (Nat.le_of_ble_eq_true rfl) (fun p e s m args below meth c ls H locs C0 hml hr hlk hE hl => ?_)
    have C0 : CX p c cX0_firstGone m s args D g RX0 := C0
    have hl : lv_has ls 5 [(0, .ref (g.2 1)), (1, .int (I p2)), (2, .int (I p3))] := hl
    unfold Pool_firstGone at h
    refine lv_iload_n C0.1 C0.2.1 dX0_firstGone_0 rfl (lv_at hl 2 rfl) ?_
    refine lv_iconst (v := I 1) C0.1 C0.2.1 dX0_firstGone_1 rfl ?_
    refine x_icmp_gt C0 i_p3 lit_1 dX0_firstGone_2 (tgt := 7) (by decide) (fun c9 => ?_) (fun c9 => ?_)
    · have h := ite_t c9 h
      refine lv_aload_n C0.1 C0.2.1 dX0_firstGone_7 rfl (lv_at hl 0 rfl) ?_
      refine lv_iload_n C0.1 C0.2.1 dX0_firstGone_8 rfl (lv_at hl 1 rfl) ?_
      obtain ⟨v1, h_v1, h⟩ := bndp_s h
      refine callV_i (rest := []) C0 hml hE (Pool_rec C0 hE) (c_Pool_leftOf l D g hR i_p2 h_v1) kw_X0_57 (by simp only [rmk, RD]; omega) rfl hl.1 rfl (Nat.le_of_ble_eq_true rfl) dX0_firstGone_9 ⟨Nat.zero_le _, Nat.zero_le _⟩ (fun H locs hE i_v1 => ?_)
      refine lv_istore_n (lv' := [(3, .int (I v1)), (0, .ref (g.2 1)), (1, .int (I p2)), (2, .int (I p3))]) C0.1 C0.2.1 dX0_firstGone_12 rfl hl (by decide) rfl (fun ls hl => ?_)
      refine lv_aload_n C0.1 C0.2.1 dX0_firstGone_13 rfl (lv_at hl 1 rfl) ?_
      refine lv_iload_n C0.1 C0.2.1 dX0_firstGone_14 rfl (lv_at hl 0 rfl) ?_
      refine lv_iload_n C0.1 C0.2.1 dX0_firstGone_15 rfl (lv_at hl 3 rfl) ?_
      obtain ⟨v2, h_v2, h⟩ := bndp_s h
      refine callS_i (rest := [.int (I v1), .ref (g.2 1)]) C0 hml hE (c_Shape_leftSize l D g (σ := σ) i_p3 h_v2) kw_X0_126 (by simp only [rmk, RD]; omega) rfl hl.1 rfl (Nat.le_of_ble_eq_true rfl) dX0_firstGone_16 ⟨Nat.zero_le _, Nat.zero_le _⟩ (fun H locs hE i_v2 => ?_)
      obtain ⟨v3, s4, h_v3, h⟩ := bnd_s h
      refine callS_i (rest := []) C0 hml hE (ih hR i_v1 i_v2 h_v3) kw_X0_113 (by simp only [rmk, RD]; omega) rfl hl.1 rfl (Nat.le_of_ble_eq_true rfl) dX0_firstGone_19 ⟨Nat.zero_le _, Nat.zero_le _⟩ (fun H locs hE ⟨i_v3, hR⟩ => ?_)
      refine lv_istore (lv' := [(4, .int (I v3)), (3, .int (I v1)), (0, .ref (g.2 1)), (1, .int (I p2)), (2, .int (I p3))]) C0.1 C0.2.1 dX0_firstGone_22 hl (by decide) rfl (fun ls hl => ?_)
      refine lv_aload_n C0.1 C0.2.1 dX0_firstGone_24 rfl (lv_at hl 2 rfl) ?_
      refine lv_aload_n C0.1 C0.2.1 dX0_firstGone_25 rfl (lv_at hl 2 rfl) ?_
      refine lv_iload_n C0.1 C0.2.1 dX0_firstGone_26 rfl (lv_at hl 1 rfl) ?_
      obtain ⟨v5, h_v5, h⟩ := bndp_s h
      refine callV_i (rest := [.ref (g.2 1)]) C0 hml hE (Pool_rec C0 hE) (c_Pool_numberOf l D g hR i_v1 h_v5) kw_X0_64 (by simp only [rmk, RD]; omega) rfl hl.1 rfl (Nat.le_of_ble_eq_true rfl) dX0_firstGone_27 ⟨Nat.zero_le _, Nat.zero_le _⟩ (fun H locs hE i_v5 => ?_)
      refine lv_aload_n C0.1 C0.2.1 dX0_firstGone_30 rfl (lv_at hl 2 rfl) ?_
      refine lv_iload_n C0.1 C0.2.1 dX0_firstGone_31 rfl (lv_at hl 3 rfl) ?_
      obtain ⟨v6, h_v6, h⟩ := bndp_s h
      refine callV_i (rest := [.int (I v5), .ref (g.2 1)]) C0 hml hE (Pool_rec C0 hE) (c_Pool_rightOf l D g hR i_p2 h_v6) kw_X0_61 (by simp only [rmk, RD]; omega) rfl hl.1 rfl (Nat.le_of_ble_eq_true rfl) dX0_firstGone_32 ⟨Nat.zero_le _, Nat.zero_le _⟩ (fun H locs hE i_v6 => ?_)
      refine lv_iload C0.1 C0.2.1 dX0_firstGone_35 (lv_at hl 0 rfl) ?_
      obtain ⟨v7, s8, h_v7, h⟩ := bnd_s h
      refine callV_i (rest := []) C0 hml hE (Pool_rec C0 hE) (c_Pool_make l D g hR i_v5 i_v6 i_v3 h_v7) kw_X0_76 (by simp only [rmk, RD]; omega) rfl hl.1 rfl (Nat.le_of_ble_eq_true rfl) dX0_firstGone_37 ⟨Nat.zero_le _, Nat.zero_le _⟩ (fun H locs hE ⟨i_v7, hR⟩ => ?_)
      exact ret_i (wf := wE g) C0 hr hlk hE h i_v7 hR dX0_firstGone_40
    · have h := ite_f c9 h
      refine lv_iconst (v := I 0) C0.1 C0.2.1 dX0_firstGone_5 rfl ?_
      exact ret_i (wf := wE g) C0 hr hlk hE h lit_0 hR dX0_firstGone_6
set_option maxRecDepth 100000 in
set_option maxHeartbeats 4000000 in
theorem c_Pool_lastGone (l : Launch) (D : va_G) (g : Ad) : ∀ (d : Nat) {σ σr : St} {p2 p3 r : Int} (hR : R32 σ) (i_p2 : in32 p2) (i_p3 : in32 p3) (h : Pool_lastGone d σ p2 p3 = some (r, σr)), CtI l D g yX0_lastGone cX0_lastGone 5 (some .int) (3 + d) (wE g σ) (wE g σr) [.ref (g.2 1), .int (I p2), .int (I p3)] r (in32 r ∧ R32 σr) := by
  intro d
  induction d with
  | zero => intros; rename_i h; cases h
  | succ d ih =>
    intro σ σr p2 p3 r hR i_p2 i_p3 h sz
    refine met_of (by decide) (Nat.le_of_ble_eq_true rfl) (fun p e s m args below meth c ls H locs C0 hml hr hlk hE hl => ?_)
    have C0 : CX p c cX0_lastGone m s args D g RX0 := C0
    have hl : lv_has ls 5 [(0, .ref (g.2 1)), (1, .int (I p2)), (2, .int (I p3))] := hl
    unfold Pool_lastGone at h
    refine lv_iload_n C0.1 C0.2.1 dX0_lastGone_0 rfl (lv_at hl 2 rfl) ?_
    refine lv_iconst (v := I 1) C0.1 C0.2.1 dX0_lastGone_1 rfl ?_
    refine x_icmp_gt C0 i_p3 lit_1 dX0_lastGone_2 (tgt := 7) (by decide) (fun c9 => ?_) (fun c9 => ?_)
    · have h := ite_t c9 h
      refine lv_aload_n C0.1 C0.2.1 dX0_lastGone_7 rfl (lv_at hl 0 rfl) ?_
      refine lv_iload_n C0.1 C0.2.1 dX0_lastGone_8 rfl (lv_at hl 1 rfl) ?_
      obtain ⟨v1, h_v1, h⟩ := bndp_s h
      refine callV_i (rest := []) C0 hml hE (Pool_rec C0 hE) (c_Pool_leftOf l D g hR i_p2 h_v1) kw_X0_57 (by simp only [rmk, RD]; omega) rfl hl.1 rfl (Nat.le_of_ble_eq_true rfl) dX0_lastGone_9 ⟨Nat.zero_le _, Nat.zero_le _⟩ (fun H locs hE i_v1 => ?_)
      refine lv_istore_n (lv' := [(3, .int (I v1)), (0, .ref (g.2 1)), (1, .int (I p2)), (2, .int (I p3))]) C0.1 C0.2.1 dX0_lastGone_12 rfl hl (by decide) rfl (fun ls hl => ?_)
      refine lv_aload_n C0.1 C0.2.1 dX0_lastGone_13 rfl (lv_at hl 1 rfl) ?_
      refine lv_iload_n C0.1 C0.2.1 dX0_lastGone_14 rfl (lv_at hl 2 rfl) ?_
      obtain ⟨v2, h_v2, h⟩ := bndp_s h
      refine callV_i (rest := []) C0 hml hE (Pool_rec C0 hE) (c_Pool_rightOf l D g hR i_p2 h_v2) kw_X0_61 (by simp only [rmk, RD]; omega) rfl hl.1 rfl (Nat.le_of_ble_eq_true rfl) dX0_lastGone_15 ⟨Nat.zero_le _, Nat.zero_le _⟩ (fun H locs hE i_v2 => ?_)
      refine lv_istore (lv' := [(4, .int (I v2)), (3, .int (I v1)), (0, .ref (g.2 1)), (1, .int (I p2)), (2, .int (I p3))]) C0.1 C0.2.1 dX0_lastGone_18 hl (by decide) rfl (fun ls hl => ?_)
      refine lv_iload_n C0.1 C0.2.1 dX0_lastGone_20 rfl (lv_at hl 4 rfl) ?_
      refine lv_iconst (v := I 2) C0.1 C0.2.1 dX0_lastGone_21 rfl ?_
      obtain ⟨v3, e_v3, i_v3, h⟩ := orem_s lit_2 h
      refine x_rem C0 i_p3 lit_2 e_v3 dX0_lastGone_22 ?_
      obtain ⟨k7, e_k7, h⟩ := jn_s h
      have h_k7 : ∀ (s4 : St) (hR : R32 s4) (x5 : Int) (i_x5 : in32 x5) (x6 : Int) (i_x6 : in32 x6) (H : Heap) (locs : List Loc) (ls : Array Slot), EW D (va_A (wE g σ) sz) s.heap (wE g s4) H locs → lv_has ls 5 [(0, .ref (g.2 1)), (1, .int (I p2)), (3, .int (I x5)), (4, .int (I x6))] → k7 s4 x5 x6 = some (r, σr) → W p l e (rmk (3 + (d + 1))) s m args below meth c H locs 0 0 (MQ below (QCi D (wE g σr) r (in32 r ∧ R32 σr) (va_A (wE g σ) sz)) args s 0 0 (va_A (wE g σ) sz)) (F0 m 51 ls []) := by
        intro s4 hR x5 i_x5 x6 i_x6 H locs ls hE hl h
        have h := (congrFun (congrFun (congrFun e_k7 s4) x5) x6).symm.trans h
        refine lv_aload_n C0.1 C0.2.1 dX0_lastGone_51 rfl (lv_at hl 0 rfl) ?_
        refine lv_aload_n C0.1 C0.2.1 dX0_lastGone_52 rfl (lv_at hl 0 rfl) ?_
        refine lv_iload_n C0.1 C0.2.1 dX0_lastGone_53 rfl (lv_at hl 1 rfl) ?_
        obtain ⟨v8, h_v8, h⟩ := bndp_s h
        refine callV_i (rest := [.ref (g.2 1)]) C0 hml hE (Pool_rec C0 hE) (c_Pool_numberOf l D g hR i_p2 h_v8) kw_X0_64 (by simp only [rmk, RD]; omega) rfl hl.1 rfl (Nat.le_of_ble_eq_true rfl) dX0_lastGone_54 ⟨Nat.zero_le _, Nat.zero_le _⟩ (fun H locs hE i_v8 => ?_)
        refine lv_iload_n C0.1 C0.2.1 dX0_lastGone_57 rfl (lv_at hl 2 rfl) ?_
        refine lv_iload C0.1 C0.2.1 dX0_lastGone_58 (lv_at hl 3 rfl) ?_
        obtain ⟨v9, s10, h_v9, h⟩ := bnd_s h
        refine callV_i (rest := []) C0 hml hE (Pool_rec C0 hE) (c_Pool_make l D g hR i_v8 i_x5 i_x6 h_v9) kw_X0_76 (by simp only [rmk, RD]; omega) rfl hl.1 rfl (Nat.le_of_ble_eq_true rfl) dX0_lastGone_60 ⟨Nat.zero_le _, Nat.zero_le _⟩ (fun H locs hE ⟨i_v9, hR⟩ => ?_)
        exact ret_i (wf := wE g) C0 hr hlk hE h i_v9 hR dX0_lastGone_63
      refine x_if_ne C0 i_v3 dX0_lastGone_23 (tgt := 39) (by decide) (fun c9 => ?_) (fun c9 => ?_)
      · have h := ite_f c9 h
        refine lv_aload_n C0.1 C0.2.1 dX0_lastGone_39 rfl (lv_at hl 2 rfl) ?_
        refine lv_iload C0.1 C0.2.1 dX0_lastGone_40 (lv_at hl 0 rfl) ?_
        refine lv_iload_n C0.1 C0.2.1 dX0_lastGone_42 rfl (lv_at hl 4 rfl) ?_
        obtain ⟨v11, h_v11, h⟩ := bndp_s h
        refine callS_i (rest := [.int (I v2), .ref (g.2 1)]) C0 hml hE (c_Shape_rightSize l D g (σ := σ) i_p3 h_v11) kw_X0_136 (by simp only [rmk, RD]; omega) rfl hl.1 rfl (Nat.le_of_ble_eq_true rfl) dX0_lastGone_43 ⟨Nat.zero_le _, Nat.zero_le _⟩ (fun H locs hE i_v11 => ?_)
        obtain ⟨v12, s13, h_v12, h⟩ := bnd_s h
        refine callS_i (rest := []) C0 hml hE (ih hR i_v2 i_v11 h_v12) kw_X0_117 (by simp only [rmk, RD]; omega) rfl hl.1 rfl (Nat.le_of_ble_eq_true rfl) dX0_lastGone_46 ⟨Nat.zero_le _, Nat.zero_le _⟩ (fun H locs hE ⟨i_v12, hR⟩ => ?_)
        refine lv_istore (lv' := [(4, .int (I v12)), (3, .int (I v1)), (0, .ref (g.2 1)), (1, .int (I p2)), (2, .int (I p3))]) C0.1 C0.2.1 dX0_lastGone_49 hl (by decide) rfl (fun ls hl => ?_)
        exact h_k7 s13 hR v1 i_v1 v12 i_v12 _ _ _ hE (lv_sub hl [2, 3, 1, 0] rfl) h
      · have h := ite_t c9 h
        refine lv_aload_n C0.1 C0.2.1 dX0_lastGone_26 rfl (lv_at hl 2 rfl) ?_
        refine lv_iload_n C0.1 C0.2.1 dX0_lastGone_27 rfl (lv_at hl 1 rfl) ?_
        refine lv_iload_n C0.1 C0.2.1 dX0_lastGone_28 rfl (lv_at hl 4 rfl) ?_
        obtain ⟨v14, h_v14, h⟩ := bndp_s h
        refine callS_i (rest := [.int (I v1), .ref (g.2 1)]) C0 hml hE (c_Shape_leftSize l D g (σ := σ) i_p3 h_v14) kw_X0_126 (by simp only [rmk, RD]; omega) rfl hl.1 rfl (Nat.le_of_ble_eq_true rfl) dX0_lastGone_29 ⟨Nat.zero_le _, Nat.zero_le _⟩ (fun H locs hE i_v14 => ?_)
        obtain ⟨v15, s16, h_v15, h⟩ := bnd_s h
        refine callS_i (rest := []) C0 hml hE (ih hR i_v1 i_v14 h_v15) kw_X0_117 (by simp only [rmk, RD]; omega) rfl hl.1 rfl (Nat.le_of_ble_eq_true rfl) dX0_lastGone_32 ⟨Nat.zero_le _, Nat.zero_le _⟩ (fun H locs hE ⟨i_v15, hR⟩ => ?_)
        refine lv_istore_n (lv' := [(3, .int (I v15)), (4, .int (I v2)), (0, .ref (g.2 1)), (1, .int (I p2)), (2, .int (I p3))]) C0.1 C0.2.1 dX0_lastGone_35 rfl hl (by decide) rfl (fun ls hl => ?_)
        refine x_goto C0 dX0_lastGone_36 (tgt := 51) (by decide) ?_
        exact h_k7 s16 hR v15 i_v15 v2 i_v2 _ _ _ hE (lv_sub hl [2, 3, 0, 1] rfl) h
    · have h := ite_f c9 h
      refine lv_iconst (v := I 0) C0.1 C0.2.1 dX0_lastGone_5 rfl ?_
      exact ret_i (wf := wE g) C0 hr hlk hE h lit_0 hR dX0_lastGone_6
set_option maxRecDepth 100000 in
set_option maxHeartbeats 4000000 in
theorem c_Pool_take (l : Launch) (D : va_G) (g : Ad) {σ σr : St} {p1 p2 p3 r : Int} (hR : R32 σ) (i_p1 : in32 p1) (i_p2 : in32 p2) (i_p3 : in32 p3) (h : Pool_take σ p1 p2 p3 = some (r, σr)) : CtI l D g yX0_take cX0_take 4 (some .int) 16 (wE g σ) (wE g σr) [.ref (g.2 1), .int (I p1), .int (I p2), .int (I p3)] r (in32 r ∧ R32 σr) := by
  intro sz
  refine met_of (by decide) (Nat.le_of_ble_eq_true rfl) (fun p e s m args below meth c ls H locs C0 hml hr hlk hE hl => ?_)
  have C0 : CX p c cX0_take m s args D g RX0 := C0
  have hl : lv_has ls 4 [(0, .ref (g.2 1)), (1, .int (I p1)), (2, .int (I p2)), (3, .int (I p3))] := hl
  unfold Pool_take at h
  refine lv_iload_n C0.1 C0.2.1 dX0_take_0 rfl (lv_at hl 3 rfl) ?_
  refine lv_iconst (v := I 2) C0.1 C0.2.1 dX0_take_1 rfl ?_
  refine x_icmp_ne C0 i_p3 lit_2 dX0_take_2 (tgt := 14) (by decide) (fun c9 => ?_) (fun c9 => ?_)
  · have h := ite_f c9 h
    refine lv_aload_n C0.1 C0.2.1 dX0_take_14 rfl (lv_at hl 0 rfl) ?_
    refine lv_iload_n C0.1 C0.2.1 dX0_take_15 rfl (lv_at hl 1 rfl) ?_
    refine lv_iload_n C0.1 C0.2.1 dX0_take_16 rfl (lv_at hl 2 rfl) ?_
    obtain ⟨v1, s2, h_v1, h⟩ := bnd_s h
    refine callS_i (rest := []) C0 hml hE (c_Pool_lastGone l D g RD hR i_p1 i_p2 h_v1) kw_X0_117 ⟨Nat.le_of_ble_eq_true rfl, Nat.le_of_ble_eq_true rfl⟩ rfl hl.1 rfl (Nat.le_of_ble_eq_true rfl) dX0_take_17 ⟨Nat.zero_le _, Nat.zero_le _⟩ (fun H locs hE ⟨i_v1, hR⟩ => ?_)
    exact ret_i (wf := wE g) C0 hr hlk hE h i_v1 hR dX0_take_20
  · have h := ite_t c9 h
    refine lv_aload_n C0.1 C0.2.1 dX0_take_5 rfl (lv_at hl 0 rfl) ?_
    refine lv_iload_n C0.1 C0.2.1 dX0_take_6 rfl (lv_at hl 1 rfl) ?_
    refine lv_iload_n C0.1 C0.2.1 dX0_take_7 rfl (lv_at hl 2 rfl) ?_
    obtain ⟨v3, s4, h_v3, h⟩ := bnd_s h
    refine callS_i (rest := []) C0 hml hE (c_Pool_firstGone l D g RD hR i_p1 i_p2 h_v3) kw_X0_113 ⟨Nat.le_of_ble_eq_true rfl, Nat.le_of_ble_eq_true rfl⟩ rfl hl.1 rfl (Nat.le_of_ble_eq_true rfl) dX0_take_8 ⟨Nat.zero_le _, Nat.zero_le _⟩ (fun H locs hE ⟨i_v3, hR⟩ => ?_)
    refine x_goto C0 dX0_take_11 (tgt := 20) (by decide) ?_
    exact ret_i (wf := wE g) C0 hr hlk hE h i_v3 hR dX0_take_20
set_option maxRecDepth 100000 in
set_option maxHeartbeats 4000000 in
theorem c_E_takeOne (l : Launch) (D : va_G) (g : Ad) {σ σr : St} {p1 p2 p3 p4 r : Int} (hR : R32 σ) (i_p1 : in32 p1) (i_p2 : in32 p2) (i_p3 : in32 p3) (i_p4 : in32 p4) (h : E_takeOne σ p1 p2 p3 p4 = some (r, σr)) : CtI l D g yX7_takeOne cX7_takeOne 6 (some .int) 17 (wE g σ) (wE g σr) [.ref (g.2 0), .int (I p1), .int (I p2), .int (I p3), .int (I p4)] r (in32 r ∧ R32 σr) := by
  intro sz
  refine met_of (by decide) (Nat.le_of_ble_eq_true rfl) (fun p e s m args below meth c ls H locs C0 hml hr hlk hE hl => ?_)
  have C0 : CX p c cX7_takeOne m s args D g RX7 := C0
  have hl : lv_has ls 6 [(0, .ref (g.2 0)), (1, .int (I p1)), (2, .int (I p2)), (3, .int (I p3)), (4, .int (I p4))] := hl
  unfold E_takeOne at h
  refine lv_aload_n C0.1 C0.2.1 dX7_takeOne_0 rfl (lv_at hl 0 rfl) ?_
  refine E_g_told C0 hE fk_X7_19 dX7_takeOne_1 ?_
  refine lv_aload_n C0.1 C0.2.1 dX7_takeOne_4 rfl (lv_at hl 0 rfl) ?_
  refine E_g_pool C0 hE fk_X7_10 dX7_takeOne_5 ?_
  refine lv_aload_n C0.1 C0.2.1 dX7_takeOne_8 rfl (lv_at hl 0 rfl) ?_
  refine E_g_trees C0 hE fk_X7_49 dX7_takeOne_9 ?_
  refine lv_iload_n C0.1 C0.2.1 dX7_takeOne_12 rfl (lv_at hl 1 rfl) ?_
  obtain ⟨v1, e_v1, i_v1, h⟩ := rd_s hR h
  refine E_trees_l C0 hE i_p1 e_v1 dX7_takeOne_13 ?_
  refine lv_iload_n C0.1 C0.2.1 dX7_takeOne_14 rfl (lv_at hl 2 rfl) ?_
  obtain ⟨v2, h_v2, h⟩ := bndp_s h
  refine callV_i (rest := [.ref (g.2 2)]) C0 hml hE (Pool_rec C0 hE) (c_Pool_numberAt l D g hR i_v1 i_p2 h_v2) kw_X7_168 ⟨Nat.le_of_ble_eq_true rfl, Nat.le_of_ble_eq_true rfl⟩ rfl hl.1 rfl (Nat.le_of_ble_eq_true rfl) dX7_takeOne_15 ⟨Nat.zero_le _, Nat.zero_le _⟩ (fun H locs hE i_v2 => ?_)
  refine x_i2l C0 i_v2 dX7_takeOne_18 ?_
  obtain ⟨v3, s4, h_v3, h⟩ := bnd_s h
  refine callV_v (rest := []) C0 hml hE (Row_rec C0 hE) (c_Row_tell l D g hR (in64_of i_v2) h_v3) kw_X7_171 ⟨Nat.le_of_ble_eq_true rfl, Nat.le_of_ble_eq_true rfl⟩ rfl hl.1 rfl (Nat.le_of_ble_eq_true rfl) dX7_takeOne_19 ⟨Nat.zero_le _, Nat.zero_le _⟩ (fun H locs hE hR => ?_)
  refine lv_aload_n C0.1 C0.2.1 dX7_takeOne_22 rfl (lv_at hl 0 rfl) ?_
  obtain ⟨v5, s6, h_v5, h⟩ := bnd_s h
  refine callV_i (rest := []) C0 hml hE (E_rec C0 hE) (c_E_begin l D g hR h_v5) kw_X7_120 ⟨Nat.le_of_ble_eq_true rfl, Nat.le_of_ble_eq_true rfl⟩ rfl hl.1 rfl (Nat.le_of_ble_eq_true rfl) dX7_takeOne_23 ⟨Nat.zero_le _, Nat.zero_le _⟩ (fun H locs hE ⟨i_v5, hR⟩ => ?_)
  refine lv_istore (lv' := [(5, .int (I v5)), (0, .ref (g.2 0)), (1, .int (I p1)), (2, .int (I p2)), (3, .int (I p3)), (4, .int (I p4))]) C0.1 C0.2.1 dX7_takeOne_26 hl (by decide) rfl (fun ls hl => ?_)
  refine lv_aload_n C0.1 C0.2.1 dX7_takeOne_28 rfl (lv_at hl 1 rfl) ?_
  refine lv_iload_n C0.1 C0.2.1 dX7_takeOne_29 rfl (lv_at hl 4 rfl) ?_
  refine lv_aload_n C0.1 C0.2.1 dX7_takeOne_30 rfl (lv_at hl 1 rfl) ?_
  refine E_g_pool C0 hE fk_X7_10 dX7_takeOne_31 ?_
  refine lv_aload_n C0.1 C0.2.1 dX7_takeOne_34 rfl (lv_at hl 1 rfl) ?_
  refine E_g_trees C0 hE fk_X7_49 dX7_takeOne_35 ?_
  refine lv_iload_n C0.1 C0.2.1 dX7_takeOne_38 rfl (lv_at hl 2 rfl) ?_
  obtain ⟨v7, e_v7, i_v7, h⟩ := rd_s hR h
  refine E_trees_l C0 hE i_p1 e_v7 dX7_takeOne_39 ?_
  refine lv_aload_n C0.1 C0.2.1 dX7_takeOne_40 rfl (lv_at hl 1 rfl) ?_
  refine E_g_sizes C0 hE fk_X7_53 dX7_takeOne_41 ?_
  refine lv_iload_n C0.1 C0.2.1 dX7_takeOne_44 rfl (lv_at hl 2 rfl) ?_
  obtain ⟨v8, e_v8, i_v8, h⟩ := rd_s hR h
  refine E_sizes_l C0 hE i_p1 e_v8 dX7_takeOne_45 ?_
  refine lv_iload C0.1 C0.2.1 dX7_takeOne_46 (lv_at hl 5 rfl) ?_
  obtain ⟨v9, s10, h_v9, h⟩ := bnd_s h
  refine callV_i (rest := [.int (I p3), .ref (g.2 0)]) C0 hml hE (Pool_rec C0 hE) (c_Pool_take l D g hR i_v7 i_v8 i_p4 h_v9) kw_X7_219 ⟨Nat.le_of_ble_eq_true rfl, Nat.le_of_ble_eq_true rfl⟩ rfl hl.1 rfl (Nat.le_of_ble_eq_true rfl) dX7_takeOne_48 ⟨Nat.zero_le _, Nat.zero_le _⟩ (fun H locs hE ⟨i_v9, hR⟩ => ?_)
  refine lv_aload_n C0.1 C0.2.1 dX7_takeOne_51 rfl (lv_at hl 1 rfl) ?_
  refine E_g_sizes C0 hE fk_X7_53 dX7_takeOne_52 ?_
  refine lv_iload_n C0.1 C0.2.1 dX7_takeOne_55 rfl (lv_at hl 2 rfl) ?_
  obtain ⟨v11, e_v11, i_v11, h⟩ := rd_s hR h
  refine E_sizes_l C0 hE i_p1 e_v11 dX7_takeOne_56 ?_
  refine lv_iconst (v := I 1) C0.1 C0.2.1 dX7_takeOne_57 rfl ?_
  obtain ⟨v12, e_v12, i_v12, h⟩ := osub_s h
  refine x_sub C0 e_v12 dX7_takeOne_58 ?_
  obtain ⟨v13, s14, h_v13, h⟩ := bnd_s h
  refine callV_i (rest := []) C0 hml hE (E_rec C0 hE) (c_E_keep l D g hR i_p3 i_v9 i_v12 h_v13) kw_X7_126 ⟨Nat.le_of_ble_eq_true rfl, Nat.le_of_ble_eq_true rfl⟩ rfl hl.1 rfl (Nat.le_of_ble_eq_true rfl) dX7_takeOne_59 ⟨Nat.zero_le _, Nat.zero_le _⟩ (fun H locs hE ⟨i_v13, hR⟩ => ?_)
  refine lv_pop C0.1 C0.2.1 dX7_takeOne_62 rfl ?_
  refine lv_aload_n C0.1 C0.2.1 dX7_takeOne_63 rfl (lv_at hl 1 rfl) ?_
  refine E_g_pool C0 hE fk_X7_10 dX7_takeOne_64 ?_
  obtain ⟨v15, e_v15, i_v15, h⟩ := gf_s hR h
  refine Pool_n_made C0 hE e_v15 nk_X7_130 dX7_takeOne_67 ?_
  refine lv_iload C0.1 C0.2.1 dX7_takeOne_70 (lv_at hl 0 rfl) ?_
  obtain ⟨v16, e_v16, i_v16, h⟩ := osub_s h
  refine x_sub C0 e_v16 dX7_takeOne_72 ?_
  exact ret_i (wf := wE g) C0 hr hlk hE h i_v16 hR dX7_takeOne_73
set_option maxRecDepth 100000 in
set_option maxHeartbeats 4000000 in
theorem c_E_first (l : Launch) (D : va_G) (g : Ad) {σ σr : St} {p1 p2 r : Int} (hR : R32 σ) (i_p1 : in32 p1) (i_p2 : in32 p2) (h : E_first σ p1 p2 = some (r, σr)) : CtI l D g yX7_first cX7_first 3 (some .int) 18 (wE g σ) (wE g σr) [.ref (g.2 0), .int (I p1), .int (I p2)] r (in32 r ∧ R32 σr) := by
  intro sz
  refine met_of (by decide) (Nat.le_of_ble_eq_true rfl) (fun p e s m args below meth c ls H locs C0 hml hr hlk hE hl => ?_)
  have C0 : CX p c cX7_first m s args D g RX7 := C0
  have hl : lv_has ls 3 [(0, .ref (g.2 0)), (1, .int (I p1)), (2, .int (I p2))] := hl
  unfold E_first at h
  refine lv_iload_n C0.1 C0.2.1 dX7_first_0 rfl (lv_at hl 1 rfl) ?_
  obtain ⟨v1, h_v1, h⟩ := bndp_s h
  refine callS_i (rest := []) C0 hml hE (c_E_isPlace l D g (σ := σ) i_p1 h_v1) kw_X7_86 ⟨Nat.le_of_ble_eq_true rfl, Nat.le_of_ble_eq_true rfl⟩ rfl hl.1 rfl (Nat.le_of_ble_eq_true rfl) dX7_first_1 ⟨Nat.zero_le _, Nat.zero_le _⟩ (fun H locs hE i_v1 => ?_)
  refine x_if_eq C0 i_v1 dX7_first_4 (tgt := 14) (by decide) (fun c9 => ?_) (fun c9 => ?_)
  · have h := ite_t c9 h
    refine lv_iconst (v := I (-1)) C0.1 C0.2.1 dX7_first_14 rfl ?_
    exact ret_i (wf := wE g) C0 hr hlk hE h lit_m1 hR dX7_first_15
  · have h := ite_f c9 h
    refine lv_iload_n C0.1 C0.2.1 dX7_first_7 rfl (lv_at hl 2 rfl) ?_
    obtain ⟨v2, h_v2, h⟩ := bndp_s h
    refine callS_i (rest := []) C0 hml hE (c_E_isPlace l D g (σ := σ) i_p2 h_v2) kw_X7_86 ⟨Nat.le_of_ble_eq_true rfl, Nat.le_of_ble_eq_true rfl⟩ rfl hl.1 rfl (Nat.le_of_ble_eq_true rfl) dX7_first_8 ⟨Nat.zero_le _, Nat.zero_le _⟩ (fun H locs hE i_v2 => ?_)
    refine x_if_ne C0 i_v2 dX7_first_11 (tgt := 16) (by decide) (fun c9 => ?_) (fun c9 => ?_)
    · have h := ite_f c9 h
      refine lv_aload_n C0.1 C0.2.1 dX7_first_16 rfl (lv_at hl 0 rfl) ?_
      refine E_g_sizes C0 hE fk_X7_53 dX7_first_17 ?_
      refine lv_iload_n C0.1 C0.2.1 dX7_first_20 rfl (lv_at hl 1 rfl) ?_
      obtain ⟨v3, e_v3, i_v3, h⟩ := rd_s hR h
      refine E_sizes_l C0 hE i_p1 e_v3 dX7_first_21 ?_
      refine x_if_ne C0 i_v3 dX7_first_22 (tgt := 30) (by decide) (fun c9 => ?_) (fun c9 => ?_)
      · have h := ite_f c9 h
        refine lv_aload_n C0.1 C0.2.1 dX7_first_30 rfl (lv_at hl 0 rfl) ?_
        refine lv_iload_n C0.1 C0.2.1 dX7_first_31 rfl (lv_at hl 1 rfl) ?_
        refine lv_iconst (v := I 0) C0.1 C0.2.1 dX7_first_32 rfl ?_
        refine lv_iload_n C0.1 C0.2.1 dX7_first_33 rfl (lv_at hl 2 rfl) ?_
        refine lv_iconst (v := I 2) C0.1 C0.2.1 dX7_first_34 rfl ?_
        obtain ⟨v4, s5, h_v4, h⟩ := bnd_s h
        refine callV_i (rest := []) C0 hml hE (E_rec C0 hE) (c_E_takeOne l D g hR i_p1 lit_0 i_p2 lit_2 h_v4) kw_X7_191 ⟨Nat.le_of_ble_eq_true rfl, Nat.le_of_ble_eq_true rfl⟩ rfl hl.1 rfl (Nat.le_of_ble_eq_true rfl) dX7_first_35 ⟨Nat.zero_le _, Nat.zero_le _⟩ (fun H locs hE ⟨i_v4, hR⟩ => ?_)
        exact ret_i (wf := wE g) C0 hr hlk hE h i_v4 hR dX7_first_38
      · have h := ite_t c9 h
        refine lv_bipush (v := I (-2)) C0.1 C0.2.1 dX7_first_25 (by decide +kernel) ?_
        refine x_goto C0 dX7_first_27 (tgt := 38) (by decide) ?_
        exact ret_i (wf := wE g) C0 hr hlk hE h lit_m2 hR dX7_first_38
    · have h := ite_t c9 h
      refine lv_iconst (v := I (-1)) C0.1 C0.2.1 dX7_first_14 rfl ?_
      exact ret_i (wf := wE g) C0 hr hlk hE h lit_m1 hR dX7_first_15
set_option maxRecDepth 100000 in
set_option maxHeartbeats 4000000 in
theorem c_E_last (l : Launch) (D : va_G) (g : Ad) {σ σr : St} {p1 p2 r : Int} (hR : R32 σ) (i_p1 : in32 p1) (i_p2 : in32 p2) (h : E_last σ p1 p2 = some (r, σr)) : CtI l D g yX7_last cX7_last 3 (some .int) 18 (wE g σ) (wE g σr) [.ref (g.2 0), .int (I p1), .int (I p2)] r (in32 r ∧ R32 σr) := by
  intro sz
  refine met_of (by decide) (Nat.le_of_ble_eq_true rfl) (fun p e s m args below meth c ls H locs C0 hml hr hlk hE hl => ?_)
  have C0 : CX p c cX7_last m s args D g RX7 := C0
  have hl : lv_has ls 3 [(0, .ref (g.2 0)), (1, .int (I p1)), (2, .int (I p2))] := hl
  unfold E_last at h
  refine lv_iload_n C0.1 C0.2.1 dX7_last_0 rfl (lv_at hl 1 rfl) ?_
  obtain ⟨v1, h_v1, h⟩ := bndp_s h
  refine callS_i (rest := []) C0 hml hE (c_E_isPlace l D g (σ := σ) i_p1 h_v1) kw_X7_86 ⟨Nat.le_of_ble_eq_true rfl, Nat.le_of_ble_eq_true rfl⟩ rfl hl.1 rfl (Nat.le_of_ble_eq_true rfl) dX7_last_1 ⟨Nat.zero_le _, Nat.zero_le _⟩ (fun H locs hE i_v1 => ?_)
  refine x_if_eq C0 i_v1 dX7_last_4 (tgt := 14) (by decide) (fun c9 => ?_) (fun c9 => ?_)
  · have h := ite_t c9 h
    refine lv_iconst (v := I (-1)) C0.1 C0.2.1 dX7_last_14 rfl ?_
    exact ret_i (wf := wE g) C0 hr hlk hE h lit_m1 hR dX7_last_15
  · have h := ite_f c9 h
    refine lv_iload_n C0.1 C0.2.1 dX7_last_7 rfl (lv_at hl 2 rfl) ?_
    obtain ⟨v2, h_v2, h⟩ := bndp_s h
    refine callS_i (rest := []) C0 hml hE (c_E_isPlace l D g (σ := σ) i_p2 h_v2) kw_X7_86 ⟨Nat.le_of_ble_eq_true rfl, Nat.le_of_ble_eq_true rfl⟩ rfl hl.1 rfl (Nat.le_of_ble_eq_true rfl) dX7_last_8 ⟨Nat.zero_le _, Nat.zero_le _⟩ (fun H locs hE i_v2 => ?_)
    refine x_if_ne C0 i_v2 dX7_last_11 (tgt := 16) (by decide) (fun c9 => ?_) (fun c9 => ?_)
    · have h := ite_f c9 h
      refine lv_aload_n C0.1 C0.2.1 dX7_last_16 rfl (lv_at hl 0 rfl) ?_
      refine E_g_sizes C0 hE fk_X7_53 dX7_last_17 ?_
      refine lv_iload_n C0.1 C0.2.1 dX7_last_20 rfl (lv_at hl 1 rfl) ?_
      obtain ⟨v3, e_v3, i_v3, h⟩ := rd_s hR h
      refine E_sizes_l C0 hE i_p1 e_v3 dX7_last_21 ?_
      refine x_if_ne C0 i_v3 dX7_last_22 (tgt := 30) (by decide) (fun c9 => ?_) (fun c9 => ?_)
      · have h := ite_f c9 h
        refine lv_aload_n C0.1 C0.2.1 dX7_last_30 rfl (lv_at hl 0 rfl) ?_
        refine lv_iload_n C0.1 C0.2.1 dX7_last_31 rfl (lv_at hl 1 rfl) ?_
        refine lv_aload_n C0.1 C0.2.1 dX7_last_32 rfl (lv_at hl 0 rfl) ?_
        refine E_g_sizes C0 hE fk_X7_53 dX7_last_33 ?_
        refine lv_iload_n C0.1 C0.2.1 dX7_last_36 rfl (lv_at hl 1 rfl) ?_
        obtain ⟨v4, e_v4, i_v4, h⟩ := rd_s hR h
        refine E_sizes_l C0 hE i_p1 e_v4 dX7_last_37 ?_
        refine lv_iconst (v := I 1) C0.1 C0.2.1 dX7_last_38 rfl ?_
        obtain ⟨v5, e_v5, i_v5, h⟩ := osub_s h
        refine x_sub C0 e_v5 dX7_last_39 ?_
        refine lv_iload_n C0.1 C0.2.1 dX7_last_40 rfl (lv_at hl 2 rfl) ?_
        refine lv_iconst (v := I 3) C0.1 C0.2.1 dX7_last_41 rfl ?_
        obtain ⟨v6, s7, h_v6, h⟩ := bnd_s h
        refine callV_i (rest := []) C0 hml hE (E_rec C0 hE) (c_E_takeOne l D g hR i_p1 i_v5 i_p2 lit_3 h_v6) kw_X7_191 ⟨Nat.le_of_ble_eq_true rfl, Nat.le_of_ble_eq_true rfl⟩ rfl hl.1 rfl (Nat.le_of_ble_eq_true rfl) dX7_last_42 ⟨Nat.zero_le _, Nat.zero_le _⟩ (fun H locs hE ⟨i_v6, hR⟩ => ?_)
        exact ret_i (wf := wE g) C0 hr hlk hE h i_v6 hR dX7_last_45
      · have h := ite_t c9 h
        refine lv_bipush (v := I (-2)) C0.1 C0.2.1 dX7_last_25 (by decide +kernel) ?_
        refine x_goto C0 dX7_last_27 (tgt := 45) (by decide) ?_
        exact ret_i (wf := wE g) C0 hr hlk hE h lit_m2 hR dX7_last_45
    · have h := ite_t c9 h
      refine lv_iconst (v := I (-1)) C0.1 C0.2.1 dX7_last_14 rfl ?_
      exact ret_i (wf := wE g) C0 hr hlk hE h lit_m1 hR dX7_last_15
set_option maxRecDepth 100000 in
set_option maxHeartbeats 4000000 in
theorem c_E_held (l : Launch) (D : va_G) (g : Ad) {σ : St} {p1 r : Int} (i_p1 : in32 p1) (h : E_held p1 = some r) : CtI l D g yX7_held cX7_held 1 (some .int) 1 (wE g σ) (wE g σ) [.int (I p1)] r (in32 r) := by
  intro sz
  refine met_of (by decide) (Nat.le_of_ble_eq_true rfl) (fun p e s m args below meth c ls H locs C0 hml hr hlk hE hl => ?_)
  have C0 : CX p c cX7_held m s args D g RX7 := C0
  have hl : lv_has ls 1 [(0, .int (I p1))] := hl
  unfold E_held at h
  refine lv_sipush (v := I (-999)) C0.1 C0.2.1 dX7_held_0 (by decide +kernel) ?_
  refine lv_sipush (v := I 999) C0.1 C0.2.1 dX7_held_3 (by decide +kernel) ?_
  refine lv_iload_n C0.1 C0.2.1 dX7_held_6 rfl (lv_at hl 0 rfl) ?_
  obtain ⟨v1, e_v1, i_v1, h⟩ := opure_s h (imin_in lit_999 i_p1)
  refine x_min C0 kw_X7_228 (hml.trans hl.1.symm) lit_999 i_p1 e_v1 ⟨Nat.le_of_ble_eq_true rfl, Nat.le_of_ble_eq_true rfl⟩ ⟨Nat.zero_le _, Nat.zero_le _⟩ dX7_held_7 ?_
  obtain ⟨v2, e_v2, i_v2, h⟩ := opure_s h (imax_in lit_m999 i_v1)
  refine x_max C0 kw_X7_286 (hml.trans hl.1.symm) lit_m999 i_v1 e_v2 ⟨Nat.le_of_ble_eq_true rfl, Nat.le_of_ble_eq_true rfl⟩ ⟨Nat.zero_le _, Nat.zero_le _⟩ dX7_held_10 ?_
  exact pret_i C0 hr hlk hE h i_v2 dX7_held_13
set_option maxRecDepth 100000 in
set_option maxHeartbeats 4000000 in
theorem c_E_isRange (l : Launch) (D : va_G) (g : Ad) {σ : St} {p1 p2 p3 r : Int} (hR : R32 σ) (i_p1 : in32 p1) (i_p2 : in32 p2) (i_p3 : in32 p3) (h : E_isRange σ p1 p2 p3 = some r) : CtI l D g yX7_isRange cX7_isRange 4 (some .boolean) 2 (wE g σ) (wE g σ) [.ref (g.2 0), .int (I p1), .int (I p2), .int (I p3)] r (in32 r) := by
  intro sz
  refine met_of (by decide) (Nat.le_of_ble_eq_true rfl) (fun p e s m args below meth c ls H locs C0 hml hr hlk hE hl => ?_)
  have C0 : CX p c cX7_isRange m s args D g RX7 := C0
  have hl : lv_has ls 4 [(0, .ref (g.2 0)), (1, .int (I p1)), (2, .int (I p2)), (3, .int (I p3))] := hl
  unfold E_isRange at h
  refine lv_iload_n C0.1 C0.2.1 dX7_isRange_0 rfl (lv_at hl 1 rfl) ?_
  obtain ⟨v1, h_v1, h⟩ := bndp_s h
  refine callS_i (rest := []) C0 hml hE (c_E_isPlace l D g (σ := σ) i_p1 h_v1) kw_X7_86 ⟨Nat.le_of_ble_eq_true rfl, Nat.le_of_ble_eq_true rfl⟩ rfl hl.1 rfl (Nat.le_of_ble_eq_true rfl) dX7_isRange_1 ⟨Nat.zero_le _, Nat.zero_le _⟩ (fun H locs hE i_v1 => ?_)
  refine x_if_eq C0 i_v1 dX7_isRange_4 (tgt := 30) (by decide) (fun c9 => ?_) (fun c9 => ?_)
  · have h := ite_t c9 h
    refine lv_iconst (v := I 0) C0.1 C0.2.1 dX7_isRange_30 rfl ?_
    exact pret_z C0 hr hlk hE (Or.inl rfl) h dX7_isRange_31
  · have h := ite_f c9 h
    refine lv_iload_n C0.1 C0.2.1 dX7_isRange_7 rfl (lv_at hl 2 rfl) ?_
    refine x_if_lt C0 i_p2 dX7_isRange_8 (tgt := 30) (by decide) (fun c9 => ?_) (fun c9 => ?_)
    · have h := ite_t c9 h
      refine lv_iconst (v := I 0) C0.1 C0.2.1 dX7_isRange_30 rfl ?_
      exact pret_z C0 hr hlk hE (Or.inl rfl) h dX7_isRange_31
    · have h := ite_f c9 h
      refine lv_iload_n C0.1 C0.2.1 dX7_isRange_11 rfl (lv_at hl 3 rfl) ?_
      refine lv_iload_n C0.1 C0.2.1 dX7_isRange_12 rfl (lv_at hl 2 rfl) ?_
      refine x_icmp_lt C0 i_p3 i_p2 dX7_isRange_13 (tgt := 30) (by decide) (fun c9 => ?_) (fun c9 => ?_)
      · have h := ite_t c9 h
        refine lv_iconst (v := I 0) C0.1 C0.2.1 dX7_isRange_30 rfl ?_
        exact pret_z C0 hr hlk hE (Or.inl rfl) h dX7_isRange_31
      · have h := ite_f c9 h
        refine lv_iload_n C0.1 C0.2.1 dX7_isRange_16 rfl (lv_at hl 3 rfl) ?_
        refine lv_aload_n C0.1 C0.2.1 dX7_isRange_17 rfl (lv_at hl 0 rfl) ?_
        refine E_g_sizes C0 hE fk_X7_53 dX7_isRange_18 ?_
        refine lv_iload_n C0.1 C0.2.1 dX7_isRange_21 rfl (lv_at hl 1 rfl) ?_
        obtain ⟨v2, e_v2, i_v2, h⟩ := rd_s hR h
        refine E_sizes_l C0 hE i_p1 e_v2 dX7_isRange_22 ?_
        refine x_icmp_gt C0 i_p3 i_v2 dX7_isRange_23 (tgt := 30) (by decide) (fun c9 => ?_) (fun c9 => ?_)
        · have h := ite_t c9 h
          refine lv_iconst (v := I 0) C0.1 C0.2.1 dX7_isRange_30 rfl ?_
          exact pret_z C0 hr hlk hE (Or.inl rfl) h dX7_isRange_31
        · have h := ite_f c9 h
          refine lv_iconst (v := I 1) C0.1 C0.2.1 dX7_isRange_26 rfl ?_
          refine x_goto C0 dX7_isRange_27 (tgt := 31) (by decide) ?_
          exact pret_z C0 hr hlk hE (Or.inr rfl) h dX7_isRange_31
set_option maxRecDepth 100000 in
set_option maxHeartbeats 4000000 in
theorem c_E_adds (l : Launch) (D : va_G) (g : Ad) {σ σr : St} {p1 p2 p3 p4 p5 r : Int} (hR : R32 σ) (i_p1 : in32 p1) (i_p2 : in32 p2) (i_p3 : in32 p3) (i_p4 : in32 p4) (i_p5 : in32 p5) (h : E_adds σ p1 p2 p3 p4 p5 = some (r, σr)) : CtI l D g yX7_adds cX7_adds 7 (some .int) 7 (wE g σ) (wE g σr) [.ref (g.2 0), .int (I p1), .int (I p2), .int (I p3), .int (I p4), .int (I p5)] r (in32 r ∧ R32 σr) := by
  intro sz
  refine met_of (by decide) (Nat.le_of_ble_eq_true rfl) (fun p e s m args below meth c ls H locs C0 hml hr hlk hE hl => ?_)
  have C0 : CX p c cX7_adds m s args D g RX7 := C0
  have hl : lv_has ls 7 [(0, .ref (g.2 0)), (1, .int (I p1)), (2, .int (I p2)), (3, .int (I p3)), (4, .int (I p4)), (5, .int (I p5))] := hl
  unfold E_adds at h
  refine lv_aload_n C0.1 C0.2.1 dX7_adds_0 rfl (lv_at hl 0 rfl) ?_
  refine lv_iload_n C0.1 C0.2.1 dX7_adds_1 rfl (lv_at hl 1 rfl) ?_
  refine lv_iload_n C0.1 C0.2.1 dX7_adds_2 rfl (lv_at hl 2 rfl) ?_
  refine lv_iload_n C0.1 C0.2.1 dX7_adds_3 rfl (lv_at hl 3 rfl) ?_
  obtain ⟨v1, h_v1, h⟩ := bndp_s h
  refine callV_i (rest := []) C0 hml hE (E_rec C0 hE) (c_E_isRange l D g hR i_p1 i_p2 i_p3 h_v1) kw_X7_194 ⟨Nat.le_of_ble_eq_true rfl, Nat.le_of_ble_eq_true rfl⟩ rfl hl.1 rfl (Nat.le_of_ble_eq_true rfl) dX7_adds_4 ⟨Nat.zero_le _, Nat.zero_le _⟩ (fun H locs hE i_v1 => ?_)
  refine x_if_eq C0 i_v1 dX7_adds_7 (tgt := 34) (by decide) (fun c9 => ?_) (fun c9 => ?_)
  · have h := ite_t c9 h
    refine lv_iconst (v := I (-1)) C0.1 C0.2.1 dX7_adds_34 rfl ?_
    exact ret_i (wf := wE g) C0 hr hlk hE h lit_m1 hR dX7_adds_35
  · have h := ite_f c9 h
    refine lv_iload C0.1 C0.2.1 dX7_adds_10 (lv_at hl 4 rfl) ?_
    refine lv_sipush (v := I (-999)) C0.1 C0.2.1 dX7_adds_12 (by decide +kernel) ?_
    refine x_icmp_lt C0 i_p4 lit_m999 dX7_adds_15 (tgt := 34) (by decide) (fun c9 => ?_) (fun c9 => ?_)
    · have h := ite_t c9 h
      refine lv_iconst (v := I (-1)) C0.1 C0.2.1 dX7_adds_34 rfl ?_
      exact ret_i (wf := wE g) C0 hr hlk hE h lit_m1 hR dX7_adds_35
    · have h := ite_f c9 h
      refine lv_iload C0.1 C0.2.1 dX7_adds_18 (lv_at hl 4 rfl) ?_
      refine lv_sipush (v := I 999) C0.1 C0.2.1 dX7_adds_20 (by decide +kernel) ?_
      refine x_icmp_gt C0 i_p4 lit_999 dX7_adds_23 (tgt := 34) (by decide) (fun c9 => ?_) (fun c9 => ?_)
      · have h := ite_t c9 h
        refine lv_iconst (v := I (-1)) C0.1 C0.2.1 dX7_adds_34 rfl ?_
        exact ret_i (wf := wE g) C0 hr hlk hE h lit_m1 hR dX7_adds_35
      · have h := ite_f c9 h
        refine lv_iload C0.1 C0.2.1 dX7_adds_26 (lv_at hl 5 rfl) ?_
        obtain ⟨v2, h_v2, h⟩ := bndp_s h
        refine callS_i (rest := []) C0 hml hE (c_E_isPlace l D g (σ := σ) i_p5 h_v2) kw_X7_86 ⟨Nat.le_of_ble_eq_true rfl, Nat.le_of_ble_eq_true rfl⟩ rfl hl.1 rfl (Nat.le_of_ble_eq_true rfl) dX7_adds_28 ⟨Nat.zero_le _, Nat.zero_le _⟩ (fun H locs hE i_v2 => ?_)
        refine x_if_ne C0 i_v2 dX7_adds_31 (tgt := 36) (by decide) (fun c9 => ?_) (fun c9 => ?_)
        · have h := ite_f c9 h
          refine lv_aload_n C0.1 C0.2.1 dX7_adds_36 rfl (lv_at hl 0 rfl) ?_
          refine E_g_marked C0 hE fk_X7_45 dX7_adds_37 ?_
          obtain ⟨v3, s4, h_v3, h⟩ := bnd_s h
          refine callV_v (rest := []) C0 hml hE (Ways_rec C0 hE) (c_Ways_clear l D g hR h_v3) kw_X7_198 ⟨Nat.le_of_ble_eq_true rfl, Nat.le_of_ble_eq_true rfl⟩ rfl hl.1 rfl (Nat.le_of_ble_eq_true rfl) dX7_adds_40 ⟨Nat.zero_le _, Nat.zero_le _⟩ (fun H locs hE hR => ?_)
          refine lv_aload_n C0.1 C0.2.1 dX7_adds_43 rfl (lv_at hl 0 rfl) ?_
          refine E_g_pool C0 hE fk_X7_10 dX7_adds_44 ?_
          refine lv_aload_n C0.1 C0.2.1 dX7_adds_47 rfl (lv_at hl 0 rfl) ?_
          refine E_g_trees C0 hE fk_X7_49 dX7_adds_48 ?_
          refine lv_iload_n C0.1 C0.2.1 dX7_adds_51 rfl (lv_at hl 1 rfl) ?_
          obtain ⟨v5, e_v5, i_v5, h⟩ := rd_s hR h
          refine E_trees_l C0 hE i_p1 e_v5 dX7_adds_52 ?_
          refine lv_aload_n C0.1 C0.2.1 dX7_adds_53 rfl (lv_at hl 0 rfl) ?_
          refine E_g_sizes C0 hE fk_X7_53 dX7_adds_54 ?_
          refine lv_iload_n C0.1 C0.2.1 dX7_adds_57 rfl (lv_at hl 1 rfl) ?_
          obtain ⟨v6, e_v6, i_v6, h⟩ := rd_s hR h
          refine E_sizes_l C0 hE i_p1 e_v6 dX7_adds_58 ?_
          refine lv_aload_n C0.1 C0.2.1 dX7_adds_59 rfl (lv_at hl 0 rfl) ?_
          refine E_g_one C0 hE fk_X7_56 dX7_adds_60 ?_
          obtain ⟨v7, s8, h_v7, h⟩ := bnd_s h
          refine callV_v (rest := []) C0 hml hE (Pool_rec C0 hE) (c_Pool_read_one l D g hR i_v5 i_v6 h_v7) kw_X7_201 ⟨Nat.le_of_ble_eq_true rfl, Nat.le_of_ble_eq_true rfl⟩ rfl hl.1 rfl (Nat.le_of_ble_eq_true rfl) dX7_adds_63 ⟨Nat.zero_le _, Nat.zero_le _⟩ (fun H locs hE hR => ?_)
          refine lv_iload_n C0.1 C0.2.1 dX7_adds_66 rfl (lv_at hl 2 rfl) ?_
          refine lv_istore (lv' := [(6, .int (I p2)), (0, .ref (g.2 0)), (1, .int (I p1)), (2, .int (I p2)), (3, .int (I p3)), (4, .int (I p4)), (5, .int (I p5))]) C0.1 C0.2.1 dX7_adds_67 hl (by decide) rfl (fun ls hl => ?_)
          obtain ⟨k10, e_k10, h⟩ := jn_s h
          have h_k10 : ∀ (s9 : St) (hR : R32 s9) (H : Heap) (locs : List Loc) (ls : Array Slot), EW D (va_A (wE g σ) sz) s.heap (wE g s9) H locs → lv_has ls 7 [(0, .ref (g.2 0)), (1, .int (I p1)), (5, .int (I p5))] → k10 s9 = some (r, σr) → W p l e (rmk 7) s m args below meth c H locs 0 0 (MQ below (QCi D (wE g σr) r (in32 r ∧ R32 σr) (va_A (wE g σ) sz)) args s 0 0 (va_A (wE g σ) sz)) (F0 m 115 ls []) := by
            intro s9 hR H locs ls hE hl h
            have h := (congrFun e_k10 s9).symm.trans h
            refine lv_aload_n C0.1 C0.2.1 dX7_adds_115 rfl (lv_at hl 0 rfl) ?_
            refine lv_iload_n C0.1 C0.2.1 dX7_adds_116 rfl (lv_at hl 1 rfl) ?_
            refine lv_iload C0.1 C0.2.1 dX7_adds_117 (lv_at hl 2 rfl) ?_
            obtain ⟨v11, s12, h_v11, h⟩ := bnd_s h
            refine callV_i (rest := []) C0 hml hE (E_rec C0 hE) (c_E_renew l D g hR i_p1 i_p5 h_v11) kw_X7_184 ⟨Nat.le_of_ble_eq_true rfl, Nat.le_of_ble_eq_true rfl⟩ rfl hl.1 rfl (Nat.le_of_ble_eq_true rfl) dX7_adds_119 ⟨Nat.zero_le _, Nat.zero_le _⟩ (fun H locs hE ⟨i_v11, hR⟩ => ?_)
            exact ret_i (wf := wE g) C0 hr hlk hE h i_v11 hR dX7_adds_122
          have hL69 : ∀ (n : Nat) (s14 : St) (hR : R32 s14) (x13 : Int) (i_x13 : in32 x13) (H : Heap) (locs : List Loc) (ls : Array Slot), EW D (va_A (wE g σ) sz) s.heap (wE g s14) H locs → lv_has ls 7 [(0, .ref (g.2 0)), (1, .int (I p1)), (3, .int (I p3)), (4, .int (I p4)), (5, .int (I p5)), (6, .int (I x13))] → E_adds_L69 k10 p3 p4 n s14 x13 = some (r, σr) → W p l e (rmk 7) s m args below meth c H locs 0 0 (MQ below (QCi D (wE g σr) r (in32 r ∧ R32 σr) (va_A (wE g σ) sz)) args s 0 0 (va_A (wE g σ) sz)) (F0 m 69 ls []) := by
            intro n
            induction n with
            | zero => intros; rename_i h; cases h
            | succ n ih15 =>
              intro s14 hR x13 i_x13 H locs ls hE hl h
              unfold E_adds_L69 at h
              refine lv_iload C0.1 C0.2.1 dX7_adds_69 (lv_at hl 5 rfl) ?_
              refine lv_iload_n C0.1 C0.2.1 dX7_adds_71 rfl (lv_at hl 2 rfl) ?_
              refine x_icmp_ge C0 i_x13 i_p3 dX7_adds_72 (tgt := 115) (by decide) (fun c9 => ?_) (fun c9 => ?_)
              · have h := ite_f c9 h
                exact h_k10 s14 hR _ _ _ hE (lv_sub hl [0, 1, 4] rfl) h
              · have h := ite_t c9 h
                refine lv_iload C0.1 C0.2.1 dX7_adds_75 (lv_at hl 3 rfl) ?_
                refine x_if_eq C0 i_p4 dX7_adds_77 (tgt := 115) (by decide) (fun c9 => ?_) (fun c9 => ?_)
                · have h := ite_t c9 h
                  exact h_k10 s14 hR _ _ _ hE (lv_sub hl [0, 1, 4] rfl) h
                · have h := ite_f c9 h
                  refine lv_aload_n C0.1 C0.2.1 dX7_adds_80 rfl (lv_at hl 0 rfl) ?_
                  refine E_g_one C0 hE fk_X7_56 dX7_adds_81 ?_
                  refine lv_iload C0.1 C0.2.1 dX7_adds_84 (lv_at hl 5 rfl) ?_
                  refine lv_aload_n C0.1 C0.2.1 dX7_adds_86 rfl (lv_at hl 0 rfl) ?_
                  refine E_g_one C0 hE fk_X7_56 dX7_adds_87 ?_
                  refine lv_iload C0.1 C0.2.1 dX7_adds_90 (lv_at hl 5 rfl) ?_
                  obtain ⟨v16, e_v16, i_v16, h⟩ := rd_s hR h
                  refine E_one_l C0 hE i_x13 e_v16 dX7_adds_92 ?_
                  refine lv_iload C0.1 C0.2.1 dX7_adds_93 (lv_at hl 3 rfl) ?_
                  obtain ⟨v17, e_v17, i_v17, h⟩ := oadd_s h
                  refine x_add C0 e_v17 dX7_adds_95 ?_
                  obtain ⟨v18, h_v18, h⟩ := bndp_s h
                  refine callS_i (rest := [.int (I x13), .ref (g.2 26)]) C0 hml hE (c_E_held l D g (σ := s14) i_v17 h_v18) kw_X7_205 ⟨Nat.le_of_ble_eq_true rfl, Nat.le_of_ble_eq_true rfl⟩ rfl hl.1 rfl (Nat.le_of_ble_eq_true rfl) dX7_adds_96 ⟨Nat.zero_le _, Nat.zero_le _⟩ (fun H locs hE i_v18 => ?_)
                  obtain ⟨s19, e_s19, hR, h⟩ := wr_s hR i_v18 h
                  refine E_one_st C0 hE i_x13 e_s19 dX7_adds_99 (fun H locs hE => ?_)
                  refine lv_aload_n C0.1 C0.2.1 dX7_adds_100 rfl (lv_at hl 0 rfl) ?_
                  refine E_g_marked C0 hE fk_X7_45 dX7_adds_101 ?_
                  refine lv_iload C0.1 C0.2.1 dX7_adds_104 (lv_at hl 5 rfl) ?_
                  obtain ⟨v20, s21, h_v20, h⟩ := bnd_s h
                  refine callV_v (rest := []) C0 hml hE (Ways_rec C0 hE) (c_Ways_mark l D g hR i_x13 h_v20) kw_X7_208 ⟨Nat.le_of_ble_eq_true rfl, Nat.le_of_ble_eq_true rfl⟩ rfl hl.1 rfl (Nat.le_of_ble_eq_true rfl) dX7_adds_106 ⟨Nat.zero_le _, Nat.zero_le _⟩ (fun H locs hE hR => ?_)
                  obtain ⟨v22, e_v22, i_v22, h⟩ := oadd_s h
                  refine x_iinc (lv' := [(6, .int (I v22)), (0, .ref (g.2 0)), (1, .int (I p1)), (3, .int (I p3)), (4, .int (I p4)), (5, .int (I p5))]) C0 dX7_adds_109 hl (k := 5) rfl e_v22 (by decide) rfl (fun ls hl => ?_)
                  refine x_goto C0 dX7_adds_112 (tgt := 69) (by decide) ?_
                  exact ih15 s21 hR v22 i_v22 _ _ _ hE (lv_sub hl [1, 2, 3, 4, 5, 0] rfl) h
          exact hL69 FU s8 hR p2 i_p2 _ _ _ hE (lv_sub hl [1, 2, 4, 5, 6, 0] rfl) h
        · have h := ite_t c9 h
          refine lv_iconst (v := I (-1)) C0.1 C0.2.1 dX7_adds_34 rfl ?_
          exact ret_i (wf := wE g) C0 hr hlk hE h lit_m1 hR dX7_adds_35
set_option maxRecDepth 100000 in
set_option maxHeartbeats 4000000 in
theorem c_Pool_putAll_other (l : Launch) (D : va_G) (g : Ad) {σ σr : St} {p1 p2 p4 p5 r : Int} (hR : R32 σ) (i_p1 : in32 p1) (i_p2 : in32 p2) (i_p4 : in32 p4) (i_p5 : in32 p5) (h : Pool_putAll_other σ p1 p2 p4 p5 = some (r, σr)) : CtI l D g yX0_putAll cX0_putAll 8 (some .int) 17 (wE g σ) (wE g σr) [.ref (g.2 1), .int (I p1), .int (I p2), .ref (g.2 27), .int (I p4), .int (I p5)] r (in32 r ∧ R32 σr) := by
  intro sz
  refine met_of (by decide) (Nat.le_of_ble_eq_true rfl) (fun p e s m args below meth c ls H locs C0 hml hr hlk hE hl => ?_)
  have C0 : CX p c cX0_putAll m s args D g RX0 := C0
  have hl : lv_has ls 8 [(0, .ref (g.2 1)), (1, .int (I p1)), (2, .int (I p2)), (3, .ref (g.2 27)), (4, .int (I p4)), (5, .int (I p5))] := hl
  unfold Pool_putAll_other at h
  refine lv_iload_n C0.1 C0.2.1 dX0_putAll_0 rfl (lv_at hl 1 rfl) ?_
  refine lv_istore (lv' := [(6, .int (I p1)), (0, .ref (g.2 1)), (1, .int (I p1)), (2, .int (I p2)), (3, .ref (g.2 27)), (4, .int (I p4)), (5, .int (I p5))]) C0.1 C0.2.1 dX0_putAll_1 hl (by decide) rfl (fun ls hl => ?_)
  refine lv_iconst (v := I 0) C0.1 C0.2.1 dX0_putAll_3 rfl ?_
  refine lv_istore (lv' := [(7, .int (I 0)), (6, .int (I p1)), (0, .ref (g.2 1)), (1, .int (I p1)), (2, .int (I p2)), (3, .ref (g.2 27)), (4, .int (I p4)), (5, .int (I p5))]) C0.1 C0.2.1 dX0_putAll_4 hl (by decide) rfl (fun ls hl => ?_)
  have hL6 : ∀ (n : Nat) (s3 : St) (hR : R32 s3) (x1 : Int) (i_x1 : in32 x1) (x2 : Int) (i_x2 : in32 x2) (H : Heap) (locs : List Loc) (ls : Array Slot), EW D (va_A (wE g σ) sz) s.heap (wE g s3) H locs → lv_has ls 8 [(0, .ref (g.2 1)), (2, .int (I p2)), (3, .ref (g.2 27)), (4, .int (I p4)), (5, .int (I p5)), (6, .int (I x1)), (7, .int (I x2))] → Pool_putAll_other_L6 p2 p4 p5 n s3 x1 x2 = some (r, σr) → W p l e (rmk 17) s m args below meth c H locs 0 0 (MQ below (QCi D (wE g σr) r (in32 r ∧ R32 σr) (va_A (wE g σ) sz)) args s 0 0 (va_A (wE g σ) sz)) (F0 m 6 ls []) := by
    intro n
    induction n with
    | zero => intros; rename_i h; cases h
    | succ n ih4 =>
      intro s3 hR x1 i_x1 x2 i_x2 H locs ls hE hl h
      unfold Pool_putAll_other_L6 at h
      refine lv_iload C0.1 C0.2.1 dX0_putAll_6 (lv_at hl 6 rfl) ?_
      refine lv_iload C0.1 C0.2.1 dX0_putAll_8 (lv_at hl 3 rfl) ?_
      refine x_icmp_ge C0 i_x2 i_p4 dX0_putAll_10 (tgt := 37) (by decide) (fun c9 => ?_) (fun c9 => ?_)
      · have h := ite_f c9 h
        refine lv_iload C0.1 C0.2.1 dX0_putAll_37 (lv_at hl 5 rfl) ?_
        exact ret_i (wf := wE g) C0 hr hlk hE h i_x1 hR dX0_putAll_39
      · have h := ite_t c9 h
        refine lv_aload_n C0.1 C0.2.1 dX0_putAll_13 rfl (lv_at hl 0 rfl) ?_
        refine lv_aload_n C0.1 C0.2.1 dX0_putAll_14 rfl (lv_at hl 2 rfl) ?_
        refine lv_iload C0.1 C0.2.1 dX0_putAll_15 (lv_at hl 6 rfl) ?_
        obtain ⟨v5, e_v5, i_v5, h⟩ := rd_s hR h
        refine E_other_l C0 hE i_x2 e_v5 dX0_putAll_17 ?_
        refine lv_iload C0.1 C0.2.1 dX0_putAll_18 (lv_at hl 5 rfl) ?_
        refine lv_iload_n C0.1 C0.2.1 dX0_putAll_20 rfl (lv_at hl 1 rfl) ?_
        refine lv_iload C0.1 C0.2.1 dX0_putAll_21 (lv_at hl 6 rfl) ?_
        obtain ⟨v6, e_v6, i_v6, h⟩ := oadd_s h
        refine x_add C0 e_v6 dX0_putAll_23 ?_
        refine lv_iload C0.1 C0.2.1 dX0_putAll_24 (lv_at hl 4 rfl) ?_
        obtain ⟨v7, s8, h_v7, h⟩ := bnd_s h
        refine callV_i (rest := []) C0 hml hE (Pool_rec C0 hE) (c_Pool_put l D g hR i_v5 i_x1 i_v6 i_p5 h_v7) kw_X0_109 ⟨Nat.le_of_ble_eq_true rfl, Nat.le_of_ble_eq_true rfl⟩ rfl hl.1 rfl (Nat.le_of_ble_eq_true rfl) dX0_putAll_26 ⟨Nat.zero_le _, Nat.zero_le _⟩ (fun H locs hE ⟨i_v7, hR⟩ => ?_)
        refine lv_istore (lv' := [(6, .int (I v7)), (0, .ref (g.2 1)), (2, .int (I p2)), (3, .ref (g.2 27)), (4, .int (I p4)), (5, .int (I p5)), (7, .int (I x2))]) C0.1 C0.2.1 dX0_putAll_29 hl (by decide) rfl (fun ls hl => ?_)
        obtain ⟨v9, e_v9, i_v9, h⟩ := oadd_s h
        refine x_iinc (lv' := [(7, .int (I v9)), (6, .int (I v7)), (0, .ref (g.2 1)), (2, .int (I p2)), (3, .ref (g.2 27)), (4, .int (I p4)), (5, .int (I p5))]) C0 dX0_putAll_31 hl (k := 6) rfl e_v9 (by decide) rfl (fun ls hl => ?_)
        refine x_goto C0 dX0_putAll_34 (tgt := 6) (by decide) ?_
        exact ih4 s8 hR v7 i_v7 v9 i_v9 _ _ _ hE (lv_sub hl [2, 3, 4, 5, 6, 1, 0] rfl) h
  exact hL6 FU σ hR p1 i_p1 0 lit_0 _ _ _ hE (lv_sub hl [2, 4, 5, 6, 7, 1, 0] rfl) h
set_option maxRecDepth 100000 in
set_option maxHeartbeats 4000000 in
theorem c_E_appends (l : Launch) (D : va_G) (g : Ad) {σ σr : St} {p1 p2 p3 r : Int} (hR : R32 σ) (i_p1 : in32 p1) (i_p2 : in32 p2) (i_p3 : in32 p3) (h : E_appends σ p1 p2 p3 = some (r, σr)) : CtI l D g yX7_appends cX7_appends 6 (some .int) 18 (wE g σ) (wE g σr) [.ref (g.2 0), .int (I p1), .int (I p2), .int (I p3)] r (in32 r ∧ R32 σr) := by
  intro sz
  refine met_of (by decide) (Nat.le_of_ble_eq_true rfl) (fun p e s m args below meth c ls H locs C0 hml hr hlk hE hl => ?_)
  have C0 : CX p c cX7_appends m s args D g RX7 := C0
  have hl : lv_has ls 6 [(0, .ref (g.2 0)), (1, .int (I p1)), (2, .int (I p2)), (3, .int (I p3))] := hl
  unfold E_appends at h
  refine lv_iload_n C0.1 C0.2.1 dX7_appends_0 rfl (lv_at hl 1 rfl) ?_
  obtain ⟨v1, h_v1, h⟩ := bndp_s h
  refine callS_i (rest := []) C0 hml hE (c_E_isPlace l D g (σ := σ) i_p1 h_v1) kw_X7_86 ⟨Nat.le_of_ble_eq_true rfl, Nat.le_of_ble_eq_true rfl⟩ rfl hl.1 rfl (Nat.le_of_ble_eq_true rfl) dX7_appends_1 ⟨Nat.zero_le _, Nat.zero_le _⟩ (fun H locs hE i_v1 => ?_)
  refine x_if_eq C0 i_v1 dX7_appends_4 (tgt := 21) (by decide) (fun c9 => ?_) (fun c9 => ?_)
  · have h := ite_t c9 h
    refine lv_iconst (v := I (-1)) C0.1 C0.2.1 dX7_appends_21 rfl ?_
    exact ret_i (wf := wE g) C0 hr hlk hE h lit_m1 hR dX7_appends_22
  · have h := ite_f c9 h
    refine lv_iload_n C0.1 C0.2.1 dX7_appends_7 rfl (lv_at hl 2 rfl) ?_
    obtain ⟨v2, h_v2, h⟩ := bndp_s h
    refine callS_i (rest := []) C0 hml hE (c_E_isPlace l D g (σ := σ) i_p2 h_v2) kw_X7_86 ⟨Nat.le_of_ble_eq_true rfl, Nat.le_of_ble_eq_true rfl⟩ rfl hl.1 rfl (Nat.le_of_ble_eq_true rfl) dX7_appends_8 ⟨Nat.zero_le _, Nat.zero_le _⟩ (fun H locs hE i_v2 => ?_)
    refine x_if_eq C0 i_v2 dX7_appends_11 (tgt := 21) (by decide) (fun c9 => ?_) (fun c9 => ?_)
    · have h := ite_t c9 h
      refine lv_iconst (v := I (-1)) C0.1 C0.2.1 dX7_appends_21 rfl ?_
      exact ret_i (wf := wE g) C0 hr hlk hE h lit_m1 hR dX7_appends_22
    · have h := ite_f c9 h
      refine lv_iload_n C0.1 C0.2.1 dX7_appends_14 rfl (lv_at hl 3 rfl) ?_
      obtain ⟨v3, h_v3, h⟩ := bndp_s h
      refine callS_i (rest := []) C0 hml hE (c_E_isPlace l D g (σ := σ) i_p3 h_v3) kw_X7_86 ⟨Nat.le_of_ble_eq_true rfl, Nat.le_of_ble_eq_true rfl⟩ rfl hl.1 rfl (Nat.le_of_ble_eq_true rfl) dX7_appends_15 ⟨Nat.zero_le _, Nat.zero_le _⟩ (fun H locs hE i_v3 => ?_)
      refine x_if_ne C0 i_v3 dX7_appends_18 (tgt := 23) (by decide) (fun c9 => ?_) (fun c9 => ?_)
      · have h := ite_f c9 h
        refine lv_aload_n C0.1 C0.2.1 dX7_appends_23 rfl (lv_at hl 0 rfl) ?_
        refine E_g_sizes C0 hE fk_X7_53 dX7_appends_24 ?_
        refine lv_iload_n C0.1 C0.2.1 dX7_appends_27 rfl (lv_at hl 1 rfl) ?_
        obtain ⟨v4, e_v4, i_v4, h⟩ := rd_s hR h
        refine E_sizes_l C0 hE i_p1 e_v4 dX7_appends_28 ?_
        refine lv_aload_n C0.1 C0.2.1 dX7_appends_29 rfl (lv_at hl 0 rfl) ?_
        refine E_g_sizes C0 hE fk_X7_53 dX7_appends_30 ?_
        refine lv_iload_n C0.1 C0.2.1 dX7_appends_33 rfl (lv_at hl 2 rfl) ?_
        obtain ⟨v5, e_v5, i_v5, h⟩ := rd_s hR h
        refine E_sizes_l C0 hE i_p2 e_v5 dX7_appends_34 ?_
        obtain ⟨v6, e_v6, i_v6, h⟩ := oadd_s h
        refine x_add C0 e_v6 dX7_appends_35 ?_
        refine lv_istore (lv' := [(4, .int (I v6)), (0, .ref (g.2 0)), (1, .int (I p1)), (2, .int (I p2)), (3, .int (I p3))]) C0.1 C0.2.1 dX7_appends_36 hl (by decide) rfl (fun ls hl => ?_)
        refine lv_iload C0.1 C0.2.1 dX7_appends_38 (lv_at hl 0 rfl) ?_
        refine lv_sipush (v := I 255) C0.1 C0.2.1 dX7_appends_40 (by decide +kernel) ?_
        refine x_icmp_le C0 i_v6 lit_255 dX7_appends_43 (tgt := 49) (by decide) (fun c9 => ?_) (fun c9 => ?_)
        · have h := ite_f c9 h
          refine lv_aload_n C0.1 C0.2.1 dX7_appends_49 rfl (lv_at hl 1 rfl) ?_
          obtain ⟨v7, s8, h_v7, h⟩ := bnd_s h
          refine callV_i (rest := []) C0 hml hE (E_rec C0 hE) (c_E_begin l D g hR h_v7) kw_X7_120 ⟨Nat.le_of_ble_eq_true rfl, Nat.le_of_ble_eq_true rfl⟩ rfl hl.1 rfl (Nat.le_of_ble_eq_true rfl) dX7_appends_50 ⟨Nat.zero_le _, Nat.zero_le _⟩ (fun H locs hE ⟨i_v7, hR⟩ => ?_)
          refine lv_istore (lv' := [(5, .int (I v7)), (4, .int (I v6)), (0, .ref (g.2 0)), (1, .int (I p1)), (2, .int (I p2)), (3, .int (I p3))]) C0.1 C0.2.1 dX7_appends_53 hl (by decide) rfl (fun ls hl => ?_)
          refine lv_aload_n C0.1 C0.2.1 dX7_appends_55 rfl (lv_at hl 2 rfl) ?_
          refine E_g_pool C0 hE fk_X7_10 dX7_appends_56 ?_
          refine lv_aload_n C0.1 C0.2.1 dX7_appends_59 rfl (lv_at hl 2 rfl) ?_
          refine E_g_trees C0 hE fk_X7_49 dX7_appends_60 ?_
          refine lv_iload_n C0.1 C0.2.1 dX7_appends_63 rfl (lv_at hl 4 rfl) ?_
          obtain ⟨v9, e_v9, i_v9, h⟩ := rd_s hR h
          refine E_trees_l C0 hE i_p2 e_v9 dX7_appends_64 ?_
          refine lv_aload_n C0.1 C0.2.1 dX7_appends_65 rfl (lv_at hl 2 rfl) ?_
          refine E_g_sizes C0 hE fk_X7_53 dX7_appends_66 ?_
          refine lv_iload_n C0.1 C0.2.1 dX7_appends_69 rfl (lv_at hl 4 rfl) ?_
          obtain ⟨v10, e_v10, i_v10, h⟩ := rd_s hR h
          refine E_sizes_l C0 hE i_p2 e_v10 dX7_appends_70 ?_
          refine lv_aload_n C0.1 C0.2.1 dX7_appends_71 rfl (lv_at hl 2 rfl) ?_
          refine E_g_other C0 hE fk_X7_59 dX7_appends_72 ?_
          obtain ⟨v11, s12, h_v11, h⟩ := bnd_s h
          refine callV_v (rest := []) C0 hml hE (Pool_rec C0 hE) (c_Pool_read_other l D g hR i_v9 i_v10 h_v11) kw_X7_201 ⟨Nat.le_of_ble_eq_true rfl, Nat.le_of_ble_eq_true rfl⟩ rfl hl.1 rfl (Nat.le_of_ble_eq_true rfl) dX7_appends_75 ⟨Nat.zero_le _, Nat.zero_le _⟩ (fun H locs hE hR => ?_)
          refine lv_aload_n C0.1 C0.2.1 dX7_appends_78 rfl (lv_at hl 2 rfl) ?_
          refine lv_iload_n C0.1 C0.2.1 dX7_appends_79 rfl (lv_at hl 5 rfl) ?_
          refine lv_aload_n C0.1 C0.2.1 dX7_appends_80 rfl (lv_at hl 2 rfl) ?_
          refine E_g_pool C0 hE fk_X7_10 dX7_appends_81 ?_
          refine lv_aload_n C0.1 C0.2.1 dX7_appends_84 rfl (lv_at hl 2 rfl) ?_
          refine E_g_trees C0 hE fk_X7_49 dX7_appends_85 ?_
          refine lv_iload_n C0.1 C0.2.1 dX7_appends_88 rfl (lv_at hl 3 rfl) ?_
          obtain ⟨v13, e_v13, i_v13, h⟩ := rd_s hR h
          refine E_trees_l C0 hE i_p1 e_v13 dX7_appends_89 ?_
          refine lv_aload_n C0.1 C0.2.1 dX7_appends_90 rfl (lv_at hl 2 rfl) ?_
          refine E_g_sizes C0 hE fk_X7_53 dX7_appends_91 ?_
          refine lv_iload_n C0.1 C0.2.1 dX7_appends_94 rfl (lv_at hl 3 rfl) ?_
          obtain ⟨v14, e_v14, i_v14, h⟩ := rd_s hR h
          refine E_sizes_l C0 hE i_p1 e_v14 dX7_appends_95 ?_
          refine lv_aload_n C0.1 C0.2.1 dX7_appends_96 rfl (lv_at hl 2 rfl) ?_
          refine E_g_other C0 hE fk_X7_59 dX7_appends_97 ?_
          refine lv_aload_n C0.1 C0.2.1 dX7_appends_100 rfl (lv_at hl 2 rfl) ?_
          refine E_g_sizes C0 hE fk_X7_53 dX7_appends_101 ?_
          refine lv_iload_n C0.1 C0.2.1 dX7_appends_104 rfl (lv_at hl 4 rfl) ?_
          obtain ⟨v15, e_v15, i_v15, h⟩ := rd_s hR h
          refine E_sizes_l C0 hE i_p2 e_v15 dX7_appends_105 ?_
          refine lv_iconst (v := I 1) C0.1 C0.2.1 dX7_appends_106 rfl ?_
          obtain ⟨v16, s17, h_v16, h⟩ := bnd_s h
          refine callV_i (rest := [.int (I p3), .ref (g.2 0)]) C0 hml hE (Pool_rec C0 hE) (c_Pool_putAll_other l D g hR i_v13 i_v14 i_v15 lit_1 h_v16) kw_X7_212 ⟨Nat.le_of_ble_eq_true rfl, Nat.le_of_ble_eq_true rfl⟩ rfl hl.1 rfl (Nat.le_of_ble_eq_true rfl) dX7_appends_107 ⟨Nat.zero_le _, Nat.zero_le _⟩ (fun H locs hE ⟨i_v16, hR⟩ => ?_)
          refine lv_iload C0.1 C0.2.1 dX7_appends_110 (lv_at hl 1 rfl) ?_
          obtain ⟨v18, s19, h_v18, h⟩ := bnd_s h
          refine callV_i (rest := []) C0 hml hE (E_rec C0 hE) (c_E_keep l D g hR i_p3 i_v16 i_v6 h_v18) kw_X7_126 ⟨Nat.le_of_ble_eq_true rfl, Nat.le_of_ble_eq_true rfl⟩ rfl hl.1 rfl (Nat.le_of_ble_eq_true rfl) dX7_appends_112 ⟨Nat.zero_le _, Nat.zero_le _⟩ (fun H locs hE ⟨i_v18, hR⟩ => ?_)
          refine lv_pop C0.1 C0.2.1 dX7_appends_115 rfl ?_
          refine lv_aload_n C0.1 C0.2.1 dX7_appends_116 rfl (lv_at hl 2 rfl) ?_
          refine E_g_pool C0 hE fk_X7_10 dX7_appends_117 ?_
          obtain ⟨v20, e_v20, i_v20, h⟩ := gf_s hR h
          refine Pool_n_made C0 hE e_v20 nk_X7_130 dX7_appends_120 ?_
          refine lv_iload C0.1 C0.2.1 dX7_appends_123 (lv_at hl 0 rfl) ?_
          obtain ⟨v21, e_v21, i_v21, h⟩ := osub_s h
          refine x_sub C0 e_v21 dX7_appends_125 ?_
          exact ret_i (wf := wE g) C0 hr hlk hE h i_v21 hR dX7_appends_126
        · have h := ite_t c9 h
          refine lv_bipush (v := I (-2)) C0.1 C0.2.1 dX7_appends_46 (by decide +kernel) ?_
          exact ret_i (wf := wE g) C0 hr hlk hE h lit_m2 hR dX7_appends_48
      · have h := ite_t c9 h
        refine lv_iconst (v := I (-1)) C0.1 C0.2.1 dX7_appends_21 rfl ?_
        exact ret_i (wf := wE g) C0 hr hlk hE h lit_m1 hR dX7_appends_22
set_option maxRecDepth 100000 in
set_option maxHeartbeats 4000000 in
theorem c_E_turned (l : Launch) (D : va_G) (g : Ad) {σ σr : St} {p1 p2 p3 r : Int} (hR : R32 σ) (i_p1 : in32 p1) (i_p2 : in32 p2) (i_p3 : in32 p3) (h : E_turned σ p1 p2 p3 = some (r, σr)) : CtI l D g yX7_turned cX7_turned 9 (some .int) 17 (wE g σ) (wE g σr) [.ref (g.2 0), .int (I p1), .int (I p2), .int (I p3)] r (in32 r ∧ R32 σr) := by
  intro sz
  refine met_of (by decide) (Nat.le_of_ble_eq_true rfl) (fun p e s m args below meth c ls H locs C0 hml hr hlk hE hl => ?_)
  have C0 : CX p c cX7_turned m s args D g RX7 := C0
  have hl : lv_has ls 9 [(0, .ref (g.2 0)), (1, .int (I p1)), (2, .int (I p2)), (3, .int (I p3))] := hl
  unfold E_turned at h
  refine lv_iload_n C0.1 C0.2.1 dX7_turned_0 rfl (lv_at hl 1 rfl) ?_
  obtain ⟨v1, h_v1, h⟩ := bndp_s h
  refine callS_i (rest := []) C0 hml hE (c_E_isPlace l D g (σ := σ) i_p1 h_v1) kw_X7_86 ⟨Nat.le_of_ble_eq_true rfl, Nat.le_of_ble_eq_true rfl⟩ rfl hl.1 rfl (Nat.le_of_ble_eq_true rfl) dX7_turned_1 ⟨Nat.zero_le _, Nat.zero_le _⟩ (fun H locs hE i_v1 => ?_)
  refine x_if_eq C0 i_v1 dX7_turned_4 (tgt := 25) (by decide) (fun c9 => ?_) (fun c9 => ?_)
  · have h := ite_t c9 h
    refine lv_iconst (v := I (-1)) C0.1 C0.2.1 dX7_turned_25 rfl ?_
    exact ret_i (wf := wE g) C0 hr hlk hE h lit_m1 hR dX7_turned_26
  · have h := ite_f c9 h
    refine lv_iload_n C0.1 C0.2.1 dX7_turned_7 rfl (lv_at hl 3 rfl) ?_
    obtain ⟨v2, h_v2, h⟩ := bndp_s h
    refine callS_i (rest := []) C0 hml hE (c_E_isPlace l D g (σ := σ) i_p3 h_v2) kw_X7_86 ⟨Nat.le_of_ble_eq_true rfl, Nat.le_of_ble_eq_true rfl⟩ rfl hl.1 rfl (Nat.le_of_ble_eq_true rfl) dX7_turned_8 ⟨Nat.zero_le _, Nat.zero_le _⟩ (fun H locs hE i_v2 => ?_)
    refine x_if_eq C0 i_v2 dX7_turned_11 (tgt := 25) (by decide) (fun c9 => ?_) (fun c9 => ?_)
    · have h := ite_t c9 h
      refine lv_iconst (v := I (-1)) C0.1 C0.2.1 dX7_turned_25 rfl ?_
      exact ret_i (wf := wE g) C0 hr hlk hE h lit_m1 hR dX7_turned_26
    · have h := ite_f c9 h
      refine lv_iload_n C0.1 C0.2.1 dX7_turned_14 rfl (lv_at hl 2 rfl) ?_
      refine x_if_lt C0 i_p2 dX7_turned_15 (tgt := 25) (by decide) (fun c9 => ?_) (fun c9 => ?_)
      · have h := ite_t c9 h
        refine lv_iconst (v := I (-1)) C0.1 C0.2.1 dX7_turned_25 rfl ?_
        exact ret_i (wf := wE g) C0 hr hlk hE h lit_m1 hR dX7_turned_26
      · have h := ite_f c9 h
        refine lv_iload_n C0.1 C0.2.1 dX7_turned_18 rfl (lv_at hl 2 rfl) ?_
        refine lv_sipush (v := I 255) C0.1 C0.2.1 dX7_turned_19 (by decide +kernel) ?_
        refine x_icmp_le C0 i_p2 lit_255 dX7_turned_22 (tgt := 27) (by decide) (fun c9 => ?_) (fun c9 => ?_)
        · have h := ite_f c9 h
          refine lv_aload_n C0.1 C0.2.1 dX7_turned_27 rfl (lv_at hl 0 rfl) ?_
          refine E_g_sizes C0 hE fk_X7_53 dX7_turned_28 ?_
          refine lv_iload_n C0.1 C0.2.1 dX7_turned_31 rfl (lv_at hl 1 rfl) ?_
          obtain ⟨v3, e_v3, i_v3, h⟩ := rd_s hR h
          refine E_sizes_l C0 hE i_p1 e_v3 dX7_turned_32 ?_
          refine lv_istore (lv' := [(4, .int (I v3)), (0, .ref (g.2 0)), (1, .int (I p1)), (2, .int (I p2)), (3, .int (I p3))]) C0.1 C0.2.1 dX7_turned_33 hl (by decide) rfl (fun ls hl => ?_)
          refine lv_iload C0.1 C0.2.1 dX7_turned_35 (lv_at hl 0 rfl) ?_
          refine x_if_ne C0 i_v3 dX7_turned_37 (tgt := 43) (by decide) (fun c9 => ?_) (fun c9 => ?_)
          · have h := ite_f c9 h
            refine lv_aload_n C0.1 C0.2.1 dX7_turned_43 rfl (lv_at hl 1 rfl) ?_
            obtain ⟨v4, s5, h_v4, h⟩ := bnd_s h
            refine callV_i (rest := []) C0 hml hE (E_rec C0 hE) (c_E_begin l D g hR h_v4) kw_X7_120 ⟨Nat.le_of_ble_eq_true rfl, Nat.le_of_ble_eq_true rfl⟩ rfl hl.1 rfl (Nat.le_of_ble_eq_true rfl) dX7_turned_44 ⟨Nat.zero_le _, Nat.zero_le _⟩ (fun H locs hE ⟨i_v4, hR⟩ => ?_)
            refine lv_istore (lv' := [(5, .int (I v4)), (4, .int (I v3)), (0, .ref (g.2 0)), (1, .int (I p1)), (2, .int (I p2)), (3, .int (I p3))]) C0.1 C0.2.1 dX7_turned_47 hl (by decide) rfl (fun ls hl => ?_)
            refine lv_aload_n C0.1 C0.2.1 dX7_turned_49 rfl (lv_at hl 2 rfl) ?_
            refine E_g_trees C0 hE fk_X7_49 dX7_turned_50 ?_
            refine lv_iload_n C0.1 C0.2.1 dX7_turned_53 rfl (lv_at hl 3 rfl) ?_
            obtain ⟨v6, e_v6, i_v6, h⟩ := rd_s hR h
            refine E_trees_l C0 hE i_p1 e_v6 dX7_turned_54 ?_
            refine lv_istore (lv' := [(6, .int (I v6)), (5, .int (I v4)), (4, .int (I v3)), (0, .ref (g.2 0)), (1, .int (I p1)), (2, .int (I p2)), (3, .int (I p3))]) C0.1 C0.2.1 dX7_turned_55 hl (by decide) rfl (fun ls hl => ?_)
            refine lv_iconst (v := I 0) C0.1 C0.2.1 dX7_turned_57 rfl ?_
            refine lv_istore (lv' := [(7, .int (I 0)), (6, .int (I v6)), (5, .int (I v4)), (4, .int (I v3)), (0, .ref (g.2 0)), (1, .int (I p1)), (2, .int (I p2)), (3, .int (I p3))]) C0.1 C0.2.1 dX7_turned_58 hl (by decide) rfl (fun ls hl => ?_)
            obtain ⟨k9, e_k9, h⟩ := jn_s h
            have h_k9 : ∀ (s7 : St) (hR : R32 s7) (x8 : Int) (i_x8 : in32 x8) (H : Heap) (locs : List Loc) (ls : Array Slot), EW D (va_A (wE g σ) sz) s.heap (wE g s7) H locs → lv_has ls 9 [(0, .ref (g.2 0)), (3, .int (I p3)), (4, .int (I v3)), (5, .int (I v4)), (6, .int (I x8))] → k9 s7 x8 = some (r, σr) → W p l e (rmk 17) s m args below meth c H locs 0 0 (MQ below (QCi D (wE g σr) r (in32 r ∧ R32 σr) (va_A (wE g σ) sz)) args s 0 0 (va_A (wE g σ) sz)) (F0 m 111 ls []) := by
              intro s7 hR x8 i_x8 H locs ls hE hl h
              have h := (congrFun (congrFun e_k9 s7) x8).symm.trans h
              refine lv_aload_n C0.1 C0.2.1 dX7_turned_111 rfl (lv_at hl 0 rfl) ?_
              refine lv_iload_n C0.1 C0.2.1 dX7_turned_112 rfl (lv_at hl 1 rfl) ?_
              refine lv_iload C0.1 C0.2.1 dX7_turned_113 (lv_at hl 4 rfl) ?_
              refine lv_iload C0.1 C0.2.1 dX7_turned_115 (lv_at hl 2 rfl) ?_
              obtain ⟨v10, s11, h_v10, h⟩ := bnd_s h
              refine callV_i (rest := []) C0 hml hE (E_rec C0 hE) (c_E_keep l D g hR i_p3 i_x8 i_v3 h_v10) kw_X7_126 ⟨Nat.le_of_ble_eq_true rfl, Nat.le_of_ble_eq_true rfl⟩ rfl hl.1 rfl (Nat.le_of_ble_eq_true rfl) dX7_turned_117 ⟨Nat.zero_le _, Nat.zero_le _⟩ (fun H locs hE ⟨i_v10, hR⟩ => ?_)
              refine lv_pop C0.1 C0.2.1 dX7_turned_120 rfl ?_
              refine lv_aload_n C0.1 C0.2.1 dX7_turned_121 rfl (lv_at hl 0 rfl) ?_
              refine E_g_pool C0 hE fk_X7_10 dX7_turned_122 ?_
              obtain ⟨v12, e_v12, i_v12, h⟩ := gf_s hR h
              refine Pool_n_made C0 hE e_v12 nk_X7_130 dX7_turned_125 ?_
              refine lv_iload C0.1 C0.2.1 dX7_turned_128 (lv_at hl 3 rfl) ?_
              obtain ⟨v13, e_v13, i_v13, h⟩ := osub_s h
              refine x_sub C0 e_v13 dX7_turned_130 ?_
              exact ret_i (wf := wE g) C0 hr hlk hE h i_v13 hR dX7_turned_131
            have hL60 : ∀ (n : Nat) (s16 : St) (hR : R32 s16) (x14 : Int) (i_x14 : in32 x14) (x15 : Int) (i_x15 : in32 x15) (H : Heap) (locs : List Loc) (ls : Array Slot), EW D (va_A (wE g σ) sz) s.heap (wE g s16) H locs → lv_has ls 9 [(0, .ref (g.2 0)), (2, .int (I p2)), (3, .int (I p3)), (4, .int (I v3)), (5, .int (I v4)), (6, .int (I x14)), (7, .int (I x15))] → E_turned_L60 k9 p2 v3 n s16 x14 x15 = some (r, σr) → W p l e (rmk 17) s m args below meth c H locs 0 0 (MQ below (QCi D (wE g σr) r (in32 r ∧ R32 σr) (va_A (wE g σ) sz)) args s 0 0 (va_A (wE g σ) sz)) (F0 m 60 ls []) := by
              intro n
              induction n with
              | zero => intros; rename_i h; cases h
              | succ n ih17 =>
                intro s16 hR x14 i_x14 x15 i_x15 H locs ls hE hl h
                unfold E_turned_L60 at h
                refine lv_iload C0.1 C0.2.1 dX7_turned_60 (lv_at hl 6 rfl) ?_
                refine lv_iload_n C0.1 C0.2.1 dX7_turned_62 rfl (lv_at hl 1 rfl) ?_
                refine x_icmp_ge C0 i_x15 i_p2 dX7_turned_63 (tgt := 111) (by decide) (fun c9 => ?_) (fun c9 => ?_)
                · have h := ite_f c9 h
                  exact h_k9 s16 hR x14 i_x14 _ _ _ hE (lv_sub hl [0, 2, 3, 4, 5] rfl) h
                · have h := ite_t c9 h
                  refine lv_aload_n C0.1 C0.2.1 dX7_turned_66 rfl (lv_at hl 0 rfl) ?_
                  refine E_g_pool C0 hE fk_X7_10 dX7_turned_67 ?_
                  refine lv_iload C0.1 C0.2.1 dX7_turned_70 (lv_at hl 5 rfl) ?_
                  obtain ⟨v18, h_v18, h⟩ := bndp_s h
                  refine callV_i (rest := []) C0 hml hE (Pool_rec C0 hE) (c_Pool_numberOf l D g hR i_x14 h_v18) kw_X7_216 ⟨Nat.le_of_ble_eq_true rfl, Nat.le_of_ble_eq_true rfl⟩ rfl hl.1 rfl (Nat.le_of_ble_eq_true rfl) dX7_turned_72 ⟨Nat.zero_le _, Nat.zero_le _⟩ (fun H locs hE i_v18 => ?_)
                  refine lv_istore (lv' := [(8, .int (I v18)), (0, .ref (g.2 0)), (2, .int (I p2)), (3, .int (I p3)), (4, .int (I v3)), (5, .int (I v4)), (6, .int (I x14)), (7, .int (I x15))]) C0.1 C0.2.1 dX7_turned_75 hl (by decide) rfl (fun ls hl => ?_)
                  refine lv_aload_n C0.1 C0.2.1 dX7_turned_77 rfl (lv_at hl 1 rfl) ?_
                  refine E_g_pool C0 hE fk_X7_10 dX7_turned_78 ?_
                  refine lv_iload C0.1 C0.2.1 dX7_turned_81 (lv_at hl 0 rfl) ?_
                  refine lv_aload_n C0.1 C0.2.1 dX7_turned_83 rfl (lv_at hl 1 rfl) ?_
                  refine E_g_pool C0 hE fk_X7_10 dX7_turned_84 ?_
                  refine lv_iload C0.1 C0.2.1 dX7_turned_87 (lv_at hl 6 rfl) ?_
                  refine lv_iload C0.1 C0.2.1 dX7_turned_89 (lv_at hl 4 rfl) ?_
                  refine lv_iconst (v := I 2) C0.1 C0.2.1 dX7_turned_91 rfl ?_
                  obtain ⟨v19, s20, h_v19, h⟩ := bnd_s h
                  refine callV_i (rest := [.int (I v18), .ref (g.2 1)]) C0 hml hE (Pool_rec C0 hE) (c_Pool_take l D g hR i_x14 i_v3 lit_2 h_v19) kw_X7_219 ⟨Nat.le_of_ble_eq_true rfl, Nat.le_of_ble_eq_true rfl⟩ rfl hl.1 rfl (Nat.le_of_ble_eq_true rfl) dX7_turned_92 ⟨Nat.zero_le _, Nat.zero_le _⟩ (fun H locs hE ⟨i_v19, hR⟩ => ?_)
                  refine lv_iload C0.1 C0.2.1 dX7_turned_95 (lv_at hl 4 rfl) ?_
                  refine lv_iconst (v := I 1) C0.1 C0.2.1 dX7_turned_97 rfl ?_
                  obtain ⟨v21, e_v21, i_v21, h⟩ := osub_s h
                  refine x_sub C0 e_v21 dX7_turned_98 ?_
                  refine lv_iconst (v := I 1) C0.1 C0.2.1 dX7_turned_99 rfl ?_
                  obtain ⟨v22, s23, h_v22, h⟩ := bnd_s h
                  refine callV_i (rest := []) C0 hml hE (Pool_rec C0 hE) (c_Pool_put l D g hR i_v18 i_v19 i_v21 lit_1 h_v22) kw_X7_222 ⟨Nat.le_of_ble_eq_true rfl, Nat.le_of_ble_eq_true rfl⟩ rfl hl.1 rfl (Nat.le_of_ble_eq_true rfl) dX7_turned_100 ⟨Nat.zero_le _, Nat.zero_le _⟩ (fun H locs hE ⟨i_v22, hR⟩ => ?_)
                  refine lv_istore (lv' := [(6, .int (I v22)), (8, .int (I v18)), (0, .ref (g.2 0)), (2, .int (I p2)), (3, .int (I p3)), (4, .int (I v3)), (5, .int (I v4)), (7, .int (I x15))]) C0.1 C0.2.1 dX7_turned_103 hl (by decide) rfl (fun ls hl => ?_)
                  obtain ⟨v24, e_v24, i_v24, h⟩ := oadd_s h
                  refine x_iinc (lv' := [(7, .int (I v24)), (6, .int (I v22)), (8, .int (I v18)), (0, .ref (g.2 0)), (2, .int (I p2)), (3, .int (I p3)), (4, .int (I v3)), (5, .int (I v4))]) C0 dX7_turned_105 hl (k := 7) rfl e_v24 (by decide) rfl (fun ls hl => ?_)
                  refine x_goto C0 dX7_turned_108 (tgt := 60) (by decide) ?_
                  exact ih17 s23 hR v22 i_v22 v24 i_v24 _ _ _ hE (lv_sub hl [3, 4, 5, 6, 7, 1, 0] rfl) h
            exact hL60 FU s5 hR v6 i_v6 0 lit_0 _ _ _ hE (lv_sub hl [4, 6, 7, 3, 2, 1, 0] rfl) h
          · have h := ite_t c9 h
            refine lv_bipush (v := I (-2)) C0.1 C0.2.1 dX7_turned_40 (by decide +kernel) ?_
            exact ret_i (wf := wE g) C0 hr hlk hE h lit_m2 hR dX7_turned_42
        · have h := ite_t c9 h
          refine lv_iconst (v := I (-1)) C0.1 C0.2.1 dX7_turned_25 rfl ?_
          exact ret_i (wf := wE g) C0 hr hlk hE h lit_m1 hR dX7_turned_26
set_option maxRecDepth 100000 in
set_option maxHeartbeats 4000000 in
theorem c_E_reverses (l : Launch) (D : va_G) (g : Ad) {σ σr : St} {p1 p2 r : Int} (hR : R32 σ) (i_p1 : in32 p1) (i_p2 : in32 p2) (h : E_reverses σ p1 p2 = some (r, σr)) : CtI l D g yX7_reverses cX7_reverses 5 (some .int) 7 (wE g σ) (wE g σr) [.ref (g.2 0), .int (I p1), .int (I p2)] r (in32 r ∧ R32 σr) := by
  intro sz
  refine met_of (by decide) (Nat.le_of_ble_eq_true rfl) (fun p e s m args below meth c ls H locs C0 hml hr hlk hE hl => ?_)
  have C0 : CX p c cX7_reverses m s args D g RX7 := C0
  have hl : lv_has ls 5 [(0, .ref (g.2 0)), (1, .int (I p1)), (2, .int (I p2))] := hl
  unfold E_reverses at h
  refine lv_iload_n C0.1 C0.2.1 dX7_reverses_0 rfl (lv_at hl 1 rfl) ?_
  obtain ⟨v1, h_v1, h⟩ := bndp_s h
  refine callS_i (rest := []) C0 hml hE (c_E_isPlace l D g (σ := σ) i_p1 h_v1) kw_X7_86 ⟨Nat.le_of_ble_eq_true rfl, Nat.le_of_ble_eq_true rfl⟩ rfl hl.1 rfl (Nat.le_of_ble_eq_true rfl) dX7_reverses_1 ⟨Nat.zero_le _, Nat.zero_le _⟩ (fun H locs hE i_v1 => ?_)
  refine x_if_eq C0 i_v1 dX7_reverses_4 (tgt := 14) (by decide) (fun c9 => ?_) (fun c9 => ?_)
  · have h := ite_t c9 h
    refine lv_iconst (v := I (-1)) C0.1 C0.2.1 dX7_reverses_14 rfl ?_
    exact ret_i (wf := wE g) C0 hr hlk hE h lit_m1 hR dX7_reverses_15
  · have h := ite_f c9 h
    refine lv_iload_n C0.1 C0.2.1 dX7_reverses_7 rfl (lv_at hl 2 rfl) ?_
    obtain ⟨v2, h_v2, h⟩ := bndp_s h
    refine callS_i (rest := []) C0 hml hE (c_E_isPlace l D g (σ := σ) i_p2 h_v2) kw_X7_86 ⟨Nat.le_of_ble_eq_true rfl, Nat.le_of_ble_eq_true rfl⟩ rfl hl.1 rfl (Nat.le_of_ble_eq_true rfl) dX7_reverses_8 ⟨Nat.zero_le _, Nat.zero_le _⟩ (fun H locs hE i_v2 => ?_)
    refine x_if_ne C0 i_v2 dX7_reverses_11 (tgt := 16) (by decide) (fun c9 => ?_) (fun c9 => ?_)
    · have h := ite_f c9 h
      refine lv_aload_n C0.1 C0.2.1 dX7_reverses_16 rfl (lv_at hl 0 rfl) ?_
      refine E_g_sizes C0 hE fk_X7_53 dX7_reverses_17 ?_
      refine lv_iload_n C0.1 C0.2.1 dX7_reverses_20 rfl (lv_at hl 1 rfl) ?_
      obtain ⟨v3, e_v3, i_v3, h⟩ := rd_s hR h
      refine E_sizes_l C0 hE i_p1 e_v3 dX7_reverses_21 ?_
      refine lv_istore_n (lv' := [(3, .int (I v3)), (0, .ref (g.2 0)), (1, .int (I p1)), (2, .int (I p2))]) C0.1 C0.2.1 dX7_reverses_22 rfl hl (by decide) rfl (fun ls hl => ?_)
      refine lv_aload_n C0.1 C0.2.1 dX7_reverses_23 rfl (lv_at hl 1 rfl) ?_
      refine E_g_pool C0 hE fk_X7_10 dX7_reverses_24 ?_
      refine lv_aload_n C0.1 C0.2.1 dX7_reverses_27 rfl (lv_at hl 1 rfl) ?_
      refine E_g_trees C0 hE fk_X7_49 dX7_reverses_28 ?_
      refine lv_iload_n C0.1 C0.2.1 dX7_reverses_31 rfl (lv_at hl 2 rfl) ?_
      obtain ⟨v4, e_v4, i_v4, h⟩ := rd_s hR h
      refine E_trees_l C0 hE i_p1 e_v4 dX7_reverses_32 ?_
      refine lv_iload_n C0.1 C0.2.1 dX7_reverses_33 rfl (lv_at hl 0 rfl) ?_
      refine lv_aload_n C0.1 C0.2.1 dX7_reverses_34 rfl (lv_at hl 1 rfl) ?_
      refine E_g_one C0 hE fk_X7_56 dX7_reverses_35 ?_
      obtain ⟨v5, s6, h_v5, h⟩ := bnd_s h
      refine callV_v (rest := []) C0 hml hE (Pool_rec C0 hE) (c_Pool_read_one l D g hR i_v4 i_v3 h_v5) kw_X7_201 ⟨Nat.le_of_ble_eq_true rfl, Nat.le_of_ble_eq_true rfl⟩ rfl hl.1 rfl (Nat.le_of_ble_eq_true rfl) dX7_reverses_38 ⟨Nat.zero_le _, Nat.zero_le _⟩ (fun H locs hE hR => ?_)
      refine lv_iconst (v := I 0) C0.1 C0.2.1 dX7_reverses_41 rfl ?_
      refine lv_istore (lv' := [(4, .int (I 0)), (3, .int (I v3)), (0, .ref (g.2 0)), (1, .int (I p1)), (2, .int (I p2))]) C0.1 C0.2.1 dX7_reverses_42 hl (by decide) rfl (fun ls hl => ?_)
      obtain ⟨k8, e_k8, h⟩ := jn_s h
      have h_k8 : ∀ (s7 : St) (hR : R32 s7) (H : Heap) (locs : List Loc) (ls : Array Slot), EW D (va_A (wE g σ) sz) s.heap (wE g s7) H locs → lv_has ls 5 [(0, .ref (g.2 0)), (2, .int (I p2)), (3, .int (I v3))] → k8 s7 = some (r, σr) → W p l e (rmk 7) s m args below meth c H locs 0 0 (MQ below (QCi D (wE g σr) r (in32 r ∧ R32 σr) (va_A (wE g σ) sz)) args s 0 0 (va_A (wE g σ) sz)) (F0 m 74 ls []) := by
        intro s7 hR H locs ls hE hl h
        have h := (congrFun e_k8 s7).symm.trans h
        refine lv_aload_n C0.1 C0.2.1 dX7_reverses_74 rfl (lv_at hl 0 rfl) ?_
        refine lv_iload_n C0.1 C0.2.1 dX7_reverses_75 rfl (lv_at hl 1 rfl) ?_
        refine lv_iload_n C0.1 C0.2.1 dX7_reverses_76 rfl (lv_at hl 2 rfl) ?_
        obtain ⟨v9, s10, h_v9, h⟩ := bnd_s h
        refine callV_i (rest := []) C0 hml hE (E_rec C0 hE) (c_E_build l D g hR i_p2 i_v3 h_v9) kw_X7_89 ⟨Nat.le_of_ble_eq_true rfl, Nat.le_of_ble_eq_true rfl⟩ rfl hl.1 rfl (Nat.le_of_ble_eq_true rfl) dX7_reverses_77 ⟨Nat.zero_le _, Nat.zero_le _⟩ (fun H locs hE ⟨i_v9, hR⟩ => ?_)
        exact ret_i (wf := wE g) C0 hr hlk hE h i_v9 hR dX7_reverses_80
      have hL44 : ∀ (n : Nat) (s12 : St) (hR : R32 s12) (x11 : Int) (i_x11 : in32 x11) (H : Heap) (locs : List Loc) (ls : Array Slot), EW D (va_A (wE g σ) sz) s.heap (wE g s12) H locs → lv_has ls 5 [(0, .ref (g.2 0)), (2, .int (I p2)), (3, .int (I v3)), (4, .int (I x11))] → E_reverses_L44 k8 v3 n s12 x11 = some (r, σr) → W p l e (rmk 7) s m args below meth c H locs 0 0 (MQ below (QCi D (wE g σr) r (in32 r ∧ R32 σr) (va_A (wE g σ) sz)) args s 0 0 (va_A (wE g σ) sz)) (F0 m 44 ls []) := by
        intro n
        induction n with
        | zero => intros; rename_i h; cases h
        | succ n ih13 =>
          intro s12 hR x11 i_x11 H locs ls hE hl h
          unfold E_reverses_L44 at h
          refine lv_iload C0.1 C0.2.1 dX7_reverses_44 (lv_at hl 3 rfl) ?_
          refine lv_iload_n C0.1 C0.2.1 dX7_reverses_46 rfl (lv_at hl 2 rfl) ?_
          refine x_icmp_ge C0 i_x11 i_v3 dX7_reverses_47 (tgt := 74) (by decide) (fun c9 => ?_) (fun c9 => ?_)
          · have h := ite_f c9 h
            exact h_k8 s12 hR _ _ _ hE (lv_sub hl [0, 1, 2] rfl) h
          · have h := ite_t c9 h
            refine lv_aload_n C0.1 C0.2.1 dX7_reverses_50 rfl (lv_at hl 0 rfl) ?_
            refine E_g_fresh C0 hE fk_X7_62 dX7_reverses_51 ?_
            refine lv_iload C0.1 C0.2.1 dX7_reverses_54 (lv_at hl 3 rfl) ?_
            refine lv_aload_n C0.1 C0.2.1 dX7_reverses_56 rfl (lv_at hl 0 rfl) ?_
            refine E_g_one C0 hE fk_X7_56 dX7_reverses_57 ?_
            refine lv_iload_n C0.1 C0.2.1 dX7_reverses_60 rfl (lv_at hl 2 rfl) ?_
            refine lv_iconst (v := I 1) C0.1 C0.2.1 dX7_reverses_61 rfl ?_
            obtain ⟨v14, e_v14, i_v14, h⟩ := osub_s h
            refine x_sub C0 e_v14 dX7_reverses_62 ?_
            refine lv_iload C0.1 C0.2.1 dX7_reverses_63 (lv_at hl 3 rfl) ?_
            obtain ⟨v15, e_v15, i_v15, h⟩ := osub_s h
            refine x_sub C0 e_v15 dX7_reverses_65 ?_
            obtain ⟨v16, e_v16, i_v16, h⟩ := rd_s hR h
            refine E_one_l C0 hE i_v15 e_v16 dX7_reverses_66 ?_
            obtain ⟨s17, e_s17, hR, h⟩ := wr_s hR i_v16 h
            refine E_fresh_st C0 hE i_x11 e_s17 dX7_reverses_67 (fun H locs hE => ?_)
            obtain ⟨v18, e_v18, i_v18, h⟩ := oadd_s h
            refine x_iinc (lv' := [(4, .int (I v18)), (0, .ref (g.2 0)), (2, .int (I p2)), (3, .int (I v3))]) C0 dX7_reverses_68 hl (k := 3) rfl e_v18 (by decide) rfl (fun ls hl => ?_)
            refine x_goto C0 dX7_reverses_71 (tgt := 44) (by decide) ?_
            exact ih13 s17 hR v18 i_v18 _ _ _ hE (lv_sub hl [1, 2, 3, 0] rfl) h
      exact hL44 FU s6 hR 0 lit_0 _ _ _ hE (lv_sub hl [2, 4, 1, 0] rfl) h
    · have h := ite_t c9 h
      refine lv_iconst (v := I (-1)) C0.1 C0.2.1 dX7_reverses_14 rfl ?_
      exact ret_i (wf := wE g) C0 hr hlk hE h lit_m1 hR dX7_reverses_15
set_option maxRecDepth 100000 in
set_option maxHeartbeats 4000000 in
theorem c_Pool_takeMany (l : Launch) (D : va_G) (g : Ad) {σ σr : St} {p1 p2 p3 p4 r : Int} (hR : R32 σ) (i_p1 : in32 p1) (i_p2 : in32 p2) (i_p3 : in32 p3) (i_p4 : in32 p4) (h : Pool_takeMany σ p1 p2 p3 p4 = some (r, σr)) : CtI l D g yX0_takeMany cX0_takeMany 7 (some .int) 17 (wE g σ) (wE g σr) [.ref (g.2 1), .int (I p1), .int (I p2), .int (I p3), .int (I p4)] r (in32 r ∧ R32 σr) := by
  intro sz
  refine met_of (by decide) (Nat.le_of_ble_eq_true rfl) (fun p e s m args below meth c ls H locs C0 hml hr hlk hE hl => ?_)
  have C0 : CX p c cX0_takeMany m s args D g RX0 := C0
  have hl : lv_has ls 7 [(0, .ref (g.2 1)), (1, .int (I p1)), (2, .int (I p2)), (3, .int (I p3)), (4, .int (I p4))] := hl
  unfold Pool_takeMany at h
  refine lv_iload_n C0.1 C0.2.1 dX0_takeMany_0 rfl (lv_at hl 1 rfl) ?_
  refine lv_istore (lv' := [(5, .int (I p1)), (0, .ref (g.2 1)), (1, .int (I p1)), (2, .int (I p2)), (3, .int (I p3)), (4, .int (I p4))]) C0.1 C0.2.1 dX0_takeMany_1 hl (by decide) rfl (fun ls hl => ?_)
  refine lv_iconst (v := I 0) C0.1 C0.2.1 dX0_takeMany_3 rfl ?_
  refine lv_istore (lv' := [(6, .int (I 0)), (5, .int (I p1)), (0, .ref (g.2 1)), (1, .int (I p1)), (2, .int (I p2)), (3, .int (I p3)), (4, .int (I p4))]) C0.1 C0.2.1 dX0_takeMany_4 hl (by decide) rfl (fun ls hl => ?_)
  have hL6 : ∀ (n : Nat) (s3 : St) (hR : R32 s3) (x1 : Int) (i_x1 : in32 x1) (x2 : Int) (i_x2 : in32 x2) (H : Heap) (locs : List Loc) (ls : Array Slot), EW D (va_A (wE g σ) sz) s.heap (wE g s3) H locs → lv_has ls 7 [(0, .ref (g.2 1)), (2, .int (I p2)), (3, .int (I p3)), (4, .int (I p4)), (5, .int (I x1)), (6, .int (I x2))] → Pool_takeMany_L6 p2 p3 p4 n s3 x1 x2 = some (r, σr) → W p l e (rmk 17) s m args below meth c H locs 0 0 (MQ below (QCi D (wE g σr) r (in32 r ∧ R32 σr) (va_A (wE g σ) sz)) args s 0 0 (va_A (wE g σ) sz)) (F0 m 6 ls []) := by
    intro n
    induction n with
    | zero => intros; rename_i h; cases h
    | succ n ih4 =>
      intro s3 hR x1 i_x1 x2 i_x2 H locs ls hE hl h
      unfold Pool_takeMany_L6 at h
      refine lv_iload C0.1 C0.2.1 dX0_takeMany_6 (lv_at hl 5 rfl) ?_
      refine lv_iload_n C0.1 C0.2.1 dX0_takeMany_8 rfl (lv_at hl 2 rfl) ?_
      refine x_icmp_ge C0 i_x2 i_p3 dX0_takeMany_9 (tgt := 32) (by decide) (fun c9 => ?_) (fun c9 => ?_)
      · have h := ite_f c9 h
        refine lv_iload C0.1 C0.2.1 dX0_takeMany_32 (lv_at hl 4 rfl) ?_
        exact ret_i (wf := wE g) C0 hr hlk hE h i_x1 hR dX0_takeMany_34
      · have h := ite_t c9 h
        refine lv_aload_n C0.1 C0.2.1 dX0_takeMany_12 rfl (lv_at hl 0 rfl) ?_
        refine lv_iload C0.1 C0.2.1 dX0_takeMany_13 (lv_at hl 4 rfl) ?_
        refine lv_iload_n C0.1 C0.2.1 dX0_takeMany_15 rfl (lv_at hl 1 rfl) ?_
        refine lv_iload C0.1 C0.2.1 dX0_takeMany_16 (lv_at hl 5 rfl) ?_
        obtain ⟨v5, e_v5, i_v5, h⟩ := osub_s h
        refine x_sub C0 e_v5 dX0_takeMany_18 ?_
        refine lv_iload C0.1 C0.2.1 dX0_takeMany_19 (lv_at hl 3 rfl) ?_
        obtain ⟨v6, s7, h_v6, h⟩ := bnd_s h
        refine callV_i (rest := []) C0 hml hE (Pool_rec C0 hE) (c_Pool_take l D g hR i_x1 i_v5 i_p4 h_v6) kw_X0_120 ⟨Nat.le_of_ble_eq_true rfl, Nat.le_of_ble_eq_true rfl⟩ rfl hl.1 rfl (Nat.le_of_ble_eq_true rfl) dX0_takeMany_21 ⟨Nat.zero_le _, Nat.zero_le _⟩ (fun H locs hE ⟨i_v6, hR⟩ => ?_)
        refine lv_istore (lv' := [(5, .int (I v6)), (0, .ref (g.2 1)), (2, .int (I p2)), (3, .int (I p3)), (4, .int (I p4)), (6, .int (I x2))]) C0.1 C0.2.1 dX0_takeMany_24 hl (by decide) rfl (fun ls hl => ?_)
        obtain ⟨v8, e_v8, i_v8, h⟩ := oadd_s h
        refine x_iinc (lv' := [(6, .int (I v8)), (5, .int (I v6)), (0, .ref (g.2 1)), (2, .int (I p2)), (3, .int (I p3)), (4, .int (I p4))]) C0 dX0_takeMany_26 hl (k := 5) rfl e_v8 (by decide) rfl (fun ls hl => ?_)
        refine x_goto C0 dX0_takeMany_29 (tgt := 6) (by decide) ?_
        exact ih4 s7 hR v6 i_v6 v8 i_v8 _ _ _ hE (lv_sub hl [2, 3, 4, 5, 1, 0] rfl) h
  exact hL6 FU σ hR p1 i_p1 0 lit_0 _ _ _ hE (lv_sub hl [2, 4, 5, 6, 1, 0] rfl) h
set_option maxRecDepth 100000 in
set_option maxHeartbeats 4000000 in
theorem c_E_keeps (l : Launch) (D : va_G) (g : Ad) {σ σr : St} {p1 p2 p3 r : Int} (hR : R32 σ) (i_p1 : in32 p1) (i_p2 : in32 p2) (i_p3 : in32 p3) (h : E_keeps σ p1 p2 p3 = some (r, σr)) : CtI l D g yX7_keeps cX7_keeps 5 (some .int) 18 (wE g σ) (wE g σr) [.ref (g.2 0), .int (I p1), .int (I p2), .int (I p3)] r (in32 r ∧ R32 σr) := by
  intro sz
  refine met_of (by decide) (Nat.le_of_ble_eq_true rfl) (fun p e s m args below meth c ls H locs C0 hml hr hlk hE hl => ?_)
  have C0 : CX p c cX7_keeps m s args D g RX7 := C0
  have hl : lv_has ls 5 [(0, .ref (g.2 0)), (1, .int (I p1)), (2, .int (I p2)), (3, .int (I p3))] := hl
  unfold E_keeps at h
  refine lv_aload_n C0.1 C0.2.1 dX7_keeps_0 rfl (lv_at hl 0 rfl) ?_
  refine lv_iload_n C0.1 C0.2.1 dX7_keeps_1 rfl (lv_at hl 1 rfl) ?_
  refine lv_iconst (v := I 0) C0.1 C0.2.1 dX7_keeps_2 rfl ?_
  refine lv_iload_n C0.1 C0.2.1 dX7_keeps_3 rfl (lv_at hl 2 rfl) ?_
  obtain ⟨v1, h_v1, h⟩ := bndp_s h
  refine callV_i (rest := []) C0 hml hE (E_rec C0 hE) (c_E_isRange l D g hR i_p1 lit_0 i_p2 h_v1) kw_X7_194 ⟨Nat.le_of_ble_eq_true rfl, Nat.le_of_ble_eq_true rfl⟩ rfl hl.1 rfl (Nat.le_of_ble_eq_true rfl) dX7_keeps_4 ⟨Nat.zero_le _, Nat.zero_le _⟩ (fun H locs hE i_v1 => ?_)
  refine x_if_eq C0 i_v1 dX7_keeps_7 (tgt := 17) (by decide) (fun c9 => ?_) (fun c9 => ?_)
  · have h := ite_t c9 h
    refine lv_iconst (v := I (-1)) C0.1 C0.2.1 dX7_keeps_17 rfl ?_
    exact ret_i (wf := wE g) C0 hr hlk hE h lit_m1 hR dX7_keeps_18
  · have h := ite_f c9 h
    refine lv_iload_n C0.1 C0.2.1 dX7_keeps_10 rfl (lv_at hl 3 rfl) ?_
    obtain ⟨v2, h_v2, h⟩ := bndp_s h
    refine callS_i (rest := []) C0 hml hE (c_E_isPlace l D g (σ := σ) i_p3 h_v2) kw_X7_86 ⟨Nat.le_of_ble_eq_true rfl, Nat.le_of_ble_eq_true rfl⟩ rfl hl.1 rfl (Nat.le_of_ble_eq_true rfl) dX7_keeps_11 ⟨Nat.zero_le _, Nat.zero_le _⟩ (fun H locs hE i_v2 => ?_)
    refine x_if_ne C0 i_v2 dX7_keeps_14 (tgt := 19) (by decide) (fun c9 => ?_) (fun c9 => ?_)
    · have h := ite_f c9 h
      refine lv_aload_n C0.1 C0.2.1 dX7_keeps_19 rfl (lv_at hl 0 rfl) ?_
      obtain ⟨v3, s4, h_v3, h⟩ := bnd_s h
      refine callV_i (rest := []) C0 hml hE (E_rec C0 hE) (c_E_begin l D g hR h_v3) kw_X7_120 ⟨Nat.le_of_ble_eq_true rfl, Nat.le_of_ble_eq_true rfl⟩ rfl hl.1 rfl (Nat.le_of_ble_eq_true rfl) dX7_keeps_20 ⟨Nat.zero_le _, Nat.zero_le _⟩ (fun H locs hE ⟨i_v3, hR⟩ => ?_)
      refine lv_istore (lv' := [(4, .int (I v3)), (0, .ref (g.2 0)), (1, .int (I p1)), (2, .int (I p2)), (3, .int (I p3))]) C0.1 C0.2.1 dX7_keeps_23 hl (by decide) rfl (fun ls hl => ?_)
      refine lv_aload_n C0.1 C0.2.1 dX7_keeps_25 rfl (lv_at hl 1 rfl) ?_
      refine lv_iload_n C0.1 C0.2.1 dX7_keeps_26 rfl (lv_at hl 4 rfl) ?_
      refine lv_aload_n C0.1 C0.2.1 dX7_keeps_27 rfl (lv_at hl 1 rfl) ?_
      refine E_g_pool C0 hE fk_X7_10 dX7_keeps_28 ?_
      refine lv_aload_n C0.1 C0.2.1 dX7_keeps_31 rfl (lv_at hl 1 rfl) ?_
      refine E_g_trees C0 hE fk_X7_49 dX7_keeps_32 ?_
      refine lv_iload_n C0.1 C0.2.1 dX7_keeps_35 rfl (lv_at hl 2 rfl) ?_
      obtain ⟨v5, e_v5, i_v5, h⟩ := rd_s hR h
      refine E_trees_l C0 hE i_p1 e_v5 dX7_keeps_36 ?_
      refine lv_aload_n C0.1 C0.2.1 dX7_keeps_37 rfl (lv_at hl 1 rfl) ?_
      refine E_g_sizes C0 hE fk_X7_53 dX7_keeps_38 ?_
      refine lv_iload_n C0.1 C0.2.1 dX7_keeps_41 rfl (lv_at hl 2 rfl) ?_
      obtain ⟨v6, e_v6, i_v6, h⟩ := rd_s hR h
      refine E_sizes_l C0 hE i_p1 e_v6 dX7_keeps_42 ?_
      refine lv_aload_n C0.1 C0.2.1 dX7_keeps_43 rfl (lv_at hl 1 rfl) ?_
      refine E_g_sizes C0 hE fk_X7_53 dX7_keeps_44 ?_
      refine lv_iload_n C0.1 C0.2.1 dX7_keeps_47 rfl (lv_at hl 2 rfl) ?_
      obtain ⟨v7, e_v7, i_v7, h⟩ := rd_s hR h
      refine E_sizes_l C0 hE i_p1 e_v7 dX7_keeps_48 ?_
      refine lv_iload_n C0.1 C0.2.1 dX7_keeps_49 rfl (lv_at hl 3 rfl) ?_
      obtain ⟨v8, e_v8, i_v8, h⟩ := osub_s h
      refine x_sub C0 e_v8 dX7_keeps_50 ?_
      refine lv_iconst (v := I 3) C0.1 C0.2.1 dX7_keeps_51 rfl ?_
      obtain ⟨v9, s10, h_v9, h⟩ := bnd_s h
      refine callV_i (rest := [.int (I p3), .ref (g.2 0)]) C0 hml hE (Pool_rec C0 hE) (c_Pool_takeMany l D g hR i_v5 i_v6 i_v8 lit_3 h_v9) kw_X7_225 ⟨Nat.le_of_ble_eq_true rfl, Nat.le_of_ble_eq_true rfl⟩ rfl hl.1 rfl (Nat.le_of_ble_eq_true rfl) dX7_keeps_52 ⟨Nat.zero_le _, Nat.zero_le _⟩ (fun H locs hE ⟨i_v9, hR⟩ => ?_)
      refine lv_iload_n C0.1 C0.2.1 dX7_keeps_55 rfl (lv_at hl 3 rfl) ?_
      obtain ⟨v11, s12, h_v11, h⟩ := bnd_s h
      refine callV_i (rest := []) C0 hml hE (E_rec C0 hE) (c_E_keep l D g hR i_p3 i_v9 i_p2 h_v11) kw_X7_126 ⟨Nat.le_of_ble_eq_true rfl, Nat.le_of_ble_eq_true rfl⟩ rfl hl.1 rfl (Nat.le_of_ble_eq_true rfl) dX7_keeps_56 ⟨Nat.zero_le _, Nat.zero_le _⟩ (fun H locs hE ⟨i_v11, hR⟩ => ?_)
      refine lv_pop C0.1 C0.2.1 dX7_keeps_59 rfl ?_
      refine lv_aload_n C0.1 C0.2.1 dX7_keeps_60 rfl (lv_at hl 1 rfl) ?_
      refine E_g_pool C0 hE fk_X7_10 dX7_keeps_61 ?_
      obtain ⟨v13, e_v13, i_v13, h⟩ := gf_s hR h
      refine Pool_n_made C0 hE e_v13 nk_X7_130 dX7_keeps_64 ?_
      refine lv_iload C0.1 C0.2.1 dX7_keeps_67 (lv_at hl 0 rfl) ?_
      obtain ⟨v14, e_v14, i_v14, h⟩ := osub_s h
      refine x_sub C0 e_v14 dX7_keeps_69 ?_
      exact ret_i (wf := wE g) C0 hr hlk hE h i_v14 hR dX7_keeps_70
    · have h := ite_t c9 h
      refine lv_iconst (v := I (-1)) C0.1 C0.2.1 dX7_keeps_17 rfl ?_
      exact ret_i (wf := wE g) C0 hr hlk hE h lit_m1 hR dX7_keeps_18
set_option maxRecDepth 100000 in
set_option maxHeartbeats 4000000 in
theorem c_E_skips (l : Launch) (D : va_G) (g : Ad) {σ σr : St} {p1 p2 p3 r : Int} (hR : R32 σ) (i_p1 : in32 p1) (i_p2 : in32 p2) (i_p3 : in32 p3) (h : E_skips σ p1 p2 p3 = some (r, σr)) : CtI l D g yX7_skips cX7_skips 5 (some .int) 18 (wE g σ) (wE g σr) [.ref (g.2 0), .int (I p1), .int (I p2), .int (I p3)] r (in32 r ∧ R32 σr) := by
  intro sz
  refine met_of (by decide) (Nat.le_of_ble_eq_true rfl) (fun p e s m args below meth c ls H locs C0 hml hr hlk hE hl => ?_)
  have C0 : CX p c cX7_skips m s args D g RX7 := C0
  have hl : lv_has ls 5 [(0, .ref (g.2 0)), (1, .int (I p1)), (2, .int (I p2)), (3, .int (I p3))] := hl
  unfold E_skips at h
  refine lv_aload_n C0.1 C0.2.1 dX7_skips_0 rfl (lv_at hl 0 rfl) ?_
  refine lv_iload_n C0.1 C0.2.1 dX7_skips_1 rfl (lv_at hl 1 rfl) ?_
  refine lv_iconst (v := I 0) C0.1 C0.2.1 dX7_skips_2 rfl ?_
  refine lv_iload_n C0.1 C0.2.1 dX7_skips_3 rfl (lv_at hl 2 rfl) ?_
  obtain ⟨v1, h_v1, h⟩ := bndp_s h
  refine callV_i (rest := []) C0 hml hE (E_rec C0 hE) (c_E_isRange l D g hR i_p1 lit_0 i_p2 h_v1) kw_X7_194 ⟨Nat.le_of_ble_eq_true rfl, Nat.le_of_ble_eq_true rfl⟩ rfl hl.1 rfl (Nat.le_of_ble_eq_true rfl) dX7_skips_4 ⟨Nat.zero_le _, Nat.zero_le _⟩ (fun H locs hE i_v1 => ?_)
  refine x_if_eq C0 i_v1 dX7_skips_7 (tgt := 17) (by decide) (fun c9 => ?_) (fun c9 => ?_)
  · have h := ite_t c9 h
    refine lv_iconst (v := I (-1)) C0.1 C0.2.1 dX7_skips_17 rfl ?_
    exact ret_i (wf := wE g) C0 hr hlk hE h lit_m1 hR dX7_skips_18
  · have h := ite_f c9 h
    refine lv_iload_n C0.1 C0.2.1 dX7_skips_10 rfl (lv_at hl 3 rfl) ?_
    obtain ⟨v2, h_v2, h⟩ := bndp_s h
    refine callS_i (rest := []) C0 hml hE (c_E_isPlace l D g (σ := σ) i_p3 h_v2) kw_X7_86 ⟨Nat.le_of_ble_eq_true rfl, Nat.le_of_ble_eq_true rfl⟩ rfl hl.1 rfl (Nat.le_of_ble_eq_true rfl) dX7_skips_11 ⟨Nat.zero_le _, Nat.zero_le _⟩ (fun H locs hE i_v2 => ?_)
    refine x_if_ne C0 i_v2 dX7_skips_14 (tgt := 19) (by decide) (fun c9 => ?_) (fun c9 => ?_)
    · have h := ite_f c9 h
      refine lv_aload_n C0.1 C0.2.1 dX7_skips_19 rfl (lv_at hl 0 rfl) ?_
      obtain ⟨v3, s4, h_v3, h⟩ := bnd_s h
      refine callV_i (rest := []) C0 hml hE (E_rec C0 hE) (c_E_begin l D g hR h_v3) kw_X7_120 ⟨Nat.le_of_ble_eq_true rfl, Nat.le_of_ble_eq_true rfl⟩ rfl hl.1 rfl (Nat.le_of_ble_eq_true rfl) dX7_skips_20 ⟨Nat.zero_le _, Nat.zero_le _⟩ (fun H locs hE ⟨i_v3, hR⟩ => ?_)
      refine lv_istore (lv' := [(4, .int (I v3)), (0, .ref (g.2 0)), (1, .int (I p1)), (2, .int (I p2)), (3, .int (I p3))]) C0.1 C0.2.1 dX7_skips_23 hl (by decide) rfl (fun ls hl => ?_)
      refine lv_aload_n C0.1 C0.2.1 dX7_skips_25 rfl (lv_at hl 1 rfl) ?_
      refine lv_iload_n C0.1 C0.2.1 dX7_skips_26 rfl (lv_at hl 4 rfl) ?_
      refine lv_aload_n C0.1 C0.2.1 dX7_skips_27 rfl (lv_at hl 1 rfl) ?_
      refine E_g_pool C0 hE fk_X7_10 dX7_skips_28 ?_
      refine lv_aload_n C0.1 C0.2.1 dX7_skips_31 rfl (lv_at hl 1 rfl) ?_
      refine E_g_trees C0 hE fk_X7_49 dX7_skips_32 ?_
      refine lv_iload_n C0.1 C0.2.1 dX7_skips_35 rfl (lv_at hl 2 rfl) ?_
      obtain ⟨v5, e_v5, i_v5, h⟩ := rd_s hR h
      refine E_trees_l C0 hE i_p1 e_v5 dX7_skips_36 ?_
      refine lv_aload_n C0.1 C0.2.1 dX7_skips_37 rfl (lv_at hl 1 rfl) ?_
      refine E_g_sizes C0 hE fk_X7_53 dX7_skips_38 ?_
      refine lv_iload_n C0.1 C0.2.1 dX7_skips_41 rfl (lv_at hl 2 rfl) ?_
      obtain ⟨v6, e_v6, i_v6, h⟩ := rd_s hR h
      refine E_sizes_l C0 hE i_p1 e_v6 dX7_skips_42 ?_
      refine lv_iload_n C0.1 C0.2.1 dX7_skips_43 rfl (lv_at hl 3 rfl) ?_
      refine lv_iconst (v := I 2) C0.1 C0.2.1 dX7_skips_44 rfl ?_
      obtain ⟨v7, s8, h_v7, h⟩ := bnd_s h
      refine callV_i (rest := [.int (I p3), .ref (g.2 0)]) C0 hml hE (Pool_rec C0 hE) (c_Pool_takeMany l D g hR i_v5 i_v6 i_p2 lit_2 h_v7) kw_X7_225 ⟨Nat.le_of_ble_eq_true rfl, Nat.le_of_ble_eq_true rfl⟩ rfl hl.1 rfl (Nat.le_of_ble_eq_true rfl) dX7_skips_45 ⟨Nat.zero_le _, Nat.zero_le _⟩ (fun H locs hE ⟨i_v7, hR⟩ => ?_)
      refine lv_aload_n C0.1 C0.2.1 dX7_skips_48 rfl (lv_at hl 1 rfl) ?_
      refine E_g_sizes C0 hE fk_X7_53 dX7_skips_49 ?_
      refine lv_iload_n C0.1 C0.2.1 dX7_skips_52 rfl (lv_at hl 2 rfl) ?_
      obtain ⟨v9, e_v9, i_v9, h⟩ := rd_s hR h
      refine E_sizes_l C0 hE i_p1 e_v9 dX7_skips_53 ?_
      refine lv_iload_n C0.1 C0.2.1 dX7_skips_54 rfl (lv_at hl 3 rfl) ?_
      obtain ⟨v10, e_v10, i_v10, h⟩ := osub_s h
      refine x_sub C0 e_v10 dX7_skips_55 ?_
      obtain ⟨v11, s12, h_v11, h⟩ := bnd_s h
      refine callV_i (rest := []) C0 hml hE (E_rec C0 hE) (c_E_keep l D g hR i_p3 i_v7 i_v10 h_v11) kw_X7_126 ⟨Nat.le_of_ble_eq_true rfl, Nat.le_of_ble_eq_true rfl⟩ rfl hl.1 rfl (Nat.le_of_ble_eq_true rfl) dX7_skips_56 ⟨Nat.zero_le _, Nat.zero_le _⟩ (fun H locs hE ⟨i_v11, hR⟩ => ?_)
      refine lv_pop C0.1 C0.2.1 dX7_skips_59 rfl ?_
      refine lv_aload_n C0.1 C0.2.1 dX7_skips_60 rfl (lv_at hl 1 rfl) ?_
      refine E_g_pool C0 hE fk_X7_10 dX7_skips_61 ?_
      obtain ⟨v13, e_v13, i_v13, h⟩ := gf_s hR h
      refine Pool_n_made C0 hE e_v13 nk_X7_130 dX7_skips_64 ?_
      refine lv_iload C0.1 C0.2.1 dX7_skips_67 (lv_at hl 0 rfl) ?_
      obtain ⟨v14, e_v14, i_v14, h⟩ := osub_s h
      refine x_sub C0 e_v14 dX7_skips_69 ?_
      exact ret_i (wf := wE g) C0 hr hlk hE h i_v14 hR dX7_skips_70
    · have h := ite_t c9 h
      refine lv_iconst (v := I (-1)) C0.1 C0.2.1 dX7_skips_17 rfl ?_
      exact ret_i (wf := wE g) C0 hr hlk hE h lit_m1 hR dX7_skips_18
set_option maxRecDepth 100000 in
set_option maxHeartbeats 4000000 in
theorem c_E_slips (l : Launch) (D : va_G) (g : Ad) {σ σr : St} {p1 p2 p3 p4 r : Int} (hR : R32 σ) (i_p1 : in32 p1) (i_p2 : in32 p2) (i_p3 : in32 p3) (i_p4 : in32 p4) (h : E_slips σ p1 p2 p3 p4 = some (r, σr)) : CtI l D g yX7_slips cX7_slips 7 (some .int) 7 (wE g σ) (wE g σr) [.ref (g.2 0), .int (I p1), .int (I p2), .int (I p3), .int (I p4)] r (in32 r ∧ R32 σr) := by
  intro sz
  refine met_of (by decide) (Nat.le_of_ble_eq_true rfl) (fun p e s m args below meth c ls H locs C0 hml hr hlk hE hl => ?_)
  have C0 : CX p c cX7_slips m s args D g RX7 := C0
  have hl : lv_has ls 7 [(0, .ref (g.2 0)), (1, .int (I p1)), (2, .int (I p2)), (3, .int (I p3)), (4, .int (I p4))] := hl
  unfold E_slips at h
  refine lv_aload_n C0.1 C0.2.1 dX7_slips_0 rfl (lv_at hl 0 rfl) ?_
  refine lv_iload_n C0.1 C0.2.1 dX7_slips_1 rfl (lv_at hl 1 rfl) ?_
  refine lv_iconst (v := I 0) C0.1 C0.2.1 dX7_slips_2 rfl ?_
  refine lv_iload_n C0.1 C0.2.1 dX7_slips_3 rfl (lv_at hl 2 rfl) ?_
  obtain ⟨v1, h_v1, h⟩ := bndp_s h
  refine callV_i (rest := []) C0 hml hE (E_rec C0 hE) (c_E_isRange l D g hR i_p1 lit_0 i_p2 h_v1) kw_X7_194 ⟨Nat.le_of_ble_eq_true rfl, Nat.le_of_ble_eq_true rfl⟩ rfl hl.1 rfl (Nat.le_of_ble_eq_true rfl) dX7_slips_4 ⟨Nat.zero_le _, Nat.zero_le _⟩ (fun H locs hE i_v1 => ?_)
  refine x_if_eq C0 i_v1 dX7_slips_7 (tgt := 25) (by decide) (fun c9 => ?_) (fun c9 => ?_)
  · have h := ite_t c9 h
    refine lv_iconst (v := I (-1)) C0.1 C0.2.1 dX7_slips_25 rfl ?_
    exact ret_i (wf := wE g) C0 hr hlk hE h lit_m1 hR dX7_slips_26
  · have h := ite_f c9 h
    refine lv_iload_n C0.1 C0.2.1 dX7_slips_10 rfl (lv_at hl 3 rfl) ?_
    obtain ⟨v2, h_v2, h⟩ := bndp_s h
    refine callS_i (rest := []) C0 hml hE (c_E_isNumber l D g (σ := σ) i_p3 h_v2) kw_X7_117 ⟨Nat.le_of_ble_eq_true rfl, Nat.le_of_ble_eq_true rfl⟩ rfl hl.1 rfl (Nat.le_of_ble_eq_true rfl) dX7_slips_11 ⟨Nat.zero_le _, Nat.zero_le _⟩ (fun H locs hE i_v2 => ?_)
    refine x_if_eq C0 i_v2 dX7_slips_14 (tgt := 25) (by decide) (fun c9 => ?_) (fun c9 => ?_)
    · have h := ite_t c9 h
      refine lv_iconst (v := I (-1)) C0.1 C0.2.1 dX7_slips_25 rfl ?_
      exact ret_i (wf := wE g) C0 hr hlk hE h lit_m1 hR dX7_slips_26
    · have h := ite_f c9 h
      refine lv_iload C0.1 C0.2.1 dX7_slips_17 (lv_at hl 4 rfl) ?_
      obtain ⟨v3, h_v3, h⟩ := bndp_s h
      refine callS_i (rest := []) C0 hml hE (c_E_isPlace l D g (σ := σ) i_p4 h_v3) kw_X7_86 ⟨Nat.le_of_ble_eq_true rfl, Nat.le_of_ble_eq_true rfl⟩ rfl hl.1 rfl (Nat.le_of_ble_eq_true rfl) dX7_slips_19 ⟨Nat.zero_le _, Nat.zero_le _⟩ (fun H locs hE i_v3 => ?_)
      refine x_if_ne C0 i_v3 dX7_slips_22 (tgt := 27) (by decide) (fun c9 => ?_) (fun c9 => ?_)
      · have h := ite_f c9 h
        refine lv_aload_n C0.1 C0.2.1 dX7_slips_27 rfl (lv_at hl 0 rfl) ?_
        refine E_g_sizes C0 hE fk_X7_53 dX7_slips_28 ?_
        refine lv_iload_n C0.1 C0.2.1 dX7_slips_31 rfl (lv_at hl 1 rfl) ?_
        obtain ⟨v4, e_v4, i_v4, h⟩ := rd_s hR h
        refine E_sizes_l C0 hE i_p1 e_v4 dX7_slips_32 ?_
        refine lv_istore (lv' := [(5, .int (I v4)), (0, .ref (g.2 0)), (1, .int (I p1)), (2, .int (I p2)), (3, .int (I p3)), (4, .int (I p4))]) C0.1 C0.2.1 dX7_slips_33 hl (by decide) rfl (fun ls hl => ?_)
        refine lv_iload C0.1 C0.2.1 dX7_slips_35 (lv_at hl 0 rfl) ?_
        refine lv_sipush (v := I 255) C0.1 C0.2.1 dX7_slips_37 (by decide +kernel) ?_
        refine x_icmp_ne C0 i_v4 lit_255 dX7_slips_40 (tgt := 46) (by decide) (fun c9 => ?_) (fun c9 => ?_)
        · have h := ite_f c9 h
          refine lv_aload_n C0.1 C0.2.1 dX7_slips_46 rfl (lv_at hl 1 rfl) ?_
          refine E_g_pool C0 hE fk_X7_10 dX7_slips_47 ?_
          refine lv_aload_n C0.1 C0.2.1 dX7_slips_50 rfl (lv_at hl 1 rfl) ?_
          refine E_g_trees C0 hE fk_X7_49 dX7_slips_51 ?_
          refine lv_iload_n C0.1 C0.2.1 dX7_slips_54 rfl (lv_at hl 2 rfl) ?_
          obtain ⟨v5, e_v5, i_v5, h⟩ := rd_s hR h
          refine E_trees_l C0 hE i_p1 e_v5 dX7_slips_55 ?_
          refine lv_iload C0.1 C0.2.1 dX7_slips_56 (lv_at hl 0 rfl) ?_
          refine lv_aload_n C0.1 C0.2.1 dX7_slips_58 rfl (lv_at hl 1 rfl) ?_
          refine E_g_one C0 hE fk_X7_56 dX7_slips_59 ?_
          obtain ⟨v6, s7, h_v6, h⟩ := bnd_s h
          refine callV_v (rest := []) C0 hml hE (Pool_rec C0 hE) (c_Pool_read_one l D g hR i_v5 i_v4 h_v6) kw_X7_201 ⟨Nat.le_of_ble_eq_true rfl, Nat.le_of_ble_eq_true rfl⟩ rfl hl.1 rfl (Nat.le_of_ble_eq_true rfl) dX7_slips_62 ⟨Nat.zero_le _, Nat.zero_le _⟩ (fun H locs hE hR => ?_)
          refine lv_iconst (v := I 0) C0.1 C0.2.1 dX7_slips_65 rfl ?_
          refine lv_istore (lv' := [(6, .int (I 0)), (5, .int (I v4)), (0, .ref (g.2 0)), (1, .int (I p1)), (2, .int (I p2)), (3, .int (I p3)), (4, .int (I p4))]) C0.1 C0.2.1 dX7_slips_66 hl (by decide) rfl (fun ls hl => ?_)
          obtain ⟨k9, e_k9, h⟩ := jn_s h
          have h_k9 : ∀ (s8 : St) (hR : R32 s8) (H : Heap) (locs : List Loc) (ls : Array Slot), EW D (va_A (wE g σ) sz) s.heap (wE g s8) H locs → lv_has ls 7 [(0, .ref (g.2 0)), (2, .int (I p2)), (3, .int (I p3)), (4, .int (I p4)), (5, .int (I v4))] → k9 s8 = some (r, σr) → W p l e (rmk 7) s m args below meth c H locs 0 0 (MQ below (QCi D (wE g σr) r (in32 r ∧ R32 σr) (va_A (wE g σ) sz)) args s 0 0 (va_A (wE g σ) sz)) (F0 m 108 ls []) := by
            intro s8 hR H locs ls hE hl h
            have h := (congrFun e_k9 s8).symm.trans h
            refine lv_aload_n C0.1 C0.2.1 dX7_slips_108 rfl (lv_at hl 0 rfl) ?_
            refine E_g_fresh C0 hE fk_X7_62 dX7_slips_109 ?_
            refine lv_iload_n C0.1 C0.2.1 dX7_slips_112 rfl (lv_at hl 1 rfl) ?_
            refine lv_iload_n C0.1 C0.2.1 dX7_slips_113 rfl (lv_at hl 2 rfl) ?_
            obtain ⟨s10, e_s10, hR, h⟩ := wr_s hR i_p3 h
            refine E_fresh_st C0 hE i_p2 e_s10 dX7_slips_114 (fun H locs hE => ?_)
            refine lv_aload_n C0.1 C0.2.1 dX7_slips_115 rfl (lv_at hl 0 rfl) ?_
            refine lv_iload C0.1 C0.2.1 dX7_slips_116 (lv_at hl 3 rfl) ?_
            refine lv_iload C0.1 C0.2.1 dX7_slips_118 (lv_at hl 4 rfl) ?_
            refine lv_iconst (v := I 1) C0.1 C0.2.1 dX7_slips_120 rfl ?_
            obtain ⟨v11, e_v11, i_v11, h⟩ := oadd_s h
            refine x_add C0 e_v11 dX7_slips_121 ?_
            obtain ⟨v12, s13, h_v12, h⟩ := bnd_s h
            refine callV_i (rest := []) C0 hml hE (E_rec C0 hE) (c_E_build l D g hR i_p4 i_v11 h_v12) kw_X7_89 ⟨Nat.le_of_ble_eq_true rfl, Nat.le_of_ble_eq_true rfl⟩ rfl hl.1 rfl (Nat.le_of_ble_eq_true rfl) dX7_slips_122 ⟨Nat.zero_le _, Nat.zero_le _⟩ (fun H locs hE ⟨i_v12, hR⟩ => ?_)
            exact ret_i (wf := wE g) C0 hr hlk hE h i_v12 hR dX7_slips_125
          have hL68 : ∀ (n : Nat) (s15 : St) (hR : R32 s15) (x14 : Int) (i_x14 : in32 x14) (H : Heap) (locs : List Loc) (ls : Array Slot), EW D (va_A (wE g σ) sz) s.heap (wE g s15) H locs → lv_has ls 7 [(0, .ref (g.2 0)), (2, .int (I p2)), (3, .int (I p3)), (4, .int (I p4)), (5, .int (I v4)), (6, .int (I x14))] → E_slips_L68 k9 p2 v4 n s15 x14 = some (r, σr) → W p l e (rmk 7) s m args below meth c H locs 0 0 (MQ below (QCi D (wE g σr) r (in32 r ∧ R32 σr) (va_A (wE g σ) sz)) args s 0 0 (va_A (wE g σ) sz)) (F0 m 68 ls []) := by
            intro n
            induction n with
            | zero => intros; rename_i h; cases h
            | succ n ih16 =>
              intro s15 hR x14 i_x14 H locs ls hE hl h
              unfold E_slips_L68 at h
              refine lv_iload C0.1 C0.2.1 dX7_slips_68 (lv_at hl 5 rfl) ?_
              refine lv_iload C0.1 C0.2.1 dX7_slips_70 (lv_at hl 4 rfl) ?_
              refine x_icmp_ge C0 i_x14 i_v4 dX7_slips_72 (tgt := 108) (by decide) (fun c9 => ?_) (fun c9 => ?_)
              · have h := ite_f c9 h
                exact h_k9 s15 hR _ _ _ hE (lv_sub hl [0, 1, 2, 3, 4] rfl) h
              · have h := ite_t c9 h
                refine lv_aload_n C0.1 C0.2.1 dX7_slips_75 rfl (lv_at hl 0 rfl) ?_
                refine E_g_fresh C0 hE fk_X7_62 dX7_slips_76 ?_
                refine lv_iload C0.1 C0.2.1 dX7_slips_79 (lv_at hl 5 rfl) ?_
                refine lv_iload_n C0.1 C0.2.1 dX7_slips_81 rfl (lv_at hl 1 rfl) ?_
                obtain ⟨v17, e_v17, i_v17, h⟩ := oif_s h
                have kk_v17 : W p l e (rmk 7) s m args below meth c H locs 0 0 (MQ below (QCi D (wE g σr) r (in32 r ∧ R32 σr) (va_A (wE g σ) sz)) args s 0 0 (va_A (wE g σ) sz)) (F0 m 94 ls [.int (I v17), .ref (g.2 28)]) := by
                  refine lv_aload_n C0.1 C0.2.1 dX7_slips_94 rfl (lv_at hl 0 rfl) ?_
                  refine E_g_one C0 hE fk_X7_56 dX7_slips_95 ?_
                  refine lv_iload C0.1 C0.2.1 dX7_slips_98 (lv_at hl 5 rfl) ?_
                  obtain ⟨v18, e_v18, i_v18, h⟩ := rd_s hR h
                  refine E_one_l C0 hE i_x14 e_v18 dX7_slips_100 ?_
                  obtain ⟨s19, e_s19, hR, h⟩ := wr_s hR i_v18 h
                  refine E_fresh_st C0 hE i_v17 e_s19 dX7_slips_101 (fun H locs hE => ?_)
                  obtain ⟨v20, e_v20, i_v20, h⟩ := oadd_s h
                  refine x_iinc (lv' := [(6, .int (I v20)), (0, .ref (g.2 0)), (2, .int (I p2)), (3, .int (I p3)), (4, .int (I p4)), (5, .int (I v4))]) C0 dX7_slips_102 hl (k := 5) rfl e_v20 (by decide) rfl (fun ls hl => ?_)
                  refine x_goto C0 dX7_slips_105 (tgt := 68) (by decide) ?_
                  exact ih16 s19 hR v20 i_v20 _ _ _ hE (lv_sub hl [1, 2, 3, 4, 5, 0] rfl) h
                refine x_icmp_ge C0 i_x14 i_p2 dX7_slips_82 (tgt := 90) (by decide) (fun c9 => ?_) (fun c9 => ?_)
                · have e9 := e_v17.trans (if_neg c9)
                  refine lv_iload C0.1 C0.2.1 dX7_slips_90 (lv_at hl 5 rfl) ?_
                  refine lv_iconst (v := I 1) C0.1 C0.2.1 dX7_slips_92 rfl ?_
                  refine x_add (v := x14 + 1) C0 rfl dX7_slips_93 ?_
                  rw [e9] at kk_v17; exact kk_v17
                · have e9 := e_v17.trans (if_pos c9)
                  refine lv_iload C0.1 C0.2.1 dX7_slips_85 (lv_at hl 5 rfl) ?_
                  refine x_goto C0 dX7_slips_87 (tgt := 94) (by decide) ?_
                  rw [e9] at kk_v17; exact kk_v17
          exact hL68 FU s7 hR 0 lit_0 _ _ _ hE (lv_sub hl [2, 4, 5, 6, 1, 0] rfl) h
        · have h := ite_t c9 h
          refine lv_bipush (v := I (-2)) C0.1 C0.2.1 dX7_slips_43 (by decide +kernel) ?_
          exact ret_i (wf := wE g) C0 hr hlk hE h lit_m2 hR dX7_slips_45
      · have h := ite_t c9 h
        refine lv_iconst (v := I (-1)) C0.1 C0.2.1 dX7_slips_25 rfl ?_
        exact ret_i (wf := wE g) C0 hr hlk hE h lit_m1 hR dX7_slips_26
set_option maxRecDepth 100000 in
set_option maxHeartbeats 4000000 in
theorem c_E_swaps (l : Launch) (D : va_G) (g : Ad) {σ σr : St} {p1 p2 p3 p4 r : Int} (hR : R32 σ) (i_p1 : in32 p1) (i_p2 : in32 p2) (i_p3 : in32 p3) (i_p4 : in32 p4) (h : E_swaps σ p1 p2 p3 p4 = some (r, σr)) : CtI l D g yX7_swaps cX7_swaps 6 (some .int) 7 (wE g σ) (wE g σr) [.ref (g.2 0), .int (I p1), .int (I p2), .int (I p3), .int (I p4)] r (in32 r ∧ R32 σr) := by
  intro sz
  refine met_of (by decide) (Nat.le_of_ble_eq_true rfl) (fun p e s m args below meth c ls H locs C0 hml hr hlk hE hl => ?_)
  have C0 : CX p c cX7_swaps m s args D g RX7 := C0
  have hl : lv_has ls 6 [(0, .ref (g.2 0)), (1, .int (I p1)), (2, .int (I p2)), (3, .int (I p3)), (4, .int (I p4))] := hl
  unfold E_swaps at h
  refine lv_aload_n C0.1 C0.2.1 dX7_swaps_0 rfl (lv_at hl 0 rfl) ?_
  refine lv_iload_n C0.1 C0.2.1 dX7_swaps_1 rfl (lv_at hl 1 rfl) ?_
  refine lv_iload_n C0.1 C0.2.1 dX7_swaps_2 rfl (lv_at hl 2 rfl) ?_
  obtain ⟨v1, h_v1, h⟩ := bndp_s h
  refine callV_i (rest := []) C0 hml hE (E_rec C0 hE) (c_E_isIndex l D g hR i_p1 i_p2 h_v1) kw_X7_165 ⟨Nat.le_of_ble_eq_true rfl, Nat.le_of_ble_eq_true rfl⟩ rfl hl.1 rfl (Nat.le_of_ble_eq_true rfl) dX7_swaps_3 ⟨Nat.zero_le _, Nat.zero_le _⟩ (fun H locs hE i_v1 => ?_)
  refine x_if_eq C0 i_v1 dX7_swaps_6 (tgt := 26) (by decide) (fun c9 => ?_) (fun c9 => ?_)
  · have h := ite_t c9 h
    refine lv_iconst (v := I (-1)) C0.1 C0.2.1 dX7_swaps_26 rfl ?_
    exact ret_i (wf := wE g) C0 hr hlk hE h lit_m1 hR dX7_swaps_27
  · have h := ite_f c9 h
    refine lv_aload_n C0.1 C0.2.1 dX7_swaps_9 rfl (lv_at hl 0 rfl) ?_
    refine lv_iload_n C0.1 C0.2.1 dX7_swaps_10 rfl (lv_at hl 1 rfl) ?_
    refine lv_iload_n C0.1 C0.2.1 dX7_swaps_11 rfl (lv_at hl 3 rfl) ?_
    obtain ⟨v2, h_v2, h⟩ := bndp_s h
    refine callV_i (rest := []) C0 hml hE (E_rec C0 hE) (c_E_isIndex l D g hR i_p1 i_p3 h_v2) kw_X7_165 ⟨Nat.le_of_ble_eq_true rfl, Nat.le_of_ble_eq_true rfl⟩ rfl hl.1 rfl (Nat.le_of_ble_eq_true rfl) dX7_swaps_12 ⟨Nat.zero_le _, Nat.zero_le _⟩ (fun H locs hE i_v2 => ?_)
    refine x_if_eq C0 i_v2 dX7_swaps_15 (tgt := 26) (by decide) (fun c9 => ?_) (fun c9 => ?_)
    · have h := ite_t c9 h
      refine lv_iconst (v := I (-1)) C0.1 C0.2.1 dX7_swaps_26 rfl ?_
      exact ret_i (wf := wE g) C0 hr hlk hE h lit_m1 hR dX7_swaps_27
    · have h := ite_f c9 h
      refine lv_iload C0.1 C0.2.1 dX7_swaps_18 (lv_at hl 4 rfl) ?_
      obtain ⟨v3, h_v3, h⟩ := bndp_s h
      refine callS_i (rest := []) C0 hml hE (c_E_isPlace l D g (σ := σ) i_p4 h_v3) kw_X7_86 ⟨Nat.le_of_ble_eq_true rfl, Nat.le_of_ble_eq_true rfl⟩ rfl hl.1 rfl (Nat.le_of_ble_eq_true rfl) dX7_swaps_20 ⟨Nat.zero_le _, Nat.zero_le _⟩ (fun H locs hE i_v3 => ?_)
      refine x_if_ne C0 i_v3 dX7_swaps_23 (tgt := 28) (by decide) (fun c9 => ?_) (fun c9 => ?_)
      · have h := ite_f c9 h
        refine lv_aload_n C0.1 C0.2.1 dX7_swaps_28 rfl (lv_at hl 0 rfl) ?_
        refine lv_iload_n C0.1 C0.2.1 dX7_swaps_29 rfl (lv_at hl 1 rfl) ?_
        refine lv_iload_n C0.1 C0.2.1 dX7_swaps_30 rfl (lv_at hl 1 rfl) ?_
        obtain ⟨v4, s5, h_v4, h⟩ := bnd_s h
        refine callV_v (rest := []) C0 hml hE (E_rec C0 hE) (c_E_readBoth l D g hR i_p1 i_p1 h_v4) kw_X7_177 ⟨Nat.le_of_ble_eq_true rfl, Nat.le_of_ble_eq_true rfl⟩ rfl hl.1 rfl (Nat.le_of_ble_eq_true rfl) dX7_swaps_31 ⟨Nat.zero_le _, Nat.zero_le _⟩ (fun H locs hE hR => ?_)
        refine lv_aload_n C0.1 C0.2.1 dX7_swaps_34 rfl (lv_at hl 0 rfl) ?_
        refine E_g_one C0 hE fk_X7_56 dX7_swaps_35 ?_
        refine lv_iload_n C0.1 C0.2.1 dX7_swaps_38 rfl (lv_at hl 2 rfl) ?_
        obtain ⟨v6, e_v6, i_v6, h⟩ := rd_s hR h
        refine E_one_l C0 hE i_p2 e_v6 dX7_swaps_39 ?_
        refine lv_istore (lv' := [(5, .int (I v6)), (0, .ref (g.2 0)), (1, .int (I p1)), (2, .int (I p2)), (3, .int (I p3)), (4, .int (I p4))]) C0.1 C0.2.1 dX7_swaps_40 hl (by decide) rfl (fun ls hl => ?_)
        refine lv_aload_n C0.1 C0.2.1 dX7_swaps_42 rfl (lv_at hl 1 rfl) ?_
        refine E_g_one C0 hE fk_X7_56 dX7_swaps_43 ?_
        refine lv_iload_n C0.1 C0.2.1 dX7_swaps_46 rfl (lv_at hl 3 rfl) ?_
        refine lv_aload_n C0.1 C0.2.1 dX7_swaps_47 rfl (lv_at hl 1 rfl) ?_
        refine E_g_one C0 hE fk_X7_56 dX7_swaps_48 ?_
        refine lv_iload_n C0.1 C0.2.1 dX7_swaps_51 rfl (lv_at hl 4 rfl) ?_
        obtain ⟨v7, e_v7, i_v7, h⟩ := rd_s hR h
        refine E_one_l C0 hE i_p3 e_v7 dX7_swaps_52 ?_
        obtain ⟨s8, e_s8, hR, h⟩ := wr_s hR i_v7 h
        refine E_one_st C0 hE i_p2 e_s8 dX7_swaps_53 (fun H locs hE => ?_)
        refine lv_aload_n C0.1 C0.2.1 dX7_swaps_54 rfl (lv_at hl 1 rfl) ?_
        refine E_g_one C0 hE fk_X7_56 dX7_swaps_55 ?_
        refine lv_iload_n C0.1 C0.2.1 dX7_swaps_58 rfl (lv_at hl 4 rfl) ?_
        refine lv_iload C0.1 C0.2.1 dX7_swaps_59 (lv_at hl 0 rfl) ?_
        obtain ⟨s9, e_s9, hR, h⟩ := wr_s hR i_v6 h
        refine E_one_st C0 hE i_p3 e_s9 dX7_swaps_61 (fun H locs hE => ?_)
        refine lv_aload_n C0.1 C0.2.1 dX7_swaps_62 rfl (lv_at hl 1 rfl) ?_
        refine lv_aload_n C0.1 C0.2.1 dX7_swaps_63 rfl (lv_at hl 1 rfl) ?_
        refine E_g_sizes C0 hE fk_X7_53 dX7_swaps_64 ?_
        refine lv_iload_n C0.1 C0.2.1 dX7_swaps_67 rfl (lv_at hl 2 rfl) ?_
        obtain ⟨v10, e_v10, i_v10, h⟩ := rd_s hR h
        refine E_sizes_l C0 hE i_p1 e_v10 dX7_swaps_68 ?_
        obtain ⟨v11, s12, h_v11, h⟩ := bnd_s h
        refine callV_i (rest := []) C0 hml hE (E_rec C0 hE) (c_E_markUnlike l D g hR i_v10 h_v11) kw_X7_181 ⟨Nat.le_of_ble_eq_true rfl, Nat.le_of_ble_eq_true rfl⟩ rfl hl.1 rfl (Nat.le_of_ble_eq_true rfl) dX7_swaps_69 ⟨Nat.zero_le _, Nat.zero_le _⟩ (fun H locs hE ⟨i_v11, hR⟩ => ?_)
        refine lv_pop C0.1 C0.2.1 dX7_swaps_72 rfl ?_
        refine lv_aload_n C0.1 C0.2.1 dX7_swaps_73 rfl (lv_at hl 1 rfl) ?_
        refine lv_iload_n C0.1 C0.2.1 dX7_swaps_74 rfl (lv_at hl 2 rfl) ?_
        refine lv_iload C0.1 C0.2.1 dX7_swaps_75 (lv_at hl 5 rfl) ?_
        obtain ⟨v13, s14, h_v13, h⟩ := bnd_s h
        refine callV_i (rest := []) C0 hml hE (E_rec C0 hE) (c_E_renew l D g hR i_p1 i_p4 h_v13) kw_X7_184 ⟨Nat.le_of_ble_eq_true rfl, Nat.le_of_ble_eq_true rfl⟩ rfl hl.1 rfl (Nat.le_of_ble_eq_true rfl) dX7_swaps_77 ⟨Nat.zero_le _, Nat.zero_le _⟩ (fun H locs hE ⟨i_v13, hR⟩ => ?_)
        exact ret_i (wf := wE g) C0 hr hlk hE h i_v13 hR dX7_swaps_80
      · have h := ite_t c9 h
        refine lv_iconst (v := I (-1)) C0.1 C0.2.1 dX7_swaps_26 rfl ?_
        exact ret_i (wf := wE g) C0 hr hlk hE h lit_m1 hR dX7_swaps_27
set_option maxRecDepth 100000 in
set_option maxHeartbeats 4000000 in
theorem c_E_joined (l : Launch) (D : va_G) (g : Ad) {σ : St} {p1 p2 p3 r : Int} (i_p1 : in32 p1) (i_p2 : in32 p2) (i_p3 : in32 p3) (h : E_joined p1 p2 p3 = some r) : CtI l D g yX7_joined cX7_joined 3 (some .int) 2 (wE g σ) (wE g σ) [.int (I p1), .int (I p2), .int (I p3)] r (in32 r) := by
  intro sz
  refine met_of (by decide) (Nat.le_of_ble_eq_true rfl) (fun p e s m args below meth c ls H locs C0 hml hr hlk hE hl => ?_)
  have C0 : CX p c cX7_joined m s args D g RX7 := C0
  have hl : lv_has ls 3 [(0, .int (I p1)), (1, .int (I p2)), (2, .int (I p3))] := hl
  unfold E_joined at h
  refine lv_iload_n C0.1 C0.2.1 dX7_joined_0 rfl (lv_at hl 2 rfl) ?_
  by_cases q1 : p3 = 0
  · have h := ite_t q1 h
    refine x_tabIn (tgt := 28) C0 0 i_p3 dX7_joined_1 q1 ⟨by decide, by decide, by rfl⟩ (by decide) ?_
    refine lv_iload_n C0.1 C0.2.1 dX7_joined_28 rfl (lv_at hl 0 rfl) ?_
    refine lv_iload_n C0.1 C0.2.1 dX7_joined_29 rfl (lv_at hl 1 rfl) ?_
    obtain ⟨v2, e_v2, i_v2, h⟩ := oadd_s h
    refine x_add C0 e_v2 dX7_joined_30 ?_
    obtain ⟨v3, h_v3, h⟩ := bndp_s h
    refine callS_i (rest := []) C0 hml hE (c_E_held l D g (σ := σ) i_v2 h_v3) kw_X7_205 ⟨Nat.le_of_ble_eq_true rfl, Nat.le_of_ble_eq_true rfl⟩ rfl hl.1 rfl (Nat.le_of_ble_eq_true rfl) dX7_joined_31 ⟨Nat.zero_le _, Nat.zero_le _⟩ (fun H locs hE i_v3 => ?_)
    exact pret_i C0 hr hlk hE h i_v3 dX7_joined_34
  have h := ite_f q1 h
  by_cases q4 : p3 = 1
  · have h := ite_t q4 h
    refine x_tabIn (tgt := 35) C0 1 i_p3 dX7_joined_1 q4 ⟨by decide, by decide, by rfl⟩ (by decide) ?_
    refine lv_iload_n C0.1 C0.2.1 dX7_joined_35 rfl (lv_at hl 0 rfl) ?_
    refine lv_iload_n C0.1 C0.2.1 dX7_joined_36 rfl (lv_at hl 1 rfl) ?_
    obtain ⟨v5, e_v5, i_v5, h⟩ := osub_s h
    refine x_sub C0 e_v5 dX7_joined_37 ?_
    obtain ⟨v6, h_v6, h⟩ := bndp_s h
    refine callS_i (rest := []) C0 hml hE (c_E_held l D g (σ := σ) i_v5 h_v6) kw_X7_205 ⟨Nat.le_of_ble_eq_true rfl, Nat.le_of_ble_eq_true rfl⟩ rfl hl.1 rfl (Nat.le_of_ble_eq_true rfl) dX7_joined_38 ⟨Nat.zero_le _, Nat.zero_le _⟩ (fun H locs hE i_v6 => ?_)
    exact pret_i C0 hr hlk hE h i_v6 dX7_joined_41
  have h := ite_f q4 h
  by_cases q7 : p3 = 2
  · have h := ite_t q7 h
    refine x_tabIn (tgt := 42) C0 2 i_p3 dX7_joined_1 q7 ⟨by decide, by decide, by rfl⟩ (by decide) ?_
    refine lv_iload_n C0.1 C0.2.1 dX7_joined_42 rfl (lv_at hl 0 rfl) ?_
    refine lv_iload_n C0.1 C0.2.1 dX7_joined_43 rfl (lv_at hl 1 rfl) ?_
    obtain ⟨v8, e_v8, i_v8, h⟩ := opure_s h (imin_in i_p1 i_p2)
    refine x_min C0 kw_X7_228 (hml.trans hl.1.symm) i_p1 i_p2 e_v8 ⟨Nat.le_of_ble_eq_true rfl, Nat.le_of_ble_eq_true rfl⟩ ⟨Nat.zero_le _, Nat.zero_le _⟩ dX7_joined_44 ?_
    exact pret_i C0 hr hlk hE h i_v8 dX7_joined_47
  have h := ite_f q7 h
  refine x_tabOut (tgt := 48) C0 i_p3 dX7_joined_1 (by omega) (by decide) ?_
  refine lv_iload_n C0.1 C0.2.1 dX7_joined_48 rfl (lv_at hl 0 rfl) ?_
  refine lv_iload_n C0.1 C0.2.1 dX7_joined_49 rfl (lv_at hl 1 rfl) ?_
  obtain ⟨v9, e_v9, i_v9, h⟩ := opure_s h (imax_in i_p1 i_p2)
  refine x_max C0 kw_X7_286 (hml.trans hl.1.symm) i_p1 i_p2 e_v9 ⟨Nat.le_of_ble_eq_true rfl, Nat.le_of_ble_eq_true rfl⟩ ⟨Nat.zero_le _, Nat.zero_le _⟩ dX7_joined_50 ?_
  exact pret_i C0 hr hlk hE h i_v9 dX7_joined_53
set_option maxRecDepth 100000 in
set_option maxHeartbeats 4000000 in
theorem c_E_zips (l : Launch) (D : va_G) (g : Ad) {σ σr : St} {p1 p2 p3 p4 r : Int} (hR : R32 σ) (i_p1 : in32 p1) (i_p2 : in32 p2) (i_p3 : in32 p3) (i_p4 : in32 p4) (h : E_zips σ p1 p2 p3 p4 = some (r, σr)) : CtI l D g yX7_zips cX7_zips 7 (some .int) 7 (wE g σ) (wE g σr) [.ref (g.2 0), .int (I p1), .int (I p2), .int (I p3), .int (I p4)] r (in32 r ∧ R32 σr) := by
  intro sz
  refine met_of (by decide) (Nat.le_of_ble_eq_true rfl) (fun p e s m args below meth c ls H locs C0 hml hr hlk hE hl => ?_)
  have C0 : CX p c cX7_zips m s args D g RX7 := C0
  have hl : lv_has ls 7 [(0, .ref (g.2 0)), (1, .int (I p1)), (2, .int (I p2)), (3, .int (I p3)), (4, .int (I p4))] := hl
  unfold E_zips at h
  refine lv_iload_n C0.1 C0.2.1 dX7_zips_0 rfl (lv_at hl 1 rfl) ?_
  obtain ⟨v1, h_v1, h⟩ := bndp_s h
  refine callS_i (rest := []) C0 hml hE (c_E_isPlace l D g (σ := σ) i_p1 h_v1) kw_X7_86 ⟨Nat.le_of_ble_eq_true rfl, Nat.le_of_ble_eq_true rfl⟩ rfl hl.1 rfl (Nat.le_of_ble_eq_true rfl) dX7_zips_1 ⟨Nat.zero_le _, Nat.zero_le _⟩ (fun H locs hE i_v1 => ?_)
  refine x_if_eq C0 i_v1 dX7_zips_4 (tgt := 31) (by decide) (fun c9 => ?_) (fun c9 => ?_)
  · have h := ite_t c9 h
    refine lv_iconst (v := I (-1)) C0.1 C0.2.1 dX7_zips_31 rfl ?_
    exact ret_i (wf := wE g) C0 hr hlk hE h lit_m1 hR dX7_zips_32
  · have h := ite_f c9 h
    refine lv_iload_n C0.1 C0.2.1 dX7_zips_7 rfl (lv_at hl 2 rfl) ?_
    obtain ⟨v2, h_v2, h⟩ := bndp_s h
    refine callS_i (rest := []) C0 hml hE (c_E_isPlace l D g (σ := σ) i_p2 h_v2) kw_X7_86 ⟨Nat.le_of_ble_eq_true rfl, Nat.le_of_ble_eq_true rfl⟩ rfl hl.1 rfl (Nat.le_of_ble_eq_true rfl) dX7_zips_8 ⟨Nat.zero_le _, Nat.zero_le _⟩ (fun H locs hE i_v2 => ?_)
    refine x_if_eq C0 i_v2 dX7_zips_11 (tgt := 31) (by decide) (fun c9 => ?_) (fun c9 => ?_)
    · have h := ite_t c9 h
      refine lv_iconst (v := I (-1)) C0.1 C0.2.1 dX7_zips_31 rfl ?_
      exact ret_i (wf := wE g) C0 hr hlk hE h lit_m1 hR dX7_zips_32
    · have h := ite_f c9 h
      refine lv_iload_n C0.1 C0.2.1 dX7_zips_14 rfl (lv_at hl 3 rfl) ?_
      refine x_if_lt C0 i_p3 dX7_zips_15 (tgt := 31) (by decide) (fun c9 => ?_) (fun c9 => ?_)
      · have h := ite_t c9 h
        refine lv_iconst (v := I (-1)) C0.1 C0.2.1 dX7_zips_31 rfl ?_
        exact ret_i (wf := wE g) C0 hr hlk hE h lit_m1 hR dX7_zips_32
      · have h := ite_f c9 h
        refine lv_iload_n C0.1 C0.2.1 dX7_zips_18 rfl (lv_at hl 3 rfl) ?_
        refine lv_iconst (v := I 3) C0.1 C0.2.1 dX7_zips_19 rfl ?_
        refine x_icmp_gt C0 i_p3 lit_3 dX7_zips_20 (tgt := 31) (by decide) (fun c9 => ?_) (fun c9 => ?_)
        · have h := ite_t c9 h
          refine lv_iconst (v := I (-1)) C0.1 C0.2.1 dX7_zips_31 rfl ?_
          exact ret_i (wf := wE g) C0 hr hlk hE h lit_m1 hR dX7_zips_32
        · have h := ite_f c9 h
          refine lv_iload C0.1 C0.2.1 dX7_zips_23 (lv_at hl 4 rfl) ?_
          obtain ⟨v3, h_v3, h⟩ := bndp_s h
          refine callS_i (rest := []) C0 hml hE (c_E_isPlace l D g (σ := σ) i_p4 h_v3) kw_X7_86 ⟨Nat.le_of_ble_eq_true rfl, Nat.le_of_ble_eq_true rfl⟩ rfl hl.1 rfl (Nat.le_of_ble_eq_true rfl) dX7_zips_25 ⟨Nat.zero_le _, Nat.zero_le _⟩ (fun H locs hE i_v3 => ?_)
          refine x_if_ne C0 i_v3 dX7_zips_28 (tgt := 33) (by decide) (fun c9 => ?_) (fun c9 => ?_)
          · have h := ite_f c9 h
            refine lv_aload_n C0.1 C0.2.1 dX7_zips_33 rfl (lv_at hl 0 rfl) ?_
            refine lv_iload_n C0.1 C0.2.1 dX7_zips_34 rfl (lv_at hl 1 rfl) ?_
            refine lv_iload_n C0.1 C0.2.1 dX7_zips_35 rfl (lv_at hl 2 rfl) ?_
            obtain ⟨v4, s5, h_v4, h⟩ := bnd_s h
            refine callV_v (rest := []) C0 hml hE (E_rec C0 hE) (c_E_readBoth l D g hR i_p1 i_p2 h_v4) kw_X7_177 ⟨Nat.le_of_ble_eq_true rfl, Nat.le_of_ble_eq_true rfl⟩ rfl hl.1 rfl (Nat.le_of_ble_eq_true rfl) dX7_zips_36 ⟨Nat.zero_le _, Nat.zero_le _⟩ (fun H locs hE hR => ?_)
            refine lv_aload_n C0.1 C0.2.1 dX7_zips_39 rfl (lv_at hl 0 rfl) ?_
            refine E_g_sizes C0 hE fk_X7_53 dX7_zips_40 ?_
            refine lv_iload_n C0.1 C0.2.1 dX7_zips_43 rfl (lv_at hl 1 rfl) ?_
            obtain ⟨v6, e_v6, i_v6, h⟩ := rd_s hR h
            refine E_sizes_l C0 hE i_p1 e_v6 dX7_zips_44 ?_
            refine lv_aload_n C0.1 C0.2.1 dX7_zips_45 rfl (lv_at hl 0 rfl) ?_
            refine E_g_sizes C0 hE fk_X7_53 dX7_zips_46 ?_
            refine lv_iload_n C0.1 C0.2.1 dX7_zips_49 rfl (lv_at hl 2 rfl) ?_
            obtain ⟨v7, e_v7, i_v7, h⟩ := rd_s hR h
            refine E_sizes_l C0 hE i_p2 e_v7 dX7_zips_50 ?_
            obtain ⟨v8, e_v8, i_v8, h⟩ := opure_s h (imin_in i_v6 i_v7)
            refine x_min C0 kw_X7_228 (hml.trans hl.1.symm) i_v6 i_v7 e_v8 ⟨Nat.le_of_ble_eq_true rfl, Nat.le_of_ble_eq_true rfl⟩ ⟨Nat.zero_le _, Nat.zero_le _⟩ dX7_zips_51 ?_
            refine lv_istore (lv' := [(5, .int (I v8)), (0, .ref (g.2 0)), (1, .int (I p1)), (2, .int (I p2)), (3, .int (I p3)), (4, .int (I p4))]) C0.1 C0.2.1 dX7_zips_54 hl (by decide) rfl (fun ls hl => ?_)
            refine lv_iconst (v := I 0) C0.1 C0.2.1 dX7_zips_56 rfl ?_
            refine lv_istore (lv' := [(6, .int (I 0)), (5, .int (I v8)), (0, .ref (g.2 0)), (1, .int (I p1)), (2, .int (I p2)), (3, .int (I p3)), (4, .int (I p4))]) C0.1 C0.2.1 dX7_zips_57 hl (by decide) rfl (fun ls hl => ?_)
            obtain ⟨k10, e_k10, h⟩ := jn_s h
            have h_k10 : ∀ (s9 : St) (hR : R32 s9) (H : Heap) (locs : List Loc) (ls : Array Slot), EW D (va_A (wE g σ) sz) s.heap (wE g s9) H locs → lv_has ls 7 [(0, .ref (g.2 0)), (4, .int (I p4)), (5, .int (I v8))] → k10 s9 = some (r, σr) → W p l e (rmk 7) s m args below meth c H locs 0 0 (MQ below (QCi D (wE g σr) r (in32 r ∧ R32 σr) (va_A (wE g σ) sz)) args s 0 0 (va_A (wE g σ) sz)) (F0 m 97 ls []) := by
              intro s9 hR H locs ls hE hl h
              have h := (congrFun e_k10 s9).symm.trans h
              refine lv_aload_n C0.1 C0.2.1 dX7_zips_97 rfl (lv_at hl 0 rfl) ?_
              refine lv_iload C0.1 C0.2.1 dX7_zips_98 (lv_at hl 1 rfl) ?_
              refine lv_iload C0.1 C0.2.1 dX7_zips_100 (lv_at hl 2 rfl) ?_
              obtain ⟨v11, s12, h_v11, h⟩ := bnd_s h
              refine callV_i (rest := []) C0 hml hE (E_rec C0 hE) (c_E_build l D g hR i_p4 i_v8 h_v11) kw_X7_89 ⟨Nat.le_of_ble_eq_true rfl, Nat.le_of_ble_eq_true rfl⟩ rfl hl.1 rfl (Nat.le_of_ble_eq_true rfl) dX7_zips_102 ⟨Nat.zero_le _, Nat.zero_le _⟩ (fun H locs hE ⟨i_v11, hR⟩ => ?_)
              exact ret_i (wf := wE g) C0 hr hlk hE h i_v11 hR dX7_zips_105
            have hL59 : ∀ (n : Nat) (s14 : St) (hR : R32 s14) (x13 : Int) (i_x13 : in32 x13) (H : Heap) (locs : List Loc) (ls : Array Slot), EW D (va_A (wE g σ) sz) s.heap (wE g s14) H locs → lv_has ls 7 [(0, .ref (g.2 0)), (3, .int (I p3)), (4, .int (I p4)), (5, .int (I v8)), (6, .int (I x13))] → E_zips_L59 k10 p3 v8 n s14 x13 = some (r, σr) → W p l e (rmk 7) s m args below meth c H locs 0 0 (MQ below (QCi D (wE g σr) r (in32 r ∧ R32 σr) (va_A (wE g σ) sz)) args s 0 0 (va_A (wE g σ) sz)) (F0 m 59 ls []) := by
              intro n
              induction n with
              | zero => intros; rename_i h; cases h
              | succ n ih15 =>
                intro s14 hR x13 i_x13 H locs ls hE hl h
                unfold E_zips_L59 at h
                refine lv_iload C0.1 C0.2.1 dX7_zips_59 (lv_at hl 4 rfl) ?_
                refine lv_iload C0.1 C0.2.1 dX7_zips_61 (lv_at hl 3 rfl) ?_
                refine x_icmp_ge C0 i_x13 i_v8 dX7_zips_63 (tgt := 97) (by decide) (fun c9 => ?_) (fun c9 => ?_)
                · have h := ite_f c9 h
                  exact h_k10 s14 hR _ _ _ hE (lv_sub hl [0, 2, 3] rfl) h
                · have h := ite_t c9 h
                  refine lv_aload_n C0.1 C0.2.1 dX7_zips_66 rfl (lv_at hl 0 rfl) ?_
                  refine E_g_fresh C0 hE fk_X7_62 dX7_zips_67 ?_
                  refine lv_iload C0.1 C0.2.1 dX7_zips_70 (lv_at hl 4 rfl) ?_
                  refine lv_aload_n C0.1 C0.2.1 dX7_zips_72 rfl (lv_at hl 0 rfl) ?_
                  refine E_g_one C0 hE fk_X7_56 dX7_zips_73 ?_
                  refine lv_iload C0.1 C0.2.1 dX7_zips_76 (lv_at hl 4 rfl) ?_
                  obtain ⟨v16, e_v16, i_v16, h⟩ := rd_s hR h
                  refine E_one_l C0 hE i_x13 e_v16 dX7_zips_78 ?_
                  refine lv_aload_n C0.1 C0.2.1 dX7_zips_79 rfl (lv_at hl 0 rfl) ?_
                  refine E_g_other C0 hE fk_X7_59 dX7_zips_80 ?_
                  refine lv_iload C0.1 C0.2.1 dX7_zips_83 (lv_at hl 4 rfl) ?_
                  obtain ⟨v17, e_v17, i_v17, h⟩ := rd_s hR h
                  refine E_other_l C0 hE i_x13 e_v17 dX7_zips_85 ?_
                  refine lv_iload_n C0.1 C0.2.1 dX7_zips_86 rfl (lv_at hl 1 rfl) ?_
                  obtain ⟨v18, h_v18, h⟩ := bndp_s h
                  refine callS_i (rest := [.int (I x13), .ref (g.2 28)]) C0 hml hE (c_E_joined l D g (σ := s14) i_v16 i_v17 i_p3 h_v18) kw_X7_233 ⟨Nat.le_of_ble_eq_true rfl, Nat.le_of_ble_eq_true rfl⟩ rfl hl.1 rfl (Nat.le_of_ble_eq_true rfl) dX7_zips_87 ⟨Nat.zero_le _, Nat.zero_le _⟩ (fun H locs hE i_v18 => ?_)
                  obtain ⟨s19, e_s19, hR, h⟩ := wr_s hR i_v18 h
                  refine E_fresh_st C0 hE i_x13 e_s19 dX7_zips_90 (fun H locs hE => ?_)
                  obtain ⟨v20, e_v20, i_v20, h⟩ := oadd_s h
                  refine x_iinc (lv' := [(6, .int (I v20)), (0, .ref (g.2 0)), (3, .int (I p3)), (4, .int (I p4)), (5, .int (I v8))]) C0 dX7_zips_91 hl (k := 4) rfl e_v20 (by decide) rfl (fun ls hl => ?_)
                  refine x_goto C0 dX7_zips_94 (tgt := 59) (by decide) ?_
                  exact ih15 s19 hR v20 i_v20 _ _ _ hE (lv_sub hl [1, 2, 3, 4, 0] rfl) h
            exact hL59 FU s5 hR 0 lit_0 _ _ _ hE (lv_sub hl [2, 5, 6, 1, 0] rfl) h
          · have h := ite_t c9 h
            refine lv_iconst (v := I (-1)) C0.1 C0.2.1 dX7_zips_31 rfl ?_
            exact ret_i (wf := wE g) C0 hr hlk hE h lit_m1 hR dX7_zips_32
set_option maxRecDepth 100000 in
set_option maxHeartbeats 4000000 in
theorem c_E_parts (l : Launch) (D : va_G) (g : Ad) {σ σr : St} {p1 p2 p3 p4 r : Int} (hR : R32 σ) (i_p1 : in32 p1) (i_p2 : in32 p2) (i_p3 : in32 p3) (i_p4 : in32 p4) (h : E_parts σ p1 p2 p3 p4 = some (r, σr)) : CtI l D g yX7_parts cX7_parts 8 (some .int) 18 (wE g σ) (wE g σr) [.ref (g.2 0), .int (I p1), .int (I p2), .int (I p3), .int (I p4)] r (in32 r ∧ R32 σr) := by
  intro sz
  refine met_of (by decide) (Nat.le_of_ble_eq_true rfl) (fun p e s m args below meth c ls H locs C0 hml hr hlk hE hl => ?_)
  have C0 : CX p c cX7_parts m s args D g RX7 := C0
  have hl : lv_has ls 8 [(0, .ref (g.2 0)), (1, .int (I p1)), (2, .int (I p2)), (3, .int (I p3)), (4, .int (I p4))] := hl
  unfold E_parts at h
  refine lv_aload_n C0.1 C0.2.1 dX7_parts_0 rfl (lv_at hl 0 rfl) ?_
  refine lv_iload_n C0.1 C0.2.1 dX7_parts_1 rfl (lv_at hl 1 rfl) ?_
  refine lv_iconst (v := I 0) C0.1 C0.2.1 dX7_parts_2 rfl ?_
  refine lv_iload_n C0.1 C0.2.1 dX7_parts_3 rfl (lv_at hl 2 rfl) ?_
  obtain ⟨v1, h_v1, h⟩ := bndp_s h
  refine callV_i (rest := []) C0 hml hE (E_rec C0 hE) (c_E_isRange l D g hR i_p1 lit_0 i_p2 h_v1) kw_X7_194 ⟨Nat.le_of_ble_eq_true rfl, Nat.le_of_ble_eq_true rfl⟩ rfl hl.1 rfl (Nat.le_of_ble_eq_true rfl) dX7_parts_4 ⟨Nat.zero_le _, Nat.zero_le _⟩ (fun H locs hE i_v1 => ?_)
  refine x_if_eq C0 i_v1 dX7_parts_7 (tgt := 25) (by decide) (fun c9 => ?_) (fun c9 => ?_)
  · have h := ite_t c9 h
    refine lv_iconst (v := I (-1)) C0.1 C0.2.1 dX7_parts_25 rfl ?_
    exact ret_i (wf := wE g) C0 hr hlk hE h lit_m1 hR dX7_parts_26
  · have h := ite_f c9 h
    refine lv_iload_n C0.1 C0.2.1 dX7_parts_10 rfl (lv_at hl 3 rfl) ?_
    obtain ⟨v2, h_v2, h⟩ := bndp_s h
    refine callS_i (rest := []) C0 hml hE (c_E_isPlace l D g (σ := σ) i_p3 h_v2) kw_X7_86 ⟨Nat.le_of_ble_eq_true rfl, Nat.le_of_ble_eq_true rfl⟩ rfl hl.1 rfl (Nat.le_of_ble_eq_true rfl) dX7_parts_11 ⟨Nat.zero_le _, Nat.zero_le _⟩ (fun H locs hE i_v2 => ?_)
    refine x_if_eq C0 i_v2 dX7_parts_14 (tgt := 25) (by decide) (fun c9 => ?_) (fun c9 => ?_)
    · have h := ite_t c9 h
      refine lv_iconst (v := I (-1)) C0.1 C0.2.1 dX7_parts_25 rfl ?_
      exact ret_i (wf := wE g) C0 hr hlk hE h lit_m1 hR dX7_parts_26
    · have h := ite_f c9 h
      refine lv_iload C0.1 C0.2.1 dX7_parts_17 (lv_at hl 4 rfl) ?_
      obtain ⟨v3, h_v3, h⟩ := bndp_s h
      refine callS_i (rest := []) C0 hml hE (c_E_isPlace l D g (σ := σ) i_p4 h_v3) kw_X7_86 ⟨Nat.le_of_ble_eq_true rfl, Nat.le_of_ble_eq_true rfl⟩ rfl hl.1 rfl (Nat.le_of_ble_eq_true rfl) dX7_parts_19 ⟨Nat.zero_le _, Nat.zero_le _⟩ (fun H locs hE i_v3 => ?_)
      refine x_if_ne C0 i_v3 dX7_parts_22 (tgt := 27) (by decide) (fun c9 => ?_) (fun c9 => ?_)
      · have h := ite_f c9 h
        refine lv_iload_n C0.1 C0.2.1 dX7_parts_27 rfl (lv_at hl 3 rfl) ?_
        refine lv_iload C0.1 C0.2.1 dX7_parts_28 (lv_at hl 4 rfl) ?_
        refine x_icmp_ne C0 i_p3 i_p4 dX7_parts_30 (tgt := 36) (by decide) (fun c9 => ?_) (fun c9 => ?_)
        · have h := ite_f c9 h
          refine lv_aload_n C0.1 C0.2.1 dX7_parts_36 rfl (lv_at hl 0 rfl) ?_
          refine E_g_trees C0 hE fk_X7_49 dX7_parts_37 ?_
          refine lv_iload_n C0.1 C0.2.1 dX7_parts_40 rfl (lv_at hl 1 rfl) ?_
          obtain ⟨v4, e_v4, i_v4, h⟩ := rd_s hR h
          refine E_trees_l C0 hE i_p1 e_v4 dX7_parts_41 ?_
          refine lv_istore (lv' := [(5, .int (I v4)), (0, .ref (g.2 0)), (1, .int (I p1)), (2, .int (I p2)), (3, .int (I p3)), (4, .int (I p4))]) C0.1 C0.2.1 dX7_parts_42 hl (by decide) rfl (fun ls hl => ?_)
          refine lv_aload_n C0.1 C0.2.1 dX7_parts_44 rfl (lv_at hl 1 rfl) ?_
          refine E_g_sizes C0 hE fk_X7_53 dX7_parts_45 ?_
          refine lv_iload_n C0.1 C0.2.1 dX7_parts_48 rfl (lv_at hl 2 rfl) ?_
          obtain ⟨v5, e_v5, i_v5, h⟩ := rd_s hR h
          refine E_sizes_l C0 hE i_p1 e_v5 dX7_parts_49 ?_
          refine lv_istore (lv' := [(6, .int (I v5)), (5, .int (I v4)), (0, .ref (g.2 0)), (1, .int (I p1)), (2, .int (I p2)), (3, .int (I p3)), (4, .int (I p4))]) C0.1 C0.2.1 dX7_parts_50 hl (by decide) rfl (fun ls hl => ?_)
          refine lv_aload_n C0.1 C0.2.1 dX7_parts_52 rfl (lv_at hl 2 rfl) ?_
          obtain ⟨v6, s7, h_v6, h⟩ := bnd_s h
          refine callV_i (rest := []) C0 hml hE (E_rec C0 hE) (c_E_begin l D g hR h_v6) kw_X7_120 ⟨Nat.le_of_ble_eq_true rfl, Nat.le_of_ble_eq_true rfl⟩ rfl hl.1 rfl (Nat.le_of_ble_eq_true rfl) dX7_parts_53 ⟨Nat.zero_le _, Nat.zero_le _⟩ (fun H locs hE ⟨i_v6, hR⟩ => ?_)
          refine lv_istore (lv' := [(7, .int (I v6)), (6, .int (I v5)), (5, .int (I v4)), (0, .ref (g.2 0)), (1, .int (I p1)), (2, .int (I p2)), (3, .int (I p3)), (4, .int (I p4))]) C0.1 C0.2.1 dX7_parts_56 hl (by decide) rfl (fun ls hl => ?_)
          refine lv_aload_n C0.1 C0.2.1 dX7_parts_58 rfl (lv_at hl 3 rfl) ?_
          refine lv_iload_n C0.1 C0.2.1 dX7_parts_59 rfl (lv_at hl 6 rfl) ?_
          refine lv_aload_n C0.1 C0.2.1 dX7_parts_60 rfl (lv_at hl 3 rfl) ?_
          refine E_g_pool C0 hE fk_X7_10 dX7_parts_61 ?_
          refine lv_iload C0.1 C0.2.1 dX7_parts_64 (lv_at hl 2 rfl) ?_
          refine lv_iload C0.1 C0.2.1 dX7_parts_66 (lv_at hl 1 rfl) ?_
          refine lv_iload C0.1 C0.2.1 dX7_parts_68 (lv_at hl 1 rfl) ?_
          refine lv_iload_n C0.1 C0.2.1 dX7_parts_70 rfl (lv_at hl 5 rfl) ?_
          obtain ⟨v8, e_v8, i_v8, h⟩ := osub_s h
          refine x_sub C0 e_v8 dX7_parts_71 ?_
          refine lv_iconst (v := I 3) C0.1 C0.2.1 dX7_parts_72 rfl ?_
          obtain ⟨v9, s10, h_v9, h⟩ := bnd_s h
          refine callV_i (rest := [.int (I p3), .ref (g.2 0)]) C0 hml hE (Pool_rec C0 hE) (c_Pool_takeMany l D g hR i_v4 i_v5 i_v8 lit_3 h_v9) kw_X7_225 ⟨Nat.le_of_ble_eq_true rfl, Nat.le_of_ble_eq_true rfl⟩ rfl hl.1 rfl (Nat.le_of_ble_eq_true rfl) dX7_parts_73 ⟨Nat.zero_le _, Nat.zero_le _⟩ (fun H locs hE ⟨i_v9, hR⟩ => ?_)
          refine lv_iload_n C0.1 C0.2.1 dX7_parts_76 rfl (lv_at hl 5 rfl) ?_
          obtain ⟨v11, s12, h_v11, h⟩ := bnd_s h
          refine callV_i (rest := []) C0 hml hE (E_rec C0 hE) (c_E_keep l D g hR i_p3 i_v9 i_p2 h_v11) kw_X7_126 ⟨Nat.le_of_ble_eq_true rfl, Nat.le_of_ble_eq_true rfl⟩ rfl hl.1 rfl (Nat.le_of_ble_eq_true rfl) dX7_parts_77 ⟨Nat.zero_le _, Nat.zero_le _⟩ (fun H locs hE ⟨i_v11, hR⟩ => ?_)
          refine lv_pop C0.1 C0.2.1 dX7_parts_80 rfl ?_
          refine lv_aload_n C0.1 C0.2.1 dX7_parts_81 rfl (lv_at hl 3 rfl) ?_
          refine lv_iload C0.1 C0.2.1 dX7_parts_82 (lv_at hl 7 rfl) ?_
          refine lv_aload_n C0.1 C0.2.1 dX7_parts_84 rfl (lv_at hl 3 rfl) ?_
          refine E_g_pool C0 hE fk_X7_10 dX7_parts_85 ?_
          refine lv_iload C0.1 C0.2.1 dX7_parts_88 (lv_at hl 2 rfl) ?_
          refine lv_iload C0.1 C0.2.1 dX7_parts_90 (lv_at hl 1 rfl) ?_
          refine lv_iload_n C0.1 C0.2.1 dX7_parts_92 rfl (lv_at hl 5 rfl) ?_
          refine lv_iconst (v := I 2) C0.1 C0.2.1 dX7_parts_93 rfl ?_
          obtain ⟨v13, s14, h_v13, h⟩ := bnd_s h
          refine callV_i (rest := [.int (I p4), .ref (g.2 0)]) C0 hml hE (Pool_rec C0 hE) (c_Pool_takeMany l D g hR i_v4 i_v5 i_p2 lit_2 h_v13) kw_X7_225 ⟨Nat.le_of_ble_eq_true rfl, Nat.le_of_ble_eq_true rfl⟩ rfl hl.1 rfl (Nat.le_of_ble_eq_true rfl) dX7_parts_94 ⟨Nat.zero_le _, Nat.zero_le _⟩ (fun H locs hE ⟨i_v13, hR⟩ => ?_)
          refine lv_iload C0.1 C0.2.1 dX7_parts_97 (lv_at hl 1 rfl) ?_
          refine lv_iload_n C0.1 C0.2.1 dX7_parts_99 rfl (lv_at hl 5 rfl) ?_
          obtain ⟨v15, e_v15, i_v15, h⟩ := osub_s h
          refine x_sub C0 e_v15 dX7_parts_100 ?_
          obtain ⟨v16, s17, h_v16, h⟩ := bnd_s h
          refine callV_i (rest := []) C0 hml hE (E_rec C0 hE) (c_E_keep l D g hR i_p4 i_v13 i_v15 h_v16) kw_X7_126 ⟨Nat.le_of_ble_eq_true rfl, Nat.le_of_ble_eq_true rfl⟩ rfl hl.1 rfl (Nat.le_of_ble_eq_true rfl) dX7_parts_101 ⟨Nat.zero_le _, Nat.zero_le _⟩ (fun H locs hE ⟨i_v16, hR⟩ => ?_)
          refine lv_pop C0.1 C0.2.1 dX7_parts_104 rfl ?_
          refine lv_aload_n C0.1 C0.2.1 dX7_parts_105 rfl (lv_at hl 3 rfl) ?_
          refine E_g_pool C0 hE fk_X7_10 dX7_parts_106 ?_
          obtain ⟨v18, e_v18, i_v18, h⟩ := gf_s hR h
          refine Pool_n_made C0 hE e_v18 nk_X7_130 dX7_parts_109 ?_
          refine lv_iload C0.1 C0.2.1 dX7_parts_112 (lv_at hl 0 rfl) ?_
          obtain ⟨v19, e_v19, i_v19, h⟩ := osub_s h
          refine x_sub C0 e_v19 dX7_parts_114 ?_
          exact ret_i (wf := wE g) C0 hr hlk hE h i_v19 hR dX7_parts_115
        · have h := ite_t c9 h
          refine lv_bipush (v := I (-2)) C0.1 C0.2.1 dX7_parts_33 (by decide +kernel) ?_
          exact ret_i (wf := wE g) C0 hr hlk hE h lit_m2 hR dX7_parts_35
      · have h := ite_t c9 h
        refine lv_iconst (v := I (-1)) C0.1 C0.2.1 dX7_parts_25 rfl ?_
        exact ret_i (wf := wE g) C0 hr hlk hE h lit_m1 hR dX7_parts_26
set_option maxRecDepth 100000 in
set_option maxHeartbeats 4000000 in
theorem c_Jarr_fill_tally (l : Launch) (D : va_G) (g : Ad) {σ σr : St} {p2 r : Int} (hR : R32 σ) (i_p2 : in32 p2) (h : Jarr_fill_tally σ p2 = some (r, σr)) : CtV l D g yJ7_fill_53178 cJ7_fill_53178 4 none 1 (wE g σ) (wE g σr) [.ref (g.2 29), .int (I p2)] (R32 σr) := by
  intro sz
  refine met_of (by decide) (Nat.le_of_ble_eq_true rfl) (fun p e s m args below meth c ls H locs C0 hml hr hlk hE hl => ?_)
  have C0 : CX p c cJ7_fill_53178 m s args D g RJ7 := C0
  have hl : lv_has ls 4 [(0, .ref (g.2 29)), (1, .int (I p2))] := hl
  unfold Jarr_fill_tally at h
  refine lv_iconst (v := I 0) C0.1 C0.2.1 dJ7_fill_53178_0 rfl ?_
  refine lv_istore_n (lv' := [(2, .int (I 0)), (0, .ref (g.2 29)), (1, .int (I p2))]) C0.1 C0.2.1 dJ7_fill_53178_1 rfl hl (by decide) rfl (fun ls hl => ?_)
  refine lv_aload_n C0.1 C0.2.1 dJ7_fill_53178_2 rfl (lv_at hl 1 rfl) ?_
  refine E_tally_len C0 hE dJ7_fill_53178_3 ?_
  refine lv_istore_n (lv' := [(3, .int (I 1999)), (2, .int (I 0)), (0, .ref (g.2 29)), (1, .int (I p2))]) C0.1 C0.2.1 dJ7_fill_53178_4 rfl hl (by decide) rfl (fun ls hl => ?_)
  have hL5 : ∀ (n : Nat) (s2 : St) (hR : R32 s2) (x1 : Int) (i_x1 : in32 x1) (H : Heap) (locs : List Loc) (ls : Array Slot), EW D (va_A (wE g σ) sz) s.heap (wE g s2) H locs → lv_has ls 4 [(0, .ref (g.2 29)), (1, .int (I p2)), (2, .int (I x1)), (3, .int (I 1999))] → Jarr_fill_tally_L5 p2 n s2 x1 = some (r, σr) → W p l e (rmk 1) s m args below meth c H locs 0 0 (MQ below (QCv D (wE g σr) (R32 σr) (va_A (wE g σ) sz)) args s 0 0 (va_A (wE g σ) sz)) (F0 m 5 ls []) := by
    intro n
    induction n with
    | zero => intros; rename_i h; cases h
    | succ n ih3 =>
      intro s2 hR x1 i_x1 H locs ls hE hl h
      unfold Jarr_fill_tally_L5 at h
      refine lv_iload_n C0.1 C0.2.1 dJ7_fill_53178_5 rfl (lv_at hl 2 rfl) ?_
      refine lv_iload_n C0.1 C0.2.1 dJ7_fill_53178_6 rfl (lv_at hl 3 rfl) ?_
      refine x_icmp_ge C0 i_x1 lit_1999 dJ7_fill_53178_7 (tgt := 20) (by decide) (fun c9 => ?_) (fun c9 => ?_)
      · have h := ite_f c9 h
        exact ret_v (wf := wE g) C0 hr hlk hE h hR dJ7_fill_53178_20
      · have h := ite_t c9 h
        refine lv_aload_n C0.1 C0.2.1 dJ7_fill_53178_10 rfl (lv_at hl 0 rfl) ?_
        refine lv_iload_n C0.1 C0.2.1 dJ7_fill_53178_11 rfl (lv_at hl 2 rfl) ?_
        refine lv_iload_n C0.1 C0.2.1 dJ7_fill_53178_12 rfl (lv_at hl 1 rfl) ?_
        obtain ⟨s4, e_s4, hR, h⟩ := wr_s hR i_p2 h
        refine E_tally_st C0 hE i_x1 e_s4 dJ7_fill_53178_13 (fun H locs hE => ?_)
        obtain ⟨v5, e_v5, i_v5, h⟩ := oadd_s h
        refine x_iinc (lv' := [(2, .int (I v5)), (0, .ref (g.2 29)), (1, .int (I p2)), (3, .int (I 1999))]) C0 dJ7_fill_53178_14 hl (k := 2) rfl e_v5 (by decide) rfl (fun ls hl => ?_)
        refine x_goto C0 dJ7_fill_53178_17 (tgt := 5) (by decide) ?_
        exact ih3 s4 hR v5 i_v5 _ _ _ hE (lv_sub hl [1, 2, 0, 3] rfl) h
  exact hL5 FU σ hR 0 lit_0 _ _ _ hE (lv_sub hl [2, 3, 1, 0] rfl) h
set_option maxRecDepth 100000 in
set_option maxHeartbeats 4000000 in
theorem c_E_sortInto (l : Launch) (D : va_G) (g : Ad) {σ σr : St} {p1 r : Int} (hR : R32 σ) (i_p1 : in32 p1) (h : E_sortInto σ p1 = some (r, σr)) : CtV l D g yX7_sortInto cX7_sortInto 5 none 2 (wE g σ) (wE g σr) [.ref (g.2 0), .int (I p1)] (R32 σr) := by
  intro sz
  refine met_of (by decide) (Nat.le_of_ble_eq_true rfl) (fun p e s m args below meth c ls H locs C0 hml hr hlk hE hl => ?_)
  have C0 : CX p c cX7_sortInto m s args D g RX7 := C0
  have hl : lv_has ls 5 [(0, .ref (g.2 0)), (1, .int (I p1))] := hl
  unfold E_sortInto at h
  refine lv_aload_n C0.1 C0.2.1 dX7_sortInto_0 rfl (lv_at hl 0 rfl) ?_
  refine E_g_tally C0 hE fk_X7_65 dX7_sortInto_1 ?_
  refine lv_iconst (v := I 0) C0.1 C0.2.1 dX7_sortInto_4 rfl ?_
  obtain ⟨v1, s2, h_v1, h⟩ := bnd_s h
  refine callS_v (rest := []) C0 hml hE (c_Jarr_fill_tally l D g hR lit_0 h_v1) kw_X7_335 ⟨Nat.le_of_ble_eq_true rfl, Nat.le_of_ble_eq_true rfl⟩ rfl hl.1 rfl (Nat.le_of_ble_eq_true rfl) dX7_sortInto_5 ⟨Nat.zero_le _, Nat.zero_le _⟩ (fun H locs hE hR => ?_)
  refine lv_iconst (v := I 0) C0.1 C0.2.1 dX7_sortInto_8 rfl ?_
  refine lv_istore_n (lv' := [(2, .int (I 0)), (0, .ref (g.2 0)), (1, .int (I p1))]) C0.1 C0.2.1 dX7_sortInto_9 rfl hl (by decide) rfl (fun ls hl => ?_)
  obtain ⟨k4, e_k4, h⟩ := jn_s h
  have h_k4 : ∀ (s3 : St) (hR : R32 s3) (H : Heap) (locs : List Loc) (ls : Array Slot), EW D (va_A (wE g σ) sz) s.heap (wE g s3) H locs → lv_has ls 5 [(0, .ref (g.2 0))] → k4 s3 = some (r, σr) → W p l e (rmk 2) s m args below meth c H locs 0 0 (MQ below (QCv D (wE g σr) (R32 σr) (va_A (wE g σ) sz)) args s 0 0 (va_A (wE g σ) sz)) (F0 m 40 ls []) := by
    intro s3 hR H locs ls hE hl h
    have h := (congrFun e_k4 s3).symm.trans h
    refine lv_iconst (v := I 0) C0.1 C0.2.1 dX7_sortInto_40 rfl ?_
    refine lv_istore_n (lv' := [(2, .int (I 0)), (0, .ref (g.2 0))]) C0.1 C0.2.1 dX7_sortInto_41 rfl hl (by decide) rfl (fun ls hl => ?_)
    refine lv_iconst (v := I 0) C0.1 C0.2.1 dX7_sortInto_42 rfl ?_
    refine lv_istore_n (lv' := [(3, .int (I 0)), (2, .int (I 0)), (0, .ref (g.2 0))]) C0.1 C0.2.1 dX7_sortInto_43 rfl hl (by decide) rfl (fun ls hl => ?_)
    have hL44 : ∀ (n : Nat) (s7 : St) (hR : R32 s7) (x5 : Int) (i_x5 : in32 x5) (x6 : Int) (i_x6 : in32 x6) (H : Heap) (locs : List Loc) (ls : Array Slot), EW D (va_A (wE g σ) sz) s.heap (wE g s7) H locs → lv_has ls 5 [(0, .ref (g.2 0)), (2, .int (I x5)), (3, .int (I x6))] → E_sortInto_L44 n s7 x5 x6 = some (r, σr) → W p l e (rmk 2) s m args below meth c H locs 0 0 (MQ below (QCv D (wE g σr) (R32 σr) (va_A (wE g σ) sz)) args s 0 0 (va_A (wE g σ) sz)) (F0 m 44 ls []) := by
      intro n
      induction n with
      | zero => intros; rename_i h; cases h
      | succ n ih8 =>
        intro s7 hR x5 i_x5 x6 i_x6 H locs ls hE hl h
        unfold E_sortInto_L44 at h
        refine lv_iload_n C0.1 C0.2.1 dX7_sortInto_44 rfl (lv_at hl 2 rfl) ?_
        refine lv_aload_n C0.1 C0.2.1 dX7_sortInto_45 rfl (lv_at hl 0 rfl) ?_
        refine E_g_tally C0 hE fk_X7_65 dX7_sortInto_46 ?_
        refine E_tally_len C0 hE dX7_sortInto_49 ?_
        refine x_icmp_ge C0 i_x6 lit_1999 dX7_sortInto_50 (tgt := 92) (by decide) (fun c9 => ?_) (fun c9 => ?_)
        · have h := ite_f c9 h
          exact ret_v (wf := wE g) C0 hr hlk hE h hR dX7_sortInto_92
        · have h := ite_t c9 h
          refine lv_aload_n C0.1 C0.2.1 dX7_sortInto_53 rfl (lv_at hl 0 rfl) ?_
          refine E_g_tally C0 hE fk_X7_65 dX7_sortInto_54 ?_
          refine lv_iload_n C0.1 C0.2.1 dX7_sortInto_57 rfl (lv_at hl 2 rfl) ?_
          obtain ⟨v9, e_v9, i_v9, h⟩ := rd_s hR h
          refine E_tally_l C0 hE i_x6 e_v9 dX7_sortInto_58 ?_
          refine lv_istore (lv' := [(4, .int (I v9)), (0, .ref (g.2 0)), (2, .int (I x5)), (3, .int (I x6))]) C0.1 C0.2.1 dX7_sortInto_59 hl (by decide) rfl (fun ls hl => ?_)
          obtain ⟨k12, e_k12, h⟩ := jn_s h
          have h_k12 : ∀ (s10 : St) (hR : R32 s10) (x11 : Int) (i_x11 : in32 x11) (H : Heap) (locs : List Loc) (ls : Array Slot), EW D (va_A (wE g σ) sz) s.heap (wE g s10) H locs → lv_has ls 5 [(0, .ref (g.2 0)), (2, .int (I x11)), (3, .int (I x6))] → k12 s10 x11 = some (r, σr) → W p l e (rmk 2) s m args below meth c H locs 0 0 (MQ below (QCv D (wE g σr) (R32 σr) (va_A (wE g σ) sz)) args s 0 0 (va_A (wE g σ) sz)) (F0 m 86 ls []) := by
            intro s10 hR x11 i_x11 H locs ls hE hl h
            have h := (congrFun (congrFun e_k12 s10) x11).symm.trans h
            obtain ⟨v13, e_v13, i_v13, h⟩ := oadd_s h
            refine x_iinc (lv' := [(3, .int (I v13)), (0, .ref (g.2 0)), (2, .int (I x11))]) C0 dX7_sortInto_86 hl (k := 2) rfl e_v13 (by decide) rfl (fun ls hl => ?_)
            refine x_goto C0 dX7_sortInto_89 (tgt := 44) (by decide) ?_
            exact ih8 s10 hR x11 i_x11 v13 i_v13 _ _ _ hE (lv_sub hl [1, 2, 0] rfl) h
          have hL61 : ∀ (n : Nat) (s16 : St) (hR : R32 s16) (x14 : Int) (i_x14 : in32 x14) (x15 : Int) (i_x15 : in32 x15) (H : Heap) (locs : List Loc) (ls : Array Slot), EW D (va_A (wE g σ) sz) s.heap (wE g s16) H locs → lv_has ls 5 [(0, .ref (g.2 0)), (2, .int (I x14)), (3, .int (I x6)), (4, .int (I x15))] → E_sortInto_L61 k12 x6 n s16 x14 x15 = some (r, σr) → W p l e (rmk 2) s m args below meth c H locs 0 0 (MQ below (QCv D (wE g σr) (R32 σr) (va_A (wE g σ) sz)) args s 0 0 (va_A (wE g σ) sz)) (F0 m 61 ls []) := by
            intro n
            induction n with
            | zero => intros; rename_i h; cases h
            | succ n ih17 =>
              intro s16 hR x14 i_x14 x15 i_x15 H locs ls hE hl h
              unfold E_sortInto_L61 at h
              refine lv_iload C0.1 C0.2.1 dX7_sortInto_61 (lv_at hl 3 rfl) ?_
              refine x_if_le C0 i_x15 dX7_sortInto_63 (tgt := 86) (by decide) (fun c9 => ?_) (fun c9 => ?_)
              · have h := ite_f c9 h
                exact h_k12 s16 hR x14 i_x14 _ _ _ hE (lv_sub hl [0, 1, 2] rfl) h
              · have h := ite_t c9 h
                refine lv_aload_n C0.1 C0.2.1 dX7_sortInto_66 rfl (lv_at hl 0 rfl) ?_
                refine E_g_fresh C0 hE fk_X7_62 dX7_sortInto_67 ?_
                refine lv_iload_n C0.1 C0.2.1 dX7_sortInto_70 rfl (lv_at hl 1 rfl) ?_
                refine lv_iload_n C0.1 C0.2.1 dX7_sortInto_71 rfl (lv_at hl 2 rfl) ?_
                refine lv_sipush (v := I 999) C0.1 C0.2.1 dX7_sortInto_72 (by decide +kernel) ?_
                obtain ⟨v18, e_v18, i_v18, h⟩ := osub_s h
                refine x_sub C0 e_v18 dX7_sortInto_75 ?_
                obtain ⟨s19, e_s19, hR, h⟩ := wr_s hR i_v18 h
                refine E_fresh_st C0 hE i_x14 e_s19 dX7_sortInto_76 (fun H locs hE => ?_)
                obtain ⟨v20, e_v20, i_v20, h⟩ := oadd_s h
                refine x_iinc (lv' := [(2, .int (I v20)), (0, .ref (g.2 0)), (3, .int (I x6)), (4, .int (I x15))]) C0 dX7_sortInto_77 hl (k := 1) rfl e_v20 (by decide) rfl (fun ls hl => ?_)
                obtain ⟨v21, e_v21, i_v21, h⟩ := oadd_s h
                refine x_iinc (lv' := [(4, .int (I v21)), (2, .int (I v20)), (0, .ref (g.2 0)), (3, .int (I x6))]) C0 dX7_sortInto_80 hl (k := 3) rfl e_v21 (by decide) rfl (fun ls hl => ?_)
                refine x_goto C0 dX7_sortInto_83 (tgt := 61) (by decide) ?_
                exact ih17 s19 hR v20 i_v20 v21 i_v21 _ _ _ hE (lv_sub hl [2, 1, 3, 0] rfl) h
          exact hL61 FU s7 hR x5 i_x5 v9 i_v9 _ _ _ hE (lv_sub hl [1, 2, 3, 0] rfl) h
    exact hL44 FU s3 hR 0 lit_0 0 lit_0 _ _ _ hE (lv_sub hl [2, 1, 0] rfl) h
  have hL10 : ∀ (n : Nat) (s23 : St) (hR : R32 s23) (x22 : Int) (i_x22 : in32 x22) (H : Heap) (locs : List Loc) (ls : Array Slot), EW D (va_A (wE g σ) sz) s.heap (wE g s23) H locs → lv_has ls 5 [(0, .ref (g.2 0)), (1, .int (I p1)), (2, .int (I x22))] → E_sortInto_L10 k4 p1 n s23 x22 = some (r, σr) → W p l e (rmk 2) s m args below meth c H locs 0 0 (MQ below (QCv D (wE g σr) (R32 σr) (va_A (wE g σ) sz)) args s 0 0 (va_A (wE g σ) sz)) (F0 m 10 ls []) := by
    intro n
    induction n with
    | zero => intros; rename_i h; cases h
    | succ n ih24 =>
      intro s23 hR x22 i_x22 H locs ls hE hl h
      unfold E_sortInto_L10 at h
      refine lv_iload_n C0.1 C0.2.1 dX7_sortInto_10 rfl (lv_at hl 2 rfl) ?_
      refine lv_iload_n C0.1 C0.2.1 dX7_sortInto_11 rfl (lv_at hl 1 rfl) ?_
      refine x_icmp_ge C0 i_x22 i_p1 dX7_sortInto_12 (tgt := 40) (by decide) (fun c9 => ?_) (fun c9 => ?_)
      · have h := ite_f c9 h
        exact h_k4 s23 hR _ _ _ hE (lv_sub hl [0] rfl) h
      · have h := ite_t c9 h
        refine lv_aload_n C0.1 C0.2.1 dX7_sortInto_15 rfl (lv_at hl 0 rfl) ?_
        refine E_g_tally C0 hE fk_X7_65 dX7_sortInto_16 ?_
        refine lv_aload_n C0.1 C0.2.1 dX7_sortInto_19 rfl (lv_at hl 0 rfl) ?_
        refine E_g_one C0 hE fk_X7_56 dX7_sortInto_20 ?_
        refine lv_iload_n C0.1 C0.2.1 dX7_sortInto_23 rfl (lv_at hl 2 rfl) ?_
        obtain ⟨v25, e_v25, i_v25, h⟩ := rd_s hR h
        refine E_one_l C0 hE i_x22 e_v25 dX7_sortInto_24 ?_
        refine lv_sipush (v := I 999) C0.1 C0.2.1 dX7_sortInto_25 (by decide +kernel) ?_
        obtain ⟨v26, e_v26, i_v26, h⟩ := oadd_s h
        refine x_add C0 e_v26 dX7_sortInto_28 ?_
        refine lv_dup2_11 C0.1 C0.2.1 dX7_sortInto_29 rfl rfl ?_
        obtain ⟨v27, e_v27, i_v27, h⟩ := rd_s hR h
        refine E_tally_l C0 hE i_v26 e_v27 dX7_sortInto_30 ?_
        refine lv_iconst (v := I 1) C0.1 C0.2.1 dX7_sortInto_31 rfl ?_
        obtain ⟨v28, e_v28, i_v28, h⟩ := oadd_s h
        refine x_add C0 e_v28 dX7_sortInto_32 ?_
        obtain ⟨s29, e_s29, hR, h⟩ := wr_s hR i_v28 h
        refine E_tally_st C0 hE i_v26 e_s29 dX7_sortInto_33 (fun H locs hE => ?_)
        obtain ⟨v30, e_v30, i_v30, h⟩ := oadd_s h
        refine x_iinc (lv' := [(2, .int (I v30)), (0, .ref (g.2 0)), (1, .int (I p1))]) C0 dX7_sortInto_34 hl (k := 2) rfl e_v30 (by decide) rfl (fun ls hl => ?_)
        refine x_goto C0 dX7_sortInto_37 (tgt := 10) (by decide) ?_
        exact ih24 s29 hR v30 i_v30 _ _ _ hE (lv_sub hl [1, 2, 0] rfl) h
  exact hL10 FU s2 hR 0 lit_0 _ _ _ hE (lv_sub hl [1, 2, 0] rfl) h

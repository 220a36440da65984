-- THE WALKS, written by program
set_option maxRecDepth 100000 in
set_option maxHeartbeats 4000000 in
theorem c_Pool_fronted (l : Launch) (D : va_G) (g : Ad) : ∀ (d : Nat) {σ σr : St} {p2 p3 p4 r : Int} (hR : R32 σ) (i_p2 : in32 p2) (i_p3 : in32 p3) (i_p4 : in32 p4) (h : Pool_fronted d σ p2 p3 p4 = some (r, σr)), CtI l D g yX0_fronted cX0_fronted 5 (some .int) (3 + d) (wE g σ) (wE g σr) [.ref (g.2 1), .int (I p2), .int (I p3), .int (I p4)] r (in32 r ∧ R32 σr) := by
  intro d
  induction d with
  | zero => intros; rename_i h; cases h
  | succ d ih =>
    intro σ σr p2 p3 p4 r hR i_p2 i_p3 i_p4 h sz
    refine met_of (by decide) (Nat.le_of_ble_eq_true rfl) (fun p e s m args below meth c ls H locs C0 hml hr hlk hE hl => ?_)
    have C0 : CX p c cX0_fronted m s args D g RX0 := C0
    have hl : lv_has ls 5 [(0, .ref (g.2 1)), (1, .int (I p2)), (2, .int (I p3)), (3, .int (I p4))] := hl
    unfold Pool_fronted at h
    refine lv_iload_n C0.1 C0.2.1 dX0_fronted_0 rfl (lv_at hl 3 rfl) ?_
    refine x_if_gt C0 i_p4 dX0_fronted_1 (tgt := 12) (by decide) (fun c9 => ?_) (fun c9 => ?_)
    · have h := ite_t c9 h
      refine lv_aload_n C0.1 C0.2.1 dX0_fronted_12 rfl (lv_at hl 0 rfl) ?_
      refine lv_aload_n C0.1 C0.2.1 dX0_fronted_13 rfl (lv_at hl 0 rfl) ?_
      refine lv_iload_n C0.1 C0.2.1 dX0_fronted_14 rfl (lv_at hl 2 rfl) ?_
      obtain ⟨v1, h_v1, h⟩ := bndp_s h
      refine callV_i (rest := [.ref (g.2 1)]) C0 hml hE (Pool_rec C0 hE) (c_Pool_numberOf l D g hR i_p3 h_v1) kw_X0_64 (by simp only [rmk, RD]; omega) rfl hl.1 rfl (Nat.le_of_ble_eq_true rfl) dX0_fronted_15 ⟨Nat.zero_le _, Nat.zero_le _⟩ (fun H locs hE i_v1 => ?_)
      refine lv_aload_n C0.1 C0.2.1 dX0_fronted_18 rfl (lv_at hl 0 rfl) ?_
      refine lv_iload_n C0.1 C0.2.1 dX0_fronted_19 rfl (lv_at hl 2 rfl) ?_
      obtain ⟨v2, h_v2, h⟩ := bndp_s h
      refine callV_i (rest := [.int (I v1), .ref (g.2 1)]) C0 hml hE (Pool_rec C0 hE) (c_Pool_rightOf l D g hR i_p3 h_v2) kw_X0_61 (by simp only [rmk, RD]; omega) rfl hl.1 rfl (Nat.le_of_ble_eq_true rfl) dX0_fronted_20 ⟨Nat.zero_le _, Nat.zero_le _⟩ (fun H locs hE i_v2 => ?_)
      refine lv_iload_n C0.1 C0.2.1 dX0_fronted_23 rfl (lv_at hl 3 rfl) ?_
      obtain ⟨v3, h_v3, h⟩ := bndp_s h
      refine callS_i (rest := [.int (I v2), .int (I v1), .ref (g.2 1)]) C0 hml hE (c_Shape_rightSize l D g (σ := σ) i_p4 h_v3) kw_X0_136 (by simp only [rmk, RD]; omega) rfl hl.1 rfl (Nat.le_of_ble_eq_true rfl) dX0_fronted_24 ⟨Nat.zero_le _, Nat.zero_le _⟩ (fun H locs hE i_v3 => ?_)
      obtain ⟨v4, s5, h_v4, h⟩ := bnd_s h
      refine callS_i (rest := []) C0 hml hE (ih hR i_v1 i_v2 i_v3 h_v4) kw_X0_99 (by simp only [rmk, RD]; omega) rfl hl.1 rfl (Nat.le_of_ble_eq_true rfl) dX0_fronted_27 ⟨Nat.zero_le _, Nat.zero_le _⟩ (fun H locs hE ⟨i_v4, hR⟩ => ?_)
      refine lv_istore (lv' := [(4, .int (I v4)), (0, .ref (g.2 1)), (1, .int (I p2)), (2, .int (I p3)), (3, .int (I p4))]) C0.1 C0.2.1 dX0_fronted_30 hl (by decide) rfl (fun ls hl => ?_)
      refine lv_aload_n C0.1 C0.2.1 dX0_fronted_32 rfl (lv_at hl 1 rfl) ?_
      refine lv_iload_n C0.1 C0.2.1 dX0_fronted_33 rfl (lv_at hl 2 rfl) ?_
      refine lv_iload C0.1 C0.2.1 dX0_fronted_34 (lv_at hl 0 rfl) ?_
      refine lv_aload_n C0.1 C0.2.1 dX0_fronted_36 rfl (lv_at hl 1 rfl) ?_
      refine lv_iload_n C0.1 C0.2.1 dX0_fronted_37 rfl (lv_at hl 3 rfl) ?_
      obtain ⟨v6, h_v6, h⟩ := bndp_s h
      refine callV_i (rest := [.int (I v4), .int (I p2), .ref (g.2 1)]) C0 hml hE (Pool_rec C0 hE) (c_Pool_leftOf l D g hR i_p3 h_v6) kw_X0_57 (by simp only [rmk, RD]; omega) rfl hl.1 rfl (Nat.le_of_ble_eq_true rfl) dX0_fronted_38 ⟨Nat.zero_le _, Nat.zero_le _⟩ (fun H locs hE i_v6 => ?_)
      obtain ⟨v7, s8, h_v7, h⟩ := bnd_s h
      refine callV_i (rest := []) C0 hml hE (Pool_rec C0 hE) (c_Pool_make l D g hR i_p2 i_v4 i_v6 h_v7) kw_X0_76 (by simp only [rmk, RD]; omega) rfl hl.1 rfl (Nat.le_of_ble_eq_true rfl) dX0_fronted_41 ⟨Nat.zero_le _, Nat.zero_le _⟩ (fun H locs hE ⟨i_v7, hR⟩ => ?_)
      exact ret_i (wf := wE g) C0 hr hlk hE h i_v7 hR dX0_fronted_44
    · have h := ite_f c9 h
      refine lv_aload_n C0.1 C0.2.1 dX0_fronted_4 rfl (lv_at hl 0 rfl) ?_
      refine lv_iload_n C0.1 C0.2.1 dX0_fronted_5 rfl (lv_at hl 1 rfl) ?_
      refine lv_iconst (v := I 0) C0.1 C0.2.1 dX0_fronted_6 rfl ?_
      refine lv_iconst (v := I 0) C0.1 C0.2.1 dX0_fronted_7 rfl ?_
      obtain ⟨v9, s10, h_v9, h⟩ := bnd_s h
      refine callV_i (rest := []) C0 hml hE (Pool_rec C0 hE) (c_Pool_make l D g hR i_p2 lit_0 lit_0 h_v9) kw_X0_76 (by simp only [rmk, RD]; omega) rfl hl.1 rfl (Nat.le_of_ble_eq_true rfl) dX0_fronted_8 ⟨Nat.zero_le _, Nat.zero_le _⟩ (fun H locs hE ⟨i_v9, hR⟩ => ?_)
      exact ret_i (wf := wE g) C0 hr hlk hE h i_v9 hR dX0_fronted_11
set_option maxRecDepth 100000 in
set_option maxHeartbeats 4000000 in
theorem c_Pool_pushed (l : Launch) (D : va_G) (g : Ad) : ∀ (d : Nat) {σ σr : St} {p2 p3 p4 r : Int} (hR : R32 σ) (i_p2 : in32 p2) (i_p3 : in32 p3) (i_p4 : in32 p4) (h : Pool_pushed d σ p2 p3 p4 = some (r, σr)), CtI l D g yX0_pushed cX0_pushed 6 (some .int) (3 + d) (wE g σ) (wE g σr) [.ref (g.2 1), .int (I p2), .int (I p3), .int (I p4)] r (in32 r ∧ R32 σr) := by
  intro d
  induction d with
  | zero => intros; rename_i h; cases h
  | succ d ih =>
    intro σ σr p2 p3 p4 r hR i_p2 i_p3 i_p4 h sz
    refine met_of (by decide) (Nat.le_of_ble_eq_true rfl) (fun p e s m args below meth c ls H locs C0 hml hr hlk hE hl => ?_)
    have C0 : CX p c cX0_pushed m s args D g RX0 := C0
    have hl : lv_has ls 6 [(0, .ref (g.2 1)), (1, .int (I p2)), (2, .int (I p3)), (3, .int (I p4))] := hl
    unfold Pool_pushed at h
    refine lv_iload_n C0.1 C0.2.1 dX0_pushed_0 rfl (lv_at hl 3 rfl) ?_
    refine x_if_gt C0 i_p4 dX0_pushed_1 (tgt := 12) (by decide) (fun c9 => ?_) (fun c9 => ?_)
    · have h := ite_t c9 h
      refine lv_aload_n C0.1 C0.2.1 dX0_pushed_12 rfl (lv_at hl 0 rfl) ?_
      refine lv_iload_n C0.1 C0.2.1 dX0_pushed_13 rfl (lv_at hl 2 rfl) ?_
      obtain ⟨v1, h_v1, h⟩ := bndp_s h
      refine callV_i (rest := []) C0 hml hE (Pool_rec C0 hE) (c_Pool_numberOf l D g hR i_p3 h_v1) kw_X0_64 (by simp only [rmk, RD]; omega) rfl hl.1 rfl (Nat.le_of_ble_eq_true rfl) dX0_pushed_14 ⟨Nat.zero_le _, Nat.zero_le _⟩ (fun H locs hE i_v1 => ?_)
      refine lv_istore (lv' := [(4, .int (I v1)), (0, .ref (g.2 1)), (1, .int (I p2)), (2, .int (I p3)), (3, .int (I p4))]) C0.1 C0.2.1 dX0_pushed_17 hl (by decide) rfl (fun ls hl => ?_)
      refine lv_aload_n C0.1 C0.2.1 dX0_pushed_19 rfl (lv_at hl 1 rfl) ?_
      refine lv_iload_n C0.1 C0.2.1 dX0_pushed_20 rfl (lv_at hl 2 rfl) ?_
      refine lv_iload C0.1 C0.2.1 dX0_pushed_21 (lv_at hl 0 rfl) ?_
      obtain ⟨v2, e_v2, i_v2, h⟩ := opure_s h (imax_in i_p2 i_v1)
      refine x_max C0 kw_X0_93 (hml.trans hl.1.symm) i_p2 i_v1 e_v2 ⟨by simp only [rmk]; omega, Nat.le_trans (m := 8 + 13) (Nat.add_le_add_right (Nat.le_of_ble_eq_true rfl) 13) (by simp only [rmk]; omega)⟩ ⟨Nat.zero_le _, Nat.zero_le _⟩ dX0_pushed_23 ?_
      refine lv_aload_n C0.1 C0.2.1 dX0_pushed_26 rfl (lv_at hl 1 rfl) ?_
      refine lv_iload_n C0.1 C0.2.1 dX0_pushed_27 rfl (lv_at hl 3 rfl) ?_
      obtain ⟨v3, h_v3, h⟩ := bndp_s h
      refine callV_i (rest := [.int (I v2), .ref (g.2 1)]) C0 hml hE (Pool_rec C0 hE) (c_Pool_rightOf l D g hR i_p3 h_v3) kw_X0_61 (by simp only [rmk, RD]; omega) rfl hl.1 rfl (Nat.le_of_ble_eq_true rfl) dX0_pushed_28 ⟨Nat.zero_le _, Nat.zero_le _⟩ (fun H locs hE i_v3 => ?_)
      refine lv_iload_n C0.1 C0.2.1 dX0_pushed_31 rfl (lv_at hl 4 rfl) ?_
      obtain ⟨v4, h_v4, h⟩ := bndp_s h
      refine callS_i (rest := [.int (I v3), .int (I v2), .ref (g.2 1)]) C0 hml hE (c_Shape_rightSize l D g (σ := σ) i_p4 h_v4) kw_X0_136 (by simp only [rmk, RD]; omega) rfl hl.1 rfl (Nat.le_of_ble_eq_true rfl) dX0_pushed_32 ⟨Nat.zero_le _, Nat.zero_le _⟩ (fun H locs hE i_v4 => ?_)
      obtain ⟨v5, s6, h_v5, h⟩ := bnd_s h
      refine callS_i (rest := []) C0 hml hE (ih hR i_v2 i_v3 i_v4 h_v5) kw_X0_106 (by simp only [rmk, RD]; omega) rfl hl.1 rfl (Nat.le_of_ble_eq_true rfl) dX0_pushed_35 ⟨Nat.zero_le _, Nat.zero_le _⟩ (fun H locs hE ⟨i_v5, hR⟩ => ?_)
      refine lv_istore (lv' := [(5, .int (I v5)), (4, .int (I v1)), (0, .ref (g.2 1)), (1, .int (I p2)), (2, .int (I p3)), (3, .int (I p4))]) C0.1 C0.2.1 dX0_pushed_38 hl (by decide) rfl (fun ls hl => ?_)
      refine lv_aload_n C0.1 C0.2.1 dX0_pushed_40 rfl (lv_at hl 2 rfl) ?_
      refine lv_iload_n C0.1 C0.2.1 dX0_pushed_41 rfl (lv_at hl 3 rfl) ?_
      refine lv_iload C0.1 C0.2.1 dX0_pushed_42 (lv_at hl 1 rfl) ?_
      obtain ⟨v7, e_v7, i_v7, h⟩ := opure_s h (imin_in i_p2 i_v1)
      refine x_min C0 kw_X0_139 (hml.trans hl.1.symm) i_p2 i_v1 e_v7 ⟨by simp only [rmk]; omega, Nat.le_trans (m := 8 + 13) (Nat.add_le_add_right (Nat.le_of_ble_eq_true rfl) 13) (by simp only [rmk]; omega)⟩ ⟨Nat.zero_le _, Nat.zero_le _⟩ dX0_pushed_44 ?_
      refine lv_iload C0.1 C0.2.1 dX0_pushed_47 (lv_at hl 0 rfl) ?_
      refine lv_aload_n C0.1 C0.2.1 dX0_pushed_49 rfl (lv_at hl 2 rfl) ?_
      refine lv_iload_n C0.1 C0.2.1 dX0_pushed_50 rfl (lv_at hl 4 rfl) ?_
      obtain ⟨v8, h_v8, h⟩ := bndp_s h
      refine callV_i (rest := [.int (I v5), .int (I v7), .ref (g.2 1)]) C0 hml hE (Pool_rec C0 hE) (c_Pool_leftOf l D g hR i_p3 h_v8) kw_X0_57 (by simp only [rmk, RD]; omega) rfl hl.1 rfl (Nat.le_of_ble_eq_true rfl) dX0_pushed_51 ⟨Nat.zero_le _, Nat.zero_le _⟩ (fun H locs hE i_v8 => ?_)
      obtain ⟨v9, s10, h_v9, h⟩ := bnd_s h
      refine callV_i (rest := []) C0 hml hE (Pool_rec C0 hE) (c_Pool_make l D g hR i_v7 i_v5 i_v8 h_v9) kw_X0_76 (by simp only [rmk, RD]; omega) rfl hl.1 rfl (Nat.le_of_ble_eq_true rfl) dX0_pushed_54 ⟨Nat.zero_le _, Nat.zero_le _⟩ (fun H locs hE ⟨i_v9, hR⟩ => ?_)
      exact ret_i (wf := wE g) C0 hr hlk hE h i_v9 hR dX0_pushed_57
    · have h := ite_f c9 h
      refine lv_aload_n C0.1 C0.2.1 dX0_pushed_4 rfl (lv_at hl 0 rfl) ?_
      refine lv_iload_n C0.1 C0.2.1 dX0_pushed_5 rfl (lv_at hl 1 rfl) ?_
      refine lv_iconst (v := I 0) C0.1 C0.2.1 dX0_pushed_6 rfl ?_
      refine lv_iconst (v := I 0) C0.1 C0.2.1 dX0_pushed_7 rfl ?_
      obtain ⟨v11, s12, h_v11, h⟩ := bnd_s h
      refine callV_i (rest := []) C0 hml hE (Pool_rec C0 hE) (c_Pool_make l D g hR i_p2 lit_0 lit_0 h_v11) kw_X0_76 (by simp only [rmk, RD]; omega) rfl hl.1 rfl (Nat.le_of_ble_eq_true rfl) dX0_pushed_8 ⟨Nat.zero_le _, Nat.zero_le _⟩ (fun H locs hE ⟨i_v11, hR⟩ => ?_)
      exact ret_i (wf := wE g) C0 hr hlk hE h i_v11 hR dX0_pushed_11
set_option maxRecDepth 100000 in
set_option maxHeartbeats 4000000 in
theorem c_Pool_put (l : Launch) (D : va_G) (g : Ad) {σ σr : St} {p1 p2 p3 p4 r : Int} (hR : R32 σ) (i_p1 : in32 p1) (i_p2 : in32 p2) (i_p3 : in32 p3) (i_p4 : in32 p4) (h : Pool_put σ p1 p2 p3 p4 = some (r, σr)) : CtI l D g yX0_put cX0_put 5 (some .int) 16 (wE g σ) (wE g σr) [.ref (g.2 1), .int (I p1), .int (I p2), .int (I p3), .int (I p4)] r (in32 r ∧ R32 σr) := by
  intro sz
  refine met_of (by decide) (Nat.le_of_ble_eq_true rfl) (fun p e s m args below meth c ls H locs C0 hml hr hlk hE hl => ?_)
  have C0 : CX p c cX0_put m s args D g RX0 := C0
  have hl : lv_has ls 5 [(0, .ref (g.2 1)), (1, .int (I p1)), (2, .int (I p2)), (3, .int (I p3)), (4, .int (I p4))] := hl
  unfold Pool_put at h
  refine lv_iload C0.1 C0.2.1 dX0_put_0 (lv_at hl 4 rfl) ?_
  by_cases q1 : p4 = 0
  · have h := ite_t q1 h
    refine x_look (tgt := 28) C0 i_p4 dX0_put_2 (by decide) (by rw [q1] <;> rfl) (by decide) ?_
    refine lv_aload_n C0.1 C0.2.1 dX0_put_28 rfl (lv_at hl 0 rfl) ?_
    refine lv_iload_n C0.1 C0.2.1 dX0_put_29 rfl (lv_at hl 1 rfl) ?_
    refine lv_iload_n C0.1 C0.2.1 dX0_put_30 rfl (lv_at hl 2 rfl) ?_
    refine lv_iload_n C0.1 C0.2.1 dX0_put_31 rfl (lv_at hl 3 rfl) ?_
    obtain ⟨v2, s3, h_v2, h⟩ := bnd_s h
    refine callS_i (rest := []) C0 hml hE (c_Pool_fronted l D g RD hR i_p1 i_p2 i_p3 h_v2) kw_X0_99 ⟨Nat.le_of_ble_eq_true rfl, Nat.le_of_ble_eq_true rfl⟩ rfl hl.1 rfl (Nat.le_of_ble_eq_true rfl) dX0_put_32 ⟨Nat.zero_le _, Nat.zero_le _⟩ (fun H locs hE ⟨i_v2, hR⟩ => ?_)
    exact ret_i (wf := wE g) C0 hr hlk hE h i_v2 hR dX0_put_35
  have h := ite_f q1 h
  by_cases q4 : p4 = 1
  · have h := ite_t q4 h
    refine x_look (tgt := 36) C0 i_p4 dX0_put_2 (by decide) (by rw [q4] <;> rfl) (by decide) ?_
    refine lv_aload_n C0.1 C0.2.1 dX0_put_36 rfl (lv_at hl 0 rfl) ?_
    refine lv_iload_n C0.1 C0.2.1 dX0_put_37 rfl (lv_at hl 1 rfl) ?_
    refine lv_iload_n C0.1 C0.2.1 dX0_put_38 rfl (lv_at hl 2 rfl) ?_
    refine lv_iload_n C0.1 C0.2.1 dX0_put_39 rfl (lv_at hl 3 rfl) ?_
    obtain ⟨v5, s6, h_v5, h⟩ := bnd_s h
    refine callS_i (rest := []) C0 hml hE (c_Pool_backed l D g RD hR i_p1 i_p2 i_p3 h_v5) kw_X0_103 ⟨Nat.le_of_ble_eq_true rfl, Nat.le_of_ble_eq_true rfl⟩ rfl hl.1 rfl (Nat.le_of_ble_eq_true rfl) dX0_put_40 ⟨Nat.zero_le _, Nat.zero_le _⟩ (fun H locs hE ⟨i_v5, hR⟩ => ?_)
    exact ret_i (wf := wE g) C0 hr hlk hE h i_v5 hR dX0_put_43
  have h := ite_f q4 h
  refine x_look (tgt := 44) (off := 42) C0 i_p4 dX0_put_2 (by decide) (by simp [Op.lookupswitch.offset, q1, q4]; omega) (by decide) ?_
  refine lv_aload_n C0.1 C0.2.1 dX0_put_44 rfl (lv_at hl 0 rfl) ?_
  refine lv_iload_n C0.1 C0.2.1 dX0_put_45 rfl (lv_at hl 1 rfl) ?_
  refine lv_iload_n C0.1 C0.2.1 dX0_put_46 rfl (lv_at hl 2 rfl) ?_
  refine lv_iload_n C0.1 C0.2.1 dX0_put_47 rfl (lv_at hl 3 rfl) ?_
  obtain ⟨v7, s8, h_v7, h⟩ := bnd_s h
  refine callS_i (rest := []) C0 hml hE (c_Pool_pushed l D g RD hR i_p1 i_p2 i_p3 h_v7) kw_X0_106 ⟨Nat.le_of_ble_eq_true rfl, Nat.le_of_ble_eq_true rfl⟩ rfl hl.1 rfl (Nat.le_of_ble_eq_true rfl) dX0_put_48 ⟨Nat.zero_le _, Nat.zero_le _⟩ (fun H locs hE ⟨i_v7, hR⟩ => ?_)
  exact ret_i (wf := wE g) C0 hr hlk hE h i_v7 hR dX0_put_51
set_option maxRecDepth 100000 in
set_option maxHeartbeats 4000000 in
theorem c_E_putOne (l : Launch) (D : va_G) (g : Ad) {σ σr : St} {p1 p2 p3 p4 r : Int} (hR : R32 σ) (i_p1 : in32 p1) (i_p2 : in32 p2) (i_p3 : in32 p3) (i_p4 : in32 p4) (h : E_putOne σ p1 p2 p3 p4 = some (r, σr)) : CtI l D g yX7_putOne cX7_putOne 6 (some .int) 17 (wE g σ) (wE g σr) [.ref (g.2 0), .int (I p1), .int (I p2), .int (I p3), .int (I p4)] r (in32 r ∧ R32 σr) := by
  intro sz
  refine met_of (by decide) (Nat.le_of_ble_eq_true rfl) (fun p e s m args below meth c ls H locs C0 hml hr hlk hE hl => ?_)
  have C0 : CX p c cX7_putOne m s args D g RX7 := C0
  have hl : lv_has ls 6 [(0, .ref (g.2 0)), (1, .int (I p1)), (2, .int (I p2)), (3, .int (I p3)), (4, .int (I p4))] := hl
  unfold E_putOne at h
  refine lv_iload_n C0.1 C0.2.1 dX7_putOne_0 rfl (lv_at hl 1 rfl) ?_
  obtain ⟨v1, h_v1, h⟩ := bndp_s h
  refine callS_i (rest := []) C0 hml hE (c_E_isPlace l D g (σ := σ) i_p1 h_v1) kw_X7_86 ⟨Nat.le_of_ble_eq_true rfl, Nat.le_of_ble_eq_true rfl⟩ rfl hl.1 rfl (Nat.le_of_ble_eq_true rfl) dX7_putOne_1 ⟨Nat.zero_le _, Nat.zero_le _⟩ (fun H locs hE i_v1 => ?_)
  refine x_if_eq C0 i_v1 dX7_putOne_4 (tgt := 21) (by decide) (fun c9 => ?_) (fun c9 => ?_)
  · have h := ite_t c9 h
    refine lv_iconst (v := I (-1)) C0.1 C0.2.1 dX7_putOne_21 rfl ?_
    exact ret_i (wf := wE g) C0 hr hlk hE h lit_m1 hR dX7_putOne_22
  · have h := ite_f c9 h
    refine lv_iload_n C0.1 C0.2.1 dX7_putOne_7 rfl (lv_at hl 2 rfl) ?_
    obtain ⟨v2, h_v2, h⟩ := bndp_s h
    refine callS_i (rest := []) C0 hml hE (c_E_isNumber l D g (σ := σ) i_p2 h_v2) kw_X7_117 ⟨Nat.le_of_ble_eq_true rfl, Nat.le_of_ble_eq_true rfl⟩ rfl hl.1 rfl (Nat.le_of_ble_eq_true rfl) dX7_putOne_8 ⟨Nat.zero_le _, Nat.zero_le _⟩ (fun H locs hE i_v2 => ?_)
    refine x_if_eq C0 i_v2 dX7_putOne_11 (tgt := 21) (by decide) (fun c9 => ?_) (fun c9 => ?_)
    · have h := ite_t c9 h
      refine lv_iconst (v := I (-1)) C0.1 C0.2.1 dX7_putOne_21 rfl ?_
      exact ret_i (wf := wE g) C0 hr hlk hE h lit_m1 hR dX7_putOne_22
    · have h := ite_f c9 h
      refine lv_iload_n C0.1 C0.2.1 dX7_putOne_14 rfl (lv_at hl 3 rfl) ?_
      obtain ⟨v3, h_v3, h⟩ := bndp_s h
      refine callS_i (rest := []) C0 hml hE (c_E_isPlace l D g (σ := σ) i_p3 h_v3) kw_X7_86 ⟨Nat.le_of_ble_eq_true rfl, Nat.le_of_ble_eq_true rfl⟩ rfl hl.1 rfl (Nat.le_of_ble_eq_true rfl) dX7_putOne_15 ⟨Nat.zero_le _, Nat.zero_le _⟩ (fun H locs hE i_v3 => ?_)
      refine x_if_ne C0 i_v3 dX7_putOne_18 (tgt := 23) (by decide) (fun c9 => ?_) (fun c9 => ?_)
      · have h := ite_f c9 h
        refine lv_aload_n C0.1 C0.2.1 dX7_putOne_23 rfl (lv_at hl 0 rfl) ?_
        refine E_g_sizes C0 hE fk_X7_53 dX7_putOne_24 ?_
        refine lv_iload_n C0.1 C0.2.1 dX7_putOne_27 rfl (lv_at hl 1 rfl) ?_
        obtain ⟨v4, e_v4, i_v4, h⟩ := rd_s hR h
        refine E_sizes_l C0 hE i_p1 e_v4 dX7_putOne_28 ?_
        refine lv_sipush (v := I 255) C0.1 C0.2.1 dX7_putOne_29 (by decide +kernel) ?_
        refine x_icmp_ne C0 i_v4 lit_255 dX7_putOne_32 (tgt := 38) (by decide) (fun c9 => ?_) (fun c9 => ?_)
        · have h := ite_f c9 h
          refine lv_aload_n C0.1 C0.2.1 dX7_putOne_38 rfl (lv_at hl 0 rfl) ?_
          obtain ⟨v5, s6, h_v5, h⟩ := bnd_s h
          refine callV_i (rest := []) C0 hml hE (E_rec C0 hE) (c_E_begin l D g hR h_v5) kw_X7_120 ⟨Nat.le_of_ble_eq_true rfl, Nat.le_of_ble_eq_true rfl⟩ rfl hl.1 rfl (Nat.le_of_ble_eq_true rfl) dX7_putOne_39 ⟨Nat.zero_le _, Nat.zero_le _⟩ (fun H locs hE ⟨i_v5, hR⟩ => ?_)
          refine lv_istore (lv' := [(5, .int (I v5)), (0, .ref (g.2 0)), (1, .int (I p1)), (2, .int (I p2)), (3, .int (I p3)), (4, .int (I p4))]) C0.1 C0.2.1 dX7_putOne_42 hl (by decide) rfl (fun ls hl => ?_)
          refine lv_aload_n C0.1 C0.2.1 dX7_putOne_44 rfl (lv_at hl 1 rfl) ?_
          refine lv_iload_n C0.1 C0.2.1 dX7_putOne_45 rfl (lv_at hl 4 rfl) ?_
          refine lv_aload_n C0.1 C0.2.1 dX7_putOne_46 rfl (lv_at hl 1 rfl) ?_
          refine E_g_pool C0 hE fk_X7_10 dX7_putOne_47 ?_
          refine lv_iload_n C0.1 C0.2.1 dX7_putOne_50 rfl (lv_at hl 3 rfl) ?_
          refine lv_aload_n C0.1 C0.2.1 dX7_putOne_51 rfl (lv_at hl 1 rfl) ?_
          refine E_g_trees C0 hE fk_X7_49 dX7_putOne_52 ?_
          refine lv_iload_n C0.1 C0.2.1 dX7_putOne_55 rfl (lv_at hl 2 rfl) ?_
          obtain ⟨v7, e_v7, i_v7, h⟩ := rd_s hR h
          refine E_trees_l C0 hE i_p1 e_v7 dX7_putOne_56 ?_
          refine lv_aload_n C0.1 C0.2.1 dX7_putOne_57 rfl (lv_at hl 1 rfl) ?_
          refine E_g_sizes C0 hE fk_X7_53 dX7_putOne_58 ?_
          refine lv_iload_n C0.1 C0.2.1 dX7_putOne_61 rfl (lv_at hl 2 rfl) ?_
          obtain ⟨v8, e_v8, i_v8, h⟩ := rd_s hR h
          refine E_sizes_l C0 hE i_p1 e_v8 dX7_putOne_62 ?_
          refine lv_iload C0.1 C0.2.1 dX7_putOne_63 (lv_at hl 5 rfl) ?_
          obtain ⟨v9, s10, h_v9, h⟩ := bnd_s h
          refine callV_i (rest := [.int (I p3), .ref (g.2 0)]) C0 hml hE (Pool_rec C0 hE) (c_Pool_put l D g hR i_p2 i_v7 i_v8 i_p4 h_v9) kw_X7_222 ⟨Nat.le_of_ble_eq_true rfl, Nat.le_of_ble_eq_true rfl⟩ rfl hl.1 rfl (Nat.le_of_ble_eq_true rfl) dX7_putOne_65 ⟨Nat.zero_le _, Nat.zero_le _⟩ (fun H locs hE ⟨i_v9, hR⟩ => ?_)
          refine lv_aload_n C0.1 C0.2.1 dX7_putOne_68 rfl (lv_at hl 1 rfl) ?_
          refine E_g_sizes C0 hE fk_X7_53 dX7_putOne_69 ?_
          refine lv_iload_n C0.1 C0.2.1 dX7_putOne_72 rfl (lv_at hl 2 rfl) ?_
          obtain ⟨v11, e_v11, i_v11, h⟩ := rd_s hR h
          refine E_sizes_l C0 hE i_p1 e_v11 dX7_putOne_73 ?_
          refine lv_iconst (v := I 1) C0.1 C0.2.1 dX7_putOne_74 rfl ?_
          obtain ⟨v12, e_v12, i_v12, h⟩ := oadd_s h
          refine x_add C0 e_v12 dX7_putOne_75 ?_
          obtain ⟨v13, s14, h_v13, h⟩ := bnd_s h
          refine callV_i (rest := []) C0 hml hE (E_rec C0 hE) (c_E_keep l D g hR i_p3 i_v9 i_v12 h_v13) kw_X7_126 ⟨Nat.le_of_ble_eq_true rfl, Nat.le_of_ble_eq_true rfl⟩ rfl hl.1 rfl (Nat.le_of_ble_eq_true rfl) dX7_putOne_76 ⟨Nat.zero_le _, Nat.zero_le _⟩ (fun H locs hE ⟨i_v13, hR⟩ => ?_)
          refine lv_pop C0.1 C0.2.1 dX7_putOne_79 rfl ?_
          refine lv_aload_n C0.1 C0.2.1 dX7_putOne_80 rfl (lv_at hl 1 rfl) ?_
          refine E_g_pool C0 hE fk_X7_10 dX7_putOne_81 ?_
          obtain ⟨v15, e_v15, i_v15, h⟩ := gf_s hR h
          refine Pool_n_made C0 hE e_v15 nk_X7_130 dX7_putOne_84 ?_
          refine lv_iload C0.1 C0.2.1 dX7_putOne_87 (lv_at hl 0 rfl) ?_
          obtain ⟨v16, e_v16, i_v16, h⟩ := osub_s h
          refine x_sub C0 e_v16 dX7_putOne_89 ?_
          exact ret_i (wf := wE g) C0 hr hlk hE h i_v16 hR dX7_putOne_90
        · have h := ite_t c9 h
          refine lv_bipush (v := I (-2)) C0.1 C0.2.1 dX7_putOne_35 (by decide +kernel) ?_
          exact ret_i (wf := wE g) C0 hr hlk hE h lit_m2 hR dX7_putOne_37
      · have h := ite_t c9 h
        refine lv_iconst (v := I (-1)) C0.1 C0.2.1 dX7_putOne_21 rfl ?_
        exact ret_i (wf := wE g) C0 hr hlk hE h lit_m1 hR dX7_putOne_22
set_option maxRecDepth 100000 in
set_option maxHeartbeats 4000000 in
theorem c_E_front (l : Launch) (D : va_G) (g : Ad) {σ σr : St} {p1 p2 p3 r : Int} (hR : R32 σ) (i_p1 : in32 p1) (i_p2 : in32 p2) (i_p3 : in32 p3) (h : E_front σ p1 p2 p3 = some (r, σr)) : CtI l D g yX7_front cX7_front 4 (some .int) 18 (wE g σ) (wE g σr) [.ref (g.2 0), .int (I p1), .int (I p2), .int (I p3)] r (in32 r ∧ R32 σr) := by
  intro sz
  refine met_of (by decide) (Nat.le_of_ble_eq_true rfl) (fun p e s m args below meth c ls H locs C0 hml hr hlk hE hl => ?_)
  have C0 : CX p c cX7_front m s args D g RX7 := C0
  have hl : lv_has ls 4 [(0, .ref (g.2 0)), (1, .int (I p1)), (2, .int (I p2)), (3, .int (I p3))] := hl
  unfold E_front at h
  refine lv_aload_n C0.1 C0.2.1 dX7_front_0 rfl (lv_at hl 0 rfl) ?_
  refine lv_iload_n C0.1 C0.2.1 dX7_front_1 rfl (lv_at hl 1 rfl) ?_
  refine lv_iload_n C0.1 C0.2.1 dX7_front_2 rfl (lv_at hl 2 rfl) ?_
  refine lv_iload_n C0.1 C0.2.1 dX7_front_3 rfl (lv_at hl 3 rfl) ?_
  refine lv_iconst (v := I 0) C0.1 C0.2.1 dX7_front_4 rfl ?_
  obtain ⟨v1, s2, h_v1, h⟩ := bnd_s h
  refine callV_i (rest := []) C0 hml hE (E_rec C0 hE) (c_E_putOne l D g hR i_p1 i_p2 i_p3 lit_0 h_v1) kw_X7_187 ⟨Nat.le_of_ble_eq_true rfl, Nat.le_of_ble_eq_true rfl⟩ rfl hl.1 rfl (Nat.le_of_ble_eq_true rfl) dX7_front_5 ⟨Nat.zero_le _, Nat.zero_le _⟩ (fun H locs hE ⟨i_v1, hR⟩ => ?_)
  exact ret_i (wf := wE g) C0 hr hlk hE h i_v1 hR dX7_front_8
set_option maxRecDepth 100000 in
set_option maxHeartbeats 4000000 in
theorem c_E_back (l : Launch) (D : va_G) (g : Ad) {σ σr : St} {p1 p2 p3 r : Int} (hR : R32 σ) (i_p1 : in32 p1) (i_p2 : in32 p2) (i_p3 : in32 p3) (h : E_back σ p1 p2 p3 = some (r, σr)) : CtI l D g yX7_back cX7_back 4 (some .int) 18 (wE g σ) (wE g σr) [.ref (g.2 0), .int (I p1), .int (I p2), .int (I p3)] r (in32 r ∧ R32 σr) := by
  intro sz
  refine met_of (by decide) (Nat.le_of_ble_eq_true rfl) (fun p e s m args below meth c ls H locs C0 hml hr hlk hE hl => ?_)
  have C0 : CX p c cX7_back m s args D g RX7 := C0
  have hl : lv_has ls 4 [(0, .ref (g.2 0)), (1, .int (I p1)), (2, .int (I p2)), (3, .int (I p3))] := hl
  unfold E_back at h
  refine lv_aload_n C0.1 C0.2.1 dX7_back_0 rfl (lv_at hl 0 rfl) ?_
  refine lv_iload_n C0.1 C0.2.1 dX7_back_1 rfl (lv_at hl 1 rfl) ?_
  refine lv_iload_n C0.1 C0.2.1 dX7_back_2 rfl (lv_at hl 2 rfl) ?_
  refine lv_iload_n C0.1 C0.2.1 dX7_back_3 rfl (lv_at hl 3 rfl) ?_
  refine lv_iconst (v := I 1) C0.1 C0.2.1 dX7_back_4 rfl ?_
  obtain ⟨v1, s2, h_v1, h⟩ := bnd_s h
  refine callV_i (rest := []) C0 hml hE (E_rec C0 hE) (c_E_putOne l D g hR i_p1 i_p2 i_p3 lit_1 h_v1) kw_X7_187 ⟨Nat.le_of_ble_eq_true rfl, Nat.le_of_ble_eq_true rfl⟩ rfl hl.1 rfl (Nat.le_of_ble_eq_true rfl) dX7_back_5 ⟨Nat.zero_le _, Nat.zero_le _⟩ (fun H locs hE ⟨i_v1, hR⟩ => ?_)
  exact ret_i (wf := wE g) C0 hr hlk hE h i_v1 hR dX7_back_8
set_option maxRecDepth 100000 in
set_option maxHeartbeats 4000000 in
theorem c_Pool_firstGone (l : Launch) (D : va_G) (g : Ad) : ∀ (d : Nat) {σ σr : St} {p2 p3 r : Int} (hR : R32 σ) (i_p2 : in32 p2) (i_p3 : in32 p3) (h : Pool_firstGone d σ p2 p3 = some (r, σr)), CtI l D g yX0_firstGone cX0_firstGone 5 (some .int) (3 + d) (wE g σ) (wE g σr) [.ref (g.2 1), .int (I p2), .int (I p3)] r (in32 r ∧ R32 σr) := by
  intro d
  induction d with
  | zero => intros; rename_i h; cases h
  | succ d ih =>
    intro σ σr p2 p3 r hR i_p2 i_p3 h sz
    refine met_of (by decide) (Nat.le_of_ble_eq_true rfl) (fun p e s m args below meth c ls H locs C0 hml hr hlk hE hl => ?_)
    have C0 : CX p c cX0_firstGone m s args D g RX0 := C0
    have hl : lv_has ls 5 [(0, .ref (g.2 1)), (1, .int (I p2)), (2, .int (I p3))] := hl
    unfold Pool_firstGone at h
    refine lv_iload_n C0.1 C0.2.1 dX0_firstGone_0 rfl (lv_at hl 2 rfl) ?_
    refine lv_iconst (v := I 1) C0.1 C0.2.1 dX0_firstGone_1 rfl ?_
    refine x_icmp_gt C0 i_p3 lit_1 dX0_firstGone_2 (tgt := 7) (by decide) (fun c9 => ?_) (fun c9 => ?_)
    · have h := ite_t c9 h
      refine lv_aload_n C0.1 C0.2.1 dX0_firstGone_7 rfl (lv_at hl 0 rfl) ?_
      refine lv_iload_n C0.1 C0.2.1 dX0_firstGone_8 rfl (lv_at hl 1 rfl) ?_
      obtain ⟨v1, h_v1, h⟩ := bndp_s h
      refine callV_i (rest := []) C0 hml hE (Pool_rec C0 hE) (c_Pool_leftOf l D g hR i_p2 h_v1) kw_X0_57 (by simp only [rmk, RD]; omega) rfl hl.1 rfl (Nat.le_of_ble_eq_true rfl) dX0_firstGone_9 ⟨Nat.zero_le _, Nat.zero_le _⟩ (fun H locs hE i_v1 => ?_)
      refine lv_istore_n (lv' := [(3, .int (I v1)), (0, .ref (g.2 1)), (1, .int (I p2)), (2, .int (I p3))]) C0.1 C0.2.1 dX0_firstGone_12 rfl hl (by decide) rfl (fun ls hl => ?_)
      refine lv_aload_n C0.1 C0.2.1 dX0_firstGone_13 rfl (lv_at hl 1 rfl) ?_
      refine lv_iload_n C0.1 C0.2.1 dX0_firstGone_14 rfl (lv_at hl 0 rfl) ?_
      refine lv_iload_n C0.1 C0.2.1 dX0_firstGone_15 rfl (lv_at hl 3 rfl) ?_
      obtain ⟨v2, h_v2, h⟩ := bndp_s h
      refine callS_i (rest := [.int (I v1), .ref (g.2 1)]) C0 hml hE (c_Shape_leftSize l D g (σ := σ) i_p3 h_v2) kw_X0_126 (by simp only [rmk, RD]; omega) rfl hl.1 rfl (Nat.le_of_ble_eq_true rfl) dX0_firstGone_16 ⟨Nat.zero_le _, Nat.zero_le _⟩ (fun H locs hE i_v2 => ?_)
      obtain ⟨v3, s4, h_v3, h⟩ := bnd_s h
      refine callS_i (rest := []) C0 hml hE (ih hR i_v1 i_v2 h_v3) kw_X0_113 (by simp only [rmk, RD]; omega) rfl hl.1 rfl (Nat.le_of_ble_eq_true rfl) dX0_firstGone_19 ⟨Nat.zero_le _, Nat.zero_le _⟩ (fun H locs hE ⟨i_v3, hR⟩ => ?_)
      refine lv_istore (lv' := [(4, .int (I v3)), (3, .int (I v1)), (0, .ref (g.2 1)), (1, .int (I p2)), (2, .int (I p3))]) C0.1 C0.2.1 dX0_firstGone_22 hl (by decide) rfl (fun ls hl => ?_)
      refine lv_aload_n C0.1 C0.2.1 dX0_firstGone_24 rfl (lv_at hl 2 rfl) ?_
      refine lv_aload_n C0.1 C0.2.1 dX0_firstGone_25 rfl (lv_at hl 2 rfl) ?_
      refine lv_iload_n C0.1 C0.2.1 dX0_firstGone_26 rfl (lv_at hl 1 rfl) ?_
      obtain ⟨v5, h_v5, h⟩ := bndp_s h
      refine callV_i (rest := [.ref (g.2 1)]) C0 hml hE (Pool_rec C0 hE) (c_Pool_numberOf l D g hR i_v1 h_v5) kw_X0_64 (by simp only [rmk, RD]; omega) rfl hl.1 rfl (Nat.le_of_ble_eq_true rfl) dX0_firstGone_27 ⟨Nat.zero_le _, Nat.zero_le _⟩ (fun H locs hE i_v5 => ?_)
      refine lv_aload_n C0.1 C0.2.1 dX0_firstGone_30 rfl (lv_at hl 2 rfl) ?_
      refine lv_iload_n C0.1 C0.2.1 dX0_firstGone_31 rfl (lv_at hl 3 rfl) ?_
      obtain ⟨v6, h_v6, h⟩ := bndp_s h
      refine callV_i (rest := [.int (I v5), .ref (g.2 1)]) C0 hml hE (Pool_rec C0 hE) (c_Pool_rightOf l D g hR i_p2 h_v6) kw_X0_61 (by simp only [rmk, RD]; omega) rfl hl.1 rfl (Nat.le_of_ble_eq_true rfl) dX0_firstGone_32 ⟨Nat.zero_le _, Nat.zero_le _⟩ (fun H locs hE i_v6 => ?_)
      refine lv_iload C0.1 C0.2.1 dX0_firstGone_35 (lv_at hl 0 rfl) ?_
      obtain ⟨v7, s8, h_v7, h⟩ := bnd_s h
      refine callV_i (rest := []) C0 hml hE (Pool_rec C0 hE) (c_Pool_make l D g hR i_v5 i_v6 i_v3 h_v7) kw_X0_76 (by simp only [rmk, RD]; omega) rfl hl.1 rfl (Nat.le_of_ble_eq_true rfl) dX0_firstGone_37 ⟨Nat.zero_le _, Nat.zero_le _⟩ (fun H locs hE ⟨i_v7, hR⟩ => ?_)
      exact ret_i (wf := wE g) C0 hr hlk hE h i_v7 hR dX0_firstGone_40
    · have h := ite_f c9 h
      refine lv_iconst (v := I 0) C0.1 C0.2.1 dX0_firstGone_5 rfl ?_
      exact ret_i (wf := wE g) C0 hr hlk hE h lit_0 hR dX0_firstGone_6
set_option maxRecDepth 100000 in
set_option maxHeartbeats 4000000 in
theorem c_Pool_lastGone (l : Launch) (D : va_G) (g : Ad) : ∀ (d : Nat) {σ σr : St} {p2 p3 r : Int} (hR : R32 σ) (i_p2 : in32 p2) (i_p3 : in32 p3) (h : Pool_lastGone d σ p2 p3 = some (r, σr)), CtI l D g yX0_lastGone cX0_lastGone 5 (some .int) (3 + d) (wE g σ) (wE g σr) [.ref (g.2 1), .int (I p2), .int (I p3)] r (in32 r ∧ R32 σr) := by
  intro d
  induction d with
  | zero => intros; rename_i h; cases h
  | succ d ih =>
    intro σ σr p2 p3 r hR i_p2 i_p3 h sz
    refine met_of (by decide) (Nat.le_of_ble_eq_true rfl) (fun p e s m args below meth c ls H locs C0 hml hr hlk hE hl => ?_)
    have C0 : CX p c cX0_lastGone m s args D g RX0 := C0
    have hl : lv_has ls 5 [(0, .ref (g.2 1)), (1, .int (I p2)), (2, .int (I p3))] := hl
    unfold Pool_lastGone at h
    refine lv_iload_n C0.1 C0.2.1 dX0_lastGone_0 rfl (lv_at hl 2 rfl) ?_
    refine lv_iconst (v := I 1) C0.1 C0.2.1 dX0_lastGone_1 rfl ?_
    refine x_icmp_gt C0 i_p3 lit_1 dX0_lastGone_2 (tgt := 7) (by decide) (fun c9 => ?_) (fun c9 => ?_)
    · have h := ite_t c9 h
      refine lv_aload_n C0.1 C0.2.1 dX0_lastGone_7 rfl (lv_at hl 0 rfl) ?_
      refine lv_iload_n C0.1 C0.2.1 dX0_lastGone_8 rfl (lv_at hl 1 rfl) ?_
      obtain ⟨v1, h_v1, h⟩ := bndp_s h
      refine callV_i (rest := []) C0 hml hE (Pool_rec C0 hE) (c_Pool_leftOf l D g hR i_p2 h_v1) kw_X0_57 (by simp only [rmk, RD]; omega) rfl hl.1 rfl (Nat.le_of_ble_eq_true rfl) dX0_lastGone_9 ⟨Nat.zero_le _, Nat.zero_le _⟩ (fun H locs hE i_v1 => ?_)
      refine lv_istore_n (lv' := [(3, .int (I v1)), (0, .ref (g.2 1)), (1, .int (I p2)), (2, .int (I p3))]) C0.1 C0.2.1 dX0_lastGone_12 rfl hl (by decide) rfl (fun ls hl => ?_)
      refine lv_aload_n C0.1 C0.2.1 dX0_lastGone_13 rfl (lv_at hl 1 rfl) ?_
      refine lv_iload_n C0.1 C0.2.1 dX0_lastGone_14 rfl (lv_at hl 2 rfl) ?_
      obtain ⟨v2, h_v2, h⟩ := bndp_s h
      refine callV_i (rest := []) C0 hml hE (Pool_rec C0 hE) (c_Pool_rightOf l D g hR i_p2 h_v2) kw_X0_61 (by simp only [rmk, RD]; omega) rfl hl.1 rfl (Nat.le_of_ble_eq_true rfl) dX0_lastGone_15 ⟨Nat.zero_le _, Nat.zero_le _⟩ (fun H locs hE i_v2 => ?_)
      refine lv_istore (lv' := [(4, .int (I v2)), (3, .int (I v1)), (0, .ref (g.2 1)), (1, .int (I p2)), (2, .int (I p3))]) C0.1 C0.2.1 dX0_lastGone_18 hl (by decide) rfl (fun ls hl => ?_)
      refine lv_iload_n C0.1 C0.2.1 dX0_lastGone_20 rfl (lv_at hl 4 rfl) ?_
      refine lv_iconst (v := I 2) C0.1 C0.2.1 dX0_lastGone_21 rfl ?_
      obtain ⟨v3, e_v3, i_v3, h⟩ := orem_s lit_2 h
      refine x_rem C0 i_p3 lit_2 e_v3 dX0_lastGone_22 ?_
      obtain ⟨k7, e_k7, h⟩ := jn_s h
      have h_k7 : ∀ (s4 : St) (hR : R32 s4) (x5 : Int) (i_x5 : in32 x5) (x6 : Int) (i_x6 : in32 x6) (H : Heap) (locs : List Loc) (ls : Array Slot), EW D (va_A (wE g σ) sz) s.heap (wE g s4) H locs → lv_has ls 5 [(0, .ref (g.2 1)), (1, .int (I p2)), (3, .int (I x5)), (4, .int (I x6))] → k7 s4 x5 x6 = some (r, σr) → W p l e (rmk (3 + (d + 1))) s m args below meth c H locs 0 0 (MQ below (QCi D (wE g σr) r (in32 r ∧ R32 σr) (va_A (wE g σ) sz)) args s 0 0 (va_A (wE g σ) sz)) (F0 m 51 ls []) := by
        intro s4 hR x5 i_x5 x6 i_x6 H locs ls hE hl h
        have h := (congrFun (congrFun (congrFun e_k7 s4) x5) x6).symm.trans h
        refine lv_aload_n C0.1 C0.2.1 dX0_lastGone_51 rfl (lv_at hl 0 rfl) ?_
        refine lv_aload_n C0.1 C0.2.1 dX0_lastGone_52 rfl (lv_at hl 0 rfl) ?_
        refine lv_iload_n C0.1 C0.2.1 dX0_lastGone_53 rfl (lv_at hl 1 rfl) ?_
        obtain ⟨v8, h_v8, h⟩ := bndp_s h
        refine callV_i (rest := [.ref (g.2 1)]) C0 hml hE (Pool_rec C0 hE) (c_Pool_numberOf l D g hR i_p2 h_v8) kw_X0_64 (by simp only [rmk, RD]; omega) rfl hl.1 rfl (Nat.le_of_ble_eq_true rfl) dX0_lastGone_54 ⟨Nat.zero_le _, Nat.zero_le _⟩ (fun H locs hE i_v8 => ?_)
        refine lv_iload_n C0.1 C0.2.1 dX0_lastGone_57 rfl (lv_at hl 2 rfl) ?_
        refine lv_iload C0.1 C0.2.1 dX0_lastGone_58 (lv_at hl 3 rfl) ?_
        obtain ⟨v9, s10, h_v9, h⟩ := bnd_s h
        refine callV_i (rest := []) C0 hml hE (Pool_rec C0 hE) (c_Pool_make l D g hR i_v8 i_x5 i_x6 h_v9) kw_X0_76 (by simp only [rmk, RD]; omega) rfl hl.1 rfl (Nat.le_of_ble_eq_true rfl) dX0_lastGone_60 ⟨Nat.zero_le _, Nat.zero_le _⟩ (fun H locs hE ⟨i_v9, hR⟩ => ?_)
        exact ret_i (wf := wE g) C0 hr hlk hE h i_v9 hR dX0_lastGone_63
      refine x_if_ne C0 i_v3 dX0_lastGone_23 (tgt := 39) (by decide) (fun c9 => ?_) (fun c9 => ?_)
      · have h := ite_f c9 h
        refine lv_aload_n C0.1 C0.2.1 dX0_lastGone_39 rfl (lv_at hl 2 rfl) ?_
        refine lv_iload C0.1 C0.2.1 dX0_lastGone_40 (lv_at hl 0 rfl) ?_
        refine lv_iload_n C0.1 C0.2.1 dX0_lastGone_42 rfl (lv_at hl 4 rfl) ?_
        obtain ⟨v11, h_v11, h⟩ := bndp_s h
        refine callS_i (rest := [.int (I v2), .ref (g.2 1)]) C0 hml hE (c_Shape_rightSize l D g (σ := σ) i_p3 h_v11) kw_X0_136 (by simp only [rmk, RD]; omega) rfl hl.1 rfl (Nat.le_of_ble_eq_true rfl) dX0_lastGone_43 ⟨Nat.zero_le _, Nat.zero_le _⟩ (fun H locs hE i_v11 => ?_)
        obtain ⟨v12, s13, h_v12, h⟩ := bnd_s h
        refine callS_i (rest := []) C0 hml hE (ih hR i_v2 i_v11 h_v12) kw_X0_117 (by simp only [rmk, RD]; omega) rfl hl.1 rfl (Nat.le_of_ble_eq_true rfl) dX0_lastGone_46 ⟨Nat.zero_le _, Nat.zero_le _⟩ (fun H locs hE ⟨i_v12, hR⟩ => ?_)
        refine lv_istore (lv' := [(4, .int (I v12)), (3, .int (I v1)), (0, .ref (g.2 1)), (1, .int (I p2)), (2, .int (I p3))]) C0.1 C0.2.1 dX0_lastGone_49 hl (by decide) rfl (fun ls hl => ?_)
        exact h_k7 s13 hR v1 i_v1 v12 i_v12 _ _ _ hE (lv_sub hl [2, 3, 1, 0] rfl) h
      · have h := ite_t c9 h
        refine lv_aload_n C0.1 C0.2.1 dX0_lastGone_26 rfl (lv_at hl 2 rfl) ?_
        refine lv_iload_n C0.1 C0.2.1 dX0_lastGone_27 rfl (lv_at hl 1 rfl) ?_
        refine lv_iload_n C0.1 C0.2.1 dX0_lastGone_28 rfl (lv_at hl 4 rfl) ?_
        obtain ⟨v14, h_v14, h⟩ := bndp_s h
        refine callS_i (rest := [.int (I v1), .ref (g.2 1)]) C0 hml hE (c_Shape_leftSize l D g (σ := σ) i_p3 h_v14) kw_X0_126 (by simp only [rmk, RD]; omega) rfl hl.1 rfl (Nat.le_of_ble_eq_true rfl) dX0_lastGone_29 ⟨Nat.zero_le _, Nat.zero_le _⟩ (fun H locs hE i_v14 => ?_)
        obtain ⟨v15, s16, h_v15, h⟩ := bnd_s h
        refine callS_i (rest := []) C0 hml hE (ih hR i_v1 i_v14 h_v15) kw_X0_117 (by simp only [rmk, RD]; omega) rfl hl.1 rfl (Nat.le_of_ble_eq_true rfl) dX0_lastGone_32 ⟨Nat.zero_le _, Nat.zero_le _⟩ (fun H locs hE ⟨i_v15, hR⟩ => ?_)
        refine lv_istore_n (lv' := [(3, .int (I v15)), (4, .int (I v2)), (0, .ref (g.2 1)), (1, .int (I p2)), (2, .int (I p3))]) C0.1 C0.2.1 dX0_lastGone_35 rfl hl (by decide) rfl (fun ls hl => ?_)
        refine x_goto C0 dX0_lastGone_36 (tgt := 51) (by decide) ?_
        exact h_k7 s16 hR v15 i_v15 v2 i_v2 _ _ _ hE (lv_sub hl [2, 3, 0, 1] rfl) h
    · have h := ite_f c9 h
      refine lv_iconst (v := I 0) C0.1 C0.2.1 dX0_lastGone_5 rfl ?_
      exact ret_i (wf := wE g) C0 hr hlk hE h lit_0 hR dX0_lastGone_6
set_option maxRecDepth 100000 in
set_option maxHeartbeats 4000000 in
theorem c_Pool_take (l : Launch) (D : va_G) (g : Ad) {σ σr : St} {p1 p2 p3 r : Int} (hR : R32 σ) (i_p1 : in32 p1) (i_p2 : in32 p2) (i_p3 : in32 p3) (h : Pool_take σ p1 p2 p3 = some (r, σr)) : CtI l D g yX0_take cX0_take 4 (some .int) 16 (wE g σ) (wE g σr) [.ref (g.2 1), .int (I p1), .int (I p2), .int (I p3)] r (in32 r ∧ R32 σr) := by
  intro sz
  refine met_of (by decide) (Nat.le_of_ble_eq_true rfl) (fun p e s m args below meth c ls H locs C0 hml hr hlk hE hl => ?_)
  have C0 : CX p c cX0_take m s args D g RX0 := C0
  have hl : lv_has ls 4 [(0, .ref (g.2 1)), (1, .int (I p1)), (2, .int (I p2)), (3, .int (I p3))] := hl
  unfold Pool_take at h
  refine lv_iload_n C0.1 C0.2.1 dX0_take_0 rfl (lv_at hl 3 rfl) ?_
  refine lv_iconst (v := I 2) C0.1 C0.2.1 dX0_take_1 rfl ?_
  refine x_icmp_ne C0 i_p3 lit_2 dX0_take_2 (tgt := 14) (by decide) (fun c9 => ?_) (fun c9 => ?_)
  · have h := ite_f c9 h
    refine lv_aload_n C0.1 C0.2.1 dX0_take_14 rfl (lv_at hl 0 rfl) ?_
    refine lv_iload_n C0.1 C0.2.1 dX0_take_15 rfl (lv_at hl 1 rfl) ?_
    refine lv_iload_n C0.1 C0.2.1 dX0_take_16 rfl (lv_at hl 2 rfl) ?_
    obtain ⟨v1, s2, h_v1, h⟩ := bnd_s h
    refine callS_i (rest := []) C0 hml hE (c_Pool_lastGone l D g RD hR i_p1 i_p2 h_v1) kw_X0_117 ⟨Nat.le_of_ble_eq_true rfl, Nat.le_of_ble_eq_true rfl⟩ rfl hl.1 rfl (Nat.le_of_ble_eq_true rfl) dX0_take_17 ⟨Nat.zero_le _, Nat.zero_le _⟩ (fun H locs hE ⟨i_v1, hR⟩ => ?_)
    exact ret_i (wf := wE g) C0 hr hlk hE h i_v1 hR dX0_take_20
  · have h := ite_t c9 h
    refine lv_aload_n C0.1 C0.2.1 dX0_take_5 rfl (lv_at hl 0 rfl) ?_
    refine lv_iload_n C0.1 C0.2.1 dX0_take_6 rfl (lv_at hl 1 rfl) ?_
    refine lv_iload_n C0.1 C0.2.1 dX0_take_7 rfl (lv_at hl 2 rfl) ?_
    obtain ⟨v3, s4, h_v3, h⟩ := bnd_s h
    refine callS_i (rest := []) C0 hml hE (c_Pool_firstGone l D g RD hR i_p1 i_p2 h_v3) kw_X0_113 ⟨Nat.le_of_ble_eq_true rfl, Nat.le_of_ble_eq_true rfl⟩ rfl hl.1 rfl (Nat.le_of_ble_eq_true rfl) dX0_take_8 ⟨Nat.zero_le _, Nat.zero_le _⟩ (fun H locs hE ⟨i_v3, hR⟩ => ?_)
    refine x_goto C0 dX0_take_11 (tgt := 20) (by decide) ?_
    exact ret_i (wf := wE g) C0 hr hlk hE h i_v3 hR dX0_take_20
set_option maxRecDepth 100000 in
set_option maxHeartbeats 4000000 in
theorem c_Row_add (l : Launch) (D : va_G) (g : Ad) {σ σr : St} {p1 r : Int} (hR : R32 σ) (i_p1 : in64 p1) (h : Row_add σ p1 = some (r, σr)) : CtV l D g yX2_add cX2_add 3 none 1 (wE g σ) (wE g σr) [.ref (g.2 2), .long (J p1)] (R32 σr) := by
  intro sz
  refine met_of (by decide) (Nat.le_of_ble_eq_true rfl) (fun p e s m args below meth c ls H locs C0 hml hr hlk hE hl => ?_)
  have C0 : CX p c cX2_add m s args D g RX2 := C0
  have hl : lv_has ls 3 [(0, .ref (g.2 2)), (1, .long (J p1))] := hl
  unfold Row_add at h
  refine lv_aload_n C0.1 C0.2.1 dX2_add_0 rfl (lv_at hl 0 rfl) ?_
  obtain ⟨v1, e_v1, i_v1, h⟩ := gf_s hR h
  refine Row_g_many C0 hE e_v1 fk_X2_15 dX2_add_1 ?_
  refine lv_aload_n C0.1 C0.2.1 dX2_add_4 rfl (lv_at hl 0 rfl) ?_
  refine Row_g_numbers C0 hE fk_X2_9 dX2_add_5 ?_
  refine Row_numbers_len C0 hE dX2_add_8 ?_
  refine x_icmp_ge C0 i_v1 lit_16 dX2_add_9 (tgt := 32) (by decide) (fun c9 => ?_) (fun c9 => ?_)
  · have h := ite_f c9 h
    exact ret_v (wf := wE g) C0 hr hlk hE h hR dX2_add_32
  · have h := ite_t c9 h
    refine lv_aload_n C0.1 C0.2.1 dX2_add_12 rfl (lv_at hl 0 rfl) ?_
    refine Row_g_numbers C0 hE fk_X2_9 dX2_add_13 ?_
    refine lv_aload_n C0.1 C0.2.1 dX2_add_16 rfl (lv_at hl 0 rfl) ?_
    obtain ⟨v2, e_v2, i_v2, h⟩ := gf_s hR h
    refine Row_g_many C0 hE e_v2 fk_X2_15 dX2_add_17 ?_
    refine lv_lload_n C0.1 C0.2.1 dX2_add_20 rfl (lv_at hl 1 rfl) ?_
    obtain ⟨s3, e_s3, hR, h⟩ := wrL_s hR h
    refine Row_numbers_st C0 hE i_v2 e_s3 dX2_add_21 (fun H locs hE => ?_)
    refine lv_aload_n C0.1 C0.2.1 dX2_add_22 rfl (lv_at hl 0 rfl) ?_
    refine lv_dup C0.1 C0.2.1 dX2_add_23 rfl ?_
    obtain ⟨v4, e_v4, i_v4, h⟩ := gf_s hR h
    refine Row_g_many C0 hE e_v4 fk_X2_15 dX2_add_24 ?_
    refine lv_iconst (v := I 1) C0.1 C0.2.1 dX2_add_27 rfl ?_
    obtain ⟨v5, e_v5, i_v5, h⟩ := oadd_s h
    refine x_add C0 e_v5 dX2_add_28 ?_
    obtain ⟨s6, e_s6, hR, h⟩ := pf_s hR i_v5 h
    refine Row_p_many C0 hE e_s6 fk_X2_15 dX2_add_29 (fun H locs hE => ?_)
    exact ret_v (wf := wE g) C0 hr hlk hE h hR dX2_add_32
set_option maxRecDepth 100000 in
set_option maxHeartbeats 4000000 in
theorem c_Row_clear (l : Launch) (D : va_G) (g : Ad) {σ σr : St} {r : Int} (hR : R32 σ) (h : Row_clear σ = some (r, σr)) : CtV l D g yX2_clear cX2_clear 1 none 1 (wE g σ) (wE g σr) [.ref (g.2 2)] (R32 σr) := by
  intro sz
  refine met_of (by decide) (Nat.le_of_ble_eq_true rfl) (fun p e s m args below meth c ls H locs C0 hml hr hlk hE hl => ?_)
  have C0 : CX p c cX2_clear m s args D g RX2 := C0
  have hl : lv_has ls 1 [(0, .ref (g.2 2))] := hl
  unfold Row_clear at h
  refine lv_aload_n C0.1 C0.2.1 dX2_clear_0 rfl (lv_at hl 0 rfl) ?_
  refine lv_iconst (v := I 0) C0.1 C0.2.1 dX2_clear_1 rfl ?_
  obtain ⟨s1, e_s1, hR, h⟩ := pf_s hR lit_0 h
  refine Row_p_many C0 hE e_s1 fk_X2_15 dX2_clear_2 (fun H locs hE => ?_)
  exact ret_v (wf := wE g) C0 hr hlk hE h hR dX2_clear_5
set_option maxRecDepth 100000 in
set_option maxHeartbeats 4000000 in
theorem c_Row_tell (l : Launch) (D : va_G) (g : Ad) {σ σr : St} {p1 r : Int} (hR : R32 σ) (i_p1 : in64 p1) (h : Row_tell σ p1 = some (r, σr)) : CtV l D g yX2_tell cX2_tell 3 none 2 (wE g σ) (wE g σr) [.ref (g.2 2), .long (J p1)] (R32 σr) := by
  intro sz
  refine met_of (by decide) (Nat.le_of_ble_eq_true rfl) (fun p e s m args below meth c ls H locs C0 hml hr hlk hE hl => ?_)
  have C0 : CX p c cX2_tell m s args D g RX2 := C0
  have hl : lv_has ls 3 [(0, .ref (g.2 2)), (1, .long (J p1))] := hl
  unfold Row_tell at h
  refine lv_aload_n C0.1 C0.2.1 dX2_tell_0 rfl (lv_at hl 0 rfl) ?_
  obtain ⟨v1, s2, h_v1, h⟩ := bnd_s h
  refine callV_v (rest := []) C0 hml hE (Row_rec C0 hE) (c_Row_clear l D g hR h_v1) kw_X2_19 ⟨Nat.le_of_ble_eq_true rfl, Nat.le_of_ble_eq_true rfl⟩ rfl hl.1 rfl (Nat.le_of_ble_eq_true rfl) dX2_tell_1 ⟨Nat.zero_le _, Nat.zero_le _⟩ (fun H locs hE hR => ?_)
  refine lv_aload_n C0.1 C0.2.1 dX2_tell_4 rfl (lv_at hl 0 rfl) ?_
  refine lv_lload_n C0.1 C0.2.1 dX2_tell_5 rfl (lv_at hl 1 rfl) ?_
  obtain ⟨v3, s4, h_v3, h⟩ := bnd_s h
  refine callV_v (rest := []) C0 hml hE (Row_rec C0 hE) (c_Row_add l D g hR i_p1 h_v3) kw_X2_22 ⟨Nat.le_of_ble_eq_true rfl, Nat.le_of_ble_eq_true rfl⟩ rfl hl.1 rfl (Nat.le_of_ble_eq_true rfl) dX2_tell_6 ⟨Nat.zero_le _, Nat.zero_le _⟩ (fun H locs hE hR => ?_)
  exact ret_v (wf := wE g) C0 hr hlk hE h hR dX2_tell_9
set_option maxRecDepth 100000 in
set_option maxHeartbeats 4000000 in
theorem c_E_takeOne (l : Launch) (D : va_G) (g : Ad) {σ σr : St} {p1 p2 p3 p4 r : Int} (hR : R32 σ) (i_p1 : in32 p1) (i_p2 : in32 p2) (i_p3 : in32 p3) (i_p4 : in32 p4) (h : E_takeOne σ p1 p2 p3 p4 = some (r, σr)) : CtI l D g yX7_takeOne cX7_takeOne 6 (some .int) 17 (wE g σ) (wE g σr) [.ref (g.2 0), .int (I p1), .int (I p2), .int (I p3), .int (I p4)] r (in32 r ∧ R32 σr) := by
  intro sz
  refine met_of (by decide) (Nat.le_of_ble_eq_true rfl) (fun p e s m args below meth c ls H locs C0 hml hr hlk hE hl => ?_)
  have C0 : CX p c cX7_takeOne m s args D g RX7 := C0
  have hl : lv_has ls 6 [(0, .ref (g.2 0)), (1, .int (I p1)), (2, .int (I p2)), (3, .int (I p3)), (4, .int (I p4))] := hl
  unfold E_takeOne at h
  refine lv_aload_n C0.1 C0.2.1 dX7_takeOne_0 rfl (lv_at hl 0 rfl) ?_
  refine E_g_told C0 hE fk_X7_19 dX7_takeOne_1 ?_
  refine lv_aload_n C0.1 C0.2.1 dX7_takeOne_4 rfl (lv_at hl 0 rfl) ?_
  refine E_g_pool C0 hE fk_X7_10 dX7_takeOne_5 ?_
  refine lv_aload_n C0.1 C0.2.1 dX7_takeOne_8 rfl (lv_at hl 0 rfl) ?_
  refine E_g_trees C0 hE fk_X7_49 dX7_takeOne_9 ?_
  refine lv_iload_n C0.1 C0.2.1 dX7_takeOne_12 rfl (lv_at hl 1 rfl) ?_
  obtain ⟨v1, e_v1, i_v1, h⟩ := rd_s hR h
  refine E_trees_l C0 hE i_p1 e_v1 dX7_takeOne_13 ?_
  refine lv_iload_n C0.1 C0.2.1 dX7_takeOne_14 rfl (lv_at hl 2 rfl) ?_
  obtain ⟨v2, h_v2, h⟩ := bndp_s h
  refine callV_i (rest := [.ref (g.2 2)]) C0 hml hE (Pool_rec C0 hE) (c_Pool_numberAt l D g hR i_v1 i_p2 h_v2) kw_X7_168 ⟨Nat.le_of_ble_eq_true rfl, Nat.le_of_ble_eq_true rfl⟩ rfl hl.1 rfl (Nat.le_of_ble_eq_true rfl) dX7_takeOne_15 ⟨Nat.zero_le _, Nat.zero_le _⟩ (fun H locs hE i_v2 => ?_)
  refine x_i2l C0 i_v2 dX7_takeOne_18 ?_
  obtain ⟨v3, s4, h_v3, h⟩ := bnd_s h
  refine callV_v (rest := []) C0 hml hE (Row_rec C0 hE) (c_Row_tell l D g hR (in64_of i_v2) h_v3) kw_X7_171 ⟨Nat.le_of_ble_eq_true rfl, Nat.le_of_ble_eq_true rfl⟩ rfl hl.1 rfl (Nat.le_of_ble_eq_true rfl) dX7_takeOne_19 ⟨Nat.zero_le _, Nat.zero_le _⟩ (fun H locs hE hR => ?_)
  refine lv_aload_n C0.1 C0.2.1 dX7_takeOne_22 rfl (lv_at hl 0 rfl) ?_
  obtain ⟨v5, s6, h_v5, h⟩ := bnd_s h
  refine callV_i (rest := []) C0 hml hE (E_rec C0 hE) (c_E_begin l D g hR h_v5) kw_X7_120 ⟨Nat.le_of_ble_eq_true rfl, Nat.le_of_ble_eq_true rfl⟩ rfl hl.1 rfl (Nat.le_of_ble_eq_true rfl) dX7_takeOne_23 ⟨Nat.zero_le _, Nat.zero_le _⟩ (fun H locs hE ⟨i_v5, hR⟩ => ?_)
  refine lv_istore (lv' := [(5, .int (I v5)), (0, .ref (g.2 0)), (1, .int (I p1)), (2, .int (I p2)), (3, .int (I p3)), (4, .int (I p4))]) C0.1 C0.2.1 dX7_takeOne_26 hl (by decide) rfl (fun ls hl => ?_)
  refine lv_aload_n C0.1 C0.2.1 dX7_takeOne_28 rfl (lv_at hl 1 rfl) ?_
  refine lv_iload_n C0.1 C0.2.1 dX7_takeOne_29 rfl (lv_at hl 4 rfl) ?_
  refine lv_aload_n C0.1 C0.2.1 dX7_takeOne_30 rfl (lv_at hl 1 rfl) ?_
  refine E_g_pool C0 hE fk_X7_10 dX7_takeOne_31 ?_
  refine lv_aload_n C0.1 C0.2.1 dX7_takeOne_34 rfl (lv_at hl 1 rfl) ?_
  refine E_g_trees C0 hE fk_X7_49 dX7_takeOne_35 ?_
  refine lv_iload_n C0.1 C0.2.1 dX7_takeOne_38 rfl (lv_at hl 2 rfl) ?_
  obtain ⟨v7, e_v7, i_v7, h⟩ := rd_s hR h
  refine E_trees_l C0 hE i_p1 e_v7 dX7_takeOne_39 ?_
  refine lv_aload_n C0.1 C0.2.1 dX7_takeOne_40 rfl (lv_at hl 1 rfl) ?_
  refine E_g_sizes C0 hE fk_X7_53 dX7_takeOne_41 ?_
  refine lv_iload_n C0.1 C0.2.1 dX7_takeOne_44 rfl (lv_at hl 2 rfl) ?_
  obtain ⟨v8, e_v8, i_v8, h⟩ := rd_s hR h
  refine E_sizes_l C0 hE i_p1 e_v8 dX7_takeOne_45 ?_
  refine lv_iload C0.1 C0.2.1 dX7_takeOne_46 (lv_at hl 5 rfl) ?_
  obtain ⟨v9, s10, h_v9, h⟩ := bnd_s h
  refine callV_i (rest := [.int (I p3), .ref (g.2 0)]) C0 hml hE (Pool_rec C0 hE) (c_Pool_take l D g hR i_v7 i_v8 i_p4 h_v9) kw_X7_219 ⟨Nat.le_of_ble_eq_true rfl, Nat.le_of_ble_eq_true rfl⟩ rfl hl.1 rfl (Nat.le_of_ble_eq_true rfl) dX7_takeOne_48 ⟨Nat.zero_le _, Nat.zero_le _⟩ (fun H locs hE ⟨i_v9, hR⟩ => ?_)
  refine lv_aload_n C0.1 C0.2.1 dX7_takeOne_51 rfl (lv_at hl 1 rfl) ?_
  refine E_g_sizes C0 hE fk_X7_53 dX7_takeOne_52 ?_
  refine lv_iload_n C0.1 C0.2.1 dX7_takeOne_55 rfl (lv_at hl 2 rfl) ?_
  obtain ⟨v11, e_v11, i_v11, h⟩ := rd_s hR h
  refine E_sizes_l C0 hE i_p1 e_v11 dX7_takeOne_56 ?_
  refine lv_iconst (v := I 1) C0.1 C0.2.1 dX7_takeOne_57 rfl ?_
  obtain ⟨v12, e_v12, i_v12, h⟩ := osub_s h
  refine x_sub C0 e_v12 dX7_takeOne_58 ?_
  obtain ⟨v13, s14, h_v13, h⟩ := bnd_s h
  refine callV_i (rest := []) C0 hml hE (E_rec C0 hE) (c_E_keep l D g hR i_p3 i_v9 i_v12 h_v13) kw_X7_126 ⟨Nat.le_of_ble_eq_true rfl, Nat.le_of_ble_eq_true rfl⟩ rfl hl.1 rfl (Nat.le_of_ble_eq_true rfl) dX7_takeOne_59 ⟨Nat.zero_le _, Nat.zero_le _⟩ (fun H locs hE ⟨i_v13, hR⟩ => ?_)
  refine lv_pop C0.1 C0.2.1 dX7_takeOne_62 rfl ?_
  refine lv_aload_n C0.1 C0.2.1 dX7_takeOne_63 rfl (lv_at hl 1 rfl) ?_
  refine E_g_pool C0 hE fk_X7_10 dX7_takeOne_64 ?_
  obtain ⟨v15, e_v15, i_v15, h⟩ := gf_s hR h
  refine Pool_n_made C0 hE e_v15 nk_X7_130 dX7_takeOne_67 ?_
  refine lv_iload C0.1 C0.2.1 dX7_takeOne_70 (lv_at hl 0 rfl) ?_
  obtain ⟨v16, e_v16, i_v16, h⟩ := osub_s h
  refine x_sub C0 e_v16 dX7_takeOne_72 ?_
  exact ret_i (wf := wE g) C0 hr hlk hE h i_v16 hR dX7_takeOne_73
set_option maxRecDepth 100000 in
set_option maxHeartbeats 4000000 in
theorem c_E_first (l : Launch) (D : va_G) (g : Ad) {σ σr : St} {p1 p2 r : Int} (hR : R32 σ) (i_p1 : in32 p1) (i_p2 : in32 p2) (h : E_first σ p1 p2 = some (r, σr)) : CtI l D g yX7_first cX7_first 3 (some .int) 18 (wE g σ) (wE g σr) [.ref (g.2 0), .int (I p1), .int (I p2)] r (in32 r ∧ R32 σr) := by
  intro sz
  refine met_of (by decide) (Nat.le_of_ble_eq_true rfl) (fun p e s m args below meth c ls H locs C0 hml hr hlk hE hl => ?_)
  have C0 : CX p c cX7_first m s args D g RX7 := C0
  have hl : lv_has ls 3 [(0, .ref (g.2 0)), (1, .int (I p1)), (2, .int (I p2))] := hl
  unfold E_first at h
  refine lv_iload_n C0.1 C0.2.1 dX7_first_0 rfl (lv_at hl 1 rfl) ?_
  obtain ⟨v1, h_v1, h⟩ := bndp_s h
  refine callS_i (rest := []) C0 hml hE (c_E_isPlace l D g (σ := σ) i_p1 h_v1) kw_X7_86 ⟨Nat.le_of_ble_eq_true rfl, Nat.le_of_ble_eq_true rfl⟩ rfl hl.1 rfl (Nat.le_of_ble_eq_true rfl) dX7_first_1 ⟨Nat.zero_le _, Nat.zero_le _⟩ (fun H locs hE i_v1 => ?_)
  refine x_if_eq C0 i_v1 dX7_first_4 (tgt := 14) (by decide) (fun c9 => ?_) (fun c9 => ?_)
  · have h := ite_t c9 h
    refine lv_iconst (v := I (-1)) C0.1 C0.2.1 dX7_first_14 rfl ?_
    exact ret_i (wf := wE g) C0 hr hlk hE h lit_m1 hR dX7_first_15
  · have h := ite_f c9 h
    refine lv_iload_n C0.1 C0.2.1 dX7_first_7 rfl (lv_at hl 2 rfl) ?_
    obtain ⟨v2, h_v2, h⟩ := bndp_s h
    refine callS_i (rest := []) C0 hml hE (c_E_isPlace l D g (σ := σ) i_p2 h_v2) kw_X7_86 ⟨Nat.le_of_ble_eq_true rfl, Nat.le_of_ble_eq_true rfl⟩ rfl hl.1 rfl (Nat.le_of_ble_eq_true rfl) dX7_first_8 ⟨Nat.zero_le _, Nat.zero_le _⟩ (fun H locs hE i_v2 => ?_)
    refine x_if_ne C0 i_v2 dX7_first_11 (tgt := 16) (by decide) (fun c9 => ?_) (fun c9 => ?_)
    · have h := ite_f c9 h
      refine lv_aload_n C0.1 C0.2.1 dX7_first_16 rfl (lv_at hl 0 rfl) ?_
      refine E_g_sizes C0 hE fk_X7_53 dX7_first_17 ?_
      refine lv_iload_n C0.1 C0.2.1 dX7_first_20 rfl (lv_at hl 1 rfl) ?_
      obtain ⟨v3, e_v3, i_v3, h⟩ := rd_s hR h
      refine E_sizes_l C0 hE i_p1 e_v3 dX7_first_21 ?_
      refine x_if_ne C0 i_v3 dX7_first_22 (tgt := 30) (by decide) (fun c9 => ?_) (fun c9 => ?_)
      · have h := ite_f c9 h
        refine lv_aload_n C0.1 C0.2.1 dX7_first_30 rfl (lv_at hl 0 rfl) ?_
        refine lv_iload_n C0.1 C0.2.1 dX7_first_31 rfl (lv_at hl 1 rfl) ?_
        refine lv_iconst (v := I 0) C0.1 C0.2.1 dX7_first_32 rfl ?_
        refine lv_iload_n C0.1 C0.2.1 dX7_first_33 rfl (lv_at hl 2 rfl) ?_
        refine lv_iconst (v := I 2) C0.1 C0.2.1 dX7_first_34 rfl ?_
        obtain ⟨v4, s5, h_v4, h⟩ := bnd_s h
        refine callV_i (rest := []) C0 hml hE (E_rec C0 hE) (c_E_takeOne l D g hR i_p1 lit_0 i_p2 lit_2 h_v4) kw_X7_191 ⟨Nat.le_of_ble_eq_true rfl, Nat.le_of_ble_eq_true rfl⟩ rfl hl.1 rfl (Nat.le_of_ble_eq_true rfl) dX7_first_35 ⟨Nat.zero_le _, Nat.zero_le _⟩ (fun H locs hE ⟨i_v4, hR⟩ => ?_)
        exact ret_i (wf := wE g) C0 hr hlk hE h i_v4 hR dX7_first_38
      · have h := ite_t c9 h
        refine lv_bipush (v := I (-2)) C0.1 C0.2.1 dX7_first_25 (by decide +kernel) ?_
        refine x_goto C0 dX7_first_27 (tgt := 38) (by decide) ?_
        exact ret_i (wf := wE g) C0 hr hlk hE h lit_m2 hR dX7_first_38
    · have h := ite_t c9 h
      refine lv_iconst (v := I (-1)) C0.1 C0.2.1 dX7_first_14 rfl ?_
      exact ret_i (wf := wE g) C0 hr hlk hE h lit_m1 hR dX7_first_15
set_option maxRecDepth 100000 in
set_option maxHeartbeats 4000000 in
theorem c_E_last (l : Launch) (D : va_G) (g : Ad) {σ σr : St} {p1 p2 r : Int} (hR : R32 σ) (i_p1 : in32 p1) (i_p2 : in32 p2) (h : E_last σ p1 p2 = some (r, σr)) : CtI l D g yX7_last cX7_last 3 (some .int) 18 (wE g σ) (wE g σr) [.ref (g.2 0), .int (I p1), .int (I p2)] r (in32 r ∧ R32 σr) := by
  intro sz
  refine met_of (by decide) (Nat.le_of_ble_eq_true rfl) (fun p e s m args below meth c ls H locs C0 hml hr hlk hE hl => ?_)
  have C0 : CX p c cX7_last m s args D g RX7 := C0
  have hl : lv_has ls 3 [(0, .ref (g.2 0)), (1, .int (I p1)), (2, .int (I p2))] := hl
  unfold E_last at h
  refine lv_iload_n C0.1 C0.2.1 dX7_last_0 rfl (lv_at hl 1 rfl) ?_
  obtain ⟨v1, h_v1, h⟩ := bndp_s h
  refine callS_i (rest := []) C0 hml hE (c_E_isPlace l D g (σ := σ) i_p1 h_v1) kw_X7_86 ⟨Nat.le_of_ble_eq_true rfl, Nat.le_of_ble_eq_true rfl⟩ rfl hl.1 rfl (Nat.le_of_ble_eq_true rfl) dX7_last_1 ⟨Nat.zero_le _, Nat.zero_le _⟩ (fun H locs hE i_v1 => ?_)
  refine x_if_eq C0 i_v1 dX7_last_4 (tgt := 14) (by decide) (fun c9 => ?_) (fun c9 => ?_)
  · have h := ite_t c9 h
    refine lv_iconst (v := I (-1)) C0.1 C0.2.1 dX7_last_14 rfl ?_
    exact ret_i (wf := wE g) C0 hr hlk hE h lit_m1 hR dX7_last_15
  · have h := ite_f c9 h
    refine lv_iload_n C0.1 C0.2.1 dX7_last_7 rfl (lv_at hl 2 rfl) ?_
    obtain ⟨v2, h_v2, h⟩ := bndp_s h
    refine callS_i (rest := []) C0 hml hE (c_E_isPlace l D g (σ := σ) i_p2 h_v2) kw_X7_86 ⟨Nat.le_of_ble_eq_true rfl, Nat.le_of_ble_eq_true rfl⟩ rfl hl.1 rfl (Nat.le_of_ble_eq_true rfl) dX7_last_8 ⟨Nat.zero_le _, Nat.zero_le _⟩ (fun H locs hE i_v2 => ?_)
    refine x_if_ne C0 i_v2 dX7_last_11 (tgt := 16) (by decide) (fun c9 => ?_) (fun c9 => ?_)
    · have h := ite_f c9 h
      refine lv_aload_n C0.1 C0.2.1 dX7_last_16 rfl (lv_at hl 0 rfl) ?_
      refine E_g_sizes C0 hE fk_X7_53 dX7_last_17 ?_
      refine lv_iload_n C0.1 C0.2.1 dX7_last_20 rfl (lv_at hl 1 rfl) ?_
      obtain ⟨v3, e_v3, i_v3, h⟩ := rd_s hR h
      refine E_sizes_l C0 hE i_p1 e_v3 dX7_last_21 ?_
      refine x_if_ne C0 i_v3 dX7_last_22 (tgt := 30) (by decide) (fun c9 => ?_) (fun c9 => ?_)
      · have h := ite_f c9 h
        refine lv_aload_n C0.1 C0.2.1 dX7_last_30 rfl (lv_at hl 0 rfl) ?_
        refine lv_iload_n C0.1 C0.2.1 dX7_last_31 rfl (lv_at hl 1 rfl) ?_
        refine lv_aload_n C0.1 C0.2.1 dX7_last_32 rfl (lv_at hl 0 rfl) ?_
        refine E_g_sizes C0 hE fk_X7_53 dX7_last_33 ?_
        refine lv_iload_n C0.1 C0.2.1 dX7_last_36 rfl (lv_at hl 1 rfl) ?_
        obtain ⟨v4, e_v4, i_v4, h⟩ := rd_s hR h
        refine E_sizes_l C0 hE i_p1 e_v4 dX7_last_37 ?_
        refine lv_iconst (v := I 1) C0.1 C0.2.1 dX7_last_38 rfl ?_
        obtain ⟨v5, e_v5, i_v5, h⟩ := osub_s h
        refine x_sub C0 e_v5 dX7_last_39 ?_
        refine lv_iload_n C0.1 C0.2.1 dX7_last_40 rfl (lv_at hl 2 rfl) ?_
        refine lv_iconst (v := I 3) C0.1 C0.2.1 dX7_last_41 rfl ?_
        obtain ⟨v6, s7, h_v6, h⟩ := bnd_s h
        refine callV_i (rest := []) C0 hml hE (E_rec C0 hE) (c_E_takeOne l D g hR i_p1 i_v5 i_p2 lit_3 h_v6) kw_X7_191 ⟨Nat.le_of_ble_eq_true rfl, Nat.le_of_ble_eq_true rfl⟩ rfl hl.1 rfl (Nat.le_of_ble_eq_true rfl) dX7_last_42 ⟨Nat.zero_le _, Nat.zero_le _⟩ (fun H locs hE ⟨i_v6, hR⟩ => ?_)
        exact ret_i (wf := wE g) C0 hr hlk hE h i_v6 hR dX7_last_45
      · have h := ite_t c9 h
        refine lv_bipush (v := I (-2)) C0.1 C0.2.1 dX7_last_25 (by decide +kernel) ?_
        refine x_goto C0 dX7_last_27 (tgt := 45) (by decide) ?_
        exact ret_i (wf := wE g) C0 hr hlk hE h lit_m2 hR dX7_last_45
    · have h := ite_t c9 h
      refine lv_iconst (v := I (-1)) C0.1 C0.2.1 dX7_last_14 rfl ?_
      exact ret_i (wf := wE g) C0 hr hlk hE h lit_m1 hR dX7_last_15
set_option maxRecDepth 100000 in
set_option maxHeartbeats 4000000 in
theorem c_E_held (l : Launch) (D : va_G) (g : Ad) {σ : St} {p1 r : Int} (i_p1 : in32 p1) (h : E_held p1 = some r) : CtI l D g yX7_held cX7_held 1 (some .int) 1 (wE g σ) (wE g σ) [.int (I p1)] r (in32 r) := by
  intro sz
  refine met_of (by decide) (Nat.le_of_ble_eq_true rfl) (fun p e s m args below meth c ls H locs C0 hml hr hlk hE hl => ?_)
  have C0 : CX p c cX7_held m s args D g RX7 := C0
  have hl : lv_has ls 1 [(0, .int (I p1))] := hl
  unfold E_held at h
  refine lv_sipush (v := I (-999)) C0.1 C0.2.1 dX7_held_0 (by decide +kernel) ?_
  refine lv_sipush (v := I 999) C0.1 C0.2.1 dX7_held_3 (by decide +kernel) ?_
  refine lv_iload_n C0.1 C0.2.1 dX7_held_6 rfl (lv_at hl 0 rfl) ?_
  obtain ⟨v1, e_v1, i_v1, h⟩ := opure_s h (imin_in lit_999 i_p1)
  refine x_min C0 kw_X7_228 (hml.trans hl.1.symm) lit_999 i_p1 e_v1 ⟨Nat.le_of_ble_eq_true rfl, Nat.le_of_ble_eq_true rfl⟩ ⟨Nat.zero_le _, Nat.zero_le _⟩ dX7_held_7 ?_
  obtain ⟨v2, e_v2, i_v2, h⟩ := opure_s h (imax_in lit_m999 i_v1)
  refine x_max C0 kw_X7_286 (hml.trans hl.1.symm) lit_m999 i_v1 e_v2 ⟨Nat.le_of_ble_eq_true rfl, Nat.le_of_ble_eq_true rfl⟩ ⟨Nat.zero_le _, Nat.zero_le _⟩ dX7_held_10 ?_
  exact pret_i C0 hr hlk hE h i_v2 dX7_held_13
set_option maxRecDepth 100000 in
set_option maxHeartbeats 4000000 in
theorem c_E_isRange (l : Launch) (D : va_G) (g : Ad) {σ : St} {p1 p2 p3 r : Int} (hR : R32 σ) (i_p1 : in32 p1) (i_p2 : in32 p2) (i_p3 : in32 p3) (h : E_isRange σ p1 p2 p3 = some r) : CtI l D g yX7_isRange cX7_isRange 4 (some .boolean) 2 (wE g σ) (wE g σ) [.ref (g.2 0), .int (I p1), .int (I p2), .int (I p3)] r (in32 r) := by
  intro sz
  refine met_of (by decide) (Nat.le_of_ble_eq_true rfl) (fun p e s m args below meth c ls H locs C0 hml hr hlk hE hl => ?_)
  have C0 : CX p c cX7_isRange m s args D g RX7 := C0
  have hl : lv_has ls 4 [(0, .ref (g.2 0)), (1, .int (I p1)), (2, .int (I p2)), (3, .int (I p3))] := hl
  unfold E_isRange at h
  refine lv_iload_n C0.1 C0.2.1 dX7_isRange_0 rfl (lv_at hl 1 rfl) ?_
  obtain ⟨v1, h_v1, h⟩ := bndp_s h
  refine callS_i (rest := []) C0 hml hE (c_E_isPlace l D g (σ := σ) i_p1 h_v1) kw_X7_86 ⟨Nat.le_of_ble_eq_true rfl, Nat.le_of_ble_eq_true rfl⟩ rfl hl.1 rfl (Nat.le_of_ble_eq_true rfl) dX7_isRange_1 ⟨Nat.zero_le _, Nat.zero_le _⟩ (fun H locs hE i_v1 => ?_)
  refine x_if_eq C0 i_v1 dX7_isRange_4 (tgt := 30) (by decide) (fun c9 => ?_) (fun c9 => ?_)
  · have h := ite_t c9 h
    refine lv_iconst (v := I 0) C0.1 C0.2.1 dX7_isRange_30 rfl ?_
    exact pret_z C0 hr hlk hE (Or.inl rfl) h dX7_isRange_31
  · have h := ite_f c9 h
    refine lv_iload_n C0.1 C0.2.1 dX7_isRange_7 rfl (lv_at hl 2 rfl) ?_
    refine x_if_lt C0 i_p2 dX7_isRange_8 (tgt := 30) (by decide) (fun c9 => ?_) (fun c9 => ?_)
    · have h := ite_t c9 h
      refine lv_iconst (v := I 0) C0.1 C0.2.1 dX7_isRange_30 rfl ?_
      exact pret_z C0 hr hlk hE (Or.inl rfl) h dX7_isRange_31
    · have h := ite_f c9 h
      refine lv_iload_n C0.1 C0.2.1 dX7_isRange_11 rfl (lv_at hl 3 rfl) ?_
      refine lv_iload_n C0.1 C0.2.1 dX7_isRange_12 rfl (lv_at hl 2 rfl) ?_
      refine x_icmp_lt C0 i_p3 i_p2 dX7_isRange_13 (tgt := 30) (by decide) (fun c9 => ?_) (fun c9 => ?_)
      · have h := ite_t c9 h
        refine lv_iconst (v := I 0) C0.1 C0.2.1 dX7_isRange_30 rfl ?_
        exact pret_z C0 hr hlk hE (Or.inl rfl) h dX7_isRange_31
      · have h := ite_f c9 h
        refine lv_iload_n C0.1 C0.2.1 dX7_isRange_16 rfl (lv_at hl 3 rfl) ?_
        refine lv_aload_n C0.1 C0.2.1 dX7_isRange_17 rfl (lv_at hl 0 rfl) ?_
        refine E_g_sizes C0 hE fk_X7_53 dX7_isRange_18 ?_
        refine lv_iload_n C0.1 C0.2.1 dX7_isRange_21 rfl (lv_at hl 1 rfl) ?_
        obtain ⟨v2, e_v2, i_v2, h⟩ := rd_s hR h
        refine E_sizes_l C0 hE i_p1 e_v2 dX7_isRange_22 ?_
        refine x_icmp_gt C0 i_p3 i_v2 dX7_isRange_23 (tgt := 30) (by decide) (fun c9 => ?_) (fun c9 => ?_)
        · have h := ite_t c9 h
          refine lv_iconst (v := I 0) C0.1 C0.2.1 dX7_isRange_30 rfl ?_
          exact pret_z C0 hr hlk hE (Or.inl rfl) h dX7_isRange_31
        · have h := ite_f c9 h
          refine lv_iconst (v := I 1) C0.1 C0.2.1 dX7_isRange_26 rfl ?_
          refine x_goto C0 dX7_isRange_27 (tgt := 31) (by decide) ?_
          exact pret_z C0 hr hlk hE (Or.inr rfl) h dX7_isRange_31
set_option maxRecDepth 100000 in
set_option maxHeartbeats 4000000 in
theorem c_E_adds (l : Launch) (D : va_G) (g : Ad) {σ σr : St} {p1 p2 p3 p4 p5 r : Int} (hR : R32 σ) (i_p1 : in32 p1) (i_p2 : in32 p2) (i_p3 : in32 p3) (i_p4 : in32 p4) (i_p5 : in32 p5) (h : E_adds σ p1 p2 p3 p4 p5 = some (r, σr)) : CtI l D g yX7_adds cX7_adds 7 (some .int) 7 (wE g σ) (wE g σr) [.ref (g.2 0), .int (I p1), .int (I p2), .int (I p3), .int (I p4), .int (I p5)] r (in32 r ∧ R32 σr) := by
  intro sz
  refine met_of (by decide) (Nat.le_of_ble_eq_true rfl) (fun p e s m args below meth c ls H locs C0 hml hr hlk hE hl => ?_)
  have C0 : CX p c cX7_adds m s args D g RX7 := C0
  have hl : lv_has ls 7 [(0, .ref (g.2 0)), (1, .int (I p1)), (2, .int (I p2)), (3, .int (I p3)), (4, .int (I p4)), (5, .int (I p5))] := hl
  unfold E_adds at h
  refine lv_aload_n C0.1 C0.2.1 dX7_adds_0 rfl (lv_at hl 0 rfl) ?_
  refine lv_iload_n C0.1 C0.2.1 dX7_adds_1 rfl (lv_at hl 1 rfl) ?_
  refine lv_iload_n C0.1 C0.2.1 dX7_adds_2 rfl (lv_at hl 2 rfl) ?_
  refine lv_iload_n C0.1 C0.2.1 dX7_adds_3 rfl (lv_at hl 3 rfl) ?_
  obtain ⟨v1, h_v1, h⟩ := bndp_s h
  refine callV_i (rest := []) C0 hml hE (E_rec C0 hE) (c_E_isRange l D g hR i_p1 i_p2 i_p3 h_v1) kw_X7_194 ⟨Nat.le_of_ble_eq_true rfl, Nat.le_of_ble_eq_true rfl⟩ rfl hl.1 rfl (Nat.le_of_ble_eq_true rfl) dX7_adds_4 ⟨Nat.zero_le _, Nat.zero_le _⟩ (fun H locs hE i_v1 => ?_)
  refine x_if_eq C0 i_v1 dX7_adds_7 (tgt := 34) (by decide) (fun c9 => ?_) (fun c9 => ?_)
  · have h := ite_t c9 h
    refine lv_iconst (v := I (-1)) C0.1 C0.2.1 dX7_adds_34 rfl ?_
    exact ret_i (wf := wE g) C0 hr hlk hE h lit_m1 hR dX7_adds_35
  · have h := ite_f c9 h
    refine lv_iload C0.1 C0.2.1 dX7_adds_10 (lv_at hl 4 rfl) ?_
    refine lv_sipush (v := I (-999)) C0.1 C0.2.1 dX7_adds_12 (by decide +kernel) ?_
    refine x_icmp_lt C0 i_p4 lit_m999 dX7_adds_15 (tgt := 34) (by decide) (fun c9 => ?_) (fun c9 => ?_)
    · have h := ite_t c9 h
      refine lv_iconst (v := I (-1)) C0.1 C0.2.1 dX7_adds_34 rfl ?_
      exact ret_i (wf := wE g) C0 hr hlk hE h lit_m1 hR dX7_adds_35
    · have h := ite_f c9 h
      refine lv_iload C0.1 C0.2.1 dX7_adds_18 (lv_at hl 4 rfl) ?_
      refine lv_sipush (v := I 999) C0.1 C0.2.1 dX7_adds_20 (by decide +kernel) ?_
      refine x_icmp_gt C0 i_p4 lit_999 dX7_adds_23 (tgt := 34) (by decide) (fun c9 => ?_) (fun c9 => ?_)
      · have h := ite_t c9 h
        refine lv_iconst (v := I (-1)) C0.1 C0.2.1 dX7_adds_34 rfl ?_
        exact ret_i (wf := wE g) C0 hr hlk hE h lit_m1 hR dX7_adds_35
      · have h := ite_f c9 h
        refine lv_iload C0.1 C0.2.1 dX7_adds_26 (lv_at hl 5 rfl) ?_
        obtain ⟨v2, h_v2, h⟩ := bndp_s h
        refine callS_i (rest := []) C0 hml hE (c_E_isPlace l D g (σ := σ) i_p5 h_v2) kw_X7_86 ⟨Nat.le_of_ble_eq_true rfl, Nat.le_of_ble_eq_true rfl⟩ rfl hl.1 rfl (Nat.le_of_ble_eq_true rfl) dX7_adds_28 ⟨Nat.zero_le _, Nat.zero_le _⟩ (fun H locs hE i_v2 => ?_)
        refine x_if_ne C0 i_v2 dX7_adds_31 (tgt := 36) (by decide) (fun c9 => ?_) (fun c9 => ?_)
        · have h := ite_f c9 h
          refine lv_aload_n C0.1 C0.2.1 dX7_adds_36 rfl (lv_at hl 0 rfl) ?_
          refine E_g_marked C0 hE fk_X7_45 dX7_adds_37 ?_
          obtain ⟨v3, s4, h_v3, h⟩ := bnd_s h
          refine callV_v (rest := []) C0 hml hE (Ways_rec C0 hE) (c_Ways_clear l D g hR h_v3) kw_X7_198 ⟨Nat.le_of_ble_eq_true rfl, Nat.le_of_ble_eq_true rfl⟩ rfl hl.1 rfl (Nat.le_of_ble_eq_true rfl) dX7_adds_40 ⟨Nat.zero_le _, Nat.zero_le _⟩ (fun H locs hE hR => ?_)
          refine lv_aload_n C0.1 C0.2.1 dX7_adds_43 rfl (lv_at hl 0 rfl) ?_
          refine E_g_pool C0 hE fk_X7_10 dX7_adds_44 ?_
          refine lv_aload_n C0.1 C0.2.1 dX7_adds_47 rfl (lv_at hl 0 rfl) ?_
          refine E_g_trees C0 hE fk_X7_49 dX7_adds_48 ?_
          refine lv_iload_n C0.1 C0.2.1 dX7_adds_51 rfl (lv_at hl 1 rfl) ?_
          obtain ⟨v5, e_v5, i_v5, h⟩ := rd_s hR h
          refine E_trees_l C0 hE i_p1 e_v5 dX7_adds_52 ?_
          refine lv_aload_n C0.1 C0.2.1 dX7_adds_53 rfl (lv_at hl 0 rfl) ?_
          refine E_g_sizes C0 hE fk_X7_53 dX7_adds_54 ?_
          refine lv_iload_n C0.1 C0.2.1 dX7_adds_57 rfl (lv_at hl 1 rfl) ?_
          obtain ⟨v6, e_v6, i_v6, h⟩ := rd_s hR h
          refine E_sizes_l C0 hE i_p1 e_v6 dX7_adds_58 ?_
          refine lv_aload_n C0.1 C0.2.1 dX7_adds_59 rfl (lv_at hl 0 rfl) ?_
          refine E_g_one C0 hE fk_X7_56 dX7_adds_60 ?_
          obtain ⟨v7, s8, h_v7, h⟩ := bnd_s h
          refine callV_v (rest := []) C0 hml hE (Pool_rec C0 hE) (c_Pool_read_one l D g hR i_v5 i_v6 h_v7) kw_X7_201 ⟨Nat.le_of_ble_eq_true rfl, Nat.le_of_ble_eq_true rfl⟩ rfl hl.1 rfl (Nat.le_of_ble_eq_true rfl) dX7_adds_63 ⟨Nat.zero_le _, Nat.zero_le _⟩ (fun H locs hE hR => ?_)
          refine lv_iload_n C0.1 C0.2.1 dX7_adds_66 rfl (lv_at hl 2 rfl) ?_
          refine lv_istore (lv' := [(6, .int (I p2)), (0, .ref (g.2 0)), (1, .int (I p1)), (2, .int (I p2)), (3, .int (I p3)), (4, .int (I p4)), (5, .int (I p5))]) C0.1 C0.2.1 dX7_adds_67 hl (by decide) rfl (fun ls hl => ?_)
          obtain ⟨k10, e_k10, h⟩ := jn_s h
          have h_k10 : ∀ (s9 : St) (hR : R32 s9) (H : Heap) (locs : List Loc) (ls : Array Slot), EW D (va_A (wE g σ) sz) s.heap (wE g s9) H locs → lv_has ls 7 [(0, .ref (g.2 0)), (1, .int (I p1)), (5, .int (I p5))] → k10 s9 = some (r, σr) → W p l e (rmk 7) s m args below meth c H locs 0 0 (MQ below (QCi D (wE g σr) r (in32 r ∧ R32 σr) (va_A (wE g σ) sz)) args s 0 0 (va_A (wE g σ) sz)) (F0 m 115 ls []) := by
            intro s9 hR H locs ls hE hl h
            have h := (congrFun e_k10 s9).symm.trans h
            refine lv_aload_n C0.1 C0.2.1 dX7_adds_115 rfl (lv_at hl 0 rfl) ?_
            refine lv_iload_n C0.1 C0.2.1 dX7_adds_116 rfl (lv_at hl 1 rfl) ?_
            refine lv_iload C0.1 C0.2.1 dX7_adds_117 (lv_at hl 2 rfl) ?_
            obtain ⟨v11, s12, h_v11, h⟩ := bnd_s h
            refine callV_i (rest := []) C0 hml hE (E_rec C0 hE) (c_E_renew l D g hR i_p1 i_p5 h_v11) kw_X7_184 ⟨Nat.le_of_ble_eq_true rfl, Nat.le_of_ble_eq_true rfl⟩ rfl hl.1 rfl (Nat.le_of_ble_eq_true rfl) dX7_adds_119 ⟨Nat.zero_le _, Nat.zero_le _⟩ (fun H locs hE ⟨i_v11, hR⟩ => ?_)
            exact ret_i (wf := wE g) C0 hr hlk hE h i_v11 hR dX7_adds_122
          have hL69 : ∀ (n : Nat) (s15 : St) (hR : R32 s15) (x13 : Int) (i_x13 : in32 x13) (H : Heap) (locs : List Loc) (ls : Array Slot), EW D (va_A (wE g σ) sz) s.heap (wE g s15) H locs → lv_has ls 7 [(0, .ref (g.2 0)), (1, .int (I p1)), (3, .int (I p3)), (4, .int (I p4)), (5, .int (I p5)), (6, .int (I x13))] → E_adds_L69 k10 p3 p4 n s15 x13 = some (r, σr) → W p l e (rmk 7) s m args below meth c H locs 0 0 (MQ below (QCi D (wE g σr) r (in32 r ∧ R32 σr) (va_A (wE g σ) sz)) args s 0 0 (va_A (wE g σ) sz)) (F0 m 69 ls []) := by
            intro n
            induction n with
            | zero => intros; rename_i h; cases h
            | succ n ih14 =>
              intro s15 hR x13 i_x13 H locs ls hE hl h
              unfold E_adds_L69 at h
              refine lv_iload C0.1 C0.2.1 dX7_adds_69 (lv_at hl 5 rfl) ?_
              refine lv_iload_n C0.1 C0.2.1 dX7_adds_71 rfl (lv_at hl 2 rfl) ?_
              refine x_icmp_ge C0 i_x13 i_p3 dX7_adds_72 (tgt := 115) (by decide) (fun c9 => ?_) (fun c9 => ?_)
              · have h := ite_f c9 h
                exact h_k10 s15 hR _ _ _ hE (lv_sub hl [0, 1, 4] rfl) h
              · have h := ite_t c9 h
                refine lv_iload C0.1 C0.2.1 dX7_adds_75 (lv_at hl 3 rfl) ?_
                refine x_if_eq C0 i_p4 dX7_adds_77 (tgt := 115) (by decide) (fun c9 => ?_) (fun c9 => ?_)
                · have h := ite_t c9 h
                  exact h_k10 s15 hR _ _ _ hE (lv_sub hl [0, 1, 4] rfl) h
                · have h := ite_f c9 h
                  refine lv_aload_n C0.1 C0.2.1 dX7_adds_80 rfl (lv_at hl 0 rfl) ?_
                  refine E_g_one C0 hE fk_X7_56 dX7_adds_81 ?_
                  refine lv_iload C0.1 C0.2.1 dX7_adds_84 (lv_at hl 5 rfl) ?_
                  refine lv_aload_n C0.1 C0.2.1 dX7_adds_86 rfl (lv_at hl 0 rfl) ?_
                  refine E_g_one C0 hE fk_X7_56 dX7_adds_87 ?_
                  refine lv_iload C0.1 C0.2.1 dX7_adds_90 (lv_at hl 5 rfl) ?_
                  obtain ⟨v16, e_v16, i_v16, h⟩ := rd_s hR h
                  refine E_one_l C0 hE i_x13 e_v16 dX7_adds_92 ?_
                  refine lv_iload C0.1 C0.2.1 dX7_adds_93 (lv_at hl 3 rfl) ?_
                  obtain ⟨v17, e_v17, i_v17, h⟩ := oadd_s h
                  refine x_add C0 e_v17 dX7_adds_95 ?_
                  obtain ⟨v18, h_v18, h⟩ := bndp_s h
                  refine callS_i (rest := [.int (I x13), .ref (g.2 26)]) C0 hml hE (c_E_held l D g (σ := s15) i_v17 h_v18) kw_X7_205 ⟨Nat.le_of_ble_eq_true rfl, Nat.le_of_ble_eq_true rfl⟩ rfl hl.1 rfl (Nat.le_of_ble_eq_true rfl) dX7_adds_96 ⟨Nat.zero_le _, Nat.zero_le _⟩ (fun H locs hE i_v18 => ?_)
                  obtain ⟨s19, e_s19, hR, h⟩ := wr_s hR i_v18 h
                  refine E_one_st C0 hE i_x13 e_s19 dX7_adds_99 (fun H locs hE => ?_)
                  refine lv_aload_n C0.1 C0.2.1 dX7_adds_100 rfl (lv_at hl 0 rfl) ?_
                  refine E_g_marked C0 hE fk_X7_45 dX7_adds_101 ?_
                  refine lv_iload C0.1 C0.2.1 dX7_adds_104 (lv_at hl 5 rfl) ?_
                  obtain ⟨v20, s21, h_v20, h⟩ := bnd_s h
                  refine callV_v (rest := []) C0 hml hE (Ways_rec C0 hE) (c_Ways_mark l D g hR i_x13 h_v20) kw_X7_208 ⟨Nat.le_of_ble_eq_true rfl, Nat.le_of_ble_eq_true rfl⟩ rfl hl.1 rfl (Nat.le_of_ble_eq_true rfl) dX7_adds_106 ⟨Nat.zero_le _, Nat.zero_le _⟩ (fun H locs hE hR => ?_)
                  obtain ⟨v22, e_v22, i_v22, h⟩ := oadd_s h
                  refine x_iinc (lv' := [(6, .int (I v22)), (0, .ref (g.2 0)), (1, .int (I p1)), (3, .int (I p3)), (4, .int (I p4)), (5, .int (I p5))]) C0 dX7_adds_109 hl (k := 5) rfl e_v22 (by decide) rfl (fun ls hl => ?_)
                  refine x_goto C0 dX7_adds_112 (tgt := 69) (by decide) ?_
                  exact ih14 s21 hR v22 i_v22 _ _ _ hE (lv_sub hl [1, 2, 3, 4, 5, 0] rfl) h
          exact hL69 FU s8 hR p2 i_p2 _ _ _ hE (lv_sub hl [1, 2, 4, 5, 6, 0] rfl) h
        · have h := ite_t c9 h
          refine lv_iconst (v := I (-1)) C0.1 C0.2.1 dX7_adds_34 rfl ?_
          exact ret_i (wf := wE g) C0 hr hlk hE h lit_m1 hR dX7_adds_35
set_option maxRecDepth 100000 in
set_option maxHeartbeats 4000000 in
theorem c_Pool_putAll_other (l : Launch) (D : va_G) (g : Ad) {σ σr : St} {p1 p2 p4 p5 r : Int} (hR : R32 σ) (i_p1 : in32 p1) (i_p2 : in32 p2) (i_p4 : in32 p4) (i_p5 : in32 p5) (h : Pool_putAll_other σ p1 p2 p4 p5 = some (r, σr)) : CtI l D g yX0_putAll cX0_putAll 8 (some .int) 17 (wE g σ) (wE g σr) [.ref (g.2 1), .int (I p1), .int (I p2), .ref (g.2 27), .int (I p4), .int (I p5)] r (in32 r ∧ R32 σr) := by
  intro sz
  refine met_of (by decide) (Nat.le_of_ble_eq_true rfl) (fun p e s m args below meth c ls H locs C0 hml hr hlk hE hl => ?_)
  have C0 : CX p c cX0_putAll m s args D g RX0 := C0
  have hl : lv_has ls 8 [(0, .ref (g.2 1)), (1, .int (I p1)), (2, .int (I p2)), (3, .ref (g.2 27)), (4, .int (I p4)), (5, .int (I p5))] := hl
  unfold Pool_putAll_other at h
  refine lv_iload_n C0.1 C0.2.1 dX0_putAll_0 rfl (lv_at hl 1 rfl) ?_
  refine lv_istore (lv' := [(6, .int (I p1)), (0, .ref (g.2 1)), (1, .int (I p1)), (2, .int (I p2)), (3, .ref (g.2 27)), (4, .int (I p4)), (5, .int (I p5))]) C0.1 C0.2.1 dX0_putAll_1 hl (by decide) rfl (fun ls hl => ?_)
  refine lv_iconst (v := I 0) C0.1 C0.2.1 dX0_putAll_3 rfl ?_
  refine lv_istore (lv' := [(7, .int (I 0)), (6, .int (I p1)), (0, .ref (g.2 1)), (1, .int (I p1)), (2, .int (I p2)), (3, .ref (g.2 27)), (4, .int (I p4)), (5, .int (I p5))]) C0.1 C0.2.1 dX0_putAll_4 hl (by decide) rfl (fun ls hl => ?_)
  have hL6 : ∀ (n : Nat) (s4 : St) (hR : R32 s4) (x1 : Int) (i_x1 : in32 x1) (x2 : Int) (i_x2 : in32 x2) (H : Heap) (locs : List Loc) (ls : Array Slot), EW D (va_A (wE g σ) sz) s.heap (wE g s4) H locs → lv_has ls 8 [(0, .ref (g.2 1)), (2, .int (I p2)), (3, .ref (g.2 27)), (4, .int (I p4)), (5, .int (I p5)), (6, .int (I x1)), (7, .int (I x2))] → Pool_putAll_other_L6 p2 p4 p5 n s4 x1 x2 = some (r, σr) → W p l e (rmk 17) s m args below meth c H locs 0 0 (MQ below (QCi D (wE g σr) r (in32 r ∧ R32 σr) (va_A (wE g σ) sz)) args s 0 0 (va_A (wE g σ) sz)) (F0 m 6 ls []) := by
    intro n
    induction n with
    | zero => intros; rename_i h; cases h
    | succ n ih3 =>
      intro s4 hR x1 i_x1 x2 i_x2 H locs ls hE hl h
      unfold Pool_putAll_other_L6 at h
      refine lv_iload C0.1 C0.2.1 dX0_putAll_6 (lv_at hl 6 rfl) ?_
      refine lv_iload C0.1 C0.2.1 dX0_putAll_8 (lv_at hl 3 rfl) ?_
      refine x_icmp_ge C0 i_x2 i_p4 dX0_putAll_10 (tgt := 37) (by decide) (fun c9 => ?_) (fun c9 => ?_)
      · have h := ite_f c9 h
        refine lv_iload C0.1 C0.2.1 dX0_putAll_37 (lv_at hl 5 rfl) ?_
        exact ret_i (wf := wE g) C0 hr hlk hE h i_x1 hR dX0_putAll_39
      · have h := ite_t c9 h
        refine lv_aload_n C0.1 C0.2.1 dX0_putAll_13 rfl (lv_at hl 0 rfl) ?_
        refine lv_aload_n C0.1 C0.2.1 dX0_putAll_14 rfl (lv_at hl 2 rfl) ?_
        refine lv_iload C0.1 C0.2.1 dX0_putAll_15 (lv_at hl 6 rfl) ?_
        obtain ⟨v5, e_v5, i_v5, h⟩ := rd_s hR h
        refine E_other_l C0 hE i_x2 e_v5 dX0_putAll_17 ?_
        refine lv_iload C0.1 C0.2.1 dX0_putAll_18 (lv_at hl 5 rfl) ?_
        refine lv_iload_n C0.1 C0.2.1 dX0_putAll_20 rfl (lv_at hl 1 rfl) ?_
        refine lv_iload C0.1 C0.2.1 dX0_putAll_21 (lv_at hl 6 rfl) ?_
        obtain ⟨v6, e_v6, i_v6, h⟩ := oadd_s h
        refine x_add C0 e_v6 dX0_putAll_23 ?_
        refine lv_iload C0.1 C0.2.1 dX0_putAll_24 (lv_at hl 4 rfl) ?_
        obtain ⟨v7, s8, h_v7, h⟩ := bnd_s h
        refine callV_i (rest := []) C0 hml hE (Pool_rec C0 hE) (c_Pool_put l D g hR i_v5 i_x1 i_v6 i_p5 h_v7) kw_X0_109 ⟨Nat.le_of_ble_eq_true rfl, Nat.le_of_ble_eq_true rfl⟩ rfl hl.1 rfl (Nat.le_of_ble_eq_true rfl) dX0_putAll_26 ⟨Nat.zero_le _, Nat.zero_le _⟩ (fun H locs hE ⟨i_v7, hR⟩ => ?_)
        refine lv_istore (lv' := [(6, .int (I v7)), (0, .ref (g.2 1)), (2, .int (I p2)), (3, .ref (g.2 27)), (4, .int (I p4)), (5, .int (I p5)), (7, .int (I x2))]) C0.1 C0.2.1 dX0_putAll_29 hl (by decide) rfl (fun ls hl => ?_)
        obtain ⟨v9, e_v9, i_v9, h⟩ := oadd_s h
        refine x_iinc (lv' := [(7, .int (I v9)), (6, .int (I v7)), (0, .ref (g.2 1)), (2, .int (I p2)), (3, .ref (g.2 27)), (4, .int (I p4)), (5, .int (I p5))]) C0 dX0_putAll_31 hl (k := 6) rfl e_v9 (by decide) rfl (fun ls hl => ?_)
        refine x_goto C0 dX0_putAll_34 (tgt := 6) (by decide) ?_
        exact ih3 s8 hR v7 i_v7 v9 i_v9 _ _ _ hE (lv_sub hl [2, 3, 4, 5, 6, 1, 0] rfl) h
  exact hL6 FU σ hR p1 i_p1 0 lit_0 _ _ _ hE (lv_sub hl [2, 4, 5, 6, 7, 1, 0] rfl) h
set_option maxRecDepth 100000 in
set_option maxHeartbeats 4000000 in
theorem c_E_appends (l : Launch) (D : va_G) (g : Ad) {σ σr : St} {p1 p2 p3 r : Int} (hR : R32 σ) (i_p1 : in32 p1) (i_p2 : in32 p2) (i_p3 : in32 p3) (h : E_appends σ p1 p2 p3 = some (r, σr)) : CtI l D g yX7_appends cX7_appends 6 (some .int) 18 (wE g σ) (wE g σr) [.ref (g.2 0), .int (I p1), .int (I p2), .int (I p3)] r (in32 r ∧ R32 σr) := by
  intro sz
  refine met_of (by decide) (Nat.le_of_ble_eq_true rfl) (fun p e s m args below meth c ls H locs C0 hml hr hlk hE hl => ?_)
  have C0 : CX p c cX7_appends m s args D g RX7 := C0
  have hl : lv_has ls 6 [(0, .ref (g.2 0)), (1, .int (I p1)), (2, .int (I p2)), (3, .int (I p3))] := hl
  unfold E_appends at h
  refine lv_iload_n C0.1 C0.2.1 dX7_appends_0 rfl (lv_at hl 1 rfl) ?_
  obtain ⟨v1, h_v1, h⟩ := bndp_s h
  refine callS_i (rest := []) C0 hml hE (c_E_isPlace l D g (σ := σ) i_p1 h_v1) kw_X7_86 ⟨Nat.le_of_ble_eq_true rfl, Nat.le_of_ble_eq_true rfl⟩ rfl hl.1 rfl (Nat.le_of_ble_eq_true rfl) dX7_appends_1 ⟨Nat.zero_le _, Nat.zero_le _⟩ (fun H locs hE i_v1 => ?_)
  refine x_if_eq C0 i_v1 dX7_appends_4 (tgt := 21) (by decide) (fun c9 => ?_) (fun c9 => ?_)
  · have h := ite_t c9 h
    refine lv_iconst (v := I (-1)) C0.1 C0.2.1 dX7_appends_21 rfl ?_
    exact ret_i (wf := wE g) C0 hr hlk hE h lit_m1 hR dX7_appends_22
  · have h := ite_f c9 h
    refine lv_iload_n C0.1 C0.2.1 dX7_appends_7 rfl (lv_at hl 2 rfl) ?_
    obtain ⟨v2, h_v2, h⟩ := bndp_s h
    refine callS_i (rest := []) C0 hml hE (c_E_isPlace l D g (σ := σ) i_p2 h_v2) kw_X7_86 ⟨Nat.le_of_ble_eq_true rfl, Nat.le_of_ble_eq_true rfl⟩ rfl hl.1 rfl (Nat.le_of_ble_eq_true rfl) dX7_appends_8 ⟨Nat.zero_le _, Nat.zero_le _⟩ (fun H locs hE i_v2 => ?_)
    refine x_if_eq C0 i_v2 dX7_appends_11 (tgt := 21) (by decide) (fun c9 => ?_) (fun c9 => ?_)
    · have h := ite_t c9 h
      refine lv_iconst (v := I (-1)) C0.1 C0.2.1 dX7_appends_21 rfl ?_
      exact ret_i (wf := wE g) C0 hr hlk hE h lit_m1 hR dX7_appends_22
    · have h := ite_f c9 h
      refine lv_iload_n C0.1 C0.2.1 dX7_appends_14 rfl (lv_at hl 3 rfl) ?_
      obtain ⟨v3, h_v3, h⟩ := bndp_s h
      refine callS_i (rest := []) C0 hml hE (c_E_isPlace l D g (σ := σ) i_p3 h_v3) kw_X7_86 ⟨Nat.le_of_ble_eq_true rfl, Nat.le_of_ble_eq_true rfl⟩ rfl hl.1 rfl (Nat.le_of_ble_eq_true rfl) dX7_appends_15 ⟨Nat.zero_le _, Nat.zero_le _⟩ (fun H locs hE i_v3 => ?_)
      refine x_if_ne C0 i_v3 dX7_appends_18 (tgt := 23) (by decide) (fun c9 => ?_) (fun c9 => ?_)
      · have h := ite_f c9 h
        refine lv_aload_n C0.1 C0.2.1 dX7_appends_23 rfl (lv_at hl 0 rfl) ?_
        refine E_g_sizes C0 hE fk_X7_53 dX7_appends_24 ?_
        refine lv_iload_n C0.1 C0.2.1 dX7_appends_27 rfl (lv_at hl 1 rfl) ?_
        obtain ⟨v4, e_v4, i_v4, h⟩ := rd_s hR h
        refine E_sizes_l C0 hE i_p1 e_v4 dX7_appends_28 ?_
        refine lv_aload_n C0.1 C0.2.1 dX7_appends_29 rfl (lv_at hl 0 rfl) ?_
        refine E_g_sizes C0 hE fk_X7_53 dX7_appends_30 ?_
        refine lv_iload_n C0.1 C0.2.1 dX7_appends_33 rfl (lv_at hl 2 rfl) ?_
        obtain ⟨v5, e_v5, i_v5, h⟩ := rd_s hR h
        refine E_sizes_l C0 hE i_p2 e_v5 dX7_appends_34 ?_
        obtain ⟨v6, e_v6, i_v6, h⟩ := oadd_s h
        refine x_add C0 e_v6 dX7_appends_35 ?_
        refine lv_istore (lv' := [(4, .int (I v6)), (0, .ref (g.2 0)), (1, .int (I p1)), (2, .int (I p2)), (3, .int (I p3))]) C0.1 C0.2.1 dX7_appends_36 hl (by decide) rfl (fun ls hl => ?_)
        refine lv_iload C0.1 C0.2.1 dX7_appends_38 (lv_at hl 0 rfl) ?_
        refine lv_sipush (v := I 255) C0.1 C0.2.1 dX7_appends_40 (by decide +kernel) ?_
        refine x_icmp_le C0 i_v6 lit_255 dX7_appends_43 (tgt := 49) (by decide) (fun c9 => ?_) (fun c9 => ?_)
        · have h := ite_f c9 h
          refine lv_aload_n C0.1 C0.2.1 dX7_appends_49 rfl (lv_at hl 1 rfl) ?_
          obtain ⟨v7, s8, h_v7, h⟩ := bnd_s h
          refine callV_i (rest := []) C0 hml hE (E_rec C0 hE) (c_E_begin l D g hR h_v7) kw_X7_120 ⟨Nat.le_of_ble_eq_true rfl, Nat.le_of_ble_eq_true rfl⟩ rfl hl.1 rfl (Nat.le_of_ble_eq_true rfl) dX7_appends_50 ⟨Nat.zero_le _, Nat.zero_le _⟩ (fun H locs hE ⟨i_v7, hR⟩ => ?_)
          refine lv_istore (lv' := [(5, .int (I v7)), (4, .int (I v6)), (0, .ref (g.2 0)), (1, .int (I p1)), (2, .int (I p2)), (3, .int (I p3))]) C0.1 C0.2.1 dX7_appends_53 hl (by decide) rfl (fun ls hl => ?_)
          refine lv_aload_n C0.1 C0.2.1 dX7_appends_55 rfl (lv_at hl 2 rfl) ?_
          refine E_g_pool C0 hE fk_X7_10 dX7_appends_56 ?_
          refine lv_aload_n C0.1 C0.2.1 dX7_appends_59 rfl (lv_at hl 2 rfl) ?_
          refine E_g_trees C0 hE fk_X7_49 dX7_appends_60 ?_
          refine lv_iload_n C0.1 C0.2.1 dX7_appends_63 rfl (lv_at hl 4 rfl) ?_
          obtain ⟨v9, e_v9, i_v9, h⟩ := rd_s hR h
          refine E_trees_l C0 hE i_p2 e_v9 dX7_appends_64 ?_
          refine lv_aload_n C0.1 C0.2.1 dX7_appends_65 rfl (lv_at hl 2 rfl) ?_
          refine E_g_sizes C0 hE fk_X7_53 dX7_appends_66 ?_
          refine lv_iload_n C0.1 C0.2.1 dX7_appends_69 rfl (lv_at hl 4 rfl) ?_
          obtain ⟨v10, e_v10, i_v10, h⟩ := rd_s hR h
          refine E_sizes_l C0 hE i_p2 e_v10 dX7_appends_70 ?_
          refine lv_aload_n C0.1 C0.2.1 dX7_appends_71 rfl (lv_at hl 2 rfl) ?_
          refine E_g_other C0 hE fk_X7_59 dX7_appends_72 ?_
          obtain ⟨v11, s12, h_v11, h⟩ := bnd_s h
          refine callV_v (rest := []) C0 hml hE (Pool_rec C0 hE) (c_Pool_read_other l D g hR i_v9 i_v10 h_v11) kw_X7_201 ⟨Nat.le_of_ble_eq_true rfl, Nat.le_of_ble_eq_true rfl⟩ rfl hl.1 rfl (Nat.le_of_ble_eq_true rfl) dX7_appends_75 ⟨Nat.zero_le _, Nat.zero_le _⟩ (fun H locs hE hR => ?_)
          refine lv_aload_n C0.1 C0.2.1 dX7_appends_78 rfl (lv_at hl 2 rfl) ?_
          refine lv_iload_n C0.1 C0.2.1 dX7_appends_79 rfl (lv_at hl 5 rfl) ?_
          refine lv_aload_n C0.1 C0.2.1 dX7_appends_80 rfl (lv_at hl 2 rfl) ?_
          refine E_g_pool C0 hE fk_X7_10 dX7_appends_81 ?_
          refine lv_aload_n C0.1 C0.2.1 dX7_appends_84 rfl (lv_at hl 2 rfl) ?_
          refine E_g_trees C0 hE fk_X7_49 dX7_appends_85 ?_
          refine lv_iload_n C0.1 C0.2.1 dX7_appends_88 rfl (lv_at hl 3 rfl) ?_
          obtain ⟨v13, e_v13, i_v13, h⟩ := rd_s hR h
          refine E_trees_l C0 hE i_p1 e_v13 dX7_appends_89 ?_
          refine lv_aload_n C0.1 C0.2.1 dX7_appends_90 rfl (lv_at hl 2 rfl) ?_
          refine E_g_sizes C0 hE fk_X7_53 dX7_appends_91 ?_
          refine lv_iload_n C0.1 C0.2.1 dX7_appends_94 rfl (lv_at hl 3 rfl) ?_
          obtain ⟨v14, e_v14, i_v14, h⟩ := rd_s hR h
          refine E_sizes_l C0 hE i_p1 e_v14 dX7_appends_95 ?_
          refine lv_aload_n C0.1 C0.2.1 dX7_appends_96 rfl (lv_at hl 2 rfl) ?_
          refine E_g_other C0 hE fk_X7_59 dX7_appends_97 ?_
          refine lv_aload_n C0.1 C0.2.1 dX7_appends_100 rfl (lv_at hl 2 rfl) ?_
          refine E_g_sizes C0 hE fk_X7_53 dX7_appends_101 ?_
          refine lv_iload_n C0.1 C0.2.1 dX7_appends_104 rfl (lv_at hl 4 rfl) ?_
          obtain ⟨v15, e_v15, i_v15, h⟩ := rd_s hR h
          refine E_sizes_l C0 hE i_p2 e_v15 dX7_appends_105 ?_
          refine lv_iconst (v := I 1) C0.1 C0.2.1 dX7_appends_106 rfl ?_
          obtain ⟨v16, s17, h_v16, h⟩ := bnd_s h
          refine callV_i (rest := [.int (I p3), .ref (g.2 0)]) C0 hml hE (Pool_rec C0 hE) (c_Pool_putAll_other l D g hR i_v13 i_v14 i_v15 lit_1 h_v16) kw_X7_212 ⟨Nat.le_of_ble_eq_true rfl, Nat.le_of_ble_eq_true rfl⟩ rfl hl.1 rfl (Nat.le_of_ble_eq_true rfl) dX7_appends_107 ⟨Nat.zero_le _, Nat.zero_le _⟩ (fun H locs hE ⟨i_v16, hR⟩ => ?_)
          refine lv_iload C0.1 C0.2.1 dX7_appends_110 (lv_at hl 1 rfl) ?_
          obtain ⟨v18, s19, h_v18, h⟩ := bnd_s h
          refine callV_i (rest := []) C0 hml hE (E_rec C0 hE) (c_E_keep l D g hR i_p3 i_v16 i_v6 h_v18) kw_X7_126 ⟨Nat.le_of_ble_eq_true rfl, Nat.le_of_ble_eq_true rfl⟩ rfl hl.1 rfl (Nat.le_of_ble_eq_true rfl) dX7_appends_112 ⟨Nat.zero_le _, Nat.zero_le _⟩ (fun H locs hE ⟨i_v18, hR⟩ => ?_)
          refine lv_pop C0.1 C0.2.1 dX7_appends_115 rfl ?_
          refine lv_aload_n C0.1 C0.2.1 dX7_appends_116 rfl (lv_at hl 2 rfl) ?_
          refine E_g_pool C0 hE fk_X7_10 dX7_appends_117 ?_
          obtain ⟨v20, e_v20, i_v20, h⟩ := gf_s hR h
          refine Pool_n_made C0 hE e_v20 nk_X7_130 dX7_appends_120 ?_
          refine lv_iload C0.1 C0.2.1 dX7_appends_123 (lv_at hl 0 rfl) ?_
          obtain ⟨v21, e_v21, i_v21, h⟩ := osub_s h
          refine x_sub C0 e_v21 dX7_appends_125 ?_
          exact ret_i (wf := wE g) C0 hr hlk hE h i_v21 hR dX7_appends_126
        · have h := ite_t c9 h
          refine lv_bipush (v := I (-2)) C0.1 C0.2.1 dX7_appends_46 (by decide +kernel) ?_
          exact ret_i (wf := wE g) C0 hr hlk hE h lit_m2 hR dX7_appends_48
      · have h := ite_t c9 h
        refine lv_iconst (v := I (-1)) C0.1 C0.2.1 dX7_appends_21 rfl ?_
        exact ret_i (wf := wE g) C0 hr hlk hE h lit_m1 hR dX7_appends_22
set_option maxRecDepth 100000 in
set_option maxHeartbeats 4000000 in
theorem c_E_turned (l : Launch) (D : va_G) (g : Ad) {σ σr : St} {p1 p2 p3 r : Int} (hR : R32 σ) (i_p1 : in32 p1) (i_p2 : in32 p2) (i_p3 : in32 p3) (h : E_turned σ p1 p2 p3 = some (r, σr)) : CtI l D g yX7_turned cX7_turned 9 (some .int) 17 (wE g σ) (wE g σr) [.ref (g.2 0), .int (I p1), .int (I p2), .int (I p3)] r (in32 r ∧ R32 σr) := by
  intro sz
  refine met_of (by decide) (Nat.le_of_ble_eq_true rfl) (fun p e s m args below meth c ls H locs C0 hml hr hlk hE hl => ?_)
  have C0 : CX p c cX7_turned m s args D g RX7 := C0
  have hl : lv_has ls 9 [(0, .ref (g.2 0)), (1, .int (I p1)), (2, .int (I p2)), (3, .int (I p3))] := hl
  unfold E_turned at h
  refine lv_iload_n C0.1 C0.2.1 dX7_turned_0 rfl (lv_at hl 1 rfl) ?_
  obtain ⟨v1, h_v1, h⟩ := bndp_s h
  refine callS_i (rest := []) C0 hml hE (c_E_isPlace l D g (σ := σ) i_p1 h_v1) kw_X7_86 ⟨Nat.le_of_ble_eq_true rfl, Nat.le_of_ble_eq_true rfl⟩ rfl hl.1 rfl (Nat.le_of_ble_eq_true rfl) dX7_turned_1 ⟨Nat.zero_le _, Nat.zero_le _⟩ (fun H locs hE i_v1 => ?_)
  refine x_if_eq C0 i_v1 dX7_turned_4 (tgt := 25) (by decide) (fun c9 => ?_) (fun c9 => ?_)
  · have h := ite_t c9 h
    refine lv_iconst (v := I (-1)) C0.1 C0.2.1 dX7_turned_25 rfl ?_
    exact ret_i (wf := wE g) C0 hr hlk hE h lit_m1 hR dX7_turned_26
  · have h := ite_f c9 h
    refine lv_iload_n C0.1 C0.2.1 dX7_turned_7 rfl (lv_at hl 3 rfl) ?_
    obtain ⟨v2, h_v2, h⟩ := bndp_s h
    refine callS_i (rest := []) C0 hml hE (c_E_isPlace l D g (σ := σ) i_p3 h_v2) kw_X7_86 ⟨Nat.le_of_ble_eq_true rfl, Nat.le_of_ble_eq_true rfl⟩ rfl hl.1 rfl (Nat.le_of_ble_eq_true rfl) dX7_turned_8 ⟨Nat.zero_le _, Nat.zero_le _⟩ (fun H locs hE i_v2 => ?_)
    refine x_if_eq C0 i_v2 dX7_turned_11 (tgt := 25) (by decide) (fun c9 => ?_) (fun c9 => ?_)
    · have h := ite_t c9 h
      refine lv_iconst (v := I (-1)) C0.1 C0.2.1 dX7_turned_25 rfl ?_
      exact ret_i (wf := wE g) C0 hr hlk hE h lit_m1 hR dX7_turned_26
    · have h := ite_f c9 h
      refine lv_iload_n C0.1 C0.2.1 dX7_turned_14 rfl (lv_at hl 2 rfl) ?_
      refine x_if_lt C0 i_p2 dX7_turned_15 (tgt := 25) (by decide) (fun c9 => ?_) (fun c9 => ?_)
      · have h := ite_t c9 h
        refine lv_iconst (v := I (-1)) C0.1 C0.2.1 dX7_turned_25 rfl ?_
        exact ret_i (wf := wE g) C0 hr hlk hE h lit_m1 hR dX7_turned_26
      · have h := ite_f c9 h
        refine lv_iload_n C0.1 C0.2.1 dX7_turned_18 rfl (lv_at hl 2 rfl) ?_
        refine lv_sipush (v := I 255) C0.1 C0.2.1 dX7_turned_19 (by decide +kernel) ?_
        refine x_icmp_le C0 i_p2 lit_255 dX7_turned_22 (tgt := 27) (by decide) (fun c9 => ?_) (fun c9 => ?_)
        · have h := ite_f c9 h
          refine lv_aload_n C0.1 C0.2.1 dX7_turned_27 rfl (lv_at hl 0 rfl) ?_
          refine E_g_sizes C0 hE fk_X7_53 dX7_turned_28 ?_
          refine lv_iload_n C0.1 C0.2.1 dX7_turned_31 rfl (lv_at hl 1 rfl) ?_
          obtain ⟨v3, e_v3, i_v3, h⟩ := rd_s hR h
          refine E_sizes_l C0 hE i_p1 e_v3 dX7_turned_32 ?_
          refine lv_istore (lv' := [(4, .int (I v3)), (0, .ref (g.2 0)), (1, .int (I p1)), (2, .int (I p2)), (3, .int (I p3))]) C0.1 C0.2.1 dX7_turned_33 hl (by decide) rfl (fun ls hl => ?_)
          refine lv_iload C0.1 C0.2.1 dX7_turned_35 (lv_at hl 0 rfl) ?_
          refine x_if_ne C0 i_v3 dX7_turned_37 (tgt := 43) (by decide) (fun c9 => ?_) (fun c9 => ?_)
          · have h := ite_f c9 h
            refine lv_aload_n C0.1 C0.2.1 dX7_turned_43 rfl (lv_at hl 1 rfl) ?_
            obtain ⟨v4, s5, h_v4, h⟩ := bnd_s h
            refine callV_i (rest := []) C0 hml hE (E_rec C0 hE) (c_E_begin l D g hR h_v4) kw_X7_120 ⟨Nat.le_of_ble_eq_true rfl, Nat.le_of_ble_eq_true rfl⟩ rfl hl.1 rfl (Nat.le_of_ble_eq_true rfl) dX7_turned_44 ⟨Nat.zero_le _, Nat.zero_le _⟩ (fun H locs hE ⟨i_v4, hR⟩ => ?_)
            refine lv_istore (lv' := [(5, .int (I v4)), (4, .int (I v3)), (0, .ref (g.2 0)), (1, .int (I p1)), (2, .int (I p2)), (3, .int (I p3))]) C0.1 C0.2.1 dX7_turned_47 hl (by decide) rfl (fun ls hl => ?_)
            refine lv_aload_n C0.1 C0.2.1 dX7_turned_49 rfl (lv_at hl 2 rfl) ?_
            refine E_g_trees C0 hE fk_X7_49 dX7_turned_50 ?_
            refine lv_iload_n C0.1 C0.2.1 dX7_turned_53 rfl (lv_at hl 3 rfl) ?_
            obtain ⟨v6, e_v6, i_v6, h⟩ := rd_s hR h
            refine E_trees_l C0 hE i_p1 e_v6 dX7_turned_54 ?_
            refine lv_istore (lv' := [(6, .int (I v6)), (5, .int (I v4)), (4, .int (I v3)), (0, .ref (g.2 0)), (1, .int (I p1)), (2, .int (I p2)), (3, .int (I p3))]) C0.1 C0.2.1 dX7_turned_55 hl (by decide) rfl (fun ls hl => ?_)
            refine lv_iconst (v := I 0) C0.1 C0.2.1 dX7_turned_57 rfl ?_
            refine lv_istore (lv' := [(7, .int (I 0)), (6, .int (I v6)), (5, .int (I v4)), (4, .int (I v3)), (0, .ref (g.2 0)), (1, .int (I p1)), (2, .int (I p2)), (3, .int (I p3))]) C0.1 C0.2.1 dX7_turned_58 hl (by decide) rfl (fun ls hl => ?_)
            obtain ⟨k9, e_k9, h⟩ := jn_s h
            have h_k9 : ∀ (s7 : St) (hR : R32 s7) (x8 : Int) (i_x8 : in32 x8) (H : Heap) (locs : List Loc) (ls : Array Slot), EW D (va_A (wE g σ) sz) s.heap (wE g s7) H locs → lv_has ls 9 [(0, .ref (g.2 0)), (3, .int (I p3)), (4, .int (I v3)), (5, .int (I v4)), (6, .int (I x8))] → k9 s7 x8 = some (r, σr) → W p l e (rmk 17) s m args below meth c H locs 0 0 (MQ below (QCi D (wE g σr) r (in32 r ∧ R32 σr) (va_A (wE g σ) sz)) args s 0 0 (va_A (wE g σ) sz)) (F0 m 111 ls []) := by
              intro s7 hR x8 i_x8 H locs ls hE hl h
              have h := (congrFun (congrFun e_k9 s7) x8).symm.trans h
              refine lv_aload_n C0.1 C0.2.1 dX7_turned_111 rfl (lv_at hl 0 rfl) ?_
              refine lv_iload_n C0.1 C0.2.1 dX7_turned_112 rfl (lv_at hl 1 rfl) ?_
              refine lv_iload C0.1 C0.2.1 dX7_turned_113 (lv_at hl 4 rfl) ?_
              refine lv_iload C0.1 C0.2.1 dX7_turned_115 (lv_at hl 2 rfl) ?_
              obtain ⟨v10, s11, h_v10, h⟩ := bnd_s h
              refine callV_i (rest := []) C0 hml hE (E_rec C0 hE) (c_E_keep l D g hR i_p3 i_x8 i_v3 h_v10) kw_X7_126 ⟨Nat.le_of_ble_eq_true rfl, Nat.le_of_ble_eq_true rfl⟩ rfl hl.1 rfl (Nat.le_of_ble_eq_true rfl) dX7_turned_117 ⟨Nat.zero_le _, Nat.zero_le _⟩ (fun H locs hE ⟨i_v10, hR⟩ => ?_)
              refine lv_pop C0.1 C0.2.1 dX7_turned_120 rfl ?_
              refine lv_aload_n C0.1 C0.2.1 dX7_turned_121 rfl (lv_at hl 0 rfl) ?_
              refine E_g_pool C0 hE fk_X7_10 dX7_turned_122 ?_
              obtain ⟨v12, e_v12, i_v12, h⟩ := gf_s hR h
              refine Pool_n_made C0 hE e_v12 nk_X7_130 dX7_turned_125 ?_
              refine lv_iload C0.1 C0.2.1 dX7_turned_128 (lv_at hl 3 rfl) ?_
              obtain ⟨v13, e_v13, i_v13, h⟩ := osub_s h
              refine x_sub C0 e_v13 dX7_turned_130 ?_
              exact ret_i (wf := wE g) C0 hr hlk hE h i_v13 hR dX7_turned_131
            have hL60 : ∀ (n : Nat) (s17 : St) (hR : R32 s17) (x14 : Int) (i_x14 : in32 x14) (x15 : Int) (i_x15 : in32 x15) (H : Heap) (locs : List Loc) (ls : Array Slot), EW D (va_A (wE g σ) sz) s.heap (wE g s17) H locs → lv_has ls 9 [(0, .ref (g.2 0)), (2, .int (I p2)), (3, .int (I p3)), (4, .int (I v3)), (5, .int (I v4)), (6, .int (I x14)), (7, .int (I x15))] → E_turned_L60 k9 p2 v3 n s17 x14 x15 = some (r, σr) → W p l e (rmk 17) s m args below meth c H locs 0 0 (MQ below (QCi D (wE g σr) r (in32 r ∧ R32 σr) (va_A (wE g σ) sz)) args s 0 0 (va_A (wE g σ) sz)) (F0 m 60 ls []) := by
              intro n
              induction n with
              | zero => intros; rename_i h; cases h
              | succ n ih16 =>
                intro s17 hR x14 i_x14 x15 i_x15 H locs ls hE hl h
                unfold E_turned_L60 at h
                refine lv_iload C0.1 C0.2.1 dX7_turned_60 (lv_at hl 6 rfl) ?_
                refine lv_iload_n C0.1 C0.2.1 dX7_turned_62 rfl (lv_at hl 1 rfl) ?_
                refine x_icmp_ge C0 i_x15 i_p2 dX7_turned_63 (tgt := 111) (by decide) (fun c9 => ?_) (fun c9 => ?_)
                · have h := ite_f c9 h
                  exact h_k9 s17 hR x14 i_x14 _ _ _ hE (lv_sub hl [0, 2, 3, 4, 5] rfl) h
                · have h := ite_t c9 h
                  refine lv_aload_n C0.1 C0.2.1 dX7_turned_66 rfl (lv_at hl 0 rfl) ?_
                  refine E_g_pool C0 hE fk_X7_10 dX7_turned_67 ?_
                  refine lv_iload C0.1 C0.2.1 dX7_turned_70 (lv_at hl 5 rfl) ?_
                  obtain ⟨v18, h_v18, h⟩ := bndp_s h
                  refine callV_i (rest := []) C0 hml hE (Pool_rec C0 hE) (c_Pool_numberOf l D g hR i_x14 h_v18) kw_X7_216 ⟨Nat.le_of_ble_eq_true rfl, Nat.le_of_ble_eq_true rfl⟩ rfl hl.1 rfl (Nat.le_of_ble_eq_true rfl) dX7_turned_72 ⟨Nat.zero_le _, Nat.zero_le _⟩ (fun H locs hE i_v18 => ?_)
                  refine lv_istore (lv' := [(8, .int (I v18)), (0, .ref (g.2 0)), (2, .int (I p2)), (3, .int (I p3)), (4, .int (I v3)), (5, .int (I v4)), (6, .int (I x14)), (7, .int (I x15))]) C0.1 C0.2.1 dX7_turned_75 hl (by decide) rfl (fun ls hl => ?_)
                  refine lv_aload_n C0.1 C0.2.1 dX7_turned_77 rfl (lv_at hl 1 rfl) ?_
                  refine E_g_pool C0 hE fk_X7_10 dX7_turned_78 ?_
                  refine lv_iload C0.1 C0.2.1 dX7_turned_81 (lv_at hl 0 rfl) ?_
                  refine lv_aload_n C0.1 C0.2.1 dX7_turned_83 rfl (lv_at hl 1 rfl) ?_
                  refine E_g_pool C0 hE fk_X7_10 dX7_turned_84 ?_
                  refine lv_iload C0.1 C0.2.1 dX7_turned_87 (lv_at hl 6 rfl) ?_
                  refine lv_iload C0.1 C0.2.1 dX7_turned_89 (lv_at hl 4 rfl) ?_
                  refine lv_iconst (v := I 2) C0.1 C0.2.1 dX7_turned_91 rfl ?_
                  obtain ⟨v19, s20, h_v19, h⟩ := bnd_s h
                  refine callV_i (rest := [.int (I v18), .ref (g.2 1)]) C0 hml hE (Pool_rec C0 hE) (c_Pool_take l D g hR i_x14 i_v3 lit_2 h_v19) kw_X7_219 ⟨Nat.le_of_ble_eq_true rfl, Nat.le_of_ble_eq_true rfl⟩ rfl hl.1 rfl (Nat.le_of_ble_eq_true rfl) dX7_turned_92 ⟨Nat.zero_le _, Nat.zero_le _⟩ (fun H locs hE ⟨i_v19, hR⟩ => ?_)
                  refine lv_iload C0.1 C0.2.1 dX7_turned_95 (lv_at hl 4 rfl) ?_
                  refine lv_iconst (v := I 1) C0.1 C0.2.1 dX7_turned_97 rfl ?_
                  obtain ⟨v21, e_v21, i_v21, h⟩ := osub_s h
                  refine x_sub C0 e_v21 dX7_turned_98 ?_
                  refine lv_iconst (v := I 1) C0.1 C0.2.1 dX7_turned_99 rfl ?_
                  obtain ⟨v22, s23, h_v22, h⟩ := bnd_s h
                  refine callV_i (rest := []) C0 hml hE (Pool_rec C0 hE) (c_Pool_put l D g hR i_v18 i_v19 i_v21 lit_1 h_v22) kw_X7_222 ⟨Nat.le_of_ble_eq_true rfl, Nat.le_of_ble_eq_true rfl⟩ rfl hl.1 rfl (Nat.le_of_ble_eq_true rfl) dX7_turned_100 ⟨Nat.zero_le _, Nat.zero_le _⟩ (fun H locs hE ⟨i_v22, hR⟩ => ?_)
                  refine lv_istore (lv' := [(6, .int (I v22)), (8, .int (I v18)), (0, .ref (g.2 0)), (2, .int (I p2)), (3, .int (I p3)), (4, .int (I v3)), (5, .int (I v4)), (7, .int (I x15))]) C0.1 C0.2.1 dX7_turned_103 hl (by decide) rfl (fun ls hl => ?_)
                  obtain ⟨v24, e_v24, i_v24, h⟩ := oadd_s h
                  refine x_iinc (lv' := [(7, .int (I v24)), (6, .int (I v22)), (8, .int (I v18)), (0, .ref (g.2 0)), (2, .int (I p2)), (3, .int (I p3)), (4, .int (I v3)), (5, .int (I v4))]) C0 dX7_turned_105 hl (k := 7) rfl e_v24 (by decide) rfl (fun ls hl => ?_)
                  refine x_goto C0 dX7_turned_108 (tgt := 60) (by decide) ?_
                  exact ih16 s23 hR v22 i_v22 v24 i_v24 _ _ _ hE (lv_sub hl [3, 4, 5, 6, 7, 1, 0] rfl) h
            exact hL60 FU s5 hR v6 i_v6 0 lit_0 _ _ _ hE (lv_sub hl [4, 6, 7, 3, 2, 1, 0] rfl) h
          · have h := ite_t c9 h
            refine lv_bipush (v := I (-2)) C0.1 C0.2.1 dX7_turned_40 (by decide +kernel) ?_
            exact ret_i (wf := wE g) C0 hr hlk hE h lit_m2 hR dX7_turned_42
        · have h := ite_t c9 h
          refine lv_iconst (v := I (-1)) C0.1 C0.2.1 dX7_turned_25 rfl ?_
          exact ret_i (wf := wE g) C0 hr hlk hE h lit_m1 hR dX7_turned_26
set_option maxRecDepth 100000 in
set_option maxHeartbeats 4000000 in
theorem c_Pool_takeMany (l : Launch) (D : va_G) (g : Ad) {σ σr : St} {p1 p2 p3 p4 r : Int} (hR : R32 σ) (i_p1 : in32 p1) (i_p2 : in32 p2) (i_p3 : in32 p3) (i_p4 : in32 p4) (h : Pool_takeMany σ p1 p2 p3 p4 = some (r, σr)) : CtI l D g yX0_takeMany cX0_takeMany 7 (some .int) 17 (wE g σ) (wE g σr) [.ref (g.2 1), .int (I p1), .int (I p2), .int (I p3), .int (I p4)] r (in32 r ∧ R32 σr) := by
  intro sz
  refine met_of (by decide) (Nat.le_of_ble_eq_true rfl) (fun p e s m args below meth c ls H locs C0 hml hr hlk hE hl => ?_)
  have C0 : CX p c cX0_takeMany m s args D g RX0 := C0
  have hl : lv_has ls 7 [(0, .ref (g.2 1)), (1, .int (I p1)), (2, .int (I p2)), (3, .int (I p3)), (4, .int (I p4))] := hl
  unfold Pool_takeMany at h
  refine lv_iload_n C0.1 C0.2.1 dX0_takeMany_0 rfl (lv_at hl 1 rfl) ?_
  refine lv_istore (lv' := [(5, .int (I p1)), (0, .ref (g.2 1)), (1, .int (I p1)), (2, .int (I p2)), (3, .int (I p3)), (4, .int (I p4))]) C0.1 C0.2.1 dX0_takeMany_1 hl (by decide) rfl (fun ls hl => ?_)
  refine lv_iconst (v := I 0) C0.1 C0.2.1 dX0_takeMany_3 rfl ?_
  refine lv_istore (lv' := [(6, .int (I 0)), (5, .int (I p1)), (0, .ref (g.2 1)), (1, .int (I p1)), (2, .int (I p2)), (3, .int (I p3)), (4, .int (I p4))]) C0.1 C0.2.1 dX0_takeMany_4 hl (by decide) rfl (fun ls hl => ?_)
  have hL6 : ∀ (n : Nat) (s4 : St) (hR : R32 s4) (x1 : Int) (i_x1 : in32 x1) (x2 : Int) (i_x2 : in32 x2) (H : Heap) (locs : List Loc) (ls : Array Slot), EW D (va_A (wE g σ) sz) s.heap (wE g s4) H locs → lv_has ls 7 [(0, .ref (g.2 1)), (2, .int (I p2)), (3, .int (I p3)), (4, .int (I p4)), (5, .int (I x1)), (6, .int (I x2))] → Pool_takeMany_L6 p2 p3 p4 n s4 x1 x2 = some (r, σr) → W p l e (rmk 17) s m args below meth c H locs 0 0 (MQ below (QCi D (wE g σr) r (in32 r ∧ R32 σr) (va_A (wE g σ) sz)) args s 0 0 (va_A (wE g σ) sz)) (F0 m 6 ls []) := by
    intro n
    induction n with
    | zero => intros; rename_i h; cases h
    | succ n ih3 =>
      intro s4 hR x1 i_x1 x2 i_x2 H locs ls hE hl h
      unfold Pool_takeMany_L6 at h
      refine lv_iload C0.1 C0.2.1 dX0_takeMany_6 (lv_at hl 5 rfl) ?_
      refine lv_iload_n C0.1 C0.2.1 dX0_takeMany_8 rfl (lv_at hl 2 rfl) ?_
      refine x_icmp_ge C0 i_x2 i_p3 dX0_takeMany_9 (tgt := 32) (by decide) (fun c9 => ?_) (fun c9 => ?_)
      · have h := ite_f c9 h
        refine lv_iload C0.1 C0.2.1 dX0_takeMany_32 (lv_at hl 4 rfl) ?_
        exact ret_i (wf := wE g) C0 hr hlk hE h i_x1 hR dX0_takeMany_34
      · have h := ite_t c9 h
        refine lv_aload_n C0.1 C0.2.1 dX0_takeMany_12 rfl (lv_at hl 0 rfl) ?_
        refine lv_iload C0.1 C0.2.1 dX0_takeMany_13 (lv_at hl 4 rfl) ?_
        refine lv_iload_n C0.1 C0.2.1 dX0_takeMany_15 rfl (lv_at hl 1 rfl) ?_
        refine lv_iload C0.1 C0.2.1 dX0_takeMany_16 (lv_at hl 5 rfl) ?_
        obtain ⟨v5, e_v5, i_v5, h⟩ := osub_s h
        refine x_sub C0 e_v5 dX0_takeMany_18 ?_
        refine lv_iload C0.1 C0.2.1 dX0_takeMany_19 (lv_at hl 3 rfl) ?_
        obtain ⟨v6, s7, h_v6, h⟩ := bnd_s h
        refine callV_i (rest := []) C0 hml hE (Pool_rec C0 hE) (c_Pool_take l D g hR i_x1 i_v5 i_p4 h_v6) kw_X0_120 ⟨Nat.le_of_ble_eq_true rfl, Nat.le_of_ble_eq_true rfl⟩ rfl hl.1 rfl (Nat.le_of_ble_eq_true rfl) dX0_takeMany_21 ⟨Nat.zero_le _, Nat.zero_le _⟩ (fun H locs hE ⟨i_v6, hR⟩ => ?_)
        refine lv_istore (lv' := [(5, .int (I v6)), (0, .ref (g.2 1)), (2, .int (I p2)), (3, .int (I p3)), (4, .int (I p4)), (6, .int (I x2))]) C0.1 C0.2.1 dX0_takeMany_24 hl (by decide) rfl (fun ls hl => ?_)
        obtain ⟨v8, e_v8, i_v8, h⟩ := oadd_s h
        refine x_iinc (lv' := [(6, .int (I v8)), (5, .int (I v6)), (0, .ref (g.2 1)), (2, .int (I p2)), (3, .int (I p3)), (4, .int (I p4))]) C0 dX0_takeMany_26 hl (k := 5) rfl e_v8 (by decide) rfl (fun ls hl => ?_)
        refine x_goto C0 dX0_takeMany_29 (tgt := 6) (by decide) ?_
        exact ih3 s7 hR v6 i_v6 v8 i_v8 _ _ _ hE (lv_sub hl [2, 3, 4, 5, 1, 0] rfl) h
  exact hL6 FU σ hR p1 i_p1 0 lit_0 _ _ _ hE (lv_sub hl [2, 4, 5, 6, 1, 0] rfl) h
set_option maxRecDepth 100000 in
set_option maxHeartbeats 4000000 in
theorem c_E_keeps (l : Launch) (D : va_G) (g : Ad) {σ σr : St} {p1 p2 p3 r : Int} (hR : R32 σ) (i_p1 : in32 p1) (i_p2 : in32 p2) (i_p3 : in32 p3) (h : E_keeps σ p1 p2 p3 = some (r, σr)) : CtI l D g yX7_keeps cX7_keeps 5 (some .int) 18 (wE g σ) (wE g σr) [.ref (g.2 0), .int (I p1), .int (I p2), .int (I p3)] r (in32 r ∧ R32 σr) := by
  intro sz
  refine met_of (by decide) (Nat.le_of_ble_eq_true rfl) (fun p e s m args below meth c ls H locs C0 hml hr hlk hE hl => ?_)
  have C0 : CX p c cX7_keeps m s args D g RX7 := C0
  have hl : lv_has ls 5 [(0, .ref (g.2 0)), (1, .int (I p1)), (2, .int (I p2)), (3, .int (I p3))] := hl
  unfold E_keeps at h
  refine lv_aload_n C0.1 C0.2.1 dX7_keeps_0 rfl (lv_at hl 0 rfl) ?_
  refine lv_iload_n C0.1 C0.2.1 dX7_keeps_1 rfl (lv_at hl 1 rfl) ?_
  refine lv_iconst (v := I 0) C0.1 C0.2.1 dX7_keeps_2 rfl ?_
  refine lv_iload_n C0.1 C0.2.1 dX7_keeps_3 rfl (lv_at hl 2 rfl) ?_
  obtain ⟨v1, h_v1, h⟩ := bndp_s h
  refine callV_i (rest := []) C0 hml hE (E_rec C0 hE) (c_E_isRange l D g hR i_p1 lit_0 i_p2 h_v1) kw_X7_194 ⟨Nat.le_of_ble_eq_true rfl, Nat.le_of_ble_eq_true rfl⟩ rfl hl.1 rfl (Nat.le_of_ble_eq_true rfl) dX7_keeps_4 ⟨Nat.zero_le _, Nat.zero_le _⟩ (fun H locs hE i_v1 => ?_)
  refine x_if_eq C0 i_v1 dX7_keeps_7 (tgt := 17) (by decide) (fun c9 => ?_) (fun c9 => ?_)
  · have h := ite_t c9 h
    refine lv_iconst (v := I (-1)) C0.1 C0.2.1 dX7_keeps_17 rfl ?_
    exact ret_i (wf := wE g) C0 hr hlk hE h lit_m1 hR dX7_keeps_18
  · have h := ite_f c9 h
    refine lv_iload_n C0.1 C0.2.1 dX7_keeps_10 rfl (lv_at hl 3 rfl) ?_
    obtain ⟨v2, h_v2, h⟩ := bndp_s h
    refine callS_i (rest := []) C0 hml hE (c_E_isPlace l D g (σ := σ) i_p3 h_v2) kw_X7_86 ⟨Nat.le_of_ble_eq_true rfl, Nat.le_of_ble_eq_true rfl⟩ rfl hl.1 rfl (Nat.le_of_ble_eq_true rfl) dX7_keeps_11 ⟨Nat.zero_le _, Nat.zero_le _⟩ (fun H locs hE i_v2 => ?_)
    refine x_if_ne C0 i_v2 dX7_keeps_14 (tgt := 19) (by decide) (fun c9 => ?_) (fun c9 => ?_)
    · have h := ite_f c9 h
      refine lv_aload_n C0.1 C0.2.1 dX7_keeps_19 rfl (lv_at hl 0 rfl) ?_
      obtain ⟨v3, s4, h_v3, h⟩ := bnd_s h
      refine callV_i (rest := []) C0 hml hE (E_rec C0 hE) (c_E_begin l D g hR h_v3) kw_X7_120 ⟨Nat.le_of_ble_eq_true rfl, Nat.le_of_ble_eq_true rfl⟩ rfl hl.1 rfl (Nat.le_of_ble_eq_true rfl) dX7_keeps_20 ⟨Nat.zero_le _, Nat.zero_le _⟩ (fun H locs hE ⟨i_v3, hR⟩ => ?_)
      refine lv_istore (lv' := [(4, .int (I v3)), (0, .ref (g.2 0)), (1, .int (I p1)), (2, .int (I p2)), (3, .int (I p3))]) C0.1 C0.2.1 dX7_keeps_23 hl (by decide) rfl (fun ls hl => ?_)
      refine lv_aload_n C0.1 C0.2.1 dX7_keeps_25 rfl (lv_at hl 1 rfl) ?_
      refine lv_iload_n C0.1 C0.2.1 dX7_keeps_26 rfl (lv_at hl 4 rfl) ?_
      refine lv_aload_n C0.1 C0.2.1 dX7_keeps_27 rfl (lv_at hl 1 rfl) ?_
      refine E_g_pool C0 hE fk_X7_10 dX7_keeps_28 ?_
      refine lv_aload_n C0.1 C0.2.1 dX7_keeps_31 rfl (lv_at hl 1 rfl) ?_
      refine E_g_trees C0 hE fk_X7_49 dX7_keeps_32 ?_
      refine lv_iload_n C0.1 C0.2.1 dX7_keeps_35 rfl (lv_at hl 2 rfl) ?_
      obtain ⟨v5, e_v5, i_v5, h⟩ := rd_s hR h
      refine E_trees_l C0 hE i_p1 e_v5 dX7_keeps_36 ?_
      refine lv_aload_n C0.1 C0.2.1 dX7_keeps_37 rfl (lv_at hl 1 rfl) ?_
      refine E_g_sizes C0 hE fk_X7_53 dX7_keeps_38 ?_
      refine lv_iload_n C0.1 C0.2.1 dX7_keeps_41 rfl (lv_at hl 2 rfl) ?_
      obtain ⟨v6, e_v6, i_v6, h⟩ := rd_s hR h
      refine E_sizes_l C0 hE i_p1 e_v6 dX7_keeps_42 ?_
      refine lv_aload_n C0.1 C0.2.1 dX7_keeps_43 rfl (lv_at hl 1 rfl) ?_
      refine E_g_sizes C0 hE fk_X7_53 dX7_keeps_44 ?_
      refine lv_iload_n C0.1 C0.2.1 dX7_keeps_47 rfl (lv_at hl 2 rfl) ?_
      obtain ⟨v7, e_v7, i_v7, h⟩ := rd_s hR h
      refine E_sizes_l C0 hE i_p1 e_v7 dX7_keeps_48 ?_
      refine lv_iload_n C0.1 C0.2.1 dX7_keeps_49 rfl (lv_at hl 3 rfl) ?_
      obtain ⟨v8, e_v8, i_v8, h⟩ := osub_s h
      refine x_sub C0 e_v8 dX7_keeps_50 ?_
      refine lv_iconst (v := I 3) C0.1 C0.2.1 dX7_keeps_51 rfl ?_
      obtain ⟨v9, s10, h_v9, h⟩ := bnd_s h
      refine callV_i (rest := [.int (I p3), .ref (g.2 0)]) C0 hml hE (Pool_rec C0 hE) (c_Pool_takeMany l D g hR i_v5 i_v6 i_v8 lit_3 h_v9) kw_X7_225 ⟨Nat.le_of_ble_eq_true rfl, Nat.le_of_ble_eq_true rfl⟩ rfl hl.1 rfl (Nat.le_of_ble_eq_true rfl) dX7_keeps_52 ⟨Nat.zero_le _, Nat.zero_le _⟩ (fun H locs hE ⟨i_v9, hR⟩ => ?_)
      refine lv_iload_n C0.1 C0.2.1 dX7_keeps_55 rfl (lv_at hl 3 rfl) ?_
      obtain ⟨v11, s12, h_v11, h⟩ := bnd_s h
      refine callV_i (rest := []) C0 hml hE (E_rec C0 hE) (c_E_keep l D g hR i_p3 i_v9 i_p2 h_v11) kw_X7_126 ⟨Nat.le_of_ble_eq_true rfl, Nat.le_of_ble_eq_true rfl⟩ rfl hl.1 rfl (Nat.le_of_ble_eq_true rfl) dX7_keeps_56 ⟨Nat.zero_le _, Nat.zero_le _⟩ (fun H locs hE ⟨i_v11, hR⟩ => ?_)
      refine lv_pop C0.1 C0.2.1 dX7_keeps_59 rfl ?_
      refine lv_aload_n C0.1 C0.2.1 dX7_keeps_60 rfl (lv_at hl 1 rfl) ?_
      refine E_g_pool C0 hE fk_X7_10 dX7_keeps_61 ?_
      obtain ⟨v13, e_v13, i_v13, h⟩ := gf_s hR h
      refine Pool_n_made C0 hE e_v13 nk_X7_130 dX7_keeps_64 ?_
      refine lv_iload C0.1 C0.2.1 dX7_keeps_67 (lv_at hl 0 rfl) ?_
      obtain ⟨v14, e_v14, i_v14, h⟩ := osub_s h
      refine x_sub C0 e_v14 dX7_keeps_69 ?_
      exact ret_i (wf := wE g) C0 hr hlk hE h i_v14 hR dX7_keeps_70
    · have h := ite_t c9 h
      refine lv_iconst (v := I (-1)) C0.1 C0.2.1 dX7_keeps_17 rfl ?_
      exact ret_i (wf := wE g) C0 hr hlk hE h lit_m1 hR dX7_keeps_18
set_option maxRecDepth 100000 in
set_option maxHeartbeats 4000000 in
theorem c_E_skips (l : Launch) (D : va_G) (g : Ad) {σ σr : St} {p1 p2 p3 r : Int} (hR : R32 σ) (i_p1 : in32 p1) (i_p2 : in32 p2) (i_p3 : in32 p3) (h : E_skips σ p1 p2 p3 = some (r, σr)) : CtI l D g yX7_skips cX7_skips 5 (some .int) 18 (wE g σ) (wE g σr) [.ref (g.2 0), .int (I p1), .int (I p2), .int (I p3)] r (in32 r ∧ R32 σr) := by
  intro sz
  refine met_of (by decide) (Nat.le_of_ble_eq_true rfl) (fun p e s m args below meth c ls H locs C0 hml hr hlk hE hl => ?_)
  have C0 : CX p c cX7_skips m s args D g RX7 := C0
  have hl : lv_has ls 5 [(0, .ref (g.2 0)), (1, .int (I p1)), (2, .int (I p2)), (3, .int (I p3))] := hl
  unfold E_skips at h
  refine lv_aload_n C0.1 C0.2.1 dX7_skips_0 rfl (lv_at hl 0 rfl) ?_
  refine lv_iload_n C0.1 C0.2.1 dX7_skips_1 rfl (lv_at hl 1 rfl) ?_
  refine lv_iconst (v := I 0) C0.1 C0.2.1 dX7_skips_2 rfl ?_
  refine lv_iload_n C0.1 C0.2.1 dX7_skips_3 rfl (lv_at hl 2 rfl) ?_
  obtain ⟨v1, h_v1, h⟩ := bndp_s h
  refine callV_i (rest := []) C0 hml hE (E_rec C0 hE) (c_E_isRange l D g hR i_p1 lit_0 i_p2 h_v1) kw_X7_194 ⟨Nat.le_of_ble_eq_true rfl, Nat.le_of_ble_eq_true rfl⟩ rfl hl.1 rfl (Nat.le_of_ble_eq_true rfl) dX7_skips_4 ⟨Nat.zero_le _, Nat.zero_le _⟩ (fun H locs hE i_v1 => ?_)
  refine x_if_eq C0 i_v1 dX7_skips_7 (tgt := 17) (by decide) (fun c9 => ?_) (fun c9 => ?_)
  · have h := ite_t c9 h
    refine lv_iconst (v := I (-1)) C0.1 C0.2.1 dX7_skips_17 rfl ?_
    exact ret_i (wf := wE g) C0 hr hlk hE h lit_m1 hR dX7_skips_18
  · have h := ite_f c9 h
    refine lv_iload_n C0.1 C0.2.1 dX7_skips_10 rfl (lv_at hl 3 rfl) ?_
    obtain ⟨v2, h_v2, h⟩ := bndp_s h
    refine callS_i (rest := []) C0 hml hE (c_E_isPlace l D g (σ := σ) i_p3 h_v2) kw_X7_86 ⟨Nat.le_of_ble_eq_true rfl, Nat.le_of_ble_eq_true rfl⟩ rfl hl.1 rfl (Nat.le_of_ble_eq_true rfl) dX7_skips_11 ⟨Nat.zero_le _, Nat.zero_le _⟩ (fun H locs hE i_v2 => ?_)
    refine x_if_ne C0 i_v2 dX7_skips_14 (tgt := 19) (by decide) (fun c9 => ?_) (fun c9 => ?_)
    · have h := ite_f c9 h
      refine lv_aload_n C0.1 C0.2.1 dX7_skips_19 rfl (lv_at hl 0 rfl) ?_
      obtain ⟨v3, s4, h_v3, h⟩ := bnd_s h
      refine callV_i (rest := []) C0 hml hE (E_rec C0 hE) (c_E_begin l D g hR h_v3) kw_X7_120 ⟨Nat.le_of_ble_eq_true rfl, Nat.le_of_ble_eq_true rfl⟩ rfl hl.1 rfl (Nat.le_of_ble_eq_true rfl) dX7_skips_20 ⟨Nat.zero_le _, Nat.zero_le _⟩ (fun H locs hE ⟨i_v3, hR⟩ => ?_)
      refine lv_istore (lv' := [(4, .int (I v3)), (0, .ref (g.2 0)), (1, .int (I p1)), (2, .int (I p2)), (3, .int (I p3))]) C0.1 C0.2.1 dX7_skips_23 hl (by decide) rfl (fun ls hl => ?_)
      refine lv_aload_n C0.1 C0.2.1 dX7_skips_25 rfl (lv_at hl 1 rfl) ?_
      refine lv_iload_n C0.1 C0.2.1 dX7_skips_26 rfl (lv_at hl 4 rfl) ?_
      refine lv_aload_n C0.1 C0.2.1 dX7_skips_27 rfl (lv_at hl 1 rfl) ?_
      refine E_g_pool C0 hE fk_X7_10 dX7_skips_28 ?_
      refine lv_aload_n C0.1 C0.2.1 dX7_skips_31 rfl (lv_at hl 1 rfl) ?_
      refine E_g_trees C0 hE fk_X7_49 dX7_skips_32 ?_
      refine lv_iload_n C0.1 C0.2.1 dX7_skips_35 rfl (lv_at hl 2 rfl) ?_
      obtain ⟨v5, e_v5, i_v5, h⟩ := rd_s hR h
      refine E_trees_l C0 hE i_p1 e_v5 dX7_skips_36 ?_
      refine lv_aload_n C0.1 C0.2.1 dX7_skips_37 rfl (lv_at hl 1 rfl) ?_
      refine E_g_sizes C0 hE fk_X7_53 dX7_skips_38 ?_
      refine lv_iload_n C0.1 C0.2.1 dX7_skips_41 rfl (lv_at hl 2 rfl) ?_
      obtain ⟨v6, e_v6, i_v6, h⟩ := rd_s hR h
      refine E_sizes_l C0 hE i_p1 e_v6 dX7_skips_42 ?_
      refine lv_iload_n C0.1 C0.2.1 dX7_skips_43 rfl (lv_at hl 3 rfl) ?_
      refine lv_iconst (v := I 2) C0.1 C0.2.1 dX7_skips_44 rfl ?_
      obtain ⟨v7, s8, h_v7, h⟩ := bnd_s h
      refine callV_i (rest := [.int (I p3), .ref (g.2 0)]) C0 hml hE (Pool_rec C0 hE) (c_Pool_takeMany l D g hR i_v5 i_v6 i_p2 lit_2 h_v7) kw_X7_225 ⟨Nat.le_of_ble_eq_true rfl, Nat.le_of_ble_eq_true rfl⟩ rfl hl.1 rfl (Nat.le_of_ble_eq_true rfl) dX7_skips_45 ⟨Nat.zero_le _, Nat.zero_le _⟩ (fun H locs hE ⟨i_v7, hR⟩ => ?_)
      refine lv_aload_n C0.1 C0.2.1 dX7_skips_48 rfl (lv_at hl 1 rfl) ?_
      refine E_g_sizes C0 hE fk_X7_53 dX7_skips_49 ?_
      refine lv_iload_n C0.1 C0.2.1 dX7_skips_52 rfl (lv_at hl 2 rfl) ?_
      obtain ⟨v9, e_v9, i_v9, h⟩ := rd_s hR h
      refine E_sizes_l C0 hE i_p1 e_v9 dX7_skips_53 ?_
      refine lv_iload_n C0.1 C0.2.1 dX7_skips_54 rfl (lv_at hl 3 rfl) ?_
      obtain ⟨v10, e_v10, i_v10, h⟩ := osub_s h
      refine x_sub C0 e_v10 dX7_skips_55 ?_
      obtain ⟨v11, s12, h_v11, h⟩ := bnd_s h
      refine callV_i (rest := []) C0 hml hE (E_rec C0 hE) (c_E_keep l D g hR i_p3 i_v7 i_v10 h_v11) kw_X7_126 ⟨Nat.le_of_ble_eq_true rfl, Nat.le_of_ble_eq_true rfl⟩ rfl hl.1 rfl (Nat.le_of_ble_eq_true rfl) dX7_skips_56 ⟨Nat.zero_le _, Nat.zero_le _⟩ (fun H locs hE ⟨i_v11, hR⟩ => ?_)
      refine lv_pop C0.1 C0.2.1 dX7_skips_59 rfl ?_
      refine lv_aload_n C0.1 C0.2.1 dX7_skips_60 rfl (lv_at hl 1 rfl) ?_
      refine E_g_pool C0 hE fk_X7_10 dX7_skips_61 ?_
      obtain ⟨v13, e_v13, i_v13, h⟩ := gf_s hR h
      refine Pool_n_made C0 hE e_v13 nk_X7_130 dX7_skips_64 ?_
      refine lv_iload C0.1 C0.2.1 dX7_skips_67 (lv_at hl 0 rfl) ?_
      obtain ⟨v14, e_v14, i_v14, h⟩ := osub_s h
      refine x_sub C0 e_v14 dX7_skips_69 ?_
      exact ret_i (wf := wE g) C0 hr hlk hE h i_v14 hR dX7_skips_70
    · have h := ite_t c9 h
      refine lv_iconst (v := I (-1)) C0.1 C0.2.1 dX7_skips_17 rfl ?_
      exact ret_i (wf := wE g) C0 hr hlk hE h lit_m1 hR dX7_skips_18
set_option maxRecDepth 100000 in
set_option maxHeartbeats 4000000 in
theorem c_E_heap (l : Launch) (D : va_G) (g : Ad) {σ σr : St} {p1 r : Int} (hR : R32 σ) (i_p1 : in32 p1) (h : E_heap σ p1 = some (r, σr)) : CtI l D g yX7_heap cX7_heap 4 (some .int) 5 (wE g σ) (wE g σr) [.ref (g.2 0), .int (I p1)] r (in32 r ∧ R32 σr) := by
  intro sz
  refine met_of (by decide) (Nat.le_of_ble_eq_true rfl) (fun p e s m args below meth c ls H locs C0 hml hr hlk hE hl => ?_)
  have C0 : CX p c cX7_heap m s args D g RX7 := C0
  have hl : lv_has ls 4 [(0, .ref (g.2 0)), (1, .int (I p1))] := hl
  unfold E_heap at h
  refine lv_iload_n C0.1 C0.2.1 dX7_heap_0 rfl (lv_at hl 1 rfl) ?_
  obtain ⟨v1, h_v1, h⟩ := bndp_s h
  refine callS_i (rest := []) C0 hml hE (c_E_isPlace l D g (σ := σ) i_p1 h_v1) kw_X7_86 ⟨Nat.le_of_ble_eq_true rfl, Nat.le_of_ble_eq_true rfl⟩ rfl hl.1 rfl (Nat.le_of_ble_eq_true rfl) dX7_heap_1 ⟨Nat.zero_le _, Nat.zero_le _⟩ (fun H locs hE i_v1 => ?_)
  refine x_if_ne C0 i_v1 dX7_heap_4 (tgt := 9) (by decide) (fun c9 => ?_) (fun c9 => ?_)
  · have h := ite_f c9 h
    refine lv_aload_n C0.1 C0.2.1 dX7_heap_9 rfl (lv_at hl 0 rfl) ?_
    refine E_g_pool C0 hE fk_X7_10 dX7_heap_10 ?_
    refine lv_aload_n C0.1 C0.2.1 dX7_heap_13 rfl (lv_at hl 0 rfl) ?_
    refine E_g_trees C0 hE fk_X7_49 dX7_heap_14 ?_
    refine lv_iload_n C0.1 C0.2.1 dX7_heap_17 rfl (lv_at hl 1 rfl) ?_
    obtain ⟨v2, e_v2, i_v2, h⟩ := rd_s hR h
    refine E_trees_l C0 hE i_p1 e_v2 dX7_heap_18 ?_
    refine lv_aload_n C0.1 C0.2.1 dX7_heap_19 rfl (lv_at hl 0 rfl) ?_
    refine E_g_sizes C0 hE fk_X7_53 dX7_heap_20 ?_
    refine lv_iload_n C0.1 C0.2.1 dX7_heap_23 rfl (lv_at hl 1 rfl) ?_
    obtain ⟨v3, e_v3, i_v3, h⟩ := rd_s hR h
    refine E_sizes_l C0 hE i_p1 e_v3 dX7_heap_24 ?_
    refine lv_aload_n C0.1 C0.2.1 dX7_heap_25 rfl (lv_at hl 0 rfl) ?_
    refine E_g_one C0 hE fk_X7_56 dX7_heap_26 ?_
    obtain ⟨v4, s5, h_v4, h⟩ := bnd_s h
    refine callV_v (rest := []) C0 hml hE (Pool_rec C0 hE) (c_Pool_read_one l D g hR i_v2 i_v3 h_v4) kw_X7_201 ⟨Nat.le_of_ble_eq_true rfl, Nat.le_of_ble_eq_true rfl⟩ rfl hl.1 rfl (Nat.le_of_ble_eq_true rfl) dX7_heap_29 ⟨Nat.zero_le _, Nat.zero_le _⟩ (fun H locs hE hR => ?_)
    refine lv_iconst (v := I (-1)) C0.1 C0.2.1 dX7_heap_32 rfl ?_
    refine lv_istore_n (lv' := [(2, .int (I (-1))), (0, .ref (g.2 0)), (1, .int (I p1))]) C0.1 C0.2.1 dX7_heap_33 rfl hl (by decide) rfl (fun ls hl => ?_)
    refine lv_iconst (v := I 1) C0.1 C0.2.1 dX7_heap_34 rfl ?_
    refine lv_istore_n (lv' := [(3, .int (I 1)), (2, .int (I (-1))), (0, .ref (g.2 0)), (1, .int (I p1))]) C0.1 C0.2.1 dX7_heap_35 rfl hl (by decide) rfl (fun ls hl => ?_)
    obtain ⟨k7, e_k7, h⟩ := jn_s h
    have h_k7 : ∀ (x6 : Int) (i_x6 : in32 x6) (H : Heap) (locs : List Loc) (ls : Array Slot), EW D (va_A (wE g σ) sz) s.heap (wE g s5) H locs → lv_has ls 4 [(0, .ref (g.2 0)), (2, .int (I x6))] → k7 x6 = some (r, σr) → W p l e (rmk 5) s m args below meth c H locs 0 0 (MQ below (QCi D (wE g σr) r (in32 r ∧ R32 σr) (va_A (wE g σ) sz)) args s 0 0 (va_A (wE g σ) sz)) (F0 m 77 ls []) := by
      intro x6 i_x6 H locs ls hE hl h
      have h := (congrFun e_k7 x6).symm.trans h
      refine lv_aload_n C0.1 C0.2.1 dX7_heap_77 rfl (lv_at hl 0 rfl) ?_
      refine E_g_told C0 hE fk_X7_19 dX7_heap_78 ?_
      refine lv_iload_n C0.1 C0.2.1 dX7_heap_81 rfl (lv_at hl 1 rfl) ?_
      refine x_i2l C0 i_x6 dX7_heap_82 ?_
      obtain ⟨v8, s9, h_v8, h⟩ := bnd_s h
      refine callV_v (rest := []) C0 hml hE (Row_rec C0 hE) (c_Row_tell l D g hR (in64_of i_x6) h_v8) kw_X7_171 ⟨Nat.le_of_ble_eq_true rfl, Nat.le_of_ble_eq_true rfl⟩ rfl hl.1 rfl (Nat.le_of_ble_eq_true rfl) dX7_heap_83 ⟨Nat.zero_le _, Nat.zero_le _⟩ (fun H locs hE hR => ?_)
      refine lv_iload_n C0.1 C0.2.1 dX7_heap_86 rfl (lv_at hl 1 rfl) ?_
      refine lv_iconst (v := I (-1)) C0.1 C0.2.1 dX7_heap_87 rfl ?_
      obtain ⟨v10, e_v10, i_v10, h⟩ := oif_s h
      have kk_v10 : W p l e (rmk 5) s m args below meth c H locs 0 0 (MQ below (QCi D (wE g σr) r (in32 r ∧ R32 σr) (va_A (wE g σ) sz)) args s 0 0 (va_A (wE g σ) sz)) (F0 m 96 ls [.int (I v10)]) := by
        exact ret_i (wf := wE g) C0 hr hlk hE h i_v10 hR dX7_heap_96
      refine x_icmp_ne C0 i_x6 lit_m1 dX7_heap_88 (tgt := 95) (by decide) (fun c9 => ?_) (fun c9 => ?_)
      · have e9 := e_v10.trans (if_neg c9)
        refine lv_iconst (v := I 0) C0.1 C0.2.1 dX7_heap_95 rfl ?_
        rw [e9] at kk_v10; exact kk_v10
      · have e9 := e_v10.trans (if_pos c9)
        refine lv_iconst (v := I 1) C0.1 C0.2.1 dX7_heap_91 rfl ?_
        refine x_goto C0 dX7_heap_92 (tgt := 96) (by decide) ?_
        rw [e9] at kk_v10; exact kk_v10
    have hL36 : ∀ (n : Nat) (x11 : Int) (i_x11 : in32 x11) (x12 : Int) (i_x12 : in32 x12) (H : Heap) (locs : List Loc) (ls : Array Slot), EW D (va_A (wE g σ) sz) s.heap (wE g s5) H locs → lv_has ls 4 [(0, .ref (g.2 0)), (1, .int (I p1)), (2, .int (I x11)), (3, .int (I x12))] → E_heap_L36 k7 s5 p1 n x11 x12 = some (r, σr) → W p l e (rmk 5) s m args below meth c H locs 0 0 (MQ below (QCi D (wE g σr) r (in32 r ∧ R32 σr) (va_A (wE g σ) sz)) args s 0 0 (va_A (wE g σ) sz)) (F0 m 36 ls []) := by
      intro n
      induction n with
      | zero => intros; rename_i h; cases h
      | succ n ih13 =>
        intro x11 i_x11 x12 i_x12 H locs ls hE hl h
        unfold E_heap_L36 at h
        refine lv_iload_n C0.1 C0.2.1 dX7_heap_36 rfl (lv_at hl 3 rfl) ?_
        refine lv_aload_n C0.1 C0.2.1 dX7_heap_37 rfl (lv_at hl 0 rfl) ?_
        refine E_g_sizes C0 hE fk_X7_53 dX7_heap_38 ?_
        refine lv_iload_n C0.1 C0.2.1 dX7_heap_41 rfl (lv_at hl 1 rfl) ?_
        obtain ⟨v14, e_v14, i_v14, h⟩ := rd_s hR h
        refine E_sizes_l C0 hE i_p1 e_v14 dX7_heap_42 ?_
        refine x_icmp_ge C0 i_x12 i_v14 dX7_heap_43 (tgt := 77) (by decide) (fun c9 => ?_) (fun c9 => ?_)
        · have h := ite_f c9 h
          exact h_k7 x11 i_x11 _ _ _ hE (lv_sub hl [0, 2] rfl) h
        · have h := ite_t c9 h
          refine lv_iload_n C0.1 C0.2.1 dX7_heap_46 rfl (lv_at hl 2 rfl) ?_
          refine lv_iconst (v := I (-1)) C0.1 C0.2.1 dX7_heap_47 rfl ?_
          refine x_icmp_ne C0 i_x11 lit_m1 dX7_heap_48 (tgt := 77) (by decide) (fun c9 => ?_) (fun c9 => ?_)
          · have h := ite_f c9 h
            exact h_k7 x11 i_x11 _ _ _ hE (lv_sub hl [0, 2] rfl) h
          · have h := ite_t c9 h
            refine lv_aload_n C0.1 C0.2.1 dX7_heap_51 rfl (lv_at hl 0 rfl) ?_
            refine E_g_one C0 hE fk_X7_56 dX7_heap_52 ?_
            refine lv_iload_n C0.1 C0.2.1 dX7_heap_55 rfl (lv_at hl 3 rfl) ?_
            obtain ⟨v15, e_v15, i_v15, h⟩ := rd_s hR h
            refine E_one_l C0 hE i_x12 e_v15 dX7_heap_56 ?_
            refine lv_aload_n C0.1 C0.2.1 dX7_heap_57 rfl (lv_at hl 0 rfl) ?_
            refine E_g_one C0 hE fk_X7_56 dX7_heap_58 ?_
            refine lv_iload_n C0.1 C0.2.1 dX7_heap_61 rfl (lv_at hl 3 rfl) ?_
            obtain ⟨v16, h_v16, h⟩ := bndp_s h
            refine callS_i (rest := [.ref (g.2 26), .int (I v15)]) C0 hml hE (c_Shape_above l D g (σ := s5) i_x12 h_v16) kw_X7_242 ⟨Nat.le_of_ble_eq_true rfl, Nat.le_of_ble_eq_true rfl⟩ rfl hl.1 rfl (Nat.le_of_ble_eq_true rfl) dX7_heap_62 ⟨Nat.zero_le _, Nat.zero_le _⟩ (fun H locs hE i_v16 => ?_)
            obtain ⟨v17, e_v17, i_v17, h⟩ := rd_s hR h
            refine E_one_l C0 hE i_v16 e_v17 dX7_heap_65 ?_
            obtain ⟨k19, e_k19, h⟩ := jn_s h
            have h_k19 : ∀ (x18 : Int) (i_x18 : in32 x18) (H : Heap) (locs : List Loc) (ls : Array Slot), EW D (va_A (wE g σ) sz) s.heap (wE g s5) H locs → lv_has ls 4 [(0, .ref (g.2 0)), (1, .int (I p1)), (2, .int (I x18)), (3, .int (I x12))] → k19 x18 = some (r, σr) → W p l e (rmk 5) s m args below meth c H locs 0 0 (MQ below (QCi D (wE g σr) r (in32 r ∧ R32 σr) (va_A (wE g σ) sz)) args s 0 0 (va_A (wE g σ) sz)) (F0 m 71 ls []) := by
              intro x18 i_x18 H locs ls hE hl h
              have h := (congrFun e_k19 x18).symm.trans h
              obtain ⟨v20, e_v20, i_v20, h⟩ := oadd_s h
              refine x_iinc (lv' := [(3, .int (I v20)), (0, .ref (g.2 0)), (1, .int (I p1)), (2, .int (I x18))]) C0 dX7_heap_71 hl (k := 3) rfl e_v20 (by decide) rfl (fun ls hl => ?_)
              refine x_goto C0 dX7_heap_74 (tgt := 36) (by decide) ?_
              exact ih13 x18 i_x18 v20 i_v20 _ _ _ hE (lv_sub hl [1, 2, 3, 0] rfl) h
            refine x_icmp_ge C0 i_v15 i_v17 dX7_heap_66 (tgt := 71) (by decide) (fun c9 => ?_) (fun c9 => ?_)
            · have h := ite_f c9 h
              exact h_k19 x11 i_x11 _ _ _ hE (lv_sub hl [0, 1, 2, 3] rfl) h
            · have h := ite_t c9 h
              refine lv_iload_n C0.1 C0.2.1 dX7_heap_69 rfl (lv_at hl 3 rfl) ?_
              refine lv_istore_n (lv' := [(2, .int (I x12)), (0, .ref (g.2 0)), (1, .int (I p1)), (3, .int (I x12))]) C0.1 C0.2.1 dX7_heap_70 rfl hl (by decide) rfl (fun ls hl => ?_)
              exact h_k19 x12 i_x12 _ _ _ hE (lv_sub hl [1, 2, 0, 3] rfl) h
    exact hL36 FU (-1) lit_m1 1 lit_1 _ _ _ hE (lv_sub hl [2, 3, 1, 0] rfl) h
  · have h := ite_t c9 h
    refine lv_iconst (v := I (-1)) C0.1 C0.2.1 dX7_heap_7 rfl ?_
    exact ret_i (wf := wE g) C0 hr hlk hE h lit_m1 hR dX7_heap_8
set_option maxRecDepth 100000 in
set_option maxHeartbeats 4000000 in
theorem c_Pool_farLeft (l : Launch) (D : va_G) (g : Ad) {σ : St} {p1 r : Int} (hR : R32 σ) (i_p1 : in32 p1) (h : Pool_farLeft σ p1 = some r) : CtI l D g yX0_farLeft cX0_farLeft 4 (some .int) 3 (wE g σ) (wE g σ) [.ref (g.2 1), .int (I p1)] r (in32 r) := by
  intro sz
  refine met_of (by decide) (Nat.le_of_ble_eq_true rfl) (fun p e s m args below meth c ls H locs C0 hml hr hlk hE hl => ?_)
  have C0 : CX p c cX0_farLeft m s args D g RX0 := C0
  have hl : lv_has ls 4 [(0, .ref (g.2 1)), (1, .int (I p1))] := hl
  unfold Pool_farLeft at h
  refine lv_iload_n C0.1 C0.2.1 dX0_farLeft_0 rfl (lv_at hl 1 rfl) ?_
  refine lv_istore_n (lv' := [(2, .int (I p1)), (0, .ref (g.2 1)), (1, .int (I p1))]) C0.1 C0.2.1 dX0_farLeft_1 rfl hl (by decide) rfl (fun ls hl => ?_)
  refine lv_iconst (v := I 0) C0.1 C0.2.1 dX0_farLeft_2 rfl ?_
  refine lv_istore_n (lv' := [(3, .int (I 0)), (2, .int (I p1)), (0, .ref (g.2 1)), (1, .int (I p1))]) C0.1 C0.2.1 dX0_farLeft_3 rfl hl (by decide) rfl (fun ls hl => ?_)
  obtain ⟨k2, e_k2, h⟩ := jn_s h
  have h_k2 : ∀ (x1 : Int) (i_x1 : in32 x1) (H : Heap) (locs : List Loc) (ls : Array Slot), EW D (va_A (wE g σ) sz) s.heap (wE g σ) H locs → lv_has ls 4 [(0, .ref (g.2 1)), (2, .int (I x1))] → k2 x1 = some r → W p l e (rmk 3) s m args below meth c H locs 0 0 (MQ below (QCi D (wE g σ) r (in32 r) (va_A (wE g σ) sz)) args s 0 0 (va_A (wE g σ) sz)) (F0 m 30 ls []) := by
    intro x1 i_x1 H locs ls hE hl h
    have h := (congrFun e_k2 x1).symm.trans h
    refine lv_aload_n C0.1 C0.2.1 dX0_farLeft_30 rfl (lv_at hl 0 rfl) ?_
    refine lv_iload_n C0.1 C0.2.1 dX0_farLeft_31 rfl (lv_at hl 1 rfl) ?_
    obtain ⟨v3, h_v3, h⟩ := bndp_s h
    refine callV_i (rest := []) C0 hml hE (Pool_rec C0 hE) (c_Pool_numberOf l D g hR i_x1 h_v3) kw_X0_64 ⟨Nat.le_of_ble_eq_true rfl, Nat.le_of_ble_eq_true rfl⟩ rfl hl.1 rfl (Nat.le_of_ble_eq_true rfl) dX0_farLeft_32 ⟨Nat.zero_le _, Nat.zero_le _⟩ (fun H locs hE i_v3 => ?_)
    exact pret_i C0 hr hlk hE h i_v3 dX0_farLeft_35
  have hL4 : ∀ (n : Nat) (x4 : Int) (i_x4 : in32 x4) (x5 : Int) (i_x5 : in32 x5) (H : Heap) (locs : List Loc) (ls : Array Slot), EW D (va_A (wE g σ) sz) s.heap (wE g σ) H locs → lv_has ls 4 [(0, .ref (g.2 1)), (2, .int (I x4)), (3, .int (I x5))] → Pool_farLeft_L4 k2 σ n x4 x5 = some r → W p l e (rmk 3) s m args below meth c H locs 0 0 (MQ below (QCi D (wE g σ) r (in32 r) (va_A (wE g σ) sz)) args s 0 0 (va_A (wE g σ) sz)) (F0 m 4 ls []) := by
    intro n
    induction n with
    | zero => intros; rename_i h; cases h
    | succ n ih6 =>
      intro x4 i_x4 x5 i_x5 H locs ls hE hl h
      unfold Pool_farLeft_L4 at h
      refine lv_iload_n C0.1 C0.2.1 dX0_farLeft_4 rfl (lv_at hl 2 rfl) ?_
      refine lv_bipush (v := I 8) C0.1 C0.2.1 dX0_farLeft_5 (by decide +kernel) ?_
      refine x_icmp_ge C0 i_x5 lit_8 dX0_farLeft_7 (tgt := 30) (by decide) (fun c9 => ?_) (fun c9 => ?_)
      · have h := ite_f c9 h
        exact h_k2 x4 i_x4 _ _ _ hE (lv_sub hl [0, 1] rfl) h
      · have h := ite_t c9 h
        refine lv_aload_n C0.1 C0.2.1 dX0_farLeft_10 rfl (lv_at hl 0 rfl) ?_
        refine lv_iload_n C0.1 C0.2.1 dX0_farLeft_11 rfl (lv_at hl 1 rfl) ?_
        obtain ⟨v7, h_v7, h⟩ := bndp_s h
        refine callV_i (rest := []) C0 hml hE (Pool_rec C0 hE) (c_Pool_leftOf l D g hR i_x4 h_v7) kw_X0_57 ⟨Nat.le_of_ble_eq_true rfl, Nat.le_of_ble_eq_true rfl⟩ rfl hl.1 rfl (Nat.le_of_ble_eq_true rfl) dX0_farLeft_12 ⟨Nat.zero_le _, Nat.zero_le _⟩ (fun H locs hE i_v7 => ?_)
        refine x_if_eq C0 i_v7 dX0_farLeft_15 (tgt := 30) (by decide) (fun c9 => ?_) (fun c9 => ?_)
        · have h := ite_t c9 h
          exact h_k2 x4 i_x4 _ _ _ hE (lv_sub hl [0, 1] rfl) h
        · have h := ite_f c9 h
          refine lv_aload_n C0.1 C0.2.1 dX0_farLeft_18 rfl (lv_at hl 0 rfl) ?_
          refine lv_iload_n C0.1 C0.2.1 dX0_farLeft_19 rfl (lv_at hl 1 rfl) ?_
          obtain ⟨v8, h_v8, h⟩ := bndp_s h
          refine callV_i (rest := []) C0 hml hE (Pool_rec C0 hE) (c_Pool_leftOf l D g hR i_x4 h_v8) kw_X0_57 ⟨Nat.le_of_ble_eq_true rfl, Nat.le_of_ble_eq_true rfl⟩ rfl hl.1 rfl (Nat.le_of_ble_eq_true rfl) dX0_farLeft_20 ⟨Nat.zero_le _, Nat.zero_le _⟩ (fun H locs hE i_v8 => ?_)
          refine lv_istore_n (lv' := [(2, .int (I v8)), (0, .ref (g.2 1)), (3, .int (I x5))]) C0.1 C0.2.1 dX0_farLeft_23 rfl hl (by decide) rfl (fun ls hl => ?_)
          obtain ⟨v9, e_v9, i_v9, h⟩ := oadd_s h
          refine x_iinc (lv' := [(3, .int (I v9)), (2, .int (I v8)), (0, .ref (g.2 1))]) C0 dX0_farLeft_24 hl (k := 2) rfl e_v9 (by decide) rfl (fun ls hl => ?_)
          refine x_goto C0 dX0_farLeft_27 (tgt := 4) (by decide) ?_
          exact ih6 v8 i_v8 v9 i_v9 _ _ _ hE (lv_sub hl [2, 1, 0] rfl) h
  exact hL4 FU p1 i_p1 0 lit_0 _ _ _ hE (lv_sub hl [2, 1, 0] rfl) h
set_option maxRecDepth 100000 in
set_option maxHeartbeats 4000000 in
theorem c_Pool_farLeftGone (l : Launch) (D : va_G) (g : Ad) : ∀ (d : Nat) {σ σr : St} {p2 p3 r : Int} (hR : R32 σ) (i_p2 : in32 p2) (i_p3 : in32 p3) (h : Pool_farLeftGone d σ p2 p3 = some (r, σr)), CtI l D g yX0_farLeftGone cX0_farLeftGone 4 (some .int) (3 + d) (wE g σ) (wE g σr) [.ref (g.2 1), .int (I p2), .int (I p3)] r (in32 r ∧ R32 σr) := by
  intro d
  induction d with
  | zero => intros; rename_i h; cases h
  | succ d ih =>
    intro σ σr p2 p3 r hR i_p2 i_p3 h sz
    refine met_of (by decide) (Nat.le_of_ble_eq_true rfl) (fun p e s m args below meth c ls H locs C0 hml hr hlk hE hl => ?_)
    have C0 : CX p c cX0_farLeftGone m s args D g RX0 := C0
    have hl : lv_has ls 4 [(0, .ref (g.2 1)), (1, .int (I p2)), (2, .int (I p3))] := hl
    unfold Pool_farLeftGone at h
    refine lv_iload_n C0.1 C0.2.1 dX0_farLeftGone_0 rfl (lv_at hl 2 rfl) ?_
    refine lv_iconst (v := I 1) C0.1 C0.2.1 dX0_farLeftGone_1 rfl ?_
    refine x_icmp_gt C0 i_p3 lit_1 dX0_farLeftGone_2 (tgt := 7) (by decide) (fun c9 => ?_) (fun c9 => ?_)
    · have h := ite_t c9 h
      refine lv_aload_n C0.1 C0.2.1 dX0_farLeftGone_7 rfl (lv_at hl 0 rfl) ?_
      refine lv_aload_n C0.1 C0.2.1 dX0_farLeftGone_8 rfl (lv_at hl 0 rfl) ?_
      refine lv_iload_n C0.1 C0.2.1 dX0_farLeftGone_9 rfl (lv_at hl 1 rfl) ?_
      obtain ⟨v1, h_v1, h⟩ := bndp_s h
      refine callV_i (rest := [.ref (g.2 1)]) C0 hml hE (Pool_rec C0 hE) (c_Pool_leftOf l D g hR i_p2 h_v1) kw_X0_57 (by simp only [rmk, RD]; omega) rfl hl.1 rfl (Nat.le_of_ble_eq_true rfl) dX0_farLeftGone_10 ⟨Nat.zero_le _, Nat.zero_le _⟩ (fun H locs hE i_v1 => ?_)
      refine lv_iload_n C0.1 C0.2.1 dX0_farLeftGone_13 rfl (lv_at hl 2 rfl) ?_
      obtain ⟨v2, h_v2, h⟩ := bndp_s h
      refine callS_i (rest := [.int (I v1), .ref (g.2 1)]) C0 hml hE (c_Shape_leftSize l D g (σ := σ) i_p3 h_v2) kw_X0_126 (by simp only [rmk, RD]; omega) rfl hl.1 rfl (Nat.le_of_ble_eq_true rfl) dX0_farLeftGone_14 ⟨Nat.zero_le _, Nat.zero_le _⟩ (fun H locs hE i_v2 => ?_)
      obtain ⟨v3, s4, h_v3, h⟩ := bnd_s h
      refine callS_i (rest := []) C0 hml hE (ih hR i_v1 i_v2 h_v3) kw_X0_129 (by simp only [rmk, RD]; omega) rfl hl.1 rfl (Nat.le_of_ble_eq_true rfl) dX0_farLeftGone_17 ⟨Nat.zero_le _, Nat.zero_le _⟩ (fun H locs hE ⟨i_v3, hR⟩ => ?_)
      refine lv_istore_n (lv' := [(3, .int (I v3)), (0, .ref (g.2 1)), (1, .int (I p2)), (2, .int (I p3))]) C0.1 C0.2.1 dX0_farLeftGone_20 rfl hl (by decide) rfl (fun ls hl => ?_)
      refine lv_aload_n C0.1 C0.2.1 dX0_farLeftGone_21 rfl (lv_at hl 1 rfl) ?_
      refine lv_aload_n C0.1 C0.2.1 dX0_farLeftGone_22 rfl (lv_at hl 1 rfl) ?_
      refine lv_iload_n C0.1 C0.2.1 dX0_farLeftGone_23 rfl (lv_at hl 2 rfl) ?_
      obtain ⟨v5, h_v5, h⟩ := bndp_s h
      refine callV_i (rest := [.ref (g.2 1)]) C0 hml hE (Pool_rec C0 hE) (c_Pool_numberOf l D g hR i_p2 h_v5) kw_X0_64 (by simp only [rmk, RD]; omega) rfl hl.1 rfl (Nat.le_of_ble_eq_true rfl) dX0_farLeftGone_24 ⟨Nat.zero_le _, Nat.zero_le _⟩ (fun H locs hE i_v5 => ?_)
      refine lv_aload_n C0.1 C0.2.1 dX0_farLeftGone_27 rfl (lv_at hl 1 rfl) ?_
      refine lv_iload_n C0.1 C0.2.1 dX0_farLeftGone_28 rfl (lv_at hl 2 rfl) ?_
      obtain ⟨v6, h_v6, h⟩ := bndp_s h
      refine callV_i (rest := [.int (I v5), .ref (g.2 1)]) C0 hml hE (Pool_rec C0 hE) (c_Pool_rightOf l D g hR i_p2 h_v6) kw_X0_61 (by simp only [rmk, RD]; omega) rfl hl.1 rfl (Nat.le_of_ble_eq_true rfl) dX0_farLeftGone_29 ⟨Nat.zero_le _, Nat.zero_le _⟩ (fun H locs hE i_v6 => ?_)
      refine lv_iload_n C0.1 C0.2.1 dX0_farLeftGone_32 rfl (lv_at hl 0 rfl) ?_
      obtain ⟨v7, s8, h_v7, h⟩ := bnd_s h
      refine callV_i (rest := []) C0 hml hE (Pool_rec C0 hE) (c_Pool_make l D g hR i_v5 i_v6 i_v3 h_v7) kw_X0_76 (by simp only [rmk, RD]; omega) rfl hl.1 rfl (Nat.le_of_ble_eq_true rfl) dX0_farLeftGone_33 ⟨Nat.zero_le _, Nat.zero_le _⟩ (fun H locs hE ⟨i_v7, hR⟩ => ?_)
      exact ret_i (wf := wE g) C0 hr hlk hE h i_v7 hR dX0_farLeftGone_36
    · have h := ite_f c9 h
      refine lv_iconst (v := I 0) C0.1 C0.2.1 dX0_farLeftGone_5 rfl ?_
      exact ret_i (wf := wE g) C0 hr hlk hE h lit_0 hR dX0_farLeftGone_6
set_option maxRecDepth 100000 in
set_option maxHeartbeats 4000000 in
theorem c_Pool_sifted (l : Launch) (D : va_G) (g : Ad) : ∀ (d : Nat) {σ σr : St} {p2 p3 p4 p5 r : Int} (hR : R32 σ) (i_p2 : in32 p2) (i_p3 : in32 p3) (i_p4 : in32 p4) (i_p5 : in32 p5) (h : Pool_sifted d σ p2 p3 p4 p5 = some (r, σr)), CtI l D g yX0_sifted cX0_sifted 8 (some .int) (3 + d) (wE g σ) (wE g σr) [.ref (g.2 1), .int (I p2), .int (I p3), .int (I p4), .int (I p5)] r (in32 r ∧ R32 σr) := by
  intro d
  induction d with
  | zero => intros; rename_i h; cases h
  | succ d ih =>
    intro σ σr p2 p3 p4 p5 r hR i_p2 i_p3 i_p4 i_p5 h sz
    refine met_of (by decide) (Nat.le_of_ble_eq_true rfl) (fun p e s m args below meth c ls H locs C0 hml hr hlk hE hl => ?_)
    have C0 : CX p c cX0_sifted m s args D g RX0 := C0
    have hl : lv_has ls 8 [(0, .ref (g.2 1)), (1, .int (I p2)), (2, .int (I p3)), (3, .int (I p4)), (4, .int (I p5))] := hl
    unfold Pool_sifted at h
    refine lv_iload_n C0.1 C0.2.1 dX0_sifted_0 rfl (lv_at hl 2 rfl) ?_
    obtain ⟨k2, e_k2, h⟩ := jn_s h
    have h_k2 : ∀ (x1 : Int) (i_x1 : in32 x1) (H : Heap) (locs : List Loc) (ls : Array Slot), EW D (va_A (wE g σ) sz) s.heap (wE g σ) H locs → lv_has ls 8 [(0, .ref (g.2 1)), (1, .int (I p2)), (2, .int (I p3)), (3, .int (I p4)), (4, .int (I p5))] → k2 x1 = some (r, σr) → W p l e (rmk (3 + (d + 1))) s m args below meth c H locs 0 0 (MQ below (QCi D (wE g σr) r (in32 r ∧ R32 σr) (va_A (wE g σ) sz)) args s 0 0 (va_A (wE g σ) sz)) (F0 m 18 ls [.int (I x1)]) := by
      intro x1 i_x1 H locs ls hE hl h
      have h := (congrFun e_k2 x1).symm.trans h
      refine lv_istore (lv' := [(5, .int (I x1)), (0, .ref (g.2 1)), (1, .int (I p2)), (2, .int (I p3)), (3, .int (I p4)), (4, .int (I p5))]) C0.1 C0.2.1 dX0_sifted_18 hl (by decide) rfl (fun ls hl => ?_)
      refine lv_iload_n C0.1 C0.2.1 dX0_sifted_20 rfl (lv_at hl 4 rfl) ?_
      obtain ⟨k4, e_k4, h⟩ := jn_s h
      have h_k4 : ∀ (x3 : Int) (i_x3 : in32 x3) (H : Heap) (locs : List Loc) (ls : Array Slot), EW D (va_A (wE g σ) sz) s.heap (wE g σ) H locs → lv_has ls 8 [(0, .ref (g.2 1)), (1, .int (I p2)), (2, .int (I p3)), (3, .int (I p4)), (4, .int (I p5)), (5, .int (I x1))] → k4 x3 = some (r, σr) → W p l e (rmk (3 + (d + 1))) s m args below meth c H locs 0 0 (MQ below (QCi D (wE g σr) r (in32 r ∧ R32 σr) (va_A (wE g σ) sz)) args s 0 0 (va_A (wE g σ) sz)) (F0 m 38 ls [.int (I x3)]) := by
        intro x3 i_x3 H locs ls hE hl h
        have h := (congrFun e_k4 x3).symm.trans h
        refine lv_istore (lv' := [(6, .int (I x3)), (0, .ref (g.2 1)), (1, .int (I p2)), (2, .int (I p3)), (3, .int (I p4)), (4, .int (I p5)), (5, .int (I x1))]) C0.1 C0.2.1 dX0_sifted_38 hl (by decide) rfl (fun ls hl => ?_)
        refine lv_iload C0.1 C0.2.1 dX0_sifted_40 (lv_at hl 5 rfl) ?_
        obtain ⟨k5, e_k5, h⟩ := jn_s h
        have h_k5 : ∀ (H : Heap) (locs : List Loc) (ls : Array Slot), EW D (va_A (wE g σ) sz) s.heap (wE g σ) H locs → lv_has ls 8 [(0, .ref (g.2 1)), (1, .int (I p2)), (2, .int (I p3)), (3, .int (I p4))] → k5 = some (r, σr) → W p l e (rmk (3 + (d + 1))) s m args below meth c H locs 0 0 (MQ below (QCi D (wE g σr) r (in32 r ∧ R32 σr) (va_A (wE g σ) sz)) args s 0 0 (va_A (wE g σ) sz)) (F0 m 59 ls []) := by
          intro H locs ls hE hl h
          have h := e_k5.symm.trans h
          refine lv_aload_n C0.1 C0.2.1 dX0_sifted_59 rfl (lv_at hl 0 rfl) ?_
          refine lv_iload_n C0.1 C0.2.1 dX0_sifted_60 rfl (lv_at hl 1 rfl) ?_
          refine lv_iload_n C0.1 C0.2.1 dX0_sifted_61 rfl (lv_at hl 2 rfl) ?_
          refine lv_iload_n C0.1 C0.2.1 dX0_sifted_62 rfl (lv_at hl 3 rfl) ?_
          obtain ⟨v6, s7, h_v6, h⟩ := bnd_s h
          refine callV_i (rest := []) C0 hml hE (Pool_rec C0 hE) (c_Pool_make l D g hR i_p2 i_p3 i_p4 h_v6) kw_X0_76 (by simp only [rmk, RD]; omega) rfl hl.1 rfl (Nat.le_of_ble_eq_true rfl) dX0_sifted_63 ⟨Nat.zero_le _, Nat.zero_le _⟩ (fun H locs hE ⟨i_v6, hR⟩ => ?_)
          exact ret_i (wf := wE g) C0 hr hlk hE h i_v6 hR dX0_sifted_66
        refine x_if_le C0 i_p5 dX0_sifted_42 (tgt := 59) (by decide) (fun c9 => ?_) (fun c9 => ?_)
        · have h := ite_f c9 h
          exact h_k5 _ _ _ hE (lv_sub hl [1, 2, 3, 4] rfl) h
        · have h := ite_t c9 h
          refine lv_iload_n C0.1 C0.2.1 dX0_sifted_45 rfl (lv_at hl 3 rfl) ?_
          refine x_if_eq C0 i_p3 dX0_sifted_46 (tgt := 59) (by decide) (fun c9 => ?_) (fun c9 => ?_)
          · have h := ite_t c9 h
            exact h_k5 _ _ _ hE (lv_sub hl [1, 2, 3, 4] rfl) h
          · have h := ite_f c9 h
            refine lv_iload C0.1 C0.2.1 dX0_sifted_49 (lv_at hl 6 rfl) ?_
            obtain ⟨k8, e_k8, h⟩ := jn_s h
            have h_k8 : ∀ (H : Heap) (locs : List Loc) (ls : Array Slot), EW D (va_A (wE g σ) sz) s.heap (wE g σ) H locs → lv_has ls 8 [(0, .ref (g.2 1)), (1, .int (I p2)), (2, .int (I p3)), (3, .int (I p4)), (4, .int (I p5))] → k8 = some (r, σr) → W p l e (rmk (3 + (d + 1))) s m args below meth c H locs 0 0 (MQ below (QCi D (wE g σr) r (in32 r ∧ R32 σr) (va_A (wE g σ) sz)) args s 0 0 (va_A (wE g σ) sz)) (F0 m 67 ls []) := by
              intro H locs ls hE hl h
              have h := e_k8.symm.trans h
              refine lv_iload_n C0.1 C0.2.1 dX0_sifted_67 rfl (lv_at hl 3 rfl) ?_
              obtain ⟨k9, e_k9, h⟩ := jn_s h
              have h_k9 : ∀ (H : Heap) (locs : List Loc) (ls : Array Slot), EW D (va_A (wE g σ) sz) s.heap (wE g σ) H locs → lv_has ls 8 [(0, .ref (g.2 1)), (1, .int (I p2)), (2, .int (I p3)), (3, .int (I p4)), (4, .int (I p5))] → k9 = some (r, σr) → W p l e (rmk (3 + (d + 1))) s m args below meth c H locs 0 0 (MQ below (QCi D (wE g σr) r (in32 r ∧ R32 σr) (va_A (wE g σ) sz)) args s 0 0 (va_A (wE g σ) sz)) (F0 m 84 ls []) := by
                intro H locs ls hE hl h
                have h := e_k9.symm.trans h
                refine lv_aload_n C0.1 C0.2.1 dX0_sifted_84 rfl (lv_at hl 0 rfl) ?_
                refine lv_iload_n C0.1 C0.2.1 dX0_sifted_85 rfl (lv_at hl 1 rfl) ?_
                refine lv_aload_n C0.1 C0.2.1 dX0_sifted_86 rfl (lv_at hl 0 rfl) ?_
                refine lv_iload_n C0.1 C0.2.1 dX0_sifted_87 rfl (lv_at hl 2 rfl) ?_
                obtain ⟨v10, h_v10, h⟩ := bndp_s h
                refine callV_i (rest := [.int (I p2), .ref (g.2 1)]) C0 hml hE (Pool_rec C0 hE) (c_Pool_leftOf l D g hR i_p3 h_v10) kw_X0_57 (by simp only [rmk, RD]; omega) rfl hl.1 rfl (Nat.le_of_ble_eq_true rfl) dX0_sifted_88 ⟨Nat.zero_le _, Nat.zero_le _⟩ (fun H locs hE i_v10 => ?_)
                refine lv_aload_n C0.1 C0.2.1 dX0_sifted_91 rfl (lv_at hl 0 rfl) ?_
                refine lv_iload_n C0.1 C0.2.1 dX0_sifted_92 rfl (lv_at hl 2 rfl) ?_
                obtain ⟨v11, h_v11, h⟩ := bndp_s h
                refine callV_i (rest := [.int (I v10), .int (I p2), .ref (g.2 1)]) C0 hml hE (Pool_rec C0 hE) (c_Pool_rightOf l D g hR i_p3 h_v11) kw_X0_61 (by simp only [rmk, RD]; omega) rfl hl.1 rfl (Nat.le_of_ble_eq_true rfl) dX0_sifted_93 ⟨Nat.zero_le _, Nat.zero_le _⟩ (fun H locs hE i_v11 => ?_)
                refine lv_iload C0.1 C0.2.1 dX0_sifted_96 (lv_at hl 4 rfl) ?_
                refine lv_iconst (v := I 1) C0.1 C0.2.1 dX0_sifted_98 rfl ?_
                obtain ⟨v12, e_v12, i_v12, h⟩ := osub_s h
                refine x_sub C0 e_v12 dX0_sifted_99 ?_
                obtain ⟨v13, s14, h_v13, h⟩ := bnd_s h
                refine callS_i (rest := []) C0 hml hE (ih hR i_p2 i_v10 i_v11 i_v12 h_v13) kw_X0_132 (by simp only [rmk, RD]; omega) rfl hl.1 rfl (Nat.le_of_ble_eq_true rfl) dX0_sifted_100 ⟨Nat.zero_le _, Nat.zero_le _⟩ (fun H locs hE ⟨i_v13, hR⟩ => ?_)
                refine lv_istore (lv' := [(7, .int (I v13)), (0, .ref (g.2 1)), (1, .int (I p2)), (2, .int (I p3)), (3, .int (I p4)), (4, .int (I p5))]) C0.1 C0.2.1 dX0_sifted_103 hl (by decide) rfl (fun ls hl => ?_)
                refine lv_aload_n C0.1 C0.2.1 dX0_sifted_105 rfl (lv_at hl 1 rfl) ?_
                refine lv_aload_n C0.1 C0.2.1 dX0_sifted_106 rfl (lv_at hl 1 rfl) ?_
                refine lv_iload_n C0.1 C0.2.1 dX0_sifted_107 rfl (lv_at hl 3 rfl) ?_
                obtain ⟨v15, h_v15, h⟩ := bndp_s h
                refine callV_i (rest := [.ref (g.2 1)]) C0 hml hE (Pool_rec C0 hE) (c_Pool_numberOf l D g hR i_p3 h_v15) kw_X0_64 (by simp only [rmk, RD]; omega) rfl hl.1 rfl (Nat.le_of_ble_eq_true rfl) dX0_sifted_108 ⟨Nat.zero_le _, Nat.zero_le _⟩ (fun H locs hE i_v15 => ?_)
                refine lv_iload C0.1 C0.2.1 dX0_sifted_111 (lv_at hl 0 rfl) ?_
                refine lv_iload_n C0.1 C0.2.1 dX0_sifted_113 rfl (lv_at hl 4 rfl) ?_
                obtain ⟨v16, s17, h_v16, h⟩ := bnd_s h
                refine callV_i (rest := []) C0 hml hE (Pool_rec C0 hE) (c_Pool_make l D g hR i_v15 i_v13 i_p4 h_v16) kw_X0_76 (by simp only [rmk, RD]; omega) rfl hl.1 rfl (Nat.le_of_ble_eq_true rfl) dX0_sifted_114 ⟨Nat.zero_le _, Nat.zero_le _⟩ (fun H locs hE ⟨i_v16, hR⟩ => ?_)
                exact ret_i (wf := wE g) C0 hr hlk hE h i_v16 hR dX0_sifted_117
              refine x_if_eq C0 i_p4 dX0_sifted_68 (tgt := 84) (by decide) (fun c9 => ?_) (fun c9 => ?_)
              · have h := ite_t c9 h
                exact h_k9 _ _ _ hE (lv_sub hl [0, 1, 2, 3, 4] rfl) h
              · have h := ite_f c9 h
                refine lv_aload_n C0.1 C0.2.1 dX0_sifted_71 rfl (lv_at hl 0 rfl) ?_
                refine lv_iload_n C0.1 C0.2.1 dX0_sifted_72 rfl (lv_at hl 2 rfl) ?_
                obtain ⟨v18, h_v18, h⟩ := bndp_s h
                refine callV_i (rest := []) C0 hml hE (Pool_rec C0 hE) (c_Pool_numberOf l D g hR i_p3 h_v18) kw_X0_64 (by simp only [rmk, RD]; omega) rfl hl.1 rfl (Nat.le_of_ble_eq_true rfl) dX0_sifted_73 ⟨Nat.zero_le _, Nat.zero_le _⟩ (fun H locs hE i_v18 => ?_)
                refine lv_aload_n C0.1 C0.2.1 dX0_sifted_76 rfl (lv_at hl 0 rfl) ?_
                refine lv_iload_n C0.1 C0.2.1 dX0_sifted_77 rfl (lv_at hl 3 rfl) ?_
                obtain ⟨v19, h_v19, h⟩ := bndp_s h
                refine callV_i (rest := [.int (I v18)]) C0 hml hE (Pool_rec C0 hE) (c_Pool_numberOf l D g hR i_p4 h_v19) kw_X0_64 (by simp only [rmk, RD]; omega) rfl hl.1 rfl (Nat.le_of_ble_eq_true rfl) dX0_sifted_78 ⟨Nat.zero_le _, Nat.zero_le _⟩ (fun H locs hE i_v19 => ?_)
                refine x_icmp_gt C0 i_v18 i_v19 dX0_sifted_81 (tgt := 118) (by decide) (fun c9 => ?_) (fun c9 => ?_)
                · have h := ite_t c9 h
                  refine lv_aload_n C0.1 C0.2.1 dX0_sifted_118 rfl (lv_at hl 0 rfl) ?_
                  refine lv_iload_n C0.1 C0.2.1 dX0_sifted_119 rfl (lv_at hl 1 rfl) ?_
                  refine lv_aload_n C0.1 C0.2.1 dX0_sifted_120 rfl (lv_at hl 0 rfl) ?_
                  refine lv_iload_n C0.1 C0.2.1 dX0_sifted_121 rfl (lv_at hl 3 rfl) ?_
                  obtain ⟨v20, h_v20, h⟩ := bndp_s h
                  refine callV_i (rest := [.int (I p2), .ref (g.2 1)]) C0 hml hE (Pool_rec C0 hE) (c_Pool_leftOf l D g hR i_p4 h_v20) kw_X0_57 (by simp only [rmk, RD]; omega) rfl hl.1 rfl (Nat.le_of_ble_eq_true rfl) dX0_sifted_122 ⟨Nat.zero_le _, Nat.zero_le _⟩ (fun H locs hE i_v20 => ?_)
                  refine lv_aload_n C0.1 C0.2.1 dX0_sifted_125 rfl (lv_at hl 0 rfl) ?_
                  refine lv_iload_n C0.1 C0.2.1 dX0_sifted_126 rfl (lv_at hl 3 rfl) ?_
                  obtain ⟨v21, h_v21, h⟩ := bndp_s h
                  refine callV_i (rest := [.int (I v20), .int (I p2), .ref (g.2 1)]) C0 hml hE (Pool_rec C0 hE) (c_Pool_rightOf l D g hR i_p4 h_v21) kw_X0_61 (by simp only [rmk, RD]; omega) rfl hl.1 rfl (Nat.le_of_ble_eq_true rfl) dX0_sifted_127 ⟨Nat.zero_le _, Nat.zero_le _⟩ (fun H locs hE i_v21 => ?_)
                  refine lv_iload C0.1 C0.2.1 dX0_sifted_130 (lv_at hl 4 rfl) ?_
                  refine lv_iconst (v := I 1) C0.1 C0.2.1 dX0_sifted_132 rfl ?_
                  obtain ⟨v22, e_v22, i_v22, h⟩ := osub_s h
                  refine x_sub C0 e_v22 dX0_sifted_133 ?_
                  obtain ⟨v23, s24, h_v23, h⟩ := bnd_s h
                  refine callS_i (rest := []) C0 hml hE (ih hR i_p2 i_v20 i_v21 i_v22 h_v23) kw_X0_132 (by simp only [rmk, RD]; omega) rfl hl.1 rfl (Nat.le_of_ble_eq_true rfl) dX0_sifted_134 ⟨Nat.zero_le _, Nat.zero_le _⟩ (fun H locs hE ⟨i_v23, hR⟩ => ?_)
                  refine lv_istore (lv' := [(7, .int (I v23)), (0, .ref (g.2 1)), (1, .int (I p2)), (2, .int (I p3)), (3, .int (I p4)), (4, .int (I p5))]) C0.1 C0.2.1 dX0_sifted_137 hl (by decide) rfl (fun ls hl => ?_)
                  refine lv_aload_n C0.1 C0.2.1 dX0_sifted_139 rfl (lv_at hl 1 rfl) ?_
                  refine lv_aload_n C0.1 C0.2.1 dX0_sifted_140 rfl (lv_at hl 1 rfl) ?_
                  refine lv_iload_n C0.1 C0.2.1 dX0_sifted_141 rfl (lv_at hl 4 rfl) ?_
                  obtain ⟨v25, h_v25, h⟩ := bndp_s h
                  refine callV_i (rest := [.ref (g.2 1)]) C0 hml hE (Pool_rec C0 hE) (c_Pool_numberOf l D g hR i_p4 h_v25) kw_X0_64 (by simp only [rmk, RD]; omega) rfl hl.1 rfl (Nat.le_of_ble_eq_true rfl) dX0_sifted_142 ⟨Nat.zero_le _, Nat.zero_le _⟩ (fun H locs hE i_v25 => ?_)
                  refine lv_iload_n C0.1 C0.2.1 dX0_sifted_145 rfl (lv_at hl 3 rfl) ?_
                  refine lv_iload C0.1 C0.2.1 dX0_sifted_146 (lv_at hl 0 rfl) ?_
                  obtain ⟨v26, s27, h_v26, h⟩ := bnd_s h
                  refine callV_i (rest := []) C0 hml hE (Pool_rec C0 hE) (c_Pool_make l D g hR i_v25 i_p3 i_v23 h_v26) kw_X0_76 (by simp only [rmk, RD]; omega) rfl hl.1 rfl (Nat.le_of_ble_eq_true rfl) dX0_sifted_148 ⟨Nat.zero_le _, Nat.zero_le _⟩ (fun H locs hE ⟨i_v26, hR⟩ => ?_)
                  exact ret_i (wf := wE g) C0 hr hlk hE h i_v26 hR dX0_sifted_151
                · have h := ite_f c9 h
                  exact h_k9 _ _ _ hE (lv_sub hl [0, 1, 2, 3, 4] rfl) h
            refine x_if_eq C0 i_x1 dX0_sifted_51 (tgt := 67) (by decide) (fun c9 => ?_) (fun c9 => ?_)
            · have h := ite_t c9 h
              exact h_k8 _ _ _ hE (lv_sub hl [1, 2, 3, 4, 5] rfl) h
            · have h := ite_f c9 h
              refine lv_iload C0.1 C0.2.1 dX0_sifted_54 (lv_at hl 0 rfl) ?_
              refine x_if_eq C0 i_x3 dX0_sifted_56 (tgt := 67) (by decide) (fun c9 => ?_) (fun c9 => ?_)
              · have h := ite_t c9 h
                exact h_k8 _ _ _ hE (lv_sub hl [1, 2, 3, 4, 5] rfl) h
              · have h := ite_f c9 h
                exact h_k5 _ _ _ hE (lv_sub hl [1, 2, 3, 4] rfl) h
      obtain ⟨k28, e_k28, h⟩ := jn_s h
      have h_k28 : ∀ (H : Heap) (locs : List Loc) (ls : Array Slot), EW D (va_A (wE g σ) sz) s.heap (wE g σ) H locs → lv_has ls 8 [(0, .ref (g.2 1)), (1, .int (I p2)), (2, .int (I p3)), (3, .int (I p4)), (4, .int (I p5)), (5, .int (I x1))] → k28 = some (r, σr) → W p l e (rmk (3 + (d + 1))) s m args below meth c H locs 0 0 (MQ below (QCi D (wE g σr) r (in32 r ∧ R32 σr) (va_A (wE g σ) sz)) args s 0 0 (va_A (wE g σ) sz)) (F0 m 33 ls []) := by
        intro H locs ls hE hl h
        have h := e_k28.symm.trans h
        refine lv_iconst (v := I 1) C0.1 C0.2.1 dX0_sifted_33 rfl ?_
        refine x_goto C0 dX0_sifted_34 (tgt := 38) (by decide) ?_
        exact h_k4 1 lit_1 _ _ _ hE (lv_sub hl [0, 1, 2, 3, 4, 5] rfl) h
      refine x_if_eq C0 i_p4 dX0_sifted_21 (tgt := 33) (by decide) (fun c9 => ?_) (fun c9 => ?_)
      · have h := ite_t c9 h
        exact h_k28 _ _ _ hE (lv_sub hl [1, 2, 3, 4, 5, 0] rfl) h
      · have h := ite_f c9 h
        refine lv_iload_n C0.1 C0.2.1 dX0_sifted_24 rfl (lv_at hl 2 rfl) ?_
        refine lv_aload_n C0.1 C0.2.1 dX0_sifted_25 rfl (lv_at hl 1 rfl) ?_
        refine lv_iload_n C0.1 C0.2.1 dX0_sifted_26 rfl (lv_at hl 4 rfl) ?_
        obtain ⟨v29, h_v29, h⟩ := bndp_s h
        refine callV_i (rest := [.int (I p2)]) C0 hml hE (Pool_rec C0 hE) (c_Pool_numberOf l D g hR i_p4 h_v29) kw_X0_64 (by simp only [rmk, RD]; omega) rfl hl.1 rfl (Nat.le_of_ble_eq_true rfl) dX0_sifted_27 ⟨Nat.zero_le _, Nat.zero_le _⟩ (fun H locs hE i_v29 => ?_)
        refine x_icmp_gt C0 i_p2 i_v29 dX0_sifted_30 (tgt := 37) (by decide) (fun c9 => ?_) (fun c9 => ?_)
        · have h := ite_t c9 h
          refine lv_iconst (v := I 0) C0.1 C0.2.1 dX0_sifted_37 rfl ?_
          exact h_k4 0 lit_0 _ _ _ hE (lv_sub hl [1, 2, 3, 4, 5, 0] rfl) h
        · have h := ite_f c9 h
          exact h_k28 _ _ _ hE (lv_sub hl [1, 2, 3, 4, 5, 0] rfl) h
    obtain ⟨k30, e_k30, h⟩ := jn_s h
    have h_k30 : ∀ (H : Heap) (locs : List Loc) (ls : Array Slot), EW D (va_A (wE g σ) sz) s.heap (wE g σ) H locs → lv_has ls 8 [(0, .ref (g.2 1)), (1, .int (I p2)), (2, .int (I p3)), (3, .int (I p4)), (4, .int (I p5))] → k30 = some (r, σr) → W p l e (rmk (3 + (d + 1))) s m args below meth c H locs 0 0 (MQ below (QCi D (wE g σr) r (in32 r ∧ R32 σr) (va_A (wE g σ) sz)) args s 0 0 (va_A (wE g σ) sz)) (F0 m 13 ls []) := by
      intro H locs ls hE hl h
      have h := e_k30.symm.trans h
      refine lv_iconst (v := I 1) C0.1 C0.2.1 dX0_sifted_13 rfl ?_
      refine x_goto C0 dX0_sifted_14 (tgt := 18) (by decide) ?_
      exact h_k2 1 lit_1 _ _ _ hE (lv_sub hl [0, 1, 2, 3, 4] rfl) h
    refine x_if_eq C0 i_p3 dX0_sifted_1 (tgt := 13) (by decide) (fun c9 => ?_) (fun c9 => ?_)
    · have h := ite_t c9 h
      exact h_k30 _ _ _ hE (lv_sub hl [0, 1, 2, 3, 4] rfl) h
    · have h := ite_f c9 h
      refine lv_iload_n C0.1 C0.2.1 dX0_sifted_4 rfl (lv_at hl 1 rfl) ?_
      refine lv_aload_n C0.1 C0.2.1 dX0_sifted_5 rfl (lv_at hl 0 rfl) ?_
      refine lv_iload_n C0.1 C0.2.1 dX0_sifted_6 rfl (lv_at hl 2 rfl) ?_
      obtain ⟨v31, h_v31, h⟩ := bndp_s h
      refine callV_i (rest := [.int (I p2)]) C0 hml hE (Pool_rec C0 hE) (c_Pool_numberOf l D g hR i_p3 h_v31) kw_X0_64 (by simp only [rmk, RD]; omega) rfl hl.1 rfl (Nat.le_of_ble_eq_true rfl) dX0_sifted_7 ⟨Nat.zero_le _, Nat.zero_le _⟩ (fun H locs hE i_v31 => ?_)
      refine x_icmp_gt C0 i_p2 i_v31 dX0_sifted_10 (tgt := 17) (by decide) (fun c9 => ?_) (fun c9 => ?_)
      · have h := ite_t c9 h
        refine lv_iconst (v := I 0) C0.1 C0.2.1 dX0_sifted_17 rfl ?_
        exact h_k2 0 lit_0 _ _ _ hE (lv_sub hl [0, 1, 2, 3, 4] rfl) h
      · have h := ite_f c9 h
        exact h_k30 _ _ _ hE (lv_sub hl [0, 1, 2, 3, 4] rfl) h
set_option maxRecDepth 100000 in
set_option maxHeartbeats 4000000 in
theorem c_Pool_popped (l : Launch) (D : va_G) (g : Ad) {σ σr : St} {p1 p2 r : Int} (hR : R32 σ) (i_p1 : in32 p1) (i_p2 : in32 p2) (h : Pool_popped σ p1 p2 = some (r, σr)) : CtI l D g yX0_popped cX0_popped 6 (some .int) 16 (wE g σ) (wE g σr) [.ref (g.2 1), .int (I p1), .int (I p2)] r (in32 r ∧ R32 σr) := by
  intro sz
  refine met_of (by decide) (Nat.le_of_ble_eq_true rfl) (fun p e s m args below meth c ls H locs C0 hml hr hlk hE hl => ?_)
  have C0 : CX p c cX0_popped m s args D g RX0 := C0
  have hl : lv_has ls 6 [(0, .ref (g.2 1)), (1, .int (I p1)), (2, .int (I p2))] := hl
  unfold Pool_popped at h
  refine lv_iload_n C0.1 C0.2.1 dX0_popped_0 rfl (lv_at hl 2 rfl) ?_
  refine lv_iconst (v := I 1) C0.1 C0.2.1 dX0_popped_1 rfl ?_
  refine x_icmp_gt C0 i_p2 lit_1 dX0_popped_2 (tgt := 7) (by decide) (fun c9 => ?_) (fun c9 => ?_)
  · have h := ite_t c9 h
    refine lv_aload_n C0.1 C0.2.1 dX0_popped_7 rfl (lv_at hl 0 rfl) ?_
    refine lv_iload_n C0.1 C0.2.1 dX0_popped_8 rfl (lv_at hl 1 rfl) ?_
    obtain ⟨v1, h_v1, h⟩ := bndp_s h
    refine callV_i (rest := []) C0 hml hE (Pool_rec C0 hE) (c_Pool_leftOf l D g hR i_p1 h_v1) kw_X0_57 ⟨Nat.le_of_ble_eq_true rfl, Nat.le_of_ble_eq_true rfl⟩ rfl hl.1 rfl (Nat.le_of_ble_eq_true rfl) dX0_popped_9 ⟨Nat.zero_le _, Nat.zero_le _⟩ (fun H locs hE i_v1 => ?_)
    refine lv_istore_n (lv' := [(3, .int (I v1)), (0, .ref (g.2 1)), (1, .int (I p1)), (2, .int (I p2))]) C0.1 C0.2.1 dX0_popped_12 rfl hl (by decide) rfl (fun ls hl => ?_)
    refine lv_aload_n C0.1 C0.2.1 dX0_popped_13 rfl (lv_at hl 1 rfl) ?_
    refine lv_iload_n C0.1 C0.2.1 dX0_popped_14 rfl (lv_at hl 0 rfl) ?_
    obtain ⟨v2, h_v2, h⟩ := bndp_s h
    refine callV_i (rest := []) C0 hml hE (Pool_rec C0 hE) (c_Pool_farLeft l D g hR i_v1 h_v2) kw_X0_123 ⟨Nat.le_of_ble_eq_true rfl, Nat.le_of_ble_eq_true rfl⟩ rfl hl.1 rfl (Nat.le_of_ble_eq_true rfl) dX0_popped_15 ⟨Nat.zero_le _, Nat.zero_le _⟩ (fun H locs hE i_v2 => ?_)
    refine lv_istore (lv' := [(4, .int (I v2)), (3, .int (I v1)), (0, .ref (g.2 1)), (1, .int (I p1)), (2, .int (I p2))]) C0.1 C0.2.1 dX0_popped_18 hl (by decide) rfl (fun ls hl => ?_)
    refine lv_aload_n C0.1 C0.2.1 dX0_popped_20 rfl (lv_at hl 2 rfl) ?_
    refine lv_iload_n C0.1 C0.2.1 dX0_popped_21 rfl (lv_at hl 1 rfl) ?_
    refine lv_iload_n C0.1 C0.2.1 dX0_popped_22 rfl (lv_at hl 4 rfl) ?_
    obtain ⟨v3, h_v3, h⟩ := bndp_s h
    refine callS_i (rest := [.int (I v1), .ref (g.2 1)]) C0 hml hE (c_Shape_leftSize l D g (σ := σ) i_p2 h_v3) kw_X0_126 ⟨Nat.le_of_ble_eq_true rfl, Nat.le_of_ble_eq_true rfl⟩ rfl hl.1 rfl (Nat.le_of_ble_eq_true rfl) dX0_popped_23 ⟨Nat.zero_le _, Nat.zero_le _⟩ (fun H locs hE i_v3 => ?_)
    obtain ⟨v4, s5, h_v4, h⟩ := bnd_s h
    refine callS_i (rest := []) C0 hml hE (c_Pool_farLeftGone l D g RD hR i_v1 i_v3 h_v4) kw_X0_129 ⟨Nat.le_of_ble_eq_true rfl, Nat.le_of_ble_eq_true rfl⟩ rfl hl.1 rfl (Nat.le_of_ble_eq_true rfl) dX0_popped_26 ⟨Nat.zero_le _, Nat.zero_le _⟩ (fun H locs hE ⟨i_v4, hR⟩ => ?_)
    refine lv_istore (lv' := [(5, .int (I v4)), (4, .int (I v2)), (3, .int (I v1)), (0, .ref (g.2 1)), (1, .int (I p1)), (2, .int (I p2))]) C0.1 C0.2.1 dX0_popped_29 hl (by decide) rfl (fun ls hl => ?_)
    refine lv_aload_n C0.1 C0.2.1 dX0_popped_31 rfl (lv_at hl 3 rfl) ?_
    refine lv_iload C0.1 C0.2.1 dX0_popped_32 (lv_at hl 1 rfl) ?_
    refine lv_aload_n C0.1 C0.2.1 dX0_popped_34 rfl (lv_at hl 3 rfl) ?_
    refine lv_iload_n C0.1 C0.2.1 dX0_popped_35 rfl (lv_at hl 4 rfl) ?_
    obtain ⟨v6, h_v6, h⟩ := bndp_s h
    refine callV_i (rest := [.int (I v2), .ref (g.2 1)]) C0 hml hE (Pool_rec C0 hE) (c_Pool_rightOf l D g hR i_p1 h_v6) kw_X0_61 ⟨Nat.le_of_ble_eq_true rfl, Nat.le_of_ble_eq_true rfl⟩ rfl hl.1 rfl (Nat.le_of_ble_eq_true rfl) dX0_popped_36 ⟨Nat.zero_le _, Nat.zero_le _⟩ (fun H locs hE i_v6 => ?_)
    refine lv_iload C0.1 C0.2.1 dX0_popped_39 (lv_at hl 0 rfl) ?_
    refine lv_bipush (v := I 8) C0.1 C0.2.1 dX0_popped_41 (by decide +kernel) ?_
    obtain ⟨v7, s8, h_v7, h⟩ := bnd_s h
    refine callS_i (rest := []) C0 hml hE (c_Pool_sifted l D g RD hR i_v2 i_v6 i_v4 lit_8 h_v7) kw_X0_132 ⟨Nat.le_of_ble_eq_true rfl, Nat.le_of_ble_eq_true rfl⟩ rfl hl.1 rfl (Nat.le_of_ble_eq_true rfl) dX0_popped_43 ⟨Nat.zero_le _, Nat.zero_le _⟩ (fun H locs hE ⟨i_v7, hR⟩ => ?_)
    exact ret_i (wf := wE g) C0 hr hlk hE h i_v7 hR dX0_popped_46
  · have h := ite_f c9 h
    refine lv_iconst (v := I 0) C0.1 C0.2.1 dX0_popped_5 rfl ?_
    exact ret_i (wf := wE g) C0 hr hlk hE h lit_0 hR dX0_popped_6
set_option maxRecDepth 100000 in
set_option maxHeartbeats 4000000 in
theorem c_E_pop (l : Launch) (D : va_G) (g : Ad) {σ σr : St} {p1 p2 r : Int} (hR : R32 σ) (i_p1 : in32 p1) (i_p2 : in32 p2) (h : E_pop σ p1 p2 = some (r, σr)) : CtI l D g yX7_pop cX7_pop 5 (some .int) 17 (wE g σ) (wE g σr) [.ref (g.2 0), .int (I p1), .int (I p2)] r (in32 r ∧ R32 σr) := by
  intro sz
  refine met_of (by decide) (Nat.le_of_ble_eq_true rfl) (fun p e s m args below meth c ls H locs C0 hml hr hlk hE hl => ?_)
  have C0 : CX p c cX7_pop m s args D g RX7 := C0
  have hl : lv_has ls 5 [(0, .ref (g.2 0)), (1, .int (I p1)), (2, .int (I p2))] := hl
  unfold E_pop at h
  refine lv_iload_n C0.1 C0.2.1 dX7_pop_0 rfl (lv_at hl 1 rfl) ?_
  obtain ⟨v1, h_v1, h⟩ := bndp_s h
  refine callS_i (rest := []) C0 hml hE (c_E_isPlace l D g (σ := σ) i_p1 h_v1) kw_X7_86 ⟨Nat.le_of_ble_eq_true rfl, Nat.le_of_ble_eq_true rfl⟩ rfl hl.1 rfl (Nat.le_of_ble_eq_true rfl) dX7_pop_1 ⟨Nat.zero_le _, Nat.zero_le _⟩ (fun H locs hE i_v1 => ?_)
  refine x_if_eq C0 i_v1 dX7_pop_4 (tgt := 14) (by decide) (fun c9 => ?_) (fun c9 => ?_)
  · have h := ite_t c9 h
    refine lv_iconst (v := I (-1)) C0.1 C0.2.1 dX7_pop_14 rfl ?_
    exact ret_i (wf := wE g) C0 hr hlk hE h lit_m1 hR dX7_pop_15
  · have h := ite_f c9 h
    refine lv_iload_n C0.1 C0.2.1 dX7_pop_7 rfl (lv_at hl 2 rfl) ?_
    obtain ⟨v2, h_v2, h⟩ := bndp_s h
    refine callS_i (rest := []) C0 hml hE (c_E_isPlace l D g (σ := σ) i_p2 h_v2) kw_X7_86 ⟨Nat.le_of_ble_eq_true rfl, Nat.le_of_ble_eq_true rfl⟩ rfl hl.1 rfl (Nat.le_of_ble_eq_true rfl) dX7_pop_8 ⟨Nat.zero_le _, Nat.zero_le _⟩ (fun H locs hE i_v2 => ?_)
    refine x_if_ne C0 i_v2 dX7_pop_11 (tgt := 16) (by decide) (fun c9 => ?_) (fun c9 => ?_)
    · have h := ite_f c9 h
      refine lv_aload_n C0.1 C0.2.1 dX7_pop_16 rfl (lv_at hl 0 rfl) ?_
      refine E_g_sizes C0 hE fk_X7_53 dX7_pop_17 ?_
      refine lv_iload_n C0.1 C0.2.1 dX7_pop_20 rfl (lv_at hl 1 rfl) ?_
      obtain ⟨v3, e_v3, i_v3, h⟩ := rd_s hR h
      refine E_sizes_l C0 hE i_p1 e_v3 dX7_pop_21 ?_
      refine lv_istore_n (lv' := [(3, .int (I v3)), (0, .ref (g.2 0)), (1, .int (I p1)), (2, .int (I p2))]) C0.1 C0.2.1 dX7_pop_22 rfl hl (by decide) rfl (fun ls hl => ?_)
      refine lv_iload_n C0.1 C0.2.1 dX7_pop_23 rfl (lv_at hl 0 rfl) ?_
      refine x_if_ne C0 i_v3 dX7_pop_24 (tgt := 30) (by decide) (fun c9 => ?_) (fun c9 => ?_)
      · have h := ite_f c9 h
        refine lv_aload_n C0.1 C0.2.1 dX7_pop_30 rfl (lv_at hl 1 rfl) ?_
        refine E_g_told C0 hE fk_X7_19 dX7_pop_31 ?_
        refine lv_aload_n C0.1 C0.2.1 dX7_pop_34 rfl (lv_at hl 1 rfl) ?_
        refine E_g_pool C0 hE fk_X7_10 dX7_pop_35 ?_
        refine lv_aload_n C0.1 C0.2.1 dX7_pop_38 rfl (lv_at hl 1 rfl) ?_
        refine E_g_trees C0 hE fk_X7_49 dX7_pop_39 ?_
        refine lv_iload_n C0.1 C0.2.1 dX7_pop_42 rfl (lv_at hl 2 rfl) ?_
        obtain ⟨v4, e_v4, i_v4, h⟩ := rd_s hR h
        refine E_trees_l C0 hE i_p1 e_v4 dX7_pop_43 ?_
        obtain ⟨v5, h_v5, h⟩ := bndp_s h
        refine callV_i (rest := [.ref (g.2 2)]) C0 hml hE (Pool_rec C0 hE) (c_Pool_numberOf l D g hR i_v4 h_v5) kw_X7_216 ⟨Nat.le_of_ble_eq_true rfl, Nat.le_of_ble_eq_true rfl⟩ rfl hl.1 rfl (Nat.le_of_ble_eq_true rfl) dX7_pop_44 ⟨Nat.zero_le _, Nat.zero_le _⟩ (fun H locs hE i_v5 => ?_)
        refine x_i2l C0 i_v5 dX7_pop_47 ?_
        obtain ⟨v6, s7, h_v6, h⟩ := bnd_s h
        refine callV_v (rest := []) C0 hml hE (Row_rec C0 hE) (c_Row_tell l D g hR (in64_of i_v5) h_v6) kw_X7_171 ⟨Nat.le_of_ble_eq_true rfl, Nat.le_of_ble_eq_true rfl⟩ rfl hl.1 rfl (Nat.le_of_ble_eq_true rfl) dX7_pop_48 ⟨Nat.zero_le _, Nat.zero_le _⟩ (fun H locs hE hR => ?_)
        refine lv_aload_n C0.1 C0.2.1 dX7_pop_51 rfl (lv_at hl 1 rfl) ?_
        obtain ⟨v8, s9, h_v8, h⟩ := bnd_s h
        refine callV_i (rest := []) C0 hml hE (E_rec C0 hE) (c_E_begin l D g hR h_v8) kw_X7_120 ⟨Nat.le_of_ble_eq_true rfl, Nat.le_of_ble_eq_true rfl⟩ rfl hl.1 rfl (Nat.le_of_ble_eq_true rfl) dX7_pop_52 ⟨Nat.zero_le _, Nat.zero_le _⟩ (fun H locs hE ⟨i_v8, hR⟩ => ?_)
        refine lv_istore (lv' := [(4, .int (I v8)), (3, .int (I v3)), (0, .ref (g.2 0)), (1, .int (I p1)), (2, .int (I p2))]) C0.1 C0.2.1 dX7_pop_55 hl (by decide) rfl (fun ls hl => ?_)
        refine lv_aload_n C0.1 C0.2.1 dX7_pop_57 rfl (lv_at hl 2 rfl) ?_
        refine lv_iload_n C0.1 C0.2.1 dX7_pop_58 rfl (lv_at hl 4 rfl) ?_
        refine lv_aload_n C0.1 C0.2.1 dX7_pop_59 rfl (lv_at hl 2 rfl) ?_
        refine E_g_pool C0 hE fk_X7_10 dX7_pop_60 ?_
        refine lv_aload_n C0.1 C0.2.1 dX7_pop_63 rfl (lv_at hl 2 rfl) ?_
        refine E_g_trees C0 hE fk_X7_49 dX7_pop_64 ?_
        refine lv_iload_n C0.1 C0.2.1 dX7_pop_67 rfl (lv_at hl 3 rfl) ?_
        obtain ⟨v10, e_v10, i_v10, h⟩ := rd_s hR h
        refine E_trees_l C0 hE i_p1 e_v10 dX7_pop_68 ?_
        refine lv_iload_n C0.1 C0.2.1 dX7_pop_69 rfl (lv_at hl 1 rfl) ?_
        obtain ⟨v11, s12, h_v11, h⟩ := bnd_s h
        refine callV_i (rest := [.int (I p2), .ref (g.2 0)]) C0 hml hE (Pool_rec C0 hE) (c_Pool_popped l D g hR i_v10 i_v3 h_v11) kw_X7_245 ⟨Nat.le_of_ble_eq_true rfl, Nat.le_of_ble_eq_true rfl⟩ rfl hl.1 rfl (Nat.le_of_ble_eq_true rfl) dX7_pop_70 ⟨Nat.zero_le _, Nat.zero_le _⟩ (fun H locs hE ⟨i_v11, hR⟩ => ?_)
        refine lv_iload_n C0.1 C0.2.1 dX7_pop_73 rfl (lv_at hl 1 rfl) ?_
        refine lv_iconst (v := I 1) C0.1 C0.2.1 dX7_pop_74 rfl ?_
        obtain ⟨v13, e_v13, i_v13, h⟩ := osub_s h
        refine x_sub C0 e_v13 dX7_pop_75 ?_
        obtain ⟨v14, s15, h_v14, h⟩ := bnd_s h
        refine callV_i (rest := []) C0 hml hE (E_rec C0 hE) (c_E_keep l D g hR i_p2 i_v11 i_v13 h_v14) kw_X7_126 ⟨Nat.le_of_ble_eq_true rfl, Nat.le_of_ble_eq_true rfl⟩ rfl hl.1 rfl (Nat.le_of_ble_eq_true rfl) dX7_pop_76 ⟨Nat.zero_le _, Nat.zero_le _⟩ (fun H locs hE ⟨i_v14, hR⟩ => ?_)
        refine lv_pop C0.1 C0.2.1 dX7_pop_79 rfl ?_
        refine lv_aload_n C0.1 C0.2.1 dX7_pop_80 rfl (lv_at hl 2 rfl) ?_
        refine E_g_pool C0 hE fk_X7_10 dX7_pop_81 ?_
        obtain ⟨v16, e_v16, i_v16, h⟩ := gf_s hR h
        refine Pool_n_made C0 hE e_v16 nk_X7_130 dX7_pop_84 ?_
        refine lv_iload C0.1 C0.2.1 dX7_pop_87 (lv_at hl 0 rfl) ?_
        obtain ⟨v17, e_v17, i_v17, h⟩ := osub_s h
        refine x_sub C0 e_v17 dX7_pop_89 ?_
        exact ret_i (wf := wE g) C0 hr hlk hE h i_v17 hR dX7_pop_90
      · have h := ite_t c9 h
        refine lv_bipush (v := I (-2)) C0.1 C0.2.1 dX7_pop_27 (by decide +kernel) ?_
        exact ret_i (wf := wE g) C0 hr hlk hE h lit_m2 hR dX7_pop_29
    · have h := ite_t c9 h
      refine lv_iconst (v := I (-1)) C0.1 C0.2.1 dX7_pop_14 rfl ?_
      exact ret_i (wf := wE g) C0 hr hlk hE h lit_m1 hR dX7_pop_15
set_option maxRecDepth 100000 in
set_option maxHeartbeats 4000000 in
theorem c_Pool_putAll_one (l : Launch) (D : va_G) (g : Ad) {σ σr : St} {p1 p2 p4 p5 r : Int} (hR : R32 σ) (i_p1 : in32 p1) (i_p2 : in32 p2) (i_p4 : in32 p4) (i_p5 : in32 p5) (h : Pool_putAll_one σ p1 p2 p4 p5 = some (r, σr)) : CtI l D g yX0_putAll cX0_putAll 8 (some .int) 17 (wE g σ) (wE g σr) [.ref (g.2 1), .int (I p1), .int (I p2), .ref (g.2 26), .int (I p4), .int (I p5)] r (in32 r ∧ R32 σr) := by
  intro sz
  refine met_of (by decide) (Nat.le_of_ble_eq_true rfl) (fun p e s m args below meth c ls H locs C0 hml hr hlk hE hl => ?_)
  have C0 : CX p c cX0_putAll m s args D g RX0 := C0
  have hl : lv_has ls 8 [(0, .ref (g.2 1)), (1, .int (I p1)), (2, .int (I p2)), (3, .ref (g.2 26)), (4, .int (I p4)), (5, .int (I p5))] := hl
  unfold Pool_putAll_one at h
  refine lv_iload_n C0.1 C0.2.1 dX0_putAll_0 rfl (lv_at hl 1 rfl) ?_
  refine lv_istore (lv' := [(6, .int (I p1)), (0, .ref (g.2 1)), (1, .int (I p1)), (2, .int (I p2)), (3, .ref (g.2 26)), (4, .int (I p4)), (5, .int (I p5))]) C0.1 C0.2.1 dX0_putAll_1 hl (by decide) rfl (fun ls hl => ?_)
  refine lv_iconst (v := I 0) C0.1 C0.2.1 dX0_putAll_3 rfl ?_
  refine lv_istore (lv' := [(7, .int (I 0)), (6, .int (I p1)), (0, .ref (g.2 1)), (1, .int (I p1)), (2, .int (I p2)), (3, .ref (g.2 26)), (4, .int (I p4)), (5, .int (I p5))]) C0.1 C0.2.1 dX0_putAll_4 hl (by decide) rfl (fun ls hl => ?_)
  have hL6 : ∀ (n : Nat) (s4 : St) (hR : R32 s4) (x1 : Int) (i_x1 : in32 x1) (x2 : Int) (i_x2 : in32 x2) (H : Heap) (locs : List Loc) (ls : Array Slot), EW D (va_A (wE g σ) sz) s.heap (wE g s4) H locs → lv_has ls 8 [(0, .ref (g.2 1)), (2, .int (I p2)), (3, .ref (g.2 26)), (4, .int (I p4)), (5, .int (I p5)), (6, .int (I x1)), (7, .int (I x2))] → Pool_putAll_one_L6 p2 p4 p5 n s4 x1 x2 = some (r, σr) → W p l e (rmk 17) s m args below meth c H locs 0 0 (MQ below (QCi D (wE g σr) r (in32 r ∧ R32 σr) (va_A (wE g σ) sz)) args s 0 0 (va_A (wE g σ) sz)) (F0 m 6 ls []) := by
    intro n
    induction n with
    | zero => intros; rename_i h; cases h
    | succ n ih3 =>
      intro s4 hR x1 i_x1 x2 i_x2 H locs ls hE hl h
      unfold Pool_putAll_one_L6 at h
      refine lv_iload C0.1 C0.2.1 dX0_putAll_6 (lv_at hl 6 rfl) ?_
      refine lv_iload C0.1 C0.2.1 dX0_putAll_8 (lv_at hl 3 rfl) ?_
      refine x_icmp_ge C0 i_x2 i_p4 dX0_putAll_10 (tgt := 37) (by decide) (fun c9 => ?_) (fun c9 => ?_)
      · have h := ite_f c9 h
        refine lv_iload C0.1 C0.2.1 dX0_putAll_37 (lv_at hl 5 rfl) ?_
        exact ret_i (wf := wE g) C0 hr hlk hE h i_x1 hR dX0_putAll_39
      · have h := ite_t c9 h
        refine lv_aload_n C0.1 C0.2.1 dX0_putAll_13 rfl (lv_at hl 0 rfl) ?_
        refine lv_aload_n C0.1 C0.2.1 dX0_putAll_14 rfl (lv_at hl 2 rfl) ?_
        refine lv_iload C0.1 C0.2.1 dX0_putAll_15 (lv_at hl 6 rfl) ?_
        obtain ⟨v5, e_v5, i_v5, h⟩ := rd_s hR h
        refine E_one_l C0 hE i_x2 e_v5 dX0_putAll_17 ?_
        refine lv_iload C0.1 C0.2.1 dX0_putAll_18 (lv_at hl 5 rfl) ?_
        refine lv_iload_n C0.1 C0.2.1 dX0_putAll_20 rfl (lv_at hl 1 rfl) ?_
        refine lv_iload C0.1 C0.2.1 dX0_putAll_21 (lv_at hl 6 rfl) ?_
        obtain ⟨v6, e_v6, i_v6, h⟩ := oadd_s h
        refine x_add C0 e_v6 dX0_putAll_23 ?_
        refine lv_iload C0.1 C0.2.1 dX0_putAll_24 (lv_at hl 4 rfl) ?_
        obtain ⟨v7, s8, h_v7, h⟩ := bnd_s h
        refine callV_i (rest := []) C0 hml hE (Pool_rec C0 hE) (c_Pool_put l D g hR i_v5 i_x1 i_v6 i_p5 h_v7) kw_X0_109 ⟨Nat.le_of_ble_eq_true rfl, Nat.le_of_ble_eq_true rfl⟩ rfl hl.1 rfl (Nat.le_of_ble_eq_true rfl) dX0_putAll_26 ⟨Nat.zero_le _, Nat.zero_le _⟩ (fun H locs hE ⟨i_v7, hR⟩ => ?_)
        refine lv_istore (lv' := [(6, .int (I v7)), (0, .ref (g.2 1)), (2, .int (I p2)), (3, .ref (g.2 26)), (4, .int (I p4)), (5, .int (I p5)), (7, .int (I x2))]) C0.1 C0.2.1 dX0_putAll_29 hl (by decide) rfl (fun ls hl => ?_)
        obtain ⟨v9, e_v9, i_v9, h⟩ := oadd_s h
        refine x_iinc (lv' := [(7, .int (I v9)), (6, .int (I v7)), (0, .ref (g.2 1)), (2, .int (I p2)), (3, .ref (g.2 26)), (4, .int (I p4)), (5, .int (I p5))]) C0 dX0_putAll_31 hl (k := 6) rfl e_v9 (by decide) rfl (fun ls hl => ?_)
        refine x_goto C0 dX0_putAll_34 (tgt := 6) (by decide) ?_
        exact ih3 s8 hR v7 i_v7 v9 i_v9 _ _ _ hE (lv_sub hl [2, 3, 4, 5, 6, 1, 0] rfl) h
  exact hL6 FU σ hR p1 i_p1 0 lit_0 _ _ _ hE (lv_sub hl [2, 4, 5, 6, 7, 1, 0] rfl) h
set_option maxRecDepth 100000 in
set_option maxHeartbeats 4000000 in
theorem c_E_heaps (l : Launch) (D : va_G) (g : Ad) {σ σr : St} {p1 p2 r : Int} (hR : R32 σ) (i_p1 : in32 p1) (i_p2 : in32 p2) (h : E_heaps σ p1 p2 = some (r, σr)) : CtI l D g yX7_heaps cX7_heaps 4 (some .int) 18 (wE g σ) (wE g σr) [.ref (g.2 0), .int (I p1), .int (I p2)] r (in32 r ∧ R32 σr) := by
  intro sz
  refine met_of (by decide) (Nat.le_of_ble_eq_true rfl) (fun p e s m args below meth c ls H locs C0 hml hr hlk hE hl => ?_)
  have C0 : CX p c cX7_heaps m s args D g RX7 := C0
  have hl : lv_has ls 4 [(0, .ref (g.2 0)), (1, .int (I p1)), (2, .int (I p2))] := hl
  unfold E_heaps at h
  refine lv_iload_n C0.1 C0.2.1 dX7_heaps_0 rfl (lv_at hl 1 rfl) ?_
  obtain ⟨v1, h_v1, h⟩ := bndp_s h
  refine callS_i (rest := []) C0 hml hE (c_E_isPlace l D g (σ := σ) i_p1 h_v1) kw_X7_86 ⟨Nat.le_of_ble_eq_true rfl, Nat.le_of_ble_eq_true rfl⟩ rfl hl.1 rfl (Nat.le_of_ble_eq_true rfl) dX7_heaps_1 ⟨Nat.zero_le _, Nat.zero_le _⟩ (fun H locs hE i_v1 => ?_)
  refine x_if_eq C0 i_v1 dX7_heaps_4 (tgt := 14) (by decide) (fun c9 => ?_) (fun c9 => ?_)
  · have h := ite_t c9 h
    refine lv_iconst (v := I (-1)) C0.1 C0.2.1 dX7_heaps_14 rfl ?_
    exact ret_i (wf := wE g) C0 hr hlk hE h lit_m1 hR dX7_heaps_15
  · have h := ite_f c9 h
    refine lv_iload_n C0.1 C0.2.1 dX7_heaps_7 rfl (lv_at hl 2 rfl) ?_
    obtain ⟨v2, h_v2, h⟩ := bndp_s h
    refine callS_i (rest := []) C0 hml hE (c_E_isPlace l D g (σ := σ) i_p2 h_v2) kw_X7_86 ⟨Nat.le_of_ble_eq_true rfl, Nat.le_of_ble_eq_true rfl⟩ rfl hl.1 rfl (Nat.le_of_ble_eq_true rfl) dX7_heaps_8 ⟨Nat.zero_le _, Nat.zero_le _⟩ (fun H locs hE i_v2 => ?_)
    refine x_if_ne C0 i_v2 dX7_heaps_11 (tgt := 16) (by decide) (fun c9 => ?_) (fun c9 => ?_)
    · have h := ite_f c9 h
      refine lv_aload_n C0.1 C0.2.1 dX7_heaps_16 rfl (lv_at hl 0 rfl) ?_
      obtain ⟨v3, s4, h_v3, h⟩ := bnd_s h
      refine callV_i (rest := []) C0 hml hE (E_rec C0 hE) (c_E_begin l D g hR h_v3) kw_X7_120 ⟨Nat.le_of_ble_eq_true rfl, Nat.le_of_ble_eq_true rfl⟩ rfl hl.1 rfl (Nat.le_of_ble_eq_true rfl) dX7_heaps_17 ⟨Nat.zero_le _, Nat.zero_le _⟩ (fun H locs hE ⟨i_v3, hR⟩ => ?_)
      refine lv_istore_n (lv' := [(3, .int (I v3)), (0, .ref (g.2 0)), (1, .int (I p1)), (2, .int (I p2))]) C0.1 C0.2.1 dX7_heaps_20 rfl hl (by decide) rfl (fun ls hl => ?_)
      refine lv_aload_n C0.1 C0.2.1 dX7_heaps_21 rfl (lv_at hl 1 rfl) ?_
      refine E_g_pool C0 hE fk_X7_10 dX7_heaps_22 ?_
      refine lv_aload_n C0.1 C0.2.1 dX7_heaps_25 rfl (lv_at hl 1 rfl) ?_
      refine E_g_trees C0 hE fk_X7_49 dX7_heaps_26 ?_
      refine lv_iload_n C0.1 C0.2.1 dX7_heaps_29 rfl (lv_at hl 2 rfl) ?_
      obtain ⟨v5, e_v5, i_v5, h⟩ := rd_s hR h
      refine E_trees_l C0 hE i_p1 e_v5 dX7_heaps_30 ?_
      refine lv_aload_n C0.1 C0.2.1 dX7_heaps_31 rfl (lv_at hl 1 rfl) ?_
      refine E_g_sizes C0 hE fk_X7_53 dX7_heaps_32 ?_
      refine lv_iload_n C0.1 C0.2.1 dX7_heaps_35 rfl (lv_at hl 2 rfl) ?_
      obtain ⟨v6, e_v6, i_v6, h⟩ := rd_s hR h
      refine E_sizes_l C0 hE i_p1 e_v6 dX7_heaps_36 ?_
      refine lv_aload_n C0.1 C0.2.1 dX7_heaps_37 rfl (lv_at hl 1 rfl) ?_
      refine E_g_one C0 hE fk_X7_56 dX7_heaps_38 ?_
      obtain ⟨v7, s8, h_v7, h⟩ := bnd_s h
      refine callV_v (rest := []) C0 hml hE (Pool_rec C0 hE) (c_Pool_read_one l D g hR i_v5 i_v6 h_v7) kw_X7_201 ⟨Nat.le_of_ble_eq_true rfl, Nat.le_of_ble_eq_true rfl⟩ rfl hl.1 rfl (Nat.le_of_ble_eq_true rfl) dX7_heaps_41 ⟨Nat.zero_le _, Nat.zero_le _⟩ (fun H locs hE hR => ?_)
      refine lv_aload_n C0.1 C0.2.1 dX7_heaps_44 rfl (lv_at hl 1 rfl) ?_
      refine lv_iload_n C0.1 C0.2.1 dX7_heaps_45 rfl (lv_at hl 3 rfl) ?_
      refine lv_aload_n C0.1 C0.2.1 dX7_heaps_46 rfl (lv_at hl 1 rfl) ?_
      refine E_g_pool C0 hE fk_X7_10 dX7_heaps_47 ?_
      refine lv_iconst (v := I 0) C0.1 C0.2.1 dX7_heaps_50 rfl ?_
      refine lv_iconst (v := I 0) C0.1 C0.2.1 dX7_heaps_51 rfl ?_
      refine lv_aload_n C0.1 C0.2.1 dX7_heaps_52 rfl (lv_at hl 1 rfl) ?_
      refine E_g_one C0 hE fk_X7_56 dX7_heaps_53 ?_
      refine lv_aload_n C0.1 C0.2.1 dX7_heaps_56 rfl (lv_at hl 1 rfl) ?_
      refine E_g_sizes C0 hE fk_X7_53 dX7_heaps_57 ?_
      refine lv_iload_n C0.1 C0.2.1 dX7_heaps_60 rfl (lv_at hl 2 rfl) ?_
      obtain ⟨v9, e_v9, i_v9, h⟩ := rd_s hR h
      refine E_sizes_l C0 hE i_p1 e_v9 dX7_heaps_61 ?_
      refine lv_iconst (v := I 4) C0.1 C0.2.1 dX7_heaps_62 rfl ?_
      obtain ⟨v10, s11, h_v10, h⟩ := bnd_s h
      refine callV_i (rest := [.int (I p2), .ref (g.2 0)]) C0 hml hE (Pool_rec C0 hE) (c_Pool_putAll_one l D g hR lit_0 lit_0 i_v9 lit_4 h_v10) kw_X7_212 ⟨Nat.le_of_ble_eq_true rfl, Nat.le_of_ble_eq_true rfl⟩ rfl hl.1 rfl (Nat.le_of_ble_eq_true rfl) dX7_heaps_63 ⟨Nat.zero_le _, Nat.zero_le _⟩ (fun H locs hE ⟨i_v10, hR⟩ => ?_)
      refine lv_aload_n C0.1 C0.2.1 dX7_heaps_66 rfl (lv_at hl 1 rfl) ?_
      refine E_g_sizes C0 hE fk_X7_53 dX7_heaps_67 ?_
      refine lv_iload_n C0.1 C0.2.1 dX7_heaps_70 rfl (lv_at hl 2 rfl) ?_
      obtain ⟨v12, e_v12, i_v12, h⟩ := rd_s hR h
      refine E_sizes_l C0 hE i_p1 e_v12 dX7_heaps_71 ?_
      obtain ⟨v13, s14, h_v13, h⟩ := bnd_s h
      refine callV_i (rest := []) C0 hml hE (E_rec C0 hE) (c_E_keep l D g hR i_p2 i_v10 i_v12 h_v13) kw_X7_126 ⟨Nat.le_of_ble_eq_true rfl, Nat.le_of_ble_eq_true rfl⟩ rfl hl.1 rfl (Nat.le_of_ble_eq_true rfl) dX7_heaps_72 ⟨Nat.zero_le _, Nat.zero_le _⟩ (fun H locs hE ⟨i_v13, hR⟩ => ?_)
      refine lv_pop C0.1 C0.2.1 dX7_heaps_75 rfl ?_
      refine lv_aload_n C0.1 C0.2.1 dX7_heaps_76 rfl (lv_at hl 1 rfl) ?_
      refine E_g_pool C0 hE fk_X7_10 dX7_heaps_77 ?_
      obtain ⟨v15, e_v15, i_v15, h⟩ := gf_s hR h
      refine Pool_n_made C0 hE e_v15 nk_X7_130 dX7_heaps_80 ?_
      refine lv_iload_n C0.1 C0.2.1 dX7_heaps_83 rfl (lv_at hl 0 rfl) ?_
      obtain ⟨v16, e_v16, i_v16, h⟩ := osub_s h
      refine x_sub C0 e_v16 dX7_heaps_84 ?_
      exact ret_i (wf := wE g) C0 hr hlk hE h i_v16 hR dX7_heaps_85
    · have h := ite_t c9 h
      refine lv_iconst (v := I (-1)) C0.1 C0.2.1 dX7_heaps_14 rfl ?_
      exact ret_i (wf := wE g) C0 hr hlk hE h lit_m1 hR dX7_heaps_15

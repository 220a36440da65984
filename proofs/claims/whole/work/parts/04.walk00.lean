-- literals
theorem lit_m1000000 : in32 (-1000000) := by decide
theorem lit_m2000 : in32 (-2000) := by decide
theorem lit_m1000 : in32 (-1000) := by decide
theorem lit_m999 : in32 (-999) := by decide
theorem lit_m8 : in32 (-8) := by decide
theorem lit_m3 : in32 (-3) := by decide
theorem lit_m2 : in32 (-2) := by decide
theorem lit_m1 : in32 (-1) := by decide
theorem lit_0 : in32 (0) := by decide
theorem lit_1 : in32 (1) := by decide
theorem lit_2 : in32 (2) := by decide
theorem lit_3 : in32 (3) := by decide
theorem lit_4 : in32 (4) := by decide
theorem lit_5 : in32 (5) := by decide
theorem lit_6 : in32 (6) := by decide
theorem lit_7 : in32 (7) := by decide
theorem lit_8 : in32 (8) := by decide
theorem lit_9 : in32 (9) := by decide
theorem lit_10 : in32 (10) := by decide
theorem lit_16 : in32 (16) := by decide
theorem lit_24 : in32 (24) := by decide
theorem lit_40 : in32 (40) := by decide
theorem lit_41 : in32 (41) := by decide
theorem lit_44 : in32 (44) := by decide
theorem lit_45 : in32 (45) := by decide
theorem lit_46 : in32 (46) := by decide
theorem lit_48 : in32 (48) := by decide
theorem lit_57 : in32 (57) := by decide
theorem lit_62 : in32 (62) := by decide
theorem lit_63 : in32 (63) := by decide
theorem lit_99 : in32 (99) := by decide
theorem lit_100 : in32 (100) := by decide
theorem lit_196 : in32 (196) := by decide
theorem lit_200 : in32 (200) := by decide
theorem lit_255 : in32 (255) := by decide
theorem lit_256 : in32 (256) := by decide
theorem lit_999 : in32 (999) := by decide
theorem lit_1792 : in32 (1792) := by decide
theorem lit_1999 : in32 (1999) := by decide
theorem lit_4096 : in32 (4096) := by decide
theorem lit_6143 : in32 (6143) := by decide
theorem lit_6144 : in32 (6144) := by decide
theorem lit_252645135 : in32 (252645135) := by decide
theorem lit_858993459 : in32 (858993459) := by decide
theorem lit_1431655765 : in32 (1431655765) := by decide
-- THE WALKS, written by program
set_option maxRecDepth 100000 in
set_option maxHeartbeats 4000000 in
theorem c_Text_addFour (l : Launch) (D : va_G) (g : Ad) {σ σr : St} {p1 r : Int} (hR : R32 σ) (i_p1 : in32 p1) (h : Text_addFour σ p1 = some (r, σr)) : CtI l D g yX4_addFour cX4_addFour 3 (some .int) 1 (wE g σ) (wE g σr) [.ref (g.2 3), .int (I p1)] r (in32 r ∧ R32 σr) := by
  intro sz
  refine met_of (by decide) (Nat.le_of_ble_eq_true rfl) (fun p e s m args below meth c ls H locs C0 hml hr hlk hE hl => ?_)
  have C0 : CX p c cX4_addFour m s args D g RX4 := C0
  have hl : lv_has ls 3 [(0, .ref (g.2 3)), (1, .int (I p1))] := hl
  unfold Text_addFour at h
  refine lv_aload_n C0.1 C0.2.1 dX4_addFour_0 rfl (lv_at hl 0 rfl) ?_
  obtain ⟨v1, e_v1, i_v1, h⟩ := gf_s hR h
  refine Text_g_many C0 hE e_v1 fk_X4_15 dX4_addFour_1 ?_
  refine lv_sipush (v := I 196) C0.1 C0.2.1 dX4_addFour_4 (by decide +kernel) ?_
  refine x_icmp_le C0 i_v1 lit_196 dX4_addFour_7 (tgt := 12) (by decide) (fun c9 => ?_) (fun c9 => ?_)
  · have h := ite_f c9 h
    refine lv_bipush (v := I 24) C0.1 C0.2.1 dX4_addFour_12 (by decide +kernel) ?_
    refine lv_istore_n (lv' := [(2, .int (I 24)), (0, .ref (g.2 3)), (1, .int (I p1))]) C0.1 C0.2.1 dX4_addFour_14 rfl hl (by decide) rfl (fun ls hl => ?_)
    obtain ⟨k3, e_k3, h⟩ := jn_s h
    have h_k3 : ∀ (s2 : St) (hR : R32 s2) (H : Heap) (locs : List Loc) (ls : Array Slot), EW D (va_A (wE g σ) sz) s.heap (wE g s2) H locs → lv_has ls 3 [(0, .ref (g.2 3))] → k3 s2 = some (r, σr) → W p l e (rmk 1) s m args below meth c H locs 0 0 (MQ below (QCi D (wE g σr) r (in32 r ∧ R32 σr) (va_A (wE g σ) sz)) args s 0 0 (va_A (wE g σ) sz)) (F0 m 51 ls []) := by
      intro s2 hR H locs ls hE hl h
      have h := (congrFun e_k3 s2).symm.trans h
      refine lv_aload_n C0.1 C0.2.1 dX4_addFour_51 rfl (lv_at hl 0 rfl) ?_
      obtain ⟨v4, e_v4, i_v4, h⟩ := gf_s hR h
      refine Text_g_many C0 hE e_v4 fk_X4_15 dX4_addFour_52 ?_
      exact ret_i (wf := wE g) C0 hr hlk hE h i_v4 hR dX4_addFour_55
    have hL15 : ∀ (n : Nat) (s6 : St) (hR : R32 s6) (x5 : Int) (i_x5 : in32 x5) (H : Heap) (locs : List Loc) (ls : Array Slot), EW D (va_A (wE g σ) sz) s.heap (wE g s6) H locs → lv_has ls 3 [(0, .ref (g.2 3)), (1, .int (I p1)), (2, .int (I x5))] → Text_addFour_L15 k3 p1 n s6 x5 = some (r, σr) → W p l e (rmk 1) s m args below meth c H locs 0 0 (MQ below (QCi D (wE g σr) r (in32 r ∧ R32 σr) (va_A (wE g σ) sz)) args s 0 0 (va_A (wE g σ) sz)) (F0 m 15 ls []) := by
      intro n
      induction n with
      | zero => intros; rename_i h; cases h
      | succ n ih7 =>
        intro s6 hR x5 i_x5 H locs ls hE hl h
        unfold Text_addFour_L15 at h
        refine lv_iload_n C0.1 C0.2.1 dX4_addFour_15 rfl (lv_at hl 2 rfl) ?_
        refine x_if_lt C0 i_x5 dX4_addFour_16 (tgt := 51) (by decide) (fun c9 => ?_) (fun c9 => ?_)
        · have h := ite_t c9 h
          exact h_k3 s6 hR _ _ _ hE (lv_sub hl [0] rfl) h
        · have h := ite_f c9 h
          refine lv_aload_n C0.1 C0.2.1 dX4_addFour_19 rfl (lv_at hl 0 rfl) ?_
          refine Text_g_signs C0 hE fk_X4_11 dX4_addFour_20 ?_
          refine lv_aload_n C0.1 C0.2.1 dX4_addFour_23 rfl (lv_at hl 0 rfl) ?_
          obtain ⟨v8, e_v8, i_v8, h⟩ := gf_s hR h
          refine Text_g_many C0 hE e_v8 fk_X4_15 dX4_addFour_24 ?_
          refine lv_iload_n C0.1 C0.2.1 dX4_addFour_27 rfl (lv_at hl 1 rfl) ?_
          refine lv_iload_n C0.1 C0.2.1 dX4_addFour_28 rfl (lv_at hl 2 rfl) ?_
          obtain ⟨v9, e_v9, i_v9, h⟩ := opure_s h (bushr_in _ _)
          refine x_ushr C0 e_v9 dX4_addFour_29 ?_
          refine lv_sipush (v := I 255) C0.1 C0.2.1 dX4_addFour_30 (by decide +kernel) ?_
          obtain ⟨v10, e_v10, i_v10, h⟩ := opure_s h (band_in _ _)
          refine x_and C0 e_v10 dX4_addFour_33 ?_
          obtain ⟨s11, e_s11, hR, h⟩ := wr_s hR i_v10 h
          refine Text_signs_st C0 hE i_v8 e_s11 dX4_addFour_34 (fun H locs hE => ?_)
          refine lv_aload_n C0.1 C0.2.1 dX4_addFour_35 rfl (lv_at hl 0 rfl) ?_
          refine lv_dup C0.1 C0.2.1 dX4_addFour_36 rfl ?_
          obtain ⟨v12, e_v12, i_v12, h⟩ := gf_s hR h
          refine Text_g_many C0 hE e_v12 fk_X4_15 dX4_addFour_37 ?_
          refine lv_iconst (v := I 1) C0.1 C0.2.1 dX4_addFour_40 rfl ?_
          obtain ⟨v13, e_v13, i_v13, h⟩ := oadd_s h
          refine x_add C0 e_v13 dX4_addFour_41 ?_
          obtain ⟨s14, e_s14, hR, h⟩ := pf_s hR i_v13 h
          refine Text_p_many C0 hE e_s14 fk_X4_15 dX4_addFour_42 (fun H locs hE => ?_)
          obtain ⟨v15, e_v15, i_v15, h⟩ := oadd_s h
          refine x_iinc (lv' := [(2, .int (I v15)), (0, .ref (g.2 3)), (1, .int (I p1))]) C0 dX4_addFour_45 hl (k := 2) rfl e_v15 (by decide) rfl (fun ls hl => ?_)
          refine x_goto C0 dX4_addFour_48 (tgt := 15) (by decide) ?_
          exact ih7 s14 hR v15 i_v15 _ _ _ hE (lv_sub hl [1, 2, 0] rfl) h
    exact hL15 FU σ hR 24 lit_24 _ _ _ hE (lv_sub hl [1, 2, 0] rfl) h
  · have h := ite_t c9 h
    refine lv_iconst (v := I (-1)) C0.1 C0.2.1 dX4_addFour_10 rfl ?_
    exact ret_i (wf := wE g) C0 hr hlk hE h lit_m1 hR dX4_addFour_11
set_option maxRecDepth 100000 in
set_option maxHeartbeats 4000000 in
theorem c_E_sign (l : Launch) (D : va_G) (g : Ad) {σ σr : St} {p1 r : Int} (hR : R32 σ) (i_p1 : in32 p1) (h : E_sign σ p1 = some (r, σr)) : CtI l D g yX7_sign cX7_sign 2 (some .int) 2 (wE g σ) (wE g σr) [.ref (g.2 0), .int (I p1)] r (in32 r ∧ R32 σr) := by
  intro sz
  refine met_of (by decide) (Nat.le_of_ble_eq_true rfl) (fun p e s m args below meth c ls H locs C0 hml hr hlk hE hl => ?_)
  have C0 : CX p c cX7_sign m s args D g RX7 := C0
  have hl : lv_has ls 2 [(0, .ref (g.2 0)), (1, .int (I p1))] := hl
  unfold E_sign at h
  refine lv_aload_n C0.1 C0.2.1 dX7_sign_0 rfl (lv_at hl 0 rfl) ?_
  refine E_g_text C0 hE fk_X7_34 dX7_sign_1 ?_
  refine lv_iload_n C0.1 C0.2.1 dX7_sign_4 rfl (lv_at hl 1 rfl) ?_
  obtain ⟨v1, s2, h_v1, h⟩ := bnd_s h
  refine callV_i (rest := []) C0 hml hE (Text_rec C0 hE) (c_Text_addFour l D g hR i_p1 h_v1) kw_X7_68 ⟨Nat.le_of_ble_eq_true rfl, Nat.le_of_ble_eq_true rfl⟩ rfl hl.1 rfl (Nat.le_of_ble_eq_true rfl) dX7_sign_5 ⟨Nat.zero_le _, Nat.zero_le _⟩ (fun H locs hE ⟨i_v1, hR⟩ => ?_)
  exact ret_i (wf := wE g) C0 hr hlk hE h i_v1 hR dX7_sign_8
set_option maxRecDepth 100000 in
set_option maxHeartbeats 4000000 in
theorem c_Text_cut (l : Launch) (D : va_G) (g : Ad) {σ σr : St} {p1 r : Int} (hR : R32 σ) (i_p1 : in32 p1) (h : Text_cut σ p1 = some (r, σr)) : CtI l D g yX4_cut cX4_cut 2 (some .boolean) 1 (wE g σ) (wE g σr) [.ref (g.2 3), .int (I p1)] r (in32 r ∧ R32 σr) := by
  intro sz
  refine met_of (by decide) (Nat.le_of_ble_eq_true rfl) (fun p e s m args below meth c ls H locs C0 hml hr hlk hE hl => ?_)
  have C0 : CX p c cX4_cut m s args D g RX4 := C0
  have hl : lv_has ls 2 [(0, .ref (g.2 3)), (1, .int (I p1))] := hl
  unfold Text_cut at h
  refine lv_iload_n C0.1 C0.2.1 dX4_cut_0 rfl (lv_at hl 1 rfl) ?_
  refine x_if_lt C0 i_p1 dX4_cut_1 (tgt := 12) (by decide) (fun c9 => ?_) (fun c9 => ?_)
  · have h := ite_t c9 h
    refine lv_iconst (v := I 0) C0.1 C0.2.1 dX4_cut_12 rfl ?_
    exact ret_z (wf := wE g) C0 hr hlk hE (Or.inl rfl) h hR dX4_cut_13
  · have h := ite_f c9 h
    refine lv_iload_n C0.1 C0.2.1 dX4_cut_4 rfl (lv_at hl 1 rfl) ?_
    refine lv_aload_n C0.1 C0.2.1 dX4_cut_5 rfl (lv_at hl 0 rfl) ?_
    obtain ⟨v1, e_v1, i_v1, h⟩ := gf_s hR h
    refine Text_g_many C0 hE e_v1 fk_X4_15 dX4_cut_6 ?_
    refine x_icmp_le C0 i_p1 i_v1 dX4_cut_9 (tgt := 14) (by decide) (fun c9 => ?_) (fun c9 => ?_)
    · have h := ite_f c9 h
      refine lv_aload_n C0.1 C0.2.1 dX4_cut_14 rfl (lv_at hl 0 rfl) ?_
      refine lv_iload_n C0.1 C0.2.1 dX4_cut_15 rfl (lv_at hl 1 rfl) ?_
      obtain ⟨s2, e_s2, hR, h⟩ := pf_s hR i_p1 h
      refine Text_p_many C0 hE e_s2 fk_X4_15 dX4_cut_16 (fun H locs hE => ?_)
      refine lv_iconst (v := I 1) C0.1 C0.2.1 dX4_cut_19 rfl ?_
      exact ret_z (wf := wE g) C0 hr hlk hE (Or.inr rfl) h hR dX4_cut_20
    · have h := ite_t c9 h
      refine lv_iconst (v := I 0) C0.1 C0.2.1 dX4_cut_12 rfl ?_
      exact ret_z (wf := wE g) C0 hr hlk hE (Or.inl rfl) h hR dX4_cut_13
set_option maxRecDepth 100000 in
set_option maxHeartbeats 4000000 in
theorem c_E_end (l : Launch) (D : va_G) (g : Ad) {σ σr : St} {p1 r : Int} (hR : R32 σ) (i_p1 : in32 p1) (h : E_end σ p1 = some (r, σr)) : CtI l D g yX7_end cX7_end 2 (some .boolean) 2 (wE g σ) (wE g σr) [.ref (g.2 0), .int (I p1)] r (in32 r ∧ R32 σr) := by
  intro sz
  refine met_of (by decide) (Nat.le_of_ble_eq_true rfl) (fun p e s m args below meth c ls H locs C0 hml hr hlk hE hl => ?_)
  have C0 : CX p c cX7_end m s args D g RX7 := C0
  have hl : lv_has ls 2 [(0, .ref (g.2 0)), (1, .int (I p1))] := hl
  unfold E_end at h
  refine lv_aload_n C0.1 C0.2.1 dX7_end_0 rfl (lv_at hl 0 rfl) ?_
  refine E_g_text C0 hE fk_X7_34 dX7_end_1 ?_
  refine lv_iload_n C0.1 C0.2.1 dX7_end_4 rfl (lv_at hl 1 rfl) ?_
  obtain ⟨v1, s2, h_v1, h⟩ := bnd_s h
  refine callV_i (rest := []) C0 hml hE (Text_rec C0 hE) (c_Text_cut l D g hR i_p1 h_v1) kw_X7_74 ⟨Nat.le_of_ble_eq_true rfl, Nat.le_of_ble_eq_true rfl⟩ rfl hl.1 rfl (Nat.le_of_ble_eq_true rfl) dX7_end_5 ⟨Nat.zero_le _, Nat.zero_le _⟩ (fun H locs hE ⟨i_v1, hR⟩ => ?_)
  obtain ⟨z9, h⟩ := retZ_s h
  exact ret_z (wf := wE g) C0 hr hlk hE z9 h hR dX7_end_8
set_option maxRecDepth 100000 in
set_option maxHeartbeats 4000000 in
theorem c_Reader_isDigit (l : Launch) (D : va_G) (g : Ad) {σ : St} {p1 r : Int} (i_p1 : in32 p1) (h : Reader_isDigit p1 = some r) : CtI l D g yX1_isDigit cX1_isDigit 1 (some .boolean) 1 (wE g σ) (wE g σ) [.int (I p1)] r (in32 r) := by
  intro sz
  refine met_of (by decide) (Nat.le_of_ble_eq_true rfl) (fun p e s m args below meth c ls H locs C0 hml hr hlk hE hl => ?_)
  have C0 : CX p c cX1_isDigit m s args D g RX1 := C0
  have hl : lv_has ls 1 [(0, .int (I p1))] := hl
  unfold Reader_isDigit at h
  refine lv_iload_n C0.1 C0.2.1 dX1_isDigit_0 rfl (lv_at hl 0 rfl) ?_
  refine lv_bipush (v := I 48) C0.1 C0.2.1 dX1_isDigit_1 (by decide +kernel) ?_
  refine x_icmp_lt C0 i_p1 lit_48 dX1_isDigit_3 (tgt := 16) (by decide) (fun c9 => ?_) (fun c9 => ?_)
  · have h := ite_t c9 h
    refine lv_iconst (v := I 0) C0.1 C0.2.1 dX1_isDigit_16 rfl ?_
    exact pret_z C0 hr hlk hE (Or.inl rfl) h dX1_isDigit_17
  · have h := ite_f c9 h
    refine lv_iload_n C0.1 C0.2.1 dX1_isDigit_6 rfl (lv_at hl 0 rfl) ?_
    refine lv_bipush (v := I 57) C0.1 C0.2.1 dX1_isDigit_7 (by decide +kernel) ?_
    refine x_icmp_gt C0 i_p1 lit_57 dX1_isDigit_9 (tgt := 16) (by decide) (fun c9 => ?_) (fun c9 => ?_)
    · have h := ite_t c9 h
      refine lv_iconst (v := I 0) C0.1 C0.2.1 dX1_isDigit_16 rfl ?_
      exact pret_z C0 hr hlk hE (Or.inl rfl) h dX1_isDigit_17
    · have h := ite_f c9 h
      refine lv_iconst (v := I 1) C0.1 C0.2.1 dX1_isDigit_12 rfl ?_
      refine x_goto C0 dX1_isDigit_13 (tgt := 17) (by decide) ?_
      exact pret_z C0 hr hlk hE (Or.inr rfl) h dX1_isDigit_17
set_option maxRecDepth 100000 in
set_option maxHeartbeats 4000000 in
theorem c_Text_signAt (l : Launch) (D : va_G) (g : Ad) {σ : St} {p1 r : Int} (hR : R32 σ) (i_p1 : in32 p1) (h : Text_signAt σ p1 = some r) : CtI l D g yX4_signAt cX4_signAt 2 (some .int) 1 (wE g σ) (wE g σ) [.ref (g.2 3), .int (I p1)] r (in32 r) := by
  intro sz
  refine met_of (by decide) (Nat.le_of_ble_eq_true rfl) (fun p e s m args below meth c ls H locs C0 hml hr hlk hE hl => ?_)
  have C0 : CX p c cX4_signAt m s args D g RX4 := C0
  have hl : lv_has ls 2 [(0, .ref (g.2 3)), (1, .int (I p1))] := hl
  unfold Text_signAt at h
  refine lv_iload_n C0.1 C0.2.1 dX4_signAt_0 rfl (lv_at hl 1 rfl) ?_
  refine x_if_lt C0 i_p1 dX4_signAt_1 (tgt := 21) (by decide) (fun c9 => ?_) (fun c9 => ?_)
  · have h := ite_t c9 h
    refine lv_iconst (v := I (-1)) C0.1 C0.2.1 dX4_signAt_21 rfl ?_
    exact pret_i C0 hr hlk hE h lit_m1 dX4_signAt_22
  · have h := ite_f c9 h
    refine lv_iload_n C0.1 C0.2.1 dX4_signAt_4 rfl (lv_at hl 1 rfl) ?_
    refine lv_aload_n C0.1 C0.2.1 dX4_signAt_5 rfl (lv_at hl 0 rfl) ?_
    obtain ⟨v1, e_v1, i_v1, h⟩ := gf_s hR h
    refine Text_g_many C0 hE e_v1 fk_X4_15 dX4_signAt_6 ?_
    refine x_icmp_ge C0 i_p1 i_v1 dX4_signAt_9 (tgt := 21) (by decide) (fun c9 => ?_) (fun c9 => ?_)
    · have h := ite_f c9 h
      refine lv_iconst (v := I (-1)) C0.1 C0.2.1 dX4_signAt_21 rfl ?_
      exact pret_i C0 hr hlk hE h lit_m1 dX4_signAt_22
    · have h := ite_t c9 h
      refine lv_aload_n C0.1 C0.2.1 dX4_signAt_12 rfl (lv_at hl 0 rfl) ?_
      refine Text_g_signs C0 hE fk_X4_11 dX4_signAt_13 ?_
      refine lv_iload_n C0.1 C0.2.1 dX4_signAt_16 rfl (lv_at hl 1 rfl) ?_
      obtain ⟨v2, e_v2, i_v2, h⟩ := rd_s hR h
      refine Text_signs_l C0 hE i_p1 e_v2 dX4_signAt_17 ?_
      refine x_goto C0 dX4_signAt_18 (tgt := 22) (by decide) ?_
      exact pret_i C0 hr hlk hE h i_v2 dX4_signAt_22
set_option maxRecDepth 100000 in
set_option maxHeartbeats 4000000 in
theorem c_Reader_readNumber (l : Launch) (D : va_G) (g : Ad) {σ σr : St} {r : Int} (hR : R32 σ) (h : Reader_readNumber σ = some (r, σr)) : CtI l D g yX1_readNumber cX1_readNumber 4 (some .boolean) 2 (wE g σ) (wE g σr) [.ref (g.2 4)] r (in32 r ∧ R32 σr) := by
  intro sz
  refine met_of (by decide) (Nat.le_of_ble_eq_true rfl) (fun p e s m args below meth c ls H locs C0 hml hr hlk hE hl => ?_)
  have C0 : CX p c cX1_readNumber m s args D g RX1 := C0
  have hl : lv_has ls 4 [(0, .ref (g.2 4))] := hl
  unfold Reader_readNumber at h
  refine lv_aload_n C0.1 C0.2.1 dX1_readNumber_0 rfl (lv_at hl 0 rfl) ?_
  refine Reader_g_text C0 hE fk_X1_12 dX1_readNumber_1 ?_
  refine lv_aload_n C0.1 C0.2.1 dX1_readNumber_4 rfl (lv_at hl 0 rfl) ?_
  obtain ⟨v1, e_v1, i_v1, h⟩ := gf_s hR h
  refine Reader_g_at C0 hE e_v1 fk_X1_43 dX1_readNumber_5 ?_
  obtain ⟨v2, h_v2, h⟩ := bndp_s h
  refine callV_i (rest := []) C0 hml hE (Text_rec C0 hE) (c_Text_signAt l D g hR i_v1 h_v2) kw_X1_65 ⟨Nat.le_of_ble_eq_true rfl, Nat.le_of_ble_eq_true rfl⟩ rfl hl.1 rfl (Nat.le_of_ble_eq_true rfl) dX1_readNumber_8 ⟨Nat.zero_le _, Nat.zero_le _⟩ (fun H locs hE i_v2 => ?_)
  refine lv_bipush (v := I 45) C0.1 C0.2.1 dX1_readNumber_11 (by decide +kernel) ?_
  obtain ⟨v3, e_v3, i_v3, h⟩ := oif_s h
  have kk_v3 : W p l e (rmk 2) s m args below meth c H locs 0 0 (MQ below (QCi D (wE g σr) r (in32 r ∧ R32 σr) (va_A (wE g σ) sz)) args s 0 0 (va_A (wE g σ) sz)) (F0 m 21 ls [.int (I v3)]) := by
    refine lv_istore_n (lv' := [(1, .int (I v3)), (0, .ref (g.2 4))]) C0.1 C0.2.1 dX1_readNumber_21 rfl hl (by decide) rfl (fun ls hl => ?_)
    refine lv_iload_n C0.1 C0.2.1 dX1_readNumber_22 rfl (lv_at hl 0 rfl) ?_
    obtain ⟨k5, e_k5, h⟩ := jn_s h
    have h_k5 : ∀ (s4 : St) (hR : R32 s4) (H : Heap) (locs : List Loc) (ls : Array Slot), EW D (va_A (wE g σ) sz) s.heap (wE g s4) H locs → lv_has ls 4 [(0, .ref (g.2 4)), (1, .int (I v3))] → k5 s4 = some (r, σr) → W p l e (rmk 2) s m args below meth c H locs 0 0 (MQ below (QCi D (wE g σr) r (in32 r ∧ R32 σr) (va_A (wE g σ) sz)) args s 0 0 (va_A (wE g σ) sz)) (F0 m 36 ls []) := by
      intro s4 hR H locs ls hE hl h
      have h := (congrFun e_k5 s4).symm.trans h
      refine lv_iconst (v := I 0) C0.1 C0.2.1 dX1_readNumber_36 rfl ?_
      refine lv_istore_n (lv' := [(2, .int (I 0)), (0, .ref (g.2 4)), (1, .int (I v3))]) C0.1 C0.2.1 dX1_readNumber_37 rfl hl (by decide) rfl (fun ls hl => ?_)
      refine lv_iconst (v := I 0) C0.1 C0.2.1 dX1_readNumber_38 rfl ?_
      refine lv_istore_n (lv' := [(3, .int (I 0)), (2, .int (I 0)), (0, .ref (g.2 4)), (1, .int (I v3))]) C0.1 C0.2.1 dX1_readNumber_39 rfl hl (by decide) rfl (fun ls hl => ?_)
      obtain ⟨k9, e_k9, h⟩ := jn_s h
      have h_k9 : ∀ (s6 : St) (hR : R32 s6) (x7 : Int) (i_x7 : in32 x7) (x8 : Int) (i_x8 : in32 x8) (H : Heap) (locs : List Loc) (ls : Array Slot), EW D (va_A (wE g σ) sz) s.heap (wE g s6) H locs → lv_has ls 4 [(0, .ref (g.2 4)), (1, .int (I v3)), (2, .int (I x7)), (3, .int (I x8))] → k9 s6 x7 x8 = some (r, σr) → W p l e (rmk 2) s m args below meth c H locs 0 0 (MQ below (QCi D (wE g σr) r (in32 r ∧ R32 σr) (va_A (wE g σ) sz)) args s 0 0 (va_A (wE g σ) sz)) (F0 m 98 ls []) := by
        intro s6 hR x7 i_x7 x8 i_x8 H locs ls hE hl h
        have h := (congrFun (congrFun (congrFun e_k9 s6) x7) x8).symm.trans h
        refine lv_aload_n C0.1 C0.2.1 dX1_readNumber_98 rfl (lv_at hl 0 rfl) ?_
        refine lv_iload_n C0.1 C0.2.1 dX1_readNumber_99 rfl (lv_at hl 1 rfl) ?_
        obtain ⟨k11, e_k11, h⟩ := jn_s h
        have h_k11 : ∀ (x10 : Int) (i_x10 : in32 x10) (H : Heap) (locs : List Loc) (ls : Array Slot), EW D (va_A (wE g σ) sz) s.heap (wE g s6) H locs → lv_has ls 4 [(2, .int (I x7))] → k11 x10 = some (r, σr) → W p l e (rmk 2) s m args below meth c H locs 0 0 (MQ below (QCi D (wE g σr) r (in32 r ∧ R32 σr) (va_A (wE g σ) sz)) args s 0 0 (va_A (wE g σ) sz)) (F0 m 109 ls [.int (I x10), .ref (g.2 4)]) := by
          intro x10 i_x10 H locs ls hE hl h
          have h := (congrFun e_k11 x10).symm.trans h
          obtain ⟨s12, e_s12, hR, h⟩ := pf_s hR i_x10 h
          refine Reader_p_number C0 hE e_s12 fk_X1_47 dX1_readNumber_109 (fun H locs hE => ?_)
          refine lv_iload_n C0.1 C0.2.1 dX1_readNumber_112 rfl (lv_at hl 0 rfl) ?_
          obtain ⟨v13, e_v13, i_v13, h⟩ := oif_s h
          have kk_v13 : W p l e (rmk 2) s m args below meth c H locs 0 0 (MQ below (QCi D (wE g σr) r (in32 r ∧ R32 σr) (va_A (wE g σ) sz)) args s 0 0 (va_A (wE g σ) sz)) (F0 m 121 ls [.int (I v13)]) := by
            obtain ⟨z9, h⟩ := retZ_s h
            exact ret_z (wf := wE g) C0 hr hlk hE z9 h hR dX1_readNumber_121
          refine x_if_le C0 i_x7 dX1_readNumber_113 (tgt := 120) (by decide) (fun c9 => ?_) (fun c9 => ?_)
          · have e9 := e_v13.trans (if_neg c9)
            refine lv_iconst (v := I 0) C0.1 C0.2.1 dX1_readNumber_120 rfl ?_
            rw [e9] at kk_v13; exact kk_v13
          · have e9 := e_v13.trans (if_pos c9)
            refine lv_iconst (v := I 1) C0.1 C0.2.1 dX1_readNumber_116 rfl ?_
            refine x_goto C0 dX1_readNumber_117 (tgt := 121) (by decide) ?_
            rw [e9] at kk_v13; exact kk_v13
        refine x_if_eq C0 i_v3 dX1_readNumber_100 (tgt := 108) (by decide) (fun c9 => ?_) (fun c9 => ?_)
        · have h := ite_t c9 h
          refine lv_iload_n C0.1 C0.2.1 dX1_readNumber_108 rfl (lv_at hl 3 rfl) ?_
          exact h_k11 x8 i_x8 _ _ _ hE (lv_sub hl [2] rfl) h
        · have h := ite_f c9 h
          refine lv_iload_n C0.1 C0.2.1 dX1_readNumber_103 rfl (lv_at hl 3 rfl) ?_
          obtain ⟨v14, e_v14, i_v14, h⟩ := oneg_s h
          refine x_neg C0 e_v14 dX1_readNumber_104 ?_
          refine x_goto C0 dX1_readNumber_105 (tgt := 109) (by decide) ?_
          exact h_k11 v14 i_v14 _ _ _ hE (lv_sub hl [2] rfl) h
      have hL40 : ∀ (n : Nat) (s17 : St) (hR : R32 s17) (x15 : Int) (i_x15 : in32 x15) (x16 : Int) (i_x16 : in32 x16) (H : Heap) (locs : List Loc) (ls : Array Slot), EW D (va_A (wE g σ) sz) s.heap (wE g s17) H locs → lv_has ls 4 [(0, .ref (g.2 4)), (1, .int (I v3)), (2, .int (I x15)), (3, .int (I x16))] → Reader_readNumber_L40 k9 n s17 x15 x16 = some (r, σr) → W p l e (rmk 2) s m args below meth c H locs 0 0 (MQ below (QCi D (wE g σr) r (in32 r ∧ R32 σr) (va_A (wE g σ) sz)) args s 0 0 (va_A (wE g σ) sz)) (F0 m 40 ls []) := by
        intro n
        induction n with
        | zero => intros; rename_i h; cases h
        | succ n ih18 =>
          intro s17 hR x15 i_x15 x16 i_x16 H locs ls hE hl h
          unfold Reader_readNumber_L40 at h
          refine lv_iload_n C0.1 C0.2.1 dX1_readNumber_40 rfl (lv_at hl 2 rfl) ?_
          refine lv_iconst (v := I 3) C0.1 C0.2.1 dX1_readNumber_41 rfl ?_
          refine x_icmp_ge C0 i_x15 lit_3 dX1_readNumber_42 (tgt := 98) (by decide) (fun c9 => ?_) (fun c9 => ?_)
          · have h := ite_f c9 h
            exact h_k9 s17 hR x15 i_x15 x16 i_x16 _ _ _ hE (lv_sub hl [0, 1, 2, 3] rfl) h
          · have h := ite_t c9 h
            refine lv_aload_n C0.1 C0.2.1 dX1_readNumber_45 rfl (lv_at hl 0 rfl) ?_
            refine Reader_g_text C0 hE fk_X1_12 dX1_readNumber_46 ?_
            refine lv_aload_n C0.1 C0.2.1 dX1_readNumber_49 rfl (lv_at hl 0 rfl) ?_
            obtain ⟨v19, e_v19, i_v19, h⟩ := gf_s hR h
            refine Reader_g_at C0 hE e_v19 fk_X1_43 dX1_readNumber_50 ?_
            obtain ⟨v20, h_v20, h⟩ := bndp_s h
            refine callV_i (rest := []) C0 hml hE (Text_rec C0 hE) (c_Text_signAt l D g hR i_v19 h_v20) kw_X1_65 ⟨Nat.le_of_ble_eq_true rfl, Nat.le_of_ble_eq_true rfl⟩ rfl hl.1 rfl (Nat.le_of_ble_eq_true rfl) dX1_readNumber_53 ⟨Nat.zero_le _, Nat.zero_le _⟩ (fun H locs hE i_v20 => ?_)
            obtain ⟨v21, h_v21, h⟩ := bndp_s h
            refine callS_i (rest := []) C0 hml hE (c_Reader_isDigit l D g (σ := s17) i_v20 h_v21) kw_X1_69 ⟨Nat.le_of_ble_eq_true rfl, Nat.le_of_ble_eq_true rfl⟩ rfl hl.1 rfl (Nat.le_of_ble_eq_true rfl) dX1_readNumber_56 ⟨Nat.zero_le _, Nat.zero_le _⟩ (fun H locs hE i_v21 => ?_)
            refine x_if_eq C0 i_v21 dX1_readNumber_59 (tgt := 98) (by decide) (fun c9 => ?_) (fun c9 => ?_)
            · have h := ite_t c9 h
              exact h_k9 s17 hR x15 i_x15 x16 i_x16 _ _ _ hE (lv_sub hl [0, 1, 2, 3] rfl) h
            · have h := ite_f c9 h
              refine lv_bipush (v := I 10) C0.1 C0.2.1 dX1_readNumber_62 (by decide +kernel) ?_
              refine lv_iload_n C0.1 C0.2.1 dX1_readNumber_64 rfl (lv_at hl 3 rfl) ?_
              obtain ⟨v22, e_v22, i_v22, h⟩ := omul_s h
              refine x_mul C0 e_v22 dX1_readNumber_65 ?_
              refine lv_aload_n C0.1 C0.2.1 dX1_readNumber_66 rfl (lv_at hl 0 rfl) ?_
              refine Reader_g_text C0 hE fk_X1_12 dX1_readNumber_67 ?_
              refine lv_aload_n C0.1 C0.2.1 dX1_readNumber_70 rfl (lv_at hl 0 rfl) ?_
              obtain ⟨v23, e_v23, i_v23, h⟩ := gf_s hR h
              refine Reader_g_at C0 hE e_v23 fk_X1_43 dX1_readNumber_71 ?_
              obtain ⟨v24, h_v24, h⟩ := bndp_s h
              refine callV_i (rest := [.int (I v22)]) C0 hml hE (Text_rec C0 hE) (c_Text_signAt l D g hR i_v23 h_v24) kw_X1_65 ⟨Nat.le_of_ble_eq_true rfl, Nat.le_of_ble_eq_true rfl⟩ rfl hl.1 rfl (Nat.le_of_ble_eq_true rfl) dX1_readNumber_74 ⟨Nat.zero_le _, Nat.zero_le _⟩ (fun H locs hE i_v24 => ?_)
              obtain ⟨v25, e_v25, i_v25, h⟩ := oadd_s h
              refine x_add C0 e_v25 dX1_readNumber_77 ?_
              refine lv_bipush (v := I 48) C0.1 C0.2.1 dX1_readNumber_78 (by decide +kernel) ?_
              obtain ⟨v26, e_v26, i_v26, h⟩ := osub_s h
              refine x_sub C0 e_v26 dX1_readNumber_80 ?_
              refine lv_istore_n (lv' := [(3, .int (I v26)), (0, .ref (g.2 4)), (1, .int (I v3)), (2, .int (I x15))]) C0.1 C0.2.1 dX1_readNumber_81 rfl hl (by decide) rfl (fun ls hl => ?_)
              obtain ⟨v27, e_v27, i_v27, h⟩ := oadd_s h
              refine x_iinc (lv' := [(2, .int (I v27)), (3, .int (I v26)), (0, .ref (g.2 4)), (1, .int (I v3))]) C0 dX1_readNumber_82 hl (k := 3) rfl e_v27 (by decide) rfl (fun ls hl => ?_)
              refine lv_aload_n C0.1 C0.2.1 dX1_readNumber_85 rfl (lv_at hl 2 rfl) ?_
              refine lv_dup C0.1 C0.2.1 dX1_readNumber_86 rfl ?_
              obtain ⟨v28, e_v28, i_v28, h⟩ := gf_s hR h
              refine Reader_g_at C0 hE e_v28 fk_X1_43 dX1_readNumber_87 ?_
              refine lv_iconst (v := I 1) C0.1 C0.2.1 dX1_readNumber_90 rfl ?_
              obtain ⟨v29, e_v29, i_v29, h⟩ := oadd_s h
              refine x_add C0 e_v29 dX1_readNumber_91 ?_
              obtain ⟨s30, e_s30, hR, h⟩ := pf_s hR i_v29 h
              refine Reader_p_at C0 hE e_s30 fk_X1_43 dX1_readNumber_92 (fun H locs hE => ?_)
              refine x_goto C0 dX1_readNumber_95 (tgt := 40) (by decide) ?_
              exact ih18 s30 hR v27 i_v27 v26 i_v26 _ _ _ hE (lv_sub hl [2, 3, 0, 1] rfl) h
      exact hL40 FU s4 hR 0 lit_0 0 lit_0 _ _ _ hE (lv_sub hl [2, 3, 1, 0] rfl) h
    refine x_if_eq C0 i_v3 dX1_readNumber_23 (tgt := 36) (by decide) (fun c9 => ?_) (fun c9 => ?_)
    · have h := ite_t c9 h
      exact h_k5 σ hR _ _ _ hE (lv_sub hl [1, 0] rfl) h
    · have h := ite_f c9 h
      refine lv_aload_n C0.1 C0.2.1 dX1_readNumber_26 rfl (lv_at hl 1 rfl) ?_
      refine lv_dup C0.1 C0.2.1 dX1_readNumber_27 rfl ?_
      obtain ⟨v31, e_v31, i_v31, h⟩ := gf_s hR h
      refine Reader_g_at C0 hE e_v31 fk_X1_43 dX1_readNumber_28 ?_
      refine lv_iconst (v := I 1) C0.1 C0.2.1 dX1_readNumber_31 rfl ?_
      obtain ⟨v32, e_v32, i_v32, h⟩ := oadd_s h
      refine x_add C0 e_v32 dX1_readNumber_32 ?_
      obtain ⟨s33, e_s33, hR, h⟩ := pf_s hR i_v32 h
      refine Reader_p_at C0 hE e_s33 fk_X1_43 dX1_readNumber_33 (fun H locs hE => ?_)
      exact h_k5 s33 hR _ _ _ hE (lv_sub hl [1, 0] rfl) h
  refine x_icmp_ne C0 i_v2 lit_45 dX1_readNumber_13 (tgt := 20) (by decide) (fun c9 => ?_) (fun c9 => ?_)
  · have e9 := e_v3.trans (if_neg c9)
    refine lv_iconst (v := I 0) C0.1 C0.2.1 dX1_readNumber_20 rfl ?_
    rw [e9] at kk_v3; exact kk_v3
  · have e9 := e_v3.trans (if_pos c9)
    refine lv_iconst (v := I 1) C0.1 C0.2.1 dX1_readNumber_16 rfl ?_
    refine x_goto C0 dX1_readNumber_17 (tgt := 21) (by decide) ?_
    rw [e9] at kk_v3; exact kk_v3
set_option maxRecDepth 100000 in
set_option maxHeartbeats 4000000 in
theorem c_Reader_readRow_fresh (l : Launch) (D : va_G) (g : Ad) {σ σr : St} {r : Int} (hR : R32 σ) (h : Reader_readRow_fresh σ = some (r, σr)) : CtI l D g yX1_readRow cX1_readRow 3 (some .int) 3 (wE g σ) (wE g σr) [.ref (g.2 4), .ref (g.2 28)] r (in32 r ∧ R32 σr) := by
  intro sz
  refine met_of (by decide) (Nat.le_of_ble_eq_true rfl) (fun p e s m args below meth c ls H locs C0 hml hr hlk hE hl => ?_)
  have C0 : CX p c cX1_readRow m s args D g RX1 := C0
  have hl : lv_has ls 3 [(0, .ref (g.2 4)), (1, .ref (g.2 28))] := hl
  unfold Reader_readRow_fresh at h
  refine lv_aload_n C0.1 C0.2.1 dX1_readRow_0 rfl (lv_at hl 0 rfl) ?_
  refine lv_iconst (v := I 0) C0.1 C0.2.1 dX1_readRow_1 rfl ?_
  obtain ⟨s1, e_s1, hR, h⟩ := pf_s hR lit_0 h
  refine Reader_p_at C0 hE e_s1 fk_X1_43 dX1_readRow_2 (fun H locs hE => ?_)
  refine lv_iconst (v := I 0) C0.1 C0.2.1 dX1_readRow_5 rfl ?_
  refine lv_istore_n (lv' := [(2, .int (I 0)), (0, .ref (g.2 4)), (1, .ref (g.2 28))]) C0.1 C0.2.1 dX1_readRow_6 rfl hl (by decide) rfl (fun ls hl => ?_)
  obtain ⟨k4, e_k4, h⟩ := jn_s h
  have h_k4 : ∀ (s2 : St) (hR : R32 s2) (x3 : Int) (i_x3 : in32 x3) (H : Heap) (locs : List Loc) (ls : Array Slot), EW D (va_A (wE g σ) sz) s.heap (wE g s2) H locs → lv_has ls 3 [(2, .int (I x3))] → k4 s2 x3 = some (r, σr) → W p l e (rmk 3) s m args below meth c H locs 0 0 (MQ below (QCi D (wE g σr) r (in32 r ∧ R32 σr) (va_A (wE g σ) sz)) args s 0 0 (va_A (wE g σ) sz)) (F0 m 93 ls []) := by
    intro s2 hR x3 i_x3 H locs ls hE hl h
    have h := (congrFun (congrFun e_k4 s2) x3).symm.trans h
    refine lv_iload_n C0.1 C0.2.1 dX1_readRow_93 rfl (lv_at hl 0 rfl) ?_
    obtain ⟨v5, e_v5, i_v5, h⟩ := oif_s h
    have kk_v5 : W p l e (rmk 3) s m args below meth c H locs 0 0 (MQ below (QCi D (wE g σr) r (in32 r ∧ R32 σr) (va_A (wE g σ) sz)) args s 0 0 (va_A (wE g σ) sz)) (F0 m 102 ls [.int (I v5)]) := by
      exact ret_i (wf := wE g) C0 hr hlk hE h i_v5 hR dX1_readRow_102
    refine x_if_ne C0 i_x3 dX1_readRow_94 (tgt := 101) (by decide) (fun c9 => ?_) (fun c9 => ?_)
    · have e9 := e_v5.trans (if_neg c9)
      refine lv_iconst (v := I (-1)) C0.1 C0.2.1 dX1_readRow_101 rfl ?_
      rw [e9] at kk_v5; exact kk_v5
    · have e9 := e_v5.trans (if_pos c9)
      refine lv_iconst (v := I 0) C0.1 C0.2.1 dX1_readRow_97 rfl ?_
      refine x_goto C0 dX1_readRow_98 (tgt := 102) (by decide) ?_
      rw [e9] at kk_v5; exact kk_v5
  have hL7 : ∀ (n : Nat) (s7 : St) (hR : R32 s7) (x6 : Int) (i_x6 : in32 x6) (H : Heap) (locs : List Loc) (ls : Array Slot), EW D (va_A (wE g σ) sz) s.heap (wE g s7) H locs → lv_has ls 3 [(0, .ref (g.2 4)), (1, .ref (g.2 28)), (2, .int (I x6))] → Reader_readRow_fresh_L7 k4 n s7 x6 = some (r, σr) → W p l e (rmk 3) s m args below meth c H locs 0 0 (MQ below (QCi D (wE g σr) r (in32 r ∧ R32 σr) (va_A (wE g σ) sz)) args s 0 0 (va_A (wE g σ) sz)) (F0 m 7 ls []) := by
    intro n
    induction n with
    | zero => intros; rename_i h; cases h
    | succ n ih8 =>
      intro s7 hR x6 i_x6 H locs ls hE hl h
      unfold Reader_readRow_fresh_L7 at h
      refine lv_aload_n C0.1 C0.2.1 dX1_readRow_7 rfl (lv_at hl 0 rfl) ?_
      obtain ⟨v9, e_v9, i_v9, h⟩ := gf_s hR h
      refine Reader_g_at C0 hE e_v9 fk_X1_43 dX1_readRow_8 ?_
      refine lv_aload_n C0.1 C0.2.1 dX1_readRow_11 rfl (lv_at hl 0 rfl) ?_
      refine Reader_g_text C0 hE fk_X1_12 dX1_readRow_12 ?_
      obtain ⟨v10, e_v10, i_v10, h⟩ := gf_s hR h
      refine Text_n_many C0 hE e_v10 nk_X1_60 dX1_readRow_15 ?_
      refine x_icmp_ge C0 i_v9 i_v10 dX1_readRow_18 (tgt := 93) (by decide) (fun c9 => ?_) (fun c9 => ?_)
      · have h := ite_f c9 h
        exact h_k4 s7 hR x6 i_x6 _ _ _ hE (lv_sub hl [2] rfl) h
      · have h := ite_t c9 h
        refine lv_iload_n C0.1 C0.2.1 dX1_readRow_21 rfl (lv_at hl 2 rfl) ?_
        refine lv_aload_n C0.1 C0.2.1 dX1_readRow_22 rfl (lv_at hl 1 rfl) ?_
        refine E_fresh_len C0 hE dX1_readRow_23 ?_
        refine x_icmp_ge C0 i_x6 lit_256 dX1_readRow_24 (tgt := 93) (by decide) (fun c9 => ?_) (fun c9 => ?_)
        · have h := ite_f c9 h
          exact h_k4 s7 hR x6 i_x6 _ _ _ hE (lv_sub hl [2] rfl) h
        · have h := ite_t c9 h
          refine lv_aload_n C0.1 C0.2.1 dX1_readRow_27 rfl (lv_at hl 0 rfl) ?_
          obtain ⟨v11, s12, h_v11, h⟩ := bnd_s h
          refine callV_i (rest := []) C0 hml hE (Reader_rec C0 hE) (c_Reader_readNumber l D g hR h_v11) kw_X1_61 ⟨Nat.le_of_ble_eq_true rfl, Nat.le_of_ble_eq_true rfl⟩ rfl hl.1 rfl (Nat.le_of_ble_eq_true rfl) dX1_readRow_28 ⟨Nat.zero_le _, Nat.zero_le _⟩ (fun H locs hE ⟨i_v11, hR⟩ => ?_)
          refine x_if_ne C0 i_v11 dX1_readRow_31 (tgt := 36) (by decide) (fun c9 => ?_) (fun c9 => ?_)
          · have h := ite_f c9 h
            refine lv_aload_n C0.1 C0.2.1 dX1_readRow_36 rfl (lv_at hl 1 rfl) ?_
            refine lv_iload_n C0.1 C0.2.1 dX1_readRow_37 rfl (lv_at hl 2 rfl) ?_
            refine lv_aload_n C0.1 C0.2.1 dX1_readRow_38 rfl (lv_at hl 0 rfl) ?_
            obtain ⟨v13, e_v13, i_v13, h⟩ := gf_s hR h
            refine Reader_g_number C0 hE e_v13 fk_X1_47 dX1_readRow_39 ?_
            obtain ⟨s14, e_s14, hR, h⟩ := wr_s hR i_v13 h
            refine E_fresh_st C0 hE i_x6 e_s14 dX1_readRow_42 (fun H locs hE => ?_)
            obtain ⟨v15, e_v15, i_v15, h⟩ := oadd_s h
            refine x_iinc (lv' := [(2, .int (I v15)), (0, .ref (g.2 4)), (1, .ref (g.2 28))]) C0 dX1_readRow_43 hl (k := 2) rfl e_v15 (by decide) rfl (fun ls hl => ?_)
            refine lv_aload_n C0.1 C0.2.1 dX1_readRow_46 rfl (lv_at hl 1 rfl) ?_
            obtain ⟨v16, e_v16, i_v16, h⟩ := gf_s hR h
            refine Reader_g_at C0 hE e_v16 fk_X1_43 dX1_readRow_47 ?_
            refine lv_aload_n C0.1 C0.2.1 dX1_readRow_50 rfl (lv_at hl 1 rfl) ?_
            refine Reader_g_text C0 hE fk_X1_12 dX1_readRow_51 ?_
            obtain ⟨v17, e_v17, i_v17, h⟩ := gf_s hR h
            refine Text_n_many C0 hE e_v17 nk_X1_60 dX1_readRow_54 ?_
            refine x_icmp_ne C0 i_v16 i_v17 dX1_readRow_57 (tgt := 62) (by decide) (fun c9 => ?_) (fun c9 => ?_)
            · have h := ite_f c9 h
              refine lv_aload_n C0.1 C0.2.1 dX1_readRow_62 rfl (lv_at hl 1 rfl) ?_
              refine Reader_g_text C0 hE fk_X1_12 dX1_readRow_63 ?_
              refine lv_aload_n C0.1 C0.2.1 dX1_readRow_66 rfl (lv_at hl 1 rfl) ?_
              obtain ⟨v18, e_v18, i_v18, h⟩ := gf_s hR h
              refine Reader_g_at C0 hE e_v18 fk_X1_43 dX1_readRow_67 ?_
              obtain ⟨v19, h_v19, h⟩ := bndp_s h
              refine callV_i (rest := []) C0 hml hE (Text_rec C0 hE) (c_Text_signAt l D g hR i_v18 h_v19) kw_X1_65 ⟨Nat.le_of_ble_eq_true rfl, Nat.le_of_ble_eq_true rfl⟩ rfl hl.1 rfl (Nat.le_of_ble_eq_true rfl) dX1_readRow_70 ⟨Nat.zero_le _, Nat.zero_le _⟩ (fun H locs hE i_v19 => ?_)
              refine lv_bipush (v := I 44) C0.1 C0.2.1 dX1_readRow_73 (by decide +kernel) ?_
              refine x_icmp_eq C0 i_v19 lit_44 dX1_readRow_75 (tgt := 80) (by decide) (fun c9 => ?_) (fun c9 => ?_)
              · have h := ite_t c9 h
                refine lv_aload_n C0.1 C0.2.1 dX1_readRow_80 rfl (lv_at hl 1 rfl) ?_
                refine lv_dup C0.1 C0.2.1 dX1_readRow_81 rfl ?_
                obtain ⟨v20, e_v20, i_v20, h⟩ := gf_s hR h
                refine Reader_g_at C0 hE e_v20 fk_X1_43 dX1_readRow_82 ?_
                refine lv_iconst (v := I 1) C0.1 C0.2.1 dX1_readRow_85 rfl ?_
                obtain ⟨v21, e_v21, i_v21, h⟩ := oadd_s h
                refine x_add C0 e_v21 dX1_readRow_86 ?_
                obtain ⟨s22, e_s22, hR, h⟩ := pf_s hR i_v21 h
                refine Reader_p_at C0 hE e_s22 fk_X1_43 dX1_readRow_87 (fun H locs hE => ?_)
                refine x_goto C0 dX1_readRow_90 (tgt := 7) (by decide) ?_
                exact ih8 s22 hR v15 i_v15 _ _ _ hE (lv_sub hl [1, 2, 0] rfl) h
              · have h := ite_f c9 h
                refine lv_iconst (v := I (-1)) C0.1 C0.2.1 dX1_readRow_78 rfl ?_
                exact ret_i (wf := wE g) C0 hr hlk hE h lit_m1 hR dX1_readRow_79
            · have h := ite_t c9 h
              refine lv_iload_n C0.1 C0.2.1 dX1_readRow_60 rfl (lv_at hl 0 rfl) ?_
              exact ret_i (wf := wE g) C0 hr hlk hE h i_v15 hR dX1_readRow_61
          · have h := ite_t c9 h
            refine lv_iconst (v := I (-1)) C0.1 C0.2.1 dX1_readRow_34 rfl ?_
            exact ret_i (wf := wE g) C0 hr hlk hE h lit_m1 hR dX1_readRow_35
  exact hL7 FU s1 hR 0 lit_0 _ _ _ hE (lv_sub hl [1, 2, 0] rfl) h
set_option maxRecDepth 100000 in
set_option maxHeartbeats 4000000 in
theorem c_Shape_stride (l : Launch) (D : va_G) (g : Ad) {σ : St} {p1 r : Int} (i_p1 : in32 p1) (h : Shape_stride p1 = some r) : CtI l D g yX3_stride cX3_stride 2 (some .int) 1 (wE g σ) (wE g σ) [.int (I p1)] r (in32 r) := by
  intro sz
  refine met_of (by decide) (Nat.le_of_ble_eq_true rfl) (fun p e s m args below meth c ls H locs C0 hml hr hlk hE hl => ?_)
  have C0 : CX p c cX3_stride m s args D g RX3 := C0
  have hl : lv_has ls 2 [(0, .int (I p1))] := hl
  unfold Shape_stride at h
  refine lv_iload_n C0.1 C0.2.1 dX3_stride_0 rfl (lv_at hl 0 rfl) ?_
  refine lv_iconst (v := I 1) C0.1 C0.2.1 dX3_stride_1 rfl ?_
  obtain ⟨v1, e_v1, i_v1, h⟩ := oadd_s h
  refine x_add C0 e_v1 dX3_stride_2 ?_
  refine lv_istore_n (lv' := [(1, .int (I v1)), (0, .int (I p1))]) C0.1 C0.2.1 dX3_stride_3 rfl hl (by decide) rfl (fun ls hl => ?_)
  refine lv_iload_n C0.1 C0.2.1 dX3_stride_4 rfl (lv_at hl 0 rfl) ?_
  refine lv_iload_n C0.1 C0.2.1 dX3_stride_5 rfl (lv_at hl 0 rfl) ?_
  refine lv_iconst (v := I 1) C0.1 C0.2.1 dX3_stride_6 rfl ?_
  obtain ⟨v2, e_v2, i_v2, h⟩ := opure_s h (bshr_in _ _)
  refine x_shr C0 e_v2 dX3_stride_7 ?_
  obtain ⟨v3, e_v3, i_v3, h⟩ := opure_s h (bor_in _ _)
  refine x_or C0 e_v3 dX3_stride_8 ?_
  refine lv_istore_n (lv' := [(1, .int (I v3)), (0, .int (I p1))]) C0.1 C0.2.1 dX3_stride_9 rfl hl (by decide) rfl (fun ls hl => ?_)
  refine lv_iload_n C0.1 C0.2.1 dX3_stride_10 rfl (lv_at hl 0 rfl) ?_
  refine lv_iload_n C0.1 C0.2.1 dX3_stride_11 rfl (lv_at hl 0 rfl) ?_
  refine lv_iconst (v := I 2) C0.1 C0.2.1 dX3_stride_12 rfl ?_
  obtain ⟨v4, e_v4, i_v4, h⟩ := opure_s h (bshr_in _ _)
  refine x_shr C0 e_v4 dX3_stride_13 ?_
  obtain ⟨v5, e_v5, i_v5, h⟩ := opure_s h (bor_in _ _)
  refine x_or C0 e_v5 dX3_stride_14 ?_
  refine lv_istore_n (lv' := [(1, .int (I v5)), (0, .int (I p1))]) C0.1 C0.2.1 dX3_stride_15 rfl hl (by decide) rfl (fun ls hl => ?_)
  refine lv_iload_n C0.1 C0.2.1 dX3_stride_16 rfl (lv_at hl 0 rfl) ?_
  refine lv_iload_n C0.1 C0.2.1 dX3_stride_17 rfl (lv_at hl 0 rfl) ?_
  refine lv_iconst (v := I 4) C0.1 C0.2.1 dX3_stride_18 rfl ?_
  obtain ⟨v6, e_v6, i_v6, h⟩ := opure_s h (bshr_in _ _)
  refine x_shr C0 e_v6 dX3_stride_19 ?_
  obtain ⟨v7, e_v7, i_v7, h⟩ := opure_s h (bor_in _ _)
  refine x_or C0 e_v7 dX3_stride_20 ?_
  refine lv_istore_n (lv' := [(1, .int (I v7)), (0, .int (I p1))]) C0.1 C0.2.1 dX3_stride_21 rfl hl (by decide) rfl (fun ls hl => ?_)
  refine lv_iload_n C0.1 C0.2.1 dX3_stride_22 rfl (lv_at hl 0 rfl) ?_
  refine lv_iload_n C0.1 C0.2.1 dX3_stride_23 rfl (lv_at hl 0 rfl) ?_
  refine lv_bipush (v := I 8) C0.1 C0.2.1 dX3_stride_24 (by decide +kernel) ?_
  obtain ⟨v8, e_v8, i_v8, h⟩ := opure_s h (bshr_in _ _)
  refine x_shr C0 e_v8 dX3_stride_26 ?_
  obtain ⟨v9, e_v9, i_v9, h⟩ := opure_s h (bor_in _ _)
  refine x_or C0 e_v9 dX3_stride_27 ?_
  refine lv_istore_n (lv' := [(1, .int (I v9)), (0, .int (I p1))]) C0.1 C0.2.1 dX3_stride_28 rfl hl (by decide) rfl (fun ls hl => ?_)
  refine lv_iload_n C0.1 C0.2.1 dX3_stride_29 rfl (lv_at hl 0 rfl) ?_
  refine lv_iload_n C0.1 C0.2.1 dX3_stride_30 rfl (lv_at hl 0 rfl) ?_
  refine lv_iconst (v := I 1) C0.1 C0.2.1 dX3_stride_31 rfl ?_
  obtain ⟨v10, e_v10, i_v10, h⟩ := opure_s h (bshr_in _ _)
  refine x_shr C0 e_v10 dX3_stride_32 ?_
  obtain ⟨v11, e_v11, i_v11, h⟩ := osub_s h
  refine x_sub C0 e_v11 dX3_stride_33 ?_
  exact pret_i C0 hr hlk hE h i_v11 dX3_stride_34
set_option maxRecDepth 100000 in
set_option maxHeartbeats 4000000 in
theorem c_Pool_below (l : Launch) (D : va_G) (g : Ad) {σ : St} {p1 p2 p3 r : Int} (hR : R32 σ) (i_p1 : in32 p1) (i_p2 : in32 p2) (i_p3 : in32 p3) (h : Pool_below σ p1 p2 p3 = some r) : CtI l D g yX0_below cX0_below 5 (some .int) 2 (wE g σ) (wE g σ) [.ref (g.2 1), .int (I p1), .int (I p2), .int (I p3)] r (in32 r) := by
  intro sz
  refine met_of (by decide) (Nat.le_of_ble_eq_true rfl) (fun p e s m args below meth c ls H locs C0 hml hr hlk hE hl => ?_)
  have C0 : CX p c cX0_below m s args D g RX0 := C0
  have hl : lv_has ls 5 [(0, .ref (g.2 1)), (1, .int (I p1)), (2, .int (I p2)), (3, .int (I p3))] := hl
  unfold Pool_below at h
  refine lv_iload_n C0.1 C0.2.1 dX0_below_0 rfl (lv_at hl 1 rfl) ?_
  refine lv_iload_n C0.1 C0.2.1 dX0_below_1 rfl (lv_at hl 2 rfl) ?_
  refine lv_iload_n C0.1 C0.2.1 dX0_below_2 rfl (lv_at hl 1 rfl) ?_
  obtain ⟨v1, h_v1, h⟩ := bndp_s h
  refine callS_i (rest := [.int (I p2), .int (I p1)]) C0 hml hE (c_Shape_stride l D g (σ := σ) i_p1 h_v1) kw_X0_67 ⟨Nat.le_of_ble_eq_true rfl, Nat.le_of_ble_eq_true rfl⟩ rfl hl.1 rfl (Nat.le_of_ble_eq_true rfl) dX0_below_3 ⟨Nat.zero_le _, Nat.zero_le _⟩ (fun H locs hE i_v1 => ?_)
  obtain ⟨v2, e_v2, i_v2, h⟩ := omul_s h
  refine x_mul C0 e_v2 dX0_below_6 ?_
  obtain ⟨v3, e_v3, i_v3, h⟩ := oadd_s h
  refine x_add C0 e_v3 dX0_below_7 ?_
  refine lv_istore (lv' := [(4, .int (I v3)), (0, .ref (g.2 1)), (1, .int (I p1)), (2, .int (I p2)), (3, .int (I p3))]) C0.1 C0.2.1 dX0_below_8 hl (by decide) rfl (fun ls hl => ?_)
  refine lv_iload C0.1 C0.2.1 dX0_below_10 (lv_at hl 0 rfl) ?_
  refine lv_iload_n C0.1 C0.2.1 dX0_below_12 rfl (lv_at hl 4 rfl) ?_
  refine x_icmp_ge C0 i_v3 i_p3 dX0_below_13 (tgt := 26) (by decide) (fun c9 => ?_) (fun c9 => ?_)
  · have h := ite_f c9 h
    refine lv_iconst (v := I 0) C0.1 C0.2.1 dX0_below_26 rfl ?_
    exact pret_i C0 hr hlk hE h lit_0 dX0_below_27
  · have h := ite_t c9 h
    refine lv_aload_n C0.1 C0.2.1 dX0_below_16 rfl (lv_at hl 1 rfl) ?_
    refine Pool_g_at C0 hE fk_X0_27 dX0_below_17 ?_
    refine lv_iload C0.1 C0.2.1 dX0_below_20 (lv_at hl 0 rfl) ?_
    obtain ⟨v4, e_v4, i_v4, h⟩ := rd_s hR h
    refine Pool_at_l C0 hE i_v3 e_v4 dX0_below_22 ?_
    refine x_goto C0 dX0_below_23 (tgt := 27) (by decide) ?_
    exact pret_i C0 hr hlk hE h i_v4 dX0_below_27
set_option maxRecDepth 100000 in
set_option maxHeartbeats 4000000 in
theorem c_Pool_make (l : Launch) (D : va_G) (g : Ad) {σ σr : St} {p1 p2 p3 r : Int} (hR : R32 σ) (i_p1 : in32 p1) (i_p2 : in32 p2) (i_p3 : in32 p3) (h : Pool_make σ p1 p2 p3 = some (r, σr)) : CtI l D g yX0_make cX0_make 5 (some .int) 1 (wE g σ) (wE g σr) [.ref (g.2 1), .int (I p1), .int (I p2), .int (I p3)] r (in32 r ∧ R32 σr) := by
  intro sz
  refine met_of (by decide) (Nat.le_of_ble_eq_true rfl) (fun p e s m args below meth c ls H locs C0 hml hr hlk hE hl => ?_)
  have C0 : CX p c cX0_make m s args D g RX0 := C0
  have hl : lv_has ls 5 [(0, .ref (g.2 1)), (1, .int (I p1)), (2, .int (I p2)), (3, .int (I p3))] := hl
  unfold Pool_make at h
  obtain ⟨k2, e_k2, h⟩ := jn_s h
  have h_k2 : ∀ (s1 : St) (hR : R32 s1) (H : Heap) (locs : List Loc) (ls : Array Slot), EW D (va_A (wE g σ) sz) s.heap (wE g s1) H locs → lv_has ls 5 [(0, .ref (g.2 1)), (1, .int (I p1)), (2, .int (I p2)), (3, .int (I p3))] → k2 s1 = some (r, σr) → W p l e (rmk 1) s m args below meth c H locs 0 0 (MQ below (QCi D (wE g σr) r (in32 r ∧ R32 σr) (va_A (wE g σ) sz)) args s 0 0 (va_A (wE g σ) sz)) (F0 m 35 ls []) := by
    intro s1 hR H locs ls hE hl h
    have h := (congrFun e_k2 s1).symm.trans h
    refine lv_aload_n C0.1 C0.2.1 dX0_make_35 rfl (lv_at hl 0 rfl) ?_
    obtain ⟨v3, e_v3, i_v3, h⟩ := gf_s hR h
    refine Pool_g_next C0 hE e_v3 fk_X0_30 dX0_make_36 ?_
    refine lv_sipush (v := I 6144) C0.1 C0.2.1 dX0_make_39 (by decide +kernel) ?_
    refine x_icmp_lt C0 i_v3 lit_6144 dX0_make_42 (tgt := 47) (by decide) (fun c9 => ?_) (fun c9 => ?_)
    · have h := ite_t c9 h
      refine lv_aload_n C0.1 C0.2.1 dX0_make_47 rfl (lv_at hl 0 rfl) ?_
      obtain ⟨v4, e_v4, i_v4, h⟩ := gf_s hR h
      refine Pool_g_next C0 hE e_v4 fk_X0_30 dX0_make_48 ?_
      refine lv_istore (lv' := [(4, .int (I v4)), (0, .ref (g.2 1)), (1, .int (I p1)), (2, .int (I p2)), (3, .int (I p3))]) C0.1 C0.2.1 dX0_make_51 hl (by decide) rfl (fun ls hl => ?_)
      refine lv_aload_n C0.1 C0.2.1 dX0_make_53 rfl (lv_at hl 1 rfl) ?_
      refine Pool_g_numbers C0 hE fk_X0_11 dX0_make_54 ?_
      refine lv_iload C0.1 C0.2.1 dX0_make_57 (lv_at hl 0 rfl) ?_
      refine lv_iload_n C0.1 C0.2.1 dX0_make_59 rfl (lv_at hl 2 rfl) ?_
      obtain ⟨s5, e_s5, hR, h⟩ := wr_s hR i_p1 h
      refine Pool_numbers_st C0 hE i_v4 e_s5 dX0_make_60 (fun H locs hE => ?_)
      refine lv_aload_n C0.1 C0.2.1 dX0_make_61 rfl (lv_at hl 1 rfl) ?_
      refine Pool_g_lefts C0 hE fk_X0_15 dX0_make_62 ?_
      refine lv_iload C0.1 C0.2.1 dX0_make_65 (lv_at hl 0 rfl) ?_
      refine lv_iload_n C0.1 C0.2.1 dX0_make_67 rfl (lv_at hl 3 rfl) ?_
      obtain ⟨s6, e_s6, hR, h⟩ := wr_s hR i_p2 h
      refine Pool_lefts_st C0 hE i_v4 e_s6 dX0_make_68 (fun H locs hE => ?_)
      refine lv_aload_n C0.1 C0.2.1 dX0_make_69 rfl (lv_at hl 1 rfl) ?_
      refine Pool_g_rights C0 hE fk_X0_18 dX0_make_70 ?_
      refine lv_iload C0.1 C0.2.1 dX0_make_73 (lv_at hl 0 rfl) ?_
      refine lv_iload_n C0.1 C0.2.1 dX0_make_75 rfl (lv_at hl 4 rfl) ?_
      obtain ⟨s7, e_s7, hR, h⟩ := wr_s hR i_p3 h
      refine Pool_rights_st C0 hE i_v4 e_s7 dX0_make_76 (fun H locs hE => ?_)
      refine lv_aload_n C0.1 C0.2.1 dX0_make_77 rfl (lv_at hl 1 rfl) ?_
      refine lv_dup C0.1 C0.2.1 dX0_make_78 rfl ?_
      obtain ⟨v8, e_v8, i_v8, h⟩ := gf_s hR h
      refine Pool_g_next C0 hE e_v8 fk_X0_30 dX0_make_79 ?_
      refine lv_iconst (v := I 1) C0.1 C0.2.1 dX0_make_82 rfl ?_
      obtain ⟨v9, e_v9, i_v9, h⟩ := oadd_s h
      refine x_add C0 e_v9 dX0_make_83 ?_
      obtain ⟨s10, e_s10, hR, h⟩ := pf_s hR i_v9 h
      refine Pool_p_next C0 hE e_s10 fk_X0_30 dX0_make_84 (fun H locs hE => ?_)
      refine lv_aload_n C0.1 C0.2.1 dX0_make_87 rfl (lv_at hl 1 rfl) ?_
      refine lv_dup C0.1 C0.2.1 dX0_make_88 rfl ?_
      obtain ⟨v11, e_v11, i_v11, h⟩ := gf_s hR h
      refine Pool_g_free C0 hE e_v11 fk_X0_34 dX0_make_89 ?_
      refine lv_iconst (v := I 1) C0.1 C0.2.1 dX0_make_92 rfl ?_
      obtain ⟨v12, e_v12, i_v12, h⟩ := osub_s h
      refine x_sub C0 e_v12 dX0_make_93 ?_
      obtain ⟨s13, e_s13, hR, h⟩ := pf_s hR i_v12 h
      refine Pool_p_free C0 hE e_s13 fk_X0_34 dX0_make_94 (fun H locs hE => ?_)
      refine lv_aload_n C0.1 C0.2.1 dX0_make_97 rfl (lv_at hl 1 rfl) ?_
      refine lv_dup C0.1 C0.2.1 dX0_make_98 rfl ?_
      obtain ⟨v14, e_v14, i_v14, h⟩ := gf_s hR h
      refine Pool_g_made C0 hE e_v14 fk_X0_37 dX0_make_99 ?_
      refine lv_iconst (v := I 1) C0.1 C0.2.1 dX0_make_102 rfl ?_
      obtain ⟨v15, e_v15, i_v15, h⟩ := oadd_s h
      refine x_add C0 e_v15 dX0_make_103 ?_
      obtain ⟨s16, e_s16, hR, h⟩ := pf_s hR i_v15 h
      refine Pool_p_made C0 hE e_s16 fk_X0_37 dX0_make_104 (fun H locs hE => ?_)
      refine lv_iload C0.1 C0.2.1 dX0_make_107 (lv_at hl 0 rfl) ?_
      exact ret_i (wf := wE g) C0 hr hlk hE h i_v4 hR dX0_make_109
    · have h := ite_f c9 h
      refine lv_iconst (v := I 0) C0.1 C0.2.1 dX0_make_45 rfl ?_
      exact ret_i (wf := wE g) C0 hr hlk hE h lit_0 hR dX0_make_46
  have hL0 : ∀ (n : Nat) (s17 : St) (hR : R32 s17) (H : Heap) (locs : List Loc) (ls : Array Slot), EW D (va_A (wE g σ) sz) s.heap (wE g s17) H locs → lv_has ls 5 [(0, .ref (g.2 1)), (1, .int (I p1)), (2, .int (I p2)), (3, .int (I p3))] → Pool_make_L0 k2 n s17 = some (r, σr) → W p l e (rmk 1) s m args below meth c H locs 0 0 (MQ below (QCi D (wE g σr) r (in32 r ∧ R32 σr) (va_A (wE g σ) sz)) args s 0 0 (va_A (wE g σ) sz)) (F0 m 0 ls []) := by
    intro n
    induction n with
    | zero => intros; rename_i h; cases h
    | succ n ih18 =>
      intro s17 hR H locs ls hE hl h
      unfold Pool_make_L0 at h
      refine lv_aload_n C0.1 C0.2.1 dX0_make_0 rfl (lv_at hl 0 rfl) ?_
      obtain ⟨v19, e_v19, i_v19, h⟩ := gf_s hR h
      refine Pool_g_next C0 hE e_v19 fk_X0_30 dX0_make_1 ?_
      refine lv_sipush (v := I 6144) C0.1 C0.2.1 dX0_make_4 (by decide +kernel) ?_
      refine x_icmp_ge C0 i_v19 lit_6144 dX0_make_7 (tgt := 35) (by decide) (fun c9 => ?_) (fun c9 => ?_)
      · have h := ite_f c9 h
        exact h_k2 s17 hR _ _ _ hE (lv_sub hl [0, 1, 2, 3] rfl) h
      · have h := ite_t c9 h
        refine lv_aload_n C0.1 C0.2.1 dX0_make_10 rfl (lv_at hl 0 rfl) ?_
        refine Pool_g_kept C0 hE fk_X0_21 dX0_make_11 ?_
        refine lv_aload_n C0.1 C0.2.1 dX0_make_14 rfl (lv_at hl 0 rfl) ?_
        obtain ⟨v20, e_v20, i_v20, h⟩ := gf_s hR h
        refine Pool_g_next C0 hE e_v20 fk_X0_30 dX0_make_15 ?_
        obtain ⟨v21, e_v21, i_v21, h⟩ := rd_s hR h
        refine Pool_kept_l C0 hE i_v20 e_v21 dX0_make_18 ?_
        refine x_if_eq C0 i_v21 dX0_make_19 (tgt := 35) (by decide) (fun c9 => ?_) (fun c9 => ?_)
        · have h := ite_t c9 h
          exact h_k2 s17 hR _ _ _ hE (lv_sub hl [0, 1, 2, 3] rfl) h
        · have h := ite_f c9 h
          refine lv_aload_n C0.1 C0.2.1 dX0_make_22 rfl (lv_at hl 0 rfl) ?_
          refine lv_dup C0.1 C0.2.1 dX0_make_23 rfl ?_
          obtain ⟨v22, e_v22, i_v22, h⟩ := gf_s hR h
          refine Pool_g_next C0 hE e_v22 fk_X0_30 dX0_make_24 ?_
          refine lv_iconst (v := I 1) C0.1 C0.2.1 dX0_make_27 rfl ?_
          obtain ⟨v23, e_v23, i_v23, h⟩ := oadd_s h
          refine x_add C0 e_v23 dX0_make_28 ?_
          obtain ⟨s24, e_s24, hR, h⟩ := pf_s hR i_v23 h
          refine Pool_p_next C0 hE e_s24 fk_X0_30 dX0_make_29 (fun H locs hE => ?_)
          refine x_goto C0 dX0_make_32 (tgt := 0) (by decide) ?_
          exact ih18 s24 hR _ _ _ hE (lv_sub hl [0, 1, 2, 3] rfl) h
  exact hL0 FU σ hR _ _ _ hE (lv_sub hl [0, 1, 2, 3] rfl) h
set_option maxRecDepth 100000 in
set_option maxHeartbeats 4000000 in
theorem c_Pool_rootOf (l : Launch) (D : va_G) (g : Ad) {σ : St} {p1 r : Int} (hR : R32 σ) (i_p1 : in32 p1) (h : Pool_rootOf σ p1 = some r) : CtI l D g yX0_rootOf cX0_rootOf 2 (some .int) 1 (wE g σ) (wE g σ) [.ref (g.2 1), .int (I p1)] r (in32 r) := by
  intro sz
  refine met_of (by decide) (Nat.le_of_ble_eq_true rfl) (fun p e s m args below meth c ls H locs C0 hml hr hlk hE hl => ?_)
  have C0 : CX p c cX0_rootOf m s args D g RX0 := C0
  have hl : lv_has ls 2 [(0, .ref (g.2 1)), (1, .int (I p1))] := hl
  unfold Pool_rootOf at h
  refine lv_iload_n C0.1 C0.2.1 dX0_rootOf_0 rfl (lv_at hl 1 rfl) ?_
  refine x_if_le C0 i_p1 dX0_rootOf_1 (tgt := 13) (by decide) (fun c9 => ?_) (fun c9 => ?_)
  · have h := ite_f c9 h
    refine lv_iconst (v := I 0) C0.1 C0.2.1 dX0_rootOf_13 rfl ?_
    exact pret_i C0 hr hlk hE h lit_0 dX0_rootOf_14
  · have h := ite_t c9 h
    refine lv_aload_n C0.1 C0.2.1 dX0_rootOf_4 rfl (lv_at hl 0 rfl) ?_
    refine Pool_g_at C0 hE fk_X0_27 dX0_rootOf_5 ?_
    refine lv_iconst (v := I 0) C0.1 C0.2.1 dX0_rootOf_8 rfl ?_
    obtain ⟨v1, e_v1, i_v1, h⟩ := rd_s hR h
    refine Pool_at_l C0 hE lit_0 e_v1 dX0_rootOf_9 ?_
    refine x_goto C0 dX0_rootOf_10 (tgt := 14) (by decide) ?_
    exact pret_i C0 hr hlk hE h i_v1 dX0_rootOf_14
set_option maxRecDepth 100000 in
set_option maxHeartbeats 4000000 in
theorem c_Pool_built_fresh (l : Launch) (D : va_G) (g : Ad) {σ σr : St} {p2 r : Int} (hR : R32 σ) (i_p2 : in32 p2) (h : Pool_built_fresh σ p2 = some (r, σr)) : CtI l D g yX0_built cX0_built 4 (some .int) 3 (wE g σ) (wE g σr) [.ref (g.2 1), .ref (g.2 28), .int (I p2)] r (in32 r ∧ R32 σr) := by
  intro sz
  refine met_of (by decide) (Nat.le_of_ble_eq_true rfl) (fun p e s m args below meth c ls H locs C0 hml hr hlk hE hl => ?_)
  have C0 : CX p c cX0_built m s args D g RX0 := C0
  have hl : lv_has ls 4 [(0, .ref (g.2 1)), (1, .ref (g.2 28)), (2, .int (I p2))] := hl
  unfold Pool_built_fresh at h
  refine lv_iload_n C0.1 C0.2.1 dX0_built_0 rfl (lv_at hl 2 rfl) ?_
  refine lv_iconst (v := I 1) C0.1 C0.2.1 dX0_built_1 rfl ?_
  obtain ⟨v1, e_v1, i_v1, h⟩ := osub_s h
  refine x_sub C0 e_v1 dX0_built_2 ?_
  refine lv_istore_n (lv' := [(3, .int (I v1)), (0, .ref (g.2 1)), (1, .ref (g.2 28)), (2, .int (I p2))]) C0.1 C0.2.1 dX0_built_3 rfl hl (by decide) rfl (fun ls hl => ?_)
  obtain ⟨k3, e_k3, h⟩ := jn_s h
  have h_k3 : ∀ (s2 : St) (hR : R32 s2) (H : Heap) (locs : List Loc) (ls : Array Slot), EW D (va_A (wE g σ) sz) s.heap (wE g s2) H locs → lv_has ls 4 [(0, .ref (g.2 1)), (2, .int (I p2))] → k3 s2 = some (r, σr) → W p l e (rmk 3) s m args below meth c H locs 0 0 (MQ below (QCi D (wE g σr) r (in32 r ∧ R32 σr) (va_A (wE g σ) sz)) args s 0 0 (va_A (wE g σ) sz)) (F0 m 41 ls []) := by
    intro s2 hR H locs ls hE hl h
    have h := (congrFun e_k3 s2).symm.trans h
    refine lv_aload_n C0.1 C0.2.1 dX0_built_41 rfl (lv_at hl 0 rfl) ?_
    refine lv_iload_n C0.1 C0.2.1 dX0_built_42 rfl (lv_at hl 1 rfl) ?_
    obtain ⟨v4, h_v4, h⟩ := bndp_s h
    refine callV_i (rest := []) C0 hml hE (Pool_rec C0 hE) (c_Pool_rootOf l D g hR i_p2 h_v4) kw_X0_79 ⟨Nat.le_of_ble_eq_true rfl, Nat.le_of_ble_eq_true rfl⟩ rfl hl.1 rfl (Nat.le_of_ble_eq_true rfl) dX0_built_43 ⟨Nat.zero_le _, Nat.zero_le _⟩ (fun H locs hE i_v4 => ?_)
    exact ret_i (wf := wE g) C0 hr hlk hE h i_v4 hR dX0_built_46
  have hL4 : ∀ (n : Nat) (s6 : St) (hR : R32 s6) (x5 : Int) (i_x5 : in32 x5) (H : Heap) (locs : List Loc) (ls : Array Slot), EW D (va_A (wE g σ) sz) s.heap (wE g s6) H locs → lv_has ls 4 [(0, .ref (g.2 1)), (1, .ref (g.2 28)), (2, .int (I p2)), (3, .int (I x5))] → Pool_built_fresh_L4 k3 p2 n s6 x5 = some (r, σr) → W p l e (rmk 3) s m args below meth c H locs 0 0 (MQ below (QCi D (wE g σr) r (in32 r ∧ R32 σr) (va_A (wE g σ) sz)) args s 0 0 (va_A (wE g σ) sz)) (F0 m 4 ls []) := by
    intro n
    induction n with
    | zero => intros; rename_i h; cases h
    | succ n ih7 =>
      intro s6 hR x5 i_x5 H locs ls hE hl h
      unfold Pool_built_fresh_L4 at h
      refine lv_iload_n C0.1 C0.2.1 dX0_built_4 rfl (lv_at hl 3 rfl) ?_
      refine x_if_lt C0 i_x5 dX0_built_5 (tgt := 41) (by decide) (fun c9 => ?_) (fun c9 => ?_)
      · have h := ite_t c9 h
        exact h_k3 s6 hR _ _ _ hE (lv_sub hl [0, 2] rfl) h
      · have h := ite_f c9 h
        refine lv_aload_n C0.1 C0.2.1 dX0_built_8 rfl (lv_at hl 0 rfl) ?_
        refine Pool_g_at C0 hE fk_X0_27 dX0_built_9 ?_
        refine lv_iload_n C0.1 C0.2.1 dX0_built_12 rfl (lv_at hl 3 rfl) ?_
        refine lv_aload_n C0.1 C0.2.1 dX0_built_13 rfl (lv_at hl 0 rfl) ?_
        refine lv_aload_n C0.1 C0.2.1 dX0_built_14 rfl (lv_at hl 1 rfl) ?_
        refine lv_iload_n C0.1 C0.2.1 dX0_built_15 rfl (lv_at hl 3 rfl) ?_
        obtain ⟨v8, e_v8, i_v8, h⟩ := rd_s hR h
        refine E_fresh_l C0 hE i_x5 e_v8 dX0_built_16 ?_
        refine lv_aload_n C0.1 C0.2.1 dX0_built_17 rfl (lv_at hl 0 rfl) ?_
        refine lv_iload_n C0.1 C0.2.1 dX0_built_18 rfl (lv_at hl 3 rfl) ?_
        refine lv_iconst (v := I 1) C0.1 C0.2.1 dX0_built_19 rfl ?_
        refine lv_iload_n C0.1 C0.2.1 dX0_built_20 rfl (lv_at hl 2 rfl) ?_
        obtain ⟨v9, h_v9, h⟩ := bndp_s h
        refine callV_i (rest := [.int (I v8), .ref (g.2 1), .int (I x5), .ref (g.2 12)]) C0 hml hE (Pool_rec C0 hE) (c_Pool_below l D g hR i_x5 lit_1 i_p2 h_v9) kw_X0_72 ⟨Nat.le_of_ble_eq_true rfl, Nat.le_of_ble_eq_true rfl⟩ rfl hl.1 rfl (Nat.le_of_ble_eq_true rfl) dX0_built_21 ⟨Nat.zero_le _, Nat.zero_le _⟩ (fun H locs hE i_v9 => ?_)
        refine lv_aload_n C0.1 C0.2.1 dX0_built_24 rfl (lv_at hl 0 rfl) ?_
        refine lv_iload_n C0.1 C0.2.1 dX0_built_25 rfl (lv_at hl 3 rfl) ?_
        refine lv_iconst (v := I 2) C0.1 C0.2.1 dX0_built_26 rfl ?_
        refine lv_iload_n C0.1 C0.2.1 dX0_built_27 rfl (lv_at hl 2 rfl) ?_
        obtain ⟨v10, h_v10, h⟩ := bndp_s h
        refine callV_i (rest := [.int (I v9), .int (I v8), .ref (g.2 1), .int (I x5), .ref (g.2 12)]) C0 hml hE (Pool_rec C0 hE) (c_Pool_below l D g hR i_x5 lit_2 i_p2 h_v10) kw_X0_72 ⟨Nat.le_of_ble_eq_true rfl, Nat.le_of_ble_eq_true rfl⟩ rfl hl.1 rfl (Nat.le_of_ble_eq_true rfl) dX0_built_28 ⟨Nat.zero_le _, Nat.zero_le _⟩ (fun H locs hE i_v10 => ?_)
        obtain ⟨v11, s12, h_v11, h⟩ := bnd_s h
        refine callV_i (rest := [.int (I x5), .ref (g.2 12)]) C0 hml hE (Pool_rec C0 hE) (c_Pool_make l D g hR i_v8 i_v9 i_v10 h_v11) kw_X0_76 ⟨Nat.le_of_ble_eq_true rfl, Nat.le_of_ble_eq_true rfl⟩ rfl hl.1 rfl (Nat.le_of_ble_eq_true rfl) dX0_built_31 ⟨Nat.zero_le _, Nat.zero_le _⟩ (fun H locs hE ⟨i_v11, hR⟩ => ?_)
        obtain ⟨s13, e_s13, hR, h⟩ := wr_s hR i_v11 h
        refine Pool_at_st C0 hE i_x5 e_s13 dX0_built_34 (fun H locs hE => ?_)
        obtain ⟨v14, e_v14, i_v14, h⟩ := oadd_s h
        refine x_iinc (lv' := [(3, .int (I v14)), (0, .ref (g.2 1)), (1, .ref (g.2 28)), (2, .int (I p2))]) C0 dX0_built_35 hl (k := 3) rfl e_v14 (by decide) rfl (fun ls hl => ?_)
        refine x_goto C0 dX0_built_38 (tgt := 4) (by decide) ?_
        exact ih7 s13 hR v14 i_v14 _ _ _ hE (lv_sub hl [1, 2, 3, 0] rfl) h
  exact hL4 FU σ hR v1 i_v1 _ _ _ hE (lv_sub hl [1, 2, 3, 0] rfl) h
set_option maxRecDepth 100000 in
set_option maxHeartbeats 4000000 in
theorem c_Jarr_fill_kept (l : Launch) (D : va_G) (g : Ad) {σ σr : St} {p2 r : Int} (hR : R32 σ) (i_p2 : in32 p2) (h : Jarr_fill_kept σ p2 = some (r, σr)) : CtV l D g yJ7_fill_53178 cJ7_fill_53178 4 none 1 (wE g σ) (wE g σr) [.ref (g.2 10), .int (I p2)] (R32 σr) := by
  intro sz
  refine met_of (by decide) (Nat.le_of_ble_eq_true rfl) (fun p e s m args below meth c ls H locs C0 hml hr hlk hE hl => ?_)
  have C0 : CX p c cJ7_fill_53178 m s args D g RJ7 := C0
  have hl : lv_has ls 4 [(0, .ref (g.2 10)), (1, .int (I p2))] := hl
  unfold Jarr_fill_kept at h
  refine lv_iconst (v := I 0) C0.1 C0.2.1 dJ7_fill_53178_0 rfl ?_
  refine lv_istore_n (lv' := [(2, .int (I 0)), (0, .ref (g.2 10)), (1, .int (I p2))]) C0.1 C0.2.1 dJ7_fill_53178_1 rfl hl (by decide) rfl (fun ls hl => ?_)
  refine lv_aload_n C0.1 C0.2.1 dJ7_fill_53178_2 rfl (lv_at hl 1 rfl) ?_
  refine Pool_kept_len C0 hE dJ7_fill_53178_3 ?_
  refine lv_istore_n (lv' := [(3, .int (I 6144)), (2, .int (I 0)), (0, .ref (g.2 10)), (1, .int (I p2))]) C0.1 C0.2.1 dJ7_fill_53178_4 rfl hl (by decide) rfl (fun ls hl => ?_)
  have hL5 : ∀ (n : Nat) (s2 : St) (hR : R32 s2) (x1 : Int) (i_x1 : in32 x1) (H : Heap) (locs : List Loc) (ls : Array Slot), EW D (va_A (wE g σ) sz) s.heap (wE g s2) H locs → lv_has ls 4 [(0, .ref (g.2 10)), (1, .int (I p2)), (2, .int (I x1)), (3, .int (I 6144))] → Jarr_fill_kept_L5 p2 n s2 x1 = some (r, σr) → W p l e (rmk 1) s m args below meth c H locs 0 0 (MQ below (QCv D (wE g σr) (R32 σr) (va_A (wE g σ) sz)) args s 0 0 (va_A (wE g σ) sz)) (F0 m 5 ls []) := by
    intro n
    induction n with
    | zero => intros; rename_i h; cases h
    | succ n ih3 =>
      intro s2 hR x1 i_x1 H locs ls hE hl h
      unfold Jarr_fill_kept_L5 at h
      refine lv_iload_n C0.1 C0.2.1 dJ7_fill_53178_5 rfl (lv_at hl 2 rfl) ?_
      refine lv_iload_n C0.1 C0.2.1 dJ7_fill_53178_6 rfl (lv_at hl 3 rfl) ?_
      refine x_icmp_ge C0 i_x1 lit_6144 dJ7_fill_53178_7 (tgt := 20) (by decide) (fun c9 => ?_) (fun c9 => ?_)
      · have h := ite_f c9 h
        exact ret_v (wf := wE g) C0 hr hlk hE h hR dJ7_fill_53178_20
      · have h := ite_t c9 h
        refine lv_aload_n C0.1 C0.2.1 dJ7_fill_53178_10 rfl (lv_at hl 0 rfl) ?_
        refine lv_iload_n C0.1 C0.2.1 dJ7_fill_53178_11 rfl (lv_at hl 2 rfl) ?_
        refine lv_iload_n C0.1 C0.2.1 dJ7_fill_53178_12 rfl (lv_at hl 1 rfl) ?_
        obtain ⟨s4, e_s4, hR, h⟩ := wr_s hR i_p2 h
        refine Pool_kept_st C0 hE i_x1 e_s4 dJ7_fill_53178_13 (fun H locs hE => ?_)
        obtain ⟨v5, e_v5, i_v5, h⟩ := oadd_s h
        refine x_iinc (lv' := [(2, .int (I v5)), (0, .ref (g.2 10)), (1, .int (I p2)), (3, .int (I 6144))]) C0 dJ7_fill_53178_14 hl (k := 2) rfl e_v5 (by decide) rfl (fun ls hl => ?_)
        refine x_goto C0 dJ7_fill_53178_17 (tgt := 5) (by decide) ?_
        exact ih3 s4 hR v5 i_v5 _ _ _ hE (lv_sub hl [1, 2, 0, 3] rfl) h
  exact hL5 FU σ hR 0 lit_0 _ _ _ hE (lv_sub hl [2, 3, 1, 0] rfl) h
set_option maxRecDepth 100000 in
set_option maxHeartbeats 4000000 in
theorem c_Pool_forgetKept (l : Launch) (D : va_G) (g : Ad) {σ σr : St} {r : Int} (hR : R32 σ) (h : Pool_forgetKept σ = some (r, σr)) : CtV l D g yX0_forgetKept cX0_forgetKept 1 none 2 (wE g σ) (wE g σr) [.ref (g.2 1)] (R32 σr) := by
  intro sz
  refine met_of (by decide) (Nat.le_of_ble_eq_true rfl) (fun p e s m args below meth c ls H locs C0 hml hr hlk hE hl => ?_)
  have C0 : CX p c cX0_forgetKept m s args D g RX0 := C0
  have hl : lv_has ls 1 [(0, .ref (g.2 1))] := hl
  unfold Pool_forgetKept at h
  refine lv_aload_n C0.1 C0.2.1 dX0_forgetKept_0 rfl (lv_at hl 0 rfl) ?_
  refine Pool_g_kept C0 hE fk_X0_21 dX0_forgetKept_1 ?_
  refine lv_iconst (v := I 0) C0.1 C0.2.1 dX0_forgetKept_4 rfl ?_
  obtain ⟨v1, s2, h_v1, h⟩ := bnd_s h
  refine callS_v (rest := []) C0 hml hE (c_Jarr_fill_kept l D g hR lit_0 h_v1) kw_X0_43 ⟨Nat.le_of_ble_eq_true rfl, Nat.le_of_ble_eq_true rfl⟩ rfl hl.1 rfl (Nat.le_of_ble_eq_true rfl) dX0_forgetKept_5 ⟨Nat.zero_le _, Nat.zero_le _⟩ (fun H locs hE hR => ?_)
  refine lv_aload_n C0.1 C0.2.1 dX0_forgetKept_8 rfl (lv_at hl 0 rfl) ?_
  refine Pool_g_kept C0 hE fk_X0_21 dX0_forgetKept_9 ?_
  refine lv_iconst (v := I 0) C0.1 C0.2.1 dX0_forgetKept_12 rfl ?_
  refine lv_iconst (v := I 1) C0.1 C0.2.1 dX0_forgetKept_13 rfl ?_
  obtain ⟨s3, e_s3, hR, h⟩ := wr_s hR lit_1 h
  refine Pool_kept_st C0 hE lit_0 e_s3 dX0_forgetKept_14 (fun H locs hE => ?_)
  refine lv_aload_n C0.1 C0.2.1 dX0_forgetKept_15 rfl (lv_at hl 0 rfl) ?_
  refine lv_sipush (v := I 6143) C0.1 C0.2.1 dX0_forgetKept_16 (by decide +kernel) ?_
  obtain ⟨s4, e_s4, hR, h⟩ := pf_s hR lit_6143 h
  refine Pool_p_free C0 hE e_s4 fk_X0_34 dX0_forgetKept_19 (fun H locs hE => ?_)
  refine lv_aload_n C0.1 C0.2.1 dX0_forgetKept_22 rfl (lv_at hl 0 rfl) ?_
  refine lv_iconst (v := I 1) C0.1 C0.2.1 dX0_forgetKept_23 rfl ?_
  obtain ⟨s5, e_s5, hR, h⟩ := pf_s hR lit_1 h
  refine Pool_p_next C0 hE e_s5 fk_X0_30 dX0_forgetKept_24 (fun H locs hE => ?_)
  exact ret_v (wf := wE g) C0 hr hlk hE h hR dX0_forgetKept_27
set_option maxRecDepth 100000 in
set_option maxHeartbeats 4000000 in
theorem c_Pool_hasRoom (l : Launch) (D : va_G) (g : Ad) {σ : St} {r : Int} (hR : R32 σ) (h : Pool_hasRoom σ = some r) : CtI l D g yX0_hasRoom cX0_hasRoom 1 (some .boolean) 1 (wE g σ) (wE g σ) [.ref (g.2 1)] r (in32 r) := by
  intro sz
  refine met_of (by decide) (Nat.le_of_ble_eq_true rfl) (fun p e s m args below meth c ls H locs C0 hml hr hlk hE hl => ?_)
  have C0 : CX p c cX0_hasRoom m s args D g RX0 := C0
  have hl : lv_has ls 1 [(0, .ref (g.2 1))] := hl
  unfold Pool_hasRoom at h
  refine lv_aload_n C0.1 C0.2.1 dX0_hasRoom_0 rfl (lv_at hl 0 rfl) ?_
  obtain ⟨v1, e_v1, i_v1, h⟩ := gf_s hR h
  refine Pool_g_free C0 hE e_v1 fk_X0_34 dX0_hasRoom_1 ?_
  refine lv_sipush (v := I 4096) C0.1 C0.2.1 dX0_hasRoom_4 (by decide +kernel) ?_
  obtain ⟨v2, e_v2, i_v2, h⟩ := oif_s h
  have kk_v2 : W p l e (rmk 1) s m args below meth c H locs 0 0 (MQ below (QCi D (wE g σ) r (in32 r) (va_A (wE g σ) sz)) args s 0 0 (va_A (wE g σ) sz)) (F0 m 15 ls [.int (I v2)]) := by
    obtain ⟨z9, h⟩ := retZp_s h
    exact pret_z C0 hr hlk hE z9 h dX0_hasRoom_15
  refine x_icmp_lt C0 i_v1 lit_4096 dX0_hasRoom_7 (tgt := 14) (by decide) (fun c9 => ?_) (fun c9 => ?_)
  · have e9 := e_v2.trans (if_pos c9)
    refine lv_iconst (v := I 0) C0.1 C0.2.1 dX0_hasRoom_14 rfl ?_
    rw [e9] at kk_v2; exact kk_v2
  · have e9 := e_v2.trans (if_neg c9)
    refine lv_iconst (v := I 1) C0.1 C0.2.1 dX0_hasRoom_10 rfl ?_
    refine x_goto C0 dX0_hasRoom_11 (tgt := 15) (by decide) ?_
    rw [e9] at kk_v2; exact kk_v2
set_option maxRecDepth 100000 in
set_option maxHeartbeats 4000000 in
theorem c_Pool_isNode (l : Launch) (D : va_G) (g : Ad) {σ : St} {p1 r : Int} (i_p1 : in32 p1) (h : Pool_isNode p1 = some r) : CtI l D g yX0_isNode cX0_isNode 1 (some .boolean) 1 (wE g σ) (wE g σ) [.int (I p1)] r (in32 r) := by
  intro sz
  refine met_of (by decide) (Nat.le_of_ble_eq_true rfl) (fun p e s m args below meth c ls H locs C0 hml hr hlk hE hl => ?_)
  have C0 : CX p c cX0_isNode m s args D g RX0 := C0
  have hl : lv_has ls 1 [(0, .int (I p1))] := hl
  unfold Pool_isNode at h
  refine lv_iload_n C0.1 C0.2.1 dX0_isNode_0 rfl (lv_at hl 0 rfl) ?_
  refine x_if_le C0 i_p1 dX0_isNode_1 (tgt := 15) (by decide) (fun c9 => ?_) (fun c9 => ?_)
  · have h := ite_f c9 h
    refine lv_iconst (v := I 0) C0.1 C0.2.1 dX0_isNode_15 rfl ?_
    exact pret_z C0 hr hlk hE (Or.inl rfl) h dX0_isNode_16
  · have h := ite_t c9 h
    refine lv_iload_n C0.1 C0.2.1 dX0_isNode_4 rfl (lv_at hl 0 rfl) ?_
    refine lv_sipush (v := I 6144) C0.1 C0.2.1 dX0_isNode_5 (by decide +kernel) ?_
    refine x_icmp_ge C0 i_p1 lit_6144 dX0_isNode_8 (tgt := 15) (by decide) (fun c9 => ?_) (fun c9 => ?_)
    · have h := ite_f c9 h
      refine lv_iconst (v := I 0) C0.1 C0.2.1 dX0_isNode_15 rfl ?_
      exact pret_z C0 hr hlk hE (Or.inl rfl) h dX0_isNode_16
    · have h := ite_t c9 h
      refine lv_iconst (v := I 1) C0.1 C0.2.1 dX0_isNode_11 rfl ?_
      refine x_goto C0 dX0_isNode_12 (tgt := 16) (by decide) ?_
      exact pret_z C0 hr hlk hE (Or.inr rfl) h dX0_isNode_16
set_option maxRecDepth 100000 in
set_option maxHeartbeats 4000000 in
theorem c_Pool_leftOf (l : Launch) (D : va_G) (g : Ad) {σ : St} {p1 r : Int} (hR : R32 σ) (i_p1 : in32 p1) (h : Pool_leftOf σ p1 = some r) : CtI l D g yX0_leftOf cX0_leftOf 2 (some .int) 2 (wE g σ) (wE g σ) [.ref (g.2 1), .int (I p1)] r (in32 r) := by
  intro sz
  refine met_of (by decide) (Nat.le_of_ble_eq_true rfl) (fun p e s m args below meth c ls H locs C0 hml hr hlk hE hl => ?_)
  have C0 : CX p c cX0_leftOf m s args D g RX0 := C0
  have hl : lv_has ls 2 [(0, .ref (g.2 1)), (1, .int (I p1))] := hl
  unfold Pool_leftOf at h
  refine lv_iload_n C0.1 C0.2.1 dX0_leftOf_0 rfl (lv_at hl 1 rfl) ?_
  obtain ⟨v1, h_v1, h⟩ := bndp_s h
  refine callS_i (rest := []) C0 hml hE (c_Pool_isNode l D g (σ := σ) i_p1 h_v1) kw_X0_53 ⟨Nat.le_of_ble_eq_true rfl, Nat.le_of_ble_eq_true rfl⟩ rfl hl.1 rfl (Nat.le_of_ble_eq_true rfl) dX0_leftOf_1 ⟨Nat.zero_le _, Nat.zero_le _⟩ (fun H locs hE i_v1 => ?_)
  refine x_if_eq C0 i_v1 dX0_leftOf_4 (tgt := 16) (by decide) (fun c9 => ?_) (fun c9 => ?_)
  · have h := ite_t c9 h
    refine lv_iconst (v := I 0) C0.1 C0.2.1 dX0_leftOf_16 rfl ?_
    exact pret_i C0 hr hlk hE h lit_0 dX0_leftOf_17
  · have h := ite_f c9 h
    refine lv_aload_n C0.1 C0.2.1 dX0_leftOf_7 rfl (lv_at hl 0 rfl) ?_
    refine Pool_g_lefts C0 hE fk_X0_15 dX0_leftOf_8 ?_
    refine lv_iload_n C0.1 C0.2.1 dX0_leftOf_11 rfl (lv_at hl 1 rfl) ?_
    obtain ⟨v2, e_v2, i_v2, h⟩ := rd_s hR h
    refine Pool_lefts_l C0 hE i_p1 e_v2 dX0_leftOf_12 ?_
    refine x_goto C0 dX0_leftOf_13 (tgt := 17) (by decide) ?_
    exact pret_i C0 hr hlk hE h i_v2 dX0_leftOf_17
set_option maxRecDepth 100000 in
set_option maxHeartbeats 4000000 in
theorem c_Pool_rightOf (l : Launch) (D : va_G) (g : Ad) {σ : St} {p1 r : Int} (hR : R32 σ) (i_p1 : in32 p1) (h : Pool_rightOf σ p1 = some r) : CtI l D g yX0_rightOf cX0_rightOf 2 (some .int) 2 (wE g σ) (wE g σ) [.ref (g.2 1), .int (I p1)] r (in32 r) := by
  intro sz
  refine met_of (by decide) (Nat.le_of_ble_eq_true rfl) (fun p e s m args below meth c ls H locs C0 hml hr hlk hE hl => ?_)
  have C0 : CX p c cX0_rightOf m s args D g RX0 := C0
  have hl : lv_has ls 2 [(0, .ref (g.2 1)), (1, .int (I p1))] := hl
  unfold Pool_rightOf at h
  refine lv_iload_n C0.1 C0.2.1 dX0_rightOf_0 rfl (lv_at hl 1 rfl) ?_
  obtain ⟨v1, h_v1, h⟩ := bndp_s h
  refine callS_i (rest := []) C0 hml hE (c_Pool_isNode l D g (σ := σ) i_p1 h_v1) kw_X0_53 ⟨Nat.le_of_ble_eq_true rfl, Nat.le_of_ble_eq_true rfl⟩ rfl hl.1 rfl (Nat.le_of_ble_eq_true rfl) dX0_rightOf_1 ⟨Nat.zero_le _, Nat.zero_le _⟩ (fun H locs hE i_v1 => ?_)
  refine x_if_eq C0 i_v1 dX0_rightOf_4 (tgt := 16) (by decide) (fun c9 => ?_) (fun c9 => ?_)
  · have h := ite_t c9 h
    refine lv_iconst (v := I 0) C0.1 C0.2.1 dX0_rightOf_16 rfl ?_
    exact pret_i C0 hr hlk hE h lit_0 dX0_rightOf_17
  · have h := ite_f c9 h
    refine lv_aload_n C0.1 C0.2.1 dX0_rightOf_7 rfl (lv_at hl 0 rfl) ?_
    refine Pool_g_rights C0 hE fk_X0_18 dX0_rightOf_8 ?_
    refine lv_iload_n C0.1 C0.2.1 dX0_rightOf_11 rfl (lv_at hl 1 rfl) ?_
    obtain ⟨v2, e_v2, i_v2, h⟩ := rd_s hR h
    refine Pool_rights_l C0 hE i_p1 e_v2 dX0_rightOf_12 ?_
    refine x_goto C0 dX0_rightOf_13 (tgt := 17) (by decide) ?_
    exact pret_i C0 hr hlk hE h i_v2 dX0_rightOf_17
set_option maxRecDepth 100000 in
set_option maxHeartbeats 4000000 in
theorem c_Pool_spread (l : Launch) (D : va_G) (g : Ad) {σ σr : St} {p1 p2 r : Int} (hR : R32 σ) (i_p1 : in32 p1) (i_p2 : in32 p2) (h : Pool_spread σ p1 p2 = some (r, σr)) : CtV l D g yX0_spread cX0_spread 5 none 3 (wE g σ) (wE g σr) [.ref (g.2 1), .int (I p1), .int (I p2)] (R32 σr) := by
  intro sz
  refine met_of (by decide) (Nat.le_of_ble_eq_true rfl) (fun p e s m args below meth c ls H locs C0 hml hr hlk hE hl => ?_)
  have C0 : CX p c cX0_spread m s args D g RX0 := C0
  have hl : lv_has ls 5 [(0, .ref (g.2 1)), (1, .int (I p1)), (2, .int (I p2))] := hl
  unfold Pool_spread at h
  refine lv_aload_n C0.1 C0.2.1 dX0_spread_0 rfl (lv_at hl 0 rfl) ?_
  refine Pool_g_at C0 hE fk_X0_27 dX0_spread_1 ?_
  refine lv_iconst (v := I 0) C0.1 C0.2.1 dX0_spread_4 rfl ?_
  refine lv_iload_n C0.1 C0.2.1 dX0_spread_5 rfl (lv_at hl 1 rfl) ?_
  obtain ⟨s1, e_s1, hR, h⟩ := wr_s hR i_p1 h
  refine Pool_at_st C0 hE lit_0 e_s1 dX0_spread_6 (fun H locs hE => ?_)
  refine lv_iconst (v := I 0) C0.1 C0.2.1 dX0_spread_7 rfl ?_
  refine lv_istore_n (lv' := [(3, .int (I 0)), (0, .ref (g.2 1)), (1, .int (I p1)), (2, .int (I p2))]) C0.1 C0.2.1 dX0_spread_8 rfl hl (by decide) rfl (fun ls hl => ?_)
  have hL9 : ∀ (n : Nat) (s3 : St) (hR : R32 s3) (x2 : Int) (i_x2 : in32 x2) (H : Heap) (locs : List Loc) (ls : Array Slot), EW D (va_A (wE g σ) sz) s.heap (wE g s3) H locs → lv_has ls 5 [(0, .ref (g.2 1)), (2, .int (I p2)), (3, .int (I x2))] → Pool_spread_L9 p2 n s3 x2 = some (r, σr) → W p l e (rmk 3) s m args below meth c H locs 0 0 (MQ below (QCv D (wE g σr) (R32 σr) (va_A (wE g σ) sz)) args s 0 0 (va_A (wE g σ) sz)) (F0 m 9 ls []) := by
    intro n
    induction n with
    | zero => intros; rename_i h; cases h
    | succ n ih4 =>
      intro s3 hR x2 i_x2 H locs ls hE hl h
      unfold Pool_spread_L9 at h
      refine lv_iload_n C0.1 C0.2.1 dX0_spread_9 rfl (lv_at hl 2 rfl) ?_
      refine lv_iload_n C0.1 C0.2.1 dX0_spread_10 rfl (lv_at hl 1 rfl) ?_
      refine x_icmp_ge C0 i_x2 i_p2 dX0_spread_11 (tgt := 84) (by decide) (fun c9 => ?_) (fun c9 => ?_)
      · have h := ite_f c9 h
        exact ret_v (wf := wE g) C0 hr hlk hE h hR dX0_spread_84
      · have h := ite_t c9 h
        refine lv_iload_n C0.1 C0.2.1 dX0_spread_14 rfl (lv_at hl 2 rfl) ?_
        obtain ⟨v5, h_v5, h⟩ := bndp_s h
        refine callS_i (rest := []) C0 hml hE (c_Shape_stride l D g (σ := s3) i_x2 h_v5) kw_X0_67 ⟨Nat.le_of_ble_eq_true rfl, Nat.le_of_ble_eq_true rfl⟩ rfl hl.1 rfl (Nat.le_of_ble_eq_true rfl) dX0_spread_15 ⟨Nat.zero_le _, Nat.zero_le _⟩ (fun H locs hE i_v5 => ?_)
        refine lv_istore (lv' := [(4, .int (I v5)), (0, .ref (g.2 1)), (2, .int (I p2)), (3, .int (I x2))]) C0.1 C0.2.1 dX0_spread_18 hl (by decide) rfl (fun ls hl => ?_)
        refine lv_iload_n C0.1 C0.2.1 dX0_spread_20 rfl (lv_at hl 3 rfl) ?_
        refine lv_iload C0.1 C0.2.1 dX0_spread_21 (lv_at hl 0 rfl) ?_
        obtain ⟨v6, e_v6, i_v6, h⟩ := oadd_s h
        refine x_add C0 e_v6 dX0_spread_23 ?_
        refine lv_iload_n C0.1 C0.2.1 dX0_spread_24 rfl (lv_at hl 2 rfl) ?_
        obtain ⟨k8, e_k8, h⟩ := jn_s h
        have h_k8 : ∀ (s7 : St) (hR : R32 s7) (H : Heap) (locs : List Loc) (ls : Array Slot), EW D (va_A (wE g σ) sz) s.heap (wE g s7) H locs → lv_has ls 5 [(0, .ref (g.2 1)), (2, .int (I p2)), (3, .int (I x2)), (4, .int (I v5))] → k8 s7 = some (r, σr) → W p l e (rmk 3) s m args below meth c H locs 0 0 (MQ below (QCv D (wE g σr) (R32 σr) (va_A (wE g σ) sz)) args s 0 0 (va_A (wE g σ) sz)) (F0 m 47 ls []) := by
          intro s7 hR H locs ls hE hl h
          have h := (congrFun e_k8 s7).symm.trans h
          refine lv_iload_n C0.1 C0.2.1 dX0_spread_47 rfl (lv_at hl 2 rfl) ?_
          refine lv_iconst (v := I 2) C0.1 C0.2.1 dX0_spread_48 rfl ?_
          refine lv_iload C0.1 C0.2.1 dX0_spread_49 (lv_at hl 3 rfl) ?_
          obtain ⟨v9, e_v9, i_v9, h⟩ := omul_s h
          refine x_mul C0 e_v9 dX0_spread_51 ?_
          obtain ⟨v10, e_v10, i_v10, h⟩ := oadd_s h
          refine x_add C0 e_v10 dX0_spread_52 ?_
          refine lv_iload_n C0.1 C0.2.1 dX0_spread_53 rfl (lv_at hl 1 rfl) ?_
          obtain ⟨k12, e_k12, h⟩ := jn_s h
          have h_k12 : ∀ (s11 : St) (hR : R32 s11) (H : Heap) (locs : List Loc) (ls : Array Slot), EW D (va_A (wE g σ) sz) s.heap (wE g s11) H locs → lv_has ls 5 [(0, .ref (g.2 1)), (2, .int (I p2)), (3, .int (I x2))] → k12 s11 = some (r, σr) → W p l e (rmk 3) s m args below meth c H locs 0 0 (MQ below (QCv D (wE g σr) (R32 σr) (va_A (wE g σ) sz)) args s 0 0 (va_A (wE g σ) sz)) (F0 m 78 ls []) := by
            intro s11 hR H locs ls hE hl h
            have h := (congrFun e_k12 s11).symm.trans h
            obtain ⟨v13, e_v13, i_v13, h⟩ := oadd_s h
            refine x_iinc (lv' := [(3, .int (I v13)), (0, .ref (g.2 1)), (2, .int (I p2))]) C0 dX0_spread_78 hl (k := 2) rfl e_v13 (by decide) rfl (fun ls hl => ?_)
            refine x_goto C0 dX0_spread_81 (tgt := 9) (by decide) ?_
            exact ih4 s11 hR v13 i_v13 _ _ _ hE (lv_sub hl [1, 2, 0] rfl) h
          refine x_icmp_ge C0 i_v10 i_p2 dX0_spread_54 (tgt := 78) (by decide) (fun c9 => ?_) (fun c9 => ?_)
          · have h := ite_f c9 h
            exact h_k12 s7 hR _ _ _ hE (lv_sub hl [0, 1, 2] rfl) h
          · have h := ite_t c9 h
            refine lv_aload_n C0.1 C0.2.1 dX0_spread_57 rfl (lv_at hl 0 rfl) ?_
            refine Pool_g_at C0 hE fk_X0_27 dX0_spread_58 ?_
            refine lv_iload_n C0.1 C0.2.1 dX0_spread_61 rfl (lv_at hl 2 rfl) ?_
            refine lv_iconst (v := I 2) C0.1 C0.2.1 dX0_spread_62 rfl ?_
            refine lv_iload C0.1 C0.2.1 dX0_spread_63 (lv_at hl 3 rfl) ?_
            obtain ⟨v14, e_v14, i_v14, h⟩ := omul_s h
            refine x_mul C0 e_v14 dX0_spread_65 ?_
            obtain ⟨v15, e_v15, i_v15, h⟩ := oadd_s h
            refine x_add C0 e_v15 dX0_spread_66 ?_
            refine lv_aload_n C0.1 C0.2.1 dX0_spread_67 rfl (lv_at hl 0 rfl) ?_
            refine lv_aload_n C0.1 C0.2.1 dX0_spread_68 rfl (lv_at hl 0 rfl) ?_
            refine Pool_g_at C0 hE fk_X0_27 dX0_spread_69 ?_
            refine lv_iload_n C0.1 C0.2.1 dX0_spread_72 rfl (lv_at hl 2 rfl) ?_
            obtain ⟨v16, e_v16, i_v16, h⟩ := rd_s hR h
            refine Pool_at_l C0 hE i_x2 e_v16 dX0_spread_73 ?_
            obtain ⟨v17, h_v17, h⟩ := bndp_s h
            refine callV_i (rest := [.int (I v15), .ref (g.2 12)]) C0 hml hE (Pool_rec C0 hE) (c_Pool_rightOf l D g hR i_v16 h_v17) kw_X0_61 ⟨Nat.le_of_ble_eq_true rfl, Nat.le_of_ble_eq_true rfl⟩ rfl hl.1 rfl (Nat.le_of_ble_eq_true rfl) dX0_spread_74 ⟨Nat.zero_le _, Nat.zero_le _⟩ (fun H locs hE i_v17 => ?_)
            obtain ⟨s18, e_s18, hR, h⟩ := wr_s hR i_v17 h
            refine Pool_at_st C0 hE i_v15 e_s18 dX0_spread_77 (fun H locs hE => ?_)
            exact h_k12 s18 hR _ _ _ hE (lv_sub hl [0, 1, 2] rfl) h
        refine x_icmp_ge C0 i_v6 i_p2 dX0_spread_25 (tgt := 47) (by decide) (fun c9 => ?_) (fun c9 => ?_)
        · have h := ite_f c9 h
          exact h_k8 s3 hR _ _ _ hE (lv_sub hl [1, 2, 3, 0] rfl) h
        · have h := ite_t c9 h
          refine lv_aload_n C0.1 C0.2.1 dX0_spread_28 rfl (lv_at hl 1 rfl) ?_
          refine Pool_g_at C0 hE fk_X0_27 dX0_spread_29 ?_
          refine lv_iload_n C0.1 C0.2.1 dX0_spread_32 rfl (lv_at hl 3 rfl) ?_
          refine lv_iload C0.1 C0.2.1 dX0_spread_33 (lv_at hl 0 rfl) ?_
          obtain ⟨v19, e_v19, i_v19, h⟩ := oadd_s h
          refine x_add C0 e_v19 dX0_spread_35 ?_
          refine lv_aload_n C0.1 C0.2.1 dX0_spread_36 rfl (lv_at hl 1 rfl) ?_
          refine lv_aload_n C0.1 C0.2.1 dX0_spread_37 rfl (lv_at hl 1 rfl) ?_
          refine Pool_g_at C0 hE fk_X0_27 dX0_spread_38 ?_
          refine lv_iload_n C0.1 C0.2.1 dX0_spread_41 rfl (lv_at hl 3 rfl) ?_
          obtain ⟨v20, e_v20, i_v20, h⟩ := rd_s hR h
          refine Pool_at_l C0 hE i_x2 e_v20 dX0_spread_42 ?_
          obtain ⟨v21, h_v21, h⟩ := bndp_s h
          refine callV_i (rest := [.int (I v19), .ref (g.2 12)]) C0 hml hE (Pool_rec C0 hE) (c_Pool_leftOf l D g hR i_v20 h_v21) kw_X0_57 ⟨Nat.le_of_ble_eq_true rfl, Nat.le_of_ble_eq_true rfl⟩ rfl hl.1 rfl (Nat.le_of_ble_eq_true rfl) dX0_spread_43 ⟨Nat.zero_le _, Nat.zero_le _⟩ (fun H locs hE i_v21 => ?_)
          obtain ⟨s22, e_s22, hR, h⟩ := wr_s hR i_v21 h
          refine Pool_at_st C0 hE i_v19 e_s22 dX0_spread_46 (fun H locs hE => ?_)
          exact h_k8 s22 hR _ _ _ hE (lv_sub hl [1, 2, 3, 0] rfl) h
  exact hL9 FU s1 hR 0 lit_0 _ _ _ hE (lv_sub hl [1, 3, 0] rfl) h
set_option maxRecDepth 100000 in
set_option maxHeartbeats 4000000 in
theorem c_Pool_keepAll (l : Launch) (D : va_G) (g : Ad) {σ σr : St} {p1 p2 r : Int} (hR : R32 σ) (i_p1 : in32 p1) (i_p2 : in32 p2) (h : Pool_keepAll σ p1 p2 = some (r, σr)) : CtV l D g yX0_keepAll cX0_keepAll 4 none 4 (wE g σ) (wE g σr) [.ref (g.2 1), .int (I p1), .int (I p2)] (R32 σr) := by
  intro sz
  refine met_of (by decide) (Nat.le_of_ble_eq_true rfl) (fun p e s m args below meth c ls H locs C0 hml hr hlk hE hl => ?_)
  have C0 : CX p c cX0_keepAll m s args D g RX0 := C0
  have hl : lv_has ls 4 [(0, .ref (g.2 1)), (1, .int (I p1)), (2, .int (I p2))] := hl
  unfold Pool_keepAll at h
  refine lv_aload_n C0.1 C0.2.1 dX0_keepAll_0 rfl (lv_at hl 0 rfl) ?_
  refine lv_iload_n C0.1 C0.2.1 dX0_keepAll_1 rfl (lv_at hl 1 rfl) ?_
  refine lv_iload_n C0.1 C0.2.1 dX0_keepAll_2 rfl (lv_at hl 2 rfl) ?_
  obtain ⟨v1, s2, h_v1, h⟩ := bnd_s h
  refine callV_v (rest := []) C0 hml hE (Pool_rec C0 hE) (c_Pool_spread l D g hR i_p1 i_p2 h_v1) kw_X0_49 ⟨Nat.le_of_ble_eq_true rfl, Nat.le_of_ble_eq_true rfl⟩ rfl hl.1 rfl (Nat.le_of_ble_eq_true rfl) dX0_keepAll_3 ⟨Nat.zero_le _, Nat.zero_le _⟩ (fun H locs hE hR => ?_)
  refine lv_iconst (v := I 0) C0.1 C0.2.1 dX0_keepAll_6 rfl ?_
  refine lv_istore_n (lv' := [(3, .int (I 0)), (0, .ref (g.2 1)), (1, .int (I p1)), (2, .int (I p2))]) C0.1 C0.2.1 dX0_keepAll_7 rfl hl (by decide) rfl (fun ls hl => ?_)
  have hL8 : ∀ (n : Nat) (s4 : St) (hR : R32 s4) (x3 : Int) (i_x3 : in32 x3) (H : Heap) (locs : List Loc) (ls : Array Slot), EW D (va_A (wE g σ) sz) s.heap (wE g s4) H locs → lv_has ls 4 [(0, .ref (g.2 1)), (2, .int (I p2)), (3, .int (I x3))] → Pool_keepAll_L8 p2 n s4 x3 = some (r, σr) → W p l e (rmk 4) s m args below meth c H locs 0 0 (MQ below (QCv D (wE g σr) (R32 σr) (va_A (wE g σ) sz)) args s 0 0 (va_A (wE g σ) sz)) (F0 m 8 ls []) := by
    intro n
    induction n with
    | zero => intros; rename_i h; cases h
    | succ n ih5 =>
      intro s4 hR x3 i_x3 H locs ls hE hl h
      unfold Pool_keepAll_L8 at h
      refine lv_iload_n C0.1 C0.2.1 dX0_keepAll_8 rfl (lv_at hl 2 rfl) ?_
      refine lv_iload_n C0.1 C0.2.1 dX0_keepAll_9 rfl (lv_at hl 1 rfl) ?_
      refine x_icmp_ge C0 i_x3 i_p2 dX0_keepAll_10 (tgt := 67) (by decide) (fun c9 => ?_) (fun c9 => ?_)
      · have h := ite_f c9 h
        exact ret_v (wf := wE g) C0 hr hlk hE h hR dX0_keepAll_67
      · have h := ite_t c9 h
        refine lv_aload_n C0.1 C0.2.1 dX0_keepAll_13 rfl (lv_at hl 0 rfl) ?_
        refine Pool_g_at C0 hE fk_X0_27 dX0_keepAll_14 ?_
        refine lv_iload_n C0.1 C0.2.1 dX0_keepAll_17 rfl (lv_at hl 2 rfl) ?_
        obtain ⟨v6, e_v6, i_v6, h⟩ := rd_s hR h
        refine Pool_at_l C0 hE i_x3 e_v6 dX0_keepAll_18 ?_
        obtain ⟨v7, h_v7, h⟩ := bndp_s h
        refine callS_i (rest := []) C0 hml hE (c_Pool_isNode l D g (σ := s4) i_v6 h_v7) kw_X0_53 ⟨Nat.le_of_ble_eq_true rfl, Nat.le_of_ble_eq_true rfl⟩ rfl hl.1 rfl (Nat.le_of_ble_eq_true rfl) dX0_keepAll_19 ⟨Nat.zero_le _, Nat.zero_le _⟩ (fun H locs hE i_v7 => ?_)
        obtain ⟨k9, e_k9, h⟩ := jn_s h
        have h_k9 : ∀ (s8 : St) (hR : R32 s8) (H : Heap) (locs : List Loc) (ls : Array Slot), EW D (va_A (wE g σ) sz) s.heap (wE g s8) H locs → lv_has ls 4 [(0, .ref (g.2 1)), (2, .int (I p2)), (3, .int (I x3))] → k9 s8 = some (r, σr) → W p l e (rmk 4) s m args below meth c H locs 0 0 (MQ below (QCv D (wE g σr) (R32 σr) (va_A (wE g σ) sz)) args s 0 0 (va_A (wE g σ) sz)) (F0 m 61 ls []) := by
          intro s8 hR H locs ls hE hl h
          have h := (congrFun e_k9 s8).symm.trans h
          obtain ⟨v10, e_v10, i_v10, h⟩ := oadd_s h
          refine x_iinc (lv' := [(3, .int (I v10)), (0, .ref (g.2 1)), (2, .int (I p2))]) C0 dX0_keepAll_61 hl (k := 2) rfl e_v10 (by decide) rfl (fun ls hl => ?_)
          refine x_goto C0 dX0_keepAll_64 (tgt := 8) (by decide) ?_
          exact ih5 s8 hR v10 i_v10 _ _ _ hE (lv_sub hl [1, 2, 0] rfl) h
        refine x_if_eq C0 i_v7 dX0_keepAll_22 (tgt := 61) (by decide) (fun c9 => ?_) (fun c9 => ?_)
        · have h := ite_t c9 h
          exact h_k9 s4 hR _ _ _ hE (lv_sub hl [0, 1, 2] rfl) h
        · have h := ite_f c9 h
          refine lv_aload_n C0.1 C0.2.1 dX0_keepAll_25 rfl (lv_at hl 0 rfl) ?_
          refine Pool_g_kept C0 hE fk_X0_21 dX0_keepAll_26 ?_
          refine lv_aload_n C0.1 C0.2.1 dX0_keepAll_29 rfl (lv_at hl 0 rfl) ?_
          refine Pool_g_at C0 hE fk_X0_27 dX0_keepAll_30 ?_
          refine lv_iload_n C0.1 C0.2.1 dX0_keepAll_33 rfl (lv_at hl 2 rfl) ?_
          obtain ⟨v11, e_v11, i_v11, h⟩ := rd_s hR h
          refine Pool_at_l C0 hE i_x3 e_v11 dX0_keepAll_34 ?_
          obtain ⟨v12, e_v12, i_v12, h⟩ := rd_s hR h
          refine Pool_kept_l C0 hE i_v11 e_v12 dX0_keepAll_35 ?_
          refine x_if_ne C0 i_v12 dX0_keepAll_36 (tgt := 61) (by decide) (fun c9 => ?_) (fun c9 => ?_)
          · have h := ite_f c9 h
            exact h_k9 s4 hR _ _ _ hE (lv_sub hl [0, 1, 2] rfl) h
          · have h := ite_t c9 h
            refine lv_aload_n C0.1 C0.2.1 dX0_keepAll_39 rfl (lv_at hl 0 rfl) ?_
            refine Pool_g_kept C0 hE fk_X0_21 dX0_keepAll_40 ?_
            refine lv_aload_n C0.1 C0.2.1 dX0_keepAll_43 rfl (lv_at hl 0 rfl) ?_
            refine Pool_g_at C0 hE fk_X0_27 dX0_keepAll_44 ?_
            refine lv_iload_n C0.1 C0.2.1 dX0_keepAll_47 rfl (lv_at hl 2 rfl) ?_
            obtain ⟨v13, e_v13, i_v13, h⟩ := rd_s hR h
            refine Pool_at_l C0 hE i_x3 e_v13 dX0_keepAll_48 ?_
            refine lv_iconst (v := I 1) C0.1 C0.2.1 dX0_keepAll_49 rfl ?_
            obtain ⟨s14, e_s14, hR, h⟩ := wr_s hR lit_1 h
            refine Pool_kept_st C0 hE i_v13 e_s14 dX0_keepAll_50 (fun H locs hE => ?_)
            refine lv_aload_n C0.1 C0.2.1 dX0_keepAll_51 rfl (lv_at hl 0 rfl) ?_
            refine lv_dup C0.1 C0.2.1 dX0_keepAll_52 rfl ?_
            obtain ⟨v15, e_v15, i_v15, h⟩ := gf_s hR h
            refine Pool_g_free C0 hE e_v15 fk_X0_34 dX0_keepAll_53 ?_
            refine lv_iconst (v := I 1) C0.1 C0.2.1 dX0_keepAll_56 rfl ?_
            obtain ⟨v16, e_v16, i_v16, h⟩ := osub_s h
            refine x_sub C0 e_v16 dX0_keepAll_57 ?_
            obtain ⟨s17, e_s17, hR, h⟩ := pf_s hR i_v16 h
            refine Pool_p_free C0 hE e_s17 fk_X0_34 dX0_keepAll_58 (fun H locs hE => ?_)
            exact h_k9 s17 hR _ _ _ hE (lv_sub hl [0, 1, 2] rfl) h
  exact hL8 FU s2 hR 0 lit_0 _ _ _ hE (lv_sub hl [1, 3, 0] rfl) h
set_option maxRecDepth 100000 in
set_option maxHeartbeats 4000000 in
theorem c_E_begin (l : Launch) (D : va_G) (g : Ad) {σ σr : St} {r : Int} (hR : R32 σ) (h : E_begin σ = some (r, σr)) : CtI l D g yX7_begin cX7_begin 2 (some .int) 5 (wE g σ) (wE g σr) [.ref (g.2 0)] r (in32 r ∧ R32 σr) := by
  intro sz
  refine met_of (by decide) (Nat.le_of_ble_eq_true rfl) (fun p e s m args below meth c ls H locs C0 hml hr hlk hE hl => ?_)
  have C0 : CX p c cX7_begin m s args D g RX7 := C0
  have hl : lv_has ls 2 [(0, .ref (g.2 0))] := hl
  unfold E_begin at h
  refine lv_aload_n C0.1 C0.2.1 dX7_begin_0 rfl (lv_at hl 0 rfl) ?_
  refine E_g_pool C0 hE fk_X7_10 dX7_begin_1 ?_
  obtain ⟨v1, h_v1, h⟩ := bndp_s h
  refine callV_i (rest := []) C0 hml hE (Pool_rec C0 hE) (c_Pool_hasRoom l D g hR h_v1) kw_X7_318 ⟨Nat.le_of_ble_eq_true rfl, Nat.le_of_ble_eq_true rfl⟩ rfl hl.1 rfl (Nat.le_of_ble_eq_true rfl) dX7_begin_4 ⟨Nat.zero_le _, Nat.zero_le _⟩ (fun H locs hE i_v1 => ?_)
  obtain ⟨k3, e_k3, h⟩ := jn_s h
  have h_k3 : ∀ (s2 : St) (hR : R32 s2) (H : Heap) (locs : List Loc) (ls : Array Slot), EW D (va_A (wE g σ) sz) s.heap (wE g s2) H locs → lv_has ls 2 [(0, .ref (g.2 0))] → k3 s2 = some (r, σr) → W p l e (rmk 5) s m args below meth c H locs 0 0 (MQ below (QCi D (wE g σr) r (in32 r ∧ R32 σr) (va_A (wE g σ) sz)) args s 0 0 (va_A (wE g σ) sz)) (F0 m 50 ls []) := by
    intro s2 hR H locs ls hE hl h
    have h := (congrFun e_k3 s2).symm.trans h
    refine lv_aload_n C0.1 C0.2.1 dX7_begin_50 rfl (lv_at hl 0 rfl) ?_
    refine E_g_pool C0 hE fk_X7_10 dX7_begin_51 ?_
    obtain ⟨v4, e_v4, i_v4, h⟩ := gf_s hR h
    refine Pool_n_made C0 hE e_v4 nk_X7_130 dX7_begin_54 ?_
    exact ret_i (wf := wE g) C0 hr hlk hE h i_v4 hR dX7_begin_57
  refine x_if_ne C0 i_v1 dX7_begin_7 (tgt := 50) (by decide) (fun c9 => ?_) (fun c9 => ?_)
  · have h := ite_f c9 h
    exact h_k3 σ hR _ _ _ hE (lv_sub hl [0] rfl) h
  · have h := ite_t c9 h
    refine lv_aload_n C0.1 C0.2.1 dX7_begin_10 rfl (lv_at hl 0 rfl) ?_
    refine E_g_pool C0 hE fk_X7_10 dX7_begin_11 ?_
    obtain ⟨v5, s6, h_v5, h⟩ := bnd_s h
    refine callV_v (rest := []) C0 hml hE (Pool_rec C0 hE) (c_Pool_forgetKept l D g hR h_v5) kw_X7_321 ⟨Nat.le_of_ble_eq_true rfl, Nat.le_of_ble_eq_true rfl⟩ rfl hl.1 rfl (Nat.le_of_ble_eq_true rfl) dX7_begin_14 ⟨Nat.zero_le _, Nat.zero_le _⟩ (fun H locs hE hR => ?_)
    refine lv_iconst (v := I 0) C0.1 C0.2.1 dX7_begin_17 rfl ?_
    refine lv_istore_n (lv' := [(1, .int (I 0)), (0, .ref (g.2 0))]) C0.1 C0.2.1 dX7_begin_18 rfl hl (by decide) rfl (fun ls hl => ?_)
    obtain ⟨k8, e_k8, h⟩ := jn_s h
    have h_k8 : ∀ (s7 : St) (hR : R32 s7) (H : Heap) (locs : List Loc) (ls : Array Slot), EW D (va_A (wE g σ) sz) s.heap (wE g s7) H locs → lv_has ls 2 [(0, .ref (g.2 0))] → k8 s7 = some (r, σr) → W p l e (rmk 5) s m args below meth c H locs 0 0 (MQ below (QCi D (wE g σr) r (in32 r ∧ R32 σr) (va_A (wE g σ) sz)) args s 0 0 (va_A (wE g σ) sz)) (F0 m 50 ls []) := by
      intro s7 hR H locs ls hE hl h
      have h := (congrFun e_k8 s7).symm.trans h
      exact h_k3 s7 hR _ _ _ hE (lv_sub hl [0] rfl) h
    have hL19 : ∀ (n : Nat) (s10 : St) (hR : R32 s10) (x9 : Int) (i_x9 : in32 x9) (H : Heap) (locs : List Loc) (ls : Array Slot), EW D (va_A (wE g σ) sz) s.heap (wE g s10) H locs → lv_has ls 2 [(0, .ref (g.2 0)), (1, .int (I x9))] → E_begin_L19 k8 n s10 x9 = some (r, σr) → W p l e (rmk 5) s m args below meth c H locs 0 0 (MQ below (QCi D (wE g σr) r (in32 r ∧ R32 σr) (va_A (wE g σ) sz)) args s 0 0 (va_A (wE g σ) sz)) (F0 m 19 ls []) := by
      intro n
      induction n with
      | zero => intros; rename_i h; cases h
      | succ n ih11 =>
        intro s10 hR x9 i_x9 H locs ls hE hl h
        unfold E_begin_L19 at h
        refine lv_iload_n C0.1 C0.2.1 dX7_begin_19 rfl (lv_at hl 1 rfl) ?_
        refine lv_bipush (v := I 6) C0.1 C0.2.1 dX7_begin_20 (by decide +kernel) ?_
        refine x_icmp_ge C0 i_x9 lit_6 dX7_begin_22 (tgt := 50) (by decide) (fun c9 => ?_) (fun c9 => ?_)
        · have h := ite_f c9 h
          exact h_k8 s10 hR _ _ _ hE (lv_sub hl [0] rfl) h
        · have h := ite_t c9 h
          refine lv_aload_n C0.1 C0.2.1 dX7_begin_25 rfl (lv_at hl 0 rfl) ?_
          refine E_g_pool C0 hE fk_X7_10 dX7_begin_26 ?_
          refine lv_aload_n C0.1 C0.2.1 dX7_begin_29 rfl (lv_at hl 0 rfl) ?_
          refine E_g_trees C0 hE fk_X7_49 dX7_begin_30 ?_
          refine lv_iload_n C0.1 C0.2.1 dX7_begin_33 rfl (lv_at hl 1 rfl) ?_
          obtain ⟨v12, e_v12, i_v12, h⟩ := rd_s hR h
          refine E_trees_l C0 hE i_x9 e_v12 dX7_begin_34 ?_
          refine lv_aload_n C0.1 C0.2.1 dX7_begin_35 rfl (lv_at hl 0 rfl) ?_
          refine E_g_sizes C0 hE fk_X7_53 dX7_begin_36 ?_
          refine lv_iload_n C0.1 C0.2.1 dX7_begin_39 rfl (lv_at hl 1 rfl) ?_
          obtain ⟨v13, e_v13, i_v13, h⟩ := rd_s hR h
          refine E_sizes_l C0 hE i_x9 e_v13 dX7_begin_40 ?_
          obtain ⟨v14, s15, h_v14, h⟩ := bnd_s h
          refine callV_v (rest := []) C0 hml hE (Pool_rec C0 hE) (c_Pool_keepAll l D g hR i_v12 i_v13 h_v14) kw_X7_324 ⟨Nat.le_of_ble_eq_true rfl, Nat.le_of_ble_eq_true rfl⟩ rfl hl.1 rfl (Nat.le_of_ble_eq_true rfl) dX7_begin_41 ⟨Nat.zero_le _, Nat.zero_le _⟩ (fun H locs hE hR => ?_)
          obtain ⟨v16, e_v16, i_v16, h⟩ := oadd_s h
          refine x_iinc (lv' := [(1, .int (I v16)), (0, .ref (g.2 0))]) C0 dX7_begin_44 hl (k := 1) rfl e_v16 (by decide) rfl (fun ls hl => ?_)
          refine x_goto C0 dX7_begin_47 (tgt := 19) (by decide) ?_
          exact ih11 s15 hR v16 i_v16 _ _ _ hE (lv_sub hl [1, 0] rfl) h
    exact hL19 FU s6 hR 0 lit_0 _ _ _ hE (lv_sub hl [1, 0] rfl) h
set_option maxRecDepth 100000 in
set_option maxHeartbeats 4000000 in
theorem c_E_keep (l : Launch) (D : va_G) (g : Ad) {σ σr : St} {p1 p2 p3 r : Int} (hR : R32 σ) (i_p1 : in32 p1) (i_p2 : in32 p2) (i_p3 : in32 p3) (h : E_keep σ p1 p2 p3 = some (r, σr)) : CtI l D g yX7_keep cX7_keep 4 (some .int) 1 (wE g σ) (wE g σr) [.ref (g.2 0), .int (I p1), .int (I p2), .int (I p3)] r (in32 r ∧ R32 σr) := by
  intro sz
  refine met_of (by decide) (Nat.le_of_ble_eq_true rfl) (fun p e s m args below meth c ls H locs C0 hml hr hlk hE hl => ?_)
  have C0 : CX p c cX7_keep m s args D g RX7 := C0
  have hl : lv_has ls 4 [(0, .ref (g.2 0)), (1, .int (I p1)), (2, .int (I p2)), (3, .int (I p3))] := hl
  unfold E_keep at h
  refine lv_aload_n C0.1 C0.2.1 dX7_keep_0 rfl (lv_at hl 0 rfl) ?_
  refine E_g_trees C0 hE fk_X7_49 dX7_keep_1 ?_
  refine lv_iload_n C0.1 C0.2.1 dX7_keep_4 rfl (lv_at hl 1 rfl) ?_
  refine lv_iload_n C0.1 C0.2.1 dX7_keep_5 rfl (lv_at hl 2 rfl) ?_
  obtain ⟨s1, e_s1, hR, h⟩ := wr_s hR i_p2 h
  refine E_trees_st C0 hE i_p1 e_s1 dX7_keep_6 (fun H locs hE => ?_)
  refine lv_aload_n C0.1 C0.2.1 dX7_keep_7 rfl (lv_at hl 0 rfl) ?_
  refine E_g_sizes C0 hE fk_X7_53 dX7_keep_8 ?_
  refine lv_iload_n C0.1 C0.2.1 dX7_keep_11 rfl (lv_at hl 1 rfl) ?_
  refine lv_iload_n C0.1 C0.2.1 dX7_keep_12 rfl (lv_at hl 3 rfl) ?_
  obtain ⟨s2, e_s2, hR, h⟩ := wr_s hR i_p3 h
  refine E_sizes_st C0 hE i_p1 e_s2 dX7_keep_13 (fun H locs hE => ?_)
  refine lv_iload_n C0.1 C0.2.1 dX7_keep_14 rfl (lv_at hl 3 rfl) ?_
  exact ret_i (wf := wE g) C0 hr hlk hE h i_p3 hR dX7_keep_15
set_option maxRecDepth 100000 in
set_option maxHeartbeats 4000000 in
theorem c_E_build (l : Launch) (D : va_G) (g : Ad) {σ σr : St} {p1 p2 r : Int} (hR : R32 σ) (i_p1 : in32 p1) (i_p2 : in32 p2) (h : E_build σ p1 p2 = some (r, σr)) : CtI l D g yX7_build cX7_build 3 (some .int) 6 (wE g σ) (wE g σr) [.ref (g.2 0), .int (I p1), .int (I p2)] r (in32 r ∧ R32 σr) := by
  intro sz
  refine met_of (by decide) (Nat.le_of_ble_eq_true rfl) (fun p e s m args below meth c ls H locs C0 hml hr hlk hE hl => ?_)
  have C0 : CX p c cX7_build m s args D g RX7 := C0
  have hl : lv_has ls 3 [(0, .ref (g.2 0)), (1, .int (I p1)), (2, .int (I p2))] := hl
  unfold E_build at h
  refine lv_aload_n C0.1 C0.2.1 dX7_build_0 rfl (lv_at hl 0 rfl) ?_
  obtain ⟨v1, s2, h_v1, h⟩ := bnd_s h
  refine callV_i (rest := []) C0 hml hE (E_rec C0 hE) (c_E_begin l D g hR h_v1) kw_X7_120 ⟨Nat.le_of_ble_eq_true rfl, Nat.le_of_ble_eq_true rfl⟩ rfl hl.1 rfl (Nat.le_of_ble_eq_true rfl) dX7_build_1 ⟨Nat.zero_le _, Nat.zero_le _⟩ (fun H locs hE ⟨i_v1, hR⟩ => ?_)
  refine lv_pop C0.1 C0.2.1 dX7_build_4 rfl ?_
  refine lv_aload_n C0.1 C0.2.1 dX7_build_5 rfl (lv_at hl 0 rfl) ?_
  refine lv_iload_n C0.1 C0.2.1 dX7_build_6 rfl (lv_at hl 1 rfl) ?_
  refine lv_aload_n C0.1 C0.2.1 dX7_build_7 rfl (lv_at hl 0 rfl) ?_
  refine E_g_pool C0 hE fk_X7_10 dX7_build_8 ?_
  refine lv_aload_n C0.1 C0.2.1 dX7_build_11 rfl (lv_at hl 0 rfl) ?_
  refine E_g_fresh C0 hE fk_X7_62 dX7_build_12 ?_
  refine lv_iload_n C0.1 C0.2.1 dX7_build_15 rfl (lv_at hl 2 rfl) ?_
  obtain ⟨v3, s4, h_v3, h⟩ := bnd_s h
  refine callV_i (rest := [.int (I p1), .ref (g.2 0)]) C0 hml hE (Pool_rec C0 hE) (c_Pool_built_fresh l D g hR i_p2 h_v3) kw_X7_327 ⟨Nat.le_of_ble_eq_true rfl, Nat.le_of_ble_eq_true rfl⟩ rfl hl.1 rfl (Nat.le_of_ble_eq_true rfl) dX7_build_16 ⟨Nat.zero_le _, Nat.zero_le _⟩ (fun H locs hE ⟨i_v3, hR⟩ => ?_)
  refine lv_iload_n C0.1 C0.2.1 dX7_build_19 rfl (lv_at hl 2 rfl) ?_
  obtain ⟨v5, s6, h_v5, h⟩ := bnd_s h
  refine callV_i (rest := []) C0 hml hE (E_rec C0 hE) (c_E_keep l D g hR i_p1 i_v3 i_p2 h_v5) kw_X7_126 ⟨Nat.le_of_ble_eq_true rfl, Nat.le_of_ble_eq_true rfl⟩ rfl hl.1 rfl (Nat.le_of_ble_eq_true rfl) dX7_build_20 ⟨Nat.zero_le _, Nat.zero_le _⟩ (fun H locs hE ⟨i_v5, hR⟩ => ?_)
  exact ret_i (wf := wE g) C0 hr hlk hE h i_v5 hR dX7_build_23
set_option maxRecDepth 100000 in
set_option maxHeartbeats 4000000 in
theorem c_E_isPlace (l : Launch) (D : va_G) (g : Ad) {σ : St} {p1 r : Int} (i_p1 : in32 p1) (h : E_isPlace p1 = some r) : CtI l D g yX7_isPlace cX7_isPlace 1 (some .boolean) 1 (wE g σ) (wE g σ) [.int (I p1)] r (in32 r) := by
  intro sz
  refine met_of (by decide) (Nat.le_of_ble_eq_true rfl) (fun p e s m args below meth c ls H locs C0 hml hr hlk hE hl => ?_)
  have C0 : CX p c cX7_isPlace m s args D g RX7 := C0
  have hl : lv_has ls 1 [(0, .int (I p1))] := hl
  unfold E_isPlace at h
  refine lv_iload_n C0.1 C0.2.1 dX7_isPlace_0 rfl (lv_at hl 0 rfl) ?_
  refine x_if_lt C0 i_p1 dX7_isPlace_1 (tgt := 14) (by decide) (fun c9 => ?_) (fun c9 => ?_)
  · have h := ite_t c9 h
    refine lv_iconst (v := I 0) C0.1 C0.2.1 dX7_isPlace_14 rfl ?_
    exact pret_z C0 hr hlk hE (Or.inl rfl) h dX7_isPlace_15
  · have h := ite_f c9 h
    refine lv_iload_n C0.1 C0.2.1 dX7_isPlace_4 rfl (lv_at hl 0 rfl) ?_
    refine lv_bipush (v := I 6) C0.1 C0.2.1 dX7_isPlace_5 (by decide +kernel) ?_
    refine x_icmp_ge C0 i_p1 lit_6 dX7_isPlace_7 (tgt := 14) (by decide) (fun c9 => ?_) (fun c9 => ?_)
    · have h := ite_f c9 h
      refine lv_iconst (v := I 0) C0.1 C0.2.1 dX7_isPlace_14 rfl ?_
      exact pret_z C0 hr hlk hE (Or.inl rfl) h dX7_isPlace_15
    · have h := ite_t c9 h
      refine lv_iconst (v := I 1) C0.1 C0.2.1 dX7_isPlace_10 rfl ?_
      refine x_goto C0 dX7_isPlace_11 (tgt := 15) (by decide) ?_
      exact pret_z C0 hr hlk hE (Or.inr rfl) h dX7_isPlace_15
set_option maxRecDepth 100000 in
set_option maxHeartbeats 4000000 in
theorem c_E_tells (l : Launch) (D : va_G) (g : Ad) {σ σr : St} {p1 r : Int} (hR : R32 σ) (i_p1 : in32 p1) (h : E_tells σ p1 = some (r, σr)) : CtI l D g yX7_tells cX7_tells 3 (some .int) 7 (wE g σ) (wE g σr) [.ref (g.2 0), .int (I p1)] r (in32 r ∧ R32 σr) := by
  intro sz
  refine met_of (by decide) (Nat.le_of_ble_eq_true rfl) (fun p e s m args below meth c ls H locs C0 hml hr hlk hE hl => ?_)
  have C0 : CX p c cX7_tells m s args D g RX7 := C0
  have hl : lv_has ls 3 [(0, .ref (g.2 0)), (1, .int (I p1))] := hl
  unfold E_tells at h
  refine lv_aload_n C0.1 C0.2.1 dX7_tells_0 rfl (lv_at hl 0 rfl) ?_
  refine E_g_reader C0 hE fk_X7_26 dX7_tells_1 ?_
  refine lv_aload_n C0.1 C0.2.1 dX7_tells_4 rfl (lv_at hl 0 rfl) ?_
  refine E_g_fresh C0 hE fk_X7_62 dX7_tells_5 ?_
  obtain ⟨v1, s2, h_v1, h⟩ := bnd_s h
  refine callV_i (rest := []) C0 hml hE (Reader_rec C0 hE) (c_Reader_readRow_fresh l D g hR h_v1) kw_X7_78 ⟨Nat.le_of_ble_eq_true rfl, Nat.le_of_ble_eq_true rfl⟩ rfl hl.1 rfl (Nat.le_of_ble_eq_true rfl) dX7_tells_8 ⟨Nat.zero_le _, Nat.zero_le _⟩ (fun H locs hE ⟨i_v1, hR⟩ => ?_)
  refine lv_istore_n (lv' := [(2, .int (I v1)), (0, .ref (g.2 0)), (1, .int (I p1))]) C0.1 C0.2.1 dX7_tells_11 rfl hl (by decide) rfl (fun ls hl => ?_)
  refine lv_aload_n C0.1 C0.2.1 dX7_tells_12 rfl (lv_at hl 1 rfl) ?_
  refine E_g_text C0 hE fk_X7_34 dX7_tells_13 ?_
  refine lv_iconst (v := I 0) C0.1 C0.2.1 dX7_tells_16 rfl ?_
  obtain ⟨v3, s4, h_v3, h⟩ := bnd_s h
  refine callV_i (rest := []) C0 hml hE (Text_rec C0 hE) (c_Text_cut l D g hR lit_0 h_v3) kw_X7_74 ⟨Nat.le_of_ble_eq_true rfl, Nat.le_of_ble_eq_true rfl⟩ rfl hl.1 rfl (Nat.le_of_ble_eq_true rfl) dX7_tells_17 ⟨Nat.zero_le _, Nat.zero_le _⟩ (fun H locs hE ⟨i_v3, hR⟩ => ?_)
  refine lv_pop C0.1 C0.2.1 dX7_tells_20 rfl ?_
  refine lv_iload_n C0.1 C0.2.1 dX7_tells_21 rfl (lv_at hl 0 rfl) ?_
  refine lv_iconst (v := I (-1)) C0.1 C0.2.1 dX7_tells_22 rfl ?_
  refine x_icmp_ne C0 i_v1 lit_m1 dX7_tells_23 (tgt := 38) (by decide) (fun c9 => ?_) (fun c9 => ?_)
  · have h := ite_f c9 h
    refine lv_iload_n C0.1 C0.2.1 dX7_tells_38 rfl (lv_at hl 2 rfl) ?_
    obtain ⟨v5, h_v5, h⟩ := bndp_s h
    refine callS_i (rest := []) C0 hml hE (c_E_isPlace l D g (σ := s4) i_p1 h_v5) kw_X7_86 ⟨Nat.le_of_ble_eq_true rfl, Nat.le_of_ble_eq_true rfl⟩ rfl hl.1 rfl (Nat.le_of_ble_eq_true rfl) dX7_tells_39 ⟨Nat.zero_le _, Nat.zero_le _⟩ (fun H locs hE i_v5 => ?_)
    refine x_if_eq C0 i_v5 dX7_tells_42 (tgt := 54) (by decide) (fun c9 => ?_) (fun c9 => ?_)
    · have h := ite_t c9 h
      refine lv_iconst (v := I (-1)) C0.1 C0.2.1 dX7_tells_54 rfl ?_
      exact ret_i (wf := wE g) C0 hr hlk hE h lit_m1 hR dX7_tells_55
    · have h := ite_f c9 h
      refine lv_aload_n C0.1 C0.2.1 dX7_tells_45 rfl (lv_at hl 1 rfl) ?_
      refine lv_iload_n C0.1 C0.2.1 dX7_tells_46 rfl (lv_at hl 2 rfl) ?_
      refine lv_iload_n C0.1 C0.2.1 dX7_tells_47 rfl (lv_at hl 0 rfl) ?_
      obtain ⟨v6, s7, h_v6, h⟩ := bnd_s h
      refine callV_i (rest := []) C0 hml hE (E_rec C0 hE) (c_E_build l D g hR i_p1 i_v1 h_v6) kw_X7_89 ⟨Nat.le_of_ble_eq_true rfl, Nat.le_of_ble_eq_true rfl⟩ rfl hl.1 rfl (Nat.le_of_ble_eq_true rfl) dX7_tells_48 ⟨Nat.zero_le _, Nat.zero_le _⟩ (fun H locs hE ⟨i_v6, hR⟩ => ?_)
      refine x_goto C0 dX7_tells_51 (tgt := 55) (by decide) ?_
      exact ret_i (wf := wE g) C0 hr hlk hE h i_v6 hR dX7_tells_55
  · have h := ite_t c9 h
    refine lv_sipush (v := I (-2000)) C0.1 C0.2.1 dX7_tells_26 (by decide +kernel) ?_
    refine lv_aload_n C0.1 C0.2.1 dX7_tells_29 rfl (lv_at hl 1 rfl) ?_
    refine E_g_reader C0 hE fk_X7_26 dX7_tells_30 ?_
    obtain ⟨v8, e_v8, i_v8, h⟩ := gf_s hR h
    refine Reader_n_at C0 hE e_v8 nk_X7_82 dX7_tells_33 ?_
    obtain ⟨v9, e_v9, i_v9, h⟩ := osub_s h
    refine x_sub C0 e_v9 dX7_tells_36 ?_
    exact ret_i (wf := wE g) C0 hr hlk hE h i_v9 hR dX7_tells_37
set_option maxRecDepth 100000 in
set_option maxHeartbeats 4000000 in
theorem c_Shape_isEven (l : Launch) (D : va_G) (g : Ad) {σ : St} {p1 p2 r : Int} (i_p1 : in32 p1) (i_p2 : in32 p2) (h : Shape_isEven p1 p2 = some r) : CtI l D g yX3_isEven cX3_isEven 2 (some .boolean) 1 (wE g σ) (wE g σ) [.int (I p1), .int (I p2)] r (in32 r) := by
  intro sz
  refine met_of (by decide) (Nat.le_of_ble_eq_true rfl) (fun p e s m args below meth c ls H locs C0 hml hr hlk hE hl => ?_)
  have C0 : CX p c cX3_isEven m s args D g RX3 := C0
  have hl : lv_has ls 2 [(0, .int (I p1)), (1, .int (I p2))] := hl
  unfold Shape_isEven at h
  refine lv_iload_n C0.1 C0.2.1 dX3_isEven_0 rfl (lv_at hl 0 rfl) ?_
  refine lv_iload_n C0.1 C0.2.1 dX3_isEven_1 rfl (lv_at hl 1 rfl) ?_
  obtain ⟨k1, e_k1, h⟩ := jn_s h
  have h_k1 : ∀ (H : Heap) (locs : List Loc) (ls : Array Slot), EW D (va_A (wE g σ) sz) s.heap (wE g σ) H locs → lv_has ls 2 [] → k1 = some r → W p l e (rmk 1) s m args below meth c H locs 0 0 (MQ below (QCi D (wE g σ) r (in32 r) (va_A (wE g σ) sz)) args s 0 0 (va_A (wE g σ) sz)) (F0 m 12 ls []) := by
    intro H locs ls hE hl h
    have h := e_k1.symm.trans h
    refine lv_iconst (v := I 1) C0.1 C0.2.1 dX3_isEven_12 rfl ?_
    refine x_goto C0 dX3_isEven_13 (tgt := 17) (by decide) ?_
    exact pret_z C0 hr hlk hE (Or.inr rfl) h dX3_isEven_17
  refine x_icmp_eq C0 i_p1 i_p2 dX3_isEven_2 (tgt := 12) (by decide) (fun c9 => ?_) (fun c9 => ?_)
  · have h := ite_t c9 h
    exact h_k1 _ _ _ hE (lv_sub hl [] rfl) h
  · have h := ite_f c9 h
    refine lv_iload_n C0.1 C0.2.1 dX3_isEven_5 rfl (lv_at hl 0 rfl) ?_
    refine lv_iload_n C0.1 C0.2.1 dX3_isEven_6 rfl (lv_at hl 1 rfl) ?_
    refine lv_iconst (v := I 1) C0.1 C0.2.1 dX3_isEven_7 rfl ?_
    obtain ⟨v2, e_v2, i_v2, h⟩ := oadd_s h
    refine x_add C0 e_v2 dX3_isEven_8 ?_
    refine x_icmp_ne C0 i_p1 i_v2 dX3_isEven_9 (tgt := 16) (by decide) (fun c9 => ?_) (fun c9 => ?_)
    · have h := ite_f c9 h
      refine lv_iconst (v := I 0) C0.1 C0.2.1 dX3_isEven_16 rfl ?_
      exact pret_z C0 hr hlk hE (Or.inl rfl) h dX3_isEven_17
    · have h := ite_t c9 h
      exact h_k1 _ _ _ hE (lv_sub hl [] rfl) h
set_option maxRecDepth 100000 in
set_option maxHeartbeats 4000000 in
theorem c_Reader_firstUneven (l : Launch) (D : va_G) (g : Ad) {σ : St} {r : Int} (hR : R32 σ) (h : Reader_firstUneven σ = some r) : CtI l D g yX1_firstUneven cX1_firstUneven 2 (some .int) 2 (wE g σ) (wE g σ) [.ref (g.2 4)] r (in32 r) := by
  intro sz
  refine met_of (by decide) (Nat.le_of_ble_eq_true rfl) (fun p e s m args below meth c ls H locs C0 hml hr hlk hE hl => ?_)
  have C0 : CX p c cX1_firstUneven m s args D g RX1 := C0
  have hl : lv_has ls 2 [(0, .ref (g.2 4))] := hl
  unfold Reader_firstUneven at h
  refine lv_iconst (v := I 0) C0.1 C0.2.1 dX1_firstUneven_0 rfl ?_
  refine lv_istore_n (lv' := [(1, .int (I 0)), (0, .ref (g.2 4))]) C0.1 C0.2.1 dX1_firstUneven_1 rfl hl (by decide) rfl (fun ls hl => ?_)
  have hL2 : ∀ (n : Nat) (x1 : Int) (i_x1 : in32 x1) (H : Heap) (locs : List Loc) (ls : Array Slot), EW D (va_A (wE g σ) sz) s.heap (wE g σ) H locs → lv_has ls 2 [(0, .ref (g.2 4)), (1, .int (I x1))] → Reader_firstUneven_L2 σ n x1 = some r → W p l e (rmk 2) s m args below meth c H locs 0 0 (MQ below (QCi D (wE g σ) r (in32 r) (va_A (wE g σ) sz)) args s 0 0 (va_A (wE g σ) sz)) (F0 m 2 ls []) := by
    intro n
    induction n with
    | zero => intros; rename_i h; cases h
    | succ n ih2 =>
      intro x1 i_x1 H locs ls hE hl h
      unfold Reader_firstUneven_L2 at h
      refine lv_iload_n C0.1 C0.2.1 dX1_firstUneven_2 rfl (lv_at hl 1 rfl) ?_
      refine lv_aload_n C0.1 C0.2.1 dX1_firstUneven_3 rfl (lv_at hl 0 rfl) ?_
      obtain ⟨v3, e_v3, i_v3, h⟩ := gf_s hR h
      refine Reader_g_many C0 hE e_v3 fk_X1_50 dX1_firstUneven_4 ?_
      refine x_icmp_ge C0 i_x1 i_v3 dX1_firstUneven_7 (tgt := 36) (by decide) (fun c9 => ?_) (fun c9 => ?_)
      · have h := ite_f c9 h
        refine lv_iconst (v := I (-1)) C0.1 C0.2.1 dX1_firstUneven_36 rfl ?_
        exact pret_i C0 hr hlk hE h lit_m1 dX1_firstUneven_37
      · have h := ite_t c9 h
        refine lv_aload_n C0.1 C0.2.1 dX1_firstUneven_10 rfl (lv_at hl 0 rfl) ?_
        refine Reader_g_leftSizes C0 hE fk_X1_34 dX1_firstUneven_11 ?_
        refine lv_iload_n C0.1 C0.2.1 dX1_firstUneven_14 rfl (lv_at hl 1 rfl) ?_
        obtain ⟨v4, e_v4, i_v4, h⟩ := rd_s hR h
        refine Reader_leftSizes_l C0 hE i_x1 e_v4 dX1_firstUneven_15 ?_
        refine lv_aload_n C0.1 C0.2.1 dX1_firstUneven_16 rfl (lv_at hl 0 rfl) ?_
        refine Reader_g_rightSizes C0 hE fk_X1_37 dX1_firstUneven_17 ?_
        refine lv_iload_n C0.1 C0.2.1 dX1_firstUneven_20 rfl (lv_at hl 1 rfl) ?_
        obtain ⟨v5, e_v5, i_v5, h⟩ := rd_s hR h
        refine Reader_rightSizes_l C0 hE i_x1 e_v5 dX1_firstUneven_21 ?_
        obtain ⟨v6, h_v6, h⟩ := bndp_s h
        refine callS_i (rest := []) C0 hml hE (c_Shape_isEven l D g (σ := σ) i_v4 i_v5 h_v6) kw_X1_86 ⟨Nat.le_of_ble_eq_true rfl, Nat.le_of_ble_eq_true rfl⟩ rfl hl.1 rfl (Nat.le_of_ble_eq_true rfl) dX1_firstUneven_22 ⟨Nat.zero_le _, Nat.zero_le _⟩ (fun H locs hE i_v6 => ?_)
        refine x_if_ne C0 i_v6 dX1_firstUneven_25 (tgt := 30) (by decide) (fun c9 => ?_) (fun c9 => ?_)
        · have h := ite_f c9 h
          obtain ⟨v7, e_v7, i_v7, h⟩ := oadd_s h
          refine x_iinc (lv' := [(1, .int (I v7)), (0, .ref (g.2 4))]) C0 dX1_firstUneven_30 hl (k := 1) rfl e_v7 (by decide) rfl (fun ls hl => ?_)
          refine x_goto C0 dX1_firstUneven_33 (tgt := 2) (by decide) ?_
          exact ih2 v7 i_v7 _ _ _ hE (lv_sub hl [1, 0] rfl) h
        · have h := ite_t c9 h
          refine lv_iload_n C0.1 C0.2.1 dX1_firstUneven_28 rfl (lv_at hl 1 rfl) ?_
          exact pret_i C0 hr hlk hE h i_x1 dX1_firstUneven_29
  exact hL2 FU 0 lit_0 _ _ _ hE (lv_sub hl [1, 0] rfl) h
set_option maxRecDepth 100000 in
set_option maxHeartbeats 4000000 in
theorem c_Reader_numbersByIndex_fresh (l : Launch) (D : va_G) (g : Ad) {σ σr : St} {r : Int} (hR : R32 σ) (h : Reader_numbersByIndex_fresh σ = some (r, σr)) : CtI l D g yX1_numbersByIndex cX1_numbersByIndex 5 (some .int) 2 (wE g σ) (wE g σr) [.ref (g.2 4), .ref (g.2 28)] r (in32 r ∧ R32 σr) := by
  intro sz
  refine met_of (by decide) (Nat.le_of_ble_eq_true rfl) (fun p e s m args below meth c ls H locs C0 hml hr hlk hE hl => ?_)
  have C0 : CX p c cX1_numbersByIndex m s args D g RX1 := C0
  have hl : lv_has ls 5 [(0, .ref (g.2 4)), (1, .ref (g.2 28))] := hl
  unfold Reader_numbersByIndex_fresh at h
  refine lv_iconst (v := I 0) C0.1 C0.2.1 dX1_numbersByIndex_0 rfl ?_
  refine lv_istore_n (lv' := [(2, .int (I 0)), (0, .ref (g.2 4)), (1, .ref (g.2 28))]) C0.1 C0.2.1 dX1_numbersByIndex_1 rfl hl (by decide) rfl (fun ls hl => ?_)
  obtain ⟨k2, e_k2, h⟩ := jn_s h
  have h_k2 : ∀ (s1 : St) (hR : R32 s1) (H : Heap) (locs : List Loc) (ls : Array Slot), EW D (va_A (wE g σ) sz) s.heap (wE g s1) H locs → lv_has ls 5 [(0, .ref (g.2 4))] → k2 s1 = some (r, σr) → W p l e (rmk 2) s m args below meth c H locs 0 0 (MQ below (QCi D (wE g σr) r (in32 r ∧ R32 σr) (va_A (wE g σ) sz)) args s 0 0 (va_A (wE g σ) sz)) (F0 m 92 ls []) := by
    intro s1 hR H locs ls hE hl h
    have h := (congrFun e_k2 s1).symm.trans h
    refine lv_aload_n C0.1 C0.2.1 dX1_numbersByIndex_92 rfl (lv_at hl 0 rfl) ?_
    obtain ⟨v3, e_v3, i_v3, h⟩ := gf_s hR h
    refine Reader_g_many C0 hE e_v3 fk_X1_50 dX1_numbersByIndex_93 ?_
    exact ret_i (wf := wE g) C0 hr hlk hE h i_v3 hR dX1_numbersByIndex_96
  have hL2 : ∀ (n : Nat) (s5 : St) (hR : R32 s5) (x4 : Int) (i_x4 : in32 x4) (H : Heap) (locs : List Loc) (ls : Array Slot), EW D (va_A (wE g σ) sz) s.heap (wE g s5) H locs → lv_has ls 5 [(0, .ref (g.2 4)), (1, .ref (g.2 28)), (2, .int (I x4))] → Reader_numbersByIndex_fresh_L2 k2 n s5 x4 = some (r, σr) → W p l e (rmk 2) s m args below meth c H locs 0 0 (MQ below (QCi D (wE g σr) r (in32 r ∧ R32 σr) (va_A (wE g σ) sz)) args s 0 0 (va_A (wE g σ) sz)) (F0 m 2 ls []) := by
    intro n
    induction n with
    | zero => intros; rename_i h; cases h
    | succ n ih6 =>
      intro s5 hR x4 i_x4 H locs ls hE hl h
      unfold Reader_numbersByIndex_fresh_L2 at h
      refine lv_iload_n C0.1 C0.2.1 dX1_numbersByIndex_2 rfl (lv_at hl 2 rfl) ?_
      refine lv_aload_n C0.1 C0.2.1 dX1_numbersByIndex_3 rfl (lv_at hl 0 rfl) ?_
      obtain ⟨v7, e_v7, i_v7, h⟩ := gf_s hR h
      refine Reader_g_many C0 hE e_v7 fk_X1_50 dX1_numbersByIndex_4 ?_
      refine x_icmp_ge C0 i_x4 i_v7 dX1_numbersByIndex_7 (tgt := 92) (by decide) (fun c9 => ?_) (fun c9 => ?_)
      · have h := ite_f c9 h
        exact h_k2 s5 hR _ _ _ hE (lv_sub hl [0] rfl) h
      · have h := ite_t c9 h
        refine lv_aload_n C0.1 C0.2.1 dX1_numbersByIndex_10 rfl (lv_at hl 0 rfl) ?_
        refine Reader_g_parents C0 hE fk_X1_25 dX1_numbersByIndex_11 ?_
        refine lv_iload_n C0.1 C0.2.1 dX1_numbersByIndex_14 rfl (lv_at hl 2 rfl) ?_
        obtain ⟨v8, e_v8, i_v8, h⟩ := rd_s hR h
        refine Reader_parents_l C0 hE i_x4 e_v8 dX1_numbersByIndex_15 ?_
        refine lv_istore_n (lv' := [(3, .int (I v8)), (0, .ref (g.2 4)), (1, .ref (g.2 28)), (2, .int (I x4))]) C0.1 C0.2.1 dX1_numbersByIndex_16 rfl hl (by decide) rfl (fun ls hl => ?_)
        refine lv_iconst (v := I 0) C0.1 C0.2.1 dX1_numbersByIndex_17 rfl ?_
        refine lv_istore (lv' := [(4, .int (I 0)), (3, .int (I v8)), (0, .ref (g.2 4)), (1, .ref (g.2 28)), (2, .int (I x4))]) C0.1 C0.2.1 dX1_numbersByIndex_18 hl (by decide) rfl (fun ls hl => ?_)
        refine lv_iload_n C0.1 C0.2.1 dX1_numbersByIndex_20 rfl (lv_at hl 1 rfl) ?_
        obtain ⟨k10, e_k10, h⟩ := jn_s h
        have h_k10 : ∀ (x9 : Int) (i_x9 : in32 x9) (H : Heap) (locs : List Loc) (ls : Array Slot), EW D (va_A (wE g σ) sz) s.heap (wE g s5) H locs → lv_has ls 5 [(0, .ref (g.2 4)), (1, .ref (g.2 28)), (2, .int (I x4)), (4, .int (I x9))] → k10 x9 = some (r, σr) → W p l e (rmk 2) s m args below meth c H locs 0 0 (MQ below (QCi D (wE g σr) r (in32 r ∧ R32 σr) (va_A (wE g σ) sz)) args s 0 0 (va_A (wE g σ) sz)) (F0 m 56 ls []) := by
          intro x9 i_x9 H locs ls hE hl h
          have h := (congrFun e_k10 x9).symm.trans h
          refine lv_aload_n C0.1 C0.2.1 dX1_numbersByIndex_56 rfl (lv_at hl 0 rfl) ?_
          refine Reader_g_indexes C0 hE fk_X1_40 dX1_numbersByIndex_57 ?_
          refine lv_iload_n C0.1 C0.2.1 dX1_numbersByIndex_60 rfl (lv_at hl 2 rfl) ?_
          refine lv_iload C0.1 C0.2.1 dX1_numbersByIndex_61 (lv_at hl 3 rfl) ?_
          obtain ⟨s11, e_s11, hR, h⟩ := wr_s hR i_x9 h
          refine Reader_indexes_st C0 hE i_x4 e_s11 dX1_numbersByIndex_63 (fun H locs hE => ?_)
          refine lv_iload C0.1 C0.2.1 dX1_numbersByIndex_64 (lv_at hl 3 rfl) ?_
          obtain ⟨k13, e_k13, h⟩ := jn_s h
          have h_k13 : ∀ (s12 : St) (hR : R32 s12) (H : Heap) (locs : List Loc) (ls : Array Slot), EW D (va_A (wE g σ) sz) s.heap (wE g s12) H locs → lv_has ls 5 [(0, .ref (g.2 4)), (1, .ref (g.2 28)), (2, .int (I x4))] → k13 s12 = some (r, σr) → W p l e (rmk 2) s m args below meth c H locs 0 0 (MQ below (QCi D (wE g σr) r (in32 r ∧ R32 σr) (va_A (wE g σ) sz)) args s 0 0 (va_A (wE g σ) sz)) (F0 m 86 ls []) := by
            intro s12 hR H locs ls hE hl h
            have h := (congrFun e_k13 s12).symm.trans h
            obtain ⟨v14, e_v14, i_v14, h⟩ := oadd_s h
            refine x_iinc (lv' := [(2, .int (I v14)), (0, .ref (g.2 4)), (1, .ref (g.2 28))]) C0 dX1_numbersByIndex_86 hl (k := 2) rfl e_v14 (by decide) rfl (fun ls hl => ?_)
            refine x_goto C0 dX1_numbersByIndex_89 (tgt := 2) (by decide) ?_
            exact ih6 s12 hR v14 i_v14 _ _ _ hE (lv_sub hl [1, 2, 0] rfl) h
          refine x_if_lt C0 i_x9 dX1_numbersByIndex_66 (tgt := 86) (by decide) (fun c9 => ?_) (fun c9 => ?_)
          · have h := ite_t c9 h
            exact h_k13 s11 hR _ _ _ hE (lv_sub hl [0, 1, 2] rfl) h
          · have h := ite_f c9 h
            refine lv_iload C0.1 C0.2.1 dX1_numbersByIndex_69 (lv_at hl 3 rfl) ?_
            refine lv_aload_n C0.1 C0.2.1 dX1_numbersByIndex_71 rfl (lv_at hl 1 rfl) ?_
            refine E_fresh_len C0 hE dX1_numbersByIndex_72 ?_
            refine x_icmp_ge C0 i_x9 lit_256 dX1_numbersByIndex_73 (tgt := 86) (by decide) (fun c9 => ?_) (fun c9 => ?_)
            · have h := ite_f c9 h
              exact h_k13 s11 hR _ _ _ hE (lv_sub hl [0, 1, 2] rfl) h
            · have h := ite_t c9 h
              refine lv_aload_n C0.1 C0.2.1 dX1_numbersByIndex_76 rfl (lv_at hl 1 rfl) ?_
              refine lv_iload C0.1 C0.2.1 dX1_numbersByIndex_77 (lv_at hl 3 rfl) ?_
              refine lv_aload_n C0.1 C0.2.1 dX1_numbersByIndex_79 rfl (lv_at hl 0 rfl) ?_
              refine Reader_g_values C0 hE fk_X1_22 dX1_numbersByIndex_80 ?_
              refine lv_iload_n C0.1 C0.2.1 dX1_numbersByIndex_83 rfl (lv_at hl 2 rfl) ?_
              obtain ⟨v15, e_v15, i_v15, h⟩ := rd_s hR h
              refine Reader_values_l C0 hE i_x4 e_v15 dX1_numbersByIndex_84 ?_
              obtain ⟨s16, e_s16, hR, h⟩ := wr_s hR i_v15 h
              refine E_fresh_st C0 hE i_x9 e_s16 dX1_numbersByIndex_85 (fun H locs hE => ?_)
              exact h_k13 s16 hR _ _ _ hE (lv_sub hl [0, 1, 2] rfl) h
        refine x_if_lt C0 i_v8 dX1_numbersByIndex_21 (tgt := 56) (by decide) (fun c9 => ?_) (fun c9 => ?_)
        · have h := ite_t c9 h
          exact h_k10 0 lit_0 _ _ _ hE (lv_sub hl [2, 3, 4, 0] rfl) h
        · have h := ite_f c9 h
          refine lv_iload_n C0.1 C0.2.1 dX1_numbersByIndex_24 rfl (lv_at hl 1 rfl) ?_
          refine lv_iload_n C0.1 C0.2.1 dX1_numbersByIndex_25 rfl (lv_at hl 4 rfl) ?_
          refine x_icmp_ge C0 i_v8 i_x4 dX1_numbersByIndex_26 (tgt := 56) (by decide) (fun c9 => ?_) (fun c9 => ?_)
          · have h := ite_f c9 h
            exact h_k10 0 lit_0 _ _ _ hE (lv_sub hl [2, 3, 4, 0] rfl) h
          · have h := ite_t c9 h
            refine lv_aload_n C0.1 C0.2.1 dX1_numbersByIndex_29 rfl (lv_at hl 2 rfl) ?_
            refine Reader_g_indexes C0 hE fk_X1_40 dX1_numbersByIndex_30 ?_
            refine lv_iload_n C0.1 C0.2.1 dX1_numbersByIndex_33 rfl (lv_at hl 1 rfl) ?_
            obtain ⟨v17, e_v17, i_v17, h⟩ := rd_s hR h
            refine Reader_indexes_l C0 hE i_v8 e_v17 dX1_numbersByIndex_34 ?_
            refine lv_iconst (v := I 1) C0.1 C0.2.1 dX1_numbersByIndex_35 rfl ?_
            refine lv_aload_n C0.1 C0.2.1 dX1_numbersByIndex_36 rfl (lv_at hl 2 rfl) ?_
            refine Reader_g_sidesOfParents C0 hE fk_X1_28 dX1_numbersByIndex_37 ?_
            refine lv_iload_n C0.1 C0.2.1 dX1_numbersByIndex_40 rfl (lv_at hl 4 rfl) ?_
            obtain ⟨v18, e_v18, i_v18, h⟩ := rd_s hR h
            refine Reader_sidesOfParents_l C0 hE i_x4 e_v18 dX1_numbersByIndex_41 ?_
            obtain ⟨v19, e_v19, i_v19, h⟩ := oadd_s h
            refine x_add C0 e_v19 dX1_numbersByIndex_42 ?_
            refine lv_aload_n C0.1 C0.2.1 dX1_numbersByIndex_43 rfl (lv_at hl 2 rfl) ?_
            refine Reader_g_indexes C0 hE fk_X1_40 dX1_numbersByIndex_44 ?_
            refine lv_iload_n C0.1 C0.2.1 dX1_numbersByIndex_47 rfl (lv_at hl 1 rfl) ?_
            obtain ⟨v20, e_v20, i_v20, h⟩ := rd_s hR h
            refine Reader_indexes_l C0 hE i_v8 e_v20 dX1_numbersByIndex_48 ?_
            obtain ⟨v21, h_v21, h⟩ := bndp_s h
            refine callS_i (rest := [.int (I v19), .int (I v17)]) C0 hml hE (c_Shape_stride l D g (σ := s5) i_v20 h_v21) kw_X1_92 ⟨Nat.le_of_ble_eq_true rfl, Nat.le_of_ble_eq_true rfl⟩ rfl hl.1 rfl (Nat.le_of_ble_eq_true rfl) dX1_numbersByIndex_49 ⟨Nat.zero_le _, Nat.zero_le _⟩ (fun H locs hE i_v21 => ?_)
            obtain ⟨v22, e_v22, i_v22, h⟩ := omul_s h
            refine x_mul C0 e_v22 dX1_numbersByIndex_52 ?_
            obtain ⟨v23, e_v23, i_v23, h⟩ := oadd_s h
            refine x_add C0 e_v23 dX1_numbersByIndex_53 ?_
            refine lv_istore (lv' := [(4, .int (I v23)), (3, .int (I v8)), (0, .ref (g.2 4)), (1, .ref (g.2 28)), (2, .int (I x4))]) C0.1 C0.2.1 dX1_numbersByIndex_54 hl (by decide) rfl (fun ls hl => ?_)
            exact h_k10 v23 i_v23 _ _ _ hE (lv_sub hl [2, 3, 4, 0] rfl) h
  exact hL2 FU σ hR 0 lit_0 _ _ _ hE (lv_sub hl [1, 2, 0] rfl) h
set_option maxRecDepth 100000 in
set_option maxHeartbeats 4000000 in
theorem c_Reader_settle (l : Launch) (D : va_G) (g : Ad) {σ σr : St} {p1 r : Int} (hR : R32 σ) (i_p1 : in32 p1) (h : Reader_settle σ p1 = some (r, σr)) : CtV l D g yX1_settle cX1_settle 2 none 1 (wE g σ) (wE g σr) [.ref (g.2 4), .int (I p1)] (R32 σr) := by
  intro sz
  refine met_of (by decide) (Nat.le_of_ble_eq_true rfl) (fun p e s m args below meth c ls H locs C0 hml hr hlk hE hl => ?_)
  have C0 : CX p c cX1_settle m s args D g RX1 := C0
  have hl : lv_has ls 2 [(0, .ref (g.2 4)), (1, .int (I p1))] := hl
  unfold Reader_settle at h
  refine lv_aload_n C0.1 C0.2.1 dX1_settle_0 rfl (lv_at hl 0 rfl) ?_
  obtain ⟨v1, e_v1, i_v1, h⟩ := gf_s hR h
  refine Reader_g_open C0 hE e_v1 fk_X1_53 dX1_settle_1 ?_
  refine lv_iconst (v := I (-1)) C0.1 C0.2.1 dX1_settle_4 rfl ?_
  refine x_icmp_ne C0 i_v1 lit_m1 dX1_settle_5 (tgt := 14) (by decide) (fun c9 => ?_) (fun c9 => ?_)
  · have h := ite_f c9 h
    refine lv_aload_n C0.1 C0.2.1 dX1_settle_14 rfl (lv_at hl 0 rfl) ?_
    refine Reader_g_sidesRead C0 hE fk_X1_31 dX1_settle_15 ?_
    refine lv_aload_n C0.1 C0.2.1 dX1_settle_18 rfl (lv_at hl 0 rfl) ?_
    obtain ⟨v2, e_v2, i_v2, h⟩ := gf_s hR h
    refine Reader_g_open C0 hE e_v2 fk_X1_53 dX1_settle_19 ?_
    obtain ⟨v3, e_v3, i_v3, h⟩ := rd_s hR h
    refine Reader_sidesRead_l C0 hE i_v2 e_v3 dX1_settle_22 ?_
    obtain ⟨k5, e_k5, h⟩ := jn_s h
    have h_k5 : ∀ (s4 : St) (hR : R32 s4) (H : Heap) (locs : List Loc) (ls : Array Slot), EW D (va_A (wE g σ) sz) s.heap (wE g s4) H locs → lv_has ls 2 [(0, .ref (g.2 4))] → k5 s4 = some (r, σr) → W p l e (rmk 1) s m args below meth c H locs 0 0 (MQ below (QCv D (wE g σr) (R32 σr) (va_A (wE g σ) sz)) args s 0 0 (va_A (wE g σ) sz)) (F0 m 49 ls []) := by
      intro s4 hR H locs ls hE hl h
      have h := (congrFun e_k5 s4).symm.trans h
      refine lv_aload_n C0.1 C0.2.1 dX1_settle_49 rfl (lv_at hl 0 rfl) ?_
      refine Reader_g_sidesRead C0 hE fk_X1_31 dX1_settle_50 ?_
      refine lv_aload_n C0.1 C0.2.1 dX1_settle_53 rfl (lv_at hl 0 rfl) ?_
      obtain ⟨v6, e_v6, i_v6, h⟩ := gf_s hR h
      refine Reader_g_open C0 hE e_v6 fk_X1_53 dX1_settle_54 ?_
      refine lv_dup2_11 C0.1 C0.2.1 dX1_settle_57 rfl rfl ?_
      obtain ⟨v7, e_v7, i_v7, h⟩ := rd_s hR h
      refine Reader_sidesRead_l C0 hE i_v6 e_v7 dX1_settle_58 ?_
      refine lv_iconst (v := I 1) C0.1 C0.2.1 dX1_settle_59 rfl ?_
      obtain ⟨v8, e_v8, i_v8, h⟩ := oadd_s h
      refine x_add C0 e_v8 dX1_settle_60 ?_
      obtain ⟨s9, e_s9, hR, h⟩ := wr_s hR i_v8 h
      refine Reader_sidesRead_st C0 hE i_v6 e_s9 dX1_settle_61 (fun H locs hE => ?_)
      exact ret_v (wf := wE g) C0 hr hlk hE h hR dX1_settle_62
    refine x_if_ne C0 i_v3 dX1_settle_23 (tgt := 39) (by decide) (fun c9 => ?_) (fun c9 => ?_)
    · have h := ite_f c9 h
      refine lv_aload_n C0.1 C0.2.1 dX1_settle_39 rfl (lv_at hl 0 rfl) ?_
      refine Reader_g_rightSizes C0 hE fk_X1_37 dX1_settle_40 ?_
      refine lv_aload_n C0.1 C0.2.1 dX1_settle_43 rfl (lv_at hl 0 rfl) ?_
      obtain ⟨v10, e_v10, i_v10, h⟩ := gf_s hR h
      refine Reader_g_open C0 hE e_v10 fk_X1_53 dX1_settle_44 ?_
      refine lv_iload_n C0.1 C0.2.1 dX1_settle_47 rfl (lv_at hl 1 rfl) ?_
      obtain ⟨s11, e_s11, hR, h⟩ := wr_s hR i_p1 h
      refine Reader_rightSizes_st C0 hE i_v10 e_s11 dX1_settle_48 (fun H locs hE => ?_)
      exact h_k5 s11 hR _ _ _ hE (lv_sub hl [0] rfl) h
    · have h := ite_t c9 h
      refine lv_aload_n C0.1 C0.2.1 dX1_settle_26 rfl (lv_at hl 0 rfl) ?_
      refine Reader_g_leftSizes C0 hE fk_X1_34 dX1_settle_27 ?_
      refine lv_aload_n C0.1 C0.2.1 dX1_settle_30 rfl (lv_at hl 0 rfl) ?_
      obtain ⟨v12, e_v12, i_v12, h⟩ := gf_s hR h
      refine Reader_g_open C0 hE e_v12 fk_X1_53 dX1_settle_31 ?_
      refine lv_iload_n C0.1 C0.2.1 dX1_settle_34 rfl (lv_at hl 1 rfl) ?_
      obtain ⟨s13, e_s13, hR, h⟩ := wr_s hR i_p1 h
      refine Reader_leftSizes_st C0 hE i_v12 e_s13 dX1_settle_35 (fun H locs hE => ?_)
      refine x_goto C0 dX1_settle_36 (tgt := 49) (by decide) ?_
      exact h_k5 s13 hR _ _ _ hE (lv_sub hl [0] rfl) h
  · have h := ite_t c9 h
    refine lv_aload_n C0.1 C0.2.1 dX1_settle_8 rfl (lv_at hl 0 rfl) ?_
    refine lv_iconst (v := I 1) C0.1 C0.2.1 dX1_settle_9 rfl ?_
    obtain ⟨s14, e_s14, hR, h⟩ := pfZ_s hR h
    refine Reader_p_whole C0 hE e_s14.2 e_s14.1 fk_X1_56 dX1_settle_10 (fun H locs hE => ?_)
    exact ret_v (wf := wE g) C0 hr hlk hE h hR dX1_settle_13
set_option maxRecDepth 100000 in
set_option maxHeartbeats 4000000 in
theorem c_Reader_close (l : Launch) (D : va_G) (g : Ad) {σ σr : St} {r : Int} (hR : R32 σ) (h : Reader_close σ = some (r, σr)) : CtI l D g yX1_close cX1_close 2 (some .boolean) 2 (wE g σ) (wE g σr) [.ref (g.2 4)] r (in32 r ∧ R32 σr) := by
  intro sz
  refine met_of (by decide) (Nat.le_of_ble_eq_true rfl) (fun p e s m args below meth c ls H locs C0 hml hr hlk hE hl => ?_)
  have C0 : CX p c cX1_close m s args D g RX1 := C0
  have hl : lv_has ls 2 [(0, .ref (g.2 4))] := hl
  unfold Reader_close at h
  refine lv_aload_n C0.1 C0.2.1 dX1_close_0 rfl (lv_at hl 0 rfl) ?_
  refine lv_dup C0.1 C0.2.1 dX1_close_1 rfl ?_
  obtain ⟨v1, e_v1, i_v1, h⟩ := gf_s hR h
  refine Reader_g_at C0 hE e_v1 fk_X1_43 dX1_close_2 ?_
  refine lv_iconst (v := I 1) C0.1 C0.2.1 dX1_close_5 rfl ?_
  obtain ⟨v2, e_v2, i_v2, h⟩ := oadd_s h
  refine x_add C0 e_v2 dX1_close_6 ?_
  obtain ⟨s3, e_s3, hR, h⟩ := pf_s hR i_v2 h
  refine Reader_p_at C0 hE e_s3 fk_X1_43 dX1_close_7 (fun H locs hE => ?_)
  refine lv_iconst (v := I 1) C0.1 C0.2.1 dX1_close_10 rfl ?_
  refine lv_aload_n C0.1 C0.2.1 dX1_close_11 rfl (lv_at hl 0 rfl) ?_
  refine Reader_g_leftSizes C0 hE fk_X1_34 dX1_close_12 ?_
  refine lv_aload_n C0.1 C0.2.1 dX1_close_15 rfl (lv_at hl 0 rfl) ?_
  obtain ⟨v4, e_v4, i_v4, h⟩ := gf_s hR h
  refine Reader_g_open C0 hE e_v4 fk_X1_53 dX1_close_16 ?_
  obtain ⟨v5, e_v5, i_v5, h⟩ := rd_s hR h
  refine Reader_leftSizes_l C0 hE i_v4 e_v5 dX1_close_19 ?_
  obtain ⟨v6, e_v6, i_v6, h⟩ := oadd_s h
  refine x_add C0 e_v6 dX1_close_20 ?_
  refine lv_aload_n C0.1 C0.2.1 dX1_close_21 rfl (lv_at hl 0 rfl) ?_
  refine Reader_g_rightSizes C0 hE fk_X1_37 dX1_close_22 ?_
  refine lv_aload_n C0.1 C0.2.1 dX1_close_25 rfl (lv_at hl 0 rfl) ?_
  obtain ⟨v7, e_v7, i_v7, h⟩ := gf_s hR h
  refine Reader_g_open C0 hE e_v7 fk_X1_53 dX1_close_26 ?_
  obtain ⟨v8, e_v8, i_v8, h⟩ := rd_s hR h
  refine Reader_rightSizes_l C0 hE i_v7 e_v8 dX1_close_29 ?_
  obtain ⟨v9, e_v9, i_v9, h⟩ := oadd_s h
  refine x_add C0 e_v9 dX1_close_30 ?_
  refine lv_istore_n (lv' := [(1, .int (I v9)), (0, .ref (g.2 4))]) C0.1 C0.2.1 dX1_close_31 rfl hl (by decide) rfl (fun ls hl => ?_)
  refine lv_aload_n C0.1 C0.2.1 dX1_close_32 rfl (lv_at hl 1 rfl) ?_
  refine lv_aload_n C0.1 C0.2.1 dX1_close_33 rfl (lv_at hl 1 rfl) ?_
  refine Reader_g_parents C0 hE fk_X1_25 dX1_close_34 ?_
  refine lv_aload_n C0.1 C0.2.1 dX1_close_37 rfl (lv_at hl 1 rfl) ?_
  obtain ⟨v10, e_v10, i_v10, h⟩ := gf_s hR h
  refine Reader_g_open C0 hE e_v10 fk_X1_53 dX1_close_38 ?_
  obtain ⟨v11, e_v11, i_v11, h⟩ := rd_s hR h
  refine Reader_parents_l C0 hE i_v10 e_v11 dX1_close_41 ?_
  obtain ⟨s12, e_s12, hR, h⟩ := pf_s hR i_v11 h
  refine Reader_p_open C0 hE e_s12 fk_X1_53 dX1_close_42 (fun H locs hE => ?_)
  refine lv_aload_n C0.1 C0.2.1 dX1_close_45 rfl (lv_at hl 1 rfl) ?_
  refine lv_iload_n C0.1 C0.2.1 dX1_close_46 rfl (lv_at hl 0 rfl) ?_
  obtain ⟨v13, s14, h_v13, h⟩ := bnd_s h
  refine callV_v (rest := []) C0 hml hE (Reader_rec C0 hE) (c_Reader_settle l D g hR i_v9 h_v13) kw_X1_79 ⟨Nat.le_of_ble_eq_true rfl, Nat.le_of_ble_eq_true rfl⟩ rfl hl.1 rfl (Nat.le_of_ble_eq_true rfl) dX1_close_47 ⟨Nat.zero_le _, Nat.zero_le _⟩ (fun H locs hE hR => ?_)
  refine lv_iconst (v := I 1) C0.1 C0.2.1 dX1_close_50 rfl ?_
  exact ret_z (wf := wE g) C0 hr hlk hE (Or.inr rfl) h hR dX1_close_51
set_option maxRecDepth 100000 in
set_option maxHeartbeats 4000000 in
theorem c_Reader_openNode (l : Launch) (D : va_G) (g : Ad) {σ σr : St} {r : Int} (hR : R32 σ) (h : Reader_openNode σ = some (r, σr)) : CtI l D g yX1_openNode cX1_openNode 2 (some .boolean) 3 (wE g σ) (wE g σr) [.ref (g.2 4)] r (in32 r ∧ R32 σr) := by
  intro sz
  refine met_of (by decide) (Nat.le_of_ble_eq_true rfl) (fun p e s m args below meth c ls H locs C0 hml hr hlk hE hl => ?_)
  have C0 : CX p c cX1_openNode m s args D g RX1 := C0
  have hl : lv_has ls 2 [(0, .ref (g.2 4))] := hl
  unfold Reader_openNode at h
  refine lv_aload_n C0.1 C0.2.1 dX1_openNode_0 rfl (lv_at hl 0 rfl) ?_
  obtain ⟨v1, e_v1, i_v1, h⟩ := gf_s hR h
  refine Reader_g_at C0 hE e_v1 fk_X1_43 dX1_openNode_1 ?_
  refine lv_istore_n (lv' := [(1, .int (I v1)), (0, .ref (g.2 4))]) C0.1 C0.2.1 dX1_openNode_4 rfl hl (by decide) rfl (fun ls hl => ?_)
  refine lv_aload_n C0.1 C0.2.1 dX1_openNode_5 rfl (lv_at hl 1 rfl) ?_
  refine lv_dup C0.1 C0.2.1 dX1_openNode_6 rfl ?_
  obtain ⟨v2, e_v2, i_v2, h⟩ := gf_s hR h
  refine Reader_g_at C0 hE e_v2 fk_X1_43 dX1_openNode_7 ?_
  refine lv_iconst (v := I 1) C0.1 C0.2.1 dX1_openNode_10 rfl ?_
  obtain ⟨v3, e_v3, i_v3, h⟩ := oadd_s h
  refine x_add C0 e_v3 dX1_openNode_11 ?_
  obtain ⟨s4, e_s4, hR, h⟩ := pf_s hR i_v3 h
  refine Reader_p_at C0 hE e_s4 fk_X1_43 dX1_openNode_12 (fun H locs hE => ?_)
  refine lv_aload_n C0.1 C0.2.1 dX1_openNode_15 rfl (lv_at hl 1 rfl) ?_
  obtain ⟨v5, s6, h_v5, h⟩ := bnd_s h
  refine callV_i (rest := []) C0 hml hE (Reader_rec C0 hE) (c_Reader_readNumber l D g hR h_v5) kw_X1_61 ⟨Nat.le_of_ble_eq_true rfl, Nat.le_of_ble_eq_true rfl⟩ rfl hl.1 rfl (Nat.le_of_ble_eq_true rfl) dX1_openNode_16 ⟨Nat.zero_le _, Nat.zero_le _⟩ (fun H locs hE ⟨i_v5, hR⟩ => ?_)
  refine x_if_eq C0 i_v5 dX1_openNode_19 (tgt := 31) (by decide) (fun c9 => ?_) (fun c9 => ?_)
  · have h := ite_t c9 h
    refine lv_iconst (v := I 0) C0.1 C0.2.1 dX1_openNode_31 rfl ?_
    exact ret_z (wf := wE g) C0 hr hlk hE (Or.inl rfl) h hR dX1_openNode_32
  · have h := ite_f c9 h
    refine lv_aload_n C0.1 C0.2.1 dX1_openNode_22 rfl (lv_at hl 1 rfl) ?_
    obtain ⟨v7, e_v7, i_v7, h⟩ := gf_s hR h
    refine Reader_g_many C0 hE e_v7 fk_X1_50 dX1_openNode_23 ?_
    refine lv_bipush (v := I 100) C0.1 C0.2.1 dX1_openNode_26 (by decide +kernel) ?_
    refine x_icmp_lt C0 i_v7 lit_100 dX1_openNode_28 (tgt := 33) (by decide) (fun c9 => ?_) (fun c9 => ?_)
    · have h := ite_t c9 h
      refine lv_aload_n C0.1 C0.2.1 dX1_openNode_33 rfl (lv_at hl 1 rfl) ?_
      refine Reader_g_starts C0 hE fk_X1_18 dX1_openNode_34 ?_
      refine lv_aload_n C0.1 C0.2.1 dX1_openNode_37 rfl (lv_at hl 1 rfl) ?_
      obtain ⟨v8, e_v8, i_v8, h⟩ := gf_s hR h
      refine Reader_g_many C0 hE e_v8 fk_X1_50 dX1_openNode_38 ?_
      refine lv_iload_n C0.1 C0.2.1 dX1_openNode_41 rfl (lv_at hl 0 rfl) ?_
      obtain ⟨s9, e_s9, hR, h⟩ := wr_s hR i_v1 h
      refine Reader_starts_st C0 hE i_v8 e_s9 dX1_openNode_42 (fun H locs hE => ?_)
      refine lv_aload_n C0.1 C0.2.1 dX1_openNode_43 rfl (lv_at hl 1 rfl) ?_
      refine Reader_g_values C0 hE fk_X1_22 dX1_openNode_44 ?_
      refine lv_aload_n C0.1 C0.2.1 dX1_openNode_47 rfl (lv_at hl 1 rfl) ?_
      obtain ⟨v10, e_v10, i_v10, h⟩ := gf_s hR h
      refine Reader_g_many C0 hE e_v10 fk_X1_50 dX1_openNode_48 ?_
      refine lv_aload_n C0.1 C0.2.1 dX1_openNode_51 rfl (lv_at hl 1 rfl) ?_
      obtain ⟨v11, e_v11, i_v11, h⟩ := gf_s hR h
      refine Reader_g_number C0 hE e_v11 fk_X1_47 dX1_openNode_52 ?_
      obtain ⟨s12, e_s12, hR, h⟩ := wr_s hR i_v11 h
      refine Reader_values_st C0 hE i_v10 e_s12 dX1_openNode_55 (fun H locs hE => ?_)
      refine lv_aload_n C0.1 C0.2.1 dX1_openNode_56 rfl (lv_at hl 1 rfl) ?_
      refine Reader_g_parents C0 hE fk_X1_25 dX1_openNode_57 ?_
      refine lv_aload_n C0.1 C0.2.1 dX1_openNode_60 rfl (lv_at hl 1 rfl) ?_
      obtain ⟨v13, e_v13, i_v13, h⟩ := gf_s hR h
      refine Reader_g_many C0 hE e_v13 fk_X1_50 dX1_openNode_61 ?_
      refine lv_aload_n C0.1 C0.2.1 dX1_openNode_64 rfl (lv_at hl 1 rfl) ?_
      obtain ⟨v14, e_v14, i_v14, h⟩ := gf_s hR h
      refine Reader_g_open C0 hE e_v14 fk_X1_53 dX1_openNode_65 ?_
      obtain ⟨s15, e_s15, hR, h⟩ := wr_s hR i_v14 h
      refine Reader_parents_st C0 hE i_v13 e_s15 dX1_openNode_68 (fun H locs hE => ?_)
      refine lv_aload_n C0.1 C0.2.1 dX1_openNode_69 rfl (lv_at hl 1 rfl) ?_
      refine Reader_g_sidesOfParents C0 hE fk_X1_28 dX1_openNode_70 ?_
      refine lv_aload_n C0.1 C0.2.1 dX1_openNode_73 rfl (lv_at hl 1 rfl) ?_
      obtain ⟨v16, e_v16, i_v16, h⟩ := gf_s hR h
      refine Reader_g_many C0 hE e_v16 fk_X1_50 dX1_openNode_74 ?_
      refine lv_aload_n C0.1 C0.2.1 dX1_openNode_77 rfl (lv_at hl 1 rfl) ?_
      obtain ⟨v17, e_v17, i_v17, h⟩ := gf_s hR h
      refine Reader_g_open C0 hE e_v17 fk_X1_53 dX1_openNode_78 ?_
      refine lv_iconst (v := I (-1)) C0.1 C0.2.1 dX1_openNode_81 rfl ?_
      obtain ⟨k19, e_k19, h⟩ := jn_s h
      have h_k19 : ∀ (x18 : Int) (i_x18 : in32 x18) (H : Heap) (locs : List Loc) (ls : Array Slot), EW D (va_A (wE g σ) sz) s.heap (wE g s15) H locs → lv_has ls 2 [(0, .ref (g.2 4))] → k19 x18 = some (r, σr) → W p l e (rmk 3) s m args below meth c H locs 0 0 (MQ below (QCi D (wE g σr) r (in32 r ∧ R32 σr) (va_A (wE g σ) sz)) args s 0 0 (va_A (wE g σ) sz)) (F0 m 98 ls [.int (I x18), .int (I v16), .ref (g.2 18)]) := by
        intro x18 i_x18 H locs ls hE hl h
        have h := (congrFun e_k19 x18).symm.trans h
        obtain ⟨s20, e_s20, hR, h⟩ := wr_s hR i_x18 h
        refine Reader_sidesOfParents_st C0 hE i_v16 e_s20 dX1_openNode_98 (fun H locs hE => ?_)
        refine lv_aload_n C0.1 C0.2.1 dX1_openNode_99 rfl (lv_at hl 0 rfl) ?_
        refine Reader_g_sidesRead C0 hE fk_X1_31 dX1_openNode_100 ?_
        refine lv_aload_n C0.1 C0.2.1 dX1_openNode_103 rfl (lv_at hl 0 rfl) ?_
        obtain ⟨v21, e_v21, i_v21, h⟩ := gf_s hR h
        refine Reader_g_many C0 hE e_v21 fk_X1_50 dX1_openNode_104 ?_
        refine lv_iconst (v := I 0) C0.1 C0.2.1 dX1_openNode_107 rfl ?_
        obtain ⟨s22, e_s22, hR, h⟩ := wr_s hR lit_0 h
        refine Reader_sidesRead_st C0 hE i_v21 e_s22 dX1_openNode_108 (fun H locs hE => ?_)
        refine lv_aload_n C0.1 C0.2.1 dX1_openNode_109 rfl (lv_at hl 0 rfl) ?_
        refine lv_aload_n C0.1 C0.2.1 dX1_openNode_110 rfl (lv_at hl 0 rfl) ?_
        obtain ⟨v23, e_v23, i_v23, h⟩ := gf_s hR h
        refine Reader_g_many C0 hE e_v23 fk_X1_50 dX1_openNode_111 ?_
        obtain ⟨s24, e_s24, hR, h⟩ := pf_s hR i_v23 h
        refine Reader_p_open C0 hE e_s24 fk_X1_53 dX1_openNode_114 (fun H locs hE => ?_)
        refine lv_aload_n C0.1 C0.2.1 dX1_openNode_117 rfl (lv_at hl 0 rfl) ?_
        refine lv_dup C0.1 C0.2.1 dX1_openNode_118 rfl ?_
        obtain ⟨v25, e_v25, i_v25, h⟩ := gf_s hR h
        refine Reader_g_many C0 hE e_v25 fk_X1_50 dX1_openNode_119 ?_
        refine lv_iconst (v := I 1) C0.1 C0.2.1 dX1_openNode_122 rfl ?_
        obtain ⟨v26, e_v26, i_v26, h⟩ := oadd_s h
        refine x_add C0 e_v26 dX1_openNode_123 ?_
        obtain ⟨s27, e_s27, hR, h⟩ := pf_s hR i_v26 h
        refine Reader_p_many C0 hE e_s27 fk_X1_50 dX1_openNode_124 (fun H locs hE => ?_)
        refine lv_iconst (v := I 1) C0.1 C0.2.1 dX1_openNode_127 rfl ?_
        exact ret_z (wf := wE g) C0 hr hlk hE (Or.inr rfl) h hR dX1_openNode_128
      refine x_icmp_ne C0 i_v17 lit_m1 dX1_openNode_82 (tgt := 89) (by decide) (fun c9 => ?_) (fun c9 => ?_)
      · have h := ite_f c9 h
        refine lv_aload_n C0.1 C0.2.1 dX1_openNode_89 rfl (lv_at hl 1 rfl) ?_
        refine Reader_g_sidesRead C0 hE fk_X1_31 dX1_openNode_90 ?_
        refine lv_aload_n C0.1 C0.2.1 dX1_openNode_93 rfl (lv_at hl 1 rfl) ?_
        obtain ⟨v28, e_v28, i_v28, h⟩ := gf_s hR h
        refine Reader_g_open C0 hE e_v28 fk_X1_53 dX1_openNode_94 ?_
        obtain ⟨v29, e_v29, i_v29, h⟩ := rd_s hR h
        refine Reader_sidesRead_l C0 hE i_v28 e_v29 dX1_openNode_97 ?_
        exact h_k19 v29 i_v29 _ _ _ hE (lv_sub hl [1] rfl) h
      · have h := ite_t c9 h
        refine lv_iconst (v := I 0) C0.1 C0.2.1 dX1_openNode_85 rfl ?_
        refine x_goto C0 dX1_openNode_86 (tgt := 98) (by decide) ?_
        exact h_k19 0 lit_0 _ _ _ hE (lv_sub hl [1] rfl) h
    · have h := ite_f c9 h
      refine lv_iconst (v := I 0) C0.1 C0.2.1 dX1_openNode_31 rfl ?_
      exact ret_z (wf := wE g) C0 hr hlk hE (Or.inl rfl) h hR dX1_openNode_32
set_option maxRecDepth 100000 in
set_option maxHeartbeats 4000000 in
theorem c_Reader_readPart (l : Launch) (D : va_G) (g : Ad) {σ σr : St} {r : Int} (hR : R32 σ) (h : Reader_readPart σ = some (r, σr)) : CtI l D g yX1_readPart cX1_readPart 2 (some .boolean) 4 (wE g σ) (wE g σr) [.ref (g.2 4)] r (in32 r ∧ R32 σr) := by
  intro sz
  refine met_of (by decide) (Nat.le_of_ble_eq_true rfl) (fun p e s m args below meth c ls H locs C0 hml hr hlk hE hl => ?_)
  have C0 : CX p c cX1_readPart m s args D g RX1 := C0
  have hl : lv_has ls 2 [(0, .ref (g.2 4))] := hl
  unfold Reader_readPart at h
  refine lv_aload_n C0.1 C0.2.1 dX1_readPart_0 rfl (lv_at hl 0 rfl) ?_
  refine Reader_g_text C0 hE fk_X1_12 dX1_readPart_1 ?_
  refine lv_aload_n C0.1 C0.2.1 dX1_readPart_4 rfl (lv_at hl 0 rfl) ?_
  obtain ⟨v1, e_v1, i_v1, h⟩ := gf_s hR h
  refine Reader_g_at C0 hE e_v1 fk_X1_43 dX1_readPart_5 ?_
  obtain ⟨v2, h_v2, h⟩ := bndp_s h
  refine callV_i (rest := []) C0 hml hE (Text_rec C0 hE) (c_Text_signAt l D g hR i_v1 h_v2) kw_X1_65 ⟨Nat.le_of_ble_eq_true rfl, Nat.le_of_ble_eq_true rfl⟩ rfl hl.1 rfl (Nat.le_of_ble_eq_true rfl) dX1_readPart_8 ⟨Nat.zero_le _, Nat.zero_le _⟩ (fun H locs hE i_v2 => ?_)
  refine lv_istore_n (lv' := [(1, .int (I v2)), (0, .ref (g.2 4))]) C0.1 C0.2.1 dX1_readPart_11 rfl hl (by decide) rfl (fun ls hl => ?_)
  refine lv_aload_n C0.1 C0.2.1 dX1_readPart_12 rfl (lv_at hl 1 rfl) ?_
  obtain ⟨v3, e_v3, i_v3, h⟩ := gf_s hR h
  refine Reader_g_open C0 hE e_v3 fk_X1_53 dX1_readPart_13 ?_
  refine lv_iconst (v := I (-1)) C0.1 C0.2.1 dX1_readPart_16 rfl ?_
  obtain ⟨k4, e_k4, h⟩ := jn_s h
  have h_k4 : ∀ (H : Heap) (locs : List Loc) (ls : Array Slot), EW D (va_A (wE g σ) sz) s.heap (wE g σ) H locs → lv_has ls 2 [(0, .ref (g.2 4)), (1, .int (I v2))] → k4 = some (r, σr) → W p l e (rmk 4) s m args below meth c H locs 0 0 (MQ below (QCi D (wE g σr) r (in32 r ∧ R32 σr) (va_A (wE g σ) sz)) args s 0 0 (va_A (wE g σ) sz)) (F0 m 52 ls []) := by
    intro H locs ls hE hl h
    have h := e_k4.symm.trans h
    refine lv_iload_n C0.1 C0.2.1 dX1_readPart_52 rfl (lv_at hl 1 rfl) ?_
    refine lv_bipush (v := I 46) C0.1 C0.2.1 dX1_readPart_53 (by decide +kernel) ?_
    refine x_icmp_ne C0 i_v2 lit_46 dX1_readPart_55 (tgt := 75) (by decide) (fun c9 => ?_) (fun c9 => ?_)
    · have h := ite_f c9 h
      refine lv_iload_n C0.1 C0.2.1 dX1_readPart_75 rfl (lv_at hl 1 rfl) ?_
      refine lv_bipush (v := I 40) C0.1 C0.2.1 dX1_readPart_76 (by decide +kernel) ?_
      refine x_icmp_ne C0 i_v2 lit_40 dX1_readPart_78 (tgt := 92) (by decide) (fun c9 => ?_) (fun c9 => ?_)
      · have h := ite_f c9 h
        refine lv_iconst (v := I 0) C0.1 C0.2.1 dX1_readPart_92 rfl ?_
        exact ret_z (wf := wE g) C0 hr hlk hE (Or.inl rfl) h hR dX1_readPart_93
      · have h := ite_t c9 h
        refine lv_aload_n C0.1 C0.2.1 dX1_readPart_81 rfl (lv_at hl 0 rfl) ?_
        obtain ⟨v5, s6, h_v5, h⟩ := bnd_s h
        refine callV_i (rest := []) C0 hml hE (Reader_rec C0 hE) (c_Reader_openNode l D g hR h_v5) kw_X1_83 ⟨Nat.le_of_ble_eq_true rfl, Nat.le_of_ble_eq_true rfl⟩ rfl hl.1 rfl (Nat.le_of_ble_eq_true rfl) dX1_readPart_82 ⟨Nat.zero_le _, Nat.zero_le _⟩ (fun H locs hE ⟨i_v5, hR⟩ => ?_)
        refine x_if_eq C0 i_v5 dX1_readPart_85 (tgt := 92) (by decide) (fun c9 => ?_) (fun c9 => ?_)
        · have h := ite_t c9 h
          refine lv_iconst (v := I 0) C0.1 C0.2.1 dX1_readPart_92 rfl ?_
          exact ret_z (wf := wE g) C0 hr hlk hE (Or.inl rfl) h hR dX1_readPart_93
        · have h := ite_f c9 h
          refine lv_iconst (v := I 1) C0.1 C0.2.1 dX1_readPart_88 rfl ?_
          refine x_goto C0 dX1_readPart_89 (tgt := 93) (by decide) ?_
          exact ret_z (wf := wE g) C0 hr hlk hE (Or.inr rfl) h hR dX1_readPart_93
    · have h := ite_t c9 h
      refine lv_aload_n C0.1 C0.2.1 dX1_readPart_58 rfl (lv_at hl 0 rfl) ?_
      refine lv_dup C0.1 C0.2.1 dX1_readPart_59 rfl ?_
      obtain ⟨v7, e_v7, i_v7, h⟩ := gf_s hR h
      refine Reader_g_at C0 hE e_v7 fk_X1_43 dX1_readPart_60 ?_
      refine lv_iconst (v := I 1) C0.1 C0.2.1 dX1_readPart_63 rfl ?_
      obtain ⟨v8, e_v8, i_v8, h⟩ := oadd_s h
      refine x_add C0 e_v8 dX1_readPart_64 ?_
      obtain ⟨s9, e_s9, hR, h⟩ := pf_s hR i_v8 h
      refine Reader_p_at C0 hE e_s9 fk_X1_43 dX1_readPart_65 (fun H locs hE => ?_)
      refine lv_aload_n C0.1 C0.2.1 dX1_readPart_68 rfl (lv_at hl 0 rfl) ?_
      refine lv_iconst (v := I 0) C0.1 C0.2.1 dX1_readPart_69 rfl ?_
      obtain ⟨v10, s11, h_v10, h⟩ := bnd_s h
      refine callV_v (rest := []) C0 hml hE (Reader_rec C0 hE) (c_Reader_settle l D g hR lit_0 h_v10) kw_X1_79 ⟨Nat.le_of_ble_eq_true rfl, Nat.le_of_ble_eq_true rfl⟩ rfl hl.1 rfl (Nat.le_of_ble_eq_true rfl) dX1_readPart_70 ⟨Nat.zero_le _, Nat.zero_le _⟩ (fun H locs hE hR => ?_)
      refine lv_iconst (v := I 1) C0.1 C0.2.1 dX1_readPart_73 rfl ?_
      exact ret_z (wf := wE g) C0 hr hlk hE (Or.inr rfl) h hR dX1_readPart_74
  refine x_icmp_eq C0 i_v3 lit_m1 dX1_readPart_17 (tgt := 52) (by decide) (fun c9 => ?_) (fun c9 => ?_)
  · have h := ite_t c9 h
    exact h_k4 _ _ _ hE (lv_sub hl [1, 0] rfl) h
  · have h := ite_f c9 h
    refine lv_aload_n C0.1 C0.2.1 dX1_readPart_20 rfl (lv_at hl 1 rfl) ?_
    refine Reader_g_sidesRead C0 hE fk_X1_31 dX1_readPart_21 ?_
    refine lv_aload_n C0.1 C0.2.1 dX1_readPart_24 rfl (lv_at hl 1 rfl) ?_
    obtain ⟨v12, e_v12, i_v12, h⟩ := gf_s hR h
    refine Reader_g_open C0 hE e_v12 fk_X1_53 dX1_readPart_25 ?_
    obtain ⟨v13, e_v13, i_v13, h⟩ := rd_s hR h
    refine Reader_sidesRead_l C0 hE i_v12 e_v13 dX1_readPart_28 ?_
    refine lv_iconst (v := I 2) C0.1 C0.2.1 dX1_readPart_29 rfl ?_
    refine x_icmp_ne C0 i_v13 lit_2 dX1_readPart_30 (tgt := 52) (by decide) (fun c9 => ?_) (fun c9 => ?_)
    · have h := ite_f c9 h
      exact h_k4 _ _ _ hE (lv_sub hl [1, 0] rfl) h
    · have h := ite_t c9 h
      refine lv_iload_n C0.1 C0.2.1 dX1_readPart_33 rfl (lv_at hl 0 rfl) ?_
      refine lv_bipush (v := I 41) C0.1 C0.2.1 dX1_readPart_34 (by decide +kernel) ?_
      refine x_icmp_ne C0 i_v2 lit_41 dX1_readPart_36 (tgt := 50) (by decide) (fun c9 => ?_) (fun c9 => ?_)
      · have h := ite_f c9 h
        refine lv_iconst (v := I 0) C0.1 C0.2.1 dX1_readPart_50 rfl ?_
        exact ret_z (wf := wE g) C0 hr hlk hE (Or.inl rfl) h hR dX1_readPart_51
      · have h := ite_t c9 h
        refine lv_aload_n C0.1 C0.2.1 dX1_readPart_39 rfl (lv_at hl 1 rfl) ?_
        obtain ⟨v14, s15, h_v14, h⟩ := bnd_s h
        refine callV_i (rest := []) C0 hml hE (Reader_rec C0 hE) (c_Reader_close l D g hR h_v14) kw_X1_76 ⟨Nat.le_of_ble_eq_true rfl, Nat.le_of_ble_eq_true rfl⟩ rfl hl.1 rfl (Nat.le_of_ble_eq_true rfl) dX1_readPart_40 ⟨Nat.zero_le _, Nat.zero_le _⟩ (fun H locs hE ⟨i_v14, hR⟩ => ?_)
        refine x_if_eq C0 i_v14 dX1_readPart_43 (tgt := 50) (by decide) (fun c9 => ?_) (fun c9 => ?_)
        · have h := ite_t c9 h
          refine lv_iconst (v := I 0) C0.1 C0.2.1 dX1_readPart_50 rfl ?_
          exact ret_z (wf := wE g) C0 hr hlk hE (Or.inl rfl) h hR dX1_readPart_51
        · have h := ite_f c9 h
          refine lv_iconst (v := I 1) C0.1 C0.2.1 dX1_readPart_46 rfl ?_
          refine x_goto C0 dX1_readPart_47 (tgt := 51) (by decide) ?_
          exact ret_z (wf := wE g) C0 hr hlk hE (Or.inr rfl) h hR dX1_readPart_51
set_option maxRecDepth 100000 in
set_option maxHeartbeats 4000000 in
theorem c_Reader_readTree (l : Launch) (D : va_G) (g : Ad) {σ σr : St} {r : Int} (hR : R32 σ) (h : Reader_readTree σ = some (r, σr)) : CtI l D g yX1_readTree cX1_readTree 2 (some .boolean) 5 (wE g σ) (wE g σr) [.ref (g.2 4)] r (in32 r ∧ R32 σr) := by
  intro sz
  refine met_of (by decide) (Nat.le_of_ble_eq_true rfl) (fun p e s m args below meth c ls H locs C0 hml hr hlk hE hl => ?_)
  have C0 : CX p c cX1_readTree m s args D g RX1 := C0
  have hl : lv_has ls 2 [(0, .ref (g.2 4))] := hl
  unfold Reader_readTree at h
  refine lv_aload_n C0.1 C0.2.1 dX1_readTree_0 rfl (lv_at hl 0 rfl) ?_
  refine lv_iconst (v := I 0) C0.1 C0.2.1 dX1_readTree_1 rfl ?_
  obtain ⟨s1, e_s1, hR, h⟩ := pf_s hR lit_0 h
  refine Reader_p_at C0 hE e_s1 fk_X1_43 dX1_readTree_2 (fun H locs hE => ?_)
  refine lv_aload_n C0.1 C0.2.1 dX1_readTree_5 rfl (lv_at hl 0 rfl) ?_
  refine lv_iconst (v := I 0) C0.1 C0.2.1 dX1_readTree_6 rfl ?_
  obtain ⟨s2, e_s2, hR, h⟩ := pf_s hR lit_0 h
  refine Reader_p_many C0 hE e_s2 fk_X1_50 dX1_readTree_7 (fun H locs hE => ?_)
  refine lv_aload_n C0.1 C0.2.1 dX1_readTree_10 rfl (lv_at hl 0 rfl) ?_
  refine lv_iconst (v := I (-1)) C0.1 C0.2.1 dX1_readTree_11 rfl ?_
  obtain ⟨s3, e_s3, hR, h⟩ := pf_s hR lit_m1 h
  refine Reader_p_open C0 hE e_s3 fk_X1_53 dX1_readTree_12 (fun H locs hE => ?_)
  refine lv_aload_n C0.1 C0.2.1 dX1_readTree_15 rfl (lv_at hl 0 rfl) ?_
  refine lv_iconst (v := I 0) C0.1 C0.2.1 dX1_readTree_16 rfl ?_
  obtain ⟨s4, e_s4, hR, h⟩ := pfZ_s hR h
  refine Reader_p_whole C0 hE e_s4.2 e_s4.1 fk_X1_56 dX1_readTree_17 (fun H locs hE => ?_)
  refine lv_iconst (v := I 0) C0.1 C0.2.1 dX1_readTree_20 rfl ?_
  refine lv_istore_n (lv' := [(1, .int (I 0)), (0, .ref (g.2 4))]) C0.1 C0.2.1 dX1_readTree_21 rfl hl (by decide) rfl (fun ls hl => ?_)
  obtain ⟨k6, e_k6, h⟩ := jn_s h
  have h_k6 : ∀ (s5 : St) (hR : R32 s5) (H : Heap) (locs : List Loc) (ls : Array Slot), EW D (va_A (wE g σ) sz) s.heap (wE g s5) H locs → lv_has ls 2 [(0, .ref (g.2 4))] → k6 s5 = some (r, σr) → W p l e (rmk 5) s m args below meth c H locs 0 0 (MQ below (QCi D (wE g σr) r (in32 r ∧ R32 σr) (va_A (wE g σ) sz)) args s 0 0 (va_A (wE g σ) sz)) (F0 m 51 ls []) := by
    intro s5 hR H locs ls hE hl h
    have h := (congrFun e_k6 s5).symm.trans h
    refine lv_aload_n C0.1 C0.2.1 dX1_readTree_51 rfl (lv_at hl 0 rfl) ?_
    obtain ⟨v7, e_v7, i_v7, h⟩ := gf_s hR h
    refine Reader_g_whole C0 hE e_v7 fk_X1_56 dX1_readTree_52 ?_
    refine x_if_eq C0 i_v7 dX1_readTree_55 (tgt := 76) (by decide) (fun c9 => ?_) (fun c9 => ?_)
    · have h := ite_t c9 h
      refine lv_iconst (v := I 0) C0.1 C0.2.1 dX1_readTree_76 rfl ?_
      exact ret_z (wf := wE g) C0 hr hlk hE (Or.inl rfl) h hR dX1_readTree_77
    · have h := ite_f c9 h
      refine lv_aload_n C0.1 C0.2.1 dX1_readTree_58 rfl (lv_at hl 0 rfl) ?_
      obtain ⟨v8, e_v8, i_v8, h⟩ := gf_s hR h
      refine Reader_g_at C0 hE e_v8 fk_X1_43 dX1_readTree_59 ?_
      refine lv_aload_n C0.1 C0.2.1 dX1_readTree_62 rfl (lv_at hl 0 rfl) ?_
      refine Reader_g_text C0 hE fk_X1_12 dX1_readTree_63 ?_
      obtain ⟨v9, e_v9, i_v9, h⟩ := gf_s hR h
      refine Text_n_many C0 hE e_v9 nk_X1_60 dX1_readTree_66 ?_
      refine x_icmp_ne C0 i_v8 i_v9 dX1_readTree_69 (tgt := 76) (by decide) (fun c9 => ?_) (fun c9 => ?_)
      · have h := ite_f c9 h
        refine lv_iconst (v := I 0) C0.1 C0.2.1 dX1_readTree_76 rfl ?_
        exact ret_z (wf := wE g) C0 hr hlk hE (Or.inl rfl) h hR dX1_readTree_77
      · have h := ite_t c9 h
        refine lv_iconst (v := I 1) C0.1 C0.2.1 dX1_readTree_72 rfl ?_
        refine x_goto C0 dX1_readTree_73 (tgt := 77) (by decide) ?_
        exact ret_z (wf := wE g) C0 hr hlk hE (Or.inr rfl) h hR dX1_readTree_77
  have hL22 : ∀ (n : Nat) (s11 : St) (hR : R32 s11) (x10 : Int) (i_x10 : in32 x10) (H : Heap) (locs : List Loc) (ls : Array Slot), EW D (va_A (wE g σ) sz) s.heap (wE g s11) H locs → lv_has ls 2 [(0, .ref (g.2 4)), (1, .int (I x10))] → Reader_readTree_L22 k6 n s11 x10 = some (r, σr) → W p l e (rmk 5) s m args below meth c H locs 0 0 (MQ below (QCi D (wE g σr) r (in32 r ∧ R32 σr) (va_A (wE g σ) sz)) args s 0 0 (va_A (wE g σ) sz)) (F0 m 22 ls []) := by
    intro n
    induction n with
    | zero => intros; rename_i h; cases h
    | succ n ih12 =>
      intro s11 hR x10 i_x10 H locs ls hE hl h
      unfold Reader_readTree_L22 at h
      refine lv_iload_n C0.1 C0.2.1 dX1_readTree_22 rfl (lv_at hl 1 rfl) ?_
      refine lv_sipush (v := I 200) C0.1 C0.2.1 dX1_readTree_23 (by decide +kernel) ?_
      refine x_icmp_gt C0 i_x10 lit_200 dX1_readTree_26 (tgt := 51) (by decide) (fun c9 => ?_) (fun c9 => ?_)
      · have h := ite_t c9 h
        exact h_k6 s11 hR _ _ _ hE (lv_sub hl [0] rfl) h
      · have h := ite_f c9 h
        refine lv_aload_n C0.1 C0.2.1 dX1_readTree_29 rfl (lv_at hl 0 rfl) ?_
        obtain ⟨v13, e_v13, i_v13, h⟩ := gf_s hR h
        refine Reader_g_whole C0 hE e_v13 fk_X1_56 dX1_readTree_30 ?_
        refine x_if_ne C0 i_v13 dX1_readTree_33 (tgt := 51) (by decide) (fun c9 => ?_) (fun c9 => ?_)
        · have h := ite_f c9 h
          exact h_k6 s11 hR _ _ _ hE (lv_sub hl [0] rfl) h
        · have h := ite_t c9 h
          refine lv_aload_n C0.1 C0.2.1 dX1_readTree_36 rfl (lv_at hl 0 rfl) ?_
          obtain ⟨v14, s15, h_v14, h⟩ := bnd_s h
          refine callV_i (rest := []) C0 hml hE (Reader_rec C0 hE) (c_Reader_readPart l D g hR h_v14) kw_X1_73 ⟨Nat.le_of_ble_eq_true rfl, Nat.le_of_ble_eq_true rfl⟩ rfl hl.1 rfl (Nat.le_of_ble_eq_true rfl) dX1_readTree_37 ⟨Nat.zero_le _, Nat.zero_le _⟩ (fun H locs hE ⟨i_v14, hR⟩ => ?_)
          refine x_if_ne C0 i_v14 dX1_readTree_40 (tgt := 45) (by decide) (fun c9 => ?_) (fun c9 => ?_)
          · have h := ite_f c9 h
            obtain ⟨v16, e_v16, i_v16, h⟩ := oadd_s h
            refine x_iinc (lv' := [(1, .int (I v16)), (0, .ref (g.2 4))]) C0 dX1_readTree_45 hl (k := 1) rfl e_v16 (by decide) rfl (fun ls hl => ?_)
            refine x_goto C0 dX1_readTree_48 (tgt := 22) (by decide) ?_
            exact ih12 s15 hR v16 i_v16 _ _ _ hE (lv_sub hl [1, 0] rfl) h
          · have h := ite_t c9 h
            refine lv_iconst (v := I 0) C0.1 C0.2.1 dX1_readTree_43 rfl ?_
            exact ret_z (wf := wE g) C0 hr hlk hE (Or.inl rfl) h hR dX1_readTree_44
  exact hL22 FU s4 hR 0 lit_0 _ _ _ hE (lv_sub hl [1, 0] rfl) h
